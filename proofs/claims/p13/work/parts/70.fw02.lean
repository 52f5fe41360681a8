def fw_16 (a1 : Int) (a2 : Int) (Q : Int → lf_Z → Prop) (s : lf_Z) : Prop := lf_R (s.1 1 0) → ((s.1 1 0 < 12 → ((0 ≤ s.1 1 0 ∧ s.1 1 0 < 12) → (Q (((s.1 1 0) + 1) - 1) (lf_up (lf_up (lf_up s.1 2 (s.1 1 0) a1) 3 (s.1 1 0) a2) 1 0 ((s.1 1 0) + 1), s.2.1, s.2.2)))) ∧ (¬ (s.1 1 0 < 12) → (Q (-1) s)))
theorem cj_16 {Q1 Q2 Q3 : Int → lf_Z → Prop} {a1 : Int} {a2 : Int} {s : lf_Z} (hQ : ∀ (r : Int) (s : lf_Z), Q1 r s → Q2 r s → Q3 r s) (h1 : fm_16 a1 a2 Q1 s) (h2 : fw_16 a1 a2 Q2 s) : fm_16 a1 a2 Q3 s := by
  unfold fm_16 at h1 ⊢
  unfold fw_16 at h2
  exact ⟨h1.1, ⟨(fun c2 => ⟨(h1.2.1 c2).1, hQ _ _  (h1.2.1 c2).2 (((h2 h1.1).1 c2) (h1.2.1 c2).1)⟩), (fun c2 => hQ _ _  (h1.2.2 c2) ((h2 h1.1).2 c2))⟩⟩
def fw_14 (a1 : Int) (a2 : Int) (Q : Int → lf_Z → Prop) (s : lf_Z) : Prop := fw_15 a1 0 3 (fun z22 s21 => ((z22 = false → (Q (-1) s21)) ∧ (z22 = true → (fw_15 a2 0 99 (fun z24 s23 => ((z24 = true → (fw_16 a1 a2 (fun r26 s25 => (Q r26 s25)) s23)) ∧ (z24 = false → (Q (-1) s23)))) s21)))) s
theorem cj_14 {Q1 Q2 Q3 : Int → lf_Z → Prop} {a1 : Int} {a2 : Int} {s : lf_Z} (hQ : ∀ (r : Int) (s : lf_Z), Q1 r s → Q2 r s → Q3 r s) (h1 : fm_14 a1 a2 Q1 s) (h2 : fw_14 a1 a2 Q2 s) : fm_14 a1 a2 Q3 s := by
  unfold fm_14 at h1 ⊢
  unfold fw_14 at h2
  exact cj_15 (fun z22 s21 k1 l1 => ⟨(fun c2 => hQ _ _  (k1.1 c2) (l1.1 c2)), (fun c2 => cj_15 (fun z24 s23 k4 l4 => ⟨(fun c5 => cj_16 (fun r26 s25 k6 l6 => hQ _ _  k6 l6) (k4.1 c5) (l4.1 c5)), (fun c5 => hQ _ _  (k4.2 c5) (l4.2 c5))⟩) (k1.2 c2) (l1.2 c2))⟩) h1 h2
def fw_182 (a1 : Int) (a2 : Int) (Q : Int → lf_Z → Prop) (s : lf_Z) : Prop := fw_183 a1 0 3 (fun z22 s21 => ((z22 = false → (Q (-1) s21)) ∧ (z22 = true → (fw_183 a2 0 99 (fun z24 s23 => ((z24 = false → (Q (-1) s23)) ∧ (z24 = true → (lf_R (s23.1 96 0) → ((s23.1 96 0 ≠ 12 → ((0 ≤ 14 + (3 * (s23.1 96 0)) ∧ 14 + (3 * (s23.1 96 0)) < 1538) → ((0 ≤ (14 + (3 * (s23.1 96 0))) + 1 ∧ (14 + (3 * (s23.1 96 0))) + 1 < 1538) → ((0 ≤ (14 + (3 * (s23.1 96 0))) + 2 ∧ (14 + (3 * (s23.1 96 0))) + 2 < 1538) → (Q ((((lf_up (lf_up (lf_up s23.1 96 (14 + (3 * (s23.1 96 0))) a1) 96 ((14 + (3 * (s23.1 96 0))) + 1) a2) 96 ((14 + (3 * (s23.1 96 0))) + 2) 0) 96 0) + 1) - 1) (lf_up (lf_up (lf_up (lf_up s23.1 96 (14 + (3 * (s23.1 96 0))) a1) 96 ((14 + (3 * (s23.1 96 0))) + 1) a2) 96 ((14 + (3 * (s23.1 96 0))) + 2) 0) 96 0 (((lf_up (lf_up (lf_up s23.1 96 (14 + (3 * (s23.1 96 0))) a1) 96 ((14 + (3 * (s23.1 96 0))) + 1) a2) 96 ((14 + (3 * (s23.1 96 0))) + 2) 0) 96 0) + 1), s23.2.1, s23.2.2)))))) ∧ (¬ (s23.1 96 0 ≠ 12) → (Q (-1) s23))))))) s21)))) s
theorem cj_182 {Q1 Q2 Q3 : Int → lf_Z → Prop} {a1 : Int} {a2 : Int} {s : lf_Z} (hQ : ∀ (r : Int) (s : lf_Z), Q1 r s → Q2 r s → Q3 r s) (h1 : fm_182 a1 a2 Q1 s) (h2 : fw_182 a1 a2 Q2 s) : fm_182 a1 a2 Q3 s := by
  unfold fm_182 at h1 ⊢
  unfold fw_182 at h2
  exact cj_183 (fun z22 s21 k1 l1 => ⟨(fun c2 => hQ _ _  (k1.1 c2) (l1.1 c2)), (fun c2 => cj_183 (fun z24 s23 k4 l4 => ⟨(fun c5 => hQ _ _  (k4.1 c5) (l4.1 c5)), (fun c5 => ⟨(k4.2 c5).1, ⟨(fun c8 => ⟨((k4.2 c5).2.1 c8).1, ⟨((k4.2 c5).2.1 c8).2.1, ⟨((k4.2 c5).2.1 c8).2.2.1, hQ _ _  ((k4.2 c5).2.1 c8).2.2.2 ((((((l4.2 c5) (k4.2 c5).1).1 c8) ((k4.2 c5).2.1 c8).1) ((k4.2 c5).2.1 c8).2.1) ((k4.2 c5).2.1 c8).2.2.1)⟩⟩⟩), (fun c8 => hQ _ _  ((k4.2 c5).2.2 c8) (((l4.2 c5) (k4.2 c5).1).2 c8))⟩⟩)⟩) (k1.2 c2) (l1.2 c2))⟩) h1 h2
def fw_18 (a1 : Int) (Q : Bool → lf_Z → Prop) (s : lf_Z) : Prop := lf_R a1 → ((a1 < 0 → (Q false s)) ∧ (¬ (a1 < 0) → (lf_R (s.1 1 0) → ((s.1 1 0 ≤ a1 → (Q false s)) ∧ (¬ (s.1 1 0 ≤ a1) → (Q true s))))))
theorem cj_18 {Q1 Q2 Q3 : Bool → lf_Z → Prop} {a1 : Int} {s : lf_Z} (hQ : ∀ (r : Bool) (s : lf_Z), Q1 r s → Q2 r s → Q3 r s) (h1 : fm_18 a1 Q1 s) (h2 : fw_18 a1 Q2 s) : fm_18 a1 Q3 s := by
  unfold fm_18 at h1 ⊢
  unfold fw_18 at h2
  exact ⟨h1.1, ⟨(fun c2 => hQ _ _  (h1.2.1 c2) ((h2 h1.1).1 c2)), (fun c2 => ⟨(h1.2.2 c2).1, ⟨(fun c5 => hQ _ _  ((h1.2.2 c2).2.1 c5) ((((h2 h1.1).2 c2) (h1.2.2 c2).1).1 c5)), (fun c5 => hQ _ _  ((h1.2.2 c2).2.2 c5) ((((h2 h1.1).2 c2) (h1.2.2 c2).1).2 c5))⟩⟩)⟩⟩
def fw_21 (a1 : Int) (a2 : Int) (Q : lf_Z → Prop) (s : lf_Z) : Prop := (0 ≤ a1 ∧ a1 < 12) → (lf_R (s.1 12 a1) → ((4 ≤ s.1 12 a1 → (Q s)) ∧ (¬ (4 ≤ s.1 12 a1) → ((0 ≤ (a1 * 4) + (s.1 12 a1) ∧ (a1 * 4) + (s.1 12 a1) < 48) → (Q (lf_up (lf_up s.1 11 ((a1 * 4) + (s.1 12 a1)) a2) 12 a1 ((s.1 12 a1) + 1), s.2.1, s.2.2))))))
theorem cj_21 {Q1 Q2 Q3 : lf_Z → Prop} {a1 : Int} {a2 : Int} {s : lf_Z} (hQ : ∀ (s : lf_Z), Q1 s → Q2 s → Q3 s) (h1 : fm_21 a1 a2 Q1 s) (h2 : fw_21 a1 a2 Q2 s) : fm_21 a1 a2 Q3 s := by
  unfold fm_21 at h1 ⊢
  unfold fw_21 at h2
  exact ⟨h1.1, ⟨h1.2.1, ⟨(fun c3 => hQ _  (h1.2.2.1 c3) (((h2 h1.1) h1.2.1).1 c3)), (fun c3 => ⟨(h1.2.2.2 c3).1, hQ _  (h1.2.2.2 c3).2 ((((h2 h1.1) h1.2.1).2 c3) (h1.2.2.2 c3).1)⟩)⟩⟩⟩
def fw_22_p22 (X3 : Int → lf_Z → Prop) (Q : lf_Z → Prop) (x2 : Int) (x3 : Int) (x4 : Int) (x5 : Int) (X22 : Int → lf_Z → Prop) (x6 : Int) (s : lf_Z) : Prop := lf_R x6 → (lf_R (s.1 1 0) → ((s.1 1 0 ≤ x6 → (X3 (x4 + 1) s)) ∧ (¬ (s.1 1 0 ≤ x6) → ((0 ≤ x5 + x2 ∧ x5 + x2 < 144) → ((0 ≤ (x3 * 12) + x6 ∧ (x3 * 12) + x6 < 144) → ((0 ≤ x5 + x3 ∧ x5 + x3 < 144) → ((0 ≤ (x2 * 12) + x6 ∧ (x2 * 12) + x6 < 144) → ((0 ≤ x5 + x6 ∧ x5 + x6 < 144) → (lf_R (((s.1 13 (x5 + x2)) + 1) + (s.1 13 ((x3 * 12) + x6))) → (lf_R (((s.1 13 (x5 + x3)) + 1) + (s.1 13 ((x2 * 12) + x6))) → (lf_R (s.1 13 (x5 + x6)) → (lf_R (min (((s.1 13 (x5 + x2)) + 1) + (s.1 13 ((x3 * 12) + x6))) (((s.1 13 (x5 + x3)) + 1) + (s.1 13 ((x2 * 12) + x6)))) → (X22 (x6 + 1) (lf_up s.1 13 (x5 + x6) (min (s.1 13 (x5 + x6)) (min (((s.1 13 (x5 + x2)) + 1) + (s.1 13 ((x3 * 12) + x6))) (((s.1 13 (x5 + x3)) + 1) + (s.1 13 ((x2 * 12) + x6))))), s.2.1, s.2.2))))))))))))))
theorem cj_22_p22 {X31 X32 X33 : Int → lf_Z → Prop} {X221 X222 X223 : Int → lf_Z → Prop} {Q1 Q2 Q3 : lf_Z → Prop} {x2 : Int} {x3 : Int} {x4 : Int} {x5 : Int} {x6 : Int} {s : lf_Z} (hX3 : ∀ (v0 : Int) (v1 : lf_Z), X31 v0 v1 → X32 v0 v1 → X33 v0 v1) (hX22 : ∀ (v0 : Int) (v1 : lf_Z), X221 v0 v1 → X222 v0 v1 → X223 v0 v1) (hQ : ∀ (s : lf_Z), Q1 s → Q2 s → Q3 s) (h1 : fm_22_p22 X31 Q1 x2 x3 x4 x5 X221 x6 s) (h2 : fw_22_p22 X32 Q2 x2 x3 x4 x5 X222 x6 s) : fm_22_p22 X33 Q3 x2 x3 x4 x5 X223 x6 s := by
  unfold fm_22_p22 at h1 ⊢
  unfold fw_22_p22 at h2
  exact ⟨h1.1, ⟨h1.2.1, ⟨(fun c3 => hX3 _ _  (h1.2.2.1 c3) (((h2 h1.1) h1.2.1).1 c3)), (fun c3 => ⟨(h1.2.2.2 c3).1, ⟨(h1.2.2.2 c3).2.1, ⟨(h1.2.2.2 c3).2.2.1, ⟨(h1.2.2.2 c3).2.2.2.1, ⟨(h1.2.2.2 c3).2.2.2.2.1, ⟨(h1.2.2.2 c3).2.2.2.2.2.1, ⟨(h1.2.2.2 c3).2.2.2.2.2.2.1, ⟨(h1.2.2.2 c3).2.2.2.2.2.2.2.1, ⟨(h1.2.2.2 c3).2.2.2.2.2.2.2.2.1, hX22 _ _  (h1.2.2.2 c3).2.2.2.2.2.2.2.2.2 ((((((((((((h2 h1.1) h1.2.1).2 c3) (h1.2.2.2 c3).1) (h1.2.2.2 c3).2.1) (h1.2.2.2 c3).2.2.1) (h1.2.2.2 c3).2.2.2.1) (h1.2.2.2 c3).2.2.2.2.1) (h1.2.2.2 c3).2.2.2.2.2.1) (h1.2.2.2 c3).2.2.2.2.2.2.1) (h1.2.2.2 c3).2.2.2.2.2.2.2.1) (h1.2.2.2 c3).2.2.2.2.2.2.2.2.1)⟩⟩⟩⟩⟩⟩⟩⟩⟩)⟩⟩⟩
def fw_22_p22L (X3 : Int → lf_Z → Prop) (Q : lf_Z → Prop) (x2 : Int) (x3 : Int) (x4 : Int) (x5 : Int) (x6 : Int) (s : lf_Z) : Prop := ∃ X22 : Int → lf_Z → Prop, (∀ (x6 : Int) (s : lf_Z), X22 x6 s → fw_22_p22 X3 Q x2 x3 x4 x5 X22 x6 s) ∧ X22 x6 s
theorem cj_22_p22L {X31 X32 X33 : Int → lf_Z → Prop} {Q1 Q2 Q3 : lf_Z → Prop} {x2 : Int} {x3 : Int} {x4 : Int} {x5 : Int} {x6 : Int} {s : lf_Z} (hX3 : ∀ (v0 : Int) (v1 : lf_Z), X31 v0 v1 → X32 v0 v1 → X33 v0 v1) (hQ : ∀ (s : lf_Z), Q1 s → Q2 s → Q3 s) (h1 : fm_22_p22L X31 Q1 x2 x3 x4 x5 x6 s) (h2 : fw_22_p22L X32 Q2 x2 x3 x4 x5 x6 s) : fm_22_p22L X33 Q3 x2 x3 x4 x5 x6 s := by
  intro X0 hX0
  obtain ⟨Y, hY, hY0⟩ := h2
  exact h1 (fun v0 s => Y v0 s → X0 v0 s) (fun v0 s hb hy => hX0 v0 s (cj_22_p22 (hX3 := hX3) (X221 := fun v0 s => Y v0 s → X0 v0 s) (X222 := Y) (X223 := X0) (hX22 := fun v0 s a b => a b) hQ hb (hY v0 s hy))) hY0
def fw_22_p3 (Q : lf_Z → Prop) (x2 : Int) (x3 : Int) (X3 : Int → lf_Z → Prop) (x4 : Int) (s : lf_Z) : Prop := lf_R x4 → (lf_R (s.1 1 0) → ((s.1 1 0 ≤ x4 → (Q s)) ∧ (¬ (s.1 1 0 ≤ x4) → (fw_22_p22L X3 Q x2 x3 x4 (x4 * 12) 0 s))))
theorem cj_22_p3 {X31 X32 X33 : Int → lf_Z → Prop} {Q1 Q2 Q3 : lf_Z → Prop} {x2 : Int} {x3 : Int} {x4 : Int} {s : lf_Z} (hX3 : ∀ (v0 : Int) (v1 : lf_Z), X31 v0 v1 → X32 v0 v1 → X33 v0 v1) (hQ : ∀ (s : lf_Z), Q1 s → Q2 s → Q3 s) (h1 : fm_22_p3 Q1 x2 x3 X31 x4 s) (h2 : fw_22_p3 Q2 x2 x3 X32 x4 s) : fm_22_p3 Q3 x2 x3 X33 x4 s := by
  unfold fm_22_p3 at h1 ⊢
  unfold fw_22_p3 at h2
  exact ⟨h1.1, ⟨h1.2.1, ⟨(fun c3 => hQ _  (h1.2.2.1 c3) (((h2 h1.1) h1.2.1).1 c3)), (fun c3 => cj_22_p22L hX3 hQ (h1.2.2.2 c3) (((h2 h1.1) h1.2.1).2 c3))⟩⟩⟩
def fw_22_p3L (Q : lf_Z → Prop) (x2 : Int) (x3 : Int) (x4 : Int) (s : lf_Z) : Prop := ∃ X3 : Int → lf_Z → Prop, (∀ (x4 : Int) (s : lf_Z), X3 x4 s → fw_22_p3 Q x2 x3 X3 x4 s) ∧ X3 x4 s
theorem cj_22_p3L {Q1 Q2 Q3 : lf_Z → Prop} {x2 : Int} {x3 : Int} {x4 : Int} {s : lf_Z} (hQ : ∀ (s : lf_Z), Q1 s → Q2 s → Q3 s) (h1 : fm_22_p3L Q1 x2 x3 x4 s) (h2 : fw_22_p3L Q2 x2 x3 x4 s) : fm_22_p3L Q3 x2 x3 x4 s := by
  intro X0 hX0
  obtain ⟨Y, hY, hY0⟩ := h2
  exact h1 (fun v0 s => Y v0 s → X0 v0 s) (fun v0 s hb hy => hX0 v0 s (cj_22_p3 (X31 := fun v0 s => Y v0 s → X0 v0 s) (X32 := Y) (X33 := X0) (hX3 := fun v0 s a b => a b) hQ hb (hY v0 s hy))) hY0
def fw_22 (a2 : Int) (a3 : Int) (Q : lf_Z → Prop) (s : lf_Z) : Prop := fw_22_p3L Q a2 a3 0 s
theorem cj_22 {Q1 Q2 Q3 : lf_Z → Prop} {a2 : Int} {a3 : Int} {s : lf_Z} (hQ : ∀ (s : lf_Z), Q1 s → Q2 s → Q3 s) (h1 : fm_22 a2 a3 Q1 s) (h2 : fw_22 a2 a3 Q2 s) : fm_22 a2 a3 Q3 s := by
  unfold fm_22 at h1 ⊢
  unfold fw_22 at h2
  exact cj_22_p3L hQ h1 h2
def fw_20 (a1 : Int) (Q : lf_Z → Prop) (s : lf_Z) : Prop := (0 ≤ a1 ∧ a1 < 16) → (fw_21 (s.1 4 a1) a1 (fun s22 => (fw_21 (s22.1 5 a1) a1 (fun s23 => (fw_22 (s23.1 4 a1) (s23.1 5 a1) (fun s24 => (Q s24)) s23)) s22)) s)
theorem cj_20 {Q1 Q2 Q3 : lf_Z → Prop} {a1 : Int} {s : lf_Z} (hQ : ∀ (s : lf_Z), Q1 s → Q2 s → Q3 s) (h1 : fm_20 a1 Q1 s) (h2 : fw_20 a1 Q2 s) : fm_20 a1 Q3 s := by
  unfold fm_20 at h1 ⊢
  unfold fw_20 at h2
  exact ⟨h1.1, cj_21 (fun s22 k2 l2 => cj_21 (fun s23 k3 l3 => cj_22 (fun s24 k4 l4 => hQ _  k4 l4) k3 l3) k2 l2) h1.2 (h2 h1.1)⟩
def fw_19 (a1 : Int) (a2 : Int) (a3 : Int) (Q : Int → lf_Z → Prop) (s : lf_Z) : Prop := lf_R (s.1 1 1) → ((16 ≤ s.1 1 1 → (Q (-1) s)) ∧ (¬ (16 ≤ s.1 1 1) → ((0 ≤ a1 ∧ a1 < 12) → (lf_R (s.1 12 a1) → ((4 ≤ s.1 12 a1 → (Q (-1) s)) ∧ (¬ (4 ≤ s.1 12 a1) → ((0 ≤ a2 ∧ a2 < 12) → (lf_R (s.1 12 a2) → ((s.1 12 a2 < 4 → ((0 ≤ s.1 1 1 ∧ s.1 1 1 < 16) → ((a3 = 0 ∨ a3 = 1) → (fw_20 (((s.1 1 1) + 1) - 1) (fun s28 => (Q ((s28.1 1 1) - 1) s28)) (lf_up (lf_up (lf_up (lf_up s.1 4 (s.1 1 1) a1) 5 (s.1 1 1) a2) 6 (s.1 1 1) a3) 1 1 ((s.1 1 1) + 1), s.2.1, s.2.2))))) ∧ (¬ (s.1 12 a2 < 4) → (Q (-1) s)))))))))))
theorem cj_19 {Q1 Q2 Q3 : Int → lf_Z → Prop} {a1 : Int} {a2 : Int} {a3 : Int} {s : lf_Z} (hQ : ∀ (r : Int) (s : lf_Z), Q1 r s → Q2 r s → Q3 r s) (h1 : fm_19 a1 a2 a3 Q1 s) (h2 : fw_19 a1 a2 a3 Q2 s) : fm_19 a1 a2 a3 Q3 s := by
  unfold fm_19 at h1 ⊢
  unfold fw_19 at h2
  exact ⟨h1.1, ⟨(fun c2 => hQ _ _  (h1.2.1 c2) ((h2 h1.1).1 c2)), (fun c2 => ⟨(h1.2.2 c2).1, ⟨(h1.2.2 c2).2.1, ⟨(fun c6 => hQ _ _  ((h1.2.2 c2).2.2.1 c6) (((((h2 h1.1).2 c2) (h1.2.2 c2).1) (h1.2.2 c2).2.1).1 c6)), (fun c6 => ⟨((h1.2.2 c2).2.2.2 c6).1, ⟨((h1.2.2 c2).2.2.2 c6).2.1, ⟨(fun c10 => ⟨(((h1.2.2 c2).2.2.2 c6).2.2.1 c10).1, ⟨(((h1.2.2 c2).2.2.2 c6).2.2.1 c10).2.1, cj_20 (fun s28 k13 l13 => hQ _ _  k13 l13) (((h1.2.2 c2).2.2.2 c6).2.2.1 c10).2.2 ((((((((((h2 h1.1).2 c2) (h1.2.2 c2).1) (h1.2.2 c2).2.1).2 c6) ((h1.2.2 c2).2.2.2 c6).1) ((h1.2.2 c2).2.2.2 c6).2.1).1 c10) (((h1.2.2 c2).2.2.2 c6).2.2.1 c10).1) (((h1.2.2 c2).2.2.2 c6).2.2.1 c10).2.1)⟩⟩), (fun c10 => hQ _ _  (((h1.2.2 c2).2.2.2 c6).2.2.2 c10) ((((((((h2 h1.1).2 c2) (h1.2.2 c2).1) (h1.2.2 c2).2.1).2 c6) ((h1.2.2 c2).2.2.2 c6).1) ((h1.2.2 c2).2.2.2 c6).2.1).2 c10))⟩⟩⟩)⟩⟩⟩)⟩⟩
def fw_17 (a1 : Int) (a2 : Int) (a3 : Int) (Q : Int → lf_Z → Prop) (s : lf_Z) : Prop := fw_18 a1 (fun z22 s21 => ((z22 = false → (Q (-1) s21)) ∧ (z22 = true → (fw_18 a2 (fun z24 s23 => ((z24 = false → (Q (-1) s23)) ∧ (z24 = true → (lf_R a1 → (lf_R a2 → ((a1 ≠ a2 → (fw_19 a1 a2 a3 (fun r28 s27 => (Q r28 s27)) s23)) ∧ (¬ (a1 ≠ a2) → (Q (-1) s23)))))))) s21)))) s
theorem cj_17 {Q1 Q2 Q3 : Int → lf_Z → Prop} {a1 : Int} {a2 : Int} {a3 : Int} {s : lf_Z} (hQ : ∀ (r : Int) (s : lf_Z), Q1 r s → Q2 r s → Q3 r s) (h1 : fm_17 a1 a2 a3 Q1 s) (h2 : fw_17 a1 a2 a3 Q2 s) : fm_17 a1 a2 a3 Q3 s := by
  unfold fm_17 at h1 ⊢
  unfold fw_17 at h2
  exact cj_18 (fun z22 s21 k1 l1 => ⟨(fun c2 => hQ _ _  (k1.1 c2) (l1.1 c2)), (fun c2 => cj_18 (fun z24 s23 k4 l4 => ⟨(fun c5 => hQ _ _  (k4.1 c5) (l4.1 c5)), (fun c5 => ⟨(k4.2 c5).1, ⟨(k4.2 c5).2.1, ⟨(fun c9 => cj_19 (fun r28 s27 k10 l10 => hQ _ _  k10 l10) ((k4.2 c5).2.2.1 c9) ((((l4.2 c5) (k4.2 c5).1) (k4.2 c5).2.1).1 c9)), (fun c9 => hQ _ _  ((k4.2 c5).2.2.2 c9) ((((l4.2 c5) (k4.2 c5).1) (k4.2 c5).2.1).2 c9))⟩⟩⟩)⟩) (k1.2 c2) (l1.2 c2))⟩) h1 h2
def fw_185 (a1 : Int) (Q : Bool → lf_Z → Prop) (s : lf_Z) : Prop := fw_183 a1 0 ((s.1 96 0) - 1) (fun z22 s21 => (Q z22 s21)) s
theorem cj_185 {Q1 Q2 Q3 : Bool → lf_Z → Prop} {a1 : Int} {s : lf_Z} (hQ : ∀ (r : Bool) (s : lf_Z), Q1 r s → Q2 r s → Q3 r s) (h1 : fm_185 a1 Q1 s) (h2 : fw_185 a1 Q2 s) : fm_185 a1 Q3 s := by
  unfold fm_185 at h1 ⊢
  unfold fw_185 at h2
  exact cj_183 (fun z22 s21 k1 l1 => hQ _ _  k1 l1) h1 h2
def fw_187 (a1 : Int) (a2 : Int) (Q : Int → lf_Z → Prop) (s : lf_Z) : Prop := (0 ≤ 50 + (4 * a1) ∧ 50 + (4 * a1) < 1538) → ((0 ≤ (50 + (4 * a1)) + 1 ∧ (50 + (4 * a1)) + 1 < 1538) → (lf_R (s.1 96 (50 + (4 * a1))) → (lf_R a2 → ((s.1 96 (50 + (4 * a1)) ≠ a2 → (lf_R (s.1 96 ((50 + (4 * a1)) + 1)) → ((s.1 96 ((50 + (4 * a1)) + 1) ≠ a2 → (Q (-1) s)) ∧ (¬ (s.1 96 ((50 + (4 * a1)) + 1) ≠ a2) → (Q (s.1 96 (50 + (4 * a1))) s))))) ∧ (¬ (s.1 96 (50 + (4 * a1)) ≠ a2) → (Q (s.1 96 ((50 + (4 * a1)) + 1)) s))))))
theorem cj_187 {Q1 Q2 Q3 : Int → lf_Z → Prop} {a1 : Int} {a2 : Int} {s : lf_Z} (hQ : ∀ (r : Int) (s : lf_Z), Q1 r s → Q2 r s → Q3 r s) (h1 : fm_187 a1 a2 Q1 s) (h2 : fw_187 a1 a2 Q2 s) : fm_187 a1 a2 Q3 s := by
  unfold fm_187 at h1 ⊢
  unfold fw_187 at h2
  exact ⟨h1.1, ⟨h1.2.1, ⟨h1.2.2.1, ⟨h1.2.2.2.1, ⟨(fun c5 => ⟨(h1.2.2.2.2.1 c5).1, ⟨(fun c7 => hQ _ _  ((h1.2.2.2.2.1 c5).2.1 c7) (((((((h2 h1.1) h1.2.1) h1.2.2.1) h1.2.2.2.1).1 c5) (h1.2.2.2.2.1 c5).1).1 c7)), (fun c7 => hQ _ _  ((h1.2.2.2.2.1 c5).2.2 c7) (((((((h2 h1.1) h1.2.1) h1.2.2.1) h1.2.2.2.1).1 c5) (h1.2.2.2.2.1 c5).1).2 c7))⟩⟩), (fun c5 => hQ _ _  (h1.2.2.2.2.2 c5) (((((h2 h1.1) h1.2.1) h1.2.2.1) h1.2.2.2.1).2 c5))⟩⟩⟩⟩⟩
def fw_186_p31 (X4 : Int → Int → lf_Z → Prop) (Q : Int → lf_Z → Prop) (x1 : Int) (x3 : Int) (y0 : Int) (y1 : Int) (s : lf_Z) : Prop := X4 (lf_or y0 y1) (x3 + 1) s
theorem cj_186_p31 {X41 X42 X43 : Int → Int → lf_Z → Prop} {Q1 Q2 Q3 : Int → lf_Z → Prop} {x1 : Int} {x3 : Int} {y0 : Int} {y1 : Int} {s : lf_Z} (hX4 : ∀ (v0 : Int) (v1 : Int) (v2 : lf_Z), X41 v0 v1 v2 → X42 v0 v1 v2 → X43 v0 v1 v2) (hQ : ∀ (r : Int) (s : lf_Z), Q1 r s → Q2 r s → Q3 r s) (h1 : fm_186_p31 X41 Q1 x1 x3 y0 y1 s) (h2 : fw_186_p31 X42 Q2 x1 x3 y0 y1 s) : fm_186_p31 X43 Q3 x1 x3 y0 y1 s := by
  unfold fm_186_p31 at h1 ⊢
  unfold fw_186_p31 at h2
  exact hX4 _ _ _  h1 h2
def fw_186_p4 (Q : Int → lf_Z → Prop) (x1 : Int) (X4 : Int → Int → lf_Z → Prop) (x2 : Int) (x3 : Int) (s : lf_Z) : Prop := lf_R x3 → (lf_R (s.1 96 1) → ((s.1 96 1 ≤ x3 → (Q x2 s)) ∧ (¬ (s.1 96 1 ≤ x3) → (fw_187 x3 x1 (fun r24 s23 => (lf_R r24 → ((r24 < 0 → (fw_186_p31 X4 Q x1 x3 x2 0 s23)) ∧ (¬ (r24 < 0) → (fw_186_p31 X4 Q x1 x3 x2 (lf_shl 1 x3) s23))))) s))))
theorem cj_186_p4 {X41 X42 X43 : Int → Int → lf_Z → Prop} {Q1 Q2 Q3 : Int → lf_Z → Prop} {x1 : Int} {x2 : Int} {x3 : Int} {s : lf_Z} (hX4 : ∀ (v0 : Int) (v1 : Int) (v2 : lf_Z), X41 v0 v1 v2 → X42 v0 v1 v2 → X43 v0 v1 v2) (hQ : ∀ (r : Int) (s : lf_Z), Q1 r s → Q2 r s → Q3 r s) (h1 : fm_186_p4 Q1 x1 X41 x2 x3 s) (h2 : fw_186_p4 Q2 x1 X42 x2 x3 s) : fm_186_p4 Q3 x1 X43 x2 x3 s := by
  unfold fm_186_p4 at h1 ⊢
  unfold fw_186_p4 at h2
  exact ⟨h1.1, ⟨h1.2.1, ⟨(fun c3 => hQ _ _  (h1.2.2.1 c3) (((h2 h1.1) h1.2.1).1 c3)), (fun c3 => cj_187 (fun r24 s23 k5 l5 => ⟨k5.1, ⟨(fun c7 => cj_186_p31 hX4 hQ (k5.2.1 c7) ((l5 k5.1).1 c7)), (fun c7 => cj_186_p31 hX4 hQ (k5.2.2 c7) ((l5 k5.1).2 c7))⟩⟩) (h1.2.2.2 c3) (((h2 h1.1) h1.2.1).2 c3))⟩⟩⟩
def fw_186_p4L (Q : Int → lf_Z → Prop) (x1 : Int) (x2 : Int) (x3 : Int) (s : lf_Z) : Prop := ∃ X4 : Int → Int → lf_Z → Prop, (∀ (x2 : Int) (x3 : Int) (s : lf_Z), X4 x2 x3 s → fw_186_p4 Q x1 X4 x2 x3 s) ∧ X4 x2 x3 s
theorem cj_186_p4L {Q1 Q2 Q3 : Int → lf_Z → Prop} {x1 : Int} {x2 : Int} {x3 : Int} {s : lf_Z} (hQ : ∀ (r : Int) (s : lf_Z), Q1 r s → Q2 r s → Q3 r s) (h1 : fm_186_p4L Q1 x1 x2 x3 s) (h2 : fw_186_p4L Q2 x1 x2 x3 s) : fm_186_p4L Q3 x1 x2 x3 s := by
  intro X0 hX0
  obtain ⟨Y, hY, hY0⟩ := h2
  exact h1 (fun v0 v1 s => Y v0 v1 s → X0 v0 v1 s) (fun v0 v1 s hb hy => hX0 v0 v1 s (cj_186_p4 (X41 := fun v0 v1 s => Y v0 v1 s → X0 v0 v1 s) (X42 := Y) (X43 := X0) (hX4 := fun v0 v1 s a b => a b) hQ hb (hY v0 v1 s hy))) hY0
def fw_186 (a1 : Int) (Q : Int → lf_Z → Prop) (s : lf_Z) : Prop := fw_186_p4L Q a1 0 0 s
theorem cj_186 {Q1 Q2 Q3 : Int → lf_Z → Prop} {a1 : Int} {s : lf_Z} (hQ : ∀ (r : Int) (s : lf_Z), Q1 r s → Q2 r s → Q3 r s) (h1 : fm_186 a1 Q1 s) (h2 : fw_186 a1 Q2 s) : fm_186 a1 Q3 s := by
  unfold fm_186 at h1 ⊢
  unfold fw_186 at h2
  exact cj_186_p4L hQ h1 h2
def fw_188_p4 (Q : Int → lf_Z → Prop) (x0 : Int) (X4 : Int → Int → lf_Z → Prop) (x1 : Int) (x2 : Int) (s : lf_Z) : Prop := lf_R x2 → ((16 ≤ x2 → (Q x1 s)) ∧ (¬ (16 ≤ x2) → (X4 (x1 + (lf_and (lf_shr x0 x2) 1)) (x2 + 1) s)))
theorem cj_188_p4 {X41 X42 X43 : Int → Int → lf_Z → Prop} {Q1 Q2 Q3 : Int → lf_Z → Prop} {x0 : Int} {x1 : Int} {x2 : Int} {s : lf_Z} (hX4 : ∀ (v0 : Int) (v1 : Int) (v2 : lf_Z), X41 v0 v1 v2 → X42 v0 v1 v2 → X43 v0 v1 v2) (hQ : ∀ (r : Int) (s : lf_Z), Q1 r s → Q2 r s → Q3 r s) (h1 : fm_188_p4 Q1 x0 X41 x1 x2 s) (h2 : fw_188_p4 Q2 x0 X42 x1 x2 s) : fm_188_p4 Q3 x0 X43 x1 x2 s := by
  unfold fm_188_p4 at h1 ⊢
  unfold fw_188_p4 at h2
  exact ⟨h1.1, ⟨(fun c2 => hQ _ _  (h1.2.1 c2) ((h2 h1.1).1 c2)), (fun c2 => hX4 _ _ _  (h1.2.2 c2) ((h2 h1.1).2 c2))⟩⟩
def fw_188_p4L (Q : Int → lf_Z → Prop) (x0 : Int) (x1 : Int) (x2 : Int) (s : lf_Z) : Prop := ∃ X4 : Int → Int → lf_Z → Prop, (∀ (x1 : Int) (x2 : Int) (s : lf_Z), X4 x1 x2 s → fw_188_p4 Q x0 X4 x1 x2 s) ∧ X4 x1 x2 s
theorem cj_188_p4L {Q1 Q2 Q3 : Int → lf_Z → Prop} {x0 : Int} {x1 : Int} {x2 : Int} {s : lf_Z} (hQ : ∀ (r : Int) (s : lf_Z), Q1 r s → Q2 r s → Q3 r s) (h1 : fm_188_p4L Q1 x0 x1 x2 s) (h2 : fw_188_p4L Q2 x0 x1 x2 s) : fm_188_p4L Q3 x0 x1 x2 s := by
  intro X0 hX0
  obtain ⟨Y, hY, hY0⟩ := h2
  exact h1 (fun v0 v1 s => Y v0 v1 s → X0 v0 v1 s) (fun v0 v1 s hb hy => hX0 v0 v1 s (cj_188_p4 (X41 := fun v0 v1 s => Y v0 v1 s → X0 v0 v1 s) (X42 := Y) (X43 := X0) (hX4 := fun v0 v1 s a b => a b) hQ hb (hY v0 v1 s hy))) hY0
def fw_188 (a0 : Int) (Q : Int → lf_Z → Prop) (s : lf_Z) : Prop := fw_188_p4L Q a0 0 0 s
theorem cj_188 {Q1 Q2 Q3 : Int → lf_Z → Prop} {a0 : Int} {s : lf_Z} (hQ : ∀ (r : Int) (s : lf_Z), Q1 r s → Q2 r s → Q3 r s) (h1 : fm_188 a0 Q1 s) (h2 : fw_188 a0 Q2 s) : fm_188 a0 Q3 s := by
  unfold fm_188 at h1 ⊢
  unfold fw_188 at h2
  exact cj_188_p4L hQ h1 h2
def fw_184_p106 (Q : Int → lf_Z → Prop) (x4 : Int) (y1 : Int) (y2 : Int) (s : lf_Z) : Prop := (0 ≤ y1 ∧ y1 < 1538) → ((0 ≤ x4 + 3 ∧ x4 + 3 < 1538) → ((0 ≤ 174 + (5 * ((lf_up (lf_up s.1 96 y1 y2) 96 (x4 + 3) 1) 96 1)) ∧ 174 + (5 * ((lf_up (lf_up s.1 96 y1 y2) 96 (x4 + 3) 1) 96 1)) < 1538) → (Q ((((lf_up (lf_up (lf_up s.1 96 y1 y2) 96 (x4 + 3) 1) 96 (174 + (5 * ((lf_up (lf_up s.1 96 y1 y2) 96 (x4 + 3) 1) 96 1))) 0) 96 1) + 1) - 1) (lf_up (lf_up (lf_up (lf_up s.1 96 y1 y2) 96 (x4 + 3) 1) 96 (174 + (5 * ((lf_up (lf_up s.1 96 y1 y2) 96 (x4 + 3) 1) 96 1))) 0) 96 1 (((lf_up (lf_up (lf_up s.1 96 y1 y2) 96 (x4 + 3) 1) 96 (174 + (5 * ((lf_up (lf_up s.1 96 y1 y2) 96 (x4 + 3) 1) 96 1))) 0) 96 1) + 1), s.2.1, s.2.2))))
theorem cj_184_p106 {Q1 Q2 Q3 : Int → lf_Z → Prop} {x4 : Int} {y1 : Int} {y2 : Int} {s : lf_Z} (hQ : ∀ (r : Int) (s : lf_Z), Q1 r s → Q2 r s → Q3 r s) (h1 : fm_184_p106 Q1 x4 y1 y2 s) (h2 : fw_184_p106 Q2 x4 y1 y2 s) : fm_184_p106 Q3 x4 y1 y2 s := by
  unfold fm_184_p106 at h1 ⊢
  unfold fw_184_p106 at h2
  exact ⟨h1.1, ⟨h1.2.1, ⟨h1.2.2.1, hQ _ _  h1.2.2.2 (((h2 h1.1) h1.2.1) h1.2.2.1)⟩⟩⟩
def fw_184 (a1 : Int) (a2 : Int) (a3 : Int) (Q : Int → lf_Z → Prop) (s : lf_Z) : Prop := fw_185 a1 (fun z22 s21 => ((z22 = false → (Q (-1) s21)) ∧ (z22 = true → (fw_185 a2 (fun z24 s23 => ((z24 = false → (Q (-1) s23)) ∧ (z24 = true → (lf_R a1 → (lf_R a2 → ((a1 = a2 → (Q (-1) s23)) ∧ (¬ (a1 = a2) → (fw_186 a1 (fun r28 s27 => (fw_188 r28 (fun r30 s29 => (lf_R r30 → ((r30 = 4 → (Q (-1) s29)) ∧ (¬ (r30 = 4) → (fw_186 a2 (fun r33 s32 => (fw_188 r33 (fun r35 s34 => (lf_R r35 → ((r35 = 4 → (Q (-1) s34)) ∧ (¬ (r35 = 4) → (lf_R (s34.1 96 1) → ((s34.1 96 1 ≠ 16 → ((0 ≤ 50 + (4 * (s34.1 96 1)) ∧ 50 + (4 * (s34.1 96 1)) < 1538) → ((0 ≤ (50 + (4 * (s34.1 96 1))) + 1 ∧ (50 + (4 * (s34.1 96 1))) + 1 < 1538) → (lf_R a3 → ((a3 = 0 → (fw_184_p106 Q (50 + (4 * (s34.1 96 1))) ((50 + (4 * (s34.1 96 1))) + 2) 0 (lf_up (lf_up s34.1 96 (50 + (4 * (s34.1 96 1))) a1) 96 ((50 + (4 * (s34.1 96 1))) + 1) a2, s34.2.1, s34.2.2))) ∧ (¬ (a3 = 0) → (fw_184_p106 Q (50 + (4 * (s34.1 96 1))) ((50 + (4 * (s34.1 96 1))) + 2) 1 (lf_up (lf_up s34.1 96 (50 + (4 * (s34.1 96 1))) a1) 96 ((50 + (4 * (s34.1 96 1))) + 1) a2, s34.2.1, s34.2.2)))))))) ∧ (¬ (s34.1 96 1 ≠ 16) → (Q (-1) s34)))))))) s32)) s29))))) s27)) s23)))))))) s21)))) s
theorem cj_184 {Q1 Q2 Q3 : Int → lf_Z → Prop} {a1 : Int} {a2 : Int} {a3 : Int} {s : lf_Z} (hQ : ∀ (r : Int) (s : lf_Z), Q1 r s → Q2 r s → Q3 r s) (h1 : fm_184 a1 a2 a3 Q1 s) (h2 : fw_184 a1 a2 a3 Q2 s) : fm_184 a1 a2 a3 Q3 s := by
  unfold fm_184 at h1 ⊢
  unfold fw_184 at h2
  exact cj_185 (fun z22 s21 k1 l1 => ⟨(fun c2 => hQ _ _  (k1.1 c2) (l1.1 c2)), (fun c2 => cj_185 (fun z24 s23 k4 l4 => ⟨(fun c5 => hQ _ _  (k4.1 c5) (l4.1 c5)), (fun c5 => ⟨(k4.2 c5).1, ⟨(k4.2 c5).2.1, ⟨(fun c9 => hQ _ _  ((k4.2 c5).2.2.1 c9) ((((l4.2 c5) (k4.2 c5).1) (k4.2 c5).2.1).1 c9)), (fun c9 => cj_186 (fun r28 s27 k11 l11 => cj_188 (fun r30 s29 k12 l12 => ⟨k12.1, ⟨(fun c14 => hQ _ _  (k12.2.1 c14) ((l12 k12.1).1 c14)), (fun c14 => cj_186 (fun r33 s32 k16 l16 => cj_188 (fun r35 s34 k17 l17 => ⟨k17.1, ⟨(fun c19 => hQ _ _  (k17.2.1 c19) ((l17 k17.1).1 c19)), (fun c19 => ⟨(k17.2.2 c19).1, ⟨(fun c22 => ⟨((k17.2.2 c19).2.1 c22).1, ⟨((k17.2.2 c19).2.1 c22).2.1, ⟨((k17.2.2 c19).2.1 c22).2.2.1, ⟨(fun c26 => cj_184_p106 hQ (((k17.2.2 c19).2.1 c22).2.2.2.1 c26) ((((((((l17 k17.1).2 c19) (k17.2.2 c19).1).1 c22) ((k17.2.2 c19).2.1 c22).1) ((k17.2.2 c19).2.1 c22).2.1) ((k17.2.2 c19).2.1 c22).2.2.1).1 c26)), (fun c26 => cj_184_p106 hQ (((k17.2.2 c19).2.1 c22).2.2.2.2 c26) ((((((((l17 k17.1).2 c19) (k17.2.2 c19).1).1 c22) ((k17.2.2 c19).2.1 c22).1) ((k17.2.2 c19).2.1 c22).2.1) ((k17.2.2 c19).2.1 c22).2.2.1).2 c26))⟩⟩⟩⟩), (fun c22 => hQ _ _  ((k17.2.2 c19).2.2 c22) ((((l17 k17.1).2 c19) (k17.2.2 c19).1).2 c22))⟩⟩)⟩⟩) k16 l16) (k12.2.2 c14) ((l12 k12.1).2 c14))⟩⟩) k11 l11) ((k4.2 c5).2.2.2 c9) ((((l4.2 c5) (k4.2 c5).1) (k4.2 c5).2.1).2 c9))⟩⟩⟩)⟩) (k1.2 c2) (l1.2 c2))⟩) h1 h2
def fw_24 (a1 : Int) (a2 : Int) (a3 : Int) (a4 : Int) (Q : Int → lf_Z → Prop) (s : lf_Z) : Prop := lf_R (s.1 1 2) → ((s.1 1 2 < 6 → ((0 ≤ s.1 1 2 ∧ s.1 1 2 < 6) → ((a2 = 0 ∨ a2 = 1) → ((a3 = 0 ∨ a3 = 1) → (Q (((s.1 1 2) + 1) - 1) (lf_up (lf_up (lf_up (lf_up (lf_up s.1 7 (s.1 1 2) a1) 8 (s.1 1 2) a2) 9 (s.1 1 2) a3) 10 (s.1 1 2) a4) 1 2 ((s.1 1 2) + 1), s.2.1, s.2.2)))))) ∧ (¬ (s.1 1 2 < 6) → (Q (-1) s)))
theorem cj_24 {Q1 Q2 Q3 : Int → lf_Z → Prop} {a1 : Int} {a2 : Int} {a3 : Int} {a4 : Int} {s : lf_Z} (hQ : ∀ (r : Int) (s : lf_Z), Q1 r s → Q2 r s → Q3 r s) (h1 : fm_24 a1 a2 a3 a4 Q1 s) (h2 : fw_24 a1 a2 a3 a4 Q2 s) : fm_24 a1 a2 a3 a4 Q3 s := by
  unfold fm_24 at h1 ⊢
  unfold fw_24 at h2
  exact ⟨h1.1, ⟨(fun c2 => ⟨(h1.2.1 c2).1, ⟨(h1.2.1 c2).2.1, ⟨(h1.2.1 c2).2.2.1, hQ _ _  (h1.2.1 c2).2.2.2 (((((h2 h1.1).1 c2) (h1.2.1 c2).1) (h1.2.1 c2).2.1) (h1.2.1 c2).2.2.1)⟩⟩⟩), (fun c2 => hQ _ _  (h1.2.2 c2) ((h2 h1.1).2 c2))⟩⟩
def fw_23 (a1 : Int) (a2 : Int) (a3 : Int) (a4 : Int) (Q : Int → lf_Z → Prop) (s : lf_Z) : Prop := fw_15 a1 0 9 (fun z22 s21 => ((z22 = false → (Q (-1) s21)) ∧ (z22 = true → (fw_18 a4 (fun z24 s23 => ((z24 = true → (fw_24 a1 a2 a3 a4 (fun r26 s25 => (lf_R r26 → ((r26 = (-1) → (Q r26 s25)) ∧ (¬ (r26 = (-1)) → ((0 ≤ r26 ∧ r26 < 6) → (Q r26 (lf_up (lf_up s25.1 19 r26 a4) 20 r26 (-1), s25.2.1, s25.2.2))))))) s23)) ∧ (z24 = false → (Q (-1) s23)))) s21)))) s
theorem cj_23 {Q1 Q2 Q3 : Int → lf_Z → Prop} {a1 : Int} {a2 : Int} {a3 : Int} {a4 : Int} {s : lf_Z} (hQ : ∀ (r : Int) (s : lf_Z), Q1 r s → Q2 r s → Q3 r s) (h1 : fm_23 a1 a2 a3 a4 Q1 s) (h2 : fw_23 a1 a2 a3 a4 Q2 s) : fm_23 a1 a2 a3 a4 Q3 s := by
  unfold fm_23 at h1 ⊢
  unfold fw_23 at h2
  exact cj_15 (fun z22 s21 k1 l1 => ⟨(fun c2 => hQ _ _  (k1.1 c2) (l1.1 c2)), (fun c2 => cj_18 (fun z24 s23 k4 l4 => ⟨(fun c5 => cj_24 (fun r26 s25 k6 l6 => ⟨k6.1, ⟨(fun c8 => hQ _ _  (k6.2.1 c8) ((l6 k6.1).1 c8)), (fun c8 => ⟨(k6.2.2 c8).1, hQ _ _  (k6.2.2 c8).2 (((l6 k6.1).2 c8) (k6.2.2 c8).1)⟩)⟩⟩) (k4.1 c5) (l4.1 c5)), (fun c5 => hQ _ _  (k4.2 c5) (l4.2 c5))⟩) (k1.2 c2) (l1.2 c2))⟩) h1 h2
def fw_191 (a1 : Int) (a3 : Int) (Q : lf_Z → Prop) (s : lf_Z) : Prop := (0 ≤ (126 + (6 * a1)) + 0 ∧ (126 + (6 * a1)) + 0 < 1538) → (Q (lf_up s.1 96 ((126 + (6 * a1)) + 0) a3, s.2.1, s.2.2))
theorem cj_191 {Q1 Q2 Q3 : lf_Z → Prop} {a1 : Int} {a3 : Int} {s : lf_Z} (hQ : ∀ (s : lf_Z), Q1 s → Q2 s → Q3 s) (h1 : fm_191 a1 a3 Q1 s) (h2 : fw_191 a1 a3 Q2 s) : fm_191 a1 a3 Q3 s := by
  unfold fm_191 at h1 ⊢
  unfold fw_191 at h2
  exact ⟨h1.1, hQ _  h1.2 (h2 h1.1)⟩
def fw_191b (a1 : Int) (a3 : Int) (Q : lf_Z → Prop) (s : lf_Z) : Prop := (0 ≤ (126 + (6 * a1)) + 1 ∧ (126 + (6 * a1)) + 1 < 1538) → (Q (lf_up s.1 96 ((126 + (6 * a1)) + 1) a3, s.2.1, s.2.2))
theorem cj_191b {Q1 Q2 Q3 : lf_Z → Prop} {a1 : Int} {a3 : Int} {s : lf_Z} (hQ : ∀ (s : lf_Z), Q1 s → Q2 s → Q3 s) (h1 : fm_191b a1 a3 Q1 s) (h2 : fw_191b a1 a3 Q2 s) : fm_191b a1 a3 Q3 s := by
  unfold fm_191b at h1 ⊢
  unfold fw_191b at h2
  exact ⟨h1.1, hQ _  h1.2 (h2 h1.1)⟩
def fw_191c (a1 : Int) (a3 : Int) (Q : lf_Z → Prop) (s : lf_Z) : Prop := (0 ≤ (126 + (6 * a1)) + 2 ∧ (126 + (6 * a1)) + 2 < 1538) → (Q (lf_up s.1 96 ((126 + (6 * a1)) + 2) a3, s.2.1, s.2.2))
theorem cj_191c {Q1 Q2 Q3 : lf_Z → Prop} {a1 : Int} {a3 : Int} {s : lf_Z} (hQ : ∀ (s : lf_Z), Q1 s → Q2 s → Q3 s) (h1 : fm_191c a1 a3 Q1 s) (h2 : fw_191c a1 a3 Q2 s) : fm_191c a1 a3 Q3 s := by
  unfold fm_191c at h1 ⊢
  unfold fw_191c at h2
  exact ⟨h1.1, hQ _  h1.2 (h2 h1.1)⟩
def fw_191d (a1 : Int) (a3 : Int) (Q : lf_Z → Prop) (s : lf_Z) : Prop := (0 ≤ (126 + (6 * a1)) + 3 ∧ (126 + (6 * a1)) + 3 < 1538) → (Q (lf_up s.1 96 ((126 + (6 * a1)) + 3) a3, s.2.1, s.2.2))
theorem cj_191d {Q1 Q2 Q3 : lf_Z → Prop} {a1 : Int} {a3 : Int} {s : lf_Z} (hQ : ∀ (s : lf_Z), Q1 s → Q2 s → Q3 s) (h1 : fm_191d a1 a3 Q1 s) (h2 : fw_191d a1 a3 Q2 s) : fm_191d a1 a3 Q3 s := by
  unfold fm_191d at h1 ⊢
  unfold fw_191d at h2
  exact ⟨h1.1, hQ _  h1.2 (h2 h1.1)⟩
def fw_191e (a1 : Int) (a3 : Int) (Q : lf_Z → Prop) (s : lf_Z) : Prop := (0 ≤ (126 + (6 * a1)) + 4 ∧ (126 + (6 * a1)) + 4 < 1538) → (Q (lf_up s.1 96 ((126 + (6 * a1)) + 4) a3, s.2.1, s.2.2))
theorem cj_191e {Q1 Q2 Q3 : lf_Z → Prop} {a1 : Int} {a3 : Int} {s : lf_Z} (hQ : ∀ (s : lf_Z), Q1 s → Q2 s → Q3 s) (h1 : fm_191e a1 a3 Q1 s) (h2 : fw_191e a1 a3 Q2 s) : fm_191e a1 a3 Q3 s := by
  unfold fm_191e at h1 ⊢
  unfold fw_191e at h2
  exact ⟨h1.1, hQ _  h1.2 (h2 h1.1)⟩
def fw_191f (a1 : Int) (a3 : Int) (Q : lf_Z → Prop) (s : lf_Z) : Prop := (0 ≤ (126 + (6 * a1)) + 5 ∧ (126 + (6 * a1)) + 5 < 1538) → (Q (lf_up s.1 96 ((126 + (6 * a1)) + 5) a3, s.2.1, s.2.2))
theorem cj_191f {Q1 Q2 Q3 : lf_Z → Prop} {a1 : Int} {a3 : Int} {s : lf_Z} (hQ : ∀ (s : lf_Z), Q1 s → Q2 s → Q3 s) (h1 : fm_191f a1 a3 Q1 s) (h2 : fw_191f a1 a3 Q2 s) : fm_191f a1 a3 Q3 s := by
  unfold fm_191f at h1 ⊢
  unfold fw_191f at h2
  exact ⟨h1.1, hQ _  h1.2 (h2 h1.1)⟩
def fw_190 (a1 : Int) (a2 : Int) (a3 : Int) (a4 : Int) (Q : Int → lf_Z → Prop) (s : lf_Z) : Prop := fw_185 a4 (fun z22 s21 => ((z22 = false → (Q (-1) s21)) ∧ (z22 = true → (lf_R (s21.1 96 2) → ((s21.1 96 2 ≠ 6 → (fw_191 (s21.1 96 2) a1 (fun s24 => (fw_191b (s21.1 96 2) a2 (fun s25 => (fw_191c (s21.1 96 2) a3 (fun s26 => (fw_191d (s21.1 96 2) a4 (fun s27 => (fw_191e (s21.1 96 2) (-1) (fun s28 => (fw_191f (s21.1 96 2) a4 (fun s29 => (Q (s21.1 96 2) (lf_up s29.1 96 2 ((s29.1 96 2) + 1), s29.2.1, s29.2.2))) s28)) s27)) s26)) s25)) s24)) s21)) ∧ (¬ (s21.1 96 2 ≠ 6) → (Q (-1) s21))))))) s
theorem cj_190 {Q1 Q2 Q3 : Int → lf_Z → Prop} {a1 : Int} {a2 : Int} {a3 : Int} {a4 : Int} {s : lf_Z} (hQ : ∀ (r : Int) (s : lf_Z), Q1 r s → Q2 r s → Q3 r s) (h1 : fm_190 a1 a2 a3 a4 Q1 s) (h2 : fw_190 a1 a2 a3 a4 Q2 s) : fm_190 a1 a2 a3 a4 Q3 s := by
  unfold fm_190 at h1 ⊢
  unfold fw_190 at h2
  exact cj_185 (fun z22 s21 k1 l1 => ⟨(fun c2 => hQ _ _  (k1.1 c2) (l1.1 c2)), (fun c2 => ⟨(k1.2 c2).1, ⟨(fun c5 => cj_191 (fun s24 k6 l6 => cj_191b (fun s25 k7 l7 => cj_191c (fun s26 k8 l8 => cj_191d (fun s27 k9 l9 => cj_191e (fun s28 k10 l10 => cj_191f (fun s29 k11 l11 => hQ _ _  k11 l11) k10 l10) k9 l9) k8 l8) k7 l7) k6 l6) ((k1.2 c2).2.1 c5) (((l1.2 c2) (k1.2 c2).1).1 c5)), (fun c5 => hQ _ _  ((k1.2 c2).2.2 c5) (((l1.2 c2) (k1.2 c2).1).2 c5))⟩⟩)⟩) h1 h2
def fw_189_p30 (Q : Int → lf_Z → Prop) (x4 : Int) (y1 : Int) (y2 : Int) (y3 : Int) (s : lf_Z) : Prop := fw_190 y1 y2 y3 x4 (fun r26 s25 => (Q r26 s25)) s
theorem cj_189_p30 {Q1 Q2 Q3 : Int → lf_Z → Prop} {x4 : Int} {y1 : Int} {y2 : Int} {y3 : Int} {s : lf_Z} (hQ : ∀ (r : Int) (s : lf_Z), Q1 r s → Q2 r s → Q3 r s) (h1 : fm_189_p30 Q1 x4 y1 y2 y3 s) (h2 : fw_189_p30 Q2 x4 y1 y2 y3 s) : fm_189_p30 Q3 x4 y1 y2 y3 s := by
  unfold fm_189_p30 at h1 ⊢
  unfold fw_189_p30 at h2
  exact cj_190 (fun r26 s25 k1 l1 => hQ _ _  k1 l1) h1 h2
def fw_189_p21 (Q : Int → lf_Z → Prop) (x3 : Int) (x4 : Int) (y1 : Int) (y2 : Int) (s : lf_Z) : Prop := lf_R x3 → ((x3 = 0 → (fw_189_p30 Q x4 y1 y2 0 s)) ∧ (¬ (x3 = 0) → (fw_189_p30 Q x4 y1 y2 1 s)))
theorem cj_189_p21 {Q1 Q2 Q3 : Int → lf_Z → Prop} {x3 : Int} {x4 : Int} {y1 : Int} {y2 : Int} {s : lf_Z} (hQ : ∀ (r : Int) (s : lf_Z), Q1 r s → Q2 r s → Q3 r s) (h1 : fm_189_p21 Q1 x3 x4 y1 y2 s) (h2 : fw_189_p21 Q2 x3 x4 y1 y2 s) : fm_189_p21 Q3 x3 x4 y1 y2 s := by
  unfold fm_189_p21 at h1 ⊢
  unfold fw_189_p21 at h2
  exact ⟨h1.1, ⟨(fun c2 => cj_189_p30 hQ (h1.2.1 c2) ((h2 h1.1).1 c2)), (fun c2 => cj_189_p30 hQ (h1.2.2 c2) ((h2 h1.1).2 c2))⟩⟩
def fw_189 (a1 : Int) (a2 : Int) (a3 : Int) (a4 : Int) (Q : Int → lf_Z → Prop) (s : lf_Z) : Prop := fw_183 a1 0 9 (fun z22 s21 => ((z22 = false → (Q (-1) s21)) ∧ (z22 = true → (lf_R a2 → ((a2 = 0 → (fw_189_p21 Q a3 a4 a1 0 s21)) ∧ (¬ (a2 = 0) → (fw_189_p21 Q a3 a4 a1 1 s21))))))) s
theorem cj_189 {Q1 Q2 Q3 : Int → lf_Z → Prop} {a1 : Int} {a2 : Int} {a3 : Int} {a4 : Int} {s : lf_Z} (hQ : ∀ (r : Int) (s : lf_Z), Q1 r s → Q2 r s → Q3 r s) (h1 : fm_189 a1 a2 a3 a4 Q1 s) (h2 : fw_189 a1 a2 a3 a4 Q2 s) : fm_189 a1 a2 a3 a4 Q3 s := by
  unfold fm_189 at h1 ⊢
  unfold fw_189 at h2
  exact cj_183 (fun z22 s21 k1 l1 => ⟨(fun c2 => hQ _ _  (k1.1 c2) (l1.1 c2)), (fun c2 => ⟨(k1.2 c2).1, ⟨(fun c5 => cj_189_p21 hQ ((k1.2 c2).2.1 c5) (((l1.2 c2) (k1.2 c2).1).1 c5)), (fun c5 => cj_189_p21 hQ ((k1.2 c2).2.2 c5) (((l1.2 c2) (k1.2 c2).1).2 c5))⟩⟩)⟩) h1 h2
def fw_65_p10 (Q : Int → lf_Z → Prop) (x3 : Int) (X10 : Int → Int → lf_Z → Prop) (x1 : Int) (x4 : Int) (s : lf_Z) : Prop := lf_R x4 → (lf_R x3 → ((x3 ≤ x4 → (Q x1 s)) ∧ (¬ (x3 ≤ x4) → ((0 ≤ x4 ∧ x4 < 4) → (X10 (lf_w (x1 + (s.1 16 x4))) (x4 + 1) s)))))
theorem cj_65_p10 {X101 X102 X103 : Int → Int → lf_Z → Prop} {Q1 Q2 Q3 : Int → lf_Z → Prop} {x3 : Int} {x1 : Int} {x4 : Int} {s : lf_Z} (hX10 : ∀ (v0 : Int) (v1 : Int) (v2 : lf_Z), X101 v0 v1 v2 → X102 v0 v1 v2 → X103 v0 v1 v2) (hQ : ∀ (r : Int) (s : lf_Z), Q1 r s → Q2 r s → Q3 r s) (h1 : fm_65_p10 Q1 x3 X101 x1 x4 s) (h2 : fw_65_p10 Q2 x3 X102 x1 x4 s) : fm_65_p10 Q3 x3 X103 x1 x4 s := by
  unfold fm_65_p10 at h1 ⊢
  unfold fw_65_p10 at h2
  exact ⟨h1.1, ⟨h1.2.1, ⟨(fun c3 => hQ _ _  (h1.2.2.1 c3) (((h2 h1.1) h1.2.1).1 c3)), (fun c3 => ⟨(h1.2.2.2 c3).1, hX10 _ _ _  (h1.2.2.2 c3).2 ((((h2 h1.1) h1.2.1).2 c3) (h1.2.2.2 c3).1)⟩)⟩⟩⟩
def fw_65_p10L (Q : Int → lf_Z → Prop) (x1 : Int) (x3 : Int) (x4 : Int) (s : lf_Z) : Prop := ∃ X10 : Int → Int → lf_Z → Prop, (∀ (x1 : Int) (x4 : Int) (s : lf_Z), X10 x1 x4 s → fw_65_p10 Q x3 X10 x1 x4 s) ∧ X10 x1 x4 s
theorem cj_65_p10L {Q1 Q2 Q3 : Int → lf_Z → Prop} {x1 : Int} {x3 : Int} {x4 : Int} {s : lf_Z} (hQ : ∀ (r : Int) (s : lf_Z), Q1 r s → Q2 r s → Q3 r s) (h1 : fm_65_p10L Q1 x1 x3 x4 s) (h2 : fw_65_p10L Q2 x1 x3 x4 s) : fm_65_p10L Q3 x1 x3 x4 s := by
  intro X0 hX0
  obtain ⟨Y, hY, hY0⟩ := h2
  exact h1 (fun v0 v1 s => Y v0 v1 s → X0 v0 v1 s) (fun v0 v1 s hb hy => hX0 v0 v1 s (cj_65_p10 (X101 := fun v0 v1 s => Y v0 v1 s → X0 v0 v1 s) (X102 := Y) (X103 := X0) (hX10 := fun v0 v1 s a b => a b) hQ hb (hY v0 v1 s hy))) hY0
def fw_65 (Q : Int → lf_Z → Prop) (s : lf_Z) : Prop := fw_65_p10L Q 0 4 0 s
theorem cj_65 {Q1 Q2 Q3 : Int → lf_Z → Prop} {s : lf_Z} (hQ : ∀ (r : Int) (s : lf_Z), Q1 r s → Q2 r s → Q3 r s) (h1 : fm_65 Q1 s) (h2 : fw_65 Q2 s) : fm_65 Q3 s := by
  unfold fm_65 at h1 ⊢
  unfold fw_65 at h2
  exact cj_65_p10L hQ h1 h2
def fw_64 (Q : Int → lf_Z → Prop) (s : lf_Z) : Prop := fw_65 (fun r22 s21 => (Q r22 s21)) s
theorem cj_64 {Q1 Q2 Q3 : Int → lf_Z → Prop} {s : lf_Z} (hQ : ∀ (r : Int) (s : lf_Z), Q1 r s → Q2 r s → Q3 r s) (h1 : fm_64 Q1 s) (h2 : fw_64 Q2 s) : fm_64 Q3 s := by
  unfold fm_64 at h1 ⊢
  unfold fw_64 at h2
  exact cj_65 (fun r22 s21 k1 l1 => hQ _ _  k1 l1) h1 h2
def fw_66_p2 (Q : Int → lf_Z → Prop) (X2 : Int → lf_Z → Prop) (x1 : Int) (s : lf_Z) : Prop := lf_R x1 → ((4 ≤ x1 → (Q (-1) s)) ∧ (¬ (4 ≤ x1) → ((0 ≤ x1 ∧ x1 < 4) → (lf_R (s.1 16 x1) → ((s.1 16 x1 ≠ 0 → (X2 (x1 + 1) s)) ∧ (¬ (s.1 16 x1 ≠ 0) → (Q x1 s)))))))
theorem cj_66_p2 {X21 X22 X23 : Int → lf_Z → Prop} {Q1 Q2 Q3 : Int → lf_Z → Prop} {x1 : Int} {s : lf_Z} (hX2 : ∀ (v0 : Int) (v1 : lf_Z), X21 v0 v1 → X22 v0 v1 → X23 v0 v1) (hQ : ∀ (r : Int) (s : lf_Z), Q1 r s → Q2 r s → Q3 r s) (h1 : fm_66_p2 Q1 X21 x1 s) (h2 : fw_66_p2 Q2 X22 x1 s) : fm_66_p2 Q3 X23 x1 s := by
  unfold fm_66_p2 at h1 ⊢
  unfold fw_66_p2 at h2
  exact ⟨h1.1, ⟨(fun c2 => hQ _ _  (h1.2.1 c2) ((h2 h1.1).1 c2)), (fun c2 => ⟨(h1.2.2 c2).1, ⟨(h1.2.2 c2).2.1, ⟨(fun c6 => hX2 _ _  ((h1.2.2 c2).2.2.1 c6) (((((h2 h1.1).2 c2) (h1.2.2 c2).1) (h1.2.2 c2).2.1).1 c6)), (fun c6 => hQ _ _  ((h1.2.2 c2).2.2.2 c6) (((((h2 h1.1).2 c2) (h1.2.2 c2).1) (h1.2.2 c2).2.1).2 c6))⟩⟩⟩)⟩⟩
def fw_66_p2L (Q : Int → lf_Z → Prop) (x1 : Int) (s : lf_Z) : Prop := ∃ X2 : Int → lf_Z → Prop, (∀ (x1 : Int) (s : lf_Z), X2 x1 s → fw_66_p2 Q X2 x1 s) ∧ X2 x1 s
theorem cj_66_p2L {Q1 Q2 Q3 : Int → lf_Z → Prop} {x1 : Int} {s : lf_Z} (hQ : ∀ (r : Int) (s : lf_Z), Q1 r s → Q2 r s → Q3 r s) (h1 : fm_66_p2L Q1 x1 s) (h2 : fw_66_p2L Q2 x1 s) : fm_66_p2L Q3 x1 s := by
  intro X0 hX0
  obtain ⟨Y, hY, hY0⟩ := h2
  exact h1 (fun v0 s => Y v0 s → X0 v0 s) (fun v0 s hb hy => hX0 v0 s (cj_66_p2 (X21 := fun v0 s => Y v0 s → X0 v0 s) (X22 := Y) (X23 := X0) (hX2 := fun v0 s a b => a b) hQ hb (hY v0 s hy))) hY0
def fw_66 (Q : Int → lf_Z → Prop) (s : lf_Z) : Prop := fw_66_p2L Q 0 s
theorem cj_66 {Q1 Q2 Q3 : Int → lf_Z → Prop} {s : lf_Z} (hQ : ∀ (r : Int) (s : lf_Z), Q1 r s → Q2 r s → Q3 r s) (h1 : fm_66 Q1 s) (h2 : fw_66 Q2 s) : fm_66 Q3 s := by
  unfold fm_66 at h1 ⊢
  unfold fw_66 at h2
  exact cj_66_p2L hQ h1 h2
def fw_68_p57 (Q : lf_Z → Prop) (X57 : Int → Int → lf_Z → Prop) (x3 : Int) (x4 : Int) (s : lf_Z) : Prop := lf_R x4 → ((6 ≤ x4 → (((0 : Int) ≤ 0 ∧ (0 : Int) ≤ x3 ∧ (0 : Int) ≤ 12 ∧ (0 : Int) + 12 ≤ 12 ∧ (x3 : Int) + 12 ≤ 1170) → ((0 ≤ x3 + 12 ∧ x3 + 12 < 1170) → ((0 ≤ (x3 + 12) + 1 ∧ (x3 + 12) + 1 < 1170) → ((0 ≤ (x3 + 12) + 2 ∧ (x3 + 12) + 2 < 1170) → (Q (lf_up (lf_up (lf_up (lf_cp s.1 21 23 0 x3 12) 23 (x3 + 12) ((lf_cp s.1 21 23 0 x3 12) 15 6)) 23 ((x3 + 12) + 1) ((lf_cp s.1 21 23 0 x3 12) 15 7)) 23 ((x3 + 12) + 2) ((lf_cp s.1 21 23 0 x3 12) 15 8), s.2.1, s.2.2))))))) ∧ (¬ (6 ≤ x4) → ((0 ≤ x4 ∧ x4 < 6) → ((0 ≤ x3 ∧ x3 < 1170) → ((0 ≤ x3 + 1 ∧ x3 + 1 < 1170) → (X57 (x3 + 2) (x4 + 1) (lf_up (lf_up s.1 23 x3 (s.1 19 x4)) 23 (x3 + 1) (s.1 20 x4), s.2.1, s.2.2)))))))
theorem cj_68_p57 {X571 X572 X573 : Int → Int → lf_Z → Prop} {Q1 Q2 Q3 : lf_Z → Prop} {x3 : Int} {x4 : Int} {s : lf_Z} (hX57 : ∀ (v0 : Int) (v1 : Int) (v2 : lf_Z), X571 v0 v1 v2 → X572 v0 v1 v2 → X573 v0 v1 v2) (hQ : ∀ (s : lf_Z), Q1 s → Q2 s → Q3 s) (h1 : fm_68_p57 Q1 X571 x3 x4 s) (h2 : fw_68_p57 Q2 X572 x3 x4 s) : fm_68_p57 Q3 X573 x3 x4 s := by
  unfold fm_68_p57 at h1 ⊢
  unfold fw_68_p57 at h2
  exact ⟨h1.1, ⟨(fun c2 => ⟨(h1.2.1 c2).1, ⟨(h1.2.1 c2).2.1, ⟨(h1.2.1 c2).2.2.1, ⟨(h1.2.1 c2).2.2.2.1, hQ _  (h1.2.1 c2).2.2.2.2 ((((((h2 h1.1).1 c2) (h1.2.1 c2).1) (h1.2.1 c2).2.1) (h1.2.1 c2).2.2.1) (h1.2.1 c2).2.2.2.1)⟩⟩⟩⟩), (fun c2 => ⟨(h1.2.2 c2).1, ⟨(h1.2.2 c2).2.1, ⟨(h1.2.2 c2).2.2.1, hX57 _ _ _  (h1.2.2 c2).2.2.2 (((((h2 h1.1).2 c2) (h1.2.2 c2).1) (h1.2.2 c2).2.1) (h1.2.2 c2).2.2.1)⟩⟩⟩)⟩⟩
def fw_68_p57L (Q : lf_Z → Prop) (x3 : Int) (x4 : Int) (s : lf_Z) : Prop := ∃ X57 : Int → Int → lf_Z → Prop, (∀ (x3 : Int) (x4 : Int) (s : lf_Z), X57 x3 x4 s → fw_68_p57 Q X57 x3 x4 s) ∧ X57 x3 x4 s
theorem cj_68_p57L {Q1 Q2 Q3 : lf_Z → Prop} {x3 : Int} {x4 : Int} {s : lf_Z} (hQ : ∀ (s : lf_Z), Q1 s → Q2 s → Q3 s) (h1 : fm_68_p57L Q1 x3 x4 s) (h2 : fw_68_p57L Q2 x3 x4 s) : fm_68_p57L Q3 x3 x4 s := by
  intro X0 hX0
  obtain ⟨Y, hY, hY0⟩ := h2
  exact h1 (fun v0 v1 s => Y v0 v1 s → X0 v0 v1 s) (fun v0 v1 s hb hy => hX0 v0 v1 s (cj_68_p57 (X571 := fun v0 v1 s => Y v0 v1 s → X0 v0 v1 s) (X572 := Y) (X573 := X0) (hX57 := fun v0 v1 s a b => a b) hQ hb (hY v0 v1 s hy))) hY0
def fw_68_p5 (Q : lf_Z → Prop) (X5 : Int → Int → lf_Z → Prop) (x3 : Int) (x4 : Int) (s : lf_Z) : Prop := lf_R x4 → ((4 ≤ x4 → (fw_68_p57L Q x3 0 s)) ∧ (¬ (4 ≤ x4) → ((0 ≤ x4 ∧ x4 < 4) → ((0 ≤ x3 ∧ x3 < 1170) → ((0 ≤ x3 + 1 ∧ x3 + 1 < 1170) → ((0 ≤ x3 + 2 ∧ x3 + 2 < 1170) → (X5 (x3 + 3) (x4 + 1) (lf_up (lf_up (lf_up s.1 23 x3 (s.1 16 x4)) 23 (x3 + 1) (s.1 17 x4)) 23 (x3 + 2) (s.1 18 x4), s.2.1, s.2.2))))))))
theorem cj_68_p5 {X51 X52 X53 : Int → Int → lf_Z → Prop} {Q1 Q2 Q3 : lf_Z → Prop} {x3 : Int} {x4 : Int} {s : lf_Z} (hX5 : ∀ (v0 : Int) (v1 : Int) (v2 : lf_Z), X51 v0 v1 v2 → X52 v0 v1 v2 → X53 v0 v1 v2) (hQ : ∀ (s : lf_Z), Q1 s → Q2 s → Q3 s) (h1 : fm_68_p5 Q1 X51 x3 x4 s) (h2 : fw_68_p5 Q2 X52 x3 x4 s) : fm_68_p5 Q3 X53 x3 x4 s := by
  unfold fm_68_p5 at h1 ⊢
  unfold fw_68_p5 at h2
  exact ⟨h1.1, ⟨(fun c2 => cj_68_p57L hQ (h1.2.1 c2) ((h2 h1.1).1 c2)), (fun c2 => ⟨(h1.2.2 c2).1, ⟨(h1.2.2 c2).2.1, ⟨(h1.2.2 c2).2.2.1, ⟨(h1.2.2 c2).2.2.2.1, hX5 _ _ _  (h1.2.2 c2).2.2.2.2 ((((((h2 h1.1).2 c2) (h1.2.2 c2).1) (h1.2.2 c2).2.1) (h1.2.2 c2).2.2.1) (h1.2.2 c2).2.2.2.1)⟩⟩⟩⟩)⟩⟩
def fw_68_p5L (Q : lf_Z → Prop) (x3 : Int) (x4 : Int) (s : lf_Z) : Prop := ∃ X5 : Int → Int → lf_Z → Prop, (∀ (x3 : Int) (x4 : Int) (s : lf_Z), X5 x3 x4 s → fw_68_p5 Q X5 x3 x4 s) ∧ X5 x3 x4 s
theorem cj_68_p5L {Q1 Q2 Q3 : lf_Z → Prop} {x3 : Int} {x4 : Int} {s : lf_Z} (hQ : ∀ (s : lf_Z), Q1 s → Q2 s → Q3 s) (h1 : fm_68_p5L Q1 x3 x4 s) (h2 : fw_68_p5L Q2 x3 x4 s) : fm_68_p5L Q3 x3 x4 s := by
  intro X0 hX0
  obtain ⟨Y, hY, hY0⟩ := h2
  exact h1 (fun v0 v1 s => Y v0 v1 s → X0 v0 v1 s) (fun v0 v1 s hb hy => hX0 v0 v1 s (cj_68_p5 (X51 := fun v0 v1 s => Y v0 v1 s → X0 v0 v1 s) (X52 := Y) (X53 := X0) (hX5 := fun v0 v1 s a b => a b) hQ hb (hY v0 v1 s hy))) hY0
def fw_68 (a2 : Int) (Q : lf_Z → Prop) (s : lf_Z) : Prop := fw_68_p5L Q a2 0 s
theorem cj_68 {Q1 Q2 Q3 : lf_Z → Prop} {a2 : Int} {s : lf_Z} (hQ : ∀ (s : lf_Z), Q1 s → Q2 s → Q3 s) (h1 : fm_68 a2 Q1 s) (h2 : fw_68 a2 Q2 s) : fm_68 a2 Q3 s := by
  unfold fm_68 at h1 ⊢
  unfold fw_68 at h2
  exact cj_68_p5L hQ h1 h2
def fw_67 (a2 : Int) (Q : lf_Z → Prop) (s : lf_Z) : Prop := lf_R ((s.1 22 2) + 1) → (lf_R ((s.1 22 3) + 1) → (fw_68 ((((s.1 22 2) + 1).tmod 30) * 39) (fun s23 => ((0 ≤ s23.1 22 2 ∧ s23.1 22 2 < 30) → (Q (lf_up s23.1 24 (s23.1 22 2) a2, s23.2.1, s23.2.2)))) (lf_up (lf_up s.1 22 2 (((s.1 22 2) + 1).tmod 30)) 22 3 (min 30 ((s.1 22 3) + 1)), s.2.1, s.2.2)))
theorem cj_67 {Q1 Q2 Q3 : lf_Z → Prop} {a2 : Int} {s : lf_Z} (hQ : ∀ (s : lf_Z), Q1 s → Q2 s → Q3 s) (h1 : fm_67 a2 Q1 s) (h2 : fw_67 a2 Q2 s) : fm_67 a2 Q3 s := by
  unfold fm_67 at h1 ⊢
  unfold fw_67 at h2
  exact ⟨h1.1, ⟨h1.2.1, cj_68 (fun s23 k3 l3 => ⟨k3.1, hQ _  k3.2 (l3 k3.1)⟩) h1.2.2 ((h2 h1.1) h1.2.1)⟩⟩
def fw_69 (a1 : Int) (a2 : Int) (a3 : Int) (a4 : Int) (Q : lf_Z → Prop) (s : lf_Z) : Prop := (0 ≤ a1 ∧ a1 < 4) → (Q (lf_up (lf_up (lf_up s.1 16 a1 a2) 17 a1 a3) 18 a1 a4, s.2.1, s.2.2))
theorem cj_69 {Q1 Q2 Q3 : lf_Z → Prop} {a1 : Int} {a2 : Int} {a3 : Int} {a4 : Int} {s : lf_Z} (hQ : ∀ (s : lf_Z), Q1 s → Q2 s → Q3 s) (h1 : fm_69 a1 a2 a3 a4 Q1 s) (h2 : fw_69 a1 a2 a3 a4 Q2 s) : fm_69 a1 a2 a3 a4 Q3 s := by
  unfold fm_69 at h1 ⊢
  unfold fw_69 at h2
  exact ⟨h1.1, hQ _  h1.2 (h2 h1.1)⟩
def fw_63 (a1 : Int) (a2 : Int) (Q : Int → lf_Z → Prop) (s : lf_Z) : Prop := fw_64 (fun r22 s21 => (fw_15 a1 1 (lf_w (24 - r22)) (fun z24 s23 => ((z24 = false → (Q (-1) s23)) ∧ (z24 = true → (fw_18 a2 (fun z26 s25 => ((z26 = true → (fw_66 (fun r28 s27 => (lf_R r28 → ((r28 = (-1) → (Q r28 s27)) ∧ (¬ (r28 = (-1)) → (fw_67 (s27.1 1 2) (fun s30 => (fw_69 r28 a1 a2 (-1) (fun s31 => (Q r28 s31)) s30)) s27))))) s25)) ∧ (z26 = false → (Q (-1) s25)))) s23)))) s21)) s
theorem cj_63 {Q1 Q2 Q3 : Int → lf_Z → Prop} {a1 : Int} {a2 : Int} {s : lf_Z} (hQ : ∀ (r : Int) (s : lf_Z), Q1 r s → Q2 r s → Q3 r s) (h1 : fm_63 a1 a2 Q1 s) (h2 : fw_63 a1 a2 Q2 s) : fm_63 a1 a2 Q3 s := by
  unfold fm_63 at h1 ⊢
  unfold fw_63 at h2
  exact cj_64 (fun r22 s21 k1 l1 => cj_15 (fun z24 s23 k2 l2 => ⟨(fun c3 => hQ _ _  (k2.1 c3) (l2.1 c3)), (fun c3 => cj_18 (fun z26 s25 k5 l5 => ⟨(fun c6 => cj_66 (fun r28 s27 k7 l7 => ⟨k7.1, ⟨(fun c9 => hQ _ _  (k7.2.1 c9) ((l7 k7.1).1 c9)), (fun c9 => cj_67 (fun s30 k11 l11 => cj_69 (fun s31 k12 l12 => hQ _ _  k12 l12) k11 l11) (k7.2.2 c9) ((l7 k7.1).2 c9))⟩⟩) (k5.1 c6) (l5.1 c6)), (fun c6 => hQ _ _  (k5.2 c6) (l5.2 c6))⟩) (k2.2 c3) (l2.2 c3))⟩) k1 l1) h1 h2
def fw_242 (a1 : Int) (Q : Int → lf_Z → Prop) (s : lf_Z) : Prop := (0 ≤ 114 + (3 * a1) ∧ 114 + (3 * a1) < 1538) → (Q (s.1 96 (114 + (3 * a1))) s)
theorem cj_242 {Q1 Q2 Q3 : Int → lf_Z → Prop} {a1 : Int} {s : lf_Z} (hQ : ∀ (r : Int) (s : lf_Z), Q1 r s → Q2 r s → Q3 r s) (h1 : fm_242 a1 Q1 s) (h2 : fw_242 a1 Q2 s) : fm_242 a1 Q3 s := by
  unfold fm_242 at h1 ⊢
  unfold fw_242 at h2
  exact ⟨h1.1, hQ _ _  h1.2 (h2 h1.1)⟩
def fw_241_p2 (Q : Int → lf_Z → Prop) (X2 : Int → lf_Z → Prop) (x1 : Int) (s : lf_Z) : Prop := lf_R x1 → ((4 ≤ x1 → (Q (-1) s)) ∧ (¬ (4 ≤ x1) → (fw_242 x1 (fun r23 s22 => (lf_R r23 → ((r23 ≠ 0 → (X2 (x1 + 1) s22)) ∧ (¬ (r23 ≠ 0) → (Q x1 s22))))) s)))
theorem cj_241_p2 {X21 X22 X23 : Int → lf_Z → Prop} {Q1 Q2 Q3 : Int → lf_Z → Prop} {x1 : Int} {s : lf_Z} (hX2 : ∀ (v0 : Int) (v1 : lf_Z), X21 v0 v1 → X22 v0 v1 → X23 v0 v1) (hQ : ∀ (r : Int) (s : lf_Z), Q1 r s → Q2 r s → Q3 r s) (h1 : fm_241_p2 Q1 X21 x1 s) (h2 : fw_241_p2 Q2 X22 x1 s) : fm_241_p2 Q3 X23 x1 s := by
  unfold fm_241_p2 at h1 ⊢
  unfold fw_241_p2 at h2
  exact ⟨h1.1, ⟨(fun c2 => hQ _ _  (h1.2.1 c2) ((h2 h1.1).1 c2)), (fun c2 => cj_242 (fun r23 s22 k4 l4 => ⟨k4.1, ⟨(fun c6 => hX2 _ _  (k4.2.1 c6) ((l4 k4.1).1 c6)), (fun c6 => hQ _ _  (k4.2.2 c6) ((l4 k4.1).2 c6))⟩⟩) (h1.2.2 c2) ((h2 h1.1).2 c2))⟩⟩
def fw_241_p2L (Q : Int → lf_Z → Prop) (x1 : Int) (s : lf_Z) : Prop := ∃ X2 : Int → lf_Z → Prop, (∀ (x1 : Int) (s : lf_Z), X2 x1 s → fw_241_p2 Q X2 x1 s) ∧ X2 x1 s
theorem cj_241_p2L {Q1 Q2 Q3 : Int → lf_Z → Prop} {x1 : Int} {s : lf_Z} (hQ : ∀ (r : Int) (s : lf_Z), Q1 r s → Q2 r s → Q3 r s) (h1 : fm_241_p2L Q1 x1 s) (h2 : fw_241_p2L Q2 x1 s) : fm_241_p2L Q3 x1 s := by
  intro X0 hX0
  obtain ⟨Y, hY, hY0⟩ := h2
  exact h1 (fun v0 s => Y v0 s → X0 v0 s) (fun v0 s hb hy => hX0 v0 s (cj_241_p2 (X21 := fun v0 s => Y v0 s → X0 v0 s) (X22 := Y) (X23 := X0) (hX2 := fun v0 s a b => a b) hQ hb (hY v0 s hy))) hY0
def fw_241 (Q : Int → lf_Z → Prop) (s : lf_Z) : Prop := fw_241_p2L Q 0 s
theorem cj_241 {Q1 Q2 Q3 : Int → lf_Z → Prop} {s : lf_Z} (hQ : ∀ (r : Int) (s : lf_Z), Q1 r s → Q2 r s → Q3 r s) (h1 : fm_241 Q1 s) (h2 : fw_241 Q2 s) : fm_241 Q3 s := by
  unfold fm_241 at h1 ⊢
  unfold fw_241 at h2
  exact cj_241_p2L hQ h1 h2
def fw_243_p4 (Q : Int → lf_Z → Prop) (X4 : Int → Int → lf_Z → Prop) (x1 : Int) (x2 : Int) (s : lf_Z) : Prop := lf_R x2 → ((4 ≤ x2 → (Q x1 s)) ∧ (¬ (4 ≤ x2) → (fw_242 x2 (fun r23 s22 => (X4 (x1 + r23) (x2 + 1) s22)) s)))
theorem cj_243_p4 {X41 X42 X43 : Int → Int → lf_Z → Prop} {Q1 Q2 Q3 : Int → lf_Z → Prop} {x1 : Int} {x2 : Int} {s : lf_Z} (hX4 : ∀ (v0 : Int) (v1 : Int) (v2 : lf_Z), X41 v0 v1 v2 → X42 v0 v1 v2 → X43 v0 v1 v2) (hQ : ∀ (r : Int) (s : lf_Z), Q1 r s → Q2 r s → Q3 r s) (h1 : fm_243_p4 Q1 X41 x1 x2 s) (h2 : fw_243_p4 Q2 X42 x1 x2 s) : fm_243_p4 Q3 X43 x1 x2 s := by
  unfold fm_243_p4 at h1 ⊢
  unfold fw_243_p4 at h2
  exact ⟨h1.1, ⟨(fun c2 => hQ _ _  (h1.2.1 c2) ((h2 h1.1).1 c2)), (fun c2 => cj_242 (fun r23 s22 k4 l4 => hX4 _ _ _  k4 l4) (h1.2.2 c2) ((h2 h1.1).2 c2))⟩⟩
def fw_243_p4L (Q : Int → lf_Z → Prop) (x1 : Int) (x2 : Int) (s : lf_Z) : Prop := ∃ X4 : Int → Int → lf_Z → Prop, (∀ (x1 : Int) (x2 : Int) (s : lf_Z), X4 x1 x2 s → fw_243_p4 Q X4 x1 x2 s) ∧ X4 x1 x2 s
theorem cj_243_p4L {Q1 Q2 Q3 : Int → lf_Z → Prop} {x1 : Int} {x2 : Int} {s : lf_Z} (hQ : ∀ (r : Int) (s : lf_Z), Q1 r s → Q2 r s → Q3 r s) (h1 : fm_243_p4L Q1 x1 x2 s) (h2 : fw_243_p4L Q2 x1 x2 s) : fm_243_p4L Q3 x1 x2 s := by
  intro X0 hX0
  obtain ⟨Y, hY, hY0⟩ := h2
  exact h1 (fun v0 v1 s => Y v0 v1 s → X0 v0 v1 s) (fun v0 v1 s hb hy => hX0 v0 v1 s (cj_243_p4 (X41 := fun v0 v1 s => Y v0 v1 s → X0 v0 v1 s) (X42 := Y) (X43 := X0) (hX4 := fun v0 v1 s a b => a b) hQ hb (hY v0 v1 s hy))) hY0
def fw_243 (Q : Int → lf_Z → Prop) (s : lf_Z) : Prop := fw_243_p4L Q 0 0 s
theorem cj_243 {Q1 Q2 Q3 : Int → lf_Z → Prop} {s : lf_Z} (hQ : ∀ (r : Int) (s : lf_Z), Q1 r s → Q2 r s → Q3 r s) (h1 : fm_243 Q1 s) (h2 : fw_243 Q2 s) : fm_243 Q3 s := by
  unfold fm_243 at h1 ⊢
  unfold fw_243 at h2
  exact cj_243_p4L hQ h1 h2
def fw_246 (a1 : Int) (Q : Int → lf_Z → Prop) (s : lf_Z) : Prop := (0 ≤ (14 + (3 * a1)) + 2 ∧ (14 + (3 * a1)) + 2 < 1538) → (Q (s.1 96 ((14 + (3 * a1)) + 2)) s)
theorem cj_246 {Q1 Q2 Q3 : Int → lf_Z → Prop} {a1 : Int} {s : lf_Z} (hQ : ∀ (r : Int) (s : lf_Z), Q1 r s → Q2 r s → Q3 r s) (h1 : fm_246 a1 Q1 s) (h2 : fw_246 a1 Q2 s) : fm_246 a1 Q3 s := by
  unfold fm_246 at h1 ⊢
  unfold fw_246 at h2
  exact ⟨h1.1, hQ _ _  h1.2 (h2 h1.1)⟩
def fw_239 (a1 : Int) (Q : Int → lf_Z → Prop) (s : lf_Z) : Prop := (0 ≤ (126 + (6 * a1)) + 3 ∧ (126 + (6 * a1)) + 3 < 1538) → (Q (s.1 96 ((126 + (6 * a1)) + 3)) s)
theorem cj_239 {Q1 Q2 Q3 : Int → lf_Z → Prop} {a1 : Int} {s : lf_Z} (hQ : ∀ (r : Int) (s : lf_Z), Q1 r s → Q2 r s → Q3 r s) (h1 : fm_239 a1 Q1 s) (h2 : fw_239 a1 Q2 s) : fm_239 a1 Q3 s := by
  unfold fm_239 at h1 ⊢
  unfold fw_239 at h2
  exact ⟨h1.1, hQ _ _  h1.2 (h2 h1.1)⟩
def fw_239b (a1 : Int) (Q : Int → lf_Z → Prop) (s : lf_Z) : Prop := (0 ≤ (126 + (6 * a1)) + 4 ∧ (126 + (6 * a1)) + 4 < 1538) → (Q (s.1 96 ((126 + (6 * a1)) + 4)) s)
theorem cj_239b {Q1 Q2 Q3 : Int → lf_Z → Prop} {a1 : Int} {s : lf_Z} (hQ : ∀ (r : Int) (s : lf_Z), Q1 r s → Q2 r s → Q3 r s) (h1 : fm_239b a1 Q1 s) (h2 : fw_239b a1 Q2 s) : fm_239b a1 Q3 s := by
  unfold fm_239b at h1 ⊢
  unfold fw_239b at h2
  exact ⟨h1.1, hQ _ _  h1.2 (h2 h1.1)⟩
def fw_245 (a1 : Int) (Q : Bool → lf_Z → Prop) (s : lf_Z) : Prop := (0 ≤ (50 + (4 * a1)) + 3 ∧ (50 + (4 * a1)) + 3 < 1538) → (lf_R (s.1 96 ((50 + (4 * a1)) + 3)) → ((s.1 96 ((50 + (4 * a1)) + 3) ≠ 1 → (Q false s)) ∧ (¬ (s.1 96 ((50 + (4 * a1)) + 3) ≠ 1) → (Q true s))))
theorem cj_245 {Q1 Q2 Q3 : Bool → lf_Z → Prop} {a1 : Int} {s : lf_Z} (hQ : ∀ (r : Bool) (s : lf_Z), Q1 r s → Q2 r s → Q3 r s) (h1 : fm_245 a1 Q1 s) (h2 : fw_245 a1 Q2 s) : fm_245 a1 Q3 s := by
  unfold fm_245 at h1 ⊢
  unfold fw_245 at h2
  exact ⟨h1.1, ⟨h1.2.1, ⟨(fun c3 => hQ _ _  (h1.2.2.1 c3) (((h2 h1.1) h1.2.1).1 c3)), (fun c3 => hQ _ _  (h1.2.2.2 c3) (((h2 h1.1) h1.2.1).2 c3))⟩⟩⟩
def fw_244_p268 (Q : lf_Z → Prop) (x1 : Int) (X268 : Int → lf_Z → Prop) (x2 : Int) (s : lf_Z) : Prop := lf_R x2 → ((12 ≤ x2 → (Q (lf_up s.1 96 9 ((s.1 96 9) + 1), s.2.1, s.2.2))) ∧ (¬ (12 ≤ x2) → (fw_246 x2 (fun r33 s32 => ((0 ≤ (x1 + 29) + x2 ∧ (x1 + 29) + x2 < 1538) → (X268 (x2 + 1) (lf_up s32.1 96 ((x1 + 29) + x2) r33, s32.2.1, s32.2.2)))) s)))
theorem cj_244_p268 {X2681 X2682 X2683 : Int → lf_Z → Prop} {Q1 Q2 Q3 : lf_Z → Prop} {x1 : Int} {x2 : Int} {s : lf_Z} (hX268 : ∀ (v0 : Int) (v1 : lf_Z), X2681 v0 v1 → X2682 v0 v1 → X2683 v0 v1) (hQ : ∀ (s : lf_Z), Q1 s → Q2 s → Q3 s) (h1 : fm_244_p268 Q1 x1 X2681 x2 s) (h2 : fw_244_p268 Q2 x1 X2682 x2 s) : fm_244_p268 Q3 x1 X2683 x2 s := by
  unfold fm_244_p268 at h1 ⊢
  unfold fw_244_p268 at h2
  exact ⟨h1.1, ⟨(fun c2 => hQ _  (h1.2.1 c2) ((h2 h1.1).1 c2)), (fun c2 => cj_246 (fun r33 s32 k4 l4 => ⟨k4.1, hX268 _ _  k4.2 (l4 k4.1)⟩) (h1.2.2 c2) ((h2 h1.1).2 c2))⟩⟩
def fw_244_p268L (Q : lf_Z → Prop) (x1 : Int) (x2 : Int) (s : lf_Z) : Prop := ∃ X268 : Int → lf_Z → Prop, (∀ (x2 : Int) (s : lf_Z), X268 x2 s → fw_244_p268 Q x1 X268 x2 s) ∧ X268 x2 s
theorem cj_244_p268L {Q1 Q2 Q3 : lf_Z → Prop} {x1 : Int} {x2 : Int} {s : lf_Z} (hQ : ∀ (s : lf_Z), Q1 s → Q2 s → Q3 s) (h1 : fm_244_p268L Q1 x1 x2 s) (h2 : fw_244_p268L Q2 x1 x2 s) : fm_244_p268L Q3 x1 x2 s := by
  intro X0 hX0
  obtain ⟨Y, hY, hY0⟩ := h2
  exact h1 (fun v0 s => Y v0 s → X0 v0 s) (fun v0 s hb hy => hX0 v0 s (cj_244_p268 (X2681 := fun v0 s => Y v0 s → X0 v0 s) (X2682 := Y) (X2683 := X0) (hX268 := fun v0 s a b => a b) hQ hb (hY v0 s hy))) hY0
def fw_244_p216 (Q : lf_Z → Prop) (x1 : Int) (X216 : Int → lf_Z → Prop) (x2 : Int) (s : lf_Z) : Prop := lf_R x2 → ((6 ≤ x2 → (fw_244_p268L Q x1 0 s)) ∧ (¬ (6 ≤ x2) → (fw_239 x2 (fun r36 s35 => ((0 ≤ (x1 + 17) + (2 * x2) ∧ (x1 + 17) + (2 * x2) < 1538) → (fw_239b x2 (fun r39 s38 => ((0 ≤ (x1 + 18) + (2 * x2) ∧ (x1 + 18) + (2 * x2) < 1538) → (X216 (x2 + 1) (lf_up s38.1 96 ((x1 + 18) + (2 * x2)) r39, s38.2.1, s38.2.2)))) (lf_up s35.1 96 ((x1 + 17) + (2 * x2)) r36, s35.2.1, s35.2.2)))) s)))
theorem cj_244_p216 {X2161 X2162 X2163 : Int → lf_Z → Prop} {Q1 Q2 Q3 : lf_Z → Prop} {x1 : Int} {x2 : Int} {s : lf_Z} (hX216 : ∀ (v0 : Int) (v1 : lf_Z), X2161 v0 v1 → X2162 v0 v1 → X2163 v0 v1) (hQ : ∀ (s : lf_Z), Q1 s → Q2 s → Q3 s) (h1 : fm_244_p216 Q1 x1 X2161 x2 s) (h2 : fw_244_p216 Q2 x1 X2162 x2 s) : fm_244_p216 Q3 x1 X2163 x2 s := by
  unfold fm_244_p216 at h1 ⊢
  unfold fw_244_p216 at h2
  exact ⟨h1.1, ⟨(fun c2 => cj_244_p268L hQ (h1.2.1 c2) ((h2 h1.1).1 c2)), (fun c2 => cj_239 (fun r36 s35 k4 l4 => ⟨k4.1, cj_239b (fun r39 s38 k6 l6 => ⟨k6.1, hX216 _ _  k6.2 (l6 k6.1)⟩) k4.2 (l4 k4.1)⟩) (h1.2.2 c2) ((h2 h1.1).2 c2))⟩⟩
def fw_244_p216L (Q : lf_Z → Prop) (x1 : Int) (x2 : Int) (s : lf_Z) : Prop := ∃ X216 : Int → lf_Z → Prop, (∀ (x2 : Int) (s : lf_Z), X216 x2 s → fw_244_p216 Q x1 X216 x2 s) ∧ X216 x2 s
theorem cj_244_p216L {Q1 Q2 Q3 : lf_Z → Prop} {x1 : Int} {x2 : Int} {s : lf_Z} (hQ : ∀ (s : lf_Z), Q1 s → Q2 s → Q3 s) (h1 : fm_244_p216L Q1 x1 x2 s) (h2 : fw_244_p216L Q2 x1 x2 s) : fm_244_p216L Q3 x1 x2 s := by
  intro X0 hX0
  obtain ⟨Y, hY, hY0⟩ := h2
  exact h1 (fun v0 s => Y v0 s → X0 v0 s) (fun v0 s hb hy => hX0 v0 s (cj_244_p216 (X2161 := fun v0 s => Y v0 s → X0 v0 s) (X2162 := Y) (X2163 := X0) (hX216 := fun v0 s a b => a b) hQ hb (hY v0 s hy))) hY0
def fw_244_p183 (Q : lf_Z → Prop) (x1 : Int) (X183 : Int → lf_Z → Prop) (x2 : Int) (s : lf_Z) : Prop := lf_R x2 → ((12 ≤ x2 → (fw_244_p216L Q x1 0 s)) ∧ (¬ (12 ≤ x2) → ((0 ≤ 114 + x2 ∧ 114 + x2 < 1538) → ((0 ≤ (x1 + 5) + x2 ∧ (x1 + 5) + x2 < 1538) → (X183 (x2 + 1) (lf_up s.1 96 ((x1 + 5) + x2) (s.1 96 (114 + x2)), s.2.1, s.2.2))))))
theorem cj_244_p183 {X1831 X1832 X1833 : Int → lf_Z → Prop} {Q1 Q2 Q3 : lf_Z → Prop} {x1 : Int} {x2 : Int} {s : lf_Z} (hX183 : ∀ (v0 : Int) (v1 : lf_Z), X1831 v0 v1 → X1832 v0 v1 → X1833 v0 v1) (hQ : ∀ (s : lf_Z), Q1 s → Q2 s → Q3 s) (h1 : fm_244_p183 Q1 x1 X1831 x2 s) (h2 : fw_244_p183 Q2 x1 X1832 x2 s) : fm_244_p183 Q3 x1 X1833 x2 s := by
  unfold fm_244_p183 at h1 ⊢
  unfold fw_244_p183 at h2
  exact ⟨h1.1, ⟨(fun c2 => cj_244_p216L hQ (h1.2.1 c2) ((h2 h1.1).1 c2)), (fun c2 => ⟨(h1.2.2 c2).1, ⟨(h1.2.2 c2).2.1, hX183 _ _  (h1.2.2 c2).2.2 ((((h2 h1.1).2 c2) (h1.2.2 c2).1) (h1.2.2 c2).2.1)⟩⟩)⟩⟩
def fw_244_p183L (Q : lf_Z → Prop) (x1 : Int) (x2 : Int) (s : lf_Z) : Prop := ∃ X183 : Int → lf_Z → Prop, (∀ (x2 : Int) (s : lf_Z), X183 x2 s → fw_244_p183 Q x1 X183 x2 s) ∧ X183 x2 s
theorem cj_244_p183L {Q1 Q2 Q3 : lf_Z → Prop} {x1 : Int} {x2 : Int} {s : lf_Z} (hQ : ∀ (s : lf_Z), Q1 s → Q2 s → Q3 s) (h1 : fm_244_p183L Q1 x1 x2 s) (h2 : fw_244_p183L Q2 x1 x2 s) : fm_244_p183L Q3 x1 x2 s := by
  intro X0 hX0
  obtain ⟨Y, hY, hY0⟩ := h2
  exact h1 (fun v0 s => Y v0 s → X0 v0 s) (fun v0 s hb hy => hX0 v0 s (cj_244_p183 (X1831 := fun v0 s => Y v0 s → X0 v0 s) (X1832 := Y) (X1833 := X0) (hX183 := fun v0 s a b => a b) hQ hb (hY v0 s hy))) hY0
def fw_244_p144 (X110 : Int → lf_Z → Prop) (Q : lf_Z → Prop) (x1 : Int) (x2 : Int) (y1 : Int) (y2 : Int) (y3 : Int) (s : lf_Z) : Prop := (0 ≤ y1 ∧ y1 < 1538) → (X110 (x2 + 1) (lf_up s.1 96 y1 (lf_or y2 y3), s.2.1, s.2.2))
theorem cj_244_p144 {X1101 X1102 X1103 : Int → lf_Z → Prop} {Q1 Q2 Q3 : lf_Z → Prop} {x1 : Int} {x2 : Int} {y1 : Int} {y2 : Int} {y3 : Int} {s : lf_Z} (hX110 : ∀ (v0 : Int) (v1 : lf_Z), X1101 v0 v1 → X1102 v0 v1 → X1103 v0 v1) (hQ : ∀ (s : lf_Z), Q1 s → Q2 s → Q3 s) (h1 : fm_244_p144 X1101 Q1 x1 x2 y1 y2 y3 s) (h2 : fw_244_p144 X1102 Q2 x1 x2 y1 y2 y3 s) : fm_244_p144 X1103 Q3 x1 x2 y1 y2 y3 s := by
  unfold fm_244_p144 at h1 ⊢
  unfold fw_244_p144 at h2
  exact ⟨h1.1, hX110 _ _  h1.2 (h2 h1.1)⟩
def fw_244_p110 (Q : lf_Z → Prop) (x1 : Int) (X110 : Int → lf_Z → Prop) (x2 : Int) (s : lf_Z) : Prop := lf_R x2 → (lf_R (s.1 96 1) → ((s.1 96 1 ≤ x2 → ((0 ≤ x1 + 3 ∧ x1 + 3 < 1538) → ((0 ≤ x1 + 4 ∧ x1 + 4 < 1538) → (fw_244_p183L Q x1 0 (lf_up (lf_up s.1 96 (x1 + 3) (s.1 96 3)) 96 (x1 + 4) ((lf_up s.1 96 (x1 + 3) (s.1 96 3)) 96 6), s.2.1, s.2.2))))) ∧ (¬ (s.1 96 1 ≤ x2) → ((0 ≤ x1 + 2 ∧ x1 + 2 < 1538) → (fw_245 x2 (fun z45 s44 => ((z45 = false → (fw_244_p144 X110 Q x1 x2 (x1 + 2) (s.1 96 (x1 + 2)) 0 s44)) ∧ (z45 = true → (fw_244_p144 X110 Q x1 x2 (x1 + 2) (s.1 96 (x1 + 2)) (lf_shl 1 x2) s44)))) s)))))
theorem cj_244_p110 {X1101 X1102 X1103 : Int → lf_Z → Prop} {Q1 Q2 Q3 : lf_Z → Prop} {x1 : Int} {x2 : Int} {s : lf_Z} (hX110 : ∀ (v0 : Int) (v1 : lf_Z), X1101 v0 v1 → X1102 v0 v1 → X1103 v0 v1) (hQ : ∀ (s : lf_Z), Q1 s → Q2 s → Q3 s) (h1 : fm_244_p110 Q1 x1 X1101 x2 s) (h2 : fw_244_p110 Q2 x1 X1102 x2 s) : fm_244_p110 Q3 x1 X1103 x2 s := by
  unfold fm_244_p110 at h1 ⊢
  unfold fw_244_p110 at h2
  exact ⟨h1.1, ⟨h1.2.1, ⟨(fun c3 => ⟨(h1.2.2.1 c3).1, ⟨(h1.2.2.1 c3).2.1, cj_244_p183L hQ (h1.2.2.1 c3).2.2 (((((h2 h1.1) h1.2.1).1 c3) (h1.2.2.1 c3).1) (h1.2.2.1 c3).2.1)⟩⟩), (fun c3 => ⟨(h1.2.2.2 c3).1, cj_245 (fun z45 s44 k8 l8 => ⟨(fun c9 => cj_244_p144 hX110 hQ (k8.1 c9) (l8.1 c9)), (fun c9 => cj_244_p144 hX110 hQ (k8.2 c9) (l8.2 c9))⟩) (h1.2.2.2 c3).2 ((((h2 h1.1) h1.2.1).2 c3) (h1.2.2.2 c3).1)⟩)⟩⟩⟩
def fw_244_p110L (Q : lf_Z → Prop) (x1 : Int) (x2 : Int) (s : lf_Z) : Prop := ∃ X110 : Int → lf_Z → Prop, (∀ (x2 : Int) (s : lf_Z), X110 x2 s → fw_244_p110 Q x1 X110 x2 s) ∧ X110 x2 s
theorem cj_244_p110L {Q1 Q2 Q3 : lf_Z → Prop} {x1 : Int} {x2 : Int} {s : lf_Z} (hQ : ∀ (s : lf_Z), Q1 s → Q2 s → Q3 s) (h1 : fm_244_p110L Q1 x1 x2 s) (h2 : fw_244_p110L Q2 x1 x2 s) : fm_244_p110L Q3 x1 x2 s := by
  intro X0 hX0
  obtain ⟨Y, hY, hY0⟩ := h2
  exact h1 (fun v0 s => Y v0 s → X0 v0 s) (fun v0 s hb hy => hX0 v0 s (cj_244_p110 (X1101 := fun v0 s => Y v0 s → X0 v0 s) (X1102 := Y) (X1103 := X0) (hX110 := fun v0 s a b => a b) hQ hb (hY v0 s hy))) hY0
def fw_244_p58 (Q : lf_Z → Prop) (s : lf_Z) : Prop := (0 ≤ 278 + (42 * (s.1 96 9)) ∧ 278 + (42 * (s.1 96 9)) < 1538) → ((0 ≤ (278 + (42 * (s.1 96 9))) + 1 ∧ (278 + (42 * (s.1 96 9))) + 1 < 1538) → ((0 ≤ (278 + (42 * (s.1 96 9))) + 2 ∧ (278 + (42 * (s.1 96 9))) + 2 < 1538) → (fw_244_p110L Q (278 + (42 * (s.1 96 9))) 0 (lf_up (lf_up (lf_up s.1 96 (278 + (42 * (s.1 96 9))) (s.1 96 2)) 96 ((278 + (42 * (s.1 96 9))) + 1) ((lf_up s.1 96 (278 + (42 * (s.1 96 9))) (s.1 96 2)) 96 1)) 96 ((278 + (42 * (s.1 96 9))) + 2) 0, s.2.1, s.2.2))))
theorem cj_244_p58 {Q1 Q2 Q3 : lf_Z → Prop} {s : lf_Z} (hQ : ∀ (s : lf_Z), Q1 s → Q2 s → Q3 s) (h1 : fm_244_p58 Q1 s) (h2 : fw_244_p58 Q2 s) : fm_244_p58 Q3 s := by
  unfold fm_244_p58 at h1 ⊢
  unfold fw_244_p58 at h2
  exact ⟨h1.1, ⟨h1.2.1, ⟨h1.2.2.1, cj_244_p110L hQ h1.2.2.2 (((h2 h1.1) h1.2.1) h1.2.2.1)⟩⟩⟩
def fw_244_p14 (Q : lf_Z → Prop) (X14 : Int → lf_Z → Prop) (x1 : Int) (s : lf_Z) : Prop := lf_R x1 → ((1218 ≤ x1 → (fw_244_p58 Q (lf_up s.1 96 9 ((s.1 96 9) - 1), s.2.1, s.2.2))) ∧ (¬ (1218 ≤ x1) → ((0 ≤ 320 + x1 ∧ 320 + x1 < 1538) → ((0 ≤ 278 + x1 ∧ 278 + x1 < 1538) → (X14 (x1 + 1) (lf_up s.1 96 (278 + x1) (s.1 96 (320 + x1)), s.2.1, s.2.2))))))
theorem cj_244_p14 {X141 X142 X143 : Int → lf_Z → Prop} {Q1 Q2 Q3 : lf_Z → Prop} {x1 : Int} {s : lf_Z} (hX14 : ∀ (v0 : Int) (v1 : lf_Z), X141 v0 v1 → X142 v0 v1 → X143 v0 v1) (hQ : ∀ (s : lf_Z), Q1 s → Q2 s → Q3 s) (h1 : fm_244_p14 Q1 X141 x1 s) (h2 : fw_244_p14 Q2 X142 x1 s) : fm_244_p14 Q3 X143 x1 s := by
  unfold fm_244_p14 at h1 ⊢
  unfold fw_244_p14 at h2
  exact ⟨h1.1, ⟨(fun c2 => cj_244_p58 hQ (h1.2.1 c2) ((h2 h1.1).1 c2)), (fun c2 => ⟨(h1.2.2 c2).1, ⟨(h1.2.2 c2).2.1, hX14 _ _  (h1.2.2 c2).2.2 ((((h2 h1.1).2 c2) (h1.2.2 c2).1) (h1.2.2 c2).2.1)⟩⟩)⟩⟩
def fw_244_p14L (Q : lf_Z → Prop) (x1 : Int) (s : lf_Z) : Prop := ∃ X14 : Int → lf_Z → Prop, (∀ (x1 : Int) (s : lf_Z), X14 x1 s → fw_244_p14 Q X14 x1 s) ∧ X14 x1 s
theorem cj_244_p14L {Q1 Q2 Q3 : lf_Z → Prop} {x1 : Int} {s : lf_Z} (hQ : ∀ (s : lf_Z), Q1 s → Q2 s → Q3 s) (h1 : fm_244_p14L Q1 x1 s) (h2 : fw_244_p14L Q2 x1 s) : fm_244_p14L Q3 x1 s := by
  intro X0 hX0
  obtain ⟨Y, hY, hY0⟩ := h2
  exact h1 (fun v0 s => Y v0 s → X0 v0 s) (fun v0 s hb hy => hX0 v0 s (cj_244_p14 (X141 := fun v0 s => Y v0 s → X0 v0 s) (X142 := Y) (X143 := X0) (hX14 := fun v0 s a b => a b) hQ hb (hY v0 s hy))) hY0
def fw_244 (Q : lf_Z → Prop) (s : lf_Z) : Prop := lf_R (s.1 96 9) → ((s.1 96 9 ≠ 30 → (fw_244_p58 Q s)) ∧ (¬ (s.1 96 9 ≠ 30) → (fw_244_p14L Q 0 s)))
theorem cj_244 {Q1 Q2 Q3 : lf_Z → Prop} {s : lf_Z} (hQ : ∀ (s : lf_Z), Q1 s → Q2 s → Q3 s) (h1 : fm_244 Q1 s) (h2 : fw_244 Q2 s) : fm_244 Q3 s := by
  unfold fm_244 at h1 ⊢
  unfold fw_244 at h2
  exact ⟨h1.1, ⟨(fun c2 => cj_244_p58 hQ (h1.2.1 c2) ((h2 h1.1).1 c2)), (fun c2 => cj_244_p14L hQ (h1.2.2 c2) ((h2 h1.1).2 c2))⟩⟩
def fw_247 (a1 : Int) (a2 : Int) (a3 : Int) (a4 : Int) (Q : lf_Z → Prop) (s : lf_Z) : Prop := (0 ≤ 114 + (3 * a1) ∧ 114 + (3 * a1) < 1538) → ((0 ≤ (114 + (3 * a1)) + 1 ∧ (114 + (3 * a1)) + 1 < 1538) → ((0 ≤ (114 + (3 * a1)) + 2 ∧ (114 + (3 * a1)) + 2 < 1538) → (Q (lf_up (lf_up (lf_up s.1 96 (114 + (3 * a1)) a2) 96 ((114 + (3 * a1)) + 1) a3) 96 ((114 + (3 * a1)) + 2) a4, s.2.1, s.2.2))))
theorem cj_247 {Q1 Q2 Q3 : lf_Z → Prop} {a1 : Int} {a2 : Int} {a3 : Int} {a4 : Int} {s : lf_Z} (hQ : ∀ (s : lf_Z), Q1 s → Q2 s → Q3 s) (h1 : fm_247 a1 a2 a3 a4 Q1 s) (h2 : fw_247 a1 a2 a3 a4 Q2 s) : fm_247 a1 a2 a3 a4 Q3 s := by
  unfold fm_247 at h1 ⊢
  unfold fw_247 at h2
  exact ⟨h1.1, ⟨h1.2.1, ⟨h1.2.2.1, hQ _  h1.2.2.2 (((h2 h1.1) h1.2.1) h1.2.2.1)⟩⟩⟩
def fw_240 (a1 : Int) (a2 : Int) (Q : Int → lf_Z → Prop) (s : lf_Z) : Prop := fw_241 (fun r22 s21 => (fw_183 a1 1 24 (fun z24 s23 => ((z24 = false → (Q (-1) s23)) ∧ (z24 = true → (fw_185 a2 (fun z26 s25 => ((z26 = false → (Q (-1) s25)) ∧ (z26 = true → (fw_243 (fun r28 s27 => (lf_R (r28 + a1) → ((24 < r28 + a1 → (Q (-1) s27)) ∧ (¬ (24 < r28 + a1) → (lf_R r22 → ((0 ≤ r22 → (fw_244 (fun s31 => (fw_247 r22 a1 a2 (-1) (fun s32 => (Q r22 s32)) s31)) s27)) ∧ (¬ (0 ≤ r22) → (Q (-1) s27)))))))) s25)))) s23)))) s21)) s
theorem cj_240 {Q1 Q2 Q3 : Int → lf_Z → Prop} {a1 : Int} {a2 : Int} {s : lf_Z} (hQ : ∀ (r : Int) (s : lf_Z), Q1 r s → Q2 r s → Q3 r s) (h1 : fm_240 a1 a2 Q1 s) (h2 : fw_240 a1 a2 Q2 s) : fm_240 a1 a2 Q3 s := by
  unfold fm_240 at h1 ⊢
  unfold fw_240 at h2
  exact cj_241 (fun r22 s21 k1 l1 => cj_183 (fun z24 s23 k2 l2 => ⟨(fun c3 => hQ _ _  (k2.1 c3) (l2.1 c3)), (fun c3 => cj_185 (fun z26 s25 k5 l5 => ⟨(fun c6 => hQ _ _  (k5.1 c6) (l5.1 c6)), (fun c6 => cj_243 (fun r28 s27 k8 l8 => ⟨k8.1, ⟨(fun c10 => hQ _ _  (k8.2.1 c10) ((l8 k8.1).1 c10)), (fun c10 => ⟨(k8.2.2 c10).1, ⟨(fun c13 => cj_244 (fun s31 k14 l14 => cj_247 (fun s32 k15 l15 => hQ _ _  k15 l15) k14 l14) ((k8.2.2 c10).2.1 c13) ((((l8 k8.1).2 c10) (k8.2.2 c10).1).1 c13)), (fun c13 => hQ _ _  ((k8.2.2 c10).2.2 c13) ((((l8 k8.1).2 c10) (k8.2.2 c10).1).2 c13))⟩⟩)⟩⟩) (k5.2 c6) (l5.2 c6))⟩) (k2.2 c3) (l2.2 c3))⟩) k1 l1) h1 h2
def fw_80 (a1 : Int) (Q : Bool → lf_Z → Prop) (s : lf_Z) : Prop := lf_R a1 → ((a1 < 0 → (Q false s)) ∧ (¬ (a1 < 0) → ((4 ≤ a1 → (Q false s)) ∧ (¬ (4 ≤ a1) → ((0 ≤ a1 ∧ a1 < 4) → (lf_R (s.1 16 a1) → ((s.1 16 a1 ≤ 0 → (Q false s)) ∧ (¬ (s.1 16 a1 ≤ 0) → (Q true s)))))))))
theorem cj_80 {Q1 Q2 Q3 : Bool → lf_Z → Prop} {a1 : Int} {s : lf_Z} (hQ : ∀ (r : Bool) (s : lf_Z), Q1 r s → Q2 r s → Q3 r s) (h1 : fm_80 a1 Q1 s) (h2 : fw_80 a1 Q2 s) : fm_80 a1 Q3 s := by
  unfold fm_80 at h1 ⊢
  unfold fw_80 at h2
  exact ⟨h1.1, ⟨(fun c2 => hQ _ _  (h1.2.1 c2) ((h2 h1.1).1 c2)), (fun c2 => ⟨(fun c4 => hQ _ _  ((h1.2.2 c2).1 c4) (((h2 h1.1).2 c2).1 c4)), (fun c4 => ⟨((h1.2.2 c2).2 c4).1, ⟨((h1.2.2 c2).2 c4).2.1, ⟨(fun c8 => hQ _ _  (((h1.2.2 c2).2 c4).2.2.1 c8) ((((((h2 h1.1).2 c2).2 c4) ((h1.2.2 c2).2 c4).1) ((h1.2.2 c2).2 c4).2.1).1 c8)), (fun c8 => hQ _ _  (((h1.2.2 c2).2 c4).2.2.2 c8) ((((((h2 h1.1).2 c2).2 c4) ((h1.2.2 c2).2 c4).1) ((h1.2.2 c2).2 c4).2.1).2 c8))⟩⟩⟩)⟩)⟩⟩
def fw_95_p59 (X2 : Int → lf_Z → Prop) (Q : lf_Z → Prop) (x1 : Int) (s : lf_Z) : Prop := X2 (x1 + 1) s
theorem cj_95_p59 {X21 X22 X23 : Int → lf_Z → Prop} {Q1 Q2 Q3 : lf_Z → Prop} {x1 : Int} {s : lf_Z} (hX2 : ∀ (v0 : Int) (v1 : lf_Z), X21 v0 v1 → X22 v0 v1 → X23 v0 v1) (hQ : ∀ (s : lf_Z), Q1 s → Q2 s → Q3 s) (h1 : fm_95_p59 X21 Q1 x1 s) (h2 : fw_95_p59 X22 Q2 x1 s) : fm_95_p59 X23 Q3 x1 s := by
  unfold fm_95_p59 at h1 ⊢
  unfold fw_95_p59 at h2
  exact hX2 _ _  h1 h2
def fw_95_p2 (Q : lf_Z → Prop) (X2 : Int → lf_Z → Prop) (x1 : Int) (s : lf_Z) : Prop := lf_R x1 → ((4 ≤ x1 → (Q s)) ∧ (¬ (4 ≤ x1) → (fw_80 x1 (fun z23 s22 => ((z23 = false → (fw_95_p59 X2 Q x1 s22)) ∧ (z23 = true → ((0 ≤ x1 ∧ x1 < 4) → ((0 ≤ s22.1 17 x1 ∧ s22.1 17 x1 < 12) → (fw_95_p59 X2 Q x1 (lf_up s22.1 21 (s22.1 17 x1) (lf_w ((s22.1 21 (s22.1 17 x1)) + (lf_w ((s22.1 16 x1) * (s22.1 3 (s22.1 17 x1)))))), s22.2.1, s22.2.2))))))) s)))
theorem cj_95_p2 {X21 X22 X23 : Int → lf_Z → Prop} {Q1 Q2 Q3 : lf_Z → Prop} {x1 : Int} {s : lf_Z} (hX2 : ∀ (v0 : Int) (v1 : lf_Z), X21 v0 v1 → X22 v0 v1 → X23 v0 v1) (hQ : ∀ (s : lf_Z), Q1 s → Q2 s → Q3 s) (h1 : fm_95_p2 Q1 X21 x1 s) (h2 : fw_95_p2 Q2 X22 x1 s) : fm_95_p2 Q3 X23 x1 s := by
  unfold fm_95_p2 at h1 ⊢
  unfold fw_95_p2 at h2
  exact ⟨h1.1, ⟨(fun c2 => hQ _  (h1.2.1 c2) ((h2 h1.1).1 c2)), (fun c2 => cj_80 (fun z23 s22 k4 l4 => ⟨(fun c5 => cj_95_p59 hX2 hQ (k4.1 c5) (l4.1 c5)), (fun c5 => ⟨(k4.2 c5).1, ⟨(k4.2 c5).2.1, cj_95_p59 hX2 hQ (k4.2 c5).2.2 (((l4.2 c5) (k4.2 c5).1) (k4.2 c5).2.1)⟩⟩)⟩) (h1.2.2 c2) ((h2 h1.1).2 c2))⟩⟩
def fw_95_p2L (Q : lf_Z → Prop) (x1 : Int) (s : lf_Z) : Prop := ∃ X2 : Int → lf_Z → Prop, (∀ (x1 : Int) (s : lf_Z), X2 x1 s → fw_95_p2 Q X2 x1 s) ∧ X2 x1 s
theorem cj_95_p2L {Q1 Q2 Q3 : lf_Z → Prop} {x1 : Int} {s : lf_Z} (hQ : ∀ (s : lf_Z), Q1 s → Q2 s → Q3 s) (h1 : fm_95_p2L Q1 x1 s) (h2 : fw_95_p2L Q2 x1 s) : fm_95_p2L Q3 x1 s := by
  intro X0 hX0
  obtain ⟨Y, hY, hY0⟩ := h2
  exact h1 (fun v0 s => Y v0 s → X0 v0 s) (fun v0 s hb hy => hX0 v0 s (cj_95_p2 (X21 := fun v0 s => Y v0 s → X0 v0 s) (X22 := Y) (X23 := X0) (hX2 := fun v0 s a b => a b) hQ hb (hY v0 s hy))) hY0
def fw_95 (Q : lf_Z → Prop) (s : lf_Z) : Prop := fw_95_p2L Q 0 s
theorem cj_95 {Q1 Q2 Q3 : lf_Z → Prop} {s : lf_Z} (hQ : ∀ (s : lf_Z), Q1 s → Q2 s → Q3 s) (h1 : fm_95 Q1 s) (h2 : fw_95 Q2 s) : fm_95 Q3 s := by
  unfold fm_95 at h1 ⊢
  unfold fw_95 at h2
  exact cj_95_p2L hQ h1 h2
def fw_96_p97 (X2 : Int → lf_Z → Prop) (Q : lf_Z → Prop) (x1 : Int) (s : lf_Z) : Prop := X2 (x1 + 1) s
theorem cj_96_p97 {X21 X22 X23 : Int → lf_Z → Prop} {Q1 Q2 Q3 : lf_Z → Prop} {x1 : Int} {s : lf_Z} (hX2 : ∀ (v0 : Int) (v1 : lf_Z), X21 v0 v1 → X22 v0 v1 → X23 v0 v1) (hQ : ∀ (s : lf_Z), Q1 s → Q2 s → Q3 s) (h1 : fm_96_p97 X21 Q1 x1 s) (h2 : fw_96_p97 X22 Q2 x1 s) : fm_96_p97 X23 Q3 x1 s := by
  unfold fm_96_p97 at h1 ⊢
  unfold fw_96_p97 at h2
  exact hX2 _ _  h1 h2
def fw_96_p91 (X2 : Int → lf_Z → Prop) (X11 : Int → lf_Z → Prop) (Q : lf_Z → Prop) (x1 : Int) (x2 : Int) (s : lf_Z) : Prop := X11 (x2 + 1) s
theorem cj_96_p91 {X21 X22 X23 : Int → lf_Z → Prop} {X111 X112 X113 : Int → lf_Z → Prop} {Q1 Q2 Q3 : lf_Z → Prop} {x1 : Int} {x2 : Int} {s : lf_Z} (hX2 : ∀ (v0 : Int) (v1 : lf_Z), X21 v0 v1 → X22 v0 v1 → X23 v0 v1) (hX11 : ∀ (v0 : Int) (v1 : lf_Z), X111 v0 v1 → X112 v0 v1 → X113 v0 v1) (hQ : ∀ (s : lf_Z), Q1 s → Q2 s → Q3 s) (h1 : fm_96_p91 X21 X111 Q1 x1 x2 s) (h2 : fw_96_p91 X22 X112 Q2 x1 x2 s) : fm_96_p91 X23 X113 Q3 x1 x2 s := by
  unfold fm_96_p91 at h1 ⊢
  unfold fw_96_p91 at h2
  exact hX11 _ _  h1 h2
def fw_96_p11 (X2 : Int → lf_Z → Prop) (Q : lf_Z → Prop) (x1 : Int) (X11 : Int → lf_Z → Prop) (x2 : Int) (s : lf_Z) : Prop := lf_R x2 → ((4 ≤ x2 → (fw_96_p97 X2 Q x1 s)) ∧ (¬ (4 ≤ x2) → (fw_80 x1 (fun z24 s23 => ((z24 = false → (fw_96_p97 X2 Q x1 s23)) ∧ (z24 = true → (fw_80 x2 (fun z26 s25 => ((z26 = false → (fw_96_p91 X2 X11 Q x1 x2 s25)) ∧ (z26 = true → ((0 ≤ x2 ∧ x2 < 4) → ((0 ≤ x1 ∧ x1 < 4) → (lf_R (s25.1 17 x2) → (lf_R (s25.1 17 x1) → ((s25.1 17 x2 ≠ s25.1 17 x1 → (fw_96_p91 X2 X11 Q x1 x2 s25)) ∧ (¬ (s25.1 17 x2 ≠ s25.1 17 x1) → (fw_69 x2 0 (-1) (-1) (fun s31 => (fw_96_p91 X2 X11 Q x1 x2 s31)) (lf_up s25.1 16 x1 (lf_w ((s25.1 16 x1) + (s25.1 16 x2))), s25.2.1, s25.2.2))))))))))) s23)))) s)))
theorem cj_96_p11 {X21 X22 X23 : Int → lf_Z → Prop} {X111 X112 X113 : Int → lf_Z → Prop} {Q1 Q2 Q3 : lf_Z → Prop} {x1 : Int} {x2 : Int} {s : lf_Z} (hX2 : ∀ (v0 : Int) (v1 : lf_Z), X21 v0 v1 → X22 v0 v1 → X23 v0 v1) (hX11 : ∀ (v0 : Int) (v1 : lf_Z), X111 v0 v1 → X112 v0 v1 → X113 v0 v1) (hQ : ∀ (s : lf_Z), Q1 s → Q2 s → Q3 s) (h1 : fm_96_p11 X21 Q1 x1 X111 x2 s) (h2 : fw_96_p11 X22 Q2 x1 X112 x2 s) : fm_96_p11 X23 Q3 x1 X113 x2 s := by
  unfold fm_96_p11 at h1 ⊢
  unfold fw_96_p11 at h2
  exact ⟨h1.1, ⟨(fun c2 => cj_96_p97 hX2 hQ (h1.2.1 c2) ((h2 h1.1).1 c2)), (fun c2 => cj_80 (fun z24 s23 k4 l4 => ⟨(fun c5 => cj_96_p97 hX2 hQ (k4.1 c5) (l4.1 c5)), (fun c5 => cj_80 (fun z26 s25 k7 l7 => ⟨(fun c8 => cj_96_p91 hX2 hX11 hQ (k7.1 c8) (l7.1 c8)), (fun c8 => ⟨(k7.2 c8).1, ⟨(k7.2 c8).2.1, ⟨(k7.2 c8).2.2.1, ⟨(k7.2 c8).2.2.2.1, ⟨(fun c14 => cj_96_p91 hX2 hX11 hQ ((k7.2 c8).2.2.2.2.1 c14) ((((((l7.2 c8) (k7.2 c8).1) (k7.2 c8).2.1) (k7.2 c8).2.2.1) (k7.2 c8).2.2.2.1).1 c14)), (fun c14 => cj_69 (fun s31 k16 l16 => cj_96_p91 hX2 hX11 hQ k16 l16) ((k7.2 c8).2.2.2.2.2 c14) ((((((l7.2 c8) (k7.2 c8).1) (k7.2 c8).2.1) (k7.2 c8).2.2.1) (k7.2 c8).2.2.2.1).2 c14))⟩⟩⟩⟩⟩)⟩) (k4.2 c5) (l4.2 c5))⟩) (h1.2.2 c2) ((h2 h1.1).2 c2))⟩⟩
def fw_96_p11L (X2 : Int → lf_Z → Prop) (Q : lf_Z → Prop) (x1 : Int) (x2 : Int) (s : lf_Z) : Prop := ∃ X11 : Int → lf_Z → Prop, (∀ (x2 : Int) (s : lf_Z), X11 x2 s → fw_96_p11 X2 Q x1 X11 x2 s) ∧ X11 x2 s
theorem cj_96_p11L {X21 X22 X23 : Int → lf_Z → Prop} {Q1 Q2 Q3 : lf_Z → Prop} {x1 : Int} {x2 : Int} {s : lf_Z} (hX2 : ∀ (v0 : Int) (v1 : lf_Z), X21 v0 v1 → X22 v0 v1 → X23 v0 v1) (hQ : ∀ (s : lf_Z), Q1 s → Q2 s → Q3 s) (h1 : fm_96_p11L X21 Q1 x1 x2 s) (h2 : fw_96_p11L X22 Q2 x1 x2 s) : fm_96_p11L X23 Q3 x1 x2 s := by
  intro X0 hX0
  obtain ⟨Y, hY, hY0⟩ := h2
  exact h1 (fun v0 s => Y v0 s → X0 v0 s) (fun v0 s hb hy => hX0 v0 s (cj_96_p11 (hX2 := hX2) (X111 := fun v0 s => Y v0 s → X0 v0 s) (X112 := Y) (X113 := X0) (hX11 := fun v0 s a b => a b) hQ hb (hY v0 s hy))) hY0
def fw_96_p2 (Q : lf_Z → Prop) (X2 : Int → lf_Z → Prop) (x1 : Int) (s : lf_Z) : Prop := lf_R x1 → ((4 ≤ x1 → (Q s)) ∧ (¬ (4 ≤ x1) → (fw_96_p11L X2 Q x1 (x1 + 1) s)))
theorem cj_96_p2 {X21 X22 X23 : Int → lf_Z → Prop} {Q1 Q2 Q3 : lf_Z → Prop} {x1 : Int} {s : lf_Z} (hX2 : ∀ (v0 : Int) (v1 : lf_Z), X21 v0 v1 → X22 v0 v1 → X23 v0 v1) (hQ : ∀ (s : lf_Z), Q1 s → Q2 s → Q3 s) (h1 : fm_96_p2 Q1 X21 x1 s) (h2 : fw_96_p2 Q2 X22 x1 s) : fm_96_p2 Q3 X23 x1 s := by
  unfold fm_96_p2 at h1 ⊢
  unfold fw_96_p2 at h2
  exact ⟨h1.1, ⟨(fun c2 => hQ _  (h1.2.1 c2) ((h2 h1.1).1 c2)), (fun c2 => cj_96_p11L hX2 hQ (h1.2.2 c2) ((h2 h1.1).2 c2))⟩⟩
def fw_96_p2L (Q : lf_Z → Prop) (x1 : Int) (s : lf_Z) : Prop := ∃ X2 : Int → lf_Z → Prop, (∀ (x1 : Int) (s : lf_Z), X2 x1 s → fw_96_p2 Q X2 x1 s) ∧ X2 x1 s
theorem cj_96_p2L {Q1 Q2 Q3 : lf_Z → Prop} {x1 : Int} {s : lf_Z} (hQ : ∀ (s : lf_Z), Q1 s → Q2 s → Q3 s) (h1 : fm_96_p2L Q1 x1 s) (h2 : fw_96_p2L Q2 x1 s) : fm_96_p2L Q3 x1 s := by
  intro X0 hX0
  obtain ⟨Y, hY, hY0⟩ := h2
  exact h1 (fun v0 s => Y v0 s → X0 v0 s) (fun v0 s hb hy => hX0 v0 s (cj_96_p2 (X21 := fun v0 s => Y v0 s → X0 v0 s) (X22 := Y) (X23 := X0) (hX2 := fun v0 s a b => a b) hQ hb (hY v0 s hy))) hY0
def fw_96 (Q : lf_Z → Prop) (s : lf_Z) : Prop := fw_96_p2L Q 0 s
theorem cj_96 {Q1 Q2 Q3 : lf_Z → Prop} {s : lf_Z} (hQ : ∀ (s : lf_Z), Q1 s → Q2 s → Q3 s) (h1 : fm_96 Q1 s) (h2 : fw_96 Q2 s) : fm_96 Q3 s := by
  unfold fm_96 at h1 ⊢
  unfold fw_96 at h2
  exact cj_96_p2L hQ h1 h2
def fw_76 (a1 : Int) (Q : Int → lf_Z → Prop) (s : lf_Z) : Prop := fw_18 a1 (fun z22 s21 => ((z22 = false → (Q 0 s21)) ∧ (z22 = true → ((0 ≤ a1 ∧ a1 < 12) → (Q (s21.1 12 a1) s21))))) s
theorem cj_76 {Q1 Q2 Q3 : Int → lf_Z → Prop} {a1 : Int} {s : lf_Z} (hQ : ∀ (r : Int) (s : lf_Z), Q1 r s → Q2 r s → Q3 r s) (h1 : fm_76 a1 Q1 s) (h2 : fw_76 a1 Q2 s) : fm_76 a1 Q3 s := by
  unfold fm_76 at h1 ⊢
  unfold fw_76 at h2
  exact cj_18 (fun z22 s21 k1 l1 => ⟨(fun c2 => hQ _ _  (k1.1 c2) (l1.1 c2)), (fun c2 => ⟨(k1.2 c2).1, hQ _ _  (k1.2 c2).2 ((l1.2 c2) (k1.2 c2).1)⟩)⟩) h1 h2
def fw_77 (a1 : Int) (a2 : Int) (Q : Int → lf_Z → Prop) (s : lf_Z) : Prop := fw_18 a1 (fun z22 s21 => ((z22 = false → (Q (-1) s21)) ∧ (z22 = true → (lf_R a2 → ((a2 < 0 → (Q (-1) s21)) ∧ (¬ (a2 < 0) → ((0 ≤ a1 ∧ a1 < 12) → (lf_R (s21.1 12 a1) → ((a2 < s21.1 12 a1 → ((0 ≤ (a1 * 4) + a2 ∧ (a1 * 4) + a2 < 48) → (Q (s21.1 11 ((a1 * 4) + a2)) s21))) ∧ (¬ (a2 < s21.1 12 a1) → (Q (-1) s21))))))))))) s
theorem cj_77 {Q1 Q2 Q3 : Int → lf_Z → Prop} {a1 : Int} {a2 : Int} {s : lf_Z} (hQ : ∀ (r : Int) (s : lf_Z), Q1 r s → Q2 r s → Q3 r s) (h1 : fm_77 a1 a2 Q1 s) (h2 : fw_77 a1 a2 Q2 s) : fm_77 a1 a2 Q3 s := by
  unfold fm_77 at h1 ⊢
  unfold fw_77 at h2
  exact cj_18 (fun z22 s21 k1 l1 => ⟨(fun c2 => hQ _ _  (k1.1 c2) (l1.1 c2)), (fun c2 => ⟨(k1.2 c2).1, ⟨(fun c5 => hQ _ _  ((k1.2 c2).2.1 c5) (((l1.2 c2) (k1.2 c2).1).1 c5)), (fun c5 => ⟨((k1.2 c2).2.2 c5).1, ⟨((k1.2 c2).2.2 c5).2.1, ⟨(fun c9 => ⟨(((k1.2 c2).2.2 c5).2.2.1 c9).1, hQ _ _  (((k1.2 c2).2.2 c5).2.2.1 c9).2 (((((((l1.2 c2) (k1.2 c2).1).2 c5) ((k1.2 c2).2.2 c5).1) ((k1.2 c2).2.2 c5).2.1).1 c9) (((k1.2 c2).2.2 c5).2.2.1 c9).1)⟩), (fun c9 => hQ _ _  (((k1.2 c2).2.2 c5).2.2.2 c9) ((((((l1.2 c2) (k1.2 c2).1).2 c5) ((k1.2 c2).2.2 c5).1) ((k1.2 c2).2.2 c5).2.1).2 c9))⟩⟩⟩)⟩⟩)⟩) h1 h2
def fw_79 (a1 : Int) (Q : Bool → lf_Z → Prop) (s : lf_Z) : Prop := lf_R a1 → ((a1 < 0 → (Q false s)) ∧ (¬ (a1 < 0) → (lf_R (s.1 1 1) → ((s.1 1 1 ≤ a1 → (Q false s)) ∧ (¬ (s.1 1 1 ≤ a1) → (Q true s))))))
theorem cj_79 {Q1 Q2 Q3 : Bool → lf_Z → Prop} {a1 : Int} {s : lf_Z} (hQ : ∀ (r : Bool) (s : lf_Z), Q1 r s → Q2 r s → Q3 r s) (h1 : fm_79 a1 Q1 s) (h2 : fw_79 a1 Q2 s) : fm_79 a1 Q3 s := by
  unfold fm_79 at h1 ⊢
  unfold fw_79 at h2
  exact ⟨h1.1, ⟨(fun c2 => hQ _ _  (h1.2.1 c2) ((h2 h1.1).1 c2)), (fun c2 => ⟨(h1.2.2 c2).1, ⟨(fun c5 => hQ _ _  ((h1.2.2 c2).2.1 c5) ((((h2 h1.1).2 c2) (h1.2.2 c2).1).1 c5)), (fun c5 => hQ _ _  ((h1.2.2 c2).2.2 c5) ((((h2 h1.1).2 c2) (h1.2.2 c2).1).2 c5))⟩⟩)⟩⟩
def fw_78 (a1 : Int) (a2 : Int) (Q : Int → lf_Z → Prop) (s : lf_Z) : Prop := fw_79 a1 (fun z22 s21 => ((z22 = true → ((0 ≤ a1 ∧ a1 < 16) → (lf_R (s21.1 4 a1) → (lf_R a2 → ((s21.1 4 a1 ≠ a2 → (lf_R (s21.1 5 a1) → ((s21.1 5 a1 ≠ a2 → (Q (-1) s21)) ∧ (¬ (s21.1 5 a1 ≠ a2) → (Q (s21.1 4 a1) s21))))) ∧ (¬ (s21.1 4 a1 ≠ a2) → (Q (s21.1 5 a1) s21))))))) ∧ (z22 = false → (Q (-1) s21)))) s
theorem cj_78 {Q1 Q2 Q3 : Int → lf_Z → Prop} {a1 : Int} {a2 : Int} {s : lf_Z} (hQ : ∀ (r : Int) (s : lf_Z), Q1 r s → Q2 r s → Q3 r s) (h1 : fm_78 a1 a2 Q1 s) (h2 : fw_78 a1 a2 Q2 s) : fm_78 a1 a2 Q3 s := by
  unfold fm_78 at h1 ⊢
  unfold fw_78 at h2
  exact cj_79 (fun z22 s21 k1 l1 => ⟨(fun c2 => ⟨(k1.1 c2).1, ⟨(k1.1 c2).2.1, ⟨(k1.1 c2).2.2.1, ⟨(fun c6 => ⟨((k1.1 c2).2.2.2.1 c6).1, ⟨(fun c8 => hQ _ _  (((k1.1 c2).2.2.2.1 c6).2.1 c8) (((((((l1.1 c2) (k1.1 c2).1) (k1.1 c2).2.1) (k1.1 c2).2.2.1).1 c6) ((k1.1 c2).2.2.2.1 c6).1).1 c8)), (fun c8 => hQ _ _  (((k1.1 c2).2.2.2.1 c6).2.2 c8) (((((((l1.1 c2) (k1.1 c2).1) (k1.1 c2).2.1) (k1.1 c2).2.2.1).1 c6) ((k1.1 c2).2.2.2.1 c6).1).2 c8))⟩⟩), (fun c6 => hQ _ _  ((k1.1 c2).2.2.2.2 c6) (((((l1.1 c2) (k1.1 c2).1) (k1.1 c2).2.1) (k1.1 c2).2.2.1).2 c6))⟩⟩⟩⟩), (fun c2 => hQ _ _  (k1.2 c2) (l1.2 c2))⟩) h1 h2
def fw_89 (a1 : Int) (Q : Bool → lf_Z → Prop) (s : lf_Z) : Prop := lf_R a1 → ((a1 < 0 → (Q false s)) ∧ (¬ (a1 < 0) → (lf_R (s.1 1 1) → ((s.1 1 1 ≤ a1 → (Q false s)) ∧ (¬ (s.1 1 1 ≤ a1) → ((0 ≤ a1 ∧ a1 < 16) → (lf_R (s.1 6 a1) → ((s.1 6 a1 ≠ 0 → (Q false s)) ∧ (¬ (s.1 6 a1 ≠ 0) → (Q true s))))))))))
theorem cj_89 {Q1 Q2 Q3 : Bool → lf_Z → Prop} {a1 : Int} {s : lf_Z} (hQ : ∀ (r : Bool) (s : lf_Z), Q1 r s → Q2 r s → Q3 r s) (h1 : fm_89 a1 Q1 s) (h2 : fw_89 a1 Q2 s) : fm_89 a1 Q3 s := by
  unfold fm_89 at h1 ⊢
  unfold fw_89 at h2
  exact ⟨h1.1, ⟨(fun c2 => hQ _ _  (h1.2.1 c2) ((h2 h1.1).1 c2)), (fun c2 => ⟨(h1.2.2 c2).1, ⟨(fun c5 => hQ _ _  ((h1.2.2 c2).2.1 c5) ((((h2 h1.1).2 c2) (h1.2.2 c2).1).1 c5)), (fun c5 => ⟨((h1.2.2 c2).2.2 c5).1, ⟨((h1.2.2 c2).2.2 c5).2.1, ⟨(fun c9 => hQ _ _  (((h1.2.2 c2).2.2 c5).2.2.1 c9) (((((((h2 h1.1).2 c2) (h1.2.2 c2).1).2 c5) ((h1.2.2 c2).2.2 c5).1) ((h1.2.2 c2).2.2 c5).2.1).1 c9)), (fun c9 => hQ _ _  (((h1.2.2 c2).2.2 c5).2.2.2 c9) (((((((h2 h1.1).2 c2) (h1.2.2 c2).1).2 c5) ((h1.2.2 c2).2.2 c5).1) ((h1.2.2 c2).2.2 c5).2.1).2 c9))⟩⟩⟩)⟩⟩)⟩⟩
def fw_90 (a1 : Int) (Q : Bool → lf_Z → Prop) (s : lf_Z) : Prop := (lf_and (lf_shr (s.1 15 6) a1) 1 ≠ 0 → (Q false s)) ∧ (¬ (lf_and (lf_shr (s.1 15 6) a1) 1 ≠ 0) → (Q true s))
theorem cj_90 {Q1 Q2 Q3 : Bool → lf_Z → Prop} {a1 : Int} {s : lf_Z} (hQ : ∀ (r : Bool) (s : lf_Z), Q1 r s → Q2 r s → Q3 r s) (h1 : fm_90 a1 Q1 s) (h2 : fw_90 a1 Q2 s) : fm_90 a1 Q3 s := by
  unfold fm_90 at h1 ⊢
  unfold fw_90 at h2
  exact ⟨(fun c1 => hQ _ _  (h1.1 c1) (h2.1 c1)), (fun c1 => hQ _ _  (h1.2 c1) (h2.2 c1))⟩
def fw_83_p31 (X4 : Int → Int → lf_Z → Prop) (Q : Int → lf_Z → Prop) (x1 : Int) (x2 : Int) (x3 : Int) (s : lf_Z) : Prop := X4 x2 (x3 + 1) s
theorem cj_83_p31 {X41 X42 X43 : Int → Int → lf_Z → Prop} {Q1 Q2 Q3 : Int → lf_Z → Prop} {x1 : Int} {x2 : Int} {x3 : Int} {s : lf_Z} (hX4 : ∀ (v0 : Int) (v1 : Int) (v2 : lf_Z), X41 v0 v1 v2 → X42 v0 v1 v2 → X43 v0 v1 v2) (hQ : ∀ (r : Int) (s : lf_Z), Q1 r s → Q2 r s → Q3 r s) (h1 : fm_83_p31 X41 Q1 x1 x2 x3 s) (h2 : fw_83_p31 X42 Q2 x1 x2 x3 s) : fm_83_p31 X43 Q3 x1 x2 x3 s := by
  unfold fm_83_p31 at h1 ⊢
  unfold fw_83_p31 at h2
  exact hX4 _ _ _  h1 h2
def fw_83_p4 (Q : Int → lf_Z → Prop) (x1 : Int) (X4 : Int → Int → lf_Z → Prop) (x2 : Int) (x3 : Int) (s : lf_Z) : Prop := lf_R x3 → (lf_R (s.1 1 2) → ((s.1 1 2 ≤ x3 → (Q x2 s)) ∧ (¬ (s.1 1 2 ≤ x3) → ((0 ≤ x3 ∧ x3 < 6) → (lf_R (s.1 19 x3) → (lf_R x1 → ((s.1 19 x3 ≠ x1 → (fw_83_p31 X4 Q x1 x2 x3 s)) ∧ (¬ (s.1 19 x3 ≠ x1) → (fw_83_p31 X4 Q x1 (x2 + 1) x3 s)))))))))
theorem cj_83_p4 {X41 X42 X43 : Int → Int → lf_Z → Prop} {Q1 Q2 Q3 : Int → lf_Z → Prop} {x1 : Int} {x2 : Int} {x3 : Int} {s : lf_Z} (hX4 : ∀ (v0 : Int) (v1 : Int) (v2 : lf_Z), X41 v0 v1 v2 → X42 v0 v1 v2 → X43 v0 v1 v2) (hQ : ∀ (r : Int) (s : lf_Z), Q1 r s → Q2 r s → Q3 r s) (h1 : fm_83_p4 Q1 x1 X41 x2 x3 s) (h2 : fw_83_p4 Q2 x1 X42 x2 x3 s) : fm_83_p4 Q3 x1 X43 x2 x3 s := by
  unfold fm_83_p4 at h1 ⊢
  unfold fw_83_p4 at h2
  exact ⟨h1.1, ⟨h1.2.1, ⟨(fun c3 => hQ _ _  (h1.2.2.1 c3) (((h2 h1.1) h1.2.1).1 c3)), (fun c3 => ⟨(h1.2.2.2 c3).1, ⟨(h1.2.2.2 c3).2.1, ⟨(h1.2.2.2 c3).2.2.1, ⟨(fun c8 => cj_83_p31 hX4 hQ ((h1.2.2.2 c3).2.2.2.1 c8) (((((((h2 h1.1) h1.2.1).2 c3) (h1.2.2.2 c3).1) (h1.2.2.2 c3).2.1) (h1.2.2.2 c3).2.2.1).1 c8)), (fun c8 => cj_83_p31 hX4 hQ ((h1.2.2.2 c3).2.2.2.2 c8) (((((((h2 h1.1) h1.2.1).2 c3) (h1.2.2.2 c3).1) (h1.2.2.2 c3).2.1) (h1.2.2.2 c3).2.2.1).2 c8))⟩⟩⟩⟩)⟩⟩⟩
def fw_83_p4L (Q : Int → lf_Z → Prop) (x1 : Int) (x2 : Int) (x3 : Int) (s : lf_Z) : Prop := ∃ X4 : Int → Int → lf_Z → Prop, (∀ (x2 : Int) (x3 : Int) (s : lf_Z), X4 x2 x3 s → fw_83_p4 Q x1 X4 x2 x3 s) ∧ X4 x2 x3 s
theorem cj_83_p4L {Q1 Q2 Q3 : Int → lf_Z → Prop} {x1 : Int} {x2 : Int} {x3 : Int} {s : lf_Z} (hQ : ∀ (r : Int) (s : lf_Z), Q1 r s → Q2 r s → Q3 r s) (h1 : fm_83_p4L Q1 x1 x2 x3 s) (h2 : fw_83_p4L Q2 x1 x2 x3 s) : fm_83_p4L Q3 x1 x2 x3 s := by
  intro X0 hX0
  obtain ⟨Y, hY, hY0⟩ := h2
  exact h1 (fun v0 v1 s => Y v0 v1 s → X0 v0 v1 s) (fun v0 v1 s hb hy => hX0 v0 v1 s (cj_83_p4 (X41 := fun v0 v1 s => Y v0 v1 s → X0 v0 v1 s) (X42 := Y) (X43 := X0) (hX4 := fun v0 v1 s a b => a b) hQ hb (hY v0 v1 s hy))) hY0
def fw_83 (a1 : Int) (Q : Int → lf_Z → Prop) (s : lf_Z) : Prop := fw_83_p4L Q a1 0 0 s
theorem cj_83 {Q1 Q2 Q3 : Int → lf_Z → Prop} {a1 : Int} {s : lf_Z} (hQ : ∀ (r : Int) (s : lf_Z), Q1 r s → Q2 r s → Q3 r s) (h1 : fm_83 a1 Q1 s) (h2 : fw_83 a1 Q2 s) : fm_83 a1 Q3 s := by
  unfold fm_83 at h1 ⊢
  unfold fw_83 at h2
  exact cj_83_p4L hQ h1 h2
def fw_82_p43 (Q : lf_Z → Prop) (x2 : Int) (x3 : Int) (y1 : Int) (y2 : Int) (s : lf_Z) : Prop := (0 ≤ y1 ∧ y1 < 11) → (fw_83 x2 (fun r25 s24 => (Q (lf_up s24.1 64 3 (r25 + x3), s24.2.1, s24.2.2))) (lf_up s.1 64 y1 y2, s.2.1, s.2.2))
theorem cj_82_p43 {Q1 Q2 Q3 : lf_Z → Prop} {x2 : Int} {x3 : Int} {y1 : Int} {y2 : Int} {s : lf_Z} (hQ : ∀ (s : lf_Z), Q1 s → Q2 s → Q3 s) (h1 : fm_82_p43 Q1 x2 x3 y1 y2 s) (h2 : fw_82_p43 Q2 x2 x3 y1 y2 s) : fm_82_p43 Q3 x2 x3 y1 y2 s := by
  unfold fm_82_p43 at h1 ⊢
  unfold fw_82_p43 at h2
  exact ⟨h1.1, cj_83 (fun r25 s24 k2 l2 => hQ _  k2 l2) h1.2 (h2 h1.1)⟩
def fw_82 (a1 : Int) (a2 : Int) (a3 : Int) (Q : lf_Z → Prop) (s : lf_Z) : Prop := fw_18 a2 (fun z22 s21 => ((z22 = false → (fw_82_p43 Q a2 a3 2 0 s21)) ∧ (z22 = true → ((0 ≤ a2 ∧ a2 < 12) → (fw_82_p43 Q a2 a3 2 (s21.1 2 a2) s21))))) (lf_up (lf_up s.1 64 0 a1) 64 1 a2, s.2.1, s.2.2)
theorem cj_82 {Q1 Q2 Q3 : lf_Z → Prop} {a1 : Int} {a2 : Int} {a3 : Int} {s : lf_Z} (hQ : ∀ (s : lf_Z), Q1 s → Q2 s → Q3 s) (h1 : fm_82 a1 a2 a3 Q1 s) (h2 : fw_82 a1 a2 a3 Q2 s) : fm_82 a1 a2 a3 Q3 s := by
  unfold fm_82 at h1 ⊢
  unfold fw_82 at h2
  exact cj_18 (fun z22 s21 k1 l1 => ⟨(fun c2 => cj_82_p43 hQ (k1.1 c2) (l1.1 c2)), (fun c2 => ⟨(k1.2 c2).1, cj_82_p43 hQ (k1.2 c2).2 ((l1.2 c2) (k1.2 c2).1)⟩)⟩) h1 h2
def fw_84 (a2 : Int) (Q : Int → lf_Z → Prop) (s : lf_Z) : Prop := True
theorem cj_84 {Q1 Q2 Q3 : Int → lf_Z → Prop} {a2 : Int} {s : lf_Z} (hQ : ∀ (r : Int) (s : lf_Z), Q1 r s → Q2 r s → Q3 r s) (h1 : fm_84 a2 Q1 s) (h2 : fw_84 a2 Q2 s) : fm_84 a2 Q3 s := by
  unfold fm_84 at h1 ⊢
  unfold fw_84 at h2
  exact h1.elim
def fw_86 (Q : Int → lf_Z → Prop) (s : lf_Z) : Prop := lf_R (s.1 63 6) → ((s.1 63 6 ≠ 0 → ((0 ≤ (s.1 63 6) - 1 ∧ (s.1 63 6) - 1 < 300) → (Q (s.1 66 ((s.1 63 6) - 1)) (lf_up s.1 63 6 ((s.1 63 6) - 1), s.2.1, s.2.2)))) ∧ (¬ (s.1 63 6 ≠ 0) → (Q 0 s)))
theorem cj_86 {Q1 Q2 Q3 : Int → lf_Z → Prop} {s : lf_Z} (hQ : ∀ (r : Int) (s : lf_Z), Q1 r s → Q2 r s → Q3 r s) (h1 : fm_86 Q1 s) (h2 : fw_86 Q2 s) : fm_86 Q3 s := by
  unfold fm_86 at h1 ⊢
  unfold fw_86 at h2
  exact ⟨h1.1, ⟨(fun c2 => ⟨(h1.2.1 c2).1, hQ _ _  (h1.2.1 c2).2 (((h2 h1.1).1 c2) (h1.2.1 c2).1)⟩), (fun c2 => hQ _ _  (h1.2.2 c2) ((h2 h1.1).2 c2))⟩⟩
def fw_87_p310 (Q : Int → lf_Z → Prop) (x1 : Int) (x2 : Int) (s : lf_Z) : Prop := lf_R x1 → (lf_R x2 → ((x1 = x2 → (Q 0 s)) ∧ (¬ (x1 = x2) → (Q 1 s))))
theorem cj_87_p310 {Q1 Q2 Q3 : Int → lf_Z → Prop} {x1 : Int} {x2 : Int} {s : lf_Z} (hQ : ∀ (r : Int) (s : lf_Z), Q1 r s → Q2 r s → Q3 r s) (h1 : fm_87_p310 Q1 x1 x2 s) (h2 : fw_87_p310 Q2 x1 x2 s) : fm_87_p310 Q3 x1 x2 s := by
  unfold fm_87_p310 at h1 ⊢
  unfold fw_87_p310 at h2
  exact ⟨h1.1, ⟨h1.2.1, ⟨(fun c3 => hQ _ _  (h1.2.2.1 c3) (((h2 h1.1) h1.2.1).1 c3)), (fun c3 => hQ _ _  (h1.2.2.2 c3) (((h2 h1.1) h1.2.1).2 c3))⟩⟩⟩
def fw_87 (a0 : Int) (a1 : Int) (a2 : Int) (Q : Int → lf_Z → Prop) (s : lf_Z) : Prop := lf_R a0 → ((a0 < 4 ∨ 46 < a0 → (fw_87_p310 Q a1 a2 s)) ∧ (a0 = 4 → (lf_R a1 → (lf_R a2 → ((a2 ≤ a1 → (Q 0 s)) ∧ (¬ (a2 ≤ a1) → (Q 1 s)))))) ∧ (a0 = 5 → (lf_R a1 → (lf_R a2 → ((a2 < a1 → (Q 0 s)) ∧ (¬ (a2 < a1) → (Q 1 s)))))) ∧ (a0 = 6 → (lf_R a1 → (lf_R a2 → ((a1 ≤ a2 → (Q 0 s)) ∧ (¬ (a1 ≤ a2) → (Q 1 s)))))) ∧ (a0 = 7 → (lf_R a1 → (lf_R a2 → ((a1 < a2 → (Q 0 s)) ∧ (¬ (a1 < a2) → (Q 1 s)))))) ∧ (a0 = 8 → (lf_R a1 → (lf_R a2 → ((a1 ≠ a2 → (Q 0 s)) ∧ (¬ (a1 ≠ a2) → (Q 1 s)))))) ∧ (a0 = 9 → (fw_87_p310 Q a1 a2 s)) ∧ (a0 = 10 → (lf_R (min 1000000 (lf_w (a1 + a2))) → (Q (max (-1000000) (min 1000000 (lf_w (a1 + a2)))) s))) ∧ (a0 = 11 → (lf_R (min 1000000 (lf_w (a1 - a2))) → (Q (max (-1000000) (min 1000000 (lf_w (a1 - a2)))) s))) ∧ (a0 = 12 → (lf_R a1 → (lf_R a2 → (Q (lf_w (lf_wl (max (-1000000) (lf_wl (min 1000000 (lf_wl (a1 * a2))))))) s)))) ∧ (a0 = 13 → (lf_R a2 → ((a2 ≠ 0 → (lf_R a1 → (a2 ≠ 0 → (Q (lf_w (a1.tdiv a2)) s)))) ∧ (¬ (a2 ≠ 0) → (Q 0 s))))) ∧ (a0 = 14 → (fw_87_p310 Q a1 a2 s)) ∧ (a0 = 15 → (fw_87_p310 Q a1 a2 s)) ∧ (a0 = 16 → (fw_87_p310 Q a1 a2 s)) ∧ (a0 = 17 → (fw_87_p310 Q a1 a2 s)) ∧ (a0 = 18 → (fw_87_p310 Q a1 a2 s)) ∧ (a0 = 19 → (fw_87_p310 Q a1 a2 s)) ∧ (a0 = 20 → (fw_87_p310 Q a1 a2 s)) ∧ (a0 = 21 → (fw_87_p310 Q a1 a2 s)) ∧ (a0 = 22 → (fw_87_p310 Q a1 a2 s)) ∧ (a0 = 23 → (fw_87_p310 Q a1 a2 s)) ∧ (a0 = 24 → (fw_87_p310 Q a1 a2 s)) ∧ (a0 = 25 → (fw_87_p310 Q a1 a2 s)) ∧ (a0 = 26 → (fw_87_p310 Q a1 a2 s)) ∧ (a0 = 27 → (fw_87_p310 Q a1 a2 s)) ∧ (a0 = 28 → (fw_87_p310 Q a1 a2 s)) ∧ (a0 = 29 → (fw_87_p310 Q a1 a2 s)) ∧ (a0 = 30 → (fw_87_p310 Q a1 a2 s)) ∧ (a0 = 31 → (fw_87_p310 Q a1 a2 s)) ∧ (a0 = 32 → (fw_87_p310 Q a1 a2 s)) ∧ (a0 = 33 → (fw_87_p310 Q a1 a2 s)) ∧ (a0 = 34 → (fw_87_p310 Q a1 a2 s)) ∧ (a0 = 35 → (fw_87_p310 Q a1 a2 s)) ∧ (a0 = 36 → (fw_87_p310 Q a1 a2 s)) ∧ (a0 = 37 → (fw_87_p310 Q a1 a2 s)) ∧ (a0 = 38 → (fw_87_p310 Q a1 a2 s)) ∧ (a0 = 39 → (fw_87_p310 Q a1 a2 s)) ∧ (a0 = 40 → (fw_87_p310 Q a1 a2 s)) ∧ (a0 = 41 → (fw_87_p310 Q a1 a2 s)) ∧ (a0 = 42 → (fw_87_p310 Q a1 a2 s)) ∧ (a0 = 43 → (fw_87_p310 Q a1 a2 s)) ∧ (a0 = 44 → (fw_87_p310 Q a1 a2 s)) ∧ (a0 = 45 → (Q (lf_and a1 a2) s)) ∧ (a0 = 46 → (Q (lf_or a1 a2) s)))
theorem cj_87 {Q1 Q2 Q3 : Int → lf_Z → Prop} {a0 : Int} {a1 : Int} {a2 : Int} {s : lf_Z} (hQ : ∀ (r : Int) (s : lf_Z), Q1 r s → Q2 r s → Q3 r s) (h1 : fm_87 a0 a1 a2 Q1 s) (h2 : fw_87 a0 a1 a2 Q2 s) : fm_87 a0 a1 a2 Q3 s := by
  unfold fm_87 at h1 ⊢
  unfold fw_87 at h2
  exact ⟨h1.1, ⟨(fun c2 => cj_87_p310 hQ (h1.2.1 c2) ((h2 h1.1).1 c2)), (fun c2 => ⟨(h1.2.2.1 c2).1, ⟨(h1.2.2.1 c2).2.1, ⟨(fun c6 => hQ _ _  ((h1.2.2.1 c2).2.2.1 c6) (((((h2 h1.1).2.1 c2) (h1.2.2.1 c2).1) (h1.2.2.1 c2).2.1).1 c6)), (fun c6 => hQ _ _  ((h1.2.2.1 c2).2.2.2 c6) (((((h2 h1.1).2.1 c2) (h1.2.2.1 c2).1) (h1.2.2.1 c2).2.1).2 c6))⟩⟩⟩), (fun c2 => ⟨(h1.2.2.2.1 c2).1, ⟨(h1.2.2.2.1 c2).2.1, ⟨(fun c11 => hQ _ _  ((h1.2.2.2.1 c2).2.2.1 c11) (((((h2 h1.1).2.2.1 c2) (h1.2.2.2.1 c2).1) (h1.2.2.2.1 c2).2.1).1 c11)), (fun c11 => hQ _ _  ((h1.2.2.2.1 c2).2.2.2 c11) (((((h2 h1.1).2.2.1 c2) (h1.2.2.2.1 c2).1) (h1.2.2.2.1 c2).2.1).2 c11))⟩⟩⟩), (fun c2 => ⟨(h1.2.2.2.2.1 c2).1, ⟨(h1.2.2.2.2.1 c2).2.1, ⟨(fun c16 => hQ _ _  ((h1.2.2.2.2.1 c2).2.2.1 c16) (((((h2 h1.1).2.2.2.1 c2) (h1.2.2.2.2.1 c2).1) (h1.2.2.2.2.1 c2).2.1).1 c16)), (fun c16 => hQ _ _  ((h1.2.2.2.2.1 c2).2.2.2 c16) (((((h2 h1.1).2.2.2.1 c2) (h1.2.2.2.2.1 c2).1) (h1.2.2.2.2.1 c2).2.1).2 c16))⟩⟩⟩), (fun c2 => ⟨(h1.2.2.2.2.2.1 c2).1, ⟨(h1.2.2.2.2.2.1 c2).2.1, ⟨(fun c21 => hQ _ _  ((h1.2.2.2.2.2.1 c2).2.2.1 c21) (((((h2 h1.1).2.2.2.2.1 c2) (h1.2.2.2.2.2.1 c2).1) (h1.2.2.2.2.2.1 c2).2.1).1 c21)), (fun c21 => hQ _ _  ((h1.2.2.2.2.2.1 c2).2.2.2 c21) (((((h2 h1.1).2.2.2.2.1 c2) (h1.2.2.2.2.2.1 c2).1) (h1.2.2.2.2.2.1 c2).2.1).2 c21))⟩⟩⟩), (fun c2 => ⟨(h1.2.2.2.2.2.2.1 c2).1, ⟨(h1.2.2.2.2.2.2.1 c2).2.1, ⟨(fun c26 => hQ _ _  ((h1.2.2.2.2.2.2.1 c2).2.2.1 c26) (((((h2 h1.1).2.2.2.2.2.1 c2) (h1.2.2.2.2.2.2.1 c2).1) (h1.2.2.2.2.2.2.1 c2).2.1).1 c26)), (fun c26 => hQ _ _  ((h1.2.2.2.2.2.2.1 c2).2.2.2 c26) (((((h2 h1.1).2.2.2.2.2.1 c2) (h1.2.2.2.2.2.2.1 c2).1) (h1.2.2.2.2.2.2.1 c2).2.1).2 c26))⟩⟩⟩), (fun c2 => cj_87_p310 hQ (h1.2.2.2.2.2.2.2.1 c2) ((h2 h1.1).2.2.2.2.2.2.1 c2)), (fun c2 => ⟨(h1.2.2.2.2.2.2.2.2.1 c2).1, hQ _ _  (h1.2.2.2.2.2.2.2.2.1 c2).2 (((h2 h1.1).2.2.2.2.2.2.2.1 c2) (h1.2.2.2.2.2.2.2.2.1 c2).1)⟩), (fun c2 => ⟨(h1.2.2.2.2.2.2.2.2.2.1 c2).1, hQ _ _  (h1.2.2.2.2.2.2.2.2.2.1 c2).2 (((h2 h1.1).2.2.2.2.2.2.2.2.1 c2) (h1.2.2.2.2.2.2.2.2.2.1 c2).1)⟩), (fun c2 => ⟨(h1.2.2.2.2.2.2.2.2.2.2.1 c2).1, ⟨(h1.2.2.2.2.2.2.2.2.2.2.1 c2).2.1, hQ _ _  (h1.2.2.2.2.2.2.2.2.2.2.1 c2).2.2 ((((h2 h1.1).2.2.2.2.2.2.2.2.2.1 c2) (h1.2.2.2.2.2.2.2.2.2.2.1 c2).1) (h1.2.2.2.2.2.2.2.2.2.2.1 c2).2.1)⟩⟩), (fun c2 => ⟨(h1.2.2.2.2.2.2.2.2.2.2.2.1 c2).1, ⟨(fun c38 => ⟨((h1.2.2.2.2.2.2.2.2.2.2.2.1 c2).2.1 c38).1, ⟨((h1.2.2.2.2.2.2.2.2.2.2.2.1 c2).2.1 c38).2.1, hQ _ _  ((h1.2.2.2.2.2.2.2.2.2.2.2.1 c2).2.1 c38).2.2 ((((((h2 h1.1).2.2.2.2.2.2.2.2.2.2.1 c2) (h1.2.2.2.2.2.2.2.2.2.2.2.1 c2).1).1 c38) ((h1.2.2.2.2.2.2.2.2.2.2.2.1 c2).2.1 c38).1) ((h1.2.2.2.2.2.2.2.2.2.2.2.1 c2).2.1 c38).2.1)⟩⟩), (fun c38 => hQ _ _  ((h1.2.2.2.2.2.2.2.2.2.2.2.1 c2).2.2 c38) ((((h2 h1.1).2.2.2.2.2.2.2.2.2.2.1 c2) (h1.2.2.2.2.2.2.2.2.2.2.2.1 c2).1).2 c38))⟩⟩), (fun c2 => cj_87_p310 hQ (h1.2.2.2.2.2.2.2.2.2.2.2.2.1 c2) ((h2 h1.1).2.2.2.2.2.2.2.2.2.2.2.1 c2)), (fun c2 => cj_87_p310 hQ (h1.2.2.2.2.2.2.2.2.2.2.2.2.2.1 c2) ((h2 h1.1).2.2.2.2.2.2.2.2.2.2.2.2.1 c2)), (fun c2 => cj_87_p310 hQ (h1.2.2.2.2.2.2.2.2.2.2.2.2.2.2.1 c2) ((h2 h1.1).2.2.2.2.2.2.2.2.2.2.2.2.2.1 c2)), (fun c2 => cj_87_p310 hQ (h1.2.2.2.2.2.2.2.2.2.2.2.2.2.2.2.1 c2) ((h2 h1.1).2.2.2.2.2.2.2.2.2.2.2.2.2.2.1 c2)), (fun c2 => cj_87_p310 hQ (h1.2.2.2.2.2.2.2.2.2.2.2.2.2.2.2.2.1 c2) ((h2 h1.1).2.2.2.2.2.2.2.2.2.2.2.2.2.2.2.1 c2)), (fun c2 => cj_87_p310 hQ (h1.2.2.2.2.2.2.2.2.2.2.2.2.2.2.2.2.2.1 c2) ((h2 h1.1).2.2.2.2.2.2.2.2.2.2.2.2.2.2.2.2.1 c2)), (fun c2 => cj_87_p310 hQ (h1.2.2.2.2.2.2.2.2.2.2.2.2.2.2.2.2.2.2.1 c2) ((h2 h1.1).2.2.2.2.2.2.2.2.2.2.2.2.2.2.2.2.2.1 c2)), (fun c2 => cj_87_p310 hQ (h1.2.2.2.2.2.2.2.2.2.2.2.2.2.2.2.2.2.2.2.1 c2) ((h2 h1.1).2.2.2.2.2.2.2.2.2.2.2.2.2.2.2.2.2.2.1 c2)), (fun c2 => cj_87_p310 hQ (h1.2.2.2.2.2.2.2.2.2.2.2.2.2.2.2.2.2.2.2.2.1 c2) ((h2 h1.1).2.2.2.2.2.2.2.2.2.2.2.2.2.2.2.2.2.2.2.1 c2)), (fun c2 => cj_87_p310 hQ (h1.2.2.2.2.2.2.2.2.2.2.2.2.2.2.2.2.2.2.2.2.2.1 c2) ((h2 h1.1).2.2.2.2.2.2.2.2.2.2.2.2.2.2.2.2.2.2.2.2.1 c2)), (fun c2 => cj_87_p310 hQ (h1.2.2.2.2.2.2.2.2.2.2.2.2.2.2.2.2.2.2.2.2.2.2.1 c2) ((h2 h1.1).2.2.2.2.2.2.2.2.2.2.2.2.2.2.2.2.2.2.2.2.2.1 c2)), (fun c2 => cj_87_p310 hQ (h1.2.2.2.2.2.2.2.2.2.2.2.2.2.2.2.2.2.2.2.2.2.2.2.1 c2) ((h2 h1.1).2.2.2.2.2.2.2.2.2.2.2.2.2.2.2.2.2.2.2.2.2.2.1 c2)), (fun c2 => cj_87_p310 hQ (h1.2.2.2.2.2.2.2.2.2.2.2.2.2.2.2.2.2.2.2.2.2.2.2.2.1 c2) ((h2 h1.1).2.2.2.2.2.2.2.2.2.2.2.2.2.2.2.2.2.2.2.2.2.2.2.1 c2)), (fun c2 => cj_87_p310 hQ (h1.2.2.2.2.2.2.2.2.2.2.2.2.2.2.2.2.2.2.2.2.2.2.2.2.2.1 c2) ((h2 h1.1).2.2.2.2.2.2.2.2.2.2.2.2.2.2.2.2.2.2.2.2.2.2.2.2.1 c2)), (fun c2 => cj_87_p310 hQ (h1.2.2.2.2.2.2.2.2.2.2.2.2.2.2.2.2.2.2.2.2.2.2.2.2.2.2.1 c2) ((h2 h1.1).2.2.2.2.2.2.2.2.2.2.2.2.2.2.2.2.2.2.2.2.2.2.2.2.2.1 c2)), (fun c2 => cj_87_p310 hQ (h1.2.2.2.2.2.2.2.2.2.2.2.2.2.2.2.2.2.2.2.2.2.2.2.2.2.2.2.1 c2) ((h2 h1.1).2.2.2.2.2.2.2.2.2.2.2.2.2.2.2.2.2.2.2.2.2.2.2.2.2.2.1 c2)), (fun c2 => cj_87_p310 hQ (h1.2.2.2.2.2.2.2.2.2.2.2.2.2.2.2.2.2.2.2.2.2.2.2.2.2.2.2.2.1 c2) ((h2 h1.1).2.2.2.2.2.2.2.2.2.2.2.2.2.2.2.2.2.2.2.2.2.2.2.2.2.2.2.1 c2)), (fun c2 => cj_87_p310 hQ (h1.2.2.2.2.2.2.2.2.2.2.2.2.2.2.2.2.2.2.2.2.2.2.2.2.2.2.2.2.2.1 c2) ((h2 h1.1).2.2.2.2.2.2.2.2.2.2.2.2.2.2.2.2.2.2.2.2.2.2.2.2.2.2.2.2.1 c2)), (fun c2 => cj_87_p310 hQ (h1.2.2.2.2.2.2.2.2.2.2.2.2.2.2.2.2.2.2.2.2.2.2.2.2.2.2.2.2.2.2.1 c2) ((h2 h1.1).2.2.2.2.2.2.2.2.2.2.2.2.2.2.2.2.2.2.2.2.2.2.2.2.2.2.2.2.2.1 c2)), (fun c2 => cj_87_p310 hQ (h1.2.2.2.2.2.2.2.2.2.2.2.2.2.2.2.2.2.2.2.2.2.2.2.2.2.2.2.2.2.2.2.1 c2) ((h2 h1.1).2.2.2.2.2.2.2.2.2.2.2.2.2.2.2.2.2.2.2.2.2.2.2.2.2.2.2.2.2.2.1 c2)), (fun c2 => cj_87_p310 hQ (h1.2.2.2.2.2.2.2.2.2.2.2.2.2.2.2.2.2.2.2.2.2.2.2.2.2.2.2.2.2.2.2.2.1 c2) ((h2 h1.1).2.2.2.2.2.2.2.2.2.2.2.2.2.2.2.2.2.2.2.2.2.2.2.2.2.2.2.2.2.2.2.1 c2)), (fun c2 => cj_87_p310 hQ (h1.2.2.2.2.2.2.2.2.2.2.2.2.2.2.2.2.2.2.2.2.2.2.2.2.2.2.2.2.2.2.2.2.2.1 c2) ((h2 h1.1).2.2.2.2.2.2.2.2.2.2.2.2.2.2.2.2.2.2.2.2.2.2.2.2.2.2.2.2.2.2.2.2.1 c2)), (fun c2 => cj_87_p310 hQ (h1.2.2.2.2.2.2.2.2.2.2.2.2.2.2.2.2.2.2.2.2.2.2.2.2.2.2.2.2.2.2.2.2.2.2.1 c2) ((h2 h1.1).2.2.2.2.2.2.2.2.2.2.2.2.2.2.2.2.2.2.2.2.2.2.2.2.2.2.2.2.2.2.2.2.2.1 c2)), (fun c2 => cj_87_p310 hQ (h1.2.2.2.2.2.2.2.2.2.2.2.2.2.2.2.2.2.2.2.2.2.2.2.2.2.2.2.2.2.2.2.2.2.2.2.1 c2) ((h2 h1.1).2.2.2.2.2.2.2.2.2.2.2.2.2.2.2.2.2.2.2.2.2.2.2.2.2.2.2.2.2.2.2.2.2.2.1 c2)), (fun c2 => cj_87_p310 hQ (h1.2.2.2.2.2.2.2.2.2.2.2.2.2.2.2.2.2.2.2.2.2.2.2.2.2.2.2.2.2.2.2.2.2.2.2.2.1 c2) ((h2 h1.1).2.2.2.2.2.2.2.2.2.2.2.2.2.2.2.2.2.2.2.2.2.2.2.2.2.2.2.2.2.2.2.2.2.2.2.1 c2)), (fun c2 => cj_87_p310 hQ (h1.2.2.2.2.2.2.2.2.2.2.2.2.2.2.2.2.2.2.2.2.2.2.2.2.2.2.2.2.2.2.2.2.2.2.2.2.2.1 c2) ((h2 h1.1).2.2.2.2.2.2.2.2.2.2.2.2.2.2.2.2.2.2.2.2.2.2.2.2.2.2.2.2.2.2.2.2.2.2.2.2.1 c2)), (fun c2 => cj_87_p310 hQ (h1.2.2.2.2.2.2.2.2.2.2.2.2.2.2.2.2.2.2.2.2.2.2.2.2.2.2.2.2.2.2.2.2.2.2.2.2.2.2.1 c2) ((h2 h1.1).2.2.2.2.2.2.2.2.2.2.2.2.2.2.2.2.2.2.2.2.2.2.2.2.2.2.2.2.2.2.2.2.2.2.2.2.2.1 c2)), (fun c2 => cj_87_p310 hQ (h1.2.2.2.2.2.2.2.2.2.2.2.2.2.2.2.2.2.2.2.2.2.2.2.2.2.2.2.2.2.2.2.2.2.2.2.2.2.2.2.1 c2) ((h2 h1.1).2.2.2.2.2.2.2.2.2.2.2.2.2.2.2.2.2.2.2.2.2.2.2.2.2.2.2.2.2.2.2.2.2.2.2.2.2.2.1 c2)), (fun c2 => cj_87_p310 hQ (h1.2.2.2.2.2.2.2.2.2.2.2.2.2.2.2.2.2.2.2.2.2.2.2.2.2.2.2.2.2.2.2.2.2.2.2.2.2.2.2.2.1 c2) ((h2 h1.1).2.2.2.2.2.2.2.2.2.2.2.2.2.2.2.2.2.2.2.2.2.2.2.2.2.2.2.2.2.2.2.2.2.2.2.2.2.2.2.1 c2)), (fun c2 => cj_87_p310 hQ (h1.2.2.2.2.2.2.2.2.2.2.2.2.2.2.2.2.2.2.2.2.2.2.2.2.2.2.2.2.2.2.2.2.2.2.2.2.2.2.2.2.2.1 c2) ((h2 h1.1).2.2.2.2.2.2.2.2.2.2.2.2.2.2.2.2.2.2.2.2.2.2.2.2.2.2.2.2.2.2.2.2.2.2.2.2.2.2.2.2.1 c2)), (fun c2 => cj_87_p310 hQ (h1.2.2.2.2.2.2.2.2.2.2.2.2.2.2.2.2.2.2.2.2.2.2.2.2.2.2.2.2.2.2.2.2.2.2.2.2.2.2.2.2.2.2.1 c2) ((h2 h1.1).2.2.2.2.2.2.2.2.2.2.2.2.2.2.2.2.2.2.2.2.2.2.2.2.2.2.2.2.2.2.2.2.2.2.2.2.2.2.2.2.2.1 c2)), (fun c2 => hQ _ _  (h1.2.2.2.2.2.2.2.2.2.2.2.2.2.2.2.2.2.2.2.2.2.2.2.2.2.2.2.2.2.2.2.2.2.2.2.2.2.2.2.2.2.2.2.1 c2) ((h2 h1.1).2.2.2.2.2.2.2.2.2.2.2.2.2.2.2.2.2.2.2.2.2.2.2.2.2.2.2.2.2.2.2.2.2.2.2.2.2.2.2.2.2.2.1 c2)), (fun c2 => hQ _ _  (h1.2.2.2.2.2.2.2.2.2.2.2.2.2.2.2.2.2.2.2.2.2.2.2.2.2.2.2.2.2.2.2.2.2.2.2.2.2.2.2.2.2.2.2.2 c2) ((h2 h1.1).2.2.2.2.2.2.2.2.2.2.2.2.2.2.2.2.2.2.2.2.2.2.2.2.2.2.2.2.2.2.2.2.2.2.2.2.2.2.2.2.2.2.2 c2))⟩⟩
def fw_85 (a1 : Int) (Q : lf_Z → Prop) (s : lf_Z) : Prop := lf_R (s.1 63 6) → ((300 ≤ s.1 63 6 → (Q s)) ∧ (¬ (300 ≤ s.1 63 6) → ((0 ≤ s.1 63 6 ∧ s.1 63 6 < 300) → (Q (lf_up (lf_up s.1 66 (s.1 63 6) a1) 63 6 ((s.1 63 6) + 1), s.2.1, s.2.2)))))
theorem cj_85 {Q1 Q2 Q3 : lf_Z → Prop} {a1 : Int} {s : lf_Z} (hQ : ∀ (s : lf_Z), Q1 s → Q2 s → Q3 s) (h1 : fm_85 a1 Q1 s) (h2 : fw_85 a1 Q2 s) : fm_85 a1 Q3 s := by
  unfold fm_85 at h1 ⊢
  unfold fw_85 at h2
  exact ⟨h1.1, ⟨(fun c2 => hQ _  (h1.2.1 c2) ((h2 h1.1).1 c2)), (fun c2 => ⟨(h1.2.2 c2).1, hQ _  (h1.2.2 c2).2 (((h2 h1.1).2 c2) (h1.2.2 c2).1)⟩)⟩⟩
def fw_84b_p311 (Q : Int → lf_Z → Prop) (s : lf_Z) : Prop := fw_86 (fun r25 s24 => (Q r25 s24)) s
theorem cj_84b_p311 {Q1 Q2 Q3 : Int → lf_Z → Prop} {s : lf_Z} (hQ : ∀ (r : Int) (s : lf_Z), Q1 r s → Q2 r s → Q3 r s) (h1 : fm_84b_p311 Q1 s) (h2 : fw_84b_p311 Q2 s) : fm_84b_p311 Q3 s := by
  unfold fm_84b_p311 at h1 ⊢
  unfold fw_84b_p311 at h2
  exact cj_86 (fun r25 s24 k1 l1 => hQ _ _  k1 l1) h1 h2
def fw_84b_p305 (X29 : Int → Int → lf_Z → Prop) (Q : Int → lf_Z → Prop) (u1 : Nat) (x3 : Int) (x4 : Int) (x5 : Int) (s : lf_Z) : Prop := X29 x4 (x5 + 1) s
theorem cj_84b_p305 {X291 X292 X293 : Int → Int → lf_Z → Prop} {Q1 Q2 Q3 : Int → lf_Z → Prop} {u1 : Nat} {x3 : Int} {x4 : Int} {x5 : Int} {s : lf_Z} (hX29 : ∀ (v0 : Int) (v1 : Int) (v2 : lf_Z), X291 v0 v1 v2 → X292 v0 v1 v2 → X293 v0 v1 v2) (hQ : ∀ (r : Int) (s : lf_Z), Q1 r s → Q2 r s → Q3 r s) (h1 : fm_84b_p305 X291 Q1 u1 x3 x4 x5 s) (h2 : fw_84b_p305 X292 Q2 u1 x3 x4 x5 s) : fm_84b_p305 X293 Q3 u1 x3 x4 x5 s := by
  unfold fm_84b_p305 at h1 ⊢
  unfold fw_84b_p305 at h2
  exact hX29 _ _ _  h1 h2
def fw_84b_p208 (X29 : Int → Int → lf_Z → Prop) (Q : Int → lf_Z → Prop) (u1 : Nat) (x3 : Int) (x4 : Int) (x5 : Int) (y1 : Int) (s : lf_Z) : Prop := fw_85 y1 (fun s40 => (fw_84b_p305 X29 Q u1 x3 x4 x5 s40)) s
theorem cj_84b_p208 {X291 X292 X293 : Int → Int → lf_Z → Prop} {Q1 Q2 Q3 : Int → lf_Z → Prop} {u1 : Nat} {x3 : Int} {x4 : Int} {x5 : Int} {y1 : Int} {s : lf_Z} (hX29 : ∀ (v0 : Int) (v1 : Int) (v2 : lf_Z), X291 v0 v1 v2 → X292 v0 v1 v2 → X293 v0 v1 v2) (hQ : ∀ (r : Int) (s : lf_Z), Q1 r s → Q2 r s → Q3 r s) (h1 : fm_84b_p208 X291 Q1 u1 x3 x4 x5 y1 s) (h2 : fw_84b_p208 X292 Q2 u1 x3 x4 x5 y1 s) : fm_84b_p208 X293 Q3 u1 x3 x4 x5 y1 s := by
  unfold fm_84b_p208 at h1 ⊢
  unfold fw_84b_p208 at h2
  exact cj_85 (fun s40 k1 l1 => cj_84b_p305 hX29 hQ k1 l1) h1 h2
def fw_84b_p183 (X29 : Int → Int → lf_Z → Prop) (Q : Int → lf_Z → Prop) (u1 : Nat) (x3 : Int) (x4 : Int) (x5 : Int) (y1 : Int) (s : lf_Z) : Prop := fw_85 y1 (fun s43 => (fw_84b_p305 X29 Q u1 x3 x4 x5 s43)) s
theorem cj_84b_p183 {X291 X292 X293 : Int → Int → lf_Z → Prop} {Q1 Q2 Q3 : Int → lf_Z → Prop} {u1 : Nat} {x3 : Int} {x4 : Int} {x5 : Int} {y1 : Int} {s : lf_Z} (hX29 : ∀ (v0 : Int) (v1 : Int) (v2 : lf_Z), X291 v0 v1 v2 → X292 v0 v1 v2 → X293 v0 v1 v2) (hQ : ∀ (r : Int) (s : lf_Z), Q1 r s → Q2 r s → Q3 r s) (h1 : fm_84b_p183 X291 Q1 u1 x3 x4 x5 y1 s) (h2 : fw_84b_p183 X292 Q2 u1 x3 x4 x5 y1 s) : fm_84b_p183 X293 Q3 u1 x3 x4 x5 y1 s := by
  unfold fm_84b_p183 at h1 ⊢
  unfold fw_84b_p183 at h2
  exact cj_85 (fun s43 k1 l1 => cj_84b_p305 hX29 hQ k1 l1) h1 h2
def fw_84b_p247 (X29 : Int → Int → lf_Z → Prop) (Q : Int → lf_Z → Prop) (u1 : Nat) (x3 : Int) (x5 : Int) (y0 : Int) (s : lf_Z) : Prop := fw_84b_p305 X29 Q u1 x3 y0 x5 s
theorem cj_84b_p247 {X291 X292 X293 : Int → Int → lf_Z → Prop} {Q1 Q2 Q3 : Int → lf_Z → Prop} {u1 : Nat} {x3 : Int} {x5 : Int} {y0 : Int} {s : lf_Z} (hX29 : ∀ (v0 : Int) (v1 : Int) (v2 : lf_Z), X291 v0 v1 v2 → X292 v0 v1 v2 → X293 v0 v1 v2) (hQ : ∀ (r : Int) (s : lf_Z), Q1 r s → Q2 r s → Q3 r s) (h1 : fm_84b_p247 X291 Q1 u1 x3 x5 y0 s) (h2 : fw_84b_p247 X292 Q2 u1 x3 x5 y0 s) : fm_84b_p247 X293 Q3 u1 x3 x5 y0 s := by
  unfold fm_84b_p247 at h1 ⊢
  unfold fw_84b_p247 at h2
  exact cj_84b_p305 hX29 hQ h1 h2
def fw_84b_p29 (Q : Int → lf_Z → Prop) (u1 : Nat) (x3 : Int) (X29 : Int → Int → lf_Z → Prop) (x4 : Int) (x5 : Int) (s : lf_Z) : Prop := lf_R x5 → ((300 ≤ x5 → (fw_84b_p311 Q s)) ∧ (¬ (300 ≤ x5) → (lf_R x4 → ((x4 < 0 → (fw_84b_p311 Q s)) ∧ (¬ (x4 < 0) → (lf_R x3 → ((x3 ≤ x4 → (fw_84b_p311 Q s)) ∧ (¬ (x3 ≤ x4) → ((0 ≤ x4 ∧ x4 < 300) → (lf_R (s.1 (36 + 7 * u1) x4) → (lf_R ((s.1 (36 + 7 * u1) x4).tdiv 10000) → (((s.1 (36 + 7 * u1) x4).tdiv 10000 ≠ 2 ∧ (s.1 (36 + 7 * u1) x4).tdiv 10000 ≠ 3 ∧ (s.1 (36 + 7 * u1) x4).tdiv 10000 ≠ 17 ∧ (s.1 (36 + 7 * u1) x4).tdiv 10000 ≠ 18 ∧ (s.1 (36 + 7 * u1) x4).tdiv 10000 ≠ 38 ∧ (s.1 (36 + 7 * u1) x4).tdiv 10000 ≠ 39 ∧ (s.1 (36 + 7 * u1) x4).tdiv 10000 ≠ 43 ∧ (s.1 (36 + 7 * u1) x4).tdiv 10000 ≠ 44 → (fw_86 (fun r32 s31 => (fw_86 (fun r34 s33 => (fw_87 ((s.1 (36 + 7 * u1) x4).tdiv 10000) r34 r32 (fun r36 s35 => (fw_85 r36 (fun s37 => (fw_84b_p305 X29 Q u1 x3 (x4 + 1) x5 s37)) s35)) s33)) s31)) s)) ∧ ((s.1 (36 + 7 * u1) x4).tdiv 10000 = 2 → (fw_85 ((s.1 (36 + 7 * u1) x4).tmod 10000) (fun s38 => (fw_84b_p305 X29 Q u1 x3 (x4 + 1) x5 s38)) s)) ∧ ((s.1 (36 + 7 * u1) x4).tdiv 10000 = 3 → (lf_R ((s.1 (36 + 7 * u1) x4).tmod 10000) → ((8 ≤ (s.1 (36 + 7 * u1) x4).tmod 10000 → (fw_84b_p208 X29 Q u1 x3 (x4 + 1) x5 0 s)) ∧ (¬ (8 ≤ (s.1 (36 + 7 * u1) x4).tmod 10000) → ((0 ≤ (s.1 (36 + 7 * u1) x4).tmod 10000 ∧ (s.1 (36 + 7 * u1) x4).tmod 10000 < 8) → (fw_84b_p208 X29 Q u1 x3 (x4 + 1) x5 (s.1 65 ((s.1 (36 + 7 * u1) x4).tmod 10000)) s)))))) ∧ ((s.1 (36 + 7 * u1) x4).tdiv 10000 = 17 → (lf_R ((s.1 (36 + 7 * u1) x4).tmod 10000) → ((11 ≤ (s.1 (36 + 7 * u1) x4).tmod 10000 → (fw_84b_p183 X29 Q u1 x3 (x4 + 1) x5 0 s)) ∧ (¬ (11 ≤ (s.1 (36 + 7 * u1) x4).tmod 10000) → ((0 ≤ (s.1 (36 + 7 * u1) x4).tmod 10000 ∧ (s.1 (36 + 7 * u1) x4).tmod 10000 < 11) → (fw_84b_p183 X29 Q u1 x3 (x4 + 1) x5 (s.1 64 ((s.1 (36 + 7 * u1) x4).tmod 10000)) s)))))) ∧ ((s.1 (36 + 7 * u1) x4).tdiv 10000 = 18 → (fw_86 (fun r46 s45 => (fw_85 (lf_w (-r46)) (fun s47 => (fw_84b_p305 X29 Q u1 x3 (x4 + 1) x5 s47)) s45)) s)) ∧ ((s.1 (36 + 7 * u1) x4).tdiv 10000 = 38 → (fw_86 (fun r49 s48 => (lf_R r49 → ((r49 ≠ 0 → (fw_84b_p247 X29 Q u1 x3 x5 (x4 + 1) s48)) ∧ (¬ (r49 ≠ 0) → (fw_84b_p247 X29 Q u1 x3 x5 ((s.1 (36 + 7 * u1) x4).tmod 10000) s48))))) s)) ∧ ((s.1 (36 + 7 * u1) x4).tdiv 10000 = 39 → (fw_84b_p305 X29 Q u1 x3 ((s.1 (36 + 7 * u1) x4).tmod 10000) x5 s)) ∧ ((s.1 (36 + 7 * u1) x4).tdiv 10000 = 43 → (lf_R ((s.1 (36 + 7 * u1) x4).tmod 10000) → (fw_86 (fun r53 s52 => ((0 ≤ min ((s.1 (36 + 7 * u1) x4).tmod 10000) 7 ∧ min ((s.1 (36 + 7 * u1) x4).tmod 10000) 7 < 8) → (fw_84b_p305 X29 Q u1 x3 (x4 + 1) x5 (lf_up s52.1 65 (min ((s.1 (36 + 7 * u1) x4).tmod 10000) 7) r53, s52.2.1, s52.2.2)))) s))) ∧ ((s.1 (36 + 7 * u1) x4).tdiv 10000 = 44 → (fw_86 (fun r56 s55 => (fw_85 (lf_w (1 - r56)) (fun s57 => (fw_84b_p305 X29 Q u1 x3 (x4 + 1) x5 s57)) s55)) s))))))))))))))
theorem cj_84b_p29 {X291 X292 X293 : Int → Int → lf_Z → Prop} {Q1 Q2 Q3 : Int → lf_Z → Prop} {u1 : Nat} {x3 : Int} {x4 : Int} {x5 : Int} {s : lf_Z} (hX29 : ∀ (v0 : Int) (v1 : Int) (v2 : lf_Z), X291 v0 v1 v2 → X292 v0 v1 v2 → X293 v0 v1 v2) (hQ : ∀ (r : Int) (s : lf_Z), Q1 r s → Q2 r s → Q3 r s) (h1 : fm_84b_p29 Q1 u1 x3 X291 x4 x5 s) (h2 : fw_84b_p29 Q2 u1 x3 X292 x4 x5 s) : fm_84b_p29 Q3 u1 x3 X293 x4 x5 s := by
  unfold fm_84b_p29 at h1 ⊢
  unfold fw_84b_p29 at h2
  exact ⟨h1.1, ⟨(fun c2 => cj_84b_p311 hQ (h1.2.1 c2) ((h2 h1.1).1 c2)), (fun c2 => ⟨(h1.2.2 c2).1, ⟨(fun c5 => cj_84b_p311 hQ ((h1.2.2 c2).2.1 c5) ((((h2 h1.1).2 c2) (h1.2.2 c2).1).1 c5)), (fun c5 => ⟨((h1.2.2 c2).2.2 c5).1, ⟨(fun c8 => cj_84b_p311 hQ (((h1.2.2 c2).2.2 c5).2.1 c8) ((((((h2 h1.1).2 c2) (h1.2.2 c2).1).2 c5) ((h1.2.2 c2).2.2 c5).1).1 c8)), (fun c8 => ⟨(((h1.2.2 c2).2.2 c5).2.2 c8).1, ⟨(((h1.2.2 c2).2.2 c5).2.2 c8).2.1, ⟨(((h1.2.2 c2).2.2 c5).2.2 c8).2.2.1, ⟨(fun c13 => cj_86 (fun r32 s31 k14 l14 => cj_86 (fun r34 s33 k15 l15 => cj_87 (fun r36 s35 k16 l16 => cj_85 (fun s37 k17 l17 => cj_84b_p305 hX29 hQ k17 l17) k16 l16) k15 l15) k14 l14) ((((h1.2.2 c2).2.2 c5).2.2 c8).2.2.2.1 c13) ((((((((((h2 h1.1).2 c2) (h1.2.2 c2).1).2 c5) ((h1.2.2 c2).2.2 c5).1).2 c8) (((h1.2.2 c2).2.2 c5).2.2 c8).1) (((h1.2.2 c2).2.2 c5).2.2 c8).2.1) (((h1.2.2 c2).2.2 c5).2.2 c8).2.2.1).1 c13)), (fun c13 => cj_85 (fun s38 k19 l19 => cj_84b_p305 hX29 hQ k19 l19) ((((h1.2.2 c2).2.2 c5).2.2 c8).2.2.2.2.1 c13) ((((((((((h2 h1.1).2 c2) (h1.2.2 c2).1).2 c5) ((h1.2.2 c2).2.2 c5).1).2 c8) (((h1.2.2 c2).2.2 c5).2.2 c8).1) (((h1.2.2 c2).2.2 c5).2.2 c8).2.1) (((h1.2.2 c2).2.2 c5).2.2 c8).2.2.1).2.1 c13)), (fun c13 => ⟨((((h1.2.2 c2).2.2 c5).2.2 c8).2.2.2.2.2.1 c13).1, ⟨(fun c22 => cj_84b_p208 hX29 hQ (((((h1.2.2 c2).2.2 c5).2.2 c8).2.2.2.2.2.1 c13).2.1 c22) ((((((((((((h2 h1.1).2 c2) (h1.2.2 c2).1).2 c5) ((h1.2.2 c2).2.2 c5).1).2 c8) (((h1.2.2 c2).2.2 c5).2.2 c8).1) (((h1.2.2 c2).2.2 c5).2.2 c8).2.1) (((h1.2.2 c2).2.2 c5).2.2 c8).2.2.1).2.2.1 c13) ((((h1.2.2 c2).2.2 c5).2.2 c8).2.2.2.2.2.1 c13).1).1 c22)), (fun c22 => ⟨(((((h1.2.2 c2).2.2 c5).2.2 c8).2.2.2.2.2.1 c13).2.2 c22).1, cj_84b_p208 hX29 hQ (((((h1.2.2 c2).2.2 c5).2.2 c8).2.2.2.2.2.1 c13).2.2 c22).2 (((((((((((((h2 h1.1).2 c2) (h1.2.2 c2).1).2 c5) ((h1.2.2 c2).2.2 c5).1).2 c8) (((h1.2.2 c2).2.2 c5).2.2 c8).1) (((h1.2.2 c2).2.2 c5).2.2 c8).2.1) (((h1.2.2 c2).2.2 c5).2.2 c8).2.2.1).2.2.1 c13) ((((h1.2.2 c2).2.2 c5).2.2 c8).2.2.2.2.2.1 c13).1).2 c22) (((((h1.2.2 c2).2.2 c5).2.2 c8).2.2.2.2.2.1 c13).2.2 c22).1)⟩)⟩⟩), (fun c13 => ⟨((((h1.2.2 c2).2.2 c5).2.2 c8).2.2.2.2.2.2.1 c13).1, ⟨(fun c27 => cj_84b_p183 hX29 hQ (((((h1.2.2 c2).2.2 c5).2.2 c8).2.2.2.2.2.2.1 c13).2.1 c27) ((((((((((((h2 h1.1).2 c2) (h1.2.2 c2).1).2 c5) ((h1.2.2 c2).2.2 c5).1).2 c8) (((h1.2.2 c2).2.2 c5).2.2 c8).1) (((h1.2.2 c2).2.2 c5).2.2 c8).2.1) (((h1.2.2 c2).2.2 c5).2.2 c8).2.2.1).2.2.2.1 c13) ((((h1.2.2 c2).2.2 c5).2.2 c8).2.2.2.2.2.2.1 c13).1).1 c27)), (fun c27 => ⟨(((((h1.2.2 c2).2.2 c5).2.2 c8).2.2.2.2.2.2.1 c13).2.2 c27).1, cj_84b_p183 hX29 hQ (((((h1.2.2 c2).2.2 c5).2.2 c8).2.2.2.2.2.2.1 c13).2.2 c27).2 (((((((((((((h2 h1.1).2 c2) (h1.2.2 c2).1).2 c5) ((h1.2.2 c2).2.2 c5).1).2 c8) (((h1.2.2 c2).2.2 c5).2.2 c8).1) (((h1.2.2 c2).2.2 c5).2.2 c8).2.1) (((h1.2.2 c2).2.2 c5).2.2 c8).2.2.1).2.2.2.1 c13) ((((h1.2.2 c2).2.2 c5).2.2 c8).2.2.2.2.2.2.1 c13).1).2 c27) (((((h1.2.2 c2).2.2 c5).2.2 c8).2.2.2.2.2.2.1 c13).2.2 c27).1)⟩)⟩⟩), (fun c13 => cj_86 (fun r46 s45 k31 l31 => cj_85 (fun s47 k32 l32 => cj_84b_p305 hX29 hQ k32 l32) k31 l31) ((((h1.2.2 c2).2.2 c5).2.2 c8).2.2.2.2.2.2.2.1 c13) ((((((((((h2 h1.1).2 c2) (h1.2.2 c2).1).2 c5) ((h1.2.2 c2).2.2 c5).1).2 c8) (((h1.2.2 c2).2.2 c5).2.2 c8).1) (((h1.2.2 c2).2.2 c5).2.2 c8).2.1) (((h1.2.2 c2).2.2 c5).2.2 c8).2.2.1).2.2.2.2.1 c13)), (fun c13 => cj_86 (fun r49 s48 k34 l34 => ⟨k34.1, ⟨(fun c36 => cj_84b_p247 hX29 hQ (k34.2.1 c36) ((l34 k34.1).1 c36)), (fun c36 => cj_84b_p247 hX29 hQ (k34.2.2 c36) ((l34 k34.1).2 c36))⟩⟩) ((((h1.2.2 c2).2.2 c5).2.2 c8).2.2.2.2.2.2.2.2.1 c13) ((((((((((h2 h1.1).2 c2) (h1.2.2 c2).1).2 c5) ((h1.2.2 c2).2.2 c5).1).2 c8) (((h1.2.2 c2).2.2 c5).2.2 c8).1) (((h1.2.2 c2).2.2 c5).2.2 c8).2.1) (((h1.2.2 c2).2.2 c5).2.2 c8).2.2.1).2.2.2.2.2.1 c13)), (fun c13 => cj_84b_p305 hX29 hQ ((((h1.2.2 c2).2.2 c5).2.2 c8).2.2.2.2.2.2.2.2.2.1 c13) ((((((((((h2 h1.1).2 c2) (h1.2.2 c2).1).2 c5) ((h1.2.2 c2).2.2 c5).1).2 c8) (((h1.2.2 c2).2.2 c5).2.2 c8).1) (((h1.2.2 c2).2.2 c5).2.2 c8).2.1) (((h1.2.2 c2).2.2 c5).2.2 c8).2.2.1).2.2.2.2.2.2.1 c13)), (fun c13 => ⟨((((h1.2.2 c2).2.2 c5).2.2 c8).2.2.2.2.2.2.2.2.2.2.1 c13).1, cj_86 (fun r53 s52 k41 l41 => ⟨k41.1, cj_84b_p305 hX29 hQ k41.2 (l41 k41.1)⟩) ((((h1.2.2 c2).2.2 c5).2.2 c8).2.2.2.2.2.2.2.2.2.2.1 c13).2 (((((((((((h2 h1.1).2 c2) (h1.2.2 c2).1).2 c5) ((h1.2.2 c2).2.2 c5).1).2 c8) (((h1.2.2 c2).2.2 c5).2.2 c8).1) (((h1.2.2 c2).2.2 c5).2.2 c8).2.1) (((h1.2.2 c2).2.2 c5).2.2 c8).2.2.1).2.2.2.2.2.2.2.1 c13) ((((h1.2.2 c2).2.2 c5).2.2 c8).2.2.2.2.2.2.2.2.2.2.1 c13).1)⟩), (fun c13 => cj_86 (fun r56 s55 k44 l44 => cj_85 (fun s57 k45 l45 => cj_84b_p305 hX29 hQ k45 l45) k44 l44) ((((h1.2.2 c2).2.2 c5).2.2 c8).2.2.2.2.2.2.2.2.2.2.2 c13) ((((((((((h2 h1.1).2 c2) (h1.2.2 c2).1).2 c5) ((h1.2.2 c2).2.2 c5).1).2 c8) (((h1.2.2 c2).2.2 c5).2.2 c8).1) (((h1.2.2 c2).2.2 c5).2.2 c8).2.1) (((h1.2.2 c2).2.2 c5).2.2 c8).2.2.1).2.2.2.2.2.2.2.2 c13))⟩⟩⟩⟩)⟩⟩)⟩⟩)⟩⟩
def fw_84b_p29L (Q : Int → lf_Z → Prop) (u1 : Nat) (x3 : Int) (x4 : Int) (x5 : Int) (s : lf_Z) : Prop := ∃ X29 : Int → Int → lf_Z → Prop, (∀ (x4 : Int) (x5 : Int) (s : lf_Z), X29 x4 x5 s → fw_84b_p29 Q u1 x3 X29 x4 x5 s) ∧ X29 x4 x5 s
theorem cj_84b_p29L {Q1 Q2 Q3 : Int → lf_Z → Prop} {u1 : Nat} {x3 : Int} {x4 : Int} {x5 : Int} {s : lf_Z} (hQ : ∀ (r : Int) (s : lf_Z), Q1 r s → Q2 r s → Q3 r s) (h1 : fm_84b_p29L Q1 u1 x3 x4 x5 s) (h2 : fw_84b_p29L Q2 u1 x3 x4 x5 s) : fm_84b_p29L Q3 u1 x3 x4 x5 s := by
  intro X0 hX0
  obtain ⟨Y, hY, hY0⟩ := h2
  exact h1 (fun v0 v1 s => Y v0 v1 s → X0 v0 v1 s) (fun v0 v1 s hb hy => hX0 v0 v1 s (cj_84b_p29 (X291 := fun v0 v1 s => Y v0 v1 s → X0 v0 v1 s) (X292 := Y) (X293 := X0) (hX29 := fun v0 v1 s a b => a b) hQ hb (hY v0 v1 s hy))) hY0
def fw_84b (t1 : Nat) (a2 : Int) (Q : Int → lf_Z → Prop) (s : lf_Z) : Prop := (0 ≤ a2 ∧ a2 < 3) → (lf_R ((lf_up s.1 63 6 0) (38 + 7 * t1) a2) → (fw_84b_p29L Q t1 (min ((lf_up s.1 63 6 0) (38 + 7 * t1) a2) 300) ((lf_up s.1 63 6 0) (37 + 7 * t1) a2) 0 (lf_up s.1 63 6 0, s.2.1, s.2.2)))
theorem cj_84b {Q1 Q2 Q3 : Int → lf_Z → Prop} {t1 : Nat} {a2 : Int} {s : lf_Z} (hQ : ∀ (r : Int) (s : lf_Z), Q1 r s → Q2 r s → Q3 r s) (h1 : fm_84b t1 a2 Q1 s) (h2 : fw_84b t1 a2 Q2 s) : fm_84b t1 a2 Q3 s := by
  unfold fm_84b at h1 ⊢
  unfold fw_84b at h2
  exact ⟨h1.1, ⟨h1.2.1, cj_84b_p29L hQ h1.2.2 ((h2 h1.1) h1.2.1)⟩⟩
def fw_91_p118 (Q : Int → lf_Z → Prop) (x8 : Int) (s : lf_Z) : Prop := lf_R x8 → ((x8 ≤ 0 → (Q 5 s)) ∧ (¬ (x8 ≤ 0) → (Q 0 s)))
theorem cj_91_p118 {Q1 Q2 Q3 : Int → lf_Z → Prop} {x8 : Int} {s : lf_Z} (hQ : ∀ (r : Int) (s : lf_Z), Q1 r s → Q2 r s → Q3 r s) (h1 : fm_91_p118 Q1 x8 s) (h2 : fw_91_p118 Q2 x8 s) : fm_91_p118 Q3 x8 s := by
  unfold fm_91_p118 at h1 ⊢
  unfold fw_91_p118 at h2
  exact ⟨h1.1, ⟨(fun c2 => hQ _ _  (h1.2.1 c2) ((h2 h1.1).1 c2)), (fun c2 => hQ _ _  (h1.2.2 c2) ((h2 h1.1).2 c2))⟩⟩
def fw_91_p94 (X29 : Int → Int → Int → lf_Z → Prop) (Q : Int → lf_Z → Prop) (x1 : Int) (x2 : Int) (x3 : Int) (x4 : Int) (x5 : Int) (x7 : Int) (x8 : Int) (x9 : Int) (x10 : Int) (s : lf_Z) : Prop := X29 x8 x9 (x10 + 1) s
theorem cj_91_p94 {X291 X292 X293 : Int → Int → Int → lf_Z → Prop} {Q1 Q2 Q3 : Int → lf_Z → Prop} {x1 : Int} {x2 : Int} {x3 : Int} {x4 : Int} {x5 : Int} {x7 : Int} {x8 : Int} {x9 : Int} {x10 : Int} {s : lf_Z} (hX29 : ∀ (v0 : Int) (v1 : Int) (v2 : Int) (v3 : lf_Z), X291 v0 v1 v2 v3 → X292 v0 v1 v2 v3 → X293 v0 v1 v2 v3) (hQ : ∀ (r : Int) (s : lf_Z), Q1 r s → Q2 r s → Q3 r s) (h1 : fm_91_p94 X291 Q1 x1 x2 x3 x4 x5 x7 x8 x9 x10 s) (h2 : fw_91_p94 X292 Q2 x1 x2 x3 x4 x5 x7 x8 x9 x10 s) : fm_91_p94 X293 Q3 x1 x2 x3 x4 x5 x7 x8 x9 x10 s := by
  unfold fm_91_p94 at h1 ⊢
  unfold fw_91_p94 at h2
  exact hX29 _ _ _ _  h1 h2
def fw_91_p91 (X29 : Int → Int → Int → lf_Z → Prop) (Q : Int → lf_Z → Prop) (x1 : Int) (x2 : Int) (x3 : Int) (x4 : Int) (x5 : Int) (x7 : Int) (x8 : Int) (x10 : Int) (y0 : Int) (y1 : Int) (s : lf_Z) : Prop := fw_91_p94 X29 Q x1 x2 x3 x4 x5 x7 x8 (lf_w (y0 + y1)) x10 s
theorem cj_91_p91 {X291 X292 X293 : Int → Int → Int → lf_Z → Prop} {Q1 Q2 Q3 : Int → lf_Z → Prop} {x1 : Int} {x2 : Int} {x3 : Int} {x4 : Int} {x5 : Int} {x7 : Int} {x8 : Int} {x10 : Int} {y0 : Int} {y1 : Int} {s : lf_Z} (hX29 : ∀ (v0 : Int) (v1 : Int) (v2 : Int) (v3 : lf_Z), X291 v0 v1 v2 v3 → X292 v0 v1 v2 v3 → X293 v0 v1 v2 v3) (hQ : ∀ (r : Int) (s : lf_Z), Q1 r s → Q2 r s → Q3 r s) (h1 : fm_91_p91 X291 Q1 x1 x2 x3 x4 x5 x7 x8 x10 y0 y1 s) (h2 : fw_91_p91 X292 Q2 x1 x2 x3 x4 x5 x7 x8 x10 y0 y1 s) : fm_91_p91 X293 Q3 x1 x2 x3 x4 x5 x7 x8 x10 y0 y1 s := by
  unfold fm_91_p91 at h1 ⊢
  unfold fw_91_p91 at h2
  exact cj_91_p94 hX29 hQ h1 h2
def fw_91_p29 (Q : Int → lf_Z → Prop) (x1 : Int) (x2 : Int) (x3 : Int) (x4 : Int) (x5 : Int) (x7 : Int) (X29 : Int → Int → Int → lf_Z → Prop) (x8 : Int) (x9 : Int) (x10 : Int) (s : lf_Z) : Prop := lf_R x10 → (lf_R (s.1 1 2) → ((s.1 1 2 ≤ x10 → ((s.2.2 3 = none → (fw_91_p118 Q x8 s)) ∧ (∀ t26 : Nat, s.2.2 3 = some t26 → t26 < 4 → ((s.2.2 3 = none → (True)) ∧ (∀ t28 : Nat, s.2.2 3 = some t28 → t28 < 4 → (fw_40 t28 1 (fun z30 s29 => ((z30 = true → (fw_82 x1 x2 x5 (fun s31 => ((0 ≤ x7 ∧ x7 < 12) → ((s31.2.2 3 = none → (fw_84 1 (fun r35 s34 => (fw_55 r35 0 10 (fun r37 s36 => (Q r37 s36)) s34)) (lf_up (lf_up (lf_up (lf_up (lf_up s31.1 64 5 (s31.1 2 x7)) 64 6 x8) 64 7 x9) 64 8 x4) 64 10 x3, s31.2.1, s31.2.2))) ∧ (∀ t33 : Nat, s31.2.2 3 = some t33 → t33 < 4 → (fw_84b t33 1 (fun r39 s38 => (fw_55 r39 0 10 (fun r41 s40 => (Q r41 s40)) s38)) (lf_up (lf_up (lf_up (lf_up (lf_up s31.1 64 5 (s31.1 2 x7)) 64 6 x8) 64 7 x9) 64 8 x4) 64 10 x3, s31.2.1, s31.2.2)))))) s29)) ∧ (z30 = false → (fw_91_p118 Q x8 s29)))) s)))))) ∧ (¬ (s.1 1 2 ≤ x10) → ((0 ≤ x10 ∧ x10 < 6) → (lf_R (s.1 19 x10) → (lf_R x7 → ((s.1 19 x10 ≠ x7 → (fw_91_p94 X29 Q x1 x2 x3 x4 x5 x7 x8 x9 x10 s)) ∧ (¬ (s.1 19 x10 ≠ x7) → (lf_R (s.1 9 x10) → ((s.1 9 x10 = 0 → (fw_91_p91 X29 Q x1 x2 x3 x4 x5 x7 (lf_w (x8 + (s.1 7 x10))) x10 x9 0 s)) ∧ (¬ (s.1 9 x10 = 0) → (fw_91_p91 X29 Q x1 x2 x3 x4 x5 x7 (lf_w (x8 + (s.1 7 x10))) x10 x9 1 s))))))))))))
theorem cj_91_p29 {X291 X292 X293 : Int → Int → Int → lf_Z → Prop} {Q1 Q2 Q3 : Int → lf_Z → Prop} {x1 : Int} {x2 : Int} {x3 : Int} {x4 : Int} {x5 : Int} {x7 : Int} {x8 : Int} {x9 : Int} {x10 : Int} {s : lf_Z} (hX29 : ∀ (v0 : Int) (v1 : Int) (v2 : Int) (v3 : lf_Z), X291 v0 v1 v2 v3 → X292 v0 v1 v2 v3 → X293 v0 v1 v2 v3) (hQ : ∀ (r : Int) (s : lf_Z), Q1 r s → Q2 r s → Q3 r s) (h1 : fm_91_p29 Q1 x1 x2 x3 x4 x5 x7 X291 x8 x9 x10 s) (h2 : fw_91_p29 Q2 x1 x2 x3 x4 x5 x7 X292 x8 x9 x10 s) : fm_91_p29 Q3 x1 x2 x3 x4 x5 x7 X293 x8 x9 x10 s := by
  unfold fm_91_p29 at h1 ⊢
  unfold fw_91_p29 at h2
  exact ⟨h1.1, ⟨h1.2.1, ⟨(fun c3 => ⟨(fun c4 => cj_91_p118 hQ ((h1.2.2.1 c3).1 c4) ((((h2 h1.1) h1.2.1).1 c3).1 c4)), (fun t26 et26 => ⟨((h1.2.2.1 c3).2 t26 et26).1, ⟨(fun c7 => (((h1.2.2.1 c3).2 t26 et26).2.1 c7).elim), (fun t28 et28 => ⟨(((h1.2.2.1 c3).2 t26 et26).2.2 t28 et28).1, cj_40 (fun z30 s29 k10 l10 => ⟨(fun c11 => cj_82 (fun s31 k12 l12 => ⟨k12.1, ⟨(fun c14 => cj_84 (fun r35 s34 k15 l15 => cj_55 (fun r37 s36 k16 l16 => hQ _ _  k16 l16) k15 l15) (k12.2.1 c14) ((l12 k12.1).1 c14)), (fun t33 et33 => ⟨(k12.2.2 t33 et33).1, cj_84b (fun r39 s38 k19 l19 => cj_55 (fun r41 s40 k20 l20 => hQ _ _  k20 l20) k19 l19) (k12.2.2 t33 et33).2 ((l12 k12.1).2 t33 et33 (k12.2.2 t33 et33).1)⟩)⟩⟩) (k10.1 c11) (l10.1 c11)), (fun c11 => cj_91_p118 hQ (k10.2 c11) (l10.2 c11))⟩) (((h1.2.2.1 c3).2 t26 et26).2.2 t28 et28).2 (((((h2 h1.1) h1.2.1).1 c3).2 t26 et26 ((h1.2.2.1 c3).2 t26 et26).1).2 t28 et28 (((h1.2.2.1 c3).2 t26 et26).2.2 t28 et28).1)⟩)⟩⟩)⟩), (fun c3 => ⟨(h1.2.2.2 c3).1, ⟨(h1.2.2.2 c3).2.1, ⟨(h1.2.2.2 c3).2.2.1, ⟨(fun c26 => cj_91_p94 hX29 hQ ((h1.2.2.2 c3).2.2.2.1 c26) (((((((h2 h1.1) h1.2.1).2 c3) (h1.2.2.2 c3).1) (h1.2.2.2 c3).2.1) (h1.2.2.2 c3).2.2.1).1 c26)), (fun c26 => ⟨((h1.2.2.2 c3).2.2.2.2 c26).1, ⟨(fun c29 => cj_91_p91 hX29 hQ (((h1.2.2.2 c3).2.2.2.2 c26).2.1 c29) (((((((((h2 h1.1) h1.2.1).2 c3) (h1.2.2.2 c3).1) (h1.2.2.2 c3).2.1) (h1.2.2.2 c3).2.2.1).2 c26) ((h1.2.2.2 c3).2.2.2.2 c26).1).1 c29)), (fun c29 => cj_91_p91 hX29 hQ (((h1.2.2.2 c3).2.2.2.2 c26).2.2 c29) (((((((((h2 h1.1) h1.2.1).2 c3) (h1.2.2.2 c3).1) (h1.2.2.2 c3).2.1) (h1.2.2.2 c3).2.2.1).2 c26) ((h1.2.2.2 c3).2.2.2.2 c26).1).2 c29))⟩⟩)⟩⟩⟩⟩)⟩⟩⟩
def fw_91_p29L (Q : Int → lf_Z → Prop) (x1 : Int) (x2 : Int) (x3 : Int) (x4 : Int) (x5 : Int) (x7 : Int) (x8 : Int) (x9 : Int) (x10 : Int) (s : lf_Z) : Prop := ∃ X29 : Int → Int → Int → lf_Z → Prop, (∀ (x8 : Int) (x9 : Int) (x10 : Int) (s : lf_Z), X29 x8 x9 x10 s → fw_91_p29 Q x1 x2 x3 x4 x5 x7 X29 x8 x9 x10 s) ∧ X29 x8 x9 x10 s
theorem cj_91_p29L {Q1 Q2 Q3 : Int → lf_Z → Prop} {x1 : Int} {x2 : Int} {x3 : Int} {x4 : Int} {x5 : Int} {x7 : Int} {x8 : Int} {x9 : Int} {x10 : Int} {s : lf_Z} (hQ : ∀ (r : Int) (s : lf_Z), Q1 r s → Q2 r s → Q3 r s) (h1 : fm_91_p29L Q1 x1 x2 x3 x4 x5 x7 x8 x9 x10 s) (h2 : fw_91_p29L Q2 x1 x2 x3 x4 x5 x7 x8 x9 x10 s) : fm_91_p29L Q3 x1 x2 x3 x4 x5 x7 x8 x9 x10 s := by
  intro X0 hX0
  obtain ⟨Y, hY, hY0⟩ := h2
  exact h1 (fun v0 v1 v2 s => Y v0 v1 v2 s → X0 v0 v1 v2 s) (fun v0 v1 v2 s hb hy => hX0 v0 v1 v2 s (cj_91_p29 (X291 := fun v0 v1 v2 s => Y v0 v1 v2 s → X0 v0 v1 v2 s) (X292 := Y) (X293 := X0) (hX29 := fun v0 v1 v2 s a b => a b) hQ hb (hY v0 v1 v2 s hy))) hY0
def fw_91 (a1 : Int) (a2 : Int) (a3 : Int) (a4 : Int) (a5 : Int) (a6 : Int) (Q : Int → lf_Z → Prop) (s : lf_Z) : Prop := fw_78 a3 a2 (fun r22 s21 => (lf_R r22 → ((r22 ≠ (-1) → (fw_91_p29L Q a1 a2 a3 a4 a5 r22 a6 0 0 s21)) ∧ (¬ (r22 ≠ (-1)) → (Q 0 s21))))) s
theorem cj_91 {Q1 Q2 Q3 : Int → lf_Z → Prop} {a1 : Int} {a2 : Int} {a3 : Int} {a4 : Int} {a5 : Int} {a6 : Int} {s : lf_Z} (hQ : ∀ (r : Int) (s : lf_Z), Q1 r s → Q2 r s → Q3 r s) (h1 : fm_91 a1 a2 a3 a4 a5 a6 Q1 s) (h2 : fw_91 a1 a2 a3 a4 a5 a6 Q2 s) : fm_91 a1 a2 a3 a4 a5 a6 Q3 s := by
  unfold fm_91 at h1 ⊢
  unfold fw_91 at h2
  exact cj_78 (fun r22 s21 k1 l1 => ⟨k1.1, ⟨(fun c3 => cj_91_p29L hQ (k1.2.1 c3) ((l1 k1.1).1 c3)), (fun c3 => hQ _ _  (k1.2.2 c3) ((l1 k1.1).2 c3))⟩⟩) h1 h2
def fw_94 (Q : lf_Z → Prop) (s : lf_Z) : Prop := Q (lf_up s.1 15 8 ((lf_w ((lf_w ((s.1 15 8) * 239)) + 137)).tmod 30203), s.2.1, s.2.2)
theorem cj_94 {Q1 Q2 Q3 : lf_Z → Prop} {s : lf_Z} (hQ : ∀ (s : lf_Z), Q1 s → Q2 s → Q3 s) (h1 : fm_94 Q1 s) (h2 : fw_94 Q2 s) : fm_94 Q3 s := by
  unfold fm_94 at h1 ⊢
  unfold fw_94 at h2
  exact hQ _  h1 h2
def fw_93 (Q : Int → lf_Z → Prop) (s : lf_Z) : Prop := lf_R (s.1 15 8) → (fw_94 (fun s22 => (Q ((s.1 15 8).tmod 10) s22)) s)
theorem cj_93 {Q1 Q2 Q3 : Int → lf_Z → Prop} {s : lf_Z} (hQ : ∀ (r : Int) (s : lf_Z), Q1 r s → Q2 r s → Q3 r s) (h1 : fm_93 Q1 s) (h2 : fw_93 Q2 s) : fm_93 Q3 s := by
  unfold fm_93 at h1 ⊢
  unfold fw_93 at h2
  exact ⟨h1.1, cj_94 (fun s22 k2 l2 => hQ _ _  k2 l2) h1.2 (h2 h1.1)⟩
def fw_92_p10 (Q : Bool → lf_Z → Prop) (x1 : Int) (s : lf_Z) : Prop := lf_R x1 → ((x1 ≠ 10 → (Q false s)) ∧ (¬ (x1 ≠ 10) → (Q true s)))
theorem cj_92_p10 {Q1 Q2 Q3 : Bool → lf_Z → Prop} {x1 : Int} {s : lf_Z} (hQ : ∀ (r : Bool) (s : lf_Z), Q1 r s → Q2 r s → Q3 r s) (h1 : fm_92_p10 Q1 x1 s) (h2 : fw_92_p10 Q2 x1 s) : fm_92_p10 Q3 x1 s := by
  unfold fm_92_p10 at h1 ⊢
  unfold fw_92_p10 at h2
  exact ⟨h1.1, ⟨(fun c2 => hQ _ _  (h1.2.1 c2) ((h2 h1.1).1 c2)), (fun c2 => hQ _ _  (h1.2.2 c2) ((h2 h1.1).2 c2))⟩⟩
def fw_92 (a1 : Int) (Q : Bool → lf_Z → Prop) (s : lf_Z) : Prop := lf_R a1 → ((a1 = 0 → (fw_92_p10 Q a1 s)) ∧ (¬ (a1 = 0) → ((a1 ≠ 10 → (fw_93 (fun r24 s23 => (lf_R r24 → ((a1 ≤ r24 → (Q false s23)) ∧ (¬ (a1 ≤ r24) → (Q true s23))))) s)) ∧ (¬ (a1 ≠ 10) → (fw_92_p10 Q a1 s)))))
theorem cj_92 {Q1 Q2 Q3 : Bool → lf_Z → Prop} {a1 : Int} {s : lf_Z} (hQ : ∀ (r : Bool) (s : lf_Z), Q1 r s → Q2 r s → Q3 r s) (h1 : fm_92 a1 Q1 s) (h2 : fw_92 a1 Q2 s) : fm_92 a1 Q3 s := by
  unfold fm_92 at h1 ⊢
  unfold fw_92 at h2
  exact ⟨h1.1, ⟨(fun c2 => cj_92_p10 hQ (h1.2.1 c2) ((h2 h1.1).1 c2)), (fun c2 => ⟨(fun c4 => cj_93 (fun r24 s23 k5 l5 => ⟨k5.1, ⟨(fun c7 => hQ _ _  (k5.2.1 c7) ((l5 k5.1).1 c7)), (fun c7 => hQ _ _  (k5.2.2 c7) ((l5 k5.1).2 c7))⟩⟩) ((h1.2.2 c2).1 c4) (((h2 h1.1).2 c2).1 c4)), (fun c4 => cj_92_p10 hQ ((h1.2.2 c2).2 c4) (((h2 h1.1).2 c2).2 c4))⟩)⟩⟩
def fw_88_p153 (X12 : Int → lf_Z → Prop) (Q : lf_Z → Prop) (x1 : Int) (x2 : Int) (x3 : Int) (s : lf_Z) : Prop := X12 (x3 + 1) s
theorem cj_88_p153 {X121 X122 X123 : Int → lf_Z → Prop} {Q1 Q2 Q3 : lf_Z → Prop} {x1 : Int} {x2 : Int} {x3 : Int} {s : lf_Z} (hX12 : ∀ (v0 : Int) (v1 : lf_Z), X121 v0 v1 → X122 v0 v1 → X123 v0 v1) (hQ : ∀ (s : lf_Z), Q1 s → Q2 s → Q3 s) (h1 : fm_88_p153 X121 Q1 x1 x2 x3 s) (h2 : fw_88_p153 X122 Q2 x1 x2 x3 s) : fm_88_p153 X123 Q3 x1 x2 x3 s := by
  unfold fm_88_p153 at h1 ⊢
  unfold fw_88_p153 at h2
  exact hX12 _ _  h1 h2
def fw_88_p99 (X12 : Int → lf_Z → Prop) (Q : lf_Z → Prop) (x1 : Int) (x2 : Int) (x3 : Int) (x4 : Int) (x5 : Int) (y0 : Int) (s : lf_Z) : Prop := (0 ≤ x1 ∧ x1 < 4) → (fw_91 (s.1 16 x1) x2 x4 y0 0 0 (fun r39 s38 => (fw_92 r39 (fun z41 s40 => ((z41 = false → (fw_88_p153 X12 Q x1 x2 x3 s40)) ∧ (z41 = true → (Q (lf_up (lf_up s40.1 18 x1 x2) 17 x1 x5, s40.2.1, s40.2.2))))) s38)) s)
theorem cj_88_p99 {X121 X122 X123 : Int → lf_Z → Prop} {Q1 Q2 Q3 : lf_Z → Prop} {x1 : Int} {x2 : Int} {x3 : Int} {x4 : Int} {x5 : Int} {y0 : Int} {s : lf_Z} (hX12 : ∀ (v0 : Int) (v1 : lf_Z), X121 v0 v1 → X122 v0 v1 → X123 v0 v1) (hQ : ∀ (s : lf_Z), Q1 s → Q2 s → Q3 s) (h1 : fm_88_p99 X121 Q1 x1 x2 x3 x4 x5 y0 s) (h2 : fw_88_p99 X122 Q2 x1 x2 x3 x4 x5 y0 s) : fm_88_p99 X123 Q3 x1 x2 x3 x4 x5 y0 s := by
  unfold fm_88_p99 at h1 ⊢
  unfold fw_88_p99 at h2
  exact ⟨h1.1, cj_91 (fun r39 s38 k2 l2 => cj_92 (fun z41 s40 k3 l3 => ⟨(fun c4 => cj_88_p153 hX12 hQ (k3.1 c4) (l3.1 c4)), (fun c4 => hQ _  (k3.2 c4) (l3.2 c4))⟩) k2 l2) h1.2 (h2 h1.1)⟩
def fw_88_p12 (Q : lf_Z → Prop) (x1 : Int) (x2 : Int) (X12 : Int → lf_Z → Prop) (x3 : Int) (s : lf_Z) : Prop := fw_76 x2 (fun r23 s22 => (lf_R x3 → (lf_R r23 → ((r23 ≤ x3 → (Q s22)) ∧ (¬ (r23 ≤ x3) → (fw_77 x2 x3 (fun r27 s26 => (fw_78 r27 x2 (fun r29 s28 => (lf_R r29 → ((r29 = (-1) → (fw_88_p153 X12 Q x1 x2 x3 s28)) ∧ (¬ (r29 = (-1)) → (fw_89 r27 (fun z32 s31 => ((z32 = false → (fw_88_p153 X12 Q x1 x2 x3 s31)) ∧ (z32 = true → (fw_90 r27 (fun z34 s33 => ((z34 = true → ((0 ≤ x1 ∧ x1 < 4) → (lf_R (s33.1 18 x1) → ((s33.1 18 x1 ≠ r29 → (fw_88_p99 X12 Q x1 x2 x3 r27 r29 0 s33)) ∧ (¬ (s33.1 18 x1 ≠ r29) → (fw_88_p99 X12 Q x1 x2 x3 r27 r29 1 s33)))))) ∧ (z34 = false → (fw_88_p153 X12 Q x1 x2 x3 s33)))) s31)))) s28))))) s26)) s22)))))) s
theorem cj_88_p12 {X121 X122 X123 : Int → lf_Z → Prop} {Q1 Q2 Q3 : lf_Z → Prop} {x1 : Int} {x2 : Int} {x3 : Int} {s : lf_Z} (hX12 : ∀ (v0 : Int) (v1 : lf_Z), X121 v0 v1 → X122 v0 v1 → X123 v0 v1) (hQ : ∀ (s : lf_Z), Q1 s → Q2 s → Q3 s) (h1 : fm_88_p12 Q1 x1 x2 X121 x3 s) (h2 : fw_88_p12 Q2 x1 x2 X122 x3 s) : fm_88_p12 Q3 x1 x2 X123 x3 s := by
  unfold fm_88_p12 at h1 ⊢
  unfold fw_88_p12 at h2
  exact cj_76 (fun r23 s22 k1 l1 => ⟨k1.1, ⟨k1.2.1, ⟨(fun c4 => hQ _  (k1.2.2.1 c4) (((l1 k1.1) k1.2.1).1 c4)), (fun c4 => cj_77 (fun r27 s26 k6 l6 => cj_78 (fun r29 s28 k7 l7 => ⟨k7.1, ⟨(fun c9 => cj_88_p153 hX12 hQ (k7.2.1 c9) ((l7 k7.1).1 c9)), (fun c9 => cj_89 (fun z32 s31 k11 l11 => ⟨(fun c12 => cj_88_p153 hX12 hQ (k11.1 c12) (l11.1 c12)), (fun c12 => cj_90 (fun z34 s33 k14 l14 => ⟨(fun c15 => ⟨(k14.1 c15).1, ⟨(k14.1 c15).2.1, ⟨(fun c18 => cj_88_p99 hX12 hQ ((k14.1 c15).2.2.1 c18) ((((l14.1 c15) (k14.1 c15).1) (k14.1 c15).2.1).1 c18)), (fun c18 => cj_88_p99 hX12 hQ ((k14.1 c15).2.2.2 c18) ((((l14.1 c15) (k14.1 c15).1) (k14.1 c15).2.1).2 c18))⟩⟩⟩), (fun c15 => cj_88_p153 hX12 hQ (k14.2 c15) (l14.2 c15))⟩) (k11.2 c12) (l11.2 c12))⟩) (k7.2.2 c9) ((l7 k7.1).2 c9))⟩⟩) k6 l6) (k1.2.2.2 c4) (((l1 k1.1) k1.2.1).2 c4))⟩⟩⟩) h1 h2
def fw_88_p12L (Q : lf_Z → Prop) (x1 : Int) (x2 : Int) (x3 : Int) (s : lf_Z) : Prop := ∃ X12 : Int → lf_Z → Prop, (∀ (x3 : Int) (s : lf_Z), X12 x3 s → fw_88_p12 Q x1 x2 X12 x3 s) ∧ X12 x3 s
theorem cj_88_p12L {Q1 Q2 Q3 : lf_Z → Prop} {x1 : Int} {x2 : Int} {x3 : Int} {s : lf_Z} (hQ : ∀ (s : lf_Z), Q1 s → Q2 s → Q3 s) (h1 : fm_88_p12L Q1 x1 x2 x3 s) (h2 : fw_88_p12L Q2 x1 x2 x3 s) : fm_88_p12L Q3 x1 x2 x3 s := by
  intro X0 hX0
  obtain ⟨Y, hY, hY0⟩ := h2
  exact h1 (fun v0 s => Y v0 s → X0 v0 s) (fun v0 s hb hy => hX0 v0 s (cj_88_p12 (X121 := fun v0 s => Y v0 s → X0 v0 s) (X122 := Y) (X123 := X0) (hX12 := fun v0 s a b => a b) hQ hb (hY v0 s hy))) hY0
def fw_88 (a1 : Int) (Q : lf_Z → Prop) (s : lf_Z) : Prop := (0 ≤ a1 ∧ a1 < 4) → (fw_88_p12L Q a1 (s.1 17 a1) 0 s)
theorem cj_88 {Q1 Q2 Q3 : lf_Z → Prop} {a1 : Int} {s : lf_Z} (hQ : ∀ (s : lf_Z), Q1 s → Q2 s → Q3 s) (h1 : fm_88 a1 Q1 s) (h2 : fw_88 a1 Q2 s) : fm_88 a1 Q3 s := by
  unfold fm_88 at h1 ⊢
  unfold fw_88 at h2
  exact ⟨h1.1, cj_88_p12L hQ h1.2 (h2 h1.1)⟩
def fw_81_p89 (Q : Int → lf_Z → Prop) (y1 : Int) (y2 : Int) (s : lf_Z) : Prop := (0 ≤ y1 ∧ y1 < 11) → ((s.2.2 3 = none → (fw_84 0 (fun r35 s34 => (fw_55 r35 0 2 (fun r37 s36 => (Q r37 s36)) s34)) (lf_up s.1 64 y1 y2, s.2.1, s.2.2))) ∧ (∀ t33 : Nat, s.2.2 3 = some t33 → t33 < 4 → (fw_84b t33 0 (fun r39 s38 => (fw_55 r39 0 2 (fun r41 s40 => (Q r41 s40)) s38)) (lf_up s.1 64 y1 y2, s.2.1, s.2.2))))
theorem cj_81_p89 {Q1 Q2 Q3 : Int → lf_Z → Prop} {y1 : Int} {y2 : Int} {s : lf_Z} (hQ : ∀ (r : Int) (s : lf_Z), Q1 r s → Q2 r s → Q3 r s) (h1 : fm_81_p89 Q1 y1 y2 s) (h2 : fw_81_p89 Q2 y1 y2 s) : fm_81_p89 Q3 y1 y2 s := by
  unfold fm_81_p89 at h1 ⊢
  unfold fw_81_p89 at h2
  exact ⟨h1.1, ⟨(fun c2 => cj_84 (fun r35 s34 k3 l3 => cj_55 (fun r37 s36 k4 l4 => hQ _ _  k4 l4) k3 l3) (h1.2.1 c2) ((h2 h1.1).1 c2)), (fun t33 et33 => ⟨(h1.2.2 t33 et33).1, cj_84b (fun r39 s38 k7 l7 => cj_55 (fun r41 s40 k8 l8 => hQ _ _  k8 l8) k7 l7) (h1.2.2 t33 et33).2 ((h2 h1.1).2 t33 et33 (h1.2.2 t33 et33).1)⟩)⟩⟩
def fw_81 (a1 : Int) (Q : Int → lf_Z → Prop) (s : lf_Z) : Prop := (s.2.2 3 = none → (Q 1 s)) ∧ (∀ t21 : Nat, s.2.2 3 = some t21 → t21 < 4 → ((s.2.2 3 = none → (True)) ∧ (∀ t22 : Nat, s.2.2 3 = some t22 → t22 < 4 → (fw_40 t22 0 (fun z24 s23 => ((z24 = false → (Q 1 s23)) ∧ (z24 = true → (fw_80 a1 (fun z26 s25 => ((z26 = true → ((0 ≤ a1 ∧ a1 < 4) → (fw_82 (s25.1 16 a1) (s25.1 17 a1) 0 (fun s28 => (lf_R (s28.1 18 a1) → ((s28.1 18 a1 ≠ (-1) → (fw_83 (s28.1 18 a1) (fun r31 s30 => (fw_81_p89 Q 4 r31 s30)) s28)) ∧ (¬ (s28.1 18 a1 ≠ (-1)) → (fw_81_p89 Q 4 0 s28))))) s25))) ∧ (z26 = false → (Q 1 s25)))) s23)))) s))))
theorem cj_81 {Q1 Q2 Q3 : Int → lf_Z → Prop} {a1 : Int} {s : lf_Z} (hQ : ∀ (r : Int) (s : lf_Z), Q1 r s → Q2 r s → Q3 r s) (h1 : fm_81 a1 Q1 s) (h2 : fw_81 a1 Q2 s) : fm_81 a1 Q3 s := by
  unfold fm_81 at h1 ⊢
  unfold fw_81 at h2
  exact ⟨(fun c1 => hQ _ _  (h1.1 c1) (h2.1 c1)), (fun t21 et21 => ⟨(h1.2 t21 et21).1, ⟨(fun c4 => ((h1.2 t21 et21).2.1 c4).elim), (fun t22 et22 => ⟨((h1.2 t21 et21).2.2 t22 et22).1, cj_40 (fun z24 s23 k7 l7 => ⟨(fun c8 => hQ _ _  (k7.1 c8) (l7.1 c8)), (fun c8 => cj_80 (fun z26 s25 k10 l10 => ⟨(fun c11 => ⟨(k10.1 c11).1, cj_82 (fun s28 k13 l13 => ⟨k13.1, ⟨(fun c15 => cj_83 (fun r31 s30 k16 l16 => cj_81_p89 hQ k16 l16) (k13.2.1 c15) ((l13 k13.1).1 c15)), (fun c15 => cj_81_p89 hQ (k13.2.2 c15) ((l13 k13.1).2 c15))⟩⟩) (k10.1 c11).2 ((l10.1 c11) (k10.1 c11).1)⟩), (fun c11 => hQ _ _  (k10.2 c11) (l10.2 c11))⟩) (k7.2 c8) (l7.2 c8))⟩) ((h1.2 t21 et21).2.2 t22 et22).2 ((h2.2 t21 et21 (h1.2 t21 et21).1).2 t22 et22 ((h1.2 t21 et21).2.2 t22 et22).1)⟩)⟩⟩)⟩
def fw_75 (a1 : Int) (a2 : Int) (Q : Int → lf_Z → Prop) (s : lf_Z) : Prop := fw_18 a1 (fun z22 s21 => ((z22 = false → (Q 1000 s21)) ∧ (z22 = true → (fw_18 a2 (fun z24 s23 => ((z24 = false → (Q 1000 s23)) ∧ (z24 = true → ((0 ≤ (a1 * 12) + a2 ∧ (a1 * 12) + a2 < 144) → (Q (s23.1 13 ((a1 * 12) + a2)) s23))))) s21)))) s
theorem cj_75 {Q1 Q2 Q3 : Int → lf_Z → Prop} {a1 : Int} {a2 : Int} {s : lf_Z} (hQ : ∀ (r : Int) (s : lf_Z), Q1 r s → Q2 r s → Q3 r s) (h1 : fm_75 a1 a2 Q1 s) (h2 : fw_75 a1 a2 Q2 s) : fm_75 a1 a2 Q3 s := by
  unfold fm_75 at h1 ⊢
  unfold fw_75 at h2
  exact cj_18 (fun z22 s21 k1 l1 => ⟨(fun c2 => hQ _ _  (k1.1 c2) (l1.1 c2)), (fun c2 => cj_18 (fun z24 s23 k4 l4 => ⟨(fun c5 => hQ _ _  (k4.1 c5) (l4.1 c5)), (fun c5 => ⟨(k4.2 c5).1, hQ _ _  (k4.2 c5).2 ((l4.2 c5) (k4.2 c5).1)⟩)⟩) (k1.2 c2) (l1.2 c2))⟩) h1 h2
def fw_74_p73 (X13 : Int → Int → lf_Z → Prop) (Q : Int → lf_Z → Prop) (x1 : Int) (x2 : Int) (x3 : Int) (x4 : Int) (x5 : Int) (s : lf_Z) : Prop := X13 x3 (x5 + 1) s
theorem cj_74_p73 {X131 X132 X133 : Int → Int → lf_Z → Prop} {Q1 Q2 Q3 : Int → lf_Z → Prop} {x1 : Int} {x2 : Int} {x3 : Int} {x4 : Int} {x5 : Int} {s : lf_Z} (hX13 : ∀ (v0 : Int) (v1 : Int) (v2 : lf_Z), X131 v0 v1 v2 → X132 v0 v1 v2 → X133 v0 v1 v2) (hQ : ∀ (r : Int) (s : lf_Z), Q1 r s → Q2 r s → Q3 r s) (h1 : fm_74_p73 X131 Q1 x1 x2 x3 x4 x5 s) (h2 : fw_74_p73 X132 Q2 x1 x2 x3 x4 x5 s) : fm_74_p73 X133 Q3 x1 x2 x3 x4 x5 s := by
  unfold fm_74_p73 at h1 ⊢
  unfold fw_74_p73 at h2
  exact hX13 _ _ _  h1 h2
def fw_74_p70 (X13 : Int → Int → lf_Z → Prop) (Q : Int → lf_Z → Prop) (x1 : Int) (x2 : Int) (x4 : Int) (x5 : Int) (x6 : Int) (s : lf_Z) : Prop := fw_74_p73 X13 Q x1 x2 x6 x4 x5 s
theorem cj_74_p70 {X131 X132 X133 : Int → Int → lf_Z → Prop} {Q1 Q2 Q3 : Int → lf_Z → Prop} {x1 : Int} {x2 : Int} {x4 : Int} {x5 : Int} {x6 : Int} {s : lf_Z} (hX13 : ∀ (v0 : Int) (v1 : Int) (v2 : lf_Z), X131 v0 v1 v2 → X132 v0 v1 v2 → X133 v0 v1 v2) (hQ : ∀ (r : Int) (s : lf_Z), Q1 r s → Q2 r s → Q3 r s) (h1 : fm_74_p70 X131 Q1 x1 x2 x4 x5 x6 s) (h2 : fw_74_p70 X132 Q2 x1 x2 x4 x5 x6 s) : fm_74_p70 X133 Q3 x1 x2 x4 x5 x6 s := by
  unfold fm_74_p70 at h1 ⊢
  unfold fw_74_p70 at h2
  exact cj_74_p73 hX13 hQ h1 h2
def fw_74_p13 (Q : Int → lf_Z → Prop) (x1 : Int) (x2 : Int) (x4 : Int) (X13 : Int → Int → lf_Z → Prop) (x3 : Int) (x5 : Int) (s : lf_Z) : Prop := fw_76 x1 (fun r24 s23 => (lf_R x5 → (lf_R r24 → ((r24 ≤ x5 → (Q x3 s23)) ∧ (¬ (r24 ≤ x5) → (lf_R x4 → ((1000 ≤ x4 → (Q x3 s23)) ∧ (¬ (1000 ≤ x4) → (fw_77 x1 x5 (fun r29 s28 => (fw_78 r29 x1 (fun r31 s30 => (fw_75 r31 x2 (fun r33 s32 => (lf_R r33 → (lf_R (x4 - 1) → ((r33 ≠ x4 - 1 → (fw_74_p73 X13 Q x1 x2 x3 x4 x5 s32)) ∧ (¬ (r33 ≠ x4 - 1) → (lf_R x3 → ((x3 = (-1) → (fw_74_p70 X13 Q x1 x2 x4 x5 r31 s32)) ∧ (¬ (x3 = (-1)) → (lf_R r31 → ((x3 ≤ r31 → (fw_74_p73 X13 Q x1 x2 x3 x4 x5 s32)) ∧ (¬ (x3 ≤ r31) → (fw_74_p70 X13 Q x1 x2 x4 x5 r31 s32)))))))))))) s30)) s28)) s23))))))))) s
theorem cj_74_p13 {X131 X132 X133 : Int → Int → lf_Z → Prop} {Q1 Q2 Q3 : Int → lf_Z → Prop} {x1 : Int} {x2 : Int} {x4 : Int} {x3 : Int} {x5 : Int} {s : lf_Z} (hX13 : ∀ (v0 : Int) (v1 : Int) (v2 : lf_Z), X131 v0 v1 v2 → X132 v0 v1 v2 → X133 v0 v1 v2) (hQ : ∀ (r : Int) (s : lf_Z), Q1 r s → Q2 r s → Q3 r s) (h1 : fm_74_p13 Q1 x1 x2 x4 X131 x3 x5 s) (h2 : fw_74_p13 Q2 x1 x2 x4 X132 x3 x5 s) : fm_74_p13 Q3 x1 x2 x4 X133 x3 x5 s := by
  unfold fm_74_p13 at h1 ⊢
  unfold fw_74_p13 at h2
  exact cj_76 (fun r24 s23 k1 l1 => ⟨k1.1, ⟨k1.2.1, ⟨(fun c4 => hQ _ _  (k1.2.2.1 c4) (((l1 k1.1) k1.2.1).1 c4)), (fun c4 => ⟨(k1.2.2.2 c4).1, ⟨(fun c7 => hQ _ _  ((k1.2.2.2 c4).2.1 c7) (((((l1 k1.1) k1.2.1).2 c4) (k1.2.2.2 c4).1).1 c7)), (fun c7 => cj_77 (fun r29 s28 k9 l9 => cj_78 (fun r31 s30 k10 l10 => cj_75 (fun r33 s32 k11 l11 => ⟨k11.1, ⟨k11.2.1, ⟨(fun c14 => cj_74_p73 hX13 hQ (k11.2.2.1 c14) (((l11 k11.1) k11.2.1).1 c14)), (fun c14 => ⟨(k11.2.2.2 c14).1, ⟨(fun c17 => cj_74_p70 hX13 hQ ((k11.2.2.2 c14).2.1 c17) (((((l11 k11.1) k11.2.1).2 c14) (k11.2.2.2 c14).1).1 c17)), (fun c17 => ⟨((k11.2.2.2 c14).2.2 c17).1, ⟨(fun c20 => cj_74_p73 hX13 hQ (((k11.2.2.2 c14).2.2 c17).2.1 c20) (((((((l11 k11.1) k11.2.1).2 c14) (k11.2.2.2 c14).1).2 c17) ((k11.2.2.2 c14).2.2 c17).1).1 c20)), (fun c20 => cj_74_p70 hX13 hQ (((k11.2.2.2 c14).2.2 c17).2.2 c20) (((((((l11 k11.1) k11.2.1).2 c14) (k11.2.2.2 c14).1).2 c17) ((k11.2.2.2 c14).2.2 c17).1).2 c20))⟩⟩)⟩⟩)⟩⟩⟩) k10 l10) k9 l9) ((k1.2.2.2 c4).2.2 c7) (((((l1 k1.1) k1.2.1).2 c4) (k1.2.2.2 c4).1).2 c7))⟩⟩)⟩⟩⟩) h1 h2
def fw_74_p13L (Q : Int → lf_Z → Prop) (x1 : Int) (x2 : Int) (x3 : Int) (x4 : Int) (x5 : Int) (s : lf_Z) : Prop := ∃ X13 : Int → Int → lf_Z → Prop, (∀ (x3 : Int) (x5 : Int) (s : lf_Z), X13 x3 x5 s → fw_74_p13 Q x1 x2 x4 X13 x3 x5 s) ∧ X13 x3 x5 s
theorem cj_74_p13L {Q1 Q2 Q3 : Int → lf_Z → Prop} {x1 : Int} {x2 : Int} {x3 : Int} {x4 : Int} {x5 : Int} {s : lf_Z} (hQ : ∀ (r : Int) (s : lf_Z), Q1 r s → Q2 r s → Q3 r s) (h1 : fm_74_p13L Q1 x1 x2 x3 x4 x5 s) (h2 : fw_74_p13L Q2 x1 x2 x3 x4 x5 s) : fm_74_p13L Q3 x1 x2 x3 x4 x5 s := by
  intro X0 hX0
  obtain ⟨Y, hY, hY0⟩ := h2
  exact h1 (fun v0 v1 s => Y v0 v1 s → X0 v0 v1 s) (fun v0 v1 s hb hy => hX0 v0 v1 s (cj_74_p13 (X131 := fun v0 v1 s => Y v0 v1 s → X0 v0 v1 s) (X132 := Y) (X133 := X0) (hX13 := fun v0 v1 s a b => a b) hQ hb (hY v0 v1 s hy))) hY0
def fw_74 (a1 : Int) (a2 : Int) (Q : Int → lf_Z → Prop) (s : lf_Z) : Prop := fw_75 a1 a2 (fun r22 s21 => (fw_74_p13L Q a1 a2 (-1) r22 0 s21)) s
theorem cj_74 {Q1 Q2 Q3 : Int → lf_Z → Prop} {a1 : Int} {a2 : Int} {s : lf_Z} (hQ : ∀ (r : Int) (s : lf_Z), Q1 r s → Q2 r s → Q3 r s) (h1 : fm_74 a1 a2 Q1 s) (h2 : fw_74 a1 a2 Q2 s) : fm_74 a1 a2 Q3 s := by
  unfold fm_74 at h1 ⊢
  unfold fw_74 at h2
  exact cj_75 (fun r22 s21 k1 l1 => cj_74_p13L hQ k1 l1) h1 h2
def fw_73 (a1 : Int) (Q : lf_Z → Prop) (s : lf_Z) : Prop := (0 ≤ a1 ∧ a1 < 6) → (lf_R (s.1 20 a1) → ((s.1 20 a1 = (-1) → (Q s)) ∧ (¬ (s.1 20 a1 = (-1)) → (lf_R (s.1 19 a1) → ((s.1 20 a1 ≠ s.1 19 a1 → (fw_74 (s.1 19 a1) (s.1 20 a1) (fun r25 s24 => (lf_R r25 → ((r25 = (-1) → (Q s24)) ∧ (¬ (r25 = (-1)) → (Q (lf_up s24.1 19 a1 r25, s24.2.1, s24.2.2)))))) s)) ∧ (¬ (s.1 20 a1 ≠ s.1 19 a1) → (Q s)))))))
theorem cj_73 {Q1 Q2 Q3 : lf_Z → Prop} {a1 : Int} {s : lf_Z} (hQ : ∀ (s : lf_Z), Q1 s → Q2 s → Q3 s) (h1 : fm_73 a1 Q1 s) (h2 : fw_73 a1 Q2 s) : fm_73 a1 Q3 s := by
  unfold fm_73 at h1 ⊢
  unfold fw_73 at h2
  exact ⟨h1.1, ⟨h1.2.1, ⟨(fun c3 => hQ _  (h1.2.2.1 c3) (((h2 h1.1) h1.2.1).1 c3)), (fun c3 => ⟨(h1.2.2.2 c3).1, ⟨(fun c6 => cj_74 (fun r25 s24 k7 l7 => ⟨k7.1, ⟨(fun c9 => hQ _  (k7.2.1 c9) ((l7 k7.1).1 c9)), (fun c9 => hQ _  (k7.2.2 c9) ((l7 k7.1).2 c9))⟩⟩) ((h1.2.2.2 c3).2.1 c6) (((((h2 h1.1) h1.2.1).2 c3) (h1.2.2.2 c3).1).1 c6)), (fun c6 => hQ _  ((h1.2.2.2 c3).2.2 c6) (((((h2 h1.1) h1.2.1).2 c3) (h1.2.2.2 c3).1).2 c6))⟩⟩)⟩⟩⟩
def fw_72_p74 (X43 : Int → lf_Z → Prop) (Q : lf_Z → Prop) (x1 : Int) (x2 : Int) (X74 : Int → lf_Z → Prop) (x3 : Int) (s : lf_Z) : Prop := lf_R x3 → (lf_R x2 → ((x2 ≤ x3 → (X43 (x1 + 1) s)) ∧ (¬ (x2 ≤ x3) → (fw_88 x1 (fun s30 => (X74 (x3 + 1) s30)) s))))
theorem cj_72_p74 {X431 X432 X433 : Int → lf_Z → Prop} {X741 X742 X743 : Int → lf_Z → Prop} {Q1 Q2 Q3 : lf_Z → Prop} {x1 : Int} {x2 : Int} {x3 : Int} {s : lf_Z} (hX43 : ∀ (v0 : Int) (v1 : lf_Z), X431 v0 v1 → X432 v0 v1 → X433 v0 v1) (hX74 : ∀ (v0 : Int) (v1 : lf_Z), X741 v0 v1 → X742 v0 v1 → X743 v0 v1) (hQ : ∀ (s : lf_Z), Q1 s → Q2 s → Q3 s) (h1 : fm_72_p74 X431 Q1 x1 x2 X741 x3 s) (h2 : fw_72_p74 X432 Q2 x1 x2 X742 x3 s) : fm_72_p74 X433 Q3 x1 x2 X743 x3 s := by
  unfold fm_72_p74 at h1 ⊢
  unfold fw_72_p74 at h2
  exact ⟨h1.1, ⟨h1.2.1, ⟨(fun c3 => hX43 _ _  (h1.2.2.1 c3) (((h2 h1.1) h1.2.1).1 c3)), (fun c3 => cj_88 (fun s30 k5 l5 => hX74 _ _  k5 l5) (h1.2.2.2 c3) (((h2 h1.1) h1.2.1).2 c3))⟩⟩⟩
def fw_72_p74L (X43 : Int → lf_Z → Prop) (Q : lf_Z → Prop) (x1 : Int) (x2 : Int) (x3 : Int) (s : lf_Z) : Prop := ∃ X74 : Int → lf_Z → Prop, (∀ (x3 : Int) (s : lf_Z), X74 x3 s → fw_72_p74 X43 Q x1 x2 X74 x3 s) ∧ X74 x3 s
theorem cj_72_p74L {X431 X432 X433 : Int → lf_Z → Prop} {Q1 Q2 Q3 : lf_Z → Prop} {x1 : Int} {x2 : Int} {x3 : Int} {s : lf_Z} (hX43 : ∀ (v0 : Int) (v1 : lf_Z), X431 v0 v1 → X432 v0 v1 → X433 v0 v1) (hQ : ∀ (s : lf_Z), Q1 s → Q2 s → Q3 s) (h1 : fm_72_p74L X431 Q1 x1 x2 x3 s) (h2 : fw_72_p74L X432 Q2 x1 x2 x3 s) : fm_72_p74L X433 Q3 x1 x2 x3 s := by
  intro X0 hX0
  obtain ⟨Y, hY, hY0⟩ := h2
  exact h1 (fun v0 s => Y v0 s → X0 v0 s) (fun v0 s hb hy => hX0 v0 s (cj_72_p74 (hX43 := hX43) (X741 := fun v0 s => Y v0 s → X0 v0 s) (X742 := Y) (X743 := X0) (hX74 := fun v0 s a b => a b) hQ hb (hY v0 s hy))) hY0
def fw_72_p71 (X43 : Int → lf_Z → Prop) (Q : lf_Z → Prop) (x1 : Int) (y0 : Int) (s : lf_Z) : Prop := fw_72_p74L X43 Q x1 y0 0 s
theorem cj_72_p71 {X431 X432 X433 : Int → lf_Z → Prop} {Q1 Q2 Q3 : lf_Z → Prop} {x1 : Int} {y0 : Int} {s : lf_Z} (hX43 : ∀ (v0 : Int) (v1 : lf_Z), X431 v0 v1 → X432 v0 v1 → X433 v0 v1) (hQ : ∀ (s : lf_Z), Q1 s → Q2 s → Q3 s) (h1 : fm_72_p71 X431 Q1 x1 y0 s) (h2 : fw_72_p71 X432 Q2 x1 y0 s) : fm_72_p71 X433 Q3 x1 y0 s := by
  unfold fm_72_p71 at h1 ⊢
  unfold fw_72_p71 at h2
  exact cj_72_p74L hX43 hQ h1 h2
def fw_72_p43 (Q : lf_Z → Prop) (X43 : Int → lf_Z → Prop) (x1 : Int) (s : lf_Z) : Prop := lf_R x1 → ((4 ≤ x1 → (fw_95 (fun s24 => (fw_96 (fun s25 => (Q (lf_up s25.1 15 7 (lf_w ((s25.1 15 7) + 1)), s25.2.1, s25.2.2))) s24)) s)) ∧ (¬ (4 ≤ x1) → (fw_80 x1 (fun z27 s26 => ((z27 = false → (fw_72_p71 X43 Q x1 0 s26)) ∧ (z27 = true → (fw_81 x1 (fun r32 s31 => (fw_72_p71 X43 Q x1 r32 s31)) s26)))) s)))
theorem cj_72_p43 {X431 X432 X433 : Int → lf_Z → Prop} {Q1 Q2 Q3 : lf_Z → Prop} {x1 : Int} {s : lf_Z} (hX43 : ∀ (v0 : Int) (v1 : lf_Z), X431 v0 v1 → X432 v0 v1 → X433 v0 v1) (hQ : ∀ (s : lf_Z), Q1 s → Q2 s → Q3 s) (h1 : fm_72_p43 Q1 X431 x1 s) (h2 : fw_72_p43 Q2 X432 x1 s) : fm_72_p43 Q3 X433 x1 s := by
  unfold fm_72_p43 at h1 ⊢
  unfold fw_72_p43 at h2
  exact ⟨h1.1, ⟨(fun c2 => cj_95 (fun s24 k3 l3 => cj_96 (fun s25 k4 l4 => hQ _  k4 l4) k3 l3) (h1.2.1 c2) ((h2 h1.1).1 c2)), (fun c2 => cj_80 (fun z27 s26 k6 l6 => ⟨(fun c7 => cj_72_p71 hX43 hQ (k6.1 c7) (l6.1 c7)), (fun c7 => cj_81 (fun r32 s31 k9 l9 => cj_72_p71 hX43 hQ k9 l9) (k6.2 c7) (l6.2 c7))⟩) (h1.2.2 c2) ((h2 h1.1).2 c2))⟩⟩
def fw_72_p43L (Q : lf_Z → Prop) (x1 : Int) (s : lf_Z) : Prop := ∃ X43 : Int → lf_Z → Prop, (∀ (x1 : Int) (s : lf_Z), X43 x1 s → fw_72_p43 Q X43 x1 s) ∧ X43 x1 s
theorem cj_72_p43L {Q1 Q2 Q3 : lf_Z → Prop} {x1 : Int} {s : lf_Z} (hQ : ∀ (s : lf_Z), Q1 s → Q2 s → Q3 s) (h1 : fm_72_p43L Q1 x1 s) (h2 : fw_72_p43L Q2 x1 s) : fm_72_p43L Q3 x1 s := by
  intro X0 hX0
  obtain ⟨Y, hY, hY0⟩ := h2
  exact h1 (fun v0 s => Y v0 s → X0 v0 s) (fun v0 s hb hy => hX0 v0 s (cj_72_p43 (X431 := fun v0 s => Y v0 s → X0 v0 s) (X432 := Y) (X433 := X0) (hX43 := fun v0 s a b => a b) hQ hb (hY v0 s hy))) hY0
def fw_72_p35 (X2 : Int → lf_Z → Prop) (Q : lf_Z → Prop) (x1 : Int) (s : lf_Z) : Prop := X2 (x1 + 1) s
theorem cj_72_p35 {X21 X22 X23 : Int → lf_Z → Prop} {Q1 Q2 Q3 : lf_Z → Prop} {x1 : Int} {s : lf_Z} (hX2 : ∀ (v0 : Int) (v1 : lf_Z), X21 v0 v1 → X22 v0 v1 → X23 v0 v1) (hQ : ∀ (s : lf_Z), Q1 s → Q2 s → Q3 s) (h1 : fm_72_p35 X21 Q1 x1 s) (h2 : fw_72_p35 X22 Q2 x1 s) : fm_72_p35 X23 Q3 x1 s := by
  unfold fm_72_p35 at h1 ⊢
  unfold fw_72_p35 at h2
  exact hX2 _ _  h1 h2
def fw_72_p2 (Q : lf_Z → Prop) (X2 : Int → lf_Z → Prop) (x1 : Int) (s : lf_Z) : Prop := lf_R x1 → (lf_R (s.1 1 2) → ((s.1 1 2 ≤ x1 → (fw_72_p43L Q 0 s)) ∧ (¬ (s.1 1 2 ≤ x1) → (fw_73 x1 (fun s33 => ((0 ≤ x1 ∧ x1 < 6) → (lf_R (s33.1 8 x1) → ((s33.1 8 x1 = 0 → (fw_72_p35 X2 Q x1 s33)) ∧ (¬ (s33.1 8 x1 = 0) → (fw_73 x1 (fun s36 => (fw_72_p35 X2 Q x1 s36)) s33)))))) s))))
theorem cj_72_p2 {X21 X22 X23 : Int → lf_Z → Prop} {Q1 Q2 Q3 : lf_Z → Prop} {x1 : Int} {s : lf_Z} (hX2 : ∀ (v0 : Int) (v1 : lf_Z), X21 v0 v1 → X22 v0 v1 → X23 v0 v1) (hQ : ∀ (s : lf_Z), Q1 s → Q2 s → Q3 s) (h1 : fm_72_p2 Q1 X21 x1 s) (h2 : fw_72_p2 Q2 X22 x1 s) : fm_72_p2 Q3 X23 x1 s := by
  unfold fm_72_p2 at h1 ⊢
  unfold fw_72_p2 at h2
  exact ⟨h1.1, ⟨h1.2.1, ⟨(fun c3 => cj_72_p43L hQ (h1.2.2.1 c3) (((h2 h1.1) h1.2.1).1 c3)), (fun c3 => cj_73 (fun s33 k5 l5 => ⟨k5.1, ⟨k5.2.1, ⟨(fun c8 => cj_72_p35 hX2 hQ (k5.2.2.1 c8) (((l5 k5.1) k5.2.1).1 c8)), (fun c8 => cj_73 (fun s36 k10 l10 => cj_72_p35 hX2 hQ k10 l10) (k5.2.2.2 c8) (((l5 k5.1) k5.2.1).2 c8))⟩⟩⟩) (h1.2.2.2 c3) (((h2 h1.1) h1.2.1).2 c3))⟩⟩⟩
def fw_72_p2L (Q : lf_Z → Prop) (x1 : Int) (s : lf_Z) : Prop := ∃ X2 : Int → lf_Z → Prop, (∀ (x1 : Int) (s : lf_Z), X2 x1 s → fw_72_p2 Q X2 x1 s) ∧ X2 x1 s
theorem cj_72_p2L {Q1 Q2 Q3 : lf_Z → Prop} {x1 : Int} {s : lf_Z} (hQ : ∀ (s : lf_Z), Q1 s → Q2 s → Q3 s) (h1 : fm_72_p2L Q1 x1 s) (h2 : fw_72_p2L Q2 x1 s) : fm_72_p2L Q3 x1 s := by
  intro X0 hX0
  obtain ⟨Y, hY, hY0⟩ := h2
  exact h1 (fun v0 s => Y v0 s → X0 v0 s) (fun v0 s hb hy => hX0 v0 s (cj_72_p2 (X21 := fun v0 s => Y v0 s → X0 v0 s) (X22 := Y) (X23 := X0) (hX2 := fun v0 s a b => a b) hQ hb (hY v0 s hy))) hY0
def fw_72 (Q : lf_Z → Prop) (s : lf_Z) : Prop := fw_72_p2L Q 0 s
theorem cj_72 {Q1 Q2 Q3 : lf_Z → Prop} {s : lf_Z} (hQ : ∀ (s : lf_Z), Q1 s → Q2 s → Q3 s) (h1 : fm_72 Q1 s) (h2 : fw_72 Q2 s) : fm_72 Q3 s := by
  unfold fm_72 at h1 ⊢
  unfold fw_72 at h2
  exact cj_72_p2L hQ h1 h2
def fw_71_p2 (Q : Bool → lf_Z → Prop) (x1 : Int) (X2 : Int → lf_Z → Prop) (x2 : Int) (s : lf_Z) : Prop := lf_R x2 → (lf_R x1 → ((x1 ≤ x2 → (Q true s)) ∧ (¬ (x1 ≤ x2) → (lf_R (s.1 15 7) → ((s.1 15 7 < 999 → (fw_67 (s.1 1 2) (fun s24 => (fw_72 (fun s25 => (X2 (x2 + 1) s25)) s24)) s)) ∧ (¬ (s.1 15 7 < 999) → (Q false s)))))))
theorem cj_71_p2 {X21 X22 X23 : Int → lf_Z → Prop} {Q1 Q2 Q3 : Bool → lf_Z → Prop} {x1 : Int} {x2 : Int} {s : lf_Z} (hX2 : ∀ (v0 : Int) (v1 : lf_Z), X21 v0 v1 → X22 v0 v1 → X23 v0 v1) (hQ : ∀ (r : Bool) (s : lf_Z), Q1 r s → Q2 r s → Q3 r s) (h1 : fm_71_p2 Q1 x1 X21 x2 s) (h2 : fw_71_p2 Q2 x1 X22 x2 s) : fm_71_p2 Q3 x1 X23 x2 s := by
  unfold fm_71_p2 at h1 ⊢
  unfold fw_71_p2 at h2
  exact ⟨h1.1, ⟨h1.2.1, ⟨(fun c3 => hQ _ _  (h1.2.2.1 c3) (((h2 h1.1) h1.2.1).1 c3)), (fun c3 => ⟨(h1.2.2.2 c3).1, ⟨(fun c6 => cj_67 (fun s24 k7 l7 => cj_72 (fun s25 k8 l8 => hX2 _ _  k8 l8) k7 l7) ((h1.2.2.2 c3).2.1 c6) (((((h2 h1.1) h1.2.1).2 c3) (h1.2.2.2 c3).1).1 c6)), (fun c6 => hQ _ _  ((h1.2.2.2 c3).2.2 c6) (((((h2 h1.1) h1.2.1).2 c3) (h1.2.2.2 c3).1).2 c6))⟩⟩)⟩⟩⟩
def fw_71_p2L (Q : Bool → lf_Z → Prop) (x1 : Int) (x2 : Int) (s : lf_Z) : Prop := ∃ X2 : Int → lf_Z → Prop, (∀ (x2 : Int) (s : lf_Z), X2 x2 s → fw_71_p2 Q x1 X2 x2 s) ∧ X2 x2 s
theorem cj_71_p2L {Q1 Q2 Q3 : Bool → lf_Z → Prop} {x1 : Int} {x2 : Int} {s : lf_Z} (hQ : ∀ (r : Bool) (s : lf_Z), Q1 r s → Q2 r s → Q3 r s) (h1 : fm_71_p2L Q1 x1 x2 s) (h2 : fw_71_p2L Q2 x1 x2 s) : fm_71_p2L Q3 x1 x2 s := by
  intro X0 hX0
  obtain ⟨Y, hY, hY0⟩ := h2
  exact h1 (fun v0 s => Y v0 s → X0 v0 s) (fun v0 s hb hy => hX0 v0 s (cj_71_p2 (X21 := fun v0 s => Y v0 s → X0 v0 s) (X22 := Y) (X23 := X0) (hX2 := fun v0 s a b => a b) hQ hb (hY v0 s hy))) hY0
def fw_71 (a1 : Int) (Q : Bool → lf_Z → Prop) (s : lf_Z) : Prop := fw_71_p2L Q a1 0 s
theorem cj_71 {Q1 Q2 Q3 : Bool → lf_Z → Prop} {a1 : Int} {s : lf_Z} (hQ : ∀ (r : Bool) (s : lf_Z), Q1 r s → Q2 r s → Q3 r s) (h1 : fm_71 a1 Q1 s) (h2 : fw_71 a1 Q2 s) : fm_71 a1 Q3 s := by
  unfold fm_71 at h1 ⊢
  unfold fw_71 at h2
  exact cj_71_p2L hQ h1 h2
def fw_65b_p10 (Q : Int → lf_Z → Prop) (x3 : Int) (X10 : Int → Int → lf_Z → Prop) (x1 : Int) (x4 : Int) (s : lf_Z) : Prop := lf_R x4 → (lf_R x3 → ((x3 ≤ x4 → (Q x1 s)) ∧ (¬ (x3 ≤ x4) → ((0 ≤ x4 ∧ x4 < 12) → (X10 (lf_w (x1 + (s.1 21 x4))) (x4 + 1) s)))))
theorem cj_65b_p10 {X101 X102 X103 : Int → Int → lf_Z → Prop} {Q1 Q2 Q3 : Int → lf_Z → Prop} {x3 : Int} {x1 : Int} {x4 : Int} {s : lf_Z} (hX10 : ∀ (v0 : Int) (v1 : Int) (v2 : lf_Z), X101 v0 v1 v2 → X102 v0 v1 v2 → X103 v0 v1 v2) (hQ : ∀ (r : Int) (s : lf_Z), Q1 r s → Q2 r s → Q3 r s) (h1 : fm_65b_p10 Q1 x3 X101 x1 x4 s) (h2 : fw_65b_p10 Q2 x3 X102 x1 x4 s) : fm_65b_p10 Q3 x3 X103 x1 x4 s := by
  unfold fm_65b_p10 at h1 ⊢
  unfold fw_65b_p10 at h2
  exact ⟨h1.1, ⟨h1.2.1, ⟨(fun c3 => hQ _ _  (h1.2.2.1 c3) (((h2 h1.1) h1.2.1).1 c3)), (fun c3 => ⟨(h1.2.2.2 c3).1, hX10 _ _ _  (h1.2.2.2 c3).2 ((((h2 h1.1) h1.2.1).2 c3) (h1.2.2.2 c3).1)⟩)⟩⟩⟩
def fw_65b_p10L (Q : Int → lf_Z → Prop) (x1 : Int) (x3 : Int) (x4 : Int) (s : lf_Z) : Prop := ∃ X10 : Int → Int → lf_Z → Prop, (∀ (x1 : Int) (x4 : Int) (s : lf_Z), X10 x1 x4 s → fw_65b_p10 Q x3 X10 x1 x4 s) ∧ X10 x1 x4 s
theorem cj_65b_p10L {Q1 Q2 Q3 : Int → lf_Z → Prop} {x1 : Int} {x3 : Int} {x4 : Int} {s : lf_Z} (hQ : ∀ (r : Int) (s : lf_Z), Q1 r s → Q2 r s → Q3 r s) (h1 : fm_65b_p10L Q1 x1 x3 x4 s) (h2 : fw_65b_p10L Q2 x1 x3 x4 s) : fm_65b_p10L Q3 x1 x3 x4 s := by
  intro X0 hX0
  obtain ⟨Y, hY, hY0⟩ := h2
  exact h1 (fun v0 v1 s => Y v0 v1 s → X0 v0 v1 s) (fun v0 v1 s hb hy => hX0 v0 v1 s (cj_65b_p10 (X101 := fun v0 v1 s => Y v0 v1 s → X0 v0 v1 s) (X102 := Y) (X103 := X0) (hX10 := fun v0 v1 s a b => a b) hQ hb (hY v0 v1 s hy))) hY0
def fw_65b (Q : Int → lf_Z → Prop) (s : lf_Z) : Prop := fw_65b_p10L Q 0 12 0 s
theorem cj_65b {Q1 Q2 Q3 : Int → lf_Z → Prop} {s : lf_Z} (hQ : ∀ (r : Int) (s : lf_Z), Q1 r s → Q2 r s → Q3 r s) (h1 : fm_65b Q1 s) (h2 : fw_65b Q2 s) : fm_65b Q3 s := by
  unfold fm_65b at h1 ⊢
  unfold fw_65b at h2
  exact cj_65b_p10L hQ h1 h2
def fw_97 (Q : Int → lf_Z → Prop) (s : lf_Z) : Prop := fw_65b (fun r22 s21 => (Q r22 s21)) s
theorem cj_97 {Q1 Q2 Q3 : Int → lf_Z → Prop} {s : lf_Z} (hQ : ∀ (r : Int) (s : lf_Z), Q1 r s → Q2 r s → Q3 r s) (h1 : fm_97 Q1 s) (h2 : fw_97 Q2 s) : fm_97 Q3 s := by
  unfold fm_97 at h1 ⊢
  unfold fw_97 at h2
  exact cj_65b (fun r22 s21 k1 l1 => hQ _ _  k1 l1) h1 h2
def fw_70 (a1 : Int) (Q : Int → lf_Z → Prop) (s : lf_Z) : Prop := fw_15 a1 1 60 (fun z22 s21 => ((z22 = false → (Q (-1) s21)) ∧ (z22 = true → ((lf_w ((s21.1 15 7) + a1) ≤ 999 → (fw_71 a1 (fun z24 s23 => (fw_97 (fun r26 s25 => (Q r26 s25)) s23)) s21)) ∧ (¬ (lf_w ((s21.1 15 7) + a1) ≤ 999) → (Q (-1) s21)))))) s
theorem cj_70 {Q1 Q2 Q3 : Int → lf_Z → Prop} {a1 : Int} {s : lf_Z} (hQ : ∀ (r : Int) (s : lf_Z), Q1 r s → Q2 r s → Q3 r s) (h1 : fm_70 a1 Q1 s) (h2 : fw_70 a1 Q2 s) : fm_70 a1 Q3 s := by
  unfold fm_70 at h1 ⊢
  unfold fw_70 at h2
  exact cj_15 (fun z22 s21 k1 l1 => ⟨(fun c2 => hQ _ _  (k1.1 c2) (l1.1 c2)), (fun c2 => ⟨(fun c4 => cj_71 (fun z24 s23 k5 l5 => cj_97 (fun r26 s25 k6 l6 => hQ _ _  k6 l6) k5 l5) ((k1.2 c2).1 c4) ((l1.2 c2).1 c4)), (fun c4 => hQ _ _  ((k1.2 c2).2 c4) ((l1.2 c2).2 c4))⟩)⟩) h1 h2
def fw_255 (a1 : Int) (Q : Int → lf_Z → Prop) (s : lf_Z) : Prop := (0 ≤ (114 + (3 * a1)) + 1 ∧ (114 + (3 * a1)) + 1 < 1538) → (Q (s.1 96 ((114 + (3 * a1)) + 1)) s)
theorem cj_255 {Q1 Q2 Q3 : Int → lf_Z → Prop} {a1 : Int} {s : lf_Z} (hQ : ∀ (r : Int) (s : lf_Z), Q1 r s → Q2 r s → Q3 r s) (h1 : fm_255 a1 Q1 s) (h2 : fw_255 a1 Q2 s) : fm_255 a1 Q3 s := by
  unfold fm_255 at h1 ⊢
  unfold fw_255 at h2
  exact ⟨h1.1, hQ _ _  h1.2 (h2 h1.1)⟩
def fw_278_p79 (X2 : Int → lf_Z → Prop) (X11 : Int → lf_Z → Prop) (Q : lf_Z → Prop) (x1 : Int) (x2 : Int) (s : lf_Z) : Prop := X11 (x2 + 1) s
theorem cj_278_p79 {X21 X22 X23 : Int → lf_Z → Prop} {X111 X112 X113 : Int → lf_Z → Prop} {Q1 Q2 Q3 : lf_Z → Prop} {x1 : Int} {x2 : Int} {s : lf_Z} (hX2 : ∀ (v0 : Int) (v1 : lf_Z), X21 v0 v1 → X22 v0 v1 → X23 v0 v1) (hX11 : ∀ (v0 : Int) (v1 : lf_Z), X111 v0 v1 → X112 v0 v1 → X113 v0 v1) (hQ : ∀ (s : lf_Z), Q1 s → Q2 s → Q3 s) (h1 : fm_278_p79 X21 X111 Q1 x1 x2 s) (h2 : fw_278_p79 X22 X112 Q2 x1 x2 s) : fm_278_p79 X23 X113 Q3 x1 x2 s := by
  unfold fm_278_p79 at h1 ⊢
  unfold fw_278_p79 at h2
  exact hX11 _ _  h1 h2
def fw_278_p11 (X2 : Int → lf_Z → Prop) (Q : lf_Z → Prop) (x1 : Int) (X11 : Int → lf_Z → Prop) (x2 : Int) (s : lf_Z) : Prop := lf_R x2 → ((4 ≤ x2 → (X2 (x1 + 1) s)) ∧ (¬ (4 ≤ x2) → (fw_242 x1 (fun r24 s23 => (lf_R r24 → ((r24 = 0 → (fw_278_p79 X2 X11 Q x1 x2 s23)) ∧ (¬ (r24 = 0) → (fw_242 x2 (fun r27 s26 => (lf_R r27 → ((r27 = 0 → (fw_278_p79 X2 X11 Q x1 x2 s26)) ∧ (¬ (r27 = 0) → (fw_255 x1 (fun r30 s29 => (fw_255 x2 (fun r32 s31 => (lf_R r30 → (lf_R r32 → ((r30 = r32 → ((0 ≤ 114 + (3 * x1) ∧ 114 + (3 * x1) < 1538) → (fw_242 x2 (fun r37 s36 => ((0 ≤ 114 + (3 * x2) ∧ 114 + (3 * x2) < 1538) → (fw_278_p79 X2 X11 Q x1 x2 (lf_up (lf_up s36.1 96 (114 + (3 * x1)) ((s31.1 96 (114 + (3 * x1))) + r37)) 96 (114 + (3 * x2)) 0, s36.2.1, s36.2.2)))) s31))) ∧ (¬ (r30 = r32) → (fw_278_p79 X2 X11 Q x1 x2 s31)))))) s29)) s26))))) s23))))) s)))
theorem cj_278_p11 {X21 X22 X23 : Int → lf_Z → Prop} {X111 X112 X113 : Int → lf_Z → Prop} {Q1 Q2 Q3 : lf_Z → Prop} {x1 : Int} {x2 : Int} {s : lf_Z} (hX2 : ∀ (v0 : Int) (v1 : lf_Z), X21 v0 v1 → X22 v0 v1 → X23 v0 v1) (hX11 : ∀ (v0 : Int) (v1 : lf_Z), X111 v0 v1 → X112 v0 v1 → X113 v0 v1) (hQ : ∀ (s : lf_Z), Q1 s → Q2 s → Q3 s) (h1 : fm_278_p11 X21 Q1 x1 X111 x2 s) (h2 : fw_278_p11 X22 Q2 x1 X112 x2 s) : fm_278_p11 X23 Q3 x1 X113 x2 s := by
  unfold fm_278_p11 at h1 ⊢
  unfold fw_278_p11 at h2
  exact ⟨h1.1, ⟨(fun c2 => hX2 _ _  (h1.2.1 c2) ((h2 h1.1).1 c2)), (fun c2 => cj_242 (fun r24 s23 k4 l4 => ⟨k4.1, ⟨(fun c6 => cj_278_p79 hX2 hX11 hQ (k4.2.1 c6) ((l4 k4.1).1 c6)), (fun c6 => cj_242 (fun r27 s26 k8 l8 => ⟨k8.1, ⟨(fun c10 => cj_278_p79 hX2 hX11 hQ (k8.2.1 c10) ((l8 k8.1).1 c10)), (fun c10 => cj_255 (fun r30 s29 k12 l12 => cj_255 (fun r32 s31 k13 l13 => ⟨k13.1, ⟨k13.2.1, ⟨(fun c16 => ⟨(k13.2.2.1 c16).1, cj_242 (fun r37 s36 k18 l18 => ⟨k18.1, cj_278_p79 hX2 hX11 hQ k18.2 (l18 k18.1)⟩) (k13.2.2.1 c16).2 ((((l13 k13.1) k13.2.1).1 c16) (k13.2.2.1 c16).1)⟩), (fun c16 => cj_278_p79 hX2 hX11 hQ (k13.2.2.2 c16) (((l13 k13.1) k13.2.1).2 c16))⟩⟩⟩) k12 l12) (k8.2.2 c10) ((l8 k8.1).2 c10))⟩⟩) (k4.2.2 c6) ((l4 k4.1).2 c6))⟩⟩) (h1.2.2 c2) ((h2 h1.1).2 c2))⟩⟩
def fw_278_p11L (X2 : Int → lf_Z → Prop) (Q : lf_Z → Prop) (x1 : Int) (x2 : Int) (s : lf_Z) : Prop := ∃ X11 : Int → lf_Z → Prop, (∀ (x2 : Int) (s : lf_Z), X11 x2 s → fw_278_p11 X2 Q x1 X11 x2 s) ∧ X11 x2 s
theorem cj_278_p11L {X21 X22 X23 : Int → lf_Z → Prop} {Q1 Q2 Q3 : lf_Z → Prop} {x1 : Int} {x2 : Int} {s : lf_Z} (hX2 : ∀ (v0 : Int) (v1 : lf_Z), X21 v0 v1 → X22 v0 v1 → X23 v0 v1) (hQ : ∀ (s : lf_Z), Q1 s → Q2 s → Q3 s) (h1 : fm_278_p11L X21 Q1 x1 x2 s) (h2 : fw_278_p11L X22 Q2 x1 x2 s) : fm_278_p11L X23 Q3 x1 x2 s := by
  intro X0 hX0
  obtain ⟨Y, hY, hY0⟩ := h2
  exact h1 (fun v0 s => Y v0 s → X0 v0 s) (fun v0 s hb hy => hX0 v0 s (cj_278_p11 (hX2 := hX2) (X111 := fun v0 s => Y v0 s → X0 v0 s) (X112 := Y) (X113 := X0) (hX11 := fun v0 s a b => a b) hQ hb (hY v0 s hy))) hY0
def fw_278_p2 (Q : lf_Z → Prop) (X2 : Int → lf_Z → Prop) (x1 : Int) (s : lf_Z) : Prop := lf_R x1 → ((4 ≤ x1 → (Q s)) ∧ (¬ (4 ≤ x1) → (fw_278_p11L X2 Q x1 (x1 + 1) s)))
theorem cj_278_p2 {X21 X22 X23 : Int → lf_Z → Prop} {Q1 Q2 Q3 : lf_Z → Prop} {x1 : Int} {s : lf_Z} (hX2 : ∀ (v0 : Int) (v1 : lf_Z), X21 v0 v1 → X22 v0 v1 → X23 v0 v1) (hQ : ∀ (s : lf_Z), Q1 s → Q2 s → Q3 s) (h1 : fm_278_p2 Q1 X21 x1 s) (h2 : fw_278_p2 Q2 X22 x1 s) : fm_278_p2 Q3 X23 x1 s := by
  unfold fm_278_p2 at h1 ⊢
  unfold fw_278_p2 at h2
  exact ⟨h1.1, ⟨(fun c2 => hQ _  (h1.2.1 c2) ((h2 h1.1).1 c2)), (fun c2 => cj_278_p11L hX2 hQ (h1.2.2 c2) ((h2 h1.1).2 c2))⟩⟩
def fw_278_p2L (Q : lf_Z → Prop) (x1 : Int) (s : lf_Z) : Prop := ∃ X2 : Int → lf_Z → Prop, (∀ (x1 : Int) (s : lf_Z), X2 x1 s → fw_278_p2 Q X2 x1 s) ∧ X2 x1 s
theorem cj_278_p2L {Q1 Q2 Q3 : lf_Z → Prop} {x1 : Int} {s : lf_Z} (hQ : ∀ (s : lf_Z), Q1 s → Q2 s → Q3 s) (h1 : fm_278_p2L Q1 x1 s) (h2 : fw_278_p2L Q2 x1 s) : fm_278_p2L Q3 x1 s := by
  intro X0 hX0
  obtain ⟨Y, hY, hY0⟩ := h2
  exact h1 (fun v0 s => Y v0 s → X0 v0 s) (fun v0 s hb hy => hX0 v0 s (cj_278_p2 (X21 := fun v0 s => Y v0 s → X0 v0 s) (X22 := Y) (X23 := X0) (hX2 := fun v0 s a b => a b) hQ hb (hY v0 s hy))) hY0
def fw_278 (Q : lf_Z → Prop) (s : lf_Z) : Prop := fw_278_p2L Q 0 s
theorem cj_278 {Q1 Q2 Q3 : lf_Z → Prop} {s : lf_Z} (hQ : ∀ (s : lf_Z), Q1 s → Q2 s → Q3 s) (h1 : fm_278 Q1 s) (h2 : fw_278 Q2 s) : fm_278 Q3 s := by
  unfold fm_278 at h1 ⊢
  unfold fw_278 at h2
  exact cj_278_p2L hQ h1 h2
def fw_277 (a1 : Int) (Q : Int → lf_Z → Prop) (s : lf_Z) : Prop := (0 ≤ (14 + (3 * a1)) + 1 ∧ (14 + (3 * a1)) + 1 < 1538) → (Q (s.1 96 ((14 + (3 * a1)) + 1)) s)
theorem cj_277 {Q1 Q2 Q3 : Int → lf_Z → Prop} {a1 : Int} {s : lf_Z} (hQ : ∀ (r : Int) (s : lf_Z), Q1 r s → Q2 r s → Q3 r s) (h1 : fm_277 a1 Q1 s) (h2 : fw_277 a1 Q2 s) : fm_277 a1 Q3 s := by
  unfold fm_277 at h1 ⊢
  unfold fw_277 at h2
  exact ⟨h1.1, hQ _ _  h1.2 (h2 h1.1)⟩
def fw_265 (a1 : Int) (Q : Int → lf_Z → Prop) (s : lf_Z) : Prop := (0 ≤ 14 + (3 * a1) ∧ 14 + (3 * a1) < 1538) → (Q (s.1 96 (14 + (3 * a1))) s)
theorem cj_265 {Q1 Q2 Q3 : Int → lf_Z → Prop} {a1 : Int} {s : lf_Z} (hQ : ∀ (r : Int) (s : lf_Z), Q1 r s → Q2 r s → Q3 r s) (h1 : fm_265 a1 Q1 s) (h2 : fw_265 a1 Q2 s) : fm_265 a1 Q3 s := by
  unfold fm_265 at h1 ⊢
  unfold fw_265 at h2
  exact ⟨h1.1, hQ _ _  h1.2 (h2 h1.1)⟩
def fw_266_p45 (X19 : Int → Int → lf_Z → Prop) (Q : Int → lf_Z → Prop) (x1 : Int) (x3 : Int) (y0 : Int) (y1 : Int) (s : lf_Z) : Prop := X19 (lf_w (y0 + y1)) (x3 + 1) s
theorem cj_266_p45 {X191 X192 X193 : Int → Int → lf_Z → Prop} {Q1 Q2 Q3 : Int → lf_Z → Prop} {x1 : Int} {x3 : Int} {y0 : Int} {y1 : Int} {s : lf_Z} (hX19 : ∀ (v0 : Int) (v1 : Int) (v2 : lf_Z), X191 v0 v1 v2 → X192 v0 v1 v2 → X193 v0 v1 v2) (hQ : ∀ (r : Int) (s : lf_Z), Q1 r s → Q2 r s → Q3 r s) (h1 : fm_266_p45 X191 Q1 x1 x3 y0 y1 s) (h2 : fw_266_p45 X192 Q2 x1 x3 y0 y1 s) : fm_266_p45 X193 Q3 x1 x3 y0 y1 s := by
  unfold fm_266_p45 at h1 ⊢
  unfold fw_266_p45 at h2
  exact hX19 _ _ _  h1 h2
def fw_266_p19 (Q : Int → lf_Z → Prop) (x1 : Int) (X19 : Int → Int → lf_Z → Prop) (x2 : Int) (x3 : Int) (s : lf_Z) : Prop := lf_R x3 → (lf_R (s.1 96 2) → ((s.1 96 2 ≤ x3 → (Q x2 s)) ∧ (¬ (s.1 96 2 ≤ x3) → (fw_239 x3 (fun r26 s25 => (lf_R r26 → (lf_R x1 → ((r26 ≠ x1 → (fw_266_p45 X19 Q x1 x3 x2 0 s25)) ∧ (¬ (r26 ≠ x1) → (fw_266_p45 X19 Q x1 x3 x2 1 s25)))))) s))))
theorem cj_266_p19 {X191 X192 X193 : Int → Int → lf_Z → Prop} {Q1 Q2 Q3 : Int → lf_Z → Prop} {x1 : Int} {x2 : Int} {x3 : Int} {s : lf_Z} (hX19 : ∀ (v0 : Int) (v1 : Int) (v2 : lf_Z), X191 v0 v1 v2 → X192 v0 v1 v2 → X193 v0 v1 v2) (hQ : ∀ (r : Int) (s : lf_Z), Q1 r s → Q2 r s → Q3 r s) (h1 : fm_266_p19 Q1 x1 X191 x2 x3 s) (h2 : fw_266_p19 Q2 x1 X192 x2 x3 s) : fm_266_p19 Q3 x1 X193 x2 x3 s := by
  unfold fm_266_p19 at h1 ⊢
  unfold fw_266_p19 at h2
  exact ⟨h1.1, ⟨h1.2.1, ⟨(fun c3 => hQ _ _  (h1.2.2.1 c3) (((h2 h1.1) h1.2.1).1 c3)), (fun c3 => cj_239 (fun r26 s25 k5 l5 => ⟨k5.1, ⟨k5.2.1, ⟨(fun c8 => cj_266_p45 hX19 hQ (k5.2.2.1 c8) (((l5 k5.1) k5.2.1).1 c8)), (fun c8 => cj_266_p45 hX19 hQ (k5.2.2.2 c8) (((l5 k5.1) k5.2.1).2 c8))⟩⟩⟩) (h1.2.2.2 c3) (((h2 h1.1) h1.2.1).2 c3))⟩⟩⟩
def fw_266_p19L (Q : Int → lf_Z → Prop) (x1 : Int) (x2 : Int) (x3 : Int) (s : lf_Z) : Prop := ∃ X19 : Int → Int → lf_Z → Prop, (∀ (x2 : Int) (x3 : Int) (s : lf_Z), X19 x2 x3 s → fw_266_p19 Q x1 X19 x2 x3 s) ∧ X19 x2 x3 s
theorem cj_266_p19L {Q1 Q2 Q3 : Int → lf_Z → Prop} {x1 : Int} {x2 : Int} {x3 : Int} {s : lf_Z} (hQ : ∀ (r : Int) (s : lf_Z), Q1 r s → Q2 r s → Q3 r s) (h1 : fm_266_p19L Q1 x1 x2 x3 s) (h2 : fw_266_p19L Q2 x1 x2 x3 s) : fm_266_p19L Q3 x1 x2 x3 s := by
  intro X0 hX0
  obtain ⟨Y, hY, hY0⟩ := h2
  exact h1 (fun v0 v1 s => Y v0 v1 s → X0 v0 v1 s) (fun v0 v1 s hb hy => hX0 v0 v1 s (cj_266_p19 (X191 := fun v0 v1 s => Y v0 v1 s → X0 v0 v1 s) (X192 := Y) (X193 := X0) (hX19 := fun v0 v1 s a b => a b) hQ hb (hY v0 v1 s hy))) hY0
def fw_266_p16 (Q : Int → lf_Z → Prop) (x1 : Int) (y0 : Int) (s : lf_Z) : Prop := fw_266_p19L Q x1 y0 0 s
theorem cj_266_p16 {Q1 Q2 Q3 : Int → lf_Z → Prop} {x1 : Int} {y0 : Int} {s : lf_Z} (hQ : ∀ (r : Int) (s : lf_Z), Q1 r s → Q2 r s → Q3 r s) (h1 : fm_266_p16 Q1 x1 y0 s) (h2 : fw_266_p16 Q2 x1 y0 s) : fm_266_p16 Q3 x1 y0 s := by
  unfold fm_266_p16 at h1 ⊢
  unfold fw_266_p16 at h2
  exact cj_266_p19L hQ h1 h2
def fw_266 (a1 : Int) (Q : Int → lf_Z → Prop) (s : lf_Z) : Prop := fw_210 (s.1 95 29) a1 (fun z22 s21 => ((z22 = false → (fw_266_p16 Q a1 0 s21)) ∧ (z22 = true → (fw_266_p16 Q a1 1 s21)))) s
theorem cj_266 {Q1 Q2 Q3 : Int → lf_Z → Prop} {a1 : Int} {s : lf_Z} (hQ : ∀ (r : Int) (s : lf_Z), Q1 r s → Q2 r s → Q3 r s) (h1 : fm_266 a1 Q1 s) (h2 : fw_266 a1 Q2 s) : fm_266 a1 Q3 s := by
  unfold fm_266 at h1 ⊢
  unfold fw_266 at h2
  exact cj_210 (fun z22 s21 k1 l1 => ⟨(fun c2 => cj_266_p16 hQ (k1.1 c2) (l1.1 c2)), (fun c2 => cj_266_p16 hQ (k1.2 c2) (l1.2 c2))⟩) h1 h2
def fw_264 (a1 : Int) (a2 : Int) (Q : lf_Z → Prop) (s : lf_Z) : Prop := fw_265 a2 (fun r22 s21 => (fw_266 a2 (fun r24 s23 => (Q (lf_up s23.1 104 3 r24, s23.2.1, s23.2.2))) (lf_up s21.1 104 2 r22, s21.2.1, s21.2.2))) (lf_up (lf_up s.1 104 0 a1) 104 1 a2, s.2.1, s.2.2)
theorem cj_264 {Q1 Q2 Q3 : lf_Z → Prop} {a1 : Int} {a2 : Int} {s : lf_Z} (hQ : ∀ (s : lf_Z), Q1 s → Q2 s → Q3 s) (h1 : fm_264 a1 a2 Q1 s) (h2 : fw_264 a1 a2 Q2 s) : fm_264 a1 a2 Q3 s := by
  unfold fm_264 at h1 ⊢
  unfold fw_264 at h2
  exact cj_265 (fun r22 s21 k1 l1 => cj_266 (fun r24 s23 k2 l2 => hQ _  k2 l2) k1 l1) h1 h2
def fw_256 (a1 : Int) (Q : Int → lf_Z → Prop) (s : lf_Z) : Prop := (0 ≤ (114 + (3 * a1)) + 2 ∧ (114 + (3 * a1)) + 2 < 1538) → (Q (s.1 96 ((114 + (3 * a1)) + 2)) s)
theorem cj_256 {Q1 Q2 Q3 : Int → lf_Z → Prop} {a1 : Int} {s : lf_Z} (hQ : ∀ (r : Int) (s : lf_Z), Q1 r s → Q2 r s → Q3 r s) (h1 : fm_256 a1 Q1 s) (h2 : fw_256 a1 Q2 s) : fm_256 a1 Q3 s := by
  unfold fm_256 at h1 ⊢
  unfold fw_256 at h2
  exact ⟨h1.1, hQ _ _  h1.2 (h2 h1.1)⟩
def fw_271 (a0 : Int) (a1 : Int) (a2 : Int) (Q : Bool → lf_Z → Prop) (s : lf_Z) : Prop := lf_R a0 → ((a0 ≠ 10 → ((a0 ≠ 11 → ((a0 ≠ 12 → ((a0 ≠ 13 → ((a0 ≠ 14 → ((lf_wl a1 = lf_wl a2 → (Q false s)) ∧ (¬ (lf_wl a1 = lf_wl a2) → (Q true s)))) ∧ (¬ (a0 ≠ 14) → ((lf_wl a1 ≠ lf_wl a2 → (Q false s)) ∧ (¬ (lf_wl a1 ≠ lf_wl a2) → (Q true s)))))) ∧ (¬ (a0 ≠ 13) → ((lf_wl a1 < lf_wl a2 → (Q false s)) ∧ (¬ (lf_wl a1 < lf_wl a2) → (Q true s)))))) ∧ (¬ (a0 ≠ 12) → ((lf_wl a1 ≤ lf_wl a2 → (Q false s)) ∧ (¬ (lf_wl a1 ≤ lf_wl a2) → (Q true s)))))) ∧ (¬ (a0 ≠ 11) → ((lf_wl a2 < lf_wl a1 → (Q false s)) ∧ (¬ (lf_wl a2 < lf_wl a1) → (Q true s)))))) ∧ (¬ (a0 ≠ 10) → ((lf_wl a2 ≤ lf_wl a1 → (Q false s)) ∧ (¬ (lf_wl a2 ≤ lf_wl a1) → (Q true s)))))
theorem cj_271 {Q1 Q2 Q3 : Bool → lf_Z → Prop} {a0 : Int} {a1 : Int} {a2 : Int} {s : lf_Z} (hQ : ∀ (r : Bool) (s : lf_Z), Q1 r s → Q2 r s → Q3 r s) (h1 : fm_271 a0 a1 a2 Q1 s) (h2 : fw_271 a0 a1 a2 Q2 s) : fm_271 a0 a1 a2 Q3 s := by
  unfold fm_271 at h1 ⊢
  unfold fw_271 at h2
  exact ⟨h1.1, ⟨(fun c2 => ⟨(fun c3 => ⟨(fun c4 => ⟨(fun c5 => ⟨(fun c6 => ⟨(fun c7 => hQ _ _  ((((((h1.2.1 c2).1 c3).1 c4).1 c5).1 c6).1 c7) (((((((h2 h1.1).1 c2).1 c3).1 c4).1 c5).1 c6).1 c7)), (fun c7 => hQ _ _  ((((((h1.2.1 c2).1 c3).1 c4).1 c5).1 c6).2 c7) (((((((h2 h1.1).1 c2).1 c3).1 c4).1 c5).1 c6).2 c7))⟩), (fun c6 => ⟨(fun c10 => hQ _ _  ((((((h1.2.1 c2).1 c3).1 c4).1 c5).2 c6).1 c10) (((((((h2 h1.1).1 c2).1 c3).1 c4).1 c5).2 c6).1 c10)), (fun c10 => hQ _ _  ((((((h1.2.1 c2).1 c3).1 c4).1 c5).2 c6).2 c10) (((((((h2 h1.1).1 c2).1 c3).1 c4).1 c5).2 c6).2 c10))⟩)⟩), (fun c5 => ⟨(fun c13 => hQ _ _  (((((h1.2.1 c2).1 c3).1 c4).2 c5).1 c13) ((((((h2 h1.1).1 c2).1 c3).1 c4).2 c5).1 c13)), (fun c13 => hQ _ _  (((((h1.2.1 c2).1 c3).1 c4).2 c5).2 c13) ((((((h2 h1.1).1 c2).1 c3).1 c4).2 c5).2 c13))⟩)⟩), (fun c4 => ⟨(fun c16 => hQ _ _  ((((h1.2.1 c2).1 c3).2 c4).1 c16) (((((h2 h1.1).1 c2).1 c3).2 c4).1 c16)), (fun c16 => hQ _ _  ((((h1.2.1 c2).1 c3).2 c4).2 c16) (((((h2 h1.1).1 c2).1 c3).2 c4).2 c16))⟩)⟩), (fun c3 => ⟨(fun c19 => hQ _ _  (((h1.2.1 c2).2 c3).1 c19) ((((h2 h1.1).1 c2).2 c3).1 c19)), (fun c19 => hQ _ _  (((h1.2.1 c2).2 c3).2 c19) ((((h2 h1.1).1 c2).2 c3).2 c19))⟩)⟩), (fun c2 => ⟨(fun c22 => hQ _ _  ((h1.2.2 c2).1 c22) (((h2 h1.1).2 c2).1 c22)), (fun c22 => hQ _ _  ((h1.2.2 c2).2 c22) (((h2 h1.1).2 c2).2 c22))⟩)⟩⟩
def fw_270 (a0 : Int) (Q : Int → lf_Z → Prop) (s : lf_Z) : Prop := (lf_wl a0 ≤ 1000000 → (((-1000000) ≤ lf_wl a0 → (Q (lf_wl a0) s)) ∧ (¬ ((-1000000) ≤ lf_wl a0) → (Q (-1000000) s)))) ∧ (¬ (lf_wl a0 ≤ 1000000) → (Q 1000000 s))
theorem cj_270 {Q1 Q2 Q3 : Int → lf_Z → Prop} {a0 : Int} {s : lf_Z} (hQ : ∀ (r : Int) (s : lf_Z), Q1 r s → Q2 r s → Q3 r s) (h1 : fm_270 a0 Q1 s) (h2 : fw_270 a0 Q2 s) : fm_270 a0 Q3 s := by
  unfold fm_270 at h1 ⊢
  unfold fw_270 at h2
  exact ⟨(fun c1 => ⟨(fun c2 => hQ _ _  ((h1.1 c1).1 c2) ((h2.1 c1).1 c2)), (fun c2 => hQ _ _  ((h1.1 c1).2 c2) ((h2.1 c1).2 c2))⟩), (fun c1 => hQ _ _  (h1.2 c1) (h2.2 c1))⟩
def fw_269 (a0 : Int) (a1 : Int) (a2 : Int) (Q : Int → lf_Z → Prop) (s : lf_Z) : Prop := lf_R a0 → ((a0 < 4 ∨ 6 < a0 → ((lf_wl a2 ≠ 0 → ((lf_wl a2) ≠ 0 → (fw_270 (lf_wl ((lf_wl a1).tdiv (lf_wl a2))) (fun r24 s23 => (Q (lf_wl r24) s23)) s))) ∧ (¬ (lf_wl a2 ≠ 0) → (Q 0 s)))) ∧ (a0 = 4 → (fw_270 (lf_wl ((lf_wl a1) + (lf_wl a2))) (fun r26 s25 => (Q (lf_wl r26) s25)) s)) ∧ (a0 = 5 → (fw_270 (lf_wl ((lf_wl a1) - (lf_wl a2))) (fun r28 s27 => (Q (lf_wl r28) s27)) s)) ∧ (a0 = 6 → (fw_270 (lf_wl ((lf_wl a1) * (lf_wl a2))) (fun r30 s29 => (Q (lf_wl r30) s29)) s)))
theorem cj_269 {Q1 Q2 Q3 : Int → lf_Z → Prop} {a0 : Int} {a1 : Int} {a2 : Int} {s : lf_Z} (hQ : ∀ (r : Int) (s : lf_Z), Q1 r s → Q2 r s → Q3 r s) (h1 : fm_269 a0 a1 a2 Q1 s) (h2 : fw_269 a0 a1 a2 Q2 s) : fm_269 a0 a1 a2 Q3 s := by
  unfold fm_269 at h1 ⊢
  unfold fw_269 at h2
  exact ⟨h1.1, ⟨(fun c2 => ⟨(fun c3 => ⟨((h1.2.1 c2).1 c3).1, cj_270 (fun r24 s23 k5 l5 => hQ _ _  k5 l5) ((h1.2.1 c2).1 c3).2 ((((h2 h1.1).1 c2).1 c3) ((h1.2.1 c2).1 c3).1)⟩), (fun c3 => hQ _ _  ((h1.2.1 c2).2 c3) (((h2 h1.1).1 c2).2 c3))⟩), (fun c2 => cj_270 (fun r26 s25 k8 l8 => hQ _ _  k8 l8) (h1.2.2.1 c2) ((h2 h1.1).2.1 c2)), (fun c2 => cj_270 (fun r28 s27 k10 l10 => hQ _ _  k10 l10) (h1.2.2.2.1 c2) ((h2 h1.1).2.2.1 c2)), (fun c2 => cj_270 (fun r30 s29 k12 l12 => hQ _ _  k12 l12) (h1.2.2.2.2 c2) ((h2 h1.1).2.2.2 c2))⟩⟩
def fw_268_p437 (X38 : Int → Int → Int → lf_Z → Prop) (Q : Int → lf_Z → Prop) (x3 : Int) (x4 : Int) (x5 : Int) (x6 : Int) (x7 : Int) (s : lf_Z) : Prop := X38 x5 x6 (x7 + 1) s
theorem cj_268_p437 {X381 X382 X383 : Int → Int → Int → lf_Z → Prop} {Q1 Q2 Q3 : Int → lf_Z → Prop} {x3 : Int} {x4 : Int} {x5 : Int} {x6 : Int} {x7 : Int} {s : lf_Z} (hX38 : ∀ (v0 : Int) (v1 : Int) (v2 : Int) (v3 : lf_Z), X381 v0 v1 v2 v3 → X382 v0 v1 v2 v3 → X383 v0 v1 v2 v3) (hQ : ∀ (r : Int) (s : lf_Z), Q1 r s → Q2 r s → Q3 r s) (h1 : fm_268_p437 X381 Q1 x3 x4 x5 x6 x7 s) (h2 : fw_268_p437 X382 Q2 x3 x4 x5 x6 x7 s) : fm_268_p437 X383 Q3 x3 x4 x5 x6 x7 s := by
  unfold fm_268_p437 at h1 ⊢
  unfold fw_268_p437 at h2
  exact hX38 _ _ _ _  h1 h2
def fw_268_p135 (X38 : Int → Int → Int → lf_Z → Prop) (Q : Int → lf_Z → Prop) (x3 : Int) (x4 : Int) (x5 : Int) (x6 : Int) (x7 : Int) (y1 : Int) (y2 : Int) (s : lf_Z) : Prop := (0 ≤ y1 ∧ y1 < 330) → (fw_268_p437 X38 Q x3 x4 (x5 + 1) x6 x7 (s.1, lf_up s.2.1 106 y1 (lf_wl y2), s.2.2))
theorem cj_268_p135 {X381 X382 X383 : Int → Int → Int → lf_Z → Prop} {Q1 Q2 Q3 : Int → lf_Z → Prop} {x3 : Int} {x4 : Int} {x5 : Int} {x6 : Int} {x7 : Int} {y1 : Int} {y2 : Int} {s : lf_Z} (hX38 : ∀ (v0 : Int) (v1 : Int) (v2 : Int) (v3 : lf_Z), X381 v0 v1 v2 v3 → X382 v0 v1 v2 v3 → X383 v0 v1 v2 v3) (hQ : ∀ (r : Int) (s : lf_Z), Q1 r s → Q2 r s → Q3 r s) (h1 : fm_268_p135 X381 Q1 x3 x4 x5 x6 x7 y1 y2 s) (h2 : fw_268_p135 X382 Q2 x3 x4 x5 x6 x7 y1 y2 s) : fm_268_p135 X383 Q3 x3 x4 x5 x6 x7 y1 y2 s := by
  unfold fm_268_p135 at h1 ⊢
  unfold fw_268_p135 at h2
  exact ⟨h1.1, cj_268_p437 hX38 hQ h1.2 (h2 h1.1)⟩
def fw_268_p94 (X38 : Int → Int → Int → lf_Z → Prop) (Q : Int → lf_Z → Prop) (x3 : Int) (x4 : Int) (x5 : Int) (x6 : Int) (x7 : Int) (x8 : Int) (x9 : Int) (s : lf_Z) : Prop := lf_R x8 → ((x8 ≠ 0 → ((x8 ≠ 1 → ((0 ≤ x9 ∧ x9 < 80) → (fw_268_p135 X38 Q x3 x4 x5 x6 x7 x5 (lf_wl (s.2.1 105 x9)) s))) ∧ (¬ (x8 ≠ 1) → ((0 ≤ x9 ∧ x9 < 11) → (lf_R (s.1 104 x9) → (fw_268_p135 X38 Q x3 x4 x5 x6 x7 x5 (s.1 104 x9) s)))))) ∧ (¬ (x8 ≠ 0) → (lf_R x9 → (fw_268_p135 X38 Q x3 x4 x5 x6 x7 x5 x9 s))))
theorem cj_268_p94 {X381 X382 X383 : Int → Int → Int → lf_Z → Prop} {Q1 Q2 Q3 : Int → lf_Z → Prop} {x3 : Int} {x4 : Int} {x5 : Int} {x6 : Int} {x7 : Int} {x8 : Int} {x9 : Int} {s : lf_Z} (hX38 : ∀ (v0 : Int) (v1 : Int) (v2 : Int) (v3 : lf_Z), X381 v0 v1 v2 v3 → X382 v0 v1 v2 v3 → X383 v0 v1 v2 v3) (hQ : ∀ (r : Int) (s : lf_Z), Q1 r s → Q2 r s → Q3 r s) (h1 : fm_268_p94 X381 Q1 x3 x4 x5 x6 x7 x8 x9 s) (h2 : fw_268_p94 X382 Q2 x3 x4 x5 x6 x7 x8 x9 s) : fm_268_p94 X383 Q3 x3 x4 x5 x6 x7 x8 x9 s := by
  unfold fm_268_p94 at h1 ⊢
  unfold fw_268_p94 at h2
  exact ⟨h1.1, ⟨(fun c2 => ⟨(fun c3 => ⟨((h1.2.1 c2).1 c3).1, cj_268_p135 hX38 hQ ((h1.2.1 c2).1 c3).2 ((((h2 h1.1).1 c2).1 c3) ((h1.2.1 c2).1 c3).1)⟩), (fun c3 => ⟨((h1.2.1 c2).2 c3).1, ⟨((h1.2.1 c2).2 c3).2.1, cj_268_p135 hX38 hQ ((h1.2.1 c2).2 c3).2.2 (((((h2 h1.1).1 c2).2 c3) ((h1.2.1 c2).2 c3).1) ((h1.2.1 c2).2 c3).2.1)⟩⟩)⟩), (fun c2 => ⟨(h1.2.2 c2).1, cj_268_p135 hX38 hQ (h1.2.2 c2).2 (((h2 h1.1).2 c2) (h1.2.2 c2).1)⟩)⟩⟩
def fw_268_p436 (X38 : Int → Int → Int → lf_Z → Prop) (Q : Int → lf_Z → Prop) (x3 : Int) (x4 : Int) (x5 : Int) (x6 : Int) (x7 : Int) (y1 : Int) (y2 : Int) (s : lf_Z) : Prop := (0 ≤ y1 ∧ y1 < 330) → ((y2 = 0 ∨ y2 = 1) → (fw_268_p437 X38 Q x3 x4 x5 x6 x7 (lf_up s.1 107 y1 y2, s.2.1, s.2.2)))
theorem cj_268_p436 {X381 X382 X383 : Int → Int → Int → lf_Z → Prop} {Q1 Q2 Q3 : Int → lf_Z → Prop} {x3 : Int} {x4 : Int} {x5 : Int} {x6 : Int} {x7 : Int} {y1 : Int} {y2 : Int} {s : lf_Z} (hX38 : ∀ (v0 : Int) (v1 : Int) (v2 : Int) (v3 : lf_Z), X381 v0 v1 v2 v3 → X382 v0 v1 v2 v3 → X383 v0 v1 v2 v3) (hQ : ∀ (r : Int) (s : lf_Z), Q1 r s → Q2 r s → Q3 r s) (h1 : fm_268_p436 X381 Q1 x3 x4 x5 x6 x7 y1 y2 s) (h2 : fw_268_p436 X382 Q2 x3 x4 x5 x6 x7 y1 y2 s) : fm_268_p436 X383 Q3 x3 x4 x5 x6 x7 y1 y2 s := by
  unfold fm_268_p436 at h1 ⊢
  unfold fw_268_p436 at h2
  exact ⟨h1.1, ⟨h1.2.1, cj_268_p437 hX38 hQ h1.2.2 ((h2 h1.1) h1.2.1)⟩⟩
def fw_268_p431 (X38 : Int → Int → Int → lf_Z → Prop) (Q : Int → lf_Z → Prop) (x3 : Int) (x4 : Int) (x5 : Int) (x6 : Int) (x7 : Int) (y1 : Int) (s : lf_Z) : Prop := fw_268_p436 X38 Q x3 x4 x5 x6 x7 y1 1 s
theorem cj_268_p431 {X381 X382 X383 : Int → Int → Int → lf_Z → Prop} {Q1 Q2 Q3 : Int → lf_Z → Prop} {x3 : Int} {x4 : Int} {x5 : Int} {x6 : Int} {x7 : Int} {y1 : Int} {s : lf_Z} (hX38 : ∀ (v0 : Int) (v1 : Int) (v2 : Int) (v3 : lf_Z), X381 v0 v1 v2 v3 → X382 v0 v1 v2 v3 → X383 v0 v1 v2 v3) (hQ : ∀ (r : Int) (s : lf_Z), Q1 r s → Q2 r s → Q3 r s) (h1 : fm_268_p431 X381 Q1 x3 x4 x5 x6 x7 y1 s) (h2 : fw_268_p431 X382 Q2 x3 x4 x5 x6 x7 y1 s) : fm_268_p431 X383 Q3 x3 x4 x5 x6 x7 y1 s := by
  unfold fm_268_p431 at h1 ⊢
  unfold fw_268_p431 at h2
  exact cj_268_p436 hX38 hQ h1 h2
def fw_268_p405 (X38 : Int → Int → Int → lf_Z → Prop) (Q : Int → lf_Z → Prop) (x3 : Int) (x4 : Int) (x5 : Int) (x6 : Int) (x7 : Int) (y1 : Int) (s : lf_Z) : Prop := fw_268_p436 X38 Q x3 x4 x5 x6 x7 y1 0 s
theorem cj_268_p405 {X381 X382 X383 : Int → Int → Int → lf_Z → Prop} {Q1 Q2 Q3 : Int → lf_Z → Prop} {x3 : Int} {x4 : Int} {x5 : Int} {x6 : Int} {x7 : Int} {y1 : Int} {s : lf_Z} (hX38 : ∀ (v0 : Int) (v1 : Int) (v2 : Int) (v3 : lf_Z), X381 v0 v1 v2 v3 → X382 v0 v1 v2 v3 → X383 v0 v1 v2 v3) (hQ : ∀ (r : Int) (s : lf_Z), Q1 r s → Q2 r s → Q3 r s) (h1 : fm_268_p405 X381 Q1 x3 x4 x5 x6 x7 y1 s) (h2 : fw_268_p405 X382 Q2 x3 x4 x5 x6 x7 y1 s) : fm_268_p405 X383 Q3 x3 x4 x5 x6 x7 y1 s := by
  unfold fm_268_p405 at h1 ⊢
  unfold fw_268_p405 at h2
  exact cj_268_p436 hX38 hQ h1 h2
def fw_268_p357 (X38 : Int → Int → Int → lf_Z → Prop) (Q : Int → lf_Z → Prop) (x3 : Int) (x4 : Int) (x5 : Int) (x6 : Int) (x7 : Int) (y1 : Int) (y2 : Int) (s : lf_Z) : Prop := (0 ≤ y1 ∧ y1 < 330) → ((y2 = 0 ∨ y2 = 1) → (fw_268_p437 X38 Q x3 x4 x5 x6 x7 (lf_up s.1 107 y1 y2, s.2.1, s.2.2)))
theorem cj_268_p357 {X381 X382 X383 : Int → Int → Int → lf_Z → Prop} {Q1 Q2 Q3 : Int → lf_Z → Prop} {x3 : Int} {x4 : Int} {x5 : Int} {x6 : Int} {x7 : Int} {y1 : Int} {y2 : Int} {s : lf_Z} (hX38 : ∀ (v0 : Int) (v1 : Int) (v2 : Int) (v3 : lf_Z), X381 v0 v1 v2 v3 → X382 v0 v1 v2 v3 → X383 v0 v1 v2 v3) (hQ : ∀ (r : Int) (s : lf_Z), Q1 r s → Q2 r s → Q3 r s) (h1 : fm_268_p357 X381 Q1 x3 x4 x5 x6 x7 y1 y2 s) (h2 : fw_268_p357 X382 Q2 x3 x4 x5 x6 x7 y1 y2 s) : fm_268_p357 X383 Q3 x3 x4 x5 x6 x7 y1 y2 s := by
  unfold fm_268_p357 at h1 ⊢
  unfold fw_268_p357 at h2
  exact ⟨h1.1, ⟨h1.2.1, cj_268_p437 hX38 hQ h1.2.2 ((h2 h1.1) h1.2.1)⟩⟩
def fw_268_p38 (Q : Int → lf_Z → Prop) (x3 : Int) (x4 : Int) (X38 : Int → Int → Int → lf_Z → Prop) (x5 : Int) (x6 : Int) (x7 : Int) (s : lf_Z) : Prop := (0 ≤ x3 + 2 ∧ x3 + 2 < 2820) → (lf_R x7 → (lf_R (s.1 98 (x3 + 2)) → ((s.1 98 (x3 + 2) ≤ x7 → (Q (lf_w (lf_wl (s.2.1 106 0))) s)) ∧ (¬ (s.1 98 (x3 + 2) ≤ x7) → ((0 ≤ x4 + (2 * x7) ∧ x4 + (2 * x7) < 2820) → ((0 ≤ (x4 + (2 * x7)) + 1 ∧ (x4 + (2 * x7)) + 1 < 2820) → (lf_R (s.1 98 (x4 + (2 * x7))) → ((s.1 98 (x4 + (2 * x7)) ≤ 1 → (fw_268_p94 X38 Q x3 x4 x5 x6 x7 (s.1 98 (x4 + (2 * x7))) (s.1 98 ((x4 + (2 * x7)) + 1)) s)) ∧ (¬ (s.1 98 (x4 + (2 * x7)) ≤ 1) → ((s.1 98 (x4 + (2 * x7)) ≠ 31 → ((s.1 98 (x4 + (2 * x7)) ≠ 2 → ((s.1 98 (x4 + (2 * x7)) ≠ 30 → ((s.1 98 (x4 + (2 * x7)) ≠ 3 → ((10 ≤ s.1 98 (x4 + (2 * x7)) → ((20 ≤ s.1 98 (x4 + (2 * x7)) → ((s.1 98 (x4 + (2 * x7)) ≠ 20 → ((s.1 98 (x4 + (2 * x7)) ≠ 21 → ((0 ≤ (x6 + (-1)) - 1 ∧ (x6 + (-1)) - 1 < 330) → (lf_R (s.1 107 ((x6 + (-1)) - 1)) → ((s.1 107 ((x6 + (-1)) - 1) ≠ 0 → (fw_268_p431 X38 Q x3 x4 x5 (x6 + (-1)) x7 ((x6 + (-1)) - 1) s)) ∧ (¬ (s.1 107 ((x6 + (-1)) - 1) ≠ 0) → ((0 ≤ x6 + (-1) ∧ x6 + (-1) < 330) → (lf_R (s.1 107 (x6 + (-1))) → ((s.1 107 (x6 + (-1)) = 0 → (fw_268_p436 X38 Q x3 x4 x5 (x6 + (-1)) x7 ((x6 + (-1)) - 1) 0 s)) ∧ (¬ (s.1 107 (x6 + (-1)) = 0) → (fw_268_p431 X38 Q x3 x4 x5 (x6 + (-1)) x7 ((x6 + (-1)) - 1) s)))))))))) ∧ (¬ (s.1 98 (x4 + (2 * x7)) ≠ 21) → ((0 ≤ (x6 + (-1)) - 1 ∧ (x6 + (-1)) - 1 < 330) → (lf_R (s.1 107 ((x6 + (-1)) - 1)) → ((s.1 107 ((x6 + (-1)) - 1) = 0 → (fw_268_p405 X38 Q x3 x4 x5 (x6 + (-1)) x7 ((x6 + (-1)) - 1) s)) ∧ (¬ (s.1 107 ((x6 + (-1)) - 1) = 0) → ((0 ≤ x6 + (-1) ∧ x6 + (-1) < 330) → (lf_R (s.1 107 (x6 + (-1))) → ((s.1 107 (x6 + (-1)) = 0 → (fw_268_p405 X38 Q x3 x4 x5 (x6 + (-1)) x7 ((x6 + (-1)) - 1) s)) ∧ (¬ (s.1 107 (x6 + (-1)) = 0) → (fw_268_p436 X38 Q x3 x4 x5 (x6 + (-1)) x7 ((x6 + (-1)) - 1) 1 s)))))))))))) ∧ (¬ (s.1 98 (x4 + (2 * x7)) ≠ 20) → ((0 ≤ x6 - 1 ∧ x6 - 1 < 330) → (lf_R (s.1 107 (x6 - 1)) → ((s.1 107 (x6 - 1) ≠ 0 → (fw_268_p357 X38 Q x3 x4 x5 x6 x7 (x6 - 1) 0 s)) ∧ (¬ (s.1 107 (x6 - 1) ≠ 0) → (fw_268_p357 X38 Q x3 x4 x5 x6 x7 (x6 - 1) 1 s)))))))) ∧ (¬ (20 ≤ s.1 98 (x4 + (2 * x7))) → ((0 ≤ x5 + (-2) ∧ x5 + (-2) < 330) → ((0 ≤ (x5 + (-2)) + 1 ∧ (x5 + (-2)) + 1 < 330) → (fw_271 (s.1 98 (x4 + (2 * x7))) (lf_wl (s.2.1 106 (x5 + (-2)))) (lf_wl (s.2.1 106 ((x5 + (-2)) + 1))) (fun z51 s50 => ((0 ≤ x6 ∧ x6 < 330) → ((lf_b z51 = 0 ∨ lf_b z51 = 1) → (fw_268_p437 X38 Q x3 x4 (x5 + (-2)) (x6 + 1) x7 (lf_up s50.1 107 x6 (lf_b z51), s50.2.1, s50.2.2))))) s)))))) ∧ (¬ (10 ≤ s.1 98 (x4 + (2 * x7))) → ((0 ≤ (x5 + (-1)) - 1 ∧ (x5 + (-1)) - 1 < 330) → ((0 ≤ x5 + (-1) ∧ x5 + (-1) < 330) → (fw_269 (s.1 98 (x4 + (2 * x7))) (lf_wl (s.2.1 106 ((x5 + (-1)) - 1))) (lf_wl (s.2.1 106 (x5 + (-1)))) (fun r57 s56 => (fw_268_p437 X38 Q x3 x4 (x5 + (-1)) x6 x7 (s56.1, lf_up s56.2.1 106 ((x5 + (-1)) - 1) (lf_wl r57), s56.2.2))) s)))))) ∧ (¬ (s.1 98 (x4 + (2 * x7)) ≠ 3) → ((0 ≤ x5 - 1 ∧ x5 - 1 < 330) → (fw_268_p437 X38 Q x3 x4 x5 x6 x7 (s.1, lf_up s.2.1 106 (x5 - 1) (lf_wl (-(lf_wl (s.2.1 106 (x5 - 1))))), s.2.2)))))) ∧ (¬ (s.1 98 (x4 + (2 * x7)) ≠ 30) → ((0 ≤ x5 + (-1) ∧ x5 + (-1) < 330) → ((0 ≤ s.1 98 ((x4 + (2 * x7)) + 1) ∧ s.1 98 ((x4 + (2 * x7)) + 1) < 80) → (fw_268_p437 X38 Q x3 x4 (x5 + (-1)) x6 x7 (s.1, lf_up s.2.1 105 (s.1 98 ((x4 + (2 * x7)) + 1)) (lf_wl (s.2.1 106 (x5 + (-1)))), s.2.2))))))) ∧ (¬ (s.1 98 (x4 + (2 * x7)) ≠ 2) → ((0 ≤ x6 + (-1) ∧ x6 + (-1) < 330) → (lf_R (s.1 107 (x6 + (-1))) → ((s.1 107 (x6 + (-1)) ≠ 0 → (fw_268_p437 X38 Q x3 x4 (x5 + (-1)) (x6 + (-1)) x7 s)) ∧ (¬ (s.1 107 (x6 + (-1)) ≠ 0) → ((0 ≤ x5 + (-1) ∧ x5 + (-1) < 330) → ((0 ≤ (x5 + (-1)) - 1 ∧ (x5 + (-1)) - 1 < 330) → (fw_268_p437 X38 Q x3 x4 (x5 + (-1)) (x6 + (-1)) x7 (s.1, lf_up s.2.1 106 ((x5 + (-1)) - 1) (lf_wl (s.2.1 106 (x5 + (-1)))), s.2.2))))))))))) ∧ (¬ (s.1 98 (x4 + (2 * x7)) ≠ 31) → (fw_268_p94 X38 Q x3 x4 x5 x6 x7 (s.1 98 (x4 + (2 * x7))) (s.1 98 ((x4 + (2 * x7)) + 1)) s))))))))))))
theorem cj_268_p38 {X381 X382 X383 : Int → Int → Int → lf_Z → Prop} {Q1 Q2 Q3 : Int → lf_Z → Prop} {x3 : Int} {x4 : Int} {x5 : Int} {x6 : Int} {x7 : Int} {s : lf_Z} (hX38 : ∀ (v0 : Int) (v1 : Int) (v2 : Int) (v3 : lf_Z), X381 v0 v1 v2 v3 → X382 v0 v1 v2 v3 → X383 v0 v1 v2 v3) (hQ : ∀ (r : Int) (s : lf_Z), Q1 r s → Q2 r s → Q3 r s) (h1 : fm_268_p38 Q1 x3 x4 X381 x5 x6 x7 s) (h2 : fw_268_p38 Q2 x3 x4 X382 x5 x6 x7 s) : fm_268_p38 Q3 x3 x4 X383 x5 x6 x7 s := by
  unfold fm_268_p38 at h1 ⊢
  unfold fw_268_p38 at h2
  exact ⟨h1.1, ⟨h1.2.1, ⟨h1.2.2.1, ⟨(fun c4 => hQ _ _  (h1.2.2.2.1 c4) ((((h2 h1.1) h1.2.1) h1.2.2.1).1 c4)), (fun c4 => ⟨(h1.2.2.2.2 c4).1, ⟨(h1.2.2.2.2 c4).2.1, ⟨(h1.2.2.2.2 c4).2.2.1, ⟨(fun c9 => cj_268_p94 hX38 hQ ((h1.2.2.2.2 c4).2.2.2.1 c9) ((((((((h2 h1.1) h1.2.1) h1.2.2.1).2 c4) (h1.2.2.2.2 c4).1) (h1.2.2.2.2 c4).2.1) (h1.2.2.2.2 c4).2.2.1).1 c9)), (fun c9 => ⟨(fun c11 => ⟨(fun c12 => ⟨(fun c13 => ⟨(fun c14 => ⟨(fun c15 => ⟨(fun c16 => ⟨(fun c17 => ⟨(fun c18 => ⟨((((((((((h1.2.2.2.2 c4).2.2.2.2 c9).1 c11).1 c12).1 c13).1 c14).1 c15).1 c16).1 c17).1 c18).1, ⟨((((((((((h1.2.2.2.2 c4).2.2.2.2 c9).1 c11).1 c12).1 c13).1 c14).1 c15).1 c16).1 c17).1 c18).2.1, ⟨(fun c21 => cj_268_p431 hX38 hQ (((((((((((h1.2.2.2.2 c4).2.2.2.2 c9).1 c11).1 c12).1 c13).1 c14).1 c15).1 c16).1 c17).1 c18).2.2.1 c21) (((((((((((((((((((h2 h1.1) h1.2.1) h1.2.2.1).2 c4) (h1.2.2.2.2 c4).1) (h1.2.2.2.2 c4).2.1) (h1.2.2.2.2 c4).2.2.1).2 c9).1 c11).1 c12).1 c13).1 c14).1 c15).1 c16).1 c17).1 c18) ((((((((((h1.2.2.2.2 c4).2.2.2.2 c9).1 c11).1 c12).1 c13).1 c14).1 c15).1 c16).1 c17).1 c18).1) ((((((((((h1.2.2.2.2 c4).2.2.2.2 c9).1 c11).1 c12).1 c13).1 c14).1 c15).1 c16).1 c17).1 c18).2.1).1 c21)), (fun c21 => ⟨(((((((((((h1.2.2.2.2 c4).2.2.2.2 c9).1 c11).1 c12).1 c13).1 c14).1 c15).1 c16).1 c17).1 c18).2.2.2 c21).1, ⟨(((((((((((h1.2.2.2.2 c4).2.2.2.2 c9).1 c11).1 c12).1 c13).1 c14).1 c15).1 c16).1 c17).1 c18).2.2.2 c21).2.1, ⟨(fun c25 => cj_268_p436 hX38 hQ ((((((((((((h1.2.2.2.2 c4).2.2.2.2 c9).1 c11).1 c12).1 c13).1 c14).1 c15).1 c16).1 c17).1 c18).2.2.2 c21).2.2.1 c25) ((((((((((((((((((((((h2 h1.1) h1.2.1) h1.2.2.1).2 c4) (h1.2.2.2.2 c4).1) (h1.2.2.2.2 c4).2.1) (h1.2.2.2.2 c4).2.2.1).2 c9).1 c11).1 c12).1 c13).1 c14).1 c15).1 c16).1 c17).1 c18) ((((((((((h1.2.2.2.2 c4).2.2.2.2 c9).1 c11).1 c12).1 c13).1 c14).1 c15).1 c16).1 c17).1 c18).1) ((((((((((h1.2.2.2.2 c4).2.2.2.2 c9).1 c11).1 c12).1 c13).1 c14).1 c15).1 c16).1 c17).1 c18).2.1).2 c21) (((((((((((h1.2.2.2.2 c4).2.2.2.2 c9).1 c11).1 c12).1 c13).1 c14).1 c15).1 c16).1 c17).1 c18).2.2.2 c21).1) (((((((((((h1.2.2.2.2 c4).2.2.2.2 c9).1 c11).1 c12).1 c13).1 c14).1 c15).1 c16).1 c17).1 c18).2.2.2 c21).2.1).1 c25)), (fun c25 => cj_268_p431 hX38 hQ ((((((((((((h1.2.2.2.2 c4).2.2.2.2 c9).1 c11).1 c12).1 c13).1 c14).1 c15).1 c16).1 c17).1 c18).2.2.2 c21).2.2.2 c25) ((((((((((((((((((((((h2 h1.1) h1.2.1) h1.2.2.1).2 c4) (h1.2.2.2.2 c4).1) (h1.2.2.2.2 c4).2.1) (h1.2.2.2.2 c4).2.2.1).2 c9).1 c11).1 c12).1 c13).1 c14).1 c15).1 c16).1 c17).1 c18) ((((((((((h1.2.2.2.2 c4).2.2.2.2 c9).1 c11).1 c12).1 c13).1 c14).1 c15).1 c16).1 c17).1 c18).1) ((((((((((h1.2.2.2.2 c4).2.2.2.2 c9).1 c11).1 c12).1 c13).1 c14).1 c15).1 c16).1 c17).1 c18).2.1).2 c21) (((((((((((h1.2.2.2.2 c4).2.2.2.2 c9).1 c11).1 c12).1 c13).1 c14).1 c15).1 c16).1 c17).1 c18).2.2.2 c21).1) (((((((((((h1.2.2.2.2 c4).2.2.2.2 c9).1 c11).1 c12).1 c13).1 c14).1 c15).1 c16).1 c17).1 c18).2.2.2 c21).2.1).2 c25))⟩⟩⟩)⟩⟩⟩), (fun c18 => ⟨((((((((((h1.2.2.2.2 c4).2.2.2.2 c9).1 c11).1 c12).1 c13).1 c14).1 c15).1 c16).1 c17).2 c18).1, ⟨((((((((((h1.2.2.2.2 c4).2.2.2.2 c9).1 c11).1 c12).1 c13).1 c14).1 c15).1 c16).1 c17).2 c18).2.1, ⟨(fun c30 => cj_268_p405 hX38 hQ (((((((((((h1.2.2.2.2 c4).2.2.2.2 c9).1 c11).1 c12).1 c13).1 c14).1 c15).1 c16).1 c17).2 c18).2.2.1 c30) (((((((((((((((((((h2 h1.1) h1.2.1) h1.2.2.1).2 c4) (h1.2.2.2.2 c4).1) (h1.2.2.2.2 c4).2.1) (h1.2.2.2.2 c4).2.2.1).2 c9).1 c11).1 c12).1 c13).1 c14).1 c15).1 c16).1 c17).2 c18) ((((((((((h1.2.2.2.2 c4).2.2.2.2 c9).1 c11).1 c12).1 c13).1 c14).1 c15).1 c16).1 c17).2 c18).1) ((((((((((h1.2.2.2.2 c4).2.2.2.2 c9).1 c11).1 c12).1 c13).1 c14).1 c15).1 c16).1 c17).2 c18).2.1).1 c30)), (fun c30 => ⟨(((((((((((h1.2.2.2.2 c4).2.2.2.2 c9).1 c11).1 c12).1 c13).1 c14).1 c15).1 c16).1 c17).2 c18).2.2.2 c30).1, ⟨(((((((((((h1.2.2.2.2 c4).2.2.2.2 c9).1 c11).1 c12).1 c13).1 c14).1 c15).1 c16).1 c17).2 c18).2.2.2 c30).2.1, ⟨(fun c34 => cj_268_p405 hX38 hQ ((((((((((((h1.2.2.2.2 c4).2.2.2.2 c9).1 c11).1 c12).1 c13).1 c14).1 c15).1 c16).1 c17).2 c18).2.2.2 c30).2.2.1 c34) ((((((((((((((((((((((h2 h1.1) h1.2.1) h1.2.2.1).2 c4) (h1.2.2.2.2 c4).1) (h1.2.2.2.2 c4).2.1) (h1.2.2.2.2 c4).2.2.1).2 c9).1 c11).1 c12).1 c13).1 c14).1 c15).1 c16).1 c17).2 c18) ((((((((((h1.2.2.2.2 c4).2.2.2.2 c9).1 c11).1 c12).1 c13).1 c14).1 c15).1 c16).1 c17).2 c18).1) ((((((((((h1.2.2.2.2 c4).2.2.2.2 c9).1 c11).1 c12).1 c13).1 c14).1 c15).1 c16).1 c17).2 c18).2.1).2 c30) (((((((((((h1.2.2.2.2 c4).2.2.2.2 c9).1 c11).1 c12).1 c13).1 c14).1 c15).1 c16).1 c17).2 c18).2.2.2 c30).1) (((((((((((h1.2.2.2.2 c4).2.2.2.2 c9).1 c11).1 c12).1 c13).1 c14).1 c15).1 c16).1 c17).2 c18).2.2.2 c30).2.1).1 c34)), (fun c34 => cj_268_p436 hX38 hQ ((((((((((((h1.2.2.2.2 c4).2.2.2.2 c9).1 c11).1 c12).1 c13).1 c14).1 c15).1 c16).1 c17).2 c18).2.2.2 c30).2.2.2 c34) ((((((((((((((((((((((h2 h1.1) h1.2.1) h1.2.2.1).2 c4) (h1.2.2.2.2 c4).1) (h1.2.2.2.2 c4).2.1) (h1.2.2.2.2 c4).2.2.1).2 c9).1 c11).1 c12).1 c13).1 c14).1 c15).1 c16).1 c17).2 c18) ((((((((((h1.2.2.2.2 c4).2.2.2.2 c9).1 c11).1 c12).1 c13).1 c14).1 c15).1 c16).1 c17).2 c18).1) ((((((((((h1.2.2.2.2 c4).2.2.2.2 c9).1 c11).1 c12).1 c13).1 c14).1 c15).1 c16).1 c17).2 c18).2.1).2 c30) (((((((((((h1.2.2.2.2 c4).2.2.2.2 c9).1 c11).1 c12).1 c13).1 c14).1 c15).1 c16).1 c17).2 c18).2.2.2 c30).1) (((((((((((h1.2.2.2.2 c4).2.2.2.2 c9).1 c11).1 c12).1 c13).1 c14).1 c15).1 c16).1 c17).2 c18).2.2.2 c30).2.1).2 c34))⟩⟩⟩)⟩⟩⟩)⟩), (fun c17 => ⟨(((((((((h1.2.2.2.2 c4).2.2.2.2 c9).1 c11).1 c12).1 c13).1 c14).1 c15).1 c16).2 c17).1, ⟨(((((((((h1.2.2.2.2 c4).2.2.2.2 c9).1 c11).1 c12).1 c13).1 c14).1 c15).1 c16).2 c17).2.1, ⟨(fun c39 => cj_268_p357 hX38 hQ ((((((((((h1.2.2.2.2 c4).2.2.2.2 c9).1 c11).1 c12).1 c13).1 c14).1 c15).1 c16).2 c17).2.2.1 c39) ((((((((((((((((((h2 h1.1) h1.2.1) h1.2.2.1).2 c4) (h1.2.2.2.2 c4).1) (h1.2.2.2.2 c4).2.1) (h1.2.2.2.2 c4).2.2.1).2 c9).1 c11).1 c12).1 c13).1 c14).1 c15).1 c16).2 c17) (((((((((h1.2.2.2.2 c4).2.2.2.2 c9).1 c11).1 c12).1 c13).1 c14).1 c15).1 c16).2 c17).1) (((((((((h1.2.2.2.2 c4).2.2.2.2 c9).1 c11).1 c12).1 c13).1 c14).1 c15).1 c16).2 c17).2.1).1 c39)), (fun c39 => cj_268_p357 hX38 hQ ((((((((((h1.2.2.2.2 c4).2.2.2.2 c9).1 c11).1 c12).1 c13).1 c14).1 c15).1 c16).2 c17).2.2.2 c39) ((((((((((((((((((h2 h1.1) h1.2.1) h1.2.2.1).2 c4) (h1.2.2.2.2 c4).1) (h1.2.2.2.2 c4).2.1) (h1.2.2.2.2 c4).2.2.1).2 c9).1 c11).1 c12).1 c13).1 c14).1 c15).1 c16).2 c17) (((((((((h1.2.2.2.2 c4).2.2.2.2 c9).1 c11).1 c12).1 c13).1 c14).1 c15).1 c16).2 c17).1) (((((((((h1.2.2.2.2 c4).2.2.2.2 c9).1 c11).1 c12).1 c13).1 c14).1 c15).1 c16).2 c17).2.1).2 c39))⟩⟩⟩)⟩), (fun c16 => ⟨((((((((h1.2.2.2.2 c4).2.2.2.2 c9).1 c11).1 c12).1 c13).1 c14).1 c15).2 c16).1, ⟨((((((((h1.2.2.2.2 c4).2.2.2.2 c9).1 c11).1 c12).1 c13).1 c14).1 c15).2 c16).2.1, cj_271 (fun z51 s50 k44 l44 => ⟨k44.1, ⟨k44.2.1, cj_268_p437 hX38 hQ k44.2.2 ((l44 k44.1) k44.2.1)⟩⟩) ((((((((h1.2.2.2.2 c4).2.2.2.2 c9).1 c11).1 c12).1 c13).1 c14).1 c15).2 c16).2.2 ((((((((((((((((h2 h1.1) h1.2.1) h1.2.2.1).2 c4) (h1.2.2.2.2 c4).1) (h1.2.2.2.2 c4).2.1) (h1.2.2.2.2 c4).2.2.1).2 c9).1 c11).1 c12).1 c13).1 c14).1 c15).2 c16) ((((((((h1.2.2.2.2 c4).2.2.2.2 c9).1 c11).1 c12).1 c13).1 c14).1 c15).2 c16).1) ((((((((h1.2.2.2.2 c4).2.2.2.2 c9).1 c11).1 c12).1 c13).1 c14).1 c15).2 c16).2.1)⟩⟩)⟩), (fun c15 => ⟨(((((((h1.2.2.2.2 c4).2.2.2.2 c9).1 c11).1 c12).1 c13).1 c14).2 c15).1, ⟨(((((((h1.2.2.2.2 c4).2.2.2.2 c9).1 c11).1 c12).1 c13).1 c14).2 c15).2.1, cj_269 (fun r57 s56 k50 l50 => cj_268_p437 hX38 hQ k50 l50) (((((((h1.2.2.2.2 c4).2.2.2.2 c9).1 c11).1 c12).1 c13).1 c14).2 c15).2.2 (((((((((((((((h2 h1.1) h1.2.1) h1.2.2.1).2 c4) (h1.2.2.2.2 c4).1) (h1.2.2.2.2 c4).2.1) (h1.2.2.2.2 c4).2.2.1).2 c9).1 c11).1 c12).1 c13).1 c14).2 c15) (((((((h1.2.2.2.2 c4).2.2.2.2 c9).1 c11).1 c12).1 c13).1 c14).2 c15).1) (((((((h1.2.2.2.2 c4).2.2.2.2 c9).1 c11).1 c12).1 c13).1 c14).2 c15).2.1)⟩⟩)⟩), (fun c14 => ⟨((((((h1.2.2.2.2 c4).2.2.2.2 c9).1 c11).1 c12).1 c13).2 c14).1, cj_268_p437 hX38 hQ ((((((h1.2.2.2.2 c4).2.2.2.2 c9).1 c11).1 c12).1 c13).2 c14).2 (((((((((((((h2 h1.1) h1.2.1) h1.2.2.1).2 c4) (h1.2.2.2.2 c4).1) (h1.2.2.2.2 c4).2.1) (h1.2.2.2.2 c4).2.2.1).2 c9).1 c11).1 c12).1 c13).2 c14) ((((((h1.2.2.2.2 c4).2.2.2.2 c9).1 c11).1 c12).1 c13).2 c14).1)⟩)⟩), (fun c13 => ⟨(((((h1.2.2.2.2 c4).2.2.2.2 c9).1 c11).1 c12).2 c13).1, ⟨(((((h1.2.2.2.2 c4).2.2.2.2 c9).1 c11).1 c12).2 c13).2.1, cj_268_p437 hX38 hQ (((((h1.2.2.2.2 c4).2.2.2.2 c9).1 c11).1 c12).2 c13).2.2 (((((((((((((h2 h1.1) h1.2.1) h1.2.2.1).2 c4) (h1.2.2.2.2 c4).1) (h1.2.2.2.2 c4).2.1) (h1.2.2.2.2 c4).2.2.1).2 c9).1 c11).1 c12).2 c13) (((((h1.2.2.2.2 c4).2.2.2.2 c9).1 c11).1 c12).2 c13).1) (((((h1.2.2.2.2 c4).2.2.2.2 c9).1 c11).1 c12).2 c13).2.1)⟩⟩)⟩), (fun c12 => ⟨((((h1.2.2.2.2 c4).2.2.2.2 c9).1 c11).2 c12).1, ⟨((((h1.2.2.2.2 c4).2.2.2.2 c9).1 c11).2 c12).2.1, ⟨(fun c59 => cj_268_p437 hX38 hQ (((((h1.2.2.2.2 c4).2.2.2.2 c9).1 c11).2 c12).2.2.1 c59) (((((((((((((h2 h1.1) h1.2.1) h1.2.2.1).2 c4) (h1.2.2.2.2 c4).1) (h1.2.2.2.2 c4).2.1) (h1.2.2.2.2 c4).2.2.1).2 c9).1 c11).2 c12) ((((h1.2.2.2.2 c4).2.2.2.2 c9).1 c11).2 c12).1) ((((h1.2.2.2.2 c4).2.2.2.2 c9).1 c11).2 c12).2.1).1 c59)), (fun c59 => ⟨(((((h1.2.2.2.2 c4).2.2.2.2 c9).1 c11).2 c12).2.2.2 c59).1, ⟨(((((h1.2.2.2.2 c4).2.2.2.2 c9).1 c11).2 c12).2.2.2 c59).2.1, cj_268_p437 hX38 hQ (((((h1.2.2.2.2 c4).2.2.2.2 c9).1 c11).2 c12).2.2.2 c59).2.2 (((((((((((((((h2 h1.1) h1.2.1) h1.2.2.1).2 c4) (h1.2.2.2.2 c4).1) (h1.2.2.2.2 c4).2.1) (h1.2.2.2.2 c4).2.2.1).2 c9).1 c11).2 c12) ((((h1.2.2.2.2 c4).2.2.2.2 c9).1 c11).2 c12).1) ((((h1.2.2.2.2 c4).2.2.2.2 c9).1 c11).2 c12).2.1).2 c59) (((((h1.2.2.2.2 c4).2.2.2.2 c9).1 c11).2 c12).2.2.2 c59).1) (((((h1.2.2.2.2 c4).2.2.2.2 c9).1 c11).2 c12).2.2.2 c59).2.1)⟩⟩)⟩⟩⟩)⟩), (fun c11 => cj_268_p94 hX38 hQ (((h1.2.2.2.2 c4).2.2.2.2 c9).2 c11) (((((((((h2 h1.1) h1.2.1) h1.2.2.1).2 c4) (h1.2.2.2.2 c4).1) (h1.2.2.2.2 c4).2.1) (h1.2.2.2.2 c4).2.2.1).2 c9).2 c11))⟩)⟩⟩⟩⟩)⟩⟩⟩⟩
def fw_268_p38L (Q : Int → lf_Z → Prop) (x3 : Int) (x4 : Int) (x5 : Int) (x6 : Int) (x7 : Int) (s : lf_Z) : Prop := ∃ X38 : Int → Int → Int → lf_Z → Prop, (∀ (x5 : Int) (x6 : Int) (x7 : Int) (s : lf_Z), X38 x5 x6 x7 s → fw_268_p38 Q x3 x4 X38 x5 x6 x7 s) ∧ X38 x5 x6 x7 s
theorem cj_268_p38L {Q1 Q2 Q3 : Int → lf_Z → Prop} {x3 : Int} {x4 : Int} {x5 : Int} {x6 : Int} {x7 : Int} {s : lf_Z} (hQ : ∀ (r : Int) (s : lf_Z), Q1 r s → Q2 r s → Q3 r s) (h1 : fm_268_p38L Q1 x3 x4 x5 x6 x7 s) (h2 : fw_268_p38L Q2 x3 x4 x5 x6 x7 s) : fm_268_p38L Q3 x3 x4 x5 x6 x7 s := by
  intro X0 hX0
  obtain ⟨Y, hY, hY0⟩ := h2
  exact h1 (fun v0 v1 v2 s => Y v0 v1 v2 s → X0 v0 v1 v2 s) (fun v0 v1 v2 s hb hy => hX0 v0 v1 v2 s (cj_268_p38 (X381 := fun v0 v1 v2 s => Y v0 v1 v2 s → X0 v0 v1 v2 s) (X382 := Y) (X383 := X0) (hX38 := fun v0 v1 v2 s a b => a b) hQ hb (hY v0 v1 v2 s hy))) hY0
def fw_268 (a1 : Int) (a2 : Int) (Q : Int → lf_Z → Prop) (s : lf_Z) : Prop := (0 ≤ (((705 * a1) + 1) + (4 * a2)) + 1 ∧ (((705 * a1) + 1) + (4 * a2)) + 1 < 2820) → (fw_268_p38L Q (((705 * a1) + 1) + (4 * a2)) ((705 * a1) + 97) 0 0 (s.1 98 ((((705 * a1) + 1) + (4 * a2)) + 1)) s)
theorem cj_268 {Q1 Q2 Q3 : Int → lf_Z → Prop} {a1 : Int} {a2 : Int} {s : lf_Z} (hQ : ∀ (r : Int) (s : lf_Z), Q1 r s → Q2 r s → Q3 r s) (h1 : fm_268 a1 a2 Q1 s) (h2 : fw_268 a1 a2 Q2 s) : fm_268 a1 a2 Q3 s := by
  unfold fm_268 at h1 ⊢
  unfold fw_268 at h2
  exact ⟨h1.1, cj_268_p38L hQ h1.2 (h2 h1.1)⟩
def fw_267_p3 (Q : Int → lf_Z → Prop) (x1 : Int) (x2 : Int) (x3 : Int) (x4 : Int) (X3 : Int → lf_Z → Prop) (x5 : Int) (s : lf_Z) : Prop := lf_R x1 → ((x1 < 0 → (Q x3 s)) ∧ (¬ (x1 < 0) → ((0 ≤ 705 * x1 ∧ 705 * x1 < 2820) → (lf_R x5 → (lf_R (s.1 98 (705 * x1)) → ((s.1 98 (705 * x1) ≤ x5 → (Q x3 s)) ∧ (¬ (s.1 98 (705 * x1) ≤ x5) → ((0 ≤ ((705 * x1) + 1) + (4 * x5) ∧ ((705 * x1) + 1) + (4 * x5) < 2820) → (lf_R (s.1 98 (((705 * x1) + 1) + (4 * x5))) → (lf_R x2 → ((s.1 98 (((705 * x1) + 1) + (4 * x5)) = x2 → (fw_268 x1 x5 (fun r29 s28 => (lf_R r29 → ((0 ≤ r29 → (lf_R x4 → ((r29 ≤ x4 → (Q r29 s28)) ∧ (¬ (r29 ≤ x4) → (Q x4 s28))))) ∧ (¬ (0 ≤ r29) → (Q 0 s28))))) s)) ∧ (¬ (s.1 98 (((705 * x1) + 1) + (4 * x5)) = x2) → (X3 (x5 + 1) s)))))))))))))
theorem cj_267_p3 {X31 X32 X33 : Int → lf_Z → Prop} {Q1 Q2 Q3 : Int → lf_Z → Prop} {x1 : Int} {x2 : Int} {x3 : Int} {x4 : Int} {x5 : Int} {s : lf_Z} (hX3 : ∀ (v0 : Int) (v1 : lf_Z), X31 v0 v1 → X32 v0 v1 → X33 v0 v1) (hQ : ∀ (r : Int) (s : lf_Z), Q1 r s → Q2 r s → Q3 r s) (h1 : fm_267_p3 Q1 x1 x2 x3 x4 X31 x5 s) (h2 : fw_267_p3 Q2 x1 x2 x3 x4 X32 x5 s) : fm_267_p3 Q3 x1 x2 x3 x4 X33 x5 s := by
  unfold fm_267_p3 at h1 ⊢
  unfold fw_267_p3 at h2
  exact ⟨h1.1, ⟨(fun c2 => hQ _ _  (h1.2.1 c2) ((h2 h1.1).1 c2)), (fun c2 => ⟨(h1.2.2 c2).1, ⟨(h1.2.2 c2).2.1, ⟨(h1.2.2 c2).2.2.1, ⟨(fun c7 => hQ _ _  ((h1.2.2 c2).2.2.2.1 c7) ((((((h2 h1.1).2 c2) (h1.2.2 c2).1) (h1.2.2 c2).2.1) (h1.2.2 c2).2.2.1).1 c7)), (fun c7 => ⟨((h1.2.2 c2).2.2.2.2 c7).1, ⟨((h1.2.2 c2).2.2.2.2 c7).2.1, ⟨((h1.2.2 c2).2.2.2.2 c7).2.2.1, ⟨(fun c12 => cj_268 (fun r29 s28 k13 l13 => ⟨k13.1, ⟨(fun c15 => ⟨(k13.2.1 c15).1, ⟨(fun c17 => hQ _ _  ((k13.2.1 c15).2.1 c17) ((((l13 k13.1).1 c15) (k13.2.1 c15).1).1 c17)), (fun c17 => hQ _ _  ((k13.2.1 c15).2.2 c17) ((((l13 k13.1).1 c15) (k13.2.1 c15).1).2 c17))⟩⟩), (fun c15 => hQ _ _  (k13.2.2 c15) ((l13 k13.1).2 c15))⟩⟩) (((h1.2.2 c2).2.2.2.2 c7).2.2.2.1 c12) ((((((((((h2 h1.1).2 c2) (h1.2.2 c2).1) (h1.2.2 c2).2.1) (h1.2.2 c2).2.2.1).2 c7) ((h1.2.2 c2).2.2.2.2 c7).1) ((h1.2.2 c2).2.2.2.2 c7).2.1) ((h1.2.2 c2).2.2.2.2 c7).2.2.1).1 c12)), (fun c12 => hX3 _ _  (((h1.2.2 c2).2.2.2.2 c7).2.2.2.2 c12) ((((((((((h2 h1.1).2 c2) (h1.2.2 c2).1) (h1.2.2 c2).2.1) (h1.2.2 c2).2.2.1).2 c7) ((h1.2.2 c2).2.2.2.2 c7).1) ((h1.2.2 c2).2.2.2.2 c7).2.1) ((h1.2.2 c2).2.2.2.2 c7).2.2.1).2 c12))⟩⟩⟩⟩)⟩⟩⟩⟩)⟩⟩
def fw_267_p3L (Q : Int → lf_Z → Prop) (x1 : Int) (x2 : Int) (x3 : Int) (x4 : Int) (x5 : Int) (s : lf_Z) : Prop := ∃ X3 : Int → lf_Z → Prop, (∀ (x5 : Int) (s : lf_Z), X3 x5 s → fw_267_p3 Q x1 x2 x3 x4 X3 x5 s) ∧ X3 x5 s
theorem cj_267_p3L {Q1 Q2 Q3 : Int → lf_Z → Prop} {x1 : Int} {x2 : Int} {x3 : Int} {x4 : Int} {x5 : Int} {s : lf_Z} (hQ : ∀ (r : Int) (s : lf_Z), Q1 r s → Q2 r s → Q3 r s) (h1 : fm_267_p3L Q1 x1 x2 x3 x4 x5 s) (h2 : fw_267_p3L Q2 x1 x2 x3 x4 x5 s) : fm_267_p3L Q3 x1 x2 x3 x4 x5 s := by
  intro X0 hX0
  obtain ⟨Y, hY, hY0⟩ := h2
  exact h1 (fun v0 s => Y v0 s → X0 v0 s) (fun v0 s hb hy => hX0 v0 s (cj_267_p3 (X31 := fun v0 s => Y v0 s → X0 v0 s) (X32 := Y) (X33 := X0) (hX3 := fun v0 s a b => a b) hQ hb (hY v0 s hy))) hY0
def fw_267 (a1 : Int) (a2 : Int) (a3 : Int) (a4 : Int) (Q : Int → lf_Z → Prop) (s : lf_Z) : Prop := fw_267_p3L Q a1 a2 a3 a4 0 s
theorem cj_267 {Q1 Q2 Q3 : Int → lf_Z → Prop} {a1 : Int} {a2 : Int} {a3 : Int} {a4 : Int} {s : lf_Z} (hQ : ∀ (r : Int) (s : lf_Z), Q1 r s → Q2 r s → Q3 r s) (h1 : fm_267 a1 a2 a3 a4 Q1 s) (h2 : fw_267 a1 a2 a3 a4 Q2 s) : fm_267 a1 a2 a3 a4 Q3 s := by
  unfold fm_267 at h1 ⊢
  unfold fw_267 at h2
  exact cj_267_p3L hQ h1 h2
def fw_263_p40 (Q : Int → lf_Z → Prop) (y1 : Int) (y2 : Int) (s : lf_Z) : Prop := (0 ≤ y1 ∧ y1 < 11) → (fw_267 (s.1 96 8) 0 1 2 (fun r35 s34 => (Q r35 s34)) (lf_up s.1 104 y1 y2, s.2.1, s.2.2))
theorem cj_263_p40 {Q1 Q2 Q3 : Int → lf_Z → Prop} {y1 : Int} {y2 : Int} {s : lf_Z} (hQ : ∀ (r : Int) (s : lf_Z), Q1 r s → Q2 r s → Q3 r s) (h1 : fm_263_p40 Q1 y1 y2 s) (h2 : fw_263_p40 Q2 y1 y2 s) : fm_263_p40 Q3 y1 y2 s := by
  unfold fm_263_p40 at h1 ⊢
  unfold fw_263_p40 at h2
  exact ⟨h1.1, cj_267 (fun r35 s34 k2 l2 => hQ _ _  k2 l2) h1.2 (h2 h1.1)⟩
def fw_263 (a1 : Int) (Q : Int → lf_Z → Prop) (s : lf_Z) : Prop := fw_242 a1 (fun r22 s21 => (fw_255 a1 (fun r24 s23 => (fw_264 r22 r24 (fun s25 => (fw_256 a1 (fun r27 s26 => (lf_R r27 → ((0 ≤ r27 → (fw_256 a1 (fun r30 s29 => (fw_266 r30 (fun r32 s31 => (fw_263_p40 Q 4 r32 s31)) s29)) s26)) ∧ (¬ (0 ≤ r27) → (fw_263_p40 Q 4 0 s26))))) s25)) s23)) s21)) s
theorem cj_263 {Q1 Q2 Q3 : Int → lf_Z → Prop} {a1 : Int} {s : lf_Z} (hQ : ∀ (r : Int) (s : lf_Z), Q1 r s → Q2 r s → Q3 r s) (h1 : fm_263 a1 Q1 s) (h2 : fw_263 a1 Q2 s) : fm_263 a1 Q3 s := by
  unfold fm_263 at h1 ⊢
  unfold fw_263 at h2
  exact cj_242 (fun r22 s21 k1 l1 => cj_255 (fun r24 s23 k2 l2 => cj_264 (fun s25 k3 l3 => cj_256 (fun r27 s26 k4 l4 => ⟨k4.1, ⟨(fun c6 => cj_256 (fun r30 s29 k7 l7 => cj_266 (fun r32 s31 k8 l8 => cj_263_p40 hQ k8 l8) k7 l7) (k4.2.1 c6) ((l4 k4.1).1 c6)), (fun c6 => cj_263_p40 hQ (k4.2.2 c6) ((l4 k4.1).2 c6))⟩⟩) k3 l3) k2 l2) k1 l1) h1 h2
def fw_252 (a1 : Int) (Q : Bool → lf_Z → Prop) (s : lf_Z) : Prop := (0 ≤ (50 + (4 * a1)) + 2 ∧ (50 + (4 * a1)) + 2 < 1538) → (lf_R (s.1 96 ((50 + (4 * a1)) + 2)) → ((s.1 96 ((50 + (4 * a1)) + 2) ≠ 1 → (Q false s)) ∧ (¬ (s.1 96 ((50 + (4 * a1)) + 2) ≠ 1) → (Q true s))))
theorem cj_252 {Q1 Q2 Q3 : Bool → lf_Z → Prop} {a1 : Int} {s : lf_Z} (hQ : ∀ (r : Bool) (s : lf_Z), Q1 r s → Q2 r s → Q3 r s) (h1 : fm_252 a1 Q1 s) (h2 : fw_252 a1 Q2 s) : fm_252 a1 Q3 s := by
  unfold fm_252 at h1 ⊢
  unfold fw_252 at h2
  exact ⟨h1.1, ⟨h1.2.1, ⟨(fun c3 => hQ _ _  (h1.2.2.1 c3) (((h2 h1.1) h1.2.1).1 c3)), (fun c3 => hQ _ _  (h1.2.2.2 c3) (((h2 h1.1) h1.2.1).2 c3))⟩⟩⟩
def fw_239c (a1 : Int) (a2 : Int) (Q : Int → lf_Z → Prop) (s : lf_Z) : Prop := (0 ≤ (126 + (6 * a1)) + a2 ∧ (126 + (6 * a1)) + a2 < 1538) → (Q (s.1 96 ((126 + (6 * a1)) + a2)) s)
theorem cj_239c {Q1 Q2 Q3 : Int → lf_Z → Prop} {a1 : Int} {a2 : Int} {s : lf_Z} (hQ : ∀ (r : Int) (s : lf_Z), Q1 r s → Q2 r s → Q3 r s) (h1 : fm_239c a1 a2 Q1 s) (h2 : fw_239c a1 a2 Q2 s) : fm_239c a1 a2 Q3 s := by
  unfold fm_239c at h1 ⊢
  unfold fw_239c at h2
  exact ⟨h1.1, hQ _ _  h1.2 (h2 h1.1)⟩
def fw_274_p61 (X27 : Int → Int → lf_Z → Prop) (Q : Int → lf_Z → Prop) (x1 : Int) (x2 : Int) (x4 : Int) (y0 : Int) (y1 : Int) (s : lf_Z) : Prop := X27 (lf_w (y0 + y1)) (x4 + 1) s
theorem cj_274_p61 {X271 X272 X273 : Int → Int → lf_Z → Prop} {Q1 Q2 Q3 : Int → lf_Z → Prop} {x1 : Int} {x2 : Int} {x4 : Int} {y0 : Int} {y1 : Int} {s : lf_Z} (hX27 : ∀ (v0 : Int) (v1 : Int) (v2 : lf_Z), X271 v0 v1 v2 → X272 v0 v1 v2 → X273 v0 v1 v2) (hQ : ∀ (r : Int) (s : lf_Z), Q1 r s → Q2 r s → Q3 r s) (h1 : fm_274_p61 X271 Q1 x1 x2 x4 y0 y1 s) (h2 : fw_274_p61 X272 Q2 x1 x2 x4 y0 y1 s) : fm_274_p61 X273 Q3 x1 x2 x4 y0 y1 s := by
  unfold fm_274_p61 at h1 ⊢
  unfold fw_274_p61 at h2
  exact hX27 _ _ _  h1 h2
def fw_274_p27 (Q : Int → lf_Z → Prop) (x1 : Int) (x2 : Int) (X27 : Int → Int → lf_Z → Prop) (x3 : Int) (x4 : Int) (s : lf_Z) : Prop := lf_R x4 → (lf_R (s.1 96 2) → ((s.1 96 2 ≤ x4 → (Q x3 s)) ∧ (¬ (s.1 96 2 ≤ x4) → (fw_239 x4 (fun r26 s25 => (lf_R r26 → (lf_R x1 → ((r26 ≠ x1 → (fw_274_p61 X27 Q x1 x2 x4 x3 0 s25)) ∧ (¬ (r26 ≠ x1) → (fw_239c x4 x2 (fun r30 s29 => (fw_274_p61 X27 Q x1 x2 x4 x3 r30 s29)) s25)))))) s))))
theorem cj_274_p27 {X271 X272 X273 : Int → Int → lf_Z → Prop} {Q1 Q2 Q3 : Int → lf_Z → Prop} {x1 : Int} {x2 : Int} {x3 : Int} {x4 : Int} {s : lf_Z} (hX27 : ∀ (v0 : Int) (v1 : Int) (v2 : lf_Z), X271 v0 v1 v2 → X272 v0 v1 v2 → X273 v0 v1 v2) (hQ : ∀ (r : Int) (s : lf_Z), Q1 r s → Q2 r s → Q3 r s) (h1 : fm_274_p27 Q1 x1 x2 X271 x3 x4 s) (h2 : fw_274_p27 Q2 x1 x2 X272 x3 x4 s) : fm_274_p27 Q3 x1 x2 X273 x3 x4 s := by
  unfold fm_274_p27 at h1 ⊢
  unfold fw_274_p27 at h2
  exact ⟨h1.1, ⟨h1.2.1, ⟨(fun c3 => hQ _ _  (h1.2.2.1 c3) (((h2 h1.1) h1.2.1).1 c3)), (fun c3 => cj_239 (fun r26 s25 k5 l5 => ⟨k5.1, ⟨k5.2.1, ⟨(fun c8 => cj_274_p61 hX27 hQ (k5.2.2.1 c8) (((l5 k5.1) k5.2.1).1 c8)), (fun c8 => cj_239c (fun r30 s29 k10 l10 => cj_274_p61 hX27 hQ k10 l10) (k5.2.2.2 c8) (((l5 k5.1) k5.2.1).2 c8))⟩⟩⟩) (h1.2.2.2 c3) (((h2 h1.1) h1.2.1).2 c3))⟩⟩⟩
def fw_274_p27L (Q : Int → lf_Z → Prop) (x1 : Int) (x2 : Int) (x3 : Int) (x4 : Int) (s : lf_Z) : Prop := ∃ X27 : Int → Int → lf_Z → Prop, (∀ (x3 : Int) (x4 : Int) (s : lf_Z), X27 x3 x4 s → fw_274_p27 Q x1 x2 X27 x3 x4 s) ∧ X27 x3 x4 s
theorem cj_274_p27L {Q1 Q2 Q3 : Int → lf_Z → Prop} {x1 : Int} {x2 : Int} {x3 : Int} {x4 : Int} {s : lf_Z} (hQ : ∀ (r : Int) (s : lf_Z), Q1 r s → Q2 r s → Q3 r s) (h1 : fm_274_p27L Q1 x1 x2 x3 x4 s) (h2 : fw_274_p27L Q2 x1 x2 x3 x4 s) : fm_274_p27L Q3 x1 x2 x3 x4 s := by
  intro X0 hX0
  obtain ⟨Y, hY, hY0⟩ := h2
  exact h1 (fun v0 v1 s => Y v0 v1 s → X0 v0 v1 s) (fun v0 v1 s hb hy => hX0 v0 v1 s (cj_274_p27 (X271 := fun v0 v1 s => Y v0 v1 s → X0 v0 v1 s) (X272 := Y) (X273 := X0) (hX27 := fun v0 v1 s a b => a b) hQ hb (hY v0 v1 s hy))) hY0
def fw_274_p23 (Q : Int → lf_Z → Prop) (x1 : Int) (x2 : Int) (y0 : Int) (s : lf_Z) : Prop := fw_274_p27L Q x1 x2 y0 0 s
theorem cj_274_p23 {Q1 Q2 Q3 : Int → lf_Z → Prop} {x1 : Int} {x2 : Int} {y0 : Int} {s : lf_Z} (hQ : ∀ (r : Int) (s : lf_Z), Q1 r s → Q2 r s → Q3 r s) (h1 : fm_274_p23 Q1 x1 x2 y0 s) (h2 : fw_274_p23 Q2 x1 x2 y0 s) : fm_274_p23 Q3 x1 x2 y0 s := by
  unfold fm_274_p23 at h1 ⊢
  unfold fw_274_p23 at h2
  exact cj_274_p27L hQ h1 h2
def fw_274_p22 (Q : Int → lf_Z → Prop) (x1 : Int) (x2 : Int) (s : lf_Z) : Prop := fw_274_p23 Q x1 x2 0 s
theorem cj_274_p22 {Q1 Q2 Q3 : Int → lf_Z → Prop} {x1 : Int} {x2 : Int} {s : lf_Z} (hQ : ∀ (r : Int) (s : lf_Z), Q1 r s → Q2 r s → Q3 r s) (h1 : fm_274_p22 Q1 x1 x2 s) (h2 : fw_274_p22 Q2 x1 x2 s) : fm_274_p22 Q3 x1 x2 s := by
  unfold fm_274_p22 at h1 ⊢
  unfold fw_274_p22 at h2
  exact cj_274_p23 hQ h1 h2
def fw_274 (a1 : Int) (a2 : Int) (Q : Int → lf_Z → Prop) (s : lf_Z) : Prop := fw_210 (s.1 95 29) a1 (fun z22 s21 => ((z22 = false → (fw_274_p22 Q a1 a2 s21)) ∧ (z22 = true → (lf_R a2 → ((a2 ≠ 0 → (fw_274_p22 Q a1 a2 s21)) ∧ (¬ (a2 ≠ 0) → (fw_274_p23 Q a1 a2 (s21.1 95 30) s21))))))) s
theorem cj_274 {Q1 Q2 Q3 : Int → lf_Z → Prop} {a1 : Int} {a2 : Int} {s : lf_Z} (hQ : ∀ (r : Int) (s : lf_Z), Q1 r s → Q2 r s → Q3 r s) (h1 : fm_274 a1 a2 Q1 s) (h2 : fw_274 a1 a2 Q2 s) : fm_274 a1 a2 Q3 s := by
  unfold fm_274 at h1 ⊢
  unfold fw_274 at h2
  exact cj_210 (fun z22 s21 k1 l1 => ⟨(fun c2 => cj_274_p22 hQ (k1.1 c2) (l1.1 c2)), (fun c2 => ⟨(k1.2 c2).1, ⟨(fun c5 => cj_274_p22 hQ ((k1.2 c2).2.1 c5) (((l1.2 c2) (k1.2 c2).1).1 c5)), (fun c5 => cj_274_p23 hQ ((k1.2 c2).2.2 c5) (((l1.2 c2) (k1.2 c2).1).2 c5))⟩⟩)⟩) h1 h2
def fw_273_p143 (Q : Int → lf_Z → Prop) (y1 : Int) (y2 : Int) (y3 : Int) (s : lf_Z) : Prop := fw_267 y1 y2 y3 10 (fun r41 s40 => (Q r41 s40)) s
theorem cj_273_p143 {Q1 Q2 Q3 : Int → lf_Z → Prop} {y1 : Int} {y2 : Int} {y3 : Int} {s : lf_Z} (hQ : ∀ (r : Int) (s : lf_Z), Q1 r s → Q2 r s → Q3 r s) (h1 : fm_273_p143 Q1 y1 y2 y3 s) (h2 : fw_273_p143 Q2 y1 y2 y3 s) : fm_273_p143 Q3 y1 y2 y3 s := by
  unfold fm_273_p143 at h1 ⊢
  unfold fw_273_p143 at h2
  exact cj_267 (fun r41 s40 k1 l1 => hQ _ _  k1 l1) h1 h2
def fw_273_p109 (Q : Int → lf_Z → Prop) (x4 : Int) (y1 : Int) (y2 : Int) (s : lf_Z) : Prop := (0 ≤ y1 ∧ y1 < 11) → (lf_R ((lf_up s.1 104 y1 y2) 104 6) → (((lf_up s.1 104 y1 y2) 104 6 ≤ 0 → (fw_273_p143 Q (s.1 96 8) 1 5 (lf_up (lf_up s.1 104 y1 y2) 104 9 x4, s.2.1, s.2.2))) ∧ (¬ ((lf_up s.1 104 y1 y2) 104 6 ≤ 0) → (fw_273_p143 Q (s.1 96 8) 1 0 (lf_up (lf_up s.1 104 y1 y2) 104 9 x4, s.2.1, s.2.2)))))
theorem cj_273_p109 {Q1 Q2 Q3 : Int → lf_Z → Prop} {x4 : Int} {y1 : Int} {y2 : Int} {s : lf_Z} (hQ : ∀ (r : Int) (s : lf_Z), Q1 r s → Q2 r s → Q3 r s) (h1 : fm_273_p109 Q1 x4 y1 y2 s) (h2 : fw_273_p109 Q2 x4 y1 y2 s) : fm_273_p109 Q3 x4 y1 y2 s := by
  unfold fm_273_p109 at h1 ⊢
  unfold fw_273_p109 at h2
  exact ⟨h1.1, ⟨h1.2.1, ⟨(fun c3 => cj_273_p143 hQ (h1.2.2.1 c3) (((h2 h1.1) h1.2.1).1 c3)), (fun c3 => cj_273_p143 hQ (h1.2.2.2 c3) (((h2 h1.1) h1.2.1).2 c3))⟩⟩⟩
def fw_273 (a1 : Int) (a2 : Int) (a3 : Int) (a4 : Int) (Q : Int → lf_Z → Prop) (s : lf_Z) : Prop := fw_187 a4 a2 (fun r22 s21 => (lf_R r22 → ((r22 < 0 → (Q 0 s21)) ∧ (¬ (r22 < 0) → (fw_252 a4 (fun z25 s24 => ((z25 = true → (Q 0 s24)) ∧ (z25 = false → (fw_245 a4 (fun z27 s26 => ((z27 = false → (Q 0 s26)) ∧ (z27 = true → (fw_210 (s26.1 95 31) a4 (fun z29 s28 => ((z29 = false → (fw_264 a1 a2 (fun s30 => (fw_265 r22 (fun r32 s31 => (fw_274 r22 0 (fun r34 s33 => (fw_274 r22 2 (fun r36 s35 => (lf_R a3 → ((r22 ≠ a3 → (fw_273_p109 Q a4 8 0 (lf_up s35.1 104 7 r36, s35.2.1, s35.2.2))) ∧ (¬ (r22 ≠ a3) → (fw_273_p109 Q a4 8 1 (lf_up s35.1 104 7 r36, s35.2.1, s35.2.2)))))) (lf_up s33.1 104 6 r34, s33.2.1, s33.2.2))) (lf_up s31.1 104 5 r32, s31.2.1, s31.2.2))) s30)) s28)) ∧ (z29 = true → (Q 0 s28)))) s26)))) s24)))) s21))))) s
theorem cj_273 {Q1 Q2 Q3 : Int → lf_Z → Prop} {a1 : Int} {a2 : Int} {a3 : Int} {a4 : Int} {s : lf_Z} (hQ : ∀ (r : Int) (s : lf_Z), Q1 r s → Q2 r s → Q3 r s) (h1 : fm_273 a1 a2 a3 a4 Q1 s) (h2 : fw_273 a1 a2 a3 a4 Q2 s) : fm_273 a1 a2 a3 a4 Q3 s := by
  unfold fm_273 at h1 ⊢
  unfold fw_273 at h2
  exact cj_187 (fun r22 s21 k1 l1 => ⟨k1.1, ⟨(fun c3 => hQ _ _  (k1.2.1 c3) ((l1 k1.1).1 c3)), (fun c3 => cj_252 (fun z25 s24 k5 l5 => ⟨(fun c6 => hQ _ _  (k5.1 c6) (l5.1 c6)), (fun c6 => cj_245 (fun z27 s26 k8 l8 => ⟨(fun c9 => hQ _ _  (k8.1 c9) (l8.1 c9)), (fun c9 => cj_210 (fun z29 s28 k11 l11 => ⟨(fun c12 => cj_264 (fun s30 k13 l13 => cj_265 (fun r32 s31 k14 l14 => cj_274 (fun r34 s33 k15 l15 => cj_274 (fun r36 s35 k16 l16 => ⟨k16.1, ⟨(fun c18 => cj_273_p109 hQ (k16.2.1 c18) ((l16 k16.1).1 c18)), (fun c18 => cj_273_p109 hQ (k16.2.2 c18) ((l16 k16.1).2 c18))⟩⟩) k15 l15) k14 l14) k13 l13) (k11.1 c12) (l11.1 c12)), (fun c12 => hQ _ _  (k11.2 c12) (l11.2 c12))⟩) (k8.2 c9) (l8.2 c9))⟩) (k5.2 c6) (l5.2 c6))⟩) (k1.2.2 c3) ((l1 k1.1).2 c3))⟩⟩) h1 h2
def fw_276 (Q : lf_Z → Prop) (s : lf_Z) : Prop := lf_R (((s.1 96 6) * 239) + 137) → (Q (lf_up s.1 96 6 ((((s.1 96 6) * 239) + 137).tmod 30203), s.2.1, s.2.2))
theorem cj_276 {Q1 Q2 Q3 : lf_Z → Prop} {s : lf_Z} (hQ : ∀ (s : lf_Z), Q1 s → Q2 s → Q3 s) (h1 : fm_276 Q1 s) (h2 : fw_276 Q2 s) : fm_276 Q3 s := by
  unfold fm_276 at h1 ⊢
  unfold fw_276 at h2
  exact ⟨h1.1, hQ _  h1.2 (h2 h1.1)⟩
def fw_275 (a1 : Int) (Q : Int → lf_Z → Prop) (s : lf_Z) : Prop := lf_R (s.1 96 6) → (lf_R a1 → (a1 ≠ 0 → (fw_276 (fun s24 => (Q ((s.1 96 6).tmod a1) s24)) s)))
theorem cj_275 {Q1 Q2 Q3 : Int → lf_Z → Prop} {a1 : Int} {s : lf_Z} (hQ : ∀ (r : Int) (s : lf_Z), Q1 r s → Q2 r s → Q3 r s) (h1 : fm_275 a1 Q1 s) (h2 : fw_275 a1 Q2 s) : fm_275 a1 Q3 s := by
  unfold fm_275 at h1 ⊢
  unfold fw_275 at h2
  exact ⟨h1.1, ⟨h1.2.1, ⟨h1.2.2.1, cj_276 (fun s24 k4 l4 => hQ _ _  k4 l4) h1.2.2.2 (((h2 h1.1) h1.2.1) h1.2.2.1)⟩⟩⟩
def fw_272_p80 (X8 : Int → lf_Z → Prop) (Q : lf_Z → Prop) (x1 : Int) (x2 : Int) (x3 : Int) (s : lf_Z) : Prop := X8 (x3 + 1) s
theorem cj_272_p80 {X81 X82 X83 : Int → lf_Z → Prop} {Q1 Q2 Q3 : lf_Z → Prop} {x1 : Int} {x2 : Int} {x3 : Int} {s : lf_Z} (hX8 : ∀ (v0 : Int) (v1 : lf_Z), X81 v0 v1 → X82 v0 v1 → X83 v0 v1) (hQ : ∀ (s : lf_Z), Q1 s → Q2 s → Q3 s) (h1 : fm_272_p80 X81 Q1 x1 x2 x3 s) (h2 : fw_272_p80 X82 Q2 x1 x2 x3 s) : fm_272_p80 X83 Q3 x1 x2 x3 s := by
  unfold fm_272_p80 at h1 ⊢
  unfold fw_272_p80 at h2
  exact hX8 _ _  h1 h2
def fw_272_p62 (Q : lf_Z → Prop) (x1 : Int) (x2 : Int) (x3 : Int) (s : lf_Z) : Prop := fw_242 x1 (fun r33 s32 => (fw_187 x3 x2 (fun r35 s34 => (fw_247 x1 r33 r35 x2 (fun s36 => (Q s36)) s34)) s32)) s
theorem cj_272_p62 {Q1 Q2 Q3 : lf_Z → Prop} {x1 : Int} {x2 : Int} {x3 : Int} {s : lf_Z} (hQ : ∀ (s : lf_Z), Q1 s → Q2 s → Q3 s) (h1 : fm_272_p62 Q1 x1 x2 x3 s) (h2 : fw_272_p62 Q2 x1 x2 x3 s) : fm_272_p62 Q3 x1 x2 x3 s := by
  unfold fm_272_p62 at h1 ⊢
  unfold fw_272_p62 at h2
  exact cj_242 (fun r33 s32 k1 l1 => cj_187 (fun r35 s34 k2 l2 => cj_247 (fun s36 k3 l3 => hQ _  k3 l3) k2 l2) k1 l1) h1 h2
def fw_272_p8 (Q : lf_Z → Prop) (x1 : Int) (x2 : Int) (X8 : Int → lf_Z → Prop) (x3 : Int) (s : lf_Z) : Prop := lf_R x3 → (lf_R (s.1 96 1) → ((s.1 96 1 ≤ x3 → (Q s)) ∧ (¬ (s.1 96 1 ≤ x3) → (fw_242 x1 (fun r26 s25 => (fw_256 x1 (fun r28 s27 => (fw_273 r26 x2 r28 x3 (fun r30 s29 => (lf_R r30 → ((r30 = 0 → (fw_272_p80 X8 Q x1 x2 x3 s29)) ∧ (¬ (r30 = 0) → ((10 ≤ r30 → (fw_272_p62 Q x1 x2 x3 s29)) ∧ (¬ (10 ≤ r30) → (fw_275 10 (fun r38 s37 => (lf_R r38 → ((r38 < r30 → (fw_272_p62 Q x1 x2 x3 s37)) ∧ (¬ (r38 < r30) → (fw_272_p80 X8 Q x1 x2 x3 s37))))) s29))))))) s27)) s25)) s))))
theorem cj_272_p8 {X81 X82 X83 : Int → lf_Z → Prop} {Q1 Q2 Q3 : lf_Z → Prop} {x1 : Int} {x2 : Int} {x3 : Int} {s : lf_Z} (hX8 : ∀ (v0 : Int) (v1 : lf_Z), X81 v0 v1 → X82 v0 v1 → X83 v0 v1) (hQ : ∀ (s : lf_Z), Q1 s → Q2 s → Q3 s) (h1 : fm_272_p8 Q1 x1 x2 X81 x3 s) (h2 : fw_272_p8 Q2 x1 x2 X82 x3 s) : fm_272_p8 Q3 x1 x2 X83 x3 s := by
  unfold fm_272_p8 at h1 ⊢
  unfold fw_272_p8 at h2
  exact ⟨h1.1, ⟨h1.2.1, ⟨(fun c3 => hQ _  (h1.2.2.1 c3) (((h2 h1.1) h1.2.1).1 c3)), (fun c3 => cj_242 (fun r26 s25 k5 l5 => cj_256 (fun r28 s27 k6 l6 => cj_273 (fun r30 s29 k7 l7 => ⟨k7.1, ⟨(fun c9 => cj_272_p80 hX8 hQ (k7.2.1 c9) ((l7 k7.1).1 c9)), (fun c9 => ⟨(fun c11 => cj_272_p62 hQ ((k7.2.2 c9).1 c11) (((l7 k7.1).2 c9).1 c11)), (fun c11 => cj_275 (fun r38 s37 k13 l13 => ⟨k13.1, ⟨(fun c15 => cj_272_p62 hQ (k13.2.1 c15) ((l13 k13.1).1 c15)), (fun c15 => cj_272_p80 hX8 hQ (k13.2.2 c15) ((l13 k13.1).2 c15))⟩⟩) ((k7.2.2 c9).2 c11) (((l7 k7.1).2 c9).2 c11))⟩)⟩⟩) k6 l6) k5 l5) (h1.2.2.2 c3) (((h2 h1.1) h1.2.1).2 c3))⟩⟩⟩
def fw_272_p8L (Q : lf_Z → Prop) (x1 : Int) (x2 : Int) (x3 : Int) (s : lf_Z) : Prop := ∃ X8 : Int → lf_Z → Prop, (∀ (x3 : Int) (s : lf_Z), X8 x3 s → fw_272_p8 Q x1 x2 X8 x3 s) ∧ X8 x3 s
theorem cj_272_p8L {Q1 Q2 Q3 : lf_Z → Prop} {x1 : Int} {x2 : Int} {x3 : Int} {s : lf_Z} (hQ : ∀ (s : lf_Z), Q1 s → Q2 s → Q3 s) (h1 : fm_272_p8L Q1 x1 x2 x3 s) (h2 : fw_272_p8L Q2 x1 x2 x3 s) : fm_272_p8L Q3 x1 x2 x3 s := by
  intro X0 hX0
  obtain ⟨Y, hY, hY0⟩ := h2
  exact h1 (fun v0 s => Y v0 s → X0 v0 s) (fun v0 s hb hy => hX0 v0 s (cj_272_p8 (X81 := fun v0 s => Y v0 s → X0 v0 s) (X82 := Y) (X83 := X0) (hX8 := fun v0 s a b => a b) hQ hb (hY v0 s hy))) hY0
def fw_272 (a1 : Int) (Q : lf_Z → Prop) (s : lf_Z) : Prop := fw_255 a1 (fun r22 s21 => (fw_272_p8L Q a1 r22 0 s21)) s
theorem cj_272 {Q1 Q2 Q3 : lf_Z → Prop} {a1 : Int} {s : lf_Z} (hQ : ∀ (s : lf_Z), Q1 s → Q2 s → Q3 s) (h1 : fm_272 a1 Q1 s) (h2 : fw_272 a1 Q2 s) : fm_272 a1 Q3 s := by
  unfold fm_272 at h1 ⊢
  unfold fw_272 at h2
  exact cj_255 (fun r22 s21 k1 l1 => cj_272_p8L hQ k1 l1) h1 h2
def fw_261_p174 (X34 : Int → lf_Z → Prop) (X47 : Int → lf_Z → Prop) (Q : lf_Z → Prop) (x2 : Int) (x3 : Int) (x4 : Int) (s : lf_Z) : Prop := X47 (x4 + 1) s
theorem cj_261_p174 {X341 X342 X343 : Int → lf_Z → Prop} {X471 X472 X473 : Int → lf_Z → Prop} {Q1 Q2 Q3 : lf_Z → Prop} {x2 : Int} {x3 : Int} {x4 : Int} {s : lf_Z} (hX34 : ∀ (v0 : Int) (v1 : lf_Z), X341 v0 v1 → X342 v0 v1 → X343 v0 v1) (hX47 : ∀ (v0 : Int) (v1 : lf_Z), X471 v0 v1 → X472 v0 v1 → X473 v0 v1) (hQ : ∀ (s : lf_Z), Q1 s → Q2 s → Q3 s) (h1 : fm_261_p174 X341 X471 Q1 x2 x3 x4 s) (h2 : fw_261_p174 X342 X472 Q2 x2 x3 x4 s) : fm_261_p174 X343 X473 Q3 x2 x3 x4 s := by
  unfold fm_261_p174 at h1 ⊢
  unfold fw_261_p174 at h2
  exact hX47 _ _  h1 h2
def fw_261_p139 (X34 : Int → lf_Z → Prop) (X47 : Int → lf_Z → Prop) (Q : lf_Z → Prop) (x2 : Int) (x3 : Int) (x4 : Int) (x5 : Int) (x6 : Int) (s : lf_Z) : Prop := (0 ≤ x6 ∧ x6 < 12) → ((0 ≤ x5 ∧ x5 < 12) → (lf_R ((s.1 108 x6) + 1) → (lf_R (s.1 108 x5) → ((s.1 108 x5 ≤ (s.1 108 x6) + 1 → (fw_261_p174 X34 X47 Q x2 x3 x4 s)) ∧ (¬ (s.1 108 x5 ≤ (s.1 108 x6) + 1) → (fw_261_p174 X34 X47 Q x2 x3 x4 (lf_up s.1 108 x5 ((s.1 108 x6) + 1), s.2.1, s.2.2)))))))
theorem cj_261_p139 {X341 X342 X343 : Int → lf_Z → Prop} {X471 X472 X473 : Int → lf_Z → Prop} {Q1 Q2 Q3 : lf_Z → Prop} {x2 : Int} {x3 : Int} {x4 : Int} {x5 : Int} {x6 : Int} {s : lf_Z} (hX34 : ∀ (v0 : Int) (v1 : lf_Z), X341 v0 v1 → X342 v0 v1 → X343 v0 v1) (hX47 : ∀ (v0 : Int) (v1 : lf_Z), X471 v0 v1 → X472 v0 v1 → X473 v0 v1) (hQ : ∀ (s : lf_Z), Q1 s → Q2 s → Q3 s) (h1 : fm_261_p139 X341 X471 Q1 x2 x3 x4 x5 x6 s) (h2 : fw_261_p139 X342 X472 Q2 x2 x3 x4 x5 x6 s) : fm_261_p139 X343 X473 Q3 x2 x3 x4 x5 x6 s := by
  unfold fm_261_p139 at h1 ⊢
  unfold fw_261_p139 at h2
  exact ⟨h1.1, ⟨h1.2.1, ⟨h1.2.2.1, ⟨h1.2.2.2.1, ⟨(fun c5 => cj_261_p174 hX34 hX47 hQ (h1.2.2.2.2.1 c5) (((((h2 h1.1) h1.2.1) h1.2.2.1) h1.2.2.2.1).1 c5)), (fun c5 => cj_261_p174 hX34 hX47 hQ (h1.2.2.2.2.2 c5) (((((h2 h1.1) h1.2.1) h1.2.2.1) h1.2.2.2.1).2 c5))⟩⟩⟩⟩⟩
def fw_261_p74 (X34 : Int → lf_Z → Prop) (X47 : Int → lf_Z → Prop) (Q : lf_Z → Prop) (x2 : Int) (x3 : Int) (x4 : Int) (s : lf_Z) : Prop := (0 ≤ 50 + (4 * x4) ∧ 50 + (4 * x4) < 1538) → ((0 ≤ (50 + (4 * x4)) + 1 ∧ (50 + (4 * x4)) + 1 < 1538) → ((0 ≤ s.1 96 (50 + (4 * x4)) ∧ s.1 96 (50 + (4 * x4)) < 12) → ((0 ≤ s.1 96 ((50 + (4 * x4)) + 1) ∧ s.1 96 ((50 + (4 * x4)) + 1) < 12) → (lf_R ((s.1 108 (s.1 96 (50 + (4 * x4)))) + 1) → (lf_R (s.1 108 (s.1 96 ((50 + (4 * x4)) + 1))) → ((s.1 108 (s.1 96 ((50 + (4 * x4)) + 1)) ≤ (s.1 108 (s.1 96 (50 + (4 * x4)))) + 1 → (fw_261_p139 X34 X47 Q x2 x3 x4 (s.1 96 (50 + (4 * x4))) (s.1 96 ((50 + (4 * x4)) + 1)) s)) ∧ (¬ (s.1 108 (s.1 96 ((50 + (4 * x4)) + 1)) ≤ (s.1 108 (s.1 96 (50 + (4 * x4)))) + 1) → (fw_261_p139 X34 X47 Q x2 x3 x4 (s.1 96 (50 + (4 * x4))) (s.1 96 ((50 + (4 * x4)) + 1)) (lf_up s.1 108 (s.1 96 ((50 + (4 * x4)) + 1)) ((s.1 108 (s.1 96 (50 + (4 * x4)))) + 1), s.2.1, s.2.2)))))))))
theorem cj_261_p74 {X341 X342 X343 : Int → lf_Z → Prop} {X471 X472 X473 : Int → lf_Z → Prop} {Q1 Q2 Q3 : lf_Z → Prop} {x2 : Int} {x3 : Int} {x4 : Int} {s : lf_Z} (hX34 : ∀ (v0 : Int) (v1 : lf_Z), X341 v0 v1 → X342 v0 v1 → X343 v0 v1) (hX47 : ∀ (v0 : Int) (v1 : lf_Z), X471 v0 v1 → X472 v0 v1 → X473 v0 v1) (hQ : ∀ (s : lf_Z), Q1 s → Q2 s → Q3 s) (h1 : fm_261_p74 X341 X471 Q1 x2 x3 x4 s) (h2 : fw_261_p74 X342 X472 Q2 x2 x3 x4 s) : fm_261_p74 X343 X473 Q3 x2 x3 x4 s := by
  unfold fm_261_p74 at h1 ⊢
  unfold fw_261_p74 at h2
  exact ⟨h1.1, ⟨h1.2.1, ⟨h1.2.2.1, ⟨h1.2.2.2.1, ⟨h1.2.2.2.2.1, ⟨h1.2.2.2.2.2.1, ⟨(fun c7 => cj_261_p139 hX34 hX47 hQ (h1.2.2.2.2.2.2.1 c7) (((((((h2 h1.1) h1.2.1) h1.2.2.1) h1.2.2.2.1) h1.2.2.2.2.1) h1.2.2.2.2.2.1).1 c7)), (fun c7 => cj_261_p139 hX34 hX47 hQ (h1.2.2.2.2.2.2.2 c7) (((((((h2 h1.1) h1.2.1) h1.2.2.1) h1.2.2.2.1) h1.2.2.2.2.1) h1.2.2.2.2.2.1).2 c7))⟩⟩⟩⟩⟩⟩⟩
def fw_261_p47 (X34 : Int → lf_Z → Prop) (Q : lf_Z → Prop) (x2 : Int) (x3 : Int) (X47 : Int → lf_Z → Prop) (x4 : Int) (s : lf_Z) : Prop := lf_R x4 → (lf_R (s.1 96 1) → ((s.1 96 1 ≤ x4 → (X34 (x3 + 1) s)) ∧ (¬ (s.1 96 1 ≤ x4) → (fw_252 x4 (fun z27 s26 => ((z27 = false → (fw_261_p74 X34 X47 Q x2 x3 x4 s26)) ∧ (z27 = true → (lf_R x2 → ((x2 ≠ 0 → (fw_261_p74 X34 X47 Q x2 x3 x4 s26)) ∧ (¬ (x2 ≠ 0) → (fw_261_p174 X34 X47 Q x2 x3 x4 s26))))))) s))))
theorem cj_261_p47 {X341 X342 X343 : Int → lf_Z → Prop} {X471 X472 X473 : Int → lf_Z → Prop} {Q1 Q2 Q3 : lf_Z → Prop} {x2 : Int} {x3 : Int} {x4 : Int} {s : lf_Z} (hX34 : ∀ (v0 : Int) (v1 : lf_Z), X341 v0 v1 → X342 v0 v1 → X343 v0 v1) (hX47 : ∀ (v0 : Int) (v1 : lf_Z), X471 v0 v1 → X472 v0 v1 → X473 v0 v1) (hQ : ∀ (s : lf_Z), Q1 s → Q2 s → Q3 s) (h1 : fm_261_p47 X341 Q1 x2 x3 X471 x4 s) (h2 : fw_261_p47 X342 Q2 x2 x3 X472 x4 s) : fm_261_p47 X343 Q3 x2 x3 X473 x4 s := by
  unfold fm_261_p47 at h1 ⊢
  unfold fw_261_p47 at h2
  exact ⟨h1.1, ⟨h1.2.1, ⟨(fun c3 => hX34 _ _  (h1.2.2.1 c3) (((h2 h1.1) h1.2.1).1 c3)), (fun c3 => cj_252 (fun z27 s26 k5 l5 => ⟨(fun c6 => cj_261_p74 hX34 hX47 hQ (k5.1 c6) (l5.1 c6)), (fun c6 => ⟨(k5.2 c6).1, ⟨(fun c9 => cj_261_p74 hX34 hX47 hQ ((k5.2 c6).2.1 c9) (((l5.2 c6) (k5.2 c6).1).1 c9)), (fun c9 => cj_261_p174 hX34 hX47 hQ ((k5.2 c6).2.2 c9) (((l5.2 c6) (k5.2 c6).1).2 c9))⟩⟩)⟩) (h1.2.2.2 c3) (((h2 h1.1) h1.2.1).2 c3))⟩⟩⟩
def fw_261_p47L (X34 : Int → lf_Z → Prop) (Q : lf_Z → Prop) (x2 : Int) (x3 : Int) (x4 : Int) (s : lf_Z) : Prop := ∃ X47 : Int → lf_Z → Prop, (∀ (x4 : Int) (s : lf_Z), X47 x4 s → fw_261_p47 X34 Q x2 x3 X47 x4 s) ∧ X47 x4 s
theorem cj_261_p47L {X341 X342 X343 : Int → lf_Z → Prop} {Q1 Q2 Q3 : lf_Z → Prop} {x2 : Int} {x3 : Int} {x4 : Int} {s : lf_Z} (hX34 : ∀ (v0 : Int) (v1 : lf_Z), X341 v0 v1 → X342 v0 v1 → X343 v0 v1) (hQ : ∀ (s : lf_Z), Q1 s → Q2 s → Q3 s) (h1 : fm_261_p47L X341 Q1 x2 x3 x4 s) (h2 : fw_261_p47L X342 Q2 x2 x3 x4 s) : fm_261_p47L X343 Q3 x2 x3 x4 s := by
  intro X0 hX0
  obtain ⟨Y, hY, hY0⟩ := h2
  exact h1 (fun v0 s => Y v0 s → X0 v0 s) (fun v0 s hb hy => hX0 v0 s (cj_261_p47 (hX34 := hX34) (X471 := fun v0 s => Y v0 s → X0 v0 s) (X472 := Y) (X473 := X0) (hX47 := fun v0 s a b => a b) hQ hb (hY v0 s hy))) hY0
def fw_261_p34 (Q : lf_Z → Prop) (x2 : Int) (X34 : Int → lf_Z → Prop) (x3 : Int) (s : lf_Z) : Prop := lf_R x3 → (lf_R (s.1 96 0) → ((s.1 96 0 ≤ x3 → (Q s)) ∧ (¬ (s.1 96 0 ≤ x3) → (fw_261_p47L X34 Q x2 x3 0 s))))
theorem cj_261_p34 {X341 X342 X343 : Int → lf_Z → Prop} {Q1 Q2 Q3 : lf_Z → Prop} {x2 : Int} {x3 : Int} {s : lf_Z} (hX34 : ∀ (v0 : Int) (v1 : lf_Z), X341 v0 v1 → X342 v0 v1 → X343 v0 v1) (hQ : ∀ (s : lf_Z), Q1 s → Q2 s → Q3 s) (h1 : fm_261_p34 Q1 x2 X341 x3 s) (h2 : fw_261_p34 Q2 x2 X342 x3 s) : fm_261_p34 Q3 x2 X343 x3 s := by
  unfold fm_261_p34 at h1 ⊢
  unfold fw_261_p34 at h2
  exact ⟨h1.1, ⟨h1.2.1, ⟨(fun c3 => hQ _  (h1.2.2.1 c3) (((h2 h1.1) h1.2.1).1 c3)), (fun c3 => cj_261_p47L hX34 hQ (h1.2.2.2 c3) (((h2 h1.1) h1.2.1).2 c3))⟩⟩⟩
def fw_261_p34L (Q : lf_Z → Prop) (x2 : Int) (x3 : Int) (s : lf_Z) : Prop := ∃ X34 : Int → lf_Z → Prop, (∀ (x3 : Int) (s : lf_Z), X34 x3 s → fw_261_p34 Q x2 X34 x3 s) ∧ X34 x3 s
theorem cj_261_p34L {Q1 Q2 Q3 : lf_Z → Prop} {x2 : Int} {x3 : Int} {s : lf_Z} (hQ : ∀ (s : lf_Z), Q1 s → Q2 s → Q3 s) (h1 : fm_261_p34L Q1 x2 x3 s) (h2 : fw_261_p34L Q2 x2 x3 s) : fm_261_p34L Q3 x2 x3 s := by
  intro X0 hX0
  obtain ⟨Y, hY, hY0⟩ := h2
  exact h1 (fun v0 s => Y v0 s → X0 v0 s) (fun v0 s hb hy => hX0 v0 s (cj_261_p34 (X341 := fun v0 s => Y v0 s → X0 v0 s) (X342 := Y) (X343 := X0) (hX34 := fun v0 s a b => a b) hQ hb (hY v0 s hy))) hY0
def fw_261_p25 (X2 : Int → lf_Z → Prop) (Q : lf_Z → Prop) (x1 : Int) (x2 : Int) (x3 : Int) (y1 : Int) (y2 : Int) (s : lf_Z) : Prop := (0 ≤ y1 ∧ y1 < 12) → (X2 (x3 + 1) (lf_up s.1 108 y1 y2, s.2.1, s.2.2))
theorem cj_261_p25 {X21 X22 X23 : Int → lf_Z → Prop} {Q1 Q2 Q3 : lf_Z → Prop} {x1 : Int} {x2 : Int} {x3 : Int} {y1 : Int} {y2 : Int} {s : lf_Z} (hX2 : ∀ (v0 : Int) (v1 : lf_Z), X21 v0 v1 → X22 v0 v1 → X23 v0 v1) (hQ : ∀ (s : lf_Z), Q1 s → Q2 s → Q3 s) (h1 : fm_261_p25 X21 Q1 x1 x2 x3 y1 y2 s) (h2 : fw_261_p25 X22 Q2 x1 x2 x3 y1 y2 s) : fm_261_p25 X23 Q3 x1 x2 x3 y1 y2 s := by
  unfold fm_261_p25 at h1 ⊢
  unfold fw_261_p25 at h2
  exact ⟨h1.1, hX2 _ _  h1.2 (h2 h1.1)⟩
def fw_261_p2 (Q : lf_Z → Prop) (x1 : Int) (x2 : Int) (X2 : Int → lf_Z → Prop) (x3 : Int) (s : lf_Z) : Prop := lf_R x3 → ((12 ≤ x3 → (fw_261_p34L Q x2 0 s)) ∧ (¬ (12 ≤ x3) → (lf_R x1 → ((x3 ≠ x1 → (fw_261_p25 X2 Q x1 x2 x3 x3 1000 s)) ∧ (¬ (x3 ≠ x1) → (fw_261_p25 X2 Q x1 x2 x3 x3 0 s))))))
theorem cj_261_p2 {X21 X22 X23 : Int → lf_Z → Prop} {Q1 Q2 Q3 : lf_Z → Prop} {x1 : Int} {x2 : Int} {x3 : Int} {s : lf_Z} (hX2 : ∀ (v0 : Int) (v1 : lf_Z), X21 v0 v1 → X22 v0 v1 → X23 v0 v1) (hQ : ∀ (s : lf_Z), Q1 s → Q2 s → Q3 s) (h1 : fm_261_p2 Q1 x1 x2 X21 x3 s) (h2 : fw_261_p2 Q2 x1 x2 X22 x3 s) : fm_261_p2 Q3 x1 x2 X23 x3 s := by
  unfold fm_261_p2 at h1 ⊢
  unfold fw_261_p2 at h2
  exact ⟨h1.1, ⟨(fun c2 => cj_261_p34L hQ (h1.2.1 c2) ((h2 h1.1).1 c2)), (fun c2 => ⟨(h1.2.2 c2).1, ⟨(fun c5 => cj_261_p25 hX2 hQ ((h1.2.2 c2).2.1 c5) ((((h2 h1.1).2 c2) (h1.2.2 c2).1).1 c5)), (fun c5 => cj_261_p25 hX2 hQ ((h1.2.2 c2).2.2 c5) ((((h2 h1.1).2 c2) (h1.2.2 c2).1).2 c5))⟩⟩)⟩⟩
def fw_261_p2L (Q : lf_Z → Prop) (x1 : Int) (x2 : Int) (x3 : Int) (s : lf_Z) : Prop := ∃ X2 : Int → lf_Z → Prop, (∀ (x3 : Int) (s : lf_Z), X2 x3 s → fw_261_p2 Q x1 x2 X2 x3 s) ∧ X2 x3 s
theorem cj_261_p2L {Q1 Q2 Q3 : lf_Z → Prop} {x1 : Int} {x2 : Int} {x3 : Int} {s : lf_Z} (hQ : ∀ (s : lf_Z), Q1 s → Q2 s → Q3 s) (h1 : fm_261_p2L Q1 x1 x2 x3 s) (h2 : fw_261_p2L Q2 x1 x2 x3 s) : fm_261_p2L Q3 x1 x2 x3 s := by
  intro X0 hX0
  obtain ⟨Y, hY, hY0⟩ := h2
  exact h1 (fun v0 s => Y v0 s → X0 v0 s) (fun v0 s hb hy => hX0 v0 s (cj_261_p2 (X21 := fun v0 s => Y v0 s → X0 v0 s) (X22 := Y) (X23 := X0) (hX2 := fun v0 s a b => a b) hQ hb (hY v0 s hy))) hY0
def fw_261 (a1 : Int) (a2 : Int) (Q : lf_Z → Prop) (s : lf_Z) : Prop := fw_261_p2L Q a1 a2 0 s
theorem cj_261 {Q1 Q2 Q3 : lf_Z → Prop} {a1 : Int} {a2 : Int} {s : lf_Z} (hQ : ∀ (s : lf_Z), Q1 s → Q2 s → Q3 s) (h1 : fm_261 a1 a2 Q1 s) (h2 : fw_261 a1 a2 Q2 s) : fm_261 a1 a2 Q3 s := by
  unfold fm_261 at h1 ⊢
  unfold fw_261 at h2
  exact cj_261_p2L hQ h1 h2
def fw_239d (a1 : Int) (Q : Int → lf_Z → Prop) (s : lf_Z) : Prop := (0 ≤ (126 + (6 * a1)) + 1 ∧ (126 + (6 * a1)) + 1 < 1538) → (Q (s.1 96 ((126 + (6 * a1)) + 1)) s)
theorem cj_239d {Q1 Q2 Q3 : Int → lf_Z → Prop} {a1 : Int} {s : lf_Z} (hQ : ∀ (r : Int) (s : lf_Z), Q1 r s → Q2 r s → Q3 r s) (h1 : fm_239d a1 Q1 s) (h2 : fw_239d a1 Q2 s) : fm_239d a1 Q3 s := by
  unfold fm_239d at h1 ⊢
  unfold fw_239d at h2
  exact ⟨h1.1, hQ _ _  h1.2 (h2 h1.1)⟩
def fw_262_p88 (X36 : Int → Int → lf_Z → Prop) (Q : lf_Z → Prop) (x1 : Int) (x2 : Int) (x3 : Int) (x4 : Int) (s : lf_Z) : Prop := X36 x3 (x4 + 1) s
theorem cj_262_p88 {X361 X362 X363 : Int → Int → lf_Z → Prop} {Q1 Q2 Q3 : lf_Z → Prop} {x1 : Int} {x2 : Int} {x3 : Int} {x4 : Int} {s : lf_Z} (hX36 : ∀ (v0 : Int) (v1 : Int) (v2 : lf_Z), X361 v0 v1 v2 → X362 v0 v1 v2 → X363 v0 v1 v2) (hQ : ∀ (s : lf_Z), Q1 s → Q2 s → Q3 s) (h1 : fm_262_p88 X361 Q1 x1 x2 x3 x4 s) (h2 : fw_262_p88 X362 Q2 x1 x2 x3 x4 s) : fm_262_p88 X363 Q3 x1 x2 x3 x4 s := by
  unfold fm_262_p88 at h1 ⊢
  unfold fw_262_p88 at h2
  exact hX36 _ _ _  h1 h2
def fw_262_p36 (Q : lf_Z → Prop) (x1 : Int) (x2 : Int) (X36 : Int → Int → lf_Z → Prop) (x3 : Int) (x4 : Int) (s : lf_Z) : Prop := lf_R x4 → (lf_R (s.1 96 1) → ((s.1 96 1 ≤ x4 → (fw_191d x1 x3 (fun s31 => (Q s31)) s)) ∧ (¬ (s.1 96 1 ≤ x4) → (fw_187 x4 x2 (fun r33 s32 => (lf_R r33 → ((r33 < 0 → (fw_262_p88 X36 Q x1 x2 x3 x4 s32)) ∧ (¬ (r33 < 0) → ((0 ≤ r33 ∧ r33 < 12) → ((0 ≤ x2 ∧ x2 < 12) → (lf_R (s32.1 108 r33) → (lf_R ((s32.1 108 x2) - 1) → ((s32.1 108 r33 ≠ (s32.1 108 x2) - 1 → (fw_262_p88 X36 Q x1 x2 x3 x4 s32)) ∧ (¬ (s32.1 108 r33 ≠ (s32.1 108 x2) - 1) → (lf_R x3 → ((x3 ≤ r33 → (fw_262_p88 X36 Q x1 x2 x3 x4 s32)) ∧ (¬ (x3 ≤ r33) → (fw_262_p88 X36 Q x1 x2 r33 x4 s32)))))))))))))) s))))
theorem cj_262_p36 {X361 X362 X363 : Int → Int → lf_Z → Prop} {Q1 Q2 Q3 : lf_Z → Prop} {x1 : Int} {x2 : Int} {x3 : Int} {x4 : Int} {s : lf_Z} (hX36 : ∀ (v0 : Int) (v1 : Int) (v2 : lf_Z), X361 v0 v1 v2 → X362 v0 v1 v2 → X363 v0 v1 v2) (hQ : ∀ (s : lf_Z), Q1 s → Q2 s → Q3 s) (h1 : fm_262_p36 Q1 x1 x2 X361 x3 x4 s) (h2 : fw_262_p36 Q2 x1 x2 X362 x3 x4 s) : fm_262_p36 Q3 x1 x2 X363 x3 x4 s := by
  unfold fm_262_p36 at h1 ⊢
  unfold fw_262_p36 at h2
  exact ⟨h1.1, ⟨h1.2.1, ⟨(fun c3 => cj_191d (fun s31 k4 l4 => hQ _  k4 l4) (h1.2.2.1 c3) (((h2 h1.1) h1.2.1).1 c3)), (fun c3 => cj_187 (fun r33 s32 k6 l6 => ⟨k6.1, ⟨(fun c8 => cj_262_p88 hX36 hQ (k6.2.1 c8) ((l6 k6.1).1 c8)), (fun c8 => ⟨(k6.2.2 c8).1, ⟨(k6.2.2 c8).2.1, ⟨(k6.2.2 c8).2.2.1, ⟨(k6.2.2 c8).2.2.2.1, ⟨(fun c14 => cj_262_p88 hX36 hQ ((k6.2.2 c8).2.2.2.2.1 c14) (((((((l6 k6.1).2 c8) (k6.2.2 c8).1) (k6.2.2 c8).2.1) (k6.2.2 c8).2.2.1) (k6.2.2 c8).2.2.2.1).1 c14)), (fun c14 => ⟨((k6.2.2 c8).2.2.2.2.2 c14).1, ⟨(fun c17 => cj_262_p88 hX36 hQ (((k6.2.2 c8).2.2.2.2.2 c14).2.1 c17) (((((((((l6 k6.1).2 c8) (k6.2.2 c8).1) (k6.2.2 c8).2.1) (k6.2.2 c8).2.2.1) (k6.2.2 c8).2.2.2.1).2 c14) ((k6.2.2 c8).2.2.2.2.2 c14).1).1 c17)), (fun c17 => cj_262_p88 hX36 hQ (((k6.2.2 c8).2.2.2.2.2 c14).2.2 c17) (((((((((l6 k6.1).2 c8) (k6.2.2 c8).1) (k6.2.2 c8).2.1) (k6.2.2 c8).2.2.1) (k6.2.2 c8).2.2.2.1).2 c14) ((k6.2.2 c8).2.2.2.2.2 c14).1).2 c17))⟩⟩)⟩⟩⟩⟩⟩)⟩⟩) (h1.2.2.2 c3) (((h2 h1.1) h1.2.1).2 c3))⟩⟩⟩
def fw_262_p36L (Q : lf_Z → Prop) (x1 : Int) (x2 : Int) (x3 : Int) (x4 : Int) (s : lf_Z) : Prop := ∃ X36 : Int → Int → lf_Z → Prop, (∀ (x3 : Int) (x4 : Int) (s : lf_Z), X36 x3 x4 s → fw_262_p36 Q x1 x2 X36 x3 x4 s) ∧ X36 x3 x4 s
theorem cj_262_p36L {Q1 Q2 Q3 : lf_Z → Prop} {x1 : Int} {x2 : Int} {x3 : Int} {x4 : Int} {s : lf_Z} (hQ : ∀ (s : lf_Z), Q1 s → Q2 s → Q3 s) (h1 : fm_262_p36L Q1 x1 x2 x3 x4 s) (h2 : fw_262_p36L Q2 x1 x2 x3 x4 s) : fm_262_p36L Q3 x1 x2 x3 x4 s := by
  intro X0 hX0
  obtain ⟨Y, hY, hY0⟩ := h2
  exact h1 (fun v0 v1 s => Y v0 v1 s → X0 v0 v1 s) (fun v0 v1 s hb hy => hX0 v0 v1 s (cj_262_p36 (X361 := fun v0 v1 s => Y v0 v1 s → X0 v0 v1 s) (X362 := Y) (X363 := X0) (hX36 := fun v0 v1 s a b => a b) hQ hb (hY v0 v1 s hy))) hY0
def fw_262 (a1 : Int) (Q : lf_Z → Prop) (s : lf_Z) : Prop := fw_239 a1 (fun r22 s21 => (fw_239b a1 (fun r24 s23 => (lf_R r22 → (lf_R r24 → ((r22 = r24 → (Q s23)) ∧ (¬ (r22 = r24) → ((0 ≤ r22 ∧ r22 < 12) → (lf_R (s23.1 108 r22) → ((s23.1 108 r22 < 1000 → (fw_262_p36L Q a1 r22 12 0 s23)) ∧ (¬ (s23.1 108 r22 < 1000) → (Q s23)))))))))) s21)) s
theorem cj_262 {Q1 Q2 Q3 : lf_Z → Prop} {a1 : Int} {s : lf_Z} (hQ : ∀ (s : lf_Z), Q1 s → Q2 s → Q3 s) (h1 : fm_262 a1 Q1 s) (h2 : fw_262 a1 Q2 s) : fm_262 a1 Q3 s := by
  unfold fm_262 at h1 ⊢
  unfold fw_262 at h2
  exact cj_239 (fun r22 s21 k1 l1 => cj_239b (fun r24 s23 k2 l2 => ⟨k2.1, ⟨k2.2.1, ⟨(fun c5 => hQ _  (k2.2.2.1 c5) (((l2 k2.1) k2.2.1).1 c5)), (fun c5 => ⟨(k2.2.2.2 c5).1, ⟨(k2.2.2.2 c5).2.1, ⟨(fun c9 => cj_262_p36L hQ ((k2.2.2.2 c5).2.2.1 c9) ((((((l2 k2.1) k2.2.1).2 c5) (k2.2.2.2 c5).1) (k2.2.2.2 c5).2.1).1 c9)), (fun c9 => hQ _  ((k2.2.2.2 c5).2.2.2 c9) ((((((l2 k2.1) k2.2.1).2 c5) (k2.2.2.2 c5).1) (k2.2.2.2 c5).2.1).2 c9))⟩⟩⟩)⟩⟩⟩) k1 l1) h1 h2
def fw_260_p163 (X115 : Int → lf_Z → Prop) (Q : lf_Z → Prop) (x1 : Int) (s : lf_Z) : Prop := X115 (x1 + 1) s
theorem cj_260_p163 {X1151 X1152 X1153 : Int → lf_Z → Prop} {Q1 Q2 Q3 : lf_Z → Prop} {x1 : Int} {s : lf_Z} (hX115 : ∀ (v0 : Int) (v1 : lf_Z), X1151 v0 v1 → X1152 v0 v1 → X1153 v0 v1) (hQ : ∀ (s : lf_Z), Q1 s → Q2 s → Q3 s) (h1 : fm_260_p163 X1151 Q1 x1 s) (h2 : fw_260_p163 X1152 Q2 x1 s) : fm_260_p163 X1153 Q3 x1 s := by
  unfold fm_260_p163 at h1 ⊢
  unfold fw_260_p163 at h2
  exact hX115 _ _  h1 h2
def fw_260_p115 (Q : lf_Z → Prop) (X115 : Int → lf_Z → Prop) (x1 : Int) (s : lf_Z) : Prop := lf_R x1 → ((4 ≤ x1 → (fw_278 (fun s25 => (Q (lf_up s25.1 96 3 (lf_w ((s25.1 96 3) + 1)), s25.2.1, s25.2.2))) s)) ∧ (¬ (4 ≤ x1) → (fw_242 x1 (fun r27 s26 => (lf_R r27 → ((r27 ≤ 0 → (fw_260_p163 X115 Q x1 s26)) ∧ (¬ (r27 ≤ 0) → (fw_255 x1 (fun r30 s29 => ((0 ≤ (14 + (3 * r30)) + 2 ∧ (14 + (3 * r30)) + 2 < 1538) → (fw_242 x1 (fun r33 s32 => (fw_255 x1 (fun r35 s34 => (fw_277 r35 (fun r37 s36 => (fw_260_p163 X115 Q x1 (lf_up s36.1 96 ((14 + (3 * r30)) + 2) (lf_w ((s29.1 96 ((14 + (3 * r30)) + 2)) + (r33 * r37))), s36.2.1, s36.2.2))) s34)) s32)) s29))) s26))))) s)))
theorem cj_260_p115 {X1151 X1152 X1153 : Int → lf_Z → Prop} {Q1 Q2 Q3 : lf_Z → Prop} {x1 : Int} {s : lf_Z} (hX115 : ∀ (v0 : Int) (v1 : lf_Z), X1151 v0 v1 → X1152 v0 v1 → X1153 v0 v1) (hQ : ∀ (s : lf_Z), Q1 s → Q2 s → Q3 s) (h1 : fm_260_p115 Q1 X1151 x1 s) (h2 : fw_260_p115 Q2 X1152 x1 s) : fm_260_p115 Q3 X1153 x1 s := by
  unfold fm_260_p115 at h1 ⊢
  unfold fw_260_p115 at h2
  exact ⟨h1.1, ⟨(fun c2 => cj_278 (fun s25 k3 l3 => hQ _  k3 l3) (h1.2.1 c2) ((h2 h1.1).1 c2)), (fun c2 => cj_242 (fun r27 s26 k5 l5 => ⟨k5.1, ⟨(fun c7 => cj_260_p163 hX115 hQ (k5.2.1 c7) ((l5 k5.1).1 c7)), (fun c7 => cj_255 (fun r30 s29 k9 l9 => ⟨k9.1, cj_242 (fun r33 s32 k11 l11 => cj_255 (fun r35 s34 k12 l12 => cj_277 (fun r37 s36 k13 l13 => cj_260_p163 hX115 hQ k13 l13) k12 l12) k11 l11) k9.2 (l9 k9.1)⟩) (k5.2.2 c7) ((l5 k5.1).2 c7))⟩⟩) (h1.2.2 c2) ((h2 h1.1).2 c2))⟩⟩
def fw_260_p115L (Q : lf_Z → Prop) (x1 : Int) (s : lf_Z) : Prop := ∃ X115 : Int → lf_Z → Prop, (∀ (x1 : Int) (s : lf_Z), X115 x1 s → fw_260_p115 Q X115 x1 s) ∧ X115 x1 s
theorem cj_260_p115L {Q1 Q2 Q3 : lf_Z → Prop} {x1 : Int} {s : lf_Z} (hQ : ∀ (s : lf_Z), Q1 s → Q2 s → Q3 s) (h1 : fm_260_p115L Q1 x1 s) (h2 : fw_260_p115L Q2 x1 s) : fm_260_p115L Q3 x1 s := by
  intro X0 hX0
  obtain ⟨Y, hY, hY0⟩ := h2
  exact h1 (fun v0 s => Y v0 s → X0 v0 s) (fun v0 s hb hy => hX0 v0 s (cj_260_p115 (X1151 := fun v0 s => Y v0 s → X0 v0 s) (X1152 := Y) (X1153 := X0) (hX115 := fun v0 s a b => a b) hQ hb (hY v0 s hy))) hY0
def fw_260_p107 (X67 : Int → lf_Z → Prop) (Q : lf_Z → Prop) (x1 : Int) (s : lf_Z) : Prop := X67 (x1 + 1) s
theorem cj_260_p107 {X671 X672 X673 : Int → lf_Z → Prop} {Q1 Q2 Q3 : lf_Z → Prop} {x1 : Int} {s : lf_Z} (hX67 : ∀ (v0 : Int) (v1 : lf_Z), X671 v0 v1 → X672 v0 v1 → X673 v0 v1) (hQ : ∀ (s : lf_Z), Q1 s → Q2 s → Q3 s) (h1 : fm_260_p107 X671 Q1 x1 s) (h2 : fw_260_p107 X672 Q2 x1 s) : fm_260_p107 X673 Q3 x1 s := by
  unfold fm_260_p107 at h1 ⊢
  unfold fw_260_p107 at h2
  exact hX67 _ _  h1 h2
def fw_260_p91 (X67 : Int → lf_Z → Prop) (Q : lf_Z → Prop) (x1 : Int) (x2 : Int) (X91 : Int → lf_Z → Prop) (x3 : Int) (s : lf_Z) : Prop := lf_R x3 → (lf_R x2 → ((x2 ≤ x3 → (fw_260_p107 X67 Q x1 s)) ∧ (¬ (x2 ≤ x3) → (fw_272 x1 (fun s45 => (X91 (x3 + 1) s45)) s))))
theorem cj_260_p91 {X671 X672 X673 : Int → lf_Z → Prop} {X911 X912 X913 : Int → lf_Z → Prop} {Q1 Q2 Q3 : lf_Z → Prop} {x1 : Int} {x2 : Int} {x3 : Int} {s : lf_Z} (hX67 : ∀ (v0 : Int) (v1 : lf_Z), X671 v0 v1 → X672 v0 v1 → X673 v0 v1) (hX91 : ∀ (v0 : Int) (v1 : lf_Z), X911 v0 v1 → X912 v0 v1 → X913 v0 v1) (hQ : ∀ (s : lf_Z), Q1 s → Q2 s → Q3 s) (h1 : fm_260_p91 X671 Q1 x1 x2 X911 x3 s) (h2 : fw_260_p91 X672 Q2 x1 x2 X912 x3 s) : fm_260_p91 X673 Q3 x1 x2 X913 x3 s := by
  unfold fm_260_p91 at h1 ⊢
  unfold fw_260_p91 at h2
  exact ⟨h1.1, ⟨h1.2.1, ⟨(fun c3 => cj_260_p107 hX67 hQ (h1.2.2.1 c3) (((h2 h1.1) h1.2.1).1 c3)), (fun c3 => cj_272 (fun s45 k5 l5 => hX91 _ _  k5 l5) (h1.2.2.2 c3) (((h2 h1.1) h1.2.1).2 c3))⟩⟩⟩
def fw_260_p91L (X67 : Int → lf_Z → Prop) (Q : lf_Z → Prop) (x1 : Int) (x2 : Int) (x3 : Int) (s : lf_Z) : Prop := ∃ X91 : Int → lf_Z → Prop, (∀ (x3 : Int) (s : lf_Z), X91 x3 s → fw_260_p91 X67 Q x1 x2 X91 x3 s) ∧ X91 x3 s
theorem cj_260_p91L {X671 X672 X673 : Int → lf_Z → Prop} {Q1 Q2 Q3 : lf_Z → Prop} {x1 : Int} {x2 : Int} {x3 : Int} {s : lf_Z} (hX67 : ∀ (v0 : Int) (v1 : lf_Z), X671 v0 v1 → X672 v0 v1 → X673 v0 v1) (hQ : ∀ (s : lf_Z), Q1 s → Q2 s → Q3 s) (h1 : fm_260_p91L X671 Q1 x1 x2 x3 s) (h2 : fw_260_p91L X672 Q2 x1 x2 x3 s) : fm_260_p91L X673 Q3 x1 x2 x3 s := by
  intro X0 hX0
  obtain ⟨Y, hY, hY0⟩ := h2
  exact h1 (fun v0 s => Y v0 s → X0 v0 s) (fun v0 s hb hy => hX0 v0 s (cj_260_p91 (hX67 := hX67) (X911 := fun v0 s => Y v0 s → X0 v0 s) (X912 := Y) (X913 := X0) (hX91 := fun v0 s a b => a b) hQ hb (hY v0 s hy))) hY0
def fw_260_p67 (Q : lf_Z → Prop) (X67 : Int → lf_Z → Prop) (x1 : Int) (s : lf_Z) : Prop := lf_R x1 → ((4 ≤ x1 → (fw_260_p115L Q 0 s)) ∧ (¬ (4 ≤ x1) → (fw_242 x1 (fun r39 s38 => (lf_R r39 → ((r39 ≠ 0 → (fw_263 x1 (fun r42 s41 => (fw_260_p91L X67 Q x1 r42 0 s41)) s38)) ∧ (¬ (r39 ≠ 0) → (fw_260_p107 X67 Q x1 s38))))) s)))
theorem cj_260_p67 {X671 X672 X673 : Int → lf_Z → Prop} {Q1 Q2 Q3 : lf_Z → Prop} {x1 : Int} {s : lf_Z} (hX67 : ∀ (v0 : Int) (v1 : lf_Z), X671 v0 v1 → X672 v0 v1 → X673 v0 v1) (hQ : ∀ (s : lf_Z), Q1 s → Q2 s → Q3 s) (h1 : fm_260_p67 Q1 X671 x1 s) (h2 : fw_260_p67 Q2 X672 x1 s) : fm_260_p67 Q3 X673 x1 s := by
  unfold fm_260_p67 at h1 ⊢
  unfold fw_260_p67 at h2
  exact ⟨h1.1, ⟨(fun c2 => cj_260_p115L hQ (h1.2.1 c2) ((h2 h1.1).1 c2)), (fun c2 => cj_242 (fun r39 s38 k4 l4 => ⟨k4.1, ⟨(fun c6 => cj_263 (fun r42 s41 k7 l7 => cj_260_p91L hX67 hQ k7 l7) (k4.2.1 c6) ((l4 k4.1).1 c6)), (fun c6 => cj_260_p107 hX67 hQ (k4.2.2 c6) ((l4 k4.1).2 c6))⟩⟩) (h1.2.2 c2) ((h2 h1.1).2 c2))⟩⟩
def fw_260_p67L (Q : lf_Z → Prop) (x1 : Int) (s : lf_Z) : Prop := ∃ X67 : Int → lf_Z → Prop, (∀ (x1 : Int) (s : lf_Z), X67 x1 s → fw_260_p67 Q X67 x1 s) ∧ X67 x1 s
theorem cj_260_p67L {Q1 Q2 Q3 : lf_Z → Prop} {x1 : Int} {s : lf_Z} (hQ : ∀ (s : lf_Z), Q1 s → Q2 s → Q3 s) (h1 : fm_260_p67L Q1 x1 s) (h2 : fw_260_p67L Q2 x1 s) : fm_260_p67L Q3 x1 s := by
  intro X0 hX0
  obtain ⟨Y, hY, hY0⟩ := h2
  exact h1 (fun v0 s => Y v0 s → X0 v0 s) (fun v0 s hb hy => hX0 v0 s (cj_260_p67 (X671 := fun v0 s => Y v0 s → X0 v0 s) (X672 := Y) (X673 := X0) (hX67 := fun v0 s a b => a b) hQ hb (hY v0 s hy))) hY0
def fw_260_p59 (X2 : Int → lf_Z → Prop) (Q : lf_Z → Prop) (x1 : Int) (s : lf_Z) : Prop := X2 (x1 + 1) s
theorem cj_260_p59 {X21 X22 X23 : Int → lf_Z → Prop} {Q1 Q2 Q3 : lf_Z → Prop} {x1 : Int} {s : lf_Z} (hX2 : ∀ (v0 : Int) (v1 : lf_Z), X21 v0 v1 → X22 v0 v1 → X23 v0 v1) (hQ : ∀ (s : lf_Z), Q1 s → Q2 s → Q3 s) (h1 : fm_260_p59 X21 Q1 x1 s) (h2 : fw_260_p59 X22 Q2 x1 s) : fm_260_p59 X23 Q3 x1 s := by
  unfold fm_260_p59 at h1 ⊢
  unfold fw_260_p59 at h2
  exact hX2 _ _  h1 h2
def fw_260_p38 (X2 : Int → lf_Z → Prop) (Q : lf_Z → Prop) (x1 : Int) (X38 : Int → lf_Z → Prop) (x2 : Int) (s : lf_Z) : Prop := fw_239d x1 (fun r53 s52 => (lf_R x2 → (lf_R r53 → ((r53 < x2 → (fw_260_p59 X2 Q x1 s52)) ∧ (¬ (r53 < x2) → (fw_262 x1 (fun s56 => (X38 (x2 + 1) s56)) s52)))))) s
theorem cj_260_p38 {X21 X22 X23 : Int → lf_Z → Prop} {X381 X382 X383 : Int → lf_Z → Prop} {Q1 Q2 Q3 : lf_Z → Prop} {x1 : Int} {x2 : Int} {s : lf_Z} (hX2 : ∀ (v0 : Int) (v1 : lf_Z), X21 v0 v1 → X22 v0 v1 → X23 v0 v1) (hX38 : ∀ (v0 : Int) (v1 : lf_Z), X381 v0 v1 → X382 v0 v1 → X383 v0 v1) (hQ : ∀ (s : lf_Z), Q1 s → Q2 s → Q3 s) (h1 : fm_260_p38 X21 Q1 x1 X381 x2 s) (h2 : fw_260_p38 X22 Q2 x1 X382 x2 s) : fm_260_p38 X23 Q3 x1 X383 x2 s := by
  unfold fm_260_p38 at h1 ⊢
  unfold fw_260_p38 at h2
  exact cj_239d (fun r53 s52 k1 l1 => ⟨k1.1, ⟨k1.2.1, ⟨(fun c4 => cj_260_p59 hX2 hQ (k1.2.2.1 c4) (((l1 k1.1) k1.2.1).1 c4)), (fun c4 => cj_262 (fun s56 k6 l6 => hX38 _ _  k6 l6) (k1.2.2.2 c4) (((l1 k1.1) k1.2.1).2 c4))⟩⟩⟩) h1 h2
def fw_260_p38L (X2 : Int → lf_Z → Prop) (Q : lf_Z → Prop) (x1 : Int) (x2 : Int) (s : lf_Z) : Prop := ∃ X38 : Int → lf_Z → Prop, (∀ (x2 : Int) (s : lf_Z), X38 x2 s → fw_260_p38 X2 Q x1 X38 x2 s) ∧ X38 x2 s
theorem cj_260_p38L {X21 X22 X23 : Int → lf_Z → Prop} {Q1 Q2 Q3 : lf_Z → Prop} {x1 : Int} {x2 : Int} {s : lf_Z} (hX2 : ∀ (v0 : Int) (v1 : lf_Z), X21 v0 v1 → X22 v0 v1 → X23 v0 v1) (hQ : ∀ (s : lf_Z), Q1 s → Q2 s → Q3 s) (h1 : fm_260_p38L X21 Q1 x1 x2 s) (h2 : fw_260_p38L X22 Q2 x1 x2 s) : fm_260_p38L X23 Q3 x1 x2 s := by
  intro X0 hX0
  obtain ⟨Y, hY, hY0⟩ := h2
  exact h1 (fun v0 s => Y v0 s → X0 v0 s) (fun v0 s hb hy => hX0 v0 s (cj_260_p38 (hX2 := hX2) (X381 := fun v0 s => Y v0 s → X0 v0 s) (X382 := Y) (X383 := X0) (hX38 := fun v0 s a b => a b) hQ hb (hY v0 s hy))) hY0
def fw_260_p2 (Q : lf_Z → Prop) (X2 : Int → lf_Z → Prop) (x1 : Int) (s : lf_Z) : Prop := lf_R x1 → (lf_R (s.1 96 2) → ((s.1 96 2 ≤ x1 → (fw_260_p67L Q 0 s)) ∧ (¬ (s.1 96 2 ≤ x1) → (fw_239b x1 (fun r47 s46 => (lf_R r47 → ((r47 ≠ (-1) → (fw_239b x1 (fun r50 s49 => (fw_261 r50 1 (fun s51 => (fw_260_p38L X2 Q x1 0 s51)) s49)) s46)) ∧ (¬ (r47 ≠ (-1)) → (fw_260_p59 X2 Q x1 s46))))) s))))
theorem cj_260_p2 {X21 X22 X23 : Int → lf_Z → Prop} {Q1 Q2 Q3 : lf_Z → Prop} {x1 : Int} {s : lf_Z} (hX2 : ∀ (v0 : Int) (v1 : lf_Z), X21 v0 v1 → X22 v0 v1 → X23 v0 v1) (hQ : ∀ (s : lf_Z), Q1 s → Q2 s → Q3 s) (h1 : fm_260_p2 Q1 X21 x1 s) (h2 : fw_260_p2 Q2 X22 x1 s) : fm_260_p2 Q3 X23 x1 s := by
  unfold fm_260_p2 at h1 ⊢
  unfold fw_260_p2 at h2
  exact ⟨h1.1, ⟨h1.2.1, ⟨(fun c3 => cj_260_p67L hQ (h1.2.2.1 c3) (((h2 h1.1) h1.2.1).1 c3)), (fun c3 => cj_239b (fun r47 s46 k5 l5 => ⟨k5.1, ⟨(fun c7 => cj_239b (fun r50 s49 k8 l8 => cj_261 (fun s51 k9 l9 => cj_260_p38L hX2 hQ k9 l9) k8 l8) (k5.2.1 c7) ((l5 k5.1).1 c7)), (fun c7 => cj_260_p59 hX2 hQ (k5.2.2 c7) ((l5 k5.1).2 c7))⟩⟩) (h1.2.2.2 c3) (((h2 h1.1) h1.2.1).2 c3))⟩⟩⟩
def fw_260_p2L (Q : lf_Z → Prop) (x1 : Int) (s : lf_Z) : Prop := ∃ X2 : Int → lf_Z → Prop, (∀ (x1 : Int) (s : lf_Z), X2 x1 s → fw_260_p2 Q X2 x1 s) ∧ X2 x1 s
theorem cj_260_p2L {Q1 Q2 Q3 : lf_Z → Prop} {x1 : Int} {s : lf_Z} (hQ : ∀ (s : lf_Z), Q1 s → Q2 s → Q3 s) (h1 : fm_260_p2L Q1 x1 s) (h2 : fw_260_p2L Q2 x1 s) : fm_260_p2L Q3 x1 s := by
  intro X0 hX0
  obtain ⟨Y, hY, hY0⟩ := h2
  exact h1 (fun v0 s => Y v0 s → X0 v0 s) (fun v0 s hb hy => hX0 v0 s (cj_260_p2 (X21 := fun v0 s => Y v0 s → X0 v0 s) (X22 := Y) (X23 := X0) (hX2 := fun v0 s a b => a b) hQ hb (hY v0 s hy))) hY0
def fw_260 (Q : lf_Z → Prop) (s : lf_Z) : Prop := fw_260_p2L Q 0 s
theorem cj_260 {Q1 Q2 Q3 : lf_Z → Prop} {s : lf_Z} (hQ : ∀ (s : lf_Z), Q1 s → Q2 s → Q3 s) (h1 : fm_260 Q1 s) (h2 : fw_260 Q2 s) : fm_260 Q3 s := by
  unfold fm_260 at h1 ⊢
  unfold fw_260 at h2
  exact cj_260_p2L hQ h1 h2
def fw_259 (Q : Bool → lf_Z → Prop) (s : lf_Z) : Prop := lf_R (s.1 96 3) → ((s.1 96 3 ≠ 999 → (fw_244 (fun s22 => (fw_260 (fun s23 => (Q true s23)) s22)) s)) ∧ (¬ (s.1 96 3 ≠ 999) → (Q false s)))
theorem cj_259 {Q1 Q2 Q3 : Bool → lf_Z → Prop} {s : lf_Z} (hQ : ∀ (r : Bool) (s : lf_Z), Q1 r s → Q2 r s → Q3 r s) (h1 : fm_259 Q1 s) (h2 : fw_259 Q2 s) : fm_259 Q3 s := by
  unfold fm_259 at h1 ⊢
  unfold fw_259 at h2
  exact ⟨h1.1, ⟨(fun c2 => cj_244 (fun s22 k3 l3 => cj_260 (fun s23 k4 l4 => hQ _ _  k4 l4) k3 l3) (h1.2.1 c2) ((h2 h1.1).1 c2)), (fun c2 => hQ _ _  (h1.2.2 c2) ((h2 h1.1).2 c2))⟩⟩
def fw_258_p2 (Q : Bool → lf_Z → Prop) (x1 : Int) (X2 : Int → lf_Z → Prop) (x2 : Int) (s : lf_Z) : Prop := lf_R x2 → (lf_R x1 → ((x1 ≤ x2 → (Q true s)) ∧ (¬ (x1 ≤ x2) → (fw_259 (fun z24 s23 => ((z24 = true → (X2 (x2 + 1) s23)) ∧ (z24 = false → (Q false s23)))) s))))
theorem cj_258_p2 {X21 X22 X23 : Int → lf_Z → Prop} {Q1 Q2 Q3 : Bool → lf_Z → Prop} {x1 : Int} {x2 : Int} {s : lf_Z} (hX2 : ∀ (v0 : Int) (v1 : lf_Z), X21 v0 v1 → X22 v0 v1 → X23 v0 v1) (hQ : ∀ (r : Bool) (s : lf_Z), Q1 r s → Q2 r s → Q3 r s) (h1 : fm_258_p2 Q1 x1 X21 x2 s) (h2 : fw_258_p2 Q2 x1 X22 x2 s) : fm_258_p2 Q3 x1 X23 x2 s := by
  unfold fm_258_p2 at h1 ⊢
  unfold fw_258_p2 at h2
  exact ⟨h1.1, ⟨h1.2.1, ⟨(fun c3 => hQ _ _  (h1.2.2.1 c3) (((h2 h1.1) h1.2.1).1 c3)), (fun c3 => cj_259 (fun z24 s23 k5 l5 => ⟨(fun c6 => hX2 _ _  (k5.1 c6) (l5.1 c6)), (fun c6 => hQ _ _  (k5.2 c6) (l5.2 c6))⟩) (h1.2.2.2 c3) (((h2 h1.1) h1.2.1).2 c3))⟩⟩⟩
def fw_258_p2L (Q : Bool → lf_Z → Prop) (x1 : Int) (x2 : Int) (s : lf_Z) : Prop := ∃ X2 : Int → lf_Z → Prop, (∀ (x2 : Int) (s : lf_Z), X2 x2 s → fw_258_p2 Q x1 X2 x2 s) ∧ X2 x2 s
theorem cj_258_p2L {Q1 Q2 Q3 : Bool → lf_Z → Prop} {x1 : Int} {x2 : Int} {s : lf_Z} (hQ : ∀ (r : Bool) (s : lf_Z), Q1 r s → Q2 r s → Q3 r s) (h1 : fm_258_p2L Q1 x1 x2 s) (h2 : fw_258_p2L Q2 x1 x2 s) : fm_258_p2L Q3 x1 x2 s := by
  intro X0 hX0
  obtain ⟨Y, hY, hY0⟩ := h2
  exact h1 (fun v0 s => Y v0 s → X0 v0 s) (fun v0 s hb hy => hX0 v0 s (cj_258_p2 (X21 := fun v0 s => Y v0 s → X0 v0 s) (X22 := Y) (X23 := X0) (hX2 := fun v0 s a b => a b) hQ hb (hY v0 s hy))) hY0
def fw_258 (a1 : Int) (Q : Bool → lf_Z → Prop) (s : lf_Z) : Prop := fw_258_p2L Q a1 0 s
theorem cj_258 {Q1 Q2 Q3 : Bool → lf_Z → Prop} {a1 : Int} {s : lf_Z} (hQ : ∀ (r : Bool) (s : lf_Z), Q1 r s → Q2 r s → Q3 r s) (h1 : fm_258 a1 Q1 s) (h2 : fw_258 a1 Q2 s) : fm_258 a1 Q3 s := by
  unfold fm_258 at h1 ⊢
  unfold fw_258 at h2
  exact cj_258_p2L hQ h1 h2
def fw_279_p4 (Q : Int → lf_Z → Prop) (X4 : Int → Int → lf_Z → Prop) (x1 : Int) (x2 : Int) (s : lf_Z) : Prop := lf_R x2 → (lf_R (s.1 96 0) → ((s.1 96 0 ≤ x2 → (Q x1 s)) ∧ (¬ (s.1 96 0 ≤ x2) → (fw_246 x2 (fun r24 s23 => (X4 (lf_w (x1 + r24)) (x2 + 1) s23)) s))))
theorem cj_279_p4 {X41 X42 X43 : Int → Int → lf_Z → Prop} {Q1 Q2 Q3 : Int → lf_Z → Prop} {x1 : Int} {x2 : Int} {s : lf_Z} (hX4 : ∀ (v0 : Int) (v1 : Int) (v2 : lf_Z), X41 v0 v1 v2 → X42 v0 v1 v2 → X43 v0 v1 v2) (hQ : ∀ (r : Int) (s : lf_Z), Q1 r s → Q2 r s → Q3 r s) (h1 : fm_279_p4 Q1 X41 x1 x2 s) (h2 : fw_279_p4 Q2 X42 x1 x2 s) : fm_279_p4 Q3 X43 x1 x2 s := by
  unfold fm_279_p4 at h1 ⊢
  unfold fw_279_p4 at h2
  exact ⟨h1.1, ⟨h1.2.1, ⟨(fun c3 => hQ _ _  (h1.2.2.1 c3) (((h2 h1.1) h1.2.1).1 c3)), (fun c3 => cj_246 (fun r24 s23 k5 l5 => hX4 _ _ _  k5 l5) (h1.2.2.2 c3) (((h2 h1.1) h1.2.1).2 c3))⟩⟩⟩
def fw_279_p4L (Q : Int → lf_Z → Prop) (x1 : Int) (x2 : Int) (s : lf_Z) : Prop := ∃ X4 : Int → Int → lf_Z → Prop, (∀ (x1 : Int) (x2 : Int) (s : lf_Z), X4 x1 x2 s → fw_279_p4 Q X4 x1 x2 s) ∧ X4 x1 x2 s
theorem cj_279_p4L {Q1 Q2 Q3 : Int → lf_Z → Prop} {x1 : Int} {x2 : Int} {s : lf_Z} (hQ : ∀ (r : Int) (s : lf_Z), Q1 r s → Q2 r s → Q3 r s) (h1 : fm_279_p4L Q1 x1 x2 s) (h2 : fw_279_p4L Q2 x1 x2 s) : fm_279_p4L Q3 x1 x2 s := by
  intro X0 hX0
  obtain ⟨Y, hY, hY0⟩ := h2
  exact h1 (fun v0 v1 s => Y v0 v1 s → X0 v0 v1 s) (fun v0 v1 s hb hy => hX0 v0 v1 s (cj_279_p4 (X41 := fun v0 v1 s => Y v0 v1 s → X0 v0 v1 s) (X42 := Y) (X43 := X0) (hX4 := fun v0 v1 s a b => a b) hQ hb (hY v0 v1 s hy))) hY0
def fw_279 (Q : Int → lf_Z → Prop) (s : lf_Z) : Prop := fw_279_p4L Q 0 0 s
theorem cj_279 {Q1 Q2 Q3 : Int → lf_Z → Prop} {s : lf_Z} (hQ : ∀ (r : Int) (s : lf_Z), Q1 r s → Q2 r s → Q3 r s) (h1 : fm_279 Q1 s) (h2 : fw_279 Q2 s) : fm_279 Q3 s := by
  unfold fm_279 at h1 ⊢
  unfold fw_279 at h2
  exact cj_279_p4L hQ h1 h2
def fw_257 (a1 : Int) (Q : Int → lf_Z → Prop) (s : lf_Z) : Prop := fw_183 a1 1 60 (fun z22 s21 => ((z22 = false → (Q (-1) s21)) ∧ (z22 = true → ((999 < lf_w ((s21.1 96 3) + a1) → (Q (-1) s21)) ∧ (¬ (999 < lf_w ((s21.1 96 3) + a1)) → (fw_258 a1 (fun z24 s23 => ((z24 = false → (Q (-1) s23)) ∧ (z24 = true → (fw_279 (fun r26 s25 => (Q r26 s25)) s23)))) s21)))))) s
theorem cj_257 {Q1 Q2 Q3 : Int → lf_Z → Prop} {a1 : Int} {s : lf_Z} (hQ : ∀ (r : Int) (s : lf_Z), Q1 r s → Q2 r s → Q3 r s) (h1 : fm_257 a1 Q1 s) (h2 : fw_257 a1 Q2 s) : fm_257 a1 Q3 s := by
  unfold fm_257 at h1 ⊢
  unfold fw_257 at h2
  exact cj_183 (fun z22 s21 k1 l1 => ⟨(fun c2 => hQ _ _  (k1.1 c2) (l1.1 c2)), (fun c2 => ⟨(fun c4 => hQ _ _  ((k1.2 c2).1 c4) ((l1.2 c2).1 c4)), (fun c4 => cj_258 (fun z24 s23 k6 l6 => ⟨(fun c7 => hQ _ _  (k6.1 c7) (l6.1 c7)), (fun c7 => cj_279 (fun r26 s25 k9 l9 => hQ _ _  k9 l9) (k6.2 c7) (l6.2 c7))⟩) ((k1.2 c2).2 c4) ((l1.2 c2).2 c4))⟩)⟩) h1 h2
def fw_99 (a1 : Int) (Q : Bool → lf_Z → Prop) (s : lf_Z) : Prop := lf_R a1 → ((a1 < 0 → (Q false s)) ∧ (¬ (a1 < 0) → (lf_R (s.1 1 2) → ((s.1 1 2 ≤ a1 → (Q false s)) ∧ (¬ (s.1 1 2 ≤ a1) → (Q true s))))))
theorem cj_99 {Q1 Q2 Q3 : Bool → lf_Z → Prop} {a1 : Int} {s : lf_Z} (hQ : ∀ (r : Bool) (s : lf_Z), Q1 r s → Q2 r s → Q3 r s) (h1 : fm_99 a1 Q1 s) (h2 : fw_99 a1 Q2 s) : fm_99 a1 Q3 s := by
  unfold fm_99 at h1 ⊢
  unfold fw_99 at h2
  exact ⟨h1.1, ⟨(fun c2 => hQ _ _  (h1.2.1 c2) ((h2 h1.1).1 c2)), (fun c2 => ⟨(h1.2.2 c2).1, ⟨(fun c5 => hQ _ _  ((h1.2.2 c2).2.1 c5) ((((h2 h1.1).2 c2) (h1.2.2 c2).1).1 c5)), (fun c5 => hQ _ _  ((h1.2.2 c2).2.2 c5) ((((h2 h1.1).2 c2) (h1.2.2 c2).1).2 c5))⟩⟩)⟩⟩
def fw_98 (a1 : Int) (a2 : Int) (Q : Bool → lf_Z → Prop) (s : lf_Z) : Prop := fw_99 a1 (fun z22 s21 => ((z22 = false → (Q false s21)) ∧ (z22 = true → (fw_15 a2 (-1) ((s21.1 1 0) - 1) (fun z24 s23 => ((z24 = false → (Q false s23)) ∧ (z24 = true → ((0 ≤ a1 ∧ a1 < 6) → (lf_R (s23.1 20 a1) → (lf_R a2 → ((s23.1 20 a1 ≠ a2 → (fw_67 (s23.1 1 2) (fun s28 => (Q true (lf_up s28.1 20 a1 a2, s28.2.1, s28.2.2))) s23)) ∧ (¬ (s23.1 20 a1 ≠ a2) → (Q false s23))))))))) s21)))) s
theorem cj_98 {Q1 Q2 Q3 : Bool → lf_Z → Prop} {a1 : Int} {a2 : Int} {s : lf_Z} (hQ : ∀ (r : Bool) (s : lf_Z), Q1 r s → Q2 r s → Q3 r s) (h1 : fm_98 a1 a2 Q1 s) (h2 : fw_98 a1 a2 Q2 s) : fm_98 a1 a2 Q3 s := by
  unfold fm_98 at h1 ⊢
  unfold fw_98 at h2
  exact cj_99 (fun z22 s21 k1 l1 => ⟨(fun c2 => hQ _ _  (k1.1 c2) (l1.1 c2)), (fun c2 => cj_15 (fun z24 s23 k4 l4 => ⟨(fun c5 => hQ _ _  (k4.1 c5) (l4.1 c5)), (fun c5 => ⟨(k4.2 c5).1, ⟨(k4.2 c5).2.1, ⟨(k4.2 c5).2.2.1, ⟨(fun c10 => cj_67 (fun s28 k11 l11 => hQ _ _  k11 l11) ((k4.2 c5).2.2.2.1 c10) (((((l4.2 c5) (k4.2 c5).1) (k4.2 c5).2.1) (k4.2 c5).2.2.1).1 c10)), (fun c10 => hQ _ _  ((k4.2 c5).2.2.2.2 c10) (((((l4.2 c5) (k4.2 c5).1) (k4.2 c5).2.1) (k4.2 c5).2.2.1).2 c10))⟩⟩⟩⟩)⟩) (k1.2 c2) (l1.2 c2))⟩) h1 h2
def fw_249 (a1 : Int) (Q : Bool → lf_Z → Prop) (s : lf_Z) : Prop := fw_183 a1 0 ((s.1 96 2) - 1) (fun z22 s21 => (Q z22 s21)) s
theorem cj_249 {Q1 Q2 Q3 : Bool → lf_Z → Prop} {a1 : Int} {s : lf_Z} (hQ : ∀ (r : Bool) (s : lf_Z), Q1 r s → Q2 r s → Q3 r s) (h1 : fm_249 a1 Q1 s) (h2 : fw_249 a1 Q2 s) : fm_249 a1 Q3 s := by
  unfold fm_249 at h1 ⊢
  unfold fw_249 at h2
  exact cj_183 (fun z22 s21 k1 l1 => hQ _ _  k1 l1) h1 h2
def fw_248_p21 (Q : Bool → lf_Z → Prop) (x1 : Int) (x2 : Int) (s : lf_Z) : Prop := fw_239b x1 (fun r25 s24 => (lf_R r25 → (lf_R x2 → ((r25 ≠ x2 → (fw_244 (fun s28 => (fw_191e x1 x2 (fun s29 => (Q true s29)) s28)) s24)) ∧ (¬ (r25 ≠ x2) → (Q false s24)))))) s
theorem cj_248_p21 {Q1 Q2 Q3 : Bool → lf_Z → Prop} {x1 : Int} {x2 : Int} {s : lf_Z} (hQ : ∀ (r : Bool) (s : lf_Z), Q1 r s → Q2 r s → Q3 r s) (h1 : fm_248_p21 Q1 x1 x2 s) (h2 : fw_248_p21 Q2 x1 x2 s) : fm_248_p21 Q3 x1 x2 s := by
  unfold fm_248_p21 at h1 ⊢
  unfold fw_248_p21 at h2
  exact cj_239b (fun r25 s24 k1 l1 => ⟨k1.1, ⟨k1.2.1, ⟨(fun c4 => cj_244 (fun s28 k5 l5 => cj_191e (fun s29 k6 l6 => hQ _ _  k6 l6) k5 l5) (k1.2.2.1 c4) (((l1 k1.1) k1.2.1).1 c4)), (fun c4 => hQ _ _  (k1.2.2.2 c4) (((l1 k1.1) k1.2.1).2 c4))⟩⟩⟩) h1 h2
def fw_248 (a1 : Int) (a2 : Int) (Q : Bool → lf_Z → Prop) (s : lf_Z) : Prop := fw_249 a1 (fun z22 s21 => ((z22 = false → (Q false s21)) ∧ (z22 = true → (lf_R a2 → ((a2 = (-1) → (fw_248_p21 Q a1 a2 s21)) ∧ (¬ (a2 = (-1)) → (fw_185 a2 (fun z31 s30 => ((z31 = false → (Q false s30)) ∧ (z31 = true → (fw_248_p21 Q a1 a2 s30)))) s21))))))) s
theorem cj_248 {Q1 Q2 Q3 : Bool → lf_Z → Prop} {a1 : Int} {a2 : Int} {s : lf_Z} (hQ : ∀ (r : Bool) (s : lf_Z), Q1 r s → Q2 r s → Q3 r s) (h1 : fm_248 a1 a2 Q1 s) (h2 : fw_248 a1 a2 Q2 s) : fm_248 a1 a2 Q3 s := by
  unfold fm_248 at h1 ⊢
  unfold fw_248 at h2
  exact cj_249 (fun z22 s21 k1 l1 => ⟨(fun c2 => hQ _ _  (k1.1 c2) (l1.1 c2)), (fun c2 => ⟨(k1.2 c2).1, ⟨(fun c5 => cj_248_p21 hQ ((k1.2 c2).2.1 c5) (((l1.2 c2) (k1.2 c2).1).1 c5)), (fun c5 => cj_185 (fun z31 s30 k7 l7 => ⟨(fun c8 => hQ _ _  (k7.1 c8) (l7.1 c8)), (fun c8 => cj_248_p21 hQ (k7.2 c8) (l7.2 c8))⟩) ((k1.2 c2).2.2 c5) (((l1.2 c2) (k1.2 c2).1).2 c5))⟩⟩)⟩) h1 h2
def fw_101 (a1 : Int) (Q : lf_Z → Prop) (s : lf_Z) : Prop := Q (lf_up s.1 15 6 (lf_xor (s.1 15 6) (lf_shl 1 a1)), s.2.1, s.2.2)
theorem cj_101 {Q1 Q2 Q3 : lf_Z → Prop} {a1 : Int} {s : lf_Z} (hQ : ∀ (s : lf_Z), Q1 s → Q2 s → Q3 s) (h1 : fm_101 a1 Q1 s) (h2 : fw_101 a1 Q2 s) : fm_101 a1 Q3 s := by
  unfold fm_101 at h1 ⊢
  unfold fw_101 at h2
  exact hQ _  h1 h2
def fw_100 (a1 : Int) (a2 : Int) (Q : Bool → lf_Z → Prop) (s : lf_Z) : Prop := fw_89 a1 (fun z22 s21 => ((z22 = false → (Q false s21)) ∧ (z22 = true → (fw_90 a1 (fun z24 s23 => (lf_R a2 → ((lf_b z24 ≠ a2 → (fw_67 (s23.1 1 2) (fun s26 => (fw_101 a1 (fun s27 => (Q true s27)) s26)) s23)) ∧ (¬ (lf_b z24 ≠ a2) → (Q false s23))))) s21)))) s
theorem cj_100 {Q1 Q2 Q3 : Bool → lf_Z → Prop} {a1 : Int} {a2 : Int} {s : lf_Z} (hQ : ∀ (r : Bool) (s : lf_Z), Q1 r s → Q2 r s → Q3 r s) (h1 : fm_100 a1 a2 Q1 s) (h2 : fw_100 a1 a2 Q2 s) : fm_100 a1 a2 Q3 s := by
  unfold fm_100 at h1 ⊢
  unfold fw_100 at h2
  exact cj_89 (fun z22 s21 k1 l1 => ⟨(fun c2 => hQ _ _  (k1.1 c2) (l1.1 c2)), (fun c2 => cj_90 (fun z24 s23 k4 l4 => ⟨k4.1, ⟨(fun c6 => cj_67 (fun s26 k7 l7 => cj_101 (fun s27 k8 l8 => hQ _ _  k8 l8) k7 l7) (k4.2.1 c6) ((l4 k4.1).1 c6)), (fun c6 => hQ _ _  (k4.2.2 c6) ((l4 k4.1).2 c6))⟩⟩) (k1.2 c2) (l1.2 c2))⟩) h1 h2
def fw_251 (a1 : Int) (Q : Bool → lf_Z → Prop) (s : lf_Z) : Prop := fw_183 a1 0 ((s.1 96 1) - 1) (fun z22 s21 => (Q z22 s21)) s
theorem cj_251 {Q1 Q2 Q3 : Bool → lf_Z → Prop} {a1 : Int} {s : lf_Z} (hQ : ∀ (r : Bool) (s : lf_Z), Q1 r s → Q2 r s → Q3 r s) (h1 : fm_251 a1 Q1 s) (h2 : fw_251 a1 Q2 s) : fm_251 a1 Q3 s := by
  unfold fm_251 at h1 ⊢
  unfold fw_251 at h2
  exact cj_183 (fun z22 s21 k1 l1 => hQ _ _  k1 l1) h1 h2
def fw_250_p52 (Q : Bool → lf_Z → Prop) (y1 : Int) (y2 : Int) (s : lf_Z) : Prop := (0 ≤ y1 ∧ y1 < 1538) → (Q true (lf_up s.1 96 y1 y2, s.2.1, s.2.2))
theorem cj_250_p52 {Q1 Q2 Q3 : Bool → lf_Z → Prop} {y1 : Int} {y2 : Int} {s : lf_Z} (hQ : ∀ (r : Bool) (s : lf_Z), Q1 r s → Q2 r s → Q3 r s) (h1 : fm_250_p52 Q1 y1 y2 s) (h2 : fw_250_p52 Q2 y1 y2 s) : fm_250_p52 Q3 y1 y2 s := by
  unfold fm_250_p52 at h1 ⊢
  unfold fw_250_p52 at h2
  exact ⟨h1.1, hQ _ _  h1.2 (h2 h1.1)⟩
def fw_250 (a1 : Int) (a2 : Int) (Q : Bool → lf_Z → Prop) (s : lf_Z) : Prop := fw_251 a1 (fun z22 s21 => ((z22 = false → (Q false s21)) ∧ (z22 = true → (fw_252 a1 (fun z24 s23 => ((z24 = true → (Q false s23)) ∧ (z24 = false → (fw_245 a1 (fun z26 s25 => (lf_R a2 → ((lf_b z26 ≠ a2 → (fw_244 (fun s28 => ((a2 = 0 → (fw_250_p52 Q ((50 + (4 * a1)) + 3) 0 s28)) ∧ (¬ (a2 = 0) → (fw_250_p52 Q ((50 + (4 * a1)) + 3) 1 s28)))) s25)) ∧ (¬ (lf_b z26 ≠ a2) → (Q false s25))))) s23)))) s21)))) s
theorem cj_250 {Q1 Q2 Q3 : Bool → lf_Z → Prop} {a1 : Int} {a2 : Int} {s : lf_Z} (hQ : ∀ (r : Bool) (s : lf_Z), Q1 r s → Q2 r s → Q3 r s) (h1 : fm_250 a1 a2 Q1 s) (h2 : fw_250 a1 a2 Q2 s) : fm_250 a1 a2 Q3 s := by
  unfold fm_250 at h1 ⊢
  unfold fw_250 at h2
  exact cj_251 (fun z22 s21 k1 l1 => ⟨(fun c2 => hQ _ _  (k1.1 c2) (l1.1 c2)), (fun c2 => cj_252 (fun z24 s23 k4 l4 => ⟨(fun c5 => hQ _ _  (k4.1 c5) (l4.1 c5)), (fun c5 => cj_245 (fun z26 s25 k7 l7 => ⟨k7.1, ⟨(fun c9 => cj_244 (fun s28 k10 l10 => ⟨(fun c11 => cj_250_p52 hQ (k10.1 c11) (l10.1 c11)), (fun c11 => cj_250_p52 hQ (k10.2 c11) (l10.2 c11))⟩) (k7.2.1 c9) ((l7 k7.1).1 c9)), (fun c9 => hQ _ _  (k7.2.2 c9) ((l7 k7.1).2 c9))⟩⟩) (k4.2 c5) (l4.2 c5))⟩) (k1.2 c2) (l1.2 c2))⟩) h1 h2
def fw_102 (a1 : Int) (a2 : Int) (Q : Int → lf_Z → Prop) (s : lf_Z) : Prop := fw_80 a1 (fun z22 s21 => ((z22 = false → (Q (-1) s21)) ∧ (z22 = true → ((0 ≤ a1 ∧ a1 < 4) → (fw_15 a2 1 ((s21.1 16 a1) - 1) (fun z25 s24 => ((z25 = true → (fw_66 (fun r27 s26 => (lf_R r27 → ((r27 = (-1) → (Q r27 s26)) ∧ (¬ (r27 = (-1)) → (fw_67 (s26.1 1 2) (fun s29 => (fw_69 r27 a2 (s29.1 17 a1) (s29.1 18 a1) (fun s30 => (Q r27 s30)) (lf_up s29.1 16 a1 ((s29.1 16 a1) - a2), s29.2.1, s29.2.2))) s26))))) s24)) ∧ (z25 = false → (Q (-1) s24)))) s21))))) s
theorem cj_102 {Q1 Q2 Q3 : Int → lf_Z → Prop} {a1 : Int} {a2 : Int} {s : lf_Z} (hQ : ∀ (r : Int) (s : lf_Z), Q1 r s → Q2 r s → Q3 r s) (h1 : fm_102 a1 a2 Q1 s) (h2 : fw_102 a1 a2 Q2 s) : fm_102 a1 a2 Q3 s := by
  unfold fm_102 at h1 ⊢
  unfold fw_102 at h2
  exact cj_80 (fun z22 s21 k1 l1 => ⟨(fun c2 => hQ _ _  (k1.1 c2) (l1.1 c2)), (fun c2 => ⟨(k1.2 c2).1, cj_15 (fun z25 s24 k5 l5 => ⟨(fun c6 => cj_66 (fun r27 s26 k7 l7 => ⟨k7.1, ⟨(fun c9 => hQ _ _  (k7.2.1 c9) ((l7 k7.1).1 c9)), (fun c9 => cj_67 (fun s29 k11 l11 => cj_69 (fun s30 k12 l12 => hQ _ _  k12 l12) k11 l11) (k7.2.2 c9) ((l7 k7.1).2 c9))⟩⟩) (k5.1 c6) (l5.1 c6)), (fun c6 => hQ _ _  (k5.2 c6) (l5.2 c6))⟩) (k1.2 c2).2 ((l1.2 c2) (k1.2 c2).1)⟩)⟩) h1 h2
def fw_254 (a1 : Int) (Q : Bool → lf_Z → Prop) (s : lf_Z) : Prop := fw_183 a1 0 3 (fun z22 s21 => ((z22 = false → (Q false s21)) ∧ (z22 = true → (fw_242 a1 (fun r24 s23 => (lf_R r24 → ((r24 ≤ 0 → (Q false s23)) ∧ (¬ (r24 ≤ 0) → (Q true s23))))) s21)))) s
theorem cj_254 {Q1 Q2 Q3 : Bool → lf_Z → Prop} {a1 : Int} {s : lf_Z} (hQ : ∀ (r : Bool) (s : lf_Z), Q1 r s → Q2 r s → Q3 r s) (h1 : fm_254 a1 Q1 s) (h2 : fw_254 a1 Q2 s) : fm_254 a1 Q3 s := by
  unfold fm_254 at h1 ⊢
  unfold fw_254 at h2
  exact cj_183 (fun z22 s21 k1 l1 => ⟨(fun c2 => hQ _ _  (k1.1 c2) (l1.1 c2)), (fun c2 => cj_242 (fun r24 s23 k4 l4 => ⟨k4.1, ⟨(fun c6 => hQ _ _  (k4.2.1 c6) ((l4 k4.1).1 c6)), (fun c6 => hQ _ _  (k4.2.2 c6) ((l4 k4.1).2 c6))⟩⟩) (k1.2 c2) (l1.2 c2))⟩) h1 h2
def fw_253 (a1 : Int) (a2 : Int) (Q : Int → lf_Z → Prop) (s : lf_Z) : Prop := fw_241 (fun r22 s21 => (fw_254 a1 (fun z24 s23 => ((z24 = false → (Q (-1) s23)) ∧ (z24 = true → (fw_242 a1 (fun r26 s25 => (fw_183 a2 1 (r26 - 1) (fun z28 s27 => ((z28 = false → (Q (-1) s27)) ∧ (z28 = true → (lf_R r22 → ((0 ≤ r22 → (fw_244 (fun s30 => ((0 ≤ 114 + (3 * a1) ∧ 114 + (3 * a1) < 1538) → (fw_255 a1 (fun r33 s32 => (fw_256 a1 (fun r35 s34 => (fw_247 r22 a2 r33 r35 (fun s36 => (Q r22 s36)) s34)) s32)) (lf_up s30.1 96 (114 + (3 * a1)) ((s30.1 96 (114 + (3 * a1))) - a2), s30.2.1, s30.2.2)))) s27)) ∧ (¬ (0 ≤ r22) → (Q (-1) s27))))))) s25)) s23)))) s21)) s
theorem cj_253 {Q1 Q2 Q3 : Int → lf_Z → Prop} {a1 : Int} {a2 : Int} {s : lf_Z} (hQ : ∀ (r : Int) (s : lf_Z), Q1 r s → Q2 r s → Q3 r s) (h1 : fm_253 a1 a2 Q1 s) (h2 : fw_253 a1 a2 Q2 s) : fm_253 a1 a2 Q3 s := by
  unfold fm_253 at h1 ⊢
  unfold fw_253 at h2
  exact cj_241 (fun r22 s21 k1 l1 => cj_254 (fun z24 s23 k2 l2 => ⟨(fun c3 => hQ _ _  (k2.1 c3) (l2.1 c3)), (fun c3 => cj_242 (fun r26 s25 k5 l5 => cj_183 (fun z28 s27 k6 l6 => ⟨(fun c7 => hQ _ _  (k6.1 c7) (l6.1 c7)), (fun c7 => ⟨(k6.2 c7).1, ⟨(fun c10 => cj_244 (fun s30 k11 l11 => ⟨k11.1, cj_255 (fun r33 s32 k13 l13 => cj_256 (fun r35 s34 k14 l14 => cj_247 (fun s36 k15 l15 => hQ _ _  k15 l15) k14 l14) k13 l13) k11.2 (l11 k11.1)⟩) ((k6.2 c7).2.1 c10) (((l6.2 c7) (k6.2 c7).1).1 c10)), (fun c10 => hQ _ _  ((k6.2 c7).2.2 c10) (((l6.2 c7) (k6.2 c7).1).2 c10))⟩⟩)⟩) k5 l5) (k2.2 c3) (l2.2 c3))⟩) k1 l1) h1 h2
def fw_104 (a1 : Int) (a2 : Int) (a3 : Int) (Q : Bool → lf_Z → Prop) (s : lf_Z) : Prop := lf_R a1 → ((a1 < 23 ∨ 32 < a1 → (Q true s)) ∧ (a1 = 23 → (fw_14 a2 a3 (fun r23 s22 => (lf_R r23 → ((r23 = (-1) → (Q false s22)) ∧ (¬ (r23 = (-1)) → (Q true s22))))) s)) ∧ (a1 = 24 → (fw_17 a2 a3 0 (fun r26 s25 => (lf_R r26 → ((r26 = (-1) → (Q false s25)) ∧ (¬ (r26 = (-1)) → (Q true s25))))) s)) ∧ (a1 = 25 → (fw_17 a2 a3 1 (fun r29 s28 => (lf_R r29 → ((r29 = (-1) → (Q false s28)) ∧ (¬ (r29 = (-1)) → (Q true s28))))) s)) ∧ (a1 = 26 → (fw_23 a2 0 0 a3 (fun r32 s31 => (lf_R r32 → ((r32 = (-1) → (Q false s31)) ∧ (¬ (r32 = (-1)) → (Q true s31))))) s)) ∧ (a1 = 27 → (fw_63 a2 a3 (fun r35 s34 => (lf_R r35 → ((r35 = (-1) → (Q false s34)) ∧ (¬ (r35 = (-1)) → (Q true s34))))) s)) ∧ (a1 = 28 → (fw_98 a2 a3 (fun z38 s37 => (Q z38 s37)) s)) ∧ (a1 = 29 → (fw_100 a2 0 (fun z40 s39 => (Q z40 s39)) s)) ∧ (a1 = 30 → (fw_100 a2 1 (fun z42 s41 => (Q z42 s41)) s)) ∧ (a1 = 31 → (fw_102 a2 a3 (fun r44 s43 => (lf_R r44 → ((r44 = (-1) → (Q false s43)) ∧ (¬ (r44 = (-1)) → (Q true s43))))) s)) ∧ (a1 = 32 → (fw_71 a2 (fun z47 s46 => (Q z47 s46)) s)))
theorem cj_104 {Q1 Q2 Q3 : Bool → lf_Z → Prop} {a1 : Int} {a2 : Int} {a3 : Int} {s : lf_Z} (hQ : ∀ (r : Bool) (s : lf_Z), Q1 r s → Q2 r s → Q3 r s) (h1 : fm_104 a1 a2 a3 Q1 s) (h2 : fw_104 a1 a2 a3 Q2 s) : fm_104 a1 a2 a3 Q3 s := by
  unfold fm_104 at h1 ⊢
  unfold fw_104 at h2
  exact ⟨h1.1, ⟨(fun c2 => hQ _ _  (h1.2.1 c2) ((h2 h1.1).1 c2)), (fun c2 => cj_14 (fun r23 s22 k4 l4 => ⟨k4.1, ⟨(fun c6 => hQ _ _  (k4.2.1 c6) ((l4 k4.1).1 c6)), (fun c6 => hQ _ _  (k4.2.2 c6) ((l4 k4.1).2 c6))⟩⟩) (h1.2.2.1 c2) ((h2 h1.1).2.1 c2)), (fun c2 => cj_17 (fun r26 s25 k9 l9 => ⟨k9.1, ⟨(fun c11 => hQ _ _  (k9.2.1 c11) ((l9 k9.1).1 c11)), (fun c11 => hQ _ _  (k9.2.2 c11) ((l9 k9.1).2 c11))⟩⟩) (h1.2.2.2.1 c2) ((h2 h1.1).2.2.1 c2)), (fun c2 => cj_17 (fun r29 s28 k14 l14 => ⟨k14.1, ⟨(fun c16 => hQ _ _  (k14.2.1 c16) ((l14 k14.1).1 c16)), (fun c16 => hQ _ _  (k14.2.2 c16) ((l14 k14.1).2 c16))⟩⟩) (h1.2.2.2.2.1 c2) ((h2 h1.1).2.2.2.1 c2)), (fun c2 => cj_23 (fun r32 s31 k19 l19 => ⟨k19.1, ⟨(fun c21 => hQ _ _  (k19.2.1 c21) ((l19 k19.1).1 c21)), (fun c21 => hQ _ _  (k19.2.2 c21) ((l19 k19.1).2 c21))⟩⟩) (h1.2.2.2.2.2.1 c2) ((h2 h1.1).2.2.2.2.1 c2)), (fun c2 => cj_63 (fun r35 s34 k24 l24 => ⟨k24.1, ⟨(fun c26 => hQ _ _  (k24.2.1 c26) ((l24 k24.1).1 c26)), (fun c26 => hQ _ _  (k24.2.2 c26) ((l24 k24.1).2 c26))⟩⟩) (h1.2.2.2.2.2.2.1 c2) ((h2 h1.1).2.2.2.2.2.1 c2)), (fun c2 => cj_98 (fun z38 s37 k29 l29 => hQ _ _  k29 l29) (h1.2.2.2.2.2.2.2.1 c2) ((h2 h1.1).2.2.2.2.2.2.1 c2)), (fun c2 => cj_100 (fun z40 s39 k31 l31 => hQ _ _  k31 l31) (h1.2.2.2.2.2.2.2.2.1 c2) ((h2 h1.1).2.2.2.2.2.2.2.1 c2)), (fun c2 => cj_100 (fun z42 s41 k33 l33 => hQ _ _  k33 l33) (h1.2.2.2.2.2.2.2.2.2.1 c2) ((h2 h1.1).2.2.2.2.2.2.2.2.1 c2)), (fun c2 => cj_102 (fun r44 s43 k35 l35 => ⟨k35.1, ⟨(fun c37 => hQ _ _  (k35.2.1 c37) ((l35 k35.1).1 c37)), (fun c37 => hQ _ _  (k35.2.2 c37) ((l35 k35.1).2 c37))⟩⟩) (h1.2.2.2.2.2.2.2.2.2.2.1 c2) ((h2 h1.1).2.2.2.2.2.2.2.2.2.1 c2)), (fun c2 => cj_71 (fun z47 s46 k40 l40 => hQ _ _  k40 l40) (h1.2.2.2.2.2.2.2.2.2.2.2 c2) ((h2 h1.1).2.2.2.2.2.2.2.2.2.2 c2))⟩⟩
def fw_103_p15 (Q : Int → lf_Z → Prop) (u2 : Nat) (X15 : Int → lf_Z → Prop) (x3 : Int) (s : lf_Z) : Prop := lf_R x3 → (lf_R (s.1 (35 + 7 * u2) 7) → ((s.1 (35 + 7 * u2) 7 ≤ x3 → (Q (-1) s)) ∧ (¬ (s.1 (35 + 7 * u2) 7 ≤ x3) → ((24 ≤ x3 → (Q (-1) s)) ∧ (¬ (24 ≤ x3) → ((0 ≤ x3 ∧ x3 < 24) → (fw_104 (s.1 (39 + 7 * u2) x3) (s.1 (40 + 7 * u2) x3) (s.1 (41 + 7 * u2) x3) (fun z28 s27 => ((z28 = true → (X15 (x3 + 1) s27)) ∧ (z28 = false → (Q x3 s27)))) s)))))))
theorem cj_103_p15 {X151 X152 X153 : Int → lf_Z → Prop} {Q1 Q2 Q3 : Int → lf_Z → Prop} {u2 : Nat} {x3 : Int} {s : lf_Z} (hX15 : ∀ (v0 : Int) (v1 : lf_Z), X151 v0 v1 → X152 v0 v1 → X153 v0 v1) (hQ : ∀ (r : Int) (s : lf_Z), Q1 r s → Q2 r s → Q3 r s) (h1 : fm_103_p15 Q1 u2 X151 x3 s) (h2 : fw_103_p15 Q2 u2 X152 x3 s) : fm_103_p15 Q3 u2 X153 x3 s := by
  unfold fm_103_p15 at h1 ⊢
  unfold fw_103_p15 at h2
  exact ⟨h1.1, ⟨h1.2.1, ⟨(fun c3 => hQ _ _  (h1.2.2.1 c3) (((h2 h1.1) h1.2.1).1 c3)), (fun c3 => ⟨(fun c5 => hQ _ _  ((h1.2.2.2 c3).1 c5) ((((h2 h1.1) h1.2.1).2 c3).1 c5)), (fun c5 => ⟨((h1.2.2.2 c3).2 c5).1, cj_104 (fun z28 s27 k8 l8 => ⟨(fun c9 => hX15 _ _  (k8.1 c9) (l8.1 c9)), (fun c9 => hQ _ _  (k8.2 c9) (l8.2 c9))⟩) ((h1.2.2.2 c3).2 c5).2 (((((h2 h1.1) h1.2.1).2 c3).2 c5) ((h1.2.2.2 c3).2 c5).1)⟩)⟩)⟩⟩⟩
def fw_103_p15L (Q : Int → lf_Z → Prop) (u2 : Nat) (x3 : Int) (s : lf_Z) : Prop := ∃ X15 : Int → lf_Z → Prop, (∀ (x3 : Int) (s : lf_Z), X15 x3 s → fw_103_p15 Q u2 X15 x3 s) ∧ X15 x3 s
theorem cj_103_p15L {Q1 Q2 Q3 : Int → lf_Z → Prop} {u2 : Nat} {x3 : Int} {s : lf_Z} (hQ : ∀ (r : Int) (s : lf_Z), Q1 r s → Q2 r s → Q3 r s) (h1 : fm_103_p15L Q1 u2 x3 s) (h2 : fw_103_p15L Q2 u2 x3 s) : fm_103_p15L Q3 u2 x3 s := by
  intro X0 hX0
  obtain ⟨Y, hY, hY0⟩ := h2
  exact h1 (fun v0 s => Y v0 s → X0 v0 s) (fun v0 s hb hy => hX0 v0 s (cj_103_p15 (X151 := fun v0 s => Y v0 s → X0 v0 s) (X152 := Y) (X153 := X0) (hX15 := fun v0 s a b => a b) hQ hb (hY v0 s hy))) hY0
def fw_103 (a1 : Int) (Q : Int → lf_Z → Prop) (s : lf_Z) : Prop := fw_62 a1 (fun r23 s21 => ((r23 = none → (Q (-2) s21)) ∧ (∀ t22 : Nat, r23 = some t22 → t22 < 4 → (fw_103_p15L Q t22 0 s21)))) s
theorem cj_103 {Q1 Q2 Q3 : Int → lf_Z → Prop} {a1 : Int} {s : lf_Z} (hQ : ∀ (r : Int) (s : lf_Z), Q1 r s → Q2 r s → Q3 r s) (h1 : fm_103 a1 Q1 s) (h2 : fw_103 a1 Q2 s) : fm_103 a1 Q3 s := by
  unfold fm_103 at h1 ⊢
  unfold fw_103 at h2
  exact cj_62 (fun r23 s21 k1 l1 => ⟨(fun c2 => hQ _ _  (k1.1 c2) (l1.1 c2)), (fun t22 et22 => ⟨(k1.2 t22 et22).1, cj_103_p15L hQ (k1.2 t22 et22).2 (l1.2 t22 et22 (k1.2 t22 et22).1)⟩)⟩) h1 h2
def fw_281 (a1 : Int) (Q : Bool → lf_Z → Prop) (s : lf_Z) : Prop := (0 ≤ a1 + 1 ∧ a1 + 1 < 2820) → ((0 ≤ a1 + 2 ∧ a1 + 2 < 2820) → ((0 ≤ a1 ∧ a1 < 2820) → (lf_R (s.1 98 a1) → ((s.1 98 a1 < 3 ∨ 12 < s.1 98 a1 → (Q true s)) ∧ (s.1 98 a1 = 3 → (fw_182 (s.1 98 (a1 + 1)) (s.1 98 (a1 + 2)) (fun r26 s25 => (lf_R r26 → ((r26 < 0 → (Q false s25)) ∧ (¬ (r26 < 0) → (Q true s25))))) s)) ∧ (s.1 98 a1 = 4 → (fw_184 (s.1 98 (a1 + 1)) (s.1 98 (a1 + 2)) 0 (fun r29 s28 => (lf_R r29 → ((r29 < 0 → (Q false s28)) ∧ (¬ (r29 < 0) → (Q true s28))))) s)) ∧ (s.1 98 a1 = 5 → (fw_184 (s.1 98 (a1 + 1)) (s.1 98 (a1 + 2)) 1 (fun r32 s31 => (lf_R r32 → ((r32 < 0 → (Q false s31)) ∧ (¬ (r32 < 0) → (Q true s31))))) s)) ∧ (s.1 98 a1 = 6 → (fw_190 (s.1 98 (a1 + 1)) 0 0 (s.1 98 (a1 + 2)) (fun r35 s34 => (lf_R r35 → ((r35 < 0 → (Q false s34)) ∧ (¬ (r35 < 0) → (Q true s34))))) s)) ∧ (s.1 98 a1 = 7 → (fw_240 (s.1 98 (a1 + 1)) (s.1 98 (a1 + 2)) (fun r38 s37 => (lf_R r38 → ((r38 < 0 → (Q false s37)) ∧ (¬ (r38 < 0) → (Q true s37))))) s)) ∧ (s.1 98 a1 = 8 → (fw_248 (s.1 98 (a1 + 1)) (s.1 98 (a1 + 2)) (fun z41 s40 => (Q z41 s40)) s)) ∧ (s.1 98 a1 = 9 → (fw_250 (s.1 98 (a1 + 1)) 0 (fun z43 s42 => (Q z43 s42)) s)) ∧ (s.1 98 a1 = 10 → (fw_250 (s.1 98 (a1 + 1)) 1 (fun z45 s44 => (Q z45 s44)) s)) ∧ (s.1 98 a1 = 11 → (fw_253 (s.1 98 (a1 + 1)) (s.1 98 (a1 + 2)) (fun r47 s46 => (lf_R r47 → ((r47 < 0 → (Q false s46)) ∧ (¬ (r47 < 0) → (Q true s46))))) s)) ∧ (s.1 98 a1 = 12 → (fw_258 (s.1 98 (a1 + 1)) (fun z50 s49 => (Q z50 s49)) s))))))
theorem cj_281 {Q1 Q2 Q3 : Bool → lf_Z → Prop} {a1 : Int} {s : lf_Z} (hQ : ∀ (r : Bool) (s : lf_Z), Q1 r s → Q2 r s → Q3 r s) (h1 : fm_281 a1 Q1 s) (h2 : fw_281 a1 Q2 s) : fm_281 a1 Q3 s := by
  unfold fm_281 at h1 ⊢
  unfold fw_281 at h2
  exact ⟨h1.1, ⟨h1.2.1, ⟨h1.2.2.1, ⟨h1.2.2.2.1, ⟨(fun c5 => hQ _ _  (h1.2.2.2.2.1 c5) (((((h2 h1.1) h1.2.1) h1.2.2.1) h1.2.2.2.1).1 c5)), (fun c5 => cj_182 (fun r26 s25 k7 l7 => ⟨k7.1, ⟨(fun c9 => hQ _ _  (k7.2.1 c9) ((l7 k7.1).1 c9)), (fun c9 => hQ _ _  (k7.2.2 c9) ((l7 k7.1).2 c9))⟩⟩) (h1.2.2.2.2.2.1 c5) (((((h2 h1.1) h1.2.1) h1.2.2.1) h1.2.2.2.1).2.1 c5)), (fun c5 => cj_184 (fun r29 s28 k12 l12 => ⟨k12.1, ⟨(fun c14 => hQ _ _  (k12.2.1 c14) ((l12 k12.1).1 c14)), (fun c14 => hQ _ _  (k12.2.2 c14) ((l12 k12.1).2 c14))⟩⟩) (h1.2.2.2.2.2.2.1 c5) (((((h2 h1.1) h1.2.1) h1.2.2.1) h1.2.2.2.1).2.2.1 c5)), (fun c5 => cj_184 (fun r32 s31 k17 l17 => ⟨k17.1, ⟨(fun c19 => hQ _ _  (k17.2.1 c19) ((l17 k17.1).1 c19)), (fun c19 => hQ _ _  (k17.2.2 c19) ((l17 k17.1).2 c19))⟩⟩) (h1.2.2.2.2.2.2.2.1 c5) (((((h2 h1.1) h1.2.1) h1.2.2.1) h1.2.2.2.1).2.2.2.1 c5)), (fun c5 => cj_190 (fun r35 s34 k22 l22 => ⟨k22.1, ⟨(fun c24 => hQ _ _  (k22.2.1 c24) ((l22 k22.1).1 c24)), (fun c24 => hQ _ _  (k22.2.2 c24) ((l22 k22.1).2 c24))⟩⟩) (h1.2.2.2.2.2.2.2.2.1 c5) (((((h2 h1.1) h1.2.1) h1.2.2.1) h1.2.2.2.1).2.2.2.2.1 c5)), (fun c5 => cj_240 (fun r38 s37 k27 l27 => ⟨k27.1, ⟨(fun c29 => hQ _ _  (k27.2.1 c29) ((l27 k27.1).1 c29)), (fun c29 => hQ _ _  (k27.2.2 c29) ((l27 k27.1).2 c29))⟩⟩) (h1.2.2.2.2.2.2.2.2.2.1 c5) (((((h2 h1.1) h1.2.1) h1.2.2.1) h1.2.2.2.1).2.2.2.2.2.1 c5)), (fun c5 => cj_248 (fun z41 s40 k32 l32 => hQ _ _  k32 l32) (h1.2.2.2.2.2.2.2.2.2.2.1 c5) (((((h2 h1.1) h1.2.1) h1.2.2.1) h1.2.2.2.1).2.2.2.2.2.2.1 c5)), (fun c5 => cj_250 (fun z43 s42 k34 l34 => hQ _ _  k34 l34) (h1.2.2.2.2.2.2.2.2.2.2.2.1 c5) (((((h2 h1.1) h1.2.1) h1.2.2.1) h1.2.2.2.1).2.2.2.2.2.2.2.1 c5)), (fun c5 => cj_250 (fun z45 s44 k36 l36 => hQ _ _  k36 l36) (h1.2.2.2.2.2.2.2.2.2.2.2.2.1 c5) (((((h2 h1.1) h1.2.1) h1.2.2.1) h1.2.2.2.1).2.2.2.2.2.2.2.2.1 c5)), (fun c5 => cj_253 (fun r47 s46 k38 l38 => ⟨k38.1, ⟨(fun c40 => hQ _ _  (k38.2.1 c40) ((l38 k38.1).1 c40)), (fun c40 => hQ _ _  (k38.2.2 c40) ((l38 k38.1).2 c40))⟩⟩) (h1.2.2.2.2.2.2.2.2.2.2.2.2.2.1 c5) (((((h2 h1.1) h1.2.1) h1.2.2.1) h1.2.2.2.1).2.2.2.2.2.2.2.2.2.1 c5)), (fun c5 => cj_258 (fun z50 s49 k43 l43 => hQ _ _  k43 l43) (h1.2.2.2.2.2.2.2.2.2.2.2.2.2.2 c5) (((((h2 h1.1) h1.2.1) h1.2.2.1) h1.2.2.2.1).2.2.2.2.2.2.2.2.2.2 c5))⟩⟩⟩⟩⟩
def fw_280_p22 (Q : Int → lf_Z → Prop) (x1 : Int) (X22 : Int → lf_Z → Prop) (x2 : Int) (s : lf_Z) : Prop := (0 ≤ 705 * x1 ∧ 705 * x1 < 2820) → (lf_R x2 → (lf_R (s.1 98 (705 * x1)) → ((s.1 98 (705 * x1) ≤ x2 → (Q (-1) s)) ∧ (¬ (s.1 98 (705 * x1) ≤ x2) → (fw_281 (((705 * x1) + 1) + (4 * x2)) (fun z27 s26 => ((z27 = true → (X22 (x2 + 1) s26)) ∧ (z27 = false → (Q x2 s26)))) s)))))
theorem cj_280_p22 {X221 X222 X223 : Int → lf_Z → Prop} {Q1 Q2 Q3 : Int → lf_Z → Prop} {x1 : Int} {x2 : Int} {s : lf_Z} (hX22 : ∀ (v0 : Int) (v1 : lf_Z), X221 v0 v1 → X222 v0 v1 → X223 v0 v1) (hQ : ∀ (r : Int) (s : lf_Z), Q1 r s → Q2 r s → Q3 r s) (h1 : fm_280_p22 Q1 x1 X221 x2 s) (h2 : fw_280_p22 Q2 x1 X222 x2 s) : fm_280_p22 Q3 x1 X223 x2 s := by
  unfold fm_280_p22 at h1 ⊢
  unfold fw_280_p22 at h2
  exact ⟨h1.1, ⟨h1.2.1, ⟨h1.2.2.1, ⟨(fun c4 => hQ _ _  (h1.2.2.2.1 c4) ((((h2 h1.1) h1.2.1) h1.2.2.1).1 c4)), (fun c4 => cj_281 (fun z27 s26 k6 l6 => ⟨(fun c7 => hX22 _ _  (k6.1 c7) (l6.1 c7)), (fun c7 => hQ _ _  (k6.2 c7) (l6.2 c7))⟩) (h1.2.2.2.2 c4) ((((h2 h1.1) h1.2.1) h1.2.2.1).2 c4))⟩⟩⟩⟩
def fw_280_p22L (Q : Int → lf_Z → Prop) (x1 : Int) (x2 : Int) (s : lf_Z) : Prop := ∃ X22 : Int → lf_Z → Prop, (∀ (x2 : Int) (s : lf_Z), X22 x2 s → fw_280_p22 Q x1 X22 x2 s) ∧ X22 x2 s
theorem cj_280_p22L {Q1 Q2 Q3 : Int → lf_Z → Prop} {x1 : Int} {x2 : Int} {s : lf_Z} (hQ : ∀ (r : Int) (s : lf_Z), Q1 r s → Q2 r s → Q3 r s) (h1 : fm_280_p22L Q1 x1 x2 s) (h2 : fw_280_p22L Q2 x1 x2 s) : fm_280_p22L Q3 x1 x2 s := by
  intro X0 hX0
  obtain ⟨Y, hY, hY0⟩ := h2
  exact h1 (fun v0 s => Y v0 s → X0 v0 s) (fun v0 s hb hy => hX0 v0 s (cj_280_p22 (X221 := fun v0 s => Y v0 s → X0 v0 s) (X222 := Y) (X223 := X0) (hX22 := fun v0 s a b => a b) hQ hb (hY v0 s hy))) hY0
def fw_280 (a1 : Int) (Q : Int → lf_Z → Prop) (s : lf_Z) : Prop := fw_183 a1 0 ((s.1 96 7) - 1) (fun z22 s21 => ((z22 = true → (fw_280_p22L Q a1 0 s21)) ∧ (z22 = false → (Q (-2) s21)))) s
theorem cj_280 {Q1 Q2 Q3 : Int → lf_Z → Prop} {a1 : Int} {s : lf_Z} (hQ : ∀ (r : Int) (s : lf_Z), Q1 r s → Q2 r s → Q3 r s) (h1 : fm_280 a1 Q1 s) (h2 : fw_280 a1 Q2 s) : fm_280 a1 Q3 s := by
  unfold fm_280 at h1 ⊢
  unfold fw_280 at h2
  exact cj_183 (fun z22 s21 k1 l1 => ⟨(fun c2 => cj_280_p22L hQ (k1.1 c2) (l1.1 c2)), (fun c2 => hQ _ _  (k1.2 c2) (l1.2 c2))⟩) h1 h2
def fw_106_p100 (Q : lf_Z → Prop) (y0 : Int) (s : lf_Z) : Prop := fw_99 y0 (fun z28 s27 => ((z28 = false → (Q s27)) ∧ (z28 = true → (lf_R (s27.1 1 0) → ((s27.1 1 0 = 0 → (Q s27)) ∧ (¬ (s27.1 1 0 = 0) → (lf_R (s27.1 15 8) → ((s27.1 1 0) ≠ 0 → ((0 ≤ y0 ∧ y0 < 6) → (Q (lf_up s27.1 20 y0 ((s27.1 15 8).tmod (s27.1 1 0)), s27.2.1, s27.2.2))))))))))) s
theorem cj_106_p100 {Q1 Q2 Q3 : lf_Z → Prop} {y0 : Int} {s : lf_Z} (hQ : ∀ (s : lf_Z), Q1 s → Q2 s → Q3 s) (h1 : fm_106_p100 Q1 y0 s) (h2 : fw_106_p100 Q2 y0 s) : fm_106_p100 Q3 y0 s := by
  unfold fm_106_p100 at h1 ⊢
  unfold fw_106_p100 at h2
  exact cj_99 (fun z28 s27 k1 l1 => ⟨(fun c2 => hQ _  (k1.1 c2) (l1.1 c2)), (fun c2 => ⟨(k1.2 c2).1, ⟨(fun c5 => hQ _  ((k1.2 c2).2.1 c5) (((l1.2 c2) (k1.2 c2).1).1 c5)), (fun c5 => ⟨((k1.2 c2).2.2 c5).1, ⟨((k1.2 c2).2.2 c5).2.1, ⟨((k1.2 c2).2.2 c5).2.2.1, hQ _  ((k1.2 c2).2.2 c5).2.2.2 ((((((l1.2 c2) (k1.2 c2).1).2 c5) ((k1.2 c2).2.2 c5).1) ((k1.2 c2).2.2 c5).2.1) ((k1.2 c2).2.2 c5).2.2.1)⟩⟩⟩)⟩⟩)⟩) h1 h2
def fw_106_p43 (Q : lf_Z → Prop) (y0 : Int) (s : lf_Z) : Prop := fw_89 y0 (fun z36 s35 => ((z36 = false → (Q s35)) ∧ (z36 = true → (fw_101 y0 (fun s37 => (Q s37)) s35)))) s
theorem cj_106_p43 {Q1 Q2 Q3 : lf_Z → Prop} {y0 : Int} {s : lf_Z} (hQ : ∀ (s : lf_Z), Q1 s → Q2 s → Q3 s) (h1 : fm_106_p43 Q1 y0 s) (h2 : fw_106_p43 Q2 y0 s) : fm_106_p43 Q3 y0 s := by
  unfold fm_106_p43 at h1 ⊢
  unfold fw_106_p43 at h2
  exact cj_89 (fun z36 s35 k1 l1 => ⟨(fun c2 => hQ _  (k1.1 c2) (l1.1 c2)), (fun c2 => cj_101 (fun s37 k4 l4 => hQ _  k4 l4) (k1.2 c2) (l1.2 c2))⟩) h1 h2
def fw_106 (Q : lf_Z → Prop) (s : lf_Z) : Prop := lf_R (s.1 15 8) → (lf_R ((s.1 15 8).tmod 5) → (((s.1 15 8).tmod 5 ≠ 0 → (((s.1 15 8).tmod 5 ≠ 1 → (lf_R (s.1 15 7) → ((999 ≤ s.1 15 7 → (Q s)) ∧ (¬ (999 ≤ s.1 15 7) → (fw_72 (fun s24 => (Q s24)) s))))) ∧ (¬ ((s.1 15 8).tmod 5 ≠ 1) → (lf_R (s.1 1 2) → ((s.1 1 2 ≠ 0 → ((s.1 1 2) ≠ 0 → (fw_106_p100 Q ((s.1 15 8).tmod (s.1 1 2)) s))) ∧ (¬ (s.1 1 2 ≠ 0) → (fw_106_p100 Q (-1) s))))))) ∧ (¬ ((s.1 15 8).tmod 5 ≠ 0) → (lf_R (s.1 1 1) → ((s.1 1 1 ≠ 0 → ((s.1 1 1) ≠ 0 → (fw_106_p43 Q ((s.1 15 8).tmod (s.1 1 1)) s))) ∧ (¬ (s.1 1 1 ≠ 0) → (fw_106_p43 Q (-1) s)))))))
theorem cj_106 {Q1 Q2 Q3 : lf_Z → Prop} {s : lf_Z} (hQ : ∀ (s : lf_Z), Q1 s → Q2 s → Q3 s) (h1 : fm_106 Q1 s) (h2 : fw_106 Q2 s) : fm_106 Q3 s := by
  unfold fm_106 at h1 ⊢
  unfold fw_106 at h2
  exact ⟨h1.1, ⟨h1.2.1, ⟨(fun c3 => ⟨(fun c4 => ⟨((h1.2.2.1 c3).1 c4).1, ⟨(fun c6 => hQ _  (((h1.2.2.1 c3).1 c4).2.1 c6) ((((((h2 h1.1) h1.2.1).1 c3).1 c4) ((h1.2.2.1 c3).1 c4).1).1 c6)), (fun c6 => cj_72 (fun s24 k8 l8 => hQ _  k8 l8) (((h1.2.2.1 c3).1 c4).2.2 c6) ((((((h2 h1.1) h1.2.1).1 c3).1 c4) ((h1.2.2.1 c3).1 c4).1).2 c6))⟩⟩), (fun c4 => ⟨((h1.2.2.1 c3).2 c4).1, ⟨(fun c11 => ⟨(((h1.2.2.1 c3).2 c4).2.1 c11).1, cj_106_p100 hQ (((h1.2.2.1 c3).2 c4).2.1 c11).2 (((((((h2 h1.1) h1.2.1).1 c3).2 c4) ((h1.2.2.1 c3).2 c4).1).1 c11) (((h1.2.2.1 c3).2 c4).2.1 c11).1)⟩), (fun c11 => cj_106_p100 hQ (((h1.2.2.1 c3).2 c4).2.2 c11) ((((((h2 h1.1) h1.2.1).1 c3).2 c4) ((h1.2.2.1 c3).2 c4).1).2 c11))⟩⟩)⟩), (fun c3 => ⟨(h1.2.2.2 c3).1, ⟨(fun c16 => ⟨((h1.2.2.2 c3).2.1 c16).1, cj_106_p43 hQ ((h1.2.2.2 c3).2.1 c16).2 ((((((h2 h1.1) h1.2.1).2 c3) (h1.2.2.2 c3).1).1 c16) ((h1.2.2.2 c3).2.1 c16).1)⟩), (fun c16 => cj_106_p43 hQ ((h1.2.2.2 c3).2.2 c16) (((((h2 h1.1) h1.2.1).2 c3) (h1.2.2.2 c3).1).2 c16))⟩⟩)⟩⟩⟩
def fw_105_p66 (Q : Int → lf_Z → Prop) (x2 : Int) (X66 : Int → lf_Z → Prop) (x3 : Int) (s : lf_Z) : Prop := lf_R x3 → (lf_R x2 → ((x2 ≤ x3 → (fw_97 (fun r30 s29 => (Q r30 s29)) s)) ∧ (¬ (x2 ≤ x3) → (fw_106 (fun s31 => (fw_94 (fun s32 => (X66 (x3 + 1) s32)) s31)) s))))
theorem cj_105_p66 {X661 X662 X663 : Int → lf_Z → Prop} {Q1 Q2 Q3 : Int → lf_Z → Prop} {x2 : Int} {x3 : Int} {s : lf_Z} (hX66 : ∀ (v0 : Int) (v1 : lf_Z), X661 v0 v1 → X662 v0 v1 → X663 v0 v1) (hQ : ∀ (r : Int) (s : lf_Z), Q1 r s → Q2 r s → Q3 r s) (h1 : fm_105_p66 Q1 x2 X661 x3 s) (h2 : fw_105_p66 Q2 x2 X662 x3 s) : fm_105_p66 Q3 x2 X663 x3 s := by
  unfold fm_105_p66 at h1 ⊢
  unfold fw_105_p66 at h2
  exact ⟨h1.1, ⟨h1.2.1, ⟨(fun c3 => cj_97 (fun r30 s29 k4 l4 => hQ _ _  k4 l4) (h1.2.2.1 c3) (((h2 h1.1) h1.2.1).1 c3)), (fun c3 => cj_106 (fun s31 k6 l6 => cj_94 (fun s32 k7 l7 => hX66 _ _  k7 l7) k6 l6) (h1.2.2.2 c3) (((h2 h1.1) h1.2.1).2 c3))⟩⟩⟩
def fw_105_p66L (Q : Int → lf_Z → Prop) (x2 : Int) (x3 : Int) (s : lf_Z) : Prop := ∃ X66 : Int → lf_Z → Prop, (∀ (x3 : Int) (s : lf_Z), X66 x3 s → fw_105_p66 Q x2 X66 x3 s) ∧ X66 x3 s
theorem cj_105_p66L {Q1 Q2 Q3 : Int → lf_Z → Prop} {x2 : Int} {x3 : Int} {s : lf_Z} (hQ : ∀ (r : Int) (s : lf_Z), Q1 r s → Q2 r s → Q3 r s) (h1 : fm_105_p66L Q1 x2 x3 s) (h2 : fw_105_p66L Q2 x2 x3 s) : fm_105_p66L Q3 x2 x3 s := by
  intro X0 hX0
  obtain ⟨Y, hY, hY0⟩ := h2
  exact h1 (fun v0 s => Y v0 s → X0 v0 s) (fun v0 s hb hy => hX0 v0 s (cj_105_p66 (X661 := fun v0 s => Y v0 s → X0 v0 s) (X662 := Y) (X663 := X0) (hX66 := fun v0 s a b => a b) hQ hb (hY v0 s hy))) hY0
def fw_105 (a1 : Int) (a2 : Int) (Q : Int → lf_Z → Prop) (s : lf_Z) : Prop := fw_15 a1 0 9999 (fun z22 s21 => ((z22 = false → (Q (-1) s21)) ∧ (z22 = true → (fw_15 a2 1 30 (fun z24 s23 => ((z24 = false → (Q (-1) s23)) ∧ (z24 = true → (lf_R (s23.1 1 1) → ((s23.1 1 1 ≠ 0 → (fw_67 (s23.1 1 2) (fun s26 => (fw_105_p66L Q a2 0 (lf_up s26.1 15 8 ((a1 * 3) + 41), s26.2.1, s26.2.2))) s23)) ∧ (¬ (s23.1 1 1 ≠ 0) → (Q (-1) s23))))))) s21)))) s
theorem cj_105 {Q1 Q2 Q3 : Int → lf_Z → Prop} {a1 : Int} {a2 : Int} {s : lf_Z} (hQ : ∀ (r : Int) (s : lf_Z), Q1 r s → Q2 r s → Q3 r s) (h1 : fm_105 a1 a2 Q1 s) (h2 : fw_105 a1 a2 Q2 s) : fm_105 a1 a2 Q3 s := by
  unfold fm_105 at h1 ⊢
  unfold fw_105 at h2
  exact cj_15 (fun z22 s21 k1 l1 => ⟨(fun c2 => hQ _ _  (k1.1 c2) (l1.1 c2)), (fun c2 => cj_15 (fun z24 s23 k4 l4 => ⟨(fun c5 => hQ _ _  (k4.1 c5) (l4.1 c5)), (fun c5 => ⟨(k4.2 c5).1, ⟨(fun c8 => cj_67 (fun s26 k9 l9 => cj_105_p66L hQ k9 l9) ((k4.2 c5).2.1 c8) (((l4.2 c5) (k4.2 c5).1).1 c8)), (fun c8 => hQ _ _  ((k4.2 c5).2.2 c8) (((l4.2 c5) (k4.2 c5).1).2 c8))⟩⟩)⟩) (k1.2 c2) (l1.2 c2))⟩) h1 h2
def fw_283 (Q : lf_Z → Prop) (s : lf_Z) : Prop := lf_R (s.1 96 6) → (lf_R (s.1 96 1) → ((s.1 96 1) ≠ 0 → (lf_R ((s.1 96 6).tmod 5) → (((s.1 96 6).tmod 5 ≠ 0 ∧ (s.1 96 6).tmod 5 ≠ 1 → (lf_R (s.1 96 3) → ((999 ≤ s.1 96 3 → (Q s)) ∧ (¬ (999 ≤ s.1 96 3) → (fw_260 (fun s26 => (Q s26)) s))))) ∧ ((s.1 96 6).tmod 5 = 0 → (fw_252 ((s.1 96 6).tmod (s.1 96 1)) (fun z28 s27 => ((z28 = true → (Q s27)) ∧ (z28 = false → ((0 ≤ (50 + (4 * ((s.1 96 6).tmod (s.1 96 1)))) + 3 ∧ (50 + (4 * ((s.1 96 6).tmod (s.1 96 1)))) + 3 < 1538) → (Q (lf_up s27.1 96 ((50 + (4 * ((s.1 96 6).tmod (s.1 96 1)))) + 3) (lf_w (1 - (s27.1 96 ((50 + (4 * ((s.1 96 6).tmod (s.1 96 1)))) + 3)))), s27.2.1, s27.2.2)))))) s)) ∧ ((s.1 96 6).tmod 5 = 1 → (lf_R (s.1 96 2) → ((s.1 96 2 ≤ 0 → (Q s)) ∧ (¬ (s.1 96 2 ≤ 0) → ((s.1 96 2) ≠ 0 → (lf_R (s.1 96 0) → ((s.1 96 0) ≠ 0 → (fw_191e ((s.1 96 6).tmod (s.1 96 2)) ((s.1 96 6).tmod (s.1 96 0)) (fun s34 => (Q s34)) s))))))))))))
theorem cj_283 {Q1 Q2 Q3 : lf_Z → Prop} {s : lf_Z} (hQ : ∀ (s : lf_Z), Q1 s → Q2 s → Q3 s) (h1 : fm_283 Q1 s) (h2 : fw_283 Q2 s) : fm_283 Q3 s := by
  unfold fm_283 at h1 ⊢
  unfold fw_283 at h2
  exact ⟨h1.1, ⟨h1.2.1, ⟨h1.2.2.1, ⟨h1.2.2.2.1, ⟨(fun c5 => ⟨(h1.2.2.2.2.1 c5).1, ⟨(fun c7 => hQ _  ((h1.2.2.2.2.1 c5).2.1 c7) (((((((h2 h1.1) h1.2.1) h1.2.2.1) h1.2.2.2.1).1 c5) (h1.2.2.2.2.1 c5).1).1 c7)), (fun c7 => cj_260 (fun s26 k9 l9 => hQ _  k9 l9) ((h1.2.2.2.2.1 c5).2.2 c7) (((((((h2 h1.1) h1.2.1) h1.2.2.1) h1.2.2.2.1).1 c5) (h1.2.2.2.2.1 c5).1).2 c7))⟩⟩), (fun c5 => cj_252 (fun z28 s27 k11 l11 => ⟨(fun c12 => hQ _  (k11.1 c12) (l11.1 c12)), (fun c12 => ⟨(k11.2 c12).1, hQ _  (k11.2 c12).2 ((l11.2 c12) (k11.2 c12).1)⟩)⟩) (h1.2.2.2.2.2.1 c5) (((((h2 h1.1) h1.2.1) h1.2.2.1) h1.2.2.2.1).2.1 c5)), (fun c5 => ⟨(h1.2.2.2.2.2.2 c5).1, ⟨(fun c17 => hQ _  ((h1.2.2.2.2.2.2 c5).2.1 c17) (((((((h2 h1.1) h1.2.1) h1.2.2.1) h1.2.2.2.1).2.2 c5) (h1.2.2.2.2.2.2 c5).1).1 c17)), (fun c17 => ⟨((h1.2.2.2.2.2.2 c5).2.2 c17).1, ⟨((h1.2.2.2.2.2.2 c5).2.2 c17).2.1, ⟨((h1.2.2.2.2.2.2 c5).2.2 c17).2.2.1, cj_191e (fun s34 k22 l22 => hQ _  k22 l22) ((h1.2.2.2.2.2.2 c5).2.2 c17).2.2.2 ((((((((((h2 h1.1) h1.2.1) h1.2.2.1) h1.2.2.2.1).2.2 c5) (h1.2.2.2.2.2.2 c5).1).2 c17) ((h1.2.2.2.2.2.2 c5).2.2 c17).1) ((h1.2.2.2.2.2.2 c5).2.2 c17).2.1) ((h1.2.2.2.2.2.2 c5).2.2 c17).2.2.1)⟩⟩⟩)⟩⟩)⟩⟩⟩⟩⟩
def fw_282_p51 (Q : Int → lf_Z → Prop) (x2 : Int) (X51 : Int → lf_Z → Prop) (x3 : Int) (s : lf_Z) : Prop := lf_R x3 → (lf_R x2 → ((x2 ≤ x3 → (fw_279 (fun r30 s29 => (Q r30 s29)) s)) ∧ (¬ (x2 ≤ x3) → (fw_283 (fun s31 => (fw_276 (fun s32 => (X51 (x3 + 1) s32)) s31)) s))))
theorem cj_282_p51 {X511 X512 X513 : Int → lf_Z → Prop} {Q1 Q2 Q3 : Int → lf_Z → Prop} {x2 : Int} {x3 : Int} {s : lf_Z} (hX51 : ∀ (v0 : Int) (v1 : lf_Z), X511 v0 v1 → X512 v0 v1 → X513 v0 v1) (hQ : ∀ (r : Int) (s : lf_Z), Q1 r s → Q2 r s → Q3 r s) (h1 : fm_282_p51 Q1 x2 X511 x3 s) (h2 : fw_282_p51 Q2 x2 X512 x3 s) : fm_282_p51 Q3 x2 X513 x3 s := by
  unfold fm_282_p51 at h1 ⊢
  unfold fw_282_p51 at h2
  exact ⟨h1.1, ⟨h1.2.1, ⟨(fun c3 => cj_279 (fun r30 s29 k4 l4 => hQ _ _  k4 l4) (h1.2.2.1 c3) (((h2 h1.1) h1.2.1).1 c3)), (fun c3 => cj_283 (fun s31 k6 l6 => cj_276 (fun s32 k7 l7 => hX51 _ _  k7 l7) k6 l6) (h1.2.2.2 c3) (((h2 h1.1) h1.2.1).2 c3))⟩⟩⟩
def fw_282_p51L (Q : Int → lf_Z → Prop) (x2 : Int) (x3 : Int) (s : lf_Z) : Prop := ∃ X51 : Int → lf_Z → Prop, (∀ (x3 : Int) (s : lf_Z), X51 x3 s → fw_282_p51 Q x2 X51 x3 s) ∧ X51 x3 s
theorem cj_282_p51L {Q1 Q2 Q3 : Int → lf_Z → Prop} {x2 : Int} {x3 : Int} {s : lf_Z} (hQ : ∀ (r : Int) (s : lf_Z), Q1 r s → Q2 r s → Q3 r s) (h1 : fm_282_p51L Q1 x2 x3 s) (h2 : fw_282_p51L Q2 x2 x3 s) : fm_282_p51L Q3 x2 x3 s := by
  intro X0 hX0
  obtain ⟨Y, hY, hY0⟩ := h2
  exact h1 (fun v0 s => Y v0 s → X0 v0 s) (fun v0 s hb hy => hX0 v0 s (cj_282_p51 (X511 := fun v0 s => Y v0 s → X0 v0 s) (X512 := Y) (X513 := X0) (hX51 := fun v0 s a b => a b) hQ hb (hY v0 s hy))) hY0
def fw_282 (a1 : Int) (a2 : Int) (Q : Int → lf_Z → Prop) (s : lf_Z) : Prop := fw_183 a1 0 9999 (fun z22 s21 => ((z22 = false → (Q (-1) s21)) ∧ (z22 = true → (fw_183 a2 1 30 (fun z24 s23 => ((z24 = false → (Q (-1) s23)) ∧ (z24 = true → (lf_R (s23.1 96 1) → ((s23.1 96 1 ≠ 0 → (fw_244 (fun s26 => (fw_282_p51L Q a2 0 (lf_up s26.1 96 6 ((a1 * 3) + 41), s26.2.1, s26.2.2))) s23)) ∧ (¬ (s23.1 96 1 ≠ 0) → (Q (-1) s23))))))) s21)))) s
theorem cj_282 {Q1 Q2 Q3 : Int → lf_Z → Prop} {a1 : Int} {a2 : Int} {s : lf_Z} (hQ : ∀ (r : Int) (s : lf_Z), Q1 r s → Q2 r s → Q3 r s) (h1 : fm_282 a1 a2 Q1 s) (h2 : fw_282 a1 a2 Q2 s) : fm_282 a1 a2 Q3 s := by
  unfold fm_282 at h1 ⊢
  unfold fw_282 at h2
  exact cj_183 (fun z22 s21 k1 l1 => ⟨(fun c2 => hQ _ _  (k1.1 c2) (l1.1 c2)), (fun c2 => cj_183 (fun z24 s23 k4 l4 => ⟨(fun c5 => hQ _ _  (k4.1 c5) (l4.1 c5)), (fun c5 => ⟨(k4.2 c5).1, ⟨(fun c8 => cj_244 (fun s26 k9 l9 => cj_282_p51L hQ k9 l9) ((k4.2 c5).2.1 c8) (((l4.2 c5) (k4.2 c5).1).1 c8)), (fun c8 => hQ _ _  ((k4.2 c5).2.2 c8) (((l4.2 c5) (k4.2 c5).1).2 c8))⟩⟩)⟩) (k1.2 c2) (l1.2 c2))⟩) h1 h2
def fw_109_p42 (Q : lf_Z → Prop) (X42 : Int → Int → lf_Z → Prop) (x3 : Int) (x4 : Int) (s : lf_Z) : Prop := lf_R x4 → ((6 ≤ x4 → (((0 : Int) ≤ x3 ∧ (0 : Int) ≤ 0 ∧ (0 : Int) ≤ 12 ∧ (x3 : Int) + 12 ≤ 1170 ∧ (0 : Int) + 12 ≤ 12) → ((0 ≤ x3 + 12 ∧ x3 + 12 < 1170) → ((0 ≤ (x3 + 12) + 1 ∧ (x3 + 12) + 1 < 1170) → ((0 ≤ (x3 + 12) + 2 ∧ (x3 + 12) + 2 < 1170) → (Q (lf_up (lf_up (lf_up (lf_cp s.1 23 21 x3 0 12) 15 6 ((lf_cp s.1 23 21 x3 0 12) 23 (x3 + 12))) 15 7 ((lf_cp s.1 23 21 x3 0 12) 23 ((x3 + 12) + 1))) 15 8 ((lf_cp s.1 23 21 x3 0 12) 23 ((x3 + 12) + 2)), s.2.1, s.2.2))))))) ∧ (¬ (6 ≤ x4) → ((0 ≤ x3 ∧ x3 < 1170) → ((0 ≤ x4 ∧ x4 < 6) → ((0 ≤ x3 + 1 ∧ x3 + 1 < 1170) → (X42 (x3 + 2) (x4 + 1) (lf_up (lf_up s.1 19 x4 (s.1 23 x3)) 20 x4 (s.1 23 (x3 + 1)), s.2.1, s.2.2)))))))
theorem cj_109_p42 {X421 X422 X423 : Int → Int → lf_Z → Prop} {Q1 Q2 Q3 : lf_Z → Prop} {x3 : Int} {x4 : Int} {s : lf_Z} (hX42 : ∀ (v0 : Int) (v1 : Int) (v2 : lf_Z), X421 v0 v1 v2 → X422 v0 v1 v2 → X423 v0 v1 v2) (hQ : ∀ (s : lf_Z), Q1 s → Q2 s → Q3 s) (h1 : fm_109_p42 Q1 X421 x3 x4 s) (h2 : fw_109_p42 Q2 X422 x3 x4 s) : fm_109_p42 Q3 X423 x3 x4 s := by
  unfold fm_109_p42 at h1 ⊢
  unfold fw_109_p42 at h2
  exact ⟨h1.1, ⟨(fun c2 => ⟨(h1.2.1 c2).1, ⟨(h1.2.1 c2).2.1, ⟨(h1.2.1 c2).2.2.1, ⟨(h1.2.1 c2).2.2.2.1, hQ _  (h1.2.1 c2).2.2.2.2 ((((((h2 h1.1).1 c2) (h1.2.1 c2).1) (h1.2.1 c2).2.1) (h1.2.1 c2).2.2.1) (h1.2.1 c2).2.2.2.1)⟩⟩⟩⟩), (fun c2 => ⟨(h1.2.2 c2).1, ⟨(h1.2.2 c2).2.1, ⟨(h1.2.2 c2).2.2.1, hX42 _ _ _  (h1.2.2 c2).2.2.2 (((((h2 h1.1).2 c2) (h1.2.2 c2).1) (h1.2.2 c2).2.1) (h1.2.2 c2).2.2.1)⟩⟩⟩)⟩⟩
def fw_109_p42L (Q : lf_Z → Prop) (x3 : Int) (x4 : Int) (s : lf_Z) : Prop := ∃ X42 : Int → Int → lf_Z → Prop, (∀ (x3 : Int) (x4 : Int) (s : lf_Z), X42 x3 x4 s → fw_109_p42 Q X42 x3 x4 s) ∧ X42 x3 x4 s
theorem cj_109_p42L {Q1 Q2 Q3 : lf_Z → Prop} {x3 : Int} {x4 : Int} {s : lf_Z} (hQ : ∀ (s : lf_Z), Q1 s → Q2 s → Q3 s) (h1 : fm_109_p42L Q1 x3 x4 s) (h2 : fw_109_p42L Q2 x3 x4 s) : fm_109_p42L Q3 x3 x4 s := by
  intro X0 hX0
  obtain ⟨Y, hY, hY0⟩ := h2
  exact h1 (fun v0 v1 s => Y v0 v1 s → X0 v0 v1 s) (fun v0 v1 s hb hy => hX0 v0 v1 s (cj_109_p42 (X421 := fun v0 v1 s => Y v0 v1 s → X0 v0 v1 s) (X422 := Y) (X423 := X0) (hX42 := fun v0 v1 s a b => a b) hQ hb (hY v0 v1 s hy))) hY0
def fw_109_p5 (Q : lf_Z → Prop) (X5 : Int → Int → lf_Z → Prop) (x3 : Int) (x4 : Int) (s : lf_Z) : Prop := lf_R x4 → ((4 ≤ x4 → (fw_109_p42L Q x3 0 s)) ∧ (¬ (4 ≤ x4) → ((0 ≤ x3 ∧ x3 < 1170) → ((0 ≤ x3 + 1 ∧ x3 + 1 < 1170) → ((0 ≤ x3 + 2 ∧ x3 + 2 < 1170) → (fw_69 x4 (s.1 23 x3) (s.1 23 (x3 + 1)) (s.1 23 (x3 + 2)) (fun s33 => (X5 (x3 + 3) (x4 + 1) s33)) s))))))
theorem cj_109_p5 {X51 X52 X53 : Int → Int → lf_Z → Prop} {Q1 Q2 Q3 : lf_Z → Prop} {x3 : Int} {x4 : Int} {s : lf_Z} (hX5 : ∀ (v0 : Int) (v1 : Int) (v2 : lf_Z), X51 v0 v1 v2 → X52 v0 v1 v2 → X53 v0 v1 v2) (hQ : ∀ (s : lf_Z), Q1 s → Q2 s → Q3 s) (h1 : fm_109_p5 Q1 X51 x3 x4 s) (h2 : fw_109_p5 Q2 X52 x3 x4 s) : fm_109_p5 Q3 X53 x3 x4 s := by
  unfold fm_109_p5 at h1 ⊢
  unfold fw_109_p5 at h2
  exact ⟨h1.1, ⟨(fun c2 => cj_109_p42L hQ (h1.2.1 c2) ((h2 h1.1).1 c2)), (fun c2 => ⟨(h1.2.2 c2).1, ⟨(h1.2.2 c2).2.1, ⟨(h1.2.2 c2).2.2.1, cj_69 (fun s33 k7 l7 => hX5 _ _ _  k7 l7) (h1.2.2 c2).2.2.2 (((((h2 h1.1).2 c2) (h1.2.2 c2).1) (h1.2.2 c2).2.1) (h1.2.2 c2).2.2.1)⟩⟩⟩)⟩⟩
def fw_109_p5L (Q : lf_Z → Prop) (x3 : Int) (x4 : Int) (s : lf_Z) : Prop := ∃ X5 : Int → Int → lf_Z → Prop, (∀ (x3 : Int) (x4 : Int) (s : lf_Z), X5 x3 x4 s → fw_109_p5 Q X5 x3 x4 s) ∧ X5 x3 x4 s
theorem cj_109_p5L {Q1 Q2 Q3 : lf_Z → Prop} {x3 : Int} {x4 : Int} {s : lf_Z} (hQ : ∀ (s : lf_Z), Q1 s → Q2 s → Q3 s) (h1 : fm_109_p5L Q1 x3 x4 s) (h2 : fw_109_p5L Q2 x3 x4 s) : fm_109_p5L Q3 x3 x4 s := by
  intro X0 hX0
  obtain ⟨Y, hY, hY0⟩ := h2
  exact h1 (fun v0 v1 s => Y v0 v1 s → X0 v0 v1 s) (fun v0 v1 s hb hy => hX0 v0 v1 s (cj_109_p5 (X51 := fun v0 v1 s => Y v0 v1 s → X0 v0 v1 s) (X52 := Y) (X53 := X0) (hX5 := fun v0 v1 s a b => a b) hQ hb (hY v0 v1 s hy))) hY0
def fw_109 (a2 : Int) (Q : lf_Z → Prop) (s : lf_Z) : Prop := fw_109_p5L Q a2 0 s
theorem cj_109 {Q1 Q2 Q3 : lf_Z → Prop} {a2 : Int} {s : lf_Z} (hQ : ∀ (s : lf_Z), Q1 s → Q2 s → Q3 s) (h1 : fm_109 a2 Q1 s) (h2 : fw_109 a2 Q2 s) : fm_109 a2 Q3 s := by
  unfold fm_109 at h1 ⊢
  unfold fw_109 at h2
  exact cj_109_p5L hQ h1 h2
def fw_108_p34 (Q : Bool → lf_Z → Prop) (X34 : Int → lf_Z → Prop) (x3 : Int) (s : lf_Z) : Prop := lf_R x3 → (lf_R (s.1 1 2) → ((s.1 1 2 ≤ x3 → (lf_R (((s.1 22 2) + 30) - 1) → (Q true (lf_up (lf_up s.1 22 2 ((((s.1 22 2) + 30) - 1).tmod 30)) 22 3 ((s.1 22 3) - 1), s.2.1, s.2.2)))) ∧ (¬ (s.1 1 2 ≤ x3) → ((0 ≤ x3 ∧ x3 < 6) → (X34 (x3 + 1) (lf_up (lf_up s.1 19 x3 (s.1 10 x3)) 20 x3 (-1), s.2.1, s.2.2))))))
theorem cj_108_p34 {X341 X342 X343 : Int → lf_Z → Prop} {Q1 Q2 Q3 : Bool → lf_Z → Prop} {x3 : Int} {s : lf_Z} (hX34 : ∀ (v0 : Int) (v1 : lf_Z), X341 v0 v1 → X342 v0 v1 → X343 v0 v1) (hQ : ∀ (r : Bool) (s : lf_Z), Q1 r s → Q2 r s → Q3 r s) (h1 : fm_108_p34 Q1 X341 x3 s) (h2 : fw_108_p34 Q2 X342 x3 s) : fm_108_p34 Q3 X343 x3 s := by
  unfold fm_108_p34 at h1 ⊢
  unfold fw_108_p34 at h2
  exact ⟨h1.1, ⟨h1.2.1, ⟨(fun c3 => ⟨(h1.2.2.1 c3).1, hQ _ _  (h1.2.2.1 c3).2 ((((h2 h1.1) h1.2.1).1 c3) (h1.2.2.1 c3).1)⟩), (fun c3 => ⟨(h1.2.2.2 c3).1, hX34 _ _  (h1.2.2.2 c3).2 ((((h2 h1.1) h1.2.1).2 c3) (h1.2.2.2 c3).1)⟩)⟩⟩⟩
def fw_108_p34L (Q : Bool → lf_Z → Prop) (x3 : Int) (s : lf_Z) : Prop := ∃ X34 : Int → lf_Z → Prop, (∀ (x3 : Int) (s : lf_Z), X34 x3 s → fw_108_p34 Q X34 x3 s) ∧ X34 x3 s
theorem cj_108_p34L {Q1 Q2 Q3 : Bool → lf_Z → Prop} {x3 : Int} {s : lf_Z} (hQ : ∀ (r : Bool) (s : lf_Z), Q1 r s → Q2 r s → Q3 r s) (h1 : fm_108_p34L Q1 x3 s) (h2 : fw_108_p34L Q2 x3 s) : fm_108_p34L Q3 x3 s := by
  intro X0 hX0
  obtain ⟨Y, hY, hY0⟩ := h2
  exact h1 (fun v0 s => Y v0 s → X0 v0 s) (fun v0 s hb hy => hX0 v0 s (cj_108_p34 (X341 := fun v0 s => Y v0 s → X0 v0 s) (X342 := Y) (X343 := X0) (hX34 := fun v0 s a b => a b) hQ hb (hY v0 s hy))) hY0
def fw_108 (Q : Bool → lf_Z → Prop) (s : lf_Z) : Prop := lf_R (s.1 22 3) → ((s.1 22 3 ≠ 0 → (fw_109 ((s.1 22 2) * 39) (fun s22 => ((0 ≤ s22.1 22 2 ∧ s22.1 22 2 < 30) → (fw_108_p34L Q (s22.1 24 (s22.1 22 2)) s22))) s)) ∧ (¬ (s.1 22 3 ≠ 0) → (Q false s)))
theorem cj_108 {Q1 Q2 Q3 : Bool → lf_Z → Prop} {s : lf_Z} (hQ : ∀ (r : Bool) (s : lf_Z), Q1 r s → Q2 r s → Q3 r s) (h1 : fm_108 Q1 s) (h2 : fw_108 Q2 s) : fm_108 Q3 s := by
  unfold fm_108 at h1 ⊢
  unfold fw_108 at h2
  exact ⟨h1.1, ⟨(fun c2 => cj_109 (fun s22 k3 l3 => ⟨k3.1, cj_108_p34L hQ k3.2 (l3 k3.1)⟩) (h1.2.1 c2) ((h2 h1.1).1 c2)), (fun c2 => hQ _ _  (h1.2.2 c2) ((h2 h1.1).2 c2))⟩⟩
def fw_107 (Q : Int → lf_Z → Prop) (s : lf_Z) : Prop := fw_108 (fun z22 s21 => ((z22 = true → (Q (s21.1 22 3) s21)) ∧ (z22 = false → (Q (-1) s21)))) s
theorem cj_107 {Q1 Q2 Q3 : Int → lf_Z → Prop} {s : lf_Z} (hQ : ∀ (r : Int) (s : lf_Z), Q1 r s → Q2 r s → Q3 r s) (h1 : fm_107 Q1 s) (h2 : fw_107 Q2 s) : fm_107 Q3 s := by
  unfold fm_107 at h1 ⊢
  unfold fw_107 at h2
  exact cj_108 (fun z22 s21 k1 l1 => ⟨(fun c2 => hQ _ _  (k1.1 c2) (l1.1 c2)), (fun c2 => hQ _ _  (k1.2 c2) (l1.2 c2))⟩) h1 h2
def fw_239e (a1 : Int) (Q : Int → lf_Z → Prop) (s : lf_Z) : Prop := (0 ≤ (126 + (6 * a1)) + 5 ∧ (126 + (6 * a1)) + 5 < 1538) → (Q (s.1 96 ((126 + (6 * a1)) + 5)) s)
theorem cj_239e {Q1 Q2 Q3 : Int → lf_Z → Prop} {a1 : Int} {s : lf_Z} (hQ : ∀ (r : Int) (s : lf_Z), Q1 r s → Q2 r s → Q3 r s) (h1 : fm_239e a1 Q1 s) (h2 : fw_239e a1 Q2 s) : fm_239e a1 Q3 s := by
  unfold fm_239e at h1 ⊢
  unfold fw_239e at h2
  exact ⟨h1.1, hQ _ _  h1.2 (h2 h1.1)⟩
def fw_238_p254 (Q : Int → lf_Z → Prop) (x1 : Int) (X254 : Int → lf_Z → Prop) (x2 : Int) (s : lf_Z) : Prop := lf_R x2 → (lf_R (s.1 96 0) → ((s.1 96 0 ≤ x2 → (Q (s.1 96 9) s)) ∧ (¬ (s.1 96 0 ≤ x2) → ((0 ≤ (x1 + 29) + x2 ∧ (x1 + 29) + x2 < 1538) → ((0 ≤ (14 + (3 * x2)) + 2 ∧ (14 + (3 * x2)) + 2 < 1538) → (X254 (x2 + 1) (lf_up s.1 96 ((14 + (3 * x2)) + 2) (s.1 96 ((x1 + 29) + x2)), s.2.1, s.2.2)))))))
theorem cj_238_p254 {X2541 X2542 X2543 : Int → lf_Z → Prop} {Q1 Q2 Q3 : Int → lf_Z → Prop} {x1 : Int} {x2 : Int} {s : lf_Z} (hX254 : ∀ (v0 : Int) (v1 : lf_Z), X2541 v0 v1 → X2542 v0 v1 → X2543 v0 v1) (hQ : ∀ (r : Int) (s : lf_Z), Q1 r s → Q2 r s → Q3 r s) (h1 : fm_238_p254 Q1 x1 X2541 x2 s) (h2 : fw_238_p254 Q2 x1 X2542 x2 s) : fm_238_p254 Q3 x1 X2543 x2 s := by
  unfold fm_238_p254 at h1 ⊢
  unfold fw_238_p254 at h2
  exact ⟨h1.1, ⟨h1.2.1, ⟨(fun c3 => hQ _ _  (h1.2.2.1 c3) (((h2 h1.1) h1.2.1).1 c3)), (fun c3 => ⟨(h1.2.2.2 c3).1, ⟨(h1.2.2.2 c3).2.1, hX254 _ _  (h1.2.2.2 c3).2.2 (((((h2 h1.1) h1.2.1).2 c3) (h1.2.2.2 c3).1) (h1.2.2.2 c3).2.1)⟩⟩)⟩⟩⟩
def fw_238_p254L (Q : Int → lf_Z → Prop) (x1 : Int) (x2 : Int) (s : lf_Z) : Prop := ∃ X254 : Int → lf_Z → Prop, (∀ (x2 : Int) (s : lf_Z), X254 x2 s → fw_238_p254 Q x1 X254 x2 s) ∧ X254 x2 s
theorem cj_238_p254L {Q1 Q2 Q3 : Int → lf_Z → Prop} {x1 : Int} {x2 : Int} {s : lf_Z} (hQ : ∀ (r : Int) (s : lf_Z), Q1 r s → Q2 r s → Q3 r s) (h1 : fm_238_p254L Q1 x1 x2 s) (h2 : fw_238_p254L Q2 x1 x2 s) : fm_238_p254L Q3 x1 x2 s := by
  intro X0 hX0
  obtain ⟨Y, hY, hY0⟩ := h2
  exact h1 (fun v0 s => Y v0 s → X0 v0 s) (fun v0 s hb hy => hX0 v0 s (cj_238_p254 (X2541 := fun v0 s => Y v0 s → X0 v0 s) (X2542 := Y) (X2543 := X0) (hX254 := fun v0 s a b => a b) hQ hb (hY v0 s hy))) hY0
def fw_238_p243 (X165 : Int → lf_Z → Prop) (Q : Int → lf_Z → Prop) (x1 : Int) (x2 : Int) (y1 : Int) (y3 : Int) (s : lf_Z) : Prop := fw_191e y1 y3 (fun s41 => (X165 (x2 + 1) s41)) s
theorem cj_238_p243 {X1651 X1652 X1653 : Int → lf_Z → Prop} {Q1 Q2 Q3 : Int → lf_Z → Prop} {x1 : Int} {x2 : Int} {y1 : Int} {y3 : Int} {s : lf_Z} (hX165 : ∀ (v0 : Int) (v1 : lf_Z), X1651 v0 v1 → X1652 v0 v1 → X1653 v0 v1) (hQ : ∀ (r : Int) (s : lf_Z), Q1 r s → Q2 r s → Q3 r s) (h1 : fm_238_p243 X1651 Q1 x1 x2 y1 y3 s) (h2 : fw_238_p243 X1652 Q2 x1 x2 y1 y3 s) : fm_238_p243 X1653 Q3 x1 x2 y1 y3 s := by
  unfold fm_238_p243 at h1 ⊢
  unfold fw_238_p243 at h2
  exact cj_191e (fun s41 k1 l1 => hX165 _ _  k1 l1) h1 h2
