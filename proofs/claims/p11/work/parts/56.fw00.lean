def fw_15 (a0 : Int) (a1 : Int) (a2 : Int) (Q : Bool → lf_Z → Prop) (s : lf_Z) : Prop := lf_R a0 → (lf_R a1 → ((a0 < a1 → (Q false s)) ∧ (¬ (a0 < a1) → (lf_R a2 → ((a2 < a0 → (Q false s)) ∧ (¬ (a2 < a0) → (Q true s)))))))
theorem cj_15 {Q1 Q2 Q3 : Bool → lf_Z → Prop} {a0 : Int} {a1 : Int} {a2 : Int} {s : lf_Z} (hQ : ∀ (r : Bool) (s : lf_Z), Q1 r s → Q2 r s → Q3 r s) (h1 : fm_15 a0 a1 a2 Q1 s) (h2 : fw_15 a0 a1 a2 Q2 s) : fm_15 a0 a1 a2 Q3 s := by
  unfold fm_15 at h1 ⊢
  unfold fw_15 at h2
  exact ⟨h1.1, ⟨h1.2.1, ⟨(fun c3 => hQ _ _  (h1.2.2.1 c3) (((h2 h1.1) h1.2.1).1 c3)), (fun c3 => ⟨(h1.2.2.2 c3).1, ⟨(fun c6 => hQ _ _  ((h1.2.2.2 c3).2.1 c6) (((((h2 h1.1) h1.2.1).2 c3) (h1.2.2.2 c3).1).1 c6)), (fun c6 => hQ _ _  ((h1.2.2.2 c3).2.2 c6) (((((h2 h1.1) h1.2.1).2 c3) (h1.2.2.2 c3).1).2 c6))⟩⟩)⟩⟩⟩
def fw_183 (a0 : Int) (a1 : Int) (a2 : Int) (Q : Bool → lf_Z → Prop) (s : lf_Z) : Prop := lf_R a0 → (lf_R a1 → ((a0 < a1 → (Q false s)) ∧ (¬ (a0 < a1) → (lf_R a2 → ((a2 < a0 → (Q false s)) ∧ (¬ (a2 < a0) → (Q true s)))))))
theorem cj_183 {Q1 Q2 Q3 : Bool → lf_Z → Prop} {a0 : Int} {a1 : Int} {a2 : Int} {s : lf_Z} (hQ : ∀ (r : Bool) (s : lf_Z), Q1 r s → Q2 r s → Q3 r s) (h1 : fm_183 a0 a1 a2 Q1 s) (h2 : fw_183 a0 a1 a2 Q2 s) : fm_183 a0 a1 a2 Q3 s := by
  unfold fm_183 at h1 ⊢
  unfold fw_183 at h2
  exact ⟨h1.1, ⟨h1.2.1, ⟨(fun c3 => hQ _ _  (h1.2.2.1 c3) (((h2 h1.1) h1.2.1).1 c3)), (fun c3 => ⟨(h1.2.2.2 c3).1, ⟨(fun c6 => hQ _ _  ((h1.2.2.2 c3).2.1 c6) (((((h2 h1.1) h1.2.1).2 c3) (h1.2.2.2 c3).1).1 c6)), (fun c6 => hQ _ _  ((h1.2.2.2 c3).2.2 c6) (((((h2 h1.1) h1.2.1).2 c3) (h1.2.2.2 c3).1).2 c6))⟩⟩)⟩⟩⟩
def fw_26_p3 (Q : lf_Z → Prop) (x1 : Int) (X3 : Int → lf_Z → Prop) (x2 : Int) (s : lf_Z) : Prop := lf_R x2 → ((x2 < 0 → (Q s)) ∧ (¬ (x2 < 0) → (lf_R (s.1 31 1) → ((300 ≤ s.1 31 1 → (Q s)) ∧ (¬ (300 ≤ s.1 31 1) → ((0 ≤ s.1 31 1 ∧ s.1 31 1 < 300) → (X3 (x2 + (-8)) (lf_up (lf_up s.1 32 (s.1 31 1) (lf_and (lf_ushr x1 x2) 255)) 31 1 ((s.1 31 1) + 1), s.2.1, s.2.2))))))))
theorem cj_26_p3 {X31 X32 X33 : Int → lf_Z → Prop} {Q1 Q2 Q3 : lf_Z → Prop} {x1 : Int} {x2 : Int} {s : lf_Z} (hX3 : ∀ (v0 : Int) (v1 : lf_Z), X31 v0 v1 → X32 v0 v1 → X33 v0 v1) (hQ : ∀ (s : lf_Z), Q1 s → Q2 s → Q3 s) (h1 : fm_26_p3 Q1 x1 X31 x2 s) (h2 : fw_26_p3 Q2 x1 X32 x2 s) : fm_26_p3 Q3 x1 X33 x2 s := by
  unfold fm_26_p3 at h1 ⊢
  unfold fw_26_p3 at h2
  exact ⟨h1.1, ⟨(fun c2 => hQ _  (h1.2.1 c2) ((h2 h1.1).1 c2)), (fun c2 => ⟨(h1.2.2 c2).1, ⟨(fun c5 => hQ _  ((h1.2.2 c2).2.1 c5) ((((h2 h1.1).2 c2) (h1.2.2 c2).1).1 c5)), (fun c5 => ⟨((h1.2.2 c2).2.2 c5).1, hX3 _ _  ((h1.2.2 c2).2.2 c5).2 (((((h2 h1.1).2 c2) (h1.2.2 c2).1).2 c5) ((h1.2.2 c2).2.2 c5).1)⟩)⟩⟩)⟩⟩
def fw_26_p3L (Q : lf_Z → Prop) (x1 : Int) (x2 : Int) (s : lf_Z) : Prop := ∃ X3 : Int → lf_Z → Prop, (∀ (x2 : Int) (s : lf_Z), X3 x2 s → fw_26_p3 Q x1 X3 x2 s) ∧ X3 x2 s
theorem cj_26_p3L {Q1 Q2 Q3 : lf_Z → Prop} {x1 : Int} {x2 : Int} {s : lf_Z} (hQ : ∀ (s : lf_Z), Q1 s → Q2 s → Q3 s) (h1 : fm_26_p3L Q1 x1 x2 s) (h2 : fw_26_p3L Q2 x1 x2 s) : fm_26_p3L Q3 x1 x2 s := by
  intro X0 hX0
  obtain ⟨Y, hY, hY0⟩ := h2
  exact h1 (fun v0 s => Y v0 s → X0 v0 s) (fun v0 s hb hy => hX0 v0 s (cj_26_p3 (X31 := fun v0 s => Y v0 s → X0 v0 s) (X32 := Y) (X33 := X0) (hX3 := fun v0 s a b => a b) hQ hb (hY v0 s hy))) hY0
def fw_26 (a1 : Int) (Q : lf_Z → Prop) (s : lf_Z) : Prop := fw_26_p3L Q a1 24 s
theorem cj_26 {Q1 Q2 Q3 : lf_Z → Prop} {a1 : Int} {s : lf_Z} (hQ : ∀ (s : lf_Z), Q1 s → Q2 s → Q3 s) (h1 : fm_26 a1 Q1 s) (h2 : fw_26 a1 Q2 s) : fm_26 a1 Q3 s := by
  unfold fm_26 at h1 ⊢
  unfold fw_26 at h2
  exact cj_26_p3L hQ h1 h2
def fw_25 (a1 : Int) (a2 : Int) (a3 : Int) (a4 : Int) (a5 : Int) (Q : Int → lf_Z → Prop) (s : lf_Z) : Prop := lf_R ((s.1 31 1) + 20) → (((s.1 31 1) + 20 ≤ 300 → (fw_26 a1 (fun s22 => (fw_26 a2 (fun s23 => (fw_26 a3 (fun s24 => (fw_26 a4 (fun s25 => (fw_26 a5 (fun s26 => (Q (s26.1 31 1) s26)) s25)) s24)) s23)) s22)) s)) ∧ (¬ ((s.1 31 1) + 20 ≤ 300) → (Q (-1) s)))
theorem cj_25 {Q1 Q2 Q3 : Int → lf_Z → Prop} {a1 : Int} {a2 : Int} {a3 : Int} {a4 : Int} {a5 : Int} {s : lf_Z} (hQ : ∀ (r : Int) (s : lf_Z), Q1 r s → Q2 r s → Q3 r s) (h1 : fm_25 a1 a2 a3 a4 a5 Q1 s) (h2 : fw_25 a1 a2 a3 a4 a5 Q2 s) : fm_25 a1 a2 a3 a4 a5 Q3 s := by
  unfold fm_25 at h1 ⊢
  unfold fw_25 at h2
  exact ⟨h1.1, ⟨(fun c2 => cj_26 (fun s22 k3 l3 => cj_26 (fun s23 k4 l4 => cj_26 (fun s24 k5 l5 => cj_26 (fun s25 k6 l6 => cj_26 (fun s26 k7 l7 => hQ _ _  k7 l7) k6 l6) k5 l5) k4 l4) k3 l3) (h1.2.1 c2) ((h2 h1.1).1 c2)), (fun c2 => hQ _ _  (h1.2.2 c2) ((h2 h1.1).2 c2))⟩⟩
def fw_193_p3 (Q : lf_Z → Prop) (x1 : Int) (X3 : Int → lf_Z → Prop) (x2 : Int) (s : lf_Z) : Prop := lf_R x2 → ((x2 < 0 → (Q s)) ∧ (¬ (x2 < 0) → ((0 ≤ s.1 95 4 ∧ s.1 95 4 < 300) → (X3 (x2 + (-8)) (lf_up (lf_up s.1 99 (s.1 95 4) (lf_and (lf_shr x1 x2) 255)) 95 4 ((s.1 95 4) + 1), s.2.1, s.2.2)))))
theorem cj_193_p3 {X31 X32 X33 : Int → lf_Z → Prop} {Q1 Q2 Q3 : lf_Z → Prop} {x1 : Int} {x2 : Int} {s : lf_Z} (hX3 : ∀ (v0 : Int) (v1 : lf_Z), X31 v0 v1 → X32 v0 v1 → X33 v0 v1) (hQ : ∀ (s : lf_Z), Q1 s → Q2 s → Q3 s) (h1 : fm_193_p3 Q1 x1 X31 x2 s) (h2 : fw_193_p3 Q2 x1 X32 x2 s) : fm_193_p3 Q3 x1 X33 x2 s := by
  unfold fm_193_p3 at h1 ⊢
  unfold fw_193_p3 at h2
  exact ⟨h1.1, ⟨(fun c2 => hQ _  (h1.2.1 c2) ((h2 h1.1).1 c2)), (fun c2 => ⟨(h1.2.2 c2).1, hX3 _ _  (h1.2.2 c2).2 (((h2 h1.1).2 c2) (h1.2.2 c2).1)⟩)⟩⟩
def fw_193_p3L (Q : lf_Z → Prop) (x1 : Int) (x2 : Int) (s : lf_Z) : Prop := ∃ X3 : Int → lf_Z → Prop, (∀ (x2 : Int) (s : lf_Z), X3 x2 s → fw_193_p3 Q x1 X3 x2 s) ∧ X3 x2 s
theorem cj_193_p3L {Q1 Q2 Q3 : lf_Z → Prop} {x1 : Int} {x2 : Int} {s : lf_Z} (hQ : ∀ (s : lf_Z), Q1 s → Q2 s → Q3 s) (h1 : fm_193_p3L Q1 x1 x2 s) (h2 : fw_193_p3L Q2 x1 x2 s) : fm_193_p3L Q3 x1 x2 s := by
  intro X0 hX0
  obtain ⟨Y, hY, hY0⟩ := h2
  exact h1 (fun v0 s => Y v0 s → X0 v0 s) (fun v0 s hb hy => hX0 v0 s (cj_193_p3 (X31 := fun v0 s => Y v0 s → X0 v0 s) (X32 := Y) (X33 := X0) (hX3 := fun v0 s a b => a b) hQ hb (hY v0 s hy))) hY0
def fw_193 (a1 : Int) (Q : lf_Z → Prop) (s : lf_Z) : Prop := fw_193_p3L Q a1 24 s
theorem cj_193 {Q1 Q2 Q3 : lf_Z → Prop} {a1 : Int} {s : lf_Z} (hQ : ∀ (s : lf_Z), Q1 s → Q2 s → Q3 s) (h1 : fm_193 a1 Q1 s) (h2 : fw_193 a1 Q2 s) : fm_193 a1 Q3 s := by
  unfold fm_193 at h1 ⊢
  unfold fw_193 at h2
  exact cj_193_p3L hQ h1 h2
def fw_192 (a1 : Int) (a2 : Int) (a3 : Int) (a4 : Int) (a5 : Int) (Q : Int → lf_Z → Prop) (s : lf_Z) : Prop := lf_R ((s.1 95 4) + 20) → (((s.1 95 4) + 20 ≤ 300 → (fw_193 a1 (fun s22 => (fw_193 a2 (fun s23 => (fw_193 a3 (fun s24 => (fw_193 a4 (fun s25 => (fw_193 a5 (fun s26 => (Q (s26.1 95 4) s26)) s25)) s24)) s23)) s22)) s)) ∧ (¬ ((s.1 95 4) + 20 ≤ 300) → (Q (-1) s)))
theorem cj_192 {Q1 Q2 Q3 : Int → lf_Z → Prop} {a1 : Int} {a2 : Int} {a3 : Int} {a4 : Int} {a5 : Int} {s : lf_Z} (hQ : ∀ (r : Int) (s : lf_Z), Q1 r s → Q2 r s → Q3 r s) (h1 : fm_192 a1 a2 a3 a4 a5 Q1 s) (h2 : fw_192 a1 a2 a3 a4 a5 Q2 s) : fm_192 a1 a2 a3 a4 a5 Q3 s := by
  unfold fm_192 at h1 ⊢
  unfold fw_192 at h2
  exact ⟨h1.1, ⟨(fun c2 => cj_193 (fun s22 k3 l3 => cj_193 (fun s23 k4 l4 => cj_193 (fun s24 k5 l5 => cj_193 (fun s25 k6 l6 => cj_193 (fun s26 k7 l7 => hQ _ _  k7 l7) k6 l6) k5 l5) k4 l4) k3 l3) (h1.2.1 c2) ((h2 h1.1).1 c2)), (fun c2 => hQ _ _  (h1.2.2 c2) ((h2 h1.1).2 c2))⟩⟩
def fw_27 (a1 : Int) (Q : Int → lf_Z → Prop) (s : lf_Z) : Prop := fw_15 a1 0 (s.1 31 1) (fun z22 s21 => ((z22 = true → (Q a1 (lf_up s21.1 31 1 a1, s21.2.1, s21.2.2))) ∧ (z22 = false → (Q (-1) s21)))) s
theorem cj_27 {Q1 Q2 Q3 : Int → lf_Z → Prop} {a1 : Int} {s : lf_Z} (hQ : ∀ (r : Int) (s : lf_Z), Q1 r s → Q2 r s → Q3 r s) (h1 : fm_27 a1 Q1 s) (h2 : fw_27 a1 Q2 s) : fm_27 a1 Q3 s := by
  unfold fm_27 at h1 ⊢
  unfold fw_27 at h2
  exact cj_15 (fun z22 s21 k1 l1 => ⟨(fun c2 => hQ _ _  (k1.1 c2) (l1.1 c2)), (fun c2 => hQ _ _  (k1.2 c2) (l1.2 c2))⟩) h1 h2
def fw_194 (a1 : Int) (Q : Int → lf_Z → Prop) (s : lf_Z) : Prop := fw_183 a1 0 (s.1 95 4) (fun z22 s21 => ((z22 = true → (Q a1 (lf_up s21.1 95 4 a1, s21.2.1, s21.2.2))) ∧ (z22 = false → (Q (-1) s21)))) s
theorem cj_194 {Q1 Q2 Q3 : Int → lf_Z → Prop} {a1 : Int} {s : lf_Z} (hQ : ∀ (r : Int) (s : lf_Z), Q1 r s → Q2 r s → Q3 r s) (h1 : fm_194 a1 Q1 s) (h2 : fw_194 a1 Q2 s) : fm_194 a1 Q3 s := by
  unfold fm_194 at h1 ⊢
  unfold fw_194 at h2
  exact cj_183 (fun z22 s21 k1 l1 => ⟨(fun c2 => hQ _ _  (k1.1 c2) (l1.1 c2)), (fun c2 => hQ _ _  (k1.2 c2) (l1.2 c2))⟩) h1 h2
def fw_30 (t0 : Nat) (Q : lf_Z → Prop) (s : lf_Z) : Prop := Q (lf_fl (lf_up (lf_up s.1 (35 + 7 * t0) 1 0) (35 + 7 * t0) 7 0) (37 + 7 * t0) 3 (-1), s.2.1, s.2.2)
theorem cj_30 {Q1 Q2 Q3 : lf_Z → Prop} {t0 : Nat} {s : lf_Z} (hQ : ∀ (s : lf_Z), Q1 s → Q2 s → Q3 s) (h1 : fm_30 t0 Q1 s) (h2 : fw_30 t0 Q2 s) : fm_30 t0 Q3 s := by
  unfold fm_30 at h1 ⊢
  unfold fw_30 at h2
  exact hQ _  h1 h2
def fw_32 (a0 : Int) (Q : Bool → lf_Z → Prop) (s : lf_Z) : Prop := lf_R a0 → ((a0 < 48 → (Q false s)) ∧ (¬ (a0 < 48) → ((57 < a0 → (Q false s)) ∧ (¬ (57 < a0) → (Q true s)))))
theorem cj_32 {Q1 Q2 Q3 : Bool → lf_Z → Prop} {a0 : Int} {s : lf_Z} (hQ : ∀ (r : Bool) (s : lf_Z), Q1 r s → Q2 r s → Q3 r s) (h1 : fm_32 a0 Q1 s) (h2 : fw_32 a0 Q2 s) : fm_32 a0 Q3 s := by
  unfold fm_32 at h1 ⊢
  unfold fw_32 at h2
  exact ⟨h1.1, ⟨(fun c2 => hQ _ _  (h1.2.1 c2) ((h2 h1.1).1 c2)), (fun c2 => ⟨(fun c4 => hQ _ _  ((h1.2.2 c2).1 c4) (((h2 h1.1).2 c2).1 c4)), (fun c4 => hQ _ _  ((h1.2.2 c2).2 c4) (((h2 h1.1).2 c2).2 c4))⟩)⟩⟩
def fw_34_p12 (Q : Bool → lf_Z → Prop) (x0 : Int) (s : lf_Z) : Prop := lf_R x0 → ((x0 < 65 → (Q false s)) ∧ (¬ (x0 < 65) → ((90 < x0 → (Q false s)) ∧ (¬ (90 < x0) → (Q true s)))))
theorem cj_34_p12 {Q1 Q2 Q3 : Bool → lf_Z → Prop} {x0 : Int} {s : lf_Z} (hQ : ∀ (r : Bool) (s : lf_Z), Q1 r s → Q2 r s → Q3 r s) (h1 : fm_34_p12 Q1 x0 s) (h2 : fw_34_p12 Q2 x0 s) : fm_34_p12 Q3 x0 s := by
  unfold fm_34_p12 at h1 ⊢
  unfold fw_34_p12 at h2
  exact ⟨h1.1, ⟨(fun c2 => hQ _ _  (h1.2.1 c2) ((h2 h1.1).1 c2)), (fun c2 => ⟨(fun c4 => hQ _ _  ((h1.2.2 c2).1 c4) (((h2 h1.1).2 c2).1 c4)), (fun c4 => hQ _ _  ((h1.2.2 c2).2 c4) (((h2 h1.1).2 c2).2 c4))⟩)⟩⟩
def fw_34 (a0 : Int) (Q : Bool → lf_Z → Prop) (s : lf_Z) : Prop := lf_R a0 → ((a0 < 97 → (fw_34_p12 Q a0 s)) ∧ (¬ (a0 < 97) → ((a0 ≤ 122 → (Q true s)) ∧ (¬ (a0 ≤ 122) → (fw_34_p12 Q a0 s)))))
theorem cj_34 {Q1 Q2 Q3 : Bool → lf_Z → Prop} {a0 : Int} {s : lf_Z} (hQ : ∀ (r : Bool) (s : lf_Z), Q1 r s → Q2 r s → Q3 r s) (h1 : fm_34 a0 Q1 s) (h2 : fw_34 a0 Q2 s) : fm_34 a0 Q3 s := by
  unfold fm_34 at h1 ⊢
  unfold fw_34 at h2
  exact ⟨h1.1, ⟨(fun c2 => cj_34_p12 hQ (h1.2.1 c2) ((h2 h1.1).1 c2)), (fun c2 => ⟨(fun c4 => hQ _ _  ((h1.2.2 c2).1 c4) (((h2 h1.1).2 c2).1 c4)), (fun c4 => cj_34_p12 hQ ((h1.2.2 c2).2 c4) (((h2 h1.1).2 c2).2 c4))⟩)⟩⟩
def fw_37_p311 (Q : lf_Z → Prop) (s : lf_Z) : Prop := Q (lf_up s.1 31 8 1, s.2.1, s.2.2)
theorem cj_37_p311 {Q1 Q2 Q3 : lf_Z → Prop} {s : lf_Z} (hQ : ∀ (s : lf_Z), Q1 s → Q2 s → Q3 s) (h1 : fm_37_p311 Q1 s) (h2 : fw_37_p311 Q2 s) : fm_37_p311 Q3 s := by
  unfold fm_37_p311 at h1 ⊢
  unfold fw_37_p311 at h2
  exact hQ _  h1 h2
def fw_37_p206 (Q : lf_Z → Prop) (y1 : Int) (s : lf_Z) : Prop := Q (lf_up s.1 31 8 y1, s.2.1, s.2.2)
theorem cj_37_p206 {Q1 Q2 Q3 : lf_Z → Prop} {y1 : Int} {s : lf_Z} (hQ : ∀ (s : lf_Z), Q1 s → Q2 s → Q3 s) (h1 : fm_37_p206 Q1 y1 s) (h2 : fw_37_p206 Q2 y1 s) : fm_37_p206 Q3 y1 s := by
  unfold fm_37_p206 at h1 ⊢
  unfold fw_37_p206 at h2
  exact hQ _  h1 h2
def fw_37_p224 (Q : lf_Z → Prop) (y1 : Int) (s : lf_Z) : Prop := Q (lf_up s.1 31 8 y1, s.2.1, s.2.2)
theorem cj_37_p224 {Q1 Q2 Q3 : lf_Z → Prop} {y1 : Int} {s : lf_Z} (hQ : ∀ (s : lf_Z), Q1 s → Q2 s → Q3 s) (h1 : fm_37_p224 Q1 y1 s) (h2 : fw_37_p224 Q2 y1 s) : fm_37_p224 Q3 y1 s := by
  unfold fm_37_p224 at h1 ⊢
  unfold fw_37_p224 at h2
  exact hQ _  h1 h2
def fw_37_p67 (Q : lf_Z → Prop) (x1 : Int) (x2 : Int) (s : lf_Z) : Prop := lf_R x1 → ((x1 < 35 ∨ 62 < x1 → (fw_37_p311 Q s)) ∧ (x1 = 35 → (Q (lf_up s.1 31 8 9, s.2.1, s.2.2))) ∧ (x1 = 36 → (fw_37_p311 Q s)) ∧ (x1 = 37 → (fw_37_p311 Q s)) ∧ (x1 = 38 → (fw_37_p311 Q s)) ∧ (x1 = 39 → (fw_37_p311 Q s)) ∧ (x1 = 40 → (Q (lf_up s.1 31 8 14, s.2.1, s.2.2))) ∧ (x1 = 41 → (Q (lf_up s.1 31 8 15, s.2.1, s.2.2))) ∧ (x1 = 42 → (Q (lf_up s.1 31 8 12, s.2.1, s.2.2))) ∧ (x1 = 43 → (Q (lf_up s.1 31 8 10, s.2.1, s.2.2))) ∧ (x1 = 44 → (fw_37_p311 Q s)) ∧ (x1 = 45 → (Q (lf_up s.1 31 8 11, s.2.1, s.2.2))) ∧ (x1 = 46 → (fw_37_p311 Q s)) ∧ (x1 = 47 → (Q (lf_up s.1 31 8 13, s.2.1, s.2.2))) ∧ (x1 = 48 → (fw_37_p311 Q s)) ∧ (x1 = 49 → (fw_37_p311 Q s)) ∧ (x1 = 50 → (fw_37_p311 Q s)) ∧ (x1 = 51 → (fw_37_p311 Q s)) ∧ (x1 = 52 → (fw_37_p311 Q s)) ∧ (x1 = 53 → (fw_37_p311 Q s)) ∧ (x1 = 54 → (fw_37_p311 Q s)) ∧ (x1 = 55 → (fw_37_p311 Q s)) ∧ (x1 = 56 → (fw_37_p311 Q s)) ∧ (x1 = 57 → (fw_37_p311 Q s)) ∧ (x1 = 58 → (fw_37_p311 Q s)) ∧ (x1 = 59 → (Q (lf_up s.1 31 8 16, s.2.1, s.2.2))) ∧ (x1 = 60 → (lf_R x2 → ((x2 = 0 → (fw_37_p206 Q 4 s)) ∧ (¬ (x2 = 0) → (fw_37_p206 Q 5 s))))) ∧ (x1 = 61 → (Q (lf_up s.1 31 8 8, s.2.1, s.2.2))) ∧ (x1 = 62 → (lf_R x2 → ((x2 = 0 → (fw_37_p224 Q 6 s)) ∧ (¬ (x2 = 0) → (fw_37_p224 Q 7 s))))))
theorem cj_37_p67 {Q1 Q2 Q3 : lf_Z → Prop} {x1 : Int} {x2 : Int} {s : lf_Z} (hQ : ∀ (s : lf_Z), Q1 s → Q2 s → Q3 s) (h1 : fm_37_p67 Q1 x1 x2 s) (h2 : fw_37_p67 Q2 x1 x2 s) : fm_37_p67 Q3 x1 x2 s := by
  unfold fm_37_p67 at h1 ⊢
  unfold fw_37_p67 at h2
  exact ⟨h1.1, ⟨(fun c2 => cj_37_p311 hQ (h1.2.1 c2) ((h2 h1.1).1 c2)), (fun c2 => hQ _  (h1.2.2.1 c2) ((h2 h1.1).2.1 c2)), (fun c2 => cj_37_p311 hQ (h1.2.2.2.1 c2) ((h2 h1.1).2.2.1 c2)), (fun c2 => cj_37_p311 hQ (h1.2.2.2.2.1 c2) ((h2 h1.1).2.2.2.1 c2)), (fun c2 => cj_37_p311 hQ (h1.2.2.2.2.2.1 c2) ((h2 h1.1).2.2.2.2.1 c2)), (fun c2 => cj_37_p311 hQ (h1.2.2.2.2.2.2.1 c2) ((h2 h1.1).2.2.2.2.2.1 c2)), (fun c2 => hQ _  (h1.2.2.2.2.2.2.2.1 c2) ((h2 h1.1).2.2.2.2.2.2.1 c2)), (fun c2 => hQ _  (h1.2.2.2.2.2.2.2.2.1 c2) ((h2 h1.1).2.2.2.2.2.2.2.1 c2)), (fun c2 => hQ _  (h1.2.2.2.2.2.2.2.2.2.1 c2) ((h2 h1.1).2.2.2.2.2.2.2.2.1 c2)), (fun c2 => hQ _  (h1.2.2.2.2.2.2.2.2.2.2.1 c2) ((h2 h1.1).2.2.2.2.2.2.2.2.2.1 c2)), (fun c2 => cj_37_p311 hQ (h1.2.2.2.2.2.2.2.2.2.2.2.1 c2) ((h2 h1.1).2.2.2.2.2.2.2.2.2.2.1 c2)), (fun c2 => hQ _  (h1.2.2.2.2.2.2.2.2.2.2.2.2.1 c2) ((h2 h1.1).2.2.2.2.2.2.2.2.2.2.2.1 c2)), (fun c2 => cj_37_p311 hQ (h1.2.2.2.2.2.2.2.2.2.2.2.2.2.1 c2) ((h2 h1.1).2.2.2.2.2.2.2.2.2.2.2.2.1 c2)), (fun c2 => hQ _  (h1.2.2.2.2.2.2.2.2.2.2.2.2.2.2.1 c2) ((h2 h1.1).2.2.2.2.2.2.2.2.2.2.2.2.2.1 c2)), (fun c2 => cj_37_p311 hQ (h1.2.2.2.2.2.2.2.2.2.2.2.2.2.2.2.1 c2) ((h2 h1.1).2.2.2.2.2.2.2.2.2.2.2.2.2.2.1 c2)), (fun c2 => cj_37_p311 hQ (h1.2.2.2.2.2.2.2.2.2.2.2.2.2.2.2.2.1 c2) ((h2 h1.1).2.2.2.2.2.2.2.2.2.2.2.2.2.2.2.1 c2)), (fun c2 => cj_37_p311 hQ (h1.2.2.2.2.2.2.2.2.2.2.2.2.2.2.2.2.2.1 c2) ((h2 h1.1).2.2.2.2.2.2.2.2.2.2.2.2.2.2.2.2.1 c2)), (fun c2 => cj_37_p311 hQ (h1.2.2.2.2.2.2.2.2.2.2.2.2.2.2.2.2.2.2.1 c2) ((h2 h1.1).2.2.2.2.2.2.2.2.2.2.2.2.2.2.2.2.2.1 c2)), (fun c2 => cj_37_p311 hQ (h1.2.2.2.2.2.2.2.2.2.2.2.2.2.2.2.2.2.2.2.1 c2) ((h2 h1.1).2.2.2.2.2.2.2.2.2.2.2.2.2.2.2.2.2.2.1 c2)), (fun c2 => cj_37_p311 hQ (h1.2.2.2.2.2.2.2.2.2.2.2.2.2.2.2.2.2.2.2.2.1 c2) ((h2 h1.1).2.2.2.2.2.2.2.2.2.2.2.2.2.2.2.2.2.2.2.1 c2)), (fun c2 => cj_37_p311 hQ (h1.2.2.2.2.2.2.2.2.2.2.2.2.2.2.2.2.2.2.2.2.2.1 c2) ((h2 h1.1).2.2.2.2.2.2.2.2.2.2.2.2.2.2.2.2.2.2.2.2.1 c2)), (fun c2 => cj_37_p311 hQ (h1.2.2.2.2.2.2.2.2.2.2.2.2.2.2.2.2.2.2.2.2.2.2.1 c2) ((h2 h1.1).2.2.2.2.2.2.2.2.2.2.2.2.2.2.2.2.2.2.2.2.2.1 c2)), (fun c2 => cj_37_p311 hQ (h1.2.2.2.2.2.2.2.2.2.2.2.2.2.2.2.2.2.2.2.2.2.2.2.1 c2) ((h2 h1.1).2.2.2.2.2.2.2.2.2.2.2.2.2.2.2.2.2.2.2.2.2.2.1 c2)), (fun c2 => cj_37_p311 hQ (h1.2.2.2.2.2.2.2.2.2.2.2.2.2.2.2.2.2.2.2.2.2.2.2.2.1 c2) ((h2 h1.1).2.2.2.2.2.2.2.2.2.2.2.2.2.2.2.2.2.2.2.2.2.2.2.1 c2)), (fun c2 => cj_37_p311 hQ (h1.2.2.2.2.2.2.2.2.2.2.2.2.2.2.2.2.2.2.2.2.2.2.2.2.2.1 c2) ((h2 h1.1).2.2.2.2.2.2.2.2.2.2.2.2.2.2.2.2.2.2.2.2.2.2.2.2.1 c2)), (fun c2 => hQ _  (h1.2.2.2.2.2.2.2.2.2.2.2.2.2.2.2.2.2.2.2.2.2.2.2.2.2.2.1 c2) ((h2 h1.1).2.2.2.2.2.2.2.2.2.2.2.2.2.2.2.2.2.2.2.2.2.2.2.2.2.1 c2)), (fun c2 => ⟨(h1.2.2.2.2.2.2.2.2.2.2.2.2.2.2.2.2.2.2.2.2.2.2.2.2.2.2.2.1 c2).1, ⟨(fun c30 => cj_37_p206 hQ ((h1.2.2.2.2.2.2.2.2.2.2.2.2.2.2.2.2.2.2.2.2.2.2.2.2.2.2.2.1 c2).2.1 c30) ((((h2 h1.1).2.2.2.2.2.2.2.2.2.2.2.2.2.2.2.2.2.2.2.2.2.2.2.2.2.2.1 c2) (h1.2.2.2.2.2.2.2.2.2.2.2.2.2.2.2.2.2.2.2.2.2.2.2.2.2.2.2.1 c2).1).1 c30)), (fun c30 => cj_37_p206 hQ ((h1.2.2.2.2.2.2.2.2.2.2.2.2.2.2.2.2.2.2.2.2.2.2.2.2.2.2.2.1 c2).2.2 c30) ((((h2 h1.1).2.2.2.2.2.2.2.2.2.2.2.2.2.2.2.2.2.2.2.2.2.2.2.2.2.2.1 c2) (h1.2.2.2.2.2.2.2.2.2.2.2.2.2.2.2.2.2.2.2.2.2.2.2.2.2.2.2.1 c2).1).2 c30))⟩⟩), (fun c2 => hQ _  (h1.2.2.2.2.2.2.2.2.2.2.2.2.2.2.2.2.2.2.2.2.2.2.2.2.2.2.2.2.1 c2) ((h2 h1.1).2.2.2.2.2.2.2.2.2.2.2.2.2.2.2.2.2.2.2.2.2.2.2.2.2.2.2.1 c2)), (fun c2 => ⟨(h1.2.2.2.2.2.2.2.2.2.2.2.2.2.2.2.2.2.2.2.2.2.2.2.2.2.2.2.2.2 c2).1, ⟨(fun c35 => cj_37_p224 hQ ((h1.2.2.2.2.2.2.2.2.2.2.2.2.2.2.2.2.2.2.2.2.2.2.2.2.2.2.2.2.2 c2).2.1 c35) ((((h2 h1.1).2.2.2.2.2.2.2.2.2.2.2.2.2.2.2.2.2.2.2.2.2.2.2.2.2.2.2.2 c2) (h1.2.2.2.2.2.2.2.2.2.2.2.2.2.2.2.2.2.2.2.2.2.2.2.2.2.2.2.2.2 c2).1).1 c35)), (fun c35 => cj_37_p224 hQ ((h1.2.2.2.2.2.2.2.2.2.2.2.2.2.2.2.2.2.2.2.2.2.2.2.2.2.2.2.2.2 c2).2.2 c35) ((((h2 h1.1).2.2.2.2.2.2.2.2.2.2.2.2.2.2.2.2.2.2.2.2.2.2.2.2.2.2.2.2 c2) (h1.2.2.2.2.2.2.2.2.2.2.2.2.2.2.2.2.2.2.2.2.2.2.2.2.2.2.2.2.2 c2).1).2 c35))⟩⟩)⟩⟩
def fw_37_p52 (Q : lf_Z → Prop) (x1 : Int) (y0 : Int) (s : lf_Z) : Prop := lf_R y0 → ((y0 = 0 → (fw_37_p67 Q x1 y0 s)) ∧ (¬ (y0 = 0) → (fw_37_p67 Q x1 y0 (lf_up s.1 31 7 ((s.1 31 7) + 1), s.2.1, s.2.2))))
theorem cj_37_p52 {Q1 Q2 Q3 : lf_Z → Prop} {x1 : Int} {y0 : Int} {s : lf_Z} (hQ : ∀ (s : lf_Z), Q1 s → Q2 s → Q3 s) (h1 : fm_37_p52 Q1 x1 y0 s) (h2 : fw_37_p52 Q2 x1 y0 s) : fm_37_p52 Q3 x1 y0 s := by
  unfold fm_37_p52 at h1 ⊢
  unfold fw_37_p52 at h2
  exact ⟨h1.1, ⟨(fun c2 => cj_37_p67 hQ (h1.2.1 c2) ((h2 h1.1).1 c2)), (fun c2 => cj_37_p67 hQ (h1.2.2 c2) ((h2 h1.1).2 c2))⟩⟩
def fw_37_p51 (Q : lf_Z → Prop) (x1 : Int) (s : lf_Z) : Prop := fw_37_p52 Q x1 0 s
theorem cj_37_p51 {Q1 Q2 Q3 : lf_Z → Prop} {x1 : Int} {s : lf_Z} (hQ : ∀ (s : lf_Z), Q1 s → Q2 s → Q3 s) (h1 : fm_37_p51 Q1 x1 s) (h2 : fw_37_p51 Q2 x1 s) : fm_37_p51 Q3 x1 s := by
  unfold fm_37_p51 at h1 ⊢
  unfold fw_37_p51 at h2
  exact cj_37_p52 hQ h1 h2
def fw_37_p47 (Q : lf_Z → Prop) (x1 : Int) (s : lf_Z) : Prop := fw_37_p52 Q x1 1 s
theorem cj_37_p47 {Q1 Q2 Q3 : lf_Z → Prop} {x1 : Int} {s : lf_Z} (hQ : ∀ (s : lf_Z), Q1 s → Q2 s → Q3 s) (h1 : fm_37_p47 Q1 x1 s) (h2 : fw_37_p47 Q2 x1 s) : fm_37_p47 Q3 x1 s := by
  unfold fm_37_p47 at h1 ⊢
  unfold fw_37_p47 at h2
  exact cj_37_p52 hQ h1 h2
def fw_37 (a1 : Int) (Q : lf_Z → Prop) (s : lf_Z) : Prop := lf_R ((s.1 31 7) + 1) → (lf_R (s.1 31 1) → ((s.1 31 1 ≤ (s.1 31 7) + 1 → (fw_37_p51 Q a1 (lf_up s.1 31 7 ((s.1 31 7) + 1), s.2.1, s.2.2))) ∧ (¬ (s.1 31 1 ≤ (s.1 31 7) + 1) → ((0 ≤ (s.1 31 7) + 1 ∧ (s.1 31 7) + 1 < 300) → (lf_R (s.1 32 ((s.1 31 7) + 1)) → ((s.1 32 ((s.1 31 7) + 1) ≠ 61 → (fw_37_p51 Q a1 (lf_up s.1 31 7 ((s.1 31 7) + 1), s.2.1, s.2.2))) ∧ (¬ (s.1 32 ((s.1 31 7) + 1) ≠ 61) → (lf_R a1 → ((a1 = 60 → (fw_37_p47 Q a1 (lf_up s.1 31 7 ((s.1 31 7) + 1), s.2.1, s.2.2))) ∧ (¬ (a1 = 60) → ((a1 ≠ 62 → (fw_37_p51 Q a1 (lf_up s.1 31 7 ((s.1 31 7) + 1), s.2.1, s.2.2))) ∧ (¬ (a1 ≠ 62) → (fw_37_p47 Q a1 (lf_up s.1 31 7 ((s.1 31 7) + 1), s.2.1, s.2.2))))))))))))))
theorem cj_37 {Q1 Q2 Q3 : lf_Z → Prop} {a1 : Int} {s : lf_Z} (hQ : ∀ (s : lf_Z), Q1 s → Q2 s → Q3 s) (h1 : fm_37 a1 Q1 s) (h2 : fw_37 a1 Q2 s) : fm_37 a1 Q3 s := by
  unfold fm_37 at h1 ⊢
  unfold fw_37 at h2
  exact ⟨h1.1, ⟨h1.2.1, ⟨(fun c3 => cj_37_p51 hQ (h1.2.2.1 c3) (((h2 h1.1) h1.2.1).1 c3)), (fun c3 => ⟨(h1.2.2.2 c3).1, ⟨(h1.2.2.2 c3).2.1, ⟨(fun c7 => cj_37_p51 hQ ((h1.2.2.2 c3).2.2.1 c7) ((((((h2 h1.1) h1.2.1).2 c3) (h1.2.2.2 c3).1) (h1.2.2.2 c3).2.1).1 c7)), (fun c7 => ⟨((h1.2.2.2 c3).2.2.2 c7).1, ⟨(fun c10 => cj_37_p47 hQ (((h1.2.2.2 c3).2.2.2 c7).2.1 c10) ((((((((h2 h1.1) h1.2.1).2 c3) (h1.2.2.2 c3).1) (h1.2.2.2 c3).2.1).2 c7) ((h1.2.2.2 c3).2.2.2 c7).1).1 c10)), (fun c10 => ⟨(fun c12 => cj_37_p51 hQ ((((h1.2.2.2 c3).2.2.2 c7).2.2 c10).1 c12) (((((((((h2 h1.1) h1.2.1).2 c3) (h1.2.2.2 c3).1) (h1.2.2.2 c3).2.1).2 c7) ((h1.2.2.2 c3).2.2.2 c7).1).2 c10).1 c12)), (fun c12 => cj_37_p47 hQ ((((h1.2.2.2 c3).2.2.2 c7).2.2 c10).2 c12) (((((((((h2 h1.1) h1.2.1).2 c3) (h1.2.2.2 c3).1) (h1.2.2.2 c3).2.1).2 c7) ((h1.2.2.2 c3).2.2.2 c7).1).2 c10).2 c12))⟩)⟩⟩)⟩⟩⟩)⟩⟩⟩
def fw_36_p98 (X13 : Int → Int → Int → Int → lf_Z → Prop) (Q : Int → lf_Z → Prop) (x1 : Int) (x2 : Int) (x3 : Int) (x4 : Int) (s : lf_Z) : Prop := X13 x1 x2 x3 (x4 + 1) s
theorem cj_36_p98 {X131 X132 X133 : Int → Int → Int → Int → lf_Z → Prop} {Q1 Q2 Q3 : Int → lf_Z → Prop} {x1 : Int} {x2 : Int} {x3 : Int} {x4 : Int} {s : lf_Z} (hX13 : ∀ (v0 : Int) (v1 : Int) (v2 : Int) (v3 : Int) (v4 : lf_Z), X131 v0 v1 v2 v3 v4 → X132 v0 v1 v2 v3 v4 → X133 v0 v1 v2 v3 v4) (hQ : ∀ (r : Int) (s : lf_Z), Q1 r s → Q2 r s → Q3 r s) (h1 : fm_36_p98 X131 Q1 x1 x2 x3 x4 s) (h2 : fw_36_p98 X132 Q2 x1 x2 x3 x4 s) : fm_36_p98 X133 Q3 x1 x2 x3 x4 s := by
  unfold fm_36_p98 at h1 ⊢
  unfold fw_36_p98 at h2
  exact hX13 _ _ _ _ _  h1 h2
def fw_36_p88 (X13 : Int → Int → Int → Int → lf_Z → Prop) (Q : Int → lf_Z → Prop) (x1 : Int) (x4 : Int) (s : lf_Z) : Prop := fw_36_p98 X13 Q (x1 + 1) (s.1 31 9) 1 x4 s
theorem cj_36_p88 {X131 X132 X133 : Int → Int → Int → Int → lf_Z → Prop} {Q1 Q2 Q3 : Int → lf_Z → Prop} {x1 : Int} {x4 : Int} {s : lf_Z} (hX13 : ∀ (v0 : Int) (v1 : Int) (v2 : Int) (v3 : Int) (v4 : lf_Z), X131 v0 v1 v2 v3 v4 → X132 v0 v1 v2 v3 v4 → X133 v0 v1 v2 v3 v4) (hQ : ∀ (r : Int) (s : lf_Z), Q1 r s → Q2 r s → Q3 r s) (h1 : fm_36_p88 X131 Q1 x1 x4 s) (h2 : fw_36_p88 X132 Q2 x1 x4 s) : fm_36_p88 X133 Q3 x1 x4 s := by
  unfold fm_36_p88 at h1 ⊢
  unfold fw_36_p88 at h2
  exact cj_36_p98 hX13 hQ h1 h2
def fw_36_p67 (X13 : Int → Int → Int → Int → lf_Z → Prop) (Q : Int → lf_Z → Prop) (x1 : Int) (x2 : Int) (x4 : Int) (y0 : Int) (s : lf_Z) : Prop := fw_36_p98 X13 Q x1 (x2 + 1) y0 x4 s
theorem cj_36_p67 {X131 X132 X133 : Int → Int → Int → Int → lf_Z → Prop} {Q1 Q2 Q3 : Int → lf_Z → Prop} {x1 : Int} {x2 : Int} {x4 : Int} {y0 : Int} {s : lf_Z} (hX13 : ∀ (v0 : Int) (v1 : Int) (v2 : Int) (v3 : Int) (v4 : lf_Z), X131 v0 v1 v2 v3 v4 → X132 v0 v1 v2 v3 v4 → X133 v0 v1 v2 v3 v4) (hQ : ∀ (r : Int) (s : lf_Z), Q1 r s → Q2 r s → Q3 r s) (h1 : fm_36_p67 X131 Q1 x1 x2 x4 y0 s) (h2 : fw_36_p67 X132 Q2 x1 x2 x4 y0 s) : fm_36_p67 X133 Q3 x1 x2 x4 y0 s := by
  unfold fm_36_p67 at h1 ⊢
  unfold fw_36_p67 at h2
  exact cj_36_p98 hX13 hQ h1 h2
def fw_36_p66 (X13 : Int → Int → Int → Int → lf_Z → Prop) (Q : Int → lf_Z → Prop) (x1 : Int) (x2 : Int) (x4 : Int) (s : lf_Z) : Prop := fw_36_p67 X13 Q x1 x2 x4 0 s
theorem cj_36_p66 {X131 X132 X133 : Int → Int → Int → Int → lf_Z → Prop} {Q1 Q2 Q3 : Int → lf_Z → Prop} {x1 : Int} {x2 : Int} {x4 : Int} {s : lf_Z} (hX13 : ∀ (v0 : Int) (v1 : Int) (v2 : Int) (v3 : Int) (v4 : lf_Z), X131 v0 v1 v2 v3 v4 → X132 v0 v1 v2 v3 v4 → X133 v0 v1 v2 v3 v4) (hQ : ∀ (r : Int) (s : lf_Z), Q1 r s → Q2 r s → Q3 r s) (h1 : fm_36_p66 X131 Q1 x1 x2 x4 s) (h2 : fw_36_p66 X132 Q2 x1 x2 x4 s) : fm_36_p66 X133 Q3 x1 x2 x4 s := by
  unfold fm_36_p66 at h1 ⊢
  unfold fw_36_p66 at h2
  exact cj_36_p67 hX13 hQ h1 h2
def fw_36_p13 (Q : Int → lf_Z → Prop) (X13 : Int → Int → Int → Int → lf_Z → Prop) (x1 : Int) (x2 : Int) (x3 : Int) (x4 : Int) (s : lf_Z) : Prop := lf_R x4 → ((180 ≤ x4 → (Q 1 s)) ∧ (¬ (180 ≤ x4) → ((0 ≤ x4 ∧ x4 < 180) → (((ps_byt.getD (x4).toNat 0).toInt = 32 → (lf_R x3 → ((x3 = 0 → (fw_36_p88 X13 Q x1 x4 s)) ∧ (¬ (x3 = 0) → (lf_R x2 → (lf_R (s.1 31 7) → ((x2 ≠ s.1 31 7 → (fw_36_p88 X13 Q x1 x4 s)) ∧ (¬ (x2 ≠ s.1 31 7) → (Q x1 s))))))))) ∧ (¬ ((ps_byt.getD (x4).toNat 0).toInt = 32) → (lf_R x3 → ((x3 = 0 → (fw_36_p66 X13 Q x1 x2 x4 s)) ∧ (¬ (x3 = 0) → (lf_R x2 → (lf_R (s.1 31 7) → ((s.1 31 7 ≤ x2 → (fw_36_p66 X13 Q x1 x2 x4 s)) ∧ (¬ (s.1 31 7 ≤ x2) → ((0 ≤ x2 ∧ x2 < 300) → (lf_R (s.1 32 x2) → ((s.1 32 x2 ≠ (ps_byt.getD (x4).toNat 0).toInt → (fw_36_p66 X13 Q x1 x2 x4 s)) ∧ (¬ (s.1 32 x2 ≠ (ps_byt.getD (x4).toNat 0).toInt) → (fw_36_p67 X13 Q x1 x2 x4 1 s)))))))))))))))))
theorem cj_36_p13 {X131 X132 X133 : Int → Int → Int → Int → lf_Z → Prop} {Q1 Q2 Q3 : Int → lf_Z → Prop} {x1 : Int} {x2 : Int} {x3 : Int} {x4 : Int} {s : lf_Z} (hX13 : ∀ (v0 : Int) (v1 : Int) (v2 : Int) (v3 : Int) (v4 : lf_Z), X131 v0 v1 v2 v3 v4 → X132 v0 v1 v2 v3 v4 → X133 v0 v1 v2 v3 v4) (hQ : ∀ (r : Int) (s : lf_Z), Q1 r s → Q2 r s → Q3 r s) (h1 : fm_36_p13 Q1 X131 x1 x2 x3 x4 s) (h2 : fw_36_p13 Q2 X132 x1 x2 x3 x4 s) : fm_36_p13 Q3 X133 x1 x2 x3 x4 s := by
  unfold fm_36_p13 at h1 ⊢
  unfold fw_36_p13 at h2
  exact ⟨h1.1, ⟨(fun c2 => hQ _ _  (h1.2.1 c2) ((h2 h1.1).1 c2)), (fun c2 => ⟨(h1.2.2 c2).1, ⟨(fun c5 => ⟨((h1.2.2 c2).2.1 c5).1, ⟨(fun c7 => cj_36_p88 hX13 hQ (((h1.2.2 c2).2.1 c5).2.1 c7) ((((((h2 h1.1).2 c2) (h1.2.2 c2).1).1 c5) ((h1.2.2 c2).2.1 c5).1).1 c7)), (fun c7 => ⟨(((h1.2.2 c2).2.1 c5).2.2 c7).1, ⟨(((h1.2.2 c2).2.1 c5).2.2 c7).2.1, ⟨(fun c11 => cj_36_p88 hX13 hQ ((((h1.2.2 c2).2.1 c5).2.2 c7).2.2.1 c11) (((((((((h2 h1.1).2 c2) (h1.2.2 c2).1).1 c5) ((h1.2.2 c2).2.1 c5).1).2 c7) (((h1.2.2 c2).2.1 c5).2.2 c7).1) (((h1.2.2 c2).2.1 c5).2.2 c7).2.1).1 c11)), (fun c11 => hQ _ _  ((((h1.2.2 c2).2.1 c5).2.2 c7).2.2.2 c11) (((((((((h2 h1.1).2 c2) (h1.2.2 c2).1).1 c5) ((h1.2.2 c2).2.1 c5).1).2 c7) (((h1.2.2 c2).2.1 c5).2.2 c7).1) (((h1.2.2 c2).2.1 c5).2.2 c7).2.1).2 c11))⟩⟩⟩)⟩⟩), (fun c5 => ⟨((h1.2.2 c2).2.2 c5).1, ⟨(fun c15 => cj_36_p66 hX13 hQ (((h1.2.2 c2).2.2 c5).2.1 c15) ((((((h2 h1.1).2 c2) (h1.2.2 c2).1).2 c5) ((h1.2.2 c2).2.2 c5).1).1 c15)), (fun c15 => ⟨(((h1.2.2 c2).2.2 c5).2.2 c15).1, ⟨(((h1.2.2 c2).2.2 c5).2.2 c15).2.1, ⟨(fun c19 => cj_36_p66 hX13 hQ ((((h1.2.2 c2).2.2 c5).2.2 c15).2.2.1 c19) (((((((((h2 h1.1).2 c2) (h1.2.2 c2).1).2 c5) ((h1.2.2 c2).2.2 c5).1).2 c15) (((h1.2.2 c2).2.2 c5).2.2 c15).1) (((h1.2.2 c2).2.2 c5).2.2 c15).2.1).1 c19)), (fun c19 => ⟨((((h1.2.2 c2).2.2 c5).2.2 c15).2.2.2 c19).1, ⟨((((h1.2.2 c2).2.2 c5).2.2 c15).2.2.2 c19).2.1, ⟨(fun c23 => cj_36_p66 hX13 hQ (((((h1.2.2 c2).2.2 c5).2.2 c15).2.2.2 c19).2.2.1 c23) ((((((((((((h2 h1.1).2 c2) (h1.2.2 c2).1).2 c5) ((h1.2.2 c2).2.2 c5).1).2 c15) (((h1.2.2 c2).2.2 c5).2.2 c15).1) (((h1.2.2 c2).2.2 c5).2.2 c15).2.1).2 c19) ((((h1.2.2 c2).2.2 c5).2.2 c15).2.2.2 c19).1) ((((h1.2.2 c2).2.2 c5).2.2 c15).2.2.2 c19).2.1).1 c23)), (fun c23 => cj_36_p67 hX13 hQ (((((h1.2.2 c2).2.2 c5).2.2 c15).2.2.2 c19).2.2.2 c23) ((((((((((((h2 h1.1).2 c2) (h1.2.2 c2).1).2 c5) ((h1.2.2 c2).2.2 c5).1).2 c15) (((h1.2.2 c2).2.2 c5).2.2 c15).1) (((h1.2.2 c2).2.2 c5).2.2 c15).2.1).2 c19) ((((h1.2.2 c2).2.2 c5).2.2 c15).2.2.2 c19).1) ((((h1.2.2 c2).2.2 c5).2.2 c15).2.2.2 c19).2.1).2 c23))⟩⟩⟩)⟩⟩⟩)⟩⟩)⟩⟩)⟩⟩
def fw_36_p13L (Q : Int → lf_Z → Prop) (x1 : Int) (x2 : Int) (x3 : Int) (x4 : Int) (s : lf_Z) : Prop := ∃ X13 : Int → Int → Int → Int → lf_Z → Prop, (∀ (x1 : Int) (x2 : Int) (x3 : Int) (x4 : Int) (s : lf_Z), X13 x1 x2 x3 x4 s → fw_36_p13 Q X13 x1 x2 x3 x4 s) ∧ X13 x1 x2 x3 x4 s
theorem cj_36_p13L {Q1 Q2 Q3 : Int → lf_Z → Prop} {x1 : Int} {x2 : Int} {x3 : Int} {x4 : Int} {s : lf_Z} (hQ : ∀ (r : Int) (s : lf_Z), Q1 r s → Q2 r s → Q3 r s) (h1 : fm_36_p13L Q1 x1 x2 x3 x4 s) (h2 : fw_36_p13L Q2 x1 x2 x3 x4 s) : fm_36_p13L Q3 x1 x2 x3 x4 s := by
  intro X0 hX0
  obtain ⟨Y, hY, hY0⟩ := h2
  exact h1 (fun v0 v1 v2 v3 s => Y v0 v1 v2 v3 s → X0 v0 v1 v2 v3 s) (fun v0 v1 v2 v3 s hb hy => hX0 v0 v1 v2 v3 s (cj_36_p13 (X131 := fun v0 v1 v2 v3 s => Y v0 v1 v2 v3 s → X0 v0 v1 v2 v3 s) (X132 := Y) (X133 := X0) (hX13 := fun v0 v1 v2 v3 s a b => a b) hQ hb (hY v0 v1 v2 v3 s hy))) hY0
def fw_36 (Q : Int → lf_Z → Prop) (s : lf_Z) : Prop := fw_36_p13L Q 20 (s.1 31 9) 1 0 s
theorem cj_36 {Q1 Q2 Q3 : Int → lf_Z → Prop} {s : lf_Z} (hQ : ∀ (r : Int) (s : lf_Z), Q1 r s → Q2 r s → Q3 r s) (h1 : fm_36 Q1 s) (h2 : fw_36 Q2 s) : fm_36 Q3 s := by
  unfold fm_36 at h1 ⊢
  unfold fw_36 at h2
  exact cj_36_p13L hQ h1 h2
def fw_35_p90 (Q : lf_Z → Prop) (s : lf_Z) : Prop := fw_36 (fun r26 s25 => (Q (lf_up s25.1 31 8 r26, s25.2.1, s25.2.2))) s
theorem cj_35_p90 {Q1 Q2 Q3 : lf_Z → Prop} {s : lf_Z} (hQ : ∀ (s : lf_Z), Q1 s → Q2 s → Q3 s) (h1 : fm_35_p90 Q1 s) (h2 : fw_35_p90 Q2 s) : fm_35_p90 Q3 s := by
  unfold fm_35_p90 at h1 ⊢
  unfold fw_35_p90 at h2
  exact cj_36 (fun r26 s25 k1 l1 => hQ _  k1 l1) h1 h2
def fw_35_p39 (Q : lf_Z → Prop) (s : lf_Z) : Prop := lf_R (s.1 31 7) → (lf_R ((s.1 31 9) + 1) → ((s.1 31 7 ≠ (s.1 31 9) + 1 → (fw_35_p90 Q s)) ∧ (¬ (s.1 31 7 ≠ (s.1 31 9) + 1) → ((0 ≤ s.1 31 9 ∧ s.1 31 9 < 300) → (lf_R (s.1 32 (s.1 31 9)) → ((s.1 32 (s.1 31 9) < 97 → (fw_35_p90 Q s)) ∧ (¬ (s.1 32 (s.1 31 9) < 97) → (Q (lf_up (lf_up s.1 31 8 3) 31 10 ((s.1 32 (s.1 31 9)) - 97), s.2.1, s.2.2)))))))))
theorem cj_35_p39 {Q1 Q2 Q3 : lf_Z → Prop} {s : lf_Z} (hQ : ∀ (s : lf_Z), Q1 s → Q2 s → Q3 s) (h1 : fm_35_p39 Q1 s) (h2 : fw_35_p39 Q2 s) : fm_35_p39 Q3 s := by
  unfold fm_35_p39 at h1 ⊢
  unfold fw_35_p39 at h2
  exact ⟨h1.1, ⟨h1.2.1, ⟨(fun c3 => cj_35_p90 hQ (h1.2.2.1 c3) (((h2 h1.1) h1.2.1).1 c3)), (fun c3 => ⟨(h1.2.2.2 c3).1, ⟨(h1.2.2.2 c3).2.1, ⟨(fun c7 => cj_35_p90 hQ ((h1.2.2.2 c3).2.2.1 c7) ((((((h2 h1.1) h1.2.1).2 c3) (h1.2.2.2 c3).1) (h1.2.2.2 c3).2.1).1 c7)), (fun c7 => hQ _  ((h1.2.2.2 c3).2.2.2 c7) ((((((h2 h1.1) h1.2.1).2 c3) (h1.2.2.2 c3).1) (h1.2.2.2 c3).2.1).2 c7))⟩⟩⟩)⟩⟩⟩
def fw_35_p0 (Q : lf_Z → Prop) (X0 : lf_Z → Prop) (s : lf_Z) : Prop := lf_R (s.1 31 7) → (lf_R (s.1 31 1) → ((s.1 31 1 ≤ s.1 31 7 → (fw_35_p39 Q s)) ∧ (¬ (s.1 31 1 ≤ s.1 31 7) → ((0 ≤ s.1 31 7 ∧ s.1 31 7 < 300) → (fw_34 (s.1 32 (s.1 31 7)) (fun z31 s30 => ((z31 = false → (fw_35_p39 Q s30)) ∧ (z31 = true → (X0 (lf_up s30.1 31 7 ((s30.1 31 7) + 1), s30.2.1, s30.2.2))))) s)))))
theorem cj_35_p0 {X01 X02 X03 : lf_Z → Prop} {Q1 Q2 Q3 : lf_Z → Prop} {s : lf_Z} (hX0 : ∀ (v0 : lf_Z), X01 v0 → X02 v0 → X03 v0) (hQ : ∀ (s : lf_Z), Q1 s → Q2 s → Q3 s) (h1 : fm_35_p0 Q1 X01 s) (h2 : fw_35_p0 Q2 X02 s) : fm_35_p0 Q3 X03 s := by
  unfold fm_35_p0 at h1 ⊢
  unfold fw_35_p0 at h2
  exact ⟨h1.1, ⟨h1.2.1, ⟨(fun c3 => cj_35_p39 hQ (h1.2.2.1 c3) (((h2 h1.1) h1.2.1).1 c3)), (fun c3 => ⟨(h1.2.2.2 c3).1, cj_34 (fun z31 s30 k6 l6 => ⟨(fun c7 => cj_35_p39 hQ (k6.1 c7) (l6.1 c7)), (fun c7 => hX0 _  (k6.2 c7) (l6.2 c7))⟩) (h1.2.2.2 c3).2 ((((h2 h1.1) h1.2.1).2 c3) (h1.2.2.2 c3).1)⟩)⟩⟩⟩
def fw_35_p0L (Q : lf_Z → Prop) (s : lf_Z) : Prop := ∃ X0 : lf_Z → Prop, (∀ (s : lf_Z), X0 s → fw_35_p0 Q X0 s) ∧ X0 s
theorem cj_35_p0L {Q1 Q2 Q3 : lf_Z → Prop} {s : lf_Z} (hQ : ∀ (s : lf_Z), Q1 s → Q2 s → Q3 s) (h1 : fm_35_p0L Q1 s) (h2 : fw_35_p0L Q2 s) : fm_35_p0L Q3 s := by
  intro X0 hX0
  obtain ⟨Y, hY, hY0⟩ := h2
  exact h1 (fun  s => Y  s → X0  s) (fun  s hb hy => hX0  s (cj_35_p0 (X01 := fun  s => Y  s → X0  s) (X02 := Y) (X03 := X0) (hX0 := fun  s a b => a b) hQ hb (hY  s hy))) hY0
def fw_35 (Q : lf_Z → Prop) (s : lf_Z) : Prop := fw_35_p0L Q s
theorem cj_35 {Q1 Q2 Q3 : lf_Z → Prop} {s : lf_Z} (hQ : ∀ (s : lf_Z), Q1 s → Q2 s → Q3 s) (h1 : fm_35 Q1 s) (h2 : fw_35 Q2 s) : fm_35 Q3 s := by
  unfold fm_35 at h1 ⊢
  unfold fw_35 at h2
  exact cj_35_p0L hQ h1 h2
def fw_33_p10 (Q : lf_Z → Prop) (X10 : lf_Z → Prop) (s : lf_Z) : Prop := lf_R (s.1 31 7) → (lf_R (s.1 31 1) → ((s.1 31 1 ≤ s.1 31 7 → (Q s)) ∧ (¬ (s.1 31 1 ≤ s.1 31 7) → ((0 ≤ s.1 31 7 ∧ s.1 31 7 < 300) → (fw_32 (s.1 32 (s.1 31 7)) (fun z25 s24 => ((z25 = false → (Q s24)) ∧ (z25 = true → ((0 ≤ s24.1 31 7 ∧ s24.1 31 7 < 300) → (X10 (lf_up (lf_up s24.1 31 10 (min 10000 (lf_w ((lf_w ((lf_w ((s24.1 31 10) * 10)) + (s24.1 32 (s24.1 31 7)))) - 48)))) 31 7 ((s24.1 31 7) + 1), s24.2.1, s24.2.2)))))) s)))))
theorem cj_33_p10 {X101 X102 X103 : lf_Z → Prop} {Q1 Q2 Q3 : lf_Z → Prop} {s : lf_Z} (hX10 : ∀ (v0 : lf_Z), X101 v0 → X102 v0 → X103 v0) (hQ : ∀ (s : lf_Z), Q1 s → Q2 s → Q3 s) (h1 : fm_33_p10 Q1 X101 s) (h2 : fw_33_p10 Q2 X102 s) : fm_33_p10 Q3 X103 s := by
  unfold fm_33_p10 at h1 ⊢
  unfold fw_33_p10 at h2
  exact ⟨h1.1, ⟨h1.2.1, ⟨(fun c3 => hQ _  (h1.2.2.1 c3) (((h2 h1.1) h1.2.1).1 c3)), (fun c3 => ⟨(h1.2.2.2 c3).1, cj_32 (fun z25 s24 k6 l6 => ⟨(fun c7 => hQ _  (k6.1 c7) (l6.1 c7)), (fun c7 => ⟨(k6.2 c7).1, hX10 _  (k6.2 c7).2 ((l6.2 c7) (k6.2 c7).1)⟩)⟩) (h1.2.2.2 c3).2 ((((h2 h1.1) h1.2.1).2 c3) (h1.2.2.2 c3).1)⟩)⟩⟩⟩
def fw_33_p10L (Q : lf_Z → Prop) (s : lf_Z) : Prop := ∃ X10 : lf_Z → Prop, (∀ (s : lf_Z), X10 s → fw_33_p10 Q X10 s) ∧ X10 s
theorem cj_33_p10L {Q1 Q2 Q3 : lf_Z → Prop} {s : lf_Z} (hQ : ∀ (s : lf_Z), Q1 s → Q2 s → Q3 s) (h1 : fm_33_p10L Q1 s) (h2 : fw_33_p10L Q2 s) : fm_33_p10L Q3 s := by
  intro X0 hX0
  obtain ⟨Y, hY, hY0⟩ := h2
  exact h1 (fun  s => Y  s → X0  s) (fun  s hb hy => hX0  s (cj_33_p10 (X101 := fun  s => Y  s → X0  s) (X102 := Y) (X103 := X0) (hX10 := fun  s a b => a b) hQ hb (hY  s hy))) hY0
def fw_33 (Q : lf_Z → Prop) (s : lf_Z) : Prop := fw_33_p10L Q (lf_up (lf_up s.1 31 8 2) 31 10 0, s.2.1, s.2.2)
theorem cj_33 {Q1 Q2 Q3 : lf_Z → Prop} {s : lf_Z} (hQ : ∀ (s : lf_Z), Q1 s → Q2 s → Q3 s) (h1 : fm_33 Q1 s) (h2 : fw_33 Q2 s) : fm_33 Q3 s := by
  unfold fm_33 at h1 ⊢
  unfold fw_33 at h2
  exact cj_33_p10L hQ h1 h2
def fw_31_p60 (Q : lf_Z → Prop) (s : lf_Z) : Prop := lf_R (s.1 31 7) → (lf_R (s.1 31 1) → ((s.1 31 7 < s.1 31 1 → ((0 ≤ s.1 31 7 ∧ s.1 31 7 < 300) → (fw_32 (s.1 32 (s.1 31 7)) (fun z28 s27 => ((z28 = false → ((0 ≤ s27.1 31 7 ∧ s27.1 31 7 < 300) → (fw_34 (s27.1 32 (s27.1 31 7)) (fun z31 s30 => ((z31 = false → ((0 ≤ s30.1 31 7 ∧ s30.1 31 7 < 300) → (fw_37 (s30.1 32 (s30.1 31 7)) (fun s33 => (Q s33)) s30))) ∧ (z31 = true → (fw_35 (fun s34 => (Q s34)) s30)))) s27))) ∧ (z28 = true → (fw_33 (fun s35 => (Q s35)) s27)))) (lf_up s.1 31 9 (s.1 31 7), s.2.1, s.2.2)))) ∧ (¬ (s.1 31 7 < s.1 31 1) → (Q (lf_up (lf_up s.1 31 9 (s.1 31 7)) 31 8 0, s.2.1, s.2.2)))))
theorem cj_31_p60 {Q1 Q2 Q3 : lf_Z → Prop} {s : lf_Z} (hQ : ∀ (s : lf_Z), Q1 s → Q2 s → Q3 s) (h1 : fm_31_p60 Q1 s) (h2 : fw_31_p60 Q2 s) : fm_31_p60 Q3 s := by
  unfold fm_31_p60 at h1 ⊢
  unfold fw_31_p60 at h2
  exact ⟨h1.1, ⟨h1.2.1, ⟨(fun c3 => ⟨(h1.2.2.1 c3).1, cj_32 (fun z28 s27 k5 l5 => ⟨(fun c6 => ⟨(k5.1 c6).1, cj_34 (fun z31 s30 k8 l8 => ⟨(fun c9 => ⟨(k8.1 c9).1, cj_37 (fun s33 k11 l11 => hQ _  k11 l11) (k8.1 c9).2 ((l8.1 c9) (k8.1 c9).1)⟩), (fun c9 => cj_35 (fun s34 k13 l13 => hQ _  k13 l13) (k8.2 c9) (l8.2 c9))⟩) (k5.1 c6).2 ((l5.1 c6) (k5.1 c6).1)⟩), (fun c6 => cj_33 (fun s35 k15 l15 => hQ _  k15 l15) (k5.2 c6) (l5.2 c6))⟩) (h1.2.2.1 c3).2 ((((h2 h1.1) h1.2.1).1 c3) (h1.2.2.1 c3).1)⟩), (fun c3 => hQ _  (h1.2.2.2 c3) (((h2 h1.1) h1.2.1).2 c3))⟩⟩⟩
def fw_31_p47 (X8 : lf_Z → Prop) (Q : lf_Z → Prop) (s : lf_Z) : Prop := X8 (lf_up s.1 31 7 ((s.1 31 7) + 1), s.2.1, s.2.2)
theorem cj_31_p47 {X81 X82 X83 : lf_Z → Prop} {Q1 Q2 Q3 : lf_Z → Prop} {s : lf_Z} (hX8 : ∀ (v0 : lf_Z), X81 v0 → X82 v0 → X83 v0) (hQ : ∀ (s : lf_Z), Q1 s → Q2 s → Q3 s) (h1 : fm_31_p47 X81 Q1 s) (h2 : fw_31_p47 X82 Q2 s) : fm_31_p47 X83 Q3 s := by
  unfold fm_31_p47 at h1 ⊢
  unfold fw_31_p47 at h2
  exact hX8 _  h1 h2
def fw_31_p8 (Q : lf_Z → Prop) (X8 : lf_Z → Prop) (s : lf_Z) : Prop := lf_R (s.1 31 7) → (lf_R (s.1 31 1) → ((s.1 31 1 ≤ s.1 31 7 → (fw_31_p60 Q s)) ∧ (¬ (s.1 31 1 ≤ s.1 31 7) → ((0 ≤ s.1 31 7 ∧ s.1 31 7 < 300) → (lf_R (s.1 32 (s.1 31 7)) → ((s.1 32 (s.1 31 7) = 32 → (fw_31_p47 X8 Q s)) ∧ (¬ (s.1 32 (s.1 31 7) = 32) → ((s.1 32 (s.1 31 7) ≠ 10 → (fw_31_p60 Q s)) ∧ (¬ (s.1 32 (s.1 31 7) ≠ 10) → (fw_31_p47 X8 Q s))))))))))
theorem cj_31_p8 {X81 X82 X83 : lf_Z → Prop} {Q1 Q2 Q3 : lf_Z → Prop} {s : lf_Z} (hX8 : ∀ (v0 : lf_Z), X81 v0 → X82 v0 → X83 v0) (hQ : ∀ (s : lf_Z), Q1 s → Q2 s → Q3 s) (h1 : fm_31_p8 Q1 X81 s) (h2 : fw_31_p8 Q2 X82 s) : fm_31_p8 Q3 X83 s := by
  unfold fm_31_p8 at h1 ⊢
  unfold fw_31_p8 at h2
  exact ⟨h1.1, ⟨h1.2.1, ⟨(fun c3 => cj_31_p60 hQ (h1.2.2.1 c3) (((h2 h1.1) h1.2.1).1 c3)), (fun c3 => ⟨(h1.2.2.2 c3).1, ⟨(h1.2.2.2 c3).2.1, ⟨(fun c7 => cj_31_p47 hX8 hQ ((h1.2.2.2 c3).2.2.1 c7) ((((((h2 h1.1) h1.2.1).2 c3) (h1.2.2.2 c3).1) (h1.2.2.2 c3).2.1).1 c7)), (fun c7 => ⟨(fun c9 => cj_31_p60 hQ (((h1.2.2.2 c3).2.2.2 c7).1 c9) (((((((h2 h1.1) h1.2.1).2 c3) (h1.2.2.2 c3).1) (h1.2.2.2 c3).2.1).2 c7).1 c9)), (fun c9 => cj_31_p47 hX8 hQ (((h1.2.2.2 c3).2.2.2 c7).2 c9) (((((((h2 h1.1) h1.2.1).2 c3) (h1.2.2.2 c3).1) (h1.2.2.2 c3).2.1).2 c7).2 c9))⟩)⟩⟩⟩)⟩⟩⟩
def fw_31_p8L (Q : lf_Z → Prop) (s : lf_Z) : Prop := ∃ X8 : lf_Z → Prop, (∀ (s : lf_Z), X8 s → fw_31_p8 Q X8 s) ∧ X8 s
theorem cj_31_p8L {Q1 Q2 Q3 : lf_Z → Prop} {s : lf_Z} (hQ : ∀ (s : lf_Z), Q1 s → Q2 s → Q3 s) (h1 : fm_31_p8L Q1 s) (h2 : fw_31_p8L Q2 s) : fm_31_p8L Q3 s := by
  intro X0 hX0
  obtain ⟨Y, hY, hY0⟩ := h2
  exact h1 (fun  s => Y  s → X0  s) (fun  s hb hy => hX0  s (cj_31_p8 (X81 := fun  s => Y  s → X0  s) (X82 := Y) (X83 := X0) (hX8 := fun  s a b => a b) hQ hb (hY  s hy))) hY0
def fw_31 (Q : lf_Z → Prop) (s : lf_Z) : Prop := lf_R (s.1 31 2) → ((s.1 31 2 = 0 → (fw_31_p8L Q s)) ∧ (¬ (s.1 31 2 = 0) → (Q s)))
theorem cj_31 {Q1 Q2 Q3 : lf_Z → Prop} {s : lf_Z} (hQ : ∀ (s : lf_Z), Q1 s → Q2 s → Q3 s) (h1 : fm_31 Q1 s) (h2 : fw_31 Q2 s) : fm_31 Q3 s := by
  unfold fm_31 at h1 ⊢
  unfold fw_31 at h2
  exact ⟨h1.1, ⟨(fun c2 => cj_31_p8L hQ (h1.2.1 c2) ((h2 h1.1).1 c2)), (fun c2 => hQ _  (h1.2.2 c2) ((h2 h1.1).2 c2))⟩⟩
def fw_40 (t0 : Nat) (a1 : Int) (Q : Bool → lf_Z → Prop) (s : lf_Z) : Prop := lf_R a1 → ((a1 < 0 → (Q false s)) ∧ (¬ (a1 < 0) → ((3 ≤ a1 → (Q false s)) ∧ (¬ (3 ≤ a1) → ((0 ≤ a1 ∧ a1 < 3) → (lf_R (s.1 (37 + 7 * t0) a1) → ((s.1 (37 + 7 * t0) a1 = (-1) → (Q false s)) ∧ (¬ (s.1 (37 + 7 * t0) a1 = (-1)) → (Q true s)))))))))
theorem cj_40 {Q1 Q2 Q3 : Bool → lf_Z → Prop} {t0 : Nat} {a1 : Int} {s : lf_Z} (hQ : ∀ (r : Bool) (s : lf_Z), Q1 r s → Q2 r s → Q3 r s) (h1 : fm_40 t0 a1 Q1 s) (h2 : fw_40 t0 a1 Q2 s) : fm_40 t0 a1 Q3 s := by
  unfold fm_40 at h1 ⊢
  unfold fw_40 at h2
  exact ⟨h1.1, ⟨(fun c2 => hQ _ _  (h1.2.1 c2) ((h2 h1.1).1 c2)), (fun c2 => ⟨(fun c4 => hQ _ _  ((h1.2.2 c2).1 c4) (((h2 h1.1).2 c2).1 c4)), (fun c4 => ⟨((h1.2.2 c2).2 c4).1, ⟨((h1.2.2 c2).2 c4).2.1, ⟨(fun c8 => hQ _ _  (((h1.2.2 c2).2 c4).2.2.1 c8) ((((((h2 h1.1).2 c2).2 c4) ((h1.2.2 c2).2 c4).1) ((h1.2.2 c2).2 c4).2.1).1 c8)), (fun c8 => hQ _ _  (((h1.2.2 c2).2 c4).2.2.2 c8) ((((((h2 h1.1).2 c2).2 c4) ((h1.2.2 c2).2 c4).1) ((h1.2.2 c2).2 c4).2.1).2 c8))⟩⟩⟩)⟩)⟩⟩
def fw_39_p20 (Q : lf_Z → Prop) (s : lf_Z) : Prop := Q (lf_up s.1 31 8 1, s.2.1, s.2.2)
theorem cj_39_p20 {Q1 Q2 Q3 : lf_Z → Prop} {s : lf_Z} (hQ : ∀ (s : lf_Z), Q1 s → Q2 s → Q3 s) (h1 : fm_39_p20 Q1 s) (h2 : fw_39_p20 Q2 s) : fm_39_p20 Q3 s := by
  unfold fm_39_p20 at h1 ⊢
  unfold fw_39_p20 at h2
  exact hQ _  h1 h2
def fw_39 (a1 : Int) (Q : lf_Z → Prop) (s : lf_Z) : Prop := lf_R (s.1 31 2) → ((s.1 31 2 ≠ 0 → (fw_39_p20 Q s)) ∧ (¬ (s.1 31 2 ≠ 0) → (fw_39_p20 Q (lf_up (lf_up s.1 31 2 a1) 31 3 (s.1 31 9), s.2.1, s.2.2))))
theorem cj_39 {Q1 Q2 Q3 : lf_Z → Prop} {a1 : Int} {s : lf_Z} (hQ : ∀ (s : lf_Z), Q1 s → Q2 s → Q3 s) (h1 : fm_39 a1 Q1 s) (h2 : fw_39 a1 Q2 s) : fm_39 a1 Q3 s := by
  unfold fm_39 at h1 ⊢
  unfold fw_39 at h2
  exact ⟨h1.1, ⟨(fun c2 => cj_39_p20 hQ (h1.2.1 c2) ((h2 h1.1).1 c2)), (fun c2 => cj_39_p20 hQ (h1.2.2 c2) ((h2 h1.1).2 c2))⟩⟩
def fw_44 (a1 : Int) (a2 : Int) (Q : Int → lf_Z → Prop) (s : lf_Z) : Prop := lf_R (s.1 31 8) → ((s.1 31 8 = 2 → (fw_15 (s.1 31 10) a1 a2 (fun z23 s22 => ((z23 = true → (fw_31 (fun s24 => (Q (s22.1 31 10) s24)) s22)) ∧ (z23 = false → (fw_39 2 (fun s25 => (Q a1 s25)) s22)))) s)) ∧ (¬ (s.1 31 8 = 2) → (fw_39 1 (fun s26 => (Q a1 s26)) s)))
theorem cj_44 {Q1 Q2 Q3 : Int → lf_Z → Prop} {a1 : Int} {a2 : Int} {s : lf_Z} (hQ : ∀ (r : Int) (s : lf_Z), Q1 r s → Q2 r s → Q3 r s) (h1 : fm_44 a1 a2 Q1 s) (h2 : fw_44 a1 a2 Q2 s) : fm_44 a1 a2 Q3 s := by
  unfold fm_44 at h1 ⊢
  unfold fw_44 at h2
  exact ⟨h1.1, ⟨(fun c2 => cj_15 (fun z23 s22 k3 l3 => ⟨(fun c4 => cj_31 (fun s24 k5 l5 => hQ _ _  k5 l5) (k3.1 c4) (l3.1 c4)), (fun c4 => cj_39 (fun s25 k7 l7 => hQ _ _  k7 l7) (k3.2 c4) (l3.2 c4))⟩) (h1.2.1 c2) ((h2 h1.1).1 c2)), (fun c2 => cj_39 (fun s26 k9 l9 => hQ _ _  k9 l9) (h1.2.2 c2) ((h2 h1.1).2 c2))⟩⟩
def fw_57 (t0 : Nat) (a1 : Int) (a2 : Int) (a3 : Int) (Q : lf_Z → Prop) (s : lf_Z) : Prop := lf_R (s.1 (35 + 7 * t0) 7) → ((24 ≤ s.1 (35 + 7 * t0) 7 → (Q s)) ∧ (¬ (24 ≤ s.1 (35 + 7 * t0) 7) → ((0 ≤ s.1 (35 + 7 * t0) 7 ∧ s.1 (35 + 7 * t0) 7 < 24) → ((0 ≤ (lf_up s.1 (39 + 7 * t0) (s.1 (35 + 7 * t0) 7) a1) (35 + 7 * t0) 7 ∧ (lf_up s.1 (39 + 7 * t0) (s.1 (35 + 7 * t0) 7) a1) (35 + 7 * t0) 7 < 24) → ((0 ≤ (lf_up (lf_up s.1 (39 + 7 * t0) (s.1 (35 + 7 * t0) 7) a1) (40 + 7 * t0) ((lf_up s.1 (39 + 7 * t0) (s.1 (35 + 7 * t0) 7) a1) (35 + 7 * t0) 7) a2) (35 + 7 * t0) 7 ∧ (lf_up (lf_up s.1 (39 + 7 * t0) (s.1 (35 + 7 * t0) 7) a1) (40 + 7 * t0) ((lf_up s.1 (39 + 7 * t0) (s.1 (35 + 7 * t0) 7) a1) (35 + 7 * t0) 7) a2) (35 + 7 * t0) 7 < 24) → (Q (lf_up (lf_up (lf_up (lf_up s.1 (39 + 7 * t0) (s.1 (35 + 7 * t0) 7) a1) (40 + 7 * t0) ((lf_up s.1 (39 + 7 * t0) (s.1 (35 + 7 * t0) 7) a1) (35 + 7 * t0) 7) a2) (41 + 7 * t0) ((lf_up (lf_up s.1 (39 + 7 * t0) (s.1 (35 + 7 * t0) 7) a1) (40 + 7 * t0) ((lf_up s.1 (39 + 7 * t0) (s.1 (35 + 7 * t0) 7) a1) (35 + 7 * t0) 7) a2) (35 + 7 * t0) 7) a3) (35 + 7 * t0) 7 (((lf_up (lf_up (lf_up s.1 (39 + 7 * t0) (s.1 (35 + 7 * t0) 7) a1) (40 + 7 * t0) ((lf_up s.1 (39 + 7 * t0) (s.1 (35 + 7 * t0) 7) a1) (35 + 7 * t0) 7) a2) (41 + 7 * t0) ((lf_up (lf_up s.1 (39 + 7 * t0) (s.1 (35 + 7 * t0) 7) a1) (40 + 7 * t0) ((lf_up s.1 (39 + 7 * t0) (s.1 (35 + 7 * t0) 7) a1) (35 + 7 * t0) 7) a2) (35 + 7 * t0) 7) a3) (35 + 7 * t0) 7) + 1), s.2.1, s.2.2)))))))
theorem cj_57 {Q1 Q2 Q3 : lf_Z → Prop} {t0 : Nat} {a1 : Int} {a2 : Int} {a3 : Int} {s : lf_Z} (hQ : ∀ (s : lf_Z), Q1 s → Q2 s → Q3 s) (h1 : fm_57 t0 a1 a2 a3 Q1 s) (h2 : fw_57 t0 a1 a2 a3 Q2 s) : fm_57 t0 a1 a2 a3 Q3 s := by
  unfold fm_57 at h1 ⊢
  unfold fw_57 at h2
  exact ⟨h1.1, ⟨(fun c2 => hQ _  (h1.2.1 c2) ((h2 h1.1).1 c2)), (fun c2 => ⟨(h1.2.2 c2).1, ⟨(h1.2.2 c2).2.1, ⟨(h1.2.2 c2).2.2.1, hQ _  (h1.2.2 c2).2.2.2 (((((h2 h1.1).2 c2) (h1.2.2 c2).1) (h1.2.2 c2).2.1) (h1.2.2 c2).2.2.1)⟩⟩⟩)⟩⟩
def fw_48 (a1 : Int) (Q : lf_Z → Prop) (s : lf_Z) : Prop := lf_R (s.1 31 8) → (lf_R a1 → ((s.1 31 8 ≠ a1 → (fw_39 1 (fun s23 => (Q s23)) s)) ∧ (¬ (s.1 31 8 ≠ a1) → (fw_31 (fun s24 => (Q s24)) s))))
theorem cj_48 {Q1 Q2 Q3 : lf_Z → Prop} {a1 : Int} {s : lf_Z} (hQ : ∀ (s : lf_Z), Q1 s → Q2 s → Q3 s) (h1 : fm_48 a1 Q1 s) (h2 : fw_48 a1 Q2 s) : fm_48 a1 Q3 s := by
  unfold fm_48 at h1 ⊢
  unfold fw_48 at h2
  exact ⟨h1.1, ⟨h1.2.1, ⟨(fun c3 => cj_39 (fun s23 k4 l4 => hQ _  k4 l4) (h1.2.2.1 c3) (((h2 h1.1) h1.2.1).1 c3)), (fun c3 => cj_31 (fun s24 k6 l6 => hQ _  k6 l6) (h1.2.2.2 c3) (((h2 h1.1) h1.2.1).2 c3))⟩⟩⟩
def fw_58_p68 (Q : lf_Z → Prop) (x1 : Int) (x3 : Int) (x4 : Int) (s : lf_Z) : Prop := (s.2.2 2 = none → (True)) ∧ (∀ t26 : Nat, s.2.2 2 = some t26 → t26 < 4 → (fw_57 t26 x1 x3 x4 (fun s27 => (Q s27)) s))
theorem cj_58_p68 {Q1 Q2 Q3 : lf_Z → Prop} {x1 : Int} {x3 : Int} {x4 : Int} {s : lf_Z} (hQ : ∀ (s : lf_Z), Q1 s → Q2 s → Q3 s) (h1 : fm_58_p68 Q1 x1 x3 x4 s) (h2 : fw_58_p68 Q2 x1 x3 x4 s) : fm_58_p68 Q3 x1 x3 x4 s := by
  unfold fm_58_p68 at h1 ⊢
  unfold fw_58_p68 at h2
  exact ⟨(fun c1 => (h1.1 c1).elim), (fun t26 et26 => ⟨(h1.2 t26 et26).1, cj_57 (fun s27 k4 l4 => hQ _  k4 l4) (h1.2 t26 et26).2 (h2.2 t26 et26 (h1.2 t26 et26).1)⟩)⟩
def fw_58 (a1 : Int) (Q : lf_Z → Prop) (s : lf_Z) : Prop := (0 ≤ (a1 - 23) * 5 ∧ (a1 - 23) * 5 < 50) → ((0 ≤ ((a1 - 23) * 5) + 1 ∧ ((a1 - 23) * 5) + 1 < 50) → (fw_44 ((px_sh ((a1 - 23) * 5).toNat).toInt) ((px_sh (((a1 - 23) * 5) + 1).toNat).toInt) (fun r24 s23 => ((0 ≤ ((a1 - 23) * 5) + 2 ∧ ((a1 - 23) * 5) + 2 < 50) → (((px_sh (((a1 - 23) * 5) + 2).toNat).toInt = 0 → (fw_58_p68 Q a1 r24 0 s23)) ∧ (¬ ((px_sh (((a1 - 23) * 5) + 2).toNat).toInt = 0) → (fw_48 ((px_sh (((a1 - 23) * 5) + 2).toNat).toInt) (fun s28 => ((0 ≤ ((a1 - 23) * 5) + 3 ∧ ((a1 - 23) * 5) + 3 < 50) → ((0 ≤ ((a1 - 23) * 5) + 4 ∧ ((a1 - 23) * 5) + 4 < 50) → (fw_44 ((px_sh (((a1 - 23) * 5) + 3).toNat).toInt) ((px_sh (((a1 - 23) * 5) + 4).toNat).toInt) (fun r32 s31 => (fw_58_p68 Q a1 r24 r32 s31)) s28)))) s23))))) s))
theorem cj_58 {Q1 Q2 Q3 : lf_Z → Prop} {a1 : Int} {s : lf_Z} (hQ : ∀ (s : lf_Z), Q1 s → Q2 s → Q3 s) (h1 : fm_58 a1 Q1 s) (h2 : fw_58 a1 Q2 s) : fm_58 a1 Q3 s := by
  unfold fm_58 at h1 ⊢
  unfold fw_58 at h2
  exact ⟨h1.1, ⟨h1.2.1, cj_44 (fun r24 s23 k3 l3 => ⟨k3.1, ⟨(fun c5 => cj_58_p68 hQ (k3.2.1 c5) ((l3 k3.1).1 c5)), (fun c5 => cj_48 (fun s28 k7 l7 => ⟨k7.1, ⟨k7.2.1, cj_44 (fun r32 s31 k10 l10 => cj_58_p68 hQ k10 l10) k7.2.2 ((l7 k7.1) k7.2.1)⟩⟩) (k3.2.2 c5) ((l3 k3.1).2 c5))⟩⟩) h1.2.2 ((h2 h1.1) h1.2.1)⟩⟩
def fw_45 (t0 : Nat) (a1 : Int) (a2 : Int) (Q : Int → lf_Z → Prop) (s : lf_Z) : Prop := lf_R (s.1 (35 + 7 * t0) 1) → ((s.1 (35 + 7 * t0) 1 < 300 → ((0 ≤ s.1 (35 + 7 * t0) 1 ∧ s.1 (35 + 7 * t0) 1 < 300) → (Q (((lf_up (lf_up s.1 (36 + 7 * t0) (s.1 (35 + 7 * t0) 1) ((a1 * 10000) + a2)) (35 + 7 * t0) 1 (((lf_up s.1 (36 + 7 * t0) (s.1 (35 + 7 * t0) 1) ((a1 * 10000) + a2)) (35 + 7 * t0) 1) + 1)) (35 + 7 * t0) 1) - 1) (lf_up (lf_up s.1 (36 + 7 * t0) (s.1 (35 + 7 * t0) 1) ((a1 * 10000) + a2)) (35 + 7 * t0) 1 (((lf_up s.1 (36 + 7 * t0) (s.1 (35 + 7 * t0) 1) ((a1 * 10000) + a2)) (35 + 7 * t0) 1) + 1), s.2.1, s.2.2)))) ∧ (¬ (s.1 (35 + 7 * t0) 1 < 300) → (Q (-1) s)))
theorem cj_45 {Q1 Q2 Q3 : Int → lf_Z → Prop} {t0 : Nat} {a1 : Int} {a2 : Int} {s : lf_Z} (hQ : ∀ (r : Int) (s : lf_Z), Q1 r s → Q2 r s → Q3 r s) (h1 : fm_45 t0 a1 a2 Q1 s) (h2 : fw_45 t0 a1 a2 Q2 s) : fm_45 t0 a1 a2 Q3 s := by
  unfold fm_45 at h1 ⊢
  unfold fw_45 at h2
  exact ⟨h1.1, ⟨(fun c2 => ⟨(h1.2.1 c2).1, hQ _ _  (h1.2.1 c2).2 (((h2 h1.1).1 c2) (h1.2.1 c2).1)⟩), (fun c2 => hQ _ _  (h1.2.2 c2) ((h2 h1.1).2 c2))⟩⟩
def fw_56_p53 (Q : lf_Z → Prop) (x1 : Int) (s : lf_Z) : Prop := (0 ≤ x1 ∧ x1 < 11) → ((lf_and (lf_shr ((px_lw (x1).toNat).toInt) (s.1 31 6)) 1 ≠ 0 → ((s.2.2 2 = none → (True)) ∧ (∀ t24 : Nat, s.2.2 2 = some t24 → t24 < 4 → (fw_45 t24 17 x1 (fun r26 s25 => (fw_31 (fun s27 => (Q s27)) s25)) s)))) ∧ (¬ (lf_and (lf_shr ((px_lw (x1).toNat).toInt) (s.1 31 6)) 1 ≠ 0) → (fw_39 5 (fun s28 => (Q s28)) s)))
theorem cj_56_p53 {Q1 Q2 Q3 : lf_Z → Prop} {x1 : Int} {s : lf_Z} (hQ : ∀ (s : lf_Z), Q1 s → Q2 s → Q3 s) (h1 : fm_56_p53 Q1 x1 s) (h2 : fw_56_p53 Q2 x1 s) : fm_56_p53 Q3 x1 s := by
  unfold fm_56_p53 at h1 ⊢
  unfold fw_56_p53 at h2
  exact ⟨h1.1, ⟨(fun c2 => ⟨(fun c3 => ((h1.2.1 c2).1 c3).elim), (fun t24 et24 => ⟨((h1.2.1 c2).2 t24 et24).1, cj_45 (fun r26 s25 k6 l6 => cj_31 (fun s27 k7 l7 => hQ _  k7 l7) k6 l6) ((h1.2.1 c2).2 t24 et24).2 (((h2 h1.1).1 c2).2 t24 et24 ((h1.2.1 c2).2 t24 et24).1)⟩)⟩), (fun c2 => cj_39 (fun s28 k9 l9 => hQ _  k9 l9) (h1.2.2 c2) ((h2 h1.1).2 c2))⟩⟩
def fw_56_p21 (Q : lf_Z → Prop) (y0 : Int) (s : lf_Z) : Prop := lf_R (s.1 31 8) → ((s.1 31 8 = 24 → (fw_56_p53 Q y0 s)) ∧ (¬ (s.1 31 8 = 24) → (fw_15 (s.1 31 8) 47 56 (fun z30 s29 => ((z30 = true → (fw_56_p53 Q y0 s29)) ∧ (z30 = false → (fw_39 1 (fun s31 => (Q s31)) s29)))) s)))
theorem cj_56_p21 {Q1 Q2 Q3 : lf_Z → Prop} {y0 : Int} {s : lf_Z} (hQ : ∀ (s : lf_Z), Q1 s → Q2 s → Q3 s) (h1 : fm_56_p21 Q1 y0 s) (h2 : fw_56_p21 Q2 y0 s) : fm_56_p21 Q3 y0 s := by
  unfold fm_56_p21 at h1 ⊢
  unfold fw_56_p21 at h2
  exact ⟨h1.1, ⟨(fun c2 => cj_56_p53 hQ (h1.2.1 c2) ((h2 h1.1).1 c2)), (fun c2 => cj_15 (fun z30 s29 k4 l4 => ⟨(fun c5 => cj_56_p53 hQ (k4.1 c5) (l4.1 c5)), (fun c5 => cj_39 (fun s31 k7 l7 => hQ _  k7 l7) (k4.2 c5) (l4.2 c5))⟩) (h1.2.2 c2) ((h2 h1.1).2 c2))⟩⟩
def fw_56 (Q : lf_Z → Prop) (s : lf_Z) : Prop := lf_R (s.1 31 8) → ((s.1 31 8 ≠ 24 → (fw_56_p21 Q ((s.1 31 8) - 47) s)) ∧ (¬ (s.1 31 8 ≠ 24) → (fw_56_p21 Q 10 s)))
theorem cj_56 {Q1 Q2 Q3 : lf_Z → Prop} {s : lf_Z} (hQ : ∀ (s : lf_Z), Q1 s → Q2 s → Q3 s) (h1 : fm_56 Q1 s) (h2 : fw_56 Q2 s) : fm_56 Q3 s := by
  unfold fm_56 at h1 ⊢
  unfold fw_56 at h2
  exact ⟨h1.1, ⟨(fun c2 => cj_56_p21 hQ (h1.2.1 c2) ((h2 h1.1).1 c2)), (fun c2 => cj_56_p21 hQ (h1.2.2 c2) ((h2 h1.1).2 c2))⟩⟩
def fw_46_p26 (Q : lf_Z → Prop) (y0 : Int) (s : lf_Z) : Prop := lf_R y0 → ((y0 ≠ (-1) → ((s.2.2 2 = none → (True)) ∧ (∀ t24 : Nat, s.2.2 2 = some t24 → t24 < 4 → (fw_45 t24 3 y0 (fun r26 s25 => (fw_31 (fun s27 => (Q s27)) s25)) s)))) ∧ (¬ (y0 ≠ (-1)) → (fw_39 5 (fun s28 => (Q s28)) s)))
theorem cj_46_p26 {Q1 Q2 Q3 : lf_Z → Prop} {y0 : Int} {s : lf_Z} (hQ : ∀ (s : lf_Z), Q1 s → Q2 s → Q3 s) (h1 : fm_46_p26 Q1 y0 s) (h2 : fw_46_p26 Q2 y0 s) : fm_46_p26 Q3 y0 s := by
  unfold fm_46_p26 at h1 ⊢
  unfold fw_46_p26 at h2
  exact ⟨h1.1, ⟨(fun c2 => ⟨(fun c3 => ((h1.2.1 c2).1 c3).elim), (fun t24 et24 => ⟨((h1.2.1 c2).2 t24 et24).1, cj_45 (fun r26 s25 k6 l6 => cj_31 (fun s27 k7 l7 => hQ _  k7 l7) k6 l6) ((h1.2.1 c2).2 t24 et24).2 (((h2 h1.1).1 c2).2 t24 et24 ((h1.2.1 c2).2 t24 et24).1)⟩)⟩), (fun c2 => cj_39 (fun s28 k9 l9 => hQ _  k9 l9) (h1.2.2 c2) ((h2 h1.1).2 c2))⟩⟩
def fw_46 (Q : lf_Z → Prop) (s : lf_Z) : Prop := fw_15 (s.1 31 10) 0 25 (fun z22 s21 => ((z22 = false → (fw_46_p26 Q (-1) s21)) ∧ (z22 = true → ((0 ≤ s21.1 31 10 ∧ s21.1 31 10 < 26) → (fw_46_p26 Q (s21.1 33 (s21.1 31 10)) s21))))) s
theorem cj_46 {Q1 Q2 Q3 : lf_Z → Prop} {s : lf_Z} (hQ : ∀ (s : lf_Z), Q1 s → Q2 s → Q3 s) (h1 : fm_46 Q1 s) (h2 : fw_46 Q2 s) : fm_46 Q3 s := by
  unfold fm_46 at h1 ⊢
  unfold fw_46 at h2
  exact cj_15 (fun z22 s21 k1 l1 => ⟨(fun c2 => cj_46_p26 hQ (k1.1 c2) (l1.1 c2)), (fun c2 => ⟨(k1.2 c2).1, cj_46_p26 hQ (k1.2 c2).2 ((l1.2 c2) (k1.2 c2).1)⟩)⟩) h1 h2
def fw_47 (a1 : Int) (Q : Bool → lf_Z → Prop) (s : lf_Z) : Prop := lf_R a1 → ((a1 < 8 → (fw_31 (fun s22 => (Q true s22)) s)) ∧ (¬ (a1 < 8) → (fw_39 3 (fun s23 => (Q false s23)) s)))
theorem cj_47 {Q1 Q2 Q3 : Bool → lf_Z → Prop} {a1 : Int} {s : lf_Z} (hQ : ∀ (r : Bool) (s : lf_Z), Q1 r s → Q2 r s → Q3 r s) (h1 : fm_47 a1 Q1 s) (h2 : fw_47 a1 Q2 s) : fm_47 a1 Q3 s := by
  unfold fm_47 at h1 ⊢
  unfold fw_47 at h2
  exact ⟨h1.1, ⟨(fun c2 => cj_31 (fun s22 k3 l3 => hQ _ _  k3 l3) (h1.2.1 c2) ((h2 h1.1).1 c2)), (fun c2 => cj_39 (fun s23 k5 l5 => hQ _ _  k5 l5) (h1.2.2 c2) ((h2 h1.1).2 c2))⟩⟩
def fw_53 (t0 : Nat) (a1 : Int) (Q : lf_Z → Prop) (s : lf_Z) : Prop := lf_R a1 → ((a1 < 0 → (Q s)) ∧ (¬ (a1 < 0) → (lf_R (s.1 (35 + 7 * t0) 1) → ((s.1 (35 + 7 * t0) 1 ≤ a1 → (Q s)) ∧ (¬ (s.1 (35 + 7 * t0) 1 ≤ a1) → ((0 ≤ a1 ∧ a1 < 300) → (Q (lf_up s.1 (36 + 7 * t0) a1 (lf_w ((s.1 (36 + 7 * t0) a1) + (s.1 (35 + 7 * t0) 1))), s.2.1, s.2.2))))))))
theorem cj_53 {Q1 Q2 Q3 : lf_Z → Prop} {t0 : Nat} {a1 : Int} {s : lf_Z} (hQ : ∀ (s : lf_Z), Q1 s → Q2 s → Q3 s) (h1 : fm_53 t0 a1 Q1 s) (h2 : fw_53 t0 a1 Q2 s) : fm_53 t0 a1 Q3 s := by
  unfold fm_53 at h1 ⊢
  unfold fw_53 at h2
  exact ⟨h1.1, ⟨(fun c2 => hQ _  (h1.2.1 c2) ((h2 h1.1).1 c2)), (fun c2 => ⟨(h1.2.2 c2).1, ⟨(fun c5 => hQ _  ((h1.2.2 c2).2.1 c5) ((((h2 h1.1).2 c2) (h1.2.2 c2).1).1 c5)), (fun c5 => ⟨((h1.2.2 c2).2.2 c5).1, hQ _  ((h1.2.2 c2).2.2 c5).2 (((((h2 h1.1).2 c2) (h1.2.2 c2).1).2 c5) ((h1.2.2 c2).2.2 c5).1)⟩)⟩⟩)⟩⟩
def fw_55 (a0 : Int) (a1 : Int) (a2 : Int) (Q : Int → lf_Z → Prop) (s : lf_Z) : Prop := lf_R a2 → (lf_R a0 → (lf_R a1 → (lf_R (min a2 a0) → (Q (max a1 (min a2 a0)) s))))
theorem cj_55 {Q1 Q2 Q3 : Int → lf_Z → Prop} {a0 : Int} {a1 : Int} {a2 : Int} {s : lf_Z} (hQ : ∀ (r : Int) (s : lf_Z), Q1 r s → Q2 r s → Q3 r s) (h1 : fm_55 a0 a1 a2 Q1 s) (h2 : fw_55 a0 a1 a2 Q2 s) : fm_55 a0 a1 a2 Q3 s := by
  unfold fm_55 at h1 ⊢
  unfold fw_55 at h2
  exact ⟨h1.1, ⟨h1.2.1, ⟨h1.2.2.1, ⟨h1.2.2.2.1, hQ _ _  h1.2.2.2.2 ((((h2 h1.1) h1.2.1) h1.2.2.1) h1.2.2.2.1)⟩⟩⟩⟩
def fw_41_p32 (R42 : Int → (lf_Z → Prop) → lf_Z → Prop) (X7 : Int → lf_Z → Prop) (Q : lf_Z → Prop) (x1 : Int) (x2 : Int) (s : lf_Z) : Prop := fw_31 (fun s24 => (R42 x1 (fun s25 => ((s25.2.2 2 = none → (True)) ∧ (∀ t26 : Nat, s25.2.2 2 = some t26 → t26 < 4 → (fw_45 t26 (s.1 31 8) 0 (fun r28 s27 => (X7 (x2 + 1) s27)) s25)))) s24)) s
theorem cj_41_p32 {R421 R422 R423 : Int → (lf_Z → Prop) → lf_Z → Prop} {X71 X72 X73 : Int → lf_Z → Prop} {Q1 Q2 Q3 : lf_Z → Prop} {x1 : Int} {x2 : Int} {s : lf_Z} (hR42 : ∀ (v0 : Int) (Q1 Q2 Q3 : lf_Z → Prop) (s : lf_Z), (∀ (s : lf_Z), Q1 s → Q2 s → Q3 s) → R421 v0 Q1 s → R422 v0 Q2 s → R423 v0 Q3 s) (hX7 : ∀ (v0 : Int) (v1 : lf_Z), X71 v0 v1 → X72 v0 v1 → X73 v0 v1) (hQ : ∀ (s : lf_Z), Q1 s → Q2 s → Q3 s) (h1 : fm_41_p32 R421 X71 Q1 x1 x2 s) (h2 : fw_41_p32 R422 X72 Q2 x1 x2 s) : fm_41_p32 R423 X73 Q3 x1 x2 s := by
  unfold fm_41_p32 at h1 ⊢
  unfold fw_41_p32 at h2
  exact cj_31 (fun s24 k1 l1 => hR42 _ _ _ _ _ (fun s25 k2 l2 => ⟨(fun c3 => (k2.1 c3).elim), (fun t26 et26 => ⟨(k2.2 t26 et26).1, cj_45 (fun r28 s27 k6 l6 => hX7 _ _  k6 l6) (k2.2 t26 et26).2 (l2.2 t26 et26 (k2.2 t26 et26).1)⟩)⟩) k1 l1) h1 h2
def fw_41_p7 (R42 : Int → (lf_Z → Prop) → lf_Z → Prop) (Q : lf_Z → Prop) (x1 : Int) (X7 : Int → lf_Z → Prop) (x2 : Int) (s : lf_Z) : Prop := lf_R x2 → ((300 ≤ x2 → (Q s)) ∧ (¬ (300 ≤ x2) → (lf_R (s.1 31 8) → ((s.1 31 8 = 10 → (fw_41_p32 R42 X7 Q x1 x2 s)) ∧ (¬ (s.1 31 8 = 10) → ((s.1 31 8 ≠ 11 → (Q s)) ∧ (¬ (s.1 31 8 ≠ 11) → (fw_41_p32 R42 X7 Q x1 x2 s))))))))
theorem cj_41_p7 {R421 R422 R423 : Int → (lf_Z → Prop) → lf_Z → Prop} {X71 X72 X73 : Int → lf_Z → Prop} {Q1 Q2 Q3 : lf_Z → Prop} {x1 : Int} {x2 : Int} {s : lf_Z} (hR42 : ∀ (v0 : Int) (Q1 Q2 Q3 : lf_Z → Prop) (s : lf_Z), (∀ (s : lf_Z), Q1 s → Q2 s → Q3 s) → R421 v0 Q1 s → R422 v0 Q2 s → R423 v0 Q3 s) (hX7 : ∀ (v0 : Int) (v1 : lf_Z), X71 v0 v1 → X72 v0 v1 → X73 v0 v1) (hQ : ∀ (s : lf_Z), Q1 s → Q2 s → Q3 s) (h1 : fm_41_p7 R421 Q1 x1 X71 x2 s) (h2 : fw_41_p7 R422 Q2 x1 X72 x2 s) : fm_41_p7 R423 Q3 x1 X73 x2 s := by
  unfold fm_41_p7 at h1 ⊢
  unfold fw_41_p7 at h2
  exact ⟨h1.1, ⟨(fun c2 => hQ _  (h1.2.1 c2) ((h2 h1.1).1 c2)), (fun c2 => ⟨(h1.2.2 c2).1, ⟨(fun c5 => cj_41_p32 hR42 hX7 hQ ((h1.2.2 c2).2.1 c5) ((((h2 h1.1).2 c2) (h1.2.2 c2).1).1 c5)), (fun c5 => ⟨(fun c7 => hQ _  (((h1.2.2 c2).2.2 c5).1 c7) (((((h2 h1.1).2 c2) (h1.2.2 c2).1).2 c5).1 c7)), (fun c7 => cj_41_p32 hR42 hX7 hQ (((h1.2.2 c2).2.2 c5).2 c7) (((((h2 h1.1).2 c2) (h1.2.2 c2).1).2 c5).2 c7))⟩)⟩⟩)⟩⟩
def fw_41_p7L (R42 : Int → (lf_Z → Prop) → lf_Z → Prop) (Q : lf_Z → Prop) (x1 : Int) (x2 : Int) (s : lf_Z) : Prop := ∃ X7 : Int → lf_Z → Prop, (∀ (x2 : Int) (s : lf_Z), X7 x2 s → fw_41_p7 R42 Q x1 X7 x2 s) ∧ X7 x2 s
theorem cj_41_p7L {R421 R422 R423 : Int → (lf_Z → Prop) → lf_Z → Prop} {Q1 Q2 Q3 : lf_Z → Prop} {x1 : Int} {x2 : Int} {s : lf_Z} (hR42 : ∀ (v0 : Int) (Q1 Q2 Q3 : lf_Z → Prop) (s : lf_Z), (∀ (s : lf_Z), Q1 s → Q2 s → Q3 s) → R421 v0 Q1 s → R422 v0 Q2 s → R423 v0 Q3 s) (hQ : ∀ (s : lf_Z), Q1 s → Q2 s → Q3 s) (h1 : fm_41_p7L R421 Q1 x1 x2 s) (h2 : fw_41_p7L R422 Q2 x1 x2 s) : fm_41_p7L R423 Q3 x1 x2 s := by
  intro X0 hX0
  obtain ⟨Y, hY, hY0⟩ := h2
  exact h1 (fun v0 s => Y v0 s → X0 v0 s) (fun v0 s hb hy => hX0 v0 s (cj_41_p7 (hR42 := hR42) (X71 := fun v0 s => Y v0 s → X0 v0 s) (X72 := Y) (X73 := X0) (hX7 := fun v0 s a b => a b) hQ hb (hY v0 s hy))) hY0
def fw_41 (R42 : Int → (lf_Z → Prop) → lf_Z → Prop) (a1 : Int) (Q : lf_Z → Prop) (s : lf_Z) : Prop := R42 a1 (fun s21 => (fw_41_p7L R42 Q a1 0 s21)) s
theorem cj_41 {R421 R422 R423 : Int → (lf_Z → Prop) → lf_Z → Prop} {Q1 Q2 Q3 : lf_Z → Prop} {a1 : Int} {s : lf_Z} (hR42 : ∀ (v0 : Int) (Q1 Q2 Q3 : lf_Z → Prop) (s : lf_Z), (∀ (s : lf_Z), Q1 s → Q2 s → Q3 s) → R421 v0 Q1 s → R422 v0 Q2 s → R423 v0 Q3 s) (hQ : ∀ (s : lf_Z), Q1 s → Q2 s → Q3 s) (h1 : fm_41 R421 a1 Q1 s) (h2 : fw_41 R422 a1 Q2 s) : fm_41 R423 a1 Q3 s := by
  unfold fm_41 at h1 ⊢
  unfold fw_41 at h2
  exact hR42 _ _ _ _ _ (fun s21 k1 l1 => cj_41_p7L hR42 hQ k1 l1) h1 h2
def fw_42_p32 (R43 : Int → (lf_Z → Prop) → lf_Z → Prop) (X7 : Int → lf_Z → Prop) (Q : lf_Z → Prop) (x1 : Int) (x2 : Int) (s : lf_Z) : Prop := fw_31 (fun s24 => (R43 x1 (fun s25 => ((s25.2.2 2 = none → (True)) ∧ (∀ t26 : Nat, s25.2.2 2 = some t26 → t26 < 4 → (fw_45 t26 (s.1 31 8) 0 (fun r28 s27 => (X7 (x2 + 1) s27)) s25)))) s24)) s
theorem cj_42_p32 {R431 R432 R433 : Int → (lf_Z → Prop) → lf_Z → Prop} {X71 X72 X73 : Int → lf_Z → Prop} {Q1 Q2 Q3 : lf_Z → Prop} {x1 : Int} {x2 : Int} {s : lf_Z} (hR43 : ∀ (v0 : Int) (Q1 Q2 Q3 : lf_Z → Prop) (s : lf_Z), (∀ (s : lf_Z), Q1 s → Q2 s → Q3 s) → R431 v0 Q1 s → R432 v0 Q2 s → R433 v0 Q3 s) (hX7 : ∀ (v0 : Int) (v1 : lf_Z), X71 v0 v1 → X72 v0 v1 → X73 v0 v1) (hQ : ∀ (s : lf_Z), Q1 s → Q2 s → Q3 s) (h1 : fm_42_p32 R431 X71 Q1 x1 x2 s) (h2 : fw_42_p32 R432 X72 Q2 x1 x2 s) : fm_42_p32 R433 X73 Q3 x1 x2 s := by
  unfold fm_42_p32 at h1 ⊢
  unfold fw_42_p32 at h2
  exact cj_31 (fun s24 k1 l1 => hR43 _ _ _ _ _ (fun s25 k2 l2 => ⟨(fun c3 => (k2.1 c3).elim), (fun t26 et26 => ⟨(k2.2 t26 et26).1, cj_45 (fun r28 s27 k6 l6 => hX7 _ _  k6 l6) (k2.2 t26 et26).2 (l2.2 t26 et26 (k2.2 t26 et26).1)⟩)⟩) k1 l1) h1 h2
def fw_42_p7 (R43 : Int → (lf_Z → Prop) → lf_Z → Prop) (Q : lf_Z → Prop) (x1 : Int) (X7 : Int → lf_Z → Prop) (x2 : Int) (s : lf_Z) : Prop := lf_R x2 → ((300 ≤ x2 → (Q s)) ∧ (¬ (300 ≤ x2) → (lf_R (s.1 31 8) → ((s.1 31 8 = 12 → (fw_42_p32 R43 X7 Q x1 x2 s)) ∧ (¬ (s.1 31 8 = 12) → ((s.1 31 8 ≠ 13 → (Q s)) ∧ (¬ (s.1 31 8 ≠ 13) → (fw_42_p32 R43 X7 Q x1 x2 s))))))))
theorem cj_42_p7 {R431 R432 R433 : Int → (lf_Z → Prop) → lf_Z → Prop} {X71 X72 X73 : Int → lf_Z → Prop} {Q1 Q2 Q3 : lf_Z → Prop} {x1 : Int} {x2 : Int} {s : lf_Z} (hR43 : ∀ (v0 : Int) (Q1 Q2 Q3 : lf_Z → Prop) (s : lf_Z), (∀ (s : lf_Z), Q1 s → Q2 s → Q3 s) → R431 v0 Q1 s → R432 v0 Q2 s → R433 v0 Q3 s) (hX7 : ∀ (v0 : Int) (v1 : lf_Z), X71 v0 v1 → X72 v0 v1 → X73 v0 v1) (hQ : ∀ (s : lf_Z), Q1 s → Q2 s → Q3 s) (h1 : fm_42_p7 R431 Q1 x1 X71 x2 s) (h2 : fw_42_p7 R432 Q2 x1 X72 x2 s) : fm_42_p7 R433 Q3 x1 X73 x2 s := by
  unfold fm_42_p7 at h1 ⊢
  unfold fw_42_p7 at h2
  exact ⟨h1.1, ⟨(fun c2 => hQ _  (h1.2.1 c2) ((h2 h1.1).1 c2)), (fun c2 => ⟨(h1.2.2 c2).1, ⟨(fun c5 => cj_42_p32 hR43 hX7 hQ ((h1.2.2 c2).2.1 c5) ((((h2 h1.1).2 c2) (h1.2.2 c2).1).1 c5)), (fun c5 => ⟨(fun c7 => hQ _  (((h1.2.2 c2).2.2 c5).1 c7) (((((h2 h1.1).2 c2) (h1.2.2 c2).1).2 c5).1 c7)), (fun c7 => cj_42_p32 hR43 hX7 hQ (((h1.2.2 c2).2.2 c5).2 c7) (((((h2 h1.1).2 c2) (h1.2.2 c2).1).2 c5).2 c7))⟩)⟩⟩)⟩⟩
def fw_42_p7L (R43 : Int → (lf_Z → Prop) → lf_Z → Prop) (Q : lf_Z → Prop) (x1 : Int) (x2 : Int) (s : lf_Z) : Prop := ∃ X7 : Int → lf_Z → Prop, (∀ (x2 : Int) (s : lf_Z), X7 x2 s → fw_42_p7 R43 Q x1 X7 x2 s) ∧ X7 x2 s
theorem cj_42_p7L {R431 R432 R433 : Int → (lf_Z → Prop) → lf_Z → Prop} {Q1 Q2 Q3 : lf_Z → Prop} {x1 : Int} {x2 : Int} {s : lf_Z} (hR43 : ∀ (v0 : Int) (Q1 Q2 Q3 : lf_Z → Prop) (s : lf_Z), (∀ (s : lf_Z), Q1 s → Q2 s → Q3 s) → R431 v0 Q1 s → R432 v0 Q2 s → R433 v0 Q3 s) (hQ : ∀ (s : lf_Z), Q1 s → Q2 s → Q3 s) (h1 : fm_42_p7L R431 Q1 x1 x2 s) (h2 : fw_42_p7L R432 Q2 x1 x2 s) : fm_42_p7L R433 Q3 x1 x2 s := by
  intro X0 hX0
  obtain ⟨Y, hY, hY0⟩ := h2
  exact h1 (fun v0 s => Y v0 s → X0 v0 s) (fun v0 s hb hy => hX0 v0 s (cj_42_p7 (hR43 := hR43) (X71 := fun v0 s => Y v0 s → X0 v0 s) (X72 := Y) (X73 := X0) (hX7 := fun v0 s a b => a b) hQ hb (hY v0 s hy))) hY0
def fw_42 (R43 : Int → (lf_Z → Prop) → lf_Z → Prop) (a1 : Int) (Q : lf_Z → Prop) (s : lf_Z) : Prop := R43 a1 (fun s21 => (fw_42_p7L R43 Q a1 0 s21)) s
theorem cj_42 {R431 R432 R433 : Int → (lf_Z → Prop) → lf_Z → Prop} {Q1 Q2 Q3 : lf_Z → Prop} {a1 : Int} {s : lf_Z} (hR43 : ∀ (v0 : Int) (Q1 Q2 Q3 : lf_Z → Prop) (s : lf_Z), (∀ (s : lf_Z), Q1 s → Q2 s → Q3 s) → R431 v0 Q1 s → R432 v0 Q2 s → R433 v0 Q3 s) (hQ : ∀ (s : lf_Z), Q1 s → Q2 s → Q3 s) (h1 : fm_42 R431 a1 Q1 s) (h2 : fw_42 R432 a1 Q2 s) : fm_42 R433 a1 Q3 s := by
  unfold fm_42 at h1 ⊢
  unfold fw_42 at h2
  exact hR43 _ _ _ _ _ (fun s21 k1 l1 => cj_42_p7L hR43 hQ k1 l1) h1 h2
def fw_43 (R41 : Int → (lf_Z → Prop) → lf_Z → Prop) (R43 : Int → (lf_Z → Prop) → lf_Z → Prop) (R49 : Int → (lf_Z → Prop) → lf_Z → Prop) (R54 : Int → (lf_Z → Prop) → lf_Z → Prop) (a1 : Int) (Q : lf_Z → Prop) (s : lf_Z) : Prop := lf_R (s.1 31 8) → ((s.1 31 8 ≠ 2 ∧ s.1 31 8 ≠ 3 ∧ s.1 31 8 ≠ 11 ∧ s.1 31 8 ≠ 14 ∧ s.1 31 8 ≠ 37 ∧ s.1 31 8 ≠ 41 → (fw_56 (fun s22 => (Q s22)) s)) ∧ (s.1 31 8 = 2 → ((s.2.2 2 = none → (fw_44 0 9999 (fun r25 s24 => (True)) s)) ∧ (∀ t23 : Nat, s.2.2 2 = some t23 → t23 < 4 → (fw_44 0 9999 (fun r27 s26 => (fw_45 t23 2 r27 (fun r29 s28 => (Q s28)) s26)) s)))) ∧ (s.1 31 8 = 3 → (fw_46 (fun s30 => (Q s30)) s)) ∧ (s.1 31 8 = 11 → (fw_47 a1 (fun z32 s31 => ((z32 = false → (Q s31)) ∧ (z32 = true → (R43 (a1 + 1) (fun s33 => ((s33.2.2 2 = none → (True)) ∧ (∀ t34 : Nat, s33.2.2 2 = some t34 → t34 < 4 → (fw_45 t34 18 0 (fun r36 s35 => (Q s35)) s33)))) s31)))) s)) ∧ (s.1 31 8 = 14 → (fw_47 a1 (fun z38 s37 => ((z38 = false → (Q s37)) ∧ (z38 = true → (R41 (a1 + 1) (fun s39 => (fw_48 15 (fun s40 => (Q s40)) s39)) s37)))) s)) ∧ (s.1 31 8 = 37 → (fw_47 a1 (fun z42 s41 => ((z42 = false → (Q s41)) ∧ (z42 = true → (R49 (a1 + 1) (fun s43 => (Q s43)) s41)))) s)) ∧ (s.1 31 8 = 41 → (fw_47 a1 (fun z45 s44 => ((z45 = false → (Q s44)) ∧ (z45 = true → (R54 (a1 + 1) (fun s46 => (Q s46)) s44)))) s)))
theorem cj_43 {R411 R412 R413 : Int → (lf_Z → Prop) → lf_Z → Prop} {R431 R432 R433 : Int → (lf_Z → Prop) → lf_Z → Prop} {R491 R492 R493 : Int → (lf_Z → Prop) → lf_Z → Prop} {R541 R542 R543 : Int → (lf_Z → Prop) → lf_Z → Prop} {Q1 Q2 Q3 : lf_Z → Prop} {a1 : Int} {s : lf_Z} (hR41 : ∀ (v0 : Int) (Q1 Q2 Q3 : lf_Z → Prop) (s : lf_Z), (∀ (s : lf_Z), Q1 s → Q2 s → Q3 s) → R411 v0 Q1 s → R412 v0 Q2 s → R413 v0 Q3 s) (hR43 : ∀ (v0 : Int) (Q1 Q2 Q3 : lf_Z → Prop) (s : lf_Z), (∀ (s : lf_Z), Q1 s → Q2 s → Q3 s) → R431 v0 Q1 s → R432 v0 Q2 s → R433 v0 Q3 s) (hR49 : ∀ (v0 : Int) (Q1 Q2 Q3 : lf_Z → Prop) (s : lf_Z), (∀ (s : lf_Z), Q1 s → Q2 s → Q3 s) → R491 v0 Q1 s → R492 v0 Q2 s → R493 v0 Q3 s) (hR54 : ∀ (v0 : Int) (Q1 Q2 Q3 : lf_Z → Prop) (s : lf_Z), (∀ (s : lf_Z), Q1 s → Q2 s → Q3 s) → R541 v0 Q1 s → R542 v0 Q2 s → R543 v0 Q3 s) (hQ : ∀ (s : lf_Z), Q1 s → Q2 s → Q3 s) (h1 : fm_43 R411 R431 R491 R541 a1 Q1 s) (h2 : fw_43 R412 R432 R492 R542 a1 Q2 s) : fm_43 R413 R433 R493 R543 a1 Q3 s := by
  unfold fm_43 at h1 ⊢
  unfold fw_43 at h2
  exact ⟨h1.1, ⟨(fun c2 => cj_56 (fun s22 k3 l3 => hQ _  k3 l3) (h1.2.1 c2) ((h2 h1.1).1 c2)), (fun c2 => ⟨(fun c5 => cj_44 (fun r25 s24 k6 l6 => k6.elim) ((h1.2.2.1 c2).1 c5) (((h2 h1.1).2.1 c2).1 c5)), (fun t23 et23 => ⟨((h1.2.2.1 c2).2 t23 et23).1, cj_44 (fun r27 s26 k9 l9 => cj_45 (fun r29 s28 k10 l10 => hQ _  k10 l10) k9 l9) ((h1.2.2.1 c2).2 t23 et23).2 (((h2 h1.1).2.1 c2).2 t23 et23 ((h1.2.2.1 c2).2 t23 et23).1)⟩)⟩), (fun c2 => cj_46 (fun s30 k12 l12 => hQ _  k12 l12) (h1.2.2.2.1 c2) ((h2 h1.1).2.2.1 c2)), (fun c2 => cj_47 (fun z32 s31 k14 l14 => ⟨(fun c15 => hQ _  (k14.1 c15) (l14.1 c15)), (fun c15 => hR43 _ _ _ _ _ (fun s33 k17 l17 => ⟨(fun c18 => (k17.1 c18).elim), (fun t34 et34 => ⟨(k17.2 t34 et34).1, cj_45 (fun r36 s35 k21 l21 => hQ _  k21 l21) (k17.2 t34 et34).2 (l17.2 t34 et34 (k17.2 t34 et34).1)⟩)⟩) (k14.2 c15) (l14.2 c15))⟩) (h1.2.2.2.2.1 c2) ((h2 h1.1).2.2.2.1 c2)), (fun c2 => cj_47 (fun z38 s37 k23 l23 => ⟨(fun c24 => hQ _  (k23.1 c24) (l23.1 c24)), (fun c24 => hR41 _ _ _ _ _ (fun s39 k26 l26 => cj_48 (fun s40 k27 l27 => hQ _  k27 l27) k26 l26) (k23.2 c24) (l23.2 c24))⟩) (h1.2.2.2.2.2.1 c2) ((h2 h1.1).2.2.2.2.1 c2)), (fun c2 => cj_47 (fun z42 s41 k29 l29 => ⟨(fun c30 => hQ _  (k29.1 c30) (l29.1 c30)), (fun c30 => hR49 _ _ _ _ _ (fun s43 k32 l32 => hQ _  k32 l32) (k29.2 c30) (l29.2 c30))⟩) (h1.2.2.2.2.2.2.1 c2) ((h2 h1.1).2.2.2.2.2.1 c2)), (fun c2 => cj_47 (fun z45 s44 k34 l34 => ⟨(fun c35 => hQ _  (k34.1 c35) (l34.1 c35)), (fun c35 => hR54 _ _ _ _ _ (fun s46 k37 l37 => hQ _  k37 l37) (k34.2 c35) (l34.2 c35))⟩) (h1.2.2.2.2.2.2.2 c2) ((h2 h1.1).2.2.2.2.2.2 c2))⟩⟩
def fw_49 (R41 : Int → (lf_Z → Prop) → lf_Z → Prop) (R50 : Int → (lf_Z → Prop) → lf_Z → Prop) (a1 : Int) (Q : lf_Z → Prop) (s : lf_Z) : Prop := R50 a1 (fun s21 => (fw_48 38 (fun s22 => ((s22.2.2 2 = none → (True)) ∧ (∀ t23 : Nat, s22.2.2 2 = some t23 → t23 < 4 → (fw_45 t23 38 0 (fun r25 s24 => (R41 a1 (fun s26 => (fw_48 39 (fun s27 => ((s27.2.2 2 = none → (True)) ∧ (∀ t28 : Nat, s27.2.2 2 = some t28 → t28 < 4 → (fw_45 t28 39 0 (fun r30 s29 => ((s29.2.2 2 = none → (True)) ∧ (∀ t31 : Nat, s29.2.2 2 = some t31 → t31 < 4 → (fw_53 t31 r25 (fun s32 => (R41 a1 (fun s33 => ((s33.2.2 2 = none → (True)) ∧ (∀ t34 : Nat, s33.2.2 2 = some t34 → t34 < 4 → (fw_53 t34 r30 (fun s35 => (fw_48 40 (fun s36 => (Q s36)) s35)) s33)))) s32)) s29)))) s27)))) s26)) s24)) s22)))) s21)) s
theorem cj_49 {R411 R412 R413 : Int → (lf_Z → Prop) → lf_Z → Prop} {R501 R502 R503 : Int → (lf_Z → Prop) → lf_Z → Prop} {Q1 Q2 Q3 : lf_Z → Prop} {a1 : Int} {s : lf_Z} (hR41 : ∀ (v0 : Int) (Q1 Q2 Q3 : lf_Z → Prop) (s : lf_Z), (∀ (s : lf_Z), Q1 s → Q2 s → Q3 s) → R411 v0 Q1 s → R412 v0 Q2 s → R413 v0 Q3 s) (hR50 : ∀ (v0 : Int) (Q1 Q2 Q3 : lf_Z → Prop) (s : lf_Z), (∀ (s : lf_Z), Q1 s → Q2 s → Q3 s) → R501 v0 Q1 s → R502 v0 Q2 s → R503 v0 Q3 s) (hQ : ∀ (s : lf_Z), Q1 s → Q2 s → Q3 s) (h1 : fm_49 R411 R501 a1 Q1 s) (h2 : fw_49 R412 R502 a1 Q2 s) : fm_49 R413 R503 a1 Q3 s := by
  unfold fm_49 at h1 ⊢
  unfold fw_49 at h2
  exact hR50 _ _ _ _ _ (fun s21 k1 l1 => cj_48 (fun s22 k2 l2 => ⟨(fun c3 => (k2.1 c3).elim), (fun t23 et23 => ⟨(k2.2 t23 et23).1, cj_45 (fun r25 s24 k6 l6 => hR41 _ _ _ _ _ (fun s26 k7 l7 => cj_48 (fun s27 k8 l8 => ⟨(fun c9 => (k8.1 c9).elim), (fun t28 et28 => ⟨(k8.2 t28 et28).1, cj_45 (fun r30 s29 k12 l12 => ⟨(fun c13 => (k12.1 c13).elim), (fun t31 et31 => ⟨(k12.2 t31 et31).1, cj_53 (fun s32 k16 l16 => hR41 _ _ _ _ _ (fun s33 k17 l17 => ⟨(fun c18 => (k17.1 c18).elim), (fun t34 et34 => ⟨(k17.2 t34 et34).1, cj_53 (fun s35 k21 l21 => cj_48 (fun s36 k22 l22 => hQ _  k22 l22) k21 l21) (k17.2 t34 et34).2 (l17.2 t34 et34 (k17.2 t34 et34).1)⟩)⟩) k16 l16) (k12.2 t31 et31).2 (l12.2 t31 et31 (k12.2 t31 et31).1)⟩)⟩) (k8.2 t28 et28).2 (l8.2 t28 et28 (k8.2 t28 et28).1)⟩)⟩) k7 l7) k6 l6) (k2.2 t23 et23).2 (l2.2 t23 et23 (k2.2 t23 et23).1)⟩)⟩) k1 l1) h1 h2
def fw_54_p29 (R41 : Int → (lf_Z → Prop) → lf_Z → Prop) (Q : lf_Z → Prop) (x1 : Int) (y0 : Int) (s : lf_Z) : Prop := fw_55 (x1 - 1) 0 7 (fun r23 s22 => (fw_48 3 (fun s24 => (fw_48 42 (fun s25 => (R41 x1 (fun s26 => (fw_48 43 (fun s27 => ((s27.2.2 2 = none → (True)) ∧ (∀ t28 : Nat, s27.2.2 2 = some t28 → t28 < 4 → (fw_45 t28 43 r23 (fun r30 s29 => ((0 ≤ y0 ∧ y0 < 26) → (R41 x1 (fun s32 => (fw_48 40 (fun s33 => (Q s33)) (lf_up s32.1 33 y0 (s29.1 33 y0), s32.2.1, s32.2.2))) (lf_up s29.1 33 y0 r23, s29.2.1, s29.2.2)))) s27)))) s26)) s25)) s24)) s22)) s
theorem cj_54_p29 {R411 R412 R413 : Int → (lf_Z → Prop) → lf_Z → Prop} {Q1 Q2 Q3 : lf_Z → Prop} {x1 : Int} {y0 : Int} {s : lf_Z} (hR41 : ∀ (v0 : Int) (Q1 Q2 Q3 : lf_Z → Prop) (s : lf_Z), (∀ (s : lf_Z), Q1 s → Q2 s → Q3 s) → R411 v0 Q1 s → R412 v0 Q2 s → R413 v0 Q3 s) (hQ : ∀ (s : lf_Z), Q1 s → Q2 s → Q3 s) (h1 : fm_54_p29 R411 Q1 x1 y0 s) (h2 : fw_54_p29 R412 Q2 x1 y0 s) : fm_54_p29 R413 Q3 x1 y0 s := by
  unfold fm_54_p29 at h1 ⊢
  unfold fw_54_p29 at h2
  exact cj_55 (fun r23 s22 k1 l1 => cj_48 (fun s24 k2 l2 => cj_48 (fun s25 k3 l3 => hR41 _ _ _ _ _ (fun s26 k4 l4 => cj_48 (fun s27 k5 l5 => ⟨(fun c6 => (k5.1 c6).elim), (fun t28 et28 => ⟨(k5.2 t28 et28).1, cj_45 (fun r30 s29 k9 l9 => ⟨k9.1, hR41 _ _ _ _ _ (fun s32 k11 l11 => cj_48 (fun s33 k12 l12 => hQ _  k12 l12) k11 l11) k9.2 (l9 k9.1)⟩) (k5.2 t28 et28).2 (l5.2 t28 et28 (k5.2 t28 et28).1)⟩)⟩) k4 l4) k3 l3) k2 l2) k1 l1) h1 h2
def fw_54_p28 (R41 : Int → (lf_Z → Prop) → lf_Z → Prop) (Q : lf_Z → Prop) (x1 : Int) (s : lf_Z) : Prop := fw_54_p29 R41 Q x1 0 s
theorem cj_54_p28 {R411 R412 R413 : Int → (lf_Z → Prop) → lf_Z → Prop} {Q1 Q2 Q3 : lf_Z → Prop} {x1 : Int} {s : lf_Z} (hR41 : ∀ (v0 : Int) (Q1 Q2 Q3 : lf_Z → Prop) (s : lf_Z), (∀ (s : lf_Z), Q1 s → Q2 s → Q3 s) → R411 v0 Q1 s → R412 v0 Q2 s → R413 v0 Q3 s) (hQ : ∀ (s : lf_Z), Q1 s → Q2 s → Q3 s) (h1 : fm_54_p28 R411 Q1 x1 s) (h2 : fw_54_p28 R412 Q2 x1 s) : fm_54_p28 R413 Q3 x1 s := by
  unfold fm_54_p28 at h1 ⊢
  unfold fw_54_p28 at h2
  exact cj_54_p29 hR41 hQ h1 h2
def fw_54 (R41 : Int → (lf_Z → Prop) → lf_Z → Prop) (a1 : Int) (Q : lf_Z → Prop) (s : lf_Z) : Prop := lf_R (s.1 31 8) → ((s.1 31 8 ≠ 3 → (fw_54_p28 R41 Q a1 s)) ∧ (¬ (s.1 31 8 ≠ 3) → (fw_15 (s.1 31 10) 0 25 (fun z35 s34 => ((z35 = false → (fw_54_p28 R41 Q a1 s34)) ∧ (z35 = true → (fw_54_p29 R41 Q a1 (s34.1 31 10) s34)))) s)))
theorem cj_54 {R411 R412 R413 : Int → (lf_Z → Prop) → lf_Z → Prop} {Q1 Q2 Q3 : lf_Z → Prop} {a1 : Int} {s : lf_Z} (hR41 : ∀ (v0 : Int) (Q1 Q2 Q3 : lf_Z → Prop) (s : lf_Z), (∀ (s : lf_Z), Q1 s → Q2 s → Q3 s) → R411 v0 Q1 s → R412 v0 Q2 s → R413 v0 Q3 s) (hQ : ∀ (s : lf_Z), Q1 s → Q2 s → Q3 s) (h1 : fm_54 R411 a1 Q1 s) (h2 : fw_54 R412 a1 Q2 s) : fm_54 R413 a1 Q3 s := by
  unfold fm_54 at h1 ⊢
  unfold fw_54 at h2
  exact ⟨h1.1, ⟨(fun c2 => cj_54_p28 hR41 hQ (h1.2.1 c2) ((h2 h1.1).1 c2)), (fun c2 => cj_15 (fun z35 s34 k4 l4 => ⟨(fun c5 => cj_54_p28 hR41 hQ (k4.1 c5) (l4.1 c5)), (fun c5 => cj_54_p29 hR41 hQ (k4.2 c5) (l4.2 c5))⟩) (h1.2.2 c2) ((h2 h1.1).2 c2))⟩⟩
def fw_50_p7 (R51 : Int → (lf_Z → Prop) → lf_Z → Prop) (Q : lf_Z → Prop) (x1 : Int) (X7 : Int → lf_Z → Prop) (x2 : Int) (s : lf_Z) : Prop := lf_R x2 → ((300 ≤ x2 → (Q s)) ∧ (¬ (300 ≤ x2) → (lf_R (s.1 31 8) → ((s.1 31 8 ≠ 46 → (Q s)) ∧ (¬ (s.1 31 8 ≠ 46) → (fw_31 (fun s24 => (R51 x1 (fun s25 => ((s25.2.2 2 = none → (True)) ∧ (∀ t26 : Nat, s25.2.2 2 = some t26 → t26 < 4 → (fw_45 t26 46 0 (fun r28 s27 => (X7 (x2 + 1) s27)) s25)))) s24)) s))))))
theorem cj_50_p7 {R511 R512 R513 : Int → (lf_Z → Prop) → lf_Z → Prop} {X71 X72 X73 : Int → lf_Z → Prop} {Q1 Q2 Q3 : lf_Z → Prop} {x1 : Int} {x2 : Int} {s : lf_Z} (hR51 : ∀ (v0 : Int) (Q1 Q2 Q3 : lf_Z → Prop) (s : lf_Z), (∀ (s : lf_Z), Q1 s → Q2 s → Q3 s) → R511 v0 Q1 s → R512 v0 Q2 s → R513 v0 Q3 s) (hX7 : ∀ (v0 : Int) (v1 : lf_Z), X71 v0 v1 → X72 v0 v1 → X73 v0 v1) (hQ : ∀ (s : lf_Z), Q1 s → Q2 s → Q3 s) (h1 : fm_50_p7 R511 Q1 x1 X71 x2 s) (h2 : fw_50_p7 R512 Q2 x1 X72 x2 s) : fm_50_p7 R513 Q3 x1 X73 x2 s := by
  unfold fm_50_p7 at h1 ⊢
  unfold fw_50_p7 at h2
  exact ⟨h1.1, ⟨(fun c2 => hQ _  (h1.2.1 c2) ((h2 h1.1).1 c2)), (fun c2 => ⟨(h1.2.2 c2).1, ⟨(fun c5 => hQ _  ((h1.2.2 c2).2.1 c5) ((((h2 h1.1).2 c2) (h1.2.2 c2).1).1 c5)), (fun c5 => cj_31 (fun s24 k7 l7 => hR51 _ _ _ _ _ (fun s25 k8 l8 => ⟨(fun c9 => (k8.1 c9).elim), (fun t26 et26 => ⟨(k8.2 t26 et26).1, cj_45 (fun r28 s27 k12 l12 => hX7 _ _  k12 l12) (k8.2 t26 et26).2 (l8.2 t26 et26 (k8.2 t26 et26).1)⟩)⟩) k7 l7) ((h1.2.2 c2).2.2 c5) ((((h2 h1.1).2 c2) (h1.2.2 c2).1).2 c5))⟩⟩)⟩⟩
def fw_50_p7L (R51 : Int → (lf_Z → Prop) → lf_Z → Prop) (Q : lf_Z → Prop) (x1 : Int) (x2 : Int) (s : lf_Z) : Prop := ∃ X7 : Int → lf_Z → Prop, (∀ (x2 : Int) (s : lf_Z), X7 x2 s → fw_50_p7 R51 Q x1 X7 x2 s) ∧ X7 x2 s
theorem cj_50_p7L {R511 R512 R513 : Int → (lf_Z → Prop) → lf_Z → Prop} {Q1 Q2 Q3 : lf_Z → Prop} {x1 : Int} {x2 : Int} {s : lf_Z} (hR51 : ∀ (v0 : Int) (Q1 Q2 Q3 : lf_Z → Prop) (s : lf_Z), (∀ (s : lf_Z), Q1 s → Q2 s → Q3 s) → R511 v0 Q1 s → R512 v0 Q2 s → R513 v0 Q3 s) (hQ : ∀ (s : lf_Z), Q1 s → Q2 s → Q3 s) (h1 : fm_50_p7L R511 Q1 x1 x2 s) (h2 : fw_50_p7L R512 Q2 x1 x2 s) : fm_50_p7L R513 Q3 x1 x2 s := by
  intro X0 hX0
  obtain ⟨Y, hY, hY0⟩ := h2
  exact h1 (fun v0 s => Y v0 s → X0 v0 s) (fun v0 s hb hy => hX0 v0 s (cj_50_p7 (hR51 := hR51) (X71 := fun v0 s => Y v0 s → X0 v0 s) (X72 := Y) (X73 := X0) (hX7 := fun v0 s a b => a b) hQ hb (hY v0 s hy))) hY0
def fw_50 (R51 : Int → (lf_Z → Prop) → lf_Z → Prop) (a1 : Int) (Q : lf_Z → Prop) (s : lf_Z) : Prop := R51 a1 (fun s21 => (fw_50_p7L R51 Q a1 0 s21)) s
theorem cj_50 {R511 R512 R513 : Int → (lf_Z → Prop) → lf_Z → Prop} {Q1 Q2 Q3 : lf_Z → Prop} {a1 : Int} {s : lf_Z} (hR51 : ∀ (v0 : Int) (Q1 Q2 Q3 : lf_Z → Prop) (s : lf_Z), (∀ (s : lf_Z), Q1 s → Q2 s → Q3 s) → R511 v0 Q1 s → R512 v0 Q2 s → R513 v0 Q3 s) (hQ : ∀ (s : lf_Z), Q1 s → Q2 s → Q3 s) (h1 : fm_50 R511 a1 Q1 s) (h2 : fw_50 R512 a1 Q2 s) : fm_50 R513 a1 Q3 s := by
  unfold fm_50 at h1 ⊢
  unfold fw_50 at h2
  exact hR51 _ _ _ _ _ (fun s21 k1 l1 => cj_50_p7L hR51 hQ k1 l1) h1 h2
def fw_51_p7 (R52 : Int → (lf_Z → Prop) → lf_Z → Prop) (Q : lf_Z → Prop) (x1 : Int) (X7 : Int → lf_Z → Prop) (x2 : Int) (s : lf_Z) : Prop := lf_R x2 → ((300 ≤ x2 → (Q s)) ∧ (¬ (300 ≤ x2) → (lf_R (s.1 31 8) → ((s.1 31 8 ≠ 45 → (Q s)) ∧ (¬ (s.1 31 8 ≠ 45) → (fw_31 (fun s24 => (R52 x1 (fun s25 => ((s25.2.2 2 = none → (True)) ∧ (∀ t26 : Nat, s25.2.2 2 = some t26 → t26 < 4 → (fw_45 t26 45 0 (fun r28 s27 => (X7 (x2 + 1) s27)) s25)))) s24)) s))))))
theorem cj_51_p7 {R521 R522 R523 : Int → (lf_Z → Prop) → lf_Z → Prop} {X71 X72 X73 : Int → lf_Z → Prop} {Q1 Q2 Q3 : lf_Z → Prop} {x1 : Int} {x2 : Int} {s : lf_Z} (hR52 : ∀ (v0 : Int) (Q1 Q2 Q3 : lf_Z → Prop) (s : lf_Z), (∀ (s : lf_Z), Q1 s → Q2 s → Q3 s) → R521 v0 Q1 s → R522 v0 Q2 s → R523 v0 Q3 s) (hX7 : ∀ (v0 : Int) (v1 : lf_Z), X71 v0 v1 → X72 v0 v1 → X73 v0 v1) (hQ : ∀ (s : lf_Z), Q1 s → Q2 s → Q3 s) (h1 : fm_51_p7 R521 Q1 x1 X71 x2 s) (h2 : fw_51_p7 R522 Q2 x1 X72 x2 s) : fm_51_p7 R523 Q3 x1 X73 x2 s := by
  unfold fm_51_p7 at h1 ⊢
  unfold fw_51_p7 at h2
  exact ⟨h1.1, ⟨(fun c2 => hQ _  (h1.2.1 c2) ((h2 h1.1).1 c2)), (fun c2 => ⟨(h1.2.2 c2).1, ⟨(fun c5 => hQ _  ((h1.2.2 c2).2.1 c5) ((((h2 h1.1).2 c2) (h1.2.2 c2).1).1 c5)), (fun c5 => cj_31 (fun s24 k7 l7 => hR52 _ _ _ _ _ (fun s25 k8 l8 => ⟨(fun c9 => (k8.1 c9).elim), (fun t26 et26 => ⟨(k8.2 t26 et26).1, cj_45 (fun r28 s27 k12 l12 => hX7 _ _  k12 l12) (k8.2 t26 et26).2 (l8.2 t26 et26 (k8.2 t26 et26).1)⟩)⟩) k7 l7) ((h1.2.2 c2).2.2 c5) ((((h2 h1.1).2 c2) (h1.2.2 c2).1).2 c5))⟩⟩)⟩⟩
def fw_51_p7L (R52 : Int → (lf_Z → Prop) → lf_Z → Prop) (Q : lf_Z → Prop) (x1 : Int) (x2 : Int) (s : lf_Z) : Prop := ∃ X7 : Int → lf_Z → Prop, (∀ (x2 : Int) (s : lf_Z), X7 x2 s → fw_51_p7 R52 Q x1 X7 x2 s) ∧ X7 x2 s
theorem cj_51_p7L {R521 R522 R523 : Int → (lf_Z → Prop) → lf_Z → Prop} {Q1 Q2 Q3 : lf_Z → Prop} {x1 : Int} {x2 : Int} {s : lf_Z} (hR52 : ∀ (v0 : Int) (Q1 Q2 Q3 : lf_Z → Prop) (s : lf_Z), (∀ (s : lf_Z), Q1 s → Q2 s → Q3 s) → R521 v0 Q1 s → R522 v0 Q2 s → R523 v0 Q3 s) (hQ : ∀ (s : lf_Z), Q1 s → Q2 s → Q3 s) (h1 : fm_51_p7L R521 Q1 x1 x2 s) (h2 : fw_51_p7L R522 Q2 x1 x2 s) : fm_51_p7L R523 Q3 x1 x2 s := by
  intro X0 hX0
  obtain ⟨Y, hY, hY0⟩ := h2
  exact h1 (fun v0 s => Y v0 s → X0 v0 s) (fun v0 s hb hy => hX0 v0 s (cj_51_p7 (hR52 := hR52) (X71 := fun v0 s => Y v0 s → X0 v0 s) (X72 := Y) (X73 := X0) (hX7 := fun v0 s a b => a b) hQ hb (hY v0 s hy))) hY0
def fw_51 (R52 : Int → (lf_Z → Prop) → lf_Z → Prop) (a1 : Int) (Q : lf_Z → Prop) (s : lf_Z) : Prop := R52 a1 (fun s21 => (fw_51_p7L R52 Q a1 0 s21)) s
theorem cj_51 {R521 R522 R523 : Int → (lf_Z → Prop) → lf_Z → Prop} {Q1 Q2 Q3 : lf_Z → Prop} {a1 : Int} {s : lf_Z} (hR52 : ∀ (v0 : Int) (Q1 Q2 Q3 : lf_Z → Prop) (s : lf_Z), (∀ (s : lf_Z), Q1 s → Q2 s → Q3 s) → R521 v0 Q1 s → R522 v0 Q2 s → R523 v0 Q3 s) (hQ : ∀ (s : lf_Z), Q1 s → Q2 s → Q3 s) (h1 : fm_51 R521 a1 Q1 s) (h2 : fw_51 R522 a1 Q2 s) : fm_51 R523 a1 Q3 s := by
  unfold fm_51 at h1 ⊢
  unfold fw_51 at h2
  exact hR52 _ _ _ _ _ (fun s21 k1 l1 => cj_51_p7L hR52 hQ k1 l1) h1 h2
def fw_52 (R41 : Int → (lf_Z → Prop) → lf_Z → Prop) (R52 : Int → (lf_Z → Prop) → lf_Z → Prop) (a1 : Int) (Q : lf_Z → Prop) (s : lf_Z) : Prop := lf_R (s.1 31 8) → ((s.1 31 8 ≠ 44 → (R41 a1 (fun s22 => (fw_15 (s22.1 31 8) 4 9 (fun z24 s23 => ((z24 = true → (fw_31 (fun s25 => (R41 a1 (fun s26 => ((s26.2.2 2 = none → (True)) ∧ (∀ t27 : Nat, s26.2.2 2 = some t27 → t27 < 4 → (fw_45 t27 (s22.1 31 8) 0 (fun r29 s28 => (Q s28)) s26)))) s25)) s23)) ∧ (z24 = false → (fw_39 1 (fun s30 => (Q s30)) s23)))) s22)) s)) ∧ (¬ (s.1 31 8 ≠ 44) → (fw_47 a1 (fun z32 s31 => ((z32 = false → (Q s31)) ∧ (z32 = true → (R52 (a1 + 1) (fun s33 => ((s33.2.2 2 = none → (True)) ∧ (∀ t34 : Nat, s33.2.2 2 = some t34 → t34 < 4 → (fw_45 t34 44 0 (fun r36 s35 => (Q s35)) s33)))) s31)))) s)))
theorem cj_52 {R411 R412 R413 : Int → (lf_Z → Prop) → lf_Z → Prop} {R521 R522 R523 : Int → (lf_Z → Prop) → lf_Z → Prop} {Q1 Q2 Q3 : lf_Z → Prop} {a1 : Int} {s : lf_Z} (hR41 : ∀ (v0 : Int) (Q1 Q2 Q3 : lf_Z → Prop) (s : lf_Z), (∀ (s : lf_Z), Q1 s → Q2 s → Q3 s) → R411 v0 Q1 s → R412 v0 Q2 s → R413 v0 Q3 s) (hR52 : ∀ (v0 : Int) (Q1 Q2 Q3 : lf_Z → Prop) (s : lf_Z), (∀ (s : lf_Z), Q1 s → Q2 s → Q3 s) → R521 v0 Q1 s → R522 v0 Q2 s → R523 v0 Q3 s) (hQ : ∀ (s : lf_Z), Q1 s → Q2 s → Q3 s) (h1 : fm_52 R411 R521 a1 Q1 s) (h2 : fw_52 R412 R522 a1 Q2 s) : fm_52 R413 R523 a1 Q3 s := by
  unfold fm_52 at h1 ⊢
  unfold fw_52 at h2
  exact ⟨h1.1, ⟨(fun c2 => hR41 _ _ _ _ _ (fun s22 k3 l3 => cj_15 (fun z24 s23 k4 l4 => ⟨(fun c5 => cj_31 (fun s25 k6 l6 => hR41 _ _ _ _ _ (fun s26 k7 l7 => ⟨(fun c8 => (k7.1 c8).elim), (fun t27 et27 => ⟨(k7.2 t27 et27).1, cj_45 (fun r29 s28 k11 l11 => hQ _  k11 l11) (k7.2 t27 et27).2 (l7.2 t27 et27 (k7.2 t27 et27).1)⟩)⟩) k6 l6) (k4.1 c5) (l4.1 c5)), (fun c5 => cj_39 (fun s30 k13 l13 => hQ _  k13 l13) (k4.2 c5) (l4.2 c5))⟩) k3 l3) (h1.2.1 c2) ((h2 h1.1).1 c2)), (fun c2 => cj_47 (fun z32 s31 k15 l15 => ⟨(fun c16 => hQ _  (k15.1 c16) (l15.1 c16)), (fun c16 => hR52 _ _ _ _ _ (fun s33 k18 l18 => ⟨(fun c19 => (k18.1 c19).elim), (fun t34 et34 => ⟨(k18.2 t34 et34).1, cj_45 (fun r36 s35 k22 l22 => hQ _  k22 l22) (k18.2 t34 et34).2 (l18.2 t34 et34 (k18.2 t34 et34).1)⟩)⟩) (k15.2 c16) (l15.2 c16))⟩) (h1.2.2 c2) ((h2 h1.1).2 c2))⟩⟩
def fv_41T : Nat → (Int → (lf_Z → Prop) → lf_Z → Prop) × (Int → (lf_Z → Prop) → lf_Z → Prop) × (Int → (lf_Z → Prop) → lf_Z → Prop) × (Int → (lf_Z → Prop) → lf_Z → Prop) × (Int → (lf_Z → Prop) → lf_Z → Prop) × (Int → (lf_Z → Prop) → lf_Z → Prop) × (Int → (lf_Z → Prop) → lf_Z → Prop) × (Int → (lf_Z → Prop) → lf_Z → Prop)
  | 0 => (fun _ _ _ => True, fun _ _ _ => True, fun _ _ _ => True, fun _ _ _ => True, fun _ _ _ => True, fun _ _ _ => True, fun _ _ _ => True, fun _ _ _ => True)
  | n + 1 => (fw_41 ((fv_41T n).2.1), fw_42 ((fv_41T n).2.2.1), fw_43 ((fv_41T n).1) ((fv_41T n).2.2.1) ((fv_41T n).2.2.2.1) ((fv_41T n).2.2.2.2.1), fw_49 ((fv_41T n).1) ((fv_41T n).2.2.2.2.2.1), fw_54 ((fv_41T n).1), fw_50 ((fv_41T n).2.2.2.2.2.2.1), fw_51 ((fv_41T n).2.2.2.2.2.2.2), fw_52 ((fv_41T n).1) ((fv_41T n).2.2.2.2.2.2.2))
theorem ck_41T : ∀ n : Nat, (∀ (v0 : Int) (Q1 Q2 Q3 : lf_Z → Prop) (s : lf_Z), (∀ (s : lf_Z), Q1 s → Q2 s → Q3 s) → (fc_41T n).1 v0 Q1 s → (fv_41T n).1 v0 Q2 s → (fc_41T n).1 v0 Q3 s) ∧ (∀ (v0 : Int) (Q1 Q2 Q3 : lf_Z → Prop) (s : lf_Z), (∀ (s : lf_Z), Q1 s → Q2 s → Q3 s) → (fc_41T n).2.1 v0 Q1 s → (fv_41T n).2.1 v0 Q2 s → (fc_41T n).2.1 v0 Q3 s) ∧ (∀ (v0 : Int) (Q1 Q2 Q3 : lf_Z → Prop) (s : lf_Z), (∀ (s : lf_Z), Q1 s → Q2 s → Q3 s) → (fc_41T n).2.2.1 v0 Q1 s → (fv_41T n).2.2.1 v0 Q2 s → (fc_41T n).2.2.1 v0 Q3 s) ∧ (∀ (v0 : Int) (Q1 Q2 Q3 : lf_Z → Prop) (s : lf_Z), (∀ (s : lf_Z), Q1 s → Q2 s → Q3 s) → (fc_41T n).2.2.2.1 v0 Q1 s → (fv_41T n).2.2.2.1 v0 Q2 s → (fc_41T n).2.2.2.1 v0 Q3 s) ∧ (∀ (v0 : Int) (Q1 Q2 Q3 : lf_Z → Prop) (s : lf_Z), (∀ (s : lf_Z), Q1 s → Q2 s → Q3 s) → (fc_41T n).2.2.2.2.1 v0 Q1 s → (fv_41T n).2.2.2.2.1 v0 Q2 s → (fc_41T n).2.2.2.2.1 v0 Q3 s) ∧ (∀ (v0 : Int) (Q1 Q2 Q3 : lf_Z → Prop) (s : lf_Z), (∀ (s : lf_Z), Q1 s → Q2 s → Q3 s) → (fc_41T n).2.2.2.2.2.1 v0 Q1 s → (fv_41T n).2.2.2.2.2.1 v0 Q2 s → (fc_41T n).2.2.2.2.2.1 v0 Q3 s) ∧ (∀ (v0 : Int) (Q1 Q2 Q3 : lf_Z → Prop) (s : lf_Z), (∀ (s : lf_Z), Q1 s → Q2 s → Q3 s) → (fc_41T n).2.2.2.2.2.2.1 v0 Q1 s → (fv_41T n).2.2.2.2.2.2.1 v0 Q2 s → (fc_41T n).2.2.2.2.2.2.1 v0 Q3 s) ∧ (∀ (v0 : Int) (Q1 Q2 Q3 : lf_Z → Prop) (s : lf_Z), (∀ (s : lf_Z), Q1 s → Q2 s → Q3 s) → (fc_41T n).2.2.2.2.2.2.2 v0 Q1 s → (fv_41T n).2.2.2.2.2.2.2 v0 Q2 s → (fc_41T n).2.2.2.2.2.2.2 v0 Q3 s)
  | 0 => ⟨fun _ _ _ _ _ _ h1 _ => h1.elim, fun _ _ _ _ _ _ h1 _ => h1.elim, fun _ _ _ _ _ _ h1 _ => h1.elim, fun _ _ _ _ _ _ h1 _ => h1.elim, fun _ _ _ _ _ _ h1 _ => h1.elim, fun _ _ _ _ _ _ h1 _ => h1.elim, fun _ _ _ _ _ _ h1 _ => h1.elim, fun _ _ _ _ _ _ h1 _ => h1.elim⟩
  | n + 1 => ⟨fun _ _ _ _ _ hq h1 h2 => cj_41 (hR42 := (ck_41T n).2.1) hq h1 h2, fun _ _ _ _ _ hq h1 h2 => cj_42 (hR43 := (ck_41T n).2.2.1) hq h1 h2, fun _ _ _ _ _ hq h1 h2 => cj_43 (hR41 := (ck_41T n).1) (hR43 := (ck_41T n).2.2.1) (hR49 := (ck_41T n).2.2.2.1) (hR54 := (ck_41T n).2.2.2.2.1) hq h1 h2, fun _ _ _ _ _ hq h1 h2 => cj_49 (hR41 := (ck_41T n).1) (hR50 := (ck_41T n).2.2.2.2.2.1) hq h1 h2, fun _ _ _ _ _ hq h1 h2 => cj_54 (hR41 := (ck_41T n).1) hq h1 h2, fun _ _ _ _ _ hq h1 h2 => cj_50 (hR51 := (ck_41T n).2.2.2.2.2.2.1) hq h1 h2, fun _ _ _ _ _ hq h1 h2 => cj_51 (hR52 := (ck_41T n).2.2.2.2.2.2.2) hq h1 h2, fun _ _ _ _ _ hq h1 h2 => cj_52 (hR41 := (ck_41T n).1) (hR52 := (ck_41T n).2.2.2.2.2.2.2) hq h1 h2⟩
def fv_41 (a1 : Int) (Q : lf_Z → Prop) (s : lf_Z) : Prop := (fv_41T 200).1 a1 Q s
theorem ck_41 {a1 : Int} {Q1 Q2 Q3 : lf_Z → Prop} {s : lf_Z} (hQ : ∀ (s : lf_Z), Q1 s → Q2 s → Q3 s) (h1 : fc_41 a1 Q1 s) (h2 : fv_41 a1 Q2 s) : fc_41 a1 Q3 s := (ck_41T 200).1 _ _ _ _ _ hQ h1 h2
def fw_38_p146 (Q : lf_Z → Prop) (s : lf_Z) : Prop := fw_48 16 (fun s31 => (Q s31)) s
theorem cj_38_p146 {Q1 Q2 Q3 : lf_Z → Prop} {s : lf_Z} (hQ : ∀ (s : lf_Z), Q1 s → Q2 s → Q3 s) (h1 : fm_38_p146 Q1 s) (h2 : fw_38_p146 Q2 s) : fm_38_p146 Q3 s := by
  unfold fm_38_p146 at h1 ⊢
  unfold fw_38_p146 at h2
  exact cj_48 (fun s31 k1 l1 => hQ _  k1 l1) h1 h2
def fw_38 (Q : lf_Z → Prop) (s : lf_Z) : Prop := fw_15 (s.1 31 8) 20 32 (fun z22 s21 => ((z22 = true → ((s21.2.2 2 = none → (True)) ∧ (∀ t23 : Nat, s21.2.2 2 = some t23 → t23 < 4 → (fw_40 t23 ((s.1 31 8) - 20) (fun z25 s24 => ((z25 = false → ((s24.2.2 2 = none → (True)) ∧ (∀ t26 : Nat, s24.2.2 2 = some t26 → t26 < 4 → (lf_R (s24.1 (35 + 7 * t26) 7) → ((s24.1 (35 + 7 * t26) 7 < 24 → (fw_31 (fun s28 => (lf_R (s.1 31 8) → ((22 < s.1 31 8 → (fw_58 (s.1 31 8) (fun s30 => (fw_38_p146 Q s30)) s28)) ∧ (¬ (22 < s.1 31 8) → ((s28.2.2 2 = none → (True)) ∧ (∀ t32 : Nat, s28.2.2 2 = some t32 → t32 < 4 → ((s28.2.2 2 = none → (True)) ∧ (∀ t33 : Nat, s28.2.2 2 = some t33 → t33 < 4 → ((0 ≤ (s.1 31 8) - 20 ∧ (s.1 31 8) - 20 < 3) → (fv_41 0 (fun s35 => ((s35.2.2 2 = none → (True)) ∧ (∀ t36 : Nat, s35.2.2 2 = some t36 → t36 < 4 → ((s35.2.2 2 = none → (True)) ∧ (∀ t37 : Nat, s35.2.2 2 = some t37 → t37 < 4 → ((0 ≤ s35.1 31 6 ∧ s35.1 31 6 < 3) → ((s35.2.2 2 = none → (True)) ∧ (∀ t39 : Nat, s35.2.2 2 = some t39 → t39 < 4 → (fw_57 t39 (s.1 31 8) 0 0 (fun s40 => (fw_38_p146 Q s40)) (lf_up s35.1 (38 + 7 * t36) (s35.1 31 6) (s35.1 (35 + 7 * t37) 1), s35.2.1, s35.2.2)))))))))) (lf_up (lf_up s28.1 31 6 ((s.1 31 8) - 20)) (37 + 7 * t32) ((s.1 31 8) - 20) ((lf_up s28.1 31 6 ((s.1 31 8) - 20)) (35 + 7 * t33) 1), s28.2.1, s28.2.2))))))))))) s24)) ∧ (¬ (s24.1 (35 + 7 * t26) 7 < 24) → (fw_39 6 (fun s41 => (Q s41)) s24))))))) ∧ (z25 = true → (fw_39 4 (fun s42 => (Q s42)) s24)))) s21)))) ∧ (z22 = false → (fw_39 1 (fun s43 => (Q s43)) s21)))) s
theorem cj_38 {Q1 Q2 Q3 : lf_Z → Prop} {s : lf_Z} (hQ : ∀ (s : lf_Z), Q1 s → Q2 s → Q3 s) (h1 : fm_38 Q1 s) (h2 : fw_38 Q2 s) : fm_38 Q3 s := by
  unfold fm_38 at h1 ⊢
  unfold fw_38 at h2
  exact cj_15 (fun z22 s21 k1 l1 => ⟨(fun c2 => ⟨(fun c3 => ((k1.1 c2).1 c3).elim), (fun t23 et23 => ⟨((k1.1 c2).2 t23 et23).1, cj_40 (fun z25 s24 k6 l6 => ⟨(fun c7 => ⟨(fun c8 => ((k6.1 c7).1 c8).elim), (fun t26 et26 => ⟨((k6.1 c7).2 t26 et26).1, ⟨((k6.1 c7).2 t26 et26).2.1, ⟨(fun c12 => cj_31 (fun s28 k13 l13 => ⟨k13.1, ⟨(fun c15 => cj_58 (fun s30 k16 l16 => cj_38_p146 hQ k16 l16) (k13.2.1 c15) ((l13 k13.1).1 c15)), (fun c15 => ⟨(fun c18 => ((k13.2.2 c15).1 c18).elim), (fun t32 et32 => ⟨((k13.2.2 c15).2 t32 et32).1, ⟨(fun c21 => (((k13.2.2 c15).2 t32 et32).2.1 c21).elim), (fun t33 et33 => ⟨(((k13.2.2 c15).2 t32 et32).2.2 t33 et33).1, ⟨(((k13.2.2 c15).2 t32 et32).2.2 t33 et33).2.1, ck_41 (fun s35 k25 l25 => ⟨(fun c26 => (k25.1 c26).elim), (fun t36 et36 => ⟨(k25.2 t36 et36).1, ⟨(fun c29 => ((k25.2 t36 et36).2.1 c29).elim), (fun t37 et37 => ⟨((k25.2 t36 et36).2.2 t37 et37).1, ⟨((k25.2 t36 et36).2.2 t37 et37).2.1, ⟨(fun c33 => (((k25.2 t36 et36).2.2 t37 et37).2.2.1 c33).elim), (fun t39 et39 => ⟨(((k25.2 t36 et36).2.2 t37 et37).2.2.2 t39 et39).1, cj_57 (fun s40 k36 l36 => cj_38_p146 hQ k36 l36) (((k25.2 t36 et36).2.2 t37 et37).2.2.2 t39 et39).2 ((((l25.2 t36 et36 (k25.2 t36 et36).1).2 t37 et37 ((k25.2 t36 et36).2.2 t37 et37).1) ((k25.2 t36 et36).2.2 t37 et37).2.1).2 t39 et39 (((k25.2 t36 et36).2.2 t37 et37).2.2.2 t39 et39).1)⟩)⟩⟩⟩)⟩⟩)⟩) (((k13.2.2 c15).2 t32 et32).2.2 t33 et33).2.2 (((((l13 k13.1).2 c15).2 t32 et32 ((k13.2.2 c15).2 t32 et32).1).2 t33 et33 (((k13.2.2 c15).2 t32 et32).2.2 t33 et33).1) (((k13.2.2 c15).2 t32 et32).2.2 t33 et33).2.1)⟩⟩)⟩⟩)⟩)⟩⟩) (((k6.1 c7).2 t26 et26).2.2.1 c12) ((((l6.1 c7).2 t26 et26 ((k6.1 c7).2 t26 et26).1) ((k6.1 c7).2 t26 et26).2.1).1 c12)), (fun c12 => cj_39 (fun s41 k38 l38 => hQ _  k38 l38) (((k6.1 c7).2 t26 et26).2.2.2 c12) ((((l6.1 c7).2 t26 et26 ((k6.1 c7).2 t26 et26).1) ((k6.1 c7).2 t26 et26).2.1).2 c12))⟩⟩⟩)⟩), (fun c7 => cj_39 (fun s42 k40 l40 => hQ _  k40 l40) (k6.2 c7) (l6.2 c7))⟩) ((k1.1 c2).2 t23 et23).2 ((l1.1 c2).2 t23 et23 ((k1.1 c2).2 t23 et23).1)⟩)⟩), (fun c2 => cj_39 (fun s43 k42 l42 => hQ _  k42 l42) (k1.2 c2) (l1.2 c2))⟩) h1 h2
def fw_29_p72 (Q : Bool → lf_Z → Prop) (s : lf_Z) : Prop := lf_R (s.1 31 2) → ((s.1 31 2 ≠ 0 → (Q false (lf_up s.1 31 1 0, s.2.1, s.2.2))) ∧ (¬ (s.1 31 2 ≠ 0) → (Q true (lf_up s.1 31 1 0, s.2.1, s.2.2))))
theorem cj_29_p72 {Q1 Q2 Q3 : Bool → lf_Z → Prop} {s : lf_Z} (hQ : ∀ (r : Bool) (s : lf_Z), Q1 r s → Q2 r s → Q3 r s) (h1 : fm_29_p72 Q1 s) (h2 : fw_29_p72 Q2 s) : fm_29_p72 Q3 s := by
  unfold fm_29_p72 at h1 ⊢
  unfold fw_29_p72 at h2
  exact ⟨h1.1, ⟨(fun c2 => hQ _ _  (h1.2.1 c2) ((h2 h1.1).1 c2)), (fun c2 => hQ _ _  (h1.2.2 c2) ((h2 h1.1).2 c2))⟩⟩
def fw_29_p41 (Q : Bool → lf_Z → Prop) (X41 : Int → lf_Z → Prop) (x2 : Int) (s : lf_Z) : Prop := lf_R x2 → ((300 < x2 → (fw_29_p72 Q s)) ∧ (¬ (300 < x2) → (lf_R (s.1 31 8) → ((s.1 31 8 = 0 → (fw_29_p72 Q s)) ∧ (¬ (s.1 31 8 = 0) → (lf_R (s.1 31 2) → ((s.1 31 2 ≠ 0 → (fw_29_p72 Q s)) ∧ (¬ (s.1 31 2 ≠ 0) → (fw_38 (fun s28 => (X41 (x2 + 1) s28)) s)))))))))
theorem cj_29_p41 {X411 X412 X413 : Int → lf_Z → Prop} {Q1 Q2 Q3 : Bool → lf_Z → Prop} {x2 : Int} {s : lf_Z} (hX41 : ∀ (v0 : Int) (v1 : lf_Z), X411 v0 v1 → X412 v0 v1 → X413 v0 v1) (hQ : ∀ (r : Bool) (s : lf_Z), Q1 r s → Q2 r s → Q3 r s) (h1 : fm_29_p41 Q1 X411 x2 s) (h2 : fw_29_p41 Q2 X412 x2 s) : fm_29_p41 Q3 X413 x2 s := by
  unfold fm_29_p41 at h1 ⊢
  unfold fw_29_p41 at h2
  exact ⟨h1.1, ⟨(fun c2 => cj_29_p72 hQ (h1.2.1 c2) ((h2 h1.1).1 c2)), (fun c2 => ⟨(h1.2.2 c2).1, ⟨(fun c5 => cj_29_p72 hQ ((h1.2.2 c2).2.1 c5) ((((h2 h1.1).2 c2) (h1.2.2 c2).1).1 c5)), (fun c5 => ⟨((h1.2.2 c2).2.2 c5).1, ⟨(fun c8 => cj_29_p72 hQ (((h1.2.2 c2).2.2 c5).2.1 c8) ((((((h2 h1.1).2 c2) (h1.2.2 c2).1).2 c5) ((h1.2.2 c2).2.2 c5).1).1 c8)), (fun c8 => cj_38 (fun s28 k10 l10 => hX41 _ _  k10 l10) (((h1.2.2 c2).2.2 c5).2.2 c8) ((((((h2 h1.1).2 c2) (h1.2.2 c2).1).2 c5) ((h1.2.2 c2).2.2 c5).1).2 c8))⟩⟩)⟩⟩)⟩⟩
def fw_29_p41L (Q : Bool → lf_Z → Prop) (x2 : Int) (s : lf_Z) : Prop := ∃ X41 : Int → lf_Z → Prop, (∀ (x2 : Int) (s : lf_Z), X41 x2 s → fw_29_p41 Q X41 x2 s) ∧ X41 x2 s
theorem cj_29_p41L {Q1 Q2 Q3 : Bool → lf_Z → Prop} {x2 : Int} {s : lf_Z} (hQ : ∀ (r : Bool) (s : lf_Z), Q1 r s → Q2 r s → Q3 r s) (h1 : fm_29_p41L Q1 x2 s) (h2 : fw_29_p41L Q2 x2 s) : fm_29_p41L Q3 x2 s := by
  intro X0 hX0
  obtain ⟨Y, hY, hY0⟩ := h2
  exact h1 (fun v0 s => Y v0 s → X0 v0 s) (fun v0 s hb hy => hX0 v0 s (cj_29_p41 (X411 := fun v0 s => Y v0 s → X0 v0 s) (X412 := Y) (X413 := X0) (hX41 := fun v0 s a b => a b) hQ hb (hY v0 s hy))) hY0
def fw_29 (t1 : Nat) (Q : Bool → lf_Z → Prop) (s : lf_Z) : Prop := ((lf_ur s.2.2 2 (some t1)) 2 = none → (True)) ∧ (∀ t21 : Nat, (lf_ur s.2.2 2 (some t1)) 2 = some t21 → t21 < 4 → (fw_30 t21 (fun s22 => (fw_31 (fun s23 => (fw_29_p41L Q 0 s23)) (lf_up (lf_fl (lf_up (lf_up s22.1 31 2 0) 31 3 (-1)) 33 26 (-1)) 31 7 0, s22.2.1, s22.2.2))) (s.1, s.2.1, lf_ur s.2.2 2 (some t1))))
theorem cj_29 {Q1 Q2 Q3 : Bool → lf_Z → Prop} {t1 : Nat} {s : lf_Z} (hQ : ∀ (r : Bool) (s : lf_Z), Q1 r s → Q2 r s → Q3 r s) (h1 : fm_29 t1 Q1 s) (h2 : fw_29 t1 Q2 s) : fm_29 t1 Q3 s := by
  unfold fm_29 at h1 ⊢
  unfold fw_29 at h2
  exact ⟨(fun c1 => (h1.1 c1).elim), (fun t21 et21 => ⟨(h1.2 t21 et21).1, cj_30 (fun s22 k4 l4 => cj_31 (fun s23 k5 l5 => cj_29_p41L hQ k5 l5) k4 l4) (h1.2 t21 et21).2 (h2.2 t21 et21 (h1.2 t21 et21).1)⟩)⟩
def fw_28 (Q : Int → lf_Z → Prop) (s : lf_Z) : Prop := lf_R (s.1 0 11) → ((s.1 0 11 < 4 → ((0 ≤ s.1 0 11 ∧ s.1 0 11 < 4) → (∀ t23 : Nat, t23 = (s.1 0 11).toNat → (fw_29 t23 (fun z25 s24 => ((z25 = true → (Q (((s24.1 0 11) + 1) - 1) (lf_up s24.1 0 11 ((s24.1 0 11) + 1), s24.2.1, s24.2.2))) ∧ (z25 = false → (Q (-1) s24)))) s)))) ∧ (¬ (s.1 0 11 < 4) → (Q (-1) s)))
theorem cj_28 {Q1 Q2 Q3 : Int → lf_Z → Prop} {s : lf_Z} (hQ : ∀ (r : Int) (s : lf_Z), Q1 r s → Q2 r s → Q3 r s) (h1 : fm_28 Q1 s) (h2 : fw_28 Q2 s) : fm_28 Q3 s := by
  unfold fm_28 at h1 ⊢
  unfold fw_28 at h2
  exact ⟨h1.1, ⟨(fun c2 => ⟨(h1.2.1 c2).1, fun t23 et23 => cj_29 (fun z25 s24 k5 l5 => ⟨(fun c6 => hQ _ _  (k5.1 c6) (l5.1 c6)), (fun c6 => hQ _ _  (k5.2 c6) (l5.2 c6))⟩) ((h1.2.1 c2).2 t23 et23) ((((h2 h1.1).1 c2) (h1.2.1 c2).1) t23 et23)⟩), (fun c2 => hQ _ _  (h1.2.2 c2) ((h2 h1.1).2 c2))⟩⟩
def fw_198 (a1 : Int) (Q : Int → lf_Z → Prop) (s : lf_Z) : Prop := lf_R a1 → (lf_R (s.1 95 4) → ((s.1 95 4 ≤ a1 → (Q (-1) s)) ∧ (¬ (s.1 95 4 ≤ a1) → ((0 ≤ a1 ∧ a1 < 300) → (Q (s.1 99 a1) s)))))
theorem cj_198 {Q1 Q2 Q3 : Int → lf_Z → Prop} {a1 : Int} {s : lf_Z} (hQ : ∀ (r : Int) (s : lf_Z), Q1 r s → Q2 r s → Q3 r s) (h1 : fm_198 a1 Q1 s) (h2 : fw_198 a1 Q2 s) : fm_198 a1 Q3 s := by
  unfold fm_198 at h1 ⊢
  unfold fw_198 at h2
  exact ⟨h1.1, ⟨h1.2.1, ⟨(fun c3 => hQ _ _  (h1.2.2.1 c3) (((h2 h1.1) h1.2.1).1 c3)), (fun c3 => ⟨(h1.2.2.2 c3).1, hQ _ _  (h1.2.2.2 c3).2 ((((h2 h1.1) h1.2.1).2 c3) (h1.2.2.2 c3).1)⟩)⟩⟩⟩
def fw_199 (a0 : Int) (Q : Bool → lf_Z → Prop) (s : lf_Z) : Prop := lf_R a0 → ((a0 < 48 → (Q false s)) ∧ (¬ (a0 < 48) → ((57 < a0 → (Q false s)) ∧ (¬ (57 < a0) → (Q true s)))))
theorem cj_199 {Q1 Q2 Q3 : Bool → lf_Z → Prop} {a0 : Int} {s : lf_Z} (hQ : ∀ (r : Bool) (s : lf_Z), Q1 r s → Q2 r s → Q3 r s) (h1 : fm_199 a0 Q1 s) (h2 : fw_199 a0 Q2 s) : fm_199 a0 Q3 s := by
  unfold fm_199 at h1 ⊢
  unfold fw_199 at h2
  exact ⟨h1.1, ⟨(fun c2 => hQ _ _  (h1.2.1 c2) ((h2 h1.1).1 c2)), (fun c2 => ⟨(fun c4 => hQ _ _  ((h1.2.2 c2).1 c4) (((h2 h1.1).2 c2).1 c4)), (fun c4 => hQ _ _  ((h1.2.2 c2).2 c4) (((h2 h1.1).2 c2).2 c4))⟩)⟩⟩
def fw_200_p12 (Q : Bool → lf_Z → Prop) (x0 : Int) (s : lf_Z) : Prop := lf_R x0 → ((x0 < 65 → (Q false s)) ∧ (¬ (x0 < 65) → ((90 < x0 → (Q false s)) ∧ (¬ (90 < x0) → (Q true s)))))
