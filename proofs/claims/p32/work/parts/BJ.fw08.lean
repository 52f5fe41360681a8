def fw_118 (a1 : Int) (a2 : Int) (Q : lf_Z → Prop) (s : lf_Z) : Prop := (0 ≤ a1 ∧ a1 < 4) → (Q (lf_up (lf_up (lf_up (lf_up (lf_fl s.1 69 256 (-1)) 68 8 ((lf_fl s.1 69 256 (-1)) 16 a1)) 68 11 a2) 68 9 0) 68 10 0, s.2.1, s.2.2))
theorem cj_118 {Q1 Q2 Q3 : lf_Z → Prop} {a1 : Int} {a2 : Int} {s : lf_Z} (hQ : ∀ (s : lf_Z), Q1 s → Q2 s → Q3 s) (h1 : fm_118 a1 a2 Q1 s) (h2 : fw_118 a1 a2 Q2 s) : fm_118 a1 a2 Q3 s := by
  unfold fm_118 at h1 ⊢
  unfold fw_118 at h2
  exact ⟨h1.1, hQ _  h1.2 (h2 h1.1)⟩
def fw_119_p6 (Q : lf_Z → Prop) (v0 : Nat) (x1 : Int) (x4 : Int) (X6 : Int → lf_Z → Prop) (x3 : Int) (s : lf_Z) : Prop := lf_R x3 → (lf_R x4 → ((x4 ≤ x3 → (Q s)) ∧ (¬ (x4 ≤ x3) → ((0 ≤ x3 ∧ x3 < 156) → (X6 (x3 + 1) (s.1, lf_up s.2.1 v0 x3 (lf_wl x1), s.2.2))))))
theorem cj_119_p6 {X61 X62 X63 : Int → lf_Z → Prop} {Q1 Q2 Q3 : lf_Z → Prop} {v0 : Nat} {x1 : Int} {x4 : Int} {x3 : Int} {s : lf_Z} (hX6 : ∀ (v0 : Int) (v1 : lf_Z), X61 v0 v1 → X62 v0 v1 → X63 v0 v1) (hQ : ∀ (s : lf_Z), Q1 s → Q2 s → Q3 s) (h1 : fm_119_p6 Q1 v0 x1 x4 X61 x3 s) (h2 : fw_119_p6 Q2 v0 x1 x4 X62 x3 s) : fm_119_p6 Q3 v0 x1 x4 X63 x3 s := by
  unfold fm_119_p6 at h1 ⊢
  unfold fw_119_p6 at h2
  exact ⟨h1.1, ⟨h1.2.1, ⟨(fun c3 => hQ _  (h1.2.2.1 c3) (((h2 h1.1) h1.2.1).1 c3)), (fun c3 => ⟨(h1.2.2.2 c3).1, hX6 _ _  (h1.2.2.2 c3).2 ((((h2 h1.1) h1.2.1).2 c3) (h1.2.2.2 c3).1)⟩)⟩⟩⟩
def fw_119_p6L (Q : lf_Z → Prop) (v0 : Nat) (x1 : Int) (x3 : Int) (x4 : Int) (s : lf_Z) : Prop := ∃ X6 : Int → lf_Z → Prop, (∀ (x3 : Int) (s : lf_Z), X6 x3 s → fw_119_p6 Q v0 x1 x4 X6 x3 s) ∧ X6 x3 s
theorem cj_119_p6L {Q1 Q2 Q3 : lf_Z → Prop} {v0 : Nat} {x1 : Int} {x3 : Int} {x4 : Int} {s : lf_Z} (hQ : ∀ (s : lf_Z), Q1 s → Q2 s → Q3 s) (h1 : fm_119_p6L Q1 v0 x1 x3 x4 s) (h2 : fw_119_p6L Q2 v0 x1 x3 x4 s) : fm_119_p6L Q3 v0 x1 x3 x4 s := by
  intro X0 hX0
  obtain ⟨Y, hY, hY0⟩ := h2
  exact h1 (fun v0 s => Y v0 s → X0 v0 s) (fun v0 s hb hy => hX0 v0 s (cj_119_p6 (X61 := fun v0 s => Y v0 s → X0 v0 s) (X62 := Y) (X63 := X0) (hX6 := fun v0 s a b => a b) hQ hb (hY v0 s hy))) hY0
def fw_119 (w0 : Nat) (a1 : Int) (Q : lf_Z → Prop) (s : lf_Z) : Prop := fw_119_p6L Q w0 a1 0 156 s
theorem cj_119 {Q1 Q2 Q3 : lf_Z → Prop} {w0 : Nat} {a1 : Int} {s : lf_Z} (hQ : ∀ (s : lf_Z), Q1 s → Q2 s → Q3 s) (h1 : fm_119 w0 a1 Q1 s) (h2 : fw_119 w0 a1 Q2 s) : fm_119 w0 a1 Q3 s := by
  unfold fm_119 at h1 ⊢
  unfold fw_119 at h2
  exact cj_119_p6L hQ h1 h2
def fw_120 (a1 : Int) (Q : Int → lf_Z → Prop) (s : lf_Z) : Prop := (0 ≤ a1 ∧ a1 < 4) → (Q ((((s.1 17 a1) * 13) + (s.1 18 a1)) + 1) s)
theorem cj_120 {Q1 Q2 Q3 : Int → lf_Z → Prop} {a1 : Int} {s : lf_Z} (hQ : ∀ (r : Int) (s : lf_Z), Q1 r s → Q2 r s → Q3 r s) (h1 : fm_120 a1 Q1 s) (h2 : fw_120 a1 Q2 s) : fm_120 a1 Q3 s := by
  unfold fm_120 at h1 ⊢
  unfold fw_120 at h2
  exact ⟨h1.1, hQ _ _  h1.2 (h2 h1.1)⟩
def fw_123_p174 (Q : Int → lf_Z → Prop) (x9 : Int) (s : lf_Z) : Prop := (0 ≤ x9 ∧ x9 < 256) → (Q (s.1 69 x9) s)
theorem cj_123_p174 {Q1 Q2 Q3 : Int → lf_Z → Prop} {x9 : Int} {s : lf_Z} (hQ : ∀ (r : Int) (s : lf_Z), Q1 r s → Q2 r s → Q3 r s) (h1 : fm_123_p174 Q1 x9 s) (h2 : fw_123_p174 Q2 x9 s) : fm_123_p174 Q3 x9 s := by
  unfold fm_123_p174 at h1 ⊢
  unfold fw_123_p174 at h2
  exact ⟨h1.1, hQ _ _  h1.2 (h2 h1.1)⟩
def fw_123_p105 (Q : Int → lf_Z → Prop) (x1 : Int) (x2 : Int) (x5 : Int) (x6 : Int) (x7 : Int) (y0 : Int) (s : lf_Z) : Prop := (0 ≤ ((((x1 * 16) + (y0 * 8)) + (x5 * 4)) + (x6 * 2)) + x7 ∧ ((((x1 * 16) + (y0 * 8)) + (x5 * 4)) + (x6 * 2)) + x7 < 256) → (lf_R (s.1 69 (((((x1 * 16) + (y0 * 8)) + (x5 * 4)) + (x6 * 2)) + x7)) → ((s.1 69 (((((x1 * 16) + (y0 * 8)) + (x5 * 4)) + (x6 * 2)) + x7) ≠ (-1) → (fw_123_p174 Q (((((x1 * 16) + (y0 * 8)) + (x5 * 4)) + (x6 * 2)) + x7) s)) ∧ (¬ (s.1 69 (((((x1 * 16) + (y0 * 8)) + (x5 * 4)) + (x6 * 2)) + x7) ≠ (-1)) → (fw_91 (s.1 68 8) x2 x1 x5 x6 (x7 * (s.1 68 11)) (fun r36 s35 => (fw_123_p174 Q (((((x1 * 16) + (y0 * 8)) + (x5 * 4)) + (x6 * 2)) + x7) (lf_up s35.1 69 (((((x1 * 16) + (y0 * 8)) + (x5 * 4)) + (x6 * 2)) + x7) r36, s35.2.1, s35.2.2))) s))))
theorem cj_123_p105 {Q1 Q2 Q3 : Int → lf_Z → Prop} {x1 : Int} {x2 : Int} {x5 : Int} {x6 : Int} {x7 : Int} {y0 : Int} {s : lf_Z} (hQ : ∀ (r : Int) (s : lf_Z), Q1 r s → Q2 r s → Q3 r s) (h1 : fm_123_p105 Q1 x1 x2 x5 x6 x7 y0 s) (h2 : fw_123_p105 Q2 x1 x2 x5 x6 x7 y0 s) : fm_123_p105 Q3 x1 x2 x5 x6 x7 y0 s := by
  unfold fm_123_p105 at h1 ⊢
  unfold fw_123_p105 at h2
  exact ⟨h1.1, ⟨h1.2.1, ⟨(fun c3 => cj_123_p174 hQ (h1.2.2.1 c3) (((h2 h1.1) h1.2.1).1 c3)), (fun c3 => cj_91 (fun r36 s35 k5 l5 => cj_123_p174 hQ k5 l5) (h1.2.2.2 c3) (((h2 h1.1) h1.2.1).2 c3))⟩⟩⟩
def fw_123_p64 (Q : Int → lf_Z → Prop) (x1 : Int) (x2 : Int) (x4 : Int) (y0 : Int) (s : lf_Z) : Prop := (0 ≤ x1 ∧ x1 < 16) → (lf_R (s.1 4 x1) → (lf_R x2 → ((s.1 4 x1 ≠ x2 → (fw_123_p105 Q x1 x2 y0 (lf_and (lf_shr (s.1 68 10) x2) 1) (lf_and (lf_shr (s.1 68 10) x4) 1) 1 s)) ∧ (¬ (s.1 4 x1 ≠ x2) → (fw_123_p105 Q x1 x2 y0 (lf_and (lf_shr (s.1 68 10) x2) 1) (lf_and (lf_shr (s.1 68 10) x4) 1) 0 s)))))
theorem cj_123_p64 {Q1 Q2 Q3 : Int → lf_Z → Prop} {x1 : Int} {x2 : Int} {x4 : Int} {y0 : Int} {s : lf_Z} (hQ : ∀ (r : Int) (s : lf_Z), Q1 r s → Q2 r s → Q3 r s) (h1 : fm_123_p64 Q1 x1 x2 x4 y0 s) (h2 : fw_123_p64 Q2 x1 x2 x4 y0 s) : fm_123_p64 Q3 x1 x2 x4 y0 s := by
  unfold fm_123_p64 at h1 ⊢
  unfold fw_123_p64 at h2
  exact ⟨h1.1, ⟨h1.2.1, ⟨h1.2.2.1, ⟨(fun c4 => cj_123_p105 hQ (h1.2.2.2.1 c4) ((((h2 h1.1) h1.2.1) h1.2.2.1).1 c4)), (fun c4 => cj_123_p105 hQ (h1.2.2.2.2 c4) ((((h2 h1.1) h1.2.1) h1.2.2.1).2 c4))⟩⟩⟩⟩
def fw_123 (a1 : Int) (a2 : Int) (a3 : Int) (Q : Int → lf_Z → Prop) (s : lf_Z) : Prop := fw_78 a1 a2 (fun r22 s21 => (lf_R r22 → ((r22 = (-1) → (Q 0 s21)) ∧ (¬ (r22 = (-1)) → (fw_89 a1 (fun z25 s24 => ((z25 = false → (Q 0 s24)) ∧ (z25 = true → (fw_90 a1 (fun z27 s26 => ((z27 = false → (Q 0 s26)) ∧ (z27 = true → ((lf_and (lf_shr (s26.1 68 9) a1) 1 ≠ 1 → (lf_R a3 → ((a3 ≠ r22 → (fw_123_p64 Q a1 a2 r22 0 s26)) ∧ (¬ (a3 ≠ r22) → (fw_123_p64 Q a1 a2 r22 1 s26))))) ∧ (¬ (lf_and (lf_shr (s26.1 68 9) a1) 1 ≠ 1) → (Q 0 s26)))))) s24)))) s21))))) s
theorem cj_123 {Q1 Q2 Q3 : Int → lf_Z → Prop} {a1 : Int} {a2 : Int} {a3 : Int} {s : lf_Z} (hQ : ∀ (r : Int) (s : lf_Z), Q1 r s → Q2 r s → Q3 r s) (h1 : fm_123 a1 a2 a3 Q1 s) (h2 : fw_123 a1 a2 a3 Q2 s) : fm_123 a1 a2 a3 Q3 s := by
  unfold fm_123 at h1 ⊢
  unfold fw_123 at h2
  exact cj_78 (fun r22 s21 k1 l1 => ⟨k1.1, ⟨(fun c3 => hQ _ _  (k1.2.1 c3) ((l1 k1.1).1 c3)), (fun c3 => cj_89 (fun z25 s24 k5 l5 => ⟨(fun c6 => hQ _ _  (k5.1 c6) (l5.1 c6)), (fun c6 => cj_90 (fun z27 s26 k8 l8 => ⟨(fun c9 => hQ _ _  (k8.1 c9) (l8.1 c9)), (fun c9 => ⟨(fun c11 => ⟨((k8.2 c9).1 c11).1, ⟨(fun c13 => cj_123_p64 hQ (((k8.2 c9).1 c11).2.1 c13) ((((l8.2 c9).1 c11) ((k8.2 c9).1 c11).1).1 c13)), (fun c13 => cj_123_p64 hQ (((k8.2 c9).1 c11).2.2 c13) ((((l8.2 c9).1 c11) ((k8.2 c9).1 c11).1).2 c13))⟩⟩), (fun c11 => hQ _ _  ((k8.2 c9).2 c11) ((l8.2 c9).2 c11))⟩)⟩) (k5.2 c6) (l5.2 c6))⟩) (k1.2.2 c3) ((l1 k1.1).2 c3))⟩⟩) h1 h2
def fw_122_p107 (X19 : Int → Int → lf_Z → Prop) (Q : lf_Z → Prop) (x1 : Int) (x2 : Int) (x3 : Int) (x5 : Int) (s : lf_Z) : Prop := X19 x3 (x5 + 1) s
theorem cj_122_p107 {X191 X192 X193 : Int → Int → lf_Z → Prop} {Q1 Q2 Q3 : lf_Z → Prop} {x1 : Int} {x2 : Int} {x3 : Int} {x5 : Int} {s : lf_Z} (hX19 : ∀ (v0 : Int) (v1 : Int) (v2 : lf_Z), X191 v0 v1 v2 → X192 v0 v1 v2 → X193 v0 v1 v2) (hQ : ∀ (s : lf_Z), Q1 s → Q2 s → Q3 s) (h1 : fm_122_p107 X191 Q1 x1 x2 x3 x5 s) (h2 : fw_122_p107 X192 Q2 x1 x2 x3 x5 s) : fm_122_p107 X193 Q3 x1 x2 x3 x5 s := by
  unfold fm_122_p107 at h1 ⊢
  unfold fw_122_p107 at h2
  exact hX19 _ _ _  h1 h2
def fw_122_p19 (Q : lf_Z → Prop) (x1 : Int) (x2 : Int) (X19 : Int → Int → lf_Z → Prop) (x3 : Int) (x5 : Int) (s : lf_Z) : Prop := fw_76 x2 (fun r25 s24 => (lf_R x5 → (lf_R r25 → ((r25 ≤ x5 → (∀ w28 : Nat, s24.2.2 1 = some w28 → (w28 = 72 ∨ w28 = 73) → ((0 ≤ x1 ∧ x1 < 156) → (Q (s24.1, lf_up s24.2.1 w28 x1 (lf_wl ((lf_wl (s24.2.1 w28 x1)) + (lf_wl x3))), s24.2.2))))) ∧ (¬ (r25 ≤ x5) → (fw_77 x2 x5 (fun r31 s30 => (lf_R x1 → (fw_123 r31 x2 ((x1.tmod 13) - 1) (fun r34 s33 => (lf_R r34 → ((r34 ≤ 0 → (fw_122_p107 X19 Q x1 x2 x3 x5 s33)) ∧ (¬ (r34 ≤ 0) → (∀ w36 : Nat, s33.2.2 1 = some w36 → (w36 = 72 ∨ w36 = 73) → (fw_78 r31 x2 (fun r38 s37 => ((0 ≤ ((r38 * 13) + x2) + 1 ∧ ((r38 * 13) + x2) + 1 < 156) → (fw_122_p107 X19 Q x1 x2 (lf_wl ((lf_wl x3) - (lf_wl ((lf_wl ((lf_wl x3).tdiv 10)) * r34)))) x5 (s37.1, lf_up s37.2.1 w36 (((r38 * 13) + x2) + 1) (lf_wl ((lf_wl (s37.2.1 w36 (((r38 * 13) + x2) + 1))) + (lf_wl ((lf_wl ((lf_wl x3).tdiv 10)) * r34)))), s37.2.2)))) s33)))))) s30))) s24)))))) s
theorem cj_122_p19 {X191 X192 X193 : Int → Int → lf_Z → Prop} {Q1 Q2 Q3 : lf_Z → Prop} {x1 : Int} {x2 : Int} {x3 : Int} {x5 : Int} {s : lf_Z} (hX19 : ∀ (v0 : Int) (v1 : Int) (v2 : lf_Z), X191 v0 v1 v2 → X192 v0 v1 v2 → X193 v0 v1 v2) (hQ : ∀ (s : lf_Z), Q1 s → Q2 s → Q3 s) (h1 : fm_122_p19 Q1 x1 x2 X191 x3 x5 s) (h2 : fw_122_p19 Q2 x1 x2 X192 x3 x5 s) : fm_122_p19 Q3 x1 x2 X193 x3 x5 s := by
  unfold fm_122_p19 at h1 ⊢
  unfold fw_122_p19 at h2
  exact cj_76 (fun r25 s24 k1 l1 => ⟨k1.1, ⟨k1.2.1, ⟨(fun c4 => ((k1.2.2.1 c4)).elim (fun w28 e5 => ⟨w28, e5.1, e5.2.1, ⟨e5.2.2.1, hQ _  e5.2.2.2 (((((l1 k1.1) k1.2.1).1 c4) w28 e5.1 e5.2.1) e5.2.2.1)⟩⟩)), (fun c4 => cj_77 (fun r31 s30 k8 l8 => ⟨k8.1, cj_123 (fun r34 s33 k10 l10 => ⟨k10.1, ⟨(fun c12 => cj_122_p107 hX19 hQ (k10.2.1 c12) ((l10 k10.1).1 c12)), (fun c12 => ((k10.2.2 c12)).elim (fun w36 e14 => ⟨w36, e14.1, e14.2.1, cj_78 (fun r38 s37 k15 l15 => ⟨k15.1, cj_122_p107 hX19 hQ k15.2 (l15 k15.1)⟩) e14.2.2 (((l10 k10.1).2 c12) w36 e14.1 e14.2.1)⟩))⟩⟩) k8.2 (l8 k8.1)⟩) (k1.2.2.2 c4) (((l1 k1.1) k1.2.1).2 c4))⟩⟩⟩) h1 h2
def fw_122_p19L (Q : lf_Z → Prop) (x1 : Int) (x2 : Int) (x3 : Int) (x5 : Int) (s : lf_Z) : Prop := ∃ X19 : Int → Int → lf_Z → Prop, (∀ (x3 : Int) (x5 : Int) (s : lf_Z), X19 x3 x5 s → fw_122_p19 Q x1 x2 X19 x3 x5 s) ∧ X19 x3 x5 s
theorem cj_122_p19L {Q1 Q2 Q3 : lf_Z → Prop} {x1 : Int} {x2 : Int} {x3 : Int} {x5 : Int} {s : lf_Z} (hQ : ∀ (s : lf_Z), Q1 s → Q2 s → Q3 s) (h1 : fm_122_p19L Q1 x1 x2 x3 x5 s) (h2 : fw_122_p19L Q2 x1 x2 x3 x5 s) : fm_122_p19L Q3 x1 x2 x3 x5 s := by
  intro X0 hX0
  obtain ⟨Y, hY, hY0⟩ := h2
  exact h1 (fun v0 v1 s => Y v0 v1 s → X0 v0 v1 s) (fun v0 v1 s hb hy => hX0 v0 v1 s (cj_122_p19 (X191 := fun v0 v1 s => Y v0 v1 s → X0 v0 v1 s) (X192 := Y) (X193 := X0) (hX19 := fun v0 v1 s a b => a b) hQ hb (hY v0 v1 s hy))) hY0
def fw_122 (a1 : Int) (Q : lf_Z → Prop) (s : lf_Z) : Prop := lf_R a1 → (∀ w22 : Nat, s.2.2 0 = some w22 → (w22 = 72 ∨ w22 = 73) → ((0 ≤ a1 ∧ a1 < 156) → (fw_122_p19L Q a1 (a1.tdiv 13) (lf_wl ((lf_wl (s.2.1 w22 a1)) * 10000)) 0 s)))
theorem cj_122 {Q1 Q2 Q3 : lf_Z → Prop} {a1 : Int} {s : lf_Z} (hQ : ∀ (s : lf_Z), Q1 s → Q2 s → Q3 s) (h1 : fm_122 a1 Q1 s) (h2 : fw_122 a1 Q2 s) : fm_122 a1 Q3 s := by
  unfold fm_122 at h1 ⊢
  unfold fw_122 at h2
  exact ⟨h1.1, (h1.2).elim (fun w22 e2 => ⟨w22, e2.1, e2.2.1, ⟨e2.2.2.1, cj_122_p19L hQ e2.2.2.2 (((h2 h1.1) w22 e2.1 e2.2.1) e2.2.2.1)⟩⟩)⟩
def fw_121_p33 (X10 : Int → lf_Z → Prop) (Q : lf_Z → Prop) (x1 : Int) (s : lf_Z) : Prop := X10 (x1 + 1) s
theorem cj_121_p33 {X101 X102 X103 : Int → lf_Z → Prop} {Q1 Q2 Q3 : lf_Z → Prop} {x1 : Int} {s : lf_Z} (hX10 : ∀ (v0 : Int) (v1 : lf_Z), X101 v0 v1 → X102 v0 v1 → X103 v0 v1) (hQ : ∀ (s : lf_Z), Q1 s → Q2 s → Q3 s) (h1 : fm_121_p33 X101 Q1 x1 s) (h2 : fw_121_p33 X102 Q2 x1 s) : fm_121_p33 X103 Q3 x1 s := by
  unfold fm_121_p33 at h1 ⊢
  unfold fw_121_p33 at h2
  exact hX10 _ _  h1 h2
def fw_121_p10 (Q : lf_Z → Prop) (X10 : Int → lf_Z → Prop) (x1 : Int) (s : lf_Z) : Prop := lf_R x1 → ((156 ≤ x1 → (∀ w24 : Nat, s.2.2 0 = some w24 → (w24 = 72 ∨ w24 = 73) → (∀ w25 : Nat, s.2.2 1 = some w25 → (w25 = 72 ∨ w25 = 73) → (Q (s.1, s.2.1, lf_ur (lf_ur s.2.2 0 (some w25)) 1 (some w24)))))) ∧ (¬ (156 ≤ x1) → (∀ w26 : Nat, s.2.2 0 = some w26 → (w26 = 72 ∨ w26 = 73) → ((0 ≤ x1 ∧ x1 < 156) → ((lf_wl (s.2.1 w26 x1) ≤ 0 → (fw_121_p33 X10 Q x1 s)) ∧ (¬ (lf_wl (s.2.1 w26 x1) ≤ 0) → (fw_122 x1 (fun s28 => (fw_121_p33 X10 Q x1 s28)) s)))))))
theorem cj_121_p10 {X101 X102 X103 : Int → lf_Z → Prop} {Q1 Q2 Q3 : lf_Z → Prop} {x1 : Int} {s : lf_Z} (hX10 : ∀ (v0 : Int) (v1 : lf_Z), X101 v0 v1 → X102 v0 v1 → X103 v0 v1) (hQ : ∀ (s : lf_Z), Q1 s → Q2 s → Q3 s) (h1 : fm_121_p10 Q1 X101 x1 s) (h2 : fw_121_p10 Q2 X102 x1 s) : fm_121_p10 Q3 X103 x1 s := by
  unfold fm_121_p10 at h1 ⊢
  unfold fw_121_p10 at h2
  exact ⟨h1.1, ⟨(fun c2 => ((h1.2.1 c2)).elim (fun w24 e3 => ⟨w24, e3.1, e3.2.1, (e3.2.2).elim (fun w25 e4 => ⟨w25, e4.1, e4.2.1, hQ _  e4.2.2 ((((h2 h1.1).1 c2) w24 e3.1 e3.2.1) w25 e4.1 e4.2.1)⟩)⟩)), (fun c2 => ((h1.2.2 c2)).elim (fun w26 e6 => ⟨w26, e6.1, e6.2.1, ⟨e6.2.2.1, ⟨(fun c8 => cj_121_p33 hX10 hQ (e6.2.2.2.1 c8) (((((h2 h1.1).2 c2) w26 e6.1 e6.2.1) e6.2.2.1).1 c8)), (fun c8 => cj_122 (fun s28 k10 l10 => cj_121_p33 hX10 hQ k10 l10) (e6.2.2.2.2 c8) (((((h2 h1.1).2 c2) w26 e6.1 e6.2.1) e6.2.2.1).2 c8))⟩⟩⟩))⟩⟩
def fw_121_p10L (Q : lf_Z → Prop) (x1 : Int) (s : lf_Z) : Prop := ∃ X10 : Int → lf_Z → Prop, (∀ (x1 : Int) (s : lf_Z), X10 x1 s → fw_121_p10 Q X10 x1 s) ∧ X10 x1 s
theorem cj_121_p10L {Q1 Q2 Q3 : lf_Z → Prop} {x1 : Int} {s : lf_Z} (hQ : ∀ (s : lf_Z), Q1 s → Q2 s → Q3 s) (h1 : fm_121_p10L Q1 x1 s) (h2 : fw_121_p10L Q2 x1 s) : fm_121_p10L Q3 x1 s := by
  intro X0 hX0
  obtain ⟨Y, hY, hY0⟩ := h2
  exact h1 (fun v0 s => Y v0 s → X0 v0 s) (fun v0 s hb hy => hX0 v0 s (cj_121_p10 (X101 := fun v0 s => Y v0 s → X0 v0 s) (X102 := Y) (X103 := X0) (hX10 := fun v0 s a b => a b) hQ hb (hY v0 s hy))) hY0
def fw_121 (Q : lf_Z → Prop) (s : lf_Z) : Prop := ∀ w21 : Nat, s.2.2 1 = some w21 → (w21 = 72 ∨ w21 = 73) → (fw_119 w21 0 (fun s22 => (fw_121_p10L Q 0 s22)) s)
theorem cj_121 {Q1 Q2 Q3 : lf_Z → Prop} {s : lf_Z} (hQ : ∀ (s : lf_Z), Q1 s → Q2 s → Q3 s) (h1 : fm_121 Q1 s) (h2 : fw_121 Q2 s) : fm_121 Q3 s := by
  unfold fm_121 at h1 ⊢
  unfold fw_121 at h2
  exact (h1).elim (fun w21 e1 => ⟨w21, e1.1, e1.2.1, cj_119 (fun s22 k2 l2 => cj_121_p10L hQ k2 l2) e1.2.2 (h2 w21 e1.1 e1.2.1)⟩)
def fw_117_p50 (Q : Int → lf_Z → Prop) (x3 : Int) (X50 : Int → Int → lf_Z → Prop) (x4 : Int) (x6 : Int) (s : lf_Z) : Prop := lf_R x6 → ((13 ≤ x6 → (Q (lf_wl x4) s)) ∧ (¬ (13 ≤ x6) → (∀ w31 : Nat, s.2.2 0 = some w31 → (w31 = 72 ∨ w31 = 73) → ((0 ≤ (x3 * 13) + x6 ∧ (x3 * 13) + x6 < 156) → (X50 (lf_wl ((lf_wl x4) + (lf_wl (s.2.1 w31 ((x3 * 13) + x6))))) (x6 + 1) s)))))
theorem cj_117_p50 {X501 X502 X503 : Int → Int → lf_Z → Prop} {Q1 Q2 Q3 : Int → lf_Z → Prop} {x3 : Int} {x4 : Int} {x6 : Int} {s : lf_Z} (hX50 : ∀ (v0 : Int) (v1 : Int) (v2 : lf_Z), X501 v0 v1 v2 → X502 v0 v1 v2 → X503 v0 v1 v2) (hQ : ∀ (r : Int) (s : lf_Z), Q1 r s → Q2 r s → Q3 r s) (h1 : fm_117_p50 Q1 x3 X501 x4 x6 s) (h2 : fw_117_p50 Q2 x3 X502 x4 x6 s) : fm_117_p50 Q3 x3 X503 x4 x6 s := by
  unfold fm_117_p50 at h1 ⊢
  unfold fw_117_p50 at h2
  exact ⟨h1.1, ⟨(fun c2 => hQ _ _  (h1.2.1 c2) ((h2 h1.1).1 c2)), (fun c2 => ((h1.2.2 c2)).elim (fun w31 e4 => ⟨w31, e4.1, e4.2.1, ⟨e4.2.2.1, hX50 _ _ _  e4.2.2.2 ((((h2 h1.1).2 c2) w31 e4.1 e4.2.1) e4.2.2.1)⟩⟩))⟩⟩
def fw_117_p50L (Q : Int → lf_Z → Prop) (x3 : Int) (x4 : Int) (x6 : Int) (s : lf_Z) : Prop := ∃ X50 : Int → Int → lf_Z → Prop, (∀ (x4 : Int) (x6 : Int) (s : lf_Z), X50 x4 x6 s → fw_117_p50 Q x3 X50 x4 x6 s) ∧ X50 x4 x6 s
theorem cj_117_p50L {Q1 Q2 Q3 : Int → lf_Z → Prop} {x3 : Int} {x4 : Int} {x6 : Int} {s : lf_Z} (hQ : ∀ (r : Int) (s : lf_Z), Q1 r s → Q2 r s → Q3 r s) (h1 : fm_117_p50L Q1 x3 x4 x6 s) (h2 : fw_117_p50L Q2 x3 x4 x6 s) : fm_117_p50L Q3 x3 x4 x6 s := by
  intro X0 hX0
  obtain ⟨Y, hY, hY0⟩ := h2
  exact h1 (fun v0 v1 s => Y v0 v1 s → X0 v0 v1 s) (fun v0 v1 s hb hy => hX0 v0 v1 s (cj_117_p50 (X501 := fun v0 v1 s => Y v0 v1 s → X0 v0 v1 s) (X502 := Y) (X503 := X0) (hX50 := fun v0 v1 s a b => a b) hQ hb (hY v0 v1 s hy))) hY0
def fw_117_p28 (Q : Int → lf_Z → Prop) (x2 : Int) (x3 : Int) (X28 : Int → lf_Z → Prop) (x4 : Int) (s : lf_Z) : Prop := lf_R x4 → (lf_R x2 → ((x2 ≤ x4 → (fw_117_p50L Q x3 0 0 s)) ∧ (¬ (x2 ≤ x4) → (fw_121 (fun s33 => (X28 (x4 + 1) s33)) s))))
theorem cj_117_p28 {X281 X282 X283 : Int → lf_Z → Prop} {Q1 Q2 Q3 : Int → lf_Z → Prop} {x2 : Int} {x3 : Int} {x4 : Int} {s : lf_Z} (hX28 : ∀ (v0 : Int) (v1 : lf_Z), X281 v0 v1 → X282 v0 v1 → X283 v0 v1) (hQ : ∀ (r : Int) (s : lf_Z), Q1 r s → Q2 r s → Q3 r s) (h1 : fm_117_p28 Q1 x2 x3 X281 x4 s) (h2 : fw_117_p28 Q2 x2 x3 X282 x4 s) : fm_117_p28 Q3 x2 x3 X283 x4 s := by
  unfold fm_117_p28 at h1 ⊢
  unfold fw_117_p28 at h2
  exact ⟨h1.1, ⟨h1.2.1, ⟨(fun c3 => cj_117_p50L hQ (h1.2.2.1 c3) (((h2 h1.1) h1.2.1).1 c3)), (fun c3 => cj_121 (fun s33 k5 l5 => hX28 _ _  k5 l5) (h1.2.2.2 c3) (((h2 h1.1) h1.2.1).2 c3))⟩⟩⟩
def fw_117_p28L (Q : Int → lf_Z → Prop) (x2 : Int) (x3 : Int) (x4 : Int) (s : lf_Z) : Prop := ∃ X28 : Int → lf_Z → Prop, (∀ (x4 : Int) (s : lf_Z), X28 x4 s → fw_117_p28 Q x2 x3 X28 x4 s) ∧ X28 x4 s
theorem cj_117_p28L {Q1 Q2 Q3 : Int → lf_Z → Prop} {x2 : Int} {x3 : Int} {x4 : Int} {s : lf_Z} (hQ : ∀ (r : Int) (s : lf_Z), Q1 r s → Q2 r s → Q3 r s) (h1 : fm_117_p28L Q1 x2 x3 x4 s) (h2 : fw_117_p28L Q2 x2 x3 x4 s) : fm_117_p28L Q3 x2 x3 x4 s := by
  intro X0 hX0
  obtain ⟨Y, hY, hY0⟩ := h2
  exact h1 (fun v0 s => Y v0 s → X0 v0 s) (fun v0 s hb hy => hX0 v0 s (cj_117_p28 (X281 := fun v0 s => Y v0 s → X0 v0 s) (X282 := Y) (X283 := X0) (hX28 := fun v0 s a b => a b) hQ hb (hY v0 s hy))) hY0
def fw_117 (a1 : Int) (a2 : Int) (a3 : Int) (Q : Int → lf_Z → Prop) (s : lf_Z) : Prop := fw_118 a1 0 (fun s21 => (∀ w22 : Nat, s21.2.2 0 = some w22 → (w22 = 72 ∨ w22 = 73) → (fw_119 w22 0 (fun s23 => (∀ w24 : Nat, s23.2.2 0 = some w24 → (w24 = 72 ∨ w24 = 73) → (fw_120 a1 (fun r26 s25 => ((0 ≤ r26 ∧ r26 < 156) → (fw_117_p28L Q a2 a3 0 (s25.1, lf_up s25.2.1 w24 r26 1, s25.2.2)))) s23))) s21))) s
theorem cj_117 {Q1 Q2 Q3 : Int → lf_Z → Prop} {a1 : Int} {a2 : Int} {a3 : Int} {s : lf_Z} (hQ : ∀ (r : Int) (s : lf_Z), Q1 r s → Q2 r s → Q3 r s) (h1 : fm_117 a1 a2 a3 Q1 s) (h2 : fw_117 a1 a2 a3 Q2 s) : fm_117 a1 a2 a3 Q3 s := by
  unfold fm_117 at h1 ⊢
  unfold fw_117 at h2
  exact cj_118 (fun s21 k1 l1 => (k1).elim (fun w22 e2 => ⟨w22, e2.1, e2.2.1, cj_119 (fun s23 k3 l3 => (k3).elim (fun w24 e4 => ⟨w24, e4.1, e4.2.1, cj_120 (fun r26 s25 k5 l5 => ⟨k5.1, cj_117_p28L hQ k5.2 (l5 k5.1)⟩) e4.2.2 (l3 w24 e4.1 e4.2.1)⟩)) e2.2.2 (l1 w22 e2.1 e2.2.1)⟩)) h1 h2
def fw_124_p5 (Q : Int → lf_Z → Prop) (x1 : Int) (X5 : Int → Int → lf_Z → Prop) (x2 : Int) (x4 : Int) (s : lf_Z) : Prop := lf_R x4 → (lf_R x1 → ((x1 ≤ x4 → (Q (lf_wl x2) s)) ∧ (¬ (x1 ≤ x4) → (X5 (lf_wl ((lf_wl x2) * 10000)) (x4 + 1) s))))
theorem cj_124_p5 {X51 X52 X53 : Int → Int → lf_Z → Prop} {Q1 Q2 Q3 : Int → lf_Z → Prop} {x1 : Int} {x2 : Int} {x4 : Int} {s : lf_Z} (hX5 : ∀ (v0 : Int) (v1 : Int) (v2 : lf_Z), X51 v0 v1 v2 → X52 v0 v1 v2 → X53 v0 v1 v2) (hQ : ∀ (r : Int) (s : lf_Z), Q1 r s → Q2 r s → Q3 r s) (h1 : fm_124_p5 Q1 x1 X51 x2 x4 s) (h2 : fw_124_p5 Q2 x1 X52 x2 x4 s) : fm_124_p5 Q3 x1 X53 x2 x4 s := by
  unfold fm_124_p5 at h1 ⊢
  unfold fw_124_p5 at h2
  exact ⟨h1.1, ⟨h1.2.1, ⟨(fun c3 => hQ _ _  (h1.2.2.1 c3) (((h2 h1.1) h1.2.1).1 c3)), (fun c3 => hX5 _ _ _  (h1.2.2.2 c3) (((h2 h1.1) h1.2.1).2 c3))⟩⟩⟩
def fw_124_p5L (Q : Int → lf_Z → Prop) (x1 : Int) (x2 : Int) (x4 : Int) (s : lf_Z) : Prop := ∃ X5 : Int → Int → lf_Z → Prop, (∀ (x2 : Int) (x4 : Int) (s : lf_Z), X5 x2 x4 s → fw_124_p5 Q x1 X5 x2 x4 s) ∧ X5 x2 x4 s
theorem cj_124_p5L {Q1 Q2 Q3 : Int → lf_Z → Prop} {x1 : Int} {x2 : Int} {x4 : Int} {s : lf_Z} (hQ : ∀ (r : Int) (s : lf_Z), Q1 r s → Q2 r s → Q3 r s) (h1 : fm_124_p5L Q1 x1 x2 x4 s) (h2 : fw_124_p5L Q2 x1 x2 x4 s) : fm_124_p5L Q3 x1 x2 x4 s := by
  intro X0 hX0
  obtain ⟨Y, hY, hY0⟩ := h2
  exact h1 (fun v0 v1 s => Y v0 v1 s → X0 v0 v1 s) (fun v0 v1 s hb hy => hX0 v0 v1 s (cj_124_p5 (X51 := fun v0 v1 s => Y v0 v1 s → X0 v0 v1 s) (X52 := Y) (X53 := X0) (hX5 := fun v0 v1 s a b => a b) hQ hb (hY v0 v1 s hy))) hY0
def fw_124 (a1 : Int) (Q : Int → lf_Z → Prop) (s : lf_Z) : Prop := fw_124_p5L Q a1 1 0 s
theorem cj_124 {Q1 Q2 Q3 : Int → lf_Z → Prop} {a1 : Int} {s : lf_Z} (hQ : ∀ (r : Int) (s : lf_Z), Q1 r s → Q2 r s → Q3 r s) (h1 : fm_124 a1 Q1 s) (h2 : fw_124 a1 Q2 s) : fm_124 a1 Q3 s := by
  unfold fm_124 at h1 ⊢
  unfold fw_124 at h2
  exact cj_124_p5L hQ h1 h2
def fw_125_p55 (Q : Int → lf_Z → Prop) (x5 : Int) (y0 : Int) (s : lf_Z) : Prop := (lf_wl x5 ≠ 0 → ((lf_wl x5) ≠ 0 → (Q (lf_wl ((lf_wl y0).tdiv (lf_wl x5))) s))) ∧ (¬ (lf_wl x5 ≠ 0) → (Q (lf_wl y0) s))
theorem cj_125_p55 {Q1 Q2 Q3 : Int → lf_Z → Prop} {x5 : Int} {y0 : Int} {s : lf_Z} (hQ : ∀ (r : Int) (s : lf_Z), Q1 r s → Q2 r s → Q3 r s) (h1 : fm_125_p55 Q1 x5 y0 s) (h2 : fw_125_p55 Q2 x5 y0 s) : fm_125_p55 Q3 x5 y0 s := by
  unfold fm_125_p55 at h1 ⊢
  unfold fw_125_p55 at h2
  exact ⟨(fun c1 => ⟨(h1.1 c1).1, hQ _ _  (h1.1 c1).2 ((h2.1 c1) (h1.1 c1).1)⟩), (fun c1 => hQ _ _  (h1.2 c1) (h2.2 c1))⟩
def fw_125_p45 (Q : Int → lf_Z → Prop) (x0 : Int) (x2 : Int) (x4 : Int) (x5 : Int) (s : lf_Z) : Prop := lf_R x4 → ((x4 = 0 → (fw_125_p55 Q x5 x0 s)) ∧ (¬ (x4 = 0) → (fw_125_p55 Q x5 x2 s)))
theorem cj_125_p45 {Q1 Q2 Q3 : Int → lf_Z → Prop} {x0 : Int} {x2 : Int} {x4 : Int} {x5 : Int} {s : lf_Z} (hQ : ∀ (r : Int) (s : lf_Z), Q1 r s → Q2 r s → Q3 r s) (h1 : fm_125_p45 Q1 x0 x2 x4 x5 s) (h2 : fw_125_p45 Q2 x0 x2 x4 x5 s) : fm_125_p45 Q3 x0 x2 x4 x5 s := by
  unfold fm_125_p45 at h1 ⊢
  unfold fw_125_p45 at h2
  exact ⟨h1.1, ⟨(fun c2 => cj_125_p55 hQ (h1.2.1 c2) ((h2 h1.1).1 c2)), (fun c2 => cj_125_p55 hQ (h1.2.2 c2) ((h2 h1.1).2 c2))⟩⟩
def fw_125_p9 (Q : Int → lf_Z → Prop) (x0 : Int) (x2 : Int) (x4 : Int) (X9 : Int → Int → Int → lf_Z → Prop) (x5 : Int) (x7 : Int) (x9 : Int) (s : lf_Z) : Prop := lf_R x9 → ((1000 ≤ x9 → (fw_125_p45 Q x0 x2 x4 x5 s)) ∧ (¬ (1000 ≤ x9) → ((lf_wl x7 = 0 → (fw_125_p45 Q x0 x2 x4 x5 s)) ∧ (¬ (lf_wl x7 = 0) → ((lf_wl x7) ≠ 0 → (X9 x7 (lf_wl ((lf_wl x5).tmod (lf_wl x7))) (x9 + 1) s))))))
theorem cj_125_p9 {X91 X92 X93 : Int → Int → Int → lf_Z → Prop} {Q1 Q2 Q3 : Int → lf_Z → Prop} {x0 : Int} {x2 : Int} {x4 : Int} {x5 : Int} {x7 : Int} {x9 : Int} {s : lf_Z} (hX9 : ∀ (v0 : Int) (v1 : Int) (v2 : Int) (v3 : lf_Z), X91 v0 v1 v2 v3 → X92 v0 v1 v2 v3 → X93 v0 v1 v2 v3) (hQ : ∀ (r : Int) (s : lf_Z), Q1 r s → Q2 r s → Q3 r s) (h1 : fm_125_p9 Q1 x0 x2 x4 X91 x5 x7 x9 s) (h2 : fw_125_p9 Q2 x0 x2 x4 X92 x5 x7 x9 s) : fm_125_p9 Q3 x0 x2 x4 X93 x5 x7 x9 s := by
  unfold fm_125_p9 at h1 ⊢
  unfold fw_125_p9 at h2
  exact ⟨h1.1, ⟨(fun c2 => cj_125_p45 hQ (h1.2.1 c2) ((h2 h1.1).1 c2)), (fun c2 => ⟨(fun c4 => cj_125_p45 hQ ((h1.2.2 c2).1 c4) (((h2 h1.1).2 c2).1 c4)), (fun c4 => ⟨((h1.2.2 c2).2 c4).1, hX9 _ _ _ _  ((h1.2.2 c2).2 c4).2 ((((h2 h1.1).2 c2).2 c4) ((h1.2.2 c2).2 c4).1)⟩)⟩)⟩⟩
def fw_125_p9L (Q : Int → lf_Z → Prop) (x0 : Int) (x2 : Int) (x4 : Int) (x5 : Int) (x7 : Int) (x9 : Int) (s : lf_Z) : Prop := ∃ X9 : Int → Int → Int → lf_Z → Prop, (∀ (x5 : Int) (x7 : Int) (x9 : Int) (s : lf_Z), X9 x5 x7 x9 s → fw_125_p9 Q x0 x2 x4 X9 x5 x7 x9 s) ∧ X9 x5 x7 x9 s
theorem cj_125_p9L {Q1 Q2 Q3 : Int → lf_Z → Prop} {x0 : Int} {x2 : Int} {x4 : Int} {x5 : Int} {x7 : Int} {x9 : Int} {s : lf_Z} (hQ : ∀ (r : Int) (s : lf_Z), Q1 r s → Q2 r s → Q3 r s) (h1 : fm_125_p9L Q1 x0 x2 x4 x5 x7 x9 s) (h2 : fw_125_p9L Q2 x0 x2 x4 x5 x7 x9 s) : fm_125_p9L Q3 x0 x2 x4 x5 x7 x9 s := by
  intro X0 hX0
  obtain ⟨Y, hY, hY0⟩ := h2
  exact h1 (fun v0 v1 v2 s => Y v0 v1 v2 s → X0 v0 v1 v2 s) (fun v0 v1 v2 s hb hy => hX0 v0 v1 v2 s (cj_125_p9 (X91 := fun v0 v1 v2 s => Y v0 v1 v2 s → X0 v0 v1 v2 s) (X92 := Y) (X93 := X0) (hX9 := fun v0 v1 v2 s a b => a b) hQ hb (hY v0 v1 v2 s hy))) hY0
def fw_125 (a0 : Int) (a1 : Int) (a2 : Int) (Q : Int → lf_Z → Prop) (s : lf_Z) : Prop := fw_125_p9L Q a0 a1 a2 a1 a0 0 s
theorem cj_125 {Q1 Q2 Q3 : Int → lf_Z → Prop} {a0 : Int} {a1 : Int} {a2 : Int} {s : lf_Z} (hQ : ∀ (r : Int) (s : lf_Z), Q1 r s → Q2 r s → Q3 r s) (h1 : fm_125 a0 a1 a2 Q1 s) (h2 : fw_125 a0 a1 a2 Q2 s) : fm_125 a0 a1 a2 Q3 s := by
  unfold fm_125 at h1 ⊢
  unfold fw_125 at h2
  exact cj_125_p9L hQ h1 h2
def fw_116_p31 (Q : Int → lf_Z → Prop) (s : lf_Z) : Prop := Q (-1) s
theorem cj_116_p31 {Q1 Q2 Q3 : Int → lf_Z → Prop} {s : lf_Z} (hQ : ∀ (r : Int) (s : lf_Z), Q1 r s → Q2 r s → Q3 r s) (h1 : fm_116_p31 Q1 s) (h2 : fw_116_p31 Q2 s) : fm_116_p31 Q3 s := by
  unfold fm_116_p31 at h1 ⊢
  unfold fw_116_p31 at h2
  exact hQ _ _  h1 h2
def fw_116 (a1 : Int) (a2 : Int) (a3 : Int) (a4 : Int) (Q : Int → lf_Z → Prop) (s : lf_Z) : Prop := fw_80 a1 (fun z22 s21 => ((z22 = false → (fw_116_p31 Q s21)) ∧ (z22 = true → (fw_15 a2 0 4 (fun z24 s23 => ((z24 = false → (fw_116_p31 Q s23)) ∧ (z24 = true → (fw_18 a3 (fun z26 s25 => ((z26 = true → (fw_117 a1 a2 a3 (fun r28 s27 => (fw_124 a2 (fun r30 s29 => (fw_125 (lf_wl r28) (lf_wl r30) a4 (fun r32 s31 => (Q (lf_wl r32) s31)) s29)) s27)) s25)) ∧ (z26 = false → (fw_116_p31 Q s25)))) s23)))) s21)))) s
theorem cj_116 {Q1 Q2 Q3 : Int → lf_Z → Prop} {a1 : Int} {a2 : Int} {a3 : Int} {a4 : Int} {s : lf_Z} (hQ : ∀ (r : Int) (s : lf_Z), Q1 r s → Q2 r s → Q3 r s) (h1 : fm_116 a1 a2 a3 a4 Q1 s) (h2 : fw_116 a1 a2 a3 a4 Q2 s) : fm_116 a1 a2 a3 a4 Q3 s := by
  unfold fm_116 at h1 ⊢
  unfold fw_116 at h2
  exact cj_80 (fun z22 s21 k1 l1 => ⟨(fun c2 => cj_116_p31 hQ (k1.1 c2) (l1.1 c2)), (fun c2 => cj_15 (fun z24 s23 k4 l4 => ⟨(fun c5 => cj_116_p31 hQ (k4.1 c5) (l4.1 c5)), (fun c5 => cj_18 (fun z26 s25 k7 l7 => ⟨(fun c8 => cj_117 (fun r28 s27 k9 l9 => cj_124 (fun r30 s29 k10 l10 => cj_125 (fun r32 s31 k11 l11 => hQ _ _  k11 l11) k10 l10) k9 l9) (k7.1 c8) (l7.1 c8)), (fun c8 => cj_116_p31 hQ (k7.2 c8) (l7.2 c8))⟩) (k4.2 c5) (l4.2 c5))⟩) (k1.2 c2) (l1.2 c2))⟩) h1 h2
def fw_292_p6 (Q : Int → lf_Z → Prop) (X6 : Int → Int → lf_Z → Prop) (x4 : Int) (x6 : Int) (s : lf_Z) : Prop := (lf_wl x6 = 0 → (Q (lf_wl x4) s)) ∧ (¬ (lf_wl x6 = 0) → ((lf_wl x6) ≠ 0 → (X6 x6 (lf_wl ((lf_wl x4).tmod (lf_wl x6))) s)))
theorem cj_292_p6 {X61 X62 X63 : Int → Int → lf_Z → Prop} {Q1 Q2 Q3 : Int → lf_Z → Prop} {x4 : Int} {x6 : Int} {s : lf_Z} (hX6 : ∀ (v0 : Int) (v1 : Int) (v2 : lf_Z), X61 v0 v1 v2 → X62 v0 v1 v2 → X63 v0 v1 v2) (hQ : ∀ (r : Int) (s : lf_Z), Q1 r s → Q2 r s → Q3 r s) (h1 : fm_292_p6 Q1 X61 x4 x6 s) (h2 : fw_292_p6 Q2 X62 x4 x6 s) : fm_292_p6 Q3 X63 x4 x6 s := by
  unfold fm_292_p6 at h1 ⊢
  unfold fw_292_p6 at h2
  exact ⟨(fun c1 => hQ _ _  (h1.1 c1) (h2.1 c1)), (fun c1 => ⟨(h1.2 c1).1, hX6 _ _ _  (h1.2 c1).2 ((h2.2 c1) (h1.2 c1).1)⟩)⟩
def fw_292_p6L (Q : Int → lf_Z → Prop) (x4 : Int) (x6 : Int) (s : lf_Z) : Prop := ∃ X6 : Int → Int → lf_Z → Prop, (∀ (x4 : Int) (x6 : Int) (s : lf_Z), X6 x4 x6 s → fw_292_p6 Q X6 x4 x6 s) ∧ X6 x4 x6 s
theorem cj_292_p6L {Q1 Q2 Q3 : Int → lf_Z → Prop} {x4 : Int} {x6 : Int} {s : lf_Z} (hQ : ∀ (r : Int) (s : lf_Z), Q1 r s → Q2 r s → Q3 r s) (h1 : fm_292_p6L Q1 x4 x6 s) (h2 : fw_292_p6L Q2 x4 x6 s) : fm_292_p6L Q3 x4 x6 s := by
  intro X0 hX0
  obtain ⟨Y, hY, hY0⟩ := h2
  exact h1 (fun v0 v1 s => Y v0 v1 s → X0 v0 v1 s) (fun v0 v1 s hb hy => hX0 v0 v1 s (cj_292_p6 (X61 := fun v0 v1 s => Y v0 v1 s → X0 v0 v1 s) (X62 := Y) (X63 := X0) (hX6 := fun v0 v1 s a b => a b) hQ hb (hY v0 v1 s hy))) hY0
def fw_292 (a0 : Int) (a1 : Int) (Q : Int → lf_Z → Prop) (s : lf_Z) : Prop := fw_292_p6L Q a0 a1 s
theorem cj_292 {Q1 Q2 Q3 : Int → lf_Z → Prop} {a0 : Int} {a1 : Int} {s : lf_Z} (hQ : ∀ (r : Int) (s : lf_Z), Q1 r s → Q2 r s → Q3 r s) (h1 : fm_292 a0 a1 Q1 s) (h2 : fw_292 a0 a1 Q2 s) : fm_292 a0 a1 Q3 s := by
  unfold fm_292 at h1 ⊢
  unfold fw_292 at h2
  exact cj_292_p6L hQ h1 h2
def fw_291_p10 (Q : Int → lf_Z → Prop) (x0 : Int) (x2 : Int) (y0 : Int) (s : lf_Z) : Prop := fw_292 (lf_wl x0) (lf_wl x2) (fun r23 s22 => ((lf_wl r23) ≠ 0 → (Q (lf_wl ((lf_wl y0).tdiv (lf_wl r23))) s22))) s
theorem cj_291_p10 {Q1 Q2 Q3 : Int → lf_Z → Prop} {x0 : Int} {x2 : Int} {y0 : Int} {s : lf_Z} (hQ : ∀ (r : Int) (s : lf_Z), Q1 r s → Q2 r s → Q3 r s) (h1 : fm_291_p10 Q1 x0 x2 y0 s) (h2 : fw_291_p10 Q2 x0 x2 y0 s) : fm_291_p10 Q3 x0 x2 y0 s := by
  unfold fm_291_p10 at h1 ⊢
  unfold fw_291_p10 at h2
  exact cj_292 (fun r23 s22 k1 l1 => ⟨k1.1, hQ _ _  k1.2 (l1 k1.1)⟩) h1 h2
def fw_291 (a0 : Int) (a1 : Int) (a2 : Int) (Q : Int → lf_Z → Prop) (s : lf_Z) : Prop := lf_R a2 → ((a2 = 0 → (fw_291_p10 Q a0 a1 a0 s)) ∧ (¬ (a2 = 0) → (fw_291_p10 Q a0 a1 a1 s)))
theorem cj_291 {Q1 Q2 Q3 : Int → lf_Z → Prop} {a0 : Int} {a1 : Int} {a2 : Int} {s : lf_Z} (hQ : ∀ (r : Int) (s : lf_Z), Q1 r s → Q2 r s → Q3 r s) (h1 : fm_291 a0 a1 a2 Q1 s) (h2 : fw_291 a0 a1 a2 Q2 s) : fm_291 a0 a1 a2 Q3 s := by
  unfold fm_291 at h1 ⊢
  unfold fw_291 at h2
  exact ⟨h1.1, ⟨(fun c2 => cj_291_p10 hQ (h1.2.1 c2) ((h2 h1.1).1 c2)), (fun c2 => cj_291_p10 hQ (h1.2.2 c2) ((h2 h1.1).2 c2))⟩⟩
def fw_290_p98 (X20 : Int → Int → lf_Z → Prop) (Q : lf_Z → Prop) (x1 : Int) (x2 : Int) (x3 : Int) (x4 : Int) (x6 : Int) (s : lf_Z) : Prop := X20 x4 (x6 + 1) s
theorem cj_290_p98 {X201 X202 X203 : Int → Int → lf_Z → Prop} {Q1 Q2 Q3 : lf_Z → Prop} {x1 : Int} {x2 : Int} {x3 : Int} {x4 : Int} {x6 : Int} {s : lf_Z} (hX20 : ∀ (v0 : Int) (v1 : Int) (v2 : lf_Z), X201 v0 v1 v2 → X202 v0 v1 v2 → X203 v0 v1 v2) (hQ : ∀ (s : lf_Z), Q1 s → Q2 s → Q3 s) (h1 : fm_290_p98 X201 Q1 x1 x2 x3 x4 x6 s) (h2 : fw_290_p98 X202 Q2 x1 x2 x3 x4 x6 s) : fm_290_p98 X203 Q3 x1 x2 x3 x4 x6 s := by
  unfold fm_290_p98 at h1 ⊢
  unfold fw_290_p98 at h2
  exact hX20 _ _ _  h1 h2
def fw_290_p20 (Q : lf_Z → Prop) (x1 : Int) (x2 : Int) (x3 : Int) (X20 : Int → Int → lf_Z → Prop) (x4 : Int) (x6 : Int) (s : lf_Z) : Prop := lf_R x6 → (lf_R (s.1 96 1) → ((s.1 96 1 ≤ x6 → ((0 ≤ x2 ∧ x2 < 156) → (Q (s.1, lf_up s.2.1 110 x2 (lf_wl ((lf_wl (s.2.1 110 x2)) + (lf_wl x4))), s.2.2)))) ∧ (¬ (s.1 96 1 ≤ x6) → (lf_R x2 → (fw_273 x1 x3 ((x2.tmod 13) - 1) x6 (fun r28 s27 => (lf_R r28 → ((r28 ≠ 0 → (fw_187 x6 x3 (fun r31 s30 => ((0 ≤ ((13 * r31) + x3) + 1 ∧ ((13 * r31) + x3) + 1 < 156) → (fw_290_p98 X20 Q x1 x2 x3 (lf_wl ((lf_wl x4) - (lf_wl ((lf_wl ((lf_wl x4).tdiv 10)) * r28)))) x6 (s30.1, lf_up s30.2.1 110 (((13 * r31) + x3) + 1) (lf_wl ((lf_wl (s30.2.1 110 (((13 * r31) + x3) + 1))) + (lf_wl ((lf_wl ((lf_wl x4).tdiv 10)) * r28)))), s30.2.2)))) s27)) ∧ (¬ (r28 ≠ 0) → (fw_290_p98 X20 Q x1 x2 x3 x4 x6 s27))))) s)))))
theorem cj_290_p20 {X201 X202 X203 : Int → Int → lf_Z → Prop} {Q1 Q2 Q3 : lf_Z → Prop} {x1 : Int} {x2 : Int} {x3 : Int} {x4 : Int} {x6 : Int} {s : lf_Z} (hX20 : ∀ (v0 : Int) (v1 : Int) (v2 : lf_Z), X201 v0 v1 v2 → X202 v0 v1 v2 → X203 v0 v1 v2) (hQ : ∀ (s : lf_Z), Q1 s → Q2 s → Q3 s) (h1 : fm_290_p20 Q1 x1 x2 x3 X201 x4 x6 s) (h2 : fw_290_p20 Q2 x1 x2 x3 X202 x4 x6 s) : fm_290_p20 Q3 x1 x2 x3 X203 x4 x6 s := by
  unfold fm_290_p20 at h1 ⊢
  unfold fw_290_p20 at h2
  exact ⟨h1.1, ⟨h1.2.1, ⟨(fun c3 => ⟨(h1.2.2.1 c3).1, hQ _  (h1.2.2.1 c3).2 ((((h2 h1.1) h1.2.1).1 c3) (h1.2.2.1 c3).1)⟩), (fun c3 => ⟨(h1.2.2.2 c3).1, cj_273 (fun r28 s27 k7 l7 => ⟨k7.1, ⟨(fun c9 => cj_187 (fun r31 s30 k10 l10 => ⟨k10.1, cj_290_p98 hX20 hQ k10.2 (l10 k10.1)⟩) (k7.2.1 c9) ((l7 k7.1).1 c9)), (fun c9 => cj_290_p98 hX20 hQ (k7.2.2 c9) ((l7 k7.1).2 c9))⟩⟩) (h1.2.2.2 c3).2 ((((h2 h1.1) h1.2.1).2 c3) (h1.2.2.2 c3).1)⟩)⟩⟩⟩
def fw_290_p20L (Q : lf_Z → Prop) (x1 : Int) (x2 : Int) (x3 : Int) (x4 : Int) (x6 : Int) (s : lf_Z) : Prop := ∃ X20 : Int → Int → lf_Z → Prop, (∀ (x4 : Int) (x6 : Int) (s : lf_Z), X20 x4 x6 s → fw_290_p20 Q x1 x2 x3 X20 x4 x6 s) ∧ X20 x4 x6 s
theorem cj_290_p20L {Q1 Q2 Q3 : lf_Z → Prop} {x1 : Int} {x2 : Int} {x3 : Int} {x4 : Int} {x6 : Int} {s : lf_Z} (hQ : ∀ (s : lf_Z), Q1 s → Q2 s → Q3 s) (h1 : fm_290_p20L Q1 x1 x2 x3 x4 x6 s) (h2 : fw_290_p20L Q2 x1 x2 x3 x4 x6 s) : fm_290_p20L Q3 x1 x2 x3 x4 x6 s := by
  intro X0 hX0
  obtain ⟨Y, hY, hY0⟩ := h2
  exact h1 (fun v0 v1 s => Y v0 v1 s → X0 v0 v1 s) (fun v0 v1 s hb hy => hX0 v0 v1 s (cj_290_p20 (X201 := fun v0 v1 s => Y v0 v1 s → X0 v0 v1 s) (X202 := Y) (X203 := X0) (hX20 := fun v0 v1 s a b => a b) hQ hb (hY v0 v1 s hy))) hY0
def fw_290 (a1 : Int) (a2 : Int) (Q : lf_Z → Prop) (s : lf_Z) : Prop := lf_R a2 → ((0 ≤ a2 ∧ a2 < 156) → (fw_290_p20L Q a1 a2 (a2.tdiv 13) (lf_wl ((lf_wl (s.2.1 109 a2)) * 10000)) 0 s))
theorem cj_290 {Q1 Q2 Q3 : lf_Z → Prop} {a1 : Int} {a2 : Int} {s : lf_Z} (hQ : ∀ (s : lf_Z), Q1 s → Q2 s → Q3 s) (h1 : fm_290 a1 a2 Q1 s) (h2 : fw_290 a1 a2 Q2 s) : fm_290 a1 a2 Q3 s := by
  unfold fm_290 at h1 ⊢
  unfold fw_290 at h2
  exact ⟨h1.1, ⟨h1.2.1, cj_290_p20L hQ h1.2.2 ((h2 h1.1) h1.2.1)⟩⟩
def fw_289_p25 (Q : Int → lf_Z → Prop) (s : lf_Z) : Prop := Q (-1) s
theorem cj_289_p25 {Q1 Q2 Q3 : Int → lf_Z → Prop} {s : lf_Z} (hQ : ∀ (r : Int) (s : lf_Z), Q1 r s → Q2 r s → Q3 r s) (h1 : fm_289_p25 Q1 s) (h2 : fw_289_p25 Q2 s) : fm_289_p25 Q3 s := by
  unfold fm_289_p25 at h1 ⊢
  unfold fw_289_p25 at h2
  exact hQ _ _  h1 h2
def fw_289_p204 (Q : Int → lf_Z → Prop) (x3 : Int) (x4 : Int) (x5 : Int) (X204 : Int → Int → lf_Z → Prop) (x7 : Int) (x9 : Int) (s : lf_Z) : Prop := lf_R x9 → ((13 ≤ x9 → (fw_291 (lf_wl x7) (lf_wl x5) x4 (fun r37 s36 => (Q (lf_wl r37) s36)) s)) ∧ (¬ (13 ≤ x9) → ((0 ≤ (13 * x3) + x9 ∧ (13 * x3) + x9 < 156) → (X204 (lf_wl ((lf_wl x7) + (lf_wl (s.2.1 109 ((13 * x3) + x9))))) (x9 + 1) s))))
theorem cj_289_p204 {X2041 X2042 X2043 : Int → Int → lf_Z → Prop} {Q1 Q2 Q3 : Int → lf_Z → Prop} {x3 : Int} {x4 : Int} {x5 : Int} {x7 : Int} {x9 : Int} {s : lf_Z} (hX204 : ∀ (v0 : Int) (v1 : Int) (v2 : lf_Z), X2041 v0 v1 v2 → X2042 v0 v1 v2 → X2043 v0 v1 v2) (hQ : ∀ (r : Int) (s : lf_Z), Q1 r s → Q2 r s → Q3 r s) (h1 : fm_289_p204 Q1 x3 x4 x5 X2041 x7 x9 s) (h2 : fw_289_p204 Q2 x3 x4 x5 X2042 x7 x9 s) : fm_289_p204 Q3 x3 x4 x5 X2043 x7 x9 s := by
  unfold fm_289_p204 at h1 ⊢
  unfold fw_289_p204 at h2
  exact ⟨h1.1, ⟨(fun c2 => cj_291 (fun r37 s36 k3 l3 => hQ _ _  k3 l3) (h1.2.1 c2) ((h2 h1.1).1 c2)), (fun c2 => ⟨(h1.2.2 c2).1, hX204 _ _ _  (h1.2.2 c2).2 (((h2 h1.1).2 c2) (h1.2.2 c2).1)⟩)⟩⟩
def fw_289_p204L (Q : Int → lf_Z → Prop) (x3 : Int) (x4 : Int) (x5 : Int) (x7 : Int) (x9 : Int) (s : lf_Z) : Prop := ∃ X204 : Int → Int → lf_Z → Prop, (∀ (x7 : Int) (x9 : Int) (s : lf_Z), X204 x7 x9 s → fw_289_p204 Q x3 x4 x5 X204 x7 x9 s) ∧ X204 x7 x9 s
theorem cj_289_p204L {Q1 Q2 Q3 : Int → lf_Z → Prop} {x3 : Int} {x4 : Int} {x5 : Int} {x7 : Int} {x9 : Int} {s : lf_Z} (hQ : ∀ (r : Int) (s : lf_Z), Q1 r s → Q2 r s → Q3 r s) (h1 : fm_289_p204L Q1 x3 x4 x5 x7 x9 s) (h2 : fw_289_p204L Q2 x3 x4 x5 x7 x9 s) : fm_289_p204L Q3 x3 x4 x5 x7 x9 s := by
  intro X0 hX0
  obtain ⟨Y, hY, hY0⟩ := h2
  exact h1 (fun v0 v1 s => Y v0 v1 s → X0 v0 v1 s) (fun v0 v1 s hb hy => hX0 v0 v1 s (cj_289_p204 (X2041 := fun v0 v1 s => Y v0 v1 s → X0 v0 v1 s) (X2042 := Y) (X2043 := X0) (hX204 := fun v0 v1 s a b => a b) hQ hb (hY v0 v1 s hy))) hY0
def fw_289_p156 (X82 : Int → Int → lf_Z → Prop) (Q : Int → lf_Z → Prop) (x1 : Int) (x2 : Int) (x3 : Int) (x4 : Int) (x5 : Int) (x7 : Int) (X156 : Int → lf_Z → Prop) (x8 : Int) (s : lf_Z) : Prop := lf_R x8 → ((156 ≤ x8 → (X82 (lf_wl ((lf_wl x5) * 10000)) (x7 + 1) s)) ∧ (¬ (156 ≤ x8) → ((0 ≤ x8 ∧ x8 < 156) → (X156 (x8 + 1) (s.1, lf_up s.2.1 109 x8 (lf_wl (s.2.1 110 x8)), s.2.2)))))
theorem cj_289_p156 {X821 X822 X823 : Int → Int → lf_Z → Prop} {X1561 X1562 X1563 : Int → lf_Z → Prop} {Q1 Q2 Q3 : Int → lf_Z → Prop} {x1 : Int} {x2 : Int} {x3 : Int} {x4 : Int} {x5 : Int} {x7 : Int} {x8 : Int} {s : lf_Z} (hX82 : ∀ (v0 : Int) (v1 : Int) (v2 : lf_Z), X821 v0 v1 v2 → X822 v0 v1 v2 → X823 v0 v1 v2) (hX156 : ∀ (v0 : Int) (v1 : lf_Z), X1561 v0 v1 → X1562 v0 v1 → X1563 v0 v1) (hQ : ∀ (r : Int) (s : lf_Z), Q1 r s → Q2 r s → Q3 r s) (h1 : fm_289_p156 X821 Q1 x1 x2 x3 x4 x5 x7 X1561 x8 s) (h2 : fw_289_p156 X822 Q2 x1 x2 x3 x4 x5 x7 X1562 x8 s) : fm_289_p156 X823 Q3 x1 x2 x3 x4 x5 x7 X1563 x8 s := by
  unfold fm_289_p156 at h1 ⊢
  unfold fw_289_p156 at h2
  exact ⟨h1.1, ⟨(fun c2 => hX82 _ _ _  (h1.2.1 c2) ((h2 h1.1).1 c2)), (fun c2 => ⟨(h1.2.2 c2).1, hX156 _ _  (h1.2.2 c2).2 (((h2 h1.1).2 c2) (h1.2.2 c2).1)⟩)⟩⟩
def fw_289_p156L (X82 : Int → Int → lf_Z → Prop) (Q : Int → lf_Z → Prop) (x1 : Int) (x2 : Int) (x3 : Int) (x4 : Int) (x5 : Int) (x7 : Int) (x8 : Int) (s : lf_Z) : Prop := ∃ X156 : Int → lf_Z → Prop, (∀ (x8 : Int) (s : lf_Z), X156 x8 s → fw_289_p156 X82 Q x1 x2 x3 x4 x5 x7 X156 x8 s) ∧ X156 x8 s
theorem cj_289_p156L {X821 X822 X823 : Int → Int → lf_Z → Prop} {Q1 Q2 Q3 : Int → lf_Z → Prop} {x1 : Int} {x2 : Int} {x3 : Int} {x4 : Int} {x5 : Int} {x7 : Int} {x8 : Int} {s : lf_Z} (hX82 : ∀ (v0 : Int) (v1 : Int) (v2 : lf_Z), X821 v0 v1 v2 → X822 v0 v1 v2 → X823 v0 v1 v2) (hQ : ∀ (r : Int) (s : lf_Z), Q1 r s → Q2 r s → Q3 r s) (h1 : fm_289_p156L X821 Q1 x1 x2 x3 x4 x5 x7 x8 s) (h2 : fw_289_p156L X822 Q2 x1 x2 x3 x4 x5 x7 x8 s) : fm_289_p156L X823 Q3 x1 x2 x3 x4 x5 x7 x8 s := by
  intro X0 hX0
  obtain ⟨Y, hY, hY0⟩ := h2
  exact h1 (fun v0 s => Y v0 s → X0 v0 s) (fun v0 s hb hy => hX0 v0 s (cj_289_p156 (hX82 := hX82) (X1561 := fun v0 s => Y v0 s → X0 v0 s) (X1562 := Y) (X1563 := X0) (hX156 := fun v0 s a b => a b) hQ hb (hY v0 s hy))) hY0
def fw_289_p147 (X82 : Int → Int → lf_Z → Prop) (X116 : Int → lf_Z → Prop) (Q : Int → lf_Z → Prop) (x1 : Int) (x2 : Int) (x3 : Int) (x4 : Int) (x5 : Int) (x7 : Int) (x8 : Int) (s : lf_Z) : Prop := X116 (x8 + 1) s
theorem cj_289_p147 {X821 X822 X823 : Int → Int → lf_Z → Prop} {X1161 X1162 X1163 : Int → lf_Z → Prop} {Q1 Q2 Q3 : Int → lf_Z → Prop} {x1 : Int} {x2 : Int} {x3 : Int} {x4 : Int} {x5 : Int} {x7 : Int} {x8 : Int} {s : lf_Z} (hX82 : ∀ (v0 : Int) (v1 : Int) (v2 : lf_Z), X821 v0 v1 v2 → X822 v0 v1 v2 → X823 v0 v1 v2) (hX116 : ∀ (v0 : Int) (v1 : lf_Z), X1161 v0 v1 → X1162 v0 v1 → X1163 v0 v1) (hQ : ∀ (r : Int) (s : lf_Z), Q1 r s → Q2 r s → Q3 r s) (h1 : fm_289_p147 X821 X1161 Q1 x1 x2 x3 x4 x5 x7 x8 s) (h2 : fw_289_p147 X822 X1162 Q2 x1 x2 x3 x4 x5 x7 x8 s) : fm_289_p147 X823 X1163 Q3 x1 x2 x3 x4 x5 x7 x8 s := by
  unfold fm_289_p147 at h1 ⊢
  unfold fw_289_p147 at h2
  exact hX116 _ _  h1 h2
def fw_289_p116 (X82 : Int → Int → lf_Z → Prop) (Q : Int → lf_Z → Prop) (x1 : Int) (x2 : Int) (x3 : Int) (x4 : Int) (x5 : Int) (x7 : Int) (X116 : Int → lf_Z → Prop) (x8 : Int) (s : lf_Z) : Prop := lf_R x8 → ((156 ≤ x8 → (fw_289_p156L X82 Q x1 x2 x3 x4 x5 x7 0 s)) ∧ (¬ (156 ≤ x8) → ((0 ≤ x8 ∧ x8 < 156) → ((lf_wl (s.2.1 109 x8) ≤ 0 → (fw_289_p147 X82 X116 Q x1 x2 x3 x4 x5 x7 x8 s)) ∧ (¬ (lf_wl (s.2.1 109 x8) ≤ 0) → (fw_242 x1 (fun r45 s44 => (fw_290 r45 x8 (fun s46 => (fw_289_p147 X82 X116 Q x1 x2 x3 x4 x5 x7 x8 s46)) s44)) s))))))
theorem cj_289_p116 {X821 X822 X823 : Int → Int → lf_Z → Prop} {X1161 X1162 X1163 : Int → lf_Z → Prop} {Q1 Q2 Q3 : Int → lf_Z → Prop} {x1 : Int} {x2 : Int} {x3 : Int} {x4 : Int} {x5 : Int} {x7 : Int} {x8 : Int} {s : lf_Z} (hX82 : ∀ (v0 : Int) (v1 : Int) (v2 : lf_Z), X821 v0 v1 v2 → X822 v0 v1 v2 → X823 v0 v1 v2) (hX116 : ∀ (v0 : Int) (v1 : lf_Z), X1161 v0 v1 → X1162 v0 v1 → X1163 v0 v1) (hQ : ∀ (r : Int) (s : lf_Z), Q1 r s → Q2 r s → Q3 r s) (h1 : fm_289_p116 X821 Q1 x1 x2 x3 x4 x5 x7 X1161 x8 s) (h2 : fw_289_p116 X822 Q2 x1 x2 x3 x4 x5 x7 X1162 x8 s) : fm_289_p116 X823 Q3 x1 x2 x3 x4 x5 x7 X1163 x8 s := by
  unfold fm_289_p116 at h1 ⊢
  unfold fw_289_p116 at h2
  exact ⟨h1.1, ⟨(fun c2 => cj_289_p156L hX82 hQ (h1.2.1 c2) ((h2 h1.1).1 c2)), (fun c2 => ⟨(h1.2.2 c2).1, ⟨(fun c5 => cj_289_p147 hX82 hX116 hQ ((h1.2.2 c2).2.1 c5) ((((h2 h1.1).2 c2) (h1.2.2 c2).1).1 c5)), (fun c5 => cj_242 (fun r45 s44 k7 l7 => cj_290 (fun s46 k8 l8 => cj_289_p147 hX82 hX116 hQ k8 l8) k7 l7) ((h1.2.2 c2).2.2 c5) ((((h2 h1.1).2 c2) (h1.2.2 c2).1).2 c5))⟩⟩)⟩⟩
def fw_289_p116L (X82 : Int → Int → lf_Z → Prop) (Q : Int → lf_Z → Prop) (x1 : Int) (x2 : Int) (x3 : Int) (x4 : Int) (x5 : Int) (x7 : Int) (x8 : Int) (s : lf_Z) : Prop := ∃ X116 : Int → lf_Z → Prop, (∀ (x8 : Int) (s : lf_Z), X116 x8 s → fw_289_p116 X82 Q x1 x2 x3 x4 x5 x7 X116 x8 s) ∧ X116 x8 s
theorem cj_289_p116L {X821 X822 X823 : Int → Int → lf_Z → Prop} {Q1 Q2 Q3 : Int → lf_Z → Prop} {x1 : Int} {x2 : Int} {x3 : Int} {x4 : Int} {x5 : Int} {x7 : Int} {x8 : Int} {s : lf_Z} (hX82 : ∀ (v0 : Int) (v1 : Int) (v2 : lf_Z), X821 v0 v1 v2 → X822 v0 v1 v2 → X823 v0 v1 v2) (hQ : ∀ (r : Int) (s : lf_Z), Q1 r s → Q2 r s → Q3 r s) (h1 : fm_289_p116L X821 Q1 x1 x2 x3 x4 x5 x7 x8 s) (h2 : fw_289_p116L X822 Q2 x1 x2 x3 x4 x5 x7 x8 s) : fm_289_p116L X823 Q3 x1 x2 x3 x4 x5 x7 x8 s := by
  intro X0 hX0
  obtain ⟨Y, hY, hY0⟩ := h2
  exact h1 (fun v0 s => Y v0 s → X0 v0 s) (fun v0 s hb hy => hX0 v0 s (cj_289_p116 (hX82 := hX82) (X1161 := fun v0 s => Y v0 s → X0 v0 s) (X1162 := Y) (X1163 := X0) (hX116 := fun v0 s a b => a b) hQ hb (hY v0 s hy))) hY0
def fw_289_p91 (X82 : Int → Int → lf_Z → Prop) (Q : Int → lf_Z → Prop) (x1 : Int) (x2 : Int) (x3 : Int) (x4 : Int) (x5 : Int) (x7 : Int) (X91 : Int → lf_Z → Prop) (x8 : Int) (s : lf_Z) : Prop := lf_R x8 → ((156 ≤ x8 → (fw_289_p116L X82 Q x1 x2 x3 x4 x5 x7 0 s)) ∧ (¬ (156 ≤ x8) → ((0 ≤ x8 ∧ x8 < 156) → (X91 (x8 + 1) (s.1, lf_up s.2.1 110 x8 0, s.2.2)))))
theorem cj_289_p91 {X821 X822 X823 : Int → Int → lf_Z → Prop} {X911 X912 X913 : Int → lf_Z → Prop} {Q1 Q2 Q3 : Int → lf_Z → Prop} {x1 : Int} {x2 : Int} {x3 : Int} {x4 : Int} {x5 : Int} {x7 : Int} {x8 : Int} {s : lf_Z} (hX82 : ∀ (v0 : Int) (v1 : Int) (v2 : lf_Z), X821 v0 v1 v2 → X822 v0 v1 v2 → X823 v0 v1 v2) (hX91 : ∀ (v0 : Int) (v1 : lf_Z), X911 v0 v1 → X912 v0 v1 → X913 v0 v1) (hQ : ∀ (r : Int) (s : lf_Z), Q1 r s → Q2 r s → Q3 r s) (h1 : fm_289_p91 X821 Q1 x1 x2 x3 x4 x5 x7 X911 x8 s) (h2 : fw_289_p91 X822 Q2 x1 x2 x3 x4 x5 x7 X912 x8 s) : fm_289_p91 X823 Q3 x1 x2 x3 x4 x5 x7 X913 x8 s := by
  unfold fm_289_p91 at h1 ⊢
  unfold fw_289_p91 at h2
  exact ⟨h1.1, ⟨(fun c2 => cj_289_p116L hX82 hQ (h1.2.1 c2) ((h2 h1.1).1 c2)), (fun c2 => ⟨(h1.2.2 c2).1, hX91 _ _  (h1.2.2 c2).2 (((h2 h1.1).2 c2) (h1.2.2 c2).1)⟩)⟩⟩
def fw_289_p91L (X82 : Int → Int → lf_Z → Prop) (Q : Int → lf_Z → Prop) (x1 : Int) (x2 : Int) (x3 : Int) (x4 : Int) (x5 : Int) (x7 : Int) (x8 : Int) (s : lf_Z) : Prop := ∃ X91 : Int → lf_Z → Prop, (∀ (x8 : Int) (s : lf_Z), X91 x8 s → fw_289_p91 X82 Q x1 x2 x3 x4 x5 x7 X91 x8 s) ∧ X91 x8 s
theorem cj_289_p91L {X821 X822 X823 : Int → Int → lf_Z → Prop} {Q1 Q2 Q3 : Int → lf_Z → Prop} {x1 : Int} {x2 : Int} {x3 : Int} {x4 : Int} {x5 : Int} {x7 : Int} {x8 : Int} {s : lf_Z} (hX82 : ∀ (v0 : Int) (v1 : Int) (v2 : lf_Z), X821 v0 v1 v2 → X822 v0 v1 v2 → X823 v0 v1 v2) (hQ : ∀ (r : Int) (s : lf_Z), Q1 r s → Q2 r s → Q3 r s) (h1 : fm_289_p91L X821 Q1 x1 x2 x3 x4 x5 x7 x8 s) (h2 : fw_289_p91L X822 Q2 x1 x2 x3 x4 x5 x7 x8 s) : fm_289_p91L X823 Q3 x1 x2 x3 x4 x5 x7 x8 s := by
  intro X0 hX0
  obtain ⟨Y, hY, hY0⟩ := h2
  exact h1 (fun v0 s => Y v0 s → X0 v0 s) (fun v0 s hb hy => hX0 v0 s (cj_289_p91 (hX82 := hX82) (X911 := fun v0 s => Y v0 s → X0 v0 s) (X912 := Y) (X913 := X0) (hX91 := fun v0 s a b => a b) hQ hb (hY v0 s hy))) hY0
def fw_289_p82 (Q : Int → lf_Z → Prop) (x1 : Int) (x2 : Int) (x3 : Int) (x4 : Int) (X82 : Int → Int → lf_Z → Prop) (x5 : Int) (x7 : Int) (s : lf_Z) : Prop := lf_R x7 → (lf_R x2 → ((x2 ≤ x7 → (fw_289_p204L Q x3 x4 x5 0 0 s)) ∧ (¬ (x2 ≤ x7) → (fw_289_p91L X82 Q x1 x2 x3 x4 x5 x7 0 s))))
theorem cj_289_p82 {X821 X822 X823 : Int → Int → lf_Z → Prop} {Q1 Q2 Q3 : Int → lf_Z → Prop} {x1 : Int} {x2 : Int} {x3 : Int} {x4 : Int} {x5 : Int} {x7 : Int} {s : lf_Z} (hX82 : ∀ (v0 : Int) (v1 : Int) (v2 : lf_Z), X821 v0 v1 v2 → X822 v0 v1 v2 → X823 v0 v1 v2) (hQ : ∀ (r : Int) (s : lf_Z), Q1 r s → Q2 r s → Q3 r s) (h1 : fm_289_p82 Q1 x1 x2 x3 x4 X821 x5 x7 s) (h2 : fw_289_p82 Q2 x1 x2 x3 x4 X822 x5 x7 s) : fm_289_p82 Q3 x1 x2 x3 x4 X823 x5 x7 s := by
  unfold fm_289_p82 at h1 ⊢
  unfold fw_289_p82 at h2
  exact ⟨h1.1, ⟨h1.2.1, ⟨(fun c3 => cj_289_p204L hQ (h1.2.2.1 c3) (((h2 h1.1) h1.2.1).1 c3)), (fun c3 => cj_289_p91L hX82 hQ (h1.2.2.2 c3) (((h2 h1.1) h1.2.1).2 c3))⟩⟩⟩
def fw_289_p82L (Q : Int → lf_Z → Prop) (x1 : Int) (x2 : Int) (x3 : Int) (x4 : Int) (x5 : Int) (x7 : Int) (s : lf_Z) : Prop := ∃ X82 : Int → Int → lf_Z → Prop, (∀ (x5 : Int) (x7 : Int) (s : lf_Z), X82 x5 x7 s → fw_289_p82 Q x1 x2 x3 x4 X82 x5 x7 s) ∧ X82 x5 x7 s
theorem cj_289_p82L {Q1 Q2 Q3 : Int → lf_Z → Prop} {x1 : Int} {x2 : Int} {x3 : Int} {x4 : Int} {x5 : Int} {x7 : Int} {s : lf_Z} (hQ : ∀ (r : Int) (s : lf_Z), Q1 r s → Q2 r s → Q3 r s) (h1 : fm_289_p82L Q1 x1 x2 x3 x4 x5 x7 s) (h2 : fw_289_p82L Q2 x1 x2 x3 x4 x5 x7 s) : fm_289_p82L Q3 x1 x2 x3 x4 x5 x7 s := by
  intro X0 hX0
  obtain ⟨Y, hY, hY0⟩ := h2
  exact h1 (fun v0 v1 s => Y v0 v1 s → X0 v0 v1 s) (fun v0 v1 s hb hy => hX0 v0 v1 s (cj_289_p82 (X821 := fun v0 v1 s => Y v0 v1 s → X0 v0 v1 s) (X822 := Y) (X823 := X0) (hX82 := fun v0 v1 s a b => a b) hQ hb (hY v0 v1 s hy))) hY0
def fw_289_p32 (Q : Int → lf_Z → Prop) (x1 : Int) (x2 : Int) (x3 : Int) (x4 : Int) (X32 : Int → lf_Z → Prop) (x5 : Int) (s : lf_Z) : Prop := lf_R x5 → ((156 ≤ x5 → (fw_255 x1 (fun r29 s28 => (fw_256 x1 (fun r31 s30 => ((0 ≤ ((13 * r29) + r31) + 1 ∧ ((13 * r29) + r31) + 1 < 156) → (fw_289_p82L Q x1 x2 x3 x4 1 0 (s30.1, lf_up s30.2.1 109 (((13 * r29) + r31) + 1) 1, s30.2.2)))) s28)) s)) ∧ (¬ (156 ≤ x5) → ((0 ≤ x5 ∧ x5 < 156) → (X32 (x5 + 1) (s.1, lf_up s.2.1 109 x5 0, s.2.2)))))
theorem cj_289_p32 {X321 X322 X323 : Int → lf_Z → Prop} {Q1 Q2 Q3 : Int → lf_Z → Prop} {x1 : Int} {x2 : Int} {x3 : Int} {x4 : Int} {x5 : Int} {s : lf_Z} (hX32 : ∀ (v0 : Int) (v1 : lf_Z), X321 v0 v1 → X322 v0 v1 → X323 v0 v1) (hQ : ∀ (r : Int) (s : lf_Z), Q1 r s → Q2 r s → Q3 r s) (h1 : fm_289_p32 Q1 x1 x2 x3 x4 X321 x5 s) (h2 : fw_289_p32 Q2 x1 x2 x3 x4 X322 x5 s) : fm_289_p32 Q3 x1 x2 x3 x4 X323 x5 s := by
  unfold fm_289_p32 at h1 ⊢
  unfold fw_289_p32 at h2
  exact ⟨h1.1, ⟨(fun c2 => cj_255 (fun r29 s28 k3 l3 => cj_256 (fun r31 s30 k4 l4 => ⟨k4.1, cj_289_p82L hQ k4.2 (l4 k4.1)⟩) k3 l3) (h1.2.1 c2) ((h2 h1.1).1 c2)), (fun c2 => ⟨(h1.2.2 c2).1, hX32 _ _  (h1.2.2 c2).2 (((h2 h1.1).2 c2) (h1.2.2 c2).1)⟩)⟩⟩
def fw_289_p32L (Q : Int → lf_Z → Prop) (x1 : Int) (x2 : Int) (x3 : Int) (x4 : Int) (x5 : Int) (s : lf_Z) : Prop := ∃ X32 : Int → lf_Z → Prop, (∀ (x5 : Int) (s : lf_Z), X32 x5 s → fw_289_p32 Q x1 x2 x3 x4 X32 x5 s) ∧ X32 x5 s
theorem cj_289_p32L {Q1 Q2 Q3 : Int → lf_Z → Prop} {x1 : Int} {x2 : Int} {x3 : Int} {x4 : Int} {x5 : Int} {s : lf_Z} (hQ : ∀ (r : Int) (s : lf_Z), Q1 r s → Q2 r s → Q3 r s) (h1 : fm_289_p32L Q1 x1 x2 x3 x4 x5 s) (h2 : fw_289_p32L Q2 x1 x2 x3 x4 x5 s) : fm_289_p32L Q3 x1 x2 x3 x4 x5 s := by
  intro X0 hX0
  obtain ⟨Y, hY, hY0⟩ := h2
  exact h1 (fun v0 s => Y v0 s → X0 v0 s) (fun v0 s hb hy => hX0 v0 s (cj_289_p32 (X321 := fun v0 s => Y v0 s → X0 v0 s) (X322 := Y) (X323 := X0) (hX32 := fun v0 s a b => a b) hQ hb (hY v0 s hy))) hY0
def fw_289 (a1 : Int) (a2 : Int) (a3 : Int) (a4 : Int) (Q : Int → lf_Z → Prop) (s : lf_Z) : Prop := fw_254 a1 (fun z22 s21 => ((z22 = false → (fw_289_p25 Q s21)) ∧ (z22 = true → (fw_183 a2 0 4 (fun z24 s23 => ((z24 = false → (fw_289_p25 Q s23)) ∧ (z24 = true → (fw_185 a3 (fun z26 s25 => ((z26 = true → (fw_289_p32L Q a1 a2 a3 a4 0 s25)) ∧ (z26 = false → (fw_289_p25 Q s25)))) s23)))) s21)))) s
theorem cj_289 {Q1 Q2 Q3 : Int → lf_Z → Prop} {a1 : Int} {a2 : Int} {a3 : Int} {a4 : Int} {s : lf_Z} (hQ : ∀ (r : Int) (s : lf_Z), Q1 r s → Q2 r s → Q3 r s) (h1 : fm_289 a1 a2 a3 a4 Q1 s) (h2 : fw_289 a1 a2 a3 a4 Q2 s) : fm_289 a1 a2 a3 a4 Q3 s := by
  unfold fm_289 at h1 ⊢
  unfold fw_289 at h2
  exact cj_254 (fun z22 s21 k1 l1 => ⟨(fun c2 => cj_289_p25 hQ (k1.1 c2) (l1.1 c2)), (fun c2 => cj_183 (fun z24 s23 k4 l4 => ⟨(fun c5 => cj_289_p25 hQ (k4.1 c5) (l4.1 c5)), (fun c5 => cj_185 (fun z26 s25 k7 l7 => ⟨(fun c8 => cj_289_p32L hQ (k7.1 c8) (l7.1 c8)), (fun c8 => cj_289_p25 hQ (k7.2 c8) (l7.2 c8))⟩) (k4.2 c5) (l4.2 c5))⟩) (k1.2 c2) (l1.2 c2))⟩) h1 h2
def fw_129_p113 (X11 : Int → Int → lf_Z → Prop) (Q : Int → lf_Z → Prop) (x1 : Int) (x3 : Int) (x4 : Int) (x5 : Int) (x7 : Int) (s : lf_Z) : Prop := lf_R x7 → ((x7 ≠ 10 → (X11 x4 (x5 + 1) s)) ∧ (¬ (x7 ≠ 10) → (Q x4 s)))
theorem cj_129_p113 {X111 X112 X113 : Int → Int → lf_Z → Prop} {Q1 Q2 Q3 : Int → lf_Z → Prop} {x1 : Int} {x3 : Int} {x4 : Int} {x5 : Int} {x7 : Int} {s : lf_Z} (hX11 : ∀ (v0 : Int) (v1 : Int) (v2 : lf_Z), X111 v0 v1 v2 → X112 v0 v1 v2 → X113 v0 v1 v2) (hQ : ∀ (r : Int) (s : lf_Z), Q1 r s → Q2 r s → Q3 r s) (h1 : fm_129_p113 X111 Q1 x1 x3 x4 x5 x7 s) (h2 : fw_129_p113 X112 Q2 x1 x3 x4 x5 x7 s) : fm_129_p113 X113 Q3 x1 x3 x4 x5 x7 s := by
  unfold fm_129_p113 at h1 ⊢
  unfold fw_129_p113 at h2
  exact ⟨h1.1, ⟨(fun c2 => hX11 _ _ _  (h1.2.1 c2) ((h2 h1.1).1 c2)), (fun c2 => hQ _ _  (h1.2.2 c2) ((h2 h1.1).2 c2))⟩⟩
def fw_129_p11 (Q : Int → lf_Z → Prop) (x1 : Int) (x3 : Int) (X11 : Int → Int → lf_Z → Prop) (x4 : Int) (x5 : Int) (s : lf_Z) : Prop := fw_76 x3 (fun r23 s22 => (lf_R x5 → (lf_R r23 → ((r23 ≤ x5 → (Q x4 s22)) ∧ (¬ (r23 ≤ x5) → (fw_77 x3 x5 (fun r27 s26 => (lf_R x1 → (fw_123 r27 x3 ((x1.tmod 13) - 1) (fun r30 s29 => (fw_78 r27 x3 (fun r32 s31 => (lf_R r30 → ((r30 ≤ 0 → (fw_129_p113 X11 Q x1 x3 x4 x5 r30 s31)) ∧ (¬ (r30 ≤ 0) → ((0 ≤ ((r32 * 13) + x3) + 1 ∧ ((r32 * 13) + x3) + 1 < 156) → (lf_R (s31.1 71 (((r32 * 13) + x3) + 1)) → ((s31.1 71 (((r32 * 13) + x3) + 1) ≠ 0 → (fw_129_p113 X11 Q x1 x3 x4 x5 r30 s31)) ∧ (¬ (s31.1 71 (((r32 * 13) + x3) + 1) ≠ 0) → (lf_R x4 → ((156 ≤ x4 → (fw_129_p113 X11 Q x1 x3 x4 x5 r30 s31)) ∧ (¬ (156 ≤ x4) → ((0 ≤ x4 ∧ x4 < 156) → (fw_129_p113 X11 Q x1 x3 (x4 + 1) x5 r30 (lf_up (lf_up s31.1 71 (((r32 * 13) + x3) + 1) 1) 70 x4 (((r32 * 13) + x3) + 1), s31.2.1, s31.2.2)))))))))))))) s29)) s26))) s22)))))) s
theorem cj_129_p11 {X111 X112 X113 : Int → Int → lf_Z → Prop} {Q1 Q2 Q3 : Int → lf_Z → Prop} {x1 : Int} {x3 : Int} {x4 : Int} {x5 : Int} {s : lf_Z} (hX11 : ∀ (v0 : Int) (v1 : Int) (v2 : lf_Z), X111 v0 v1 v2 → X112 v0 v1 v2 → X113 v0 v1 v2) (hQ : ∀ (r : Int) (s : lf_Z), Q1 r s → Q2 r s → Q3 r s) (h1 : fm_129_p11 Q1 x1 x3 X111 x4 x5 s) (h2 : fw_129_p11 Q2 x1 x3 X112 x4 x5 s) : fm_129_p11 Q3 x1 x3 X113 x4 x5 s := by
  unfold fm_129_p11 at h1 ⊢
  unfold fw_129_p11 at h2
  exact cj_76 (fun r23 s22 k1 l1 => ⟨k1.1, ⟨k1.2.1, ⟨(fun c4 => hQ _ _  (k1.2.2.1 c4) (((l1 k1.1) k1.2.1).1 c4)), (fun c4 => cj_77 (fun r27 s26 k6 l6 => ⟨k6.1, cj_123 (fun r30 s29 k8 l8 => cj_78 (fun r32 s31 k9 l9 => ⟨k9.1, ⟨(fun c11 => cj_129_p113 hX11 hQ (k9.2.1 c11) ((l9 k9.1).1 c11)), (fun c11 => ⟨(k9.2.2 c11).1, ⟨(k9.2.2 c11).2.1, ⟨(fun c15 => cj_129_p113 hX11 hQ ((k9.2.2 c11).2.2.1 c15) (((((l9 k9.1).2 c11) (k9.2.2 c11).1) (k9.2.2 c11).2.1).1 c15)), (fun c15 => ⟨((k9.2.2 c11).2.2.2 c15).1, ⟨(fun c18 => cj_129_p113 hX11 hQ (((k9.2.2 c11).2.2.2 c15).2.1 c18) (((((((l9 k9.1).2 c11) (k9.2.2 c11).1) (k9.2.2 c11).2.1).2 c15) ((k9.2.2 c11).2.2.2 c15).1).1 c18)), (fun c18 => ⟨(((k9.2.2 c11).2.2.2 c15).2.2 c18).1, cj_129_p113 hX11 hQ (((k9.2.2 c11).2.2.2 c15).2.2 c18).2 ((((((((l9 k9.1).2 c11) (k9.2.2 c11).1) (k9.2.2 c11).2.1).2 c15) ((k9.2.2 c11).2.2.2 c15).1).2 c18) (((k9.2.2 c11).2.2.2 c15).2.2 c18).1)⟩)⟩⟩)⟩⟩⟩)⟩⟩) k8 l8) k6.2 (l6 k6.1)⟩) (k1.2.2.2 c4) (((l1 k1.1) k1.2.1).2 c4))⟩⟩⟩) h1 h2
def fw_129_p11L (Q : Int → lf_Z → Prop) (x1 : Int) (x3 : Int) (x4 : Int) (x5 : Int) (s : lf_Z) : Prop := ∃ X11 : Int → Int → lf_Z → Prop, (∀ (x4 : Int) (x5 : Int) (s : lf_Z), X11 x4 x5 s → fw_129_p11 Q x1 x3 X11 x4 x5 s) ∧ X11 x4 x5 s
theorem cj_129_p11L {Q1 Q2 Q3 : Int → lf_Z → Prop} {x1 : Int} {x3 : Int} {x4 : Int} {x5 : Int} {s : lf_Z} (hQ : ∀ (r : Int) (s : lf_Z), Q1 r s → Q2 r s → Q3 r s) (h1 : fm_129_p11L Q1 x1 x3 x4 x5 s) (h2 : fw_129_p11L Q2 x1 x3 x4 x5 s) : fm_129_p11L Q3 x1 x3 x4 x5 s := by
  intro X0 hX0
  obtain ⟨Y, hY, hY0⟩ := h2
  exact h1 (fun v0 v1 s => Y v0 v1 s → X0 v0 v1 s) (fun v0 v1 s hb hy => hX0 v0 v1 s (cj_129_p11 (X111 := fun v0 v1 s => Y v0 v1 s → X0 v0 v1 s) (X112 := Y) (X113 := X0) (hX11 := fun v0 v1 s a b => a b) hQ hb (hY v0 v1 s hy))) hY0
def fw_129 (a1 : Int) (a2 : Int) (Q : Int → lf_Z → Prop) (s : lf_Z) : Prop := lf_R a1 → (fw_129_p11L Q a1 (a1.tdiv 13) a2 0 s)
theorem cj_129 {Q1 Q2 Q3 : Int → lf_Z → Prop} {a1 : Int} {a2 : Int} {s : lf_Z} (hQ : ∀ (r : Int) (s : lf_Z), Q1 r s → Q2 r s → Q3 r s) (h1 : fm_129 a1 a2 Q1 s) (h2 : fw_129 a1 a2 Q2 s) : fm_129 a1 a2 Q3 s := by
  unfold fm_129 at h1 ⊢
  unfold fw_129 at h2
  exact ⟨h1.1, cj_129_p11L hQ h1.2 (h2 h1.1)⟩
def fw_128_p38 (Q : Int → lf_Z → Prop) (X38 : Int → Int → Int → lf_Z → Prop) (x2 : Int) (x3 : Int) (x4 : Int) (s : lf_Z) : Prop := lf_R x4 → (lf_R x2 → ((x2 ≤ x4 → (Q x3 s)) ∧ (¬ (x2 ≤ x4) → ((156 ≤ x4 → (Q x3 s)) ∧ (¬ (156 ≤ x4) → ((0 ≤ x4 ∧ x4 < 156) → (lf_R (s.1 70 x4) → (fw_129 (s.1 70 x4) x2 (fun r29 s28 => (X38 r29 (lf_or x3 (lf_shl 1 ((s.1 70 x4).tdiv 13))) (x4 + 1) s28)) s))))))))
theorem cj_128_p38 {X381 X382 X383 : Int → Int → Int → lf_Z → Prop} {Q1 Q2 Q3 : Int → lf_Z → Prop} {x2 : Int} {x3 : Int} {x4 : Int} {s : lf_Z} (hX38 : ∀ (v0 : Int) (v1 : Int) (v2 : Int) (v3 : lf_Z), X381 v0 v1 v2 v3 → X382 v0 v1 v2 v3 → X383 v0 v1 v2 v3) (hQ : ∀ (r : Int) (s : lf_Z), Q1 r s → Q2 r s → Q3 r s) (h1 : fm_128_p38 Q1 X381 x2 x3 x4 s) (h2 : fw_128_p38 Q2 X382 x2 x3 x4 s) : fm_128_p38 Q3 X383 x2 x3 x4 s := by
  unfold fm_128_p38 at h1 ⊢
  unfold fw_128_p38 at h2
  exact ⟨h1.1, ⟨h1.2.1, ⟨(fun c3 => hQ _ _  (h1.2.2.1 c3) (((h2 h1.1) h1.2.1).1 c3)), (fun c3 => ⟨(fun c5 => hQ _ _  ((h1.2.2.2 c3).1 c5) ((((h2 h1.1) h1.2.1).2 c3).1 c5)), (fun c5 => ⟨((h1.2.2.2 c3).2 c5).1, ⟨((h1.2.2.2 c3).2 c5).2.1, cj_129 (fun r29 s28 k9 l9 => hX38 _ _ _ _  k9 l9) ((h1.2.2.2 c3).2 c5).2.2 ((((((h2 h1.1) h1.2.1).2 c3).2 c5) ((h1.2.2.2 c3).2 c5).1) ((h1.2.2.2 c3).2 c5).2.1)⟩⟩)⟩)⟩⟩⟩
def fw_128_p38L (Q : Int → lf_Z → Prop) (x2 : Int) (x3 : Int) (x4 : Int) (s : lf_Z) : Prop := ∃ X38 : Int → Int → Int → lf_Z → Prop, (∀ (x2 : Int) (x3 : Int) (x4 : Int) (s : lf_Z), X38 x2 x3 x4 s → fw_128_p38 Q X38 x2 x3 x4 s) ∧ X38 x2 x3 x4 s
theorem cj_128_p38L {Q1 Q2 Q3 : Int → lf_Z → Prop} {x2 : Int} {x3 : Int} {x4 : Int} {s : lf_Z} (hQ : ∀ (r : Int) (s : lf_Z), Q1 r s → Q2 r s → Q3 r s) (h1 : fm_128_p38L Q1 x2 x3 x4 s) (h2 : fw_128_p38L Q2 x2 x3 x4 s) : fm_128_p38L Q3 x2 x3 x4 s := by
  intro X0 hX0
  obtain ⟨Y, hY, hY0⟩ := h2
  exact h1 (fun v0 v1 v2 s => Y v0 v1 v2 s → X0 v0 v1 v2 s) (fun v0 v1 v2 s hb hy => hX0 v0 v1 v2 s (cj_128_p38 (X381 := fun v0 v1 v2 s => Y v0 v1 v2 s → X0 v0 v1 v2 s) (X382 := Y) (X383 := X0) (hX38 := fun v0 v1 v2 s a b => a b) hQ hb (hY v0 v1 v2 s hy))) hY0
def fw_128 (a1 : Int) (Q : Int → lf_Z → Prop) (s : lf_Z) : Prop := fw_120 a1 (fun r22 s21 => ((0 ≤ r22 ∧ r22 < 156) → (fw_128_p38L Q 1 0 0 (lf_up (lf_up s21.1 70 0 r22) 71 r22 1, s21.2.1, s21.2.2)))) (lf_fl s.1 71 156 0, s.2.1, s.2.2)
theorem cj_128 {Q1 Q2 Q3 : Int → lf_Z → Prop} {a1 : Int} {s : lf_Z} (hQ : ∀ (r : Int) (s : lf_Z), Q1 r s → Q2 r s → Q3 r s) (h1 : fm_128 a1 Q1 s) (h2 : fw_128 a1 Q2 s) : fm_128 a1 Q3 s := by
  unfold fm_128 at h1 ⊢
  unfold fw_128 at h2
  exact cj_120 (fun r22 s21 k1 l1 => ⟨k1.1, cj_128_p38L hQ k1.2 (l1 k1.1)⟩) h1 h2
def fw_127 (a1 : Int) (Q : Int → lf_Z → Prop) (s : lf_Z) : Prop := fw_118 a1 0 (fun s21 => (fw_128 a1 (fun r23 s22 => (Q r23 s22)) s21)) s
theorem cj_127 {Q1 Q2 Q3 : Int → lf_Z → Prop} {a1 : Int} {s : lf_Z} (hQ : ∀ (r : Int) (s : lf_Z), Q1 r s → Q2 r s → Q3 r s) (h1 : fm_127 a1 Q1 s) (h2 : fw_127 a1 Q2 s) : fm_127 a1 Q3 s := by
  unfold fm_127 at h1 ⊢
  unfold fw_127 at h2
  exact cj_118 (fun s21 k1 l1 => cj_128 (fun r23 s22 k2 l2 => hQ _ _  k2 l2) k1 l1) h1 h2
def fw_126 (a1 : Int) (Q : Int → lf_Z → Prop) (s : lf_Z) : Prop := fw_80 a1 (fun z22 s21 => ((z22 = false → (Q (-1) s21)) ∧ (z22 = true → (fw_127 a1 (fun r24 s23 => (Q r24 s23)) s21)))) s
theorem cj_126 {Q1 Q2 Q3 : Int → lf_Z → Prop} {a1 : Int} {s : lf_Z} (hQ : ∀ (r : Int) (s : lf_Z), Q1 r s → Q2 r s → Q3 r s) (h1 : fm_126 a1 Q1 s) (h2 : fw_126 a1 Q2 s) : fm_126 a1 Q3 s := by
  unfold fm_126 at h1 ⊢
  unfold fw_126 at h2
  exact cj_80 (fun z22 s21 k1 l1 => ⟨(fun c2 => hQ _ _  (k1.1 c2) (l1.1 c2)), (fun c2 => cj_127 (fun r24 s23 k4 l4 => hQ _ _  k4 l4) (k1.2 c2) (l1.2 c2))⟩) h1 h2
def fw_294_p203 (X63 : Int → Int → Int → lf_Z → Prop) (Q : Int → lf_Z → Prop) (x1 : Int) (x2 : Int) (x3 : Int) (x4 : Int) (s : lf_Z) : Prop := X63 x2 x3 (x4 + 1) s
theorem cj_294_p203 {X631 X632 X633 : Int → Int → Int → lf_Z → Prop} {Q1 Q2 Q3 : Int → lf_Z → Prop} {x1 : Int} {x2 : Int} {x3 : Int} {x4 : Int} {s : lf_Z} (hX63 : ∀ (v0 : Int) (v1 : Int) (v2 : Int) (v3 : lf_Z), X631 v0 v1 v2 v3 → X632 v0 v1 v2 v3 → X633 v0 v1 v2 v3) (hQ : ∀ (r : Int) (s : lf_Z), Q1 r s → Q2 r s → Q3 r s) (h1 : fm_294_p203 X631 Q1 x1 x2 x3 x4 s) (h2 : fw_294_p203 X632 Q2 x1 x2 x3 x4 s) : fm_294_p203 X633 Q3 x1 x2 x3 x4 s := by
  unfold fm_294_p203 at h1 ⊢
  unfold fw_294_p203 at h2
  exact hX63 _ _ _ _  h1 h2
def fw_294_p197 (X63 : Int → Int → Int → lf_Z → Prop) (X94 : Int → Int → Int → lf_Z → Prop) (Q : Int → lf_Z → Prop) (x1 : Int) (x2 : Int) (x3 : Int) (x4 : Int) (x5 : Int) (x6 : Int) (x7 : Int) (s : lf_Z) : Prop := X94 x2 x6 (x7 + 1) s
theorem cj_294_p197 {X631 X632 X633 : Int → Int → Int → lf_Z → Prop} {X941 X942 X943 : Int → Int → Int → lf_Z → Prop} {Q1 Q2 Q3 : Int → lf_Z → Prop} {x1 : Int} {x2 : Int} {x3 : Int} {x4 : Int} {x5 : Int} {x6 : Int} {x7 : Int} {s : lf_Z} (hX63 : ∀ (v0 : Int) (v1 : Int) (v2 : Int) (v3 : lf_Z), X631 v0 v1 v2 v3 → X632 v0 v1 v2 v3 → X633 v0 v1 v2 v3) (hX94 : ∀ (v0 : Int) (v1 : Int) (v2 : Int) (v3 : lf_Z), X941 v0 v1 v2 v3 → X942 v0 v1 v2 v3 → X943 v0 v1 v2 v3) (hQ : ∀ (r : Int) (s : lf_Z), Q1 r s → Q2 r s → Q3 r s) (h1 : fm_294_p197 X631 X941 Q1 x1 x2 x3 x4 x5 x6 x7 s) (h2 : fw_294_p197 X632 X942 Q2 x1 x2 x3 x4 x5 x6 x7 s) : fm_294_p197 X633 X943 Q3 x1 x2 x3 x4 x5 x6 x7 s := by
  unfold fm_294_p197 at h1 ⊢
  unfold fw_294_p197 at h2
  exact hX94 _ _ _ _  h1 h2
def fw_294_p94 (X63 : Int → Int → Int → lf_Z → Prop) (Q : Int → lf_Z → Prop) (x1 : Int) (x3 : Int) (x4 : Int) (x5 : Int) (X94 : Int → Int → Int → lf_Z → Prop) (x2 : Int) (x6 : Int) (x7 : Int) (s : lf_Z) : Prop := lf_R x7 → (lf_R (s.1 96 1) → ((s.1 96 1 ≤ x7 → (fw_294_p203 X63 Q x1 x2 x3 x4 s)) ∧ (¬ (s.1 96 1 ≤ x7) → (lf_R x6 → ((10 ≤ x6 → (fw_294_p203 X63 Q x1 x2 x3 x4 s)) ∧ (¬ (10 ≤ x6) → (fw_242 x1 (fun r35 s34 => ((0 ≤ x4 ∧ x4 < 156) → (lf_R (s34.1 112 x4) → (fw_273 r35 x5 (((s34.1 112 x4).tmod 13) - 1) x7 (fun r39 s38 => (lf_R r39 → ((r39 ≠ 0 → (fw_187 x7 x5 (fun r42 s41 => ((0 ≤ ((13 * r42) + x5) + 1 ∧ ((13 * r42) + x5) + 1 < 156) → (lf_R (s41.1 111 (((13 * r42) + x5) + 1)) → ((s41.1 111 (((13 * r42) + x5) + 1) = 0 → ((0 ≤ x2 ∧ x2 < 156) → (fw_294_p197 X63 X94 Q x1 (x2 + 1) x3 x4 x5 r39 x7 (lf_up (lf_up s41.1 111 (((13 * r42) + x5) + 1) 1) 112 x2 (((13 * r42) + x5) + 1), s41.2.1, s41.2.2)))) ∧ (¬ (s41.1 111 (((13 * r42) + x5) + 1) = 0) → (fw_294_p197 X63 X94 Q x1 x2 x3 x4 x5 r39 x7 s41)))))) s38)) ∧ (¬ (r39 ≠ 0) → (fw_294_p197 X63 X94 Q x1 x2 x3 x4 x5 r39 x7 s38))))) s34)))) s)))))))
theorem cj_294_p94 {X631 X632 X633 : Int → Int → Int → lf_Z → Prop} {X941 X942 X943 : Int → Int → Int → lf_Z → Prop} {Q1 Q2 Q3 : Int → lf_Z → Prop} {x1 : Int} {x3 : Int} {x4 : Int} {x5 : Int} {x2 : Int} {x6 : Int} {x7 : Int} {s : lf_Z} (hX63 : ∀ (v0 : Int) (v1 : Int) (v2 : Int) (v3 : lf_Z), X631 v0 v1 v2 v3 → X632 v0 v1 v2 v3 → X633 v0 v1 v2 v3) (hX94 : ∀ (v0 : Int) (v1 : Int) (v2 : Int) (v3 : lf_Z), X941 v0 v1 v2 v3 → X942 v0 v1 v2 v3 → X943 v0 v1 v2 v3) (hQ : ∀ (r : Int) (s : lf_Z), Q1 r s → Q2 r s → Q3 r s) (h1 : fm_294_p94 X631 Q1 x1 x3 x4 x5 X941 x2 x6 x7 s) (h2 : fw_294_p94 X632 Q2 x1 x3 x4 x5 X942 x2 x6 x7 s) : fm_294_p94 X633 Q3 x1 x3 x4 x5 X943 x2 x6 x7 s := by
  unfold fm_294_p94 at h1 ⊢
  unfold fw_294_p94 at h2
  exact ⟨h1.1, ⟨h1.2.1, ⟨(fun c3 => cj_294_p203 hX63 hQ (h1.2.2.1 c3) (((h2 h1.1) h1.2.1).1 c3)), (fun c3 => ⟨(h1.2.2.2 c3).1, ⟨(fun c6 => cj_294_p203 hX63 hQ ((h1.2.2.2 c3).2.1 c6) (((((h2 h1.1) h1.2.1).2 c3) (h1.2.2.2 c3).1).1 c6)), (fun c6 => cj_242 (fun r35 s34 k8 l8 => ⟨k8.1, ⟨k8.2.1, cj_273 (fun r39 s38 k11 l11 => ⟨k11.1, ⟨(fun c13 => cj_187 (fun r42 s41 k14 l14 => ⟨k14.1, ⟨k14.2.1, ⟨(fun c17 => ⟨(k14.2.2.1 c17).1, cj_294_p197 hX63 hX94 hQ (k14.2.2.1 c17).2 ((((l14 k14.1) k14.2.1).1 c17) (k14.2.2.1 c17).1)⟩), (fun c17 => cj_294_p197 hX63 hX94 hQ (k14.2.2.2 c17) (((l14 k14.1) k14.2.1).2 c17))⟩⟩⟩) (k11.2.1 c13) ((l11 k11.1).1 c13)), (fun c13 => cj_294_p197 hX63 hX94 hQ (k11.2.2 c13) ((l11 k11.1).2 c13))⟩⟩) k8.2.2 ((l8 k8.1) k8.2.1)⟩⟩) ((h1.2.2.2 c3).2.2 c6) (((((h2 h1.1) h1.2.1).2 c3) (h1.2.2.2 c3).1).2 c6))⟩⟩)⟩⟩⟩
def fw_294_p94L (X63 : Int → Int → Int → lf_Z → Prop) (Q : Int → lf_Z → Prop) (x1 : Int) (x2 : Int) (x3 : Int) (x4 : Int) (x5 : Int) (x6 : Int) (x7 : Int) (s : lf_Z) : Prop := ∃ X94 : Int → Int → Int → lf_Z → Prop, (∀ (x2 : Int) (x6 : Int) (x7 : Int) (s : lf_Z), X94 x2 x6 x7 s → fw_294_p94 X63 Q x1 x3 x4 x5 X94 x2 x6 x7 s) ∧ X94 x2 x6 x7 s
theorem cj_294_p94L {X631 X632 X633 : Int → Int → Int → lf_Z → Prop} {Q1 Q2 Q3 : Int → lf_Z → Prop} {x1 : Int} {x2 : Int} {x3 : Int} {x4 : Int} {x5 : Int} {x6 : Int} {x7 : Int} {s : lf_Z} (hX63 : ∀ (v0 : Int) (v1 : Int) (v2 : Int) (v3 : lf_Z), X631 v0 v1 v2 v3 → X632 v0 v1 v2 v3 → X633 v0 v1 v2 v3) (hQ : ∀ (r : Int) (s : lf_Z), Q1 r s → Q2 r s → Q3 r s) (h1 : fm_294_p94L X631 Q1 x1 x2 x3 x4 x5 x6 x7 s) (h2 : fw_294_p94L X632 Q2 x1 x2 x3 x4 x5 x6 x7 s) : fm_294_p94L X633 Q3 x1 x2 x3 x4 x5 x6 x7 s := by
  intro X0 hX0
  obtain ⟨Y, hY, hY0⟩ := h2
  exact h1 (fun v0 v1 v2 s => Y v0 v1 v2 s → X0 v0 v1 v2 s) (fun v0 v1 v2 s hb hy => hX0 v0 v1 v2 s (cj_294_p94 (hX63 := hX63) (X941 := fun v0 v1 v2 s => Y v0 v1 v2 s → X0 v0 v1 v2 s) (X942 := Y) (X943 := X0) (hX94 := fun v0 v1 v2 s a b => a b) hQ hb (hY v0 v1 v2 s hy))) hY0
def fw_294_p63 (Q : Int → lf_Z → Prop) (x1 : Int) (X63 : Int → Int → Int → lf_Z → Prop) (x2 : Int) (x3 : Int) (x4 : Int) (s : lf_Z) : Prop := lf_R x4 → (lf_R x2 → ((x2 ≤ x4 → (Q x3 s)) ∧ (¬ (x2 ≤ x4) → ((0 ≤ x4 ∧ x4 < 156) → (lf_R (s.1 112 x4) → (fw_294_p94L X63 Q x1 x2 (lf_or x3 (lf_shl 1 ((s.1 112 x4).tdiv 13))) x4 ((s.1 112 x4).tdiv 13) 0 0 s))))))
theorem cj_294_p63 {X631 X632 X633 : Int → Int → Int → lf_Z → Prop} {Q1 Q2 Q3 : Int → lf_Z → Prop} {x1 : Int} {x2 : Int} {x3 : Int} {x4 : Int} {s : lf_Z} (hX63 : ∀ (v0 : Int) (v1 : Int) (v2 : Int) (v3 : lf_Z), X631 v0 v1 v2 v3 → X632 v0 v1 v2 v3 → X633 v0 v1 v2 v3) (hQ : ∀ (r : Int) (s : lf_Z), Q1 r s → Q2 r s → Q3 r s) (h1 : fm_294_p63 Q1 x1 X631 x2 x3 x4 s) (h2 : fw_294_p63 Q2 x1 X632 x2 x3 x4 s) : fm_294_p63 Q3 x1 X633 x2 x3 x4 s := by
  unfold fm_294_p63 at h1 ⊢
  unfold fw_294_p63 at h2
  exact ⟨h1.1, ⟨h1.2.1, ⟨(fun c3 => hQ _ _  (h1.2.2.1 c3) (((h2 h1.1) h1.2.1).1 c3)), (fun c3 => ⟨(h1.2.2.2 c3).1, ⟨(h1.2.2.2 c3).2.1, cj_294_p94L hX63 hQ (h1.2.2.2 c3).2.2 (((((h2 h1.1) h1.2.1).2 c3) (h1.2.2.2 c3).1) (h1.2.2.2 c3).2.1)⟩⟩)⟩⟩⟩
def fw_294_p63L (Q : Int → lf_Z → Prop) (x1 : Int) (x2 : Int) (x3 : Int) (x4 : Int) (s : lf_Z) : Prop := ∃ X63 : Int → Int → Int → lf_Z → Prop, (∀ (x2 : Int) (x3 : Int) (x4 : Int) (s : lf_Z), X63 x2 x3 x4 s → fw_294_p63 Q x1 X63 x2 x3 x4 s) ∧ X63 x2 x3 x4 s
theorem cj_294_p63L {Q1 Q2 Q3 : Int → lf_Z → Prop} {x1 : Int} {x2 : Int} {x3 : Int} {x4 : Int} {s : lf_Z} (hQ : ∀ (r : Int) (s : lf_Z), Q1 r s → Q2 r s → Q3 r s) (h1 : fm_294_p63L Q1 x1 x2 x3 x4 s) (h2 : fw_294_p63L Q2 x1 x2 x3 x4 s) : fm_294_p63L Q3 x1 x2 x3 x4 s := by
  intro X0 hX0
  obtain ⟨Y, hY, hY0⟩ := h2
  exact h1 (fun v0 v1 v2 s => Y v0 v1 v2 s → X0 v0 v1 v2 s) (fun v0 v1 v2 s hb hy => hX0 v0 v1 v2 s (cj_294_p63 (X631 := fun v0 v1 v2 s => Y v0 v1 v2 s → X0 v0 v1 v2 s) (X632 := Y) (X633 := X0) (hX63 := fun v0 v1 v2 s a b => a b) hQ hb (hY v0 v1 v2 s hy))) hY0
def fw_294_p2 (Q : Int → lf_Z → Prop) (x1 : Int) (X2 : Int → lf_Z → Prop) (x2 : Int) (s : lf_Z) : Prop := lf_R x2 → ((156 ≤ x2 → (fw_255 x1 (fun r23 s22 => (fw_256 x1 (fun r25 s24 => ((0 ≤ ((13 * r23) + r25) + 1 ∧ ((13 * r23) + r25) + 1 < 156) → (fw_294_p63L Q x1 1 0 0 (lf_up (lf_up s24.1 112 0 (((13 * r23) + r25) + 1)) 111 (((13 * r23) + r25) + 1) 1, s24.2.1, s24.2.2)))) s22)) s)) ∧ (¬ (156 ≤ x2) → ((0 ≤ x2 ∧ x2 < 156) → (X2 (x2 + 1) (lf_up s.1 111 x2 0, s.2.1, s.2.2)))))
theorem cj_294_p2 {X21 X22 X23 : Int → lf_Z → Prop} {Q1 Q2 Q3 : Int → lf_Z → Prop} {x1 : Int} {x2 : Int} {s : lf_Z} (hX2 : ∀ (v0 : Int) (v1 : lf_Z), X21 v0 v1 → X22 v0 v1 → X23 v0 v1) (hQ : ∀ (r : Int) (s : lf_Z), Q1 r s → Q2 r s → Q3 r s) (h1 : fm_294_p2 Q1 x1 X21 x2 s) (h2 : fw_294_p2 Q2 x1 X22 x2 s) : fm_294_p2 Q3 x1 X23 x2 s := by
  unfold fm_294_p2 at h1 ⊢
  unfold fw_294_p2 at h2
  exact ⟨h1.1, ⟨(fun c2 => cj_255 (fun r23 s22 k3 l3 => cj_256 (fun r25 s24 k4 l4 => ⟨k4.1, cj_294_p63L hQ k4.2 (l4 k4.1)⟩) k3 l3) (h1.2.1 c2) ((h2 h1.1).1 c2)), (fun c2 => ⟨(h1.2.2 c2).1, hX2 _ _  (h1.2.2 c2).2 (((h2 h1.1).2 c2) (h1.2.2 c2).1)⟩)⟩⟩
def fw_294_p2L (Q : Int → lf_Z → Prop) (x1 : Int) (x2 : Int) (s : lf_Z) : Prop := ∃ X2 : Int → lf_Z → Prop, (∀ (x2 : Int) (s : lf_Z), X2 x2 s → fw_294_p2 Q x1 X2 x2 s) ∧ X2 x2 s
theorem cj_294_p2L {Q1 Q2 Q3 : Int → lf_Z → Prop} {x1 : Int} {x2 : Int} {s : lf_Z} (hQ : ∀ (r : Int) (s : lf_Z), Q1 r s → Q2 r s → Q3 r s) (h1 : fm_294_p2L Q1 x1 x2 s) (h2 : fw_294_p2L Q2 x1 x2 s) : fm_294_p2L Q3 x1 x2 s := by
  intro X0 hX0
  obtain ⟨Y, hY, hY0⟩ := h2
  exact h1 (fun v0 s => Y v0 s → X0 v0 s) (fun v0 s hb hy => hX0 v0 s (cj_294_p2 (X21 := fun v0 s => Y v0 s → X0 v0 s) (X22 := Y) (X23 := X0) (hX2 := fun v0 s a b => a b) hQ hb (hY v0 s hy))) hY0
def fw_294 (a1 : Int) (Q : Int → lf_Z → Prop) (s : lf_Z) : Prop := fw_294_p2L Q a1 0 s
theorem cj_294 {Q1 Q2 Q3 : Int → lf_Z → Prop} {a1 : Int} {s : lf_Z} (hQ : ∀ (r : Int) (s : lf_Z), Q1 r s → Q2 r s → Q3 r s) (h1 : fm_294 a1 Q1 s) (h2 : fw_294 a1 Q2 s) : fm_294 a1 Q3 s := by
  unfold fm_294 at h1 ⊢
  unfold fw_294 at h2
  exact cj_294_p2L hQ h1 h2
def fw_293 (a1 : Int) (Q : Int → lf_Z → Prop) (s : lf_Z) : Prop := fw_254 a1 (fun z22 s21 => ((z22 = false → (Q (-1) s21)) ∧ (z22 = true → (fw_294 a1 (fun r24 s23 => (Q r24 s23)) s21)))) s
theorem cj_293 {Q1 Q2 Q3 : Int → lf_Z → Prop} {a1 : Int} {s : lf_Z} (hQ : ∀ (r : Int) (s : lf_Z), Q1 r s → Q2 r s → Q3 r s) (h1 : fm_293 a1 Q1 s) (h2 : fw_293 a1 Q2 s) : fm_293 a1 Q3 s := by
  unfold fm_293 at h1 ⊢
  unfold fw_293 at h2
  exact cj_254 (fun z22 s21 k1 l1 => ⟨(fun c2 => hQ _ _  (k1.1 c2) (l1.1 c2)), (fun c2 => cj_294 (fun r24 s23 k4 l4 => hQ _ _  k4 l4) (k1.2 c2) (l1.2 c2))⟩) h1 h2
def fw_132_p28 (X4 : Int → Int → lf_Z → Prop) (Q : Int → lf_Z → Prop) (x1 : Int) (x2 : Int) (x3 : Int) (s : lf_Z) : Prop := X4 x2 (x3 + 1) s
theorem cj_132_p28 {X41 X42 X43 : Int → Int → lf_Z → Prop} {Q1 Q2 Q3 : Int → lf_Z → Prop} {x1 : Int} {x2 : Int} {x3 : Int} {s : lf_Z} (hX4 : ∀ (v0 : Int) (v1 : Int) (v2 : lf_Z), X41 v0 v1 v2 → X42 v0 v1 v2 → X43 v0 v1 v2) (hQ : ∀ (r : Int) (s : lf_Z), Q1 r s → Q2 r s → Q3 r s) (h1 : fm_132_p28 X41 Q1 x1 x2 x3 s) (h2 : fw_132_p28 X42 Q2 x1 x2 x3 s) : fm_132_p28 X43 Q3 x1 x2 x3 s := by
  unfold fm_132_p28 at h1 ⊢
  unfold fw_132_p28 at h2
  exact hX4 _ _ _  h1 h2
def fw_132_p4 (Q : Int → lf_Z → Prop) (x1 : Int) (X4 : Int → Int → lf_Z → Prop) (x2 : Int) (x3 : Int) (s : lf_Z) : Prop := lf_R x3 → (lf_R (s.1 1 0) → ((s.1 1 0 ≤ x3 → (Q x2 s)) ∧ (¬ (s.1 1 0 ≤ x3) → ((0 ≤ x3 ∧ x3 < 12) → (lf_R (s.1 2 x3) → (lf_R x1 → ((s.1 2 x3 ≠ x1 → (fw_132_p28 X4 Q x1 x2 x3 s)) ∧ (¬ (s.1 2 x3 ≠ x1) → (fw_132_p28 X4 Q x1 (lf_or x2 (lf_shl 1 x3)) x3 s)))))))))
theorem cj_132_p4 {X41 X42 X43 : Int → Int → lf_Z → Prop} {Q1 Q2 Q3 : Int → lf_Z → Prop} {x1 : Int} {x2 : Int} {x3 : Int} {s : lf_Z} (hX4 : ∀ (v0 : Int) (v1 : Int) (v2 : lf_Z), X41 v0 v1 v2 → X42 v0 v1 v2 → X43 v0 v1 v2) (hQ : ∀ (r : Int) (s : lf_Z), Q1 r s → Q2 r s → Q3 r s) (h1 : fm_132_p4 Q1 x1 X41 x2 x3 s) (h2 : fw_132_p4 Q2 x1 X42 x2 x3 s) : fm_132_p4 Q3 x1 X43 x2 x3 s := by
  unfold fm_132_p4 at h1 ⊢
  unfold fw_132_p4 at h2
  exact ⟨h1.1, ⟨h1.2.1, ⟨(fun c3 => hQ _ _  (h1.2.2.1 c3) (((h2 h1.1) h1.2.1).1 c3)), (fun c3 => ⟨(h1.2.2.2 c3).1, ⟨(h1.2.2.2 c3).2.1, ⟨(h1.2.2.2 c3).2.2.1, ⟨(fun c8 => cj_132_p28 hX4 hQ ((h1.2.2.2 c3).2.2.2.1 c8) (((((((h2 h1.1) h1.2.1).2 c3) (h1.2.2.2 c3).1) (h1.2.2.2 c3).2.1) (h1.2.2.2 c3).2.2.1).1 c8)), (fun c8 => cj_132_p28 hX4 hQ ((h1.2.2.2 c3).2.2.2.2 c8) (((((((h2 h1.1) h1.2.1).2 c3) (h1.2.2.2 c3).1) (h1.2.2.2 c3).2.1) (h1.2.2.2 c3).2.2.1).2 c8))⟩⟩⟩⟩)⟩⟩⟩
def fw_132_p4L (Q : Int → lf_Z → Prop) (x1 : Int) (x2 : Int) (x3 : Int) (s : lf_Z) : Prop := ∃ X4 : Int → Int → lf_Z → Prop, (∀ (x2 : Int) (x3 : Int) (s : lf_Z), X4 x2 x3 s → fw_132_p4 Q x1 X4 x2 x3 s) ∧ X4 x2 x3 s
theorem cj_132_p4L {Q1 Q2 Q3 : Int → lf_Z → Prop} {x1 : Int} {x2 : Int} {x3 : Int} {s : lf_Z} (hQ : ∀ (r : Int) (s : lf_Z), Q1 r s → Q2 r s → Q3 r s) (h1 : fm_132_p4L Q1 x1 x2 x3 s) (h2 : fw_132_p4L Q2 x1 x2 x3 s) : fm_132_p4L Q3 x1 x2 x3 s := by
  intro X0 hX0
  obtain ⟨Y, hY, hY0⟩ := h2
  exact h1 (fun v0 v1 s => Y v0 v1 s → X0 v0 v1 s) (fun v0 v1 s hb hy => hX0 v0 v1 s (cj_132_p4 (X41 := fun v0 v1 s => Y v0 v1 s → X0 v0 v1 s) (X42 := Y) (X43 := X0) (hX4 := fun v0 v1 s a b => a b) hQ hb (hY v0 v1 s hy))) hY0
def fw_132 (a1 : Int) (Q : Int → lf_Z → Prop) (s : lf_Z) : Prop := fw_132_p4L Q a1 0 0 s
theorem cj_132 {Q1 Q2 Q3 : Int → lf_Z → Prop} {a1 : Int} {s : lf_Z} (hQ : ∀ (r : Int) (s : lf_Z), Q1 r s → Q2 r s → Q3 r s) (h1 : fm_132 a1 Q1 s) (h2 : fw_132 a1 Q2 s) : fm_132 a1 Q3 s := by
  unfold fm_132 at h1 ⊢
  unfold fw_132 at h2
  exact cj_132_p4L hQ h1 h2
def fw_133 (a0 : Int) (Q : Int → lf_Z → Prop) (s : lf_Z) : Prop := (lf_and a0 (lf_w (-a0)) ≠ 0 → ((lf_and a0 (lf_w (-a0))) ≠ 0 → (Q (lf_or (lf_w (a0 + (lf_and a0 (lf_w (-a0))))) (lf_ushr (lf_w ((lf_xor a0 (lf_w (a0 + (lf_and a0 (lf_w (-a0)))))).tdiv (lf_and a0 (lf_w (-a0))))) 2)) s))) ∧ (¬ (lf_and a0 (lf_w (-a0)) ≠ 0) → (Q 65536 s))
theorem cj_133 {Q1 Q2 Q3 : Int → lf_Z → Prop} {a0 : Int} {s : lf_Z} (hQ : ∀ (r : Int) (s : lf_Z), Q1 r s → Q2 r s → Q3 r s) (h1 : fm_133 a0 Q1 s) (h2 : fw_133 a0 Q2 s) : fm_133 a0 Q3 s := by
  unfold fm_133 at h1 ⊢
  unfold fw_133 at h2
  exact ⟨(fun c1 => ⟨(h1.1 c1).1, hQ _ _  (h1.1 c1).2 ((h2.1 c1) (h1.1 c1).1)⟩), (fun c1 => hQ _ _  (h1.2 c1) (h2.2 c1))⟩
def fw_131_p120 (X29 : Int → lf_Z → Prop) (Q : Int → lf_Z → Prop) (x1 : Int) (x3 : Int) (x4 : Int) (x5 : Int) (s : lf_Z) : Prop := X29 (x5 + 1) s
theorem cj_131_p120 {X291 X292 X293 : Int → lf_Z → Prop} {Q1 Q2 Q3 : Int → lf_Z → Prop} {x1 : Int} {x3 : Int} {x4 : Int} {x5 : Int} {s : lf_Z} (hX29 : ∀ (v0 : Int) (v1 : lf_Z), X291 v0 v1 → X292 v0 v1 → X293 v0 v1) (hQ : ∀ (r : Int) (s : lf_Z), Q1 r s → Q2 r s → Q3 r s) (h1 : fm_131_p120 X291 Q1 x1 x3 x4 x5 s) (h2 : fw_131_p120 X292 Q2 x1 x3 x4 x5 s) : fm_131_p120 X293 Q3 x1 x3 x4 x5 s := by
  unfold fm_131_p120 at h1 ⊢
  unfold fw_131_p120 at h2
  exact hX29 _ _  h1 h2
def fw_131_p112 (X29 : Int → lf_Z → Prop) (X46 : Int → Int → lf_Z → Prop) (Q : Int → lf_Z → Prop) (x1 : Int) (x3 : Int) (x4 : Int) (x5 : Int) (x7 : Int) (y0 : Int) (s : lf_Z) : Prop := X46 y0 (x7 + 1) s
theorem cj_131_p112 {X291 X292 X293 : Int → lf_Z → Prop} {X461 X462 X463 : Int → Int → lf_Z → Prop} {Q1 Q2 Q3 : Int → lf_Z → Prop} {x1 : Int} {x3 : Int} {x4 : Int} {x5 : Int} {x7 : Int} {y0 : Int} {s : lf_Z} (hX29 : ∀ (v0 : Int) (v1 : lf_Z), X291 v0 v1 → X292 v0 v1 → X293 v0 v1) (hX46 : ∀ (v0 : Int) (v1 : Int) (v2 : lf_Z), X461 v0 v1 v2 → X462 v0 v1 v2 → X463 v0 v1 v2) (hQ : ∀ (r : Int) (s : lf_Z), Q1 r s → Q2 r s → Q3 r s) (h1 : fm_131_p112 X291 X461 Q1 x1 x3 x4 x5 x7 y0 s) (h2 : fw_131_p112 X292 X462 Q2 x1 x3 x4 x5 x7 y0 s) : fm_131_p112 X293 X463 Q3 x1 x3 x4 x5 x7 y0 s := by
  unfold fm_131_p112 at h1 ⊢
  unfold fw_131_p112 at h2
  exact hX46 _ _ _  h1 h2
def fw_131_p97 (X29 : Int → lf_Z → Prop) (X46 : Int → Int → lf_Z → Prop) (Q : Int → lf_Z → Prop) (x1 : Int) (x3 : Int) (x4 : Int) (x5 : Int) (x6 : Int) (x7 : Int) (s : lf_Z) : Prop := lf_R x5 → ((x5 ≠ 0 → (fw_133 x6 (fun r31 s30 => (fw_131_p112 X29 X46 Q x1 x3 x4 x5 x7 r31 s30)) s)) ∧ (¬ (x5 ≠ 0) → (fw_131_p112 X29 X46 Q x1 x3 x4 x5 x7 x4 s)))
theorem cj_131_p97 {X291 X292 X293 : Int → lf_Z → Prop} {X461 X462 X463 : Int → Int → lf_Z → Prop} {Q1 Q2 Q3 : Int → lf_Z → Prop} {x1 : Int} {x3 : Int} {x4 : Int} {x5 : Int} {x6 : Int} {x7 : Int} {s : lf_Z} (hX29 : ∀ (v0 : Int) (v1 : lf_Z), X291 v0 v1 → X292 v0 v1 → X293 v0 v1) (hX46 : ∀ (v0 : Int) (v1 : Int) (v2 : lf_Z), X461 v0 v1 v2 → X462 v0 v1 v2 → X463 v0 v1 v2) (hQ : ∀ (r : Int) (s : lf_Z), Q1 r s → Q2 r s → Q3 r s) (h1 : fm_131_p97 X291 X461 Q1 x1 x3 x4 x5 x6 x7 s) (h2 : fw_131_p97 X292 X462 Q2 x1 x3 x4 x5 x6 x7 s) : fm_131_p97 X293 X463 Q3 x1 x3 x4 x5 x6 x7 s := by
  unfold fm_131_p97 at h1 ⊢
  unfold fw_131_p97 at h2
  exact ⟨h1.1, ⟨(fun c2 => cj_133 (fun r31 s30 k3 l3 => cj_131_p112 hX29 hX46 hQ k3 l3) (h1.2.1 c2) ((h2 h1.1).1 c2)), (fun c2 => cj_131_p112 hX29 hX46 hQ (h1.2.2 c2) ((h2 h1.1).2 c2))⟩⟩
def fw_131_p46 (X29 : Int → lf_Z → Prop) (Q : Int → lf_Z → Prop) (x1 : Int) (x3 : Int) (x4 : Int) (x5 : Int) (X46 : Int → Int → lf_Z → Prop) (x6 : Int) (x7 : Int) (s : lf_Z) : Prop := lf_R x7 → ((1000 ≤ x7 → (fw_131_p120 X29 Q x1 x3 x4 x5 s)) ∧ (¬ (1000 ≤ x7) → (lf_R x6 → (lf_R x4 → ((x4 ≤ x6 → (fw_131_p120 X29 Q x1 x3 x4 x5 s)) ∧ (¬ (x4 ≤ x6) → ((0 ≤ x1 ∧ x1 < 4) → ((lf_and (lf_shr x6 (s.1 17 x1)) 1 ≠ 0 → (fw_131_p97 X29 X46 Q x1 x3 x4 x5 x6 x7 (lf_up s.1 68 10 x6, s.2.1, s.2.2))) ∧ (¬ (lf_and (lf_shr x6 (s.1 17 x1)) 1 ≠ 0) → (fw_128 x1 (fun r33 s32 => ((lf_and r33 x3 ≠ 0 → (fw_131_p97 X29 X46 Q x1 x3 x4 x5 x6 x7 s32)) ∧ (¬ (lf_and r33 x3 ≠ 0) → (Q x6 s32)))) (lf_up s.1 68 10 x6, s.2.1, s.2.2)))))))))))
theorem cj_131_p46 {X291 X292 X293 : Int → lf_Z → Prop} {X461 X462 X463 : Int → Int → lf_Z → Prop} {Q1 Q2 Q3 : Int → lf_Z → Prop} {x1 : Int} {x3 : Int} {x4 : Int} {x5 : Int} {x6 : Int} {x7 : Int} {s : lf_Z} (hX29 : ∀ (v0 : Int) (v1 : lf_Z), X291 v0 v1 → X292 v0 v1 → X293 v0 v1) (hX46 : ∀ (v0 : Int) (v1 : Int) (v2 : lf_Z), X461 v0 v1 v2 → X462 v0 v1 v2 → X463 v0 v1 v2) (hQ : ∀ (r : Int) (s : lf_Z), Q1 r s → Q2 r s → Q3 r s) (h1 : fm_131_p46 X291 Q1 x1 x3 x4 x5 X461 x6 x7 s) (h2 : fw_131_p46 X292 Q2 x1 x3 x4 x5 X462 x6 x7 s) : fm_131_p46 X293 Q3 x1 x3 x4 x5 X463 x6 x7 s := by
  unfold fm_131_p46 at h1 ⊢
  unfold fw_131_p46 at h2
  exact ⟨h1.1, ⟨(fun c2 => cj_131_p120 hX29 hQ (h1.2.1 c2) ((h2 h1.1).1 c2)), (fun c2 => ⟨(h1.2.2 c2).1, ⟨(h1.2.2 c2).2.1, ⟨(fun c6 => cj_131_p120 hX29 hQ ((h1.2.2 c2).2.2.1 c6) (((((h2 h1.1).2 c2) (h1.2.2 c2).1) (h1.2.2 c2).2.1).1 c6)), (fun c6 => ⟨((h1.2.2 c2).2.2.2 c6).1, ⟨(fun c9 => cj_131_p97 hX29 hX46 hQ (((h1.2.2 c2).2.2.2 c6).2.1 c9) (((((((h2 h1.1).2 c2) (h1.2.2 c2).1) (h1.2.2 c2).2.1).2 c6) ((h1.2.2 c2).2.2.2 c6).1).1 c9)), (fun c9 => cj_128 (fun r33 s32 k11 l11 => ⟨(fun c12 => cj_131_p97 hX29 hX46 hQ (k11.1 c12) (l11.1 c12)), (fun c12 => hQ _ _  (k11.2 c12) (l11.2 c12))⟩) (((h1.2.2 c2).2.2.2 c6).2.2 c9) (((((((h2 h1.1).2 c2) (h1.2.2 c2).1) (h1.2.2 c2).2.1).2 c6) ((h1.2.2 c2).2.2.2 c6).1).2 c9))⟩⟩)⟩⟩⟩)⟩⟩
def fw_131_p46L (X29 : Int → lf_Z → Prop) (Q : Int → lf_Z → Prop) (x1 : Int) (x3 : Int) (x4 : Int) (x5 : Int) (x6 : Int) (x7 : Int) (s : lf_Z) : Prop := ∃ X46 : Int → Int → lf_Z → Prop, (∀ (x6 : Int) (x7 : Int) (s : lf_Z), X46 x6 x7 s → fw_131_p46 X29 Q x1 x3 x4 x5 X46 x6 x7 s) ∧ X46 x6 x7 s
theorem cj_131_p46L {X291 X292 X293 : Int → lf_Z → Prop} {Q1 Q2 Q3 : Int → lf_Z → Prop} {x1 : Int} {x3 : Int} {x4 : Int} {x5 : Int} {x6 : Int} {x7 : Int} {s : lf_Z} (hX29 : ∀ (v0 : Int) (v1 : lf_Z), X291 v0 v1 → X292 v0 v1 → X293 v0 v1) (hQ : ∀ (r : Int) (s : lf_Z), Q1 r s → Q2 r s → Q3 r s) (h1 : fm_131_p46L X291 Q1 x1 x3 x4 x5 x6 x7 s) (h2 : fw_131_p46L X292 Q2 x1 x3 x4 x5 x6 x7 s) : fm_131_p46L X293 Q3 x1 x3 x4 x5 x6 x7 s := by
  intro X0 hX0
  obtain ⟨Y, hY, hY0⟩ := h2
  exact h1 (fun v0 v1 s => Y v0 v1 s → X0 v0 v1 s) (fun v0 v1 s hb hy => hX0 v0 v1 s (cj_131_p46 (hX29 := hX29) (X461 := fun v0 v1 s => Y v0 v1 s → X0 v0 v1 s) (X462 := Y) (X463 := X0) (hX46 := fun v0 v1 s a b => a b) hQ hb (hY v0 v1 s hy))) hY0
def fw_131_p29 (Q : Int → lf_Z → Prop) (x1 : Int) (x3 : Int) (x4 : Int) (X29 : Int → lf_Z → Prop) (x5 : Int) (s : lf_Z) : Prop := lf_R x5 → ((3 < x5 → (Q (-1) s)) ∧ (¬ (3 < x5) → (fw_131_p46L X29 Q x1 x3 x4 x5 ((lf_shl 1 x5) - 1) 0 s)))
theorem cj_131_p29 {X291 X292 X293 : Int → lf_Z → Prop} {Q1 Q2 Q3 : Int → lf_Z → Prop} {x1 : Int} {x3 : Int} {x4 : Int} {x5 : Int} {s : lf_Z} (hX29 : ∀ (v0 : Int) (v1 : lf_Z), X291 v0 v1 → X292 v0 v1 → X293 v0 v1) (hQ : ∀ (r : Int) (s : lf_Z), Q1 r s → Q2 r s → Q3 r s) (h1 : fm_131_p29 Q1 x1 x3 x4 X291 x5 s) (h2 : fw_131_p29 Q2 x1 x3 x4 X292 x5 s) : fm_131_p29 Q3 x1 x3 x4 X293 x5 s := by
  unfold fm_131_p29 at h1 ⊢
  unfold fw_131_p29 at h2
  exact ⟨h1.1, ⟨(fun c2 => hQ _ _  (h1.2.1 c2) ((h2 h1.1).1 c2)), (fun c2 => cj_131_p46L hX29 hQ (h1.2.2 c2) ((h2 h1.1).2 c2))⟩⟩
def fw_131_p29L (Q : Int → lf_Z → Prop) (x1 : Int) (x3 : Int) (x4 : Int) (x5 : Int) (s : lf_Z) : Prop := ∃ X29 : Int → lf_Z → Prop, (∀ (x5 : Int) (s : lf_Z), X29 x5 s → fw_131_p29 Q x1 x3 x4 X29 x5 s) ∧ X29 x5 s
theorem cj_131_p29L {Q1 Q2 Q3 : Int → lf_Z → Prop} {x1 : Int} {x3 : Int} {x4 : Int} {x5 : Int} {s : lf_Z} (hQ : ∀ (r : Int) (s : lf_Z), Q1 r s → Q2 r s → Q3 r s) (h1 : fm_131_p29L Q1 x1 x3 x4 x5 s) (h2 : fw_131_p29L Q2 x1 x3 x4 x5 s) : fm_131_p29L Q3 x1 x3 x4 x5 s := by
  intro X0 hX0
  obtain ⟨Y, hY, hY0⟩ := h2
  exact h1 (fun v0 s => Y v0 s → X0 v0 s) (fun v0 s hb hy => hX0 v0 s (cj_131_p29 (X291 := fun v0 s => Y v0 s → X0 v0 s) (X292 := Y) (X293 := X0) (hX29 := fun v0 s a b => a b) hQ hb (hY v0 s hy))) hY0
def fw_131 (a1 : Int) (a2 : Int) (Q : Int → lf_Z → Prop) (s : lf_Z) : Prop := fw_118 a1 a2 (fun s21 => (fw_132 2 (fun r23 s22 => (fw_131_p29L Q a1 r23 (lf_shl 1 (s22.1 1 0)) 0 s22)) s21)) s
theorem cj_131 {Q1 Q2 Q3 : Int → lf_Z → Prop} {a1 : Int} {a2 : Int} {s : lf_Z} (hQ : ∀ (r : Int) (s : lf_Z), Q1 r s → Q2 r s → Q3 r s) (h1 : fm_131 a1 a2 Q1 s) (h2 : fw_131 a1 a2 Q2 s) : fm_131 a1 a2 Q3 s := by
  unfold fm_131 at h1 ⊢
  unfold fw_131 at h2
  exact cj_118 (fun s21 k1 l1 => cj_132 (fun r23 s22 k2 l2 => cj_131_p29L hQ k2 l2) k1 l1) h1 h2
def fw_130 (a1 : Int) (a2 : Int) (Q : Int → lf_Z → Prop) (s : lf_Z) : Prop := fw_80 a1 (fun z22 s21 => ((z22 = false → (Q (-1) s21)) ∧ (z22 = true → (fw_15 a2 0 9 (fun z24 s23 => ((z24 = true → (fw_131 a1 a2 (fun r26 s25 => (Q r26 s25)) s23)) ∧ (z24 = false → (Q (-1) s23)))) s21)))) s
theorem cj_130 {Q1 Q2 Q3 : Int → lf_Z → Prop} {a1 : Int} {a2 : Int} {s : lf_Z} (hQ : ∀ (r : Int) (s : lf_Z), Q1 r s → Q2 r s → Q3 r s) (h1 : fm_130 a1 a2 Q1 s) (h2 : fw_130 a1 a2 Q2 s) : fm_130 a1 a2 Q3 s := by
  unfold fm_130 at h1 ⊢
  unfold fw_130 at h2
  exact cj_80 (fun z22 s21 k1 l1 => ⟨(fun c2 => hQ _ _  (k1.1 c2) (l1.1 c2)), (fun c2 => cj_15 (fun z24 s23 k4 l4 => ⟨(fun c5 => cj_131 (fun r26 s25 k6 l6 => hQ _ _  k6 l6) (k4.1 c5) (l4.1 c5)), (fun c5 => hQ _ _  (k4.2 c5) (l4.2 c5))⟩) (k1.2 c2) (l1.2 c2))⟩) h1 h2
def fw_296_p44 (X5 : Int → Int → lf_Z → Prop) (Q : Int → lf_Z → Prop) (x1 : Int) (x2 : Int) (x4 : Int) (y0 : Int) (y1 : Int) (s : lf_Z) : Prop := X5 (lf_or y0 y1) (x4 + 1) s
theorem cj_296_p44 {X51 X52 X53 : Int → Int → lf_Z → Prop} {Q1 Q2 Q3 : Int → lf_Z → Prop} {x1 : Int} {x2 : Int} {x4 : Int} {y0 : Int} {y1 : Int} {s : lf_Z} (hX5 : ∀ (v0 : Int) (v1 : Int) (v2 : lf_Z), X51 v0 v1 v2 → X52 v0 v1 v2 → X53 v0 v1 v2) (hQ : ∀ (r : Int) (s : lf_Z), Q1 r s → Q2 r s → Q3 r s) (h1 : fm_296_p44 X51 Q1 x1 x2 x4 y0 y1 s) (h2 : fw_296_p44 X52 Q2 x1 x2 x4 y0 y1 s) : fm_296_p44 X53 Q3 x1 x2 x4 y0 y1 s := by
  unfold fm_296_p44 at h1 ⊢
  unfold fw_296_p44 at h2
  exact hX5 _ _ _  h1 h2
def fw_296_p43 (X5 : Int → Int → lf_Z → Prop) (Q : Int → lf_Z → Prop) (x1 : Int) (x2 : Int) (x4 : Int) (y0 : Int) (s : lf_Z) : Prop := fw_296_p44 X5 Q x1 x2 x4 y0 0 s
theorem cj_296_p43 {X51 X52 X53 : Int → Int → lf_Z → Prop} {Q1 Q2 Q3 : Int → lf_Z → Prop} {x1 : Int} {x2 : Int} {x4 : Int} {y0 : Int} {s : lf_Z} (hX5 : ∀ (v0 : Int) (v1 : Int) (v2 : lf_Z), X51 v0 v1 v2 → X52 v0 v1 v2 → X53 v0 v1 v2) (hQ : ∀ (r : Int) (s : lf_Z), Q1 r s → Q2 r s → Q3 r s) (h1 : fm_296_p43 X51 Q1 x1 x2 x4 y0 s) (h2 : fw_296_p43 X52 Q2 x1 x2 x4 y0 s) : fm_296_p43 X53 Q3 x1 x2 x4 y0 s := by
  unfold fm_296_p43 at h1 ⊢
  unfold fw_296_p43 at h2
  exact cj_296_p44 hX5 hQ h1 h2
def fw_296_p5 (Q : Int → lf_Z → Prop) (x1 : Int) (x2 : Int) (X5 : Int → Int → lf_Z → Prop) (x3 : Int) (x4 : Int) (s : lf_Z) : Prop := lf_R x4 → (lf_R (s.1 96 0) → ((s.1 96 0 ≤ x4 → (Q x3 s)) ∧ (¬ (s.1 96 0 ≤ x4) → (fw_210 x1 x4 (fun z24 s23 => ((z24 = false → (fw_296_p43 X5 Q x1 x2 x4 x3 s23)) ∧ (z24 = true → (fw_265 x4 (fun r26 s25 => (lf_R r26 → (lf_R x2 → ((r26 ≠ x2 → (fw_296_p43 X5 Q x1 x2 x4 x3 s25)) ∧ (¬ (r26 ≠ x2) → (fw_296_p44 X5 Q x1 x2 x4 x3 (lf_shl 1 x4) s25)))))) s23)))) s))))
theorem cj_296_p5 {X51 X52 X53 : Int → Int → lf_Z → Prop} {Q1 Q2 Q3 : Int → lf_Z → Prop} {x1 : Int} {x2 : Int} {x3 : Int} {x4 : Int} {s : lf_Z} (hX5 : ∀ (v0 : Int) (v1 : Int) (v2 : lf_Z), X51 v0 v1 v2 → X52 v0 v1 v2 → X53 v0 v1 v2) (hQ : ∀ (r : Int) (s : lf_Z), Q1 r s → Q2 r s → Q3 r s) (h1 : fm_296_p5 Q1 x1 x2 X51 x3 x4 s) (h2 : fw_296_p5 Q2 x1 x2 X52 x3 x4 s) : fm_296_p5 Q3 x1 x2 X53 x3 x4 s := by
  unfold fm_296_p5 at h1 ⊢
  unfold fw_296_p5 at h2
  exact ⟨h1.1, ⟨h1.2.1, ⟨(fun c3 => hQ _ _  (h1.2.2.1 c3) (((h2 h1.1) h1.2.1).1 c3)), (fun c3 => cj_210 (fun z24 s23 k5 l5 => ⟨(fun c6 => cj_296_p43 hX5 hQ (k5.1 c6) (l5.1 c6)), (fun c6 => cj_265 (fun r26 s25 k8 l8 => ⟨k8.1, ⟨k8.2.1, ⟨(fun c11 => cj_296_p43 hX5 hQ (k8.2.2.1 c11) (((l8 k8.1) k8.2.1).1 c11)), (fun c11 => cj_296_p44 hX5 hQ (k8.2.2.2 c11) (((l8 k8.1) k8.2.1).2 c11))⟩⟩⟩) (k5.2 c6) (l5.2 c6))⟩) (h1.2.2.2 c3) (((h2 h1.1) h1.2.1).2 c3))⟩⟩⟩
def fw_296_p5L (Q : Int → lf_Z → Prop) (x1 : Int) (x2 : Int) (x3 : Int) (x4 : Int) (s : lf_Z) : Prop := ∃ X5 : Int → Int → lf_Z → Prop, (∀ (x3 : Int) (x4 : Int) (s : lf_Z), X5 x3 x4 s → fw_296_p5 Q x1 x2 X5 x3 x4 s) ∧ X5 x3 x4 s
theorem cj_296_p5L {Q1 Q2 Q3 : Int → lf_Z → Prop} {x1 : Int} {x2 : Int} {x3 : Int} {x4 : Int} {s : lf_Z} (hQ : ∀ (r : Int) (s : lf_Z), Q1 r s → Q2 r s → Q3 r s) (h1 : fm_296_p5L Q1 x1 x2 x3 x4 s) (h2 : fw_296_p5L Q2 x1 x2 x3 x4 s) : fm_296_p5L Q3 x1 x2 x3 x4 s := by
  intro X0 hX0
  obtain ⟨Y, hY, hY0⟩ := h2
  exact h1 (fun v0 v1 s => Y v0 v1 s → X0 v0 v1 s) (fun v0 v1 s hb hy => hX0 v0 v1 s (cj_296_p5 (X51 := fun v0 v1 s => Y v0 v1 s → X0 v0 v1 s) (X52 := Y) (X53 := X0) (hX5 := fun v0 v1 s a b => a b) hQ hb (hY v0 v1 s hy))) hY0
def fw_296 (a1 : Int) (a2 : Int) (Q : Int → lf_Z → Prop) (s : lf_Z) : Prop := fw_296_p5L Q a1 a2 0 0 s
theorem cj_296 {Q1 Q2 Q3 : Int → lf_Z → Prop} {a1 : Int} {a2 : Int} {s : lf_Z} (hQ : ∀ (r : Int) (s : lf_Z), Q1 r s → Q2 r s → Q3 r s) (h1 : fm_296 a1 a2 Q1 s) (h2 : fw_296 a1 a2 Q2 s) : fm_296 a1 a2 Q3 s := by
  unfold fm_296 at h1 ⊢
  unfold fw_296 at h2
  exact cj_296_p5L hQ h1 h2
def fw_295_p120 (Q : Int → lf_Z → Prop) (x3 : Int) (s : lf_Z) : Prop := Q x3 (lf_up s.1 95 29 0, s.2.1, s.2.2)
theorem cj_295_p120 {Q1 Q2 Q3 : Int → lf_Z → Prop} {x3 : Int} {s : lf_Z} (hQ : ∀ (r : Int) (s : lf_Z), Q1 r s → Q2 r s → Q3 r s) (h1 : fm_295_p120 Q1 x3 s) (h2 : fw_295_p120 Q2 x3 s) : fm_295_p120 Q3 x3 s := by
  unfold fm_295_p120 at h1 ⊢
  unfold fw_295_p120 at h2
  exact hQ _ _  h1 h2
def fw_295_p114 (X30 : Int → Int → lf_Z → Prop) (Q : Int → lf_Z → Prop) (x1 : Int) (x3 : Int) (x4 : Int) (s : lf_Z) : Prop := X30 x3 (x4 + 1) s
theorem cj_295_p114 {X301 X302 X303 : Int → Int → lf_Z → Prop} {Q1 Q2 Q3 : Int → lf_Z → Prop} {x1 : Int} {x3 : Int} {x4 : Int} {s : lf_Z} (hX30 : ∀ (v0 : Int) (v1 : Int) (v2 : lf_Z), X301 v0 v1 v2 → X302 v0 v1 v2 → X303 v0 v1 v2) (hQ : ∀ (r : Int) (s : lf_Z), Q1 r s → Q2 r s → Q3 r s) (h1 : fm_295_p114 X301 Q1 x1 x3 x4 s) (h2 : fw_295_p114 X302 Q2 x1 x3 x4 s) : fm_295_p114 X303 Q3 x1 x3 x4 s := by
  unfold fm_295_p114 at h1 ⊢
  unfold fw_295_p114 at h2
  exact hX30 _ _ _  h1 h2
def fw_295_p108 (X30 : Int → Int → lf_Z → Prop) (X43 : Int → Int → lf_Z → Prop) (Q : Int → lf_Z → Prop) (x1 : Int) (x3 : Int) (x4 : Int) (x5 : Int) (s : lf_Z) : Prop := X43 x3 (x5 + 1) s
theorem cj_295_p108 {X301 X302 X303 : Int → Int → lf_Z → Prop} {X431 X432 X433 : Int → Int → lf_Z → Prop} {Q1 Q2 Q3 : Int → lf_Z → Prop} {x1 : Int} {x3 : Int} {x4 : Int} {x5 : Int} {s : lf_Z} (hX30 : ∀ (v0 : Int) (v1 : Int) (v2 : lf_Z), X301 v0 v1 v2 → X302 v0 v1 v2 → X303 v0 v1 v2) (hX43 : ∀ (v0 : Int) (v1 : Int) (v2 : lf_Z), X431 v0 v1 v2 → X432 v0 v1 v2 → X433 v0 v1 v2) (hQ : ∀ (r : Int) (s : lf_Z), Q1 r s → Q2 r s → Q3 r s) (h1 : fm_295_p108 X301 X431 Q1 x1 x3 x4 x5 s) (h2 : fw_295_p108 X302 X432 Q2 x1 x3 x4 x5 s) : fm_295_p108 X303 X433 Q3 x1 x3 x4 x5 s := by
  unfold fm_295_p108 at h1 ⊢
  unfold fw_295_p108 at h2
  exact hX43 _ _ _  h1 h2
def fw_295_p43 (X30 : Int → Int → lf_Z → Prop) (Q : Int → lf_Z → Prop) (x1 : Int) (x4 : Int) (X43 : Int → Int → lf_Z → Prop) (x3 : Int) (x5 : Int) (s : lf_Z) : Prop := lf_R x5 → ((lf_shl 1 (s.1 96 0) ≤ x5 → (fw_295_p114 X30 Q x1 x3 x4 s)) ∧ (¬ (lf_shl 1 (s.1 96 0) ≤ x5) → (lf_R x3 → ((0 ≤ x3 → (fw_295_p114 X30 Q x1 x3 x4 s)) ∧ (¬ (0 ≤ x3) → (fw_188 x5 (fun r30 s29 => (lf_R r30 → (lf_R x4 → ((r30 ≠ x4 → (fw_295_p108 X30 X43 Q x1 x3 x4 x5 s29)) ∧ (¬ (r30 ≠ x4) → (fw_255 x1 (fun r34 s33 => (fw_210 x5 r34 (fun z36 s35 => ((z36 = false → (fw_294 x1 (fun r38 s37 => (fw_296 r38 2 (fun r40 s39 => (lf_R r40 → ((r40 ≠ 0 → (fw_295_p108 X30 X43 Q x1 x3 x4 x5 s39)) ∧ (¬ (r40 ≠ 0) → (fw_295_p108 X30 X43 Q x1 x5 x4 x5 s39))))) s37)) (lf_up s35.1 95 29 x5, s35.2.1, s35.2.2))) ∧ (z36 = true → (fw_295_p108 X30 X43 Q x1 x3 x4 x5 s35)))) s33)) s29)))))) s))))))
theorem cj_295_p43 {X301 X302 X303 : Int → Int → lf_Z → Prop} {X431 X432 X433 : Int → Int → lf_Z → Prop} {Q1 Q2 Q3 : Int → lf_Z → Prop} {x1 : Int} {x4 : Int} {x3 : Int} {x5 : Int} {s : lf_Z} (hX30 : ∀ (v0 : Int) (v1 : Int) (v2 : lf_Z), X301 v0 v1 v2 → X302 v0 v1 v2 → X303 v0 v1 v2) (hX43 : ∀ (v0 : Int) (v1 : Int) (v2 : lf_Z), X431 v0 v1 v2 → X432 v0 v1 v2 → X433 v0 v1 v2) (hQ : ∀ (r : Int) (s : lf_Z), Q1 r s → Q2 r s → Q3 r s) (h1 : fm_295_p43 X301 Q1 x1 x4 X431 x3 x5 s) (h2 : fw_295_p43 X302 Q2 x1 x4 X432 x3 x5 s) : fm_295_p43 X303 Q3 x1 x4 X433 x3 x5 s := by
  unfold fm_295_p43 at h1 ⊢
  unfold fw_295_p43 at h2
  exact ⟨h1.1, ⟨(fun c2 => cj_295_p114 hX30 hQ (h1.2.1 c2) ((h2 h1.1).1 c2)), (fun c2 => ⟨(h1.2.2 c2).1, ⟨(fun c5 => cj_295_p114 hX30 hQ ((h1.2.2 c2).2.1 c5) ((((h2 h1.1).2 c2) (h1.2.2 c2).1).1 c5)), (fun c5 => cj_188 (fun r30 s29 k7 l7 => ⟨k7.1, ⟨k7.2.1, ⟨(fun c10 => cj_295_p108 hX30 hX43 hQ (k7.2.2.1 c10) (((l7 k7.1) k7.2.1).1 c10)), (fun c10 => cj_255 (fun r34 s33 k12 l12 => cj_210 (fun z36 s35 k13 l13 => ⟨(fun c14 => cj_294 (fun r38 s37 k15 l15 => cj_296 (fun r40 s39 k16 l16 => ⟨k16.1, ⟨(fun c18 => cj_295_p108 hX30 hX43 hQ (k16.2.1 c18) ((l16 k16.1).1 c18)), (fun c18 => cj_295_p108 hX30 hX43 hQ (k16.2.2 c18) ((l16 k16.1).2 c18))⟩⟩) k15 l15) (k13.1 c14) (l13.1 c14)), (fun c14 => cj_295_p108 hX30 hX43 hQ (k13.2 c14) (l13.2 c14))⟩) k12 l12) (k7.2.2.2 c10) (((l7 k7.1) k7.2.1).2 c10))⟩⟩⟩) ((h1.2.2 c2).2.2 c5) ((((h2 h1.1).2 c2) (h1.2.2 c2).1).2 c5))⟩⟩)⟩⟩
def fw_295_p43L (X30 : Int → Int → lf_Z → Prop) (Q : Int → lf_Z → Prop) (x1 : Int) (x3 : Int) (x4 : Int) (x5 : Int) (s : lf_Z) : Prop := ∃ X43 : Int → Int → lf_Z → Prop, (∀ (x3 : Int) (x5 : Int) (s : lf_Z), X43 x3 x5 s → fw_295_p43 X30 Q x1 x4 X43 x3 x5 s) ∧ X43 x3 x5 s
theorem cj_295_p43L {X301 X302 X303 : Int → Int → lf_Z → Prop} {Q1 Q2 Q3 : Int → lf_Z → Prop} {x1 : Int} {x3 : Int} {x4 : Int} {x5 : Int} {s : lf_Z} (hX30 : ∀ (v0 : Int) (v1 : Int) (v2 : lf_Z), X301 v0 v1 v2 → X302 v0 v1 v2 → X303 v0 v1 v2) (hQ : ∀ (r : Int) (s : lf_Z), Q1 r s → Q2 r s → Q3 r s) (h1 : fm_295_p43L X301 Q1 x1 x3 x4 x5 s) (h2 : fw_295_p43L X302 Q2 x1 x3 x4 x5 s) : fm_295_p43L X303 Q3 x1 x3 x4 x5 s := by
  intro X0 hX0
  obtain ⟨Y, hY, hY0⟩ := h2
  exact h1 (fun v0 v1 s => Y v0 v1 s → X0 v0 v1 s) (fun v0 v1 s hb hy => hX0 v0 v1 s (cj_295_p43 (hX30 := hX30) (X431 := fun v0 v1 s => Y v0 v1 s → X0 v0 v1 s) (X432 := Y) (X433 := X0) (hX43 := fun v0 v1 s a b => a b) hQ hb (hY v0 v1 s hy))) hY0
def fw_295_p30 (Q : Int → lf_Z → Prop) (x1 : Int) (X30 : Int → Int → lf_Z → Prop) (x3 : Int) (x4 : Int) (s : lf_Z) : Prop := lf_R x4 → ((3 < x4 → (fw_295_p120 Q x3 s)) ∧ (¬ (3 < x4) → (lf_R x3 → ((0 ≤ x3 → (fw_295_p120 Q x3 s)) ∧ (¬ (0 ≤ x3) → (fw_295_p43L X30 Q x1 x3 x4 0 s))))))
theorem cj_295_p30 {X301 X302 X303 : Int → Int → lf_Z → Prop} {Q1 Q2 Q3 : Int → lf_Z → Prop} {x1 : Int} {x3 : Int} {x4 : Int} {s : lf_Z} (hX30 : ∀ (v0 : Int) (v1 : Int) (v2 : lf_Z), X301 v0 v1 v2 → X302 v0 v1 v2 → X303 v0 v1 v2) (hQ : ∀ (r : Int) (s : lf_Z), Q1 r s → Q2 r s → Q3 r s) (h1 : fm_295_p30 Q1 x1 X301 x3 x4 s) (h2 : fw_295_p30 Q2 x1 X302 x3 x4 s) : fm_295_p30 Q3 x1 X303 x3 x4 s := by
  unfold fm_295_p30 at h1 ⊢
  unfold fw_295_p30 at h2
  exact ⟨h1.1, ⟨(fun c2 => cj_295_p120 hQ (h1.2.1 c2) ((h2 h1.1).1 c2)), (fun c2 => ⟨(h1.2.2 c2).1, ⟨(fun c5 => cj_295_p120 hQ ((h1.2.2 c2).2.1 c5) ((((h2 h1.1).2 c2) (h1.2.2 c2).1).1 c5)), (fun c5 => cj_295_p43L hX30 hQ ((h1.2.2 c2).2.2 c5) ((((h2 h1.1).2 c2) (h1.2.2 c2).1).2 c5))⟩⟩)⟩⟩
def fw_295_p30L (Q : Int → lf_Z → Prop) (x1 : Int) (x3 : Int) (x4 : Int) (s : lf_Z) : Prop := ∃ X30 : Int → Int → lf_Z → Prop, (∀ (x3 : Int) (x4 : Int) (s : lf_Z), X30 x3 x4 s → fw_295_p30 Q x1 X30 x3 x4 s) ∧ X30 x3 x4 s
theorem cj_295_p30L {Q1 Q2 Q3 : Int → lf_Z → Prop} {x1 : Int} {x3 : Int} {x4 : Int} {s : lf_Z} (hQ : ∀ (r : Int) (s : lf_Z), Q1 r s → Q2 r s → Q3 r s) (h1 : fm_295_p30L Q1 x1 x3 x4 s) (h2 : fw_295_p30L Q2 x1 x3 x4 s) : fm_295_p30L Q3 x1 x3 x4 s := by
  intro X0 hX0
  obtain ⟨Y, hY, hY0⟩ := h2
  exact h1 (fun v0 v1 s => Y v0 v1 s → X0 v0 v1 s) (fun v0 v1 s hb hy => hX0 v0 v1 s (cj_295_p30 (X301 := fun v0 v1 s => Y v0 v1 s → X0 v0 v1 s) (X302 := Y) (X303 := X0) (hX30 := fun v0 v1 s a b => a b) hQ hb (hY v0 v1 s hy))) hY0
def fw_295 (a1 : Int) (a2 : Int) (Q : Int → lf_Z → Prop) (s : lf_Z) : Prop := fw_254 a1 (fun z22 s21 => ((z22 = false → (Q (-1) s21)) ∧ (z22 = true → (fw_183 a2 0 9 (fun z24 s23 => ((z24 = true → (fw_295_p30L Q a1 (-1) 0 (lf_up s23.1 95 30 a2, s23.2.1, s23.2.2))) ∧ (z24 = false → (Q (-1) s23)))) s21)))) s
theorem cj_295 {Q1 Q2 Q3 : Int → lf_Z → Prop} {a1 : Int} {a2 : Int} {s : lf_Z} (hQ : ∀ (r : Int) (s : lf_Z), Q1 r s → Q2 r s → Q3 r s) (h1 : fm_295 a1 a2 Q1 s) (h2 : fw_295 a1 a2 Q2 s) : fm_295 a1 a2 Q3 s := by
  unfold fm_295 at h1 ⊢
  unfold fw_295 at h2
  exact cj_254 (fun z22 s21 k1 l1 => ⟨(fun c2 => hQ _ _  (k1.1 c2) (l1.1 c2)), (fun c2 => cj_183 (fun z24 s23 k4 l4 => ⟨(fun c5 => cj_295_p30L hQ (k4.1 c5) (l4.1 c5)), (fun c5 => hQ _ _  (k4.2 c5) (l4.2 c5))⟩) (k1.2 c2) (l1.2 c2))⟩) h1 h2
def fw_144_p43 (X4 : Int → Int → lf_Z → Prop) (Q : Int → lf_Z → Prop) (x1 : Int) (x2 : Int) (s : lf_Z) : Prop := X4 x1 (x2 + 1) s
theorem cj_144_p43 {X41 X42 X43 : Int → Int → lf_Z → Prop} {Q1 Q2 Q3 : Int → lf_Z → Prop} {x1 : Int} {x2 : Int} {s : lf_Z} (hX4 : ∀ (v0 : Int) (v1 : Int) (v2 : lf_Z), X41 v0 v1 v2 → X42 v0 v1 v2 → X43 v0 v1 v2) (hQ : ∀ (r : Int) (s : lf_Z), Q1 r s → Q2 r s → Q3 r s) (h1 : fm_144_p43 X41 Q1 x1 x2 s) (h2 : fw_144_p43 X42 Q2 x1 x2 s) : fm_144_p43 X43 Q3 x1 x2 s := by
  unfold fm_144_p43 at h1 ⊢
  unfold fw_144_p43 at h2
  exact hX4 _ _ _  h1 h2
def fw_144_p4 (Q : Int → lf_Z → Prop) (X4 : Int → Int → lf_Z → Prop) (x1 : Int) (x2 : Int) (s : lf_Z) : Prop := lf_R x2 → (lf_R (s.1 1 1) → ((s.1 1 1 ≤ x2 → (Q x1 s)) ∧ (¬ (s.1 1 1 ≤ x2) → (fw_89 x2 (fun z24 s23 => ((z24 = false → (fw_144_p43 X4 Q x1 x2 s23)) ∧ (z24 = true → (fw_90 x2 (fun z26 s25 => ((z26 = false → (fw_144_p43 X4 Q x1 x2 s25)) ∧ (z26 = true → (fw_144_p43 X4 Q (lf_or x1 (lf_shl 1 x2)) x2 s25)))) s23)))) s))))
theorem cj_144_p4 {X41 X42 X43 : Int → Int → lf_Z → Prop} {Q1 Q2 Q3 : Int → lf_Z → Prop} {x1 : Int} {x2 : Int} {s : lf_Z} (hX4 : ∀ (v0 : Int) (v1 : Int) (v2 : lf_Z), X41 v0 v1 v2 → X42 v0 v1 v2 → X43 v0 v1 v2) (hQ : ∀ (r : Int) (s : lf_Z), Q1 r s → Q2 r s → Q3 r s) (h1 : fm_144_p4 Q1 X41 x1 x2 s) (h2 : fw_144_p4 Q2 X42 x1 x2 s) : fm_144_p4 Q3 X43 x1 x2 s := by
  unfold fm_144_p4 at h1 ⊢
  unfold fw_144_p4 at h2
  exact ⟨h1.1, ⟨h1.2.1, ⟨(fun c3 => hQ _ _  (h1.2.2.1 c3) (((h2 h1.1) h1.2.1).1 c3)), (fun c3 => cj_89 (fun z24 s23 k5 l5 => ⟨(fun c6 => cj_144_p43 hX4 hQ (k5.1 c6) (l5.1 c6)), (fun c6 => cj_90 (fun z26 s25 k8 l8 => ⟨(fun c9 => cj_144_p43 hX4 hQ (k8.1 c9) (l8.1 c9)), (fun c9 => cj_144_p43 hX4 hQ (k8.2 c9) (l8.2 c9))⟩) (k5.2 c6) (l5.2 c6))⟩) (h1.2.2.2 c3) (((h2 h1.1) h1.2.1).2 c3))⟩⟩⟩
def fw_144_p4L (Q : Int → lf_Z → Prop) (x1 : Int) (x2 : Int) (s : lf_Z) : Prop := ∃ X4 : Int → Int → lf_Z → Prop, (∀ (x1 : Int) (x2 : Int) (s : lf_Z), X4 x1 x2 s → fw_144_p4 Q X4 x1 x2 s) ∧ X4 x1 x2 s
theorem cj_144_p4L {Q1 Q2 Q3 : Int → lf_Z → Prop} {x1 : Int} {x2 : Int} {s : lf_Z} (hQ : ∀ (r : Int) (s : lf_Z), Q1 r s → Q2 r s → Q3 r s) (h1 : fm_144_p4L Q1 x1 x2 s) (h2 : fw_144_p4L Q2 x1 x2 s) : fm_144_p4L Q3 x1 x2 s := by
  intro X0 hX0
  obtain ⟨Y, hY, hY0⟩ := h2
  exact h1 (fun v0 v1 s => Y v0 v1 s → X0 v0 v1 s) (fun v0 v1 s hb hy => hX0 v0 v1 s (cj_144_p4 (X41 := fun v0 v1 s => Y v0 v1 s → X0 v0 v1 s) (X42 := Y) (X43 := X0) (hX4 := fun v0 v1 s a b => a b) hQ hb (hY v0 v1 s hy))) hY0
def fw_144 (Q : Int → lf_Z → Prop) (s : lf_Z) : Prop := fw_144_p4L Q 0 0 s
theorem cj_144 {Q1 Q2 Q3 : Int → lf_Z → Prop} {s : lf_Z} (hQ : ∀ (r : Int) (s : lf_Z), Q1 r s → Q2 r s → Q3 r s) (h1 : fm_144 Q1 s) (h2 : fw_144 Q2 s) : fm_144 Q3 s := by
  unfold fm_144 at h1 ⊢
  unfold fw_144 at h2
  exact cj_144_p4L hQ h1 h2
def fw_143_p152 (X53 : Int → lf_Z → Prop) (Q : Int → lf_Z → Prop) (x1 : Int) (x2 : Int) (x3 : Int) (x4 : Int) (x5 : Int) (x6 : Int) (s : lf_Z) : Prop := X53 (x6 + 1) s
theorem cj_143_p152 {X531 X532 X533 : Int → lf_Z → Prop} {Q1 Q2 Q3 : Int → lf_Z → Prop} {x1 : Int} {x2 : Int} {x3 : Int} {x4 : Int} {x5 : Int} {x6 : Int} {s : lf_Z} (hX53 : ∀ (v0 : Int) (v1 : lf_Z), X531 v0 v1 → X532 v0 v1 → X533 v0 v1) (hQ : ∀ (r : Int) (s : lf_Z), Q1 r s → Q2 r s → Q3 r s) (h1 : fm_143_p152 X531 Q1 x1 x2 x3 x4 x5 x6 s) (h2 : fw_143_p152 X532 Q2 x1 x2 x3 x4 x5 x6 s) : fm_143_p152 X533 Q3 x1 x2 x3 x4 x5 x6 s := by
  unfold fm_143_p152 at h1 ⊢
  unfold fw_143_p152 at h2
  exact hX53 _ _  h1 h2
def fw_143_p144 (X53 : Int → lf_Z → Prop) (X70 : Int → Int → lf_Z → Prop) (Q : Int → lf_Z → Prop) (x1 : Int) (x2 : Int) (x3 : Int) (x4 : Int) (x5 : Int) (x6 : Int) (x8 : Int) (y0 : Int) (s : lf_Z) : Prop := X70 y0 (x8 + 1) s
theorem cj_143_p144 {X531 X532 X533 : Int → lf_Z → Prop} {X701 X702 X703 : Int → Int → lf_Z → Prop} {Q1 Q2 Q3 : Int → lf_Z → Prop} {x1 : Int} {x2 : Int} {x3 : Int} {x4 : Int} {x5 : Int} {x6 : Int} {x8 : Int} {y0 : Int} {s : lf_Z} (hX53 : ∀ (v0 : Int) (v1 : lf_Z), X531 v0 v1 → X532 v0 v1 → X533 v0 v1) (hX70 : ∀ (v0 : Int) (v1 : Int) (v2 : lf_Z), X701 v0 v1 v2 → X702 v0 v1 v2 → X703 v0 v1 v2) (hQ : ∀ (r : Int) (s : lf_Z), Q1 r s → Q2 r s → Q3 r s) (h1 : fm_143_p144 X531 X701 Q1 x1 x2 x3 x4 x5 x6 x8 y0 s) (h2 : fw_143_p144 X532 X702 Q2 x1 x2 x3 x4 x5 x6 x8 y0 s) : fm_143_p144 X533 X703 Q3 x1 x2 x3 x4 x5 x6 x8 y0 s := by
  unfold fm_143_p144 at h1 ⊢
  unfold fw_143_p144 at h2
  exact hX70 _ _ _  h1 h2
def fw_143_p129 (X53 : Int → lf_Z → Prop) (X70 : Int → Int → lf_Z → Prop) (Q : Int → lf_Z → Prop) (x1 : Int) (x2 : Int) (x3 : Int) (x4 : Int) (x5 : Int) (x6 : Int) (x7 : Int) (x8 : Int) (s : lf_Z) : Prop := lf_R x6 → ((x6 ≠ 0 → (fw_133 x7 (fun r36 s35 => (fw_143_p144 X53 X70 Q x1 x2 x3 x4 x5 x6 x8 r36 s35)) s)) ∧ (¬ (x6 ≠ 0) → (fw_143_p144 X53 X70 Q x1 x2 x3 x4 x5 x6 x8 x5 s)))
theorem cj_143_p129 {X531 X532 X533 : Int → lf_Z → Prop} {X701 X702 X703 : Int → Int → lf_Z → Prop} {Q1 Q2 Q3 : Int → lf_Z → Prop} {x1 : Int} {x2 : Int} {x3 : Int} {x4 : Int} {x5 : Int} {x6 : Int} {x7 : Int} {x8 : Int} {s : lf_Z} (hX53 : ∀ (v0 : Int) (v1 : lf_Z), X531 v0 v1 → X532 v0 v1 → X533 v0 v1) (hX70 : ∀ (v0 : Int) (v1 : Int) (v2 : lf_Z), X701 v0 v1 v2 → X702 v0 v1 v2 → X703 v0 v1 v2) (hQ : ∀ (r : Int) (s : lf_Z), Q1 r s → Q2 r s → Q3 r s) (h1 : fm_143_p129 X531 X701 Q1 x1 x2 x3 x4 x5 x6 x7 x8 s) (h2 : fw_143_p129 X532 X702 Q2 x1 x2 x3 x4 x5 x6 x7 x8 s) : fm_143_p129 X533 X703 Q3 x1 x2 x3 x4 x5 x6 x7 x8 s := by
  unfold fm_143_p129 at h1 ⊢
  unfold fw_143_p129 at h2
  exact ⟨h1.1, ⟨(fun c2 => cj_133 (fun r36 s35 k3 l3 => cj_143_p144 hX53 hX70 hQ k3 l3) (h1.2.1 c2) ((h2 h1.1).1 c2)), (fun c2 => cj_143_p144 hX53 hX70 hQ (h1.2.2 c2) ((h2 h1.1).2 c2))⟩⟩
def fw_143_p110 (X53 : Int → lf_Z → Prop) (X70 : Int → Int → lf_Z → Prop) (Q : Int → lf_Z → Prop) (x1 : Int) (x2 : Int) (x3 : Int) (x4 : Int) (x5 : Int) (x6 : Int) (x7 : Int) (x8 : Int) (y0 : Int) (s : lf_Z) : Prop := (lf_and y0 x3 ≠ 0 → (fw_143_p129 X53 X70 Q x1 x2 x3 x4 x5 x6 x7 x8 s)) ∧ (¬ (lf_and y0 x3 ≠ 0) → ((lf_and y0 x2 = 0 → (fw_143_p129 X53 X70 Q x1 x2 x3 x4 x5 x6 x7 x8 s)) ∧ (¬ (lf_and y0 x2 = 0) → (Q x7 s))))
theorem cj_143_p110 {X531 X532 X533 : Int → lf_Z → Prop} {X701 X702 X703 : Int → Int → lf_Z → Prop} {Q1 Q2 Q3 : Int → lf_Z → Prop} {x1 : Int} {x2 : Int} {x3 : Int} {x4 : Int} {x5 : Int} {x6 : Int} {x7 : Int} {x8 : Int} {y0 : Int} {s : lf_Z} (hX53 : ∀ (v0 : Int) (v1 : lf_Z), X531 v0 v1 → X532 v0 v1 → X533 v0 v1) (hX70 : ∀ (v0 : Int) (v1 : Int) (v2 : lf_Z), X701 v0 v1 v2 → X702 v0 v1 v2 → X703 v0 v1 v2) (hQ : ∀ (r : Int) (s : lf_Z), Q1 r s → Q2 r s → Q3 r s) (h1 : fm_143_p110 X531 X701 Q1 x1 x2 x3 x4 x5 x6 x7 x8 y0 s) (h2 : fw_143_p110 X532 X702 Q2 x1 x2 x3 x4 x5 x6 x7 x8 y0 s) : fm_143_p110 X533 X703 Q3 x1 x2 x3 x4 x5 x6 x7 x8 y0 s := by
  unfold fm_143_p110 at h1 ⊢
  unfold fw_143_p110 at h2
  exact ⟨(fun c1 => cj_143_p129 hX53 hX70 hQ (h1.1 c1) (h2.1 c1)), (fun c1 => ⟨(fun c3 => cj_143_p129 hX53 hX70 hQ ((h1.2 c1).1 c3) ((h2.2 c1).1 c3)), (fun c3 => hQ _ _  ((h1.2 c1).2 c3) ((h2.2 c1).2 c3))⟩)⟩
def fw_143_p70 (X53 : Int → lf_Z → Prop) (Q : Int → lf_Z → Prop) (x1 : Int) (x2 : Int) (x3 : Int) (x4 : Int) (x5 : Int) (x6 : Int) (X70 : Int → Int → lf_Z → Prop) (x7 : Int) (x8 : Int) (s : lf_Z) : Prop := lf_R x8 → ((1000 ≤ x8 → (fw_143_p152 X53 Q x1 x2 x3 x4 x5 x6 s)) ∧ (¬ (1000 ≤ x8) → (lf_R x7 → (lf_R x5 → ((x5 ≤ x7 → (fw_143_p152 X53 Q x1 x2 x3 x4 x5 x6 s)) ∧ (¬ (x5 ≤ x7) → ((lf_and x7 (lf_xor x4 (-1)) ≠ 0 → (fw_143_p110 X53 X70 Q x1 x2 x3 x4 x5 x6 x7 x8 x3 (lf_up s.1 68 9 x7, s.2.1, s.2.2))) ∧ (¬ (lf_and x7 (lf_xor x4 (-1)) ≠ 0) → (fw_128 x1 (fun r38 s37 => (fw_143_p110 X53 X70 Q x1 x2 x3 x4 x5 x6 x7 x8 r38 s37)) (lf_up s.1 68 9 x7, s.2.1, s.2.2))))))))))
theorem cj_143_p70 {X531 X532 X533 : Int → lf_Z → Prop} {X701 X702 X703 : Int → Int → lf_Z → Prop} {Q1 Q2 Q3 : Int → lf_Z → Prop} {x1 : Int} {x2 : Int} {x3 : Int} {x4 : Int} {x5 : Int} {x6 : Int} {x7 : Int} {x8 : Int} {s : lf_Z} (hX53 : ∀ (v0 : Int) (v1 : lf_Z), X531 v0 v1 → X532 v0 v1 → X533 v0 v1) (hX70 : ∀ (v0 : Int) (v1 : Int) (v2 : lf_Z), X701 v0 v1 v2 → X702 v0 v1 v2 → X703 v0 v1 v2) (hQ : ∀ (r : Int) (s : lf_Z), Q1 r s → Q2 r s → Q3 r s) (h1 : fm_143_p70 X531 Q1 x1 x2 x3 x4 x5 x6 X701 x7 x8 s) (h2 : fw_143_p70 X532 Q2 x1 x2 x3 x4 x5 x6 X702 x7 x8 s) : fm_143_p70 X533 Q3 x1 x2 x3 x4 x5 x6 X703 x7 x8 s := by
  unfold fm_143_p70 at h1 ⊢
  unfold fw_143_p70 at h2
  exact ⟨h1.1, ⟨(fun c2 => cj_143_p152 hX53 hQ (h1.2.1 c2) ((h2 h1.1).1 c2)), (fun c2 => ⟨(h1.2.2 c2).1, ⟨(h1.2.2 c2).2.1, ⟨(fun c6 => cj_143_p152 hX53 hQ ((h1.2.2 c2).2.2.1 c6) (((((h2 h1.1).2 c2) (h1.2.2 c2).1) (h1.2.2 c2).2.1).1 c6)), (fun c6 => ⟨(fun c8 => cj_143_p110 hX53 hX70 hQ (((h1.2.2 c2).2.2.2 c6).1 c8) ((((((h2 h1.1).2 c2) (h1.2.2 c2).1) (h1.2.2 c2).2.1).2 c6).1 c8)), (fun c8 => cj_128 (fun r38 s37 k10 l10 => cj_143_p110 hX53 hX70 hQ k10 l10) (((h1.2.2 c2).2.2.2 c6).2 c8) ((((((h2 h1.1).2 c2) (h1.2.2 c2).1) (h1.2.2 c2).2.1).2 c6).2 c8))⟩)⟩⟩⟩)⟩⟩
def fw_143_p70L (X53 : Int → lf_Z → Prop) (Q : Int → lf_Z → Prop) (x1 : Int) (x2 : Int) (x3 : Int) (x4 : Int) (x5 : Int) (x6 : Int) (x7 : Int) (x8 : Int) (s : lf_Z) : Prop := ∃ X70 : Int → Int → lf_Z → Prop, (∀ (x7 : Int) (x8 : Int) (s : lf_Z), X70 x7 x8 s → fw_143_p70 X53 Q x1 x2 x3 x4 x5 x6 X70 x7 x8 s) ∧ X70 x7 x8 s
theorem cj_143_p70L {X531 X532 X533 : Int → lf_Z → Prop} {Q1 Q2 Q3 : Int → lf_Z → Prop} {x1 : Int} {x2 : Int} {x3 : Int} {x4 : Int} {x5 : Int} {x6 : Int} {x7 : Int} {x8 : Int} {s : lf_Z} (hX53 : ∀ (v0 : Int) (v1 : lf_Z), X531 v0 v1 → X532 v0 v1 → X533 v0 v1) (hQ : ∀ (r : Int) (s : lf_Z), Q1 r s → Q2 r s → Q3 r s) (h1 : fm_143_p70L X531 Q1 x1 x2 x3 x4 x5 x6 x7 x8 s) (h2 : fw_143_p70L X532 Q2 x1 x2 x3 x4 x5 x6 x7 x8 s) : fm_143_p70L X533 Q3 x1 x2 x3 x4 x5 x6 x7 x8 s := by
  intro X0 hX0
  obtain ⟨Y, hY, hY0⟩ := h2
  exact h1 (fun v0 v1 s => Y v0 v1 s → X0 v0 v1 s) (fun v0 v1 s hb hy => hX0 v0 v1 s (cj_143_p70 (hX53 := hX53) (X701 := fun v0 v1 s => Y v0 v1 s → X0 v0 v1 s) (X702 := Y) (X703 := X0) (hX70 := fun v0 v1 s a b => a b) hQ hb (hY v0 v1 s hy))) hY0
def fw_143_p53 (Q : Int → lf_Z → Prop) (x1 : Int) (x2 : Int) (x3 : Int) (x4 : Int) (x5 : Int) (X53 : Int → lf_Z → Prop) (x6 : Int) (s : lf_Z) : Prop := lf_R x6 → ((3 < x6 → (Q (-1) s)) ∧ (¬ (3 < x6) → (fw_143_p70L X53 Q x1 x2 x3 x4 x5 x6 ((lf_shl 1 x6) - 1) 0 s)))
theorem cj_143_p53 {X531 X532 X533 : Int → lf_Z → Prop} {Q1 Q2 Q3 : Int → lf_Z → Prop} {x1 : Int} {x2 : Int} {x3 : Int} {x4 : Int} {x5 : Int} {x6 : Int} {s : lf_Z} (hX53 : ∀ (v0 : Int) (v1 : lf_Z), X531 v0 v1 → X532 v0 v1 → X533 v0 v1) (hQ : ∀ (r : Int) (s : lf_Z), Q1 r s → Q2 r s → Q3 r s) (h1 : fm_143_p53 Q1 x1 x2 x3 x4 x5 X531 x6 s) (h2 : fw_143_p53 Q2 x1 x2 x3 x4 x5 X532 x6 s) : fm_143_p53 Q3 x1 x2 x3 x4 x5 X533 x6 s := by
  unfold fm_143_p53 at h1 ⊢
  unfold fw_143_p53 at h2
  exact ⟨h1.1, ⟨(fun c2 => hQ _ _  (h1.2.1 c2) ((h2 h1.1).1 c2)), (fun c2 => cj_143_p70L hX53 hQ (h1.2.2 c2) ((h2 h1.1).2 c2))⟩⟩
def fw_143_p53L (Q : Int → lf_Z → Prop) (x1 : Int) (x2 : Int) (x3 : Int) (x4 : Int) (x5 : Int) (x6 : Int) (s : lf_Z) : Prop := ∃ X53 : Int → lf_Z → Prop, (∀ (x6 : Int) (s : lf_Z), X53 x6 s → fw_143_p53 Q x1 x2 x3 x4 x5 X53 x6 s) ∧ X53 x6 s
theorem cj_143_p53L {Q1 Q2 Q3 : Int → lf_Z → Prop} {x1 : Int} {x2 : Int} {x3 : Int} {x4 : Int} {x5 : Int} {x6 : Int} {s : lf_Z} (hQ : ∀ (r : Int) (s : lf_Z), Q1 r s → Q2 r s → Q3 r s) (h1 : fm_143_p53L Q1 x1 x2 x3 x4 x5 x6 s) (h2 : fw_143_p53L Q2 x1 x2 x3 x4 x5 x6 s) : fm_143_p53L Q3 x1 x2 x3 x4 x5 x6 s := by
  intro X0 hX0
  obtain ⟨Y, hY, hY0⟩ := h2
  exact h1 (fun v0 s => Y v0 s → X0 v0 s) (fun v0 s hb hy => hX0 v0 s (cj_143_p53 (X531 := fun v0 s => Y v0 s → X0 v0 s) (X532 := Y) (X533 := X0) (hX53 := fun v0 s a b => a b) hQ hb (hY v0 s hy))) hY0
def fw_143 (a1 : Int) (Q : Int → lf_Z → Prop) (s : lf_Z) : Prop := fw_118 a1 0 (fun s21 => (fw_132 3 (fun r23 s22 => (fw_132 1 (fun r25 s24 => (fw_132 2 (fun r27 s26 => (fw_144 (fun r29 s28 => (fw_143_p53L Q a1 r23 (lf_or r25 r27) r29 (lf_shl 1 (s28.1 1 1)) 0 s28)) s26)) s24)) s22)) s21)) s
theorem cj_143 {Q1 Q2 Q3 : Int → lf_Z → Prop} {a1 : Int} {s : lf_Z} (hQ : ∀ (r : Int) (s : lf_Z), Q1 r s → Q2 r s → Q3 r s) (h1 : fm_143 a1 Q1 s) (h2 : fw_143 a1 Q2 s) : fm_143 a1 Q3 s := by
  unfold fm_143 at h1 ⊢
  unfold fw_143 at h2
  exact cj_118 (fun s21 k1 l1 => cj_132 (fun r23 s22 k2 l2 => cj_132 (fun r25 s24 k3 l3 => cj_132 (fun r27 s26 k4 l4 => cj_144 (fun r29 s28 k5 l5 => cj_143_p53L hQ k5 l5) k4 l4) k3 l3) k2 l2) k1 l1) h1 h2
def fw_142 (a1 : Int) (Q : Int → lf_Z → Prop) (s : lf_Z) : Prop := fw_80 a1 (fun z22 s21 => ((z22 = false → (Q (-1) s21)) ∧ (z22 = true → (fw_143 a1 (fun r24 s23 => (Q r24 s23)) s21)))) s
theorem cj_142 {Q1 Q2 Q3 : Int → lf_Z → Prop} {a1 : Int} {s : lf_Z} (hQ : ∀ (r : Int) (s : lf_Z), Q1 r s → Q2 r s → Q3 r s) (h1 : fm_142 a1 Q1 s) (h2 : fw_142 a1 Q2 s) : fm_142 a1 Q3 s := by
  unfold fm_142 at h1 ⊢
  unfold fw_142 at h2
  exact cj_80 (fun z22 s21 k1 l1 => ⟨(fun c2 => hQ _ _  (k1.1 c2) (l1.1 c2)), (fun c2 => cj_143 (fun r24 s23 k4 l4 => hQ _ _  k4 l4) (k1.2 c2) (l1.2 c2))⟩) h1 h2
def fw_297_p176 (Q : Int → lf_Z → Prop) (x2 : Int) (s : lf_Z) : Prop := Q x2 (lf_up s.1 95 31 0, s.2.1, s.2.2)
theorem cj_297_p176 {Q1 Q2 Q3 : Int → lf_Z → Prop} {x2 : Int} {s : lf_Z} (hQ : ∀ (r : Int) (s : lf_Z), Q1 r s → Q2 r s → Q3 r s) (h1 : fm_297_p176 Q1 x2 s) (h2 : fw_297_p176 Q2 x2 s) : fm_297_p176 Q3 x2 s := by
  unfold fm_297_p176 at h1 ⊢
  unfold fw_297_p176 at h2
  exact hQ _ _  h1 h2
def fw_297_p170 (X66 : Int → Int → lf_Z → Prop) (Q : Int → lf_Z → Prop) (x1 : Int) (x2 : Int) (x3 : Int) (x4 : Int) (s : lf_Z) : Prop := X66 x2 (x4 + 1) s
theorem cj_297_p170 {X661 X662 X663 : Int → Int → lf_Z → Prop} {Q1 Q2 Q3 : Int → lf_Z → Prop} {x1 : Int} {x2 : Int} {x3 : Int} {x4 : Int} {s : lf_Z} (hX66 : ∀ (v0 : Int) (v1 : Int) (v2 : lf_Z), X661 v0 v1 v2 → X662 v0 v1 v2 → X663 v0 v1 v2) (hQ : ∀ (r : Int) (s : lf_Z), Q1 r s → Q2 r s → Q3 r s) (h1 : fm_297_p170 X661 Q1 x1 x2 x3 x4 s) (h2 : fw_297_p170 X662 Q2 x1 x2 x3 x4 s) : fm_297_p170 X663 Q3 x1 x2 x3 x4 s := by
  unfold fm_297_p170 at h1 ⊢
  unfold fw_297_p170 at h2
  exact hX66 _ _ _  h1 h2
def fw_297_p164 (X66 : Int → Int → lf_Z → Prop) (X79 : Int → Int → lf_Z → Prop) (Q : Int → lf_Z → Prop) (x1 : Int) (x2 : Int) (x3 : Int) (x4 : Int) (x5 : Int) (s : lf_Z) : Prop := X79 x2 (x5 + 1) s
theorem cj_297_p164 {X661 X662 X663 : Int → Int → lf_Z → Prop} {X791 X792 X793 : Int → Int → lf_Z → Prop} {Q1 Q2 Q3 : Int → lf_Z → Prop} {x1 : Int} {x2 : Int} {x3 : Int} {x4 : Int} {x5 : Int} {s : lf_Z} (hX66 : ∀ (v0 : Int) (v1 : Int) (v2 : lf_Z), X661 v0 v1 v2 → X662 v0 v1 v2 → X663 v0 v1 v2) (hX79 : ∀ (v0 : Int) (v1 : Int) (v2 : lf_Z), X791 v0 v1 v2 → X792 v0 v1 v2 → X793 v0 v1 v2) (hQ : ∀ (r : Int) (s : lf_Z), Q1 r s → Q2 r s → Q3 r s) (h1 : fm_297_p164 X661 X791 Q1 x1 x2 x3 x4 x5 s) (h2 : fw_297_p164 X662 X792 Q2 x1 x2 x3 x4 x5 s) : fm_297_p164 X663 X793 Q3 x1 x2 x3 x4 x5 s := by
  unfold fm_297_p164 at h1 ⊢
  unfold fw_297_p164 at h2
  exact hX79 _ _ _  h1 h2
def fw_297_p79 (X66 : Int → Int → lf_Z → Prop) (Q : Int → lf_Z → Prop) (x1 : Int) (x3 : Int) (x4 : Int) (X79 : Int → Int → lf_Z → Prop) (x2 : Int) (x5 : Int) (s : lf_Z) : Prop := lf_R x5 → ((lf_shl 1 (s.1 96 1) ≤ x5 → (fw_297_p170 X66 Q x1 x2 x3 x4 s)) ∧ (¬ (lf_shl 1 (s.1 96 1) ≤ x5) → (lf_R x2 → ((0 ≤ x2 → (fw_297_p170 X66 Q x1 x2 x3 x4 s)) ∧ (¬ (0 ≤ x2) → (fw_188 x5 (fun r30 s29 => (lf_R r30 → (lf_R x4 → ((r30 ≠ x4 → (fw_297_p164 X66 X79 Q x1 x2 x3 x4 x5 s29)) ∧ (¬ (r30 ≠ x4) → ((lf_and x5 (lf_xor x3 (-1)) = 0 → (fw_294 x1 (fun r34 s33 => (fw_296 r34 3 (fun r36 s35 => (lf_R r36 → ((r36 = 0 → (fw_297_p164 X66 X79 Q x1 x2 x3 x4 x5 s35)) ∧ (¬ (r36 = 0) → (fw_296 r34 1 (fun r39 s38 => (lf_R r39 → ((r39 ≠ 0 → (fw_297_p164 X66 X79 Q x1 x2 x3 x4 x5 s38)) ∧ (¬ (r39 ≠ 0) → (fw_296 r34 2 (fun r42 s41 => (lf_R r42 → ((r42 ≠ 0 → (fw_297_p164 X66 X79 Q x1 x2 x3 x4 x5 s41)) ∧ (¬ (r42 ≠ 0) → (fw_297_p164 X66 X79 Q x1 x5 x3 x4 x5 s41))))) s38))))) s35))))) s33)) (lf_up s29.1 95 31 x5, s29.2.1, s29.2.2))) ∧ (¬ (lf_and x5 (lf_xor x3 (-1)) = 0) → (fw_297_p164 X66 X79 Q x1 x2 x3 x4 x5 s29)))))))) s))))))
theorem cj_297_p79 {X661 X662 X663 : Int → Int → lf_Z → Prop} {X791 X792 X793 : Int → Int → lf_Z → Prop} {Q1 Q2 Q3 : Int → lf_Z → Prop} {x1 : Int} {x3 : Int} {x4 : Int} {x2 : Int} {x5 : Int} {s : lf_Z} (hX66 : ∀ (v0 : Int) (v1 : Int) (v2 : lf_Z), X661 v0 v1 v2 → X662 v0 v1 v2 → X663 v0 v1 v2) (hX79 : ∀ (v0 : Int) (v1 : Int) (v2 : lf_Z), X791 v0 v1 v2 → X792 v0 v1 v2 → X793 v0 v1 v2) (hQ : ∀ (r : Int) (s : lf_Z), Q1 r s → Q2 r s → Q3 r s) (h1 : fm_297_p79 X661 Q1 x1 x3 x4 X791 x2 x5 s) (h2 : fw_297_p79 X662 Q2 x1 x3 x4 X792 x2 x5 s) : fm_297_p79 X663 Q3 x1 x3 x4 X793 x2 x5 s := by
  unfold fm_297_p79 at h1 ⊢
  unfold fw_297_p79 at h2
  exact ⟨h1.1, ⟨(fun c2 => cj_297_p170 hX66 hQ (h1.2.1 c2) ((h2 h1.1).1 c2)), (fun c2 => ⟨(h1.2.2 c2).1, ⟨(fun c5 => cj_297_p170 hX66 hQ ((h1.2.2 c2).2.1 c5) ((((h2 h1.1).2 c2) (h1.2.2 c2).1).1 c5)), (fun c5 => cj_188 (fun r30 s29 k7 l7 => ⟨k7.1, ⟨k7.2.1, ⟨(fun c10 => cj_297_p164 hX66 hX79 hQ (k7.2.2.1 c10) (((l7 k7.1) k7.2.1).1 c10)), (fun c10 => ⟨(fun c12 => cj_294 (fun r34 s33 k13 l13 => cj_296 (fun r36 s35 k14 l14 => ⟨k14.1, ⟨(fun c16 => cj_297_p164 hX66 hX79 hQ (k14.2.1 c16) ((l14 k14.1).1 c16)), (fun c16 => cj_296 (fun r39 s38 k18 l18 => ⟨k18.1, ⟨(fun c20 => cj_297_p164 hX66 hX79 hQ (k18.2.1 c20) ((l18 k18.1).1 c20)), (fun c20 => cj_296 (fun r42 s41 k22 l22 => ⟨k22.1, ⟨(fun c24 => cj_297_p164 hX66 hX79 hQ (k22.2.1 c24) ((l22 k22.1).1 c24)), (fun c24 => cj_297_p164 hX66 hX79 hQ (k22.2.2 c24) ((l22 k22.1).2 c24))⟩⟩) (k18.2.2 c20) ((l18 k18.1).2 c20))⟩⟩) (k14.2.2 c16) ((l14 k14.1).2 c16))⟩⟩) k13 l13) ((k7.2.2.2 c10).1 c12) ((((l7 k7.1) k7.2.1).2 c10).1 c12)), (fun c12 => cj_297_p164 hX66 hX79 hQ ((k7.2.2.2 c10).2 c12) ((((l7 k7.1) k7.2.1).2 c10).2 c12))⟩)⟩⟩⟩) ((h1.2.2 c2).2.2 c5) ((((h2 h1.1).2 c2) (h1.2.2 c2).1).2 c5))⟩⟩)⟩⟩
def fw_297_p79L (X66 : Int → Int → lf_Z → Prop) (Q : Int → lf_Z → Prop) (x1 : Int) (x2 : Int) (x3 : Int) (x4 : Int) (x5 : Int) (s : lf_Z) : Prop := ∃ X79 : Int → Int → lf_Z → Prop, (∀ (x2 : Int) (x5 : Int) (s : lf_Z), X79 x2 x5 s → fw_297_p79 X66 Q x1 x3 x4 X79 x2 x5 s) ∧ X79 x2 x5 s
theorem cj_297_p79L {X661 X662 X663 : Int → Int → lf_Z → Prop} {Q1 Q2 Q3 : Int → lf_Z → Prop} {x1 : Int} {x2 : Int} {x3 : Int} {x4 : Int} {x5 : Int} {s : lf_Z} (hX66 : ∀ (v0 : Int) (v1 : Int) (v2 : lf_Z), X661 v0 v1 v2 → X662 v0 v1 v2 → X663 v0 v1 v2) (hQ : ∀ (r : Int) (s : lf_Z), Q1 r s → Q2 r s → Q3 r s) (h1 : fm_297_p79L X661 Q1 x1 x2 x3 x4 x5 s) (h2 : fw_297_p79L X662 Q2 x1 x2 x3 x4 x5 s) : fm_297_p79L X663 Q3 x1 x2 x3 x4 x5 s := by
  intro X0 hX0
  obtain ⟨Y, hY, hY0⟩ := h2
  exact h1 (fun v0 v1 s => Y v0 v1 s → X0 v0 v1 s) (fun v0 v1 s hb hy => hX0 v0 v1 s (cj_297_p79 (hX66 := hX66) (X791 := fun v0 v1 s => Y v0 v1 s → X0 v0 v1 s) (X792 := Y) (X793 := X0) (hX79 := fun v0 v1 s a b => a b) hQ hb (hY v0 v1 s hy))) hY0
def fw_297_p66 (Q : Int → lf_Z → Prop) (x1 : Int) (x3 : Int) (X66 : Int → Int → lf_Z → Prop) (x2 : Int) (x4 : Int) (s : lf_Z) : Prop := lf_R x4 → ((3 < x4 → (fw_297_p176 Q x2 s)) ∧ (¬ (3 < x4) → (lf_R x2 → ((0 ≤ x2 → (fw_297_p176 Q x2 s)) ∧ (¬ (0 ≤ x2) → (fw_297_p79L X66 Q x1 x2 x3 x4 0 s))))))
theorem cj_297_p66 {X661 X662 X663 : Int → Int → lf_Z → Prop} {Q1 Q2 Q3 : Int → lf_Z → Prop} {x1 : Int} {x3 : Int} {x2 : Int} {x4 : Int} {s : lf_Z} (hX66 : ∀ (v0 : Int) (v1 : Int) (v2 : lf_Z), X661 v0 v1 v2 → X662 v0 v1 v2 → X663 v0 v1 v2) (hQ : ∀ (r : Int) (s : lf_Z), Q1 r s → Q2 r s → Q3 r s) (h1 : fm_297_p66 Q1 x1 x3 X661 x2 x4 s) (h2 : fw_297_p66 Q2 x1 x3 X662 x2 x4 s) : fm_297_p66 Q3 x1 x3 X663 x2 x4 s := by
  unfold fm_297_p66 at h1 ⊢
  unfold fw_297_p66 at h2
  exact ⟨h1.1, ⟨(fun c2 => cj_297_p176 hQ (h1.2.1 c2) ((h2 h1.1).1 c2)), (fun c2 => ⟨(h1.2.2 c2).1, ⟨(fun c5 => cj_297_p176 hQ ((h1.2.2 c2).2.1 c5) ((((h2 h1.1).2 c2) (h1.2.2 c2).1).1 c5)), (fun c5 => cj_297_p79L hX66 hQ ((h1.2.2 c2).2.2 c5) ((((h2 h1.1).2 c2) (h1.2.2 c2).1).2 c5))⟩⟩)⟩⟩
def fw_297_p66L (Q : Int → lf_Z → Prop) (x1 : Int) (x2 : Int) (x3 : Int) (x4 : Int) (s : lf_Z) : Prop := ∃ X66 : Int → Int → lf_Z → Prop, (∀ (x2 : Int) (x4 : Int) (s : lf_Z), X66 x2 x4 s → fw_297_p66 Q x1 x3 X66 x2 x4 s) ∧ X66 x2 x4 s
theorem cj_297_p66L {Q1 Q2 Q3 : Int → lf_Z → Prop} {x1 : Int} {x2 : Int} {x3 : Int} {x4 : Int} {s : lf_Z} (hQ : ∀ (r : Int) (s : lf_Z), Q1 r s → Q2 r s → Q3 r s) (h1 : fm_297_p66L Q1 x1 x2 x3 x4 s) (h2 : fw_297_p66L Q2 x1 x2 x3 x4 s) : fm_297_p66L Q3 x1 x2 x3 x4 s := by
  intro X0 hX0
  obtain ⟨Y, hY, hY0⟩ := h2
  exact h1 (fun v0 v1 s => Y v0 v1 s → X0 v0 v1 s) (fun v0 v1 s hb hy => hX0 v0 v1 s (cj_297_p66 (X661 := fun v0 v1 s => Y v0 v1 s → X0 v0 v1 s) (X662 := Y) (X663 := X0) (hX66 := fun v0 v1 s a b => a b) hQ hb (hY v0 v1 s hy))) hY0
def fw_297_p55 (X17 : Int → Int → lf_Z → Prop) (Q : Int → lf_Z → Prop) (x1 : Int) (x2 : Int) (x4 : Int) (y0 : Int) (y1 : Int) (s : lf_Z) : Prop := X17 (lf_or y0 y1) (x4 + 1) s
theorem cj_297_p55 {X171 X172 X173 : Int → Int → lf_Z → Prop} {Q1 Q2 Q3 : Int → lf_Z → Prop} {x1 : Int} {x2 : Int} {x4 : Int} {y0 : Int} {y1 : Int} {s : lf_Z} (hX17 : ∀ (v0 : Int) (v1 : Int) (v2 : lf_Z), X171 v0 v1 v2 → X172 v0 v1 v2 → X173 v0 v1 v2) (hQ : ∀ (r : Int) (s : lf_Z), Q1 r s → Q2 r s → Q3 r s) (h1 : fm_297_p55 X171 Q1 x1 x2 x4 y0 y1 s) (h2 : fw_297_p55 X172 Q2 x1 x2 x4 y0 y1 s) : fm_297_p55 X173 Q3 x1 x2 x4 y0 y1 s := by
  unfold fm_297_p55 at h1 ⊢
  unfold fw_297_p55 at h2
  exact hX17 _ _ _  h1 h2
def fw_297_p54 (X17 : Int → Int → lf_Z → Prop) (Q : Int → lf_Z → Prop) (x1 : Int) (x2 : Int) (x4 : Int) (y0 : Int) (s : lf_Z) : Prop := fw_297_p55 X17 Q x1 x2 x4 y0 0 s
theorem cj_297_p54 {X171 X172 X173 : Int → Int → lf_Z → Prop} {Q1 Q2 Q3 : Int → lf_Z → Prop} {x1 : Int} {x2 : Int} {x4 : Int} {y0 : Int} {s : lf_Z} (hX17 : ∀ (v0 : Int) (v1 : Int) (v2 : lf_Z), X171 v0 v1 v2 → X172 v0 v1 v2 → X173 v0 v1 v2) (hQ : ∀ (r : Int) (s : lf_Z), Q1 r s → Q2 r s → Q3 r s) (h1 : fm_297_p54 X171 Q1 x1 x2 x4 y0 s) (h2 : fw_297_p54 X172 Q2 x1 x2 x4 y0 s) : fm_297_p54 X173 Q3 x1 x2 x4 y0 s := by
  unfold fm_297_p54 at h1 ⊢
  unfold fw_297_p54 at h2
  exact cj_297_p55 hX17 hQ h1 h2
def fw_297_p17 (Q : Int → lf_Z → Prop) (x1 : Int) (x2 : Int) (X17 : Int → Int → lf_Z → Prop) (x3 : Int) (x4 : Int) (s : lf_Z) : Prop := lf_R x4 → (lf_R (s.1 96 1) → ((s.1 96 1 ≤ x4 → (fw_297_p66L Q x1 x2 x3 0 s)) ∧ (¬ (s.1 96 1 ≤ x4) → (fw_245 x4 (fun z45 s44 => ((z45 = false → (fw_297_p54 X17 Q x1 x2 x4 x3 s44)) ∧ (z45 = true → (fw_252 x4 (fun z47 s46 => ((z47 = true → (fw_297_p54 X17 Q x1 x2 x4 x3 s46)) ∧ (z47 = false → (fw_297_p55 X17 Q x1 x2 x4 x3 (lf_shl 1 x4) s46)))) s44)))) s))))
theorem cj_297_p17 {X171 X172 X173 : Int → Int → lf_Z → Prop} {Q1 Q2 Q3 : Int → lf_Z → Prop} {x1 : Int} {x2 : Int} {x3 : Int} {x4 : Int} {s : lf_Z} (hX17 : ∀ (v0 : Int) (v1 : Int) (v2 : lf_Z), X171 v0 v1 v2 → X172 v0 v1 v2 → X173 v0 v1 v2) (hQ : ∀ (r : Int) (s : lf_Z), Q1 r s → Q2 r s → Q3 r s) (h1 : fm_297_p17 Q1 x1 x2 X171 x3 x4 s) (h2 : fw_297_p17 Q2 x1 x2 X172 x3 x4 s) : fm_297_p17 Q3 x1 x2 X173 x3 x4 s := by
  unfold fm_297_p17 at h1 ⊢
  unfold fw_297_p17 at h2
  exact ⟨h1.1, ⟨h1.2.1, ⟨(fun c3 => cj_297_p66L hQ (h1.2.2.1 c3) (((h2 h1.1) h1.2.1).1 c3)), (fun c3 => cj_245 (fun z45 s44 k5 l5 => ⟨(fun c6 => cj_297_p54 hX17 hQ (k5.1 c6) (l5.1 c6)), (fun c6 => cj_252 (fun z47 s46 k8 l8 => ⟨(fun c9 => cj_297_p54 hX17 hQ (k8.1 c9) (l8.1 c9)), (fun c9 => cj_297_p55 hX17 hQ (k8.2 c9) (l8.2 c9))⟩) (k5.2 c6) (l5.2 c6))⟩) (h1.2.2.2 c3) (((h2 h1.1) h1.2.1).2 c3))⟩⟩⟩
def fw_297_p17L (Q : Int → lf_Z → Prop) (x1 : Int) (x2 : Int) (x3 : Int) (x4 : Int) (s : lf_Z) : Prop := ∃ X17 : Int → Int → lf_Z → Prop, (∀ (x3 : Int) (x4 : Int) (s : lf_Z), X17 x3 x4 s → fw_297_p17 Q x1 x2 X17 x3 x4 s) ∧ X17 x3 x4 s
theorem cj_297_p17L {Q1 Q2 Q3 : Int → lf_Z → Prop} {x1 : Int} {x2 : Int} {x3 : Int} {x4 : Int} {s : lf_Z} (hQ : ∀ (r : Int) (s : lf_Z), Q1 r s → Q2 r s → Q3 r s) (h1 : fm_297_p17L Q1 x1 x2 x3 x4 s) (h2 : fw_297_p17L Q2 x1 x2 x3 x4 s) : fm_297_p17L Q3 x1 x2 x3 x4 s := by
  intro X0 hX0
  obtain ⟨Y, hY, hY0⟩ := h2
  exact h1 (fun v0 v1 s => Y v0 v1 s → X0 v0 v1 s) (fun v0 v1 s hb hy => hX0 v0 v1 s (cj_297_p17 (X171 := fun v0 v1 s => Y v0 v1 s → X0 v0 v1 s) (X172 := Y) (X173 := X0) (hX17 := fun v0 v1 s a b => a b) hQ hb (hY v0 v1 s hy))) hY0
def fw_297 (a1 : Int) (Q : Int → lf_Z → Prop) (s : lf_Z) : Prop := fw_254 a1 (fun z22 s21 => ((z22 = true → (fw_297_p17L Q a1 (-1) 0 0 s21)) ∧ (z22 = false → (Q (-1) s21)))) s
theorem cj_297 {Q1 Q2 Q3 : Int → lf_Z → Prop} {a1 : Int} {s : lf_Z} (hQ : ∀ (r : Int) (s : lf_Z), Q1 r s → Q2 r s → Q3 r s) (h1 : fm_297 a1 Q1 s) (h2 : fw_297 a1 Q2 s) : fm_297 a1 Q3 s := by
  unfold fm_297 at h1 ⊢
  unfold fw_297 at h2
  exact cj_254 (fun z22 s21 k1 l1 => ⟨(fun c2 => cj_297_p17L hQ (k1.1 c2) (l1.1 c2)), (fun c2 => hQ _ _  (k1.2 c2) (l1.2 c2))⟩) h1 h2
/-! walks: what a law says of a way -/
section WJ
variable {J K : Nat → Int → Int} {s t u : lf_Z} {f g sv T : Int → Int} {H : List rr_H} {X : mn_X} {I : Nat → Int → Int} {P : Nat → Option Nat} {a b c w p z G v B : Int}
/-- the chance of a way: guarded stretches G, with nerve v; ways B are shut besides -/
def wj_ch (J : Nat → Int → Int) (X : mn_X) (f : Int → Int) (z G v B w p c : Int) : Int :=
  if mn_at J p w.toNat = false ∨ J 6 w ≠ 0 ∨ bt_t (f 36) w = true ∨ bt_t B w = true then 0 else X.2 (mn_ng J f z p w (if mn_ac J w p = c then 1 else 0) (if bt_t G p = true then 1 else 0) (if bt_t G (mn_ac J w p) = true then v else 0))
theorem wj_chB (hB : gx_XB X) : 0 ≤ wj_ch J X f z G v B w p c ∧ wj_ch J X f z G v B w p c ≤ 10 := by
  unfold wj_ch
  split
  · omega
  · exact hB.2 _
theorem wj_at (hW : mn_W J) (w0 : 0 ≤ a) (w1 : a < J 1 1) : mn_at J b a.toNat = true ↔ mn_ac J a b ≠ -1 := by
  have q4 := hW.2.2.2.1 a w0 w1
  rw [mn_atE, show ((a.toNat : Nat) : Int) = a by omega]
  unfold mn_ac
  (repeat' split) <;> omega
theorem wj_ac (hW : mn_W J) (w0 : 0 ≤ a) (w1 : a < J 1 1) (h : mn_ac J a b ≠ -1) : 0 ≤ mn_ac J a b ∧ mn_ac J a b < J 1 0 := by
  have q4 := hW.2.2.2.1 a w0 w1
  unfold mn_ac at h ⊢
  (repeat' split) <;> first | omega | (exfalso; (repeat' split at h) <;> omega)
/-- what a law says of a way, by its side -/
def wj_v (J : Nat → Int → Int) (X : mn_X) (f : Int → Int) (z v a sd bk mh mt : Int) : Int := X.2 (mn_ng J f z (if sd = 0 then J 4 a else J 5 a) a bk mh (mt * v))
/-- what the class keeps of it -/
def wj_C (J : Nat → Int → Int) (X : mn_X) (f : Int → Int) (z v : Int) (I : Nat → Int → Int) : Prop := ∀ w sd bk mh mt : Int, (0 ≤ w ∧ w < J 1 1) → (0 ≤ sd ∧ sd ≤ 1) → (0 ≤ bk ∧ bk ≤ 1) → (0 ≤ mh ∧ mh ≤ 1) → (0 ≤ mt ∧ mt ≤ 1) → I 69 (w * 16 + sd * 8 + bk * 4 + mh * 2 + mt) = -1 ∨ I 69 (w * 16 + sd * 8 + bk * 4 + mh * 2 + mt) = wj_v J X f z v w sd bk mh mt
def wj_K (J : Nat → Int → Int) (X : mn_X) (f : Int → Int) (z G v B : Int) (I : Nat → Int → Int) : Prop := (I 68 8 = z ∧ I 68 9 = B ∧ I 68 10 = G ∧ I 68 11 = v) ∧ wj_C J X f z v I
def wj_f (s t : lf_Z) : Prop := (∀ c : Nat, c ≠ 63 → c ≠ 64 → c ≠ 65 → c ≠ 66 → c ≠ 69 → t.1 c = s.1 c) ∧ t.2 = s.2
theorem wj_fr : wj_f s s := ⟨fun _ _ _ _ _ _ => rfl, rfl⟩
/-- what stays for all of a walk -/
def wj_F (J : Nat → Int → Int) (X : mn_X) (z v : Int) : Prop := mn_W J ∧ mn_B J ∧ mn_V J ∧ gx_XB X ∧ cm_sm z ∧ 0 ≤ v ∧ v ≤ 9
def wj_A (J : Nat → Int → Int) (X : mn_X) (f : Int → Int) (z G v B : Int) (I : Nat → Int → Int) (s : lf_Z) : Prop := gc_J J s ∧ rc_S s.1 f ∧ gx_Xc X I s ∧ wj_K J X f z G v B s.1
/-- the class -/
theorem fl_123 {Q : Int → lf_Z → Prop} (hF : wj_F J X z v) (hA : wj_A J X f z G v B I s) (p0 : 0 ≤ b ∧ b < J 1 0) (w0 : 0 ≤ a) (w1 : a < J 1 1) (k : ∀ t : lf_Z, wj_f s t → wj_K J X f z G v B t.1 → Q (wj_ch J X f z G v B a b c) t) : fw_123 a b c Q s := by
  obtain ⟨hW, hB, hV, hXB, hz, hv⟩ := hF
  obtain ⟨hJ, hS, hX, hK⟩ := hA
  have n0 := hW.1
  have n1 := hW.2.1
  have e1 : s.1 1 = J 1 := hJ 1 (by omega)
  have e4 : s.1 4 = J 4 := hJ 4 (by omega)
  have e6 : s.1 6 = J 6 := hJ 6 (by omega)
  have hK' := hK
  obtain ⟨⟨k8, k9, k10, k11⟩, kC⟩ := hK'
  have no : (mn_at J b a.toNat = false ∨ J 6 a ≠ 0 ∨ bt_t (f 36) a = true ∨ bt_t B a = true) → Q 0 s := fun q => qu_to (k s wj_fr hK) (if_pos q)
  unfold fw_123
  refine fl_78 ?_
  rw [e1, if_pos ⟨w0, w1⟩, mn_acJ hJ]
  intro _
  refine ⟨fun y => no (Or.inl ?_), fun y => fl_89 ⟨fun y1 => no (Or.inr (Or.inl (fun q => ?_))), fun y1 => fl_90 w0 (by omega) ⟨fun y2 => no (Or.inr (Or.inr (Or.inl ?_))), fun y2 => ⟨fun y3 _ => ?_, fun y3 => no (Or.inr (Or.inr (Or.inr ?_)))⟩⟩⟩⟩
  · cases q : mn_at J b a.toNat with
    | false => rfl
    | true => exact absurd y ((wj_at hW w0 w1).mp q)
  · rw [decide_eq_true w0, e1, decide_eq_true w1, e6, decide_eq_true q] at y1
    cases y1
  · rw [hS.2.2.2.1] at y2
    cases q : bt_t (f 36) a with
    | true => rfl
    | false => rw [q] at y2; cases y2
  · have hat := (wj_at (b := b) hW w0 w1).mpr y
    have ac := wj_ac hW w0 w1 y
    have sh : bt_t (f 36) a = false := by
      rw [hS.2.2.2.1] at y2
      cases q : bt_t (f 36) a with
      | false => rfl
      | true => rw [q] at y2; cases y2
    have sB : bt_t B a = false := by
      rw [k9, bt_T w0 (by omega)] at y3
      cases q : bt_t B a with
      | false => rfl
      | true => rw [q] at y3; exact absurd rfl y3
    have j6 : J 6 a = 0 := by
      cases q : decide (s.1 6 a = 0) with
      | true => have q := of_decide_eq_true q; rw [e6] at q; exact q
      | false => rw [q, Bool.and_false] at y1; cases y1
    obtain ⟨bk, hb⟩ : ∃ bk : Int, bk = (if mn_ac J a b = c then 1 else 0) := ⟨_, rfl⟩
    obtain ⟨mh, hh⟩ : ∃ mh : Int, mh = (if bt_t G b = true then 1 else 0) := ⟨_, rfl⟩
    obtain ⟨mt, ht⟩ : ∃ mt : Int, mt = (if bt_t G (mn_ac J a b) = true then 1 else 0) := ⟨_, rfl⟩
    have bB : 0 ≤ bk ∧ bk ≤ 1 := by rw [hb]; split <;> omega
    have hB' : 0 ≤ mh ∧ mh ≤ 1 := by rw [hh]; split <;> omega
    have tB : 0 ≤ mt ∧ mt ≤ 1 := by rw [ht]; split <;> omega
    have tv : 0 ≤ mt * v ∧ mt * v ≤ 9 := by
      rcases (show mt = 0 ∨ mt = 1 by omega) with q | q
      · rw [q]; omega
      · rw [q]; omega
    have e : wj_ch J X f z G v B a b c = X.2 (mn_ng J f z b a bk mh (mt * v)) := by
      have m : mt * v = (if bt_t G (mn_ac J a b) = true then v else 0) := by
        by_cases q : bt_t G (mn_ac J a b) = true
        · rw [ht, if_pos q, if_pos q]; omega
        · rw [ht, if_neg q, if_neg q]; omega
      rw [m, hb, hh]
      exact if_neg (fun q => by
        rcases q with q | q | q | q
        · rw [hat] at q; cases q
        · exact q j6
        · rw [sh] at q; cases q
        · rw [sB] at q; cases q)
    have p105 : ∀ sd : Int, (0 ≤ sd ∧ sd ≤ 1) → b = (if sd = 0 then J 4 a else J 5 a) → fw_123_p105 Q a b bk mh mt sd s := fun sd sd1 hbs => by
      have kc := kC a sd bk mh mt ⟨w0, w1⟩ sd1 bB hB' tB
      have ev : wj_v J X f z v a sd bk mh mt = wj_ch J X f z G v B a b c := by
        unfold wj_v
        rw [← hbs, e]
      unfold fw_123_p105
      intro _ _
      refine ⟨fun y5 => ?_, fun y5 => ?_⟩
      · unfold fw_123_p174
        intro _
        rcases kc with q | q
        · exact absurd q y5
        · rw [q, ev]; exact k s wj_fr hK
      · rw [k8, k11]
        refine fl_91 hJ hW hB hV hS hX.1 hX.2 p0 w0 w1 tv (ng_S hW hB hV p0 w0 w1 hz (by unfold cm_sm; omega) hB' tv) ac.1 (fun r t tf hr => ?_)
        have er : r = wj_ch J X f z G v B a b c := hr.trans e.symm
        have c68 : t.1 68 = s.1 68 := tf.1 68 (by decide) (by decide) (by decide) (by decide)
        have c69 : t.1 69 = s.1 69 := tf.1 69 (by decide) (by decide) (by decide) (by decide)
        unfold fw_123_p174
        intro _
        refine qu_to (k _ ⟨fun d d1 d2 d3 d4 d5 => (zu_r d5).trans (tf.1 d d1 d2 d3 d4), tf.2⟩ ⟨⟨?_, ?_, ?_, ?_⟩, ?_⟩) (er.symm.trans zu_s.symm)
        · rw [zu_c (by decide), c68]; exact k8
        · rw [zu_c (by decide), c68]; exact k9
        · rw [zu_c (by decide), c68]; exact k10
        · rw [zu_c (by decide), c68]; exact k11
        · intro w' sd' bk' mh' mt' h1 h2 h3 h4 h5
          by_cases q : w' * 16 + sd' * 8 + bk' * 4 + mh' * 2 + mt' = a * 16 + sd * 8 + bk * 4 + mh * 2 + mt
          · obtain ⟨q1, q2, q3, q4, q5⟩ : w' = a ∧ sd' = sd ∧ bk' = bk ∧ mh' = mh ∧ mt' = mt := by omega
            rw [q1, q2, q3, q4, q5]
            exact Or.inr (zu_s.trans (er.trans ev.symm))
          · rw [zu_i q, c69]
            exact kC w' sd' bk' mh' mt' h1 h2 h3 h4 h5
    have p64 : fw_123_p64 Q a b (mn_ac J a b) bk s := by
      unfold fw_123_p64
      rw [k10, bt_T p0.1 (by omega), bt_T ac.1 (by omega), ← hh, ← ht, e4]
      intro _ _ _
      refine ⟨fun q => p105 1 (by decide) ?_, fun q => p105 0 (by decide) ?_⟩
      · rw [if_neg (by decide)]
        rcases mn_atE.mp hat with m | m
        · rw [show ((a.toNat : Nat) : Int) = a by omega] at m; exact absurd m q
        · rw [show ((a.toNat : Nat) : Int) = a by omega] at m; exact m.symm
      · rw [if_pos rfl]; exact (Classical.not_not.mp q).symm
    have m : ∀ x : Int, x = bk → fw_123_p64 Q a b (mn_ac J a b) x s := fun x hx => by rw [hx]; exact p64
    exact ⟨fun q => m 0 (by rw [hb, if_neg (fun q2 => q q2.symm)]), fun q => m 1 (by rw [hb, if_pos (Classical.not_not.mp q).symm])⟩
  · rw [k9, bt_T w0 (by omega)] at y3
    cases q : bt_t B a with
    | true => rfl
    | false => rw [q] at y3; exact absurd (show (if false = true then (1 : Int) else 0) ≠ 1 by decide) y3
/-- the reference -/
theorem fl_273w {Q : Int → lf_Z → Prop} (hF : wj_F J X z v) (hL : rr_L J (s.1 96)) (hS : rr_S (J 1 1) (J 1 2) f (s.1 96)) (hX : xr_X X T (s.1 96 8)) (hT : s.1 98 = T) (h9 : s.1 95 29 = G ∧ s.1 95 30 = v ∧ s.1 95 31 = B) (p0 : 0 ≤ b ∧ b < J 1 0) (w0 : 0 ≤ a) (w1 : a < J 1 1) (k : ∀ t : lf_Z, tr_f s t → Q (wj_ch J X f z G v B a b c) t) : fw_273 z b c a Q s := by
  obtain ⟨hW, hB, hV, hXB, hz, hv⟩ := hF
  obtain ⟨g1, g2, g3⟩ := h9
  have n0 := hW.1
  refine fl_273 hL hW hB hV hS hX hT p0 w0 w1 (by rw [g2]; exact hv) (ng_S hW hB hV p0 w0 w1 hz (by unfold cm_sm; split <;> omega) (by split <;> omega) (by rw [g2]; split <;> omega)) (fun r t tf hr => qu_to (k t tf) ?_)
  rw [hr, g1, g2, g3]
  rfl
end WJ
/-! where a bunch can come: the search -/
section WJ
variable {J K : Nat → Int → Int} {s t u : lf_Z} {f g sv T : Int → Int} {H : List rr_H} {X : mn_X} {I : Nat → Int → Int} {a b c w p z G v B n1 x : Int}
/-- one more of a sort -/
theorem dm_cnX {P : Nat → Bool} {m : Nat} (h : P m = false) : ∀ n : Nat, m < n → dm_cn P n < n := by
  intro n
  induction n with
  | zero => intro h; omega
  | succ n ih =>
    intro hm
    show dm_cn P n + (if P n = true then 1 else 0) < n + 1
    by_cases e : m = n
    · subst e
      have := dm_cnB (P := P) m
      rw [if_neg (by rw [h]; decide)]
      omega
    · have := ih (by omega)
      split <;> omega
theorem dm_cnA {P P' : Nat → Bool} {m : Nat} (h : P m = false) (h' : P' m = true) (he : ∀ y : Nat, y ≠ m → P' y = P y) : ∀ n : Nat, dm_cn P' n = dm_cn P n + (if m < n then 1 else 0) := by
  intro n
  induction n with
  | zero => rfl
  | succ n ih =>
    show dm_cn P' n + (if P' n = true then 1 else 0) = dm_cn P n + (if P n = true then 1 else 0) + (if m < n + 1 then 1 else 0)
    rw [ih]
    by_cases e : n = m
    · subst e
      rw [h, h', if_neg (show ¬ n < n by omega), if_pos (show n < n + 1 by omega), if_pos (show true = true from rfl), if_neg (show ¬ (false = true) by decide)]
    · rw [he n e]
      by_cases q : m < n
      · rw [if_pos q, if_pos (show m < n + 1 by omega)]; omega
      · rw [if_neg q, if_neg (show ¬ m < n + 1 by omega)]; omega
theorem dm_cn0 : ∀ n : Nat, dm_cn (fun _ => false) n = 0 := by
  intro n
  induction n with
  | zero => rfl
  | succ n ih => exact (show dm_cn (fun _ => false) n + 0 = 0 by rw [ih])
/-- the search: what is to be looked at, what was met, how many -/
abbrev wj_T : Type := (Int → Int) × (Int → Int) × Nat
def wj_i (J : Nat → Int → Int) (w p : Int) : Int := mn_ac J w p * 13 + p + 1
def wj_pu (J : Nat → Int → Int) (C : Int → Int) (p : Int) (w : Nat) (T : wj_T) : wj_T := if C w ≠ 0 ∧ T.2.1 (wj_i J w p) = 0 then (ds_u1 T.1 T.2.2 (wj_i J w p), ds_u1 T.2.1 (wj_i J w p) 1, T.2.2 + 1) else T
def wj_go (J : Nat → Int → Int) (C : Int → Int) (p : Int) : Nat → Nat → wj_T → wj_T
  | 0, _, T => T
  | k + 1, w, T => if 10 ≤ C w then wj_pu J C p w T else wj_go J C p k (w + 1) (wj_pu J C p w T)
def wj_sp (J : Nat → Int → Int) (C : Int → Int → Int → Int) : Nat → Nat → Int → wj_T → Int
  | 0, _, m, _ => m
  | k + 1, i, m, T => if i < T.2.2 then wj_sp J C k (i + 1) (lf_or m (lf_shl 1 ((T.1 i).tdiv 13))) (wj_go J (fun w => C w ((T.1 i).tdiv 13) ((T.1 i).tmod 13 - 1)) ((T.1 i).tdiv 13) (J 1 1).toNat 0 T) else m
def wj_0 (x : Int) : wj_T := (fun _ => x, ds_u1 (fun _ => 0) x 1, 1)
/-- where it can come -/
def wj_re (J : Nat → Int → Int) (X : mn_X) (f : Int → Int) (z G v B x : Int) : Int := wj_sp J (fun w p c => wj_ch J X f z G v B w p c) 200 0 0 (wj_0 x)
theorem wj_pu0 {C : Int → Int} {w : Nat} {T : wj_T} (h : C w = 0) : wj_pu J C p w T = T := if_neg (fun q => q.1 h)
theorem wj_pu1 {C : Int → Int} {w : Nat} {T : wj_T} (h : T.2.1 (wj_i J w p) ≠ 0) : wj_pu J C p w T = T := if_neg (fun q => h q.2)
theorem wj_pu2 {C : Int → Int} {w : Nat} {T : wj_T} (h : C w ≠ 0) (h2 : T.2.1 (wj_i J w p) = 0) : wj_pu J C p w T = (ds_u1 T.1 T.2.2 (wj_i J w p), ds_u1 T.2.1 (wj_i J w p) 1, T.2.2 + 1) := if_pos ⟨h, h2⟩
/-- cells that hold it -/
def wj_Q (n1 : Int) (cq cm : Int → Int) (T : wj_T) : Prop := (∀ j : Int, 0 ≤ j → j < T.2.2 → cq j = T.1 j ∧ 0 ≤ T.1 j ∧ T.1 j < 13 * n1) ∧ (∀ y : Int, 0 ≤ y → y < 156 → cm y = T.2.1 y) ∧ T.2.2 = dm_cn (fun m => decide (T.2.1 (m : Int) ≠ 0)) 156
theorem wj_QL {cq cm : Int → Int} {T : wj_T} (h : wj_Q n1 cq cm T) : T.2.2 ≤ 156 := by
  rw [h.2.2]
  exact dm_cnB _
theorem wj_Ql {cq cm : Int → Int} {T : wj_T} (h : wj_Q n1 cq cm T) (x0 : 0 ≤ x) (x1 : x < 156) (hx : T.2.1 x = 0) : T.2.2 < 156 := by
  rw [h.2.2]
  refine dm_cnX (m := x.toNat) ?_ 156 (by omega)
  rw [show ((x.toNat : Nat) : Int) = x by omega, hx]
  rfl
theorem wj_Qp {cq cm cq' cm' : Int → Int} {T : wj_T} (h : wj_Q n1 cq cm T) (n12 : n1 ≤ 12) (x0 : 0 ≤ x) (x1 : x < 13 * n1) (hx : T.2.1 x = 0) (e1 : cq' T.2.2 = x) (e2 : ∀ j : Int, j ≠ T.2.2 → cq' j = cq j) (e3 : cm' x = 1) (e4 : ∀ y : Int, y ≠ x → cm' y = cm y) : wj_Q n1 cq' cm' (ds_u1 T.1 T.2.2 x, ds_u1 T.2.1 x 1, T.2.2 + 1) := by
  have us : ∀ (F : Int → Int) (i y : Int), ds_u1 F i y i = y := fun F i y => if_pos rfl
  have ui : ∀ (F : Int → Int) (i y j : Int), j ≠ i → ds_u1 F i y j = F j := fun F i y j hj => if_neg hj
  refine ⟨fun j j0 j1 => ?_, fun y y0 y1 => ?_, ?_⟩
  · have j1 : j < ((T.2.2 + 1 : Nat) : Int) := j1
    show cq' j = ds_u1 T.1 T.2.2 x j ∧ 0 ≤ ds_u1 T.1 T.2.2 x j ∧ ds_u1 T.1 T.2.2 x j < 13 * n1
    by_cases q : j = T.2.2
    · rw [q, us, e1]; exact ⟨rfl, x0, x1⟩
    · rw [ui _ _ _ _ q, e2 j q]
      exact h.1 j j0 (by omega)
  · show cm' y = ds_u1 T.2.1 x 1 y
    by_cases q : y = x
    · rw [q, us, e3]
    · rw [ui _ _ _ _ q, e4 y q]
      exact h.2.1 y y0 y1
  · show T.2.2 + 1 = dm_cn (fun m => decide (ds_u1 T.2.1 x 1 (m : Int) ≠ 0)) 156
    have e := dm_cnA (P := fun m => decide (T.2.1 (m : Int) ≠ 0)) (P' := fun m => decide (ds_u1 T.2.1 x 1 (m : Int) ≠ 0)) (m := x.toNat) (by show decide (T.2.1 ((x.toNat : Nat) : Int) ≠ 0) = false; rw [show ((x.toNat : Nat) : Int) = x by omega, hx]; rfl) (by show decide (ds_u1 T.2.1 x 1 ((x.toNat : Nat) : Int) ≠ 0) = true; rw [show ((x.toNat : Nat) : Int) = x by omega, us]; rfl) (fun y hy => by show decide (ds_u1 T.2.1 x 1 (y : Int) ≠ 0) = decide (T.2.1 (y : Int) ≠ 0); rw [ui _ _ _ _ (by omega)]) 156
    rw [e, if_pos (by omega), ← h.2.2]
theorem wj_Qe {cq cm cq' cm' : Int → Int} {T : wj_T} (h : wj_Q n1 cq cm T) (e1 : cq' = cq) (e2 : cm' = cm) : wj_Q n1 cq' cm' T := by rw [e1, e2]; exact h
/-- ways that aren't there -/
theorem wj_goN {C : Int → Int} {P : Nat → Bool} (hC : ∀ w : Nat, P w = false → C w = 0) (T : wj_T) : ∀ (k w : Nat), (∀ y : Nat, w ≤ y → y < w + k → P y = false) → wj_go J C p k w T = T := by
  intro k
  induction k with
  | zero => intro w _; rfl
  | succ k ih =>
    intro w h
    have h0 := hC w (h w (Nat.le_refl w) (by omega))
    show (if 10 ≤ C w then wj_pu J C p w T else wj_go J C p k (w + 1) (wj_pu J C p w T)) = T
    have e : wj_pu J C p w T = T := wj_pu0 h0
    rw [if_neg (by rw [h0]; decide), e]
    exact ih (w + 1) (fun y y0 y1 => h y (by omega) (by omega))
theorem wj_goS {C : Int → Int} {P : Nat → Bool} (hC : ∀ w : Nat, P w = false → C w = 0) (T : wj_T) (l : Nat) : ∀ (k w : Nat), (∀ y : Nat, w ≤ y → y < w + k → P y = false) → wj_go J C p (k + l) w T = wj_go J C p l (w + k) T := by
  intro k
  induction k with
  | zero => intro w _; rw [Nat.zero_add]; rfl
  | succ k ih =>
    intro w h
    have h0 := hC w (h w (Nat.le_refl w) (by omega))
    rw [show k + 1 + l = (k + l) + 1 by omega]
    show (if 10 ≤ C w then wj_pu J C p w T else wj_go J C p (k + l) (w + 1) (wj_pu J C p w T)) = _
    have e : wj_pu J C p w T = T := wj_pu0 h0
    rw [if_neg (by rw [h0]; decide), e, ih (w + 1) (fun y y0 y1 => h y (by omega) (by omega)), show w + 1 + k = w + (k + 1) by omega]
theorem dm_cnZ {P : Nat → Bool} {x y : Nat} (h : dm_cn P x = dm_cn P y) : ∀ z : Nat, x ≤ z → z < y → P z = false := by
  intro z z0 z1
  cases q : P z with
  | false => rfl
  | true =>
    have m1 := dm_cnW (P := P) z x z0
    have m2 := dm_cnT q
    have m3 := dm_cnW (P := P) y (z + 1) (by omega)
    omega
/-- frames of the class, of the reference -/
def wj_e (s t : lf_Z) : Prop := (∀ c : Nat, c ≠ 63 → c ≠ 64 → c ≠ 65 → c ≠ 66 → c ≠ 69 → c ≠ 70 → c ≠ 71 → t.1 c = s.1 c) ∧ t.2 = s.2
theorem wj_er : wj_e s s := ⟨fun _ _ _ _ _ _ _ _ => rfl, rfl⟩
theorem wj_et (h : wj_e s t) (g : wj_e t u) : wj_e s u := ⟨fun c a b d e i j k => (g.1 c a b d e i j k).trans (h.1 c a b d e i j k), g.2.trans h.2⟩
theorem wj_fe (h : wj_f s t) : wj_e s t := ⟨fun c a b d e i _ _ => h.1 c a b d e i, h.2⟩
theorem wj_Ae (h : wj_A J X f z G v B I s) (e : wj_e s t) (k : wj_K J X f z G v B t.1) : wj_A J X f z G v B I t := by
  obtain ⟨hJ, hS, ⟨hX1, hX2⟩, _⟩ := h
  refine ⟨fun c hc => (e.1 c (by omega) (by omega) (by omega) (by omega) (by omega) (by omega) (by omega)).trans (hJ c hc), ?_, ⟨?_, fun c c0 c1 => (e.1 c (by omega) (by omega) (by omega) (by omega) (by omega) (by omega) (by omega)).trans (hX2 c c0 c1)⟩, k⟩
  · unfold rc_S at hS ⊢
    rw [e.1 16 (by decide) (by decide) (by decide) (by decide) (by decide) (by decide) (by decide), e.1 17 (by decide) (by decide) (by decide) (by decide) (by decide) (by decide) (by decide), e.1 18 (by decide) (by decide) (by decide) (by decide) (by decide) (by decide) (by decide), e.1 19 (by decide) (by decide) (by decide) (by decide) (by decide) (by decide) (by decide), e.1 20 (by decide) (by decide) (by decide) (by decide) (by decide) (by decide) (by decide), e.1 21 (by decide) (by decide) (by decide) (by decide) (by decide) (by decide) (by decide), e.1 15 (by decide) (by decide) (by decide) (by decide) (by decide) (by decide) (by decide)]
    exact hS
  · rw [e.2]; exact hX1
/-- the loop over the ways of a stretch -/
def wj_n9 (J : Nat → Int → Int) (X : mn_X) (f : Int → Int) (z G v B : Int) (I : Nat → Int → Int) (s : lf_Z) (p c : Int) (T : wj_T) (x4 x5 : Int) (t : lf_Z) : Prop := wj_e s t ∧ wj_A J X f z G v B I t ∧ ∃ (w : Nat) (T' : wj_T), w ≤ (J 1 1).toNat ∧ x5 = (dm_cn (mn_at J p) w : Nat) ∧ x4 = T'.2.2 ∧ wj_Q (J 1 0) (t.1 70) (t.1 71) T' ∧ wj_go J (fun w => wj_ch J X f z G v B w p c) p (J 1 1).toNat 0 T = wj_go J (fun w => wj_ch J X f z G v B w p c) p ((J 1 1).toNat - w) w T'
theorem fl_129 {Q : Int → lf_Z → Prop} {T : wj_T} (hF : wj_F J X z v) (hA : wj_A J X f z G v B I s) (hp : a.tdiv 13 = p) (hc : a.tmod 13 - 1 = c) (p0 : 0 ≤ p ∧ p < J 1 0) (hb : b = T.2.2) (hQ : wj_Q (J 1 0) (s.1 70) (s.1 71) T)
    (k : ∀ (T' : wj_T) (t : lf_Z), T' = wj_go J (fun w => wj_ch J X f z G v B w p c) p (J 1 1).toNat 0 T → wj_e s t → wj_A J X f z G v B I t → wj_Q (J 1 0) (t.1 70) (t.1 71) T' → Q T'.2.2 t) : fw_129 a b Q s := by
  have hW := hF.1
  have n0 := hW.1
  have n1 := hW.2.1
  have hC : ∀ w : Nat, mn_at J p w = false → wj_ch J X f z G v B w p c = 0 := fun w hw => if_pos (Or.inl (by rw [Int.toNat_natCast]; exact hw))
  unfold fw_129
  intro _
  rw [hp]
  refine ⟨wj_n9 J X f z G v B I s p c T, ?_, ⟨wj_er, hA, 0, T, Nat.zero_le _, rfl, hb, hQ, rfl⟩⟩
  intro x4 x5 t ⟨te, tA, w, T', wW, ex5, ex4, tQ, eg⟩
  have e1 : t.1 1 = J 1 := tA.1 1 (by omega)
  have e11 : t.1 11 = J 11 := tA.1 11 (by omega)
  have e12 : t.1 12 = J 12 := tA.1 12 (by omega)
  obtain ⟨m1, m2, m3⟩ := hW.2.2.2.2.1 p p0.1 (by omega)
  have mono := dm_cnW (P := mn_at J p) (J 1 1).toNat w wW
  unfold fw_129_p11
  refine fl_76 ?_
  rw [e1, if_pos p0, e12]
  intro _ _
  refine ⟨fun y => ?_, fun y => ?_⟩
  · have e2 : dm_cn (mn_at J p) w = dm_cn (mn_at J p) (J 1 1).toNat := by omega
    have e3 := wj_goN (J := J) (C := fun w => wj_ch J X f z G v B w p c) (P := mn_at J p) (p := p) hC T' ((J 1 1).toNat - w) w (fun y y0 y1 => dm_cnZ e2 y y0 (by omega))
    rw [ex4]
    exact k T' t (eg.trans e3).symm te tA tQ
  · obtain ⟨w2, g1, g2, g3⟩ := dm_cnS (P := mn_at J p) (J 1 1).toNat (dm_cn (mn_at J p) w) (by omega)
    have gw := m3 w2 (by omega) g2
    rw [g3] at gw
    have wle : w ≤ w2 := by
      by_cases q : w ≤ w2
      · exact q
      · have q1 := dm_cnT g2
        have q2 := dm_cnW (P := mn_at J p) w (w2 + 1) (by omega)
        omega
    have skip := wj_goS (J := J) (C := fun w => wj_ch J X f z G v B w p c) (P := mn_at J p) (p := p) hC T' ((J 1 1).toNat - w2) (w2 - w) w (fun y y0 y1 => dm_cnZ g3.symm y y0 (by omega))
    rw [show w2 - w + ((J 1 1).toNat - w2) = (J 1 1).toNat - w by omega, show w + (w2 - w) = w2 by omega, show (J 1 1).toNat - w2 = ((J 1 1).toNat - (w2 + 1)) + 1 by omega] at skip
    have un : wj_go J (fun w => wj_ch J X f z G v B w p c) p (((J 1 1).toNat - (w2 + 1)) + 1) w2 T' = if 10 ≤ wj_ch J X f z G v B w2 p c then wj_pu J (fun w => wj_ch J X f z G v B w p c) p w2 T' else wj_go J (fun w => wj_ch J X f z G v B w p c) p ((J 1 1).toNat - (w2 + 1)) (w2 + 1) (wj_pu J (fun w => wj_ch J X f z G v B w p c) p w2 T') := rfl
    have eg2 := eg.trans (skip.trans un)
    have ac := mn_acB hW (show (w2 : Int) < J 1 1 by omega) g2
    have cB : 0 ≤ wj_ch J X f z G v B w2 p c ∧ wj_ch J X f z G v B w2 p c ≤ 10 := wj_chB hF.2.2.2.1
    refine fl_77 (by rw [e1]; exact p0) (by omega) (by rw [e12]; omega) ?_
    rw [e11, ex5, gw]
    intro _
    rw [hc]
    refine fl_123 hF tA p0 (by omega) (by omega) (fun r rf rK => fl_78 ?_)
    have rA := wj_Ae tA (wj_fe rf) rK
    have r1 : r.1 1 = J 1 := rA.1 1 (by omega)
    have r70 : r.1 70 = t.1 70 := rf.1 70 (by decide) (by decide) (by decide) (by decide) (by decide)
    have r71 : r.1 71 = t.1 71 := rf.1 71 (by decide) (by decide) (by decide) (by decide) (by decide)
    have rQ : wj_Q (J 1 0) (r.1 70) (r.1 71) T' := wj_Qe tQ r70 r71
    rw [r1, if_pos ⟨by omega, by omega⟩, mn_acJ rA.1]
    have ei : mn_ac J (w2 : Int) p * 13 + p + 1 = wj_i J w2 p := rfl
    have iB : 0 ≤ wj_i J w2 p ∧ wj_i J w2 p < 13 * J 1 0 := by rw [← ei]; omega
    have fin : ∀ (u : lf_Z) (T2 : wj_T), wj_e t u → wj_A J X f z G v B I u → wj_Q (J 1 0) (u.1 70) (u.1 71) T2 → T2 = wj_pu J (fun w => wj_ch J X f z G v B w p c) p w2 T' → fw_129_p113 (wj_n9 J X f z G v B I s p c T) Q a p T2.2.2 (dm_cn (mn_at J p) w : Nat) (wj_ch J X f z G v B w2 p c) u := fun u T2 ue uA uQ e2 => by
      unfold fw_129_p113
      intro _
      refine ⟨fun y2 => ⟨wj_et te ue, uA, w2 + 1, T2, by omega, ?_, rfl, uQ, ?_⟩, fun y2 => ?_⟩
      · have q1 := dm_cnT g2
        omega
      · rw [eg2, if_neg (by omega), e2]
      · refine k T2 u ?_ (wj_et te ue) uA uQ
        rw [eg2, if_pos (by omega), e2]
    intro _
    rw [ei, ex4]
    refine ⟨fun y2 => fin r T' (wj_fe rf) rA rQ ?_, fun y2 _ _ => ⟨fun y3 => fin r T' (wj_fe rf) rA rQ ?_, fun y3 _ => ⟨fun y4 => ?_, fun y4 _ => ?_⟩⟩⟩
    · exact (wj_pu0 (C := fun w => wj_ch J X f z G v B w p c) (show wj_ch J X f z G v B w2 p c = 0 by omega)).symm
    · rw [r71, tQ.2.1 _ iB.1 (by omega)] at y3
      exact (wj_pu1 (C := fun w => wj_ch J X f z G v B w p c) y3).symm
    · rw [r71, tQ.2.1 _ iB.1 (by omega)] at y3
      have := wj_Ql tQ iB.1 (by omega) (Classical.not_not.mp y3)
      omega
    · rw [r71, tQ.2.1 _ iB.1 (by omega)] at y3
      have ne : wj_ch J X f z G v B w2 p c ≠ 0 := by omega
      have ep : (ds_u1 T'.1 T'.2.2 (wj_i J w2 p), ds_u1 T'.2.1 (wj_i J w2 p) 1, T'.2.2 + 1) = wj_pu J (fun w => wj_ch J X f z G v B w p c) p w2 T' := (wj_pu2 (C := fun w => wj_ch J X f z G v B w p c) ne (Classical.not_not.mp y3)).symm
      obtain ⟨u, hu⟩ : ∃ u : lf_Z, u = (lf_up (lf_up r.1 71 (wj_i J w2 p) 1) 70 T'.2.2 (wj_i J w2 p), r.2.1, r.2.2) := ⟨_, rfl⟩
      rw [← hu]
      have ue : wj_e t u := wj_et (wj_fe rf) (by rw [hu]; exact ⟨fun c _ _ _ _ _ c1 c2 => (zu_r c1).trans (lf_up_row c2), rfl⟩)
      have uK : wj_K J X f z G v B u.1 := by
        have q := rA.2.2.2
        unfold wj_K wj_C at q ⊢
        rw [hu, zu_r (by decide), lf_up_row (by decide), zu_r (by decide), lf_up_row (by decide)]
        exact q
      refine fin u (ds_u1 T'.1 T'.2.2 (wj_i J w2 p), ds_u1 T'.2.1 (wj_i J w2 p) 1, T'.2.2 + 1) ue (wj_Ae tA ue uK) ?_ ep
      refine wj_Qp rQ n0.2 iB.1 iB.2 (Classical.not_not.mp y3) ?_ (fun j hj => ?_) ?_ (fun y hy => ?_)
      · rw [hu]; exact zu_s
      · rw [hu]; exact (zu_i hj).trans (lf_up_c (by decide))
      · rw [hu]; exact (zu_c (by decide)).trans lf_up_s
      · rw [hu]; exact (zu_c (by decide)).trans (lf_up_i hy)
end WJ
/-! sets by how many are in them, ascending -/
section WS
variable {s t u : lf_Z} {J : Nat → Int → Int} {ok : Int → Bool} {all x j y : Int} {c n : Nat} {P : Nat → Bool}
def ws_L : Nat → Nat → List Nat
  | 0, c => if c = 0 then [0] else []
  | n + 1, 0 => ws_L n 0
  | n + 1, c + 1 => ws_L n (c + 1) ++ (ws_L n c).map (fun y => 2 ^ n + y)
theorem ws_I : ∀ (n c y : Nat), y < 2 ^ n → dm_cn (fun w => y.testBit w) n = c → y ∈ ws_L n c := by
  intro n
  induction n with
  | zero =>
    intro c y h e
    have hy : y = 0 := Nat.lt_one_iff.mp h
    have hc : c = 0 := e.symm
    rw [hy, hc]
    exact List.mem_singleton.mpr rfl
  | succ n ih =>
    intro c y h e
    have e : dm_cn (fun w => y.testBit w) n + (if y.testBit n = true then 1 else 0) = c := e
    by_cases q : y < 2 ^ n
    · have tb : y.testBit n = false := Nat.testBit_lt_two_pow q
      rw [tb, if_neg (by decide)] at e
      have m := ih c y q (by omega)
      cases c with
      | zero => exact m
      | succ c => exact List.mem_append.mpr (Or.inl m)
    · obtain ⟨z, hz⟩ : ∃ z, y = 2 ^ n + z := ⟨y - 2 ^ n, by omega⟩
      have zl : z < 2 ^ n := by rw [Nat.pow_succ] at h; omega
      have tb : y.testBit n = true := by rw [hz, Nat.testBit_two_pow_add_eq, Nat.testBit_lt_two_pow zl]; rfl
      rw [tb, if_pos rfl] at e
      have ce : dm_cn (fun w => y.testBit w) n = dm_cn (fun w => z.testBit w) n := dm_cnK (fun w hw => by show y.testBit w = z.testBit w; rw [hz, Nat.testBit_two_pow_add_gt hw])
      cases c with
      | zero => omega
      | succ c => exact List.mem_append.mpr (Or.inr (List.mem_map.mpr ⟨z, ih c z zl (by omega), hz.symm⟩))
/-- how many are in a set -/
def ws_b (x : Int) : Nat := dm_cn (fun w => bt_t x w) 16
theorem ws_tb {y w : Nat} (h : w < 32) : bt_t (y : Int) (w : Int) = y.testBit w := by
  show (BitVec.ofInt 32 (y : Int)).getLsbD w = y.testBit w
  rw [BitVec.ofInt_natCast, BitVec.getLsbD_ofNat, decide_eq_true h, Bool.true_and]
theorem ws_bN (y : Nat) : ws_b (y : Int) = dm_cn (fun w => y.testBit w) 16 := dm_cnK (fun w hw => ws_tb (by omega))
/-- the next of its number -/
def ws_n (x : Int) : Int := if lf_and x (lf_w (-x)) ≠ 0 then lf_or (lf_w (x + lf_and x (lf_w (-x)))) (lf_ushr (lf_w ((lf_xor x (lf_w (x + lf_and x (lf_w (-x))))).tdiv (lf_and x (lf_w (-x))))) 2) else 65536
theorem fl_133 {Q : Int → lf_Z → Prop} (h : Q (ws_n x) s) : fw_133 x Q s := by
  unfold fw_133
  refine ⟨fun q _ => ?_, fun q => ?_⟩
  · unfold ws_n at h
    rw [if_pos q] at h; exact h
  · unfold ws_n at h
    rw [if_neg q] at h; exact h
def ws_k : List Nat → Bool
  | [] => true
  | [a] => decide (65536 ≤ ws_n (a : Int))
  | a :: b :: l => (decide (ws_n (a : Int) = (b : Int)) && decide (a < b)) && ws_k (b :: l)
theorem ws_k0 : ws_k (ws_L 16 0) = true := by decide +kernel
theorem ws_k1 : ws_k (ws_L 16 1) = true := by decide +kernel
theorem ws_k2 : ws_k (ws_L 16 2) = true := by decide +kernel
theorem ws_k3 : ws_k (ws_L 16 3) = true := by decide +kernel
def ws_all (c : Nat) (l : List Nat) : Bool := l.all (fun y => Nat.blt y 65536 && Nat.beq (ws_b (y : Int)) c) && Nat.ble l.length 560
theorem ws_a0 : ws_all 0 (ws_L 16 0) = true := by decide +kernel
theorem ws_a1 : ws_all 1 (ws_L 16 1) = true := by decide +kernel
theorem ws_a2 : ws_all 2 (ws_L 16 2) = true := by decide +kernel
theorem ws_a3 : ws_all 3 (ws_L 16 3) = true := by decide +kernel
theorem ws_c4 (h : c ≤ 3) : c = 0 ∨ c = 1 ∨ c = 2 ∨ c = 3 := by omega
theorem ws_kc (h : c ≤ 3) : ws_k (ws_L 16 c) = true := by
  rcases ws_c4 h with e | e | e | e <;> subst e
  · exact ws_k0
  · exact ws_k1
  · exact ws_k2
  · exact ws_k3
theorem ws_ac (h : c ≤ 3) : (∀ y : Nat, y ∈ ws_L 16 c → y < 65536 ∧ ws_b (y : Int) = c) ∧ (ws_L 16 c).length ≤ 560 := by
  have a : ws_all c (ws_L 16 c) = true := by
    rcases ws_c4 h with e | e | e | e <;> subst e
    · exact ws_a0
    · exact ws_a1
    · exact ws_a2
    · exact ws_a3
  unfold ws_all at a
  rw [Bool.and_eq_true] at a
  refine ⟨fun y hy => ?_, Nat.le_of_ble_eq_true a.2⟩
  have q := List.all_eq_true.mp a.1 y hy
  rw [Bool.and_eq_true] at q
  exact ⟨Nat.le_of_ble_eq_true q.1, Nat.eq_of_beq_eq_true q.2⟩
theorem ws_hd (h : c ≤ 3) : ∃ l, ws_L 16 c = (2 ^ c - 1) :: l := by
  have a : (ws_L 16 c).head? = some (2 ^ c - 1) := by
    rcases ws_c4 h with e | e | e | e <;> subst e <;> decide +kernel
  cases q : ws_L 16 c with
  | nil => rw [q] at a; cases a
  | cons d l =>
    rw [q] at a
    have e : d = 2 ^ c - 1 := Option.some.inj a
    exact ⟨l, by rw [e]⟩
theorem ws_h1 (h : c ≤ 3) : lf_shl 1 (c : Int) - 1 = ((2 ^ c - 1 : Nat) : Int) := by
  rcases ws_c4 h with e | e | e | e <;> subst e <;> decide +kernel
theorem ws_kS : ∀ (D R : List Nat), ws_k (D ++ R) = true → ws_k R = true := by
  intro D
  induction D with
  | nil => intro R h; exact h
  | cons d D ih =>
    intro R h
    refine ih R ?_
    cases q : D ++ R with
    | nil => rfl
    | cons e l =>
      have h : ws_k (d :: (D ++ R)) = true := h
      rw [q] at h
      have h : ((decide (ws_n (d : Int) = (e : Int)) && decide (d < e)) && ws_k (e :: l)) = true := h
      rw [Bool.and_eq_true] at h
      exact h.2
theorem ws_kM : ∀ (l : List Nat) (a : Nat), ws_k (a :: l) = true → ∀ y ∈ l, a < y := by
  intro l
  induction l with
  | nil => intro a _ y hy; cases hy
  | cons b l ih =>
    intro a h y hy
    have h : ((decide (ws_n (a : Int) = (b : Int)) && decide (a < b)) && ws_k (b :: l)) = true := h
    rw [Bool.and_eq_true, Bool.and_eq_true] at h
    have ab := of_decide_eq_true h.1.2
    rcases List.mem_cons.mp hy with e | e
    · rw [e]; exact ab
    · exact Nat.lt_trans ab (ih b h.2 y e)
/-- the search among the sets of a number: j looked at, now at x -/
def ws_c (ok : Int → Bool) (all : Int) (c : Nat) (x j : Int) : Prop := ∃ D R : List Nat, ws_L 16 c = D ++ R ∧ (∀ y ∈ D, ok (y : Int) = false) ∧ j = D.length ∧ ((R = [] ∧ all ≤ x) ∨ ∃ (a : Nat) (R' : List Nat), R = a :: R' ∧ x = a)
def ws_P (ok : Int → Bool) (c : Nat) (z : Int) : Bool := decide (ws_b z = c) && ok z
theorem ws_s0 (h : c ≤ 3) : ws_c ok all c (lf_shl 1 (c : Int) - 1) 0 := by
  obtain ⟨l, hl⟩ := ws_hd h
  exact ⟨[], ws_L 16 c, rfl, (fun y hy => by cases hy), rfl, Or.inr ⟨2 ^ c - 1, l, hl, ws_h1 h⟩⟩
theorem ws_sB (h : c ≤ 3) (k : ws_c ok all c x j) : j ≤ 560 := by
  obtain ⟨D, R, h1, _, h3, _⟩ := k
  have e := (ws_ac h).2
  rw [h1, List.length_append] at e
  omega
theorem ws_sN (h : c ≤ 3) (k : ws_c ok all c x j) (hx : x < all) (ho : ok x = false) (ha : all ≤ 65536) : ws_c ok all c (if (c : Int) ≠ 0 then ws_n x else all) (j + 1) := by
  obtain ⟨D, R, h1, h2, h3, h4⟩ := k
  rcases h4 with ⟨_, q⟩ | ⟨a, R', eR, ex⟩
  · omega
  · rw [eR] at h1
    have kk := ws_kS D (a :: R') (by rw [← h1]; exact ws_kc h)
    have la := (ws_ac h).2
    refine ⟨D ++ [a], R', h1.trans (by simp), fun y hy => ?_, ?_, ?_⟩
    · rcases List.mem_append.mp hy with m | m
      · exact h2 y m
      · rw [List.mem_singleton.mp m, ← ex]; exact ho
    · rw [List.length_append, h3]
      show (D.length : Int) + 1 = ((D.length + 1 : Nat) : Int)
      omega
    · cases R' with
      | nil =>
        refine Or.inl ⟨rfl, ?_⟩
        have kk := of_decide_eq_true (show decide (65536 ≤ ws_n (a : Int)) = true from kk)
        rw [ex]
        split <;> omega
      | cons b l =>
        refine Or.inr ⟨b, l, rfl, ?_⟩
        by_cases c0 : (c : Int) = 0
        · have c0 : c = 0 := by omega
          subst c0
          have e := congrArg List.length h1
          rw [List.length_append, List.length_cons, List.length_cons, show (ws_L 16 0).length = 1 by decide +kernel] at e
          omega
        · rw [if_pos c0, ex]
          have kk : ((decide (ws_n (a : Int) = (b : Int)) && decide (a < b)) && ws_k (b :: l)) = true := kk
          rw [Bool.and_eq_true, Bool.and_eq_true] at kk
          exact of_decide_eq_true kk.1.1
/-- all that are of the number and do lie ahead -/
theorem ws_P2 (h : c ≤ 3) {D R : List Nat} {z : Int} (h1 : ws_L 16 c = D ++ R) (h2 : ∀ y ∈ D, ok (y : Int) = false) (hz : ws_P ok c z = true) (z0 : 0 ≤ z) : 65536 ≤ z ∨ ∃ y : Nat, z = y ∧ y ∈ R := by
  by_cases q : 65536 ≤ z
  · exact Or.inl q
  · right
    obtain ⟨y, hy⟩ := Int.eq_ofNat_of_zero_le z0
    subst hy
    unfold ws_P at hz
    rw [Bool.and_eq_true] at hz
    have b := of_decide_eq_true hz.1
    rw [ws_bN] at b
    have m := ws_I 16 c y (show y < 65536 by omega) b
    rw [h1] at m
    rcases List.mem_append.mp m with m | m
    · rw [h2 y m] at hz; exact absurd hz.2 (by decide)
    · exact ⟨y, rfl, m⟩
theorem ws_sY (h : c ≤ 3) (k : ws_c ok all c x j) (hx : x < all) (ho : ok x = true) (ha : all ≤ 65536) : mn_le (ws_P ok c) all.toNat 0 = x ∧ 0 ≤ x := by
  obtain ⟨D, R, h1, h2, h3, h4⟩ := k
  rcases h4 with ⟨_, q⟩ | ⟨a, R', eR, ex⟩
  · omega
  · rw [eR] at h1
    have kk := ws_kS D (a :: R') (by rw [← h1]; exact ws_kc h)
    have kM := ws_kM R' a kk
    have ma : a ∈ ws_L 16 c := by rw [h1]; exact List.mem_append.mpr (Or.inr (List.mem_cons.mpr (Or.inl rfl)))
    refine ⟨mn_leS all.toNat 0 x ?_ (by omega) (by omega) (fun z hz z0 => ?_), by omega⟩
    · unfold ws_P
      rw [ho, Bool.and_true, ex]
      exact decide_eq_true ((ws_ac h).1 a ma).2
    · rcases ws_P2 h h1 h2 hz z0 with q | ⟨y, ey, my⟩
      · omega
      · rcases List.mem_cons.mp my with m | m
        · omega
        · have := kM y m
          omega
theorem ws_sE (h : c ≤ 3) (k : ws_c ok all c x j) (hx : all ≤ x) (ha : all ≤ 65536) : mn_le (ws_P ok c) all.toNat 0 = -1 := by
  obtain ⟨D, R, h1, h2, h3, h4⟩ := k
  refine mn_leN all.toNat 0 (fun z z0 z1 => ?_)
  cases hz : ws_P ok c z with
  | false => rfl
  | true =>
    rcases h4 with ⟨eR, _⟩ | ⟨a, R', eR, ex⟩
    · rw [eR] at h1
      rcases ws_P2 h h1 h2 hz z0 with q | ⟨y, _, my⟩
      · omega
      · cases my
    · rw [eR] at h1
      have kM := ws_kM R' a (ws_kS D (a :: R') (by rw [← h1]; exact ws_kc h))
      rcases ws_P2 h h1 h2 hz z0 with q | ⟨y, ey, my⟩
      · omega
      · rcases List.mem_cons.mp my with m | m
        · omega
        · have := kM y m
          omega
/-- the answer: fewest first, then the lowest -/
def ws_a (ok : Int → Bool) (all : Int) : Nat → Nat → Int
  | 0, _ => -1
  | k + 1, c => if 0 ≤ mn_le (ws_P ok c) all.toNat 0 then mn_le (ws_P ok c) all.toNat 0 else ws_a ok all k (c + 1)
theorem ws_aE (h : c ≤ 3) : ws_a ok all (4 - c) c = if 0 ≤ mn_le (ws_P ok c) all.toNat 0 then mn_le (ws_P ok c) all.toNat 0 else ws_a ok all (4 - (c + 1)) (c + 1) := by
  rw [show 4 - c = (4 - (c + 1)) + 1 by omega]
  rfl
theorem ws_al : ∀ n : Nat, n ≤ 16 → 1 ≤ lf_shl 1 (n : Int) ∧ lf_shl 1 (n : Int) ≤ 65536 := by decide +kernel
theorem ws_alI {a : Int} (h0 : 0 ≤ a) (h1 : a ≤ 16) : 1 ≤ lf_shl 1 a ∧ lf_shl 1 a ≤ 65536 := by
  obtain ⟨n, rfl⟩ := Int.eq_ofNat_of_zero_le h0
  exact ws_al n (by omega)
/-! bits that say which of them do -/
def wj_m (P : Nat → Bool) (n : Nat) (y : Int) : Prop := (-2147483648 ≤ y ∧ y ≤ 2147483647) ∧ ∀ j : Nat, j < 32 → bt_g y j = (decide (j < n) && P j)
theorem wj_m0 : wj_m P 0 0 := ⟨by decide, fun j _ => by rw [bt_0]; rfl⟩
theorem wj_mT (h : wj_m P n y) (hn : n < 31) (hP : P n = true) : wj_m P (n + 1) (lf_or y (lf_shl 1 (n : Int))) := by
  refine ⟨lf_orB, fun j hj => ?_⟩
  rw [bt_or, h.2 j hj, bt_s1 n hn j hj]
  by_cases e : j = n
  · rw [e, hP, decide_eq_true (show n = n from rfl), decide_eq_true (show n < n + 1 by omega), Bool.or_true]; rfl
  · rw [decide_eq_false e, Bool.or_false]
    by_cases q : j < n
    · rw [decide_eq_true q, decide_eq_true (show j < n + 1 by omega)]
    · rw [decide_eq_false q, decide_eq_false (show ¬ j < n + 1 by omega)]
theorem wj_mF (h : wj_m P n y) (hP : P n = false) : wj_m P (n + 1) y := by
  refine ⟨h.1, fun j hj => ?_⟩
  rw [h.2 j hj]
  by_cases e : j = n
  · rw [e, hP, Bool.and_false, Bool.and_false]
  · by_cases q : j < n
    · rw [decide_eq_true q, decide_eq_true (show j < n + 1 by omega)]
    · rw [decide_eq_false q, decide_eq_false (show ¬ j < n + 1 by omega)]
theorem wj_mF0 (h : wj_m P n y) (hP : P n = false) : wj_m P (n + 1) (lf_or y 0) := by
  refine ⟨lf_orB, fun j hj => ?_⟩
  rw [bt_or, bt_0, Bool.or_false]
  exact (wj_mF h hP).2 j hj
theorem wj_mU {y' : Int} (h : wj_m P n y) (h' : wj_m P n y') : y = y' := by
  have e : (Int32.ofInt y).toBitVec = (Int32.ofInt y').toBitVec := by
    apply BitVec.eq_of_getLsbD_eq
    intro i hi
    have q := (h.2 i hi).trans (h'.2 i hi).symm
    exact q
  have e1 : (Int32.ofInt y).toInt = y := Int32.toInt_ofInt_of_le h.1.1 (Int.lt_add_one_of_le h.1.2)
  have e2 : (Int32.ofInt y').toInt = y' := Int32.toInt_ofInt_of_le h'.1.1 (Int.lt_add_one_of_le h'.1.2)
  rw [← e1, ← e2]
  show (Int32.ofInt y).toBitVec.toInt = (Int32.ofInt y').toBitVec.toInt
  rw [e]
theorem dm_cnI : dm_cn P n = 0 ↔ ∀ j : Nat, j < n → P j = false := by
  constructor
  · intro h j hj
    exact dm_cnZ (P := P) (x := 0) (y := n) h.symm j (Nat.zero_le j) hj
  · intro h
    have e := dm_cnK (P := P) (P' := fun _ => false) (n := n) (fun w hw => h w hw)
    rw [e, dm_cn0]
theorem wj_mZ (h : wj_m P n y) (hn : n ≤ 32) : y = 0 ↔ dm_cn P n = 0 := by
  constructor
  · intro e
    refine dm_cnI.mpr (fun j hj => ?_)
    have q := h.2 j (by omega)
    rw [e, bt_0, decide_eq_true hj, Bool.true_and] at q
    exact q.symm
  · intro e
    have z := dm_cnI.mp e
    refine wj_mU (P := P) (n := n) h ⟨by decide, fun j hj => ?_⟩
    rw [bt_0]
    by_cases q : j < n
    · rw [z j q, Bool.and_false]
    · rw [decide_eq_false q]; rfl
theorem wj_mA {m : Int} (h : wj_m P n y) : wj_m (fun k => bt_t m (k : Int) && P k) n (lf_and m y) := by
  refine ⟨lf_R_i _, fun j hj => ?_⟩
  rw [bt_and, h.2 j hj]
  show (bt_g m j && (decide (j < n) && P j)) = (decide (j < n) && (bt_t m (j : Int) && P j))
  have e : bt_t m (j : Int) = bt_g m j := rfl
  rw [e]
  cases bt_g m j <;> cases decide (j < n) <;> rfl
theorem wj_mO {P' : Nat → Bool} {y' : Int} (h : wj_m P n y) (h' : wj_m P' n y') : wj_m (fun k => P k || P' k) n (lf_or y y') := by
  refine ⟨lf_orB, fun j hj => ?_⟩
  rw [bt_or, h.2 j hj, h'.2 j hj]
  show _ = (decide (j < n) && (P j || P' j))
  cases P j <;> cases P' j <;> cases decide (j < n) <;> rfl
/-- stretches of a kind -/
def wq_k (J : Nat → Int → Int) (kd : Int) (k : Nat) : Bool := decide (J 2 (k : Int) = kd)
def wq_h (J : Nat → Int → Int) (kd m : Int) : Bool := decide (dm_cn (fun k => bt_t m (k : Int) && wq_k J kd k) (J 1 0).toNat ≠ 0)
theorem fl_132 {kd : Int} {Q : Int → lf_Z → Prop} (hJ : gc_J J s) (hn : 0 ≤ J 1 0 ∧ J 1 0 ≤ 12) (k : ∀ y : Int, wj_m (wq_k J kd) (J 1 0).toNat y → Q y s) : fw_132 kd Q s := by
  have e1 : s.1 1 = J 1 := hJ 1 (by omega)
  have e2 : s.1 2 = J 2 := hJ 2 (by omega)
  unfold fw_132
  refine ⟨fun y i t => t = s ∧ ∃ m : Nat, i = m ∧ m ≤ (J 1 0).toNat ∧ wj_m (wq_k J kd) m y, ?_, ⟨rfl, 0, rfl, Nat.zero_le _, wj_m0⟩⟩
  intro y i t ⟨et, m, ei, m1, hm⟩
  rw [et]
  unfold fw_132_p4
  rw [e1, e2, ei]
  intro _ _
  refine ⟨fun q => ?_, fun q _ _ _ => ⟨fun q2 => ?_, fun q2 => ?_⟩⟩
  · have e : m = (J 1 0).toNat := by omega
    rw [e] at hm
    exact k y hm
  · unfold fw_132_p28
    exact ⟨rfl, m + 1, by omega, by omega, wj_mF hm (decide_eq_false q2)⟩
  · unfold fw_132_p28
    exact ⟨rfl, m + 1, by omega, by omega, wj_mT hm (by omega) (decide_eq_true (Classical.not_not.mp q2))⟩
theorem fl_296 {m kd : Int} {Q : Int → lf_Z → Prop} (hL : rr_L J (s.1 96)) (hn : 0 ≤ J 1 0 ∧ J 1 0 ≤ 12) (k : ∀ y : Int, wj_m (fun k => bt_t m (k : Int) && wq_k J kd k) (J 1 0).toNat y → Q y s) : fw_296 m kd Q s := by
  unfold fw_296
  refine ⟨fun y i t => t = s ∧ ∃ l : Nat, i = l ∧ l ≤ (J 1 0).toNat ∧ wj_m (fun k => bt_t m (k : Int) && wq_k J kd k) l y, ?_, ⟨rfl, 0, rfl, Nat.zero_le _, wj_m0⟩⟩
  intro y i t ⟨et, l, ei, l1, hl⟩
  rw [et]
  unfold fw_296_p5
  rw [hL.1, ei]
  intro _ _
  have no : (bt_t m (l : Int) && wq_k J kd l) = false → (l : Int) < J 1 0 → fw_296_p43 (fun y i t => t = s ∧ ∃ l : Nat, i = l ∧ l ≤ (J 1 0).toNat ∧ wj_m (fun k => bt_t m (k : Int) && wq_k J kd k) l y) Q m kd l y s := fun e le => by
    unfold fw_296_p43 fw_296_p44
    exact ⟨rfl, l + 1, by omega, by omega, wj_mF0 hl e⟩
  refine ⟨fun q => ?_, fun q => fl_210 (by omega) (by omega) ⟨fun z => no (by rw [z]; rfl) (by omega), fun z => fl_265 hL (by omega) (by omega) ?_⟩⟩
  · have e : l = (J 1 0).toNat := by omega
    rw [e] at hl
    exact k y hl
  · intro _ _
    refine ⟨fun q2 => no (by rw [show wq_k J kd l = false from decide_eq_false q2, Bool.and_false]) (by omega), fun q2 => ?_⟩
    unfold fw_296_p44
    refine ⟨rfl, l + 1, by omega, by omega, wj_mT hl (by omega) ?_⟩
    show (bt_t m (l : Int) && wq_k J kd l) = true
    rw [z, show wq_k J kd l = true from decide_eq_true (Classical.not_not.mp q2)]; rfl
end WS
/-! all rows of numbers below some, in their order -/
section EN
variable {S W : Type} {b : Nat}
/-- for a, a + 1 .. k times -/
def en_u (g : Nat → S → S) : Nat → Nat → S → S
  | 0, _, st => st
  | k + 1, a, st => en_u g k (a + 1) (g a st)
/-- all rows of a length; those from a row on -/
def en_A (b : Nat) : Nat → (List Nat → S → S) → S → S
  | 0, f, st => f [] st
  | n + 1, f, st => en_u (fun e => en_A b n (fun r => f (e :: r))) b 0 st
def en_F (b : Nat) : List Nat → (List Nat → S → S) → S → S
  | [], f, st => f [] st
  | d :: r, f, st => en_u (fun e => en_A b r.length (fun r => f (e :: r))) (b - (d + 1)) (d + 1) (en_F b r (fun r => f (d :: r)) st)
/-- the next row -/
def en_n (b : Nat) : List Nat → Option (List Nat)
  | [] => none
  | d :: r => match en_n b r with
    | some r' => some (d :: r')
    | none => if d + 1 < b then some ((d + 1) :: List.replicate r.length 0) else none
theorem en_nL : ∀ (r r' : List Nat), en_n b r = some r' → r'.length = r.length := by
  intro r
  induction r with
  | nil => intro r' h; cases h
  | cons d r ih =>
    intro r' h
    have h : (match en_n b r with | some r' => some (d :: r') | none => if d + 1 < b then some ((d + 1) :: List.replicate r.length 0) else none) = some r' := h
    cases q : en_n b r with
    | some x =>
      rw [q] at h
      have h : some (d :: x) = some r' := h
      have e := Option.some.inj h
      rw [← e, List.length_cons, List.length_cons, ih x q]
    | none =>
      rw [q] at h
      have h : (if d + 1 < b then some ((d + 1) :: List.replicate r.length 0) else none) = some r' := h
      by_cases c : d + 1 < b
      · rw [if_pos c] at h
        have e := Option.some.inj h
        rw [← e, List.length_cons, List.length_cons, List.length_replicate]
      · rw [if_neg c] at h; cases h
theorem en_FA (h : 0 < b) : ∀ (n : Nat) (f : List Nat → S → S) (st : S), en_F b (List.replicate n 0) f st = en_A b n f st := by
  intro n
  induction n with
  | zero => intro f st; rfl
  | succ n ih =>
    intro f st
    rw [List.replicate_succ]
    show en_u (fun e => en_A b (List.replicate n 0).length (fun r => f (e :: r))) (b - (0 + 1)) (0 + 1) (en_F b (List.replicate n 0) (fun r => f (0 :: r)) st) = en_u (fun e => en_A b n (fun r => f (e :: r))) b 0 st
    rw [ih, List.length_replicate]
    obtain ⟨k, rfl⟩ : ∃ k, b = k + 1 := ⟨b - 1, by omega⟩
    rfl
theorem en_Fn : ∀ (r : List Nat) (f : List Nat → S → S) (st : S), en_F b r f st = match en_n b r with | none => f r st | some r' => en_F b r' f (f r st) := by
  intro r
  induction r with
  | nil => intro f st; rfl
  | cons d r ih =>
    intro f st
    have e0 : en_n b (d :: r) = match en_n b r with | some r' => some (d :: r') | none => if d + 1 < b then some ((d + 1) :: List.replicate r.length 0) else none := rfl
    have e1 : en_F b (d :: r) f st = en_u (fun e => en_A b r.length (fun r => f (e :: r))) (b - (d + 1)) (d + 1) (en_F b r (fun r => f (d :: r)) st) := rfl
    rw [e0, e1, ih]
    cases q : en_n b r with
    | some x =>
      have l := en_nL r x q
      show _ = en_u (fun e => en_A b x.length (fun r => f (e :: r))) (b - (d + 1)) (d + 1) (en_F b x (fun r => f (d :: r)) (f (d :: r) st))
      rw [l]
    | none =>
      by_cases c : d + 1 < b
      · rw [if_pos c]
        show en_u (fun e => en_A b r.length (fun r => f (e :: r))) (b - (d + 1)) (d + 1) (f (d :: r) st) = en_u (fun e => en_A b (List.replicate r.length 0).length (fun r => f (e :: r))) (b - (d + 1 + 1)) (d + 1 + 1) (en_F b (List.replicate r.length 0) (fun r => f ((d + 1) :: r)) (f (d :: r) st))
        rw [en_FA (by omega), List.length_replicate, show b - (d + 1) = (b - (d + 1 + 1)) + 1 by omega]
        rfl
      · rw [if_neg c, show b - (d + 1) = 0 by omega]
        rfl
theorem en_uI {g : Nat → S → S} {st : S} (h : ∀ e, g e st = st) : ∀ k a : Nat, en_u g k a st = st := by
  intro k
  induction k with
  | zero => intro a; rfl
  | succ k ih =>
    intro a
    show en_u g k (a + 1) (g a st) = st
    rw [h]; exact ih (a + 1)
theorem en_AI : ∀ (n : Nat) (f : List Nat → S → S) (st : S), (∀ r, f r st = st) → en_A b n f st = st := by
  intro n
  induction n with
  | zero => intro f st h; exact h []
  | succ n ih => intro f st h; exact en_uI (fun e => ih (fun r => f (e :: r)) st (fun r => h (e :: r))) b 0
/-- the best so far: its cost, its row -/
abbrev en_S : Type := Int × List Nat
def en_up (v : Int) (ch : List Nat) (st : en_S) : en_S := if st.1 = -1 ∨ v < st.1 then (v, ch) else st
/-- a row, number by number -/
def en_l (step : Nat → W → Nat → Option W) (val : W → Int) (l : Nat → Nat) : List Nat → Nat → W → List Nat → en_S → en_S
  | [], _, w, ch, st => en_up (val w) ch st
  | e :: r, i, w, ch, st => match step i w (l e) with
    | none => st
    | some w' => en_l step val l r (i + 1) w' (ch ++ [l e]) st
variable {step : Nat → W → Nat → Option W} {val : W → Int} {l : Nat → Nat}
theorem en_lP (hm : ∀ i w e w', step i w e = some w' → val w ≤ val w') : ∀ (r : List Nat) (i : Nat) (w : W) (ch : List Nat) (st : en_S), st.1 ≠ -1 → st.1 ≤ val w → en_l step val l r i w ch st = st := by
  intro r
  induction r with
  | nil =>
    intro i w ch st h1 h2
    exact if_neg (fun q => by rcases q with q | q; exact h1 q; omega)
  | cons e r ih =>
    intro i w ch st h1 h2
    show (match step i w (l e) with | none => st | some w' => en_l step val l r (i + 1) w' (ch ++ [l e]) st) = st
    cases q : step i w (l e) with
    | none => rfl
    | some w' => exact ih (i + 1) w' (ch ++ [l e]) st h1 (Int.le_trans h2 (hm i w (l e) w' q))
/-- all rows from a place on -/
def en_D (step : Nat → W → Nat → Option W) (val : W → Int) (l : Nat → Nat) (b n i : Nat) (w : W) (ch : List Nat) (st : en_S) : en_S := en_A b n (fun r => en_l step val l r i w ch) st
theorem en_DP (hm : ∀ i w e w', step i w e = some w' → val w ≤ val w') {n i : Nat} {w : W} {ch : List Nat} {st : en_S} (h1 : st.1 ≠ -1) (h2 : st.1 ≤ val w) : en_D step val l b n i w ch st = st := en_AI n _ st (fun r => en_lP hm r i w ch st h1 h2)
def en_g (step : Nat → W → Nat → Option W) (val : W → Int) (l : Nat → Nat) (b n i : Nat) (w : W) (ch : List Nat) (e : Nat) (st : en_S) : en_S := match step i w (l e) with
  | none => st
  | some w' => en_D step val l b n (i + 1) w' (ch ++ [l e]) st
theorem en_DS {n i : Nat} {w : W} {ch : List Nat} {st : en_S} : en_D step val l b (n + 1) i w ch st = en_u (en_g step val l b n i w ch) b 0 st := by
  show en_u (fun e => en_A b n (fun r => en_l step val l (e :: r) i w ch)) b 0 st = _
  have e : (fun e => en_A b n (fun r => en_l step val l (e :: r) i w ch)) = en_g step val l b n i w ch := by
    funext e st
    show en_A b n (fun r st => match step i w (l e) with | none => st | some w' => en_l step val l r (i + 1) w' (ch ++ [l e]) st) st = (match step i w (l e) with | none => st | some w' => en_A b n (fun r => en_l step val l r (i + 1) w' (ch ++ [l e])) st)
    cases q : step i w (l e) with
    | none => exact en_AI n _ st (fun r => rfl)
    | some w' => rfl
  rw [e]
theorem en_g0 {n i e : Nat} {w : W} {ch : List Nat} {st : en_S} (h : step i w (l e) = none) : en_g step val l b n i w ch e st = st := by
  unfold en_g
  rw [h]
theorem en_g1 {n i e : Nat} {w w' : W} {ch : List Nat} {st : en_S} (h : step i w (l e) = some w') : en_g step val l b n i w ch e st = en_D step val l b n (i + 1) w' (ch ++ [l e]) st := by
  unfold en_g
  rw [h]
/-- only some numbers matter: the rows over those alone -/
theorem en_uL {g : Nat → S → S} {P : Nat → Bool} {n : Nat} (hP : ∀ p, P p = false → ∀ st, g p st = st) (hl : ∀ p : Nat, p < n → P p = true → l (dm_cn P p) = p) : ∀ (k p : Nat) (st : S), p + k = n → en_u g k p st = en_u (fun e => g (l e)) (dm_cn P n - dm_cn P p) (dm_cn P p) st := by
  intro k
  induction k with
  | zero =>
    intro p st e
    rw [show p = n by omega, Nat.sub_self]
    rfl
  | succ k ih =>
    intro p st e
    show en_u g k (p + 1) (g p st) = _
    rw [ih (p + 1) (g p st) (by omega)]
    cases q : P p with
    | false =>
      have c : dm_cn P (p + 1) = dm_cn P p := by
        show dm_cn P p + (if P p = true then 1 else 0) = dm_cn P p
        rw [q, if_neg (by decide)]; rfl
      rw [c, hP p q]
    | true =>
      have c := dm_cnT q
      have m := dm_cnW (P := P) n (p + 1) (by omega)
      rw [show dm_cn P n - dm_cn P p = (dm_cn P n - dm_cn P (p + 1)) + 1 by omega]
      show _ = en_u (fun e => g (l e)) (dm_cn P n - dm_cn P (p + 1)) (dm_cn P p + 1) (g (l (dm_cn P p)) st)
      rw [hl p (by omega) q, ← c]
theorem en_DL {P : Nat → Bool} {m : Nat} (hs : ∀ i w p, P p = false → step i w p = none) (hl : ∀ p : Nat, p < m → P p = true → l (dm_cn P p) = p) : ∀ (n i : Nat) (w : W) (ch : List Nat) (st : en_S), en_D step val (fun e => e) m n i w ch st = en_D step val l (dm_cn P m) n i w ch st := by
  intro n
  induction n with
  | zero => intro i w ch st; rfl
  | succ n ih =>
    intro i w ch st
    rw [en_DS, en_DS]
    have e := en_uL (S := en_S) (g := en_g step val (fun e => e) m n i w ch) (P := P) (n := m) (l := l) (fun p hp st => by
      show (match step i w p with | none => st | some w' => en_D step val (fun e => e) m n (i + 1) w' (ch ++ [p]) st) = st
      rw [hs i w p hp]) hl m 0 st (by omega)
    rw [e]
    have e2 : (fun e => en_g step val (fun e => e) m n i w ch (l e)) = en_g step val l (dm_cn P m) n i w ch := by
      funext e st
      show (match step i w (l e) with | none => st | some w' => en_D step val (fun e => e) m n (i + 1) w' (ch ++ [l e]) st) = (match step i w (l e) with | none => st | some w' => en_D step val l (dm_cn P m) n (i + 1) w' (ch ++ [l e]) st)
      cases q : step i w (l e) with
      | none => rfl
      | some w' => exact ih (i + 1) w' (ch ++ [l e]) st
    rw [e2]
    rfl
end EN
def fw_138 (a0 : Int) (Q : Int → lf_Z → Prop) (s : lf_Z) : Prop := Q (lf_and (((lf_and (lf_w (((lf_and (a0 - (lf_and (lf_ushr a0 1) 1431655765)) 858993459) + (lf_and (lf_ushr (a0 - (lf_and (lf_ushr a0 1) 1431655765)) 2) 858993459)) + (lf_ushr ((lf_and (a0 - (lf_and (lf_ushr a0 1) 1431655765)) 858993459) + (lf_and (lf_ushr (a0 - (lf_and (lf_ushr a0 1) 1431655765)) 2) 858993459)) 4))) 252645135) + (lf_ushr (lf_and (lf_w (((lf_and (a0 - (lf_and (lf_ushr a0 1) 1431655765)) 858993459) + (lf_and (lf_ushr (a0 - (lf_and (lf_ushr a0 1) 1431655765)) 2) 858993459)) + (lf_ushr ((lf_and (a0 - (lf_and (lf_ushr a0 1) 1431655765)) 858993459) + (lf_and (lf_ushr (a0 - (lf_and (lf_ushr a0 1) 1431655765)) 2) 858993459)) 4))) 252645135) 8)) + (lf_ushr ((lf_and (lf_w (((lf_and (a0 - (lf_and (lf_ushr a0 1) 1431655765)) 858993459) + (lf_and (lf_ushr (a0 - (lf_and (lf_ushr a0 1) 1431655765)) 2) 858993459)) + (lf_ushr ((lf_and (a0 - (lf_and (lf_ushr a0 1) 1431655765)) 858993459) + (lf_and (lf_ushr (a0 - (lf_and (lf_ushr a0 1) 1431655765)) 2) 858993459)) 4))) 252645135) + (lf_ushr (lf_and (lf_w (((lf_and (a0 - (lf_and (lf_ushr a0 1) 1431655765)) 858993459) + (lf_and (lf_ushr (a0 - (lf_and (lf_ushr a0 1) 1431655765)) 2) 858993459)) + (lf_ushr ((lf_and (a0 - (lf_and (lf_ushr a0 1) 1431655765)) 858993459) + (lf_and (lf_ushr (a0 - (lf_and (lf_ushr a0 1) 1431655765)) 2) 858993459)) 4))) 252645135) 8)) 16)) 63) s
theorem cj_138 {Q1 Q2 Q3 : Int → lf_Z → Prop} {a0 : Int} {s : lf_Z} (hQ : ∀ (r : Int) (s : lf_Z), Q1 r s → Q2 r s → Q3 r s) (h1 : fm_138 a0 Q1 s) (h2 : fw_138 a0 Q2 s) : fm_138 a0 Q3 s := by
  unfold fm_138 at h1 ⊢
  unfold fw_138 at h2
  exact hQ _ _  h1 h2
def fw_140 (a1 : Int) (Q : lf_Z → Prop) (s : lf_Z) : Prop := Q (lf_cp (lf_up s.1 74 6 a1) 76 77 0 0 6, s.2.1, s.2.2)
theorem cj_140 {Q1 Q2 Q3 : lf_Z → Prop} {a1 : Int} {s : lf_Z} (hQ : ∀ (s : lf_Z), Q1 s → Q2 s → Q3 s) (h1 : fm_140 a1 Q1 s) (h2 : fw_140 a1 Q2 s) : fm_140 a1 Q3 s := by
  unfold fm_140 at h1 ⊢
  unfold fw_140 at h2
  exact hQ _  h1 h2
def fw_139_p122 (R139 : Int → Int → Int → (lf_Z → Prop) → lf_Z → Prop) (X34 : Int → lf_Z → Prop) (Q : lf_Z → Prop) (x1 : Int) (x2 : Int) (x3 : Int) (x4 : Int) (s : lf_Z) : Prop := X34 (x4 + 1) s
theorem cj_139_p122 {R1391 R1392 R1393 : Int → Int → Int → (lf_Z → Prop) → lf_Z → Prop} {X341 X342 X343 : Int → lf_Z → Prop} {Q1 Q2 Q3 : lf_Z → Prop} {x1 : Int} {x2 : Int} {x3 : Int} {x4 : Int} {s : lf_Z} (hR139 : ∀ (v0 : Int) (v1 : Int) (v2 : Int) (Q1 Q2 Q3 : lf_Z → Prop) (s : lf_Z), (∀ (s : lf_Z), Q1 s → Q2 s → Q3 s) → R1391 v0 v1 v2 Q1 s → R1392 v0 v1 v2 Q2 s → R1393 v0 v1 v2 Q3 s) (hX34 : ∀ (v0 : Int) (v1 : lf_Z), X341 v0 v1 → X342 v0 v1 → X343 v0 v1) (hQ : ∀ (s : lf_Z), Q1 s → Q2 s → Q3 s) (h1 : fm_139_p122 R1391 X341 Q1 x1 x2 x3 x4 s) (h2 : fw_139_p122 R1392 X342 Q2 x1 x2 x3 x4 s) : fm_139_p122 R1393 X343 Q3 x1 x2 x3 x4 s := by
  unfold fm_139_p122 at h1 ⊢
  unfold fw_139_p122 at h2
  exact hX34 _ _  h1 h2
def fw_139_p85 (R139 : Int → Int → Int → (lf_Z → Prop) → lf_Z → Prop) (X34 : Int → lf_Z → Prop) (Q : lf_Z → Prop) (x1 : Int) (x2 : Int) (x3 : Int) (x4 : Int) (y0 : Int) (s : lf_Z) : Prop := lf_R y0 → ((y0 = (-1) → (fw_139_p122 R139 X34 Q x1 x2 x3 x4 s)) ∧ (¬ (y0 = (-1)) → ((0 ≤ x1 ∧ x1 < 6) → (lf_R x3 → (R139 (x1 + 1) (lf_and x2 (lf_xor (lf_shl 1 x4) (-1))) (max x3 y0) (fun s29 => (fw_139_p122 R139 X34 Q x1 x2 x3 x4 s29)) (lf_up s.1 76 x1 x4, s.2.1, s.2.2))))))
theorem cj_139_p85 {R1391 R1392 R1393 : Int → Int → Int → (lf_Z → Prop) → lf_Z → Prop} {X341 X342 X343 : Int → lf_Z → Prop} {Q1 Q2 Q3 : lf_Z → Prop} {x1 : Int} {x2 : Int} {x3 : Int} {x4 : Int} {y0 : Int} {s : lf_Z} (hR139 : ∀ (v0 : Int) (v1 : Int) (v2 : Int) (Q1 Q2 Q3 : lf_Z → Prop) (s : lf_Z), (∀ (s : lf_Z), Q1 s → Q2 s → Q3 s) → R1391 v0 v1 v2 Q1 s → R1392 v0 v1 v2 Q2 s → R1393 v0 v1 v2 Q3 s) (hX34 : ∀ (v0 : Int) (v1 : lf_Z), X341 v0 v1 → X342 v0 v1 → X343 v0 v1) (hQ : ∀ (s : lf_Z), Q1 s → Q2 s → Q3 s) (h1 : fm_139_p85 R1391 X341 Q1 x1 x2 x3 x4 y0 s) (h2 : fw_139_p85 R1392 X342 Q2 x1 x2 x3 x4 y0 s) : fm_139_p85 R1393 X343 Q3 x1 x2 x3 x4 y0 s := by
  unfold fm_139_p85 at h1 ⊢
  unfold fw_139_p85 at h2
  exact ⟨h1.1, ⟨(fun c2 => cj_139_p122 hR139 hX34 hQ (h1.2.1 c2) ((h2 h1.1).1 c2)), (fun c2 => ⟨(h1.2.2 c2).1, ⟨(h1.2.2 c2).2.1, hR139 _ _ _ _ _ _ _ (fun s29 k6 l6 => cj_139_p122 hR139 hX34 hQ k6 l6) (h1.2.2 c2).2.2 ((((h2 h1.1).2 c2) (h1.2.2 c2).1) (h1.2.2 c2).2.1)⟩⟩)⟩⟩
def fw_139_p34 (R139 : Int → Int → Int → (lf_Z → Prop) → lf_Z → Prop) (Q : lf_Z → Prop) (x1 : Int) (x2 : Int) (x3 : Int) (X34 : Int → lf_Z → Prop) (x4 : Int) (s : lf_Z) : Prop := lf_R x4 → (lf_R (s.1 1 2) → ((s.1 1 2 ≤ x4 → (Q s)) ∧ (¬ (s.1 1 2 ≤ x4) → ((lf_and (lf_shr x2 x4) 1 ≠ 1 → (fw_139_p85 R139 X34 Q x1 x2 x3 x4 (-1) s)) ∧ (¬ (lf_and (lf_shr x2 x4) 1 ≠ 1) → ((0 ≤ x4 ∧ x4 < 6) → ((0 ≤ x1 ∧ x1 < 6) → (fw_135 x4 (s.1 19 x4) (s.1 75 x1) (fun r33 s32 => (fw_139_p85 R139 X34 Q x1 x2 x3 x4 r33 s32)) s))))))))
theorem cj_139_p34 {R1391 R1392 R1393 : Int → Int → Int → (lf_Z → Prop) → lf_Z → Prop} {X341 X342 X343 : Int → lf_Z → Prop} {Q1 Q2 Q3 : lf_Z → Prop} {x1 : Int} {x2 : Int} {x3 : Int} {x4 : Int} {s : lf_Z} (hR139 : ∀ (v0 : Int) (v1 : Int) (v2 : Int) (Q1 Q2 Q3 : lf_Z → Prop) (s : lf_Z), (∀ (s : lf_Z), Q1 s → Q2 s → Q3 s) → R1391 v0 v1 v2 Q1 s → R1392 v0 v1 v2 Q2 s → R1393 v0 v1 v2 Q3 s) (hX34 : ∀ (v0 : Int) (v1 : lf_Z), X341 v0 v1 → X342 v0 v1 → X343 v0 v1) (hQ : ∀ (s : lf_Z), Q1 s → Q2 s → Q3 s) (h1 : fm_139_p34 R1391 Q1 x1 x2 x3 X341 x4 s) (h2 : fw_139_p34 R1392 Q2 x1 x2 x3 X342 x4 s) : fm_139_p34 R1393 Q3 x1 x2 x3 X343 x4 s := by
  unfold fm_139_p34 at h1 ⊢
  unfold fw_139_p34 at h2
  exact ⟨h1.1, ⟨h1.2.1, ⟨(fun c3 => hQ _  (h1.2.2.1 c3) (((h2 h1.1) h1.2.1).1 c3)), (fun c3 => ⟨(fun c5 => cj_139_p85 hR139 hX34 hQ ((h1.2.2.2 c3).1 c5) ((((h2 h1.1) h1.2.1).2 c3).1 c5)), (fun c5 => ⟨((h1.2.2.2 c3).2 c5).1, ⟨((h1.2.2.2 c3).2 c5).2.1, cj_135 (fun r33 s32 k9 l9 => cj_139_p85 hR139 hX34 hQ k9 l9) ((h1.2.2.2 c3).2 c5).2.2 ((((((h2 h1.1) h1.2.1).2 c3).2 c5) ((h1.2.2.2 c3).2 c5).1) ((h1.2.2.2 c3).2 c5).2.1)⟩⟩)⟩)⟩⟩⟩
def fw_139_p34L (R139 : Int → Int → Int → (lf_Z → Prop) → lf_Z → Prop) (Q : lf_Z → Prop) (x1 : Int) (x2 : Int) (x3 : Int) (x4 : Int) (s : lf_Z) : Prop := ∃ X34 : Int → lf_Z → Prop, (∀ (x4 : Int) (s : lf_Z), X34 x4 s → fw_139_p34 R139 Q x1 x2 x3 X34 x4 s) ∧ X34 x4 s
theorem cj_139_p34L {R1391 R1392 R1393 : Int → Int → Int → (lf_Z → Prop) → lf_Z → Prop} {Q1 Q2 Q3 : lf_Z → Prop} {x1 : Int} {x2 : Int} {x3 : Int} {x4 : Int} {s : lf_Z} (hR139 : ∀ (v0 : Int) (v1 : Int) (v2 : Int) (Q1 Q2 Q3 : lf_Z → Prop) (s : lf_Z), (∀ (s : lf_Z), Q1 s → Q2 s → Q3 s) → R1391 v0 v1 v2 Q1 s → R1392 v0 v1 v2 Q2 s → R1393 v0 v1 v2 Q3 s) (hQ : ∀ (s : lf_Z), Q1 s → Q2 s → Q3 s) (h1 : fm_139_p34L R1391 Q1 x1 x2 x3 x4 s) (h2 : fw_139_p34L R1392 Q2 x1 x2 x3 x4 s) : fm_139_p34L R1393 Q3 x1 x2 x3 x4 s := by
  intro X0 hX0
  obtain ⟨Y, hY, hY0⟩ := h2
  exact h1 (fun v0 s => Y v0 s → X0 v0 s) (fun v0 s hb hy => hX0 v0 s (cj_139_p34 (hR139 := hR139) (X341 := fun v0 s => Y v0 s → X0 v0 s) (X342 := Y) (X343 := X0) (hX34 := fun v0 s a b => a b) hQ hb (hY v0 s hy))) hY0
def fw_139_p17 (R139 : Int → Int → Int → (lf_Z → Prop) → lf_Z → Prop) (Q : lf_Z → Prop) (x1 : Int) (x2 : Int) (x3 : Int) (s : lf_Z) : Prop := lf_R x1 → (lf_R (s.1 74 5) → ((x1 < s.1 74 5 → (fw_139_p34L R139 Q x1 x2 x3 0 s)) ∧ (¬ (x1 < s.1 74 5) → (fw_140 x3 (fun s34 => (Q s34)) s))))
theorem cj_139_p17 {R1391 R1392 R1393 : Int → Int → Int → (lf_Z → Prop) → lf_Z → Prop} {Q1 Q2 Q3 : lf_Z → Prop} {x1 : Int} {x2 : Int} {x3 : Int} {s : lf_Z} (hR139 : ∀ (v0 : Int) (v1 : Int) (v2 : Int) (Q1 Q2 Q3 : lf_Z → Prop) (s : lf_Z), (∀ (s : lf_Z), Q1 s → Q2 s → Q3 s) → R1391 v0 v1 v2 Q1 s → R1392 v0 v1 v2 Q2 s → R1393 v0 v1 v2 Q3 s) (hQ : ∀ (s : lf_Z), Q1 s → Q2 s → Q3 s) (h1 : fm_139_p17 R1391 Q1 x1 x2 x3 s) (h2 : fw_139_p17 R1392 Q2 x1 x2 x3 s) : fm_139_p17 R1393 Q3 x1 x2 x3 s := by
  unfold fm_139_p17 at h1 ⊢
  unfold fw_139_p17 at h2
  exact ⟨h1.1, ⟨h1.2.1, ⟨(fun c3 => cj_139_p34L hR139 hQ (h1.2.2.1 c3) (((h2 h1.1) h1.2.1).1 c3)), (fun c3 => cj_140 (fun s34 k5 l5 => hQ _  k5 l5) (h1.2.2.2 c3) (((h2 h1.1) h1.2.1).2 c3))⟩⟩⟩
def fw_139 (R139 : Int → Int → Int → (lf_Z → Prop) → lf_Z → Prop) (a1 : Int) (a2 : Int) (a3 : Int) (Q : lf_Z → Prop) (s : lf_Z) : Prop := lf_R (s.1 74 6) → ((s.1 74 6 = (-1) → (fw_139_p17 R139 Q a1 a2 a3 s)) ∧ (¬ (s.1 74 6 = (-1)) → (lf_R a3 → ((a3 < s.1 74 6 → (fw_139_p17 R139 Q a1 a2 a3 s)) ∧ (¬ (a3 < s.1 74 6) → (Q s))))))
theorem cj_139 {R1391 R1392 R1393 : Int → Int → Int → (lf_Z → Prop) → lf_Z → Prop} {Q1 Q2 Q3 : lf_Z → Prop} {a1 : Int} {a2 : Int} {a3 : Int} {s : lf_Z} (hR139 : ∀ (v0 : Int) (v1 : Int) (v2 : Int) (Q1 Q2 Q3 : lf_Z → Prop) (s : lf_Z), (∀ (s : lf_Z), Q1 s → Q2 s → Q3 s) → R1391 v0 v1 v2 Q1 s → R1392 v0 v1 v2 Q2 s → R1393 v0 v1 v2 Q3 s) (hQ : ∀ (s : lf_Z), Q1 s → Q2 s → Q3 s) (h1 : fm_139 R1391 a1 a2 a3 Q1 s) (h2 : fw_139 R1392 a1 a2 a3 Q2 s) : fm_139 R1393 a1 a2 a3 Q3 s := by
  unfold fm_139 at h1 ⊢
  unfold fw_139 at h2
  exact ⟨h1.1, ⟨(fun c2 => cj_139_p17 hR139 hQ (h1.2.1 c2) ((h2 h1.1).1 c2)), (fun c2 => ⟨(h1.2.2 c2).1, ⟨(fun c5 => cj_139_p17 hR139 hQ ((h1.2.2 c2).2.1 c5) ((((h2 h1.1).2 c2) (h1.2.2 c2).1).1 c5)), (fun c5 => hQ _  ((h1.2.2 c2).2.2 c5) ((((h2 h1.1).2 c2) (h1.2.2 c2).1).2 c5))⟩⟩)⟩⟩
def fv_139T : Nat → (Int → Int → Int → (lf_Z → Prop) → lf_Z → Prop)
  | 0 => fun _ _ _ _ _ => True
  | n + 1 => fw_139 (fv_139T n)
theorem ck_139T : ∀ n : Nat, (∀ (v0 : Int) (v1 : Int) (v2 : Int) (Q1 Q2 Q3 : lf_Z → Prop) (s : lf_Z), (∀ (s : lf_Z), Q1 s → Q2 s → Q3 s) → (fc_139T n) v0 v1 v2 Q1 s → (fv_139T n) v0 v1 v2 Q2 s → (fc_139T n) v0 v1 v2 Q3 s)
  | 0 => fun _ _ _ _ _ _ _ _ h1 _ => h1.elim
  | n + 1 => fun _ _ _ _ _ _ _ hq h1 h2 => cj_139 (hR139 := (ck_139T n)) hq h1 h2
def fv_139 (a1 : Int) (a2 : Int) (a3 : Int) (Q : lf_Z → Prop) (s : lf_Z) : Prop := (fv_139T 200) a1 a2 a3 Q s
theorem ck_139 {a1 : Int} {a2 : Int} {a3 : Int} {Q1 Q2 Q3 : lf_Z → Prop} {s : lf_Z} (hQ : ∀ (s : lf_Z), Q1 s → Q2 s → Q3 s) (h1 : fc_139 a1 a2 a3 Q1 s) (h2 : fv_139 a1 a2 a3 Q2 s) : fc_139 a1 a2 a3 Q3 s := (ck_139T 200) _ _ _ _ _ _ _ hQ h1 h2
def fw_137_p79 (X30 : Int → lf_Z → Prop) (Q : Int → lf_Z → Prop) (x1 : Int) (x2 : Int) (x3 : Int) (s : lf_Z) : Prop := X30 (x3 + 1) s
theorem cj_137_p79 {X301 X302 X303 : Int → lf_Z → Prop} {Q1 Q2 Q3 : Int → lf_Z → Prop} {x1 : Int} {x2 : Int} {x3 : Int} {s : lf_Z} (hX30 : ∀ (v0 : Int) (v1 : lf_Z), X301 v0 v1 → X302 v0 v1 → X303 v0 v1) (hQ : ∀ (r : Int) (s : lf_Z), Q1 r s → Q2 r s → Q3 r s) (h1 : fm_137_p79 X301 Q1 x1 x2 x3 s) (h2 : fw_137_p79 X302 Q2 x1 x2 x3 s) : fm_137_p79 X303 Q3 x1 x2 x3 s := by
  unfold fm_137_p79 at h1 ⊢
  unfold fw_137_p79 at h2
  exact hX30 _ _  h1 h2
def fw_137_p30 (Q : Int → lf_Z → Prop) (x1 : Int) (x2 : Int) (X30 : Int → lf_Z → Prop) (x3 : Int) (s : lf_Z) : Prop := lf_R x3 → (lf_R (s.1 1 0) → ((s.1 1 0 ≤ x3 → (fv_139 0 x1 0 (fun s30 => (Q (s30.1 74 6) s30)) s)) ∧ (¬ (s.1 1 0 ≤ x3) → ((lf_and (lf_shr x2 x3) 1 ≠ 1 → (fw_137_p79 X30 Q x1 x2 x3 s)) ∧ (¬ (lf_and (lf_shr x2 x3) 1 ≠ 1) → (lf_R (s.1 74 5) → ((6 ≤ s.1 74 5 → (fw_137_p79 X30 Q x1 x2 x3 s)) ∧ (¬ (6 ≤ s.1 74 5) → ((0 ≤ s.1 74 5 ∧ s.1 74 5 < 6) → (fw_137_p79 X30 Q x1 x2 x3 (lf_up (lf_up s.1 75 (s.1 74 5) x3) 74 5 ((s.1 74 5) + 1), s.2.1, s.2.2)))))))))))
theorem cj_137_p30 {X301 X302 X303 : Int → lf_Z → Prop} {Q1 Q2 Q3 : Int → lf_Z → Prop} {x1 : Int} {x2 : Int} {x3 : Int} {s : lf_Z} (hX30 : ∀ (v0 : Int) (v1 : lf_Z), X301 v0 v1 → X302 v0 v1 → X303 v0 v1) (hQ : ∀ (r : Int) (s : lf_Z), Q1 r s → Q2 r s → Q3 r s) (h1 : fm_137_p30 Q1 x1 x2 X301 x3 s) (h2 : fw_137_p30 Q2 x1 x2 X302 x3 s) : fm_137_p30 Q3 x1 x2 X303 x3 s := by
  unfold fm_137_p30 at h1 ⊢
  unfold fw_137_p30 at h2
  exact ⟨h1.1, ⟨h1.2.1, ⟨(fun c3 => ck_139 (fun s30 k4 l4 => hQ _ _  k4 l4) (h1.2.2.1 c3) (((h2 h1.1) h1.2.1).1 c3)), (fun c3 => ⟨(fun c6 => cj_137_p79 hX30 hQ ((h1.2.2.2 c3).1 c6) ((((h2 h1.1) h1.2.1).2 c3).1 c6)), (fun c6 => ⟨((h1.2.2.2 c3).2 c6).1, ⟨(fun c9 => cj_137_p79 hX30 hQ (((h1.2.2.2 c3).2 c6).2.1 c9) ((((((h2 h1.1) h1.2.1).2 c3).2 c6) ((h1.2.2.2 c3).2 c6).1).1 c9)), (fun c9 => ⟨(((h1.2.2.2 c3).2 c6).2.2 c9).1, cj_137_p79 hX30 hQ (((h1.2.2.2 c3).2 c6).2.2 c9).2 (((((((h2 h1.1) h1.2.1).2 c3).2 c6) ((h1.2.2.2 c3).2 c6).1).2 c9) (((h1.2.2.2 c3).2 c6).2.2 c9).1)⟩)⟩⟩)⟩)⟩⟩⟩
def fw_137_p30L (Q : Int → lf_Z → Prop) (x1 : Int) (x2 : Int) (x3 : Int) (s : lf_Z) : Prop := ∃ X30 : Int → lf_Z → Prop, (∀ (x3 : Int) (s : lf_Z), X30 x3 s → fw_137_p30 Q x1 x2 X30 x3 s) ∧ X30 x3 s
theorem cj_137_p30L {Q1 Q2 Q3 : Int → lf_Z → Prop} {x1 : Int} {x2 : Int} {x3 : Int} {s : lf_Z} (hQ : ∀ (r : Int) (s : lf_Z), Q1 r s → Q2 r s → Q3 r s) (h1 : fm_137_p30L Q1 x1 x2 x3 s) (h2 : fw_137_p30L Q2 x1 x2 x3 s) : fm_137_p30L Q3 x1 x2 x3 s := by
  intro X0 hX0
  obtain ⟨Y, hY, hY0⟩ := h2
  exact h1 (fun v0 s => Y v0 s → X0 v0 s) (fun v0 s hb hy => hX0 v0 s (cj_137_p30 (X301 := fun v0 s => Y v0 s → X0 v0 s) (X302 := Y) (X303 := X0) (hX30 := fun v0 s a b => a b) hQ hb (hY v0 s hy))) hY0
def fw_137 (a1 : Int) (a2 : Int) (Q : Int → lf_Z → Prop) (s : lf_Z) : Prop := fw_138 a2 (fun r22 s21 => (fw_138 a1 (fun r24 s23 => (lf_R r24 → (lf_R r22 → (lf_R (min 6 r24) → ((r22 ≤ min 6 r24 → (fw_137_p30L Q a1 a2 0 s23)) ∧ (¬ (r22 ≤ min 6 r24) → (Q (-1) s23))))))) s21)) (lf_up (lf_up s.1 74 6 (-1)) 74 5 0, s.2.1, s.2.2)
theorem cj_137 {Q1 Q2 Q3 : Int → lf_Z → Prop} {a1 : Int} {a2 : Int} {s : lf_Z} (hQ : ∀ (r : Int) (s : lf_Z), Q1 r s → Q2 r s → Q3 r s) (h1 : fm_137 a1 a2 Q1 s) (h2 : fw_137 a1 a2 Q2 s) : fm_137 a1 a2 Q3 s := by
  unfold fm_137 at h1 ⊢
  unfold fw_137 at h2
  exact cj_138 (fun r22 s21 k1 l1 => cj_138 (fun r24 s23 k2 l2 => ⟨k2.1, ⟨k2.2.1, ⟨k2.2.2.1, ⟨(fun c6 => cj_137_p30L hQ (k2.2.2.2.1 c6) ((((l2 k2.1) k2.2.1) k2.2.2.1).1 c6)), (fun c6 => hQ _ _  (k2.2.2.2.2 c6) ((((l2 k2.1) k2.2.1) k2.2.2.1).2 c6))⟩⟩⟩⟩) k1 l1) h1 h2
def fw_141_p2 (Q : Int → lf_Z → Prop) (x1 : Int) (X2 : Int → lf_Z → Prop) (x2 : Int) (s : lf_Z) : Prop := lf_R x2 → (lf_R (s.1 74 5) → ((s.1 74 5 ≤ x2 → (Q (-1) s)) ∧ (¬ (s.1 74 5 ≤ x2) → (lf_R (s.1 74 6) → ((s.1 74 6 = (-1) → (Q (-1) s)) ∧ (¬ (s.1 74 6 = (-1)) → ((0 ≤ x2 ∧ x2 < 6) → (lf_R (s.1 75 x2) → (lf_R x1 → ((s.1 75 x2 ≠ x1 → (X2 (x2 + 1) s)) ∧ (¬ (s.1 75 x2 ≠ x1) → (Q (s.1 77 x2) s))))))))))))
theorem cj_141_p2 {X21 X22 X23 : Int → lf_Z → Prop} {Q1 Q2 Q3 : Int → lf_Z → Prop} {x1 : Int} {x2 : Int} {s : lf_Z} (hX2 : ∀ (v0 : Int) (v1 : lf_Z), X21 v0 v1 → X22 v0 v1 → X23 v0 v1) (hQ : ∀ (r : Int) (s : lf_Z), Q1 r s → Q2 r s → Q3 r s) (h1 : fm_141_p2 Q1 x1 X21 x2 s) (h2 : fw_141_p2 Q2 x1 X22 x2 s) : fm_141_p2 Q3 x1 X23 x2 s := by
  unfold fm_141_p2 at h1 ⊢
  unfold fw_141_p2 at h2
  exact ⟨h1.1, ⟨h1.2.1, ⟨(fun c3 => hQ _ _  (h1.2.2.1 c3) (((h2 h1.1) h1.2.1).1 c3)), (fun c3 => ⟨(h1.2.2.2 c3).1, ⟨(fun c6 => hQ _ _  ((h1.2.2.2 c3).2.1 c6) (((((h2 h1.1) h1.2.1).2 c3) (h1.2.2.2 c3).1).1 c6)), (fun c6 => ⟨((h1.2.2.2 c3).2.2 c6).1, ⟨((h1.2.2.2 c3).2.2 c6).2.1, ⟨((h1.2.2.2 c3).2.2 c6).2.2.1, ⟨(fun c11 => hX2 _ _  (((h1.2.2.2 c3).2.2 c6).2.2.2.1 c11) (((((((((h2 h1.1) h1.2.1).2 c3) (h1.2.2.2 c3).1).2 c6) ((h1.2.2.2 c3).2.2 c6).1) ((h1.2.2.2 c3).2.2 c6).2.1) ((h1.2.2.2 c3).2.2 c6).2.2.1).1 c11)), (fun c11 => hQ _ _  (((h1.2.2.2 c3).2.2 c6).2.2.2.2 c11) (((((((((h2 h1.1) h1.2.1).2 c3) (h1.2.2.2 c3).1).2 c6) ((h1.2.2.2 c3).2.2 c6).1) ((h1.2.2.2 c3).2.2 c6).2.1) ((h1.2.2.2 c3).2.2 c6).2.2.1).2 c11))⟩⟩⟩⟩)⟩⟩)⟩⟩⟩
def fw_141_p2L (Q : Int → lf_Z → Prop) (x1 : Int) (x2 : Int) (s : lf_Z) : Prop := ∃ X2 : Int → lf_Z → Prop, (∀ (x2 : Int) (s : lf_Z), X2 x2 s → fw_141_p2 Q x1 X2 x2 s) ∧ X2 x2 s
theorem cj_141_p2L {Q1 Q2 Q3 : Int → lf_Z → Prop} {x1 : Int} {x2 : Int} {s : lf_Z} (hQ : ∀ (r : Int) (s : lf_Z), Q1 r s → Q2 r s → Q3 r s) (h1 : fm_141_p2L Q1 x1 x2 s) (h2 : fw_141_p2L Q2 x1 x2 s) : fm_141_p2L Q3 x1 x2 s := by
  intro X0 hX0
  obtain ⟨Y, hY, hY0⟩ := h2
  exact h1 (fun v0 s => Y v0 s → X0 v0 s) (fun v0 s hb hy => hX0 v0 s (cj_141_p2 (X21 := fun v0 s => Y v0 s → X0 v0 s) (X22 := Y) (X23 := X0) (hX2 := fun v0 s a b => a b) hQ hb (hY v0 s hy))) hY0
def fw_141 (a1 : Int) (Q : Int → lf_Z → Prop) (s : lf_Z) : Prop := fw_141_p2L Q a1 0 s
theorem cj_141 {Q1 Q2 Q3 : Int → lf_Z → Prop} {a1 : Int} {s : lf_Z} (hQ : ∀ (r : Int) (s : lf_Z), Q1 r s → Q2 r s → Q3 r s) (h1 : fm_141 a1 Q1 s) (h2 : fw_141 a1 Q2 s) : fm_141 a1 Q3 s := by
  unfold fm_141 at h1 ⊢
  unfold fw_141 at h2
  exact cj_141_p2L hQ h1 h2
def fw_136_p66 (Q : Int → lf_Z → Prop) (x1 : Int) (x2 : Int) (x3 : Int) (s : lf_Z) : Prop := fw_137 x1 x2 (fun r27 s26 => (lf_R x3 → ((x3 ≠ (-1) → (fw_141 x3 (fun r30 s29 => (Q r30 s29)) s26)) ∧ (¬ (x3 ≠ (-1)) → (Q r27 s26))))) s
theorem cj_136_p66 {Q1 Q2 Q3 : Int → lf_Z → Prop} {x1 : Int} {x2 : Int} {x3 : Int} {s : lf_Z} (hQ : ∀ (r : Int) (s : lf_Z), Q1 r s → Q2 r s → Q3 r s) (h1 : fm_136_p66 Q1 x1 x2 x3 s) (h2 : fw_136_p66 Q2 x1 x2 x3 s) : fm_136_p66 Q3 x1 x2 x3 s := by
  unfold fm_136_p66 at h1 ⊢
  unfold fw_136_p66 at h2
  exact cj_137 (fun r27 s26 k1 l1 => ⟨k1.1, ⟨(fun c3 => cj_141 (fun r30 s29 k4 l4 => hQ _ _  k4 l4) (k1.2.1 c3) ((l1 k1.1).1 c3)), (fun c3 => hQ _ _  (k1.2.2 c3) ((l1 k1.1).2 c3))⟩⟩) h1 h2
def fw_136 (a1 : Int) (a2 : Int) (a3 : Int) (Q : Int → lf_Z → Prop) (s : lf_Z) : Prop := fw_15 a1 0 ((lf_shl 1 (s.1 1 2)) - 1) (fun z22 s21 => ((z22 = false → (Q (-1) s21)) ∧ (z22 = true → (fw_15 a2 1 ((lf_shl 1 (s21.1 1 0)) - 1) (fun z24 s23 => ((z24 = true → (lf_R a3 → ((a3 = (-1) → (fw_136_p66 Q a1 a2 a3 s23)) ∧ (¬ (a3 = (-1)) → (fw_18 a3 (fun z32 s31 => ((z32 = false → (Q (-1) s31)) ∧ (z32 = true → ((lf_and (lf_shr a2 a3) 1 ≠ 0 → (fw_136_p66 Q a1 a2 a3 s31)) ∧ (¬ (lf_and (lf_shr a2 a3) 1 ≠ 0) → (Q (-1) s31)))))) s23))))) ∧ (z24 = false → (Q (-1) s23)))) s21)))) s
theorem cj_136 {Q1 Q2 Q3 : Int → lf_Z → Prop} {a1 : Int} {a2 : Int} {a3 : Int} {s : lf_Z} (hQ : ∀ (r : Int) (s : lf_Z), Q1 r s → Q2 r s → Q3 r s) (h1 : fm_136 a1 a2 a3 Q1 s) (h2 : fw_136 a1 a2 a3 Q2 s) : fm_136 a1 a2 a3 Q3 s := by
  unfold fm_136 at h1 ⊢
  unfold fw_136 at h2
  exact cj_15 (fun z22 s21 k1 l1 => ⟨(fun c2 => hQ _ _  (k1.1 c2) (l1.1 c2)), (fun c2 => cj_15 (fun z24 s23 k4 l4 => ⟨(fun c5 => ⟨(k4.1 c5).1, ⟨(fun c7 => cj_136_p66 hQ ((k4.1 c5).2.1 c7) (((l4.1 c5) (k4.1 c5).1).1 c7)), (fun c7 => cj_18 (fun z32 s31 k9 l9 => ⟨(fun c10 => hQ _ _  (k9.1 c10) (l9.1 c10)), (fun c10 => ⟨(fun c12 => cj_136_p66 hQ ((k9.2 c10).1 c12) ((l9.2 c10).1 c12)), (fun c12 => hQ _ _  ((k9.2 c10).2 c12) ((l9.2 c10).2 c12))⟩)⟩) ((k4.1 c5).2.2 c7) (((l4.1 c5) (k4.1 c5).1).2 c7))⟩⟩), (fun c5 => hQ _ _  (k4.2 c5) (l4.2 c5))⟩) (k1.2 c2) (l1.2 c2))⟩) h1 h2
def fw_301_p28 (X4 : Int → Int → lf_Z → Prop) (Q : Int → lf_Z → Prop) (x0 : Int) (x2 : Int) (x3 : Int) (s : lf_Z) : Prop := X4 x2 (x3 + 1) s
theorem cj_301_p28 {X41 X42 X43 : Int → Int → lf_Z → Prop} {Q1 Q2 Q3 : Int → lf_Z → Prop} {x0 : Int} {x2 : Int} {x3 : Int} {s : lf_Z} (hX4 : ∀ (v0 : Int) (v1 : Int) (v2 : lf_Z), X41 v0 v1 v2 → X42 v0 v1 v2 → X43 v0 v1 v2) (hQ : ∀ (r : Int) (s : lf_Z), Q1 r s → Q2 r s → Q3 r s) (h1 : fm_301_p28 X41 Q1 x0 x2 x3 s) (h2 : fw_301_p28 X42 Q2 x0 x2 x3 s) : fm_301_p28 X43 Q3 x0 x2 x3 s := by
  unfold fm_301_p28 at h1 ⊢
  unfold fw_301_p28 at h2
  exact hX4 _ _ _  h1 h2
def fw_301_p4 (Q : Int → lf_Z → Prop) (x0 : Int) (X4 : Int → Int → lf_Z → Prop) (x2 : Int) (x3 : Int) (s : lf_Z) : Prop := lf_R x3 → ((12 ≤ x3 → (Q x2 s)) ∧ (¬ (12 ≤ x3) → (fw_210 x0 x3 (fun z23 s22 => ((z23 = true → ((0 ≤ x2 ∧ x2 < 6) → (fw_301_p28 X4 Q x0 (x2 + 1) x3 (lf_up s22.1 113 x2 x3, s22.2.1, s22.2.2)))) ∧ (z23 = false → (fw_301_p28 X4 Q x0 x2 x3 s22)))) s)))
theorem cj_301_p4 {X41 X42 X43 : Int → Int → lf_Z → Prop} {Q1 Q2 Q3 : Int → lf_Z → Prop} {x0 : Int} {x2 : Int} {x3 : Int} {s : lf_Z} (hX4 : ∀ (v0 : Int) (v1 : Int) (v2 : lf_Z), X41 v0 v1 v2 → X42 v0 v1 v2 → X43 v0 v1 v2) (hQ : ∀ (r : Int) (s : lf_Z), Q1 r s → Q2 r s → Q3 r s) (h1 : fm_301_p4 Q1 x0 X41 x2 x3 s) (h2 : fw_301_p4 Q2 x0 X42 x2 x3 s) : fm_301_p4 Q3 x0 X43 x2 x3 s := by
  unfold fm_301_p4 at h1 ⊢
  unfold fw_301_p4 at h2
  exact ⟨h1.1, ⟨(fun c2 => hQ _ _  (h1.2.1 c2) ((h2 h1.1).1 c2)), (fun c2 => cj_210 (fun z23 s22 k4 l4 => ⟨(fun c5 => ⟨(k4.1 c5).1, cj_301_p28 hX4 hQ (k4.1 c5).2 ((l4.1 c5) (k4.1 c5).1)⟩), (fun c5 => cj_301_p28 hX4 hQ (k4.2 c5) (l4.2 c5))⟩) (h1.2.2 c2) ((h2 h1.1).2 c2))⟩⟩
def fw_301_p4L (Q : Int → lf_Z → Prop) (x0 : Int) (x2 : Int) (x3 : Int) (s : lf_Z) : Prop := ∃ X4 : Int → Int → lf_Z → Prop, (∀ (x2 : Int) (x3 : Int) (s : lf_Z), X4 x2 x3 s → fw_301_p4 Q x0 X4 x2 x3 s) ∧ X4 x2 x3 s
theorem cj_301_p4L {Q1 Q2 Q3 : Int → lf_Z → Prop} {x0 : Int} {x2 : Int} {x3 : Int} {s : lf_Z} (hQ : ∀ (r : Int) (s : lf_Z), Q1 r s → Q2 r s → Q3 r s) (h1 : fm_301_p4L Q1 x0 x2 x3 s) (h2 : fw_301_p4L Q2 x0 x2 x3 s) : fm_301_p4L Q3 x0 x2 x3 s := by
  intro X0 hX0
  obtain ⟨Y, hY, hY0⟩ := h2
  exact h1 (fun v0 v1 s => Y v0 v1 s → X0 v0 v1 s) (fun v0 v1 s hb hy => hX0 v0 v1 s (cj_301_p4 (X41 := fun v0 v1 s => Y v0 v1 s → X0 v0 v1 s) (X42 := Y) (X43 := X0) (hX4 := fun v0 v1 s a b => a b) hQ hb (hY v0 v1 s hy))) hY0
def fw_301 (a0 : Int) (Q : Int → lf_Z → Prop) (s : lf_Z) : Prop := fw_301_p4L Q a0 0 0 s
theorem cj_301 {Q1 Q2 Q3 : Int → lf_Z → Prop} {a0 : Int} {s : lf_Z} (hQ : ∀ (r : Int) (s : lf_Z), Q1 r s → Q2 r s → Q3 r s) (h1 : fm_301 a0 Q1 s) (h2 : fw_301 a0 Q2 s) : fm_301 a0 Q3 s := by
  unfold fm_301 at h1 ⊢
  unfold fw_301 at h2
  exact cj_301_p4L hQ h1 h2
def fw_301b_p28 (X4 : Int → Int → lf_Z → Prop) (Q : Int → lf_Z → Prop) (x0 : Int) (x2 : Int) (x3 : Int) (s : lf_Z) : Prop := X4 x2 (x3 + 1) s
theorem cj_301b_p28 {X41 X42 X43 : Int → Int → lf_Z → Prop} {Q1 Q2 Q3 : Int → lf_Z → Prop} {x0 : Int} {x2 : Int} {x3 : Int} {s : lf_Z} (hX4 : ∀ (v0 : Int) (v1 : Int) (v2 : lf_Z), X41 v0 v1 v2 → X42 v0 v1 v2 → X43 v0 v1 v2) (hQ : ∀ (r : Int) (s : lf_Z), Q1 r s → Q2 r s → Q3 r s) (h1 : fm_301b_p28 X41 Q1 x0 x2 x3 s) (h2 : fw_301b_p28 X42 Q2 x0 x2 x3 s) : fm_301b_p28 X43 Q3 x0 x2 x3 s := by
  unfold fm_301b_p28 at h1 ⊢
  unfold fw_301b_p28 at h2
  exact hX4 _ _ _  h1 h2
def fw_301b_p4 (Q : Int → lf_Z → Prop) (x0 : Int) (X4 : Int → Int → lf_Z → Prop) (x2 : Int) (x3 : Int) (s : lf_Z) : Prop := lf_R x3 → ((12 ≤ x3 → (Q x2 s)) ∧ (¬ (12 ≤ x3) → (fw_210 x0 x3 (fun z23 s22 => ((z23 = true → ((0 ≤ x2 ∧ x2 < 12) → (fw_301b_p28 X4 Q x0 (x2 + 1) x3 (lf_up s22.1 114 x2 x3, s22.2.1, s22.2.2)))) ∧ (z23 = false → (fw_301b_p28 X4 Q x0 x2 x3 s22)))) s)))
theorem cj_301b_p4 {X41 X42 X43 : Int → Int → lf_Z → Prop} {Q1 Q2 Q3 : Int → lf_Z → Prop} {x0 : Int} {x2 : Int} {x3 : Int} {s : lf_Z} (hX4 : ∀ (v0 : Int) (v1 : Int) (v2 : lf_Z), X41 v0 v1 v2 → X42 v0 v1 v2 → X43 v0 v1 v2) (hQ : ∀ (r : Int) (s : lf_Z), Q1 r s → Q2 r s → Q3 r s) (h1 : fm_301b_p4 Q1 x0 X41 x2 x3 s) (h2 : fw_301b_p4 Q2 x0 X42 x2 x3 s) : fm_301b_p4 Q3 x0 X43 x2 x3 s := by
  unfold fm_301b_p4 at h1 ⊢
  unfold fw_301b_p4 at h2
  exact ⟨h1.1, ⟨(fun c2 => hQ _ _  (h1.2.1 c2) ((h2 h1.1).1 c2)), (fun c2 => cj_210 (fun z23 s22 k4 l4 => ⟨(fun c5 => ⟨(k4.1 c5).1, cj_301b_p28 hX4 hQ (k4.1 c5).2 ((l4.1 c5) (k4.1 c5).1)⟩), (fun c5 => cj_301b_p28 hX4 hQ (k4.2 c5) (l4.2 c5))⟩) (h1.2.2 c2) ((h2 h1.1).2 c2))⟩⟩
def fw_301b_p4L (Q : Int → lf_Z → Prop) (x0 : Int) (x2 : Int) (x3 : Int) (s : lf_Z) : Prop := ∃ X4 : Int → Int → lf_Z → Prop, (∀ (x2 : Int) (x3 : Int) (s : lf_Z), X4 x2 x3 s → fw_301b_p4 Q x0 X4 x2 x3 s) ∧ X4 x2 x3 s
theorem cj_301b_p4L {Q1 Q2 Q3 : Int → lf_Z → Prop} {x0 : Int} {x2 : Int} {x3 : Int} {s : lf_Z} (hQ : ∀ (r : Int) (s : lf_Z), Q1 r s → Q2 r s → Q3 r s) (h1 : fm_301b_p4L Q1 x0 x2 x3 s) (h2 : fw_301b_p4L Q2 x0 x2 x3 s) : fm_301b_p4L Q3 x0 x2 x3 s := by
  intro X0 hX0
  obtain ⟨Y, hY, hY0⟩ := h2
  exact h1 (fun v0 v1 s => Y v0 v1 s → X0 v0 v1 s) (fun v0 v1 s hb hy => hX0 v0 v1 s (cj_301b_p4 (X41 := fun v0 v1 s => Y v0 v1 s → X0 v0 v1 s) (X42 := Y) (X43 := X0) (hX4 := fun v0 v1 s a b => a b) hQ hb (hY v0 v1 s hy))) hY0
def fw_301b (a0 : Int) (Q : Int → lf_Z → Prop) (s : lf_Z) : Prop := fw_301b_p4L Q a0 0 0 s
theorem cj_301b {Q1 Q2 Q3 : Int → lf_Z → Prop} {a0 : Int} {s : lf_Z} (hQ : ∀ (r : Int) (s : lf_Z), Q1 r s → Q2 r s → Q3 r s) (h1 : fm_301b a0 Q1 s) (h2 : fw_301b a0 Q2 s) : fm_301b a0 Q3 s := by
  unfold fm_301b at h1 ⊢
  unfold fw_301b at h2
  exact cj_301b_p4L hQ h1 h2
def fw_303_p4 (Q : Bool → lf_Z → Prop) (x1 : Int) (X4 : Int → Int → lf_Z → Prop) (x2 : Int) (x3 : Int) (s : lf_Z) : Prop := lf_R x3 → (lf_R x1 → ((x1 ≤ x3 → (Q true s)) ∧ (¬ (x1 ≤ x3) → ((0 ≤ x3 ∧ x3 < 6) → (fw_210 x2 (s.1 116 x3) (fun z25 s24 => ((z25 = false → (X4 (lf_or x2 (lf_shl 1 (s24.1 116 x3))) (x3 + 1) s24)) ∧ (z25 = true → (Q false s24)))) s)))))
theorem cj_303_p4 {X41 X42 X43 : Int → Int → lf_Z → Prop} {Q1 Q2 Q3 : Bool → lf_Z → Prop} {x1 : Int} {x2 : Int} {x3 : Int} {s : lf_Z} (hX4 : ∀ (v0 : Int) (v1 : Int) (v2 : lf_Z), X41 v0 v1 v2 → X42 v0 v1 v2 → X43 v0 v1 v2) (hQ : ∀ (r : Bool) (s : lf_Z), Q1 r s → Q2 r s → Q3 r s) (h1 : fm_303_p4 Q1 x1 X41 x2 x3 s) (h2 : fw_303_p4 Q2 x1 X42 x2 x3 s) : fm_303_p4 Q3 x1 X43 x2 x3 s := by
  unfold fm_303_p4 at h1 ⊢
  unfold fw_303_p4 at h2
  exact ⟨h1.1, ⟨h1.2.1, ⟨(fun c3 => hQ _ _  (h1.2.2.1 c3) (((h2 h1.1) h1.2.1).1 c3)), (fun c3 => ⟨(h1.2.2.2 c3).1, cj_210 (fun z25 s24 k6 l6 => ⟨(fun c7 => hX4 _ _ _  (k6.1 c7) (l6.1 c7)), (fun c7 => hQ _ _  (k6.2 c7) (l6.2 c7))⟩) (h1.2.2.2 c3).2 ((((h2 h1.1) h1.2.1).2 c3) (h1.2.2.2 c3).1)⟩)⟩⟩⟩
def fw_303_p4L (Q : Bool → lf_Z → Prop) (x1 : Int) (x2 : Int) (x3 : Int) (s : lf_Z) : Prop := ∃ X4 : Int → Int → lf_Z → Prop, (∀ (x2 : Int) (x3 : Int) (s : lf_Z), X4 x2 x3 s → fw_303_p4 Q x1 X4 x2 x3 s) ∧ X4 x2 x3 s
theorem cj_303_p4L {Q1 Q2 Q3 : Bool → lf_Z → Prop} {x1 : Int} {x2 : Int} {x3 : Int} {s : lf_Z} (hQ : ∀ (r : Bool) (s : lf_Z), Q1 r s → Q2 r s → Q3 r s) (h1 : fm_303_p4L Q1 x1 x2 x3 s) (h2 : fw_303_p4L Q2 x1 x2 x3 s) : fm_303_p4L Q3 x1 x2 x3 s := by
  intro X0 hX0
  obtain ⟨Y, hY, hY0⟩ := h2
  exact h1 (fun v0 v1 s => Y v0 v1 s → X0 v0 v1 s) (fun v0 v1 s hb hy => hX0 v0 v1 s (cj_303_p4 (X41 := fun v0 v1 s => Y v0 v1 s → X0 v0 v1 s) (X42 := Y) (X43 := X0) (hX4 := fun v0 v1 s a b => a b) hQ hb (hY v0 v1 s hy))) hY0
def fw_303 (a1 : Int) (Q : Bool → lf_Z → Prop) (s : lf_Z) : Prop := fw_303_p4L Q a1 0 0 s
theorem cj_303 {Q1 Q2 Q3 : Bool → lf_Z → Prop} {a1 : Int} {s : lf_Z} (hQ : ∀ (r : Bool) (s : lf_Z), Q1 r s → Q2 r s → Q3 r s) (h1 : fm_303 a1 Q1 s) (h2 : fw_303 a1 Q2 s) : fm_303 a1 Q3 s := by
  unfold fm_303 at h1 ⊢
  unfold fw_303 at h2
  exact cj_303_p4L hQ h1 h2
def fw_304_p33 (Q : Bool → lf_Z → Prop) (x3 : Int) (s : lf_Z) : Prop := lf_R x3 → ((0 ≤ x3 → ((0 ≤ x3 ∧ x3 < 6) → (Q true (lf_up s.1 116 x3 ((s.1 116 x3) + 1), s.2.1, s.2.2)))) ∧ (¬ (0 ≤ x3) → (Q false s)))
theorem cj_304_p33 {Q1 Q2 Q3 : Bool → lf_Z → Prop} {x3 : Int} {s : lf_Z} (hQ : ∀ (r : Bool) (s : lf_Z), Q1 r s → Q2 r s → Q3 r s) (h1 : fm_304_p33 Q1 x3 s) (h2 : fw_304_p33 Q2 x3 s) : fm_304_p33 Q3 x3 s := by
  unfold fm_304_p33 at h1 ⊢
  unfold fw_304_p33 at h2
  exact ⟨h1.1, ⟨(fun c2 => ⟨(h1.2.1 c2).1, hQ _ _  (h1.2.1 c2).2 (((h2 h1.1).1 c2) (h1.2.1 c2).1)⟩), (fun c2 => hQ _ _  (h1.2.2 c2) ((h2 h1.1).2 c2))⟩⟩
def fw_304_p4 (Q : Bool → lf_Z → Prop) (x2 : Int) (X4 : Int → lf_Z → Prop) (x3 : Int) (s : lf_Z) : Prop := lf_R x3 → ((x3 < 0 → (fw_304_p33 Q x3 s)) ∧ (¬ (x3 < 0) → ((0 ≤ x3 ∧ x3 < 6) → (lf_R (s.1 116 x3) → (lf_R (x2 - 1) → ((s.1 116 x3 ≠ x2 - 1 → (fw_304_p33 Q x3 s)) ∧ (¬ (s.1 116 x3 ≠ x2 - 1) → (X4 (x3 + (-1)) (lf_up s.1 116 x3 0, s.2.1, s.2.2)))))))))
theorem cj_304_p4 {X41 X42 X43 : Int → lf_Z → Prop} {Q1 Q2 Q3 : Bool → lf_Z → Prop} {x2 : Int} {x3 : Int} {s : lf_Z} (hX4 : ∀ (v0 : Int) (v1 : lf_Z), X41 v0 v1 → X42 v0 v1 → X43 v0 v1) (hQ : ∀ (r : Bool) (s : lf_Z), Q1 r s → Q2 r s → Q3 r s) (h1 : fm_304_p4 Q1 x2 X41 x3 s) (h2 : fw_304_p4 Q2 x2 X42 x3 s) : fm_304_p4 Q3 x2 X43 x3 s := by
  unfold fm_304_p4 at h1 ⊢
  unfold fw_304_p4 at h2
  exact ⟨h1.1, ⟨(fun c2 => cj_304_p33 hQ (h1.2.1 c2) ((h2 h1.1).1 c2)), (fun c2 => ⟨(h1.2.2 c2).1, ⟨(h1.2.2 c2).2.1, ⟨(h1.2.2 c2).2.2.1, ⟨(fun c7 => cj_304_p33 hQ ((h1.2.2 c2).2.2.2.1 c7) ((((((h2 h1.1).2 c2) (h1.2.2 c2).1) (h1.2.2 c2).2.1) (h1.2.2 c2).2.2.1).1 c7)), (fun c7 => hX4 _ _  ((h1.2.2 c2).2.2.2.2 c7) ((((((h2 h1.1).2 c2) (h1.2.2 c2).1) (h1.2.2 c2).2.1) (h1.2.2 c2).2.2.1).2 c7))⟩⟩⟩⟩)⟩⟩
def fw_304_p4L (Q : Bool → lf_Z → Prop) (x2 : Int) (x3 : Int) (s : lf_Z) : Prop := ∃ X4 : Int → lf_Z → Prop, (∀ (x3 : Int) (s : lf_Z), X4 x3 s → fw_304_p4 Q x2 X4 x3 s) ∧ X4 x3 s
theorem cj_304_p4L {Q1 Q2 Q3 : Bool → lf_Z → Prop} {x2 : Int} {x3 : Int} {s : lf_Z} (hQ : ∀ (r : Bool) (s : lf_Z), Q1 r s → Q2 r s → Q3 r s) (h1 : fm_304_p4L Q1 x2 x3 s) (h2 : fw_304_p4L Q2 x2 x3 s) : fm_304_p4L Q3 x2 x3 s := by
  intro X0 hX0
  obtain ⟨Y, hY, hY0⟩ := h2
  exact h1 (fun v0 s => Y v0 s → X0 v0 s) (fun v0 s hb hy => hX0 v0 s (cj_304_p4 (X41 := fun v0 s => Y v0 s → X0 v0 s) (X42 := Y) (X43 := X0) (hX4 := fun v0 s a b => a b) hQ hb (hY v0 s hy))) hY0
def fw_304 (a1 : Int) (a2 : Int) (Q : Bool → lf_Z → Prop) (s : lf_Z) : Prop := fw_304_p4L Q a2 (a1 - 1) s
theorem cj_304 {Q1 Q2 Q3 : Bool → lf_Z → Prop} {a1 : Int} {a2 : Int} {s : lf_Z} (hQ : ∀ (r : Bool) (s : lf_Z), Q1 r s → Q2 r s → Q3 r s) (h1 : fm_304 a1 a2 Q1 s) (h2 : fw_304 a1 a2 Q2 s) : fm_304 a1 a2 Q3 s := by
  unfold fm_304 at h1 ⊢
  unfold fw_304 at h2
  exact cj_304_p4L hQ h1 h2
def fw_302_p162 (X30 : Int → Int → lf_Z → Prop) (Q : Int → lf_Z → Prop) (x1 : Int) (x2 : Int) (y0 : Int) (s : lf_Z) : Prop := fw_304 x1 x2 (fun z33 s32 => (X30 y0 (lf_b z33) s32)) s
theorem cj_302_p162 {X301 X302 X303 : Int → Int → lf_Z → Prop} {Q1 Q2 Q3 : Int → lf_Z → Prop} {x1 : Int} {x2 : Int} {y0 : Int} {s : lf_Z} (hX30 : ∀ (v0 : Int) (v1 : Int) (v2 : lf_Z), X301 v0 v1 v2 → X302 v0 v1 v2 → X303 v0 v1 v2) (hQ : ∀ (r : Int) (s : lf_Z), Q1 r s → Q2 r s → Q3 r s) (h1 : fm_302_p162 X301 Q1 x1 x2 y0 s) (h2 : fw_302_p162 X302 Q2 x1 x2 y0 s) : fm_302_p162 X303 Q3 x1 x2 y0 s := by
  unfold fm_302_p162 at h1 ⊢
  unfold fw_302_p162 at h2
  exact cj_304 (fun z33 s32 k1 l1 => hX30 _ _ _  k1 l1) h1 h2
def fw_302_p150 (X30 : Int → Int → lf_Z → Prop) (Q : Int → lf_Z → Prop) (x1 : Int) (x2 : Int) (x3 : Int) (x5 : Int) (s : lf_Z) : Prop := lf_R x5 → (lf_R x3 → ((x3 ≤ x5 → (fw_302_p162 X30 Q x1 x2 x3 s)) ∧ (¬ (x3 ≤ x5) → (fw_302_p162 X30 Q x1 x2 x5 s))))
theorem cj_302_p150 {X301 X302 X303 : Int → Int → lf_Z → Prop} {Q1 Q2 Q3 : Int → lf_Z → Prop} {x1 : Int} {x2 : Int} {x3 : Int} {x5 : Int} {s : lf_Z} (hX30 : ∀ (v0 : Int) (v1 : Int) (v2 : lf_Z), X301 v0 v1 v2 → X302 v0 v1 v2 → X303 v0 v1 v2) (hQ : ∀ (r : Int) (s : lf_Z), Q1 r s → Q2 r s → Q3 r s) (h1 : fm_302_p150 X301 Q1 x1 x2 x3 x5 s) (h2 : fw_302_p150 X302 Q2 x1 x2 x3 x5 s) : fm_302_p150 X303 Q3 x1 x2 x3 x5 s := by
  unfold fm_302_p150 at h1 ⊢
  unfold fw_302_p150 at h2
  exact ⟨h1.1, ⟨h1.2.1, ⟨(fun c3 => cj_302_p162 hX30 hQ (h1.2.2.1 c3) (((h2 h1.1) h1.2.1).1 c3)), (fun c3 => cj_302_p162 hX30 hQ (h1.2.2.2 c3) (((h2 h1.1) h1.2.1).2 c3))⟩⟩⟩
def fw_302_p118 (X30 : Int → Int → lf_Z → Prop) (Q : Int → lf_Z → Prop) (x1 : Int) (x2 : Int) (x3 : Int) (x5 : Int) (X118 : Int → lf_Z → Prop) (x6 : Int) (s : lf_Z) : Prop := lf_R x6 → (lf_R x1 → ((x1 ≤ x6 → (fw_302_p150 X30 Q x1 x2 x3 x5 s)) ∧ (¬ (x1 ≤ x6) → (lf_R x5 → (lf_R x3 → ((x3 ≤ x5 → (fw_302_p150 X30 Q x1 x2 x3 x5 s)) ∧ (¬ (x3 ≤ x5) → ((0 ≤ x6 ∧ x6 < 6) → (X118 (x6 + 1) (lf_up s.1 117 x6 (s.1 116 x6), s.2.1, s.2.2))))))))))
theorem cj_302_p118 {X301 X302 X303 : Int → Int → lf_Z → Prop} {X1181 X1182 X1183 : Int → lf_Z → Prop} {Q1 Q2 Q3 : Int → lf_Z → Prop} {x1 : Int} {x2 : Int} {x3 : Int} {x5 : Int} {x6 : Int} {s : lf_Z} (hX30 : ∀ (v0 : Int) (v1 : Int) (v2 : lf_Z), X301 v0 v1 v2 → X302 v0 v1 v2 → X303 v0 v1 v2) (hX118 : ∀ (v0 : Int) (v1 : lf_Z), X1181 v0 v1 → X1182 v0 v1 → X1183 v0 v1) (hQ : ∀ (r : Int) (s : lf_Z), Q1 r s → Q2 r s → Q3 r s) (h1 : fm_302_p118 X301 Q1 x1 x2 x3 x5 X1181 x6 s) (h2 : fw_302_p118 X302 Q2 x1 x2 x3 x5 X1182 x6 s) : fm_302_p118 X303 Q3 x1 x2 x3 x5 X1183 x6 s := by
  unfold fm_302_p118 at h1 ⊢
  unfold fw_302_p118 at h2
  exact ⟨h1.1, ⟨h1.2.1, ⟨(fun c3 => cj_302_p150 hX30 hQ (h1.2.2.1 c3) (((h2 h1.1) h1.2.1).1 c3)), (fun c3 => ⟨(h1.2.2.2 c3).1, ⟨(h1.2.2.2 c3).2.1, ⟨(fun c7 => cj_302_p150 hX30 hQ ((h1.2.2.2 c3).2.2.1 c7) ((((((h2 h1.1) h1.2.1).2 c3) (h1.2.2.2 c3).1) (h1.2.2.2 c3).2.1).1 c7)), (fun c7 => ⟨((h1.2.2.2 c3).2.2.2 c7).1, hX118 _ _  ((h1.2.2.2 c3).2.2.2 c7).2 (((((((h2 h1.1) h1.2.1).2 c3) (h1.2.2.2 c3).1) (h1.2.2.2 c3).2.1).2 c7) ((h1.2.2.2 c3).2.2.2 c7).1)⟩)⟩⟩⟩)⟩⟩⟩
def fw_302_p118L (X30 : Int → Int → lf_Z → Prop) (Q : Int → lf_Z → Prop) (x1 : Int) (x2 : Int) (x3 : Int) (x5 : Int) (x6 : Int) (s : lf_Z) : Prop := ∃ X118 : Int → lf_Z → Prop, (∀ (x6 : Int) (s : lf_Z), X118 x6 s → fw_302_p118 X30 Q x1 x2 x3 x5 X118 x6 s) ∧ X118 x6 s
theorem cj_302_p118L {X301 X302 X303 : Int → Int → lf_Z → Prop} {Q1 Q2 Q3 : Int → lf_Z → Prop} {x1 : Int} {x2 : Int} {x3 : Int} {x5 : Int} {x6 : Int} {s : lf_Z} (hX30 : ∀ (v0 : Int) (v1 : Int) (v2 : lf_Z), X301 v0 v1 v2 → X302 v0 v1 v2 → X303 v0 v1 v2) (hQ : ∀ (r : Int) (s : lf_Z), Q1 r s → Q2 r s → Q3 r s) (h1 : fm_302_p118L X301 Q1 x1 x2 x3 x5 x6 s) (h2 : fw_302_p118L X302 Q2 x1 x2 x3 x5 x6 s) : fm_302_p118L X303 Q3 x1 x2 x3 x5 x6 s := by
  intro X0 hX0
  obtain ⟨Y, hY, hY0⟩ := h2
  exact h1 (fun v0 s => Y v0 s → X0 v0 s) (fun v0 s hb hy => hX0 v0 s (cj_302_p118 (hX30 := hX30) (X1181 := fun v0 s => Y v0 s → X0 v0 s) (X1182 := Y) (X1183 := X0) (hX118 := fun v0 s a b => a b) hQ hb (hY v0 s hy))) hY0
def fw_302_p107 (X30 : Int → Int → lf_Z → Prop) (X55 : Int → Int → lf_Z → Prop) (Q : Int → lf_Z → Prop) (x1 : Int) (x2 : Int) (x3 : Int) (x6 : Int) (y0 : Int) (s : lf_Z) : Prop := X55 y0 (x6 + 1) s
theorem cj_302_p107 {X301 X302 X303 : Int → Int → lf_Z → Prop} {X551 X552 X553 : Int → Int → lf_Z → Prop} {Q1 Q2 Q3 : Int → lf_Z → Prop} {x1 : Int} {x2 : Int} {x3 : Int} {x6 : Int} {y0 : Int} {s : lf_Z} (hX30 : ∀ (v0 : Int) (v1 : Int) (v2 : lf_Z), X301 v0 v1 v2 → X302 v0 v1 v2 → X303 v0 v1 v2) (hX55 : ∀ (v0 : Int) (v1 : Int) (v2 : lf_Z), X551 v0 v1 v2 → X552 v0 v1 v2 → X553 v0 v1 v2) (hQ : ∀ (r : Int) (s : lf_Z), Q1 r s → Q2 r s → Q3 r s) (h1 : fm_302_p107 X301 X551 Q1 x1 x2 x3 x6 y0 s) (h2 : fw_302_p107 X302 X552 Q2 x1 x2 x3 x6 y0 s) : fm_302_p107 X303 X553 Q3 x1 x2 x3 x6 y0 s := by
  unfold fm_302_p107 at h1 ⊢
  unfold fw_302_p107 at h2
  exact hX55 _ _ _  h1 h2
def fw_302_p55 (X30 : Int → Int → lf_Z → Prop) (Q : Int → lf_Z → Prop) (x1 : Int) (x2 : Int) (x3 : Int) (X55 : Int → Int → lf_Z → Prop) (x5 : Int) (x6 : Int) (s : lf_Z) : Prop := lf_R x6 → (lf_R x1 → ((x1 ≤ x6 → (fw_302_p118L X30 Q x1 x2 x3 x5 0 s)) ∧ (¬ (x1 ≤ x6) → ((0 ≤ x6 ∧ x6 < 6) → ((0 ≤ (12 * (s.1 116 x6)) + x6 ∧ (12 * (s.1 116 x6)) + x6 < 72) → (lf_R (s.1 115 ((12 * (s.1 116 x6)) + x6)) → (lf_R x5 → ((s.1 115 ((12 * (s.1 116 x6)) + x6) ≤ x5 → (fw_302_p107 X30 X55 Q x1 x2 x3 x6 x5 s)) ∧ (¬ (s.1 115 ((12 * (s.1 116 x6)) + x6) ≤ x5) → (fw_302_p107 X30 X55 Q x1 x2 x3 x6 (s.1 115 ((12 * (s.1 116 x6)) + x6)) s))))))))))
theorem cj_302_p55 {X301 X302 X303 : Int → Int → lf_Z → Prop} {X551 X552 X553 : Int → Int → lf_Z → Prop} {Q1 Q2 Q3 : Int → lf_Z → Prop} {x1 : Int} {x2 : Int} {x3 : Int} {x5 : Int} {x6 : Int} {s : lf_Z} (hX30 : ∀ (v0 : Int) (v1 : Int) (v2 : lf_Z), X301 v0 v1 v2 → X302 v0 v1 v2 → X303 v0 v1 v2) (hX55 : ∀ (v0 : Int) (v1 : Int) (v2 : lf_Z), X551 v0 v1 v2 → X552 v0 v1 v2 → X553 v0 v1 v2) (hQ : ∀ (r : Int) (s : lf_Z), Q1 r s → Q2 r s → Q3 r s) (h1 : fm_302_p55 X301 Q1 x1 x2 x3 X551 x5 x6 s) (h2 : fw_302_p55 X302 Q2 x1 x2 x3 X552 x5 x6 s) : fm_302_p55 X303 Q3 x1 x2 x3 X553 x5 x6 s := by
  unfold fm_302_p55 at h1 ⊢
  unfold fw_302_p55 at h2
  exact ⟨h1.1, ⟨h1.2.1, ⟨(fun c3 => cj_302_p118L hX30 hQ (h1.2.2.1 c3) (((h2 h1.1) h1.2.1).1 c3)), (fun c3 => ⟨(h1.2.2.2 c3).1, ⟨(h1.2.2.2 c3).2.1, ⟨(h1.2.2.2 c3).2.2.1, ⟨(h1.2.2.2 c3).2.2.2.1, ⟨(fun c9 => cj_302_p107 hX30 hX55 hQ ((h1.2.2.2 c3).2.2.2.2.1 c9) ((((((((h2 h1.1) h1.2.1).2 c3) (h1.2.2.2 c3).1) (h1.2.2.2 c3).2.1) (h1.2.2.2 c3).2.2.1) (h1.2.2.2 c3).2.2.2.1).1 c9)), (fun c9 => cj_302_p107 hX30 hX55 hQ ((h1.2.2.2 c3).2.2.2.2.2 c9) ((((((((h2 h1.1) h1.2.1).2 c3) (h1.2.2.2 c3).1) (h1.2.2.2 c3).2.1) (h1.2.2.2 c3).2.2.1) (h1.2.2.2 c3).2.2.2.1).2 c9))⟩⟩⟩⟩⟩)⟩⟩⟩
def fw_302_p55L (X30 : Int → Int → lf_Z → Prop) (Q : Int → lf_Z → Prop) (x1 : Int) (x2 : Int) (x3 : Int) (x5 : Int) (x6 : Int) (s : lf_Z) : Prop := ∃ X55 : Int → Int → lf_Z → Prop, (∀ (x5 : Int) (x6 : Int) (s : lf_Z), X55 x5 x6 s → fw_302_p55 X30 Q x1 x2 x3 X55 x5 x6 s) ∧ X55 x5 x6 s
theorem cj_302_p55L {X301 X302 X303 : Int → Int → lf_Z → Prop} {Q1 Q2 Q3 : Int → lf_Z → Prop} {x1 : Int} {x2 : Int} {x3 : Int} {x5 : Int} {x6 : Int} {s : lf_Z} (hX30 : ∀ (v0 : Int) (v1 : Int) (v2 : lf_Z), X301 v0 v1 v2 → X302 v0 v1 v2 → X303 v0 v1 v2) (hQ : ∀ (r : Int) (s : lf_Z), Q1 r s → Q2 r s → Q3 r s) (h1 : fm_302_p55L X301 Q1 x1 x2 x3 x5 x6 s) (h2 : fw_302_p55L X302 Q2 x1 x2 x3 x5 x6 s) : fm_302_p55L X303 Q3 x1 x2 x3 x5 x6 s := by
  intro X0 hX0
  obtain ⟨Y, hY, hY0⟩ := h2
  exact h1 (fun v0 v1 s => Y v0 v1 s → X0 v0 v1 s) (fun v0 v1 s hb hy => hX0 v0 v1 s (cj_302_p55 (hX30 := hX30) (X551 := fun v0 v1 s => Y v0 v1 s → X0 v0 v1 s) (X552 := Y) (X553 := X0) (hX55 := fun v0 v1 s a b => a b) hQ hb (hY v0 v1 s hy))) hY0
def fw_302_p50 (X30 : Int → Int → lf_Z → Prop) (Q : Int → lf_Z → Prop) (x1 : Int) (x2 : Int) (x3 : Int) (y0 : Int) (s : lf_Z) : Prop := fw_302_p55L X30 Q x1 x2 x3 y0 0 s
theorem cj_302_p50 {X301 X302 X303 : Int → Int → lf_Z → Prop} {Q1 Q2 Q3 : Int → lf_Z → Prop} {x1 : Int} {x2 : Int} {x3 : Int} {y0 : Int} {s : lf_Z} (hX30 : ∀ (v0 : Int) (v1 : Int) (v2 : lf_Z), X301 v0 v1 v2 → X302 v0 v1 v2 → X303 v0 v1 v2) (hQ : ∀ (r : Int) (s : lf_Z), Q1 r s → Q2 r s → Q3 r s) (h1 : fm_302_p50 X301 Q1 x1 x2 x3 y0 s) (h2 : fw_302_p50 X302 Q2 x1 x2 x3 y0 s) : fm_302_p50 X303 Q3 x1 x2 x3 y0 s := by
  unfold fm_302_p50 at h1 ⊢
  unfold fw_302_p50 at h2
  exact cj_302_p55L hX30 hQ h1 h2
def fw_302_p30 (Q : Int → lf_Z → Prop) (x1 : Int) (x2 : Int) (X30 : Int → Int → lf_Z → Prop) (x3 : Int) (x4 : Int) (s : lf_Z) : Prop := lf_R x4 → ((x4 = 0 → (Q x3 s)) ∧ (¬ (x4 = 0) → (fw_303 x1 (fun z25 s24 => ((z25 = false → (fw_302_p50 X30 Q x1 x2 x3 1000 s24)) ∧ (z25 = true → (fw_302_p50 X30 Q x1 x2 x3 0 s24)))) s)))
theorem cj_302_p30 {X301 X302 X303 : Int → Int → lf_Z → Prop} {Q1 Q2 Q3 : Int → lf_Z → Prop} {x1 : Int} {x2 : Int} {x3 : Int} {x4 : Int} {s : lf_Z} (hX30 : ∀ (v0 : Int) (v1 : Int) (v2 : lf_Z), X301 v0 v1 v2 → X302 v0 v1 v2 → X303 v0 v1 v2) (hQ : ∀ (r : Int) (s : lf_Z), Q1 r s → Q2 r s → Q3 r s) (h1 : fm_302_p30 Q1 x1 x2 X301 x3 x4 s) (h2 : fw_302_p30 Q2 x1 x2 X302 x3 x4 s) : fm_302_p30 Q3 x1 x2 X303 x3 x4 s := by
  unfold fm_302_p30 at h1 ⊢
  unfold fw_302_p30 at h2
  exact ⟨h1.1, ⟨(fun c2 => hQ _ _  (h1.2.1 c2) ((h2 h1.1).1 c2)), (fun c2 => cj_303 (fun z25 s24 k4 l4 => ⟨(fun c5 => cj_302_p50 hX30 hQ (k4.1 c5) (l4.1 c5)), (fun c5 => cj_302_p50 hX30 hQ (k4.2 c5) (l4.2 c5))⟩) (h1.2.2 c2) ((h2 h1.1).2 c2))⟩⟩
def fw_302_p30L (Q : Int → lf_Z → Prop) (x1 : Int) (x2 : Int) (x3 : Int) (x4 : Int) (s : lf_Z) : Prop := ∃ X30 : Int → Int → lf_Z → Prop, (∀ (x3 : Int) (x4 : Int) (s : lf_Z), X30 x3 x4 s → fw_302_p30 Q x1 x2 X30 x3 x4 s) ∧ X30 x3 x4 s
theorem cj_302_p30L {Q1 Q2 Q3 : Int → lf_Z → Prop} {x1 : Int} {x2 : Int} {x3 : Int} {x4 : Int} {s : lf_Z} (hQ : ∀ (r : Int) (s : lf_Z), Q1 r s → Q2 r s → Q3 r s) (h1 : fm_302_p30L Q1 x1 x2 x3 x4 s) (h2 : fw_302_p30L Q2 x1 x2 x3 x4 s) : fm_302_p30L Q3 x1 x2 x3 x4 s := by
  intro X0 hX0
  obtain ⟨Y, hY, hY0⟩ := h2
  exact h1 (fun v0 v1 s => Y v0 v1 s → X0 v0 v1 s) (fun v0 v1 s hb hy => hX0 v0 v1 s (cj_302_p30 (X301 := fun v0 v1 s => Y v0 v1 s → X0 v0 v1 s) (X302 := Y) (X303 := X0) (hX30 := fun v0 v1 s a b => a b) hQ hb (hY v0 v1 s hy))) hY0
def fw_302_p7 (Q : Int → lf_Z → Prop) (x1 : Int) (x2 : Int) (x3 : Int) (X7 : Int → lf_Z → Prop) (x4 : Int) (s : lf_Z) : Prop := lf_R x4 → (lf_R x1 → ((x1 ≤ x4 → (fw_302_p30L Q x1 x2 x3 1 s)) ∧ (¬ (x1 ≤ x4) → ((0 ≤ x4 ∧ x4 < 6) → (X7 (x4 + 1) (lf_up s.1 116 x4 0, s.2.1, s.2.2))))))
theorem cj_302_p7 {X71 X72 X73 : Int → lf_Z → Prop} {Q1 Q2 Q3 : Int → lf_Z → Prop} {x1 : Int} {x2 : Int} {x3 : Int} {x4 : Int} {s : lf_Z} (hX7 : ∀ (v0 : Int) (v1 : lf_Z), X71 v0 v1 → X72 v0 v1 → X73 v0 v1) (hQ : ∀ (r : Int) (s : lf_Z), Q1 r s → Q2 r s → Q3 r s) (h1 : fm_302_p7 Q1 x1 x2 x3 X71 x4 s) (h2 : fw_302_p7 Q2 x1 x2 x3 X72 x4 s) : fm_302_p7 Q3 x1 x2 x3 X73 x4 s := by
  unfold fm_302_p7 at h1 ⊢
  unfold fw_302_p7 at h2
  exact ⟨h1.1, ⟨h1.2.1, ⟨(fun c3 => cj_302_p30L hQ (h1.2.2.1 c3) (((h2 h1.1) h1.2.1).1 c3)), (fun c3 => ⟨(h1.2.2.2 c3).1, hX7 _ _  (h1.2.2.2 c3).2 ((((h2 h1.1) h1.2.1).2 c3) (h1.2.2.2 c3).1)⟩)⟩⟩⟩
def fw_302_p7L (Q : Int → lf_Z → Prop) (x1 : Int) (x2 : Int) (x3 : Int) (x4 : Int) (s : lf_Z) : Prop := ∃ X7 : Int → lf_Z → Prop, (∀ (x4 : Int) (s : lf_Z), X7 x4 s → fw_302_p7 Q x1 x2 x3 X7 x4 s) ∧ X7 x4 s
theorem cj_302_p7L {Q1 Q2 Q3 : Int → lf_Z → Prop} {x1 : Int} {x2 : Int} {x3 : Int} {x4 : Int} {s : lf_Z} (hQ : ∀ (r : Int) (s : lf_Z), Q1 r s → Q2 r s → Q3 r s) (h1 : fm_302_p7L Q1 x1 x2 x3 x4 s) (h2 : fw_302_p7L Q2 x1 x2 x3 x4 s) : fm_302_p7L Q3 x1 x2 x3 x4 s := by
  intro X0 hX0
  obtain ⟨Y, hY, hY0⟩ := h2
  exact h1 (fun v0 s => Y v0 s → X0 v0 s) (fun v0 s hb hy => hX0 v0 s (cj_302_p7 (X71 := fun v0 s => Y v0 s → X0 v0 s) (X72 := Y) (X73 := X0) (hX7 := fun v0 s a b => a b) hQ hb (hY v0 s hy))) hY0
def fw_302 (a1 : Int) (a2 : Int) (Q : Int → lf_Z → Prop) (s : lf_Z) : Prop := fw_302_p7L Q a1 a2 1000 0 s
theorem cj_302 {Q1 Q2 Q3 : Int → lf_Z → Prop} {a1 : Int} {a2 : Int} {s : lf_Z} (hQ : ∀ (r : Int) (s : lf_Z), Q1 r s → Q2 r s → Q3 r s) (h1 : fm_302 a1 a2 Q1 s) (h2 : fw_302 a1 a2 Q2 s) : fm_302 a1 a2 Q3 s := by
  unfold fm_302 at h1 ⊢
  unfold fw_302 at h2
  exact cj_302_p7L hQ h1 h2
def fw_300_p203 (Q : Int → lf_Z → Prop) (x3 : Int) (X203 : Int → lf_Z → Prop) (x7 : Int) (s : lf_Z) : Prop := (0 ≤ x7 ∧ x7 < 12) → (lf_R (s.1 114 x7) → (lf_R x3 → ((s.1 114 x7 = x3 → ((0 ≤ x7 ∧ x7 < 6) → ((0 ≤ s.1 117 x7 ∧ s.1 117 x7 < 6) → (Q (s.1 113 (s.1 117 x7)) s)))) ∧ (¬ (s.1 114 x7 = x3) → (X203 (x7 + 1) s)))))
theorem cj_300_p203 {X2031 X2032 X2033 : Int → lf_Z → Prop} {Q1 Q2 Q3 : Int → lf_Z → Prop} {x3 : Int} {x7 : Int} {s : lf_Z} (hX203 : ∀ (v0 : Int) (v1 : lf_Z), X2031 v0 v1 → X2032 v0 v1 → X2033 v0 v1) (hQ : ∀ (r : Int) (s : lf_Z), Q1 r s → Q2 r s → Q3 r s) (h1 : fm_300_p203 Q1 x3 X2031 x7 s) (h2 : fw_300_p203 Q2 x3 X2032 x7 s) : fm_300_p203 Q3 x3 X2033 x7 s := by
  unfold fm_300_p203 at h1 ⊢
  unfold fw_300_p203 at h2
  exact ⟨h1.1, ⟨h1.2.1, ⟨h1.2.2.1, ⟨(fun c4 => ⟨(h1.2.2.2.1 c4).1, ⟨(h1.2.2.2.1 c4).2.1, hQ _ _  (h1.2.2.2.1 c4).2.2 ((((((h2 h1.1) h1.2.1) h1.2.2.1).1 c4) (h1.2.2.2.1 c4).1) (h1.2.2.2.1 c4).2.1)⟩⟩), (fun c4 => hX203 _ _  (h1.2.2.2.2 c4) ((((h2 h1.1) h1.2.1) h1.2.2.1).2 c4))⟩⟩⟩⟩
def fw_300_p203L (Q : Int → lf_Z → Prop) (x3 : Int) (x7 : Int) (s : lf_Z) : Prop := ∃ X203 : Int → lf_Z → Prop, (∀ (x7 : Int) (s : lf_Z), X203 x7 s → fw_300_p203 Q x3 X203 x7 s) ∧ X203 x7 s
theorem cj_300_p203L {Q1 Q2 Q3 : Int → lf_Z → Prop} {x3 : Int} {x7 : Int} {s : lf_Z} (hQ : ∀ (r : Int) (s : lf_Z), Q1 r s → Q2 r s → Q3 r s) (h1 : fm_300_p203L Q1 x3 x7 s) (h2 : fw_300_p203L Q2 x3 x7 s) : fm_300_p203L Q3 x3 x7 s := by
  intro X0 hX0
  obtain ⟨Y, hY, hY0⟩ := h2
  exact h1 (fun v0 s => Y v0 s → X0 v0 s) (fun v0 s hb hy => hX0 v0 s (cj_300_p203 (X2031 := fun v0 s => Y v0 s → X0 v0 s) (X2032 := Y) (X2033 := X0) (hX203 := fun v0 s a b => a b) hQ hb (hY v0 s hy))) hY0
def fw_300_p117 (X95 : Int → lf_Z → Prop) (Q : Int → lf_Z → Prop) (x3 : Int) (x4 : Int) (x5 : Int) (x6 : Int) (X117 : Int → lf_Z → Prop) (x7 : Int) (s : lf_Z) : Prop := lf_R x7 → (lf_R x4 → ((x4 ≤ x7 → (X95 (x6 + 1) s)) ∧ (¬ (x4 ≤ x7) → ((0 ≤ x7 ∧ x7 < 6) → (fw_239 (s.1 113 x7) (fun r53 s52 => (fw_299 (s.1 113 x7) r53 (fun r55 s54 => ((0 ≤ (12 * x7) + x6 ∧ (12 * x7) + x6 < 72) → (X117 (x7 + 1) (lf_up s54.1 115 ((12 * x7) + x6) r55, s54.2.1, s54.2.2)))) s52)) s)))))
theorem cj_300_p117 {X951 X952 X953 : Int → lf_Z → Prop} {X1171 X1172 X1173 : Int → lf_Z → Prop} {Q1 Q2 Q3 : Int → lf_Z → Prop} {x3 : Int} {x4 : Int} {x5 : Int} {x6 : Int} {x7 : Int} {s : lf_Z} (hX95 : ∀ (v0 : Int) (v1 : lf_Z), X951 v0 v1 → X952 v0 v1 → X953 v0 v1) (hX117 : ∀ (v0 : Int) (v1 : lf_Z), X1171 v0 v1 → X1172 v0 v1 → X1173 v0 v1) (hQ : ∀ (r : Int) (s : lf_Z), Q1 r s → Q2 r s → Q3 r s) (h1 : fm_300_p117 X951 Q1 x3 x4 x5 x6 X1171 x7 s) (h2 : fw_300_p117 X952 Q2 x3 x4 x5 x6 X1172 x7 s) : fm_300_p117 X953 Q3 x3 x4 x5 x6 X1173 x7 s := by
  unfold fm_300_p117 at h1 ⊢
  unfold fw_300_p117 at h2
  exact ⟨h1.1, ⟨h1.2.1, ⟨(fun c3 => hX95 _ _  (h1.2.2.1 c3) (((h2 h1.1) h1.2.1).1 c3)), (fun c3 => ⟨(h1.2.2.2 c3).1, cj_239 (fun r53 s52 k6 l6 => cj_299 (fun r55 s54 k7 l7 => ⟨k7.1, hX117 _ _  k7.2 (l7 k7.1)⟩) k6 l6) (h1.2.2.2 c3).2 ((((h2 h1.1) h1.2.1).2 c3) (h1.2.2.2 c3).1)⟩)⟩⟩⟩
def fw_300_p117L (X95 : Int → lf_Z → Prop) (Q : Int → lf_Z → Prop) (x3 : Int) (x4 : Int) (x5 : Int) (x6 : Int) (x7 : Int) (s : lf_Z) : Prop := ∃ X117 : Int → lf_Z → Prop, (∀ (x7 : Int) (s : lf_Z), X117 x7 s → fw_300_p117 X95 Q x3 x4 x5 x6 X117 x7 s) ∧ X117 x7 s
theorem cj_300_p117L {X951 X952 X953 : Int → lf_Z → Prop} {Q1 Q2 Q3 : Int → lf_Z → Prop} {x3 : Int} {x4 : Int} {x5 : Int} {x6 : Int} {x7 : Int} {s : lf_Z} (hX95 : ∀ (v0 : Int) (v1 : lf_Z), X951 v0 v1 → X952 v0 v1 → X953 v0 v1) (hQ : ∀ (r : Int) (s : lf_Z), Q1 r s → Q2 r s → Q3 r s) (h1 : fm_300_p117L X951 Q1 x3 x4 x5 x6 x7 s) (h2 : fw_300_p117L X952 Q2 x3 x4 x5 x6 x7 s) : fm_300_p117L X953 Q3 x3 x4 x5 x6 x7 s := by
  intro X0 hX0
  obtain ⟨Y, hY, hY0⟩ := h2
  exact h1 (fun v0 s => Y v0 s → X0 v0 s) (fun v0 s hb hy => hX0 v0 s (cj_300_p117 (hX95 := hX95) (X1171 := fun v0 s => Y v0 s → X0 v0 s) (X1172 := Y) (X1173 := X0) (hX117 := fun v0 s a b => a b) hQ hb (hY v0 s hy))) hY0
def fw_300_p95 (Q : Int → lf_Z → Prop) (x3 : Int) (x4 : Int) (x5 : Int) (X95 : Int → lf_Z → Prop) (x6 : Int) (s : lf_Z) : Prop := lf_R x6 → (lf_R x5 → ((x5 ≤ x6 → (fw_302 x5 x4 (fun r39 s38 => (lf_R r39 → ((r39 < 1000 → (lf_R x3 → ((x3 ≠ (-1) → (fw_300_p203L Q x3 0 s38)) ∧ (¬ (x3 ≠ (-1)) → (Q r39 s38))))) ∧ (¬ (r39 < 1000) → (Q (-1) s38))))) s)) ∧ (¬ (x5 ≤ x6) → ((0 ≤ x6 ∧ x6 < 12) → (fw_261 (s.1 114 x6) 1 (fun s48 => (fw_300_p117L X95 Q x3 x4 x5 x6 0 s48)) s)))))
theorem cj_300_p95 {X951 X952 X953 : Int → lf_Z → Prop} {Q1 Q2 Q3 : Int → lf_Z → Prop} {x3 : Int} {x4 : Int} {x5 : Int} {x6 : Int} {s : lf_Z} (hX95 : ∀ (v0 : Int) (v1 : lf_Z), X951 v0 v1 → X952 v0 v1 → X953 v0 v1) (hQ : ∀ (r : Int) (s : lf_Z), Q1 r s → Q2 r s → Q3 r s) (h1 : fm_300_p95 Q1 x3 x4 x5 X951 x6 s) (h2 : fw_300_p95 Q2 x3 x4 x5 X952 x6 s) : fm_300_p95 Q3 x3 x4 x5 X953 x6 s := by
  unfold fm_300_p95 at h1 ⊢
  unfold fw_300_p95 at h2
  exact ⟨h1.1, ⟨h1.2.1, ⟨(fun c3 => cj_302 (fun r39 s38 k4 l4 => ⟨k4.1, ⟨(fun c6 => ⟨(k4.2.1 c6).1, ⟨(fun c8 => cj_300_p203L hQ ((k4.2.1 c6).2.1 c8) ((((l4 k4.1).1 c6) (k4.2.1 c6).1).1 c8)), (fun c8 => hQ _ _  ((k4.2.1 c6).2.2 c8) ((((l4 k4.1).1 c6) (k4.2.1 c6).1).2 c8))⟩⟩), (fun c6 => hQ _ _  (k4.2.2 c6) ((l4 k4.1).2 c6))⟩⟩) (h1.2.2.1 c3) (((h2 h1.1) h1.2.1).1 c3)), (fun c3 => ⟨(h1.2.2.2 c3).1, cj_261 (fun s48 k13 l13 => cj_300_p117L hX95 hQ k13 l13) (h1.2.2.2 c3).2 ((((h2 h1.1) h1.2.1).2 c3) (h1.2.2.2 c3).1)⟩)⟩⟩⟩
def fw_300_p95L (Q : Int → lf_Z → Prop) (x3 : Int) (x4 : Int) (x5 : Int) (x6 : Int) (s : lf_Z) : Prop := ∃ X95 : Int → lf_Z → Prop, (∀ (x6 : Int) (s : lf_Z), X95 x6 s → fw_300_p95 Q x3 x4 x5 X95 x6 s) ∧ X95 x6 s
theorem cj_300_p95L {Q1 Q2 Q3 : Int → lf_Z → Prop} {x3 : Int} {x4 : Int} {x5 : Int} {x6 : Int} {s : lf_Z} (hQ : ∀ (r : Int) (s : lf_Z), Q1 r s → Q2 r s → Q3 r s) (h1 : fm_300_p95L Q1 x3 x4 x5 x6 s) (h2 : fw_300_p95L Q2 x3 x4 x5 x6 s) : fm_300_p95L Q3 x3 x4 x5 x6 s := by
  intro X0 hX0
  obtain ⟨Y, hY, hY0⟩ := h2
  exact h1 (fun v0 s => Y v0 s → X0 v0 s) (fun v0 s hb hy => hX0 v0 s (cj_300_p95 (X951 := fun v0 s => Y v0 s → X0 v0 s) (X952 := Y) (X953 := X0) (hX95 := fun v0 s a b => a b) hQ hb (hY v0 s hy))) hY0
def fw_300_p72 (Q : Int → lf_Z → Prop) (x1 : Int) (x2 : Int) (x3 : Int) (s : lf_Z) : Prop := fw_301 x1 (fun r33 s32 => (fw_301b x2 (fun r35 s34 => (fw_300_p95L Q x3 r33 r35 0 s34)) s32)) s
theorem cj_300_p72 {Q1 Q2 Q3 : Int → lf_Z → Prop} {x1 : Int} {x2 : Int} {x3 : Int} {s : lf_Z} (hQ : ∀ (r : Int) (s : lf_Z), Q1 r s → Q2 r s → Q3 r s) (h1 : fm_300_p72 Q1 x1 x2 x3 s) (h2 : fw_300_p72 Q2 x1 x2 x3 s) : fm_300_p72 Q3 x1 x2 x3 s := by
  unfold fm_300_p72 at h1 ⊢
  unfold fw_300_p72 at h2
  exact cj_301 (fun r33 s32 k1 l1 => cj_301b (fun r35 s34 k2 l2 => cj_300_p95L hQ k2 l2) k1 l1) h1 h2
def fw_300 (a1 : Int) (a2 : Int) (a3 : Int) (Q : Int → lf_Z → Prop) (s : lf_Z) : Prop := fw_183 a1 1 ((lf_shl 1 (s.1 96 2)) - 1) (fun z22 s21 => ((z22 = false → (Q (-1) s21)) ∧ (z22 = true → (fw_183 a2 1 ((lf_shl 1 (s21.1 96 0)) - 1) (fun z24 s23 => ((z24 = false → (Q (-1) s23)) ∧ (z24 = true → (fw_188 a2 (fun r26 s25 => (fw_188 a1 (fun r28 s27 => (lf_R r26 → (lf_R r28 → ((r26 ≤ r28 → (lf_R a3 → ((a3 = (-1) → (fw_300_p72 Q a1 a2 a3 s27)) ∧ (¬ (a3 = (-1)) → (fw_185 a3 (fun z58 s57 => ((z58 = false → (Q (-1) s57)) ∧ (z58 = true → (fw_210 a2 a3 (fun z60 s59 => ((z60 = true → (fw_300_p72 Q a1 a2 a3 s59)) ∧ (z60 = false → (Q (-1) s59)))) s57)))) s27))))) ∧ (¬ (r26 ≤ r28) → (Q (-1) s27)))))) s25)) s23)))) s21)))) s
theorem cj_300 {Q1 Q2 Q3 : Int → lf_Z → Prop} {a1 : Int} {a2 : Int} {a3 : Int} {s : lf_Z} (hQ : ∀ (r : Int) (s : lf_Z), Q1 r s → Q2 r s → Q3 r s) (h1 : fm_300 a1 a2 a3 Q1 s) (h2 : fw_300 a1 a2 a3 Q2 s) : fm_300 a1 a2 a3 Q3 s := by
  unfold fm_300 at h1 ⊢
  unfold fw_300 at h2
  exact cj_183 (fun z22 s21 k1 l1 => ⟨(fun c2 => hQ _ _  (k1.1 c2) (l1.1 c2)), (fun c2 => cj_183 (fun z24 s23 k4 l4 => ⟨(fun c5 => hQ _ _  (k4.1 c5) (l4.1 c5)), (fun c5 => cj_188 (fun r26 s25 k7 l7 => cj_188 (fun r28 s27 k8 l8 => ⟨k8.1, ⟨k8.2.1, ⟨(fun c11 => ⟨(k8.2.2.1 c11).1, ⟨(fun c13 => cj_300_p72 hQ ((k8.2.2.1 c11).2.1 c13) (((((l8 k8.1) k8.2.1).1 c11) (k8.2.2.1 c11).1).1 c13)), (fun c13 => cj_185 (fun z58 s57 k15 l15 => ⟨(fun c16 => hQ _ _  (k15.1 c16) (l15.1 c16)), (fun c16 => cj_210 (fun z60 s59 k18 l18 => ⟨(fun c19 => cj_300_p72 hQ (k18.1 c19) (l18.1 c19)), (fun c19 => hQ _ _  (k18.2 c19) (l18.2 c19))⟩) (k15.2 c16) (l15.2 c16))⟩) ((k8.2.2.1 c11).2.2 c13) (((((l8 k8.1) k8.2.1).1 c11) (k8.2.2.1 c11).1).2 c13))⟩⟩), (fun c11 => hQ _ _  (k8.2.2.2 c11) (((l8 k8.1) k8.2.1).2 c11))⟩⟩⟩) k7 l7) (k4.2 c5) (l4.2 c5))⟩) (k1.2 c2) (l1.2 c2))⟩) h1 h2
def fw_156_p167 (R156 : Int → Int → Int → Int → Int → (lf_Z → Prop) → lf_Z → Prop) (X36 : Int → lf_Z → Prop) (Q : lf_Z → Prop) (x1 : Int) (x2 : Int) (x3 : Int) (x4 : Int) (x5 : Int) (x6 : Int) (s : lf_Z) : Prop := X36 (x6 + 1) s
theorem cj_156_p167 {R1561 R1562 R1563 : Int → Int → Int → Int → Int → (lf_Z → Prop) → lf_Z → Prop} {X361 X362 X363 : Int → lf_Z → Prop} {Q1 Q2 Q3 : lf_Z → Prop} {x1 : Int} {x2 : Int} {x3 : Int} {x4 : Int} {x5 : Int} {x6 : Int} {s : lf_Z} (hR156 : ∀ (v0 : Int) (v1 : Int) (v2 : Int) (v3 : Int) (v4 : Int) (Q1 Q2 Q3 : lf_Z → Prop) (s : lf_Z), (∀ (s : lf_Z), Q1 s → Q2 s → Q3 s) → R1561 v0 v1 v2 v3 v4 Q1 s → R1562 v0 v1 v2 v3 v4 Q2 s → R1563 v0 v1 v2 v3 v4 Q3 s) (hX36 : ∀ (v0 : Int) (v1 : lf_Z), X361 v0 v1 → X362 v0 v1 → X363 v0 v1) (hQ : ∀ (s : lf_Z), Q1 s → Q2 s → Q3 s) (h1 : fm_156_p167 R1561 X361 Q1 x1 x2 x3 x4 x5 x6 s) (h2 : fw_156_p167 R1562 X362 Q2 x1 x2 x3 x4 x5 x6 s) : fm_156_p167 R1563 X363 Q3 x1 x2 x3 x4 x5 x6 s := by
  unfold fm_156_p167 at h1 ⊢
  unfold fw_156_p167 at h2
  exact hX36 _ _  h1 h2
def fw_156_p78 (R156 : Int → Int → Int → Int → Int → (lf_Z → Prop) → lf_Z → Prop) (X36 : Int → lf_Z → Prop) (Q : lf_Z → Prop) (x1 : Int) (x2 : Int) (x3 : Int) (x4 : Int) (x5 : Int) (x6 : Int) (y0 : Int) (s : lf_Z) : Prop := lf_R y0 → ((y0 = (-1) → (fw_156_p167 R156 X36 Q x1 x2 x3 x4 x5 x6 s)) ∧ (¬ (y0 = (-1)) → ((0 ≤ x6 ∧ x6 < 4) → ((0 ≤ s.1 17 x6 ∧ s.1 17 x6 < 12) → ((0 ≤ x1 ∧ x1 < 6) → (R156 (x1 + 1) (lf_and x2 (lf_xor (lf_shl 1 x6) (-1))) (s.1 17 x6) (lf_w (x4 + y0)) (lf_w (x5 + (lf_w ((lf_w ((s.1 16 x6) * (s.1 3 (s.1 17 x6)))) * (lf_w (x4 + y0)))))) (fun s29 => (fw_156_p167 R156 X36 Q x1 x2 x3 x4 x5 x6 s29)) (lf_up s.1 76 x1 x6, s.2.1, s.2.2)))))))
theorem cj_156_p78 {R1561 R1562 R1563 : Int → Int → Int → Int → Int → (lf_Z → Prop) → lf_Z → Prop} {X361 X362 X363 : Int → lf_Z → Prop} {Q1 Q2 Q3 : lf_Z → Prop} {x1 : Int} {x2 : Int} {x3 : Int} {x4 : Int} {x5 : Int} {x6 : Int} {y0 : Int} {s : lf_Z} (hR156 : ∀ (v0 : Int) (v1 : Int) (v2 : Int) (v3 : Int) (v4 : Int) (Q1 Q2 Q3 : lf_Z → Prop) (s : lf_Z), (∀ (s : lf_Z), Q1 s → Q2 s → Q3 s) → R1561 v0 v1 v2 v3 v4 Q1 s → R1562 v0 v1 v2 v3 v4 Q2 s → R1563 v0 v1 v2 v3 v4 Q3 s) (hX36 : ∀ (v0 : Int) (v1 : lf_Z), X361 v0 v1 → X362 v0 v1 → X363 v0 v1) (hQ : ∀ (s : lf_Z), Q1 s → Q2 s → Q3 s) (h1 : fm_156_p78 R1561 X361 Q1 x1 x2 x3 x4 x5 x6 y0 s) (h2 : fw_156_p78 R1562 X362 Q2 x1 x2 x3 x4 x5 x6 y0 s) : fm_156_p78 R1563 X363 Q3 x1 x2 x3 x4 x5 x6 y0 s := by
  unfold fm_156_p78 at h1 ⊢
  unfold fw_156_p78 at h2
  exact ⟨h1.1, ⟨(fun c2 => cj_156_p167 hR156 hX36 hQ (h1.2.1 c2) ((h2 h1.1).1 c2)), (fun c2 => ⟨(h1.2.2 c2).1, ⟨(h1.2.2 c2).2.1, ⟨(h1.2.2 c2).2.2.1, hR156 _ _ _ _ _ _ _ _ _ (fun s29 k7 l7 => cj_156_p167 hR156 hX36 hQ k7 l7) (h1.2.2 c2).2.2.2 (((((h2 h1.1).2 c2) (h1.2.2 c2).1) (h1.2.2 c2).2.1) (h1.2.2 c2).2.2.1)⟩⟩⟩)⟩⟩
def fw_156_p36 (R156 : Int → Int → Int → Int → Int → (lf_Z → Prop) → lf_Z → Prop) (Q : lf_Z → Prop) (x1 : Int) (x2 : Int) (x3 : Int) (x4 : Int) (x5 : Int) (X36 : Int → lf_Z → Prop) (x6 : Int) (s : lf_Z) : Prop := lf_R x6 → ((4 ≤ x6 → (Q s)) ∧ (¬ (4 ≤ x6) → ((lf_and (lf_shr x2 x6) 1 ≠ 1 → (fw_156_p78 R156 X36 Q x1 x2 x3 x4 x5 x6 (-1) s)) ∧ (¬ (lf_and (lf_shr x2 x6) 1 ≠ 1) → ((0 ≤ x6 ∧ x6 < 4) → (fw_135 (s.1 74 7) x3 (s.1 17 x6) (fun r32 s31 => (fw_156_p78 R156 X36 Q x1 x2 x3 x4 x5 x6 r32 s31)) s))))))
theorem cj_156_p36 {R1561 R1562 R1563 : Int → Int → Int → Int → Int → (lf_Z → Prop) → lf_Z → Prop} {X361 X362 X363 : Int → lf_Z → Prop} {Q1 Q2 Q3 : lf_Z → Prop} {x1 : Int} {x2 : Int} {x3 : Int} {x4 : Int} {x5 : Int} {x6 : Int} {s : lf_Z} (hR156 : ∀ (v0 : Int) (v1 : Int) (v2 : Int) (v3 : Int) (v4 : Int) (Q1 Q2 Q3 : lf_Z → Prop) (s : lf_Z), (∀ (s : lf_Z), Q1 s → Q2 s → Q3 s) → R1561 v0 v1 v2 v3 v4 Q1 s → R1562 v0 v1 v2 v3 v4 Q2 s → R1563 v0 v1 v2 v3 v4 Q3 s) (hX36 : ∀ (v0 : Int) (v1 : lf_Z), X361 v0 v1 → X362 v0 v1 → X363 v0 v1) (hQ : ∀ (s : lf_Z), Q1 s → Q2 s → Q3 s) (h1 : fm_156_p36 R1561 Q1 x1 x2 x3 x4 x5 X361 x6 s) (h2 : fw_156_p36 R1562 Q2 x1 x2 x3 x4 x5 X362 x6 s) : fm_156_p36 R1563 Q3 x1 x2 x3 x4 x5 X363 x6 s := by
  unfold fm_156_p36 at h1 ⊢
  unfold fw_156_p36 at h2
  exact ⟨h1.1, ⟨(fun c2 => hQ _  (h1.2.1 c2) ((h2 h1.1).1 c2)), (fun c2 => ⟨(fun c4 => cj_156_p78 hR156 hX36 hQ ((h1.2.2 c2).1 c4) (((h2 h1.1).2 c2).1 c4)), (fun c4 => ⟨((h1.2.2 c2).2 c4).1, cj_135 (fun r32 s31 k7 l7 => cj_156_p78 hR156 hX36 hQ k7 l7) ((h1.2.2 c2).2 c4).2 ((((h2 h1.1).2 c2).2 c4) ((h1.2.2 c2).2 c4).1)⟩)⟩)⟩⟩
def fw_156_p36L (R156 : Int → Int → Int → Int → Int → (lf_Z → Prop) → lf_Z → Prop) (Q : lf_Z → Prop) (x1 : Int) (x2 : Int) (x3 : Int) (x4 : Int) (x5 : Int) (x6 : Int) (s : lf_Z) : Prop := ∃ X36 : Int → lf_Z → Prop, (∀ (x6 : Int) (s : lf_Z), X36 x6 s → fw_156_p36 R156 Q x1 x2 x3 x4 x5 X36 x6 s) ∧ X36 x6 s
theorem cj_156_p36L {R1561 R1562 R1563 : Int → Int → Int → Int → Int → (lf_Z → Prop) → lf_Z → Prop} {Q1 Q2 Q3 : lf_Z → Prop} {x1 : Int} {x2 : Int} {x3 : Int} {x4 : Int} {x5 : Int} {x6 : Int} {s : lf_Z} (hR156 : ∀ (v0 : Int) (v1 : Int) (v2 : Int) (v3 : Int) (v4 : Int) (Q1 Q2 Q3 : lf_Z → Prop) (s : lf_Z), (∀ (s : lf_Z), Q1 s → Q2 s → Q3 s) → R1561 v0 v1 v2 v3 v4 Q1 s → R1562 v0 v1 v2 v3 v4 Q2 s → R1563 v0 v1 v2 v3 v4 Q3 s) (hQ : ∀ (s : lf_Z), Q1 s → Q2 s → Q3 s) (h1 : fm_156_p36L R1561 Q1 x1 x2 x3 x4 x5 x6 s) (h2 : fw_156_p36L R1562 Q2 x1 x2 x3 x4 x5 x6 s) : fm_156_p36L R1563 Q3 x1 x2 x3 x4 x5 x6 s := by
  intro X0 hX0
  obtain ⟨Y, hY, hY0⟩ := h2
  exact h1 (fun v0 s => Y v0 s → X0 v0 s) (fun v0 s hb hy => hX0 v0 s (cj_156_p36 (hR156 := hR156) (X361 := fun v0 s => Y v0 s → X0 v0 s) (X362 := Y) (X363 := X0) (hX36 := fun v0 s a b => a b) hQ hb (hY v0 s hy))) hY0
def fw_156_p18 (R156 : Int → Int → Int → Int → Int → (lf_Z → Prop) → lf_Z → Prop) (Q : lf_Z → Prop) (x1 : Int) (x2 : Int) (x3 : Int) (x4 : Int) (x5 : Int) (s : lf_Z) : Prop := lf_R x1 → (lf_R (s.1 74 5) → ((x1 < s.1 74 5 → (fw_156_p36L R156 Q x1 x2 x3 x4 x5 0 s)) ∧ (¬ (x1 < s.1 74 5) → (fw_140 x5 (fun s33 => (Q s33)) s))))
theorem cj_156_p18 {R1561 R1562 R1563 : Int → Int → Int → Int → Int → (lf_Z → Prop) → lf_Z → Prop} {Q1 Q2 Q3 : lf_Z → Prop} {x1 : Int} {x2 : Int} {x3 : Int} {x4 : Int} {x5 : Int} {s : lf_Z} (hR156 : ∀ (v0 : Int) (v1 : Int) (v2 : Int) (v3 : Int) (v4 : Int) (Q1 Q2 Q3 : lf_Z → Prop) (s : lf_Z), (∀ (s : lf_Z), Q1 s → Q2 s → Q3 s) → R1561 v0 v1 v2 v3 v4 Q1 s → R1562 v0 v1 v2 v3 v4 Q2 s → R1563 v0 v1 v2 v3 v4 Q3 s) (hQ : ∀ (s : lf_Z), Q1 s → Q2 s → Q3 s) (h1 : fm_156_p18 R1561 Q1 x1 x2 x3 x4 x5 s) (h2 : fw_156_p18 R1562 Q2 x1 x2 x3 x4 x5 s) : fm_156_p18 R1563 Q3 x1 x2 x3 x4 x5 s := by
  unfold fm_156_p18 at h1 ⊢
  unfold fw_156_p18 at h2
  exact ⟨h1.1, ⟨h1.2.1, ⟨(fun c3 => cj_156_p36L hR156 hQ (h1.2.2.1 c3) (((h2 h1.1) h1.2.1).1 c3)), (fun c3 => cj_140 (fun s33 k5 l5 => hQ _  k5 l5) (h1.2.2.2 c3) (((h2 h1.1) h1.2.1).2 c3))⟩⟩⟩
def fw_156 (R156 : Int → Int → Int → Int → Int → (lf_Z → Prop) → lf_Z → Prop) (a1 : Int) (a2 : Int) (a3 : Int) (a4 : Int) (a5 : Int) (Q : lf_Z → Prop) (s : lf_Z) : Prop := lf_R (s.1 74 6) → ((s.1 74 6 = (-1) → (fw_156_p18 R156 Q a1 a2 a3 a4 a5 s)) ∧ (¬ (s.1 74 6 = (-1)) → (lf_R a5 → ((a5 < s.1 74 6 → (fw_156_p18 R156 Q a1 a2 a3 a4 a5 s)) ∧ (¬ (a5 < s.1 74 6) → (Q s))))))
theorem cj_156 {R1561 R1562 R1563 : Int → Int → Int → Int → Int → (lf_Z → Prop) → lf_Z → Prop} {Q1 Q2 Q3 : lf_Z → Prop} {a1 : Int} {a2 : Int} {a3 : Int} {a4 : Int} {a5 : Int} {s : lf_Z} (hR156 : ∀ (v0 : Int) (v1 : Int) (v2 : Int) (v3 : Int) (v4 : Int) (Q1 Q2 Q3 : lf_Z → Prop) (s : lf_Z), (∀ (s : lf_Z), Q1 s → Q2 s → Q3 s) → R1561 v0 v1 v2 v3 v4 Q1 s → R1562 v0 v1 v2 v3 v4 Q2 s → R1563 v0 v1 v2 v3 v4 Q3 s) (hQ : ∀ (s : lf_Z), Q1 s → Q2 s → Q3 s) (h1 : fm_156 R1561 a1 a2 a3 a4 a5 Q1 s) (h2 : fw_156 R1562 a1 a2 a3 a4 a5 Q2 s) : fm_156 R1563 a1 a2 a3 a4 a5 Q3 s := by
  unfold fm_156 at h1 ⊢
  unfold fw_156 at h2
  exact ⟨h1.1, ⟨(fun c2 => cj_156_p18 hR156 hQ (h1.2.1 c2) ((h2 h1.1).1 c2)), (fun c2 => ⟨(h1.2.2 c2).1, ⟨(fun c5 => cj_156_p18 hR156 hQ ((h1.2.2 c2).2.1 c5) ((((h2 h1.1).2 c2) (h1.2.2 c2).1).1 c5)), (fun c5 => hQ _  ((h1.2.2 c2).2.2 c5) ((((h2 h1.1).2 c2) (h1.2.2 c2).1).2 c5))⟩⟩)⟩⟩
def fv_156T : Nat → (Int → Int → Int → Int → Int → (lf_Z → Prop) → lf_Z → Prop)
  | 0 => fun _ _ _ _ _ _ _ => True
  | n + 1 => fw_156 (fv_156T n)
theorem ck_156T : ∀ n : Nat, (∀ (v0 : Int) (v1 : Int) (v2 : Int) (v3 : Int) (v4 : Int) (Q1 Q2 Q3 : lf_Z → Prop) (s : lf_Z), (∀ (s : lf_Z), Q1 s → Q2 s → Q3 s) → (fc_156T n) v0 v1 v2 v3 v4 Q1 s → (fv_156T n) v0 v1 v2 v3 v4 Q2 s → (fc_156T n) v0 v1 v2 v3 v4 Q3 s)
  | 0 => fun _ _ _ _ _ _ _ _ _ _ h1 _ => h1.elim
  | n + 1 => fun _ _ _ _ _ _ _ _ _ hq h1 h2 => cj_156 (hR156 := (ck_156T n)) hq h1 h2
def fv_156 (a1 : Int) (a2 : Int) (a3 : Int) (a4 : Int) (a5 : Int) (Q : lf_Z → Prop) (s : lf_Z) : Prop := (fv_156T 200) a1 a2 a3 a4 a5 Q s
theorem ck_156 {a1 : Int} {a2 : Int} {a3 : Int} {a4 : Int} {a5 : Int} {Q1 Q2 Q3 : lf_Z → Prop} {s : lf_Z} (hQ : ∀ (s : lf_Z), Q1 s → Q2 s → Q3 s) (h1 : fc_156 a1 a2 a3 a4 a5 Q1 s) (h2 : fv_156 a1 a2 a3 a4 a5 Q2 s) : fc_156 a1 a2 a3 a4 a5 Q3 s := (ck_156T 200) _ _ _ _ _ _ _ _ _ hQ h1 h2
def fw_155_p51 (X19 : Int → Int → lf_Z → Prop) (Q : Int → lf_Z → Prop) (x1 : Int) (x2 : Int) (x3 : Int) (s : lf_Z) : Prop := X19 x2 (x3 + 1) s
theorem cj_155_p51 {X191 X192 X193 : Int → Int → lf_Z → Prop} {Q1 Q2 Q3 : Int → lf_Z → Prop} {x1 : Int} {x2 : Int} {x3 : Int} {s : lf_Z} (hX19 : ∀ (v0 : Int) (v1 : Int) (v2 : lf_Z), X191 v0 v1 v2 → X192 v0 v1 v2 → X193 v0 v1 v2) (hQ : ∀ (r : Int) (s : lf_Z), Q1 r s → Q2 r s → Q3 r s) (h1 : fm_155_p51 X191 Q1 x1 x2 x3 s) (h2 : fw_155_p51 X192 Q2 x1 x2 x3 s) : fm_155_p51 X193 Q3 x1 x2 x3 s := by
  unfold fm_155_p51 at h1 ⊢
  unfold fw_155_p51 at h2
  exact hX19 _ _ _  h1 h2
def fw_155_p19 (Q : Int → lf_Z → Prop) (x1 : Int) (X19 : Int → Int → lf_Z → Prop) (x2 : Int) (x3 : Int) (s : lf_Z) : Prop := lf_R x3 → ((4 ≤ x3 → (lf_R (s.1 74 5) → ((s.1 74 5 ≤ 0 → (Q (s.1 74 6) s)) ∧ (¬ (s.1 74 5 ≤ 0) → ((0 ≤ x1 ∧ x1 < 6) → (fv_156 0 x2 (s.1 19 x1) 0 0 (fun s24 => (Q (s24.1 74 6) s24)) s)))))) ∧ (¬ (4 ≤ x3) → (fw_80 x3 (fun z26 s25 => ((z26 = false → (fw_155_p51 X19 Q x1 x2 x3 s25)) ∧ (z26 = true → (fw_155_p51 X19 Q x1 (lf_or x2 (lf_shl 1 x3)) x3 (lf_up s25.1 74 5 ((s25.1 74 5) + 1), s25.2.1, s25.2.2))))) s)))
theorem cj_155_p19 {X191 X192 X193 : Int → Int → lf_Z → Prop} {Q1 Q2 Q3 : Int → lf_Z → Prop} {x1 : Int} {x2 : Int} {x3 : Int} {s : lf_Z} (hX19 : ∀ (v0 : Int) (v1 : Int) (v2 : lf_Z), X191 v0 v1 v2 → X192 v0 v1 v2 → X193 v0 v1 v2) (hQ : ∀ (r : Int) (s : lf_Z), Q1 r s → Q2 r s → Q3 r s) (h1 : fm_155_p19 Q1 x1 X191 x2 x3 s) (h2 : fw_155_p19 Q2 x1 X192 x2 x3 s) : fm_155_p19 Q3 x1 X193 x2 x3 s := by
  unfold fm_155_p19 at h1 ⊢
  unfold fw_155_p19 at h2
  exact ⟨h1.1, ⟨(fun c2 => ⟨(h1.2.1 c2).1, ⟨(fun c4 => hQ _ _  ((h1.2.1 c2).2.1 c4) ((((h2 h1.1).1 c2) (h1.2.1 c2).1).1 c4)), (fun c4 => ⟨((h1.2.1 c2).2.2 c4).1, ck_156 (fun s24 k7 l7 => hQ _ _  k7 l7) ((h1.2.1 c2).2.2 c4).2 (((((h2 h1.1).1 c2) (h1.2.1 c2).1).2 c4) ((h1.2.1 c2).2.2 c4).1)⟩)⟩⟩), (fun c2 => cj_80 (fun z26 s25 k9 l9 => ⟨(fun c10 => cj_155_p51 hX19 hQ (k9.1 c10) (l9.1 c10)), (fun c10 => cj_155_p51 hX19 hQ (k9.2 c10) (l9.2 c10))⟩) (h1.2.2 c2) ((h2 h1.1).2 c2))⟩⟩
def fw_155_p19L (Q : Int → lf_Z → Prop) (x1 : Int) (x2 : Int) (x3 : Int) (s : lf_Z) : Prop := ∃ X19 : Int → Int → lf_Z → Prop, (∀ (x2 : Int) (x3 : Int) (s : lf_Z), X19 x2 x3 s → fw_155_p19 Q x1 X19 x2 x3 s) ∧ X19 x2 x3 s
theorem cj_155_p19L {Q1 Q2 Q3 : Int → lf_Z → Prop} {x1 : Int} {x2 : Int} {x3 : Int} {s : lf_Z} (hQ : ∀ (r : Int) (s : lf_Z), Q1 r s → Q2 r s → Q3 r s) (h1 : fm_155_p19L Q1 x1 x2 x3 s) (h2 : fw_155_p19L Q2 x1 x2 x3 s) : fm_155_p19L Q3 x1 x2 x3 s := by
  intro X0 hX0
  obtain ⟨Y, hY, hY0⟩ := h2
  exact h1 (fun v0 v1 s => Y v0 v1 s → X0 v0 v1 s) (fun v0 v1 s hb hy => hX0 v0 v1 s (cj_155_p19 (X191 := fun v0 v1 s => Y v0 v1 s → X0 v0 v1 s) (X192 := Y) (X193 := X0) (hX19 := fun v0 v1 s a b => a b) hQ hb (hY v0 v1 s hy))) hY0
def fw_155 (a1 : Int) (Q : Int → lf_Z → Prop) (s : lf_Z) : Prop := fw_155_p19L Q a1 0 0 (lf_up (lf_up (lf_up s.1 74 6 (-1)) 74 5 0) 74 7 a1, s.2.1, s.2.2)
theorem cj_155 {Q1 Q2 Q3 : Int → lf_Z → Prop} {a1 : Int} {s : lf_Z} (hQ : ∀ (r : Int) (s : lf_Z), Q1 r s → Q2 r s → Q3 r s) (h1 : fm_155 a1 Q1 s) (h2 : fw_155 a1 Q2 s) : fm_155 a1 Q3 s := by
  unfold fm_155 at h1 ⊢
  unfold fw_155 at h2
  exact cj_155_p19L hQ h1 h2
def fw_157 (a1 : Int) (Q : Int → lf_Z → Prop) (s : lf_Z) : Prop := lf_R (s.1 74 6) → ((s.1 74 6 = (-1) → (Q (-1) s)) ∧ (¬ (s.1 74 6 = (-1)) → (fw_15 a1 0 ((s.1 74 5) - 1) (fun z23 s22 => ((z23 = false → (Q (-1) s22)) ∧ (z23 = true → ((0 ≤ a1 ∧ a1 < 6) → (Q (s22.1 77 a1) s22))))) s)))
theorem cj_157 {Q1 Q2 Q3 : Int → lf_Z → Prop} {a1 : Int} {s : lf_Z} (hQ : ∀ (r : Int) (s : lf_Z), Q1 r s → Q2 r s → Q3 r s) (h1 : fm_157 a1 Q1 s) (h2 : fw_157 a1 Q2 s) : fm_157 a1 Q3 s := by
  unfold fm_157 at h1 ⊢
  unfold fw_157 at h2
  exact ⟨h1.1, ⟨(fun c2 => hQ _ _  (h1.2.1 c2) ((h2 h1.1).1 c2)), (fun c2 => cj_15 (fun z23 s22 k4 l4 => ⟨(fun c5 => hQ _ _  (k4.1 c5) (l4.1 c5)), (fun c5 => ⟨(k4.2 c5).1, hQ _ _  (k4.2 c5).2 ((l4.2 c5) (k4.2 c5).1)⟩)⟩) (h1.2.2 c2) ((h2 h1.1).2 c2))⟩⟩
def fw_154 (a1 : Int) (a2 : Int) (Q : Int → lf_Z → Prop) (s : lf_Z) : Prop := fw_99 a1 (fun z22 s21 => ((z22 = false → (Q (-1) s21)) ∧ (z22 = true → (lf_R a2 → (((-1) ≤ a2 → (fw_155 a1 (fun r25 s24 => ((a2 ≠ (-1) → (fw_157 a2 (fun r27 s26 => (Q r27 s26)) s24)) ∧ (¬ (a2 ≠ (-1)) → (Q r25 s24)))) s21)) ∧ (¬ ((-1) ≤ a2) → (Q (-1) s21))))))) s
theorem cj_154 {Q1 Q2 Q3 : Int → lf_Z → Prop} {a1 : Int} {a2 : Int} {s : lf_Z} (hQ : ∀ (r : Int) (s : lf_Z), Q1 r s → Q2 r s → Q3 r s) (h1 : fm_154 a1 a2 Q1 s) (h2 : fw_154 a1 a2 Q2 s) : fm_154 a1 a2 Q3 s := by
  unfold fm_154 at h1 ⊢
  unfold fw_154 at h2
  exact cj_99 (fun z22 s21 k1 l1 => ⟨(fun c2 => hQ _ _  (k1.1 c2) (l1.1 c2)), (fun c2 => ⟨(k1.2 c2).1, ⟨(fun c5 => cj_155 (fun r25 s24 k6 l6 => ⟨(fun c7 => cj_157 (fun r27 s26 k8 l8 => hQ _ _  k8 l8) (k6.1 c7) (l6.1 c7)), (fun c7 => hQ _ _  (k6.2 c7) (l6.2 c7))⟩) ((k1.2 c2).2.1 c5) (((l1.2 c2) (k1.2 c2).1).1 c5)), (fun c5 => hQ _ _  ((k1.2 c2).2.2 c5) (((l1.2 c2) (k1.2 c2).1).2 c5))⟩⟩)⟩) h1 h2
def fw_312_p61 (X38 : Int → lf_Z → Prop) (Q : Int → lf_Z → Prop) (x1 : Int) (x2 : Int) (x3 : Int) (X61 : Int → lf_Z → Prop) (x4 : Int) (s : lf_Z) : Prop := lf_R x4 → (lf_R x2 → ((x2 ≤ x4 → (fw_239 x1 (fun r31 s30 => (fw_299 x1 r31 (fun r33 s32 => ((0 ≤ 16 + x3 ∧ 16 + x3 < 20) → (X38 (x3 + 1) (lf_up s32.1 119 (16 + x3) r33, s32.2.1, s32.2.2)))) s30)) s)) ∧ (¬ (x2 ≤ x4) → ((0 ≤ x4 ∧ x4 < 4) → (fw_255 (s.1 118 x4) (fun r37 s36 => (fw_299 x1 r37 (fun r39 s38 => ((0 ≤ (4 * x4) + x3 ∧ (4 * x4) + x3 < 20) → (X61 (x4 + 1) (lf_up s38.1 119 ((4 * x4) + x3) r39, s38.2.1, s38.2.2)))) s36)) s)))))
theorem cj_312_p61 {X381 X382 X383 : Int → lf_Z → Prop} {X611 X612 X613 : Int → lf_Z → Prop} {Q1 Q2 Q3 : Int → lf_Z → Prop} {x1 : Int} {x2 : Int} {x3 : Int} {x4 : Int} {s : lf_Z} (hX38 : ∀ (v0 : Int) (v1 : lf_Z), X381 v0 v1 → X382 v0 v1 → X383 v0 v1) (hX61 : ∀ (v0 : Int) (v1 : lf_Z), X611 v0 v1 → X612 v0 v1 → X613 v0 v1) (hQ : ∀ (r : Int) (s : lf_Z), Q1 r s → Q2 r s → Q3 r s) (h1 : fm_312_p61 X381 Q1 x1 x2 x3 X611 x4 s) (h2 : fw_312_p61 X382 Q2 x1 x2 x3 X612 x4 s) : fm_312_p61 X383 Q3 x1 x2 x3 X613 x4 s := by
  unfold fm_312_p61 at h1 ⊢
  unfold fw_312_p61 at h2
  exact ⟨h1.1, ⟨h1.2.1, ⟨(fun c3 => cj_239 (fun r31 s30 k4 l4 => cj_299 (fun r33 s32 k5 l5 => ⟨k5.1, hX38 _ _  k5.2 (l5 k5.1)⟩) k4 l4) (h1.2.2.1 c3) (((h2 h1.1) h1.2.1).1 c3)), (fun c3 => ⟨(h1.2.2.2 c3).1, cj_255 (fun r37 s36 k9 l9 => cj_299 (fun r39 s38 k10 l10 => ⟨k10.1, hX61 _ _  k10.2 (l10 k10.1)⟩) k9 l9) (h1.2.2.2 c3).2 ((((h2 h1.1) h1.2.1).2 c3) (h1.2.2.2 c3).1)⟩)⟩⟩⟩
def fw_312_p61L (X38 : Int → lf_Z → Prop) (Q : Int → lf_Z → Prop) (x1 : Int) (x2 : Int) (x3 : Int) (x4 : Int) (s : lf_Z) : Prop := ∃ X61 : Int → lf_Z → Prop, (∀ (x4 : Int) (s : lf_Z), X61 x4 s → fw_312_p61 X38 Q x1 x2 x3 X61 x4 s) ∧ X61 x4 s
theorem cj_312_p61L {X381 X382 X383 : Int → lf_Z → Prop} {Q1 Q2 Q3 : Int → lf_Z → Prop} {x1 : Int} {x2 : Int} {x3 : Int} {x4 : Int} {s : lf_Z} (hX38 : ∀ (v0 : Int) (v1 : lf_Z), X381 v0 v1 → X382 v0 v1 → X383 v0 v1) (hQ : ∀ (r : Int) (s : lf_Z), Q1 r s → Q2 r s → Q3 r s) (h1 : fm_312_p61L X381 Q1 x1 x2 x3 x4 s) (h2 : fw_312_p61L X382 Q2 x1 x2 x3 x4 s) : fm_312_p61L X383 Q3 x1 x2 x3 x4 s := by
  intro X0 hX0
  obtain ⟨Y, hY, hY0⟩ := h2
  exact h1 (fun v0 s => Y v0 s → X0 v0 s) (fun v0 s hb hy => hX0 v0 s (cj_312_p61 (hX38 := hX38) (X611 := fun v0 s => Y v0 s → X0 v0 s) (X612 := Y) (X613 := X0) (hX61 := fun v0 s a b => a b) hQ hb (hY v0 s hy))) hY0
def fw_312_p38 (Q : Int → lf_Z → Prop) (x1 : Int) (x2 : Int) (X38 : Int → lf_Z → Prop) (x3 : Int) (s : lf_Z) : Prop := lf_R x3 → (lf_R x2 → ((x2 ≤ x3 → (Q x2 s)) ∧ (¬ (x2 ≤ x3) → ((0 ≤ x3 ∧ x3 < 4) → (fw_255 (s.1 118 x3) (fun r26 s25 => (fw_261 r26 1 (fun s27 => (fw_312_p61L X38 Q x1 x2 x3 0 s27)) s25)) s)))))
theorem cj_312_p38 {X381 X382 X383 : Int → lf_Z → Prop} {Q1 Q2 Q3 : Int → lf_Z → Prop} {x1 : Int} {x2 : Int} {x3 : Int} {s : lf_Z} (hX38 : ∀ (v0 : Int) (v1 : lf_Z), X381 v0 v1 → X382 v0 v1 → X383 v0 v1) (hQ : ∀ (r : Int) (s : lf_Z), Q1 r s → Q2 r s → Q3 r s) (h1 : fm_312_p38 Q1 x1 x2 X381 x3 s) (h2 : fw_312_p38 Q2 x1 x2 X382 x3 s) : fm_312_p38 Q3 x1 x2 X383 x3 s := by
  unfold fm_312_p38 at h1 ⊢
  unfold fw_312_p38 at h2
  exact ⟨h1.1, ⟨h1.2.1, ⟨(fun c3 => hQ _ _  (h1.2.2.1 c3) (((h2 h1.1) h1.2.1).1 c3)), (fun c3 => ⟨(h1.2.2.2 c3).1, cj_255 (fun r26 s25 k6 l6 => cj_261 (fun s27 k7 l7 => cj_312_p61L hX38 hQ k7 l7) k6 l6) (h1.2.2.2 c3).2 ((((h2 h1.1) h1.2.1).2 c3) (h1.2.2.2 c3).1)⟩)⟩⟩⟩
def fw_312_p38L (Q : Int → lf_Z → Prop) (x1 : Int) (x2 : Int) (x3 : Int) (s : lf_Z) : Prop := ∃ X38 : Int → lf_Z → Prop, (∀ (x3 : Int) (s : lf_Z), X38 x3 s → fw_312_p38 Q x1 x2 X38 x3 s) ∧ X38 x3 s
theorem cj_312_p38L {Q1 Q2 Q3 : Int → lf_Z → Prop} {x1 : Int} {x2 : Int} {x3 : Int} {s : lf_Z} (hQ : ∀ (r : Int) (s : lf_Z), Q1 r s → Q2 r s → Q3 r s) (h1 : fm_312_p38L Q1 x1 x2 x3 s) (h2 : fw_312_p38L Q2 x1 x2 x3 s) : fm_312_p38L Q3 x1 x2 x3 s := by
  intro X0 hX0
  obtain ⟨Y, hY, hY0⟩ := h2
  exact h1 (fun v0 s => Y v0 s → X0 v0 s) (fun v0 s hb hy => hX0 v0 s (cj_312_p38 (X381 := fun v0 s => Y v0 s → X0 v0 s) (X382 := Y) (X383 := X0) (hX38 := fun v0 s a b => a b) hQ hb (hY v0 s hy))) hY0
def fw_312_p30 (X4 : Int → Int → lf_Z → Prop) (Q : Int → lf_Z → Prop) (x1 : Int) (x2 : Int) (x3 : Int) (s : lf_Z) : Prop := X4 x2 (x3 + 1) s
theorem cj_312_p30 {X41 X42 X43 : Int → Int → lf_Z → Prop} {Q1 Q2 Q3 : Int → lf_Z → Prop} {x1 : Int} {x2 : Int} {x3 : Int} {s : lf_Z} (hX4 : ∀ (v0 : Int) (v1 : Int) (v2 : lf_Z), X41 v0 v1 v2 → X42 v0 v1 v2 → X43 v0 v1 v2) (hQ : ∀ (r : Int) (s : lf_Z), Q1 r s → Q2 r s → Q3 r s) (h1 : fm_312_p30 X41 Q1 x1 x2 x3 s) (h2 : fw_312_p30 X42 Q2 x1 x2 x3 s) : fm_312_p30 X43 Q3 x1 x2 x3 s := by
  unfold fm_312_p30 at h1 ⊢
  unfold fw_312_p30 at h2
  exact hX4 _ _ _  h1 h2
def fw_312_p4 (Q : Int → lf_Z → Prop) (x1 : Int) (X4 : Int → Int → lf_Z → Prop) (x2 : Int) (x3 : Int) (s : lf_Z) : Prop := lf_R x3 → ((4 ≤ x3 → (fw_312_p38L Q x1 x2 0 s)) ∧ (¬ (4 ≤ x3) → (fw_242 x3 (fun r42 s41 => (lf_R r42 → ((r42 ≠ 0 → ((0 ≤ x2 ∧ x2 < 4) → (fw_312_p30 X4 Q x1 (x2 + 1) x3 (lf_up s41.1 118 x2 x3, s41.2.1, s41.2.2)))) ∧ (¬ (r42 ≠ 0) → (fw_312_p30 X4 Q x1 x2 x3 s41))))) s)))
theorem cj_312_p4 {X41 X42 X43 : Int → Int → lf_Z → Prop} {Q1 Q2 Q3 : Int → lf_Z → Prop} {x1 : Int} {x2 : Int} {x3 : Int} {s : lf_Z} (hX4 : ∀ (v0 : Int) (v1 : Int) (v2 : lf_Z), X41 v0 v1 v2 → X42 v0 v1 v2 → X43 v0 v1 v2) (hQ : ∀ (r : Int) (s : lf_Z), Q1 r s → Q2 r s → Q3 r s) (h1 : fm_312_p4 Q1 x1 X41 x2 x3 s) (h2 : fw_312_p4 Q2 x1 X42 x2 x3 s) : fm_312_p4 Q3 x1 X43 x2 x3 s := by
  unfold fm_312_p4 at h1 ⊢
  unfold fw_312_p4 at h2
  exact ⟨h1.1, ⟨(fun c2 => cj_312_p38L hQ (h1.2.1 c2) ((h2 h1.1).1 c2)), (fun c2 => cj_242 (fun r42 s41 k4 l4 => ⟨k4.1, ⟨(fun c6 => ⟨(k4.2.1 c6).1, cj_312_p30 hX4 hQ (k4.2.1 c6).2 (((l4 k4.1).1 c6) (k4.2.1 c6).1)⟩), (fun c6 => cj_312_p30 hX4 hQ (k4.2.2 c6) ((l4 k4.1).2 c6))⟩⟩) (h1.2.2 c2) ((h2 h1.1).2 c2))⟩⟩
def fw_312_p4L (Q : Int → lf_Z → Prop) (x1 : Int) (x2 : Int) (x3 : Int) (s : lf_Z) : Prop := ∃ X4 : Int → Int → lf_Z → Prop, (∀ (x2 : Int) (x3 : Int) (s : lf_Z), X4 x2 x3 s → fw_312_p4 Q x1 X4 x2 x3 s) ∧ X4 x2 x3 s
theorem cj_312_p4L {Q1 Q2 Q3 : Int → lf_Z → Prop} {x1 : Int} {x2 : Int} {x3 : Int} {s : lf_Z} (hQ : ∀ (r : Int) (s : lf_Z), Q1 r s → Q2 r s → Q3 r s) (h1 : fm_312_p4L Q1 x1 x2 x3 s) (h2 : fw_312_p4L Q2 x1 x2 x3 s) : fm_312_p4L Q3 x1 x2 x3 s := by
  intro X0 hX0
  obtain ⟨Y, hY, hY0⟩ := h2
  exact h1 (fun v0 v1 s => Y v0 v1 s → X0 v0 v1 s) (fun v0 v1 s hb hy => hX0 v0 v1 s (cj_312_p4 (X41 := fun v0 v1 s => Y v0 v1 s → X0 v0 v1 s) (X42 := Y) (X43 := X0) (hX4 := fun v0 v1 s a b => a b) hQ hb (hY v0 v1 s hy))) hY0
def fw_312 (a1 : Int) (Q : Int → lf_Z → Prop) (s : lf_Z) : Prop := fw_312_p4L Q a1 0 0 s
theorem cj_312 {Q1 Q2 Q3 : Int → lf_Z → Prop} {a1 : Int} {s : lf_Z} (hQ : ∀ (r : Int) (s : lf_Z), Q1 r s → Q2 r s → Q3 r s) (h1 : fm_312 a1 Q1 s) (h2 : fw_312 a1 Q2 s) : fm_312 a1 Q3 s := by
  unfold fm_312 at h1 ⊢
  unfold fw_312 at h2
  exact cj_312_p4L hQ h1 h2
def fw_313_p10 (Q : Int → lf_Z → Prop) (x1 : Int) (X10 : Int → Int → Int → Int → lf_Z → Prop) (x2 : Int) (x3 : Int) (x4 : Int) (x5 : Int) (s : lf_Z) : Prop := lf_R x5 → (lf_R x1 → ((x1 ≤ x5 → (Q x2 s)) ∧ (¬ (x1 ≤ x5) → ((0 ≤ x5 ∧ x5 < 6) → ((0 ≤ s.1 116 x5 ∧ s.1 116 x5 < 4) → ((0 ≤ (4 * x4) + (s.1 116 x5) ∧ (4 * x4) + (s.1 116 x5) < 20) → (fw_242 (s.1 118 (s.1 116 x5)) (fun r27 s26 => (fw_255 (s.1 118 (s.1 116 x5)) (fun r29 s28 => (fw_277 r29 (fun r31 s30 => (X10 (x2 + ((r27 * r31) * (x3 + (s.1 119 ((4 * x4) + (s.1 116 x5)))))) (x3 + (s.1 119 ((4 * x4) + (s.1 116 x5)))) (s.1 116 x5) (x5 + 1) s30)) s28)) s26)) s)))))))
theorem cj_313_p10 {X101 X102 X103 : Int → Int → Int → Int → lf_Z → Prop} {Q1 Q2 Q3 : Int → lf_Z → Prop} {x1 : Int} {x2 : Int} {x3 : Int} {x4 : Int} {x5 : Int} {s : lf_Z} (hX10 : ∀ (v0 : Int) (v1 : Int) (v2 : Int) (v3 : Int) (v4 : lf_Z), X101 v0 v1 v2 v3 v4 → X102 v0 v1 v2 v3 v4 → X103 v0 v1 v2 v3 v4) (hQ : ∀ (r : Int) (s : lf_Z), Q1 r s → Q2 r s → Q3 r s) (h1 : fm_313_p10 Q1 x1 X101 x2 x3 x4 x5 s) (h2 : fw_313_p10 Q2 x1 X102 x2 x3 x4 x5 s) : fm_313_p10 Q3 x1 X103 x2 x3 x4 x5 s := by
  unfold fm_313_p10 at h1 ⊢
  unfold fw_313_p10 at h2
  exact ⟨h1.1, ⟨h1.2.1, ⟨(fun c3 => hQ _ _  (h1.2.2.1 c3) (((h2 h1.1) h1.2.1).1 c3)), (fun c3 => ⟨(h1.2.2.2 c3).1, ⟨(h1.2.2.2 c3).2.1, ⟨(h1.2.2.2 c3).2.2.1, cj_242 (fun r27 s26 k8 l8 => cj_255 (fun r29 s28 k9 l9 => cj_277 (fun r31 s30 k10 l10 => hX10 _ _ _ _ _  k10 l10) k9 l9) k8 l8) (h1.2.2.2 c3).2.2.2 ((((((h2 h1.1) h1.2.1).2 c3) (h1.2.2.2 c3).1) (h1.2.2.2 c3).2.1) (h1.2.2.2 c3).2.2.1)⟩⟩⟩)⟩⟩⟩
def fw_313_p10L (Q : Int → lf_Z → Prop) (x1 : Int) (x2 : Int) (x3 : Int) (x4 : Int) (x5 : Int) (s : lf_Z) : Prop := ∃ X10 : Int → Int → Int → Int → lf_Z → Prop, (∀ (x2 : Int) (x3 : Int) (x4 : Int) (x5 : Int) (s : lf_Z), X10 x2 x3 x4 x5 s → fw_313_p10 Q x1 X10 x2 x3 x4 x5 s) ∧ X10 x2 x3 x4 x5 s
theorem cj_313_p10L {Q1 Q2 Q3 : Int → lf_Z → Prop} {x1 : Int} {x2 : Int} {x3 : Int} {x4 : Int} {x5 : Int} {s : lf_Z} (hQ : ∀ (r : Int) (s : lf_Z), Q1 r s → Q2 r s → Q3 r s) (h1 : fm_313_p10L Q1 x1 x2 x3 x4 x5 s) (h2 : fw_313_p10L Q2 x1 x2 x3 x4 x5 s) : fm_313_p10L Q3 x1 x2 x3 x4 x5 s := by
  intro X0 hX0
  obtain ⟨Y, hY, hY0⟩ := h2
  exact h1 (fun v0 v1 v2 v3 s => Y v0 v1 v2 v3 s → X0 v0 v1 v2 v3 s) (fun v0 v1 v2 v3 s hb hy => hX0 v0 v1 v2 v3 s (cj_313_p10 (X101 := fun v0 v1 v2 v3 s => Y v0 v1 v2 v3 s → X0 v0 v1 v2 v3 s) (X102 := Y) (X103 := X0) (hX10 := fun v0 v1 v2 v3 s a b => a b) hQ hb (hY v0 v1 v2 v3 s hy))) hY0
def fw_313 (a1 : Int) (Q : Int → lf_Z → Prop) (s : lf_Z) : Prop := fw_313_p10L Q a1 0 0 4 0 s
theorem cj_313 {Q1 Q2 Q3 : Int → lf_Z → Prop} {a1 : Int} {s : lf_Z} (hQ : ∀ (r : Int) (s : lf_Z), Q1 r s → Q2 r s → Q3 r s) (h1 : fm_313 a1 Q1 s) (h2 : fw_313 a1 Q2 s) : fm_313 a1 Q3 s := by
  unfold fm_313 at h1 ⊢
  unfold fw_313 at h2
  exact cj_313_p10L hQ h1 h2
def fw_311_p168 (X94 : Int → Int → lf_Z → Prop) (Q : Int → lf_Z → Prop) (x2 : Int) (x3 : Int) (x4 : Int) (s : lf_Z) : Prop := fw_304 x3 x3 (fun z39 s38 => (X94 x4 (lf_b z39) s38)) s
theorem cj_311_p168 {X941 X942 X943 : Int → Int → lf_Z → Prop} {Q1 Q2 Q3 : Int → lf_Z → Prop} {x2 : Int} {x3 : Int} {x4 : Int} {s : lf_Z} (hX94 : ∀ (v0 : Int) (v1 : Int) (v2 : lf_Z), X941 v0 v1 v2 → X942 v0 v1 v2 → X943 v0 v1 v2) (hQ : ∀ (r : Int) (s : lf_Z), Q1 r s → Q2 r s → Q3 r s) (h1 : fm_311_p168 X941 Q1 x2 x3 x4 s) (h2 : fw_311_p168 X942 Q2 x2 x3 x4 s) : fm_311_p168 X943 Q3 x2 x3 x4 s := by
  unfold fm_311_p168 at h1 ⊢
  unfold fw_311_p168 at h2
  exact cj_304 (fun z39 s38 k1 l1 => hX94 _ _ _  k1 l1) h1 h2
def fw_311_p142 (X94 : Int → Int → lf_Z → Prop) (Q : Int → lf_Z → Prop) (x2 : Int) (x3 : Int) (x4 : Int) (X142 : Int → lf_Z → Prop) (x7 : Int) (s : lf_Z) : Prop := lf_R x7 → (lf_R x3 → ((x3 ≤ x7 → (fw_311_p168 X94 Q x2 x3 x4 s)) ∧ (¬ (x3 ≤ x7) → ((0 ≤ x7 ∧ x7 < 6) → (X142 (x7 + 1) (lf_up s.1 117 x7 (s.1 116 x7), s.2.1, s.2.2))))))
theorem cj_311_p142 {X941 X942 X943 : Int → Int → lf_Z → Prop} {X1421 X1422 X1423 : Int → lf_Z → Prop} {Q1 Q2 Q3 : Int → lf_Z → Prop} {x2 : Int} {x3 : Int} {x4 : Int} {x7 : Int} {s : lf_Z} (hX94 : ∀ (v0 : Int) (v1 : Int) (v2 : lf_Z), X941 v0 v1 v2 → X942 v0 v1 v2 → X943 v0 v1 v2) (hX142 : ∀ (v0 : Int) (v1 : lf_Z), X1421 v0 v1 → X1422 v0 v1 → X1423 v0 v1) (hQ : ∀ (r : Int) (s : lf_Z), Q1 r s → Q2 r s → Q3 r s) (h1 : fm_311_p142 X941 Q1 x2 x3 x4 X1421 x7 s) (h2 : fw_311_p142 X942 Q2 x2 x3 x4 X1422 x7 s) : fm_311_p142 X943 Q3 x2 x3 x4 X1423 x7 s := by
  unfold fm_311_p142 at h1 ⊢
  unfold fw_311_p142 at h2
  exact ⟨h1.1, ⟨h1.2.1, ⟨(fun c3 => cj_311_p168 hX94 hQ (h1.2.2.1 c3) (((h2 h1.1) h1.2.1).1 c3)), (fun c3 => ⟨(h1.2.2.2 c3).1, hX142 _ _  (h1.2.2.2 c3).2 ((((h2 h1.1) h1.2.1).2 c3) (h1.2.2.2 c3).1)⟩)⟩⟩⟩
def fw_311_p142L (X94 : Int → Int → lf_Z → Prop) (Q : Int → lf_Z → Prop) (x2 : Int) (x3 : Int) (x4 : Int) (x7 : Int) (s : lf_Z) : Prop := ∃ X142 : Int → lf_Z → Prop, (∀ (x7 : Int) (s : lf_Z), X142 x7 s → fw_311_p142 X94 Q x2 x3 x4 X142 x7 s) ∧ X142 x7 s
theorem cj_311_p142L {X941 X942 X943 : Int → Int → lf_Z → Prop} {Q1 Q2 Q3 : Int → lf_Z → Prop} {x2 : Int} {x3 : Int} {x4 : Int} {x7 : Int} {s : lf_Z} (hX94 : ∀ (v0 : Int) (v1 : Int) (v2 : lf_Z), X941 v0 v1 v2 → X942 v0 v1 v2 → X943 v0 v1 v2) (hQ : ∀ (r : Int) (s : lf_Z), Q1 r s → Q2 r s → Q3 r s) (h1 : fm_311_p142L X941 Q1 x2 x3 x4 x7 s) (h2 : fw_311_p142L X942 Q2 x2 x3 x4 x7 s) : fm_311_p142L X943 Q3 x2 x3 x4 x7 s := by
  intro X0 hX0
  obtain ⟨Y, hY, hY0⟩ := h2
  exact h1 (fun v0 s => Y v0 s → X0 v0 s) (fun v0 s hb hy => hX0 v0 s (cj_311_p142 (hX94 := hX94) (X1421 := fun v0 s => Y v0 s → X0 v0 s) (X1422 := Y) (X1423 := X0) (hX142 := fun v0 s a b => a b) hQ hb (hY v0 s hy))) hY0
def fw_311_p135 (X94 : Int → Int → lf_Z → Prop) (Q : Int → lf_Z → Prop) (x2 : Int) (x3 : Int) (x6 : Int) (s : lf_Z) : Prop := fw_311_p142L X94 Q x2 x3 x6 0 s
theorem cj_311_p135 {X941 X942 X943 : Int → Int → lf_Z → Prop} {Q1 Q2 Q3 : Int → lf_Z → Prop} {x2 : Int} {x3 : Int} {x6 : Int} {s : lf_Z} (hX94 : ∀ (v0 : Int) (v1 : Int) (v2 : lf_Z), X941 v0 v1 v2 → X942 v0 v1 v2 → X943 v0 v1 v2) (hQ : ∀ (r : Int) (s : lf_Z), Q1 r s → Q2 r s → Q3 r s) (h1 : fm_311_p135 X941 Q1 x2 x3 x6 s) (h2 : fw_311_p135 X942 Q2 x2 x3 x6 s) : fm_311_p135 X943 Q3 x2 x3 x6 s := by
  unfold fm_311_p135 at h1 ⊢
  unfold fw_311_p135 at h2
  exact cj_311_p142L hX94 hQ h1 h2
def fw_311_p116 (X94 : Int → Int → lf_Z → Prop) (Q : Int → lf_Z → Prop) (x2 : Int) (x3 : Int) (x4 : Int) (y0 : Int) (s : lf_Z) : Prop := lf_R y0 → ((y0 < 0 → (fw_311_p168 X94 Q x2 x3 x4 s)) ∧ (¬ (y0 < 0) → (lf_R x4 → ((x4 < 0 → (fw_311_p135 X94 Q x2 x3 y0 s)) ∧ (¬ (x4 < 0) → ((x4 ≤ y0 → (fw_311_p168 X94 Q x2 x3 x4 s)) ∧ (¬ (x4 ≤ y0) → (fw_311_p135 X94 Q x2 x3 y0 s))))))))
theorem cj_311_p116 {X941 X942 X943 : Int → Int → lf_Z → Prop} {Q1 Q2 Q3 : Int → lf_Z → Prop} {x2 : Int} {x3 : Int} {x4 : Int} {y0 : Int} {s : lf_Z} (hX94 : ∀ (v0 : Int) (v1 : Int) (v2 : lf_Z), X941 v0 v1 v2 → X942 v0 v1 v2 → X943 v0 v1 v2) (hQ : ∀ (r : Int) (s : lf_Z), Q1 r s → Q2 r s → Q3 r s) (h1 : fm_311_p116 X941 Q1 x2 x3 x4 y0 s) (h2 : fw_311_p116 X942 Q2 x2 x3 x4 y0 s) : fm_311_p116 X943 Q3 x2 x3 x4 y0 s := by
  unfold fm_311_p116 at h1 ⊢
  unfold fw_311_p116 at h2
  exact ⟨h1.1, ⟨(fun c2 => cj_311_p168 hX94 hQ (h1.2.1 c2) ((h2 h1.1).1 c2)), (fun c2 => ⟨(h1.2.2 c2).1, ⟨(fun c5 => cj_311_p135 hX94 hQ ((h1.2.2 c2).2.1 c5) ((((h2 h1.1).2 c2) (h1.2.2 c2).1).1 c5)), (fun c5 => ⟨(fun c7 => cj_311_p168 hX94 hQ (((h1.2.2 c2).2.2 c5).1 c7) (((((h2 h1.1).2 c2) (h1.2.2 c2).1).2 c5).1 c7)), (fun c7 => cj_311_p135 hX94 hQ (((h1.2.2 c2).2.2 c5).2 c7) (((((h2 h1.1).2 c2) (h1.2.2 c2).1).2 c5).2 c7))⟩)⟩⟩)⟩⟩
def fw_311_p94 (Q : Int → lf_Z → Prop) (x2 : Int) (x3 : Int) (X94 : Int → Int → lf_Z → Prop) (x4 : Int) (x5 : Int) (s : lf_Z) : Prop := lf_R x5 → ((x5 = 0 → (lf_R x2 → ((x2 ≠ (-1) → ((0 ≤ x2 ∧ x2 < 6) → ((0 ≤ s.1 117 x2 ∧ s.1 117 x2 < 4) → (Q (s.1 118 (s.1 117 x2)) s)))) ∧ (¬ (x2 ≠ (-1)) → (Q x4 s))))) ∧ (¬ (x5 = 0) → (fw_303 x3 (fun z36 s35 => ((z36 = false → (fw_311_p116 X94 Q x2 x3 x4 (-1) s35)) ∧ (z36 = true → (fw_313 x3 (fun r45 s44 => (fw_311_p116 X94 Q x2 x3 x4 r45 s44)) s35)))) s)))
theorem cj_311_p94 {X941 X942 X943 : Int → Int → lf_Z → Prop} {Q1 Q2 Q3 : Int → lf_Z → Prop} {x2 : Int} {x3 : Int} {x4 : Int} {x5 : Int} {s : lf_Z} (hX94 : ∀ (v0 : Int) (v1 : Int) (v2 : lf_Z), X941 v0 v1 v2 → X942 v0 v1 v2 → X943 v0 v1 v2) (hQ : ∀ (r : Int) (s : lf_Z), Q1 r s → Q2 r s → Q3 r s) (h1 : fm_311_p94 Q1 x2 x3 X941 x4 x5 s) (h2 : fw_311_p94 Q2 x2 x3 X942 x4 x5 s) : fm_311_p94 Q3 x2 x3 X943 x4 x5 s := by
  unfold fm_311_p94 at h1 ⊢
  unfold fw_311_p94 at h2
  exact ⟨h1.1, ⟨(fun c2 => ⟨(h1.2.1 c2).1, ⟨(fun c4 => ⟨((h1.2.1 c2).2.1 c4).1, ⟨((h1.2.1 c2).2.1 c4).2.1, hQ _ _  ((h1.2.1 c2).2.1 c4).2.2 ((((((h2 h1.1).1 c2) (h1.2.1 c2).1).1 c4) ((h1.2.1 c2).2.1 c4).1) ((h1.2.1 c2).2.1 c4).2.1)⟩⟩), (fun c4 => hQ _ _  ((h1.2.1 c2).2.2 c4) ((((h2 h1.1).1 c2) (h1.2.1 c2).1).2 c4))⟩⟩), (fun c2 => cj_303 (fun z36 s35 k9 l9 => ⟨(fun c10 => cj_311_p116 hX94 hQ (k9.1 c10) (l9.1 c10)), (fun c10 => cj_313 (fun r45 s44 k12 l12 => cj_311_p116 hX94 hQ k12 l12) (k9.2 c10) (l9.2 c10))⟩) (h1.2.2 c2) ((h2 h1.1).2 c2))⟩⟩
def fw_311_p94L (Q : Int → lf_Z → Prop) (x2 : Int) (x3 : Int) (x4 : Int) (x5 : Int) (s : lf_Z) : Prop := ∃ X94 : Int → Int → lf_Z → Prop, (∀ (x4 : Int) (x5 : Int) (s : lf_Z), X94 x4 x5 s → fw_311_p94 Q x2 x3 X94 x4 x5 s) ∧ X94 x4 x5 s
theorem cj_311_p94L {Q1 Q2 Q3 : Int → lf_Z → Prop} {x2 : Int} {x3 : Int} {x4 : Int} {x5 : Int} {s : lf_Z} (hQ : ∀ (r : Int) (s : lf_Z), Q1 r s → Q2 r s → Q3 r s) (h1 : fm_311_p94L Q1 x2 x3 x4 x5 s) (h2 : fw_311_p94L Q2 x2 x3 x4 x5 s) : fm_311_p94L Q3 x2 x3 x4 x5 s := by
  intro X0 hX0
  obtain ⟨Y, hY, hY0⟩ := h2
  exact h1 (fun v0 v1 s => Y v0 v1 s → X0 v0 v1 s) (fun v0 v1 s hb hy => hX0 v0 v1 s (cj_311_p94 (X941 := fun v0 v1 s => Y v0 v1 s → X0 v0 v1 s) (X942 := Y) (X943 := X0) (hX94 := fun v0 v1 s a b => a b) hQ hb (hY v0 v1 s hy))) hY0
def fw_311_p71 (Q : Int → lf_Z → Prop) (x2 : Int) (x3 : Int) (x4 : Int) (X71 : Int → lf_Z → Prop) (x5 : Int) (s : lf_Z) : Prop := lf_R x5 → (lf_R x3 → ((x3 ≤ x5 → (fw_311_p94L Q x2 x3 x4 1 s)) ∧ (¬ (x3 ≤ x5) → ((0 ≤ x5 ∧ x5 < 6) → (X71 (x5 + 1) (lf_up s.1 116 x5 0, s.2.1, s.2.2))))))
theorem cj_311_p71 {X711 X712 X713 : Int → lf_Z → Prop} {Q1 Q2 Q3 : Int → lf_Z → Prop} {x2 : Int} {x3 : Int} {x4 : Int} {x5 : Int} {s : lf_Z} (hX71 : ∀ (v0 : Int) (v1 : lf_Z), X711 v0 v1 → X712 v0 v1 → X713 v0 v1) (hQ : ∀ (r : Int) (s : lf_Z), Q1 r s → Q2 r s → Q3 r s) (h1 : fm_311_p71 Q1 x2 x3 x4 X711 x5 s) (h2 : fw_311_p71 Q2 x2 x3 x4 X712 x5 s) : fm_311_p71 Q3 x2 x3 x4 X713 x5 s := by
  unfold fm_311_p71 at h1 ⊢
  unfold fw_311_p71 at h2
  exact ⟨h1.1, ⟨h1.2.1, ⟨(fun c3 => cj_311_p94L hQ (h1.2.2.1 c3) (((h2 h1.1) h1.2.1).1 c3)), (fun c3 => ⟨(h1.2.2.2 c3).1, hX71 _ _  (h1.2.2.2 c3).2 ((((h2 h1.1) h1.2.1).2 c3) (h1.2.2.2 c3).1)⟩)⟩⟩⟩
def fw_311_p71L (Q : Int → lf_Z → Prop) (x2 : Int) (x3 : Int) (x4 : Int) (x5 : Int) (s : lf_Z) : Prop := ∃ X71 : Int → lf_Z → Prop, (∀ (x5 : Int) (s : lf_Z), X71 x5 s → fw_311_p71 Q x2 x3 x4 X71 x5 s) ∧ X71 x5 s
theorem cj_311_p71L {Q1 Q2 Q3 : Int → lf_Z → Prop} {x2 : Int} {x3 : Int} {x4 : Int} {x5 : Int} {s : lf_Z} (hQ : ∀ (r : Int) (s : lf_Z), Q1 r s → Q2 r s → Q3 r s) (h1 : fm_311_p71L Q1 x2 x3 x4 x5 s) (h2 : fw_311_p71L Q2 x2 x3 x4 x5 s) : fm_311_p71L Q3 x2 x3 x4 x5 s := by
  intro X0 hX0
  obtain ⟨Y, hY, hY0⟩ := h2
  exact h1 (fun v0 s => Y v0 s → X0 v0 s) (fun v0 s hb hy => hX0 v0 s (cj_311_p71 (X711 := fun v0 s => Y v0 s → X0 v0 s) (X712 := Y) (X713 := X0) (hX71 := fun v0 s a b => a b) hQ hb (hY v0 s hy))) hY0
def fw_311_p35 (Q : Int → lf_Z → Prop) (x2 : Int) (x3 : Int) (X35 : Int → lf_Z → Prop) (x4 : Int) (s : lf_Z) : Prop := lf_R x4 → (lf_R x3 → ((x3 ≤ x4 → (fw_311_p71L Q x2 x3 (-1) 0 s)) ∧ (¬ (x3 ≤ x4) → ((0 ≤ 16 + x4 ∧ 16 + x4 < 20) → (lf_R (s.1 119 (16 + x4)) → ((s.1 119 (16 + x4) < 1000 → (X35 (x4 + 1) s)) ∧ (¬ (s.1 119 (16 + x4) < 1000) → (Q (-1) s))))))))
theorem cj_311_p35 {X351 X352 X353 : Int → lf_Z → Prop} {Q1 Q2 Q3 : Int → lf_Z → Prop} {x2 : Int} {x3 : Int} {x4 : Int} {s : lf_Z} (hX35 : ∀ (v0 : Int) (v1 : lf_Z), X351 v0 v1 → X352 v0 v1 → X353 v0 v1) (hQ : ∀ (r : Int) (s : lf_Z), Q1 r s → Q2 r s → Q3 r s) (h1 : fm_311_p35 Q1 x2 x3 X351 x4 s) (h2 : fw_311_p35 Q2 x2 x3 X352 x4 s) : fm_311_p35 Q3 x2 x3 X353 x4 s := by
  unfold fm_311_p35 at h1 ⊢
  unfold fw_311_p35 at h2
  exact ⟨h1.1, ⟨h1.2.1, ⟨(fun c3 => cj_311_p71L hQ (h1.2.2.1 c3) (((h2 h1.1) h1.2.1).1 c3)), (fun c3 => ⟨(h1.2.2.2 c3).1, ⟨(h1.2.2.2 c3).2.1, ⟨(fun c7 => hX35 _ _  ((h1.2.2.2 c3).2.2.1 c7) ((((((h2 h1.1) h1.2.1).2 c3) (h1.2.2.2 c3).1) (h1.2.2.2 c3).2.1).1 c7)), (fun c7 => hQ _ _  ((h1.2.2.2 c3).2.2.2 c7) ((((((h2 h1.1) h1.2.1).2 c3) (h1.2.2.2 c3).1) (h1.2.2.2 c3).2.1).2 c7))⟩⟩⟩)⟩⟩⟩
def fw_311_p35L (Q : Int → lf_Z → Prop) (x2 : Int) (x3 : Int) (x4 : Int) (s : lf_Z) : Prop := ∃ X35 : Int → lf_Z → Prop, (∀ (x4 : Int) (s : lf_Z), X35 x4 s → fw_311_p35 Q x2 x3 X35 x4 s) ∧ X35 x4 s
theorem cj_311_p35L {Q1 Q2 Q3 : Int → lf_Z → Prop} {x2 : Int} {x3 : Int} {x4 : Int} {s : lf_Z} (hQ : ∀ (r : Int) (s : lf_Z), Q1 r s → Q2 r s → Q3 r s) (h1 : fm_311_p35L Q1 x2 x3 x4 s) (h2 : fw_311_p35L Q2 x2 x3 x4 s) : fm_311_p35L Q3 x2 x3 x4 s := by
  intro X0 hX0
  obtain ⟨Y, hY, hY0⟩ := h2
  exact h1 (fun v0 s => Y v0 s → X0 v0 s) (fun v0 s hb hy => hX0 v0 s (cj_311_p35 (X351 := fun v0 s => Y v0 s → X0 v0 s) (X352 := Y) (X353 := X0) (hX35 := fun v0 s a b => a b) hQ hb (hY v0 s hy))) hY0
def fw_311 (a1 : Int) (a2 : Int) (Q : Int → lf_Z → Prop) (s : lf_Z) : Prop := fw_249 a1 (fun z22 s21 => ((z22 = false → (Q (-1) s21)) ∧ (z22 = true → (lf_R a2 → (((-1) ≤ a2 → (fw_312 a1 (fun r25 s24 => (lf_R r25 → ((r25 = 0 → (Q (-1) s24)) ∧ (¬ (r25 = 0) → ((a2 < r25 → (fw_311_p35L Q a2 r25 0 s24)) ∧ (¬ (a2 < r25) → (Q (-1) s24))))))) s21)) ∧ (¬ ((-1) ≤ a2) → (Q (-1) s21))))))) s
theorem cj_311 {Q1 Q2 Q3 : Int → lf_Z → Prop} {a1 : Int} {a2 : Int} {s : lf_Z} (hQ : ∀ (r : Int) (s : lf_Z), Q1 r s → Q2 r s → Q3 r s) (h1 : fm_311 a1 a2 Q1 s) (h2 : fw_311 a1 a2 Q2 s) : fm_311 a1 a2 Q3 s := by
  unfold fm_311 at h1 ⊢
  unfold fw_311 at h2
  exact cj_249 (fun z22 s21 k1 l1 => ⟨(fun c2 => hQ _ _  (k1.1 c2) (l1.1 c2)), (fun c2 => ⟨(k1.2 c2).1, ⟨(fun c5 => cj_312 (fun r25 s24 k6 l6 => ⟨k6.1, ⟨(fun c8 => hQ _ _  (k6.2.1 c8) ((l6 k6.1).1 c8)), (fun c8 => ⟨(fun c10 => cj_311_p35L hQ ((k6.2.2 c8).1 c10) (((l6 k6.1).2 c8).1 c10)), (fun c10 => hQ _ _  ((k6.2.2 c8).2 c10) (((l6 k6.1).2 c8).2 c10))⟩)⟩⟩) ((k1.2 c2).2.1 c5) (((l1.2 c2) (k1.2 c2).1).1 c5)), (fun c5 => hQ _ _  ((k1.2 c2).2.2 c5) (((l1.2 c2) (k1.2 c2).1).2 c5))⟩⟩)⟩) h1 h2
/-! whom: the class -/
section WM
variable {J K : Nat → Int → Int} {s t u : lf_Z} {f g sv M : Int → Int} {H : List rr_H} {X : mn_X} {I : Nat → Int → Int} {a x y : Int} {P : Nat → Bool} {gl : Nat → Int} {cnt : Nat}
/-- in how many minutes a person is there -/
def wm_t (J : Nat → Int → Int) (a x y : Int) : Int := if 1000 ≤ mn_d J 13 x y then -1 else if J 8 a = 0 then mn_d J 13 x y else (mn_d J 13 x y + 1).tdiv 2
theorem fl_135 {Q : Int → lf_Z → Prop} (hJ : gc_J J s) (x0 : 0 ≤ x ∧ x < J 1 0) (y0 : 0 ≤ y ∧ y < J 1 0) (a0 : 0 ≤ a ∧ a < J 1 2) (h : Q (wm_t J a x y) s) : fw_135 a x y Q s := by
  have e1 : s.1 1 = J 1 := hJ 1 (by omega)
  have e8 : s.1 8 = J 8 := hJ 8 (by omega)
  have e13 : s.1 13 = J 13 := hJ 13 (by omega)
  unfold fw_135
  refine fl_75 (by rw [e1]; exact x0) (by rw [e1]; exact y0) ?_
  rw [e13]
  have hd : J 13 (x * 12 + y) = mn_d J 13 x y := rfl
  rw [hd]
  intro _
  refine ⟨fun c => qu_to h (if_pos c), fun c => fl_99 ⟨fun _ _ _ => ⟨fun y8 => qu_to h ((if_neg c).trans (if_pos (by rw [← e8]; exact y8))), fun y8 _ => qu_to h ((if_neg c).trans (if_neg (by rw [← e8]; exact y8)))⟩, fun q3 => ?_⟩⟩
  exact absurd a0 (by rw [← e1]; exact bd_f q3)
theorem wm_tB (hW : mn_W J) (x0 : 0 ≤ x ∧ x < J 1 0) (y0 : 0 ≤ y ∧ y < J 1 0) : -1 ≤ wm_t J a x y ∧ wm_t J a x y < 1000 := by
  have nn := hW.2.2.2.2.2.1.2.1 x y x0.1 x0.2 y0.1 y0.2
  unfold wm_t
  by_cases c : 1000 ≤ mn_d J 13 x y
  · rw [if_pos c]; omega
  · rw [if_neg c]
    by_cases d : J 8 a = 0
    · rw [if_pos d]; omega
    · rw [if_neg d, Int.tdiv_eq_ediv_of_nonneg (by omega)]; omega
/-- who is sent so far, how long the last needs -/
abbrev wm_W : Type := List Nat × Int
def wm_v (w : wm_W) : Int := w.2
def wm_st (J : Nat → Int → Int) (f : Int → Int) (P : Nat → Bool) (gl : Nat → Int) (i : Nat) (w : wm_W) (p : Nat) : Option wm_W := if P p = true ∧ ¬ p ∈ w.1 ∧ wm_t J p (f (12 + 2 * (p : Int))) (gl i) ≠ -1 then some (p :: w.1, max w.2 (wm_t J p (f (12 + 2 * (p : Int))) (gl i))) else none
theorem wm_mo : ∀ (i : Nat) (w : wm_W) (e : Nat) (w' : wm_W), wm_st J f P gl i w e = some w' → wm_v w ≤ wm_v w' := by
  intro i w e w' h
  unfold wm_st at h
  by_cases c : P e = true ∧ ¬ e ∈ w.1 ∧ wm_t J e (f (12 + 2 * (e : Int))) (gl i) ≠ -1
  · rw [if_pos c] at h
    have q := Option.some.inj h
    rw [← q]
    show w.2 ≤ max w.2 (wm_t J e (f (12 + 2 * (e : Int))) (gl i))
    omega
  · rw [if_neg c] at h; cases h
def wm_c (J : Nat → Int → Int) (f : Int → Int) (cnt : Nat) (gl : Nat → Int) (s : lf_Z) : Prop := gc_J J s ∧ rc_S s.1 f ∧ (∀ j : Nat, j < cnt → s.1 75 j = gl j) ∧ s.1 74 5 = cnt
def wm_s (cnt : Nat) (st : en_S) (I : Nat → Int → Int) : Prop := I 74 6 = st.1 ∧ (st.1 ≠ -1 → st.2.length = cnt ∧ ∀ j p : Nat, st.2[j]? = some p → I 77 j = p)
def wm_h (i : Nat) (ch : List Nat) (I : Nat → Int → Int) : Prop := ch.length = i ∧ ∀ j p : Nat, ch[j]? = some p → I 76 j = p
def wm_f (s t : lf_Z) : Prop := (∀ c : Nat, c ≠ 74 → c ≠ 76 → c ≠ 77 → t.1 c = s.1 c) ∧ (∀ i : Int, i ≠ 6 → t.1 74 i = s.1 74 i) ∧ t.2 = s.2
theorem wm_fr : wm_f s s := ⟨fun _ _ _ _ => rfl, fun _ _ => rfl, rfl⟩
theorem wm_ft (h : wm_f s t) (g : wm_f t u) : wm_f s u := ⟨fun c a b d => (g.1 c a b d).trans (h.1 c a b d), fun i hi => (g.2.1 i hi).trans (h.2.1 i hi), g.2.2.trans h.2.2⟩
theorem wm_cf (h : wm_c J f cnt gl s) (e : wm_f s t) : wm_c J f cnt gl t := by
  obtain ⟨h1, h2, h3, h4⟩ := h
  refine ⟨fun c hc => (e.1 c (by omega) (by omega) (by omega)).trans (h1 c hc), ?_, fun j hj => by rw [e.1 75 (by decide) (by decide) (by decide)]; exact h3 j hj, (e.2.1 5 (by decide)).trans h4⟩
  unfold rc_S at h2 ⊢
  rw [e.1 16 (by decide) (by decide) (by decide), e.1 17 (by decide) (by decide) (by decide), e.1 18 (by decide) (by decide) (by decide), e.1 19 (by decide) (by decide) (by decide), e.1 20 (by decide) (by decide) (by decide), e.1 21 (by decide) (by decide) (by decide), e.1 15 (by decide) (by decide) (by decide)]
  exact h2
theorem wm_get {l : List Nat} {m j p : Nat} (h : (l ++ [m])[j]? = some p) : l[j]? = some p ∨ (j = l.length ∧ p = m) := by
  by_cases c : j < l.length
  · rw [List.getElem?_append_left c] at h
    exact Or.inl h
  · rw [List.getElem?_append_right (by omega)] at h
    cases q : j - l.length with
    | zero =>
      rw [q] at h
      have e : m = p := by simpa using h
      exact Or.inr ⟨by omega, e.symm⟩
    | succ n =>
      rw [q] at h
      exact absurd h (by simp)
theorem wm_lt {l : List Nat} {j p : Nat} (h : l[j]? = some p) : j < l.length := by
  by_cases c : j < l.length
  · exact c
  · rw [List.getElem?_eq_none (by omega)] at h
    cases h
theorem bt_n1 : ∀ k : Nat, k < 32 → bt_g (-1) k = true := by decide +kernel
/-- one less in a set -/
theorem bt_rm {fr : Int} {m q : Nat} (hm : m < 31) (hq : q < 31) : bt_t (lf_and fr (lf_xor (lf_shl 1 (m : Int)) (-1))) (q : Int) = (bt_t fr (q : Int) && !(decide (q = m))) := by
  show bt_g (lf_and fr (lf_xor (lf_shl 1 (m : Int)) (-1))) q = (bt_g fr q && !(decide (q = m)))
  rw [bt_and, bt_xor, bt_s1 m hm q (by omega), bt_n1 q (by omega)]
  cases decide (q = m) <;> rfl
theorem fl_139 (hW : mn_W J) (hcnt : cnt ≤ 6) (hgl : ∀ j : Nat, j < cnt → 0 ≤ gl j ∧ gl j < J 1 0) (hP : ∀ p : Nat, P p = true → (p : Int) < J 1 2) (hpl : ∀ p : Nat, (p : Int) < J 1 2 → 0 ≤ f (12 + 2 * (p : Int)) ∧ f (12 + 2 * (p : Int)) < J 1 0) : ∀ (n k i : Nat) (w : wm_W) (ch : List Nat) (st : en_S) (fr : Int) (s : lf_Z) (Q : lf_Z → Prop), i + k = cnt → wm_c J f cnt gl s → wm_s cnt st s.1 → wm_h i ch s.1 → (∀ q : Nat, q < 6 → (bt_t fr (q : Int) = true ↔ P q = true ∧ ¬ q ∈ w.1)) → 0 ≤ w.2 → (∀ t : lf_Z, wm_f s t → (∀ j : Int, j < i → t.1 76 j = s.1 76 j) → wm_s cnt (en_D (wm_st J f P gl) wm_v (fun e => e) (J 1 2).toNat k i w ch st) t.1 → Q t) → fv_139T n i fr w.2 Q s := by
  have w2 := hW.2.2.1
  intro n
  induction n with
  | zero =>
    intro k i w ch st fr s Q _ _ _ _ _ _ _
    exact True.intro
  | succ n ih =>
    intro k i w ch st fr s Q hik hc hs hh hf hl hk
    have p17 : (st.1 = -1 ∨ w.2 < st.1) → fw_139_p17 (fv_139T n) Q i fr w.2 s := fun hp => by
      unfold fw_139_p17
      rw [hc.2.2.2]
      intro _ _
      refine ⟨fun y => ?_, fun y => ?_⟩
      · obtain ⟨k', rfl⟩ : ∃ k', k = k' + 1 := ⟨k - 1, by omega⟩
        rw [en_DS] at hk
        obtain ⟨G, hG⟩ : ∃ G, G = en_g (wm_st J f P gl) wm_v (fun e => e) (J 1 2).toNat k' i w ch := ⟨_, rfl⟩
        rw [← hG] at hk
        refine ⟨fun p t => wm_f s t ∧ (∀ j : Int, j < i → t.1 76 j = s.1 76 j) ∧ ∃ (m : Nat) (st1 : en_S), p = m ∧ m ≤ (J 1 2).toNat ∧ wm_s cnt st1 t.1 ∧ en_u G (J 1 2).toNat 0 st = en_u G ((J 1 2).toNat - m) m st1, ?_, ⟨wm_fr, fun _ _ => rfl, 0, st, rfl, Nat.zero_le _, hs, rfl⟩⟩
        intro p t ⟨tf, th, m, st1, ep, m1, ts, eg⟩
        have tc := wm_cf hc tf
        have e12 : t.1 1 2 = J 1 2 := by rw [tc.1 1 (by omega)]
        have c5 : t.1 74 5 = cnt := tc.2.2.2
        unfold fw_139_p34
        rw [e12, ep]
        intro _ _
        refine ⟨fun y2 => ?_, fun y2 => ?_⟩
        · have e : m = (J 1 2).toNat := by omega
          rw [e, Nat.sub_self] at eg
          exact hk t tf th (by rw [eg]; exact ts)
        · have stp : en_u G ((J 1 2).toNat - m) m st1 = en_u G ((J 1 2).toNat - (m + 1)) (m + 1) (G m st1) := by
            rw [show (J 1 2).toNat - m = ((J 1 2).toNat - (m + 1)) + 1 by omega]
            rfl
          have nx : ∀ (u : lf_Z) (st2 : en_S), wm_f s u → (∀ j : Int, j < i → u.1 76 j = s.1 76 j) → wm_s cnt st2 u.1 → G m st1 = st2 → fw_139_p122 (fv_139T n) (fun p t => wm_f s t ∧ (∀ j : Int, j < i → t.1 76 j = s.1 76 j) ∧ ∃ (m : Nat) (st1 : en_S), p = m ∧ m ≤ (J 1 2).toNat ∧ wm_s cnt st1 t.1 ∧ en_u G (J 1 2).toNat 0 st = en_u G ((J 1 2).toNat - m) m st1) Q i fr w.2 m u := fun u st2 uf uh us e2 => by
            unfold fw_139_p122
            refine ⟨uf, uh, m + 1, st2, by omega, by omega, us, ?_⟩
            rw [eg, stp, e2]
          have no : wm_st J f P gl i w m = none → G m st1 = st1 := fun e => by
            rw [hG]
            exact en_g0 (l := fun e => e) e
          rw [bt_T (by omega) (by omega)]
          refine ⟨fun y3 => ?_, fun y3 _ _ => ?_⟩
          · unfold fw_139_p85
            intro _
            refine ⟨fun _ => nx t st1 tf th ts (no (if_neg (fun q => ?_))), fun y4 => absurd rfl y4⟩
            rw [if_pos ((hf m (by omega)).mpr ⟨q.1, q.2.1⟩)] at y3
            exact y3 rfl
          · have bt : bt_t fr (m : Int) = true := by
              cases q : bt_t fr (m : Int) with
              | true => rfl
              | false => rw [q] at y3; exact absurd (show (if false = true then (1 : Int) else 0) ≠ 1 by decide) y3
            obtain ⟨hPm, hUm⟩ := (hf m (by omega)).mp bt
            have pl := hpl m (by omega)
            have gi := hgl i (by omega)
            rw [(tc.2.1.2.1 m (by omega) (by omega)).1, tc.2.2.1 i (by omega)]
            refine fl_135 tc.1 pl gi ⟨by omega, by omega⟩ ?_
            have tB := wm_tB (a := m) hW pl gi
            unfold fw_139_p85
            intro _
            refine ⟨fun y4 => nx t st1 tf th ts (no (if_neg (fun q => q.2.2 y4))), fun y4 _ _ => ?_⟩
            have sp : wm_st J f P gl i w m = some (m :: w.1, max w.2 (wm_t J m (f (12 + 2 * (m : Int))) (gl i))) := if_pos ⟨hPm, hUm, y4⟩
            obtain ⟨u, hu⟩ : ∃ u : lf_Z, u = (lf_up t.1 76 i m, t.2.1, t.2.2) := ⟨_, rfl⟩
            rw [← hu, show (i : Int) + 1 = ((i + 1 : Nat) : Int) by omega]
            have u76 : ∀ j : Int, j < i → u.1 76 j = s.1 76 j := fun j hj => by
              rw [hu]
              exact (zu_i (by omega)).trans (th j hj)
            have uf : wm_f t u := by
              rw [hu]
              exact ⟨fun c _ h2 _ => zu_r h2, fun _ _ => zu_c (by decide), rfl⟩
            have us : wm_s cnt st1 u.1 := by
              refine ⟨(by rw [hu]; exact (zu_c (by decide)).trans ts.1), fun q => ⟨(ts.2 q).1, fun j p hp => ?_⟩⟩
              rw [hu]
              exact (zu_c (by decide)).trans ((ts.2 q).2 j p hp)
            have uh : wm_h (i + 1) (ch ++ [m]) u.1 := by
              refine ⟨by rw [List.length_append, hh.1]; rfl, fun j p hp => ?_⟩
              rcases wm_get hp with q | ⟨q1, q2⟩
              · have jl := wm_lt q
                have hl0 := hh.1
                rw [u76 j (by omega)]
                exact hh.2 j p q
              · rw [q1, q2, hh.1, hu]
                exact zu_s
            have go := ih k' (i + 1) (m :: w.1, max w.2 (wm_t J m (f (12 + 2 * (m : Int))) (gl i))) (ch ++ [m]) st1 (lf_and fr (lf_xor (lf_shl 1 (m : Int)) (-1))) u (fun s29 => fw_139_p122 (fv_139T n) (fun p t => wm_f s t ∧ (∀ j : Int, j < i → t.1 76 j = s.1 76 j) ∧ ∃ (m : Nat) (st1 : en_S), p = m ∧ m ≤ (J 1 2).toNat ∧ wm_s cnt st1 t.1 ∧ en_u G (J 1 2).toNat 0 st = en_u G ((J 1 2).toNat - m) m st1) Q i fr w.2 m s29) (by omega) (wm_cf tc uf) us uh (fun q hq => ?_) (by show 0 ≤ max w.2 _; omega) (fun t2 t2f t2h t2s => ?_)
            · exact go
            · rw [bt_rm (by omega) (by omega), Bool.and_eq_true, hf q hq]
              constructor
              · intro ⟨⟨q1, q2⟩, q3⟩
                refine ⟨q1, fun q4 => ?_⟩
                rcases List.mem_cons.mp q4 with e | e
                · rw [decide_eq_true e] at q3; cases q3
                · exact q2 e
              · intro ⟨q1, q2⟩
                refine ⟨⟨q1, fun e => q2 (List.mem_cons_of_mem _ e)⟩, ?_⟩
                rw [decide_eq_false (fun e => q2 (List.mem_cons.mpr (Or.inl e)))]; rfl
            · refine nx t2 _ (wm_ft tf (wm_ft uf t2f)) (fun j hj => (t2h j (by omega)).trans (u76 j hj)) t2s ?_
              rw [hG]
              exact en_g1 (l := fun e => e) sp
      · have k0 : k = 0 := by omega
        subst k0
        unfold fw_140
        obtain ⟨u, hu⟩ : ∃ u : lf_Z, u = (lf_cp (lf_up s.1 74 6 w.2) 76 77 0 0 6, s.2.1, s.2.2) := ⟨_, rfl⟩
        rw [← hu]
        have u1 : u.1 = lf_cp (lf_up s.1 74 6 w.2) 76 77 0 0 6 := by rw [hu]
        have u2 : u.2 = s.2 := by rw [hu]
        refine hk u ⟨fun c h1 h2 h3 => by rw [u1]; exact (lf_cp_row h3).trans (lf_up_row h1), fun j hj => by rw [u1]; exact (lf_cp_c (by decide)).trans (lf_up_i hj), u2⟩ (fun j _ => by rw [u1]; exact (lf_cp_c (by decide)).trans (lf_up_c (by decide))) ?_
        have e : en_D (wm_st J f P gl) wm_v (fun e => e) (J 1 2).toNat 0 i w ch st = (w.2, ch) := if_pos hp
        rw [e, u1]
        refine ⟨(lf_cp_c (by decide)).trans lf_up_s, fun _ => ⟨by show ch.length = cnt; rw [hh.1]; omega, fun j p hp => ?_⟩⟩
        have hp : ch[j]? = some p := hp
        have jl := wm_lt hp
        refine (lf_cp_s (by omega) (by rw [hh.1] at jl; omega)).trans ?_
        rw [show (0 : Int) + ((j : Int) - 0) = j by omega]
        exact (lf_up_c (by decide)).trans (hh.2 j p hp)
    show fw_139 (fv_139T n) i fr w.2 Q s
    unfold fw_139
    rw [hs.1]
    intro _
    refine ⟨fun y => p17 (Or.inl y), fun y _ => ⟨fun y2 => p17 (Or.inr y2), fun y2 => hk s wm_fr (fun _ _ => rfl) ?_⟩⟩
    rw [en_DP wm_mo y (by show st.1 ≤ w.2; omega)]
    exact hs
end WM
/-! whom: the class, from the sets to the answer -/
section WN
variable {J K : Nat → Int → Int} {s t u : lf_Z} {f g sv M : Int → Int} {H : List rr_H} {X : mn_X} {I : Nat → Int → Int} {a b c x y : Int} {P : Nat → Bool} {gl : Nat → Int} {cnt : Nat}
/-- the e-th of a sort -/
def en_sel (P : Nat → Bool) : Nat → Nat → Nat
  | 0, _ => 0
  | n + 1, e => if P n = true ∧ e = dm_cn P n then n else en_sel P n e
theorem en_selI : ∀ (n e : Nat), e < dm_cn P n → P (en_sel P n e) = true ∧ en_sel P n e < n ∧ dm_cn P (en_sel P n e) = e := by
  intro n
  induction n with
  | zero => intro e h; exact absurd h (Nat.not_lt_zero _)
  | succ n ih =>
    intro e h
    have h : e < dm_cn P n + (if P n = true then 1 else 0) := h
    show P (if P n = true ∧ e = dm_cn P n then n else en_sel P n e) = true ∧ (if P n = true ∧ e = dm_cn P n then n else en_sel P n e) < n + 1 ∧ dm_cn P (if P n = true ∧ e = dm_cn P n then n else en_sel P n e) = e
    by_cases c : P n = true ∧ e = dm_cn P n
    · rw [if_pos c]
      exact ⟨c.1, by omega, c.2.symm⟩
    · rw [if_neg c]
      have lt : e < dm_cn P n := by
        by_cases q : P n = true
        · rw [if_pos q] at h
          have : e ≠ dm_cn P n := fun y => c ⟨q, y⟩
          omega
        · rw [if_neg q] at h; omega
      obtain ⟨h1, h2, h3⟩ := ih e lt
      exact ⟨h1, by omega, h3⟩
theorem en_selU {p q : Nat} (hp : P p = true) (hq : P q = true) (h : dm_cn P p = dm_cn P q) : p = q := by
  rcases Nat.lt_trichotomy p q with c | c | c
  · have := dm_cnG c hp; omega
  · exact c
  · have := dm_cnG c hq; omega
theorem en_selE {n p : Nat} (h : p < n) (hp : P p = true) : en_sel P n (dm_cn P p) = p := by
  obtain ⟨h1, _, h3⟩ := en_selI n (dm_cn P p) (dm_cnG h hp)
  exact en_selU h1 hp h3
/-- bits of a set below its power -/
theorem ws_lt : ∀ n : Nat, n ≤ 16 → lf_shl 1 (n : Int) = ((2 ^ n : Nat) : Int) := by decide +kernel
theorem ws_hi {n q : Nat} (hn : n ≤ 16) (a0 : 0 ≤ a) (a1 : a ≤ lf_shl 1 (n : Int) - 1) (hq : n ≤ q) (q31 : q < 32) : bt_t a (q : Int) = false := by
  rw [ws_lt n hn] at a1
  obtain ⟨y, rfl⟩ := Int.eq_ofNat_of_zero_le a0
  rw [ws_tb q31]
  exact Nat.testBit_lt_two_pow (Nat.lt_of_lt_of_le (show y < 2 ^ n by omega) (Nat.pow_le_pow_right (by decide) hq))
def wm_P (n : Int) (a : Int) (k : Nat) : Bool := decide ((k : Int) < n) && bt_t a (k : Int)
theorem wm_PE {n : Nat} (hn : n ≤ 16) (a0 : 0 ≤ a) (a1 : a ≤ lf_shl 1 (n : Int) - 1) {k : Nat} (hk : k < 32) : wm_P n a k = bt_t a (k : Int) := by
  unfold wm_P
  by_cases c : k < n
  · rw [decide_eq_true (show (k : Int) < n by omega), Bool.true_and]
  · rw [ws_hi hn a0 a1 (by omega) hk, Bool.and_false]
theorem wm_Pb {n : Nat} (hn : n ≤ 16) (a0 : 0 ≤ a) (a1 : a ≤ lf_shl 1 (n : Int) - 1) {m : Nat} (h1 : n ≤ m) (h2 : m ≤ 16) : dm_cn (fun k => bt_t a (k : Int)) m = dm_cn (wm_P n a) n := by
  have e : dm_cn (fun k => bt_t a (k : Int)) m = dm_cn (wm_P n a) m := dm_cnK (fun w hw => (wm_PE hn a0 a1 (by omega)).symm)
  have z : ∀ l : Nat, n ≤ l → dm_cn (wm_P n a) l = dm_cn (wm_P n a) n := by
    intro l
    induction l with
    | zero => intro h; rw [show n = 0 by omega]
    | succ l ih =>
      intro h
      by_cases c : n = l + 1
      · rw [c]
      · show dm_cn (wm_P n a) l + (if wm_P n a l = true then 1 else 0) = _
        have q : wm_P n a l = false := by unfold wm_P; rw [decide_eq_false (by omega), Bool.false_and]
        rw [q, if_neg (by decide), Nat.add_zero]
        exact ih (by omega)
  rw [e, z m h1]
/-! how many are in a set, by the class's way -/
def wm_b1 (x : Int) : Int := x - lf_and (lf_ushr x 1) 1431655765
def wm_b2 (x : Int) : Int := lf_and x 858993459 + lf_and (lf_ushr x 2) 858993459
def wm_b3 (x : Int) : Int := lf_and (lf_w (x + lf_ushr x 4)) 252645135
def wm_b4 (x : Int) : Int := x + lf_ushr x 8
def wm_b5 (x : Int) : Int := lf_and (x + lf_ushr x 16) 63
theorem wm_bd : ∀ h : Nat, h < 64 → ∀ l : Nat, l < 64 → wm_b5 (wm_b4 (wm_b3 (wm_b2 (wm_b1 ((64 * h + l : Nat) : Int))))) = ws_b ((64 * h + l : Nat) : Int) := by decide +kernel
theorem wm_bc (y : Nat) (hy : y < 4096) : wm_b5 (wm_b4 (wm_b3 (wm_b2 (wm_b1 (y : Int))))) = ws_b (y : Int) := by
  have e := wm_bd (y / 64) (by omega) (y % 64) (by omega)
  rw [show 64 * (y / 64) + y % 64 = y by omega] at e
  exact e
theorem fl_138 {Q : Int → lf_Z → Prop} (a0 : 0 ≤ a) (a1 : a < 4096) (h : Q (ws_b a : Nat) s) : fw_138 a Q s := by
  obtain ⟨y, rfl⟩ := Int.eq_ofNat_of_zero_le a0
  have e := wm_bc y (by omega)
  unfold fw_138
  exact qu_to h e.symm
end WN
/-! whom: the class's answer -/
section WO
variable {J K : Nat → Int → Int} {s t u : lf_Z} {f g sv M : Int → Int} {H : List rr_H} {X : mn_X} {I : Nat → Int → Int} {a b c x y : Int}
def wm_gl (J : Nat → Int → Int) (b : Int) (j : Nat) : Int := (en_sel (wm_P (J 1 0) b) (J 1 0).toNat j : Nat)
/-- whom it sends: the cost, the persons -/
def wm_R (J : Nat → Int → Int) (f : Int → Int) (a b : Int) : en_S := en_D (wm_st J f (wm_P (J 1 2) a) (wm_gl J b)) wm_v (fun e => e) (J 1 2).toNat (ws_b b) 0 ([], 0) [] (-1, [])
def wm_an (J : Nat → Int → Int) (f : Int → Int) (a b c : Int) : Int := if (wm_R J f a b).1 = -1 then -1 else if c = -1 then (wm_R J f a b).1 else (((wm_R J f a b).2.getD (dm_cn (wm_P (J 1 0) b) c.toNat) 0 : Nat) : Int)
theorem ws_p4 {n : Nat} (h : n ≤ 12) : 2 ^ n ≤ 4096 := Nat.pow_le_pow_right (n := 2) (by decide) h
theorem ws_bB {n : Nat} (hn : n ≤ 16) (a0 : 0 ≤ a) (a1 : a ≤ lf_shl 1 (n : Int) - 1) : ws_b a = dm_cn (wm_P n a) n := wm_Pb hn a0 a1 hn (Nat.le_refl 16)
theorem fl_137 {Q : Int → lf_Z → Prop} (hW : mn_W J) (hJ : gc_J J s) (hS : rc_S s.1 f) (hpl : ∀ p : Nat, (p : Int) < J 1 2 → 0 ≤ f (12 + 2 * (p : Int)) ∧ f (12 + 2 * (p : Int)) < J 1 0) (a0 : 0 ≤ a) (a1 : a ≤ lf_shl 1 (J 1 2) - 1) (b0 : 0 ≤ b) (b1 : b ≤ lf_shl 1 (J 1 0) - 1)
    (k0 : ¬ ws_b b ≤ ws_b a → ∀ t : lf_Z, t.1 74 5 = 0 → Q (-1) t) (k : ws_b b ≤ ws_b a → ∀ t : lf_Z, wm_c J f (ws_b b) (wm_gl J b) t → wm_s (ws_b b) (wm_R J f a b) t.1 → Q (wm_R J f a b).1 t) : fw_137 a b Q s := by
  obtain ⟨n0, hn0⟩ := Int.eq_ofNat_of_zero_le hW.1.1
  obtain ⟨n2, hn2⟩ := Int.eq_ofNat_of_zero_le hW.2.2.1.1
  have l0 : n0 ≤ 12 := by have := hW.1.2; omega
  have l2 : n2 ≤ 6 := by have := hW.2.2.1.2; omega
  have a1' : a ≤ lf_shl 1 (n2 : Int) - 1 := by rw [← hn2]; exact a1
  have b1' : b ≤ lf_shl 1 (n0 : Int) - 1 := by rw [← hn0]; exact b1
  have ba := ws_bB (n := n2) (by omega) a0 a1'
  have bb := ws_bB (n := n0) (by omega) b0 b1'
  have ba6 : ws_b a ≤ 6 := by
    have := dm_cnB (P := wm_P n2 a) n2
    omega
  have a4 : a < 4096 := by
    have := ws_p4 (show n2 ≤ 12 by omega)
    rw [ws_lt n2 (by omega)] at a1'
    omega
  have b4 : b < 4096 := by
    have := ws_p4 l0
    rw [ws_lt n0 (by omega)] at b1'
    omega
  obtain ⟨s0, hs0⟩ : ∃ s0 : lf_Z, s0 = (lf_up (lf_up s.1 74 6 (-1)) 74 5 0, s.2.1, s.2.2) := ⟨_, rfl⟩
  have r0 : ∀ c : Nat, c ≠ 74 → s0.1 c = s.1 c := fun c hc => by rw [hs0]; exact (zu_r hc).trans (lf_up_row hc)
  have s5 : s0.1 74 5 = 0 := by rw [hs0]; exact zu_s
  have s6 : s0.1 74 6 = -1 := by rw [hs0]; exact (zu_i (by decide)).trans lf_up_s
  unfold fw_137
  rw [← hs0]
  refine fl_138 b0 b4 (fl_138 a0 a4 ?_)
  intro _ _ _
  refine ⟨fun q => ?_, fun q => k0 (by omega) s0 s5⟩
  have q : ws_b b ≤ ws_b a := by omega
  obtain ⟨B, hB⟩ : ∃ B, B = wm_P (J 1 0) b := ⟨_, rfl⟩
  have bbB : ws_b b = dm_cn B n0 := by rw [bb, hB, hn0]
  refine ⟨fun x t => (∀ c : Nat, c ≠ 74 → c ≠ 75 → t.1 c = s.1 c) ∧ t.1 74 6 = -1 ∧ ∃ m : Nat, x = m ∧ m ≤ n0 ∧ t.1 74 5 = (dm_cn B m : Nat) ∧ ∀ e : Nat, e < dm_cn B m → t.1 75 e = (en_sel B m e : Nat), ?_, ⟨fun c h1 _ => r0 c h1, s6, 0, rfl, Nat.zero_le _, s5, fun e he => absurd he (Nat.not_lt_zero _)⟩⟩
  intro x t ⟨tc, t6, m, ex, m0, t5, te⟩
  have tJ : gc_J J t := fun c hc => (tc c (by omega) (by omega)).trans (hJ c hc)
  have tS : rc_S t.1 f := by
    unfold rc_S at hS ⊢
    rw [tc 16 (by decide) (by decide), tc 17 (by decide) (by decide), tc 18 (by decide) (by decide), tc 19 (by decide) (by decide), tc 20 (by decide) (by decide), tc 21 (by decide) (by decide), tc 15 (by decide) (by decide)]
    exact hS
  have e1 : t.1 1 0 = n0 := by rw [tJ 1 (by omega)]; exact hn0
  unfold fw_137_p30
  rw [e1, ex]
  intro _ _
  refine ⟨fun y => ?_, fun y => ?_⟩
  · have em : m = n0 := by omega
    subst em
    have e5 : t.1 74 5 = (ws_b b : Nat) := by rw [t5, bbB]
    show fv_139T 200 ((0 : Nat) : Int) a 0 _ t
    refine fl_139 (cnt := ws_b b) (gl := wm_gl J b) (P := wm_P (J 1 2) a) hW (by omega) (fun j hj => ?_) (fun p hp => ?_) hpl 200 (ws_b b) 0 ([], 0) [] (-1, []) a t _ (by omega) ⟨tJ, tS, fun j hj => ?_, e5⟩ ⟨t6, fun y => absurd rfl y⟩ ⟨rfl, fun j p h => absurd h (by simp)⟩ (fun z hz => ?_) (Int.le_refl 0) (fun u uf _ us => ?_)
    · have q1 := (en_selI m j (show j < dm_cn B m by omega)).2.1
      unfold wm_gl
      rw [← hB, show (J 1 0).toNat = m by omega]
      omega
    · unfold wm_P at hp
      rw [Bool.and_eq_true] at hp
      exact of_decide_eq_true hp.1
    · rw [te j (by omega)]
      unfold wm_gl
      rw [← hB, show (J 1 0).toNat = m by omega]
    · have e := wm_PE (n := n2) (by omega) a0 a1' (k := z) (by omega)
      rw [hn2, e]
      exact ⟨fun h => ⟨h, fun y => by cases y⟩, fun h => h.1⟩
    · have uc : wm_c J f (ws_b b) (wm_gl J b) u := wm_cf ⟨tJ, tS, fun j hj => by
        rw [te j (by omega)]
        unfold wm_gl
        rw [← hB, show (J 1 0).toNat = m by omega], e5⟩ uf
      rw [us.1]
      exact k q u uc us
  · have hm : m < n0 := by omega
    have eB : B m = bt_t b (m : Int) := by
      rw [hB]
      unfold wm_P
      rw [decide_eq_true (show (m : Int) < J 1 0 by omega), Bool.true_and]
    have st1 : dm_cn B (m + 1) = dm_cn B m + (if B m = true then 1 else 0) := rfl
    have st2 : ∀ e : Nat, en_sel B (m + 1) e = if B m = true ∧ e = dm_cn B m then m else en_sel B m e := fun e => rfl
    rw [bt_T (by omega) (by omega), ← eB]
    cases eb : B m with
    | false =>
      refine ⟨fun _ => ?_, fun y2 => absurd (show (if false = true then (1 : Int) else 0) ≠ 1 by decide) y2⟩
      unfold fw_137_p79
      refine ⟨tc, t6, m + 1, by omega, by omega, ?_, fun e he => ?_⟩
      · rw [st1, eb, if_neg (by decide), Nat.add_zero]; exact t5
      · rw [st1, eb, if_neg (by decide), Nat.add_zero] at he
        rw [st2, eb, if_neg (fun y => by cases y.1)]
        exact te e he
    | true =>
      refine ⟨fun y2 => absurd rfl y2, fun _ _ => ⟨fun y3 => ?_, fun y3 _ => ?_⟩⟩
      · have m1 := dm_cnW (P := B) n0 (m + 1) (by omega)
        rw [st1, eb, if_pos rfl] at m1
        omega
      · unfold fw_137_p79
        rw [t5]
        refine ⟨fun c h1 h2 => (zu_r h1).trans ((lf_up_row h2).trans (tc c h1 h2)), (zu_i (by decide)).trans ((lf_up_c (by decide)).trans t6), m + 1, by omega, by omega, ?_, fun e he => ?_⟩
        · refine zu_s.trans ?_
          rw [st1, eb, if_pos rfl]
          omega
        · rw [st1, eb, if_pos rfl] at he
          refine (zu_c (by decide)).trans ?_
          rw [st2, eb]
          by_cases y4 : e = dm_cn B m
          · rw [if_pos ⟨rfl, y4⟩, y4]; exact lf_up_s
          · rw [if_neg (fun y5 => y4 y5.2)]
            exact (lf_up_i (by omega)).trans (te e (by omega))
theorem fl_141 {Q : Int → lf_Z → Prop} {st : en_S} (hW : mn_W J) (c0 : 0 ≤ c) (c1 : c < J 1 0) (hb : bt_t b c = true) (hcnt : ws_b b = dm_cn (wm_P (J 1 0) b) (J 1 0).toNat) (hc : wm_c J f (ws_b b) (wm_gl J b) s) (hs : wm_s (ws_b b) st s.1) (h : Q (if st.1 = -1 then -1 else ((st.2.getD (dm_cn (wm_P (J 1 0) b) c.toNat) 0 : Nat) : Int)) s) : fw_141 c Q s := by
  obtain ⟨B, hB⟩ : ∃ B, B = wm_P (J 1 0) b := ⟨_, rfl⟩
  rw [← hB] at h hcnt
  have ec : ((c.toNat : Nat) : Int) = c := by omega
  have Bc : B c.toNat = true := by
    rw [hB]
    unfold wm_P
    rw [ec, decide_eq_true c1, hb]; rfl
  have lt := dm_cnG (P := B) (w := c.toNat) (n := (J 1 0).toNat) (by omega) Bc
  have gE : wm_gl J b (dm_cn B c.toNat) = c := by
    unfold wm_gl
    rw [← hB, en_selE (by omega) Bc]
    exact ec
  unfold fw_141
  refine ⟨fun x t => t = s ∧ ∃ m : Nat, x = m ∧ m ≤ dm_cn B c.toNat, ?_, ⟨rfl, 0, rfl, Nat.zero_le _⟩⟩
  intro x t ⟨et, m, ex, m1⟩
  rw [et]
  unfold fw_141_p2
  rw [hc.2.2.2, hs.1, ex]
  intro _ _
  refine ⟨fun y => by omega, fun y _ => ⟨fun y2 => qu_to h (if_pos y2), fun y2 _ => ?_⟩⟩
  rw [hc.2.2.1 m (by omega)]
  intro _ _
  refine ⟨fun y3 => ⟨rfl, m + 1, by omega, ?_⟩, fun y3 => ?_⟩
  · by_cases e : m = dm_cn B c.toNat
    · rw [e] at y3; exact absurd gE y3
    · omega
  · have y3 := Classical.not_not.mp y3
    have hm : m < dm_cn B (J 1 0).toNat := by omega
    obtain ⟨_, _, q3⟩ := en_selI (P := B) (J 1 0).toNat m hm
    have y3 : ((en_sel B (J 1 0).toNat m : Nat) : Int) = c := by
      have z : wm_gl J b m = c := y3
      unfold wm_gl at z
      rw [← hB] at z
      exact z
    have e9 : c.toNat = en_sel B (J 1 0).toNat m := by omega
    have em : dm_cn B c.toNat = m := by rw [e9]; exact q3
    obtain ⟨len, val⟩ := hs.2 y2
    have hl : m < st.2.length := by omega
    refine qu_to h ?_
    rw [if_neg y2, em, val m st.2[m] (List.getElem?_eq_getElem hl)]
    simp only [List.getD_eq_getElem?_getD, List.getElem?_eq_getElem hl, Option.getD_some]
def qb_136 (a b c : Int) : qb_T := fun _ J f => if (0 ≤ a ∧ a ≤ lf_shl 1 (J 1 2) - 1) ∧ (1 ≤ b ∧ b ≤ lf_shl 1 (J 1 0) - 1) ∧ (c = -1 ∨ ((0 ≤ c ∧ c < J 1 0) ∧ bt_t b c = true)) ∧ ws_b b ≤ ws_b a then wm_an J f a b c else -1
theorem gq_136 {Q : Int → lf_Z → Prop} (hF : gf_T s.1 f H) (hC : gc_T s.1 f H) (h : ∀ t : lf_Z, Q (qb_136 a b c X s.1 f) t) : fw_136 a b c Q s := by
  have hW := hF.1.1
  have n0 := hW.1
  obtain ⟨m0, hm0⟩ := Int.eq_ofNat_of_zero_le hW.1.1
  have hpl : ∀ p : Nat, (p : Int) < s.1 1 2 → 0 ≤ f (12 + 2 * (p : Int)) ∧ f (12 + 2 * (p : Int)) < s.1 1 0 := fun p hp => (hF.2.1.1.1 p (by omega) hp).1
  have go : (0 ≤ a ∧ a ≤ lf_shl 1 (s.1 1 2) - 1) → (1 ≤ b ∧ b ≤ lf_shl 1 (s.1 1 0) - 1) → (c = -1 ∨ ((0 ≤ c ∧ c < s.1 1 0) ∧ bt_t b c = true)) → fw_136_p66 Q a b c s := fun ha hb hc => by
    have bb := ws_bB (n := m0) (by omega) (show 0 ≤ b by omega) (by rw [← hm0]; exact hb.2)
    unfold fw_136_p66
    refine fl_137 (J := s.1) hW (fun _ _ => rfl) hC.1 hpl ha.1 ha.2 (by omega) hb.2 (fun q t t5 _ => ?_) (fun q t tc ts _ => ?_)
    · have e : ∀ u : lf_Z, Q (-1) u := fun u => qu_to (h u) (if_neg (fun y => q y.2.2.2))
      refine ⟨fun _ => ?_, fun _ => e t⟩
      unfold fw_141
      refine ⟨fun x u => u = t ∧ x = 0, ?_, ⟨rfl, rfl⟩⟩
      intro x u ⟨eu, ex⟩
      rw [eu, ex]
      unfold fw_141_p2
      rw [t5]
      intro _ _
      exact ⟨fun _ => e t, fun z => absurd (Int.le_refl 0) z⟩
    · have e : qb_136 a b c X s.1 f = wm_an s.1 f a b c := if_pos ⟨ha, hb, hc, q⟩
      refine ⟨fun y => ?_, fun y => ?_⟩
      · have hc : (0 ≤ c ∧ c < s.1 1 0) ∧ bt_t b c = true := by
          rcases hc with z | z
          · exact absurd z y
          · exact z
        refine fl_141 hW hc.1.1 hc.1.2 hc.2 (by rw [bb, hm0]; rfl) tc ts (qu_to (h t) ?_)
        rw [e]
        unfold wm_an
        by_cases z : (wm_R s.1 f a b).1 = -1
        · rw [if_pos z, if_pos z]
        · rw [if_neg z, if_neg z, if_neg y]
      · refine qu_to (h t) ?_
        rw [e]
        unfold wm_an
        by_cases z : (wm_R s.1 f a b).1 = -1
        · rw [if_pos z, z]
        · rw [if_neg z, if_pos (Classical.not_not.mp y)]
  unfold fw_136
  refine fl_15 ⟨fun q => qu_to (h s) (if_neg (fun y => bd_f q y.1)), fun q => fl_15 ⟨fun q2 _ => ?_, fun q2 => qu_to (h s) (if_neg (fun y => bd_f q2 y.2.1))⟩⟩
  have q := bd_t q
  have q2 := bd_t q2
  refine ⟨fun y => go q q2 (Or.inl y), fun y => fl_18 ⟨fun q3 => qu_to (h s) (if_neg (fun z => ?_)), fun q3 => ?_⟩⟩
  · rcases z.2.2.1 with z | z
    · exact y z
    · exact bd_f q3 z.1
  · have q3 := bd_t q3
    rw [bt_T q3.1 (by omega)]
    cases e : bt_t b c with
    | true => exact ⟨fun _ => go q q2 (Or.inr ⟨q3, e⟩), fun z => absurd (show (if true = true then (1 : Int) else 0) ≠ 0 by decide) z⟩
    | false =>
      refine ⟨fun z => absurd rfl z, fun _ => qu_to (h s) (if_neg (fun z => ?_))⟩
      rcases z.2.2.1 with z | z
      · exact y z
      · rw [e] at z; exact absurd z.2 (by decide)
end WO
