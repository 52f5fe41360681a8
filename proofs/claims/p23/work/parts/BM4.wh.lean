/-! where within the law -/
section QW
variable {s : lf_Z} {a1 a2 a3 a4 : Int} {Q : Int → lf_Z → Prop} {p : Int → Prop} {l : List Nat} {w : Int} {I I' : Nat → Int → Int} {P P' : Nat → Option Nat}
theorem pd_t (h : pd_P P) (q : lf_fq l w true I P I' P') : pd_P P' := by rw [q.2.2.1 rfl]; exact h
theorem pd_c (h : pd_P P) (q : pk_P P P') : pd_P P' := by
  obtain ⟨n, m, h1, h2, h3⟩ := h
  exact ⟨n, m, h1, q.1.trans h2, q.2.trans h3⟩
def gx_S116 (a1 a2 a3 a4 : Int) (r : Int) (I : Nat → Int → Int) (P : Nat → Option Nat) : Prop := gx_B (qb_116 a1 a2 a3 a4) r I P
def gx_R116 (a1 a2 a3 a4 : Int) (p : Int → Prop) (I : Nat → Int → Int) (P : Nat → Option Nat) : Prop := gx_MP (gx_S116 a1 a2 a3 a4) p I P
theorem gw_116 (hI : iv_A s.1 s.2.2) (ba1 : (-2147483648) ≤ a1 ∧ a1 ≤ 2147483647) (ba2 : (-2147483648) ≤ a2 ∧ a2 ≤ 2147483647) (ba3 : (-2147483648) ≤ a3 ∧ a3 ≤ 2147483647) (ba4 : 0 ≤ a4 ∧ a4 ≤ 1) (hA : gx_A s.1 s.2.2) (hP : pd_P s.2.2) (hQ : ∀ (r : Int) (s' : lf_Z), iv_A s'.1 s'.2.2 → lf_fq [63, 64, 65, 66, 68, 69] 1000000 false s.1 s.2.2 s'.1 s'.2.2 → gx_S116 a1 a2 a3 a4 r s'.1 s'.2.2 → pd_P s'.2.2 → Q r s') : fm_116 a1 a2 a3 a4 Q s := by
  have hA' := hA
  obtain ⟨⟨f, H, hF, hC, hR⟩, hD⟩ := hA'
  obtain ⟨X, hB, hX, hXr⟩ := gx_X hD.2.2.1 hD.2.2.2.1.2.2.2.1 hD.2.2.2.2.2.2.2
  refine cj_116 (Q1 := fun r s' => iv_A s'.1 s'.2.2 ∧ lf_fq [63, 64, 65, 66, 68, 69] 1000000 false s.1 s.2.2 s'.1 s'.2.2 ∧ gx_A s'.1 s'.2.2) (Q2 := fun r t => r = qb_116 a1 a2 a3 a4 X s.1 f ∧ pd_P t.2.2) (fun r s' h1 h2 => hQ r s' h1.1 h1.2.1 ⟨⟨X, s.1, f, H, hB, ?_, hF, ?_, h2.1⟩, h1.2.2⟩ h2.2) (gx_116 hI ba1 ba2 ba3 ba4 hA (fun r s' h1 h2 h3 => ⟨h1, h2, h3⟩)) (gq_116 hB hF hC hX hP (fun t tP => ⟨rfl, tP⟩))
  · rw [h1.2.1.1 98 rfl, h1.2.1.1 96 rfl]; exact hXr.1
  · rw [h1.2.1.1 28 rfl, h1.2.1.1 96 rfl]; exact hR
theorem gw_289 (hI : iv_A s.1 s.2.2) (ba1 : (-2147483648) ≤ a1 ∧ a1 ≤ 2147483647) (ba2 : (-2147483648) ≤ a2 ∧ a2 ≤ 2147483647) (ba3 : (-2147483648) ≤ a3 ∧ a3 ≤ 2147483647) (ba4 : 0 ≤ a4 ∧ a4 ≤ 1) (hM : gx_R116 a1 a2 a3 a4 p s.1 s.2.2) (hQ : ∀ (r : Int) (s' : lf_Z), iv_A s'.1 s'.2.2 → lf_fq [104, 107] 1000000 true s.1 s.2.2 s'.1 s'.2.2 → (gx_p p r ∧ gx_A s'.1 s'.2.2) → Q r s') : fm_289 a1 a2 a3 a4 Q s := by
  obtain ⟨r0, hp, ⟨X, J, f, H, hB, hXr, hF, hR, e⟩, hA⟩ := hM
  have h9 := hA.2.2.2.2.2.2.2.2
  exact cj_289 (Q1 := fun r s' => iv_A s'.1 s'.2.2 ∧ lf_fq [104, 107] 1000000 true s.1 s.2.2 s'.1 s'.2.2) (Q2 := fun r t => r = r0) (fun r s' h1 h2 => hQ r s' h1.1 h1.2 ⟨h2 ▸ hp, gx_fq hA h1.2 rfl⟩) (sm_289 hI ba1 ba2 ba3 ba4 (fun r s' h1 h2 => ⟨h1, h2⟩)) (gq_289 hB hF hR ⟨hXr, rfl, h9.1, h9.2.1, h9.2.2.1, h9.2.2.2⟩ (fun _ => e.symm))
end QW
