/-! undo of the class -/
section UC
variable {s t : lf_Z} {f g : Int → Int} {a n2 p : Int} {H : List rr_H}
/-- nothing but the stand's cells is touched -/
def rc_g (s t : lf_Z) : Prop := (∀ c : Nat, c < 15 ∨ 21 < c → t.1 c = s.1 c) ∧ (∀ i : Int, i ≠ 6 → i ≠ 7 → i ≠ 8 → t.1 15 i = s.1 15 i) ∧ t.2 = s.2
theorem rc_gr : rc_g s s := ⟨fun _ _ => rfl, fun _ _ _ _ => rfl, rfl⟩
theorem rc_gt {u : lf_Z} (h : rc_g s t) (k : rc_g t u) : rc_g s u := ⟨fun c hc => (k.1 c hc).trans (h.1 c hc), fun i a b c => (k.2.1 i a b c).trans (h.2.1 i a b c), k.2.2.trans h.2.2⟩
theorem rc_gu {c : Nat} {i v : Int} (h : rc_g s t) (hc : 16 ≤ c ∧ c ≤ 21) : rc_g s (lf_up t.1 c i v, t.2.1, t.2.2) := ⟨fun q hq => (zu_r (by omega)).trans (h.1 q hq), fun j a b d => (zu_c (by omega)).trans (h.2.1 j a b d), h.2.2⟩
theorem rc_g15 {i v : Int} (h : rc_g s t) (hi : i = 6 ∨ i = 7 ∨ i = 8) : rc_g s (lf_up t.1 15 i v, t.2.1, t.2.2) := ⟨fun q hq => (zu_r (by omega)).trans (h.1 q hq), fun j a b d => (zu_i (by omega)).trans (h.2.1 j a b d), h.2.2⟩
theorem fl_69 {b n c d : Int} {Q : lf_Z → Prop} (h : Q (lf_up (lf_up (lf_up s.1 16 b n) 17 b c) 18 b d, s.2.1, s.2.2)) : fw_69 b n c d Q s := by unfold fw_69; exact fun _ => h
theorem fl_109 {Q : lf_Z → Prop} (hg : ∀ j : Int, 0 ≤ j → j < 39 → s.1 23 (a + j) = g j) (kk : ∀ t : lf_Z, rc_g s t → rc_S t.1 g → Q t) : fw_109 a Q s := by
  have p42 : ∀ t : lf_Z, rc_g s t → (∀ b : Int, 0 ≤ b → b < 4 → t.1 16 b = g (3 * b) ∧ t.1 17 b = g (3 * b + 1) ∧ t.1 18 b = g (3 * b + 2)) → fw_109_p42L Q (a + 12) 0 t := by
    intro t tg tb
    refine ⟨fun x k t => 0 ≤ k ∧ k ≤ 6 ∧ x = a + 12 + 2 * k ∧ rc_g s t ∧ (∀ b : Int, 0 ≤ b → b < 4 → t.1 16 b = g (3 * b) ∧ t.1 17 b = g (3 * b + 1) ∧ t.1 18 b = g (3 * b + 2)) ∧ ∀ p : Int, 0 ≤ p → p < k → t.1 19 p = g (12 + 2 * p) ∧ t.1 20 p = g (12 + 2 * p + 1), ?_, ⟨Int.le_refl 0, by decide, by omega, tg, tb, fun p a b => by omega⟩⟩
    intro x k t ⟨k0, k1, ex, tg, tb, tp⟩
    have e23 : ∀ j : Int, 0 ≤ j → j < 39 → t.1 23 (a + j) = g j := fun j j0 j1 => by rw [tg.1 23 (by omega)]; exact hg j j0 j1
    unfold fw_109_p42
    intro _
    refine ⟨fun q _ _ _ _ => ?_, fun q _ _ _ => ?_⟩
    · have hk : k = 6 := by omega
      subst hk
      have hx : x = a + 24 := by omega
      subst hx
      have c23 : ∀ i : Int, (lf_cp t.1 23 21 (a + 24) 0 12) 23 i = t.1 23 i := fun i => lf_cp_c (by decide)
      rw [c23, c23, c23, show a + 24 + 12 + 1 = a + 37 by omega, show a + 24 + 12 + 2 = a + 38 by omega, show a + 24 + 12 = a + 36 by omega, e23 36 (by decide) (by decide), e23 37 (by decide) (by decide), e23 38 (by decide) (by decide)]
      obtain ⟨u, hu⟩ : ∃ u : lf_Z, u = (lf_up (lf_up (lf_up (lf_cp t.1 23 21 (a + 24) 0 12) 15 6 (g 36)) 15 7 (g 37)) 15 8 (g 38), t.2.1, t.2.2) := ⟨_, rfl⟩
      rw [← hu]
      have uc : ∀ c : Nat, c ≠ 15 → c ≠ 21 → u.1 c = t.1 c := fun c h1 h2 => by rw [hu]; exact (zu_r h1).trans ((lf_up_row h1).trans ((lf_up_row h1).trans (lf_cp_row h2)))
      refine kk u ⟨fun c hc => (uc c (by omega) (by omega)).trans (tg.1 c hc), fun i h6 h7 h8 => ?_, ?_⟩ ⟨?_, ?_, fun q q0 q1 => ?_, ?_, ?_, ?_⟩
      · rw [hu]
        exact (zu_i h8).trans ((lf_up_i h7).trans ((lf_up_i h6).trans ((lf_cp_c (by decide)).trans (tg.2.1 i h6 h7 h8))))
      · rw [hu]; exact tg.2.2
      · rw [uc 16 (by decide) (by decide), uc 17 (by decide) (by decide), uc 18 (by decide) (by decide)]; exact tb
      · rw [uc 19 (by decide) (by decide), uc 20 (by decide) (by decide)]; exact tp
      · rw [hu]
        refine (zu_c (by decide)).trans ((lf_up_c (by decide)).trans ((lf_up_c (by decide)).trans ((lf_cp_s q0 (by omega)).trans ?_)))
        rw [show a + 24 + (q - 0) = a + (24 + q) by omega]
        exact e23 (24 + q) (by omega) (by omega)
      · rw [hu]; exact (zu_i (by decide)).trans ((lf_up_i (by decide)).trans lf_up_s)
      · rw [hu]; exact (zu_i (by decide)).trans lf_up_s
      · rw [hu]; exact zu_s
    · subst ex
      rw [show a + 12 + 2 * k + 1 = a + (12 + 2 * k + 1) by omega, show a + 12 + 2 * k = a + (12 + 2 * k) by omega, e23 (12 + 2 * k) (by omega) (by omega), e23 (12 + 2 * k + 1) (by omega) (by omega)]
      refine ⟨by omega, by omega, by omega, ⟨fun c hc => (zu_r (by omega)).trans ((lf_up_row (by omega)).trans (tg.1 c hc)), fun i h6 h7 h8 => (zu_c (by decide)).trans ((lf_up_c (by decide)).trans (tg.2.1 i h6 h7 h8)), tg.2.2⟩, fun b b0 b1 => ?_, fun p p0 p1 => ?_⟩
      · have := tb b b0 b1
        exact ⟨(zu_c (by decide)).trans ((lf_up_c (by decide)).trans this.1), (zu_c (by decide)).trans ((lf_up_c (by decide)).trans this.2.1), (zu_c (by decide)).trans ((lf_up_c (by decide)).trans this.2.2)⟩
      · by_cases y : p = k
        · rw [y]; exact ⟨(zu_c (by decide)).trans lf_up_s, zu_s⟩
        · have := tp p p0 (by omega)
          exact ⟨(zu_c (by decide)).trans ((lf_up_i y).trans this.1), (zu_i y).trans ((lf_up_c (by decide)).trans this.2)⟩
  unfold fw_109
  refine ⟨fun x k t => 0 ≤ k ∧ k ≤ 4 ∧ x = a + 3 * k ∧ rc_g s t ∧ ∀ b : Int, 0 ≤ b → b < k → t.1 16 b = g (3 * b) ∧ t.1 17 b = g (3 * b + 1) ∧ t.1 18 b = g (3 * b + 2), ?_, ⟨Int.le_refl 0, by decide, by omega, rc_gr, fun b a c => by omega⟩⟩
  intro x k t ⟨k0, k1, ex, tg, tb⟩
  have e23 : ∀ j : Int, 0 ≤ j → j < 39 → t.1 23 (a + j) = g j := fun j j0 j1 => by rw [tg.1 23 (by omega)]; exact hg j j0 j1
  unfold fw_109_p5
  intro _
  refine ⟨fun q => ?_, fun q _ _ _ => fl_69 ?_⟩
  · have hk : k = 4 := by omega
    subst hk
    have hx : x = a + 12 := by omega
    subst hx
    exact p42 t tg tb
  · subst ex
    rw [show a + 3 * k + 1 = a + (3 * k + 1) by omega, show a + 3 * k + 2 = a + (3 * k + 2) by omega, e23 (3 * k) (by omega) (by omega), e23 (3 * k + 1) (by omega) (by omega), e23 (3 * k + 2) (by omega) (by omega)]
    refine ⟨by omega, by omega, by omega, ⟨fun c hc => (zu_r (by omega)).trans ((lf_up_row (by omega)).trans ((lf_up_row (by omega)).trans (tg.1 c hc))), fun i h6 h7 h8 => (zu_c (by decide)).trans ((lf_up_c (by decide)).trans ((lf_up_c (by decide)).trans (tg.2.1 i h6 h7 h8))), tg.2.2⟩, fun b b0 b1 => ?_⟩
    by_cases y : b = k
    · rw [y]; exact ⟨(zu_c (by decide)).trans ((lf_up_c (by decide)).trans lf_up_s), (zu_c (by decide)).trans lf_up_s, zu_s⟩
    · have := tb b b0 (by omega)
      exact ⟨(zu_c (by decide)).trans ((lf_up_c (by decide)).trans ((lf_up_i y).trans this.1)), (zu_c (by decide)).trans ((lf_up_i y).trans ((lf_up_c (by decide)).trans this.2.1)), (zu_i y).trans ((lf_up_c (by decide)).trans ((lf_up_c (by decide)).trans this.2.2))⟩
/-- undo -/
theorem fl_107 {Q : Int → lf_Z → Prop} (hH : rc_H s.1 H) (hn2 : 0 ≤ s.1 1 2 ∧ s.1 1 2 ≤ 6) (hp : ∀ h ∈ H, 0 ≤ h.1 ∧ h.1 ≤ s.1 1 2) (k0 : H = [] → Q (-1) s) (kk : ∀ (h : rr_H) (T : List rr_H) (t : lf_Z), H = h :: T → (∀ c : Nat, c < 15 → t.1 c = s.1 c) → (∀ c : Nat, 22 < c → t.1 c = s.1 c) → t.2 = s.2 → rc_S t.1 (rr_un h.1 (s.1 1 2) (s.1 10) h.2.2) → rc_H t.1 T → Q T.length t) : fw_107 Q s := by
  obtain ⟨h1, h2, h3, h4, h5⟩ := hH
  unfold fw_107 fw_108
  intro _
  rw [h1]
  cases H with
  | nil => exact ⟨fun c => absurd rfl c, fun _ => ⟨fun q => (by cases q), fun _ => k0 rfl⟩⟩
  | cons h T =>
    have hl : ((h :: T).length : Int) = (T.length : Int) + 1 := by rw [List.length_cons]; omega
    rw [hl] at h1 ⊢
    refine ⟨fun _ => ?_, fun c => absurd (by omega) c⟩
    obtain ⟨⟨q1, q2⟩, q3⟩ := h5
    have p0 : rc_p (s.1 22 2) 0 = s.1 22 2 := by unfold rc_p; rw [if_pos h3]; omega
    rw [p0] at q1 q2
    refine fl_109 q2 (fun t tg tS => ?_)
    have e22 : t.1 22 = s.1 22 := tg.1 22 (by omega)
    have e24 : t.1 24 = s.1 24 := tg.1 24 (by omega)
    intro _
    rw [e22, e24, q1]
    have hh := hp h List.mem_cons_self
    have n2E : t.1 1 = s.1 1 := tg.1 1 (by omega)
    refine ⟨fun k u => h.1 ≤ k ∧ k ≤ s.1 1 2 ∧ (∀ c : Nat, c ≠ 19 → c ≠ 20 → u.1 c = t.1 c) ∧ u.2 = t.2 ∧ (∀ p : Int, h.1 ≤ p → p < k → u.1 19 p = s.1 10 p ∧ u.1 20 p = -1) ∧ ∀ p : Int, ¬ (h.1 ≤ p ∧ p < k) → u.1 19 p = t.1 19 p ∧ u.1 20 p = t.1 20 p, ?_, ⟨Int.le_refl _, hh.2, fun _ _ _ => rfl, rfl, fun p a b => by omega, fun _ _ => ⟨rfl, rfl⟩⟩⟩
    intro k u ⟨k0, k1, uc, u2, up, uo⟩
    have en : u.1 1 = s.1 1 := (uc 1 (by decide) (by decide)).trans n2E
    unfold fw_108_p34
    intro _ _
    rw [en]
    refine ⟨fun c _ => ?_, fun c _ => ?_⟩
    · have hk : k = s.1 1 2 := by omega
      rw [hk] at up uo
      have u22 : u.1 22 = s.1 22 := (uc 22 (by decide) (by decide)).trans e22
      rw [u22]
      have eP : (s.1 22 2 + 30 - 1).tmod 30 = rc_p (s.1 22 2) 1 := by
        rw [Int.tmod_eq_emod_of_nonneg (by omega)]
        unfold rc_p
        split <;> omega
      rw [eP, h1, show (T.length : Int) + 1 - 1 = T.length by omega]
      obtain ⟨v, hv⟩ : ∃ v : lf_Z, v = (lf_up (lf_up u.1 22 2 (rc_p (s.1 22 2) 1)) 22 3 (T.length : Int), u.2.1, u.2.2) := ⟨_, rfl⟩
      rw [← hv]
      have vc : ∀ c : Nat, c ≠ 22 → v.1 c = u.1 c := fun c hc => by rw [hv]; exact (zu_r hc).trans (lf_up_row hc)
      have v2 : v.1 22 2 = rc_p (s.1 22 2) 1 := by rw [hv]; exact (zu_i (by decide)).trans lf_up_s
      have v3 : v.1 22 3 = T.length := by rw [hv]; exact zu_s
      have vt : ∀ c : Nat, c ≠ 22 → c ≠ 19 → c ≠ 20 → v.1 c = t.1 c := fun c a b d => (vc c a).trans (uc c b d)
      refine ⟨fun _ => ?_, fun q => (by cases q)⟩
      rw [v3]
      refine kk h T v rfl (fun c hc => (vt c (by omega) (by omega) (by omega)).trans (tg.1 c (by omega))) (fun c hc => (vt c (by omega) (by omega) (by omega)).trans (tg.1 c (by omega))) ?_ ?_ ?_
      · rw [hv]; exact u2.trans tg.2.2
      · obtain ⟨s1, s2, s3, s4, s5, s6⟩ := tS
        refine ⟨?_, fun p p0 p1 => ?_, fun q q0 q1 => ?_, ?_, ?_, ?_⟩
        · rw [vt 16 (by decide) (by decide) (by decide), vt 17 (by decide) (by decide) (by decide), vt 18 (by decide) (by decide) (by decide)]
          intro b b0 b1
          rw [rr_unN (by omega), rr_unN (by omega), rr_unN (by omega)]
          exact s1 b b0 b1
        · rw [vc 19 (by decide), vc 20 (by decide)]
          by_cases c : h.1 ≤ p ∧ p < s.1 1 2
          · obtain ⟨g1, g2⟩ := rr_unY (g := h.2.2) (tl := s.1 10) (n2 := s.1 1 2) c.1 p0 p1 c.2
            rw [g1, g2]
            exact up p c.1 c.2
          · have eo := uo p c
            have e12 : rr_un h.1 (s.1 1 2) (s.1 10) h.2.2 (12 + 2 * p) = h.2.2 (12 + 2 * p) := if_neg (fun w => c (by omega))
            have e13 : rr_un h.1 (s.1 1 2) (s.1 10) h.2.2 (12 + 2 * p + 1) = h.2.2 (12 + 2 * p + 1) := if_neg (fun w => c (by omega))
            rw [e12, e13]
            exact ⟨eo.1.trans (s2 p p0 p1).1, eo.2.trans (s2 p p0 p1).2⟩
        · rw [vt 21 (by decide) (by decide) (by decide), rr_unN (by omega)]; exact s3 q q0 q1
        · rw [vt 15 (by decide) (by decide) (by decide), rr_unN (by decide)]; exact s4
        · rw [vt 15 (by decide) (by decide) (by decide), rr_unN (by decide)]; exact s5
        · rw [vt 15 (by decide) (by decide) (by decide), rr_unN (by decide)]; exact s6
      · have hB := rc_pB h3 h4 (k := 1) (by decide) (by decide)
        rw [List.length_cons] at h2
        refine ⟨v3, by omega, by rw [v2]; exact hB.1, by rw [v2]; exact hB.2, ?_⟩
        rw [v2, vt 23 (by decide) (by decide) (by decide), vt 24 (by decide) (by decide) (by decide), e24, tg.1 23 (by omega)]
        exact rc_hsU h3 h4 T 1 (by decide) (by omega) q3
    · rw [(uc 10 (by decide) (by decide)).trans (tg.1 10 (by omega))]
      refine ⟨by omega, by omega, fun c a b => (zu_r b).trans ((lf_up_row a).trans (uc c a b)), u2, fun p p0 p1 => ?_, fun p hp => ?_⟩
      · by_cases y : p = k
        · rw [y]; exact ⟨(zu_c (by decide)).trans lf_up_s, zu_s⟩
        · have := up p p0 (by omega)
          exact ⟨(zu_c (by decide)).trans ((lf_up_i y).trans this.1), (zu_i y).trans ((lf_up_c (by decide)).trans this.2)⟩
      · have := uo p (by omega)
        exact ⟨(zu_c (by decide)).trans ((lf_up_i (by omega)).trans this.1), (zu_i (by omega)).trans ((lf_up_c (by decide)).trans this.2)⟩
end UC
