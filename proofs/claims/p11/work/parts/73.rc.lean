/-! the class's stand and its ring of steps -/
section RC
variable {s t : lf_Z} {f : Int → Int} {H : List rr_H} {R R' P P' : Int → Int} {lt k : Int} {I I' : Nat → Int → Int}
/-- the stand as one row -/
def rc_S (I : Nat → Int → Int) (f : Int → Int) : Prop :=
  (∀ b : Int, 0 ≤ b → b < 4 → I 16 b = f (3 * b) ∧ I 17 b = f (3 * b + 1) ∧ I 18 b = f (3 * b + 2)) ∧ (∀ p : Int, 0 ≤ p → p < 6 → I 19 p = f (12 + 2 * p) ∧ I 20 p = f (12 + 2 * p + 1)) ∧ (∀ s : Int, 0 ≤ s → s < 12 → I 21 s = f (24 + s)) ∧ I 15 6 = f 36 ∧ I 15 7 = f 37 ∧ I 15 8 = f 38
def rc_p (lt k : Int) : Int := if k ≤ lt then lt - k else lt + 30 - k
/-- the ring: the latest first -/
def rc_hs (R P : Int → Int) (lt : Int) : List rr_H → Int → Prop
  | [], _ => True
  | h :: H, k => (P (rc_p lt k) = h.1 ∧ ∀ j : Int, 0 ≤ j → j < 39 → R (rc_p lt k * 39 + j) = h.2.2 j) ∧ rc_hs R P lt H (k + 1)
def rc_H (I : Nat → Int → Int) (H : List rr_H) : Prop := I 22 3 = H.length ∧ H.length ≤ 30 ∧ 0 ≤ I 22 2 ∧ I 22 2 < 30 ∧ rc_hs (I 23) (I 24) (I 22 2) H 0
theorem rc_hsD : ∀ (H : List rr_H) (k : Int), rc_hs R P lt H k → rc_hs R P lt H.dropLast k := by
  intro H
  induction H with
  | nil => intro _ _; trivial
  | cons h H ih =>
    intro k a
    cases H with
    | nil => trivial
    | cons g T => exact ⟨a.1, ih (k + 1) a.2⟩
/-- one step on in the ring -/
theorem rc_hsN (h0 : 0 ≤ lt) (h1 : lt < 30) (eP : ∀ i : Int, i ≠ rc_p lt 29 → P' i = P i) (eR : ∀ i : Int, ¬ (rc_p lt 29 * 39 ≤ i ∧ i < rc_p lt 29 * 39 + 39) → R' i = R i) : ∀ (H : List rr_H) (k : Int), 0 ≤ k → k + H.length ≤ 29 → rc_hs R P lt H k → rc_hs R' P' (rc_p lt 29) H (k + 1) := by
  intro H
  induction H with
  | nil => intro _ _ _ _; trivial
  | cons h H ih =>
    intro k k0 k1 a
    rw [List.length_cons] at k1
    have e : rc_p (rc_p lt 29) (k + 1) = rc_p lt k := by unfold rc_p; (repeat' split) <;> omega
    have ne : rc_p lt k ≠ rc_p lt 29 := by unfold rc_p; (repeat' split) <;> omega
    refine ⟨?_, ih (k + 1) (by omega) (by omega) a.2⟩
    rw [e]
    exact ⟨(eP _ ne).trans a.1.1, fun j j0 j1 => (eR _ (by omega)).trans (a.1.2 j j0 j1)⟩
theorem rc_pB (h0 : 0 ≤ lt) (h1 : lt < 30) (k0 : 0 ≤ k) (k1 : k < 30) : 0 ≤ rc_p lt k ∧ rc_p lt k < 30 := by unfold rc_p; split <;> omega
theorem rc_p29 (h0 : 0 ≤ lt) (h1 : lt < 30) : (lt + 1).tmod 30 = rc_p lt 29 := by
  rw [Int.tmod_eq_emod_of_nonneg (by omega)]
  unfold rc_p
  split <;> omega
/-- the latest goes -/
theorem rc_hsU (h0 : 0 ≤ lt) (h1 : lt < 30) : ∀ (H : List rr_H) (k : Int), 1 ≤ k → k + H.length ≤ 30 → rc_hs R P lt H k → rc_hs R P (rc_p lt 1) H (k - 1) := by
  intro H
  induction H with
  | nil => intro _ _ _ _; trivial
  | cons h H ih =>
    intro k k0 k1 a
    rw [List.length_cons] at k1
    have e : rc_p (rc_p lt 1) (k - 1) = rc_p lt k := by unfold rc_p; (repeat' split) <;> omega
    have := ih (k + 1) (by omega) (by omega) a.2
    rw [show k + 1 - 1 = k - 1 + 1 by omega] at this
    refine ⟨?_, this⟩
    rw [e]
    exact a.1
theorem lf_cp_i {F : Nat → Int → Int} {x y : Nat} {p q n j : Int} (h : ¬ (q ≤ j ∧ j < q + n)) : lf_cp F x y p q n y j = F y j := by unfold lf_cp; rw [if_neg (fun w => h w.2)]
theorem lf_cp_s {F : Nat → Int → Int} {x y : Nat} {p q n j : Int} (h0 : q ≤ j) (h1 : j < q + n) : lf_cp F x y p q n y j = F x (p + (j - q)) := by unfold lf_cp; rw [if_pos ⟨rfl, h0, h1⟩]
theorem lf_cp_row {F : Nat → Int → Int} {x y a : Nat} {p q n : Int} (h : a ≠ y) : lf_cp F x y p q n a = F a := funext fun _ => lf_cp_c h
/-- the stand is written into the ring -/
theorem fl_68 {a : Int} {Q : lf_Z → Prop} (hS : rc_S s.1 f) (kk : ∀ t : lf_Z, (∀ c : Nat, c ≠ 23 → t.1 c = s.1 c) → t.2 = s.2 → (∀ j : Int, 0 ≤ j → j < 39 → t.1 23 (a + j) = f j) → (∀ i : Int, ¬ (a ≤ i ∧ i < a + 39) → t.1 23 i = s.1 23 i) → Q t) : fw_68 a Q s := by
  obtain ⟨s1, s2, s3, s4, s5, s6⟩ := hS
  have p57 : ∀ t : lf_Z, (∀ c : Nat, c ≠ 23 → t.1 c = s.1 c) → t.2 = s.2 → (∀ j : Int, 0 ≤ j → j < 12 → t.1 23 (a + j) = f j) → (∀ i : Int, ¬ (a ≤ i ∧ i < a + 39) → t.1 23 i = s.1 23 i) → fw_68_p57L Q (a + 12) 0 t := by
    intro t tc t2 tj ti
    refine ⟨fun x k t => 0 ≤ k ∧ k ≤ 6 ∧ x = a + 12 + 2 * k ∧ (∀ c : Nat, c ≠ 23 → t.1 c = s.1 c) ∧ t.2 = s.2 ∧ (∀ j : Int, 0 ≤ j → j < 12 + 2 * k → t.1 23 (a + j) = f j) ∧ ∀ i : Int, ¬ (a ≤ i ∧ i < a + 39) → t.1 23 i = s.1 23 i, ?_, ⟨Int.le_refl 0, by decide, by omega, tc, t2, fun j j0 j1 => tj j j0 (by omega), ti⟩⟩
    intro x k t ⟨k0, k1, ex, tc, t2, tj, ti⟩
    unfold fw_68_p57
    intro _
    refine ⟨fun q _ _ _ _ => ?_, fun q _ _ _ => ?_⟩
    · have hk : k = 6 := by omega
      subst hk
      have hx : x = a + 24 := by omega
      subst hx
      have e15 : ∀ j : Int, (lf_cp t.1 21 23 0 (a + 24) 12) 15 j = s.1 15 j := fun j => (lf_cp_c (by decide)).trans (congrFun (tc 15 (by decide)) j)
      rw [e15 6, e15 7, e15 8]
      have e : ∀ j : Int, j ≠ a + 24 + 12 → j ≠ a + 24 + 12 + 1 → j ≠ a + 24 + 12 + 2 → ((lf_up (lf_up (lf_up (lf_cp t.1 21 23 0 (a + 24) 12) 23 (a + 24 + 12) (s.1 15 6)) 23 (a + 24 + 12 + 1) (s.1 15 7)) 23 (a + 24 + 12 + 2) (s.1 15 8), t.2.1, t.2.2) : lf_Z).1 23 j = (lf_cp t.1 21 23 0 (a + 24) 12) 23 j := fun j h1 h2 h3 => (zu_i h3).trans ((lf_up_i h2).trans (lf_up_i h1))
      refine kk _ (fun c hc => (zu_r hc).trans ((lf_up_row hc).trans ((lf_up_row hc).trans ((lf_cp_row hc).trans (tc c hc))))) t2 (fun j j0 j1 => ?_) (fun i hi => (e i (by omega) (by omega) (by omega)).trans ((lf_cp_i (by omega)).trans (ti i hi)))
      by_cases c1 : j < 24
      · exact (e _ (by omega) (by omega) (by omega)).trans ((lf_cp_i (by omega)).trans (tj j j0 (by omega)))
      · by_cases c2 : j < 36
        · refine (e _ (by omega) (by omega) (by omega)).trans ((lf_cp_s (by omega) (by omega)).trans ?_)
          rw [tc 21 (by decide), show (0 : Int) + (a + j - (a + 24)) = j - 24 by omega, s3 (j - 24) (by omega) (by omega), show 24 + (j - 24) = j by omega]
        · rcases (show j = 36 ∨ j = 37 ∨ j = 38 by omega) with y | y | y
          · subst y
            rw [show a + 36 = a + 24 + 12 by omega]
            exact (zu_i (by omega)).trans ((lf_up_i (by omega)).trans (lf_up_s.trans s4))
          · subst y
            rw [show a + 37 = a + 24 + 12 + 1 by omega]
            exact (zu_i (by omega)).trans (lf_up_s.trans s5)
          · subst y
            rw [show a + 38 = a + 24 + 12 + 2 by omega]
            exact zu_s.trans s6
    · rw [tc 19 (by decide), tc 20 (by decide)]
      refine ⟨by omega, by omega, by omega, fun c hc => (zu_r hc).trans ((lf_up_row hc).trans (tc c hc)), t2, fun j j0 j1 => ?_, fun i hi => (zu_i (by omega)).trans ((lf_up_i (by omega)).trans (ti i hi))⟩
      have a2 := s2 k k0 (by omega)
      by_cases y : j = 12 + 2 * k + 1
      · rw [show a + j = x + 1 by omega, y]
        exact zu_s.trans a2.2
      · by_cases y2 : j = 12 + 2 * k
        · rw [show a + j = x by omega, y2]
          exact (zu_i (by omega)).trans (lf_up_s.trans a2.1)
        · exact (zu_i (by omega)).trans ((lf_up_i (by omega)).trans (tj j j0 (by omega)))
  unfold fw_68
  refine ⟨fun x k t => 0 ≤ k ∧ k ≤ 4 ∧ x = a + 3 * k ∧ (∀ c : Nat, c ≠ 23 → t.1 c = s.1 c) ∧ t.2 = s.2 ∧ (∀ j : Int, 0 ≤ j → j < 3 * k → t.1 23 (a + j) = f j) ∧ ∀ i : Int, ¬ (a ≤ i ∧ i < a + 39) → t.1 23 i = s.1 23 i, ?_, ⟨Int.le_refl 0, by decide, by omega, fun _ _ => rfl, rfl, fun j j0 j1 => by omega, fun _ _ => rfl⟩⟩
  intro x k t ⟨k0, k1, ex, tc, t2, tj, ti⟩
  unfold fw_68_p5
  intro _
  refine ⟨fun q => ?_, fun q _ _ _ _ => ?_⟩
  · have hk : k = 4 := by omega
    subst hk
    have hx : x = a + 12 := by omega
    subst hx
    exact p57 t tc t2 (fun j j0 j1 => tj j j0 (by omega)) ti
  · rw [tc 16 (by decide), tc 17 (by decide), tc 18 (by decide)]
    refine ⟨by omega, by omega, by omega, fun c hc => (zu_r hc).trans ((lf_up_row hc).trans ((lf_up_row hc).trans (tc c hc))), t2, fun j j0 j1 => ?_, fun i hi => (zu_i (by omega)).trans ((lf_up_i (by omega)).trans ((lf_up_i (by omega)).trans (ti i hi)))⟩
    have a2 := s1 k k0 (by omega)
    by_cases y : j = 3 * k + 2
    · rw [show a + j = x + 2 by omega, y]
      exact zu_s.trans a2.2.2
    · by_cases y2 : j = 3 * k + 1
      · rw [show a + j = x + 1 by omega, y2]
        exact (zu_i (by omega)).trans (lf_up_s.trans a2.2.1)
      · by_cases y3 : j = 3 * k
        · rw [show a + j = x by omega, y3]
          exact (zu_i (by omega)).trans ((lf_up_i (by omega)).trans (lf_up_s.trans a2.1))
        · exact (zu_i (by omega)).trans ((lf_up_i (by omega)).trans ((lf_up_i (by omega)).trans (tj j j0 (by omega))))
/-- keep: a step more; nothing but the ring is touched -/
def rc_f (s t : lf_Z) : Prop := (∀ c : Nat, c ≠ 22 → c ≠ 23 → c ≠ 24 → t.1 c = s.1 c) ∧ (∀ i : Int, i ≠ 2 → i ≠ 3 → t.1 22 i = s.1 22 i) ∧ t.2 = s.2
theorem fl_67 {p w : Int} {Q : lf_Z → Prop} (hS : rc_S s.1 f) (hH : rc_H s.1 H) (kk : ∀ t : lf_Z, rc_f s t → rc_H t.1 (rr_K (p, w, f) H) → Q t) : fw_67 p Q s := by
  obtain ⟨h1, h2, h3, h4, h5⟩ := hH
  unfold fw_67
  intro _ _
  rw [rc_p29 h3 h4]
  have hB := rc_pB h3 h4 (k := 29) (by decide) (by decide)
  generalize hlt : s.1 22 2 = lt at *
  obtain ⟨u, hu⟩ : ∃ u : lf_Z, u = (lf_up (lf_up s.1 22 2 (rc_p lt 29)) 22 3 (min 30 (s.1 22 3 + 1)), s.2.1, s.2.2) := ⟨_, rfl⟩
  rw [← hu]
  have uc : ∀ c : Nat, c ≠ 22 → u.1 c = s.1 c := fun c hc => by rw [hu]; exact (zu_r hc).trans (lf_up_row hc)
  have u2 : u.1 22 2 = rc_p lt 29 := by rw [hu]; exact (zu_i (by decide)).trans lf_up_s
  have u3 : u.1 22 3 = min 30 (s.1 22 3 + 1) := by rw [hu]; exact zu_s
  have ui : ∀ i : Int, i ≠ 2 → i ≠ 3 → u.1 22 i = s.1 22 i := fun i a b => by rw [hu]; exact (zu_i b).trans (lf_up_i a)
  have uS : rc_S u.1 f := by
    unfold rc_S at hS ⊢
    rw [uc 16 (by decide), uc 17 (by decide), uc 18 (by decide), uc 19 (by decide), uc 20 (by decide), uc 21 (by decide), uc 15 (by decide)]
    exact hS
  refine fl_68 uS (fun t tc t2 tj ti => ?_)
  intro _
  have e2 : t.1 22 2 = rc_p lt 29 := by rw [tc 22 (by decide)]; exact u2
  rw [e2]
  obtain ⟨v, hv⟩ : ∃ v : lf_Z, v = (lf_up t.1 24 (rc_p lt 29) p, t.2.1, t.2.2) := ⟨_, rfl⟩
  rw [← hv]
  have vc : ∀ c : Nat, c ≠ 24 → v.1 c = t.1 c := fun c hc => by rw [hv]; exact zu_r hc
  have v24 : ∀ i : Int, i ≠ rc_p lt 29 → v.1 24 i = s.1 24 i := fun i hi => by
    rw [hv]
    refine (zu_i hi).trans ?_
    rw [tc 24 (by decide), uc 24 (by decide)]
  have v24s : v.1 24 (rc_p lt 29) = p := by rw [hv]; exact zu_s
  have v23 : ∀ i : Int, ¬ (rc_p lt 29 * 39 ≤ i ∧ i < rc_p lt 29 * 39 + 39) → v.1 23 i = s.1 23 i := fun i hi => by
    rw [vc 23 (by decide), ti i hi, uc 23 (by decide)]
  have v23s : ∀ j : Int, 0 ≤ j → j < 39 → v.1 23 (rc_p lt 29 * 39 + j) = f j := fun j j0 j1 => by
    rw [vc 23 (by decide)]; exact tj j j0 j1
  have v2 : v.1 22 2 = rc_p lt 29 := by rw [vc 22 (by decide)]; exact e2
  have v3 : v.1 22 3 = min 30 (s.1 22 3 + 1) := by rw [vc 22 (by decide), tc 22 (by decide)]; exact u3
  have p0 : rc_p (rc_p lt 29) 0 = rc_p lt 29 := by
    have : rc_p (rc_p lt 29) 0 = if 0 ≤ rc_p lt 29 then rc_p lt 29 - 0 else rc_p lt 29 + 30 - 0 := rfl
    rw [this, if_pos hB.1]; omega
  refine kk v ⟨fun c a b d => by rw [vc c d, tc c b, uc c a], fun i a b => by rw [vc 22 (by decide), tc 22 (by decide)]; exact ui i a b, ?_⟩ ⟨?_, ?_, by rw [v2]; exact hB.1, by rw [v2]; exact hB.2, ?_⟩
  · rw [hv]
    show t.2 = s.2
    rw [t2, hu]
  · rw [v3, h1]
    unfold rr_K
    rw [List.length_cons]
    by_cases c : H.length = 30
    · rw [if_pos c, List.length_dropLast, c]; decide
    · rw [if_neg c]; omega
  · unfold rr_K
    rw [List.length_cons]
    by_cases c : H.length = 30
    · rw [if_pos c, List.length_dropLast, c]; decide
    · rw [if_neg c]; omega
  · rw [v2]
    unfold rr_K
    refine ⟨?_, ?_⟩
    · rw [p0]
      exact ⟨v24s, v23s⟩
    · by_cases c : H.length = 30
      · rw [if_pos c]
        refine rc_hsN h3 h4 v24 v23 _ 0 (Int.le_refl 0) ?_ (rc_hsD H 0 h5)
        rw [List.length_dropLast, c]; decide
      · rw [if_neg c]
        exact rc_hsN h3 h4 v24 v23 _ 0 (Int.le_refl 0) (by omega) h5
end RC
