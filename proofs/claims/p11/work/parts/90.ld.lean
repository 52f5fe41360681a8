/-! the land grows: stretch and person, both sides; the class's way -/
section LD
variable {J K : Nat → Int → Int} {s t u : lf_Z} {f g T A B : Int → Int} {a b c p x j n1 n2 m : Int} {H : List rr_H} {E E' : Int → Int → Prop} {d d' : Int → Int → Int}
theorem dm_C (h : dm_M m E d) (e : ∀ i j, 0 ≤ i → i < m → 0 ≤ j → j < m → d' i j = d i j) (hE : ∀ i j, E' i j ↔ E i j) : dm_M m E' d' := by
  obtain ⟨h1, h2, h3, h4, h5, h6⟩ := h
  refine ⟨fun i i0 i1 => ?_, fun i j i0 i1 j0 j1 => ?_, fun i j i0 i1 j0 j1 => ?_, fun i j k i0 i1 j0 j1 k0 k1 => ?_, fun i j he => ?_, fun i j i0 i1 j0 j1 ne => ?_⟩
  · rw [e i i i0 i1 i0 i1]; exact h1 i i0 i1
  · rw [e i j i0 i1 j0 j1]; exact h2 i j i0 i1 j0 j1
  · rw [e i j i0 i1 j0 j1, e j i j0 j1 i0 i1]; exact h3 i j i0 i1 j0 j1
  · rw [e i j i0 i1 j0 j1, e j k j0 j1 k0 k1, e i k i0 i1 k0 k1]; exact h4 i j k i0 i1 j0 j1 k0 k1
  · obtain ⟨q1, q2, q3, q4, q5⟩ := h5 i j ((hE i j).mp he)
    exact ⟨q1, q2, q3, q4, by rw [e i j q1 q2 q3 q4]; exact q5⟩
  · rw [e i j i0 i1 j0 j1]
    rcases h6 i j i0 i1 j0 j1 ne with q | ⟨v, hv, hd⟩
    · exact Or.inl q
    · obtain ⟨_, _, q3, q4, _⟩ := h5 i v hv
      exact Or.inr ⟨v, (hE i v).mpr hv, by rw [e v j q3 q4 j0 j1]; exact hd⟩
theorem mn_atR (e4 : K 4 = J 4) (e5 : K 5 = J 5) : mn_at K = mn_at J := by
  funext q w
  unfold mn_at
  rw [e4, e5]
theorem mn_ER {ok : Int → Bool} (e4 : K 4 = J 4) (e5 : K 5 = J 5) : mn_E K ok m = mn_E J ok m := by
  funext i j
  unfold mn_E
  rw [e4, e5]
theorem mn_dR (e : K 13 = J 13) : mn_d K 13 = mn_d J 13 := by
  funext i j
  unfold mn_d
  rw [e]
/-- ways and distances are the same -/
theorem mn_Wr (h : mn_W J) (e4 : K 4 = J 4) (e5 : K 5 = J 5) (e11 : K 11 = J 11) (e12 : K 12 = J 12) (e13 : K 13 = J 13) (e0 : K 1 0 = J 1 0) (e1 : K 1 1 = J 1 1) (e2 : 0 ≤ K 1 2 ∧ K 1 2 ≤ 6) : mn_W K := by
  unfold mn_W at h ⊢
  rw [mn_atR e4 e5, mn_ER e4 e5, mn_dR e13, e4, e5, e11, e12, e0, e1]
  exact ⟨h.1, h.2.1, e2, h.2.2.2⟩
/-- one stretch more -/
theorem mn_Ws (h : mn_W J) (h12 : J 1 0 < 12) (e4 : K 4 = J 4) (e5 : K 5 = J 5) (e11 : K 11 = J 11) (e12 : K 12 = J 12) (e13 : K 13 = J 13) (e0 : K 1 0 = J 1 0 + 1) (e1 : K 1 1 = J 1 1) (e2 : K 1 2 = J 1 2) : mn_W K := by
  obtain ⟨h0, h1, h2, h3, h4, h5, h6⟩ := h
  unfold mn_W
  rw [mn_atR e4 e5, mn_ER e4 e5, mn_dR e13, e4, e5, e11, e12, e0, e1, e2]
  refine ⟨⟨by omega, by omega⟩, h1, h2, fun w w0 w1 => ?_, h4, dm_ext h5 h0.1 ?_ (fun i i0 i1 => ⟨?_, ?_⟩), fun i j i0 i1 j0 j1 q => h6 i j i0 i1 j0 j1 (by omega)⟩
  · have := h3 w w0 w1
    exact ⟨⟨this.1.1, by omega⟩, ⟨this.2.1.1, by omega⟩, this.2.2⟩
  · rw [h6 _ _ h0.1 h12 h0.1 h12 (Or.inl (Int.le_refl _)), if_pos rfl]
  · rw [h6 i _ i0 (by omega) h0.1 h12 (Or.inr (Int.le_refl _)), if_neg (by omega)]
  · rw [h6 _ i h0.1 h12 i0 (by omega) (Or.inl (Int.le_refl _)), if_neg (by omega)]
/-- facts that stay when the land grows -/
theorem gp_Ig (h : gp_I J f) (e0 : J 1 0 ≤ K 1 0) (e2 : K 1 2 = J 1 2) : gp_I K f := by
  obtain ⟨h1, h2, h3⟩ := h
  refine ⟨fun q q0 q1 => ?_, fun b b0 b1 z => ?_, h3⟩
  · have := h1 q q0 (by omega)
    omega
  · have := h2 b b0 b1 z
    omega
theorem rr_Wg {m1 m2 : Int} (h : rr_W n1 n2 f) (e0 : n1 ≤ m1) (e1 : n2 ≤ m2) : rr_W m1 m2 f := ⟨fun s s0 s1 => h.1 s (by omega) s1, fun w w0 w1 => h.2 w (by omega) w1⟩
theorem mi_hg {h : rr_H} (hh : mi_h J h) (e0 : J 1 0 ≤ K 1 0) (e1 : J 1 1 ≤ K 1 1) (e2 : J 1 2 ≤ K 1 2) : mi_h K h := by
  obtain ⟨h1, h2, h3, h4, h5⟩ := hh
  refine ⟨⟨h1.1, by omega⟩, ⟨h2.1, by omega⟩, rr_Wg h3 e0 (Int.le_refl _), ?_, h5⟩
  refine gp_Ig h4 ?_ ?_
  · rw [show (lf_up J 1 2 h.1) 1 0 = J 1 0 from lf_up_i (by decide), show (lf_up K 1 2 h.1) 1 0 = K 1 0 from lf_up_i (by decide)]; exact e0
  · rw [show (lf_up J 1 2 h.1) 1 2 = h.1 from lf_up_s, show (lf_up K 1 2 h.1) 1 2 = h.1 from lf_up_s]
theorem mi_Hg (hH : mi_H J H) (e0 : J 1 0 ≤ K 1 0) (e1 : J 1 1 ≤ K 1 1) (e2 : J 1 2 ≤ K 1 2) : mi_H K H := ⟨hH.1, fun h hh => mi_hg (hH.2 h hh) e0 e1 e2⟩
/-! stretch -/
def st_ok (n a b : Int) : Prop := (0 ≤ a ∧ a ≤ 3) ∧ (0 ≤ b ∧ b ≤ 99) ∧ n < 12
theorem fl_14 {Q : Int → lf_Z → Prop} (k0 : ¬ st_ok (s.1 1 0) a b → Q (-1) s) (k : st_ok (s.1 1 0) a b → Q (s.1 1 0) (lf_up (lf_up (lf_up s.1 2 (s.1 1 0) a) 3 (s.1 1 0) b) 1 0 (s.1 1 0 + 1), s.2.1, s.2.2)) : fw_14 a b Q s := by
  unfold fw_14
  refine fl_15 ⟨fun z => k0 (fun q => ?_), fun z => fl_15 ⟨fun z2 => ?_, fun z2 => k0 (fun q => ?_)⟩⟩
  · rw [decide_eq_true q.1.1, decide_eq_true q.1.2] at z; cases z
  · rw [Bool.and_eq_true, decide_eq_true_eq, decide_eq_true_eq] at z z2
    unfold fw_16
    intro _
    refine ⟨fun c _ => ?_, fun c => k0 (fun q => c q.2.2)⟩
    have := k ⟨z, z2, c⟩
    rw [show s.1 1 0 + 1 - 1 = s.1 1 0 by omega]
    exact this
  · rw [decide_eq_true q.2.1.1, decide_eq_true q.2.1.2] at z2; cases z2
theorem fl_182 {Q : Int → lf_Z → Prop} (h0 : 0 ≤ s.1 96 0 ∧ s.1 96 0 ≤ 12) (k0 : ¬ st_ok (s.1 96 0) a b → Q (-1) s)
    (k : st_ok (s.1 96 0) a b → ∀ t : lf_Z, rr_f s t → t.1 96 0 = s.1 96 0 + 1 → t.1 96 (14 + 3 * s.1 96 0) = a → t.1 96 (14 + 3 * s.1 96 0 + 1) = b → t.1 96 (14 + 3 * s.1 96 0 + 2) = 0 → (∀ i : Int, i ≠ 0 → ¬ (14 + 3 * s.1 96 0 ≤ i ∧ i ≤ 14 + 3 * s.1 96 0 + 2) → t.1 96 i = s.1 96 i) → Q (s.1 96 0) t) : fw_182 a b Q s := by
  unfold fw_182
  refine fl_183 ⟨fun z => k0 (fun q => ?_), fun z => fl_183 ⟨fun z2 => k0 (fun q => ?_), fun z2 _ => ⟨fun c _ _ _ => ?_, fun c => k0 (fun q => ?_)⟩⟩⟩
  · rw [decide_eq_true q.1.1, decide_eq_true q.1.2] at z; cases z
  · rw [decide_eq_true q.2.1.1, decide_eq_true q.2.1.2] at z2; cases z2
  · rw [Bool.and_eq_true, decide_eq_true_eq, decide_eq_true_eq] at z z2
    generalize hn : s.1 96 0 = n at *
    obtain ⟨G, hG⟩ : ∃ G : Nat → Int → Int, G = lf_up (lf_up (lf_up s.1 96 (14 + 3 * n) a) 96 (14 + 3 * n + 1) b) 96 (14 + 3 * n + 2) 0 := ⟨_, rfl⟩
    rw [← hG]
    have g0 : G 96 0 = n := by rw [hG]; exact (lf_up_i (by omega)).trans ((lf_up_i (by omega)).trans ((lf_up_i (by omega)).trans hn))
    have ga : G 96 (14 + 3 * n) = a := by rw [hG]; exact (lf_up_i (by omega)).trans ((lf_up_i (by omega)).trans lf_up_s)
    have gb : G 96 (14 + 3 * n + 1) = b := by rw [hG]; exact (lf_up_i (by omega)).trans lf_up_s
    have gc : G 96 (14 + 3 * n + 2) = 0 := by rw [hG]; exact lf_up_s
    have go : ∀ i : Int, ¬ (14 + 3 * n ≤ i ∧ i ≤ 14 + 3 * n + 2) → G 96 i = s.1 96 i := fun i hi => by rw [hG]; exact (lf_up_i (by omega)).trans ((lf_up_i (by omega)).trans (lf_up_i (by omega)))
    have gr : ∀ c : Nat, c ≠ 96 → G c = s.1 c := fun c hc => by rw [hG]; exact (lf_up_row hc).trans ((lf_up_row hc).trans (lf_up_row hc))
    rw [g0, show n + 1 - 1 = n by omega]
    exact k ⟨z, z2, by omega⟩ _ ⟨fun c hc => (zu_r hc).trans (gr c hc), rfl⟩ zu_s ((zu_i (by omega)).trans ga) ((zu_i (by omega)).trans gb) ((zu_i (by omega)).trans gc) (fun i i0 i1 => (zu_i i0).trans (go i i1))
  · have := q.2.2
    have := Classical.not_not.mp c
    omega
/-- the reference's land with a stretch more -/
theorem st_L (hL : rr_L J A) (hW : mn_W J) (h12 : J 1 0 < 12) (e0 : K 1 0 = J 1 0 + 1) (e1 : K 1 1 = J 1 1) (e2 : K 1 2 = J 1 2) (eo : ∀ q : Int, 0 ≤ q → q < J 1 0 → K 2 q = J 2 q ∧ K 3 q = J 3 q) (ea : K 2 (J 1 0) = a) (eb : K 3 (J 1 0) = b) (er : ∀ c : Nat, 4 ≤ c → c ≤ 10 → K c = J c)
    (b0 : B 0 = J 1 0 + 1) (ba : B (14 + 3 * J 1 0) = a) (bb : B (14 + 3 * J 1 0 + 1) = b) (bo : ∀ i : Int, i ≠ 0 → ¬ (14 + 3 * J 1 0 ≤ i ∧ i ≤ 14 + 3 * J 1 0 + 2) → B i = A i) : rr_L K B := by
  obtain ⟨w0, w1, w2, _⟩ := hW
  obtain ⟨l0, l1, l2, l3, l4, l5⟩ := hL
  refine ⟨b0.trans e0.symm, (bo 1 (by omega) (by omega)).trans (l1.trans e1.symm), (bo 2 (by omega) (by omega)).trans (l2.trans e2.symm), fun q q0 q1 => ?_, fun w x0 x1 => ?_, fun q q0 q1 => ?_⟩
  · by_cases y : q = J 1 0
    · rw [y]; exact ⟨ba.trans ea.symm, bb.trans eb.symm⟩
    · have o := eo q q0 (by omega)
      rw [o.1, o.2, bo (14 + 3 * q) (by omega) (by omega), bo (14 + 3 * q + 1) (by omega) (by omega)]
      exact l3 q q0 (by omega)
  · rw [er 4 (by decide) (by decide), er 5 (by decide) (by decide), er 6 (by decide) (by decide), bo (50 + 4 * w) (by omega) (by omega), bo (50 + 4 * w + 1) (by omega) (by omega), bo (50 + 4 * w + 2) (by omega) (by omega)]
    exact l4 w x0 (by omega)
  · rw [er 7 (by decide) (by decide), er 8 (by decide) (by decide), er 9 (by decide) (by decide), er 10 (by decide) (by decide), bo (126 + 6 * q + 0) (by omega) (by omega), bo (126 + 6 * q + 1) (by omega) (by omega), bo (126 + 6 * q + 2) (by omega) (by omega), bo (126 + 6 * q + 5) (by omega) (by omega)]
    exact l5 q q0 (by omega)
theorem st_S (hS : rr_S n1 n2 f A) (hW : mn_W J) (h12 : J 1 0 < 12) (h16 : n1 ≤ 16) (h6 : n2 ≤ 6) (hw : rr_W (J 1 0) n1 f) (bc : B (14 + 3 * J 1 0 + 2) = 0) (bo : ∀ i : Int, i ≠ 0 → ¬ (14 + 3 * J 1 0 ≤ i ∧ i ≤ 14 + 3 * J 1 0 + 2) → B i = A i) : rr_S n1 n2 f B := by
  have w0 := hW.1
  obtain ⟨s1, s2, s3, s4, s5, s6⟩ := hS
  refine ⟨?_, ?_, fun q q0 q1 => ?_, fun q q0 q1 => ?_, fun q q0 q1 => ?_, fun w w0 w1 => ?_⟩
  · rw [bo 3 (by omega) (by omega)]; exact s1
  · rw [bo 6 (by omega) (by omega)]; exact s2
  · rw [bo (114 + 3 * q) (by omega) (by omega), bo (114 + 3 * q + 1) (by omega) (by omega), bo (114 + 3 * q + 2) (by omega) (by omega)]; exact s3 q q0 q1
  · rw [bo (126 + 6 * q + 3) (by omega) (by omega), bo (126 + 6 * q + 4) (by omega) (by omega)]; exact s4 q q0 q1
  · by_cases y : q = J 1 0
    · rw [y, bc]; exact (hw.1 (J 1 0) (Int.le_refl _) h12).symm
    · rw [bo (14 + 3 * q + 2) (by omega) (by omega)]; exact s5 q q0 q1
  · rw [bo (50 + 4 * w + 3) (by omega) (by omega)]; exact s6 w w0 w1
/-! the class's distances with a way more -/
theorem fl_22 {Q : lf_Z → Prop} (hd : dm_M m E d) (hm : s.1 1 0 = m) (m0 : 0 ≤ m) (m12 : m ≤ 12) (hc : ∀ i j : Int, 0 ≤ i → i < m → 0 ≤ j → j < m → s.1 13 (i * 12 + j) = d i j) (a0 : 0 ≤ a) (a1 : a < m) (b0 : 0 ≤ b) (b1 : b < m)
    (k : ∀ t : lf_Z, (∀ c : Nat, c ≠ 13 → t.1 c = s.1 c) → t.2 = s.2 → (∀ i j : Int, 0 ≤ i → i < m → 0 ≤ j → j < m → t.1 13 (i * 12 + j) = dm_nw d a b i j) → (∀ i j : Int, 0 ≤ i → i < 12 → 0 ≤ j → j < 12 → (m ≤ i ∨ m ≤ j) → t.1 13 (i * 12 + j) = s.1 13 (i * 12 + j)) → Q t) : fw_22 a b Q s := by
  unfold fw_22
  refine ⟨fun i t => 0 ≤ i ∧ i ≤ m ∧ (∀ c : Nat, c ≠ 13 → t.1 c = s.1 c) ∧ t.2 = s.2 ∧ (∀ p q : Int, 0 ≤ p → p < m → 0 ≤ q → q < m → t.1 13 (p * 12 + q) = if p < i then dm_nw d a b p q else d p q) ∧ (∀ p q : Int, 0 ≤ p → p < 12 → 0 ≤ q → q < 12 → (m ≤ p ∨ m ≤ q) → t.1 13 (p * 12 + q) = s.1 13 (p * 12 + q)), ?_, ⟨Int.le_refl 0, m0, fun _ _ => rfl, rfl, fun p q p0 p1 q0 q1 => by rw [if_neg (by omega)]; exact hc p q p0 p1 q0 q1, fun _ _ _ _ _ _ _ => rfl⟩⟩
  intro i t ⟨i0, i1, tc, t2, tv, to⟩
  unfold fw_22_p3
  rw [tc 1 (by decide), hm]
  intro _ _
  refine ⟨fun c => k t tc t2 (fun p q p0 p1 q0 q1 => by rw [tv p q p0 p1 q0 q1, if_pos (by omega)]) to, fun c => ?_⟩
  refine ⟨fun j u => 0 ≤ j ∧ j ≤ m ∧ (∀ c : Nat, c ≠ 13 → u.1 c = s.1 c) ∧ u.2 = s.2 ∧ (∀ p q : Int, 0 ≤ p → p < m → 0 ≤ q → q < m → u.1 13 (p * 12 + q) = if p < i ∨ (p = i ∧ q < j) then dm_nw d a b p q else d p q) ∧ (∀ p q : Int, 0 ≤ p → p < 12 → 0 ≤ q → q < 12 → (m ≤ p ∨ m ≤ q) → u.1 13 (p * 12 + q) = s.1 13 (p * 12 + q)), ?_, ⟨Int.le_refl 0, m0, tc, t2, fun p q p0 p1 q0 q1 => ?_, to⟩⟩
  · intro j u ⟨j0, j1, uc, u2, uv, uo⟩
    unfold fw_22_p22
    rw [uc 1 (by decide), hm]
    intro _ _
    refine ⟨fun e => ⟨by omega, by omega, uc, u2, fun p q p0 p1 q0 q1 => ?_, uo⟩, fun e _ _ _ _ _ _ _ _ _ => ?_⟩
    · rw [uv p q p0 p1 q0 q1]
      by_cases y : p < i + 1
      · rw [if_pos (by omega), if_pos y]
      · rw [if_neg (by omega), if_neg y]
    · have on : ∀ p q : Int, 0 ≤ p → p < m → 0 ≤ q → q < m → dm_on d a b p q (u.1 13 (p * 12 + q)) := fun p q p0 p1 q0 q1 => by
        rw [uv p q p0 p1 q0 q1]
        unfold dm_on
        split
        · exact Or.inr rfl
        · exact Or.inl rfl
      have old : u.1 13 (i * 12 + j) = d i j := by
        rw [uv i j i0 (by omega) j0 (by omega), if_neg (by omega)]
      have new := dm_st hd a0 a1 b0 b1 i0 (by omega) j0 (by omega) (on i a i0 (by omega) a0 a1) (on i b i0 (by omega) b0 b1) (on a j a0 a1 j0 (by omega)) (on b j b0 b1 j0 (by omega))
      rw [old, new]
      have ne : ∀ p q : Int, 0 ≤ p → p < 12 → 0 ≤ q → q < 12 → ¬ (p = i ∧ q = j) → p * 12 + q ≠ i * 12 + j := fun p q p0 p1 q0 q1 h e => h (by omega)
      refine ⟨by omega, by omega, fun c hc => (zu_r hc).trans (uc c hc), u2, fun p q p0 p1 q0 q1 => ?_, fun p q p0 p1 q0 q1 h => (zu_i (ne p q p0 p1 q0 q1 (by omega))).trans (uo p q p0 p1 q0 q1 h)⟩
      by_cases y : p = i ∧ q = j
      · rw [y.1, y.2, if_pos (by omega)]; exact zu_s
      · refine (zu_i (ne p q p0 (by omega) q0 (by omega) y)).trans ?_
        rw [uv p q p0 p1 q0 q1]
        by_cases z : p < i ∨ (p = i ∧ q < j)
        · rw [if_pos z, if_pos (by omega)]
        · rw [if_neg z, if_neg (by omega)]
  · rw [tv p q p0 p1 q0 q1]
    by_cases y : p < i
    · rw [if_pos y, if_pos (by omega)]
    · rw [if_neg y, if_neg (by omega)]
end LD
