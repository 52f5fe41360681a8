/-! what the class's cells and the reference's row say alike; steps of the reference -/
section RR
abbrev rr_H : Type := Int × Int × (Int → Int)
variable {s t : lf_Z} {A B : Int → Int} {x c n1 n2 : Int} {H : List rr_H}
def rr_op (sh w : Int) : Int := if bt_t sh w = true then 0 else 1
/-- how all stands, as the class keeps it in one row -/
def rr_sn (sz pl cm ap sp dn : Int → Int) (sh mi dr : Int) (j : Int) : Int :=
  if j < 12 then (if j % 3 = 0 then sz (j / 3) else if j % 3 = 1 then pl (j / 3) else cm (j / 3))
  else if j < 24 then (if j % 2 = 0 then ap ((j - 12) / 2) else sp ((j - 12) / 2))
  else if j < 36 then dn (j - 24) else if j = 36 then sh else if j = 37 then mi else dr
/-- f: such a row; the reference's cells -/
def rr_S (n1 n2 : Int) (f : Int → Int) (A : Int → Int) : Prop :=
  A 3 = f 37 ∧ A 6 = f 38 ∧ (∀ b : Int, 0 ≤ b → b < 4 → A (114 + 3 * b) = f (3 * b) ∧ (f (3 * b) ≠ 0 → A (114 + 3 * b + 1) = f (3 * b + 1) ∧ A (114 + 3 * b + 2) = f (3 * b + 2)))
  ∧ (∀ p : Int, 0 ≤ p → p < n2 → A (126 + 6 * p + 3) = f (12 + 2 * p) ∧ A (126 + 6 * p + 4) = f (12 + 2 * p + 1)) ∧ (∀ s : Int, 0 ≤ s → s < 12 → A (14 + 3 * s + 2) = f (24 + s))
  ∧ (∀ w : Int, 0 ≤ w → w < n1 → A (50 + 4 * w + 3) = rr_op (f 36) w)
def rr_h (A : Int → Int) (x : Int) (h : rr_H) : Prop :=
  A x = h.1 ∧ A (x + 1) = h.2.1 ∧ (∀ w : Int, 0 ≤ w → w < h.2.1 → bt_t (A (x + 2)) w = !(bt_t (h.2.2 36) w)) ∧ A (x + 3) = h.2.2 37 ∧ A (x + 4) = h.2.2 38
  ∧ (∀ b : Int, 0 ≤ b → b < 4 → A (x + 5 + 3 * b) = h.2.2 (3 * b) ∧ (h.2.2 (3 * b) ≠ 0 → A (x + 5 + (3 * b + 1)) = h.2.2 (3 * b + 1) ∧ A (x + 5 + (3 * b + 2)) = h.2.2 (3 * b + 2)))
  ∧ (∀ p : Int, 0 ≤ p → p < h.1 → p < 6 → A (x + 17 + 2 * p) = h.2.2 (12 + 2 * p) ∧ A (x + 18 + 2 * p) = h.2.2 (12 + 2 * p + 1)) ∧ (∀ s : Int, 0 ≤ s → s < 12 → A (x + 29 + s) = h.2.2 (24 + s))
def rr_hs (A : Int → Int) : List rr_H → Prop
  | [] => True
  | h :: H => rr_h A (278 + 42 * H.length) h ∧ rr_hs A H
theorem rr_hM {y : Int} {h : rr_H} (e : ∀ j : Int, 0 ≤ j → j < 42 → B (y + j) = A (x + j)) (a : rr_h A x h) (w16 : h.2.1 ≤ 16) : rr_h B y h := by
  obtain ⟨a1, a2, a3, a4, a5, a6, a7, a8⟩ := a
  have e' : ∀ j k : Int, k = y + j → 0 ≤ j → j < 42 → B k = A (x + j) := fun j k q a b => by rw [q]; exact e j a b
  refine ⟨(e' 0 y (by omega) (by decide) (by decide)).trans ((by rw [Int.add_zero] : A (x + 0) = A x).trans a1), (e 1 (by decide) (by decide)).trans a2, fun w w0 w1 => by rw [e 2 (by decide) (by decide)]; exact a3 w w0 w1, (e 3 (by decide) (by decide)).trans a4, (e 4 (by decide) (by decide)).trans a5, fun b b0 b1 => ⟨?_, fun q => ⟨?_, ?_⟩⟩, fun p p0 p1 p6 => ⟨?_, ?_⟩, fun s s0 s1 => ?_⟩
  · have := (a6 b b0 b1).1
    rw [show x + 5 + 3 * b = x + (5 + 3 * b) by omega] at this
    exact (e' (5 + 3 * b) _ (by omega) (by omega) (by omega)).trans this
  · have := ((a6 b b0 b1).2 q).1
    rw [show x + 5 + (3 * b + 1) = x + (5 + (3 * b + 1)) by omega] at this
    exact (e' (5 + (3 * b + 1)) _ (by omega) (by omega) (by omega)).trans this
  · have := ((a6 b b0 b1).2 q).2
    rw [show x + 5 + (3 * b + 2) = x + (5 + (3 * b + 2)) by omega] at this
    exact (e' (5 + (3 * b + 2)) _ (by omega) (by omega) (by omega)).trans this
  · have := (a7 p p0 p1 p6).1
    rw [show x + 17 + 2 * p = x + (17 + 2 * p) by omega] at this
    exact (e' (17 + 2 * p) _ (by omega) (by omega) (by omega)).trans this
  · have := (a7 p p0 p1 p6).2
    rw [show x + 18 + 2 * p = x + (18 + 2 * p) by omega] at this
    exact (e' (18 + 2 * p) _ (by omega) (by omega) (by omega)).trans this
  · have := a8 s s0 s1
    rw [show x + 29 + s = x + (29 + s) by omega] at this
    exact (e' (29 + s) _ (by omega) (by omega) (by omega)).trans this
/-- how many ways there were then -/
def rr_w (H : List rr_H) : Prop := ∀ h ∈ H, h.2.1 ≤ 16
theorem rr_hsC : ∀ H : List rr_H, rr_w H → (∀ i : Int, 278 ≤ i → i < 278 + 42 * H.length → B i = A i) → rr_hs A H → rr_hs B H := by
  intro H
  induction H with
  | nil => intro _ _ _; trivial
  | cons h H ih =>
    intro hw e a
    rw [List.length_cons] at e
    exact ⟨rr_hM (fun j j0 j1 => e _ (by omega) (by omega)) a.1 (hw h List.mem_cons_self), ih (fun g hg => hw g (List.mem_cons_of_mem _ hg)) (fun i i0 i1 => e i i0 (by omega)) a.2⟩
/-- the oldest goes, the others move down -/
theorem rr_hsD : ∀ H : List rr_H, rr_w H → (∀ i : Int, 278 ≤ i → i + 42 < 278 + 42 * H.length → B i = A (i + 42)) → rr_hs A H → rr_hs B H.dropLast := by
  intro H
  induction H with
  | nil => intro _ _ _; trivial
  | cons h H ih =>
    intro hw e a
    cases H with
    | nil => trivial
    | cons g T =>
      have hl : (((g :: T).dropLast).length : Int) = T.length := by rw [List.length_dropLast, List.length_cons]; omega
      have hl2 : ((h :: g :: T).length : Int) = (T.length : Int) + 2 := by rw [List.length_cons, List.length_cons]; omega
      have hl3 : ((g :: T).length : Int) = (T.length : Int) + 1 := by rw [List.length_cons]; omega
      rw [hl2] at e
      have a1 := a.1
      rw [hl3] at a1
      refine ⟨?_, ih (fun k hk => hw k (List.mem_cons_of_mem _ hk)) (fun i i0 i1 => e i i0 (by rw [hl3] at i1; omega)) a.2⟩
      show rr_h B (278 + 42 * (((g :: T).dropLast).length : Int)) h
      rw [hl]
      refine rr_hM (fun j j0 j1 => ?_) a1 (hw h List.mem_cons_self)
      rw [e _ (by omega) (by omega), show 278 + 42 * (T.length : Int) + j + 42 = 278 + 42 * ((T.length : Int) + 1) + j by omega]
/-! keep of the reference -/
def rr_N1 (A B : Int → Int) (x w : Int) : Prop := B x = A 2 ∧ B (x + 1) = A 1 ∧ ∀ k : Int, 0 ≤ k → k < 16 → bt_t (B (x + 2)) k = (decide (k < w) && decide (A (50 + 4 * k + 3) = 1))
def rr_N2 (A B : Int → Int) (x k : Int) : Prop := B (x + 3) = A 3 ∧ B (x + 4) = A 6 ∧ ∀ j : Int, 0 ≤ j → j < k → B (x + 5 + j) = A (114 + j)
def rr_N3 (A B : Int → Int) (x k : Int) : Prop := ∀ p : Int, 0 ≤ p → p < k → B (x + 17 + 2 * p) = A (126 + 6 * p + 3) ∧ B (x + 18 + 2 * p) = A (126 + 6 * p + 4)
def rr_N4 (A B : Int → Int) (x k : Int) : Prop := ∀ s : Int, 0 ≤ s → s < k → B (x + 29 + s) = A (14 + 3 * s + 2)
def rr_D (A B : Int → Int) (x : Int) : Prop := ∀ i : Int, ¬ (x ≤ i ∧ i < x + 42) → B i = A i
/-- cells but the row are the same -/
def rr_f (s t : lf_Z) : Prop := (∀ c : Nat, c ≠ 96 → t.1 c = s.1 c) ∧ t.2 = s.2
theorem rr_fr : rr_f s s := ⟨fun _ _ => rfl, rfl⟩
theorem rr_ft {u : lf_Z} (h : rr_f s t) (g : rr_f t u) : rr_f s u := ⟨fun c hc => (g.1 c hc).trans (h.1 c hc), g.2.trans h.2⟩
theorem rr_fu {i v : Int} (h : rr_f s t) : rr_f s (lf_up t.1 96 i v, t.2.1, t.2.2) := ⟨fun c hc => (zu_r hc).trans (h.1 c hc), h.2⟩
theorem fl_246 {a : Int} {Q : Int → lf_Z → Prop} (h : Q (s.1 96 (14 + 3 * a + 2)) s) : fw_246 a Q s := by unfold fw_246; exact fun _ => h
theorem fl_239 {a : Int} {Q : Int → lf_Z → Prop} (h : Q (s.1 96 (126 + 6 * a + 3)) s) : fw_239 a Q s := by unfold fw_239; exact fun _ => h
theorem fl_239b {a : Int} {Q : Int → lf_Z → Prop} (h : Q (s.1 96 (126 + 6 * a + 4)) s) : fw_239b a Q s := by unfold fw_239b; exact fun _ => h
theorem fl_245 {a : Int} {Q : Bool → lf_Z → Prop} (h : Q (decide (s.1 96 (50 + 4 * a + 3) = 1)) s) : fw_245 a Q s := by
  unfold fw_245
  intro _ _
  refine ⟨fun c => ?_, fun c => ?_⟩
  · rw [decide_eq_false c] at h; exact h
  · rw [decide_eq_true (Classical.not_not.mp c)] at h; exact h
theorem fl_244p {Q : lf_Z → Prop} (hc : s.1 96 9 = c) (c0 : 0 ≤ c) (c1 : c < 30) (hn : s.1 96 1 ≤ 16) (hn0 : 0 ≤ s.1 96 1)
    (kk : ∀ t : lf_Z, rr_f s t → t.1 96 9 = c + 1 → (∀ i : Int, i ≠ 9 → ¬ (278 + 42 * c ≤ i ∧ i < 278 + 42 * c + 42) → t.1 96 i = s.1 96 i) → rr_N1 (s.1 96) (t.1 96) (278 + 42 * c) (s.1 96 1) → rr_N2 (s.1 96) (t.1 96) (278 + 42 * c) 12 → rr_N3 (s.1 96) (t.1 96) (278 + 42 * c) 6 → rr_N4 (s.1 96) (t.1 96) (278 + 42 * c) 12 → Q t) : fw_244_p58 Q s := by
  unfold fw_244_p58
  rw [hc]
  intro _ _ _
  generalize hA : s.1 96 = A at *
  have hx : 278 ≤ 278 + 42 * c := by omega
  generalize hxx : 278 + 42 * c = x at *
  have p268 : ∀ t : lf_Z, rr_f s t → rr_D A (t.1 96) x → rr_N1 A (t.1 96) x (A 1) → rr_N2 A (t.1 96) x 12 → rr_N3 A (t.1 96) x 6 → fw_244_p268L Q x 0 t := by
    intro t tf tD n1 n2 n3
    refine ⟨fun k t => 0 ≤ k ∧ k ≤ 12 ∧ rr_f s t ∧ rr_D A (t.1 96) x ∧ rr_N1 A (t.1 96) x (A 1) ∧ rr_N2 A (t.1 96) x 12 ∧ rr_N3 A (t.1 96) x 6 ∧ rr_N4 A (t.1 96) x k, ?_, ⟨Int.le_refl 0, by decide, tf, tD, n1, n2, n3, fun q a b => by omega⟩⟩
    intro k t ⟨k0, k1, tf, tD, n1, n2, n3, n4⟩
    unfold fw_244_p268
    intro _
    refine ⟨fun q => ?_, fun q => fl_246 (fun _ => ?_)⟩
    · have hk : k = 12 := by omega
      subst hk
      have e9 : t.1 96 9 = c := (tD 9 (by omega)).trans hc
      rw [e9]
      have e : ∀ j : Int, j ≠ 9 → ((lf_up t.1 96 9 (c + 1), t.2.1, t.2.2) : lf_Z).1 96 j = t.1 96 j := fun j hj => zu_i hj
      refine kk _ (rr_fu tf) zu_s (fun i h9 hi => (e i h9).trans (tD i hi)) ?_ ?_ ?_ ?_
      · exact ⟨(e x (by omega)).trans n1.1, (e (x + 1) (by omega)).trans n1.2.1, fun j j0 j1 => by rw [e (x + 2) (by omega)]; exact n1.2.2 j j0 j1⟩
      · exact ⟨(e (x + 3) (by omega)).trans n2.1, (e (x + 4) (by omega)).trans n2.2.1, fun j j0 j1 => (e _ (by omega)).trans (n2.2.2 j j0 j1)⟩
      · exact fun p p0 p1 => ⟨(e _ (by omega)).trans (n3 p p0 p1).1, (e _ (by omega)).trans (n3 p p0 p1).2⟩
      · exact fun q q0 q1 => (e _ (by omega)).trans (n4 q q0 q1)
    · have eA : t.1 96 (14 + 3 * k + 2) = A (14 + 3 * k + 2) := tD _ (by omega)
      rw [eA]
      have e : ∀ j : Int, j ≠ x + 29 + k → ((lf_up t.1 96 (x + 29 + k) (A (14 + 3 * k + 2)), t.2.1, t.2.2) : lf_Z).1 96 j = t.1 96 j := fun j hj => zu_i hj
      refine ⟨by omega, by omega, rr_fu tf, fun i hi => (e i (by omega)).trans (tD i hi), ?_, ?_, ?_, ?_⟩
      · exact ⟨(e x (by omega)).trans n1.1, (e (x + 1) (by omega)).trans n1.2.1, fun j j0 j1 => by rw [e (x + 2) (by omega)]; exact n1.2.2 j j0 j1⟩
      · exact ⟨(e (x + 3) (by omega)).trans n2.1, (e (x + 4) (by omega)).trans n2.2.1, fun j j0 j1 => (e _ (by omega)).trans (n2.2.2 j j0 j1)⟩
      · exact fun p p0 p1 => ⟨(e _ (by omega)).trans (n3 p p0 p1).1, (e _ (by omega)).trans (n3 p p0 p1).2⟩
      · intro q q0 q1
        by_cases y : q = k
        · rw [y]; exact zu_s
        · exact (e _ (by omega)).trans (n4 q q0 (by omega))
  have p216 : ∀ t : lf_Z, rr_f s t → rr_D A (t.1 96) x → rr_N1 A (t.1 96) x (A 1) → rr_N2 A (t.1 96) x 12 → fw_244_p216L Q x 0 t := by
    intro t tf tD n1 n2
    refine ⟨fun k t => 0 ≤ k ∧ k ≤ 6 ∧ rr_f s t ∧ rr_D A (t.1 96) x ∧ rr_N1 A (t.1 96) x (A 1) ∧ rr_N2 A (t.1 96) x 12 ∧ rr_N3 A (t.1 96) x k, ?_, ⟨Int.le_refl 0, by decide, tf, tD, n1, n2, fun q a b => by omega⟩⟩
    intro k t ⟨k0, k1, tf, tD, n1, n2, n3⟩
    unfold fw_244_p216
    intro _
    refine ⟨fun q => ?_, fun q => fl_239 (fun _ => fl_239b (fun _ => ?_))⟩
    · have hk : k = 6 := by omega
      subst hk
      exact p268 t tf tD n1 n2 n3
    · have eA : t.1 96 (126 + 6 * k + 3) = A (126 + 6 * k + 3) := tD _ (by omega)
      have eB : ((lf_up t.1 96 (x + 17 + 2 * k) (A (126 + 6 * k + 3)), t.2.1, t.2.2) : lf_Z).1 96 (126 + 6 * k + 4) = A (126 + 6 * k + 4) := (zu_i (by omega)).trans (tD _ (by omega))
      rw [eA, eB]
      have e : ∀ j : Int, j ≠ x + 17 + 2 * k → j ≠ x + 18 + 2 * k → ((lf_up ((lf_up t.1 96 (x + 17 + 2 * k) (A (126 + 6 * k + 3)), t.2.1, t.2.2) : lf_Z).1 96 (x + 18 + 2 * k) (A (126 + 6 * k + 4)), t.2.1, t.2.2) : lf_Z).1 96 j = t.1 96 j := fun j hj hk => (zu_i hk).trans (zu_i hj)
      refine ⟨by omega, by omega, rr_fu (rr_fu tf), fun i hi => (e i (by omega) (by omega)).trans (tD i hi), ?_, ?_, ?_⟩
      · exact ⟨(e x (by omega) (by omega)).trans n1.1, (e (x + 1) (by omega) (by omega)).trans n1.2.1, fun j j0 j1 => by rw [e (x + 2) (by omega) (by omega)]; exact n1.2.2 j j0 j1⟩
      · exact ⟨(e (x + 3) (by omega) (by omega)).trans n2.1, (e (x + 4) (by omega) (by omega)).trans n2.2.1, fun j j0 j1 => (e _ (by omega) (by omega)).trans (n2.2.2 j j0 j1)⟩
      · intro q q0 q1
        by_cases y : q = k
        · rw [y]; exact ⟨(zu_i (by omega)).trans zu_s, zu_s⟩
        · exact ⟨(e _ (by omega) (by omega)).trans (n3 q q0 (by omega)).1, (e _ (by omega) (by omega)).trans (n3 q q0 (by omega)).2⟩
  have p183 : ∀ t : lf_Z, rr_f s t → rr_D A (t.1 96) x → rr_N1 A (t.1 96) x (A 1) → t.1 96 (x + 3) = A 3 → t.1 96 (x + 4) = A 6 → fw_244_p183L Q x 0 t := by
    intro t tf tD n1 n3 n4
    refine ⟨fun k t => 0 ≤ k ∧ k ≤ 12 ∧ rr_f s t ∧ rr_D A (t.1 96) x ∧ rr_N1 A (t.1 96) x (A 1) ∧ rr_N2 A (t.1 96) x k, ?_, ⟨Int.le_refl 0, by decide, tf, tD, n1, n3, n4, fun q a b => by omega⟩⟩
    intro k t ⟨k0, k1, tf, tD, n1, n2⟩
    unfold fw_244_p183
    intro _
    refine ⟨fun q => ?_, fun q _ _ => ?_⟩
    · have hk : k = 12 := by omega
      subst hk
      exact p216 t tf tD n1 n2
    · have eA : t.1 96 (114 + k) = A (114 + k) := tD _ (by omega)
      rw [eA]
      have e : ∀ j : Int, j ≠ x + 5 + k → ((lf_up t.1 96 (x + 5 + k) (A (114 + k)), t.2.1, t.2.2) : lf_Z).1 96 j = t.1 96 j := fun j hj => zu_i hj
      refine ⟨by omega, by omega, rr_fu tf, fun i hi => (e i (by omega)).trans (tD i hi), ?_, (e (x + 3) (by omega)).trans n2.1, (e (x + 4) (by omega)).trans n2.2.1, ?_⟩
      · exact ⟨(e x (by omega)).trans n1.1, (e (x + 1) (by omega)).trans n1.2.1, fun j j0 j1 => by rw [e (x + 2) (by omega)]; exact n1.2.2 j j0 j1⟩
      · intro q q0 q1
        by_cases y : q = k
        · rw [y]; exact zu_s
        · exact (e _ (by omega)).trans (n2.2.2 q q0 (by omega))
  obtain ⟨u, hu⟩ : ∃ u : lf_Z, u = (lf_up (lf_up (lf_up s.1 96 x (A 2)) 96 (x + 1) ((lf_up s.1 96 x (A 2)) 96 1)) 96 (x + 2) 0, s.2.1, s.2.2) := ⟨_, rfl⟩
  rw [← hu]
  have e1 : (lf_up s.1 96 x (A 2)) 96 1 = A 1 := (lf_up_i (by omega)).trans (by rw [hA])
  have e : ∀ j : Int, j ≠ x → j ≠ x + 1 → j ≠ x + 2 → u.1 96 j = A j := fun j h1 h2 h3 => by rw [hu]; exact (zu_i h3).trans ((lf_up_i h2).trans ((lf_up_i h1).trans (by rw [hA])))
  have ux : u.1 96 x = A 2 := by rw [hu]; exact (zu_i (by omega)).trans ((lf_up_i (by omega)).trans lf_up_s)
  have uy : u.1 96 (x + 1) = A 1 := by rw [hu]; exact (zu_i (by omega)).trans (lf_up_s.trans e1)
  have uz : u.1 96 (x + 2) = 0 := by rw [hu]; exact zu_s
  have uf : rr_f s u := by
    rw [hu]
    exact ⟨fun q hq => (zu_r hq).trans ((lf_up_row hq).trans (lf_up_row hq)), rfl⟩
  refine ⟨fun w t => 0 ≤ w ∧ w ≤ A 1 ∧ rr_f s t ∧ rr_D A (t.1 96) x ∧ rr_N1 A (t.1 96) x w, ?_, ⟨Int.le_refl 0, hn0, uf, fun i hi => e i (by omega) (by omega) (by omega), ux, uy, fun k k0 k1 => ?_⟩⟩
  · intro w t ⟨w0, w1, tf, tD, n1⟩
    have t1 : t.1 96 1 = A 1 := tD 1 (by omega)
    have t3 : t.1 96 3 = A 3 := tD 3 (by omega)
    unfold fw_244_p110
    intro _ _
    rw [t1]
    refine ⟨fun q _ _ => ?_, fun q _ => fl_245 ?_⟩
    · have hw : w = A 1 := by omega
      subst hw
      rw [t3]
      have t6 : (lf_up t.1 96 (x + 3) (A 3)) 96 6 = A 6 := (lf_up_i (by omega)).trans (tD 6 (by omega))
      rw [t6]
      have e : ∀ j : Int, j ≠ x + 3 → j ≠ x + 4 → ((lf_up (lf_up t.1 96 (x + 3) (A 3)) 96 (x + 4) (A 6), t.2.1, t.2.2) : lf_Z).1 96 j = t.1 96 j := fun j hj hk => (zu_i hk).trans (lf_up_i hj)
      refine p183 _ ⟨fun q hq => (zu_r hq).trans ((lf_up_row hq).trans (tf.1 q hq)), tf.2⟩ (fun i hi => (e i (by omega) (by omega)).trans (tD i hi)) ?_ ((zu_i (by omega)).trans lf_up_s) zu_s
      exact ⟨(e x (by omega) (by omega)).trans n1.1, (e (x + 1) (by omega) (by omega)).trans n1.2.1, fun j j0 j1 => by rw [e (x + 2) (by omega) (by omega)]; exact n1.2.2 j j0 j1⟩
    · have eA : t.1 96 (50 + 4 * w + 3) = A (50 + 4 * w + 3) := tD _ (by omega)
      rw [eA]
      have fin : ∀ y3 : Int, (∀ k : Int, 0 ≤ k → k < 16 → bt_t (lf_or (t.1 96 (x + 2)) y3) k = (bt_t (t.1 96 (x + 2)) k || (decide (k = w) && decide (A (50 + 4 * w + 3) = 1)))) → fw_244_p144 (fun w t => 0 ≤ w ∧ w ≤ A 1 ∧ rr_f s t ∧ rr_D A (t.1 96) x ∧ rr_N1 A (t.1 96) x w) Q x w (x + 2) (t.1 96 (x + 2)) y3 t := by
        intro y3 hy
        unfold fw_244_p144
        intro _
        have e : ∀ j : Int, j ≠ x + 2 → ((lf_up t.1 96 (x + 2) (lf_or (t.1 96 (x + 2)) y3), t.2.1, t.2.2) : lf_Z).1 96 j = t.1 96 j := fun j hj => zu_i hj
        have e2 : ((lf_up t.1 96 (x + 2) (lf_or (t.1 96 (x + 2)) y3), t.2.1, t.2.2) : lf_Z).1 96 (x + 2) = lf_or (t.1 96 (x + 2)) y3 := zu_s
        refine ⟨by omega, by omega, rr_fu tf, fun i hi => (e i (by omega)).trans (tD i hi), (e x (by omega)).trans n1.1, (e (x + 1) (by omega)).trans n1.2.1, fun k k0 k1 => ?_⟩
        rw [e2, hy k k0 k1, n1.2.2 k k0 k1]
        by_cases kw : k = w
        · subst kw
          rw [decide_eq_false (show ¬ k < k by omega), decide_eq_true (show k < k + 1 by omega), decide_eq_true (show k = k from rfl), Bool.false_and, Bool.true_and, Bool.false_or]
        · rw [decide_eq_false kw, Bool.false_and, Bool.or_false]
          by_cases lt : k < w
          · rw [decide_eq_true lt, decide_eq_true (show k < w + 1 by omega)]
          · rw [decide_eq_false lt, decide_eq_false (show ¬ k < w + 1 by omega)]
      refine ⟨fun z => fin 0 (fun k k0 k1 => ?_), fun z => fin _ (fun k k0 k1 => ?_)⟩
      · rw [bt_To0, z, Bool.and_false, Bool.or_false]
      · rw [bt_Tor k0 (by omega) w0 (by omega), z, Bool.and_true]
  · rw [uz, decide_eq_false (show ¬ k < 0 by omega), Bool.false_and]
    unfold bt_t
    exact bt_0
/-- a step more -/
def rr_K (h : rr_H) (H : List rr_H) : List rr_H := h :: (if H.length = 30 then H.dropLast else H)
theorem rr_hN {f : Int → Int} (hS : rr_S (A 1) (A 2) f A) (hn2 : A 2 ≤ 6) (hn : A 1 ≤ 16) (n1 : rr_N1 A B x (A 1)) (n2 : rr_N2 A B x 12) (n3 : rr_N3 A B x 6) (n4 : rr_N4 A B x 12) : rr_h B x (A 2, A 1, f) := by
  obtain ⟨s1, s2, s3, s4, s5, s6⟩ := hS
  refine ⟨n1.1, n1.2.1, fun w w0 w1 => ?_, n2.1.trans s1, n2.2.1.trans s2, fun b b0 b1 => ⟨?_, fun q => ⟨?_, ?_⟩⟩, fun p p0 p1 p6 => ?_, fun s s0 s1 => (n4 s s0 s1).trans (s5 s s0 s1)⟩
  · have w1 : w < A 1 := w1
    rw [n1.2.2 w w0 (by omega), s6 w w0 w1, decide_eq_true w1, Bool.true_and]
    unfold rr_op
    show decide ((if bt_t (f 36) w = true then (0 : Int) else 1) = 1) = !(bt_t (f 36) w)
    cases bt_t (f 36) w <;> rfl
  · exact (n2.2.2 (3 * b) (by omega) (by omega)).trans (s3 b b0 b1).1
  · refine (n2.2.2 (3 * b + 1) (by omega) (by omega)).trans ?_
    rw [show 114 + (3 * b + 1) = 114 + 3 * b + 1 by omega]
    exact ((s3 b b0 b1).2 q).1
  · refine (n2.2.2 (3 * b + 2) (by omega) (by omega)).trans ?_
    rw [show 114 + (3 * b + 2) = 114 + 3 * b + 2 by omega]
    exact ((s3 b b0 b1).2 q).2
  · have p1 : p < A 2 := p1
    have a := n3 p p0 p6
    have b := s4 p p0 p1
    exact ⟨a.1.trans b.1, a.2.trans b.2⟩
theorem rr_Sc {f : Int → Int} (hS : rr_S n1 n2 f A) (h16 : n1 ≤ 16) (h6 : n2 ≤ 6) (e : ∀ i : Int, i ≠ 9 → i < 278 → B i = A i) : rr_S n1 n2 f B := by
  obtain ⟨s1, s2, s3, s4, s5, s6⟩ := hS
  refine ⟨(e 3 (by decide) (by decide)).trans s1, (e 6 (by decide) (by decide)).trans s2, fun b b0 b1 => ⟨(e _ (by omega) (by omega)).trans (s3 b b0 b1).1, fun q => ⟨(e _ (by omega) (by omega)).trans ((s3 b b0 b1).2 q).1, (e _ (by omega) (by omega)).trans ((s3 b b0 b1).2 q).2⟩⟩, fun p p0 p1 => ⟨(e _ (by omega) (by omega)).trans (s4 p p0 p1).1, (e _ (by omega) (by omega)).trans (s4 p p0 p1).2⟩, fun s s0 s1 => (e _ (by omega) (by omega)).trans (s5 s s0 s1), fun w w0 w1 => (e _ (by omega) (by omega)).trans (s6 w w0 w1)⟩
/-- keep: all stands as before, one step more -/
theorem fl_244 {f : Int → Int} {Q : lf_Z → Prop} (hS : rr_S (s.1 96 1) (s.1 96 2) f (s.1 96)) (h9 : s.1 96 9 = H.length) (hl : H.length ≤ 30) (hH : rr_hs (s.1 96) H) (hw : rr_w H) (hn : s.1 96 1 ≤ 16) (hn0 : 0 ≤ s.1 96 1) (hn2 : s.1 96 2 ≤ 6)
    (kk : ∀ t : lf_Z, rr_f s t → (∀ i : Int, i ≠ 9 → i < 278 → t.1 96 i = s.1 96 i) → t.1 96 9 = (rr_K (s.1 96 2, s.1 96 1, f) H).length → rr_hs (t.1 96) (rr_K (s.1 96 2, s.1 96 1, f) H) → rr_S (s.1 96 1) (s.1 96 2) f (t.1 96) → Q t) : fw_244 Q s := by
  unfold fw_244
  intro _
  rw [h9]
  refine ⟨fun c => fl_244p h9 (by omega) (by omega) hn hn0 (fun t tf t9 tD n1 n2 n3 n4 => ?_), fun c => ?_⟩
  · have c : H.length ≠ 30 := fun q => c (by rw [q]; rfl)
    have eK : rr_K (s.1 96 2, s.1 96 1, f) H = (s.1 96 2, s.1 96 1, f) :: H := by unfold rr_K; rw [if_neg c]
    have e : ∀ i : Int, i ≠ 9 → i < 278 → t.1 96 i = s.1 96 i := fun i h1 h2 => tD i h1 (by omega)
    refine kk t tf e ?_ ?_ (rr_Sc hS hn hn2 e)
    · rw [eK, t9, List.length_cons]; omega
    · rw [eK]
      exact ⟨rr_hN hS hn2 hn n1 n2 n3 n4, rr_hsC H hw (fun i i0 i1 => tD i (by omega) (by omega)) hH⟩
  · have c : H.length = 30 := by omega
    refine ⟨fun k t => 0 ≤ k ∧ k ≤ 1218 ∧ rr_f s t ∧ (∀ i : Int, ¬ (278 ≤ i ∧ i < 278 + k) → t.1 96 i = s.1 96 i) ∧ ∀ i : Int, 278 ≤ i → i < 278 + k → t.1 96 i = s.1 96 (i + 42), ?_, ⟨Int.le_refl 0, by decide, rr_fr, fun _ _ => rfl, fun i a b => by omega⟩⟩
    intro k t ⟨k0, k1, tf, tD, tM⟩
    unfold fw_244_p14
    intro _
    refine ⟨fun q => ?_, fun q _ _ => ?_⟩
    · have hk : k = 1218 := by omega
      subst hk
      have e9 : t.1 96 9 = H.length := (tD 9 (by omega)).trans h9
      rw [e9, c]
      obtain ⟨u, hu⟩ : ∃ u : lf_Z, u = (lf_up t.1 96 9 (((30 : Nat) : Int) - 1), t.2.1, t.2.2) := ⟨_, rfl⟩
      rw [← hu]
      have u9 : u.1 96 9 = 29 := by rw [hu]; exact zu_s
      have ue : ∀ i : Int, i ≠ 9 → u.1 96 i = t.1 96 i := fun i hi => by rw [hu]; exact zu_i hi
      have uf : rr_f s u := by rw [hu]; exact rr_fu tf
      have u1 : u.1 96 1 = s.1 96 1 := (ue 1 (by decide)).trans (tD 1 (by omega))
      have u2 : u.1 96 2 = s.1 96 2 := (ue 2 (by decide)).trans (tD 2 (by omega))
      have uS : rr_S (u.1 96 1) (u.1 96 2) f (u.1 96) := by
        rw [u1, u2]
        exact rr_Sc hS hn hn2 (fun i i9 i2 => (ue i i9).trans (tD i (by omega)))
      refine fl_244p u9 (by decide) (by decide) (by rw [u1]; exact hn) (by rw [u1]; exact hn0) (fun y yf y9 yD n1 n2 n3 n4 => ?_)
      have eK : rr_K (s.1 96 2, s.1 96 1, f) H = (s.1 96 2, s.1 96 1, f) :: H.dropLast := by unfold rr_K; rw [if_pos c]
      have dl : H.dropLast.length = 29 := by rw [List.length_dropLast, c]
      have e : ∀ i : Int, i ≠ 9 → i < 278 → y.1 96 i = s.1 96 i := fun i i9 i2 => (yD i i9 (by omega)).trans ((ue i i9).trans (tD i (by omega)))
      refine kk y (rr_ft uf yf) e ?_ ?_ (rr_Sc hS hn hn2 e)
      · rw [eK, y9, List.length_cons, dl]; rfl
      · rw [eK]
        refine ⟨?_, ?_⟩
        · have g := rr_hN uS (by rw [u2]; exact hn2) (by rw [u1]; exact hn) n1 n2 n3 n4
          rw [u1, u2] at g
          rw [dl]
          exact g
        · refine rr_hsD H hw (fun i i0 i1 => ?_) hH
          rw [yD i (by omega) (by rw [c] at i1; omega), ue i (by omega)]
          exact tM i i0 (by rw [c] at i1; omega)
    · have eA : t.1 96 (320 + k) = s.1 96 (320 + k) := tD _ (by omega)
      rw [eA]
      refine ⟨by omega, by omega, rr_fu tf, fun i hi => (zu_i (by omega)).trans (tD i (by omega)), fun i i0 i1 => ?_⟩
      by_cases y : i = 278 + k
      · rw [y, show 278 + k + 42 = 320 + k by omega]; exact zu_s
      · exact (zu_i y).trans (tM i i0 (by omega))
end RR
