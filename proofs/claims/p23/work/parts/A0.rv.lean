/-! what the reference's orders are worth -/
section RV
variable {f : Int → Int} {n law b c k j : Int} {P P2 : ln_P} {o : List (Int × Int)} {M N L0 : Int → Int}
abbrev rq_R : Type := List Int × List Int × (Int → Int)
def rq_hd : List Int → Int
  | [] => 0
  | x :: _ => x
/-- one order -/
def rq_st (N : Int → Int) (e : Int × Int) (R : rq_R) : rq_R :=
  if e.1 = 0 then (e.2 :: R.1, R.2)
  else if e.1 = 1 then (N e.2 :: R.1, R.2)
  else if e.1 ≤ 1 ∨ e.1 = 31 then (R.2.2 e.2 :: R.1, R.2)
  else if e.1 = 2 then ((if rq_hd R.2.1 ≠ 0 then R.1.tail else rq_hd R.1 :: R.1.tail.tail), R.2.1.tail, R.2.2)
  else if e.1 = 30 then (R.1.tail, R.2.1, ds_u1 R.2.2 e.2 (rq_hd R.1))
  else if e.1 = 3 then (-(rq_hd R.1) :: R.1.tail, R.2)
  else if e.1 < 10 then (cm_ar (e.1 + 6) (rq_hd R.1.tail) (rq_hd R.1) :: R.1.tail.tail, R.2)
  else if e.1 < 20 then (R.1.tail.tail, lf_b (cm_cp (e.1 - 6) (rq_hd R.1.tail) (rq_hd R.1)) :: R.2.1, R.2.2)
  else if e.1 = 20 then (R.1, (1 - rq_hd R.2.1) :: R.2.1.tail, R.2.2)
  else if e.1 = 21 then (R.1, cm_2 45 (rq_hd R.2.1.tail) (rq_hd R.2.1) :: R.2.1.tail.tail, R.2.2)
  else (R.1, cm_2 46 (rq_hd R.2.1.tail) (rq_hd R.2.1) :: R.2.1.tail.tail, R.2.2)
/-- all orders but the first m -/
def rv (N L0 : Int → Int) (m : Nat) : List (Int × Int) → rq_R
  | [] => ([], [], L0)
  | e :: o => if o.length < m then ([], [], L0) else rq_st N e (rv N L0 m o)
def rq_pr (M N : Int → Int) (e : Int × Int) (R : rq_R) : Prop := (e.1 = 0 → cm_sm e.2) ∧ (e.1 = 1 → cm_sm (N e.2) ∧ M e.2 = N e.2) ∧ (e.1 < 0 ∨ e.1 = 31 → cm_sm (R.2.2 e.2)) ∧ (e.1 = 2 → R.1 ≠ [])
def rq_ok (M N L0 : Int → Int) (m : Nat) : List (Int × Int) → Prop
  | [] => m = 0
  | e :: o => o.length + 1 = m ∨ (rq_ok M N L0 m o ∧ rq_pr M N e (rv N L0 m o))
variable {m : Nat}
theorem rq_len : ∀ o : List (Int × Int), rq_ok M N L0 m o → m ≤ o.length := by
  intro o
  induction o with
  | nil => intro h; have h : m = 0 := h; omega
  | cons e o ih =>
    intro h
    rw [List.length_cons]
    rcases h with h | h
    · omega
    · have := ih h.1; omega
theorem rv_c {e : Int × Int} (h : rq_ok M N L0 m o) : rv N L0 m (e :: o) = rq_st N e (rv N L0 m o) := if_neg (by have := rq_len o h; omega)
theorem rq_c {e : Int × Int} (h : rq_ok M N L0 m o) (p : rq_pr M N e (rv N L0 m o)) : rq_ok M N L0 m (e :: o) := Or.inr ⟨h, p⟩
theorem rv_0 (M : Int → Int) (h : o.length = m) : rv N L0 m o = ([], [], L0) ∧ rq_ok M N L0 m o := by
  cases o with
  | nil => exact ⟨rfl, h.symm⟩
  | cons e o =>
    rw [List.length_cons] at h
    exact ⟨if_pos (by omega), Or.inl h⟩
/-- the pile's signs, from rank k on, are written -/
def rq_fl (N : Int → Int) (k : Int) : ln_P → rq_R → rq_R
  | [], R => R
  | e :: P, R => if k ≤ lm_rk e.1 then rq_fl N k P (rq_st N (e.1, 0) R) else R
/-- a pile's entries -/
def rq_P (c : Int) (P : ln_P) : Prop := ∀ e ∈ P, (3 ≤ e.1 ∧ e.1 ≠ 30 ∧ e.1 ≠ 31) ∧ (e.1 = 45 → 0 ≤ e.2.2 ∧ e.2.2 < c)
theorem rq_Pc {e : Int × Int × Int} (h : rq_P c P) (h1 : 3 ≤ e.1 ∧ e.1 ≠ 30 ∧ e.1 ≠ 31) (h2 : e.1 = 45 → 0 ≤ e.2.2 ∧ e.2.2 < c) : rq_P c (e :: P) := fun x hx => by
  rcases List.mem_cons.mp hx with q | q
  · rw [q]; exact ⟨h1, h2⟩
  · exact h x q
theorem rq_Pt {e : Int × Int × Int} (h : rq_P c (e :: P)) : rq_P c P := fun x hx => h x (List.mem_cons_of_mem _ hx)
theorem rq_Pw {c' : Int} (h : rq_P c P) (hc : c ≤ c') : rq_P c' P := fun x hx => ⟨(h x hx).1, fun q => ⟨((h x hx).2 q).1, by have := ((h x hx).2 q).2; omega⟩⟩
theorem rq_Ps : ∀ {P : ln_P}, rq_P c P → rq_P c (ln_st k P) := by
  intro P
  induction P with
  | nil => intro h; exact h
  | cons e P ih =>
    intro h
    show rq_P c (if k ≤ lm_rk e.1 then ln_st k P else e :: P)
    split
    · exact ih (rq_Pt h)
    · exact h
theorem rv_so (hk : 1 ≤ k) : ∀ (P : ln_P) (o : List (Int × Int)), rq_P c P → rq_ok M N L0 m o → rq_ok M N L0 m (ln_so k P o) ∧ rv N L0 m (ln_so k P o) = rq_fl N k P (rv N L0 m o) := by
  intro P
  induction P with
  | nil => intro o _ h; exact ⟨h, rfl⟩
  | cons e P ih =>
    intro o hP h
    show rq_ok M N L0 m (if k ≤ lm_rk e.1 then ln_so k P ((e.1, 0) :: o) else o) ∧ rv N L0 m (if k ≤ lm_rk e.1 then ln_so k P ((e.1, 0) :: o) else o) = (if k ≤ lm_rk e.1 then rq_fl N k P (rq_st N (e.1, 0) (rv N L0 m o)) else rv N L0 m o)
    by_cases q : k ≤ lm_rk e.1
    · rw [if_pos q, if_pos q]
      have he := (hP e List.mem_cons_self).1
      have p : rq_pr M N (e.1, 0) (rv N L0 m o) := ⟨fun w => by have w : e.1 = 0 := w; omega, fun w => by have w : e.1 = 1 := w; omega, fun w => by have w : e.1 < 0 ∨ e.1 = 31 := w; omega, fun w => by have w : e.1 = 2 := w; omega⟩
      have := ih ((e.1, 0) :: o) (rq_Pt hP) (rq_c h p)
      rw [rv_c h] at this
      exact this
    · rw [if_neg q, if_neg q]; exact ⟨h, rfl⟩
/-- flushing in two steps -/
theorem rq_flfl {j : Int} (h : k ≤ j) : ∀ (P : ln_P) (R : rq_R), rq_fl N k P R = rq_fl N k (ln_st j P) (rq_fl N j P R) := by
  intro P
  induction P with
  | nil => intro R; rfl
  | cons e P ih =>
    intro R
    show (if k ≤ lm_rk e.1 then rq_fl N k P (rq_st N (e.1, 0) R) else R) = rq_fl N k (if j ≤ lm_rk e.1 then ln_st j P else e :: P) (if j ≤ lm_rk e.1 then rq_fl N j P (rq_st N (e.1, 0) R) else R)
    by_cases q : j ≤ lm_rk e.1
    · rw [if_pos q, if_pos q, if_pos (by omega)]; exact ih _
    · rw [if_neg q, if_neg q]; rfl
theorem ln_stst {j : Int} (h : k ≤ j) : ∀ P : ln_P, ln_st k (ln_st j P) = ln_st k P := by
  intro P
  induction P with
  | nil => rfl
  | cons e P ih =>
    show ln_st k (if j ≤ lm_rk e.1 then ln_st j P else e :: P) = (if k ≤ lm_rk e.1 then ln_st k P else e :: P)
    by_cases q : j ≤ lm_rk e.1
    · rw [if_pos q, if_pos (show k ≤ lm_rk e.1 by omega)]; exact ih
    · rw [if_neg q]; rfl
theorem ln_stL : ∀ P : ln_P, (ln_st k P).length ≤ P.length := by
  intro P
  induction P with
  | nil => exact Nat.le_refl _
  | cons e P ih =>
    show (if k ≤ lm_rk e.1 then ln_st k P else e :: P).length ≤ (e :: P).length
    split
    · exact Nat.le_succ_of_le ih
    · exact Nat.le_refl _
/-- nothing to flush -/
theorem ln_st0 (h : ln_st k P = P) : P = [] ∨ ∃ e Q, P = e :: Q ∧ ¬ k ≤ lm_rk e.1 := by
  cases P with
  | nil => exact Or.inl rfl
  | cons e Q =>
    refine Or.inr ⟨e, Q, rfl, fun q => ?_⟩
    have : (if k ≤ lm_rk e.1 then ln_st k Q else e :: Q) = e :: Q := h
    rw [if_pos q] at this
    have l := ln_stL (k := k) Q
    rw [this, List.length_cons] at l
    omega
theorem ln_stj {j : Int} (h : k ≤ j) (e : ln_st k P = P) : ln_st j P = P := by
  rcases ln_st0 e with q | ⟨x, Q, q, nk⟩
  · rw [q]; rfl
  · rw [q]; exact if_neg (by omega)
theorem rq_fl0 (h : ln_st k P = P) (R : rq_R) : rq_fl N k P R = R := by
  rcases ln_st0 h with q | ⟨x, Q, q, nk⟩
  · rw [q]; rfl
  · rw [q]; exact if_neg nk
theorem ln_eS : ln_e (ln_st k P) = lm_st k (ln_e P) := by
  induction P with
  | nil => rfl
  | cons e P ih =>
    show ln_e (if k ≤ lm_rk e.1 then ln_st k P else e :: P) = (if k ≤ lm_rk e.1 then lm_st k (ln_e P) else ln_e (e :: P))
    split
    · exact ih
    · rfl
/-- alike, below c lets -/
def rq_E (c : Int) (R R' : rq_R) : Prop := R'.1 = R.1 ∧ R'.2.1 = R.2.1 ∧ ∀ i : Int, i < c → R'.2.2 i = R.2.2 i
theorem rq_Er {R : rq_R} : rq_E c R R := ⟨rfl, rfl, fun _ _ => rfl⟩
theorem rq_Et {R S T : rq_R} (h : rq_E c R S) (g : rq_E c S T) : rq_E c R T := ⟨g.1.trans h.1, g.2.1.trans h.2.1, fun i hi => (g.2.2 i hi).trans (h.2.2 i hi)⟩
theorem rq_Ew {c' : Int} {R S : rq_R} (h : rq_E c' R S) (hc : c ≤ c') : rq_E c R S := ⟨h.1, h.2.1, fun i hi => h.2.2 i (by omega)⟩
theorem rq_Est {x y : Int} {R S : rq_R} (h : rq_E c R S) (hx : 3 ≤ x ∧ x ≠ 30 ∧ x ≠ 31) : rq_E c (rq_st N (x, y) R) (rq_st N (x, y) S) := by
  obtain ⟨h1, h2, h3⟩ := h
  unfold rq_st
  dsimp only
  rw [h1, h2]
  rw [if_neg (show ¬ x = 0 by omega), if_neg (show ¬ x = 1 by omega), if_neg (show ¬ (x ≤ 1 ∨ x = 31) by omega), if_neg (show ¬ x = 2 by omega), if_neg (show ¬ x = 30 by omega)]
  rw [if_neg (show ¬ x = 0 by omega), if_neg (show ¬ x = 1 by omega), if_neg (show ¬ (x ≤ 1 ∨ x = 31) by omega), if_neg (show ¬ x = 2 by omega), if_neg (show ¬ x = 30 by omega)]
  by_cases c3 : x = 3
  · rw [if_pos c3, if_pos c3]; exact ⟨rfl, h2, h3⟩
  rw [if_neg c3, if_neg c3]
  by_cases c4 : x < 10
  · rw [if_pos c4, if_pos c4]; exact ⟨rfl, h2, h3⟩
  rw [if_neg c4, if_neg c4]
  by_cases c5 : x < 20
  · rw [if_pos c5, if_pos c5]; exact ⟨rfl, rfl, h3⟩
  rw [if_neg c5, if_neg c5]
  by_cases c6 : x = 20
  · rw [if_pos c6, if_pos c6]; exact ⟨rfl, rfl, h3⟩
  rw [if_neg c6, if_neg c6]
  by_cases c7 : x = 21
  · rw [if_pos c7, if_pos c7]; exact ⟨rfl, rfl, h3⟩
  · rw [if_neg c7, if_neg c7]; exact ⟨rfl, rfl, h3⟩
theorem rq_Efl (k : Int) : ∀ (P : ln_P) (R S : rq_R), rq_P j P → rq_E c R S → rq_E c (rq_fl N k P R) (rq_fl N k P S) := by
  intro P
  induction P with
  | nil => intro R S _ h; exact h
  | cons e P ih =>
    intro R S hP h
    show rq_E c (if k ≤ lm_rk e.1 then rq_fl N k P (rq_st N (e.1, 0) R) else R) (if k ≤ lm_rk e.1 then rq_fl N k P (rq_st N (e.1, 0) S) else S)
    split
    · exact ih _ _ (rq_Pt hP) (rq_Est h (hP e List.mem_cons_self).1)
    · exact h
/-- numbers are small, truths 0 or 1 -/
def rq_sm (R : rq_R) : Prop := (∀ x ∈ R.1, cm_sm x) ∧ ∀ x ∈ R.2.1, x = 0 ∨ x = 1
theorem rq_hdS {l : List Int} (h : ∀ x ∈ l, cm_sm x) : cm_sm (rq_hd l) := by
  cases l with
  | nil => exact ⟨by decide, by decide⟩
  | cons x l => exact h x List.mem_cons_self
theorem rq_hdT {l : List Int} (h : ∀ x ∈ l, x = 0 ∨ x = 1) : rq_hd l = 0 ∨ rq_hd l = 1 := by
  cases l with
  | nil => exact Or.inl rfl
  | cons x l => exact h x List.mem_cons_self
theorem rq_tl {α : Type} {p : α → Prop} {l : List α} (h : ∀ x ∈ l, p x) : ∀ x ∈ l.tail, p x := fun x hx => h x (List.mem_of_mem_tail hx)
theorem rq_cn {α : Type} {p : α → Prop} {l : List α} {y : α} (hy : p y) (h : ∀ x ∈ l, p x) : ∀ x ∈ y :: l, p x := fun x hx => by
  rcases List.mem_cons.mp hx with q | q
  · rw [q]; exact hy
  · exact h x q
theorem rq_smS {e : Int × Int} {R : rq_R} (h : rq_sm R) (p : rq_pr M N e R) : rq_sm (rq_st N e R) := by
  obtain ⟨h1, h2⟩ := h
  obtain ⟨p1, p2, p3, _⟩ := p
  unfold rq_st
  by_cases c0 : e.1 = 0
  · rw [if_pos c0]; exact ⟨rq_cn (p1 c0) h1, h2⟩
  rw [if_neg c0]
  by_cases c1 : e.1 = 1
  · rw [if_pos c1]; exact ⟨rq_cn (p2 c1).1 h1, h2⟩
  rw [if_neg c1]
  by_cases c2 : e.1 ≤ 1 ∨ e.1 = 31
  · rw [if_pos c2]; exact ⟨rq_cn (p3 (by omega)) h1, h2⟩
  rw [if_neg c2]
  by_cases c3 : e.1 = 2
  · rw [if_pos c3]
    refine ⟨?_, rq_tl h2⟩
    dsimp only
    split
    · exact rq_tl h1
    · exact rq_cn (rq_hdS h1) (rq_tl (rq_tl h1))
  rw [if_neg c3]
  by_cases c4 : e.1 = 30
  · rw [if_pos c4]; exact ⟨rq_tl h1, h2⟩
  rw [if_neg c4]
  by_cases c5 : e.1 = 3
  · rw [if_pos c5]
    refine ⟨rq_cn ?_ (rq_tl h1), h2⟩
    have := rq_hdS h1
    unfold cm_sm at *; omega
  rw [if_neg c5]
  by_cases c6 : e.1 < 10
  · rw [if_pos c6]; exact ⟨rq_cn (cm_arS (rq_hdS (rq_tl h1))) (rq_tl (rq_tl h1)), h2⟩
  rw [if_neg c6]
  by_cases c7 : e.1 < 20
  · rw [if_pos c7]
    refine ⟨rq_tl (rq_tl h1), rq_cn ?_ h2⟩
    unfold lf_b
    split
    · exact Or.inr rfl
    · exact Or.inl rfl
  rw [if_neg c7]
  have t1 := rq_hdT h2
  have t2 := rq_hdT (rq_tl h2)
  by_cases c8 : e.1 = 20
  · rw [if_pos c8]; exact ⟨h1, rq_cn (by omega) (rq_tl h2)⟩
  rw [if_neg c8]
  by_cases c9 : e.1 = 21
  · rw [if_pos c9]; exact ⟨h1, rq_cn (cm_2b (Or.inl rfl) t1 t2) (rq_tl (rq_tl h2))⟩
  · rw [if_neg c9]; exact ⟨h1, rq_cn (cm_2b (Or.inr rfl) t1 t2) (rq_tl (rq_tl h2))⟩
theorem rq_okS : ∀ o : List (Int × Int), rq_ok M N L0 m o → rq_sm (rv N L0 m o) := by
  intro o
  induction o with
  | nil => intro _; exact ⟨fun x hx => (by cases hx), fun x hx => (by cases hx)⟩
  | cons e o ih =>
    intro h
    rcases h with h | h
    · have : rv N L0 m (e :: o) = ([], [], L0) := if_pos (by omega)
      rw [this]
      exact ⟨fun x hx => (by cases hx), fun x hx => (by cases hx)⟩
    · rw [rv_c h.1]
      exact rq_smS (ih h.1) h.2
end RV
/-! the list machine's readings, with what they are worth -/
section LQ
variable {f g : Int → Int} {n law b c c2 c3 k j x : Int} {P P2 P3 Q : ln_P} {o o2 o3 o5 : List (Int × Int)} {M N L0 e : Int → Int} {m : Nat} {s t u : ln_T} {R R1 R5 : rq_R}
def lo_go (f : Int → Int) (n law : Int) : Nat → ln_T → ln_T → Prop
  | 0, s, t => s = t
  | k + 1, s, t => ∃ u : ln_T, lo_sp f n law s = .inr u ∧ lo_go f n law k u t
def lq_R (f : Int → Int) (n law : Int) (s t : ln_T) : Prop := ∃ k : Nat, lo_go f n law k s t
theorem lq_Rr : lq_R f n law s s := ⟨0, rfl⟩
theorem lq_R1 (h : lo_sp f n law s = .inr t) (g : lq_R f n law t u) : lq_R f n law s u := by
  obtain ⟨k, hk⟩ := g
  exact ⟨k + 1, t, h, hk⟩
theorem lo_goA : ∀ (a d : Nat) (s : ln_T), lo_go f n law a s t → lo_go f n law d t u → lo_go f n law (a + d) s u := by
  intro a
  induction a with
  | zero => intro d s h g; have h : s = t := h; rw [h, Nat.zero_add]; exact g
  | succ a ih =>
    intro d s h g
    obtain ⟨y, h1, h2⟩ := h
    rw [show a + 1 + d = (a + d) + 1 by omega]
    exact ⟨y, h1, ih d y h2 g⟩
theorem lq_Rt (h : lq_R f n law s t) (g : lq_R f n law t u) : lq_R f n law s u := by
  obtain ⟨a, ha⟩ := h
  obtain ⟨d, hd⟩ := g
  exact ⟨a + d, lo_goA a d s ha hd⟩
/-- two runs that have ended are one -/
theorem lo_det {v w : Int × Int} : ∀ (a d : Nat) (s : ln_T), lo_go f n law a s t → lo_sp f n law t = .inl v → lo_go f n law d s u → lo_sp f n law u = .inl w → t = u := by
  intro a
  induction a with
  | zero =>
    intro d s h ht g hu
    have h : s = t := h
    cases d with
    | zero => have g : s = u := g; rw [← h, ← g]
    | succ d => obtain ⟨y, g1, _⟩ := g; rw [h, ht] at g1; cases g1
  | succ a ih =>
    intro d s h ht g hu
    obtain ⟨y, h1, h2⟩ := h
    cases d with
    | zero => have g : s = u := g; rw [g, hu] at h1; cases h1
    | succ d =>
      obtain ⟨z, g1, g2⟩ := g
      rw [h1] at g1
      have e : y = z := by injection g1
      subst e
      exact ih d y h2 ht g2 hu
/-- a reading that has no fault: what stands behind it -/
def lq_L (f : Int → Int) (n law : Int) (C : ln_P → List (Int × Int) → Int → Prop) (s : ln_T) (r : Int × Int) : Prop := r.1 = 0 → ∃ (P2 : ln_P) (o2 : List (Int × Int)) (c2 : Int), C P2 o2 c2 ∧ lq_R f n law s (P2, o2, c2, true, r.2)
variable {C C' : ln_P → List (Int × Int) → Int → Prop} {r : Int × Int}
theorem lq_Lw (h : lq_L f n law C s r) (w : ∀ P2 o2 c2, C P2 o2 c2 → C' P2 o2 c2) : lq_L f n law C' s r := fun z => by
  obtain ⟨P2, o2, c2, a, d⟩ := h z
  exact ⟨P2, o2, c2, w _ _ _ a, d⟩
theorem lq_L1 (h : lo_sp f n law s = .inr t) (a : lq_L f n law C t r) : lq_L f n law C s r := fun z => by
  obtain ⟨P2, o2, c2, a1, a2⟩ := a z
  exact ⟨P2, o2, c2, a1, lq_R1 h a2⟩
theorem lq_Lbd {g : Int → Int × Int} (a : lq_L f n law C s r) (k : ∀ P2 o2 c2, C P2 o2 c2 → lq_L f n law C' (P2, o2, c2, true, r.2) (g r.2)) : lq_L f n law C' s (ds_bd r g) := fun z => by
  obtain ⟨z1, z2⟩ := ds_bdZ z
  obtain ⟨P2, o2, c2, a1, a2⟩ := a z1
  obtain ⟨P3, o3, c3, d1, d2⟩ := k P2 o2 c2 a1 z2
  refine ⟨P3, o3, c3, d1, ?_⟩
  rw [ds_bd0 z1]
  exact lq_Rt a2 d2
/-- what must stand when a reading begins: letters are worth e -/
def lq_i (M N L0 : Int → Int) (m : Nat) (P : ln_P) (o : List (Int × Int)) (c : Int) (e : Int → Int) : Prop := rq_P c P ∧ rq_ok M N L0 m o ∧ 0 ≤ c ∧ ∀ x : Int, 0 ≤ x → x < 26 → ln_g P x ≠ -1 → (0 ≤ ln_g P x ∧ ln_g P x < c) ∧ (rv N L0 m o).2.2 (ln_g P x) = e x ∧ cm_sm (e x)
/-- what stands behind it: R, but that signs wait from rank k on -/
def lq_C (M N L0 : Int → Int) (m : Nat) (k : Int) (P : ln_P) (c : Int) (R : rq_R) (P2 : ln_P) (o2 : List (Int × Int)) (c2 : Int) : Prop := ln_st k P2 = ln_st k P ∧ c ≤ c2 ∧ rq_ok M N L0 m o2 ∧ rq_P c2 P2 ∧ rq_E c (rq_fl N k P R) (rq_fl N k P2 (rv N L0 m o2))
abbrev rq_n (v : Int) (R : rq_R) : rq_R := (v :: R.1, R.2)
abbrev rq_t (v : Int) (R : rq_R) : rq_R := (R.1, v :: R.2.1, R.2.2)
theorem rq_nE {v : Int} {S : rq_R} (h : rq_E c R S) : rq_E c (rq_n v R) (rq_n v S) := ⟨by show v :: S.1 = v :: R.1; rw [h.1], h.2⟩
theorem rq_tE {v : Int} {S : rq_R} (h : rq_E c R S) : rq_E c (rq_t v R) (rq_t v S) := ⟨h.1, by show v :: S.2.1 = v :: R.2.1; rw [h.2.1], h.2.2⟩
theorem lq_CC (hjk : j ≤ k) (hP : rq_P c P) (h : lq_C M N L0 m k P c R P2 o2 c2) : lq_C M N L0 m j P c R P2 o2 c2 := by
  obtain ⟨h1, h2, h3, h4, h5⟩ := h
  refine ⟨?_, h2, h3, h4, ?_⟩
  · rw [← ln_stst hjk P2, ← ln_stst hjk P, h1]
  · rw [rq_flfl hjk P, rq_flfl hjk P2, h1]
    exact rq_Efl j _ _ _ (rq_Ps hP) h5
/-- the pile of the machine without output -/
theorem lq_lm (h : ln_st k P2 = ln_st k P) : lm_C k (ln_e P) (ln_e P2) := by
  unfold lm_C
  rw [← ln_eS, ← ln_eS, h]
theorem lq_hg : ∀ {P : ln_P}, rq_P c P → (ln_g P x ≠ -1 ↔ lm_g (ln_e P) x ≠ -1) := by
  intro P
  induction P with
  | nil => intro _; exact Iff.rfl
  | cons y P ih =>
    intro h
    have i := ih (rq_Pt h)
    show (if y.1 = 45 then ds_u1 (ln_g P) y.2.1 y.2.2 else ln_g P) x ≠ -1 ↔ (if y.1 = 45 then ds_u1 (lm_g (ln_e P)) y.2.1 (ds_sl (1 + lm_dp (ln_e P))) else lm_g (ln_e P)) x ≠ -1
    by_cases q : y.1 = 45
    · rw [if_pos q, if_pos q]
      unfold ds_u1
      by_cases w : x = y.2.1
      · rw [if_pos w, if_pos w]
        have := (h y List.mem_cons_self).2 q
        have s0 : 0 ≤ ds_sl (1 + lm_dp (ln_e P)) := by unfold ds_sl; omega
        exact ⟨fun _ => by omega, fun _ => by omega⟩
      · rw [if_neg w, if_neg w]; exact i
    · rw [if_neg q, if_neg q]; exact i
/-- written, nothing waits from rank 7 on -/
theorem lq_fin (hQ : rq_P c2 Q) (h : rq_ok M N L0 m o5) (hc : c ≤ c2) (hE : rq_E c R5 (rv N L0 m o5)) : lq_C M N L0 m 7 Q c R5 (ln_st 7 Q) (ln_so 7 Q o5) c2 := by
  obtain ⟨a1, a2⟩ := rv_so (k := 7) (by decide) Q o5 hQ h
  refine ⟨ln_stst (Int.le_refl 7) Q, hc, a1, rq_Ps hQ, ?_⟩
  rw [rq_fl0 (ln_stst (Int.le_refl 7) Q), a2]
  exact rq_Efl 7 _ _ _ hQ hE
/-- a sign x has been put down; then a reading -/
theorem lq_op {F : rq_R → rq_R} {S : rq_R} (hkj : k ≤ j) (hx : k ≤ lm_rk x) (hxo : 3 ≤ x ∧ x ≠ 30 ∧ x ≠ 31) (hx45 : x ≠ 45) (hP : rq_P c P) (hc : c ≤ c2) (hF : rq_E c (F R1) (F S)) (h3 : lq_C M N L0 m j ((x, 0, 0) :: P) c2 (F S) P3 o3 c3) (hR : R = rq_st N (x, 0) (F R1)) : lq_C M N L0 m k P c R P3 o3 c3 := by
  obtain ⟨h1, h2, h4, h5, h6⟩ := h3
  have hP' : rq_P c2 ((x, 0, 0) :: P) := rq_Pc (rq_Pw hP hc) hxo (fun q => absurd q hx45)
  have top : ∀ S : rq_R, rq_fl N k ((x, 0, 0) :: P) S = rq_fl N k P (rq_st N (x, 0) S) := fun S => if_pos hx
  refine ⟨?_, by omega, h4, h5, ?_⟩
  · rw [← ln_stst hkj P3, h1, ln_stst hkj]
    exact if_pos hx
  · have a := rq_Ew (rq_Efl (N := N) k _ _ _ (rq_Ps (k := j) hP') h6) hc
    rw [← h1, ← rq_flfl hkj, h1, ← rq_flfl hkj, top] at a
    rw [hR]
    exact rq_Et (rq_Efl k _ _ _ hP (rq_Est hF hxo)) a
/-- what waits is written ahead of a sign of rank k -/
theorem lq_so (hk : 1 ≤ k) (hP : ln_st k P = P) (h : lq_C M N L0 m k P c R P2 o2 c2) : ln_st k P2 = P ∧ rq_ok M N L0 m (ln_so k P2 o2) ∧ rq_E c R (rv N L0 m (ln_so k P2 o2)) := by
  obtain ⟨h1, h2, h3, h4, h5⟩ := h
  obtain ⟨a1, a2⟩ := rv_so (M := M) (N := N) (L0 := L0) (m := m) hk P2 o2 h4 h3
  rw [rq_fl0 hP] at h5
  exact ⟨h1.trans hP, a1, by rw [a2]; exact h5⟩
theorem lq_iw {P' : ln_P} {o' : List (Int × Int)} (h : lq_i M N L0 m P o c e) (hc : c ≤ c2) (h1 : rq_ok M N L0 m o') (h2 : rq_P c2 P') (h3 : ln_g P' = ln_g P) (h4 : ∀ i : Int, i < c → (rv N L0 m o').2.2 i = (rv N L0 m o).2.2 i) : lq_i M N L0 m P' o' c2 e := by
  obtain ⟨a1, a2, a3, a4⟩ := h
  refine ⟨h2, h1, by omega, fun x x0 x1 hx => ?_⟩
  rw [h3] at hx ⊢
  obtain ⟨b1, b2, b3⟩ := a4 x x0 x1 hx
  exact ⟨⟨b1.1, by omega⟩, (h4 _ b1.2).trans b2, b3⟩
/-- a loop over what binds -/
theorem lq_lp {ok : Int → Bool} {G : Int → Int × Int} {VG : Int → Int} {D : Int → ln_P → List (Int × Int) → Int → Prop}
    (hO : ∀ (v : Int) (P2 : ln_P) (o2 : List (Int × Int)) (c2 b : Int), D v P2 o2 c2 → ok (lx_T f n b) = true → lq_L f n law (D (cm_2 (lx_T f n b) v (VG (ds_ad f n b)))) (P2, o2, c2, true, b) (G (ds_ad f n b))) :
    ∀ (K : Nat) (b v : Int) (P2 : ln_P) (o2 : List (Int × Int)) (c2 : Int), D v P2 o2 c2 → lq_L f n law (D (dv_lp f n ok G VG cm_2 K b v)) (P2, o2, c2, true, b) (ds_lp f n ok G K b) := by
  intro K
  induction K with
  | zero => intro b v P2 o2 c2 h _; exact ⟨P2, o2, c2, h, lq_Rr⟩
  | succ K ih =>
    intro b v P2 o2 c2 h
    show lq_L f n law (D (if ok (lx_T f n b) = true then dv_lp f n ok G VG cm_2 K (G (ds_ad f n b)).2 (cm_2 (lx_T f n b) v (VG (ds_ad f n b))) else v)) (P2, o2, c2, true, b) (if ok (lx_T f n b) = true then ds_bd (G (ds_ad f n b)) (ds_lp f n ok G K) else (0, b))
    by_cases q : ok (lx_T f n b) = true
    · rw [if_pos q, if_pos q]
      exact lq_Lbd (hO v P2 o2 c2 b h q) (fun P3 o3 c3 h3 => ih _ _ P3 o3 c3 h3)
    · rw [if_neg q, if_neg q]
      exact fun _ => ⟨P2, o2, c2, h, lq_Rr⟩
/-- behind one, a sign between two -/
theorem lq_bt {t : Int} (h : lm_bt (lx_T f n b) (ln_e P2) = t) (h0 : 0 ≤ t) : lo_sp f n law (P2, o2, c2, true, b) = .inr ((t, 0, 0) :: ln_st (lm_rk t) P2, ln_so (lm_rk t) P2 o2, c2, false, ds_ad f n b) := by
  show lo_bh f n P2 o2 c2 b = _
  unfold lo_bh
  rw [h, if_pos h0]
abbrev lq_M1 (f : Int → Int) (n law : Int) (M N L0 : Int → Int) (m : Nat) (O : ds_D) (V : dv_D) : Prop := ∀ (P : ln_P) (o : List (Int × Int)) (c b : Int) (e : Int → Int), lq_i M N L0 m P o c e → (lx_T f n b ≠ 44 ∨ lm_ah (ln_e P) = false) → lq_L f n law (lq_C M N L0 m 7 P c (rq_n (V (lm_dp (ln_e P)) (lm_g (ln_e P)) e b) (rv N L0 m o))) (P, o, c, false, b) (O (lm_dp (ln_e P)) (lm_g (ln_e P)) b)
abbrev lq_M2 (f : Int → Int) (n law : Int) (M N L0 : Int → Int) (m : Nat) (O : ds_D) (V : dv_D) : Prop := ∀ (P : ln_P) (o : List (Int × Int)) (c b : Int) (e : Int → Int), lq_i M N L0 m P o c e → ln_st 6 P = P → (lx_T f n b ≠ 44 ∨ lm_ah (ln_e P) = false) → lq_L f n law (lq_C M N L0 m 6 P c (rq_n (V (lm_dp (ln_e P)) (lm_g (ln_e P)) e b) (rv N L0 m o))) (P, o, c, false, b) (O (lm_dp (ln_e P)) (lm_g (ln_e P)) b)
abbrev lq_M3 (f : Int → Int) (n law : Int) (M N L0 : Int → Int) (m : Nat) (O : ds_D) (V : dv_D) : Prop := ∀ (P : ln_P) (o : List (Int × Int)) (c b : Int) (e : Int → Int), lq_i M N L0 m P o c e → ln_st 5 P = P → (lx_T f n b ≠ 44 ∨ lm_ah (ln_e P) = false) → lq_L f n law (lq_C M N L0 m 5 P c (rq_n (V (lm_dp (ln_e P)) (lm_g (ln_e P)) e b) (rv N L0 m o))) (P, o, c, false, b) (O (lm_dp (ln_e P)) (lm_g (ln_e P)) b)
theorem lq_sgd {x v w : Int} (h : ¬ 40 ≤ x) (h3 : x ≠ 3) (h20 : x ≠ 20) : lm_dp (ln_e ((x, v, w) :: P)) = lm_dp (ln_e P) ∧ lm_g (ln_e ((x, v, w) :: P)) = lm_g (ln_e P) ∧ lm_op (ln_e ((x, v, w) :: P)) = lm_op (ln_e P) ∧ ln_g ((x, v, w) :: P) = ln_g P := by
  obtain ⟨a1, a2, a3⟩ := lm_sgd (P := ln_e P) (v := v) h h3 h20
  exact ⟨a1, a2, a3, if_neg (show ¬ x = 45 by omega)⟩
theorem rq_ar {t v w : Int} (h : 10 ≤ t ∧ t ≤ 13) : rq_n (cm_2 t v w) R = rq_st N (t - 6, 0) (rq_n w (rq_n v R)) := by
  unfold rq_st cm_2
  dsimp only
  rw [if_neg (show ¬ t - 6 = 0 by omega), if_neg (show ¬ t - 6 = 1 by omega), if_neg (show ¬ (t - 6 ≤ 1 ∨ t - 6 = 31) by omega), if_neg (show ¬ t - 6 = 2 by omega), if_neg (show ¬ t - 6 = 30 by omega), if_neg (show ¬ t - 6 = 3 by omega), if_pos (show t - 6 < 10 by omega), if_neg (show ¬ t = 45 by omega), if_neg (show ¬ t = 46 by omega), if_pos h.1, show t - 6 + 6 = t by omega]
  rfl
theorem rq_cmp {t v w : Int} (h : 4 ≤ t ∧ t ≤ 9) : rq_t (lf_b (cm_cp t v w)) R = rq_st N (6 + t, 0) (rq_n w (rq_n v R)) := by
  unfold rq_st
  dsimp only
  rw [if_neg (show ¬ 6 + t = 0 by omega), if_neg (show ¬ 6 + t = 1 by omega), if_neg (show ¬ (6 + t ≤ 1 ∨ 6 + t = 31) by omega), if_neg (show ¬ 6 + t = 2 by omega), if_neg (show ¬ 6 + t = 30 by omega), if_neg (show ¬ 6 + t = 3 by omega), if_neg (show ¬ 6 + t < 10 by omega), if_pos (show 6 + t < 20 by omega), show 6 + t - 6 = t by omega]
  rfl
theorem rq_bo {x t v w : Int} (h : x = 21 ∧ t = 45 ∨ x = 22 ∧ t = 46) : rq_t (cm_2 t v w) R = rq_st N (x, 0) (rq_t w (rq_t v R)) := by
  rcases h with ⟨h, g⟩ | ⟨h, g⟩ <;> subst h <;> subst g <;> rfl
/-- a loop of numbers at rank k -/
theorem lq_num {O : ds_D} {V : dv_D} {ok : Int → Bool} {K : Nat} (hk : 1 ≤ k) (hkj : k ≤ j) (hok : ∀ t : Int, ok t = true → (10 ≤ t ∧ t ≤ 13) ∧ lm_rk (t - 6) = k) (hi : lq_i M N L0 m P o c e) (hP : ln_st k P = P)
    (h1 : lq_L f n law (lq_C M N L0 m j P c (rq_n (V (lm_dp (ln_e P)) (lm_g (ln_e P)) e b) (rv N L0 m o))) (P, o, c, false, b) (O (lm_dp (ln_e P)) (lm_g (ln_e P)) b))
    (h2 : ∀ (x : Int) (o' : List (Int × Int)) (c2 b : Int), lm_rk x = k → 4 ≤ x → x ≤ 7 → lq_i M N L0 m ((x, 0, 0) :: P) o' c2 e → lq_L f n law (lq_C M N L0 m j ((x, 0, 0) :: P) c2 (rq_n (V (lm_dp (ln_e P)) (lm_g (ln_e P)) e b) (rv N L0 m o'))) ((x, 0, 0) :: P, o', c2, false, b) (O (lm_dp (ln_e P)) (lm_g (ln_e P)) b)) :
    lq_L f n law (lq_C M N L0 m k P c (rq_n (dv_lp f n ok (O (lm_dp (ln_e P)) (lm_g (ln_e P))) (V (lm_dp (ln_e P)) (lm_g (ln_e P)) e) cm_2 K (O (lm_dp (ln_e P)) (lm_g (ln_e P)) b).2 (V (lm_dp (ln_e P)) (lm_g (ln_e P)) e b)) (rv N L0 m o))) (P, o, c, false, b) (ds_bd (O (lm_dp (ln_e P)) (lm_g (ln_e P)) b) (ds_lp f n ok (O (lm_dp (ln_e P)) (lm_g (ln_e P))) K)) := by
  refine lq_Lbd (lq_Lw h1 (fun P2 o2 c2 a => lq_CC hkj hi.1 a)) (fun P2 o2 c2 hC => lq_lp (D := fun v => lq_C M N L0 m k P c (rq_n v (rv N L0 m o))) (fun v P2 o2 c2 b' hD ht => ?_) K _ _ P2 o2 c2 hC)
  obtain ⟨t1, t2⟩ := hok _ ht
  obtain ⟨s1, s2, s3⟩ := lq_so hk hP hD
  have hbt : lm_bt (lx_T f n b') (ln_e P2) = lx_T f n b' - 6 := by
    unfold lm_bt
    rcases (show lx_T f n b' = 10 ∨ lx_T f n b' = 11 ∨ lx_T f n b' = 12 ∨ lx_T f n b' = 13 by omega) with q | q | q | q <;> rw [q] <;> rfl
  refine lq_L1 (lq_bt hbt (by omega)) ?_
  rw [t2, s1]
  obtain ⟨d1, d2, d3, d4⟩ := lq_sgd (P := P) (x := lx_T f n b' - 6) (v := 0) (w := 0) (by omega) (by omega) (by omega)
  have inner := h2 (lx_T f n b' - 6) (ln_so k P2 o2) c2 (ds_ad f n b') t2 (by omega) (by omega) (lq_iw hi hD.2.1 s2 (rq_Pc (rq_Pw hi.1 hD.2.1) (by dsimp only; omega) (fun q => by dsimp only at q; omega)) d4 (fun i hi => s3.2.2 i hi))
  exact lq_Lw inner (fun P3 o3 c3 h3 => lq_op (F := rq_n (V (lm_dp (ln_e P)) (lm_g (ln_e P)) e (ds_ad f n b'))) hkj (by omega) (by omega) (by omega) hi.1 hD.2.1 (rq_nE s3) h3 (rq_ar t1))
theorem lq_p2 {O : ds_D} {V : dv_D} (h1 : lq_M1 f n law M N L0 m O V) : lq_M2 f n law M N L0 m (fun d g b => ds_bd (O d g b) (ds_lp f n ds_td (O d g) 300)) (fun d g e b => dv_lp f n ds_td (O d g) (V d g e) cm_2 300 (O d g b).2 (V d g e b)) := fun P o c b e hi hP hs => by
  refine lq_num (k := 6) (j := 7) (by decide) (by decide) (fun t ht => ?_) hi hP (h1 P o c b e hi hs) (fun x o' c2 b hx h4 h7 hi' => ?_)
  · rcases lm_tdc ht with h | h <;> subst h <;> decide
  · obtain ⟨d1, d2, _⟩ := lq_sgd (P := P) (x := x) (v := 0) (w := 0) (by omega) (by omega) (by omega)
    have a := h1 ((x, 0, 0) :: P) o' c2 b e hi' (Or.inr (lm_ahs (Or.inr (by show 4 ≤ lm_rk x; omega))))
    rw [d1, d2] at a
    exact a
theorem lq_p3 {O : ds_D} {V : dv_D} (h1 : lq_M2 f n law M N L0 m O V) : lq_M3 f n law M N L0 m (fun d g b => ds_bd (O d g b) (ds_lp f n ds_pm (O d g) 300)) (fun d g e b => dv_lp f n ds_pm (O d g) (V d g e) cm_2 300 (O d g b).2 (V d g e b)) := fun P o c b e hi hP hs => by
  refine lq_num (k := 5) (j := 6) (by decide) (by decide) (fun t ht => ?_) hi hP (h1 P o c b e hi (ln_stj (k := 5) (by decide) hP) hs) (fun x o' c2 b hx h4 h7 hi' => ?_)
  · rcases lm_pmc ht with h | h <;> subst h <;> decide
  · obtain ⟨d1, d2, _⟩ := lq_sgd (P := P) (x := x) (v := 0) (w := 0) (by omega) (by omega) (by omega)
    have a := h1 ((x, 0, 0) :: P) o' c2 b e hi' (if_neg (by dsimp only; omega)) (Or.inr (lm_ahs (Or.inr (by show 4 ≤ lm_rk x; omega))))
    rw [d1, d2] at a
    exact a
/-! asks -/
def lq_A (M N L0 : Int → Int) (m : Nat) (k : Int) (P : ln_P) (c : Int) (R : rq_R) (P2 : ln_P) (o2 : List (Int × Int)) (c2 : Int) : Prop := lq_C M N L0 m k P c R P2 o2 c2 ∧ lm_cp (ln_e P2) = true
abbrev lq_M4 (f : Int → Int) (n law : Int) (M N L0 : Int → Int) (m : Nat) (O : ds_D) (V : dv_D) : Prop := ∀ (P : ln_P) (o : List (Int × Int)) (c b : Int) (e : Int → Int), lq_i M N L0 m P o c e → lm_ah (ln_e P) = true → lq_L f n law (lq_A M N L0 m 3 P c (rq_t (V (lm_dp (ln_e P)) (lm_g (ln_e P)) e b) (rv N L0 m o))) (P, o, c, false, b) (O (lm_dp (ln_e P)) (lm_g (ln_e P)) b)
abbrev lq_M5 (f : Int → Int) (n law : Int) (M N L0 : Int → Int) (m : Nat) (O : ds_D) (V : dv_D) : Prop := ∀ (P : ln_P) (o : List (Int × Int)) (c b : Int) (e : Int → Int), lq_i M N L0 m P o c e → ln_st 2 P = P → lm_op (ln_e P) = 41 → lq_L f n law (lq_A M N L0 m 2 P c (rq_t (V (lm_dp (ln_e P)) (lm_g (ln_e P)) e b) (rv N L0 m o))) (P, o, c, false, b) (O (lm_dp (ln_e P)) (lm_g (ln_e P)) b)
abbrev lq_M6 (f : Int → Int) (n law : Int) (M N L0 : Int → Int) (m : Nat) (O : ds_D) (V : dv_D) : Prop := ∀ (P : ln_P) (o : List (Int × Int)) (c b : Int) (e : Int → Int), lq_i M N L0 m P o c e → ln_st 1 P = P → lm_op (ln_e P) = 41 → lq_L f n law (lq_A M N L0 m 1 P c (rq_t (V (lm_dp (ln_e P)) (lm_g (ln_e P)) e b) (rv N L0 m o))) (P, o, c, false, b) (O (lm_dp (ln_e P)) (lm_g (ln_e P)) b)
theorem lq_stE (h : ln_st k P = P) : lm_st k (ln_e P) = ln_e P := by rw [← ln_eS, h]
/-- a loop of truths at rank k -/
theorem lq_tru {O : ds_D} {V : dv_D} {w : Int} {K : Nat} (hk : 1 ≤ k) (hkj : k ≤ j) (hw : x = 21 ∧ w = 45 ∨ x = 22 ∧ w = 46) (hx : lm_rk x = k) (hi : lq_i M N L0 m P o c e) (hP : ln_st k P = P) (ho : lm_op (ln_e P) = 41)
    (h1 : lq_L f n law (lq_A M N L0 m j P c (rq_t (V (lm_dp (ln_e P)) (lm_g (ln_e P)) e b) (rv N L0 m o))) (P, o, c, false, b) (O (lm_dp (ln_e P)) (lm_g (ln_e P)) b))
    (h2 : ∀ (o' : List (Int × Int)) (c2 b : Int), lq_i M N L0 m ((x, 0, 0) :: P) o' c2 e → lq_L f n law (lq_A M N L0 m j ((x, 0, 0) :: P) c2 (rq_t (V (lm_dp (ln_e P)) (lm_g (ln_e P)) e b) (rv N L0 m o'))) ((x, 0, 0) :: P, o', c2, false, b) (O (lm_dp (ln_e P)) (lm_g (ln_e P)) b)) :
    lq_L f n law (lq_A M N L0 m k P c (rq_t (dv_lp f n (ds_is w) (O (lm_dp (ln_e P)) (lm_g (ln_e P))) (V (lm_dp (ln_e P)) (lm_g (ln_e P)) e) cm_2 K (O (lm_dp (ln_e P)) (lm_g (ln_e P)) b).2 (V (lm_dp (ln_e P)) (lm_g (ln_e P)) e b)) (rv N L0 m o))) (P, o, c, false, b) (ds_bd (O (lm_dp (ln_e P)) (lm_g (ln_e P)) b) (ds_lp f n (ds_is w) (O (lm_dp (ln_e P)) (lm_g (ln_e P))) K)) := by
  refine lq_Lbd (lq_Lw h1 (fun P2 o2 c2 a => (⟨lq_CC hkj hi.1 a.1, a.2⟩ : lq_A M N L0 m k P c _ P2 o2 c2))) (fun P2 o2 c2 hC => lq_lp (D := fun v => lq_A M N L0 m k P c (rq_t v (rv N L0 m o))) (fun v P2 o2 c2 b' hD ht => ?_) K _ _ P2 o2 c2 hC)
  have t1 := lm_isc ht
  obtain ⟨hD, hcp⟩ := hD
  obtain ⟨s1, s2, s3⟩ := lq_so hk hP hD
  have op2 : lm_op (ln_e P2) = 41 := (lm_Cop hk (lq_lm hD.1)).trans ho
  have hbt : lm_bt (lx_T f n b') (ln_e P2) = x := by
    rw [t1]
    unfold lm_bt
    rcases hw with ⟨q1, q2⟩ | ⟨q1, q2⟩ <;> subst q1 <;> subst q2 <;> rw [op2, hcp] <;> rfl
  refine lq_L1 (lq_bt hbt (by omega)) ?_
  rw [hx, s1]
  obtain ⟨d1, d2, d3, d4⟩ := lq_sgd (P := P) (x := x) (v := 0) (w := 0) (by omega) (by omega) (by omega)
  have inner := h2 (ln_so k P2 o2) c2 (ds_ad f n b') (lq_iw hi hD.2.1 s2 (rq_Pc (rq_Pw hi.1 hD.2.1) (by dsimp only; omega) (fun q => by dsimp only at q; omega)) d4 (fun i hi => s3.2.2 i hi))
  rw [t1]
  exact lq_Lw inner (fun P3 o3 c3 h3 => ⟨lq_op (F := rq_t (V (lm_dp (ln_e P)) (lm_g (ln_e P)) e (ds_ad f n b'))) hkj (by omega) (by omega) (by omega) hi.1 hD.2.1 (rq_tE s3) h3.1 (rq_bo hw), h3.2⟩)
theorem lq_p5 {O : ds_D} {V : dv_D} (h1 : lq_M4 f n law M N L0 m O V) : lq_M5 f n law M N L0 m (fun d g b => ds_bd (O d g b) (ds_lp f n (ds_is 45) (O d g) 300)) (fun d g e b => dv_lp f n (ds_is 45) (O d g) (V d g e) cm_2 300 (O d g b).2 (V d g e b)) := fun P o c b e hi hP ho => by
  refine lq_tru (k := 2) (j := 3) (x := 21) (by decide) (by decide) (Or.inl ⟨rfl, rfl⟩) (by decide) hi hP ho (h1 P o c b e hi (lm_ahm (k := 2) (by decide) (lq_stE hP) ho)) (fun o' c2 b hi' => ?_)
  obtain ⟨d1, d2, d3, _⟩ := lq_sgd (P := P) (x := 21) (v := 0) (w := 0) (by decide) (by decide) (by decide)
  have a := h1 ((21, 0, 0) :: P) o' c2 b e hi' (lm_ahm (k := 3) (by decide) (lq_stE (if_neg (by decide))) (d3.trans ho))
  rw [d1, d2] at a
  exact a
theorem lq_p6 {O : ds_D} {V : dv_D} (h1 : lq_M5 f n law M N L0 m O V) : lq_M6 f n law M N L0 m (fun d g b => ds_bd (O d g b) (ds_lp f n (ds_is 46) (O d g) 300)) (fun d g e b => dv_lp f n (ds_is 46) (O d g) (V d g e) cm_2 300 (O d g b).2 (V d g e b)) := fun P o c b e hi hP ho => by
  refine lq_tru (k := 1) (j := 2) (x := 22) (by decide) (by decide) (Or.inr ⟨rfl, rfl⟩) (by decide) hi hP ho (h1 P o c b e hi (ln_stj (k := 1) (by decide) hP) ho) (fun o' c2 b hi' => ?_)
  obtain ⟨d1, d2, d3, _⟩ := lq_sgd (P := P) (x := 22) (v := 0) (w := 0) (by decide) (by decide) (by decide)
  have a := h1 ((22, 0, 0) :: P) o' c2 b e hi' (if_neg (by decide)) (d3.trans ho)
  rw [d1, d2] at a
  exact a
theorem lq_en {K : Int → (Int × Int) ⊕ ln_T} {g : Int → Int × Int} (hs : lo_sp f n law (P, o, c, false, b) = lo_pu f n P b K) (hk : lm_dp (ln_e P) < 8 → lo_sp f n law (P, o, c, false, b) = K (ds_ad f n b) → lq_L f n law C (P, o, c, false, b) (g (ds_ad f n b))) : lq_L f n law C (P, o, c, false, b) (ds_en f n (lm_dp (ln_e P)) g b) := by
  unfold ds_en
  unfold lo_pu at hs
  by_cases q : lm_dp (ln_e P) < 8
  · rw [if_pos q] at hs ⊢; exact hk q hs
  · rw [if_neg q]; exact fun z => absurd z (show (3 : Int) ≠ 0 by decide)
theorem lq_ahst (h : lm_ah (ln_e P) = true) : ln_st 4 P = P := by
  obtain ⟨_, q⟩ := lm_ahtp h
  cases P with
  | nil => rfl
  | cons e P =>
    have : lm_rk e.1 ≤ 3 := by
      rcases q with q | q
      · have : e.1 = 41 := q
        rw [this]; decide
      · exact q.2
    exact if_neg (by omega)
theorem lq_ex {w : Int} {g : Int → Int × Int} (h : lx_T f n b = w → lq_L f n law C s (g (ds_ad f n b))) : lq_L f n law C s (ds_bd (ds_ex f n w b) g) := fun z => by
  obtain ⟨z1, z2⟩ := ds_bdZ z
  obtain ⟨a1, a2⟩ := ds_exZ z1
  rw [ds_bd0 z1, a2] at z ⊢
  exact h a1 z
theorem lq_p4 {S A : ds_D} {VS VA : dv_D} (hS : lq_M3 f n law M N L0 m S VS) (hA : lq_M4 f n law M N L0 m A VA) : lq_M4 f n law M N L0 m (ds_ask f n S A) (dv_ask f n S VS VA) := by
  intro P o c b e hi ha
  obtain ⟨ho, _⟩ := lm_ahtp ha
  have h4 := lq_ahst ha
  unfold ds_ask dv_ask
  by_cases q : lx_T f n b = 44
  · rw [if_pos q, if_pos q]
    have hs : lo_sp f n law (P, o, c, false, b) = lo_pu f n P b (fun q => .inr ((20, 0, 0) :: P, o, c, false, q)) := by
      show lo_be f n law P o c b = _
      unfold lo_be
      rw [if_neg (by omega), if_neg (by omega), if_neg (by omega), if_neg (by omega), if_neg (by omega), if_neg (by omega), if_pos ⟨q, ha⟩]
    refine lq_en hs (fun _ st => lq_L1 st ?_)
    have hi' : lq_i M N L0 m ((20, 0, 0) :: P) o c e := lq_iw hi (Int.le_refl c) hi.2.1 (rq_Pc hi.1 (by decide) (fun q => by cases q)) (if_neg (by decide)) (fun _ _ => rfl)
    have a := hA ((20, 0, 0) :: P) o c (ds_ad f n b) e hi' (lm_ahm (k := 4) (by decide) (lq_stE (P := (20, 0, 0) :: P) (if_neg (by decide))) ((if_neg (by decide)).trans ho))
    rw [show lm_dp (ln_e ((20, 0, 0) :: P)) = lm_dp (ln_e P) + 1 from lm_opn (by decide), show lm_g (ln_e ((20, 0, 0) :: P)) = lm_g (ln_e P) from if_neg (by decide)] at a
    exact lq_Lw a (fun P3 o3 c3 h3 => ⟨lq_op (F := rq_t (VA (lm_dp (ln_e P) + 1) (lm_g (ln_e P)) e (ds_ad f n b))) (R1 := rv N L0 m o) (Int.le_refl 3) (by decide) (by decide) (by decide) hi.1 (Int.le_refl c) rq_Er h3.1 rfl, h3.2⟩)
  · rw [if_neg q, if_neg q, ds_bdA]
    refine lq_Lbd (hS P o c b e hi (ln_stj (k := 4) (by decide) h4) (Or.inl q)) (fun P2 o2 c2 hC => ?_)
    generalize hb2 : (S (lm_dp (ln_e P)) (lm_g (ln_e P)) b).2 = b2
    have hC4 := lq_CC (j := 4) (by decide) hi.1 hC
    obtain ⟨s1, s2, s3⟩ := lq_so (by decide) h4 hC4
    have o2' : lm_op (ln_e P2) = 41 := (lm_Cop (by decide) (lq_lm hC.1)).trans ho
    have q2 : lm_cp (ln_e P2) = false := (lm_Ccp (by decide) (lq_lm hC.1)).trans (lm_ahcp ha)
    by_cases ct : 4 ≤ lx_T f n b2 ∧ lx_T f n b2 ≤ 9
    · rw [if_pos ct, ds_bd0 (r := ((0 : Int), ds_ad f n b2)) rfl]
      have hbt : lm_bt (lx_T f n b2) (ln_e P2) = 6 + lx_T f n b2 := by
        unfold lm_bt
        rw [if_neg (by omega), if_neg (by omega), if_neg (by omega), if_neg (by omega), if_neg (by rw [o2']; decide), if_pos q2, if_pos ct]
      have rk4 : lm_rk (6 + lx_T f n b2) = 4 := by
        unfold lm_rk
        rw [if_neg (by omega), if_neg (by omega), if_neg (by omega), if_neg (by omega), if_pos (by omega)]
      refine lq_L1 (lq_bt hbt (by omega)) ?_
      rw [rk4, s1]
      obtain ⟨d1, d2, _, d4⟩ := lq_sgd (P := P) (x := 6 + lx_T f n b2) (v := 0) (w := 0) (by omega) (by omega) (by omega)
      have hi' : lq_i M N L0 m ((6 + lx_T f n b2, 0, 0) :: P) (ln_so 4 P2 o2) c2 e := lq_iw hi hC.2.1 s2 (rq_Pc (rq_Pw hi.1 hC.2.1) (by dsimp only; omega) (fun q => by dsimp only at q; omega)) d4 (fun i hi => s3.2.2 i hi)
      have a := hS ((6 + lx_T f n b2, 0, 0) :: P) (ln_so 4 P2 o2) c2 (ds_ad f n b2) e hi' (if_neg (by dsimp only; omega)) (Or.inr (lm_ahs (Or.inr (by show 4 ≤ lm_rk (6 + lx_T f n b2); omega))))
      rw [d1, d2] at a
      refine lq_Lw a (fun P3 o3 c3 h3 => ⟨lq_op (F := rq_n (VS (lm_dp (ln_e P)) (lm_g (ln_e P)) e (ds_ad f n b2))) (by decide) (by omega) (by omega) (by omega) hi.1 hC.2.1 (rq_nE s3) h3 (rq_cmp ct), (lm_Ccp (by decide) (lq_lm h3.1)).trans ?_⟩)
      show (if 4 < lm_rk (6 + lx_T f n b2) then lm_cp (ln_e P) else decide (lm_rk (6 + lx_T f n b2) = 4)) = true
      rw [rk4]; rfl
    · rw [if_neg ct, ds_bdF (r := ((1 : Int), b2)) (show (1 : Int) ≠ 0 by decide)]
      exact fun z => absurd z (show (1 : Int) ≠ 0 by decide)
end LQ
/-! what is open: brackets, if, let; one; all readings, with what they are worth -/
section LQ2
variable {f g : Int → Int} {n law b c c2 c3 k j x : Int} {P P2 P3 Q : ln_P} {o o2 o3 o5 : List (Int × Int)} {M N L0 e : Int → Int} {m : Nat} {s t u : ln_T} {R R1 R5 S1 : rq_R} {C : ln_P → List (Int × Int) → Int → Prop}
theorem rq_E2 {y : Int} (h : rq_E c R S1) : rq_E c (rq_st N (2, y) R) (rq_st N (2, y) S1) := by
  obtain ⟨h1, h2, h3⟩ := h
  refine ⟨?_, ?_, h3⟩
  · show (if rq_hd S1.2.1 ≠ 0 then S1.1.tail else rq_hd S1.1 :: S1.1.tail.tail) = (if rq_hd R.2.1 ≠ 0 then R.1.tail else rq_hd R.1 :: R.1.tail.tail)
    rw [h1, h2]
  · show S1.2.1.tail = R.2.1.tail
    rw [h2]
/-- the pile with something open on it -/
theorem lq_io {w v : Int} (h : lq_i M N L0 m Q o c e) (hw : 40 ≤ w) (h45 : w ≠ 45) {o' : List (Int × Int)} (hc : c ≤ c2) (h1 : rq_ok M N L0 m o') (h4 : ∀ i : Int, i < c → (rv N L0 m o').2.2 i = (rv N L0 m o).2.2 i) : lq_i M N L0 m ((w, v, 0) :: Q) o' c2 e :=
  lq_iw h hc h1 (rq_Pc (rq_Pw h.1 hc) (by dsimp only; omega) (fun q => absurd q h45)) (if_neg h45) h4
theorem lq_o40 {w v y : Int} (hk : 1 ≤ k) (hw : 40 ≤ w) : ln_st k ((w, v, y) :: Q) = (w, v, y) :: Q := if_neg (by show ¬ k ≤ lm_rk w; rw [lm_rk0 hw]; omega)
/-- a sum that stands open on w -/
theorem lq_os {w v y : Int} (hk : 1 ≤ k) (hw : 40 ≤ w) (hP : rq_P c ((w, v, y) :: Q)) (h : lq_C M N L0 m k ((w, v, y) :: Q) c R P2 o2 c2) : ln_st 1 P2 = (w, v, y) :: Q ∧ rq_ok M N L0 m (ln_so 1 P2 o2) ∧ rq_E c R (rv N L0 m (ln_so 1 P2 o2)) ∧ lm_op (ln_e P2) = w := by
  obtain ⟨a1, a2, a3⟩ := lq_so (k := 1) (by decide) (lq_o40 (by decide) hw) (lq_CC hk hP h)
  exact ⟨a1, a2, a3, (lm_Cop hk (lq_lm h.1)).trans (if_pos hw)⟩
/-- a sum on what stands open -/
theorem lq_S {S : ds_D} {V : dv_D} {w v y : Int} (hS : lq_M3 f n law M N L0 m S V) (hw : 40 ≤ w) (h41 : w ≠ 41) (hi : lq_i M N L0 m ((w, v, y) :: Q) o c e) : lq_L f n law (lq_C M N L0 m 5 ((w, v, y) :: Q) c (rq_n (V (lm_dp (ln_e Q) + 1) (lm_g (ln_e ((w, v, y) :: Q))) e b) (rv N L0 m o))) ((w, v, y) :: Q, o, c, false, b) (S (lm_dp (ln_e Q) + 1) (lm_g (ln_e ((w, v, y) :: Q))) b) := by
  have a := hS ((w, v, y) :: Q) o c b e hi (lq_o40 (by decide) hw) (Or.inr (by unfold lm_ah; rw [show lm_op (ln_e ((w, v, y) :: Q)) = w from if_pos hw, decide_eq_false h41]; rfl))
  rw [show lm_dp (ln_e ((w, v, y) :: Q)) = lm_dp (ln_e Q) + 1 from lm_opn (Or.inr (Or.inr hw))] at a
  exact a
/-- the next part of what is open -/
theorem lq_xn {w v y p z : Int} (hs : ln_st 1 P2 = (w, v, y) :: Q) (hbt : lm_bt (lx_T f n b) (ln_e P2) = -1) (hpt : lm_pt (lx_T f n b) (ln_e P2) = p) (hp : 0 < p) (h45 : p ≠ 45) : lo_sp f n law (P2, o2, c2, true, b) = .inr ((p, v, 0) :: Q, ln_so 1 P2 o2, c2, false, ds_ad f n b) := by
  show lo_bh f n P2 o2 c2 b = _
  unfold lo_bh
  rw [hbt, hpt, if_neg (by decide), if_pos hp, if_neg h45, hs]
  rfl
theorem lq_xl {w v y : Int} (hs : ln_st 1 P2 = (w, v, y) :: Q) (hbt : lm_bt (lx_T f n b) (ln_e P2) = -1) (hpt : lm_pt (lx_T f n b) (ln_e P2) = 45) : lo_sp f n law (P2, o2, c2, true, b) = .inr ((45, v, c2) :: Q, (30, c2) :: ln_so 1 P2 o2, c2 + 1, false, ds_ad f n b) := by
  show lo_bh f n P2 o2 c2 b = _
  unfold lo_bh
  rw [hbt, hpt, if_neg (by decide), if_pos (by decide), if_pos rfl, hs]
  rfl
theorem lq_x0 {w v y : Int} (hs : ln_st 1 P2 = (w, v, y) :: Q) (hop : lm_op (ln_e P2) = w) (hbt : lm_bt (lx_T f n b) (ln_e P2) = -1) (hpt : lm_pt (lx_T f n b) (ln_e P2) = 0) : lo_sp f n law (P2, o2, c2, true, b) = .inr (ln_st 7 Q, ln_so 7 Q (if w = 43 then (2, 0) :: ln_so 1 P2 o2 else ln_so 1 P2 o2), c2, true, ds_ad f n b) := by
  show lo_bh f n P2 o2 c2 b = _
  unfold lo_bh
  rw [hbt, hpt, if_neg (by decide), if_neg (by decide), if_pos rfl, hs, hop]
  rfl
theorem lq_bn {t : Int} (h : t ≠ 10 ∧ t ≠ 11 ∧ t ≠ 12 ∧ t ≠ 13) (h2 : lm_op (ln_e P2) ≠ 41 ∨ (lm_cp (ln_e P2) = true ∧ t ≠ 45 ∧ t ≠ 46)) : lm_bt t (ln_e P2) = -1 := by
  unfold lm_bt
  rw [if_neg h.1, if_neg h.2.1, if_neg h.2.2.1, if_neg h.2.2.2]
  by_cases q : lm_op (ln_e P2) = 41
  · rcases h2 with h2 | h2
    · exact absurd q h2
    · rw [if_neg (fun d => d q), if_neg (by rw [h2.1]; decide), if_neg h2.2.1, if_neg h2.2.2]
  · rw [if_pos q]
theorem lq_pif {S E : ds_D} {VS VE : dv_D} (hS : lq_M3 f n law M N L0 m S VS) (hE : lq_M6 f n law M N L0 m E VE) (hi : lq_i M N L0 m Q o c e) : lq_L f n law (lq_C M N L0 m 7 Q c (rq_n (dv_if f n S E VS VE (lm_dp (ln_e Q) + 1) (lm_g (ln_e Q)) e b) (rv N L0 m o))) ((41, 0, 0) :: Q, o, c, false, b) (ds_if f n S E (lm_dp (ln_e Q) + 1) (lm_g (ln_e Q)) b) := by
  unfold ds_if dv_if
  simp only [ds_bdA]
  have hi1 := lq_io (w := 41) (v := 0) hi (by decide) (by decide) (Int.le_refl c) hi.2.1 (fun _ _ => rfl)
  have a := hE ((41, 0, 0) :: Q) o c b e hi1 (lq_o40 (by decide) (by decide)) (if_pos (by decide))
  rw [show lm_dp (ln_e ((41, 0, 0) :: Q)) = lm_dp (ln_e Q) + 1 from lm_opn (by decide), show lm_g (ln_e ((41, 0, 0) :: Q)) = lm_g (ln_e Q) from if_neg (by decide)] at a
  refine lq_Lbd a (fun P2 o2 c2 hC => lq_ex (fun T1 => ?_))
  obtain ⟨s1, s2, s3, s4⟩ := lq_os (k := 1) (by decide) (by decide) hi1.1 hC.1
  generalize (E (lm_dp (ln_e Q) + 1) (lm_g (ln_e Q)) b).2 = b1 at T1 ⊢
  have pt : lm_pt (lx_T f n b1) (ln_e P2) = 42 := by
    rw [T1]
    unfold lm_pt
    rw [s4, if_neg (by decide), if_pos rfl, if_pos ⟨rfl, hC.2⟩]
  refine lq_L1 (lq_xn (z := 0) s1 (lq_bn (by omega) (Or.inr ⟨hC.2, by omega, by omega⟩)) pt (by decide) (by decide)) ?_
  have hi2 := lq_io (w := 42) (v := 0) hi (by decide) (by decide) hC.1.2.1 s2 (fun i hi => s3.2.2 i hi)
  have a2 := lq_S (b := ds_ad f n b1) hS (by decide) (by decide) hi2
  rw [show lm_g (ln_e ((42, 0, 0) :: Q)) = lm_g (ln_e Q) from if_neg (by decide)] at a2
  refine lq_Lbd a2 (fun P3 o3 c3 hC3 => lq_ex (fun T2 => ?_))
  obtain ⟨r1, r2, r3, r4⟩ := lq_os (k := 5) (by decide) (by decide) hi2.1 hC3
  generalize (S (lm_dp (ln_e Q) + 1) (lm_g (ln_e Q)) (ds_ad f n b1)).2 = b2 at T2 ⊢
  have pt2 : lm_pt (lx_T f n b2) (ln_e P3) = 43 := by
    rw [T2]
    unfold lm_pt
    rw [r4, if_neg (by decide), if_neg (by decide), if_pos rfl, if_pos rfl]
  refine lq_L1 (lq_xn (z := 0) r1 (lq_bn (by omega) (Or.inl (by rw [r4]; decide))) pt2 (by decide) (by decide)) ?_
  have hi3 := lq_io (w := 43) (v := 0) hi (by decide) (by decide) (Int.le_trans hC.1.2.1 hC3.2.1) r2 (fun i hi => (r3.2.2 i (by have := hC.1.2.1; omega)).trans (s3.2.2 i hi))
  have a3 := lq_S (b := ds_ad f n b2) hS (by decide) (by decide) hi3
  rw [show lm_g (ln_e ((43, 0, 0) :: Q)) = lm_g (ln_e Q) from if_neg (by decide)] at a3
  refine lq_Lbd a3 (fun P4 o4 c4 hC4 z => ?_)
  obtain ⟨T3, ex⟩ := ds_exZ z
  obtain ⟨q1, q2, q3, q4⟩ := lq_os (k := 5) (by decide) (by decide) hi3.1 hC4
  rw [ex]
  generalize (S (lm_dp (ln_e Q) + 1) (lm_g (ln_e Q)) (ds_ad f n b2)).2 = b3 at T3 ⊢
  have pt3 : lm_pt (lx_T f n b3) (ln_e P4) = 0 := by
    rw [T3]
    unfold lm_pt
    rw [q4, if_neg (by decide), if_neg (by decide), if_neg (by decide), if_neg (by decide), if_neg (by decide), if_pos rfl]
  have st := lq_x0 (law := law) (o2 := o4) (c2 := c4) q1 q4 (lq_bn (by omega) (Or.inl (by rw [q4]; decide))) pt3
  rw [if_pos rfl] at st
  refine ⟨_, _, c4, ?_, lq_R1 st lq_Rr⟩
  have cc : c ≤ c4 := Int.le_trans hC.1.2.1 (Int.le_trans hC3.2.1 hC4.2.1)
  have pr : rq_pr M N (2, 0) (rv N L0 m (ln_so 1 P4 o4)) := ⟨(fun w => absurd w (show (2 : Int) ≠ 0 by decide)), (fun w => absurd w (show (2 : Int) ≠ 1 by decide)), (fun w => absurd w (show ¬ ((2 : Int) < 0 ∨ (2 : Int) = 31) by decide)), (fun _ => by rw [q3.1]; exact List.cons_ne_nil _ _)⟩
  refine lq_fin (rq_Pw hi.1 cc) (rq_c q2 pr) cc ?_
  rw [rv_c q2]
  have E1 := rq_nE (v := VS (lm_dp (ln_e Q) + 1) (lm_g (ln_e Q)) e (ds_ad f n b1)) s3
  have E2 := rq_nE (v := VS (lm_dp (ln_e Q) + 1) (lm_g (ln_e Q)) e (ds_ad f n b2)) (rq_Et E1 (rq_Ew r3 hC.1.2.1))
  have E3 := rq_E2 (N := N) (y := 0) (rq_Et E2 (rq_Ew q3 (Int.le_trans hC.1.2.1 hC3.2.1)))
  refine rq_Et ?_ E3
  show rq_E c _ ((if VE (lm_dp (ln_e Q) + 1) (lm_g (ln_e Q)) e b ≠ 0 then VS (lm_dp (ln_e Q) + 1) (lm_g (ln_e Q)) e (ds_ad f n b1) :: (rv N L0 m o).1 else VS (lm_dp (ln_e Q) + 1) (lm_g (ln_e Q)) e (ds_ad f n b2) :: (rv N L0 m o).1), (rv N L0 m o).2.1, (rv N L0 m o).2.2)
  by_cases q : VE (lm_dp (ln_e Q) + 1) (lm_g (ln_e Q)) e b ≠ 0
  · rw [if_pos q, if_pos q]; exact rq_Er
  · rw [if_neg q, if_neg q]; exact rq_Er
theorem lq_plet {S : ds_D} {VS : dv_D} {b0 : Int} (hS : lq_M3 f n law M N L0 m S VS) (hi : lq_i M N L0 m Q o c e) (hs : lo_sp f n law (Q, o, c, false, b0) = lo_lt f n Q o c b) : lq_L f n law (lq_C M N L0 m 7 Q c (rq_n (dv_let f n S VS (lm_dp (ln_e Q) + 1) (lm_g (ln_e Q)) e b) (rv N L0 m o))) (Q, o, c, false, b0) (ds_let f n S (lm_dp (ln_e Q) + 1) (lm_g (ln_e Q)) b) := by
  unfold ds_let dv_let
  simp only [ds_bdA]
  unfold lo_lt at hs
  refine lq_ex (fun T0 => lq_ex (fun T1 => ?_))
  rw [if_pos T0, if_pos T1] at hs
  refine lq_L1 hs ?_
  have V3 := la_V3 T0
  generalize lx_V f n b = v at V3 ⊢
  generalize ds_ad f n (ds_ad f n b) = b1
  have hi1 := lq_io (w := 44) (v := v) hi (by decide) (by decide) (Int.le_refl c) hi.2.1 (fun _ _ => rfl)
  have a := lq_S (b := b1) hS (by decide) (by decide) hi1
  rw [show lm_g (ln_e ((44, v, 0) :: Q)) = lm_g (ln_e Q) from if_neg (show ¬ (44 : Int) = 45 by decide)] at a
  refine lq_Lbd a (fun P2 o2 c2 hC => lq_ex (fun T2 => ?_))
  obtain ⟨s1, s2, s3, s4⟩ := lq_os (k := 5) (by decide) (by decide) hi1.1 hC
  generalize hb2 : (S (lm_dp (ln_e Q) + 1) (lm_g (ln_e Q)) b1).2 = b2 at T2 ⊢
  have pt : lm_pt (lx_T f n b2) (ln_e P2) = 45 := by
    rw [T2]
    unfold lm_pt
    rw [s4, if_neg (by decide), if_neg (by decide), if_neg (by decide), if_pos rfl, if_pos rfl]
  refine lq_L1 (lq_xl s1 (lq_bn (by omega) (Or.inl (by rw [s4]; decide))) pt) ?_
  have pr : rq_pr M N (30, c2) (rv N L0 m (ln_so 1 P2 o2)) := ⟨(fun w => absurd w (show (30 : Int) ≠ 0 by decide)), (fun w => absurd w (show (30 : Int) ≠ 1 by decide)), (fun w => absurd w (show ¬ ((30 : Int) < 0 ∨ (30 : Int) = 31) by decide)), (fun w => absurd w (show (30 : Int) ≠ 2 by decide))⟩
  have ok3 := rq_c s2 pr
  have c0 : 0 ≤ c := hi.2.2.1
  have cc := hC.2.1
  have small : cm_sm (VS (lm_dp (ln_e Q) + 1) (lm_g (ln_e Q)) e b1) := by
    have := (rq_okS _ s2).1
    rw [s3.1] at this
    exact this _ List.mem_cons_self
  have R3 : rv N L0 m ((30, c2) :: ln_so 1 P2 o2) = ((rv N L0 m (ln_so 1 P2 o2)).1.tail, (rv N L0 m (ln_so 1 P2 o2)).2.1, ds_u1 (rv N L0 m (ln_so 1 P2 o2)).2.2 c2 (rq_hd (rv N L0 m (ln_so 1 P2 o2)).1)) := (rv_c s2).trans rfl
  have hd : rq_hd (rv N L0 m (ln_so 1 P2 o2)).1 = VS (lm_dp (ln_e Q) + 1) (lm_g (ln_e Q)) e b1 := by rw [s3.1]; rfl
  have tl : (rv N L0 m (ln_so 1 P2 o2)).1.tail = (rv N L0 m o).1 := by rw [s3.1]; rfl
  rw [hd, tl] at R3
  have hi2 : lq_i M N L0 m ((45, v, c2) :: Q) ((30, c2) :: ln_so 1 P2 o2) (c2 + 1) (ds_u1 e v (VS (lm_dp (ln_e Q) + 1) (lm_g (ln_e Q)) e b1)) := by
    refine ⟨rq_Pc (rq_Pw hi.1 (by omega)) (show (3 : Int) ≤ 45 ∧ (45 : Int) ≠ 30 ∧ (45 : Int) ≠ 31 by decide) (fun _ => ⟨(show 0 ≤ c2 by omega), (show c2 < c2 + 1 by omega)⟩), ok3, by omega, fun x x0 x1 hx => ?_⟩
    rw [R3]
    have G : ln_g ((45, v, c2) :: Q) = ds_u1 (ln_g Q) v c2 := if_pos rfl
    rw [G] at hx ⊢
    unfold ds_u1 at hx ⊢
    dsimp only
    by_cases q : x = v
    · rw [if_pos q, if_pos q, if_pos rfl]
      exact ⟨⟨by omega, by omega⟩, rfl, small⟩
    · rw [if_neg q] at hx ⊢
      rw [if_neg q]
      obtain ⟨y1, y2, y3⟩ := hi.2.2.2 x x0 x1 hx
      refine ⟨⟨y1.1, by omega⟩, ?_, y3⟩
      rw [if_neg (by omega)]
      exact (s3.2.2 _ y1.2).trans y2
  have a2 := lq_S (b := ds_ad f n b2) hS (by decide) (by decide) hi2
  rw [show lm_g (ln_e ((45, v, c2) :: Q)) = ds_u1 (lm_g (ln_e Q)) v (ds_sl (lm_dp (ln_e Q) + 1)) from (if_pos rfl).trans (by rw [Int.add_comm]; rfl)] at a2
  refine lq_Lbd a2 (fun P4 o4 c4 hC4 z => ?_)
  obtain ⟨T3, ex⟩ := ds_exZ z
  obtain ⟨q1, q2, q3, q4⟩ := lq_os (k := 5) (by decide) (by decide) hi2.1 hC4
  rw [ex]
  generalize hb3 : (S (lm_dp (ln_e Q) + 1) (ds_u1 (lm_g (ln_e Q)) v (ds_sl (lm_dp (ln_e Q) + 1))) (ds_ad f n b2)).2 = b3 at T3 ⊢
  have pt3 : lm_pt (lx_T f n b3) (ln_e P4) = 0 := by
    rw [T3]
    unfold lm_pt
    rw [q4, if_neg (by decide), if_neg (by decide), if_neg (by decide), if_neg (by decide), if_neg (by decide), if_pos rfl]
  have st := lq_x0 (law := law) (o2 := o4) (c2 := c4) q1 q4 (lq_bn (by omega) (Or.inl (by rw [q4]; decide))) pt3
  rw [if_neg (by decide)] at st
  refine ⟨_, _, c4, ?_, lq_R1 st lq_Rr⟩
  have c4c : c2 + 1 ≤ c4 := hC4.2.1
  refine lq_fin (rq_Pw hi.1 (by omega)) q2 (by omega) ?_
  refine rq_Et ?_ (rq_Ew q3 (by omega))
  rw [R3]
  exact ⟨rfl, s3.2.1, fun i hi => (if_neg (by omega)).trans (s3.2.2 i hi)⟩
/-- one that is written at once -/
theorem lq_on {y v : Int} (hi : lq_i M N L0 m P o c e) (hs : lo_sp f n law (P, o, c, false, b) = lo_one f n P o c b (y, x)) (pr : rq_pr M N (y, x) (rv N L0 m o)) (hv : rq_st N (y, x) (rv N L0 m o) = rq_n v (rv N L0 m o)) : lq_L f n law (lq_C M N L0 m 7 P c (rq_n v (rv N L0 m o))) (P, o, c, false, b) (0, ds_ad f n b) := fun _ => by
  refine ⟨_, _, c, ?_, lq_R1 hs lq_Rr⟩
  refine lq_fin hi.1 (rq_c hi.2.1 pr) (Int.le_refl c) ?_
  rw [rv_c hi.2.1, hv]
  exact rq_Er
theorem lq_p1 {S O I L : ds_D} {VS VO VI VL : dv_D} (hN : ∀ b : Int, (ds_name f n law b).1 = 0 → cm_sm (N (la_nm (lx_T f n b))) ∧ M (la_nm (lx_T f n b)) = N (la_nm (lx_T f n b))) (hS : lq_M3 f n law M N L0 m S VS) (hO : lq_M1 f n law M N L0 m O VO)
    (hI : ∀ (Q : ln_P) (o : List (Int × Int)) (c b : Int) (e : Int → Int), lq_i M N L0 m Q o c e → lq_L f n law (lq_C M N L0 m 7 Q c (rq_n (VI (lm_dp (ln_e Q) + 1) (lm_g (ln_e Q)) e b) (rv N L0 m o))) ((41, 0, 0) :: Q, o, c, false, b) (I (lm_dp (ln_e Q) + 1) (lm_g (ln_e Q)) b))
    (hL : ∀ (Q : ln_P) (o : List (Int × Int)) (c b b0 : Int) (e : Int → Int), lq_i M N L0 m Q o c e → lo_sp f n law (Q, o, c, false, b0) = lo_lt f n Q o c b → lq_L f n law (lq_C M N L0 m 7 Q c (rq_n (VL (lm_dp (ln_e Q) + 1) (lm_g (ln_e Q)) e b) (rv N L0 m o))) (Q, o, c, false, b0) (L (lm_dp (ln_e Q) + 1) (lm_g (ln_e Q)) b)) :
    lq_M1 f n law M N L0 m (ds_one f n law S O I L) (dv_one f n N VS VO VI VL) := by
  intro P o c b e hi hs
  have hsp : lo_sp f n law (P, o, c, false, b) = lo_be f n law P o c b := rfl
  unfold lo_be at hsp
  unfold ds_one dv_one
  by_cases c2 : lx_T f n b = 2
  · rw [if_pos c2] at hsp
    rw [if_pos c2, if_pos c2]
    by_cases q : lx_V f n b ≤ 9999
    · rw [if_pos q] at hsp ⊢
      have V2 := lx_V2 c2
      exact lq_on hi hsp ⟨(fun _ => by dsimp only; exact ⟨by omega, by omega⟩), (fun w => absurd w (show (0 : Int) ≠ 1 by decide)), (fun w => absurd w (show ¬ ((0 : Int) < 0 ∨ (0 : Int) = 31) by decide)), (fun w => absurd w (show (0 : Int) ≠ 2 by decide))⟩ rfl
    · rw [if_neg q]; exact fun z => absurd z (show (2 : Int) ≠ 0 by decide)
  rw [if_neg c2] at hsp
  rw [if_neg c2, if_neg c2]
  by_cases c3 : lx_T f n b = 3
  · rw [if_pos c3] at hsp
    rw [if_pos c3, if_pos c3]
    have hg := lq_hg (x := lx_V f n b) hi.1
    by_cases q : lm_g (ln_e P) (lx_V f n b) ≠ -1
    · rw [if_pos q]
      rw [if_pos (hg.mpr q)] at hsp
      have V3 := la_V3 c3
      obtain ⟨y1, y2, y3⟩ := hi.2.2.2 (lx_V f n b) V3.1 V3.2 (hg.mpr q)
      refine lq_on hi hsp ⟨(fun w => absurd w (show (31 : Int) ≠ 0 by decide)), (fun w => absurd w (show (31 : Int) ≠ 1 by decide)), (fun _ => by dsimp only; rw [y2]; exact y3), (fun w => absurd w (show (31 : Int) ≠ 2 by decide))⟩ ?_
      show ((rv N L0 m o).2.2 (ln_g P (lx_V f n b)) :: (rv N L0 m o).1, (rv N L0 m o).2) = _
      rw [y2]
    · rw [if_neg q]; exact fun z => absurd z (show (5 : Int) ≠ 0 by decide)
  rw [if_neg c3] at hsp
  rw [if_neg c3, if_neg c3]
  by_cases c11 : lx_T f n b = 11
  · rw [if_pos c11] at hsp
    rw [if_pos c11, if_pos c11]
    refine lq_en hsp (fun _ st => lq_L1 st ?_)
    have hi' : lq_i M N L0 m ((3, 0, 0) :: P) o c e := lq_iw hi (Int.le_refl c) hi.2.1 (rq_Pc hi.1 (by decide) (fun q => by cases q)) (if_neg (by decide)) (fun _ _ => rfl)
    have a := hO ((3, 0, 0) :: P) o c (ds_ad f n b) e hi' (Or.inr (lm_ahs (Or.inl rfl)))
    rw [show lm_dp (ln_e ((3, 0, 0) :: P)) = lm_dp (ln_e P) + 1 from lm_opn (by decide), show lm_g (ln_e ((3, 0, 0) :: P)) = lm_g (ln_e P) from if_neg (by decide)] at a
    exact lq_Lw a (fun P3 o3 c3 h3 => lq_op (F := rq_n (VO (lm_dp (ln_e P) + 1) (lm_g (ln_e P)) e (ds_ad f n b))) (R1 := rv N L0 m o) (Int.le_refl 7) (by decide) (by decide) (by decide) hi.1 (Int.le_refl c) rq_Er h3 rfl)
  rw [if_neg c11] at hsp
  rw [if_neg c11, if_neg c11]
  by_cases c14 : lx_T f n b = 14
  · rw [if_pos c14] at hsp
    rw [if_pos c14, if_pos c14]
    refine lq_en hsp (fun _ st => lq_L1 st ?_)
    have hi1 := lq_io (w := 40) (v := 0) hi (by decide) (by decide) (Int.le_refl c) hi.2.1 (fun _ _ => rfl)
    have a := lq_S (b := ds_ad f n b) hS (by decide) (by decide) hi1
    rw [show lm_g (ln_e ((40, 0, 0) :: P)) = lm_g (ln_e P) from if_neg (by decide)] at a
    refine lq_Lbd a (fun P2 o2 c2 hC z => ?_)
    obtain ⟨T3, ex⟩ := ds_exZ z
    obtain ⟨q1, q2, q3, q4⟩ := lq_os (k := 5) (by decide) (by decide) hi1.1 hC
    rw [ex]
    generalize (S (lm_dp (ln_e P) + 1) (lm_g (ln_e P)) (ds_ad f n b)).2 = b3 at T3 ⊢
    have pt3 : lm_pt (lx_T f n b3) (ln_e P2) = 0 := by
      rw [T3]
      unfold lm_pt
      rw [q4, if_pos rfl, if_pos rfl]
    have st := lq_x0 (law := law) (o2 := o2) (c2 := c2) q1 q4 (lq_bn (by omega) (Or.inl (by rw [q4]; decide))) pt3
    rw [if_neg (by decide)] at st
    exact ⟨_, _, c2, lq_fin (rq_Pw hi.1 hC.2.1) q2 hC.2.1 q3, lq_R1 st lq_Rr⟩
  rw [if_neg c14] at hsp
  rw [if_neg c14, if_neg c14]
  by_cases c37 : lx_T f n b = 37
  · rw [if_pos c37] at hsp
    rw [if_pos c37, if_pos c37]
    exact lq_en hsp (fun _ st => lq_L1 st (hI P o c _ e hi))
  rw [if_neg c37] at hsp
  rw [if_neg c37, if_neg c37]
  by_cases c41 : lx_T f n b = 41
  · rw [if_pos c41] at hsp
    rw [if_pos c41, if_pos c41]
    exact lq_en hsp (fun _ st => hL P o c _ b e hi st)
  rw [if_neg c41] at hsp
  rw [if_neg c41, if_neg c41]
  rw [if_neg (show ¬ (lx_T f n b = 44 ∧ lm_ah (ln_e P) = true) from fun q => hs.elim (fun h => h q.1) (fun h => by rw [h] at q; exact absurd q.2 (by decide)))] at hsp
  rw [lm_name]
  by_cases q : (ds_name f n law b).1 = 0
  · rw [if_pos q] at hsp
    rw [if_pos q, if_pos q]
    exact lq_on hi hsp ⟨(fun w => absurd w (show (1 : Int) ≠ 0 by decide)), (fun _ => hN b q), (fun w => absurd w (show ¬ ((1 : Int) < 0 ∨ (1 : Int) = 31) by decide)), (fun w => absurd w (show (1 : Int) ≠ 2 by decide))⟩ rfl
  · rw [if_neg q, if_neg q]; exact fun z => absurd z q
/-- all readings -/
theorem lq_all (hN : ∀ b : Int, (ds_name f n law b).1 = 0 → cm_sm (N (la_nm (lx_T f n b))) ∧ M (la_nm (lx_T f n b)) = N (la_nm (lx_T f n b))) : ∀ k : Nat, lq_M3 f n law M N L0 m (ds_T f n law k).1 (dv_T f n law N k).1 ∧ lq_M2 f n law M N L0 m (ds_T f n law k).2.1 (dv_T f n law N k).2.1 ∧ lq_M1 f n law M N L0 m (ds_T f n law k).2.2.1 (dv_T f n law N k).2.2.1
    ∧ (∀ (Q : ln_P) (o : List (Int × Int)) (c b : Int) (e : Int → Int), lq_i M N L0 m Q o c e → lq_L f n law (lq_C M N L0 m 7 Q c (rq_n ((dv_T f n law N k).2.2.2.1 (lm_dp (ln_e Q) + 1) (lm_g (ln_e Q)) e b) (rv N L0 m o))) ((41, 0, 0) :: Q, o, c, false, b) ((ds_T f n law k).2.2.2.1 (lm_dp (ln_e Q) + 1) (lm_g (ln_e Q)) b))
    ∧ (∀ (Q : ln_P) (o : List (Int × Int)) (c b b0 : Int) (e : Int → Int), lq_i M N L0 m Q o c e → lo_sp f n law (Q, o, c, false, b0) = lo_lt f n Q o c b → lq_L f n law (lq_C M N L0 m 7 Q c (rq_n ((dv_T f n law N k).2.2.2.2.1 (lm_dp (ln_e Q) + 1) (lm_g (ln_e Q)) e b) (rv N L0 m o))) (Q, o, c, false, b0) ((ds_T f n law k).2.2.2.2.1 (lm_dp (ln_e Q) + 1) (lm_g (ln_e Q)) b))
    ∧ lq_M6 f n law M N L0 m (ds_T f n law k).2.2.2.2.2.1 (dv_T f n law N k).2.2.2.2.2.1 ∧ lq_M5 f n law M N L0 m (ds_T f n law k).2.2.2.2.2.2.1 (dv_T f n law N k).2.2.2.2.2.2.1 ∧ lq_M4 f n law M N L0 m (ds_T f n law k).2.2.2.2.2.2.2 (dv_T f n law N k).2.2.2.2.2.2.2 := by
  intro k
  have n9 : (9 : Int) ≠ 0 := by decide
  induction k with
  | zero => exact ⟨fun _ _ _ _ _ _ _ _ z => absurd z n9, fun _ _ _ _ _ _ _ _ z => absurd z n9, fun _ _ _ _ _ _ _ z => absurd z n9, fun _ _ _ _ _ _ z => absurd z n9, fun _ _ _ _ _ _ _ _ z => absurd z n9, fun _ _ _ _ _ _ _ _ z => absurd z n9, fun _ _ _ _ _ _ _ _ z => absurd z n9, fun _ _ _ _ _ _ _ z => absurd z n9⟩
  | succ k ih =>
    obtain ⟨i3, i2, i1, iI, iL, i6, i5, i4⟩ := ih
    exact ⟨lq_p3 i2, lq_p2 i1, lq_p1 hN i3 i1 iI iL, fun Q o c b e hi => lq_pif i3 i6 hi, fun Q o c b b0 e hi hs => lq_plet i3 hi hs, lq_p6 i5, lq_p5 i4, lq_p4 i3 i4⟩
/-- a sum of a clause, alone: where the machine ends, and what its orders are worth -/
theorem lq_top {r : Int × Int} (hN : ∀ b : Int, (ds_name f n law b).1 = 0 → cm_sm (N (la_nm (lx_T f n b))) ∧ M (la_nm (lx_T f n b)) = N (la_nm (lx_T f n b))) (hm : o.length = m) (hr : (ds_T f n law 200).1 0 tx_g0 b = r) (z : r.1 = 0) (T : lx_T f n r.2 = 16) : ∃ (P2 : ln_P) (o2 : List (Int × Int)) (c2 : Int), lq_R f n law ([], o, 0, false, b) (P2, o2, c2, true, r.2) ∧ lo_sp f n law (P2, o2, c2, true, r.2) = .inl (0, r.2) ∧ rq_ok M N L0 m (ln_so 1 P2 o2) ∧ (rv N L0 m (ln_so 1 P2 o2)).1 = [(dv_T f n law N 200).1 0 tx_g0 (fun _ => 0) b] := by
  obtain ⟨r0, ok0⟩ := rv_0 (N := N) (L0 := L0) M hm
  have hi : lq_i M N L0 m [] o 0 (fun _ => 0) := ⟨fun x hx => (by cases hx), ok0, Int.le_refl 0, fun x _ _ hx => absurd rfl hx⟩
  have a := (lq_all (f := f) (n := n) (law := law) (M := M) (N := N) (L0 := L0) (m := m) hN 200).1 [] o 0 b (fun _ => 0) hi rfl (Or.inr rfl)
  have a : lq_L f n law (lq_C M N L0 m 5 [] 0 (rq_n ((dv_T f n law N 200).1 0 tx_g0 (fun _ => 0) b) (rv N L0 m o))) ([], o, 0, false, b) ((ds_T f n law 200).1 0 tx_g0 b) := a
  rw [hr] at a
  obtain ⟨P2, o2, c2, hC, hR⟩ := a z
  obtain ⟨s1, s2, s3⟩ := lq_so (k := 1) (by decide) rfl (lq_CC (j := 1) (by decide) hi.1 hC)
  refine ⟨P2, o2, c2, hR, ?_, s2, ?_⟩
  · have op : lm_op (ln_e P2) = -1 := lm_Cop (P := ln_e []) (k := 5) (by decide) (lq_lm hC.1)
    have hbt : lm_bt (lx_T f n r.2) (ln_e P2) = -1 := lq_bn (by omega) (Or.inl (by rw [op]; decide))
    have hpt : lm_pt (lx_T f n r.2) (ln_e P2) = -1 := by
      unfold lm_pt
      rw [op, if_neg (by decide), if_neg (by decide), if_neg (by decide), if_neg (by decide), if_pos (by decide)]
    show lo_bh f n P2 o2 c2 r.2 = _
    unfold lo_bh
    rw [hbt, hpt, op, if_neg (by decide), if_neg (by decide), if_neg (by decide), if_neg (by decide)]
  · rw [s3.1, r0]
end LQ2
