/-! what the reference's orders are worth -/
section RV
variable {f : Int → Int} {n law b c k j : Int} {P P2 : ln_P} {o : List (Int × Int)} {M N L0 : Int → Int}
abbrev rq_R : Type := List Int × List Int × (Int → Int)
def rq_hd : List Int → Int
  | [] => 0
  | x :: _ => x
/-- one order -/
def rq_st (N : Int → Int) (e : Int × Int) (R : rq_R) : rq_R :=
  if e.1 = 0 then (e.2 :: R.1, R.2)
  else if e.1 = 1 then (N e.2 :: R.1, R.2)
  else if e.1 ≤ 1 ∨ e.1 = 31 then (R.2.2 e.2 :: R.1, R.2)
  else if e.1 = 2 then ((if rq_hd R.2.1 ≠ 0 then R.1.tail else rq_hd R.1 :: R.1.tail.tail), R.2.1.tail, R.2.2)
  else if e.1 = 30 then (R.1.tail, R.2.1, ds_u1 R.2.2 e.2 (rq_hd R.1))
  else if e.1 = 3 then (-(rq_hd R.1) :: R.1.tail, R.2)
  else if e.1 < 10 then (cm_ar (e.1 + 6) (rq_hd R.1.tail) (rq_hd R.1) :: R.1.tail.tail, R.2)
  else if e.1 < 20 then (R.1.tail.tail, lf_b (cm_cp (e.1 - 6) (rq_hd R.1.tail) (rq_hd R.1)) :: R.2.1, R.2.2)
  else if e.1 = 20 then (R.1, (1 - rq_hd R.2.1) :: R.2.1.tail, R.2.2)
  else if e.1 = 21 then (R.1, cm_2 45 (rq_hd R.2.1.tail) (rq_hd R.2.1) :: R.2.1.tail.tail, R.2.2)
  else (R.1, cm_2 46 (rq_hd R.2.1.tail) (rq_hd R.2.1) :: R.2.1.tail.tail, R.2.2)
/-- all orders but the first m -/
def rv (N L0 : Int → Int) (m : Nat) : List (Int × Int) → rq_R
  | [] => ([], [], L0)
  | e :: o => if o.length < m then ([], [], L0) else rq_st N e (rv N L0 m o)
def rq_pr (M N : Int → Int) (e : Int × Int) (R : rq_R) : Prop := (e.1 = 0 → cm_sm e.2) ∧ (e.1 = 1 → cm_sm (N e.2) ∧ M e.2 = N e.2) ∧ (e.1 < 0 ∨ e.1 = 31 → cm_sm (R.2.2 e.2)) ∧ (e.1 = 2 → R.1 ≠ [])
def rq_ok (M N L0 : Int → Int) (m : Nat) : List (Int × Int) → Prop
  | [] => m = 0
  | e :: o => o.length + 1 = m ∨ (rq_ok M N L0 m o ∧ rq_pr M N e (rv N L0 m o))
variable {m : Nat}
theorem rq_len : ∀ o : List (Int × Int), rq_ok M N L0 m o → m ≤ o.length := by
  intro o
  induction o with
  | nil => intro h; have h : m = 0 := h; omega
  | cons e o ih =>
    intro h
    rw [List.length_cons]
    rcases h with h | h
    · omega
    · have := ih h.1; omega
theorem rv_c {e : Int × Int} (h : rq_ok M N L0 m o) : rv N L0 m (e :: o) = rq_st N e (rv N L0 m o) := if_neg (by have := rq_len o h; omega)
theorem rq_c {e : Int × Int} (h : rq_ok M N L0 m o) (p : rq_pr M N e (rv N L0 m o)) : rq_ok M N L0 m (e :: o) := Or.inr ⟨h, p⟩
theorem rv_0 (M : Int → Int) (h : o.length = m) : rv N L0 m o = ([], [], L0) ∧ rq_ok M N L0 m o := by
  cases o with
  | nil => exact ⟨rfl, h.symm⟩
  | cons e o =>
    rw [List.length_cons] at h
    exact ⟨if_pos (by omega), Or.inl h⟩
/-- the pile's signs, from rank k on, are written -/
def rq_fl (N : Int → Int) (k : Int) : ln_P → rq_R → rq_R
  | [], R => R
  | e :: P, R => if k ≤ lm_rk e.1 then rq_fl N k P (rq_st N (e.1, 0) R) else R
/-- a pile's entries -/
def rq_P (c : Int) (P : ln_P) : Prop := ∀ e ∈ P, (3 ≤ e.1 ∧ e.1 ≠ 30 ∧ e.1 ≠ 31) ∧ (e.1 = 45 → 0 ≤ e.2.2 ∧ e.2.2 < c)
theorem rq_Pc {e : Int × Int × Int} (h : rq_P c P) (h1 : 3 ≤ e.1 ∧ e.1 ≠ 30 ∧ e.1 ≠ 31) (h2 : e.1 = 45 → 0 ≤ e.2.2 ∧ e.2.2 < c) : rq_P c (e :: P) := fun x hx => by
  rcases List.mem_cons.mp hx with q | q
  · rw [q]; exact ⟨h1, h2⟩
  · exact h x q
theorem rq_Pt {e : Int × Int × Int} (h : rq_P c (e :: P)) : rq_P c P := fun x hx => h x (List.mem_cons_of_mem _ hx)
theorem rq_Pw {c' : Int} (h : rq_P c P) (hc : c ≤ c') : rq_P c' P := fun x hx => ⟨(h x hx).1, fun q => ⟨((h x hx).2 q).1, by have := ((h x hx).2 q).2; omega⟩⟩
theorem rq_Ps : ∀ {P : ln_P}, rq_P c P → rq_P c (ln_st k P) := by
  intro P
  induction P with
  | nil => intro h; exact h
  | cons e P ih =>
    intro h
    show rq_P c (if k ≤ lm_rk e.1 then ln_st k P else e :: P)
    split
    · exact ih (rq_Pt h)
    · exact h
theorem rv_so (hk : 1 ≤ k) : ∀ (P : ln_P) (o : List (Int × Int)), rq_P c P → rq_ok M N L0 m o → rq_ok M N L0 m (ln_so k P o) ∧ rv N L0 m (ln_so k P o) = rq_fl N k P (rv N L0 m o) := by
  intro P
  induction P with
  | nil => intro o _ h; exact ⟨h, rfl⟩
  | cons e P ih =>
    intro o hP h
    show rq_ok M N L0 m (if k ≤ lm_rk e.1 then ln_so k P ((e.1, 0) :: o) else o) ∧ rv N L0 m (if k ≤ lm_rk e.1 then ln_so k P ((e.1, 0) :: o) else o) = (if k ≤ lm_rk e.1 then rq_fl N k P (rq_st N (e.1, 0) (rv N L0 m o)) else rv N L0 m o)
    by_cases q : k ≤ lm_rk e.1
    · rw [if_pos q, if_pos q]
      have he := (hP e List.mem_cons_self).1
      have p : rq_pr M N (e.1, 0) (rv N L0 m o) := ⟨fun w => by have w : e.1 = 0 := w; omega, fun w => by have w : e.1 = 1 := w; omega, fun w => by have w : e.1 < 0 ∨ e.1 = 31 := w; omega, fun w => by have w : e.1 = 2 := w; omega⟩
      have := ih ((e.1, 0) :: o) (rq_Pt hP) (rq_c h p)
      rw [rv_c h] at this
      exact this
    · rw [if_neg q, if_neg q]; exact ⟨h, rfl⟩
/-- flushing in two steps -/
theorem rq_flfl {j : Int} (h : k ≤ j) : ∀ (P : ln_P) (R : rq_R), rq_fl N k P R = rq_fl N k (ln_st j P) (rq_fl N j P R) := by
  intro P
  induction P with
  | nil => intro R; rfl
  | cons e P ih =>
    intro R
    show (if k ≤ lm_rk e.1 then rq_fl N k P (rq_st N (e.1, 0) R) else R) = rq_fl N k (if j ≤ lm_rk e.1 then ln_st j P else e :: P) (if j ≤ lm_rk e.1 then rq_fl N j P (rq_st N (e.1, 0) R) else R)
    by_cases q : j ≤ lm_rk e.1
    · rw [if_pos q, if_pos q, if_pos (by omega)]; exact ih _
    · rw [if_neg q, if_neg q]; rfl
theorem ln_stst {j : Int} (h : k ≤ j) : ∀ P : ln_P, ln_st k (ln_st j P) = ln_st k P := by
  intro P
  induction P with
  | nil => rfl
  | cons e P ih =>
    show ln_st k (if j ≤ lm_rk e.1 then ln_st j P else e :: P) = (if k ≤ lm_rk e.1 then ln_st k P else e :: P)
    by_cases q : j ≤ lm_rk e.1
    · rw [if_pos q, if_pos (show k ≤ lm_rk e.1 by omega)]; exact ih
    · rw [if_neg q]; rfl
theorem ln_stL : ∀ P : ln_P, (ln_st k P).length ≤ P.length := by
  intro P
  induction P with
  | nil => exact Nat.le_refl _
  | cons e P ih =>
    show (if k ≤ lm_rk e.1 then ln_st k P else e :: P).length ≤ (e :: P).length
    split
    · exact Nat.le_succ_of_le ih
    · exact Nat.le_refl _
/-- nothing to flush -/
theorem ln_st0 (h : ln_st k P = P) : P = [] ∨ ∃ e Q, P = e :: Q ∧ ¬ k ≤ lm_rk e.1 := by
  cases P with
  | nil => exact Or.inl rfl
  | cons e Q =>
    refine Or.inr ⟨e, Q, rfl, fun q => ?_⟩
    have : (if k ≤ lm_rk e.1 then ln_st k Q else e :: Q) = e :: Q := h
    rw [if_pos q] at this
    have l := ln_stL (k := k) Q
    rw [this, List.length_cons] at l
    omega
theorem ln_stj {j : Int} (h : k ≤ j) (e : ln_st k P = P) : ln_st j P = P := by
  rcases ln_st0 e with q | ⟨x, Q, q, nk⟩
  · rw [q]; rfl
  · rw [q]; exact if_neg (by omega)
theorem rq_fl0 (h : ln_st k P = P) (R : rq_R) : rq_fl N k P R = R := by
  rcases ln_st0 h with q | ⟨x, Q, q, nk⟩
  · rw [q]; rfl
  · rw [q]; exact if_neg nk
theorem ln_eS : ln_e (ln_st k P) = lm_st k (ln_e P) := by
  induction P with
  | nil => rfl
  | cons e P ih =>
    show ln_e (if k ≤ lm_rk e.1 then ln_st k P else e :: P) = (if k ≤ lm_rk e.1 then lm_st k (ln_e P) else ln_e (e :: P))
    split
    · exact ih
    · rfl
/-- alike, below c lets -/
def rq_E (c : Int) (R R' : rq_R) : Prop := R'.1 = R.1 ∧ R'.2.1 = R.2.1 ∧ ∀ i : Int, i < c → R'.2.2 i = R.2.2 i
theorem rq_Er {R : rq_R} : rq_E c R R := ⟨rfl, rfl, fun _ _ => rfl⟩
theorem rq_Et {R S T : rq_R} (h : rq_E c R S) (g : rq_E c S T) : rq_E c R T := ⟨g.1.trans h.1, g.2.1.trans h.2.1, fun i hi => (g.2.2 i hi).trans (h.2.2 i hi)⟩
theorem rq_Ew {c' : Int} {R S : rq_R} (h : rq_E c' R S) (hc : c ≤ c') : rq_E c R S := ⟨h.1, h.2.1, fun i hi => h.2.2 i (by omega)⟩
theorem rq_Est {x y : Int} {R S : rq_R} (h : rq_E c R S) (hx : 3 ≤ x ∧ x ≠ 30 ∧ x ≠ 31) : rq_E c (rq_st N (x, y) R) (rq_st N (x, y) S) := by
  obtain ⟨h1, h2, h3⟩ := h
  unfold rq_st
  dsimp only
  rw [h1, h2]
  rw [if_neg (show ¬ x = 0 by omega), if_neg (show ¬ x = 1 by omega), if_neg (show ¬ (x ≤ 1 ∨ x = 31) by omega), if_neg (show ¬ x = 2 by omega), if_neg (show ¬ x = 30 by omega)]
  rw [if_neg (show ¬ x = 0 by omega), if_neg (show ¬ x = 1 by omega), if_neg (show ¬ (x ≤ 1 ∨ x = 31) by omega), if_neg (show ¬ x = 2 by omega), if_neg (show ¬ x = 30 by omega)]
  by_cases c3 : x = 3
  · rw [if_pos c3, if_pos c3]; exact ⟨rfl, h2, h3⟩
  rw [if_neg c3, if_neg c3]
  by_cases c4 : x < 10
  · rw [if_pos c4, if_pos c4]; exact ⟨rfl, h2, h3⟩
  rw [if_neg c4, if_neg c4]
  by_cases c5 : x < 20
  · rw [if_pos c5, if_pos c5]; exact ⟨rfl, rfl, h3⟩
  rw [if_neg c5, if_neg c5]
  by_cases c6 : x = 20
  · rw [if_pos c6, if_pos c6]; exact ⟨rfl, rfl, h3⟩
  rw [if_neg c6, if_neg c6]
  by_cases c7 : x = 21
  · rw [if_pos c7, if_pos c7]; exact ⟨rfl, rfl, h3⟩
  · rw [if_neg c7, if_neg c7]; exact ⟨rfl, rfl, h3⟩
theorem rq_Efl (k : Int) : ∀ (P : ln_P) (R S : rq_R), rq_P j P → rq_E c R S → rq_E c (rq_fl N k P R) (rq_fl N k P S) := by
  intro P
  induction P with
  | nil => intro R S _ h; exact h
  | cons e P ih =>
    intro R S hP h
    show rq_E c (if k ≤ lm_rk e.1 then rq_fl N k P (rq_st N (e.1, 0) R) else R) (if k ≤ lm_rk e.1 then rq_fl N k P (rq_st N (e.1, 0) S) else S)
    split
    · exact ih _ _ (rq_Pt hP) (rq_Est h (hP e List.mem_cons_self).1)
    · exact h
/-- numbers are small, truths 0 or 1 -/
def rq_sm (R : rq_R) : Prop := (∀ x ∈ R.1, cm_sm x) ∧ ∀ x ∈ R.2.1, x = 0 ∨ x = 1
theorem rq_hdS {l : List Int} (h : ∀ x ∈ l, cm_sm x) : cm_sm (rq_hd l) := by
  cases l with
  | nil => exact ⟨by decide, by decide⟩
  | cons x l => exact h x List.mem_cons_self
theorem rq_hdT {l : List Int} (h : ∀ x ∈ l, x = 0 ∨ x = 1) : rq_hd l = 0 ∨ rq_hd l = 1 := by
  cases l with
  | nil => exact Or.inl rfl
  | cons x l => exact h x List.mem_cons_self
theorem rq_tl {α : Type} {p : α → Prop} {l : List α} (h : ∀ x ∈ l, p x) : ∀ x ∈ l.tail, p x := fun x hx => h x (List.mem_of_mem_tail hx)
theorem rq_cn {α : Type} {p : α → Prop} {l : List α} {y : α} (hy : p y) (h : ∀ x ∈ l, p x) : ∀ x ∈ y :: l, p x := fun x hx => by
  rcases List.mem_cons.mp hx with q | q
  · rw [q]; exact hy
  · exact h x q
theorem rq_smS {e : Int × Int} {R : rq_R} (h : rq_sm R) (p : rq_pr M N e R) : rq_sm (rq_st N e R) := by
  obtain ⟨h1, h2⟩ := h
  obtain ⟨p1, p2, p3, _⟩ := p
  unfold rq_st
  by_cases c0 : e.1 = 0
  · rw [if_pos c0]; exact ⟨rq_cn (p1 c0) h1, h2⟩
  rw [if_neg c0]
  by_cases c1 : e.1 = 1
  · rw [if_pos c1]; exact ⟨rq_cn (p2 c1).1 h1, h2⟩
  rw [if_neg c1]
  by_cases c2 : e.1 ≤ 1 ∨ e.1 = 31
  · rw [if_pos c2]; exact ⟨rq_cn (p3 (by omega)) h1, h2⟩
  rw [if_neg c2]
  by_cases c3 : e.1 = 2
  · rw [if_pos c3]
    refine ⟨?_, rq_tl h2⟩
    dsimp only
    split
    · exact rq_tl h1
    · exact rq_cn (rq_hdS h1) (rq_tl (rq_tl h1))
  rw [if_neg c3]
  by_cases c4 : e.1 = 30
  · rw [if_pos c4]; exact ⟨rq_tl h1, h2⟩
  rw [if_neg c4]
  by_cases c5 : e.1 = 3
  · rw [if_pos c5]
    refine ⟨rq_cn ?_ (rq_tl h1), h2⟩
    have := rq_hdS h1
    unfold cm_sm at *; omega
  rw [if_neg c5]
  by_cases c6 : e.1 < 10
  · rw [if_pos c6]; exact ⟨rq_cn (cm_arS (rq_hdS (rq_tl h1))) (rq_tl (rq_tl h1)), h2⟩
  rw [if_neg c6]
  by_cases c7 : e.1 < 20
  · rw [if_pos c7]
    refine ⟨rq_tl (rq_tl h1), rq_cn ?_ h2⟩
    unfold lf_b
    split
    · exact Or.inr rfl
    · exact Or.inl rfl
  rw [if_neg c7]
  have t1 := rq_hdT h2
  have t2 := rq_hdT (rq_tl h2)
  by_cases c8 : e.1 = 20
  · rw [if_pos c8]; exact ⟨h1, rq_cn (by omega) (rq_tl h2)⟩
  rw [if_neg c8]
  by_cases c9 : e.1 = 21
  · rw [if_pos c9]; exact ⟨h1, rq_cn (cm_2b (Or.inl rfl) t1 t2) (rq_tl (rq_tl h2))⟩
  · rw [if_neg c9]; exact ⟨h1, rq_cn (cm_2b (Or.inr rfl) t1 t2) (rq_tl (rq_tl h2))⟩
theorem rq_okS : ∀ o : List (Int × Int), rq_ok M N L0 m o → rq_sm (rv N L0 m o) := by
  intro o
  induction o with
  | nil => intro _; exact ⟨fun x hx => (by cases hx), fun x hx => (by cases hx)⟩
  | cons e o ih =>
    intro h
    rcases h with h | h
    · have : rv N L0 m (e :: o) = ([], [], L0) := if_pos (by omega)
      rw [this]
      exact ⟨fun x hx => (by cases hx), fun x hx => (by cases hx)⟩
    · rw [rv_c h.1]
      exact rq_smS (ih h.1) h.2
end RV
