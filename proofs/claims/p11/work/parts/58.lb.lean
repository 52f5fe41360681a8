/-! the reference's pile: its cells as a list (top first: code, letter, slot), what it writes (the latest first) -/
section LB
abbrev ln_P : Type := List (Int × Int × Int)
def ln_e (P : ln_P) : lm_P := P.map (fun e => (e.1, e.2.1))
def ln_st (k : Int) : ln_P → ln_P
  | [] => []
  | e :: P => if k ≤ lm_rk e.1 then ln_st k P else e :: P
def ln_so (k : Int) : ln_P → List (Int × Int) → List (Int × Int)
  | [], o => o
  | e :: P, o => if k ≤ lm_rk e.1 then ln_so k P ((e.1, 0) :: o) else o
def ln_g : ln_P → Int → Int
  | [] => fun _ => -1
  | e :: P => if e.1 = 45 then ds_u1 (ln_g P) e.2.1 e.2.2 else ln_g P
def ln_pl (F : Int → Int) : ln_P → Prop
  | [] => True
  | e :: P => F P.length = e.1 ∧ ln_pl F P
def ln_nl : ln_P → Int
  | [] => 0
  | e :: P => (if e.1 = 44 ∨ e.1 = 45 then 1 else 0) + ln_nl P
def ln_le (L W : Int → Int) : ln_P → Prop
  | [] => True
  | e :: P => ((e.1 = 44 ∨ e.1 = 45) → L (ln_nl P) = e.2.1 ∧ 0 ≤ e.2.1 ∧ e.2.1 < 26) ∧ (e.1 = 45 → W (ln_nl P) = ln_g P e.2.1 ∧ 0 ≤ e.2.2) ∧ ln_le L W P
def ln_ou (F : Int → Int) (a : Int) : List (Int × Int) → Prop
  | [] => True
  | e :: o => F (a + 2 * o.length) = e.1 ∧ F (a + 2 * o.length + 1) = e.2 ∧ ln_ou F a o
/-- the place of what is open at last -/
def ln_oa : ln_P → Int
  | [] => -1
  | e :: P => if 40 ≤ e.1 then P.length else ln_oa P
variable {f F G L W L' W' : Int → Int} {n b c m d k a : Int} {P : ln_P} {o : List (Int × Int)} {s t z : lf_Z}
theorem ln_plx : ∀ P : ln_P, (∀ j : Int, 0 ≤ j → j < P.length → G j = F j) → ln_pl F P → ln_pl G P := by
  intro P
  induction P with
  | nil => intro _ _; trivial
  | cons e P ih =>
    intro h p
    refine ⟨(h _ (by omega) (by rw [List.length_cons]; omega)).trans p.1, ih (fun j h0 h1 => h j h0 (by rw [List.length_cons]; omega)) p.2⟩
theorem ln_nl0 : ∀ P : ln_P, 0 ≤ ln_nl P := by
  intro P
  induction P with
  | nil => exact Int.le_refl _
  | cons e P ih => show 0 ≤ (if e.1 = 44 ∨ e.1 = 45 then 1 else 0) + ln_nl P; split <;> omega
theorem ln_nlL {e : Int × Int × Int} (h : e.1 = 44 ∨ e.1 = 45) : ln_nl (e :: P) = 1 + ln_nl P := by
  show (if e.1 = 44 ∨ e.1 = 45 then 1 else 0) + ln_nl P = _
  rw [if_pos h]
theorem ln_nlN {e : Int × Int × Int} (h : e.1 ≠ 44) (h2 : e.1 ≠ 45) : ln_nl (e :: P) = ln_nl P := by
  show (if e.1 = 44 ∨ e.1 = 45 then 1 else 0) + ln_nl P = _
  rw [if_neg (fun q => q.elim h h2)]; omega
theorem ln_lex : ∀ P : ln_P, (∀ j : Int, 0 ≤ j → j < ln_nl P → L' j = L j ∧ W' j = W j) → ln_le L W P → ln_le L' W' P := by
  intro P
  induction P with
  | nil => intro _ _; trivial
  | cons e P ih =>
    intro h p
    obtain ⟨p1, p2, p3⟩ := p
    have h0 := ln_nl0 P
    refine ⟨fun q => ?_, fun q => ?_, ih (fun j h0 h1 => h j h0 ?_) p3⟩
    · rw [(h _ h0 (by rw [ln_nlL q]; omega)).1]; exact p1 q
    · rw [(h _ h0 (by rw [ln_nlL (Or.inr q)]; omega)).2]; exact p2 q
    · show j < (if e.1 = 44 ∨ e.1 = 45 then 1 else 0) + ln_nl P
      split <;> omega
theorem ln_oux : ∀ o : List (Int × Int), (∀ j : Int, j < a + 2 * o.length → G j = F j) → ln_ou F a o → ln_ou G a o := by
  intro o
  induction o with
  | nil => intro _ _; trivial
  | cons e o ih =>
    intro h p
    obtain ⟨p1, p2, p3⟩ := p
    refine ⟨(h _ (by rw [List.length_cons]; omega)).trans p1, (h _ (by rw [List.length_cons]; omega)).trans p2, ih (fun j hj => h j (by rw [List.length_cons]; omega)) p3⟩
theorem ln_est : ∀ P : ln_P, ln_e (ln_st k P) = lm_st k (ln_e P) := by
  intro P
  induction P with
  | nil => rfl
  | cons e P ih =>
    show ln_e (if k ≤ lm_rk e.1 then ln_st k P else e :: P) = (if k ≤ lm_rk e.1 then lm_st k (ln_e P) else (e.1, e.2.1) :: ln_e P)
    split
    · exact ih
    · rfl
theorem ln_dpst : ∀ P : ln_P, lm_dp (ln_e (ln_st k P)) ≤ lm_dp (ln_e P) := by
  intro P
  induction P with
  | nil => exact Int.le_refl _
  | cons e P ih =>
    show lm_dp (ln_e (if k ≤ lm_rk e.1 then ln_st k P else e :: P)) ≤ (if 40 ≤ e.1 ∨ e.1 = 3 ∨ e.1 = 20 then 1 else 0) + lm_dp (ln_e P)
    by_cases c : k ≤ lm_rk e.1
    · rw [if_pos c]; split <;> omega
    · rw [if_neg c]; exact Int.le_refl _
theorem ln_opB : ∀ P : lm_P, lm_op P = -1 ∨ 40 ≤ lm_op P := by
  intro P
  induction P with
  | nil => exact Or.inl rfl
  | cons e P ih =>
    show (if 40 ≤ e.1 then e.1 else lm_op P) = -1 ∨ 40 ≤ (if 40 ≤ e.1 then e.1 else lm_op P)
    by_cases c : 40 ≤ e.1
    · rw [if_pos c]; exact Or.inr c
    · rw [if_neg c]; exact ih
theorem ln_st1 : ∀ P : ln_P, 0 ≤ lm_op (ln_e P) → ∃ e P', ln_st 1 P = e :: P' ∧ 40 ≤ e.1 ∧ e.1 = lm_op (ln_e P) := by
  intro P
  induction P with
  | nil => intro h; exact absurd h (by decide)
  | cons e P ih =>
    intro h
    have h : 0 ≤ (if 40 ≤ e.1 then e.1 else lm_op (ln_e P)) := h
    show ∃ e' P', (if 1 ≤ lm_rk e.1 then ln_st 1 P else e :: P) = e' :: P' ∧ 40 ≤ e'.1 ∧ e'.1 = (if 40 ≤ e.1 then e.1 else lm_op (ln_e P))
    by_cases c : 40 ≤ e.1
    · rw [if_pos c, if_neg (by rw [lm_rk0 c]; omega)]
      exact ⟨e, P, rfl, c, rfl⟩
    · rw [if_neg c] at h ⊢
      rw [if_pos (lm_rkp c)]
      exact ih h
theorem ln_gB : ∀ P : ln_P, ln_le L W P → ∀ j : Int, ln_g P j = -1 ∨ 0 ≤ ln_g P j := by
  intro P
  induction P with
  | nil => intro _ _; exact Or.inl rfl
  | cons e P ih =>
    intro h j
    by_cases q : e.1 = 45
    · rw [show ln_g (e :: P) = ds_u1 (ln_g P) e.2.1 e.2.2 from if_pos q]
      unfold ds_u1
      split
      · exact Or.inr (h.2.1 q).2
      · exact ih h.2.2 j
    · rw [show ln_g (e :: P) = ln_g P from if_neg q]
      exact ih h.2.2 j
theorem ds_slB {x : Int} : 0 ≤ ds_sl x := by unfold ds_sl; omega
theorem ln_gE : ∀ P : ln_P, ln_le L W P → ∀ j : Int, (ln_g P j ≠ -1 ↔ lm_g (ln_e P) j ≠ -1) := by
  intro P
  induction P with
  | nil => intro _ _; exact Iff.rfl
  | cons e P ih =>
    intro h j
    by_cases q : e.1 = 45
    · rw [show ln_g (e :: P) = ds_u1 (ln_g P) e.2.1 e.2.2 from if_pos q, show lm_g (ln_e (e :: P)) = ds_u1 (lm_g (ln_e P)) e.2.1 (ds_sl (1 + lm_dp (ln_e P))) from if_pos q]
      unfold ds_u1
      by_cases y : j = e.2.1
      · rw [if_pos y, if_pos y]
        have := (h.2.1 q).2
        have := ds_slB (x := 1 + lm_dp (ln_e P))
        constructor <;> intro <;> omega
      · rw [if_neg y, if_neg y]; exact ih h.2.2 j
    · rw [show ln_g (e :: P) = ln_g P from if_neg q, show lm_g (ln_e (e :: P)) = lm_g (ln_e P) from if_neg q]
      exact ih h.2.2 j
theorem ln_oaE : ∀ P : ln_P, ln_pl F P → (ln_oa P < 0 → lm_op (ln_e P) = -1) ∧ (0 ≤ ln_oa P → F (ln_oa P) = lm_op (ln_e P)) := by
  intro P
  induction P with
  | nil => intro _; exact ⟨fun _ => rfl, fun q => absurd q (by decide)⟩
  | cons e P ih =>
    intro h
    show ((if 40 ≤ e.1 then (P.length : Int) else ln_oa P) < 0 → (if 40 ≤ e.1 then e.1 else lm_op (ln_e P)) = -1) ∧ (0 ≤ (if 40 ≤ e.1 then (P.length : Int) else ln_oa P) → F (if 40 ≤ e.1 then (P.length : Int) else ln_oa P) = (if 40 ≤ e.1 then e.1 else lm_op (ln_e P)))
    by_cases c : 40 ≤ e.1
    · rw [if_pos c, if_pos c]
      exact ⟨fun q => by omega, fun _ => h.1⟩
    · rw [if_neg c, if_neg c]
      exact ih h.2
/-! what holds while a sum is read -/
def ln_F (z t : lf_Z) : Prop := (∀ c : Nat, c ≠ 95 → c ≠ 98 → c ≠ 100 → c ≠ 101 → c ≠ 102 → c ≠ 103 → t.1 c = z.1 c) ∧ (∀ i : Int, ¬ (7 ≤ i ∧ i ≤ 10) → i ≠ 13 → ¬ (19 ≤ i ∧ i ≤ 23) → t.1 95 i = z.1 95 i) ∧ (∀ i : Int, i < z.1 95 12 + 97 → t.1 98 i = z.1 98 i) ∧ t.2.2 = z.2.2
/-- pile P, so many cells, so many open, so many lets, so many slots, and what is written -/
def ln_S (z : lf_Z) (f : Int → Int) (n b : Int) (P : ln_P) (m d k c : Int) (o : List (Int × Int)) (s : lf_Z) : Prop :=
  ln_F z s ∧ la_B f n b s ∧ s.1 95 19 = m ∧ ln_pl (s.1 100) P ∧ s.1 95 20 = d ∧ s.1 95 21 = k ∧ ln_le (s.1 101) (s.1 102) P ∧ (∀ j : Int, 0 ≤ j → j < 26 → s.1 103 j = ln_g P j) ∧ s.1 95 22 = c ∧ s.1 95 13 = o.length ∧ ln_ou (s.1 98) (z.1 95 12 + 97) o ∧ 0 ≤ c
def ln_C (z : lf_Z) (f : Int → Int) (n b : Int) (P : ln_P) (c : Int) (o : List (Int × Int)) (s : lf_Z) : Prop := ln_S z f n b P P.length (lm_dp (ln_e P)) (ln_nl P) c o s
theorem la_Bx (h : la_B f n b s) (e1 : t.1 99 = s.1 99) (e2 : ∀ i : Int, (i = 4 ∨ (7 ≤ i ∧ i ≤ 10)) → t.1 95 i = s.1 95 i) (e3 : t.2.1 = s.2.1) : la_B f n b t := by
  obtain ⟨h1, h2, h3, h4⟩ := h
  refine ⟨e1.trans h1, (e2 4 (by omega)).trans h2, ?_, h4⟩
  unfold rt_at at h3 ⊢
  rw [e1, e3, e2 4 (by omega), e2 7 (by omega), e2 8 (by omega), e2 9 (by omega), e2 10 (by omega)]
  exact h3
/-- cells of the object alone -/
theorem ln_Sx {m' d' k' c' : Int} (h : ln_S z f n b P m d k c o s) (eJ : t.2 = s.2) (e : ∀ q : Nat, q ≠ 95 → t.1 q = s.1 q) (e2 : ∀ i : Int, ¬ (19 ≤ i ∧ i ≤ 23) → t.1 95 i = s.1 95 i) (e19 : t.1 95 19 = m') (e20 : t.1 95 20 = d') (e21 : t.1 95 21 = k') (e22 : t.1 95 22 = c') (hc : 0 ≤ c') : ln_S z f n b P m' d' k' c' o t := by
  obtain ⟨hF, hB, h19, hp, h20, h21, hl, hg, h22, h13, ho, h0⟩ := h
  refine ⟨⟨fun q a1 a2 a3 a4 a5 a6 => (e q a1).trans (hF.1 q a1 a2 a3 a4 a5 a6), fun i a1 a2 a3 => (e2 i a3).trans (hF.2.1 i a1 a2 a3), fun i hi => (by rw [e 98 (by decide)]; exact hF.2.2.1 i hi), (by rw [eJ]; exact hF.2.2.2)⟩, la_Bx hB (e 99 (by decide)) (fun i hi => e2 i (by omega)) (by rw [eJ]), e19, (by rw [e 100 (by decide)]; exact hp), e20, e21, (by rw [e 101 (by decide), e 102 (by decide)]; exact hl), (by rw [e 103 (by decide)]; exact hg), e22, (e2 13 (by omega)).trans h13, (by rw [e 98 (by decide)]; exact ho), hc⟩
/-- rows alone -/
theorem ln_Sr {P' : ln_P} (h : ln_S z f n b P m d k c o s) (eJ : t.2 = s.2) (e : ∀ q : Nat, q ≠ 100 → q ≠ 101 → q ≠ 102 → q ≠ 103 → t.1 q = s.1 q) (hp' : ln_pl (t.1 100) P') (hl' : ln_le (t.1 101) (t.1 102) P') (hg' : ∀ j : Int, 0 ≤ j → j < 26 → t.1 103 j = ln_g P' j) : ln_S z f n b P' m d k c o t := by
  obtain ⟨hF, hB, h19, hp, h20, h21, hl, hg, h22, h13, ho, h0⟩ := h
  have e95 := e 95 (by decide) (by decide) (by decide) (by decide)
  have e98 := e 98 (by decide) (by decide) (by decide) (by decide)
  refine ⟨⟨fun q a1 a2 a3 a4 a5 a6 => (e q a3 a4 a5 a6).trans (hF.1 q a1 a2 a3 a4 a5 a6), fun i a1 a2 a3 => (by rw [e95]; exact hF.2.1 i a1 a2 a3), fun i hi => (by rw [e98]; exact hF.2.2.1 i hi), (by rw [eJ]; exact hF.2.2.2)⟩, la_Bx hB (e 99 (by decide) (by decide) (by decide) (by decide)) (fun i _ => by rw [e95]) (by rw [eJ]), (by rw [e95]; exact h19), hp', (by rw [e95]; exact h20), (by rw [e95]; exact h21), hl', hg', (by rw [e95]; exact h22), (by rw [e95]; exact h13), (by rw [e98]; exact ho), h0⟩
/-- a cell of the pile -/
theorem ln_S100 {i v : Int} (h : ln_S z f n b P m d k c o s) (hi : (P.length : Int) ≤ i) : ln_S z f n b P m d k c o (lf_up s.1 100 i v, s.2.1, s.2.2) := by
  obtain ⟨t, ht⟩ : ∃ t : lf_Z, t = (lf_up s.1 100 i v, s.2.1, s.2.2) := ⟨_, rfl⟩
  rw [← ht]
  have e : ∀ q : Nat, q ≠ 100 → t.1 q = s.1 q := fun q hq => by rw [ht]; exact zu_r hq
  have e3 : ∀ j : Int, j ≠ i → t.1 100 j = s.1 100 j := fun j hj => by rw [ht]; exact zu_i hj
  exact ln_Sr h (by rw [ht]) (fun q a _ _ _ => e q a) (ln_plx P (fun j _ hj => e3 j (by omega)) h.2.2.2.1) (by rw [e 101 (by decide), e 102 (by decide)]; exact h.2.2.2.2.2.2.1) (by rw [e 103 (by decide)]; exact h.2.2.2.2.2.2.2.1)
/-- one more that is no let -/
theorem ln_cons {e : Int × Int × Int} (h : ln_S z f n b P m d k c o s) (h44 : e.1 ≠ 44) (h45 : e.1 ≠ 45) (hv : s.1 100 P.length = e.1) : ln_S z f n b (e :: P) m d k c o s := by
  refine ln_Sr h rfl (fun _ _ _ _ _ => rfl) ⟨hv, h.2.2.2.1⟩ ⟨fun q => absurd q (fun q => q.elim h44 h45), fun q => absurd q h45, h.2.2.2.2.2.2.1⟩ ?_
  rw [show ln_g (e :: P) = ln_g P from if_neg h45]
  exact h.2.2.2.2.2.2.2.1
theorem ln_tail {e : Int × Int × Int} (h : ln_S z f n b (e :: P) m d k c o s) (h45 : e.1 ≠ 45) : ln_S z f n b P m d k c o s ∧ s.1 100 P.length = e.1 := by
  refine ⟨ln_Sr h rfl (fun _ _ _ _ _ => rfl) h.2.2.2.1.2 h.2.2.2.2.2.2.1.2.2 ?_, h.2.2.2.1.1⟩
  have := h.2.2.2.2.2.2.2.1
  rw [show ln_g (e :: P) = ln_g P from if_neg h45] at this
  exact this
/-- a let begins: its letter -/
theorem ln_let {v : Int} (h : ln_S z f n b P m d (ln_nl P) c o s) (hv : s.1 100 P.length = 44) (h0 : 0 ≤ v) (h1 : v < 26) : ln_S z f n b ((44, v, 0) :: P) m d (ln_nl P) c o (lf_up s.1 101 (ln_nl P) v, s.2.1, s.2.2) := by
  obtain ⟨t, ht⟩ : ∃ t : lf_Z, t = (lf_up s.1 101 (ln_nl P) v, s.2.1, s.2.2) := ⟨_, rfl⟩
  rw [← ht]
  have e : ∀ q : Nat, q ≠ 101 → t.1 q = s.1 q := fun q hq => by rw [ht]; exact zu_r hq
  have e3 : ∀ j : Int, j ≠ ln_nl P → t.1 101 j = s.1 101 j := fun j hj => by rw [ht]; exact zu_i hj
  have e4 : t.1 101 (ln_nl P) = v := by rw [ht]; exact zu_s
  refine ln_Sr h (by rw [ht]) (fun q _ a _ _ => e q a) ⟨by rw [e 100 (by decide)]; exact hv, by rw [e 100 (by decide)]; exact h.2.2.2.1⟩ ⟨fun _ => ⟨e4, h0, h1⟩, fun q => absurd q (show ¬ (44 : Int) = 45 by decide), ?_⟩ ?_
  · rw [e 102 (by decide)]
    exact ln_lex P (fun j _ hj => ⟨e3 j (by omega), rfl⟩) h.2.2.2.2.2.2.1
  · rw [e 103 (by decide), show ln_g ((44, v, 0) :: P) = ln_g P from if_neg (show ¬ (44 : Int) = 45 by decide)]
    exact h.2.2.2.2.2.2.2.1
/-- a let's letter stands from here on -/
theorem ln_bnd {v x : Int} (h : ln_S z f n b P m d k c o s) (hv : s.1 100 P.length = 45) (hL : s.1 101 (ln_nl P) = v) (h0 : 0 ≤ v) (h1 : v < 26) (hx : 0 ≤ x) : ln_S z f n b ((45, v, x) :: P) m d k c o (lf_up (lf_up s.1 102 (ln_nl P) (s.1 103 v)) 103 v x, s.2.1, s.2.2) := by
  obtain ⟨t, ht⟩ : ∃ t : lf_Z, t = (lf_up (lf_up s.1 102 (ln_nl P) (s.1 103 v)) 103 v x, s.2.1, s.2.2) := ⟨_, rfl⟩
  rw [← ht]
  have e : ∀ q : Nat, q ≠ 102 → q ≠ 103 → t.1 q = s.1 q := fun q h1 h2 => by rw [ht]; exact (zu_r h2).trans (lf_up_row h1)
  have e3 : ∀ j : Int, j ≠ ln_nl P → t.1 102 j = s.1 102 j := fun j hj => by rw [ht]; exact (zu_c (by decide)).trans (lf_up_i hj)
  have e4 : t.1 102 (ln_nl P) = s.1 103 v := by rw [ht]; exact (zu_c (by decide)).trans lf_up_s
  have e5 : ∀ j : Int, j ≠ v → t.1 103 j = s.1 103 j := fun j hj => by rw [ht]; exact (zu_i hj).trans (lf_up_c (by decide))
  have e6 : t.1 103 v = x := by rw [ht]; exact zu_s
  have hg := h.2.2.2.2.2.2.2.1
  refine ln_Sr h (by rw [ht]) (fun q _ _ a1 a2 => e q a1 a2) ⟨by rw [e 100 (by decide) (by decide)]; exact hv, by rw [e 100 (by decide) (by decide)]; exact h.2.2.2.1⟩ ⟨fun _ => ⟨by rw [e 101 (by decide) (by decide)]; exact hL, h0, h1⟩, fun _ => ⟨e4.trans (hg v h0 h1), hx⟩, ?_⟩ ?_
  · rw [e 101 (by decide) (by decide)]
    exact ln_lex P (fun j _ hj => ⟨rfl, e3 j (by omega)⟩) h.2.2.2.2.2.2.1
  · intro j j0 j1
    rw [show ln_g ((45, v, x) :: P) = ds_u1 (ln_g P) v x from if_pos rfl]
    unfold ds_u1
    by_cases q : j = v
    · rw [if_pos q, q]; exact e6
    · rw [if_neg q, e5 j q]; exact hg j j0 j1
/-- and no more -/
theorem ln_unb {e : Int × Int × Int} (h : ln_S z f n b (e :: P) m d k c o s) (h45 : e.1 = 45) : ln_S z f n b P m d k c o (lf_up s.1 103 (s.1 101 (ln_nl P)) (s.1 102 (ln_nl P)), s.2.1, s.2.2) := by
  obtain ⟨l1, l2, l3⟩ := h.2.2.2.2.2.2.1
  obtain ⟨l1, l4, l5⟩ := l1 (Or.inr h45)
  have hg := h.2.2.2.2.2.2.2.1
  rw [l1, (l2 h45).1]
  obtain ⟨t, ht⟩ : ∃ t : lf_Z, t = (lf_up s.1 103 e.2.1 (ln_g P e.2.1), s.2.1, s.2.2) := ⟨_, rfl⟩
  rw [← ht]
  have q3 : ∀ q : Nat, q ≠ 103 → t.1 q = s.1 q := fun q hq => by rw [ht]; exact zu_r hq
  refine ln_Sr h (by rw [ht]) (fun q _ _ _ a => q3 q a) (by rw [q3 100 (by decide)]; exact h.2.2.2.1.2) (by rw [q3 101 (by decide), q3 102 (by decide)]; exact l3) (fun j j0 j1 => ?_)
  by_cases q : j = e.2.1
  · rw [ht, q]; exact zu_s
  · have := hg j j0 j1
    rw [show ln_g (e :: P) = ds_u1 (ln_g P) e.2.1 e.2.2 from if_pos h45] at this
    unfold ds_u1 at this
    rw [if_neg q] at this
    rw [ht]
    exact (zu_i q).trans this
/-! what the reference does -/
theorem fl_222 {x : Int} {Q : Int → lf_Z → Prop} (h : Q (lm_rk x) s) : fw_222 x Q s := by
  have key : ∀ v : Int, v = lm_rk x → Q v s := fun v e => by rw [e]; exact h
  unfold fw_222
  intro _
  refine ⟨fun c1 => ⟨fun c2 => ⟨fun c3 => ⟨fun c4 => ⟨fun c5 => ⟨fun c6 => ⟨fun c7 => ?_, fun c7 => ?_⟩, fun c6 => ?_⟩, fun c5 => ?_⟩, fun c4 => ?_⟩, fun c3 => ?_⟩, fun c2 => ?_⟩, fun c1 => ?_⟩ <;>
    (refine key _ ?_; unfold lm_rk; (repeat' split) <;> omega)
/-- an order is written -/
theorem fl_225 {x y : Int} {Q : lf_Z → Prop} (h : ln_S z f n b P m d k c o s) (kk : ∀ t : lf_Z, ln_S z f n b P m d k c ((x, y) :: o) t → (∀ i : Int, i ≠ 13 → t.1 95 i = s.1 95 i) → (∀ q : Nat, q ≠ 95 → q ≠ 98 → t.1 q = s.1 q) → Q t) : fw_225 x y Q s := by
  unfold fw_225
  intro _ _
  obtain ⟨hF, hB, h19, hp, h20, h21, hl, hg, h22, h13, ho, h0⟩ := h
  have e12 : s.1 95 12 = z.1 95 12 := hF.2.1 12 (by omega) (by decide) (by omega)
  rw [e12, h13]
  obtain ⟨t, ht⟩ : ∃ t : lf_Z, t = (lf_up (lf_up (lf_up s.1 98 (z.1 95 12 + 97 + 2 * (o.length : Int)) x) 98 (z.1 95 12 + 97 + 2 * (o.length : Int) + 1) y) 95 13 ((o.length : Int) + 1), s.2.1, s.2.2) := ⟨_, rfl⟩
  rw [← ht]
  have u95 : ∀ i : Int, i ≠ 13 → t.1 95 i = s.1 95 i := fun i hi => by rw [ht]; exact (zu_i hi).trans ((lf_up_c (by decide)).trans (lf_up_c (by decide)))
  have u13 : t.1 95 13 = (o.length : Int) + 1 := by rw [ht]; exact zu_s
  have uq : ∀ q : Nat, q ≠ 95 → q ≠ 98 → t.1 q = s.1 q := fun q h1 h2 => by rw [ht]; exact (zu_r h1).trans ((lf_up_row h2).trans (lf_up_row h2))
  have ul : ∀ i : Int, i < z.1 95 12 + 97 + 2 * (o.length : Int) → t.1 98 i = s.1 98 i := fun i hi => by rw [ht]; exact (zu_c (by decide)).trans ((lf_up_i (by omega)).trans (lf_up_i (by omega)))
  have ua : t.1 98 (z.1 95 12 + 97 + 2 * (o.length : Int)) = x := by rw [ht]; exact (zu_c (by decide)).trans ((lf_up_i (by omega)).trans lf_up_s)
  have ub : t.1 98 (z.1 95 12 + 97 + 2 * (o.length : Int) + 1) = y := by rw [ht]; exact (zu_c (by decide)).trans lf_up_s
  refine kk t ⟨⟨fun q a1 a2 a3 a4 a5 a6 => (uq q a1 a2).trans (hF.1 q a1 a2 a3 a4 a5 a6), fun i a1 a2 a3 => (u95 i a2).trans (hF.2.1 i a1 a2 a3), fun i hi => (ul i (by omega)).trans (hF.2.2.1 i hi), (by rw [ht]; exact hF.2.2.2)⟩, la_Bx hB (uq 99 (by decide) (by decide)) (fun i hi => u95 i (by omega)) (by rw [ht]), (u95 19 (by decide)).trans h19, (by rw [uq 100 (by decide) (by decide)]; exact hp), (u95 20 (by decide)).trans h20, (u95 21 (by decide)).trans h21, (by rw [uq 101 (by decide) (by decide), uq 102 (by decide) (by decide)]; exact hl), (by rw [uq 103 (by decide) (by decide)]; exact hg), (u95 22 (by decide)).trans h22, ?_, ⟨ua, ub, ln_oux o ul ho⟩, h0⟩ u95 uq
  rw [u13, List.length_cons]; omega
theorem la_0 (h : la_B f n b s) : 0 ≤ s.1 95 7 := by
  obtain ⟨h1, h2, ⟨_, _, r7, _⟩, h0, _⟩ := h
  rw [r7]; exact cl_E0 h0
/-- the next token -/
theorem ln_nx {Q : lf_Z → Prop} (h : ln_S z f n b P m d k c o s) (kk : ∀ t : lf_Z, ln_S z f n (ds_ad f n b) P m d k c o t → (∀ i : Int, ¬ (7 ≤ i ∧ i ≤ 10) → t.1 95 i = s.1 95 i) → (∀ q : Nat, q ≠ 95 → t.1 q = s.1 q) → Q t) : fw_197 Q s := by
  have h7 := la_0 h.2.1
  obtain ⟨hF, hB, h19, hp, h20, h21, hl, hg, h22, h13, ho, h0⟩ := h
  obtain ⟨b1, b2, b3, b4, b5⟩ := hB
  refine fl_197 h7 (by rw [b1, b2]; exact b5) (fun t tF tA => ?_)
  obtain ⟨f1, f2, f3⟩ := tF
  have r7 : s.1 95 7 = lx_E f n b := by rw [← b1, ← b2]; exact b3.2.2.1
  rw [b1, b2, r7] at tA
  have u95 : ∀ i : Int, ¬ (7 ≤ i ∧ i ≤ 10) → t.1 95 i = s.1 95 i := fun i hi => f2 i (by omega) (by omega) (by omega) (by omega)
  refine kk t ⟨⟨fun q a1 a2 a3 a4 a5 a6 => (f1 q a1).trans (hF.1 q a1 a2 a3 a4 a5 a6), fun i a1 a2 a3 => (u95 i a1).trans (hF.2.1 i a1 a2 a3), fun i hi => (by rw [f1 98 (by decide)]; exact hF.2.2.1 i hi), f3.trans hF.2.2.2⟩, ⟨(f1 99 (by decide)).trans b1, (u95 4 (by omega)).trans b2, tA, cl_ad0 b4, b5⟩, (u95 19 (by omega)).trans h19, (by rw [f1 100 (by decide)]; exact hp), (u95 20 (by omega)).trans h20, (u95 21 (by omega)).trans h21, (by rw [f1 101 (by decide), f1 102 (by decide)]; exact hl), (by rw [f1 103 (by decide)]; exact hg), (u95 22 (by omega)).trans h22, (u95 13 (by omega)).trans h13, (by rw [f1 98 (by decide)]; exact ho), h0⟩ u95 f1
/-- what waits is settled -/
theorem fl_224 {x : Int} {Q : lf_Z → Prop} (hx : 1 ≤ x) (h : ln_C z f n b P c o s) (kk : ∀ t : lf_Z, ln_C z f n b (ln_st x P) c (ln_so x P o) t → t.1 95 23 = s.1 95 23 → Q t) : fw_224 x Q s := by
  unfold fw_224
  refine ⟨fun t => ∃ (P' : ln_P) (o' : List (Int × Int)), ln_C z f n b P' c o' t ∧ t.1 95 23 = s.1 95 23 ∧ ln_st x P' = ln_st x P ∧ ln_so x P' o' = ln_so x P o, ?_, ⟨P, o, h, rfl, rfl, rfl⟩⟩
  intro t ⟨P', o', hC, h23, e1, e2⟩
  have e19 : t.1 95 19 = P'.length := hC.2.2.1
  unfold fw_224_p0
  intro _
  rw [e19]
  cases P' with
  | nil =>
    have g1 : ([] : ln_P) = ln_st x P := e1
    have g2 : o' = ln_so x P o := e2
    refine ⟨fun _ => kk t (by rw [← g1, ← g2]; exact hC) h23, fun q => absurd (by decide) q⟩
  | cons e P' =>
    have el : ((e :: P').length : Int) = (P'.length : Int) + 1 := by rw [List.length_cons]; omega
    rw [el]
    refine ⟨fun q => by omega, fun _ _ => fl_222 ?_⟩
    rw [show (P'.length : Int) + 1 - 1 = P'.length by omega, hC.2.2.2.1.1]
    intro _ _
    refine ⟨fun q => kk t ?_ h23, fun q _ => ?_⟩
    · have g1 : (if x ≤ lm_rk e.1 then ln_st x P' else e :: P') = ln_st x P := e1
      have g2 : (if x ≤ lm_rk e.1 then ln_so x P' ((e.1, 0) :: o') else o') = ln_so x P o := e2
      rw [if_neg (by omega)] at g1 g2
      rw [← g1, ← g2]; exact hC
    · have g1 : (if x ≤ lm_rk e.1 then ln_st x P' else e :: P') = ln_st x P := e1
      have g2 : (if x ≤ lm_rk e.1 then ln_so x P' ((e.1, 0) :: o') else o') = ln_so x P o := e2
      rw [if_pos (by omega)] at g1 g2
      have n40 : ¬ 40 ≤ e.1 := fun w => by rw [lm_rk0 w] at q; omega
      obtain ⟨hT, hv⟩ := ln_tail hC (by omega)
      have dpE : lm_dp (ln_e (e :: P')) = (if 40 ≤ e.1 ∨ e.1 = 3 ∨ e.1 = 20 then 1 else 0) + lm_dp (ln_e P') := rfl
      have h2 : ln_S z f n b P' P'.length (lm_dp (ln_e (e :: P'))) (ln_nl P') c o' (lf_up t.1 95 19 (P'.length : Int), t.2.1, t.2.2) :=
        ln_Sx hT rfl (fun q hq => zu_r hq) (fun i hi => zu_i (by omega)) zu_s ((zu_i (by decide)).trans hC.2.2.2.2.1) ((zu_i (by decide)).trans (hC.2.2.2.2.2.1.trans (ln_nlN (by omega) (by omega)))) ((zu_i (by decide)).trans hC.2.2.2.2.2.2.2.2.1) hC.2.2.2.2.2.2.2.2.2.2.2
      rw [e19, el, show (P'.length : Int) + 1 - 1 = P'.length by omega, hv]
      refine fl_225 h2 (fun u hu u95 uq => ?_)
      intro _ _
      have u19 : u.1 95 19 = P'.length := hu.2.2.1
      have u100 : u.1 100 P'.length = e.1 := by rw [uq 100 (by decide) (by decide)]; exact (zu_c (by decide)).trans hv
      have u23 : u.1 95 23 = s.1 95 23 := (u95 23 (by decide)).trans ((zu_i (by decide)).trans h23)
      rw [u19, u100]
      have fin : (e.1 = 3 ∨ e.1 = 20) → fw_224_p76 (fun t => ∃ (P' : ln_P) (o' : List (Int × Int)), ln_C z f n b P' c o' t ∧ t.1 95 23 = s.1 95 23 ∧ ln_st x P' = ln_st x P ∧ ln_so x P' o' = ln_so x P o) Q x u := by
        intro w
        refine ⟨P', (e.1, 0) :: o', ln_Sx hu rfl (fun q hq => zu_r hq) (fun i hi => zu_i (by omega)) ((zu_i (by decide)).trans hu.2.2.1) ?_ ((zu_i (by decide)).trans hu.2.2.2.2.2.1) ((zu_i (by decide)).trans hu.2.2.2.2.2.2.2.2.1) hu.2.2.2.2.2.2.2.2.2.2.2, (zu_i (by decide)).trans u23, g1, g2⟩
        refine zu_s.trans ?_
        rw [hu.2.2.2.2.1, dpE, if_pos (by omega)]; omega
      refine ⟨fun w => fin (Or.inl w), fun w => ⟨fun w2 => ⟨P', (e.1, 0) :: o', ?_, u23, g1, g2⟩, fun w2 => fin (Or.inr (Classical.not_not.mp w2))⟩⟩
      rw [dpE, if_neg (by omega)] at hu
      unfold ln_C
      rw [show (0 : Int) + lm_dp (ln_e P') = lm_dp (ln_e P') by omega] at hu
      exact hu
theorem fl_220 {Q : Int → lf_Z → Prop} (hp : ln_pl (s.1 100) P) (hm : s.1 95 19 = P.length) (kk : Q (ln_oa P) s) : fw_220 Q s := by
  unfold fw_220
  refine ⟨fun x t => t = s ∧ ∃ P' : ln_P, x = P'.length - 1 ∧ ln_pl (s.1 100) P' ∧ ln_oa P' = ln_oa P, ?_, ⟨rfl, P, by rw [hm], hp, rfl⟩⟩
  intro x t ⟨et, P', hx, hp', e⟩
  rw [et]
  unfold fw_220_p7
  intro _
  cases P' with
  | nil =>
    have hx : x = -1 := hx.trans (by decide)
    refine ⟨fun _ => ?_, fun q => absurd (show x < 0 by omega) q⟩
    have w : Q (ln_oa P) s := kk
    rw [← e] at w
    rw [hx]; exact w
  | cons a P' =>
    have hx : x = P'.length := by rw [hx, List.length_cons]; omega
    refine ⟨fun q => by omega, fun _ _ => ?_⟩
    intro _
    have e : (if 40 ≤ a.1 then (P'.length : Int) else ln_oa P') = ln_oa P := e
    have ha : s.1 100 x = a.1 := by rw [hx]; exact hp'.1
    rw [ha]
    refine ⟨fun q => ?_, fun q => ?_⟩
    · rw [if_pos q] at e
      rw [hx, e]; exact kk
    · rw [if_neg q] at e
      exact ⟨rfl, P', by omega, hp'.2, e⟩
theorem fl_219 {Q : Int → lf_Z → Prop} (hp : ln_pl (s.1 100) P) (hm : s.1 95 19 = P.length) (kk : Q (lm_op (ln_e P)) s) : fw_219 Q s := by
  unfold fw_219
  refine fl_220 hp hm (fun _ => ⟨fun q => fl_220 hp hm (fun _ => ?_), fun q => ?_⟩)
  · rw [(ln_oaE P hp).2 q]; exact kk
  · rw [(ln_oaE P hp).1 (by omega)] at kk; exact kk
theorem fl_221 {Q : Bool → lf_Z → Prop} (hp : ln_pl (s.1 100) P) (hm : s.1 95 19 = P.length) (kk : Q (lm_cp (ln_e P)) s) : fw_221 Q s := by
  unfold fw_221
  refine ⟨fun x t => t = s ∧ ∃ P' : ln_P, x = P'.length - 1 ∧ ln_pl (s.1 100) P' ∧ lm_cp (ln_e P') = lm_cp (ln_e P), ?_, ⟨rfl, P, by rw [hm], hp, rfl⟩⟩
  intro x t ⟨et, P', hx, hp', e⟩
  rw [et]
  unfold fw_221_p7
  intro _
  cases P' with
  | nil =>
    have hx : x = -1 := hx.trans (by decide)
    refine ⟨fun _ => ?_, fun q => absurd (show x < 0 by omega) q⟩
    unfold fw_221_p30
    intro _
    refine ⟨fun _ => ?_, fun q => absurd (show x < 0 by omega) q⟩
    have e : false = lm_cp (ln_e P) := e
    rw [e]; exact kk
  | cons a P' =>
    have hx : x = P'.length := by rw [hx, List.length_cons]; omega
    have ha : s.1 100 x = a.1 := by rw [hx]; exact hp'.1
    have e : (if 4 < lm_rk a.1 then lm_cp (ln_e P') else decide (lm_rk a.1 = 4)) = lm_cp (ln_e P) := e
    refine ⟨fun q => by omega, fun _ _ => fl_222 ?_⟩
    rw [ha]
    intro _
    refine ⟨fun q => ?_, fun q => ?_⟩
    · rw [if_neg (by omega)] at e
      unfold fw_221_p30
      intro _
      refine ⟨fun q => by omega, fun _ _ => fl_222 ?_⟩
      rw [ha]
      intro _
      refine ⟨fun q => ?_, fun q => ?_⟩
      · rw [decide_eq_false q] at e
        rw [e]; exact kk
      · rw [decide_eq_true (Classical.not_not.mp q)] at e
        rw [e]; exact kk
    · rw [if_pos (by omega)] at e
      exact ⟨rfl, P', by omega, hp'.2, e⟩
theorem fl_235 {Q : Bool → lf_Z → Prop} (hp : ln_pl (s.1 100) P) (hm : s.1 95 19 = P.length) (kk : Q (lm_ah (ln_e P)) s) : fw_235 Q s := by
  unfold fw_235
  refine fl_219 hp hm ?_
  unfold lm_ah at kk
  intro _
  refine ⟨fun q => ?_, fun q _ => ?_⟩
  · rw [decide_eq_false q] at kk; exact kk
  · have q := Classical.not_not.mp q
    rw [decide_eq_true q, Bool.true_and] at kk
    cases P with
    | nil => exact absurd q (by decide)
    | cons a P =>
      have ha : s.1 100 (s.1 95 19 - 1) = a.1 := by
        rw [hm, List.length_cons, show (((P.length + 1 : Nat) : Int) - 1) = P.length by omega]; exact hp.1
      rw [ha]
      have kk : Q (decide (a.1 = 41) || (decide (1 ≤ lm_rk a.1) && decide (lm_rk a.1 ≤ 3))) s := kk
      intro _
      refine ⟨fun w => ?_, fun w => fl_222 (fl_183 ?_)⟩
      · rw [decide_eq_true w, Bool.true_or] at kk; exact kk
      · rw [decide_eq_false w, Bool.false_or] at kk
        refine ⟨fun y => ?_, fun y => ?_⟩
        · rw [y] at kk; exact kk
        · rw [y] at kk; exact kk
end LB
