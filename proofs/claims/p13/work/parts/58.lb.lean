/-! the reference's pile: its cells as a list (top first: code, letter, slot), what it writes (the latest first) -/
section LB
abbrev ln_P : Type := List (Int × Int × Int)
def ln_e (P : ln_P) : lm_P := P.map (fun e => (e.1, e.2.1))
def ln_st (k : Int) : ln_P → ln_P
  | [] => []
  | e :: P => if k ≤ lm_rk e.1 then ln_st k P else e :: P
def ln_so (k : Int) : ln_P → List (Int × Int) → List (Int × Int)
  | [], o => o
  | e :: P, o => if k ≤ lm_rk e.1 then ln_so k P ((e.1, 0) :: o) else o
def ln_g : ln_P → Int → Int
  | [] => fun _ => -1
  | e :: P => if e.1 = 45 then ds_u1 (ln_g P) e.2.1 e.2.2 else ln_g P
def ln_pl (F : Int → Int) : ln_P → Prop
  | [] => True
  | e :: P => F P.length = e.1 ∧ ln_pl F P
def ln_nl : ln_P → Int
  | [] => 0
  | e :: P => (if e.1 = 44 ∨ e.1 = 45 then 1 else 0) + ln_nl P
def ln_le (L W : Int → Int) : ln_P → Prop
  | [] => True
  | e :: P => ((e.1 = 44 ∨ e.1 = 45) → L (ln_nl P) = e.2.1 ∧ 0 ≤ e.2.1 ∧ e.2.1 < 26) ∧ (e.1 = 45 → W (ln_nl P) = ln_g P e.2.1 ∧ 0 ≤ e.2.2) ∧ ln_le L W P
def ln_ou (F : Int → Int) (a : Int) : List (Int × Int) → Prop
  | [] => True
  | e :: o => F (a + 2 * o.length) = e.1 ∧ F (a + 2 * o.length + 1) = e.2 ∧ ln_ou F a o
/-- the place of what is open at last -/
def ln_oa : ln_P → Int
  | [] => -1
  | e :: P => if 40 ≤ e.1 then P.length else ln_oa P
variable {f F G L W L' W' : Int → Int} {n b c m d k a : Int} {P : ln_P} {o : List (Int × Int)} {s t z : lf_Z}
theorem ln_plx : ∀ P : ln_P, (∀ j : Int, 0 ≤ j → j < P.length → G j = F j) → ln_pl F P → ln_pl G P := by
  intro P
  induction P with
  | nil => intro _ _; trivial
  | cons e P ih =>
    intro h p
    refine ⟨(h _ (by omega) (by rw [List.length_cons]; omega)).trans p.1, ih (fun j h0 h1 => h j h0 (by rw [List.length_cons]; omega)) p.2⟩
theorem ln_nl0 : ∀ P : ln_P, 0 ≤ ln_nl P := by
  intro P
  induction P with
  | nil => exact Int.le_refl _
  | cons e P ih => show 0 ≤ (if e.1 = 44 ∨ e.1 = 45 then 1 else 0) + ln_nl P; split <;> omega
theorem ln_nlL {e : Int × Int × Int} (h : e.1 = 44 ∨ e.1 = 45) : ln_nl (e :: P) = 1 + ln_nl P := by
  show (if e.1 = 44 ∨ e.1 = 45 then 1 else 0) + ln_nl P = _
  rw [if_pos h]
theorem ln_nlN {e : Int × Int × Int} (h : e.1 ≠ 44) (h2 : e.1 ≠ 45) : ln_nl (e :: P) = ln_nl P := by
  show (if e.1 = 44 ∨ e.1 = 45 then 1 else 0) + ln_nl P = _
  rw [if_neg (fun q => q.elim h h2)]; omega
theorem ln_lex : ∀ P : ln_P, (∀ j : Int, 0 ≤ j → j < ln_nl P → L' j = L j ∧ W' j = W j) → ln_le L W P → ln_le L' W' P := by
  intro P
  induction P with
  | nil => intro _ _; trivial
  | cons e P ih =>
    intro h p
    obtain ⟨p1, p2, p3⟩ := p
    have h0 := ln_nl0 P
    refine ⟨fun q => ?_, fun q => ?_, ih (fun j h0 h1 => h j h0 ?_) p3⟩
    · rw [(h _ h0 (by rw [ln_nlL q]; omega)).1]; exact p1 q
    · rw [(h _ h0 (by rw [ln_nlL (Or.inr q)]; omega)).2]; exact p2 q
    · show j < (if e.1 = 44 ∨ e.1 = 45 then 1 else 0) + ln_nl P
      split <;> omega
theorem ln_oux : ∀ o : List (Int × Int), (∀ j : Int, j < a + 2 * o.length → G j = F j) → ln_ou F a o → ln_ou G a o := by
  intro o
  induction o with
  | nil => intro _ _; trivial
  | cons e o ih =>
    intro h p
    obtain ⟨p1, p2, p3⟩ := p
    refine ⟨(h _ (by rw [List.length_cons]; omega)).trans p1, (h _ (by rw [List.length_cons]; omega)).trans p2, ih (fun j hj => h j (by rw [List.length_cons]; omega)) p3⟩
theorem ln_est : ∀ P : ln_P, ln_e (ln_st k P) = lm_st k (ln_e P) := by
  intro P
  induction P with
  | nil => rfl
  | cons e P ih =>
    show ln_e (if k ≤ lm_rk e.1 then ln_st k P else e :: P) = (if k ≤ lm_rk e.1 then lm_st k (ln_e P) else (e.1, e.2.1) :: ln_e P)
    split
    · exact ih
    · rfl
theorem ln_dpst : ∀ P : ln_P, lm_dp (ln_e (ln_st k P)) ≤ lm_dp (ln_e P) := by
  intro P
  induction P with
  | nil => exact Int.le_refl _
  | cons e P ih =>
    show lm_dp (ln_e (if k ≤ lm_rk e.1 then ln_st k P else e :: P)) ≤ (if 40 ≤ e.1 ∨ e.1 = 3 ∨ e.1 = 20 then 1 else 0) + lm_dp (ln_e P)
    by_cases c : k ≤ lm_rk e.1
    · rw [if_pos c]; split <;> omega
    · rw [if_neg c]; exact Int.le_refl _
theorem ln_opB : ∀ P : lm_P, lm_op P = -1 ∨ 40 ≤ lm_op P := by
  intro P
  induction P with
  | nil => exact Or.inl rfl
  | cons e P ih =>
    show (if 40 ≤ e.1 then e.1 else lm_op P) = -1 ∨ 40 ≤ (if 40 ≤ e.1 then e.1 else lm_op P)
    by_cases c : 40 ≤ e.1
    · rw [if_pos c]; exact Or.inr c
    · rw [if_neg c]; exact ih
theorem ln_st1 : ∀ P : ln_P, 0 ≤ lm_op (ln_e P) → ∃ e P', ln_st 1 P = e :: P' ∧ 40 ≤ e.1 ∧ e.1 = lm_op (ln_e P) := by
  intro P
  induction P with
  | nil => intro h; exact absurd h (by decide)
  | cons e P ih =>
    intro h
    have h : 0 ≤ (if 40 ≤ e.1 then e.1 else lm_op (ln_e P)) := h
    show ∃ e' P', (if 1 ≤ lm_rk e.1 then ln_st 1 P else e :: P) = e' :: P' ∧ 40 ≤ e'.1 ∧ e'.1 = (if 40 ≤ e.1 then e.1 else lm_op (ln_e P))
    by_cases c : 40 ≤ e.1
    · rw [if_pos c, if_neg (by rw [lm_rk0 c]; omega)]
      exact ⟨e, P, rfl, c, rfl⟩
    · rw [if_neg c] at h ⊢
      rw [if_pos (lm_rkp c)]
      exact ih h
theorem ln_gB : ∀ P : ln_P, ln_le L W P → ∀ j : Int, ln_g P j = -1 ∨ 0 ≤ ln_g P j := by
  intro P
  induction P with
  | nil => intro _ _; exact Or.inl rfl
  | cons e P ih =>
    intro h j
    by_cases q : e.1 = 45
    · rw [show ln_g (e :: P) = ds_u1 (ln_g P) e.2.1 e.2.2 from if_pos q]
      unfold ds_u1
      split
      · exact Or.inr (h.2.1 q).2
      · exact ih h.2.2 j
    · rw [show ln_g (e :: P) = ln_g P from if_neg q]
      exact ih h.2.2 j
theorem ds_slB {x : Int} : 0 ≤ ds_sl x := by unfold ds_sl; omega
theorem ln_gE : ∀ P : ln_P, ln_le L W P → ∀ j : Int, (ln_g P j ≠ -1 ↔ lm_g (ln_e P) j ≠ -1) := by
  intro P
  induction P with
  | nil => intro _ _; exact Iff.rfl
  | cons e P ih =>
    intro h j
    by_cases q : e.1 = 45
    · rw [show ln_g (e :: P) = ds_u1 (ln_g P) e.2.1 e.2.2 from if_pos q, show lm_g (ln_e (e :: P)) = ds_u1 (lm_g (ln_e P)) e.2.1 (ds_sl (1 + lm_dp (ln_e P))) from if_pos q]
      unfold ds_u1
      by_cases y : j = e.2.1
      · rw [if_pos y, if_pos y]
        have := (h.2.1 q).2
        have := ds_slB (x := 1 + lm_dp (ln_e P))
        constructor <;> intro <;> omega
      · rw [if_neg y, if_neg y]; exact ih h.2.2 j
    · rw [show ln_g (e :: P) = ln_g P from if_neg q, show lm_g (ln_e (e :: P)) = lm_g (ln_e P) from if_neg q]
      exact ih h.2.2 j
theorem ln_oaE : ∀ P : ln_P, ln_pl F P → (ln_oa P < 0 → lm_op (ln_e P) = -1) ∧ (0 ≤ ln_oa P → F (ln_oa P) = lm_op (ln_e P)) := by
  intro P
  induction P with
  | nil => intro _; exact ⟨fun _ => rfl, fun q => absurd q (by decide)⟩
  | cons e P ih =>
    intro h
    show ((if 40 ≤ e.1 then (P.length : Int) else ln_oa P) < 0 → (if 40 ≤ e.1 then e.1 else lm_op (ln_e P)) = -1) ∧ (0 ≤ (if 40 ≤ e.1 then (P.length : Int) else ln_oa P) → F (if 40 ≤ e.1 then (P.length : Int) else ln_oa P) = (if 40 ≤ e.1 then e.1 else lm_op (ln_e P)))
    by_cases c : 40 ≤ e.1
    · rw [if_pos c, if_pos c]
      exact ⟨fun q => by omega, fun _ => h.1⟩
    · rw [if_neg c, if_neg c]
      exact ih h.2
/-! what holds while a sum is read -/
def ln_F (z t : lf_Z) : Prop := (∀ c : Nat, c ≠ 95 → c ≠ 98 → c ≠ 100 → c ≠ 101 → c ≠ 102 → c ≠ 103 → t.1 c = z.1 c) ∧ (∀ i : Int, ¬ (7 ≤ i ∧ i ≤ 10) → i ≠ 13 → ¬ (19 ≤ i ∧ i ≤ 23) → t.1 95 i = z.1 95 i) ∧ (∀ i : Int, i < z.1 95 12 + 97 → t.1 98 i = z.1 98 i) ∧ t.2.2 = z.2.2
/-- pile P, so many cells, so many open, so many lets, so many slots, and what is written -/
def ln_S (z : lf_Z) (f : Int → Int) (n b : Int) (P : ln_P) (m d k c : Int) (o : List (Int × Int)) (s : lf_Z) : Prop :=
  ln_F z s ∧ la_B f n b s ∧ s.1 95 19 = m ∧ ln_pl (s.1 100) P ∧ s.1 95 20 = d ∧ s.1 95 21 = k ∧ ln_le (s.1 101) (s.1 102) P ∧ (∀ j : Int, 0 ≤ j → j < 26 → s.1 103 j = ln_g P j) ∧ s.1 95 22 = c ∧ s.1 95 13 = o.length ∧ ln_ou (s.1 98) (z.1 95 12 + 97) o ∧ 0 ≤ c
def ln_C (z : lf_Z) (f : Int → Int) (n b : Int) (P : ln_P) (c : Int) (o : List (Int × Int)) (s : lf_Z) : Prop := ln_S z f n b P P.length (lm_dp (ln_e P)) (ln_nl P) c o s
theorem la_Bx (h : la_B f n b s) (e1 : t.1 99 = s.1 99) (e2 : ∀ i : Int, (i = 4 ∨ (7 ≤ i ∧ i ≤ 10)) → t.1 95 i = s.1 95 i) (e3 : t.2.1 = s.2.1) : la_B f n b t := by
  obtain ⟨h1, h2, h3, h4⟩ := h
  refine ⟨e1.trans h1, (e2 4 (by omega)).trans h2, ?_, h4⟩
  unfold rt_at at h3 ⊢
  rw [e1, e3, e2 4 (by omega), e2 7 (by omega), e2 8 (by omega), e2 9 (by omega), e2 10 (by omega)]
  exact h3
/-- cells of the object alone -/
theorem ln_Sx {m' d' k' c' : Int} (h : ln_S z f n b P m d k c o s) (eJ : t.2 = s.2) (e : ∀ q : Nat, q ≠ 95 → t.1 q = s.1 q) (e2 : ∀ i : Int, ¬ (19 ≤ i ∧ i ≤ 23) → t.1 95 i = s.1 95 i) (e19 : t.1 95 19 = m') (e20 : t.1 95 20 = d') (e21 : t.1 95 21 = k') (e22 : t.1 95 22 = c') (hc : 0 ≤ c') : ln_S z f n b P m' d' k' c' o t := by
  obtain ⟨hF, hB, h19, hp, h20, h21, hl, hg, h22, h13, ho, h0⟩ := h
  refine ⟨⟨fun q a1 a2 a3 a4 a5 a6 => (e q a1).trans (hF.1 q a1 a2 a3 a4 a5 a6), fun i a1 a2 a3 => (e2 i a3).trans (hF.2.1 i a1 a2 a3), fun i hi => (by rw [e 98 (by decide)]; exact hF.2.2.1 i hi), (by rw [eJ]; exact hF.2.2.2)⟩, la_Bx hB (e 99 (by decide)) (fun i hi => e2 i (by omega)) (by rw [eJ]), e19, (by rw [e 100 (by decide)]; exact hp), e20, e21, (by rw [e 101 (by decide), e 102 (by decide)]; exact hl), (by rw [e 103 (by decide)]; exact hg), e22, (e2 13 (by omega)).trans h13, (by rw [e 98 (by decide)]; exact ho), hc⟩
/-- rows alone -/
theorem ln_Sr {P' : ln_P} (h : ln_S z f n b P m d k c o s) (eJ : t.2 = s.2) (e : ∀ q : Nat, q ≠ 100 → q ≠ 101 → q ≠ 102 → q ≠ 103 → t.1 q = s.1 q) (hp' : ln_pl (t.1 100) P') (hl' : ln_le (t.1 101) (t.1 102) P') (hg' : ∀ j : Int, 0 ≤ j → j < 26 → t.1 103 j = ln_g P' j) : ln_S z f n b P' m d k c o t := by
  obtain ⟨hF, hB, h19, hp, h20, h21, hl, hg, h22, h13, ho, h0⟩ := h
  have e95 := e 95 (by decide) (by decide) (by decide) (by decide)
  have e98 := e 98 (by decide) (by decide) (by decide) (by decide)
  refine ⟨⟨fun q a1 a2 a3 a4 a5 a6 => (e q a3 a4 a5 a6).trans (hF.1 q a1 a2 a3 a4 a5 a6), fun i a1 a2 a3 => (by rw [e95]; exact hF.2.1 i a1 a2 a3), fun i hi => (by rw [e98]; exact hF.2.2.1 i hi), (by rw [eJ]; exact hF.2.2.2)⟩, la_Bx hB (e 99 (by decide) (by decide) (by decide) (by decide)) (fun i _ => by rw [e95]) (by rw [eJ]), (by rw [e95]; exact h19), hp', (by rw [e95]; exact h20), (by rw [e95]; exact h21), hl', hg', (by rw [e95]; exact h22), (by rw [e95]; exact h13), (by rw [e98]; exact ho), h0⟩
/-- a cell of the pile -/
theorem ln_S100 {i v : Int} (h : ln_S z f n b P m d k c o s) (hi : (P.length : Int) ≤ i) : ln_S z f n b P m d k c o (lf_up s.1 100 i v, s.2.1, s.2.2) := by
  obtain ⟨t, ht⟩ : ∃ t : lf_Z, t = (lf_up s.1 100 i v, s.2.1, s.2.2) := ⟨_, rfl⟩
  rw [← ht]
  have e : ∀ q : Nat, q ≠ 100 → t.1 q = s.1 q := fun q hq => by rw [ht]; exact zu_r hq
  have e3 : ∀ j : Int, j ≠ i → t.1 100 j = s.1 100 j := fun j hj => by rw [ht]; exact zu_i hj
  exact ln_Sr h (by rw [ht]) (fun q a _ _ _ => e q a) (ln_plx P (fun j _ hj => e3 j (by omega)) h.2.2.2.1) (by rw [e 101 (by decide), e 102 (by decide)]; exact h.2.2.2.2.2.2.1) (by rw [e 103 (by decide)]; exact h.2.2.2.2.2.2.2.1)
/-- one more that is no let -/
theorem ln_cons {e : Int × Int × Int} (h : ln_S z f n b P m d k c o s) (h44 : e.1 ≠ 44) (h45 : e.1 ≠ 45) (hv : s.1 100 P.length = e.1) : ln_S z f n b (e :: P) m d k c o s := by
  refine ln_Sr h rfl (fun _ _ _ _ _ => rfl) ⟨hv, h.2.2.2.1⟩ ⟨fun q => absurd q (fun q => q.elim h44 h45), fun q => absurd q h45, h.2.2.2.2.2.2.1⟩ ?_
  rw [show ln_g (e :: P) = ln_g P from if_neg h45]
  exact h.2.2.2.2.2.2.2.1
theorem ln_tail {e : Int × Int × Int} (h : ln_S z f n b (e :: P) m d k c o s) (h45 : e.1 ≠ 45) : ln_S z f n b P m d k c o s ∧ s.1 100 P.length = e.1 := by
  refine ⟨ln_Sr h rfl (fun _ _ _ _ _ => rfl) h.2.2.2.1.2 h.2.2.2.2.2.2.1.2.2 ?_, h.2.2.2.1.1⟩
  have := h.2.2.2.2.2.2.2.1
  rw [show ln_g (e :: P) = ln_g P from if_neg h45] at this
  exact this
/-- a let begins: its letter -/
theorem ln_let {v : Int} (h : ln_S z f n b P m d (ln_nl P) c o s) (hv : s.1 100 P.length = 44) (h0 : 0 ≤ v) (h1 : v < 26) : ln_S z f n b ((44, v, 0) :: P) m d (ln_nl P) c o (lf_up s.1 101 (ln_nl P) v, s.2.1, s.2.2) := by
  obtain ⟨t, ht⟩ : ∃ t : lf_Z, t = (lf_up s.1 101 (ln_nl P) v, s.2.1, s.2.2) := ⟨_, rfl⟩
  rw [← ht]
  have e : ∀ q : Nat, q ≠ 101 → t.1 q = s.1 q := fun q hq => by rw [ht]; exact zu_r hq
  have e3 : ∀ j : Int, j ≠ ln_nl P → t.1 101 j = s.1 101 j := fun j hj => by rw [ht]; exact zu_i hj
  have e4 : t.1 101 (ln_nl P) = v := by rw [ht]; exact zu_s
  refine ln_Sr h (by rw [ht]) (fun q _ a _ _ => e q a) ⟨by rw [e 100 (by decide)]; exact hv, by rw [e 100 (by decide)]; exact h.2.2.2.1⟩ ⟨fun _ => ⟨e4, h0, h1⟩, fun q => absurd q (show ¬ (44 : Int) = 45 by decide), ?_⟩ ?_
  · rw [e 102 (by decide)]
    exact ln_lex P (fun j _ hj => ⟨e3 j (by omega), rfl⟩) h.2.2.2.2.2.2.1
  · rw [e 103 (by decide), show ln_g ((44, v, 0) :: P) = ln_g P from if_neg (show ¬ (44 : Int) = 45 by decide)]
    exact h.2.2.2.2.2.2.2.1
/-- a let's letter stands from here on -/
theorem ln_bnd {v x : Int} (h : ln_S z f n b P m d k c o s) (hv : s.1 100 P.length = 45) (hL : s.1 101 (ln_nl P) = v) (h0 : 0 ≤ v) (h1 : v < 26) (hx : 0 ≤ x) : ln_S z f n b ((45, v, x) :: P) m d k c o (lf_up (lf_up s.1 102 (ln_nl P) (s.1 103 v)) 103 v x, s.2.1, s.2.2) := by
  obtain ⟨t, ht⟩ : ∃ t : lf_Z, t = (lf_up (lf_up s.1 102 (ln_nl P) (s.1 103 v)) 103 v x, s.2.1, s.2.2) := ⟨_, rfl⟩
  rw [← ht]
  have e : ∀ q : Nat, q ≠ 102 → q ≠ 103 → t.1 q = s.1 q := fun q h1 h2 => by rw [ht]; exact (zu_r h2).trans (lf_up_row h1)
  have e3 : ∀ j : Int, j ≠ ln_nl P → t.1 102 j = s.1 102 j := fun j hj => by rw [ht]; exact (zu_c (by decide)).trans (lf_up_i hj)
  have e4 : t.1 102 (ln_nl P) = s.1 103 v := by rw [ht]; exact (zu_c (by decide)).trans lf_up_s
  have e5 : ∀ j : Int, j ≠ v → t.1 103 j = s.1 103 j := fun j hj => by rw [ht]; exact (zu_i hj).trans (lf_up_c (by decide))
  have e6 : t.1 103 v = x := by rw [ht]; exact zu_s
  have hg := h.2.2.2.2.2.2.2.1
  refine ln_Sr h (by rw [ht]) (fun q _ _ a1 a2 => e q a1 a2) ⟨by rw [e 100 (by decide) (by decide)]; exact hv, by rw [e 100 (by decide) (by decide)]; exact h.2.2.2.1⟩ ⟨fun _ => ⟨by rw [e 101 (by decide) (by decide)]; exact hL, h0, h1⟩, fun _ => ⟨e4.trans (hg v h0 h1), hx⟩, ?_⟩ ?_
  · rw [e 101 (by decide) (by decide)]
    exact ln_lex P (fun j _ hj => ⟨rfl, e3 j (by omega)⟩) h.2.2.2.2.2.2.1
  · intro j j0 j1
    rw [show ln_g ((45, v, x) :: P) = ds_u1 (ln_g P) v x from if_pos rfl]
    unfold ds_u1
    by_cases q : j = v
    · rw [if_pos q, q]; exact e6
    · rw [if_neg q, e5 j q]; exact hg j j0 j1
/-- and no more -/
theorem ln_unb {e : Int × Int × Int} (h : ln_S z f n b (e :: P) m d k c o s) (h45 : e.1 = 45) : ln_S z f n b P m d k c o (lf_up s.1 103 (s.1 101 (ln_nl P)) (s.1 102 (ln_nl P)), s.2.1, s.2.2) := by
  obtain ⟨l1, l2, l3⟩ := h.2.2.2.2.2.2.1
  obtain ⟨l1, l4, l5⟩ := l1 (Or.inr h45)
  have hg := h.2.2.2.2.2.2.2.1
  rw [l1, (l2 h45).1]
  obtain ⟨t, ht⟩ : ∃ t : lf_Z, t = (lf_up s.1 103 e.2.1 (ln_g P e.2.1), s.2.1, s.2.2) := ⟨_, rfl⟩
  rw [← ht]
  have q3 : ∀ q : Nat, q ≠ 103 → t.1 q = s.1 q := fun q hq => by rw [ht]; exact zu_r hq
  refine ln_Sr h (by rw [ht]) (fun q _ _ _ a => q3 q a) (by rw [q3 100 (by decide)]; exact h.2.2.2.1.2) (by rw [q3 101 (by decide), q3 102 (by decide)]; exact l3) (fun j j0 j1 => ?_)
  by_cases q : j = e.2.1
  · rw [ht, q]; exact zu_s
  · have := hg j j0 j1
    rw [show ln_g (e :: P) = ds_u1 (ln_g P) e.2.1 e.2.2 from if_pos h45] at this
    unfold ds_u1 at this
    rw [if_neg q] at this
    rw [ht]
    exact (zu_i q).trans this
/-! what the reference does -/
theorem fl_222 {x : Int} {Q : Int → lf_Z → Prop} (h : Q (lm_rk x) s) : fw_222 x Q s := by
  have key : ∀ v : Int, v = lm_rk x → Q v s := fun v e => by rw [e]; exact h
  unfold fw_222
  intro _
  refine ⟨fun c1 => ⟨fun c2 => ⟨fun c3 => ⟨fun c4 => ⟨fun c5 => ⟨fun c6 => ⟨fun c7 => ?_, fun c7 => ?_⟩, fun c6 => ?_⟩, fun c5 => ?_⟩, fun c4 => ?_⟩, fun c3 => ?_⟩, fun c2 => ?_⟩, fun c1 => ?_⟩ <;>
    (refine key _ ?_; unfold lm_rk; (repeat' split) <;> omega)
/-- an order is written -/
theorem fl_225 {x y : Int} {Q : lf_Z → Prop} (h : ln_S z f n b P m d k c o s) (kk : ∀ t : lf_Z, ln_S z f n b P m d k c ((x, y) :: o) t → (∀ i : Int, i ≠ 13 → t.1 95 i = s.1 95 i) → (∀ q : Nat, q ≠ 95 → q ≠ 98 → t.1 q = s.1 q) → Q t) : fw_225 x y Q s := by
  unfold fw_225
  intro _ _
  obtain ⟨hF, hB, h19, hp, h20, h21, hl, hg, h22, h13, ho, h0⟩ := h
  have e12 : s.1 95 12 = z.1 95 12 := hF.2.1 12 (by omega) (by decide) (by omega)
  rw [e12, h13]
  obtain ⟨t, ht⟩ : ∃ t : lf_Z, t = (lf_up (lf_up (lf_up s.1 98 (z.1 95 12 + 97 + 2 * (o.length : Int)) x) 98 (z.1 95 12 + 97 + 2 * (o.length : Int) + 1) y) 95 13 ((o.length : Int) + 1), s.2.1, s.2.2) := ⟨_, rfl⟩
  rw [← ht]
  have u95 : ∀ i : Int, i ≠ 13 → t.1 95 i = s.1 95 i := fun i hi => by rw [ht]; exact (zu_i hi).trans ((lf_up_c (by decide)).trans (lf_up_c (by decide)))
  have u13 : t.1 95 13 = (o.length : Int) + 1 := by rw [ht]; exact zu_s
  have uq : ∀ q : Nat, q ≠ 95 → q ≠ 98 → t.1 q = s.1 q := fun q h1 h2 => by rw [ht]; exact (zu_r h1).trans ((lf_up_row h2).trans (lf_up_row h2))
  have ul : ∀ i : Int, i < z.1 95 12 + 97 + 2 * (o.length : Int) → t.1 98 i = s.1 98 i := fun i hi => by rw [ht]; exact (zu_c (by decide)).trans ((lf_up_i (by omega)).trans (lf_up_i (by omega)))
  have ua : t.1 98 (z.1 95 12 + 97 + 2 * (o.length : Int)) = x := by rw [ht]; exact (zu_c (by decide)).trans ((lf_up_i (by omega)).trans lf_up_s)
  have ub : t.1 98 (z.1 95 12 + 97 + 2 * (o.length : Int) + 1) = y := by rw [ht]; exact (zu_c (by decide)).trans lf_up_s
  refine kk t ⟨⟨fun q a1 a2 a3 a4 a5 a6 => (uq q a1 a2).trans (hF.1 q a1 a2 a3 a4 a5 a6), fun i a1 a2 a3 => (u95 i a2).trans (hF.2.1 i a1 a2 a3), fun i hi => (ul i (by omega)).trans (hF.2.2.1 i hi), (by rw [ht]; exact hF.2.2.2)⟩, la_Bx hB (uq 99 (by decide) (by decide)) (fun i hi => u95 i (by omega)) (by rw [ht]), (u95 19 (by decide)).trans h19, (by rw [uq 100 (by decide) (by decide)]; exact hp), (u95 20 (by decide)).trans h20, (u95 21 (by decide)).trans h21, (by rw [uq 101 (by decide) (by decide), uq 102 (by decide) (by decide)]; exact hl), (by rw [uq 103 (by decide) (by decide)]; exact hg), (u95 22 (by decide)).trans h22, ?_, ⟨ua, ub, ln_oux o ul ho⟩, h0⟩ u95 uq
  rw [u13, List.length_cons]; omega
theorem la_0 (h : la_B f n b s) : 0 ≤ s.1 95 7 := by
  obtain ⟨h1, h2, ⟨_, _, r7, _⟩, h0, _⟩ := h
  rw [r7]; exact cl_E0 h0
/-- the next token -/
theorem ln_nx {Q : lf_Z → Prop} (h : ln_S z f n b P m d k c o s) (kk : ∀ t : lf_Z, ln_S z f n (ds_ad f n b) P m d k c o t → (∀ i : Int, ¬ (7 ≤ i ∧ i ≤ 10) → t.1 95 i = s.1 95 i) → (∀ q : Nat, q ≠ 95 → t.1 q = s.1 q) → Q t) : fw_197 Q s := by
  have h7 := la_0 h.2.1
  obtain ⟨hF, hB, h19, hp, h20, h21, hl, hg, h22, h13, ho, h0⟩ := h
  obtain ⟨b1, b2, b3, b4, b5⟩ := hB
  refine fl_197 h7 (by rw [b1, b2]; exact b5) (fun t tF tA => ?_)
  obtain ⟨f1, f2, f3⟩ := tF
  have r7 : s.1 95 7 = lx_E f n b := by rw [← b1, ← b2]; exact b3.2.2.1
  rw [b1, b2, r7] at tA
  have u95 : ∀ i : Int, ¬ (7 ≤ i ∧ i ≤ 10) → t.1 95 i = s.1 95 i := fun i hi => f2 i (by omega) (by omega) (by omega) (by omega)
  refine kk t ⟨⟨fun q a1 a2 a3 a4 a5 a6 => (f1 q a1).trans (hF.1 q a1 a2 a3 a4 a5 a6), fun i a1 a2 a3 => (u95 i a1).trans (hF.2.1 i a1 a2 a3), fun i hi => (by rw [f1 98 (by decide)]; exact hF.2.2.1 i hi), f3.trans hF.2.2.2⟩, ⟨(f1 99 (by decide)).trans b1, (u95 4 (by omega)).trans b2, tA, cl_ad0 b4, b5⟩, (u95 19 (by omega)).trans h19, (by rw [f1 100 (by decide)]; exact hp), (u95 20 (by omega)).trans h20, (u95 21 (by omega)).trans h21, (by rw [f1 101 (by decide), f1 102 (by decide)]; exact hl), (by rw [f1 103 (by decide)]; exact hg), (u95 22 (by omega)).trans h22, (u95 13 (by omega)).trans h13, (by rw [f1 98 (by decide)]; exact ho), h0⟩ u95 f1
/-- what waits is settled -/
theorem fl_224 {x : Int} {Q : lf_Z → Prop} (hx : 1 ≤ x) (h : ln_C z f n b P c o s) (kk : ∀ t : lf_Z, ln_C z f n b (ln_st x P) c (ln_so x P o) t → t.1 95 23 = s.1 95 23 → Q t) : fw_224 x Q s := by
  unfold fw_224
  refine ⟨fun t => ∃ (P' : ln_P) (o' : List (Int × Int)), ln_C z f n b P' c o' t ∧ t.1 95 23 = s.1 95 23 ∧ ln_st x P' = ln_st x P ∧ ln_so x P' o' = ln_so x P o, ?_, ⟨P, o, h, rfl, rfl, rfl⟩⟩
  intro t ⟨P', o', hC, h23, e1, e2⟩
  have e19 : t.1 95 19 = P'.length := hC.2.2.1
  unfold fw_224_p0
  intro _
  rw [e19]
  cases P' with
  | nil =>
    have g1 : ([] : ln_P) = ln_st x P := e1
    have g2 : o' = ln_so x P o := e2
    refine ⟨fun _ => kk t (by rw [← g1, ← g2]; exact hC) h23, fun q => absurd (by decide) q⟩
  | cons e P' =>
    have el : ((e :: P').length : Int) = (P'.length : Int) + 1 := by rw [List.length_cons]; omega
    rw [el]
    refine ⟨fun q => by omega, fun _ _ => fl_222 ?_⟩
    rw [show (P'.length : Int) + 1 - 1 = P'.length by omega, hC.2.2.2.1.1]
    intro _ _
    refine ⟨fun q => kk t ?_ h23, fun q _ => ?_⟩
    · have g1 : (if x ≤ lm_rk e.1 then ln_st x P' else e :: P') = ln_st x P := e1
      have g2 : (if x ≤ lm_rk e.1 then ln_so x P' ((e.1, 0) :: o') else o') = ln_so x P o := e2
      rw [if_neg (by omega)] at g1 g2
      rw [← g1, ← g2]; exact hC
    · have g1 : (if x ≤ lm_rk e.1 then ln_st x P' else e :: P') = ln_st x P := e1
      have g2 : (if x ≤ lm_rk e.1 then ln_so x P' ((e.1, 0) :: o') else o') = ln_so x P o := e2
      rw [if_pos (by omega)] at g1 g2
      have n40 : ¬ 40 ≤ e.1 := fun w => by rw [lm_rk0 w] at q; omega
      obtain ⟨hT, hv⟩ := ln_tail hC (by omega)
      have dpE : lm_dp (ln_e (e :: P')) = (if 40 ≤ e.1 ∨ e.1 = 3 ∨ e.1 = 20 then 1 else 0) + lm_dp (ln_e P') := rfl
      have h2 : ln_S z f n b P' P'.length (lm_dp (ln_e (e :: P'))) (ln_nl P') c o' (lf_up t.1 95 19 (P'.length : Int), t.2.1, t.2.2) :=
        ln_Sx hT rfl (fun q hq => zu_r hq) (fun i hi => zu_i (by omega)) zu_s ((zu_i (by decide)).trans hC.2.2.2.2.1) ((zu_i (by decide)).trans (hC.2.2.2.2.2.1.trans (ln_nlN (by omega) (by omega)))) ((zu_i (by decide)).trans hC.2.2.2.2.2.2.2.2.1) hC.2.2.2.2.2.2.2.2.2.2.2
      rw [e19, el, show (P'.length : Int) + 1 - 1 = P'.length by omega, hv]
      refine fl_225 h2 (fun u hu u95 uq => ?_)
      intro _ _
      have u19 : u.1 95 19 = P'.length := hu.2.2.1
      have u100 : u.1 100 P'.length = e.1 := by rw [uq 100 (by decide) (by decide)]; exact (zu_c (by decide)).trans hv
      have u23 : u.1 95 23 = s.1 95 23 := (u95 23 (by decide)).trans ((zu_i (by decide)).trans h23)
      rw [u19, u100]
      have fin : (e.1 = 3 ∨ e.1 = 20) → fw_224_p76 (fun t => ∃ (P' : ln_P) (o' : List (Int × Int)), ln_C z f n b P' c o' t ∧ t.1 95 23 = s.1 95 23 ∧ ln_st x P' = ln_st x P ∧ ln_so x P' o' = ln_so x P o) Q x u := by
        intro w
        refine ⟨P', (e.1, 0) :: o', ln_Sx hu rfl (fun q hq => zu_r hq) (fun i hi => zu_i (by omega)) ((zu_i (by decide)).trans hu.2.2.1) ?_ ((zu_i (by decide)).trans hu.2.2.2.2.2.1) ((zu_i (by decide)).trans hu.2.2.2.2.2.2.2.2.1) hu.2.2.2.2.2.2.2.2.2.2.2, (zu_i (by decide)).trans u23, g1, g2⟩
        refine zu_s.trans ?_
        rw [hu.2.2.2.2.1, dpE, if_pos (by omega)]; omega
      refine ⟨fun w => fin (Or.inl w), fun w => ⟨fun w2 => ⟨P', (e.1, 0) :: o', ?_, u23, g1, g2⟩, fun w2 => fin (Or.inr (Classical.not_not.mp w2))⟩⟩
      rw [dpE, if_neg (by omega)] at hu
      unfold ln_C
      rw [show (0 : Int) + lm_dp (ln_e P') = lm_dp (ln_e P') by omega] at hu
      exact hu
theorem fl_220 {Q : Int → lf_Z → Prop} (hp : ln_pl (s.1 100) P) (hm : s.1 95 19 = P.length) (kk : Q (ln_oa P) s) : fw_220 Q s := by
  unfold fw_220
  refine ⟨fun x t => t = s ∧ ∃ P' : ln_P, x = P'.length - 1 ∧ ln_pl (s.1 100) P' ∧ ln_oa P' = ln_oa P, ?_, ⟨rfl, P, by rw [hm], hp, rfl⟩⟩
  intro x t ⟨et, P', hx, hp', e⟩
  rw [et]
  unfold fw_220_p7
  intro _
  cases P' with
  | nil =>
    have hx : x = -1 := hx.trans (by decide)
    refine ⟨fun _ => ?_, fun q => absurd (show x < 0 by omega) q⟩
    have w : Q (ln_oa P) s := kk
    rw [← e] at w
    rw [hx]; exact w
  | cons a P' =>
    have hx : x = P'.length := by rw [hx, List.length_cons]; omega
    refine ⟨fun q => by omega, fun _ _ => ?_⟩
    intro _
    have e : (if 40 ≤ a.1 then (P'.length : Int) else ln_oa P') = ln_oa P := e
    have ha : s.1 100 x = a.1 := by rw [hx]; exact hp'.1
    rw [ha]
    refine ⟨fun q => ?_, fun q => ?_⟩
    · rw [if_pos q] at e
      rw [hx, e]; exact kk
    · rw [if_neg q] at e
      exact ⟨rfl, P', by omega, hp'.2, e⟩
theorem fl_219 {Q : Int → lf_Z → Prop} (hp : ln_pl (s.1 100) P) (hm : s.1 95 19 = P.length) (kk : Q (lm_op (ln_e P)) s) : fw_219 Q s := by
  unfold fw_219
  refine fl_220 hp hm (fun _ => ⟨fun q => fl_220 hp hm (fun _ => ?_), fun q => ?_⟩)
  · rw [(ln_oaE P hp).2 q]; exact kk
  · rw [(ln_oaE P hp).1 (by omega)] at kk; exact kk
theorem fl_221 {Q : Bool → lf_Z → Prop} (hp : ln_pl (s.1 100) P) (hm : s.1 95 19 = P.length) (kk : Q (lm_cp (ln_e P)) s) : fw_221 Q s := by
  unfold fw_221
  refine ⟨fun x t => t = s ∧ ∃ P' : ln_P, x = P'.length - 1 ∧ ln_pl (s.1 100) P' ∧ lm_cp (ln_e P') = lm_cp (ln_e P), ?_, ⟨rfl, P, by rw [hm], hp, rfl⟩⟩
  intro x t ⟨et, P', hx, hp', e⟩
  rw [et]
  unfold fw_221_p7
  intro _
  cases P' with
  | nil =>
    have hx : x = -1 := hx.trans (by decide)
    refine ⟨fun _ => ?_, fun q => absurd (show x < 0 by omega) q⟩
    unfold fw_221_p30
    intro _
    refine ⟨fun _ => ?_, fun q => absurd (show x < 0 by omega) q⟩
    have e : false = lm_cp (ln_e P) := e
    rw [e]; exact kk
  | cons a P' =>
    have hx : x = P'.length := by rw [hx, List.length_cons]; omega
    have ha : s.1 100 x = a.1 := by rw [hx]; exact hp'.1
    have e : (if 4 < lm_rk a.1 then lm_cp (ln_e P') else decide (lm_rk a.1 = 4)) = lm_cp (ln_e P) := e
    refine ⟨fun q => by omega, fun _ _ => fl_222 ?_⟩
    rw [ha]
    intro _
    refine ⟨fun q => ?_, fun q => ?_⟩
    · rw [if_neg (by omega)] at e
      unfold fw_221_p30
      intro _
      refine ⟨fun q => by omega, fun _ _ => fl_222 ?_⟩
      rw [ha]
      intro _
      refine ⟨fun q => ?_, fun q => ?_⟩
      · rw [decide_eq_false q] at e
        rw [e]; exact kk
      · rw [decide_eq_true (Classical.not_not.mp q)] at e
        rw [e]; exact kk
    · rw [if_pos (by omega)] at e
      exact ⟨rfl, P', by omega, hp'.2, e⟩
theorem fl_235 {Q : Bool → lf_Z → Prop} (hp : ln_pl (s.1 100) P) (hm : s.1 95 19 = P.length) (kk : Q (lm_ah (ln_e P)) s) : fw_235 Q s := by
  unfold fw_235
  refine fl_219 hp hm ?_
  unfold lm_ah at kk
  intro _
  refine ⟨fun q => ?_, fun q _ => ?_⟩
  · rw [decide_eq_false q] at kk; exact kk
  · have q := Classical.not_not.mp q
    rw [decide_eq_true q, Bool.true_and] at kk
    cases P with
    | nil => exact absurd q (by decide)
    | cons a P =>
      have ha : s.1 100 (s.1 95 19 - 1) = a.1 := by
        rw [hm, List.length_cons, show (((P.length + 1 : Nat) : Int) - 1) = P.length by omega]; exact hp.1
      rw [ha]
      have kk : Q (decide (a.1 = 41) || (decide (1 ≤ lm_rk a.1) && decide (lm_rk a.1 ≤ 3))) s := kk
      intro _
      refine ⟨fun w => ?_, fun w => fl_222 (fl_183 ?_)⟩
      · rw [decide_eq_true w, Bool.true_or] at kk; exact kk
      · rw [decide_eq_false w, Bool.false_or] at kk
        refine ⟨fun y => ?_, fun y => ?_⟩
        · rw [y] at kk; exact kk
        · rw [y] at kk; exact kk
end LB
/-! the reference does the machine's steps; lo_: the machine with what it writes -/
section LC
variable {f : Int → Int} {n law b c m d k : Int} {P : ln_P} {o : List (Int × Int)} {s t z : lf_Z}
abbrev ln_T : Type := ln_P × List (Int × Int) × Int × Bool × Int
def lo_pu (f : Int → Int) (n : Int) (P : ln_P) (b : Int) (k : Int → (Int × Int) ⊕ ln_T) : (Int × Int) ⊕ ln_T := if lm_dp (ln_e P) < 8 then k (ds_ad f n b) else .inl (3, b)
def lo_one (f : Int → Int) (n : Int) (P : ln_P) (o : List (Int × Int)) (c b : Int) (e : Int × Int) : (Int × Int) ⊕ ln_T := .inr (ln_st 7 P, ln_so 7 P (e :: o), c, true, ds_ad f n b)
def lo_lt (f : Int → Int) (n : Int) (P : ln_P) (o : List (Int × Int)) (c q : Int) : (Int × Int) ⊕ ln_T := if lx_T f n q = 3 then (if lx_T f n (ds_ad f n q) = 42 then .inr ((44, lx_V f n q, 0) :: P, o, c, false, ds_ad f n (ds_ad f n q)) else .inl (1, ds_ad f n q)) else .inl (1, q)
def lo_be (f : Int → Int) (n law : Int) (P : ln_P) (o : List (Int × Int)) (c b : Int) : (Int × Int) ⊕ ln_T :=
  if lx_T f n b = 2 then (if lx_V f n b ≤ 9999 then lo_one f n P o c b (0, lx_V f n b) else .inl (2, b))
  else if lx_T f n b = 3 then (if ln_g P (lx_V f n b) ≠ -1 then lo_one f n P o c b (31, ln_g P (lx_V f n b)) else .inl (5, b))
  else if lx_T f n b = 11 then lo_pu f n P b (fun q => .inr ((3, 0, 0) :: P, o, c, false, q))
  else if lx_T f n b = 14 then lo_pu f n P b (fun q => .inr ((40, 0, 0) :: P, o, c, false, q))
  else if lx_T f n b = 37 then lo_pu f n P b (fun q => .inr ((41, 0, 0) :: P, o, c, false, q))
  else if lx_T f n b = 41 then lo_pu f n P b (lo_lt f n P o c)
  else if lx_T f n b = 44 ∧ lm_ah (ln_e P) = true then lo_pu f n P b (fun q => .inr ((20, 0, 0) :: P, o, c, false, q))
  else if (ds_name f n law b).1 = 0 then lo_one f n P o c b (1, la_nm (lx_T f n b)) else .inl ((ds_name f n law b).1, b)
def lo_hd (P : ln_P) : Int := match P with | [] => 0 | e :: _ => e.2.1
def lo_bh (f : Int → Int) (n : Int) (P : ln_P) (o : List (Int × Int)) (c b : Int) : (Int × Int) ⊕ ln_T :=
  if 0 ≤ lm_bt (lx_T f n b) (ln_e P) then .inr ((lm_bt (lx_T f n b) (ln_e P), 0, 0) :: ln_st (lm_rk (lm_bt (lx_T f n b) (ln_e P))) P, ln_so (lm_rk (lm_bt (lx_T f n b) (ln_e P))) P o, c, false, ds_ad f n b)
  else if 0 < lm_pt (lx_T f n b) (ln_e P) then
    (if lm_pt (lx_T f n b) (ln_e P) = 45 then .inr ((45, lo_hd (ln_st 1 P), c) :: (ln_st 1 P).tail, (30, c) :: ln_so 1 P o, c + 1, false, ds_ad f n b)
     else .inr ((lm_pt (lx_T f n b) (ln_e P), lo_hd (ln_st 1 P), 0) :: (ln_st 1 P).tail, ln_so 1 P o, c, false, ds_ad f n b))
  else if lm_pt (lx_T f n b) (ln_e P) = 0 then .inr (ln_st 7 (ln_st 1 P).tail, ln_so 7 (ln_st 1 P).tail (if lm_op (ln_e P) = 43 then (2, 0) :: ln_so 1 P o else ln_so 1 P o), c, true, ds_ad f n b)
  else if 0 ≤ lm_op (ln_e P) then .inl (1, b) else .inl (0, b)
def lo_sp (f : Int → Int) (n law : Int) (x : ln_T) : (Int × Int) ⊕ ln_T := if x.2.2.2.1 = true then lo_bh f n x.1 x.2.1 x.2.2.1 x.2.2.2.2 else lo_be f n law x.1 x.2.1 x.2.2.1 x.2.2.2.2
/-- what stands when one has begun -/
def ln_Q (z : lf_Z) (f : Int → Int) (n : Int) (r : (Int × Int) ⊕ ln_T) (v : Int) (t : lf_Z) : Prop :=
  match r with
  | .inl V => v = V.1 ∧ V.1 ≠ 0 ∧ la_B f n V.2 t ∧ ln_F z t
  | .inr y => v = 0 ∧ ln_C z f n y.2.2.2.2 y.1 y.2.2.1 y.2.1 t ∧ t.1 95 23 = (if y.2.2.2.1 = true then 1 else 0) ∧ lm_dp (ln_e y.1) ≤ 8
theorem ln_w {v : Int} (h : ln_S z f n b P m d k c o s) : ln_S z f n b P m d k c o (lf_up s.1 95 23 v, s.2.1, s.2.2) :=
  ln_Sx h rfl (fun q hq => zu_r hq) (fun i hi => zu_i (by omega)) ((zu_i (by decide)).trans h.2.2.1) ((zu_i (by decide)).trans h.2.2.2.2.1) ((zu_i (by decide)).trans h.2.2.2.2.2.1) ((zu_i (by decide)).trans h.2.2.2.2.2.2.2.2.1) h.2.2.2.2.2.2.2.2.2.2.2
theorem ln_19 {v : Int} (h : ln_S z f n b P m d k c o s) : ln_S z f n b P v d k c o (lf_up s.1 95 19 v, s.2.1, s.2.2) :=
  ln_Sx h rfl (fun q hq => zu_r hq) (fun i hi => zu_i (by omega)) zu_s ((zu_i (by decide)).trans h.2.2.2.2.1) ((zu_i (by decide)).trans h.2.2.2.2.2.1) ((zu_i (by decide)).trans h.2.2.2.2.2.2.2.2.1) h.2.2.2.2.2.2.2.2.2.2.2
theorem ln_20 {v : Int} (h : ln_S z f n b P m d k c o s) : ln_S z f n b P m v k c o (lf_up s.1 95 20 v, s.2.1, s.2.2) :=
  ln_Sx h rfl (fun q hq => zu_r hq) (fun i hi => zu_i (by omega)) ((zu_i (by decide)).trans h.2.2.1) zu_s ((zu_i (by decide)).trans h.2.2.2.2.2.1) ((zu_i (by decide)).trans h.2.2.2.2.2.2.2.2.1) h.2.2.2.2.2.2.2.2.2.2.2
theorem ln_21 {v : Int} (h : ln_S z f n b P m d k c o s) : ln_S z f n b P m d v c o (lf_up s.1 95 21 v, s.2.1, s.2.2) :=
  ln_Sx h rfl (fun q hq => zu_r hq) (fun i hi => zu_i (by omega)) ((zu_i (by decide)).trans h.2.2.1) ((zu_i (by decide)).trans h.2.2.2.2.1) zu_s ((zu_i (by decide)).trans h.2.2.2.2.2.2.2.2.1) h.2.2.2.2.2.2.2.2.2.2.2
theorem ln_22 {v : Int} (h : ln_S z f n b P m d k c o s) (hv : 0 ≤ v) : ln_S z f n b P m d k v o (lf_up s.1 95 22 v, s.2.1, s.2.2) :=
  ln_Sx h rfl (fun q hq => zu_r hq) (fun i hi => zu_i (by omega)) ((zu_i (by decide)).trans h.2.2.1) ((zu_i (by decide)).trans h.2.2.2.2.1) ((zu_i (by decide)).trans h.2.2.2.2.2.1) zu_s hv
theorem ln_cl (h : ln_S z f n b P m d k c o s) (hm : m = P.length) (hd : d = lm_dp (ln_e P)) (hk : k = ln_nl P) : ln_C z f n b P c o s := by
  subst hm hd hk; exact h
theorem ln_dpc {x y w : Int} : lm_dp (ln_e ((x, y, w) :: P)) = (if 40 ≤ x ∨ x = 3 ∨ x = 20 then 1 else 0) + lm_dp (ln_e P) := rfl
theorem ln_len {e : Int × Int × Int} : ((e :: P).length : Int) = (P.length : Int) + 1 := by rw [List.length_cons]; omega
/-- one is done -/
theorem fl_233 {x y : Int} {Q : lf_Z → Prop} (h : ln_C z f n b P c o s) (kk : ∀ t : lf_Z, ln_C z f n (ds_ad f n b) (ln_st 7 P) c (ln_so 7 P ((x, y) :: o)) t → t.1 95 23 = 1 → Q t) : fw_233 x y Q s := by
  unfold fw_233
  refine fl_225 h (fun u hu _ _ => ln_nx hu (fun v hv _ _ => ?_))
  have h2 : ln_C z f n (ds_ad f n b) P c ((x, y) :: o) (lf_up v.1 95 23 1, v.2.1, v.2.2) := ln_w hv
  exact fl_224 (by decide) h2 (fun t ht h23 => kk t ht (h23.trans zu_s))
theorem ln_push {x : Int} (h : ln_C z f n b P c o s) (t : lf_Z) (ht : t = (lf_up (lf_up (lf_up s.1 95 20 (s.1 95 20 + 1)) 100 (s.1 95 19) x) 95 19 (s.1 95 19 + 1), s.2.1, s.2.2)) : ln_S z f n b P (P.length + 1) (lm_dp (ln_e P) + 1) (ln_nl P) c o t ∧ t.1 100 P.length = x ∧ t.1 95 23 = s.1 95 23 := by
  have e19 : s.1 95 19 = P.length := h.2.2.1
  have e20 : s.1 95 20 = lm_dp (ln_e P) := h.2.2.2.2.1
  rw [e19, e20] at ht
  have a : ln_S z f n b P P.length (lm_dp (ln_e P) + 1) (ln_nl P) c o (lf_up s.1 95 20 (lm_dp (ln_e P) + 1), s.2.1, s.2.2) := ln_20 h
  have a2 := ln_S100 (i := P.length) (v := x) a (Int.le_refl _)
  refine ⟨?_, ?_, ?_⟩
  · rw [ht]; exact ln_19 a2
  · rw [ht]; exact (zu_c (by decide)).trans lf_up_s
  · rw [ht]; exact (zu_i (by decide)).trans ((lf_up_c (by decide)).trans (lf_up_i (by decide)))
/-- opened -/
theorem fl_234 {x : Int} {Q : Int → lf_Z → Prop} (h : ln_C z f n b P c o s) (hd : lm_dp (ln_e P) ≤ 8) (h23 : s.1 95 23 = 0) (hx : x = 40 ∨ x = 41 ∨ x = 3 ∨ x = 20) (kk : ∀ (v : Int) (t : lf_Z), ln_Q z f n (lo_pu f n P b (fun q => .inr ((x, 0, 0) :: P, o, c, false, q))) v t → Q v t) : fw_234 x Q s := by
  have e20 : s.1 95 20 = lm_dp (ln_e P) := h.2.2.2.2.1
  unfold fw_234
  intro _
  refine ⟨fun q _ => ?_, fun q => kk _ _ ?_⟩
  · obtain ⟨p1, p2, p3⟩ := ln_push (x := x) h _ rfl
    refine ln_nx p1 (fun v hv v95 vq => ?_)
    intro _
    refine ⟨fun w => by omega, fun _ => kk _ _ ?_⟩
    unfold lo_pu
    rw [if_pos (by omega)]
    refine ⟨rfl, ln_cl (ln_cons hv (e := (x, 0, 0)) (show x ≠ 44 by omega) (show x ≠ 45 by omega) ?_) ln_len.symm ?_ (ln_nlN (show x ≠ 44 by omega) (show x ≠ 45 by omega)).symm, ((v95 23 (by omega)).trans p3).trans h23, ?_⟩
    · rw [vq 100 (by decide)]; exact p2
    · rw [ln_dpc, if_pos (by omega)]; omega
    · show lm_dp (ln_e ((x, 0, 0) :: P)) ≤ 8
      rw [ln_dpc, if_pos (by omega)]; omega
  · unfold lo_pu
    rw [if_neg (by omega)]
    exact ⟨rfl, (by decide : (3 : Int) ≠ 0), h.2.1, h.1⟩
theorem fl_234L {Q : Int → lf_Z → Prop} (h : ln_C z f n b P c o s) (hd : lm_dp (ln_e P) ≤ 8) (h23 : s.1 95 23 = 0) (kk : ∀ (v : Int) (t : lf_Z), ln_Q z f n (lo_pu f n P b (lo_lt f n P o c)) v t → Q v t) : fw_234 44 Q s := by
  have e20 : s.1 95 20 = lm_dp (ln_e P) := h.2.2.2.2.1
  unfold fw_234
  intro _
  refine ⟨fun q _ => ?_, fun q => kk _ _ ?_⟩
  · obtain ⟨p1, p2, p3⟩ := ln_push (x := 44) h _ rfl
    have E : lo_pu f n P b (lo_lt f n P o c) = lo_lt f n P o c (ds_ad f n b) := if_pos (by omega)
    rw [E] at kk
    unfold lo_lt at kk
    refine ln_nx p1 (fun v hv v95 vq => ?_)
    have v100 : v.1 100 P.length = 44 := by rw [vq 100 (by decide)]; exact p2
    have v23 : v.1 95 23 = 0 := ((v95 23 (by omega)).trans p3).trans h23
    intro _
    refine ⟨fun _ => fl_232 hv.2.1 (fun w hw => ?_), fun w => absurd rfl w⟩
    intro _
    by_cases T3 : lx_T f n (ds_ad f n b) = 3
    · have V3 := la_V3 T3
      rw [if_pos T3] at hw kk
      refine ⟨fun _ => fl_232 hv.2.1 (fun w2 hw2 _ => ?_), fun q0 => by omega⟩
      rw [if_pos T3] at hw2
      have e21 : v.1 95 21 = ln_nl P := hv.2.2.2.2.2.1
      rw [e21, hw2]
      have a := ln_let hv v100 V3.1 V3.2
      have a2 : ln_C z f n (ds_ad f n b) ((44, lx_V f n (ds_ad f n b), 0) :: P) c o (lf_up (lf_up v.1 101 (ln_nl P) (lx_V f n (ds_ad f n b))) 95 21 (ln_nl P + 1), v.2.1, v.2.2) := by
        refine ln_cl (ln_21 a) ln_len.symm ?_ ?_
        · rw [ln_dpc, if_pos (by omega)]; omega
        · rw [ln_nlL (Or.inl rfl)]; omega
      refine ln_nx a2 (fun y hy y95 yq => fl_206 (fl_207 hy.2.1 22 (by decide) (by decide +kernel) ⟨fun g => ?_, fun g => kk _ _ ?_⟩))
      · have g := of_decide_eq_true g
        rw [if_pos (by omega)] at kk
        have y23 : y.1 95 23 = 0 := (y95 23 (by omega)).trans (((zu_i (by decide)).trans (lf_up_c (by decide))).trans v23)
        refine ln_nx hy (fun u hu u95 uq => kk _ _ ⟨rfl, hu, (u95 23 (by omega)).trans y23, ?_⟩)
        show lm_dp (ln_e ((44, lx_V f n (ds_ad f n b), 0) :: P)) ≤ 8
        rw [ln_dpc, if_pos (by omega)]; omega
      · have g := of_decide_eq_false g
        rw [if_neg (by omega)]
        exact ⟨rfl, (by decide : (1 : Int) ≠ 0), hy.2.1, hy.1⟩
    · rw [if_neg T3] at hw kk
      refine ⟨fun q0 => by omega, fun _ => kk _ _ ⟨rfl, (by decide : (1 : Int) ≠ 0), hv.2.1, hv.1⟩⟩
  · unfold lo_pu
    rw [if_neg (by omega)]
    exact ⟨rfl, (by decide : (3 : Int) ≠ 0), h.2.1, h.1⟩
/-! names -/
def la_of (x law : Int) : Bool := decide (x < 4) || (if x = 4 then decide (law = 0) else if x = 10 then decide (law = 2) else decide (law = 1))
theorem fl_231 {x : Int} {Q : Bool → lf_Z → Prop} (hl : s.1 95 14 = law) (kk : Q (la_of x law) s) : fw_231 x Q s := by
  have key : ∀ v : Bool, v = la_of x law → Q v s := fun v e => by rw [e]; exact kk
  unfold fw_231
  intro _
  rw [hl]
  refine ⟨fun c1 => key _ ?_, fun c1 => ⟨fun c2 => ⟨fun c3 _ => ⟨fun c4 => key _ ?_, fun c4 => key _ ?_⟩, fun c3 _ => ⟨fun c4 => key _ ?_, fun c4 => key _ ?_⟩⟩, fun c2 _ => ⟨fun c4 => key _ ?_, fun c4 => key _ ?_⟩⟩⟩
  · unfold la_of; rw [decide_eq_true c1]; rfl
  · unfold la_of; rw [decide_eq_false c1, Bool.false_or, if_neg c2, if_neg c3, decide_eq_false c4]
  · unfold la_of; rw [decide_eq_false c1, Bool.false_or, if_neg c2, if_neg c3, decide_eq_true (Classical.not_not.mp c4)]
  · unfold la_of; rw [decide_eq_false c1, Bool.false_or, if_neg c2, if_pos (Classical.not_not.mp c3), decide_eq_false c4]
  · unfold la_of; rw [decide_eq_false c1, Bool.false_or, if_neg c2, if_pos (Classical.not_not.mp c3), decide_eq_true (Classical.not_not.mp c4)]
  · unfold la_of; rw [decide_eq_false c1, Bool.false_or, if_pos (Classical.not_not.mp c2), decide_eq_false c4]
  · unfold la_of; rw [decide_eq_false c1, Bool.false_or, if_pos (Classical.not_not.mp c2), decide_eq_true (Classical.not_not.mp c4)]
theorem la_ofE : ∀ l : Nat, l < 3 → (ds_nm l 10 = la_of 9 l) ∧ (ds_nm l 9 = la_of 10 l) ∧ ∀ x : Nat, x < 9 → ds_nm l x = la_of x l := by decide +kernel
theorem la_nmB (t : Int) : (0 ≤ la_nm t ↔ (t = 24 ∨ (47 ≤ t ∧ t ≤ 56))) ∧ (t = 24 → la_nm t = 9) ∧ (t = 56 → la_nm t = 10) ∧ (47 ≤ t ∧ t ≤ 55 → la_nm t = t - 47) := by
  unfold la_nm
  refine ⟨?_, fun q => if_pos q, fun q => by rw [if_neg (by omega), if_pos q], fun q => by rw [if_neg (by omega), if_neg (by omega), if_pos q]⟩
  (repeat' split) <;> omega
/-- a name: whether it stands in the clause of this law -/
theorem la_name (h0 : 0 ≤ law) (h2 : law ≤ 2) : (0 ≤ la_nm (lx_T f n b) → (ds_name f n law b).1 = if la_of (la_nm (lx_T f n b)) law = true then 0 else 5) ∧ (¬ 0 ≤ la_nm (lx_T f n b) → (ds_name f n law b).1 = 1) := by
  obtain ⟨b1, b2, b3, b4⟩ := la_nmB (lx_T f n b)
  obtain ⟨l, rfl⟩ := Int.eq_ofNat_of_zero_le h0
  obtain ⟨e1, e2, e3⟩ := la_ofE l (by omega)
  unfold ds_name
  refine ⟨fun q => ?_, fun q => ?_⟩
  · rcases b1.mp q with w | w
    · rw [b2 w, if_pos w, ← e1]
      split <;> rfl
    · rw [if_neg (by omega), if_pos w]
      by_cases y : lx_T f n b = 56
      · rw [b3 y, y, ← e2]
        show (if ds_nm l 9 = true then (0, ds_ad f n b) else (5, b)).1 = _
        split <;> rfl
      · have := e3 (lx_T f n b - 47).toNat (by omega)
        rw [show (((lx_T f n b - 47).toNat : Nat) : Int) = lx_T f n b - 47 by omega] at this
        rw [b4 (by omega), ← this]
        split <;> rfl
  · rw [if_neg (fun w => q (b1.mpr (Or.inl w))), if_neg (fun w => q (b1.mpr (Or.inr w)))]
/-- begins one -/
theorem fl_229 {Q : Int → lf_Z → Prop} (h : ln_C z f n b P c o s) (hd : lm_dp (ln_e P) ≤ 8) (h23 : s.1 95 23 = 0) (hl : s.1 95 14 = law) (h0 : 0 ≤ law) (h2 : law ≤ 2) (kk : ∀ (v : Int) (t : lf_Z), ln_Q z f n (lo_be f n law P o c b) v t → Q v t) : fw_229 Q s := by
  have KT := la_Bk h.2.1
  unfold la_kt at KT
  have r10 : s.1 95 9 = 1 → 0 ≤ s.1 95 10 ∧ min 10000 (s.1 95 10) = lx_V f n b := by
    obtain ⟨b1, b2, b3, _⟩ := h.2.1
    have := b3.2.2.2.1
    rw [b1, b2] at this
    exact this
  obtain ⟨n1, n2, n3, n4⟩ := la_nmB (lx_T f n b)
  obtain ⟨m1, m2⟩ := la_name (f := f) (n := n) (b := b) h0 h2
  have hg : ∀ j : Int, 0 ≤ j → j < 26 → s.1 103 j = ln_g P j := h.2.2.2.2.2.2.2.1
  have one : ∀ x y : Int, lo_be f n law P o c b = lo_one f n P o c b (x, y) → fw_233 x y (fun s34 => Q 0 s34) s := fun x y e =>
    fl_233 h (fun t ht h1 => kk 0 t (by rw [e]; exact ⟨rfl, ht, h1, Int.le_trans (ln_dpst P) hd⟩))
  have bad : ∀ v : Int, v ≠ 0 → lo_be f n law P o c b = .inl (v, b) → Q v s := fun v hv e => kk v s (by rw [e]; exact ⟨rfl, hv, h.2.1, h.1⟩)
  have p79 : ∀ x1 : Int, x1 = la_nm (lx_T f n b) → (lx_T f n b = 2 → lx_V f n b ≤ 9999) → (lx_T f n b = 3 → ln_g P (lx_V f n b) ≠ -1) → (0 ≤ x1 → (ds_name f n law b).1 = 0) → (lx_T f n b = 2 ∨ lx_T f n b = 3 ∨ 0 ≤ x1) → fw_229_p79 Q x1 s := by
    intro x1 e1 g2 g3 g4 g5
    unfold fw_229_p79
    intro _
    refine ⟨fun q _ => ⟨fun q2 => ?_, fun q2 => ?_⟩, fun q => ?_⟩
    · have T3 : lx_T f n b = 3 := by omega
      have V3 := la_V3 T3
      refine fl_232 h.2.1 (fun w hw _ => ?_)
      rw [if_pos T3] at hw
      rw [hw, hg _ V3.1 V3.2]
      exact one _ _ (by unfold lo_be; rw [if_neg (by omega), if_pos T3, if_pos (g3 T3)])
    · have := n1.mp (by omega)
      have w := g4 (by omega)
      rw [e1]
      exact one _ _ (by unfold lo_be; rw [if_neg (by omega), if_neg (by omega), if_neg (by omega), if_neg (by omega), if_neg (by omega), if_neg (by omega), if_neg (fun y => by omega), if_pos w])
    · have T2 : lx_T f n b = 2 := by omega
      have r := r10 (by omega)
      have v := g2 T2
      rw [show s.1 95 10 = lx_V f n b by omega]
      exact one _ _ (by unfold lo_be; rw [if_pos T2, if_pos v])
  have p60 : ∀ x1 : Int, x1 = la_nm (lx_T f n b) → (lx_T f n b = 2 → lx_V f n b ≤ 9999) → (lx_T f n b = 3 → ln_g P (lx_V f n b) ≠ -1) → (0 ≤ x1 → (ds_name f n law b).1 = 0) → fw_229_p60 Q x1 s := by
    intro x1 e1 g2 g3 g4
    unfold fw_229_p60
    intro _
    refine ⟨fun q => p79 x1 e1 g2 g3 g4 (by omega), fun q _ => ⟨fun q2 => p79 x1 e1 g2 g3 g4 (Or.inr (Or.inr q2)), fun q2 => fl_232 h.2.1 (fun w hw => ?_)⟩⟩
    intro _
    by_cases T3 : lx_T f n b = 3
    · rw [if_pos T3] at hw
      have V3 := la_V3 T3
      exact ⟨fun q3 => by omega, fun _ => p79 x1 e1 g2 g3 g4 (Or.inr (Or.inl T3))⟩
    · rw [if_neg T3] at hw
      refine ⟨fun _ _ => ⟨fun t40 => ⟨fun t45 => ?_, fun t45 => ?_⟩, fun t40 => ?_⟩, fun q3 => by omega⟩
      · have nn := m2 (by omega)
        refine fl_206 (fl_207 h.2.1 17 (by decide) (by decide +kernel) ⟨fun z17 => ?_, fun z17 => ?_⟩)
        · have z17 := of_decide_eq_false z17
          refine fl_205 (fl_207 h.2.1 21 (by decide) (by decide +kernel) ⟨fun z21 => ?_, fun z21 => ?_⟩)
          · have z21 := of_decide_eq_false z21
            refine fl_205 (fl_207 h.2.1 24 (by decide) (by decide +kernel) ⟨fun z24 => ?_, fun z24 => ?_⟩)
            · have z24 := of_decide_eq_false z24
              refine bad 1 (by decide) ?_
              unfold lo_be
              rw [if_neg (by omega), if_neg (by omega), if_neg (by omega), if_neg (by omega), if_neg (by omega), if_neg (by omega), if_neg (fun y => by omega), if_neg (by omega), nn]
            · have z24 := of_decide_eq_true z24
              refine fl_235 h.2.2.2.1 h.2.2.1 ⟨fun y => ?_, fun y => ?_⟩
              · refine bad 1 (by decide) ?_
                unfold lo_be
                rw [if_neg (by omega), if_neg (by omega), if_neg (by omega), if_neg (by omega), if_neg (by omega), if_neg (by omega), if_neg (fun g => by rw [y] at g; exact absurd g.2 (by decide)), if_neg (by omega), nn]
              · refine fl_234 h hd h23 (by omega) (fun v t ht => kk v t ?_)
                unfold lo_be
                rw [if_neg (by omega), if_neg (by omega), if_neg (by omega), if_neg (by omega), if_neg (by omega), if_neg (by omega), if_pos ⟨by omega, y⟩]
                exact ht
          · have z21 := of_decide_eq_true z21
            refine fl_234L h hd h23 (fun v t ht => kk v t ?_)
            unfold lo_be
            rw [if_neg (by omega), if_neg (by omega), if_neg (by omega), if_neg (by omega), if_neg (by omega), if_pos (by omega)]
            exact ht
        · have z17 := of_decide_eq_true z17
          refine fl_234 h hd h23 (by omega) (fun v t ht => kk v t ?_)
          unfold lo_be
          rw [if_neg (by omega), if_neg (by omega), if_neg (by omega), if_neg (by omega), if_pos (by omega)]
          exact ht
      · refine fl_234 h hd h23 (by omega) (fun v t ht => kk v t ?_)
        unfold lo_be
        rw [if_neg (by omega), if_neg (by omega), if_pos (by omega)]
        exact ht
      · refine fl_234 h hd h23 (by omega) (fun v t ht => kk v t ?_)
        unfold lo_be
        rw [if_neg (by omega), if_neg (by omega), if_neg (by omega), if_pos (by omega)]
        exact ht
  have p39 : ∀ x1 : Int, x1 = la_nm (lx_T f n b) → (lx_T f n b = 2 → lx_V f n b ≤ 9999) → (0 ≤ x1 → (ds_name f n law b).1 = 0) → fw_229_p39 Q x1 s := by
    intro x1 e1 g2 g4
    unfold fw_229_p39
    refine fl_232 h.2.1 (fun w hw => ?_)
    intro _
    by_cases T3 : lx_T f n b = 3
    · rw [if_pos T3] at hw
      have V3 := la_V3 T3
      refine ⟨fun q => by omega, fun _ => fl_232 h.2.1 (fun w2 hw2 _ => ?_)⟩
      rw [if_pos T3] at hw2
      rw [hw2, hg _ V3.1 V3.2]
      intro _
      have B := ln_gB P h.2.2.2.2.2.2.1 (lx_V f n b)
      refine ⟨fun q => p60 x1 e1 g2 (fun _ => by omega) g4, fun q => bad 5 (by decide) ?_⟩
      unfold lo_be
      rw [if_neg (by omega), if_pos T3, if_neg (by omega)]
    · rw [if_neg T3] at hw
      exact ⟨fun _ => p60 x1 e1 g2 (fun y => absurd y T3) g4, fun q => by omega⟩
  have p20 : (lx_T f n b = 2 → lx_V f n b ≤ 9999) → fw_229_p20 Q s := by
    intro g2
    unfold fw_229_p20
    refine fl_230 h.2.1 (fun v hv => ?_)
    intro _
    refine ⟨fun q => p39 v hv g2 (fun y => by omega), fun q => fl_231 hl ?_⟩
    have nn := m1 (by omega)
    rw [← hv] at nn
    refine ⟨fun y => p39 v hv g2 (fun _ => ?_), fun y => bad 5 (by decide) ?_⟩
    · rw [nn, if_pos y]
    · rw [y] at nn
      have nn : (ds_name f n law b).1 = 5 := nn
      have := n1.mp (by omega)
      unfold lo_be
      rw [if_neg (by omega), if_neg (by omega), if_neg (by omega), if_neg (by omega), if_neg (by omega), if_neg (by omega), if_neg (fun y => by omega), if_neg (by omega), nn]
  unfold fw_229
  intro _
  refine ⟨fun q => p20 (fun y => by omega), fun q _ => ⟨fun q2 => p20 (fun _ => ?_), fun q2 => bad 2 (by decide) ?_⟩⟩
  · have := r10 (by omega)
    omega
  · have := r10 (by omega)
    unfold lo_be
    rw [if_pos (by omega), if_neg (by omega)]
end LC
/-! behind one; a sum -/
section LD
variable {f : Int → Int} {n law b c m d k : Int} {P : ln_P} {o : List (Int × Int)} {s t z : lf_Z}
theorem lm_btB (t : Int) (P : lm_P) : lm_bt t P = -1 ∨ (4 ≤ lm_bt t P ∧ lm_bt t P ≤ 22 ∧ lm_bt t P ≠ 20) := by
  unfold lm_bt
  (repeat' split) <;> omega
theorem fl_223 {Q : Int → lf_Z → Prop} (h : la_B f n b s) (kk : Q (if 4 ≤ lx_T f n b ∧ lx_T f n b ≤ 9 then 6 + lx_T f n b else -1) s) : fw_223 Q s := by
  have KT := la_Bk h
  unfold la_kt at KT
  have key : ∀ v : Int, v = (if 4 ≤ lx_T f n b ∧ lx_T f n b ≤ 9 then 6 + lx_T f n b else -1) → Q v s := fun v e => by rw [e]; exact kk
  unfold fw_223
  intro _
  refine ⟨fun c1 => ⟨fun c2 => ⟨fun c3 => ⟨fun c4 => ⟨fun c5 => ⟨fun c6 => ?_, fun c6 => ?_⟩, fun c5 => ?_⟩, fun c4 => ?_⟩, fun c3 => ?_⟩, fun c2 => ?_⟩, fun c1 => ?_⟩ <;>
    (refine key _ ?_; split <;> omega)
theorem fl_218 {Q : Int → lf_Z → Prop} (h : ln_C z f n b P c o s) (kk : ∀ v : Int, v = lm_bt (lx_T f n b) (ln_e P) → Q v s) : fw_218 Q s := by
  have KT := la_Bk h.2.1
  unfold la_kt at KT
  unfold fw_218
  intro _
  refine ⟨fun c1 => ⟨fun c2 => ⟨fun c3 => ⟨fun c4 => fl_219 h.2.2.2.1 h.2.2.1 ?_, fun c4 => ?_⟩, fun c3 => ?_⟩, fun c2 => ?_⟩, fun c1 => ?_⟩
  · intro _
    refine ⟨fun q => fl_221 h.2.2.2.1 h.2.2.1 ⟨fun y => ?_, fun y => ?_⟩, fun q => kk _ ?_⟩
    · refine fl_205 (fl_207 h.2.1 25 (by decide) (by decide +kernel) ⟨fun z25 => ?_, fun z25 => ?_⟩)
      · have z25 := of_decide_eq_false z25
        refine fl_206 (fl_207 h.2.1 26 (by decide) (by decide +kernel) ⟨fun z26 => ?_, fun z26 => ?_⟩)
        · have z26 := of_decide_eq_false z26
          refine kk _ ?_
          unfold lm_bt
          rw [if_neg (by omega), if_neg (by omega), if_neg (by omega), if_neg (by omega), if_neg (fun w => w q), if_neg (by rw [y]; decide), if_neg (by omega), if_neg (by omega)]
        · have z26 := of_decide_eq_true z26
          refine kk _ ?_
          unfold lm_bt
          rw [if_neg (by omega), if_neg (by omega), if_neg (by omega), if_neg (by omega), if_neg (fun w => w q), if_neg (by rw [y]; decide), if_neg (by omega), if_pos (by omega)]
      · have z25 := of_decide_eq_true z25
        refine kk _ ?_
        unfold lm_bt
        rw [if_neg (by omega), if_neg (by omega), if_neg (by omega), if_neg (by omega), if_neg (fun w => w q), if_neg (by rw [y]; decide), if_pos (by omega)]
    · refine fl_223 h.2.1 (kk _ (Eq.symm ?_))
      unfold lm_bt
      rw [if_neg (by omega), if_neg (by omega), if_neg (by omega), if_neg (by omega), if_neg (fun w => w q), if_pos y]
    · unfold lm_bt
      rw [if_neg (by omega), if_neg (by omega), if_neg (by omega), if_neg (by omega), if_pos q]
  · refine kk _ ?_
    unfold lm_bt
    rw [if_neg (by omega), if_neg (by omega), if_neg (by omega), if_pos (by omega)]
  · refine kk _ ?_
    unfold lm_bt
    rw [if_neg (by omega), if_neg (by omega), if_pos (by omega)]
  · refine kk _ ?_
    unfold lm_bt
    rw [if_neg (by omega), if_pos (by omega)]
  · refine kk _ ?_
    unfold lm_bt
    rw [if_pos (by omega)]
theorem fl_226 {x : Int} {Q : Int → lf_Z → Prop} (h : ln_C z f n b P c o s) (hx : x = lm_op (ln_e P)) (kk : ∀ v : Int, v = lm_pt (lx_T f n b) (ln_e P) → Q v s) : fw_226 x Q s := by
  have KT := la_Bk h.2.1
  unfold la_kt at KT
  have B := ln_opB (ln_e P)
  rw [← hx] at B
  unfold lm_pt at kk
  rw [← hx] at kk
  unfold fw_226
  intro _
  refine ⟨fun q => ?_, fun q => ?_, fun q => ?_, fun q => ?_, fun q => ?_, fun q => ?_⟩
  · rw [if_neg q.2.1, if_neg q.2.2.1, if_neg q.2.2.2.1, if_neg q.2.2.2.2, if_neg (by omega)] at kk
    refine fl_205 (fl_207 h.2.1 20 (by decide) (by decide +kernel) ⟨fun y => kk _ ?_, fun y => kk _ ?_⟩)
    · have y := of_decide_eq_false y
      rw [if_neg (by omega)]
    · have y := of_decide_eq_true y
      rw [if_pos (by omega)]
  · rw [if_neg (by omega), if_neg (by omega), if_neg (by omega), if_neg (by omega), if_pos (by omega)] at kk
    exact kk _ rfl
  · rw [if_pos q] at kk
    intro _
    refine ⟨fun y => kk _ ?_, fun y => kk _ ?_⟩
    · rw [if_neg (by omega)]
    · rw [if_pos (by omega)]
  · rw [if_neg (by omega), if_pos q] at kk
    refine fl_204 (fl_207 h.2.1 18 (by decide) (by decide +kernel) ⟨fun y => kk _ ?_, fun y => fl_221 h.2.2.2.1 h.2.2.1 ⟨fun w => kk _ ?_, fun w => kk _ ?_⟩⟩)
    · have y := of_decide_eq_false y
      rw [if_neg (fun g => by omega)]
    · rw [if_neg (fun g => by rw [w] at g; exact absurd g.2 (by decide))]
    · have y := of_decide_eq_true y
      rw [if_pos ⟨by omega, w⟩]
  · rw [if_neg (by omega), if_neg (by omega), if_pos q] at kk
    refine fl_204 (fl_207 h.2.1 19 (by decide) (by decide +kernel) ⟨fun y => kk _ ?_, fun y => kk _ ?_⟩)
    · have y := of_decide_eq_false y
      rw [if_neg (by omega)]
    · have y := of_decide_eq_true y
      rw [if_pos (by omega)]
  · rw [if_neg (by omega), if_neg (by omega), if_neg (by omega), if_pos q] at kk
    refine fl_206 (fl_207 h.2.1 23 (by decide) (by decide +kernel) ⟨fun y => kk _ ?_, fun y => kk _ ?_⟩)
    · have y := of_decide_eq_false y
      rw [if_neg (by omega)]
    · have y := of_decide_eq_true y
      rw [if_pos (by omega)]
theorem lm_ptB (t : Int) (P : lm_P) : lm_pt t P = -1 ∨ (lm_pt t P = 0 ∧ (lm_op P = 40 ∨ (40 ≤ lm_op P ∧ lm_op P ≠ 41 ∧ lm_op P ≠ 42 ∧ lm_op P ≠ 44))) ∨ (lm_pt t P = 42 ∧ lm_op P = 41) ∨ (lm_pt t P = 43 ∧ lm_op P = 42) ∨ (lm_pt t P = 45 ∧ lm_op P = 44) := by
  have B := ln_opB P
  unfold lm_pt
  (repeat' split) <;> omega
theorem ln_dpO {e : Int × Int × Int} (h : 40 ≤ e.1) : lm_dp (ln_e (e :: P)) = 1 + lm_dp (ln_e P) := by
  show (if 40 ≤ e.1 ∨ e.1 = 3 ∨ e.1 = 20 then 1 else 0) + lm_dp (ln_e P) = _
  rw [if_pos (Or.inl h)]
/-- shut -/
theorem fl_228 {e : Int × Int × Int} {Q : lf_Z → Prop} (h : ln_C z f n b (e :: P) c o s) (h40 : 40 ≤ e.1) (h44 : e.1 ≠ 44) (kk : ∀ t : lf_Z, ln_C z f n b P c (if e.1 = 43 then (2, 0) :: o else o) t → t.1 95 23 = s.1 95 23 → Q t) : fw_228 e.1 Q s := by
  have e19 : s.1 95 19 = (P.length : Int) + 1 := h.2.2.1.trans ln_len
  have e20 : s.1 95 20 = 1 + lm_dp (ln_e P) := h.2.2.2.2.1.trans (ln_dpO h40)
  have a1 : ln_S z f n b (e :: P) P.length (lm_dp (ln_e P)) (ln_nl (e :: P)) c o (lf_up (lf_up s.1 95 19 (s.1 95 19 - 1)) 95 20 (s.1 95 20 - 1), s.2.1, s.2.2) := by
    rw [e19, e20, show (P.length : Int) + 1 - 1 = P.length by omega, show 1 + lm_dp (ln_e P) - 1 = lm_dp (ln_e P) by omega]
    exact ln_20 (ln_19 h)
  have a23 : ((lf_up (lf_up s.1 95 19 (s.1 95 19 - 1)) 95 20 (s.1 95 20 - 1), s.2.1, s.2.2) : lf_Z).1 95 23 = s.1 95 23 := (zu_i (by decide)).trans (lf_up_i (by decide))
  unfold fw_228
  intro _
  generalize ((lf_up (lf_up s.1 95 19 (s.1 95 19 - 1)) 95 20 (s.1 95 20 - 1), s.2.1, s.2.2) : lf_Z) = y at a1 a23 ⊢
  have p32 : ∀ (u : lf_Z) (o' : List (Int × Int)), ln_S z f n b (e :: P) P.length (lm_dp (ln_e P)) (ln_nl (e :: P)) c o' u → u.1 95 23 = s.1 95 23 → (∀ t : lf_Z, ln_C z f n b P c o' t → t.1 95 23 = s.1 95 23 → Q t) → fw_228_p32 Q e.1 u := by
    intro u o' hu u23 k2
    unfold fw_228_p32
    intro _
    refine ⟨fun q => k2 u (ln_cl (ln_tail hu q).1 rfl rfl (ln_nlN h44 q)) u23, fun q _ _ => k2 _ ?_ ?_⟩
    · have q := Classical.not_not.mp q
      have e21 : u.1 95 21 - 1 = ln_nl P := by rw [hu.2.2.2.2.2.1, ln_nlL (Or.inr q)]; omega
      rw [e21]
      have a2 := ln_21 (v := ln_nl P) hu
      have a3 := ln_unb a2 q
      rw [show ((lf_up u.1 95 21 (ln_nl P), u.2.1, u.2.2) : lf_Z).1 101 = u.1 101 from zu_r (by decide), show ((lf_up u.1 95 21 (ln_nl P), u.2.1, u.2.2) : lf_Z).1 102 = u.1 102 from zu_r (by decide)] at a3
      exact a3
    · exact (zu_c (by decide)).trans ((lf_up_i (by decide)).trans u23)
  refine ⟨fun q => p32 _ o a1 a23 (fun t ht t23 => kk t ?_ t23), fun q => fl_225 a1 (fun u hu u95 _ => p32 u _ hu ((u95 23 (by decide)).trans a23) (fun t ht t23 => kk t ?_ t23))⟩
  · rw [if_neg q]; exact ht
  · rw [if_pos (Classical.not_not.mp q)]; exact ht
/-- a let's letter is what was summed -/
theorem fl_227 {v : Int} {Q : lf_Z → Prop} (h : ln_S z f n b P m d (ln_nl P + 1) c o s) (hv : s.1 100 P.length = 45) (hL : s.1 101 (ln_nl P) = v) (h0 : 0 ≤ v) (h1 : v < 26) (kk : ∀ t : lf_Z, ln_S z f n b ((45, v, c) :: P) m d (ln_nl P + 1) (c + 1) ((30, c) :: o) t → t.1 95 23 = s.1 95 23 → Q t) : fw_227 Q s := by
  have e21 : s.1 95 21 - 1 = ln_nl P := by rw [h.2.2.2.2.2.1]; omega
  have e22 : s.1 95 22 = c := h.2.2.2.2.2.2.2.2.1
  have hc : 0 ≤ c := h.2.2.2.2.2.2.2.2.2.2.2
  unfold fw_227
  rw [e21, hL, e22]
  intro _ _
  have a := ln_bnd h hv hL h0 h1 hc
  refine fl_225 a (fun u hu u95 uq => ?_)
  have w : u.1 95 22 = c := hu.2.2.2.2.2.2.2.2.1
  rw [w]
  refine kk _ (ln_22 hu (by omega)) ?_
  exact (zu_i (by decide)).trans ((u95 23 (by decide)).trans ((zu_c (by decide)).trans (lf_up_c (by decide))))
/-- goes on behind one -/
theorem fl_217 {Q : Bool → lf_Z → Prop} (h : ln_C z f n b P c o s) (hd : lm_dp (ln_e P) ≤ 8) (h23 : s.1 95 23 = 1) (k1 : ∀ (y : ln_T) (t : lf_Z), lo_bh f n P o c b = .inr y → ln_C z f n y.2.2.2.2 y.1 y.2.2.1 y.2.1 t → t.1 95 23 = (if y.2.2.2.1 = true then 1 else 0) → lm_dp (ln_e y.1) ≤ 8 → Q true t) (k0 : ¬ 0 ≤ lm_bt (lx_T f n b) (ln_e P) → ¬ 0 ≤ lm_pt (lx_T f n b) (ln_e P) → Q false s) : fw_217 Q s := by
  have B := lm_btB (lx_T f n b) (ln_e P)
  have PB := lm_ptB (lx_T f n b) (ln_e P)
  unfold lo_bh at k1
  unfold fw_217
  refine fl_218 h (fun v hv => ?_)
  rw [← hv] at B k0 k1
  intro _
  refine ⟨fun q => fl_219 h.2.2.2.1 h.2.2.1 (fl_226 h rfl (fun w hw => ?_)), fun q => fl_222 (fl_224 (lm_rkp (by omega)) h (fun t ht t23 => ?_))⟩
  · rw [if_neg (by omega)] at k1
    rw [← hw] at k0 k1 PB
    intro _
    refine ⟨fun q0 => fl_224 (Int.le_refl 1) h (fun t ht t23 => ?_), fun q0 => k0 (by omega) q0⟩
    obtain ⟨e, P', E, e40, eO⟩ := ln_st1 P (by omega)
    rw [E] at ht k1
    have hdE := ln_dpst (k := 1) P
    rw [E, ln_dpO e40] at hdE
    refine ⟨fun q1 => ?_, fun q1 => ?_⟩
    · -- it is shut
      have w0 : w = 0 := by omega
      rw [if_neg (by omega), if_pos w0, ← eO] at k1
      rw [← eO]
      refine fl_228 ht e40 (by omega) (fun u hu u23 => ln_nx hu (fun x hx x95 _ => ?_))
      have h2 : ln_C z f n (ds_ad f n b) P' c (if e.1 = 43 then (2, 0) :: ln_so 1 P o else ln_so 1 P o) x := hx
      refine fl_224 (by decide) h2 (fun y hy y23 => k1 _ y rfl hy ?_ ?_)
      · exact y23.trans ((x95 23 (by omega)).trans (u23.trans (t23.trans h23)))
      · exact Int.le_trans (ln_dpst (k := 7) P') (by omega)
    · -- the next part
      rw [if_pos (by omega)] at k1
      refine fl_220 ht.2.2.2.1 ht.2.2.1 ?_
      rw [show ln_oa (e :: P') = P'.length from if_pos e40]
      intro _
      refine ⟨fun q45 => ?_, fun q45 => ?_⟩
      · rw [if_neg q45] at k1
        obtain ⟨hT, hv⟩ := ln_tail ht (by omega)
        have a1 := ln_S100 (i := P'.length) (v := w) hT (Int.le_refl _)
        have a2 := ln_w (v := 0) a1
        unfold fw_217_p99
        refine ln_nx a2 (fun x hx x95 xq => k1 _ x rfl (ln_cl (ln_cons hx (e := (w, e.2.1, 0)) (show w ≠ 44 by omega) q45 ?_) (by rfl) ?_ ?_) ?_ ?_)
        · rw [xq 100 (by decide)]; exact (zu_c (by decide)).trans lf_up_s
        · show lm_dp (ln_e (e :: P')) = lm_dp (ln_e ((w, e.2.1, 0) :: P'))
          rw [ln_dpO e40, ln_dpO (e := (w, e.2.1, 0)) (show 40 ≤ w by omega)]
        · show ln_nl (e :: P') = ln_nl ((w, e.2.1, 0) :: P')
          rw [ln_nlN (by omega) (by omega), ln_nlN (e := (w, e.2.1, 0)) (show w ≠ 44 by omega) q45]
        · exact (x95 23 (by omega)).trans zu_s
        · show lm_dp (ln_e ((w, e.2.1, 0) :: P')) ≤ 8
          rw [ln_dpO (e := (w, e.2.1, 0)) (show 40 ≤ w by omega)]; omega
      · have q45 := Classical.not_not.mp q45
        rw [if_pos q45] at k1
        obtain ⟨hT, hv⟩ := ln_tail ht (by omega)
        obtain ⟨l1, l2, l3⟩ := ht.2.2.2.2.2.2.1.1 (Or.inl (by omega))
        have nE : ln_nl (e :: P') = ln_nl P' + 1 := by rw [ln_nlL (Or.inl (by omega))]; omega
        rw [nE] at hT
        have a1 := ln_S100 (i := P'.length) (v := w) hT (Int.le_refl _)
        have a2 := ln_w (v := 0) a1
        refine fl_227 (v := e.2.1) a2 ?_ ?_ l2 l3 (fun u hu u23 => ?_)
        · exact ((zu_c (by decide)).trans lf_up_s).trans q45
        · exact ((zu_c (by decide)).trans (lf_up_c (by decide))).trans l1
        · unfold fw_217_p99
          refine ln_nx hu (fun x hx x95 xq => k1 _ x rfl (ln_cl hx (by rfl) ?_ ?_) ?_ ?_)
          · rw [ln_dpO e40]; exact (ln_dpO (e := (45, e.2.1, c)) (show (40 : Int) ≤ 45 by decide)).symm
          · have := ln_nlL (P := P') (e := (45, e.2.1, c)) (Or.inr rfl)
            show ln_nl P' + 1 = ln_nl ((45, e.2.1, c) :: P')
            omega
          · exact ((x95 23 (by omega)).trans u23).trans zu_s
          · show lm_dp (ln_e ((45, e.2.1, c) :: P')) ≤ 8
            rw [ln_dpO (e := (45, e.2.1, c)) (show (40 : Int) ≤ 45 by decide)]; omega
  · rw [if_pos (by omega)] at k1
    have e19 : t.1 95 19 = (ln_st (lm_rk v) P).length := ht.2.2.1
    intro _
    rw [e19]
    have a1 := ln_S100 (i := (ln_st (lm_rk v) P).length) (v := v) ht (Int.le_refl _)
    have a2 := ln_19 (v := (ln_st (lm_rk v) P).length + 1) a1
    have a3 := ln_w (v := 0) a2
    have dE : lm_dp (ln_e ((v, 0, 0) :: ln_st (lm_rk v) P)) = lm_dp (ln_e (ln_st (lm_rk v) P)) := by rw [ln_dpc, if_neg (by omega)]; omega
    refine ln_nx a3 (fun x hx x95 xq => k1 _ x rfl (ln_cl (ln_cons hx (e := (v, 0, 0)) (show v ≠ 44 by omega) (show v ≠ 45 by omega) ?_) ln_len.symm dE.symm (ln_nlN (show v ≠ 44 by omega) (show v ≠ 45 by omega)).symm) ?_ ?_)
    · rw [xq 100 (by decide)]; exact (zu_c (by decide)).trans ((lf_up_c (by decide)).trans lf_up_s)
    · exact (x95 23 (by omega)).trans zu_s
    · show lm_dp (ln_e ((v, 0, 0) :: ln_st (lm_rk v) P)) ≤ 8
      have := ln_dpst (k := lm_rk v) P
      rw [dE]; omega
/-- a sum -/
theorem fl_216 {Q : Int → lf_Z → Prop} {I : ln_T → Prop} (hB : la_B f n b s) (h13 : s.1 95 13 = o.length) (ho : ln_ou (s.1 98) (s.1 95 12 + 97) o) (hl : s.1 95 14 = law) (h0 : 0 ≤ law) (h2 : law ≤ 2) (hI : I ([], o, 0, false, b))
    (hs : ∀ x y : ln_T, I x → (∀ j : Int, ln_g x.1 j ≠ -1 ↔ lm_g (ln_e x.1) j ≠ -1) → lo_sp f n law x = .inr y → I y)
    (kk : ∀ (x : ln_T) (V : Int × Int) (t : lf_Z), I x → (∀ j : Int, ln_g x.1 j ≠ -1 ↔ lm_g (ln_e x.1) j ≠ -1) → lo_sp f n law x = .inl V → la_B f n V.2 t → ln_F s t → (V.1 = 0 → ln_C s f n V.2 (ln_st 1 x.1) x.2.2.1 (ln_so 1 x.1 x.2.1) t) → Q V.1 t) : fw_216 Q s := by
  have p46 : ∀ t : lf_Z, ln_C s f n b [] 0 o t → t.1 95 23 = 0 → fw_216_p46L Q t := by
    intro t hC t23
    refine ⟨fun t => ∃ x : ln_T, I x ∧ ln_C s f n x.2.2.2.2 x.1 x.2.2.1 x.2.1 t ∧ t.1 95 23 = (if x.2.2.2.1 = true then 1 else 0) ∧ lm_dp (ln_e x.1) ≤ 8, ?_, ⟨([], o, 0, false, b), hI, hC, t23, (show (0 : Int) ≤ 8 by decide)⟩⟩
    intro t ⟨⟨P, o, c, w, b⟩, hx, hC, h23, hd⟩
    have hC : ln_C s f n b P c o t := hC
    have hd : lm_dp (ln_e P) ≤ 8 := hd
    have gE : ∀ j : Int, ln_g P j ≠ -1 ↔ lm_g (ln_e P) j ≠ -1 := ln_gE P hC.2.2.2.2.2.2.1
    have tl : t.1 95 14 = law := (hC.1.2.1 14 (by omega) (by decide) (by omega)).trans hl
    unfold fw_216_p46
    intro _
    cases w with
    | false =>
      have h23 : t.1 95 23 = 0 := h23
      refine ⟨fun _ => fl_229 hC hd h23 tl h0 h2 (fun v u hv => ?_), fun q => absurd h23 q⟩
      intro _
      have st : lo_sp f n law (P, o, c, false, b) = lo_be f n law P o c b := rfl
      generalize lo_be f n law P o c b = r at st hv
      cases r with
      | inl V =>
        obtain ⟨v1, v2, v3, v4⟩ := hv
        refine ⟨fun q => absurd (v1.symm.trans q) v2, fun _ => ?_⟩
        rw [v1]
        exact kk _ V u hx gE st v3 v4 (fun q => absurd q v2)
      | inr y =>
        obtain ⟨v1, v2, v3, v4⟩ := hv
        exact ⟨fun _ => ⟨y, hs _ y hx gE st, v2, v3, v4⟩, fun q => absurd v1 q⟩
    | true =>
      have h23 : t.1 95 23 = 1 := h23
      have st : lo_sp f n law (P, o, c, true, b) = lo_bh f n P o c b := rfl
      refine ⟨fun q => absurd (h23.symm.trans q) (by decide), fun _ => fl_217 (P := P) (o := o) (c := c) (b := b) hC hd h23 (fun y u hy hu u23 ud => ⟨fun q => (by cases q), fun _ => ⟨y, hs _ y hx gE (st.trans hy), hu, u23, ud⟩⟩) (fun n1 n2 => ⟨fun _ => fl_219 (P := P) hC.2.2.2.1 hC.2.2.1 ?_, fun q => (by cases q)⟩)⟩
      intro _
      have e : lo_bh f n P o c b = if 0 ≤ lm_op (ln_e P) then .inl (1, b) else .inl (0, b) := by
        unfold lo_bh
        rw [if_neg n1, if_neg (by omega), if_neg (by omega)]
      refine ⟨fun q => fl_224 (Int.le_refl 1) hC (fun u hu _ => ?_), fun q => ?_⟩
      · rw [if_neg (by omega)] at e
        exact kk _ (0, b) u hx gE (st.trans e) hu.2.1 hu.1 (fun _ => hu)
      · rw [if_pos (by omega)] at e
        exact kk _ (1, b) t hx gE (st.trans e) hC.2.1 hC.1 (fun q => absurd q (show ¬ (1 : Int) = 0 by decide))
  unfold fw_216
  refine ⟨fun x t => 0 ≤ x ∧ x ≤ 26 ∧ t.2 = s.2 ∧ (∀ q : Nat, q ≠ 95 → q ≠ 103 → t.1 q = s.1 q) ∧ (∀ i : Int, ¬ (19 ≤ i ∧ i ≤ 22) → t.1 95 i = s.1 95 i) ∧ t.1 95 19 = 0 ∧ t.1 95 20 = 0 ∧ t.1 95 21 = 0 ∧ t.1 95 22 = 0 ∧ ∀ j : Int, 0 ≤ j → j < x → t.1 103 j = -1, ?_, ?_⟩
  · intro x t ⟨x0, x1, eJ, eq, e95, e19, e20, e21, e22, ej⟩
    unfold fw_216_p22
    intro _
    refine ⟨fun c => p46 _ ?_ zu_s, fun c _ => ?_⟩
    · obtain ⟨u, hu⟩ : ∃ u : lf_Z, u = (lf_up t.1 95 23 0, t.2.1, t.2.2) := ⟨_, rfl⟩
      rw [← hu]
      have w95 : ∀ i : Int, ¬ (19 ≤ i ∧ i ≤ 23) → u.1 95 i = s.1 95 i := fun i hi => by rw [hu]; exact (zu_i (by omega)).trans (e95 i (by omega))
      have wq : ∀ q : Nat, q ≠ 95 → q ≠ 103 → u.1 q = s.1 q := fun q a b => by rw [hu]; exact (zu_r a).trans (eq q a b)
      have wi : ∀ i : Int, i ≠ 23 → u.1 95 i = t.1 95 i := fun i hi => by rw [hu]; exact zu_i hi
      have w2 : u.2 = s.2 := by rw [hu]; exact eJ
      refine ⟨⟨fun q a1 a2 a3 a4 a5 a6 => wq q a1 a6, fun i a1 a2 a3 => w95 i a3, fun i hi => by rw [wq 98 (by decide) (by decide)], by rw [w2]⟩, la_Bx hB (wq 99 (by decide) (by decide)) (fun i hi => w95 i (by omega)) (by rw [w2]), (wi 19 (by decide)).trans e19, trivial, (wi 20 (by decide)).trans e20, (wi 21 (by decide)).trans e21, trivial, fun j j0 j1 => ?_, (wi 22 (by decide)).trans e22, (w95 13 (by omega)).trans h13, (by rw [wq 98 (by decide) (by decide)]; exact ho), Int.le_refl 0⟩
      rw [hu]
      exact (zu_c (by decide)).trans (ej j j0 (by omega))
    · refine ⟨by omega, by omega, eJ, fun q a b => (zu_r b).trans (eq q a b), fun i hi => (zu_c (by decide)).trans (e95 i hi), (zu_c (by decide)).trans e19, (zu_c (by decide)).trans e20, (zu_c (by decide)).trans e21, (zu_c (by decide)).trans e22, fun j j0 j1 => ?_⟩
      by_cases y : j = x
      · rw [y]; exact zu_s
      · exact (zu_i y).trans (ej j j0 (by omega))
  · refine ⟨Int.le_refl 0, by decide, rfl, fun q a _ => (zu_r a).trans ((lf_up_row a).trans ((lf_up_row a).trans (lf_up_row a))), fun i hi => (zu_i (by omega)).trans ((lf_up_i (by omega)).trans ((lf_up_i (by omega)).trans (lf_up_i (by omega)))), (zu_i (by decide)).trans ((lf_up_i (by decide)).trans ((lf_up_i (by decide)).trans lf_up_s)), (zu_i (by decide)).trans ((lf_up_i (by decide)).trans lf_up_s), (zu_i (by decide)).trans lf_up_s, zu_s, fun j j0 j1 => by omega⟩
/-! the machine without what it writes -/
def ln_pr (x : ln_T) : lm_S := (ln_e x.1, x.2.2.2.1, x.2.2.2.2)
def ln_pj (r : (Int × Int) ⊕ ln_T) : (Int × Int) ⊕ lm_S := match r with | .inl v => .inl v | .inr y => .inr (ln_pr y)
theorem ln_pjpu {F : Int → (Int × Int) ⊕ ln_T} {G : Int → (Int × Int) ⊕ lm_S} {x : Int} (e : ∀ q, ln_pj (F q) = G q) : ln_pj (lo_pu f n P b F) = lm_pu f n x (ln_e P) b G := by
  unfold lo_pu lm_pu
  split
  · exact e _
  · rfl
theorem ln_pjone {e : Int × Int} : ln_pj (lo_one f n P o c b e) = .inr (lm_st 7 (ln_e P), true, ds_ad f n b) := by
  show (Sum.inr (ln_e (ln_st 7 P), true, ds_ad f n b) : (Int × Int) ⊕ lm_S) = _
  rw [ln_est]
theorem ln_pjbe (hg : ∀ j : Int, ln_g P j ≠ -1 ↔ lm_g (ln_e P) j ≠ -1) : ln_pj (lo_be f n law P o c b) = lm_be f n law (ln_e P) b := by
  unfold lo_be lm_be
  by_cases c2 : lx_T f n b = 2
  · rw [if_pos c2, if_pos c2]
    by_cases v : lx_V f n b ≤ 9999
    · rw [if_pos v, if_pos v]; exact ln_pjone
    · rw [if_neg v, if_neg v]; rfl
  rw [if_neg c2, if_neg c2]
  by_cases c3 : lx_T f n b = 3
  · rw [if_pos c3, if_pos c3]
    by_cases v : ln_g P (lx_V f n b) ≠ -1
    · rw [if_pos v, if_pos ((hg _).mp v)]; exact ln_pjone
    · rw [if_neg v, if_neg (fun q => v ((hg _).mpr q))]; rfl
  rw [if_neg c3, if_neg c3]
  by_cases c11 : lx_T f n b = 11
  · rw [if_pos c11, if_pos c11]; exact ln_pjpu (fun _ => rfl)
  rw [if_neg c11, if_neg c11]
  by_cases c14 : lx_T f n b = 14
  · rw [if_pos c14, if_pos c14]; exact ln_pjpu (fun _ => rfl)
  rw [if_neg c14, if_neg c14]
  by_cases c37 : lx_T f n b = 37
  · rw [if_pos c37, if_pos c37]; exact ln_pjpu (fun _ => rfl)
  rw [if_neg c37, if_neg c37]
  by_cases c41 : lx_T f n b = 41
  · rw [if_pos c41, if_pos c41]
    refine ln_pjpu (fun q => ?_)
    unfold lo_lt
    split
    · split <;> rfl
    · rfl
  rw [if_neg c41, if_neg c41]
  by_cases c44 : lx_T f n b = 44 ∧ lm_ah (ln_e P) = true
  · rw [if_pos c44, if_pos c44]; exact ln_pjpu (fun _ => rfl)
  rw [if_neg c44, if_neg c44]
  by_cases v : (ds_name f n law b).1 = 0
  · rw [if_pos v, if_pos v]; exact ln_pjone
  · rw [if_neg v, if_neg v]; rfl
theorem ln_hdE : lm_hd (ln_e P) = lo_hd P := by cases P <;> rfl
theorem ln_tlE : (ln_e P).tail = ln_e P.tail := by cases P <;> rfl
theorem ln_pjbh : ln_pj (lo_bh f n P o c b) = lm_bh f n (ln_e P) b := by
  unfold lo_bh lm_bh
  by_cases q : 0 ≤ lm_bt (lx_T f n b) (ln_e P)
  · rw [if_pos q, if_pos q, ← ln_est]; rfl
  rw [if_neg q, if_neg q]
  by_cases q2 : 0 < lm_pt (lx_T f n b) (ln_e P)
  · rw [if_pos q2, if_pos q2, ← ln_est, ln_hdE, ln_tlE]
    by_cases y : lm_pt (lx_T f n b) (ln_e P) = 45
    · rw [if_pos y, y]; rfl
    · rw [if_neg y]; rfl
  rw [if_neg q2, if_neg q2]
  by_cases q3 : lm_pt (lx_T f n b) (ln_e P) = 0
  · rw [if_pos q3, if_pos q3, ← ln_est, ln_tlE, ← ln_est]; rfl
  rw [if_neg q3, if_neg q3]
  split <;> rfl
theorem ln_pjsp {x : ln_T} (hg : ∀ j : Int, ln_g x.1 j ≠ -1 ↔ lm_g (ln_e x.1) j ≠ -1) : ln_pj (lo_sp f n law x) = lm_sp f n law (ln_pr x) := by
  obtain ⟨P, o, c, w, b⟩ := x
  cases w with
  | true => exact ln_pjbh
  | false => exact ln_pjbe hg
/-- a sum: its verdict -/
theorem fl_216R {V : Int × Int} {Q : Int → lf_Z → Prop} (hR : lm_R f n law ([], false, b) V) (hB : la_B f n b s) (h13 : s.1 95 13 = o.length) (ho : ln_ou (s.1 98) (s.1 95 12 + 97) o) (hl : s.1 95 14 = law) (h0 : 0 ≤ law) (h2 : law ≤ 2) (kk : ∀ t : lf_Z, la_B f n V.2 t → ln_F s t → (V.1 = 0 → ∃ o' : List (Int × Int), t.1 95 13 = o'.length ∧ ln_ou (t.1 98) (s.1 95 12 + 97) o') → Q V.1 t) : fw_216 Q s := by
  refine fl_216 (I := fun x => lm_R f n law (ln_pr x) V) hB h13 ho hl h0 h2 hR (fun x y hx hg e => ?_) (fun x V' t hx hg e tB tF tC => ?_)
  · have p := ln_pjsp (f := f) (n := n) (law := law) hg
    rw [e] at p
    obtain ⟨k, hk⟩ := hx
    cases k with
    | zero => cases hk
    | succ k =>
      have hk : (match lm_sp f n law (ln_pr x) with | .inl v => some v | .inr t => lm_mr f n law k t) = some V := hk
      rw [← p] at hk
      exact ⟨k, hk⟩
  · have p := ln_pjsp (f := f) (n := n) (law := law) hg
    rw [e] at p
    obtain ⟨k, hk⟩ := hx
    have eV : V' = V := by
      cases k with
      | zero => cases hk
      | succ k =>
        have hk : (match lm_sp f n law (ln_pr x) with | .inl v => some v | .inr t => lm_mr f n law k t) = some V := hk
        rw [← p] at hk
        exact Option.some.inj hk
    subst eV
    exact kk t tB tF (fun q => ⟨_, (tC q).2.2.2.2.2.2.2.2.2.1, (tC q).2.2.2.2.2.2.2.2.2.2.1⟩)
end LD
/-! clauses and texts of the reference: the verdict -/
section LE
variable {f : Int → Int} {n law b a m v : Int} {o : Int → Bool} {s t z : lf_Z}
def tn_F (z t : lf_Z) : Prop := (∀ c : Nat, c ≠ 95 → c ≠ 98 → c ≠ 100 → c ≠ 101 → c ≠ 102 → c ≠ 103 → t.1 c = z.1 c) ∧ (∀ i : Int, ¬ (7 ≤ i ∧ i ≤ 14) → ¬ (19 ≤ i ∧ i ≤ 24) → t.1 95 i = z.1 95 i) ∧ t.2.2 = z.2.2
theorem tn_Fl (h : ln_F z t) : tn_F z t := ⟨h.1, fun i a b => h.2.1 i (by omega) (by omega) (by omega), h.2.2.2⟩
theorem tn_Ft (h : tn_F z s) (g : tn_F s t) : tn_F z t := ⟨fun c a1 a2 a3 a4 a5 a6 => (g.1 c a1 a2 a3 a4 a5 a6).trans (h.1 c a1 a2 a3 a4 a5 a6), fun i a b => (g.2.1 i a b).trans (h.2.1 i a b), g.2.2.trans h.2.2⟩
/-- where the text's row begins, how many clauses, which laws; what is written -/
def tn_X (a m v : Int) (s : lf_Z) : Prop := s.1 95 12 = a ∧ s.1 98 a = m ∧ s.1 95 24 = v ∧ ∃ o : List (Int × Int), s.1 95 13 = o.length ∧ ln_ou (s.1 98) (a + 97) o
def tn_S (z : lf_Z) (f : Int → Int) (n a m v b : Int) (s : lf_Z) : Prop := tn_F z s ∧ la_B f n b s ∧ tn_X a m v s
def tn_Q (z : lf_Z) (f : Int → Int) (n a m v : Int) (r : Int × Int) (t : lf_Z) : Prop := tn_F z t ∧ la_B f n r.2 t ∧ (r.1 = 0 → tn_X a m v t)
theorem tn_nx {Q : lf_Z → Prop} (h : tn_S z f n a m v b s) (kk : ∀ t : lf_Z, tn_S z f n a m v (ds_ad f n b) t → (∀ i : Int, ¬ (7 ≤ i ∧ i ≤ 10) → t.1 95 i = s.1 95 i) → (∀ q : Nat, q ≠ 95 → t.1 q = s.1 q) → Q t) : fw_197 Q s := by
  have h7 := la_0 h.2.1
  obtain ⟨hF, ⟨b1, b2, b3, b4, b5⟩, x1, x2, x3, x4⟩ := h
  refine fl_197 h7 (by rw [b1, b2]; exact b5) (fun t tF tA => ?_)
  obtain ⟨f1, f2, f3⟩ := tF
  have r7 : s.1 95 7 = lx_E f n b := by rw [← b1, ← b2]; exact b3.2.2.1
  rw [b1, b2, r7] at tA
  have u95 : ∀ i : Int, ¬ (7 ≤ i ∧ i ≤ 10) → t.1 95 i = s.1 95 i := fun i hi => f2 i (by omega) (by omega) (by omega) (by omega)
  refine kk t ⟨tn_Ft hF ⟨fun q a1 _ _ _ _ _ => f1 q a1, fun i c d => u95 i (by omega), f3⟩, ⟨(f1 99 (by decide)).trans b1, (u95 4 (by omega)).trans b2, tA, cl_ad0 b4, b5⟩, (u95 12 (by omega)).trans x1, (by rw [f1 98 (by decide)]; exact x2), (u95 24 (by omega)).trans x3, ?_⟩ u95 f1
  rw [u95 13 (by omega), f1 98 (by decide)]; exact x4
theorem tn_98 {i w : Int} (h : tn_S z f n a m v b s) (i0 : a < i) (i1 : i < a + 97) : tn_S z f n a m v b (lf_up s.1 98 i w, s.2.1, s.2.2) := by
  obtain ⟨hF, hB, x1, x2, x3, o, x4, x5⟩ := h
  obtain ⟨t, ht⟩ : ∃ t : lf_Z, t = (lf_up s.1 98 i w, s.2.1, s.2.2) := ⟨_, rfl⟩
  rw [← ht]
  have e : ∀ q : Nat, q ≠ 98 → t.1 q = s.1 q := fun q hq => by rw [ht]; exact zu_r hq
  have e3 : ∀ j : Int, j ≠ i → t.1 98 j = s.1 98 j := fun j hj => by rw [ht]; exact zu_i hj
  have eJ : t.2 = s.2 := by rw [ht]
  have e95 := e 95 (by decide)
  have key : ∀ o : List (Int × Int), ln_ou (s.1 98) (a + 97) o → ln_ou (t.1 98) (a + 97) o := by
    intro o
    induction o with
    | nil => intro _; trivial
    | cons x o ih =>
      intro h
      exact ⟨(e3 _ (by omega)).trans h.1, (e3 _ (by omega)).trans h.2.1, ih h.2.2⟩
  exact ⟨tn_Ft hF ⟨fun q _ a2 _ _ _ _ => e q a2, fun i _ _ => by rw [e95], by rw [eJ]⟩, la_Bx hB (e 99 (by decide)) (fun i _ => by rw [e95]) (by rw [eJ]), (by rw [e95]; exact x1), (e3 a (by omega)).trans x2, (by rw [e95]; exact x3), o, (by rw [e95]; exact x4), key o x5⟩
theorem tn_95 {m' v' : Int} (h : tn_S z f n a m v b s) (eJ : t.2 = s.2) (e : ∀ q : Nat, q ≠ 95 → q ≠ 98 → t.1 q = s.1 q) (e2 : ∀ i : Int, i ≠ 14 → i ≠ 24 → t.1 95 i = s.1 95 i) (e3 : ∀ j : Int, j ≠ a → t.1 98 j = s.1 98 j) (e4 : t.1 98 a = m') (e5 : t.1 95 24 = v') : tn_S z f n a m' v' b t := by
  obtain ⟨hF, hB, x1, x2, x3, o, x4, x5⟩ := h
  have key : ∀ o : List (Int × Int), ln_ou (s.1 98) (a + 97) o → ln_ou (t.1 98) (a + 97) o := by
    intro o
    induction o with
    | nil => intro _; trivial
    | cons x o ih =>
      intro h
      exact ⟨(e3 _ (by omega)).trans h.1, (e3 _ (by omega)).trans h.2.1, ih h.2.2⟩
  exact ⟨tn_Ft hF ⟨fun q a1 a2 _ _ _ _ => e q a1 a2, fun i c d => e2 i (by omega) (by omega), by rw [eJ]⟩, la_Bx hB (e 99 (by decide) (by decide)) (fun i hi => e2 i (by omega) (by omega)) (by rw [eJ]), (e2 12 (by decide) (by decide)).trans x1, e4, e5, o, (e2 13 (by decide) (by decide)).trans x4, key o x5⟩
theorem la_10 (h : la_B f n b s) : s.1 95 9 = 1 → 0 ≤ s.1 95 10 ∧ min 10000 (s.1 95 10) = lx_V f n b := by
  obtain ⟨b1, b2, b3, _⟩ := h
  have := b3.2.2.2.1
  rw [b1, b2] at this
  exact this
/-- a number -/
theorem fl_213 {i lo hi : Int} {Q : Int → lf_Z → Prop} (h : tn_S z f n a m v b s) (h9 : hi ≤ 9999) (i0 : a < i) (i1 : i < a + 97) (kk : ∀ t : lf_Z, tn_S z f n a m v (ds_num f n lo hi b).2 t → Q (ds_num f n lo hi b).1 t) : fw_213 i lo hi Q s := by
  have KT := la_Bk h.2.1
  unfold la_kt at KT
  have r10 := la_10 h.2.1
  unfold ds_num at kk
  unfold fw_213
  intro _
  refine ⟨fun q => fl_183 ⟨fun y _ => ?_, fun y => ?_⟩, fun q => ?_⟩
  · have r := r10 q
    rw [Bool.and_eq_true, decide_eq_true_eq, decide_eq_true_eq] at y
    rw [if_pos (by omega), if_pos (by omega)] at kk
    exact tn_nx (tn_98 h i0 i1) (fun t ht _ _ => kk t ht)
  · have r := r10 q
    rw [Bool.and_eq_false_iff, decide_eq_false_iff_not, decide_eq_false_iff_not] at y
    rw [if_pos (by omega), if_neg (by omega)] at kk
    exact kk s h
  · rw [if_neg (by omega)] at kk
    exact kk s h
theorem fl_214 {w i lo hi : Int} {Q : Int → lf_Z → Prop} (j : Nat) (hj : j < 37) (hw : lf_wl w = lx_pkr (la_r j)) (h : tn_S z f n a m v b s) (h9 : hi ≤ 9999) (i0 : a < i) (i1 : i < a + 97) (kk : ∀ t : lf_Z, tn_S z f n a m v (ds_bd (ds_ex f n (20 + j) b) (ds_num f n lo hi)).2 t → Q (ds_bd (ds_ex f n (20 + j) b) (ds_num f n lo hi)).1 t) : fw_214 w i lo hi Q s := by
  unfold ds_ex at kk
  unfold fw_214
  refine fl_207 h.2.1 j hj (by rw [lf_wlI]; exact hw) ⟨fun y => ?_, fun y => ?_⟩
  · rw [if_pos (of_decide_eq_true y)] at kk
    exact tn_nx h (fun t ht _ _ => fl_213 ht h9 i0 i1 kk)
  · rw [if_neg (of_decide_eq_false y)] at kk
    exact kk s h
theorem fl_212 {i lo hi w lo2 hi2 : Int} {Q : Int → lf_Z → Prop} (j : Nat) (hj : j < 37) (hw : lf_wl w = lx_pkr (la_r j)) (h : tn_S z f n a m v b s) (h9 : hi ≤ 9999) (h92 : hi2 ≤ 9999) (i0 : a ≤ i) (i1 : i + 2 < a + 97) (kk : ∀ t : lf_Z, tn_S z f n a m v (ds_bd (ds_bd (ds_num f n lo hi b) (ds_ex f n (20 + j))) (ds_num f n lo2 hi2)).2 t → Q (ds_bd (ds_bd (ds_num f n lo hi b) (ds_ex f n (20 + j))) (ds_num f n lo2 hi2)).1 t) : fw_212 i lo hi w lo2 hi2 Q s := by
  unfold fw_212
  refine fl_213 h h9 (by omega) (by omega) (fun t ht => ?_)
  intro _
  refine ⟨fun y => ?_, fun y => ?_⟩
  · rw [ds_bd0 y] at kk
    exact fl_214 j hj (by rw [lf_wlI]; exact hw) ht h92 (by omega) (by omega) kk
  · rw [ds_bdF y, ds_bdF y] at kk
    exact kk t ht
theorem tn_deed {w A B C D E : Int} (h0 : tx_sh ((w - 23) * 5) = A) (h1 : tx_sh ((w - 23) * 5 + 1) = B) (h2 : tx_sh ((w - 23) * 5 + 2) = C) (h3 : tx_sh ((w - 23) * 5 + 3) = D) (h4 : tx_sh ((w - 23) * 5 + 4) = E) : ds_deed f n w b = if C = 0 then ds_num f n A B b else ds_bd (ds_bd (ds_num f n A B b) (ds_ex f n C)) (ds_num f n D E) := by
  unfold ds_deed
  rw [h0, h1, h2, h3, h4]
/-- the law's sum -/
theorem fl_215 {i : Int} {Q : Int → lf_Z → Prop} (h : tn_S z f n a m v b s) (hn : n ≤ 300) (hl : s.1 95 14 = law) (l0 : 0 ≤ law) (l2 : law ≤ 2) (i0 : a ≤ i) (i1 : i + 2 < a + 97) (kk : ∀ t : lf_Z, tn_Q z f n a m v ((ds_T f n law 200).1 0 (fun _ => -1) b) t → Q ((ds_T f n law 200).1 0 (fun _ => -1) b).1 t) : fw_215 i Q s := by
  have b0 := h.2.1.2.2.2.1
  have R := lm_topS (f := f) (law := law) hn b0
  generalize (ds_T f n law 200).1 0 (fun _ => -1) b = V at R kk
  unfold fw_215
  intro _
  have h1 := tn_98 (w := s.1 95 13) h (show a < i + 1 by omega) (by omega)
  have hl1 : ((lf_up s.1 98 (i + 1) (s.1 95 13), s.2.1, s.2.2) : lf_Z).1 95 14 = law := (zu_c (by decide)).trans hl
  generalize ((lf_up s.1 98 (i + 1) (s.1 95 13), s.2.1, s.2.2) : lf_Z) = y at h1 hl1 ⊢
  obtain ⟨hF, hB, x1, x2, x3, o, x4, x5⟩ := h1
  refine fl_216R (o := o) R hB x4 (by rw [x1]; exact x5) hl1 l0 l2 (fun u uB uF uO => ?_)
  intro _
  have u12 : u.1 95 12 = a := (uF.2.1 12 (by omega) (by decide) (by omega)).trans x1
  have u98 : u.1 98 a = m := (uF.2.2.1 a (by omega)).trans x2
  have u24 : u.1 95 24 = v := (uF.2.1 24 (by omega) (by decide) (by omega)).trans x3
  have zF : tn_F z u := tn_Ft hF (tn_Fl uF)
  obtain ⟨t, ht⟩ : ∃ t : lf_Z, t = (lf_up u.1 98 (i + 2) (u.1 95 13), u.2.1, u.2.2) := ⟨_, rfl⟩
  rw [← ht]
  have e : ∀ q : Nat, q ≠ 98 → t.1 q = u.1 q := fun q hq => by rw [ht]; exact zu_r hq
  have eJ : t.2 = u.2 := by rw [ht]
  refine kk t ⟨tn_Ft zF ⟨fun q _ a2 _ _ _ _ => e q a2, fun i _ _ => by rw [e 95 (by decide)], by rw [eJ]⟩, la_Bx uB (e 99 (by decide)) (fun i _ => by rw [e 95 (by decide)]) (by rw [eJ]), fun q => ?_⟩
  obtain ⟨o', o1, o2⟩ := uO q
  rw [x1] at o2
  rw [ht]
  exact (tn_98 (z := z) (w := u.1 95 13) ⟨zF, uB, u12, u98, u24, o', o1, o2⟩ (show a < i + 2 by omega) (by omega)).2.2
/-- what a clause says behind its first word -/
def tn_bd (f : Int → Int) (n x b : Int) : Int × Int := if 2 < x then ds_deed f n (20 + x) b else (ds_T f n x 200).1 0 (fun _ => -1) b
theorem fl_211 {x i : Int} {Q : Int → lf_Z → Prop} (h : tn_S z f n a m v b s) (hn : n ≤ 300) (hl : s.1 95 14 = x) (x0 : 0 ≤ x) (x1 : x ≤ 12) (i0 : a ≤ i) (i1 : i + 2 < a + 97) (kk : ∀ t : lf_Z, tn_Q z f n a m v (tn_bd f n x b) t → Q (tn_bd f n x b).1 t) : fw_211 x i Q s := by
  have D : ∀ r : Int × Int, r = tn_bd f n x b → ∀ t : lf_Z, tn_S z f n a m v r.2 t → Q r.1 t := fun r e t ht => by
    rw [e]; rw [e] at ht
    exact kk t ⟨ht.1, ht.2.1, fun _ => ht.2.2⟩
  have P : ∀ {A B C E F : Int}, 2 < x → C ≠ 0 → tx_sh ((20 + x - 23) * 5) = A → tx_sh ((20 + x - 23) * 5 + 1) = B → tx_sh ((20 + x - 23) * 5 + 2) = C → tx_sh ((20 + x - 23) * 5 + 3) = E → tx_sh ((20 + x - 23) * 5 + 4) = F → ds_bd (ds_bd (ds_num f n A B b) (ds_ex f n C)) (ds_num f n E F) = tn_bd f n x b := by
    intro A B C E F g g0 h0 h1 h2 h3 h4
    unfold tn_bd
    rw [if_pos g, tn_deed h0 h1 h2 h3 h4, if_neg g0]
  have P0 : ∀ {A B E F : Int}, 2 < x → tx_sh ((20 + x - 23) * 5) = A → tx_sh ((20 + x - 23) * 5 + 1) = B → tx_sh ((20 + x - 23) * 5 + 2) = 0 → tx_sh ((20 + x - 23) * 5 + 3) = E → tx_sh ((20 + x - 23) * 5 + 4) = F → ds_num f n A B b = tn_bd f n x b := by
    intro A B E F g h0 h1 h2 h3 h4
    unfold tn_bd
    rw [if_pos g, tn_deed h0 h1 h2 h3 h4, if_pos rfl]
  unfold fw_211
  intro _
  refine ⟨fun q => ?_, fun q => ?_, fun q => ?_, fun q => ?_, fun q => ?_, fun q => ?_, fun q => ?_, fun q => ?_, fun q => ?_, fun q => ?_, fun q => ?_⟩
  · refine fl_215 h hn hl x0 (by omega) i0 i1 (fun t ht => ?_)
    have e : tn_bd f n x b = (ds_T f n x 200).1 0 (fun _ => -1) b := if_neg (by omega)
    rw [e] at kk
    exact kk t ht
  · subst q
    exact fl_204 (fl_212 13 (by decide) (by rw [lf_wlI]; decide +kernel) h (by decide) (by decide) i0 i1 (D _ (P (by decide) (by decide) (by decide +kernel) (by decide +kernel) (by decide +kernel) (by decide +kernel) (by decide +kernel))))
  · subst q
    exact fl_206 (fl_212 14 (by decide) (by rw [lf_wlI]; decide +kernel) h (by decide) (by decide) i0 i1 (D _ (P (by decide) (by decide) (by decide +kernel) (by decide +kernel) (by decide +kernel) (by decide +kernel) (by decide +kernel))))
  · subst q
    exact fl_206 (fl_212 14 (by decide) (by rw [lf_wlI]; decide +kernel) h (by decide) (by decide) i0 i1 (D _ (P (by decide) (by decide) (by decide +kernel) (by decide +kernel) (by decide +kernel) (by decide +kernel) (by decide +kernel))))
  · subst q
    exact fl_206 (fl_212 15 (by decide) (by rw [lf_wlI]; decide +kernel) h (by decide) (by decide) i0 i1 (D _ (P (by decide) (by decide) (by decide +kernel) (by decide +kernel) (by decide +kernel) (by decide +kernel) (by decide +kernel))))
  · subst q
    exact fl_206 (fl_212 15 (by decide) (by rw [lf_wlI]; decide +kernel) h (by decide) (by decide) i0 i1 (D _ (P (by decide) (by decide) (by decide +kernel) (by decide +kernel) (by decide +kernel) (by decide +kernel) (by decide +kernel))))
  · subst q
    exact fl_206 (fl_212 14 (by decide) (by rw [lf_wlI]; decide +kernel) h (by decide) (by decide) i0 i1 (D _ (P (by decide) (by decide) (by decide +kernel) (by decide +kernel) (by decide +kernel) (by decide +kernel) (by decide +kernel))))
  · subst q
    exact fl_213 h (by decide) (by omega) (by omega) (D _ (P0 (by decide) (by decide +kernel) (by decide +kernel) (by decide +kernel) rfl rfl))
  · subst q
    exact fl_213 h (by decide) (by omega) (by omega) (D _ (P0 (by decide) (by decide +kernel) (by decide +kernel) (by decide +kernel) rfl rfl))
  · subst q
    exact fl_206 (fl_212 16 (by decide) (by rw [lf_wlI]; decide +kernel) h (by decide) (by decide) i0 i1 (D _ (P (by decide) (by decide) (by decide +kernel) (by decide +kernel) (by decide +kernel) (by decide +kernel) (by decide +kernel))))
  · subst q
    exact fl_213 h (by decide) (by omega) (by omega) (D _ (P0 (by decide) (by decide +kernel) (by decide +kernel) (by decide +kernel) rfl rfl))
/-! which laws have been told -/
def tn_v3 (x y w : Bool) : Int := (if x = true then 1 else 0) + (if y = true then 2 else 0) + (if w = true then 4 else 0)
def tn_v (o : Int → Bool) : Int := tn_v3 (o 0) (o 1) (o 2)
theorem tn_vD : ∀ x y w : Bool, (lf_and (lf_shr (tn_v3 x y w) 0) 1 = if x = true then 1 else 0) ∧ (lf_and (lf_shr (tn_v3 x y w) 1) 1 = if y = true then 1 else 0) ∧ (lf_and (lf_shr (tn_v3 x y w) 2) 1 = if w = true then 1 else 0) ∧ lf_or (tn_v3 x y w) (lf_shl 1 0) = tn_v3 true y w ∧ lf_or (tn_v3 x y w) (lf_shl 1 1) = tn_v3 x true w ∧ lf_or (tn_v3 x y w) (lf_shl 1 2) = tn_v3 x y true := by decide +kernel
theorem tn_vb {l : Int} (h0 : 0 ≤ l) (h2 : l ≤ 2) : (lf_and (lf_shr (tn_v o) l) 1 = if o l = true then 1 else 0) ∧ lf_or (tn_v o) (lf_shl 1 l) = tn_v (fun j => o j || decide (l = j)) := by
  obtain ⟨d1, d2, d3, d4, d5, d6⟩ := tn_vD (o 0) (o 1) (o 2)
  rcases (show l = 0 ∨ l = 1 ∨ l = 2 by omega) with e | e | e
  · subst e
    refine ⟨d1, d4.trans ?_⟩
    show _ = tn_v3 (o 0 || true) (o 1 || false) (o 2 || false)
    rw [Bool.or_true, Bool.or_false, Bool.or_false]
  · subst e
    refine ⟨d2, d5.trans ?_⟩
    show _ = tn_v3 (o 0 || false) (o 1 || true) (o 2 || false)
    rw [Bool.or_true, Bool.or_false, Bool.or_false]
  · subst e
    refine ⟨d3, d6.trans ?_⟩
    show _ = tn_v3 (o 0 || false) (o 1 || false) (o 2 || true)
    rw [Bool.or_true, Bool.or_false, Bool.or_false]
/-- a clause -/
theorem fl_202 {Q : Int → lf_Z → Prop} (h : tn_S z f n a m (tn_v o) b s) (hn : n ≤ 300) (m0 : 0 ≤ m) (m1 : m ≤ 24) (kk : ∀ (r : Int × Int) (t : lf_Z), r = (if tx_ok f n m o b ≠ 0 then (tx_ok f n m o b, b) else ds_cl f n (fun _ => -1) b) → tn_Q z f n a (m + 1) (tn_v (tx_o f n o b)) r t → Q r.1 t) : fw_202 Q s := by
  have bad : ∀ w : Int, w ≠ 0 → tx_ok f n m o b = w → Q w s := fun w hw e => by
    refine kk (w, b) s ?_ ⟨h.1, h.2.1, fun q => absurd q hw⟩
    rw [e, if_pos hw]
  have x12 : s.1 95 12 = a := h.2.2.1
  have x98 : s.1 98 a = m := h.2.2.2.1
  have x24 : s.1 95 24 = tn_v o := h.2.2.2.2.1
  have p65 : ∀ (x : Int) (u : lf_Z), tn_S z f n a m (tn_v (tx_o f n o b)) b u → tx_ok f n m o b = 0 → m < 24 → x = lx_T f n b - 20 → 0 ≤ x → x ≤ 12 → fw_202_p65 Q x m u := by
    intro x u hu ok m24 ex e0 e1
    rw [ok, if_neg (fun q => q rfl)] at kk
    have ecl : ds_cl f n (fun _ => -1) b = ds_bd (tn_bd f n x (ds_ad f n b)) (ds_ex f n 16) := by
      unfold ds_cl tn_bd
      by_cases q : 2 < x
      · rw [if_pos q, if_pos (by omega), show (20 : Int) + x = lx_T f n b by omega]
      · rw [if_neg q, if_neg (by omega), ex]
    rw [ecl] at kk
    unfold fw_202_p65
    have hu2 : tn_S z f n a m (tn_v (tx_o f n o b)) b (lf_up u.1 95 14 x, u.2.1, u.2.2) := tn_95 hu rfl (fun q hq _ => zu_r hq) (fun i hi _ => zu_i hi) (fun j _ => zu_c (by decide)) ((zu_c (by decide)).trans hu.2.2.2.1) ((zu_i (by decide)).trans hu.2.2.2.2.1)
    refine tn_nx hu2 (fun t ht t95 tq => ?_)
    rw [ht.2.2.1]
    intro _
    have h4 := tn_98 (w := x) ht (show a < a + 1 + 4 * m by omega) (by omega)
    have l4 : ((lf_up t.1 98 (a + 1 + 4 * m) x, t.2.1, t.2.2) : lf_Z).1 95 14 = x := (zu_c (by decide)).trans ((t95 14 (by omega)).trans zu_s)
    refine fl_211 h4 hn l4 e0 e1 (by omega) (by omega) (fun y hy => ?_)
    obtain ⟨yF, yB, yX⟩ := hy
    intro _
    refine ⟨fun q _ _ => ?_, fun q => ?_⟩
    · have yX := yX q
      rw [ds_bd0 q] at kk
      unfold ds_ex at kk
      have KT := la_Bk yB
      unfold la_kt at KT
      have y12 : y.1 95 12 = a := yX.1
      rw [y12, yX.2.1]
      have hy2 : tn_S z f n a (m + 1) (tn_v (tx_o f n o b)) (tn_bd f n x (ds_ad f n b)).2 (lf_up y.1 98 a (m + 1), y.2.1, y.2.2) := tn_95 ⟨yF, yB, yX⟩ rfl (fun q _ hq => zu_r hq) (fun i _ _ => zu_c (by decide)) (fun j hj => zu_i hj) zu_s ((zu_c (by decide)).trans yX.2.2.1)
      refine ⟨fun w => tn_nx hy2 (fun g hg _ _ => ?_), fun w => ?_⟩
      · rw [if_pos (by omega)] at kk
        exact kk _ g rfl ⟨hg.1, hg.2.1, fun _ => hg.2.2⟩
      · rw [if_neg (by omega)] at kk
        exact kk _ _ rfl ⟨hy2.1, hy2.2.1, fun c => absurd c (show ¬ (1 : Int) = 0 by decide)⟩
    · rw [ds_bdF q] at kk
      exact kk _ y rfl ⟨yF, yB, fun c => absurd c q⟩
  have p29 : ∀ x : Int, x = lx_T f n b - 20 → 0 ≤ x → x ≤ 12 → (x ≤ 2 → o x = false) → fw_202_p29 Q x s := by
    intro x ex e0 e1 e2
    unfold fw_202_p29
    rw [x12, x98]
    intro _ _
    have okE : tx_ok f n m o b = if 24 ≤ m then 6 else 0 := by
      unfold tx_ok
      rw [if_neg (fun q => q ⟨by omega, by omega⟩), if_neg (fun q => ?_)]
      have := e2 (by omega)
      rw [← ex, this] at q
      cases q.2
    refine ⟨fun q _ => ⟨fun q2 => p65 x s ?_ ?_ (by omega) ex e0 e1, fun q2 => p65 x _ ?_ ?_ (by omega) ex e0 e1⟩, fun q => bad 6 (by decide) ?_⟩
    · have : tn_v (tx_o f n o b) = tn_v o := by
        show tn_v3 (o 0 || decide (lx_T f n b - 20 = 0)) (o 1 || decide (lx_T f n b - 20 = 1)) (o 2 || decide (lx_T f n b - 20 = 2)) = tn_v3 (o 0) (o 1) (o 2)
        rw [decide_eq_false (by omega), decide_eq_false (by omega), decide_eq_false (by omega), Bool.or_false, Bool.or_false, Bool.or_false]
      rw [this]; exact h
    · rw [okE, if_neg (by omega)]
    · have w := (tn_vb (o := o) e0 (by omega)).2
      rw [x24, w]
      have e9 : tn_v (fun j => o j || decide (x = j)) = tn_v (tx_o f n o b) := by rw [ex]; rfl
      rw [e9]
      exact tn_95 h rfl (fun q hq _ => zu_r hq) (fun i _ hi => zu_i hi) (fun j _ => zu_c (by decide)) ((zu_c (by decide)).trans x98) zu_s
    · rw [okE, if_neg (by omega)]
    · rw [okE, if_pos (by omega)]
  unfold fw_202
  refine fl_203 h.2.1 (fun x hx => ?_)
  intro _
  by_cases c : 20 ≤ lx_T f n b ∧ lx_T f n b ≤ 32
  · rw [if_pos c] at hx
    refine ⟨fun _ => ⟨fun q => p29 x hx (by omega) (by omega) (fun w => by omega), fun q => ?_⟩, fun q => by omega⟩
    have w := (tn_vb (o := o) (l := x) (by omega) (by omega)).1
    unfold fw_210
    rw [x24, w]
    refine ⟨fun y => ⟨fun _ => p29 x hx (by omega) (by omega) (fun _ => ?_), fun g => (by cases g)⟩, fun y => ⟨fun g => (by cases g), fun _ => bad 4 (by decide) ?_⟩⟩
    · cases g : o x with
      | false => rfl
      | true => rw [g] at y; exact absurd rfl y
    · have g : o x = true := by
        cases g : o x with
        | true => rfl
        | false => rw [g] at y; exact absurd (show (if false = true then (1 : Int) else 0) ≠ 1 by decide) y
      unfold tx_ok
      rw [if_neg (fun q => q c), if_pos ⟨by omega, by rw [← hx]; exact g⟩]
  · rw [if_neg c] at hx
    refine ⟨fun q => by omega, fun _ => bad 1 (by decide) ?_⟩
    unfold tx_ok
    rw [if_pos c]
/-- a text -/
theorem fl_196 {Q : Int → lf_Z → Prop} (hn : s.1 95 4 ≤ 300) (hb : cl_tp (s.1 99) (s.1 95 4)) (kk : ∀ t : lf_Z, tn_F s t → t.1 95 8 = (tx_v (s.1 99) (s.1 95 4) (fun _ => -1)).2 → Q (tx_v (s.1 99) (s.1 95 4) (fun _ => -1)).1 t) : fw_196 Q s := by
  unfold fw_196
  intro _
  generalize hf : s.1 99 = f at hb kk
  generalize hnn : s.1 95 4 = n at hn hb kk
  generalize 705 * s.1 96 7 = a
  obtain ⟨u, hu⟩ : ∃ u : lf_Z, u = (lf_up (lf_up (lf_up (lf_up (lf_up s.1 95 12 a) 98 a 0) 95 13 0) 95 24 0) 95 7 0, s.2.1, s.2.2) := ⟨_, rfl⟩
  rw [← hu]
  have u95 : ∀ i : Int, i ≠ 7 → i ≠ 12 → i ≠ 13 → i ≠ 24 → u.1 95 i = s.1 95 i := fun i h7 h12 h13 h24 => by rw [hu]; exact (zu_i h7).trans ((lf_up_i h24).trans ((lf_up_i h13).trans ((lf_up_c (by decide)).trans (lf_up_i h12))))
  have uq : ∀ q : Nat, q ≠ 95 → q ≠ 98 → u.1 q = s.1 q := fun q h1 h2 => by rw [hu]; exact (zu_r h1).trans ((lf_up_row h1).trans ((lf_up_row h1).trans ((lf_up_row h2).trans (lf_up_row h1))))
  have u7 : u.1 95 7 = 0 := by rw [hu]; exact zu_s
  have u12 : u.1 95 12 = a := by rw [hu]; exact (zu_i (by decide)).trans ((lf_up_i (by decide)).trans ((lf_up_i (by decide)).trans ((lf_up_c (by decide)).trans lf_up_s)))
  have u13 : u.1 95 13 = 0 := by rw [hu]; exact (zu_i (by decide)).trans ((lf_up_i (by decide)).trans lf_up_s)
  have u24 : u.1 95 24 = 0 := by rw [hu]; exact (zu_i (by decide)).trans lf_up_s
  have u98 : u.1 98 a = 0 := by rw [hu]; exact (zu_c (by decide)).trans ((lf_up_c (by decide)).trans ((lf_up_c (by decide)).trans lf_up_s))
  have uP : u.2.2 = s.2.2 := by rw [hu]
  have uf : u.1 99 = f := (uq 99 (by decide) (by decide)).trans hf
  have un : u.1 95 4 = n := (u95 4 (by decide) (by decide) (by decide) (by decide)).trans hnn
  have uF : tn_F s u := ⟨fun q a1 a2 _ _ _ _ => uq q a1 a2, fun i c d => u95 i (by omega) (by omega) (by omega) (by omega), uP⟩
  refine fl_197 (by rw [u7]; exact Int.le_refl 0) (by rw [uf, un]; exact hb) (fun t tF tA => ?_)
  obtain ⟨f1, f2, f3⟩ := tF
  rw [uf, un, u7] at tA
  have t95 : ∀ i : Int, ¬ (7 ≤ i ∧ i ≤ 10) → t.1 95 i = u.1 95 i := fun i hi => f2 i (by omega) (by omega) (by omega) (by omega)
  have tF : tn_F s t := tn_Ft uF ⟨fun q a1 _ _ _ _ _ => f1 q a1, fun i c d => t95 i (by omega), f3⟩
  have tS : tn_S s f n a 0 (tn_v (fun _ => false)) (lx_sk f n 0) t := ⟨tF, ⟨(f1 99 (by decide)).trans uf, (t95 4 (by omega)).trans un, tA, lx_runB, hb⟩, (t95 12 (by omega)).trans u12, (by rw [f1 98 (by decide)]; exact u98), (t95 24 (by omega)).trans u24, [], (t95 13 (by omega)).trans u13, trivial⟩
  refine ⟨fun t => ∃ (b m : Int) (o : Int → Bool), tn_S s f n a m (tn_v o) b t ∧ 0 ≤ m ∧ m ≤ 24 ∧ tx_lp f n (fun _ => -1) (301 - m).toNat m o b = tx_v f n (fun _ => -1), ?_, ⟨_, 0, _, tS, Int.le_refl 0, by decide, rfl⟩⟩
  intro t ⟨b, m, o, tS, m0, m1, hl⟩
  have KT := la_Bk tS.2.1
  unfold la_kt at KT
  rw [show (301 - m).toNat = (300 - m).toNat + 1 by omega] at hl
  have hl : (if lx_T f n b = 0 then (0, b) else if tx_ok f n m o b ≠ 0 then (tx_ok f n m o b, b) else ds_bd (ds_cl f n (fun _ => -1) b) (tx_lp f n (fun _ => -1) (300 - m).toNat (m + 1) (tx_o f n o b))) = tx_v f n (fun _ => -1) := hl
  have t8 : ∀ {r : Int} {w : lf_Z}, la_B f n r w → w.1 95 8 = r := fun h => h.2.2.1.1
  unfold fw_196_p44
  intro _
  refine ⟨fun q => ?_, fun q => ?_⟩
  · rw [if_pos (by omega)] at hl
    rw [← hl] at kk
    exact kk t tS.1 (t8 tS.2.1)
  · rw [if_neg (by omega)] at hl
    refine fl_202 tS hn m0 m1 (fun r w hr hw => ?_)
    obtain ⟨wF, wB, wX⟩ := hw
    intro _
    by_cases k : tx_ok f n m o b ≠ 0
    · rw [if_pos k] at hl hr
      rw [hr] at wB ⊢
      refine ⟨fun y => absurd y k, fun _ => ?_⟩
      rw [← hl] at kk
      exact kk w wF (t8 wB)
    · rw [if_neg k] at hl hr
      rw [← hr] at hl
      refine ⟨fun y => ⟨r.2, m + 1, tx_o f n o b, ⟨wF, wB, wX y⟩, by omega, ?_, ?_⟩, fun y => ?_⟩
      · unfold tx_ok at k
        by_cases g : 24 ≤ m
        · exfalso
          apply k
          (repeat' split) <;> first | decide | omega
        · omega
      · rw [ds_bd0 y] at hl
        rw [show (301 - (m + 1)).toNat = (300 - m).toNat by omega]
        exact hl
      · rw [ds_bdF y] at hl
        rw [← hl] at kk
        exact kk w wF (t8 wB)
/-- text of the reference -/
theorem fl_195 {Q : Int → lf_Z → Prop} (hn : s.1 95 4 ≤ 300) (hb : cl_tp (s.1 99) (s.1 95 4)) (k4 : s.1 96 7 = 4 → Q (-1) s) (kk : s.1 96 7 ≠ 4 → ∀ (w : Int) (t : lf_Z), t.1 99 = s.1 99 → t.1 95 4 = 0 → t.1 95 5 = (tx_v (s.1 99) (s.1 95 4) (fun _ => -1)).1 → ((tx_v (s.1 99) (s.1 95 4) (fun _ => -1)).1 = 0 → t.1 95 6 = -1 ∧ w = s.1 96 7 ∧ t.1 96 7 = s.1 96 7 + 1 ∧ ∀ i : Int, i ≠ 7 → t.1 96 i = s.1 96 i) → ((tx_v (s.1 99) (s.1 95 4) (fun _ => -1)).1 ≠ 0 → t.1 95 6 = (tx_v (s.1 99) (s.1 95 4) (fun _ => -1)).2 ∧ w = -1 ∧ t.1 96 = s.1 96) → Q w t) : fw_195 Q s := by
  unfold fw_195
  intro _
  refine ⟨fun c => fl_196 hn hb (fun t tF t8 => ?_), fun c => k4 (Classical.not_not.mp c)⟩
  have kk := kk c
  generalize tx_v (s.1 99) (s.1 95 4) (fun _ => -1) = V at kk t8 ⊢
  have t99 : t.1 99 = s.1 99 := tF.1 99 (by decide) (by decide) (by decide) (by decide) (by decide) (by decide)
  have t96 : t.1 96 = s.1 96 := tF.1 96 (by decide) (by decide) (by decide) (by decide) (by decide) (by decide)
  intro _
  have e5 : ∀ {x : Int}, ((lf_up t.1 95 5 x, t.2.1, t.2.2) : lf_Z).1 95 5 = x := zu_s
  have e96 : ∀ {x : Int}, ((lf_up t.1 95 5 x, t.2.1, t.2.2) : lf_Z).1 96 = t.1 96 := zu_r (by decide)
  refine ⟨fun y => ?_, fun y => ?_⟩
  · unfold fw_195_p37
    rw [e5]
    intro _
    refine ⟨fun w => absurd w y, fun _ => kk _ _ ?_ ?_ ?_ (fun w => absurd w y) (fun _ => ⟨?_, rfl, ?_⟩)⟩
    · exact (zu_r (by decide)).trans ((lf_up_row (by decide)).trans ((zu_r (by decide)).trans t99))
    · exact zu_s
    · exact (zu_i (by decide)).trans ((lf_up_i (by decide)).trans zu_s)
    · exact (zu_i (by decide)).trans (lf_up_s.trans t8)
    · exact (zu_r (by decide)).trans ((lf_up_row (by decide)).trans ((zu_r (by decide)).trans t96))
  · have y := Classical.not_not.mp y
    unfold fw_195_p37
    rw [e5, e96, t96]
    intro _
    refine ⟨fun _ => kk _ _ ?_ ?_ ?_ (fun _ => ⟨?_, ?_, ?_, fun i hi => ?_⟩) (fun w => absurd y w), fun w => absurd y w⟩
    · exact (zu_r (by decide)).trans ((lf_up_row (by decide)).trans ((lf_up_row (by decide)).trans ((zu_r (by decide)).trans t99)))
    · exact (zu_c (by decide)).trans lf_up_s
    · exact (zu_c (by decide)).trans ((lf_up_i (by decide)).trans ((lf_up_i (by decide)).trans zu_s))
    · exact (zu_c (by decide)).trans ((lf_up_i (by decide)).trans lf_up_s)
    · omega
    · exact zu_s
    · exact (zu_i hi).trans ((lf_up_c (by decide)).trans ((lf_up_c (by decide)).trans ((zu_c (by decide)).trans (congrFun t96 i))))
end LE
/-! HOW MANY: both sides as functions of longs, just as they are worked out; that they agree is counted through -/
theorem px_E_ldiv {ro : px_RO} {d k pc : Nat} {lv : px_L} {st : List Value} {x y : Int64} {h hF : px_H} {r : Option Value} (hf : px_fetch k pc = some (.ldiv, 1)) (hne : ¬ y = 0) (kk : px_E ro (d + 1) k (pc + 1, lv, .long (x / y) :: st, h) r hF) : px_E ro (d + 1) k (pc, lv, .long y :: .long x :: st, h) r hF := by
  refine px_E_one (σ' := (pc + 1, lv, .long (x / y) :: st, h)) ?_ kk
  unfold px_one; dsimp only; rw [hf]; dsimp only [px_ret, px_inv, px_op, px_oArl, px_arl]
  rw [if_neg hne]
theorem px_E_lrem {ro : px_RO} {d k pc : Nat} {lv : px_L} {st : List Value} {x y : Int64} {h hF : px_H} {r : Option Value} (hf : px_fetch k pc = some (.lrem, 1)) (hne : ¬ y = 0) (kk : px_E ro (d + 1) k (pc + 1, lv, .long (x - x / y * y) :: st, h) r hF) : px_E ro (d + 1) k (pc, lv, .long y :: .long x :: st, h) r hF := by
  refine px_E_one (σ' := (pc + 1, lv, .long (x - x / y * y) :: st, h)) ?_ kk
  unfold px_one; dsimp only; rw [hf]; dsimp only [px_ret, px_inv, px_op, px_oArl, px_arl]
  rw [if_neg hne]
theorem px_l0 {t : Nat} (ht : t < 1000) : ¬ (nI (t + 1)).toInt64 = 0 := by
  rw [nI_l (by omega)]
  intro e
  have := (lN_eq (a := t + 1) (b := 0) (by omega) (by omega)).mp (by rw [e]; rfl)
  omega
-- the class's weights
def cw_1 (C : Nat) : Nat → Int64
  | 0 => 1
  | t + 1 => cw_1 C t * (nI C + nI (t + 1)).toInt64 / (nI (t + 1)).toInt64
def cw_2 (x : Int32) (w : Int64) : Nat → Int64
  | 0 => w
  | t + 1 => cw_2 x w t * x.toInt64
def cw_3 (w : Int64) : Nat → Int64
  | 0 => w
  | t + 1 => cw_3 w t * 10
def cw (N : Nat) (x : Int32) (C : Nat) : Int64 := bif Nat.blt N C then 0 else cw_3 (cw_2 x (cw_1 C (N - C)) (N - C)) (12 - N)
abbrev cwL (i : Int32) (w : Int64) (n m c : Int32) : px_L := [(5, .int i), (3, .long w), (0, .int n), (1, .int m), (2, .int c)]
set_option maxRecDepth 100000 in
theorem cw_loop1 {ro : px_RO} {d N C : Nat} {x : Int32} {h hF : px_H} {r : Option Value} (hN : N ≤ 12) (hC : C ≤ N) (kk : px_E ro (d + 1) 153 (38, cwL (nI (N - C + 1)) (cw_1 C (N - C)) (nI N) x (nI C), [], h) r hF) : ∀ m t, t + m = N - C → px_E ro (d + 1) 153 (12, cwL (nI (t + 1)) (cw_1 C t) (nI N) x (nI C), [], h) r hF := by
  intro m
  induction m with
  | zero =>
    intro t ht
    have e : t = N - C := by omega
    subst e
    refine px_E_seg 4 (σ' := (17, cwL (nI (N - C + 1)) (cw_1 C (N - C)) (nI N) x (nI C), [.int (nI N - nI C), .int (nI (N - C + 1))], h)) rfl ?_
    refine px_E_icmp (t := 38) rfl rfl (fun _ => kk) (fun n9 => absurd ?_ n9)
    show nI N - nI C < nI (N - C + 1)
    rw [pk_sub hC]
    exact nI_lt (by omega) (by omega)
  | succ m ih =>
    intro t ht
    refine px_E_seg 4 (σ' := (17, cwL (nI (t + 1)) (cw_1 C t) (nI N) x (nI C), [.int (nI N - nI C), .int (nI (t + 1))], h)) rfl ?_
    refine px_E_icmp (t := 38) rfl rfl (fun c9 => absurd c9 ?_) (fun _ => ?_)
    · show ¬ nI N - nI C < nI (t + 1)
      rw [pk_sub hC]
      exact nI_nlt (by omega) (by omega)
    · refine px_E_seg 8 (σ' := (30, cwL (nI (t + 1)) (cw_1 C t) (nI N) x (nI C), [.long (nI (t + 1)).toInt64, .long (cw_1 C t * (nI C + nI (t + 1)).toInt64)], h)) rfl ?_
      refine px_E_ldiv rfl (px_l0 (by omega)) ?_
      refine px_E_seg 3 (σ' := (12, cwL (nI (t + 1) + 1) (cw_1 C (t + 1)) (nI N) x (nI C), [], h)) rfl ?_
      rw [nI_1]
      exact ih (t + 1) (by omega)
set_option maxRecDepth 100000 in
theorem cw_loop2 {ro : px_RO} {d N C : Nat} {x : Int32} {w : Int64} {h hF : px_H} {r : Option Value} (hN : N ≤ 12) (hC : C ≤ N) (kk : px_E ro (d + 1) 153 (60, cwL (nI (N - C)) (cw_2 x w (N - C)) (nI N) x (nI C), [], h) r hF) : ∀ m t, t + m = N - C → px_E ro (d + 1) 153 (41, cwL (nI t) (cw_2 x w t) (nI N) x (nI C), [], h) r hF := by
  intro m
  induction m with
  | zero =>
    intro t ht
    have e : t = N - C := by omega
    subst e
    refine px_E_seg 4 (σ' := (46, cwL (nI (N - C)) (cw_2 x w (N - C)) (nI N) x (nI C), [.int (nI N - nI C), .int (nI (N - C))], h)) rfl ?_
    refine px_E_icmp (t := 60) rfl rfl (fun _ => kk) (fun n9 => absurd ?_ n9)
    show nI N - nI C ≤ nI (N - C)
    rw [pk_sub hC]
    exact Int32.le_refl _
  | succ m ih =>
    intro t ht
    refine px_E_seg 4 (σ' := (46, cwL (nI t) (cw_2 x w t) (nI N) x (nI C), [.int (nI N - nI C), .int (nI t)], h)) rfl ?_
    refine px_E_icmp (t := 60) rfl rfl (fun c9 => absurd c9 ?_) (fun _ => ?_)
    · show ¬ nI N - nI C ≤ nI t
      rw [pk_sub hC]
      exact nI_ge (by omega) (by omega)
    · refine px_E_seg 7 (σ' := (41, cwL (nI t + 1) (cw_2 x w (t + 1)) (nI N) x (nI C), [], h)) rfl ?_
      rw [nI_1]
      exact ih (t + 1) (by omega)
set_option maxRecDepth 100000 in
theorem cw_loop3 {ro : px_RO} {d N C : Nat} {x : Int32} {w : Int64} {h : px_H} (hN : N ≤ 12) : ∀ m t, t + m = 12 - N → px_E ro (d + 1) 153 (63, cwL (nI (N + t)) (cw_3 w t) (nI N) x (nI C), [], h) (some (.long (cw_3 w (12 - N)))) h := by
  intro m
  induction m with
  | zero =>
    intro t ht
    have e : t = 12 - N := by omega
    subst e
    refine px_E_seg 2 (σ' := (67, cwL (nI (N + (12 - N))) (cw_3 w (12 - N)) (nI N) x (nI C), [.int 12, .int (nI (N + (12 - N)))], h)) rfl ?_
    refine px_E_icmp (t := 82) rfl rfl (fun _ => ?_) (fun n9 => absurd ?_ n9)
    · refine px_E_seg 1 (σ' := (83, cwL (nI (N + (12 - N))) (cw_3 w (12 - N)) (nI N) x (nI C), [.long (cw_3 w (12 - N))], h)) rfl ?_
      exact px_E_ret rfl rfl
    · show nI 12 ≤ nI (N + (12 - N))
      exact nI_le (by omega) (by omega)
  | succ m ih =>
    intro t ht
    refine px_E_seg 2 (σ' := (67, cwL (nI (N + t)) (cw_3 w t) (nI N) x (nI C), [.int 12, .int (nI (N + t))], h)) rfl ?_
    refine px_E_icmp (t := 82) rfl rfl (fun c9 => absurd c9 ?_) (fun _ => ?_)
    · show ¬ nI 12 ≤ nI (N + t)
      exact nI_ge (by omega) (by omega)
    · refine px_E_seg 6 (σ' := (63, cwL (nI (N + t) + 1) (cw_3 w (t + 1)) (nI N) x (nI C), [], h)) rfl ?_
      rw [nI_1, show N + t + 1 = N + (t + 1) from rfl]
      exact ih (t + 1) (by omega)
set_option maxRecDepth 100000 in
theorem cw_ok {ro : px_RO} {d N C : Nat} {x : Int32} {h : px_H} (hN : N ≤ 12) (hC : C ≤ 12) : px_M ro (d + 1) 153 [.int (nI N), .int x, .int (nI C)] h (some (.long (cw N x C))) h := by
  show px_E ro (d + 1) 153 (0, [(0, .int (nI N)), (1, .int x), (2, .int (nI C))], [], h) _ _
  refine px_E_seg 2 (σ' := (2, [(0, .int (nI N)), (1, .int x), (2, .int (nI C))], [.int (nI C), .int (nI N)], h)) rfl ?_
  refine px_E_icmp (t := 7) rfl rfl (fun c9 => ?_) (fun c9 => ?_)
  · have hCN : C ≤ N := (nI_leI (by omega) (by omega)).mp c9
    have e : cw N x C = cw_3 (cw_2 x (cw_1 C (N - C)) (N - C)) (12 - N) := by unfold cw; rw [px_bltF hCN]; rfl
    rw [e]
    refine px_E_seg 4 (σ' := (12, cwL (nI (0 + 1)) (cw_1 C 0) (nI N) x (nI C), [], h)) rfl ?_
    refine cw_loop1 hN hCN ?_ (N - C) 0 (by omega)
    refine px_E_seg 2 (σ' := (41, cwL (nI 0) (cw_2 x (cw_1 C (N - C)) 0) (nI N) x (nI C), [], h)) rfl ?_
    refine cw_loop2 hN hCN ?_ (N - C) 0 (by omega)
    refine px_E_seg 2 (σ' := (63, cwL (nI (N + 0)) (cw_3 (cw_2 x (cw_1 C (N - C)) (N - C)) 0) (nI N) x (nI C), [], h)) rfl ?_
    exact cw_loop3 hN (12 - N) 0 (by omega)
  · have hCN : N < C := by
      rcases Nat.lt_or_ge N C with q | q
      · exact q
      · exact absurd (nI_le q (by omega)) c9
    have e : cw N x C = 0 := by unfold cw; rw [px_bltY hCN]; rfl
    rw [e]
    refine px_E_seg 1 (σ' := (6, [(0, .int (nI N)), (1, .int x), (2, .int (nI C))], [.long 0], h)) rfl ?_
    exact px_E_ret rfl rfl
-- the common divisor, n steps at most
def gl : Nat → Int64 → Int64 → Int64
  | 0, a, _ => a
  | n + 1, a, b => if b = 0 then a else gl n b (a - a / b * b)
abbrev ilL (i : Int32) (a b u lo : Int64) (f : Int32) : px_L := [(9, .int i), (7, .long b), (5, .long a), (0, .long u), (2, .long lo), (4, .int f)]
abbrev ilM (i : Int32) (a b q u lo : Int64) (f : Int32) : px_L := [(9, .int i), (7, .long b), (5, .long a), (10, .long q), (0, .long u), (2, .long lo), (4, .int f)]
def lt_ (u lo : Int64) (f : Int32) : Int64 := if gl 1000 lo u = 0 then (if f = 0 then u else lo) else (if f = 0 then u else lo) / gl 1000 lo u
/-! behind the loop -/
set_option maxRecDepth 100000 in
theorem il_fin {ro : px_RO} {d : Nat} {u lo a b z : Int64} {f : Int32} {h : px_H} : px_E ro (d + 1) 125 (57, [(9, .long z), (7, .long b), (5, .long a), (0, .long u), (2, .long lo), (4, .int f)], [], h) (some (.long (if a = 0 then z else z / a))) h := by
  refine px_E_seg 3 (σ' := (61, [(9, .long z), (7, .long b), (5, .long a), (0, .long u), (2, .long lo), (4, .int f)], [.int (lg_cmp a 0)], h)) rfl ?_
  refine px_E_if (t := 69) rfl rfl (fun c9 => ?_) (fun c9 => ?_)
  · have ha : ¬ a = 0 := fun e => c9 ((lg_cmp_eq a 0).mpr e)
    refine px_E_seg 2 (σ' := (73, [(9, .long z), (7, .long b), (5, .long a), (0, .long u), (2, .long lo), (4, .int f)], [.long a, .long z], h)) rfl ?_
    refine px_E_ldiv rfl ha ?_
    rw [if_neg ha]
    exact px_E_ret rfl rfl
  · have ha : a = 0 := (lg_cmp_eq a 0).mp (Classical.not_not.mp c9)
    refine px_E_seg 2 (σ' := (74, [(9, .long z), (7, .long b), (5, .long a), (0, .long u), (2, .long lo), (4, .int f)], [.long z], h)) rfl ?_
    rw [if_pos ha]
    exact px_E_ret rfl rfl
set_option maxRecDepth 100000 in
theorem il_tail {ro : px_RO} {d : Nat} {u lo a b q : Int64} {i f : Int32} {h : px_H} : px_E ro (d + 1) 125 (45, ilM i a b q u lo f, [], h) (some (.long (if a = 0 then (if f = 0 then u else lo) else (if f = 0 then u else lo) / a))) h := by
  refine px_E_seg 1 (σ' := (47, ilM i a b q u lo f, [.int f], h)) rfl ?_
  refine px_E_if (t := 54) rfl rfl (fun c9 => ?_) (fun c9 => ?_)
  · have hf : f = 0 := c9
    rw [if_pos hf]
    refine px_E_seg 2 (σ' := (57, [(9, .long u), (7, .long b), (5, .long a), (0, .long u), (2, .long lo), (4, .int f)], [], h)) rfl ?_
    exact il_fin
  · have hf : ¬ f = 0 := c9
    rw [if_neg hf]
    refine px_E_seg 3 (σ' := (57, [(9, .long lo), (7, .long b), (5, .long a), (0, .long u), (2, .long lo), (4, .int f)], [], h)) rfl ?_
    exact il_fin
set_option maxRecDepth 100000 in
theorem il_tail0 {ro : px_RO} {d : Nat} {u lo a b : Int64} {i f : Int32} {h : px_H} : px_E ro (d + 1) 125 (45, ilL i a b u lo f, [], h) (some (.long (if a = 0 then (if f = 0 then u else lo) else (if f = 0 then u else lo) / a))) h := by
  refine px_E_seg 1 (σ' := (47, ilL i a b u lo f, [.int f], h)) rfl ?_
  refine px_E_if (t := 54) rfl rfl (fun c9 => ?_) (fun c9 => ?_)
  · have hf : f = 0 := c9
    rw [if_pos hf]
    refine px_E_seg 2 (σ' := (57, [(9, .long u), (7, .long b), (5, .long a), (0, .long u), (2, .long lo), (4, .int f)], [], h)) rfl ?_
    exact il_fin
  · have hf : ¬ f = 0 := c9
    rw [if_neg hf]
    refine px_E_seg 3 (σ' := (57, [(9, .long lo), (7, .long b), (5, .long a), (0, .long u), (2, .long lo), (4, .int f)], [], h)) rfl ?_
    exact il_fin
set_option maxRecDepth 100000 in
theorem il_loop {ro : px_RO} {d : Nat} {u lo : Int64} {f : Int32} {h : px_H} : ∀ (m i : Nat) (a b q : Int64), i + m = 1000 → px_E ro (d + 1) 125 (9, ilM (nI i) a b q u lo f, [], h) (some (.long (if gl m a b = 0 then (if f = 0 then u else lo) else (if f = 0 then u else lo) / gl m a b))) h := by
  intro m
  induction m with
  | zero =>
    intro i a b q hi
    have e : i = 1000 := by omega
    subst e
    refine px_E_seg 3 (σ' := (45, ilM (nI 1000) a b q u lo f, [], h)) rfl ?_
    exact il_tail
  | succ m ih =>
    intro i a b q hi
    refine px_E_seg 2 (σ' := (14, ilM (nI i) a b q u lo f, [.int 1000, .int (nI i)], h)) rfl ?_
    refine px_E_icmp (t := 45) rfl rfl (fun c9 => absurd c9 (nI_ge (a := i) (b := 1000) (by omega) (by decide))) (fun _ => ?_)
    refine px_E_seg 3 (σ' := (21, ilM (nI i) a b q u lo f, [.int (lg_cmp b 0)], h)) rfl ?_
    refine px_E_if (t := 45) rfl rfl (fun c9 => ?_) (fun c9 => ?_)
    · have hb : b = 0 := (lg_cmp_eq b 0).mp c9
      have e : gl (m + 1) a b = a := by show (if b = 0 then a else _) = a; rw [if_pos hb]
      rw [e]
      exact il_tail
    · have hb : ¬ b = 0 := fun e => c9 ((lg_cmp_eq b 0).mpr e)
      have e : gl (m + 1) a b = gl m b (a - a / b * b) := by show (if b = 0 then a else _) = _; rw [if_neg hb]
      rw [e]
      refine px_E_seg 2 (σ' := (28, ilM (nI i) a b q u lo f, [.long b, .long a], h)) rfl ?_
      refine px_E_lrem rfl hb ?_
      refine px_E_seg 5 (σ' := (39, [(7, .long (a - a / b * b)), (5, .long b), (10, .long (a - a / b * b)), (9, .int (nI i)), (0, .long u), (2, .long lo), (4, .int f)], [], h)) rfl ?_
      refine px_E_seg 2 (σ' := (9, ilM (nI i + 1) b (a - a / b * b) (a - a / b * b) u lo f, [], h)) rfl ?_
      rw [nI_1]
      exact ih (i + 1) b _ _ (by omega)
set_option maxRecDepth 100000 in
theorem il_ok {ro : px_RO} {d : Nat} {u lo : Int64} {f : Int32} {h : px_H} : px_M ro (d + 1) 125 [.long u, .long lo, .int f] h (some (.long (lt_ u lo f))) h := by
  show px_E ro (d + 1) 125 (0, [(0, .long u), (2, .long lo), (4, .int f)], [], h) _ _
  refine px_E_seg 6 (σ' := (9, ilL (nI 0) lo u u lo f, [], h)) rfl ?_
  -- the first round, without a rest yet
  refine px_E_seg 5 (σ' := (20 - 0, ilL (nI 0) lo u u lo f, [.long 0, .long u], h)) rfl ?_
  refine px_E_seg 1 (σ' := (21, ilL (nI 0) lo u u lo f, [.int (lg_cmp u 0)], h)) rfl ?_
  unfold lt_
  refine px_E_if (t := 45) rfl rfl (fun c9 => ?_) (fun c9 => ?_)
  · have hb : u = 0 := (lg_cmp_eq u 0).mp c9
    have e : gl 1000 lo u = lo := by show (if u = 0 then lo else _) = lo; rw [if_pos hb]
    rw [e]
    exact il_tail0
  · have hb : ¬ u = 0 := fun e => c9 ((lg_cmp_eq u 0).mpr e)
    have e : gl 1000 lo u = gl 999 u (lo - lo / u * u) := by show (if u = 0 then lo else _) = _; rw [if_neg hb]
    rw [e]
    refine px_E_seg 2 (σ' := (28, ilL (nI 0) lo u u lo f, [.long u, .long lo], h)) rfl ?_
    refine px_E_lrem rfl hb ?_
    refine px_E_seg 5 (σ' := (39, [(7, .long (lo - lo / u * u)), (5, .long u), (10, .long (lo - lo / u * u)), (9, .int (nI 0)), (0, .long u), (2, .long lo), (4, .int f)], [], h)) rfl ?_
    refine px_E_seg 2 (σ' := (9, ilM (nI 0 + 1) u (lo - lo / u * u) (lo - lo / u * u) u lo f, [], h)) rfl ?_
    rw [nI_1]
    exact il_loop 999 1 _ _ _ (by omega)
-- the reference's weights
def pw (v : Int64) : Nat → Int64
  | 0 => 1
  | t + 1 => pw v t * v
set_option maxRecDepth 100000 in
theorem pw_loop {ro : px_RO} {d N : Nat} {v : Int64} {h : px_H} (hN : N < 1000) : ∀ m t, t + m = N → px_E ro (d + 1) 310 (5, [(5, .int (nI t)), (3, .long (pw v t)), (0, .long v), (2, .int (nI N))], [], h) (some (.long (pw v N))) h := by
  intro m
  induction m with
  | zero =>
    intro t ht
    have e : t = N := by omega
    subst e
    refine px_E_seg 2 (σ' := (8, [(5, .int (nI t)), (3, .long (pw v t)), (0, .long v), (2, .int (nI t))], [.int (nI t), .int (nI t)], h)) rfl ?_
    refine px_E_icmp (t := 21) rfl rfl (fun _ => ?_) (fun n9 => absurd (Int32.le_refl _) n9)
    refine px_E_seg 1 (σ' := (22, [(5, .int (nI t)), (3, .long (pw v t)), (0, .long v), (2, .int (nI t))], [.long (pw v t)], h)) rfl ?_
    exact px_E_ret rfl rfl
  | succ m ih =>
    intro t ht
    refine px_E_seg 2 (σ' := (8, [(5, .int (nI t)), (3, .long (pw v t)), (0, .long v), (2, .int (nI N))], [.int (nI N), .int (nI t)], h)) rfl ?_
    refine px_E_icmp (t := 21) rfl rfl (fun c9 => absurd c9 (nI_ge (by omega) (by omega))) (fun _ => ?_)
    refine px_E_seg 6 (σ' := (5, [(5, .int (nI t + 1)), (3, .long (pw v (t + 1))), (0, .long v), (2, .int (nI N))], [], h)) rfl ?_
    rw [nI_1]
    exact ih (t + 1) (by omega)
set_option maxRecDepth 100000 in
theorem pw_ok {ro : px_RO} {d N : Nat} {v : Int64} {n : Int32} {h : px_H} (hN : N < 1000) (hn : n = nI N) : px_M ro (d + 1) 310 [.long v, .int n] h (some (.long (pw v N))) h := by
  subst hn
  show px_E ro (d + 1) 310 (0, [(0, .long v), (2, .int (nI N))], [], h) _ _
  refine px_E_seg 4 (σ' := (5, [(5, .int (nI 0)), (3, .long (pw v 0)), (0, .long v), (2, .int (nI N))], [], h)) rfl ?_
  exact pw_loop hN N 0 (by omega)
def rw_1 (N C : Nat) : Nat → Int64
  | 0 => 1
  | t + 1 => rw_1 N C t * (nI N - nI C + nI (t + 1)).toInt64 / (nI (t + 1)).toInt64
def rwF (N : Nat) (x : Int32) (C : Nat) : Int64 := bif Nat.blt N C then 0 else rw_1 N C C * pw (10 - x).toInt64 C * pw x.toInt64 (N - C) * pw 10 (12 - N)
abbrev rwL (i : Int32) (w : Int64) (m c n : Int32) : px_L := [(5, .int i), (3, .long w), (0, .int m), (1, .int c), (2, .int n)]
set_option maxRecDepth 100000 in
theorem rw_loop1 {ro : px_RO} {d N C : Nat} {x : Int32} {h hF : px_H} {r : Option Value} (hC : C ≤ 12) (kk : px_E ro (d + 1) 309 (38, rwL (nI (C + 1)) (rw_1 N C C) x (nI C) (nI N), [], h) r hF) : ∀ m t, t + m = C → px_E ro (d + 1) 309 (12, rwL (nI (t + 1)) (rw_1 N C t) x (nI C) (nI N), [], h) r hF := by
  intro m
  induction m with
  | zero =>
    intro t ht
    have e : t = C := by omega
    subst e
    refine px_E_seg 2 (σ' := (15, rwL (nI (t + 1)) (rw_1 N t t) x (nI t) (nI N), [.int (nI t), .int (nI (t + 1))], h)) rfl ?_
    exact px_E_icmp (t := 38) rfl rfl (fun _ => kk) (fun n9 => absurd (nI_lt (by omega) (by omega)) n9)
  | succ m ih =>
    intro t ht
    refine px_E_seg 2 (σ' := (15, rwL (nI (t + 1)) (rw_1 N C t) x (nI C) (nI N), [.int (nI C), .int (nI (t + 1))], h)) rfl ?_
    refine px_E_icmp (t := 38) rfl rfl (fun c9 => absurd c9 (nI_nlt (by omega) (by omega))) (fun _ => ?_)
    refine px_E_seg 6 (σ' := (25, rwL (nI (t + 1)) (rw_1 N C t) x (nI C) (nI N), [.int (nI N - nI C + nI (t + 1)), .long (rw_1 N C t)], h)) rfl ?_
    refine px_E_seg 4 (σ' := (30, rwL (nI (t + 1)) (rw_1 N C t) x (nI C) (nI N), [.long (nI (t + 1)).toInt64, .long (rw_1 N C t * (nI N - nI C + nI (t + 1)).toInt64)], h)) rfl ?_
    refine px_E_ldiv rfl (px_l0 (by omega)) ?_
    refine px_E_seg 3 (σ' := (12, rwL (nI (t + 1) + 1) (rw_1 N C (t + 1)) x (nI C) (nI N), [], h)) rfl ?_
    rw [nI_1]
    exact ih (t + 1) (by omega)
set_option maxRecDepth 100000 in
set_option maxRecDepth 100000 in
theorem rw_ok {ro : px_RO} {d N C : Nat} {x : Int32} {h : px_H} (hN : N ≤ 12) (hC : C ≤ 12) : px_M ro (d + 2) 309 [.int x, .int (nI C), .int (nI N)] h (some (.long (rwF N x C))) h := by
  show px_E ro (d + 2) 309 (0, [(0, .int x), (1, .int (nI C)), (2, .int (nI N))], [], h) _ _
  refine px_E_seg 2 (σ' := (2, [(0, .int x), (1, .int (nI C)), (2, .int (nI N))], [.int (nI C), .int (nI N)], h)) rfl ?_
  refine px_E_icmp (t := 7) rfl rfl (fun c9 => ?_) (fun c9 => ?_)
  · have hCN : C ≤ N := (nI_leI (by omega) (by omega)).mp c9
    have e : rwF N x C = rw_1 N C C * pw (10 - x).toInt64 C * pw x.toInt64 (N - C) * pw 10 (12 - N) := by unfold rwF; rw [px_bltF hCN]; rfl
    rw [e]
    refine px_E_seg 4 (σ' := (12, rwL (nI (0 + 1)) (rw_1 N C 0) x (nI C) (nI N), [], h)) rfl ?_
    refine rw_loop1 hC ?_ C 0 (by omega)
    generalize nI (C + 1) = z
    refine px_E_seg 4 (σ' := (43, rwL z (rw_1 N C C) x (nI C) (nI N), [.int (10 - x), .long (rw_1 N C C)], h)) rfl ?_
    refine px_E_seg 2 (σ' := (45, rwL z (rw_1 N C C) x (nI C) (nI N), [.int (nI C), .long (10 - x).toInt64, .long (rw_1 N C C)], h)) rfl ?_
    refine px_E_call (j := 310) (as := [.long (10 - x).toInt64, .int (nI C)]) (rest := [.long (rw_1 N C C)]) (v := some (.long (pw (10 - x).toInt64 C))) (h1 := h) rfl rfl rfl (pw_ok (by omega) rfl) ?_
    refine px_E_seg 5 (σ' := (53, rwL z (rw_1 N C C) x (nI C) (nI N), [.int (nI C), .int (nI N), .long x.toInt64, .long (rw_1 N C C * pw (10 - x).toInt64 C)], h)) rfl ?_
    refine px_E_seg 1 (σ' := (54, rwL z (rw_1 N C C) x (nI C) (nI N), [.int (nI N - nI C), .long x.toInt64, .long (rw_1 N C C * pw (10 - x).toInt64 C)], h)) rfl ?_
    refine px_E_call (j := 310) (as := [.long x.toInt64, .int (nI N - nI C)]) (rest := [.long (rw_1 N C C * pw (10 - x).toInt64 C)]) (v := some (.long (pw x.toInt64 (N - C)))) (h1 := h) rfl rfl rfl (pw_ok (by omega) (pk_sub hCN)) ?_
    refine px_E_seg 4 (σ' := (64, rwL z (rw_1 N C C) x (nI C) (nI N), [.int (nI N), .int 12, .long 10, .long (rw_1 N C C * pw (10 - x).toInt64 C * pw x.toInt64 (N - C))], h)) rfl ?_
    refine px_E_seg 1 (σ' := (65, rwL z (rw_1 N C C) x (nI C) (nI N), [.int (12 - nI N), .long 10, .long (rw_1 N C C * pw (10 - x).toInt64 C * pw x.toInt64 (N - C))], h)) rfl ?_
    refine px_E_call (j := 310) (as := [.long 10, .int (12 - nI N)]) (rest := [.long (rw_1 N C C * pw (10 - x).toInt64 C * pw x.toInt64 (N - C))]) (v := some (.long (pw 10 (12 - N)))) (h1 := h) rfl rfl rfl (pw_ok (by omega) (pk_sub (a := 12) hN)) ?_
    refine px_E_seg 1 (σ' := (69, rwL z (rw_1 N C C) x (nI C) (nI N), [.long (rw_1 N C C * pw (10 - x).toInt64 C * pw x.toInt64 (N - C) * pw 10 (12 - N))], h)) rfl ?_
    exact px_E_ret rfl rfl
  · have hCN : N < C := by
      rcases Nat.lt_or_ge N C with q | q
      · exact q
      · exact absurd (nI_le q (by omega)) c9
    have e : rwF N x C = 0 := by unfold rwF; rw [px_bltY hCN]; rfl
    rw [e]
    refine px_E_seg 1 (σ' := (6, [(0, .int x), (1, .int (nI C)), (2, .int (nI N))], [.long 0], h)) rfl ?_
    exact px_E_ret rfl rfl
/-! whether the common divisor is found in n steps -/
def gt_ : Nat → Int64 → Int64 → Bool
  | 0, _, b => decide (b = 0)
  | n + 1, a, b => if b = 0 then true else gt_ n b (a - a / b * b)
abbrev cmM (p q r x y : Int64) : px_L := [(6, .long q), (4, .long p), (8, .long r), (0, .long x), (2, .long y)]
set_option maxRecDepth 100000 in
theorem cm_loop {ro : px_RO} {d : Nat} {x y : Int64} {h : px_H} : ∀ (m : Nat) (p q r : Int64), gt_ m p q = true → px_E ro (d + 1) 292 (6, cmM p q r x y, [], h) (some (.long (gl m p q))) h := by
  intro m
  induction m with
  | zero =>
    intro p q r hg
    have hq : q = 0 := of_decide_eq_true hg
    refine px_E_seg 3 (σ' := (10, cmM p q r x y, [.int (lg_cmp q 0)], h)) rfl ?_
    refine px_E_if (t := 31) rfl rfl (fun _ => ?_) (fun n9 => absurd ((lg_cmp_eq q 0).mpr hq) n9)
    refine px_E_seg 1 (σ' := (33, cmM p q r x y, [.long p], h)) rfl ?_
    exact px_E_ret rfl rfl
  | succ m ih =>
    intro p q r hg
    refine px_E_seg 3 (σ' := (10, cmM p q r x y, [.int (lg_cmp q 0)], h)) rfl ?_
    refine px_E_if (t := 31) rfl rfl (fun c9 => ?_) (fun c9 => ?_)
    · have hb : q = 0 := (lg_cmp_eq q 0).mp c9
      have e : gl (m + 1) p q = p := by show (if q = 0 then p else _) = p; rw [if_pos hb]
      rw [e]
      refine px_E_seg 1 (σ' := (33, cmM p q r x y, [.long p], h)) rfl ?_
      exact px_E_ret rfl rfl
    · have hb : ¬ q = 0 := fun e => c9 ((lg_cmp_eq q 0).mpr e)
      have e : gl (m + 1) p q = gl m q (p - p / q * q) := by show (if q = 0 then p else _) = _; rw [if_neg hb]
      have hg2 : gt_ m q (p - p / q * q) = true := by
        have h9 : (if q = 0 then true else gt_ m q (p - p / q * q)) = true := hg
        rw [if_neg hb] at h9
        exact h9
      rw [e]
      refine px_E_seg 2 (σ' := (17, cmM p q r x y, [.long q, .long p], h)) rfl ?_
      refine px_E_lrem rfl hb ?_
      refine px_E_seg 6 (σ' := (6, cmM q (p - p / q * q) (p - p / q * q) x y, [], h)) rfl ?_
      exact ih _ _ _ hg2
set_option maxRecDepth 100000 in
theorem cm_ok {ro : px_RO} {d : Nat} {x y : Int64} {h : px_H} (m : Nat) (hg : gt_ (m + 1) x y = true) : px_M ro (d + 1) 292 [.long x, .long y] h (some (.long (gl (m + 1) x y))) h := by
  show px_E ro (d + 1) 292 (0, [(0, .long x), (2, .long y)], [], h) _ _
  refine px_E_seg 4 (σ' := (6, [(6, .long y), (4, .long x), (0, .long x), (2, .long y)], [], h)) rfl ?_
  refine px_E_seg 3 (σ' := (10, [(6, .long y), (4, .long x), (0, .long x), (2, .long y)], [.int (lg_cmp y 0)], h)) rfl ?_
  refine px_E_if (t := 31) rfl rfl (fun c9 => ?_) (fun c9 => ?_)
  · have hb : y = 0 := (lg_cmp_eq y 0).mp c9
    have e : gl (m + 1) x y = x := by show (if y = 0 then x else _) = x; rw [if_pos hb]
    rw [e]
    refine px_E_seg 1 (σ' := (33, [(6, .long y), (4, .long x), (0, .long x), (2, .long y)], [.long x], h)) rfl ?_
    exact px_E_ret rfl rfl
  · have hb : ¬ y = 0 := fun e => c9 ((lg_cmp_eq y 0).mpr e)
    have e : gl (m + 1) x y = gl m y (x - x / y * y) := by show (if y = 0 then x else _) = _; rw [if_neg hb]
    have hg2 : gt_ m y (x - x / y * y) = true := by
      have h9 : (if y = 0 then true else gt_ m y (x - x / y * y)) = true := hg
      rw [if_neg hb] at h9
      exact h9
    rw [e]
    refine px_E_seg 2 (σ' := (17, [(6, .long y), (4, .long x), (0, .long x), (2, .long y)], [.long y, .long x], h)) rfl ?_
    refine px_E_lrem rfl hb ?_
    refine px_E_seg 6 (σ' := (6, cmM y (x - x / y * y) (x - x / y * y) x y, [], h)) rfl ?_
    exact cm_loop m _ _ _ hg2
set_option maxRecDepth 100000 in
set_option maxRecDepth 100000 in
theorem pt_ok {ro : px_RO} {d : Nat} {u a : Int64} {f : Int32} {h : px_H} (m : Nat) (hg : gt_ (m + 1) u a = true) (hz : ¬ gl (m + 1) u a = 0) : px_M ro (d + 2) 291 [.long u, .long a, .int f] h (some (.long ((if f = 0 then u else a) / gl (m + 1) u a))) h := by
  show px_E ro (d + 2) 291 (0, [(0, .long u), (2, .long a), (4, .int f)], [], h) _ _
  have fin : ∀ z : Int64, px_E ro (d + 2) 291 (10, [(0, .long u), (2, .long a), (4, .int f)], [.long z], h) (some (.long (z / gl (m + 1) u a))) h := by
    intro z
    refine px_E_seg 2 (σ' := (12, [(0, .long u), (2, .long a), (4, .int f)], [.long a, .long u, .long z], h)) rfl ?_
    refine px_E_call (j := 292) (as := [.long u, .long a]) (rest := [.long z]) (v := some (.long (gl (m + 1) u a))) (h1 := h) rfl rfl rfl (cm_ok m hg) ?_
    refine px_E_ldiv rfl hz ?_
    exact px_E_ret rfl rfl
  refine px_E_seg 1 (σ' := (2, [(0, .long u), (2, .long a), (4, .int f)], [.int f], h)) rfl ?_
  refine px_E_if (t := 9) rfl rfl (fun c9 => ?_) (fun c9 => ?_)
  · have hf : f = 0 := c9
    rw [if_pos hf]
    refine px_E_seg 1 (σ' := (10, [(0, .long u), (2, .long a), (4, .int f)], [.long u], h)) rfl ?_
    exact fin u
  · have hf : ¬ f = 0 := c9
    rw [if_neg hf]
    refine px_E_seg 2 (σ' := (10, [(0, .long u), (2, .long a), (4, .int f)], [.long a], h)) rfl ?_
    exact fin a
-- the sums
def cS (x : Int32) (C : Nat) : Nat → Int64
  | 0 => 0
  | n + 1 => cS x C n + cw n x C
def rS (x : Int32) (C : Nat) : Nat → Int64
  | 0 => 0
  | n + 1 => rS x C n + rwF n x C
abbrev mnL (i : Int32) (s : Int64) (o : Nat) (m c k f : Int32) : px_L := [(7, .int i), (5, .long s), (0, .ref o), (1, .int m), (2, .int c), (3, .int k), (4, .int f)]
set_option maxRecDepth 100000 in
set_option maxRecDepth 100000 in
theorem cS_loop {ro : px_RO} {d C : Nat} {o : Nat} {x k f : Int32} {h hF : px_H} {r : Option Value} (hC : C ≤ 12) (kk : px_E ro (d + 2) 152 (65, mnL (nI 13) (cS x C 13) o x (nI C) k f, [], h) r hF) : ∀ m t, t + m = 13 → px_E ro (d + 2) 152 (40, mnL (nI t) (cS x C t) o x (nI C) k f, [], h) r hF := by
  intro m
  induction m with
  | zero =>
    intro t ht
    have e : t = 13 := by omega
    subst e
    refine px_E_seg 3 (σ' := (65, mnL (nI 13) (cS x C 13) o x (nI C) k f, [], h)) rfl kk
  | succ m ih =>
    intro t ht
    refine px_E_seg 2 (σ' := (44, mnL (nI t) (cS x C t) o x (nI C) k f, [.int 12, .int (nI t)], h)) rfl ?_
    refine px_E_icmp (t := 65) rfl rfl (fun c9 => absurd c9 (show ¬ nI 12 < nI t from nI_nlt (by omega) (by omega))) (fun _ => ?_)
    refine px_E_seg 4 (σ' := (53, mnL (nI t) (cS x C t) o x (nI C) k f, [.int (nI C), .int x, .int (nI t), .long (cS x C t)], h)) rfl ?_
    refine px_E_call (j := 153) (as := [.int (nI t), .int x, .int (nI C)]) (rest := [.long (cS x C t)]) (v := some (.long (cw t x C))) (h1 := h) rfl rfl rfl (cw_ok (by omega) hC) ?_
    refine px_E_seg 4 (σ' := (40, mnL (nI t + 1) (cS x C (t + 1)) o x (nI C) k f, [], h)) rfl ?_
    rw [nI_1]
    exact ih (t + 1) (by omega)
set_option maxRecDepth 100000 in
set_option maxRecDepth 100000 in
theorem rS_loop {ro : px_RO} {d C : Nat} {o : Nat} {x k f : Int32} {h hF : px_H} {r : Option Value} (hC : C ≤ 12) (kk : px_E ro (d + 3) 308 (65, mnL (nI 13) (rS x C 13) o x (nI C) k f, [], h) r hF) : ∀ m t, t + m = 13 → px_E ro (d + 3) 308 (40, mnL (nI t) (rS x C t) o x (nI C) k f, [], h) r hF := by
  intro m
  induction m with
  | zero =>
    intro t ht
    have e : t = 13 := by omega
    subst e
    refine px_E_seg 3 (σ' := (65, mnL (nI 13) (rS x C 13) o x (nI C) k f, [], h)) rfl kk
  | succ m ih =>
    intro t ht
    refine px_E_seg 2 (σ' := (44, mnL (nI t) (rS x C t) o x (nI C) k f, [.int 13, .int (nI t)], h)) rfl ?_
    refine px_E_icmp (t := 65) rfl rfl (fun c9 => absurd c9 (show ¬ nI 13 ≤ nI t from nI_ge (by omega) (by omega))) (fun _ => ?_)
    refine px_E_seg 4 (σ' := (53, mnL (nI t) (rS x C t) o x (nI C) k f, [.int (nI t), .int (nI C), .int x, .long (rS x C t)], h)) rfl ?_
    refine px_E_call (j := 309) (as := [.int x, .int (nI C), .int (nI t)]) (rest := [.long (rS x C t)]) (v := some (.long (rwF t x C))) (h1 := h) rfl rfl rfl (rw_ok (by omega) hC) ?_
    refine px_E_seg 4 (σ' := (40, mnL (nI t + 1) (rS x C (t + 1)) o x (nI C) k f, [], h)) rfl ?_
    rw [nI_1]
    exact ih (t + 1) (by omega)
set_option maxRecDepth 100000 in
set_option maxRecDepth 100000 in
theorem mnC {ro : px_RO} {d C K : Nat} {x f : Int32} {h : px_H} (hC : C ≤ 12) (hK : K ≤ 12) : px_E ro (d + 2) 152 (34, [(0, .ref 0), (1, .int x), (2, .int (nI C)), (3, .int (nI K)), (4, .int f)], [], h) (some (.long (lt_ (cw K x C) (cS x C 13) f))) h := by
  refine px_E_seg 4 (σ' := (40, mnL (nI 0) (cS x C 0) 0 x (nI C) (nI K) f, [], h)) rfl ?_
  refine cS_loop hC ?_ 13 0 rfl
  refine px_E_seg 3 (σ' := (68, mnL (nI 13) (cS x C 13) 0 x (nI C) (nI K) f, [.int (nI C), .int x, .int (nI K)], h)) rfl ?_
  refine px_E_call (j := 153) (as := [.int (nI K), .int x, .int (nI C)]) (rest := []) (v := some (.long (cw K x C))) (h1 := h) rfl rfl rfl (cw_ok hK hC) ?_
  refine px_E_seg 2 (σ' := (75, mnL (nI 13) (cS x C 13) 0 x (nI C) (nI K) f, [.int f, .long (cS x C 13), .long (cw K x C)], h)) rfl ?_
  refine px_E_call (j := 125) (as := [.long (cw K x C), .long (cS x C 13), .int f]) (rest := []) (v := some (.long (lt_ (cw K x C) (cS x C 13) f))) (h1 := h) rfl rfl rfl il_ok ?_
  exact px_E_ret rfl rfl
set_option maxRecDepth 100000 in
set_option maxRecDepth 100000 in
theorem mnR {ro : px_RO} {d C K : Nat} {x f : Int32} {h : px_H} (hC : C ≤ 12) (hK : K ≤ 12) (hg : gt_ 100 (rwF K x C) (rS x C 13) = true) (hz : ¬ gl 100 (rwF K x C) (rS x C 13) = 0) : px_E ro (d + 3) 308 (34, [(0, .ref 95), (1, .int x), (2, .int (nI C)), (3, .int (nI K)), (4, .int f)], [], h) (some (.long ((if f = 0 then rwF K x C else rS x C 13) / gl 100 (rwF K x C) (rS x C 13)))) h := by
  refine px_E_seg 4 (σ' := (40, mnL (nI 0) (rS x C 0) 95 x (nI C) (nI K) f, [], h)) rfl ?_
  refine rS_loop hC ?_ 13 0 rfl
  refine px_E_seg 3 (σ' := (68, mnL (nI 13) (rS x C 13) 95 x (nI C) (nI K) f, [.int (nI K), .int (nI C), .int x], h)) rfl ?_
  refine px_E_call (j := 309) (as := [.int x, .int (nI C), .int (nI K)]) (rest := []) (v := some (.long (rwF K x C))) (h1 := h) rfl rfl rfl (rw_ok hK hC) ?_
  refine px_E_seg 2 (σ' := (75, mnL (nI 13) (rS x C 13) 95 x (nI C) (nI K) f, [.int f, .long (rS x C 13), .long (rwF K x C)], h)) rfl ?_
  refine px_E_call (j := 291) (as := [.long (rwF K x C), .long (rS x C 13), .int f]) (rest := []) (v := some (.long ((if f = 0 then rwF K x C else rS x C 13) / gl 100 (rwF K x C) (rS x C 13)))) (h1 := h) rfl rfl rfl (pt_ok 99 hg hz) ?_
  exact px_E_ret rfl rfl
/-! all of it, counted through -/
def mnOk (m C K : Nat) : Bool := gt_ 100 (rwF K (nI m) C) (rS (nI m) C 13) && decide (¬ gl 100 (rwF K (nI m) C) (rS (nI m) C 13) = 0) && decide (lt_ (cw K (nI m) C) (cS (nI m) C 13) 0 = rwF K (nI m) C / gl 100 (rwF K (nI m) C) (rS (nI m) C 13)) && decide (lt_ (cw K (nI m) C) (cS (nI m) C 13) 1 = rS (nI m) C 13 / gl 100 (rwF K (nI m) C) (rS (nI m) C 13))
set_option maxRecDepth 100000 in
theorem mnOk_0 : (List.range 13).all (fun C => (List.range 13).all (fun K => mnOk 0 C K)) = true := by decide +kernel
set_option maxRecDepth 100000 in
theorem mnOk_1 : (List.range 13).all (fun C => (List.range 13).all (fun K => mnOk 1 C K)) = true := by decide +kernel
set_option maxRecDepth 100000 in
theorem mnOk_2 : (List.range 13).all (fun C => (List.range 13).all (fun K => mnOk 2 C K)) = true := by decide +kernel
set_option maxRecDepth 100000 in
theorem mnOk_3 : (List.range 13).all (fun C => (List.range 13).all (fun K => mnOk 3 C K)) = true := by decide +kernel
set_option maxRecDepth 100000 in
theorem mnOk_4 : (List.range 13).all (fun C => (List.range 13).all (fun K => mnOk 4 C K)) = true := by decide +kernel
set_option maxRecDepth 100000 in
theorem mnOk_5 : (List.range 13).all (fun C => (List.range 13).all (fun K => mnOk 5 C K)) = true := by decide +kernel
set_option maxRecDepth 100000 in
theorem mnOk_6 : (List.range 13).all (fun C => (List.range 13).all (fun K => mnOk 6 C K)) = true := by decide +kernel
set_option maxRecDepth 100000 in
theorem mnOk_7 : (List.range 13).all (fun C => (List.range 13).all (fun K => mnOk 7 C K)) = true := by decide +kernel
set_option maxRecDepth 100000 in
theorem mnOk_8 : (List.range 13).all (fun C => (List.range 13).all (fun K => mnOk 8 C K)) = true := by decide +kernel
set_option maxRecDepth 100000 in
theorem mnOk_9 : (List.range 13).all (fun C => (List.range 13).all (fun K => mnOk 9 C K)) = true := by decide +kernel
theorem mn_all {m C K : Nat} (hm : m ≤ 9) (hC : C ≤ 12) (hK : K ≤ 12) : mnOk m C K = true := by
  have use : ∀ {m : Nat}, (List.range 13).all (fun C => (List.range 13).all (fun K => mnOk m C K)) = true → mnOk m C K = true := fun h => List.all_eq_true.mp (List.all_eq_true.mp h C (List.mem_range.mpr (by omega))) K (List.mem_range.mpr (by omega))
  match m, hm with
  | 0, _ => exact use mnOk_0
  | 1, _ => exact use mnOk_1
  | 2, _ => exact use mnOk_2
  | 3, _ => exact use mnOk_3
  | 4, _ => exact use mnOk_4
  | 5, _ => exact use mnOk_5
  | 6, _ => exact use mnOk_6
  | 7, _ => exact use mnOk_7
  | 8, _ => exact use mnOk_8
  | 9, _ => exact use mnOk_9
  | n + 10, h => omega
def mh_X (ro : px_RO) (d k : Nat) (as : List Value) (r : Value) : Prop := ∀ h : px_H, px_M ro d k as h (some r) h
theorem mh_same {P Q : Prop} (a : P) (b : Q) : P ∧ Q := ⟨a, b⟩
theorem px_nat {x : Int32} {n : Nat} (h : 0 ≤ x.toInt ∧ x.toInt ≤ n) (hn : n < 2 ^ 31) : ∃ j : Nat, j ≤ n ∧ x = nI j := by
  refine ⟨x.toInt.toNat, by omega, Int32.toInt_inj.mp ?_⟩
  rw [nI_toInt (by omega)]
  omega
set_option maxRecDepth 100000 in
set_option maxHeartbeats 4000000 in
set_option maxRecDepth 100000 in
theorem mh_x29_in {ro : px_RO} {dd : Nat} {m C K : Nat} {f : Int32} (hm : m ≤ 9) (hC : C ≤ 12) (hK : K ≤ 12) : mh_X ro (dd + 8) 152 [.ref 0, .int (nI m), .int (nI C), .int (nI K), .int f] (.long (lt_ (cw K (nI m) C) (cS (nI m) C 13) f)) := by
  have em : (nI m).toInt = (m : Int) := nI_toInt (by omega)
  have eC : (nI C).toInt = (C : Int) := nI_toInt (by omega)
  have eK : (nI K).toInt = (K : Int) := nI_toInt (by omega)
  intro h
  show px_E ro (dd + 8) 152 (0, _, [], _) _ _
  refine px_E_seg 3 (σ' := (4, [(0, .ref 0), (1, .int (nI m)), (2, .int (nI C)), (3, .int (nI K)), (4, .int f)], [.int 9, .int 0, .int (nI m)], h)) rfl ?_
  refine px_E_call (j := 15) (as := [.int (nI m), .int 0, .int 9]) (rest := []) (v := some (.int 1)) (h1 := h) rfl rfl rfl (by
    refine px_E_seg 2 (σ' := (2, [(0, .int (nI m)), (1, .int 0), (2, .int 9)], [.int 0, .int (nI m)], h)) rfl ?_
    refine px_E_icF (t := 14) rfl rfl (show (0 : Int) ≤ (nI m).toInt by omega) ?_
    refine px_E_seg 2 (σ' := (7, [(0, .int (nI m)), (1, .int 0), (2, .int 9)], [.int 9, .int (nI m)], h)) rfl ?_
    refine px_E_icF (t := 14) rfl rfl (show (nI m).toInt ≤ (9 : Int) by omega) ?_
    refine px_E_seg 2 (σ' := (15, [(0, .int (nI m)), (1, .int 0), (2, .int 9)], [.int 1], h)) rfl ?_
    exact px_E_ret rfl rfl) ?_
  refine px_E_seg 4 (σ' := (14, [(0, .ref 0), (1, .int (nI m)), (2, .int (nI C)), (3, .int (nI K)), (4, .int f)], [.int 12, .int 0, .int (nI C)], h)) rfl ?_
  refine px_E_call (j := 15) (as := [.int (nI C), .int 0, .int 12]) (rest := []) (v := some (.int 1)) (h1 := h) rfl rfl rfl (by
    refine px_E_seg 2 (σ' := (2, [(0, .int (nI C)), (1, .int 0), (2, .int 12)], [.int 0, .int (nI C)], h)) rfl ?_
    refine px_E_icF (t := 14) rfl rfl (show (0 : Int) ≤ (nI C).toInt by omega) ?_
    refine px_E_seg 2 (σ' := (7, [(0, .int (nI C)), (1, .int 0), (2, .int 12)], [.int 12, .int (nI C)], h)) rfl ?_
    refine px_E_icF (t := 14) rfl rfl (show (nI C).toInt ≤ (12 : Int) by omega) ?_
    refine px_E_seg 2 (σ' := (15, [(0, .int (nI C)), (1, .int 0), (2, .int 12)], [.int 1], h)) rfl ?_
    exact px_E_ret rfl rfl) ?_
  refine px_E_seg 4 (σ' := (24, [(0, .ref 0), (1, .int (nI m)), (2, .int (nI C)), (3, .int (nI K)), (4, .int f)], [.int 12, .int 0, .int (nI K)], h)) rfl ?_
  refine px_E_call (j := 15) (as := [.int (nI K), .int 0, .int 12]) (rest := []) (v := some (.int 1)) (h1 := h) rfl rfl rfl (by
    refine px_E_seg 2 (σ' := (2, [(0, .int (nI K)), (1, .int 0), (2, .int 12)], [.int 0, .int (nI K)], h)) rfl ?_
    refine px_E_icF (t := 14) rfl rfl (show (0 : Int) ≤ (nI K).toInt by omega) ?_
    refine px_E_seg 2 (σ' := (7, [(0, .int (nI K)), (1, .int 0), (2, .int 12)], [.int 12, .int (nI K)], h)) rfl ?_
    refine px_E_icF (t := 14) rfl rfl (show (nI K).toInt ≤ (12 : Int) by omega) ?_
    refine px_E_seg 2 (σ' := (15, [(0, .int (nI K)), (1, .int 0), (2, .int 12)], [.int 1], h)) rfl ?_
    exact px_E_ret rfl rfl) ?_
  refine px_E_seg 1 (σ' := (34, [(0, .ref 0), (1, .int (nI m)), (2, .int (nI C)), (3, .int (nI K)), (4, .int f)], [], h)) rfl ?_
  exact mnC hC hK
set_option maxRecDepth 100000 in
set_option maxHeartbeats 4000000 in
set_option maxRecDepth 100000 in
theorem mh_r29_in {ro : px_RO} {dd : Nat} {m C K : Nat} {f : Int32} (hm : m ≤ 9) (hC : C ≤ 12) (hK : K ≤ 12) : mh_X ro (dd + 8) 308 [.ref 95, .int (nI m), .int (nI C), .int (nI K), .int f] (.long ((if f = 0 then rwF K (nI m) C else rS (nI m) C 13) / gl 100 (rwF K (nI m) C) (rS (nI m) C 13))) := by
  have em : (nI m).toInt = (m : Int) := nI_toInt (by omega)
  have eC : (nI C).toInt = (C : Int) := nI_toInt (by omega)
  have eK : (nI K).toInt = (K : Int) := nI_toInt (by omega)
  have ok := mn_all hm hC hK
  unfold mnOk at ok
  simp only [Bool.and_eq_true, decide_eq_true_eq] at ok
  intro h
  show px_E ro (dd + 8) 308 (0, _, [], _) _ _
  refine px_E_seg 3 (σ' := (4, [(0, .ref 95), (1, .int (nI m)), (2, .int (nI C)), (3, .int (nI K)), (4, .int f)], [.int 9, .int 0, .int (nI m)], h)) rfl ?_
  refine px_E_call (j := 183) (as := [.int (nI m), .int 0, .int 9]) (rest := []) (v := some (.int 1)) (h1 := h) rfl rfl rfl (by
    refine px_E_seg 2 (σ' := (2, [(0, .int (nI m)), (1, .int 0), (2, .int 9)], [.int 0, .int (nI m)], h)) rfl ?_
    refine px_E_icF (t := 14) rfl rfl (show (0 : Int) ≤ (nI m).toInt by omega) ?_
    refine px_E_seg 2 (σ' := (7, [(0, .int (nI m)), (1, .int 0), (2, .int 9)], [.int 9, .int (nI m)], h)) rfl ?_
    refine px_E_icF (t := 14) rfl rfl (show (nI m).toInt ≤ (9 : Int) by omega) ?_
    refine px_E_seg 2 (σ' := (15, [(0, .int (nI m)), (1, .int 0), (2, .int 9)], [.int 1], h)) rfl ?_
    exact px_E_ret rfl rfl) ?_
  refine px_E_seg 4 (σ' := (14, [(0, .ref 95), (1, .int (nI m)), (2, .int (nI C)), (3, .int (nI K)), (4, .int f)], [.int 12, .int 0, .int (nI C)], h)) rfl ?_
  refine px_E_call (j := 183) (as := [.int (nI C), .int 0, .int 12]) (rest := []) (v := some (.int 1)) (h1 := h) rfl rfl rfl (by
    refine px_E_seg 2 (σ' := (2, [(0, .int (nI C)), (1, .int 0), (2, .int 12)], [.int 0, .int (nI C)], h)) rfl ?_
    refine px_E_icF (t := 14) rfl rfl (show (0 : Int) ≤ (nI C).toInt by omega) ?_
    refine px_E_seg 2 (σ' := (7, [(0, .int (nI C)), (1, .int 0), (2, .int 12)], [.int 12, .int (nI C)], h)) rfl ?_
    refine px_E_icF (t := 14) rfl rfl (show (nI C).toInt ≤ (12 : Int) by omega) ?_
    refine px_E_seg 2 (σ' := (15, [(0, .int (nI C)), (1, .int 0), (2, .int 12)], [.int 1], h)) rfl ?_
    exact px_E_ret rfl rfl) ?_
  refine px_E_seg 4 (σ' := (24, [(0, .ref 95), (1, .int (nI m)), (2, .int (nI C)), (3, .int (nI K)), (4, .int f)], [.int 12, .int 0, .int (nI K)], h)) rfl ?_
  refine px_E_call (j := 183) (as := [.int (nI K), .int 0, .int 12]) (rest := []) (v := some (.int 1)) (h1 := h) rfl rfl rfl (by
    refine px_E_seg 2 (σ' := (2, [(0, .int (nI K)), (1, .int 0), (2, .int 12)], [.int 0, .int (nI K)], h)) rfl ?_
    refine px_E_icF (t := 14) rfl rfl (show (0 : Int) ≤ (nI K).toInt by omega) ?_
    refine px_E_seg 2 (σ' := (7, [(0, .int (nI K)), (1, .int 0), (2, .int 12)], [.int 12, .int (nI K)], h)) rfl ?_
    refine px_E_icF (t := 14) rfl rfl (show (nI K).toInt ≤ (12 : Int) by omega) ?_
    refine px_E_seg 2 (σ' := (15, [(0, .int (nI K)), (1, .int 0), (2, .int 12)], [.int 1], h)) rfl ?_
    exact px_E_ret rfl rfl) ?_
  refine px_E_seg 1 (σ' := (34, [(0, .ref 95), (1, .int (nI m)), (2, .int (nI C)), (3, .int (nI K)), (4, .int f)], [], h)) rfl ?_
  exact mnR hC hK ok.1.1.1 ok.1.1.2
set_option maxRecDepth 100000 in
set_option maxHeartbeats 4000000 in
set_option maxRecDepth 100000 in
theorem mh_x29_0 {ro : px_RO} {dd : Nat} (a1 a2 a3 a4 : Int32) (ha1 : (-2147483648) ≤ a1.toInt ∧ a1.toInt ≤ (-1)) (ha2 : (-2147483648) ≤ a2.toInt ∧ a2.toInt ≤ 2147483647) (ha3 : (-2147483648) ≤ a3.toInt ∧ a3.toInt ≤ 2147483647) (ha4 : 0 ≤ a4.toInt ∧ a4.toInt ≤ 1) : mh_X ro (dd + 8) 152 [.ref 0, .int a1, .int a2, .int a3, .int a4] (.long (-1)) := by
  intro h
  show px_E ro (dd + 8) 152 (0, _, [], _) _ _
  refine px_E_seg 3 (σ' := (4, [(0, .ref 0), (1, .int a1), (2, .int a2), (3, .int a3), (4, .int a4)], [.int 9, .int 0, .int a1], h)) rfl ?_
  refine px_E_call (j := 15) (as := [.int a1, .int 0, .int 9]) (rest := []) (v := some (.int 0)) (h1 := h) rfl rfl rfl (by
    refine px_E_seg 2 (σ' := (2, [(0, .int a1), (1, .int 0), (2, .int 9)], [.int 0, .int a1], h)) rfl ?_
    refine px_E_icT (t := 14) rfl rfl (show a1.toInt < (0 : Int) by omega) ?_
    refine px_E_seg 1 (σ' := (15, [(0, .int a1), (1, .int 0), (2, .int 9)], [.int 0], h)) rfl ?_
    exact px_E_ret rfl rfl) ?_
  refine px_E_seg 2 (σ' := (33, [(0, .ref 0), (1, .int a1), (2, .int a2), (3, .int a3), (4, .int a4)], [.long (-1)], h)) rfl ?_
  exact px_E_ret rfl rfl
set_option maxRecDepth 100000 in
set_option maxHeartbeats 4000000 in
set_option maxRecDepth 100000 in
theorem mh_r29_0 {ro : px_RO} {dd : Nat} (a1 a2 a3 a4 : Int32) (ha1 : (-2147483648) ≤ a1.toInt ∧ a1.toInt ≤ (-1)) (ha2 : (-2147483648) ≤ a2.toInt ∧ a2.toInt ≤ 2147483647) (ha3 : (-2147483648) ≤ a3.toInt ∧ a3.toInt ≤ 2147483647) (ha4 : 0 ≤ a4.toInt ∧ a4.toInt ≤ 1) : mh_X ro (dd + 8) 308 [.ref 95, .int a1, .int a2, .int a3, .int a4] (.long (-1)) := by
  intro h
  show px_E ro (dd + 8) 308 (0, _, [], _) _ _
  refine px_E_seg 3 (σ' := (4, [(0, .ref 95), (1, .int a1), (2, .int a2), (3, .int a3), (4, .int a4)], [.int 9, .int 0, .int a1], h)) rfl ?_
  refine px_E_call (j := 183) (as := [.int a1, .int 0, .int 9]) (rest := []) (v := some (.int 0)) (h1 := h) rfl rfl rfl (by
    refine px_E_seg 2 (σ' := (2, [(0, .int a1), (1, .int 0), (2, .int 9)], [.int 0, .int a1], h)) rfl ?_
    refine px_E_icT (t := 14) rfl rfl (show a1.toInt < (0 : Int) by omega) ?_
    refine px_E_seg 1 (σ' := (15, [(0, .int a1), (1, .int 0), (2, .int 9)], [.int 0], h)) rfl ?_
    exact px_E_ret rfl rfl) ?_
  refine px_E_seg 2 (σ' := (33, [(0, .ref 95), (1, .int a1), (2, .int a2), (3, .int a3), (4, .int a4)], [.long (-1)], h)) rfl ?_
  exact px_E_ret rfl rfl
set_option maxRecDepth 100000 in
set_option maxHeartbeats 4000000 in
set_option maxRecDepth 100000 in
theorem mh_x29_1 {ro : px_RO} {dd : Nat} (a1 a2 a3 a4 : Int32) (ha1 : 0 ≤ a1.toInt ∧ a1.toInt ≤ 9) (ha2 : (-2147483648) ≤ a2.toInt ∧ a2.toInt ≤ (-1)) (ha3 : (-2147483648) ≤ a3.toInt ∧ a3.toInt ≤ 2147483647) (ha4 : 0 ≤ a4.toInt ∧ a4.toInt ≤ 1) : mh_X ro (dd + 8) 152 [.ref 0, .int a1, .int a2, .int a3, .int a4] (.long (-1)) := by
  intro h
  show px_E ro (dd + 8) 152 (0, _, [], _) _ _
  refine px_E_seg 3 (σ' := (4, [(0, .ref 0), (1, .int a1), (2, .int a2), (3, .int a3), (4, .int a4)], [.int 9, .int 0, .int a1], h)) rfl ?_
  refine px_E_call (j := 15) (as := [.int a1, .int 0, .int 9]) (rest := []) (v := some (.int 1)) (h1 := h) rfl rfl rfl (by
    refine px_E_seg 2 (σ' := (2, [(0, .int a1), (1, .int 0), (2, .int 9)], [.int 0, .int a1], h)) rfl ?_
    refine px_E_icF (t := 14) rfl rfl (show (0 : Int) ≤ a1.toInt by omega) ?_
    refine px_E_seg 2 (σ' := (7, [(0, .int a1), (1, .int 0), (2, .int 9)], [.int 9, .int a1], h)) rfl ?_
    refine px_E_icF (t := 14) rfl rfl (show a1.toInt ≤ (9 : Int) by omega) ?_
    refine px_E_seg 2 (σ' := (15, [(0, .int a1), (1, .int 0), (2, .int 9)], [.int 1], h)) rfl ?_
    exact px_E_ret rfl rfl) ?_
  refine px_E_seg 4 (σ' := (14, [(0, .ref 0), (1, .int a1), (2, .int a2), (3, .int a3), (4, .int a4)], [.int 12, .int 0, .int a2], h)) rfl ?_
  refine px_E_call (j := 15) (as := [.int a2, .int 0, .int 12]) (rest := []) (v := some (.int 0)) (h1 := h) rfl rfl rfl (by
    refine px_E_seg 2 (σ' := (2, [(0, .int a2), (1, .int 0), (2, .int 12)], [.int 0, .int a2], h)) rfl ?_
    refine px_E_icT (t := 14) rfl rfl (show a2.toInt < (0 : Int) by omega) ?_
    refine px_E_seg 1 (σ' := (15, [(0, .int a2), (1, .int 0), (2, .int 12)], [.int 0], h)) rfl ?_
    exact px_E_ret rfl rfl) ?_
  refine px_E_seg 2 (σ' := (33, [(0, .ref 0), (1, .int a1), (2, .int a2), (3, .int a3), (4, .int a4)], [.long (-1)], h)) rfl ?_
  exact px_E_ret rfl rfl
set_option maxRecDepth 100000 in
set_option maxHeartbeats 4000000 in
set_option maxRecDepth 100000 in
theorem mh_r29_1 {ro : px_RO} {dd : Nat} (a1 a2 a3 a4 : Int32) (ha1 : 0 ≤ a1.toInt ∧ a1.toInt ≤ 9) (ha2 : (-2147483648) ≤ a2.toInt ∧ a2.toInt ≤ (-1)) (ha3 : (-2147483648) ≤ a3.toInt ∧ a3.toInt ≤ 2147483647) (ha4 : 0 ≤ a4.toInt ∧ a4.toInt ≤ 1) : mh_X ro (dd + 8) 308 [.ref 95, .int a1, .int a2, .int a3, .int a4] (.long (-1)) := by
  intro h
  show px_E ro (dd + 8) 308 (0, _, [], _) _ _
  refine px_E_seg 3 (σ' := (4, [(0, .ref 95), (1, .int a1), (2, .int a2), (3, .int a3), (4, .int a4)], [.int 9, .int 0, .int a1], h)) rfl ?_
  refine px_E_call (j := 183) (as := [.int a1, .int 0, .int 9]) (rest := []) (v := some (.int 1)) (h1 := h) rfl rfl rfl (by
    refine px_E_seg 2 (σ' := (2, [(0, .int a1), (1, .int 0), (2, .int 9)], [.int 0, .int a1], h)) rfl ?_
    refine px_E_icF (t := 14) rfl rfl (show (0 : Int) ≤ a1.toInt by omega) ?_
    refine px_E_seg 2 (σ' := (7, [(0, .int a1), (1, .int 0), (2, .int 9)], [.int 9, .int a1], h)) rfl ?_
    refine px_E_icF (t := 14) rfl rfl (show a1.toInt ≤ (9 : Int) by omega) ?_
    refine px_E_seg 2 (σ' := (15, [(0, .int a1), (1, .int 0), (2, .int 9)], [.int 1], h)) rfl ?_
    exact px_E_ret rfl rfl) ?_
  refine px_E_seg 4 (σ' := (14, [(0, .ref 95), (1, .int a1), (2, .int a2), (3, .int a3), (4, .int a4)], [.int 12, .int 0, .int a2], h)) rfl ?_
  refine px_E_call (j := 183) (as := [.int a2, .int 0, .int 12]) (rest := []) (v := some (.int 0)) (h1 := h) rfl rfl rfl (by
    refine px_E_seg 2 (σ' := (2, [(0, .int a2), (1, .int 0), (2, .int 12)], [.int 0, .int a2], h)) rfl ?_
    refine px_E_icT (t := 14) rfl rfl (show a2.toInt < (0 : Int) by omega) ?_
    refine px_E_seg 1 (σ' := (15, [(0, .int a2), (1, .int 0), (2, .int 12)], [.int 0], h)) rfl ?_
    exact px_E_ret rfl rfl) ?_
  refine px_E_seg 2 (σ' := (33, [(0, .ref 95), (1, .int a1), (2, .int a2), (3, .int a3), (4, .int a4)], [.long (-1)], h)) rfl ?_
  exact px_E_ret rfl rfl
set_option maxRecDepth 100000 in
set_option maxHeartbeats 4000000 in
set_option maxRecDepth 100000 in
theorem mh_x29_2 {ro : px_RO} {dd : Nat} (a1 a2 a3 a4 : Int32) (ha1 : 0 ≤ a1.toInt ∧ a1.toInt ≤ 9) (ha2 : 0 ≤ a2.toInt ∧ a2.toInt ≤ 12) (ha3 : (-2147483648) ≤ a3.toInt ∧ a3.toInt ≤ (-1)) (ha4 : 0 ≤ a4.toInt ∧ a4.toInt ≤ 1) : mh_X ro (dd + 8) 152 [.ref 0, .int a1, .int a2, .int a3, .int a4] (.long (-1)) := by
  intro h
  show px_E ro (dd + 8) 152 (0, _, [], _) _ _
  refine px_E_seg 3 (σ' := (4, [(0, .ref 0), (1, .int a1), (2, .int a2), (3, .int a3), (4, .int a4)], [.int 9, .int 0, .int a1], h)) rfl ?_
  refine px_E_call (j := 15) (as := [.int a1, .int 0, .int 9]) (rest := []) (v := some (.int 1)) (h1 := h) rfl rfl rfl (by
    refine px_E_seg 2 (σ' := (2, [(0, .int a1), (1, .int 0), (2, .int 9)], [.int 0, .int a1], h)) rfl ?_
    refine px_E_icF (t := 14) rfl rfl (show (0 : Int) ≤ a1.toInt by omega) ?_
    refine px_E_seg 2 (σ' := (7, [(0, .int a1), (1, .int 0), (2, .int 9)], [.int 9, .int a1], h)) rfl ?_
    refine px_E_icF (t := 14) rfl rfl (show a1.toInt ≤ (9 : Int) by omega) ?_
    refine px_E_seg 2 (σ' := (15, [(0, .int a1), (1, .int 0), (2, .int 9)], [.int 1], h)) rfl ?_
    exact px_E_ret rfl rfl) ?_
  refine px_E_seg 4 (σ' := (14, [(0, .ref 0), (1, .int a1), (2, .int a2), (3, .int a3), (4, .int a4)], [.int 12, .int 0, .int a2], h)) rfl ?_
  refine px_E_call (j := 15) (as := [.int a2, .int 0, .int 12]) (rest := []) (v := some (.int 1)) (h1 := h) rfl rfl rfl (by
    refine px_E_seg 2 (σ' := (2, [(0, .int a2), (1, .int 0), (2, .int 12)], [.int 0, .int a2], h)) rfl ?_
    refine px_E_icF (t := 14) rfl rfl (show (0 : Int) ≤ a2.toInt by omega) ?_
    refine px_E_seg 2 (σ' := (7, [(0, .int a2), (1, .int 0), (2, .int 12)], [.int 12, .int a2], h)) rfl ?_
    refine px_E_icF (t := 14) rfl rfl (show a2.toInt ≤ (12 : Int) by omega) ?_
    refine px_E_seg 2 (σ' := (15, [(0, .int a2), (1, .int 0), (2, .int 12)], [.int 1], h)) rfl ?_
    exact px_E_ret rfl rfl) ?_
  refine px_E_seg 4 (σ' := (24, [(0, .ref 0), (1, .int a1), (2, .int a2), (3, .int a3), (4, .int a4)], [.int 12, .int 0, .int a3], h)) rfl ?_
  refine px_E_call (j := 15) (as := [.int a3, .int 0, .int 12]) (rest := []) (v := some (.int 0)) (h1 := h) rfl rfl rfl (by
    refine px_E_seg 2 (σ' := (2, [(0, .int a3), (1, .int 0), (2, .int 12)], [.int 0, .int a3], h)) rfl ?_
    refine px_E_icT (t := 14) rfl rfl (show a3.toInt < (0 : Int) by omega) ?_
    refine px_E_seg 1 (σ' := (15, [(0, .int a3), (1, .int 0), (2, .int 12)], [.int 0], h)) rfl ?_
    exact px_E_ret rfl rfl) ?_
  refine px_E_seg 2 (σ' := (33, [(0, .ref 0), (1, .int a1), (2, .int a2), (3, .int a3), (4, .int a4)], [.long (-1)], h)) rfl ?_
  exact px_E_ret rfl rfl
set_option maxRecDepth 100000 in
set_option maxHeartbeats 4000000 in
set_option maxRecDepth 100000 in
theorem mh_r29_2 {ro : px_RO} {dd : Nat} (a1 a2 a3 a4 : Int32) (ha1 : 0 ≤ a1.toInt ∧ a1.toInt ≤ 9) (ha2 : 0 ≤ a2.toInt ∧ a2.toInt ≤ 12) (ha3 : (-2147483648) ≤ a3.toInt ∧ a3.toInt ≤ (-1)) (ha4 : 0 ≤ a4.toInt ∧ a4.toInt ≤ 1) : mh_X ro (dd + 8) 308 [.ref 95, .int a1, .int a2, .int a3, .int a4] (.long (-1)) := by
  intro h
  show px_E ro (dd + 8) 308 (0, _, [], _) _ _
  refine px_E_seg 3 (σ' := (4, [(0, .ref 95), (1, .int a1), (2, .int a2), (3, .int a3), (4, .int a4)], [.int 9, .int 0, .int a1], h)) rfl ?_
  refine px_E_call (j := 183) (as := [.int a1, .int 0, .int 9]) (rest := []) (v := some (.int 1)) (h1 := h) rfl rfl rfl (by
    refine px_E_seg 2 (σ' := (2, [(0, .int a1), (1, .int 0), (2, .int 9)], [.int 0, .int a1], h)) rfl ?_
    refine px_E_icF (t := 14) rfl rfl (show (0 : Int) ≤ a1.toInt by omega) ?_
    refine px_E_seg 2 (σ' := (7, [(0, .int a1), (1, .int 0), (2, .int 9)], [.int 9, .int a1], h)) rfl ?_
    refine px_E_icF (t := 14) rfl rfl (show a1.toInt ≤ (9 : Int) by omega) ?_
    refine px_E_seg 2 (σ' := (15, [(0, .int a1), (1, .int 0), (2, .int 9)], [.int 1], h)) rfl ?_
    exact px_E_ret rfl rfl) ?_
  refine px_E_seg 4 (σ' := (14, [(0, .ref 95), (1, .int a1), (2, .int a2), (3, .int a3), (4, .int a4)], [.int 12, .int 0, .int a2], h)) rfl ?_
  refine px_E_call (j := 183) (as := [.int a2, .int 0, .int 12]) (rest := []) (v := some (.int 1)) (h1 := h) rfl rfl rfl (by
    refine px_E_seg 2 (σ' := (2, [(0, .int a2), (1, .int 0), (2, .int 12)], [.int 0, .int a2], h)) rfl ?_
    refine px_E_icF (t := 14) rfl rfl (show (0 : Int) ≤ a2.toInt by omega) ?_
    refine px_E_seg 2 (σ' := (7, [(0, .int a2), (1, .int 0), (2, .int 12)], [.int 12, .int a2], h)) rfl ?_
    refine px_E_icF (t := 14) rfl rfl (show a2.toInt ≤ (12 : Int) by omega) ?_
    refine px_E_seg 2 (σ' := (15, [(0, .int a2), (1, .int 0), (2, .int 12)], [.int 1], h)) rfl ?_
    exact px_E_ret rfl rfl) ?_
  refine px_E_seg 4 (σ' := (24, [(0, .ref 95), (1, .int a1), (2, .int a2), (3, .int a3), (4, .int a4)], [.int 12, .int 0, .int a3], h)) rfl ?_
  refine px_E_call (j := 183) (as := [.int a3, .int 0, .int 12]) (rest := []) (v := some (.int 0)) (h1 := h) rfl rfl rfl (by
    refine px_E_seg 2 (σ' := (2, [(0, .int a3), (1, .int 0), (2, .int 12)], [.int 0, .int a3], h)) rfl ?_
    refine px_E_icT (t := 14) rfl rfl (show a3.toInt < (0 : Int) by omega) ?_
    refine px_E_seg 1 (σ' := (15, [(0, .int a3), (1, .int 0), (2, .int 12)], [.int 0], h)) rfl ?_
    exact px_E_ret rfl rfl) ?_
  refine px_E_seg 2 (σ' := (33, [(0, .ref 95), (1, .int a1), (2, .int a2), (3, .int a3), (4, .int a4)], [.long (-1)], h)) rfl ?_
  exact px_E_ret rfl rfl
set_option maxRecDepth 100000 in
set_option maxHeartbeats 4000000 in
set_option maxRecDepth 100000 in
theorem mh_x29_4 {ro : px_RO} {dd : Nat} (a1 a2 a3 a4 : Int32) (ha1 : 0 ≤ a1.toInt ∧ a1.toInt ≤ 9) (ha2 : 0 ≤ a2.toInt ∧ a2.toInt ≤ 12) (ha3 : 13 ≤ a3.toInt ∧ a3.toInt ≤ 2147483647) (ha4 : 0 ≤ a4.toInt ∧ a4.toInt ≤ 1) : mh_X ro (dd + 8) 152 [.ref 0, .int a1, .int a2, .int a3, .int a4] (.long (-1)) := by
  intro h
  show px_E ro (dd + 8) 152 (0, _, [], _) _ _
  refine px_E_seg 3 (σ' := (4, [(0, .ref 0), (1, .int a1), (2, .int a2), (3, .int a3), (4, .int a4)], [.int 9, .int 0, .int a1], h)) rfl ?_
  refine px_E_call (j := 15) (as := [.int a1, .int 0, .int 9]) (rest := []) (v := some (.int 1)) (h1 := h) rfl rfl rfl (by
    refine px_E_seg 2 (σ' := (2, [(0, .int a1), (1, .int 0), (2, .int 9)], [.int 0, .int a1], h)) rfl ?_
    refine px_E_icF (t := 14) rfl rfl (show (0 : Int) ≤ a1.toInt by omega) ?_
    refine px_E_seg 2 (σ' := (7, [(0, .int a1), (1, .int 0), (2, .int 9)], [.int 9, .int a1], h)) rfl ?_
    refine px_E_icF (t := 14) rfl rfl (show a1.toInt ≤ (9 : Int) by omega) ?_
    refine px_E_seg 2 (σ' := (15, [(0, .int a1), (1, .int 0), (2, .int 9)], [.int 1], h)) rfl ?_
    exact px_E_ret rfl rfl) ?_
  refine px_E_seg 4 (σ' := (14, [(0, .ref 0), (1, .int a1), (2, .int a2), (3, .int a3), (4, .int a4)], [.int 12, .int 0, .int a2], h)) rfl ?_
  refine px_E_call (j := 15) (as := [.int a2, .int 0, .int 12]) (rest := []) (v := some (.int 1)) (h1 := h) rfl rfl rfl (by
    refine px_E_seg 2 (σ' := (2, [(0, .int a2), (1, .int 0), (2, .int 12)], [.int 0, .int a2], h)) rfl ?_
    refine px_E_icF (t := 14) rfl rfl (show (0 : Int) ≤ a2.toInt by omega) ?_
    refine px_E_seg 2 (σ' := (7, [(0, .int a2), (1, .int 0), (2, .int 12)], [.int 12, .int a2], h)) rfl ?_
    refine px_E_icF (t := 14) rfl rfl (show a2.toInt ≤ (12 : Int) by omega) ?_
    refine px_E_seg 2 (σ' := (15, [(0, .int a2), (1, .int 0), (2, .int 12)], [.int 1], h)) rfl ?_
    exact px_E_ret rfl rfl) ?_
  refine px_E_seg 4 (σ' := (24, [(0, .ref 0), (1, .int a1), (2, .int a2), (3, .int a3), (4, .int a4)], [.int 12, .int 0, .int a3], h)) rfl ?_
  refine px_E_call (j := 15) (as := [.int a3, .int 0, .int 12]) (rest := []) (v := some (.int 0)) (h1 := h) rfl rfl rfl (by
    refine px_E_seg 2 (σ' := (2, [(0, .int a3), (1, .int 0), (2, .int 12)], [.int 0, .int a3], h)) rfl ?_
    refine px_E_icF (t := 14) rfl rfl (show (0 : Int) ≤ a3.toInt by omega) ?_
    refine px_E_seg 2 (σ' := (7, [(0, .int a3), (1, .int 0), (2, .int 12)], [.int 12, .int a3], h)) rfl ?_
    refine px_E_icT (t := 14) rfl rfl (show (12 : Int) < a3.toInt by omega) ?_
    refine px_E_seg 1 (σ' := (15, [(0, .int a3), (1, .int 0), (2, .int 12)], [.int 0], h)) rfl ?_
    exact px_E_ret rfl rfl) ?_
  refine px_E_seg 2 (σ' := (33, [(0, .ref 0), (1, .int a1), (2, .int a2), (3, .int a3), (4, .int a4)], [.long (-1)], h)) rfl ?_
  exact px_E_ret rfl rfl
set_option maxRecDepth 100000 in
set_option maxHeartbeats 4000000 in
set_option maxRecDepth 100000 in
theorem mh_r29_4 {ro : px_RO} {dd : Nat} (a1 a2 a3 a4 : Int32) (ha1 : 0 ≤ a1.toInt ∧ a1.toInt ≤ 9) (ha2 : 0 ≤ a2.toInt ∧ a2.toInt ≤ 12) (ha3 : 13 ≤ a3.toInt ∧ a3.toInt ≤ 2147483647) (ha4 : 0 ≤ a4.toInt ∧ a4.toInt ≤ 1) : mh_X ro (dd + 8) 308 [.ref 95, .int a1, .int a2, .int a3, .int a4] (.long (-1)) := by
  intro h
  show px_E ro (dd + 8) 308 (0, _, [], _) _ _
  refine px_E_seg 3 (σ' := (4, [(0, .ref 95), (1, .int a1), (2, .int a2), (3, .int a3), (4, .int a4)], [.int 9, .int 0, .int a1], h)) rfl ?_
  refine px_E_call (j := 183) (as := [.int a1, .int 0, .int 9]) (rest := []) (v := some (.int 1)) (h1 := h) rfl rfl rfl (by
    refine px_E_seg 2 (σ' := (2, [(0, .int a1), (1, .int 0), (2, .int 9)], [.int 0, .int a1], h)) rfl ?_
    refine px_E_icF (t := 14) rfl rfl (show (0 : Int) ≤ a1.toInt by omega) ?_
    refine px_E_seg 2 (σ' := (7, [(0, .int a1), (1, .int 0), (2, .int 9)], [.int 9, .int a1], h)) rfl ?_
    refine px_E_icF (t := 14) rfl rfl (show a1.toInt ≤ (9 : Int) by omega) ?_
    refine px_E_seg 2 (σ' := (15, [(0, .int a1), (1, .int 0), (2, .int 9)], [.int 1], h)) rfl ?_
    exact px_E_ret rfl rfl) ?_
  refine px_E_seg 4 (σ' := (14, [(0, .ref 95), (1, .int a1), (2, .int a2), (3, .int a3), (4, .int a4)], [.int 12, .int 0, .int a2], h)) rfl ?_
  refine px_E_call (j := 183) (as := [.int a2, .int 0, .int 12]) (rest := []) (v := some (.int 1)) (h1 := h) rfl rfl rfl (by
    refine px_E_seg 2 (σ' := (2, [(0, .int a2), (1, .int 0), (2, .int 12)], [.int 0, .int a2], h)) rfl ?_
    refine px_E_icF (t := 14) rfl rfl (show (0 : Int) ≤ a2.toInt by omega) ?_
    refine px_E_seg 2 (σ' := (7, [(0, .int a2), (1, .int 0), (2, .int 12)], [.int 12, .int a2], h)) rfl ?_
    refine px_E_icF (t := 14) rfl rfl (show a2.toInt ≤ (12 : Int) by omega) ?_
    refine px_E_seg 2 (σ' := (15, [(0, .int a2), (1, .int 0), (2, .int 12)], [.int 1], h)) rfl ?_
    exact px_E_ret rfl rfl) ?_
  refine px_E_seg 4 (σ' := (24, [(0, .ref 95), (1, .int a1), (2, .int a2), (3, .int a3), (4, .int a4)], [.int 12, .int 0, .int a3], h)) rfl ?_
  refine px_E_call (j := 183) (as := [.int a3, .int 0, .int 12]) (rest := []) (v := some (.int 0)) (h1 := h) rfl rfl rfl (by
    refine px_E_seg 2 (σ' := (2, [(0, .int a3), (1, .int 0), (2, .int 12)], [.int 0, .int a3], h)) rfl ?_
    refine px_E_icF (t := 14) rfl rfl (show (0 : Int) ≤ a3.toInt by omega) ?_
    refine px_E_seg 2 (σ' := (7, [(0, .int a3), (1, .int 0), (2, .int 12)], [.int 12, .int a3], h)) rfl ?_
    refine px_E_icT (t := 14) rfl rfl (show (12 : Int) < a3.toInt by omega) ?_
    refine px_E_seg 1 (σ' := (15, [(0, .int a3), (1, .int 0), (2, .int 12)], [.int 0], h)) rfl ?_
    exact px_E_ret rfl rfl) ?_
  refine px_E_seg 2 (σ' := (33, [(0, .ref 95), (1, .int a1), (2, .int a2), (3, .int a3), (4, .int a4)], [.long (-1)], h)) rfl ?_
  exact px_E_ret rfl rfl
set_option maxRecDepth 100000 in
set_option maxHeartbeats 4000000 in
set_option maxRecDepth 100000 in
theorem mh_x29_5 {ro : px_RO} {dd : Nat} (a1 a2 a3 a4 : Int32) (ha1 : 0 ≤ a1.toInt ∧ a1.toInt ≤ 9) (ha2 : 13 ≤ a2.toInt ∧ a2.toInt ≤ 2147483647) (ha3 : (-2147483648) ≤ a3.toInt ∧ a3.toInt ≤ 2147483647) (ha4 : 0 ≤ a4.toInt ∧ a4.toInt ≤ 1) : mh_X ro (dd + 8) 152 [.ref 0, .int a1, .int a2, .int a3, .int a4] (.long (-1)) := by
  intro h
  show px_E ro (dd + 8) 152 (0, _, [], _) _ _
  refine px_E_seg 3 (σ' := (4, [(0, .ref 0), (1, .int a1), (2, .int a2), (3, .int a3), (4, .int a4)], [.int 9, .int 0, .int a1], h)) rfl ?_
  refine px_E_call (j := 15) (as := [.int a1, .int 0, .int 9]) (rest := []) (v := some (.int 1)) (h1 := h) rfl rfl rfl (by
    refine px_E_seg 2 (σ' := (2, [(0, .int a1), (1, .int 0), (2, .int 9)], [.int 0, .int a1], h)) rfl ?_
    refine px_E_icF (t := 14) rfl rfl (show (0 : Int) ≤ a1.toInt by omega) ?_
    refine px_E_seg 2 (σ' := (7, [(0, .int a1), (1, .int 0), (2, .int 9)], [.int 9, .int a1], h)) rfl ?_
    refine px_E_icF (t := 14) rfl rfl (show a1.toInt ≤ (9 : Int) by omega) ?_
    refine px_E_seg 2 (σ' := (15, [(0, .int a1), (1, .int 0), (2, .int 9)], [.int 1], h)) rfl ?_
    exact px_E_ret rfl rfl) ?_
  refine px_E_seg 4 (σ' := (14, [(0, .ref 0), (1, .int a1), (2, .int a2), (3, .int a3), (4, .int a4)], [.int 12, .int 0, .int a2], h)) rfl ?_
  refine px_E_call (j := 15) (as := [.int a2, .int 0, .int 12]) (rest := []) (v := some (.int 0)) (h1 := h) rfl rfl rfl (by
    refine px_E_seg 2 (σ' := (2, [(0, .int a2), (1, .int 0), (2, .int 12)], [.int 0, .int a2], h)) rfl ?_
    refine px_E_icF (t := 14) rfl rfl (show (0 : Int) ≤ a2.toInt by omega) ?_
    refine px_E_seg 2 (σ' := (7, [(0, .int a2), (1, .int 0), (2, .int 12)], [.int 12, .int a2], h)) rfl ?_
    refine px_E_icT (t := 14) rfl rfl (show (12 : Int) < a2.toInt by omega) ?_
    refine px_E_seg 1 (σ' := (15, [(0, .int a2), (1, .int 0), (2, .int 12)], [.int 0], h)) rfl ?_
    exact px_E_ret rfl rfl) ?_
  refine px_E_seg 2 (σ' := (33, [(0, .ref 0), (1, .int a1), (2, .int a2), (3, .int a3), (4, .int a4)], [.long (-1)], h)) rfl ?_
  exact px_E_ret rfl rfl
set_option maxRecDepth 100000 in
set_option maxHeartbeats 4000000 in
set_option maxRecDepth 100000 in
theorem mh_r29_5 {ro : px_RO} {dd : Nat} (a1 a2 a3 a4 : Int32) (ha1 : 0 ≤ a1.toInt ∧ a1.toInt ≤ 9) (ha2 : 13 ≤ a2.toInt ∧ a2.toInt ≤ 2147483647) (ha3 : (-2147483648) ≤ a3.toInt ∧ a3.toInt ≤ 2147483647) (ha4 : 0 ≤ a4.toInt ∧ a4.toInt ≤ 1) : mh_X ro (dd + 8) 308 [.ref 95, .int a1, .int a2, .int a3, .int a4] (.long (-1)) := by
  intro h
  show px_E ro (dd + 8) 308 (0, _, [], _) _ _
  refine px_E_seg 3 (σ' := (4, [(0, .ref 95), (1, .int a1), (2, .int a2), (3, .int a3), (4, .int a4)], [.int 9, .int 0, .int a1], h)) rfl ?_
  refine px_E_call (j := 183) (as := [.int a1, .int 0, .int 9]) (rest := []) (v := some (.int 1)) (h1 := h) rfl rfl rfl (by
    refine px_E_seg 2 (σ' := (2, [(0, .int a1), (1, .int 0), (2, .int 9)], [.int 0, .int a1], h)) rfl ?_
    refine px_E_icF (t := 14) rfl rfl (show (0 : Int) ≤ a1.toInt by omega) ?_
    refine px_E_seg 2 (σ' := (7, [(0, .int a1), (1, .int 0), (2, .int 9)], [.int 9, .int a1], h)) rfl ?_
    refine px_E_icF (t := 14) rfl rfl (show a1.toInt ≤ (9 : Int) by omega) ?_
    refine px_E_seg 2 (σ' := (15, [(0, .int a1), (1, .int 0), (2, .int 9)], [.int 1], h)) rfl ?_
    exact px_E_ret rfl rfl) ?_
  refine px_E_seg 4 (σ' := (14, [(0, .ref 95), (1, .int a1), (2, .int a2), (3, .int a3), (4, .int a4)], [.int 12, .int 0, .int a2], h)) rfl ?_
  refine px_E_call (j := 183) (as := [.int a2, .int 0, .int 12]) (rest := []) (v := some (.int 0)) (h1 := h) rfl rfl rfl (by
    refine px_E_seg 2 (σ' := (2, [(0, .int a2), (1, .int 0), (2, .int 12)], [.int 0, .int a2], h)) rfl ?_
    refine px_E_icF (t := 14) rfl rfl (show (0 : Int) ≤ a2.toInt by omega) ?_
    refine px_E_seg 2 (σ' := (7, [(0, .int a2), (1, .int 0), (2, .int 12)], [.int 12, .int a2], h)) rfl ?_
    refine px_E_icT (t := 14) rfl rfl (show (12 : Int) < a2.toInt by omega) ?_
    refine px_E_seg 1 (σ' := (15, [(0, .int a2), (1, .int 0), (2, .int 12)], [.int 0], h)) rfl ?_
    exact px_E_ret rfl rfl) ?_
  refine px_E_seg 2 (σ' := (33, [(0, .ref 95), (1, .int a1), (2, .int a2), (3, .int a3), (4, .int a4)], [.long (-1)], h)) rfl ?_
  exact px_E_ret rfl rfl
set_option maxRecDepth 100000 in
set_option maxHeartbeats 4000000 in
set_option maxRecDepth 100000 in
theorem mh_x29_6 {ro : px_RO} {dd : Nat} (a1 a2 a3 a4 : Int32) (ha1 : 10 ≤ a1.toInt ∧ a1.toInt ≤ 2147483647) (ha2 : (-2147483648) ≤ a2.toInt ∧ a2.toInt ≤ 2147483647) (ha3 : (-2147483648) ≤ a3.toInt ∧ a3.toInt ≤ 2147483647) (ha4 : 0 ≤ a4.toInt ∧ a4.toInt ≤ 1) : mh_X ro (dd + 8) 152 [.ref 0, .int a1, .int a2, .int a3, .int a4] (.long (-1)) := by
  intro h
  show px_E ro (dd + 8) 152 (0, _, [], _) _ _
  refine px_E_seg 3 (σ' := (4, [(0, .ref 0), (1, .int a1), (2, .int a2), (3, .int a3), (4, .int a4)], [.int 9, .int 0, .int a1], h)) rfl ?_
  refine px_E_call (j := 15) (as := [.int a1, .int 0, .int 9]) (rest := []) (v := some (.int 0)) (h1 := h) rfl rfl rfl (by
    refine px_E_seg 2 (σ' := (2, [(0, .int a1), (1, .int 0), (2, .int 9)], [.int 0, .int a1], h)) rfl ?_
    refine px_E_icF (t := 14) rfl rfl (show (0 : Int) ≤ a1.toInt by omega) ?_
    refine px_E_seg 2 (σ' := (7, [(0, .int a1), (1, .int 0), (2, .int 9)], [.int 9, .int a1], h)) rfl ?_
    refine px_E_icT (t := 14) rfl rfl (show (9 : Int) < a1.toInt by omega) ?_
    refine px_E_seg 1 (σ' := (15, [(0, .int a1), (1, .int 0), (2, .int 9)], [.int 0], h)) rfl ?_
    exact px_E_ret rfl rfl) ?_
  refine px_E_seg 2 (σ' := (33, [(0, .ref 0), (1, .int a1), (2, .int a2), (3, .int a3), (4, .int a4)], [.long (-1)], h)) rfl ?_
  exact px_E_ret rfl rfl
set_option maxRecDepth 100000 in
set_option maxHeartbeats 4000000 in
set_option maxRecDepth 100000 in
theorem mh_r29_6 {ro : px_RO} {dd : Nat} (a1 a2 a3 a4 : Int32) (ha1 : 10 ≤ a1.toInt ∧ a1.toInt ≤ 2147483647) (ha2 : (-2147483648) ≤ a2.toInt ∧ a2.toInt ≤ 2147483647) (ha3 : (-2147483648) ≤ a3.toInt ∧ a3.toInt ≤ 2147483647) (ha4 : 0 ≤ a4.toInt ∧ a4.toInt ≤ 1) : mh_X ro (dd + 8) 308 [.ref 95, .int a1, .int a2, .int a3, .int a4] (.long (-1)) := by
  intro h
  show px_E ro (dd + 8) 308 (0, _, [], _) _ _
  refine px_E_seg 3 (σ' := (4, [(0, .ref 95), (1, .int a1), (2, .int a2), (3, .int a3), (4, .int a4)], [.int 9, .int 0, .int a1], h)) rfl ?_
  refine px_E_call (j := 183) (as := [.int a1, .int 0, .int 9]) (rest := []) (v := some (.int 0)) (h1 := h) rfl rfl rfl (by
    refine px_E_seg 2 (σ' := (2, [(0, .int a1), (1, .int 0), (2, .int 9)], [.int 0, .int a1], h)) rfl ?_
    refine px_E_icF (t := 14) rfl rfl (show (0 : Int) ≤ a1.toInt by omega) ?_
    refine px_E_seg 2 (σ' := (7, [(0, .int a1), (1, .int 0), (2, .int 9)], [.int 9, .int a1], h)) rfl ?_
    refine px_E_icT (t := 14) rfl rfl (show (9 : Int) < a1.toInt by omega) ?_
    refine px_E_seg 1 (σ' := (15, [(0, .int a1), (1, .int 0), (2, .int 9)], [.int 0], h)) rfl ?_
    exact px_E_ret rfl rfl) ?_
  refine px_E_seg 2 (σ' := (33, [(0, .ref 95), (1, .int a1), (2, .int a2), (3, .int a3), (4, .int a4)], [.long (-1)], h)) rfl ?_
  exact px_E_ret rfl rfl
theorem mh_case {ro : px_RO} (a1 a2 a3 a4 : Int32) (fa4 : a4 = 0 ∨ a4 = 1) : ∃ v : Int64, ∀ dd : Nat, mh_X ro (dd + 8) 152 [.ref 0, .int a1, .int a2, .int a3, .int a4] (.long v) ∧ mh_X ro (dd + 8) 308 [.ref 95, .int a1, .int a2, .int a3, .int a4] (.long v) := by
  have qa1 : -2147483648 ≤ a1.toInt ∧ a1.toInt ≤ 2147483647 := ⟨a1.le_toInt, by have := a1.toInt_lt; omega⟩
  have qa2 : -2147483648 ≤ a2.toInt ∧ a2.toInt ≤ 2147483647 := ⟨a2.le_toInt, by have := a2.toInt_lt; omega⟩
  have qa3 : -2147483648 ≤ a3.toInt ∧ a3.toInt ≤ 2147483647 := ⟨a3.le_toInt, by have := a3.toInt_lt; omega⟩
  have qa4 : 0 ≤ a4.toInt ∧ a4.toInt ≤ 1 := by rcases fa4 with rfl | rfl <;> decide
  rcases (show ((-2147483648 ≤ a1.toInt ∧ a1.toInt ≤ -1) ∧ (-2147483648 ≤ a2.toInt ∧ a2.toInt ≤ 2147483647) ∧ (-2147483648 ≤ a3.toInt ∧ a3.toInt ≤ 2147483647) ∧ (0 ≤ a4.toInt ∧ a4.toInt ≤ 1)) ∨ ((0 ≤ a1.toInt ∧ a1.toInt ≤ 9) ∧ (-2147483648 ≤ a2.toInt ∧ a2.toInt ≤ -1) ∧ (-2147483648 ≤ a3.toInt ∧ a3.toInt ≤ 2147483647) ∧ (0 ≤ a4.toInt ∧ a4.toInt ≤ 1)) ∨ ((0 ≤ a1.toInt ∧ a1.toInt ≤ 9) ∧ (0 ≤ a2.toInt ∧ a2.toInt ≤ 12) ∧ (-2147483648 ≤ a3.toInt ∧ a3.toInt ≤ -1) ∧ (0 ≤ a4.toInt ∧ a4.toInt ≤ 1)) ∨ ((0 ≤ a1.toInt ∧ a1.toInt ≤ 9) ∧ (0 ≤ a2.toInt ∧ a2.toInt ≤ 12) ∧ (0 ≤ a3.toInt ∧ a3.toInt ≤ 12) ∧ (0 ≤ a4.toInt ∧ a4.toInt ≤ 1)) ∨ ((0 ≤ a1.toInt ∧ a1.toInt ≤ 9) ∧ (0 ≤ a2.toInt ∧ a2.toInt ≤ 12) ∧ (13 ≤ a3.toInt ∧ a3.toInt ≤ 2147483647) ∧ (0 ≤ a4.toInt ∧ a4.toInt ≤ 1)) ∨ ((0 ≤ a1.toInt ∧ a1.toInt ≤ 9) ∧ (13 ≤ a2.toInt ∧ a2.toInt ≤ 2147483647) ∧ (-2147483648 ≤ a3.toInt ∧ a3.toInt ≤ 2147483647) ∧ (0 ≤ a4.toInt ∧ a4.toInt ≤ 1)) ∨ ((10 ≤ a1.toInt ∧ a1.toInt ≤ 2147483647) ∧ (-2147483648 ≤ a2.toInt ∧ a2.toInt ≤ 2147483647) ∧ (-2147483648 ≤ a3.toInt ∧ a3.toInt ≤ 2147483647) ∧ (0 ≤ a4.toInt ∧ a4.toInt ≤ 1)) by omega) with ⟨pa1, pa2, pa3, pa4⟩ | ⟨pa1, pa2, pa3, pa4⟩ | ⟨pa1, pa2, pa3, pa4⟩ | ⟨pa1, pa2, pa3, pa4⟩ | ⟨pa1, pa2, pa3, pa4⟩ | ⟨pa1, pa2, pa3, pa4⟩ | ⟨pa1, pa2, pa3, pa4⟩
  · exact ⟨_, fun dd => mh_same (mh_x29_0 a1 a2 a3 a4 pa1 pa2 pa3 pa4) (mh_r29_0 a1 a2 a3 a4 pa1 pa2 pa3 pa4)⟩
  · exact ⟨_, fun dd => mh_same (mh_x29_1 a1 a2 a3 a4 pa1 pa2 pa3 pa4) (mh_r29_1 a1 a2 a3 a4 pa1 pa2 pa3 pa4)⟩
  · exact ⟨_, fun dd => mh_same (mh_x29_2 a1 a2 a3 a4 pa1 pa2 pa3 pa4) (mh_r29_2 a1 a2 a3 a4 pa1 pa2 pa3 pa4)⟩
  · obtain ⟨m, hm, rfl⟩ := px_nat (n := 9) pa1 (by decide)
    obtain ⟨C, hC, rfl⟩ := px_nat (n := 12) pa2 (by decide)
    obtain ⟨K, hK, rfl⟩ := px_nat (n := 12) pa3 (by decide)
    have ok := mn_all hm hC hK
    unfold mnOk at ok
    simp only [Bool.and_eq_true, decide_eq_true_eq] at ok
    have e : lt_ (cw K (nI m) C) (cS (nI m) C 13) a4 = (if a4 = 0 then rwF K (nI m) C else rS (nI m) C 13) / gl 100 (rwF K (nI m) C) (rS (nI m) C 13) := by
      rcases fa4 with rfl | rfl
      · rw [if_pos rfl]; exact ok.1.2
      · rw [if_neg (by decide)]; exact ok.2
    refine ⟨lt_ (cw K (nI m) C) (cS (nI m) C 13) a4, fun dd => ?_⟩
    have hR := mh_r29_in (ro := ro) (dd := dd) (f := a4) hm hC hK
    rw [← e] at hR
    exact mh_same (mh_x29_in hm hC hK) hR
  · exact ⟨_, fun dd => mh_same (mh_x29_4 a1 a2 a3 a4 pa1 pa2 pa3 pa4) (mh_r29_4 a1 a2 a3 a4 pa1 pa2 pa3 pa4)⟩
  · exact ⟨_, fun dd => mh_same (mh_x29_5 a1 a2 a3 a4 pa1 pa2 pa3 pa4) (mh_r29_5 a1 a2 a3 a4 pa1 pa2 pa3 pa4)⟩
  · exact ⟨_, fun dd => mh_same (mh_x29_6 a1 a2 a3 a4 pa1 pa2 pa3 pa4) (mh_r29_6 a1 a2 a3 a4 pa1 pa2 pa3 pa4)⟩
/-! many, as the law wants it: both sides answer the same, whatever the heap is -/
def mn_R (L : Nat) (xs : Nat → Int32) (a b c e r : Int) : Prop := ∀ (d : Nat) (s : lf_Z), lf_M (px_ro L xs) (d + 8) 152 [.ref 0, .int (Int32.ofInt a), .int (Int32.ofInt b), .int (Int32.ofInt c), .int (Int32.ofInt e)] s (lf_ql (fun v s1 => v = r ∧ s1 = s)) ∧ lf_M (px_ro L xs) (d + 8) 308 [.ref 95, .int (Int32.ofInt a), .int (Int32.ofInt b), .int (Int32.ofInt c), .int (Int32.ofInt e)] s (lf_ql (fun v s1 => v = r ∧ s1 = s))
theorem mn_ex {L : Nat} {xs : Nat → Int32} (a b c e : Int) (he : e = 0 ∨ e = 1) : ∃ r : Int, mn_R L xs a b c e r := by
  have fe : Int32.ofInt e = 0 ∨ Int32.ofInt e = 1 := by
    rcases he with rfl | rfl
    · exact Or.inl rfl
    · exact Or.inr rfl
  obtain ⟨v, hv⟩ := mh_case (ro := px_ro L xs) (Int32.ofInt a) (Int32.ofInt b) (Int32.ofInt c) (Int32.ofInt e) fe
  refine ⟨v.toInt, fun d s => ⟨?_, ?_⟩⟩
  · exact ⟨some (.long v), s, (hv d).1 (lf_H s), v.toInt, by rw [Int64.ofInt_toInt], rfl, rfl⟩
  · exact ⟨some (.long v), s, (hv d).2 (lf_H s), v.toInt, by rw [Int64.ofInt_toInt], rfl, rfl⟩
theorem mn_c {L : Nat} {xs : Nat → Int32} {a b c e r a' b' c' e' : Int} (h : mn_R L xs a b c e r) (h1 : a' = a) (h2 : b' = b) (h3 : c' = c) (h4 : e' = e) : mn_R L xs a' b' c' e' r := by
  subst h1 h2 h3 h4
  exact h
theorem lf_mn1 {L : Nat} {xs : Nat → Int32} {a b c e r : Int} {d : Nat} {s : lf_Z} (h : mn_R L xs a b c e r) : lf_M (px_ro L xs) (d + 8) 152 [.ref 0, .int (Int32.ofInt a), .int (Int32.ofInt b), .int (Int32.ofInt c), .int (Int32.ofInt e)] s (lf_ql (fun v s1 => v = r ∧ s1 = s)) := (h d s).1
theorem lf_mn2 {L : Nat} {xs : Nat → Int32} {a b c e r : Int} {d : Nat} {s : lf_Z} (h : mn_R L xs a b c e r) : lf_M (px_ro L xs) (d + 8) 308 [.ref 95, .int (Int32.ofInt a), .int (Int32.ofInt b), .int (Int32.ofInt c), .int (Int32.ofInt e)] s (lf_ql (fun v s1 => v = r ∧ s1 = s)) := (h d s).2
/-! stopped and home of the reference touch neither the tape's bytes nor the fault -/
section SQ
variable {l l' : List Nat} {w w' i v : Int} {b b' : Bool} {c : Nat} {I I' I2 : Nat → Int → Int} {P P' P2 : Nat → Option Nat}
def sq_fq (l : List Nat) (w : Int) (b : Bool) (I : Nat → Int → Int) (P : Nat → Option Nat) (I' : Nat → Int → Int) (P' : Nat → Option Nat) : Prop := lf_fq l w b I P I' P' ∧ ∀ i : Int, 4 ≤ i → i ≤ 6 → I' 95 i = I 95 i
theorem sq_fq_rf : sq_fq l w b I P I P := ⟨lf_fq_rf, fun _ _ _ => rfl⟩
theorem sq_fq_tr (h1 : sq_fq l w b I P I' P') (h2 : sq_fq l w b I' P' I2 P2) : sq_fq l w b I P I2 P2 := ⟨lf_fq_tr h1.1 h2.1, fun i a b => (h2.2 i a b).trans (h1.2 i a b)⟩
theorem sq_fq_wk (h : lf_fq l' w' b' I P I' P') (hl : l'.all (fun c => l.contains c) = true) (hw : w ≤ w') (hb : (b && !b') = false) (h9 : l'.contains 95 = false) : sq_fq l w b I P I' P' := ⟨lf_fq_wk h hl hw hb, fun i _ _ => congrFun (h.1 95 h9) i⟩
theorem sq_fq_up (h : sq_fq l w b I P I' P') (hc : l.contains c = true) (h96 : c = 96 → w ≤ i ∧ ∀ r, l.contains (1000 + r) = false → ¬ fr_g r i) (h9 : c = 95 → ¬ (4 ≤ i ∧ i ≤ 6)) : sq_fq l w b I P (lf_up I' c i v) P' := by
  refine ⟨lf_fq_up h.1 hc h96, fun j a b => ?_⟩
  by_cases e : c = 95
  · have := h9 e
    subst e
    exact (lf_up_i (show j ≠ i by omega)).trans (h.2 j a b)
  · exact (lf_up_c (fun q => e q.symm)).trans (h.2 j a b)
theorem sq_295_p120 {Q : Int → lf_Z → Prop} {x3 : Int} {s : lf_Z} (hQ : ∀ (r : Int) (s' : lf_Z), iv_A s'.1 s'.2.2 → sq_fq [95, 104, 107, 111, 112] 1000000 true s.1 s.2.2 s'.1 s'.2.2 → ((-1) ≤ r ∧ r ≤ 4095) → Q r s') (hI : iv_A s.1 s.2.2) (bx3 : (-1) ≤ x3 ∧ x3 ≤ 4095) : fm_295_p120 Q x3 s := by
  unfold fm_295_p120
  have hI8 : iv_A (lf_up s.1 95 29 0) s.2.2 := iv_w95_29 hI (by omega)
  have fr9 : sq_fq [95, 104, 107, 111, 112] 1000000 true s.1 s.2.2 (lf_up s.1 95 29 0) s.2.2 := sq_fq_up (sq_fq_rf) rfl (fun h => absurd h (by decide)) (fun _ => by decide)
  exact hQ x3 (lf_up s.1 95 29 0, s.2.1, s.2.2) hI8 fr9 (show (-1 : Int) ≤ x3 ∧ x3 ≤ (4095 : Int) from by omega)
theorem sq_295_p114 {X30 : Int → Int → lf_Z → Prop} {Q : Int → lf_Z → Prop} {x1 : Int} {x3 : Int} {x4 : Int} {s : lf_Z} (hQ : ∀ (r : Int) (s' : lf_Z), iv_A s'.1 s'.2.2 → sq_fq [95, 104, 107, 111, 112] 1000000 true s.1 s.2.2 s'.1 s'.2.2 → ((-1) ≤ r ∧ r ≤ 4095) → Q r s') {M30 : Nat} (hX30 : ∀ (x3 : Int) (x4 : Int) (s' : lf_Z), iv_A s'.1 s'.2.2 → sq_fq [95, 104, 107, 111, 112] 1000000 true s.1 s.2.2 s'.1 s'.2.2 → (-1) ≤ x3 ∧ x3 ≤ 4095 → 0 ≤ x4 ∧ x4 ≤ 4 → (4 - x4).toNat < M30 → X30 x3 x4 s') (hM30 : (4 - x4).toNat ≤ M30) (hI : iv_A s.1 s.2.2) (bx1 : 0 ≤ x1 ∧ x1 ≤ 3) (bx3 : (-1) ≤ x3 ∧ x3 ≤ 4095) (bx4 : 0 ≤ x4 ∧ x4 ≤ 3) : fm_295_p114 X30 Q x1 x3 x4 s := by
  unfold fm_295_p114
  exact hX30 (x3) (x4 + 1) s hI (sq_fq_rf) (show (-1 : Int) ≤ x3 ∧ x3 ≤ (4095 : Int) from by omega) (show (0 : Int) ≤ x4 + 1 ∧ x4 + 1 ≤ (4 : Int) from by omega) (show (4 - (x4 + 1)).toNat < M30 from by omega)
theorem sq_295_p108 {X30 : Int → Int → lf_Z → Prop} {X43 : Int → Int → lf_Z → Prop} {Q : Int → lf_Z → Prop} {x1 : Int} {x3 : Int} {x4 : Int} {x5 : Int} {s : lf_Z} (hQ : ∀ (r : Int) (s' : lf_Z), iv_A s'.1 s'.2.2 → sq_fq [95, 104, 107, 111, 112] 1000000 true s.1 s.2.2 s'.1 s'.2.2 → ((-1) ≤ r ∧ r ≤ 4095) → Q r s') {M30 : Nat} (hX30 : ∀ (x3 : Int) (x4 : Int) (s' : lf_Z), iv_A s'.1 s'.2.2 → sq_fq [95, 104, 107, 111, 112] 1000000 true s.1 s.2.2 s'.1 s'.2.2 → (-1) ≤ x3 ∧ x3 ≤ 4095 → 0 ≤ x4 ∧ x4 ≤ 4 → (4 - x4).toNat < M30 → X30 x3 x4 s') (hM30 : (4 - x4).toNat ≤ M30) {M43 : Nat} (hX43 : ∀ (x3 : Int) (x5 : Int) (s' : lf_Z), iv_A s'.1 s'.2.2 → sq_fq [95, 104, 107, 111, 112] 1000000 true s.1 s.2.2 s'.1 s'.2.2 → (-1) ≤ x3 ∧ x3 ≤ 4095 → 0 ≤ x5 ∧ x5 ≤ 2147483647 → (2147483647 - x5).toNat < M43 → X43 x3 x5 s') (hM43 : (2147483647 - x5).toNat ≤ M43) (hI : iv_A s.1 s.2.2) (bx1 : 0 ≤ x1 ∧ x1 ≤ 3) (bx3 : (-1) ≤ x3 ∧ x3 ≤ 4095) (bx4 : 0 ≤ x4 ∧ x4 ≤ 3) (bx5 : 0 ≤ x5 ∧ x5 ≤ 2147483646) : fm_295_p108 X30 X43 Q x1 x3 x4 x5 s := by
  unfold fm_295_p108
  exact hX43 (x3) (x5 + 1) s hI (sq_fq_rf) (show (-1 : Int) ≤ x3 ∧ x3 ≤ (4095 : Int) from by omega) (show (0 : Int) ≤ x5 + 1 ∧ x5 + 1 ≤ (2147483647 : Int) from by omega) (show (2147483647 - (x5 + 1)).toNat < M43 from by omega)
theorem sq_295_p43 {X30 : Int → Int → lf_Z → Prop} {X43 : Int → Int → lf_Z → Prop} {Q : Int → lf_Z → Prop} {x1 : Int} {x3 : Int} {x4 : Int} {x5 : Int} {s : lf_Z} (hQ : ∀ (r : Int) (s' : lf_Z), iv_A s'.1 s'.2.2 → sq_fq [95, 104, 107, 111, 112] 1000000 true s.1 s.2.2 s'.1 s'.2.2 → ((-1) ≤ r ∧ r ≤ 4095) → Q r s') {M30 : Nat} (hX30 : ∀ (x3 : Int) (x4 : Int) (s' : lf_Z), iv_A s'.1 s'.2.2 → sq_fq [95, 104, 107, 111, 112] 1000000 true s.1 s.2.2 s'.1 s'.2.2 → (-1) ≤ x3 ∧ x3 ≤ 4095 → 0 ≤ x4 ∧ x4 ≤ 4 → (4 - x4).toNat < M30 → X30 x3 x4 s') (hM30 : (4 - x4).toNat ≤ M30) {M43 : Nat} (hX43 : ∀ (x3 : Int) (x5 : Int) (s' : lf_Z), iv_A s'.1 s'.2.2 → sq_fq [95, 104, 107, 111, 112] 1000000 true s.1 s.2.2 s'.1 s'.2.2 → (-1) ≤ x3 ∧ x3 ≤ 4095 → 0 ≤ x5 ∧ x5 ≤ 2147483647 → (2147483647 - x5).toNat < M43 → X43 x3 x5 s') (hM43 : (2147483647 - x5).toNat ≤ M43) (hI : iv_A s.1 s.2.2) (bx1 : 0 ≤ x1 ∧ x1 ≤ 3) (bx3 : (-1) ≤ x3 ∧ x3 ≤ 4095) (bx4 : 0 ≤ x4 ∧ x4 ≤ 3) (bx5 : 0 ≤ x5 ∧ x5 ≤ 2147483647) : fm_295_p43 X30 Q x1 x4 X43 x3 x5 s := by
  unfold fm_295_p43
  have b11 : 0 ≤ s.1 96 0 ∧ s.1 96 0 ≤ 12 := iv_rd96 hI (iv_f3e1fa21c (by omega))
  have b12 : 1 ≤ lf_shl 1 (s.1 96 0) ∧ lf_shl 1 (s.1 96 0) ≤ 4096 := lf_shl1 (m := 12) (by omega) (by omega) (by decide)
  refine ⟨(show lf_R x5 from lf_Rof (by omega)), ?_⟩
  refine ⟨fun c13 => ?_, fun c13 => ?_⟩
  · skip
    replace c13 : lf_shl 1 (s.1 96 0) ≤ x5 := c13
    exact sq_295_p114 hQ hX30 (show (4 - x4).toNat ≤ M30 from by omega) hI (show (0 : Int) ≤ x1 ∧ x1 ≤ (3 : Int) from by omega) (show (-1 : Int) ≤ x3 ∧ x3 ≤ (4095 : Int) from by omega) (show (0 : Int) ≤ x4 ∧ x4 ≤ (3 : Int) from by omega)
  · skip
    replace c13 : ¬ (lf_shl 1 (s.1 96 0) ≤ x5) := c13
    refine ⟨(show lf_R x3 from lf_Rof (by omega)), ?_⟩
    refine ⟨fun c14 => ?_, fun c14 => ?_⟩
    · skip
      replace c14 : 0 ≤ x3 := c14
      exact sq_295_p114 hQ hX30 (show (4 - x4).toNat ≤ M30 from by omega) hI (show (0 : Int) ≤ x1 ∧ x1 ≤ (3 : Int) from by omega) (show (-1 : Int) ≤ x3 ∧ x3 ≤ (4095 : Int) from by omega) (show (0 : Int) ≤ x4 ∧ x4 ≤ (3 : Int) from by omega)
    · skip
      replace c14 : ¬ (0 ≤ x3) := c14
      refine sm_188 hI (show (-2147483648 : Int) ≤ x5 ∧ x5 ≤ (2147483647 : Int) from by omega) (fun r30 ps16 q15 => ?_)
      replace ps16 : r30 = lf_bt (x5) 16 := ps16
      refine ⟨(show lf_R r30 from lf_Rof (by omega)), ?_⟩
      refine ⟨(show lf_R x4 from lf_Rof (by omega)), ?_⟩
      refine ⟨fun c17 => ?_, fun c17 => ?_⟩
      · skip
        replace c17 : r30 ≠ x4 := c17
        exact sq_295_p108 hQ hX30 (show (4 - x4).toNat ≤ M30 from by omega) hX43 (show (2147483647 - x5).toNat ≤ M43 from by omega) hI (show (0 : Int) ≤ x1 ∧ x1 ≤ (3 : Int) from by omega) (show (-1 : Int) ≤ x3 ∧ x3 ≤ (4095 : Int) from by omega) (show (0 : Int) ≤ x4 ∧ x4 ≤ (3 : Int) from by omega) (show (0 : Int) ≤ x5 ∧ x5 ≤ (2147483646 : Int) from by omega)
      · skip
        replace c17 : ¬ (r30 ≠ x4) := c17
        refine sm_255 hI (show (0 : Int) ≤ x1 ∧ x1 ≤ (3 : Int) from by omega) (fun r34 q18 => ?_)
        refine sm_210 hI (show (-2147483648 : Int) ≤ x5 ∧ x5 ≤ (2147483647 : Int) from by omega) (show (-1 : Int) ≤ r34 ∧ r34 ≤ (15 : Int) from by omega) (fun z36 q19 => ?_)
        refine ⟨fun c20 => ?_, fun c20 => ?_⟩
        · skip
          have dc20 := q19.2 c20
          have hI21 : iv_A (lf_up s.1 95 29 x5) s.2.2 := iv_w95_29 hI (by omega)
          have fr22 : sq_fq [95, 104, 107, 111, 112] 1000000 true s.1 s.2.2 (lf_up s.1 95 29 x5) s.2.2 := sq_fq_up (sq_fq_rf) rfl (fun h => absurd h (by decide)) (fun _ => by decide)
          refine sm_294 hI21 (show (0 : Int) ≤ x1 ∧ x1 ≤ (3 : Int) from by omega) (fun r38 s37 hI24 fr23 q25 => ?_)
          have fr26 : sq_fq [95, 104, 107, 111, 112] 1000000 true s.1 s.2.2 s37.1 s37.2.2 := sq_fq_tr fr22 (sq_fq_wk fr23 rfl (by decide) (by decide) rfl)
          refine sm_296 hI24 (show (-2147483648 : Int) ≤ r38 ∧ r38 ≤ (2147483647 : Int) from by omega) (show (0 : Int) ≤ 2 ∧ 2 ≤ (3 : Int) from by omega) (fun r40 q27 => ?_)
          refine ⟨(show lf_R r40 from lf_Rof (by omega)), ?_⟩
          refine ⟨fun c28 => ?_, fun c28 => ?_⟩
          · skip
            replace c28 : r40 ≠ 0 := c28
            exact sq_295_p108 (fun r9 t9 i9 f9 => hQ r9 t9 i9 (sq_fq_tr fr26 f9)) (fun p0 p1 t9 i9 f9 => hX30 p0 p1 t9 i9 (sq_fq_tr fr26 f9)) (show (4 - x4).toNat ≤ M30 from by omega) (fun p0 p1 t9 i9 f9 => hX43 p0 p1 t9 i9 (sq_fq_tr fr26 f9)) (show (2147483647 - x5).toNat ≤ M43 from by omega) hI24 (show (0 : Int) ≤ x1 ∧ x1 ≤ (3 : Int) from by omega) (show (-1 : Int) ≤ x3 ∧ x3 ≤ (4095 : Int) from by omega) (show (0 : Int) ≤ x4 ∧ x4 ≤ (3 : Int) from by omega) (show (0 : Int) ≤ x5 ∧ x5 ≤ (2147483646 : Int) from by omega)
          · skip
            replace c28 : ¬ (r40 ≠ 0) := c28
            exact sq_295_p108 (fun r9 t9 i9 f9 => hQ r9 t9 i9 (sq_fq_tr fr26 f9)) (fun p0 p1 t9 i9 f9 => hX30 p0 p1 t9 i9 (sq_fq_tr fr26 f9)) (show (4 - x4).toNat ≤ M30 from by omega) (fun p0 p1 t9 i9 f9 => hX43 p0 p1 t9 i9 (sq_fq_tr fr26 f9)) (show (2147483647 - x5).toNat ≤ M43 from by omega) hI24 (show (0 : Int) ≤ x1 ∧ x1 ≤ (3 : Int) from by omega) (show (-1 : Int) ≤ x5 ∧ x5 ≤ (4095 : Int) from by omega) (show (0 : Int) ≤ x4 ∧ x4 ≤ (3 : Int) from by omega) (show (0 : Int) ≤ x5 ∧ x5 ≤ (2147483646 : Int) from by omega)
        · skip
          have dc20 := q19.1 c20
          exact sq_295_p108 hQ hX30 (show (4 - x4).toNat ≤ M30 from by omega) hX43 (show (2147483647 - x5).toNat ≤ M43 from by omega) hI (show (0 : Int) ≤ x1 ∧ x1 ≤ (3 : Int) from by omega) (show (-1 : Int) ≤ x3 ∧ x3 ≤ (4095 : Int) from by omega) (show (0 : Int) ≤ x4 ∧ x4 ≤ (3 : Int) from by omega) (show (0 : Int) ≤ x5 ∧ x5 ≤ (2147483646 : Int) from by omega)
theorem sq_295_p43L {X30 : Int → Int → lf_Z → Prop} {Q : Int → lf_Z → Prop} {x1 : Int} {x3 : Int} {x4 : Int} {x5 : Int} {s : lf_Z} (hQ : ∀ (r : Int) (s' : lf_Z), iv_A s'.1 s'.2.2 → sq_fq [95, 104, 107, 111, 112] 1000000 true s.1 s.2.2 s'.1 s'.2.2 → ((-1) ≤ r ∧ r ≤ 4095) → Q r s') {M30 : Nat} (hX30 : ∀ (x3 : Int) (x4 : Int) (s' : lf_Z), iv_A s'.1 s'.2.2 → sq_fq [95, 104, 107, 111, 112] 1000000 true s.1 s.2.2 s'.1 s'.2.2 → (-1) ≤ x3 ∧ x3 ≤ 4095 → 0 ≤ x4 ∧ x4 ≤ 4 → (4 - x4).toNat < M30 → X30 x3 x4 s') (hM30 : (4 - x4).toNat ≤ M30) (hI : iv_A s.1 s.2.2) (bx1 : 0 ≤ x1 ∧ x1 ≤ 3) (bx3 : (-1) ≤ x3 ∧ x3 ≤ 4095) (bx4 : 0 ≤ x4 ∧ x4 ≤ 3) (bx5 : 0 ≤ x5 ∧ x5 ≤ 2147483647) : fm_295_p43L X30 Q x1 x3 x4 x5 s := by
  intro X43 hX
  have key : ∀ (m9 : Nat) (x3 : Int) (x5 : Int) (s' : lf_Z), iv_A s'.1 s'.2.2 → sq_fq [95, 104, 107, 111, 112] 1000000 true s.1 s.2.2 s'.1 s'.2.2 → (-1) ≤ x3 ∧ x3 ≤ 4095 → 0 ≤ x5 ∧ x5 ≤ 2147483647 → (2147483647 - x5).toNat < m9 → X43 x3 x5 s' := by
    intro m9
    induction m9 with
    | zero => intro x3 x5 s' _ _ bx3 bx5 h9; exact absurd h9 (Nat.not_lt_zero _)
    | succ m9 ih => intro x3 x5 s' i7 f7 bx3 bx5 h9; exact hX _ _ _ (sq_295_p43 (fun r9 t9 i9 f9 => hQ r9 t9 i9 (sq_fq_tr f7 f9))  (fun p0 p1 t9 i9 f9 => hX30 p0 p1 t9 i9 (sq_fq_tr f7 f9)) hM30 (fun x3' x5' t8 i8 f8 bx3' bx5' h8 => ih x3' x5' t8 i8 (sq_fq_tr f7 f8) bx3' bx5' (by omega)) (Nat.le_refl _)  i7  bx1 bx3 bx4 bx5  )
  exact key _ _ _ s hI sq_fq_rf bx3 bx5 (Nat.lt_succ_self _)
theorem sq_295_p30 {X30 : Int → Int → lf_Z → Prop} {Q : Int → lf_Z → Prop} {x1 : Int} {x3 : Int} {x4 : Int} {s : lf_Z} (hQ : ∀ (r : Int) (s' : lf_Z), iv_A s'.1 s'.2.2 → sq_fq [95, 104, 107, 111, 112] 1000000 true s.1 s.2.2 s'.1 s'.2.2 → ((-1) ≤ r ∧ r ≤ 4095) → Q r s') {M30 : Nat} (hX30 : ∀ (x3 : Int) (x4 : Int) (s' : lf_Z), iv_A s'.1 s'.2.2 → sq_fq [95, 104, 107, 111, 112] 1000000 true s.1 s.2.2 s'.1 s'.2.2 → (-1) ≤ x3 ∧ x3 ≤ 4095 → 0 ≤ x4 ∧ x4 ≤ 4 → (4 - x4).toNat < M30 → X30 x3 x4 s') (hM30 : (4 - x4).toNat ≤ M30) (hI : iv_A s.1 s.2.2) (bx1 : 0 ≤ x1 ∧ x1 ≤ 3) (bx3 : (-1) ≤ x3 ∧ x3 ≤ 4095) (bx4 : 0 ≤ x4 ∧ x4 ≤ 4) : fm_295_p30 Q x1 X30 x3 x4 s := by
  unfold fm_295_p30
  refine ⟨(show lf_R x4 from lf_Rof (by omega)), ?_⟩
  refine ⟨fun c7 => ?_, fun c7 => ?_⟩
  · skip
    replace c7 : 3 < x4 := c7
    exact sq_295_p120 hQ hI (show (-1 : Int) ≤ x3 ∧ x3 ≤ (4095 : Int) from by omega)
  · skip
    replace c7 : ¬ (3 < x4) := c7
    refine ⟨(show lf_R x3 from lf_Rof (by omega)), ?_⟩
    refine ⟨fun c10 => ?_, fun c10 => ?_⟩
    · skip
      replace c10 : 0 ≤ x3 := c10
      exact sq_295_p120 hQ hI (show (-1 : Int) ≤ x3 ∧ x3 ≤ (4095 : Int) from by omega)
    · skip
      replace c10 : ¬ (0 ≤ x3) := c10
      exact sq_295_p43L hQ hX30 (show (4 - x4).toNat ≤ M30 from by omega) hI (show (0 : Int) ≤ x1 ∧ x1 ≤ (3 : Int) from by omega) (show (-1 : Int) ≤ x3 ∧ x3 ≤ (4095 : Int) from by omega) (show (0 : Int) ≤ x4 ∧ x4 ≤ (3 : Int) from by omega) (show (0 : Int) ≤ 0 ∧ 0 ≤ (2147483647 : Int) from by omega)
theorem sq_295_p30L {Q : Int → lf_Z → Prop} {x1 : Int} {x3 : Int} {x4 : Int} {s : lf_Z} (hQ : ∀ (r : Int) (s' : lf_Z), iv_A s'.1 s'.2.2 → sq_fq [95, 104, 107, 111, 112] 1000000 true s.1 s.2.2 s'.1 s'.2.2 → ((-1) ≤ r ∧ r ≤ 4095) → Q r s') (hI : iv_A s.1 s.2.2) (bx1 : 0 ≤ x1 ∧ x1 ≤ 3) (bx3 : (-1) ≤ x3 ∧ x3 ≤ 4095) (bx4 : 0 ≤ x4 ∧ x4 ≤ 4) : fm_295_p30L Q x1 x3 x4 s := by
  intro X30 hX
  have key : ∀ (m9 : Nat) (x3 : Int) (x4 : Int) (s' : lf_Z), iv_A s'.1 s'.2.2 → sq_fq [95, 104, 107, 111, 112] 1000000 true s.1 s.2.2 s'.1 s'.2.2 → (-1) ≤ x3 ∧ x3 ≤ 4095 → 0 ≤ x4 ∧ x4 ≤ 4 → (4 - x4).toNat < m9 → X30 x3 x4 s' := by
    intro m9
    induction m9 with
    | zero => intro x3 x4 s' _ _ bx3 bx4 h9; exact absurd h9 (Nat.not_lt_zero _)
    | succ m9 ih => intro x3 x4 s' i7 f7 bx3 bx4 h9; exact hX _ _ _ (sq_295_p30 (fun r9 t9 i9 f9 => hQ r9 t9 i9 (sq_fq_tr f7 f9))   (fun x3' x4' t8 i8 f8 bx3' bx4' h8 => ih x3' x4' t8 i8 (sq_fq_tr f7 f8) bx3' bx4' (by omega)) (Nat.le_refl _)  i7  bx1 bx3 bx4  )
  exact key _ _ _ s hI sq_fq_rf bx3 bx4 (Nat.lt_succ_self _)
theorem sq_295 {a1 : Int} {a2 : Int} {Q : Int → lf_Z → Prop} {s : lf_Z} (hI : iv_A s.1 s.2.2) (ba1 : (-2147483648) ≤ a1 ∧ a1 ≤ 2147483647) (ba2 : (-2147483648) ≤ a2 ∧ a2 ≤ 2147483647) (hQ : ∀ (r : Int) (s' : lf_Z), iv_A s'.1 s'.2.2 → sq_fq [95, 104, 107, 111, 112] 1000000 true s.1 s.2.2 s'.1 s'.2.2 → ((-1) ≤ r ∧ r ≤ 4095) → Q r s') : fm_295 a1 a2 Q s := by
  unfold fm_295
  refine sm_254 hI (show (-2147483648 : Int) ≤ a1 ∧ a1 ≤ (2147483647 : Int) from by omega) (fun z22 q1 => ?_)
  refine ⟨fun c2 => ?_, fun c2 => ?_⟩
  · skip
    have dc2 := q1.2 c2
    exact hQ (-1) s hI (sq_fq_rf) (show (-1 : Int) ≤ (-1) ∧ (-1) ≤ (4095 : Int) from by omega)
  · skip
    have dc2 := q1.1 c2
    refine sm_183 hI (show (-2147483648 : Int) ≤ a2 ∧ a2 ≤ (2147483647 : Int) from by omega) (show (-1 : Int) ≤ 0 ∧ 0 ≤ (97 : Int) from by omega) (show (-1 : Int) ≤ 9 ∧ 9 ≤ (9999 : Int) from by omega) (fun z24 q3 => ?_)
    refine ⟨fun c4 => ?_, fun c4 => ?_⟩
    · skip
      have dc4 := q3.1 c4
      have hI5 : iv_A (lf_up s.1 95 30 a2) s.2.2 := iv_w95_30 hI (by omega)
      have fr6 : sq_fq [95, 104, 107, 111, 112] 1000000 true s.1 s.2.2 (lf_up s.1 95 30 a2) s.2.2 := sq_fq_up (sq_fq_rf) rfl (fun h => absurd h (by decide)) (fun _ => by decide)
      exact sq_295_p30L (fun r9 t9 i9 f9 => hQ r9 t9 i9 (sq_fq_tr fr6 f9)) hI5 (show (0 : Int) ≤ a1 ∧ a1 ≤ (3 : Int) from by omega) (show (-1 : Int) ≤ (-1) ∧ (-1) ≤ (4095 : Int) from by omega) (show (0 : Int) ≤ 0 ∧ 0 ≤ (4 : Int) from by omega)
    · skip
      have dc4 := q3.2 c4
      exact hQ (-1) s hI (sq_fq_rf) (show (-1 : Int) ≤ (-1) ∧ (-1) ≤ (4095 : Int) from by omega)
-- fm_135 Land.minutesBetween 1 i i i
theorem sq_297_p176 {Q : Int → lf_Z → Prop} {x2 : Int} {s : lf_Z} (hQ : ∀ (r : Int) (s' : lf_Z), iv_A s'.1 s'.2.2 → sq_fq [95, 104, 107, 111, 112] 1000000 true s.1 s.2.2 s'.1 s'.2.2 → ((-1) ≤ r ∧ r ≤ 65535) → Q r s') (hI : iv_A s.1 s.2.2) (bx2 : (-1) ≤ x2 ∧ x2 ≤ 65535) : fm_297_p176 Q x2 s := by
  unfold fm_297_p176
  have hI7 : iv_A (lf_up s.1 95 31 0) s.2.2 := iv_w95_31 hI (by omega)
  have fr8 : sq_fq [95, 104, 107, 111, 112] 1000000 true s.1 s.2.2 (lf_up s.1 95 31 0) s.2.2 := sq_fq_up (sq_fq_rf) rfl (fun h => absurd h (by decide)) (fun _ => by decide)
  exact hQ x2 (lf_up s.1 95 31 0, s.2.1, s.2.2) hI7 fr8 (show (-1 : Int) ≤ x2 ∧ x2 ≤ (65535 : Int) from by omega)
theorem sq_297_p170 {X66 : Int → Int → lf_Z → Prop} {Q : Int → lf_Z → Prop} {x1 : Int} {x2 : Int} {x3 : Int} {x4 : Int} {s : lf_Z} (hQ : ∀ (r : Int) (s' : lf_Z), iv_A s'.1 s'.2.2 → sq_fq [95, 104, 107, 111, 112] 1000000 true s.1 s.2.2 s'.1 s'.2.2 → ((-1) ≤ r ∧ r ≤ 65535) → Q r s') {M66 : Nat} (hX66 : ∀ (x2 : Int) (x4 : Int) (s' : lf_Z), iv_A s'.1 s'.2.2 → sq_fq [95, 104, 107, 111, 112] 1000000 true s.1 s.2.2 s'.1 s'.2.2 → (-1) ≤ x2 ∧ x2 ≤ 65535 → 0 ≤ x4 ∧ x4 ≤ 4 → (4 - x4).toNat < M66 → X66 x2 x4 s') (hM66 : (4 - x4).toNat ≤ M66) (hI : iv_A s.1 s.2.2) (bx1 : 0 ≤ x1 ∧ x1 ≤ 3) (bx2 : (-1) ≤ x2 ∧ x2 ≤ 65535) (bx3 : (-2147483648) ≤ x3 ∧ x3 ≤ 2147483647) (bx4 : 0 ≤ x4 ∧ x4 ≤ 3) : fm_297_p170 X66 Q x1 x2 x3 x4 s := by
  unfold fm_297_p170
  exact hX66 (x2) (x4 + 1) s hI (sq_fq_rf) (show (-1 : Int) ≤ x2 ∧ x2 ≤ (65535 : Int) from by omega) (show (0 : Int) ≤ x4 + 1 ∧ x4 + 1 ≤ (4 : Int) from by omega) (show (4 - (x4 + 1)).toNat < M66 from by omega)
theorem sq_297_p164 {X66 : Int → Int → lf_Z → Prop} {X79 : Int → Int → lf_Z → Prop} {Q : Int → lf_Z → Prop} {x1 : Int} {x2 : Int} {x3 : Int} {x4 : Int} {x5 : Int} {s : lf_Z} (hQ : ∀ (r : Int) (s' : lf_Z), iv_A s'.1 s'.2.2 → sq_fq [95, 104, 107, 111, 112] 1000000 true s.1 s.2.2 s'.1 s'.2.2 → ((-1) ≤ r ∧ r ≤ 65535) → Q r s') {M66 : Nat} (hX66 : ∀ (x2 : Int) (x4 : Int) (s' : lf_Z), iv_A s'.1 s'.2.2 → sq_fq [95, 104, 107, 111, 112] 1000000 true s.1 s.2.2 s'.1 s'.2.2 → (-1) ≤ x2 ∧ x2 ≤ 65535 → 0 ≤ x4 ∧ x4 ≤ 4 → (4 - x4).toNat < M66 → X66 x2 x4 s') (hM66 : (4 - x4).toNat ≤ M66) {M79 : Nat} (hX79 : ∀ (x2 : Int) (x5 : Int) (s' : lf_Z), iv_A s'.1 s'.2.2 → sq_fq [95, 104, 107, 111, 112] 1000000 true s.1 s.2.2 s'.1 s'.2.2 → (-1) ≤ x2 ∧ x2 ≤ 65535 → 0 ≤ x5 ∧ x5 ≤ 2147483647 → (2147483647 - x5).toNat < M79 → X79 x2 x5 s') (hM79 : (2147483647 - x5).toNat ≤ M79) (hI : iv_A s.1 s.2.2) (bx1 : 0 ≤ x1 ∧ x1 ≤ 3) (bx2 : (-1) ≤ x2 ∧ x2 ≤ 65535) (bx3 : (-2147483648) ≤ x3 ∧ x3 ≤ 2147483647) (bx4 : 0 ≤ x4 ∧ x4 ≤ 3) (bx5 : 0 ≤ x5 ∧ x5 ≤ 2147483646) : fm_297_p164 X66 X79 Q x1 x2 x3 x4 x5 s := by
  unfold fm_297_p164
  exact hX79 (x2) (x5 + 1) s hI (sq_fq_rf) (show (-1 : Int) ≤ x2 ∧ x2 ≤ (65535 : Int) from by omega) (show (0 : Int) ≤ x5 + 1 ∧ x5 + 1 ≤ (2147483647 : Int) from by omega) (show (2147483647 - (x5 + 1)).toNat < M79 from by omega)
theorem sq_297_p79 {X66 : Int → Int → lf_Z → Prop} {X79 : Int → Int → lf_Z → Prop} {Q : Int → lf_Z → Prop} {x1 : Int} {x2 : Int} {x3 : Int} {x4 : Int} {x5 : Int} {s : lf_Z} (hQ : ∀ (r : Int) (s' : lf_Z), iv_A s'.1 s'.2.2 → sq_fq [95, 104, 107, 111, 112] 1000000 true s.1 s.2.2 s'.1 s'.2.2 → ((-1) ≤ r ∧ r ≤ 65535) → Q r s') {M66 : Nat} (hX66 : ∀ (x2 : Int) (x4 : Int) (s' : lf_Z), iv_A s'.1 s'.2.2 → sq_fq [95, 104, 107, 111, 112] 1000000 true s.1 s.2.2 s'.1 s'.2.2 → (-1) ≤ x2 ∧ x2 ≤ 65535 → 0 ≤ x4 ∧ x4 ≤ 4 → (4 - x4).toNat < M66 → X66 x2 x4 s') (hM66 : (4 - x4).toNat ≤ M66) {M79 : Nat} (hX79 : ∀ (x2 : Int) (x5 : Int) (s' : lf_Z), iv_A s'.1 s'.2.2 → sq_fq [95, 104, 107, 111, 112] 1000000 true s.1 s.2.2 s'.1 s'.2.2 → (-1) ≤ x2 ∧ x2 ≤ 65535 → 0 ≤ x5 ∧ x5 ≤ 2147483647 → (2147483647 - x5).toNat < M79 → X79 x2 x5 s') (hM79 : (2147483647 - x5).toNat ≤ M79) (hI : iv_A s.1 s.2.2) (bx1 : 0 ≤ x1 ∧ x1 ≤ 3) (bx2 : (-1) ≤ x2 ∧ x2 ≤ 65535) (bx3 : (-2147483648) ≤ x3 ∧ x3 ≤ 2147483647) (bx4 : 0 ≤ x4 ∧ x4 ≤ 3) (bx5 : 0 ≤ x5 ∧ x5 ≤ 2147483647) : fm_297_p79 X66 Q x1 x3 x4 X79 x2 x5 s := by
  unfold fm_297_p79
  have b10 : 0 ≤ s.1 96 1 ∧ s.1 96 1 ≤ 16 := iv_rd96 hI (iv_fd6ad3e54 (by omega))
  have b11 : s.1 96 1 ≤ 0 ∨ 0 < s.1 96 0 := (show s.1 96 1 ≤ 0 ∨ 0 < s.1 96 0 from iv_l96_1 hI)
  have b12 : 1 ≤ lf_shl 1 (s.1 96 1) ∧ lf_shl 1 (s.1 96 1) ≤ 65536 := lf_shl1 (m := 16) (by omega) (by omega) (by decide)
  refine ⟨(show lf_R x5 from lf_Rof (by omega)), ?_⟩
  refine ⟨fun c13 => ?_, fun c13 => ?_⟩
  · skip
    replace c13 : lf_shl 1 (s.1 96 1) ≤ x5 := c13
    exact sq_297_p170 hQ hX66 (show (4 - x4).toNat ≤ M66 from by omega) hI (show (0 : Int) ≤ x1 ∧ x1 ≤ (3 : Int) from by omega) (show (-1 : Int) ≤ x2 ∧ x2 ≤ (65535 : Int) from by omega) (show (-2147483648 : Int) ≤ x3 ∧ x3 ≤ (2147483647 : Int) from by omega) (show (0 : Int) ≤ x4 ∧ x4 ≤ (3 : Int) from by omega)
  · skip
    replace c13 : ¬ (lf_shl 1 (s.1 96 1) ≤ x5) := c13
    refine ⟨(show lf_R x2 from lf_Rof (by omega)), ?_⟩
    refine ⟨fun c14 => ?_, fun c14 => ?_⟩
    · skip
      replace c14 : 0 ≤ x2 := c14
      exact sq_297_p170 hQ hX66 (show (4 - x4).toNat ≤ M66 from by omega) hI (show (0 : Int) ≤ x1 ∧ x1 ≤ (3 : Int) from by omega) (show (-1 : Int) ≤ x2 ∧ x2 ≤ (65535 : Int) from by omega) (show (-2147483648 : Int) ≤ x3 ∧ x3 ≤ (2147483647 : Int) from by omega) (show (0 : Int) ≤ x4 ∧ x4 ≤ (3 : Int) from by omega)
    · skip
      replace c14 : ¬ (0 ≤ x2) := c14
      refine sm_188 hI (show (-2147483648 : Int) ≤ x5 ∧ x5 ≤ (2147483647 : Int) from by omega) (fun r30 ps16 q15 => ?_)
      replace ps16 : r30 = lf_bt (x5) 16 := ps16
      refine ⟨(show lf_R r30 from lf_Rof (by omega)), ?_⟩
      refine ⟨(show lf_R x4 from lf_Rof (by omega)), ?_⟩
      refine ⟨fun c17 => ?_, fun c17 => ?_⟩
      · skip
        replace c17 : r30 ≠ x4 := c17
        exact sq_297_p164 hQ hX66 (show (4 - x4).toNat ≤ M66 from by omega) hX79 (show (2147483647 - x5).toNat ≤ M79 from by omega) hI (show (0 : Int) ≤ x1 ∧ x1 ≤ (3 : Int) from by omega) (show (-1 : Int) ≤ x2 ∧ x2 ≤ (65535 : Int) from by omega) (show (-2147483648 : Int) ≤ x3 ∧ x3 ≤ (2147483647 : Int) from by omega) (show (0 : Int) ≤ x4 ∧ x4 ≤ (3 : Int) from by omega) (show (0 : Int) ≤ x5 ∧ x5 ≤ (2147483646 : Int) from by omega)
      · skip
        replace c17 : ¬ (r30 ≠ x4) := c17
        have b18 : (-2147483648) ≤ lf_xor x3 (-1) ∧ lf_xor x3 (-1) ≤ 2147483647 := lf_xorB
        have b19 : 0 ≤ lf_and x5 (lf_xor x3 (-1)) ∧ lf_and x5 (lf_xor x3 (-1)) ≤ 65535 := lf_andBl (by omega) (by omega)
        refine ⟨fun c20 => ?_, fun c20 => ?_⟩
        · skip
          replace c20 : lf_and x5 (lf_xor x3 (-1)) = 0 := c20
          have hI21 : iv_A (lf_up s.1 95 31 x5) s.2.2 := iv_w95_31 hI (by omega)
          have fr22 : sq_fq [95, 104, 107, 111, 112] 1000000 true s.1 s.2.2 (lf_up s.1 95 31 x5) s.2.2 := sq_fq_up (sq_fq_rf) rfl (fun h => absurd h (by decide)) (fun _ => by decide)
          refine sm_294 hI21 (show (0 : Int) ≤ x1 ∧ x1 ≤ (3 : Int) from by omega) (fun r34 s33 hI24 fr23 q25 => ?_)
          have fr26 : sq_fq [95, 104, 107, 111, 112] 1000000 true s.1 s.2.2 s33.1 s33.2.2 := sq_fq_tr fr22 (sq_fq_wk fr23 rfl (by decide) (by decide) rfl)
          refine sm_296 hI24 (show (-2147483648 : Int) ≤ r34 ∧ r34 ≤ (2147483647 : Int) from by omega) (show (0 : Int) ≤ 3 ∧ 3 ≤ (3 : Int) from by omega) (fun r36 q27 => ?_)
          refine ⟨(show lf_R r36 from lf_Rof (by omega)), ?_⟩
          refine ⟨fun c28 => ?_, fun c28 => ?_⟩
          · skip
            replace c28 : r36 = 0 := c28
            exact sq_297_p164 (fun r9 t9 i9 f9 => hQ r9 t9 i9 (sq_fq_tr fr26 f9)) (fun p0 p1 t9 i9 f9 => hX66 p0 p1 t9 i9 (sq_fq_tr fr26 f9)) (show (4 - x4).toNat ≤ M66 from by omega) (fun p0 p1 t9 i9 f9 => hX79 p0 p1 t9 i9 (sq_fq_tr fr26 f9)) (show (2147483647 - x5).toNat ≤ M79 from by omega) hI24 (show (0 : Int) ≤ x1 ∧ x1 ≤ (3 : Int) from by omega) (show (-1 : Int) ≤ x2 ∧ x2 ≤ (65535 : Int) from by omega) (show (-2147483648 : Int) ≤ x3 ∧ x3 ≤ (2147483647 : Int) from by omega) (show (0 : Int) ≤ x4 ∧ x4 ≤ (3 : Int) from by omega) (show (0 : Int) ≤ x5 ∧ x5 ≤ (2147483646 : Int) from by omega)
          · skip
            replace c28 : ¬ (r36 = 0) := c28
            refine sm_296 hI24 (show (-2147483648 : Int) ≤ r34 ∧ r34 ≤ (2147483647 : Int) from by omega) (show (0 : Int) ≤ 1 ∧ 1 ≤ (3 : Int) from by omega) (fun r39 q29 => ?_)
            refine ⟨(show lf_R r39 from lf_Rof (by omega)), ?_⟩
            refine ⟨fun c30 => ?_, fun c30 => ?_⟩
            · skip
              replace c30 : r39 ≠ 0 := c30
              exact sq_297_p164 (fun r9 t9 i9 f9 => hQ r9 t9 i9 (sq_fq_tr fr26 f9)) (fun p0 p1 t9 i9 f9 => hX66 p0 p1 t9 i9 (sq_fq_tr fr26 f9)) (show (4 - x4).toNat ≤ M66 from by omega) (fun p0 p1 t9 i9 f9 => hX79 p0 p1 t9 i9 (sq_fq_tr fr26 f9)) (show (2147483647 - x5).toNat ≤ M79 from by omega) hI24 (show (0 : Int) ≤ x1 ∧ x1 ≤ (3 : Int) from by omega) (show (-1 : Int) ≤ x2 ∧ x2 ≤ (65535 : Int) from by omega) (show (-2147483648 : Int) ≤ x3 ∧ x3 ≤ (2147483647 : Int) from by omega) (show (0 : Int) ≤ x4 ∧ x4 ≤ (3 : Int) from by omega) (show (0 : Int) ≤ x5 ∧ x5 ≤ (2147483646 : Int) from by omega)
            · skip
              replace c30 : ¬ (r39 ≠ 0) := c30
              refine sm_296 hI24 (show (-2147483648 : Int) ≤ r34 ∧ r34 ≤ (2147483647 : Int) from by omega) (show (0 : Int) ≤ 2 ∧ 2 ≤ (3 : Int) from by omega) (fun r42 q31 => ?_)
              refine ⟨(show lf_R r42 from lf_Rof (by omega)), ?_⟩
              refine ⟨fun c32 => ?_, fun c32 => ?_⟩
              · skip
                replace c32 : r42 ≠ 0 := c32
                exact sq_297_p164 (fun r9 t9 i9 f9 => hQ r9 t9 i9 (sq_fq_tr fr26 f9)) (fun p0 p1 t9 i9 f9 => hX66 p0 p1 t9 i9 (sq_fq_tr fr26 f9)) (show (4 - x4).toNat ≤ M66 from by omega) (fun p0 p1 t9 i9 f9 => hX79 p0 p1 t9 i9 (sq_fq_tr fr26 f9)) (show (2147483647 - x5).toNat ≤ M79 from by omega) hI24 (show (0 : Int) ≤ x1 ∧ x1 ≤ (3 : Int) from by omega) (show (-1 : Int) ≤ x2 ∧ x2 ≤ (65535 : Int) from by omega) (show (-2147483648 : Int) ≤ x3 ∧ x3 ≤ (2147483647 : Int) from by omega) (show (0 : Int) ≤ x4 ∧ x4 ≤ (3 : Int) from by omega) (show (0 : Int) ≤ x5 ∧ x5 ≤ (2147483646 : Int) from by omega)
              · skip
                replace c32 : ¬ (r42 ≠ 0) := c32
                exact sq_297_p164 (fun r9 t9 i9 f9 => hQ r9 t9 i9 (sq_fq_tr fr26 f9)) (fun p0 p1 t9 i9 f9 => hX66 p0 p1 t9 i9 (sq_fq_tr fr26 f9)) (show (4 - x4).toNat ≤ M66 from by omega) (fun p0 p1 t9 i9 f9 => hX79 p0 p1 t9 i9 (sq_fq_tr fr26 f9)) (show (2147483647 - x5).toNat ≤ M79 from by omega) hI24 (show (0 : Int) ≤ x1 ∧ x1 ≤ (3 : Int) from by omega) (show (-1 : Int) ≤ x5 ∧ x5 ≤ (65535 : Int) from by omega) (show (-2147483648 : Int) ≤ x3 ∧ x3 ≤ (2147483647 : Int) from by omega) (show (0 : Int) ≤ x4 ∧ x4 ≤ (3 : Int) from by omega) (show (0 : Int) ≤ x5 ∧ x5 ≤ (2147483646 : Int) from by omega)
        · skip
          replace c20 : ¬ (lf_and x5 (lf_xor x3 (-1)) = 0) := c20
          exact sq_297_p164 hQ hX66 (show (4 - x4).toNat ≤ M66 from by omega) hX79 (show (2147483647 - x5).toNat ≤ M79 from by omega) hI (show (0 : Int) ≤ x1 ∧ x1 ≤ (3 : Int) from by omega) (show (-1 : Int) ≤ x2 ∧ x2 ≤ (65535 : Int) from by omega) (show (-2147483648 : Int) ≤ x3 ∧ x3 ≤ (2147483647 : Int) from by omega) (show (0 : Int) ≤ x4 ∧ x4 ≤ (3 : Int) from by omega) (show (0 : Int) ≤ x5 ∧ x5 ≤ (2147483646 : Int) from by omega)
theorem sq_297_p79L {X66 : Int → Int → lf_Z → Prop} {Q : Int → lf_Z → Prop} {x1 : Int} {x2 : Int} {x3 : Int} {x4 : Int} {x5 : Int} {s : lf_Z} (hQ : ∀ (r : Int) (s' : lf_Z), iv_A s'.1 s'.2.2 → sq_fq [95, 104, 107, 111, 112] 1000000 true s.1 s.2.2 s'.1 s'.2.2 → ((-1) ≤ r ∧ r ≤ 65535) → Q r s') {M66 : Nat} (hX66 : ∀ (x2 : Int) (x4 : Int) (s' : lf_Z), iv_A s'.1 s'.2.2 → sq_fq [95, 104, 107, 111, 112] 1000000 true s.1 s.2.2 s'.1 s'.2.2 → (-1) ≤ x2 ∧ x2 ≤ 65535 → 0 ≤ x4 ∧ x4 ≤ 4 → (4 - x4).toNat < M66 → X66 x2 x4 s') (hM66 : (4 - x4).toNat ≤ M66) (hI : iv_A s.1 s.2.2) (bx1 : 0 ≤ x1 ∧ x1 ≤ 3) (bx2 : (-1) ≤ x2 ∧ x2 ≤ 65535) (bx3 : (-2147483648) ≤ x3 ∧ x3 ≤ 2147483647) (bx4 : 0 ≤ x4 ∧ x4 ≤ 3) (bx5 : 0 ≤ x5 ∧ x5 ≤ 2147483647) : fm_297_p79L X66 Q x1 x2 x3 x4 x5 s := by
  intro X79 hX
  have key : ∀ (m9 : Nat) (x2 : Int) (x5 : Int) (s' : lf_Z), iv_A s'.1 s'.2.2 → sq_fq [95, 104, 107, 111, 112] 1000000 true s.1 s.2.2 s'.1 s'.2.2 → (-1) ≤ x2 ∧ x2 ≤ 65535 → 0 ≤ x5 ∧ x5 ≤ 2147483647 → (2147483647 - x5).toNat < m9 → X79 x2 x5 s' := by
    intro m9
    induction m9 with
    | zero => intro x2 x5 s' _ _ bx2 bx5 h9; exact absurd h9 (Nat.not_lt_zero _)
    | succ m9 ih => intro x2 x5 s' i7 f7 bx2 bx5 h9; exact hX _ _ _ (sq_297_p79 (fun r9 t9 i9 f9 => hQ r9 t9 i9 (sq_fq_tr f7 f9))  (fun p0 p1 t9 i9 f9 => hX66 p0 p1 t9 i9 (sq_fq_tr f7 f9)) hM66 (fun x2' x5' t8 i8 f8 bx2' bx5' h8 => ih x2' x5' t8 i8 (sq_fq_tr f7 f8) bx2' bx5' (by omega)) (Nat.le_refl _)  i7  bx1 bx2 bx3 bx4 bx5  )
  exact key _ _ _ s hI sq_fq_rf bx2 bx5 (Nat.lt_succ_self _)
theorem sq_297_p66 {X66 : Int → Int → lf_Z → Prop} {Q : Int → lf_Z → Prop} {x1 : Int} {x2 : Int} {x3 : Int} {x4 : Int} {s : lf_Z} (hQ : ∀ (r : Int) (s' : lf_Z), iv_A s'.1 s'.2.2 → sq_fq [95, 104, 107, 111, 112] 1000000 true s.1 s.2.2 s'.1 s'.2.2 → ((-1) ≤ r ∧ r ≤ 65535) → Q r s') {M66 : Nat} (hX66 : ∀ (x2 : Int) (x4 : Int) (s' : lf_Z), iv_A s'.1 s'.2.2 → sq_fq [95, 104, 107, 111, 112] 1000000 true s.1 s.2.2 s'.1 s'.2.2 → (-1) ≤ x2 ∧ x2 ≤ 65535 → 0 ≤ x4 ∧ x4 ≤ 4 → (4 - x4).toNat < M66 → X66 x2 x4 s') (hM66 : (4 - x4).toNat ≤ M66) (hI : iv_A s.1 s.2.2) (bx1 : 0 ≤ x1 ∧ x1 ≤ 3) (bx2 : (-1) ≤ x2 ∧ x2 ≤ 65535) (bx3 : (-2147483648) ≤ x3 ∧ x3 ≤ 2147483647) (bx4 : 0 ≤ x4 ∧ x4 ≤ 4) : fm_297_p66 Q x1 x3 X66 x2 x4 s := by
  unfold fm_297_p66
  refine ⟨(show lf_R x4 from lf_Rof (by omega)), ?_⟩
  refine ⟨fun c6 => ?_, fun c6 => ?_⟩
  · skip
    replace c6 : 3 < x4 := c6
    exact sq_297_p176 hQ hI (show (-1 : Int) ≤ x2 ∧ x2 ≤ (65535 : Int) from by omega)
  · skip
    replace c6 : ¬ (3 < x4) := c6
    refine ⟨(show lf_R x2 from lf_Rof (by omega)), ?_⟩
    refine ⟨fun c9 => ?_, fun c9 => ?_⟩
    · skip
      replace c9 : 0 ≤ x2 := c9
      exact sq_297_p176 hQ hI (show (-1 : Int) ≤ x2 ∧ x2 ≤ (65535 : Int) from by omega)
    · skip
      replace c9 : ¬ (0 ≤ x2) := c9
      exact sq_297_p79L hQ hX66 (show (4 - x4).toNat ≤ M66 from by omega) hI (show (0 : Int) ≤ x1 ∧ x1 ≤ (3 : Int) from by omega) (show (-1 : Int) ≤ x2 ∧ x2 ≤ (65535 : Int) from by omega) (show (-2147483648 : Int) ≤ x3 ∧ x3 ≤ (2147483647 : Int) from by omega) (show (0 : Int) ≤ x4 ∧ x4 ≤ (3 : Int) from by omega) (show (0 : Int) ≤ 0 ∧ 0 ≤ (2147483647 : Int) from by omega)
theorem sq_297_p66L {Q : Int → lf_Z → Prop} {x1 : Int} {x2 : Int} {x3 : Int} {x4 : Int} {s : lf_Z} (hQ : ∀ (r : Int) (s' : lf_Z), iv_A s'.1 s'.2.2 → sq_fq [95, 104, 107, 111, 112] 1000000 true s.1 s.2.2 s'.1 s'.2.2 → ((-1) ≤ r ∧ r ≤ 65535) → Q r s') (hI : iv_A s.1 s.2.2) (bx1 : 0 ≤ x1 ∧ x1 ≤ 3) (bx2 : (-1) ≤ x2 ∧ x2 ≤ 65535) (bx3 : (-2147483648) ≤ x3 ∧ x3 ≤ 2147483647) (bx4 : 0 ≤ x4 ∧ x4 ≤ 4) : fm_297_p66L Q x1 x2 x3 x4 s := by
  intro X66 hX
  have key : ∀ (m9 : Nat) (x2 : Int) (x4 : Int) (s' : lf_Z), iv_A s'.1 s'.2.2 → sq_fq [95, 104, 107, 111, 112] 1000000 true s.1 s.2.2 s'.1 s'.2.2 → (-1) ≤ x2 ∧ x2 ≤ 65535 → 0 ≤ x4 ∧ x4 ≤ 4 → (4 - x4).toNat < m9 → X66 x2 x4 s' := by
    intro m9
    induction m9 with
    | zero => intro x2 x4 s' _ _ bx2 bx4 h9; exact absurd h9 (Nat.not_lt_zero _)
    | succ m9 ih => intro x2 x4 s' i7 f7 bx2 bx4 h9; exact hX _ _ _ (sq_297_p66 (fun r9 t9 i9 f9 => hQ r9 t9 i9 (sq_fq_tr f7 f9))   (fun x2' x4' t8 i8 f8 bx2' bx4' h8 => ih x2' x4' t8 i8 (sq_fq_tr f7 f8) bx2' bx4' (by omega)) (Nat.le_refl _)  i7  bx1 bx2 bx3 bx4  )
  exact key _ _ _ s hI sq_fq_rf bx2 bx4 (Nat.lt_succ_self _)
theorem sq_297_p55 {X17 : Int → Int → lf_Z → Prop} {Q : Int → lf_Z → Prop} {x1 : Int} {x2 : Int} {x4 : Int} {y0 : Int} {y1 : Int} {s : lf_Z} (hQ : ∀ (r : Int) (s' : lf_Z), iv_A s'.1 s'.2.2 → sq_fq [95, 104, 107, 111, 112] 1000000 true s.1 s.2.2 s'.1 s'.2.2 → ((-1) ≤ r ∧ r ≤ 65535) → Q r s') {M17 : Nat} (hX17 : ∀ (x3 : Int) (x4 : Int) (s' : lf_Z), iv_A s'.1 s'.2.2 → sq_fq [95, 104, 107, 111, 112] 1000000 true s.1 s.2.2 s'.1 s'.2.2 → (-2147483648) ≤ x3 ∧ x3 ≤ 2147483647 → 0 ≤ x4 ∧ x4 ≤ 16 → (16 - x4).toNat < M17 → X17 x3 x4 s') (hM17 : (16 - x4).toNat ≤ M17) (hI : iv_A s.1 s.2.2) (bx1 : 0 ≤ x1 ∧ x1 ≤ 3) (bx2 : (-1) ≤ x2 ∧ x2 ≤ (-1)) (bx4 : 0 ≤ x4 ∧ x4 ≤ 15) (by0 : (-2147483648) ≤ y0 ∧ y0 ≤ 2147483647) (by1 : 0 ≤ y1 ∧ y1 ≤ 32768) : fm_297_p55 X17 Q x1 x2 x4 y0 y1 s := by
  unfold fm_297_p55
  have b35 : (-2147483648) ≤ lf_or y0 y1 ∧ lf_or y0 y1 ≤ 2147483647 := lf_orB
  exact hX17 (lf_or y0 y1) (x4 + 1) s hI (sq_fq_rf) (show (-2147483648 : Int) ≤ lf_or y0 y1 ∧ lf_or y0 y1 ≤ (2147483647 : Int) from by omega) (show (0 : Int) ≤ x4 + 1 ∧ x4 + 1 ≤ (16 : Int) from by omega) (show (16 - (x4 + 1)).toNat < M17 from by omega)
theorem sq_297_p54 {X17 : Int → Int → lf_Z → Prop} {Q : Int → lf_Z → Prop} {x1 : Int} {x2 : Int} {x4 : Int} {y0 : Int} {s : lf_Z} (hQ : ∀ (r : Int) (s' : lf_Z), iv_A s'.1 s'.2.2 → sq_fq [95, 104, 107, 111, 112] 1000000 true s.1 s.2.2 s'.1 s'.2.2 → ((-1) ≤ r ∧ r ≤ 65535) → Q r s') {M17 : Nat} (hX17 : ∀ (x3 : Int) (x4 : Int) (s' : lf_Z), iv_A s'.1 s'.2.2 → sq_fq [95, 104, 107, 111, 112] 1000000 true s.1 s.2.2 s'.1 s'.2.2 → (-2147483648) ≤ x3 ∧ x3 ≤ 2147483647 → 0 ≤ x4 ∧ x4 ≤ 16 → (16 - x4).toNat < M17 → X17 x3 x4 s') (hM17 : (16 - x4).toNat ≤ M17) (hI : iv_A s.1 s.2.2) (bx1 : 0 ≤ x1 ∧ x1 ≤ 3) (bx2 : (-1) ≤ x2 ∧ x2 ≤ (-1)) (bx4 : 0 ≤ x4 ∧ x4 ≤ 15) (by0 : (-2147483648) ≤ y0 ∧ y0 ≤ 2147483647) : fm_297_p54 X17 Q x1 x2 x4 y0 s := by
  unfold fm_297_p54
  exact sq_297_p55 hQ hX17 (show (16 - x4).toNat ≤ M17 from by omega) hI (show (0 : Int) ≤ x1 ∧ x1 ≤ (3 : Int) from by omega) (show (-1 : Int) ≤ x2 ∧ x2 ≤ (-1 : Int) from by omega) (show (0 : Int) ≤ x4 ∧ x4 ≤ (15 : Int) from by omega) (show (-2147483648 : Int) ≤ y0 ∧ y0 ≤ (2147483647 : Int) from by omega) (show (0 : Int) ≤ 0 ∧ 0 ≤ (32768 : Int) from by omega)
theorem sq_297_p17 {X17 : Int → Int → lf_Z → Prop} {Q : Int → lf_Z → Prop} {x1 : Int} {x2 : Int} {x3 : Int} {x4 : Int} {s : lf_Z} (hQ : ∀ (r : Int) (s' : lf_Z), iv_A s'.1 s'.2.2 → sq_fq [95, 104, 107, 111, 112] 1000000 true s.1 s.2.2 s'.1 s'.2.2 → ((-1) ≤ r ∧ r ≤ 65535) → Q r s') {M17 : Nat} (hX17 : ∀ (x3 : Int) (x4 : Int) (s' : lf_Z), iv_A s'.1 s'.2.2 → sq_fq [95, 104, 107, 111, 112] 1000000 true s.1 s.2.2 s'.1 s'.2.2 → (-2147483648) ≤ x3 ∧ x3 ≤ 2147483647 → 0 ≤ x4 ∧ x4 ≤ 16 → (16 - x4).toNat < M17 → X17 x3 x4 s') (hM17 : (16 - x4).toNat ≤ M17) (hI : iv_A s.1 s.2.2) (bx1 : 0 ≤ x1 ∧ x1 ≤ 3) (bx2 : (-1) ≤ x2 ∧ x2 ≤ (-1)) (bx3 : (-2147483648) ≤ x3 ∧ x3 ≤ 2147483647) (bx4 : 0 ≤ x4 ∧ x4 ≤ 16) : fm_297_p17 Q x1 x2 X17 x3 x4 s := by
  unfold fm_297_p17
  have b3 : 0 ≤ s.1 96 1 ∧ s.1 96 1 ≤ 16 := iv_rd96 hI (iv_fd6ad3e54 (by omega))
  have b4 : s.1 96 1 ≤ 0 ∨ 0 < s.1 96 0 := (show s.1 96 1 ≤ 0 ∨ 0 < s.1 96 0 from iv_l96_1 hI)
  refine ⟨(show lf_R x4 from lf_Rof (by omega)), ?_⟩
  refine ⟨(show lf_R (s.1 96 1) from lf_Rof (by omega)), ?_⟩
  refine ⟨fun c5 => ?_, fun c5 => ?_⟩
  · skip
    replace c5 : s.1 96 1 ≤ x4 := c5
    exact sq_297_p66L hQ hI (show (0 : Int) ≤ x1 ∧ x1 ≤ (3 : Int) from by omega) (show (-1 : Int) ≤ x2 ∧ x2 ≤ (65535 : Int) from by omega) (show (-2147483648 : Int) ≤ x3 ∧ x3 ≤ (2147483647 : Int) from by omega) (show (0 : Int) ≤ 0 ∧ 0 ≤ (4 : Int) from by omega)
  · skip
    replace c5 : ¬ (s.1 96 1 ≤ x4) := c5
    refine sm_245 hI (show (0 : Int) ≤ x4 ∧ x4 ≤ (15 : Int) from by omega) (fun z45 => ?_)
    refine ⟨fun c34 => ?_, fun c34 => ?_⟩
    · skip
      exact sq_297_p54 hQ hX17 (show (16 - x4).toNat ≤ M17 from by omega) hI (show (0 : Int) ≤ x1 ∧ x1 ≤ (3 : Int) from by omega) (show (-1 : Int) ≤ x2 ∧ x2 ≤ (-1 : Int) from by omega) (show (0 : Int) ≤ x4 ∧ x4 ≤ (15 : Int) from by omega) (show (-2147483648 : Int) ≤ x3 ∧ x3 ≤ (2147483647 : Int) from by omega)
    · skip
      refine sm_252 hI (show (0 : Int) ≤ x4 ∧ x4 ≤ (15 : Int) from by omega) (fun z47 => ?_)
      refine ⟨fun c37 => ?_, fun c37 => ?_⟩
      · skip
        exact sq_297_p54 hQ hX17 (show (16 - x4).toNat ≤ M17 from by omega) hI (show (0 : Int) ≤ x1 ∧ x1 ≤ (3 : Int) from by omega) (show (-1 : Int) ≤ x2 ∧ x2 ≤ (-1 : Int) from by omega) (show (0 : Int) ≤ x4 ∧ x4 ≤ (15 : Int) from by omega) (show (-2147483648 : Int) ≤ x3 ∧ x3 ≤ (2147483647 : Int) from by omega)
      · skip
        have b38 : 1 ≤ lf_shl 1 x4 ∧ lf_shl 1 x4 ≤ 32768 := lf_shl1 (m := 15) (by omega) (by omega) (by decide)
        exact sq_297_p55 hQ hX17 (show (16 - x4).toNat ≤ M17 from by omega) hI (show (0 : Int) ≤ x1 ∧ x1 ≤ (3 : Int) from by omega) (show (-1 : Int) ≤ x2 ∧ x2 ≤ (-1 : Int) from by omega) (show (0 : Int) ≤ x4 ∧ x4 ≤ (15 : Int) from by omega) (show (-2147483648 : Int) ≤ x3 ∧ x3 ≤ (2147483647 : Int) from by omega) (show (0 : Int) ≤ lf_shl 1 x4 ∧ lf_shl 1 x4 ≤ (32768 : Int) from by omega)
theorem sq_297_p17L {Q : Int → lf_Z → Prop} {x1 : Int} {x2 : Int} {x3 : Int} {x4 : Int} {s : lf_Z} (hQ : ∀ (r : Int) (s' : lf_Z), iv_A s'.1 s'.2.2 → sq_fq [95, 104, 107, 111, 112] 1000000 true s.1 s.2.2 s'.1 s'.2.2 → ((-1) ≤ r ∧ r ≤ 65535) → Q r s') (hI : iv_A s.1 s.2.2) (bx1 : 0 ≤ x1 ∧ x1 ≤ 3) (bx2 : (-1) ≤ x2 ∧ x2 ≤ (-1)) (bx3 : (-2147483648) ≤ x3 ∧ x3 ≤ 2147483647) (bx4 : 0 ≤ x4 ∧ x4 ≤ 16) : fm_297_p17L Q x1 x2 x3 x4 s := by
  intro X17 hX
  have key : ∀ (m9 : Nat) (x3 : Int) (x4 : Int) (s' : lf_Z), iv_A s'.1 s'.2.2 → sq_fq [95, 104, 107, 111, 112] 1000000 true s.1 s.2.2 s'.1 s'.2.2 → (-2147483648) ≤ x3 ∧ x3 ≤ 2147483647 → 0 ≤ x4 ∧ x4 ≤ 16 → (16 - x4).toNat < m9 → X17 x3 x4 s' := by
    intro m9
    induction m9 with
    | zero => intro x3 x4 s' _ _ bx3 bx4 h9; exact absurd h9 (Nat.not_lt_zero _)
    | succ m9 ih => intro x3 x4 s' i7 f7 bx3 bx4 h9; exact hX _ _ _ (sq_297_p17 (fun r9 t9 i9 f9 => hQ r9 t9 i9 (sq_fq_tr f7 f9))   (fun x3' x4' t8 i8 f8 bx3' bx4' h8 => ih x3' x4' t8 i8 (sq_fq_tr f7 f8) bx3' bx4' (by omega)) (Nat.le_refl _)  i7  bx1 bx2 bx3 bx4  )
  exact key _ _ _ s hI sq_fq_rf bx3 bx4 (Nat.lt_succ_self _)
theorem sq_297 {a1 : Int} {Q : Int → lf_Z → Prop} {s : lf_Z} (hI : iv_A s.1 s.2.2) (ba1 : (-2147483648) ≤ a1 ∧ a1 ≤ 2147483647) (hQ : ∀ (r : Int) (s' : lf_Z), iv_A s'.1 s'.2.2 → sq_fq [95, 104, 107, 111, 112] 1000000 true s.1 s.2.2 s'.1 s'.2.2 → ((-1) ≤ r ∧ r ≤ 65535) → Q r s') : fm_297 a1 Q s := by
  unfold fm_297
  refine sm_254 hI (show (-2147483648 : Int) ≤ a1 ∧ a1 ≤ (2147483647 : Int) from by omega) (fun z22 q1 => ?_)
  refine ⟨fun c2 => ?_, fun c2 => ?_⟩
  · skip
    have dc2 := q1.1 c2
    exact sq_297_p17L hQ hI (show (0 : Int) ≤ a1 ∧ a1 ≤ (3 : Int) from by omega) (show (-1 : Int) ≤ (-1) ∧ (-1) ≤ (-1 : Int) from by omega) (show (-2147483648 : Int) ≤ 0 ∧ 0 ≤ (2147483647 : Int) from by omega) (show (0 : Int) ≤ 0 ∧ 0 ≤ (16 : Int) from by omega)
  · skip
    have dc2 := q1.2 c2
    exact hQ (-1) s hI (sq_fq_rf) (show (-1 : Int) ≤ (-1) ∧ (-1) ≤ (65535 : Int) from by omega)
-- fm_146 Notes.addSight 25 i i
theorem tr_295 {a1 : Int} {a2 : Int} {Q : Int → lf_Z → Prop} {s : lf_Z} (hI : iv_A s.1 s.2.2) (ba1 : (-2147483648) ≤ a1 ∧ a1 ≤ 2147483647) (ba2 : (-2147483648) ≤ a2 ∧ a2 ≤ 2147483647) (hQ : ∀ (r : Int) (s' : lf_Z), iv_A s'.1 s'.2.2 → lf_fq [95, 104, 107, 111, 112] 1000000 true s.1 s.2.2 s'.1 s'.2.2 → (∀ i : Int, 4 ≤ i → i ≤ 6 → s'.1 95 i = s.1 95 i) → ((-1) ≤ r ∧ r ≤ 4095) → Q r s') : fm_295 a1 a2 Q s := sq_295 hI ba1 ba2 (fun r s' h1 h2 h3 => hQ r s' h1 h2.1 h2.2 h3)
theorem tr_297 {a1 : Int} {Q : Int → lf_Z → Prop} {s : lf_Z} (hI : iv_A s.1 s.2.2) (ba1 : (-2147483648) ≤ a1 ∧ a1 ≤ 2147483647) (hQ : ∀ (r : Int) (s' : lf_Z), iv_A s'.1 s'.2.2 → lf_fq [95, 104, 107, 111, 112] 1000000 true s.1 s.2.2 s'.1 s'.2.2 → (∀ i : Int, 4 ≤ i → i ≤ 6 → s'.1 95 i = s.1 95 i) → ((-1) ≤ r ∧ r ≤ 65535) → Q r s') : fm_297 a1 Q s := sq_297 hI ba1 (fun r s' h1 h2 h3 => hQ r s' h1 h2.1 h2.2 h3)
end SQ
/-! the tape, texts and faults: the law's relation -/
section TP
variable {f g g' : Int → Int} {n law : Int} {I I' : Nat → Int → Int} {P P' : Nat → Option Nat} {l : List Nat} {w : Int} {bb : Bool} {s t : lf_Z}
/-! letters are asked from a to z alone -/
def lg_a (g g' : Int → Int) : Prop := ∀ j : Int, 0 ≤ j → j < 26 → g j = g' j
theorem lg_u {i v : Int} (h : lg_a g g') : lg_a (ds_u1 g i v) (ds_u1 g' i v) := fun j a b => by
  unfold ds_u1
  split
  · rfl
  · exact h j a b
theorem lg_T : ∀ (k : Nat) (g g' : Int → Int), lg_a g g' → (∀ d, (ds_T f n law k).1 d g = (ds_T f n law k).1 d g') ∧ (∀ d, (ds_T f n law k).2.1 d g = (ds_T f n law k).2.1 d g') ∧ (∀ d, (ds_T f n law k).2.2.1 d g = (ds_T f n law k).2.2.1 d g') ∧ (∀ d, (ds_T f n law k).2.2.2.1 d g = (ds_T f n law k).2.2.2.1 d g') ∧ (∀ d, (ds_T f n law k).2.2.2.2.1 d g = (ds_T f n law k).2.2.2.2.1 d g') ∧ (∀ d, (ds_T f n law k).2.2.2.2.2.1 d g = (ds_T f n law k).2.2.2.2.2.1 d g') ∧ (∀ d, (ds_T f n law k).2.2.2.2.2.2.1 d g = (ds_T f n law k).2.2.2.2.2.2.1 d g') ∧ (∀ d, (ds_T f n law k).2.2.2.2.2.2.2 d g = (ds_T f n law k).2.2.2.2.2.2.2 d g') := by
  intro k
  induction k with
  | zero => intro g g' _; exact ⟨fun _ => rfl, fun _ => rfl, fun _ => rfl, fun _ => rfl, fun _ => rfl, fun _ => rfl, fun _ => rfl, fun _ => rfl⟩
  | succ k ih =>
    intro g g' h
    obtain ⟨i1, i2, i3, i4, i5, i6, i7, i8⟩ := ih g g' h
    refine ⟨fun d => funext fun b => ?_, fun d => funext fun b => ?_, fun d => funext fun b => ?_, fun d => funext fun b => ?_, fun d => funext fun b => ?_, fun d => funext fun b => ?_, fun d => funext fun b => ?_, fun d => funext fun b => ?_⟩
    · show ds_bd ((ds_T f n law k).2.1 d g b) (ds_lp f n ds_pm ((ds_T f n law k).2.1 d g) 300) = ds_bd ((ds_T f n law k).2.1 d g' b) (ds_lp f n ds_pm ((ds_T f n law k).2.1 d g') 300)
      rw [i2 d]
    · show ds_bd ((ds_T f n law k).2.2.1 d g b) (ds_lp f n ds_td ((ds_T f n law k).2.2.1 d g) 300) = ds_bd ((ds_T f n law k).2.2.1 d g' b) (ds_lp f n ds_td ((ds_T f n law k).2.2.1 d g') 300)
      rw [i3 d]
    · show ds_one f n law (ds_T f n law k).1 (ds_T f n law k).2.2.1 (ds_T f n law k).2.2.2.1 (ds_T f n law k).2.2.2.2.1 d g b = ds_one f n law (ds_T f n law k).1 (ds_T f n law k).2.2.1 (ds_T f n law k).2.2.2.1 (ds_T f n law k).2.2.2.2.1 d g' b
      unfold ds_one
      rw [i3 (d + 1), i1 (d + 1), i4 (d + 1), i5 (d + 1)]
      by_cases c : lx_T f n b = 3
      · rw [h _ (la_V3 c).1 (la_V3 c).2]
      · rw [if_neg c, if_neg c]
    · show ds_if f n (ds_T f n law k).1 (ds_T f n law k).2.2.2.2.2.1 d g b = ds_if f n (ds_T f n law k).1 (ds_T f n law k).2.2.2.2.2.1 d g' b
      unfold ds_if
      rw [i6 d, i1 d]
    · show ds_let f n (ds_T f n law k).1 d g b = ds_let f n (ds_T f n law k).1 d g' b
      unfold ds_let
      rw [i1 d, (ih _ _ (lg_u (i := lx_V f n b) (v := ds_sl d) h)).1 d]
    · show ds_bd ((ds_T f n law k).2.2.2.2.2.2.1 d g b) (ds_lp f n (ds_is 46) ((ds_T f n law k).2.2.2.2.2.2.1 d g) 300) = ds_bd ((ds_T f n law k).2.2.2.2.2.2.1 d g' b) (ds_lp f n (ds_is 46) ((ds_T f n law k).2.2.2.2.2.2.1 d g') 300)
      rw [i7 d]
    · show ds_bd ((ds_T f n law k).2.2.2.2.2.2.2 d g b) (ds_lp f n (ds_is 45) ((ds_T f n law k).2.2.2.2.2.2.2 d g) 300) = ds_bd ((ds_T f n law k).2.2.2.2.2.2.2 d g' b) (ds_lp f n (ds_is 45) ((ds_T f n law k).2.2.2.2.2.2.2 d g') 300)
      rw [i8 d]
    · show ds_ask f n (ds_T f n law k).1 (ds_T f n law k).2.2.2.2.2.2.2 d g b = ds_ask f n (ds_T f n law k).1 (ds_T f n law k).2.2.2.2.2.2.2 d g' b
      unfold ds_ask
      rw [i1 d, i8 (d + 1)]
theorem lg_c {b : Int} (h : lg_a g g') : ds_cl f n g b = ds_cl f n g' b := by
  unfold ds_cl
  rw [(lg_T 200 g g' h).1 0]
theorem lg_l (h : lg_a g g') : ∀ (k : Nat) (m : Int) (o : Int → Bool) (b : Int), tx_lp f n g k m o b = tx_lp f n g' k m o b := by
  intro k
  induction k with
  | zero => intro m o b; rfl
  | succ k ih =>
    intro m o b
    show (if lx_T f n b = 0 then (0, b) else if tx_ok f n m o b ≠ 0 then (tx_ok f n m o b, b) else ds_bd (ds_cl f n g b) (tx_lp f n g k (m + 1) (tx_o f n o b))) = (if lx_T f n b = 0 then (0, b) else if tx_ok f n m o b ≠ 0 then (tx_ok f n m o b, b) else ds_bd (ds_cl f n g' b) (tx_lp f n g' k (m + 1) (tx_o f n o b)))
    have e : tx_lp f n g k (m + 1) (tx_o f n o b) = tx_lp f n g' k (m + 1) (tx_o f n o b) := funext (fun b' => ih _ _ b')
    rw [lg_c h, e]
theorem lg_v (h : lg_a g g') : tx_v f n g = tx_v f n g' := lg_l h _ _ _ _
/-! bytes -/
theorem tp_bv (x : BitVec 32) (k : Nat) (h : k ≤ 24) : (x >>> k) &&& 255#32 = (x.sshiftRight k) &&& 255#32 := by
  apply BitVec.eq_of_getLsbD_eq
  intro i hi
  have t : ∀ i, i < 32 → (255#32).getLsbD i = decide (i < 8) := by decide
  rw [BitVec.getLsbD_and, BitVec.getLsbD_and, BitVec.getLsbD_ushiftRight, BitVec.getLsbD_sshiftRight, t i hi]
  by_cases c : i < 8
  · have c1 : k + i < 32 := by omega
    have c2 : ¬ 32 ≤ i := by omega
    simp [c, c1, c2]
  · simp [c]
theorem tp_sh {a x : Int} (hx : x = 24 ∨ x = 16 ∨ x = 8 ∨ x = 0) : lf_and (lf_ushr a x) 255 = lf_and (lf_shr a x) 255 := by
  unfold lf_and lf_ushr lf_shr
  rw [Int32.ofInt_toInt, Int32.ofInt_toInt]
  rcases hx with e | e | e | e
  · subst e; exact congrArg Int32.toInt (Int32.toBitVec_inj.mp (tp_bv (Int32.ofInt a).toBitVec 24 (by decide)))
  · subst e; exact congrArg Int32.toInt (Int32.toBitVec_inj.mp (tp_bv (Int32.ofInt a).toBitVec 16 (by decide)))
  · subst e; exact congrArg Int32.toInt (Int32.toBitVec_inj.mp (tp_bv (Int32.ofInt a).toBitVec 8 (by decide)))
  · subst e; exact congrArg Int32.toInt (Int32.toBitVec_inj.mp (tp_bv (Int32.ofInt a).toBitVec 0 (by decide)))
def tp_W (F : Int → Int) (n a : Int) : Nat → Int → Int
  | 0 => F
  | k + 1 => ds_u1 (tp_W F n a k) (n + k) (lf_and (lf_shr a (24 - 8 * k)) 255)
theorem tp_row {F : Nat → Int → Int} {c : Nat} {i v : Int} : lf_up F c i v c = ds_u1 (F c) i v := by
  funext j
  unfold ds_u1
  by_cases h : j = i
  · rw [h, if_pos rfl]; exact lf_up_s
  · rw [if_neg h]; exact lf_up_i h
theorem fl_26 {a : Int} {Q : lf_Z → Prop} (h4 : s.1 31 1 + 4 ≤ 300) (kk : ∀ t : lf_Z, t.1 31 1 = s.1 31 1 + 4 → t.1 32 = tp_W (s.1 32) (s.1 31 1) a 4 → (∀ i : Int, i ≠ 1 → t.1 31 i = s.1 31 i) → Q t) : fw_26 a Q s := by
  unfold fw_26
  refine ⟨fun x t => ∃ k : Nat, k ≤ 4 ∧ x = 24 - 8 * k ∧ t.1 31 1 = s.1 31 1 + k ∧ t.1 32 = tp_W (s.1 32) (s.1 31 1) a k ∧ ∀ i : Int, i ≠ 1 → t.1 31 i = s.1 31 i, ?_, ⟨0, by decide, by decide, by omega, rfl, fun _ _ => rfl⟩⟩
  intro x t ⟨k, k4, hx, h1, h2, h3⟩
  unfold fw_26_p3
  intro _
  refine ⟨fun c => ?_, fun c _ => ⟨fun d => by omega, fun _ _ => ?_⟩⟩
  · have e : k = 4 := by omega
    subst e
    exact kk t h1 h2 h3
  · rw [h1]
    refine ⟨k + 1, by omega, by omega, ?_, ?_, fun i hi => (zu_i hi).trans ((lf_up_c (by decide)).trans (h3 i hi))⟩
    · refine zu_s.trans ?_
      omega
    · refine (zu_r (by decide)).trans (tp_row.trans ?_)
      rw [h2, tp_sh (by omega), hx]; rfl
theorem fl_193 {a : Int} {Q : lf_Z → Prop} (kk : ∀ t : lf_Z, t.1 95 4 = s.1 95 4 + 4 → t.1 99 = tp_W (s.1 99) (s.1 95 4) a 4 → (∀ i : Int, i ≠ 4 → t.1 95 i = s.1 95 i) → Q t) : fw_193 a Q s := by
  unfold fw_193
  refine ⟨fun x t => ∃ k : Nat, k ≤ 4 ∧ x = 24 - 8 * k ∧ t.1 95 4 = s.1 95 4 + k ∧ t.1 99 = tp_W (s.1 99) (s.1 95 4) a k ∧ ∀ i : Int, i ≠ 4 → t.1 95 i = s.1 95 i, ?_, ⟨0, by decide, by decide, by omega, rfl, fun _ _ => rfl⟩⟩
  intro x t ⟨k, k4, hx, h1, h2, h3⟩
  unfold fw_193_p3
  intro _
  refine ⟨fun c => ?_, fun c _ => ?_⟩
  · have e : k = 4 := by omega
    subst e
    exact kk t h1 h2 h3
  · rw [h1]
    refine ⟨k + 1, by omega, by omega, ?_, ?_, fun i hi => (zu_i hi).trans ((lf_up_c (by decide)).trans (h3 i hi))⟩
    · refine zu_s.trans ?_
      omega
    · refine (zu_r (by decide)).trans (tp_row.trans ?_)
      rw [h2, hx]; rfl
def tp_W5 (F : Int → Int) (n a b c d e : Int) : Int → Int := tp_W (tp_W (tp_W (tp_W (tp_W F n a 4) (n + 4) b 4) (n + 4 + 4) c 4) (n + 4 + 4 + 4) d 4) (n + 4 + 4 + 4 + 4) e 4
/-- feed: what becomes of the tape -/
def tp_fd (a b c d e : Int) (F : Int → Int) (n : Int) (F' : Int → Int) (n' r : Int) : Prop := (n + 20 ≤ 300 ∧ F' = tp_W5 F n a b c d e ∧ n' = n + 20 ∧ r = n + 20) ∨ (¬ n + 20 ≤ 300 ∧ F' = F ∧ n' = n ∧ r = -1)
theorem tp_25 {a b c d e : Int} {Q : Int → lf_Z → Prop} (hI : iv_A s.1 s.2.2) (ba1 : (-2147483648) ≤ a ∧ a ≤ 2147483647) (ba2 : (-2147483648) ≤ b ∧ b ≤ 2147483647) (ba3 : (-2147483648) ≤ c ∧ c ≤ 2147483647) (ba4 : (-2147483648) ≤ d ∧ d ≤ 2147483647) (ba5 : (-2147483648) ≤ e ∧ e ≤ 2147483647) (hQ : ∀ (r : Int) (s' : lf_Z), iv_A s'.1 s'.2.2 → lf_fq [31, 32] 1000000 true s.1 s.2.2 s'.1 s'.2.2 → (tp_fd a b c d e (s.1 32) (s.1 31 1) (s'.1 32) (s'.1 31 1) r ∧ ∀ i : Int, i ≠ 1 → s'.1 31 i = s.1 31 i) → ((-1) ≤ r ∧ r ≤ 300) → Q r s') : fm_25 a b c d e Q s := by
  refine cj_25 (Q1 := fun r s' => iv_A s'.1 s'.2.2 ∧ lf_fq [31, 32] 1000000 true s.1 s.2.2 s'.1 s'.2.2 ∧ ((-1) ≤ r ∧ r ≤ 300)) (Q2 := fun r s' => tp_fd a b c d e (s.1 32) (s.1 31 1) (s'.1 32) (s'.1 31 1) r ∧ ∀ i : Int, i ≠ 1 → s'.1 31 i = s.1 31 i) (fun r s' h1 h2 => hQ r s' h1.1 h1.2.1 h2 h1.2.2) (sm_25 hI ba1 ba2 ba3 ba4 ba5 (fun r s' h1 h2 h3 => ⟨h1, h2, h3⟩)) ?_
  unfold fw_25
  intro _
  refine ⟨fun q => ?_, fun q => ⟨Or.inr ⟨q, rfl, rfl, rfl⟩, fun _ _ => rfl⟩⟩
  refine fl_26 (by omega) (fun t1 n1 r1 o1 => fl_26 (by omega) (fun t2 n2 r2 o2 => fl_26 (by omega) (fun t3 n3 r3 o3 => fl_26 (by omega) (fun t4 n4 r4 o4 => fl_26 (by omega) (fun t5 n5 r5 o5 => ?_)))))
  refine ⟨Or.inl ⟨q, ?_, by omega, by omega⟩, fun i hi => (o5 i hi).trans ((o4 i hi).trans ((o3 i hi).trans ((o2 i hi).trans (o1 i hi))))⟩
  rw [r5, r4, r3, r2, r1, n4, n3, n2, n1]; rfl
theorem tp_192 {a b c d e : Int} {Q : Int → lf_Z → Prop} (hI : iv_A s.1 s.2.2) (ba1 : (-2147483648) ≤ a ∧ a ≤ 2147483647) (ba2 : (-2147483648) ≤ b ∧ b ≤ 2147483647) (ba3 : (-2147483648) ≤ c ∧ c ≤ 2147483647) (ba4 : (-2147483648) ≤ d ∧ d ≤ 2147483647) (ba5 : (-2147483648) ≤ e ∧ e ≤ 2147483647) (hQ : ∀ (r : Int) (s' : lf_Z), iv_A s'.1 s'.2.2 → lf_fq [95, 99] 1000000 true s.1 s.2.2 s'.1 s'.2.2 → (tp_fd a b c d e (s.1 99) (s.1 95 4) (s'.1 99) (s'.1 95 4) r ∧ ∀ i : Int, i ≠ 4 → s'.1 95 i = s.1 95 i) → ((-1) ≤ r ∧ r ≤ 300) → Q r s') : fm_192 a b c d e Q s := by
  refine cj_192 (Q1 := fun r s' => iv_A s'.1 s'.2.2 ∧ lf_fq [95, 99] 1000000 true s.1 s.2.2 s'.1 s'.2.2 ∧ ((-1) ≤ r ∧ r ≤ 300)) (Q2 := fun r s' => tp_fd a b c d e (s.1 99) (s.1 95 4) (s'.1 99) (s'.1 95 4) r ∧ ∀ i : Int, i ≠ 4 → s'.1 95 i = s.1 95 i) (fun r s' h1 h2 => hQ r s' h1.1 h1.2.1 h2 h1.2.2) (sm_192 hI ba1 ba2 ba3 ba4 ba5 (fun r s' h1 h2 h3 => ⟨h1, h2, h3⟩)) ?_
  unfold fw_192
  intro _
  refine ⟨fun q => ?_, fun q => ⟨Or.inr ⟨q, rfl, rfl, rfl⟩, fun _ _ => rfl⟩⟩
  refine fl_193 (fun t1 n1 r1 o1 => fl_193 (fun t2 n2 r2 o2 => fl_193 (fun t3 n3 r3 o3 => fl_193 (fun t4 n4 r4 o4 => fl_193 (fun t5 n5 r5 o5 => ?_)))))
  refine ⟨Or.inl ⟨q, ?_, by omega, by omega⟩, fun i hi => (o5 i hi).trans ((o4 i hi).trans ((o3 i hi).trans ((o2 i hi).trans (o1 i hi))))⟩
  rw [r5, r4, r3, r2, r1, n4, n3, n2, n1]; rfl
/-- end -/
def tp_en (a n n' r : Int) : Prop := ((0 ≤ a ∧ a ≤ n) ∧ n' = a ∧ r = a) ∨ (¬ (0 ≤ a ∧ a ≤ n) ∧ n' = n ∧ r = -1)
theorem tp_27 {a : Int} {Q : Int → lf_Z → Prop} (hI : iv_A s.1 s.2.2) (ba1 : (-2147483648) ≤ a ∧ a ≤ 2147483647) (hQ : ∀ (r : Int) (s' : lf_Z), iv_A s'.1 s'.2.2 → lf_fq [31] 1000000 true s.1 s.2.2 s'.1 s'.2.2 → (tp_en a (s.1 31 1) (s'.1 31 1) r ∧ ∀ i : Int, i ≠ 1 → s'.1 31 i = s.1 31 i) → ((-1) ≤ r ∧ r ≤ 300) → Q r s') : fm_27 a Q s := by
  refine cj_27 (Q1 := fun r s' => iv_A s'.1 s'.2.2 ∧ lf_fq [31] 1000000 true s.1 s.2.2 s'.1 s'.2.2 ∧ ((-1) ≤ r ∧ r ≤ 300)) (Q2 := fun r s' => tp_en a (s.1 31 1) (s'.1 31 1) r ∧ ∀ i : Int, i ≠ 1 → s'.1 31 i = s.1 31 i) (fun r s' h1 h2 => hQ r s' h1.1 h1.2.1 h2 h1.2.2) (sm_27 hI ba1 (fun r s' h1 h2 h3 => ⟨h1, h2, h3⟩)) ?_
  unfold fw_27
  refine fl_15 ⟨fun q => ?_, fun q => ?_⟩
  · rw [Bool.and_eq_true, decide_eq_true_eq, decide_eq_true_eq] at q
    exact ⟨Or.inl ⟨q, zu_s, rfl⟩, fun i hi => zu_i hi⟩
  · refine ⟨Or.inr ⟨fun w => ?_, rfl, rfl⟩, fun _ _ => rfl⟩
    rw [decide_eq_true w.1, decide_eq_true w.2] at q; cases q
theorem tp_194 {a : Int} {Q : Int → lf_Z → Prop} (hI : iv_A s.1 s.2.2) (ba1 : (-2147483648) ≤ a ∧ a ≤ 2147483647) (hQ : ∀ (r : Int) (s' : lf_Z), iv_A s'.1 s'.2.2 → lf_fq [95] 1000000 true s.1 s.2.2 s'.1 s'.2.2 → (tp_en a (s.1 95 4) (s'.1 95 4) r ∧ ∀ i : Int, i ≠ 4 → s'.1 95 i = s.1 95 i) → ((-1) ≤ r ∧ r ≤ 300) → Q r s') : fm_194 a Q s := by
  refine cj_194 (Q1 := fun r s' => iv_A s'.1 s'.2.2 ∧ lf_fq [95] 1000000 true s.1 s.2.2 s'.1 s'.2.2 ∧ ((-1) ≤ r ∧ r ≤ 300)) (Q2 := fun r s' => tp_en a (s.1 95 4) (s'.1 95 4) r ∧ ∀ i : Int, i ≠ 4 → s'.1 95 i = s.1 95 i) (fun r s' h1 h2 => hQ r s' h1.1 h1.2.1 h2 h1.2.2) (sm_194 hI ba1 (fun r s' h1 h2 h3 => ⟨h1, h2, h3⟩)) ?_
  unfold fw_194
  refine fl_183 ⟨fun q => ?_, fun q => ?_⟩
  · rw [Bool.and_eq_true, decide_eq_true_eq, decide_eq_true_eq] at q
    exact ⟨Or.inl ⟨q, zu_s, rfl⟩, fun i hi => zu_i hi⟩
  · refine ⟨Or.inr ⟨fun w => ?_, rfl, rfl⟩, fun _ _ => rfl⟩
    rw [decide_eq_true w.1, decide_eq_true w.2] at q; cases q
/-- text -/
def tp_tx (V : Int × Int) (T n' k' p' T' r : Int) (n k p : Int) : Prop := (T < 4 ∧ n' = 0 ∧ k' = V.1 ∧ (V.1 = 0 → p' = -1 ∧ r = T ∧ T' = T + 1) ∧ (V.1 ≠ 0 → p' = V.2 ∧ r = -1 ∧ T' = T)) ∨ (¬ T < 4 ∧ n' = n ∧ k' = k ∧ p' = p ∧ T' = T ∧ r = -1)
theorem tp_28 {Q : Int → lf_Z → Prop} (hI : iv_A s.1 s.2.2) (hQ : ∀ (r : Int) (s' : lf_Z), iv_A s'.1 s'.2.2 → lf_fq [0, 31, 33, 35, 36, 37, 38, 39, 40, 41, 42, 43, 44, 45, 46, 47, 48, 49, 50, 51, 52, 53, 54, 55, 56, 57, 58, 59, 60, 61, 62] 1000000 false s.1 s.2.2 s'.1 s'.2.2 → (tp_tx (tx_v (s.1 32) (s.1 31 1) (fun _ => -1)) (s.1 0 11) (s'.1 31 1) (s'.1 31 2) (s'.1 31 3) (s'.1 0 11) r (s.1 31 1) (s.1 31 2) (s.1 31 3) ∧ s'.1 0 12 = s.1 0 12) → ((-1) ≤ r ∧ r ≤ 3) → Q r s') : fm_28 Q s := by
  refine cj_28 (Q1 := fun r s' => iv_A s'.1 s'.2.2 ∧ lf_fq [0, 31, 33, 35, 36, 37, 38, 39, 40, 41, 42, 43, 44, 45, 46, 47, 48, 49, 50, 51, 52, 53, 54, 55, 56, 57, 58, 59, 60, 61, 62] 1000000 false s.1 s.2.2 s'.1 s'.2.2 ∧ ((-1) ≤ r ∧ r ≤ 3)) (Q2 := fun r s' => tp_tx (tx_v (s.1 32) (s.1 31 1) (fun _ => -1)) (s.1 0 11) (s'.1 31 1) (s'.1 31 2) (s'.1 31 3) (s'.1 0 11) r (s.1 31 1) (s.1 31 2) (s.1 31 3) ∧ s'.1 0 12 = s.1 0 12) (fun r s' h1 h2 => hQ r s' h1.1 h1.2.1 h2 h1.2.2) (sm_28 hI (fun r s' h1 h2 h3 => ⟨h1, h2, h3⟩)) ?_
  refine fl_28 (fun i _ _ => iv_r32 hI i) (fun q => ⟨Or.inr ⟨q, rfl, rfl, rfl, rfl, rfl⟩, rfl⟩) (fun q g t v hg h1 h2 h0 h3 h4 h5 => ?_)
  have e : tx_v (s.1 32) (s.1 31 1) g = tx_v (s.1 32) (s.1 31 1) (fun _ => -1) := lg_v (fun j a b => hg j a b)
  rw [e] at h3 h4 h5
  exact ⟨Or.inl ⟨q, h2, h3, h4, h5⟩, h0 12 (by decide)⟩
theorem tp_195 {Q : Int → lf_Z → Prop} (hI : iv_A s.1 s.2.2) (hQ : ∀ (r : Int) (s' : lf_Z), iv_A s'.1 s'.2.2 → lf_fq [95, 96, 98, 100, 101, 102, 103, 1003] 7 true s.1 s.2.2 s'.1 s'.2.2 → (tp_tx (tx_v (s.1 99) (s.1 95 4) (fun _ => -1)) (s.1 96 7) (s'.1 95 4) (s'.1 95 5) (s'.1 95 6) (s'.1 96 7) r (s.1 95 4) (s.1 95 5) (s.1 95 6) ∧ s'.1 96 8 = s.1 96 8) → ((-1) ≤ r ∧ r ≤ 4) → Q r s') : fm_195 Q s := by
  refine cj_195 (Q1 := fun r s' => iv_A s'.1 s'.2.2 ∧ lf_fq [95, 96, 98, 100, 101, 102, 103, 1003] 7 true s.1 s.2.2 s'.1 s'.2.2 ∧ ((-1) ≤ r ∧ r ≤ 4)) (Q2 := fun r s' => tp_tx (tx_v (s.1 99) (s.1 95 4) (fun _ => -1)) (s.1 96 7) (s'.1 95 4) (s'.1 95 5) (s'.1 95 6) (s'.1 96 7) r (s.1 95 4) (s.1 95 5) (s.1 95 6) ∧ s'.1 96 8 = s.1 96 8) (fun r s' h1 h2 => hQ r s' h1.1 h1.2.1 h2 h1.2.2) (sm_195 hI (fun r s' h1 h2 h3 => ⟨h1, h2, h3⟩)) ?_
  have b7 : 0 ≤ s.1 96 7 ∧ s.1 96 7 ≤ 4 := iv_rd96 hI (iv_ffb272d5f (by omega))
  have b4 : 0 ≤ s.1 95 4 ∧ s.1 95 4 ≤ 300 := iv_r95_4 hI
  refine fl_195 b4.2 (fun i _ _ => iv_r99 hI i) (fun q => ⟨Or.inr ⟨by omega, rfl, rfl, rfl, rfl, rfl⟩, rfl⟩) (fun q w t h99 h4 h5 h6 h7 => ?_)
  refine ⟨Or.inl ⟨by omega, h4, h5, fun y => ?_, fun y => ?_⟩, ?_⟩
  · obtain ⟨a1, a2, a3, _⟩ := h6 y
    exact ⟨a1, a2, a3⟩
  · obtain ⟨a1, a2, a3⟩ := h7 y
    exact ⟨a1, a2, congrFun a3 7⟩
  · by_cases y : (tx_v (s.1 99) (s.1 95 4) (fun _ => -1)).1 = 0
    · exact (h6 y).2.2.2 8 (by decide)
    · exact congrFun (h7 y).2.2 8
/-- fault -/
def tp_fv (f : Int → Int) (a : Int) : Int := if a = 0 then f 5 else if a = 1 then f 6 else -1
/-- by -/
def tp_by (a T u u' : Int) (z : Bool) : Prop := ((-1 ≤ a ∧ a ≤ T - 1) ∧ u' = a ∧ z = true) ∨ (¬ (-1 ≤ a ∧ a ≤ T - 1) ∧ u' = u ∧ z = false)
theorem fl_62 {a : Int} {Q : Option Nat → lf_Z → Prop} (h : ∀ o, Q o s) : fw_62 a Q s := by
  unfold fw_62
  refine fl_15 ⟨fun _ => ?_, fun _ _ => ⟨fun _ => ?_, fun _ _ t _ => h _⟩⟩
  · unfold fw_62_p28; exact h _
  · unfold fw_62_p28; exact h _
theorem fl_61 {a : Int} {Q : lf_Z → Prop} (h : ∀ p, Q (lf_up s.1 0 12 a, s.2.1, p)) : fw_61 a Q s := by
  unfold fw_61
  exact fl_62 (fun o => ⟨fun _ => h _, fun t _ _ => h _⟩)
theorem tp_60 {a : Int} {Q : Bool → lf_Z → Prop} (hI : iv_A s.1 s.2.2) (ba1 : (-2147483648) ≤ a ∧ a ≤ 2147483647) (hQ : ∀ (z : Bool) (s' : lf_Z), iv_A s'.1 s'.2.2 → lf_fq [0] 1000000 false s.1 s.2.2 s'.1 s'.2.2 → (tp_by a (s.1 0 11) (s.1 0 12) (s'.1 0 12) z ∧ s'.1 0 11 = s.1 0 11) → Q z s') : fm_60 a Q s := by
  refine cj_60 (Q1 := fun z s' => iv_A s'.1 s'.2.2 ∧ lf_fq [0] 1000000 false s.1 s.2.2 s'.1 s'.2.2) (Q2 := fun z s' => tp_by a (s.1 0 11) (s.1 0 12) (s'.1 0 12) z ∧ s'.1 0 11 = s.1 0 11) (fun z s' h1 h2 => hQ z s' h1.1 h1.2 h2) (sm_60 hI ba1 (fun z s' h1 h2 => ⟨h1, h2⟩)) ?_
  unfold fw_60
  refine fl_15 ⟨fun q => fl_61 (fun p => ?_), fun q => ?_⟩
  · rw [Bool.and_eq_true, decide_eq_true_eq, decide_eq_true_eq] at q
    exact ⟨Or.inl ⟨q, zu_s, rfl⟩, zu_i (by decide)⟩
  · refine ⟨Or.inr ⟨fun w => ?_, rfl, rfl⟩, rfl⟩
    rw [decide_eq_true w.1, decide_eq_true w.2] at q; cases q
theorem tp_237 {a : Int} {Q : Bool → lf_Z → Prop} (hI : iv_A s.1 s.2.2) (ba1 : (-2147483648) ≤ a ∧ a ≤ 2147483647) (hQ : ∀ (z : Bool) (s' : lf_Z), iv_A s'.1 s'.2.2 → lf_fq [96, 1003] 8 true s.1 s.2.2 s'.1 s'.2.2 → (tp_by a (s.1 96 7) (s.1 96 8) (s'.1 96 8) z ∧ s'.1 96 7 = s.1 96 7) → Q z s') : fm_237 a Q s := by
  refine cj_237 (Q1 := fun z s' => iv_A s'.1 s'.2.2 ∧ lf_fq [96, 1003] 8 true s.1 s.2.2 s'.1 s'.2.2) (Q2 := fun z s' => tp_by a (s.1 96 7) (s.1 96 8) (s'.1 96 8) z ∧ s'.1 96 7 = s.1 96 7) (fun z s' h1 h2 => hQ z s' h1.1 h1.2 h2) (sm_237 hI ba1 (fun z s' h1 h2 => ⟨h1, h2⟩)) ?_
  unfold fw_237
  refine fl_183 ⟨fun q => ?_, fun q => ?_⟩
  · rw [Bool.and_eq_true, decide_eq_true_eq, decide_eq_true_eq] at q
    exact ⟨Or.inl ⟨q, zu_s, rfl⟩, zu_i (by decide)⟩
  · refine ⟨Or.inr ⟨fun w => ?_, rfl, rfl⟩, rfl⟩
    rw [decide_eq_true w.1, decide_eq_true w.2] at q; cases q
theorem tp_61 {a1 : Int} {Q : lf_Z → Prop} {s : lf_Z} (hI : iv_A s.1 s.2.2) (ba1 : (-1) ≤ a1 ∧ a1 ≤ 3) (hQ : ∀  (s' : lf_Z), iv_A s'.1 s'.2.2 → lf_fq [0] 1000000 false s.1 s.2.2 s'.1 s'.2.2 → (s'.1 0 11 = s.1 0 11 ∧ s'.1 0 12 = a1) → Q  s') : fm_61 a1 Q s := by
  refine cj_61 (Q1 := fun s' => iv_A s'.1 s'.2.2 ∧ lf_fq [0] 1000000 false s.1 s.2.2 s'.1 s'.2.2) (Q2 := fun s' => s'.1 0 11 = s.1 0 11 ∧ s'.1 0 12 = a1) (fun s' h1 h2 => hQ s' h1.1 h1.2 h2) (sm_61 hI ba1 (fun s' h1 h2 => ⟨h1, h2⟩)) ?_
  exact fl_61 (fun p => ⟨zu_i (by decide), zu_s⟩)
theorem tp_173 {Q : Int → lf_Z → Prop} {s : lf_Z} (hI : iv_A s.1 s.2.2) (hQ : ∀ (r : Int) (s' : lf_Z), iv_A s'.1 s'.2.2 → lf_fq [78, 79, 80, 81, 82, 83, 84, 85, 86, 87, 88, 89, 90, 91, 92, 93, 94] 1000000 true s.1 s.2.2 s'.1 s'.2.2 → (s'.1 78 3 = s.1 0 11 ∧ s'.1 78 4 = s.1 0 12) → ((-2147483648) ≤ r ∧ r ≤ 2147483647) → Q r s') : fm_173 Q s := by
  unfold fm_173
  have b1 : 0 ≤ s.1 1 0 ∧ s.1 1 0 ≤ 12 := iv_r1_0 hI
  have hI2 : iv_A (lf_up s.1 78 0 (s.1 1 0)) s.2.2 := iv_w78_0 hI (by omega)
  have fr3 : lf_fq [78, 79, 80, 81, 82, 83, 84, 85, 86, 87, 88, 89, 90, 91, 92, 93, 94] 1000000 true s.1 s.2.2 (lf_up s.1 78 0 (s.1 1 0)) s.2.2 := lf_fq_up (lf_fq_rf) rfl (fun h => absurd h (by decide))
  have b4 : 0 ≤ s.1 1 1 ∧ s.1 1 1 ≤ 16 := (show 0 ≤ (lf_up s.1 78 0 (s.1 1 0)) 1 1 ∧ (lf_up s.1 78 0 (s.1 1 0)) 1 1 ≤ 16 from iv_r1_1 hI2)
  have hI5 : iv_A (lf_up (lf_up s.1 78 0 (s.1 1 0)) 78 1 (s.1 1 1)) s.2.2 := iv_w78_1 hI2 (by omega)
  have fr6 : lf_fq [78, 79, 80, 81, 82, 83, 84, 85, 86, 87, 88, 89, 90, 91, 92, 93, 94] 1000000 true s.1 s.2.2 (lf_up (lf_up s.1 78 0 (s.1 1 0)) 78 1 (s.1 1 1)) s.2.2 := lf_fq_up fr3 rfl (fun h => absurd h (by decide))
  have b7 : 0 ≤ s.1 1 2 ∧ s.1 1 2 ≤ 6 := (show 0 ≤ (lf_up (lf_up s.1 78 0 (s.1 1 0)) 78 1 (s.1 1 1)) 1 2 ∧ (lf_up (lf_up s.1 78 0 (s.1 1 0)) 78 1 (s.1 1 1)) 1 2 ≤ 6 from iv_r1_2 hI5)
  have hI8 : iv_A (lf_up (lf_up (lf_up s.1 78 0 (s.1 1 0)) 78 1 (s.1 1 1)) 78 2 (s.1 1 2)) s.2.2 := iv_w78_2 hI5 (by omega)
  have fr9 : lf_fq [78, 79, 80, 81, 82, 83, 84, 85, 86, 87, 88, 89, 90, 91, 92, 93, 94] 1000000 true s.1 s.2.2 (lf_up (lf_up (lf_up s.1 78 0 (s.1 1 0)) 78 1 (s.1 1 1)) 78 2 (s.1 1 2)) s.2.2 := lf_fq_up fr6 rfl (fun h => absurd h (by decide))
  have b10 : 0 ≤ s.1 0 11 ∧ s.1 0 11 ≤ 4 := (show 0 ≤ (lf_up (lf_up (lf_up s.1 78 0 (s.1 1 0)) 78 1 (s.1 1 1)) 78 2 (s.1 1 2)) 0 11 ∧ (lf_up (lf_up (lf_up s.1 78 0 (s.1 1 0)) 78 1 (s.1 1 1)) 78 2 (s.1 1 2)) 0 11 ≤ 4 from iv_r0_11 hI8)
  have hI11 : iv_A (lf_up (lf_up (lf_up (lf_up s.1 78 0 (s.1 1 0)) 78 1 (s.1 1 1)) 78 2 (s.1 1 2)) 78 3 (s.1 0 11)) s.2.2 := iv_w78_3 hI8 (by omega)
  have fr12 : lf_fq [78, 79, 80, 81, 82, 83, 84, 85, 86, 87, 88, 89, 90, 91, 92, 93, 94] 1000000 true s.1 s.2.2 (lf_up (lf_up (lf_up (lf_up s.1 78 0 (s.1 1 0)) 78 1 (s.1 1 1)) 78 2 (s.1 1 2)) 78 3 (s.1 0 11)) s.2.2 := lf_fq_up fr9 rfl (fun h => absurd h (by decide))
  have b13 : (-1) ≤ s.1 0 12 ∧ s.1 0 12 ≤ 3 := (show (-1) ≤ (lf_up (lf_up (lf_up (lf_up s.1 78 0 (s.1 1 0)) 78 1 (s.1 1 1)) 78 2 (s.1 1 2)) 78 3 (s.1 0 11)) 0 12 ∧ (lf_up (lf_up (lf_up (lf_up s.1 78 0 (s.1 1 0)) 78 1 (s.1 1 1)) 78 2 (s.1 1 2)) 78 3 (s.1 0 11)) 0 12 ≤ 3 from iv_r0_12 hI11)
  have hI14 : iv_A (lf_up (lf_up (lf_up (lf_up (lf_up s.1 78 0 (s.1 1 0)) 78 1 (s.1 1 1)) 78 2 (s.1 1 2)) 78 3 (s.1 0 11)) 78 4 (s.1 0 12)) s.2.2 := iv_w78_4 hI11 (by omega)
  have fr15 : lf_fq [78, 79, 80, 81, 82, 83, 84, 85, 86, 87, 88, 89, 90, 91, 92, 93, 94] 1000000 true s.1 s.2.2 (lf_up (lf_up (lf_up (lf_up (lf_up s.1 78 0 (s.1 1 0)) 78 1 (s.1 1 1)) 78 2 (s.1 1 2)) 78 3 (s.1 0 11)) 78 4 (s.1 0 12)) s.2.2 := lf_fq_up fr12 rfl (fun h => absurd h (by decide))
  refine sm_174 hI14 (fun s21 hI17 fr16 => ?_)
  have fr19 : lf_fq [78, 79, 80, 81, 82, 83, 84, 85, 86, 87, 88, 89, 90, 91, 92, 93, 94] 1000000 true s.1 s.2.2 s21.1 s21.2.2 := lf_fq_tr fr15 (lf_fq_wk fr16 rfl (by decide) (by decide))
  refine sm_175 hI17 (fun s22 hI21 fr20 => ?_)
  have fr23 : lf_fq [78, 79, 80, 81, 82, 83, 84, 85, 86, 87, 88, 89, 90, 91, 92, 93, 94] 1000000 true s.1 s.2.2 s22.1 s22.2.2 := lf_fq_tr fr19 (lf_fq_wk fr20 rfl (by decide) (by decide))
  refine sm_176 hI21 (fun s23 hI25 fr24 => ?_)
  have fr27 : lf_fq [78, 79, 80, 81, 82, 83, 84, 85, 86, 87, 88, 89, 90, 91, 92, 93, 94] 1000000 true s.1 s.2.2 s23.1 s23.2.2 := lf_fq_tr fr23 (lf_fq_wk fr24 rfl (by decide) (by decide))
  have b28 : (-2147483648) ≤ s23.1 15 7 ∧ s23.1 15 7 ≤ 2147483647 := iv_full hI25
  have b29 : s23.1 15 7 = s22.1 15 7 := congrFun (fr24.1 15 rfl) _
  have b30 : s22.1 15 7 = s21.1 15 7 := congrFun (fr20.1 15 rfl) _
  have b31 : s21.1 15 7 = s.1 15 7 := congrFun (fr16.1 15 rfl) _
  exact hQ (s23.1 15 7) s23 hI25 fr27 (by rw [fr24.1 78 rfl, fr20.1 78 rfl, fr16.1 78 rfl]; first | exact ⟨(lf_up_i (by decide)).trans lf_up_s, lf_up_s⟩ | exact ⟨(zu_i (by decide)).trans lf_up_s, zu_s⟩) (show (-2147483648 : Int) ≤ s23.1 15 7 ∧ s23.1 15 7 ≤ (2147483647 : Int) from by omega)
theorem tp_177 {Q : Int → lf_Z → Prop} {s : lf_Z} (hI : iv_A s.1 s.2.2) (hQ : ∀ (r : Int) (s' : lf_Z), iv_A s'.1 s'.2.2 → lf_fq [0, 1, 11, 12, 13, 15, 16, 17, 18, 19, 20, 21, 22, 23, 24, 25, 26, 27, 28, 29, 30] 1000000 false s.1 s.2.2 s'.1 s'.2.2 → (s'.1 0 11 = s.1 78 3 ∧ s'.1 0 12 = s.1 78 4) → ((-2147483648) ≤ r ∧ r ≤ 2147483647) → Q r s') : fm_177 Q s := by
  unfold fm_177
  have b1 : 0 ≤ s.1 78 0 ∧ s.1 78 0 ≤ 12 := iv_r78_0 hI
  have b2 : 0 ≤ s.1 78 1 ∧ s.1 78 1 ≤ 16 := iv_r78_1 hI
  have b3 : 0 ≤ s.1 78 2 ∧ s.1 78 2 ≤ 6 := iv_r78_2 hI
  refine sm_178 hI (show (0 : Int) ≤ s.1 78 0 ∧ s.1 78 0 ≤ (12 : Int) from by omega) (show (0 : Int) ≤ s.1 78 1 ∧ s.1 78 1 ≤ (16 : Int) from by omega) (show (0 : Int) ≤ s.1 78 2 ∧ s.1 78 2 ≤ (6 : Int) from by omega) (fun s21 hI5 fr4 => ?_)
  have fr7 : lf_fq [0, 1, 11, 12, 13, 15, 16, 17, 18, 19, 20, 21, 22, 23, 24, 25, 26, 27, 28, 29, 30] 1000000 false s.1 s.2.2 s21.1 s21.2.2 := lf_fq_tr (lf_fq_rf) (lf_fq_wk fr4 rfl (by decide) (by decide))
  have b8 : 0 ≤ s21.1 78 3 ∧ s21.1 78 3 ≤ 4 := iv_r78_3 hI5
  have b9 : s21.1 78 3 = s.1 78 3 := congrFun (fr4.1 78 rfl) _
  have hI10 : iv_A (lf_up s21.1 0 11 (s21.1 78 3)) s21.2.2 := iv_w0_11 hI5 (by omega)
  have fr11 : lf_fq [0, 1, 11, 12, 13, 15, 16, 17, 18, 19, 20, 21, 22, 23, 24, 25, 26, 27, 28, 29, 30] 1000000 false s.1 s.2.2 (lf_up s21.1 0 11 (s21.1 78 3)) s21.2.2 := lf_fq_up fr7 rfl (fun h => absurd h (by decide))
  have b12 : (-1) ≤ s21.1 78 4 ∧ s21.1 78 4 ≤ 3 := (show (-1) ≤ (lf_up s21.1 0 11 (s21.1 78 3)) 78 4 ∧ (lf_up s21.1 0 11 (s21.1 78 3)) 78 4 ≤ 3 from iv_r78_4 hI10)
  have b13 : s21.1 78 4 = s.1 78 4 := congrFun (fr4.1 78 rfl) _
  refine tp_61 hI10 (show (-1 : Int) ≤ s21.1 78 4 ∧ s21.1 78 4 ≤ (3 : Int) from by omega) (fun s22 hI15 fr14 ps9 => ?_)
  have fr17 : lf_fq [0, 1, 11, 12, 13, 15, 16, 17, 18, 19, 20, 21, 22, 23, 24, 25, 26, 27, 28, 29, 30] 1000000 false s.1 s.2.2 s22.1 s22.2.2 := lf_fq_tr fr11 (lf_fq_wk fr14 rfl (by decide) (by decide))
  refine sm_174b hI15 (fun s23 hI19 fr18 => ?_)
  have fr21 : lf_fq [0, 1, 11, 12, 13, 15, 16, 17, 18, 19, 20, 21, 22, 23, 24, 25, 26, 27, 28, 29, 30] 1000000 false s.1 s.2.2 s23.1 s23.2.2 := lf_fq_tr fr17 (lf_fq_wk fr18 rfl (by decide) (by decide))
  refine sm_175b hI19 (fun s24 hI23 fr22 => ?_)
  have fr25 : lf_fq [0, 1, 11, 12, 13, 15, 16, 17, 18, 19, 20, 21, 22, 23, 24, 25, 26, 27, 28, 29, 30] 1000000 false s.1 s.2.2 s24.1 s24.2.2 := lf_fq_tr fr21 (lf_fq_wk fr22 rfl (by decide) (by decide))
  refine sm_176b hI23 (fun s25 hI27 fr26 => ?_)
  have fr29 : lf_fq [0, 1, 11, 12, 13, 15, 16, 17, 18, 19, 20, 21, 22, 23, 24, 25, 26, 27, 28, 29, 30] 1000000 false s.1 s.2.2 s25.1 s25.2.2 := lf_fq_tr fr25 (lf_fq_wk fr26 rfl (by decide) (by decide))
  have b30 : (-2147483648) ≤ s25.1 15 7 ∧ s25.1 15 7 ≤ 2147483647 := iv_full hI27
  have b31 : s25.1 15 7 = s24.1 15 7 := congrFun (fr26.1 15 rfl) _
  have b32 : s24.1 15 7 = s23.1 15 7 := congrFun (fr22.1 15 rfl) _
  exact hQ (s25.1 15 7) s25 hI27 fr29 (by rw [fr26.1 0 rfl, fr22.1 0 rfl, fr18.1 0 rfl, ps9.1, ps9.2]; first | exact ⟨lf_up_s.trans b9, b13⟩ | exact ⟨zu_s.trans b9, b13⟩) (show (-2147483648 : Int) ≤ s25.1 15 7 ∧ s25.1 15 7 ≤ (2147483647 : Int) from by omega)
/-! the relation -/
def tp_A (I : Nat → Int → Int) : Prop := I 31 1 = I 95 4 ∧ I 32 = I 99 ∧ I 0 11 = I 96 7 ∧ I 0 12 = I 96 8 ∧ I 31 2 = I 95 5 ∧ I 31 3 = I 95 6 ∧ I 78 3 = I 97 7 ∧ I 78 4 = I 97 8
theorem tp_fq (h : tp_A I) (q : lf_fq l w bb I P I' P') (hl : (l.contains 0 || l.contains 31 || l.contains 32 || l.contains 78 || l.contains 95 || l.contains 97 || l.contains 99 || l.contains 1003) = false) : tp_A I' := by
  simp only [Bool.or_eq_false_iff] at hl
  obtain ⟨⟨⟨⟨⟨⟨⟨a1, a2⟩, a3⟩, a4⟩, a5⟩, a6⟩, a7⟩, a8⟩ := hl
  unfold tp_A
  rw [q.1 0 a1, q.1 31 a2, q.1 32 a3, q.1 78 a4, q.1 95 a5, q.1 97 a6, q.1 99 a7, q.2.2.2 3 a8 7 (Or.inl rfl), q.2.2.2 3 a8 8 (Or.inr rfl)]
  exact h
/-- stopped and home of the reference -/
theorem tp_sq (h : tp_A I) (q : lf_fq [95, 104, 107, 111, 112] w bb I P I' P') (m : ∀ i : Int, 4 ≤ i → i ≤ 6 → I' 95 i = I 95 i) : tp_A I' := by
  unfold tp_A
  rw [q.1 0 rfl, q.1 31 rfl, q.1 32 rfl, q.1 78 rfl, q.1 97 rfl, q.1 99 rfl, q.1 96 rfl, m 4 (by decide) (by decide), m 5 (by decide) (by decide), m 6 (by decide) (by decide)]
  exact h
/-- between feed of the class and of the reference -/
def tp_FM (a b c d e r : Int) (I : Nat → Int → Int) : Prop := tp_fd a b c d e (I 99) (I 95 4) (I 32) (I 31 1) r ∧ I 0 11 = I 96 7 ∧ I 0 12 = I 96 8 ∧ I 31 2 = I 95 5 ∧ I 31 3 = I 95 6 ∧ I 78 3 = I 97 7 ∧ I 78 4 = I 97 8
theorem tp_f1 {a b c d e r : Int} (h : tp_A I) (q : lf_fq [31, 32] w bb I P I' P') (p : tp_fd a b c d e (I 32) (I 31 1) (I' 32) (I' 31 1) r ∧ ∀ i : Int, i ≠ 1 → I' 31 i = I 31 i) : tp_FM a b c d e r I' := by
  obtain ⟨h1, h2, h3⟩ := h
  obtain ⟨p1, p2⟩ := p
  unfold tp_FM
  rw [q.1 0 rfl, q.1 96 rfl, q.1 95 rfl, q.1 99 rfl, q.1 78 rfl, q.1 97 rfl, p2 2 (by decide), p2 3 (by decide), ← h1, ← h2]
  exact ⟨p1, h3⟩
theorem tp_f2 {a b c d e r r' : Int} (h : tp_FM a b c d e r I) (q : lf_fq [95, 99] w bb I P I' P') (p : tp_fd a b c d e (I 99) (I 95 4) (I' 99) (I' 95 4) r' ∧ ∀ i : Int, i ≠ 4 → I' 95 i = I 95 i) : r = r' ∧ tp_A I' := by
  obtain ⟨h1, h3⟩ := h
  obtain ⟨p1, p2⟩ := p
  have key : r = r' ∧ I 31 1 = I' 95 4 ∧ I 32 = I' 99 := by
    rcases h1 with ⟨a1, a2, a3, a4⟩ | ⟨a1, a2, a3, a4⟩
    · rcases p1 with ⟨b1, b2, b3, b4⟩ | ⟨b1, _⟩
      · exact ⟨by omega, by omega, by rw [a2, b2]⟩
      · exact absurd a1 b1
    · rcases p1 with ⟨b1, _⟩ | ⟨b1, b2, b3, b4⟩
      · exact absurd b1 a1
      · exact ⟨by omega, by omega, by rw [a2, b2]⟩
  refine ⟨key.1, ?_⟩
  unfold tp_A
  rw [q.1 0 rfl, q.1 96 rfl, q.1 31 rfl, q.1 32 rfl, q.1 78 rfl, q.1 97 rfl, p2 5 (by decide), p2 6 (by decide)]
  exact ⟨key.2.1, key.2.2, h3⟩
def tp_EM (a r : Int) (I : Nat → Int → Int) : Prop := tp_en a (I 95 4) (I 31 1) r ∧ I 32 = I 99 ∧ I 0 11 = I 96 7 ∧ I 0 12 = I 96 8 ∧ I 31 2 = I 95 5 ∧ I 31 3 = I 95 6 ∧ I 78 3 = I 97 7 ∧ I 78 4 = I 97 8
theorem tp_e1 {a r : Int} (h : tp_A I) (q : lf_fq [31] w bb I P I' P') (p : tp_en a (I 31 1) (I' 31 1) r ∧ ∀ i : Int, i ≠ 1 → I' 31 i = I 31 i) : tp_EM a r I' := by
  obtain ⟨h1, h2, h3⟩ := h
  obtain ⟨p1, p2⟩ := p
  unfold tp_EM
  rw [q.1 0 rfl, q.1 96 rfl, q.1 95 rfl, q.1 99 rfl, q.1 32 rfl, q.1 78 rfl, q.1 97 rfl, p2 2 (by decide), p2 3 (by decide), ← h1, ← h2]
  exact ⟨p1, rfl, h3⟩
theorem tp_e2 {a r r' : Int} (h : tp_EM a r I) (q : lf_fq [95] w bb I P I' P') (p : tp_en a (I 95 4) (I' 95 4) r' ∧ ∀ i : Int, i ≠ 4 → I' 95 i = I 95 i) : r = r' ∧ tp_A I' := by
  obtain ⟨h1, h2, h3⟩ := h
  obtain ⟨p1, p2⟩ := p
  have key : r = r' ∧ I 31 1 = I' 95 4 := by
    unfold tp_en at h1 p1
    omega
  refine ⟨key.1, ?_⟩
  unfold tp_A
  rw [q.1 0 rfl, q.1 96 rfl, q.1 31 rfl, q.1 32 rfl, q.1 78 rfl, q.1 97 rfl, q.1 99 rfl, p2 5 (by decide), p2 6 (by decide)]
  exact ⟨key.2, h2, h3⟩
def tp_TM (r : Int) (I : Nat → Int → Int) : Prop := tp_tx (tx_v (I 99) (I 95 4) (fun _ => -1)) (I 96 7) (I 31 1) (I 31 2) (I 31 3) (I 0 11) r (I 95 4) (I 95 5) (I 95 6) ∧ I 32 = I 99 ∧ I 0 12 = I 96 8 ∧ I 78 3 = I 97 7 ∧ I 78 4 = I 97 8
theorem tp_t1 {r : Int} (h : tp_A I) (q : lf_fq [0, 31, 33, 35, 36, 37, 38, 39, 40, 41, 42, 43, 44, 45, 46, 47, 48, 49, 50, 51, 52, 53, 54, 55, 56, 57, 58, 59, 60, 61, 62] w bb I P I' P') (p : tp_tx (tx_v (I 32) (I 31 1) (fun _ => -1)) (I 0 11) (I' 31 1) (I' 31 2) (I' 31 3) (I' 0 11) r (I 31 1) (I 31 2) (I 31 3) ∧ I' 0 12 = I 0 12) : tp_TM r I' := by
  obtain ⟨h1, h2, h3, h4, h5, h6, h7⟩ := h
  obtain ⟨p1, p2⟩ := p
  rw [h1, h2, h3, h5, h6] at p1
  unfold tp_TM
  rw [q.1 96 rfl, q.1 95 rfl, q.1 99 rfl, q.1 32 rfl, q.1 78 rfl, q.1 97 rfl, p2]
  exact ⟨p1, h2, h4, h7⟩
theorem tp_t2 {r r' : Int} (h : tp_TM r I) (q : lf_fq [95, 96, 98, 100, 101, 102, 103, 1003] w bb I P I' P') (p : tp_tx (tx_v (I 99) (I 95 4) (fun _ => -1)) (I 96 7) (I' 95 4) (I' 95 5) (I' 95 6) (I' 96 7) r' (I 95 4) (I 95 5) (I 95 6) ∧ I' 96 8 = I 96 8) : r = r' ∧ tp_A I' := by
  obtain ⟨h1, h2, h3, h4⟩ := h
  obtain ⟨p1, p2⟩ := p
  have key : r = r' ∧ I 31 1 = I' 95 4 ∧ I 0 11 = I' 96 7 ∧ I 31 2 = I' 95 5 ∧ I 31 3 = I' 95 6 := by
    generalize tx_v (I 99) (I 95 4) (fun _ => -1) = V at h1 p1
    rcases h1 with ⟨a1, a2, a3, a4, a5⟩ | ⟨a1, a2, a3, a4, a5, a6⟩
    · rcases p1 with ⟨b1, b2, b3, b4, b5⟩ | ⟨b1, _⟩
      · by_cases y : V.1 = 0
        · have := a4 y; have := b4 y; omega
        · have := a5 y; have := b5 y; omega
      · exact absurd a1 b1
    · rcases p1 with ⟨b1, _⟩ | ⟨b1, b2, b3, b4, b5, b6⟩
      · exact absurd b1 a1
      · omega
  refine ⟨key.1, ?_⟩
  unfold tp_A
  rw [q.1 0 rfl, q.1 31 rfl, q.1 32 rfl, q.1 78 rfl, q.1 97 rfl, q.1 99 rfl, p2]
  exact ⟨key.2.1, h2, key.2.2.1, h3, key.2.2.2.1, key.2.2.2.2, h4⟩
def tp_BM (a : Int) (z : Bool) (I : Nat → Int → Int) : Prop := tp_by a (I 96 7) (I 96 8) (I 0 12) z ∧ I 31 1 = I 95 4 ∧ I 32 = I 99 ∧ I 0 11 = I 96 7 ∧ I 31 2 = I 95 5 ∧ I 31 3 = I 95 6 ∧ I 78 3 = I 97 7 ∧ I 78 4 = I 97 8
theorem tp_b1 {a : Int} {z : Bool} (h : tp_A I) (q : lf_fq [0] w bb I P I' P') (p : tp_by a (I 0 11) (I 0 12) (I' 0 12) z ∧ I' 0 11 = I 0 11) : tp_BM a z I' := by
  obtain ⟨h1, h2, h3, h4, h5⟩ := h
  obtain ⟨p1, p2⟩ := p
  rw [h3, h4] at p1
  unfold tp_BM
  rw [q.1 31 rfl, q.1 32 rfl, q.1 96 rfl, q.1 95 rfl, q.1 99 rfl, q.1 78 rfl, q.1 97 rfl, p2]
  exact ⟨p1, h1, h2, h3, h5⟩
theorem tp_b2 {a : Int} {z z' : Bool} (h : tp_BM a z I) (q : lf_fq [96, 1003] w bb I P I' P') (p : tp_by a (I 96 7) (I 96 8) (I' 96 8) z' ∧ I' 96 7 = I 96 7) : z = z' ∧ tp_A I' := by
  obtain ⟨h1, h2, h3, h4, h5⟩ := h
  obtain ⟨p1, p2⟩ := p
  have key : z = z' ∧ I 0 12 = I' 96 8 := by
    rcases h1 with ⟨a1, a2, a3⟩ | ⟨a1, a2, a3⟩
    · rcases p1 with ⟨b1, b2, b3⟩ | ⟨b1, _⟩
      · exact ⟨a3.trans b3.symm, a2.trans b2.symm⟩
      · exact absurd a1 b1
    · rcases p1 with ⟨b1, _⟩ | ⟨b1, b2, b3⟩
      · exact absurd b1 a1
      · exact ⟨a3.trans b3.symm, a2.trans b2.symm⟩
  refine ⟨key.1, ?_⟩
  unfold tp_A
  rw [q.1 0 rfl, q.1 31 rfl, q.1 32 rfl, q.1 78 rfl, q.1 95 rfl, q.1 97 rfl, q.1 99 rfl, p2]
  exact ⟨h2, h3, h4, key.2, h5⟩
theorem tp_f3 {a b c d e r' : Int} (h : ∃ r, tp_FM a b c d e r I) (q : lf_fq [95, 99] w bb I P I' P') (p : tp_fd a b c d e (I 99) (I 95 4) (I' 99) (I' 95 4) r' ∧ ∀ i : Int, i ≠ 4 → I' 95 i = I 95 i) : tp_A I' := h.elim (fun _ h => (tp_f2 h q p).2)
theorem tp_e3 {a r' : Int} (h : ∃ r, tp_EM a r I) (q : lf_fq [95] w bb I P I' P') (p : tp_en a (I 95 4) (I' 95 4) r' ∧ ∀ i : Int, i ≠ 4 → I' 95 i = I 95 i) : tp_A I' := h.elim (fun _ h => (tp_e2 h q p).2)
theorem tp_t3 {r' : Int} (h : ∃ r, tp_TM r I) (q : lf_fq [95, 96, 98, 100, 101, 102, 103, 1003] w bb I P I' P') (p : tp_tx (tx_v (I 99) (I 95 4) (fun _ => -1)) (I 96 7) (I' 95 4) (I' 95 5) (I' 95 6) (I' 96 7) r' (I 95 4) (I 95 5) (I 95 6) ∧ I' 96 8 = I 96 8) : tp_A I' := h.elim (fun _ h => (tp_t2 h q p).2)
theorem tp_b3 {a : Int} {z' : Bool} (h : ∃ r, tp_BM a r I) (q : lf_fq [96, 1003] w bb I P I' P') (p : tp_by a (I 96 7) (I 96 8) (I' 96 8) z' ∧ I' 96 7 = I 96 7) : tp_A I' := h.elim (fun _ h => (tp_b2 h q p).2)
theorem tp_b4 {a r : Int} {z' : Bool} (h : ∃ z, r = lf_b z ∧ tp_BM a z I) (q : lf_fq [96, 1003] w bb I P I' P') (p : tp_by a (I 96 7) (I 96 8) (I' 96 8) z' ∧ I' 96 7 = I 96 7) : r = lf_b z' ∧ tp_A I' := h.elim (fun z h => ⟨h.1.trans (congrArg lf_b (tp_b2 h.2 q p).1), (tp_b2 h.2 q p).2⟩)
theorem tp_59 {a1 : Int} {Q : Int → lf_Z → Prop} (hI : iv_A s.1 s.2.2) (ba1 : (-2147483648) ≤ a1 ∧ a1 ≤ 2147483647) (hT : tp_A s.1) (hQ : ∀ (r : Int), r = tp_fv (s.1 95) a1 → ((-2147483648) ≤ r ∧ r ≤ 2147483647) → Q r s) : fm_59 a1 Q s := by
  obtain ⟨_, _, _, _, h5, h6, _⟩ := hT
  unfold fm_59
  refine ⟨lf_Rof (by omega), fun c => ⟨fun d => hQ _ ?_ (by decide), fun d => hQ _ ?_ (iv_full hI)⟩, fun c => hQ _ ?_ (iv_full hI)⟩
  · unfold tp_fv; rw [if_neg c, if_neg d]
  · unfold tp_fv; rw [if_neg c, if_pos (Classical.not_not.mp d)]; exact h6
  · unfold tp_fv; rw [if_pos (Classical.not_not.mp c)]; exact h5
theorem tp_236 {a1 : Int} {Q : Int → lf_Z → Prop} (hI : iv_A s.1 s.2.2) (ba1 : (-2147483648) ≤ a1 ∧ a1 ≤ 2147483647) (hQ : ∀ (r : Int), r = tp_fv (s.1 95) a1 → ((-2147483648) ≤ r ∧ r ≤ 2147483647) → Q r s) : fm_236 a1 Q s := by
  unfold fm_236
  refine ⟨lf_Rof (by omega), fun c => ⟨fun d => hQ _ ?_ (by decide), fun d => hQ _ ?_ (iv_full hI)⟩, fun c => hQ _ ?_ (iv_full hI)⟩
  · unfold tp_fv; rw [if_neg c, if_neg d]
  · unfold tp_fv; rw [if_neg c, if_pos (Classical.not_not.mp d)]
  · unfold tp_fv; rw [if_pos (Classical.not_not.mp c)]
/-! image, back -/
def tp_IM (I : Nat → Int → Int) : Prop := I 31 1 = I 95 4 ∧ I 32 = I 99 ∧ I 0 11 = I 96 7 ∧ I 0 12 = I 96 8 ∧ I 31 2 = I 95 5 ∧ I 31 3 = I 95 6 ∧ I 78 3 = I 0 11 ∧ I 78 4 = I 0 12
theorem tp_i1 (h : tp_A I) (q : lf_fq [78, 79, 80, 81, 82, 83, 84, 85, 86, 87, 88, 89, 90, 91, 92, 93, 94] w bb I P I' P') (m : I' 78 3 = I 0 11 ∧ I' 78 4 = I 0 12) : tp_IM I' := by
  obtain ⟨h1, h2, h3, h4, h5, h6, h7⟩ := h
  unfold tp_IM
  rw [q.1 31 rfl, q.1 95 rfl, q.1 32 rfl, q.1 99 rfl, q.1 0 rfl, q.1 96 rfl]
  exact ⟨h1, h2, h3, h4, h5, h6, m.1, m.2⟩
theorem tp_i2 (h : tp_IM I) (q : lf_fq [97] w bb I P I' P') (m : ∀ j : Int, 0 ≤ j → j < 1538 → I' 97 j = I 96 j) : tp_A I' := by
  obtain ⟨h1, h2, h3, h4, h5, h6, h7, h8⟩ := h
  unfold tp_A
  rw [q.1 31 rfl, q.1 95 rfl, q.1 32 rfl, q.1 99 rfl, q.1 0 rfl, q.1 96 rfl, q.1 78 rfl, m 7 (by decide) (by decide), m 8 (by decide) (by decide)]
  exact ⟨h1, h2, h3, h4, h5, h6, h7.trans h3, h8.trans h4⟩
def tp_KM (I : Nat → Int → Int) : Prop := I 31 1 = I 95 4 ∧ I 32 = I 99 ∧ I 31 2 = I 95 5 ∧ I 31 3 = I 95 6 ∧ I 78 3 = I 97 7 ∧ I 78 4 = I 97 8 ∧ I 0 11 = I 78 3 ∧ I 0 12 = I 78 4
theorem tp_k1 (h : tp_A I) (q : lf_fq [0, 1, 11, 12, 13, 15, 16, 17, 18, 19, 20, 21, 22, 23, 24, 25, 26, 27, 28, 29, 30] w bb I P I' P') (m : I' 0 11 = I 78 3 ∧ I' 0 12 = I 78 4) : tp_KM I' := by
  obtain ⟨h1, h2, h3, h4, h5, h6, h7, h8⟩ := h
  unfold tp_KM
  rw [q.1 31 rfl, q.1 95 rfl, q.1 32 rfl, q.1 99 rfl, q.1 78 rfl, q.1 97 rfl]
  exact ⟨h1, h2, h5, h6, h7, h8, m.1, m.2⟩
theorem tp_k2 (h : tp_KM I) (q : lf_fq [96, 1000, 1001, 1002, 1003, 1004, 1005, 1006] w bb I P I' P') (m : ∀ j : Int, 0 ≤ j → j < 1538 → I' 96 j = I 97 j) : tp_A I' := by
  obtain ⟨h1, h2, h3, h4, h5, h6, h7, h8⟩ := h
  unfold tp_A
  rw [q.1 31 rfl, q.1 95 rfl, q.1 32 rfl, q.1 99 rfl, q.1 0 rfl, q.1 97 rfl, q.1 78 rfl, m 7 (by decide) (by decide), m 8 (by decide) (by decide)]
  exact ⟨h1, h2, h7.trans h5, h8.trans h6, h3, h4, h5, h6⟩
end TP
