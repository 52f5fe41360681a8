/-! the list machine: how the reference reads a sum, with its pile as a list (top first; with each entry the letter of a let) -/
section LM
abbrev lm_P : Type := List (Int × Int)
def lm_rk (o : Int) : Int := if 40 ≤ o then 0 else if o = 22 then 1 else if o = 21 then 2 else if o = 20 then 3 else if 10 ≤ o then 4 else if o = 3 then 7 else if 6 ≤ o then 6 else 5
def lm_st (k : Int) : lm_P → lm_P
  | [] => []
  | e :: P => if k ≤ lm_rk e.1 then lm_st k P else e :: P
/-- what is open: how deep -/
def lm_dp : lm_P → Int
  | [] => 0
  | e :: P => (if 40 ≤ e.1 ∨ e.1 = 3 ∨ e.1 = 20 then 1 else 0) + lm_dp P
/-- what is open at last; none: -1 -/
def lm_op : lm_P → Int
  | [] => -1
  | e :: P => if 40 ≤ e.1 then e.1 else lm_op P
/-- whether what is asked at last has been compared -/
def lm_cp : lm_P → Bool
  | [] => false
  | e :: P => if 4 < lm_rk e.1 then lm_cp P else decide (lm_rk e.1 = 4)
def lm_tp : lm_P → Int
  | [] => -1
  | e :: _ => e.1
def lm_ah (P : lm_P) : Bool := decide (lm_op P = 41) && (decide (lm_tp P = 41) || (decide (1 ≤ lm_rk (lm_tp P)) && decide (lm_rk (lm_tp P) ≤ 3)))
/-- the letters that stand -/
def lm_g : lm_P → Int → Int
  | [] => fun _ => -1
  | e :: P => if e.1 = 45 then ds_u1 (lm_g P) e.2 (ds_sl (1 + lm_dp P)) else lm_g P
abbrev lm_S : Type := lm_P × Bool × Int
def lm_pu (f : Int → Int) (n o : Int) (P : lm_P) (b : Int) (k : Int → (Int × Int) ⊕ lm_S) : (Int × Int) ⊕ lm_S := if lm_dp P < 8 then k (ds_ad f n b) else .inl (3, b)
/-- begins one -/
def lm_be (f : Int → Int) (n law : Int) (P : lm_P) (b : Int) : (Int × Int) ⊕ lm_S :=
  if lx_T f n b = 2 then (if lx_V f n b ≤ 9999 then .inr (lm_st 7 P, true, ds_ad f n b) else .inl (2, b))
  else if lx_T f n b = 3 then (if lm_g P (lx_V f n b) ≠ -1 then .inr (lm_st 7 P, true, ds_ad f n b) else .inl (5, b))
  else if lx_T f n b = 11 then lm_pu f n 3 P b (fun c => .inr ((3, 0) :: P, false, c))
  else if lx_T f n b = 14 then lm_pu f n 40 P b (fun c => .inr ((40, 0) :: P, false, c))
  else if lx_T f n b = 37 then lm_pu f n 41 P b (fun c => .inr ((41, 0) :: P, false, c))
  else if lx_T f n b = 41 then lm_pu f n 44 P b (fun c => if lx_T f n c = 3 then (if lx_T f n (ds_ad f n c) = 42 then .inr ((44, lx_V f n c) :: P, false, ds_ad f n (ds_ad f n c)) else .inl (1, ds_ad f n c)) else .inl (1, c))
  else if lx_T f n b = 44 ∧ lm_ah P = true then lm_pu f n 20 P b (fun c => .inr ((20, 0) :: P, false, c))
  else if (ds_name f n law b).1 = 0 then .inr (lm_st 7 P, true, ds_ad f n b) else .inl ((ds_name f n law b).1, b)
/-- what stands between two; none: -1 -/
def lm_bt (t : Int) (P : lm_P) : Int :=
  if t = 10 then 4 else if t = 11 then 5 else if t = 12 then 6 else if t = 13 then 7
  else if lm_op P ≠ 41 then -1
  else if lm_cp P = false then (if 4 ≤ t ∧ t ≤ 9 then 6 + t else -1)
  else if t = 45 then 21 else if t = 46 then 22 else -1
def lm_pt (t : Int) (P : lm_P) : Int :=
  if lm_op P = 40 then (if t = 15 then 0 else -1)
  else if lm_op P = 41 then (if t = 38 ∧ lm_cp P = true then 42 else -1)
  else if lm_op P = 42 then (if t = 39 then 43 else -1)
  else if lm_op P = 44 then (if t = 43 then 45 else -1)
  else if lm_op P < 0 then -1
  else if t = 40 then 0 else -1
def lm_hd (P : lm_P) : Int := match P with | [] => 0 | e :: _ => e.2
/-- goes on behind one -/
def lm_bh (f : Int → Int) (n : Int) (P : lm_P) (b : Int) : (Int × Int) ⊕ lm_S :=
  if 0 ≤ lm_bt (lx_T f n b) P then .inr ((lm_bt (lx_T f n b) P, 0) :: lm_st (lm_rk (lm_bt (lx_T f n b) P)) P, false, ds_ad f n b)
  else if 0 < lm_pt (lx_T f n b) P then .inr ((lm_pt (lx_T f n b) P, lm_hd (lm_st 1 P)) :: (lm_st 1 P).tail, false, ds_ad f n b)
  else if lm_pt (lx_T f n b) P = 0 then .inr (lm_st 7 (lm_st 1 P).tail, true, ds_ad f n b)
  else if 0 ≤ lm_op P then .inl (1, b) else .inl (0, b)
def lm_sp (f : Int → Int) (n law : Int) (s : lm_S) : (Int × Int) ⊕ lm_S := if s.2.1 = true then lm_bh f n s.1 s.2.2 else lm_be f n law s.1 s.2.2
def lm_mr (f : Int → Int) (n law : Int) : Nat → lm_S → Option (Int × Int)
  | 0, _ => none
  | k + 1, s => match lm_sp f n law s with | .inl v => some v | .inr t => lm_mr f n law k t
/-- the machine from here ends with V -/
def lm_R (f : Int → Int) (n law : Int) (s : lm_S) (V : Int × Int) : Prop := ∃ k : Nat, lm_mr f n law k s = some V
variable {f : Int → Int} {n law b : Int} {P Q P2 : lm_P} {V : Int × Int} {s t : lm_S}
theorem lm_R1 (h : lm_sp f n law s = .inr t) (a : lm_R f n law t V) : lm_R f n law s V := by
  obtain ⟨k, e⟩ := a
  refine ⟨k + 1, ?_⟩
  show (match lm_sp f n law s with | .inl v => some v | .inr t => lm_mr f n law k t) = some V
  rw [h]; exact e
theorem lm_R0 (h : lm_sp f n law s = .inl V) : lm_R f n law s V := by
  refine ⟨1, ?_⟩
  show (match lm_sp f n law s with | .inl v => some v | .inr t => lm_mr f n law 0 t) = some V
  rw [h]
theorem lm_stst {k j : Int} (h : k ≤ j) : lm_st k (lm_st j P) = lm_st k P := by
  induction P with
  | nil => rfl
  | cons e P ih =>
    by_cases c : j ≤ lm_rk e.1
    · rw [lm_st, if_pos c, ih, lm_st, if_pos (by omega)]
    · rw [lm_st, if_neg c]
theorem lm_rk0 {o : Int} (h : 40 ≤ o) : lm_rk o = 0 := if_pos h
theorem lm_rkp {o : Int} (h : ¬ 40 ≤ o) : 1 ≤ lm_rk o := by unfold lm_rk; rw [if_neg h]; (repeat' split) <;> omega
theorem lm_opst {k : Int} (h : 1 ≤ k) : lm_op (lm_st k P) = lm_op P := by
  induction P with
  | nil => rfl
  | cons e P ih =>
    by_cases c : k ≤ lm_rk e.1
    · rw [lm_st, if_pos c, ih]
      have : ¬ 40 ≤ e.1 := fun d => by rw [lm_rk0 d] at c; omega
      exact (if_neg this).symm
    · rw [lm_st, if_neg c]
theorem lm_cpst {k : Int} (h : 5 ≤ k) : lm_cp (lm_st k P) = lm_cp P := by
  induction P with
  | nil => rfl
  | cons e P ih =>
    by_cases c : k ≤ lm_rk e.1
    · rw [lm_st, if_pos c, ih]
      exact (if_pos (show 4 < lm_rk e.1 by omega)).symm
    · rw [lm_st, if_neg c]
theorem lm_gst {k : Int} (h : 1 ≤ k) : lm_g (lm_st k P) = lm_g P := by
  induction P with
  | nil => rfl
  | cons e P ih =>
    by_cases c : k ≤ lm_rk e.1
    · rw [lm_st, if_pos c, ih]
      have : ¬ e.1 = 45 := fun d => by rw [d] at c; exact absurd c (by rw [lm_rk0 (by decide)]; omega)
      exact (if_neg this).symm
    · rw [lm_st, if_neg c]
/-- what stands when a reading is through, at rank k -/
def lm_C (k : Int) (P P2 : lm_P) : Prop := lm_st k P2 = lm_st k P
theorem lm_Cop {k : Int} (h : 1 ≤ k) (c : lm_C k P P2) : lm_op P2 = lm_op P := by rw [← lm_opst h, ← lm_opst (P := P) h, c]
theorem lm_Cg {k : Int} (h : 1 ≤ k) (c : lm_C k P P2) : lm_g P2 = lm_g P := by rw [← lm_gst h, ← lm_gst (P := P) h, c]
theorem lm_Ccp {k : Int} (h : 5 ≤ k) (c : lm_C k P P2) : lm_cp P2 = lm_cp P := by rw [← lm_cpst h, ← lm_cpst (P := P) h, c]
theorem lm_CC {k j : Int} (h : k ≤ j) (c : lm_C j P P2) : lm_C k P P2 := by unfold lm_C at *; rw [← lm_stst h, c, lm_stst h]
theorem lm_run1 {P : Int → Bool} {p : Int} (h : p < n) (hP : P (f p) = true) : p + 1 ≤ lx_run P f n p := by
  rw [lx_run_s h hP]; exact lx_runB
/-- a token is no nothing -/
theorem lm_adv (h : lx_T f n b ≠ 0) : b < n ∧ b + 1 ≤ ds_ad f n b := by
  have hb : ¬ n ≤ b := fun d => h (lx_Tz d).1
  refine ⟨by omega, Int.le_trans ?_ (lx_runB (P := lx_bl))⟩
  unfold lx_E
  rw [if_neg hb]
  by_cases c : lx_dg (f b) = true
  · rw [if_pos c]; exact lm_run1 (by omega) c
  · rw [if_neg c]
    by_cases c2 : lx_lt (f b) = true
    · rw [if_pos c2]; exact lm_run1 (by omega) c2
    · rw [if_neg c2]; split <;> omega
theorem lm_ad0 : b ≤ ds_ad f n b := by
  by_cases h : lx_T f n b = 0
  · refine Int.le_trans ?_ (lx_runB (P := lx_bl))
    have c := lx_runB (P := lx_dg) (f := f) (n := n) (p := b)
    have d := lx_runB (P := lx_lt) (f := f) (n := n) (p := b)
    unfold lx_E
    (repeat' split) <;> omega
  · have := (lm_adv h).2; omega
/-- a reading r that goes on from a state s (at b) and ends at what C says, the token behind it not one of ok -/
def lm_L (f : Int → Int) (n law : Int) (C : lm_P → Prop) (ok : Int → Bool) (s : lm_S) (r : Int × Int) : Prop := r.1 = 9 ∨ (r.1 ≠ 0 ∧ lm_R f n law s r) ∨ (r.1 = 0 ∧ s.2.2 ≤ r.2 ∧ ok (lx_T f n r.2) = false ∧ ∀ V : Int × Int, (∀ P2 : lm_P, C P2 → lm_R f n law (P2, true, r.2) V) → lm_R f n law s V)
variable {C C' : lm_P → Prop} {ok ok' : Int → Bool} {r : Int × Int}
theorem lm_L1 (h : lm_sp f n law s = .inr t) (hb : s.2.2 ≤ t.2.2) (a : lm_L f n law C ok t r) : lm_L f n law C ok s r := by
  rcases a with a | a | a
  · exact Or.inl a
  · exact Or.inr (Or.inl ⟨a.1, lm_R1 h a.2⟩)
  · exact Or.inr (Or.inr ⟨a.1, Int.le_trans hb a.2.1, a.2.2.1, fun V k => lm_R1 h (a.2.2.2 V k)⟩)
theorem lm_L0 (h : lm_sp f n law s = .inl r) (h0 : r.1 ≠ 0) : lm_L f n law C ok s r := Or.inr (Or.inl ⟨h0, lm_R0 h⟩)
/-- one reading, then another -/
theorem lm_Lbd {g : Int → Int × Int} (a : lm_L f n law C ok s r) (k : ∀ P2 : lm_P, C P2 → ok (lx_T f n r.2) = false → lm_L f n law C' ok' (P2, true, r.2) (g r.2)) (ne : ∃ P2, C P2) : lm_L f n law C' ok' s (ds_bd r g) := by
  rcases a with a | a | a
  · rw [ds_bdF (by rw [a]; decide)]; exact Or.inl a
  · rw [ds_bdF a.1]; exact Or.inr (Or.inl a)
  · rw [ds_bd0 a.1]
    obtain ⟨P0, h0⟩ := ne
    by_cases h9 : (g r.2).1 = 9
    · exact Or.inl h9
    · by_cases hz : (g r.2).1 = 0
      · have w : ∀ P2 : lm_P, C P2 → _ := fun P2 c2 => (((k P2 c2 a.2.2.1).resolve_left h9).resolve_left (fun q => q.1 hz))
        exact Or.inr (Or.inr ⟨hz, Int.le_trans a.2.1 (w P0 h0).2.1, (w P0 h0).2.2.1, fun V kV => a.2.2.2 V (fun P2 c2 => (w P2 c2).2.2.2 V kV)⟩)
      · exact Or.inr (Or.inl ⟨hz, a.2.2.2 _ (fun P2 c2 => (((k P2 c2 a.2.2.1).resolve_left h9).resolve_right (fun q => hz q.1)).2)⟩)
/-- a loop over what binds at rank j: o tells the sign, G reads what stands behind it -/
theorem lm_lp {G : Int → Int × Int} {o : Int → Int} (h0 : ok 0 = false) (ne : ∃ P2, C P2)
    (hb : ∀ P2 t, C P2 → ok' t = false → ok t = true → 0 ≤ lm_bt t P2 ∧ lm_bt t P2 = o t)
    (hO : ∀ P2 t b, 0 ≤ b → C P2 → ok t = true → lm_L f n law C ok' ((o t, 0) :: lm_st (lm_rk (o t)) P2, false, b) (G b)) :
    ∀ (K : Nat) (b : Int), 0 ≤ b → n - b ≤ K → ok' (lx_T f n b) = false → ∀ P2 : lm_P, C P2 → lm_L f n law C (fun t => ok t || ok' t) (P2, true, b) (ds_lp f n ok G K b) := by
  have fin : ∀ (b : Int), ok' (lx_T f n b) = false → ok (lx_T f n b) = false → ∀ P2 : lm_P, C P2 → lm_L f n law C (fun t => ok t || ok' t) (P2, true, b) (0, b) := fun b e' e P2 c2 =>
    Or.inr (Or.inr ⟨rfl, Int.le_refl _, by show (ok (lx_T f n b) || ok' (lx_T f n b)) = false; rw [e, e']; rfl, fun V kV => kV P2 c2⟩)
  intro K
  induction K with
  | zero =>
    intro b hb0 hn e' P2 c2
    refine fin b e' ?_ P2 c2
    rw [(lx_Tz (show n ≤ b by omega)).1]; exact h0
  | succ K ih =>
    intro b hb0 hn e' P2 c2
    show lm_L f n law C _ (P2, true, b) (if ok (lx_T f n b) = true then ds_bd (G (ds_ad f n b)) (ds_lp f n ok G K) else (0, b))
    by_cases c : ok (lx_T f n b) = true
    · rw [if_pos c]
      obtain ⟨hb1, hb2⟩ := lm_adv (f := f) (n := n) (b := b) (fun d => by rw [d, h0] at c; cases c)
      obtain ⟨g1, g2⟩ := hb P2 _ c2 e' c
      have st1 : lm_sp f n law (P2, true, b) = .inr ((o (lx_T f n b), 0) :: lm_st (lm_rk (o (lx_T f n b))) P2, false, ds_ad f n b) := by
        show lm_bh f n P2 b = _
        unfold lm_bh
        rw [if_pos g1, g2]
      refine lm_L1 st1 (by show b ≤ ds_ad f n b; omega) ?_
      by_cases hz : (G (ds_ad f n b)).1 = 0
      · have a := hO P2 _ (ds_ad f n b) (by omega) c2 c
        have hge : ds_ad f n b ≤ (G (ds_ad f n b)).2 := by
          rcases a with a | a | a
          · rw [hz] at a; cases a
          · exact absurd hz a.1
          · exact a.2.1
        exact lm_Lbd a (fun P3 c3 e3 => ih _ (by omega) (by omega) e3 P3 c3) ne
      · rw [ds_bdF hz]
        rcases hO P2 _ (ds_ad f n b) (by omega) c2 c with a | a | a
        · exact Or.inl a
        · exact Or.inr (Or.inl a)
        · exact absurd a.1 hz
    · rw [if_neg c]
      exact fin b e' (by cases h : ok (lx_T f n b) with | true => exact absurd h c | false => rfl) P2 c2
/-! the readings -/
theorem lm_stj {k j : Int} (h : k ≤ j) (e : lm_st k P = P) : lm_st j P = P := by
  cases P with
  | nil => rfl
  | cons x P =>
    by_cases c : k ≤ lm_rk x.1
    · exfalso
      rw [lm_st, if_pos c] at e
      have : ∀ R : lm_P, (lm_st k R).length ≤ R.length := by
        intro R
        induction R with
        | nil => exact Nat.le_refl _
        | cons y R ih => rw [lm_st]; split
                         · exact Nat.le_succ_of_le ih
                         · exact Nat.le_refl _
      have := this P
      rw [e] at this
      exact absurd this (by rw [List.length_cons]; omega)
    · rw [lm_st, if_neg (by omega)]
theorem lm_Cc {k : Int} {e : Int × Int} (h : lm_C (k + 1) (e :: P) P2) (hk : k ≤ lm_rk e.1) : lm_st k P2 = lm_st k P := by
  have := lm_CC (k := k) (by omega) h
  unfold lm_C at this
  rw [this, lm_st, if_pos hk]
abbrev lm_M1 (f : Int → Int) (n law : Int) (O : ds_D) : Prop := ∀ (P : lm_P) (b : Int), 0 ≤ b → (lx_T f n b ≠ 44 ∨ lm_ah P = false) → lm_L f n law (lm_C 7 P) (fun _ => false) (P, false, b) (O (lm_dp P) (lm_g P) b)
abbrev lm_M2 (f : Int → Int) (n law : Int) (O : ds_D) : Prop := ∀ (P : lm_P) (b : Int), 0 ≤ b → lm_st 6 P = P → (lx_T f n b ≠ 44 ∨ lm_ah P = false) → lm_L f n law (lm_C 6 P) ds_td (P, false, b) (O (lm_dp P) (lm_g P) b)
abbrev lm_M3 (f : Int → Int) (n law : Int) (O : ds_D) : Prop := ∀ (P : lm_P) (b : Int), 0 ≤ b → lm_st 5 P = P → (lx_T f n b ≠ 44 ∨ lm_ah P = false) → lm_L f n law (lm_C 5 P) (fun t => ds_pm t || ds_td t) (P, false, b) (O (lm_dp P) (lm_g P) b)
theorem lm_Lw (h : lm_L f n law C ok s r) (hC : ∀ P2, C P2 → C' P2) (ho : ∀ t, ok t = false → ok' t = false) : lm_L f n law C' ok' s r := by
  rcases h with h | h | h
  · exact Or.inl h
  · exact Or.inr (Or.inl h)
  · exact Or.inr (Or.inr ⟨h.1, h.2.1, ho _ h.2.2.1, fun V kV => h.2.2.2 V (fun P2 c2 => kV P2 (hC P2 c2))⟩)
/-- behind a sign nothing is asked ahead -/
theorem lm_ahs {o v : Int} (h : o = 3 ∨ 4 ≤ lm_rk o) : lm_ah ((o, v) :: P) = false := by
  have h4 : 4 ≤ lm_rk o := by
    rcases h with h | h
    · subst h; decide
    · exact h
  have h40 : o ≠ 41 := fun d => by rw [d] at h4; exact absurd h4 (by decide)
  unfold lm_ah
  show (decide (lm_op ((o, v) :: P) = 41) && (decide (o = 41) || (decide (1 ≤ lm_rk o) && decide (lm_rk o ≤ 3)))) = false
  rw [decide_eq_false h40, decide_eq_false (show ¬ lm_rk o ≤ 3 by omega), Bool.and_false, Bool.or_false, Bool.and_false]
theorem lm_sgd {o v : Int} (h : ¬ 40 ≤ o) (h3 : o ≠ 3) (h20 : o ≠ 20) : lm_dp ((o, v) :: P) = lm_dp P ∧ lm_g ((o, v) :: P) = lm_g P ∧ lm_op ((o, v) :: P) = lm_op P := by
  refine ⟨?_, if_neg (show ¬ o = 45 by omega), if_neg h⟩
  show (if 40 ≤ o ∨ o = 3 ∨ o = 20 then 1 else 0) + lm_dp P = lm_dp P
  rw [if_neg (by omega)]; omega
theorem lm_tdc {t : Int} (h : ds_td t = true) : t = 12 ∨ t = 13 := by
  unfold ds_td at h
  rcases Bool.or_eq_true_iff.mp h with h | h
  · exact Or.inl (of_decide_eq_true h)
  · exact Or.inr (of_decide_eq_true h)
theorem lm_pmc {t : Int} (h : ds_pm t = true) : t = 10 ∨ t = 11 := by
  unfold ds_pm at h
  rcases Bool.or_eq_true_iff.mp h with h | h
  · exact Or.inl (of_decide_eq_true h)
  · exact Or.inr (of_decide_eq_true h)
theorem lm_p2 {O : ds_D} {K : Nat} (hb : 0 ≤ b) (h1 : lm_M1 f n law O) (hP : lm_st 6 P = P) (hs : lx_T f n b ≠ 44 ∨ lm_ah P = false) (hK : ∀ c : Int, b ≤ c → n - c ≤ K) : lm_L f n law (lm_C 6 P) ds_td (P, false, b) (ds_bd (O (lm_dp P) (lm_g P) b) (ds_lp f n ds_td (O (lm_dp P) (lm_g P)) K)) := by
  have a := h1 P b hb hs
  by_cases hz : (O (lm_dp P) (lm_g P) b).1 = 0
  · have hge : b ≤ (O (lm_dp P) (lm_g P) b).2 := by
      rcases a with a | a | a
      · rw [hz] at a; cases a
      · exact absurd hz a.1
      · exact a.2.1
    refine lm_Lw (C := lm_C 6 P) (ok := fun t => ds_td t || (fun _ => false) t) (lm_Lbd (lm_Lw a (fun P2 c2 => lm_CC (k := 6) (by decide) c2) (fun _ h => h)) (fun P2 c2 e2 => ?_) ⟨P, rfl⟩) (fun _ h => h) (fun t h => by rw [Bool.or_false] at h; exact h)
    refine lm_lp (C := lm_C 6 P) (ok := ds_td) (ok' := fun _ => false) (o := fun t => t - 6) (by decide) ⟨P, rfl⟩ (fun P2 t c2 _ ht => ?_) (fun P2 t c hc c2 ht => ?_) K _ (by omega) (hK _ hge) rfl P2 c2
    · rcases lm_tdc ht with h | h <;> subst h
      · exact ⟨(show (0 : Int) ≤ 6 by decide), rfl⟩
      · exact ⟨(show (0 : Int) ≤ 7 by decide), rfl⟩
    · have e : lm_st (lm_rk (t - 6)) P2 = P := by
        rcases lm_tdc ht with h | h <;> subst h <;> exact c2.trans hP
      rw [e]
      have q : ¬ 40 ≤ t - 6 ∧ t - 6 ≠ 3 ∧ t - 6 ≠ 20 ∧ lm_rk (t - 6) = 6 := by
        rcases lm_tdc ht with h | h <;> subst h <;> decide
      obtain ⟨d1, d2, _⟩ := lm_sgd (P := P) (v := 0) q.1 q.2.1 q.2.2.1
      have m := h1 ((t - 6, 0) :: P) c hc (Or.inr (lm_ahs (Or.inr (by omega))))
      rw [d1, d2] at m
      exact lm_Lw m (fun P3 c3 => lm_Cc (k := 6) c3 (by show 6 ≤ lm_rk (t - 6); omega)) (fun _ h => h)
  · rw [ds_bdF hz]
    rcases a with a | a | a
    · exact Or.inl a
    · exact Or.inr (Or.inl a)
    · exact absurd a.1 hz
theorem lm_p3 {O : ds_D} {K : Nat} (hb : 0 ≤ b) (h1 : lm_M2 f n law O) (hP : lm_st 5 P = P) (hs : lx_T f n b ≠ 44 ∨ lm_ah P = false) (hK : ∀ c : Int, b ≤ c → n - c ≤ K) : lm_L f n law (lm_C 5 P) (fun t => ds_pm t || ds_td t) (P, false, b) (ds_bd (O (lm_dp P) (lm_g P) b) (ds_lp f n ds_pm (O (lm_dp P) (lm_g P)) K)) := by
  have a := h1 P b hb (lm_stj (k := 5) (by decide) hP) hs
  by_cases hz : (O (lm_dp P) (lm_g P) b).1 = 0
  · have hge : b ≤ (O (lm_dp P) (lm_g P) b).2 := by
      rcases a with a | a | a
      · rw [hz] at a; cases a
      · exact absurd hz a.1
      · exact a.2.1
    have e2 : ds_td (lx_T f n (O (lm_dp P) (lm_g P) b).2) = false := by
      rcases a with a | a | a
      · rw [hz] at a; cases a
      · exact absurd hz a.1
      · exact a.2.2.1
    refine lm_Lbd (lm_Lw a (fun P2 c2 => lm_CC (k := 5) (by decide) c2) (fun _ h => h)) (fun P2 c2 e2 => ?_) ⟨P, rfl⟩
    refine lm_lp (C := lm_C 5 P) (ok := ds_pm) (ok' := ds_td) (o := fun t => t - 6) (by decide) ⟨P, rfl⟩ (fun P2 t c2 _ ht => ?_) (fun P2 t c hc c2 ht => ?_) K _ (by omega) (hK _ hge) e2 P2 c2
    · rcases lm_pmc ht with h | h <;> subst h
      · exact ⟨(show (0 : Int) ≤ 4 by decide), rfl⟩
      · exact ⟨(show (0 : Int) ≤ 5 by decide), rfl⟩
    · have e : lm_st (lm_rk (t - 6)) P2 = P := by
        rcases lm_pmc ht with h | h <;> subst h <;> exact c2.trans hP
      rw [e]
      have q : ¬ 40 ≤ t - 6 ∧ t - 6 ≠ 3 ∧ t - 6 ≠ 20 ∧ lm_rk (t - 6) = 5 := by
        rcases lm_pmc ht with h | h <;> subst h <;> decide
      obtain ⟨d1, d2, _⟩ := lm_sgd (P := P) (v := 0) q.1 q.2.1 q.2.2.1
      have m := h1 ((t - 6, 0) :: P) c hc (by rw [lm_st, if_neg (by show ¬ 6 ≤ lm_rk (t - 6); omega)]) (Or.inr (lm_ahs (Or.inr (by omega))))
      rw [d1, d2] at m
      exact lm_Lw m (fun P3 c3 => lm_Cc (k := 5) c3 (by show 5 ≤ lm_rk (t - 6); omega)) (fun _ h => h)
  · rw [ds_bdF hz]
    rcases a with a | a | a
    · exact Or.inl a
    · exact Or.inr (Or.inl a)
    · exact absurd a.1 hz
theorem lm_ahtp (h : lm_ah P = true) : lm_op P = 41 ∧ (lm_tp P = 41 ∨ (1 ≤ lm_rk (lm_tp P) ∧ lm_rk (lm_tp P) ≤ 3)) := by
  unfold lm_ah at h
  obtain ⟨a, c⟩ := Bool.and_eq_true_iff.mp h
  refine ⟨of_decide_eq_true a, ?_⟩
  rcases Bool.or_eq_true_iff.mp c with c | c
  · exact Or.inl (of_decide_eq_true c)
  · obtain ⟨c, d⟩ := Bool.and_eq_true_iff.mp c
    exact Or.inr ⟨of_decide_eq_true c, of_decide_eq_true d⟩
theorem lm_ahst (h : lm_ah P = true) : lm_st 4 P = P := by
  obtain ⟨a, c⟩ := lm_ahtp h
  cases P with
  | nil => rfl
  | cons e P =>
    have : lm_rk e.1 ≤ 3 := by
      rcases c with c | c
      · have : e.1 = 41 := c
        rw [this]; decide
      · exact c.2
    rw [lm_st, if_neg (by omega)]
/-- a pile behind which an ask can stand -/
theorem lm_ahm {k : Int} (hk : k ≤ 4) (h : lm_st k P = P) (ho : lm_op P = 41) : lm_ah P = true := by
  cases P with
  | nil => exact absurd ho (by decide)
  | cons e P =>
    have h4 : ¬ k ≤ lm_rk e.1 := by
      intro c
      have l : ∀ R : lm_P, (lm_st k R).length ≤ R.length := by
        intro R
        induction R with
        | nil => exact Nat.le_refl _
        | cons y R ih => rw [lm_st]; split
                         · exact Nat.le_succ_of_le ih
                         · exact Nat.le_refl _
      have := l P
      rw [lm_st, if_pos c] at h
      rw [h] at this
      exact absurd this (by rw [List.length_cons]; omega)
    unfold lm_ah
    rw [decide_eq_true ho, Bool.true_and]
    show (decide (e.1 = 41) || (decide (1 ≤ lm_rk e.1) && decide (lm_rk e.1 ≤ 3))) = true
    by_cases c : 40 ≤ e.1
    · have : e.1 = 41 := (if_pos c : lm_op (e :: P) = e.1).symm.trans ho
      rw [decide_eq_true this]; rfl
    · rw [decide_eq_true (lm_rkp c), decide_eq_true (show lm_rk e.1 ≤ 3 by omega)]
      exact Bool.or_true _
abbrev lm_A (k : Int) (P P2 : lm_P) : Prop := lm_C k P P2 ∧ lm_cp P2 = true
abbrev lm_okA : Int → Bool := fun t => ds_pm t || ds_td t
abbrev lm_okB : Int → Bool := fun t => ds_is 45 t || lm_okA t
abbrev lm_okE : Int → Bool := fun t => ds_is 46 t || lm_okB t
abbrev lm_M4 (f : Int → Int) (n law : Int) (O : ds_D) : Prop := ∀ (P : lm_P) (b : Int), 0 ≤ b → lm_ah P = true → lm_L f n law (lm_A 3 P) lm_okA (P, false, b) (O (lm_dp P) (lm_g P) b)
abbrev lm_M5 (f : Int → Int) (n law : Int) (O : ds_D) : Prop := ∀ (P : lm_P) (b : Int), 0 ≤ b → lm_st 2 P = P → lm_op P = 41 → lm_L f n law (lm_A 2 P) lm_okB (P, false, b) (O (lm_dp P) (lm_g P) b)
abbrev lm_M6 (f : Int → Int) (n law : Int) (O : ds_D) : Prop := ∀ (P : lm_P) (b : Int), 0 ≤ b → lm_st 1 P = P → lm_op P = 41 → lm_L f n law (lm_A 1 P) lm_okE (P, false, b) (O (lm_dp P) (lm_g P) b)
theorem lm_Lge (a : lm_L f n law C ok s r) (hz : r.1 = 0) : s.2.2 ≤ r.2 ∧ ok (lx_T f n r.2) = false := by
  rcases a with a | a | a
  · rw [hz] at a; cases a
  · exact absurd hz a.1
  · exact ⟨a.2.1, a.2.2.1⟩
theorem lm_LF {g : Int → Int × Int} (a : lm_L f n law C ok s r) (hz : r.1 ≠ 0) : lm_L f n law C' ok' s (ds_bd r g) := by
  rw [ds_bdF hz]
  rcases a with a | a | a
  · exact Or.inl a
  · exact Or.inr (Or.inl a)
  · exact absurd a.1 hz
/-- a pile for which compared asks are there -/
theorem lm_Ane {k : Int} (h : k ≤ 4) : ∃ P2, lm_A k P P2 := by
  refine ⟨(10, 0) :: P, ?_, by rfl⟩
  show lm_st k ((10, 0) :: P) = lm_st k P
  rw [lm_st, if_pos (show k ≤ lm_rk 10 by have : lm_rk 10 = 4 := by decide
                                          omega)]
theorem lm_isc {w t : Int} (h : ds_is w t = true) : t = w := of_decide_eq_true h
theorem lm_p5 {O : ds_D} {K : Nat} (hb : 0 ≤ b) (h1 : lm_M4 f n law O) (hP : lm_st 2 P = P) (ho : lm_op P = 41) (hK : ∀ c : Int, b ≤ c → n - c ≤ K) : lm_L f n law (lm_A 2 P) lm_okB (P, false, b) (ds_bd (O (lm_dp P) (lm_g P) b) (ds_lp f n (ds_is 45) (O (lm_dp P) (lm_g P)) K)) := by
  have a := h1 P b hb (lm_ahm (k := 2) (by decide) hP ho)
  by_cases hz : (O (lm_dp P) (lm_g P) b).1 = 0
  · obtain ⟨hge, e2⟩ := lm_Lge a hz
    refine lm_Lbd (lm_Lw (C' := lm_A 2 P) a (fun P2 c2 => ⟨lm_CC (k := 2) (by decide) c2.1, c2.2⟩) (fun _ h => h)) (fun P2 c2 e2 => ?_) (lm_Ane (by decide))
    refine lm_lp (C := lm_A 2 P) (ok := ds_is 45) (ok' := lm_okA) (o := fun t => t - 24) (by decide) (lm_Ane (by decide)) (fun P2 t c2 _ ht => ?_) (fun P2 t c hc c2 ht => ?_) K _ (Int.le_trans hb hge) (hK _ hge) e2 P2 c2
    · have := lm_isc ht
      subst this
      have : lm_bt 45 P2 = 21 := by
        unfold lm_bt
        rw [if_neg (by decide), if_neg (by decide), if_neg (by decide), if_neg (by decide), if_neg (by rw [lm_Cop (by decide) c2.1, ho]; decide), if_neg (by rw [c2.2]; decide), if_pos rfl]
      rw [this]
      exact ⟨by decide, rfl⟩
    · have := lm_isc ht
      subst this
      have e : lm_st (lm_rk (45 - 24)) P2 = P := c2.1.trans hP
      show lm_L f n law (lm_A 2 P) lm_okA ((45 - 24, 0) :: lm_st (lm_rk (45 - 24)) P2, false, c) _
      rw [e]
      obtain ⟨d1, d2, d3⟩ := lm_sgd (P := P) (o := 45 - 24) (v := 0) (by decide) (by decide) (by decide)
      have m := h1 ((45 - 24, 0) :: P) c hc (lm_ahm (k := 3) (by decide) (by rw [lm_st, if_neg (by decide)]) (d3.trans ho))
      rw [d1, d2] at m
      exact lm_Lw m (fun P3 c3 => ⟨lm_Cc (k := 2) c3.1 (by decide), c3.2⟩) (fun _ h => h)
  · exact lm_LF a hz
theorem lm_p6 {O : ds_D} {K : Nat} (hb : 0 ≤ b) (h1 : lm_M5 f n law O) (hP : lm_st 1 P = P) (ho : lm_op P = 41) (hK : ∀ c : Int, b ≤ c → n - c ≤ K) : lm_L f n law (lm_A 1 P) lm_okE (P, false, b) (ds_bd (O (lm_dp P) (lm_g P) b) (ds_lp f n (ds_is 46) (O (lm_dp P) (lm_g P)) K)) := by
  have a := h1 P b hb (lm_stj (k := 1) (by decide) hP) ho
  by_cases hz : (O (lm_dp P) (lm_g P) b).1 = 0
  · obtain ⟨hge, e2⟩ := lm_Lge a hz
    refine lm_Lbd (lm_Lw (C' := lm_A 1 P) a (fun P2 c2 => ⟨lm_CC (k := 1) (by decide) c2.1, c2.2⟩) (fun _ h => h)) (fun P2 c2 e2 => ?_) (lm_Ane (by decide))
    refine lm_lp (C := lm_A 1 P) (ok := ds_is 46) (ok' := lm_okB) (o := fun t => t - 24) (by decide) (lm_Ane (by decide)) (fun P2 t c2 _ ht => ?_) (fun P2 t c hc c2 ht => ?_) K _ (Int.le_trans hb hge) (hK _ hge) e2 P2 c2
    · have := lm_isc ht
      subst this
      have : lm_bt 46 P2 = 22 := by
        unfold lm_bt
        rw [if_neg (by decide), if_neg (by decide), if_neg (by decide), if_neg (by decide), if_neg (by rw [lm_Cop (by decide) c2.1, ho]; decide), if_neg (by rw [c2.2]; decide), if_neg (by decide), if_pos rfl]
      rw [this]
      exact ⟨by decide, rfl⟩
    · have := lm_isc ht
      subst this
      have e : lm_st (lm_rk (46 - 24)) P2 = P := c2.1.trans hP
      show lm_L f n law (lm_A 1 P) lm_okB ((46 - 24, 0) :: lm_st (lm_rk (46 - 24)) P2, false, c) _
      rw [e]
      obtain ⟨d1, d2, d3⟩ := lm_sgd (P := P) (o := 46 - 24) (v := 0) (by decide) (by decide) (by decide)
      have m := h1 ((46 - 24, 0) :: P) c hc (by rw [lm_st, if_neg (by decide)]) (d3.trans ho)
      rw [d1, d2] at m
      exact lm_Lw m (fun P3 c3 => ⟨lm_Cc (k := 1) c3.1 (by decide), c3.2⟩) (fun _ h => h)
  · exact lm_LF a hz
theorem lm_opn {e v : Int} (h : e = 3 ∨ e = 20 ∨ 40 ≤ e) : lm_dp ((e, v) :: P) = lm_dp P + 1 := by
  show (if 40 ≤ e ∨ e = 3 ∨ e = 20 then 1 else 0) + lm_dp P = lm_dp P + 1
  rw [if_pos (by omega)]; omega
theorem lm_ahcp (h : lm_ah P = true) : lm_cp P = false := by
  obtain ⟨a, c⟩ := lm_ahtp h
  cases P with
  | nil => rfl
  | cons e P =>
    have : lm_rk e.1 ≤ 3 := by
      rcases c with c | c
      · have : e.1 = 41 := c
        rw [this]; decide
      · exact c.2
    show (if 4 < lm_rk e.1 then lm_cp P else decide (lm_rk e.1 = 4)) = false
    rw [if_neg (by omega), decide_eq_false (by omega)]
theorem lm_okAc {t : Int} (h : lm_okA t = false) : t ≠ 10 ∧ t ≠ 11 ∧ t ≠ 12 ∧ t ≠ 13 := by
  refine ⟨?_, ?_, ?_, ?_⟩ <;> intro e <;> rw [e] at h <;> exact absurd h (by decide)
/-- the machine opens -/
theorem lm_pus {o : Int} {k : Int → (Int × Int) ⊕ lm_S} (hs : lm_sp f n law (P, false, b) = lm_pu f n o P b k) {g : Int → Int × Int} (hk : lm_dp P < 8 → lm_L f n law C ok (P, false, b) (g (ds_ad f n b))) : lm_L f n law C ok (P, false, b) (ds_en f n (lm_dp P) g b) := by
  unfold lm_pu at hs
  unfold ds_en
  by_cases c : lm_dp P < 8
  · rw [if_pos c]; exact hk c
  · rw [if_neg c] at hs ⊢; exact lm_L0 hs (show (3 : Int) ≠ 0 by decide)
theorem lm_puk {o : Int} {k : Int → (Int × Int) ⊕ lm_S} (hs : lm_sp f n law (P, false, b) = lm_pu f n o P b k) (c : lm_dp P < 8) : lm_sp f n law (P, false, b) = k (ds_ad f n b) := by
  unfold lm_pu at hs
  rw [if_pos c] at hs; exact hs
theorem lm_p4 {S A : ds_D} (hS : lm_M3 f n law S) (hA : lm_M4 f n law A) : lm_M4 f n law (ds_ask f n S A) := by
  intro P b hb ha
  obtain ⟨ho, _⟩ := lm_ahtp ha
  have h4 := lm_ahst ha
  unfold ds_ask
  by_cases c : lx_T f n b = 44
  · rw [if_pos c]
    have hs : lm_sp f n law (P, false, b) = lm_pu f n 20 P b (fun c => .inr ((20, 0) :: P, false, c)) := by
      show lm_be f n law P b = _
      unfold lm_be
      rw [if_neg (by omega), if_neg (by omega), if_neg (by omega), if_neg (by omega), if_neg (by omega), if_neg (by omega), if_pos ⟨c, ha⟩]
    refine lm_pus hs (fun cd => lm_L1 (lm_puk hs cd) lm_ad0 ?_)
    have m := hA ((20, 0) :: P) (ds_ad f n b) (Int.le_trans hb lm_ad0) (lm_ahm (k := 4) (by decide) (by rw [lm_st, if_neg (by decide)]) (Eq.trans (if_neg (by decide)) ho))
    rw [lm_opn (by decide), show lm_g ((20, 0) :: P) = lm_g P from if_neg (by decide)] at m
    exact lm_Lw m (fun P3 c3 => ⟨c3.1.trans (by rw [lm_st, if_pos (by decide)]), c3.2⟩) (fun _ h => h)
  · rw [if_neg c, ds_bdA]
    have a := hS P b hb (lm_stj (k := 4) (by decide) h4) (Or.inl c)
    by_cases hz : (S (lm_dp P) (lm_g P) b).1 = 0
    · refine lm_Lbd a (fun P2 c2 e2 => ?_) ⟨P, rfl⟩
      have hge := (lm_Lge a hz).1
      have hge : b ≤ (S (lm_dp P) (lm_g P) b).2 := hge
      generalize (S (lm_dp P) (lm_g P) b).2 = b2 at e2 hge ⊢
      have o2 : lm_op P2 = 41 := (lm_Cop (by decide) c2).trans ho
      have q2 : lm_cp P2 = false := (lm_Ccp (by decide) c2).trans (lm_ahcp ha)
      obtain ⟨n1, n2, n3, n4⟩ := lm_okAc e2
      by_cases ct : 4 ≤ lx_T f n b2 ∧ lx_T f n b2 ≤ 9
      · rw [if_pos ct, ds_bd0 rfl]
        have hbt : lm_bt (lx_T f n b2) P2 = 6 + lx_T f n b2 := by
          unfold lm_bt
          rw [if_neg n1, if_neg n2, if_neg n3, if_neg n4, if_neg (by rw [o2]; decide), if_pos q2, if_pos ct]
        have rk4 : lm_rk (6 + lx_T f n b2) = 4 := by
          unfold lm_rk
          rw [if_neg (by omega), if_neg (by omega), if_neg (by omega), if_neg (by omega), if_pos (by omega)]
        have st : lm_sp f n law (P2, true, b2) = .inr ((6 + lx_T f n b2, 0) :: P, false, ds_ad f n b2) := by
          show lm_bh f n P2 b2 = _
          unfold lm_bh
          rw [hbt, if_pos (by omega), rk4, (lm_CC (k := 4) (by decide) c2 : lm_st 4 P2 = lm_st 4 P), h4]
        refine lm_L1 st lm_ad0 ?_
        obtain ⟨d1, d2, _⟩ := lm_sgd (P := P) (o := 6 + lx_T f n b2) (v := 0) (by omega) (by omega) (by omega)
        have m := hS ((6 + lx_T f n b2, 0) :: P) (ds_ad f n b2) (Int.le_trans hb (Int.le_trans hge lm_ad0)) (by rw [lm_st, if_neg (by rw [rk4]; decide)]) (Or.inr (lm_ahs (Or.inr (by omega))))
        rw [d1, d2] at m
        refine lm_Lw m (fun P3 c3 => ⟨lm_CC (k := 3) (j := 4) (by decide) (lm_Cc (k := 4) c3 (by show 4 ≤ lm_rk (6 + lx_T f n b2); omega)), (lm_Ccp (by decide) c3).trans ?_⟩) (fun _ h => h)
        show (if 4 < lm_rk (6 + lx_T f n b2) then lm_cp P else decide (lm_rk (6 + lx_T f n b2) = 4)) = true
        rw [rk4]; rfl
      · rw [if_neg ct, ds_bdF (show (1 : Int) ≠ 0 by decide)]
        refine lm_L0 ?_ (show (1 : Int) ≠ 0 by decide)
        show lm_bh f n P2 b2 = _
        have hbt : lm_bt (lx_T f n b2) P2 = -1 := by
          unfold lm_bt
          rw [if_neg n1, if_neg n2, if_neg n3, if_neg n4, if_neg (by rw [o2]; decide), if_pos q2, if_neg ct]
        have hpt : lm_pt (lx_T f n b2) P2 = -1 := by
          unfold lm_pt
          rw [if_neg (by rw [o2]; decide), if_pos o2, if_neg (by rw [q2]; exact fun h => absurd h.2 (by decide))]
        unfold lm_bh
        rw [hbt, hpt, o2, if_neg (by decide), if_neg (by decide), if_neg (by decide), if_pos (by decide)]
    · exact lm_LF a hz
theorem lm_Lbe {g : Int → Int × Int} (hb : 0 ≤ s.2.2) (a : lm_L f n law C ok s r) (k : ∀ (P2 : lm_P) (c : Int), C P2 → 0 ≤ c → ok (lx_T f n c) = false → lm_L f n law C' ok' (P2, true, c) (g c)) (ne : ∃ P2, C P2) : lm_L f n law C' ok' s (ds_bd r g) := by
  by_cases hz : r.1 = 0
  · exact lm_Lbd a (fun P2 c2 e2 => k P2 _ c2 (Int.le_trans hb (lm_Lge a hz).1) e2) ne
  · exact lm_LF a hz
theorem lm_btn {t : Int} (h : lm_okA t = false) (h2 : lm_op P2 ≠ 41 ∨ (lm_cp P2 = true ∧ t ≠ 45 ∧ t ≠ 46)) : lm_bt t P2 = -1 := by
  obtain ⟨n1, n2, n3, n4⟩ := lm_okAc h
  unfold lm_bt
  rw [if_neg n1, if_neg n2, if_neg n3, if_neg n4]
  by_cases c : lm_op P2 = 41
  · rcases h2 with h2 | h2
    · exact absurd c h2
    · rw [if_neg (fun d => d c), if_neg (by rw [h2.1]; decide), if_neg h2.2.1, if_neg h2.2.2]
  · rw [if_pos c]
/-- the next part of what is open -/
theorem lm_xn {w p o v : Int} {g : Int → Int × Int} (e : lm_bt (lx_T f n b) P2 = -1) (hst : lm_st 1 P2 = (o, v) :: Q) (ho : 0 ≤ lm_op P2) (hp : 0 < p) (hpt : lm_pt (lx_T f n b) P2 = if lx_T f n b = w then p else -1) (k : lm_L f n law C ok ((p, v) :: Q, false, ds_ad f n b) (g (ds_ad f n b))) : lm_L f n law C ok (P2, true, b) (ds_bd (ds_ex f n w b) g) := by
  unfold ds_ex
  by_cases c : lx_T f n b = w
  · rw [if_pos c, ds_bd0 rfl]
    refine lm_L1 ?_ lm_ad0 k
    show lm_bh f n P2 b = _
    unfold lm_bh
    rw [if_pos c] at hpt
    rw [e, hpt, if_neg (by decide), if_pos hp, hst]; rfl
  · rw [if_neg c, ds_bdF (show (1 : Int) ≠ 0 by decide)]
    refine lm_L0 ?_ (show (1 : Int) ≠ 0 by decide)
    show lm_bh f n P2 b = _
    unfold lm_bh
    rw [if_neg c] at hpt
    rw [e, hpt, if_neg (by decide), if_neg (by decide), if_neg (by decide), if_pos ho]
/-- what is open is shut -/
theorem lm_x0 {w o v : Int} (e : lm_bt (lx_T f n b) P2 = -1) (hst : lm_st 1 P2 = (o, v) :: Q) (ho : 0 ≤ lm_op P2) (hpt : lm_pt (lx_T f n b) P2 = if lx_T f n b = w then 0 else -1) : lm_L f n law (lm_C 7 Q) (fun _ => false) (P2, true, b) (ds_ex f n w b) := by
  unfold ds_ex
  by_cases c : lx_T f n b = w
  · rw [if_pos c]
    refine Or.inr (Or.inr ⟨rfl, lm_ad0, rfl, fun V kV => lm_R1 ?_ (kV (lm_st 7 Q) (lm_stst (Int.le_refl 7)))⟩)
    show lm_bh f n P2 b = _
    unfold lm_bh
    rw [if_pos c] at hpt
    rw [e, hpt, if_neg (by decide), if_neg (by decide), if_pos rfl, hst]; rfl
  · rw [if_neg c]
    refine lm_L0 ?_ (show (1 : Int) ≠ 0 by decide)
    show lm_bh f n P2 b = _
    unfold lm_bh
    rw [if_neg c] at hpt
    rw [e, hpt, if_neg (by decide), if_neg (by decide), if_neg (by decide), if_pos ho]
theorem lm_op0 {o v : Int} {k : Int} (hk : 1 ≤ k) (h : lm_C k ((o, v) :: Q) P2) (h40 : 40 ≤ o) : lm_op P2 = o ∧ lm_st 1 P2 = (o, v) :: Q := by
  refine ⟨(lm_Cop hk h).trans (if_pos h40), (lm_CC (k := 1) hk h).trans ?_⟩
  rw [lm_st, if_neg (by rw [lm_rk0 h40]; decide)]
theorem lm_s40 {o v k : Int} (hk : 1 ≤ k) (h40 : 40 ≤ o) : lm_st k ((o, v) :: Q) = (o, v) :: Q := by
  rw [lm_st, if_neg (by rw [lm_rk0 h40]; omega)]
theorem lm_pif {S E : ds_D} (hS : lm_M3 f n law S) (hE : lm_M6 f n law E) (hb : 0 ≤ b) : lm_L f n law (lm_C 7 Q) (fun _ => false) ((41, 0) :: Q, false, b) (ds_if f n S E (lm_dp Q + 1) (lm_g Q) b) := by
  unfold ds_if
  simp only [ds_bdA]
  have a := hE ((41, 0) :: Q) b hb (lm_s40 (by decide) (by decide)) (if_pos (by decide))
  rw [lm_opn (by decide), show lm_g ((41, 0) :: Q) = lm_g Q from if_neg (by decide)] at a
  refine lm_Lbe hb a (fun P2 c c2 hc e2 => ?_) (lm_Ane (by decide))
  obtain ⟨o2, s2⟩ := lm_op0 (by decide) c2.1 (by decide)
  obtain ⟨x1, x2⟩ := Bool.or_eq_false_iff.mp e2
  obtain ⟨x2, x3⟩ := Bool.or_eq_false_iff.mp x2
  have pt : lm_pt (lx_T f n c) P2 = if lx_T f n c = 38 then 42 else -1 := by
    unfold lm_pt
    rw [o2, if_neg (by decide), if_pos rfl, c2.2]
    by_cases d : lx_T f n c = 38
    · rw [if_pos ⟨d, rfl⟩, if_pos d]
    · rw [if_neg (fun q => d q.1), if_neg d]
  refine lm_xn (p := 42) (lm_btn x3 (Or.inr ⟨c2.2, of_decide_eq_false x2, of_decide_eq_false x1⟩)) s2 (by rw [o2]; decide) (by decide) pt ?_
  have hc := Int.le_trans hc (lm_ad0 (f := f) (n := n))
  have a := hS ((42, 0) :: Q) _ hc (lm_s40 (by decide) (by decide)) (Or.inr (by unfold lm_ah; rw [show lm_op ((42, 0) :: Q) = 42 from if_pos (by decide)]; rfl))
  rw [lm_opn (by decide), show lm_g ((42, 0) :: Q) = lm_g Q from if_neg (by decide)] at a
  refine lm_Lbe hc a (fun P2 c c2 hc e2 => ?_) ⟨_, rfl⟩
  obtain ⟨o2, s2⟩ := lm_op0 (by decide) c2 (by decide)
  refine lm_xn (p := 43) (lm_btn e2 (Or.inl (by rw [o2]; decide))) s2 (by rw [o2]; decide) (by decide) (by unfold lm_pt; rw [o2, if_neg (by decide), if_neg (by decide), if_pos rfl]) ?_
  have hc := Int.le_trans hc (lm_ad0 (f := f) (n := n))
  have a := hS ((43, 0) :: Q) _ hc (lm_s40 (by decide) (by decide)) (Or.inr (by unfold lm_ah; rw [show lm_op ((43, 0) :: Q) = 43 from if_pos (by decide)]; rfl))
  rw [lm_opn (by decide), show lm_g ((43, 0) :: Q) = lm_g Q from if_neg (by decide)] at a
  refine lm_Lbe hc a (fun P2 c c2 hc e2 => ?_) ⟨_, rfl⟩
  obtain ⟨o2, s2⟩ := lm_op0 (by decide) c2 (by decide)
  exact lm_x0 (lm_btn e2 (Or.inl (by rw [o2]; decide))) s2 (by rw [o2]; decide) (by unfold lm_pt; rw [o2, if_neg (by decide), if_neg (by decide), if_neg (by decide), if_neg (by decide), if_neg (by decide)])
theorem lm_plet {S : ds_D} {b0 c : Int} (hS : lm_M3 f n law S) (hb : 0 ≤ b0) (hc : b0 ≤ c) (hs : lm_sp f n law (Q, false, b0) = if lx_T f n c = 3 then (if lx_T f n (ds_ad f n c) = 42 then .inr ((44, lx_V f n c) :: Q, false, ds_ad f n (ds_ad f n c)) else .inl (1, ds_ad f n c)) else .inl (1, c)) : lm_L f n law (lm_C 7 Q) (fun _ => false) (Q, false, b0) (ds_let f n S (lm_dp Q + 1) (lm_g Q) c) := by
  unfold ds_let
  simp only [ds_bdA]
  by_cases c3 : lx_T f n c = 3
  · rw [if_pos c3] at hs
    rw [show ds_ex f n 3 c = (0, ds_ad f n c) from if_pos c3, ds_bd0 rfl]
    show lm_L f n law _ _ _ (ds_bd (ds_ex f n 42 (ds_ad f n c)) _)
    by_cases c4 : lx_T f n (ds_ad f n c) = 42
    · rw [if_pos c4] at hs
      rw [show ds_ex f n 42 (ds_ad f n c) = (0, ds_ad f n (ds_ad f n c)) from if_pos c4, ds_bd0 rfl]
      have h1 : c ≤ ds_ad f n (ds_ad f n c) := Int.le_trans (lm_ad0 (f := f) (n := n)) (lm_ad0 (f := f) (n := n))
      generalize ds_ad f n (ds_ad f n c) = c5 at hs h1 ⊢
      generalize lx_V f n c = v at hs ⊢
      refine lm_L1 hs (by show b0 ≤ c5; omega) ?_
      have hc : 0 ≤ c5 := by omega
      have a := hS ((44, v) :: Q) c5 hc (lm_s40 (by decide) (by decide)) (Or.inr (by unfold lm_ah; rw [show lm_op ((44, v) :: Q) = 44 from if_pos (show (40 : Int) ≤ 44 by decide)]; rfl))
      rw [lm_opn (by decide), show lm_g ((44, v) :: Q) = lm_g Q from if_neg (show ¬ (44 : Int) = 45 by decide)] at a
      refine lm_Lbe hc a (fun P2 c c2 hc e2 => ?_) ⟨_, rfl⟩
      obtain ⟨o2, s2⟩ := lm_op0 (by decide) c2 (by decide)
      refine lm_xn (p := 45) (lm_btn e2 (Or.inl (by rw [o2]; decide))) s2 (by rw [o2]; decide) (by decide) (by unfold lm_pt; rw [o2, if_neg (by decide), if_neg (by decide), if_neg (by decide), if_pos rfl]) ?_
      have hc := Int.le_trans hc (lm_ad0 (f := f) (n := n))
      have a := hS ((45, v) :: Q) _ hc (lm_s40 (by decide) (by decide)) (Or.inr (by unfold lm_ah; rw [show lm_op ((45, v) :: Q) = 45 from if_pos (show (40 : Int) ≤ 45 by decide)]; rfl))
      rw [lm_opn (by decide), show lm_g ((45, v) :: Q) = ds_u1 (lm_g Q) v (ds_sl (lm_dp Q + 1)) from (if_pos rfl).trans (by rw [Int.add_comm])] at a
      refine lm_Lbe hc a (fun P2 c c2 hc e2 => ?_) ⟨_, rfl⟩
      obtain ⟨o2, s2⟩ := lm_op0 (by decide) c2 (by decide)
      exact lm_x0 (lm_btn e2 (Or.inl (by rw [o2]; decide))) s2 (by rw [o2]; decide) (by unfold lm_pt; rw [o2, if_neg (by decide), if_neg (by decide), if_neg (by decide), if_neg (by decide), if_neg (by decide)])
    · rw [if_neg c4] at hs
      rw [show ds_ex f n 42 (ds_ad f n c) = (1, ds_ad f n c) from if_neg c4, ds_bdF (show (1 : Int) ≠ 0 by decide)]
      exact lm_L0 hs (show (1 : Int) ≠ 0 by decide)
  · rw [if_neg c3] at hs
    rw [show ds_ex f n 3 c = (1, c) from if_neg c3, ds_bdF (show (1 : Int) ≠ 0 by decide)]
    exact lm_L0 hs (show (1 : Int) ≠ 0 by decide)
theorem lm_name : ds_name f n law b = (if (ds_name f n law b).1 = 0 then 0 else (ds_name f n law b).1, if (ds_name f n law b).1 = 0 then ds_ad f n b else b) := by
  unfold ds_name
  (repeat' split) <;> simp_all
theorem lm_ok1 {p : Int} (h : lm_sp f n law (P, false, b) = .inr (lm_st 7 P, true, ds_ad f n b)) : lm_L f n law (lm_C 7 P) (fun _ => false) (P, false, b) (0, ds_ad f n b) :=
  Or.inr (Or.inr ⟨rfl, lm_ad0, rfl, fun V kV => lm_R1 h (kV _ (lm_stst (Int.le_refl 7)))⟩)
theorem lm_p1 {S O I L : ds_D} (hS : lm_M3 f n law S) (hO : lm_M1 f n law O)
    (hI : ∀ (Q : lm_P) (b : Int), 0 ≤ b → lm_L f n law (lm_C 7 Q) (fun _ => false) ((41, 0) :: Q, false, b) (I (lm_dp Q + 1) (lm_g Q) b))
    (hL : ∀ (Q : lm_P) (b c : Int), 0 ≤ b → b ≤ c → lm_sp f n law (Q, false, b) = (if lx_T f n c = 3 then (if lx_T f n (ds_ad f n c) = 42 then .inr ((44, lx_V f n c) :: Q, false, ds_ad f n (ds_ad f n c)) else .inl (1, ds_ad f n c)) else .inl (1, c)) → lm_L f n law (lm_C 7 Q) (fun _ => false) (Q, false, b) (L (lm_dp Q + 1) (lm_g Q) c)) :
    lm_M1 f n law (ds_one f n law S O I L) := by
  intro P b hb hs
  have hsp : lm_sp f n law (P, false, b) = lm_be f n law P b := rfl
  unfold lm_be at hsp
  unfold ds_one
  by_cases c2 : lx_T f n b = 2
  · rw [if_pos c2] at hsp ⊢
    by_cases c : lx_V f n b ≤ 9999
    · rw [if_pos c] at hsp ⊢; exact lm_ok1 (p := 0) hsp
    · rw [if_neg c] at hsp ⊢; exact lm_L0 hsp (show (2 : Int) ≠ 0 by decide)
  rw [if_neg c2] at hsp ⊢
  by_cases c3 : lx_T f n b = 3
  · rw [if_pos c3] at hsp ⊢
    by_cases c : lm_g P (lx_V f n b) ≠ -1
    · rw [if_pos c] at hsp ⊢; exact lm_ok1 (p := 0) hsp
    · rw [if_neg c] at hsp ⊢; exact lm_L0 hsp (show (5 : Int) ≠ 0 by decide)
  rw [if_neg c3] at hsp ⊢
  by_cases c11 : lx_T f n b = 11
  · rw [if_pos c11] at hsp ⊢
    refine lm_pus hsp (fun cd => lm_L1 (lm_puk hsp cd) lm_ad0 ?_)
    have m := hO ((3, 0) :: P) (ds_ad f n b) (Int.le_trans hb lm_ad0) (Or.inr (lm_ahs (Or.inl rfl)))
    rw [lm_opn (by decide), show lm_g ((3, 0) :: P) = lm_g P from if_neg (by decide)] at m
    exact lm_Lw m (fun P3 c3 => c3.trans (by rw [lm_st, if_pos (by decide)])) (fun _ h => h)
  rw [if_neg c11] at hsp ⊢
  by_cases c14 : lx_T f n b = 14
  · rw [if_pos c14] at hsp ⊢
    refine lm_pus hsp (fun cd => lm_L1 (lm_puk hsp cd) lm_ad0 ?_)
    have hc := Int.le_trans hb (lm_ad0 (f := f) (n := n))
    have a := hS ((40, 0) :: P) _ hc (lm_s40 (by decide) (by decide)) (Or.inr (by unfold lm_ah; rw [show lm_op ((40, 0) :: P) = 40 from if_pos (by decide)]; rfl))
    rw [lm_opn (by decide), show lm_g ((40, 0) :: P) = lm_g P from if_neg (by decide)] at a
    refine lm_Lbe hc a (fun P2 c c2 hc e2 => ?_) ⟨_, rfl⟩
    obtain ⟨o2, s2⟩ := lm_op0 (by decide) c2 (by decide)
    exact lm_x0 (lm_btn e2 (Or.inl (by rw [o2]; decide))) s2 (by rw [o2]; decide) (by unfold lm_pt; rw [o2, if_pos rfl])
  rw [if_neg c14] at hsp ⊢
  by_cases c37 : lx_T f n b = 37
  · rw [if_pos c37] at hsp ⊢
    exact lm_pus hsp (fun cd => lm_L1 (lm_puk hsp cd) lm_ad0 (hI P _ (Int.le_trans hb lm_ad0)))
  rw [if_neg c37] at hsp ⊢
  by_cases c41 : lx_T f n b = 41
  · rw [if_pos c41] at hsp ⊢
    exact lm_pus hsp (fun cd => hL P b _ hb lm_ad0 (lm_puk hsp cd))
  rw [if_neg c41] at hsp ⊢
  rw [if_neg (show ¬ (lx_T f n b = 44 ∧ lm_ah P = true) from fun q => hs.elim (fun h => h q.1) (fun h => by rw [h] at q; exact absurd q.2 (by decide)))] at hsp
  rw [lm_name]
  by_cases c : (ds_name f n law b).1 = 0
  · rw [if_pos c] at hsp
    rw [if_pos c, if_pos c]; exact lm_ok1 (p := 0) hsp
  · rw [if_neg c] at hsp
    rw [if_neg c, if_neg c]; exact lm_L0 hsp c
/-- the descent and the machine read alike -/
theorem lm_all (hn : n ≤ 300) : ∀ k : Nat, lm_M3 f n law (ds_T f n law k).1 ∧ lm_M2 f n law (ds_T f n law k).2.1 ∧ lm_M1 f n law (ds_T f n law k).2.2.1
    ∧ (∀ (Q : lm_P) (b : Int), 0 ≤ b → lm_L f n law (lm_C 7 Q) (fun _ => false) ((41, 0) :: Q, false, b) ((ds_T f n law k).2.2.2.1 (lm_dp Q + 1) (lm_g Q) b))
    ∧ (∀ (Q : lm_P) (b c : Int), 0 ≤ b → b ≤ c → lm_sp f n law (Q, false, b) = (if lx_T f n c = 3 then (if lx_T f n (ds_ad f n c) = 42 then .inr ((44, lx_V f n c) :: Q, false, ds_ad f n (ds_ad f n c)) else .inl (1, ds_ad f n c)) else .inl (1, c)) → lm_L f n law (lm_C 7 Q) (fun _ => false) (Q, false, b) ((ds_T f n law k).2.2.2.2.1 (lm_dp Q + 1) (lm_g Q) c))
    ∧ lm_M6 f n law (ds_T f n law k).2.2.2.2.2.1 ∧ lm_M5 f n law (ds_T f n law k).2.2.2.2.2.2.1 ∧ lm_M4 f n law (ds_T f n law k).2.2.2.2.2.2.2 := by
  intro k
  induction k with
  | zero => exact ⟨fun _ _ _ _ _ => Or.inl rfl, fun _ _ _ _ _ => Or.inl rfl, fun _ _ _ _ => Or.inl rfl, fun _ _ _ => Or.inl rfl, fun _ _ _ _ _ _ => Or.inl rfl, fun _ _ _ _ _ => Or.inl rfl, fun _ _ _ _ _ => Or.inl rfl, fun _ _ _ _ => Or.inl rfl⟩
  | succ k ih =>
    obtain ⟨i3, i2, i1, iI, iL, i6, i5, i4⟩ := ih
    exact ⟨fun P b hb hP hs => lm_p3 hb i2 hP hs (fun c hc => by omega),
      fun P b hb hP hs => lm_p2 hb i1 hP hs (fun c hc => by omega),
      lm_p1 i3 i1 iI iL,
      fun Q b hb => lm_pif i3 i6 hb,
      fun Q b c hb hc hs => lm_plet i3 hb hc hs,
      fun P b hb hP ho => lm_p6 hb i5 hP ho (fun c hc => by omega),
      fun P b hb hP ho => lm_p5 hb i4 hP ho (fun c hc => by omega),
      lm_p4 i3 i4⟩
/-- a sum alone: what the descent says the machine ends with -/
theorem lm_top (hn : n ≤ 300) (hb : 0 ≤ b) {k : Nat} (h9 : ((ds_T f n law k).1 0 (fun _ => -1) b).1 ≠ 9) : lm_R f n law ([], false, b) ((ds_T f n law k).1 0 (fun _ => -1) b) := by
  rcases (lm_all (f := f) (law := law) hn k).1 [] b hb rfl (Or.inr rfl) with a | a | a
  · exact absurd a h9
  · exact a.2
  · refine a.2.2.2 _ (fun P2 c2 => lm_R0 ?_)
    have o2 : lm_op P2 = -1 := lm_Cop (P := []) (by decide) c2
    obtain ⟨z, _, e2, _⟩ := a
    have z : ((ds_T f n law k).1 0 (fun _ => -1) b).1 = 0 := z
    have e2 : lm_okA (lx_T f n ((ds_T f n law k).1 0 (fun _ => -1) b).2) = false := e2
    show lm_bh f n P2 ((ds_T f n law k).1 0 (fun _ => -1) b).2 = _
    have hbt := lm_btn (P2 := P2) e2 (Or.inl (by rw [o2]; decide))
    unfold lm_bh
    rw [hbt, if_neg (by decide)]
    have hpt : lm_pt (lx_T f n ((ds_T f n law k).1 0 (fun _ => -1) b).2) P2 = -1 := by
      unfold lm_pt
      rw [o2, if_neg (by decide), if_neg (by decide), if_neg (by decide), if_neg (by decide), if_pos (by decide)]
    rw [hpt, o2, if_neg (by decide), if_neg (by decide), if_neg (by decide)]
    exact congrArg Sum.inl (Prod.ext z.symm rfl)
/-! fuel: no fault 9 -/
theorem lm_b9 {g : Int → Int × Int} (h : r.1 ≠ 9) (hg : ∀ b, (g b).1 ≠ 9) : (ds_bd r g).1 ≠ 9 := by
  by_cases z : r.1 = 0
  · rw [ds_bd0 z]; exact hg _
  · rw [ds_bdF z]; exact h
theorem lm_l9 {g : Int → Int × Int} (hg : ∀ b, (g b).1 ≠ 9) : ∀ (K : Nat) (b : Int), (ds_lp f n ok g K b).1 ≠ 9 := by
  intro K
  induction K with
  | zero => intro b; exact (show (0 : Int) ≠ 9 by decide)
  | succ K ih =>
    intro b
    show (if ok (lx_T f n b) = true then ds_bd (g (ds_ad f n b)) (ds_lp f n ok g K) else (0, b)).1 ≠ 9
    split
    · exact lm_b9 (hg _) ih
    · exact (show (0 : Int) ≠ 9 by decide)
theorem lm_x9 {w : Int} : (ds_ex f n w b).1 ≠ 9 := by unfold ds_ex; split <;> simp
theorem lm_e9 {d : Int} {g : Int → Int × Int} (hg : d < 8 → ∀ b, (g b).1 ≠ 9) : (ds_en f n d g b).1 ≠ 9 := by
  unfold ds_en
  split
  · exact hg (by assumption) _
  · exact (show (3 : Int) ≠ 9 by decide)
abbrev lm_N (O : ds_D) (d : Int) : Prop := ∀ (g : Int → Int) (b : Int), (O d g b).1 ≠ 9
theorem lm_n9 : (ds_name f n law b).1 ≠ 9 := by unfold ds_name; (repeat' split) <;> simp
theorem lm_fuel : ∀ (k : Nat) (d : Int), d ≤ 8 → (7 * (8 - d) + 3 ≤ k → lm_N (ds_T f n law k).1 d) ∧ (7 * (8 - d) + 2 ≤ k → lm_N (ds_T f n law k).2.1 d) ∧ (7 * (8 - d) + 1 ≤ k → lm_N (ds_T f n law k).2.2.1 d) ∧ (7 * (8 - d) + 7 ≤ k → lm_N (ds_T f n law k).2.2.2.1 d) ∧ (7 * (8 - d) + 4 ≤ k → lm_N (ds_T f n law k).2.2.2.2.1 d) ∧ (7 * (8 - d) + 6 ≤ k → lm_N (ds_T f n law k).2.2.2.2.2.1 d) ∧ (7 * (8 - d) + 5 ≤ k → lm_N (ds_T f n law k).2.2.2.2.2.2.1 d) ∧ (7 * (8 - d) + 4 ≤ k → lm_N (ds_T f n law k).2.2.2.2.2.2.2 d) := by
  intro k
  induction k with
  | zero => intro d hd; exact ⟨fun h => by omega, fun h => by omega, fun h => by omega, fun h => by omega, fun h => by omega, fun h => by omega, fun h => by omega, fun h => by omega⟩
  | succ k ih =>
    intro d hd
    refine ⟨fun h g b => ?_, fun h g b => ?_, fun h g b => ?_, fun h g b => ?_, fun h g b => ?_, fun h g b => ?_, fun h g b => ?_, fun h g b => ?_⟩
    · have a := (ih d hd).2.1 (by omega)
      exact lm_b9 (a g b) (lm_l9 (a g) 300)
    · have a := (ih d hd).2.2.1 (by omega)
      exact lm_b9 (a g b) (lm_l9 (a g) 300)
    · show (ds_one f n law _ _ _ _ d g b).1 ≠ 9
      unfold ds_one
      split
      · split <;> simp
      split
      · split <;> simp
      split
      · exact lm_e9 (fun c b => (ih (d + 1) (by omega)).2.2.1 (by omega) g b)
      split
      · exact lm_e9 (fun c b => lm_b9 ((ih (d + 1) (by omega)).1 (by omega) g b) (fun b => lm_x9))
      split
      · exact lm_e9 (fun c b => (ih (d + 1) (by omega)).2.2.2.1 (by omega) g b)
      split
      · exact lm_e9 (fun c b => (ih (d + 1) (by omega)).2.2.2.2.1 (by omega) g b)
      exact lm_n9
    · have a := (ih d hd).1 (by omega)
      have e := (ih d hd).2.2.2.2.2.1 (by omega)
      exact lm_b9 (lm_b9 (lm_b9 (lm_b9 (lm_b9 (e g b) (fun _ => lm_x9)) (a g)) (fun _ => lm_x9)) (a g)) (fun _ => lm_x9)
    · have a := (ih d hd).1 (by omega)
      exact lm_b9 (lm_b9 (lm_b9 (lm_b9 (lm_b9 lm_x9 (fun _ => lm_x9)) (a g)) (fun _ => lm_x9)) (a _)) (fun _ => lm_x9)
    · have a := (ih d hd).2.2.2.2.2.2.1 (by omega)
      exact lm_b9 (a g b) (lm_l9 (a g) 300)
    · have a := (ih d hd).2.2.2.2.2.2.2 (by omega)
      exact lm_b9 (a g b) (lm_l9 (a g) 300)
    · show (ds_ask f n _ _ d g b).1 ≠ 9
      unfold ds_ask
      split
      · exact lm_e9 (fun c b => (ih (d + 1) (by omega)).2.2.2.2.2.2.2 (by omega) g b)
      · have a := (ih d hd).1 (by omega)
        exact lm_b9 (lm_b9 (a g b) (fun b => by split <;> simp)) (a g)
/-- a sum alone: the machine ends as the descent says -/
theorem lm_topS (hn : n ≤ 300) (hb : 0 ≤ b) : lm_R f n law ([], false, b) ((ds_T f n law 200).1 0 (fun _ => -1) b) := lm_top hn hb ((lm_fuel 200 0 (by decide)).1 (by decide) _ b)
end LM
