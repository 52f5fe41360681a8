/-! the laws of a text: what they say in the class, in the reference -/
section LW
variable {f : Int → Int} {n l a b : Int} {s t u : lf_Z} {D D1 D2 : List Int} {T N M : Int → Int} {I : Nat → Int → Int} {P : Nat → Option Nat} {k : Nat}
/-- the clause of a law -/
def lw_f (f : Int → Int) (n l : Int) : List Int → Option Int
  | [] => none
  | b :: D => if lx_T f n b = l + 20 then some b else lw_f f n l D
theorem lw_fS : ∀ D : List Int, lw_f f n l D = some b → b ∈ D ∧ lx_T f n b = l + 20 := by
  intro D
  induction D with
  | nil => intro h; cases h
  | cons x D ih =>
    intro h
    have h : (if lx_T f n x = l + 20 then some x else lw_f f n l D) = some b := h
    by_cases q : lx_T f n x = l + 20
    · rw [if_pos q] at h
      have e : x = b := Option.some.inj h
      exact ⟨by rw [e]; exact List.mem_cons_self, by rw [← e]; exact q⟩
    · rw [if_neg q] at h
      exact ⟨List.mem_cons_of_mem _ (ih h).1, (ih h).2⟩
theorem lw_fN : ∀ D : List Int, lw_f f n l D = none → ∀ b ∈ D, lx_T f n b ≠ l + 20 := by
  intro D
  induction D with
  | nil => intro _ b hb; cases hb
  | cons x D ih =>
    intro h b hb
    have h : (if lx_T f n x = l + 20 then some x else lw_f f n l D) = none := h
    by_cases q : lx_T f n x = l + 20
    · rw [if_pos q] at h; cases h
    · rw [if_neg q] at h
      rcases List.mem_cons.mp hb with e | e
      · rw [e]; exact q
      · exact ih h b e
def lw_v (f : Int → Int) (n l b : Int) (N : Int → Int) : Int := (dv_T f n l N 200).1 0 tx_g0 (fun _ => 0) (ds_ad f n b)
def lw_1 (f : Int → Int) (n l lo hi : Int) (d : (Int → Int) → Int) (D : List Int) (N : Int → Int) : Int := match lw_f f n l D with
  | none => d N
  | some b => max lo (min hi (lw_v f n l b N))
/-- pace and takes of a text -/
def lw_X (f : Int → Int) (n : Int) (D : List Int) : mn_X := (lw_1 f n 0 0 2 (fun _ => 1) D, lw_1 f n 1 0 10 (fun N => if 0 < N 6 then 0 else 5) D)
/-- without a text -/
def lw_X0 : mn_X := (fun _ => 1, fun N => if 0 < N 6 then 0 else 5)
theorem lw_B1 {lo hi : Int} {d : (Int → Int) → Int} (h : lo ≤ hi) (hd : lo ≤ d N ∧ d N ≤ hi) : lo ≤ lw_1 f n l lo hi d D N ∧ lw_1 f n l lo hi d D N ≤ hi := by
  unfold lw_1
  split
  · exact hd
  · omega
theorem lw_XB : (∀ N, 0 ≤ (lw_X f n D).1 N ∧ (lw_X f n D).1 N ≤ 2) ∧ ∀ N, 0 ≤ (lw_X f n D).2 N ∧ (lw_X f n D).2 N ≤ 10 :=
  ⟨fun N => lw_B1 (d := fun _ => 1) (show (0 : Int) ≤ 2 by decide) ⟨(show (0 : Int) ≤ 1 by decide), (show (1 : Int) ≤ 2 by decide)⟩, fun N => lw_B1 (d := fun N => if 0 < N 6 then 0 else 5) (show (0 : Int) ≤ 10 by decide) (by show 0 ≤ (if 0 < N 6 then (0 : Int) else 5) ∧ (if 0 < N 6 then (0 : Int) else 5) ≤ 10; split <;> omega)⟩
theorem lw_XB0 : (∀ N, 0 ≤ lw_X0.1 N ∧ lw_X0.1 N ≤ 2) ∧ ∀ N, 0 ≤ lw_X0.2 N ∧ lw_X0.2 N ≤ 10 :=
  ⟨fun N => ⟨(show (0 : Int) ≤ 1 by decide), (show (1 : Int) ≤ 2 by decide)⟩, fun N => by unfold lw_X0; dsimp only; split <;> omega⟩
/-- names that stand in a law, by both numbers -/
theorem lw_nm {l : Nat} {t : Int} (hl : l < 3) (ht : t = 24 ∨ (47 ≤ t ∧ t ≤ 56)) (h : ds_nm l (cc_ix t) = true) : la_of (la_nm t) l = true ∧ ((la_nm t = 9 ∧ cc_ix t = 10) ∨ (la_nm t = 10 ∧ cc_ix t = 9) ∨ (0 ≤ la_nm t ∧ la_nm t < 9 ∧ cc_ix t = la_nm t)) := by
  obtain ⟨e1, e2, e3⟩ := la_ofE l hl
  obtain ⟨b1, b2, b3, b4⟩ := la_nmB t
  unfold cc_ix at h ⊢
  rcases ht with q | q
  · rw [if_pos q] at h ⊢
    rw [b2 q]
    exact ⟨e1.symm.trans h, Or.inl ⟨rfl, rfl⟩⟩
  · rw [if_neg (by omega)] at h ⊢
    by_cases w : t = 56
    · subst w
      rw [b3 rfl]
      exact ⟨e2.symm.trans h, Or.inr (Or.inl ⟨rfl, rfl⟩)⟩
    · rw [b4 ⟨q.1, by omega⟩]
      obtain ⟨x, hx⟩ := Int.eq_ofNat_of_zero_le (show 0 ≤ t - 47 by omega)
      rw [hx] at h ⊢
      exact ⟨(e3 x (by omega)).symm.trans h, Or.inr (Or.inr ⟨by omega, by omega, rfl⟩)⟩
theorem lw_of0 {x : Int} (h : la_of x 0 = true) (h9 : x = 9 ∨ x = 10 ∨ (0 ≤ x ∧ x < 9)) : 0 ≤ x ∧ x ≤ 4 := by
  unfold la_of at h
  by_cases c : x < 4
  · omega
  · rw [decide_eq_false c, Bool.false_or] at h
    by_cases d : x = 4
    · omega
    · rw [if_neg d] at h
      by_cases e : x = 10
      · rw [if_pos e] at h; exact absurd (of_decide_eq_true h) (by decide)
      · rw [if_neg e] at h; exact absurd (of_decide_eq_true h) (by decide)
theorem lw_of1 {x : Int} (h : la_of x 1 = true) (h9 : x = 9 ∨ x = 10 ∨ (0 ≤ x ∧ x < 9)) : 0 ≤ x ∧ x ≤ 9 ∧ x ≠ 4 := by
  unfold la_of at h
  by_cases c : x < 4
  · omega
  · rw [decide_eq_false c, Bool.false_or] at h
    by_cases d : x = 4
    · rw [if_pos d] at h; exact absurd (of_decide_eq_true h) (by decide)
    · rw [if_neg d] at h
      by_cases e : x = 10
      · rw [if_pos e] at h; exact absurd (of_decide_eq_true h) (by decide)
      · omega
theorem lw_cN0 (h : xc_n0 N M) (hN : cm_nm N) : cc_N 0 N M := by
  intro t ht hd
  obtain ⟨h1, h2⟩ := lw_nm (l := 0) (by decide) ht hd
  have r := lw_of0 h1 (by omega)
  refine ⟨?_, hN _ (by omega) (by omega)⟩
  rw [show cc_ix t = la_nm t by omega]
  exact h _ r.1 r.2
theorem lw_cN1 (h : xc_n1 N M) (hN : cm_nm N) : cc_N 1 N M := by
  intro t ht hd
  obtain ⟨h1, h2⟩ := lw_nm (l := 1) (by decide) ht hd
  have r := lw_of1 h1 (by omega)
  refine ⟨?_, hN _ (by omega) (by omega)⟩
  rcases h2 with q | q | q
  · rw [q.1, q.2]; exact h.2
  · omega
  · rw [q.2.2]; exact h.1 _ (by omega) (by omega) (by omega)
theorem lw_name {l : Nat} (h : (ds_name f n l b).1 = 0) : (lx_T f n b = 24 ∨ (47 ≤ lx_T f n b ∧ lx_T f n b ≤ 56)) ∧ ds_nm l (cc_ix (lx_T f n b)) = true := by
  unfold ds_name at h
  unfold cc_ix
  by_cases c : lx_T f n b = 24
  · rw [if_pos c] at h ⊢
    refine ⟨Or.inl c, ?_⟩
    by_cases d : ds_nm l 10 = true
    · exact d
    · rw [if_neg d] at h; exact absurd h (show (5 : Int) ≠ 0 by decide)
  · rw [if_neg c] at h ⊢
    by_cases e : 47 ≤ lx_T f n b ∧ lx_T f n b ≤ 56
    · rw [if_pos e] at h
      refine ⟨Or.inr e, ?_⟩
      by_cases d : ds_nm l (lx_T f n b - 47) = true
      · exact d
      · rw [if_neg d] at h; exact absurd h (show (5 : Int) ≠ 0 by decide)
    · rw [if_neg e] at h; exact absurd h (show (1 : Int) ≠ 0 by decide)
theorem lw_rN0 (h : xr_n0 N M) (hN : cm_nm N) : rs_N f n 0 M N := by
  intro b hb
  obtain ⟨ht, hd⟩ := lw_name (l := 0) hb
  obtain ⟨h1, h2⟩ := lw_nm (l := 0) (by decide) ht hd
  have r := lw_of0 h1 (by omega)
  exact ⟨hN _ (by omega) (by omega), h _ (by omega) (by omega)⟩
theorem lw_rN1 (h : xr_n1 N M) (hN : cm_nm N) : rs_N f n 1 M N := by
  intro b hb
  obtain ⟨ht, hd⟩ := lw_name (l := 1) hb
  obtain ⟨h1, h2⟩ := lw_nm (l := 1) (by decide) ht hd
  have r := lw_of1 h1 (by omega)
  exact ⟨hN _ (by omega) (by omega), h _ (by omega) (by omega) (by omega)⟩
/-- a law of the class's script -/
theorem xc_of1 {R : (Int → Int) → (Int → Int) → Prop} (hk : k < 4) (hR : ∀ N M, R N M → cm_nm N → cc_N l N M) (h3 : I (38 + 7 * k) l ≤ 300) (hL : cs_L f n tx_g0 (fun c => I (35 + c)) k l b) : xc_A k l R (lw_v f n l b) I := by
  intro u Q N e hRN hN q
  obtain ⟨⟨a1, a2, a3, a4⟩, hc⟩ := hL
  dsimp only at a1 a2 a4 hc
  rw [show 35 + (2 + 7 * k) = 37 + 7 * k by omega] at a1 a2 a4 hc
  rw [show 35 + (3 + 7 * k) = 38 + 7 * k by omega] at a2 a4 hc
  rw [show 35 + (7 * k + 1) = 36 + 7 * k by omega] at hc
  rw [← e _ (Or.inr (Or.inl rfl))] at a1 a2 a4 hc
  rw [← e _ (Or.inr (Or.inr rfl))] at a2 a4 hc h3
  rw [← e _ (Or.inl rfl)] at hc
  obtain ⟨_, k2, L', h1, h2, _⟩ := hc.2 N (u.1 64) (fun _ => 0) (u.1 65) [] (hR _ _ hRN hN) (fun x _ _ hx => absurd rfl hx)
  exact fl_84b hk a1 h3 (by omega) h2 (fun t tf => q _ t tf.1 tf.2 rfl)
theorem xc_of (hk : k < 4) (hP : P 3 = some k) (h3 : I (35 + 7 * k) 1 ≤ 300) (hF : cs_F f n tx_g0 (fun c => I (35 + c)) k D) : xc_X (lw_X f n D) I P := by
  obtain ⟨⟨_, c0⟩, _, hl⟩ := hF
  have e2 : ∀ l : Int, (fun c : Nat => I (35 + c)) (2 + 7 * k) l = I (37 + 7 * k) l := fun l => by
    show I (35 + (2 + 7 * k)) l = _
    rw [show 35 + (2 + 7 * k) = 37 + 7 * k by omega]
  have no : ∀ l : Int, 0 ≤ l → l < 3 → I (37 + 7 * k) l = -1 → lw_f f n l D = none := by
    intro l l0 l1 h
    cases q : lw_f f n l D with
    | none => rfl
    | some b =>
      obtain ⟨q1, q2⟩ := lw_fS D q
      have := ((hl l l0 l1).2 b q1 q2).1.1
      rw [e2, h] at this
      exact absurd this (by decide)
  have yes : ∀ l : Int, 0 ≤ l → l < 3 → I (37 + 7 * k) l ≠ -1 → ∃ b, lw_f f n l D = some b ∧ cs_L f n tx_g0 (fun c => I (35 + c)) k l b ∧ I (38 + 7 * k) l ≤ 300 := by
    intro l l0 l1 h
    cases q : lw_f f n l D with
    | none => exact absurd (((hl l l0 l1).1 (lw_fN D q)).symm.trans (e2 l)).symm h
    | some b =>
      obtain ⟨q1, q2⟩ := lw_fS D q
      have hL := (hl l l0 l1).2 b q1 q2
      refine ⟨b, rfl, hL, ?_⟩
      have a3 := hL.1.2.2.1
      have a3 : I (35 + (3 + 7 * k)) l ≤ I (35 + 7 * k) 1 := a3
      rw [show 35 + (3 + 7 * k) = 38 + 7 * k by omega] at a3
      omega
  refine ⟨fun h => (by rw [hP] at h; cases h), fun j hj => ?_⟩
  have ej : k = j := Option.some.inj (hP.symm.trans hj)
  subst ej
  refine ⟨hk, fun h N => ?_, fun h N => ?_, fun h => ?_, fun h => ?_⟩
  · show lw_1 f n 0 0 2 (fun _ => 1) D N = 1
    unfold lw_1
    rw [no 0 (by decide) (by decide) h]
  · show lw_1 f n 1 0 10 (fun N => if 0 < N 6 then 0 else 5) D N = _
    unfold lw_1
    rw [no 1 (by decide) (by decide) h]
  · obtain ⟨b, q1, q2, q3⟩ := yes 0 (by decide) (by decide) h
    refine ⟨lw_v f n 0 b, xc_of1 hk (fun _ _ => lw_cN0) q3 q2, fun N => ?_⟩
    show lw_1 f n 0 0 2 (fun _ => 1) D N = _
    unfold lw_1
    rw [q1]
  · obtain ⟨b, q1, q2, q3⟩ := yes 1 (by decide) (by decide) h
    refine ⟨lw_v f n 1 b, xc_of1 hk (fun _ _ => lw_cN1) q3 q2, fun N => ?_⟩
    show lw_1 f n 1 0 10 (fun N => if 0 < N 6 then 0 else 5) D N = _
    unfold lw_1
    rw [q1]
theorem xc_of0 (hP : P 3 = none) : xc_X lw_X0 I P := ⟨fun _ N => ⟨rfl, rfl⟩, fun k hk => (by rw [hP] at hk; cases hk)⟩
/-- a law asked of the reference -/
theorem fl_267 {Q : Int → lf_Z → Prop} {d hi : Int} {df : (Int → Int) → Int} (hu : 0 ≤ a) (l2 : l ≤ 2) (hh : 0 ≤ hi) (hT : rs_X f n (s.1 98) (705 * a) D) (hN : rs_N f n l (s.1 104) N) (hd : d = df N) (q : ∀ (v : Int) (w : lf_Z), tr_f s w → v = lw_1 f n l 0 hi df D N → Q v w) : fw_267 a l d hi Q s := by
  obtain ⟨o, ho, ⟨hn, hc⟩, _, _⟩ := hT
  unfold fw_267
  refine ⟨fun x5 t => t = s ∧ ∃ D1 D2 : List Int, D = D1 ++ D2 ∧ x5 = D1.length ∧ lw_f f n l D = lw_f f n l D2, ?_, ⟨rfl, [], D, rfl, rfl, rfl⟩⟩
  intro x5 t ⟨et, D1, D2, eD, ex, ef⟩
  rw [et]
  unfold fw_267_p3
  intro _
  refine ⟨fun c => absurd c (by omega), fun _ _ _ _ => ?_⟩
  rw [hn]
  have lenD : D.length = D1.length + D2.length := by rw [eD, List.length_append]
  refine ⟨fun c => ?_, fun c _ _ _ => ?_⟩
  · have e2 : D2 = [] := by
      cases D2 with
      | nil => rfl
      | cons x D2 => rw [List.length_cons] at lenD; omega
    refine q d s tr_fr ?_
    unfold lw_1
    rw [ef, e2]
    exact hd
  · cases D2 with
    | nil => rw [List.length_nil] at lenD; omega
    | cons b D2 =>
      have at_ : D[D1.length]? = some b := by rw [eD, List.getElem?_append_right (Nat.le_refl _), Nat.sub_self]; rfl
      obtain ⟨h1, h2, h3⟩ := hc D1.length b at_
      rw [ex, h1]
      refine ⟨fun g => ?_, fun g => ⟨rfl, D1 ++ [b], D2, by rw [eD, List.append_assoc]; rfl, by rw [List.length_append, List.length_singleton]; omega, ?_⟩⟩
      · obtain ⟨m, o2, g1, g2, ⟨w, g3⟩, g4⟩ := h3 (by omega)
        rw [show lx_T f n b - 20 = l by omega] at g4
        have V := g4 (s.1 104) N
        refine fl_268 (M := s.1 104) (N := N) rfl g1 g2 (ln_ouS w (by rw [← g3]; exact ho)) (fun L0 => (V L0 hN).1) (fun L0 => (V L0 hN).2) (fun t tf _ => ?_)
        have fin : ∀ v : Int, v = max 0 (min hi (lw_v f n l b N)) → Q v t := fun v hv => by
          refine q v t tf ?_
          unfold lw_1
          rw [ef, show lw_f f n l (b :: D2) = some b from if_pos (by omega)]
          exact hv
        intro _
        refine ⟨fun c1 _ => ⟨fun c2 => fin _ ?_, fun c2 => fin _ ?_⟩, fun c1 => fin _ ?_⟩
        · show (dv_T f n l N 200).1 0 tx_g0 (fun _ => 0) (ds_ad f n b) = _
          unfold lw_v; omega
        · unfold lw_v; omega
        · unfold lw_v; omega
      · rw [ef]
        exact if_neg (by omega)
theorem xr_of (hu : 0 ≤ a) (hT : rs_X f n T (705 * a) D) : xr_X (lw_X f n D) T a :=
  ⟨fun u Q N e hN sN q => fl_267 (f := f) (n := n) (D := D) (df := fun _ => 1) hu (by decide) (by decide) (by rw [e]; exact hT) (lw_rN0 hN sN) rfl q, fun u Q N d e hN sN hd q => fl_267 (f := f) (n := n) (D := D) (df := fun N => if 0 < N 6 then 0 else 5) hu (by decide) (by decide) (by rw [e]; exact hT) (lw_rN1 hN sN) hd q⟩
theorem xr_of0 (hu : a < 0) : xr_X lw_X0 T a := by
  have key : ∀ (u : lf_Z) (Q : Int → lf_Z → Prop) (l d hi : Int), Q d u → fw_267 a l d hi Q u := by
    intro u Q l d hi h
    unfold fw_267
    refine ⟨fun x5 t => t = u, ?_, rfl⟩
    intro x5 t et
    rw [et]
    unfold fw_267_p3
    intro _
    exact ⟨fun _ => h, fun c => absurd hu c⟩
  exact ⟨fun u Q N _ _ _ q => key u Q 0 1 2 (q 1 u tr_fr rfl), fun u Q N d _ _ _ hd q => key u Q 1 d 10 (q d u tr_fr hd)⟩
end LW
