/-! whom: the reference: rows -/
section WP
variable {J K : Nat → Int → Int} {s t u : lf_Z} {f g sv M : Int → Int} {H : List rr_H} {X : mn_X} {I : Nat → Int → Int} {a x y : Int} {b : Nat}
/-- cells that hold a row -/
def en_h (c : Int → Int) (r : List Nat) : Prop := ∀ j p : Nat, r[j]? = some p → c j = p
theorem en_nM : ∀ l : List Nat, (∀ y ∈ l, y + 1 = b) → en_n b l = none := by
  intro l
  induction l with
  | nil => intro _; rfl
  | cons d l ih =>
    intro h
    have e := ih (fun y hy => h y (List.mem_cons_of_mem _ hy))
    have hd := h d (List.mem_cons.mpr (Or.inl rfl))
    unfold en_n
    rw [e]
    exact if_neg (by omega)
theorem en_nS {d : Nat} {suf : List Nat} (hd : d + 1 < b) (hs : ∀ y ∈ suf, y + 1 = b) : ∀ pre : List Nat, en_n b (pre ++ d :: suf) = some (pre ++ (d + 1) :: List.replicate suf.length 0) := by
  intro pre
  induction pre with
  | nil =>
    show en_n b (d :: suf) = some ((d + 1) :: List.replicate suf.length 0)
    unfold en_n
    rw [en_nM suf hs]
    exact if_pos hd
  | cons c pre ih =>
    show en_n b (c :: (pre ++ d :: suf)) = some (c :: (pre ++ (d + 1) :: List.replicate suf.length 0))
    unfold en_n
    rw [ih]
theorem en_hA {c : Int → Int} {l : List Nat} {m : Nat} (h : en_h c (l ++ [m])) : en_h c l ∧ c l.length = m := by
  refine ⟨fun j p hp => h j p ?_, h l.length m ?_⟩
  · rw [List.getElem?_append_left (wm_lt hp)]; exact hp
  · rw [List.getElem?_append_right (Nat.le_refl _), Nat.sub_self]; rfl
theorem en_last : ∀ l : List Nat, l = [] ∨ ∃ (l' : List Nat) (d : Nat), l = l' ++ [d] := by
  intro l
  induction l with
  | nil => exact Or.inl rfl
  | cons a l ih =>
    rcases ih with q | ⟨l', d, q⟩
    · exact Or.inr ⟨[], a, by rw [q]; rfl⟩
    · exact Or.inr ⟨a :: l', d, by rw [q]; rfl⟩
/-- the next row -/
theorem fl_304 {Q : Bool → lf_Z → Prop} {r : List Nat} {n : Int} (hn : n = r.length) (hb : ∀ y ∈ r, y < b) (h : en_h (s.1 116) r) (k : ∀ t : lf_Z, (∀ c : Nat, c ≠ 116 → t.1 c = s.1 c) → t.2 = s.2 → (∀ r', en_n b r = some r' → en_h (t.1 116) r' → Q true t) ∧ (en_n b r = none → Q false t)) : fw_304 n b Q s := by
  unfold fw_304
  refine ⟨fun x t => (∀ c : Nat, c ≠ 116 → t.1 c = s.1 c) ∧ t.2 = s.2 ∧ ∃ pre suf : List Nat, r = pre ++ suf ∧ x = (pre.length : Int) - 1 ∧ (∀ y ∈ suf, y + 1 = b) ∧ en_h (t.1 116) pre ∧ ∀ j : Nat, j < suf.length → t.1 116 ((pre.length + j : Nat) : Int) = 0, ?_, ⟨fun _ _ => rfl, rfl, r, [], (List.append_nil r).symm, by rw [hn], (fun y hy => by cases hy), h, fun j hj => absurd hj (Nat.not_lt_zero _)⟩⟩
  intro x t ⟨tc, t2, pre, suf, er, ex, hs, hp, hz⟩
  unfold fw_304_p4
  intro _
  refine ⟨fun y => ?_, fun y _ _ _ => ⟨fun y2 => ?_, fun y2 => ?_⟩⟩
  · have pl : pre = [] := List.eq_nil_of_length_eq_zero (by omega)
    unfold fw_304_p33
    intro _
    refine ⟨fun y3 => by omega, fun _ => (k t tc t2).2 ?_⟩
    rw [er, pl]
    exact en_nM suf hs
  all_goals
    obtain ⟨pre', d, ep⟩ : ∃ pre' d, pre = pre' ++ [d] := by
      rcases en_last pre with q | ⟨l, d, q⟩
      · rw [q] at ex; exact absurd ex (by show ¬ x = ((0 : Nat) : Int) - 1; omega)
      · exact ⟨l, d, q⟩
    have len : pre.length = pre'.length + 1 := by rw [ep, List.length_append]; rfl
    rw [ep] at hp
    obtain ⟨hp', cd⟩ := en_hA hp
    have ex' : x = (pre'.length : Int) := by omega
    have db : d < b := hb d (by rw [er, ep]; simp)
    rw [ex', cd] at y2
  · unfold fw_304_p33
    intro _
    refine ⟨fun _ _ => ?_, fun y3 => absurd y3 (by omega)⟩
    have e1 := en_nS (b := b) (d := d) (suf := suf) (by omega) hs pre'
    have er' : r = pre' ++ d :: suf := by rw [er, ep]; simp
    rw [← er'] at e1
    obtain ⟨u, hu⟩ : ∃ u : lf_Z, u = (lf_up t.1 116 x (t.1 116 x + 1), t.2.1, t.2.2) := ⟨_, rfl⟩
    rw [← hu]
    refine (k u (fun c hc => by rw [hu]; exact (zu_r hc).trans (tc c hc)) (by rw [hu]; exact t2)).1 _ e1 (fun j p hj => ?_)
    by_cases q : j < pre'.length
    · rw [List.getElem?_append_left q] at hj
      rw [hu]
      exact (zu_i (by omega)).trans (hp' j p hj)
    · rw [List.getElem?_append_right (by omega)] at hj
      cases z : j - pre'.length with
      | zero =>
        rw [z] at hj
        have e : d + 1 = p := by simpa using hj
        rw [hu, show (j : Int) = x by omega]
        refine zu_s.trans ?_
        rw [ex', cd]
        omega
      | succ m =>
        rw [z] at hj
        have hj : (List.replicate suf.length 0)[m]? = some p := by simpa using hj
        have ml := wm_lt hj
        rw [List.length_replicate] at ml
        have p0 : p = 0 := by
          rw [List.getElem?_replicate, if_pos ml] at hj
          exact (Option.some.inj hj).symm
        rw [hu]
        refine (zu_i (by omega)).trans ?_
        rw [show (j : Int) = ((pre.length + m : Nat) : Int) by omega, hz m ml, p0]
        rfl
  · refine ⟨fun c hc => (zu_r hc).trans (tc c hc), t2, pre', d :: suf, by rw [er, ep]; simp, by omega, fun y hy => ?_, fun j p hj => ?_, fun j hj => ?_⟩
    · rcases List.mem_cons.mp hy with q | q
      · rw [q]; omega
      · exact hs y q
    · have jl := wm_lt hj
      exact (zu_i (by omega)).trans (hp' j p hj)
    · rw [List.length_cons] at hj
      cases j with
      | zero =>
        rw [show ((pre'.length + 0 : Nat) : Int) = x by omega]
        exact zu_s
      | succ j =>
        rw [show ((pre'.length + (j + 1) : Nat) : Int) = ((pre.length + j : Nat) : Int) by omega]
        exact (zu_i (by omega)).trans (hz j (by omega))
/-- all unlike, and none of U -/
def en_d : List Nat → List Nat → Bool
  | _, [] => true
  | U, d :: r => decide (¬ d ∈ U) && en_d (d :: U) r
theorem fl_303 {Q : Bool → lf_Z → Prop} {r : List Nat} {n : Int} (hn : n = r.length) (hb : ∀ y ∈ r, y < 6) (h : en_h (s.1 116) r) (k1 : en_d [] r = true → Q true s) (k2 : en_d [] r = false → Q false s) : fw_303 n Q s := by
  unfold fw_303
  refine ⟨fun x2 x3 t => t = s ∧ ∃ (m : Nat) (U R : List Nat), x3 = m ∧ m + R.length = r.length ∧ en_d [] r = en_d U R ∧ (∀ j p : Nat, R[j]? = some p → r[m + j]? = some p) ∧ (∀ y ∈ R, y < 6) ∧ ∀ q : Nat, q < 6 → (bt_t x2 (q : Int) = true ↔ q ∈ U), ?_, ⟨rfl, 0, [], r, rfl, by omega, rfl, fun j p hj => by rw [Nat.zero_add]; exact hj, hb, fun q hq => ⟨(fun y => by rw [bt_t0] at y; cases y), (fun y => by cases y)⟩⟩⟩
  intro x2 x3 t ⟨et, m, U, R, e3, hl, hd, hR, hR6, hU⟩
  rw [et]
  unfold fw_303_p4
  rw [e3]
  intro _ _
  refine ⟨fun y => ?_, fun y _ => ?_⟩
  · have e : R = [] := List.eq_nil_of_length_eq_zero (by omega)
    exact k1 (by rw [hd, e]; rfl)
  · cases R with
    | nil => have hl : m + 0 = r.length := hl; omega
    | cons d R =>
      have cd : s.1 116 m = d := h m d (hR 0 d rfl)
      have d6 := hR6 d (List.mem_cons.mpr (Or.inl rfl))
      have st : en_d U (d :: R) = (decide (¬ d ∈ U) && en_d (d :: U) R) := rfl
      rw [cd]
      refine fl_210 (by omega) (by omega) ⟨fun z => ?_, fun z => ?_⟩
      · rw [cd]
        have nd : ¬ d ∈ U := fun q => by rw [(hU d d6).mpr q] at z; cases z
        rw [List.length_cons] at hl
        refine ⟨rfl, m + 1, d :: U, R, by omega, by omega, ?_, fun j p hj => ?_, fun y hy => hR6 y (List.mem_cons_of_mem _ hy), fun q hq => ?_⟩
        · rw [hd, st, decide_eq_true nd, Bool.true_and]
        · rw [show m + 1 + j = m + (j + 1) by omega]
          exact hR (j + 1) p hj
        · rw [bt_Tor (by omega) (by omega) (by omega) (by omega), Bool.or_eq_true, hU q hq, decide_eq_true_eq, List.mem_cons]
          constructor
          · intro w
            rcases w with w | w
            · exact Or.inr w
            · exact Or.inl (by omega)
          · intro w
            rcases w with w | w
            · exact Or.inr (by omega)
            · exact Or.inl w
      · refine k2 ?_
        rw [hd, st, decide_eq_false (not_not_intro ((hU d d6).mp z)), Bool.false_and]
end WP
/-! whom: the reference: the sets, the search -/
section WQ
variable {J K : Nat → Int → Int} {s t u : lf_Z} {f g sv M : Int → Int} {H : List rr_H} {X : mn_X} {I : Nat → Int → Int} {a x y : Int} {b : Nat} {l : Nat → Nat}
theorem fl_301 {Q : Int → lf_Z → Prop} (k : ∀ t : lf_Z, (∀ c : Nat, c ≠ 113 → t.1 c = s.1 c) → t.2 = s.2 → (∀ e : Nat, e < dm_cn (fun k => bt_t a (k : Int)) 12 → t.1 113 e = (en_sel (fun k => bt_t a (k : Int)) 12 e : Nat)) → Q (dm_cn (fun k => bt_t a (k : Int)) 12 : Nat) t) : fw_301 a Q s := by
  obtain ⟨B, hB⟩ : ∃ B : Nat → Bool, B = fun k : Nat => bt_t a (k : Int) := ⟨_, rfl⟩
  rw [← hB] at k
  unfold fw_301
  refine ⟨fun x2 x3 t => (∀ c : Nat, c ≠ 113 → t.1 c = s.1 c) ∧ t.2 = s.2 ∧ ∃ m : Nat, x3 = m ∧ m ≤ 12 ∧ x2 = (dm_cn B m : Nat) ∧ ∀ e : Nat, e < dm_cn B m → t.1 113 e = (en_sel B m e : Nat), ?_, ⟨fun _ _ => rfl, rfl, 0, rfl, by decide, rfl, fun e he => absurd he (Nat.not_lt_zero _)⟩⟩
  intro x2 x3 t ⟨tc, t2, m, e3, m1, e2, te⟩
  have st1 : dm_cn B (m + 1) = dm_cn B m + (if B m = true then 1 else 0) := rfl
  have st2 : ∀ e : Nat, en_sel B (m + 1) e = if B m = true ∧ e = dm_cn B m then m else en_sel B m e := fun e => rfl
  have eB : B m = bt_t a (m : Int) := by rw [hB]
  unfold fw_301_p4
  rw [e3, e2]
  intro _
  refine ⟨fun y => ?_, fun y => fl_210 (by omega) (by omega) ⟨fun z _ => ?_, fun z => ?_⟩⟩
  · have em : m = 12 := by omega
    subst em
    exact k t tc t2 te
  · rw [← eB] at z
    unfold fw_301_p28
    refine ⟨fun c hc => (zu_r hc).trans (tc c hc), t2, m + 1, by omega, by omega, ?_, fun e he => ?_⟩
    · rw [st1, if_pos z]; omega
    · rw [st1, if_pos z] at he
      rw [st2]
      by_cases y4 : e = dm_cn B m
      · rw [if_pos ⟨z, y4⟩, y4]; exact zu_s
      · rw [if_neg (fun y5 => y4 y5.2)]
        exact (zu_i (by omega)).trans (te e (by omega))
  · rw [← eB] at z
    unfold fw_301_p28
    refine ⟨tc, t2, m + 1, by omega, by omega, ?_, fun e he => ?_⟩
    · rw [st1, if_neg (by rw [z]; decide), Nat.add_zero]
    · rw [st1, if_neg (by rw [z]; decide), Nat.add_zero] at he
      rw [st2, if_neg (fun y5 => by rw [z] at y5; cases y5.1)]
      exact te e he
theorem fl_301b {Q : Int → lf_Z → Prop} (k : ∀ t : lf_Z, (∀ c : Nat, c ≠ 114 → t.1 c = s.1 c) → t.2 = s.2 → (∀ e : Nat, e < dm_cn (fun k => bt_t a (k : Int)) 12 → t.1 114 e = (en_sel (fun k => bt_t a (k : Int)) 12 e : Nat)) → Q (dm_cn (fun k => bt_t a (k : Int)) 12 : Nat) t) : fw_301b a Q s := by
  obtain ⟨B, hB⟩ : ∃ B : Nat → Bool, B = fun k : Nat => bt_t a (k : Int) := ⟨_, rfl⟩
  rw [← hB] at k
  unfold fw_301b
  refine ⟨fun x2 x3 t => (∀ c : Nat, c ≠ 114 → t.1 c = s.1 c) ∧ t.2 = s.2 ∧ ∃ m : Nat, x3 = m ∧ m ≤ 12 ∧ x2 = (dm_cn B m : Nat) ∧ ∀ e : Nat, e < dm_cn B m → t.1 114 e = (en_sel B m e : Nat), ?_, ⟨fun _ _ => rfl, rfl, 0, rfl, by decide, rfl, fun e he => absurd he (Nat.not_lt_zero _)⟩⟩
  intro x2 x3 t ⟨tc, t2, m, e3, m1, e2, te⟩
  have st1 : dm_cn B (m + 1) = dm_cn B m + (if B m = true then 1 else 0) := rfl
  have st2 : ∀ e : Nat, en_sel B (m + 1) e = if B m = true ∧ e = dm_cn B m then m else en_sel B m e := fun e => rfl
  have eB : B m = bt_t a (m : Int) := by rw [hB]
  unfold fw_301b_p4
  rw [e3, e2]
  intro _
  refine ⟨fun y => ?_, fun y => fl_210 (by omega) (by omega) ⟨fun z _ => ?_, fun z => ?_⟩⟩
  · have em : m = 12 := by omega
    subst em
    exact k t tc t2 te
  · rw [← eB] at z
    unfold fw_301b_p28
    refine ⟨fun c hc => (zu_r hc).trans (tc c hc), t2, m + 1, by omega, by omega, ?_, fun e he => ?_⟩
    · rw [st1, if_pos z]; omega
    · rw [st1, if_pos z] at he
      rw [st2]
      by_cases y4 : e = dm_cn B m
      · rw [if_pos ⟨z, y4⟩, y4]; exact zu_s
      · rw [if_neg (fun y5 => y4 y5.2)]
        exact (zu_i (by omega)).trans (te e (by omega))
  · rw [← eB] at z
    unfold fw_301b_p28
    refine ⟨tc, t2, m + 1, by omega, by omega, ?_, fun e he => ?_⟩
    · rw [st1, if_neg (by rw [z]; decide), Nat.add_zero]
    · rw [st1, if_neg (by rw [z]; decide), Nat.add_zero] at he
      rw [st2, if_neg (fun y5 => by rw [z] at y5; cases y5.1)]
      exact te e he
/-- as the reference has it: 1000, if it can't be come to -/
def wm_r (J : Nat → Int → Int) (a x y : Int) : Int := if wm_t J a x y = -1 then 1000 else wm_t J a x y
theorem fl_299 {Q : Int → lf_Z → Prop} (hL : rr_L J (s.1 96)) (hW : mn_W J) (hB : mn_B J) (a0 : 0 ≤ a ∧ a < J 1 2) (x0 : 0 ≤ x ∧ x < J 1 0) (y0 : 0 ≤ y ∧ y < J 1 0) (td : s.1 108 x = mn_d J 13 x y) (h : Q (wm_r J a x y) s) : fw_299 a x Q s := by
  have nn := hW.2.2.2.2.2.1.2.1 x y x0.1 x0.2 y0.1 y0.2
  have b8 := (hB.2 a).1
  unfold fw_299
  intro _
  rw [td]
  intro _
  refine ⟨fun c => fl_239d ?_, fun c => qu_to h ?_⟩
  · rw [(hL.2.2.2.2.2 a a0.1 a0.2).2.1, td]
    intro _
    refine ⟨fun y8 => qu_to h ?_, fun y8 _ => qu_to h ?_⟩
    · have e : wm_t J a x y = mn_d J 13 x y := (if_neg (show ¬ 1000 ≤ mn_d J 13 x y by omega)).trans (if_pos (show J 8 a = 0 by omega))
      unfold wm_r
      rw [e, if_neg (by omega)]
    · have e : wm_t J a x y = (mn_d J 13 x y + 1).tdiv 2 := (if_neg (show ¬ 1000 ≤ mn_d J 13 x y by omega)).trans (if_neg (show ¬ J 8 a = 0 by omega))
      have e2 : (mn_d J 13 x y + 1).tdiv 2 = (mn_d J 13 x y + 1) / 2 := Int.tdiv_eq_ediv_of_nonneg (by omega)
      unfold wm_r
      rw [e, if_neg (by omega)]
  · have e : wm_t J a x y = -1 := if_pos (show 1000 ≤ mn_d J 13 x y by omega)
    unfold wm_r
    rw [if_pos e]
theorem en_l0 {W : Type} {step : Nat → W → Nat → Option W} {val : W → Int} {e i : Nat} {r ch : List Nat} {w : W} {st : en_S} (h : step i w (l e) = none) : en_l step val l (e :: r) i w ch st = st := by
  unfold en_l
  rw [h]
theorem en_l1 {W : Type} {step : Nat → W → Nat → Option W} {val : W → Int} {e i : Nat} {r ch : List Nat} {w w' : W} {st : en_S} (h : step i w (l e) = some w') : en_l step val l (e :: r) i w ch st = en_l step val l r (i + 1) w' (ch ++ [l e]) st := by
  conv => lhs; unfold en_l
  rw [h]
/-- the most, number by number -/
def en_mx (V : Nat → Nat → Int) : Int → List Nat → Nat → Int
  | x, [], _ => x
  | x, e :: r, i => en_mx V (max x (V e i)) r (i + 1)
/-- a row as the reference looks at it -/
def en_y (r : List Nat) : Int := if en_d [] r = true then 0 else 1000
theorem en_mxG (V : Nat → Nat → Int) : ∀ (r : List Nat) (x : Int) (i : Nat), x ≤ en_mx V x r i := by
  intro r
  induction r with
  | nil => intro x i; exact Int.le_refl x
  | cons e r ih =>
    intro x i
    have := ih (max x (V e i)) (i + 1)
    show x ≤ en_mx V (max x (V e i)) r (i + 1)
    omega
theorem en_yB (r : List Nat) : 0 ≤ en_y r := by
  unfold en_y
  split <;> omega
def en_lf (V : Nat → Nat → Int) (l : Nat → Nat) (r : List Nat) (st : en_S) : en_S := if en_mx V (en_y r) r 0 < (if st.1 = -1 then 1000 else st.1) then (en_mx V (en_y r) r 0, r.map l) else st
/-- how the reference keeps what is best so far -/
def wr_s (b n : Nat) (l : Nat → Nat) (st : en_S) (x : Int) (c : Int → Int) : Prop := x = (if st.1 = -1 then 1000 else st.1) ∧ (st.1 = -1 ∨ ∃ D : List Nat, D.length = n ∧ (∀ y ∈ D, y < b) ∧ st.2 = D.map l ∧ en_h c D)
def wr_f (s t : lf_Z) : Prop := (∀ c : Nat, c ≠ 116 → c ≠ 117 → t.1 c = s.1 c) ∧ t.2 = s.2
def wr_3 (V : Nat → Nat → Int) (l : Nat → Nat) (b n : Nat) (s : lf_Z) (T : en_S) (x3 x4 : Int) (t : lf_Z) : Prop := wr_f s t ∧ ∃ st : en_S, wr_s b n l st x3 (t.1 117) ∧ ((x4 = 0 ∧ st = T) ∨ (x4 = 1 ∧ ∃ r : List Nat, r.length = n ∧ (∀ y ∈ r, y < b) ∧ en_h (t.1 116) r ∧ en_F b r (en_lf V l) st = T))
theorem en_nB (hb : 0 < b) : ∀ r r' : List Nat, (∀ y ∈ r, y < b) → en_n b r = some r' → ∀ y ∈ r', y < b := by
  intro r
  induction r with
  | nil => intro r' _ h; cases h
  | cons d r ih =>
    intro r' hr h
    unfold en_n at h
    cases q : en_n b r with
    | some z =>
      rw [q] at h
      have e := Option.some.inj h
      rw [← e]
      intro y hy
      rcases List.mem_cons.mp hy with w | w
      · rw [w]; exact hr d (List.mem_cons.mpr (Or.inl rfl))
      · exact ih z (fun y hy => hr y (List.mem_cons_of_mem _ hy)) q y w
    | none =>
      rw [q] at h
      have h : (if d + 1 < b then some ((d + 1) :: List.replicate r.length 0) else none) = some r' := h
      by_cases c : d + 1 < b
      · rw [if_pos c] at h
        have e := Option.some.inj h
        rw [← e]
        intro y hy
        rcases List.mem_cons.mp hy with w | w
        · omega
        · have := List.eq_of_mem_replicate w
          omega
      · rw [if_neg c] at h; cases h
theorem fl_302l {Q : Int → lf_Z → Prop} {V : Nat → Nat → Int} {n : Nat} {T : en_S} {x3 : Int} (hb0 : 0 < b) (hb6 : b ≤ 6) (hV : ∀ e i : Nat, e < b → i < n → s.1 115 (12 * (e : Int) + i) = V e i) (h0 : wr_3 V l b n s T x3 1 s) (k : ∀ (x : Int) (t : lf_Z), wr_f s t → wr_s b n l T x (t.1 117) → Q x t) : fw_302_p30L Q n b x3 1 s := by
  refine ⟨wr_3 V l b n s T, ?_, h0⟩
  intro x3 x4 t ⟨tf, st, ts, tr⟩
  unfold fw_302_p30
  intro _
  refine ⟨fun y => ?_, fun y => ?_⟩
  · rcases tr with ⟨_, q⟩ | ⟨q, _⟩
    · rw [← q] at k
      exact k x3 t tf ts
    · omega
  obtain ⟨_, r, hr, hrb, h116, hT⟩ : x4 = 1 ∧ ∃ r : List Nat, r.length = n ∧ (∀ y ∈ r, y < b) ∧ en_h (t.1 116) r ∧ en_F b r (en_lf V l) st = T := by
    rcases tr with ⟨q, _⟩ | q
    · exact absurd q y
    · exact q
  have tV : ∀ e i : Nat, e < b → i < n → t.1 115 (12 * (e : Int) + i) = V e i := fun e i he hi => by rw [tf.1 115 (by decide) (by decide)]; exact hV e i he hi
  have go : ∀ y0 : Int, y0 = en_y r → fw_302_p50 (wr_3 V l b n s T) Q n b x3 y0 t := fun y0 ey => by
    unfold fw_302_p50
    refine ⟨fun x5 x6 u => u = t ∧ ∃ (m : Nat) (R : List Nat), x6 = m ∧ m + R.length = n ∧ (∀ j p : Nat, R[j]? = some p → r[m + j]? = some p) ∧ en_mx V y0 r 0 = en_mx V x5 R m, ?_, ⟨rfl, 0, r, rfl, by omega, fun j p hj => by rw [Nat.zero_add]; exact hj, rfl⟩⟩
    intro x5 x6 u ⟨eu, m, R, e6, hl, hR, em⟩
    rw [eu]
    unfold fw_302_p55
    rw [e6]
    intro _ _
    refine ⟨fun y2 => ?_, fun y2 _ _ => ?_⟩
    · have eR : R = [] := List.eq_nil_of_length_eq_zero (by omega)
      rw [eR] at em
      have em : en_mx V (en_y r) r 0 = x5 := by rw [← ey]; exact em
      obtain ⟨st', hst'⟩ : ∃ st' : en_S, st' = en_lf V l r st := ⟨_, rfl⟩
      have eF := en_Fn (b := b) r (en_lf V l) st
      rw [hT, ← hst'] at eF
      have e3 := ts.1
      have fin : ∀ (z : Int) (u : lf_Z), wr_f t u → u.1 116 = t.1 116 → wr_s b n l st' z (u.1 117) → fw_302_p162 (wr_3 V l b n s T) Q n b z u := fun z u uf u116 us => by
        unfold fw_302_p162
        refine fl_304 (r := r) (by omega) hrb (by rw [u116]; exact h116) (fun v vc v2 => ⟨fun r' er hv => ?_, fun er => ?_⟩)
        · refine ⟨⟨fun c h1 h2 => (vc c h1).trans ((uf.1 c h1 h2).trans (tf.1 c h1 h2)), v2.trans (uf.2.trans tf.2)⟩, st', by rw [vc 117 (by decide)]; exact us, Or.inr ⟨rfl, r', (en_nL r r' er).trans hr, en_nB hb0 r r' hrb er, hv, ?_⟩⟩
          rw [er] at eF
          exact eF.symm
        · refine ⟨⟨fun c h1 h2 => (vc c h1).trans ((uf.1 c h1 h2).trans (tf.1 c h1 h2)), v2.trans (uf.2.trans tf.2)⟩, st', by rw [vc 117 (by decide)]; exact us, Or.inl ⟨rfl, ?_⟩⟩
          rw [er] at eF
          exact eF.symm
      refine ⟨fun x u => wr_f t u ∧ u.1 116 = t.1 116 ∧ 0 ≤ x ∧ (x5 < x3 → ∀ j p : Nat, (j : Int) < x → r[j]? = some p → u.1 117 j = p) ∧ (¬ x5 < x3 → u.1 117 = t.1 117), ?_, ⟨⟨fun _ _ _ => rfl, rfl⟩, rfl, Int.le_refl 0, fun _ j p h1 _ => by omega, fun _ => rfl⟩⟩
      intro x u ⟨uf, u116, ux, uy, un⟩
      have p150 : (x5 < x3 → (n : Int) ≤ x) → fw_302_p150 (wr_3 V l b n s T) Q n b x3 x5 u := fun hx => by
        unfold fw_302_p150
        intro _ _
        refine ⟨fun z => ?_, fun z => ?_⟩
        · have nz : ¬ x5 < x3 := by omega
          refine fin x3 u uf u116 ?_
          have e : st' = st := by
            rw [hst']
            exact if_neg (by rw [em, ← e3]; exact nz)
          rw [e, un nz]
          exact ts
        · have pz : x5 < x3 := by omega
          refine fin x5 u uf u116 ?_
          have e : st' = (x5, r.map l) := by
            rw [hst']
            have q : en_lf V l r st = (en_mx V (en_y r) r 0, r.map l) := if_pos (by rw [em, ← e3]; exact pz)
            rw [q, em]
          have nm : x5 ≠ -1 := by
            have g1 := en_mxG V r (en_y r) 0
            have g2 := en_yB r
            omega
          rw [e]
          exact ⟨(if_neg nm).symm, Or.inr ⟨r, hr, hrb, rfl, fun j p hj => uy pz j p (by have := wm_lt hj; have := hx pz; omega) hj⟩⟩
      unfold fw_302_p118
      intro _ _
      refine ⟨fun z => p150 (fun _ => z), fun z _ _ => ⟨fun z2 => p150 (fun z3 => by omega), fun z2 z3 => ?_⟩⟩
      have z4 : x5 < x3 := by omega
      refine ⟨⟨fun c h1 h2 => (zu_r h2).trans (uf.1 c h1 h2), uf.2⟩, (zu_r (by decide)).trans u116, by omega, fun _ j p hj hp => ?_, fun q => absurd z4 q⟩
      by_cases q : (j : Int) = x
      · rw [q]
        refine zu_s.trans ?_
        rw [u116, ← q]
        exact h116 j p hp
      · exact (zu_i q).trans (uy z4 j p (by omega) hp)
    · cases R with
      | nil => have hl : m + 0 = n := hl; omega
      | cons d R =>
        have hd := hR 0 d rfl
        have cd : t.1 116 m = d := h116 m d hd
        have db : d < b := hrb d (List.mem_of_getElem? hd)
        rw [List.length_cons] at hl
        rw [cd, tV d m db (by omega)]
        intro _ _
        have em' : en_mx V y0 r 0 = en_mx V (max x5 (V d m)) R (m + 1) := em
        have hR' : ∀ j p : Nat, R[j]? = some p → r[m + 1 + j]? = some p := fun j p hj => by
          rw [show m + 1 + j = m + (j + 1) by omega]
          exact hR (j + 1) p hj
        unfold fw_302_p107
        refine ⟨fun z => ⟨rfl, m + 1, R, by omega, by omega, hR', ?_⟩, fun z => ⟨rfl, m + 1, R, by omega, by omega, hR', ?_⟩⟩
        · rw [em', show max x5 (V d m) = x5 by omega]
        · rw [em', show max x5 (V d m) = V d m by omega]
  refine fl_303 (r := r) (by omega) (fun y hy => by have := hrb y hy; omega) h116 (fun q => ⟨(fun z => by cases z), fun _ => go 0 (if_pos q).symm⟩) (fun q => ⟨fun _ => go 1000 (if_neg (by rw [q]; decide)).symm, (fun z => by cases z)⟩)
theorem fl_302 {Q : Int → lf_Z → Prop} {V : Nat → Nat → Int} {n : Nat} (hb0 : 0 < b) (hb6 : b ≤ 6) (hV : ∀ e i : Nat, e < b → i < n → s.1 115 (12 * (e : Int) + i) = V e i) (k : ∀ (x : Int) (t : lf_Z), wr_f s t → wr_s b n l (en_A b n (en_lf V l) (-1, [])) x (t.1 117) → Q x t) : fw_302 n b Q s := by
  unfold fw_302
  refine ⟨fun x t => wr_f s t ∧ 0 ≤ x ∧ ∀ j : Int, 0 ≤ j → j < x → t.1 116 j = 0, ?_, ⟨⟨fun _ _ _ => rfl, rfl⟩, Int.le_refl 0, fun j h1 h2 => by omega⟩⟩
  intro x t ⟨tf, x0, tz⟩
  unfold fw_302_p7
  intro _ _
  refine ⟨fun y => ?_, fun y _ => ⟨⟨fun c h1 h2 => (zu_r h1).trans (tf.1 c h1 h2), tf.2⟩, by omega, fun j h1 h2 => ?_⟩⟩
  · refine fl_302l (s := t) (V := V) (l := l) (T := en_A b n (en_lf V l) (-1, [])) hb0 hb6 (fun e i he hi => by rw [tf.1 115 (by decide) (by decide)]; exact hV e i he hi) ⟨⟨fun _ _ _ => rfl, rfl⟩, (-1, []), ⟨rfl, Or.inl rfl⟩, Or.inr ⟨rfl, List.replicate n 0, List.length_replicate, fun y hy => by rw [List.eq_of_mem_replicate hy]; exact hb0, fun j p hj => ?_, en_FA hb0 n (en_lf V l) (-1, [])⟩⟩ (fun x u uf us => k x u ⟨fun c h1 h2 => (uf.1 c h1 h2).trans (tf.1 c h1 h2), uf.2.trans tf.2⟩ us)
    have jl := wm_lt hj
    rw [List.length_replicate] at jl
    rw [List.getElem?_replicate, if_pos jl] at hj
    have p0 : p = 0 := (Option.some.inj hj).symm
    rw [tz j (by omega) (by omega), p0]
    rfl
  · by_cases q : j = x
    · rw [q]; exact zu_s
    · exact (zu_i q).trans (tz j h1 (by omega))
/-! the two searches are one -/
/-- a row by its numbers, as the class looks at it -/
theorem en_lE {J : Nat → Int → Int} {f : Int → Int} {P : Nat → Bool} {gl : Nat → Int} {V : Nat → Nat → Int} {n : Nat} (hl : ∀ e e' : Nat, e < b → e' < b → l e = l e' → e = e') (hP : ∀ e : Nat, e < b → P (l e) = true) (hV : ∀ e i : Nat, e < b → i < n → V e i = (if wm_t J (l e) (f (12 + 2 * ((l e : Nat) : Int))) (gl i) = -1 then 1000 else wm_t J (l e) (f (12 + 2 * ((l e : Nat) : Int))) (gl i))) (hB : ∀ e i : Nat, e < b → i < n → wm_t J (l e) (f (12 + 2 * ((l e : Nat) : Int))) (gl i) < 1000) : ∀ (r : List Nat) (i : Nat) (U : List Nat) (lat : Int) (ch : List Nat) (st : en_S), (∀ y ∈ r, y < b) → (∀ y ∈ U, y < b) → i + r.length = n → 0 ≤ lat → lat < 1000 → (st.1 = -1 ∨ st.1 < 1000) → en_l (wm_st J f P gl) wm_v l r i (U.map l, lat) ch st = if en_d U r = true ∧ en_mx V lat r i < (if st.1 = -1 then 1000 else st.1) then (en_mx V lat r i, ch ++ r.map l) else st := by
  intro r
  induction r with
  | nil =>
    intro i U lat ch st _ _ _ l0 l1 hs
    show (if st.1 = -1 ∨ lat < st.1 then (lat, ch) else st) = if true = true ∧ lat < (if st.1 = -1 then 1000 else st.1) then (lat, ch ++ []) else st
    rw [List.append_nil]
    by_cases c : st.1 = -1
    · rw [if_pos (Or.inl c), if_pos c, if_pos ⟨rfl, l1⟩]
    · rw [if_neg c]
      by_cases d : lat < st.1
      · rw [if_pos (Or.inr d), if_pos ⟨rfl, d⟩]
      · rw [if_neg (fun q => by rcases q with q | q; exact c q; exact d q), if_neg (fun q => d q.2)]
  | cons e r ih =>
    intro i U lat ch st hr hU hi l0 l1 hs
    have he := hr e (List.mem_cons.mpr (Or.inl rfl))
    rw [List.length_cons] at hi
    have v := hV e i he (by omega)
    have vB := hB e i he (by omega)
    have mU : l e ∈ U.map l ↔ e ∈ U := by
      constructor
      · intro h
        obtain ⟨y, hy, ey⟩ := List.mem_map.mp h
        rw [← hl y e (hU y hy) he ey]; exact hy
      · intro h; exact List.mem_map.mpr ⟨e, h, rfl⟩
    have dE : en_d U (e :: r) = (decide (¬ e ∈ U) && en_d (e :: U) r) := rfl
    have mE : en_mx V lat (e :: r) i = en_mx V (max lat (V e i)) r (i + 1) := rfl
    have le := en_mxG V r (max lat (V e i)) (i + 1)
    by_cases c : e ∈ U
    · have q : wm_st J f P gl i (U.map l, lat) (l e) = none := if_neg (fun q => q.2.1 (mU.mpr c))
      rw [en_l0 q, if_neg (fun y => by rw [dE, decide_eq_false (not_not_intro c), Bool.false_and] at y; cases y.1)]
    · by_cases d : wm_t J (l e) (f (12 + 2 * ((l e : Nat) : Int))) (gl i) = -1
      · have q : wm_st J f P gl i (U.map l, lat) (l e) = none := if_neg (fun q => q.2.2 d)
        rw [if_pos d] at v
        rw [en_l0 q, if_neg (fun y => by
          have y2 := y.2
          rw [mE] at y2
          rcases hs with z | z
          · rw [if_pos z] at y2; omega
          · by_cases z2 : st.1 = -1
            · rw [if_pos z2] at y2; omega
            · rw [if_neg z2] at y2; omega)]
      · have q : wm_st J f P gl i (U.map l, lat) (l e) = some (l e :: U.map l, max lat (wm_t J (l e) (f (12 + 2 * ((l e : Nat) : Int))) (gl i))) := if_pos ⟨hP e he, fun z => c (mU.mp z), d⟩
        rw [if_neg d] at v
        rw [en_l1 q]
        have h := ih (i + 1) (e :: U) (max lat (V e i)) (ch ++ [l e]) st (fun y hy => hr y (List.mem_cons_of_mem _ hy)) (fun y hy => by
          rcases List.mem_cons.mp hy with z | z
          · rw [z]; exact he
          · exact hU y z) (by omega) (by omega) (by omega) hs
        show en_l (wm_st J f P gl) wm_v l r (i + 1) (l e :: U.map l, max lat (wm_t J (l e) (f (12 + 2 * ((l e : Nat) : Int))) (gl i))) (ch ++ [l e]) st = _
        rw [← v]
        refine h.trans ?_
        rw [dE, mE, decide_eq_true c, Bool.true_and, List.append_assoc]
        rfl
end WQ
/-! whom: both sides -/
section WR
variable {J K : Nat → Int → Int} {s t u : lf_Z} {f g sv M : Int → Int} {H : List rr_H} {X : mn_X} {I : Nat → Int → Int} {a b c x y : Int}
theorem en_uC {S : Type} {Inv : S → Prop} {g g' : Nat → S → S} {m : Nat} (h : ∀ e, e < m → ∀ st, Inv st → g e st = g' e st ∧ Inv (g e st)) : ∀ (k a : Nat) (st : S), a + k ≤ m → Inv st → en_u g k a st = en_u g' k a st ∧ Inv (en_u g k a st) := by
  intro k
  induction k with
  | zero => intro a st _ hi; exact ⟨rfl, hi⟩
  | succ k ih =>
    intro a st ha hi
    obtain ⟨h1, h2⟩ := h a (by omega) st hi
    obtain ⟨q1, q2⟩ := ih (a + 1) (g a st) (by omega) h2
    refine ⟨?_, q2⟩
    show en_u g k (a + 1) (g a st) = en_u g' k (a + 1) (g' a st)
    rw [q1, h1]
theorem en_AC {S : Type} {Inv : S → Prop} {m : Nat} : ∀ (n : Nat) (F G : List Nat → S → S) (st : S), (∀ r : List Nat, r.length = n → (∀ y ∈ r, y < m) → ∀ st, Inv st → F r st = G r st ∧ Inv (F r st)) → Inv st → en_A m n F st = en_A m n G st ∧ Inv (en_A m n F st) := by
  intro n
  induction n with
  | zero => intro F G st h hi; exact h [] rfl (fun y hy => by cases hy) st hi
  | succ n ih =>
    intro F G st h hi
    refine en_uC (m := m) (fun e he st hi => ih (fun r => F (e :: r)) (fun r => G (e :: r)) st (fun r hr hy st hi => h (e :: r) (by rw [List.length_cons, hr]) (fun y hm => ?_) st hi) hi) m 0 st (by omega) hi
    rcases List.mem_cons.mp hm with q | q
    · rw [q]; exact he
    · exact hy y q
def wm_l (J : Nat → Int → Int) (a : Int) (e : Nat) : Nat := en_sel (wm_P (J 1 2) a) (J 1 2).toNat e
def wm_V (J : Nat → Int → Int) (f : Int → Int) (a b : Int) (e i : Nat) : Int := wm_r J (wm_l J a e : Nat) (f (12 + 2 * ((wm_l J a e : Nat) : Int))) (wm_gl J b i)
def wm_m (J : Nat → Int → Int) (a : Int) : Nat := dm_cn (wm_P (J 1 2) a) (J 1 2).toNat
theorem wm_lI {e : Nat} (h : e < wm_m J a) : wm_P (J 1 2) a (wm_l J a e) = true ∧ ((wm_l J a e : Nat) : Int) < J 1 2 ∧ dm_cn (wm_P (J 1 2) a) (wm_l J a e) = e := by
  obtain ⟨h1, h2, h3⟩ := en_selI (P := wm_P (J 1 2) a) (J 1 2).toNat e h
  exact ⟨h1, by have : wm_l J a e < (J 1 2).toNat := h2; omega, h3⟩
/-- the class's search is the reference's -/
theorem wm_RE (hW : mn_W J) (hpl : ∀ p : Nat, (p : Int) < J 1 2 → 0 ≤ f (12 + 2 * (p : Int)) ∧ f (12 + 2 * (p : Int)) < J 1 0) (hgl : ∀ j : Nat, j < ws_b b → 0 ≤ wm_gl J b j ∧ wm_gl J b j < J 1 0) : wm_R J f a b = en_A (wm_m J a) (ws_b b) (en_lf (wm_V J f a b) (wm_l J a)) (-1, []) ∧ ((wm_R J f a b).1 = -1 ∨ (wm_R J f a b).1 < 1000) := by
  have w2 := hW.2.2.1
  have e1 : wm_R J f a b = en_D (wm_st J f (wm_P (J 1 2) a) (wm_gl J b)) wm_v (wm_l J a) (wm_m J a) (ws_b b) 0 ([], 0) [] (-1, []) := en_DL (P := wm_P (J 1 2) a) (m := (J 1 2).toNat) (fun i w p hp => if_neg (fun q => by rw [hp] at q; cases q.1)) (fun p hp hP => en_selE hp hP) (ws_b b) 0 ([], 0) [] (-1, [])
  have e2 := en_AC (S := en_S) (Inv := fun st => st.1 = -1 ∨ st.1 < 1000) (m := wm_m J a) (ws_b b) (fun r => en_l (wm_st J f (wm_P (J 1 2) a) (wm_gl J b)) wm_v (wm_l J a) r 0 ([], 0) []) (en_lf (wm_V J f a b) (wm_l J a)) (-1, []) (fun r hr hy st hi => ?_) (Or.inl rfl)
  · rw [e1]
    exact e2
  · have tb : ∀ e i : Nat, e < wm_m J a → i < ws_b b → -1 ≤ wm_t J (wm_l J a e : Nat) (f (12 + 2 * ((wm_l J a e : Nat) : Int))) (wm_gl J b i) ∧ wm_t J (wm_l J a e : Nat) (f (12 + 2 * ((wm_l J a e : Nat) : Int))) (wm_gl J b i) < 1000 := fun e i he hi => wm_tB hW (hpl _ (wm_lI he).2.1) (hgl i hi)
    have E := en_lE (b := wm_m J a) (l := wm_l J a) (J := J) (f := f) (P := wm_P (J 1 2) a) (gl := wm_gl J b) (V := wm_V J f a b) (n := ws_b b) (fun e e' he he' q => by rw [← (wm_lI he).2.2, q, (wm_lI he').2.2]) (fun e he => (wm_lI he).1) (fun e i he hi => rfl) (fun e i he hi => (tb e i he hi).2) r 0 [] 0 [] st hy (fun y hy => by cases hy) (by omega) (Int.le_refl 0) (by decide) hi
    have E : en_l (wm_st J f (wm_P (J 1 2) a) (wm_gl J b)) wm_v (wm_l J a) r 0 ([], 0) [] st = if en_d [] r = true ∧ en_mx (wm_V J f a b) 0 r 0 < (if st.1 = -1 then 1000 else st.1) then (en_mx (wm_V J f a b) 0 r 0, r.map (wm_l J a)) else st := E
    have L : en_lf (wm_V J f a b) (wm_l J a) r st = if en_d [] r = true ∧ en_mx (wm_V J f a b) 0 r 0 < (if st.1 = -1 then 1000 else st.1) then (en_mx (wm_V J f a b) 0 r 0, r.map (wm_l J a)) else st := by
      unfold en_lf en_y
      by_cases c : en_d [] r = true
      · rw [if_pos c]
        by_cases d : en_mx (wm_V J f a b) 0 r 0 < (if st.1 = -1 then 1000 else st.1)
        · rw [if_pos d, if_pos ⟨c, d⟩]
        · rw [if_neg d, if_neg (fun q => d q.2)]
      · rw [if_neg c]
        have nz : ¬ en_mx (wm_V J f a b) 1000 r 0 < (if st.1 = -1 then 1000 else st.1) := fun q => by
          have G := en_mxG (wm_V J f a b) r 1000 0
          by_cases z : st.1 = -1
          · rw [if_pos z] at q; omega
          · rw [if_neg z] at q
            rcases hi with w | w
            · exact z w
            · omega
        rw [if_neg nz]
        exact (if_neg (fun q => c q.1)).symm
    refine ⟨E.trans L.symm, ?_⟩
    show (en_l (wm_st J f (wm_P (J 1 2) a) (wm_gl J b)) wm_v (wm_l J a) r 0 ([], 0) [] st).1 = -1 ∨ (en_l (wm_st J f (wm_P (J 1 2) a) (wm_gl J b)) wm_v (wm_l J a) r 0 ([], 0) [] st).1 < 1000
    rw [E]
    by_cases d : en_d [] r = true ∧ en_mx (wm_V J f a b) 0 r 0 < (if st.1 = -1 then 1000 else st.1)
    · rw [if_pos d]
      refine Or.inr ?_
      have d2 := d.2
      show en_mx (wm_V J f a b) 0 r 0 < 1000
      by_cases z : st.1 = -1
      · rw [if_pos z] at d2; exact d2
      · rw [if_neg z] at d2
        rcases hi with w | w
        · exact absurd w z
        · omega
    · rw [if_neg d]; exact hi
/-- the reference's tables -/
theorem en_selQ {P P' : Nat → Bool} {n n' e : Nat} (h : e < dm_cn P n) (hn : n ≤ n') (hP : ∀ k, k < n → P k = P' k) : en_sel P' n' e = en_sel P n e := by
  obtain ⟨h1, h2, h3⟩ := en_selI n e h
  have q1 : P' (en_sel P n e) = true := by rw [← hP _ h2]; exact h1
  have q2 : dm_cn P' (en_sel P n e) = e := by
    rw [← dm_cnK (P := P) (P' := P') (n := en_sel P n e) (fun w hw => hP w (by omega))]
    exact h3
  have q3 := en_selE (n := n') (by omega) q1
  rw [q2] at q3
  exact q3
theorem gq_300 {Q : Int → lf_Z → Prop} (hF : gf_T J f H) (hR : gr_T sv J f H (s.1 96)) (h : ∀ t : lf_Z, Q (qb_136 a b c X J f) t) : fw_300 a b c Q s := by
  have hW := hF.1.1
  have e0 : s.1 96 0 = J 1 0 := hR.1.1
  have e2 : s.1 96 2 = J 1 2 := hR.1.2.2.1
  obtain ⟨n0, hn0⟩ := Int.eq_ofNat_of_zero_le hW.1.1
  obtain ⟨n2, hn2⟩ := Int.eq_ofNat_of_zero_le hW.2.2.1.1
  have l0 : n0 ≤ 12 := by have := hW.1.2; omega
  have l2 : n2 ≤ 6 := by have := hW.2.2.1.2; omega
  have hpl : ∀ p : Nat, (p : Int) < J 1 2 → 0 ≤ f (12 + 2 * (p : Int)) ∧ f (12 + 2 * (p : Int)) < J 1 0 := fun p hp => (hF.2.1.1.1 p (by omega) hp).1
  have p72 : (1 ≤ a ∧ a ≤ lf_shl 1 (J 1 2) - 1) → (1 ≤ b ∧ b ≤ lf_shl 1 (J 1 0) - 1) → (c = -1 ∨ ((0 ≤ c ∧ c < J 1 0) ∧ bt_t b c = true)) → ws_b b ≤ ws_b a → fw_300_p72 Q a b c s := fun ha hb hc hab => by
    have e : qb_136 a b c X J f = wm_an J f a b c := if_pos ⟨⟨by omega, ha.2⟩, hb, hc, hab⟩
    rw [e] at h
    have a1 : a ≤ lf_shl 1 (n2 : Int) - 1 := by rw [← hn2]; exact ha.2
    have b1 : b ≤ lf_shl 1 (n0 : Int) - 1 := by rw [← hn0]; exact hb.2
    have ea : wm_m J a = dm_cn (fun k => bt_t a (k : Int)) 12 := by
      unfold wm_m
      rw [wm_Pb (n := n2) (by omega) (by omega) a1 (show n2 ≤ 12 by omega) (by decide), hn2]
      rfl
    have eb : ws_b b = dm_cn (fun k => bt_t b (k : Int)) 12 := by
      rw [wm_Pb (n := n0) (by omega) (by omega) b1 (show n0 ≤ 12 by omega) (by decide)]
      exact ws_bB (by omega) (by omega) b1
    have ebP : ws_b b = dm_cn (wm_P (J 1 0) b) n0 := by
      rw [hn0]
      exact ws_bB (by omega) (by omega) b1
    have ma6 : wm_m J a ≤ n2 := by
      unfold wm_m
      have := dm_cnB (P := wm_P (J 1 2) a) (J 1 2).toNat
      omega
    have wsa : ws_b a = wm_m J a := by
      unfold wm_m
      rw [hn2]
      exact ws_bB (by omega) (by omega) a1
    have bpos : 0 < ws_b b := by
      rcases Nat.eq_zero_or_pos (ws_b b) with z | z
      · have zz := dm_cnI.mp z
        have b0 : b = 0 := by
          refine wj_mU (P := fun _ => false) (n := 0) ⟨?_, fun j hj => ?_⟩ wj_m0
          · have q := ws_p4 l0
            rw [ws_lt n0 (by omega)] at b1
            omega
          · show bt_g b j = false
            by_cases j16 : j < 16
            · exact zz j j16
            · exact ws_hi (n := n0) (by omega) (by omega) b1 (show n0 ≤ j by omega) hj
        omega
      · exact z
    have hgl : ∀ j : Nat, j < ws_b b → 0 ≤ wm_gl J b j ∧ wm_gl J b j < J 1 0 := fun j hj => by
      have q1 := (en_selI (P := wm_P (J 1 0) b) n0 j (by omega)).2.1
      unfold wm_gl
      rw [show (J 1 0).toNat = n0 by omega]
      omega
    obtain ⟨RE, RB⟩ := wm_RE (J := J) (f := f) (a := a) (b := b) hW hpl hgl
    unfold fw_300_p72
    refine fl_301 (fun t1 t1c t12 t1e => fl_301b (fun t2 t2c t22 t2e => ?_))
    rw [← ea, ← eb]
    have c113 : ∀ e : Nat, e < wm_m J a → t2.1 113 e = (wm_l J a e : Nat) := fun e he => by
      rw [t2c 113 (by decide), t1e e (by omega)]
      unfold wm_l
      rw [en_selQ (P := wm_P (J 1 2) a) (P' := fun k => bt_t a (k : Int)) (n := (J 1 2).toNat) (n' := 12) he (by omega) (fun k hk => by rw [hn2]; exact wm_PE (by omega) (by omega) a1 (by omega))]
    have c114 : ∀ i : Nat, i < ws_b b → t2.1 114 i = wm_gl J b i := fun i hi => by
      rw [t2e i (by omega)]
      unfold wm_gl
      rw [en_selQ (P := wm_P (J 1 0) b) (P' := fun k => bt_t b (k : Int)) (n := (J 1 0).toNat) (n' := 12) (by rw [show (J 1 0).toNat = n0 by omega, ← ebP]; exact hi) (by omega) (fun k hk => by rw [hn0]; exact wm_PE (by omega) (by omega) b1 (by omega))]
    have c96 : t2.1 96 = s.1 96 := (t2c 96 (by decide)).trans (t1c 96 (by decide))
    refine ⟨fun x6 t => (∀ c : Nat, c ≠ 108 → c ≠ 115 → t.1 c = t2.1 c) ∧ ∃ k : Nat, x6 = k ∧ k ≤ ws_b b ∧ ∀ e i : Nat, e < wm_m J a → i < k → t.1 115 (12 * (e : Int) + i) = wm_V J f a b e i, ?_, ⟨fun _ _ _ => rfl, 0, rfl, Nat.zero_le _, fun e i _ hi => absurd hi (Nat.not_lt_zero _)⟩⟩
    intro x6 t ⟨tc, k, e6, k1, tm⟩
    have tR : rr_L J (t.1 96) := by rw [tc 96 (by decide) (by decide), c96]; exact hR.1
    have tS : rr_S (J 1 1) (J 1 2) f (t.1 96) := by rw [tc 96 (by decide) (by decide), c96]; exact hR.2.1
    unfold fw_300_p95
    rw [e6]
    intro _ _
    refine ⟨fun y => ?_, fun y _ => ?_⟩
    · have ek : k = ws_b b := by omega
      rw [ek] at tm
      refine fl_302 (V := wm_V J f a b) (l := wm_l J a) (b := wm_m J a) (n := ws_b b) (by omega) (by omega) tm (fun x u uf us => ?_)
      rw [← RE] at us
      obtain ⟨ux, uD⟩ := us
      intro _
      refine ⟨fun y2 _ => ?_, fun y2 => qu_to (h u) ?_⟩
      · have n1 : (wm_R J f a b).1 ≠ -1 := fun z => by rw [if_pos z] at ux; omega
        rw [if_neg n1] at ux
        obtain ⟨D, hD, hDb, eD, cD⟩ : ∃ D : List Nat, D.length = ws_b b ∧ (∀ y ∈ D, y < wm_m J a) ∧ (wm_R J f a b).2 = D.map (wm_l J a) ∧ en_h (u.1 117) D := by
          rcases uD with z | z
          · exact absurd z n1
          · exact z
        refine ⟨fun y3 => ?_, fun y3 => qu_to (h u) ?_⟩
        · have hc : (0 ≤ c ∧ c < J 1 0) ∧ bt_t b c = true := by
            rcases hc with z | z
            · exact absurd z y3
            · exact z
          have ec : ((c.toNat : Nat) : Int) = c := by omega
          have Bc : wm_P (J 1 0) b c.toNat = true := by
            unfold wm_P
            rw [ec, decide_eq_true hc.1.2, hc.2]; rfl
          have lt : dm_cn (wm_P (J 1 0) b) c.toNat < ws_b b := by
            rw [ebP]
            exact dm_cnG (by omega) Bc
          have gE : wm_gl J b (dm_cn (wm_P (J 1 0) b) c.toNat) = c := by
            unfold wm_gl
            rw [en_selE (by omega) Bc]
            exact ec
          refine ⟨fun x7 v => v = u ∧ ∃ m : Nat, x7 = m ∧ m ≤ dm_cn (wm_P (J 1 0) b) c.toNat, ?_, ⟨rfl, 0, rfl, Nat.zero_le _⟩⟩
          intro x7 v ⟨ev, m, e7, m1⟩
          rw [ev]
          unfold fw_300_p203
          rw [e7]
          intro _
          rw [uf.1 114 (by decide) (by decide), tc 114 (by decide) (by decide), c114 m (by omega)]
          intro _ _
          refine ⟨fun y4 _ => ?_, fun y4 => ⟨rfl, m + 1, by omega, ?_⟩⟩
          · have em : dm_cn (wm_P (J 1 0) b) c.toNat = m := by
              obtain ⟨_, _, q3⟩ := en_selI (P := wm_P (J 1 0) b) n0 m (by omega)
              have z : wm_gl J b m = c := y4
              unfold wm_gl at z
              rw [show (J 1 0).toNat = n0 by omega] at z
              have e9 : c.toNat = en_sel (wm_P (J 1 0) b) n0 m := by omega
              rw [e9]
              exact q3
            have mD : m < D.length := by omega
            have cm := cD m D[m] (List.getElem?_eq_getElem mD)
            have Db := hDb D[m] (List.getElem_mem mD)
            rw [cm]
            intro _
            rw [uf.1 113 (by decide) (by decide), tc 113 (by decide) (by decide), c113 D[m] Db]
            refine qu_to (h u) ?_
            unfold wm_an
            rw [if_neg n1, if_neg y3, em, eD]
            simp only [List.getD_eq_getElem?_getD, List.getElem?_map, List.getElem?_eq_getElem mD, Option.map_some, Option.getD_some]
          · by_cases z : m = dm_cn (wm_P (J 1 0) b) c.toNat
            · rw [z] at y4; exact absurd gE y4
            · omega
        · unfold wm_an
          rw [if_neg n1, if_pos (Classical.not_not.mp y3), ux]
      · have n1 : (wm_R J f a b).1 = -1 := by
          rcases RB with z | z
          · exact z
          · by_cases w : (wm_R J f a b).1 = -1
            · exact w
            · rw [if_neg w] at ux; omega
        unfold wm_an
        rw [if_pos n1]
    · have kl : k < ws_b b := by omega
      have gk := hgl k kl
      rw [tc 114 (by decide) (by decide), c114 k kl]
      refine fl_261 (J := J) (ok := fun _ => true) (d := mn_d J 13) tR hW hF.1.2.1 (fun _ => rfl) hW.2.2.2.2.2.1 gk.1 gk.2 (fun v vc v2 vd => ?_)
      refine ⟨fun x7 w => (∀ c : Nat, c ≠ 115 → w.1 c = v.1 c) ∧ ∃ m : Nat, x7 = m ∧ m ≤ wm_m J a ∧ (∀ e i : Nat, e < wm_m J a → i < k → w.1 115 (12 * (e : Int) + i) = wm_V J f a b e i) ∧ ∀ e : Nat, e < m → w.1 115 (12 * (e : Int) + k) = wm_V J f a b e k, ?_, ⟨fun _ _ => rfl, 0, rfl, Nat.zero_le _, fun e i he hi => by rw [vc 115 (by decide)]; exact tm e i he hi, fun e he => absurd he (Nat.not_lt_zero _)⟩⟩
      intro x7 w ⟨wc, m, e7, m1, w1, w2⟩
      have wR : rr_L J (w.1 96) := by rw [wc 96 (by decide), vc 96 (by decide)]; exact tR
      have wS : rr_S (J 1 1) (J 1 2) f (w.1 96) := by rw [wc 96 (by decide), vc 96 (by decide)]; exact tS
      have kk : k < 12 := by
        have := dm_cnB (P := wm_P (J 1 0) b) n0
        omega
      unfold fw_300_p117
      rw [e7]
      intro _ _
      refine ⟨fun y2 => ⟨fun c h1 h2 => (wc c h2).trans ((vc c h1).trans (tc c h1 h2)), k + 1, by omega, by omega, fun e i he hi => ?_⟩, fun y2 _ => fl_239 ?_⟩
      · by_cases z : i < k
        · exact w1 e i he z
        · rw [show i = k by omega]
          exact w2 e (by omega)
      · have ml : m < wm_m J a := by omega
        have lI := wm_lI ml
        have pl := hpl _ lI.2.1
        have e113 : w.1 113 m = (wm_l J a m : Nat) := by rw [wc 113 (by decide), vc 113 (by decide), tc 113 (by decide) (by decide)]; exact c113 m ml
        rw [e113]
        have l3 := (wS.2.2.2.1 (wm_l J a m : Nat) (by omega) lI.2.1).1
        rw [l3]
        refine fl_299 (y := wm_gl J b k) wR hW hF.1.2.1 ⟨by omega, lI.2.1⟩ pl gk (by rw [wc 108 (by decide)]; exact vd _ pl.1 pl.2) ?_
        intro _
        refine ⟨fun c hc => (zu_r hc).trans (wc c hc), m + 1, by omega, by omega, fun e i he hi => ?_, fun e he => ?_⟩
        · exact (zu_i (by omega)).trans (w1 e i he hi)
        · by_cases z : e = m
          · rw [z]; exact zu_s
          · exact (zu_i (by omega)).trans (w2 e (by omega))
  unfold fw_300
  refine fl_183 ⟨fun q => qu_to (h s) (if_neg (fun y => ?_)), fun q => fl_183 ⟨fun q2 => qu_to (h s) (if_neg (fun y => ?_)), fun q2 => fl_188 (fl_188 ?_)⟩⟩
  · -- nobody is named
    rw [e2] at q
    by_cases z : 1 ≤ a
    · exact bd_f q ⟨z, y.1.2⟩
    · have a0 : a = 0 := by omega
      have wa : ws_b a = 0 := by rw [a0]; exact dm_cnI.mpr (fun j hj => bt_0)
      have wb : ws_b b = 0 := by omega
      have b1 : b ≤ lf_shl 1 (n0 : Int) - 1 := by rw [← hn0]; exact y.2.1.2
      have zz := dm_cnI.mp wb
      have b0 : b = 0 := by
        refine wj_mU (P := fun _ => false) (n := 0) ⟨?_, fun j hj => ?_⟩ wj_m0
        · have q := ws_p4 l0
          rw [ws_lt n0 (by omega)] at b1
          omega
        · show bt_g b j = false
          by_cases j16 : j < 16
          · exact zz j j16
          · exact ws_hi (n := n0) (by omega) (by omega) b1 (show n0 ≤ j by omega) hj
      omega
  · rw [e0] at q2
    exact bd_f q2 y.2.1
  · rw [e2] at q
    rw [e0] at q2
    have q := bd_t q
    have q2 := bd_t q2
    intro _ _
    refine ⟨fun y => ?_, fun y => qu_to (h s) (if_neg (fun z => y (by have := z.2.2.2; show ((ws_b b : Nat) : Int) ≤ (ws_b a : Nat); omega)))⟩
    have y : ws_b b ≤ ws_b a := by
      have y : ((ws_b b : Nat) : Int) ≤ (ws_b a : Nat) := y
      omega
    intro _
    refine ⟨fun z => p72 q q2 (Or.inl z) y, fun z => ?_⟩
    unfold fw_185
    refine fl_183 ⟨fun q3 => qu_to (h s) (if_neg (fun w => ?_)), fun q3 => ?_⟩
    · rw [e0] at q3
      rcases w.2.2.1 with v | v
      · exact z v
      · exact bd_f q3 ⟨v.1.1, by have := v.1.2; omega⟩
    · rw [e0] at q3
      have q3 := bd_t q3
      have c0 : 0 ≤ c ∧ c < J 1 0 := ⟨q3.1, by omega⟩
      refine fl_210 c0.1 (by omega) ⟨fun w => p72 q q2 (Or.inr ⟨c0, w⟩) y, fun w => qu_to (h s) (if_neg (fun v => ?_))⟩
      rcases v.2.2.1 with v | v
      · exact z v
      · rw [w] at v; exact absurd v.2 (by decide)
end WR
/-! within the law -/
section QM
variable {s : lf_Z} {a1 a2 a3 : Int} {Q : Int → lf_Z → Prop} {p : Int → Prop}
def gx_S136 (a1 a2 a3 : Int) (r : Int) (I : Nat → Int → Int) (P : Nat → Option Nat) : Prop := gx_B (qb_136 a1 a2 a3) r I P
def gx_R136 (a1 a2 a3 : Int) (p : Int → Prop) (I : Nat → Int → Int) (P : Nat → Option Nat) : Prop := gx_MP (gx_S136 a1 a2 a3) p I P
theorem gx_136 (hI : iv_A s.1 s.2.2) (ba1 : (-2147483648) ≤ a1 ∧ a1 ≤ 2147483647) (ba2 : (-2147483648) ≤ a2 ∧ a2 ≤ 2147483647) (ba3 : (-2147483648) ≤ a3 ∧ a3 ≤ 2147483647) (hA : gx_A s.1 s.2.2) (hQ : ∀ (r : Int) (s' : lf_Z), iv_A s'.1 s'.2.2 → lf_fq [74, 75, 76, 77] 1000000 true s.1 s.2.2 s'.1 s'.2.2 → gx_S136 a1 a2 a3 r s'.1 s'.2.2 → ((-2147483648) ≤ r ∧ r ≤ 2147483647) → Q r s') : fm_136 a1 a2 a3 Q s := by
  have hA' := hA
  obtain ⟨⟨f, H, hF, hC, hR⟩, hD⟩ := hA'
  obtain ⟨X, hB, hX, hXr⟩ := gx_X hD.2.2.1 hD.2.2.2.1.2.2.2.1 hD.2.2.2.2.2.2.2
  refine cj_136 (Q1 := fun r s' => iv_A s'.1 s'.2.2 ∧ lf_fq [74, 75, 76, 77] 1000000 true s.1 s.2.2 s'.1 s'.2.2 ∧ ((-2147483648) ≤ r ∧ r ≤ 2147483647)) (Q2 := fun r t => r = qb_136 a1 a2 a3 X s.1 f) (fun r s' h1 h2 => hQ r s' h1.1 h1.2.1 ⟨⟨X, s.1, f, H, hB, ?_, hF, ?_, h2⟩, gx_fq hA h1.2.1 rfl⟩ h1.2.2) (sm_136 hI ba1 ba2 ba3 (fun r s' h1 h2 h3 => ⟨h1, h2, h3⟩)) (gq_136 hF hC (fun _ => rfl))
  · rw [h1.2.1.1 98 rfl, h1.2.1.1 96 rfl]; exact hXr.1
  · rw [h1.2.1.1 28 rfl, h1.2.1.1 96 rfl]; exact hR
theorem gx_300 (hI : iv_A s.1 s.2.2) (ba1 : (-2147483648) ≤ a1 ∧ a1 ≤ 2147483647) (ba2 : (-2147483648) ≤ a2 ∧ a2 ≤ 2147483647) (ba3 : (-2147483648) ≤ a3 ∧ a3 ≤ 2147483647) (hM : gx_R136 a1 a2 a3 p s.1 s.2.2) (hQ : ∀ (r : Int) (s' : lf_Z), iv_A s'.1 s'.2.2 → lf_fq [108, 113, 114, 115, 116, 117] 1000000 true s.1 s.2.2 s'.1 s'.2.2 → (gx_p p r ∧ gx_A s'.1 s'.2.2) → ((-1) ≤ r ∧ r ≤ 999) → Q r s') : fm_300 a1 a2 a3 Q s := by
  obtain ⟨r0, hp, ⟨X, J, f, H, hB, hXr, hF, hR, e⟩, hA⟩ := hM
  exact cj_300 (Q1 := fun r s' => iv_A s'.1 s'.2.2 ∧ lf_fq [108, 113, 114, 115, 116, 117] 1000000 true s.1 s.2.2 s'.1 s'.2.2 ∧ ((-1) ≤ r ∧ r ≤ 999)) (Q2 := fun r t => r = r0) (fun r s' h1 h2 => hQ r s' h1.1 h1.2.1 ⟨h2 ▸ hp, gx_fq hA h1.2.1 rfl⟩ h1.2.2) (sm_300 hI ba1 ba2 ba3 (fun r s' h1 h2 h3 => ⟨h1, h2, h3⟩)) (gq_300 (X := X) hF hR (fun _ => e.symm))
end QM
