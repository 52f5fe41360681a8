/-! after: rows of bunches -/
section AS
variable {J K : Nat → Int → Int} {s t u : lf_Z} {f g sv M : Int → Int} {H : List rr_H} {X : mn_X} {I : Nat → Int → Int} {a c x y z : Int}
theorem wm_tN (hW : mn_W J) (x0 : 0 ≤ x ∧ x < J 1 0) (y0 : 0 ≤ y ∧ y < J 1 0) : wm_t J a x y = -1 ↔ 1000 ≤ mn_d J 13 x y := by
  have nn := hW.2.2.2.2.2.1.2.1 x y x0.1 x0.2 y0.1 y0.2
  unfold wm_t
  by_cases c : 1000 ≤ mn_d J 13 x y
  · rw [if_pos c]; exact ⟨fun _ => c, fun _ => rfl⟩
  · rw [if_neg c]
    refine ⟨fun q => ?_, fun q => absurd q c⟩
    by_cases d : J 8 a = 0
    · rw [if_pos d] at q; omega
    · rw [if_neg d, Int.tdiv_eq_ediv_of_nonneg (by omega)] at q; omega
theorem wm_tT (hW : mn_W J) (x0 : 0 ≤ x ∧ x < J 1 0) (y0 : 0 ≤ y ∧ y < J 1 0) (z0 : 0 ≤ z ∧ z < J 1 0) (h1 : wm_t J a x y ≠ -1) (h2 : wm_t J a y z ≠ -1) : wm_t J a x z ≠ -1 := by
  have n0 := hW.1
  have M := hW.2.2.2.2.2.1
  have f1 : ¬ 1000 ≤ mn_d J 13 x y := fun q => h1 ((wm_tN hW x0 y0).mpr q)
  have f2 : ¬ 1000 ≤ mn_d J 13 y z := fun q => h2 ((wm_tN hW y0 z0).mpr q)
  have g1 := dm_fin M x0.1 x0.2 y0.1 y0.2 (by omega)
  have g2 := dm_fin M y0.1 y0.2 z0.1 z0.2 (by omega)
  have tr := M.2.2.2.1 x y z x0.1 x0.2 y0.1 y0.2 z0.1 z0.2
  intro q
  have := (wm_tN hW x0 z0).mp q
  omega
theorem wm_tS (hW : mn_W J) (x0 : 0 ≤ x ∧ x < J 1 0) (y0 : 0 ≤ y ∧ y < J 1 0) (h : wm_t J a x y ≠ -1) : wm_t J a y x ≠ -1 := by
  have sy := hW.2.2.2.2.2.1.2.2.1 x y x0.1 x0.2 y0.1 y0.2
  intro q
  have q := (wm_tN hW y0 x0).mp q
  exact h ((wm_tN hW x0 y0).mpr (by rw [sy]; exact q))
/-- the harm along a row -/
def af_hv (J : Nat → Int → Int) (f : Int → Int) (a : Int) : List Nat → Int → Int → Int → Int
  | [], _, _, h => h
  | e :: r, x, m, h => af_hv J f a r (af_at f e) (m + wm_r J a x (af_at f e)) (h + af_h J f (ag_l f e) * (m + wm_r J a x (af_at f e)))
theorem af_mU {e : Nat} {U : List Nat} (he : e < ag_n f) (hU : ∀ y ∈ U, y < ag_n f) : ag_l f e ∈ U.map (ag_l f) ↔ e ∈ U := by
  constructor
  · intro h
    obtain ⟨y, hy, ey⟩ := List.mem_map.mp h
    have q : y = e := by rw [← (af_lI (hU y hy)).2.2, ey, (af_lI he).2.2]
    rw [← q]; exact hy
  · intro h; exact List.mem_map.mpr ⟨e, h, rfl⟩
/-- where all can be come to -/
theorem af_lE (hW : mn_W J) (hpl : ∀ e : Nat, e < ag_n f → 0 ≤ af_at f e ∧ af_at f e < J 1 0) (hh : ∀ e e' : Nat, e < ag_n f → e' < ag_n f → wm_t J a (af_at f e) (af_at f e') ≠ -1) (hb : ∀ e : Nat, e < ag_n f → 0 ≤ af_h J f (ag_l f e)) : ∀ (r : List Nat) (i : Nat) (U : List Nat) (x m h : Int) (ch : List Nat) (st : en_S), (∀ y ∈ r, y < ag_n f) → (∀ y ∈ U, y < ag_n f) → (0 ≤ x ∧ x < J 1 0) → (∀ e : Nat, e < ag_n f → wm_t J a x (af_at f e) ≠ -1) → 0 ≤ m → en_l (af_st J f a) af_v (ag_l f) r i (U.map (ag_l f), x, m, h) ch st = if en_d U r = true then en_up (af_hv J f a r x m h) (ch ++ r.map (ag_l f)) st else st := by
  intro r
  induction r with
  | nil =>
    intro i U x m h ch st _ _ _ _ _
    show en_up h ch st = if true = true then en_up h (ch ++ []) st else st
    rw [if_pos rfl, List.append_nil]
  | cons e r ih =>
    intro i U x m h ch st hr hU x0 hx m0
    have he := hr e (List.mem_cons.mpr (Or.inl rfl))
    have mU := af_mU he hU
    have dE : en_d U (e :: r) = (decide (¬ e ∈ U) && en_d (e :: U) r) := rfl
    have tB := wm_tB (a := a) hW x0 (hpl e he)
    have ne := hx e he
    have rE : wm_r J a x (af_at f e) = wm_t J a x (af_at f e) := if_neg ne
    by_cases c : e ∈ U
    · have q : af_st J f a i (U.map (ag_l f), x, m, h) (ag_l f e) = none := if_neg (fun q => q.2.1 (mU.mpr c))
      rw [en_l0 q, if_neg (fun y => by rw [dE, decide_eq_false (not_not_intro c), Bool.false_and] at y; cases y)]
    · have q : af_st J f a i (U.map (ag_l f), x, m, h) (ag_l f e) = some (ag_l f e :: U.map (ag_l f), af_at f e, m + wm_t J a x (af_at f e), h + af_h J f (ag_l f e) * (m + wm_t J a x (af_at f e))) := if_pos ⟨(af_lI he).1, fun z => c (mU.mp z), ne, Int.mul_nonneg (hb e he) (by show 0 ≤ m + wm_t J a x (af_at f e); omega)⟩
      rw [en_l1 q]
      have g := ih (i + 1) (e :: U) (af_at f e) (m + wm_t J a x (af_at f e)) (h + af_h J f (ag_l f e) * (m + wm_t J a x (af_at f e))) (ch ++ [ag_l f e]) st (fun y hy => hr y (List.mem_cons_of_mem _ hy)) (fun y hy => by
        rcases List.mem_cons.mp hy with z | z
        · rw [z]; exact he
        · exact hU y z) (hpl e he) (fun e' he' => hh e e' he he') (by omega)
      refine g.trans ?_
      have hE : af_hv J f a (e :: r) x m h = af_hv J f a r (af_at f e) (m + wm_t J a x (af_at f e)) (h + af_h J f (ag_l f e) * (m + wm_t J a x (af_at f e))) := by
        show af_hv J f a r (af_at f e) (m + wm_r J a x (af_at f e)) (h + af_h J f (ag_l f e) * (m + wm_r J a x (af_at f e))) = _
        rw [rE]
      rw [dE, hE, decide_eq_true c, Bool.true_and, List.append_assoc]
      rfl
/-- rows with one twice -/
theorem af_lD : ∀ (r : List Nat) (i : Nat) (U : List Nat) (w : Int × Int × Int) (ch : List Nat) (st : en_S), (∀ y ∈ r, y < ag_n f) → (∀ y ∈ U, y < ag_n f) → en_d U r = false → en_l (af_st J f a) af_v (ag_l f) r i (U.map (ag_l f), w) ch st = st := by
  intro r
  induction r with
  | nil => intro i U w ch st _ _ h; cases h
  | cons e r ih =>
    intro i U w ch st hr hU h
    have he := hr e (List.mem_cons.mpr (Or.inl rfl))
    have mU := af_mU he hU
    have dE : en_d U (e :: r) = (decide (¬ e ∈ U) && en_d (e :: U) r) := rfl
    cases q : af_st J f a i (U.map (ag_l f), w) (ag_l f e) with
    | none => exact en_l0 q
    | some w' =>
      rw [en_l1 q]
      unfold af_st at q
      by_cases c : af_P f (ag_l f e) = true ∧ ¬ ag_l f e ∈ U.map (ag_l f) ∧ wm_t J a w.1 (f (3 * ((ag_l f e : Nat) : Int) + 1)) ≠ -1 ∧ 0 ≤ af_h J f (ag_l f e) * (w.2.1 + wm_t J a w.1 (f (3 * ((ag_l f e : Nat) : Int) + 1)))
      · rw [if_pos c] at q
        have q := Option.some.inj q
        have ne : ¬ e ∈ U := fun z => c.2.1 (mU.mpr z)
        rw [dE, decide_eq_true ne, Bool.true_and] at h
        rw [← q]
        exact ih (i + 1) (e :: U) _ (ch ++ [ag_l f e]) st (fun y hy => hr y (List.mem_cons_of_mem _ hy)) (fun y hy => by
          rcases List.mem_cons.mp hy with z | z
          · rw [z]; exact he
          · exact hU y z) h
      · rw [if_neg c] at q; cases q
/-- where one can't be come to -/
theorem af_lN (hW : mn_W J) (hpl : ∀ e : Nat, e < ag_n f → 0 ≤ af_at f e ∧ af_at f e < J 1 0) {p0 : Int} {k : Nat} (hp0 : 0 ≤ p0 ∧ p0 < J 1 0) (hk : k < ag_n f) (hN : wm_t J a p0 (af_at f k) = -1) : ∀ (r : List Nat) (i : Nat) (W : List Nat) (x m h : Int) (ch : List Nat) (st : en_S), (∀ y ∈ r, y < ag_n f) → k ∈ r → (0 ≤ x ∧ x < J 1 0) → wm_t J a p0 x ≠ -1 → en_l (af_st J f a) af_v (ag_l f) r i (W, x, m, h) ch st = st := by
  intro r
  induction r with
  | nil => intro i W x m h ch st _ q; cases q
  | cons e r ih =>
    intro i W x m h ch st hr hkr x0 hx
    have he := hr e (List.mem_cons.mpr (Or.inl rfl))
    cases q : af_st J f a i (W, x, m, h) (ag_l f e) with
    | none => exact en_l0 q
    | some w' =>
      rw [en_l1 q]
      unfold af_st at q
      by_cases c : af_P f (ag_l f e) = true ∧ ¬ ag_l f e ∈ W ∧ wm_t J a x (f (3 * ((ag_l f e : Nat) : Int) + 1)) ≠ -1 ∧ 0 ≤ af_h J f (ag_l f e) * (m + wm_t J a x (f (3 * ((ag_l f e : Nat) : Int) + 1)))
      · rw [if_pos c] at q
        have q := Option.some.inj q
        have leg : wm_t J a x (af_at f e) ≠ -1 := c.2.2.1
        have on := wm_tT hW hp0 x0 (hpl e he) hx leg
        rcases List.mem_cons.mp hkr with z | z
        · rw [z] at hN; exact absurd hN on
        · rw [← q]
          exact ih (i + 1) _ (af_at f e) _ _ (ch ++ [ag_l f e]) st (fun y hy => hr y (List.mem_cons_of_mem _ hy)) z (hpl e he) on
      · rw [if_neg c] at q; cases q
/-- a row that is unlike and as long as there are numbers has them all -/
theorem en_dC : ∀ (r U : List Nat) (n : Nat), (∀ y ∈ r, y < n) → en_d U r = true → dm_cn (fun k => decide (k ∈ U) || decide (k ∈ r)) n = dm_cn (fun k => decide (k ∈ U)) n + r.length := by
  intro r
  induction r with
  | nil =>
    intro U n _ _
    exact dm_cnK (fun w _ => by show (decide (w ∈ U) || decide (w ∈ [])) = decide (w ∈ U); rw [decide_eq_false (show ¬ w ∈ ([] : List Nat) by intro y; cases y), Bool.or_false])
  | cons e r ih =>
    intro U n hr h
    have he := hr e (List.mem_cons.mpr (Or.inl rfl))
    have dE : en_d U (e :: r) = (decide (¬ e ∈ U) && en_d (e :: U) r) := rfl
    rw [dE, Bool.and_eq_true] at h
    have ne := of_decide_eq_true h.1
    have g := ih (e :: U) n (fun y hy => hr y (List.mem_cons_of_mem _ hy)) h.2
    have one := dm_cnA (P := fun k => decide (k ∈ U)) (P' := fun k => decide (k ∈ e :: U)) (m := e) (decide_eq_false ne) (decide_eq_true (List.mem_cons.mpr (Or.inl rfl))) (fun y hy => by
      show decide (y ∈ e :: U) = decide (y ∈ U)
      refine decide_eq_decide.mpr ⟨fun q => ?_, fun q => List.mem_cons_of_mem _ q⟩
      rcases List.mem_cons.mp q with z | z
      · exact absurd z hy
      · exact z) n
    rw [if_pos he] at one
    have same : dm_cn (fun k => decide (k ∈ U) || decide (k ∈ e :: r)) n = dm_cn (fun k => decide (k ∈ e :: U) || decide (k ∈ r)) n := dm_cnK (fun w _ => by
      show (decide (w ∈ U) || decide (w ∈ e :: r)) = (decide (w ∈ e :: U) || decide (w ∈ r))
      by_cases z : w = e
      · rw [decide_eq_true (show w ∈ e :: r from List.mem_cons.mpr (Or.inl z)), decide_eq_true (show w ∈ e :: U from List.mem_cons.mpr (Or.inl z)), Bool.or_true, Bool.true_or]
      · have q1 : decide (w ∈ e :: r) = decide (w ∈ r) := decide_eq_decide.mpr ⟨fun q => (List.mem_cons.mp q).resolve_left z, fun q => List.mem_cons_of_mem _ q⟩
        have q2 : decide (w ∈ e :: U) = decide (w ∈ U) := decide_eq_decide.mpr ⟨fun q => (List.mem_cons.mp q).resolve_left z, fun q => List.mem_cons_of_mem _ q⟩
        rw [q1, q2])
    rw [same, g, one, List.length_cons]
    omega
theorem en_dP {r : List Nat} {n : Nat} (hr : r.length = n) (hy : ∀ y ∈ r, y < n) (h : en_d [] r = true) {k : Nat} (hk : k < n) : k ∈ r := by
  have g := en_dC r [] n hy h
  by_cases q : k ∈ r
  · exact q
  · have l := dm_cnX (P := fun k => decide (k ∈ ([] : List Nat)) || decide (k ∈ r)) (m := k) (by show (decide (k ∈ ([] : List Nat)) || decide (k ∈ r)) = false; rw [decide_eq_false q, decide_eq_false (show ¬ k ∈ ([] : List Nat) by intro y; cases y)]; rfl) n hk
    omega
end AS
