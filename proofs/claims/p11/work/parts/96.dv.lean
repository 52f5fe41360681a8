/-! what a law's sum is worth, along the descent; orders that say so -/
section DV
variable {f R R' N M L : Int → Int} {n law a b c p q r x d : Int} {st : List Int}
/-- depth, letters, what letters are worth, place: worth -/
abbrev dv_D : Type := Int → (Int → Int) → (Int → Int) → Int → Int
def dv_lp (f : Int → Int) (n : Int) (ok : Int → Bool) (G : Int → Int × Int) (V : Int → Int) (op : Int → Int → Int → Int) : Nat → Int → Int → Int
  | 0, _, v => v
  | k + 1, b, v => if ok (lx_T f n b) = true then dv_lp f n ok G V op k (G (ds_ad f n b)).2 (op (lx_T f n b) v (V (ds_ad f n b))) else v
def dv_one (f : Int → Int) (n : Int) (N : Int → Int) (S O I L : dv_D) (d : Int) (g e : Int → Int) (b : Int) : Int :=
  if lx_T f n b = 2 then lx_V f n b else if lx_T f n b = 3 then e (lx_V f n b)
  else if lx_T f n b = 11 then -(O (d + 1) g e (ds_ad f n b)) else if lx_T f n b = 14 then S (d + 1) g e (ds_ad f n b)
  else if lx_T f n b = 37 then I (d + 1) g e (ds_ad f n b) else if lx_T f n b = 41 then L (d + 1) g e (ds_ad f n b) else N (la_nm (lx_T f n b))
def dv_if (f : Int → Int) (n : Int) (S E : ds_D) (VS VE : dv_D) (d : Int) (g e : Int → Int) (b : Int) : Int :=
  if VE d g e b ≠ 0 then VS d g e (ds_ad f n (E d g b).2) else VS d g e (ds_ad f n (S d g (ds_ad f n (E d g b).2)).2)
def dv_let (f : Int → Int) (n : Int) (S : ds_D) (VS : dv_D) (d : Int) (g e : Int → Int) (b : Int) : Int :=
  VS d (ds_u1 g (lx_V f n b) (ds_sl d)) (ds_u1 e (lx_V f n b) (VS d g e (ds_ad f n (ds_ad f n b)))) (ds_ad f n (S d g (ds_ad f n (ds_ad f n b))).2)
def dv_ask (f : Int → Int) (n : Int) (S : ds_D) (VS VA : dv_D) (d : Int) (g e : Int → Int) (b : Int) : Int :=
  if lx_T f n b = 44 then 1 - VA (d + 1) g e (ds_ad f n b)
  else lf_b (cm_cp (lx_T f n (S d g b).2) (VS d g e b) (VS d g e (ds_ad f n (S d g b).2)))
/-- sum, product, one, if, let, either, both, ask -/
def dv_T (f : Int → Int) (n law : Int) (N : Int → Int) : Nat → dv_D × dv_D × dv_D × dv_D × dv_D × dv_D × dv_D × dv_D
  | 0 => (fun _ _ _ _ => 0, fun _ _ _ _ => 0, fun _ _ _ _ => 0, fun _ _ _ _ => 0, fun _ _ _ _ => 0, fun _ _ _ _ => 0, fun _ _ _ _ => 0, fun _ _ _ _ => 0)
  | k + 1 => (fun d g e b => dv_lp f n ds_pm ((ds_T f n law k).2.1 d g) ((dv_T f n law N k).2.1 d g e) cm_2 300 ((ds_T f n law k).2.1 d g b).2 ((dv_T f n law N k).2.1 d g e b),
    fun d g e b => dv_lp f n ds_td ((ds_T f n law k).2.2.1 d g) ((dv_T f n law N k).2.2.1 d g e) cm_2 300 ((ds_T f n law k).2.2.1 d g b).2 ((dv_T f n law N k).2.2.1 d g e b),
    dv_one f n N (dv_T f n law N k).1 (dv_T f n law N k).2.2.1 (dv_T f n law N k).2.2.2.1 (dv_T f n law N k).2.2.2.2.1,
    dv_if f n (ds_T f n law k).1 (ds_T f n law k).2.2.2.2.2.1 (dv_T f n law N k).1 (dv_T f n law N k).2.2.2.2.2.1,
    dv_let f n (ds_T f n law k).1 (dv_T f n law N k).1,
    fun d g e b => dv_lp f n (ds_is 46) ((ds_T f n law k).2.2.2.2.2.2.1 d g) ((dv_T f n law N k).2.2.2.2.2.2.1 d g e) cm_2 300 ((ds_T f n law k).2.2.2.2.2.2.1 d g b).2 ((dv_T f n law N k).2.2.2.2.2.2.1 d g e b),
    fun d g e b => dv_lp f n (ds_is 45) ((ds_T f n law k).2.2.2.2.2.2.2 d g) ((dv_T f n law N k).2.2.2.2.2.2.2 d g e) cm_2 300 ((ds_T f n law k).2.2.2.2.2.2.2 d g b).2 ((dv_T f n law N k).2.2.2.2.2.2.2 d g e b),
    dv_ask f n (ds_T f n law k).1 (dv_T f n law N k).1 (dv_T f n law N k).2.2.2.2.2.2.2)
/-! orders -/
/-- the number of a name with the class -/
def cc_ix (t : Int) : Int := if t = 24 then 10 else t - 47
/-- the names of both -/
def cc_N (law : Int) (N M : Int → Int) : Prop := ∀ t : Int, (t = 24 ∨ (47 ≤ t ∧ t ≤ 56)) → ds_nm law (cc_ix t) = true → M (cc_ix t) = N (la_nm t) ∧ cm_sm (N (la_nm t))
/-- letters: where they lie, what they are worth -/
def cc_L (d : Int) (g e L : Int → Int) : Prop := ∀ x : Int, 0 ≤ x → x < 26 → g x ≠ -1 → (0 ≤ g x ∧ g x < d ∧ g x < 8) ∧ L (g x) = e x ∧ cm_sm (e x)
abbrev cc_V : Type := (Int → Int) → (Int → Int) → Int
/-- from p to q stand orders that say V -/
def cc (law : Int) (R : Int → Int) (p q d : Int) (g : Int → Int) (V : cc_V) : Prop :=
  p ≤ q ∧ ∀ (N M e L : Int → Int) (st : List Int), cc_N law N M → cc_L d g e L → cm_sm (V N e) ∧ ∃ (k : Nat) (L' : Int → Int), (k : Int) ≤ q - p ∧ cm_go R M p q k (p, st, L) (q, V N e :: st, L') ∧ ∀ i : Int, i < d → L' i = L i
variable {g : Int → Int} {V V1 V2 V3 : cc_V}
theorem cc_R (h : cc law R p q d g V) (e : ∀ i : Int, p ≤ i → i < q → R' i = R i) : cc law R' p q d g V := ⟨h.1, fun N M ev L st hN hL => by
  obtain ⟨s, k, L', h1, h2, h3⟩ := h.2 N M ev L st hN hL
  exact ⟨s, k, L', h1, cm_goR e k _ h2, h3⟩⟩
theorem cc_Lk {e L' : Int → Int} (h : cc_L d g e L) (k : ∀ i : Int, i < d → L' i = L i) : cc_L d g e L' := fun x x0 x1 hx => by
  have := h x x0 x1 hx
  exact ⟨this.1, (k _ this.1.2.1).trans this.2.1, this.2.2⟩
/-- deeper read, here used -/
theorem cc_w (h : cc law R p q (d + 1) g V) : cc law R p q d g V := ⟨h.1, fun N M e L st hN hL => by
  obtain ⟨s, k, L', h1, h2, h3⟩ := h.2 N M e L st hN (fun x x0 x1 hx => by
    have := hL x x0 x1 hx
    exact ⟨⟨this.1.1, by omega, this.1.2.2⟩, this.2⟩)
  exact ⟨s, k, L', h1, h2, fun i hi => h3 i (by omega)⟩⟩
/-- what an order is -/
theorem cm_dm {k v : Int} (hk : 0 ≤ k) (hv : 0 ≤ v ∧ v < 10000) : (k * 10000 + v).tdiv 10000 = k ∧ (k * 10000 + v).tmod 10000 = v := by
  rw [Int.tmod_eq_emod_of_nonneg (by omega), Int.tdiv_eq_ediv_of_nonneg (by omega)]
  omega
/-- one order that pushes -/
theorem cc_p1 {k v : Int} (hR : R p = k * 10000 + v) (hk : 0 ≤ k ∧ k < 50) (hv : 0 ≤ v ∧ v < 10000) (h : ∀ (N M e L : Int → Int), cc_N law N M → cc_L d g e L → cm_sm (V N e) ∧ ((k = 2 ∧ v = V N e) ∨ (k = 3 ∧ v < 8 ∧ L v = V N e) ∨ (k = 17 ∧ v < 11 ∧ M v = V N e))) : cc law R p (p + 1) d g V := by
  refine ⟨by omega, fun N M e L st hN hL => ?_⟩
  obtain ⟨s, h⟩ := h N M e L hN hL
  obtain ⟨e1, e2⟩ := cm_dm hk.1 hv
  refine ⟨s, 1, L, by omega, ⟨⟨⟨Int.le_refl p, by show p < p + 1; omega⟩, by show 0 ≤ R p; rw [hR]; omega, by show R p < 1000000; rw [hR]; omega, ?_⟩, ?_⟩, fun i _ => rfl⟩
  · show (R p).tdiv 10000 = 2 ∨ _
    rw [hR, e1, e2]
    rcases h with h | h | h
    · exact Or.inl h.1
    · exact Or.inr (Or.inl ⟨h.1, h.2.1⟩)
    · exact Or.inr (Or.inr (Or.inl ⟨h.1, h.2.1⟩))
  · show cm_st R M (p, st, L) = (p + 1, V N e :: st, L)
    unfold cm_st
    dsimp only
    rw [hR, e1, e2]
    rcases h with h | h | h
    · rw [if_pos h.1, h.2]
    · rw [if_neg (by omega), if_pos h.1, h.2.2]
    · rw [if_neg (by omega), if_neg (by omega), if_pos h.1, h.2.2]
/-- one order on what is on top -/
theorem cc_p2 {k : Int} (hR : R q = k * 10000) (hk : k = 18 ∨ k = 44) (h : cc law R p q d g V) (hV : ∀ N e, V2 N e = if k = 18 then -(V N e) else 1 - V N e) (hs : ∀ N e, cm_sm (V N e) → cm_sm (V2 N e)) : cc law R p (q + 1) d g V2 := by
  have pq := h.1
  refine ⟨by omega, fun N M e L st hN hL => ?_⟩
  obtain ⟨s, j, L', h1, h2, h3⟩ := h.2 N M e L st hN hL
  obtain ⟨e1, e2⟩ := cm_dm (k := k) (v := 0) (by omega) (by omega)
  rw [Int.add_zero] at e1 e2
  refine ⟨hs N e s, j + 1, L', by omega, cm_goA j 1 _ (cm_goW (Int.le_refl p) (by omega) j _ h2) ⟨⟨⟨pq, by show q < q + 1; omega⟩, by show 0 ≤ R q; rw [hR]; omega, by show R q < 1000000; rw [hR]; omega, ?_⟩, ?_⟩, h3⟩
  · show (R q).tdiv 10000 = 2 ∨ _
    rw [hR, e1]
    refine Or.inr (Or.inr (Or.inr (Or.inr (Or.inl ⟨?_, _, st, rfl, s⟩))))
    rcases hk with hk | hk
    · exact Or.inl hk
    · exact Or.inr (Or.inr (Or.inr hk))
  · show cm_st R M (q, V N e :: st, L') = (q + 1, V2 N e :: st, L')
    unfold cm_st
    dsimp only
    rw [hR, e1, if_neg (by omega), if_neg (by omega), if_neg (by omega), if_neg (by omega), hV N e]
    rcases hk with hk | hk
    · rw [if_pos hk, if_pos hk]
    · rw [if_neg (by omega), if_neg (by omega), if_neg (by omega), if_pos hk, if_neg (by omega)]
theorem cm_2S {k v w : Int} (hw : cm_sm w) (hb : k = 45 ∨ k = 46 → (w = 0 ∨ w = 1) ∧ (v = 0 ∨ v = 1)) : cm_sm (cm_2 k w v) := by
  unfold cm_2
  by_cases c1 : k = 45
  · rw [if_pos c1]
    obtain ⟨h1, h2⟩ := hb (Or.inl c1)
    rcases h1 with h1 | h1 <;> rcases h2 with h2 | h2 <;> subst h1 <;> subst h2 <;> exact ⟨by decide, by decide⟩
  · rw [if_neg c1]
    by_cases c2 : k = 46
    · rw [if_pos c2]
      obtain ⟨h1, h2⟩ := hb (Or.inr c2)
      rcases h1 with h1 | h1 <;> rcases h2 with h2 | h2 <;> subst h1 <;> subst h2 <;> exact ⟨by decide, by decide⟩
    · rw [if_neg c2]
      split
      · exact cm_arS hw
      · cases cm_cp k w v <;> exact ⟨by decide, by decide⟩
/-- two, and what binds them -/
theorem cc_2 {k : Int} (h1 : cc law R p q d g V1) (h2 : cc law R q r d g V2) (hR : R r = k * 10000) (hk : (4 ≤ k ∧ k ≤ 13) ∨ k = 45 ∨ k = 46) (hb : k = 45 ∨ k = 46 → ∀ N e, (V1 N e = 0 ∨ V1 N e = 1) ∧ (V2 N e = 0 ∨ V2 N e = 1)) : cc law R p (r + 1) d g (fun N e => cm_2 k (V1 N e) (V2 N e)) := by
  have pq := h1.1
  have qr := h2.1
  refine ⟨by omega, fun N M e L st hN hL => ?_⟩
  obtain ⟨s1, j1, L1, a1, a2, a3⟩ := h1.2 N M e L st hN hL
  obtain ⟨s2, j2, L2, b1, b2, b3⟩ := h2.2 N M e L1 (V1 N e :: st) hN (cc_Lk hL a3)
  obtain ⟨e1, e2⟩ := cm_dm (k := k) (v := 0) (by omega) (by omega)
  rw [Int.add_zero] at e1 e2
  refine ⟨cm_2S s1 (fun q => hb q N e), j1 + j2 + 1, L2, by omega, cm_goA (j1 + j2) 1 _ (cm_goA j1 j2 _ (cm_goW (Int.le_refl p) (by omega) j1 _ a2) (cm_goW pq (by omega) j2 _ b2)) ⟨⟨⟨by show p ≤ r; omega, by show r < r + 1; omega⟩, by show 0 ≤ R r; rw [hR]; omega, by show R r < 1000000; rw [hR]; omega, ?_⟩, ?_⟩, fun i hi => (b3 i hi).trans (a3 i hi)⟩
  · show (R r).tdiv 10000 = 2 ∨ _
    rw [hR, e1]
    exact Or.inr (Or.inr (Or.inr (Or.inr (Or.inr ⟨hk, _, _, st, rfl, s2, s1⟩))))
  · show cm_st R M (r, V2 N e :: V1 N e :: st, L2) = (r + 1, cm_2 k (V1 N e) (V2 N e) :: st, L2)
    unfold cm_st
    dsimp only
    rw [hR, e1, if_neg (by omega), if_neg (by omega), if_neg (by omega), if_neg (by omega), if_neg (by omega), if_neg (by omega), if_neg (by omega), if_neg (by omega)]
/-- if -/
theorem cc_if {w : Int} (h1 : cc law R p q d g V1) (hR1 : R q = 38 * 10000 + (r + 1)) (h2 : cc law R (q + 1) r d g V2) (hR2 : R r = 39 * 10000 + w) (h3 : cc law R (r + 1) w d g V3) (w3 : w ≤ 300) (p0 : 0 ≤ p) : cc law R p w d g (fun N e => if V1 N e ≠ 0 then V2 N e else V3 N e) := by
  have pq := h1.1
  have qr := h2.1
  have rw_ := h3.1
  refine ⟨by omega, fun N M e L st hN hL => ?_⟩
  obtain ⟨s1, j1, L1, a1, a2, a3⟩ := h1.2 N M e L st hN hL
  have hL1 := cc_Lk hL a3
  obtain ⟨e1, e2⟩ := cm_dm (k := 38) (v := r + 1) (by decide) (by omega)
  obtain ⟨e3, e4⟩ := cm_dm (k := 39) (v := w) (by decide) (by omega)
  have stp : cm_st R M (q, V1 N e :: st, L1) = (if V1 N e ≠ 0 then q + 1 else r + 1, st, L1) := by
    unfold cm_st
    dsimp only
    rw [hR1, e1, e2, if_neg (by omega), if_neg (by omega), if_neg (by omega), if_neg (by omega), if_neg (by omega), if_pos rfl]
  have ok : cm_or R M p w (q, V1 N e :: st, L1) := by
    refine ⟨⟨pq, by show q < w; omega⟩, by show 0 ≤ R q; rw [hR1]; omega, by show R q < 1000000; rw [hR1]; omega, ?_⟩
    show (R q).tdiv 10000 = 2 ∨ _
    rw [hR1, e1]
    exact Or.inr (Or.inr (Or.inr (Or.inr (Or.inl ⟨Or.inr (Or.inl rfl), _, st, rfl, s1⟩))))
  by_cases c : V1 N e ≠ 0
  · obtain ⟨s2, j2, L2, b1, b2, b3⟩ := h2.2 N M e L1 st hN hL1
    rw [if_pos c] at stp
    have last : cm_go R M p w 1 (r, V2 N e :: st, L2) (w, V2 N e :: st, L2) := by
      refine ⟨⟨⟨by show p ≤ r; omega, by show r < w; omega⟩, by show 0 ≤ R r; rw [hR2]; omega, by show R r < 1000000; rw [hR2]; omega, ?_⟩, ?_⟩
      · show (R r).tdiv 10000 = 2 ∨ _
        rw [hR2, e3]
        exact Or.inr (Or.inr (Or.inr (Or.inl rfl)))
      · show cm_st R M (r, V2 N e :: st, L2) = (w, V2 N e :: st, L2)
        unfold cm_st
        dsimp only
        rw [hR2, e3, e4, if_neg (by omega), if_neg (by omega), if_neg (by omega), if_pos rfl]
    refine ⟨by dsimp only; rw [if_pos c]; exact s2, j1 + (1 + (j2 + 1)), L2, by omega, ?_, fun i hi => (b3 i hi).trans (a3 i hi)⟩
    dsimp only
    rw [if_pos c]
    refine cm_goA j1 _ _ (cm_goW (Int.le_refl p) (by omega) j1 _ a2) (cm_goA 1 _ _ ⟨ok, ?_⟩ (cm_goA j2 1 _ (cm_goW (by omega) (by omega) j2 _ b2) last))
    exact stp
  · obtain ⟨s2, j2, L2, b1, b2, b3⟩ := h3.2 N M e L1 st hN hL1
    rw [if_neg c] at stp
    refine ⟨by dsimp only; rw [if_neg c]; exact s2, j1 + (1 + j2), L2, by omega, ?_, fun i hi => (b3 i hi).trans (a3 i hi)⟩
    dsimp only
    rw [if_neg c]
    exact cm_goA j1 _ _ (cm_goW (Int.le_refl p) (by omega) j1 _ a2) (cm_goA 1 j2 _ ⟨ok, stp⟩ (cm_goW (by omega) (by omega) j2 _ b2))
/-- let: the slot is d, read one deeper -/
theorem cc_let (h1 : cc law R p q (d + 1) g V1) (hR : R q = 43 * 10000 + d) (d0 : 0 ≤ d) (d8 : d < 8) (h2 : cc law R (q + 1) r (d + 1) (ds_u1 g x d) V2) : cc law R p r d g (fun N e => V2 N (ds_u1 e x (V1 N e))) := by
  have pq := h1.1
  have qr := h2.1
  refine ⟨by omega, fun N M e L st hN hL => ?_⟩
  have hL' : cc_L (d + 1) g e L := fun y y0 y1 hy => by
    have := hL y y0 y1 hy
    exact ⟨⟨this.1.1, by omega, this.1.2.2⟩, this.2⟩
  obtain ⟨s1, j1, L1, a1, a2, a3⟩ := h1.2 N M e L st hN hL'
  obtain ⟨e1, e2⟩ := cm_dm (k := 43) (v := d) (by decide) (by omega)
  have stp : cm_st R M (q, V1 N e :: st, L1) = (q + 1, st, ds_u1 L1 d (V1 N e)) := by
    unfold cm_st
    dsimp only
    rw [hR, e1, e2, if_neg (by omega), if_neg (by omega), if_neg (by omega), if_neg (by omega), if_neg (by omega), if_neg (by omega), if_pos rfl]
  have ok : cm_or R M p r (q, V1 N e :: st, L1) := by
    refine ⟨⟨pq, by show q < r; omega⟩, by show 0 ≤ R q; rw [hR]; omega, by show R q < 1000000; rw [hR]; omega, ?_⟩
    show (R q).tdiv 10000 = 2 ∨ _
    rw [hR, e1, e2]
    exact Or.inr (Or.inr (Or.inr (Or.inr (Or.inl ⟨Or.inr (Or.inr (Or.inl ⟨rfl, d8⟩)), _, st, rfl, s1⟩))))
  have hL2 : cc_L (d + 1) (ds_u1 g x d) (ds_u1 e x (V1 N e)) (ds_u1 L1 d (V1 N e)) := fun y y0 y1 hy => by
    unfold ds_u1 at hy ⊢
    by_cases c : y = x
    · rw [if_pos c, if_pos c, if_pos rfl]
      exact ⟨⟨d0, by omega, d8⟩, rfl, s1⟩
    · rw [if_neg c] at hy
      have := hL y y0 y1 hy
      rw [if_neg c, if_neg c, if_neg (by omega)]
      exact ⟨⟨this.1.1, by omega, this.1.2.2⟩, (a3 _ (by omega)).trans this.2.1, this.2.2⟩
  obtain ⟨s2, j2, L2, b1, b2, b3⟩ := h2.2 N M (ds_u1 e x (V1 N e)) _ st hN hL2
  refine ⟨s2, j1 + (1 + j2), L2, by omega, cm_goA j1 _ _ (cm_goW (Int.le_refl p) (by omega) j1 _ a2) (cm_goA 1 j2 _ ⟨ok, stp⟩ (cm_goW (by omega) (by omega) j2 _ b2)), fun i hi => ?_⟩
  exact (b3 i (by omega)).trans ((if_neg (by omega)).trans (a3 i (by omega)))
end DV
