/-! where: the odds, as numbers alone -/
section WH
variable {J : Nat → Int → Int} {C : Int → Int → Int → Int} {F D A : Int → Int} {x p d c l i y v K M N n0 : Int} {T : Int × (Int → Int)} {w : Nat}
abbrev ww_T : Type := Int × (Int → Int)
/-- what one way takes of what is left -/
def ww_tk (l c : Int) : Int := lf_wl ((lf_wl ((lf_wl l).tdiv 10)) * c)
def ww_pu (J : Nat → Int → Int) (F : Int → Int) (p : Int) (w : Nat) (T : ww_T) : ww_T := if F w = 0 then T else (lf_wl (lf_wl T.1 - ww_tk T.1 (F w)), ds_u1 T.2 (wj_i J w p) (lf_wl (lf_wl (T.2 (wj_i J w p)) + ww_tk T.1 (F w))))
def ww_go (J : Nat → Int → Int) (F : Int → Int) (p : Int) : Nat → Nat → ww_T → ww_T
  | 0, _, T => T
  | k + 1, w, T => ww_go J F p k (w + 1) (ww_pu J F p w T)
def ww_en (x : Int) (T : ww_T) : Int → Int := ds_u1 T.2 x (lf_wl (lf_wl (T.2 x) + lf_wl T.1))
/-- from one stand -/
def ww_fr (J : Nat → Int → Int) (C : Int → Int → Int → Int) (x d : Int) (A : Int → Int) : Int → Int := ww_en x (ww_go J (fun w => C w (x.tdiv 13) (x.tmod 13 - 1)) (x.tdiv 13) (J 1 1).toNat 0 (lf_wl (lf_wl d * 10000), A))
/-- one move -/
def ww_mv (J : Nat → Int → Int) (C : Int → Int → Int → Int) (D : Int → Int) : Nat → Nat → (Int → Int) → Int → Int
  | 0, _, A => A
  | k + 1, i, A => ww_mv J C D k (i + 1) (if lf_wl (D i) ≤ 0 then A else ww_fr J C i (D i) A)
def ww_ms (J : Nat → Int → Int) (C : Int → Int → Int → Int) : Nat → (Int → Int) → Int → Int
  | 0, D => D
  | k + 1, D => ww_ms J C k (ww_mv J C D 156 0 (fun _ => 0))
def ww_0 (x : Int) : Int → Int := ds_u1 (fun _ => 0) x 1
def ww_su (D : Int → Int) (b : Int) : Nat → Nat → Int → Int
  | 0, _, a => a
  | k + 1, i, a => ww_su D b k (i + 1) (lf_wl (lf_wl a + lf_wl (D (b * 13 + i))))
def ww_lo : Nat → Int → Int
  | 0, a => a
  | k + 1, a => ww_lo k (lf_wl (lf_wl a * 10000))
def ww_an (u l low : Int) : Int := lf_wl (lf_wl ((lf_wl (if low = 0 then u else l)).tdiv (lf_wl ((Nat.gcd u.toNat l.toNat : Nat) : Int))))
/-! sums -/
def ww_s (A : Int → Int) : Nat → Int
  | 0 => 0
  | n + 1 => ww_s A n + A n
theorem ww_us : ds_u1 A x v x = v := if_pos rfl
theorem ww_ui (h : y ≠ x) : ds_u1 A x v y = A y := if_neg h
theorem ww_sU (x0 : 0 ≤ x) : ∀ n : Nat, ww_s (ds_u1 A x v) n = ww_s A n + (if x < (n : Int) then v - A x else 0) := by
  intro n
  induction n with
  | zero => rw [if_neg (by omega)]; rfl
  | succ n ih =>
    show ww_s (ds_u1 A x v) n + ds_u1 A x v (n : Int) = ww_s A n + A (n : Int) + (if x < ((n + 1 : Nat) : Int) then v - A x else 0)
    rw [ih]
    by_cases e : x = (n : Int)
    · rw [← e, ww_us, if_neg (by omega), if_pos (by omega)]; omega
    · rw [ww_ui (fun q => e q.symm)]
      by_cases q : x < (n : Int)
      · rw [if_pos q, if_pos (by omega)]; omega
      · rw [if_neg q, if_neg (by omega)]; omega
theorem ww_s0 (h : ∀ i, 0 ≤ A i) : ∀ n : Nat, 0 ≤ ww_s A n := by
  intro n
  induction n with
  | zero => exact Int.le_refl 0
  | succ n ih =>
    have := h (n : Int)
    show 0 ≤ ww_s A n + A n
    omega
theorem ww_sm (h : ∀ i, 0 ≤ A i) (a : Nat) : ∀ k : Nat, ww_s A a ≤ ww_s A (a + k) := by
  intro k
  induction k with
  | zero => exact Int.le_refl _
  | succ k ih =>
    have := h ((a + k : Nat) : Int)
    show ww_s A a ≤ ww_s A (a + k) + A ((a + k : Nat) : Int)
    omega
theorem ww_sB (h : ∀ i, 0 ≤ A i) (n i : Nat) (hi : i < n) : A i ≤ ww_s A n := by
  have h1 := ww_sm h (i + 1) (n - (i + 1))
  rw [show i + 1 + (n - (i + 1)) = n by omega] at h1
  have h2 : ww_s A (i + 1) = ww_s A i + A i := rfl
  have h3 := ww_s0 h i
  omega
theorem ww_sz : ∀ n : Nat, ww_s (fun _ => 0) n = 0 := by
  intro n
  induction n with
  | zero => rfl
  | succ n ih => exact (show ww_s (fun _ => 0) n + 0 = 0 by rw [ih]; rfl)
/-- odds that add up to N -/
def ww_G (n0 : Int) (D : Int → Int) (N : Int) : Prop := (∀ i, 0 ≤ D i) ∧ (∀ i, D i ≠ 0 → 0 ≤ i ∧ i < 13 * n0) ∧ ww_s D 156 = N
theorem ww_G0 (h : ww_G n0 D N) : 0 ≤ N := by
  have := ww_s0 h.1 156
  rw [h.2.2] at this
  exact this
theorem ww_GB (n12 : n0 ≤ 12) (h : ww_G n0 D N) (i : Int) : 0 ≤ D i ∧ D i ≤ N := by
  refine ⟨h.1 i, ?_⟩
  by_cases q : D i = 0
  · rw [q]; exact ww_G0 h
  · have r := h.2.1 i q
    have m := ww_sB h.1 156 i.toNat (by omega)
    rw [show ((i.toNat : Nat) : Int) = i by omega, h.2.2] at m
    exact m
theorem ww_Gu (n12 : n0 ≤ 12) (h : ww_G n0 A N) (x0 : 0 ≤ x) (x1 : x < 13 * n0) (v0 : 0 ≤ v) (e : N + v - A x = M) : ww_G n0 (ds_u1 A x v) M := by
  refine ⟨fun i => ?_, fun i hi => ?_, ?_⟩
  · by_cases q : i = x
    · rw [q, ww_us]; exact v0
    · rw [ww_ui q]; exact h.1 i
  · by_cases q : i = x
    · rw [q]; exact ⟨x0, x1⟩
    · rw [ww_ui q] at hi; exact h.2.1 i hi
  · rw [ww_sU x0, h.2.2, if_pos (by omega)]; omega
theorem ww_Gz : ww_G n0 (fun _ => 0) 0 := ⟨fun _ => Int.le_refl 0, fun _ h => absurd rfl h, ww_sz 156⟩
theorem ww_Gy : ww_G n0 (fun _ => 0) (10000 * ww_s D 0) := by
  show ww_G n0 (fun _ => 0) (10000 * 0)
  rw [Int.mul_zero]
  exact ww_Gz
theorem ww_G1 (n12 : n0 ≤ 12) (x0 : 0 ≤ x) (x1 : x < 13 * n0) : ww_G n0 (ww_0 x) 1 := ww_Gu n12 ww_Gz x0 x1 (by decide) rfl
theorem ww_tkB (h : 0 ≤ l) (h2 : l ≤ 10000000000000000) (c0 : 0 ≤ c) (c1 : c ≤ 10) : 0 ≤ ww_tk l c ∧ ww_tk l c ≤ l := by
  unfold ww_tk
  have e : l.tdiv 10 = l / 10 := Int.tdiv_eq_ediv_of_nonneg h
  rw [lf_wlR (a := l) (by omega), e]
  obtain ⟨q, hq⟩ : ∃ q, q = l / 10 := ⟨_, rfl⟩
  rw [← hq]
  have q0 : 0 ≤ q := by omega
  have q1 : q * 10 ≤ l := by omega
  have m1 : 0 ≤ q * c := Int.mul_nonneg q0 c0
  have m2 : q * c ≤ q * 10 := Int.mul_le_mul_of_nonneg_left c1 q0
  rw [lf_wlR (a := q) (by omega)]
  generalize q * c = m at m1 m2 ⊢
  rw [lf_wlR (a := m) (by omega)]
  omega
/-- what is left and what is there add up to K -/
def ww_I (n0 : Int) (T : ww_T) (K : Int) : Prop := 0 ≤ T.1 ∧ ww_G n0 T.2 (K - T.1)
theorem ww_puI (n12 : n0 ≤ 12) (hK : K ≤ 10000000000000000) (hc : 0 ≤ F w ∧ F w ≤ 10) (hi : F w ≠ 0 → 0 ≤ wj_i J w p ∧ wj_i J w p < 13 * n0) (h : ww_I n0 T K) : ww_I n0 (ww_pu J F p w T) K := by
  unfold ww_pu
  by_cases q : F w = 0
  · rw [if_pos q]; exact h
  · rw [if_neg q]
    obtain ⟨h1, h2⟩ := h
    have b := ww_GB n12 h2 (wj_i J w p)
    have M0 := ww_G0 h2
    obtain ⟨t, ht⟩ : ∃ t, t = ww_tk T.1 (F w) := ⟨_, rfl⟩
    have tb : 0 ≤ t ∧ t ≤ T.1 := by rw [ht]; exact ww_tkB h1 (by omega) hc.1 hc.2
    rw [← ht, lf_wlR (a := T.1) (by omega), lf_wlR (a := T.2 (wj_i J w p)) (by omega), lf_wlR (a := T.1 - t) (by omega), lf_wlR (a := T.2 (wj_i J w p) + t) (by omega)]
    refine ⟨show 0 ≤ T.1 - t by omega, ?_⟩
    exact ww_Gu n12 h2 (hi q).1 (hi q).2 (show 0 ≤ T.2 (wj_i J w p) + t by omega) (show K - T.1 + (T.2 (wj_i J w p) + t) - T.2 (wj_i J w p) = K - (T.1 - t) by omega)
theorem ww_goI (n12 : n0 ≤ 12) (hK : K ≤ 10000000000000000) : ∀ (k w : Nat) (T : ww_T), (∀ y : Nat, w ≤ y → y < w + k → (0 ≤ F y ∧ F y ≤ 10) ∧ (F y ≠ 0 → 0 ≤ wj_i J y p ∧ wj_i J y p < 13 * n0)) → ww_I n0 T K → ww_I n0 (ww_go J F p k w T) K := by
  intro k
  induction k with
  | zero => intro w T _ h; exact h
  | succ k ih =>
    intro w T hF h
    have h0 := hF w (Nat.le_refl w) (by omega)
    exact ih (w + 1) _ (fun y y0 y1 => hF y (by omega) (by omega)) (ww_puI n12 hK h0.1 h0.2 h)
theorem ww_enG (n12 : n0 ≤ 12) (hK : K ≤ 10000000000000000) (x0 : 0 ≤ x) (x1 : x < 13 * n0) (h : ww_I n0 T K) : ww_G n0 (ww_en x T) K := by
  obtain ⟨h1, h2⟩ := h
  have b := ww_GB n12 h2 x
  have M0 := ww_G0 h2
  unfold ww_en
  rw [lf_wlR (a := T.1) (by omega), lf_wlR (a := T.2 x) (by omega), lf_wlR (a := T.2 x + T.1) (by omega)]
  exact ww_Gu n12 h2 x0 x1 (by omega) (by omega)
/-- chances, and where they lead -/
def ww_C (J : Nat → Int → Int) (C : Int → Int → Int → Int) : Prop := (∀ w p c, 0 ≤ C w p c ∧ C w p c ≤ 10) ∧ ∀ (w : Nat) (p c : Int), (w : Int) < J 1 1 → 0 ≤ p → p < J 1 0 → C w p c ≠ 0 → 0 ≤ wj_i J w p ∧ wj_i J w p < 13 * J 1 0
theorem ww_p0 {n1 : Int} (x0 : 0 ≤ x) (x1 : x < 13 * n1) : 0 ≤ x.tdiv 13 ∧ x.tdiv 13 < n1 := by
  rw [Int.tdiv_eq_ediv_of_nonneg x0]
  omega
theorem ww_frG (hC : ww_C J C) (n12 : J 1 0 ≤ 12) (h : ww_G (J 1 0) A M) (d0 : 0 < d) (x0 : 0 ≤ x) (x1 : x < 13 * J 1 0) (hK : M + 10000 * d ≤ 10000000000000000) : ww_G (J 1 0) (ww_fr J C x d A) (M + 10000 * d) := by
  have M0 := ww_G0 h
  have pp := ww_p0 x0 x1
  unfold ww_fr
  rw [lf_wlR (a := d) (by omega), lf_wlR (a := d * 10000) (by omega)]
  refine ww_enG n12 hK x0 x1 (ww_goI n12 hK _ 0 _ (fun y _ y1 => ⟨hC.1 _ _ _, fun q => hC.2 y _ _ (by omega) pp.1 pp.2 q⟩) ⟨show 0 ≤ d * 10000 by omega, ?_⟩)
  show ww_G (J 1 0) A (M + 10000 * d - d * 10000)
  rw [show M + 10000 * d - d * 10000 = M by omega]
  exact h
theorem ww_mvG (hC : ww_C J C) (n12 : J 1 0 ≤ 12) (hD : ww_G (J 1 0) D N) (hN : 10000 * N ≤ 10000000000000000) : ∀ (k i : Nat) (A : Int → Int), i + k = 156 → ww_G (J 1 0) A (10000 * ww_s D i) → ww_G (J 1 0) (ww_mv J C D k i A) (10000 * N) := by
  have N0 := ww_G0 hD
  intro k
  induction k with
  | zero =>
    intro i A e h
    rw [show i = 156 by omega, hD.2.2] at h
    exact h
  | succ k ih =>
    intro i A e h
    have b := ww_GB n12 hD (i : Int)
    have s1 : ww_s D (i + 1) = ww_s D i + D i := rfl
    have s2 := ww_sm hD.1 (i + 1) k
    rw [show i + 1 + k = 156 by omega, hD.2.2] at s2
    refine ih (i + 1) _ (by omega) ?_
    rw [lf_wlR (a := D i) (by omega)]
    by_cases q : D i ≤ 0
    · rw [if_pos q, s1, show D (i : Int) = 0 by omega, Int.add_zero]
      exact h
    · rw [if_neg q, s1, Int.mul_add]
      have r := hD.2.1 (i : Int) (by omega)
      exact ww_frG hC n12 h (by omega) r.1 r.2 (by omega)
def ww_b : Nat → Int → Prop
  | 0, N => N ≤ 10000000000000000
  | k + 1, N => ww_b k (10000 * N)
theorem ww_bN : ∀ (k : Nat) (N : Int), 0 ≤ N → ww_b k N → N ≤ 10000000000000000 := by
  intro k
  induction k with
  | zero => intro N _ h; exact h
  | succ k ih =>
    intro N n0 h
    have := ih (10000 * N) (by omega) h
    omega
theorem ww_b4 (n : Nat) (h : n ≤ 4) : ww_b n 1 := by
  rcases (show n = 0 ∨ n = 1 ∨ n = 2 ∨ n = 3 ∨ n = 4 by omega) with e | e | e | e | e
  · rw [e]; exact (show (1 : Int) ≤ 10000000000000000 by decide)
  · rw [e]; exact (show (10000 * 1 : Int) ≤ 10000000000000000 by decide)
  · rw [e]; exact (show (10000 * (10000 * 1) : Int) ≤ 10000000000000000 by decide)
  · rw [e]; exact (show (10000 * (10000 * (10000 * 1)) : Int) ≤ 10000000000000000 by decide)
  · rw [e]; exact (show (10000 * (10000 * (10000 * (10000 * 1))) : Int) ≤ 10000000000000000 by decide)
theorem ww_msG (hC : ww_C J C) (n12 : J 1 0 ≤ 12) : ∀ (k : Nat) (D : Int → Int) (N : Int), ww_b k N → 1 ≤ N → ww_G (J 1 0) D N → ww_G (J 1 0) (ww_ms J C k D) (ww_lo k N) ∧ 1 ≤ ww_lo k N ∧ ww_lo k N ≤ 10000000000000000 := by
  intro k
  induction k with
  | zero => intro D N h h1 hD; exact ⟨hD, h1, h⟩
  | succ k ih =>
    intro D N h h1 hD
    have hN := ww_bN k (10000 * N) (by omega) h
    have e : ww_lo (k + 1) N = ww_lo k (10000 * N) := by
      show ww_lo k (lf_wl (lf_wl N * 10000)) = _
      rw [lf_wlR (a := N) (by omega), lf_wlR (a := N * 10000) (by omega), Int.mul_comm]
    rw [e]
    exact ih (ww_mv J C D 156 0 (fun _ => 0)) (10000 * N) h (by omega) (ww_mvG hC n12 hD hN 156 0 _ rfl ww_Gy)
theorem ww_suE (n12 : n0 ≤ 12) (h : ww_G n0 D N) (hN : N ≤ 10000000000000000) (b : Nat) : ∀ k i : Nat, 13 * b + i + k ≤ 156 → ww_su D b k i (ww_s D (13 * b + i) - ww_s D (13 * b)) = ww_s D (13 * b + i + k) - ww_s D (13 * b) := by
  intro k
  induction k with
  | zero => intro i _; rfl
  | succ k ih =>
    intro i hk
    have e : D ((b : Int) * 13 + i) = D ((13 * b + i : Nat) : Int) := congrArg D (by omega)
    have s1 : ww_s D (13 * b + (i + 1)) = ww_s D (13 * b + i) + D ((13 * b + i : Nat) : Int) := rfl
    have m1 := ww_sm h.1 (13 * b) i
    have m2 := ww_sm h.1 (13 * b + (i + 1)) (156 - (13 * b + (i + 1)))
    have m3 := ww_s0 h.1 (13 * b)
    have m4 := h.1 ((13 * b + i : Nat) : Int)
    rw [show 13 * b + (i + 1) + (156 - (13 * b + (i + 1))) = 156 by omega, h.2.2] at m2
    show ww_su D b k (i + 1) (lf_wl (lf_wl (ww_s D (13 * b + i) - ww_s D (13 * b)) + lf_wl (D ((b : Int) * 13 + i)))) = _
    rw [e, lf_wlR (a := ww_s D (13 * b + i) - ww_s D (13 * b)) (by omega), lf_wlR (a := D ((13 * b + i : Nat) : Int)) (by omega), lf_wlR (a := ww_s D (13 * b + i) - ww_s D (13 * b) + D ((13 * b + i : Nat) : Int)) (by omega), show ww_s D (13 * b + i) - ww_s D (13 * b) + D ((13 * b + i : Nat) : Int) = ww_s D (13 * b + (i + 1)) - ww_s D (13 * b) by omega, ih (i + 1) (by omega), show 13 * b + (i + 1) + k = 13 * b + i + (k + 1) by omega]
theorem ww_suB (n12 : n0 ≤ 12) (h : ww_G n0 D N) (hN : N ≤ 10000000000000000) {b : Int} (b0 : 0 ≤ b) (b1 : b < 12) : 0 ≤ ww_su D b 13 0 0 ∧ ww_su D b 13 0 0 ≤ N := by
  obtain ⟨b', rfl⟩ := Int.eq_ofNat_of_zero_le b0
  have e := ww_suE n12 h hN b' 13 0 (by omega)
  rw [Nat.add_zero, Int.sub_self] at e
  have e : ww_su D (b' : Int) 13 0 0 = ww_s D (13 * b' + 13) - ww_s D (13 * b') := e
  have m1 := ww_sm h.1 (13 * b') 13
  have m2 := ww_sm h.1 (13 * b' + 13) (156 - (13 * b' + 13))
  have m3 := ww_s0 h.1 (13 * b')
  rw [show 13 * b' + 13 + (156 - (13 * b' + 13)) = 156 by omega, h.2.2] at m2
  rw [e]
  omega
/-- the answer's two numbers -/
theorem ww_fin (hC : ww_C J C) (n12 : J 1 0 ≤ 12) (x0 : 0 ≤ x) (x1 : x < 13 * J 1 0) {n : Nat} (hn : n ≤ 4) {b : Int} (b0 : 0 ≤ b) (b1 : b < 12) : (0 ≤ ww_su (ww_ms J C n (ww_0 x)) b 13 0 0 ∧ ww_su (ww_ms J C n (ww_0 x)) b 13 0 0 ≤ ww_lo n 1) ∧ 1 ≤ ww_lo n 1 ∧ ww_lo n 1 ≤ 10000000000000000 := by
  obtain ⟨g1, g2, g3⟩ := ww_msG hC n12 n (ww_0 x) 1 (ww_b4 n hn) (Int.le_refl 1) (ww_G1 n12 x0 x1)
  exact ⟨ww_suB n12 g1 g3 b0 b1, g2, g3⟩
/-! ways that aren't there -/
theorem ww_pu0 (h : F w = 0) : ww_pu J F p w T = T := if_pos h
theorem ww_goS {P : Nat → Bool} (hF : ∀ w : Nat, P w = false → F w = 0) (T : ww_T) (l : Nat) : ∀ (k w : Nat), (∀ y : Nat, w ≤ y → y < w + k → P y = false) → ww_go J F p (k + l) w T = ww_go J F p l (w + k) T := by
  intro k
  induction k with
  | zero => intro w _; rw [Nat.zero_add]; rfl
  | succ k ih =>
    intro w h
    have h0 := hF w (h w (Nat.le_refl w) (by omega))
    rw [show k + 1 + l = (k + l) + 1 by omega]
    show ww_go J F p (k + l) (w + 1) (ww_pu J F p w T) = _
    rw [ww_pu0 h0, ih (w + 1) (fun y y0 y1 => h y (by omega) (by omega)), show w + 1 + k = w + (k + 1) by omega]
theorem ww_goN {P : Nat → Bool} (hF : ∀ w : Nat, P w = false → F w = 0) (T : ww_T) (k w : Nat) (h : ∀ y : Nat, w ≤ y → y < w + k → P y = false) : ww_go J F p k w T = T := ww_goS hF T 0 k w h
/-! lowest terms -/
theorem ww_e1 {a b k : Nat} (hb : b ≤ a) (b0 : 0 < b) (h : a * b < 2 ^ (k + 1)) : b * (a % b) < 2 ^ k := by
  have h1 : a % b < b := Nat.mod_lt a b0
  have h2 : a % b ≤ a - b := by rw [Nat.mod_eq_sub_mod hb]; exact Nat.mod_le _ _
  generalize a % b = r at h1 h2 ⊢
  have h3 : 2 * r ≤ a := by omega
  have h4 : b * (2 * r) ≤ b * a := Nat.mul_le_mul_left b h3
  rw [Nat.mul_left_comm b 2 r] at h4
  rw [Nat.pow_succ, Nat.mul_comm a b] at h
  generalize b * r = m at h4 ⊢
  generalize b * a = m' at h4 h
  generalize 2 ^ k = e at h ⊢
  omega
theorem ww_e2 {a b : Nat} : Nat.gcd b (a % b) = Nat.gcd a b := by
  rw [Nat.gcd_comm b (a % b), ← Nat.gcd_rec, Nat.gcd_comm]
end WH
