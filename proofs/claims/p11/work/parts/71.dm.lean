/-! distances: what the class's table and the reference's rounds both are -/
section DM
/-- how many of 0 .. n-1 -/
def dm_cn (P : Nat → Bool) : Nat → Nat
  | 0 => 0
  | n + 1 => dm_cn P n + (if P n = true then 1 else 0)
variable {P P' : Nat → Bool} {n : Nat}
theorem dm_cnB : ∀ n : Nat, dm_cn P n ≤ n := by
  intro n
  induction n with
  | zero => exact Nat.le_refl _
  | succ n ih => show dm_cn P n + (if P n = true then 1 else 0) ≤ n + 1; split <;> omega
theorem dm_cnM (h : ∀ j, P j = true → P' j = true) : ∀ n : Nat, dm_cn P n ≤ dm_cn P' n := by
  intro n
  induction n with
  | zero => exact Nat.le_refl _
  | succ n ih =>
    show dm_cn P n + (if P n = true then 1 else 0) ≤ dm_cn P' n + (if P' n = true then 1 else 0)
    by_cases c : P n = true
    · rw [if_pos c, if_pos (h n c)]; omega
    · rw [if_neg c]; split <;> omega
theorem dm_cnL (h : ∀ j, P j = true → P' j = true) {k : Nat} (h1 : P' k = true) (h2 : P k = false) : ∀ n : Nat, k < n → dm_cn P n < dm_cn P' n := by
  intro n
  induction n with
  | zero => intro q; omega
  | succ n ih =>
    intro q
    show dm_cn P n + (if P n = true then 1 else 0) < dm_cn P' n + (if P' n = true then 1 else 0)
    by_cases e : k = n
    · subst e
      have := dm_cnM h k
      rw [h1, h2, if_pos rfl, if_neg (by decide)]; omega
    · have := ih (by omega)
      by_cases c : P n = true
      · rw [if_pos c, if_pos (h n c)]; omega
      · rw [if_neg c]; split <;> omega
/-- d is the distance on 0 .. n-1 by edges E; 1000: none -/
def dm_M (n : Int) (E : Int → Int → Prop) (d : Int → Int → Int) : Prop :=
  (∀ i, 0 ≤ i → i < n → d i i = 0) ∧ (∀ i j, 0 ≤ i → i < n → 0 ≤ j → j < n → 0 ≤ d i j ∧ d i j ≤ 1000 ∧ (i ≠ j → 1 ≤ d i j)) ∧ (∀ i j, 0 ≤ i → i < n → 0 ≤ j → j < n → d i j = d j i)
  ∧ (∀ i j k, 0 ≤ i → i < n → 0 ≤ j → j < n → 0 ≤ k → k < n → d i k ≤ d i j + d j k) ∧ (∀ i j, E i j → 0 ≤ i ∧ i < n ∧ 0 ≤ j ∧ j < n ∧ d i j ≤ 1)
  ∧ (∀ i j, 0 ≤ i → i < n → 0 ≤ j → j < n → i ≠ j → d i j = 1000 ∨ ∃ v, E i v ∧ d v j = d i j - 1)
variable {m : Int} {E E' : Int → Int → Prop} {d d' : Int → Int → Int}
/-- all levels below a finite distance are there -/
theorem dm_lv (h : dm_M m E d) {t : Int} (t0 : 0 ≤ t) (t1 : t < m) : ∀ (L : Nat) (s : Int), 0 ≤ s → s < m → d s t = L → (L : Int) < 1000 → ∀ k : Nat, k ≤ L → ∃ v, 0 ≤ v ∧ v < m ∧ d v t = k := by
  obtain ⟨h1, h2, h3, h4, h5, h6⟩ := h
  intro L
  induction L with
  | zero =>
    intro s s0 s1 e _ k hk
    exact ⟨s, s0, s1, by omega⟩
  | succ L ih =>
    intro s s0 s1 e hL k hk
    by_cases q : k = L + 1
    · exact ⟨s, s0, s1, by omega⟩
    · have ne : s ≠ t := fun q => by
        subst q
        have := h1 s s0 s1
        omega
      rcases h6 s t s0 s1 t0 t1 ne with w | ⟨v, hv, w⟩
      · omega
      · have b := h5 s v hv
        exact ih v b.2.2.1 b.2.2.2.1 (by omega) (by omega) k (by omega)
/-- a finite distance is below n -/
theorem dm_fin (h : dm_M m E d) {s t : Int} (s0 : 0 ≤ s) (s1 : s < m) (t0 : 0 ≤ t) (t1 : t < m) (hf : d s t ≠ 1000) : d s t < m := by
  have hb := h.2.1 s t s0 s1 t0 t1
  obtain ⟨L, hL⟩ := Int.eq_ofNat_of_zero_le hb.1
  obtain ⟨n, hn⟩ := Int.eq_ofNat_of_zero_le (show 0 ≤ m by omega)
  have lv := dm_lv h t0 t1 L s s0 s1 hL (by omega)
  have key : ∀ k : Nat, k ≤ L → k + 1 ≤ dm_cn (fun j => decide (d j t ≤ k)) n := by
    intro k
    induction k with
    | zero =>
      intro hk
      obtain ⟨v, v0, v1, e⟩ := lv 0 hk
      obtain ⟨u, hu⟩ := Int.eq_ofNat_of_zero_le v0
      have := dm_cnL (P := fun _ => false) (P' := fun j => decide (d j t ≤ ((0 : Nat) : Int))) (fun j q => by cases q) (k := u) (decide_eq_true (by rw [← hu, e]; exact Int.le_refl _)) rfl n (by omega)
      omega
    | succ k ih =>
      intro hk
      have := ih (by omega)
      obtain ⟨v, v0, v1, e⟩ := lv (k + 1) hk
      obtain ⟨u, hu⟩ := Int.eq_ofNat_of_zero_le v0
      have := dm_cnL (P := fun j => decide (d j t ≤ (k : Int))) (P' := fun j => decide (d j t ≤ ((k + 1 : Nat) : Int))) (fun j q => decide_eq_true (by have := of_decide_eq_true q; omega)) (k := u) (decide_eq_true (by rw [← hu, e]; exact Int.le_refl _)) (decide_eq_false (by rw [← hu, e]; omega)) n (by omega)
      omega
  have := key L (Nat.le_refl _)
  have := dm_cnB (P := fun j => decide (d j t ≤ (L : Int))) n
  omega
/-- two distances by the same edges are the same -/
theorem dm_uq (h : dm_M m E d) (h' : dm_M m E d') {t : Int} (t0 : 0 ≤ t) (t1 : t < m) : ∀ (L : Nat) (s : Int), 0 ≤ s → s < m → d s t = L → (L : Int) < 1000 → d' s t ≤ L := by
  obtain ⟨h1, h2, h3, h4, h5, h6⟩ := h
  obtain ⟨g1, g2, g3, g4, g5, g6⟩ := h'
  intro L
  induction L with
  | zero =>
    intro s s0 s1 e _
    by_cases q : s = t
    · subst q
      have := g1 s s0 s1
      omega
    · have := (h2 s t s0 s1 t0 t1).2.2 q
      omega
  | succ L ih =>
    intro s s0 s1 e hL
    have ne : s ≠ t := fun q => by
      subst q
      have := h1 s s0 s1
      omega
    rcases h6 s t s0 s1 t0 t1 ne with w | ⟨v, hv, w⟩
    · omega
    · have b := h5 s v hv
      have a := ih v b.2.2.1 b.2.2.2.1 (by omega) (by omega)
      have c := g5 s v hv
      have := g4 s v t s0 s1 b.2.2.1 b.2.2.2.1 t0 t1
      omega
theorem dm_eq (h : dm_M m E d) (h' : dm_M m E d') {s t : Int} (s0 : 0 ≤ s) (s1 : s < m) (t0 : 0 ≤ t) (t1 : t < m) : d s t = d' s t := by
  have a := h.2.1 s t s0 s1 t0 t1
  have b := h'.2.1 s t s0 s1 t0 t1
  obtain ⟨L, hL⟩ := Int.eq_ofNat_of_zero_le a.1
  obtain ⟨K, hK⟩ := Int.eq_ofNat_of_zero_le b.1
  by_cases c : d s t = 1000
  · by_cases c' : d' s t = 1000
    · omega
    · have := dm_uq h' h t0 t1 K s s0 s1 hK (by omega)
      omega
  · have x := dm_uq h h' t0 t1 L s s0 s1 hL (by omega)
    have y := dm_uq h' h t0 t1 K s s0 s1 hK (by omega)
    omega
/-! one edge more -/
def dm_nw (d : Int → Int → Int) (a b : Int) (i j : Int) : Int := min (d i j) (min (d i a + 1 + d b j) (d i b + 1 + d a j))
def dm_E (E : Int → Int → Prop) (a b : Int) (i j : Int) : Prop := E i j ∨ (i = a ∧ j = b) ∨ (i = b ∧ j = a)
/-- old or new -/
def dm_on (d : Int → Int → Int) (a b i j x : Int) : Prop := x = d i j ∨ x = dm_nw d a b i j
variable {a b i j : Int}
theorem dm_st (h : dm_M m E d) (a0 : 0 ≤ a) (a1 : a < m) (b0 : 0 ≤ b) (b1 : b < m) (i0 : 0 ≤ i) (i1 : i < m) (j0 : 0 ≤ j) (j1 : j < m) {xa xb ya yb : Int} (ha : dm_on d a b i a xa) (hb : dm_on d a b i b xb) (ka : dm_on d a b a j ya) (kb : dm_on d a b b j yb) : min (d i j) (min (xa + 1 + yb) (xb + 1 + ya)) = dm_nw d a b i j := by
  obtain ⟨h1, h2, h3, h4, h5, h6⟩ := h
  have e1 := h1 a a0 a1
  have e2 := h1 b b0 b1
  have t1 := h4 i a j i0 i1 a0 a1 j0 j1
  have t2 := h4 i b j i0 i1 b0 b1 j0 j1
  have n1 := (h2 i a i0 i1 a0 a1).1
  have n2 := (h2 i b i0 i1 b0 b1).1
  have n3 := (h2 a j a0 a1 j0 j1).1
  have n4 := (h2 b j b0 b1 j0 j1).1
  have n5 := (h2 a b a0 a1 b0 b1).1
  have n6 := h3 a b a0 a1 b0 b1
  unfold dm_on dm_nw at *
  rw [e1] at ha ka
  rw [e2] at hb kb
  rcases ha with ha | ha <;> rcases hb with hb | hb <;> rcases ka with ka | ka <;> rcases kb with kb | kb <;> omega
theorem dm_add (h : dm_M m E d) (a0 : 0 ≤ a) (a1 : a < m) (b0 : 0 ≤ b) (b1 : b < m) (hab : a ≠ b) : dm_M m (dm_E E a b) (dm_nw d a b) := by
  obtain ⟨h1, h2, h3, h4, h5, h6⟩ := h
  have ea := h1 a a0 a1
  have eb := h1 b b0 b1
  have nw : ∀ i j, 0 ≤ i → i < m → 0 ≤ j → j < m → dm_nw d a b i j ≤ d i j ∧ dm_nw d a b i j ≤ d i a + 1 + d b j ∧ dm_nw d a b i j ≤ d i b + 1 + d a j := fun i j i0 i1 j0 j1 => by unfold dm_nw; omega
  have tri : ∀ i j k, 0 ≤ i → i < m → 0 ≤ j → j < m → 0 ≤ k → k < m → dm_nw d a b i k ≤ dm_nw d a b i j + dm_nw d a b j k := by
    intro i j k i0 i1 j0 j1 k0 k1
    have q1 := h4 i j k i0 i1 j0 j1 k0 k1
    have q2 := h4 i j a i0 i1 j0 j1 a0 a1
    have q3 := h4 i j b i0 i1 j0 j1 b0 b1
    have q4 := h4 a j k a0 a1 j0 j1 k0 k1
    have q5 := h4 b j k b0 b1 j0 j1 k0 k1
    have q6 := h4 i a k i0 i1 a0 a1 k0 k1
    have q7 := h4 i b k i0 i1 b0 b1 k0 k1
    have n1 := (h2 b j b0 b1 j0 j1).1
    have n2 := (h2 a j a0 a1 j0 j1).1
    have n3 := (h2 j a j0 j1 a0 a1).1
    have n4 := (h2 j b j0 j1 b0 b1).1
    unfold dm_nw
    omega
  have edge : ∀ i j, dm_E E a b i j → 0 ≤ i ∧ i < m ∧ 0 ≤ j ∧ j < m ∧ dm_nw d a b i j ≤ 1 := by
    intro i j he
    rcases he with he | ⟨e1, e2⟩ | ⟨e1, e2⟩
    · have := h5 i j he
      have := nw i j this.1 this.2.1 this.2.2.1 this.2.2.2.1
      omega
    · subst e1 e2
      have := nw i j a0 a1 b0 b1
      omega
    · subst e1 e2
      have := nw i j b0 b1 a0 a1
      omega
  have pos : ∀ i j, 0 ≤ i → i < m → 0 ≤ j → j < m → 0 ≤ dm_nw d a b i j ∧ dm_nw d a b i j ≤ 1000 ∧ (i ≠ j → 1 ≤ dm_nw d a b i j) := by
    intro i j i0 i1 j0 j1
    have q := h2 i j i0 i1 j0 j1
    have n1 := (h2 i a i0 i1 a0 a1).1
    have n2 := (h2 i b i0 i1 b0 b1).1
    have n3 := (h2 a j a0 a1 j0 j1).1
    have n4 := (h2 b j b0 b1 j0 j1).1
    unfold dm_nw
    refine ⟨by omega, by omega, fun e => ?_⟩
    have := q.2.2 e
    omega
  refine ⟨fun i i0 i1 => ?_, pos, fun i j i0 i1 j0 j1 => ?_, tri, edge, fun i j i0 i1 j0 j1 ne => ?_⟩
  · have := nw i i i0 i1 i0 i1
    have := (pos i i i0 i1 i0 i1).1
    have := h1 i i0 i1
    omega
  · have e1 := h3 i j i0 i1 j0 j1
    have e2 := h3 i a i0 i1 a0 a1
    have e3 := h3 i b i0 i1 b0 b1
    have e4 := h3 a j a0 a1 j0 j1
    have e5 := h3 b j b0 b1 j0 j1
    unfold dm_nw
    omega
  · have fin : ∀ v, dm_E E a b i v → dm_nw d a b v j ≤ dm_nw d a b i j - 1 → dm_nw d a b i j = 1000 ∨ ∃ v, dm_E E a b i v ∧ dm_nw d a b v j = dm_nw d a b i j - 1 := by
      intro v he hv
      have q := edge i v he
      have := tri i v j i0 i1 q.2.2.1 q.2.2.2.1 j0 j1
      exact Or.inr ⟨v, he, by omega⟩
    have via : ∀ c e : Int, 0 ≤ c → c < m → 0 ≤ e → e < m → dm_E E a b c e → (∀ v, 0 ≤ v → v < m → dm_nw d a b v j ≤ d v c + 1 + d e j) → dm_nw d a b i j = d i c + 1 + d e j → d c c = 0 → dm_nw d a b i j < 1000 → dm_nw d a b i j = 1000 ∨ ∃ v, dm_E E a b i v ∧ dm_nw d a b v j = dm_nw d a b i j - 1 := by
      intro c e c0 c1 e0 e1 he hv hd cc lt
      by_cases ic : i = c
      · subst ic
        have := nw e j e0 e1 j0 j1
        exact fin e he (by omega)
      · have n1 := (h2 e j e0 e1 j0 j1).1
        rcases h6 i c i0 i1 c0 c1 ic with w | ⟨v, v1, v2⟩
        · omega
        · have q := h5 i v v1
          have := hv v q.2.2.1 q.2.2.2.1
          exact fin v (Or.inl v1) (by omega)
    have split3 : dm_nw d a b i j = d i j ∨ dm_nw d a b i j = d i a + 1 + d b j ∨ dm_nw d a b i j = d i b + 1 + d a j := by unfold dm_nw; omega
    by_cases lt : dm_nw d a b i j < 1000
    · rcases split3 with q | q | q
      · rcases h6 i j i0 i1 j0 j1 ne with w | ⟨v, v1, v2⟩
        · omega
        · have q2 := h5 i v v1
          have := nw v j q2.2.2.1 q2.2.2.2.1 j0 j1
          exact fin v (Or.inl v1) (by omega)
      · exact via a b a0 a1 b0 b1 (Or.inr (Or.inl ⟨rfl, rfl⟩)) (fun v v0 v1 => (nw v j v0 v1 j0 j1).2.1) q ea lt
      · exact via b a b0 b1 a0 a1 (Or.inr (Or.inr ⟨rfl, rfl⟩)) (fun v v0 v1 => (nw v j v0 v1 j0 j1).2.2) q eb lt
    · have := pos i j i0 i1 j0 j1
      exact Or.inl (by omega)
/-- no edges: all apart -/
theorem dm_0 : dm_M m (fun _ _ => False) (fun i j => if i = j then 0 else 1000) := by
  refine ⟨fun i _ _ => if_pos rfl, fun i j _ _ _ _ => ?_, fun i j _ _ _ _ => ?_, fun i j k _ _ _ _ _ _ => ?_, fun i j h => h.elim, fun i j _ _ _ _ ne => Or.inl (if_neg ne)⟩
  · dsimp only
    by_cases e : i = j
    · rw [if_pos e]; exact ⟨by decide, by decide, fun q => absurd e q⟩
    · rw [if_neg e]; exact ⟨by decide, by decide, fun _ => by decide⟩
  · dsimp only
    by_cases e : i = j
    · rw [if_pos e, if_pos e.symm]
    · rw [if_neg e, if_neg (fun q => e q.symm)]
  · dsimp only
    (repeat' split) <;> omega
/-- one place more, without edges -/
theorem dm_ext (h : dm_M m E d) (h0 : 0 ≤ m) (e1 : d m m = 0) (e2 : ∀ i, 0 ≤ i → i < m → d i m = 1000 ∧ d m i = 1000) : dm_M (m + 1) E d := by
  obtain ⟨h1, h2, h3, h4, h5, h6⟩ := h
  refine ⟨fun i i0 i1 => ?_, fun i j i0 i1 j0 j1 => ?_, fun i j i0 i1 j0 j1 => ?_, fun i j k i0 i1 j0 j1 k0 k1 => ?_, fun i j he => ?_, fun i j i0 i1 j0 j1 ne => ?_⟩
  · by_cases q : i = m
    · rw [q]; exact e1
    · exact h1 i i0 (by omega)
  · by_cases q : i = m
    · by_cases r : j = m
      · subst q r; rw [e1]; exact ⟨by decide, by decide, fun w => absurd rfl w⟩
      · subst q; rw [(e2 j j0 (by omega)).2]; exact ⟨by decide, by decide, fun _ => by decide⟩
    · by_cases r : j = m
      · subst r; rw [(e2 i i0 (by omega)).1]; exact ⟨by decide, by decide, fun _ => by decide⟩
      · exact h2 i j i0 (by omega) j0 (by omega)
  · by_cases q : i = m
    · by_cases r : j = m
      · subst q r; rfl
      · subst q; have := e2 j j0 (by omega); omega
    · by_cases r : j = m
      · subst r; have := e2 i i0 (by omega); omega
      · exact h3 i j i0 (by omega) j0 (by omega)
  · by_cases q : i = m
    · by_cases r : k = m
      · subst q r
        rw [e1]
        by_cases w : j = k
        · subst w; rw [e1]; decide
        · have := e2 j j0 (by omega); omega
      · subst q
        have := e2 k k0 (by omega)
        by_cases w : j = i
        · subst w; omega
        · have := e2 j j0 (by omega)
          have := (h2 j k j0 (by omega) k0 (by omega)).1
          omega
    · by_cases r : k = m
      · subst r
        have := e2 i i0 (by omega)
        by_cases w : j = k
        · subst w; omega
        · have := e2 j j0 (by omega)
          have := (h2 i j i0 (by omega) j0 (by omega)).1
          omega
      · by_cases w : j = m
        · subst w
          have := e2 i i0 (by omega)
          have := e2 k k0 (by omega)
          have := (h2 i k i0 (by omega) k0 (by omega)).2.1
          omega
        · exact h4 i j k i0 (by omega) j0 (by omega) k0 (by omega)
  · have := h5 i j he
    omega
  · by_cases q : i = m
    · subst q; exact Or.inl (e2 j j0 (by omega)).2
    · by_cases r : j = m
      · subst r; exact Or.inl (e2 i i0 (by omega)).1
      · exact h6 i j i0 (by omega) j0 (by omega) ne
end DM
