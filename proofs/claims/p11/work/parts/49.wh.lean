/-! sets of people and of stretches -/
section WH
def lf_bn (a : Int) : Nat → Int
  | 0 => 0
  | k + 1 => lf_bn a k + lf_and (lf_shr a k) 1
def lf_bt (a k : Int) : Int := lf_bn a k.toNat
theorem lf_and01 {a : Int} : 0 ≤ lf_and a 1 ∧ lf_and a 1 ≤ 1 := lf_andB (by omega) (by omega)
theorem lf_btS {a k : Int} (h : 0 ≤ k) : lf_bt a (k + 1) = lf_bt a k + lf_and (lf_shr a k) 1 := by
  obtain ⟨m, rfl, h1, h2⟩ := pz_tn h
  unfold lf_bt
  rw [h2, h1]
  rfl
theorem lf_bt12 (a : Int) : lf_bt a 12 ≤ lf_bt a 16 := by
  have e1 := lf_btS (a := a) (k := 12) (by decide)
  have e2 := lf_btS (a := a) (k := 13) (by decide)
  have e3 := lf_btS (a := a) (k := 14) (by decide)
  have e4 := lf_btS (a := a) (k := 15) (by decide)
  have a1 := lf_and01 (a := lf_shr a 12)
  have a2 := lf_and01 (a := lf_shr a 13)
  have a3 := lf_and01 (a := lf_shr a 14)
  have a4 := lf_and01 (a := lf_shr a 15)
  have e1 : lf_bt a 13 = lf_bt a 12 + lf_and (lf_shr a 12) 1 := e1
  have e2 : lf_bt a 14 = lf_bt a 13 + lf_and (lf_shr a 13) 1 := e2
  have e3 : lf_bt a 15 = lf_bt a 14 + lf_and (lf_shr a 14) 1 := e3
  have e4 : lf_bt a 16 = lf_bt a 15 + lf_and (lf_shr a 15) 1 := e4
  omega
theorem lf_bt6N : ∀ a : Fin 64, lf_bn (a.val : Int) 12 = lf_bn (a.val : Int) 16 ∧ lf_bn (a.val : Int) 16 ≤ 6 ∧ (1 ≤ a.val → 1 ≤ lf_bn (a.val : Int) 16) := by decide +kernel
theorem lf_bt6 {a : Int} (h : 1 ≤ a ∧ a ≤ 63) : lf_bt a 12 = lf_bt a 16 ∧ lf_bt a 16 ≤ 6 ∧ 1 ≤ lf_bt a 16 := by
  obtain ⟨m, rfl⟩ := Int.eq_ofNat_of_zero_le (show 0 ≤ a by omega)
  obtain ⟨h1, h2, h3⟩ := lf_bt6N ⟨m, by omega⟩
  exact ⟨h1, h2, h3 (by show 1 ≤ m; omega)⟩
def lo_C (f : Int → Int) (a n k : Int) : Prop := ∀ q : Int, 0 ≤ q → q < k → lf_and (lf_shr a q) 1 = 1 → ∃ j : Int, 0 ≤ j ∧ j < n ∧ f j = q
theorem lo_C0 {f : Int → Int} {a n k : Int} (h : lo_C f a n k) (hz : ¬ (lf_and (lf_shr a k) 1 = 1)) : lo_C f a n (k + 1) := by
  intro q a0 a1 a2
  by_cases hq : q = k
  · subst hq; exact absurd a2 hz
  · exact h q a0 (by omega) a2
theorem lo_C1 {f f' : Int → Int} {a n k : Int} (h : lo_C f a n k) (hn : 0 ≤ n) (e1 : f' n = k) (e2 : ∀ j, j ≠ n → f' j = f j) : lo_C f' a (n + 1) (k + 1) := by
  intro q a0 a1 a2
  by_cases hq : q = k
  · subst hq; exact ⟨n, hn, by omega, e1⟩
  · obtain ⟨j, j0, j1, j2⟩ := h q a0 (by omega) a2
    exact ⟨j, j0, by omega, by rw [e2 j (by omega)]; exact j2⟩
theorem lo_CK {f : Int → Int} {a n k : Int} (h : lo_C f a n k) (hk : 12 ≤ k) : lo_C f a n 12 := fun q a0 a1 a2 => h q a0 (by omega) a2
def wh_H (f : Int → Int) (n x : Int) : Prop := x = -1 ∨ ∃ j : Int, 0 ≤ j ∧ j < n ∧ f j = x
theorem wh_i {f : Int → Int} {a n x : Int} (h : lo_C f a n 12) (hx : x = -1 ∨ (0 ≤ x ∧ x < 12 ∧ lf_and (lf_shr a x) 1 = 1)) : wh_H f n x := by
  rcases hx with hx | ⟨h0, h1, h2⟩
  · exact Or.inl hx
  · exact Or.inr (h x h0 h1 h2)
theorem wh_c {f f' : Int → Int} {n x : Int} (e : f' = f) (h : wh_H f n x) : wh_H f' n x := by rw [e]; exact h
def wh_E (f : Int → Int) (x k : Int) : Prop := ∃ j : Int, k ≤ j ∧ j < 6 ∧ f j = x
theorem wh_s {f f' : Int → Int} {n x : Int} (e : f' = f) (h : wh_H f n x) (hn : n ≤ 6) (hx : x ≠ -1) : wh_E f' x 0 := by
  rw [e]
  rcases h with h | ⟨j, h0, h1, h2⟩
  · exact absurd h hx
  · exact ⟨j, h0, by omega, h2⟩
theorem wh_S {f : Int → Int} {x k : Int} (h : wh_E f x k) (hk : f k ≠ x) : wh_E f x (k + 1) := by
  obtain ⟨j, h0, h1, h2⟩ := h
  refine ⟨j, ?_, h1, h2⟩
  by_cases e : j = k
  · subst e; exact absurd h2 hk
  · omega
theorem wh_lt {f : Int → Int} {x k : Int} (h : wh_E f x k) : k < 6 := by
  obtain ⟨j, h0, h1, h2⟩ := h
  omega
end WH
