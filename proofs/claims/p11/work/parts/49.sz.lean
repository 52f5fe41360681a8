/-! beasts counted, steps kept -/
section SZ
variable {I I' : Nat → Int → Int} {P : Nat → Option Nat}
theorem lf_c4 (f : Int → Int) (k : Int) : (k = 0 → f (114 + 3 * k) = f 114) ∧ (k = 1 → f (114 + 3 * k) = f 117) ∧ (k = 2 → f (114 + 3 * k) = f 120) ∧ (k = 3 → f (114 + 3 * k) = f 123) :=
  ⟨fun h => by subst h; rfl, fun h => by subst h; rfl, fun h => by subst h; rfl, fun h => by subst h; rfl⟩
theorem iv_sumU {i v : Int} (hi : i = 114 ∨ i = 117 ∨ i = 120 ∨ i = 123) : lf_up I 96 i v 96 114 + lf_up I 96 i v 96 117 + lf_up I 96 i v 96 120 + lf_up I 96 i v 96 123 = I 96 114 + I 96 117 + I 96 120 + I 96 123 - I 96 i + v := by
  rcases hi with rfl | rfl | rfl | rfl
  · rw [lf_up_s, lf_up_i (by decide), lf_up_i (by decide), lf_up_i (by decide)]; omega
  · rw [lf_up_s, lf_up_i (b := 114) (by decide), lf_up_i (b := 120) (by decide), lf_up_i (b := 123) (by decide)]; omega
  · rw [lf_up_s, lf_up_i (b := 114) (by decide), lf_up_i (b := 117) (by decide), lf_up_i (b := 123) (by decide)]; omega
  · rw [lf_up_s, lf_up_i (b := 114) (by decide), lf_up_i (b := 117) (by decide), lf_up_i (b := 120) (by decide)]; omega
theorem iv_aP {i : Int} (h : i = 114 ∨ i = 117 ∨ i = 120 ∨ i = 123) : iv_a i = (0, 24) := by
  rcases h with rfl | rfl | rfl | rfl <;> decide
theorem iv_sz0 (h : iv_A I P) : 0 ≤ I 96 114 ∧ 0 ≤ I 96 117 ∧ 0 ≤ I 96 120 ∧ 0 ≤ I 96 123 := ⟨(h.1 96 114).1, (h.1 96 117).1, (h.1 96 120).1, (h.1 96 123).1⟩
/-- two that are joined -/
theorem iv_jn {i j v : Int} (h : iv_A I P) (hi : i = 114 ∨ i = 117 ∨ i = 120 ∨ i = 123) (hj : j = 114 ∨ j = 117 ∨ j = 120 ∨ j = 123) (hij : i ≠ j) (hv : v = I 96 i + I 96 j) : iv_A (lf_up (lf_up I 96 i v) 96 j 0) P := by
  have h0 := iv_sz0 h
  have hs := iv_szA h
  have hI : iv_A (lf_up I 96 j 0) P := iv_w96' h (by show (iv_a j).1 ≤ 0 ∧ 0 ≤ (iv_a j).2; rw [iv_aP hj]; decide) (fun _ => iv_rels h hj (by rcases hj with rfl | rfl | rfl | rfl <;> omega))
  have e : lf_up (lf_up I 96 i v) 96 j 0 = lf_up (lf_up I 96 j 0) 96 i v := by
    funext a b
    by_cases ha : a = 96
    · subst ha
      by_cases hb : b = j
      · subst hb; rw [lf_up_s, lf_up_i (fun e => hij e.symm), lf_up_s]
      · rw [lf_up_i hb]
        by_cases hc : b = i
        · subst hc; rw [lf_up_s, lf_up_s]
        · rw [lf_up_i hc, lf_up_i hc, lf_up_i hb]
    · rw [lf_up_c ha, lf_up_c ha, lf_up_c ha, lf_up_c ha]
  rw [e]
  have hvr : 0 ≤ v ∧ v ≤ 24 := by
    rcases hi with rfl | rfl | rfl | rfl <;> rcases hj with rfl | rfl | rfl | rfl <;> omega
  have e2 := iv_sumU (I := I) (v := 0) hj
  have e3 : lf_up I 96 j 0 96 i = I 96 i := lf_up_i hij
  exact iv_w96' hI (by show (iv_a i).1 ≤ v ∧ v ≤ (iv_a i).2; rw [iv_aP hi]; exact hvr) (fun _ => iv_rels hI hi (by rw [e2, e3]; omega))
theorem iv_aS {r c : Int} (hr : 0 ≤ r ∧ r < 30) (hc : 0 ≤ c ∧ c < 42) : iv_a (278 + 42 * r + c) = (if c = 4 then (0, 30202) else if c < 5 then (-2147483648, 2147483647) else if c < 17 then (if (c - 5) % 3 = 0 then (0, 24) else if (c - 5) % 3 = 1 then (0, 11) else (-1, 11)) else if c < 29 then (if (c - 17) % 2 = 0 then (0, 11) else (-1, 11)) else (-2147483648, 2147483647)) := by
  have e : (278 + 42 * r + c - 278) % 42 = c := by
    rw [show 278 + 42 * r + c - 278 = c + 42 * r by omega, Int.add_mul_emod_self_left]
    exact Int.emod_eq_of_lt hc.1 hc.2
  unfold iv_a
  rw [if_neg (by omega), if_neg (by omega), if_neg (by omega), if_neg (by omega), if_neg (by omega), if_neg (by omega), if_neg (by omega), if_pos (by omega), e]
/-- a step taken back: the bunches -/
theorem iv_und {x r : Int} (h : iv_A I P) (hx : x = 278 + 42 * r) (hr : 0 ≤ r ∧ r < 30) (hs : iv_s4 (I 96) (x + 5)) (ho : ∀ a, a ≠ 96 → I' a = I a) (hd : ∀ j : Int, 114 ≤ j → j < 126 → I' 96 j = I 96 (x + 5 + (j - 114))) (hn : ∀ j : Int, ¬ (114 ≤ j ∧ j < 126) → I' 96 j = I 96 j) : iv_A I' P := by
  refine ⟨?_, h.2.1, iv_Sc h.2.2.1 (ho _ (by decide)) (ho _ (by decide)) (ho _ (by decide)) (ho _ (by decide)) (ho _ (by decide)) (ho _ (by decide)) (ho _ (by decide)), ⟨?_, ?_, ?_, ?_⟩, ?_⟩
  · intro a j
    by_cases ha : a = 96
    · subst ha
      by_cases hj : 114 ≤ j ∧ j < 126
      · rw [hd j hj.1 hj.2]
        have hb := h.1 96 (x + 5 + (j - 114))
        have e : iv_a (x + 5 + (j - 114)) = iv_a j := by
          rw [show x + 5 + (j - 114) = 278 + 42 * r + (5 + (j - 114)) by omega, iv_aS hr (by omega)]
          have : j = 114 ∨ j = 115 ∨ j = 116 ∨ j = 117 ∨ j = 118 ∨ j = 119 ∨ j = 120 ∨ j = 121 ∨ j = 122 ∨ j = 123 ∨ j = 124 ∨ j = 125 := by omega
          rcases this with rfl | rfl | rfl | rfl | rfl | rfl | rfl | rfl | rfl | rfl | rfl | rfl <;> decide
        have hb : (iv_a (x + 5 + (j - 114))).1 ≤ I 96 (x + 5 + (j - 114)) ∧ I 96 (x + 5 + (j - 114)) ≤ (iv_a (x + 5 + (j - 114))).2 := hb
        rw [e] at hb
        exact hb
      · rw [hn j hj]; exact h.1 96 j
    · rw [ho a ha]; exact h.1 a j
  · rw [hn 0 (by omega), hn 1 (by omega), hn 2 (by omega)]; exact h.2.2.2.1.1
  · intro w h0 h1 h2
    rw [hn 1 (by omega)] at h2
    rw [hn 0 (by omega), hn _ (by omega), hn _ (by omega)]
    exact h.2.2.2.1.2.1 w h0 h1 h2
  · unfold iv_s4 at hs ⊢
    rw [hd 114 (by decide) (by decide), hd (114 + 3) (by decide) (by decide), hd (114 + 6) (by decide) (by decide), hd (114 + 9) (by decide) (by decide)]
    rw [show x + 5 + (114 - 114) = x + 5 by omega, show x + 5 + (114 + 3 - 114) = x + 5 + 3 by omega, show x + 5 + (114 + 6 - 114) = x + 5 + 6 by omega, show x + 5 + (114 + 9 - 114) = x + 5 + 9 by omega]
    exact hs
  · intro q h0 h1
    rw [hn 9 (by omega)] at h1
    unfold iv_s4
    rw [hn _ (by omega), hn _ (by omega), hn _ (by omega), hn _ (by omega)]
    exact h.2.2.2.1.2.2.2 q h0 h1
  · unfold iv_l; rw [ho 97 (by decide)]; exact h.2.2.2.2
/-- the oldest step forgotten -/
theorem iv_sht (h : iv_A I P) (h9 : I 96 9 = 30) (ho : ∀ a, a ≠ 96 → I' a = I a) (hd : ∀ j : Int, 278 ≤ j → j < 278 + 1218 → I' 96 j = I 96 (j + 42)) (hn : ∀ j : Int, ¬ (278 ≤ j ∧ j < 278 + 1218) → I' 96 j = I 96 j) : iv_A I' P := by
  refine ⟨?_, h.2.1, iv_Sc h.2.2.1 (ho _ (by decide)) (ho _ (by decide)) (ho _ (by decide)) (ho _ (by decide)) (ho _ (by decide)) (ho _ (by decide)) (ho _ (by decide)), ⟨?_, ?_, ?_, ?_⟩, ?_⟩
  · intro a j
    by_cases ha : a = 96
    · subst ha
      by_cases hj : 278 ≤ j ∧ j < 278 + 1218
      · rw [hd j hj.1 hj.2]
        have hb : (iv_a (j + 42)).1 ≤ I 96 (j + 42) ∧ I 96 (j + 42) ≤ (iv_a (j + 42)).2 := h.1 96 (j + 42)
        have hq : (j - 278) = 42 * ((j - 278) / 42) + (j - 278) % 42 := (Int.mul_ediv_add_emod _ _).symm
        have hm := Int.emod_nonneg (j - 278) (show (42 : Int) ≠ 0 by decide)
        have hl := Int.emod_lt_of_pos (j - 278) (show (0 : Int) < 42 by decide)
        generalize (j - 278) / 42 = q at hq
        generalize (j - 278) % 42 = c at hq hm hl
        have e1 := iv_aS (r := q) (c := c) (by omega) ⟨hm, hl⟩
        have e2 := iv_aS (r := q + 1) (c := c) (by omega) ⟨hm, hl⟩
        rw [show 278 + 42 * q + c = j by omega] at e1
        rw [show 278 + 42 * (q + 1) + c = j + 42 by omega, ← e1] at e2
        rw [e2] at hb
        exact hb
      · rw [hn j hj]; exact h.1 96 j
    · rw [ho a ha]; exact h.1 a j
  · rw [hn 0 (by omega), hn 1 (by omega), hn 2 (by omega)]; exact h.2.2.2.1.1
  · intro w h0 h1 h2
    rw [hn 1 (by omega)] at h2
    rw [hn 0 (by omega), hn _ (by omega), hn _ (by omega)]
    exact h.2.2.2.1.2.1 w h0 h1 h2
  · unfold iv_s4
    rw [hn _ (by omega), hn _ (by omega), hn _ (by omega), hn _ (by omega)]
    exact h.2.2.2.1.2.2.1
  · intro q h0 h1
    rw [hn 9 (by omega), h9] at h1
    unfold iv_s4
    by_cases hq : q < 29
    · rw [hd _ (by omega) (by omega), hd _ (by omega) (by omega), hd _ (by omega) (by omega), hd _ (by omega) (by omega)]
      have := h.2.2.2.1.2.2.2 (q + 1) (by omega) (by omega)
      unfold iv_s4 at this
      rw [show 278 + 42 * (q + 1) + 5 = 278 + 42 * q + 5 + 42 by omega] at this
      rw [show 278 + 42 * q + 5 + 3 + 42 = 278 + 42 * q + 5 + 42 + 3 by omega, show 278 + 42 * q + 5 + 6 + 42 = 278 + 42 * q + 5 + 42 + 6 by omega, show 278 + 42 * q + 5 + 9 + 42 = 278 + 42 * q + 5 + 42 + 9 by omega]
      exact this
    · rw [hn _ (by omega), hn _ (by omega), hn _ (by omega), hn _ (by omega)]
      exact h.2.2.2.1.2.2.2 q h0 (by omega)
  · unfold iv_l; rw [ho 97 (by decide)]; exact h.2.2.2.2
def kp_F (f f' : Int → Int) : Prop := ∀ i : Int, i ≠ 9 → i < 278 → f' i = f i
theorem kp_r {f : Int → Int} : kp_F f f := fun _ _ _ => rfl
theorem kp_u {f f1 f2 : Int → Int} {i : Int} (h : kp_F f f1) (e : ∀ j, j ≠ i → f2 j = f1 j) (hi : i = 9 ∨ 278 ≤ i) : kp_F f f2 := fun j a b => (e j (by omega)).trans (h j a b)
def kp_C (f : Int → Int) (x k : Int) : Prop := ∀ j : Int, 0 ≤ j → j < k → f (x + 5 + j) = f (114 + j)
theorem kp_CS {f f' : Int → Int} {x k i v : Int} (h : kp_C f x k) (e1 : f' i = v) (e2 : ∀ j, j ≠ i → f' j = f j) (hi : i = x + 5 + k ∧ 278 ≤ x ∧ 0 ≤ k ∧ k < 12) (hv : v = f (114 + k)) : kp_C f' x (k + 1) := by
  intro j a b
  rw [e2 (114 + j) (by omega)]
  by_cases hj : j = k
  · subst hj; rw [← hi.1, e1, hv]
  · rw [e2 (x + 5 + j) (by omega)]; exact h j a (by omega)
theorem kp_s4 {f : Int → Int} {x k : Int} (h : kp_C f x k) (hk : 12 ≤ k) (hs : f 114 + f 117 + f 120 + f 123 ≤ 24) : iv_s4 f (x + 5) := by
  have a := h 0 (by decide) (by omega)
  have b := h 3 (by decide) (by omega)
  have c := h 6 (by decide) (by omega)
  have d := h 9 (by decide) (by omega)
  rw [Int.add_zero] at a
  show f (x + 5) + f (x + 5 + 3) + f (x + 5 + 6) + f (x + 5 + 9) ≤ 24
  rw [a, b, c, d]
  exact hs
theorem iv_s4u {f f' : Int → Int} {b i : Int} (h : iv_s4 f b) (e : ∀ j, j ≠ i → f' j = f j) (hi : i < b ∨ b + 9 < i) : iv_s4 f' b := by
  unfold iv_s4 at *
  rw [e _ (by omega), e _ (by omega), e _ (by omega), e _ (by omega)]
  exact h
theorem iv_s4e {f : Int → Int} {b b' : Int} (h : iv_s4 f b) (e : b' = b) : iv_s4 f b' := by
  subst e
  exact h
theorem iv_szR {r : Int} (h : iv_A I P) (h0 : 0 ≤ r) (h1 : r < I 96 9) : iv_s4 (I 96) (278 + 42 * r + 5) := h.2.2.2.1.2.2.2 r h0 h1
theorem lf_ne4 {f : Int → Int} {a b : Int} (h : f (114 + 3 * a) ≠ f (114 + 3 * b)) : a ≠ b := fun e => h (by rw [e])
theorem iv_osc {f f' : Int → Int} {w s : Int} (h : ∀ i : Int, 50 ≤ i → f' i = f i) (hw : 0 ≤ w) : iv_os f' w s = iv_os f w s := by
  unfold iv_os
  rw [h _ (by omega), h _ (by omega)]
end SZ
