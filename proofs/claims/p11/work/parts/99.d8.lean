/-! what sums are worth asks letters from a to z alone -/
section D8
variable {f g g' N : Int → Int} {n law : Int} {s t u z : lf_Z} {r : Int × Int} {W : cy_W} {b b' d w l : Int} {t0 : Nat} {D : List Int} {C0 C B : Nat → Int → Int} {o : Option Nat}
theorem lg_V : ∀ (k : Nat) (g g' : Int → Int), lg_a g g' → (∀ d e, (dv_T f n law N k).1 d g e = (dv_T f n law N k).1 d g' e) ∧ (∀ d e, (dv_T f n law N k).2.1 d g e = (dv_T f n law N k).2.1 d g' e) ∧ (∀ d e, (dv_T f n law N k).2.2.1 d g e = (dv_T f n law N k).2.2.1 d g' e) ∧ (∀ d e, (dv_T f n law N k).2.2.2.1 d g e = (dv_T f n law N k).2.2.2.1 d g' e) ∧ (∀ d e, (dv_T f n law N k).2.2.2.2.1 d g e = (dv_T f n law N k).2.2.2.2.1 d g' e) ∧ (∀ d e, (dv_T f n law N k).2.2.2.2.2.1 d g e = (dv_T f n law N k).2.2.2.2.2.1 d g' e) ∧ (∀ d e, (dv_T f n law N k).2.2.2.2.2.2.1 d g e = (dv_T f n law N k).2.2.2.2.2.2.1 d g' e) ∧ (∀ d e, (dv_T f n law N k).2.2.2.2.2.2.2 d g e = (dv_T f n law N k).2.2.2.2.2.2.2 d g' e) := by
  intro k
  induction k with
  | zero => intro g g' _; exact ⟨fun _ _ => rfl, fun _ _ => rfl, fun _ _ => rfl, fun _ _ => rfl, fun _ _ => rfl, fun _ _ => rfl, fun _ _ => rfl, fun _ _ => rfl⟩
  | succ k ih =>
    intro g g' h
    obtain ⟨i1, i2, i3, i4, i5, i6, i7, i8⟩ := ih g g' h
    obtain ⟨j1, j2, j3, j4, j5, j6, j7, j8⟩ := lg_T (f := f) (n := n) (law := law) k g g' h
    refine ⟨fun d e => funext fun b => ?_, fun d e => funext fun b => ?_, fun d e => funext fun b => ?_, fun d e => funext fun b => ?_, fun d e => funext fun b => ?_, fun d e => funext fun b => ?_, fun d e => funext fun b => ?_, fun d e => funext fun b => ?_⟩
    · show dv_lp f n ds_pm ((ds_T f n law k).2.1 d g) ((dv_T f n law N k).2.1 d g e) cm_2 300 ((ds_T f n law k).2.1 d g b).2 ((dv_T f n law N k).2.1 d g e b) = dv_lp f n ds_pm ((ds_T f n law k).2.1 d g') ((dv_T f n law N k).2.1 d g' e) cm_2 300 ((ds_T f n law k).2.1 d g' b).2 ((dv_T f n law N k).2.1 d g' e b)
      rw [i2 d e, j2 d]
    · show dv_lp f n ds_td ((ds_T f n law k).2.2.1 d g) ((dv_T f n law N k).2.2.1 d g e) cm_2 300 ((ds_T f n law k).2.2.1 d g b).2 ((dv_T f n law N k).2.2.1 d g e b) = dv_lp f n ds_td ((ds_T f n law k).2.2.1 d g') ((dv_T f n law N k).2.2.1 d g' e) cm_2 300 ((ds_T f n law k).2.2.1 d g' b).2 ((dv_T f n law N k).2.2.1 d g' e b)
      rw [i3 d e, j3 d]
    · show dv_one f n N (dv_T f n law N k).1 (dv_T f n law N k).2.2.1 (dv_T f n law N k).2.2.2.1 (dv_T f n law N k).2.2.2.2.1 d g e b = dv_one f n N (dv_T f n law N k).1 (dv_T f n law N k).2.2.1 (dv_T f n law N k).2.2.2.1 (dv_T f n law N k).2.2.2.2.1 d g' e b
      unfold dv_one
      rw [i3 (d + 1) e, i1 (d + 1) e, i4 (d + 1) e, i5 (d + 1) e]
    · show dv_if f n (ds_T f n law k).1 (ds_T f n law k).2.2.2.2.2.1 (dv_T f n law N k).1 (dv_T f n law N k).2.2.2.2.2.1 d g e b = dv_if f n (ds_T f n law k).1 (ds_T f n law k).2.2.2.2.2.1 (dv_T f n law N k).1 (dv_T f n law N k).2.2.2.2.2.1 d g' e b
      unfold dv_if
      rw [i6 d e, i1 d e, j6 d, j1 d]
    · show dv_let f n (ds_T f n law k).1 (dv_T f n law N k).1 d g e b = dv_let f n (ds_T f n law k).1 (dv_T f n law N k).1 d g' e b
      unfold dv_let
      rw [i1 d e, j1 d, (ih _ _ (lg_u (i := lx_V f n b) (v := ds_sl d) h)).1 d]
    · show dv_lp f n (ds_is 46) ((ds_T f n law k).2.2.2.2.2.2.1 d g) ((dv_T f n law N k).2.2.2.2.2.2.1 d g e) cm_2 300 ((ds_T f n law k).2.2.2.2.2.2.1 d g b).2 ((dv_T f n law N k).2.2.2.2.2.2.1 d g e b) = dv_lp f n (ds_is 46) ((ds_T f n law k).2.2.2.2.2.2.1 d g') ((dv_T f n law N k).2.2.2.2.2.2.1 d g' e) cm_2 300 ((ds_T f n law k).2.2.2.2.2.2.1 d g' b).2 ((dv_T f n law N k).2.2.2.2.2.2.1 d g' e b)
      rw [i7 d e, j7 d]
    · show dv_lp f n (ds_is 45) ((ds_T f n law k).2.2.2.2.2.2.2 d g) ((dv_T f n law N k).2.2.2.2.2.2.2 d g e) cm_2 300 ((ds_T f n law k).2.2.2.2.2.2.2 d g b).2 ((dv_T f n law N k).2.2.2.2.2.2.2 d g e b) = dv_lp f n (ds_is 45) ((ds_T f n law k).2.2.2.2.2.2.2 d g') ((dv_T f n law N k).2.2.2.2.2.2.2 d g' e) cm_2 300 ((ds_T f n law k).2.2.2.2.2.2.2 d g' b).2 ((dv_T f n law N k).2.2.2.2.2.2.2 d g' e b)
      rw [i8 d e, j8 d]
    · show dv_ask f n (ds_T f n law k).1 (dv_T f n law N k).1 (dv_T f n law N k).2.2.2.2.2.2.2 d g e b = dv_ask f n (ds_T f n law k).1 (dv_T f n law N k).1 (dv_T f n law N k).2.2.2.2.2.2.2 d g' e b
      unfold dv_ask
      rw [i1 d e, i8 (d + 1) e, j1 d]
/-- the places of a text's clauses -/
def tx_ps (f : Int → Int) (n : Int) (g : Int → Int) : Nat → Int → List Int
  | 0, _ => []
  | k + 1, b => if lx_T f n b = 0 then [] else b :: tx_ps f n g k (ds_cl f n g b).2
theorem lg_ps (h : lg_a g g') : ∀ (k : Nat) (b : Int), tx_ps f n g k b = tx_ps f n g' k b := by
  intro k
  induction k with
  | zero => intro b; rfl
  | succ k ih =>
    intro b
    show (if lx_T f n b = 0 then [] else b :: tx_ps f n g k (ds_cl f n g b).2) = (if lx_T f n b = 0 then [] else b :: tx_ps f n g' k (ds_cl f n g' b).2)
    rw [lg_c h, ih]
/-- without letters -/
def tx_g0 : Int → Int := fun _ => -1
theorem cs_Fg (h : lg_a g tx_g0) (hF : cs_F f n g C t0 D) : cs_F f n tx_g0 C t0 D := by
  obtain ⟨h1, h2, h3⟩ := hF
  refine ⟨h1, h2, fun l l0 l1 => ⟨(h3 l l0 l1).1, fun b hb hT => ?_⟩⟩
  obtain ⟨a1, a2⟩ := (h3 l l0 l1).2 b hb hT
  refine ⟨a1, a2.1, fun N M e L st hN hL => ?_⟩
  have := a2.2 N M e L st hN (fun x x0 x1 hx => absurd (h x x0 x1) hx)
  dsimp only at this ⊢
  rw [(lg_V (f := f) (n := n) (law := l) (N := N) 200 g tx_g0 h).1 0 e] at this
  exact this
/-- a place in a list with one more at its end -/
theorem cs_at {x : Int} {i : Nat} (h : (D ++ [b])[i]? = some x) : (D[i]? = some x) ∨ (i = D.length ∧ x = b) := by
  by_cases c : i < D.length
  · rw [List.getElem?_append_left c] at h; exact Or.inl h
  · rw [List.getElem?_append_right (by omega)] at h
    by_cases e : i - D.length = 0
    · rw [e] at h
      exact Or.inr ⟨by omega, (Option.some.inj h).symm⟩
    · obtain ⟨j, hj⟩ : ∃ j, i - D.length = j + 1 := ⟨i - D.length - 1, by omega⟩
      rw [hj] at h
      cases h
theorem cs_lt {x : Int} {i : Nat} (h : D[i]? = some x) : i < D.length := by
  by_cases c : i < D.length
  · exact c
  · rw [List.getElem?_eq_none (by omega)] at h; cases h
/-- the clause rows with one more -/
theorem cs_rows {F : Int → Int} {q : Int → Int} {v : Int} (h : ∀ (i : Nat) (x : Int), D[i]? = some x → F i = q x) (hv : v = q b) : ∀ (i : Nat) (x : Int), (D ++ [b])[i]? = some x → ds_u1 F (D.length : Int) v i = q x := by
  intro i x hx
  unfold ds_u1
  rcases cs_at hx with c | ⟨c, e⟩
  · have := cs_lt c
    rw [if_neg (by omega)]; exact h i x c
  · rw [if_pos (by omega), hv, e]
/-- a deed is kept -/
theorem cs_dd {x : Int} (hT : 22 < lx_T f n b) (h24 : (D.length : Int) < 24) (hx : x = cs_x f n b) (hb : b ≤ b') (hn : b' ≤ n) (h : cs_K (lx_T f n b) (lx_V f n (ds_ad f n b)) x (cs_W f n g t0 D b) o C) : cs_W f n g t0 (D ++ [b]) b' o C := by
  obtain ⟨B, u, ⟨w1, w2, ⟨⟨w3, w4⟩, w5, w6⟩, w7, w8, w9⟩, e1, u4, h3⟩ := h
  have eu : u = t0 := Option.some.inj (e1.symm.trans w1)
  subst eu
  obtain ⟨k1, k2, k3, k4, k5, k6⟩ := h3 (by omega)
  rw [w3] at k2 k3 k4
  have r1 : C (7 * u + 1) = B (7 * u + 1) := k6 _ (by omega) (by omega) (by omega) (by omega)
  have r2 : C (2 + 7 * u) = B (2 + 7 * u) := k6 _ (by omega) (by omega) (by omega) (by omega)
  have r3 : C (3 + 7 * u) = B (3 + 7 * u) := k6 _ (by omega) (by omega) (by omega) (by omega)
  have rn : C (7 * u) 1 = B (7 * u) 1 := k5 1 (by decide)
  refine ⟨w1, w2, ⟨⟨?_, by rw [rn]; exact w4⟩, ?_, fun l l0 l1 => ⟨fun q => ?_, fun y hy hyT => ?_⟩⟩, by rw [rn]; omega, hn, w9⟩
  · rw [k1, w3, List.length_append, List.length_singleton]; omega
  · intro i y hy
    rw [k2, k3, k4]
    exact ⟨cs_rows (q := cs_w f n) (fun i x hx => (w5 i x hx).1) rfl i y hy, cs_rows (q := cs_v f n) (fun i x hx => (w5 i x hx).2.1) (by unfold cs_v; rw [if_pos hT]) i y hy, cs_rows (q := cs_x f n) (fun i x hx => (w5 i x hx).2.2) hx i y hy⟩
  · rw [r2]
    exact (w6 l l0 l1).1 (fun y hy => q y (List.mem_append_left _ hy))
  · rcases List.mem_append.mp hy with c | c
    · have := (w6 l l0 l1).2 y c hyT
      unfold cs_L at this ⊢
      rw [r1, r2, r3, rn]; exact this
    · rw [List.mem_singleton.mp c] at hyT
      omega
/-- a law is kept -/
theorem cs_lw {b2 : Int} (hT : 20 ≤ lx_T f n b ∧ lx_T f n b ≤ 22) (hl : l = lx_T f n b - 20) (h24 : (D.length : Int) < 24) (hb : b2 ≤ b') (hn : b' ≤ n) (free : ∀ y ∈ D, lx_T f n y ≠ l + 20)
    (h : cs_K (lx_T f n b) 0 0 (cs_E 3 l (cy_A l n (ds_ad f n b) b2 0 g (fun N e => (dv_T f n l N 200).1 0 g e (ds_ad f n b)) (cs_E 2 l (cs_W f n g t0 D b)))) o C) : cs_W f n g t0 (D ++ [b]) b' o C := by
  obtain ⟨B4, u4, ⟨B3, u3, ⟨B2, u2, ⟨B1, u1, ⟨w1, w2, ⟨⟨w3, w4⟩, w5, w6⟩, w7, w8, w9⟩, e1, l1, a1, a2⟩, e2, l2, h2⟩, e3, l3, c1, c2⟩, e4, l4, h4⟩ := h
  have r1 : u1 = t0 := Option.some.inj (e1.symm.trans w1)
  have r2 : u2 = t0 := Option.some.inj (e2.symm.trans w1)
  have r3 : u3 = t0 := Option.some.inj (e3.symm.trans w1)
  have r4 : u4 = t0 := Option.some.inj (e4.symm.trans w1)
  rw [r1] at a1 a2
  rw [r2] at h2
  rw [r3] at c1 c2
  rw [r4] at h4
  obtain ⟨t1, t1n⟩ := cz_ad (f := f) (n := n) (b := b) (by omega)
  have b20 : B2 (7 * t0) = B1 (7 * t0) := a2 _ (by omega)
  have b21 : B2 (7 * t0 + 1) = B1 (7 * t0 + 1) := a2 _ (by omega)
  obtain ⟨⟨y1, y2⟩, ⟨y3, y4⟩, y5, y6, y7, y8⟩ := h2 (by rw [b20]; exact w4) (by rw [b20]; omega) t1n w9
  rw [b20] at y3 y4 y5 y6 y8
  rw [b21] at y5
  have b47 : B4 (7 * t0) = B3 (7 * t0) := c2 _ (by omega)
  have n7 : B4 (7 * t0) 7 = (D.length : Int) := by rw [b47, y6 7 (by decide)]; exact w3
  obtain ⟨k1, k2, k3, k4, k5, k6⟩ := h4 (by omega)
  rw [n7] at k2 k3 k4
  -- rows at the end
  have R1 : C (7 * t0 + 1) = B3 (7 * t0 + 1) := (k6 _ (by omega) (by omega) (by omega) (by omega)).trans (c2 _ (by omega))
  have Rn : C (7 * t0) 1 = B3 (7 * t0) 1 := by rw [k5 1 (by decide), b47]
  have R2 : C (2 + 7 * t0) = ds_u1 (B1 (2 + 7 * t0)) l (B1 (7 * t0) 1) := (k6 _ (by omega) (by omega) (by omega) (by omega)).trans ((c2 _ (by omega)).trans ((y7 _ (by omega) (by omega)).trans a1))
  have R3 : C (3 + 7 * t0) = ds_u1 (B1 (3 + 7 * t0)) l (B3 (7 * t0) 1) := by
    rw [k6 _ (by omega) (by omega) (by omega) (by omega), c1, y7 _ (by omega) (by omega), a2 _ (by omega)]
  have row : ∀ k : Nat, k = 4 ∨ k = 5 ∨ k = 6 → B4 (k + 7 * t0) = B1 (k + 7 * t0) := fun k hk => (c2 _ (by omega)).trans ((y7 _ (by omega) (by omega)).trans (a2 _ (by omega)))
  rw [row 4 (by decide)] at k2
  rw [row 5 (by decide)] at k3
  rw [row 6 (by decide)] at k4
  refine ⟨w1, w2, ⟨⟨?_, by rw [Rn]; omega⟩, ?_, fun l' l0' l1' => ⟨fun q => ?_, fun y hy hyT => ?_⟩⟩, by rw [Rn]; omega, hn, w9⟩
  · rw [k1, n7, List.length_append, List.length_singleton]; omega
  · intro i y hy
    rw [k2, k3, k4]
    exact ⟨cs_rows (q := cs_w f n) (fun i x hx => (w5 i x hx).1) rfl i y hy, cs_rows (q := cs_v f n) (fun i x hx => (w5 i x hx).2.1) (by unfold cs_v; rw [if_neg (by omega)]) i y hy, cs_rows (q := cs_x f n) (fun i x hx => (w5 i x hx).2.2) (by unfold cs_x; rw [if_neg (fun q => by omega)]) i y hy⟩
  · have nl : l' ≠ l := fun e => q b (List.mem_append_right _ (List.mem_singleton.mpr rfl)) (by omega)
    rw [R2]
    exact (if_neg nl).trans ((w6 l' l0' l1').1 (fun y hy => q y (List.mem_append_left _ hy)))
  · rcases List.mem_append.mp hy with c | c
    · have nl : l' ≠ l := fun e => free y c (by omega)
      obtain ⟨⟨q1, q2, q3, q5⟩, q4⟩ := (w6 l' l0' l1').2 y c hyT
      unfold cs_L
      have E2 : C (2 + 7 * t0) l' = B1 (2 + 7 * t0) l' := by rw [R2]; exact if_neg nl
      have E3 : C (3 + 7 * t0) l' = B1 (3 + 7 * t0) l' := by rw [R3]; exact if_neg nl
      rw [E2, E3, Rn, R1]
      exact ⟨⟨q1, q2, by omega, q5⟩, cc_R q4 (fun i i0 i1 => y5 i (by omega))⟩
    · have ey := List.mem_singleton.mp c
      rw [ey] at hyT ⊢
      have el : l' = l := by omega
      rw [el]
      unfold cs_L
      have E2 : C (2 + 7 * t0) l = B1 (7 * t0) 1 := by rw [R2]; exact if_pos rfl
      have E3 : C (3 + 7 * t0) l = B3 (7 * t0) 1 := by rw [R3]; exact if_pos rfl
      rw [E2, E3, Rn, R1]
      exact ⟨⟨w4, by omega, Int.le_refl _, by omega⟩, y8⟩
end D8
