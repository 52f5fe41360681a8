/-! both sides hold the same: the relation of the law's loop -/
section GX
variable {J K M : Nat → Int → Int} {s t u : lf_Z} {f f' g A B sv sw F : Int → Int} {H H' G : List rr_H} {X : mn_X} {I I' C C' : Nat → Int → Int} {P P' : Nat → Option Nat} {o : Option Nat} {a b c d r j n n0 n1 n2 v w x : Int} {T T' : Int → Int} {D : List Int} {l : List Nat} {bb : Bool}
/-- the image's land: that of now, cut -/
def gx_K (I : Nat → Int → Int) : Nat → Int → Int := fun c => if c = 1 then I 78 else I c
theorem gx_K1 : gx_K I 1 = I 78 := if_pos rfl
theorem gx_Kc {c : Nat} (h : c ≠ 1) : gx_K I c = I c := if_neg h
/-- ways lead to stretches, people were told at stretches -/
def gx_V (J : Nat → Int → Int) : Prop := (∀ w : Int, 0 ≤ w → w < J 1 1 → J 4 w < J 1 0 ∧ J 5 w < J 1 0) ∧ ∀ q : Int, 0 ≤ q → q < J 1 2 → 0 ≤ J 10 q ∧ J 10 q < J 1 0
def gx_i (I : Nat → Int → Int) : Prop := gx_V (gx_K I) ∧ ∃ (g : Int → Int) (G : List rr_H), (gp_J (gx_K I) g ∧ mi_H (gx_K I) G) ∧ gc_T (bk_c 64 I) g G ∧ gr_T (I 92) (gx_K I) g G (I 97)
/-- one text -/
def gx_t (C : Nat → Int → Int) (T : Int → Int) (k : Nat) : Prop := ∃ (F : Int → Int) (n : Int) (D : List Int), cs_F F n tx_g0 C k D ∧ C (7 * k) 1 ≤ 300 ∧ rs_X F n T (705 * k) D ∧ ∀ b ∈ D, cs_w F n b = 26 → 0 ≤ cs_v F n b ∧ cs_v F n b ≤ 9
def gx_C (I : Nat → Int → Int) : Nat → Int → Int := fun c => I (35 + c)
def gx_x (I : Nat → Int → Int) (o : Option Nat) : Prop := (0 ≤ I 0 11 ∧ I 0 11 ≤ 4) ∧ (∀ k : Nat, (k : Int) < I 0 11 → gx_t (gx_C I) (I 98) k) ∧ (-1 ≤ I 0 12 ∧ I 0 12 < I 0 11) ∧ o = (if 0 ≤ I 0 12 then some (I 0 12).toNat else none) ∧ (0 ≤ I 78 3 ∧ I 78 3 ≤ I 0 11) ∧ (-1 ≤ I 78 4 ∧ I 78 4 < I 78 3)
/-- sights -/
def gx_s (n0 c : Int) (S M A : Int → Int) : Prop := (c = A 10 ∧ 0 ≤ c ∧ c ≤ 6) ∧ ∀ k : Int, 0 ≤ k → k < c → (S k = A (162 + 2 * k) ∧ M k = A (162 + 2 * k + 1)) ∧ (0 ≤ S k ∧ S k < n0) ∧ 0 ≤ M k ∧ M k ≤ 60
def gx_1 (I : Nat → Int → Int) : Prop := ∃ (f : Int → Int) (H : List rr_H), gf_T I f H ∧ gc_T I f H ∧ gr_T (I 28) I f H (I 96)
def gx_2 (I : Nat → Int → Int) : Prop := (0 ≤ I 78 0 ∧ I 78 0 ≤ I 1 0) ∧ (0 ≤ I 78 1 ∧ I 78 1 ≤ I 1 1) ∧ 0 ≤ I 78 2 ∧ I 78 2 ≤ I 1 2
def gx_7 (I : Nat → Int → Int) : Prop := gx_s (I 1 0) (I 25 2) (I 26) (I 27) (I 96)
def gx_8 (I : Nat → Int → Int) : Prop := gx_s (I 78 0) (I 89 2) (I 90) (I 91) (I 97)
def gx_9 (I : Nat → Int → Int) : Prop := zq_9 I
/-- what no call of land, stand, steps touches -/
def gx_D (I : Nat → Int → Int) (o : Option Nat) : Prop := gx_2 I ∧ gx_i I ∧ gx_x I o ∧ tp_A I ∧ tr_A I ∧ gx_7 I ∧ gx_8 I ∧ gx_9 I
def gx_A (I : Nat → Int → Int) (P : Nat → Option Nat) : Prop := gx_1 I ∧ gx_D I (P 3)
/-! each of these speaks of some cells alone -/
theorem gr_Tc (hW : mn_W J) (hH : mi_H J H) (es : ∀ w : Int, 0 ≤ w → w < 16 → sw w = sv w) (e : ∀ i : Int, 0 ≤ i → i < 1538 → B i = A i) (h : gr_T sv J f H A) : gr_T sw J f H B := by
  obtain ⟨w0, w1, w2, _⟩ := hW
  obtain ⟨⟨l0, l1, l2, l3, l4, l5⟩, ⟨s1, s2, s3, s4, s5, s6⟩, ⟨h1, h2⟩, m1, m2⟩ := h
  have hl := hH.1
  refine ⟨⟨(e 0 (by decide) (by decide)).trans l0, (e 1 (by decide) (by decide)).trans l1, (e 2 (by decide) (by decide)).trans l2, fun q q0 q1 => ?_, fun q q0 q1 => ?_, fun q q0 q1 => ?_⟩, ⟨(e 3 (by decide) (by decide)).trans s1, (e 6 (by decide) (by decide)).trans s2, fun b b0 b1 => ⟨(e _ (by omega) (by omega)).trans (s3 b b0 b1).1, fun q => ⟨(e _ (by omega) (by omega)).trans ((s3 b b0 b1).2 q).1, (e _ (by omega) (by omega)).trans ((s3 b b0 b1).2 q).2⟩⟩, fun p p0 p1 => ⟨(e _ (by omega) (by omega)).trans (s4 p p0 p1).1, (e _ (by omega) (by omega)).trans (s4 p p0 p1).2⟩, fun s s0 s1 => (e _ (by omega) (by omega)).trans (s5 s s0 s1), fun w x0 x1 => (e _ (by omega) (by omega)).trans (s6 w x0 x1)⟩, ⟨(e 9 (by decide) (by decide)).trans h1, rr_hsC H (fun h hh => Int.le_trans (hH.2 h hh).2.1.2 w1.2) (fun i i0 i1 => e i (by omega) (by omega)) h2⟩, fun w x0 x1 => ?_, fun w x0 x1 => ?_⟩
  · exact ⟨(e _ (by omega) (by omega)).trans (l3 q q0 q1).1, (e _ (by omega) (by omega)).trans (l3 q q0 q1).2⟩
  · exact ⟨(e _ (by omega) (by omega)).trans (l4 q q0 q1).1, (e _ (by omega) (by omega)).trans (l4 q q0 q1).2.1, (e _ (by omega) (by omega)).trans (l4 q q0 q1).2.2⟩
  · exact ⟨(e _ (by omega) (by omega)).trans (l5 q q0 q1).1, (e _ (by omega) (by omega)).trans (l5 q q0 q1).2.1, (e _ (by omega) (by omega)).trans (l5 q q0 q1).2.2.1, (e _ (by omega) (by omega)).trans (l5 q q0 q1).2.2.2⟩
  · have m := m1 w x0 x1
    unfold gr_1 at m ⊢
    rw [e (174 + 5 * w) (by omega) (by omega), e (174 + 5 * w + 1) (by omega) (by omega), e (174 + 5 * w + 2) (by omega) (by omega), e (174 + 5 * w + 3) (by omega) (by omega), e (174 + 5 * w + 4) (by omega) (by omega), es w x0 (by omega)]
    exact m
  · exact (es w (by omega) x1).trans (m2 w x0 x1)
/-- the land's first three numbers alone matter to stand and steps -/
theorem gj_P3 (e0 : K 1 0 = J 1 0) (e1 : K 1 1 = J 1 1) (e2 : K 1 2 = J 1 2) (h : gp_J J f) : gp_J K f := by
  obtain ⟨h1, h2, h3⟩ := h
  exact ⟨gp_Iu h1 e0 e2, by rw [e0, e1]; exact h2, h3⟩
theorem gj_H3 (e0 : K 1 0 = J 1 0) (e1 : K 1 1 = J 1 1) (e2 : K 1 2 = J 1 2) (h : mi_H J H) : mi_H K H := mi_Hg h (by omega) (by omega) (by omega)
/-- the reference's half, for a land whose told rows are the same -/
theorem gr_L3 (e : ∀ c : Nat, 2 ≤ c → c ≤ 10 → K c = J c) (e0 : K 1 0 = J 1 0) (e1 : K 1 1 = J 1 1) (e2 : K 1 2 = J 1 2) (h : gr_T sv J f H A) : gr_T sv K f H A := by
  obtain ⟨h1, h2, h3, h4⟩ := h
  refine ⟨?_, by rw [e1, e2]; exact h2, h3, by rw [e1]; exact h4⟩
  unfold rr_L at h1 ⊢
  rw [e0, e1, e2, e 2 (by decide) (by decide), e 3 (by decide) (by decide), e 4 (by decide) (by decide), e 5 (by decide) (by decide), e 6 (by decide) (by decide), e 7 (by decide) (by decide), e 8 (by decide) (by decide), e 9 (by decide) (by decide), e 10 (by decide) (by decide)]
  exact h1
theorem gx_1c (e : ∀ c : Nat, ((1 ≤ c ∧ c < 14) ∨ (15 ≤ c ∧ c < 25) ∨ c = 28 ∨ c = 96) → I' c = I c) (h : gx_1 I) : gx_1 I' := by
  obtain ⟨f, H, h1, h2, h3⟩ := h
  have g : gj_e I I' := fun c c0 c1 => e c (by omega)
  exact ⟨f, H, gf_Te g h1, gc_Te (fun c c0 c1 => e c (by omega)) h2, by rw [e 28 (by omega), e 96 (by omega)]; exact gr_Te g h3⟩
theorem gx_2c (e1 : I' 1 = I 1) (e78 : I' 78 = I 78) (h : gx_2 I) : gx_2 I' := by
  unfold gx_2 at *
  rw [e1, e78]
  exact h
theorem gx_ic (e : ∀ c : Nat, ((2 ≤ c ∧ c < 14) ∨ (78 ≤ c ∧ c < 95) ∨ c = 97) → I' c = I c) (h : gx_i I) : gx_i I' := by
  have e1 : gx_K I' 1 = gx_K I 1 := by rw [gx_K1, gx_K1]; exact e 78 (by omega)
  have g : gj_e (gx_K I) (gx_K I') := fun c c0 c1 => by
    by_cases y : c = 1
    · rw [y]; exact e1
    · rw [gx_Kc y, gx_Kc y]; exact e c (by omega)
  obtain ⟨hv, f, H, ⟨h1, h2⟩, h3, h4⟩ := h
  refine ⟨?_, f, H, ⟨gj_P e1 h1, gj_H e1 h2⟩, gc_Te (fun c c0 c1 => e (c + 64) (by omega)) h3, ?_⟩
  · unfold gx_V at hv ⊢
    rw [e1, g 4 (by decide) (by decide), g 5 (by decide) (by decide), g 10 (by decide) (by decide)]
    exact hv
  · rw [e 92 (by omega), e 97 (by omega)]
    exact gr_Te g h4
theorem cs_FC {k : Nat} (e : ∀ c : Nat, 7 * k ≤ c → c ≤ 7 * k + 6 → C' c = C c) (h : cs_F F n g C k D) : cs_F F n g C' k D := by
  unfold cs_F cs_L at *
  rw [e (7 * k) (by omega) (by omega), e (7 * k + 1) (by omega) (by omega), e (2 + 7 * k) (by omega) (by omega), e (3 + 7 * k) (by omega) (by omega), e (4 + 7 * k) (by omega) (by omega), e (5 + 7 * k) (by omega) (by omega), e (6 + 7 * k) (by omega) (by omega)]
  exact h
theorem ln_ouR {y : Int} : ∀ o : List (Int × Int), (∀ i : Int, y ≤ i → i < y + 2 * o.length → B i = A i) → ln_ou A y o → ln_ou B y o := by
  intro o
  induction o with
  | nil => intro _ _; trivial
  | cons q o ih =>
    intro e h
    rw [List.length_cons] at e
    obtain ⟨h1, h2, h3⟩ := h
    exact ⟨(e _ (by omega) (by omega)).trans h1, (e _ (by omega) (by omega)).trans h2, ih (fun i i0 i1 => e i i0 (by omega)) h3⟩
theorem rs_XC {k : Nat} (e : ∀ i : Int, 705 * (k : Int) ≤ i → i < 705 * (k : Int) + 705 → T' i = T i) (h : rs_X F n T (705 * (k : Int)) D) : rs_X F n T' (705 * (k : Int)) D := by
  obtain ⟨o, h1, h2, h3, h4⟩ := h
  refine ⟨o, ln_ouR o (fun i i0 i1 => e i (by omega) (by omega)) h1, ⟨(e _ (by omega) (by omega)).trans h2.1, fun i b hb => ?_⟩, h3, h4⟩
  have hi := cs_lt hb
  obtain ⟨g1, g2, g3⟩ := h2.2 i b hb
  refine ⟨(e _ (by omega) (by omega)).trans g1, fun y => ⟨(e _ (by omega) (by omega)).trans (g2 y).1, fun y2 => (e _ (by omega) (by omega)).trans ((g2 y).2 y2)⟩, fun y => ?_⟩
  obtain ⟨m, o2, q1, q2, q3, q4⟩ := g3 y
  exact ⟨m, o2, (e _ (by omega) (by omega)).trans q1, (e _ (by omega) (by omega)).trans q2, q3, q4⟩
theorem gx_tc {k : Nat} (e : ∀ c : Nat, 7 * k ≤ c → c ≤ 7 * k + 6 → C' c = C c) (eT : ∀ i : Int, 705 * (k : Int) ≤ i → i < 705 * (k : Int) + 705 → T' i = T i) (h : gx_t C T k) : gx_t C' T' k := by
  obtain ⟨F, n, D, h1, h2, h3, h4⟩ := h
  exact ⟨F, n, D, cs_FC e h1, by rw [e (7 * k) (by omega) (by omega)]; exact h2, rs_XC eT h3, h4⟩
theorem gx_xc (e : ∀ c : Nat, (c = 0 ∨ (35 ≤ c ∧ c < 63) ∨ c = 78 ∨ c = 98) → I' c = I c) (h : gx_x I o) : gx_x I' o := by
  obtain ⟨h1, h2, h3⟩ := h
  unfold gx_x
  rw [e 0 (by omega), e 78 (by omega), e 98 (by omega)]
  refine ⟨h1, fun k hk => gx_tc (fun c c0 c1 => e (35 + c) (by omega)) (fun _ _ _ => rfl) (h2 k hk), h3⟩
theorem tp_Ac (e : ∀ c : Nat, (c = 0 ∨ c = 31 ∨ c = 32 ∨ c = 78 ∨ c = 97 ∨ c = 99) → I' c = I c) (e95 : ∀ i : Int, 4 ≤ i → i ≤ 6 → I' 95 i = I 95 i) (e7 : I' 96 7 = I 96 7) (e8 : I' 96 8 = I 96 8) (h : tp_A I) : tp_A I' := by
  unfold tp_A
  rw [e 0 (by omega), e 31 (by omega), e 32 (by omega), e 78 (by omega), e 97 (by omega), e 99 (by omega), e95 4 (by decide) (by decide), e95 5 (by decide) (by decide), e95 6 (by decide) (by decide), e7, e8]
  exact h
theorem tr_Ac (e : ∀ c : Nat, (c = 29 ∨ c = 30 ∨ c = 93 ∨ c = 94 ∨ c = 97) → I' c = I c) (e0 : ∀ i : Int, fr_g 0 i → I' 96 i = I 96 i) (h : tr_A I) : tr_A I' := by
  refine ⟨?_, ?_⟩
  · rw [e 29 (by omega), e 30 (by omega)]
    exact tr_Tc h.1 (fun j _ _ => ⟨rfl, rfl⟩) e0
  · rw [e 93 (by omega), e 94 (by omega), e 97 (by omega)]
    exact h.2
theorem gx_sc (e0 : n0 ≤ n1) (e : ∀ i : Int, fr_g 1 i → B i = A i) {S M : Int → Int} (h : gx_s n0 c S M A) : gx_s n1 c S M B := by
  obtain ⟨⟨h1, h2, h3⟩, h4⟩ := h
  refine ⟨⟨h1.trans (e 10 (Or.inl rfl)).symm, h2, h3⟩, fun k k0 k1 => ?_⟩
  obtain ⟨⟨g1, g2⟩, ⟨g3, g4⟩, g5⟩ := h4 k k0 k1
  exact ⟨⟨g1.trans (e _ (Or.inr ⟨by omega, by omega⟩)).symm, g2.trans (e _ (Or.inr ⟨by omega, by omega⟩)).symm⟩, ⟨g3, by omega⟩, g5⟩
theorem gx_7c (e : ∀ c : Nat, (c = 25 ∨ c = 26 ∨ c = 27) → I' c = I c) (e0 : I 1 0 ≤ I' 1 0) (e1 : ∀ i : Int, fr_g 1 i → I' 96 i = I 96 i) (h : gx_7 I) : gx_7 I' := by
  unfold gx_7 at *
  rw [e 25 (by omega), e 26 (by omega), e 27 (by omega)]
  exact gx_sc e0 e1 h
theorem gx_8c (e : ∀ c : Nat, (c = 78 ∨ (89 ≤ c ∧ c ≤ 91) ∨ c = 97) → I' c = I c) (h : gx_8 I) : gx_8 I' := by
  unfold gx_8 at *
  rw [e 78 (by omega), e 89 (by omega), e 90 (by omega), e 91 (by omega), e 97 (by omega)]
  exact h
theorem gx_9c (e : I' 95 = I 95) (h : gx_9 I) : gx_9 I' := by
  unfold gx_9 zq_9 at *
  rw [e]
  exact h
/-! calls that are asked alone -/
def gx_fr (c : Nat) : Bool := c == 14 || (Nat.ble 63 c && Nat.blt c 78) || (Nat.ble 100 c && Nat.blt c 1000)
theorem gx_nf {c : Nat} (hl : l.all gx_fr = true) (hc : gx_fr c = false) : l.contains c = false := by
  cases q : l.contains c with
  | false => rfl
  | true =>
    have m : c ∈ l := by simpa using q
    have := (List.all_eq_true.mp hl) c m
    rw [hc] at this
    exact absurd this (by decide)
theorem gx_f0 {c : Nat} (h : c ≠ 14 ∧ (c < 63 ∨ 78 ≤ c) ∧ (c < 100 ∨ 1000 ≤ c)) : gx_fr c = false := by
  unfold gx_fr
  have h1 : (c == 14) = false := beq_eq_false_iff_ne.mpr h.1
  rw [h1]
  have h2 : (Nat.ble 63 c && Nat.blt c 78) = false := by
    cases y : Nat.ble 63 c with
    | false => rfl
    | true =>
      have y1 := Nat.le_of_ble_eq_true y
      cases z : Nat.blt c 78 with
      | false => rfl
      | true =>
        have z1 : c + 1 ≤ 78 := Nat.le_of_ble_eq_true z
        omega
  have h3 : (Nat.ble 100 c && Nat.blt c 1000) = false := by
    cases y : Nat.ble 100 c with
    | false => rfl
    | true =>
      have y1 := Nat.le_of_ble_eq_true y
      cases z : Nat.blt c 1000 with
      | false => rfl
      | true =>
        have z1 : c + 1 ≤ 1000 := Nat.le_of_ble_eq_true z
        omega
  rw [h2, h3]
  rfl
theorem gx_q (e : ∀ c : Nat, gx_fr c = false → c ≠ 95 → I' c = I c) (e95 : ∀ i : Int, 4 ≤ i → i ≤ 6 → I' 95 i = I 95 i) (e9 : gx_9 I') (h : gx_A I P) (hP : P' 3 = P 3) : gx_A I' P' := by
  have g : ∀ c : Nat, c ≠ 14 ∧ c ≠ 95 ∧ (c < 63 ∨ 78 ≤ c) ∧ c < 100 → I' c = I c := fun c hc => e c (gx_f0 ⟨hc.1, hc.2.2.1, Or.inl hc.2.2.2⟩) hc.2.1
  obtain ⟨h1, h2, h3, h4, h5, h6, h7, h8, h9⟩ := h
  exact ⟨gx_1c (fun c hc => g c (by omega)) h1, gx_2c (g 1 (by omega)) (g 78 (by omega)) h2, gx_ic (fun c hc => g c (by omega)) h3, by rw [hP]; exact gx_xc (fun c hc => g c (by omega)) h4, tp_Ac (fun c hc => g c (by omega)) e95 (by rw [g 96 (by omega)]) (by rw [g 96 (by omega)]) h5, tr_Ac (fun c hc => g c (by omega)) (fun i _ => by rw [g 96 (by omega)]) h6, gx_7c (fun c hc => g c (by omega)) (by rw [g 1 (by omega)]; exact Int.le_refl _) (fun i _ => by rw [g 96 (by omega)]) h7, gx_8c (fun c hc => g c (by omega)) h8, e9⟩
theorem gx_fq (h : gx_A I P) (q : lf_fq l w true I P I' P') (hl : l.all gx_fr = true) : gx_A I' P' := gx_q (fun c hc _ => q.1 c (gx_nf hl hc)) (fun i _ _ => by rw [q.1 95 (gx_nf hl rfl)]) (gx_9c (q.1 95 (gx_nf hl rfl)) h.2.2.2.2.2.2.2.2) h (by rw [q.2.2.1 rfl])
/-- stopped and home of the reference -/
theorem gx_sq (h : gx_A I P) (q : lf_fq [95, 104, 107, 111, 112] w true I P I' P') (m : (∀ i : Int, 4 ≤ i → i ≤ 6 → I' 95 i = I 95 i) ∧ zq_9 I') : gx_A I' P' := by
  refine gx_q (fun c hc c5 => q.1 c ?_) m.1 m.2 h (by rw [q.2.2.1 rfl])
  cases y : ([95, 104, 107, 111, 112] : List Nat).contains c with
  | false => rfl
  | true =>
    have m : c ∈ ([95, 104, 107, 111, 112] : List Nat) := by simpa using y
    rcases List.mem_cons.mp m with e | m
    · exact absurd e c5
    · have : ∀ x ∈ ([104, 107, 111, 112] : List Nat), gx_fr x = true := by decide
      rw [this c m] at hc
      exact Bool.noConfusion hc
/-! the law that rules -/
theorem gx_X (hx : gx_x s.1 (s.2.2 3)) (h8 : s.1 0 12 = s.1 96 8) (h9 : gx_9 s.1) : ∃ X : mn_X, gx_XB X ∧ gx_Xc X s.1 s ∧ gx_Xr X (s.1 98) s := by
  obtain ⟨h1, h2, h3, h4, _⟩ := hx
  have hr : rm_0 (s.1 98) s := ⟨rfl, h9.1, h9.2.1, h9.2.2.1, h9.2.2.2⟩
  by_cases y : 0 ≤ s.1 0 12
  · obtain ⟨F, n, D, t1, t2, t3, _⟩ := h2 (s.1 0 12).toNat (by omega)
    rw [if_pos y] at h4
    have e : ((s.1 0 12).toNat : Int) = s.1 96 8 := by omega
    rw [e] at t3
    exact ⟨lw_X F n D, lw_XB, ⟨xc_of (k := (s.1 0 12).toNat) (by omega) h4 t2 t1, fun _ _ _ => rfl⟩, xr_of (by omega) t3, hr⟩
  · rw [if_neg y] at h4
    exact ⟨lw_X0, lw_XB0, ⟨xc_of0 h4, fun _ _ _ => rfl⟩, xr_of0 (by omega), hr⟩
end GX
