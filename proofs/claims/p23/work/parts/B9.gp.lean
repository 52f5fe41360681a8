/-! sights, mending, tries, image, a text played: within the law -/
section GP
variable {J K M : Nat → Int → Int} {s t u : lf_Z} {f f' g A B sv sw F S S' : Int → Int} {H H' G : List rr_H} {X : mn_X} {I I' C C' : Nat → Int → Int} {P P' : Nat → Option Nat} {o : Option Nat} {a b c d e r j n w x : Int} {T T' : Int → Int} {D : List Int} {L : List (Int × Int × Int)} {l : List Nat} {bb : Bool} {p : Int → Prop} {z : Bool}
/-! seen -/
def sn_ok (n0 a b : Int) : Prop := (0 ≤ a ∧ a < n0) ∧ 0 ≤ b ∧ b ≤ 60
def sn_T (n0 a b c : Int) (S M : Int → Int) (c' : Int) (S' M' : Int → Int) (r : Int) : Prop := (a = -1 ∧ r = 0 ∧ c' = 0) ∨ (a ≠ -1 ∧ sn_ok n0 a b ∧ c < 6 ∧ c' = c + 1 ∧ S' = ds_u1 S c a ∧ M' = ds_u1 M c b ∧ r = c + 1) ∨ (a ≠ -1 ∧ (¬ sn_ok n0 a b ∨ ¬ c < 6) ∧ c' = c ∧ S' = S ∧ M' = M ∧ r = -2)
def sn_R (n0 a b : Int) (A B : Int → Int) (r : Int) : Prop := (a = -1 ∧ r = 0 ∧ B 10 = 0) ∨ (a ≠ -1 ∧ sn_ok n0 a b ∧ A 10 ≠ 6 ∧ B 10 = A 10 + 1 ∧ B (162 + 2 * A 10) = a ∧ B (162 + 2 * A 10 + 1) = b ∧ (∀ i : Int, i ≠ 10 → i ≠ 162 + 2 * A 10 → i ≠ 162 + 2 * A 10 + 1 → B i = A i) ∧ r = A 10 + 1) ∨ (a ≠ -1 ∧ (¬ sn_ok n0 a b ∨ A 10 = 6) ∧ B = A ∧ r = -2)
theorem sn_C {n0 c' : Int} {S M S' M' : Int → Int} {r' : Int} (h : gx_s n0 c S M A) (k : sn_T n0 a b c S M c' S' M' r) (m : sn_R n0 a b A B r') : r = r' ∧ gx_s n0 c' S' M' B := by
  obtain ⟨⟨h1, h2, h3⟩, h4⟩ := h
  rcases k with ⟨k0, k1, k2⟩ | ⟨k0, k1, k2, k3, k4, k5, k6⟩ | ⟨k0, k1, k2, k3, k4, k5⟩
  · rcases m with ⟨_, m1, m2⟩ | ⟨m0, _⟩ | ⟨m0, _⟩
    · exact ⟨by omega, ⟨by omega, by omega, by omega⟩, fun q q0 q1 => by omega⟩
    · exact absurd k0 m0
    · exact absurd k0 m0
  · rcases m with ⟨m0, _⟩ | ⟨_, m1, m2, m3, m4, m5, m6, m7⟩ | ⟨_, m1, _⟩
    · exact absurd m0 k0
    · refine ⟨by omega, ⟨by omega, by omega, by omega⟩, fun q q0 q1 => ?_⟩
      rw [k4, k5]
      unfold ds_u1
      by_cases y : q = c
      · rw [if_pos y, if_pos y, y, h1]
        exact ⟨⟨m4.symm, m5.symm⟩, k1.1, k1.2⟩
      · rw [if_neg y, if_neg y, m6 _ (by omega) (by omega) (by omega), m6 _ (by omega) (by omega) (by omega)]
        exact h4 q q0 (by omega)
    · rcases m1 with m1 | m1
      · exact absurd k1 m1
      · omega
  · rcases m with ⟨m0, _⟩ | ⟨_, m1, m2, _⟩ | ⟨_, m1, m2, m3⟩
    · exact absurd m0 k0
    · rcases k1 with k1 | k1
      · exact absurd m1 k1
      · omega
    · rw [k2, k3, k4, m2]
      exact ⟨by omega, ⟨h1, h2, h3⟩, h4⟩
def gx_S145 (a1 a2 : Int) (r : Int) (I : Nat → Int → Int) (P : Nat → Option Nat) : Prop := (gx_1 I ∧ gx_2 I ∧ gx_i I ∧ gx_x I (P 3) ∧ tp_A I ∧ tr_A I ∧ gx_8 I ∧ gx_9 I) ∧ ∃ (c : Int) (S M : Int → Int), gx_s (I 1 0) c S M (I 96) ∧ sn_T (I 1 0) a1 a2 c S M (I 25 2) (I 26) (I 27) r
def gx_R145 (a1 a2 : Int) (p : Int → Prop) (I : Nat → Int → Int) (P : Nat → Option Nat) : Prop := gx_MP (gx_S145 a1 a2) p I P
theorem gx_145 {a1 a2 : Int} {Q : Int → lf_Z → Prop} (hI : iv_A s.1 s.2.2) (ba1 : (-2147483648) ≤ a1 ∧ a1 ≤ 2147483647) (ba2 : (-2147483648) ≤ a2 ∧ a2 ≤ 2147483647) (hA : gx_A s.1 s.2.2) (hQ : ∀ (r : Int) (s' : lf_Z), iv_A s'.1 s'.2.2 → lf_fq [25, 26, 27] 1000000 true s.1 s.2.2 s'.1 s'.2.2 → gx_S145 a1 a2 r s'.1 s'.2.2 → ((-2) ≤ r ∧ r ≤ 6) → Q r s') : fm_145 a1 a2 Q s := by
  obtain ⟨h1, h2, h3, h4, h5, h6, h7, h8, h9⟩ := hA
  refine cj_145 (Q1 := fun r s' => iv_A s'.1 s'.2.2 ∧ lf_fq [25, 26, 27] 1000000 true s.1 s.2.2 s'.1 s'.2.2 ∧ ((-2) ≤ r ∧ r ≤ 6)) (Q2 := fun r t => sn_T (s.1 1 0) a1 a2 (s.1 25 2) (s.1 26) (s.1 27) (t.1 25 2) (t.1 26) (t.1 27) r) (fun r s' k1 k2 => hQ r s' k1.1 k1.2.1 ⟨?_, s.1 25 2, s.1 26, s.1 27, ?_, ?_⟩ k1.2.2) (sm_145 hI ba1 ba2 (fun r s' h1 h2 h3 => ⟨h1, h2, h3⟩)) ?_
  · have q : ∀ c : Nat, (c < 25 ∨ (27 < c ∧ c < 1000)) → s'.1 c = s.1 c := fun c y => k1.2.1.1 c (gx_nc (by simp; omega))
    rw [k1.2.1.2.2.1 rfl]
    exact ⟨gx_1c (fun c y => q c (by omega)) h1, gx_2c (q 1 (by omega)) (q 78 (by omega)) h2, gx_ic (fun c y => q c (by omega)) h3, gx_xc (fun c y => q c (by omega)) h4, tp_Ac (fun c y => q c (by omega)) (fun i _ _ => by rw [q 95 (by omega)]) (by rw [q 96 (by omega)]) (by rw [q 96 (by omega)]) h5, tr_Ac (fun c y => q c (by omega)) (fun i _ => by rw [q 96 (by omega)]) h6, gx_8c (fun c y => q c (by omega)) h8, gx_9c (q 95 (by omega)) h9⟩
  · rw [k1.2.1.1 1 rfl, k1.2.1.1 96 rfl]; exact h7
  · rw [k1.2.1.1 1 rfl]; exact k2
  · unfold fw_145
    intro _
    refine ⟨fun ne => fl_18 ⟨fun q => Or.inr (Or.inr ⟨ne, Or.inl (fun y => bd_f q y.1), rfl, rfl, rfl, rfl⟩), fun q => fl_15 ⟨fun q2 => ?_, fun q2 => Or.inr (Or.inr ⟨ne, Or.inl (fun y => bd_f q2 y.2), rfl, rfl, rfl, rfl⟩)⟩⟩, fun ne => Or.inl ⟨Classical.not_not.mp ne, rfl, zu_s⟩⟩
    unfold fw_146
    intro _
    refine ⟨fun q3 _ => Or.inr (Or.inl ⟨ne, ⟨bd_t q, bd_t q2⟩, q3, zu_s, ?_, ?_, rfl⟩), fun q3 => Or.inr (Or.inr ⟨ne, Or.inr q3, rfl, rfl, rfl, rfl⟩)⟩
    · exact (zu_r (by decide)).trans ((lf_up_row (by decide)).trans tp_row)
    · exact (zu_r (by decide)).trans (tp_row.trans (by rw [lf_up_row (by decide)]))
theorem gx_305 {a1 a2 : Int} {Q : Int → lf_Z → Prop} (hI : iv_A s.1 s.2.2) (ba1 : (-2147483648) ≤ a1 ∧ a1 ≤ 2147483647) (ba2 : (-2147483648) ≤ a2 ∧ a2 ≤ 2147483647) (hM : gx_R145 a1 a2 p s.1 s.2.2) (hQ : ∀ (r : Int) (s' : lf_Z), iv_A s'.1 s'.2.2 → lf_fq [96, 1001] 10 true s.1 s.2.2 s'.1 s'.2.2 → (gx_p p r ∧ gx_A s'.1 s'.2.2) → ((-2) ≤ r ∧ r ≤ 6) → Q r s') : fm_305 a1 a2 Q s := by
  obtain ⟨r0, hp, ⟨h1, h2, h3, h4, h5, h6, h8, h9⟩, c, S, M, hs, hT⟩ := hM
  have e0 : s.1 96 0 = s.1 1 0 := by obtain ⟨f, H, _, _, hR⟩ := h1; exact hR.1.1
  refine cj_305 (Q1 := fun r s' => iv_A s'.1 s'.2.2 ∧ lf_fq [96, 1001] 10 true s.1 s.2.2 s'.1 s'.2.2 ∧ ((-2) ≤ r ∧ r ≤ 6)) (Q2 := fun r t => sn_R (s.1 1 0) a1 a2 (s.1 96) (t.1 96) r) (fun r s' k1 k2 => hQ r s' k1.1 k1.2.1 ⟨(sn_C hs hT k2).1 ▸ hp, ?_⟩ k1.2.2) (sm_305 hI ba1 ba2 (fun r s' h1 h2 h3 => ⟨h1, h2, h3⟩)) ?_
  · have q : ∀ c : Nat, (c < 96 ∨ (96 < c ∧ c < 1000)) → s'.1 c = s.1 c := fun c y => k1.2.1.1 c (gx_nc (by simp; omega))
    have fr : ∀ k : Nat, (k ≠ 1 ∧ k < 7) → ∀ i, fr_g k i → s'.1 96 i = s.1 96 i := fun k hk => k1.2.1.2.2.2 k (gx_nc (by simp; omega))
    refine ⟨gx_1f (fun c y => q c (by omega)) (fr 2 (by decide)) (fr 4 (by decide)) (fr 5 (by decide)) (fr 6 (by decide)) h1, gx_2c (q 1 (by omega)) (q 78 (by omega)) h2, gx_ic (fun c y => q c (by omega)) h3, by rw [k1.2.1.2.2.1 rfl]; exact gx_xc (fun c y => q c (by omega)) h4, tp_Ac (fun c y => q c (by omega)) (fun i _ _ => by rw [q 95 (by omega)]) (fr 3 (by decide) 7 (Or.inl rfl)) (fr 3 (by decide) 8 (Or.inr rfl)) h5, tr_Ac (fun c y => q c (by omega)) (fr 0 (by decide)) h6, ?_, gx_8c (fun c y => q c (by omega)) h8, gx_9c (q 95 (by omega)) h9⟩
    unfold gx_7
    rw [q 1 (by omega), q 25 (by omega), q 26 (by omega), q 27 (by omega)]
    exact (sn_C hs hT k2).2
  · unfold fw_305 fw_185
    intro _
    refine ⟨fun ne => fl_183 ⟨fun q => Or.inr (Or.inr ⟨ne, Or.inl (fun y => bd_f q ⟨y.1.1, by have := y.1.2; omega⟩), rfl, rfl⟩), fun q => fl_183 ⟨fun q2 => Or.inr (Or.inr ⟨ne, Or.inl (fun y => bd_f q2 y.2), rfl, rfl⟩), fun q2 => ?_⟩⟩, fun ne => Or.inl ⟨Classical.not_not.mp ne, rfl, zu_s⟩⟩
    have q := bd_t q
    have q2 := bd_t q2
    intro _
    refine ⟨fun q3 _ => ?_, fun q3 => Or.inr (Or.inr ⟨ne, Or.inr (Classical.not_not.mp q3), rfl, rfl⟩)⟩
    have g := hs.1
    have e1 : (lf_up s.1 96 (162 + 2 * s.1 96 10) a1) 96 10 = s.1 96 10 := lf_up_i (by omega)
    have e2 : (lf_up (lf_up s.1 96 (162 + 2 * s.1 96 10) a1) 96 (162 + 2 * s.1 96 10 + 1) a2) 96 10 = s.1 96 10 := (lf_up_i (by omega)).trans e1
    rw [e1, e2]
    intro _
    exact Or.inr (Or.inl ⟨ne, ⟨⟨q.1, by omega⟩, q2⟩, q3, zu_s, (zu_i (by omega)).trans ((lf_up_i (by omega)).trans lf_up_s), (zu_i (by omega)).trans lf_up_s, fun i i0 i1 i2 => (zu_i i0).trans ((lf_up_i i2).trans (lf_up_i i1)), rfl⟩)
/-! mending -/
def mg_ok (J : Nat → Int → Int) (a o q h n : Int) : Prop := ((0 ≤ a ∧ a < J 1 1) ∧ J 6 a = 0) ∧ (0 ≤ o ∧ o ≤ 10) ∧ (0 ≤ q ∧ q ≤ 999) ∧ (0 ≤ h ∧ h ≤ 999) ∧ 1 ≤ n ∧ n ≤ 99
def mg_v (o q h n : Int) : Int := (h * o * n).tdiv 10 - q
theorem mg_w {q h : Int} {ok : Int} (h1 : 0 ≤ ok ∧ ok ≤ 10) (h2 : 0 ≤ q ∧ q ≤ 999) (h3 : 0 ≤ h ∧ h ≤ 999) (h4 : 1 ≤ n ∧ n ≤ 99) : lf_w ((lf_w ((lf_w (h * ok)) * n)).tdiv 10 - q) = mg_v ok q h n := by
  have b1 : h * ok ≤ 999 * 10 := Int.mul_le_mul h3.2 h1.2 h1.1 (by decide)
  have b2 : 0 ≤ h * ok := Int.mul_nonneg h3.1 h1.1
  rw [gx_w (e := h * ok) (by omega)]
  have b3 : h * ok * n ≤ 9990 * 99 := Int.mul_le_mul (by omega) h4.2 (by omega) (by decide)
  have b4 : 0 ≤ h * ok * n := Int.mul_nonneg b2 (by omega)
  rw [gx_w (e := h * ok * n) (by omega)]
  unfold mg_v
  have b5 : (h * ok * n).tdiv 10 = h * ok * n / 10 := Int.tdiv_eq_ediv_of_nonneg b4
  rw [b5]
  exact gx_w (by omega)
def gx_S163 (a1 a2 a3 a4 a5 : Int) (r : Int) (I : Nat → Int → Int) (P : Nat → Option Nat) : Prop := gx_D I (P 3) ∧ ∃ (f : Int → Int) (H : List rr_H) (sv : Int → Int), gf_T I f H ∧ gc_T I f H ∧ gr_T sv I f H (I 96) ∧ ((mg_ok I a1 a2 a3 a4 a5 ∧ I 28 = ds_u1 sv a1 (mg_v a2 a3 a4 a5) ∧ r = 1) ∨ (¬ mg_ok I a1 a2 a3 a4 a5 ∧ I 28 = sv ∧ r = 0))
def gx_R163 (a1 a2 a3 a4 a5 : Int) (p : Int → Prop) (I : Nat → Int → Int) (P : Nat → Option Nat) : Prop := gx_MP (gx_S163 a1 a2 a3 a4 a5) p I P
theorem mg_no {a2 a3 a4 a5 : Int} {Q : Bool → lf_Z → Prop} (h : Q false s) : fw_163_p71 Q a a2 a3 a4 a5 s := by
  unfold fw_163_p71 fw_163_p72
  intro _
  exact ⟨fun _ _ => ⟨fun _ => h, fun c => absurd c (by decide)⟩, fun c => absurd rfl c⟩
theorem mg_n2 {a2 a3 a4 a5 : Int} {Q : Bool → lf_Z → Prop} (h : Q false s) : fw_163_p36 Q a a2 a3 a4 a5 s := by
  unfold fw_163_p36 fw_163_p37
  intro _
  exact ⟨fun _ => mg_no h, fun c => absurd rfl c⟩
theorem gx_163 {a1 a2 a3 a4 a5 : Int} {Q : Bool → lf_Z → Prop} (hI : iv_A s.1 s.2.2) (ba1 : (-2147483648) ≤ a1 ∧ a1 ≤ 2147483647) (ba2 : (-2147483648) ≤ a2 ∧ a2 ≤ 2147483647) (ba3 : (-2147483648) ≤ a3 ∧ a3 ≤ 2147483647) (ba4 : (-2147483648) ≤ a4 ∧ a4 ≤ 2147483647) (ba5 : (-2147483648) ≤ a5 ∧ a5 ≤ 2147483647) (hA : gx_A s.1 s.2.2) (hQ : ∀ (z : Bool) (s' : lf_Z), iv_A s'.1 s'.2.2 → lf_fq [28] 1000000 true s.1 s.2.2 s'.1 s'.2.2 → gx_S163 a1 a2 a3 a4 a5 (lf_b z) s'.1 s'.2.2 → Q z s') : fm_163 a1 a2 a3 a4 a5 Q s := by
  obtain ⟨⟨f, H, hF, hC, hR⟩, h2, h3, h4, h5, h6, h7, h8, h9⟩ := hA
  refine cj_163 (Q1 := fun z s' => iv_A s'.1 s'.2.2 ∧ lf_fq [28] 1000000 true s.1 s.2.2 s'.1 s'.2.2) (Q2 := fun z t => (mg_ok s.1 a1 a2 a3 a4 a5 ∧ t.1 28 = ds_u1 (s.1 28) a1 (mg_v a2 a3 a4 a5) ∧ z = true) ∨ (¬ mg_ok s.1 a1 a2 a3 a4 a5 ∧ t.1 28 = s.1 28 ∧ z = false)) (fun z s' k1 k2 => hQ z s' k1.1 k1.2 ⟨?_, f, H, s.1 28, ?_, ?_, ?_, ?_⟩) (sm_163 hI ba1 ba2 ba3 ba4 ba5 (fun z s' h1 h2 => ⟨h1, h2⟩)) ?_
  · have q : ∀ c : Nat, (c < 28 ∨ (28 < c ∧ c < 1000)) → s'.1 c = s.1 c := fun c y => k1.2.1 c (gx_nc (by simp; omega))
    rw [k1.2.2.2.1 rfl]
    exact ⟨gx_2c (q 1 (by omega)) (q 78 (by omega)) h2, gx_ic (fun c y => q c (by omega)) h3, gx_xc (fun c y => q c (by omega)) h4, tp_Ac (fun c y => q c (by omega)) (fun i _ _ => by rw [q 95 (by omega)]) (by rw [q 96 (by omega)]) (by rw [q 96 (by omega)]) h5, tr_Ac (fun c y => q c (by omega)) (fun i _ => by rw [q 96 (by omega)]) h6, gx_7c (fun c y => q c (by omega)) (by rw [q 1 (by omega)]; exact Int.le_refl _) (fun i _ => by rw [q 96 (by omega)]) h7, gx_8c (fun c y => q c (by omega)) h8, gx_9c (q 95 (by omega)) h9⟩
  · exact gf_Te (fun c c0 c1 => k1.2.1 c (gx_nc (by simp; omega))) hF
  · exact gc_Te (fun c c0 c1 => k1.2.1 c (gx_nc (by simp; omega))) hC
  · rw [k1.2.1 96 rfl]; exact gr_Te (fun c c0 c1 => k1.2.1 c (gx_nc (by simp; omega))) hR
  · unfold mg_ok at k2 ⊢
    rw [k1.2.1 1 rfl, k1.2.1 6 rfl]
    rcases k2 with ⟨y1, y2, y3⟩ | ⟨y1, y2, y3⟩
    · exact Or.inl ⟨y1, y2, by rw [y3]; rfl⟩
    · exact Or.inr ⟨y1, y2, by rw [y3]; rfl⟩
  · unfold fw_163
    refine fl_89 ⟨fun q => mg_n2 (Or.inr ⟨fun y => ?_, rfl, rfl⟩), fun q => fl_15 ⟨fun q2 => mg_n2 (Or.inr ⟨fun y => bd_f q2 y.2.1, rfl, rfl⟩), fun q2 => fl_15 ⟨fun q3 => mg_n2 (Or.inr ⟨fun y => bd_f q3 y.2.2.1, rfl, rfl⟩), fun q3 => ?_⟩⟩⟩
    · rw [decide_eq_true y.1.1.1, decide_eq_true y.1.1.2, decide_eq_true y.1.2] at q
      cases q
    · unfold fw_163_p37
      intro _
      refine ⟨fun c => absurd c (by decide), fun _ => fl_15 ⟨fun q4 => mg_no (Or.inr ⟨fun y => bd_f q4 y.2.2.2.1, rfl, rfl⟩), fun q4 => fl_15 ⟨fun q5 => mg_no (Or.inr ⟨fun y => bd_f q5 y.2.2.2.2, rfl, rfl⟩), fun q5 => ?_⟩⟩⟩
      have q1 : (0 ≤ a1 ∧ a1 < s.1 1 1) ∧ s.1 6 a1 = 0 := by
        rw [Bool.and_eq_true, decide_eq_true_eq] at q
        exact ⟨bd_t q.1, q.2⟩
      unfold fw_163_p72
      intro _
      refine ⟨fun c => absurd c (by decide), fun _ _ _ => ⟨fun c => absurd c (by decide), fun _ => Or.inl ⟨⟨q1, bd_t q2, bd_t q3, bd_t q4, bd_t q5⟩, ?_, rfl⟩⟩⟩
      rw [mg_w (bd_t q2) (bd_t q3) (bd_t q4) (bd_t q5)]
      show lf_up s.1 28 a1 (mg_v a2 a3 a4 a5) 28 = _
      exact tp_row
theorem gx_318 {a1 a2 a3 a4 a5 : Int} {Q : Bool → lf_Z → Prop} (hI : iv_A s.1 s.2.2) (ba1 : (-2147483648) ≤ a1 ∧ a1 ≤ 2147483647) (ba2 : (-2147483648) ≤ a2 ∧ a2 ≤ 2147483647) (ba3 : (-2147483648) ≤ a3 ∧ a3 ≤ 2147483647) (ba4 : (-2147483648) ≤ a4 ∧ a4 ≤ 2147483647) (ba5 : (-2147483648) ≤ a5 ∧ a5 ≤ 2147483647) (hM : gx_R163 a1 a2 a3 a4 a5 p s.1 s.2.2) (hQ : ∀ (z : Bool) (s' : lf_Z), iv_A s'.1 s'.2.2 → lf_fq [96, 1002] 174 true s.1 s.2.2 s'.1 s'.2.2 → (gx_p p (lf_b z) ∧ gx_A s'.1 s'.2.2) → Q z s') : fm_318 a1 a2 a3 a4 a5 Q s := by
  obtain ⟨r0, hp, ⟨h2, h3, h4, h5, h6, h7, h8, h9⟩, f, H, sv, hF, hC, hR, hT⟩ := hM
  have e1 : s.1 96 1 = s.1 1 1 := hR.1.2.1
  have w1 := hF.1.1.2.1
  refine cj_318 (Q1 := fun z s' => iv_A s'.1 s'.2.2 ∧ lf_fq [96, 1002] 174 true s.1 s.2.2 s'.1 s'.2.2) (Q2 := fun z t => (mg_ok s.1 a1 a2 a3 a4 a5 ∧ z = true ∧ (t.1 96 (174 + 5 * a1) = 1 ∧ t.1 96 (174 + 5 * a1 + 1) = a2 ∧ t.1 96 (174 + 5 * a1 + 2) = a3 ∧ t.1 96 (174 + 5 * a1 + 3) = a4 ∧ t.1 96 (174 + 5 * a1 + 4) = a5) ∧ ∀ i : Int, ¬ (174 + 5 * a1 ≤ i ∧ i ≤ 174 + 5 * a1 + 4) → t.1 96 i = s.1 96 i) ∨ (¬ mg_ok s.1 a1 a2 a3 a4 a5 ∧ z = false ∧ t = s)) (fun z s' k1 k2 => hQ z s' k1.1 k1.2 ⟨?_, ?_⟩) (sm_318 hI ba1 ba2 ba3 ba4 ba5 (fun z s' h1 h2 => ⟨h1, h2⟩)) ?_
  · have er : r0 = lf_b z := by
      rcases hT with ⟨y, _, y2⟩ | ⟨y, _, y2⟩
      · rcases k2 with ⟨_, k, _⟩ | ⟨k, _⟩
        · rw [y2, k]; rfl
        · exact absurd y k
      · rcases k2 with ⟨k, _⟩ | ⟨_, k, _⟩
        · exact absurd k y
        · rw [y2, k]; rfl
    rw [← er]; exact hp
  · have q : ∀ c : Nat, (c < 96 ∨ (96 < c ∧ c < 1000)) → s'.1 c = s.1 c := fun c y => k1.2.1 c (gx_nc (by simp; omega))
    have fr : ∀ k : Nat, (k ≠ 2 ∧ k < 7) → ∀ i, fr_g k i → s'.1 96 i = s.1 96 i := fun k hk => k1.2.2.2.2 k (gx_nc (by simp; omega))
    have g : gj_e s.1 s'.1 := fun c c0 c1 => q c (by omega)
    refine ⟨⟨f, H, gf_Te g hF, gc_Te (fun c c0 c1 => q c (by omega)) hC, ?_⟩, gx_2c (q 1 (by omega)) (q 78 (by omega)) h2, gx_ic (fun c y => q c (by omega)) h3, by rw [k1.2.2.2.1 rfl]; exact gx_xc (fun c y => q c (by omega)) h4, tp_Ac (fun c y => q c (by omega)) (fun i _ _ => by rw [q 95 (by omega)]) (fr 3 (by decide) 7 (Or.inl rfl)) (fr 3 (by decide) 8 (Or.inr rfl)) h5, tr_Ac (fun c y => q c (by omega)) (fr 0 (by decide)) h6, gx_7c (fun c y => q c (by omega)) (by rw [q 1 (by omega)]; exact Int.le_refl _) (fr 1 (by decide)) h7, gx_8c (fun c y => q c (by omega)) h8, gx_9c (q 95 (by omega)) h9⟩
    rw [q 28 (by omega)]
    refine gr_Te g (gr_Tx hF.1.1 hF.2.2 (gr_fe (fr 4 (by decide)) (fr 5 (by decide)) (fr 6 (by decide))) ?_ hR)
    rcases hT with ⟨y, y1, _⟩ | ⟨y, y1, _⟩
    · rcases k2 with ⟨_, _, ⟨m0, m1, m2, m3, m4⟩, mo⟩ | ⟨k, _⟩
      · rw [y1]
        obtain ⟨⟨⟨p0, p1⟩, p2⟩, p3, p4, p5, p6⟩ := y
        refine ⟨fun w w0 x1 => ?_, fun w w0 x1 => ?_⟩
        · by_cases yw : w = a1
          · refine Or.inr ?_
            rw [yw, m0, m1, m2, m3, m4]
            exact ⟨rfl, p3, p4, p5, p6, if_pos rfl⟩
          · have m := hR.2.2.2.1 w w0 x1
            have m := gr_1e (B := s'.1 96) (fun i i0 i1 => mo i (by omega)) m
            unfold gr_1 at m ⊢
            rw [show ds_u1 sv a1 (mg_v a2 a3 a4 a5) w = sv w from if_neg yw]
            exact m
        · exact (show ds_u1 sv a1 (mg_v a2 a3 a4 a5) w = sv w from if_neg (by omega)).trans (hR.2.2.2.2 w w0 x1)
      · exact absurd y k
    · rcases k2 with ⟨k, _⟩ | ⟨_, _, k⟩
      · exact absurd k y
      · rw [y1, k]; exact hR.2.2.2
  · unfold fw_318 fw_251
    refine fl_183 ⟨fun q => Or.inr ⟨fun y => bd_f q ⟨y.1.1.1, by have := y.1.1.2; omega⟩, rfl, rfl⟩, fun q => ?_⟩
    have q := bd_t q
    refine fl_252 hR.1 q.1 (by omega) ⟨fun q1 => Or.inr ⟨fun y => by have := of_decide_eq_true q1; have := y.1.2; omega, rfl, rfl⟩, fun q1 => fl_183 ⟨fun q2 => Or.inr ⟨fun y => bd_f q2 y.2.1, rfl, rfl⟩, fun q2 => fl_183 ⟨fun q3 => Or.inr ⟨fun y => bd_f q3 y.2.2.1, rfl, rfl⟩, fun q3 => fl_183 ⟨fun q4 => Or.inr ⟨fun y => bd_f q4 y.2.2.2.1, rfl, rfl⟩, fun q4 => fl_183 ⟨fun q5 _ _ _ _ _ => ?_, fun q5 => Or.inr ⟨fun y => bd_f q5 y.2.2.2.2, rfl, rfl⟩⟩⟩⟩⟩⟩
    have q6 : s.1 6 a1 = 0 := by
      have := of_decide_eq_false q1
      have := hF.1.2.1.1 a1
      omega
    refine Or.inl ⟨⟨⟨⟨q.1, by omega⟩, q6⟩, bd_t q2, bd_t q3, bd_t q4, bd_t q5⟩, rfl, ⟨?_, ?_, ?_, ?_, zu_s⟩, fun i hi => (zu_i (by omega)).trans ((lf_up_i (by omega)).trans ((lf_up_i (by omega)).trans ((lf_up_i (by omega)).trans (lf_up_i (by omega)))))⟩
    · exact (zu_i (by omega)).trans ((lf_up_i (by omega)).trans ((lf_up_i (by omega)).trans ((lf_up_i (by omega)).trans lf_up_s)))
    · exact (zu_i (by omega)).trans ((lf_up_i (by omega)).trans ((lf_up_i (by omega)).trans lf_up_s))
    · exact (zu_i (by omega)).trans ((lf_up_i (by omega)).trans lf_up_s)
    · exact (zu_i (by omega)).trans lf_up_s
/-! tried -/
def gx_S166 (a1 a2 : Int) (r : Int) (I : Nat → Int → Int) (P : Nat → Option Nat) : Prop := (gx_1 I ∧ gx_2 I ∧ gx_i I ∧ gx_x I (P 3) ∧ tp_A I ∧ gx_7 I ∧ gx_8 I ∧ gx_9 I) ∧ tr_BB a1 a2 r I
def gx_R166 (a1 a2 : Int) (p : Int → Prop) (I : Nat → Int → Int) (P : Nat → Option Nat) : Prop := gx_MP (gx_S166 a1 a2) p I P
theorem gx_166 {a1 a2 : Int} {Q : Int → lf_Z → Prop} (hI : iv_A s.1 s.2.2) (ba1 : (-2147483648) ≤ a1 ∧ a1 ≤ 2147483647) (ba2 : 0 ≤ a2 ∧ a2 ≤ 1) (hA : gx_A s.1 s.2.2) (hQ : ∀ (r : Int) (s' : lf_Z), iv_A s'.1 s'.2.2 → lf_fq [29, 30] 1000000 true s.1 s.2.2 s'.1 s'.2.2 → gx_S166 a1 a2 r s'.1 s'.2.2 → ((-2147483648) ≤ r ∧ r ≤ 2147483647) → Q r s') : fm_166 a1 a2 Q s := by
  obtain ⟨h1, h2, h3, h4, h5, h6, h7, h8, h9⟩ := hA
  refine tr_166 hI ba1 ba2 (fun r s' k1 k2 k3 k4 => hQ r s' k1 k2 ⟨?_, tr_t1 h6 k2 k3⟩ k4)
  have q : ∀ c : Nat, (c < 29 ∨ (30 < c ∧ c < 1000)) → s'.1 c = s.1 c := fun c y => k2.1 c (gx_nc (by simp; omega))
  rw [k2.2.2.1 rfl]
  exact ⟨gx_1c (fun c y => q c (by omega)) h1, gx_2c (q 1 (by omega)) (q 78 (by omega)) h2, gx_ic (fun c y => q c (by omega)) h3, gx_xc (fun c y => q c (by omega)) h4, tp_Ac (fun c y => q c (by omega)) (fun i _ _ => by rw [q 95 (by omega)]) (by rw [q 96 (by omega)]) (by rw [q 96 (by omega)]) h5, gx_7c (fun c y => q c (by omega)) (by rw [q 1 (by omega)]; exact Int.le_refl _) (fun i _ => by rw [q 96 (by omega)]) h7, gx_8c (fun c y => q c (by omega)) h8, gx_9c (q 95 (by omega)) h9⟩
theorem gx_321 {a1 a2 : Int} {Q : Int → lf_Z → Prop} (hI : iv_A s.1 s.2.2) (ba1 : (-2147483648) ≤ a1 ∧ a1 ≤ 2147483647) (ba2 : 0 ≤ a2 ∧ a2 ≤ 1) (hM : gx_R166 a1 a2 p s.1 s.2.2) (hQ : ∀ (r : Int) (s' : lf_Z), iv_A s'.1 s'.2.2 → lf_fq [96, 1000] 11 true s.1 s.2.2 s'.1 s'.2.2 → (gx_p p r ∧ gx_A s'.1 s'.2.2) → ((-2) ≤ r ∧ r ≤ 13) → Q r s') : fm_321 a1 a2 Q s := by
  obtain ⟨r0, hp, ⟨h1, h2, h3, h4, h5, h7, h8, h9⟩, hT⟩ := hM
  refine tr_321 hI ba1 ba2 (fun r s' k1 k2 k3 k4 => hQ r s' k1 k2 ⟨(tr_t2 hT k2 k3).1 ▸ hp, ?_⟩ k4)
  have q : ∀ c : Nat, (c < 96 ∨ (96 < c ∧ c < 1000)) → s'.1 c = s.1 c := fun c y => k2.1 c (gx_nc (by simp; omega))
  have fr : ∀ k : Nat, (k ≠ 0 ∧ k < 7) → ∀ i, fr_g k i → s'.1 96 i = s.1 96 i := fun k hk => k2.2.2.2 k (gx_nc (by simp; omega))
  exact ⟨gx_1f (fun c y => q c (by omega)) (fr 2 (by decide)) (fr 4 (by decide)) (fr 5 (by decide)) (fr 6 (by decide)) h1, gx_2c (q 1 (by omega)) (q 78 (by omega)) h2, gx_ic (fun c y => q c (by omega)) h3, by rw [k2.2.2.1 rfl]; exact gx_xc (fun c y => q c (by omega)) h4, tp_Ac (fun c y => q c (by omega)) (fun i _ _ => by rw [q 95 (by omega)]) (fr 3 (by decide) 7 (Or.inl rfl)) (fr 3 (by decide) 8 (Or.inr rfl)) h5, (tr_t2 hT k2 k3).2, gx_7c (fun c y => q c (by omega)) (by rw [q 1 (by omega)]; exact Int.le_refl _) (fr 1 (by decide)) h7, gx_8c (fun c y => q c (by omega)) h8, gx_9c (q 95 (by omega)) h9⟩
end GP
