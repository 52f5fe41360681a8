/-! the calls of land, stand and steps within the law: between the class's and the reference's, and behind both -/
section GM
variable {J K M : Nat → Int → Int} {s t u : lf_Z} {f f' g A B sv sw : Int → Int} {H H' G : List rr_H} {X : mn_X} {I I' : Nat → Int → Int} {P P' : Nat → Option Nat} {o : Option Nat} {a b c d r j n w : Int} {l : List Nat} {bb : Bool} {p : Int → Prop}
abbrev gx_O : Type := mn_X → (Nat → Int → Int) → (Int → Int) → List rr_H → (Nat → Int → Int) → (Int → Int) → List rr_H → Int → Prop
/-- between the two: the class has done it, the reference not yet -/
def gx_M (rel : gx_O) (r : Int) (I : Nat → Int → Int) (P : Nat → Option Nat) : Prop := (∃ (X : mn_X) (J : Nat → Int → Int) (f : Int → Int) (H : List rr_H) (f' : Int → Int) (H' : List rr_H), gx_XB X ∧ xr_X X (I 98) (I 96 8) ∧ rel X J f H I f' H' r ∧ gf_T J f H ∧ gr_T (I 28) J f H (I 96) ∧ gf_T I f' H' ∧ gc_T I f' H') ∧ gx_D I (P 3)
def gx_MP (R : Int → (Nat → Int → Int) → (Nat → Option Nat) → Prop) (p : Int → Prop) (I : Nat → Int → Int) (P : Nat → Option Nat) : Prop := ∃ r, p r ∧ R r I P
theorem gx_in {R : Int → (Nat → Int → Int) → (Nat → Option Nat) → Prop} (h : p r) (k : R r I P) : gx_MP R p I P := ⟨r, h, k⟩
def gx_p (p : Int → Prop) (r : Int) : Prop := p r
theorem gx_pe {y : Int} (h : gx_p (fun q => q = y) r) : y = r := h.symm
/-- the land grows: what was told stays -/
def gw_T (J K : Nat → Int → Int) : Prop := (J 1 0 ≤ K 1 0 ∧ J 1 1 ≤ K 1 1 ∧ J 1 2 ≤ K 1 2) ∧ (∀ q : Int, q < J 1 0 → K 2 q = J 2 q ∧ K 3 q = J 3 q) ∧ (∀ w : Int, w < J 1 1 → K 4 w = J 4 w ∧ K 5 w = J 5 w ∧ K 6 w = J 6 w) ∧ ∀ q : Int, q < J 1 2 → K 7 q = J 7 q ∧ K 8 q = J 8 q ∧ K 9 q = J 9 q ∧ K 10 q = J 10 q
theorem gw_r : gw_T J J := ⟨⟨Int.le_refl _, Int.le_refl _, Int.le_refl _⟩, fun _ _ => ⟨rfl, rfl⟩, fun _ _ => ⟨rfl, rfl, rfl⟩, fun _ _ => ⟨rfl, rfl, rfl, rfl⟩⟩
theorem gw_t (h : gw_T J K) (k : gw_T K M) : gw_T J M := by
  obtain ⟨⟨h1, h2, h3⟩, h4, h5, h6⟩ := h
  obtain ⟨⟨k1, k2, k3⟩, k4, k5, k6⟩ := k
  refine ⟨⟨by omega, by omega, by omega⟩, fun q hq => ?_, fun q hq => ?_, fun q hq => ?_⟩
  · have a := h4 q hq
    have b := k4 q (by omega)
    exact ⟨b.1.trans a.1, b.2.trans a.2⟩
  · have a := h5 q hq
    have b := k5 q (by omega)
    exact ⟨b.1.trans a.1, b.2.1.trans a.2.1, b.2.2.trans a.2.2⟩
  · have a := h6 q hq
    have b := k6 q (by omega)
    exact ⟨b.1.trans a.1, b.2.1.trans a.2.1, b.2.2.1.trans a.2.2.1, b.2.2.2.trans a.2.2.2⟩
theorem gw_e (e : gj_e J K) : gw_T J K := by
  have e1 : K 1 = J 1 := e 1 (by decide) (by decide)
  refine ⟨⟨by rw [e1]; exact Int.le_refl _, by rw [e1]; exact Int.le_refl _, by rw [e1]; exact Int.le_refl _⟩, fun _ _ => ?_, fun _ _ => ?_, fun _ _ => ?_⟩
  · rw [e 2 (by decide) (by decide), e 3 (by decide) (by decide)]; exact ⟨rfl, rfl⟩
  · rw [e 4 (by decide) (by decide), e 5 (by decide) (by decide), e 6 (by decide) (by decide)]; exact ⟨rfl, rfl, rfl⟩
  · rw [e 7 (by decide) (by decide), e 8 (by decide) (by decide), e 9 (by decide) (by decide), e 10 (by decide) (by decide)]; exact ⟨rfl, rfl, rfl, rfl⟩
theorem gw_o {ok : Prop} {ro rn : Int} {f1 : Int → Int} {H1 : List rr_H} (h : gq_o ok ro rn f1 H1 J f H K f' H' r) : gw_T J K := gw_e h.1
theorem gw_14 (h : gt_14 a b J f H K f' H' r) : gw_T J K := by
  rcases h with ⟨_, e, _⟩ | ⟨_, hR, _⟩
  · exact gw_e e
  · obtain ⟨r1, ⟨r2, r3, r4⟩, r5⟩ := hR
    refine ⟨⟨by omega, by omega, by omega⟩, fun q hq => ?_, fun q hq => ?_, fun q hq => ?_⟩
    · rw [(r5 q).1, (r5 q).2, if_neg (by omega), if_neg (by omega)]; exact ⟨rfl, rfl⟩
    · rw [r1 4 (by decide) (by decide) (by decide), r1 5 (by decide) (by decide) (by decide), r1 6 (by decide) (by decide) (by decide)]; exact ⟨rfl, rfl, rfl⟩
    · rw [r1 7 (by decide) (by decide) (by decide), r1 8 (by decide) (by decide) (by decide), r1 9 (by decide) (by decide) (by decide), r1 10 (by decide) (by decide) (by decide)]; exact ⟨rfl, rfl, rfl, rfl⟩
theorem gw_17 (h : gt_17 a b c J f H K f' H' r) : gw_T J K := by
  rcases h with ⟨_, e, _⟩ | ⟨_, hR, _⟩
  · exact gw_e e
  · obtain ⟨r1, ⟨r2, r3, r4⟩, r5, _⟩ := hR
    have e : ∀ q : Nat, (q = 2 ∨ q = 3 ∨ q = 7 ∨ q = 8 ∨ q = 9 ∨ q = 10) → K q = J q := fun q hq => r1 q (by omega) (by omega) (by omega) (by omega) (by omega) (by omega) (by omega)
    refine ⟨⟨by omega, by omega, by omega⟩, fun q hq => ?_, fun q hq => ?_, fun q hq => ?_⟩
    · rw [e 2 (by decide), e 3 (by decide)]; exact ⟨rfl, rfl⟩
    · rw [(r5 q).1, (r5 q).2.1, (r5 q).2.2, if_neg (by omega), if_neg (by omega), if_neg (by omega)]; exact ⟨rfl, rfl, rfl⟩
    · rw [e 7 (by decide), e 8 (by decide), e 9 (by decide), e 10 (by decide)]; exact ⟨rfl, rfl, rfl, rfl⟩
theorem gw_23 (h : gt_23 a b c d J f H K f' H' r) : gw_T J K := by
  rcases h with ⟨_, e, _⟩ | ⟨_, hR, _⟩
  · exact gw_e e
  · obtain ⟨r1, ⟨r2, r3, r4⟩, r5⟩ := hR
    have e : ∀ q : Nat, (q = 2 ∨ q = 3 ∨ q = 4 ∨ q = 5 ∨ q = 6) → K q = J q := fun q hq => r1 q (by omega) (by omega) (by omega) (by omega) (by omega) (by omega) (by omega)
    refine ⟨⟨by omega, by omega, by omega⟩, fun q hq => ?_, fun q hq => ?_, fun q hq => ?_⟩
    · rw [e 2 (by decide), e 3 (by decide)]; exact ⟨rfl, rfl⟩
    · rw [e 4 (by decide), e 5 (by decide), e 6 (by decide)]; exact ⟨rfl, rfl, rfl⟩
    · rw [(r5 q).1, (r5 q).2.1, (r5 q).2.2.1, (r5 q).2.2.2.1, if_neg (by omega), if_neg (by omega), if_neg (by omega), if_neg (by omega)]; exact ⟨rfl, rfl, rfl, rfl⟩
theorem gw_dd {v x : Int} {z : Bool} (h : dd_T X w v x J f H K f' H' z) : gw_T J K := by
  obtain ⟨d0, d1, d2, d3, d4, d5, d6, d7, d8, d9, d10⟩ := h
  by_cases c0 : w < 23 ∨ 32 < w
  · rw [(d0 c0).1]; exact gw_r
  · by_cases c1 : w = 23
    · obtain ⟨r, h, _⟩ := d1 c1; exact gw_14 h
    · by_cases c2 : w = 24
      · obtain ⟨r, h, _⟩ := d2 c2; exact gw_17 h
      · by_cases c3 : w = 25
        · obtain ⟨r, h, _⟩ := d3 c3; exact gw_17 h
        · by_cases c4 : w = 26
          · obtain ⟨r, h, _⟩ := d4 c4; exact gw_23 h
          · by_cases c5 : w = 27
            · obtain ⟨r, h, _⟩ := d5 c5; exact gw_o h
            · by_cases c6 : w = 28
              · exact gw_o (d6 c6)
              · by_cases c7 : w = 29
                · exact gw_o (d7 c7)
                · by_cases c8 : w = 30
                  · exact gw_o (d8 c8)
                  · by_cases c9 : w = 31
                    · obtain ⟨r, h, _⟩ := d9 c9; exact gw_o h
                    · exact gw_e (d10 (by omega)).1
theorem gw_pl : ∀ (L : List (Int × Int × Int)) (i : Int) (J : Nat → Int → Int) (f : Int → Int) (H : List rr_H), pl_T X L i J f H K f' H' r → gw_T J K := by
  intro L
  induction L with
  | nil => intro i J f H h; rw [h.1]; exact gw_r
  | cons q L ih =>
    intro i J f H h
    obtain ⟨K1, f1, H1, z, h1, _, h3⟩ := h
    rcases h3 with ⟨_, h3⟩ | ⟨_, h3, _⟩
    · exact gw_t (gw_dd h1) (ih _ _ _ _ h3)
    · rw [h3]; exact gw_dd h1
/-! what stays of the relation -/
theorem gr_Tw (hw : gw_T J K) {J' : Nat → Int → Int} (n0 : J' 1 0 ≤ J 1 0) (n1 : J' 1 1 ≤ J 1 1) (n2 : J' 1 2 ≤ J 1 2) (ej : ∀ c : Nat, 2 ≤ c → c ≤ 10 → J' c = J c) {K' : Nat → Int → Int} (e1 : K' 1 = J' 1) (ek : ∀ c : Nat, 2 ≤ c → c ≤ 10 → K' c = K c) (h : gr_T sv J' f H A) : gr_T sv K' f H A := by
  obtain ⟨⟨h1, h2, h3, h4, h5, h6⟩, hS, hH, hM⟩ := h
  obtain ⟨_, w2, w3, w4⟩ := hw
  refine ⟨⟨by rw [e1]; exact h1, by rw [e1]; exact h2, by rw [e1]; exact h3, fun q q0 q1 => ?_, fun q q0 q1 => ?_, fun q q0 q1 => ?_⟩, by rw [e1]; exact hS, hH, by rw [e1]; exact hM⟩
  · rw [e1] at q1
    rw [ek 2 (by decide) (by decide), ek 3 (by decide) (by decide), (w2 q (by omega)).1, (w2 q (by omega)).2, ← ej 2 (by decide) (by decide), ← ej 3 (by decide) (by decide)]
    exact h4 q q0 q1
  · rw [e1] at q1
    rw [ek 4 (by decide) (by decide), ek 5 (by decide) (by decide), ek 6 (by decide) (by decide), (w3 q (by omega)).1, (w3 q (by omega)).2.1, (w3 q (by omega)).2.2, ← ej 4 (by decide) (by decide), ← ej 5 (by decide) (by decide), ← ej 6 (by decide) (by decide)]
    exact h5 q q0 q1
  · rw [e1] at q1
    rw [ek 7 (by decide) (by decide), ek 8 (by decide) (by decide), ek 9 (by decide) (by decide), ek 10 (by decide) (by decide), (w4 q (by omega)).1, (w4 q (by omega)).2.1, (w4 q (by omega)).2.2.1, (w4 q (by omega)).2.2.2, ← ej 7 (by decide) (by decide), ← ej 8 (by decide) (by decide), ← ej 9 (by decide) (by decide), ← ej 10 (by decide) (by decide)]
    exact h6 q q0 q1
theorem gx_iw (hw : gw_T I I') (h2 : gx_2 I) (e : ∀ c : Nat, ((78 ≤ c ∧ c < 95) ∨ c = 97) → I' c = I c) (h : gx_i I) : gx_i I' := by
  have e78 : I' 78 = I 78 := e 78 (by omega)
  have e1 : gx_K I' 1 = gx_K I 1 := by rw [gx_K1, gx_K1]; exact e78
  obtain ⟨n0, n1, n2⟩ := h2
  obtain ⟨⟨v1, v2⟩, g, G, ⟨h1, h2⟩, h3, h4⟩ := h
  obtain ⟨w1, w2, w3, w4⟩ := hw
  refine ⟨⟨fun w x0 x1 => ?_, fun q q0 q1 => ?_⟩, g, G, ⟨gj_P e1 h1, gj_H e1 h2⟩, gc_Te (fun c c0 c1 => e (c + 64) (by omega)) h3, ?_⟩
  · rw [e1] at x1 ⊢
    have v := v1 w x0 x1
    rw [gx_K1] at x1
    rw [gx_Kc (I := I') (c := 4) (by decide), gx_Kc (I := I') (c := 5) (by decide), (w3 w (by omega)).1, (w3 w (by omega)).2.1]
    rw [gx_Kc (I := I) (c := 4) (by decide), gx_Kc (I := I) (c := 5) (by decide)] at v
    exact v
  · rw [e1] at q1 ⊢
    have v := v2 q q0 q1
    rw [gx_K1] at q1
    rw [gx_Kc (I := I') (c := 10) (by decide), (w4 q (by omega)).2.2.2]
    rw [gx_Kc (I := I) (c := 10) (by decide)] at v
    exact v
  · rw [e 92 (by omega), e 97 (by omega)]
    exact gr_Tw (J := I) (K := I') ⟨w1, w2, w3, w4⟩ (by rw [gx_K1]; exact n0.2) (by rw [gx_K1]; exact n1.2) (by rw [gx_K1]; exact n2.2) (fun c c0 c1 => gx_Kc (by omega)) e1 (fun c c0 c1 => gx_Kc (by omega)) h4
theorem gx_D1 (hD : gx_D s.1 o) (hc : gc_F s t) (hw : gw_T s.1 t.1) : gx_D t.1 o := by
  obtain ⟨h2, h3, h4, h5, h6, h7, h8, h9⟩ := hD
  have e : ∀ c : Nat, (c = 0 ∨ (24 < c ∧ (c < 63 ∨ 66 < c))) → t.1 c = s.1 c := fun c h => hc.1 c (by omega)
  have e78 := e 78 (by omega)
  refine ⟨?_, gx_iw hw h2 (fun c h => e c (by omega)) h3, gx_xc (fun c h => e c (by omega)) h4, tp_Ac (fun c h => e c (by omega)) (fun i _ _ => by rw [e 95 (by omega)]) (by rw [e 96 (by omega)]) (by rw [e 96 (by omega)]) h5, tr_Ac (fun c h => e c (by omega)) (fun i _ => by rw [e 96 (by omega)]) h6, gx_7c (fun c h => e c (by omega)) hw.1.1 (fun i _ => by rw [e 96 (by omega)]) h7, gx_8c (fun c h => e c (by omega)) h8, gx_9c (e 95 (by omega)) h9⟩
  unfold gx_2 at *
  rw [e78]
  have w1 := hw.1
  omega
/-- behind the reference -/
theorem gx_m2 (hF : gf_T s.1 f H) (hC : gc_T s.1 f H) (hD : gx_D s.1 (s.2.2 3)) (hg : gr_F s t) (hR : gr_T (s.1 28) s.1 f H (t.1 96)) (q : lf_fq l w bb s.1 s.2.2 t.1 t.2.2) (hl : (l.contains 1000 || l.contains 1001 || l.contains 1003) = false) : gx_A t.1 t.2.2 := by
  simp only [Bool.or_eq_false_iff] at hl
  obtain ⟨⟨q0, q1⟩, q3⟩ := hl
  have e : ∀ c : Nat, c < 96 ∨ (96 < c ∧ c < 104) → t.1 c = s.1 c := fun c h => hg.1 c (by omega) (by omega) (by omega) (by omega)
  have g : gj_e s.1 t.1 := fun c c0 c1 => e c (by omega)
  have f0 := q.2.2.2 0 q0
  have f1 := q.2.2.2 1 q1
  have f3 := q.2.2.2 3 q3
  obtain ⟨h2, h3, h4, h5, h6, h7, h8, h9⟩ := hD
  refine ⟨⟨f, H, gf_Te g hF, gc_Te (fun c c0 c1 => e c (by omega)) hC, ?_⟩, gx_2c (e 1 (by omega)) (e 78 (by omega)) h2, gx_ic (fun c h => e c (by omega)) h3, by rw [hg.2.2]; exact gx_xc (fun c h => e c (by omega)) h4, tp_Ac (fun c h => e c (by omega)) (fun i _ _ => by rw [e 95 (by omega)]) (f3 7 (Or.inl rfl)) (f3 8 (Or.inr rfl)) h5, tr_Ac (fun c h => e c (by omega)) f0 h6, gx_7c (fun c h => e c (by omega)) (by rw [e 1 (by omega)]; exact Int.le_refl _) f1 h7, gx_8c (fun c h => e c (by omega)) h8, gx_9c (e 95 (by omega)) h9⟩
  rw [e 28 (by omega)]
  exact gr_Te g hR
/-- behind the class -/
theorem gx_m1 {rel : gx_O} (hB : gx_XB X) (hXr : gx_Xr X (s.1 98) s) (hF : gf_T s.1 f H) (hR : gr_T (s.1 28) s.1 f H (s.1 96)) (hD : gx_D s.1 (s.2.2 3)) (hT : rel X s.1 f H t.1 f' H' r) (hF' : gf_T t.1 f' H') (hC' : gc_T t.1 f' H') (hc : gc_F s t) (hw : gw_T s.1 t.1) : gx_M rel r t.1 t.2.2 := by
  refine ⟨⟨X, s.1, f, H, f', H', hB, ?_, hT, hF, ?_, hF', hC'⟩, ?_⟩
  · rw [hc.1 98 (by decide), hc.1 96 (by decide)]; exact hXr.1
  · rw [hc.1 28 (by decide), hc.1 96 (by decide)]; exact hR
  · rw [hc.2]; exact gx_D1 hD hc hw
theorem gq_oz {ok : Prop} {f1 : Int → Int} {H1 : List rr_H} (h : gq_o ok 1 0 f1 H1 J f H K f' H' r) : ∃ z : Bool, r = lf_b z := by
  rcases h.2 with ⟨_, _, _, e⟩ | ⟨_, _, _, e⟩
  · exact ⟨false, e⟩
  · exact ⟨true, e⟩
def gx_r14 (a1 : Int) (a2 : Int) : gx_O := fun _ => gt_14 a1 a2
def gx_S14 (a1 : Int) (a2 : Int) (r : Int) (I : Nat → Int → Int) (P : Nat → Option Nat) : Prop := gx_M (gx_r14 a1 a2) r I P
def gx_R14 (a1 : Int) (a2 : Int) (p : Int → Prop) (I : Nat → Int → Int) (P : Nat → Option Nat) : Prop := gx_MP (gx_S14 a1 a2) p I P
theorem gx_14 {a1 a2 : Int} {Q : Int → lf_Z → Prop} {s : lf_Z} (hI : iv_A s.1 s.2.2) (ba1 : (-2147483648) ≤ a1 ∧ a1 ≤ 2147483647) (ba2 : (-2147483648) ≤ a2 ∧ a2 ≤ 2147483647) (hA : gx_A s.1 s.2.2) (hQ : ∀ (r : Int) (s' : lf_Z), iv_A s'.1 s'.2.2 → lf_fq [1, 2, 3] 1000000 true s.1 s.2.2 s'.1 s'.2.2 → gx_S14 a1 a2 r s'.1 s'.2.2 → ((-1) ≤ r ∧ r ≤ 11) → Q r s') : fm_14 a1 a2 Q s := by
  refine cj_14 (Q1 := fun r s' => iv_A s'.1 s'.2.2 ∧ lf_fq [1, 2, 3] 1000000 true s.1 s.2.2 s'.1 s'.2.2 ∧ ((-1) ≤ r ∧ r ≤ 11)) (Q2 := fun r s' => gx_S14 a1 a2 r s'.1 s'.2.2) (fun r s' h1 h2 => hQ r s' h1.1 h1.2.1 h2 h1.2.2) (sm_14 hI ba1 ba2 (fun r s' h1 h2 h3 => ⟨h1, h2, h3⟩)) ?_
  obtain ⟨⟨f, H, hF, hC, hR⟩, hD⟩ := hA
  obtain ⟨X, hB, hX, hXr⟩ := gx_X hD.2.2.1 hD.2.2.2.1.2.2.2.1 hD.2.2.2.2.2.2.2
  exact gc_14 hF hC (fun r t f' H' h1 h2 h3 h4 => gx_m1 (rel := gx_r14 a1 a2) hB hXr hF hR hD h1 h2 h3 h4 (gw_14 h1))
theorem gx_182 {a1 a2 : Int} {Q : Int → lf_Z → Prop} {s : lf_Z} (hI : iv_A s.1 s.2.2) (ba1 : (-2147483648) ≤ a1 ∧ a1 ≤ 2147483647) (ba2 : (-2147483648) ≤ a2 ∧ a2 ≤ 2147483647) (hM : gx_R14 a1 a2 p s.1 s.2.2) (hQ : ∀ (r : Int) (s' : lf_Z), iv_A s'.1 s'.2.2 → lf_fq [96, 1004, 1006] 0 true s.1 s.2.2 s'.1 s'.2.2 → (gx_p p r ∧ gx_A s'.1 s'.2.2) → ((-1) ≤ r ∧ r ≤ 11) → Q r s') : fm_182 a1 a2 Q s := by
  obtain ⟨r0, hp, ⟨X, J, f, H, f', H', hB, hX, hT, hF, hR, hF', hC'⟩, hD⟩ := hM
  refine cj_182 (Q1 := fun r s' => iv_A s'.1 s'.2.2 ∧ lf_fq [96, 1004, 1006] 0 true s.1 s.2.2 s'.1 s'.2.2 ∧ ((-1) ≤ r ∧ r ≤ 11)) (Q2 := fun r t => gr_F s t ∧ gr_T (s.1 28) s.1 f' H' (t.1 96) ∧ r = r0) (fun r s' h1 h2 => hQ r s' h1.1 h1.2.1 ⟨h2.2.2 ▸ hp, gx_m2 hF' hC' hD h2.1 h2.2.1 h1.2.1 rfl⟩ h1.2.2) (sm_182 hI ba1 ba2 (fun r s' h1 h2 h3 => ⟨h1, h2, h3⟩)) ?_
  exact gr_182 hF hR hT (fun t h1 h2 => ⟨h1, h2, rfl⟩)
def gx_r17 (a1 : Int) (a2 : Int) (a3 : Int) : gx_O := fun _ => gt_17 a1 a2 a3
def gx_S17 (a1 : Int) (a2 : Int) (a3 : Int) (r : Int) (I : Nat → Int → Int) (P : Nat → Option Nat) : Prop := gx_M (gx_r17 a1 a2 a3) r I P
def gx_R17 (a1 : Int) (a2 : Int) (a3 : Int) (p : Int → Prop) (I : Nat → Int → Int) (P : Nat → Option Nat) : Prop := gx_MP (gx_S17 a1 a2 a3) p I P
theorem gx_17 {a1 a2 a3 : Int} {Q : Int → lf_Z → Prop} {s : lf_Z} (hI : iv_A s.1 s.2.2) (ba1 : (-2147483648) ≤ a1 ∧ a1 ≤ 2147483647) (ba2 : (-2147483648) ≤ a2 ∧ a2 ≤ 2147483647) (ba3 : 0 ≤ a3 ∧ a3 ≤ 1) (hA : gx_A s.1 s.2.2) (hQ : ∀ (r : Int) (s' : lf_Z), iv_A s'.1 s'.2.2 → lf_fq [1, 4, 5, 6, 11, 12, 13] 1000000 true s.1 s.2.2 s'.1 s'.2.2 → gx_S17 a1 a2 a3 r s'.1 s'.2.2 → ((-1) ≤ r ∧ r ≤ 15) → Q r s') : fm_17 a1 a2 a3 Q s := by
  refine cj_17 (Q1 := fun r s' => iv_A s'.1 s'.2.2 ∧ lf_fq [1, 4, 5, 6, 11, 12, 13] 1000000 true s.1 s.2.2 s'.1 s'.2.2 ∧ ((-1) ≤ r ∧ r ≤ 15)) (Q2 := fun r s' => gx_S17 a1 a2 a3 r s'.1 s'.2.2) (fun r s' h1 h2 => hQ r s' h1.1 h1.2.1 h2 h1.2.2) (sm_17 hI ba1 ba2 ba3 (fun r s' h1 h2 h3 => ⟨h1, h2, h3⟩)) ?_
  obtain ⟨⟨f, H, hF, hC, hR⟩, hD⟩ := hA
  obtain ⟨X, hB, hX, hXr⟩ := gx_X hD.2.2.1 hD.2.2.2.1.2.2.2.1 hD.2.2.2.2.2.2.2
  exact gc_17 hF hC (fun r t f' H' h1 h2 h3 h4 => gx_m1 (rel := gx_r17 a1 a2 a3) hB hXr hF hR hD h1 h2 h3 h4 (gw_17 h1))
theorem gx_184 {a1 a2 a3 : Int} {Q : Int → lf_Z → Prop} {s : lf_Z} (hI : iv_A s.1 s.2.2) (ba1 : (-2147483648) ≤ a1 ∧ a1 ≤ 2147483647) (ba2 : (-2147483648) ≤ a2 ∧ a2 ≤ 2147483647) (ba3 : 0 ≤ a3 ∧ a3 ≤ 1) (hM : gx_R17 a1 a2 a3 p s.1 s.2.2) (hQ : ∀ (r : Int) (s' : lf_Z), iv_A s'.1 s'.2.2 → lf_fq [96, 1002, 1004, 1006] 1 true s.1 s.2.2 s'.1 s'.2.2 → (gx_p p r ∧ gx_A s'.1 s'.2.2) → ((-1) ≤ r ∧ r ≤ 15) → Q r s') : fm_184 a1 a2 a3 Q s := by
  obtain ⟨r0, hp, ⟨X, J, f, H, f', H', hB, hX, hT, hF, hR, hF', hC'⟩, hD⟩ := hM
  refine cj_184 (Q1 := fun r s' => iv_A s'.1 s'.2.2 ∧ lf_fq [96, 1002, 1004, 1006] 1 true s.1 s.2.2 s'.1 s'.2.2 ∧ ((-1) ≤ r ∧ r ≤ 15)) (Q2 := fun r t => gr_F s t ∧ gr_T (s.1 28) s.1 f' H' (t.1 96) ∧ r = r0) (fun r s' h1 h2 => hQ r s' h1.1 h1.2.1 ⟨h2.2.2 ▸ hp, gx_m2 hF' hC' hD h2.1 h2.2.1 h1.2.1 rfl⟩ h1.2.2) (sm_184 hI ba1 ba2 ba3 (fun r s' h1 h2 h3 => ⟨h1, h2, h3⟩)) ?_
  exact gr_184 (show a3 = 0 ∨ a3 = 1 by omega) hF hR hT (fun t h1 h2 => ⟨h1, h2, rfl⟩)
def gx_r23 (a1 : Int) (a2 : Int) (a3 : Int) (a4 : Int) : gx_O := fun _ => gt_23 a1 a2 a3 a4
def gx_S23 (a1 : Int) (a2 : Int) (a3 : Int) (a4 : Int) (r : Int) (I : Nat → Int → Int) (P : Nat → Option Nat) : Prop := gx_M (gx_r23 a1 a2 a3 a4) r I P
def gx_R23 (a1 : Int) (a2 : Int) (a3 : Int) (a4 : Int) (p : Int → Prop) (I : Nat → Int → Int) (P : Nat → Option Nat) : Prop := gx_MP (gx_S23 a1 a2 a3 a4) p I P
theorem gx_23 {a1 a2 a3 a4 : Int} {Q : Int → lf_Z → Prop} {s : lf_Z} (hI : iv_A s.1 s.2.2) (ba1 : (-2147483648) ≤ a1 ∧ a1 ≤ 2147483647) (ba2 : 0 ≤ a2 ∧ a2 ≤ 1) (ba3 : 0 ≤ a3 ∧ a3 ≤ 1) (ba4 : (-2147483648) ≤ a4 ∧ a4 ≤ 2147483647) (hA : gx_A s.1 s.2.2) (hQ : ∀ (r : Int) (s' : lf_Z), iv_A s'.1 s'.2.2 → lf_fq [1, 7, 8, 9, 10, 19, 20] 1000000 true s.1 s.2.2 s'.1 s'.2.2 → gx_S23 a1 a2 a3 a4 r s'.1 s'.2.2 → ((-1) ≤ r ∧ r ≤ 5) → Q r s') : fm_23 a1 a2 a3 a4 Q s := by
  refine cj_23 (Q1 := fun r s' => iv_A s'.1 s'.2.2 ∧ lf_fq [1, 7, 8, 9, 10, 19, 20] 1000000 true s.1 s.2.2 s'.1 s'.2.2 ∧ ((-1) ≤ r ∧ r ≤ 5)) (Q2 := fun r s' => gx_S23 a1 a2 a3 a4 r s'.1 s'.2.2) (fun r s' h1 h2 => hQ r s' h1.1 h1.2.1 h2 h1.2.2) (sm_23 hI ba1 ba2 ba3 ba4 (fun r s' h1 h2 h3 => ⟨h1, h2, h3⟩)) ?_
  obtain ⟨⟨f, H, hF, hC, hR⟩, hD⟩ := hA
  obtain ⟨X, hB, hX, hXr⟩ := gx_X hD.2.2.1 hD.2.2.2.1.2.2.2.1 hD.2.2.2.2.2.2.2
  exact gc_23 hF hC (fun r t f' H' h1 h2 h3 h4 => gx_m1 (rel := gx_r23 a1 a2 a3 a4) hB hXr hF hR hD h1 h2 h3 h4 (gw_23 h1))
theorem gx_189 {a1 a2 a3 a4 : Int} {Q : Int → lf_Z → Prop} {s : lf_Z} (hI : iv_A s.1 s.2.2) (ba1 : (-2147483648) ≤ a1 ∧ a1 ≤ 2147483647) (ba2 : 0 ≤ a2 ∧ a2 ≤ 1) (ba3 : 0 ≤ a3 ∧ a3 ≤ 1) (ba4 : (-2147483648) ≤ a4 ∧ a4 ≤ 2147483647) (hM : gx_R23 a1 a2 a3 a4 p s.1 s.2.2) (hQ : ∀ (r : Int) (s' : lf_Z), iv_A s'.1 s'.2.2 → lf_fq [96, 1004, 1006] 2 true s.1 s.2.2 s'.1 s'.2.2 → (gx_p p r ∧ gx_A s'.1 s'.2.2) → ((-1) ≤ r ∧ r ≤ 5) → Q r s') : fm_189 a1 a2 a3 a4 Q s := by
  obtain ⟨r0, hp, ⟨X, J, f, H, f', H', hB, hX, hT, hF, hR, hF', hC'⟩, hD⟩ := hM
  refine cj_189 (Q1 := fun r s' => iv_A s'.1 s'.2.2 ∧ lf_fq [96, 1004, 1006] 2 true s.1 s.2.2 s'.1 s'.2.2 ∧ ((-1) ≤ r ∧ r ≤ 5)) (Q2 := fun r t => gr_F s t ∧ gr_T (s.1 28) s.1 f' H' (t.1 96) ∧ r = r0) (fun r s' h1 h2 => hQ r s' h1.1 h1.2.1 ⟨h2.2.2 ▸ hp, gx_m2 hF' hC' hD h2.1 h2.2.1 h1.2.1 rfl⟩ h1.2.2) (sm_189 hI ba1 ba2 ba3 ba4 (fun r s' h1 h2 h3 => ⟨h1, h2, h3⟩)) ?_
  exact gr_189 (show a2 = 0 ∨ a2 = 1 by omega) (show a3 = 0 ∨ a3 = 1 by omega) hF hR hT (fun t h1 h2 => ⟨h1, h2, rfl⟩)
def gx_r63 (a1 : Int) (a2 : Int) : gx_O := fun _ => gt_63 a1 a2
def gx_S63 (a1 : Int) (a2 : Int) (r : Int) (I : Nat → Int → Int) (P : Nat → Option Nat) : Prop := gx_M (gx_r63 a1 a2) r I P
def gx_R63 (a1 : Int) (a2 : Int) (p : Int → Prop) (I : Nat → Int → Int) (P : Nat → Option Nat) : Prop := gx_MP (gx_S63 a1 a2) p I P
theorem gx_63 {a1 a2 : Int} {Q : Int → lf_Z → Prop} {s : lf_Z} (hI : iv_A s.1 s.2.2) (ba1 : (-2147483648) ≤ a1 ∧ a1 ≤ 2147483647) (ba2 : (-2147483648) ≤ a2 ∧ a2 ≤ 2147483647) (hA : gx_A s.1 s.2.2) (hQ : ∀ (r : Int) (s' : lf_Z), iv_A s'.1 s'.2.2 → lf_fq [16, 17, 18, 22, 23, 24] 1000000 true s.1 s.2.2 s'.1 s'.2.2 → gx_S63 a1 a2 r s'.1 s'.2.2 → ((-1) ≤ r ∧ r ≤ 3) → Q r s') : fm_63 a1 a2 Q s := by
  refine cj_63 (Q1 := fun r s' => iv_A s'.1 s'.2.2 ∧ lf_fq [16, 17, 18, 22, 23, 24] 1000000 true s.1 s.2.2 s'.1 s'.2.2 ∧ ((-1) ≤ r ∧ r ≤ 3)) (Q2 := fun r s' => gx_S63 a1 a2 r s'.1 s'.2.2) (fun r s' h1 h2 => hQ r s' h1.1 h1.2.1 h2 h1.2.2) (sm_63 hI ba1 ba2 (fun r s' h1 h2 h3 => ⟨h1, h2, h3⟩)) ?_
  obtain ⟨⟨f, H, hF, hC, hR⟩, hD⟩ := hA
  obtain ⟨X, hB, hX, hXr⟩ := gx_X hD.2.2.1 hD.2.2.2.1.2.2.2.1 hD.2.2.2.2.2.2.2
  exact gc_63 hF hC (fun r t f' H' h1 h2 h3 h4 => gx_m1 (rel := gx_r63 a1 a2) hB hXr hF hR hD h1 h2 h3 h4 (gw_o h1))
theorem gx_240 {a1 a2 : Int} {Q : Int → lf_Z → Prop} {s : lf_Z} (hI : iv_A s.1 s.2.2) (ba1 : (-2147483648) ≤ a1 ∧ a1 ≤ 2147483647) (ba2 : (-2147483648) ≤ a2 ∧ a2 ≤ 2147483647) (hM : gx_R63 a1 a2 p s.1 s.2.2) (hQ : ∀ (r : Int) (s' : lf_Z), iv_A s'.1 s'.2.2 → lf_fq [96, 1005, 1006] 9 true s.1 s.2.2 s'.1 s'.2.2 → (gx_p p r ∧ gx_A s'.1 s'.2.2) → ((-1) ≤ r ∧ r ≤ 3) → Q r s') : fm_240 a1 a2 Q s := by
  obtain ⟨r0, hp, ⟨X, J, f, H, f', H', hB, hX, hT, hF, hR, hF', hC'⟩, hD⟩ := hM
  refine cj_240 (Q1 := fun r s' => iv_A s'.1 s'.2.2 ∧ lf_fq [96, 1005, 1006] 9 true s.1 s.2.2 s'.1 s'.2.2 ∧ ((-1) ≤ r ∧ r ≤ 3)) (Q2 := fun r t => gr_F s t ∧ gr_T (s.1 28) s.1 f' H' (t.1 96) ∧ r = r0) (fun r s' h1 h2 => hQ r s' h1.1 h1.2.1 ⟨h2.2.2 ▸ hp, gx_m2 hF' hC' hD h2.1 h2.2.1 h1.2.1 rfl⟩ h1.2.2) (sm_240 hI ba1 ba2 (fun r s' h1 h2 h3 => ⟨h1, h2, h3⟩)) ?_
  exact gr_240 hF hR hT (fun t h1 h2 => ⟨h1, h2, rfl⟩)
def gx_r70 (a1 : Int) : gx_O := fun X => gt_70 X a1
def gx_S70 (a1 : Int) (r : Int) (I : Nat → Int → Int) (P : Nat → Option Nat) : Prop := gx_M (gx_r70 a1) r I P
def gx_R70 (a1 : Int) (p : Int → Prop) (I : Nat → Int → Int) (P : Nat → Option Nat) : Prop := gx_MP (gx_S70 a1) p I P
theorem gx_70 {a1 : Int} {Q : Int → lf_Z → Prop} {s : lf_Z} (hI : iv_A s.1 s.2.2) (ba1 : (-2147483648) ≤ a1 ∧ a1 ≤ 2147483647) (hA : gx_A s.1 s.2.2) (hQ : ∀ (r : Int) (s' : lf_Z), iv_A s'.1 s'.2.2 → lf_fq [15, 16, 17, 18, 19, 21, 22, 23, 24, 63, 64, 65, 66] 1000000 true s.1 s.2.2 s'.1 s'.2.2 → gx_S70 a1 r s'.1 s'.2.2 → ((-2147483648) ≤ r ∧ r ≤ 2147483647) → Q r s') : fm_70 a1 Q s := by
  refine cj_70 (Q1 := fun r s' => iv_A s'.1 s'.2.2 ∧ lf_fq [15, 16, 17, 18, 19, 21, 22, 23, 24, 63, 64, 65, 66] 1000000 true s.1 s.2.2 s'.1 s'.2.2 ∧ ((-2147483648) ≤ r ∧ r ≤ 2147483647)) (Q2 := fun r s' => gx_S70 a1 r s'.1 s'.2.2) (fun r s' h1 h2 => hQ r s' h1.1 h1.2.1 h2 h1.2.2) (sm_70 hI ba1 (fun r s' h1 h2 h3 => ⟨h1, h2, h3⟩)) ?_
  obtain ⟨⟨f, H, hF, hC, hR⟩, hD⟩ := hA
  obtain ⟨X, hB, hX, hXr⟩ := gx_X hD.2.2.1 hD.2.2.2.1.2.2.2.1 hD.2.2.2.2.2.2.2
  exact gc_70 hF hC hX hB (fun r t f' H' h1 h2 h3 h4 => gx_m1 (rel := gx_r70 a1) hB hXr hF hR hD h1 h2 h3 h4 (gw_o h1))
theorem gx_257 {a1 : Int} {Q : Int → lf_Z → Prop} {s : lf_Z} (hI : iv_A s.1 s.2.2) (ba1 : (-2147483648) ≤ a1 ∧ a1 ≤ 2147483647) (hM : gx_R70 a1 p s.1 s.2.2) (hQ : ∀ (r : Int) (s' : lf_Z), iv_A s'.1 s'.2.2 → lf_fq [96, 104, 107, 108, 1005, 1006] 3 true s.1 s.2.2 s'.1 s'.2.2 → (gx_p p r ∧ gx_A s'.1 s'.2.2) → ((-2147483648) ≤ r ∧ r ≤ 2147483647) → Q r s') : fm_257 a1 Q s := by
  obtain ⟨r0, hp, ⟨X, J, f, H, f', H', hB, hX, hT, hF, hR, hF', hC'⟩, hD⟩ := hM
  refine cj_257 (Q1 := fun r s' => iv_A s'.1 s'.2.2 ∧ lf_fq [96, 104, 107, 108, 1005, 1006] 3 true s.1 s.2.2 s'.1 s'.2.2 ∧ ((-2147483648) ≤ r ∧ r ≤ 2147483647)) (Q2 := fun r t => gr_F s t ∧ gr_T (s.1 28) s.1 f' H' (t.1 96) ∧ r = r0) (fun r s' h1 h2 => hQ r s' h1.1 h1.2.1 ⟨h2.2.2 ▸ hp, gx_m2 hF' hC' hD h2.1 h2.2.1 h1.2.1 rfl⟩ h1.2.2) (sm_257 hI ba1 (fun r s' h1 h2 h3 => ⟨h1, h2, h3⟩)) ?_
  exact gr_257 hF hR ⟨hX, rfl, hD.2.2.2.2.2.2.2.1, hD.2.2.2.2.2.2.2.2.1, hD.2.2.2.2.2.2.2.2.2.1, hD.2.2.2.2.2.2.2.2.2.2⟩ hB hT (fun t h1 h2 => ⟨h1, h2, rfl⟩)
def gx_r98 (a1 : Int) (a2 : Int) : gx_O := fun _ => gt_98 a1 a2
def gx_S98 (a1 : Int) (a2 : Int) (r : Int) (I : Nat → Int → Int) (P : Nat → Option Nat) : Prop := gx_M (gx_r98 a1 a2) r I P
def gx_R98 (a1 : Int) (a2 : Int) (p : Int → Prop) (I : Nat → Int → Int) (P : Nat → Option Nat) : Prop := gx_MP (gx_S98 a1 a2) p I P
theorem gx_98 {a1 a2 : Int} {Q : Bool → lf_Z → Prop} {s : lf_Z} (hI : iv_A s.1 s.2.2) (ba1 : (-2147483648) ≤ a1 ∧ a1 ≤ 2147483647) (ba2 : (-2147483648) ≤ a2 ∧ a2 ≤ 2147483647) (hA : gx_A s.1 s.2.2) (hQ : ∀ (z : Bool) (s' : lf_Z), iv_A s'.1 s'.2.2 → lf_fq [20, 22, 23, 24] 1000000 true s.1 s.2.2 s'.1 s'.2.2 → gx_S98 a1 a2 (lf_b z) s'.1 s'.2.2 → Q z s') : fm_98 a1 a2 Q s := by
  refine cj_98 (Q1 := fun z s' => iv_A s'.1 s'.2.2 ∧ lf_fq [20, 22, 23, 24] 1000000 true s.1 s.2.2 s'.1 s'.2.2) (Q2 := fun z s' => gx_S98 a1 a2 (lf_b z) s'.1 s'.2.2) (fun z s' h1 h2 => hQ z s' h1.1 h1.2 h2) (sm_98 hI ba1 ba2 (fun z s' h1 h2 => ⟨h1, h2⟩)) ?_
  obtain ⟨⟨f, H, hF, hC, hR⟩, hD⟩ := hA
  obtain ⟨X, hB, hX, hXr⟩ := gx_X hD.2.2.1 hD.2.2.2.1.2.2.2.1 hD.2.2.2.2.2.2.2
  exact gc_98 hF hC (fun z t f' H' h1 h2 h3 h4 => gx_m1 (rel := gx_r98 a1 a2) hB hXr hF hR hD h1 h2 h3 h4 (gw_o h1))
theorem gx_248 {a1 a2 : Int} {Q : Bool → lf_Z → Prop} {s : lf_Z} (hI : iv_A s.1 s.2.2) (ba1 : (-2147483648) ≤ a1 ∧ a1 ≤ 2147483647) (ba2 : (-2147483648) ≤ a2 ∧ a2 ≤ 2147483647) (hM : gx_R98 a1 a2 p s.1 s.2.2) (hQ : ∀ (z : Bool) (s' : lf_Z), iv_A s'.1 s'.2.2 → lf_fq [96, 1005, 1006] 9 true s.1 s.2.2 s'.1 s'.2.2 → (gx_p p (lf_b z) ∧ gx_A s'.1 s'.2.2) → Q z s') : fm_248 a1 a2 Q s := by
  obtain ⟨r0, hp, ⟨X, J, f, H, f', H', hB, hX, hT, hF, hR, hF', hC'⟩, hD⟩ := hM
  obtain ⟨z0, hz⟩ := gq_oz hT
  subst hz
  refine cj_248 (Q1 := fun z s' => iv_A s'.1 s'.2.2 ∧ lf_fq [96, 1005, 1006] 9 true s.1 s.2.2 s'.1 s'.2.2) (Q2 := fun z t => gr_F s t ∧ gr_T (s.1 28) s.1 f' H' (t.1 96) ∧ (lf_b z) = lf_b z0) (fun z s' h1 h2 => hQ z s' h1.1 h1.2 ⟨h2.2.2 ▸ hp, gx_m2 hF' hC' hD h2.1 h2.2.1 h1.2 rfl⟩) (sm_248 hI ba1 ba2 (fun z s' h1 h2 => ⟨h1, h2⟩)) ?_
  exact gr_248 hF hR hT (fun t h1 h2 => ⟨h1, h2, rfl⟩)
def gx_r100 (a1 : Int) (a2 : Int) : gx_O := fun _ => gt_100 a1 a2
def gx_S100 (a1 : Int) (a2 : Int) (r : Int) (I : Nat → Int → Int) (P : Nat → Option Nat) : Prop := gx_M (gx_r100 a1 a2) r I P
def gx_R100 (a1 : Int) (a2 : Int) (p : Int → Prop) (I : Nat → Int → Int) (P : Nat → Option Nat) : Prop := gx_MP (gx_S100 a1 a2) p I P
theorem gx_100 {a1 a2 : Int} {Q : Bool → lf_Z → Prop} {s : lf_Z} (hI : iv_A s.1 s.2.2) (ba1 : (-2147483648) ≤ a1 ∧ a1 ≤ 2147483647) (ba2 : 0 ≤ a2 ∧ a2 ≤ 1) (hA : gx_A s.1 s.2.2) (hQ : ∀ (z : Bool) (s' : lf_Z), iv_A s'.1 s'.2.2 → lf_fq [15, 22, 23, 24] 1000000 true s.1 s.2.2 s'.1 s'.2.2 → gx_S100 a1 a2 (lf_b z) s'.1 s'.2.2 → Q z s') : fm_100 a1 a2 Q s := by
  refine cj_100 (Q1 := fun z s' => iv_A s'.1 s'.2.2 ∧ lf_fq [15, 22, 23, 24] 1000000 true s.1 s.2.2 s'.1 s'.2.2) (Q2 := fun z s' => gx_S100 a1 a2 (lf_b z) s'.1 s'.2.2) (fun z s' h1 h2 => hQ z s' h1.1 h1.2 h2) (sm_100 hI ba1 ba2 (fun z s' h1 h2 => ⟨h1, h2⟩)) ?_
  obtain ⟨⟨f, H, hF, hC, hR⟩, hD⟩ := hA
  obtain ⟨X, hB, hX, hXr⟩ := gx_X hD.2.2.1 hD.2.2.2.1.2.2.2.1 hD.2.2.2.2.2.2.2
  exact gc_100 hF hC (fun z t f' H' h1 h2 h3 h4 => gx_m1 (rel := gx_r100 a1 a2) hB hXr hF hR hD h1 h2 h3 h4 (gw_o h1))
theorem gx_250 {a1 a2 : Int} {Q : Bool → lf_Z → Prop} {s : lf_Z} (hI : iv_A s.1 s.2.2) (ba1 : (-2147483648) ≤ a1 ∧ a1 ≤ 2147483647) (ba2 : 0 ≤ a2 ∧ a2 ≤ 1) (hM : gx_R100 a1 a2 p s.1 s.2.2) (hQ : ∀ (z : Bool) (s' : lf_Z), iv_A s'.1 s'.2.2 → lf_fq [96, 1004, 1005, 1006] 9 true s.1 s.2.2 s'.1 s'.2.2 → (gx_p p (lf_b z) ∧ gx_A s'.1 s'.2.2) → Q z s') : fm_250 a1 a2 Q s := by
  obtain ⟨r0, hp, ⟨X, J, f, H, f', H', hB, hX, hT, hF, hR, hF', hC'⟩, hD⟩ := hM
  obtain ⟨z0, hz⟩ := gq_oz hT
  subst hz
  refine cj_250 (Q1 := fun z s' => iv_A s'.1 s'.2.2 ∧ lf_fq [96, 1004, 1005, 1006] 9 true s.1 s.2.2 s'.1 s'.2.2) (Q2 := fun z t => gr_F s t ∧ gr_T (s.1 28) s.1 f' H' (t.1 96) ∧ (lf_b z) = lf_b z0) (fun z s' h1 h2 => hQ z s' h1.1 h1.2 ⟨h2.2.2 ▸ hp, gx_m2 hF' hC' hD h2.1 h2.2.1 h1.2 rfl⟩) (sm_250 hI ba1 ba2 (fun z s' h1 h2 => ⟨h1, h2⟩)) ?_
  exact gr_250 (show a2 = 0 ∨ a2 = 1 by omega) hF hR hT (fun t h1 h2 => ⟨h1, h2, rfl⟩)
def gx_r102 (a1 : Int) (a2 : Int) : gx_O := fun _ => gt_102 a1 a2
def gx_S102 (a1 : Int) (a2 : Int) (r : Int) (I : Nat → Int → Int) (P : Nat → Option Nat) : Prop := gx_M (gx_r102 a1 a2) r I P
def gx_R102 (a1 : Int) (a2 : Int) (p : Int → Prop) (I : Nat → Int → Int) (P : Nat → Option Nat) : Prop := gx_MP (gx_S102 a1 a2) p I P
theorem gx_102 {a1 a2 : Int} {Q : Int → lf_Z → Prop} {s : lf_Z} (hI : iv_A s.1 s.2.2) (ba1 : (-2147483648) ≤ a1 ∧ a1 ≤ 2147483647) (ba2 : (-2147483648) ≤ a2 ∧ a2 ≤ 2147483647) (hA : gx_A s.1 s.2.2) (hQ : ∀ (r : Int) (s' : lf_Z), iv_A s'.1 s'.2.2 → lf_fq [16, 17, 18, 22, 23, 24] 1000000 true s.1 s.2.2 s'.1 s'.2.2 → gx_S102 a1 a2 r s'.1 s'.2.2 → ((-1) ≤ r ∧ r ≤ 3) → Q r s') : fm_102 a1 a2 Q s := by
  refine cj_102 (Q1 := fun r s' => iv_A s'.1 s'.2.2 ∧ lf_fq [16, 17, 18, 22, 23, 24] 1000000 true s.1 s.2.2 s'.1 s'.2.2 ∧ ((-1) ≤ r ∧ r ≤ 3)) (Q2 := fun r s' => gx_S102 a1 a2 r s'.1 s'.2.2) (fun r s' h1 h2 => hQ r s' h1.1 h1.2.1 h2 h1.2.2) (sm_102 hI ba1 ba2 (fun r s' h1 h2 h3 => ⟨h1, h2, h3⟩)) ?_
  obtain ⟨⟨f, H, hF, hC, hR⟩, hD⟩ := hA
  obtain ⟨X, hB, hX, hXr⟩ := gx_X hD.2.2.1 hD.2.2.2.1.2.2.2.1 hD.2.2.2.2.2.2.2
  exact gc_102 hF hC (fun r t f' H' h1 h2 h3 h4 => gx_m1 (rel := gx_r102 a1 a2) hB hXr hF hR hD h1 h2 h3 h4 (gw_o h1))
theorem gx_253 {a1 a2 : Int} {Q : Int → lf_Z → Prop} {s : lf_Z} (hI : iv_A s.1 s.2.2) (ba1 : (-2147483648) ≤ a1 ∧ a1 ≤ 2147483647) (ba2 : (-2147483648) ≤ a2 ∧ a2 ≤ 2147483647) (hM : gx_R102 a1 a2 p s.1 s.2.2) (hQ : ∀ (r : Int) (s' : lf_Z), iv_A s'.1 s'.2.2 → lf_fq [96, 1005, 1006] 9 true s.1 s.2.2 s'.1 s'.2.2 → (gx_p p r ∧ gx_A s'.1 s'.2.2) → ((-1) ≤ r ∧ r ≤ 3) → Q r s') : fm_253 a1 a2 Q s := by
  obtain ⟨r0, hp, ⟨X, J, f, H, f', H', hB, hX, hT, hF, hR, hF', hC'⟩, hD⟩ := hM
  refine cj_253 (Q1 := fun r s' => iv_A s'.1 s'.2.2 ∧ lf_fq [96, 1005, 1006] 9 true s.1 s.2.2 s'.1 s'.2.2 ∧ ((-1) ≤ r ∧ r ≤ 3)) (Q2 := fun r t => gr_F s t ∧ gr_T (s.1 28) s.1 f' H' (t.1 96) ∧ r = r0) (fun r s' h1 h2 => hQ r s' h1.1 h1.2.1 ⟨h2.2.2 ▸ hp, gx_m2 hF' hC' hD h2.1 h2.2.1 h1.2.1 rfl⟩ h1.2.2) (sm_253 hI ba1 ba2 (fun r s' h1 h2 h3 => ⟨h1, h2, h3⟩)) ?_
  exact gr_253 hF hR hT (fun t h1 h2 => ⟨h1, h2, rfl⟩)
def gx_r105 (a1 : Int) (a2 : Int) : gx_O := fun X => gt_105 X a1 a2
def gx_S105 (a1 : Int) (a2 : Int) (r : Int) (I : Nat → Int → Int) (P : Nat → Option Nat) : Prop := gx_M (gx_r105 a1 a2) r I P
def gx_R105 (a1 : Int) (a2 : Int) (p : Int → Prop) (I : Nat → Int → Int) (P : Nat → Option Nat) : Prop := gx_MP (gx_S105 a1 a2) p I P
theorem gx_105 {a1 a2 : Int} {Q : Int → lf_Z → Prop} {s : lf_Z} (hI : iv_A s.1 s.2.2) (ba1 : (-2147483648) ≤ a1 ∧ a1 ≤ 2147483647) (ba2 : (-2147483648) ≤ a2 ∧ a2 ≤ 2147483647) (hA : gx_A s.1 s.2.2) (hQ : ∀ (r : Int) (s' : lf_Z), iv_A s'.1 s'.2.2 → lf_fq [15, 16, 17, 18, 19, 20, 21, 22, 23, 24, 63, 64, 65, 66] 1000000 true s.1 s.2.2 s'.1 s'.2.2 → gx_S105 a1 a2 r s'.1 s'.2.2 → ((-2147483648) ≤ r ∧ r ≤ 2147483647) → Q r s') : fm_105 a1 a2 Q s := by
  refine cj_105 (Q1 := fun r s' => iv_A s'.1 s'.2.2 ∧ lf_fq [15, 16, 17, 18, 19, 20, 21, 22, 23, 24, 63, 64, 65, 66] 1000000 true s.1 s.2.2 s'.1 s'.2.2 ∧ ((-2147483648) ≤ r ∧ r ≤ 2147483647)) (Q2 := fun r s' => gx_S105 a1 a2 r s'.1 s'.2.2) (fun r s' h1 h2 => hQ r s' h1.1 h1.2.1 h2 h1.2.2) (sm_105 hI ba1 ba2 (fun r s' h1 h2 h3 => ⟨h1, h2, h3⟩)) ?_
  obtain ⟨⟨f, H, hF, hC, hR⟩, hD⟩ := hA
  obtain ⟨X, hB, hX, hXr⟩ := gx_X hD.2.2.1 hD.2.2.2.1.2.2.2.1 hD.2.2.2.2.2.2.2
  exact gc_105 hF hC hX hB (fun r t f' H' h1 h2 h3 h4 => gx_m1 (rel := gx_r105 a1 a2) hB hXr hF hR hD h1 h2 h3 h4 (gw_o h1))
theorem gx_282 {a1 a2 : Int} {Q : Int → lf_Z → Prop} {s : lf_Z} (hI : iv_A s.1 s.2.2) (ba1 : (-2147483648) ≤ a1 ∧ a1 ≤ 2147483647) (ba2 : (-2147483648) ≤ a2 ∧ a2 ≤ 2147483647) (hM : gx_R105 a1 a2 p s.1 s.2.2) (hQ : ∀ (r : Int) (s' : lf_Z), iv_A s'.1 s'.2.2 → lf_fq [96, 104, 107, 108, 1005, 1006] 3 true s.1 s.2.2 s'.1 s'.2.2 → (gx_p p r ∧ gx_A s'.1 s'.2.2) → ((-2147483648) ≤ r ∧ r ≤ 2147483647) → Q r s') : fm_282 a1 a2 Q s := by
  obtain ⟨r0, hp, ⟨X, J, f, H, f', H', hB, hX, hT, hF, hR, hF', hC'⟩, hD⟩ := hM
  refine cj_282 (Q1 := fun r s' => iv_A s'.1 s'.2.2 ∧ lf_fq [96, 104, 107, 108, 1005, 1006] 3 true s.1 s.2.2 s'.1 s'.2.2 ∧ ((-2147483648) ≤ r ∧ r ≤ 2147483647)) (Q2 := fun r t => gr_F s t ∧ gr_T (s.1 28) s.1 f' H' (t.1 96) ∧ r = r0) (fun r s' h1 h2 => hQ r s' h1.1 h1.2.1 ⟨h2.2.2 ▸ hp, gx_m2 hF' hC' hD h2.1 h2.2.1 h1.2.1 rfl⟩ h1.2.2) (sm_282 hI ba1 ba2 (fun r s' h1 h2 h3 => ⟨h1, h2, h3⟩)) ?_
  exact gr_282 hF hR ⟨hX, rfl, hD.2.2.2.2.2.2.2.1, hD.2.2.2.2.2.2.2.2.1, hD.2.2.2.2.2.2.2.2.2.1, hD.2.2.2.2.2.2.2.2.2.2⟩ hB hT (fun t h1 h2 => ⟨h1, h2, rfl⟩)
def gx_r107 : gx_O := fun _ => gt_107
def gx_S107 (r : Int) (I : Nat → Int → Int) (P : Nat → Option Nat) : Prop := gx_M (gx_r107) r I P
def gx_R107 (p : Int → Prop) (I : Nat → Int → Int) (P : Nat → Option Nat) : Prop := gx_MP (gx_S107) p I P
theorem gx_107 {Q : Int → lf_Z → Prop} {s : lf_Z} (hI : iv_A s.1 s.2.2) (hA : gx_A s.1 s.2.2) (hQ : ∀ (r : Int) (s' : lf_Z), iv_A s'.1 s'.2.2 → lf_fq [15, 16, 17, 18, 19, 20, 21, 22] 1000000 true s.1 s.2.2 s'.1 s'.2.2 → gx_S107 r s'.1 s'.2.2 → ((-1) ≤ r ∧ r ≤ 30) → Q r s') : fm_107 Q s := by
  refine cj_107 (Q1 := fun r s' => iv_A s'.1 s'.2.2 ∧ lf_fq [15, 16, 17, 18, 19, 20, 21, 22] 1000000 true s.1 s.2.2 s'.1 s'.2.2 ∧ ((-1) ≤ r ∧ r ≤ 30)) (Q2 := fun r s' => gx_S107 r s'.1 s'.2.2) (fun r s' h1 h2 => hQ r s' h1.1 h1.2.1 h2 h1.2.2) (sm_107 hI (fun r s' h1 h2 h3 => ⟨h1, h2, h3⟩)) ?_
  obtain ⟨⟨f, H, hF, hC, hR⟩, hD⟩ := hA
  obtain ⟨X, hB, hX, hXr⟩ := gx_X hD.2.2.1 hD.2.2.2.1.2.2.2.1 hD.2.2.2.2.2.2.2
  exact gc_107 hF hC (fun r t f' H' h1 h2 h3 h4 => gx_m1 (rel := gx_r107) hB hXr hF hR hD h1 h2 h3 h4 (gw_o h1))
theorem gx_238 {Q : Int → lf_Z → Prop} {s : lf_Z} (hI : iv_A s.1 s.2.2) (hM : gx_R107 p s.1 s.2.2) (hQ : ∀ (r : Int) (s' : lf_Z), iv_A s'.1 s'.2.2 → lf_fq [96, 1004, 1005, 1006] 3 true s.1 s.2.2 s'.1 s'.2.2 → (gx_p p r ∧ gx_A s'.1 s'.2.2) → ((-1) ≤ r ∧ r ≤ 29) → Q r s') : fm_238 Q s := by
  obtain ⟨r0, hp, ⟨X, J, f, H, f', H', hB, hX, hT, hF, hR, hF', hC'⟩, hD⟩ := hM
  refine cj_238 (Q1 := fun r s' => iv_A s'.1 s'.2.2 ∧ lf_fq [96, 1004, 1005, 1006] 3 true s.1 s.2.2 s'.1 s'.2.2 ∧ ((-1) ≤ r ∧ r ≤ 29)) (Q2 := fun r t => gr_F s t ∧ gr_T (s.1 28) s.1 f' H' (t.1 96) ∧ r = r0) (fun r s' h1 h2 => hQ r s' h1.1 h1.2.1 ⟨h2.2.2 ▸ hp, gx_m2 hF' hC' hD h2.1 h2.2.1 h1.2.1 rfl⟩ h1.2.2) (sm_238 hI (fun r s' h1 h2 h3 => ⟨h1, h2, h3⟩)) ?_
  exact gr_238 hF hR hT (fun t h1 h2 => ⟨h1, h2, rfl⟩)
end GM
