/-! image, back, a text played, stopped and home: within the law -/
section GI
variable {J K M : Nat → Int → Int} {s t u : lf_Z} {f f' g A B sv sw F S S' : Int → Int} {H H' G : List rr_H} {X : mn_X} {I I' C C' : Nat → Int → Int} {P P' : Nat → Option Nat} {o : Option Nat} {a b c d e r j n w x : Int} {T T' : Int → Int} {D : List Int} {L : List (Int × Int × Int)} {l : List Nat} {bb : Bool} {p : Int → Prop} {z : Bool}
/-! image -/
def gx_xi (I : Nat → Int → Int) (o : Option Nat) : Prop := (0 ≤ I 0 11 ∧ I 0 11 ≤ 4) ∧ (∀ k : Nat, (k : Int) < I 0 11 → gx_t (gx_C I) (I 98) k) ∧ (-1 ≤ I 0 12 ∧ I 0 12 < I 0 11) ∧ o = (if 0 ≤ I 0 12 then some (I 0 12).toNat else none)
def gx_S173 (r : Int) (I : Nat → Int → Int) (P : Nat → Option Nat) : Prop := (gx_1 I ∧ gx_xi I (P 3) ∧ gx_7 I ∧ gx_9 I) ∧ (tp_IM I ∧ tr_IM I) ∧ (I 78 0 = I 1 0 ∧ I 78 1 = I 1 1 ∧ I 78 2 = I 1 2 ∧ I 78 3 = I 0 11 ∧ I 78 4 = I 0 12) ∧ bk_S I I 79 15 ∧ bk_T I I 86 22 ∧ ib_N I I 89 25 ∧ r = I 15 7
def gx_R173 (p : Int → Prop) (I : Nat → Int → Int) (P : Nat → Option Nat) : Prop := gx_MP gx_S173 p I P
theorem gx_173 {Q : Int → lf_Z → Prop} (hI : iv_A s.1 s.2.2) (hA : gx_A s.1 s.2.2) (hQ : ∀ (r : Int) (s' : lf_Z), iv_A s'.1 s'.2.2 → lf_fq [78, 79, 80, 81, 82, 83, 84, 85, 86, 87, 88, 89, 90, 91, 92, 93, 94] 1000000 true s.1 s.2.2 s'.1 s'.2.2 → gx_S173 r s'.1 s'.2.2 → ((-2147483648) ≤ r ∧ r ≤ 2147483647) → Q r s') : fm_173 Q s := by
  obtain ⟨h1, h2, h3, h4, h5, h6, h7, h8, h9⟩ := hA
  refine cj_173 (Q1 := fun r s' => iv_A s'.1 s'.2.2 ∧ lf_fq [78, 79, 80, 81, 82, 83, 84, 85, 86, 87, 88, 89, 90, 91, 92, 93, 94] 1000000 true s.1 s.2.2 s'.1 s'.2.2 ∧ ((-2147483648) ≤ r ∧ r ≤ 2147483647)) (Q2 := fun r t => (t.1 78 0 = s.1 1 0 ∧ t.1 78 1 = s.1 1 1 ∧ t.1 78 2 = s.1 1 2 ∧ t.1 78 3 = s.1 0 11 ∧ t.1 78 4 = s.1 0 12) ∧ bk_S t.1 s.1 79 15 ∧ bk_T t.1 s.1 86 22 ∧ ib_N t.1 s.1 89 25 ∧ r = s.1 15 7) (fun r s' k1 k2 => hQ r s' k1.1 k1.2.1 ?_ k1.2.2) (sm_173 hI (fun r s' h1 h2 h3 => ⟨h1, h2, h3⟩)) ?_
  · obtain ⟨d1, d2, d3, d4, d5⟩ := k2
    have q : ∀ c : Nat, (c < 78 ∨ (94 < c ∧ c < 1000)) → s'.1 c = s.1 c := fun c y => k1.2.1.1 c (gx_nc (by simp; omega))
    refine ⟨⟨gx_1c (fun c y => q c (by omega)) h1, ?_, gx_7c (fun c y => q c (by omega)) (by rw [q 1 (by omega)]; exact Int.le_refl _) (fun i _ => by rw [q 96 (by omega)]) h7, gx_9c (q 95 (by omega)) h9⟩, ⟨tp_i1 h5 k1.2.1 ⟨d1.2.2.2.1, d1.2.2.2.2⟩, tr_i1 h6 k1.2.1 (fun j j0 j1 => d4.2.2.1 j j0 j1)⟩, by rw [q 1 (by omega), q 0 (by omega)]; exact d1, bk_Sc (fun k _ _ => rfl) (fun k k0 k1 => q k (by omega)) d2, bk_Tc (fun k _ _ => rfl) (fun k k0 k1 => q k (by omega)) d3, ib_Nc (fun k _ _ => rfl) (fun k k0 k1 => q k (by omega)) d4, by rw [q 15 (by omega)]; exact d5⟩
    obtain ⟨x1, x2, x3, x4, x5⟩ := h4
    unfold gx_xi
    rw [q 0 (by omega), q 98 (by omega), k1.2.1.2.2.1 rfl]
    exact ⟨x1, fun k hk => gx_tc (fun c c0 c1 => q (35 + c) (by omega)) (fun _ _ _ => rfl) (x2 k hk), x3, x4⟩
  · exact ib_173 (fun t d1 d2 d3 d4 => ⟨d1, d2, d3, d4, rfl⟩)
theorem gx_325 {Q : Int → lf_Z → Prop} (hI : iv_A s.1 s.2.2) (hM : gx_R173 p s.1 s.2.2) (hQ : ∀ (r : Int) (s' : lf_Z), iv_A s'.1 s'.2.2 → lf_fq [97] 1000000 true s.1 s.2.2 s'.1 s'.2.2 → (gx_p p r ∧ gx_A s'.1 s'.2.2) → ((-2147483648) ≤ r ∧ r ≤ 2147483647) → Q r s') : fm_325 Q s := by
  obtain ⟨r0, hp, ⟨⟨f, H, hF, hC, hR⟩, hx, h7, h9⟩, ⟨hP, hT⟩, ⟨n0, n1, n2, n3, n4⟩, d2, d3, d4, d5⟩ := hM
  have e3 : s.1 96 3 = s.1 15 7 := by rw [hR.2.1.1, hC.1.2.2.2.2.1]
  refine cj_325 (Q1 := fun r s' => iv_A s'.1 s'.2.2 ∧ lf_fq [97] 1000000 true s.1 s.2.2 s'.1 s'.2.2 ∧ ((-2147483648) ≤ r ∧ r ≤ 2147483647)) (Q2 := fun r t => (∀ i : Int, 0 ≤ i → i < 1538 → t.1 97 i = s.1 96 i) ∧ r = r0) (fun r s' k1 k2 => hQ r s' k1.1 k1.2.1 ⟨k2.2 ▸ hp, ?_⟩ k1.2.2) (sm_325 hI (fun r s' h1 h2 h3 => ⟨h1, h2, h3⟩)) ?_
  · have q : ∀ c : Nat, (c ≠ 97 ∧ c < 1000) → s'.1 c = s.1 c := fun c y => k1.2.1.1 c (gx_nc (by simp; omega))
    have g : gj_e s.1 s'.1 := fun c c0 c1 => q c (by omega)
    have e78 : s'.1 78 = s.1 78 := q 78 (by omega)
    have e1 : s'.1 1 = s.1 1 := q 1 (by omega)
    have a0 : gx_K s'.1 1 0 = s.1 1 0 := by rw [gx_K1, e78]; exact n0
    have a1 : gx_K s'.1 1 1 = s.1 1 1 := by rw [gx_K1, e78]; exact n1
    have a2 : gx_K s'.1 1 2 = s.1 1 2 := by rw [gx_K1, e78]; exact n2
    have rows : ∀ c : Nat, 2 ≤ c → c ≤ 10 → gx_K s'.1 c = s.1 c := fun c c0 c1 => (gx_Kc (by omega)).trans (q c (by omega))
    obtain ⟨w0, w1, w2, w3, _⟩ := hF.1.1
    refine ⟨⟨f, H, gf_Te g hF, gc_Te (fun c c0 c1 => q c (by omega)) hC, by rw [q 28 (by omega), q 96 (by omega)]; exact gr_Te g hR⟩, ?_, ⟨⟨fun w x0 x1 => ?_, fun y y0 y1 => ?_⟩, f, H, ⟨gj_P3 a0 a1 a2 hF.2.1, gj_H3 a0 a1 a2 hF.2.2⟩, ⟨?_, ?_⟩, ?_⟩, ?_, tp_i2 hP k1.2.1 k2.1, tr_i2 hT k1.2.1 k2.1, gx_7c (fun c y => q c (by omega)) (by rw [e1]; exact Int.le_refl _) (fun i _ => by rw [q 96 (by omega)]) h7, ?_, gx_9c (q 95 (by omega)) h9⟩
    · unfold gx_2
      rw [e78, e1]
      omega
    · rw [a1] at x1
      rw [a0, rows 4 (by decide) (by decide), rows 5 (by decide) (by decide)]
      have := w3 w x0 x1
      exact ⟨this.1.2, this.2.1.2⟩
    · rw [a2] at y1
      rw [a0, rows 10 (by decide) (by decide)]
      exact hF.1.2.2.2 y y0 y1
    · exact bk_rS (k := 64) (m := 0) (G := s.1) hC.1 (bk_Sc (fun k k0 k1 => q k (by omega)) (fun k _ _ => rfl) d2)
    · exact bk_rH (k := 64) (m := 0) (G := s.1) hC.2 (bk_Tc (fun k k0 k1 => q k (by omega)) (fun k _ _ => rfl) d3)
    · refine gr_L3 rows a0 a1 a2 (gr_Tc hF.1.1 hF.2.2 (fun w w0 w1 => ?_) k2.1 hR)
      rw [q 92 (by omega)]
      exact d4.2.1 w w0 w1
    · obtain ⟨x1, x2, x3, x4⟩ := hx
      unfold gx_x
      rw [q 0 (by omega), q 98 (by omega), e78, k1.2.1.2.2.1 rfl, n3, n4]
      exact ⟨x1, fun k hk => gx_tc (fun c c0 c1 => q (35 + c) (by omega)) (fun _ _ _ => rfl) (x2 k hk), x3, x4, ⟨x1.1, Int.le_refl _⟩, x3⟩
    · unfold gx_8
      rw [e78, q 89 (by omega), q 90 (by omega), q 91 (by omega), n0]
      obtain ⟨⟨s1, s2, s3⟩, s4⟩ := h7
      have c2 := d4.2.2.2
      refine ⟨⟨by rw [c2, k2.1 10 (by decide) (by decide)]; exact s1, by omega, by omega⟩, fun k k0 k1 => ?_⟩
      have m := s4 k k0 (by omega)
      rw [(d4.1 k k0 (by omega)).1, (d4.1 k k0 (by omega)).2, k2.1 (162 + 2 * k) (by omega) (by omega), k2.1 (162 + 2 * k + 1) (by omega) (by omega)]
      exact m
  · unfold fw_325
    refine fl_181 (fun t tc t2 tn => ⟨tn, ?_⟩)
    rw [tc 96 (by decide), e3, d5]
/-! back -/
def gx_S177 (r : Int) (I : Nat → Int → Int) (P : Nat → Option Nat) : Prop := (gx_i I ∧ gx_8 I ∧ gx_9 I ∧ gx_xi I (P 3) ∧ mn_W I ∧ mn_B I ∧ mn_V I) ∧ (tp_KM I ∧ tr_KM I) ∧ (I 1 0 = I 78 0 ∧ I 1 1 = I 78 1 ∧ I 1 2 = I 78 2 ∧ I 0 11 = I 78 3 ∧ I 0 12 = I 78 4) ∧ bk_S I I 15 79 ∧ bk_T I I 22 86 ∧ ib_N I I 25 89 ∧ r = I 79 7
def gx_R177 (p : Int → Prop) (I : Nat → Int → Int) (P : Nat → Option Nat) : Prop := gx_MP gx_S177 p I P
theorem gx_ib (q : ∀ c : Nat, ((2 ≤ c ∧ c ≤ 10) ∨ (78 ≤ c ∧ c < 95) ∨ c = 97) → I' c = I c) (h : gx_i I) : gx_i I' := by
  have e1 : gx_K I' 1 = gx_K I 1 := by rw [gx_K1, gx_K1]; exact q 78 (by omega)
  have g : ∀ c : Nat, 2 ≤ c → c ≤ 10 → gx_K I' c = gx_K I c := fun c c0 c1 => by rw [gx_Kc (by omega), gx_Kc (by omega)]; exact q c (by omega)
  obtain ⟨hv, f, H, ⟨h1, h2⟩, h3, h4⟩ := h
  refine ⟨?_, f, H, ⟨gj_P e1 h1, gj_H e1 h2⟩, gc_Te (fun c c0 c1 => q (c + 64) (by omega)) h3, ?_⟩
  · unfold gx_V at hv ⊢
    rw [e1, g 4 (by decide) (by decide), g 5 (by decide) (by decide), g 10 (by decide) (by decide)]
    exact hv
  · rw [q 92 (by omega), q 97 (by omega)]
    exact gr_L3 g (by rw [e1]) (by rw [e1]) (by rw [e1]) h4
theorem gx_177 {Q : Int → lf_Z → Prop} (hI : iv_A s.1 s.2.2) (hA : gx_A s.1 s.2.2) (hQ : ∀ (r : Int) (s' : lf_Z), iv_A s'.1 s'.2.2 → lf_fq [0, 1, 11, 12, 13, 15, 16, 17, 18, 19, 20, 21, 22, 23, 24, 25, 26, 27, 28, 29, 30] 1000000 false s.1 s.2.2 s'.1 s'.2.2 → gx_S177 r s'.1 s'.2.2 → pk_P s.2.2 s'.2.2 → ((-2147483648) ≤ r ∧ r ≤ 2147483647) → Q r s') : fm_177 Q s := by
  obtain ⟨⟨f, H, hF, hC, hR⟩, h2, h3, h4, h5, h6, h7, h8, h9⟩ := hA
  have hV := h3.1
  refine cj_177 (Q1 := fun r s' => iv_A s'.1 s'.2.2 ∧ lf_fq [0, 1, 11, 12, 13, 15, 16, 17, 18, 19, 20, 21, 22, 23, 24, 25, 26, 27, 28, 29, 30] 1000000 false s.1 s.2.2 s'.1 s'.2.2 ∧ ((-2147483648) ≤ r ∧ r ≤ 2147483647)) (Q2 := fun r t => (t.1 1 0 = s.1 78 0 ∧ t.1 1 1 = s.1 78 1 ∧ t.1 1 2 = s.1 78 2) ∧ (t.1 0 11 = s.1 78 3 ∧ t.1 0 12 = s.1 78 4) ∧ (t.2.2 3 = (if 0 ≤ s.1 78 4 ∧ s.1 78 4 < s.1 78 3 then some (s.1 78 4).toNat else none) ∧ pk_P s.2.2 t.2.2) ∧ mn_W t.1 ∧ bk_S t.1 s.1 15 79 ∧ bk_T t.1 s.1 22 86 ∧ ib_N t.1 s.1 25 89 ∧ r = s.1 79 7) (fun r s' k1 k2 => hQ r s' k1.1 k1.2.1 ?_ k2.2.2.1.2 k1.2.2) (sm_177 hI (fun r s' h1 h2 h3 => ⟨h1, h2, h3⟩)) ?_
  · obtain ⟨d1, dt, ⟨dp, _⟩, dW, d2, d3, d4, d5⟩ := k2
    have q : ∀ c : Nat, ((2 ≤ c ∧ c ≤ 10) ∨ (30 < c ∧ c < 1000)) → s'.1 c = s.1 c := fun c y => k1.2.1.1 c (gx_nc (by simp; omega))
    have e78 : s'.1 78 = s.1 78 := q 78 (by omega)
    obtain ⟨x1, x2, x3, x4, x5, x6⟩ := h4
    refine ⟨⟨gx_ib (fun c y => q c (by omega)) h3, gx_8c (fun c y => q c (by omega)) h8, gx_9c (q 95 (by omega)) h9, ?_, dW, ⟨fun w => ?_, fun y => ?_⟩, fun y => ?_⟩, ⟨tp_k1 h5 k1.2.1 dt, tr_k1 h6 k1.2.1 rfl (fun j j0 j1 => d4.2.2.1 j j0 j1)⟩, by rw [e78]; exact ⟨d1.1, d1.2.1, d1.2.2, dt.1, dt.2⟩, bk_Sc (fun k _ _ => rfl) (fun k k0 k1 => q k (by omega)) d2, bk_Tc (fun k _ _ => rfl) (fun k k0 k1 => q k (by omega)) d3, ib_Nc (fun k _ _ => rfl) (fun k k0 k1 => q k (by omega)) d4, by rw [q 79 (by omega)]; exact d5⟩
    · unfold gx_xi
      rw [q 98 (by omega), dt.1, dt.2, dp]
      refine ⟨⟨x5.1, by omega⟩, fun k hk => gx_tc (fun c c0 c1 => q (35 + c) (by omega)) (fun _ _ _ => rfl) (x2 k (by omega)), x6, ?_⟩
      by_cases y : 0 ≤ s.1 78 4
      · rw [if_pos ⟨y, x6.2⟩, if_pos y]
      · rw [if_neg (fun m => y m.1), if_neg y]
    · rw [q 6 (by omega)]; exact hF.1.2.1.1 w
    · rw [q 8 (by omega), q 9 (by omega)]; exact hF.1.2.1.2 y
    · rw [q 7 (by omega), q 2 (by omega)]; exact hF.1.2.2.1 y
  · refine ib_177 hF.1.1 ⟨h4.2.2.2.2.1.1, by have := h4.1.2; have := h4.2.2.2.2.1.2; omega⟩ h2.1 h2.2.1 h2.2.2 (fun w w0 w1 => ?_) (fun t d1 dt dp dW d2 d3 d4 => ⟨d1, dt, dp, dW, d2, d3, d4, rfl⟩)
    have m := hV.1 w w0 (by rw [gx_K1]; exact w1)
    rw [gx_Kc (I := s.1) (c := 4) (by decide), gx_Kc (I := s.1) (c := 5) (by decide), gx_K1] at m
    exact m
theorem gx_326 {Q : Int → lf_Z → Prop} (hI : iv_A s.1 s.2.2) (hM : gx_R177 p s.1 s.2.2) (hQ : ∀ (r : Int) (s' : lf_Z), iv_A s'.1 s'.2.2 → lf_fq [96, 1000, 1001, 1002, 1003, 1004, 1005, 1006] 0 true s.1 s.2.2 s'.1 s'.2.2 → (gx_p p r ∧ gx_A s'.1 s'.2.2) → ((-2147483648) ≤ r ∧ r ≤ 2147483647) → Q r s') : fm_326 Q s := by
  obtain ⟨r0, hp, ⟨h3, h8, h9, hx, hW, hB, hV⟩, ⟨hP, hT⟩, ⟨n0, n1, n2, n3, n4⟩, d2, d3, d4, d5⟩ := hM
  have h3' := h3
  obtain ⟨⟨v1, v2⟩, g, G, ⟨gP, gH⟩, gC, gR⟩ := h3'
  have e3 : s.1 97 3 = s.1 79 7 := by rw [gR.2.1.1]; exact gC.1.2.2.2.2.1.symm
  refine cj_326 (Q1 := fun r s' => iv_A s'.1 s'.2.2 ∧ lf_fq [96, 1000, 1001, 1002, 1003, 1004, 1005, 1006] 0 true s.1 s.2.2 s'.1 s'.2.2 ∧ ((-2147483648) ≤ r ∧ r ≤ 2147483647)) (Q2 := fun r t => (∀ i : Int, 0 ≤ i → i < 1538 → t.1 96 i = s.1 97 i) ∧ r = r0) (fun r s' k1 k2 => hQ r s' k1.1 k1.2.1 ⟨k2.2 ▸ hp, ?_⟩ k1.2.2) (sm_326 hI (fun r s' h1 h2 h3 => ⟨h1, h2, h3⟩)) ?_
  · have q : ∀ c : Nat, (c ≠ 96 ∧ c < 1000) → s'.1 c = s.1 c := fun c y => k1.2.1.1 c (gx_nc (by simp; omega))
    have ge : gj_e s.1 s'.1 := fun c c0 c1 => q c (by omega)
    have e78 : s'.1 78 = s.1 78 := q 78 (by omega)
    have e1 : s'.1 1 = s.1 1 := q 1 (by omega)
    have a0 : s.1 1 0 = gx_K s.1 1 0 := by rw [gx_K1]; exact n0
    have a1 : s.1 1 1 = gx_K s.1 1 1 := by rw [gx_K1]; exact n1
    have a2 : s.1 1 2 = gx_K s.1 1 2 := by rw [gx_K1]; exact n2
    have rows : ∀ c : Nat, 2 ≤ c → c ≤ 10 → s.1 c = gx_K s.1 c := fun c c0 c1 => (gx_Kc (by omega)).symm
    have hF : gf_T s.1 g G := by
      refine ⟨⟨hW, hB, hV, fun y y0 y1 => ?_⟩, gj_P3 a0 a1 a2 gP, gj_H3 a0 a1 a2 gH⟩
      have m := v2 y y0 (by omega)
      rw [gx_Kc (I := s.1) (c := 10) (by decide), ← a0] at m
      exact m
    have hC : gc_T s.1 g G := ⟨bk_rS (k := 0) (m := 64) (F := s.1) (G := s.1) gC.1 d2, bk_rH (k := 0) (m := 64) (F := s.1) (G := s.1) gC.2 d3⟩
    refine ⟨⟨g, G, gf_Te ge hF, gc_Te (fun c c0 c1 => q c (by omega)) hC, ?_⟩, ?_, gx_ic (fun c y => q c (by omega)) h3, ?_, tp_k2 hP k1.2.1 k2.1, tr_k2 hT k1.2.1 rfl k2.1, ?_, gx_8c (fun c y => q c (by omega)) h8, gx_9c (q 95 (by omega)) h9⟩
    · rw [q 28 (by omega)]
      refine gr_Te ge (gr_Tc hW hF.2.2 (fun w w0 w1 => d4.2.1 w w0 w1) k2.1 (gr_L3 rows a0 a1 a2 gR))
    · unfold gx_2
      rw [e78, e1]
      obtain ⟨m0, m1, m2, _⟩ := hW
      omega
    · obtain ⟨x1, x2, x3, x4⟩ := hx
      unfold gx_x
      rw [q 0 (by omega), q 98 (by omega), e78, k1.2.1.2.2.1 rfl, ← n3, ← n4]
      exact ⟨x1, fun k hk => gx_tc (fun c c0 c1 => q (35 + c) (by omega)) (fun _ _ _ => rfl) (x2 k hk), x3, x4, ⟨x1.1, Int.le_refl _⟩, x3⟩
    · unfold gx_7
      rw [e1, q 25 (by omega), q 26 (by omega), q 27 (by omega), n0]
      obtain ⟨⟨s1, s2, s3⟩, s4⟩ := h8
      have c2 := d4.2.2.2
      refine ⟨⟨by rw [c2, k2.1 10 (by decide) (by decide)]; exact s1, by omega, by omega⟩, fun k k0 k1 => ?_⟩
      have m := s4 k k0 (by omega)
      rw [(d4.1 k k0 (by omega)).1, (d4.1 k k0 (by omega)).2, k2.1 (162 + 2 * k) (by omega) (by omega), k2.1 (162 + 2 * k + 1) (by omega) (by omega)]
      exact m
  · unfold fw_326
    refine fl_181b (fun t tc t2 tn => ⟨tn, ?_⟩)
    rw [tn 3 (by decide) (by decide), e3, d5]
/-! a text played -/
def gx_r103 (a1 n0 : Int) (L : List (Int × Int × Int)) : gx_O := fun X J f H K f' H' r => (¬ (0 ≤ a1 ∧ a1 < n0) ∧ gj_e J K ∧ f' = f ∧ H' = H ∧ r = -2) ∨ ((0 ≤ a1 ∧ a1 < n0) ∧ pl_T X L 0 J f H K f' H' r)
def gx_S103 (a1 : Int) (r : Int) (I : Nat → Int → Int) (P : Nat → Option Nat) : Prop := ∃ (F : Int → Int) (n : Int) (D : List Int), (0 ≤ a1 ∧ a1 < I 0 11 → rs_X F n (I 98) (705 * a1) D ∧ ∀ b ∈ D, cs_w F n b = 26 → 0 ≤ cs_v F n b ∧ cs_v F n b ≤ 9) ∧ gx_M (gx_r103 a1 (I 0 11) (pl_d F n D)) r I P
def gx_R103 (a1 : Int) (p : Int → Prop) (I : Nat → Int → Int) (P : Nat → Option Nat) : Prop := gx_MP (gx_S103 a1) p I P
theorem gx_103 {a1 : Int} {Q : Int → lf_Z → Prop} (hI : iv_A s.1 s.2.2) (ba1 : (-2147483648) ≤ a1 ∧ a1 ≤ 2147483647) (hA : gx_A s.1 s.2.2) (hQ : ∀ (r : Int) (s' : lf_Z), iv_A s'.1 s'.2.2 → lf_fq [1, 2, 3, 4, 5, 6, 7, 8, 9, 10, 11, 12, 13, 15, 16, 17, 18, 19, 20, 21, 22, 23, 24, 63, 64, 65, 66] 1000000 true s.1 s.2.2 s'.1 s'.2.2 → gx_S103 a1 r s'.1 s'.2.2 → ((-2) ≤ r ∧ r ≤ 23) → Q r s') : fm_103 a1 Q s := by
  refine cj_103 (Q1 := fun r s' => iv_A s'.1 s'.2.2 ∧ lf_fq [1, 2, 3, 4, 5, 6, 7, 8, 9, 10, 11, 12, 13, 15, 16, 17, 18, 19, 20, 21, 22, 23, 24, 63, 64, 65, 66] 1000000 true s.1 s.2.2 s'.1 s'.2.2 ∧ ((-2) ≤ r ∧ r ≤ 23)) (Q2 := fun r s' => gx_S103 a1 r s'.1 s'.2.2) (fun r s' h1 h2 => hQ r s' h1.1 h1.2.1 h2 h1.2.2) (sm_103 hI ba1 (fun r s' h1 h2 h3 => ⟨h1, h2, h3⟩)) ?_
  obtain ⟨⟨f, H, hF, hC, hR⟩, hD⟩ := hA
  obtain ⟨X, hB, hX, hXr⟩ := gx_X hD.2.2.1 hD.2.2.2.1.2.2.2.1 hD.2.2.2.2.2.2.2
  have hx := hD.2.2.1
  unfold fw_103
  refine ib_62 hx.1.2 ?_
  by_cases c : 0 ≤ a1 ∧ a1 < s.1 0 11
  · rw [if_pos c]
    refine ⟨(fun y => by cases y), fun y ey y4 => ?_⟩
    have ey : a1.toNat = y := Option.some.inj ey
    obtain ⟨F, n, D, ⟨⟨t1, _⟩, t2, _⟩, _, t4, t5⟩ := hx.2.1 y (by omega)
    have ea : a1 = (y : Int) := by omega
    have h24 : D.length ≤ 24 := by obtain ⟨_, _, _, h, _⟩ := t4; exact h
    refine gc_103p (F := F) (n := n) (D := D) t1 h24 y4 (fun i b hb => ?_) hF hC hX hB (fun r t f' H' h1 h2 h3 h4 => ⟨F, n, D, fun _ => ?_, gx_m1 (rel := gx_r103 a1 (t.1 0 11) (pl_d F n D)) hB hXr hF hR hD (Or.inr ⟨?_, h1⟩) h2 h3 h4 (gw_pl _ _ _ _ _ h1)⟩)
    · obtain ⟨m1, m2, m3⟩ := t2 i b hb
      refine ⟨?_, ?_, ?_⟩
      · rw [show 39 + 7 * y = 35 + (4 + 7 * y) by omega]; exact m1
      · rw [show 40 + 7 * y = 35 + (5 + 7 * y) by omega]; exact m2
      · rw [show 41 + 7 * y = 35 + (6 + 7 * y) by omega]; exact m3
    · rw [h4.1 98 (by decide), ea]; exact ⟨t4, t5⟩
    · rw [h4.1 0 (by decide)]; exact c
  · rw [if_neg c]
    refine ⟨fun _ => ⟨fun _ => 0, 0, [], fun y => absurd y c, gx_m1 (rel := gx_r103 a1 (s.1 0 11) (pl_d (fun _ => 0) 0 [])) hB hXr hF hR hD (Or.inl ⟨c, gj_r, rfl, rfl, rfl⟩) hF hC gc_Fr gw_r⟩, fun y ey _ => by cases ey⟩
theorem gx_280 {a1 : Int} {Q : Int → lf_Z → Prop} (hI : iv_A s.1 s.2.2) (ba1 : (-2147483648) ≤ a1 ∧ a1 ≤ 2147483647) (hM : gx_R103 a1 p s.1 s.2.2) (hQ : ∀ (r : Int) (s' : lf_Z), iv_A s'.1 s'.2.2 → lf_fq [96, 104, 107, 108, 1002, 1004, 1005, 1006] 0 true s.1 s.2.2 s'.1 s'.2.2 → (gx_p p r ∧ gx_A s'.1 s'.2.2) → ((-2) ≤ r ∧ r ≤ 23) → Q r s') : fm_280 a1 Q s := by
  obtain ⟨r0, hp, F, n, D, hL, ⟨X, J, f, H, f', H', hB, hX, hT, hF, hR, hF', hC'⟩, hD⟩ := hM
  have e7 : s.1 96 7 = s.1 0 11 := hD.2.2.2.1.2.2.1.symm
  refine cj_280 (Q1 := fun r s' => iv_A s'.1 s'.2.2 ∧ lf_fq [96, 104, 107, 108, 1002, 1004, 1005, 1006] 0 true s.1 s.2.2 s'.1 s'.2.2 ∧ ((-2) ≤ r ∧ r ≤ 23)) (Q2 := fun r t => gr_F s t ∧ gr_T (s.1 28) s.1 f' H' (t.1 96) ∧ r = r0) (fun r s' h1 h2 => hQ r s' h1.1 h1.2.1 ⟨h2.2.2 ▸ hp, gx_m2 hF' hC' hD h2.1 h2.2.1 h1.2.1 rfl⟩ h1.2.2) (sm_280 hI ba1 (fun r s' h1 h2 h3 => ⟨h1, h2, h3⟩)) ?_
  unfold fw_280
  rw [e7]
  refine fl_183 ⟨fun q => ?_, fun q => ?_⟩
  · have q := bd_t q
    have c : 0 ≤ a1 ∧ a1 < s.1 0 11 := ⟨q.1, by omega⟩
    rcases hT with ⟨c', _⟩ | ⟨_, hT⟩
    · exact absurd c c'
    · obtain ⟨⟨o, _, ⟨l1, l2⟩, l3, _⟩, l5⟩ := hL c
      refine gr_280p l1 (fun i b hb => ?_) hF hR ⟨hX, rfl, hD.2.2.2.2.2.2.2.1, hD.2.2.2.2.2.2.2.2.1, hD.2.2.2.2.2.2.2.2.2.1, hD.2.2.2.2.2.2.2.2.2.2⟩ hB hT (fun t h1 h2 => ⟨h1, h2, rfl⟩)
      obtain ⟨m1, m2, _⟩ := l2 i b hb
      exact ⟨m1, fun y => (m2 y).1, fun y y2 => (m2 y).2 y2, l5 b (List.mem_of_getElem? hb)⟩
  · have q := bd_f q
    rcases hT with ⟨_, e, rfl, rfl, rfl⟩ | ⟨c, _⟩
    · exact ⟨gr_Fr, gr_Te e hR, rfl⟩
    · exact absurd ⟨c.1, by omega⟩ q
/-! stopped, home of the reference -/
theorem gx_295 {a1 : Int} {a2 : Int} {Q : Int → lf_Z → Prop} {s : lf_Z} (hI : iv_A s.1 s.2.2) (ba1 : (-2147483648) ≤ a1 ∧ a1 ≤ 2147483647) (ba2 : (-2147483648) ≤ a2 ∧ a2 ≤ 2147483647) (hA : gx_A s.1 s.2.2) (hQ : ∀ (r : Int) (s' : lf_Z), iv_A s'.1 s'.2.2 → lf_fq [95, 104, 107, 111, 112] 1000000 true s.1 s.2.2 s'.1 s'.2.2 → gx_A s'.1 s'.2.2 → ((-1) ≤ r ∧ r ≤ 4095) → Q r s') : fm_295 a1 a2 Q s := zr_295 hI hA.2.2.2.2.2.2.2.2 ba1 ba2 (fun r s' h1 h2 h3 h4 => hQ r s' h1 h2 (gx_sq hA h2 h3) h4)
theorem gx_297 {a1 : Int} {Q : Int → lf_Z → Prop} {s : lf_Z} (hI : iv_A s.1 s.2.2) (ba1 : (-2147483648) ≤ a1 ∧ a1 ≤ 2147483647) (hA : gx_A s.1 s.2.2) (hQ : ∀ (r : Int) (s' : lf_Z), iv_A s'.1 s'.2.2 → lf_fq [95, 104, 107, 111, 112] 1000000 true s.1 s.2.2 s'.1 s'.2.2 → gx_A s'.1 s'.2.2 → ((-1) ≤ r ∧ r ≤ 65535) → Q r s') : fm_297 a1 Q s := zr_297 hI hA.2.2.2.2.2.2.2.2 ba1 (fun r s' h1 h2 h3 h4 => hQ r s' h1 h2 (gx_sq hA h2 h3) h4)
end GI
