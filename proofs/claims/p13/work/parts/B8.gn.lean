/-! the other calls within the law: tape, texts, sights, mending, tries, image, a text played -/
section GN
variable {J K M : Nat → Int → Int} {s t u : lf_Z} {f f' g A B sv sw F S S' : Int → Int} {H H' G : List rr_H} {X : mn_X} {I I' C C' : Nat → Int → Int} {P P' : Nat → Option Nat} {o : Option Nat} {a b c d e r j n w x : Int} {T T' : Int → Int} {D : List Int} {l : List Nat} {bb : Bool} {p : Int → Prop} {z : Bool}
theorem gx_nc {c : Nat} (h : ∀ x ∈ l, x ≠ c) : l.contains c = false := by
  cases q : l.contains c with
  | false => rfl
  | true =>
    have m : c ∈ l := by simpa using q
    exact absurd rfl (h c m)
theorem bd_t {P Q : Prop} [Decidable P] [Decidable Q] (h : (decide P && decide Q) = true) : P ∧ Q := by
  rw [Bool.and_eq_true, decide_eq_true_eq, decide_eq_true_eq] at h
  exact h
theorem bd_f {P Q : Prop} [Decidable P] [Decidable Q] (h : (decide P && decide Q) = false) : ¬ (P ∧ Q) := fun y => by
  rw [decide_eq_true y.1, decide_eq_true y.2] at h
  cases h
theorem gx_w {e : Int} (h : -2147483648 ≤ e ∧ e ≤ 2147483647) : lf_w e = e := Int32.toInt_ofInt_of_le h.1 (Int.lt_add_one_of_le h.2)
/-- all but the tape -/
def gx_E (I : Nat → Int → Int) (o : Option Nat) : Prop := gx_1 I ∧ gx_2 I ∧ gx_i I ∧ gx_x I o ∧ tr_A I ∧ gx_7 I ∧ gx_8 I ∧ gx_9 I
theorem gx_AE (h : gx_A I P) : gx_E I (P 3) ∧ tp_A I := ⟨⟨h.1, h.2.1, h.2.2.1, h.2.2.2.1, h.2.2.2.2.2.1, h.2.2.2.2.2.2.1, h.2.2.2.2.2.2.2.1, h.2.2.2.2.2.2.2.2⟩, h.2.2.2.2.1⟩
theorem gx_EA (h : gx_E I (P 3)) (k : tp_A I) : gx_A I P := ⟨h.1, h.2.1, h.2.2.1, h.2.2.2.1, k, h.2.2.2.2.1, h.2.2.2.2.2.1, h.2.2.2.2.2.2.1, h.2.2.2.2.2.2.2⟩
theorem gx_Ec (q : ∀ c : Nat, ((c < 31 ∧ c ≠ 14) ∨ (35 ≤ c ∧ c < 63) ∨ (78 ≤ c ∧ c < 95) ∨ (96 ≤ c ∧ c ≤ 98)) → I' c = I c) (q9 : gx_9 I') (h : gx_E I o) : gx_E I' o := by
  obtain ⟨h1, h2, h3, h4, h5, h6, h7, _⟩ := h
  exact ⟨gx_1c (fun c y => q c (by omega)) h1, gx_2c (q 1 (by omega)) (q 78 (by omega)) h2, gx_ic (fun c y => q c (by omega)) h3, gx_xc (fun c y => q c (by omega)) h4, tr_Ac (fun c y => q c (by omega)) (fun i _ => by rw [q 96 (by omega)]) h5, gx_7c (fun c y => q c (by omega)) (by rw [q 1 (by omega)]; exact Int.le_refl _) (fun i _ => by rw [q 96 (by omega)]) h6, gx_8c (fun c y => q c (by omega)) h7, q9⟩
theorem gx_9e (h : gx_9 I) (q : ∀ i : Int, i ≠ 4 → I' 95 i = I 95 i) : gx_9 I' := by
  unfold gx_9 zq_9 at *
  rw [q 29 (by decide), q 31 (by decide), q 30 (by decide)]
  exact h
/-- the reference's half in other cells of its row -/
theorem gr_Tx (hW : mn_W J) (hH : mi_H J H) (e : ∀ i : Int, ((0 ≤ i ∧ i ≤ 3) ∨ i = 6 ∨ i = 9 ∨ (14 ≤ i ∧ i < 162) ∨ 278 ≤ i) → B i = A i) (hm : gr_m (J 1 1) sw B) (h : gr_T sv J f H A) : gr_T sw J f H B := by
  obtain ⟨w0, w1, w2, _⟩ := hW
  obtain ⟨⟨l0, l1, l2, l3, l4, l5⟩, ⟨s1, s2, s3, s4, s5, s6⟩, ⟨h1, h2⟩, _⟩ := h
  have hl := hH.1
  refine ⟨⟨(e 0 (by omega)).trans l0, (e 1 (by omega)).trans l1, (e 2 (by omega)).trans l2, fun q q0 q1 => ?_, fun q q0 q1 => ?_, fun q q0 q1 => ?_⟩, ⟨(e 3 (by omega)).trans s1, (e 6 (by omega)).trans s2, fun b b0 b1 => ⟨(e _ (by omega)).trans (s3 b b0 b1).1, fun q => ⟨(e _ (by omega)).trans ((s3 b b0 b1).2 q).1, (e _ (by omega)).trans ((s3 b b0 b1).2 q).2⟩⟩, fun p p0 p1 => ⟨(e _ (by omega)).trans (s4 p p0 p1).1, (e _ (by omega)).trans (s4 p p0 p1).2⟩, fun s s0 s1 => (e _ (by omega)).trans (s5 s s0 s1), fun w x0 x1 => (e _ (by omega)).trans (s6 w x0 x1)⟩, ⟨(e 9 (by omega)).trans h1, rr_hsC H (fun h hh => Int.le_trans (hH.2 h hh).2.1.2 w1.2) (fun i i0 i1 => e i (by omega)) h2⟩, hm⟩
  · exact ⟨(e _ (by omega)).trans (l3 q q0 q1).1, (e _ (by omega)).trans (l3 q q0 q1).2⟩
  · exact ⟨(e _ (by omega)).trans (l4 q q0 q1).1, (e _ (by omega)).trans (l4 q q0 q1).2.1, (e _ (by omega)).trans (l4 q q0 q1).2.2⟩
  · exact ⟨(e _ (by omega)).trans (l5 q q0 q1).1, (e _ (by omega)).trans (l5 q q0 q1).2.1, (e _ (by omega)).trans (l5 q q0 q1).2.2.1, (e _ (by omega)).trans (l5 q q0 q1).2.2.2⟩
theorem gr_fe (e4 : ∀ i : Int, fr_g 4 i → B i = A i) (e5 : ∀ i : Int, fr_g 5 i → B i = A i) (e6 : ∀ i : Int, fr_g 6 i → B i = A i) (i : Int) (h : (0 ≤ i ∧ i ≤ 3) ∨ i = 6 ∨ i = 9 ∨ (14 ≤ i ∧ i < 162) ∨ 278 ≤ i) : B i = A i := by
  by_cases c5 : i = 9 ∨ 278 ≤ i
  · exact e5 i c5
  · by_cases c6 : i = 3 ∨ i = 6 ∨ (14 ≤ i ∧ i < 50 ∧ (i - 14) % 3 = 2) ∨ (50 ≤ i ∧ i < 114 ∧ (i - 50) % 4 = 3) ∨ (114 ≤ i ∧ i < 126) ∨ (126 ≤ i ∧ i < 162 ∧ ((i - 126) % 6 = 3 ∨ (i - 126) % 6 = 4))
    · exact e6 i c6
    · exact e4 i (show i = 0 ∨ i = 1 ∨ i = 2 ∨ (14 ≤ i ∧ i < 50 ∧ (i - 14) % 3 ≠ 2) ∨ (50 ≤ i ∧ i < 114 ∧ (i - 50) % 4 ≠ 3) ∨ (126 ≤ i ∧ i < 162 ∧ (i - 126) % 6 ≠ 3 ∧ (i - 126) % 6 ≠ 4) by omega)
theorem gx_1f (q : ∀ c : Nat, ((1 ≤ c ∧ c < 14) ∨ (15 ≤ c ∧ c < 25) ∨ c = 28) → I' c = I c) (e2 : ∀ i : Int, fr_g 2 i → I' 96 i = I 96 i) (e4 : ∀ i : Int, fr_g 4 i → I' 96 i = I 96 i) (e5 : ∀ i : Int, fr_g 5 i → I' 96 i = I 96 i) (e6 : ∀ i : Int, fr_g 6 i → I' 96 i = I 96 i) (h : gx_1 I) : gx_1 I' := by
  obtain ⟨f, H, h1, h2, h3⟩ := h
  have g : gj_e I I' := fun c c0 c1 => q c (by omega)
  refine ⟨f, H, gf_Te g h1, gc_Te (fun c c0 c1 => q c (by omega)) h2, ?_⟩
  rw [q 28 (by omega)]
  exact gr_Te g (gr_Tx h1.1.1 h1.2.2 (gr_fe e4 e5 e6) (gr_me h1.1.1.2.1.2 (fun i i0 i1 => e2 i ⟨i0, i1⟩) h3.2.2.2) h3)
theorem tz_195b {Q : Int → lf_Z → Prop} (h0 : 0 ≤ s.1 95 4) (hn : s.1 95 4 ≤ 300) (hb : cl_tp (s.1 99) (s.1 95 4)) (k4 : s.1 96 7 = 4 → Q (-1) s) (kk : s.1 96 7 ≠ 4 → ∀ (w : Int) (t : lf_Z), (∀ j : Int, j < 705 * s.1 96 7 → t.1 98 j = s.1 98 j) → (w ≠ -1 → w = s.1 96 7 ∧ rs_X (s.1 99) (s.1 95 4) (t.1 98) (705 * s.1 96 7) (tx_ps (s.1 99) (s.1 95 4) tx_g0 301 (lx_sk (s.1 99) (s.1 95 4) 0))) → (∀ i : Int, 24 < i → t.1 95 i = s.1 95 i) → Q w t) : fw_195 Q s := by
  unfold fw_195
  intro _
  refine ⟨fun c => tz_196 rfl h0 hn hb (fun v t tL tX => ?_), fun c => k4 (Classical.not_not.mp c)⟩
  have kk := kk c
  have t96 : t.1 96 = s.1 96 := tL.1.1 96 (by decide) (by decide) (by decide) (by decide) (by decide) (by decide)
  have t95 : ∀ i : Int, 24 < i → t.1 95 i = s.1 95 i := fun i hi => tL.1.2.1 i (by omega) (by omega)
  intro _
  have e5 : ∀ {x : Int}, ((lf_up t.1 95 5 x, t.2.1, t.2.2) : lf_Z).1 95 5 = x := zu_s
  have e96 : ∀ {x : Int}, ((lf_up t.1 95 5 x, t.2.1, t.2.2) : lf_Z).1 96 = t.1 96 := zu_r (by decide)
  refine ⟨fun y => ?_, fun y => ?_⟩
  · unfold fw_195_p37
    rw [e5]
    intro _
    refine ⟨fun w => absurd w y, fun _ => kk _ _ (fun j hj => ?_) (fun w => absurd rfl w) (fun i hi => ?_)⟩
    · exact (zu_c (by decide)).trans ((lf_up_c (by decide)).trans ((zu_c (by decide)).trans (tL.2 j hj)))
    · exact (zu_i (by omega)).trans ((lf_up_i (by omega)).trans ((zu_i (by omega)).trans (t95 i hi)))
  · have y := Classical.not_not.mp y
    unfold fw_195_p37
    rw [e5, e96, t96]
    intro _
    refine ⟨fun _ => kk _ _ (fun j hj => ?_) (fun _ => ⟨by omega, ?_⟩) (fun i hi => ?_), fun w => absurd y w⟩
    · exact (zu_c (by decide)).trans ((lf_up_c (by decide)).trans ((lf_up_c (by decide)).trans ((zu_c (by decide)).trans (tL.2 j hj))))
    · have e : ∀ x y z w : Int, ((lf_up (lf_up (lf_up (lf_up t.1 95 5 x) 95 6 y) 95 4 z) 96 7 w) : Nat → Int → Int) 98 = t.1 98 := fun x y z w => (lf_up_row (by decide)).trans ((lf_up_row (by decide)).trans ((lf_up_row (by decide)).trans (lf_up_row (by decide))))
      have X := tX y
      rw [← e v (-1) 0 (s.1 96 7 + 1)] at X
      exact X
    · exact (zu_c (by decide)).trans ((lf_up_i (by omega)).trans ((lf_up_i (by omega)).trans ((zu_i (by omega)).trans (t95 i hi))))
/-! feed, end -/
def gx_S25 (a1 a2 a3 a4 a5 : Int) (r : Int) (I : Nat → Int → Int) (P : Nat → Option Nat) : Prop := gx_E I (P 3) ∧ tp_FM a1 a2 a3 a4 a5 r I
def gx_R25 (a1 a2 a3 a4 a5 : Int) (p : Int → Prop) (I : Nat → Int → Int) (P : Nat → Option Nat) : Prop := gx_MP (gx_S25 a1 a2 a3 a4 a5) p I P
theorem gx_25 {a1 a2 a3 a4 a5 : Int} {Q : Int → lf_Z → Prop} (hI : iv_A s.1 s.2.2) (ba1 : (-2147483648) ≤ a1 ∧ a1 ≤ 2147483647) (ba2 : (-2147483648) ≤ a2 ∧ a2 ≤ 2147483647) (ba3 : (-2147483648) ≤ a3 ∧ a3 ≤ 2147483647) (ba4 : (-2147483648) ≤ a4 ∧ a4 ≤ 2147483647) (ba5 : (-2147483648) ≤ a5 ∧ a5 ≤ 2147483647) (hA : gx_A s.1 s.2.2) (hQ : ∀ (r : Int) (s' : lf_Z), iv_A s'.1 s'.2.2 → lf_fq [31, 32] 1000000 true s.1 s.2.2 s'.1 s'.2.2 → gx_S25 a1 a2 a3 a4 a5 r s'.1 s'.2.2 → ((-1) ≤ r ∧ r ≤ 300) → Q r s') : fm_25 a1 a2 a3 a4 a5 Q s := by
  obtain ⟨hE, hT⟩ := gx_AE hA
  refine tp_25 hI ba1 ba2 ba3 ba4 ba5 (fun r s' h1 h2 h3 h4 => hQ r s' h1 h2 ⟨?_, tp_f1 hT h2 h3⟩ h4)
  rw [h2.2.2.1 rfl]
  exact gx_Ec (fun c y => h2.1 c (gx_nc (by simp; omega))) (gx_9c (h2.1 95 rfl) hE.2.2.2.2.2.2.2) hE
theorem gx_192 {a1 a2 a3 a4 a5 : Int} {Q : Int → lf_Z → Prop} (hI : iv_A s.1 s.2.2) (ba1 : (-2147483648) ≤ a1 ∧ a1 ≤ 2147483647) (ba2 : (-2147483648) ≤ a2 ∧ a2 ≤ 2147483647) (ba3 : (-2147483648) ≤ a3 ∧ a3 ≤ 2147483647) (ba4 : (-2147483648) ≤ a4 ∧ a4 ≤ 2147483647) (ba5 : (-2147483648) ≤ a5 ∧ a5 ≤ 2147483647) (hM : gx_R25 a1 a2 a3 a4 a5 p s.1 s.2.2) (hQ : ∀ (r : Int) (s' : lf_Z), iv_A s'.1 s'.2.2 → lf_fq [95, 99] 1000000 true s.1 s.2.2 s'.1 s'.2.2 → (gx_p p r ∧ gx_A s'.1 s'.2.2) → ((-1) ≤ r ∧ r ≤ 300) → Q r s') : fm_192 a1 a2 a3 a4 a5 Q s := by
  obtain ⟨r0, hp, hE, hT⟩ := hM
  refine tp_192 hI ba1 ba2 ba3 ba4 ba5 (fun r s' h1 h2 h3 h4 => hQ r s' h1 h2 ⟨(tp_f2 hT h2 h3).1 ▸ hp, gx_EA ?_ (tp_f2 hT h2 h3).2⟩ h4)
  rw [h2.2.2.1 rfl]
  exact gx_Ec (fun c y => h2.1 c (gx_nc (by simp; omega))) (gx_9e hE.2.2.2.2.2.2.2 h3.2) hE
def gx_S27 (a1 : Int) (r : Int) (I : Nat → Int → Int) (P : Nat → Option Nat) : Prop := gx_E I (P 3) ∧ tp_EM a1 r I
def gx_R27 (a1 : Int) (p : Int → Prop) (I : Nat → Int → Int) (P : Nat → Option Nat) : Prop := gx_MP (gx_S27 a1) p I P
theorem gx_27 {a1 : Int} {Q : Int → lf_Z → Prop} (hI : iv_A s.1 s.2.2) (ba1 : (-2147483648) ≤ a1 ∧ a1 ≤ 2147483647) (hA : gx_A s.1 s.2.2) (hQ : ∀ (r : Int) (s' : lf_Z), iv_A s'.1 s'.2.2 → lf_fq [31] 1000000 true s.1 s.2.2 s'.1 s'.2.2 → gx_S27 a1 r s'.1 s'.2.2 → ((-1) ≤ r ∧ r ≤ 300) → Q r s') : fm_27 a1 Q s := by
  obtain ⟨hE, hT⟩ := gx_AE hA
  refine tp_27 hI ba1 (fun r s' h1 h2 h3 h4 => hQ r s' h1 h2 ⟨?_, tp_e1 hT h2 h3⟩ h4)
  rw [h2.2.2.1 rfl]
  exact gx_Ec (fun c y => h2.1 c (gx_nc (by simp; omega))) (gx_9c (h2.1 95 rfl) hE.2.2.2.2.2.2.2) hE
theorem gx_194 {a1 : Int} {Q : Int → lf_Z → Prop} (hI : iv_A s.1 s.2.2) (ba1 : (-2147483648) ≤ a1 ∧ a1 ≤ 2147483647) (hM : gx_R27 a1 p s.1 s.2.2) (hQ : ∀ (r : Int) (s' : lf_Z), iv_A s'.1 s'.2.2 → lf_fq [95] 1000000 true s.1 s.2.2 s'.1 s'.2.2 → (gx_p p r ∧ gx_A s'.1 s'.2.2) → ((-1) ≤ r ∧ r ≤ 300) → Q r s') : fm_194 a1 Q s := by
  obtain ⟨r0, hp, hE, hT⟩ := hM
  refine tp_194 hI ba1 (fun r s' h1 h2 h3 h4 => hQ r s' h1 h2 ⟨(tp_e2 hT h2 h3).1 ▸ hp, gx_EA ?_ (tp_e2 hT h2 h3).2⟩ h4)
  rw [h2.2.2.1 rfl]
  exact gx_Ec (fun c y => h2.1 c (gx_nc (by simp; omega))) (gx_9e hE.2.2.2.2.2.2.2 h3.2) hE
/-! by -/
def gx_S60 (a1 : Int) (r : Int) (I : Nat → Int → Int) (P : Nat → Option Nat) : Prop := ∃ z : Bool, r = lf_b z ∧ gx_E I (P 3) ∧ tp_BM a1 z I
def gx_R60 (a1 : Int) (p : Int → Prop) (I : Nat → Int → Int) (P : Nat → Option Nat) : Prop := gx_MP (gx_S60 a1) p I P
theorem gx_60 {a1 : Int} {Q : Bool → lf_Z → Prop} (hI : iv_A s.1 s.2.2) (ba1 : (-2147483648) ≤ a1 ∧ a1 ≤ 2147483647) (hA : gx_A s.1 s.2.2) (hQ : ∀ (z : Bool) (s' : lf_Z), iv_A s'.1 s'.2.2 → lf_fq [0] 1000000 false s.1 s.2.2 s'.1 s'.2.2 → gx_S60 a1 (lf_b z) s'.1 s'.2.2 → Q z s') : fm_60 a1 Q s := by
  obtain ⟨hE, hT⟩ := gx_AE hA
  refine cj_60 (Q1 := fun z s' => iv_A s'.1 s'.2.2 ∧ lf_fq [0] 1000000 false s.1 s.2.2 s'.1 s'.2.2) (Q2 := fun z t => ((-1 ≤ a1 ∧ a1 ≤ s.1 0 11 - 1) ∧ z = true ∧ t = (lf_up s.1 0 12 a1, s.2.1, lf_ur s.2.2 3 (if 0 ≤ a1 ∧ a1 < s.1 0 11 then some a1.toNat else none))) ∨ (¬ (-1 ≤ a1 ∧ a1 ≤ s.1 0 11 - 1) ∧ z = false ∧ t = s)) (fun z s' h1 h2 => hQ z s' h1.1 h1.2 ⟨z, rfl, ?_, ?_⟩) (sm_60 hI ba1 (fun z s' h1 h2 => ⟨h1, h2⟩)) ?_
  · obtain ⟨e1, e2, e3, e4, e5⟩ := hE
    rcases h2 with ⟨q, _, ht⟩ | ⟨_, _, ht⟩
    · have y : ∀ c : Nat, c ≠ 0 → s'.1 c = s.1 c := fun c hc => by rw [ht]; exact zu_r hc
      have y0 : ∀ i : Int, i ≠ 12 → s'.1 0 i = s.1 0 i := fun i hi => by rw [ht]; exact zu_i hi
      have y1 : s'.1 0 12 = a1 := by rw [ht]; exact zu_s
      have y2 : s'.2.2 3 = (if 0 ≤ a1 then some a1.toNat else none) := by
        rw [ht]
        show (if 0 ≤ a1 ∧ a1 < s.1 0 11 then some a1.toNat else none) = _
        by_cases c : 0 ≤ a1
        · rw [if_pos ⟨c, by omega⟩, if_pos c]
        · rw [if_neg (fun m => c m.1), if_neg c]
      obtain ⟨x1, x2, x3, x4, x5⟩ := e4
      refine ⟨gx_1c (fun c hc => y c (by omega)) e1, gx_2c (y 1 (by decide)) (y 78 (by decide)) e2, gx_ic (fun c hc => y c (by omega)) e3, ?_, tr_Ac (fun c hc => y c (by omega)) (fun i _ => by rw [y 96 (by decide)]) e5.1, gx_7c (fun c hc => y c (by omega)) (by rw [y 1 (by decide)]; exact Int.le_refl _) (fun i _ => by rw [y 96 (by decide)]) e5.2.1, gx_8c (fun c hc => y c (by omega)) e5.2.2.1, gx_9c (y 95 (by decide)) e5.2.2.2⟩
      unfold gx_x
      rw [y0 11 (by decide), y1, y 78 (by decide), y 98 (by decide), y2]
      exact ⟨x1, fun k hk => gx_tc (fun c c0 c1 => y (35 + c) (by omega)) (fun _ _ _ => rfl) (x2 k hk), ⟨q.1, by omega⟩, rfl, x5⟩
    · rw [ht]; exact ⟨e1, e2, e3, e4, e5⟩
  · refine tp_b1 hT h1.2 ?_
    rcases h2 with ⟨q, hz, ht⟩ | ⟨q, hz, ht⟩
    · exact ⟨Or.inl ⟨q, by rw [ht]; exact zu_s, hz⟩, by rw [ht]; exact zu_i (by decide)⟩
    · exact ⟨Or.inr ⟨q, by rw [ht], hz⟩, by rw [ht]⟩
  · unfold fw_60
    refine fl_15 ⟨fun q => ib_61 hE.2.2.2.1.1.2 (Or.inl ⟨bd_t q, rfl, rfl⟩), fun q => Or.inr ⟨bd_f q, rfl, rfl⟩⟩
theorem gx_237 {a1 : Int} {Q : Bool → lf_Z → Prop} (hI : iv_A s.1 s.2.2) (ba1 : (-2147483648) ≤ a1 ∧ a1 ≤ 2147483647) (hM : gx_R60 a1 p s.1 s.2.2) (hQ : ∀ (z : Bool) (s' : lf_Z), iv_A s'.1 s'.2.2 → lf_fq [96, 1003] 8 true s.1 s.2.2 s'.1 s'.2.2 → (gx_p p (lf_b z) ∧ gx_A s'.1 s'.2.2) → Q z s') : fm_237 a1 Q s := by
  obtain ⟨r0, hp, z0, hz, hE, hT⟩ := hM
  refine tp_237 hI ba1 (fun z s' h1 h2 h3 => hQ z s' h1 h2 ⟨?_, gx_EA ?_ (tp_b2 hT h2 h3).2⟩)
  · rw [← (tp_b2 hT h2 h3).1, ← hz]; exact hp
  · rw [h2.2.2.1 rfl]
    have q : ∀ c : Nat, c < 96 ∨ c = 97 ∨ c = 98 → s'.1 c = s.1 c := fun c y => h2.1 c (gx_nc (by simp; omega))
    obtain ⟨h1, h2', h3, h4, h5, h6, h7, h9⟩ := hE
    have fr : ∀ k : Nat, (k ≠ 3 ∧ k < 7) → ∀ i, fr_g k i → s'.1 96 i = s.1 96 i := fun k hk => h2.2.2.2 k (gx_nc (by simp; omega))
    refine ⟨?_, gx_2c (q 1 (by omega)) (q 78 (by omega)) h2', gx_ic (fun c y => q c (by omega)) h3, gx_xc (fun c y => q c (by omega)) h4, tr_Ac (fun c y => q c (by omega)) (fr 0 (by decide)) h5, gx_7c (fun c y => q c (by omega)) (by rw [q 1 (by omega)]; exact Int.le_refl _) (fr 1 (by decide)) h6, gx_8c (fun c y => q c (by omega)) h7, gx_9c (q 95 (by omega)) h9⟩
    exact gx_1f (fun c y => q c (by omega)) (fr 2 (by decide)) (fr 4 (by decide)) (fr 5 (by decide)) (fr 6 (by decide)) h1
/-! text -/
theorem tx_cl : ∀ (k : Nat) (m : Int) (o : Int → Bool) (b : Int), (tx_lp F n g k m o b).1 = 0 → ∀ x ∈ tx_ps F n g k b, (ds_cl F n g x).1 = 0 := by
  intro k
  induction k with
  | zero => intro m o b _ x hx; exact absurd hx (by show x ∉ ([] : List Int); simp)
  | succ k ih =>
    intro m o b h x hx
    have h : (if lx_T F n b = 0 then (0, b) else if tx_ok F n m o b ≠ 0 then (tx_ok F n m o b, b) else ds_bd (ds_cl F n g b) (tx_lp F n g k (m + 1) (tx_o F n o b))).1 = 0 := h
    have hx : x ∈ (if lx_T F n b = 0 then [] else b :: tx_ps F n g k (ds_cl F n g b).2) := hx
    by_cases c0 : lx_T F n b = 0
    · rw [if_pos c0] at hx; simp at hx
    · rw [if_neg c0] at hx h
      by_cases c1 : tx_ok F n m o b ≠ 0
      · rw [if_pos c1] at h; exact absurd h c1
      · rw [if_neg c1] at h
        have y := ds_bdZ h
        rcases List.mem_cons.mp hx with e | hx
        · rw [e]; exact y.1
        · exact ih _ _ _ y.2 x hx
theorem ds_numR {lo hi : Int} (h : (ds_num F n lo hi b).1 = 0) : lo ≤ lx_V F n b ∧ lx_V F n b ≤ hi := by
  unfold ds_num at h
  split at h
  · split at h
    · rename_i q; exact q
    · exact absurd h (show (2 : Int) ≠ 0 by decide)
  · exact absurd h (show (1 : Int) ≠ 0 by decide)
theorem tx_26 (h : (tx_v F n g).1 = 0) : ∀ b ∈ tx_ps F n g 301 (lx_sk F n 0), cs_w F n b = 26 → 0 ≤ cs_v F n b ∧ cs_v F n b ≤ 9 := by
  intro b hb hw
  have hw : lx_T F n b = 26 := hw
  have y := tx_cl 301 0 (fun _ => false) (lx_sk F n 0) h b hb
  unfold ds_cl at y
  have y := (ds_bdZ y).1
  rw [if_pos (by omega), hw] at y
  unfold ds_deed at y
  rw [if_neg (by decide)] at y
  have y := ds_numR (ds_bdZ (ds_bdZ y).1).1
  unfold cs_v
  rw [if_pos (by omega)]
  have e1 : tx_sh ((26 - 23) * 5) = 0 := by decide
  have e2 : tx_sh ((26 - 23) * 5 + 1) = 9 := by decide
  rw [e1, e2] at y
  exact y
def gx_D28 (I : Nat → Int → Int) : List Int := tx_ps (I 99) (I 95 4) tx_g0 301 (lx_sk (I 99) (I 95 4) 0)
def gx_xt (r : Int) (I : Nat → Int → Int) (o : Option Nat) : Prop := (0 ≤ I 96 7 ∧ I 96 7 ≤ 4) ∧ (∀ k : Nat, (k : Int) < I 96 7 → gx_t (gx_C I) (I 98) k) ∧ (-1 ≤ I 0 12 ∧ I 0 12 < I 96 7) ∧ o = (if 0 ≤ I 0 12 then some (I 0 12).toNat else none) ∧ ((0 ≤ I 78 3 ∧ I 78 3 ≤ I 96 7) ∧ (-1 ≤ I 78 4 ∧ I 78 4 < I 78 3))
  ∧ (r ≠ -1 → (I 0 11 = I 96 7 + 1 ∧ I 96 7 < 4) ∧ cs_F (I 99) (I 95 4) tx_g0 (gx_C I) (I 96 7).toNat (gx_D28 I) ∧ gx_C I (7 * (I 96 7).toNat) 1 ≤ 300 ∧ ∀ b ∈ gx_D28 I, cs_w (I 99) (I 95 4) b = 26 → 0 ≤ cs_v (I 99) (I 95 4) b ∧ cs_v (I 99) (I 95 4) b ≤ 9) ∧ (r = -1 → I 0 11 = I 96 7)
def gx_S28 (r : Int) (I : Nat → Int → Int) (P : Nat → Option Nat) : Prop := (gx_1 I ∧ gx_2 I ∧ gx_i I ∧ tr_A I ∧ gx_7 I ∧ gx_8 I ∧ gx_9 I) ∧ tp_TM r I ∧ gx_xt r I (P 3)
def gx_R28 (p : Int → Prop) (I : Nat → Int → Int) (P : Nat → Option Nat) : Prop := gx_MP gx_S28 p I P
theorem gx_28 {Q : Int → lf_Z → Prop} (hI : iv_A s.1 s.2.2) (hA : gx_A s.1 s.2.2) (hQ : ∀ (r : Int) (s' : lf_Z), iv_A s'.1 s'.2.2 → lf_fq [0, 31, 33, 35, 36, 37, 38, 39, 40, 41, 42, 43, 44, 45, 46, 47, 48, 49, 50, 51, 52, 53, 54, 55, 56, 57, 58, 59, 60, 61, 62] 1000000 false s.1 s.2.2 s'.1 s'.2.2 → gx_S28 r s'.1 s'.2.2 → ((-1) ≤ r ∧ r ≤ 3) → Q r s') : fm_28 Q s := by
  obtain ⟨⟨e1, e2, e3, e4, e5, e6, e7, e8⟩, hT⟩ := gx_AE hA
  have hT' := hT
  obtain ⟨t1, t2, t3, t4, _⟩ := hT'
  have r31 : 0 ≤ s.1 31 1 ∧ s.1 31 1 ≤ 300 := iv_r31_1 hI
  refine cj_28 (Q1 := fun r s' => iv_A s'.1 s'.2.2 ∧ lf_fq [0, 31, 33, 35, 36, 37, 38, 39, 40, 41, 42, 43, 44, 45, 46, 47, 48, 49, 50, 51, 52, 53, 54, 55, 56, 57, 58, 59, 60, 61, 62] 1000000 false s.1 s.2.2 s'.1 s'.2.2 ∧ (tp_tx (tx_v (s.1 32) (s.1 31 1) (fun _ => -1)) (s.1 0 11) (s'.1 31 1) (s'.1 31 2) (s'.1 31 3) (s'.1 0 11) r (s.1 31 1) (s.1 31 2) (s.1 31 3) ∧ s'.1 0 12 = s.1 0 12) ∧ ((-1) ≤ r ∧ r ≤ 3))
    (Q2 := fun r t => (s.1 0 11 < 4 → (∀ c : Nat, 35 ≤ c → (c < 35 + 7 * (s.1 0 11).toNat ∨ 42 + 7 * (s.1 0 11).toNat ≤ c) → t.1 c = s.1 c) ∧ t.2.2 3 = s.2.2 3 ∧ (r ≠ -1 → r = s.1 0 11 ∧ cs_F (s.1 32) (s.1 31 1) tx_g0 (gx_C t.1) (s.1 0 11).toNat (tx_ps (s.1 32) (s.1 31 1) tx_g0 301 (lx_sk (s.1 32) (s.1 31 1) 0)) ∧ t.1 (35 + 7 * (s.1 0 11).toNat) 1 ≤ 300)) ∧ (¬ s.1 0 11 < 4 → r = -1 ∧ t = s)) (fun r s' h1 h2 => hQ r s' h1.1 h1.2.1 ⟨?_, tp_t1 hT h1.2.1 h1.2.2.1, ?_⟩ h1.2.2.2) (tp_28 hI (fun r s' h1 h2 h3 h4 => ⟨h1, h2, h3, h4⟩)) ?_
  · have q : ∀ c : Nat, ((0 < c ∧ c < 31) ∨ (63 ≤ c ∧ c < 1000)) → s'.1 c = s.1 c := fun c y => h1.2.1.1 c (gx_nc (by simp; omega))
    exact ⟨gx_1c (fun c y => q c (by omega)) e1, gx_2c (q 1 (by omega)) (q 78 (by omega)) e2, gx_ic (fun c y => q c (by omega)) e3, tr_Ac (fun c y => q c (by omega)) (fun i _ => by rw [q 96 (by omega)]) e5, gx_7c (fun c y => q c (by omega)) (by rw [q 1 (by omega)]; exact Int.le_refl _) (fun i _ => by rw [q 96 (by omega)]) e6, gx_8c (fun c y => q c (by omega)) e7, gx_9c (q 95 (by omega)) e8⟩
  · have q : ∀ c : Nat, (63 ≤ c ∧ c < 1000) → s'.1 c = s.1 c := fun c y => h1.2.1.1 c (gx_nc (by simp; omega))
    obtain ⟨x1, x2, x3, x4, x5⟩ := e4
    obtain ⟨k1, k2⟩ := h1.2.2.1
    obtain ⟨m1, m2⟩ := h2
    unfold gx_xt gx_D28
    rw [q 96 (by omega), q 98 (by omega), q 78 (by omega), q 99 (by omega), q 95 (by omega), k2, ← t1, ← t2, ← t3]
    by_cases c4 : s.1 0 11 < 4
    · obtain ⟨m3, m4, m5⟩ := m1 c4
      refine ⟨x1, fun k hk => gx_tc (fun c c0 c1 => m3 (35 + c) (by omega) (Or.inl (by omega))) (fun _ _ _ => rfl) (x2 k hk), x3, by rw [m4]; exact x4, x5, fun ne => ?_, fun eq => ?_⟩
      · obtain ⟨n1, n2, n3⟩ := m5 ne
        rcases k1 with ⟨_, _, _, v0, v1⟩ | ⟨v, _⟩
        · by_cases y : (tx_v (s.1 32) (s.1 31 1) (fun _ => -1)).1 = 0
          · exact ⟨⟨(v0 y).2.2, c4⟩, n2, n3, tx_26 y⟩
          · exact absurd (v1 y).2.1 ne
        · exact absurd c4 v
      · rcases k1 with ⟨_, _, _, v0, v1⟩ | ⟨v, _⟩
        · by_cases y : (tx_v (s.1 32) (s.1 31 1) (fun _ => -1)).1 = 0
          · have := (v0 y).2.1; omega
          · exact (v1 y).2.2
        · exact absurd c4 v
    · obtain ⟨m3, m4⟩ := m2 c4
      refine ⟨x1, fun k hk => by rw [m4]; exact x2 k hk, x3, by rw [m4]; exact x4, x5, fun ne => absurd m3 ne, fun _ => by rw [m4]⟩
  · refine fy_28 (fun i _ _ => iv_r32 hI i) r31 (fun q => ⟨fun q' => absurd q' q, fun _ => ⟨rfl, rfl⟩⟩) (fun q _ zz t v h1 h2 h3 h4 => ⟨fun _ => ⟨h1, by rw [h2]; rfl, fun ne => ?_⟩, fun q' => absurd q q'⟩)
    cases zz with
    | false => exact absurd (h4 rfl) ne
    | true => exact ⟨(h3 rfl).1, (h3 rfl).2.1, (h3 rfl).2.2⟩
theorem gx_195 {Q : Int → lf_Z → Prop} (hI : iv_A s.1 s.2.2) (hM : gx_R28 p s.1 s.2.2) (hQ : ∀ (r : Int) (s' : lf_Z), iv_A s'.1 s'.2.2 → lf_fq [95, 96, 98, 100, 101, 102, 103, 1003] 7 true s.1 s.2.2 s'.1 s'.2.2 → (gx_p p r ∧ gx_A s'.1 s'.2.2) → ((-1) ≤ r ∧ r ≤ 4) → Q r s') : fm_195 Q s := by
  obtain ⟨r0, hp, ⟨e1, e2, e3, e5, e6, e7, e8⟩, hT, hx⟩ := hM
  have b4 : 0 ≤ s.1 95 4 ∧ s.1 95 4 ≤ 300 := iv_r95_4 hI
  refine cj_195 (Q1 := fun r s' => iv_A s'.1 s'.2.2 ∧ lf_fq [95, 96, 98, 100, 101, 102, 103, 1003] 7 true s.1 s.2.2 s'.1 s'.2.2 ∧ (tp_tx (tx_v (s.1 99) (s.1 95 4) (fun _ => -1)) (s.1 96 7) (s'.1 95 4) (s'.1 95 5) (s'.1 95 6) (s'.1 96 7) r (s.1 95 4) (s.1 95 5) (s.1 95 6) ∧ s'.1 96 8 = s.1 96 8) ∧ ((-1) ≤ r ∧ r ≤ 4))
    (Q2 := fun r t => (s.1 96 7 = 4 → r = -1 ∧ t = s) ∧ (s.1 96 7 ≠ 4 → (∀ j : Int, j < 705 * s.1 96 7 → t.1 98 j = s.1 98 j) ∧ (∀ i : Int, 24 < i → t.1 95 i = s.1 95 i) ∧ (r ≠ -1 → r = s.1 96 7 ∧ rs_X (s.1 99) (s.1 95 4) (t.1 98) (705 * s.1 96 7) (gx_D28 s.1)))) (fun r s' h1 h2 => hQ r s' h1.1 h1.2.1 ⟨(tp_t2 hT h1.2.1 h1.2.2.1).1 ▸ hp, ?_⟩ h1.2.2.2) (tp_195 hI (fun r s' h1 h2 h3 h4 => ⟨h1, h2, h3, h4⟩)) ?_
  · have ht := tp_t2 hT h1.2.1 h1.2.2.1
    have q : ∀ c : Nat, (c < 95 ∨ c = 97 ∨ c = 99) → s'.1 c = s.1 c := fun c y => h1.2.1.1 c (gx_nc (by simp; omega))
    have fr : ∀ k : Nat, (k ≠ 3 ∧ k < 7) → ∀ i, fr_g k i → s'.1 96 i = s.1 96 i := fun k hk => h1.2.1.2.2.2 k (gx_nc (by simp; omega))
    refine gx_EA ⟨gx_1f (fun c y => q c (by omega)) (fr 2 (by decide)) (fr 4 (by decide)) (fr 5 (by decide)) (fr 6 (by decide)) e1, gx_2c (q 1 (by omega)) (q 78 (by omega)) e2, gx_ic (fun c y => q c (by omega)) e3, ?_, tr_Ac (fun c y => q c (by omega)) (fr 0 (by decide)) e5, gx_7c (fun c y => q c (by omega)) (by rw [q 1 (by omega)]; exact Int.le_refl _) (fr 1 (by decide)) e6, gx_8c (fun c y => q c (by omega)) e7, ?_⟩ ht.2
    · obtain ⟨x1, x2, x3, x4, ⟨x5, x6⟩, x7, x8⟩ := hx
      obtain ⟨m1, m2⟩ := h2
      have eC : ∀ c : Nat, c ≤ 34 → gx_C s'.1 c = gx_C s.1 c := fun c hc => q (35 + c) (by omega)
      unfold gx_x
      rw [q 0 (by omega), q 78 (by omega), h1.2.1.2.2.1 rfl]
      by_cases c4 : s.1 96 7 = 4
      · obtain ⟨m3, m4⟩ := m1 c4
        have e11 : s.1 0 11 = s.1 96 7 := x8 (by rw [ht.1]; exact m3)
        rw [e11, m4]
        exact ⟨x1, x2, x3, x4, x5, x6⟩
      · obtain ⟨m3, _, m4⟩ := m2 c4
        have old : ∀ k : Nat, (k : Int) < s.1 96 7 → gx_t (gx_C s'.1) (s'.1 98) k := fun k hk => gx_tc (fun c c0 c1 => eC c (by omega)) (fun i i0 i1 => m3 i (by omega)) (x2 k hk)
        by_cases y : r = -1
        · have e11 : s.1 0 11 = s.1 96 7 := x8 (by rw [ht.1]; exact y)
          rw [e11]
          exact ⟨x1, old, x3, x4, x5, x6⟩
        · obtain ⟨n1, n2⟩ := m4 y
          obtain ⟨⟨n3, n4⟩, n5, n6, n7⟩ := x7 (by rw [ht.1]; exact y)
          rw [n3]
          refine ⟨⟨by omega, by omega⟩, fun k hk => ?_, ⟨x3.1, by omega⟩, x4, ⟨x5.1, by omega⟩, x6⟩
          by_cases yk : (k : Int) < s.1 96 7
          · exact old k yk
          · have ek : (s.1 96 7).toNat = k := by omega
            have ek2 : s.1 96 7 = (k : Int) := by omega
            rw [ek] at n5 n6
            rw [ek2] at n2
            exact ⟨s.1 99, s.1 95 4, gx_D28 s.1, cs_FC (fun c c0 c1 => eC c (by omega)) n5, by rw [eC (7 * k) (by omega)]; exact n6, n2, n7⟩
    · by_cases c4 : s.1 96 7 = 4
      · rw [(h2.1 c4).2]; exact e8
      · have y := (h2.2 c4).2.1
        unfold gx_9 zq_9 at *
        rw [y 29 (by decide), y 31 (by decide), y 30 (by decide)]
        exact e8
  · refine tz_195b b4.1 b4.2 (fun i _ _ => iv_r99 hI i) (fun q => ⟨fun _ => ⟨rfl, rfl⟩, fun q' => absurd q q'⟩) (fun q w t h1 h2 h3 => ⟨fun q' => absurd q' q, fun _ => ⟨h1, h3, fun ne => h2 ne⟩⟩)
end GN
/-! sights, mending, tries, image, a text played: within the law -/
section GP
variable {J K M : Nat → Int → Int} {s t u : lf_Z} {f f' g A B sv sw F S S' : Int → Int} {H H' G : List rr_H} {X : mn_X} {I I' C C' : Nat → Int → Int} {P P' : Nat → Option Nat} {o : Option Nat} {a b c d e r j n w x : Int} {T T' : Int → Int} {D : List Int} {L : List (Int × Int × Int)} {l : List Nat} {bb : Bool} {p : Int → Prop} {z : Bool}
/-! seen -/
def sn_ok (n0 a b : Int) : Prop := (0 ≤ a ∧ a < n0) ∧ 0 ≤ b ∧ b ≤ 60
def sn_T (n0 a b c : Int) (S M : Int → Int) (c' : Int) (S' M' : Int → Int) (r : Int) : Prop := (a = -1 ∧ r = 0 ∧ c' = 0) ∨ (a ≠ -1 ∧ sn_ok n0 a b ∧ c < 6 ∧ c' = c + 1 ∧ S' = ds_u1 S c a ∧ M' = ds_u1 M c b ∧ r = c + 1) ∨ (a ≠ -1 ∧ (¬ sn_ok n0 a b ∨ ¬ c < 6) ∧ c' = c ∧ S' = S ∧ M' = M ∧ r = -2)
def sn_R (n0 a b : Int) (A B : Int → Int) (r : Int) : Prop := (a = -1 ∧ r = 0 ∧ B 10 = 0) ∨ (a ≠ -1 ∧ sn_ok n0 a b ∧ A 10 ≠ 6 ∧ B 10 = A 10 + 1 ∧ B (162 + 2 * A 10) = a ∧ B (162 + 2 * A 10 + 1) = b ∧ (∀ i : Int, i ≠ 10 → i ≠ 162 + 2 * A 10 → i ≠ 162 + 2 * A 10 + 1 → B i = A i) ∧ r = A 10 + 1) ∨ (a ≠ -1 ∧ (¬ sn_ok n0 a b ∨ A 10 = 6) ∧ B = A ∧ r = -2)
theorem sn_C {n0 c' : Int} {S M S' M' : Int → Int} {r' : Int} (h : gx_s n0 c S M A) (k : sn_T n0 a b c S M c' S' M' r) (m : sn_R n0 a b A B r') : r = r' ∧ gx_s n0 c' S' M' B := by
  obtain ⟨⟨h1, h2, h3⟩, h4⟩ := h
  rcases k with ⟨k0, k1, k2⟩ | ⟨k0, k1, k2, k3, k4, k5, k6⟩ | ⟨k0, k1, k2, k3, k4, k5⟩
  · rcases m with ⟨_, m1, m2⟩ | ⟨m0, _⟩ | ⟨m0, _⟩
    · exact ⟨by omega, ⟨by omega, by omega, by omega⟩, fun q q0 q1 => by omega⟩
    · exact absurd k0 m0
    · exact absurd k0 m0
  · rcases m with ⟨m0, _⟩ | ⟨_, m1, m2, m3, m4, m5, m6, m7⟩ | ⟨_, m1, _⟩
    · exact absurd m0 k0
    · refine ⟨by omega, ⟨by omega, by omega, by omega⟩, fun q q0 q1 => ?_⟩
      rw [k4, k5]
      unfold ds_u1
      by_cases y : q = c
      · rw [if_pos y, if_pos y, y, h1]
        exact ⟨⟨m4.symm, m5.symm⟩, k1.1, k1.2⟩
      · rw [if_neg y, if_neg y, m6 _ (by omega) (by omega) (by omega), m6 _ (by omega) (by omega) (by omega)]
        exact h4 q q0 (by omega)
    · rcases m1 with m1 | m1
      · exact absurd k1 m1
      · omega
  · rcases m with ⟨m0, _⟩ | ⟨_, m1, m2, _⟩ | ⟨_, m1, m2, m3⟩
    · exact absurd m0 k0
    · rcases k1 with k1 | k1
      · exact absurd m1 k1
      · omega
    · rw [k2, k3, k4, m2]
      exact ⟨by omega, ⟨h1, h2, h3⟩, h4⟩
def gx_S145 (a1 a2 : Int) (r : Int) (I : Nat → Int → Int) (P : Nat → Option Nat) : Prop := (gx_1 I ∧ gx_2 I ∧ gx_i I ∧ gx_x I (P 3) ∧ tp_A I ∧ tr_A I ∧ gx_8 I ∧ gx_9 I) ∧ ∃ (c : Int) (S M : Int → Int), gx_s (I 1 0) c S M (I 96) ∧ sn_T (I 1 0) a1 a2 c S M (I 25 2) (I 26) (I 27) r
def gx_R145 (a1 a2 : Int) (p : Int → Prop) (I : Nat → Int → Int) (P : Nat → Option Nat) : Prop := gx_MP (gx_S145 a1 a2) p I P
theorem gx_145 {a1 a2 : Int} {Q : Int → lf_Z → Prop} (hI : iv_A s.1 s.2.2) (ba1 : (-2147483648) ≤ a1 ∧ a1 ≤ 2147483647) (ba2 : (-2147483648) ≤ a2 ∧ a2 ≤ 2147483647) (hA : gx_A s.1 s.2.2) (hQ : ∀ (r : Int) (s' : lf_Z), iv_A s'.1 s'.2.2 → lf_fq [25, 26, 27] 1000000 true s.1 s.2.2 s'.1 s'.2.2 → gx_S145 a1 a2 r s'.1 s'.2.2 → ((-2) ≤ r ∧ r ≤ 6) → Q r s') : fm_145 a1 a2 Q s := by
  obtain ⟨h1, h2, h3, h4, h5, h6, h7, h8, h9⟩ := hA
  refine cj_145 (Q1 := fun r s' => iv_A s'.1 s'.2.2 ∧ lf_fq [25, 26, 27] 1000000 true s.1 s.2.2 s'.1 s'.2.2 ∧ ((-2) ≤ r ∧ r ≤ 6)) (Q2 := fun r t => sn_T (s.1 1 0) a1 a2 (s.1 25 2) (s.1 26) (s.1 27) (t.1 25 2) (t.1 26) (t.1 27) r) (fun r s' k1 k2 => hQ r s' k1.1 k1.2.1 ⟨?_, s.1 25 2, s.1 26, s.1 27, ?_, ?_⟩ k1.2.2) (sm_145 hI ba1 ba2 (fun r s' h1 h2 h3 => ⟨h1, h2, h3⟩)) ?_
  · have q : ∀ c : Nat, (c < 25 ∨ (27 < c ∧ c < 1000)) → s'.1 c = s.1 c := fun c y => k1.2.1.1 c (gx_nc (by simp; omega))
    rw [k1.2.1.2.2.1 rfl]
    exact ⟨gx_1c (fun c y => q c (by omega)) h1, gx_2c (q 1 (by omega)) (q 78 (by omega)) h2, gx_ic (fun c y => q c (by omega)) h3, gx_xc (fun c y => q c (by omega)) h4, tp_Ac (fun c y => q c (by omega)) (fun i _ _ => by rw [q 95 (by omega)]) (by rw [q 96 (by omega)]) (by rw [q 96 (by omega)]) h5, tr_Ac (fun c y => q c (by omega)) (fun i _ => by rw [q 96 (by omega)]) h6, gx_8c (fun c y => q c (by omega)) h8, gx_9c (q 95 (by omega)) h9⟩
  · rw [k1.2.1.1 1 rfl, k1.2.1.1 96 rfl]; exact h7
  · rw [k1.2.1.1 1 rfl]; exact k2
  · unfold fw_145
    intro _
    refine ⟨fun ne => fl_18 ⟨fun q => Or.inr (Or.inr ⟨ne, Or.inl (fun y => bd_f q y.1), rfl, rfl, rfl, rfl⟩), fun q => fl_15 ⟨fun q2 => ?_, fun q2 => Or.inr (Or.inr ⟨ne, Or.inl (fun y => bd_f q2 y.2), rfl, rfl, rfl, rfl⟩)⟩⟩, fun ne => Or.inl ⟨Classical.not_not.mp ne, rfl, zu_s⟩⟩
    unfold fw_146
    intro _
    refine ⟨fun q3 _ => Or.inr (Or.inl ⟨ne, ⟨bd_t q, bd_t q2⟩, q3, zu_s, ?_, ?_, rfl⟩), fun q3 => Or.inr (Or.inr ⟨ne, Or.inr q3, rfl, rfl, rfl, rfl⟩)⟩
    · exact (zu_r (by decide)).trans ((lf_up_row (by decide)).trans tp_row)
    · exact (zu_r (by decide)).trans (tp_row.trans (by rw [lf_up_row (by decide)]))
theorem gx_305 {a1 a2 : Int} {Q : Int → lf_Z → Prop} (hI : iv_A s.1 s.2.2) (ba1 : (-2147483648) ≤ a1 ∧ a1 ≤ 2147483647) (ba2 : (-2147483648) ≤ a2 ∧ a2 ≤ 2147483647) (hM : gx_R145 a1 a2 p s.1 s.2.2) (hQ : ∀ (r : Int) (s' : lf_Z), iv_A s'.1 s'.2.2 → lf_fq [96, 1001] 10 true s.1 s.2.2 s'.1 s'.2.2 → (gx_p p r ∧ gx_A s'.1 s'.2.2) → ((-2) ≤ r ∧ r ≤ 6) → Q r s') : fm_305 a1 a2 Q s := by
  obtain ⟨r0, hp, ⟨h1, h2, h3, h4, h5, h6, h8, h9⟩, c, S, M, hs, hT⟩ := hM
  have e0 : s.1 96 0 = s.1 1 0 := by obtain ⟨f, H, _, _, hR⟩ := h1; exact hR.1.1
  refine cj_305 (Q1 := fun r s' => iv_A s'.1 s'.2.2 ∧ lf_fq [96, 1001] 10 true s.1 s.2.2 s'.1 s'.2.2 ∧ ((-2) ≤ r ∧ r ≤ 6)) (Q2 := fun r t => sn_R (s.1 1 0) a1 a2 (s.1 96) (t.1 96) r) (fun r s' k1 k2 => hQ r s' k1.1 k1.2.1 ⟨(sn_C hs hT k2).1 ▸ hp, ?_⟩ k1.2.2) (sm_305 hI ba1 ba2 (fun r s' h1 h2 h3 => ⟨h1, h2, h3⟩)) ?_
  · have q : ∀ c : Nat, (c < 96 ∨ (96 < c ∧ c < 1000)) → s'.1 c = s.1 c := fun c y => k1.2.1.1 c (gx_nc (by simp; omega))
    have fr : ∀ k : Nat, (k ≠ 1 ∧ k < 7) → ∀ i, fr_g k i → s'.1 96 i = s.1 96 i := fun k hk => k1.2.1.2.2.2 k (gx_nc (by simp; omega))
    refine ⟨gx_1f (fun c y => q c (by omega)) (fr 2 (by decide)) (fr 4 (by decide)) (fr 5 (by decide)) (fr 6 (by decide)) h1, gx_2c (q 1 (by omega)) (q 78 (by omega)) h2, gx_ic (fun c y => q c (by omega)) h3, by rw [k1.2.1.2.2.1 rfl]; exact gx_xc (fun c y => q c (by omega)) h4, tp_Ac (fun c y => q c (by omega)) (fun i _ _ => by rw [q 95 (by omega)]) (fr 3 (by decide) 7 (Or.inl rfl)) (fr 3 (by decide) 8 (Or.inr rfl)) h5, tr_Ac (fun c y => q c (by omega)) (fr 0 (by decide)) h6, ?_, gx_8c (fun c y => q c (by omega)) h8, gx_9c (q 95 (by omega)) h9⟩
    unfold gx_7
    rw [q 1 (by omega), q 25 (by omega), q 26 (by omega), q 27 (by omega)]
    exact (sn_C hs hT k2).2
  · unfold fw_305 fw_185
    intro _
    refine ⟨fun ne => fl_183 ⟨fun q => Or.inr (Or.inr ⟨ne, Or.inl (fun y => bd_f q ⟨y.1.1, by have := y.1.2; omega⟩), rfl, rfl⟩), fun q => fl_183 ⟨fun q2 => Or.inr (Or.inr ⟨ne, Or.inl (fun y => bd_f q2 y.2), rfl, rfl⟩), fun q2 => ?_⟩⟩, fun ne => Or.inl ⟨Classical.not_not.mp ne, rfl, zu_s⟩⟩
    have q := bd_t q
    have q2 := bd_t q2
    intro _
    refine ⟨fun q3 _ => ?_, fun q3 => Or.inr (Or.inr ⟨ne, Or.inr (Classical.not_not.mp q3), rfl, rfl⟩)⟩
    have g := hs.1
    have e1 : (lf_up s.1 96 (162 + 2 * s.1 96 10) a1) 96 10 = s.1 96 10 := lf_up_i (by omega)
    have e2 : (lf_up (lf_up s.1 96 (162 + 2 * s.1 96 10) a1) 96 (162 + 2 * s.1 96 10 + 1) a2) 96 10 = s.1 96 10 := (lf_up_i (by omega)).trans e1
    rw [e1, e2]
    intro _
    exact Or.inr (Or.inl ⟨ne, ⟨⟨q.1, by omega⟩, q2⟩, q3, zu_s, (zu_i (by omega)).trans ((lf_up_i (by omega)).trans lf_up_s), (zu_i (by omega)).trans lf_up_s, fun i i0 i1 i2 => (zu_i i0).trans ((lf_up_i i2).trans (lf_up_i i1)), rfl⟩)
/-! mending -/
def mg_ok (J : Nat → Int → Int) (a o q h n : Int) : Prop := ((0 ≤ a ∧ a < J 1 1) ∧ J 6 a = 0) ∧ (0 ≤ o ∧ o ≤ 10) ∧ (0 ≤ q ∧ q ≤ 999) ∧ (0 ≤ h ∧ h ≤ 999) ∧ 1 ≤ n ∧ n ≤ 99
def mg_v (o q h n : Int) : Int := (h * o * n).tdiv 10 - q
theorem mg_w {q h : Int} {ok : Int} (h1 : 0 ≤ ok ∧ ok ≤ 10) (h2 : 0 ≤ q ∧ q ≤ 999) (h3 : 0 ≤ h ∧ h ≤ 999) (h4 : 1 ≤ n ∧ n ≤ 99) : lf_w ((lf_w ((lf_w (h * ok)) * n)).tdiv 10 - q) = mg_v ok q h n := by
  have b1 : h * ok ≤ 999 * 10 := Int.mul_le_mul h3.2 h1.2 h1.1 (by decide)
  have b2 : 0 ≤ h * ok := Int.mul_nonneg h3.1 h1.1
  rw [gx_w (e := h * ok) (by omega)]
  have b3 : h * ok * n ≤ 9990 * 99 := Int.mul_le_mul (by omega) h4.2 (by omega) (by decide)
  have b4 : 0 ≤ h * ok * n := Int.mul_nonneg b2 (by omega)
  rw [gx_w (e := h * ok * n) (by omega)]
  unfold mg_v
  have b5 : (h * ok * n).tdiv 10 = h * ok * n / 10 := Int.tdiv_eq_ediv_of_nonneg b4
  rw [b5]
  exact gx_w (by omega)
def gx_S163 (a1 a2 a3 a4 a5 : Int) (r : Int) (I : Nat → Int → Int) (P : Nat → Option Nat) : Prop := gx_D I (P 3) ∧ ∃ (f : Int → Int) (H : List rr_H) (sv : Int → Int), gf_T I f H ∧ gc_T I f H ∧ gr_T sv I f H (I 96) ∧ ((mg_ok I a1 a2 a3 a4 a5 ∧ I 28 = ds_u1 sv a1 (mg_v a2 a3 a4 a5) ∧ r = 1) ∨ (¬ mg_ok I a1 a2 a3 a4 a5 ∧ I 28 = sv ∧ r = 0))
def gx_R163 (a1 a2 a3 a4 a5 : Int) (p : Int → Prop) (I : Nat → Int → Int) (P : Nat → Option Nat) : Prop := gx_MP (gx_S163 a1 a2 a3 a4 a5) p I P
theorem mg_no {a2 a3 a4 a5 : Int} {Q : Bool → lf_Z → Prop} (h : Q false s) : fw_163_p71 Q a a2 a3 a4 a5 s := by
  unfold fw_163_p71 fw_163_p72
  intro _
  exact ⟨fun _ _ => ⟨fun _ => h, fun c => absurd c (by decide)⟩, fun c => absurd rfl c⟩
theorem mg_n2 {a2 a3 a4 a5 : Int} {Q : Bool → lf_Z → Prop} (h : Q false s) : fw_163_p36 Q a a2 a3 a4 a5 s := by
  unfold fw_163_p36 fw_163_p37
  intro _
  exact ⟨fun _ => mg_no h, fun c => absurd rfl c⟩
theorem gx_163 {a1 a2 a3 a4 a5 : Int} {Q : Bool → lf_Z → Prop} (hI : iv_A s.1 s.2.2) (ba1 : (-2147483648) ≤ a1 ∧ a1 ≤ 2147483647) (ba2 : (-2147483648) ≤ a2 ∧ a2 ≤ 2147483647) (ba3 : (-2147483648) ≤ a3 ∧ a3 ≤ 2147483647) (ba4 : (-2147483648) ≤ a4 ∧ a4 ≤ 2147483647) (ba5 : (-2147483648) ≤ a5 ∧ a5 ≤ 2147483647) (hA : gx_A s.1 s.2.2) (hQ : ∀ (z : Bool) (s' : lf_Z), iv_A s'.1 s'.2.2 → lf_fq [28] 1000000 true s.1 s.2.2 s'.1 s'.2.2 → gx_S163 a1 a2 a3 a4 a5 (lf_b z) s'.1 s'.2.2 → Q z s') : fm_163 a1 a2 a3 a4 a5 Q s := by
  obtain ⟨⟨f, H, hF, hC, hR⟩, h2, h3, h4, h5, h6, h7, h8, h9⟩ := hA
  refine cj_163 (Q1 := fun z s' => iv_A s'.1 s'.2.2 ∧ lf_fq [28] 1000000 true s.1 s.2.2 s'.1 s'.2.2) (Q2 := fun z t => (mg_ok s.1 a1 a2 a3 a4 a5 ∧ t.1 28 = ds_u1 (s.1 28) a1 (mg_v a2 a3 a4 a5) ∧ z = true) ∨ (¬ mg_ok s.1 a1 a2 a3 a4 a5 ∧ t.1 28 = s.1 28 ∧ z = false)) (fun z s' k1 k2 => hQ z s' k1.1 k1.2 ⟨?_, f, H, s.1 28, ?_, ?_, ?_, ?_⟩) (sm_163 hI ba1 ba2 ba3 ba4 ba5 (fun z s' h1 h2 => ⟨h1, h2⟩)) ?_
  · have q : ∀ c : Nat, (c < 28 ∨ (28 < c ∧ c < 1000)) → s'.1 c = s.1 c := fun c y => k1.2.1 c (gx_nc (by simp; omega))
    rw [k1.2.2.2.1 rfl]
    exact ⟨gx_2c (q 1 (by omega)) (q 78 (by omega)) h2, gx_ic (fun c y => q c (by omega)) h3, gx_xc (fun c y => q c (by omega)) h4, tp_Ac (fun c y => q c (by omega)) (fun i _ _ => by rw [q 95 (by omega)]) (by rw [q 96 (by omega)]) (by rw [q 96 (by omega)]) h5, tr_Ac (fun c y => q c (by omega)) (fun i _ => by rw [q 96 (by omega)]) h6, gx_7c (fun c y => q c (by omega)) (by rw [q 1 (by omega)]; exact Int.le_refl _) (fun i _ => by rw [q 96 (by omega)]) h7, gx_8c (fun c y => q c (by omega)) h8, gx_9c (q 95 (by omega)) h9⟩
  · exact gf_Te (fun c c0 c1 => k1.2.1 c (gx_nc (by simp; omega))) hF
  · exact gc_Te (fun c c0 c1 => k1.2.1 c (gx_nc (by simp; omega))) hC
  · rw [k1.2.1 96 rfl]; exact gr_Te (fun c c0 c1 => k1.2.1 c (gx_nc (by simp; omega))) hR
  · unfold mg_ok at k2 ⊢
    rw [k1.2.1 1 rfl, k1.2.1 6 rfl]
    rcases k2 with ⟨y1, y2, y3⟩ | ⟨y1, y2, y3⟩
    · exact Or.inl ⟨y1, y2, by rw [y3]; rfl⟩
    · exact Or.inr ⟨y1, y2, by rw [y3]; rfl⟩
  · unfold fw_163
    refine fl_89 ⟨fun q => mg_n2 (Or.inr ⟨fun y => ?_, rfl, rfl⟩), fun q => fl_15 ⟨fun q2 => mg_n2 (Or.inr ⟨fun y => bd_f q2 y.2.1, rfl, rfl⟩), fun q2 => fl_15 ⟨fun q3 => mg_n2 (Or.inr ⟨fun y => bd_f q3 y.2.2.1, rfl, rfl⟩), fun q3 => ?_⟩⟩⟩
    · rw [decide_eq_true y.1.1.1, decide_eq_true y.1.1.2, decide_eq_true y.1.2] at q
      cases q
    · unfold fw_163_p37
      intro _
      refine ⟨fun c => absurd c (by decide), fun _ => fl_15 ⟨fun q4 => mg_no (Or.inr ⟨fun y => bd_f q4 y.2.2.2.1, rfl, rfl⟩), fun q4 => fl_15 ⟨fun q5 => mg_no (Or.inr ⟨fun y => bd_f q5 y.2.2.2.2, rfl, rfl⟩), fun q5 => ?_⟩⟩⟩
      have q1 : (0 ≤ a1 ∧ a1 < s.1 1 1) ∧ s.1 6 a1 = 0 := by
        rw [Bool.and_eq_true, decide_eq_true_eq] at q
        exact ⟨bd_t q.1, q.2⟩
      unfold fw_163_p72
      intro _
      refine ⟨fun c => absurd c (by decide), fun _ _ _ => ⟨fun c => absurd c (by decide), fun _ => Or.inl ⟨⟨q1, bd_t q2, bd_t q3, bd_t q4, bd_t q5⟩, ?_, rfl⟩⟩⟩
      rw [mg_w (bd_t q2) (bd_t q3) (bd_t q4) (bd_t q5)]
      show lf_up s.1 28 a1 (mg_v a2 a3 a4 a5) 28 = _
      exact tp_row
theorem gx_318 {a1 a2 a3 a4 a5 : Int} {Q : Bool → lf_Z → Prop} (hI : iv_A s.1 s.2.2) (ba1 : (-2147483648) ≤ a1 ∧ a1 ≤ 2147483647) (ba2 : (-2147483648) ≤ a2 ∧ a2 ≤ 2147483647) (ba3 : (-2147483648) ≤ a3 ∧ a3 ≤ 2147483647) (ba4 : (-2147483648) ≤ a4 ∧ a4 ≤ 2147483647) (ba5 : (-2147483648) ≤ a5 ∧ a5 ≤ 2147483647) (hM : gx_R163 a1 a2 a3 a4 a5 p s.1 s.2.2) (hQ : ∀ (z : Bool) (s' : lf_Z), iv_A s'.1 s'.2.2 → lf_fq [96, 1002] 174 true s.1 s.2.2 s'.1 s'.2.2 → (gx_p p (lf_b z) ∧ gx_A s'.1 s'.2.2) → Q z s') : fm_318 a1 a2 a3 a4 a5 Q s := by
  obtain ⟨r0, hp, ⟨h2, h3, h4, h5, h6, h7, h8, h9⟩, f, H, sv, hF, hC, hR, hT⟩ := hM
  have e1 : s.1 96 1 = s.1 1 1 := hR.1.2.1
  have w1 := hF.1.1.2.1
  refine cj_318 (Q1 := fun z s' => iv_A s'.1 s'.2.2 ∧ lf_fq [96, 1002] 174 true s.1 s.2.2 s'.1 s'.2.2) (Q2 := fun z t => (mg_ok s.1 a1 a2 a3 a4 a5 ∧ z = true ∧ (t.1 96 (174 + 5 * a1) = 1 ∧ t.1 96 (174 + 5 * a1 + 1) = a2 ∧ t.1 96 (174 + 5 * a1 + 2) = a3 ∧ t.1 96 (174 + 5 * a1 + 3) = a4 ∧ t.1 96 (174 + 5 * a1 + 4) = a5) ∧ ∀ i : Int, ¬ (174 + 5 * a1 ≤ i ∧ i ≤ 174 + 5 * a1 + 4) → t.1 96 i = s.1 96 i) ∨ (¬ mg_ok s.1 a1 a2 a3 a4 a5 ∧ z = false ∧ t = s)) (fun z s' k1 k2 => hQ z s' k1.1 k1.2 ⟨?_, ?_⟩) (sm_318 hI ba1 ba2 ba3 ba4 ba5 (fun z s' h1 h2 => ⟨h1, h2⟩)) ?_
  · have er : r0 = lf_b z := by
      rcases hT with ⟨y, _, y2⟩ | ⟨y, _, y2⟩
      · rcases k2 with ⟨_, k, _⟩ | ⟨k, _⟩
        · rw [y2, k]; rfl
        · exact absurd y k
      · rcases k2 with ⟨k, _⟩ | ⟨_, k, _⟩
        · exact absurd k y
        · rw [y2, k]; rfl
    rw [← er]; exact hp
  · have q : ∀ c : Nat, (c < 96 ∨ (96 < c ∧ c < 1000)) → s'.1 c = s.1 c := fun c y => k1.2.1 c (gx_nc (by simp; omega))
    have fr : ∀ k : Nat, (k ≠ 2 ∧ k < 7) → ∀ i, fr_g k i → s'.1 96 i = s.1 96 i := fun k hk => k1.2.2.2.2 k (gx_nc (by simp; omega))
    have g : gj_e s.1 s'.1 := fun c c0 c1 => q c (by omega)
    refine ⟨⟨f, H, gf_Te g hF, gc_Te (fun c c0 c1 => q c (by omega)) hC, ?_⟩, gx_2c (q 1 (by omega)) (q 78 (by omega)) h2, gx_ic (fun c y => q c (by omega)) h3, by rw [k1.2.2.2.1 rfl]; exact gx_xc (fun c y => q c (by omega)) h4, tp_Ac (fun c y => q c (by omega)) (fun i _ _ => by rw [q 95 (by omega)]) (fr 3 (by decide) 7 (Or.inl rfl)) (fr 3 (by decide) 8 (Or.inr rfl)) h5, tr_Ac (fun c y => q c (by omega)) (fr 0 (by decide)) h6, gx_7c (fun c y => q c (by omega)) (by rw [q 1 (by omega)]; exact Int.le_refl _) (fr 1 (by decide)) h7, gx_8c (fun c y => q c (by omega)) h8, gx_9c (q 95 (by omega)) h9⟩
    rw [q 28 (by omega)]
    refine gr_Te g (gr_Tx hF.1.1 hF.2.2 (gr_fe (fr 4 (by decide)) (fr 5 (by decide)) (fr 6 (by decide))) ?_ hR)
    rcases hT with ⟨y, y1, _⟩ | ⟨y, y1, _⟩
    · rcases k2 with ⟨_, _, ⟨m0, m1, m2, m3, m4⟩, mo⟩ | ⟨k, _⟩
      · rw [y1]
        obtain ⟨⟨⟨p0, p1⟩, p2⟩, p3, p4, p5, p6⟩ := y
        refine ⟨fun w w0 x1 => ?_, fun w w0 x1 => ?_⟩
        · by_cases yw : w = a1
          · refine Or.inr ?_
            rw [yw, m0, m1, m2, m3, m4]
            exact ⟨rfl, p3, p4, p5, p6, if_pos rfl⟩
          · have m := hR.2.2.2.1 w w0 x1
            have m := gr_1e (B := s'.1 96) (fun i i0 i1 => mo i (by omega)) m
            unfold gr_1 at m ⊢
            rw [show ds_u1 sv a1 (mg_v a2 a3 a4 a5) w = sv w from if_neg yw]
            exact m
        · exact (show ds_u1 sv a1 (mg_v a2 a3 a4 a5) w = sv w from if_neg (by omega)).trans (hR.2.2.2.2 w w0 x1)
      · exact absurd y k
    · rcases k2 with ⟨k, _⟩ | ⟨_, _, k⟩
      · exact absurd k y
      · rw [y1, k]; exact hR.2.2.2
  · unfold fw_318 fw_251
    refine fl_183 ⟨fun q => Or.inr ⟨fun y => bd_f q ⟨y.1.1.1, by have := y.1.1.2; omega⟩, rfl, rfl⟩, fun q => ?_⟩
    have q := bd_t q
    refine fl_252 hR.1 q.1 (by omega) ⟨fun q1 => Or.inr ⟨fun y => by have := of_decide_eq_true q1; have := y.1.2; omega, rfl, rfl⟩, fun q1 => fl_183 ⟨fun q2 => Or.inr ⟨fun y => bd_f q2 y.2.1, rfl, rfl⟩, fun q2 => fl_183 ⟨fun q3 => Or.inr ⟨fun y => bd_f q3 y.2.2.1, rfl, rfl⟩, fun q3 => fl_183 ⟨fun q4 => Or.inr ⟨fun y => bd_f q4 y.2.2.2.1, rfl, rfl⟩, fun q4 => fl_183 ⟨fun q5 _ _ _ _ _ => ?_, fun q5 => Or.inr ⟨fun y => bd_f q5 y.2.2.2.2, rfl, rfl⟩⟩⟩⟩⟩⟩
    have q6 : s.1 6 a1 = 0 := by
      have := of_decide_eq_false q1
      have := hF.1.2.1.1 a1
      omega
    refine Or.inl ⟨⟨⟨⟨q.1, by omega⟩, q6⟩, bd_t q2, bd_t q3, bd_t q4, bd_t q5⟩, rfl, ⟨?_, ?_, ?_, ?_, zu_s⟩, fun i hi => (zu_i (by omega)).trans ((lf_up_i (by omega)).trans ((lf_up_i (by omega)).trans ((lf_up_i (by omega)).trans (lf_up_i (by omega)))))⟩
    · exact (zu_i (by omega)).trans ((lf_up_i (by omega)).trans ((lf_up_i (by omega)).trans ((lf_up_i (by omega)).trans lf_up_s)))
    · exact (zu_i (by omega)).trans ((lf_up_i (by omega)).trans ((lf_up_i (by omega)).trans lf_up_s))
    · exact (zu_i (by omega)).trans ((lf_up_i (by omega)).trans lf_up_s)
    · exact (zu_i (by omega)).trans lf_up_s
/-! tried -/
def gx_S166 (a1 a2 : Int) (r : Int) (I : Nat → Int → Int) (P : Nat → Option Nat) : Prop := (gx_1 I ∧ gx_2 I ∧ gx_i I ∧ gx_x I (P 3) ∧ tp_A I ∧ gx_7 I ∧ gx_8 I ∧ gx_9 I) ∧ tr_BB a1 a2 r I
def gx_R166 (a1 a2 : Int) (p : Int → Prop) (I : Nat → Int → Int) (P : Nat → Option Nat) : Prop := gx_MP (gx_S166 a1 a2) p I P
theorem gx_166 {a1 a2 : Int} {Q : Int → lf_Z → Prop} (hI : iv_A s.1 s.2.2) (ba1 : (-2147483648) ≤ a1 ∧ a1 ≤ 2147483647) (ba2 : 0 ≤ a2 ∧ a2 ≤ 1) (hA : gx_A s.1 s.2.2) (hQ : ∀ (r : Int) (s' : lf_Z), iv_A s'.1 s'.2.2 → lf_fq [29, 30] 1000000 true s.1 s.2.2 s'.1 s'.2.2 → gx_S166 a1 a2 r s'.1 s'.2.2 → ((-2147483648) ≤ r ∧ r ≤ 2147483647) → Q r s') : fm_166 a1 a2 Q s := by
  obtain ⟨h1, h2, h3, h4, h5, h6, h7, h8, h9⟩ := hA
  refine tr_166 hI ba1 ba2 (fun r s' k1 k2 k3 k4 => hQ r s' k1 k2 ⟨?_, tr_t1 h6 k2 k3⟩ k4)
  have q : ∀ c : Nat, (c < 29 ∨ (30 < c ∧ c < 1000)) → s'.1 c = s.1 c := fun c y => k2.1 c (gx_nc (by simp; omega))
  rw [k2.2.2.1 rfl]
  exact ⟨gx_1c (fun c y => q c (by omega)) h1, gx_2c (q 1 (by omega)) (q 78 (by omega)) h2, gx_ic (fun c y => q c (by omega)) h3, gx_xc (fun c y => q c (by omega)) h4, tp_Ac (fun c y => q c (by omega)) (fun i _ _ => by rw [q 95 (by omega)]) (by rw [q 96 (by omega)]) (by rw [q 96 (by omega)]) h5, gx_7c (fun c y => q c (by omega)) (by rw [q 1 (by omega)]; exact Int.le_refl _) (fun i _ => by rw [q 96 (by omega)]) h7, gx_8c (fun c y => q c (by omega)) h8, gx_9c (q 95 (by omega)) h9⟩
theorem gx_321 {a1 a2 : Int} {Q : Int → lf_Z → Prop} (hI : iv_A s.1 s.2.2) (ba1 : (-2147483648) ≤ a1 ∧ a1 ≤ 2147483647) (ba2 : 0 ≤ a2 ∧ a2 ≤ 1) (hM : gx_R166 a1 a2 p s.1 s.2.2) (hQ : ∀ (r : Int) (s' : lf_Z), iv_A s'.1 s'.2.2 → lf_fq [96, 1000] 11 true s.1 s.2.2 s'.1 s'.2.2 → (gx_p p r ∧ gx_A s'.1 s'.2.2) → ((-2) ≤ r ∧ r ≤ 13) → Q r s') : fm_321 a1 a2 Q s := by
  obtain ⟨r0, hp, ⟨h1, h2, h3, h4, h5, h7, h8, h9⟩, hT⟩ := hM
  refine tr_321 hI ba1 ba2 (fun r s' k1 k2 k3 k4 => hQ r s' k1 k2 ⟨(tr_t2 hT k2 k3).1 ▸ hp, ?_⟩ k4)
  have q : ∀ c : Nat, (c < 96 ∨ (96 < c ∧ c < 1000)) → s'.1 c = s.1 c := fun c y => k2.1 c (gx_nc (by simp; omega))
  have fr : ∀ k : Nat, (k ≠ 0 ∧ k < 7) → ∀ i, fr_g k i → s'.1 96 i = s.1 96 i := fun k hk => k2.2.2.2 k (gx_nc (by simp; omega))
  exact ⟨gx_1f (fun c y => q c (by omega)) (fr 2 (by decide)) (fr 4 (by decide)) (fr 5 (by decide)) (fr 6 (by decide)) h1, gx_2c (q 1 (by omega)) (q 78 (by omega)) h2, gx_ic (fun c y => q c (by omega)) h3, by rw [k2.2.2.1 rfl]; exact gx_xc (fun c y => q c (by omega)) h4, tp_Ac (fun c y => q c (by omega)) (fun i _ _ => by rw [q 95 (by omega)]) (fr 3 (by decide) 7 (Or.inl rfl)) (fr 3 (by decide) 8 (Or.inr rfl)) h5, (tr_t2 hT k2 k3).2, gx_7c (fun c y => q c (by omega)) (by rw [q 1 (by omega)]; exact Int.le_refl _) (fr 1 (by decide)) h7, gx_8c (fun c y => q c (by omega)) h8, gx_9c (q 95 (by omega)) h9⟩
end GP
/-! image, back, a text played, stopped and home: within the law -/
section GI
variable {J K M : Nat → Int → Int} {s t u : lf_Z} {f f' g A B sv sw F S S' : Int → Int} {H H' G : List rr_H} {X : mn_X} {I I' C C' : Nat → Int → Int} {P P' : Nat → Option Nat} {o : Option Nat} {a b c d e r j n w x : Int} {T T' : Int → Int} {D : List Int} {L : List (Int × Int × Int)} {l : List Nat} {bb : Bool} {p : Int → Prop} {z : Bool}
/-! image -/
def gx_xi (I : Nat → Int → Int) (o : Option Nat) : Prop := (0 ≤ I 0 11 ∧ I 0 11 ≤ 4) ∧ (∀ k : Nat, (k : Int) < I 0 11 → gx_t (gx_C I) (I 98) k) ∧ (-1 ≤ I 0 12 ∧ I 0 12 < I 0 11) ∧ o = (if 0 ≤ I 0 12 then some (I 0 12).toNat else none)
def gx_S173 (r : Int) (I : Nat → Int → Int) (P : Nat → Option Nat) : Prop := (gx_1 I ∧ gx_xi I (P 3) ∧ gx_7 I ∧ gx_9 I) ∧ (tp_IM I ∧ tr_IM I) ∧ (I 78 0 = I 1 0 ∧ I 78 1 = I 1 1 ∧ I 78 2 = I 1 2 ∧ I 78 3 = I 0 11 ∧ I 78 4 = I 0 12) ∧ bk_S I I 79 15 ∧ bk_T I I 86 22 ∧ ib_N I I 89 25 ∧ r = I 15 7
def gx_R173 (p : Int → Prop) (I : Nat → Int → Int) (P : Nat → Option Nat) : Prop := gx_MP gx_S173 p I P
theorem gx_173 {Q : Int → lf_Z → Prop} (hI : iv_A s.1 s.2.2) (hA : gx_A s.1 s.2.2) (hQ : ∀ (r : Int) (s' : lf_Z), iv_A s'.1 s'.2.2 → lf_fq [78, 79, 80, 81, 82, 83, 84, 85, 86, 87, 88, 89, 90, 91, 92, 93, 94] 1000000 true s.1 s.2.2 s'.1 s'.2.2 → gx_S173 r s'.1 s'.2.2 → ((-2147483648) ≤ r ∧ r ≤ 2147483647) → Q r s') : fm_173 Q s := by
  obtain ⟨h1, h2, h3, h4, h5, h6, h7, h8, h9⟩ := hA
  refine cj_173 (Q1 := fun r s' => iv_A s'.1 s'.2.2 ∧ lf_fq [78, 79, 80, 81, 82, 83, 84, 85, 86, 87, 88, 89, 90, 91, 92, 93, 94] 1000000 true s.1 s.2.2 s'.1 s'.2.2 ∧ ((-2147483648) ≤ r ∧ r ≤ 2147483647)) (Q2 := fun r t => (t.1 78 0 = s.1 1 0 ∧ t.1 78 1 = s.1 1 1 ∧ t.1 78 2 = s.1 1 2 ∧ t.1 78 3 = s.1 0 11 ∧ t.1 78 4 = s.1 0 12) ∧ bk_S t.1 s.1 79 15 ∧ bk_T t.1 s.1 86 22 ∧ ib_N t.1 s.1 89 25 ∧ r = s.1 15 7) (fun r s' k1 k2 => hQ r s' k1.1 k1.2.1 ?_ k1.2.2) (sm_173 hI (fun r s' h1 h2 h3 => ⟨h1, h2, h3⟩)) ?_
  · obtain ⟨d1, d2, d3, d4, d5⟩ := k2
    have q : ∀ c : Nat, (c < 78 ∨ (94 < c ∧ c < 1000)) → s'.1 c = s.1 c := fun c y => k1.2.1.1 c (gx_nc (by simp; omega))
    refine ⟨⟨gx_1c (fun c y => q c (by omega)) h1, ?_, gx_7c (fun c y => q c (by omega)) (by rw [q 1 (by omega)]; exact Int.le_refl _) (fun i _ => by rw [q 96 (by omega)]) h7, gx_9c (q 95 (by omega)) h9⟩, ⟨tp_i1 h5 k1.2.1 ⟨d1.2.2.2.1, d1.2.2.2.2⟩, tr_i1 h6 k1.2.1 (fun j j0 j1 => d4.2.2.1 j j0 j1)⟩, by rw [q 1 (by omega), q 0 (by omega)]; exact d1, bk_Sc (fun k _ _ => rfl) (fun k k0 k1 => q k (by omega)) d2, bk_Tc (fun k _ _ => rfl) (fun k k0 k1 => q k (by omega)) d3, ib_Nc (fun k _ _ => rfl) (fun k k0 k1 => q k (by omega)) d4, by rw [q 15 (by omega)]; exact d5⟩
    obtain ⟨x1, x2, x3, x4, x5⟩ := h4
    unfold gx_xi
    rw [q 0 (by omega), q 98 (by omega), k1.2.1.2.2.1 rfl]
    exact ⟨x1, fun k hk => gx_tc (fun c c0 c1 => q (35 + c) (by omega)) (fun _ _ _ => rfl) (x2 k hk), x3, x4⟩
  · exact ib_173 (fun t d1 d2 d3 d4 => ⟨d1, d2, d3, d4, rfl⟩)
theorem gx_325 {Q : Int → lf_Z → Prop} (hI : iv_A s.1 s.2.2) (hM : gx_R173 p s.1 s.2.2) (hQ : ∀ (r : Int) (s' : lf_Z), iv_A s'.1 s'.2.2 → lf_fq [97] 1000000 true s.1 s.2.2 s'.1 s'.2.2 → (gx_p p r ∧ gx_A s'.1 s'.2.2) → ((-2147483648) ≤ r ∧ r ≤ 2147483647) → Q r s') : fm_325 Q s := by
  obtain ⟨r0, hp, ⟨⟨f, H, hF, hC, hR⟩, hx, h7, h9⟩, ⟨hP, hT⟩, ⟨n0, n1, n2, n3, n4⟩, d2, d3, d4, d5⟩ := hM
  have e3 : s.1 96 3 = s.1 15 7 := by rw [hR.2.1.1, hC.1.2.2.2.2.1]
  refine cj_325 (Q1 := fun r s' => iv_A s'.1 s'.2.2 ∧ lf_fq [97] 1000000 true s.1 s.2.2 s'.1 s'.2.2 ∧ ((-2147483648) ≤ r ∧ r ≤ 2147483647)) (Q2 := fun r t => (∀ i : Int, 0 ≤ i → i < 1538 → t.1 97 i = s.1 96 i) ∧ r = r0) (fun r s' k1 k2 => hQ r s' k1.1 k1.2.1 ⟨k2.2 ▸ hp, ?_⟩ k1.2.2) (sm_325 hI (fun r s' h1 h2 h3 => ⟨h1, h2, h3⟩)) ?_
  · have q : ∀ c : Nat, (c ≠ 97 ∧ c < 1000) → s'.1 c = s.1 c := fun c y => k1.2.1.1 c (gx_nc (by simp; omega))
    have g : gj_e s.1 s'.1 := fun c c0 c1 => q c (by omega)
    have e78 : s'.1 78 = s.1 78 := q 78 (by omega)
    have e1 : s'.1 1 = s.1 1 := q 1 (by omega)
    have a0 : gx_K s'.1 1 0 = s.1 1 0 := by rw [gx_K1, e78]; exact n0
    have a1 : gx_K s'.1 1 1 = s.1 1 1 := by rw [gx_K1, e78]; exact n1
    have a2 : gx_K s'.1 1 2 = s.1 1 2 := by rw [gx_K1, e78]; exact n2
    have rows : ∀ c : Nat, 2 ≤ c → c ≤ 10 → gx_K s'.1 c = s.1 c := fun c c0 c1 => (gx_Kc (by omega)).trans (q c (by omega))
    obtain ⟨w0, w1, w2, w3, _⟩ := hF.1.1
    refine ⟨⟨f, H, gf_Te g hF, gc_Te (fun c c0 c1 => q c (by omega)) hC, by rw [q 28 (by omega), q 96 (by omega)]; exact gr_Te g hR⟩, ?_, ⟨⟨fun w x0 x1 => ?_, fun y y0 y1 => ?_⟩, f, H, ⟨gj_P3 a0 a1 a2 hF.2.1, gj_H3 a0 a1 a2 hF.2.2⟩, ⟨?_, ?_⟩, ?_⟩, ?_, tp_i2 hP k1.2.1 k2.1, tr_i2 hT k1.2.1 k2.1, gx_7c (fun c y => q c (by omega)) (by rw [e1]; exact Int.le_refl _) (fun i _ => by rw [q 96 (by omega)]) h7, ?_, gx_9c (q 95 (by omega)) h9⟩
    · unfold gx_2
      rw [e78, e1]
      omega
    · rw [a1] at x1
      rw [a0, rows 4 (by decide) (by decide), rows 5 (by decide) (by decide)]
      have := w3 w x0 x1
      exact ⟨this.1.2, this.2.1.2⟩
    · rw [a2] at y1
      rw [a0, rows 10 (by decide) (by decide)]
      exact hF.1.2.2.2 y y0 y1
    · exact bk_rS (k := 64) (m := 0) (G := s.1) hC.1 (bk_Sc (fun k k0 k1 => q k (by omega)) (fun k _ _ => rfl) d2)
    · exact bk_rH (k := 64) (m := 0) (G := s.1) hC.2 (bk_Tc (fun k k0 k1 => q k (by omega)) (fun k _ _ => rfl) d3)
    · refine gr_L3 rows a0 a1 a2 (gr_Tc hF.1.1 hF.2.2 (fun w w0 w1 => ?_) k2.1 hR)
      rw [q 92 (by omega)]
      exact d4.2.1 w w0 w1
    · obtain ⟨x1, x2, x3, x4⟩ := hx
      unfold gx_x
      rw [q 0 (by omega), q 98 (by omega), e78, k1.2.1.2.2.1 rfl, n3, n4]
      exact ⟨x1, fun k hk => gx_tc (fun c c0 c1 => q (35 + c) (by omega)) (fun _ _ _ => rfl) (x2 k hk), x3, x4, ⟨x1.1, Int.le_refl _⟩, x3⟩
    · unfold gx_8
      rw [e78, q 89 (by omega), q 90 (by omega), q 91 (by omega), n0]
      obtain ⟨⟨s1, s2, s3⟩, s4⟩ := h7
      have c2 := d4.2.2.2
      refine ⟨⟨by rw [c2, k2.1 10 (by decide) (by decide)]; exact s1, by omega, by omega⟩, fun k k0 k1 => ?_⟩
      have m := s4 k k0 (by omega)
      rw [(d4.1 k k0 (by omega)).1, (d4.1 k k0 (by omega)).2, k2.1 (162 + 2 * k) (by omega) (by omega), k2.1 (162 + 2 * k + 1) (by omega) (by omega)]
      exact m
  · unfold fw_325
    refine fl_181 (fun t tc t2 tn => ⟨tn, ?_⟩)
    rw [tc 96 (by decide), e3, d5]
/-! back -/
def gx_S177 (r : Int) (I : Nat → Int → Int) (P : Nat → Option Nat) : Prop := (gx_i I ∧ gx_8 I ∧ gx_9 I ∧ gx_xi I (P 3) ∧ mn_W I ∧ mn_B I ∧ mn_V I) ∧ (tp_KM I ∧ tr_KM I) ∧ (I 1 0 = I 78 0 ∧ I 1 1 = I 78 1 ∧ I 1 2 = I 78 2 ∧ I 0 11 = I 78 3 ∧ I 0 12 = I 78 4) ∧ bk_S I I 15 79 ∧ bk_T I I 22 86 ∧ ib_N I I 25 89 ∧ r = I 79 7
def gx_R177 (p : Int → Prop) (I : Nat → Int → Int) (P : Nat → Option Nat) : Prop := gx_MP gx_S177 p I P
theorem gx_ib (q : ∀ c : Nat, ((2 ≤ c ∧ c ≤ 10) ∨ (78 ≤ c ∧ c < 95) ∨ c = 97) → I' c = I c) (h : gx_i I) : gx_i I' := by
  have e1 : gx_K I' 1 = gx_K I 1 := by rw [gx_K1, gx_K1]; exact q 78 (by omega)
  have g : ∀ c : Nat, 2 ≤ c → c ≤ 10 → gx_K I' c = gx_K I c := fun c c0 c1 => by rw [gx_Kc (by omega), gx_Kc (by omega)]; exact q c (by omega)
  obtain ⟨hv, f, H, ⟨h1, h2⟩, h3, h4⟩ := h
  refine ⟨?_, f, H, ⟨gj_P e1 h1, gj_H e1 h2⟩, gc_Te (fun c c0 c1 => q (c + 64) (by omega)) h3, ?_⟩
  · unfold gx_V at hv ⊢
    rw [e1, g 4 (by decide) (by decide), g 5 (by decide) (by decide), g 10 (by decide) (by decide)]
    exact hv
  · rw [q 92 (by omega), q 97 (by omega)]
    exact gr_L3 g (by rw [e1]) (by rw [e1]) (by rw [e1]) h4
theorem gx_177 {Q : Int → lf_Z → Prop} (hI : iv_A s.1 s.2.2) (hA : gx_A s.1 s.2.2) (hQ : ∀ (r : Int) (s' : lf_Z), iv_A s'.1 s'.2.2 → lf_fq [0, 1, 11, 12, 13, 15, 16, 17, 18, 19, 20, 21, 22, 23, 24, 25, 26, 27, 28, 29, 30] 1000000 false s.1 s.2.2 s'.1 s'.2.2 → gx_S177 r s'.1 s'.2.2 → ((-2147483648) ≤ r ∧ r ≤ 2147483647) → Q r s') : fm_177 Q s := by
  obtain ⟨⟨f, H, hF, hC, hR⟩, h2, h3, h4, h5, h6, h7, h8, h9⟩ := hA
  have hV := h3.1
  refine cj_177 (Q1 := fun r s' => iv_A s'.1 s'.2.2 ∧ lf_fq [0, 1, 11, 12, 13, 15, 16, 17, 18, 19, 20, 21, 22, 23, 24, 25, 26, 27, 28, 29, 30] 1000000 false s.1 s.2.2 s'.1 s'.2.2 ∧ ((-2147483648) ≤ r ∧ r ≤ 2147483647)) (Q2 := fun r t => (t.1 1 0 = s.1 78 0 ∧ t.1 1 1 = s.1 78 1 ∧ t.1 1 2 = s.1 78 2) ∧ (t.1 0 11 = s.1 78 3 ∧ t.1 0 12 = s.1 78 4) ∧ t.2.2 3 = (if 0 ≤ s.1 78 4 ∧ s.1 78 4 < s.1 78 3 then some (s.1 78 4).toNat else none) ∧ mn_W t.1 ∧ bk_S t.1 s.1 15 79 ∧ bk_T t.1 s.1 22 86 ∧ ib_N t.1 s.1 25 89 ∧ r = s.1 79 7) (fun r s' k1 k2 => hQ r s' k1.1 k1.2.1 ?_ k1.2.2) (sm_177 hI (fun r s' h1 h2 h3 => ⟨h1, h2, h3⟩)) ?_
  · obtain ⟨d1, dt, dp, dW, d2, d3, d4, d5⟩ := k2
    have q : ∀ c : Nat, ((2 ≤ c ∧ c ≤ 10) ∨ (30 < c ∧ c < 1000)) → s'.1 c = s.1 c := fun c y => k1.2.1.1 c (gx_nc (by simp; omega))
    have e78 : s'.1 78 = s.1 78 := q 78 (by omega)
    obtain ⟨x1, x2, x3, x4, x5, x6⟩ := h4
    refine ⟨⟨gx_ib (fun c y => q c (by omega)) h3, gx_8c (fun c y => q c (by omega)) h8, gx_9c (q 95 (by omega)) h9, ?_, dW, ⟨fun w => ?_, fun y => ?_⟩, fun y => ?_⟩, ⟨tp_k1 h5 k1.2.1 dt, tr_k1 h6 k1.2.1 rfl (fun j j0 j1 => d4.2.2.1 j j0 j1)⟩, by rw [e78]; exact ⟨d1.1, d1.2.1, d1.2.2, dt.1, dt.2⟩, bk_Sc (fun k _ _ => rfl) (fun k k0 k1 => q k (by omega)) d2, bk_Tc (fun k _ _ => rfl) (fun k k0 k1 => q k (by omega)) d3, ib_Nc (fun k _ _ => rfl) (fun k k0 k1 => q k (by omega)) d4, by rw [q 79 (by omega)]; exact d5⟩
    · unfold gx_xi
      rw [q 98 (by omega), dt.1, dt.2, dp]
      refine ⟨⟨x5.1, by omega⟩, fun k hk => gx_tc (fun c c0 c1 => q (35 + c) (by omega)) (fun _ _ _ => rfl) (x2 k (by omega)), x6, ?_⟩
      by_cases y : 0 ≤ s.1 78 4
      · rw [if_pos ⟨y, x6.2⟩, if_pos y]
      · rw [if_neg (fun m => y m.1), if_neg y]
    · rw [q 6 (by omega)]; exact hF.1.2.1.1 w
    · rw [q 8 (by omega), q 9 (by omega)]; exact hF.1.2.1.2 y
    · rw [q 7 (by omega), q 2 (by omega)]; exact hF.1.2.2.1 y
  · refine ib_177 hF.1.1 ⟨h4.2.2.2.2.1.1, by have := h4.1.2; have := h4.2.2.2.2.1.2; omega⟩ h2.1 h2.2.1 h2.2.2 (fun w w0 w1 => ?_) (fun t d1 dt dp dW d2 d3 d4 => ⟨d1, dt, dp, dW, d2, d3, d4, rfl⟩)
    have m := hV.1 w w0 (by rw [gx_K1]; exact w1)
    rw [gx_Kc (I := s.1) (c := 4) (by decide), gx_Kc (I := s.1) (c := 5) (by decide), gx_K1] at m
    exact m
theorem gx_326 {Q : Int → lf_Z → Prop} (hI : iv_A s.1 s.2.2) (hM : gx_R177 p s.1 s.2.2) (hQ : ∀ (r : Int) (s' : lf_Z), iv_A s'.1 s'.2.2 → lf_fq [96, 1000, 1001, 1002, 1003, 1004, 1005, 1006] 0 true s.1 s.2.2 s'.1 s'.2.2 → (gx_p p r ∧ gx_A s'.1 s'.2.2) → ((-2147483648) ≤ r ∧ r ≤ 2147483647) → Q r s') : fm_326 Q s := by
  obtain ⟨r0, hp, ⟨h3, h8, h9, hx, hW, hB, hV⟩, ⟨hP, hT⟩, ⟨n0, n1, n2, n3, n4⟩, d2, d3, d4, d5⟩ := hM
  have h3' := h3
  obtain ⟨⟨v1, v2⟩, g, G, ⟨gP, gH⟩, gC, gR⟩ := h3'
  have e3 : s.1 97 3 = s.1 79 7 := by rw [gR.2.1.1]; exact gC.1.2.2.2.2.1.symm
  refine cj_326 (Q1 := fun r s' => iv_A s'.1 s'.2.2 ∧ lf_fq [96, 1000, 1001, 1002, 1003, 1004, 1005, 1006] 0 true s.1 s.2.2 s'.1 s'.2.2 ∧ ((-2147483648) ≤ r ∧ r ≤ 2147483647)) (Q2 := fun r t => (∀ i : Int, 0 ≤ i → i < 1538 → t.1 96 i = s.1 97 i) ∧ r = r0) (fun r s' k1 k2 => hQ r s' k1.1 k1.2.1 ⟨k2.2 ▸ hp, ?_⟩ k1.2.2) (sm_326 hI (fun r s' h1 h2 h3 => ⟨h1, h2, h3⟩)) ?_
  · have q : ∀ c : Nat, (c ≠ 96 ∧ c < 1000) → s'.1 c = s.1 c := fun c y => k1.2.1.1 c (gx_nc (by simp; omega))
    have ge : gj_e s.1 s'.1 := fun c c0 c1 => q c (by omega)
    have e78 : s'.1 78 = s.1 78 := q 78 (by omega)
    have e1 : s'.1 1 = s.1 1 := q 1 (by omega)
    have a0 : s.1 1 0 = gx_K s.1 1 0 := by rw [gx_K1]; exact n0
    have a1 : s.1 1 1 = gx_K s.1 1 1 := by rw [gx_K1]; exact n1
    have a2 : s.1 1 2 = gx_K s.1 1 2 := by rw [gx_K1]; exact n2
    have rows : ∀ c : Nat, 2 ≤ c → c ≤ 10 → s.1 c = gx_K s.1 c := fun c c0 c1 => (gx_Kc (by omega)).symm
    have hF : gf_T s.1 g G := by
      refine ⟨⟨hW, hB, hV, fun y y0 y1 => ?_⟩, gj_P3 a0 a1 a2 gP, gj_H3 a0 a1 a2 gH⟩
      have m := v2 y y0 (by omega)
      rw [gx_Kc (I := s.1) (c := 10) (by decide), ← a0] at m
      exact m
    have hC : gc_T s.1 g G := ⟨bk_rS (k := 0) (m := 64) (F := s.1) (G := s.1) gC.1 d2, bk_rH (k := 0) (m := 64) (F := s.1) (G := s.1) gC.2 d3⟩
    refine ⟨⟨g, G, gf_Te ge hF, gc_Te (fun c c0 c1 => q c (by omega)) hC, ?_⟩, ?_, gx_ic (fun c y => q c (by omega)) h3, ?_, tp_k2 hP k1.2.1 k2.1, tr_k2 hT k1.2.1 rfl k2.1, ?_, gx_8c (fun c y => q c (by omega)) h8, gx_9c (q 95 (by omega)) h9⟩
    · rw [q 28 (by omega)]
      refine gr_Te ge (gr_Tc hW hF.2.2 (fun w w0 w1 => d4.2.1 w w0 w1) k2.1 (gr_L3 rows a0 a1 a2 gR))
    · unfold gx_2
      rw [e78, e1]
      obtain ⟨m0, m1, m2, _⟩ := hW
      omega
    · obtain ⟨x1, x2, x3, x4⟩ := hx
      unfold gx_x
      rw [q 0 (by omega), q 98 (by omega), e78, k1.2.1.2.2.1 rfl, ← n3, ← n4]
      exact ⟨x1, fun k hk => gx_tc (fun c c0 c1 => q (35 + c) (by omega)) (fun _ _ _ => rfl) (x2 k hk), x3, x4, ⟨x1.1, Int.le_refl _⟩, x3⟩
    · unfold gx_7
      rw [e1, q 25 (by omega), q 26 (by omega), q 27 (by omega), n0]
      obtain ⟨⟨s1, s2, s3⟩, s4⟩ := h8
      have c2 := d4.2.2.2
      refine ⟨⟨by rw [c2, k2.1 10 (by decide) (by decide)]; exact s1, by omega, by omega⟩, fun k k0 k1 => ?_⟩
      have m := s4 k k0 (by omega)
      rw [(d4.1 k k0 (by omega)).1, (d4.1 k k0 (by omega)).2, k2.1 (162 + 2 * k) (by omega) (by omega), k2.1 (162 + 2 * k + 1) (by omega) (by omega)]
      exact m
  · unfold fw_326
    refine fl_181b (fun t tc t2 tn => ⟨tn, ?_⟩)
    rw [tn 3 (by decide) (by decide), e3, d5]
/-! a text played -/
def gx_r103 (a1 n0 : Int) (L : List (Int × Int × Int)) : gx_O := fun X J f H K f' H' r => (¬ (0 ≤ a1 ∧ a1 < n0) ∧ gj_e J K ∧ f' = f ∧ H' = H ∧ r = -2) ∨ ((0 ≤ a1 ∧ a1 < n0) ∧ pl_T X L 0 J f H K f' H' r)
def gx_S103 (a1 : Int) (r : Int) (I : Nat → Int → Int) (P : Nat → Option Nat) : Prop := ∃ (F : Int → Int) (n : Int) (D : List Int), (0 ≤ a1 ∧ a1 < I 0 11 → rs_X F n (I 98) (705 * a1) D ∧ ∀ b ∈ D, cs_w F n b = 26 → 0 ≤ cs_v F n b ∧ cs_v F n b ≤ 9) ∧ gx_M (gx_r103 a1 (I 0 11) (pl_d F n D)) r I P
def gx_R103 (a1 : Int) (p : Int → Prop) (I : Nat → Int → Int) (P : Nat → Option Nat) : Prop := gx_MP (gx_S103 a1) p I P
theorem gx_103 {a1 : Int} {Q : Int → lf_Z → Prop} (hI : iv_A s.1 s.2.2) (ba1 : (-2147483648) ≤ a1 ∧ a1 ≤ 2147483647) (hA : gx_A s.1 s.2.2) (hQ : ∀ (r : Int) (s' : lf_Z), iv_A s'.1 s'.2.2 → lf_fq [1, 2, 3, 4, 5, 6, 7, 8, 9, 10, 11, 12, 13, 15, 16, 17, 18, 19, 20, 21, 22, 23, 24, 63, 64, 65, 66] 1000000 true s.1 s.2.2 s'.1 s'.2.2 → gx_S103 a1 r s'.1 s'.2.2 → ((-2) ≤ r ∧ r ≤ 23) → Q r s') : fm_103 a1 Q s := by
  refine cj_103 (Q1 := fun r s' => iv_A s'.1 s'.2.2 ∧ lf_fq [1, 2, 3, 4, 5, 6, 7, 8, 9, 10, 11, 12, 13, 15, 16, 17, 18, 19, 20, 21, 22, 23, 24, 63, 64, 65, 66] 1000000 true s.1 s.2.2 s'.1 s'.2.2 ∧ ((-2) ≤ r ∧ r ≤ 23)) (Q2 := fun r s' => gx_S103 a1 r s'.1 s'.2.2) (fun r s' h1 h2 => hQ r s' h1.1 h1.2.1 h2 h1.2.2) (sm_103 hI ba1 (fun r s' h1 h2 h3 => ⟨h1, h2, h3⟩)) ?_
  obtain ⟨⟨f, H, hF, hC, hR⟩, hD⟩ := hA
  obtain ⟨X, hB, hX, hXr⟩ := gx_X hD.2.2.1 hD.2.2.2.1.2.2.2.1 hD.2.2.2.2.2.2.2
  have hx := hD.2.2.1
  unfold fw_103
  refine ib_62 hx.1.2 ?_
  by_cases c : 0 ≤ a1 ∧ a1 < s.1 0 11
  · rw [if_pos c]
    refine ⟨(fun y => by cases y), fun y ey y4 => ?_⟩
    have ey : a1.toNat = y := Option.some.inj ey
    obtain ⟨F, n, D, ⟨⟨t1, _⟩, t2, _⟩, _, t4, t5⟩ := hx.2.1 y (by omega)
    have ea : a1 = (y : Int) := by omega
    have h24 : D.length ≤ 24 := by obtain ⟨_, _, _, h, _⟩ := t4; exact h
    refine gc_103p (F := F) (n := n) (D := D) t1 h24 y4 (fun i b hb => ?_) hF hC hX hB (fun r t f' H' h1 h2 h3 h4 => ⟨F, n, D, fun _ => ?_, gx_m1 (rel := gx_r103 a1 (t.1 0 11) (pl_d F n D)) hB hXr hF hR hD (Or.inr ⟨?_, h1⟩) h2 h3 h4 (gw_pl _ _ _ _ _ h1)⟩)
    · obtain ⟨m1, m2, m3⟩ := t2 i b hb
      refine ⟨?_, ?_, ?_⟩
      · rw [show 39 + 7 * y = 35 + (4 + 7 * y) by omega]; exact m1
      · rw [show 40 + 7 * y = 35 + (5 + 7 * y) by omega]; exact m2
      · rw [show 41 + 7 * y = 35 + (6 + 7 * y) by omega]; exact m3
    · rw [h4.1 98 (by decide), ea]; exact ⟨t4, t5⟩
    · rw [h4.1 0 (by decide)]; exact c
  · rw [if_neg c]
    refine ⟨fun _ => ⟨fun _ => 0, 0, [], fun y => absurd y c, gx_m1 (rel := gx_r103 a1 (s.1 0 11) (pl_d (fun _ => 0) 0 [])) hB hXr hF hR hD (Or.inl ⟨c, gj_r, rfl, rfl, rfl⟩) hF hC gc_Fr gw_r⟩, fun y ey _ => by cases ey⟩
theorem gx_280 {a1 : Int} {Q : Int → lf_Z → Prop} (hI : iv_A s.1 s.2.2) (ba1 : (-2147483648) ≤ a1 ∧ a1 ≤ 2147483647) (hM : gx_R103 a1 p s.1 s.2.2) (hQ : ∀ (r : Int) (s' : lf_Z), iv_A s'.1 s'.2.2 → lf_fq [96, 104, 107, 108, 1002, 1004, 1005, 1006] 0 true s.1 s.2.2 s'.1 s'.2.2 → (gx_p p r ∧ gx_A s'.1 s'.2.2) → ((-2) ≤ r ∧ r ≤ 23) → Q r s') : fm_280 a1 Q s := by
  obtain ⟨r0, hp, F, n, D, hL, ⟨X, J, f, H, f', H', hB, hX, hT, hF, hR, hF', hC'⟩, hD⟩ := hM
  have e7 : s.1 96 7 = s.1 0 11 := hD.2.2.2.1.2.2.1.symm
  refine cj_280 (Q1 := fun r s' => iv_A s'.1 s'.2.2 ∧ lf_fq [96, 104, 107, 108, 1002, 1004, 1005, 1006] 0 true s.1 s.2.2 s'.1 s'.2.2 ∧ ((-2) ≤ r ∧ r ≤ 23)) (Q2 := fun r t => gr_F s t ∧ gr_T (s.1 28) s.1 f' H' (t.1 96) ∧ r = r0) (fun r s' h1 h2 => hQ r s' h1.1 h1.2.1 ⟨h2.2.2 ▸ hp, gx_m2 hF' hC' hD h2.1 h2.2.1 h1.2.1 rfl⟩ h1.2.2) (sm_280 hI ba1 (fun r s' h1 h2 h3 => ⟨h1, h2, h3⟩)) ?_
  unfold fw_280
  rw [e7]
  refine fl_183 ⟨fun q => ?_, fun q => ?_⟩
  · have q := bd_t q
    have c : 0 ≤ a1 ∧ a1 < s.1 0 11 := ⟨q.1, by omega⟩
    rcases hT with ⟨c', _⟩ | ⟨_, hT⟩
    · exact absurd c c'
    · obtain ⟨⟨o, _, ⟨l1, l2⟩, l3, _⟩, l5⟩ := hL c
      refine gr_280p l1 (fun i b hb => ?_) hF hR ⟨hX, rfl, hD.2.2.2.2.2.2.2.1, hD.2.2.2.2.2.2.2.2.1, hD.2.2.2.2.2.2.2.2.2.1, hD.2.2.2.2.2.2.2.2.2.2⟩ hB hT (fun t h1 h2 => ⟨h1, h2, rfl⟩)
      obtain ⟨m1, m2, _⟩ := l2 i b hb
      exact ⟨m1, fun y => (m2 y).1, fun y y2 => (m2 y).2 y2, l5 b (List.mem_of_getElem? hb)⟩
  · have q := bd_f q
    rcases hT with ⟨_, e, rfl, rfl, rfl⟩ | ⟨c, _⟩
    · exact ⟨gr_Fr, gr_Te e hR, rfl⟩
    · exact absurd ⟨c.1, by omega⟩ q
/-! stopped, home of the reference -/
theorem gx_295 {a1 : Int} {a2 : Int} {Q : Int → lf_Z → Prop} {s : lf_Z} (hI : iv_A s.1 s.2.2) (ba1 : (-2147483648) ≤ a1 ∧ a1 ≤ 2147483647) (ba2 : (-2147483648) ≤ a2 ∧ a2 ≤ 2147483647) (hA : gx_A s.1 s.2.2) (hQ : ∀ (r : Int) (s' : lf_Z), iv_A s'.1 s'.2.2 → lf_fq [95, 104, 107, 111, 112] 1000000 true s.1 s.2.2 s'.1 s'.2.2 → gx_A s'.1 s'.2.2 → ((-1) ≤ r ∧ r ≤ 4095) → Q r s') : fm_295 a1 a2 Q s := zr_295 hI hA.2.2.2.2.2.2.2.2 ba1 ba2 (fun r s' h1 h2 h3 h4 => hQ r s' h1 h2 (gx_sq hA h2 h3) h4)
theorem gx_297 {a1 : Int} {Q : Int → lf_Z → Prop} {s : lf_Z} (hI : iv_A s.1 s.2.2) (ba1 : (-2147483648) ≤ a1 ∧ a1 ≤ 2147483647) (hA : gx_A s.1 s.2.2) (hQ : ∀ (r : Int) (s' : lf_Z), iv_A s'.1 s'.2.2 → lf_fq [95, 104, 107, 111, 112] 1000000 true s.1 s.2.2 s'.1 s'.2.2 → gx_A s'.1 s'.2.2 → ((-1) ≤ r ∧ r ≤ 65535) → Q r s') : fm_297 a1 Q s := zr_297 hI hA.2.2.2.2.2.2.2.2 ba1 (fun r s' h1 h2 h3 h4 => hQ r s' h1 h2 (gx_sq hA h2 h3) h4)
end GI
/-! where of the class keeps the law that rules -/
section RQ
variable {l l' : List Nat} {w w' i v : Int} {b b' : Bool} {c k : Nat} {I I' I2 : Nat → Int → Int} {P P' P2 : Nat → Option Nat} {x : Option Nat}
def rq_fq (l : List Nat) (w : Int) (b : Bool) (I : Nat → Int → Int) (P : Nat → Option Nat) (I' : Nat → Int → Int) (P' : Nat → Option Nat) : Prop := lf_fq l w b I P I' P' ∧ P' 3 = P 3
theorem rq_fq_rf : rq_fq l w b I P I P := ⟨lf_fq_rf, rfl⟩
theorem rq_fq_tr (h1 : rq_fq l w b I P I' P') (h2 : rq_fq l w b I' P' I2 P2) : rq_fq l w b I P I2 P2 := ⟨lf_fq_tr h1.1 h2.1, h2.2.trans h1.2⟩
theorem rq_fq_wk (h : lf_fq l' w' true I P I' P') (hl : l'.all (fun c => l.contains c) = true) (hw : w ≤ w') (hb : (b && !true) = false) : rq_fq l w b I P I' P' := ⟨lf_fq_wk h hl hw hb, by rw [h.2.2.1 rfl]⟩
theorem rq_wq (h : rq_fq l' w' b' I P I' P') (hl : l'.all (fun c => l.contains c) = true) (hw : w ≤ w') (hb : (b && !b') = false) : rq_fq l w b I P I' P' := ⟨lf_fq_wk h.1 hl hw hb, h.2⟩
theorem rq_fq_pp (h : rq_fq l w false I P I' P') (hk : (3 : Nat) ≠ k) : rq_fq l w false I P I' (lf_ur P' k x) := ⟨lf_fq_pp h.1, (show lf_ur P' k x 3 = P' 3 from if_neg hk).trans h.2⟩
theorem rq_121_p33 {X10 : Int → lf_Z → Prop} {Q : lf_Z → Prop} {x1 : Int} {s : lf_Z} (hQ : ∀  (s' : lf_Z), iv_A s'.1 s'.2.2 → rq_fq [63, 64, 65, 66, 69] 1000000 false s.1 s.2.2 s'.1 s'.2.2 → Q  s') {M10 : Nat} (hX10 : ∀ (x1 : Int) (s' : lf_Z), iv_A s'.1 s'.2.2 → rq_fq [63, 64, 65, 66, 69] 1000000 false s.1 s.2.2 s'.1 s'.2.2 → 0 ≤ x1 ∧ x1 ≤ 156 → (156 - x1).toNat < M10 → X10 x1 s') (hM10 : (156 - x1).toNat ≤ M10) (hI : iv_A s.1 s.2.2) (bx1 : 0 ≤ x1 ∧ x1 ≤ 155) : fm_121_p33 X10 Q x1 s := by
  unfold fm_121_p33
  exact hX10 (x1 + 1) s hI (rq_fq_rf) (show (0 : Int) ≤ x1 + 1 ∧ x1 + 1 ≤ (156 : Int) from by omega) (show (156 - (x1 + 1)).toNat < M10 from by omega)
theorem rq_121_p10 {X10 : Int → lf_Z → Prop} {Q : lf_Z → Prop} {x1 : Int} {s : lf_Z} (hQ : ∀  (s' : lf_Z), iv_A s'.1 s'.2.2 → rq_fq [63, 64, 65, 66, 69] 1000000 false s.1 s.2.2 s'.1 s'.2.2 → Q  s') {M10 : Nat} (hX10 : ∀ (x1 : Int) (s' : lf_Z), iv_A s'.1 s'.2.2 → rq_fq [63, 64, 65, 66, 69] 1000000 false s.1 s.2.2 s'.1 s'.2.2 → 0 ≤ x1 ∧ x1 ≤ 156 → (156 - x1).toNat < M10 → X10 x1 s') (hM10 : (156 - x1).toNat ≤ M10) (hI : iv_A s.1 s.2.2) (bx1 : 0 ≤ x1 ∧ x1 ≤ 156) : fm_121_p10 Q X10 x1 s := by
  unfold fm_121_p10
  refine ⟨(show lf_R x1 from lf_Rof (by omega)), ?_⟩
  refine ⟨fun c5 => ?_, fun c5 => ?_⟩
  · skip
    replace c5 : 156 ≤ x1 := c5
    obtain ⟨w24, ew24, hww24⟩ := iv_ref0 hI
    refine ⟨w24, ew24, hww24, ?_⟩
    obtain ⟨w25, ew25, hww25⟩ := iv_ref1 hI
    refine ⟨w25, ew25, hww25, ?_⟩
    have hI6 : iv_A s.1 (lf_ur s.2.2 0 (some w25)) := iv_uw0 hI hww25
    have fr7 : rq_fq [63, 64, 65, 66, 69] 1000000 false s.1 s.2.2 s.1 (lf_ur s.2.2 0 (some w25)) := rq_fq_pp (rq_fq_rf) (by decide)
    have hI8 : iv_A s.1 (lf_ur (lf_ur s.2.2 0 (some w25)) 1 (some w24)) := iv_uw1 hI6 hww24
    have fr9 : rq_fq [63, 64, 65, 66, 69] 1000000 false s.1 s.2.2 s.1 (lf_ur (lf_ur s.2.2 0 (some w25)) 1 (some w24)) := rq_fq_pp fr7 (by decide)
    exact hQ (s.1, s.2.1, lf_ur (lf_ur s.2.2 0 (some w25)) 1 (some w24)) hI8 fr9
  · skip
    replace c5 : ¬ (156 ≤ x1) := c5
    obtain ⟨w26, ew26, hww26⟩ := iv_ref0 hI
    refine ⟨w26, ew26, hww26, ?_⟩
    refine ⟨(show (0 : Int) ≤ x1 ∧ x1 < (156 : Int) from by omega), ?_⟩
    refine ⟨fun c10 => ?_, fun c10 => ?_⟩
    · replace c10 : lf_wl (s.2.1 w26 x1) ≤ 0 := c10
      exact rq_121_p33 hQ hX10 (show (156 - x1).toNat ≤ M10 from by omega) hI (show (0 : Int) ≤ x1 ∧ x1 ≤ (155 : Int) from by omega)
    · replace c10 : ¬ (lf_wl (s.2.1 w26 x1) ≤ 0) := c10
      refine sm_122 hI (show (0 : Int) ≤ x1 ∧ x1 ≤ (155 : Int) from by omega) (fun s28 hI12 fr11 => ?_)
      have fr14 : rq_fq [63, 64, 65, 66, 69] 1000000 false s.1 s.2.2 s28.1 s28.2.2 := rq_fq_tr (rq_fq_rf) (rq_fq_wk fr11 rfl (by decide) (by decide))
      exact rq_121_p33 (fun t9 i9 f9 => hQ t9 i9 (rq_fq_tr fr14 f9)) (fun p0 t9 i9 f9 => hX10 p0 t9 i9 (rq_fq_tr fr14 f9)) (show (156 - x1).toNat ≤ M10 from by omega) hI12 (show (0 : Int) ≤ x1 ∧ x1 ≤ (155 : Int) from by omega)
theorem rq_121_p10L {Q : lf_Z → Prop} {x1 : Int} {s : lf_Z} (hQ : ∀  (s' : lf_Z), iv_A s'.1 s'.2.2 → rq_fq [63, 64, 65, 66, 69] 1000000 false s.1 s.2.2 s'.1 s'.2.2 → Q  s') (hI : iv_A s.1 s.2.2) (bx1 : 0 ≤ x1 ∧ x1 ≤ 156) : fm_121_p10L Q x1 s := by
  intro X10 hX
  have key : ∀ (m9 : Nat) (x1 : Int) (s' : lf_Z), iv_A s'.1 s'.2.2 → rq_fq [63, 64, 65, 66, 69] 1000000 false s.1 s.2.2 s'.1 s'.2.2 → 0 ≤ x1 ∧ x1 ≤ 156 → (156 - x1).toNat < m9 → X10 x1 s' := by
    intro m9
    induction m9 with
    | zero => intro x1 s' _ _ bx1 h9; exact absurd h9 (Nat.not_lt_zero _)
    | succ m9 ih => intro x1 s' i7 f7 bx1 h9; exact hX _ _ (rq_121_p10 (fun t9 i9 f9 => hQ t9 i9 (rq_fq_tr f7 f9))   (fun x1' t8 i8 f8 bx1' h8 => ih x1' t8 i8 (rq_fq_tr f7 f8) bx1' (by omega)) (Nat.le_refl _)  i7  bx1  )
  exact key _ _ s hI rq_fq_rf bx1 (Nat.lt_succ_self _)
theorem rq_121 {Q : lf_Z → Prop} {s : lf_Z} (hI : iv_A s.1 s.2.2) (hQ : ∀  (s' : lf_Z), iv_A s'.1 s'.2.2 → rq_fq [63, 64, 65, 66, 69] 1000000 false s.1 s.2.2 s'.1 s'.2.2 → Q  s') : fm_121 Q s := by
  unfold fm_121
  obtain ⟨w21, ew21, hww21⟩ := iv_ref1 hI
  refine ⟨w21, ew21, hww21, ?_⟩
  refine sm_119 hww21 hI (fun s22 hI2 fr1 => ?_)
  have fr4 : rq_fq [63, 64, 65, 66, 69] 1000000 false s.1 s.2.2 s22.1 s22.2.2 := rq_fq_tr (rq_fq_rf) (rq_fq_wk fr1 rfl (by decide) (by decide))
  exact rq_121_p10L (fun t9 i9 f9 => hQ t9 i9 (rq_fq_tr fr4 f9)) hI2 (show (0 : Int) ≤ 0 ∧ 0 ≤ (156 : Int) from by omega)
theorem rq_117_p50 {X50 : Int → Int → lf_Z → Prop} {Q : Int → lf_Z → Prop} {x3 : Int} {x4 : Int} {x6 : Int} {s : lf_Z} (hQ : ∀ (r : Int) (s' : lf_Z), iv_A s'.1 s'.2.2 → rq_fq [63, 64, 65, 66, 68, 69] 1000000 false s.1 s.2.2 s'.1 s'.2.2 → Q r s') {M50 : Nat} (hX50 : ∀ (x4 : Int) (x6 : Int) (s' : lf_Z), iv_A s'.1 s'.2.2 → rq_fq [63, 64, 65, 66, 68, 69] 1000000 false s.1 s.2.2 s'.1 s'.2.2 → 0 ≤ x6 ∧ x6 ≤ 13 → (13 - x6).toNat < M50 → X50 x4 x6 s') (hM50 : (13 - x6).toNat ≤ M50) (hI : iv_A s.1 s.2.2) (bx3 : 0 ≤ x3 ∧ x3 ≤ 11) (bx6 : 0 ≤ x6 ∧ x6 ≤ 13) : fm_117_p50 Q x3 X50 x4 x6 s := by
  unfold fm_117_p50
  refine ⟨(show lf_R x6 from lf_Rof (by omega)), ?_⟩
  refine ⟨fun c14 => ?_, fun c14 => ?_⟩
  · skip
    replace c14 : 13 ≤ x6 := c14
    exact hQ (lf_wl x4) s hI (rq_fq_rf)
  · skip
    replace c14 : ¬ (13 ≤ x6) := c14
    obtain ⟨w31, ew31, hww31⟩ := iv_ref0 hI
    refine ⟨w31, ew31, hww31, ?_⟩
    refine ⟨(show (0 : Int) ≤ (x3 * 13) + x6 ∧ (x3 * 13) + x6 < (156 : Int) from by omega), ?_⟩
    exact hX50 (lf_wl ((lf_wl x4) + (lf_wl (s.2.1 w31 ((x3 * 13) + x6))))) (x6 + 1) s hI (rq_fq_rf) (show (0 : Int) ≤ x6 + 1 ∧ x6 + 1 ≤ (13 : Int) from by omega) (show (13 - (x6 + 1)).toNat < M50 from by omega)
theorem rq_117_p50L {Q : Int → lf_Z → Prop} {x3 : Int} {x4 : Int} {x6 : Int} {s : lf_Z} (hQ : ∀ (r : Int) (s' : lf_Z), iv_A s'.1 s'.2.2 → rq_fq [63, 64, 65, 66, 68, 69] 1000000 false s.1 s.2.2 s'.1 s'.2.2 → Q r s') (hI : iv_A s.1 s.2.2) (bx3 : 0 ≤ x3 ∧ x3 ≤ 11) (bx6 : 0 ≤ x6 ∧ x6 ≤ 13) : fm_117_p50L Q x3 x4 x6 s := by
  intro X50 hX
  have key : ∀ (m9 : Nat) (x4 : Int) (x6 : Int) (s' : lf_Z), iv_A s'.1 s'.2.2 → rq_fq [63, 64, 65, 66, 68, 69] 1000000 false s.1 s.2.2 s'.1 s'.2.2 → 0 ≤ x6 ∧ x6 ≤ 13 → (13 - x6).toNat < m9 → X50 x4 x6 s' := by
    intro m9
    induction m9 with
    | zero => intro x4 x6 s' _ _ bx6 h9; exact absurd h9 (Nat.not_lt_zero _)
    | succ m9 ih => intro x4 x6 s' i7 f7 bx6 h9; exact hX _ _ _ (rq_117_p50 (fun r9 t9 i9 f9 => hQ r9 t9 i9 (rq_fq_tr f7 f9))   (fun x4' x6' t8 i8 f8 bx6' h8 => ih x4' x6' t8 i8 (rq_fq_tr f7 f8) bx6' (by omega)) (Nat.le_refl _)  i7  bx3 bx6  )
  exact key _ _ _ s hI rq_fq_rf bx6 (Nat.lt_succ_self _)
theorem rq_117_p28 {X28 : Int → lf_Z → Prop} {Q : Int → lf_Z → Prop} {x2 : Int} {x3 : Int} {x4 : Int} {s : lf_Z} (hQ : ∀ (r : Int) (s' : lf_Z), iv_A s'.1 s'.2.2 → rq_fq [63, 64, 65, 66, 68, 69] 1000000 false s.1 s.2.2 s'.1 s'.2.2 → Q r s') {M28 : Nat} (hX28 : ∀ (x4 : Int) (s' : lf_Z), iv_A s'.1 s'.2.2 → rq_fq [63, 64, 65, 66, 68, 69] 1000000 false s.1 s.2.2 s'.1 s'.2.2 → 0 ≤ x4 ∧ x4 ≤ 4 → (4 - x4).toNat < M28 → X28 x4 s') (hM28 : (4 - x4).toNat ≤ M28) (hI : iv_A s.1 s.2.2) (bx2 : 0 ≤ x2 ∧ x2 ≤ 4) (bx3 : 0 ≤ x3 ∧ x3 ≤ 11) (bx4 : 0 ≤ x4 ∧ x4 ≤ 4) : fm_117_p28 Q x2 x3 X28 x4 s := by
  unfold fm_117_p28
  refine ⟨(show lf_R x4 from lf_Rof (by omega)), ?_⟩
  refine ⟨(show lf_R x2 from lf_Rof (by omega)), ?_⟩
  refine ⟨fun c13 => ?_, fun c13 => ?_⟩
  · skip
    replace c13 : x2 ≤ x4 := c13
    exact rq_117_p50L hQ hI (show (0 : Int) ≤ x3 ∧ x3 ≤ (11 : Int) from by omega) (show (0 : Int) ≤ 0 ∧ 0 ≤ (13 : Int) from by omega)
  · skip
    replace c13 : ¬ (x2 ≤ x4) := c13
    refine rq_121 hI (fun s33 hI16 fr15 => ?_)
    have fr18 : rq_fq [63, 64, 65, 66, 68, 69] 1000000 false s.1 s.2.2 s33.1 s33.2.2 := rq_fq_tr (rq_fq_rf) (rq_wq fr15 rfl (by decide) (by decide))
    exact hX28 (x4 + 1) s33 hI16 fr18 (show (0 : Int) ≤ x4 + 1 ∧ x4 + 1 ≤ (4 : Int) from by omega) (show (4 - (x4 + 1)).toNat < M28 from by omega)
theorem rq_117_p28L {Q : Int → lf_Z → Prop} {x2 : Int} {x3 : Int} {x4 : Int} {s : lf_Z} (hQ : ∀ (r : Int) (s' : lf_Z), iv_A s'.1 s'.2.2 → rq_fq [63, 64, 65, 66, 68, 69] 1000000 false s.1 s.2.2 s'.1 s'.2.2 → Q r s') (hI : iv_A s.1 s.2.2) (bx2 : 0 ≤ x2 ∧ x2 ≤ 4) (bx3 : 0 ≤ x3 ∧ x3 ≤ 11) (bx4 : 0 ≤ x4 ∧ x4 ≤ 4) : fm_117_p28L Q x2 x3 x4 s := by
  intro X28 hX
  have key : ∀ (m9 : Nat) (x4 : Int) (s' : lf_Z), iv_A s'.1 s'.2.2 → rq_fq [63, 64, 65, 66, 68, 69] 1000000 false s.1 s.2.2 s'.1 s'.2.2 → 0 ≤ x4 ∧ x4 ≤ 4 → (4 - x4).toNat < m9 → X28 x4 s' := by
    intro m9
    induction m9 with
    | zero => intro x4 s' _ _ bx4 h9; exact absurd h9 (Nat.not_lt_zero _)
    | succ m9 ih => intro x4 s' i7 f7 bx4 h9; exact hX _ _ (rq_117_p28 (fun r9 t9 i9 f9 => hQ r9 t9 i9 (rq_fq_tr f7 f9))   (fun x4' t8 i8 f8 bx4' h8 => ih x4' t8 i8 (rq_fq_tr f7 f8) bx4' (by omega)) (Nat.le_refl _)  i7  bx2 bx3 bx4  )
  exact key _ _ s hI rq_fq_rf bx4 (Nat.lt_succ_self _)
theorem rq_117 {a1 : Int} {a2 : Int} {a3 : Int} {Q : Int → lf_Z → Prop} {s : lf_Z} (hI : iv_A s.1 s.2.2) (ba1 : 0 ≤ a1 ∧ a1 ≤ 3) (ba2 : 0 ≤ a2 ∧ a2 ≤ 4) (ba3 : 0 ≤ a3 ∧ a3 ≤ 11) (kp0 : 0 < s.1 16 a1) (hQ : ∀ (r : Int) (s' : lf_Z), iv_A s'.1 s'.2.2 → rq_fq [63, 64, 65, 66, 68, 69] 1000000 false s.1 s.2.2 s'.1 s'.2.2 → Q r s') : fm_117 a1 a2 a3 Q s := by
  unfold fm_117
  refine sm_118 hI (show (0 : Int) ≤ a1 ∧ a1 ≤ (3 : Int) from by omega) (show (0 : Int) ≤ 0 ∧ 0 ≤ (9 : Int) from by omega) (fun s21 hI2 fr1 => ?_)
  have fr4 : rq_fq [63, 64, 65, 66, 68, 69] 1000000 false s.1 s.2.2 s21.1 s21.2.2 := rq_fq_tr (rq_fq_rf) (rq_fq_wk fr1 rfl (by decide) (by decide))
  obtain ⟨w22, ew22, hww22⟩ := iv_ref0 hI2
  refine ⟨w22, ew22, hww22, ?_⟩
  refine sm_119 hww22 hI2 (fun s23 hI6 fr5 => ?_)
  have fr8 : rq_fq [63, 64, 65, 66, 68, 69] 1000000 false s.1 s.2.2 s23.1 s23.2.2 := rq_fq_tr fr4 (rq_fq_wk fr5 rfl (by decide) (by decide))
  obtain ⟨w24, ew24, hww24⟩ := iv_ref0 hI6
  refine ⟨w24, ew24, hww24, ?_⟩
  have b9 : (-2147483648) ≤ s23.1 16 a1 ∧ s23.1 16 a1 ≤ 2147483647 := iv_full hI6
  have b10 : s23.1 16 a1 = s21.1 16 a1 := congrFun (fr5.1 16 rfl) _
  have b11 : s21.1 16 a1 = s.1 16 a1 := congrFun (fr1.1 16 rfl) _
  refine sm_120 hI6 (show (0 : Int) ≤ a1 ∧ a1 ≤ (3 : Int) from by omega) (show 0 < (s23.1 16 a1) from by omega) (fun r26 q12 => ?_)
  refine ⟨(show (0 : Int) ≤ r26 ∧ r26 < (156 : Int) from by omega), ?_⟩
  exact rq_117_p28L (fun r9 t9 i9 f9 => hQ r9 t9 i9 (rq_fq_tr fr8 f9)) hI6 (show (0 : Int) ≤ a2 ∧ a2 ≤ (4 : Int) from by omega) (show (0 : Int) ≤ a3 ∧ a3 ≤ (11 : Int) from by omega) (show (0 : Int) ≤ 0 ∧ 0 ≤ (4 : Int) from by omega)
theorem rq_116_p31 {Q : Int → lf_Z → Prop} {s : lf_Z} (hQ : ∀ (r : Int) (s' : lf_Z), iv_A s'.1 s'.2.2 → rq_fq [63, 64, 65, 66, 68, 69] 1000000 false s.1 s.2.2 s'.1 s'.2.2 → Q r s') (hI : iv_A s.1 s.2.2) : fm_116_p31 Q s := by
  unfold fm_116_p31
  exact hQ (-1) s hI (rq_fq_rf)
theorem rq_116 {a1 : Int} {a2 : Int} {a3 : Int} {a4 : Int} {Q : Int → lf_Z → Prop} {s : lf_Z} (hI : iv_A s.1 s.2.2) (ba1 : (-2147483648) ≤ a1 ∧ a1 ≤ 2147483647) (ba2 : (-2147483648) ≤ a2 ∧ a2 ≤ 2147483647) (ba3 : (-2147483648) ≤ a3 ∧ a3 ≤ 2147483647) (ba4 : 0 ≤ a4 ∧ a4 ≤ 1) (hQ : ∀ (r : Int) (s' : lf_Z), iv_A s'.1 s'.2.2 → rq_fq [63, 64, 65, 66, 68, 69] 1000000 false s.1 s.2.2 s'.1 s'.2.2 → Q r s') : fm_116 a1 a2 a3 a4 Q s := by
  unfold fm_116
  refine sm_80 hI (show (-2147483648 : Int) ≤ a1 ∧ a1 ≤ (2147483647 : Int) from by omega) (fun z22 q1 => ?_)
  have b2 : (-2147483648) ≤ s.1 16 a1 ∧ s.1 16 a1 ≤ 2147483647 := iv_full hI
  refine ⟨fun c3 => ?_, fun c3 => ?_⟩
  · skip
    have dc3 := q1.2 c3
    exact rq_116_p31 hQ hI
  · skip
    have dc3 := q1.1 c3
    refine sm_15 hI (show (-2147483648 : Int) ≤ a2 ∧ a2 ≤ (2147483647 : Int) from by omega) (show (-1 : Int) ≤ 0 ∧ 0 ≤ (99 : Int) from by omega) (show (-2147483648 : Int) ≤ 4 ∧ 4 ≤ (2147483647 : Int) from by omega) (fun z24 q4 => ?_)
    refine ⟨fun c5 => ?_, fun c5 => ?_⟩
    · skip
      have dc5 := q4.2 c5
      exact rq_116_p31 hQ hI
    · skip
      have dc5 := q4.1 c5
      refine sm_18 hI (show (-2147483648 : Int) ≤ a3 ∧ a3 ≤ (2147483647 : Int) from by omega) (fun z26 q6 => ?_)
      have b7 : 0 ≤ s.1 1 0 ∧ s.1 1 0 ≤ 12 := iv_r1_0 hI
      refine ⟨fun c8 => ?_, fun c8 => ?_⟩
      · skip
        have dc8 := q6.1 c8
        refine rq_117 hI (show (0 : Int) ≤ a1 ∧ a1 ≤ (3 : Int) from by omega) (show (0 : Int) ≤ a2 ∧ a2 ≤ (4 : Int) from by omega) (show (0 : Int) ≤ a3 ∧ a3 ≤ (11 : Int) from by omega) (show 0 < (s.1 16 a1) from by omega) (fun r28 s27 hI10 fr9 => ?_)
        have fr12 : rq_fq [63, 64, 65, 66, 68, 69] 1000000 false s.1 s.2.2 s27.1 s27.2.2 := rq_fq_tr (rq_fq_rf) (rq_wq fr9 rfl (by decide) (by decide))
        refine sm_124 hI10 (show (0 : Int) ≤ a2 ∧ a2 ≤ (4 : Int) from by omega) (fun r30 => ?_)
        refine sm_125 hI10 (show (0 : Int) ≤ a4 ∧ a4 ≤ (1 : Int) from by omega) (fun r32 => ?_)
        exact hQ (lf_wl r32) s27 hI10 fr12
      · skip
        have dc8 := q6.2 c8
        exact rq_116_p31 hQ hI
end RQ
section RQX
variable {l : List Nat} {w : Int} {b : Bool} {I I' : Nat → Int → Int} {P P' : Nat → Option Nat}
theorem gx_f3 (h : gx_A I P) (q : lf_fq l w b I P I' P') (hl : l.all gx_fr = true) (h3 : P' 3 = P 3) : gx_A I' P' := gx_q (fun c hc _ => q.1 c (gx_nf hl hc)) (fun i _ _ => by rw [q.1 95 (gx_nf hl rfl)]) (gx_9c (q.1 95 (gx_nf hl rfl)) h.2.2.2.2.2.2.2.2) h h3
theorem gx_116 {a1 : Int} {a2 : Int} {a3 : Int} {a4 : Int} {Q : Int → lf_Z → Prop} {s : lf_Z} (hI : iv_A s.1 s.2.2) (ba1 : (-2147483648) ≤ a1 ∧ a1 ≤ 2147483647) (ba2 : (-2147483648) ≤ a2 ∧ a2 ≤ 2147483647) (ba3 : (-2147483648) ≤ a3 ∧ a3 ≤ 2147483647) (ba4 : 0 ≤ a4 ∧ a4 ≤ 1) (hA : gx_A s.1 s.2.2) (hQ : ∀ (r : Int) (s' : lf_Z), iv_A s'.1 s'.2.2 → lf_fq [63, 64, 65, 66, 68, 69] 1000000 false s.1 s.2.2 s'.1 s'.2.2 → gx_A s'.1 s'.2.2 → Q r s') : fm_116 a1 a2 a3 a4 Q s := rq_116 hI ba1 ba2 ba3 ba4 (fun r s' h1 h2 => hQ r s' h1 h2.1 (gx_f3 hA h2.1 rfl h2.2))
end RQX
/-! small things for the law's loop -/
section GZ
variable {p : Int → Prop} {r : Int} {I : Nat → Int → Int} {P : Nat → Option Nat} {x1 x2 x3 x4 y1 y2 y3 y4 v : Int}
abbrev gx_Y : Type := (Nat → Int → Int) → (Nat → Option Nat) → Prop
/-- a cell of the script as yes or no -/
def gx_z (v : Int) : Int := if v = 0 then 0 else 1
theorem gx_zz (h : (y1 = 0 ∧ v = 0) ∨ (y1 = 1 ∧ v ≠ 0)) : y1 = gx_z v := by
  unfold gx_z
  rcases h with ⟨a, b⟩ | ⟨a, b⟩
  · rw [if_pos b, a]
  · rw [if_neg b, a]
theorem gx_a2 {R : Int → Int → Int → gx_Y} (h1 : x1 = y1) (h2 : x2 = y2) (hp : p r) (h : R x1 x2 r I P) : gx_MP (R y1 y2) p I P := by
  rw [← h1, ← h2]; exact ⟨r, hp, h⟩
theorem gx_a3 {R : Int → Int → Int → Int → gx_Y} (h1 : x1 = y1) (h2 : x2 = y2) (h3 : x3 = y3) (hp : p r) (h : R x1 x2 x3 r I P) : gx_MP (R y1 y2 y3) p I P := by
  rw [← h1, ← h2, ← h3]; exact ⟨r, hp, h⟩
theorem gx_a4 {R : Int → Int → Int → Int → Int → gx_Y} (h1 : x1 = y1) (h2 : x2 = y2) (h3 : x3 = y3) (h4 : x4 = y4) (hp : p r) (h : R x1 x2 x3 x4 r I P) : gx_MP (R y1 y2 y3 y4) p I P := by
  rw [← h1, ← h2, ← h3, ← h4]; exact ⟨r, hp, h⟩
theorem gx_b2 {R : Int → Int → (Int → Prop) → gx_Y} (h1 : x1 = y1) (h2 : x2 = y2) (h : R y1 y2 p I P) : R x1 x2 p I P := by
  rw [h1, h2]; exact h
theorem gx_b3 {R : Int → Int → Int → (Int → Prop) → gx_Y} (h1 : x1 = y1) (h2 : x2 = y2) (h3 : x3 = y3) (h : R y1 y2 y3 p I P) : R x1 x2 x3 p I P := by
  rw [h1, h2, h3]; exact h
theorem gx_b4 {R : Int → Int → Int → Int → (Int → Prop) → gx_Y} (h1 : x1 = y1) (h2 : x2 = y2) (h3 : x3 = y3) (h4 : x4 = y4) (h : R y1 y2 y3 y4 p I P) : R x1 x2 x3 x4 p I P := by
  rw [h1, h2, h3, h4]; exact h
end GZ
