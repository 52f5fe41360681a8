/-! the other calls within the law: tape, texts, sights, mending, tries, image, a text played -/
section GN
variable {J K M : Nat → Int → Int} {s t u : lf_Z} {f f' g A B sv sw F S S' : Int → Int} {H H' G : List rr_H} {X : mn_X} {I I' C C' : Nat → Int → Int} {P P' : Nat → Option Nat} {o : Option Nat} {a b c d e r j n w x : Int} {T T' : Int → Int} {D : List Int} {l : List Nat} {bb : Bool} {p : Int → Prop} {z : Bool}
theorem gx_nc {c : Nat} (h : ∀ x ∈ l, x ≠ c) : l.contains c = false := by
  cases q : l.contains c with
  | false => rfl
  | true =>
    have m : c ∈ l := by simpa using q
    exact absurd rfl (h c m)
theorem bd_t {P Q : Prop} [Decidable P] [Decidable Q] (h : (decide P && decide Q) = true) : P ∧ Q := by
  rw [Bool.and_eq_true, decide_eq_true_eq, decide_eq_true_eq] at h
  exact h
theorem bd_f {P Q : Prop} [Decidable P] [Decidable Q] (h : (decide P && decide Q) = false) : ¬ (P ∧ Q) := fun y => by
  rw [decide_eq_true y.1, decide_eq_true y.2] at h
  cases h
theorem gx_w {e : Int} (h : -2147483648 ≤ e ∧ e ≤ 2147483647) : lf_w e = e := Int32.toInt_ofInt_of_le h.1 (Int.lt_add_one_of_le h.2)
/-- all but the tape -/
def gx_E (I : Nat → Int → Int) (o : Option Nat) : Prop := gx_1 I ∧ gx_2 I ∧ gx_i I ∧ gx_x I o ∧ tr_A I ∧ gx_7 I ∧ gx_8 I ∧ gx_9 I
theorem gx_AE (h : gx_A I P) : gx_E I (P 3) ∧ tp_A I := ⟨⟨h.1, h.2.1, h.2.2.1, h.2.2.2.1, h.2.2.2.2.2.1, h.2.2.2.2.2.2.1, h.2.2.2.2.2.2.2.1, h.2.2.2.2.2.2.2.2⟩, h.2.2.2.2.1⟩
theorem gx_EA (h : gx_E I (P 3)) (k : tp_A I) : gx_A I P := ⟨h.1, h.2.1, h.2.2.1, h.2.2.2.1, k, h.2.2.2.2.1, h.2.2.2.2.2.1, h.2.2.2.2.2.2.1, h.2.2.2.2.2.2.2⟩
theorem gx_Ec (q : ∀ c : Nat, ((c < 31 ∧ c ≠ 14) ∨ (35 ≤ c ∧ c < 63) ∨ (78 ≤ c ∧ c < 95) ∨ (96 ≤ c ∧ c ≤ 98)) → I' c = I c) (q9 : gx_9 I') (h : gx_E I o) : gx_E I' o := by
  obtain ⟨h1, h2, h3, h4, h5, h6, h7, _⟩ := h
  exact ⟨gx_1c (fun c y => q c (by omega)) h1, gx_2c (q 1 (by omega)) (q 78 (by omega)) h2, gx_ic (fun c y => q c (by omega)) h3, gx_xc (fun c y => q c (by omega)) h4, tr_Ac (fun c y => q c (by omega)) (fun i _ => by rw [q 96 (by omega)]) h5, gx_7c (fun c y => q c (by omega)) (by rw [q 1 (by omega)]; exact Int.le_refl _) (fun i _ => by rw [q 96 (by omega)]) h6, gx_8c (fun c y => q c (by omega)) h7, q9⟩
theorem gx_9e (h : gx_9 I) (q : ∀ i : Int, i ≠ 4 → I' 95 i = I 95 i) : gx_9 I' := by
  unfold gx_9 zq_9 at *
  rw [q 29 (by decide), q 31 (by decide), q 30 (by decide)]
  exact h
/-- the reference's half in other cells of its row -/
theorem gr_Tx (hW : mn_W J) (hH : mi_H J H) (e : ∀ i : Int, ((0 ≤ i ∧ i ≤ 3) ∨ i = 6 ∨ i = 9 ∨ (14 ≤ i ∧ i < 162) ∨ 278 ≤ i) → B i = A i) (hm : gr_m (J 1 1) sw B) (h : gr_T sv J f H A) : gr_T sw J f H B := by
  obtain ⟨w0, w1, w2, _⟩ := hW
  obtain ⟨⟨l0, l1, l2, l3, l4, l5⟩, ⟨s1, s2, s3, s4, s5, s6⟩, ⟨h1, h2⟩, _⟩ := h
  have hl := hH.1
  refine ⟨⟨(e 0 (by omega)).trans l0, (e 1 (by omega)).trans l1, (e 2 (by omega)).trans l2, fun q q0 q1 => ?_, fun q q0 q1 => ?_, fun q q0 q1 => ?_⟩, ⟨(e 3 (by omega)).trans s1, (e 6 (by omega)).trans s2, fun b b0 b1 => ⟨(e _ (by omega)).trans (s3 b b0 b1).1, fun q => ⟨(e _ (by omega)).trans ((s3 b b0 b1).2 q).1, (e _ (by omega)).trans ((s3 b b0 b1).2 q).2⟩⟩, fun p p0 p1 => ⟨(e _ (by omega)).trans (s4 p p0 p1).1, (e _ (by omega)).trans (s4 p p0 p1).2⟩, fun s s0 s1 => (e _ (by omega)).trans (s5 s s0 s1), fun w x0 x1 => (e _ (by omega)).trans (s6 w x0 x1)⟩, ⟨(e 9 (by omega)).trans h1, rr_hsC H (fun h hh => Int.le_trans (hH.2 h hh).2.1.2 w1.2) (fun i i0 i1 => e i (by omega)) h2⟩, hm⟩
  · exact ⟨(e _ (by omega)).trans (l3 q q0 q1).1, (e _ (by omega)).trans (l3 q q0 q1).2⟩
  · exact ⟨(e _ (by omega)).trans (l4 q q0 q1).1, (e _ (by omega)).trans (l4 q q0 q1).2.1, (e _ (by omega)).trans (l4 q q0 q1).2.2⟩
  · exact ⟨(e _ (by omega)).trans (l5 q q0 q1).1, (e _ (by omega)).trans (l5 q q0 q1).2.1, (e _ (by omega)).trans (l5 q q0 q1).2.2.1, (e _ (by omega)).trans (l5 q q0 q1).2.2.2⟩
theorem gr_fe (e4 : ∀ i : Int, fr_g 4 i → B i = A i) (e5 : ∀ i : Int, fr_g 5 i → B i = A i) (e6 : ∀ i : Int, fr_g 6 i → B i = A i) (i : Int) (h : (0 ≤ i ∧ i ≤ 3) ∨ i = 6 ∨ i = 9 ∨ (14 ≤ i ∧ i < 162) ∨ 278 ≤ i) : B i = A i := by
  by_cases c5 : i = 9 ∨ 278 ≤ i
  · exact e5 i c5
  · by_cases c6 : i = 3 ∨ i = 6 ∨ (14 ≤ i ∧ i < 50 ∧ (i - 14) % 3 = 2) ∨ (50 ≤ i ∧ i < 114 ∧ (i - 50) % 4 = 3) ∨ (114 ≤ i ∧ i < 126) ∨ (126 ≤ i ∧ i < 162 ∧ ((i - 126) % 6 = 3 ∨ (i - 126) % 6 = 4))
    · exact e6 i c6
    · exact e4 i (show i = 0 ∨ i = 1 ∨ i = 2 ∨ (14 ≤ i ∧ i < 50 ∧ (i - 14) % 3 ≠ 2) ∨ (50 ≤ i ∧ i < 114 ∧ (i - 50) % 4 ≠ 3) ∨ (126 ≤ i ∧ i < 162 ∧ (i - 126) % 6 ≠ 3 ∧ (i - 126) % 6 ≠ 4) by omega)
theorem gx_1f (q : ∀ c : Nat, ((1 ≤ c ∧ c < 14) ∨ (15 ≤ c ∧ c < 25) ∨ c = 28) → I' c = I c) (e2 : ∀ i : Int, fr_g 2 i → I' 96 i = I 96 i) (e4 : ∀ i : Int, fr_g 4 i → I' 96 i = I 96 i) (e5 : ∀ i : Int, fr_g 5 i → I' 96 i = I 96 i) (e6 : ∀ i : Int, fr_g 6 i → I' 96 i = I 96 i) (h : gx_1 I) : gx_1 I' := by
  obtain ⟨f, H, h1, h2, h3⟩ := h
  have g : gj_e I I' := fun c c0 c1 => q c (by omega)
  refine ⟨f, H, gf_Te g h1, gc_Te (fun c c0 c1 => q c (by omega)) h2, ?_⟩
  rw [q 28 (by omega)]
  exact gr_Te g (gr_Tx h1.1.1 h1.2.2 (gr_fe e4 e5 e6) (gr_me h1.1.1.2.1.2 (fun i i0 i1 => e2 i ⟨i0, i1⟩) h3.2.2.2) h3)
theorem tz_195b {Q : Int → lf_Z → Prop} (h0 : 0 ≤ s.1 95 4) (hn : s.1 95 4 ≤ 300) (hb : cl_tp (s.1 99) (s.1 95 4)) (k4 : s.1 96 7 = 4 → Q (-1) s) (kk : s.1 96 7 ≠ 4 → ∀ (w : Int) (t : lf_Z), (∀ j : Int, j < 705 * s.1 96 7 → t.1 98 j = s.1 98 j) → (w ≠ -1 → w = s.1 96 7 ∧ rs_X (s.1 99) (s.1 95 4) (t.1 98) (705 * s.1 96 7) (tx_ps (s.1 99) (s.1 95 4) tx_g0 301 (lx_sk (s.1 99) (s.1 95 4) 0))) → (∀ i : Int, 24 < i → t.1 95 i = s.1 95 i) → Q w t) : fw_195 Q s := by
  unfold fw_195
  intro _
  refine ⟨fun c => tz_196 rfl h0 hn hb (fun v t tL tX => ?_), fun c => k4 (Classical.not_not.mp c)⟩
  have kk := kk c
  have t96 : t.1 96 = s.1 96 := tL.1.1 96 (by decide) (by decide) (by decide) (by decide) (by decide) (by decide)
  have t95 : ∀ i : Int, 24 < i → t.1 95 i = s.1 95 i := fun i hi => tL.1.2.1 i (by omega) (by omega)
  intro _
  have e5 : ∀ {x : Int}, ((lf_up t.1 95 5 x, t.2.1, t.2.2) : lf_Z).1 95 5 = x := zu_s
  have e96 : ∀ {x : Int}, ((lf_up t.1 95 5 x, t.2.1, t.2.2) : lf_Z).1 96 = t.1 96 := zu_r (by decide)
  refine ⟨fun y => ?_, fun y => ?_⟩
  · unfold fw_195_p37
    rw [e5]
    intro _
    refine ⟨fun w => absurd w y, fun _ => kk _ _ (fun j hj => ?_) (fun w => absurd rfl w) (fun i hi => ?_)⟩
    · exact (zu_c (by decide)).trans ((lf_up_c (by decide)).trans ((zu_c (by decide)).trans (tL.2 j hj)))
    · exact (zu_i (by omega)).trans ((lf_up_i (by omega)).trans ((zu_i (by omega)).trans (t95 i hi)))
  · have y := Classical.not_not.mp y
    unfold fw_195_p37
    rw [e5, e96, t96]
    intro _
    refine ⟨fun _ => kk _ _ (fun j hj => ?_) (fun _ => ⟨by omega, ?_⟩) (fun i hi => ?_), fun w => absurd y w⟩
    · exact (zu_c (by decide)).trans ((lf_up_c (by decide)).trans ((lf_up_c (by decide)).trans ((zu_c (by decide)).trans (tL.2 j hj))))
    · have e : ∀ x y z w : Int, ((lf_up (lf_up (lf_up (lf_up t.1 95 5 x) 95 6 y) 95 4 z) 96 7 w) : Nat → Int → Int) 98 = t.1 98 := fun x y z w => (lf_up_row (by decide)).trans ((lf_up_row (by decide)).trans ((lf_up_row (by decide)).trans (lf_up_row (by decide))))
      have X := tX y
      rw [← e v (-1) 0 (s.1 96 7 + 1)] at X
      exact X
    · exact (zu_c (by decide)).trans ((lf_up_i (by omega)).trans ((lf_up_i (by omega)).trans ((zu_i (by omega)).trans (t95 i hi))))
/-! feed, end -/
def gx_S25 (a1 a2 a3 a4 a5 : Int) (r : Int) (I : Nat → Int → Int) (P : Nat → Option Nat) : Prop := gx_E I (P 3) ∧ tp_FM a1 a2 a3 a4 a5 r I
def gx_R25 (a1 a2 a3 a4 a5 : Int) (p : Int → Prop) (I : Nat → Int → Int) (P : Nat → Option Nat) : Prop := gx_MP (gx_S25 a1 a2 a3 a4 a5) p I P
theorem gx_25 {a1 a2 a3 a4 a5 : Int} {Q : Int → lf_Z → Prop} (hI : iv_A s.1 s.2.2) (ba1 : (-2147483648) ≤ a1 ∧ a1 ≤ 2147483647) (ba2 : (-2147483648) ≤ a2 ∧ a2 ≤ 2147483647) (ba3 : (-2147483648) ≤ a3 ∧ a3 ≤ 2147483647) (ba4 : (-2147483648) ≤ a4 ∧ a4 ≤ 2147483647) (ba5 : (-2147483648) ≤ a5 ∧ a5 ≤ 2147483647) (hA : gx_A s.1 s.2.2) (hQ : ∀ (r : Int) (s' : lf_Z), iv_A s'.1 s'.2.2 → lf_fq [31, 32] 1000000 true s.1 s.2.2 s'.1 s'.2.2 → gx_S25 a1 a2 a3 a4 a5 r s'.1 s'.2.2 → ((-1) ≤ r ∧ r ≤ 300) → Q r s') : fm_25 a1 a2 a3 a4 a5 Q s := by
  obtain ⟨hE, hT⟩ := gx_AE hA
  refine tp_25 hI ba1 ba2 ba3 ba4 ba5 (fun r s' h1 h2 h3 h4 => hQ r s' h1 h2 ⟨?_, tp_f1 hT h2 h3⟩ h4)
  rw [h2.2.2.1 rfl]
  exact gx_Ec (fun c y => h2.1 c (gx_nc (by simp; omega))) (gx_9c (h2.1 95 rfl) hE.2.2.2.2.2.2.2) hE
theorem gx_192 {a1 a2 a3 a4 a5 : Int} {Q : Int → lf_Z → Prop} (hI : iv_A s.1 s.2.2) (ba1 : (-2147483648) ≤ a1 ∧ a1 ≤ 2147483647) (ba2 : (-2147483648) ≤ a2 ∧ a2 ≤ 2147483647) (ba3 : (-2147483648) ≤ a3 ∧ a3 ≤ 2147483647) (ba4 : (-2147483648) ≤ a4 ∧ a4 ≤ 2147483647) (ba5 : (-2147483648) ≤ a5 ∧ a5 ≤ 2147483647) (hM : gx_R25 a1 a2 a3 a4 a5 p s.1 s.2.2) (hQ : ∀ (r : Int) (s' : lf_Z), iv_A s'.1 s'.2.2 → lf_fq [95, 99] 1000000 true s.1 s.2.2 s'.1 s'.2.2 → (gx_p p r ∧ gx_A s'.1 s'.2.2) → ((-1) ≤ r ∧ r ≤ 300) → Q r s') : fm_192 a1 a2 a3 a4 a5 Q s := by
  obtain ⟨r0, hp, hE, hT⟩ := hM
  refine tp_192 hI ba1 ba2 ba3 ba4 ba5 (fun r s' h1 h2 h3 h4 => hQ r s' h1 h2 ⟨(tp_f2 hT h2 h3).1 ▸ hp, gx_EA ?_ (tp_f2 hT h2 h3).2⟩ h4)
  rw [h2.2.2.1 rfl]
  exact gx_Ec (fun c y => h2.1 c (gx_nc (by simp; omega))) (gx_9e hE.2.2.2.2.2.2.2 h3.2) hE
def gx_S27 (a1 : Int) (r : Int) (I : Nat → Int → Int) (P : Nat → Option Nat) : Prop := gx_E I (P 3) ∧ tp_EM a1 r I
def gx_R27 (a1 : Int) (p : Int → Prop) (I : Nat → Int → Int) (P : Nat → Option Nat) : Prop := gx_MP (gx_S27 a1) p I P
theorem gx_27 {a1 : Int} {Q : Int → lf_Z → Prop} (hI : iv_A s.1 s.2.2) (ba1 : (-2147483648) ≤ a1 ∧ a1 ≤ 2147483647) (hA : gx_A s.1 s.2.2) (hQ : ∀ (r : Int) (s' : lf_Z), iv_A s'.1 s'.2.2 → lf_fq [31] 1000000 true s.1 s.2.2 s'.1 s'.2.2 → gx_S27 a1 r s'.1 s'.2.2 → ((-1) ≤ r ∧ r ≤ 300) → Q r s') : fm_27 a1 Q s := by
  obtain ⟨hE, hT⟩ := gx_AE hA
  refine tp_27 hI ba1 (fun r s' h1 h2 h3 h4 => hQ r s' h1 h2 ⟨?_, tp_e1 hT h2 h3⟩ h4)
  rw [h2.2.2.1 rfl]
  exact gx_Ec (fun c y => h2.1 c (gx_nc (by simp; omega))) (gx_9c (h2.1 95 rfl) hE.2.2.2.2.2.2.2) hE
theorem gx_194 {a1 : Int} {Q : Int → lf_Z → Prop} (hI : iv_A s.1 s.2.2) (ba1 : (-2147483648) ≤ a1 ∧ a1 ≤ 2147483647) (hM : gx_R27 a1 p s.1 s.2.2) (hQ : ∀ (r : Int) (s' : lf_Z), iv_A s'.1 s'.2.2 → lf_fq [95] 1000000 true s.1 s.2.2 s'.1 s'.2.2 → (gx_p p r ∧ gx_A s'.1 s'.2.2) → ((-1) ≤ r ∧ r ≤ 300) → Q r s') : fm_194 a1 Q s := by
  obtain ⟨r0, hp, hE, hT⟩ := hM
  refine tp_194 hI ba1 (fun r s' h1 h2 h3 h4 => hQ r s' h1 h2 ⟨(tp_e2 hT h2 h3).1 ▸ hp, gx_EA ?_ (tp_e2 hT h2 h3).2⟩ h4)
  rw [h2.2.2.1 rfl]
  exact gx_Ec (fun c y => h2.1 c (gx_nc (by simp; omega))) (gx_9e hE.2.2.2.2.2.2.2 h3.2) hE
/-! by -/
def gx_S60 (a1 : Int) (r : Int) (I : Nat → Int → Int) (P : Nat → Option Nat) : Prop := ∃ z : Bool, r = lf_b z ∧ gx_E I (P 3) ∧ tp_BM a1 z I
def gx_R60 (a1 : Int) (p : Int → Prop) (I : Nat → Int → Int) (P : Nat → Option Nat) : Prop := gx_MP (gx_S60 a1) p I P
theorem gx_60 {a1 : Int} {Q : Bool → lf_Z → Prop} (hI : iv_A s.1 s.2.2) (ba1 : (-2147483648) ≤ a1 ∧ a1 ≤ 2147483647) (hA : gx_A s.1 s.2.2) (hQ : ∀ (z : Bool) (s' : lf_Z), iv_A s'.1 s'.2.2 → lf_fq [0] 1000000 false s.1 s.2.2 s'.1 s'.2.2 → gx_S60 a1 (lf_b z) s'.1 s'.2.2 → Q z s') : fm_60 a1 Q s := by
  obtain ⟨hE, hT⟩ := gx_AE hA
  refine cj_60 (Q1 := fun z s' => iv_A s'.1 s'.2.2 ∧ lf_fq [0] 1000000 false s.1 s.2.2 s'.1 s'.2.2) (Q2 := fun z t => ((-1 ≤ a1 ∧ a1 ≤ s.1 0 11 - 1) ∧ z = true ∧ t = (lf_up s.1 0 12 a1, s.2.1, lf_ur s.2.2 3 (if 0 ≤ a1 ∧ a1 < s.1 0 11 then some a1.toNat else none))) ∨ (¬ (-1 ≤ a1 ∧ a1 ≤ s.1 0 11 - 1) ∧ z = false ∧ t = s)) (fun z s' h1 h2 => hQ z s' h1.1 h1.2 ⟨z, rfl, ?_, ?_⟩) (sm_60 hI ba1 (fun z s' h1 h2 => ⟨h1, h2⟩)) ?_
  · obtain ⟨e1, e2, e3, e4, e5⟩ := hE
    rcases h2 with ⟨q, _, ht⟩ | ⟨_, _, ht⟩
    · have y : ∀ c : Nat, c ≠ 0 → s'.1 c = s.1 c := fun c hc => by rw [ht]; exact zu_r hc
      have y0 : ∀ i : Int, i ≠ 12 → s'.1 0 i = s.1 0 i := fun i hi => by rw [ht]; exact zu_i hi
      have y1 : s'.1 0 12 = a1 := by rw [ht]; exact zu_s
      have y2 : s'.2.2 3 = (if 0 ≤ a1 then some a1.toNat else none) := by
        rw [ht]
        show (if 0 ≤ a1 ∧ a1 < s.1 0 11 then some a1.toNat else none) = _
        by_cases c : 0 ≤ a1
        · rw [if_pos ⟨c, by omega⟩, if_pos c]
        · rw [if_neg (fun m => c m.1), if_neg c]
      obtain ⟨x1, x2, x3, x4, x5⟩ := e4
      refine ⟨gx_1c (fun c hc => y c (by omega)) e1, gx_2c (y 1 (by decide)) (y 78 (by decide)) e2, gx_ic (fun c hc => y c (by omega)) e3, ?_, tr_Ac (fun c hc => y c (by omega)) (fun i _ => by rw [y 96 (by decide)]) e5.1, gx_7c (fun c hc => y c (by omega)) (by rw [y 1 (by decide)]; exact Int.le_refl _) (fun i _ => by rw [y 96 (by decide)]) e5.2.1, gx_8c (fun c hc => y c (by omega)) e5.2.2.1, gx_9c (y 95 (by decide)) e5.2.2.2⟩
      unfold gx_x
      rw [y0 11 (by decide), y1, y 78 (by decide), y 98 (by decide), y2]
      exact ⟨x1, fun k hk => gx_tc (fun c c0 c1 => y (35 + c) (by omega)) (fun _ _ _ => rfl) (x2 k hk), ⟨q.1, by omega⟩, rfl, x5⟩
    · rw [ht]; exact ⟨e1, e2, e3, e4, e5⟩
  · refine tp_b1 hT h1.2 ?_
    rcases h2 with ⟨q, hz, ht⟩ | ⟨q, hz, ht⟩
    · exact ⟨Or.inl ⟨q, by rw [ht]; exact zu_s, hz⟩, by rw [ht]; exact zu_i (by decide)⟩
    · exact ⟨Or.inr ⟨q, by rw [ht], hz⟩, by rw [ht]⟩
  · unfold fw_60
    refine fl_15 ⟨fun q => ib_61 hE.2.2.2.1.1.2 (Or.inl ⟨bd_t q, rfl, rfl⟩), fun q => Or.inr ⟨bd_f q, rfl, rfl⟩⟩
theorem gx_237 {a1 : Int} {Q : Bool → lf_Z → Prop} (hI : iv_A s.1 s.2.2) (ba1 : (-2147483648) ≤ a1 ∧ a1 ≤ 2147483647) (hM : gx_R60 a1 p s.1 s.2.2) (hQ : ∀ (z : Bool) (s' : lf_Z), iv_A s'.1 s'.2.2 → lf_fq [96, 1003] 8 true s.1 s.2.2 s'.1 s'.2.2 → (gx_p p (lf_b z) ∧ gx_A s'.1 s'.2.2) → Q z s') : fm_237 a1 Q s := by
  obtain ⟨r0, hp, z0, hz, hE, hT⟩ := hM
  refine tp_237 hI ba1 (fun z s' h1 h2 h3 => hQ z s' h1 h2 ⟨?_, gx_EA ?_ (tp_b2 hT h2 h3).2⟩)
  · rw [← (tp_b2 hT h2 h3).1, ← hz]; exact hp
  · rw [h2.2.2.1 rfl]
    have q : ∀ c : Nat, c < 96 ∨ c = 97 ∨ c = 98 → s'.1 c = s.1 c := fun c y => h2.1 c (gx_nc (by simp; omega))
    obtain ⟨h1, h2', h3, h4, h5, h6, h7, h9⟩ := hE
    have fr : ∀ k : Nat, (k ≠ 3 ∧ k < 7) → ∀ i, fr_g k i → s'.1 96 i = s.1 96 i := fun k hk => h2.2.2.2 k (gx_nc (by simp; omega))
    refine ⟨?_, gx_2c (q 1 (by omega)) (q 78 (by omega)) h2', gx_ic (fun c y => q c (by omega)) h3, gx_xc (fun c y => q c (by omega)) h4, tr_Ac (fun c y => q c (by omega)) (fr 0 (by decide)) h5, gx_7c (fun c y => q c (by omega)) (by rw [q 1 (by omega)]; exact Int.le_refl _) (fr 1 (by decide)) h6, gx_8c (fun c y => q c (by omega)) h7, gx_9c (q 95 (by omega)) h9⟩
    exact gx_1f (fun c y => q c (by omega)) (fr 2 (by decide)) (fr 4 (by decide)) (fr 5 (by decide)) (fr 6 (by decide)) h1
/-! text -/
theorem tx_cl : ∀ (k : Nat) (m : Int) (o : Int → Bool) (b : Int), (tx_lp F n g k m o b).1 = 0 → ∀ x ∈ tx_ps F n g k b, (ds_cl F n g x).1 = 0 := by
  intro k
  induction k with
  | zero => intro m o b _ x hx; exact absurd hx (by show x ∉ ([] : List Int); simp)
  | succ k ih =>
    intro m o b h x hx
    have h : (if lx_T F n b = 0 then (0, b) else if tx_ok F n m o b ≠ 0 then (tx_ok F n m o b, b) else ds_bd (ds_cl F n g b) (tx_lp F n g k (m + 1) (tx_o F n o b))).1 = 0 := h
    have hx : x ∈ (if lx_T F n b = 0 then [] else b :: tx_ps F n g k (ds_cl F n g b).2) := hx
    by_cases c0 : lx_T F n b = 0
    · rw [if_pos c0] at hx; simp at hx
    · rw [if_neg c0] at hx h
      by_cases c1 : tx_ok F n m o b ≠ 0
      · rw [if_pos c1] at h; exact absurd h c1
      · rw [if_neg c1] at h
        have y := ds_bdZ h
        rcases List.mem_cons.mp hx with e | hx
        · rw [e]; exact y.1
        · exact ih _ _ _ y.2 x hx
theorem ds_numR {lo hi : Int} (h : (ds_num F n lo hi b).1 = 0) : lo ≤ lx_V F n b ∧ lx_V F n b ≤ hi := by
  unfold ds_num at h
  split at h
  · split at h
    · rename_i q; exact q
    · exact absurd h (show (2 : Int) ≠ 0 by decide)
  · exact absurd h (show (1 : Int) ≠ 0 by decide)
theorem tx_26 (h : (tx_v F n g).1 = 0) : ∀ b ∈ tx_ps F n g 301 (lx_sk F n 0), cs_w F n b = 26 → 0 ≤ cs_v F n b ∧ cs_v F n b ≤ 9 := by
  intro b hb hw
  have hw : lx_T F n b = 26 := hw
  have y := tx_cl 301 0 (fun _ => false) (lx_sk F n 0) h b hb
  unfold ds_cl at y
  have y := (ds_bdZ y).1
  rw [if_pos (by omega), hw] at y
  unfold ds_deed at y
  rw [if_neg (by decide)] at y
  have y := ds_numR (ds_bdZ (ds_bdZ y).1).1
  unfold cs_v
  rw [if_pos (by omega)]
  have e1 : tx_sh ((26 - 23) * 5) = 0 := by decide
  have e2 : tx_sh ((26 - 23) * 5 + 1) = 9 := by decide
  rw [e1, e2] at y
  exact y
def gx_D28 (I : Nat → Int → Int) : List Int := tx_ps (I 99) (I 95 4) tx_g0 301 (lx_sk (I 99) (I 95 4) 0)
def gx_xt (r : Int) (I : Nat → Int → Int) (o : Option Nat) : Prop := (0 ≤ I 96 7 ∧ I 96 7 ≤ 4) ∧ (∀ k : Nat, (k : Int) < I 96 7 → gx_t (gx_C I) (I 98) k) ∧ (-1 ≤ I 0 12 ∧ I 0 12 < I 96 7) ∧ o = (if 0 ≤ I 0 12 then some (I 0 12).toNat else none) ∧ ((0 ≤ I 78 3 ∧ I 78 3 ≤ I 96 7) ∧ (-1 ≤ I 78 4 ∧ I 78 4 < I 78 3))
  ∧ (r ≠ -1 → (I 0 11 = I 96 7 + 1 ∧ I 96 7 < 4) ∧ cs_F (I 99) (I 95 4) tx_g0 (gx_C I) (I 96 7).toNat (gx_D28 I) ∧ gx_C I (7 * (I 96 7).toNat) 1 ≤ 300 ∧ ∀ b ∈ gx_D28 I, cs_w (I 99) (I 95 4) b = 26 → 0 ≤ cs_v (I 99) (I 95 4) b ∧ cs_v (I 99) (I 95 4) b ≤ 9) ∧ (r = -1 → I 0 11 = I 96 7)
def gx_S28 (r : Int) (I : Nat → Int → Int) (P : Nat → Option Nat) : Prop := (gx_1 I ∧ gx_2 I ∧ gx_i I ∧ tr_A I ∧ gx_7 I ∧ gx_8 I ∧ gx_9 I) ∧ tp_TM r I ∧ gx_xt r I (P 3)
def gx_R28 (p : Int → Prop) (I : Nat → Int → Int) (P : Nat → Option Nat) : Prop := gx_MP gx_S28 p I P
theorem gx_28 {Q : Int → lf_Z → Prop} (hI : iv_A s.1 s.2.2) (hA : gx_A s.1 s.2.2) (hQ : ∀ (r : Int) (s' : lf_Z), iv_A s'.1 s'.2.2 → lf_fq [0, 31, 33, 35, 36, 37, 38, 39, 40, 41, 42, 43, 44, 45, 46, 47, 48, 49, 50, 51, 52, 53, 54, 55, 56, 57, 58, 59, 60, 61, 62] 1000000 false s.1 s.2.2 s'.1 s'.2.2 → gx_S28 r s'.1 s'.2.2 → ((-1) ≤ r ∧ r ≤ 3) → Q r s') : fm_28 Q s := by
  obtain ⟨⟨e1, e2, e3, e4, e5, e6, e7, e8⟩, hT⟩ := gx_AE hA
  have hT' := hT
  obtain ⟨t1, t2, t3, t4, _⟩ := hT'
  have r31 : 0 ≤ s.1 31 1 ∧ s.1 31 1 ≤ 300 := iv_r31_1 hI
  refine cj_28 (Q1 := fun r s' => iv_A s'.1 s'.2.2 ∧ lf_fq [0, 31, 33, 35, 36, 37, 38, 39, 40, 41, 42, 43, 44, 45, 46, 47, 48, 49, 50, 51, 52, 53, 54, 55, 56, 57, 58, 59, 60, 61, 62] 1000000 false s.1 s.2.2 s'.1 s'.2.2 ∧ (tp_tx (tx_v (s.1 32) (s.1 31 1) (fun _ => -1)) (s.1 0 11) (s'.1 31 1) (s'.1 31 2) (s'.1 31 3) (s'.1 0 11) r (s.1 31 1) (s.1 31 2) (s.1 31 3) ∧ s'.1 0 12 = s.1 0 12) ∧ ((-1) ≤ r ∧ r ≤ 3))
    (Q2 := fun r t => (s.1 0 11 < 4 → (∀ c : Nat, 35 ≤ c → (c < 35 + 7 * (s.1 0 11).toNat ∨ 42 + 7 * (s.1 0 11).toNat ≤ c) → t.1 c = s.1 c) ∧ t.2.2 3 = s.2.2 3 ∧ (r ≠ -1 → r = s.1 0 11 ∧ cs_F (s.1 32) (s.1 31 1) tx_g0 (gx_C t.1) (s.1 0 11).toNat (tx_ps (s.1 32) (s.1 31 1) tx_g0 301 (lx_sk (s.1 32) (s.1 31 1) 0)) ∧ t.1 (35 + 7 * (s.1 0 11).toNat) 1 ≤ 300)) ∧ (¬ s.1 0 11 < 4 → r = -1 ∧ t = s)) (fun r s' h1 h2 => hQ r s' h1.1 h1.2.1 ⟨?_, tp_t1 hT h1.2.1 h1.2.2.1, ?_⟩ h1.2.2.2) (tp_28 hI (fun r s' h1 h2 h3 h4 => ⟨h1, h2, h3, h4⟩)) ?_
  · have q : ∀ c : Nat, ((0 < c ∧ c < 31) ∨ (63 ≤ c ∧ c < 1000)) → s'.1 c = s.1 c := fun c y => h1.2.1.1 c (gx_nc (by simp; omega))
    exact ⟨gx_1c (fun c y => q c (by omega)) e1, gx_2c (q 1 (by omega)) (q 78 (by omega)) e2, gx_ic (fun c y => q c (by omega)) e3, tr_Ac (fun c y => q c (by omega)) (fun i _ => by rw [q 96 (by omega)]) e5, gx_7c (fun c y => q c (by omega)) (by rw [q 1 (by omega)]; exact Int.le_refl _) (fun i _ => by rw [q 96 (by omega)]) e6, gx_8c (fun c y => q c (by omega)) e7, gx_9c (q 95 (by omega)) e8⟩
  · have q : ∀ c : Nat, (63 ≤ c ∧ c < 1000) → s'.1 c = s.1 c := fun c y => h1.2.1.1 c (gx_nc (by simp; omega))
    obtain ⟨x1, x2, x3, x4, x5⟩ := e4
    obtain ⟨k1, k2⟩ := h1.2.2.1
    obtain ⟨m1, m2⟩ := h2
    unfold gx_xt gx_D28
    rw [q 96 (by omega), q 98 (by omega), q 78 (by omega), q 99 (by omega), q 95 (by omega), k2, ← t1, ← t2, ← t3]
    by_cases c4 : s.1 0 11 < 4
    · obtain ⟨m3, m4, m5⟩ := m1 c4
      refine ⟨x1, fun k hk => gx_tc (fun c c0 c1 => m3 (35 + c) (by omega) (Or.inl (by omega))) (fun _ _ _ => rfl) (x2 k hk), x3, by rw [m4]; exact x4, x5, fun ne => ?_, fun eq => ?_⟩
      · obtain ⟨n1, n2, n3⟩ := m5 ne
        rcases k1 with ⟨_, _, _, v0, v1⟩ | ⟨v, _⟩
        · by_cases y : (tx_v (s.1 32) (s.1 31 1) (fun _ => -1)).1 = 0
          · exact ⟨⟨(v0 y).2.2, c4⟩, n2, n3, tx_26 y⟩
          · exact absurd (v1 y).2.1 ne
        · exact absurd c4 v
      · rcases k1 with ⟨_, _, _, v0, v1⟩ | ⟨v, _⟩
        · by_cases y : (tx_v (s.1 32) (s.1 31 1) (fun _ => -1)).1 = 0
          · have := (v0 y).2.1; omega
          · exact (v1 y).2.2
        · exact absurd c4 v
    · obtain ⟨m3, m4⟩ := m2 c4
      refine ⟨x1, fun k hk => by rw [m4]; exact x2 k hk, x3, by rw [m4]; exact x4, x5, fun ne => absurd m3 ne, fun _ => by rw [m4]⟩
  · refine fy_28 (fun i _ _ => iv_r32 hI i) r31 (fun q => ⟨fun q' => absurd q' q, fun _ => ⟨rfl, rfl⟩⟩) (fun q _ zz t v h1 h2 h3 h4 => ⟨fun _ => ⟨h1, by rw [h2]; rfl, fun ne => ?_⟩, fun q' => absurd q q'⟩)
    cases zz with
    | false => exact absurd (h4 rfl) ne
    | true => exact ⟨(h3 rfl).1, (h3 rfl).2.1, (h3 rfl).2.2⟩
theorem gx_195 {Q : Int → lf_Z → Prop} (hI : iv_A s.1 s.2.2) (hM : gx_R28 p s.1 s.2.2) (hQ : ∀ (r : Int) (s' : lf_Z), iv_A s'.1 s'.2.2 → lf_fq [95, 96, 98, 100, 101, 102, 103, 1003] 7 true s.1 s.2.2 s'.1 s'.2.2 → (gx_p p r ∧ gx_A s'.1 s'.2.2) → ((-1) ≤ r ∧ r ≤ 4) → Q r s') : fm_195 Q s := by
  obtain ⟨r0, hp, ⟨e1, e2, e3, e5, e6, e7, e8⟩, hT, hx⟩ := hM
  have b4 : 0 ≤ s.1 95 4 ∧ s.1 95 4 ≤ 300 := iv_r95_4 hI
  refine cj_195 (Q1 := fun r s' => iv_A s'.1 s'.2.2 ∧ lf_fq [95, 96, 98, 100, 101, 102, 103, 1003] 7 true s.1 s.2.2 s'.1 s'.2.2 ∧ (tp_tx (tx_v (s.1 99) (s.1 95 4) (fun _ => -1)) (s.1 96 7) (s'.1 95 4) (s'.1 95 5) (s'.1 95 6) (s'.1 96 7) r (s.1 95 4) (s.1 95 5) (s.1 95 6) ∧ s'.1 96 8 = s.1 96 8) ∧ ((-1) ≤ r ∧ r ≤ 4))
    (Q2 := fun r t => (s.1 96 7 = 4 → r = -1 ∧ t = s) ∧ (s.1 96 7 ≠ 4 → (∀ j : Int, j < 705 * s.1 96 7 → t.1 98 j = s.1 98 j) ∧ (∀ i : Int, 24 < i → t.1 95 i = s.1 95 i) ∧ (r ≠ -1 → r = s.1 96 7 ∧ rs_X (s.1 99) (s.1 95 4) (t.1 98) (705 * s.1 96 7) (gx_D28 s.1)))) (fun r s' h1 h2 => hQ r s' h1.1 h1.2.1 ⟨(tp_t2 hT h1.2.1 h1.2.2.1).1 ▸ hp, ?_⟩ h1.2.2.2) (tp_195 hI (fun r s' h1 h2 h3 h4 => ⟨h1, h2, h3, h4⟩)) ?_
  · have ht := tp_t2 hT h1.2.1 h1.2.2.1
    have q : ∀ c : Nat, (c < 95 ∨ c = 97 ∨ c = 99) → s'.1 c = s.1 c := fun c y => h1.2.1.1 c (gx_nc (by simp; omega))
    have fr : ∀ k : Nat, (k ≠ 3 ∧ k < 7) → ∀ i, fr_g k i → s'.1 96 i = s.1 96 i := fun k hk => h1.2.1.2.2.2 k (gx_nc (by simp; omega))
    refine gx_EA ⟨gx_1f (fun c y => q c (by omega)) (fr 2 (by decide)) (fr 4 (by decide)) (fr 5 (by decide)) (fr 6 (by decide)) e1, gx_2c (q 1 (by omega)) (q 78 (by omega)) e2, gx_ic (fun c y => q c (by omega)) e3, ?_, tr_Ac (fun c y => q c (by omega)) (fr 0 (by decide)) e5, gx_7c (fun c y => q c (by omega)) (by rw [q 1 (by omega)]; exact Int.le_refl _) (fr 1 (by decide)) e6, gx_8c (fun c y => q c (by omega)) e7, ?_⟩ ht.2
    · obtain ⟨x1, x2, x3, x4, ⟨x5, x6⟩, x7, x8⟩ := hx
      obtain ⟨m1, m2⟩ := h2
      have eC : ∀ c : Nat, c ≤ 34 → gx_C s'.1 c = gx_C s.1 c := fun c hc => q (35 + c) (by omega)
      unfold gx_x
      rw [q 0 (by omega), q 78 (by omega), h1.2.1.2.2.1 rfl]
      by_cases c4 : s.1 96 7 = 4
      · obtain ⟨m3, m4⟩ := m1 c4
        have e11 : s.1 0 11 = s.1 96 7 := x8 (by rw [ht.1]; exact m3)
        rw [e11, m4]
        exact ⟨x1, x2, x3, x4, x5, x6⟩
      · obtain ⟨m3, _, m4⟩ := m2 c4
        have old : ∀ k : Nat, (k : Int) < s.1 96 7 → gx_t (gx_C s'.1) (s'.1 98) k := fun k hk => gx_tc (fun c c0 c1 => eC c (by omega)) (fun i i0 i1 => m3 i (by omega)) (x2 k hk)
        by_cases y : r = -1
        · have e11 : s.1 0 11 = s.1 96 7 := x8 (by rw [ht.1]; exact y)
          rw [e11]
          exact ⟨x1, old, x3, x4, x5, x6⟩
        · obtain ⟨n1, n2⟩ := m4 y
          obtain ⟨⟨n3, n4⟩, n5, n6, n7⟩ := x7 (by rw [ht.1]; exact y)
          rw [n3]
          refine ⟨⟨by omega, by omega⟩, fun k hk => ?_, ⟨x3.1, by omega⟩, x4, ⟨x5.1, by omega⟩, x6⟩
          by_cases yk : (k : Int) < s.1 96 7
          · exact old k yk
          · have ek : (s.1 96 7).toNat = k := by omega
            have ek2 : s.1 96 7 = (k : Int) := by omega
            rw [ek] at n5 n6
            rw [ek2] at n2
            exact ⟨s.1 99, s.1 95 4, gx_D28 s.1, cs_FC (fun c c0 c1 => eC c (by omega)) n5, by rw [eC (7 * k) (by omega)]; exact n6, n2, n7⟩
    · by_cases c4 : s.1 96 7 = 4
      · rw [(h2.1 c4).2]; exact e8
      · have y := (h2.2 c4).2.1
        unfold gx_9 zq_9 at *
        rw [y 29 (by decide), y 31 (by decide), y 30 (by decide)]
        exact e8
  · refine tz_195b b4.1 b4.2 (fun i _ _ => iv_r99 hI i) (fun q => ⟨fun _ => ⟨rfl, rfl⟩, fun q' => absurd q q'⟩) (fun q w t h1 h2 h3 => ⟨fun q' => absurd q' q, fun _ => ⟨h1, h3, fun ne => h2 ne⟩⟩)
end GN
/-! sights, mending, tries, image, a text played: within the law -/
section GP
variable {J K M : Nat → Int → Int} {s t u : lf_Z} {f f' g A B sv sw F S S' : Int → Int} {H H' G : List rr_H} {X : mn_X} {I I' C C' : Nat → Int → Int} {P P' : Nat → Option Nat} {o : Option Nat} {a b c d e r j n w x : Int} {T T' : Int → Int} {D : List Int} {L : List (Int × Int × Int)} {l : List Nat} {bb : Bool} {p : Int → Prop} {z : Bool}
/-! seen -/
def sn_ok (n0 a b : Int) : Prop := (0 ≤ a ∧ a < n0) ∧ 0 ≤ b ∧ b ≤ 60
def sn_T (n0 a b c : Int) (S M : Int → Int) (c' : Int) (S' M' : Int → Int) (r : Int) : Prop := (a = -1 ∧ r = 0 ∧ c' = 0) ∨ (a ≠ -1 ∧ sn_ok n0 a b ∧ c < 6 ∧ c' = c + 1 ∧ S' = ds_u1 S c a ∧ M' = ds_u1 M c b ∧ r = c + 1) ∨ (a ≠ -1 ∧ (¬ sn_ok n0 a b ∨ ¬ c < 6) ∧ c' = c ∧ S' = S ∧ M' = M ∧ r = -2)
def sn_R (n0 a b : Int) (A B : Int → Int) (r : Int) : Prop := (a = -1 ∧ r = 0 ∧ B 10 = 0) ∨ (a ≠ -1 ∧ sn_ok n0 a b ∧ A 10 ≠ 6 ∧ B 10 = A 10 + 1 ∧ B (162 + 2 * A 10) = a ∧ B (162 + 2 * A 10 + 1) = b ∧ (∀ i : Int, i ≠ 10 → i ≠ 162 + 2 * A 10 → i ≠ 162 + 2 * A 10 + 1 → B i = A i) ∧ r = A 10 + 1) ∨ (a ≠ -1 ∧ (¬ sn_ok n0 a b ∨ A 10 = 6) ∧ B = A ∧ r = -2)
theorem sn_C {n0 c' : Int} {S M S' M' : Int → Int} {r' : Int} (h : gx_s n0 c S M A) (k : sn_T n0 a b c S M c' S' M' r) (m : sn_R n0 a b A B r') : r = r' ∧ gx_s n0 c' S' M' B := by
  obtain ⟨⟨h1, h2, h3⟩, h4⟩ := h
  rcases k with ⟨k0, k1, k2⟩ | ⟨k0, k1, k2, k3, k4, k5, k6⟩ | ⟨k0, k1, k2, k3, k4, k5⟩
  · rcases m with ⟨_, m1, m2⟩ | ⟨m0, _⟩ | ⟨m0, _⟩
    · exact ⟨by omega, ⟨by omega, by omega, by omega⟩, fun q q0 q1 => by omega⟩
    · exact absurd k0 m0
    · exact absurd k0 m0
  · rcases m with ⟨m0, _⟩ | ⟨_, m1, m2, m3, m4, m5, m6, m7⟩ | ⟨_, m1, _⟩
    · exact absurd m0 k0
    · refine ⟨by omega, ⟨by omega, by omega, by omega⟩, fun q q0 q1 => ?_⟩
      rw [k4, k5]
      unfold ds_u1
      by_cases y : q = c
      · rw [if_pos y, if_pos y, y, h1]
        exact ⟨⟨m4.symm, m5.symm⟩, k1.1, k1.2⟩
      · rw [if_neg y, if_neg y, m6 _ (by omega) (by omega) (by omega), m6 _ (by omega) (by omega) (by omega)]
        exact h4 q q0 (by omega)
    · rcases m1 with m1 | m1
      · exact absurd k1 m1
      · omega
  · rcases m with ⟨m0, _⟩ | ⟨_, m1, m2, _⟩ | ⟨_, m1, m2, m3⟩
    · exact absurd m0 k0
    · rcases k1 with k1 | k1
      · exact absurd m1 k1
      · omega
    · rw [k2, k3, k4, m2]
      exact ⟨by omega, ⟨h1, h2, h3⟩, h4⟩
def gx_S145 (a1 a2 : Int) (r : Int) (I : Nat → Int → Int) (P : Nat → Option Nat) : Prop := (gx_1 I ∧ gx_2 I ∧ gx_i I ∧ gx_x I (P 3) ∧ tp_A I ∧ tr_A I ∧ gx_8 I ∧ gx_9 I) ∧ ∃ (c : Int) (S M : Int → Int), gx_s (I 1 0) c S M (I 96) ∧ sn_T (I 1 0) a1 a2 c S M (I 25 2) (I 26) (I 27) r
def gx_R145 (a1 a2 : Int) (p : Int → Prop) (I : Nat → Int → Int) (P : Nat → Option Nat) : Prop := gx_MP (gx_S145 a1 a2) p I P
theorem gx_145 {a1 a2 : Int} {Q : Int → lf_Z → Prop} (hI : iv_A s.1 s.2.2) (ba1 : (-2147483648) ≤ a1 ∧ a1 ≤ 2147483647) (ba2 : (-2147483648) ≤ a2 ∧ a2 ≤ 2147483647) (hA : gx_A s.1 s.2.2) (hQ : ∀ (r : Int) (s' : lf_Z), iv_A s'.1 s'.2.2 → lf_fq [25, 26, 27] 1000000 true s.1 s.2.2 s'.1 s'.2.2 → gx_S145 a1 a2 r s'.1 s'.2.2 → ((-2) ≤ r ∧ r ≤ 6) → Q r s') : fm_145 a1 a2 Q s := by
  obtain ⟨h1, h2, h3, h4, h5, h6, h7, h8, h9⟩ := hA
  refine cj_145 (Q1 := fun r s' => iv_A s'.1 s'.2.2 ∧ lf_fq [25, 26, 27] 1000000 true s.1 s.2.2 s'.1 s'.2.2 ∧ ((-2) ≤ r ∧ r ≤ 6)) (Q2 := fun r t => sn_T (s.1 1 0) a1 a2 (s.1 25 2) (s.1 26) (s.1 27) (t.1 25 2) (t.1 26) (t.1 27) r) (fun r s' k1 k2 => hQ r s' k1.1 k1.2.1 ⟨?_, s.1 25 2, s.1 26, s.1 27, ?_, ?_⟩ k1.2.2) (sm_145 hI ba1 ba2 (fun r s' h1 h2 h3 => ⟨h1, h2, h3⟩)) ?_
  · have q : ∀ c : Nat, (c < 25 ∨ (27 < c ∧ c < 1000)) → s'.1 c = s.1 c := fun c y => k1.2.1.1 c (gx_nc (by simp; omega))
    rw [k1.2.1.2.2.1 rfl]
    exact ⟨gx_1c (fun c y => q c (by omega)) h1, gx_2c (q 1 (by omega)) (q 78 (by omega)) h2, gx_ic (fun c y => q c (by omega)) h3, gx_xc (fun c y => q c (by omega)) h4, tp_Ac (fun c y => q c (by omega)) (fun i _ _ => by rw [q 95 (by omega)]) (by rw [q 96 (by omega)]) (by rw [q 96 (by omega)]) h5, tr_Ac (fun c y => q c (by omega)) (fun i _ => by rw [q 96 (by omega)]) h6, gx_8c (fun c y => q c (by omega)) h8, gx_9c (q 95 (by omega)) h9⟩
  · rw [k1.2.1.1 1 rfl, k1.2.1.1 96 rfl]; exact h7
  · rw [k1.2.1.1 1 rfl]; exact k2
  · unfold fw_145
    intro _
    refine ⟨fun ne => fl_18 ⟨fun q => Or.inr (Or.inr ⟨ne, Or.inl (fun y => bd_f q y.1), rfl, rfl, rfl, rfl⟩), fun q => fl_15 ⟨fun q2 => ?_, fun q2 => Or.inr (Or.inr ⟨ne, Or.inl (fun y => bd_f q2 y.2), rfl, rfl, rfl, rfl⟩)⟩⟩, fun ne => Or.inl ⟨Classical.not_not.mp ne, rfl, zu_s⟩⟩
    unfold fw_146
    intro _
    refine ⟨fun q3 _ => Or.inr (Or.inl ⟨ne, ⟨bd_t q, bd_t q2⟩, q3, zu_s, ?_, ?_, rfl⟩), fun q3 => Or.inr (Or.inr ⟨ne, Or.inr q3, rfl, rfl, rfl, rfl⟩)⟩
    · exact (zu_r (by decide)).trans ((lf_up_row (by decide)).trans tp_row)
    · exact (zu_r (by decide)).trans (tp_row.trans (by rw [lf_up_row (by decide)]))
theorem gx_305 {a1 a2 : Int} {Q : Int → lf_Z → Prop} (hI : iv_A s.1 s.2.2) (ba1 : (-2147483648) ≤ a1 ∧ a1 ≤ 2147483647) (ba2 : (-2147483648) ≤ a2 ∧ a2 ≤ 2147483647) (hM : gx_R145 a1 a2 p s.1 s.2.2) (hQ : ∀ (r : Int) (s' : lf_Z), iv_A s'.1 s'.2.2 → lf_fq [96, 1001] 10 true s.1 s.2.2 s'.1 s'.2.2 → (gx_p p r ∧ gx_A s'.1 s'.2.2) → ((-2) ≤ r ∧ r ≤ 6) → Q r s') : fm_305 a1 a2 Q s := by
  obtain ⟨r0, hp, ⟨h1, h2, h3, h4, h5, h6, h8, h9⟩, c, S, M, hs, hT⟩ := hM
  have e0 : s.1 96 0 = s.1 1 0 := by obtain ⟨f, H, _, _, hR⟩ := h1; exact hR.1.1
  refine cj_305 (Q1 := fun r s' => iv_A s'.1 s'.2.2 ∧ lf_fq [96, 1001] 10 true s.1 s.2.2 s'.1 s'.2.2 ∧ ((-2) ≤ r ∧ r ≤ 6)) (Q2 := fun r t => sn_R (s.1 1 0) a1 a2 (s.1 96) (t.1 96) r) (fun r s' k1 k2 => hQ r s' k1.1 k1.2.1 ⟨(sn_C hs hT k2).1 ▸ hp, ?_⟩ k1.2.2) (sm_305 hI ba1 ba2 (fun r s' h1 h2 h3 => ⟨h1, h2, h3⟩)) ?_
  · have q : ∀ c : Nat, (c < 96 ∨ (96 < c ∧ c < 1000)) → s'.1 c = s.1 c := fun c y => k1.2.1.1 c (gx_nc (by simp; omega))
    have fr : ∀ k : Nat, (k ≠ 1 ∧ k < 7) → ∀ i, fr_g k i → s'.1 96 i = s.1 96 i := fun k hk => k1.2.1.2.2.2 k (gx_nc (by simp; omega))
    refine ⟨gx_1f (fun c y => q c (by omega)) (fr 2 (by decide)) (fr 4 (by decide)) (fr 5 (by decide)) (fr 6 (by decide)) h1, gx_2c (q 1 (by omega)) (q 78 (by omega)) h2, gx_ic (fun c y => q c (by omega)) h3, by rw [k1.2.1.2.2.1 rfl]; exact gx_xc (fun c y => q c (by omega)) h4, tp_Ac (fun c y => q c (by omega)) (fun i _ _ => by rw [q 95 (by omega)]) (fr 3 (by decide) 7 (Or.inl rfl)) (fr 3 (by decide) 8 (Or.inr rfl)) h5, tr_Ac (fun c y => q c (by omega)) (fr 0 (by decide)) h6, ?_, gx_8c (fun c y => q c (by omega)) h8, gx_9c (q 95 (by omega)) h9⟩
    unfold gx_7
    rw [q 1 (by omega), q 25 (by omega), q 26 (by omega), q 27 (by omega)]
    exact (sn_C hs hT k2).2
  · unfold fw_305 fw_185
    intro _
    refine ⟨fun ne => fl_183 ⟨fun q => Or.inr (Or.inr ⟨ne, Or.inl (fun y => bd_f q ⟨y.1.1, by have := y.1.2; omega⟩), rfl, rfl⟩), fun q => fl_183 ⟨fun q2 => Or.inr (Or.inr ⟨ne, Or.inl (fun y => bd_f q2 y.2), rfl, rfl⟩), fun q2 => ?_⟩⟩, fun ne => Or.inl ⟨Classical.not_not.mp ne, rfl, zu_s⟩⟩
    have q := bd_t q
    have q2 := bd_t q2
    intro _
    refine ⟨fun q3 _ => ?_, fun q3 => Or.inr (Or.inr ⟨ne, Or.inr (Classical.not_not.mp q3), rfl, rfl⟩)⟩
    have g := hs.1
    have e1 : (lf_up s.1 96 (162 + 2 * s.1 96 10) a1) 96 10 = s.1 96 10 := lf_up_i (by omega)
    have e2 : (lf_up (lf_up s.1 96 (162 + 2 * s.1 96 10) a1) 96 (162 + 2 * s.1 96 10 + 1) a2) 96 10 = s.1 96 10 := (lf_up_i (by omega)).trans e1
    rw [e1, e2]
    intro _
    exact Or.inr (Or.inl ⟨ne, ⟨⟨q.1, by omega⟩, q2⟩, q3, zu_s, (zu_i (by omega)).trans ((lf_up_i (by omega)).trans lf_up_s), (zu_i (by omega)).trans lf_up_s, fun i i0 i1 i2 => (zu_i i0).trans ((lf_up_i i2).trans (lf_up_i i1)), rfl⟩)
/-! mending -/
def mg_ok (J : Nat → Int → Int) (a o q h n : Int) : Prop := ((0 ≤ a ∧ a < J 1 1) ∧ J 6 a = 0) ∧ (0 ≤ o ∧ o ≤ 10) ∧ (0 ≤ q ∧ q ≤ 999) ∧ (0 ≤ h ∧ h ≤ 999) ∧ 1 ≤ n ∧ n ≤ 99
def mg_v (o q h n : Int) : Int := (h * o * n).tdiv 10 - q
theorem mg_w {q h : Int} {ok : Int} (h1 : 0 ≤ ok ∧ ok ≤ 10) (h2 : 0 ≤ q ∧ q ≤ 999) (h3 : 0 ≤ h ∧ h ≤ 999) (h4 : 1 ≤ n ∧ n ≤ 99) : lf_w ((lf_w ((lf_w (h * ok)) * n)).tdiv 10 - q) = mg_v ok q h n := by
  have b1 : h * ok ≤ 999 * 10 := Int.mul_le_mul h3.2 h1.2 h1.1 (by decide)
  have b2 : 0 ≤ h * ok := Int.mul_nonneg h3.1 h1.1
  rw [gx_w (e := h * ok) (by omega)]
  have b3 : h * ok * n ≤ 9990 * 99 := Int.mul_le_mul (by omega) h4.2 (by omega) (by decide)
  have b4 : 0 ≤ h * ok * n := Int.mul_nonneg b2 (by omega)
  rw [gx_w (e := h * ok * n) (by omega)]
  unfold mg_v
  have b5 : (h * ok * n).tdiv 10 = h * ok * n / 10 := Int.tdiv_eq_ediv_of_nonneg b4
  rw [b5]
  exact gx_w (by omega)
def gx_S163 (a1 a2 a3 a4 a5 : Int) (r : Int) (I : Nat → Int → Int) (P : Nat → Option Nat) : Prop := gx_D I (P 3) ∧ ∃ (f : Int → Int) (H : List rr_H) (sv : Int → Int), gf_T I f H ∧ gc_T I f H ∧ gr_T sv I f H (I 96) ∧ ((mg_ok I a1 a2 a3 a4 a5 ∧ I 28 = ds_u1 sv a1 (mg_v a2 a3 a4 a5) ∧ r = 1) ∨ (¬ mg_ok I a1 a2 a3 a4 a5 ∧ I 28 = sv ∧ r = 0))
def gx_R163 (a1 a2 a3 a4 a5 : Int) (p : Int → Prop) (I : Nat → Int → Int) (P : Nat → Option Nat) : Prop := gx_MP (gx_S163 a1 a2 a3 a4 a5) p I P
theorem mg_no {a2 a3 a4 a5 : Int} {Q : Bool → lf_Z → Prop} (h : Q false s) : fw_163_p71 Q a a2 a3 a4 a5 s := by
  unfold fw_163_p71 fw_163_p72
  intro _
  exact ⟨fun _ _ => ⟨fun _ => h, fun c => absurd c (by decide)⟩, fun c => absurd rfl c⟩
theorem mg_n2 {a2 a3 a4 a5 : Int} {Q : Bool → lf_Z → Prop} (h : Q false s) : fw_163_p36 Q a a2 a3 a4 a5 s := by
  unfold fw_163_p36 fw_163_p37
  intro _
  exact ⟨fun _ => mg_no h, fun c => absurd rfl c⟩
theorem gx_163 {a1 a2 a3 a4 a5 : Int} {Q : Bool → lf_Z → Prop} (hI : iv_A s.1 s.2.2) (ba1 : (-2147483648) ≤ a1 ∧ a1 ≤ 2147483647) (ba2 : (-2147483648) ≤ a2 ∧ a2 ≤ 2147483647) (ba3 : (-2147483648) ≤ a3 ∧ a3 ≤ 2147483647) (ba4 : (-2147483648) ≤ a4 ∧ a4 ≤ 2147483647) (ba5 : (-2147483648) ≤ a5 ∧ a5 ≤ 2147483647) (hA : gx_A s.1 s.2.2) (hQ : ∀ (z : Bool) (s' : lf_Z), iv_A s'.1 s'.2.2 → lf_fq [28] 1000000 true s.1 s.2.2 s'.1 s'.2.2 → gx_S163 a1 a2 a3 a4 a5 (lf_b z) s'.1 s'.2.2 → Q z s') : fm_163 a1 a2 a3 a4 a5 Q s := by
  obtain ⟨⟨f, H, hF, hC, hR⟩, h2, h3, h4, h5, h6, h7, h8, h9⟩ := hA
  refine cj_163 (Q1 := fun z s' => iv_A s'.1 s'.2.2 ∧ lf_fq [28] 1000000 true s.1 s.2.2 s'.1 s'.2.2) (Q2 := fun z t => (mg_ok s.1 a1 a2 a3 a4 a5 ∧ t.1 28 = ds_u1 (s.1 28) a1 (mg_v a2 a3 a4 a5) ∧ z = true) ∨ (¬ mg_ok s.1 a1 a2 a3 a4 a5 ∧ t.1 28 = s.1 28 ∧ z = false)) (fun z s' k1 k2 => hQ z s' k1.1 k1.2 ⟨?_, f, H, s.1 28, ?_, ?_, ?_, ?_⟩) (sm_163 hI ba1 ba2 ba3 ba4 ba5 (fun z s' h1 h2 => ⟨h1, h2⟩)) ?_
  · have q : ∀ c : Nat, (c < 28 ∨ (28 < c ∧ c < 1000)) → s'.1 c = s.1 c := fun c y => k1.2.1 c (gx_nc (by simp; omega))
    rw [k1.2.2.2.1 rfl]
    exact ⟨gx_2c (q 1 (by omega)) (q 78 (by omega)) h2, gx_ic (fun c y => q c (by omega)) h3, gx_xc (fun c y => q c (by omega)) h4, tp_Ac (fun c y => q c (by omega)) (fun i _ _ => by rw [q 95 (by omega)]) (by rw [q 96 (by omega)]) (by rw [q 96 (by omega)]) h5, tr_Ac (fun c y => q c (by omega)) (fun i _ => by rw [q 96 (by omega)]) h6, gx_7c (fun c y => q c (by omega)) (by rw [q 1 (by omega)]; exact Int.le_refl _) (fun i _ => by rw [q 96 (by omega)]) h7, gx_8c (fun c y => q c (by omega)) h8, gx_9c (q 95 (by omega)) h9⟩
  · exact gf_Te (fun c c0 c1 => k1.2.1 c (gx_nc (by simp; omega))) hF
  · exact gc_Te (fun c c0 c1 => k1.2.1 c (gx_nc (by simp; omega))) hC
  · rw [k1.2.1 96 rfl]; exact gr_Te (fun c c0 c1 => k1.2.1 c (gx_nc (by simp; omega))) hR
  · unfold mg_ok at k2 ⊢
    rw [k1.2.1 1 rfl, k1.2.1 6 rfl]
    rcases k2 with ⟨y1, y2, y3⟩ | ⟨y1, y2, y3⟩
    · exact Or.inl ⟨y1, y2, by rw [y3]; rfl⟩
    · exact Or.inr ⟨y1, y2, by rw [y3]; rfl⟩
  · unfold fw_163
    refine fl_89 ⟨fun q => mg_n2 (Or.inr ⟨fun y => ?_, rfl, rfl⟩), fun q => fl_15 ⟨fun q2 => mg_n2 (Or.inr ⟨fun y => bd_f q2 y.2.1, rfl, rfl⟩), fun q2 => fl_15 ⟨fun q3 => mg_n2 (Or.inr ⟨fun y => bd_f q3 y.2.2.1, rfl, rfl⟩), fun q3 => ?_⟩⟩⟩
    · rw [decide_eq_true y.1.1.1, decide_eq_true y.1.1.2, decide_eq_true y.1.2] at q
      cases q
    · unfold fw_163_p37
      intro _
      refine ⟨fun c => absurd c (by decide), fun _ => fl_15 ⟨fun q4 => mg_no (Or.inr ⟨fun y => bd_f q4 y.2.2.2.1, rfl, rfl⟩), fun q4 => fl_15 ⟨fun q5 => mg_no (Or.inr ⟨fun y => bd_f q5 y.2.2.2.2, rfl, rfl⟩), fun q5 => ?_⟩⟩⟩
      have q1 : (0 ≤ a1 ∧ a1 < s.1 1 1) ∧ s.1 6 a1 = 0 := by
        rw [Bool.and_eq_true, decide_eq_true_eq] at q
        exact ⟨bd_t q.1, q.2⟩
      unfold fw_163_p72
      intro _
      refine ⟨fun c => absurd c (by decide), fun _ _ _ => ⟨fun c => absurd c (by decide), fun _ => Or.inl ⟨⟨q1, bd_t q2, bd_t q3, bd_t q4, bd_t q5⟩, ?_, rfl⟩⟩⟩
      rw [mg_w (bd_t q2) (bd_t q3) (bd_t q4) (bd_t q5)]
      show lf_up s.1 28 a1 (mg_v a2 a3 a4 a5) 28 = _
      exact tp_row
theorem gx_318 {a1 a2 a3 a4 a5 : Int} {Q : Bool → lf_Z → Prop} (hI : iv_A s.1 s.2.2) (ba1 : (-2147483648) ≤ a1 ∧ a1 ≤ 2147483647) (ba2 : (-2147483648) ≤ a2 ∧ a2 ≤ 2147483647) (ba3 : (-2147483648) ≤ a3 ∧ a3 ≤ 2147483647) (ba4 : (-2147483648) ≤ a4 ∧ a4 ≤ 2147483647) (ba5 : (-2147483648) ≤ a5 ∧ a5 ≤ 2147483647) (hM : gx_R163 a1 a2 a3 a4 a5 p s.1 s.2.2) (hQ : ∀ (z : Bool) (s' : lf_Z), iv_A s'.1 s'.2.2 → lf_fq [96, 1002] 174 true s.1 s.2.2 s'.1 s'.2.2 → (gx_p p (lf_b z) ∧ gx_A s'.1 s'.2.2) → Q z s') : fm_318 a1 a2 a3 a4 a5 Q s := by
  obtain ⟨r0, hp, ⟨h2, h3, h4, h5, h6, h7, h8, h9⟩, f, H, sv, hF, hC, hR, hT⟩ := hM
  have e1 : s.1 96 1 = s.1 1 1 := hR.1.2.1
  have w1 := hF.1.1.2.1
  refine cj_318 (Q1 := fun z s' => iv_A s'.1 s'.2.2 ∧ lf_fq [96, 1002] 174 true s.1 s.2.2 s'.1 s'.2.2) (Q2 := fun z t => (mg_ok s.1 a1 a2 a3 a4 a5 ∧ z = true ∧ (t.1 96 (174 + 5 * a1) = 1 ∧ t.1 96 (174 + 5 * a1 + 1) = a2 ∧ t.1 96 (174 + 5 * a1 + 2) = a3 ∧ t.1 96 (174 + 5 * a1 + 3) = a4 ∧ t.1 96 (174 + 5 * a1 + 4) = a5) ∧ ∀ i : Int, ¬ (174 + 5 * a1 ≤ i ∧ i ≤ 174 + 5 * a1 + 4) → t.1 96 i = s.1 96 i) ∨ (¬ mg_ok s.1 a1 a2 a3 a4 a5 ∧ z = false ∧ t = s)) (fun z s' k1 k2 => hQ z s' k1.1 k1.2 ⟨?_, ?_⟩) (sm_318 hI ba1 ba2 ba3 ba4 ba5 (fun z s' h1 h2 => ⟨h1, h2⟩)) ?_
  · have er : r0 = lf_b z := by
      rcases hT with ⟨y, _, y2⟩ | ⟨y, _, y2⟩
      · rcases k2 with ⟨_, k, _⟩ | ⟨k, _⟩
        · rw [y2, k]; rfl
        · exact absurd y k
      · rcases k2 with ⟨k, _⟩ | ⟨_, k, _⟩
        · exact absurd k y
        · rw [y2, k]; rfl
    rw [← er]; exact hp
  · have q : ∀ c : Nat, (c < 96 ∨ (96 < c ∧ c < 1000)) → s'.1 c = s.1 c := fun c y => k1.2.1 c (gx_nc (by simp; omega))
    have fr : ∀ k : Nat, (k ≠ 2 ∧ k < 7) → ∀ i, fr_g k i → s'.1 96 i = s.1 96 i := fun k hk => k1.2.2.2.2 k (gx_nc (by simp; omega))
    have g : gj_e s.1 s'.1 := fun c c0 c1 => q c (by omega)
    refine ⟨⟨f, H, gf_Te g hF, gc_Te (fun c c0 c1 => q c (by omega)) hC, ?_⟩, gx_2c (q 1 (by omega)) (q 78 (by omega)) h2, gx_ic (fun c y => q c (by omega)) h3, by rw [k1.2.2.2.1 rfl]; exact gx_xc (fun c y => q c (by omega)) h4, tp_Ac (fun c y => q c (by omega)) (fun i _ _ => by rw [q 95 (by omega)]) (fr 3 (by decide) 7 (Or.inl rfl)) (fr 3 (by decide) 8 (Or.inr rfl)) h5, tr_Ac (fun c y => q c (by omega)) (fr 0 (by decide)) h6, gx_7c (fun c y => q c (by omega)) (by rw [q 1 (by omega)]; exact Int.le_refl _) (fr 1 (by decide)) h7, gx_8c (fun c y => q c (by omega)) h8, gx_9c (q 95 (by omega)) h9⟩
    rw [q 28 (by omega)]
    refine gr_Te g (gr_Tx hF.1.1 hF.2.2 (gr_fe (fr 4 (by decide)) (fr 5 (by decide)) (fr 6 (by decide))) ?_ hR)
    rcases hT with ⟨y, y1, _⟩ | ⟨y, y1, _⟩
    · rcases k2 with ⟨_, _, ⟨m0, m1, m2, m3, m4⟩, mo⟩ | ⟨k, _⟩
      · rw [y1]
        obtain ⟨⟨⟨p0, p1⟩, p2⟩, p3, p4, p5, p6⟩ := y
        refine ⟨fun w w0 x1 => ?_, fun w w0 x1 => ?_⟩
        · by_cases yw : w = a1
          · refine Or.inr ?_
            rw [yw, m0, m1, m2, m3, m4]
            exact ⟨rfl, p3, p4, p5, p6, if_pos rfl⟩
          · have m := hR.2.2.2.1 w w0 x1
            have m := gr_1e (B := s'.1 96) (fun i i0 i1 => mo i (by omega)) m
            unfold gr_1 at m ⊢
            rw [show ds_u1 sv a1 (mg_v a2 a3 a4 a5) w = sv w from if_neg yw]
            exact m
        · exact (show ds_u1 sv a1 (mg_v a2 a3 a4 a5) w = sv w from if_neg (by omega)).trans (hR.2.2.2.2 w w0 x1)
      · exact absurd y k
    · rcases k2 with ⟨k, _⟩ | ⟨_, _, k⟩
      · exact absurd k y
      · rw [y1, k]; exact hR.2.2.2
  · unfold fw_318 fw_251
    refine fl_183 ⟨fun q => Or.inr ⟨fun y => bd_f q ⟨y.1.1.1, by have := y.1.1.2; omega⟩, rfl, rfl⟩, fun q => ?_⟩
    have q := bd_t q
    refine fl_252 hR.1 q.1 (by omega) ⟨fun q1 => Or.inr ⟨fun y => by have := of_decide_eq_true q1; have := y.1.2; omega, rfl, rfl⟩, fun q1 => fl_183 ⟨fun q2 => Or.inr ⟨fun y => bd_f q2 y.2.1, rfl, rfl⟩, fun q2 => fl_183 ⟨fun q3 => Or.inr ⟨fun y => bd_f q3 y.2.2.1, rfl, rfl⟩, fun q3 => fl_183 ⟨fun q4 => Or.inr ⟨fun y => bd_f q4 y.2.2.2.1, rfl, rfl⟩, fun q4 => fl_183 ⟨fun q5 _ _ _ _ _ => ?_, fun q5 => Or.inr ⟨fun y => bd_f q5 y.2.2.2.2, rfl, rfl⟩⟩⟩⟩⟩⟩
    have q6 : s.1 6 a1 = 0 := by
      have := of_decide_eq_false q1
      have := hF.1.2.1.1 a1
      omega
    refine Or.inl ⟨⟨⟨⟨q.1, by omega⟩, q6⟩, bd_t q2, bd_t q3, bd_t q4, bd_t q5⟩, rfl, ⟨?_, ?_, ?_, ?_, zu_s⟩, fun i hi => (zu_i (by omega)).trans ((lf_up_i (by omega)).trans ((lf_up_i (by omega)).trans ((lf_up_i (by omega)).trans (lf_up_i (by omega)))))⟩
    · exact (zu_i (by omega)).trans ((lf_up_i (by omega)).trans ((lf_up_i (by omega)).trans ((lf_up_i (by omega)).trans lf_up_s)))
    · exact (zu_i (by omega)).trans ((lf_up_i (by omega)).trans ((lf_up_i (by omega)).trans lf_up_s))
    · exact (zu_i (by omega)).trans ((lf_up_i (by omega)).trans lf_up_s)
    · exact (zu_i (by omega)).trans lf_up_s
/-! tried -/
def gx_S166 (a1 a2 : Int) (r : Int) (I : Nat → Int → Int) (P : Nat → Option Nat) : Prop := (gx_1 I ∧ gx_2 I ∧ gx_i I ∧ gx_x I (P 3) ∧ tp_A I ∧ gx_7 I ∧ gx_8 I ∧ gx_9 I) ∧ tr_BB a1 a2 r I
def gx_R166 (a1 a2 : Int) (p : Int → Prop) (I : Nat → Int → Int) (P : Nat → Option Nat) : Prop := gx_MP (gx_S166 a1 a2) p I P
theorem gx_166 {a1 a2 : Int} {Q : Int → lf_Z → Prop} (hI : iv_A s.1 s.2.2) (ba1 : (-2147483648) ≤ a1 ∧ a1 ≤ 2147483647) (ba2 : 0 ≤ a2 ∧ a2 ≤ 1) (hA : gx_A s.1 s.2.2) (hQ : ∀ (r : Int) (s' : lf_Z), iv_A s'.1 s'.2.2 → lf_fq [29, 30] 1000000 true s.1 s.2.2 s'.1 s'.2.2 → gx_S166 a1 a2 r s'.1 s'.2.2 → ((-2147483648) ≤ r ∧ r ≤ 2147483647) → Q r s') : fm_166 a1 a2 Q s := by
  obtain ⟨h1, h2, h3, h4, h5, h6, h7, h8, h9⟩ := hA
  refine tr_166 hI ba1 ba2 (fun r s' k1 k2 k3 k4 => hQ r s' k1 k2 ⟨?_, tr_t1 h6 k2 k3⟩ k4)
  have q : ∀ c : Nat, (c < 29 ∨ (30 < c ∧ c < 1000)) → s'.1 c = s.1 c := fun c y => k2.1 c (gx_nc (by simp; omega))
  rw [k2.2.2.1 rfl]
  exact ⟨gx_1c (fun c y => q c (by omega)) h1, gx_2c (q 1 (by omega)) (q 78 (by omega)) h2, gx_ic (fun c y => q c (by omega)) h3, gx_xc (fun c y => q c (by omega)) h4, tp_Ac (fun c y => q c (by omega)) (fun i _ _ => by rw [q 95 (by omega)]) (by rw [q 96 (by omega)]) (by rw [q 96 (by omega)]) h5, gx_7c (fun c y => q c (by omega)) (by rw [q 1 (by omega)]; exact Int.le_refl _) (fun i _ => by rw [q 96 (by omega)]) h7, gx_8c (fun c y => q c (by omega)) h8, gx_9c (q 95 (by omega)) h9⟩
theorem gx_321 {a1 a2 : Int} {Q : Int → lf_Z → Prop} (hI : iv_A s.1 s.2.2) (ba1 : (-2147483648) ≤ a1 ∧ a1 ≤ 2147483647) (ba2 : 0 ≤ a2 ∧ a2 ≤ 1) (hM : gx_R166 a1 a2 p s.1 s.2.2) (hQ : ∀ (r : Int) (s' : lf_Z), iv_A s'.1 s'.2.2 → lf_fq [96, 1000] 11 true s.1 s.2.2 s'.1 s'.2.2 → (gx_p p r ∧ gx_A s'.1 s'.2.2) → ((-2) ≤ r ∧ r ≤ 13) → Q r s') : fm_321 a1 a2 Q s := by
  obtain ⟨r0, hp, ⟨h1, h2, h3, h4, h5, h7, h8, h9⟩, hT⟩ := hM
  refine tr_321 hI ba1 ba2 (fun r s' k1 k2 k3 k4 => hQ r s' k1 k2 ⟨(tr_t2 hT k2 k3).1 ▸ hp, ?_⟩ k4)
  have q : ∀ c : Nat, (c < 96 ∨ (96 < c ∧ c < 1000)) → s'.1 c = s.1 c := fun c y => k2.1 c (gx_nc (by simp; omega))
  have fr : ∀ k : Nat, (k ≠ 0 ∧ k < 7) → ∀ i, fr_g k i → s'.1 96 i = s.1 96 i := fun k hk => k2.2.2.2 k (gx_nc (by simp; omega))
  exact ⟨gx_1f (fun c y => q c (by omega)) (fr 2 (by decide)) (fr 4 (by decide)) (fr 5 (by decide)) (fr 6 (by decide)) h1, gx_2c (q 1 (by omega)) (q 78 (by omega)) h2, gx_ic (fun c y => q c (by omega)) h3, by rw [k2.2.2.1 rfl]; exact gx_xc (fun c y => q c (by omega)) h4, tp_Ac (fun c y => q c (by omega)) (fun i _ _ => by rw [q 95 (by omega)]) (fr 3 (by decide) 7 (Or.inl rfl)) (fr 3 (by decide) 8 (Or.inr rfl)) h5, (tr_t2 hT k2 k3).2, gx_7c (fun c y => q c (by omega)) (by rw [q 1 (by omega)]; exact Int.le_refl _) (fr 1 (by decide)) h7, gx_8c (fun c y => q c (by omega)) h8, gx_9c (q 95 (by omega)) h9⟩
end GP
/-! image, back, a text played, stopped and home: within the law -/
section GI
variable {J K M : Nat → Int → Int} {s t u : lf_Z} {f f' g A B sv sw F S S' : Int → Int} {H H' G : List rr_H} {X : mn_X} {I I' C C' : Nat → Int → Int} {P P' : Nat → Option Nat} {o : Option Nat} {a b c d e r j n w x : Int} {T T' : Int → Int} {D : List Int} {L : List (Int × Int × Int)} {l : List Nat} {bb : Bool} {p : Int → Prop} {z : Bool}
/-! image -/
def gx_xi (I : Nat → Int → Int) (o : Option Nat) : Prop := (0 ≤ I 0 11 ∧ I 0 11 ≤ 4) ∧ (∀ k : Nat, (k : Int) < I 0 11 → gx_t (gx_C I) (I 98) k) ∧ (-1 ≤ I 0 12 ∧ I 0 12 < I 0 11) ∧ o = (if 0 ≤ I 0 12 then some (I 0 12).toNat else none)
def gx_S173 (r : Int) (I : Nat → Int → Int) (P : Nat → Option Nat) : Prop := (gx_1 I ∧ gx_xi I (P 3) ∧ gx_7 I ∧ gx_9 I) ∧ (tp_IM I ∧ tr_IM I) ∧ (I 78 0 = I 1 0 ∧ I 78 1 = I 1 1 ∧ I 78 2 = I 1 2 ∧ I 78 3 = I 0 11 ∧ I 78 4 = I 0 12) ∧ bk_S I I 79 15 ∧ bk_T I I 86 22 ∧ ib_N I I 89 25 ∧ r = I 15 7
def gx_R173 (p : Int → Prop) (I : Nat → Int → Int) (P : Nat → Option Nat) : Prop := gx_MP gx_S173 p I P
theorem gx_173 {Q : Int → lf_Z → Prop} (hI : iv_A s.1 s.2.2) (hA : gx_A s.1 s.2.2) (hQ : ∀ (r : Int) (s' : lf_Z), iv_A s'.1 s'.2.2 → lf_fq [78, 79, 80, 81, 82, 83, 84, 85, 86, 87, 88, 89, 90, 91, 92, 93, 94] 1000000 true s.1 s.2.2 s'.1 s'.2.2 → gx_S173 r s'.1 s'.2.2 → ((-2147483648) ≤ r ∧ r ≤ 2147483647) → Q r s') : fm_173 Q s := by
  obtain ⟨h1, h2, h3, h4, h5, h6, h7, h8, h9⟩ := hA
  refine cj_173 (Q1 := fun r s' => iv_A s'.1 s'.2.2 ∧ lf_fq [78, 79, 80, 81, 82, 83, 84, 85, 86, 87, 88, 89, 90, 91, 92, 93, 94] 1000000 true s.1 s.2.2 s'.1 s'.2.2 ∧ ((-2147483648) ≤ r ∧ r ≤ 2147483647)) (Q2 := fun r t => (t.1 78 0 = s.1 1 0 ∧ t.1 78 1 = s.1 1 1 ∧ t.1 78 2 = s.1 1 2 ∧ t.1 78 3 = s.1 0 11 ∧ t.1 78 4 = s.1 0 12) ∧ bk_S t.1 s.1 79 15 ∧ bk_T t.1 s.1 86 22 ∧ ib_N t.1 s.1 89 25 ∧ r = s.1 15 7) (fun r s' k1 k2 => hQ r s' k1.1 k1.2.1 ?_ k1.2.2) (sm_173 hI (fun r s' h1 h2 h3 => ⟨h1, h2, h3⟩)) ?_
  · obtain ⟨d1, d2, d3, d4, d5⟩ := k2
    have q : ∀ c : Nat, (c < 78 ∨ (94 < c ∧ c < 1000)) → s'.1 c = s.1 c := fun c y => k1.2.1.1 c (gx_nc (by simp; omega))
    refine ⟨⟨gx_1c (fun c y => q c (by omega)) h1, ?_, gx_7c (fun c y => q c (by omega)) (by rw [q 1 (by omega)]; exact Int.le_refl _) (fun i _ => by rw [q 96 (by omega)]) h7, gx_9c (q 95 (by omega)) h9⟩, ⟨tp_i1 h5 k1.2.1 ⟨d1.2.2.2.1, d1.2.2.2.2⟩, tr_i1 h6 k1.2.1 (fun j j0 j1 => d4.2.2.1 j j0 j1)⟩, by rw [q 1 (by omega), q 0 (by omega)]; exact d1, bk_Sc (fun k _ _ => rfl) (fun k k0 k1 => q k (by omega)) d2, bk_Tc (fun k _ _ => rfl) (fun k k0 k1 => q k (by omega)) d3, ib_Nc (fun k _ _ => rfl) (fun k k0 k1 => q k (by omega)) d4, by rw [q 15 (by omega)]; exact d5⟩
    obtain ⟨x1, x2, x3, x4, x5⟩ := h4
    unfold gx_xi
    rw [q 0 (by omega), q 98 (by omega), k1.2.1.2.2.1 rfl]
    exact ⟨x1, fun k hk => gx_tc (fun c c0 c1 => q (35 + c) (by omega)) (fun _ _ _ => rfl) (x2 k hk), x3, x4⟩
  · exact ib_173 (fun t d1 d2 d3 d4 => ⟨d1, d2, d3, d4, rfl⟩)
theorem gx_325 {Q : Int → lf_Z → Prop} (hI : iv_A s.1 s.2.2) (hM : gx_R173 p s.1 s.2.2) (hQ : ∀ (r : Int) (s' : lf_Z), iv_A s'.1 s'.2.2 → lf_fq [97] 1000000 true s.1 s.2.2 s'.1 s'.2.2 → (gx_p p r ∧ gx_A s'.1 s'.2.2) → ((-2147483648) ≤ r ∧ r ≤ 2147483647) → Q r s') : fm_325 Q s := by
  obtain ⟨r0, hp, ⟨⟨f, H, hF, hC, hR⟩, hx, h7, h9⟩, ⟨hP, hT⟩, ⟨n0, n1, n2, n3, n4⟩, d2, d3, d4, d5⟩ := hM
  have e3 : s.1 96 3 = s.1 15 7 := by rw [hR.2.1.1, hC.1.2.2.2.2.1]
  refine cj_325 (Q1 := fun r s' => iv_A s'.1 s'.2.2 ∧ lf_fq [97] 1000000 true s.1 s.2.2 s'.1 s'.2.2 ∧ ((-2147483648) ≤ r ∧ r ≤ 2147483647)) (Q2 := fun r t => (∀ i : Int, 0 ≤ i → i < 1538 → t.1 97 i = s.1 96 i) ∧ r = r0) (fun r s' k1 k2 => hQ r s' k1.1 k1.2.1 ⟨k2.2 ▸ hp, ?_⟩ k1.2.2) (sm_325 hI (fun r s' h1 h2 h3 => ⟨h1, h2, h3⟩)) ?_
  · have q : ∀ c : Nat, (c ≠ 97 ∧ c < 1000) → s'.1 c = s.1 c := fun c y => k1.2.1.1 c (gx_nc (by simp; omega))
    have g : gj_e s.1 s'.1 := fun c c0 c1 => q c (by omega)
    have e78 : s'.1 78 = s.1 78 := q 78 (by omega)
    have e1 : s'.1 1 = s.1 1 := q 1 (by omega)
    have a0 : gx_K s'.1 1 0 = s.1 1 0 := by rw [gx_K1, e78]; exact n0
    have a1 : gx_K s'.1 1 1 = s.1 1 1 := by rw [gx_K1, e78]; exact n1
    have a2 : gx_K s'.1 1 2 = s.1 1 2 := by rw [gx_K1, e78]; exact n2
    have rows : ∀ c : Nat, 2 ≤ c → c ≤ 10 → gx_K s'.1 c = s.1 c := fun c c0 c1 => (gx_Kc (by omega)).trans (q c (by omega))
    obtain ⟨w0, w1, w2, w3, _⟩ := hF.1.1
    refine ⟨⟨f, H, gf_Te g hF, gc_Te (fun c c0 c1 => q c (by omega)) hC, by rw [q 28 (by omega), q 96 (by omega)]; exact gr_Te g hR⟩, ?_, ⟨⟨fun w x0 x1 => ?_, fun y y0 y1 => ?_⟩, f, H, ⟨gj_P3 a0 a1 a2 hF.2.1, gj_H3 a0 a1 a2 hF.2.2⟩, ⟨?_, ?_⟩, ?_⟩, ?_, tp_i2 hP k1.2.1 k2.1, tr_i2 hT k1.2.1 k2.1, gx_7c (fun c y => q c (by omega)) (by rw [e1]; exact Int.le_refl _) (fun i _ => by rw [q 96 (by omega)]) h7, ?_, gx_9c (q 95 (by omega)) h9⟩
    · unfold gx_2
      rw [e78, e1]
      omega
    · rw [a1] at x1
      rw [a0, rows 4 (by decide) (by decide), rows 5 (by decide) (by decide)]
      have := w3 w x0 x1
      exact ⟨this.1.2, this.2.1.2⟩
    · rw [a2] at y1
      rw [a0, rows 10 (by decide) (by decide)]
      exact hF.1.2.2.2 y y0 y1
    · exact bk_rS (k := 64) (m := 0) (G := s.1) hC.1 (bk_Sc (fun k k0 k1 => q k (by omega)) (fun k _ _ => rfl) d2)
    · exact bk_rH (k := 64) (m := 0) (G := s.1) hC.2 (bk_Tc (fun k k0 k1 => q k (by omega)) (fun k _ _ => rfl) d3)
    · refine gr_L3 rows a0 a1 a2 (gr_Tc hF.1.1 hF.2.2 (fun w w0 w1 => ?_) k2.1 hR)
      rw [q 92 (by omega)]
      exact d4.2.1 w w0 w1
    · obtain ⟨x1, x2, x3, x4⟩ := hx
      unfold gx_x
      rw [q 0 (by omega), q 98 (by omega), e78, k1.2.1.2.2.1 rfl, n3, n4]
      exact ⟨x1, fun k hk => gx_tc (fun c c0 c1 => q (35 + c) (by omega)) (fun _ _ _ => rfl) (x2 k hk), x3, x4, ⟨x1.1, Int.le_refl _⟩, x3⟩
    · unfold gx_8
      rw [e78, q 89 (by omega), q 90 (by omega), q 91 (by omega), n0]
      obtain ⟨⟨s1, s2, s3⟩, s4⟩ := h7
      have c2 := d4.2.2.2
      refine ⟨⟨by rw [c2, k2.1 10 (by decide) (by decide)]; exact s1, by omega, by omega⟩, fun k k0 k1 => ?_⟩
      have m := s4 k k0 (by omega)
      rw [(d4.1 k k0 (by omega)).1, (d4.1 k k0 (by omega)).2, k2.1 (162 + 2 * k) (by omega) (by omega), k2.1 (162 + 2 * k + 1) (by omega) (by omega)]
      exact m
  · unfold fw_325
    refine fl_181 (fun t tc t2 tn => ⟨tn, ?_⟩)
    rw [tc 96 (by decide), e3, d5]
/-! back -/
def gx_S177 (r : Int) (I : Nat → Int → Int) (P : Nat → Option Nat) : Prop := (gx_i I ∧ gx_8 I ∧ gx_9 I ∧ gx_xi I (P 3) ∧ mn_W I ∧ mn_B I ∧ mn_V I) ∧ (tp_KM I ∧ tr_KM I) ∧ (I 1 0 = I 78 0 ∧ I 1 1 = I 78 1 ∧ I 1 2 = I 78 2 ∧ I 0 11 = I 78 3 ∧ I 0 12 = I 78 4) ∧ bk_S I I 15 79 ∧ bk_T I I 22 86 ∧ ib_N I I 25 89 ∧ r = I 79 7
def gx_R177 (p : Int → Prop) (I : Nat → Int → Int) (P : Nat → Option Nat) : Prop := gx_MP gx_S177 p I P
theorem gx_ib (q : ∀ c : Nat, ((2 ≤ c ∧ c ≤ 10) ∨ (78 ≤ c ∧ c < 95) ∨ c = 97) → I' c = I c) (h : gx_i I) : gx_i I' := by
  have e1 : gx_K I' 1 = gx_K I 1 := by rw [gx_K1, gx_K1]; exact q 78 (by omega)
  have g : ∀ c : Nat, 2 ≤ c → c ≤ 10 → gx_K I' c = gx_K I c := fun c c0 c1 => by rw [gx_Kc (by omega), gx_Kc (by omega)]; exact q c (by omega)
  obtain ⟨hv, f, H, ⟨h1, h2⟩, h3, h4⟩ := h
  refine ⟨?_, f, H, ⟨gj_P e1 h1, gj_H e1 h2⟩, gc_Te (fun c c0 c1 => q (c + 64) (by omega)) h3, ?_⟩
  · unfold gx_V at hv ⊢
    rw [e1, g 4 (by decide) (by decide), g 5 (by decide) (by decide), g 10 (by decide) (by decide)]
    exact hv
  · rw [q 92 (by omega), q 97 (by omega)]
    exact gr_L3 g (by rw [e1]) (by rw [e1]) (by rw [e1]) h4
theorem gx_177 {Q : Int → lf_Z → Prop} (hI : iv_A s.1 s.2.2) (hA : gx_A s.1 s.2.2) (hQ : ∀ (r : Int) (s' : lf_Z), iv_A s'.1 s'.2.2 → lf_fq [0, 1, 11, 12, 13, 15, 16, 17, 18, 19, 20, 21, 22, 23, 24, 25, 26, 27, 28, 29, 30] 1000000 false s.1 s.2.2 s'.1 s'.2.2 → gx_S177 r s'.1 s'.2.2 → ((-2147483648) ≤ r ∧ r ≤ 2147483647) → Q r s') : fm_177 Q s := by
  obtain ⟨⟨f, H, hF, hC, hR⟩, h2, h3, h4, h5, h6, h7, h8, h9⟩ := hA
  have hV := h3.1
  refine cj_177 (Q1 := fun r s' => iv_A s'.1 s'.2.2 ∧ lf_fq [0, 1, 11, 12, 13, 15, 16, 17, 18, 19, 20, 21, 22, 23, 24, 25, 26, 27, 28, 29, 30] 1000000 false s.1 s.2.2 s'.1 s'.2.2 ∧ ((-2147483648) ≤ r ∧ r ≤ 2147483647)) (Q2 := fun r t => (t.1 1 0 = s.1 78 0 ∧ t.1 1 1 = s.1 78 1 ∧ t.1 1 2 = s.1 78 2) ∧ (t.1 0 11 = s.1 78 3 ∧ t.1 0 12 = s.1 78 4) ∧ t.2.2 3 = (if 0 ≤ s.1 78 4 ∧ s.1 78 4 < s.1 78 3 then some (s.1 78 4).toNat else none) ∧ mn_W t.1 ∧ bk_S t.1 s.1 15 79 ∧ bk_T t.1 s.1 22 86 ∧ ib_N t.1 s.1 25 89 ∧ r = s.1 79 7) (fun r s' k1 k2 => hQ r s' k1.1 k1.2.1 ?_ k1.2.2) (sm_177 hI (fun r s' h1 h2 h3 => ⟨h1, h2, h3⟩)) ?_
  · obtain ⟨d1, dt, dp, dW, d2, d3, d4, d5⟩ := k2
    have q : ∀ c : Nat, ((2 ≤ c ∧ c ≤ 10) ∨ (30 < c ∧ c < 1000)) → s'.1 c = s.1 c := fun c y => k1.2.1.1 c (gx_nc (by simp; omega))
    have e78 : s'.1 78 = s.1 78 := q 78 (by omega)
    obtain ⟨x1, x2, x3, x4, x5, x6⟩ := h4
    refine ⟨⟨gx_ib (fun c y => q c (by omega)) h3, gx_8c (fun c y => q c (by omega)) h8, gx_9c (q 95 (by omega)) h9, ?_, dW, ⟨fun w => ?_, fun y => ?_⟩, fun y => ?_⟩, ⟨tp_k1 h5 k1.2.1 dt, tr_k1 h6 k1.2.1 rfl (fun j j0 j1 => d4.2.2.1 j j0 j1)⟩, by rw [e78]; exact ⟨d1.1, d1.2.1, d1.2.2, dt.1, dt.2⟩, bk_Sc (fun k _ _ => rfl) (fun k k0 k1 => q k (by omega)) d2, bk_Tc (fun k _ _ => rfl) (fun k k0 k1 => q k (by omega)) d3, ib_Nc (fun k _ _ => rfl) (fun k k0 k1 => q k (by omega)) d4, by rw [q 79 (by omega)]; exact d5⟩
    · unfold gx_xi
      rw [q 98 (by omega), dt.1, dt.2, dp]
      refine ⟨⟨x5.1, by omega⟩, fun k hk => gx_tc (fun c c0 c1 => q (35 + c) (by omega)) (fun _ _ _ => rfl) (x2 k (by omega)), x6, ?_⟩
      by_cases y : 0 ≤ s.1 78 4
      · rw [if_pos ⟨y, x6.2⟩, if_pos y]
      · rw [if_neg (fun m => y m.1), if_neg y]
    · rw [q 6 (by omega)]; exact hF.1.2.1.1 w
    · rw [q 8 (by omega), q 9 (by omega)]; exact hF.1.2.1.2 y
    · rw [q 7 (by omega), q 2 (by omega)]; exact hF.1.2.2.1 y
  · refine ib_177 hF.1.1 ⟨h4.2.2.2.2.1.1, by have := h4.1.2; have := h4.2.2.2.2.1.2; omega⟩ h2.1 h2.2.1 h2.2.2 (fun w w0 w1 => ?_) (fun t d1 dt dp dW d2 d3 d4 => ⟨d1, dt, dp, dW, d2, d3, d4, rfl⟩)
    have m := hV.1 w w0 (by rw [gx_K1]; exact w1)
    rw [gx_Kc (I := s.1) (c := 4) (by decide), gx_Kc (I := s.1) (c := 5) (by decide), gx_K1] at m
    exact m
theorem gx_326 {Q : Int → lf_Z → Prop} (hI : iv_A s.1 s.2.2) (hM : gx_R177 p s.1 s.2.2) (hQ : ∀ (r : Int) (s' : lf_Z), iv_A s'.1 s'.2.2 → lf_fq [96, 1000, 1001, 1002, 1003, 1004, 1005, 1006] 0 true s.1 s.2.2 s'.1 s'.2.2 → (gx_p p r ∧ gx_A s'.1 s'.2.2) → ((-2147483648) ≤ r ∧ r ≤ 2147483647) → Q r s') : fm_326 Q s := by
  obtain ⟨r0, hp, ⟨h3, h8, h9, hx, hW, hB, hV⟩, ⟨hP, hT⟩, ⟨n0, n1, n2, n3, n4⟩, d2, d3, d4, d5⟩ := hM
  have h3' := h3
  obtain ⟨⟨v1, v2⟩, g, G, ⟨gP, gH⟩, gC, gR⟩ := h3'
  have e3 : s.1 97 3 = s.1 79 7 := by rw [gR.2.1.1]; exact gC.1.2.2.2.2.1.symm
  refine cj_326 (Q1 := fun r s' => iv_A s'.1 s'.2.2 ∧ lf_fq [96, 1000, 1001, 1002, 1003, 1004, 1005, 1006] 0 true s.1 s.2.2 s'.1 s'.2.2 ∧ ((-2147483648) ≤ r ∧ r ≤ 2147483647)) (Q2 := fun r t => (∀ i : Int, 0 ≤ i → i < 1538 → t.1 96 i = s.1 97 i) ∧ r = r0) (fun r s' k1 k2 => hQ r s' k1.1 k1.2.1 ⟨k2.2 ▸ hp, ?_⟩ k1.2.2) (sm_326 hI (fun r s' h1 h2 h3 => ⟨h1, h2, h3⟩)) ?_
  · have q : ∀ c : Nat, (c ≠ 96 ∧ c < 1000) → s'.1 c = s.1 c := fun c y => k1.2.1.1 c (gx_nc (by simp; omega))
    have ge : gj_e s.1 s'.1 := fun c c0 c1 => q c (by omega)
    have e78 : s'.1 78 = s.1 78 := q 78 (by omega)
    have e1 : s'.1 1 = s.1 1 := q 1 (by omega)
    have a0 : s.1 1 0 = gx_K s.1 1 0 := by rw [gx_K1]; exact n0
    have a1 : s.1 1 1 = gx_K s.1 1 1 := by rw [gx_K1]; exact n1
    have a2 : s.1 1 2 = gx_K s.1 1 2 := by rw [gx_K1]; exact n2
    have rows : ∀ c : Nat, 2 ≤ c → c ≤ 10 → s.1 c = gx_K s.1 c := fun c c0 c1 => (gx_Kc (by omega)).symm
    have hF : gf_T s.1 g G := by
      refine ⟨⟨hW, hB, hV, fun y y0 y1 => ?_⟩, gj_P3 a0 a1 a2 gP, gj_H3 a0 a1 a2 gH⟩
      have m := v2 y y0 (by omega)
      rw [gx_Kc (I := s.1) (c := 10) (by decide), ← a0] at m
      exact m
    have hC : gc_T s.1 g G := ⟨bk_rS (k := 0) (m := 64) (F := s.1) (G := s.1) gC.1 d2, bk_rH (k := 0) (m := 64) (F := s.1) (G := s.1) gC.2 d3⟩
    refine ⟨⟨g, G, gf_Te ge hF, gc_Te (fun c c0 c1 => q c (by omega)) hC, ?_⟩, ?_, gx_ic (fun c y => q c (by omega)) h3, ?_, tp_k2 hP k1.2.1 k2.1, tr_k2 hT k1.2.1 rfl k2.1, ?_, gx_8c (fun c y => q c (by omega)) h8, gx_9c (q 95 (by omega)) h9⟩
    · rw [q 28 (by omega)]
      refine gr_Te ge (gr_Tc hW hF.2.2 (fun w w0 w1 => d4.2.1 w w0 w1) k2.1 (gr_L3 rows a0 a1 a2 gR))
    · unfold gx_2
      rw [e78, e1]
      obtain ⟨m0, m1, m2, _⟩ := hW
      omega
    · obtain ⟨x1, x2, x3, x4⟩ := hx
      unfold gx_x
      rw [q 0 (by omega), q 98 (by omega), e78, k1.2.1.2.2.1 rfl, ← n3, ← n4]
      exact ⟨x1, fun k hk => gx_tc (fun c c0 c1 => q (35 + c) (by omega)) (fun _ _ _ => rfl) (x2 k hk), x3, x4, ⟨x1.1, Int.le_refl _⟩, x3⟩
    · unfold gx_7
      rw [e1, q 25 (by omega), q 26 (by omega), q 27 (by omega), n0]
      obtain ⟨⟨s1, s2, s3⟩, s4⟩ := h8
      have c2 := d4.2.2.2
      refine ⟨⟨by rw [c2, k2.1 10 (by decide) (by decide)]; exact s1, by omega, by omega⟩, fun k k0 k1 => ?_⟩
      have m := s4 k k0 (by omega)
      rw [(d4.1 k k0 (by omega)).1, (d4.1 k k0 (by omega)).2, k2.1 (162 + 2 * k) (by omega) (by omega), k2.1 (162 + 2 * k + 1) (by omega) (by omega)]
      exact m
  · unfold fw_326
    refine fl_181b (fun t tc t2 tn => ⟨tn, ?_⟩)
    rw [tn 3 (by decide) (by decide), e3, d5]
/-! a text played -/
def gx_r103 (a1 n0 : Int) (L : List (Int × Int × Int)) : gx_O := fun X J f H K f' H' r => (¬ (0 ≤ a1 ∧ a1 < n0) ∧ gj_e J K ∧ f' = f ∧ H' = H ∧ r = -2) ∨ ((0 ≤ a1 ∧ a1 < n0) ∧ pl_T X L 0 J f H K f' H' r)
def gx_S103 (a1 : Int) (r : Int) (I : Nat → Int → Int) (P : Nat → Option Nat) : Prop := ∃ (F : Int → Int) (n : Int) (D : List Int), (0 ≤ a1 ∧ a1 < I 0 11 → rs_X F n (I 98) (705 * a1) D ∧ ∀ b ∈ D, cs_w F n b = 26 → 0 ≤ cs_v F n b ∧ cs_v F n b ≤ 9) ∧ gx_M (gx_r103 a1 (I 0 11) (pl_d F n D)) r I P
def gx_R103 (a1 : Int) (p : Int → Prop) (I : Nat → Int → Int) (P : Nat → Option Nat) : Prop := gx_MP (gx_S103 a1) p I P
theorem gx_103 {a1 : Int} {Q : Int → lf_Z → Prop} (hI : iv_A s.1 s.2.2) (ba1 : (-2147483648) ≤ a1 ∧ a1 ≤ 2147483647) (hA : gx_A s.1 s.2.2) (hQ : ∀ (r : Int) (s' : lf_Z), iv_A s'.1 s'.2.2 → lf_fq [1, 2, 3, 4, 5, 6, 7, 8, 9, 10, 11, 12, 13, 15, 16, 17, 18, 19, 20, 21, 22, 23, 24, 63, 64, 65, 66] 1000000 true s.1 s.2.2 s'.1 s'.2.2 → gx_S103 a1 r s'.1 s'.2.2 → ((-2) ≤ r ∧ r ≤ 23) → Q r s') : fm_103 a1 Q s := by
  refine cj_103 (Q1 := fun r s' => iv_A s'.1 s'.2.2 ∧ lf_fq [1, 2, 3, 4, 5, 6, 7, 8, 9, 10, 11, 12, 13, 15, 16, 17, 18, 19, 20, 21, 22, 23, 24, 63, 64, 65, 66] 1000000 true s.1 s.2.2 s'.1 s'.2.2 ∧ ((-2) ≤ r ∧ r ≤ 23)) (Q2 := fun r s' => gx_S103 a1 r s'.1 s'.2.2) (fun r s' h1 h2 => hQ r s' h1.1 h1.2.1 h2 h1.2.2) (sm_103 hI ba1 (fun r s' h1 h2 h3 => ⟨h1, h2, h3⟩)) ?_
  obtain ⟨⟨f, H, hF, hC, hR⟩, hD⟩ := hA
  obtain ⟨X, hB, hX, hXr⟩ := gx_X hD.2.2.1 hD.2.2.2.1.2.2.2.1 hD.2.2.2.2.2.2.2
  have hx := hD.2.2.1
  unfold fw_103
  refine ib_62 hx.1.2 ?_
  by_cases c : 0 ≤ a1 ∧ a1 < s.1 0 11
  · rw [if_pos c]
    refine ⟨(fun y => by cases y), fun y ey y4 => ?_⟩
    have ey : a1.toNat = y := Option.some.inj ey
    obtain ⟨F, n, D, ⟨⟨t1, _⟩, t2, _⟩, _, t4, t5⟩ := hx.2.1 y (by omega)
    have ea : a1 = (y : Int) := by omega
    have h24 : D.length ≤ 24 := by obtain ⟨_, _, _, h, _⟩ := t4; exact h
    refine gc_103p (F := F) (n := n) (D := D) t1 h24 y4 (fun i b hb => ?_) hF hC hX hB (fun r t f' H' h1 h2 h3 h4 => ⟨F, n, D, fun _ => ?_, gx_m1 (rel := gx_r103 a1 (t.1 0 11) (pl_d F n D)) hB hXr hF hR hD (Or.inr ⟨?_, h1⟩) h2 h3 h4 (gw_pl _ _ _ _ _ h1)⟩)
    · obtain ⟨m1, m2, m3⟩ := t2 i b hb
      refine ⟨?_, ?_, ?_⟩
      · rw [show 39 + 7 * y = 35 + (4 + 7 * y) by omega]; exact m1
      · rw [show 40 + 7 * y = 35 + (5 + 7 * y) by omega]; exact m2
      · rw [show 41 + 7 * y = 35 + (6 + 7 * y) by omega]; exact m3
    · rw [h4.1 98 (by decide), ea]; exact ⟨t4, t5⟩
    · rw [h4.1 0 (by decide)]; exact c
  · rw [if_neg c]
    refine ⟨fun _ => ⟨fun _ => 0, 0, [], fun y => absurd y c, gx_m1 (rel := gx_r103 a1 (s.1 0 11) (pl_d (fun _ => 0) 0 [])) hB hXr hF hR hD (Or.inl ⟨c, gj_r, rfl, rfl, rfl⟩) hF hC gc_Fr gw_r⟩, fun y ey _ => by cases ey⟩
theorem gx_280 {a1 : Int} {Q : Int → lf_Z → Prop} (hI : iv_A s.1 s.2.2) (ba1 : (-2147483648) ≤ a1 ∧ a1 ≤ 2147483647) (hM : gx_R103 a1 p s.1 s.2.2) (hQ : ∀ (r : Int) (s' : lf_Z), iv_A s'.1 s'.2.2 → lf_fq [96, 104, 107, 108, 1002, 1004, 1005, 1006] 0 true s.1 s.2.2 s'.1 s'.2.2 → (gx_p p r ∧ gx_A s'.1 s'.2.2) → ((-2) ≤ r ∧ r ≤ 23) → Q r s') : fm_280 a1 Q s := by
  obtain ⟨r0, hp, F, n, D, hL, ⟨X, J, f, H, f', H', hB, hX, hT, hF, hR, hF', hC'⟩, hD⟩ := hM
  have e7 : s.1 96 7 = s.1 0 11 := hD.2.2.2.1.2.2.1.symm
  refine cj_280 (Q1 := fun r s' => iv_A s'.1 s'.2.2 ∧ lf_fq [96, 104, 107, 108, 1002, 1004, 1005, 1006] 0 true s.1 s.2.2 s'.1 s'.2.2 ∧ ((-2) ≤ r ∧ r ≤ 23)) (Q2 := fun r t => gr_F s t ∧ gr_T (s.1 28) s.1 f' H' (t.1 96) ∧ r = r0) (fun r s' h1 h2 => hQ r s' h1.1 h1.2.1 ⟨h2.2.2 ▸ hp, gx_m2 hF' hC' hD h2.1 h2.2.1 h1.2.1 rfl⟩ h1.2.2) (sm_280 hI ba1 (fun r s' h1 h2 h3 => ⟨h1, h2, h3⟩)) ?_
  unfold fw_280
  rw [e7]
  refine fl_183 ⟨fun q => ?_, fun q => ?_⟩
  · have q := bd_t q
    have c : 0 ≤ a1 ∧ a1 < s.1 0 11 := ⟨q.1, by omega⟩
    rcases hT with ⟨c', _⟩ | ⟨_, hT⟩
    · exact absurd c c'
    · obtain ⟨⟨o, _, ⟨l1, l2⟩, l3, _⟩, l5⟩ := hL c
      refine gr_280p l1 (fun i b hb => ?_) hF hR ⟨hX, rfl, hD.2.2.2.2.2.2.2.1, hD.2.2.2.2.2.2.2.2.1, hD.2.2.2.2.2.2.2.2.2.1, hD.2.2.2.2.2.2.2.2.2.2⟩ hB hT (fun t h1 h2 => ⟨h1, h2, rfl⟩)
      obtain ⟨m1, m2, _⟩ := l2 i b hb
      exact ⟨m1, fun y => (m2 y).1, fun y y2 => (m2 y).2 y2, l5 b (List.mem_of_getElem? hb)⟩
  · have q := bd_f q
    rcases hT with ⟨_, e, rfl, rfl, rfl⟩ | ⟨c, _⟩
    · exact ⟨gr_Fr, gr_Te e hR, rfl⟩
    · exact absurd ⟨c.1, by omega⟩ q
/-! stopped, home of the reference -/
theorem gx_295 {a1 : Int} {a2 : Int} {Q : Int → lf_Z → Prop} {s : lf_Z} (hI : iv_A s.1 s.2.2) (ba1 : (-2147483648) ≤ a1 ∧ a1 ≤ 2147483647) (ba2 : (-2147483648) ≤ a2 ∧ a2 ≤ 2147483647) (hA : gx_A s.1 s.2.2) (hQ : ∀ (r : Int) (s' : lf_Z), iv_A s'.1 s'.2.2 → lf_fq [95, 104, 107, 111, 112] 1000000 true s.1 s.2.2 s'.1 s'.2.2 → gx_A s'.1 s'.2.2 → ((-1) ≤ r ∧ r ≤ 4095) → Q r s') : fm_295 a1 a2 Q s := zr_295 hI hA.2.2.2.2.2.2.2.2 ba1 ba2 (fun r s' h1 h2 h3 h4 => hQ r s' h1 h2 (gx_sq hA h2 h3) h4)
theorem gx_297 {a1 : Int} {Q : Int → lf_Z → Prop} {s : lf_Z} (hI : iv_A s.1 s.2.2) (ba1 : (-2147483648) ≤ a1 ∧ a1 ≤ 2147483647) (hA : gx_A s.1 s.2.2) (hQ : ∀ (r : Int) (s' : lf_Z), iv_A s'.1 s'.2.2 → lf_fq [95, 104, 107, 111, 112] 1000000 true s.1 s.2.2 s'.1 s'.2.2 → gx_A s'.1 s'.2.2 → ((-1) ≤ r ∧ r ≤ 65535) → Q r s') : fm_297 a1 Q s := zr_297 hI hA.2.2.2.2.2.2.2.2 ba1 (fun r s' h1 h2 h3 h4 => hQ r s' h1 h2 (gx_sq hA h2 h3) h4)
end GI
/-! where of the class keeps the law that rules -/
section RQ
variable {l l' : List Nat} {w w' i v : Int} {b b' : Bool} {c k : Nat} {I I' I2 : Nat → Int → Int} {P P' P2 : Nat → Option Nat} {x : Option Nat}
def rq_fq (l : List Nat) (w : Int) (b : Bool) (I : Nat → Int → Int) (P : Nat → Option Nat) (I' : Nat → Int → Int) (P' : Nat → Option Nat) : Prop := lf_fq l w b I P I' P' ∧ P' 3 = P 3
theorem rq_fq_rf : rq_fq l w b I P I P := ⟨lf_fq_rf, rfl⟩
theorem rq_fq_tr (h1 : rq_fq l w b I P I' P') (h2 : rq_fq l w b I' P' I2 P2) : rq_fq l w b I P I2 P2 := ⟨lf_fq_tr h1.1 h2.1, h2.2.trans h1.2⟩
theorem rq_fq_wk (h : lf_fq l' w' true I P I' P') (hl : l'.all (fun c => l.contains c) = true) (hw : w ≤ w') (hb : (b && !true) = false) : rq_fq l w b I P I' P' := ⟨lf_fq_wk h hl hw hb, by rw [h.2.2.1 rfl]⟩
theorem rq_wq (h : rq_fq l' w' b' I P I' P') (hl : l'.all (fun c => l.contains c) = true) (hw : w ≤ w') (hb : (b && !b') = false) : rq_fq l w b I P I' P' := ⟨lf_fq_wk h.1 hl hw hb, h.2⟩
theorem rq_fq_pp (h : rq_fq l w false I P I' P') (hk : (3 : Nat) ≠ k) : rq_fq l w false I P I' (lf_ur P' k x) := ⟨lf_fq_pp h.1, (show lf_ur P' k x 3 = P' 3 from if_neg hk).trans h.2⟩
theorem rq_121_p33 {X10 : Int → lf_Z → Prop} {Q : lf_Z → Prop} {x1 : Int} {s : lf_Z} (hQ : ∀  (s' : lf_Z), iv_A s'.1 s'.2.2 → rq_fq [63, 64, 65, 66, 69] 1000000 false s.1 s.2.2 s'.1 s'.2.2 → Q  s') {M10 : Nat} (hX10 : ∀ (x1 : Int) (s' : lf_Z), iv_A s'.1 s'.2.2 → rq_fq [63, 64, 65, 66, 69] 1000000 false s.1 s.2.2 s'.1 s'.2.2 → 0 ≤ x1 ∧ x1 ≤ 156 → (156 - x1).toNat < M10 → X10 x1 s') (hM10 : (156 - x1).toNat ≤ M10) (hI : iv_A s.1 s.2.2) (bx1 : 0 ≤ x1 ∧ x1 ≤ 155) : fm_121_p33 X10 Q x1 s := by
  unfold fm_121_p33
  exact hX10 (x1 + 1) s hI (rq_fq_rf) (show (0 : Int) ≤ x1 + 1 ∧ x1 + 1 ≤ (156 : Int) from by omega) (show (156 - (x1 + 1)).toNat < M10 from by omega)
theorem rq_121_p10 {X10 : Int → lf_Z → Prop} {Q : lf_Z → Prop} {x1 : Int} {s : lf_Z} (hQ : ∀  (s' : lf_Z), iv_A s'.1 s'.2.2 → rq_fq [63, 64, 65, 66, 69] 1000000 false s.1 s.2.2 s'.1 s'.2.2 → Q  s') {M10 : Nat} (hX10 : ∀ (x1 : Int) (s' : lf_Z), iv_A s'.1 s'.2.2 → rq_fq [63, 64, 65, 66, 69] 1000000 false s.1 s.2.2 s'.1 s'.2.2 → 0 ≤ x1 ∧ x1 ≤ 156 → (156 - x1).toNat < M10 → X10 x1 s') (hM10 : (156 - x1).toNat ≤ M10) (hI : iv_A s.1 s.2.2) (bx1 : 0 ≤ x1 ∧ x1 ≤ 156) : fm_121_p10 Q X10 x1 s := by
  unfold fm_121_p10
  refine ⟨(show lf_R x1 from lf_Rof (by omega)), ?_⟩
  refine ⟨fun c5 => ?_, fun c5 => ?_⟩
  · skip
    replace c5 : 156 ≤ x1 := c5
    obtain ⟨w24, ew24, hww24⟩ := iv_ref0 hI
    refine ⟨w24, ew24, hww24, ?_⟩
    obtain ⟨w25, ew25, hww25⟩ := iv_ref1 hI
    refine ⟨w25, ew25, hww25, ?_⟩
    have hI6 : iv_A s.1 (lf_ur s.2.2 0 (some w25)) := iv_uw0 hI hww25
    have fr7 : rq_fq [63, 64, 65, 66, 69] 1000000 false s.1 s.2.2 s.1 (lf_ur s.2.2 0 (some w25)) := rq_fq_pp (rq_fq_rf) (by decide)
    have hI8 : iv_A s.1 (lf_ur (lf_ur s.2.2 0 (some w25)) 1 (some w24)) := iv_uw1 hI6 hww24
    have fr9 : rq_fq [63, 64, 65, 66, 69] 1000000 false s.1 s.2.2 s.1 (lf_ur (lf_ur s.2.2 0 (some w25)) 1 (some w24)) := rq_fq_pp fr7 (by decide)
    exact hQ (s.1, s.2.1, lf_ur (lf_ur s.2.2 0 (some w25)) 1 (some w24)) hI8 fr9
  · skip
    replace c5 : ¬ (156 ≤ x1) := c5
    obtain ⟨w26, ew26, hww26⟩ := iv_ref0 hI
    refine ⟨w26, ew26, hww26, ?_⟩
    refine ⟨(show (0 : Int) ≤ x1 ∧ x1 < (156 : Int) from by omega), ?_⟩
    refine ⟨fun c10 => ?_, fun c10 => ?_⟩
    · replace c10 : lf_wl (s.2.1 w26 x1) ≤ 0 := c10
      exact rq_121_p33 hQ hX10 (show (156 - x1).toNat ≤ M10 from by omega) hI (show (0 : Int) ≤ x1 ∧ x1 ≤ (155 : Int) from by omega)
    · replace c10 : ¬ (lf_wl (s.2.1 w26 x1) ≤ 0) := c10
      refine sm_122 hI (show (0 : Int) ≤ x1 ∧ x1 ≤ (155 : Int) from by omega) (fun s28 hI12 fr11 => ?_)
      have fr14 : rq_fq [63, 64, 65, 66, 69] 1000000 false s.1 s.2.2 s28.1 s28.2.2 := rq_fq_tr (rq_fq_rf) (rq_fq_wk fr11 rfl (by decide) (by decide))
      exact rq_121_p33 (fun t9 i9 f9 => hQ t9 i9 (rq_fq_tr fr14 f9)) (fun p0 t9 i9 f9 => hX10 p0 t9 i9 (rq_fq_tr fr14 f9)) (show (156 - x1).toNat ≤ M10 from by omega) hI12 (show (0 : Int) ≤ x1 ∧ x1 ≤ (155 : Int) from by omega)
theorem rq_121_p10L {Q : lf_Z → Prop} {x1 : Int} {s : lf_Z} (hQ : ∀  (s' : lf_Z), iv_A s'.1 s'.2.2 → rq_fq [63, 64, 65, 66, 69] 1000000 false s.1 s.2.2 s'.1 s'.2.2 → Q  s') (hI : iv_A s.1 s.2.2) (bx1 : 0 ≤ x1 ∧ x1 ≤ 156) : fm_121_p10L Q x1 s := by
  intro X10 hX
  have key : ∀ (m9 : Nat) (x1 : Int) (s' : lf_Z), iv_A s'.1 s'.2.2 → rq_fq [63, 64, 65, 66, 69] 1000000 false s.1 s.2.2 s'.1 s'.2.2 → 0 ≤ x1 ∧ x1 ≤ 156 → (156 - x1).toNat < m9 → X10 x1 s' := by
    intro m9
    induction m9 with
    | zero => intro x1 s' _ _ bx1 h9; exact absurd h9 (Nat.not_lt_zero _)
    | succ m9 ih => intro x1 s' i7 f7 bx1 h9; exact hX _ _ (rq_121_p10 (fun t9 i9 f9 => hQ t9 i9 (rq_fq_tr f7 f9))   (fun x1' t8 i8 f8 bx1' h8 => ih x1' t8 i8 (rq_fq_tr f7 f8) bx1' (by omega)) (Nat.le_refl _)  i7  bx1  )
  exact key _ _ s hI rq_fq_rf bx1 (Nat.lt_succ_self _)
theorem rq_121 {Q : lf_Z → Prop} {s : lf_Z} (hI : iv_A s.1 s.2.2) (hQ : ∀  (s' : lf_Z), iv_A s'.1 s'.2.2 → rq_fq [63, 64, 65, 66, 69] 1000000 false s.1 s.2.2 s'.1 s'.2.2 → Q  s') : fm_121 Q s := by
  unfold fm_121
  obtain ⟨w21, ew21, hww21⟩ := iv_ref1 hI
  refine ⟨w21, ew21, hww21, ?_⟩
  refine sm_119 hww21 hI (fun s22 hI2 fr1 => ?_)
  have fr4 : rq_fq [63, 64, 65, 66, 69] 1000000 false s.1 s.2.2 s22.1 s22.2.2 := rq_fq_tr (rq_fq_rf) (rq_fq_wk fr1 rfl (by decide) (by decide))
  exact rq_121_p10L (fun t9 i9 f9 => hQ t9 i9 (rq_fq_tr fr4 f9)) hI2 (show (0 : Int) ≤ 0 ∧ 0 ≤ (156 : Int) from by omega)
theorem rq_117_p50 {X50 : Int → Int → lf_Z → Prop} {Q : Int → lf_Z → Prop} {x3 : Int} {x4 : Int} {x6 : Int} {s : lf_Z} (hQ : ∀ (r : Int) (s' : lf_Z), iv_A s'.1 s'.2.2 → rq_fq [63, 64, 65, 66, 68, 69] 1000000 false s.1 s.2.2 s'.1 s'.2.2 → Q r s') {M50 : Nat} (hX50 : ∀ (x4 : Int) (x6 : Int) (s' : lf_Z), iv_A s'.1 s'.2.2 → rq_fq [63, 64, 65, 66, 68, 69] 1000000 false s.1 s.2.2 s'.1 s'.2.2 → 0 ≤ x6 ∧ x6 ≤ 13 → (13 - x6).toNat < M50 → X50 x4 x6 s') (hM50 : (13 - x6).toNat ≤ M50) (hI : iv_A s.1 s.2.2) (bx3 : 0 ≤ x3 ∧ x3 ≤ 11) (bx6 : 0 ≤ x6 ∧ x6 ≤ 13) : fm_117_p50 Q x3 X50 x4 x6 s := by
  unfold fm_117_p50
  refine ⟨(show lf_R x6 from lf_Rof (by omega)), ?_⟩
  refine ⟨fun c14 => ?_, fun c14 => ?_⟩
  · skip
    replace c14 : 13 ≤ x6 := c14
    exact hQ (lf_wl x4) s hI (rq_fq_rf)
  · skip
    replace c14 : ¬ (13 ≤ x6) := c14
    obtain ⟨w31, ew31, hww31⟩ := iv_ref0 hI
    refine ⟨w31, ew31, hww31, ?_⟩
    refine ⟨(show (0 : Int) ≤ (x3 * 13) + x6 ∧ (x3 * 13) + x6 < (156 : Int) from by omega), ?_⟩
    exact hX50 (lf_wl ((lf_wl x4) + (lf_wl (s.2.1 w31 ((x3 * 13) + x6))))) (x6 + 1) s hI (rq_fq_rf) (show (0 : Int) ≤ x6 + 1 ∧ x6 + 1 ≤ (13 : Int) from by omega) (show (13 - (x6 + 1)).toNat < M50 from by omega)
theorem rq_117_p50L {Q : Int → lf_Z → Prop} {x3 : Int} {x4 : Int} {x6 : Int} {s : lf_Z} (hQ : ∀ (r : Int) (s' : lf_Z), iv_A s'.1 s'.2.2 → rq_fq [63, 64, 65, 66, 68, 69] 1000000 false s.1 s.2.2 s'.1 s'.2.2 → Q r s') (hI : iv_A s.1 s.2.2) (bx3 : 0 ≤ x3 ∧ x3 ≤ 11) (bx6 : 0 ≤ x6 ∧ x6 ≤ 13) : fm_117_p50L Q x3 x4 x6 s := by
  intro X50 hX
  have key : ∀ (m9 : Nat) (x4 : Int) (x6 : Int) (s' : lf_Z), iv_A s'.1 s'.2.2 → rq_fq [63, 64, 65, 66, 68, 69] 1000000 false s.1 s.2.2 s'.1 s'.2.2 → 0 ≤ x6 ∧ x6 ≤ 13 → (13 - x6).toNat < m9 → X50 x4 x6 s' := by
    intro m9
    induction m9 with
    | zero => intro x4 x6 s' _ _ bx6 h9; exact absurd h9 (Nat.not_lt_zero _)
    | succ m9 ih => intro x4 x6 s' i7 f7 bx6 h9; exact hX _ _ _ (rq_117_p50 (fun r9 t9 i9 f9 => hQ r9 t9 i9 (rq_fq_tr f7 f9))   (fun x4' x6' t8 i8 f8 bx6' h8 => ih x4' x6' t8 i8 (rq_fq_tr f7 f8) bx6' (by omega)) (Nat.le_refl _)  i7  bx3 bx6  )
  exact key _ _ _ s hI rq_fq_rf bx6 (Nat.lt_succ_self _)
theorem rq_117_p28 {X28 : Int → lf_Z → Prop} {Q : Int → lf_Z → Prop} {x2 : Int} {x3 : Int} {x4 : Int} {s : lf_Z} (hQ : ∀ (r : Int) (s' : lf_Z), iv_A s'.1 s'.2.2 → rq_fq [63, 64, 65, 66, 68, 69] 1000000 false s.1 s.2.2 s'.1 s'.2.2 → Q r s') {M28 : Nat} (hX28 : ∀ (x4 : Int) (s' : lf_Z), iv_A s'.1 s'.2.2 → rq_fq [63, 64, 65, 66, 68, 69] 1000000 false s.1 s.2.2 s'.1 s'.2.2 → 0 ≤ x4 ∧ x4 ≤ 4 → (4 - x4).toNat < M28 → X28 x4 s') (hM28 : (4 - x4).toNat ≤ M28) (hI : iv_A s.1 s.2.2) (bx2 : 0 ≤ x2 ∧ x2 ≤ 4) (bx3 : 0 ≤ x3 ∧ x3 ≤ 11) (bx4 : 0 ≤ x4 ∧ x4 ≤ 4) : fm_117_p28 Q x2 x3 X28 x4 s := by
  unfold fm_117_p28
  refine ⟨(show lf_R x4 from lf_Rof (by omega)), ?_⟩
  refine ⟨(show lf_R x2 from lf_Rof (by omega)), ?_⟩
  refine ⟨fun c13 => ?_, fun c13 => ?_⟩
  · skip
    replace c13 : x2 ≤ x4 := c13
    exact rq_117_p50L hQ hI (show (0 : Int) ≤ x3 ∧ x3 ≤ (11 : Int) from by omega) (show (0 : Int) ≤ 0 ∧ 0 ≤ (13 : Int) from by omega)
  · skip
    replace c13 : ¬ (x2 ≤ x4) := c13
    refine rq_121 hI (fun s33 hI16 fr15 => ?_)
    have fr18 : rq_fq [63, 64, 65, 66, 68, 69] 1000000 false s.1 s.2.2 s33.1 s33.2.2 := rq_fq_tr (rq_fq_rf) (rq_wq fr15 rfl (by decide) (by decide))
    exact hX28 (x4 + 1) s33 hI16 fr18 (show (0 : Int) ≤ x4 + 1 ∧ x4 + 1 ≤ (4 : Int) from by omega) (show (4 - (x4 + 1)).toNat < M28 from by omega)
theorem rq_117_p28L {Q : Int → lf_Z → Prop} {x2 : Int} {x3 : Int} {x4 : Int} {s : lf_Z} (hQ : ∀ (r : Int) (s' : lf_Z), iv_A s'.1 s'.2.2 → rq_fq [63, 64, 65, 66, 68, 69] 1000000 false s.1 s.2.2 s'.1 s'.2.2 → Q r s') (hI : iv_A s.1 s.2.2) (bx2 : 0 ≤ x2 ∧ x2 ≤ 4) (bx3 : 0 ≤ x3 ∧ x3 ≤ 11) (bx4 : 0 ≤ x4 ∧ x4 ≤ 4) : fm_117_p28L Q x2 x3 x4 s := by
  intro X28 hX
  have key : ∀ (m9 : Nat) (x4 : Int) (s' : lf_Z), iv_A s'.1 s'.2.2 → rq_fq [63, 64, 65, 66, 68, 69] 1000000 false s.1 s.2.2 s'.1 s'.2.2 → 0 ≤ x4 ∧ x4 ≤ 4 → (4 - x4).toNat < m9 → X28 x4 s' := by
    intro m9
    induction m9 with
    | zero => intro x4 s' _ _ bx4 h9; exact absurd h9 (Nat.not_lt_zero _)
    | succ m9 ih => intro x4 s' i7 f7 bx4 h9; exact hX _ _ (rq_117_p28 (fun r9 t9 i9 f9 => hQ r9 t9 i9 (rq_fq_tr f7 f9))   (fun x4' t8 i8 f8 bx4' h8 => ih x4' t8 i8 (rq_fq_tr f7 f8) bx4' (by omega)) (Nat.le_refl _)  i7  bx2 bx3 bx4  )
  exact key _ _ s hI rq_fq_rf bx4 (Nat.lt_succ_self _)
theorem rq_117 {a1 : Int} {a2 : Int} {a3 : Int} {Q : Int → lf_Z → Prop} {s : lf_Z} (hI : iv_A s.1 s.2.2) (ba1 : 0 ≤ a1 ∧ a1 ≤ 3) (ba2 : 0 ≤ a2 ∧ a2 ≤ 4) (ba3 : 0 ≤ a3 ∧ a3 ≤ 11) (kp0 : 0 < s.1 16 a1) (hQ : ∀ (r : Int) (s' : lf_Z), iv_A s'.1 s'.2.2 → rq_fq [63, 64, 65, 66, 68, 69] 1000000 false s.1 s.2.2 s'.1 s'.2.2 → Q r s') : fm_117 a1 a2 a3 Q s := by
  unfold fm_117
  refine sm_118 hI (show (0 : Int) ≤ a1 ∧ a1 ≤ (3 : Int) from by omega) (show (0 : Int) ≤ 0 ∧ 0 ≤ (9 : Int) from by omega) (fun s21 hI2 fr1 => ?_)
  have fr4 : rq_fq [63, 64, 65, 66, 68, 69] 1000000 false s.1 s.2.2 s21.1 s21.2.2 := rq_fq_tr (rq_fq_rf) (rq_fq_wk fr1 rfl (by decide) (by decide))
  obtain ⟨w22, ew22, hww22⟩ := iv_ref0 hI2
  refine ⟨w22, ew22, hww22, ?_⟩
  refine sm_119 hww22 hI2 (fun s23 hI6 fr5 => ?_)
  have fr8 : rq_fq [63, 64, 65, 66, 68, 69] 1000000 false s.1 s.2.2 s23.1 s23.2.2 := rq_fq_tr fr4 (rq_fq_wk fr5 rfl (by decide) (by decide))
  obtain ⟨w24, ew24, hww24⟩ := iv_ref0 hI6
  refine ⟨w24, ew24, hww24, ?_⟩
  have b9 : (-2147483648) ≤ s23.1 16 a1 ∧ s23.1 16 a1 ≤ 2147483647 := iv_full hI6
  have b10 : s23.1 16 a1 = s21.1 16 a1 := congrFun (fr5.1 16 rfl) _
  have b11 : s21.1 16 a1 = s.1 16 a1 := congrFun (fr1.1 16 rfl) _
  refine sm_120 hI6 (show (0 : Int) ≤ a1 ∧ a1 ≤ (3 : Int) from by omega) (show 0 < (s23.1 16 a1) from by omega) (fun r26 q12 => ?_)
  refine ⟨(show (0 : Int) ≤ r26 ∧ r26 < (156 : Int) from by omega), ?_⟩
  exact rq_117_p28L (fun r9 t9 i9 f9 => hQ r9 t9 i9 (rq_fq_tr fr8 f9)) hI6 (show (0 : Int) ≤ a2 ∧ a2 ≤ (4 : Int) from by omega) (show (0 : Int) ≤ a3 ∧ a3 ≤ (11 : Int) from by omega) (show (0 : Int) ≤ 0 ∧ 0 ≤ (4 : Int) from by omega)
theorem rq_116_p31 {Q : Int → lf_Z → Prop} {s : lf_Z} (hQ : ∀ (r : Int) (s' : lf_Z), iv_A s'.1 s'.2.2 → rq_fq [63, 64, 65, 66, 68, 69] 1000000 false s.1 s.2.2 s'.1 s'.2.2 → Q r s') (hI : iv_A s.1 s.2.2) : fm_116_p31 Q s := by
  unfold fm_116_p31
  exact hQ (-1) s hI (rq_fq_rf)
theorem rq_116 {a1 : Int} {a2 : Int} {a3 : Int} {a4 : Int} {Q : Int → lf_Z → Prop} {s : lf_Z} (hI : iv_A s.1 s.2.2) (ba1 : (-2147483648) ≤ a1 ∧ a1 ≤ 2147483647) (ba2 : (-2147483648) ≤ a2 ∧ a2 ≤ 2147483647) (ba3 : (-2147483648) ≤ a3 ∧ a3 ≤ 2147483647) (ba4 : 0 ≤ a4 ∧ a4 ≤ 1) (hQ : ∀ (r : Int) (s' : lf_Z), iv_A s'.1 s'.2.2 → rq_fq [63, 64, 65, 66, 68, 69] 1000000 false s.1 s.2.2 s'.1 s'.2.2 → Q r s') : fm_116 a1 a2 a3 a4 Q s := by
  unfold fm_116
  refine sm_80 hI (show (-2147483648 : Int) ≤ a1 ∧ a1 ≤ (2147483647 : Int) from by omega) (fun z22 q1 => ?_)
  have b2 : (-2147483648) ≤ s.1 16 a1 ∧ s.1 16 a1 ≤ 2147483647 := iv_full hI
  refine ⟨fun c3 => ?_, fun c3 => ?_⟩
  · skip
    have dc3 := q1.2 c3
    exact rq_116_p31 hQ hI
  · skip
    have dc3 := q1.1 c3
    refine sm_15 hI (show (-2147483648 : Int) ≤ a2 ∧ a2 ≤ (2147483647 : Int) from by omega) (show (-1 : Int) ≤ 0 ∧ 0 ≤ (99 : Int) from by omega) (show (-2147483648 : Int) ≤ 4 ∧ 4 ≤ (2147483647 : Int) from by omega) (fun z24 q4 => ?_)
    refine ⟨fun c5 => ?_, fun c5 => ?_⟩
    · skip
      have dc5 := q4.2 c5
      exact rq_116_p31 hQ hI
    · skip
      have dc5 := q4.1 c5
      refine sm_18 hI (show (-2147483648 : Int) ≤ a3 ∧ a3 ≤ (2147483647 : Int) from by omega) (fun z26 q6 => ?_)
      have b7 : 0 ≤ s.1 1 0 ∧ s.1 1 0 ≤ 12 := iv_r1_0 hI
      refine ⟨fun c8 => ?_, fun c8 => ?_⟩
      · skip
        have dc8 := q6.1 c8
        refine rq_117 hI (show (0 : Int) ≤ a1 ∧ a1 ≤ (3 : Int) from by omega) (show (0 : Int) ≤ a2 ∧ a2 ≤ (4 : Int) from by omega) (show (0 : Int) ≤ a3 ∧ a3 ≤ (11 : Int) from by omega) (show 0 < (s.1 16 a1) from by omega) (fun r28 s27 hI10 fr9 => ?_)
        have fr12 : rq_fq [63, 64, 65, 66, 68, 69] 1000000 false s.1 s.2.2 s27.1 s27.2.2 := rq_fq_tr (rq_fq_rf) (rq_wq fr9 rfl (by decide) (by decide))
        refine sm_124 hI10 (show (0 : Int) ≤ a2 ∧ a2 ≤ (4 : Int) from by omega) (fun r30 => ?_)
        refine sm_125 hI10 (show (0 : Int) ≤ a4 ∧ a4 ≤ (1 : Int) from by omega) (fun r32 => ?_)
        exact hQ (lf_wl r32) s27 hI10 fr12
      · skip
        have dc8 := q6.2 c8
        exact rq_116_p31 hQ hI
end RQ
section RQX
variable {l : List Nat} {w : Int} {b : Bool} {I I' : Nat → Int → Int} {P P' : Nat → Option Nat}
theorem gx_f3 (h : gx_A I P) (q : lf_fq l w b I P I' P') (hl : l.all gx_fr = true) (h3 : P' 3 = P 3) : gx_A I' P' := gx_q (fun c hc _ => q.1 c (gx_nf hl hc)) (fun i _ _ => by rw [q.1 95 (gx_nf hl rfl)]) (gx_9c (q.1 95 (gx_nf hl rfl)) h.2.2.2.2.2.2.2.2) h h3
theorem gx_116 {a1 : Int} {a2 : Int} {a3 : Int} {a4 : Int} {Q : Int → lf_Z → Prop} {s : lf_Z} (hI : iv_A s.1 s.2.2) (ba1 : (-2147483648) ≤ a1 ∧ a1 ≤ 2147483647) (ba2 : (-2147483648) ≤ a2 ∧ a2 ≤ 2147483647) (ba3 : (-2147483648) ≤ a3 ∧ a3 ≤ 2147483647) (ba4 : 0 ≤ a4 ∧ a4 ≤ 1) (hA : gx_A s.1 s.2.2) (hQ : ∀ (r : Int) (s' : lf_Z), iv_A s'.1 s'.2.2 → lf_fq [63, 64, 65, 66, 68, 69] 1000000 false s.1 s.2.2 s'.1 s'.2.2 → gx_A s'.1 s'.2.2 → Q r s') : fm_116 a1 a2 a3 a4 Q s := rq_116 hI ba1 ba2 ba3 ba4 (fun r s' h1 h2 => hQ r s' h1 h2.1 (gx_f3 hA h2.1 rfl h2.2))
end RQX
/-! small things for the law's loop -/
section GZ
variable {p : Int → Prop} {r : Int} {I : Nat → Int → Int} {P : Nat → Option Nat} {x1 x2 x3 x4 y1 y2 y3 y4 v : Int}
abbrev gx_Y : Type := (Nat → Int → Int) → (Nat → Option Nat) → Prop
/-- a cell of the script as yes or no -/
def gx_z (v : Int) : Int := if v = 0 then 0 else 1
theorem gx_zz (h : (y1 = 0 ∧ v = 0) ∨ (y1 = 1 ∧ v ≠ 0)) : y1 = gx_z v := by
  unfold gx_z
  rcases h with ⟨a, b⟩ | ⟨a, b⟩
  · rw [if_pos b, a]
  · rw [if_neg b, a]
theorem gx_a2 {R : Int → Int → Int → gx_Y} (h1 : x1 = y1) (h2 : x2 = y2) (hp : p r) (h : R x1 x2 r I P) : gx_MP (R y1 y2) p I P := by
  rw [← h1, ← h2]; exact ⟨r, hp, h⟩
theorem gx_a3 {R : Int → Int → Int → Int → gx_Y} (h1 : x1 = y1) (h2 : x2 = y2) (h3 : x3 = y3) (hp : p r) (h : R x1 x2 x3 r I P) : gx_MP (R y1 y2 y3) p I P := by
  rw [← h1, ← h2, ← h3]; exact ⟨r, hp, h⟩
theorem gx_a4 {R : Int → Int → Int → Int → Int → gx_Y} (h1 : x1 = y1) (h2 : x2 = y2) (h3 : x3 = y3) (h4 : x4 = y4) (hp : p r) (h : R x1 x2 x3 x4 r I P) : gx_MP (R y1 y2 y3 y4) p I P := by
  rw [← h1, ← h2, ← h3, ← h4]; exact ⟨r, hp, h⟩
theorem gx_b2 {R : Int → Int → (Int → Prop) → gx_Y} (h1 : x1 = y1) (h2 : x2 = y2) (h : R y1 y2 p I P) : R x1 x2 p I P := by
  rw [h1, h2]; exact h
theorem gx_b3 {R : Int → Int → Int → (Int → Prop) → gx_Y} (h1 : x1 = y1) (h2 : x2 = y2) (h3 : x3 = y3) (h : R y1 y2 y3 p I P) : R x1 x2 x3 p I P := by
  rw [h1, h2, h3]; exact h
theorem gx_b4 {R : Int → Int → Int → Int → (Int → Prop) → gx_Y} (h1 : x1 = y1) (h2 : x2 = y2) (h3 : x3 = y3) (h4 : x4 = y4) (h : R y1 y2 y3 y4 p I P) : R x1 x2 x3 x4 p I P := by
  rw [h1, h2, h3, h4]; exact h
end GZ
def fw_110 (a1 : Int) (a2 : Int) (Q : Int → lf_Z → Prop) (s : lf_Z) : Prop := fw_15 a1 0 3 (fun z22 s21 => ((z22 = false → (Q (-2) s21)) ∧ (z22 = true → (fw_15 a2 0 3 (fun z24 s23 => ((z24 = true → (lf_R a2 → ((a2 ≠ 0 → ((0 ≤ a1 ∧ a1 < 4) → (lf_R (s23.1 16 a1) → ((s23.1 16 a1 ≠ 0 → ((a2 ≠ 3 → ((a2 ≠ 1 → (Q (s23.1 18 a1) s23)) ∧ (¬ (a2 ≠ 1) → (Q (s23.1 17 a1) s23)))) ∧ (¬ (a2 ≠ 3) → (fw_81 a1 (fun r29 s28 => (Q r29 s28)) s23)))) ∧ (¬ (s23.1 16 a1 ≠ 0) → (Q (-1) s23)))))) ∧ (¬ (a2 ≠ 0) → ((0 ≤ a1 ∧ a1 < 4) → (Q (s23.1 16 a1) s23)))))) ∧ (z24 = false → (Q (-2) s23)))) s21)))) s
theorem cj_110 {Q1 Q2 Q3 : Int → lf_Z → Prop} {a1 : Int} {a2 : Int} {s : lf_Z} (hQ : ∀ (r : Int) (s : lf_Z), Q1 r s → Q2 r s → Q3 r s) (h1 : fm_110 a1 a2 Q1 s) (h2 : fw_110 a1 a2 Q2 s) : fm_110 a1 a2 Q3 s := by
  unfold fm_110 at h1 ⊢
  unfold fw_110 at h2
  exact cj_15 (fun z22 s21 k1 l1 => ⟨(fun c2 => hQ _ _  (k1.1 c2) (l1.1 c2)), (fun c2 => cj_15 (fun z24 s23 k4 l4 => ⟨(fun c5 => ⟨(k4.1 c5).1, ⟨(fun c7 => ⟨((k4.1 c5).2.1 c7).1, ⟨((k4.1 c5).2.1 c7).2.1, ⟨(fun c10 => ⟨(fun c11 => ⟨(fun c12 => hQ _ _  (((((k4.1 c5).2.1 c7).2.2.1 c10).1 c11).1 c12) ((((((((l4.1 c5) (k4.1 c5).1).1 c7) ((k4.1 c5).2.1 c7).1) ((k4.1 c5).2.1 c7).2.1).1 c10).1 c11).1 c12)), (fun c12 => hQ _ _  (((((k4.1 c5).2.1 c7).2.2.1 c10).1 c11).2 c12) ((((((((l4.1 c5) (k4.1 c5).1).1 c7) ((k4.1 c5).2.1 c7).1) ((k4.1 c5).2.1 c7).2.1).1 c10).1 c11).2 c12))⟩), (fun c11 => cj_81 (fun r29 s28 k15 l15 => hQ _ _  k15 l15) ((((k4.1 c5).2.1 c7).2.2.1 c10).2 c11) (((((((l4.1 c5) (k4.1 c5).1).1 c7) ((k4.1 c5).2.1 c7).1) ((k4.1 c5).2.1 c7).2.1).1 c10).2 c11))⟩), (fun c10 => hQ _ _  (((k4.1 c5).2.1 c7).2.2.2 c10) ((((((l4.1 c5) (k4.1 c5).1).1 c7) ((k4.1 c5).2.1 c7).1) ((k4.1 c5).2.1 c7).2.1).2 c10))⟩⟩⟩), (fun c7 => ⟨((k4.1 c5).2.2 c7).1, hQ _ _  ((k4.1 c5).2.2 c7).2 ((((l4.1 c5) (k4.1 c5).1).2 c7) ((k4.1 c5).2.2 c7).1)⟩)⟩⟩), (fun c5 => hQ _ _  (k4.2 c5) (l4.2 c5))⟩) (k1.2 c2) (l1.2 c2))⟩) h1 h2
def fw_284 (a1 : Int) (a2 : Int) (Q : Int → lf_Z → Prop) (s : lf_Z) : Prop := fw_183 a1 0 3 (fun z22 s21 => ((z22 = false → (Q (-2) s21)) ∧ (z22 = true → (fw_183 a2 0 3 (fun z24 s23 => ((z24 = true → (lf_R a2 → ((a2 ≠ 0 → (fw_242 a1 (fun r27 s26 => (lf_R r27 → ((r27 ≠ 0 → ((a2 ≠ 1 → ((a2 ≠ 2 → (fw_263 a1 (fun r30 s29 => (Q r30 s29)) s26)) ∧ (¬ (a2 ≠ 2) → (fw_256 a1 (fun r32 s31 => (Q r32 s31)) s26)))) ∧ (¬ (a2 ≠ 1) → (fw_255 a1 (fun r34 s33 => (Q r34 s33)) s26)))) ∧ (¬ (r27 ≠ 0) → (Q (-1) s26))))) s23)) ∧ (¬ (a2 ≠ 0) → (fw_242 a1 (fun r36 s35 => (Q r36 s35)) s23))))) ∧ (z24 = false → (Q (-2) s23)))) s21)))) s
theorem cj_284 {Q1 Q2 Q3 : Int → lf_Z → Prop} {a1 : Int} {a2 : Int} {s : lf_Z} (hQ : ∀ (r : Int) (s : lf_Z), Q1 r s → Q2 r s → Q3 r s) (h1 : fm_284 a1 a2 Q1 s) (h2 : fw_284 a1 a2 Q2 s) : fm_284 a1 a2 Q3 s := by
  unfold fm_284 at h1 ⊢
  unfold fw_284 at h2
  exact cj_183 (fun z22 s21 k1 l1 => ⟨(fun c2 => hQ _ _  (k1.1 c2) (l1.1 c2)), (fun c2 => cj_183 (fun z24 s23 k4 l4 => ⟨(fun c5 => ⟨(k4.1 c5).1, ⟨(fun c7 => cj_242 (fun r27 s26 k8 l8 => ⟨k8.1, ⟨(fun c10 => ⟨(fun c11 => ⟨(fun c12 => cj_263 (fun r30 s29 k13 l13 => hQ _ _  k13 l13) (((k8.2.1 c10).1 c11).1 c12) ((((l8 k8.1).1 c10).1 c11).1 c12)), (fun c12 => cj_256 (fun r32 s31 k15 l15 => hQ _ _  k15 l15) (((k8.2.1 c10).1 c11).2 c12) ((((l8 k8.1).1 c10).1 c11).2 c12))⟩), (fun c11 => cj_255 (fun r34 s33 k17 l17 => hQ _ _  k17 l17) ((k8.2.1 c10).2 c11) (((l8 k8.1).1 c10).2 c11))⟩), (fun c10 => hQ _ _  (k8.2.2 c10) ((l8 k8.1).2 c10))⟩⟩) ((k4.1 c5).2.1 c7) (((l4.1 c5) (k4.1 c5).1).1 c7)), (fun c7 => cj_242 (fun r36 s35 k20 l20 => hQ _ _  k20 l20) ((k4.1 c5).2.2 c7) (((l4.1 c5) (k4.1 c5).1).2 c7))⟩⟩), (fun c5 => hQ _ _  (k4.2 c5) (l4.2 c5))⟩) (k1.2 c2) (l1.2 c2))⟩) h1 h2
def fw_111 (a1 : Int) (a2 : Int) (Q : Int → lf_Z → Prop) (s : lf_Z) : Prop := fw_99 a1 (fun z22 s21 => ((z22 = true → (lf_R a2 → ((a2 < 0 ∨ 4 < a2 → (Q (-2) s21)) ∧ (a2 = 0 → ((0 ≤ a1 ∧ a1 < 6) → (Q (s21.1 7 a1) s21))) ∧ (a2 = 1 → ((0 ≤ a1 ∧ a1 < 6) → (lf_R (s21.1 8 a1) → ((s21.1 8 a1 = 0 → (Q 0 s21)) ∧ (¬ (s21.1 8 a1 = 0) → (Q 1 s21)))))) ∧ (a2 = 2 → ((0 ≤ a1 ∧ a1 < 6) → (lf_R (s21.1 9 a1) → ((s21.1 9 a1 = 0 → (Q 0 s21)) ∧ (¬ (s21.1 9 a1 = 0) → (Q 1 s21)))))) ∧ (a2 = 3 → ((0 ≤ a1 ∧ a1 < 6) → (Q (s21.1 19 a1) s21))) ∧ (a2 = 4 → ((0 ≤ a1 ∧ a1 < 6) → (Q (s21.1 20 a1) s21)))))) ∧ (z22 = false → (Q (-2) s21)))) s
theorem cj_111 {Q1 Q2 Q3 : Int → lf_Z → Prop} {a1 : Int} {a2 : Int} {s : lf_Z} (hQ : ∀ (r : Int) (s : lf_Z), Q1 r s → Q2 r s → Q3 r s) (h1 : fm_111 a1 a2 Q1 s) (h2 : fw_111 a1 a2 Q2 s) : fm_111 a1 a2 Q3 s := by
  unfold fm_111 at h1 ⊢
  unfold fw_111 at h2
  exact cj_99 (fun z22 s21 k1 l1 => ⟨(fun c2 => ⟨(k1.1 c2).1, ⟨(fun c4 => hQ _ _  ((k1.1 c2).2.1 c4) (((l1.1 c2) (k1.1 c2).1).1 c4)), (fun c4 => ⟨((k1.1 c2).2.2.1 c4).1, hQ _ _  ((k1.1 c2).2.2.1 c4).2 ((((l1.1 c2) (k1.1 c2).1).2.1 c4) ((k1.1 c2).2.2.1 c4).1)⟩), (fun c4 => ⟨((k1.1 c2).2.2.2.1 c4).1, ⟨((k1.1 c2).2.2.2.1 c4).2.1, ⟨(fun c10 => hQ _ _  (((k1.1 c2).2.2.2.1 c4).2.2.1 c10) ((((((l1.1 c2) (k1.1 c2).1).2.2.1 c4) ((k1.1 c2).2.2.2.1 c4).1) ((k1.1 c2).2.2.2.1 c4).2.1).1 c10)), (fun c10 => hQ _ _  (((k1.1 c2).2.2.2.1 c4).2.2.2 c10) ((((((l1.1 c2) (k1.1 c2).1).2.2.1 c4) ((k1.1 c2).2.2.2.1 c4).1) ((k1.1 c2).2.2.2.1 c4).2.1).2 c10))⟩⟩⟩), (fun c4 => ⟨((k1.1 c2).2.2.2.2.1 c4).1, ⟨((k1.1 c2).2.2.2.2.1 c4).2.1, ⟨(fun c15 => hQ _ _  (((k1.1 c2).2.2.2.2.1 c4).2.2.1 c15) ((((((l1.1 c2) (k1.1 c2).1).2.2.2.1 c4) ((k1.1 c2).2.2.2.2.1 c4).1) ((k1.1 c2).2.2.2.2.1 c4).2.1).1 c15)), (fun c15 => hQ _ _  (((k1.1 c2).2.2.2.2.1 c4).2.2.2 c15) ((((((l1.1 c2) (k1.1 c2).1).2.2.2.1 c4) ((k1.1 c2).2.2.2.2.1 c4).1) ((k1.1 c2).2.2.2.2.1 c4).2.1).2 c15))⟩⟩⟩), (fun c4 => ⟨((k1.1 c2).2.2.2.2.2.1 c4).1, hQ _ _  ((k1.1 c2).2.2.2.2.2.1 c4).2 ((((l1.1 c2) (k1.1 c2).1).2.2.2.2.1 c4) ((k1.1 c2).2.2.2.2.2.1 c4).1)⟩), (fun c4 => ⟨((k1.1 c2).2.2.2.2.2.2 c4).1, hQ _ _  ((k1.1 c2).2.2.2.2.2.2 c4).2 ((((l1.1 c2) (k1.1 c2).1).2.2.2.2.2 c4) ((k1.1 c2).2.2.2.2.2.2 c4).1)⟩)⟩⟩), (fun c2 => hQ _ _  (k1.2 c2) (l1.2 c2))⟩) h1 h2
def fw_285 (a1 : Int) (a2 : Int) (Q : Int → lf_Z → Prop) (s : lf_Z) : Prop := fw_249 a1 (fun z22 s21 => ((z22 = false → (Q (-2) s21)) ∧ (z22 = true → (fw_183 a2 0 4 (fun z24 s23 => ((z24 = false → (Q (-2) s23)) ∧ (z24 = true → (fw_239c a1 a2 (fun r26 s25 => (Q r26 s25)) s23)))) s21)))) s
theorem cj_285 {Q1 Q2 Q3 : Int → lf_Z → Prop} {a1 : Int} {a2 : Int} {s : lf_Z} (hQ : ∀ (r : Int) (s : lf_Z), Q1 r s → Q2 r s → Q3 r s) (h1 : fm_285 a1 a2 Q1 s) (h2 : fw_285 a1 a2 Q2 s) : fm_285 a1 a2 Q3 s := by
  unfold fm_285 at h1 ⊢
  unfold fw_285 at h2
  exact cj_249 (fun z22 s21 k1 l1 => ⟨(fun c2 => hQ _ _  (k1.1 c2) (l1.1 c2)), (fun c2 => cj_183 (fun z24 s23 k4 l4 => ⟨(fun c5 => hQ _ _  (k4.1 c5) (l4.1 c5)), (fun c5 => cj_239c (fun r26 s25 k7 l7 => hQ _ _  k7 l7) (k4.2 c5) (l4.2 c5))⟩) (k1.2 c2) (l1.2 c2))⟩) h1 h2
def fw_113_p4 (Q : Int → lf_Z → Prop) (x1 : Int) (X4 : Int → Int → lf_Z → Prop) (x2 : Int) (x3 : Int) (s : lf_Z) : Prop := fw_76 x1 (fun r22 s21 => (lf_R x3 → (lf_R r22 → ((r22 ≤ x3 → (Q x2 s21)) ∧ (¬ (r22 ≤ x3) → (fw_77 x1 x3 (fun r26 s25 => (X4 (lf_or x2 (lf_shl 1 r26)) (x3 + 1) s25)) s21)))))) s
theorem cj_113_p4 {X41 X42 X43 : Int → Int → lf_Z → Prop} {Q1 Q2 Q3 : Int → lf_Z → Prop} {x1 : Int} {x2 : Int} {x3 : Int} {s : lf_Z} (hX4 : ∀ (v0 : Int) (v1 : Int) (v2 : lf_Z), X41 v0 v1 v2 → X42 v0 v1 v2 → X43 v0 v1 v2) (hQ : ∀ (r : Int) (s : lf_Z), Q1 r s → Q2 r s → Q3 r s) (h1 : fm_113_p4 Q1 x1 X41 x2 x3 s) (h2 : fw_113_p4 Q2 x1 X42 x2 x3 s) : fm_113_p4 Q3 x1 X43 x2 x3 s := by
  unfold fm_113_p4 at h1 ⊢
  unfold fw_113_p4 at h2
  exact cj_76 (fun r22 s21 k1 l1 => ⟨k1.1, ⟨k1.2.1, ⟨(fun c4 => hQ _ _  (k1.2.2.1 c4) (((l1 k1.1) k1.2.1).1 c4)), (fun c4 => cj_77 (fun r26 s25 k6 l6 => hX4 _ _ _  k6 l6) (k1.2.2.2 c4) (((l1 k1.1) k1.2.1).2 c4))⟩⟩⟩) h1 h2
def fw_113_p4L (Q : Int → lf_Z → Prop) (x1 : Int) (x2 : Int) (x3 : Int) (s : lf_Z) : Prop := ∃ X4 : Int → Int → lf_Z → Prop, (∀ (x2 : Int) (x3 : Int) (s : lf_Z), X4 x2 x3 s → fw_113_p4 Q x1 X4 x2 x3 s) ∧ X4 x2 x3 s
theorem cj_113_p4L {Q1 Q2 Q3 : Int → lf_Z → Prop} {x1 : Int} {x2 : Int} {x3 : Int} {s : lf_Z} (hQ : ∀ (r : Int) (s : lf_Z), Q1 r s → Q2 r s → Q3 r s) (h1 : fm_113_p4L Q1 x1 x2 x3 s) (h2 : fw_113_p4L Q2 x1 x2 x3 s) : fm_113_p4L Q3 x1 x2 x3 s := by
  intro X0 hX0
  obtain ⟨Y, hY, hY0⟩ := h2
  exact h1 (fun v0 v1 s => Y v0 v1 s → X0 v0 v1 s) (fun v0 v1 s hb hy => hX0 v0 v1 s (cj_113_p4 (X41 := fun v0 v1 s => Y v0 v1 s → X0 v0 v1 s) (X42 := Y) (X43 := X0) (hX4 := fun v0 v1 s a b => a b) hQ hb (hY v0 v1 s hy))) hY0
def fw_113 (a1 : Int) (Q : Int → lf_Z → Prop) (s : lf_Z) : Prop := fw_113_p4L Q a1 0 0 s
theorem cj_113 {Q1 Q2 Q3 : Int → lf_Z → Prop} {a1 : Int} {s : lf_Z} (hQ : ∀ (r : Int) (s : lf_Z), Q1 r s → Q2 r s → Q3 r s) (h1 : fm_113 a1 Q1 s) (h2 : fw_113 a1 Q2 s) : fm_113 a1 Q3 s := by
  unfold fm_113 at h1 ⊢
  unfold fw_113 at h2
  exact cj_113_p4L hQ h1 h2
def fw_112 (a1 : Int) (a2 : Int) (Q : Int → lf_Z → Prop) (s : lf_Z) : Prop := fw_18 a1 (fun z22 s21 => ((z22 = true → (lf_R a2 → ((a2 < 0 ∨ 3 < a2 → (Q (-1) s21)) ∧ (a2 = 0 → ((0 ≤ a1 ∧ a1 < 12) → (Q (s21.1 2 a1) s21))) ∧ (a2 = 1 → ((0 ≤ a1 ∧ a1 < 12) → (Q (s21.1 3 a1) s21))) ∧ (a2 = 2 → ((0 ≤ a1 ∧ a1 < 12) → (Q (s21.1 21 a1) s21))) ∧ (a2 = 3 → (fw_113 a1 (fun r28 s27 => (Q r28 s27)) s21))))) ∧ (z22 = false → (Q (-1) s21)))) s
theorem cj_112 {Q1 Q2 Q3 : Int → lf_Z → Prop} {a1 : Int} {a2 : Int} {s : lf_Z} (hQ : ∀ (r : Int) (s : lf_Z), Q1 r s → Q2 r s → Q3 r s) (h1 : fm_112 a1 a2 Q1 s) (h2 : fw_112 a1 a2 Q2 s) : fm_112 a1 a2 Q3 s := by
  unfold fm_112 at h1 ⊢
  unfold fw_112 at h2
  exact cj_18 (fun z22 s21 k1 l1 => ⟨(fun c2 => ⟨(k1.1 c2).1, ⟨(fun c4 => hQ _ _  ((k1.1 c2).2.1 c4) (((l1.1 c2) (k1.1 c2).1).1 c4)), (fun c4 => ⟨((k1.1 c2).2.2.1 c4).1, hQ _ _  ((k1.1 c2).2.2.1 c4).2 ((((l1.1 c2) (k1.1 c2).1).2.1 c4) ((k1.1 c2).2.2.1 c4).1)⟩), (fun c4 => ⟨((k1.1 c2).2.2.2.1 c4).1, hQ _ _  ((k1.1 c2).2.2.2.1 c4).2 ((((l1.1 c2) (k1.1 c2).1).2.2.1 c4) ((k1.1 c2).2.2.2.1 c4).1)⟩), (fun c4 => ⟨((k1.1 c2).2.2.2.2.1 c4).1, hQ _ _  ((k1.1 c2).2.2.2.2.1 c4).2 ((((l1.1 c2) (k1.1 c2).1).2.2.2.1 c4) ((k1.1 c2).2.2.2.2.1 c4).1)⟩), (fun c4 => cj_113 (fun r28 s27 k12 l12 => hQ _ _  k12 l12) ((k1.1 c2).2.2.2.2.2 c4) (((l1.1 c2) (k1.1 c2).1).2.2.2.2 c4))⟩⟩), (fun c2 => hQ _ _  (k1.2 c2) (l1.2 c2))⟩) h1 h2
def fw_286 (a1 : Int) (a2 : Int) (Q : Int → lf_Z → Prop) (s : lf_Z) : Prop := fw_185 a1 (fun z22 s21 => ((z22 = false → (Q (-1) s21)) ∧ (z22 = true → (fw_183 a2 0 3 (fun z24 s23 => ((z24 = true → (lf_R a2 → ((a2 ≠ 3 → ((0 ≤ (14 + (3 * a1)) + a2 ∧ (14 + (3 * a1)) + a2 < 1538) → (Q (s23.1 96 ((14 + (3 * a1)) + a2)) s23))) ∧ (¬ (a2 ≠ 3) → (fw_186 a1 (fun r28 s27 => (Q r28 s27)) s23))))) ∧ (z24 = false → (Q (-1) s23)))) s21)))) s
theorem cj_286 {Q1 Q2 Q3 : Int → lf_Z → Prop} {a1 : Int} {a2 : Int} {s : lf_Z} (hQ : ∀ (r : Int) (s : lf_Z), Q1 r s → Q2 r s → Q3 r s) (h1 : fm_286 a1 a2 Q1 s) (h2 : fw_286 a1 a2 Q2 s) : fm_286 a1 a2 Q3 s := by
  unfold fm_286 at h1 ⊢
  unfold fw_286 at h2
  exact cj_185 (fun z22 s21 k1 l1 => ⟨(fun c2 => hQ _ _  (k1.1 c2) (l1.1 c2)), (fun c2 => cj_183 (fun z24 s23 k4 l4 => ⟨(fun c5 => ⟨(k4.1 c5).1, ⟨(fun c7 => ⟨((k4.1 c5).2.1 c7).1, hQ _ _  ((k4.1 c5).2.1 c7).2 ((((l4.1 c5) (k4.1 c5).1).1 c7) ((k4.1 c5).2.1 c7).1)⟩), (fun c7 => cj_186 (fun r28 s27 k10 l10 => hQ _ _  k10 l10) ((k4.1 c5).2.2 c7) (((l4.1 c5) (k4.1 c5).1).2 c7))⟩⟩), (fun c5 => hQ _ _  (k4.2 c5) (l4.2 c5))⟩) (k1.2 c2) (l1.2 c2))⟩) h1 h2
def fw_114 (a1 : Int) (a2 : Int) (Q : Int → lf_Z → Prop) (s : lf_Z) : Prop := fw_79 a1 (fun z22 s21 => ((z22 = true → (lf_R a2 → ((a2 < 0 ∨ 3 < a2 → (Q (-1) s21)) ∧ (a2 = 0 → ((0 ≤ a1 ∧ a1 < 16) → (Q (s21.1 4 a1) s21))) ∧ (a2 = 1 → ((0 ≤ a1 ∧ a1 < 16) → (Q (s21.1 5 a1) s21))) ∧ (a2 = 2 → ((0 ≤ a1 ∧ a1 < 16) → (lf_R (s21.1 6 a1) → ((s21.1 6 a1 = 0 → (Q 0 s21)) ∧ (¬ (s21.1 6 a1 = 0) → (Q 1 s21)))))) ∧ (a2 = 3 → (fw_90 a1 (fun z29 s28 => ((z29 = false → (Q 0 s28)) ∧ (z29 = true → (Q 1 s28)))) s21))))) ∧ (z22 = false → (Q (-1) s21)))) s
theorem cj_114 {Q1 Q2 Q3 : Int → lf_Z → Prop} {a1 : Int} {a2 : Int} {s : lf_Z} (hQ : ∀ (r : Int) (s : lf_Z), Q1 r s → Q2 r s → Q3 r s) (h1 : fm_114 a1 a2 Q1 s) (h2 : fw_114 a1 a2 Q2 s) : fm_114 a1 a2 Q3 s := by
  unfold fm_114 at h1 ⊢
  unfold fw_114 at h2
  exact cj_79 (fun z22 s21 k1 l1 => ⟨(fun c2 => ⟨(k1.1 c2).1, ⟨(fun c4 => hQ _ _  ((k1.1 c2).2.1 c4) (((l1.1 c2) (k1.1 c2).1).1 c4)), (fun c4 => ⟨((k1.1 c2).2.2.1 c4).1, hQ _ _  ((k1.1 c2).2.2.1 c4).2 ((((l1.1 c2) (k1.1 c2).1).2.1 c4) ((k1.1 c2).2.2.1 c4).1)⟩), (fun c4 => ⟨((k1.1 c2).2.2.2.1 c4).1, hQ _ _  ((k1.1 c2).2.2.2.1 c4).2 ((((l1.1 c2) (k1.1 c2).1).2.2.1 c4) ((k1.1 c2).2.2.2.1 c4).1)⟩), (fun c4 => ⟨((k1.1 c2).2.2.2.2.1 c4).1, ⟨((k1.1 c2).2.2.2.2.1 c4).2.1, ⟨(fun c12 => hQ _ _  (((k1.1 c2).2.2.2.2.1 c4).2.2.1 c12) ((((((l1.1 c2) (k1.1 c2).1).2.2.2.1 c4) ((k1.1 c2).2.2.2.2.1 c4).1) ((k1.1 c2).2.2.2.2.1 c4).2.1).1 c12)), (fun c12 => hQ _ _  (((k1.1 c2).2.2.2.2.1 c4).2.2.2 c12) ((((((l1.1 c2) (k1.1 c2).1).2.2.2.1 c4) ((k1.1 c2).2.2.2.2.1 c4).1) ((k1.1 c2).2.2.2.2.1 c4).2.1).2 c12))⟩⟩⟩), (fun c4 => cj_90 (fun z29 s28 k15 l15 => ⟨(fun c16 => hQ _ _  (k15.1 c16) (l15.1 c16)), (fun c16 => hQ _ _  (k15.2 c16) (l15.2 c16))⟩) ((k1.1 c2).2.2.2.2.2 c4) (((l1.1 c2) (k1.1 c2).1).2.2.2.2 c4))⟩⟩), (fun c2 => hQ _ _  (k1.2 c2) (l1.2 c2))⟩) h1 h2
def fw_287 (a1 : Int) (a2 : Int) (Q : Int → lf_Z → Prop) (s : lf_Z) : Prop := fw_251 a1 (fun z22 s21 => ((z22 = false → (Q (-1) s21)) ∧ (z22 = true → (fw_183 a2 0 3 (fun z24 s23 => ((z24 = false → (Q (-1) s23)) ∧ (z24 = true → ((0 ≤ (50 + (4 * a1)) + a2 ∧ (50 + (4 * a1)) + a2 < 1538) → (Q (s23.1 96 ((50 + (4 * a1)) + a2)) s23))))) s21)))) s
theorem cj_287 {Q1 Q2 Q3 : Int → lf_Z → Prop} {a1 : Int} {a2 : Int} {s : lf_Z} (hQ : ∀ (r : Int) (s : lf_Z), Q1 r s → Q2 r s → Q3 r s) (h1 : fm_287 a1 a2 Q1 s) (h2 : fw_287 a1 a2 Q2 s) : fm_287 a1 a2 Q3 s := by
  unfold fm_287 at h1 ⊢
  unfold fw_287 at h2
  exact cj_251 (fun z22 s21 k1 l1 => ⟨(fun c2 => hQ _ _  (k1.1 c2) (l1.1 c2)), (fun c2 => cj_183 (fun z24 s23 k4 l4 => ⟨(fun c5 => hQ _ _  (k4.1 c5) (l4.1 c5)), (fun c5 => ⟨(k4.2 c5).1, hQ _ _  (k4.2 c5).2 ((l4.2 c5) (k4.2 c5).1)⟩)⟩) (k1.2 c2) (l1.2 c2))⟩) h1 h2
def fw_115_p80 (Q : Int → lf_Z → Prop) (x1 : Int) (x2 : Int) (y0 : Int) (s : lf_Z) : Prop := (0 ≤ x1 ∧ x1 < 4) → (fw_91 (s.1 16 x1) (s.1 17 x1) x2 y0 0 0 (fun r34 s33 => (Q r34 s33)) s)
theorem cj_115_p80 {Q1 Q2 Q3 : Int → lf_Z → Prop} {x1 : Int} {x2 : Int} {y0 : Int} {s : lf_Z} (hQ : ∀ (r : Int) (s : lf_Z), Q1 r s → Q2 r s → Q3 r s) (h1 : fm_115_p80 Q1 x1 x2 y0 s) (h2 : fw_115_p80 Q2 x1 x2 y0 s) : fm_115_p80 Q3 x1 x2 y0 s := by
  unfold fm_115_p80 at h1 ⊢
  unfold fw_115_p80 at h2
  exact ⟨h1.1, cj_91 (fun r34 s33 k2 l2 => hQ _ _  k2 l2) h1.2 (h2 h1.1)⟩
def fw_115 (a1 : Int) (a2 : Int) (Q : Int → lf_Z → Prop) (s : lf_Z) : Prop := fw_80 a1 (fun z22 s21 => ((z22 = false → (Q (-1) s21)) ∧ (z22 = true → (fw_89 a2 (fun z24 s23 => ((z24 = true → ((0 ≤ a1 ∧ a1 < 4) → (fw_78 a2 (s23.1 17 a1) (fun r27 s26 => (lf_R r27 → ((r27 ≠ (-1) → (fw_90 a2 (fun z30 s29 => ((z30 = true → (lf_R (s29.1 18 a1) → ((s29.1 18 a1 ≠ r27 → (fw_115_p80 Q a1 a2 0 s29)) ∧ (¬ (s29.1 18 a1 ≠ r27) → (fw_115_p80 Q a1 a2 1 s29))))) ∧ (z30 = false → (Q 0 s29)))) s26)) ∧ (¬ (r27 ≠ (-1)) → (Q (-1) s26))))) s23))) ∧ (z24 = false → (Q (-1) s23)))) s21)))) s
theorem cj_115 {Q1 Q2 Q3 : Int → lf_Z → Prop} {a1 : Int} {a2 : Int} {s : lf_Z} (hQ : ∀ (r : Int) (s : lf_Z), Q1 r s → Q2 r s → Q3 r s) (h1 : fm_115 a1 a2 Q1 s) (h2 : fw_115 a1 a2 Q2 s) : fm_115 a1 a2 Q3 s := by
  unfold fm_115 at h1 ⊢
  unfold fw_115 at h2
  exact cj_80 (fun z22 s21 k1 l1 => ⟨(fun c2 => hQ _ _  (k1.1 c2) (l1.1 c2)), (fun c2 => cj_89 (fun z24 s23 k4 l4 => ⟨(fun c5 => ⟨(k4.1 c5).1, cj_78 (fun r27 s26 k7 l7 => ⟨k7.1, ⟨(fun c9 => cj_90 (fun z30 s29 k10 l10 => ⟨(fun c11 => ⟨(k10.1 c11).1, ⟨(fun c13 => cj_115_p80 hQ ((k10.1 c11).2.1 c13) (((l10.1 c11) (k10.1 c11).1).1 c13)), (fun c13 => cj_115_p80 hQ ((k10.1 c11).2.2 c13) (((l10.1 c11) (k10.1 c11).1).2 c13))⟩⟩), (fun c11 => hQ _ _  (k10.2 c11) (l10.2 c11))⟩) (k7.2.1 c9) ((l7 k7.1).1 c9)), (fun c9 => hQ _ _  (k7.2.2 c9) ((l7 k7.1).2 c9))⟩⟩) (k4.1 c5).2 ((l4.1 c5) (k4.1 c5).1)⟩), (fun c5 => hQ _ _  (k4.2 c5) (l4.2 c5))⟩) (k1.2 c2) (l1.2 c2))⟩) h1 h2
def fw_288 (a1 : Int) (a2 : Int) (Q : Int → lf_Z → Prop) (s : lf_Z) : Prop := fw_254 a1 (fun z22 s21 => ((z22 = false → (Q (-1) s21)) ∧ (z22 = true → (fw_251 a2 (fun z24 s23 => ((z24 = false → (Q (-1) s23)) ∧ (z24 = true → (fw_252 a2 (fun z26 s25 => ((z26 = true → (Q (-1) s25)) ∧ (z26 = false → (fw_255 a1 (fun r28 s27 => (fw_187 a2 r28 (fun r30 s29 => (lf_R r30 → ((0 ≤ r30 → (fw_242 a1 (fun r33 s32 => (fw_255 a1 (fun r35 s34 => (fw_256 a1 (fun r37 s36 => (fw_273 r33 r35 r37 a2 (fun r39 s38 => (Q r39 s38)) s36)) s34)) s32)) s29)) ∧ (¬ (0 ≤ r30) → (Q (-1) s29))))) s27)) s25)))) s23)))) s21)))) s
theorem cj_288 {Q1 Q2 Q3 : Int → lf_Z → Prop} {a1 : Int} {a2 : Int} {s : lf_Z} (hQ : ∀ (r : Int) (s : lf_Z), Q1 r s → Q2 r s → Q3 r s) (h1 : fm_288 a1 a2 Q1 s) (h2 : fw_288 a1 a2 Q2 s) : fm_288 a1 a2 Q3 s := by
  unfold fm_288 at h1 ⊢
  unfold fw_288 at h2
  exact cj_254 (fun z22 s21 k1 l1 => ⟨(fun c2 => hQ _ _  (k1.1 c2) (l1.1 c2)), (fun c2 => cj_251 (fun z24 s23 k4 l4 => ⟨(fun c5 => hQ _ _  (k4.1 c5) (l4.1 c5)), (fun c5 => cj_252 (fun z26 s25 k7 l7 => ⟨(fun c8 => hQ _ _  (k7.1 c8) (l7.1 c8)), (fun c8 => cj_255 (fun r28 s27 k10 l10 => cj_187 (fun r30 s29 k11 l11 => ⟨k11.1, ⟨(fun c13 => cj_242 (fun r33 s32 k14 l14 => cj_255 (fun r35 s34 k15 l15 => cj_256 (fun r37 s36 k16 l16 => cj_273 (fun r39 s38 k17 l17 => hQ _ _  k17 l17) k16 l16) k15 l15) k14 l14) (k11.2.1 c13) ((l11 k11.1).1 c13)), (fun c13 => hQ _ _  (k11.2.2 c13) ((l11 k11.1).2 c13))⟩⟩) k10 l10) (k7.2 c8) (l7.2 c8))⟩) (k4.2 c5) (l4.2 c5))⟩) (k1.2 c2) (l1.2 c2))⟩) h1 h2
def fw_165_p31 (X6 : Int → Int → Int → lf_Z → Prop) (Q : Int → lf_Z → Prop) (x1 : Int) (x2 : Int) (x3 : Int) (s : lf_Z) : Prop := X6 x1 x2 (x3 + 1) s
theorem cj_165_p31 {X61 X62 X63 : Int → Int → Int → lf_Z → Prop} {Q1 Q2 Q3 : Int → lf_Z → Prop} {x1 : Int} {x2 : Int} {x3 : Int} {s : lf_Z} (hX6 : ∀ (v0 : Int) (v1 : Int) (v2 : Int) (v3 : lf_Z), X61 v0 v1 v2 v3 → X62 v0 v1 v2 v3 → X63 v0 v1 v2 v3) (hQ : ∀ (r : Int) (s : lf_Z), Q1 r s → Q2 r s → Q3 r s) (h1 : fm_165_p31 X61 Q1 x1 x2 x3 s) (h2 : fw_165_p31 X62 Q2 x1 x2 x3 s) : fm_165_p31 X63 Q3 x1 x2 x3 s := by
  unfold fm_165_p31 at h1 ⊢
  unfold fw_165_p31 at h2
  exact hX6 _ _ _ _  h1 h2
def fw_165_p6 (Q : Int → lf_Z → Prop) (X6 : Int → Int → Int → lf_Z → Prop) (x1 : Int) (x2 : Int) (x3 : Int) (s : lf_Z) : Prop := lf_R x3 → ((16 ≤ x3 → (Q x1 s)) ∧ (¬ (16 ≤ x3) → ((0 ≤ x3 ∧ x3 < 16) → (lf_R (s.1 28 x3) → (lf_R x2 → ((s.1 28 x3 ≤ x2 → (fw_165_p31 X6 Q x1 x2 x3 s)) ∧ (¬ (s.1 28 x3 ≤ x2) → (fw_165_p31 X6 Q x3 (s.1 28 x3) x3 s))))))))
theorem cj_165_p6 {X61 X62 X63 : Int → Int → Int → lf_Z → Prop} {Q1 Q2 Q3 : Int → lf_Z → Prop} {x1 : Int} {x2 : Int} {x3 : Int} {s : lf_Z} (hX6 : ∀ (v0 : Int) (v1 : Int) (v2 : Int) (v3 : lf_Z), X61 v0 v1 v2 v3 → X62 v0 v1 v2 v3 → X63 v0 v1 v2 v3) (hQ : ∀ (r : Int) (s : lf_Z), Q1 r s → Q2 r s → Q3 r s) (h1 : fm_165_p6 Q1 X61 x1 x2 x3 s) (h2 : fw_165_p6 Q2 X62 x1 x2 x3 s) : fm_165_p6 Q3 X63 x1 x2 x3 s := by
  unfold fm_165_p6 at h1 ⊢
  unfold fw_165_p6 at h2
  exact ⟨h1.1, ⟨(fun c2 => hQ _ _  (h1.2.1 c2) ((h2 h1.1).1 c2)), (fun c2 => ⟨(h1.2.2 c2).1, ⟨(h1.2.2 c2).2.1, ⟨(h1.2.2 c2).2.2.1, ⟨(fun c7 => cj_165_p31 hX6 hQ ((h1.2.2 c2).2.2.2.1 c7) ((((((h2 h1.1).2 c2) (h1.2.2 c2).1) (h1.2.2 c2).2.1) (h1.2.2 c2).2.2.1).1 c7)), (fun c7 => cj_165_p31 hX6 hQ ((h1.2.2 c2).2.2.2.2 c7) ((((((h2 h1.1).2 c2) (h1.2.2 c2).1) (h1.2.2 c2).2.1) (h1.2.2 c2).2.2.1).2 c7))⟩⟩⟩⟩)⟩⟩
def fw_165_p6L (Q : Int → lf_Z → Prop) (x1 : Int) (x2 : Int) (x3 : Int) (s : lf_Z) : Prop := ∃ X6 : Int → Int → Int → lf_Z → Prop, (∀ (x1 : Int) (x2 : Int) (x3 : Int) (s : lf_Z), X6 x1 x2 x3 s → fw_165_p6 Q X6 x1 x2 x3 s) ∧ X6 x1 x2 x3 s
theorem cj_165_p6L {Q1 Q2 Q3 : Int → lf_Z → Prop} {x1 : Int} {x2 : Int} {x3 : Int} {s : lf_Z} (hQ : ∀ (r : Int) (s : lf_Z), Q1 r s → Q2 r s → Q3 r s) (h1 : fm_165_p6L Q1 x1 x2 x3 s) (h2 : fw_165_p6L Q2 x1 x2 x3 s) : fm_165_p6L Q3 x1 x2 x3 s := by
  intro X0 hX0
  obtain ⟨Y, hY, hY0⟩ := h2
  exact h1 (fun v0 v1 v2 s => Y v0 v1 v2 s → X0 v0 v1 v2 s) (fun v0 v1 v2 s hb hy => hX0 v0 v1 v2 s (cj_165_p6 (X61 := fun v0 v1 v2 s => Y v0 v1 v2 s → X0 v0 v1 v2 s) (X62 := Y) (X63 := X0) (hX6 := fun v0 v1 v2 s a b => a b) hQ hb (hY v0 v1 v2 s hy))) hY0
def fw_165 (Q : Int → lf_Z → Prop) (s : lf_Z) : Prop := fw_165_p6L Q (-1) 0 0 s
theorem cj_165 {Q1 Q2 Q3 : Int → lf_Z → Prop} {s : lf_Z} (hQ : ∀ (r : Int) (s : lf_Z), Q1 r s → Q2 r s → Q3 r s) (h1 : fm_165 Q1 s) (h2 : fw_165 Q2 s) : fm_165 Q3 s := by
  unfold fm_165 at h1 ⊢
  unfold fw_165 at h2
  exact cj_165_p6L hQ h1 h2
def fw_164 (a1 : Int) (Q : Int → lf_Z → Prop) (s : lf_Z) : Prop := lf_R a1 → ((a1 ≠ (-1) → (fw_79 a1 (fun z23 s22 => ((z23 = false → (Q (-10000) s22)) ∧ (z23 = true → ((0 ≤ a1 ∧ a1 < 16) → (Q (s22.1 28 a1) s22))))) s)) ∧ (¬ (a1 ≠ (-1)) → (fw_165 (fun r26 s25 => (Q r26 s25)) s)))
theorem cj_164 {Q1 Q2 Q3 : Int → lf_Z → Prop} {a1 : Int} {s : lf_Z} (hQ : ∀ (r : Int) (s : lf_Z), Q1 r s → Q2 r s → Q3 r s) (h1 : fm_164 a1 Q1 s) (h2 : fw_164 a1 Q2 s) : fm_164 a1 Q3 s := by
  unfold fm_164 at h1 ⊢
  unfold fw_164 at h2
  exact ⟨h1.1, ⟨(fun c2 => cj_79 (fun z23 s22 k3 l3 => ⟨(fun c4 => hQ _ _  (k3.1 c4) (l3.1 c4)), (fun c4 => ⟨(k3.2 c4).1, hQ _ _  (k3.2 c4).2 ((l3.2 c4) (k3.2 c4).1)⟩)⟩) (h1.2.1 c2) ((h2 h1.1).1 c2)), (fun c2 => cj_165 (fun r26 s25 k8 l8 => hQ _ _  k8 l8) (h1.2.2 c2) ((h2 h1.1).2 c2))⟩⟩
def fw_320 (a1 : Int) (Q : Int → lf_Z → Prop) (s : lf_Z) : Prop := (0 ≤ (174 + (5 * a1)) + 3 ∧ (174 + (5 * a1)) + 3 < 1538) → ((0 ≤ (174 + (5 * a1)) + 1 ∧ (174 + (5 * a1)) + 1 < 1538) → ((0 ≤ (174 + (5 * a1)) + 4 ∧ (174 + (5 * a1)) + 4 < 1538) → ((0 ≤ (174 + (5 * a1)) + 2 ∧ (174 + (5 * a1)) + 2 < 1538) → (Q (lf_w (((lf_w ((lf_w ((s.1 96 ((174 + (5 * a1)) + 3)) * (s.1 96 ((174 + (5 * a1)) + 1)))) * (s.1 96 ((174 + (5 * a1)) + 4)))).tdiv 10) - (s.1 96 ((174 + (5 * a1)) + 2)))) s))))
theorem cj_320 {Q1 Q2 Q3 : Int → lf_Z → Prop} {a1 : Int} {s : lf_Z} (hQ : ∀ (r : Int) (s : lf_Z), Q1 r s → Q2 r s → Q3 r s) (h1 : fm_320 a1 Q1 s) (h2 : fw_320 a1 Q2 s) : fm_320 a1 Q3 s := by
  unfold fm_320 at h1 ⊢
  unfold fw_320 at h2
  exact ⟨h1.1, ⟨h1.2.1, ⟨h1.2.2.1, ⟨h1.2.2.2.1, hQ _ _  h1.2.2.2.2 ((((h2 h1.1) h1.2.1) h1.2.2.1) h1.2.2.2.1)⟩⟩⟩⟩
def fw_319_p98 (X48 : Int → Int → Int → lf_Z → Prop) (Q : Int → lf_Z → Prop) (x2 : Int) (x3 : Int) (x4 : Int) (s : lf_Z) : Prop := X48 x2 x3 (x4 + 1) s
theorem cj_319_p98 {X481 X482 X483 : Int → Int → Int → lf_Z → Prop} {Q1 Q2 Q3 : Int → lf_Z → Prop} {x2 : Int} {x3 : Int} {x4 : Int} {s : lf_Z} (hX48 : ∀ (v0 : Int) (v1 : Int) (v2 : Int) (v3 : lf_Z), X481 v0 v1 v2 v3 → X482 v0 v1 v2 v3 → X483 v0 v1 v2 v3) (hQ : ∀ (r : Int) (s : lf_Z), Q1 r s → Q2 r s → Q3 r s) (h1 : fm_319_p98 X481 Q1 x2 x3 x4 s) (h2 : fw_319_p98 X482 Q2 x2 x3 x4 s) : fm_319_p98 X483 Q3 x2 x3 x4 s := by
  unfold fm_319_p98 at h1 ⊢
  unfold fw_319_p98 at h2
  exact hX48 _ _ _ _  h1 h2
def fw_319_p48 (Q : Int → lf_Z → Prop) (X48 : Int → Int → Int → lf_Z → Prop) (x2 : Int) (x3 : Int) (x4 : Int) (s : lf_Z) : Prop := lf_R x4 → (lf_R (s.1 96 1) → ((s.1 96 1 ≤ x4 → (Q x2 s)) ∧ (¬ (s.1 96 1 ≤ x4) → ((0 ≤ 174 + (5 * x4) ∧ 174 + (5 * x4) < 1538) → (lf_R (s.1 96 (174 + (5 * x4))) → ((s.1 96 (174 + (5 * x4)) = 0 → (fw_319_p98 X48 Q x2 x3 x4 s)) ∧ (¬ (s.1 96 (174 + (5 * x4)) = 0) → (fw_320 x4 (fun r27 s26 => (lf_R r27 → (lf_R x3 → ((x3 < r27 → (fw_320 x4 (fun r31 s30 => (fw_319_p98 X48 Q x4 r31 x4 s30)) s26)) ∧ (¬ (x3 < r27) → (fw_319_p98 X48 Q x2 x3 x4 s26)))))) s))))))))
theorem cj_319_p48 {X481 X482 X483 : Int → Int → Int → lf_Z → Prop} {Q1 Q2 Q3 : Int → lf_Z → Prop} {x2 : Int} {x3 : Int} {x4 : Int} {s : lf_Z} (hX48 : ∀ (v0 : Int) (v1 : Int) (v2 : Int) (v3 : lf_Z), X481 v0 v1 v2 v3 → X482 v0 v1 v2 v3 → X483 v0 v1 v2 v3) (hQ : ∀ (r : Int) (s : lf_Z), Q1 r s → Q2 r s → Q3 r s) (h1 : fm_319_p48 Q1 X481 x2 x3 x4 s) (h2 : fw_319_p48 Q2 X482 x2 x3 x4 s) : fm_319_p48 Q3 X483 x2 x3 x4 s := by
  unfold fm_319_p48 at h1 ⊢
  unfold fw_319_p48 at h2
  exact ⟨h1.1, ⟨h1.2.1, ⟨(fun c3 => hQ _ _  (h1.2.2.1 c3) (((h2 h1.1) h1.2.1).1 c3)), (fun c3 => ⟨(h1.2.2.2 c3).1, ⟨(h1.2.2.2 c3).2.1, ⟨(fun c7 => cj_319_p98 hX48 hQ ((h1.2.2.2 c3).2.2.1 c7) ((((((h2 h1.1) h1.2.1).2 c3) (h1.2.2.2 c3).1) (h1.2.2.2 c3).2.1).1 c7)), (fun c7 => cj_320 (fun r27 s26 k9 l9 => ⟨k9.1, ⟨k9.2.1, ⟨(fun c12 => cj_320 (fun r31 s30 k13 l13 => cj_319_p98 hX48 hQ k13 l13) (k9.2.2.1 c12) (((l9 k9.1) k9.2.1).1 c12)), (fun c12 => cj_319_p98 hX48 hQ (k9.2.2.2 c12) (((l9 k9.1) k9.2.1).2 c12))⟩⟩⟩) ((h1.2.2.2 c3).2.2.2 c7) ((((((h2 h1.1) h1.2.1).2 c3) (h1.2.2.2 c3).1) (h1.2.2.2 c3).2.1).2 c7))⟩⟩⟩)⟩⟩⟩
def fw_319_p48L (Q : Int → lf_Z → Prop) (x2 : Int) (x3 : Int) (x4 : Int) (s : lf_Z) : Prop := ∃ X48 : Int → Int → Int → lf_Z → Prop, (∀ (x2 : Int) (x3 : Int) (x4 : Int) (s : lf_Z), X48 x2 x3 x4 s → fw_319_p48 Q X48 x2 x3 x4 s) ∧ X48 x2 x3 x4 s
theorem cj_319_p48L {Q1 Q2 Q3 : Int → lf_Z → Prop} {x2 : Int} {x3 : Int} {x4 : Int} {s : lf_Z} (hQ : ∀ (r : Int) (s : lf_Z), Q1 r s → Q2 r s → Q3 r s) (h1 : fm_319_p48L Q1 x2 x3 x4 s) (h2 : fw_319_p48L Q2 x2 x3 x4 s) : fm_319_p48L Q3 x2 x3 x4 s := by
  intro X0 hX0
  obtain ⟨Y, hY, hY0⟩ := h2
  exact h1 (fun v0 v1 v2 s => Y v0 v1 v2 s → X0 v0 v1 v2 s) (fun v0 v1 v2 s hb hy => hX0 v0 v1 v2 s (cj_319_p48 (X481 := fun v0 v1 v2 s => Y v0 v1 v2 s → X0 v0 v1 v2 s) (X482 := Y) (X483 := X0) (hX48 := fun v0 v1 v2 s a b => a b) hQ hb (hY v0 v1 v2 s hy))) hY0
def fw_319 (a1 : Int) (Q : Int → lf_Z → Prop) (s : lf_Z) : Prop := lf_R a1 → ((a1 = (-1) → (fw_319_p48L Q (-1) 0 0 s)) ∧ (¬ (a1 = (-1)) → (fw_251 a1 (fun z33 s32 => ((z33 = false → (Q (-10000) s32)) ∧ (z33 = true → ((0 ≤ 174 + (5 * a1) ∧ 174 + (5 * a1) < 1538) → (lf_R (s32.1 96 (174 + (5 * a1))) → ((s32.1 96 (174 + (5 * a1)) ≠ 1 → (Q (-10000) s32)) ∧ (¬ (s32.1 96 (174 + (5 * a1)) ≠ 1) → (fw_320 a1 (fun r37 s36 => (Q r37 s36)) s32)))))))) s)))
theorem cj_319 {Q1 Q2 Q3 : Int → lf_Z → Prop} {a1 : Int} {s : lf_Z} (hQ : ∀ (r : Int) (s : lf_Z), Q1 r s → Q2 r s → Q3 r s) (h1 : fm_319 a1 Q1 s) (h2 : fw_319 a1 Q2 s) : fm_319 a1 Q3 s := by
  unfold fm_319 at h1 ⊢
  unfold fw_319 at h2
  exact ⟨h1.1, ⟨(fun c2 => cj_319_p48L hQ (h1.2.1 c2) ((h2 h1.1).1 c2)), (fun c2 => cj_251 (fun z33 s32 k4 l4 => ⟨(fun c5 => hQ _ _  (k4.1 c5) (l4.1 c5)), (fun c5 => ⟨(k4.2 c5).1, ⟨(k4.2 c5).2.1, ⟨(fun c9 => hQ _ _  ((k4.2 c5).2.2.1 c9) ((((l4.2 c5) (k4.2 c5).1) (k4.2 c5).2.1).1 c9)), (fun c9 => cj_320 (fun r37 s36 k11 l11 => hQ _ _  k11 l11) ((k4.2 c5).2.2.2 c9) ((((l4.2 c5) (k4.2 c5).1) (k4.2 c5).2.1).2 c9))⟩⟩⟩)⟩) (h1.2.2 c2) ((h2 h1.1).2 c2))⟩⟩
def fw_65c_p10 (Q : Int → lf_Z → Prop) (x3 : Int) (X10 : Int → Int → lf_Z → Prop) (x1 : Int) (x4 : Int) (s : lf_Z) : Prop := lf_R x4 → (lf_R x3 → ((x3 ≤ x4 → (Q x1 s)) ∧ (¬ (x3 ≤ x4) → ((0 ≤ x4 ∧ x4 < 4) → (X10 (lf_w (x1 + (s.1 29 x4))) (x4 + 1) s)))))
theorem cj_65c_p10 {X101 X102 X103 : Int → Int → lf_Z → Prop} {Q1 Q2 Q3 : Int → lf_Z → Prop} {x3 : Int} {x1 : Int} {x4 : Int} {s : lf_Z} (hX10 : ∀ (v0 : Int) (v1 : Int) (v2 : lf_Z), X101 v0 v1 v2 → X102 v0 v1 v2 → X103 v0 v1 v2) (hQ : ∀ (r : Int) (s : lf_Z), Q1 r s → Q2 r s → Q3 r s) (h1 : fm_65c_p10 Q1 x3 X101 x1 x4 s) (h2 : fw_65c_p10 Q2 x3 X102 x1 x4 s) : fm_65c_p10 Q3 x3 X103 x1 x4 s := by
  unfold fm_65c_p10 at h1 ⊢
  unfold fw_65c_p10 at h2
  exact ⟨h1.1, ⟨h1.2.1, ⟨(fun c3 => hQ _ _  (h1.2.2.1 c3) (((h2 h1.1) h1.2.1).1 c3)), (fun c3 => ⟨(h1.2.2.2 c3).1, hX10 _ _ _  (h1.2.2.2 c3).2 ((((h2 h1.1) h1.2.1).2 c3) (h1.2.2.2 c3).1)⟩)⟩⟩⟩
def fw_65c_p10L (Q : Int → lf_Z → Prop) (x1 : Int) (x3 : Int) (x4 : Int) (s : lf_Z) : Prop := ∃ X10 : Int → Int → lf_Z → Prop, (∀ (x1 : Int) (x4 : Int) (s : lf_Z), X10 x1 x4 s → fw_65c_p10 Q x3 X10 x1 x4 s) ∧ X10 x1 x4 s
theorem cj_65c_p10L {Q1 Q2 Q3 : Int → lf_Z → Prop} {x1 : Int} {x3 : Int} {x4 : Int} {s : lf_Z} (hQ : ∀ (r : Int) (s : lf_Z), Q1 r s → Q2 r s → Q3 r s) (h1 : fm_65c_p10L Q1 x1 x3 x4 s) (h2 : fw_65c_p10L Q2 x1 x3 x4 s) : fm_65c_p10L Q3 x1 x3 x4 s := by
  intro X0 hX0
  obtain ⟨Y, hY, hY0⟩ := h2
  exact h1 (fun v0 v1 s => Y v0 v1 s → X0 v0 v1 s) (fun v0 v1 s hb hy => hX0 v0 v1 s (cj_65c_p10 (X101 := fun v0 v1 s => Y v0 v1 s → X0 v0 v1 s) (X102 := Y) (X103 := X0) (hX10 := fun v0 v1 s a b => a b) hQ hb (hY v0 v1 s hy))) hY0
def fw_65c (Q : Int → lf_Z → Prop) (s : lf_Z) : Prop := fw_65c_p10L Q 0 4 0 s
theorem cj_65c {Q1 Q2 Q3 : Int → lf_Z → Prop} {s : lf_Z} (hQ : ∀ (r : Int) (s : lf_Z), Q1 r s → Q2 r s → Q3 r s) (h1 : fm_65c Q1 s) (h2 : fw_65c Q2 s) : fm_65c Q3 s := by
  unfold fm_65c at h1 ⊢
  unfold fw_65c at h2
  exact cj_65c_p10L hQ h1 h2
def fw_168 (Q : Int → lf_Z → Prop) (s : lf_Z) : Prop := fw_65c (fun r22 s21 => (Q r22 s21)) s
theorem cj_168 {Q1 Q2 Q3 : Int → lf_Z → Prop} {s : lf_Z} (hQ : ∀ (r : Int) (s : lf_Z), Q1 r s → Q2 r s → Q3 r s) (h1 : fm_168 Q1 s) (h2 : fw_168 Q2 s) : fm_168 Q3 s := by
  unfold fm_168 at h1 ⊢
  unfold fw_168 at h2
  exact cj_65c (fun r22 s21 k1 l1 => hQ _ _  k1 l1) h1 h2
def fw_179 (a1 : Int) (Q : Int → lf_Z → Prop) (s : lf_Z) : Prop := lf_R a1 → ((a1 < 0 ∨ 12 < a1 → (Q (-2) s)) ∧ (a1 = 0 → (Q (s.1 1 0) s)) ∧ (a1 = 1 → (Q (s.1 1 1) s)) ∧ (a1 = 2 → (Q (s.1 1 2) s)) ∧ (a1 = 3 → (Q (s.1 15 7) s)) ∧ (a1 = 4 → (fw_64 (fun r23 s22 => (Q r23 s22)) s)) ∧ (a1 = 5 → (fw_97 (fun r25 s24 => (Q r25 s24)) s)) ∧ (a1 = 6 → (Q (s.1 15 8) s)) ∧ (a1 = 7 → (Q (s.1 0 11) s)) ∧ (a1 = 8 → (Q (s.1 0 12) s)) ∧ (a1 = 9 → (Q (s.1 22 3) s)) ∧ (a1 = 10 → (Q (s.1 25 2) s)) ∧ (a1 = 11 → (fw_168 (fun r27 s26 => (Q r27 s26)) s)) ∧ (a1 = 12 → (Q (s.1 31 1) s)))
theorem cj_179 {Q1 Q2 Q3 : Int → lf_Z → Prop} {a1 : Int} {s : lf_Z} (hQ : ∀ (r : Int) (s : lf_Z), Q1 r s → Q2 r s → Q3 r s) (h1 : fm_179 a1 Q1 s) (h2 : fw_179 a1 Q2 s) : fm_179 a1 Q3 s := by
  unfold fm_179 at h1 ⊢
  unfold fw_179 at h2
  exact ⟨h1.1, ⟨(fun c2 => hQ _ _  (h1.2.1 c2) ((h2 h1.1).1 c2)), (fun c2 => hQ _ _  (h1.2.2.1 c2) ((h2 h1.1).2.1 c2)), (fun c2 => hQ _ _  (h1.2.2.2.1 c2) ((h2 h1.1).2.2.1 c2)), (fun c2 => hQ _ _  (h1.2.2.2.2.1 c2) ((h2 h1.1).2.2.2.1 c2)), (fun c2 => hQ _ _  (h1.2.2.2.2.2.1 c2) ((h2 h1.1).2.2.2.2.1 c2)), (fun c2 => cj_64 (fun r23 s22 k8 l8 => hQ _ _  k8 l8) (h1.2.2.2.2.2.2.1 c2) ((h2 h1.1).2.2.2.2.2.1 c2)), (fun c2 => cj_97 (fun r25 s24 k10 l10 => hQ _ _  k10 l10) (h1.2.2.2.2.2.2.2.1 c2) ((h2 h1.1).2.2.2.2.2.2.1 c2)), (fun c2 => hQ _ _  (h1.2.2.2.2.2.2.2.2.1 c2) ((h2 h1.1).2.2.2.2.2.2.2.1 c2)), (fun c2 => hQ _ _  (h1.2.2.2.2.2.2.2.2.2.1 c2) ((h2 h1.1).2.2.2.2.2.2.2.2.1 c2)), (fun c2 => hQ _ _  (h1.2.2.2.2.2.2.2.2.2.2.1 c2) ((h2 h1.1).2.2.2.2.2.2.2.2.2.1 c2)), (fun c2 => hQ _ _  (h1.2.2.2.2.2.2.2.2.2.2.2.1 c2) ((h2 h1.1).2.2.2.2.2.2.2.2.2.2.1 c2)), (fun c2 => hQ _ _  (h1.2.2.2.2.2.2.2.2.2.2.2.2.1 c2) ((h2 h1.1).2.2.2.2.2.2.2.2.2.2.2.1 c2)), (fun c2 => cj_168 (fun r27 s26 k17 l17 => hQ _ _  k17 l17) (h1.2.2.2.2.2.2.2.2.2.2.2.2.2.1 c2) ((h2 h1.1).2.2.2.2.2.2.2.2.2.2.2.2.1 c2)), (fun c2 => hQ _ _  (h1.2.2.2.2.2.2.2.2.2.2.2.2.2.2 c2) ((h2 h1.1).2.2.2.2.2.2.2.2.2.2.2.2.2 c2))⟩⟩
def fw_327 (a1 : Int) (Q : Int → lf_Z → Prop) (s : lf_Z) : Prop := lf_R a1 → ((a1 ≠ 4 → ((a1 ≠ 5 → (fw_183 a1 0 11 (fun z23 s22 => ((z23 = false → ((a1 ≠ 12 → (Q (-2) s22)) ∧ (¬ (a1 ≠ 12) → (Q (s22.1 95 4) s22)))) ∧ (z23 = true → ((0 ≤ a1 ∧ a1 < 1538) → (Q (s22.1 96 a1) s22))))) s)) ∧ (¬ (a1 ≠ 5) → (fw_279 (fun r26 s25 => (Q r26 s25)) s)))) ∧ (¬ (a1 ≠ 4) → (fw_243 (fun r28 s27 => (Q r28 s27)) s)))
theorem cj_327 {Q1 Q2 Q3 : Int → lf_Z → Prop} {a1 : Int} {s : lf_Z} (hQ : ∀ (r : Int) (s : lf_Z), Q1 r s → Q2 r s → Q3 r s) (h1 : fm_327 a1 Q1 s) (h2 : fw_327 a1 Q2 s) : fm_327 a1 Q3 s := by
  unfold fm_327 at h1 ⊢
  unfold fw_327 at h2
  exact ⟨h1.1, ⟨(fun c2 => ⟨(fun c3 => cj_183 (fun z23 s22 k4 l4 => ⟨(fun c5 => ⟨(fun c6 => hQ _ _  ((k4.1 c5).1 c6) ((l4.1 c5).1 c6)), (fun c6 => hQ _ _  ((k4.1 c5).2 c6) ((l4.1 c5).2 c6))⟩), (fun c5 => ⟨(k4.2 c5).1, hQ _ _  (k4.2 c5).2 ((l4.2 c5) (k4.2 c5).1)⟩)⟩) ((h1.2.1 c2).1 c3) (((h2 h1.1).1 c2).1 c3)), (fun c3 => cj_279 (fun r26 s25 k11 l11 => hQ _ _  k11 l11) ((h1.2.1 c2).2 c3) (((h2 h1.1).1 c2).2 c3))⟩), (fun c2 => cj_243 (fun r28 s27 k13 l13 => hQ _ _  k13 l13) (h1.2.2 c2) ((h2 h1.1).2 c2))⟩⟩
/-! what is asked, its answer as a function of what both hold: ofPerson, ofStretch, ofWay, saved, about -/
section QU
variable {J K : Nat → Int → Int} {s t u : lf_Z} {f g A B sv : Int → Int} {H : List rr_H} {X : mn_X} {I I' : Nat → Int → Int} {P P' : Nat → Option Nat} {a b c d r j n w : Int} {p : Int → Prop} {z : Bool}
theorem qu_to {Q : Int → lf_Z → Prop} {v : Int} (h : Q r s) (e : r = v) : Q v s := e ▸ h
/-! ofPerson -/
def qu_111 (A : Int → Int) (a b : Int) : Int := if (0 ≤ a ∧ a < A 2) ∧ 0 ≤ b ∧ b ≤ 4 then A (126 + 6 * a + b) else -2
theorem gq_111 {Q : Int → lf_Z → Prop} (h1 : gx_1 s.1) (h : Q (qu_111 (s.1 96) a b) s) : fw_111 a b Q s := by
  obtain ⟨f, H, hF, hC, hR⟩ := h1
  have e2 : s.1 96 2 = s.1 1 2 := hR.1.2.2.1
  have w2 := hF.1.1.2.2.1
  unfold fw_111
  refine fl_99 ⟨fun q _ => ?_, fun q => ?_⟩
  · have q := bd_t q
    have ok : ∀ c : Int, 0 ≤ c → c ≤ 4 → b = c → qu_111 (s.1 96) a b = s.1 96 (126 + 6 * a + c) := fun c c0 c1 e => by
      unfold qu_111
      rw [if_pos ⟨⟨q.1, by omega⟩, by omega, by omega⟩, e]
    obtain ⟨l7, l8, l9, l10⟩ := hR.1.2.2.2.2.2 a q.1 q.2
    obtain ⟨s3, s4⟩ := hR.2.1.2.2.2.1 a q.1 q.2
    obtain ⟨c3, c4⟩ := hC.1.2.1 a q.1 (by omega)
    obtain ⟨b8, b9⟩ := hF.1.2.1.2 a
    refine ⟨fun y => qu_to h ?_, fun y _ => qu_to h ((ok 0 (by decide) (by decide) y).trans l7), fun y _ _ => ⟨fun y2 => qu_to h ?_, fun y2 => qu_to h ?_⟩, fun y _ _ => ⟨fun y2 => qu_to h ?_, fun y2 => qu_to h ?_⟩, fun y _ => qu_to h ?_, fun y _ => qu_to h ?_⟩
    · unfold qu_111; rw [if_neg (by omega)]
    · rw [ok 1 (by decide) (by decide) y, l8]; exact y2
    · rw [ok 1 (by decide) (by decide) y, l8]; omega
    · rw [ok 2 (by decide) (by decide) y, l9]; exact y2
    · rw [ok 2 (by decide) (by decide) y, l9]; omega
    · rw [ok 3 (by decide) (by decide) y, s3, c3]
    · rw [ok 4 (by decide) (by decide) y, s4, c4]
  · have q := bd_f q
    refine qu_to h ?_
    unfold qu_111
    rw [if_neg (fun y => q ⟨y.1.1, by have := y.1.2; omega⟩)]
theorem gq_285 {Q : Int → lf_Z → Prop} (h : Q (qu_111 (s.1 96) a b) s) : fw_285 a b Q s := by
  unfold fw_285 fw_249
  refine fl_183 ⟨fun q => ?_, fun q => fl_183 ⟨fun q2 => ?_, fun q2 => ?_⟩⟩
  · have q := bd_f q
    refine qu_to h ?_
    unfold qu_111
    rw [if_neg (fun y => q ⟨y.1.1, by have := y.1.2; omega⟩)]
  · have q2 := bd_f q2
    refine qu_to h ?_
    unfold qu_111
    rw [if_neg (fun y => q2 y.2)]
  · have q := bd_t q
    have q2 := bd_t q2
    unfold fw_239c
    intro _
    refine qu_to h ?_
    unfold qu_111
    rw [if_pos ⟨⟨q.1, by omega⟩, q2⟩]
/-! ofStretch -/
/-- the first k ways at a stretch as bits -/
def mn_bs (J : Nat → Int → Int) (a : Int) : Nat → Int
  | 0 => 0
  | k + 1 => if mn_at J a k = true then lf_or (mn_bs J a k) (lf_shl 1 (k : Int)) else mn_bs J a k
theorem mn_bsE : ∀ (n w : Nat), w ≤ n → (∀ v : Nat, w ≤ v → v < n → mn_at J a v = false) → mn_bs J a n = mn_bs J a w := by
  intro n
  induction n with
  | zero => intro w h _; rw [show w = 0 by omega]
  | succ n ih =>
    intro w h hv
    by_cases y : w = n + 1
    · rw [y]
    · show (if mn_at J a n = true then lf_or (mn_bs J a n) (lf_shl 1 (n : Int)) else mn_bs J a n) = mn_bs J a w
      rw [hv n (by omega) (by omega), if_neg (by decide)]
      exact ih w (by omega) (fun v v0 v1 => hv v v0 (by omega))
theorem dm_cnW {P : Nat → Bool} : ∀ (n w : Nat), w ≤ n → dm_cn P w ≤ dm_cn P n := by
  intro n
  induction n with
  | zero => intro w h; rw [show w = 0 by omega]; exact Nat.le_refl _
  | succ n ih =>
    intro w h
    by_cases y : w = n + 1
    · rw [y]; exact Nat.le_refl _
    · refine Nat.le_trans (ih w (by omega)) ?_
      show dm_cn P n ≤ dm_cn P (n + 1)
      have : dm_cn P (n + 1) = dm_cn P n + (if P n = true then 1 else 0) := rfl
      rw [this]; omega
theorem dm_cnT {P : Nat → Bool} {w : Nat} (h : P w = true) : dm_cn P (w + 1) = dm_cn P w + 1 := by
  have : dm_cn P (w + 1) = dm_cn P w + (if P w = true then 1 else 0) := rfl
  rw [this, if_pos h]
/-- no way between: the bits are the same -/
theorem mn_bsC {w v : Nat} (h : dm_cn (mn_at J a) w = dm_cn (mn_at J a) v) : mn_bs J a w = mn_bs J a v := by
  have key : ∀ {x y : Nat}, x ≤ y → dm_cn (mn_at J a) x = dm_cn (mn_at J a) y → mn_bs J a y = mn_bs J a x := fun {x y} hxy e => by
    refine mn_bsE y x hxy (fun v v0 v1 => ?_)
    cases q : mn_at J a v with
    | false => rfl
    | true =>
      have m1 := dm_cnW (P := mn_at J a) v x v0
      have m2 := dm_cnT q
      have m3 := dm_cnW (P := mn_at J a) y (v + 1) (by omega)
      omega
  by_cases y : w ≤ v
  · exact (key y h).symm
  · exact key (by omega) h.symm
def qu_112 (I : Nat → Int → Int) (a b : Int) : Int := if (0 ≤ a ∧ a < I 1 0) ∧ 0 ≤ b ∧ b ≤ 3 then (if b = 3 then mn_bs I a (I 1 1).toNat else I 96 (14 + 3 * a + b)) else -1
theorem gq_113 {Q : Int → lf_Z → Prop} (hW : mn_W s.1) (ha : 0 ≤ a ∧ a < s.1 1 0) (h : Q (mn_bs s.1 a (s.1 1 1).toNat) s) : fw_113 a Q s := by
  obtain ⟨d1, d2, d3⟩ := hW.2.2.2.2.1 a ha.1 (by have := hW.1; omega)
  unfold fw_113
  refine ⟨fun x i t => t = s ∧ ∃ k : Nat, i = k ∧ k ≤ dm_cn (mn_at s.1 a) (s.1 1 1).toNat ∧ ∀ w : Nat, dm_cn (mn_at s.1 a) w = k → x = mn_bs s.1 a w, ?_, ⟨rfl, 0, rfl, Nat.zero_le _, fun w hw => ?_⟩⟩
  · intro x i t ⟨ht, k, hi, hk, hx⟩
    subst ht hi
    unfold fw_113_p4
    refine fl_76 ?_
    rw [if_pos ha]
    intro _ _
    refine ⟨fun q => qu_to h ?_, fun q => ?_⟩
    · exact (hx _ (by omega)).symm
    · refine fl_77 ha (by omega) (by omega) ?_
      obtain ⟨v, v1, v2, v3⟩ := dm_cnS (P := mn_at t.1 a) (t.1 1 1).toNat k (by omega)
      have e := d3 v (by omega) v2
      rw [v3] at e
      rw [e]
      refine ⟨rfl, k + 1, by omega, by omega, fun w hw => ?_⟩
      rw [hx v v3]
      have c := mn_bsC (J := t.1) (a := a) (w := w) (v := v + 1) (by rw [hw, dm_cnT v2, v3])
      rw [c]
      show _ = (if mn_at t.1 a v = true then lf_or (mn_bs t.1 a v) (lf_shl 1 (v : Int)) else mn_bs t.1 a v)
      rw [if_pos v2]
  · have := mn_bsC (J := s.1) (a := a) (w := w) (v := 0) (by rw [hw]; rfl)
    rw [this]; rfl
theorem gq_112 {Q : Int → lf_Z → Prop} (h1 : gx_1 s.1) (h : Q (qu_112 s.1 a b) s) : fw_112 a b Q s := by
  obtain ⟨f, H, hF, hC, hR⟩ := h1
  have w0 := hF.1.1.1
  unfold fw_112
  refine fl_18 ⟨fun q _ => ?_, fun q => ?_⟩
  · have q := bd_t q
    have ok : ∀ c : Int, 0 ≤ c → c ≤ 2 → b = c → qu_112 s.1 a b = s.1 96 (14 + 3 * a + c) := fun c c0 c1 e => by
      unfold qu_112
      rw [if_pos ⟨q, by omega, by omega⟩, if_neg (by omega), e]
    obtain ⟨l2, l3⟩ := hR.1.2.2.2.1 a q.1 q.2
    have s5 := hR.2.1.2.2.2.2.1 a q.1 (by omega)
    have c5 := hC.1.2.2.1 a q.1 (by omega)
    refine ⟨fun y => qu_to h ?_, fun y _ => qu_to h ?_, fun y _ => qu_to h ?_, fun y _ => qu_to h ?_, fun y => gq_113 hF.1.1 q (qu_to h ?_)⟩
    · unfold qu_112; rw [if_neg (by omega)]
    · rw [ok 0 (by decide) (by decide) y, Int.add_zero, l2]
    · rw [ok 1 (by decide) (by decide) y, l3]
    · rw [ok 2 (by decide) (by decide) y, s5, c5]
    · unfold qu_112
      rw [if_pos ⟨q, by omega, by omega⟩, if_pos y]
  · have q := bd_f q
    refine qu_to h ?_
    unfold qu_112
    rw [if_neg (fun y => q y.1)]
theorem lf_or0 {u v : Int} : lf_or (lf_or u v) 0 = lf_or u v := by
  have e : ∀ x : Int32, x ||| Int32.ofInt 0 = x := fun x => by
    apply Int32.toBitVec_inj.mp
    rw [Int32.toBitVec_or]
    first | exact BitVec.or_zero | simp
  unfold lf_or
  rw [Int32.ofInt_toInt, e]
theorem mn_bs0 : ∀ k : Nat, lf_or (mn_bs J a k) 0 = mn_bs J a k := by
  intro k
  induction k with
  | zero => show lf_or 0 0 = 0; decide
  | succ k ih =>
    show lf_or (if mn_at J a k = true then lf_or (mn_bs J a k) (lf_shl 1 (k : Int)) else mn_bs J a k) 0 = (if mn_at J a k = true then lf_or (mn_bs J a k) (lf_shl 1 (k : Int)) else mn_bs J a k)
    split
    · exact lf_or0
    · exact ih
theorem gq_186 {Q : Int → lf_Z → Prop} (hL : rr_L J (s.1 96)) (hW : mn_W J) (ha : 0 ≤ a) (h : Q (mn_bs J a (J 1 1).toNat) s) : fw_186 a Q s := by
  have e1 : s.1 96 1 = J 1 1 := hL.2.1
  have w1 := hW.2.1
  unfold fw_186
  refine ⟨fun x i u => u = s ∧ ∃ k : Nat, i = k ∧ (k : Int) ≤ J 1 1 ∧ x = mn_bs J a k, ?_, ⟨rfl, 0, rfl, by omega, rfl⟩⟩
  intro x i u ⟨eu, k, ei, hk, ex⟩
  subst eu ei ex
  unfold fw_186_p4
  rw [e1]
  intro _ _
  refine ⟨fun d => by rw [show (J 1 1).toNat = k by omega] at h; exact h, fun d => fl_187 hL (by omega) (by omega) ?_⟩
  have q4 := hW.2.2.2.1 k (by omega) (by omega)
  have atI : mn_at J a k = true ↔ 0 ≤ mn_ac J k a := by
    rw [mn_atE]
    unfold mn_ac
    (repeat' split) <;> omega
  intro _
  refine ⟨fun e => ?_, fun e => ?_⟩
  · unfold fw_186_p31
    have hf : ¬ mn_at J a k = true := fun q => by have := atI.mp q; omega
    exact ⟨rfl, k + 1, by omega, by omega, (mn_bs0 (J := J) (a := a) k).trans (if_neg hf).symm⟩
  · unfold fw_186_p31
    exact ⟨rfl, k + 1, by omega, by omega, (if_pos (atI.mpr (by omega))).symm⟩
theorem gq_286 {Q : Int → lf_Z → Prop} (h1 : gx_1 s.1) (h : Q (qu_112 s.1 a b) s) : fw_286 a b Q s := by
  obtain ⟨f, H, hF, hC, hR⟩ := h1
  have e0 : s.1 96 0 = s.1 1 0 := hR.1.1
  unfold fw_286 fw_185
  refine fl_183 ⟨fun q => ?_, fun q => fl_183 ⟨fun q2 => ?_, fun q2 => ?_⟩⟩
  · have q := bd_f q
    refine qu_to h ?_
    unfold qu_112
    rw [if_neg (fun y => q ⟨y.1.1, by have := y.1.2; omega⟩)]
  · have q := bd_t q
    have q2 := bd_t q2
    intro _
    refine ⟨fun y _ => qu_to h ?_, fun y => gq_186 hR.1 hF.1.1 q.1 (qu_to h ?_)⟩
    · unfold qu_112
      rw [if_pos ⟨⟨q.1, by omega⟩, q2⟩, if_neg y]
    · unfold qu_112
      rw [if_pos ⟨⟨q.1, by omega⟩, q2⟩, if_pos (Classical.not_not.mp y)]
  · have q2 := bd_f q2
    refine qu_to h ?_
    unfold qu_112
    rw [if_neg (fun y => q2 y.2)]
/-! ofWay -/
def qu_114 (A : Int → Int) (a b : Int) : Int := if (0 ≤ a ∧ a < A 1) ∧ 0 ≤ b ∧ b ≤ 3 then A (50 + 4 * a + b) else -1
theorem gq_114 {Q : Int → lf_Z → Prop} (h1 : gx_1 s.1) (h : Q (qu_114 (s.1 96) a b) s) : fw_114 a b Q s := by
  obtain ⟨f, H, hF, hC, hR⟩ := h1
  have e1 : s.1 96 1 = s.1 1 1 := hR.1.2.1
  have w1 := hF.1.1.2.1
  unfold fw_114
  refine fl_79 ⟨fun q _ => ?_, fun q => ?_⟩
  · have q := bd_t q
    have ok : ∀ c : Int, 0 ≤ c → c ≤ 3 → b = c → qu_114 (s.1 96) a b = s.1 96 (50 + 4 * a + c) := fun c c0 c1 e => by
      unfold qu_114
      rw [if_pos ⟨⟨q.1, by omega⟩, by omega, by omega⟩, e]
    obtain ⟨l4, l5, l6⟩ := hR.1.2.2.2.2.1 a q.1 q.2
    have s6 := hR.2.1.2.2.2.2.2 a q.1 q.2
    have c6 := hC.1.2.2.2.1
    have b6 := hF.1.2.1.1 a
    refine ⟨fun y => qu_to h ?_, fun y _ => qu_to h ?_, fun y _ => qu_to h ?_, fun y _ _ => ⟨fun y2 => qu_to h ?_, fun y2 => qu_to h ?_⟩, fun y => fl_90 q.1 (by omega) ⟨fun y2 => qu_to h ?_, fun y2 => qu_to h ?_⟩⟩
    · unfold qu_114; rw [if_neg (by omega)]
    · rw [ok 0 (by decide) (by decide) y, Int.add_zero, l4]
    · rw [ok 1 (by decide) (by decide) y, l5]
    · rw [ok 2 (by decide) (by decide) y, l6]; exact y2
    · rw [ok 2 (by decide) (by decide) y, l6]; omega
    · rw [ok 3 (by decide) (by decide) y, s6, ← c6]
      unfold rr_op
      rw [if_pos (by cases q9 : bt_t (s.1 15 6) a with
        | true => rfl
        | false => rw [q9] at y2; cases y2)]
    · rw [ok 3 (by decide) (by decide) y, s6, ← c6]
      unfold rr_op
      rw [if_neg (by cases q9 : bt_t (s.1 15 6) a with
        | true => rw [q9] at y2; cases y2
        | false => decide)]
  · have q := bd_f q
    refine qu_to h ?_
    unfold qu_114
    rw [if_neg (fun y => q ⟨y.1.1, by have := y.1.2; omega⟩)]
theorem gq_287 {Q : Int → lf_Z → Prop} (h : Q (qu_114 (s.1 96) a b) s) : fw_287 a b Q s := by
  unfold fw_287 fw_251
  refine fl_183 ⟨fun q => ?_, fun q => fl_183 ⟨fun q2 => ?_, fun q2 _ => ?_⟩⟩
  · have q := bd_f q
    refine qu_to h ?_
    unfold qu_114
    rw [if_neg (fun y => q ⟨y.1.1, by have := y.1.2; omega⟩)]
  · have q2 := bd_f q2
    refine qu_to h ?_
    unfold qu_114
    rw [if_neg (fun y => q2 y.2)]
  · have q := bd_t q
    have q2 := bd_t q2
    refine qu_to h ?_
    unfold qu_114
    rw [if_pos ⟨⟨q.1, by omega⟩, q2⟩]
/-! saved -/
/-- the best way among the first k, and how much it saves -/
def sv_b (sv : Int → Int) : Nat → Int × Int
  | 0 => (-1, 0)
  | k + 1 => if (sv_b sv k).2 < sv (k : Int) then ((k : Int), sv (k : Int)) else sv_b sv k
theorem sv_p : ∀ k : Nat, 0 ≤ (sv_b sv k).2 := by
  intro k
  induction k with
  | zero => exact Int.le_refl 0
  | succ k ih =>
    show 0 ≤ (if (sv_b sv k).2 < sv (k : Int) then ((k : Int), sv (k : Int)) else sv_b sv k).2
    split
    · show 0 ≤ sv (k : Int); omega
    · exact ih
theorem sv_e : ∀ (n k : Nat), k ≤ n → (∀ w : Int, k ≤ w → w < n → sv w ≤ 0) → sv_b sv n = sv_b sv k := by
  intro n
  induction n with
  | zero => intro k h _; rw [show k = 0 by omega]
  | succ n ih =>
    intro k h hv
    by_cases y : k = n + 1
    · rw [y]
    · show (if (sv_b sv n).2 < sv (n : Int) then ((n : Int), sv (n : Int)) else sv_b sv n) = _
      have := sv_p (sv := sv) n
      rw [if_neg (by have := hv n (by omega) (by omega); omega)]
      exact ih k (by omega) (fun w w0 w1 => hv w w0 (by omega))
def qu_164 (I : Nat → Int → Int) (a : Int) : Int := if a = -1 then (sv_b (I 28) 16).1 else if 0 ≤ a ∧ a < I 1 1 then I 28 a else -10000
theorem gq_164 {Q : Int → lf_Z → Prop} (h : Q (qu_164 s.1 a) s) : fw_164 a Q s := by
  unfold fw_164
  intro _
  refine ⟨fun ne => fl_79 ⟨fun q => qu_to h ?_, fun q _ => qu_to h ?_⟩, fun y => ?_⟩
  · unfold qu_164; rw [if_neg ne, if_neg (bd_f q)]
  · unfold qu_164; rw [if_neg ne, if_pos (bd_t q)]
  · have e : qu_164 s.1 a = (sv_b (s.1 28) 16).1 := if_pos (Classical.not_not.mp y)
    rw [e] at h
    unfold fw_165
    refine ⟨fun x1 x2 x3 t => t = s ∧ ∃ k : Nat, x3 = k ∧ k ≤ 16 ∧ x1 = (sv_b (s.1 28) k).1 ∧ x2 = (sv_b (s.1 28) k).2, ?_, ⟨rfl, 0, rfl, by decide, rfl, rfl⟩⟩
    intro x1 x2 x3 t ⟨ht, k, e3, hk, e1, e2⟩
    subst ht e3 e1 e2
    unfold fw_165_p6
    intro _
    refine ⟨fun q => ?_, fun q _ _ _ => ⟨fun q2 => ?_, fun q2 => ?_⟩⟩
    · rw [show k = 16 by omega]; exact h
    · unfold fw_165_p31
      have e : sv_b (t.1 28) (k + 1) = sv_b (t.1 28) k := if_neg (by omega)
      exact ⟨rfl, k + 1, by omega, by omega, by rw [e], by rw [e]⟩
    · unfold fw_165_p31
      have e : sv_b (t.1 28) (k + 1) = ((k : Int), t.1 28 (k : Int)) := if_pos (by omega)
      exact ⟨rfl, k + 1, by omega, by omega, by rw [e], by rw [e]⟩
theorem gq_320 {Q : Int → lf_Z → Prop} (h : gr_1 sv (s.1 96) a) (h0 : s.1 96 (174 + 5 * a) ≠ 0) (k : Q (sv a) s) : fw_320 a Q s := by
  rcases h with ⟨h, _⟩ | ⟨_, b1, b2, b3, b4, e⟩
  · exact absurd h h0
  · unfold fw_320
    intro _ _ _ _
    have g := mg_w (n := s.1 96 (174 + 5 * a + 4)) b1 b2 b3 b4
    rw [g]
    unfold mg_v
    rw [← e]
    exact k
theorem gq_319 {Q : Int → lf_Z → Prop} (h1 : gx_1 s.1) (h : Q (qu_164 s.1 a) s) : fw_319 a Q s := by
  obtain ⟨f, H, hF, hC, hR⟩ := h1
  have e1 : s.1 96 1 = s.1 1 1 := hR.1.2.1
  have w1 := hF.1.1.2.1
  obtain ⟨m1, m2⟩ := hR.2.2.2
  unfold fw_319
  intro _
  refine ⟨fun y => ?_, fun ne => ?_⟩
  · have e : qu_164 s.1 a = (sv_b (s.1 28) 16).1 := if_pos y
    rw [e, sv_e 16 (s.1 1 1).toNat (by omega) (fun w w0 w1 => by have := m2 w (by omega) (by omega); omega)] at h
    refine ⟨fun x2 x3 x4 t => t = s ∧ ∃ k : Nat, x4 = k ∧ (k : Int) ≤ s.1 1 1 ∧ x2 = (sv_b (s.1 28) k).1 ∧ x3 = (sv_b (s.1 28) k).2, ?_, ⟨rfl, 0, rfl, by omega, rfl, rfl⟩⟩
    intro x2 x3 x4 t ⟨ht, k, e4, hk, e2, e3⟩
    subst ht e4 e2 e3
    have p0 := sv_p (sv := t.1 28) k
    unfold fw_319_p48
    intro _
    rw [e1]
    intro _
    refine ⟨fun q => ?_, fun q _ _ => ⟨fun q2 => ?_, fun q2 => ?_⟩⟩
    · rw [show (t.1 1 1).toNat = k by omega] at h; exact h
    · unfold fw_319_p98
      have sk : t.1 28 (k : Int) = -10000 := by
        rcases m1 k (by omega) (by omega) with ⟨_, e⟩ | ⟨e, _⟩
        · exact e
        · omega
      have e : sv_b (t.1 28) (k + 1) = sv_b (t.1 28) k := if_neg (by omega)
      exact ⟨rfl, k + 1, by omega, by omega, by rw [e], by rw [e]⟩
    · have g1 := m1 k (by omega) (by omega)
      refine gq_320 g1 q2 ?_
      intro _ _
      refine ⟨fun q3 => gq_320 g1 q2 ?_, fun q3 => ?_⟩
      · unfold fw_319_p98
        have e : sv_b (t.1 28) (k + 1) = ((k : Int), t.1 28 (k : Int)) := if_pos (by omega)
        exact ⟨rfl, k + 1, by omega, by omega, by rw [e], by rw [e]⟩
      · unfold fw_319_p98
        have e : sv_b (t.1 28) (k + 1) = sv_b (t.1 28) k := if_neg (by omega)
        exact ⟨rfl, k + 1, by omega, by omega, by rw [e], by rw [e]⟩
  · unfold fw_251
    refine fl_183 ⟨fun q => qu_to h ?_, fun q _ _ => ?_⟩
    · have q := bd_f q
      unfold qu_164
      rw [if_neg ne, if_neg (fun y => q ⟨y.1, by have := y.2; omega⟩)]
    · have q := bd_t q
      have g1 := m1 a q.1 (by omega)
      have e : qu_164 s.1 a = s.1 28 a := by
        unfold qu_164
        rw [if_neg ne, if_pos ⟨q.1, by omega⟩]
      refine ⟨fun q2 => qu_to h ?_, fun q2 => gq_320 g1 (by omega) (qu_to h e)⟩
      rw [e]
      rcases g1 with ⟨_, e⟩ | ⟨e, _⟩
      · exact e
      · exact absurd e q2
/-! about -/
theorem mi_alC {f g : Int → Int} : ∀ k : Nat, (∀ i : Int, 0 ≤ i → i < k → f (24 + i) = g (24 + i)) → mi_al f k = mi_al g k := by
  intro k
  induction k with
  | zero => intro _; rfl
  | succ k ih =>
    intro h
    show lf_w (mi_al f k + f (24 + (k : Int))) = lf_w (mi_al g k + g (24 + (k : Int)))
    rw [ih (fun i i0 i1 => h i i0 (by omega)), h k (by omega) (by omega)]
def qu_179 (I : Nat → Int → Int) (a : Int) : Int := if a = 4 then I 96 114 + I 96 117 + I 96 120 + I 96 123 else if a = 5 then mi_al (fun j => I 21 (j - 24)) 12 else if 0 ≤ a ∧ a ≤ 11 then I 96 a else if a = 12 then I 95 4 else -2
theorem gq_4 (hR : gr_T sv J f H A) : sg_n f 4 = A 114 + A 117 + A 120 + A 123 := by
  have q := hR.2.1.2.2.1
  have q0 := (q 0 (by decide) (by decide)).1
  have q1 := (q 1 (by decide) (by decide)).1
  have q2 := (q 2 (by decide) (by decide)).1
  have q3 := (q 3 (by decide) (by decide)).1
  rw [sg_n4, show A 114 = f 0 from q0, show A 117 = f 3 from q1, show A 120 = f 6 from q2, show A 123 = f 9 from q3]
theorem gq_5 (hC : rc_S I f) : mi_al f 12 = mi_al (fun j => I 21 (j - 24)) 12 := mi_alC 12 (fun i i0 i1 => by
  show f (24 + i) = I 21 (24 + i - 24)
  rw [show 24 + i - 24 = i by omega]
  exact (hC.2.2.1 i i0 (by omega)).symm)
theorem gq_179 {Q : Int → lf_Z → Prop} (hA : gx_A s.1 s.2.2) (h : Q (qu_179 s.1 a) s) : fw_179 a Q s := by
  obtain ⟨⟨f, H, hF, hC, hR⟩, _, _, _, hT, hr, h7, _⟩ := hA
  obtain ⟨t1, t2, t3, t4, _⟩ := hT
  have e : ∀ c : Int, 0 ≤ c → c ≤ 11 → c ≠ 4 → c ≠ 5 → a = c → qu_179 s.1 a = s.1 96 c := fun c c0 c1 c4 c5 y => by
    unfold qu_179
    rw [if_neg (by omega), if_neg (by omega), if_pos (by omega), y]
  unfold fw_179
  intro _
  refine ⟨fun y => qu_to h ?_, fun y => qu_to h ?_, fun y => qu_to h ?_, fun y => qu_to h ?_, fun y => qu_to h ?_, fun y => fl_64 hC.1 hF.2.1.1 (qu_to h ?_), fun y => fl_97 hC.1 (qu_to h ?_), fun y => qu_to h ?_, fun y => qu_to h ?_, fun y => qu_to h ?_, fun y => qu_to h ?_, fun y => qu_to h ?_, fun y => ?_, fun y => qu_to h ?_⟩
  · unfold qu_179; rw [if_neg (by omega), if_neg (by omega), if_neg (by omega), if_neg (by omega)]
  · exact (e 0 (by decide) (by decide) (by decide) (by decide) y).trans hR.1.1
  · exact (e 1 (by decide) (by decide) (by decide) (by decide) y).trans hR.1.2.1
  · exact (e 2 (by decide) (by decide) (by decide) (by decide) y).trans hR.1.2.2.1
  · exact (e 3 (by decide) (by decide) (by decide) (by decide) y).trans (hR.2.1.1.trans hC.1.2.2.2.2.1.symm)
  · unfold qu_179; rw [if_pos y]; exact (gq_4 hR).symm
  · unfold qu_179; rw [if_neg (by omega), if_pos y]; exact (gq_5 hC.1).symm
  · exact (e 6 (by decide) (by decide) (by decide) (by decide) y).trans (hR.2.1.2.1.trans hC.1.2.2.2.2.2.symm)
  · exact (e 7 (by decide) (by decide) (by decide) (by decide) y).trans t3.symm
  · exact (e 8 (by decide) (by decide) (by decide) (by decide) y).trans t4.symm
  · exact (e 9 (by decide) (by decide) (by decide) (by decide) y).trans (hR.2.2.1.1.trans hC.2.1.symm)
  · exact (e 10 (by decide) (by decide) (by decide) (by decide) y).trans h7.1.1.symm
  · have e11 : qu_179 s.1 a = tr_s4 (s.1 29) := (e 11 (by decide) (by decide) (by decide) (by decide) y).trans (tr_S hr.1).symm
    rw [e11] at h
    unfold fw_168 fw_65c
    refine ⟨fun x i t => t = s ∧ ((i = 0 ∧ x = 0) ∨ (i = 0 + 1 ∧ x = lf_w (0 + s.1 29 0)) ∨ (i = 0 + 1 + 1 ∧ x = lf_w (lf_w (0 + s.1 29 0) + s.1 29 (0 + 1))) ∨ (i = 0 + 1 + 1 + 1 ∧ x = lf_w (lf_w (lf_w (0 + s.1 29 0) + s.1 29 (0 + 1)) + s.1 29 (0 + 1 + 1))) ∨ (i = 0 + 1 + 1 + 1 + 1 ∧ x = tr_s4 (s.1 29))), ?_, ⟨rfl, Or.inl ⟨rfl, rfl⟩⟩⟩
    intro x i t ⟨ht, hx⟩
    subst ht
    unfold fw_65c_p10
    intro _ _
    refine ⟨fun q => ?_, fun q _ => ?_⟩
    · rcases hx with ⟨c, _⟩ | ⟨c, _⟩ | ⟨c, _⟩ | ⟨c, _⟩ | ⟨_, c⟩
      · exfalso; omega
      · exfalso; omega
      · exfalso; omega
      · exfalso; omega
      · rw [c]; exact h
    · rcases hx with ⟨c, c2⟩ | ⟨c, c2⟩ | ⟨c, c2⟩ | ⟨c, c2⟩ | ⟨c, _⟩
      · subst c c2; exact ⟨rfl, Or.inr (Or.inl ⟨rfl, rfl⟩)⟩
      · subst c c2; exact ⟨rfl, Or.inr (Or.inr (Or.inl ⟨rfl, rfl⟩))⟩
      · subst c c2; exact ⟨rfl, Or.inr (Or.inr (Or.inr (Or.inl ⟨rfl, rfl⟩)))⟩
      · subst c c2; exact ⟨rfl, Or.inr (Or.inr (Or.inr (Or.inr ⟨rfl, rfl⟩)))⟩
      · exfalso; omega
  · unfold qu_179; rw [if_neg (by omega), if_neg (by omega), if_neg (by omega), if_pos y]; exact t1.symm
theorem gq_327 {Q : Int → lf_Z → Prop} (hA : gx_A s.1 s.2.2) (h : Q (qu_179 s.1 a) s) : fw_327 a Q s := by
  obtain ⟨⟨f, H, hF, hC, hR⟩, _⟩ := hA
  unfold fw_327
  intro _
  refine ⟨fun y4 => ⟨fun y5 => fl_183 ⟨fun q => ⟨fun y12 => qu_to h ?_, fun y12 => qu_to h ?_⟩, fun q _ => qu_to h ?_⟩, fun y5 => ?_⟩, fun y4 => fl_243 hR.2.1 (qu_to h ?_)⟩
  · unfold qu_179; rw [if_neg y4, if_neg y5, if_neg (bd_f q), if_neg y12]
  · unfold qu_179; rw [if_neg y4, if_neg y5, if_neg (bd_f q), if_pos (Classical.not_not.mp y12)]
  · unfold qu_179; rw [if_neg y4, if_neg y5, if_pos (bd_t q)]
  · refine fl_279 hR.1 hF.1.1 hR.2.1 (qu_to h ?_)
    unfold qu_179
    rw [if_neg y4, if_pos (Classical.not_not.mp y5), mi_alE hF.1.1 hF.2.1]
    exact (gq_5 hC.1).symm
  · unfold qu_179
    rw [if_pos (Classical.not_not.mp y4)]
    exact (gq_4 hR).symm
end QU
/-! within the law -/
section QL
variable {s : lf_Z} {a1 a2 : Int} {Q : Int → lf_Z → Prop}
theorem gx_111 (hI : iv_A s.1 s.2.2) (ba1 : (-2147483648) ≤ a1 ∧ a1 ≤ 2147483647) (ba2 : (-2147483648) ≤ a2 ∧ a2 ≤ 2147483647) (hA : gx_A s.1 s.2.2) (hQ : ∀ (r : Int), r = qu_111 (s.1 96) a1 a2 → ((-2147483648) ≤ r ∧ r ≤ 2147483647) → Q r s) : fm_111 a1 a2 Q s := cj_111 (Q1 := fun r t => t = s ∧ ((-2147483648) ≤ r ∧ r ≤ 2147483647)) (Q2 := fun r t => r = qu_111 (s.1 96) a1 a2) (fun r t h1 h2 => by obtain ⟨rfl, h⟩ := h1; exact hQ r h2 h) (sm_111 hI ba1 ba2 (fun r h => ⟨rfl, h⟩)) (gq_111 hA.1 rfl)
theorem gx_285 (hI : iv_A s.1 s.2.2) (ba1 : (-2147483648) ≤ a1 ∧ a1 ≤ 2147483647) (ba2 : (-2147483648) ≤ a2 ∧ a2 ≤ 2147483647) (hA : gx_A s.1 s.2.2) (hQ : ∀ (r : Int), r = qu_111 (s.1 96) a1 a2 → ((-2147483648) ≤ r ∧ r ≤ 2147483647) → Q r s) : fm_285 a1 a2 Q s := cj_285 (Q1 := fun r t => t = s ∧ ((-2147483648) ≤ r ∧ r ≤ 2147483647)) (Q2 := fun r t => r = qu_111 (s.1 96) a1 a2) (fun r t h1 h2 => by obtain ⟨rfl, h⟩ := h1; exact hQ r h2 h) (sm_285 hI ba1 ba2 (fun r h => ⟨rfl, h⟩)) (gq_285 rfl)
theorem gx_112 (hI : iv_A s.1 s.2.2) (ba1 : (-2147483648) ≤ a1 ∧ a1 ≤ 2147483647) (ba2 : (-2147483648) ≤ a2 ∧ a2 ≤ 2147483647) (hA : gx_A s.1 s.2.2) (hQ : ∀ (r : Int), r = qu_112 s.1 a1 a2 → ((-2147483648) ≤ r ∧ r ≤ 2147483647) → Q r s) : fm_112 a1 a2 Q s := cj_112 (Q1 := fun r t => t = s ∧ ((-2147483648) ≤ r ∧ r ≤ 2147483647)) (Q2 := fun r t => r = qu_112 s.1 a1 a2) (fun r t h1 h2 => by obtain ⟨rfl, h⟩ := h1; exact hQ r h2 h) (sm_112 hI ba1 ba2 (fun r h => ⟨rfl, h⟩)) (gq_112 hA.1 rfl)
theorem gx_286 (hI : iv_A s.1 s.2.2) (ba1 : (-2147483648) ≤ a1 ∧ a1 ≤ 2147483647) (ba2 : (-2147483648) ≤ a2 ∧ a2 ≤ 2147483647) (hA : gx_A s.1 s.2.2) (hQ : ∀ (r : Int), r = qu_112 s.1 a1 a2 → ((-2147483648) ≤ r ∧ r ≤ 2147483647) → Q r s) : fm_286 a1 a2 Q s := cj_286 (Q1 := fun r t => t = s ∧ ((-2147483648) ≤ r ∧ r ≤ 2147483647)) (Q2 := fun r t => r = qu_112 s.1 a1 a2) (fun r t h1 h2 => by obtain ⟨rfl, h⟩ := h1; exact hQ r h2 h) (sm_286 hI ba1 ba2 (fun r h => ⟨rfl, h⟩)) (gq_286 hA.1 rfl)
theorem gx_114 (hI : iv_A s.1 s.2.2) (ba1 : (-2147483648) ≤ a1 ∧ a1 ≤ 2147483647) (ba2 : (-2147483648) ≤ a2 ∧ a2 ≤ 2147483647) (hA : gx_A s.1 s.2.2) (hQ : ∀ (r : Int), r = qu_114 (s.1 96) a1 a2 → ((-1) ≤ r ∧ r ≤ 11) → Q r s) : fm_114 a1 a2 Q s := cj_114 (Q1 := fun r t => t = s ∧ ((-1) ≤ r ∧ r ≤ 11)) (Q2 := fun r t => r = qu_114 (s.1 96) a1 a2) (fun r t h1 h2 => by obtain ⟨rfl, h⟩ := h1; exact hQ r h2 h) (sm_114 hI ba1 ba2 (fun r h => ⟨rfl, h⟩)) (gq_114 hA.1 rfl)
theorem gx_287 (hI : iv_A s.1 s.2.2) (ba1 : (-2147483648) ≤ a1 ∧ a1 ≤ 2147483647) (ba2 : (-2147483648) ≤ a2 ∧ a2 ≤ 2147483647) (hA : gx_A s.1 s.2.2) (hQ : ∀ (r : Int), r = qu_114 (s.1 96) a1 a2 → ((-2147483648) ≤ r ∧ r ≤ 2147483647) → Q r s) : fm_287 a1 a2 Q s := cj_287 (Q1 := fun r t => t = s ∧ ((-2147483648) ≤ r ∧ r ≤ 2147483647)) (Q2 := fun r t => r = qu_114 (s.1 96) a1 a2) (fun r t h1 h2 => by obtain ⟨rfl, h⟩ := h1; exact hQ r h2 h) (sm_287 hI ba1 ba2 (fun r h => ⟨rfl, h⟩)) (gq_287 rfl)
theorem gx_164 (hI : iv_A s.1 s.2.2) (ba1 : (-2147483648) ≤ a1 ∧ a1 ≤ 2147483647) (hA : gx_A s.1 s.2.2) (hQ : ∀ (r : Int), r = qu_164 s.1 a1 → ((-2147483648) ≤ r ∧ r ≤ 2147483647) → Q r s) : fm_164 a1 Q s := cj_164 (Q1 := fun r t => t = s ∧ ((-2147483648) ≤ r ∧ r ≤ 2147483647)) (Q2 := fun r t => r = qu_164 s.1 a1) (fun r t h1 h2 => by obtain ⟨rfl, h⟩ := h1; exact hQ r h2 h) (sm_164 hI ba1 (fun r h => ⟨rfl, h⟩)) (gq_164 rfl)
theorem gx_319 (hI : iv_A s.1 s.2.2) (ba1 : (-2147483648) ≤ a1 ∧ a1 ≤ 2147483647) (hA : gx_A s.1 s.2.2) (hQ : ∀ (r : Int), r = qu_164 s.1 a1 → ((-2147483648) ≤ r ∧ r ≤ 2147483647) → Q r s) : fm_319 a1 Q s := cj_319 (Q1 := fun r t => t = s ∧ ((-2147483648) ≤ r ∧ r ≤ 2147483647)) (Q2 := fun r t => r = qu_164 s.1 a1) (fun r t h1 h2 => by obtain ⟨rfl, h⟩ := h1; exact hQ r h2 h) (sm_319 hI ba1 (fun r h => ⟨rfl, h⟩)) (gq_319 hA.1 rfl)
theorem gx_179 (hI : iv_A s.1 s.2.2) (ba1 : (-2147483648) ≤ a1 ∧ a1 ≤ 2147483647) (hA : gx_A s.1 s.2.2) (hQ : ∀ (r : Int), r = qu_179 s.1 a1 → ((-2147483648) ≤ r ∧ r ≤ 2147483647) → Q r s) : fm_179 a1 Q s := cj_179 (Q1 := fun r t => t = s ∧ ((-2147483648) ≤ r ∧ r ≤ 2147483647)) (Q2 := fun r t => r = qu_179 s.1 a1) (fun r t h1 h2 => by obtain ⟨rfl, h⟩ := h1; exact hQ r h2 h) (sm_179 hI ba1 (fun r h => ⟨rfl, h⟩)) (gq_179 hA rfl)
theorem gx_327 (hI : iv_A s.1 s.2.2) (ba1 : (-2147483648) ≤ a1 ∧ a1 ≤ 2147483647) (hA : gx_A s.1 s.2.2) (hQ : ∀ (r : Int), r = qu_179 s.1 a1 → ((-2147483648) ≤ r ∧ r ≤ 2147483647) → Q r s) : fm_327 a1 Q s := cj_327 (Q1 := fun r t => t = s ∧ ((-2147483648) ≤ r ∧ r ≤ 2147483647)) (Q2 := fun r t => r = qu_179 s.1 a1) (fun r t h1 h2 => by obtain ⟨rfl, h⟩ := h1; exact hQ r h2 h) (sm_327 hI ba1 (fun r h => ⟨rfl, h⟩)) (gq_327 hA rfl)
end QL
/-! bunch and takes: answers that rest on the law that rules -/
section QB
variable {J K : Nat → Int → Int} {s t u : lf_Z} {f g A B sv T : Int → Int} {H : List rr_H} {X : mn_X} {I I' : Nat → Int → Int} {P P' : Nat → Option Nat} {a b c d r j n w : Int} {p : Int → Prop} {z : Bool}
/-- an answer that rests on law, land and stand; both sides hold the same afterwards -/
abbrev qb_T : Type := mn_X → (Nat → Int → Int) → (Int → Int) → Int
def gx_B (q : qb_T) (r : Int) (I : Nat → Int → Int) (P : Nat → Option Nat) : Prop := (∃ (X : mn_X) (J : Nat → Int → Int) (f : Int → Int) (H : List rr_H), gx_XB X ∧ xr_X X (I 98) (I 96 8) ∧ gf_T J f H ∧ gr_T (I 28) J f H (I 96) ∧ r = q X J f) ∧ gx_A I P
def qb_110 (a b : Int) : qb_T := fun X J f => if (0 ≤ a ∧ a ≤ 3) ∧ 0 ≤ b ∧ b ≤ 3 then (if b = 0 then f (3 * a) else if f (3 * a) = 0 then -1 else if b = 1 then f (3 * a + 1) else if b = 2 then f (3 * a + 2) else X.1 (mn_np J f a)) else -2
theorem gq_110 {Q : Int → lf_Z → Prop} (hF : gf_T s.1 f H) (hC : gc_T s.1 f H) (hX : gx_Xc X I s) (h : ∀ t : lf_Z, Q (qb_110 a b X s.1 f) t) : fw_110 a b Q s := by
  unfold fw_110
  refine fl_15 ⟨fun q => ?_, fun q => fl_15 ⟨fun q2 _ => ?_, fun q2 => ?_⟩⟩
  · refine qu_to (h _) ?_
    unfold qb_110
    rw [if_neg (fun y => bd_f q y.1)]
  · have q := bd_t q
    have q2 := bd_t q2
    have gI := hF.2.1.1
    have sz := gp_sz gI q.1 (show a < 4 by omega)
    obtain ⟨c0, c1, c2⟩ := hC.1.1 a q.1 (by omega)
    have e : qb_110 a b X s.1 f = (if b = 0 then f (3 * a) else if f (3 * a) = 0 then -1 else if b = 1 then f (3 * a + 1) else if b = 2 then f (3 * a + 2) else X.1 (mn_np s.1 f a)) := if_pos ⟨q, q2⟩
    refine ⟨fun y0 _ _ => ⟨fun y => ⟨fun y3 => ⟨fun y1 => qu_to (h _) ?_, fun y1 => qu_to (h _) ?_⟩, fun y3 => ?_⟩, fun y => qu_to (h _) ?_⟩, fun y0 _ => qu_to (h _) ?_⟩
    · rw [e, if_neg y0, if_neg (by rw [← c0]; exact y), if_neg y1, if_pos (by omega), c2]
    · rw [e, if_neg y0, if_neg (by rw [← c0]; exact y), if_pos (Classical.not_not.mp y1), c1]
    · have hz : 0 < f (3 * a) := by rw [c0] at y; omega
      have at_ := gp_at gI q.1 (show a < 4 by omega) hz
      refine fl_81 (J := s.1) (fun _ _ => rfl) hF.1.1 hC.1 hX.1 hX.2 q.1 (by omega) hz at_.1 at_.2.1 (np_S hF.1.1 hF.1.2.2.1 sz at_.1) (fun v t _ hv => qu_to (h t) ?_)
      rw [e, if_neg y0, if_neg (by omega), if_neg (by omega), if_neg (by omega), hv]
    · rw [e, if_neg y0, if_pos (by rw [← c0]; exact Classical.not_not.mp y)]
    · rw [e, if_pos (Classical.not_not.mp y0), c0]
  · refine qu_to (h _) ?_
    unfold qb_110
    rw [if_neg (fun y => bd_f q2 y.2)]
theorem gq_284 {Q : Int → lf_Z → Prop} (hF : gf_T J f H) (hR : gr_T sv J f H (s.1 96)) (hX : gx_Xr X T s) (h : ∀ t : lf_Z, Q (qb_110 a b X J f) t) : fw_284 a b Q s := by
  unfold fw_284
  refine fl_183 ⟨fun q => ?_, fun q => fl_183 ⟨fun q2 _ => ?_, fun q2 => ?_⟩⟩
  · refine qu_to (h _) ?_
    unfold qb_110
    rw [if_neg (fun y => bd_f q y.1)]
  · have q := bd_t q
    have q2 := bd_t q2
    have gI := hF.2.1.1
    have sz := gp_sz gI q.1 (show a < 4 by omega)
    obtain ⟨c0, c12⟩ := hR.2.1.2.2.1 a q.1 (by omega)
    have e : qb_110 a b X J f = (if b = 0 then f (3 * a) else if f (3 * a) = 0 then -1 else if b = 1 then f (3 * a + 1) else if b = 2 then f (3 * a + 2) else X.1 (mn_np J f a)) := if_pos ⟨q, q2⟩
    refine ⟨fun y0 => fl_242 ?_, fun y0 => fl_242 (qu_to (h _) ?_)⟩
    · rw [c0]
      intro _
      refine ⟨fun y => ⟨fun y1 => ⟨fun y2 => ?_, fun y2 => fl_256 (qu_to (h _) ?_)⟩, fun y1 => fl_255 (qu_to (h _) ?_)⟩, fun y => qu_to (h _) ?_⟩
      · have hz : 0 < f (3 * a) := by omega
        have at_ := gp_at gI q.1 (show a < 4 by omega) hz
        refine fl_263 hR.1 hF.1.1 hR.2.1 hX.1 hX.2 q.1 (by omega) y at_.1 at_.2 (np_S hF.1.1 hF.1.2.2.1 sz at_.1) (fun v t _ hv => qu_to (h t) ?_)
        rw [e, if_neg y0, if_neg y, if_neg y1, if_neg y2, hv]
      · rw [e, if_neg y0, if_neg y, if_neg y1, if_pos (Classical.not_not.mp y2), (c12 y).2]
      · rw [e, if_neg y0, if_neg y, if_pos (Classical.not_not.mp y1), (c12 y).1]
      · rw [e, if_neg y0, if_pos (Classical.not_not.mp y)]
    · rw [e, if_pos (Classical.not_not.mp y0), c0]
  · refine qu_to (h _) ?_
    unfold qb_110
    rw [if_neg (fun y => bd_f q2 y.2)]
def qb_115 (a w : Int) : qb_T := fun X J f => if ((0 ≤ a ∧ a ≤ 3) ∧ 0 < f (3 * a)) ∧ (0 ≤ w ∧ w < J 1 1) ∧ J 6 w = 0 ∧ 0 ≤ mn_ac J w (f (3 * a + 1)) then (if bt_t (f 36) w = true then 0 else X.2 (mn_nt J f (f (3 * a)) (f (3 * a + 1)) (f (3 * a + 2)) w)) else -1
theorem ac_B (hW : mn_W J) (w0 : 0 ≤ w) (w1 : w < J 1 1) : mn_ac J w a = -1 ∨ (0 ≤ mn_ac J w a ∧ mn_at J a w.toNat = true) := by
  have m := hW.2.2.2.1 w w0 w1
  by_cases c1 : J 4 w = a
  · refine Or.inr ⟨?_, mn_atE.mpr (Or.inl (by rw [show ((w.toNat : Nat) : Int) = w by omega]; exact c1))⟩
    have : mn_ac J w a = J 5 w := if_pos c1
    omega
  · by_cases c2 : J 5 w = a
    · refine Or.inr ⟨?_, mn_atE.mpr (Or.inr (by rw [show ((w.toNat : Nat) : Int) = w by omega]; exact c2))⟩
      have : mn_ac J w a = J 4 w := (if_neg c1).trans (if_pos c2)
      omega
    · exact Or.inl ((if_neg c1).trans (if_neg c2))
theorem gq_115 {Q : Int → lf_Z → Prop} (hF : gf_T s.1 f H) (hC : gc_T s.1 f H) (hX : gx_Xc X I s) (h : ∀ t : lf_Z, Q (qb_115 a w X s.1 f) t) : fw_115 a w Q s := by
  have no : ¬ (((0 ≤ a ∧ a ≤ 3) ∧ 0 < f (3 * a)) ∧ (0 ≤ w ∧ w < s.1 1 1) ∧ s.1 6 w = 0 ∧ 0 ≤ mn_ac s.1 w (f (3 * a + 1))) → ∀ t : lf_Z, Q (-1) t := fun y t => qu_to (h t) (if_neg y)
  unfold fw_115
  refine fl_80 ⟨fun q => no (fun y => ?_) s, fun q => fl_89 ⟨fun q2 _ => ?_, fun q2 => no (fun y => ?_) s⟩⟩
  · have c := (hC.1.1 a y.1.1.1 (by have := y.1.1.2; omega)).1
    rw [decide_eq_true y.1.1.1, decide_eq_true (show a < 4 by have := y.1.1.2; omega), decide_eq_true (show 0 < s.1 16 a by rw [c]; exact y.1.2)] at q
    cases q
  · rw [Bool.and_eq_true, decide_eq_true_eq] at q q2
    have qa := bd_t q.1
    have qw := bd_t q2.1
    obtain ⟨c0, c1, c2⟩ := hC.1.1 a qa.1 qa.2
    have hz : 0 < f (3 * a) := by have := q.2; omega
    have gI := hF.2.1.1
    have sz := gp_sz gI qa.1 qa.2
    have at_ := gp_at gI qa.1 qa.2 hz
    have w1 := hF.1.1.2.1
    rw [c1]
    refine fl_78 ?_
    rw [if_pos qw]
    intro _
    refine ⟨fun ne => fl_90 qw.1 (by omega) ⟨fun y _ => ?_, fun y => qu_to (h _) ?_⟩, fun y => no (fun y2 => ?_) s⟩
    · have ac : 0 ≤ mn_ac s.1 w (f (3 * a + 1)) := by
        rcases ac_B (a := f (3 * a + 1)) hF.1.1 qw.1 qw.2 with e | e
        · exact absurd e ne
        · exact e.1
      have e : qb_115 a w X s.1 f = X.2 (mn_nt s.1 f (f (3 * a)) (f (3 * a + 1)) (f (3 * a + 2)) w) := by
        unfold qb_115
        rw [if_pos ⟨⟨⟨qa.1, by omega⟩, hz⟩, qw, q2.2, ac⟩, if_neg]
        rw [hC.1.2.2.2.1] at y
        intro y2
        rw [y2] at y
        cases y
      have go : ∀ bk : Int, bk = (if mn_ac s.1 w (f (3 * a + 1)) = f (3 * a + 2) then 1 else 0) → fw_115_p80 Q a w bk s := fun bk hb => by
        unfold fw_115_p80
        intro _
        rw [c0, c1]
        refine fl_91 (J := s.1) (fun _ _ => rfl) hF.1.1 hF.1.2.1 hF.1.2.2.1 hC.1 hX.1 hX.2 at_.1 qw.1 qw.2 (by decide) (ng_S hF.1.1 hF.1.2.1 hF.1.2.2.1 at_.1 qw.1 qw.2 (by unfold cm_sm; omega) (by rw [hb]; unfold cm_sm; split <;> omega) (by decide) (by decide)) ac (fun v t _ hv => qu_to (h t) ?_)
        rw [e, hv, hb, mn_ngt]
      rw [c2]
      exact ⟨fun y2 => go 0 (if_neg (fun q => y2 q.symm)).symm, fun y2 => go 1 (if_pos (Classical.not_not.mp y2).symm).symm⟩
    · have ac : 0 ≤ mn_ac s.1 w (f (3 * a + 1)) := by
        rcases ac_B (a := f (3 * a + 1)) hF.1.1 qw.1 qw.2 with e | e
        · exact absurd e ne
        · exact e.1
      unfold qb_115
      rw [if_pos ⟨⟨⟨qa.1, by omega⟩, hz⟩, qw, q2.2, ac⟩, if_pos]
      rw [hC.1.2.2.2.1] at y
      cases q9 : bt_t (f 36) w with
      | true => rfl
      | false => rw [q9] at y; cases y
    · have := Classical.not_not.mp y
      have := y2.2.2.2
      omega
  · rw [decide_eq_true y.2.1.1, decide_eq_true y.2.1.2, decide_eq_true y.2.2.1] at q2
    cases q2
theorem gq_288 {Q : Int → lf_Z → Prop} (hF : gf_T J f H) (hR : gr_T sv J f H (s.1 96)) (hX : gx_Xr X T s) (h : ∀ t : lf_Z, Q (qb_115 a w X J f) t) : fw_288 a w Q s := by
  have no : ¬ (((0 ≤ a ∧ a ≤ 3) ∧ 0 < f (3 * a)) ∧ (0 ≤ w ∧ w < J 1 1) ∧ J 6 w = 0 ∧ 0 ≤ mn_ac J w (f (3 * a + 1))) → ∀ t : lf_Z, Q (-1) t := fun y t => qu_to (h t) (if_neg y)
  have e1 : s.1 96 1 = J 1 1 := hR.1.2.1
  have w1 := hF.1.1.2.1
  unfold fw_288 fw_254
  refine fl_183 ⟨fun q => ⟨fun _ => no (fun y => bd_f q y.1.1) s, (fun q' => by cases q')⟩, fun q => fl_242 ?_⟩
  have qa := bd_t q
  obtain ⟨c0, c12⟩ := hR.2.1.2.2.1 a qa.1 (by omega)
  rw [c0]
  intro _
  refine ⟨fun q2 => ⟨fun _ => no (fun y => by have := y.1.2; omega) s, (fun q' => by cases q')⟩, fun q2 => ⟨(fun q' => by cases q'), fun _ => ?_⟩⟩
  have hz : 0 < f (3 * a) := by omega
  have gI := hF.2.1.1
  have sz := gp_sz gI qa.1 (show a < 4 by omega)
  have at_ := gp_at gI qa.1 (show a < 4 by omega) hz
  obtain ⟨p1, p2⟩ := c12 (by omega)
  unfold fw_251
  refine fl_183 ⟨fun q3 => no (fun y => bd_f q3 ⟨y.2.1.1, by have := y.2.1.2; omega⟩) s, fun q3 => ?_⟩
  have qw := bd_t q3
  have qw1 : w < J 1 1 := by omega
  refine fl_252 hR.1 qw.1 qw1 ⟨fun q4 => no (fun y => by have := of_decide_eq_true q4; have := y.2.2.1; omega) s, fun q4 => fl_255 ?_⟩
  have q6 : J 6 w = 0 := by
    have := of_decide_eq_false q4
    have := hF.1.2.1.1 w
    omega
  rw [p1]
  refine fl_187 hR.1 qw.1 qw1 ?_
  intro _
  refine ⟨fun ac => fl_242 (fl_255 (fl_256 ?_)), fun ac => no (fun y => ac y.2.2.2) s⟩
  rw [c0, p1, p2]
  obtain ⟨hT, h29, h31, h30, h30'⟩ := hX.2
  have b29 : ∀ k : Int, bt_t (s.1 95 29) k = false := fun k => by rw [h29]; exact bt_t0
  have b31 : bt_t (s.1 95 31) w = false := by rw [h31]; exact bt_t0
  refine fl_273 hR.1 hF.1.1 hF.1.2.1 hF.1.2.2.1 hR.2.1 hX.1 hT at_.1 qw.1 qw1 ⟨h30, h30'⟩ ?_ (fun v t _ hv => qu_to (h t) ?_)
  · refine ng_S hF.1.1 hF.1.2.1 hF.1.2.2.1 at_.1 qw.1 qw1 (by unfold cm_sm; omega) (by unfold cm_sm; split <;> omega) (by split <;> omega) (by split <;> omega)
  · have atT : mn_at J (f (3 * a + 1)) w.toNat = true := by
      rcases ac_B (a := f (3 * a + 1)) hF.1.1 qw.1 qw1 with e | e
      · omega
      · exact e.2
    rw [b29, b29, b31, atT, if_neg (show ¬ (false = true) by decide), if_neg (show ¬ (false = true) by decide), mn_ngt] at hv
    unfold qb_115
    rw [if_pos ⟨⟨qa, hz⟩, ⟨qw.1, qw1⟩, q6, ac⟩, hv]
    by_cases y : bt_t (f 36) w = true
    · rw [if_pos y, if_pos (Or.inr (Or.inr (Or.inl y)))]
    · rw [if_neg y, if_neg]
      intro m
      rcases m with m | m | m | m
      · cases m
      · exact m q6
      · exact y m
      · cases m
end QB
/-! within the law -/
section QM
variable {s : lf_Z} {a1 a2 : Int} {Q : Int → lf_Z → Prop} {p : Int → Prop}
def gx_S110 (a1 a2 : Int) (r : Int) (I : Nat → Int → Int) (P : Nat → Option Nat) : Prop := gx_B (qb_110 a1 a2) r I P
def gx_R110 (a1 a2 : Int) (p : Int → Prop) (I : Nat → Int → Int) (P : Nat → Option Nat) : Prop := gx_MP (gx_S110 a1 a2) p I P
theorem gx_110 (hI : iv_A s.1 s.2.2) (ba1 : (-2147483648) ≤ a1 ∧ a1 ≤ 2147483647) (ba2 : (-2147483648) ≤ a2 ∧ a2 ≤ 2147483647) (hA : gx_A s.1 s.2.2) (hQ : ∀ (r : Int) (s' : lf_Z), iv_A s'.1 s'.2.2 → lf_fq [63, 64, 65, 66] 1000000 true s.1 s.2.2 s'.1 s'.2.2 → gx_S110 a1 a2 r s'.1 s'.2.2 → ((-2147483648) ≤ r ∧ r ≤ 2147483647) → Q r s') : fm_110 a1 a2 Q s := by
  have hA' := hA
  obtain ⟨⟨f, H, hF, hC, hR⟩, hD⟩ := hA'
  obtain ⟨X, hB, hX, hXr⟩ := gx_X hD.2.2.1 hD.2.2.2.1.2.2.2.1 hD.2.2.2.2.2.2.2
  refine cj_110 (Q1 := fun r s' => iv_A s'.1 s'.2.2 ∧ lf_fq [63, 64, 65, 66] 1000000 true s.1 s.2.2 s'.1 s'.2.2 ∧ ((-2147483648) ≤ r ∧ r ≤ 2147483647)) (Q2 := fun r t => r = qb_110 a1 a2 X s.1 f) (fun r s' h1 h2 => hQ r s' h1.1 h1.2.1 ⟨⟨X, s.1, f, H, hB, ?_, hF, ?_, h2⟩, gx_fq hA h1.2.1 rfl⟩ h1.2.2) (sm_110 hI ba1 ba2 (fun r s' h1 h2 h3 => ⟨h1, h2, h3⟩)) (gq_110 hF hC hX (fun _ => rfl))
  · rw [h1.2.1.1 98 rfl, h1.2.1.1 96 rfl]; exact hXr.1
  · rw [h1.2.1.1 28 rfl, h1.2.1.1 96 rfl]; exact hR
theorem gx_284 (hI : iv_A s.1 s.2.2) (ba1 : (-2147483648) ≤ a1 ∧ a1 ≤ 2147483647) (ba2 : (-2147483648) ≤ a2 ∧ a2 ≤ 2147483647) (hM : gx_R110 a1 a2 p s.1 s.2.2) (hQ : ∀ (r : Int) (s' : lf_Z), iv_A s'.1 s'.2.2 → lf_fq [104, 107] 1000000 true s.1 s.2.2 s'.1 s'.2.2 → (gx_p p r ∧ gx_A s'.1 s'.2.2) → ((-2) ≤ r ∧ r ≤ 100) → Q r s') : fm_284 a1 a2 Q s := by
  obtain ⟨r0, hp, ⟨X, J, f, H, hB, hXr, hF, hR, e⟩, hA⟩ := hM
  have h9 := hA.2.2.2.2.2.2.2.2
  exact cj_284 (Q1 := fun r s' => iv_A s'.1 s'.2.2 ∧ lf_fq [104, 107] 1000000 true s.1 s.2.2 s'.1 s'.2.2 ∧ ((-2) ≤ r ∧ r ≤ 100)) (Q2 := fun r t => r = r0) (fun r s' h1 h2 => hQ r s' h1.1 h1.2.1 ⟨h2 ▸ hp, gx_fq hA h1.2.1 rfl⟩ h1.2.2) (sm_284 hI ba1 ba2 (fun r s' h1 h2 h3 => ⟨h1, h2, h3⟩)) (gq_284 hF hR ⟨hXr, rfl, h9.1, h9.2.1, h9.2.2.1, h9.2.2.2⟩ (fun _ => e.symm))
def gx_S115 (a1 a2 : Int) (r : Int) (I : Nat → Int → Int) (P : Nat → Option Nat) : Prop := gx_B (qb_115 a1 a2) r I P
def gx_R115 (a1 a2 : Int) (p : Int → Prop) (I : Nat → Int → Int) (P : Nat → Option Nat) : Prop := gx_MP (gx_S115 a1 a2) p I P
theorem gx_115 (hI : iv_A s.1 s.2.2) (ba1 : (-2147483648) ≤ a1 ∧ a1 ≤ 2147483647) (ba2 : (-2147483648) ≤ a2 ∧ a2 ≤ 2147483647) (hA : gx_A s.1 s.2.2) (hQ : ∀ (r : Int) (s' : lf_Z), iv_A s'.1 s'.2.2 → lf_fq [63, 64, 65, 66] 1000000 true s.1 s.2.2 s'.1 s'.2.2 → gx_S115 a1 a2 r s'.1 s'.2.2 → ((-1) ≤ r ∧ r ≤ 1000000) → Q r s') : fm_115 a1 a2 Q s := by
  have hA' := hA
  obtain ⟨⟨f, H, hF, hC, hR⟩, hD⟩ := hA'
  obtain ⟨X, hB, hX, hXr⟩ := gx_X hD.2.2.1 hD.2.2.2.1.2.2.2.1 hD.2.2.2.2.2.2.2
  refine cj_115 (Q1 := fun r s' => iv_A s'.1 s'.2.2 ∧ lf_fq [63, 64, 65, 66] 1000000 true s.1 s.2.2 s'.1 s'.2.2 ∧ ((-1) ≤ r ∧ r ≤ 1000000)) (Q2 := fun r t => r = qb_115 a1 a2 X s.1 f) (fun r s' h1 h2 => hQ r s' h1.1 h1.2.1 ⟨⟨X, s.1, f, H, hB, ?_, hF, ?_, h2⟩, gx_fq hA h1.2.1 rfl⟩ h1.2.2) (sm_115 hI ba1 ba2 (fun r s' h1 h2 h3 => ⟨h1, h2, h3⟩)) (gq_115 hF hC hX (fun _ => rfl))
  · rw [h1.2.1.1 98 rfl, h1.2.1.1 96 rfl]; exact hXr.1
  · rw [h1.2.1.1 28 rfl, h1.2.1.1 96 rfl]; exact hR
theorem gx_288 (hI : iv_A s.1 s.2.2) (ba1 : (-2147483648) ≤ a1 ∧ a1 ≤ 2147483647) (ba2 : (-2147483648) ≤ a2 ∧ a2 ≤ 2147483647) (hM : gx_R115 a1 a2 p s.1 s.2.2) (hQ : ∀ (r : Int) (s' : lf_Z), iv_A s'.1 s'.2.2 → lf_fq [104, 107] 1000000 true s.1 s.2.2 s'.1 s'.2.2 → (gx_p p r ∧ gx_A s'.1 s'.2.2) → ((-1) ≤ r ∧ r ≤ 100) → Q r s') : fm_288 a1 a2 Q s := by
  obtain ⟨r0, hp, ⟨X, J, f, H, hB, hXr, hF, hR, e⟩, hA⟩ := hM
  have h9 := hA.2.2.2.2.2.2.2.2
  exact cj_288 (Q1 := fun r s' => iv_A s'.1 s'.2.2 ∧ lf_fq [104, 107] 1000000 true s.1 s.2.2 s'.1 s'.2.2 ∧ ((-1) ≤ r ∧ r ≤ 100)) (Q2 := fun r t => r = r0) (fun r s' h1 h2 => hQ r s' h1.1 h1.2.1 ⟨h2 ▸ hp, gx_fq hA h1.2.1 rfl⟩ h1.2.2) (sm_288 hI ba1 ba2 (fun r s' h1 h2 h3 => ⟨h1, h2, h3⟩)) (gq_288 hF hR ⟨hXr, rfl, h9.1, h9.2.1, h9.2.2.1, h9.2.2.2⟩ (fun _ => e.symm))
end QM
def fw_135 (a1 : Int) (a2 : Int) (a3 : Int) (Q : Int → lf_Z → Prop) (s : lf_Z) : Prop := fw_75 a2 a3 (fun r22 s21 => (lf_R r22 → ((1000 ≤ r22 → (Q (-1) s21)) ∧ (¬ (1000 ≤ r22) → (fw_99 a1 (fun z25 s24 => ((z25 = true → ((0 ≤ a1 ∧ a1 < 6) → (lf_R (s24.1 8 a1) → ((s24.1 8 a1 = 0 → (Q r22 s24)) ∧ (¬ (s24.1 8 a1 = 0) → (lf_R (r22 + 1) → (Q ((r22 + 1).tdiv 2) s24))))))) ∧ (z25 = false → (Q (-1) s24)))) s21))))) s
theorem cj_135 {Q1 Q2 Q3 : Int → lf_Z → Prop} {a1 : Int} {a2 : Int} {a3 : Int} {s : lf_Z} (hQ : ∀ (r : Int) (s : lf_Z), Q1 r s → Q2 r s → Q3 r s) (h1 : fm_135 a1 a2 a3 Q1 s) (h2 : fw_135 a1 a2 a3 Q2 s) : fm_135 a1 a2 a3 Q3 s := by
  unfold fm_135 at h1 ⊢
  unfold fw_135 at h2
  exact cj_75 (fun r22 s21 k1 l1 => ⟨k1.1, ⟨(fun c3 => hQ _ _  (k1.2.1 c3) ((l1 k1.1).1 c3)), (fun c3 => cj_99 (fun z25 s24 k5 l5 => ⟨(fun c6 => ⟨(k5.1 c6).1, ⟨(k5.1 c6).2.1, ⟨(fun c9 => hQ _ _  ((k5.1 c6).2.2.1 c9) ((((l5.1 c6) (k5.1 c6).1) (k5.1 c6).2.1).1 c9)), (fun c9 => ⟨((k5.1 c6).2.2.2 c9).1, hQ _ _  ((k5.1 c6).2.2.2 c9).2 (((((l5.1 c6) (k5.1 c6).1) (k5.1 c6).2.1).2 c9) ((k5.1 c6).2.2.2 c9).1)⟩)⟩⟩⟩), (fun c6 => hQ _ _  (k5.2 c6) (l5.2 c6))⟩) (k1.2.2 c3) ((l1 k1.1).2 c3))⟩⟩) h1 h2
def fw_134 (a1 : Int) (a2 : Int) (Q : Int → lf_Z → Prop) (s : lf_Z) : Prop := fw_99 a1 (fun z22 s21 => ((z22 = false → (Q (-1) s21)) ∧ (z22 = true → (fw_18 a2 (fun z24 s23 => ((z24 = true → ((0 ≤ a1 ∧ a1 < 6) → (fw_135 a1 (s23.1 19 a1) a2 (fun r27 s26 => (Q r27 s26)) s23))) ∧ (z24 = false → (Q (-1) s23)))) s21)))) s
theorem cj_134 {Q1 Q2 Q3 : Int → lf_Z → Prop} {a1 : Int} {a2 : Int} {s : lf_Z} (hQ : ∀ (r : Int) (s : lf_Z), Q1 r s → Q2 r s → Q3 r s) (h1 : fm_134 a1 a2 Q1 s) (h2 : fw_134 a1 a2 Q2 s) : fm_134 a1 a2 Q3 s := by
  unfold fm_134 at h1 ⊢
  unfold fw_134 at h2
  exact cj_99 (fun z22 s21 k1 l1 => ⟨(fun c2 => hQ _ _  (k1.1 c2) (l1.1 c2)), (fun c2 => cj_18 (fun z24 s23 k4 l4 => ⟨(fun c5 => ⟨(k4.1 c5).1, cj_135 (fun r27 s26 k7 l7 => hQ _ _  k7 l7) (k4.1 c5).2 ((l4.1 c5) (k4.1 c5).1)⟩), (fun c5 => hQ _ _  (k4.2 c5) (l4.2 c5))⟩) (k1.2 c2) (l1.2 c2))⟩) h1 h2
def fw_299 (a1 : Int) (a2 : Int) (Q : Int → lf_Z → Prop) (s : lf_Z) : Prop := (0 ≤ a2 ∧ a2 < 12) → (lf_R (s.1 108 a2) → ((s.1 108 a2 < 1000 → (fw_239d a1 (fun r24 s23 => (lf_R r24 → ((r24 ≠ 1 → (Q (s23.1 108 a2) s23)) ∧ (¬ (r24 ≠ 1) → (lf_R ((s23.1 108 a2) + 1) → (Q (((s23.1 108 a2) + 1).tdiv 2) s23)))))) s)) ∧ (¬ (s.1 108 a2 < 1000) → (Q 1000 s))))
theorem cj_299 {Q1 Q2 Q3 : Int → lf_Z → Prop} {a1 : Int} {a2 : Int} {s : lf_Z} (hQ : ∀ (r : Int) (s : lf_Z), Q1 r s → Q2 r s → Q3 r s) (h1 : fm_299 a1 a2 Q1 s) (h2 : fw_299 a1 a2 Q2 s) : fm_299 a1 a2 Q3 s := by
  unfold fm_299 at h1 ⊢
  unfold fw_299 at h2
  exact ⟨h1.1, ⟨h1.2.1, ⟨(fun c3 => cj_239d (fun r24 s23 k4 l4 => ⟨k4.1, ⟨(fun c6 => hQ _ _  (k4.2.1 c6) ((l4 k4.1).1 c6)), (fun c6 => ⟨(k4.2.2 c6).1, hQ _ _  (k4.2.2 c6).2 (((l4 k4.1).2 c6) (k4.2.2 c6).1)⟩)⟩⟩) (h1.2.2.1 c3) (((h2 h1.1) h1.2.1).1 c3)), (fun c3 => hQ _ _  (h1.2.2.2 c3) (((h2 h1.1) h1.2.1).2 c3))⟩⟩⟩
def fw_298 (a1 : Int) (a2 : Int) (Q : Int → lf_Z → Prop) (s : lf_Z) : Prop := fw_249 a1 (fun z22 s21 => ((z22 = false → (Q (-1) s21)) ∧ (z22 = true → (fw_185 a2 (fun z24 s23 => ((z24 = true → (fw_261 a2 1 (fun s25 => (fw_239 a1 (fun r27 s26 => (fw_299 a1 r27 (fun r29 s28 => (lf_R r29 → ((r29 < 1000 → (Q r29 s28)) ∧ (¬ (r29 < 1000) → (Q (-1) s28))))) s26)) s25)) s23)) ∧ (z24 = false → (Q (-1) s23)))) s21)))) s
theorem cj_298 {Q1 Q2 Q3 : Int → lf_Z → Prop} {a1 : Int} {a2 : Int} {s : lf_Z} (hQ : ∀ (r : Int) (s : lf_Z), Q1 r s → Q2 r s → Q3 r s) (h1 : fm_298 a1 a2 Q1 s) (h2 : fw_298 a1 a2 Q2 s) : fm_298 a1 a2 Q3 s := by
  unfold fm_298 at h1 ⊢
  unfold fw_298 at h2
  exact cj_249 (fun z22 s21 k1 l1 => ⟨(fun c2 => hQ _ _  (k1.1 c2) (l1.1 c2)), (fun c2 => cj_185 (fun z24 s23 k4 l4 => ⟨(fun c5 => cj_261 (fun s25 k6 l6 => cj_239 (fun r27 s26 k7 l7 => cj_299 (fun r29 s28 k8 l8 => ⟨k8.1, ⟨(fun c10 => hQ _ _  (k8.2.1 c10) ((l8 k8.1).1 c10)), (fun c10 => hQ _ _  (k8.2.2 c10) ((l8 k8.1).2 c10))⟩⟩) k7 l7) k6 l6) (k4.1 c5) (l4.1 c5)), (fun c5 => hQ _ _  (k4.2 c5) (l4.2 c5))⟩) (k1.2 c2) (l1.2 c2))⟩) h1 h2
def fw_2_p9 (Q : lf_Z → Prop) (X9 : Int → lf_Z → Prop) (x1 : Int) (s : lf_Z) : Prop := lf_R x1 → ((12 ≤ x1 → (Q s)) ∧ (¬ (12 ≤ x1) → ((0 ≤ (x1 * 12) + x1 ∧ (x1 * 12) + x1 < 144) → (X9 (x1 + 1) (lf_up s.1 14 ((x1 * 12) + x1) 0, s.2.1, s.2.2)))))
theorem cj_2_p9 {X91 X92 X93 : Int → lf_Z → Prop} {Q1 Q2 Q3 : lf_Z → Prop} {x1 : Int} {s : lf_Z} (hX9 : ∀ (v0 : Int) (v1 : lf_Z), X91 v0 v1 → X92 v0 v1 → X93 v0 v1) (hQ : ∀ (s : lf_Z), Q1 s → Q2 s → Q3 s) (h1 : fm_2_p9 Q1 X91 x1 s) (h2 : fw_2_p9 Q2 X92 x1 s) : fm_2_p9 Q3 X93 x1 s := by
  unfold fm_2_p9 at h1 ⊢
  unfold fw_2_p9 at h2
  exact ⟨h1.1, ⟨(fun c2 => hQ _  (h1.2.1 c2) ((h2 h1.1).1 c2)), (fun c2 => ⟨(h1.2.2 c2).1, hX9 _ _  (h1.2.2 c2).2 (((h2 h1.1).2 c2) (h1.2.2 c2).1)⟩)⟩⟩
def fw_2_p9L (Q : lf_Z → Prop) (x1 : Int) (s : lf_Z) : Prop := ∃ X9 : Int → lf_Z → Prop, (∀ (x1 : Int) (s : lf_Z), X9 x1 s → fw_2_p9 Q X9 x1 s) ∧ X9 x1 s
theorem cj_2_p9L {Q1 Q2 Q3 : lf_Z → Prop} {x1 : Int} {s : lf_Z} (hQ : ∀ (s : lf_Z), Q1 s → Q2 s → Q3 s) (h1 : fm_2_p9L Q1 x1 s) (h2 : fw_2_p9L Q2 x1 s) : fm_2_p9L Q3 x1 s := by
  intro X0 hX0
  obtain ⟨Y, hY, hY0⟩ := h2
  exact h1 (fun v0 s => Y v0 s → X0 v0 s) (fun v0 s hb hy => hX0 v0 s (cj_2_p9 (X91 := fun v0 s => Y v0 s → X0 v0 s) (X92 := Y) (X93 := X0) (hX9 := fun v0 s a b => a b) hQ hb (hY v0 s hy))) hY0
def fw_2 (Q : lf_Z → Prop) (s : lf_Z) : Prop := fw_2_p9L Q 0 (lf_fl s.1 14 144 1000, s.2.1, s.2.2)
theorem cj_2 {Q1 Q2 Q3 : lf_Z → Prop} {s : lf_Z} (hQ : ∀ (s : lf_Z), Q1 s → Q2 s → Q3 s) (h1 : fm_2 Q1 s) (h2 : fw_2 Q2 s) : fm_2 Q3 s := by
  unfold fm_2 at h1 ⊢
  unfold fw_2 at h2
  exact cj_2_p9L hQ h1 h2
def fw_22b_p22 (X3 : Int → lf_Z → Prop) (Q : lf_Z → Prop) (x2 : Int) (x3 : Int) (x4 : Int) (x5 : Int) (X22 : Int → lf_Z → Prop) (x6 : Int) (s : lf_Z) : Prop := lf_R x6 → (lf_R (s.1 1 0) → ((s.1 1 0 ≤ x6 → (X3 (x4 + 1) s)) ∧ (¬ (s.1 1 0 ≤ x6) → ((0 ≤ x5 + x2 ∧ x5 + x2 < 144) → ((0 ≤ (x3 * 12) + x6 ∧ (x3 * 12) + x6 < 144) → ((0 ≤ x5 + x3 ∧ x5 + x3 < 144) → ((0 ≤ (x2 * 12) + x6 ∧ (x2 * 12) + x6 < 144) → ((0 ≤ x5 + x6 ∧ x5 + x6 < 144) → (lf_R (((s.1 14 (x5 + x2)) + 1) + (s.1 14 ((x3 * 12) + x6))) → (lf_R (((s.1 14 (x5 + x3)) + 1) + (s.1 14 ((x2 * 12) + x6))) → (lf_R (s.1 14 (x5 + x6)) → (lf_R (min (((s.1 14 (x5 + x2)) + 1) + (s.1 14 ((x3 * 12) + x6))) (((s.1 14 (x5 + x3)) + 1) + (s.1 14 ((x2 * 12) + x6)))) → (X22 (x6 + 1) (lf_up s.1 14 (x5 + x6) (min (s.1 14 (x5 + x6)) (min (((s.1 14 (x5 + x2)) + 1) + (s.1 14 ((x3 * 12) + x6))) (((s.1 14 (x5 + x3)) + 1) + (s.1 14 ((x2 * 12) + x6))))), s.2.1, s.2.2))))))))))))))
theorem cj_22b_p22 {X31 X32 X33 : Int → lf_Z → Prop} {X221 X222 X223 : Int → lf_Z → Prop} {Q1 Q2 Q3 : lf_Z → Prop} {x2 : Int} {x3 : Int} {x4 : Int} {x5 : Int} {x6 : Int} {s : lf_Z} (hX3 : ∀ (v0 : Int) (v1 : lf_Z), X31 v0 v1 → X32 v0 v1 → X33 v0 v1) (hX22 : ∀ (v0 : Int) (v1 : lf_Z), X221 v0 v1 → X222 v0 v1 → X223 v0 v1) (hQ : ∀ (s : lf_Z), Q1 s → Q2 s → Q3 s) (h1 : fm_22b_p22 X31 Q1 x2 x3 x4 x5 X221 x6 s) (h2 : fw_22b_p22 X32 Q2 x2 x3 x4 x5 X222 x6 s) : fm_22b_p22 X33 Q3 x2 x3 x4 x5 X223 x6 s := by
  unfold fm_22b_p22 at h1 ⊢
  unfold fw_22b_p22 at h2
  exact ⟨h1.1, ⟨h1.2.1, ⟨(fun c3 => hX3 _ _  (h1.2.2.1 c3) (((h2 h1.1) h1.2.1).1 c3)), (fun c3 => ⟨(h1.2.2.2 c3).1, ⟨(h1.2.2.2 c3).2.1, ⟨(h1.2.2.2 c3).2.2.1, ⟨(h1.2.2.2 c3).2.2.2.1, ⟨(h1.2.2.2 c3).2.2.2.2.1, ⟨(h1.2.2.2 c3).2.2.2.2.2.1, ⟨(h1.2.2.2 c3).2.2.2.2.2.2.1, ⟨(h1.2.2.2 c3).2.2.2.2.2.2.2.1, ⟨(h1.2.2.2 c3).2.2.2.2.2.2.2.2.1, hX22 _ _  (h1.2.2.2 c3).2.2.2.2.2.2.2.2.2 ((((((((((((h2 h1.1) h1.2.1).2 c3) (h1.2.2.2 c3).1) (h1.2.2.2 c3).2.1) (h1.2.2.2 c3).2.2.1) (h1.2.2.2 c3).2.2.2.1) (h1.2.2.2 c3).2.2.2.2.1) (h1.2.2.2 c3).2.2.2.2.2.1) (h1.2.2.2 c3).2.2.2.2.2.2.1) (h1.2.2.2 c3).2.2.2.2.2.2.2.1) (h1.2.2.2 c3).2.2.2.2.2.2.2.2.1)⟩⟩⟩⟩⟩⟩⟩⟩⟩)⟩⟩⟩
def fw_22b_p22L (X3 : Int → lf_Z → Prop) (Q : lf_Z → Prop) (x2 : Int) (x3 : Int) (x4 : Int) (x5 : Int) (x6 : Int) (s : lf_Z) : Prop := ∃ X22 : Int → lf_Z → Prop, (∀ (x6 : Int) (s : lf_Z), X22 x6 s → fw_22b_p22 X3 Q x2 x3 x4 x5 X22 x6 s) ∧ X22 x6 s
theorem cj_22b_p22L {X31 X32 X33 : Int → lf_Z → Prop} {Q1 Q2 Q3 : lf_Z → Prop} {x2 : Int} {x3 : Int} {x4 : Int} {x5 : Int} {x6 : Int} {s : lf_Z} (hX3 : ∀ (v0 : Int) (v1 : lf_Z), X31 v0 v1 → X32 v0 v1 → X33 v0 v1) (hQ : ∀ (s : lf_Z), Q1 s → Q2 s → Q3 s) (h1 : fm_22b_p22L X31 Q1 x2 x3 x4 x5 x6 s) (h2 : fw_22b_p22L X32 Q2 x2 x3 x4 x5 x6 s) : fm_22b_p22L X33 Q3 x2 x3 x4 x5 x6 s := by
  intro X0 hX0
  obtain ⟨Y, hY, hY0⟩ := h2
  exact h1 (fun v0 s => Y v0 s → X0 v0 s) (fun v0 s hb hy => hX0 v0 s (cj_22b_p22 (hX3 := hX3) (X221 := fun v0 s => Y v0 s → X0 v0 s) (X222 := Y) (X223 := X0) (hX22 := fun v0 s a b => a b) hQ hb (hY v0 s hy))) hY0
def fw_22b_p3 (Q : lf_Z → Prop) (x2 : Int) (x3 : Int) (X3 : Int → lf_Z → Prop) (x4 : Int) (s : lf_Z) : Prop := lf_R x4 → (lf_R (s.1 1 0) → ((s.1 1 0 ≤ x4 → (Q s)) ∧ (¬ (s.1 1 0 ≤ x4) → (fw_22b_p22L X3 Q x2 x3 x4 (x4 * 12) 0 s))))
theorem cj_22b_p3 {X31 X32 X33 : Int → lf_Z → Prop} {Q1 Q2 Q3 : lf_Z → Prop} {x2 : Int} {x3 : Int} {x4 : Int} {s : lf_Z} (hX3 : ∀ (v0 : Int) (v1 : lf_Z), X31 v0 v1 → X32 v0 v1 → X33 v0 v1) (hQ : ∀ (s : lf_Z), Q1 s → Q2 s → Q3 s) (h1 : fm_22b_p3 Q1 x2 x3 X31 x4 s) (h2 : fw_22b_p3 Q2 x2 x3 X32 x4 s) : fm_22b_p3 Q3 x2 x3 X33 x4 s := by
  unfold fm_22b_p3 at h1 ⊢
  unfold fw_22b_p3 at h2
  exact ⟨h1.1, ⟨h1.2.1, ⟨(fun c3 => hQ _  (h1.2.2.1 c3) (((h2 h1.1) h1.2.1).1 c3)), (fun c3 => cj_22b_p22L hX3 hQ (h1.2.2.2 c3) (((h2 h1.1) h1.2.1).2 c3))⟩⟩⟩
def fw_22b_p3L (Q : lf_Z → Prop) (x2 : Int) (x3 : Int) (x4 : Int) (s : lf_Z) : Prop := ∃ X3 : Int → lf_Z → Prop, (∀ (x4 : Int) (s : lf_Z), X3 x4 s → fw_22b_p3 Q x2 x3 X3 x4 s) ∧ X3 x4 s
theorem cj_22b_p3L {Q1 Q2 Q3 : lf_Z → Prop} {x2 : Int} {x3 : Int} {x4 : Int} {s : lf_Z} (hQ : ∀ (s : lf_Z), Q1 s → Q2 s → Q3 s) (h1 : fm_22b_p3L Q1 x2 x3 x4 s) (h2 : fw_22b_p3L Q2 x2 x3 x4 s) : fm_22b_p3L Q3 x2 x3 x4 s := by
  intro X0 hX0
  obtain ⟨Y, hY, hY0⟩ := h2
  exact h1 (fun v0 s => Y v0 s → X0 v0 s) (fun v0 s hb hy => hX0 v0 s (cj_22b_p3 (X31 := fun v0 s => Y v0 s → X0 v0 s) (X32 := Y) (X33 := X0) (hX3 := fun v0 s a b => a b) hQ hb (hY v0 s hy))) hY0
def fw_22b (a2 : Int) (a3 : Int) (Q : lf_Z → Prop) (s : lf_Z) : Prop := fw_22b_p3L Q a2 a3 0 s
theorem cj_22b {Q1 Q2 Q3 : lf_Z → Prop} {a2 : Int} {a3 : Int} {s : lf_Z} (hQ : ∀ (s : lf_Z), Q1 s → Q2 s → Q3 s) (h1 : fm_22b a2 a3 Q1 s) (h2 : fw_22b a2 a3 Q2 s) : fm_22b a2 a3 Q3 s := by
  unfold fm_22b at h1 ⊢
  unfold fw_22b at h2
  exact cj_22b_p3L hQ h1 h2
def fw_148_p46 (X9 : Int → lf_Z → Prop) (Q : lf_Z → Prop) (x1 : Int) (s : lf_Z) : Prop := X9 (x1 + 1) s
theorem cj_148_p46 {X91 X92 X93 : Int → lf_Z → Prop} {Q1 Q2 Q3 : lf_Z → Prop} {x1 : Int} {s : lf_Z} (hX9 : ∀ (v0 : Int) (v1 : lf_Z), X91 v0 v1 → X92 v0 v1 → X93 v0 v1) (hQ : ∀ (s : lf_Z), Q1 s → Q2 s → Q3 s) (h1 : fm_148_p46 X91 Q1 x1 s) (h2 : fw_148_p46 X92 Q2 x1 s) : fm_148_p46 X93 Q3 x1 s := by
  unfold fm_148_p46 at h1 ⊢
  unfold fw_148_p46 at h2
  exact hX9 _ _  h1 h2
def fw_148_p9 (Q : lf_Z → Prop) (X9 : Int → lf_Z → Prop) (x1 : Int) (s : lf_Z) : Prop := lf_R x1 → (lf_R (s.1 1 1) → ((s.1 1 1 ≤ x1 → (Q s)) ∧ (¬ (s.1 1 1 ≤ x1) → ((0 ≤ x1 ∧ x1 < 16) → (lf_R (s.1 6 x1) → ((s.1 6 x1 ≠ 0 → (fw_148_p46 X9 Q x1 s)) ∧ (¬ (s.1 6 x1 ≠ 0) → (fw_22b (s.1 4 x1) (s.1 5 x1) (fun s26 => (fw_148_p46 X9 Q x1 s26)) s))))))))
theorem cj_148_p9 {X91 X92 X93 : Int → lf_Z → Prop} {Q1 Q2 Q3 : lf_Z → Prop} {x1 : Int} {s : lf_Z} (hX9 : ∀ (v0 : Int) (v1 : lf_Z), X91 v0 v1 → X92 v0 v1 → X93 v0 v1) (hQ : ∀ (s : lf_Z), Q1 s → Q2 s → Q3 s) (h1 : fm_148_p9 Q1 X91 x1 s) (h2 : fw_148_p9 Q2 X92 x1 s) : fm_148_p9 Q3 X93 x1 s := by
  unfold fm_148_p9 at h1 ⊢
  unfold fw_148_p9 at h2
  exact ⟨h1.1, ⟨h1.2.1, ⟨(fun c3 => hQ _  (h1.2.2.1 c3) (((h2 h1.1) h1.2.1).1 c3)), (fun c3 => ⟨(h1.2.2.2 c3).1, ⟨(h1.2.2.2 c3).2.1, ⟨(fun c7 => cj_148_p46 hX9 hQ ((h1.2.2.2 c3).2.2.1 c7) ((((((h2 h1.1) h1.2.1).2 c3) (h1.2.2.2 c3).1) (h1.2.2.2 c3).2.1).1 c7)), (fun c7 => cj_22b (fun s26 k9 l9 => cj_148_p46 hX9 hQ k9 l9) ((h1.2.2.2 c3).2.2.2 c7) ((((((h2 h1.1) h1.2.1).2 c3) (h1.2.2.2 c3).1) (h1.2.2.2 c3).2.1).2 c7))⟩⟩⟩)⟩⟩⟩
def fw_148_p9L (Q : lf_Z → Prop) (x1 : Int) (s : lf_Z) : Prop := ∃ X9 : Int → lf_Z → Prop, (∀ (x1 : Int) (s : lf_Z), X9 x1 s → fw_148_p9 Q X9 x1 s) ∧ X9 x1 s
theorem cj_148_p9L {Q1 Q2 Q3 : lf_Z → Prop} {x1 : Int} {s : lf_Z} (hQ : ∀ (s : lf_Z), Q1 s → Q2 s → Q3 s) (h1 : fm_148_p9L Q1 x1 s) (h2 : fw_148_p9L Q2 x1 s) : fm_148_p9L Q3 x1 s := by
  intro X0 hX0
  obtain ⟨Y, hY, hY0⟩ := h2
  exact h1 (fun v0 s => Y v0 s → X0 v0 s) (fun v0 s hb hy => hX0 v0 s (cj_148_p9 (X91 := fun v0 s => Y v0 s → X0 v0 s) (X92 := Y) (X93 := X0) (hX9 := fun v0 s a b => a b) hQ hb (hY v0 s hy))) hY0
def fw_148 (Q : lf_Z → Prop) (s : lf_Z) : Prop := fw_2 (fun s21 => (fw_148_p9L Q 0 s21)) s
theorem cj_148 {Q1 Q2 Q3 : lf_Z → Prop} {s : lf_Z} (hQ : ∀ (s : lf_Z), Q1 s → Q2 s → Q3 s) (h1 : fm_148 Q1 s) (h2 : fw_148 Q2 s) : fm_148 Q3 s := by
  unfold fm_148 at h1 ⊢
  unfold fw_148 at h2
  exact cj_2 (fun s21 k1 l1 => cj_148_p9L hQ k1 l1) h1 h2
def fw_149_p51 (Q : Int → lf_Z → Prop) (x1 : Int) (x2 : Int) (y0 : Int) (s : lf_Z) : Prop := lf_R x2 → (lf_R y0 → ((x2 ≠ y0 → ((x2 = 0 → ((0 ≤ x1 ∧ x1 < 16) → (Q (s.1 4 x1) s))) ∧ (¬ (x2 = 0) → ((0 ≤ x1 ∧ x1 < 16) → (Q (s.1 5 x1) s))))) ∧ (¬ (x2 ≠ y0) → (Q (-1) s))))
theorem cj_149_p51 {Q1 Q2 Q3 : Int → lf_Z → Prop} {x1 : Int} {x2 : Int} {y0 : Int} {s : lf_Z} (hQ : ∀ (r : Int) (s : lf_Z), Q1 r s → Q2 r s → Q3 r s) (h1 : fm_149_p51 Q1 x1 x2 y0 s) (h2 : fw_149_p51 Q2 x1 x2 y0 s) : fm_149_p51 Q3 x1 x2 y0 s := by
  unfold fm_149_p51 at h1 ⊢
  unfold fw_149_p51 at h2
  exact ⟨h1.1, ⟨h1.2.1, ⟨(fun c3 => ⟨(fun c4 => ⟨((h1.2.2.1 c3).1 c4).1, hQ _ _  ((h1.2.2.1 c3).1 c4).2 (((((h2 h1.1) h1.2.1).1 c3).1 c4) ((h1.2.2.1 c3).1 c4).1)⟩), (fun c4 => ⟨((h1.2.2.1 c3).2 c4).1, hQ _ _  ((h1.2.2.1 c3).2 c4).2 (((((h2 h1.1) h1.2.1).1 c3).2 c4) ((h1.2.2.1 c3).2 c4).1)⟩)⟩), (fun c3 => hQ _ _  (h1.2.2.2 c3) (((h2 h1.1) h1.2.1).2 c3))⟩⟩⟩
def fw_149_p30 (Q : Int → lf_Z → Prop) (x1 : Int) (y0 : Int) (s : lf_Z) : Prop := (0 ≤ x1 ∧ x1 < 16) → ((0 ≤ s.1 5 x1 ∧ s.1 5 x1 < 12) → (lf_R (s.1 2 (s.1 5 x1)) → ((s.1 2 (s.1 5 x1) ≠ 3 → (fw_149_p51 Q x1 y0 0 s)) ∧ (¬ (s.1 2 (s.1 5 x1) ≠ 3) → (fw_149_p51 Q x1 y0 1 s)))))
theorem cj_149_p30 {Q1 Q2 Q3 : Int → lf_Z → Prop} {x1 : Int} {y0 : Int} {s : lf_Z} (hQ : ∀ (r : Int) (s : lf_Z), Q1 r s → Q2 r s → Q3 r s) (h1 : fm_149_p30 Q1 x1 y0 s) (h2 : fw_149_p30 Q2 x1 y0 s) : fm_149_p30 Q3 x1 y0 s := by
  unfold fm_149_p30 at h1 ⊢
  unfold fw_149_p30 at h2
  exact ⟨h1.1, ⟨h1.2.1, ⟨h1.2.2.1, ⟨(fun c4 => cj_149_p51 hQ (h1.2.2.2.1 c4) ((((h2 h1.1) h1.2.1) h1.2.2.1).1 c4)), (fun c4 => cj_149_p51 hQ (h1.2.2.2.2 c4) ((((h2 h1.1) h1.2.1) h1.2.2.1).2 c4))⟩⟩⟩⟩
def fw_149 (a1 : Int) (Q : Int → lf_Z → Prop) (s : lf_Z) : Prop := fw_89 a1 (fun z22 s21 => ((z22 = true → ((0 ≤ a1 ∧ a1 < 16) → ((0 ≤ s21.1 4 a1 ∧ s21.1 4 a1 < 12) → (lf_R (s21.1 2 (s21.1 4 a1)) → ((s21.1 2 (s21.1 4 a1) ≠ 3 → (fw_149_p30 Q a1 0 s21)) ∧ (¬ (s21.1 2 (s21.1 4 a1) ≠ 3) → (fw_149_p30 Q a1 1 s21))))))) ∧ (z22 = false → (Q (-1) s21)))) s
theorem cj_149 {Q1 Q2 Q3 : Int → lf_Z → Prop} {a1 : Int} {s : lf_Z} (hQ : ∀ (r : Int) (s : lf_Z), Q1 r s → Q2 r s → Q3 r s) (h1 : fm_149 a1 Q1 s) (h2 : fw_149 a1 Q2 s) : fm_149 a1 Q3 s := by
  unfold fm_149 at h1 ⊢
  unfold fw_149 at h2
  exact cj_89 (fun z22 s21 k1 l1 => ⟨(fun c2 => ⟨(k1.1 c2).1, ⟨(k1.1 c2).2.1, ⟨(k1.1 c2).2.2.1, ⟨(fun c6 => cj_149_p30 hQ ((k1.1 c2).2.2.2.1 c6) (((((l1.1 c2) (k1.1 c2).1) (k1.1 c2).2.1) (k1.1 c2).2.2.1).1 c6)), (fun c6 => cj_149_p30 hQ ((k1.1 c2).2.2.2.2 c6) (((((l1.1 c2) (k1.1 c2).1) (k1.1 c2).2.1) (k1.1 c2).2.2.1).2 c6))⟩⟩⟩⟩), (fun c2 => hQ _ _  (k1.2 c2) (l1.2 c2))⟩) h1 h2
def fw_151 (a1 : Int) (a2 : Int) (Q : Int → lf_Z → Prop) (s : lf_Z) : Prop := fw_18 a1 (fun z22 s21 => ((z22 = false → (Q 1000 s21)) ∧ (z22 = true → (fw_18 a2 (fun z24 s23 => ((z24 = false → (Q 1000 s23)) ∧ (z24 = true → ((0 ≤ (a1 * 12) + a2 ∧ (a1 * 12) + a2 < 144) → (Q (s23.1 14 ((a1 * 12) + a2)) s23))))) s21)))) s
theorem cj_151 {Q1 Q2 Q3 : Int → lf_Z → Prop} {a1 : Int} {a2 : Int} {s : lf_Z} (hQ : ∀ (r : Int) (s : lf_Z), Q1 r s → Q2 r s → Q3 r s) (h1 : fm_151 a1 a2 Q1 s) (h2 : fw_151 a1 a2 Q2 s) : fm_151 a1 a2 Q3 s := by
  unfold fm_151 at h1 ⊢
  unfold fw_151 at h2
  exact cj_18 (fun z22 s21 k1 l1 => ⟨(fun c2 => hQ _ _  (k1.1 c2) (l1.1 c2)), (fun c2 => cj_18 (fun z24 s23 k4 l4 => ⟨(fun c5 => hQ _ _  (k4.1 c5) (l4.1 c5)), (fun c5 => ⟨(k4.2 c5).1, hQ _ _  (k4.2 c5).2 ((l4.2 c5) (k4.2 c5).1)⟩)⟩) (k1.2 c2) (l1.2 c2))⟩) h1 h2
def fw_150_p2 (Q : Bool → lf_Z → Prop) (x1 : Int) (X2 : Int → lf_Z → Prop) (x3 : Int) (s : lf_Z) : Prop := lf_R x3 → (lf_R (s.1 25 2) → ((s.1 25 2 ≤ x3 → (Q true s)) ∧ (¬ (s.1 25 2 ≤ x3) → ((0 ≤ x3 ∧ x3 < 6) → (fw_151 x1 (s.1 26 x3) (fun r25 s24 => (lf_R r25 → (lf_R (s24.1 27 x3) → ((r25 ≤ s24.1 27 x3 → (X2 (x3 + 1) s24)) ∧ (¬ (r25 ≤ s24.1 27 x3) → (Q false s24)))))) s)))))
theorem cj_150_p2 {X21 X22 X23 : Int → lf_Z → Prop} {Q1 Q2 Q3 : Bool → lf_Z → Prop} {x1 : Int} {x3 : Int} {s : lf_Z} (hX2 : ∀ (v0 : Int) (v1 : lf_Z), X21 v0 v1 → X22 v0 v1 → X23 v0 v1) (hQ : ∀ (r : Bool) (s : lf_Z), Q1 r s → Q2 r s → Q3 r s) (h1 : fm_150_p2 Q1 x1 X21 x3 s) (h2 : fw_150_p2 Q2 x1 X22 x3 s) : fm_150_p2 Q3 x1 X23 x3 s := by
  unfold fm_150_p2 at h1 ⊢
  unfold fw_150_p2 at h2
  exact ⟨h1.1, ⟨h1.2.1, ⟨(fun c3 => hQ _ _  (h1.2.2.1 c3) (((h2 h1.1) h1.2.1).1 c3)), (fun c3 => ⟨(h1.2.2.2 c3).1, cj_151 (fun r25 s24 k6 l6 => ⟨k6.1, ⟨k6.2.1, ⟨(fun c9 => hX2 _ _  (k6.2.2.1 c9) (((l6 k6.1) k6.2.1).1 c9)), (fun c9 => hQ _ _  (k6.2.2.2 c9) (((l6 k6.1) k6.2.1).2 c9))⟩⟩⟩) (h1.2.2.2 c3).2 ((((h2 h1.1) h1.2.1).2 c3) (h1.2.2.2 c3).1)⟩)⟩⟩⟩
def fw_150_p2L (Q : Bool → lf_Z → Prop) (x1 : Int) (x3 : Int) (s : lf_Z) : Prop := ∃ X2 : Int → lf_Z → Prop, (∀ (x3 : Int) (s : lf_Z), X2 x3 s → fw_150_p2 Q x1 X2 x3 s) ∧ X2 x3 s
theorem cj_150_p2L {Q1 Q2 Q3 : Bool → lf_Z → Prop} {x1 : Int} {x3 : Int} {s : lf_Z} (hQ : ∀ (r : Bool) (s : lf_Z), Q1 r s → Q2 r s → Q3 r s) (h1 : fm_150_p2L Q1 x1 x3 s) (h2 : fw_150_p2L Q2 x1 x3 s) : fm_150_p2L Q3 x1 x3 s := by
  intro X0 hX0
  obtain ⟨Y, hY, hY0⟩ := h2
  exact h1 (fun v0 s => Y v0 s → X0 v0 s) (fun v0 s hb hy => hX0 v0 s (cj_150_p2 (X21 := fun v0 s => Y v0 s → X0 v0 s) (X22 := Y) (X23 := X0) (hX2 := fun v0 s a b => a b) hQ hb (hY v0 s hy))) hY0
def fw_150 (a1 : Int) (Q : Bool → lf_Z → Prop) (s : lf_Z) : Prop := fw_150_p2L Q a1 0 s
theorem cj_150 {Q1 Q2 Q3 : Bool → lf_Z → Prop} {a1 : Int} {s : lf_Z} (hQ : ∀ (r : Bool) (s : lf_Z), Q1 r s → Q2 r s → Q3 r s) (h1 : fm_150 a1 Q1 s) (h2 : fw_150 a1 Q2 s) : fm_150 a1 Q3 s := by
  unfold fm_150 at h1 ⊢
  unfold fw_150 at h2
  exact cj_150_p2L hQ h1 h2
def fw_147_p57 (X11 : Int → Int → lf_Z → Prop) (Q : Int → lf_Z → Prop) (x1 : Int) (x2 : Int) (s : lf_Z) : Prop := X11 x1 (x2 + 1) s
theorem cj_147_p57 {X111 X112 X113 : Int → Int → lf_Z → Prop} {Q1 Q2 Q3 : Int → lf_Z → Prop} {x1 : Int} {x2 : Int} {s : lf_Z} (hX11 : ∀ (v0 : Int) (v1 : Int) (v2 : lf_Z), X111 v0 v1 v2 → X112 v0 v1 v2 → X113 v0 v1 v2) (hQ : ∀ (r : Int) (s : lf_Z), Q1 r s → Q2 r s → Q3 r s) (h1 : fm_147_p57 X111 Q1 x1 x2 s) (h2 : fw_147_p57 X112 Q2 x1 x2 s) : fm_147_p57 X113 Q3 x1 x2 s := by
  unfold fm_147_p57 at h1 ⊢
  unfold fw_147_p57 at h2
  exact hX11 _ _ _  h1 h2
def fw_147_p11 (Q : Int → lf_Z → Prop) (X11 : Int → Int → lf_Z → Prop) (x1 : Int) (x2 : Int) (s : lf_Z) : Prop := lf_R x2 → (lf_R (s.1 1 1) → ((s.1 1 1 ≤ x2 → (Q x1 s)) ∧ (¬ (s.1 1 1 ≤ x2) → (fw_149 x2 (fun r25 s24 => (lf_R r25 → ((r25 = (-1) → (fw_147_p57 X11 Q x1 x2 s24)) ∧ (¬ (r25 = (-1)) → (fw_150 r25 (fun z28 s27 => ((z28 = false → (fw_147_p57 X11 Q x1 x2 s27)) ∧ (z28 = true → (fw_147_p57 X11 Q (lf_or x1 (lf_shl 1 x2)) x2 s27)))) s24))))) s))))
theorem cj_147_p11 {X111 X112 X113 : Int → Int → lf_Z → Prop} {Q1 Q2 Q3 : Int → lf_Z → Prop} {x1 : Int} {x2 : Int} {s : lf_Z} (hX11 : ∀ (v0 : Int) (v1 : Int) (v2 : lf_Z), X111 v0 v1 v2 → X112 v0 v1 v2 → X113 v0 v1 v2) (hQ : ∀ (r : Int) (s : lf_Z), Q1 r s → Q2 r s → Q3 r s) (h1 : fm_147_p11 Q1 X111 x1 x2 s) (h2 : fw_147_p11 Q2 X112 x1 x2 s) : fm_147_p11 Q3 X113 x1 x2 s := by
  unfold fm_147_p11 at h1 ⊢
  unfold fw_147_p11 at h2
  exact ⟨h1.1, ⟨h1.2.1, ⟨(fun c3 => hQ _ _  (h1.2.2.1 c3) (((h2 h1.1) h1.2.1).1 c3)), (fun c3 => cj_149 (fun r25 s24 k5 l5 => ⟨k5.1, ⟨(fun c7 => cj_147_p57 hX11 hQ (k5.2.1 c7) ((l5 k5.1).1 c7)), (fun c7 => cj_150 (fun z28 s27 k9 l9 => ⟨(fun c10 => cj_147_p57 hX11 hQ (k9.1 c10) (l9.1 c10)), (fun c10 => cj_147_p57 hX11 hQ (k9.2 c10) (l9.2 c10))⟩) (k5.2.2 c7) ((l5 k5.1).2 c7))⟩⟩) (h1.2.2.2 c3) (((h2 h1.1) h1.2.1).2 c3))⟩⟩⟩
def fw_147_p11L (Q : Int → lf_Z → Prop) (x1 : Int) (x2 : Int) (s : lf_Z) : Prop := ∃ X11 : Int → Int → lf_Z → Prop, (∀ (x1 : Int) (x2 : Int) (s : lf_Z), X11 x1 x2 s → fw_147_p11 Q X11 x1 x2 s) ∧ X11 x1 x2 s
theorem cj_147_p11L {Q1 Q2 Q3 : Int → lf_Z → Prop} {x1 : Int} {x2 : Int} {s : lf_Z} (hQ : ∀ (r : Int) (s : lf_Z), Q1 r s → Q2 r s → Q3 r s) (h1 : fm_147_p11L Q1 x1 x2 s) (h2 : fw_147_p11L Q2 x1 x2 s) : fm_147_p11L Q3 x1 x2 s := by
  intro X0 hX0
  obtain ⟨Y, hY, hY0⟩ := h2
  exact h1 (fun v0 v1 s => Y v0 v1 s → X0 v0 v1 s) (fun v0 v1 s hb hy => hX0 v0 v1 s (cj_147_p11 (X111 := fun v0 v1 s => Y v0 v1 s → X0 v0 v1 s) (X112 := Y) (X113 := X0) (hX11 := fun v0 v1 s a b => a b) hQ hb (hY v0 v1 s hy))) hY0
def fw_147 (Q : Int → lf_Z → Prop) (s : lf_Z) : Prop := fw_148 (fun s21 => (fw_147_p11L Q 0 0 s21)) s
theorem cj_147 {Q1 Q2 Q3 : Int → lf_Z → Prop} {s : lf_Z} (hQ : ∀ (r : Int) (s : lf_Z), Q1 r s → Q2 r s → Q3 r s) (h1 : fm_147 Q1 s) (h2 : fw_147 Q2 s) : fm_147 Q3 s := by
  unfold fm_147 at h1 ⊢
  unfold fw_147 at h2
  exact cj_148 (fun s21 k1 l1 => cj_147_p11L hQ k1 l1) h1 h2
def fw_307_p8 (Q : Bool → lf_Z → Prop) (X8 : Int → lf_Z → Prop) (x2 : Int) (s : lf_Z) : Prop := lf_R x2 → (lf_R (s.1 96 10) → ((s.1 96 10 ≤ x2 → (Q true s)) ∧ (¬ (s.1 96 10 ≤ x2) → ((0 ≤ 162 + (2 * x2) ∧ 162 + (2 * x2) < 1538) → ((0 ≤ s.1 96 (162 + (2 * x2)) ∧ s.1 96 (162 + (2 * x2)) < 12) → ((0 ≤ (162 + (2 * x2)) + 1 ∧ (162 + (2 * x2)) + 1 < 1538) → (lf_R (s.1 108 (s.1 96 (162 + (2 * x2)))) → (lf_R (s.1 96 ((162 + (2 * x2)) + 1)) → ((s.1 108 (s.1 96 (162 + (2 * x2))) ≤ s.1 96 ((162 + (2 * x2)) + 1) → (X8 (x2 + 1) s)) ∧ (¬ (s.1 108 (s.1 96 (162 + (2 * x2))) ≤ s.1 96 ((162 + (2 * x2)) + 1)) → (Q false s)))))))))))
theorem cj_307_p8 {X81 X82 X83 : Int → lf_Z → Prop} {Q1 Q2 Q3 : Bool → lf_Z → Prop} {x2 : Int} {s : lf_Z} (hX8 : ∀ (v0 : Int) (v1 : lf_Z), X81 v0 v1 → X82 v0 v1 → X83 v0 v1) (hQ : ∀ (r : Bool) (s : lf_Z), Q1 r s → Q2 r s → Q3 r s) (h1 : fm_307_p8 Q1 X81 x2 s) (h2 : fw_307_p8 Q2 X82 x2 s) : fm_307_p8 Q3 X83 x2 s := by
  unfold fm_307_p8 at h1 ⊢
  unfold fw_307_p8 at h2
  exact ⟨h1.1, ⟨h1.2.1, ⟨(fun c3 => hQ _ _  (h1.2.2.1 c3) (((h2 h1.1) h1.2.1).1 c3)), (fun c3 => ⟨(h1.2.2.2 c3).1, ⟨(h1.2.2.2 c3).2.1, ⟨(h1.2.2.2 c3).2.2.1, ⟨(h1.2.2.2 c3).2.2.2.1, ⟨(h1.2.2.2 c3).2.2.2.2.1, ⟨(fun c10 => hX8 _ _  ((h1.2.2.2 c3).2.2.2.2.2.1 c10) (((((((((h2 h1.1) h1.2.1).2 c3) (h1.2.2.2 c3).1) (h1.2.2.2 c3).2.1) (h1.2.2.2 c3).2.2.1) (h1.2.2.2 c3).2.2.2.1) (h1.2.2.2 c3).2.2.2.2.1).1 c10)), (fun c10 => hQ _ _  ((h1.2.2.2 c3).2.2.2.2.2.2 c10) (((((((((h2 h1.1) h1.2.1).2 c3) (h1.2.2.2 c3).1) (h1.2.2.2 c3).2.1) (h1.2.2.2 c3).2.2.1) (h1.2.2.2 c3).2.2.2.1) (h1.2.2.2 c3).2.2.2.2.1).2 c10))⟩⟩⟩⟩⟩⟩)⟩⟩⟩
def fw_307_p8L (Q : Bool → lf_Z → Prop) (x2 : Int) (s : lf_Z) : Prop := ∃ X8 : Int → lf_Z → Prop, (∀ (x2 : Int) (s : lf_Z), X8 x2 s → fw_307_p8 Q X8 x2 s) ∧ X8 x2 s
theorem cj_307_p8L {Q1 Q2 Q3 : Bool → lf_Z → Prop} {x2 : Int} {s : lf_Z} (hQ : ∀ (r : Bool) (s : lf_Z), Q1 r s → Q2 r s → Q3 r s) (h1 : fm_307_p8L Q1 x2 s) (h2 : fw_307_p8L Q2 x2 s) : fm_307_p8L Q3 x2 s := by
  intro X0 hX0
  obtain ⟨Y, hY, hY0⟩ := h2
  exact h1 (fun v0 s => Y v0 s → X0 v0 s) (fun v0 s hb hy => hX0 v0 s (cj_307_p8 (X81 := fun v0 s => Y v0 s → X0 v0 s) (X82 := Y) (X83 := X0) (hX8 := fun v0 s a b => a b) hQ hb (hY v0 s hy))) hY0
def fw_307 (a1 : Int) (Q : Bool → lf_Z → Prop) (s : lf_Z) : Prop := fw_261 a1 0 (fun s21 => (fw_307_p8L Q 0 s21)) s
theorem cj_307 {Q1 Q2 Q3 : Bool → lf_Z → Prop} {a1 : Int} {s : lf_Z} (hQ : ∀ (r : Bool) (s : lf_Z), Q1 r s → Q2 r s → Q3 r s) (h1 : fm_307 a1 Q1 s) (h2 : fw_307 a1 Q2 s) : fm_307 a1 Q3 s := by
  unfold fm_307 at h1 ⊢
  unfold fw_307 at h2
  exact cj_261 (fun s21 k1 l1 => cj_307_p8L hQ k1 l1) h1 h2
def fw_306_p116 (X4 : Int → Int → lf_Z → Prop) (Q : Int → lf_Z → Prop) (x1 : Int) (x2 : Int) (s : lf_Z) : Prop := X4 x1 (x2 + 1) s
theorem cj_306_p116 {X41 X42 X43 : Int → Int → lf_Z → Prop} {Q1 Q2 Q3 : Int → lf_Z → Prop} {x1 : Int} {x2 : Int} {s : lf_Z} (hX4 : ∀ (v0 : Int) (v1 : Int) (v2 : lf_Z), X41 v0 v1 v2 → X42 v0 v1 v2 → X43 v0 v1 v2) (hQ : ∀ (r : Int) (s : lf_Z), Q1 r s → Q2 r s → Q3 r s) (h1 : fm_306_p116 X41 Q1 x1 x2 s) (h2 : fw_306_p116 X42 Q2 x1 x2 s) : fm_306_p116 X43 Q3 x1 x2 s := by
  unfold fm_306_p116 at h1 ⊢
  unfold fw_306_p116 at h2
  exact hX4 _ _ _  h1 h2
def fw_306_p114 (X4 : Int → Int → lf_Z → Prop) (Q : Int → lf_Z → Prop) (x2 : Int) (y0 : Int) (y1 : Int) (s : lf_Z) : Prop := fw_306_p116 X4 Q (lf_or y0 y1) x2 s
theorem cj_306_p114 {X41 X42 X43 : Int → Int → lf_Z → Prop} {Q1 Q2 Q3 : Int → lf_Z → Prop} {x2 : Int} {y0 : Int} {y1 : Int} {s : lf_Z} (hX4 : ∀ (v0 : Int) (v1 : Int) (v2 : lf_Z), X41 v0 v1 v2 → X42 v0 v1 v2 → X43 v0 v1 v2) (hQ : ∀ (r : Int) (s : lf_Z), Q1 r s → Q2 r s → Q3 r s) (h1 : fm_306_p114 X41 Q1 x2 y0 y1 s) (h2 : fw_306_p114 X42 Q2 x2 y0 y1 s) : fm_306_p114 X43 Q3 x2 y0 y1 s := by
  unfold fm_306_p114 at h1 ⊢
  unfold fw_306_p114 at h2
  exact cj_306_p116 hX4 hQ h1 h2
def fw_306_p101 (X4 : Int → Int → lf_Z → Prop) (Q : Int → lf_Z → Prop) (x2 : Int) (y0 : Int) (y2 : Int) (s : lf_Z) : Prop := fw_307 y2 (fun z39 s38 => ((z39 = false → (fw_306_p114 X4 Q x2 y0 0 s38)) ∧ (z39 = true → (fw_306_p114 X4 Q x2 y0 (lf_shl 1 x2) s38)))) s
theorem cj_306_p101 {X41 X42 X43 : Int → Int → lf_Z → Prop} {Q1 Q2 Q3 : Int → lf_Z → Prop} {x2 : Int} {y0 : Int} {y2 : Int} {s : lf_Z} (hX4 : ∀ (v0 : Int) (v1 : Int) (v2 : lf_Z), X41 v0 v1 v2 → X42 v0 v1 v2 → X43 v0 v1 v2) (hQ : ∀ (r : Int) (s : lf_Z), Q1 r s → Q2 r s → Q3 r s) (h1 : fm_306_p101 X41 Q1 x2 y0 y2 s) (h2 : fw_306_p101 X42 Q2 x2 y0 y2 s) : fm_306_p101 X43 Q3 x2 y0 y2 s := by
  unfold fm_306_p101 at h1 ⊢
  unfold fw_306_p101 at h2
  exact cj_307 (fun z39 s38 k1 l1 => ⟨(fun c2 => cj_306_p114 hX4 hQ (k1.1 c2) (l1.1 c2)), (fun c2 => cj_306_p114 hX4 hQ (k1.2 c2) (l1.2 c2))⟩) h1 h2
def fw_306_p78 (X4 : Int → Int → lf_Z → Prop) (Q : Int → lf_Z → Prop) (x1 : Int) (x2 : Int) (x3 : Int) (x4 : Int) (y0 : Int) (y1 : Int) (s : lf_Z) : Prop := lf_R y0 → (lf_R y1 → ((y0 ≠ y1 → (fw_265 x3 (fun r36 s35 => (lf_R r36 → ((r36 ≠ 3 → (fw_306_p101 X4 Q x2 x1 x3 s35)) ∧ (¬ (r36 ≠ 3) → (fw_306_p101 X4 Q x2 x1 x4 s35))))) s)) ∧ (¬ (y0 ≠ y1) → (fw_306_p116 X4 Q x1 x2 s))))
theorem cj_306_p78 {X41 X42 X43 : Int → Int → lf_Z → Prop} {Q1 Q2 Q3 : Int → lf_Z → Prop} {x1 : Int} {x2 : Int} {x3 : Int} {x4 : Int} {y0 : Int} {y1 : Int} {s : lf_Z} (hX4 : ∀ (v0 : Int) (v1 : Int) (v2 : lf_Z), X41 v0 v1 v2 → X42 v0 v1 v2 → X43 v0 v1 v2) (hQ : ∀ (r : Int) (s : lf_Z), Q1 r s → Q2 r s → Q3 r s) (h1 : fm_306_p78 X41 Q1 x1 x2 x3 x4 y0 y1 s) (h2 : fw_306_p78 X42 Q2 x1 x2 x3 x4 y0 y1 s) : fm_306_p78 X43 Q3 x1 x2 x3 x4 y0 y1 s := by
  unfold fm_306_p78 at h1 ⊢
  unfold fw_306_p78 at h2
  exact ⟨h1.1, ⟨h1.2.1, ⟨(fun c3 => cj_265 (fun r36 s35 k4 l4 => ⟨k4.1, ⟨(fun c6 => cj_306_p101 hX4 hQ (k4.2.1 c6) ((l4 k4.1).1 c6)), (fun c6 => cj_306_p101 hX4 hQ (k4.2.2 c6) ((l4 k4.1).2 c6))⟩⟩) (h1.2.2.1 c3) (((h2 h1.1) h1.2.1).1 c3)), (fun c3 => cj_306_p116 hX4 hQ (h1.2.2.2 c3) (((h2 h1.1) h1.2.1).2 c3))⟩⟩⟩
def fw_306_p63 (X4 : Int → Int → lf_Z → Prop) (Q : Int → lf_Z → Prop) (x1 : Int) (x2 : Int) (x3 : Int) (x4 : Int) (y0 : Int) (s : lf_Z) : Prop := fw_265 x4 (fun r31 s30 => (lf_R r31 → ((r31 ≠ 3 → (fw_306_p78 X4 Q x1 x2 x3 x4 y0 0 s30)) ∧ (¬ (r31 ≠ 3) → (fw_306_p78 X4 Q x1 x2 x3 x4 y0 1 s30))))) s
theorem cj_306_p63 {X41 X42 X43 : Int → Int → lf_Z → Prop} {Q1 Q2 Q3 : Int → lf_Z → Prop} {x1 : Int} {x2 : Int} {x3 : Int} {x4 : Int} {y0 : Int} {s : lf_Z} (hX4 : ∀ (v0 : Int) (v1 : Int) (v2 : lf_Z), X41 v0 v1 v2 → X42 v0 v1 v2 → X43 v0 v1 v2) (hQ : ∀ (r : Int) (s : lf_Z), Q1 r s → Q2 r s → Q3 r s) (h1 : fm_306_p63 X41 Q1 x1 x2 x3 x4 y0 s) (h2 : fw_306_p63 X42 Q2 x1 x2 x3 x4 y0 s) : fm_306_p63 X43 Q3 x1 x2 x3 x4 y0 s := by
  unfold fm_306_p63 at h1 ⊢
  unfold fw_306_p63 at h2
  exact cj_265 (fun r31 s30 k1 l1 => ⟨k1.1, ⟨(fun c3 => cj_306_p78 hX4 hQ (k1.2.1 c3) ((l1 k1.1).1 c3)), (fun c3 => cj_306_p78 hX4 hQ (k1.2.2 c3) ((l1 k1.1).2 c3))⟩⟩) h1 h2
def fw_306_p4 (Q : Int → lf_Z → Prop) (X4 : Int → Int → lf_Z → Prop) (x1 : Int) (x2 : Int) (s : lf_Z) : Prop := lf_R x2 → (lf_R (s.1 96 1) → ((s.1 96 1 ≤ x2 → (Q x1 s)) ∧ (¬ (s.1 96 1 ≤ x2) → ((0 ≤ 50 + (4 * x2) ∧ 50 + (4 * x2) < 1538) → ((0 ≤ (50 + (4 * x2)) + 1 ∧ (50 + (4 * x2)) + 1 < 1538) → (fw_252 x2 (fun z26 s25 => ((z26 = true → (fw_306_p116 X4 Q x1 x2 s25)) ∧ (z26 = false → (fw_265 (s.1 96 (50 + (4 * x2))) (fun r28 s27 => (lf_R r28 → ((r28 ≠ 3 → (fw_306_p63 X4 Q x1 x2 (s.1 96 (50 + (4 * x2))) (s.1 96 ((50 + (4 * x2)) + 1)) 0 s27)) ∧ (¬ (r28 ≠ 3) → (fw_306_p63 X4 Q x1 x2 (s.1 96 (50 + (4 * x2))) (s.1 96 ((50 + (4 * x2)) + 1)) 1 s27))))) s25)))) s))))))
theorem cj_306_p4 {X41 X42 X43 : Int → Int → lf_Z → Prop} {Q1 Q2 Q3 : Int → lf_Z → Prop} {x1 : Int} {x2 : Int} {s : lf_Z} (hX4 : ∀ (v0 : Int) (v1 : Int) (v2 : lf_Z), X41 v0 v1 v2 → X42 v0 v1 v2 → X43 v0 v1 v2) (hQ : ∀ (r : Int) (s : lf_Z), Q1 r s → Q2 r s → Q3 r s) (h1 : fm_306_p4 Q1 X41 x1 x2 s) (h2 : fw_306_p4 Q2 X42 x1 x2 s) : fm_306_p4 Q3 X43 x1 x2 s := by
  unfold fm_306_p4 at h1 ⊢
  unfold fw_306_p4 at h2
  exact ⟨h1.1, ⟨h1.2.1, ⟨(fun c3 => hQ _ _  (h1.2.2.1 c3) (((h2 h1.1) h1.2.1).1 c3)), (fun c3 => ⟨(h1.2.2.2 c3).1, ⟨(h1.2.2.2 c3).2.1, cj_252 (fun z26 s25 k7 l7 => ⟨(fun c8 => cj_306_p116 hX4 hQ (k7.1 c8) (l7.1 c8)), (fun c8 => cj_265 (fun r28 s27 k10 l10 => ⟨k10.1, ⟨(fun c12 => cj_306_p63 hX4 hQ (k10.2.1 c12) ((l10 k10.1).1 c12)), (fun c12 => cj_306_p63 hX4 hQ (k10.2.2 c12) ((l10 k10.1).2 c12))⟩⟩) (k7.2 c8) (l7.2 c8))⟩) (h1.2.2.2 c3).2.2 (((((h2 h1.1) h1.2.1).2 c3) (h1.2.2.2 c3).1) (h1.2.2.2 c3).2.1)⟩⟩)⟩⟩⟩
def fw_306_p4L (Q : Int → lf_Z → Prop) (x1 : Int) (x2 : Int) (s : lf_Z) : Prop := ∃ X4 : Int → Int → lf_Z → Prop, (∀ (x1 : Int) (x2 : Int) (s : lf_Z), X4 x1 x2 s → fw_306_p4 Q X4 x1 x2 s) ∧ X4 x1 x2 s
theorem cj_306_p4L {Q1 Q2 Q3 : Int → lf_Z → Prop} {x1 : Int} {x2 : Int} {s : lf_Z} (hQ : ∀ (r : Int) (s : lf_Z), Q1 r s → Q2 r s → Q3 r s) (h1 : fm_306_p4L Q1 x1 x2 s) (h2 : fw_306_p4L Q2 x1 x2 s) : fm_306_p4L Q3 x1 x2 s := by
  intro X0 hX0
  obtain ⟨Y, hY, hY0⟩ := h2
  exact h1 (fun v0 v1 s => Y v0 v1 s → X0 v0 v1 s) (fun v0 v1 s hb hy => hX0 v0 v1 s (cj_306_p4 (X41 := fun v0 v1 s => Y v0 v1 s → X0 v0 v1 s) (X42 := Y) (X43 := X0) (hX4 := fun v0 v1 s a b => a b) hQ hb (hY v0 v1 s hy))) hY0
def fw_306 (Q : Int → lf_Z → Prop) (s : lf_Z) : Prop := fw_306_p4L Q 0 0 s
theorem cj_306 {Q1 Q2 Q3 : Int → lf_Z → Prop} {s : lf_Z} (hQ : ∀ (r : Int) (s : lf_Z), Q1 r s → Q2 r s → Q3 r s) (h1 : fm_306 Q1 s) (h2 : fw_306 Q2 s) : fm_306 Q3 s := by
  unfold fm_306 at h1 ⊢
  unfold fw_306 at h2
  exact cj_306_p4L hQ h1 h2
/-! soon -/
section SO
variable {J K : Nat → Int → Int} {s t u : lf_Z} {f g A B sv T : Int → Int} {H : List rr_H} {X : mn_X} {I I' : Nat → Int → Int} {a b c d r j n w : Int} {z : Bool}
def qb_134 (a b : Int) : qb_T := fun _ J f => if (0 ≤ a ∧ a < J 1 2) ∧ 0 ≤ b ∧ b < J 1 0 then (if 1000 ≤ mn_d J 13 (f (12 + 2 * a)) b then -1 else if J 8 a = 0 then mn_d J 13 (f (12 + 2 * a)) b else (mn_d J 13 (f (12 + 2 * a)) b + 1).tdiv 2) else -1
theorem gq_134 {Q : Int → lf_Z → Prop} (hF : gf_T s.1 f H) (hC : gc_T s.1 f H) (h : Q (qb_134 a b X s.1 f) s) : fw_134 a b Q s := by
  have w2 := hF.1.1.2.2.1
  unfold fw_134
  refine fl_99 ⟨fun q => qu_to h ?_, fun q => fl_18 ⟨fun q2 _ => ?_, fun q2 => qu_to h ?_⟩⟩
  · unfold qb_134; rw [if_neg (fun y => bd_f q y.1)]
  · have qa := bd_t q
    have qb := bd_t q2
    have c3 := (hC.1.2.1 a qa.1 (by omega)).1
    have pl := (hF.2.1.1.1 a qa.1 qa.2).1
    have e : qb_134 a b X s.1 f = (if 1000 ≤ mn_d s.1 13 (f (12 + 2 * a)) b then -1 else if s.1 8 a = 0 then mn_d s.1 13 (f (12 + 2 * a)) b else (mn_d s.1 13 (f (12 + 2 * a)) b + 1).tdiv 2) := if_pos ⟨qa, qb⟩
    rw [c3]
    unfold fw_135
    refine fl_75 pl qb ?_
    intro _
    refine ⟨fun y => qu_to h (e.trans (if_pos y)), fun y => fl_99 ⟨fun _ _ _ => ⟨fun y8 => qu_to h (e.trans ((if_neg y).trans (if_pos y8))), fun y8 _ => qu_to h (e.trans ((if_neg y).trans (if_neg y8)))⟩, fun q3 => absurd qa (bd_f q3)⟩⟩
  · unfold qb_134; rw [if_neg (fun y => bd_f q2 y.2)]
theorem gq_298 {Q : Int → lf_Z → Prop} (hF : gf_T J f H) (hR : gr_T sv J f H (s.1 96)) (h : ∀ t : lf_Z, Q (qb_134 a b X J f) t) : fw_298 a b Q s := by
  have e2 : s.1 96 2 = J 1 2 := hR.1.2.2.1
  have e0 : s.1 96 0 = J 1 0 := hR.1.1
  unfold fw_298 fw_249
  refine fl_183 ⟨fun q => qu_to (h s) ?_, fun q => ?_⟩
  · unfold qb_134; rw [if_neg (fun y => bd_f q ⟨y.1.1, by have := y.1.2; omega⟩)]
  · have q := bd_t q
    have qa : 0 ≤ a ∧ a < J 1 2 := ⟨q.1, by omega⟩
    unfold fw_185
    refine fl_183 ⟨fun q2 => ?_, fun q2 => qu_to (h s) ?_⟩
    · have q2 := bd_t q2
      have qb : 0 ≤ b ∧ b < J 1 0 := ⟨q2.1, by omega⟩
      have pl := (hF.2.1.1.1 a qa.1 qa.2).1
      have e : qb_134 a b X J f = (if 1000 ≤ mn_d J 13 (f (12 + 2 * a)) b then -1 else if J 8 a = 0 then mn_d J 13 (f (12 + 2 * a)) b else (mn_d J 13 (f (12 + 2 * a)) b + 1).tdiv 2) := if_pos ⟨qa, qb⟩
      refine fl_261 (J := J) (ok := fun _ => true) (d := mn_d J 13) hR.1 hF.1.1 hF.1.2.1 (fun _ => rfl) hF.1.1.2.2.2.2.2.1 qb.1 qb.2 (fun t tc t2 td => fl_239 ?_)
      have l3 := (hR.2.1.2.2.2.1 a qa.1 qa.2).1
      have l8 := (hR.1.2.2.2.2.2 a qa.1 qa.2).2.1
      rw [tc 96 (by decide), l3]
      unfold fw_299
      intro _
      rw [td _ pl.1 pl.2]
      intro _
      refine ⟨fun y => fl_239d ?_, fun y => ?_⟩
      · rw [tc 96 (by decide), l8]
        have b8 := (hF.1.2.1.2 a).1
        have nn := hF.1.1.2.2.2.2.2.1.2.1 (f (12 + 2 * a)) b pl.1 pl.2 qb.1 qb.2
        intro _
        rw [td _ pl.1 pl.2]
        refine ⟨fun y8 => ?_, fun y8 _ => ?_⟩
        · intro _
          exact ⟨fun _ => qu_to (h t) (e.trans ((if_neg (by omega)).trans (if_pos (by omega)))), fun y2 => absurd y y2⟩
        · intro _
          refine ⟨fun _ => qu_to (h t) (e.trans ((if_neg (by omega)).trans (if_neg (by omega)))), fun y2 => ?_⟩
          exfalso
          have : (mn_d J 13 (f (12 + 2 * a)) b + 1).tdiv 2 = (mn_d J 13 (f (12 + 2 * a)) b + 1) / 2 := Int.tdiv_eq_ediv_of_nonneg (by omega)
          omega
      · intro _
        exact ⟨fun y2 => absurd y2 (by decide), fun _ => qu_to (h t) (e.trans (if_pos (by omega)))⟩
    · unfold qb_134; rw [if_neg (fun y => bd_f q2 ⟨y.2.1, by have := y.2.2; omega⟩)]
end SO
/-! which -/
section WC
variable {J K : Nat → Int → Int} {s t u : lf_Z} {f g T A B : Int → Int} {a b c p x j n1 n2 m : Int} {H : List rr_H} {E E' : Int → Int → Prop} {d d' : Int → Int → Int}
theorem fl_22b {Q : lf_Z → Prop} (hd : dm_M m E d) (hm : s.1 1 0 = m) (m0 : 0 ≤ m) (m12 : m ≤ 12) (hc : ∀ i j : Int, 0 ≤ i → i < m → 0 ≤ j → j < m → s.1 14 (i * 12 + j) = d i j) (a0 : 0 ≤ a) (a1 : a < m) (b0 : 0 ≤ b) (b1 : b < m)
    (k : ∀ t : lf_Z, (∀ c : Nat, c ≠ 14 → t.1 c = s.1 c) → t.2 = s.2 → (∀ i j : Int, 0 ≤ i → i < m → 0 ≤ j → j < m → t.1 14 (i * 12 + j) = dm_nw d a b i j) → (∀ i j : Int, 0 ≤ i → i < 12 → 0 ≤ j → j < 12 → (m ≤ i ∨ m ≤ j) → t.1 14 (i * 12 + j) = s.1 14 (i * 12 + j)) → Q t) : fw_22b a b Q s := by
  unfold fw_22b
  refine ⟨fun i t => 0 ≤ i ∧ i ≤ m ∧ (∀ c : Nat, c ≠ 14 → t.1 c = s.1 c) ∧ t.2 = s.2 ∧ (∀ p q : Int, 0 ≤ p → p < m → 0 ≤ q → q < m → t.1 14 (p * 12 + q) = if p < i then dm_nw d a b p q else d p q) ∧ (∀ p q : Int, 0 ≤ p → p < 12 → 0 ≤ q → q < 12 → (m ≤ p ∨ m ≤ q) → t.1 14 (p * 12 + q) = s.1 14 (p * 12 + q)), ?_, ⟨Int.le_refl 0, m0, fun _ _ => rfl, rfl, fun p q p0 p1 q0 q1 => by rw [if_neg (by omega)]; exact hc p q p0 p1 q0 q1, fun _ _ _ _ _ _ _ => rfl⟩⟩
  intro i t ⟨i0, i1, tc, t2, tv, to⟩
  unfold fw_22b_p3
  rw [tc 1 (by decide), hm]
  intro _ _
  refine ⟨fun c => k t tc t2 (fun p q p0 p1 q0 q1 => by rw [tv p q p0 p1 q0 q1, if_pos (by omega)]) to, fun c => ?_⟩
  refine ⟨fun j u => 0 ≤ j ∧ j ≤ m ∧ (∀ c : Nat, c ≠ 14 → u.1 c = s.1 c) ∧ u.2 = s.2 ∧ (∀ p q : Int, 0 ≤ p → p < m → 0 ≤ q → q < m → u.1 14 (p * 12 + q) = if p < i ∨ (p = i ∧ q < j) then dm_nw d a b p q else d p q) ∧ (∀ p q : Int, 0 ≤ p → p < 12 → 0 ≤ q → q < 12 → (m ≤ p ∨ m ≤ q) → u.1 14 (p * 12 + q) = s.1 14 (p * 12 + q)), ?_, ⟨Int.le_refl 0, m0, tc, t2, fun p q p0 p1 q0 q1 => ?_, to⟩⟩
  · intro j u ⟨j0, j1, uc, u2, uv, uo⟩
    unfold fw_22b_p22
    rw [uc 1 (by decide), hm]
    intro _ _
    refine ⟨fun e => ⟨by omega, by omega, uc, u2, fun p q p0 p1 q0 q1 => ?_, uo⟩, fun e _ _ _ _ _ _ _ _ _ => ?_⟩
    · rw [uv p q p0 p1 q0 q1]
      by_cases y : p < i + 1
      · rw [if_pos (by omega), if_pos y]
      · rw [if_neg (by omega), if_neg y]
    · have on : ∀ p q : Int, 0 ≤ p → p < m → 0 ≤ q → q < m → dm_on d a b p q (u.1 14 (p * 12 + q)) := fun p q p0 p1 q0 q1 => by
        rw [uv p q p0 p1 q0 q1]
        unfold dm_on
        split
        · exact Or.inr rfl
        · exact Or.inl rfl
      have old : u.1 14 (i * 12 + j) = d i j := by
        rw [uv i j i0 (by omega) j0 (by omega), if_neg (by omega)]
      have new := dm_st hd a0 a1 b0 b1 i0 (by omega) j0 (by omega) (on i a i0 (by omega) a0 a1) (on i b i0 (by omega) b0 b1) (on a j a0 a1 j0 (by omega)) (on b j b0 b1 j0 (by omega))
      rw [old, new]
      have ne : ∀ p q : Int, 0 ≤ p → p < 12 → 0 ≤ q → q < 12 → ¬ (p = i ∧ q = j) → p * 12 + q ≠ i * 12 + j := fun p q p0 p1 q0 q1 h e => h (by omega)
      refine ⟨by omega, by omega, fun c hc => (zu_r hc).trans (uc c hc), u2, fun p q p0 p1 q0 q1 => ?_, fun p q p0 p1 q0 q1 h => (zu_i (ne p q p0 p1 q0 q1 (by omega))).trans (uo p q p0 p1 q0 q1 h)⟩
      by_cases y : p = i ∧ q = j
      · rw [y.1, y.2, if_pos (by omega)]; exact zu_s
      · refine (zu_i (ne p q p0 (by omega) q0 (by omega) y)).trans ?_
        rw [uv p q p0 p1 q0 q1]
        by_cases z : p < i ∨ (p = i ∧ q < j)
        · rw [if_pos z, if_pos (by omega)]
        · rw [if_neg z, if_neg (by omega)]
  · rw [tv p q p0 p1 q0 q1]
    by_cases y : p < i
    · rw [if_pos y, if_pos (by omega)]
    · rw [if_neg y, if_neg (by omega)]
end WC
section WD
variable {J K : Nat → Int → Int} {F G : Nat → Int → Int} {s t u : lf_Z} {f : Int → Int} {H : List rr_H} {a b i j n : Int}
theorem fl_2 {Q : lf_Z → Prop} (k : ∀ t : lf_Z, (∀ c : Nat, c ≠ 14 → t.1 c = s.1 c) → t.2 = s.2 → (∀ i j : Int, 0 ≤ i → i < 12 → 0 ≤ j → j < 12 → t.1 14 (i * 12 + j) = if i = j then 0 else 1000) → Q t) : fw_2 Q s := by
  unfold fw_2
  have f0 : ∀ i : Int, 0 ≤ i → i < 144 → (lf_fl s.1 14 144 1000) 14 i = 1000 := fun i i0 i1 => by unfold lf_fl; rw [if_pos ⟨rfl, i0, i1⟩]
  refine ⟨fun x t => 0 ≤ x ∧ (∀ c : Nat, c ≠ 14 → t.1 c = s.1 c) ∧ t.2 = s.2 ∧ (∀ i j : Int, 0 ≤ i → i < 12 → 0 ≤ j → j < 12 → t.1 14 (i * 12 + j) = if i = j ∧ i < x then 0 else 1000), ?_, ⟨Int.le_refl 0, fun c hc => funext fun j => lf_fl_c hc, rfl, fun i j i0 i1 j0 j1 => ?_⟩⟩
  rotate_left
  · rw [if_neg (by omega)]; exact f0 _ (by omega) (by omega)
  intro x t ⟨x0, tc, t2, ti⟩
  unfold fw_2_p9
  intro _
  refine ⟨fun c => k t tc t2 (fun i j i0 i1 j0 j1 => ?_), fun c _ => ⟨by omega, fun c hc => (zu_r hc).trans (tc c hc), t2, fun i j i0 i1 j0 j1 => ?_⟩⟩
  · rw [ti i j i0 i1 j0 j1]
    by_cases e : i = j
    · rw [if_pos e, if_pos ⟨e, by omega⟩]
    · rw [if_neg e, if_neg (fun q => e q.1)]
  · by_cases e : i * 12 + j = x * 12 + x
    · rw [e, if_pos (by omega)]; exact zu_s
    · refine (zu_i e).trans ((ti i j i0 i1 j0 j1).trans ?_)
      by_cases q : i = j ∧ i < x
      · rw [if_pos q, if_pos (by omega)]
      · rw [if_neg q, if_neg (by omega)]
end WD
section WH
variable {J K : Nat → Int → Int} {s t u : lf_Z} {f g A B sv S M : Int → Int} {H : List rr_H} {X : mn_X} {a b c r i j n w x : Int} {z : Bool} {d : Int → Int → Int} {ok : Int → Bool}
theorem mn_E1 (x0 : 0 ≤ x) (h : ok x = true) : mn_E J ok (x + 1) i j ↔ dm_E (mn_E J ok x) (J 4 x) (J 5 x) i j := by
  unfold mn_E dm_E
  constructor
  · intro ⟨w, w0, w1, w2, w3⟩
    by_cases y : w = x
    · rw [y] at w3
      rcases w3 with w3 | w3
      · exact Or.inr (Or.inl ⟨w3.1.symm, w3.2.symm⟩)
      · exact Or.inr (Or.inr ⟨w3.2.symm, w3.1.symm⟩)
    · exact Or.inl ⟨w, w0, by omega, w2, w3⟩
  · intro q
    rcases q with ⟨w, w0, w1, w2, w3⟩ | ⟨q1, q2⟩ | ⟨q1, q2⟩
    · exact ⟨w, w0, by omega, w2, w3⟩
    · exact ⟨x, x0, by omega, h, Or.inl ⟨q1.symm, q2.symm⟩⟩
    · exact ⟨x, x0, by omega, h, Or.inr ⟨q2.symm, q1.symm⟩⟩
theorem mn_E0 (h : ok x = false) : mn_E J ok (x + 1) i j ↔ mn_E J ok x i j := by
  unfold mn_E
  constructor
  · intro ⟨w, w0, w1, w2, w3⟩
    by_cases y : w = x
    · rw [y, h] at w2; cases w2
    · exact ⟨w, w0, by omega, w2, w3⟩
  · intro ⟨w, w0, w1, w2, w3⟩
    exact ⟨w, w0, by omega, w2, w3⟩
/-- gates alone -/
def wh_ok (J : Nat → Int → Int) (w : Int) : Bool := decide (J 6 w = 0)
def wh_d (J : Nat → Int → Int) (d : Int → Int → Int) : Prop := dm_M (J 1 0) (mn_E J (wh_ok J) (J 1 1)) d
theorem gq_148 {Q : lf_Z → Prop} (hW : mn_W s.1) (k : ∀ t : lf_Z, (∀ c : Nat, c ≠ 14 → t.1 c = s.1 c) → t.2 = s.2 → wh_d s.1 (fun i j => t.1 14 (i * 12 + j)) → Q t) : fw_148 Q s := by
  obtain ⟨w0, w1, w2, w3, _⟩ := hW
  unfold fw_148
  refine fl_2 (fun u uc u2 ud => ?_)
  refine ⟨fun x t => 0 ≤ x ∧ x ≤ s.1 1 1 ∧ (∀ c : Nat, c ≠ 14 → t.1 c = s.1 c) ∧ t.2 = s.2 ∧ dm_M (s.1 1 0) (mn_E s.1 (wh_ok s.1) x) (fun i j => t.1 14 (i * 12 + j)), ?_, ⟨Int.le_refl 0, w1.1, uc, u2, ?_⟩⟩
  rotate_left
  · exact dm_C (dm_0 (m := s.1 1 0)) (fun i j i0 i1 j0 j1 => ud i j i0 (by omega) j0 (by omega)) (fun i j => ⟨fun ⟨w, w0, w1, _⟩ => by omega, fun h => h.elim⟩)
  intro x t ⟨x0, x1, tc, t2, tM⟩
  unfold fw_148_p9
  rw [tc 1 (by decide), tc 6 (by decide), tc 4 (by decide), tc 5 (by decide)]
  intro _ _
  refine ⟨fun q => ?_, fun q _ _ => ⟨fun y => ?_, fun y => ?_⟩⟩
  · have e : x = s.1 1 1 := by omega
    rw [e] at tM
    exact k t tc t2 tM
  · unfold fw_148_p46
    exact ⟨by omega, by omega, tc, t2, dm_C tM (fun _ _ _ _ _ _ => rfl) (fun i j => mn_E0 (by unfold wh_ok; exact decide_eq_false y))⟩
  · have e3 := w3 x x0 (by omega)
    refine fl_22b (s := t) tM (by rw [tc 1 (by decide)]) w0.1 w0.2 (fun _ _ _ _ _ _ => rfl) e3.1.1 e3.1.2 e3.2.1.1 e3.2.1.2 (fun v vc v2 vd _ => ?_)
    unfold fw_148_p46
    exact ⟨by omega, by omega, fun c hc => (vc c hc).trans (tc c hc), v2.trans t2, dm_C (dm_add tM e3.1.1 e3.1.2 e3.2.1.1 e3.2.1.2 e3.2.2) (fun i j i0 i1 j0 j1 => vd i j i0 i1 j0 j1) (fun i j => mn_E1 x0 (by unfold wh_ok; exact decide_eq_true (Classical.not_not.mp y)))⟩
/-- where beasts are that got out of a home by a way -/
def wh_o (J : Nat → Int → Int) (w : Int) : Int := if J 6 w = 0 ∧ ¬ (J 2 (J 4 w) = 3 ↔ J 2 (J 5 w) = 3) then (if J 2 (J 4 w) = 3 then J 5 w else J 4 w) else -1
theorem gq_149 {Q : Int → lf_Z → Prop} (w0 : 0 ≤ w) (w1 : w < s.1 1 1) (h : Q (wh_o s.1 w) s) : fw_149 w Q s := by
  unfold fw_149
  refine fl_89 ⟨fun q _ _ _ => ?_, fun q => ?_⟩
  · rw [Bool.and_eq_true, decide_eq_true_eq] at q
    refine ⟨fun y1 => ?_, fun y1 => ?_⟩
    · unfold fw_149_p30
      intro _ _ _
      refine ⟨fun y2 => ?_, fun y2 => ?_⟩
      · unfold fw_149_p51
        intro _ _
        refine ⟨fun y => absurd rfl y, fun _ => qu_to h (if_neg (fun m => m.2 ⟨fun z => absurd z y1, fun z => absurd z y2⟩))⟩
      · unfold fw_149_p51
        intro _ _
        refine ⟨fun _ => ⟨fun _ _ => qu_to h ?_, fun y => absurd rfl y⟩, fun y => absurd (show (0 : Int) ≠ 1 by decide) y⟩
        unfold wh_o
        rw [if_pos ⟨q.2, fun m => y1 (m.2 (Classical.not_not.mp y2))⟩, if_neg y1]
    · have y1 := Classical.not_not.mp y1
      unfold fw_149_p30
      intro _ _ _
      refine ⟨fun y2 => ?_, fun y2 => ?_⟩
      · unfold fw_149_p51
        intro _ _
        refine ⟨fun _ => ⟨fun y => absurd y (by decide), fun _ _ => qu_to h ?_⟩, fun y => absurd (show (1 : Int) ≠ 0 by decide) y⟩
        unfold wh_o
        rw [if_pos ⟨q.2, fun m => y2 (m.1 y1)⟩, if_pos y1]
      · have y2 := Classical.not_not.mp y2
        unfold fw_149_p51
        intro _ _
        refine ⟨fun y => absurd rfl y, fun _ => qu_to h (if_neg (fun m => m.2 ⟨fun _ => y2, fun _ => y1⟩))⟩
  · refine qu_to h (if_neg (fun m => ?_))
    rw [decide_eq_true w0, decide_eq_true w1, decide_eq_true m.1] at q
    cases q
theorem wh_oB (hW : mn_W J) (w0 : 0 ≤ w) (w1 : w < J 1 1) : wh_o J w = -1 ∨ (0 ≤ wh_o J w ∧ wh_o J w < J 1 0) := by
  have m := hW.2.2.2.1 w w0 w1
  unfold wh_o
  split
  · split
    · exact Or.inr m.2.1
    · exact Or.inr m.1
  · exact Or.inl rfl
/-- whether from there all the first k sights can be -/
def wh_a (d : Int → Int → Int) (S M : Int → Int) (o : Int) : Nat → Bool
  | 0 => true
  | k + 1 => wh_a d S M o k && decide (d o (S (k : Int)) ≤ M (k : Int))
theorem wh_aF {o : Int} : ∀ (n k : Nat), k ≤ n → wh_a d S M o k = false → wh_a d S M o n = false := by
  intro n
  induction n with
  | zero => intro k h e; rw [show k = 0 by omega] at e; exact e
  | succ n ih =>
    intro k h e
    by_cases y : k = n + 1
    · rw [← y]; exact e
    · show (wh_a d S M o n && decide (d o (S (n : Int)) ≤ M (n : Int))) = false
      rw [ih k (by omega) e, Bool.false_and]
/-- the gates it can be, among the first k -/
def wh_b (J : Nat → Int → Int) (d : Int → Int → Int) (S M : Int → Int) (c : Nat) : Nat → Int
  | 0 => 0
  | k + 1 => if wh_o J (k : Int) ≠ -1 ∧ wh_a d S M (wh_o J (k : Int)) c = true then lf_or (wh_b J d S M c k) (lf_shl 1 (k : Int)) else wh_b J d S M c k
theorem wh_b0 {c : Nat} : ∀ k : Nat, lf_or (wh_b J d S M c k) 0 = wh_b J d S M c k := by
  intro k
  induction k with
  | zero => show lf_or 0 0 = 0; decide
  | succ k ih =>
    show lf_or (if wh_o J (k : Int) ≠ -1 ∧ wh_a d S M (wh_o J (k : Int)) c = true then lf_or (wh_b J d S M c k) (lf_shl 1 (k : Int)) else wh_b J d S M c k) 0 = (if wh_o J (k : Int) ≠ -1 ∧ wh_a d S M (wh_o J (k : Int)) c = true then lf_or (wh_b J d S M c k) (lf_shl 1 (k : Int)) else wh_b J d S M c k)
    split
    · exact lf_or0
    · exact ih
theorem gq_150 {Q : Bool → lf_Z → Prop} {n0 o : Int} (e0 : s.1 1 0 = n0) (ho : 0 ≤ o ∧ o < n0) (hs : gx_s n0 (s.1 25 2) (s.1 26) (s.1 27) A) (hd : ∀ j : Int, 0 ≤ j → j < n0 → s.1 14 (o * 12 + j) = d o j) (h : Q (wh_a d (s.1 26) (s.1 27) o (s.1 25 2).toNat) s) : fw_150 o Q s := by
  obtain ⟨⟨_, c0, c6⟩, hk⟩ := hs
  unfold fw_150
  refine ⟨fun x t => t = s ∧ ∃ k : Nat, x = k ∧ (k : Int) ≤ s.1 25 2 ∧ wh_a d (s.1 26) (s.1 27) o k = true, ?_, ⟨rfl, 0, rfl, by omega, rfl⟩⟩
  intro x t ⟨ht, k, ex, hk1, hz⟩
  subst ht ex
  unfold fw_150_p2
  intro _ _
  refine ⟨fun q => ?_, fun q _ => ?_⟩
  · have e : (t.1 25 2).toNat = k := by omega
    rw [e, hz] at h
    exact h
  · obtain ⟨_, b1, b2⟩ := hk k (by omega) (by omega)
    unfold fw_151
    refine fl_18 ⟨fun q2 => absurd ⟨ho.1, by omega⟩ (bd_f q2), fun _ => fl_18 ⟨fun q2 => absurd ⟨b1.1, by omega⟩ (bd_f q2), fun _ _ => ?_⟩⟩
    rw [hd _ b1.1 b1.2]
    intro _ _
    refine ⟨fun y => ⟨rfl, k + 1, by omega, by omega, ?_⟩, fun y => ?_⟩
    · show (wh_a d (t.1 26) (t.1 27) o k && decide (d o (t.1 26 (k : Int)) ≤ t.1 27 (k : Int))) = true
      rw [hz, decide_eq_true y]; rfl
    · have e : wh_a d (t.1 26) (t.1 27) o (k + 1) = false := by
        show (wh_a d (t.1 26) (t.1 27) o k && decide (d o (t.1 26 (k : Int)) ≤ t.1 27 (k : Int))) = false
        rw [decide_eq_false y, Bool.and_false]
      rw [wh_aF (t.1 25 2).toNat (k + 1) (by omega) e] at h
      exact h
theorem gq_147 {Q : Int → lf_Z → Prop} (hF : gf_T s.1 f H) (h7 : gx_7 s.1) (h : ∀ (t : lf_Z) (d : Int → Int → Int), wh_d s.1 d → Q (wh_b s.1 d (s.1 26) (s.1 27) (s.1 25 2).toNat (s.1 1 1).toNat) t) : fw_147 Q s := by
  have w1 := hF.1.1.2.1
  unfold fw_147
  refine gq_148 hF.1.1 (fun t tc t2 tM => ?_)
  have h := h t _ tM
  refine ⟨fun x i u => u = t ∧ ∃ k : Nat, i = k ∧ (k : Int) ≤ s.1 1 1 ∧ x = wh_b s.1 (fun i j => t.1 14 (i * 12 + j)) (s.1 26) (s.1 27) (s.1 25 2).toNat k, ?_, ⟨rfl, 0, rfl, by omega, rfl⟩⟩
  intro x i u ⟨eu, k, ei, hk, ex⟩
  subst eu ei ex
  unfold fw_147_p11
  rw [tc 1 (by decide)]
  intro _ _
  have oE : wh_o u.1 (k : Int) = wh_o s.1 (k : Int) := by
    unfold wh_o
    rw [tc 6 (by decide), tc 2 (by decide), tc 4 (by decide), tc 5 (by decide)]
  refine ⟨fun q => by rw [show (s.1 1 1).toNat = k by omega] at h; exact h, fun q => gq_149 (by omega) (by rw [tc 1 (by decide)]; omega) ?_⟩
  rw [oE]
  intro _
  refine ⟨fun y => ?_, fun y => ?_⟩
  · unfold fw_147_p57
    exact ⟨rfl, k + 1, by omega, by omega, (if_neg (fun m => m.1 y)).symm⟩
  · have ob : 0 ≤ wh_o s.1 (k : Int) ∧ wh_o s.1 (k : Int) < s.1 1 0 := by
      rcases wh_oB (w := (k : Int)) hF.1.1 (by omega) (by omega) with e | e
      · exact absurd e y
      · exact e
    refine gq_150 (A := s.1 96) (n0 := s.1 1 0) (d := fun i j => u.1 14 (i * 12 + j)) (by rw [tc 1 (by decide)]) ob (by rw [tc 25 (by decide), tc 26 (by decide), tc 27 (by decide)]; exact h7) (fun _ _ _ => rfl) ?_
    rw [tc 25 (by decide), tc 26 (by decide), tc 27 (by decide)]
    refine ⟨fun z => ?_, fun z => ?_⟩
    · unfold fw_147_p57
      exact ⟨rfl, k + 1, by omega, by omega, (if_neg (fun m => by rw [m.2] at z; cases z)).symm⟩
    · unfold fw_147_p57
      exact ⟨rfl, k + 1, by omega, by omega, (if_pos ⟨y, z⟩).symm⟩
/-- nothing but the distances' scratch -/
theorem gq_307 {Q : Bool → lf_Z → Prop} {o : Int} (hF : gf_T J f H) (hR : gr_T sv J f H (s.1 96)) (hd : wh_d J d) (ho : 0 ≤ o ∧ o < J 1 0) {c : Int} (hs : gx_s (J 1 0) c S M (s.1 96)) (h : ∀ t : lf_Z, (∀ q : Nat, q ≠ 108 → t.1 q = s.1 q) → Q (wh_a d S M o c.toNat) t) : fw_307 o Q s := by
  obtain ⟨⟨ec, c0, c6⟩, hk⟩ := hs
  unfold fw_307
  refine fl_261 (J := J) (ok := wh_ok J) (d := d) hR.1 hF.1.1 hF.1.2.1 (fun w => by unfold wh_ok; rfl) hd ho.1 ho.2 (fun t tc t2 td => ?_)
  have h := h t tc
  refine ⟨fun x u => u = t ∧ ∃ k : Nat, x = k ∧ (k : Int) ≤ c ∧ wh_a d S M o k = true, ?_, ⟨rfl, 0, rfl, by omega, rfl⟩⟩
  intro x u ⟨eu, k, ex, hk1, hz⟩
  subst eu ex
  unfold fw_307_p8
  rw [tc 96 (by decide), ← ec]
  intro _ _
  refine ⟨fun q => ?_, fun q _ => ?_⟩
  · have e : c.toNat = k := by omega
    rw [e, hz] at h
    exact h
  · obtain ⟨⟨g1, g2⟩, b1, b2⟩ := hk k (by omega) (by omega)
    rw [← g1, ← g2]
    intro _ _
    rw [td _ b1.1 b1.2, hd.2.2.1 (S (k : Int)) o b1.1 b1.2 ho.1 ho.2]
    intro _ _
    refine ⟨fun y => ⟨rfl, k + 1, by omega, by omega, ?_⟩, fun y => ?_⟩
    · show (wh_a d S M o k && decide (d o (S (k : Int)) ≤ M (k : Int))) = true
      rw [hz, decide_eq_true y]; rfl
    · have e : wh_a d S M o (k + 1) = false := by
        show (wh_a d S M o k && decide (d o (S (k : Int)) ≤ M (k : Int))) = false
        rw [decide_eq_false y, Bool.and_false]
      rw [wh_aF c.toNat (k + 1) (by omega) e] at h
      exact h
theorem gq_306 {Q : Int → lf_Z → Prop} (hF : gf_T J f H) (hR : gr_T sv J f H (s.1 96)) (hd : wh_d J d) {c : Int} (hs : gx_s (J 1 0) c S M (s.1 96)) (h : ∀ t : lf_Z, Q (wh_b J d S M c.toNat (J 1 1).toNat) t) : fw_306 Q s := by
  have w1 := hF.1.1.2.1
  have e1 : s.1 96 1 = J 1 1 := hR.1.2.1
  unfold fw_306
  refine ⟨fun x i u => u.1 96 = s.1 96 ∧ ∃ k : Nat, i = k ∧ (k : Int) ≤ J 1 1 ∧ x = wh_b J d S M c.toNat k, ?_, ⟨rfl, 0, rfl, by omega, rfl⟩⟩
  intro x i u ⟨eu, k, ei, hk, ex⟩
  subst ei ex
  unfold fw_306_p4
  rw [eu, e1]
  intro _ _
  refine ⟨fun q => by have h := h u; rw [show (J 1 1).toNat = k by omega] at h; exact h, fun q _ _ => ?_⟩
  have hL : rr_L J (u.1 96) := by rw [eu]; exact hR.1
  obtain ⟨l4, l5, l6⟩ := hR.1.2.2.2.2.1 (k : Int) (by omega) (by omega)
  have m := hF.1.1.2.2.2.1 (k : Int) (by omega) (by omega)
  rw [l4, l5]
  have no : wh_o J (k : Int) = -1 → ∃ k' : Nat, ((k : Int) + 1) = k' ∧ (k' : Int) ≤ J 1 1 ∧ wh_b J d S M c.toNat k = wh_b J d S M c.toNat k' := fun y => ⟨k + 1, by omega, by omega, (if_neg (fun m => m.1 y)).symm⟩
  have yes : ∀ (t : lf_Z) (o : Int), t.1 96 = s.1 96 → wh_o J (k : Int) = o → 0 ≤ o ∧ o < J 1 0 → fw_306_p101 (fun x i u => u.1 96 = s.1 96 ∧ ∃ k : Nat, i = k ∧ (k : Int) ≤ J 1 1 ∧ x = wh_b J d S M c.toNat k) Q (k : Int) (wh_b J d S M c.toNat k) o t := by
    intro t o et eo ho
    unfold fw_306_p101
    refine gq_307 (sv := sv) (f := f) (H := H) hF (by rw [et]; exact hR) hd ho (by rw [et]; exact hs) (fun v vc => ?_)
    have ev : v.1 96 = s.1 96 := (vc 96 (by decide)).trans et
    refine ⟨fun z => ?_, fun z => ?_⟩
    · unfold fw_306_p114 fw_306_p116
      refine ⟨ev, k + 1, by omega, by omega, ?_⟩
      rw [wh_b0]
      exact (if_neg (fun m => by rw [eo, z] at m; cases m.2)).symm
    · unfold fw_306_p114 fw_306_p116
      refine ⟨ev, k + 1, by omega, by omega, ?_⟩
      exact (if_pos ⟨by rw [eo]; omega, by rw [eo]; exact z⟩).symm
  refine fl_252 hL (by omega) (by omega) ⟨fun y => ?_, fun y => ?_⟩
  · unfold fw_306_p116
    refine ⟨eu, no (if_neg (fun m => ?_))⟩
    have := of_decide_eq_true y
    have := m.1
    omega
  · have y6 : J 6 (k : Int) = 0 := by
      have := of_decide_eq_false y
      have := hF.1.2.1.1 (k : Int)
      omega
    refine fl_265 hL m.1.1 m.1.2 ?_
    have fin : ∀ (y0 y1 : Int), (y0 = if J 2 (J 4 (k : Int)) = 3 then 1 else 0) → (y1 = if J 2 (J 5 (k : Int)) = 3 then 1 else 0) → fw_306_p78 (fun x i u => u.1 96 = s.1 96 ∧ ∃ k : Nat, i = k ∧ (k : Int) ≤ J 1 1 ∧ x = wh_b J d S M c.toNat k) Q (wh_b J d S M c.toNat k) (k : Int) (J 4 (k : Int)) (J 5 (k : Int)) y0 y1 u := by
      intro y0 y1 h0 h1
      unfold fw_306_p78
      intro _ _
      refine ⟨fun ne => fl_265 hL m.1.1 m.1.2 ?_, fun eq => ?_⟩
      · have ho : ¬ (J 2 (J 4 (k : Int)) = 3 ↔ J 2 (J 5 (k : Int)) = 3) := fun q => ne (by
          rw [h0, h1]
          by_cases c1 : J 2 (J 4 (k : Int)) = 3
          · rw [if_pos c1, if_pos (q.1 c1)]
          · rw [if_neg c1, if_neg (fun c2 => c1 (q.2 c2))])
        intro _
        refine ⟨fun c1 => yes u (J 4 (k : Int)) eu ?_ m.1, fun c1 => yes u (J 5 (k : Int)) eu ?_ m.2.1⟩
        · unfold wh_o; rw [if_pos ⟨y6, ho⟩, if_neg c1]
        · unfold wh_o; rw [if_pos ⟨y6, ho⟩, if_pos (Classical.not_not.mp c1)]
      · unfold fw_306_p116
        refine ⟨eu, no (if_neg (fun q => q.2 ?_))⟩
        have eq := Classical.not_not.mp eq
        rw [h0, h1] at eq
        by_cases c1 : J 2 (J 4 (k : Int)) = 3
        · by_cases c2 : J 2 (J 5 (k : Int)) = 3
          · exact ⟨fun _ => c2, fun _ => c1⟩
          · rw [if_pos c1, if_neg c2] at eq; exact absurd eq (by decide)
        · by_cases c2 : J 2 (J 5 (k : Int)) = 3
          · rw [if_neg c1, if_pos c2] at eq; exact absurd eq (by decide)
          · exact ⟨fun z => absurd z c1, fun z => absurd z c2⟩
    intro _
    refine ⟨fun c1 => ?_, fun c1 => ?_⟩
    · unfold fw_306_p63
      refine fl_265 hL m.2.1.1 m.2.1.2 ?_
      intro _
      exact ⟨fun c2 => fin 0 0 (if_neg c1).symm (if_neg c2).symm, fun c2 => fin 0 1 (if_neg c1).symm (if_pos (Classical.not_not.mp c2)).symm⟩
    · unfold fw_306_p63
      refine fl_265 hL m.2.1.1 m.2.1.2 ?_
      intro _
      exact ⟨fun c2 => fin 1 0 (if_pos (Classical.not_not.mp c1)).symm (if_neg c2).symm, fun c2 => fin 1 1 (if_pos (Classical.not_not.mp c1)).symm (if_pos (Classical.not_not.mp c2)).symm⟩
end WH
