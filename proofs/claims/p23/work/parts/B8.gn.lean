/-! the other calls within the law: tape, texts, sights, mending, tries, image, a text played -/
section GN
variable {J K M : Nat → Int → Int} {s t u : lf_Z} {f f' g A B sv sw F S S' : Int → Int} {H H' G : List rr_H} {X : mn_X} {I I' C C' : Nat → Int → Int} {P P' : Nat → Option Nat} {o : Option Nat} {a b c d e r j n w x : Int} {T T' : Int → Int} {D : List Int} {l : List Nat} {bb : Bool} {p : Int → Prop} {z : Bool}
theorem gx_nc {c : Nat} (h : ∀ x ∈ l, x ≠ c) : l.contains c = false := by
  cases q : l.contains c with
  | false => rfl
  | true =>
    have m : c ∈ l := by simpa using q
    exact absurd rfl (h c m)
theorem bd_t {P Q : Prop} [Decidable P] [Decidable Q] (h : (decide P && decide Q) = true) : P ∧ Q := by
  rw [Bool.and_eq_true, decide_eq_true_eq, decide_eq_true_eq] at h
  exact h
theorem bd_f {P Q : Prop} [Decidable P] [Decidable Q] (h : (decide P && decide Q) = false) : ¬ (P ∧ Q) := fun y => by
  rw [decide_eq_true y.1, decide_eq_true y.2] at h
  cases h
theorem gx_w {e : Int} (h : -2147483648 ≤ e ∧ e ≤ 2147483647) : lf_w e = e := Int32.toInt_ofInt_of_le h.1 (Int.lt_add_one_of_le h.2)
/-- all but the tape -/
def gx_E (I : Nat → Int → Int) (o : Option Nat) : Prop := gx_1 I ∧ gx_2 I ∧ gx_i I ∧ gx_x I o ∧ tr_A I ∧ gx_7 I ∧ gx_8 I ∧ gx_9 I
theorem gx_AE (h : gx_A I P) : gx_E I (P 3) ∧ tp_A I := ⟨⟨h.1, h.2.1, h.2.2.1, h.2.2.2.1, h.2.2.2.2.2.1, h.2.2.2.2.2.2.1, h.2.2.2.2.2.2.2.1, h.2.2.2.2.2.2.2.2⟩, h.2.2.2.2.1⟩
theorem gx_EA (h : gx_E I (P 3)) (k : tp_A I) : gx_A I P := ⟨h.1, h.2.1, h.2.2.1, h.2.2.2.1, k, h.2.2.2.2.1, h.2.2.2.2.2.1, h.2.2.2.2.2.2.1, h.2.2.2.2.2.2.2⟩
theorem gx_Ec (q : ∀ c : Nat, ((c < 31 ∧ c ≠ 14) ∨ (35 ≤ c ∧ c < 63) ∨ (78 ≤ c ∧ c < 95) ∨ (96 ≤ c ∧ c ≤ 98)) → I' c = I c) (q9 : gx_9 I') (h : gx_E I o) : gx_E I' o := by
  obtain ⟨h1, h2, h3, h4, h5, h6, h7, _⟩ := h
  exact ⟨gx_1c (fun c y => q c (by omega)) h1, gx_2c (q 1 (by omega)) (q 78 (by omega)) h2, gx_ic (fun c y => q c (by omega)) h3, gx_xc (fun c y => q c (by omega)) h4, tr_Ac (fun c y => q c (by omega)) (fun i _ => by rw [q 96 (by omega)]) h5, gx_7c (fun c y => q c (by omega)) (by rw [q 1 (by omega)]; exact Int.le_refl _) (fun i _ => by rw [q 96 (by omega)]) h6, gx_8c (fun c y => q c (by omega)) h7, q9⟩
theorem gx_9e (h : gx_9 I) (q : ∀ i : Int, i ≠ 4 → I' 95 i = I 95 i) : gx_9 I' := by
  unfold gx_9 zq_9 at *
  rw [q 29 (by decide), q 31 (by decide), q 30 (by decide)]
  exact h
/-- the reference's half in other cells of its row -/
theorem gr_Tx (hW : mn_W J) (hH : mi_H J H) (e : ∀ i : Int, ((0 ≤ i ∧ i ≤ 3) ∨ i = 6 ∨ i = 9 ∨ (14 ≤ i ∧ i < 162) ∨ 278 ≤ i) → B i = A i) (hm : gr_m (J 1 1) sw B) (h : gr_T sv J f H A) : gr_T sw J f H B := by
  obtain ⟨w0, w1, w2, _⟩ := hW
  obtain ⟨⟨l0, l1, l2, l3, l4, l5⟩, ⟨s1, s2, s3, s4, s5, s6⟩, ⟨h1, h2⟩, _⟩ := h
  have hl := hH.1
  refine ⟨⟨(e 0 (by omega)).trans l0, (e 1 (by omega)).trans l1, (e 2 (by omega)).trans l2, fun q q0 q1 => ?_, fun q q0 q1 => ?_, fun q q0 q1 => ?_⟩, ⟨(e 3 (by omega)).trans s1, (e 6 (by omega)).trans s2, fun b b0 b1 => ⟨(e _ (by omega)).trans (s3 b b0 b1).1, fun q => ⟨(e _ (by omega)).trans ((s3 b b0 b1).2 q).1, (e _ (by omega)).trans ((s3 b b0 b1).2 q).2⟩⟩, fun p p0 p1 => ⟨(e _ (by omega)).trans (s4 p p0 p1).1, (e _ (by omega)).trans (s4 p p0 p1).2⟩, fun s s0 s1 => (e _ (by omega)).trans (s5 s s0 s1), fun w x0 x1 => (e _ (by omega)).trans (s6 w x0 x1)⟩, ⟨(e 9 (by omega)).trans h1, rr_hsC H (fun h hh => Int.le_trans (hH.2 h hh).2.1.2 w1.2) (fun i i0 i1 => e i (by omega)) h2⟩, hm⟩
  · exact ⟨(e _ (by omega)).trans (l3 q q0 q1).1, (e _ (by omega)).trans (l3 q q0 q1).2⟩
  · exact ⟨(e _ (by omega)).trans (l4 q q0 q1).1, (e _ (by omega)).trans (l4 q q0 q1).2.1, (e _ (by omega)).trans (l4 q q0 q1).2.2⟩
  · exact ⟨(e _ (by omega)).trans (l5 q q0 q1).1, (e _ (by omega)).trans (l5 q q0 q1).2.1, (e _ (by omega)).trans (l5 q q0 q1).2.2.1, (e _ (by omega)).trans (l5 q q0 q1).2.2.2⟩
theorem gr_fe (e4 : ∀ i : Int, fr_g 4 i → B i = A i) (e5 : ∀ i : Int, fr_g 5 i → B i = A i) (e6 : ∀ i : Int, fr_g 6 i → B i = A i) (i : Int) (h : (0 ≤ i ∧ i ≤ 3) ∨ i = 6 ∨ i = 9 ∨ (14 ≤ i ∧ i < 162) ∨ 278 ≤ i) : B i = A i := by
  by_cases c5 : i = 9 ∨ 278 ≤ i
  · exact e5 i c5
  · by_cases c6 : i = 3 ∨ i = 6 ∨ (14 ≤ i ∧ i < 50 ∧ (i - 14) % 3 = 2) ∨ (50 ≤ i ∧ i < 114 ∧ (i - 50) % 4 = 3) ∨ (114 ≤ i ∧ i < 126) ∨ (126 ≤ i ∧ i < 162 ∧ ((i - 126) % 6 = 3 ∨ (i - 126) % 6 = 4))
    · exact e6 i c6
    · exact e4 i (show i = 0 ∨ i = 1 ∨ i = 2 ∨ (14 ≤ i ∧ i < 50 ∧ (i - 14) % 3 ≠ 2) ∨ (50 ≤ i ∧ i < 114 ∧ (i - 50) % 4 ≠ 3) ∨ (126 ≤ i ∧ i < 162 ∧ (i - 126) % 6 ≠ 3 ∧ (i - 126) % 6 ≠ 4) by omega)
theorem gx_1f (q : ∀ c : Nat, ((1 ≤ c ∧ c < 14) ∨ (15 ≤ c ∧ c < 25) ∨ c = 28) → I' c = I c) (e2 : ∀ i : Int, fr_g 2 i → I' 96 i = I 96 i) (e4 : ∀ i : Int, fr_g 4 i → I' 96 i = I 96 i) (e5 : ∀ i : Int, fr_g 5 i → I' 96 i = I 96 i) (e6 : ∀ i : Int, fr_g 6 i → I' 96 i = I 96 i) (h : gx_1 I) : gx_1 I' := by
  obtain ⟨f, H, h1, h2, h3⟩ := h
  have g : gj_e I I' := fun c c0 c1 => q c (by omega)
  refine ⟨f, H, gf_Te g h1, gc_Te (fun c c0 c1 => q c (by omega)) h2, ?_⟩
  rw [q 28 (by omega)]
  exact gr_Te g (gr_Tx h1.1.1 h1.2.2 (gr_fe e4 e5 e6) (gr_me h1.1.1.2.1.2 (fun i i0 i1 => e2 i ⟨i0, i1⟩) h3.2.2.2) h3)
theorem tz_195b {Q : Int → lf_Z → Prop} (h0 : 0 ≤ s.1 95 4) (hn : s.1 95 4 ≤ 300) (hb : cl_tp (s.1 99) (s.1 95 4)) (k4 : s.1 96 7 = 4 → Q (-1) s) (kk : s.1 96 7 ≠ 4 → ∀ (w : Int) (t : lf_Z), (∀ j : Int, j < 705 * s.1 96 7 → t.1 98 j = s.1 98 j) → (w ≠ -1 → w = s.1 96 7 ∧ rs_X (s.1 99) (s.1 95 4) (t.1 98) (705 * s.1 96 7) (tx_ps (s.1 99) (s.1 95 4) tx_g0 301 (lx_sk (s.1 99) (s.1 95 4) 0))) → (∀ i : Int, 24 < i → t.1 95 i = s.1 95 i) → Q w t) : fw_195 Q s := by
  unfold fw_195
  intro _
  refine ⟨fun c => tz_196 rfl h0 hn hb (fun v t tL tX => ?_), fun c => k4 (Classical.not_not.mp c)⟩
  have kk := kk c
  have t96 : t.1 96 = s.1 96 := tL.1.1 96 (by decide) (by decide) (by decide) (by decide) (by decide) (by decide)
  have t95 : ∀ i : Int, 24 < i → t.1 95 i = s.1 95 i := fun i hi => tL.1.2.1 i (by omega) (by omega)
  intro _
  have e5 : ∀ {x : Int}, ((lf_up t.1 95 5 x, t.2.1, t.2.2) : lf_Z).1 95 5 = x := zu_s
  have e96 : ∀ {x : Int}, ((lf_up t.1 95 5 x, t.2.1, t.2.2) : lf_Z).1 96 = t.1 96 := zu_r (by decide)
  refine ⟨fun y => ?_, fun y => ?_⟩
  · unfold fw_195_p37
    rw [e5]
    intro _
    refine ⟨fun w => absurd w y, fun _ => kk _ _ (fun j hj => ?_) (fun w => absurd rfl w) (fun i hi => ?_)⟩
    · exact (zu_c (by decide)).trans ((lf_up_c (by decide)).trans ((zu_c (by decide)).trans (tL.2 j hj)))
    · exact (zu_i (by omega)).trans ((lf_up_i (by omega)).trans ((zu_i (by omega)).trans (t95 i hi)))
  · have y := Classical.not_not.mp y
    unfold fw_195_p37
    rw [e5, e96, t96]
    intro _
    refine ⟨fun _ => kk _ _ (fun j hj => ?_) (fun _ => ⟨by omega, ?_⟩) (fun i hi => ?_), fun w => absurd y w⟩
    · exact (zu_c (by decide)).trans ((lf_up_c (by decide)).trans ((lf_up_c (by decide)).trans ((zu_c (by decide)).trans (tL.2 j hj))))
    · have e : ∀ x y z w : Int, ((lf_up (lf_up (lf_up (lf_up t.1 95 5 x) 95 6 y) 95 4 z) 96 7 w) : Nat → Int → Int) 98 = t.1 98 := fun x y z w => (lf_up_row (by decide)).trans ((lf_up_row (by decide)).trans ((lf_up_row (by decide)).trans (lf_up_row (by decide))))
      have X := tX y
      rw [← e v (-1) 0 (s.1 96 7 + 1)] at X
      exact X
    · exact (zu_c (by decide)).trans ((lf_up_i (by omega)).trans ((lf_up_i (by omega)).trans ((zu_i (by omega)).trans (t95 i hi))))
/-! feed, end -/
def gx_S25 (a1 a2 a3 a4 a5 : Int) (r : Int) (I : Nat → Int → Int) (P : Nat → Option Nat) : Prop := gx_E I (P 3) ∧ tp_FM a1 a2 a3 a4 a5 r I
def gx_R25 (a1 a2 a3 a4 a5 : Int) (p : Int → Prop) (I : Nat → Int → Int) (P : Nat → Option Nat) : Prop := gx_MP (gx_S25 a1 a2 a3 a4 a5) p I P
theorem gx_25 {a1 a2 a3 a4 a5 : Int} {Q : Int → lf_Z → Prop} (hI : iv_A s.1 s.2.2) (ba1 : (-2147483648) ≤ a1 ∧ a1 ≤ 2147483647) (ba2 : (-2147483648) ≤ a2 ∧ a2 ≤ 2147483647) (ba3 : (-2147483648) ≤ a3 ∧ a3 ≤ 2147483647) (ba4 : (-2147483648) ≤ a4 ∧ a4 ≤ 2147483647) (ba5 : (-2147483648) ≤ a5 ∧ a5 ≤ 2147483647) (hA : gx_A s.1 s.2.2) (hQ : ∀ (r : Int) (s' : lf_Z), iv_A s'.1 s'.2.2 → lf_fq [31, 32] 1000000 true s.1 s.2.2 s'.1 s'.2.2 → gx_S25 a1 a2 a3 a4 a5 r s'.1 s'.2.2 → ((-1) ≤ r ∧ r ≤ 300) → Q r s') : fm_25 a1 a2 a3 a4 a5 Q s := by
  obtain ⟨hE, hT⟩ := gx_AE hA
  refine tp_25 hI ba1 ba2 ba3 ba4 ba5 (fun r s' h1 h2 h3 h4 => hQ r s' h1 h2 ⟨?_, tp_f1 hT h2 h3⟩ h4)
  rw [h2.2.2.1 rfl]
  exact gx_Ec (fun c y => h2.1 c (gx_nc (by simp; omega))) (gx_9c (h2.1 95 rfl) hE.2.2.2.2.2.2.2) hE
theorem gx_192 {a1 a2 a3 a4 a5 : Int} {Q : Int → lf_Z → Prop} (hI : iv_A s.1 s.2.2) (ba1 : (-2147483648) ≤ a1 ∧ a1 ≤ 2147483647) (ba2 : (-2147483648) ≤ a2 ∧ a2 ≤ 2147483647) (ba3 : (-2147483648) ≤ a3 ∧ a3 ≤ 2147483647) (ba4 : (-2147483648) ≤ a4 ∧ a4 ≤ 2147483647) (ba5 : (-2147483648) ≤ a5 ∧ a5 ≤ 2147483647) (hM : gx_R25 a1 a2 a3 a4 a5 p s.1 s.2.2) (hQ : ∀ (r : Int) (s' : lf_Z), iv_A s'.1 s'.2.2 → lf_fq [95, 99] 1000000 true s.1 s.2.2 s'.1 s'.2.2 → (gx_p p r ∧ gx_A s'.1 s'.2.2) → ((-1) ≤ r ∧ r ≤ 300) → Q r s') : fm_192 a1 a2 a3 a4 a5 Q s := by
  obtain ⟨r0, hp, hE, hT⟩ := hM
  refine tp_192 hI ba1 ba2 ba3 ba4 ba5 (fun r s' h1 h2 h3 h4 => hQ r s' h1 h2 ⟨(tp_f2 hT h2 h3).1 ▸ hp, gx_EA ?_ (tp_f2 hT h2 h3).2⟩ h4)
  rw [h2.2.2.1 rfl]
  exact gx_Ec (fun c y => h2.1 c (gx_nc (by simp; omega))) (gx_9e hE.2.2.2.2.2.2.2 h3.2) hE
def gx_S27 (a1 : Int) (r : Int) (I : Nat → Int → Int) (P : Nat → Option Nat) : Prop := gx_E I (P 3) ∧ tp_EM a1 r I
def gx_R27 (a1 : Int) (p : Int → Prop) (I : Nat → Int → Int) (P : Nat → Option Nat) : Prop := gx_MP (gx_S27 a1) p I P
theorem gx_27 {a1 : Int} {Q : Int → lf_Z → Prop} (hI : iv_A s.1 s.2.2) (ba1 : (-2147483648) ≤ a1 ∧ a1 ≤ 2147483647) (hA : gx_A s.1 s.2.2) (hQ : ∀ (r : Int) (s' : lf_Z), iv_A s'.1 s'.2.2 → lf_fq [31] 1000000 true s.1 s.2.2 s'.1 s'.2.2 → gx_S27 a1 r s'.1 s'.2.2 → ((-1) ≤ r ∧ r ≤ 300) → Q r s') : fm_27 a1 Q s := by
  obtain ⟨hE, hT⟩ := gx_AE hA
  refine tp_27 hI ba1 (fun r s' h1 h2 h3 h4 => hQ r s' h1 h2 ⟨?_, tp_e1 hT h2 h3⟩ h4)
  rw [h2.2.2.1 rfl]
  exact gx_Ec (fun c y => h2.1 c (gx_nc (by simp; omega))) (gx_9c (h2.1 95 rfl) hE.2.2.2.2.2.2.2) hE
theorem gx_194 {a1 : Int} {Q : Int → lf_Z → Prop} (hI : iv_A s.1 s.2.2) (ba1 : (-2147483648) ≤ a1 ∧ a1 ≤ 2147483647) (hM : gx_R27 a1 p s.1 s.2.2) (hQ : ∀ (r : Int) (s' : lf_Z), iv_A s'.1 s'.2.2 → lf_fq [95] 1000000 true s.1 s.2.2 s'.1 s'.2.2 → (gx_p p r ∧ gx_A s'.1 s'.2.2) → ((-1) ≤ r ∧ r ≤ 300) → Q r s') : fm_194 a1 Q s := by
  obtain ⟨r0, hp, hE, hT⟩ := hM
  refine tp_194 hI ba1 (fun r s' h1 h2 h3 h4 => hQ r s' h1 h2 ⟨(tp_e2 hT h2 h3).1 ▸ hp, gx_EA ?_ (tp_e2 hT h2 h3).2⟩ h4)
  rw [h2.2.2.1 rfl]
  exact gx_Ec (fun c y => h2.1 c (gx_nc (by simp; omega))) (gx_9e hE.2.2.2.2.2.2.2 h3.2) hE
/-! by -/
def gx_S60 (a1 : Int) (r : Int) (I : Nat → Int → Int) (P : Nat → Option Nat) : Prop := ∃ z : Bool, r = lf_b z ∧ gx_E I (P 3) ∧ tp_BM a1 z I
def gx_R60 (a1 : Int) (p : Int → Prop) (I : Nat → Int → Int) (P : Nat → Option Nat) : Prop := gx_MP (gx_S60 a1) p I P
theorem gx_60 {a1 : Int} {Q : Bool → lf_Z → Prop} (hI : iv_A s.1 s.2.2) (ba1 : (-2147483648) ≤ a1 ∧ a1 ≤ 2147483647) (hA : gx_A s.1 s.2.2) (hQ : ∀ (z : Bool) (s' : lf_Z), iv_A s'.1 s'.2.2 → lf_fq [0] 1000000 false s.1 s.2.2 s'.1 s'.2.2 → gx_S60 a1 (lf_b z) s'.1 s'.2.2 → pk_P s.2.2 s'.2.2 → Q z s') : fm_60 a1 Q s := by
  obtain ⟨hE, hT⟩ := gx_AE hA
  refine cj_60 (Q1 := fun z s' => iv_A s'.1 s'.2.2 ∧ lf_fq [0] 1000000 false s.1 s.2.2 s'.1 s'.2.2) (Q2 := fun z t => ((-1 ≤ a1 ∧ a1 ≤ s.1 0 11 - 1) ∧ z = true ∧ t = (lf_up s.1 0 12 a1, s.2.1, lf_ur s.2.2 3 (if 0 ≤ a1 ∧ a1 < s.1 0 11 then some a1.toNat else none))) ∨ (¬ (-1 ≤ a1 ∧ a1 ≤ s.1 0 11 - 1) ∧ z = false ∧ t = s)) (fun z s' h1 h2 => hQ z s' h1.1 h1.2 ⟨z, rfl, ?_, ?_⟩ (by rcases h2 with ⟨_, _, ht⟩ | ⟨_, _, ht⟩ <;> rw [ht] <;> exact ⟨rfl, rfl⟩)) (sm_60 hI ba1 (fun z s' h1 h2 => ⟨h1, h2⟩)) ?_
  · obtain ⟨e1, e2, e3, e4, e5⟩ := hE
    rcases h2 with ⟨q, _, ht⟩ | ⟨_, _, ht⟩
    · have y : ∀ c : Nat, c ≠ 0 → s'.1 c = s.1 c := fun c hc => by rw [ht]; exact zu_r hc
      have y0 : ∀ i : Int, i ≠ 12 → s'.1 0 i = s.1 0 i := fun i hi => by rw [ht]; exact zu_i hi
      have y1 : s'.1 0 12 = a1 := by rw [ht]; exact zu_s
      have y2 : s'.2.2 3 = (if 0 ≤ a1 then some a1.toNat else none) := by
        rw [ht]
        show (if 0 ≤ a1 ∧ a1 < s.1 0 11 then some a1.toNat else none) = _
        by_cases c : 0 ≤ a1
        · rw [if_pos ⟨c, by omega⟩, if_pos c]
        · rw [if_neg (fun m => c m.1), if_neg c]
      obtain ⟨x1, x2, x3, x4, x5⟩ := e4
      refine ⟨gx_1c (fun c hc => y c (by omega)) e1, gx_2c (y 1 (by decide)) (y 78 (by decide)) e2, gx_ic (fun c hc => y c (by omega)) e3, ?_, tr_Ac (fun c hc => y c (by omega)) (fun i _ => by rw [y 96 (by decide)]) e5.1, gx_7c (fun c hc => y c (by omega)) (by rw [y 1 (by decide)]; exact Int.le_refl _) (fun i _ => by rw [y 96 (by decide)]) e5.2.1, gx_8c (fun c hc => y c (by omega)) e5.2.2.1, gx_9c (y 95 (by decide)) e5.2.2.2⟩
      unfold gx_x
      rw [y0 11 (by decide), y1, y 78 (by decide), y 98 (by decide), y2]
      exact ⟨x1, fun k hk => gx_tc (fun c c0 c1 => y (35 + c) (by omega)) (fun _ _ _ => rfl) (x2 k hk), ⟨q.1, by omega⟩, rfl, x5⟩
    · rw [ht]; exact ⟨e1, e2, e3, e4, e5⟩
  · refine tp_b1 hT h1.2 ?_
    rcases h2 with ⟨q, hz, ht⟩ | ⟨q, hz, ht⟩
    · exact ⟨Or.inl ⟨q, by rw [ht]; exact zu_s, hz⟩, by rw [ht]; exact zu_i (by decide)⟩
    · exact ⟨Or.inr ⟨q, by rw [ht], hz⟩, by rw [ht]⟩
  · unfold fw_60
    refine fl_15 ⟨fun q => ib_61 hE.2.2.2.1.1.2 (Or.inl ⟨bd_t q, rfl, rfl⟩), fun q => Or.inr ⟨bd_f q, rfl, rfl⟩⟩
theorem gx_237 {a1 : Int} {Q : Bool → lf_Z → Prop} (hI : iv_A s.1 s.2.2) (ba1 : (-2147483648) ≤ a1 ∧ a1 ≤ 2147483647) (hM : gx_R60 a1 p s.1 s.2.2) (hQ : ∀ (z : Bool) (s' : lf_Z), iv_A s'.1 s'.2.2 → lf_fq [96, 1003] 8 true s.1 s.2.2 s'.1 s'.2.2 → (gx_p p (lf_b z) ∧ gx_A s'.1 s'.2.2) → Q z s') : fm_237 a1 Q s := by
  obtain ⟨r0, hp, z0, hz, hE, hT⟩ := hM
  refine tp_237 hI ba1 (fun z s' h1 h2 h3 => hQ z s' h1 h2 ⟨?_, gx_EA ?_ (tp_b2 hT h2 h3).2⟩)
  · rw [← (tp_b2 hT h2 h3).1, ← hz]; exact hp
  · rw [h2.2.2.1 rfl]
    have q : ∀ c : Nat, c < 96 ∨ c = 97 ∨ c = 98 → s'.1 c = s.1 c := fun c y => h2.1 c (gx_nc (by simp; omega))
    obtain ⟨h1, h2', h3, h4, h5, h6, h7, h9⟩ := hE
    have fr : ∀ k : Nat, (k ≠ 3 ∧ k < 7) → ∀ i, fr_g k i → s'.1 96 i = s.1 96 i := fun k hk => h2.2.2.2 k (gx_nc (by simp; omega))
    refine ⟨?_, gx_2c (q 1 (by omega)) (q 78 (by omega)) h2', gx_ic (fun c y => q c (by omega)) h3, gx_xc (fun c y => q c (by omega)) h4, tr_Ac (fun c y => q c (by omega)) (fr 0 (by decide)) h5, gx_7c (fun c y => q c (by omega)) (by rw [q 1 (by omega)]; exact Int.le_refl _) (fr 1 (by decide)) h6, gx_8c (fun c y => q c (by omega)) h7, gx_9c (q 95 (by omega)) h9⟩
    exact gx_1f (fun c y => q c (by omega)) (fr 2 (by decide)) (fr 4 (by decide)) (fr 5 (by decide)) (fr 6 (by decide)) h1
/-! text -/
theorem tx_cl : ∀ (k : Nat) (m : Int) (o : Int → Bool) (b : Int), (tx_lp F n g k m o b).1 = 0 → ∀ x ∈ tx_ps F n g k b, (ds_cl F n g x).1 = 0 := by
  intro k
  induction k with
  | zero => intro m o b _ x hx; exact absurd hx (by show x ∉ ([] : List Int); simp)
  | succ k ih =>
    intro m o b h x hx
    have h : (if lx_T F n b = 0 then (0, b) else if tx_ok F n m o b ≠ 0 then (tx_ok F n m o b, b) else ds_bd (ds_cl F n g b) (tx_lp F n g k (m + 1) (tx_o F n o b))).1 = 0 := h
    have hx : x ∈ (if lx_T F n b = 0 then [] else b :: tx_ps F n g k (ds_cl F n g b).2) := hx
    by_cases c0 : lx_T F n b = 0
    · rw [if_pos c0] at hx; simp at hx
    · rw [if_neg c0] at hx h
      by_cases c1 : tx_ok F n m o b ≠ 0
      · rw [if_pos c1] at h; exact absurd h c1
      · rw [if_neg c1] at h
        have y := ds_bdZ h
        rcases List.mem_cons.mp hx with e | hx
        · rw [e]; exact y.1
        · exact ih _ _ _ y.2 x hx
theorem ds_numR {lo hi : Int} (h : (ds_num F n lo hi b).1 = 0) : lo ≤ lx_V F n b ∧ lx_V F n b ≤ hi := by
  unfold ds_num at h
  split at h
  · split at h
    · rename_i q; exact q
    · exact absurd h (show (2 : Int) ≠ 0 by decide)
  · exact absurd h (show (1 : Int) ≠ 0 by decide)
theorem tx_26 (h : (tx_v F n g).1 = 0) : ∀ b ∈ tx_ps F n g 301 (lx_sk F n 0), cs_w F n b = 26 → 0 ≤ cs_v F n b ∧ cs_v F n b ≤ 9 := by
  intro b hb hw
  have hw : lx_T F n b = 26 := hw
  have y := tx_cl 301 0 (fun _ => false) (lx_sk F n 0) h b hb
  unfold ds_cl at y
  have y := (ds_bdZ y).1
  rw [if_pos (by omega), hw] at y
  unfold ds_deed at y
  rw [if_neg (by decide)] at y
  have y := ds_numR (ds_bdZ (ds_bdZ y).1).1
  unfold cs_v
  rw [if_pos (by omega)]
  have e1 : tx_sh ((26 - 23) * 5) = 0 := by decide
  have e2 : tx_sh ((26 - 23) * 5 + 1) = 9 := by decide
  rw [e1, e2] at y
  exact y
def gx_D28 (I : Nat → Int → Int) : List Int := tx_ps (I 99) (I 95 4) tx_g0 301 (lx_sk (I 99) (I 95 4) 0)
def gx_xt (r : Int) (I : Nat → Int → Int) (o : Option Nat) : Prop := (0 ≤ I 96 7 ∧ I 96 7 ≤ 4) ∧ (∀ k : Nat, (k : Int) < I 96 7 → gx_t (gx_C I) (I 98) k) ∧ (-1 ≤ I 0 12 ∧ I 0 12 < I 96 7) ∧ o = (if 0 ≤ I 0 12 then some (I 0 12).toNat else none) ∧ ((0 ≤ I 78 3 ∧ I 78 3 ≤ I 96 7) ∧ (-1 ≤ I 78 4 ∧ I 78 4 < I 78 3))
  ∧ (r ≠ -1 → (I 0 11 = I 96 7 + 1 ∧ I 96 7 < 4) ∧ cs_F (I 99) (I 95 4) tx_g0 (gx_C I) (I 96 7).toNat (gx_D28 I) ∧ gx_C I (7 * (I 96 7).toNat) 1 ≤ 300 ∧ ∀ b ∈ gx_D28 I, cs_w (I 99) (I 95 4) b = 26 → 0 ≤ cs_v (I 99) (I 95 4) b ∧ cs_v (I 99) (I 95 4) b ≤ 9) ∧ (r = -1 → I 0 11 = I 96 7)
def gx_S28 (r : Int) (I : Nat → Int → Int) (P : Nat → Option Nat) : Prop := (gx_1 I ∧ gx_2 I ∧ gx_i I ∧ tr_A I ∧ gx_7 I ∧ gx_8 I ∧ gx_9 I) ∧ tp_TM r I ∧ gx_xt r I (P 3)
def gx_R28 (p : Int → Prop) (I : Nat → Int → Int) (P : Nat → Option Nat) : Prop := gx_MP gx_S28 p I P
theorem gx_28 {Q : Int → lf_Z → Prop} (hI : iv_A s.1 s.2.2) (hA : gx_A s.1 s.2.2) (hQ : ∀ (r : Int) (s' : lf_Z), iv_A s'.1 s'.2.2 → lf_fq [0, 31, 33, 35, 36, 37, 38, 39, 40, 41, 42, 43, 44, 45, 46, 47, 48, 49, 50, 51, 52, 53, 54, 55, 56, 57, 58, 59, 60, 61, 62] 1000000 false s.1 s.2.2 s'.1 s'.2.2 → gx_S28 r s'.1 s'.2.2 → pk_P s.2.2 s'.2.2 → ((-1) ≤ r ∧ r ≤ 3) → Q r s') : fm_28 Q s := by
  obtain ⟨⟨e1, e2, e3, e4, e5, e6, e7, e8⟩, hT⟩ := gx_AE hA
  have hT' := hT
  obtain ⟨t1, t2, t3, t4, _⟩ := hT'
  have r31 : 0 ≤ s.1 31 1 ∧ s.1 31 1 ≤ 300 := iv_r31_1 hI
  refine cj_28 (Q1 := fun r s' => iv_A s'.1 s'.2.2 ∧ lf_fq [0, 31, 33, 35, 36, 37, 38, 39, 40, 41, 42, 43, 44, 45, 46, 47, 48, 49, 50, 51, 52, 53, 54, 55, 56, 57, 58, 59, 60, 61, 62] 1000000 false s.1 s.2.2 s'.1 s'.2.2 ∧ (tp_tx (tx_v (s.1 32) (s.1 31 1) (fun _ => -1)) (s.1 0 11) (s'.1 31 1) (s'.1 31 2) (s'.1 31 3) (s'.1 0 11) r (s.1 31 1) (s.1 31 2) (s.1 31 3) ∧ s'.1 0 12 = s.1 0 12) ∧ ((-1) ≤ r ∧ r ≤ 3))
    (Q2 := fun r t => ((s.1 0 11 < 4 → (∀ c : Nat, 35 ≤ c → (c < 35 + 7 * (s.1 0 11).toNat ∨ 42 + 7 * (s.1 0 11).toNat ≤ c) → t.1 c = s.1 c) ∧ t.2.2 3 = s.2.2 3 ∧ (r ≠ -1 → r = s.1 0 11 ∧ cs_F (s.1 32) (s.1 31 1) tx_g0 (gx_C t.1) (s.1 0 11).toNat (tx_ps (s.1 32) (s.1 31 1) tx_g0 301 (lx_sk (s.1 32) (s.1 31 1) 0)) ∧ t.1 (35 + 7 * (s.1 0 11).toNat) 1 ≤ 300)) ∧ (¬ s.1 0 11 < 4 → r = -1 ∧ t = s)) ∧ pk_P s.2.2 t.2.2) (fun r s' h1 h2 => hQ r s' h1.1 h1.2.1 ⟨?_, tp_t1 hT h1.2.1 h1.2.2.1, ?_⟩ h2.2 h1.2.2.2) (tp_28 hI (fun r s' h1 h2 h3 h4 => ⟨h1, h2, h3, h4⟩)) ?_
  · have q : ∀ c : Nat, ((0 < c ∧ c < 31) ∨ (63 ≤ c ∧ c < 1000)) → s'.1 c = s.1 c := fun c y => h1.2.1.1 c (gx_nc (by simp; omega))
    exact ⟨gx_1c (fun c y => q c (by omega)) e1, gx_2c (q 1 (by omega)) (q 78 (by omega)) e2, gx_ic (fun c y => q c (by omega)) e3, tr_Ac (fun c y => q c (by omega)) (fun i _ => by rw [q 96 (by omega)]) e5, gx_7c (fun c y => q c (by omega)) (by rw [q 1 (by omega)]; exact Int.le_refl _) (fun i _ => by rw [q 96 (by omega)]) e6, gx_8c (fun c y => q c (by omega)) e7, gx_9c (q 95 (by omega)) e8⟩
  · have q : ∀ c : Nat, (63 ≤ c ∧ c < 1000) → s'.1 c = s.1 c := fun c y => h1.2.1.1 c (gx_nc (by simp; omega))
    obtain ⟨x1, x2, x3, x4, x5⟩ := e4
    obtain ⟨k1, k2⟩ := h1.2.2.1
    obtain ⟨⟨m1, m2⟩, _⟩ := h2
    unfold gx_xt gx_D28
    rw [q 96 (by omega), q 98 (by omega), q 78 (by omega), q 99 (by omega), q 95 (by omega), k2, ← t1, ← t2, ← t3]
    by_cases c4 : s.1 0 11 < 4
    · obtain ⟨m3, m4, m5⟩ := m1 c4
      refine ⟨x1, fun k hk => gx_tc (fun c c0 c1 => m3 (35 + c) (by omega) (Or.inl (by omega))) (fun _ _ _ => rfl) (x2 k hk), x3, by rw [m4]; exact x4, x5, fun ne => ?_, fun eq => ?_⟩
      · obtain ⟨n1, n2, n3⟩ := m5 ne
        rcases k1 with ⟨_, _, _, v0, v1⟩ | ⟨v, _⟩
        · by_cases y : (tx_v (s.1 32) (s.1 31 1) (fun _ => -1)).1 = 0
          · exact ⟨⟨(v0 y).2.2, c4⟩, n2, n3, tx_26 y⟩
          · exact absurd (v1 y).2.1 ne
        · exact absurd c4 v
      · rcases k1 with ⟨_, _, _, v0, v1⟩ | ⟨v, _⟩
        · by_cases y : (tx_v (s.1 32) (s.1 31 1) (fun _ => -1)).1 = 0
          · have := (v0 y).2.1; omega
          · exact (v1 y).2.2
        · exact absurd c4 v
    · obtain ⟨m3, m4⟩ := m2 c4
      refine ⟨x1, fun k hk => by rw [m4]; exact x2 k hk, x3, by rw [m4]; exact x4, x5, fun ne => absurd m3 ne, fun _ => by rw [m4]⟩
  · refine fy_28 (fun i _ _ => iv_r32 hI i) r31 (fun q => ⟨⟨fun q' => absurd q' q, fun _ => ⟨rfl, rfl⟩⟩, rfl, rfl⟩) (fun q _ zz t v h1 h2 h3 h4 => ⟨⟨fun _ => ⟨h1, by rw [h2]; rfl, fun ne => ?_⟩, fun q' => absurd q q'⟩, by rw [h2]; rfl, by rw [h2]; rfl⟩)
    cases zz with
    | false => exact absurd (h4 rfl) ne
    | true => exact ⟨(h3 rfl).1, (h3 rfl).2.1, (h3 rfl).2.2⟩
theorem gx_195 {Q : Int → lf_Z → Prop} (hI : iv_A s.1 s.2.2) (hM : gx_R28 p s.1 s.2.2) (hQ : ∀ (r : Int) (s' : lf_Z), iv_A s'.1 s'.2.2 → lf_fq [95, 96, 98, 100, 101, 102, 103, 1003] 7 true s.1 s.2.2 s'.1 s'.2.2 → (gx_p p r ∧ gx_A s'.1 s'.2.2) → ((-1) ≤ r ∧ r ≤ 4) → Q r s') : fm_195 Q s := by
  obtain ⟨r0, hp, ⟨e1, e2, e3, e5, e6, e7, e8⟩, hT, hx⟩ := hM
  have b4 : 0 ≤ s.1 95 4 ∧ s.1 95 4 ≤ 300 := iv_r95_4 hI
  refine cj_195 (Q1 := fun r s' => iv_A s'.1 s'.2.2 ∧ lf_fq [95, 96, 98, 100, 101, 102, 103, 1003] 7 true s.1 s.2.2 s'.1 s'.2.2 ∧ (tp_tx (tx_v (s.1 99) (s.1 95 4) (fun _ => -1)) (s.1 96 7) (s'.1 95 4) (s'.1 95 5) (s'.1 95 6) (s'.1 96 7) r (s.1 95 4) (s.1 95 5) (s.1 95 6) ∧ s'.1 96 8 = s.1 96 8) ∧ ((-1) ≤ r ∧ r ≤ 4))
    (Q2 := fun r t => (s.1 96 7 = 4 → r = -1 ∧ t = s) ∧ (s.1 96 7 ≠ 4 → (∀ j : Int, j < 705 * s.1 96 7 → t.1 98 j = s.1 98 j) ∧ (∀ i : Int, 24 < i → t.1 95 i = s.1 95 i) ∧ (r ≠ -1 → r = s.1 96 7 ∧ rs_X (s.1 99) (s.1 95 4) (t.1 98) (705 * s.1 96 7) (gx_D28 s.1)))) (fun r s' h1 h2 => hQ r s' h1.1 h1.2.1 ⟨(tp_t2 hT h1.2.1 h1.2.2.1).1 ▸ hp, ?_⟩ h1.2.2.2) (tp_195 hI (fun r s' h1 h2 h3 h4 => ⟨h1, h2, h3, h4⟩)) ?_
  · have ht := tp_t2 hT h1.2.1 h1.2.2.1
    have q : ∀ c : Nat, (c < 95 ∨ c = 97 ∨ c = 99) → s'.1 c = s.1 c := fun c y => h1.2.1.1 c (gx_nc (by simp; omega))
    have fr : ∀ k : Nat, (k ≠ 3 ∧ k < 7) → ∀ i, fr_g k i → s'.1 96 i = s.1 96 i := fun k hk => h1.2.1.2.2.2 k (gx_nc (by simp; omega))
    refine gx_EA ⟨gx_1f (fun c y => q c (by omega)) (fr 2 (by decide)) (fr 4 (by decide)) (fr 5 (by decide)) (fr 6 (by decide)) e1, gx_2c (q 1 (by omega)) (q 78 (by omega)) e2, gx_ic (fun c y => q c (by omega)) e3, ?_, tr_Ac (fun c y => q c (by omega)) (fr 0 (by decide)) e5, gx_7c (fun c y => q c (by omega)) (by rw [q 1 (by omega)]; exact Int.le_refl _) (fr 1 (by decide)) e6, gx_8c (fun c y => q c (by omega)) e7, ?_⟩ ht.2
    · obtain ⟨x1, x2, x3, x4, ⟨x5, x6⟩, x7, x8⟩ := hx
      obtain ⟨m1, m2⟩ := h2
      have eC : ∀ c : Nat, c ≤ 34 → gx_C s'.1 c = gx_C s.1 c := fun c hc => q (35 + c) (by omega)
      unfold gx_x
      rw [q 0 (by omega), q 78 (by omega), h1.2.1.2.2.1 rfl]
      by_cases c4 : s.1 96 7 = 4
      · obtain ⟨m3, m4⟩ := m1 c4
        have e11 : s.1 0 11 = s.1 96 7 := x8 (by rw [ht.1]; exact m3)
        rw [e11, m4]
        exact ⟨x1, x2, x3, x4, x5, x6⟩
      · obtain ⟨m3, _, m4⟩ := m2 c4
        have old : ∀ k : Nat, (k : Int) < s.1 96 7 → gx_t (gx_C s'.1) (s'.1 98) k := fun k hk => gx_tc (fun c c0 c1 => eC c (by omega)) (fun i i0 i1 => m3 i (by omega)) (x2 k hk)
        by_cases y : r = -1
        · have e11 : s.1 0 11 = s.1 96 7 := x8 (by rw [ht.1]; exact y)
          rw [e11]
          exact ⟨x1, old, x3, x4, x5, x6⟩
        · obtain ⟨n1, n2⟩ := m4 y
          obtain ⟨⟨n3, n4⟩, n5, n6, n7⟩ := x7 (by rw [ht.1]; exact y)
          rw [n3]
          refine ⟨⟨by omega, by omega⟩, fun k hk => ?_, ⟨x3.1, by omega⟩, x4, ⟨x5.1, by omega⟩, x6⟩
          by_cases yk : (k : Int) < s.1 96 7
          · exact old k yk
          · have ek : (s.1 96 7).toNat = k := by omega
            have ek2 : s.1 96 7 = (k : Int) := by omega
            rw [ek] at n5 n6
            rw [ek2] at n2
            exact ⟨s.1 99, s.1 95 4, gx_D28 s.1, cs_FC (fun c c0 c1 => eC c (by omega)) n5, by rw [eC (7 * k) (by omega)]; exact n6, n2, n7⟩
    · by_cases c4 : s.1 96 7 = 4
      · rw [(h2.1 c4).2]; exact e8
      · have y := (h2.2 c4).2.1
        unfold gx_9 zq_9 at *
        rw [y 29 (by decide), y 31 (by decide), y 30 (by decide)]
        exact e8
  · refine tz_195b b4.1 b4.2 (fun i _ _ => iv_r99 hI i) (fun q => ⟨fun _ => ⟨rfl, rfl⟩, fun q' => absurd q q'⟩) (fun q w t h1 h2 h3 => ⟨fun q' => absurd q' q, fun _ => ⟨h1, h3, fun ne => h2 ne⟩⟩)
end GN
