/-! person: both sides -/
section PN
variable {J K : Nat → Int → Int} {s t u : lf_Z} {f g T A B : Int → Int} {a b c d p x j n1 n2 m : Int} {H : List rr_H}
def pn_ok (J : Nat → Int → Int) (a d : Int) : Prop := (0 ≤ a ∧ a ≤ 9) ∧ (0 ≤ d ∧ d < J 1 0) ∧ J 1 2 < 6
/-- the land, the stand K: one person more -/
def pn_R (J K : Nat → Int → Int) (a b c d : Int) : Prop :=
  (∀ q : Nat, q ≠ 1 → q ≠ 7 → q ≠ 8 → q ≠ 9 → q ≠ 10 → q ≠ 19 → q ≠ 20 → K q = J q) ∧ (K 1 0 = J 1 0 ∧ K 1 1 = J 1 1 ∧ K 1 2 = J 1 2 + 1)
  ∧ ∀ q : Int, K 7 q = (if q = J 1 2 then a else J 7 q) ∧ K 8 q = (if q = J 1 2 then b else J 8 q) ∧ K 9 q = (if q = J 1 2 then c else J 9 q) ∧ K 10 q = (if q = J 1 2 then d else J 10 q) ∧ K 19 q = (if q = J 1 2 then d else J 19 q) ∧ K 20 q = (if q = J 1 2 then -1 else J 20 q)
def pn_f (f : Int → Int) (n d : Int) : Int → Int := ds_u1 (ds_u1 f (12 + 2 * n) d) (12 + 2 * n + 1) (-1)
theorem pn_fo {n : Int} (h1 : j ≠ 12 + 2 * n) (h2 : j ≠ 12 + 2 * n + 1) : pn_f f n d j = f j := (if_neg h2).trans (if_neg h1)
theorem pn_f0 {n : Int} : pn_f f n d (12 + 2 * n) = d := (if_neg (by omega)).trans (if_pos rfl)
theorem pn_f1 {n : Int} : pn_f f n d (12 + 2 * n + 1) = -1 := if_pos rfl
theorem fl_23 {Q : Int → lf_Z → Prop} (h2 : 0 ≤ s.1 1 2 ∧ s.1 1 2 ≤ 6) (k0 : ¬ pn_ok s.1 a d → Q (-1) s) (k : pn_ok s.1 a d → (b = 0 ∨ b = 1) → (c = 0 ∨ c = 1) → ∀ t : lf_Z, pn_R s.1 t.1 a b c d → t.2 = s.2 → Q (s.1 1 2) t) : fw_23 a b c d Q s := by
  unfold fw_23
  refine fl_15 ⟨fun z => k0 (fun q => ?_), fun z => fl_18 ⟨fun z2 => ?_, fun z2 => k0 (fun q => ?_)⟩⟩
  · rw [decide_eq_true q.1.1, decide_eq_true q.1.2] at z; cases z
  · rw [Bool.and_eq_true, decide_eq_true_eq, decide_eq_true_eq] at z z2
    unfold fw_24
    intro _
    refine ⟨fun e _ hb hc => ?_, fun e _ => ⟨fun _ => k0 (fun q => e q.2.2), fun e2 => absurd rfl e2⟩⟩
    have K := k ⟨z, z2, e⟩ hb hc
    generalize hn : s.1 1 2 = n at *
    rw [show n + 1 - 1 = n by omega]
    intro _
    refine ⟨fun e2 => absurd e2 (by omega), fun _ _ => ?_⟩
    refine K _ ⟨fun q q1 q7 q8 q9 q10 q19 q20 => ?_, ⟨?_, ?_, ?_⟩, fun q => ⟨?_, ?_, ?_, ?_, ?_, ?_⟩⟩ rfl
    · exact (zu_r q20).trans ((lf_up_row q19).trans ((lf_up_row q1).trans ((lf_up_row q10).trans ((lf_up_row q9).trans ((lf_up_row q8).trans (lf_up_row q7))))))
    · exact (zu_c (by decide)).trans ((lf_up_c (by decide)).trans ((zu_i (by decide)).trans ((lf_up_c (by decide)).trans ((lf_up_c (by decide)).trans ((lf_up_c (by decide)).trans (lf_up_c (by decide)))))))
    · exact (zu_c (by decide)).trans ((lf_up_c (by decide)).trans ((zu_i (by decide)).trans ((lf_up_c (by decide)).trans ((lf_up_c (by decide)).trans ((lf_up_c (by decide)).trans (lf_up_c (by decide)))))))
    · rw [hn]; exact (zu_c (by decide)).trans ((lf_up_c (by decide)).trans zu_s)
    · rw [hn]
      refine (zu_c (by decide)).trans ((lf_up_c (by decide)).trans ((zu_c (by decide)).trans ((lf_up_c (by decide)).trans ((lf_up_c (by decide)).trans ((lf_up_c (by decide)).trans ?_)))))
      by_cases y : q = n
      · rw [y, if_pos rfl]; exact lf_up_s
      · rw [if_neg y]; exact lf_up_i y
    · rw [hn]
      refine (zu_c (by decide)).trans ((lf_up_c (by decide)).trans ((zu_c (by decide)).trans ((lf_up_c (by decide)).trans ((lf_up_c (by decide)).trans ?_))))
      by_cases y : q = n
      · rw [y, if_pos rfl]; exact lf_up_s
      · rw [if_neg y]; exact (lf_up_i y).trans (lf_up_c (by decide))
    · rw [hn]
      refine (zu_c (by decide)).trans ((lf_up_c (by decide)).trans ((zu_c (by decide)).trans ((lf_up_c (by decide)).trans ?_)))
      by_cases y : q = n
      · rw [y, if_pos rfl]; exact lf_up_s
      · rw [if_neg y]; exact (lf_up_i y).trans ((lf_up_c (by decide)).trans (lf_up_c (by decide)))
    · rw [hn]
      refine (zu_c (by decide)).trans ((lf_up_c (by decide)).trans ((zu_c (by decide)).trans ?_))
      by_cases y : q = n
      · rw [y, if_pos rfl]; exact lf_up_s
      · rw [if_neg y]; exact (lf_up_i y).trans ((lf_up_c (by decide)).trans ((lf_up_c (by decide)).trans (lf_up_c (by decide))))
    · rw [hn]
      refine (zu_c (by decide)).trans ?_
      by_cases y : q = n
      · rw [y, if_pos rfl]; exact lf_up_s
      · rw [if_neg y]; exact (lf_up_i y).trans ((zu_c (by decide)).trans ((lf_up_c (by decide)).trans ((lf_up_c (by decide)).trans ((lf_up_c (by decide)).trans (lf_up_c (by decide))))))
    · rw [hn]
      by_cases y : q = n
      · rw [y, if_pos rfl]; exact zu_s
      · rw [if_neg y]; exact (zu_i y).trans ((lf_up_c (by decide)).trans ((zu_c (by decide)).trans ((lf_up_c (by decide)).trans ((lf_up_c (by decide)).trans ((lf_up_c (by decide)).trans (lf_up_c (by decide)))))))
  · rw [decide_eq_true q.2.1.1, decide_eq_true q.2.1.2] at z2; cases z2
theorem fl_191 {v : Int} {Q : lf_Z → Prop} (h : Q (lf_up s.1 96 (126 + 6 * a + 0) v, s.2.1, s.2.2)) : fw_191 a v Q s := by unfold fw_191; exact fun _ => h
theorem fl_191b {v : Int} {Q : lf_Z → Prop} (h : Q (lf_up s.1 96 (126 + 6 * a + 1) v, s.2.1, s.2.2)) : fw_191b a v Q s := by unfold fw_191b; exact fun _ => h
theorem fl_191c {v : Int} {Q : lf_Z → Prop} (h : Q (lf_up s.1 96 (126 + 6 * a + 2) v, s.2.1, s.2.2)) : fw_191c a v Q s := by unfold fw_191c; exact fun _ => h
theorem fl_191f {v : Int} {Q : lf_Z → Prop} (h : Q (lf_up s.1 96 (126 + 6 * a + 5) v, s.2.1, s.2.2)) : fw_191f a v Q s := by unfold fw_191f; exact fun _ => h
/-- the row A with a person more is B -/
def pn_B (A B : Int → Int) (n a b c d : Int) : Prop := B 2 = n + 1 ∧ B (126 + 6 * n + 0) = a ∧ B (126 + 6 * n + 1) = b ∧ B (126 + 6 * n + 2) = c ∧ B (126 + 6 * n + 3) = d ∧ B (126 + 6 * n + 4) = -1 ∧ B (126 + 6 * n + 5) = d ∧ ∀ i : Int, i ≠ 2 → ¬ (126 + 6 * n ≤ i ∧ i ≤ 126 + 6 * n + 5) → B i = A i
theorem fl_190 {Q : Int → lf_Z → Prop} (hL : rr_L J (s.1 96)) (hW : mn_W J) (k0 : ¬ ((0 ≤ d ∧ d < J 1 0) ∧ J 1 2 < 6) → Q (-1) s) (k : (0 ≤ d ∧ d < J 1 0) → J 1 2 < 6 → ∀ t : lf_Z, rr_f s t → pn_B (s.1 96) (t.1 96) (J 1 2) a b c d → Q (J 1 2) t) : fw_190 a b c d Q s := by
  have h2 := hW.2.2.1
  unfold fw_190 fw_185
  rw [hL.1]
  refine fl_183 ⟨fun z => k0 (fun q => ?_), fun z => ?_⟩
  · have := q.1
    rw [decide_eq_true this.1, decide_eq_true (show d ≤ J 1 0 - 1 by omega)] at z; cases z
  · rw [Bool.and_eq_true, decide_eq_true_eq, decide_eq_true_eq] at z
    have A2 := hL.2.2.1
    rw [A2]
    intro _
    refine ⟨fun e => ?_, fun e => k0 (fun q => by have := q.2; omega)⟩
    have K := k ⟨z.1, by omega⟩ (by omega)
    generalize hn : J 1 2 = n at *
    refine fl_191 (fl_191b (fl_191c (fl_191d (fl_191e (fl_191f ?_)))))
    obtain ⟨u, hu⟩ : ∃ u : lf_Z, u = (lf_up (lf_up (lf_up (lf_up (lf_up (lf_up s.1 96 (126 + 6 * n + 0) a) 96 (126 + 6 * n + 1) b) 96 (126 + 6 * n + 2) c) 96 (126 + 6 * n + 3) d) 96 (126 + 6 * n + 4) (-1)) 96 (126 + 6 * n + 5) d, s.2.1, s.2.2) := ⟨_, rfl⟩
    rw [← hu]
    have uo : ∀ i : Int, ¬ (126 + 6 * n ≤ i ∧ i ≤ 126 + 6 * n + 5) → u.1 96 i = s.1 96 i := fun i hi => by rw [hu]; exact (zu_i (by omega)).trans ((lf_up_i (by omega)).trans ((lf_up_i (by omega)).trans ((lf_up_i (by omega)).trans ((lf_up_i (by omega)).trans (lf_up_i (by omega))))))
    have u2 : u.1 96 2 = n := (uo 2 (by omega)).trans A2
    rw [u2]
    refine K _ ⟨fun q hq => (zu_r hq).trans ?_, ?_⟩ ⟨zu_s, (zu_i (by omega)).trans ?_, (zu_i (by omega)).trans ?_, (zu_i (by omega)).trans ?_, (zu_i (by omega)).trans ?_, (zu_i (by omega)).trans ?_, (zu_i (by omega)).trans ?_, fun i i0 i1 => (zu_i i0).trans (uo i i1)⟩
    · rw [hu]; exact (zu_r hq).trans ((lf_up_row hq).trans ((lf_up_row hq).trans ((lf_up_row hq).trans ((lf_up_row hq).trans (lf_up_row hq)))))
    · rw [hu]
    · rw [hu]; exact (zu_i (by omega)).trans ((lf_up_i (by omega)).trans ((lf_up_i (by omega)).trans ((lf_up_i (by omega)).trans ((lf_up_i (by omega)).trans lf_up_s))))
    · rw [hu]; exact (zu_i (by omega)).trans ((lf_up_i (by omega)).trans ((lf_up_i (by omega)).trans ((lf_up_i (by omega)).trans lf_up_s)))
    · rw [hu]; exact (zu_i (by omega)).trans ((lf_up_i (by omega)).trans ((lf_up_i (by omega)).trans lf_up_s))
    · rw [hu]; exact (zu_i (by omega)).trans ((lf_up_i (by omega)).trans lf_up_s)
    · rw [hu]; exact (zu_i (by omega)).trans lf_up_s
    · rw [hu]; exact zu_s
theorem fl_189 {Q : Int → lf_Z → Prop} (hL : rr_L J (s.1 96)) (hW : mn_W J) (hb : b = 0 ∨ b = 1) (hc : c = 0 ∨ c = 1) (k0 : ¬ pn_ok J a d → Q (-1) s) (k : pn_ok J a d → ∀ t : lf_Z, rr_f s t → pn_B (s.1 96) (t.1 96) (J 1 2) a b c d → Q (J 1 2) t) : fw_189 a b c d Q s := by
  unfold fw_189
  refine fl_183 ⟨fun z => k0 (fun q => ?_), fun z _ => ?_⟩
  · rw [decide_eq_true q.1.1, decide_eq_true q.1.2] at z; cases z
  · rw [Bool.and_eq_true, decide_eq_true_eq, decide_eq_true_eq] at z
    have go : ∀ b' c' : Int, b' = b → c' = c → fw_190 a b' c' d (fun r s => Q r s) s := fun b' c' eb ec => by
      rw [eb, ec]
      exact fl_190 hL hW (fun h => k0 (fun q => h ⟨q.2.1, q.2.2⟩)) (fun h1 h2 => k ⟨z, h1, h2⟩)
    have p21 : ∀ b' : Int, b' = b → fw_189_p21 Q c d a b' s := fun b' eb => by
      unfold fw_189_p21 fw_189_p30
      intro _
      exact ⟨fun e => go b' 0 eb e.symm, fun e => go b' 1 eb (by omega)⟩
    exact ⟨fun e => p21 0 e.symm, fun e => p21 1 (by omega)⟩
theorem pn_L (hL : rr_L J A) (hW : mn_W J) (ok : J 1 2 < 6) (hR : pn_R J K a b c d) (hB : pn_B A B (J 1 2) a b c d) : rr_L K B := by
  obtain ⟨w0, w1, w2, _⟩ := hW
  obtain ⟨r0, ⟨r10, r11, r12⟩, rq⟩ := hR
  obtain ⟨b2, c0, c1, c2, c3, c4, c5, bo⟩ := hB
  obtain ⟨l0, l1, l2, l3, l4, l5⟩ := hL
  have R : ∀ q : Nat, 2 ≤ q → q ≤ 6 → K q = J q := fun q q0 q1 => r0 q (by omega) (by omega) (by omega) (by omega) (by omega) (by omega) (by omega)
  refine ⟨(bo 0 (by omega) (by omega)).trans (l0.trans r10.symm), (bo 1 (by omega) (by omega)).trans (l1.trans r11.symm), b2.trans r12.symm, fun q q0 q1 => ?_, fun w x0 x1 => ?_, fun q q0 q1 => ?_⟩
  · rw [R 2 (by decide) (by decide), R 3 (by decide) (by decide), bo (14 + 3 * q) (by omega) (by omega), bo (14 + 3 * q + 1) (by omega) (by omega)]
    exact l3 q q0 (by omega)
  · rw [R 4 (by decide) (by decide), R 5 (by decide) (by decide), R 6 (by decide) (by decide), bo (50 + 4 * w) (by omega) (by omega), bo (50 + 4 * w + 1) (by omega) (by omega), bo (50 + 4 * w + 2) (by omega) (by omega)]
    exact l4 w x0 (by omega)
  · obtain ⟨k7, k8, k9, k10, _, _⟩ := rq q
    rw [k7, k8, k9, k10]
    by_cases y : q = J 1 2
    · rw [y, if_pos rfl, if_pos rfl, if_pos rfl, if_pos rfl]; exact ⟨c0, c1, c2, c5⟩
    · rw [if_neg y, if_neg y, if_neg y, if_neg y, bo (126 + 6 * q + 0) (by omega) (by omega), bo (126 + 6 * q + 1) (by omega) (by omega), bo (126 + 6 * q + 2) (by omega) (by omega), bo (126 + 6 * q + 5) (by omega) (by omega)]
      exact l5 q q0 (by omega)
theorem pn_S {n : Int} (hS : rr_S n1 n f A) (n0 : 0 ≤ n) (n6 : n < 6) (h16 : n1 ≤ 16) (hB : pn_B A B n a b c d) : rr_S n1 (n + 1) (pn_f f n d) B := by
  obtain ⟨b2, c0, c1, c2, c3, c4, c5, bo⟩ := hB
  obtain ⟨s1, s2, s3, s4, s5, s6⟩ := hS
  refine ⟨?_, ?_, fun q q0 q1 => ?_, fun q q0 q1 => ?_, fun q q0 q1 => ?_, fun w w0 w1 => ?_⟩
  · rw [bo 3 (by omega) (by omega), pn_fo (by omega) (by omega)]; exact s1
  · rw [bo 6 (by omega) (by omega), pn_fo (by omega) (by omega)]; exact s2
  · rw [bo (114 + 3 * q) (by omega) (by omega), bo (114 + 3 * q + 1) (by omega) (by omega), bo (114 + 3 * q + 2) (by omega) (by omega), pn_fo (by omega) (by omega), pn_fo (by omega) (by omega), pn_fo (by omega) (by omega)]; exact s3 q q0 q1
  · by_cases y : q = n
    · rw [y, pn_f0, pn_f1]; exact ⟨c3, c4⟩
    · rw [bo (126 + 6 * q + 3) (by omega) (by omega), bo (126 + 6 * q + 4) (by omega) (by omega), pn_fo (by omega) (by omega), pn_fo (by omega) (by omega)]; exact s4 q q0 (by omega)
  · rw [bo (14 + 3 * q + 2) (by omega) (by omega), pn_fo (by omega) (by omega)]; exact s5 q q0 q1
  · rw [bo (50 + 4 * w + 3) (by omega) (by omega), pn_fo (by omega) (by omega)]; exact s6 w w0 w1
theorem pn_C (hS : rc_S J f) (h2 : 0 ≤ J 1 2) (ok : J 1 2 < 6) (hR : pn_R J K a b c d) : rc_S K (pn_f f (J 1 2) d) := by
  obtain ⟨r0, _, rq⟩ := hR
  obtain ⟨s1, s2, s3, s4, s5, s6⟩ := hS
  have R : ∀ q : Nat, 11 ≤ q → q ≤ 18 ∨ q = 21 → K q = J q := fun q q0 q1 => r0 q (by omega) (by omega) (by omega) (by omega) (by omega) (by omega) (by omega)
  refine ⟨fun q q0 q1 => ?_, fun q q0 q1 => ?_, fun q q0 q1 => ?_, ?_, ?_, ?_⟩
  · rw [R 16 (by decide) (by decide), R 17 (by decide) (by decide), R 18 (by decide) (by decide), pn_fo (by omega) (by omega), pn_fo (by omega) (by omega), pn_fo (by omega) (by omega)]; exact s1 q q0 q1
  · obtain ⟨_, _, _, _, k19, k20⟩ := rq q
    rw [k19, k20]
    by_cases y : q = J 1 2
    · rw [y, if_pos rfl, if_pos rfl, pn_f0, pn_f1]; exact ⟨rfl, rfl⟩
    · rw [if_neg y, if_neg y, pn_fo (by omega) (by omega), pn_fo (by omega) (by omega)]; exact s2 q q0 q1
  · rw [R 21 (by decide) (by decide), pn_fo (by omega) (by omega)]; exact s3 q q0 q1
  · rw [R 15 (by decide) (by decide), pn_fo (by omega) (by omega)]; exact s4
  · rw [R 15 (by decide) (by decide), pn_fo (by omega) (by omega)]; exact s5
  · rw [R 15 (by decide) (by decide), pn_fo (by omega) (by omega)]; exact s6
theorem pn_W (hW : mn_W J) (ok : J 1 2 < 6) (hR : pn_R J K a b c d) : mn_W K := by
  have w2 := hW.2.2.1
  obtain ⟨r0, ⟨r10, r11, r12⟩, _⟩ := hR
  have R : ∀ q : Nat, 2 ≤ q → q ≤ 6 ∨ (11 ≤ q ∧ q ≤ 13) → K q = J q := fun q q0 q1 => r0 q (by omega) (by omega) (by omega) (by omega) (by omega) (by omega) (by omega)
  exact mn_Wr hW (R 4 (by decide) (by decide)) (R 5 (by decide) (by decide)) (R 11 (by decide) (by decide)) (R 12 (by decide) (by decide)) (R 13 (by decide) (by decide)) r10 r11 (by omega)
theorem pn_J (hW : mn_W J) (h : gp_J J f) (ok : pn_ok J a d) (hR : pn_R J K a b c d) : gp_J K (pn_f f (J 1 2) d) := by
  have w2 := hW.2.2.1
  obtain ⟨r0, ⟨r10, r11, r12⟩, _⟩ := hR
  obtain ⟨⟨h1, h2, h3, h4⟩, h5, h6⟩ := h
  obtain ⟨oa, od, o6⟩ := ok
  refine ⟨⟨fun q q0 q1 => ?_, fun q q0 q1 => ?_, ?_, ?_⟩, ⟨fun q q0 q1 => ?_, fun q q0 q1 => ?_⟩, ?_⟩
  · rw [r10]
    by_cases y : q = J 1 2
    · rw [y, pn_f0, pn_f1]; omega
    · rw [pn_fo (by omega) (by omega), pn_fo (by omega) (by omega)]; exact h1 q q0 (by omega)
  · unfold gp_b
    rw [r10, pn_fo (by omega) (by omega), pn_fo (by omega) (by omega), pn_fo (by omega) (by omega)]; exact h2 q q0 q1
  · rw [pn_fo (by omega) (by omega), pn_fo (by omega) (by omega), pn_fo (by omega) (by omega), pn_fo (by omega) (by omega)]; exact h3
  · rw [pn_fo (by omega) (by omega)]; exact h4
  · rw [pn_fo (by omega) (by omega)]; exact h5.1 q (by omega) q1
  · rw [pn_fo (by omega) (by omega)]; exact h5.2 q (by omega) q1
  · rw [pn_fo (by omega) (by omega)]; exact h6
end PN
