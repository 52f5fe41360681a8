/-! tries: the class's counts are counts over the reference's rows -/
section TR
variable {t u f t' u' f' : Int → Int}
def tr_T (t u f : Int → Int) : Prop := 0 ≤ f 11 ∧ f 11 ≤ 12 ∧ (∀ j : Int, 0 ≤ j → j < f 11 → 0 ≤ f (254 + 2 * j) ∧ f (254 + 2 * j) ≤ 3) ∧ ∀ h : Int, 0 ≤ h → h < 4 → t h = lf_tm f h 0 (f 11) ∧ u h = lf_tm f h 1 (f 11)
def tr_A (I : Nat → Int → Int) : Prop := tr_T (I 29) (I 30) (I 96) ∧ tr_T (I 93) (I 94) (I 97)
theorem tr_tn {h b : Int} : ∀ n : Nat, (∀ j : Int, 254 ≤ j → j < 254 + 2 * (n : Int) → f' j = f j) → lf_tm f' h b (n : Int) = lf_tm f h b (n : Int) := by
  intro n
  induction n with
  | zero => intro _; rfl
  | succ n ih =>
    intro hj
    have e : ((n + 1 : Nat) : Int) = (n : Int) + 1 := by omega
    rw [e] at hj ⊢
    rw [lf_tmN (by omega), lf_tmN (by omega), ih (fun j a b => hj j a (by omega)), hj (254 + 2 * (n : Int)) (by omega) (by omega), hj (254 + 2 * (n : Int) + 1) (by omega) (by omega)]
theorem tr_tc {h b k : Int} (hk : 0 ≤ k) (hj : ∀ j : Int, 254 ≤ j → j < 254 + 2 * k → f' j = f j) : lf_tm f' h b k = lf_tm f h b k := by
  obtain ⟨n, rfl⟩ := Int.eq_ofNat_of_zero_le hk
  exact tr_tn n hj
theorem tr_b0 {h b : Int} : ∀ n : Nat, 0 ≤ lf_tm f h b (n : Int) ∧ lf_tm f h b (n : Int) ≤ (n : Int) := by
  intro n
  induction n with
  | zero => exact ⟨Int.le_refl _, Int.le_refl _⟩
  | succ n ih =>
    have e : ((n + 1 : Nat) : Int) = (n : Int) + 1 := by omega
    rw [e, lf_tmN (by omega)]
    by_cases hc : f (254 + 2 * (n : Int)) = h ∧ (b = 0 ∨ f (254 + 2 * (n : Int) + 1) = 1)
    · rw [if_pos hc]; omega
    · rw [if_neg hc]; omega
theorem tr_b {h b k : Int} (hk : 0 ≤ k) : 0 ≤ lf_tm f h b k ∧ lf_tm f h b k ≤ k := by
  obtain ⟨n, rfl⟩ := Int.eq_ofNat_of_zero_le hk
  exact tr_b0 n
theorem tr_01 {h : Int} : ∀ n : Nat, lf_tm f h 1 (n : Int) ≤ lf_tm f h 0 (n : Int) := by
  intro n
  induction n with
  | zero => exact Int.le_refl _
  | succ n ih =>
    have e : ((n + 1 : Nat) : Int) = (n : Int) + 1 := by omega
    rw [e, lf_tmN (by omega), lf_tmN (by omega)]
    by_cases hc : f (254 + 2 * (n : Int)) = h
    · rw [if_pos (show f (254 + 2 * (n : Int)) = h ∧ ((0 : Int) = 0 ∨ f (254 + 2 * (n : Int) + 1) = 1) from ⟨hc, Or.inl rfl⟩)]
      by_cases hd : f (254 + 2 * (n : Int)) = h ∧ ((1 : Int) = 0 ∨ f (254 + 2 * (n : Int) + 1) = 1)
      · rw [if_pos hd]; omega
      · rw [if_neg hd]; omega
    · rw [if_neg (fun c => hc c.1), if_neg (fun c => hc c.1)]; omega
theorem tr_le {h k : Int} (hk : 0 ≤ k) : lf_tm f h 1 k ≤ lf_tm f h 0 k := by
  obtain ⟨n, rfl⟩ := Int.eq_ofNat_of_zero_le hk
  exact tr_01 n
theorem tr_sumn : ∀ n : Nat, (∀ j : Int, 0 ≤ j → j < (n : Int) → 0 ≤ f (254 + 2 * j) ∧ f (254 + 2 * j) ≤ 3) → lf_tm f 0 0 (n : Int) + lf_tm f 1 0 (n : Int) + lf_tm f 2 0 (n : Int) + lf_tm f 3 0 (n : Int) = (n : Int) := by
  intro n
  induction n with
  | zero => intro _; rfl
  | succ n ih =>
    intro hj
    have e : ((n + 1 : Nat) : Int) = (n : Int) + 1 := by omega
    rw [e] at hj ⊢
    have h1 := ih (fun j a b => hj j a (by omega))
    have h2 := hj (n : Int) (by omega) (by omega)
    rw [lf_tmN (by omega), lf_tmN (by omega), lf_tmN (by omega), lf_tmN (by omega)]
    have pos : ∀ {h : Int}, f (254 + 2 * (n : Int)) = h → (if f (254 + 2 * (n : Int)) = h ∧ ((0 : Int) = 0 ∨ f (254 + 2 * (n : Int) + 1) = 1) then (1 : Int) else 0) = 1 := fun hc => if_pos ⟨hc, Or.inl rfl⟩
    have neg : ∀ {h : Int}, f (254 + 2 * (n : Int)) ≠ h → (if f (254 + 2 * (n : Int)) = h ∧ ((0 : Int) = 0 ∨ f (254 + 2 * (n : Int) + 1) = 1) then (1 : Int) else 0) = 0 := fun hc => if_neg (fun c => hc c.1)
    rcases (show f (254 + 2 * (n : Int)) = 0 ∨ f (254 + 2 * (n : Int)) = 1 ∨ f (254 + 2 * (n : Int)) = 2 ∨ f (254 + 2 * (n : Int)) = 3 by omega) with hv | hv | hv | hv
    · rw [pos hv, neg (by omega), neg (by omega), neg (by omega)]; omega
    · rw [pos hv, neg (by omega), neg (by omega), neg (by omega)]; omega
    · rw [pos hv, neg (by omega), neg (by omega), neg (by omega)]; omega
    · rw [pos hv, neg (by omega), neg (by omega), neg (by omega)]; omega
theorem tr_sum {k : Int} (hk : 0 ≤ k) (hj : ∀ j : Int, 0 ≤ j → j < k → 0 ≤ f (254 + 2 * j) ∧ f (254 + 2 * j) ≤ 3) : lf_tm f 0 0 k + lf_tm f 1 0 k + lf_tm f 2 0 k + lf_tm f 3 0 k = k := by
  obtain ⟨n, rfl⟩ := Int.eq_ofNat_of_zero_le hk
  exact tr_sumn n hj
theorem tr_w {a : Int} (h : -2147483648 ≤ a ∧ a ≤ 2147483647) : lf_w a = a := Int32.toInt_ofInt_of_le h.1 (Int.lt_add_one_of_le h.2)
def tr_s4 (t : Int → Int) : Int := lf_w (lf_w (lf_w (lf_w (0 + t 0) + t (0 + 1)) + t (0 + 1 + 1)) + t (0 + 1 + 1 + 1))
theorem tr_S (h : tr_T t u f) : tr_s4 t = f 11 := by
  obtain ⟨h0, h1, h2, h3⟩ := h
  have e := tr_sum h0 h2
  have b := fun q : Int => tr_b (f := f) (h := q) (b := 0) h0
  have b0 := b 0
  have b1 := b 1
  have b2 := b 2
  have b3 := b 3
  show lf_w (lf_w (lf_w (lf_w (0 + t 0) + t 1) + t 2) + t 3) = f 11
  rw [(h3 0 (by omega) (by omega)).1, (h3 1 (by omega) (by omega)).1, (h3 2 (by omega) (by omega)).1, (h3 3 (by omega) (by omega)).1]
  rw [tr_w (a := 0 + lf_tm f 0 0 (f 11)) (by omega), tr_w (a := 0 + lf_tm f 0 0 (f 11) + lf_tm f 1 0 (f 11)) (by omega), tr_w (a := 0 + lf_tm f 0 0 (f 11) + lf_tm f 1 0 (f 11) + lf_tm f 2 0 (f 11)) (by omega), tr_w (by omega)]
  omega
/-! what nobody but tried, image and back touches -/
theorem tr_Tc (h : tr_T t u f) (ht : ∀ j : Int, 0 ≤ j → j < 4 → t' j = t j ∧ u' j = u j) (hf : ∀ i : Int, i = 11 ∨ (254 ≤ i ∧ i < 278) → f' i = f i) : tr_T t' u' f' := by
  obtain ⟨h0, h1, h2, h3⟩ := h
  have e := hf 11 (Or.inl rfl)
  unfold tr_T
  rw [e]
  refine ⟨h0, h1, fun j a b => ?_, fun q a b => ?_⟩
  · rw [hf _ (Or.inr ⟨by omega, by omega⟩)]; exact h2 j a b
  · rw [(ht q a b).1, (ht q a b).2, tr_tc (f := f) h0 (fun j c d => hf j (Or.inr ⟨c, by omega⟩)), tr_tc (f := f) h0 (fun j c d => hf j (Or.inr ⟨c, by omega⟩))]
    exact h3 q a b
theorem tr_fq {I I' : Nat → Int → Int} {P P' : Nat → Option Nat} {l : List Nat} {w : Int} {b : Bool} (h : tr_A I) (q : lf_fq l w b I P I' P') (hl : (l.contains 29 || l.contains 30 || l.contains 93 || l.contains 94 || l.contains 97 || l.contains 1000) = false) : tr_A I' := by
  simp only [Bool.or_eq_false_iff] at hl
  obtain ⟨⟨⟨⟨⟨a1, a2⟩, a3⟩, a4⟩, a5⟩, a6⟩ := hl
  refine ⟨tr_Tc h.1 (fun j _ _ => ⟨by rw [q.1 29 a1], by rw [q.1 30 a2]⟩) (fun i hi => q.2.2.2 0 a6 i hi), ?_⟩
  rw [q.1 93 a3, q.1 94 a4, q.1 97 a5]
  exact h.2
/-! tried -/
def tr_C (a b r : Int) (t u t' u' : Int → Int) : Prop := (a = -1 ∧ r = 0 ∧ ∀ h : Int, 0 ≤ h → h < 4 → t' h = 0 ∧ u' h = 0) ∨ (a ≠ -1 ∧ (a < 0 ∨ 3 < a ∨ 12 ≤ tr_s4 t) ∧ r = -2 ∧ t' = t ∧ u' = u) ∨ (0 ≤ a ∧ a ≤ 3 ∧ tr_s4 t < 12 ∧ t' a = lf_w (t a + 1) ∧ u' a = lf_w (u a + (if b = 0 then 0 else 1)) ∧ (∀ j, j ≠ a → t' j = t j ∧ u' j = u j) ∧ r = tr_s4 t')
def tr_M (a b r : Int) (f f' : Int → Int) : Prop := (a = -1 ∧ r = 0 ∧ f' 11 = 0) ∨ (a ≠ -1 ∧ (a < 0 ∨ 3 < a ∨ f 11 = 12) ∧ r = -2 ∧ f' = f) ∨ (0 ≤ a ∧ a ≤ 3 ∧ f 11 ≠ 12 ∧ f' (254 + 2 * f 11) = a ∧ f' (254 + 2 * f 11 + 1) = (if b = 0 then 0 else 1) ∧ f' 11 = f 11 + 1 ∧ (∀ j, j ≠ 11 → j ≠ 254 + 2 * f 11 → j ≠ 254 + 2 * f 11 + 1 → f' j = f j) ∧ r = f 11 + 1)
theorem tr_step {a b r r' : Int} (h : tr_T t u f) (c : tr_C a b r t u t' u') (m : tr_M a b r' f f') : r = r' ∧ tr_T t' u' f' := by
  have hS := tr_S h
  obtain ⟨h0, h1, h2, h3⟩ := h
  rcases c with ⟨ca, cr, ct⟩ | ⟨ca, cb, cr, ct, cu⟩ | ⟨ca, cb, cs, ct, cu, co, cr⟩
  · rcases m with ⟨_, mr, m1⟩ | ⟨ma, _⟩ | ⟨ma, _⟩
    · refine ⟨by omega, by rw [m1]; exact Int.le_refl _, by rw [m1]; decide, fun j a b => by rw [m1] at b; omega, fun q a b => ?_⟩
      rw [m1]
      exact ct q a b
    · exact absurd ca ma
    · omega
  · rcases m with ⟨ma, _⟩ | ⟨_, _, mr, me⟩ | ⟨ma, mb, mc, _⟩
    · exact absurd ma ca
    · subst ct cu me
      exact ⟨by omega, h0, h1, h2, h3⟩
    · rw [hS] at cb
      omega
  · rcases m with ⟨ma, _⟩ | ⟨_, ma, _⟩ | ⟨_, _, mc, m1, m2, m3, mo, mr⟩
    · omega
    · rw [hS] at cs; omega
    · have hT : tr_T t' u' f' := by
        unfold tr_T
        rw [m3]
        refine ⟨by omega, by omega, fun j a b => ?_, fun q q0 q1 => ?_⟩
        · by_cases hj : j = f 11
          · subst hj; rw [m1]; exact ⟨ca, cb⟩
          · rw [mo _ (by omega) (by omega) (by omega)]; exact h2 j a (by omega)
        · rw [lf_tmN h0, lf_tmN h0, m1, m2, tr_tc (f := f) h0 (fun j c d => mo j (by omega) (by omega) (by omega)), tr_tc (f := f) h0 (fun j c d => mo j (by omega) (by omega) (by omega))]
          have k0 := tr_b (f := f) (h := q) (b := 0) h0
          have k1 := tr_b (f := f) (h := q) (b := 1) h0
          have e := h3 q q0 q1
          by_cases hq : q = a
          · subst hq
            rw [ct, cu, e.1, e.2, if_pos (show q = q ∧ ((0 : Int) = 0 ∨ (if b = 0 then (0 : Int) else 1) = 1) from ⟨rfl, Or.inl rfl⟩), tr_w (by omega)]
            refine ⟨rfl, ?_⟩
            by_cases hb : b = 0
            · rw [if_pos hb, if_neg (show ¬ (q = q ∧ ((1 : Int) = 0 ∨ (0 : Int) = 1)) from fun c => by omega), tr_w (by omega)]
            · rw [if_neg hb, if_pos (show q = q ∧ ((1 : Int) = 0 ∨ (1 : Int) = 1) from ⟨rfl, Or.inr rfl⟩), tr_w (by omega)]
          · rw [(co q hq).1, (co q hq).2, if_neg (fun c => hq c.1.symm), if_neg (fun c => hq c.1.symm)]
            exact ⟨by omega, by omega⟩
      refine ⟨?_, hT⟩
      rw [cr, tr_S hT, m3, mr]
/-! tried of the class, and of the reference -/
variable {I : Nat → Int → Int} {s : lf_Z}
theorem tr_65c {Q : Int → lf_Z → Prop} (h : Q (tr_s4 (s.1 29)) s) : fm_65c Q s := by
  unfold fm_65c
  intro X hX
  refine hX _ _ _ ⟨lf_Rof (by omega), lf_Rof (by omega), fun c => absurd c (by omega), fun _ => ⟨by omega, ?_⟩⟩
  refine hX _ _ _ ⟨lf_Rof (by omega), lf_Rof (by omega), fun c => absurd c (by omega), fun _ => ⟨by omega, ?_⟩⟩
  refine hX _ _ _ ⟨lf_Rof (by omega), lf_Rof (by omega), fun c => absurd c (by omega), fun _ => ⟨by omega, ?_⟩⟩
  refine hX _ _ _ ⟨lf_Rof (by omega), lf_Rof (by omega), fun c => absurd c (by omega), fun _ => ⟨by omega, ?_⟩⟩
  exact hX _ _ _ ⟨lf_Rof (by omega), lf_Rof (by omega), fun _ => h, fun c => absurd (by omega) c⟩
theorem tr_s4B : -2147483648 ≤ tr_s4 t ∧ tr_s4 t ≤ 2147483647 := lf_wB
theorem tr_166 {a1 a2 : Int} {Q : Int → lf_Z → Prop} (hI : iv_A s.1 s.2.2) (ba1 : (-2147483648) ≤ a1 ∧ a1 ≤ 2147483647) (ba2 : 0 ≤ a2 ∧ a2 ≤ 1) (hQ : ∀ (r : Int) (s' : lf_Z), iv_A s'.1 s'.2.2 → lf_fq [29, 30] 1000000 true s.1 s.2.2 s'.1 s'.2.2 → tr_C a1 a2 r (s.1 29) (s.1 30) (s'.1 29) (s'.1 30) → ((-2147483648) ≤ r ∧ r ≤ 2147483647) → Q r s') : fm_166 a1 a2 Q s := by
  unfold fm_166
  refine ⟨lf_Rof (by omega), fun c1 => ?_, fun c1 => ?_⟩
  · refine sm_15 hI (by omega) (by omega) (by omega) (fun z q2 => ?_)
    refine ⟨fun c3 => ?_, fun c3 => ?_⟩
    · have dc3 := q2.2 c3
      exact hQ (-2) s hI lf_fq_rf (Or.inr (Or.inl ⟨c1, by omega, rfl, rfl, rfl⟩)) (by omega)
    · have dc3 := q2.1 c3
      refine tr_65c ?_
      have hB := tr_s4B (t := s.1 29)
      refine ⟨lf_Rof (by omega), fun c5 => ?_, fun c5 => ?_⟩
      · have fin : ∀ v : Int, v = (if a2 = 0 then 0 else 1) → fm_166_p70 Q a1 (s.1 30 a1) v (lf_up s.1 29 a1 (lf_w ((s.1 29 a1) + 1)), s.2.1, s.2.2) := by
          intro v hv
          have hv1 : 0 ≤ v ∧ v ≤ 1 := by rw [hv]; split <;> omega
          have hI8 : iv_A (lf_up s.1 29 a1 (lf_w ((s.1 29 a1) + 1))) s.2.2 := iv_w29 hI lf_wB
          have fr9 : lf_fq [29, 30] 1000000 true s.1 s.2.2 (lf_up s.1 29 a1 (lf_w ((s.1 29 a1) + 1))) s.2.2 := lf_fq_up (lf_fq_rf) rfl (fun h => absurd h (by decide))
          have hI9 : iv_A (lf_up (lf_up s.1 29 a1 (lf_w ((s.1 29 a1) + 1))) 30 a1 (lf_w (s.1 30 a1 + v))) s.2.2 := iv_w30 hI8 lf_wB
          have fr10 : lf_fq [29, 30] 1000000 true s.1 s.2.2 (lf_up (lf_up s.1 29 a1 (lf_w ((s.1 29 a1) + 1))) 30 a1 (lf_w (s.1 30 a1 + v))) s.2.2 := lf_fq_up fr9 rfl (fun h => absurd h (by decide))
          refine ⟨by omega, tr_65c ?_⟩
          refine hQ _ (lf_up (lf_up s.1 29 a1 (lf_w ((s.1 29 a1) + 1))) 30 a1 (lf_w (s.1 30 a1 + v)), s.2.1, s.2.2) hI9 fr10 (Or.inr (Or.inr ⟨by omega, by omega, c5, ?_, ?_, ?_, rfl⟩)) tr_s4B
          · show lf_up (lf_up s.1 29 a1 (lf_w ((s.1 29 a1) + 1))) 30 a1 (lf_w (s.1 30 a1 + v)) 29 a1 = _
            rw [lf_up_c (by decide), lf_up_s]
          · show lf_up (lf_up s.1 29 a1 (lf_w ((s.1 29 a1) + 1))) 30 a1 (lf_w (s.1 30 a1 + v)) 30 a1 = _
            rw [lf_up_s, hv]
          · intro j hj
            show lf_up (lf_up s.1 29 a1 (lf_w ((s.1 29 a1) + 1))) 30 a1 (lf_w (s.1 30 a1 + v)) 29 j = _ ∧ lf_up (lf_up s.1 29 a1 (lf_w ((s.1 29 a1) + 1))) 30 a1 (lf_w (s.1 30 a1 + v)) 30 j = _
            rw [lf_up_c (by decide), lf_up_i hj, lf_up_i hj, lf_up_c (by decide)]
            exact ⟨rfl, rfl⟩
        refine ⟨by omega, lf_Rof (by omega), fun c11 => ?_, fun c11 => ?_⟩
        · exact fin 0 (by rw [if_pos c11])
        · exact fin 1 (by rw [if_neg c11])
      · exact hQ (-2) s hI lf_fq_rf (Or.inr (Or.inl ⟨c1, Or.inr (Or.inr (by omega)), rfl, rfl, rfl⟩)) (by omega)
  · have e : a1 = -1 := by omega
    have hI1 : iv_A (lf_fl s.1 29 4 0) s.2.2 := iv_fl29 hI (by omega)
    have hI3 : iv_A (lf_fl (lf_fl s.1 29 4 0) 30 4 0) s.2.2 := iv_fl30 hI1 (by omega)
    have fr2 : lf_fq [29, 30] 1000000 true s.1 s.2.2 (lf_fl s.1 29 4 0) s.2.2 := lf_fq_fl (lf_fq_rf) rfl (by decide)
    have fr4 : lf_fq [29, 30] 1000000 true s.1 s.2.2 (lf_fl (lf_fl s.1 29 4 0) 30 4 0) s.2.2 := lf_fq_fl fr2 rfl (by decide)
    refine hQ 0 (lf_fl (lf_fl s.1 29 4 0) 30 4 0, s.2.1, s.2.2) hI3 fr4 (Or.inl ⟨e, rfl, fun q q0 q1 => ?_⟩) (by omega)
    show lf_fl (lf_fl s.1 29 4 0) 30 4 0 29 q = 0 ∧ lf_fl (lf_fl s.1 29 4 0) 30 4 0 30 q = 0
    rw [lf_fl_c (by decide)]
    unfold lf_fl
    rw [if_pos ⟨rfl, q0, q1⟩, if_pos ⟨rfl, q0, q1⟩]
    exact ⟨rfl, rfl⟩
theorem tr_321 {a1 a2 : Int} {Q : Int → lf_Z → Prop} (hI : iv_A s.1 s.2.2) (ba1 : (-2147483648) ≤ a1 ∧ a1 ≤ 2147483647) (ba2 : 0 ≤ a2 ∧ a2 ≤ 1) (hQ : ∀ (r : Int) (s' : lf_Z), iv_A s'.1 s'.2.2 → lf_fq [96, 1000] 11 true s.1 s.2.2 s'.1 s'.2.2 → tr_M a1 a2 r (s.1 96) (s'.1 96) → ((-2) ≤ r ∧ r ≤ 13) → Q r s') : fm_321 a1 a2 Q s := by
  have fo : ∀ {i : Int}, i = 11 ∨ (254 ≤ i ∧ i < 278) → ∀ r, [96, 1000].contains (1000 + r) = false → ¬ fr_g r i := fun h => fr_o (Or.inl rfl) (Or.inr (fr_n1 (by omega))) (Or.inr (fr_n2 (by omega))) (Or.inr (fr_n3 (by omega))) (Or.inr (fr_n4 (by omega))) (Or.inr (fr_n5 (by omega))) (Or.inr (fr_n6 (by omega)))
  unfold fm_321
  refine ⟨lf_Rof (by omega), fun c1 => ?_, fun c1 => ?_⟩
  · refine sm_183 hI (by omega) (by omega) (by omega) (fun z q2 => ?_)
    refine ⟨fun c3 => ?_, fun c3 => ?_⟩
    · have dc3 := q2.2 c3
      exact hQ (-2) s hI lf_fq_rf (Or.inr (Or.inl ⟨c1, by omega, rfl, rfl⟩)) (by omega)
    · have dc3 := q2.1 c3
      have b4 : 0 ≤ s.1 96 11 ∧ s.1 96 11 ≤ 12 := iv_rd96 hI (iv_f6cd46d53 rfl)
      refine ⟨lf_Rof (by omega), fun c5 => ?_, fun c5 => ?_⟩
      · have hI6 : iv_A (lf_up s.1 96 (254 + (2 * (s.1 96 11))) a1) s.2.2 := iv_wd96 hI (lf_le2 (iv_fd5258eed (s.1 96 11) rfl (by omega)) (by omega)) (fun h => absurd h (by omega))
        have fr7 : lf_fq [96, 1000] 11 true s.1 s.2.2 (lf_up s.1 96 (254 + (2 * (s.1 96 11))) a1) s.2.2 := lf_fq_up (lf_fq_rf) rfl (fun _ => ⟨by omega, fo (Or.inr (by omega))⟩)
        have b9 : (lf_up s.1 96 (254 + (2 * (s.1 96 11))) a1) 96 11 = s.1 96 11 := lf_up_i (by omega)
        have fin : ∀ v : Int, v = (if a2 = 0 then 0 else 1) → fm_321_p86 Q ((254 + (2 * ((lf_up s.1 96 (254 + (2 * (s.1 96 11))) a1) 96 11))) + 1) v (lf_up s.1 96 (254 + (2 * (s.1 96 11))) a1, s.2.1, s.2.2) := by
          intro v hv
          have hv1 : 0 ≤ v ∧ v ≤ 1 := by rw [hv]; split <;> omega
          rw [b9]
          have y1 : 255 ≤ 254 + (2 * (s.1 96 11)) + 1 ∧ 254 + (2 * (s.1 96 11)) + 1 ≤ 277 := by omega
          have hI11 : iv_A (lf_up (lf_up s.1 96 (254 + (2 * (s.1 96 11))) a1) 96 (254 + (2 * (s.1 96 11)) + 1) v) s.2.2 := iv_wd96 hI6 (lf_le2 (iv_f84ea52dc (254 + (2 * (s.1 96 11)) + 1) (by omega) y1) (by omega)) (fun h => absurd h (by omega))
          have fr12 : lf_fq [96, 1000] 11 true s.1 s.2.2 (lf_up (lf_up s.1 96 (254 + (2 * (s.1 96 11))) a1) 96 (254 + (2 * (s.1 96 11)) + 1) v) s.2.2 := lf_fq_up fr7 rfl (fun _ => ⟨by omega, fo (Or.inr (by omega))⟩)
          have e11 : (lf_up (lf_up s.1 96 (254 + (2 * (s.1 96 11))) a1) 96 (254 + (2 * (s.1 96 11)) + 1) v) 96 11 = s.1 96 11 := (lf_up_i (by omega)).trans b9
          refine ⟨by omega, ?_⟩
          show Q (((lf_up (lf_up s.1 96 (254 + (2 * (s.1 96 11))) a1) 96 (254 + (2 * (s.1 96 11)) + 1) v) 96 11) + 1) (lf_up (lf_up (lf_up s.1 96 (254 + (2 * (s.1 96 11))) a1) 96 (254 + (2 * (s.1 96 11)) + 1) v) 96 11 (((lf_up (lf_up s.1 96 (254 + (2 * (s.1 96 11))) a1) 96 (254 + (2 * (s.1 96 11)) + 1) v) 96 11) + 1), s.2.1, s.2.2)
          rw [e11]
          have hI15 : iv_A (lf_up (lf_up (lf_up s.1 96 (254 + (2 * (s.1 96 11))) a1) 96 (254 + (2 * (s.1 96 11)) + 1) v) 96 11 (s.1 96 11 + 1)) s.2.2 := iv_wd96 hI11 (lf_le2 (iv_f9442898f rfl) (by omega)) (fun h => absurd h (by omega))
          have fr16 : lf_fq [96, 1000] 11 true s.1 s.2.2 (lf_up (lf_up (lf_up s.1 96 (254 + (2 * (s.1 96 11))) a1) 96 (254 + (2 * (s.1 96 11)) + 1) v) 96 11 (s.1 96 11 + 1)) s.2.2 := lf_fq_up fr12 rfl (fun _ => ⟨by omega, fo (Or.inl rfl)⟩)
          refine hQ _ (lf_up (lf_up (lf_up s.1 96 (254 + (2 * (s.1 96 11))) a1) 96 (254 + (2 * (s.1 96 11)) + 1) v) 96 11 (s.1 96 11 + 1), s.2.1, s.2.2) hI15 fr16 (Or.inr (Or.inr ⟨by omega, by omega, c5, ?_, ?_, ?_, ?_, rfl⟩)) (by omega)
          · show lf_up (lf_up (lf_up s.1 96 (254 + (2 * (s.1 96 11))) a1) 96 (254 + (2 * (s.1 96 11)) + 1) v) 96 11 (s.1 96 11 + 1) 96 (254 + 2 * s.1 96 11) = a1
            rw [lf_up_i (by omega), lf_up_i (by omega), lf_up_s]
          · show lf_up (lf_up (lf_up s.1 96 (254 + (2 * (s.1 96 11))) a1) 96 (254 + (2 * (s.1 96 11)) + 1) v) 96 11 (s.1 96 11 + 1) 96 (254 + 2 * s.1 96 11 + 1) = _
            rw [lf_up_i (by omega), lf_up_s, hv]
          · show lf_up (lf_up (lf_up s.1 96 (254 + (2 * (s.1 96 11))) a1) 96 (254 + (2 * (s.1 96 11)) + 1) v) 96 11 (s.1 96 11 + 1) 96 11 = _
            rw [lf_up_s]
          · intro j j1 j2 j3
            show lf_up (lf_up (lf_up s.1 96 (254 + (2 * (s.1 96 11))) a1) 96 (254 + (2 * (s.1 96 11)) + 1) v) 96 11 (s.1 96 11 + 1) 96 j = _
            rw [lf_up_i j1, lf_up_i j3, lf_up_i j2]
        refine ⟨by omega, lf_Rof (by omega), fun c10 => ?_, fun c10 => ?_⟩
        · exact fin 0 (by rw [if_pos c10])
        · exact fin 1 (by rw [if_neg c10])
      · exact hQ (-2) s hI lf_fq_rf (Or.inr (Or.inl ⟨c1, Or.inr (Or.inr (by omega)), rfl, rfl⟩)) (by omega)
  · have e : a1 = -1 := by omega
    have hI17 : iv_A (lf_up s.1 96 11 0) s.2.2 := iv_wd96 hI (lf_le2 (iv_f9442898f rfl) (by omega)) (fun h => absurd h (by omega))
    have fr18 : lf_fq [96, 1000] 11 true s.1 s.2.2 (lf_up s.1 96 11 0) s.2.2 := lf_fq_up (lf_fq_rf) rfl (fun _ => ⟨by omega, fo (Or.inl rfl)⟩)
    exact hQ 0 (lf_up s.1 96 11 0, s.2.1, s.2.2) hI17 fr18 (Or.inl ⟨e, rfl, (show lf_up s.1 96 11 0 96 11 = 0 from lf_up_s)⟩) (by omega)
/-! turned -/
def tr_g : Nat → Int → Int → Int
  | 0, a, _ => a
  | n + 1, a, b => if b = 0 then a else tr_g n b (a.tmod b)
def tr_q (u a b : Int) : Int := (if b = 0 then u else a).tdiv (tr_g 20 a u)
def tr_ok (u a : Nat) : Bool := decide (tr_g 20 a u = tr_g 20 u a) && decide (1 ≤ tr_g 20 (a : Int) u) && decide (tr_g 20 (a : Int) u ≤ 12)
theorem tr_okA : (List.range 13).all (fun u => (List.range 12).all (fun a => tr_ok u (a + 1))) = true := by decide +kernel
theorem tr_gq {u a : Int} (h0 : 0 ≤ u) (h1 : u ≤ 12) (a0 : 1 ≤ a) (a1 : a ≤ 12) : tr_g 20 a u = tr_g 20 u a ∧ 1 ≤ tr_g 20 a u ∧ tr_g 20 a u ≤ 12 := by
  obtain ⟨n, rfl⟩ := Int.eq_ofNat_of_zero_le h0
  obtain ⟨m, hm⟩ := Int.eq_ofNat_of_zero_le (show 0 ≤ a - 1 by omega)
  have e : a = ((m + 1 : Nat) : Int) := by omega
  subst e
  have h := List.all_eq_true.mp (List.all_eq_true.mp tr_okA n (List.mem_range.mpr (by omega))) m (List.mem_range.mpr (by omega))
  unfold tr_ok at h
  simp only [Bool.and_eq_true, decide_eq_true_eq] at h
  exact ⟨h.1.1, h.1.2, h.2⟩
theorem tr_wl {a : Int} (h : -1000 ≤ a ∧ a ≤ 1000) : lf_wl a = a := lf_wlR (by omega)
theorem tr_dv {y g : Int} (h0 : 0 ≤ y) (h1 : y ≤ 12) (g0 : 1 ≤ g) : 0 ≤ y.tdiv g ∧ y.tdiv g ≤ 12 := by
  rw [Int.tdiv_eq_ediv_of_nonneg h0]
  exact ⟨Int.ediv_nonneg h0 (by omega), Int.le_trans (Int.ediv_le_self _ h0) h1⟩
theorem tr_md {x y : Int} (h0 : 0 ≤ x) (y0 : 0 ≤ y) (hy : y ≠ 0) : 0 ≤ x.tmod y ∧ x.tmod y < y := by
  rw [Int.tmod_eq_emod_of_nonneg h0]
  exact ⟨Int.emod_nonneg _ hy, Int.emod_lt_of_pos _ (by omega)⟩
theorem tr_qB {u a b : Int} (h0 : 0 ≤ u) (h1 : u ≤ 12) (a0 : 1 ≤ a) (a1 : a ≤ 12) : 0 ≤ tr_q u a b ∧ tr_q u a b ≤ 12 := by
  unfold tr_q
  have hg := tr_gq h0 h1 a0 a1
  exact tr_dv (by split <;> omega) (by split <;> omega) hg.2.1
theorem tr_125 {a0 a1 a2 : Int} {Q : Int → lf_Z → Prop} (h0 : 0 ≤ a0) (h1 : a0 ≤ 12) (h2 : 1 ≤ a1) (h3 : a1 ≤ 12) (ba2 : 0 ≤ a2 ∧ a2 ≤ 1) (hQ : Q (tr_q a0 a1 a2) s) : fm_125 a0 a1 a2 Q s := by
  have hg := tr_gq h0 h1 h2 h3
  unfold fm_125
  intro X hX
  have key : ∀ (n : Nat) (x5 x7 x9 : Int), 0 ≤ x5 → x5 ≤ 12 → 0 ≤ x7 → x7 ≤ 12 → x7 < n → 0 ≤ x9 → x9 + n ≤ 1000 → tr_g n x5 x7 = tr_g 20 a1 a0 → X x5 x7 x9 s := by
    intro n
    induction n with
    | zero => intros; omega
    | succ n ih =>
      intro x5 x7 x9 p0 p1 q0 q1 hn m0 m1 he
      refine hX _ _ _ _ ?_
      unfold fm_125_p9
      refine ⟨lf_Rof (by omega), fun c => absurd c (by omega), fun _ => ⟨fun c => ?_, fun c => ?_⟩⟩
      · rw [tr_wl (by omega)] at c
        have e5 : x5 = tr_g 20 a1 a0 := by
          rw [← he]
          show x5 = if x7 = 0 then x5 else _
          rw [if_pos c]
        have fin : ∀ y : Int, y = (if a2 = 0 then a0 else a1) → fm_125_p55 Q x5 y s := by
          intro y hy
          have y01 : 0 ≤ y ∧ y ≤ 12 := by rw [hy]; split <;> omega
          unfold fm_125_p55
          rw [tr_wl (a := x5) (by omega), tr_wl (a := y) (by omega)]
          refine ⟨fun c => ⟨c, ?_⟩, fun c => absurd (by omega) c⟩
          have hd := tr_dv y01.1 y01.2 (show 1 ≤ x5 by omega)
          rw [tr_wl (by omega), e5, hy]
          exact hQ
        unfold fm_125_p45
        refine ⟨lf_Rof (by omega), fun c => ?_, fun c => ?_⟩
        · exact fin a0 (by rw [if_pos c])
        · exact fin a1 (by rw [if_neg c])
      · rw [tr_wl (by omega)] at c
        have hm := tr_md p0 q0 c
        rw [tr_wl (a := x7) (by omega), tr_wl (a := x5) (by omega), tr_wl (by omega)]
        refine ⟨c, ih x7 _ _ q0 q1 hm.1 (by omega) (by omega) (by omega) (by omega) ?_⟩
        rw [← he]
        show _ = if x7 = 0 then x5 else tr_g n x7 (x5.tmod x7)
        rw [if_neg c]
  exact key 20 a1 a0 0 (by omega) h3 h0 h1 (by omega) (by omega) (by omega) rfl
theorem tr_291 {a0 a1 a2 : Int} {Q : Int → lf_Z → Prop} (h0 : 0 ≤ a0) (h1 : a0 ≤ 12) (h2 : 1 ≤ a1) (h3 : a1 ≤ 12) (ba2 : 0 ≤ a2 ∧ a2 ≤ 1) (hQ : Q (tr_q a0 a1 a2) s) : fm_291 a0 a1 a2 Q s := by
  have hg := tr_gq h0 h1 h2 h3
  have fin : ∀ y : Int, y = (if a2 = 0 then a0 else a1) → fm_291_p10 Q a0 a1 y s := by
    intro y hy
    have y01 : 0 ≤ y ∧ y ≤ 12 := by rw [hy]; split <;> omega
    unfold fm_291_p10
    rw [tr_wl (a := a0) (by omega), tr_wl (a := a1) (by omega)]
    unfold fm_292
    intro X hX
    have key : ∀ (n : Nat) (x4 x6 : Int), 0 ≤ x4 → x4 ≤ 12 → 0 ≤ x6 → x6 ≤ 12 → x6 < n → tr_g n x4 x6 = tr_g 20 a0 a1 → X x4 x6 s := by
      intro n
      induction n with
      | zero => intros; omega
      | succ n ih =>
        intro x4 x6 p0 p1 q0 q1 hn he
        refine hX _ _ _ ?_
        unfold fm_292_p6
        refine ⟨fun c => ?_, fun c => ?_⟩
        · rw [tr_wl (by omega)] at c
          have e4 : x4 = tr_g 20 a1 a0 := by
            rw [hg.1, ← he]
            show x4 = if x6 = 0 then x4 else _
            rw [if_pos c]
          rw [tr_wl (a := x4) (by omega), tr_wl (a := x4) (by omega), tr_wl (a := y) (by omega)]
          refine ⟨by omega, ?_⟩
          have hd := tr_dv y01.1 y01.2 (show 1 ≤ x4 by omega)
          rw [tr_wl (by omega), e4, hy]
          exact hQ
        · rw [tr_wl (by omega)] at c
          have hm := tr_md p0 q0 c
          rw [tr_wl (a := x6) (by omega), tr_wl (a := x4) (by omega), tr_wl (by omega)]
          refine ⟨c, ih x6 _ q0 q1 hm.1 (by omega) (by omega) ?_⟩
          rw [← he]
          show _ = if x6 = 0 then x4 else tr_g n x6 (x4.tmod x6)
          rw [if_neg c]
    exact key 20 a0 a1 h0 h1 (by omega) h3 (by omega) rfl
  unfold fm_291
  refine ⟨lf_Rof (by omega), fun c => ?_, fun c => ?_⟩
  · exact fin a0 (by rw [if_pos c])
  · exact fin a1 (by rw [if_neg c])
def tr_a (f : Int → Int) (h b : Int) : Int := if 0 ≤ h ∧ h ≤ 3 ∧ lf_tm f h 0 (f 11) ≠ 0 then tr_q (lf_tm f h 1 (f 11)) (lf_tm f h 0 (f 11)) b else -1
theorem tr_in {a : Int} (h : 0 ≤ a ∧ a ≤ 12) : lf_w (lf_wl a) = a := by rw [tr_wl (by omega), tr_w (by omega)]
theorem tr_169 {a1 a2 : Int} {Q : Int → lf_Z → Prop} (hI : iv_A s.1 s.2.2) (ba1 : (-2147483648) ≤ a1 ∧ a1 ≤ 2147483647) (ba2 : 0 ≤ a2 ∧ a2 ≤ 1) (hT : tr_A s.1) (hQ : ∀ (r : Int), r = tr_a (s.1 96) a1 a2 → ((-2147483648) ≤ r ∧ r ≤ 2147483647) → Q r s) : fm_169 a1 a2 Q s := by
  unfold fm_169
  refine sm_15 hI (by omega) (by omega) (by omega) (fun z q2 => ?_)
  refine ⟨fun c3 => ?_, fun c3 => ?_⟩
  · have dc3 := q2.2 c3
    refine hQ (-1) ?_ (by omega)
    unfold tr_a
    rw [if_neg (fun c => dc3 ⟨c.1, c.2.1⟩)]
  · have dc3 := q2.1 c3
    obtain ⟨h0, h1, h2, h3⟩ := hT.1
    have e := h3 a1 (by omega) (by omega)
    have k0 := tr_b (f := s.1 96) (h := a1) (b := 0) h0
    have k1 := tr_b (f := s.1 96) (h := a1) (b := 1) h0
    have kl := tr_le (f := s.1 96) (h := a1) h0
    refine ⟨by omega, ?_⟩
    rw [e.1, e.2]
    refine ⟨lf_Rof (by omega), fun c => ⟨lf_Rof (by omega), ?_⟩, fun c => ?_⟩
    · refine tr_125 k1.1 (by omega) (by omega) (by omega) ba2 ?_
      have hb := tr_qB (b := a2) k1.1 (show lf_tm (s.1 96) a1 1 (s.1 96 11) ≤ 12 by omega) (show 1 ≤ lf_tm (s.1 96) a1 0 (s.1 96 11) by omega) (by omega)
      rw [tr_in hb]
      refine hQ _ ?_ (by omega)
      unfold tr_a
      rw [if_pos ⟨by omega, by omega, c⟩]
    · refine hQ (-1) ?_ (by omega)
      unfold tr_a
      rw [if_neg (fun d => c d.2.2)]
theorem tr_322 {a1 a2 : Int} {Q : Int → lf_Z → Prop} (hI : iv_A s.1 s.2.2) (ba1 : (-2147483648) ≤ a1 ∧ a1 ≤ 2147483647) (ba2 : 0 ≤ a2 ∧ a2 ≤ 1) (hQ : ∀ (r : Int), r = tr_a (s.1 96) a1 a2 → ((-2147483648) ≤ r ∧ r ≤ 2147483647) → Q r s) : fm_322 a1 a2 Q s := by
  have b4 : 0 ≤ s.1 96 11 ∧ s.1 96 11 ≤ 12 := iv_rd96 hI (iv_f6cd46d53 rfl)
  unfold fm_322
  refine sm_183 hI (by omega) (by omega) (by omega) (fun z q2 => ?_)
  refine ⟨fun c3 => ?_, fun c3 => ?_⟩
  · have dc3 := q2.2 c3
    refine hQ (-1) ?_ (by omega)
    unfold tr_a
    rw [if_neg (fun c => dc3 ⟨c.1, c.2.1⟩)]
  · have dc3 := q2.1 c3
    have k0 := tr_b (f := s.1 96) (h := a1) (b := 0) b4.1
    have k1 := tr_b (f := s.1 96) (h := a1) (b := 1) b4.1
    refine sm_323 hI (by omega) (by omega) (fun r e1 q1 => ?_)
    subst e1
    refine ⟨lf_Rof (by omega), fun c => ?_, fun c => ?_⟩
    · refine sm_323 hI (by omega) (by omega) (fun r e2 q2 => ?_)
      subst e2
      refine ⟨lf_Rof (by omega), ?_⟩
      refine sm_323 hI (by omega) (by omega) (fun r e3 q3 => ?_)
      subst e3
      refine ⟨lf_Rof (by omega), ?_⟩
      refine tr_291 k1.1 (by omega) (by omega) (by omega) ba2 ?_
      have hb := tr_qB (b := a2) k1.1 (show lf_tm (s.1 96) a1 1 (s.1 96 11) ≤ 12 by omega) (show 1 ≤ lf_tm (s.1 96) a1 0 (s.1 96 11) by omega) (by omega)
      rw [tr_in hb]
      refine hQ _ ?_ (by omega)
      unfold tr_a
      rw [if_pos ⟨by omega, by omega, c⟩]
    · refine hQ (-1) ?_ (by omega)
      unfold tr_a
      rw [if_neg (fun d => c d.2.2)]
/-! best -/
def tr_s (T U : Int → Int) (b h : Int) : Int := if T h = 0 then b else if b < 0 then h else if U b * T h < U h * T b ∨ (U h * T b = U b * T h ∧ T b < T h) then h else b
def tr_best (T U : Int → Int) : Int := tr_s T U (tr_s T U (tr_s T U (tr_s T U (-1) 0) 1) 2) 3
theorem tr_sB {T U : Int → Int} {b h : Int} (hb : -1 ≤ b ∧ b ≤ 3) (hh : 0 ≤ h ∧ h ≤ 3) : -1 ≤ tr_s T U b h ∧ tr_s T U b h ≤ 3 := by
  unfold tr_s
  (repeat' split) <;> omega
theorem tr_pr {x y : Int} (hx : 0 ≤ x ∧ x ≤ 12) (hy : 0 ≤ y ∧ y ≤ 12) : 0 ≤ x * y ∧ x * y ≤ 144 := by
  refine ⟨Int.mul_nonneg hx.1 hy.1, ?_⟩
  have h1 := Int.mul_le_mul_of_nonneg_right hx.2 hy.1
  omega
def tr_R (T U : Int → Int) : Prop := ∀ h : Int, 0 ≤ h → h < 4 → (0 ≤ T h ∧ T h ≤ 12) ∧ (0 ≤ U h ∧ U h ≤ 12)
theorem tr_tR (h : tr_T t u f) : tr_R t u := by
  obtain ⟨h0, h1, h2, h3⟩ := h
  intro q q0 q1
  have e := h3 q q0 q1
  have k0 := tr_b (f := f) (h := q) (b := 0) h0
  have k1 := tr_b (f := f) (h := q) (b := 1) h0
  rw [e.1, e.2]
  exact ⟨⟨k0.1, by omega⟩, ⟨k1.1, by omega⟩⟩
theorem tr_bc {T U T' U' : Int → Int} (h : ∀ q : Int, 0 ≤ q → q < 4 → T' q = T q ∧ U' q = U q) : tr_best T' U' = tr_best T U := by
  have st : ∀ {b q : Int}, -1 ≤ b ∧ b ≤ 3 → 0 ≤ q ∧ q ≤ 3 → tr_s T' U' b q = tr_s T U b q := by
    intro b q hb hq
    unfold tr_s
    have e := h q hq.1 (by omega)
    rw [e.1, e.2]
    by_cases c : b < 0
    · rw [if_pos c, if_pos c]
    · have e2 := h b (by omega) (by omega)
      rw [e2.1, e2.2]
  unfold tr_best
  have b0 := tr_sB (T := T) (U := U) (b := -1) (h := 0) (by omega) (by omega)
  have b1 := tr_sB (T := T) (U := U) (h := 1) b0 (by omega)
  have b2 := tr_sB (T := T) (U := U) (h := 2) b1 (by omega)
  rw [st (b := -1) (q := 0) (by omega) (by omega), st b0 (by omega), st b1 (by omega), st b2 (by omega)]
theorem tr_171 {Q : Int → lf_Z → Prop} (hR : tr_R (s.1 29) (s.1 30)) (hQ : Q (tr_best (s.1 29) (s.1 30)) s) : fm_171 Q s := by
  unfold fm_171
  intro X hX
  have step : ∀ x1 x2 : Int, -1 ≤ x1 ∧ x1 ≤ 3 → 0 ≤ x2 ∧ x2 ≤ 3 → X (tr_s (s.1 29) (s.1 30) x1 x2) (x2 + 1) s → X x1 x2 s := by
    intro x1 x2 h1 h2 h
    refine hX _ _ _ ?_
    have r2 := hR x2 h2.1 (by omega)
    unfold fm_171_p4
    refine ⟨lf_Rof (by omega), fun c => absurd c (by omega), fun _ => ⟨by omega, lf_Rof (by omega), fun c => ?_, fun c => ⟨lf_Rof (by omega), fun d => ?_, fun d => ?_⟩⟩⟩
    · have e : tr_s (s.1 29) (s.1 30) x1 x2 = x1 := by unfold tr_s; rw [if_pos (by omega)]
      rw [e] at h
      exact h
    · have e : tr_s (s.1 29) (s.1 30) x1 x2 = x2 := by unfold tr_s; rw [if_neg (by omega), if_pos (by omega)]
      rw [e] at h
      exact h
    · have r1 := hR x1 (by omega) (by omega)
      have p1 := tr_pr r1.2 r2.1
      have p2 := tr_pr r2.2 r1.1
      have yes : (s.1 30 x1 * s.1 29 x2 < s.1 30 x2 * s.1 29 x1 ∨ (s.1 30 x2 * s.1 29 x1 = s.1 30 x1 * s.1 29 x2 ∧ s.1 29 x1 < s.1 29 x2)) → X x2 (x2 + 1) s := by
        intro c9
        have e : tr_s (s.1 29) (s.1 30) x1 x2 = x2 := by unfold tr_s; rw [if_neg (by omega), if_neg (by omega), if_pos c9]
        rw [e] at h
        exact h
      have no : ¬ (s.1 30 x1 * s.1 29 x2 < s.1 30 x2 * s.1 29 x1 ∨ (s.1 30 x2 * s.1 29 x1 = s.1 30 x1 * s.1 29 x2 ∧ s.1 29 x1 < s.1 29 x2)) → X x1 (x2 + 1) s := by
        intro c9
        have e : tr_s (s.1 29) (s.1 30) x1 x2 = x1 := by unfold tr_s; rw [if_neg (by omega), if_neg (by omega), if_neg c9]
        rw [e] at h
        exact h
      unfold fm_172
      rw [tr_w (a := s.1 30 x1 * s.1 29 x2) (by omega), tr_w (a := s.1 30 x2 * s.1 29 x1) (by omega)]
      have yesF : s.1 30 x1 * s.1 29 x2 < s.1 30 x2 * s.1 29 x1 ∨ (s.1 30 x2 * s.1 29 x1 = s.1 30 x1 * s.1 29 x2 ∧ s.1 29 x1 < s.1 29 x2) → (true = false → fm_171_p34 X Q x1 x2 s) ∧ (true = true → fm_171_p32 X Q x2 s) := fun c9 => ⟨(fun e => by cases e), fun _ => yes c9⟩
      have noF : ¬ (s.1 30 x1 * s.1 29 x2 < s.1 30 x2 * s.1 29 x1 ∨ (s.1 30 x2 * s.1 29 x1 = s.1 30 x1 * s.1 29 x2 ∧ s.1 29 x1 < s.1 29 x2)) → (false = false → fm_171_p34 X Q x1 x2 s) ∧ (false = true → fm_171_p32 X Q x2 s) := fun c9 => ⟨fun _ => no c9, fun e => by cases e⟩
      refine ⟨by omega, by omega, fun c9 => yesF (Or.inl c9), fun c9 => ⟨fun d9 => noF (fun o => ?_), fun d9 => ⟨lf_Rof (by omega), lf_Rof (by omega), fun e9 => noF (fun o => ?_), fun e9 => yesF (Or.inr ⟨Classical.not_not.mp d9, by omega⟩)⟩⟩⟩
      · rcases o with o | o
        · exact c9 o
        · exact d9 o.1
      · rcases o with o | o
        · exact c9 o
        · omega
  have b0 := tr_sB (T := s.1 29) (U := s.1 30) (b := -1) (h := 0) (by omega) (by omega)
  have b1 := tr_sB (T := s.1 29) (U := s.1 30) (h := 1) b0 (by omega)
  have b2 := tr_sB (T := s.1 29) (U := s.1 30) (h := 2) b1 (by omega)
  have b3 := tr_sB (T := s.1 29) (U := s.1 30) (h := 3) b2 (by omega)
  refine step (-1) 0 (by omega) (by omega) (step _ 1 b0 (by omega) (step _ 2 b1 (by omega) (step _ 3 b2 (by omega) ?_)))
  refine hX _ _ _ ?_
  unfold fm_171_p4
  exact ⟨lf_Rof (by omega), fun _ => hQ, fun c => absurd (by omega) c⟩
theorem tr_170 {Q : Int → lf_Z → Prop} (hI : iv_A s.1 s.2.2) (hT : tr_A s.1) (hQ : ∀ (r : Int), r = tr_best (fun h => lf_tm (s.1 96) h 0 (s.1 96 11)) (fun h => lf_tm (s.1 96) h 1 (s.1 96 11)) → ((-1) ≤ r ∧ r ≤ 3) → Q r s) : fm_170 Q s := by
  have hR := tr_tR hT.1
  unfold fm_170
  refine tr_171 hR ?_
  refine hQ _ (tr_bc (fun q q0 q1 => hT.1.2.2.2 q q0 q1)) ?_
  unfold tr_best
  exact tr_sB (tr_sB (tr_sB (tr_sB (by omega) (by omega)) (by omega)) (by omega)) (by omega)
theorem tr_324 {Q : Int → lf_Z → Prop} (hI : iv_A s.1 s.2.2) (hQ : ∀ (r : Int), r = tr_best (fun h => lf_tm (s.1 96) h 0 (s.1 96 11)) (fun h => lf_tm (s.1 96) h 1 (s.1 96 11)) → ((-1) ≤ r ∧ r ≤ 3) → Q r s) : fm_324 Q s := by
  have b4 : 0 ≤ s.1 96 11 ∧ s.1 96 11 ≤ 12 := iv_rd96 hI (iv_f6cd46d53 rfl)
  obtain ⟨T, hTe⟩ : ∃ T : Int → Int, T = fun h => lf_tm (s.1 96) h 0 (s.1 96 11) := ⟨_, rfl⟩
  obtain ⟨U, hUe⟩ : ∃ U : Int → Int, U = fun h => lf_tm (s.1 96) h 1 (s.1 96 11) := ⟨_, rfl⟩
  have eT : ∀ q : Int, lf_tm (s.1 96) q 0 (s.1 96 11) = T q := fun q => by rw [hTe]
  have eU : ∀ q : Int, lf_tm (s.1 96) q 1 (s.1 96 11) = U q := fun q => by rw [hUe]
  have hR : tr_R T U := by
    intro q q0 q1
    rw [← eT, ← eU]
    have k0 := tr_b (f := s.1 96) (h := q) (b := 0) b4.1
    have k1 := tr_b (f := s.1 96) (h := q) (b := 1) b4.1
    exact ⟨⟨k0.1, by omega⟩, ⟨k1.1, by omega⟩⟩
  rw [← hTe, ← hUe] at hQ
  unfold fm_324
  intro X hX
  have step : ∀ x1 x2 : Int, -1 ≤ x1 ∧ x1 ≤ 3 → 0 ≤ x2 ∧ x2 ≤ 3 → X (tr_s T U x1 x2) (x2 + 1) s → X x1 x2 s := by
    intro x1 x2 h1 h2 h
    refine hX _ _ _ ?_
    have r2 := hR x2 h2.1 (by omega)
    unfold fm_324_p4
    refine ⟨lf_Rof (by omega), fun c => absurd c (by omega), fun _ => ?_⟩
    refine sm_323 hI (by omega) (by omega) (fun r e1 q1 => ?_)
    rw [eT] at e1
    subst e1
    refine ⟨lf_Rof (by omega), fun c => ⟨lf_Rof (by omega), fun d => ?_, fun d => ?_⟩, fun c => ?_⟩
    · refine sm_323 hI (by omega) (by omega) (fun r e2 q2 => ?_)
      rw [eU] at e2
      subst e2
      refine sm_323 hI (by omega) (by omega) (fun r e3 q3 => ?_)
      rw [eT] at e3
      subst e3
      refine sm_323 hI (by omega) (by omega) (fun r e4 q4 => ?_)
      rw [eU] at e4
      subst e4
      have r1 := hR x1 d (by omega)
      have p1 := tr_pr r1.2 r2.1
      have p2 := tr_pr r2.2 r1.1
      have yes : (U x1 * T x2 < U x2 * T x1 ∨ (U x2 * T x1 = U x1 * T x2 ∧ T x1 < T x2)) → X x2 (x2 + 1) s := by
        intro c9
        have e : tr_s T U x1 x2 = x2 := by unfold tr_s; rw [if_neg c, if_neg (by omega), if_pos c9]
        rw [e] at h
        exact h
      have no : ¬ (U x1 * T x2 < U x2 * T x1 ∨ (U x2 * T x1 = U x1 * T x2 ∧ T x1 < T x2)) → X x1 (x2 + 1) s := by
        intro c9
        have e : tr_s T U x1 x2 = x1 := by unfold tr_s; rw [if_neg c, if_neg (by omega), if_neg c9]
        rw [e] at h
        exact h
      unfold fm_324_p53
      refine ⟨lf_Rof (by omega), fun c9 => yes (Or.inl (by omega)), fun c9 => ⟨fun d9 => no (fun o => ?_), fun d9 => ?_⟩⟩
      · rcases o with o | o
        · omega
        · omega
      · refine sm_323 hI (by omega) (by omega) (fun r e5 q5 => ?_)
        rw [eT] at e5
        subst e5
        refine ⟨lf_Rof (by omega), lf_Rof (by omega), fun e9 => no (fun o => ?_), fun e9 => yes (Or.inr ⟨by omega, by omega⟩)⟩
        rcases o with o | o
        · omega
        · omega
    · have e : tr_s T U x1 x2 = x2 := by unfold tr_s; rw [if_neg c, if_pos (by omega)]
      rw [e] at h
      unfold fm_324_p53
      exact ⟨lf_Rof (by omega), fun _ => h, fun c9 => absurd (by omega) c9⟩
    · have e : tr_s T U x1 x2 = x1 := by unfold tr_s; rw [if_pos (Classical.not_not.mp c)]
      rw [e] at h
      exact h
  have b0 := tr_sB (T := T) (U := U) (b := -1) (h := 0) (by omega) (by omega)
  have b1 := tr_sB (T := T) (U := U) (h := 1) b0 (by omega)
  have b2 := tr_sB (T := T) (U := U) (h := 2) b1 (by omega)
  have b3 := tr_sB (T := T) (U := U) (h := 3) b2 (by omega)
  refine step (-1) 0 (by omega) (by omega) (step _ 1 b0 (by omega) (step _ 2 b1 (by omega) (step _ 3 b2 (by omega) ?_)))
  refine hX _ _ _ ?_
  unfold fm_324_p4
  exact ⟨lf_Rof (by omega), fun _ => hQ _ rfl b3, fun c => absurd (by omega) c⟩
/-! image and back -/
theorem tr_cps {f : Nat → Int → Int} {x y : Nat} {n j : Int} (j0 : 0 ≤ j) (j1 : j < n) : lf_cp f x y 0 0 n y j = f x j := by
  unfold lf_cp
  rw [if_pos ⟨rfl, j0, by omega⟩]
  congr 1
  omega
theorem tr_176 {Q : lf_Z → Prop} (hI : iv_A s.1 s.2.2) (hQ : ∀ (s' : lf_Z), iv_A s'.1 s'.2.2 → lf_fq [89, 90, 91, 92, 93, 94] 1000000 true s.1 s.2.2 s'.1 s'.2.2 → (∀ j : Int, 0 ≤ j → j < 4 → s'.1 93 j = s.1 29 j ∧ s'.1 94 j = s.1 30 j) → Q s') : fm_176 Q s := by
  have h := sm_176 (Q := fun t => iv_A t.1 t.2.2 ∧ lf_fq [89, 90, 91, 92, 93, 94] 1000000 true s.1 s.2.2 t.1 t.2.2) hI (fun t i q => ⟨i, q⟩)
  unfold fm_176 at h ⊢
  refine hQ _ h.1 h.2 (fun j j0 j1 => ?_)
  constructor
  · dsimp only
    refine Eq.trans (lf_up_c (c := 89) (a := 93) (by decide)) ?_
    refine Eq.trans (lf_cp_c (y := 94) (a := 93) (by decide)) ?_
    refine Eq.trans (tr_cps j0 j1) ?_
    refine Eq.trans (lf_cp_c (y := 92) (a := 29) (by decide)) ?_
    refine Eq.trans (lf_cp_c (y := 91) (a := 29) (by decide)) ?_
    exact lf_cp_c (y := 90) (a := 29) (by decide)
  · dsimp only
    refine Eq.trans (lf_up_c (c := 89) (a := 94) (by decide)) ?_
    refine Eq.trans (tr_cps j0 j1) ?_
    refine Eq.trans (lf_cp_c (y := 93) (a := 30) (by decide)) ?_
    refine Eq.trans (lf_cp_c (y := 92) (a := 30) (by decide)) ?_
    refine Eq.trans (lf_cp_c (y := 91) (a := 30) (by decide)) ?_
    exact lf_cp_c (y := 90) (a := 30) (by decide)
theorem tr_176b {Q : lf_Z → Prop} (hI : iv_A s.1 s.2.2) (hQ : ∀ (s' : lf_Z), iv_A s'.1 s'.2.2 → lf_fq [25, 26, 27, 28, 29, 30] 1000000 true s.1 s.2.2 s'.1 s'.2.2 → (∀ j : Int, 0 ≤ j → j < 4 → s'.1 29 j = s.1 93 j ∧ s'.1 30 j = s.1 94 j) → Q s') : fm_176b Q s := by
  have h := sm_176b (Q := fun t => iv_A t.1 t.2.2 ∧ lf_fq [25, 26, 27, 28, 29, 30] 1000000 true s.1 s.2.2 t.1 t.2.2) hI (fun t i q => ⟨i, q⟩)
  unfold fm_176b at h ⊢
  refine hQ _ h.1 h.2 (fun j j0 j1 => ?_)
  constructor
  · dsimp only
    refine Eq.trans (lf_up_c (c := 25) (a := 29) (by decide)) ?_
    refine Eq.trans (lf_cp_c (y := 30) (a := 29) (by decide)) ?_
    refine Eq.trans (tr_cps j0 j1) ?_
    refine Eq.trans (lf_cp_c (y := 28) (a := 93) (by decide)) ?_
    refine Eq.trans (lf_cp_c (y := 27) (a := 93) (by decide)) ?_
    exact lf_cp_c (y := 26) (a := 93) (by decide)
  · dsimp only
    refine Eq.trans (lf_up_c (c := 25) (a := 30) (by decide)) ?_
    refine Eq.trans (tr_cps j0 j1) ?_
    refine Eq.trans (lf_cp_c (y := 29) (a := 94) (by decide)) ?_
    refine Eq.trans (lf_cp_c (y := 28) (a := 94) (by decide)) ?_
    refine Eq.trans (lf_cp_c (y := 27) (a := 94) (by decide)) ?_
    exact lf_cp_c (y := 26) (a := 94) (by decide)
theorem tr_173 {Q : Int → lf_Z → Prop} {s : lf_Z} (hI : iv_A s.1 s.2.2) (hQ : ∀ (r : Int) (s' : lf_Z), iv_A s'.1 s'.2.2 → lf_fq [78, 79, 80, 81, 82, 83, 84, 85, 86, 87, 88, 89, 90, 91, 92, 93, 94] 1000000 true s.1 s.2.2 s'.1 s'.2.2 → (∀ j : Int, 0 ≤ j → j < 4 → s'.1 93 j = s.1 29 j ∧ s'.1 94 j = s.1 30 j) → ((-2147483648) ≤ r ∧ r ≤ 2147483647) → Q r s') : fm_173 Q s := by
  unfold fm_173
  have b1 : 0 ≤ s.1 1 0 ∧ s.1 1 0 ≤ 12 := iv_r1_0 hI
  have hI2 : iv_A (lf_up s.1 78 0 (s.1 1 0)) s.2.2 := iv_w78_0 hI (by omega)
  have fr3 : lf_fq [78, 79, 80, 81, 82, 83, 84, 85, 86, 87, 88, 89, 90, 91, 92, 93, 94] 1000000 true s.1 s.2.2 (lf_up s.1 78 0 (s.1 1 0)) s.2.2 := lf_fq_up (lf_fq_rf) rfl (fun h => absurd h (by decide))
  have b4 : 0 ≤ s.1 1 1 ∧ s.1 1 1 ≤ 16 := (show 0 ≤ (lf_up s.1 78 0 (s.1 1 0)) 1 1 ∧ (lf_up s.1 78 0 (s.1 1 0)) 1 1 ≤ 16 from iv_r1_1 hI2)
  have hI5 : iv_A (lf_up (lf_up s.1 78 0 (s.1 1 0)) 78 1 (s.1 1 1)) s.2.2 := iv_w78_1 hI2 (by omega)
  have fr6 : lf_fq [78, 79, 80, 81, 82, 83, 84, 85, 86, 87, 88, 89, 90, 91, 92, 93, 94] 1000000 true s.1 s.2.2 (lf_up (lf_up s.1 78 0 (s.1 1 0)) 78 1 (s.1 1 1)) s.2.2 := lf_fq_up fr3 rfl (fun h => absurd h (by decide))
  have b7 : 0 ≤ s.1 1 2 ∧ s.1 1 2 ≤ 6 := (show 0 ≤ (lf_up (lf_up s.1 78 0 (s.1 1 0)) 78 1 (s.1 1 1)) 1 2 ∧ (lf_up (lf_up s.1 78 0 (s.1 1 0)) 78 1 (s.1 1 1)) 1 2 ≤ 6 from iv_r1_2 hI5)
  have hI8 : iv_A (lf_up (lf_up (lf_up s.1 78 0 (s.1 1 0)) 78 1 (s.1 1 1)) 78 2 (s.1 1 2)) s.2.2 := iv_w78_2 hI5 (by omega)
  have fr9 : lf_fq [78, 79, 80, 81, 82, 83, 84, 85, 86, 87, 88, 89, 90, 91, 92, 93, 94] 1000000 true s.1 s.2.2 (lf_up (lf_up (lf_up s.1 78 0 (s.1 1 0)) 78 1 (s.1 1 1)) 78 2 (s.1 1 2)) s.2.2 := lf_fq_up fr6 rfl (fun h => absurd h (by decide))
  have b10 : 0 ≤ s.1 0 11 ∧ s.1 0 11 ≤ 4 := (show 0 ≤ (lf_up (lf_up (lf_up s.1 78 0 (s.1 1 0)) 78 1 (s.1 1 1)) 78 2 (s.1 1 2)) 0 11 ∧ (lf_up (lf_up (lf_up s.1 78 0 (s.1 1 0)) 78 1 (s.1 1 1)) 78 2 (s.1 1 2)) 0 11 ≤ 4 from iv_r0_11 hI8)
  have hI11 : iv_A (lf_up (lf_up (lf_up (lf_up s.1 78 0 (s.1 1 0)) 78 1 (s.1 1 1)) 78 2 (s.1 1 2)) 78 3 (s.1 0 11)) s.2.2 := iv_w78_3 hI8 (by omega)
  have fr12 : lf_fq [78, 79, 80, 81, 82, 83, 84, 85, 86, 87, 88, 89, 90, 91, 92, 93, 94] 1000000 true s.1 s.2.2 (lf_up (lf_up (lf_up (lf_up s.1 78 0 (s.1 1 0)) 78 1 (s.1 1 1)) 78 2 (s.1 1 2)) 78 3 (s.1 0 11)) s.2.2 := lf_fq_up fr9 rfl (fun h => absurd h (by decide))
  have b13 : (-1) ≤ s.1 0 12 ∧ s.1 0 12 ≤ 3 := (show (-1) ≤ (lf_up (lf_up (lf_up (lf_up s.1 78 0 (s.1 1 0)) 78 1 (s.1 1 1)) 78 2 (s.1 1 2)) 78 3 (s.1 0 11)) 0 12 ∧ (lf_up (lf_up (lf_up (lf_up s.1 78 0 (s.1 1 0)) 78 1 (s.1 1 1)) 78 2 (s.1 1 2)) 78 3 (s.1 0 11)) 0 12 ≤ 3 from iv_r0_12 hI11)
  have hI14 : iv_A (lf_up (lf_up (lf_up (lf_up (lf_up s.1 78 0 (s.1 1 0)) 78 1 (s.1 1 1)) 78 2 (s.1 1 2)) 78 3 (s.1 0 11)) 78 4 (s.1 0 12)) s.2.2 := iv_w78_4 hI11 (by omega)
  have fr15 : lf_fq [78, 79, 80, 81, 82, 83, 84, 85, 86, 87, 88, 89, 90, 91, 92, 93, 94] 1000000 true s.1 s.2.2 (lf_up (lf_up (lf_up (lf_up (lf_up s.1 78 0 (s.1 1 0)) 78 1 (s.1 1 1)) 78 2 (s.1 1 2)) 78 3 (s.1 0 11)) 78 4 (s.1 0 12)) s.2.2 := lf_fq_up fr12 rfl (fun h => absurd h (by decide))
  refine sm_174 hI14 (fun s21 hI17 fr16 => ?_)
  have fr19 : lf_fq [78, 79, 80, 81, 82, 83, 84, 85, 86, 87, 88, 89, 90, 91, 92, 93, 94] 1000000 true s.1 s.2.2 s21.1 s21.2.2 := lf_fq_tr fr15 (lf_fq_wk fr16 rfl (by decide) (by decide))
  refine sm_175 hI17 (fun s22 hI21 fr20 => ?_)
  have fr23 : lf_fq [78, 79, 80, 81, 82, 83, 84, 85, 86, 87, 88, 89, 90, 91, 92, 93, 94] 1000000 true s.1 s.2.2 s22.1 s22.2.2 := lf_fq_tr fr19 (lf_fq_wk fr20 rfl (by decide) (by decide))
  refine tr_176 hI21 (fun s23 hI25 fr24 ps9 => ?_)
  have fr27 : lf_fq [78, 79, 80, 81, 82, 83, 84, 85, 86, 87, 88, 89, 90, 91, 92, 93, 94] 1000000 true s.1 s.2.2 s23.1 s23.2.2 := lf_fq_tr fr23 (lf_fq_wk fr24 rfl (by decide) (by decide))
  have b28 : (-2147483648) ≤ s23.1 15 7 ∧ s23.1 15 7 ≤ 2147483647 := iv_full hI25
  have b29 : s23.1 15 7 = s22.1 15 7 := congrFun (fr24.1 15 rfl) _
  have b30 : s22.1 15 7 = s21.1 15 7 := congrFun (fr20.1 15 rfl) _
  have b31 : s21.1 15 7 = s.1 15 7 := congrFun (fr16.1 15 rfl) _
  exact hQ (s23.1 15 7) s23 hI25 fr27 (fun j j0 j1 => by have e := ps9 j j0 j1; rw [e.1, e.2, fr20.1 29 rfl, fr20.1 30 rfl, fr16.1 29 rfl, fr16.1 30 rfl]; exact ⟨rfl, rfl⟩) (show (-2147483648 : Int) ≤ s23.1 15 7 ∧ s23.1 15 7 ≤ (2147483647 : Int) from by omega)
theorem tr_177 {Q : Int → lf_Z → Prop} {s : lf_Z} (hI : iv_A s.1 s.2.2) (hQ : ∀ (r : Int) (s' : lf_Z), iv_A s'.1 s'.2.2 → lf_fq [0, 1, 11, 12, 13, 15, 16, 17, 18, 19, 20, 21, 22, 23, 24, 25, 26, 27, 28, 29, 30] 1000000 false s.1 s.2.2 s'.1 s'.2.2 → (∀ j : Int, 0 ≤ j → j < 4 → s'.1 29 j = s.1 93 j ∧ s'.1 30 j = s.1 94 j) → ((-2147483648) ≤ r ∧ r ≤ 2147483647) → Q r s') : fm_177 Q s := by
  unfold fm_177
  have b1 : 0 ≤ s.1 78 0 ∧ s.1 78 0 ≤ 12 := iv_r78_0 hI
  have b2 : 0 ≤ s.1 78 1 ∧ s.1 78 1 ≤ 16 := iv_r78_1 hI
  have b3 : 0 ≤ s.1 78 2 ∧ s.1 78 2 ≤ 6 := iv_r78_2 hI
  refine sm_178 hI (show (0 : Int) ≤ s.1 78 0 ∧ s.1 78 0 ≤ (12 : Int) from by omega) (show (0 : Int) ≤ s.1 78 1 ∧ s.1 78 1 ≤ (16 : Int) from by omega) (show (0 : Int) ≤ s.1 78 2 ∧ s.1 78 2 ≤ (6 : Int) from by omega) (fun s21 hI5 fr4 => ?_)
  have fr7 : lf_fq [0, 1, 11, 12, 13, 15, 16, 17, 18, 19, 20, 21, 22, 23, 24, 25, 26, 27, 28, 29, 30] 1000000 false s.1 s.2.2 s21.1 s21.2.2 := lf_fq_tr (lf_fq_rf) (lf_fq_wk fr4 rfl (by decide) (by decide))
  have b8 : 0 ≤ s21.1 78 3 ∧ s21.1 78 3 ≤ 4 := iv_r78_3 hI5
  have b9 : s21.1 78 3 = s.1 78 3 := congrFun (fr4.1 78 rfl) _
  have hI10 : iv_A (lf_up s21.1 0 11 (s21.1 78 3)) s21.2.2 := iv_w0_11 hI5 (by omega)
  have fr11 : lf_fq [0, 1, 11, 12, 13, 15, 16, 17, 18, 19, 20, 21, 22, 23, 24, 25, 26, 27, 28, 29, 30] 1000000 false s.1 s.2.2 (lf_up s21.1 0 11 (s21.1 78 3)) s21.2.2 := lf_fq_up fr7 rfl (fun h => absurd h (by decide))
  have b12 : (-1) ≤ s21.1 78 4 ∧ s21.1 78 4 ≤ 3 := (show (-1) ≤ (lf_up s21.1 0 11 (s21.1 78 3)) 78 4 ∧ (lf_up s21.1 0 11 (s21.1 78 3)) 78 4 ≤ 3 from iv_r78_4 hI10)
  have b13 : s21.1 78 4 = s.1 78 4 := congrFun (fr4.1 78 rfl) _
  refine sm_61 hI10 (show (-1 : Int) ≤ s21.1 78 4 ∧ s21.1 78 4 ≤ (3 : Int) from by omega) (fun s22 hI15 fr14 => ?_)
  have fr17 : lf_fq [0, 1, 11, 12, 13, 15, 16, 17, 18, 19, 20, 21, 22, 23, 24, 25, 26, 27, 28, 29, 30] 1000000 false s.1 s.2.2 s22.1 s22.2.2 := lf_fq_tr fr11 (lf_fq_wk fr14 rfl (by decide) (by decide))
  refine sm_174b hI15 (fun s23 hI19 fr18 => ?_)
  have fr21 : lf_fq [0, 1, 11, 12, 13, 15, 16, 17, 18, 19, 20, 21, 22, 23, 24, 25, 26, 27, 28, 29, 30] 1000000 false s.1 s.2.2 s23.1 s23.2.2 := lf_fq_tr fr17 (lf_fq_wk fr18 rfl (by decide) (by decide))
  refine sm_175b hI19 (fun s24 hI23 fr22 => ?_)
  have fr25 : lf_fq [0, 1, 11, 12, 13, 15, 16, 17, 18, 19, 20, 21, 22, 23, 24, 25, 26, 27, 28, 29, 30] 1000000 false s.1 s.2.2 s24.1 s24.2.2 := lf_fq_tr fr21 (lf_fq_wk fr22 rfl (by decide) (by decide))
  refine tr_176b hI23 (fun s25 hI27 fr26 ps9 => ?_)
  have fr29 : lf_fq [0, 1, 11, 12, 13, 15, 16, 17, 18, 19, 20, 21, 22, 23, 24, 25, 26, 27, 28, 29, 30] 1000000 false s.1 s.2.2 s25.1 s25.2.2 := lf_fq_tr fr25 (lf_fq_wk fr26 rfl (by decide) (by decide))
  have b30 : (-2147483648) ≤ s25.1 15 7 ∧ s25.1 15 7 ≤ 2147483647 := iv_full hI27
  have b31 : s25.1 15 7 = s24.1 15 7 := congrFun (fr26.1 15 rfl) _
  have b32 : s24.1 15 7 = s23.1 15 7 := congrFun (fr22.1 15 rfl) _
  exact hQ (s25.1 15 7) s25 hI27 fr29 (fun j j0 j1 => by have e := ps9 j j0 j1; rw [e.1, e.2, fr22.1 93 rfl, fr22.1 94 rfl, fr18.1 93 rfl, fr18.1 94 rfl, fr14.1 93 rfl, fr14.1 94 rfl]; exact ⟨congrFun (fr4.1 93 rfl) j, congrFun (fr4.1 94 rfl) j⟩) (show (-2147483648 : Int) ≤ s25.1 15 7 ∧ s25.1 15 7 ≤ (2147483647 : Int) from by omega)
theorem tr_181 {Q : lf_Z → Prop} {s : lf_Z} (hI : iv_A s.1 s.2.2) (hQ : ∀  (s' : lf_Z), iv_A s'.1 s'.2.2 → lf_fq [97] 1000000 true s.1 s.2.2 s'.1 s'.2.2 → (∀ j : Int, 0 ≤ j → j < 1538 → s'.1 97 j = s.1 96 j) → Q  s') : fm_181 Q s := by
  unfold fm_181 fm_181_p2L
  intro X hX
  have key : ∀ (m : Nat) (x2 : Int) (s' : lf_Z), 0 ≤ x2 → x2 ≤ 1538 → (1538 - x2).toNat < m → s'.2 = s.2 → (∀ a, a ≠ 97 → s'.1 a = s.1 a) → (∀ j : Int, 0 ≤ j → j < x2 → s'.1 97 j = s.1 96 j) → (∀ j : Int, ¬ (0 ≤ j ∧ j < x2) → s'.1 97 j = s.1 97 j) → X x2 s' := by
    intro m
    induction m with
    | zero => intros; omega
    | succ m ih =>
      intro x2 s' h0 h1 hm hs hr hd ho
      refine hX _ _ ?_
      unfold fm_181_p2
      refine ⟨lf_Rof (by omega), fun c => ?_, fun c => ⟨by omega, ?_⟩⟩
      · have e : x2 = 1538 := by omega
        subst e
        refine hQ s' ?_ ⟨fun a ha => hr a (fun e => by subst e; cases ha), fun i hi => ?_, fun _ => by rw [hs], fun r _ i _ => by rw [hr 96 (by decide)]⟩ (fun j j0 j1 => hd j j0 j1)
        · rw [show s'.2.2 = s.2.2 from by rw [hs]]
          exact iv_copyAll (c := 96) (d := 97) (Or.inl ⟨rfl, rfl⟩) hI hr (fun j a b => hd j a b) ho
        · rw [hr 96 (by decide)]
      · refine ih (x2 + 1) _ (by omega) (by omega) (by omega) hs ?_ ?_ ?_
        · intro a ha
          show lf_up s'.1 97 x2 (s'.1 96 x2) a = _
          rw [lf_up_row ha]
          exact hr a ha
        · intro j j0 j1
          show lf_up s'.1 97 x2 (s'.1 96 x2) 97 j = _
          by_cases hj : j = x2
          · subst hj
            rw [lf_up_s, hr 96 (by decide)]
          · rw [lf_up_i hj]
            exact hd j j0 (by omega)
        · intro j hj
          show lf_up s'.1 97 x2 (s'.1 96 x2) 97 j = _
          rw [lf_up_i (by omega)]
          exact ho j (by omega)
  exact key _ 0 s (by omega) (by omega) (Nat.lt_succ_self _) rfl (fun _ _ => rfl) (fun j a b => by omega) (fun _ _ => rfl)
theorem tr_325 {Q : Int → lf_Z → Prop} {s : lf_Z} (hI : iv_A s.1 s.2.2) (hQ : ∀ (r : Int) (s' : lf_Z), iv_A s'.1 s'.2.2 → lf_fq [97] 1000000 true s.1 s.2.2 s'.1 s'.2.2 → (∀ j : Int, 0 ≤ j → j < 1538 → s'.1 97 j = s.1 96 j) → ((-2147483648) ≤ r ∧ r ≤ 2147483647) → Q r s') : fm_325 Q s := by
  unfold fm_325
  refine tr_181 hI (fun s21 hI2 fr1 ps9 => ?_)
  have fr4 : lf_fq [97] 1000000 true s.1 s.2.2 s21.1 s21.2.2 := lf_fq_tr (lf_fq_rf) (lf_fq_wk fr1 rfl (by decide) (by decide))
  have b5 : (-2147483648) ≤ s21.1 96 3 ∧ s21.1 96 3 ≤ 2147483647 := iv_full hI2
  have b6 : s21.1 96 3 = s.1 96 3 := congrFun (fr1.1 96 rfl) _
  exact hQ (s21.1 96 3) s21 hI2 fr4 ps9 (show (-2147483648 : Int) ≤ s21.1 96 3 ∧ s21.1 96 3 ≤ (2147483647 : Int) from by omega)
theorem tr_181b {Q : lf_Z → Prop} {s : lf_Z} (hI : iv_A s.1 s.2.2) (hQ : ∀  (s' : lf_Z), iv_A s'.1 s'.2.2 → lf_fq [96, 1000, 1001, 1002, 1003, 1004, 1005, 1006] 0 true s.1 s.2.2 s'.1 s'.2.2 → (∀ j : Int, 0 ≤ j → j < 1538 → s'.1 96 j = s.1 97 j) → Q  s') : fm_181b Q s := by
  unfold fm_181b fm_181b_p2L
  intro X hX
  have key : ∀ (m : Nat) (x2 : Int) (s' : lf_Z), 0 ≤ x2 → x2 ≤ 1538 → (1538 - x2).toNat < m → s'.2 = s.2 → (∀ a, a ≠ 96 → s'.1 a = s.1 a) → (∀ j : Int, 0 ≤ j → j < x2 → s'.1 96 j = s.1 97 j) → (∀ j : Int, ¬ (0 ≤ j ∧ j < x2) → s'.1 96 j = s.1 96 j) → X x2 s' := by
    intro m
    induction m with
    | zero => intros; omega
    | succ m ih =>
      intro x2 s' h0 h1 hm hs hr hd ho
      refine hX _ _ ?_
      unfold fm_181b_p2
      refine ⟨lf_Rof (by omega), fun c => ?_, fun c => ⟨by omega, ?_⟩⟩
      · have e : x2 = 1538 := by omega
        subst e
        refine hQ s' ?_ ⟨fun a ha => hr a (fun e => by subst e; cases ha), fun i hi => ?_, fun _ => by rw [hs], fun r hr9 i hi => absurd hi (fr_o (Or.inl rfl) (Or.inl rfl) (Or.inl rfl) (Or.inl rfl) (Or.inl rfl) (Or.inl rfl) (Or.inl rfl) r hr9)⟩ (fun j j0 j1 => hd j j0 j1)
        · rw [show s'.2.2 = s.2.2 from by rw [hs]]
          exact iv_copyAll (c := 97) (d := 96) (Or.inr ⟨rfl, rfl⟩) hI hr (fun j a b => hd j a b) ho
        · exact ho i (by omega)
      · refine ih (x2 + 1) _ (by omega) (by omega) (by omega) hs ?_ ?_ ?_
        · intro a ha
          show lf_up s'.1 96 x2 (s'.1 97 x2) a = _
          rw [lf_up_row ha]
          exact hr a ha
        · intro j j0 j1
          show lf_up s'.1 96 x2 (s'.1 97 x2) 96 j = _
          by_cases hj : j = x2
          · subst hj
            rw [lf_up_s, hr 97 (by decide)]
          · rw [lf_up_i hj]
            exact hd j j0 (by omega)
        · intro j hj
          show lf_up s'.1 96 x2 (s'.1 97 x2) 96 j = _
          rw [lf_up_i (by omega)]
          exact ho j (by omega)
  exact key _ 0 s (by omega) (by omega) (Nat.lt_succ_self _) rfl (fun _ _ => rfl) (fun j a b => by omega) (fun _ _ => rfl)
theorem tr_326 {Q : Int → lf_Z → Prop} {s : lf_Z} (hI : iv_A s.1 s.2.2) (hQ : ∀ (r : Int) (s' : lf_Z), iv_A s'.1 s'.2.2 → lf_fq [96, 1000, 1001, 1002, 1003, 1004, 1005, 1006] 0 true s.1 s.2.2 s'.1 s'.2.2 → (∀ j : Int, 0 ≤ j → j < 1538 → s'.1 96 j = s.1 97 j) → ((-2147483648) ≤ r ∧ r ≤ 2147483647) → Q r s') : fm_326 Q s := by
  unfold fm_326
  refine tr_181b hI (fun s21 hI2 fr1 ps9 => ?_)
  have fr4 : lf_fq [96, 1000, 1001, 1002, 1003, 1004, 1005, 1006] 0 true s.1 s.2.2 s21.1 s21.2.2 := lf_fq_tr (lf_fq_rf) (lf_fq_wk fr1 rfl (by decide) (by decide))
  have b5 : (-2147483648) ≤ s21.1 96 3 ∧ s21.1 96 3 ≤ 2147483647 := iv_full hI2
  exact hQ (s21.1 96 3) s21 hI2 fr4 ps9 (show (-2147483648 : Int) ≤ s21.1 96 3 ∧ s21.1 96 3 ≤ (2147483647 : Int) from by omega)
theorem tr_Ti {a b c d e g : Int → Int} (h : tr_T a b c) (h1 : ∀ j : Int, 0 ≤ j → j < 4 → d j = a j ∧ e j = b j) (h2 : ∀ j : Int, 0 ≤ j → j < 1538 → g j = c j) : tr_T d e g := tr_Tc h h1 (fun i hi => h2 i (by omega) (by omega))
/-! the two sides between two calls of the law -/
section TRL
variable {I I' : Nat → Int → Int} {P P' : Nat → Option Nat} {l : List Nat} {w : Int} {bb : Bool}
def tr_BB (a b r : Int) (I : Nat → Int → Int) : Prop := (∃ t u : Int → Int, tr_T t u (I 96) ∧ tr_C a b r t u (I 29) (I 30)) ∧ tr_T (I 93) (I 94) (I 97)
def tr_BE (a b : Int) (I : Nat → Int → Int) : Prop := ∃ r : Int, tr_BB a b r I
def tr_IM (I : Nat → Int → Int) : Prop := tr_T (I 29) (I 30) (I 96) ∧ ∀ j : Int, 0 ≤ j → j < 4 → I 93 j = I 29 j ∧ I 94 j = I 30 j
def tr_KM (I : Nat → Int → Int) : Prop := tr_T (I 93) (I 94) (I 97) ∧ ∀ j : Int, 0 ≤ j → j < 4 → I 29 j = I 93 j ∧ I 30 j = I 94 j
theorem tr_t1 {a b r : Int} (h : tr_A I) (q : lf_fq [29, 30] w bb I P I' P') (c : tr_C a b r (I 29) (I 30) (I' 29) (I' 30)) : tr_BB a b r I' := by
  refine ⟨⟨I 29, I 30, ?_, c⟩, ?_⟩
  · rw [q.1 96 rfl]; exact h.1
  · rw [q.1 93 rfl, q.1 94 rfl, q.1 97 rfl]; exact h.2
theorem tr_bb {a b r a' b' r' : Int} (h : tr_BB a b r I) (ha : a' = a) (hb : b' = b) (hr : r' = r) : tr_BB a' b' r' I := by
  subst ha hb hr
  exact h
theorem tr_be {a b r a' b' : Int} (h : tr_BB a b r I) (ha : a' = a) (hb : b' = b) : tr_BE a' b' I := by
  subst ha hb
  exact ⟨r, h⟩
theorem tr_t2 {a b r r' : Int} (h : tr_BB a b r I) (q : lf_fq [96, 1000] w bb I P I' P') (m : tr_M a b r' (I 96) (I' 96)) : r = r' ∧ tr_A I' := by
  obtain ⟨⟨t, u, hT, hC⟩, h2⟩ := h
  have e := tr_step hT hC m
  refine ⟨e.1, ?_, ?_⟩
  · rw [q.1 29 rfl, q.1 30 rfl]; exact e.2
  · rw [q.1 93 rfl, q.1 94 rfl, q.1 97 rfl]; exact h2
theorem tr_t3 {a b r' : Int} (h : tr_BE a b I) (q : lf_fq [96, 1000] w bb I P I' P') (m : tr_M a b r' (I 96) (I' 96)) : tr_A I' := by
  obtain ⟨r, h⟩ := h
  exact (tr_t2 h q m).2
theorem tr_i1 (h : tr_A I) (q : lf_fq [78, 79, 80, 81, 82, 83, 84, 85, 86, 87, 88, 89, 90, 91, 92, 93, 94] w bb I P I' P') (m : ∀ j : Int, 0 ≤ j → j < 4 → I' 93 j = I 29 j ∧ I' 94 j = I 30 j) : tr_IM I' := by
  refine ⟨by rw [q.1 29 rfl, q.1 30 rfl, q.1 96 rfl]; exact h.1, fun j a b => ?_⟩
  rw [q.1 29 rfl, q.1 30 rfl]
  exact m j a b
theorem tr_i2 (h : tr_IM I) (q : lf_fq [97] w bb I P I' P') (m : ∀ j : Int, 0 ≤ j → j < 1538 → I' 97 j = I 96 j) : tr_A I' := by
  refine ⟨by rw [q.1 29 rfl, q.1 30 rfl, q.1 96 rfl]; exact h.1, ?_⟩
  rw [q.1 93 rfl, q.1 94 rfl]
  exact tr_Ti h.1 h.2 m
theorem tr_k1 (h : tr_A I) (q : lf_fq l w bb I P I' P') (hl : (l.contains 93 || l.contains 94 || l.contains 97) = false) (m : ∀ j : Int, 0 ≤ j → j < 4 → I' 29 j = I 93 j ∧ I' 30 j = I 94 j) : tr_KM I' := by
  simp only [Bool.or_eq_false_iff] at hl
  obtain ⟨⟨a3, a4⟩, a5⟩ := hl
  refine ⟨by rw [q.1 93 a3, q.1 94 a4, q.1 97 a5]; exact h.2, fun j a b => ?_⟩
  rw [q.1 93 a3, q.1 94 a4]
  exact m j a b
theorem tr_k2 (h : tr_KM I) (q : lf_fq l w bb I P I' P') (hl : (l.contains 29 || l.contains 30 || l.contains 93 || l.contains 94 || l.contains 97) = false) (m : ∀ j : Int, 0 ≤ j → j < 1538 → I' 96 j = I 97 j) : tr_A I' := by
  simp only [Bool.or_eq_false_iff] at hl
  obtain ⟨⟨⟨⟨a1, a2⟩, a3⟩, a4⟩, a5⟩ := hl
  refine ⟨?_, by rw [q.1 93 a3, q.1 94 a4, q.1 97 a5]; exact h.1⟩
  rw [q.1 29 a1, q.1 30 a2]
  exact tr_Ti h.1 h.2 m
theorem tr_ac {f : Int → Int} {a b r a' b' : Int} (h : r = tr_a f a b) (ha : a' = a) (hb : b' = b) : r = tr_a f a' b' := by
  subst ha hb
  exact h
end TRL
end TR
