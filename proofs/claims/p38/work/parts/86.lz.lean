/-! the reference's reader at a token -/
section LZ
variable {f : Int → Int} {n : Int} {s t : lf_Z}
def rt_F (s t : lf_Z) : Prop := (∀ c, c ≠ 95 → t.1 c = s.1 c) ∧ (∀ i, i ≠ 7 → i ≠ 8 → i ≠ 9 → i ≠ 10 → t.1 95 i = s.1 95 i) ∧ t.2.2 = s.2.2
theorem rt_Fr : rt_F s s := ⟨fun _ _ => rfl, fun _ _ _ _ _ => rfl, rfl⟩
theorem rt_Ft {r : lf_Z} (h : rt_F s t) (h2 : rt_F t r) : rt_F s r := ⟨fun c hc => (h2.1 c hc).trans (h.1 c hc), fun i a b c d => (h2.2.1 i a b c d).trans (h.2.1 i a b c d), h2.2.2.trans h.2.2⟩
theorem rt_Fu {i v : Int} {J : Nat → Int → Int} (h : rt_F s t) (hi : i = 7 ∨ i = 8 ∨ i = 9 ∨ i = 10) : rt_F s (lf_up t.1 95 i v, J, t.2.2) := by
  refine ⟨fun c hc => ?_, fun j a b c d => ?_, h.2.2⟩
  · exact (zu_r hc).trans (h.1 c hc)
  · exact (zu_i (by omega)).trans (h.2.1 j a b c d)
theorem rt_FJ {J : Nat → Int → Int} (h : rt_F s t) : rt_F s (t.1, J, t.2.2) := ⟨h.1, h.2.1, h.2.2⟩
def lx_si (c : Int) : Bool := decide (c = 35) || decide (c = 40) || decide (c = 41) || decide (c = 42) || decide (c = 43) || decide (c = 45) || decide (c = 47) || decide (c = 59) || decide (c = 60) || decide (c = 61) || decide (c = 62)
/-- the reference's token -/
def lx_K (f : Int → Int) (n b : Int) : Int := if n ≤ b then 0 else if lx_dg (f b) = true then 1 else if lx_lt (f b) = true then 2 else if lx_two f n b = true then (if f b = 60 then 4 else 5) else if lx_si (f b) = true then f b else 3
def rt_at (s : lf_Z) (b : Int) : Prop := s.1 95 8 = b ∧ s.1 95 9 = lx_K (s.1 99) (s.1 95 4) b ∧ s.1 95 7 = lx_E (s.1 99) (s.1 95 4) b ∧ (s.1 95 9 = 1 → 0 ≤ s.1 95 10 ∧ min 10000 (s.1 95 10) = lx_V (s.1 99) (s.1 95 4) b) ∧ (s.1 95 9 = 2 → lf_wl (s.2.1 95 11) = lx_wv (s.1 99) b (lx_E (s.1 99) (s.1 95 4) b - b).toNat)
theorem fl_198 {a : Int} {Q : Int → lf_Z → Prop} (h : Q (if s.1 95 4 ≤ a then -1 else s.1 99 a) s) : fw_198 a Q s := by
  unfold fw_198
  intro _ _
  refine ⟨fun c => ?_, fun c _ => ?_⟩
  · rw [if_pos c] at h; exact h
  · rw [if_neg c] at h; exact h
theorem fl_199 {a : Int} {Q : Bool → lf_Z → Prop} (h : Q (lx_dg a) s) : fw_199 a Q s := by
  have : fw_32 a Q s := fl_32 h
  unfold fw_32 at this
  unfold fw_199
  exact this
theorem fl_200 {a : Int} {Q : Bool → lf_Z → Prop} (h : Q (lx_lt a) s) : fw_200 a Q s := by
  have : fw_34 a Q s := fl_34 h
  unfold fw_34 fw_34_p12 at this
  unfold fw_200 fw_200_p12
  exact this
theorem fl_201 {a : Int} {Q : Bool → lf_Z → Prop} (h : Q (lx_si a) s) : fw_201 a Q s := by
  have no : (a ≠ 35 ∧ a ≠ 40 ∧ a ≠ 41 ∧ a ≠ 42 ∧ a ≠ 43 ∧ a ≠ 45 ∧ a ≠ 47 ∧ a ≠ 59 ∧ a ≠ 60 ∧ a ≠ 61 ∧ a ≠ 62) → Q false s := by
    intro ⟨h1, h2, h3, h4, h5, h6, h7, h8, h9, h10, h11⟩
    unfold lx_si at h
    rw [decide_eq_false h1, decide_eq_false h2, decide_eq_false h3, decide_eq_false h4, decide_eq_false h5, decide_eq_false h6, decide_eq_false h7, decide_eq_false h8, decide_eq_false h9, decide_eq_false h10, decide_eq_false h11] at h
    exact h
  unfold fw_201
  intro _
  refine ⟨fun e => no (by omega), fun e => (by subst e; exact h), fun e => no (by omega), fun e => no (by omega), fun e => no (by omega), fun e => no (by omega), fun e => (by subst e; exact h), fun e => (by subst e; exact h), fun e => (by subst e; exact h), fun e => (by subst e; exact h), fun e => no (by omega), fun e => (by subst e; exact h), fun e => no (by omega), fun e => (by subst e; exact h), fun e => no (by omega), fun e => no (by omega), fun e => no (by omega), fun e => no (by omega), fun e => no (by omega), fun e => no (by omega), fun e => no (by omega), fun e => no (by omega), fun e => no (by omega), fun e => no (by omega), fun e => no (by omega), fun e => (by subst e; exact h), fun e => (by subst e; exact h), fun e => (by subst e; exact h), fun e => (by subst e; exact h)⟩
/-- a number -/
theorem fl_197n {Q : lf_Z → Prop} {b : Int} (h0 : 0 ≤ b) (h7 : s.1 95 7 = b) (h9 : s.1 95 9 = 1) (h10 : s.1 95 10 = 0) (hb : ∀ i, 0 ≤ i → i < s.1 95 4 → 0 ≤ s.1 99 i ∧ s.1 99 i ≤ 255) (h : ∀ t : lf_Z, rt_F s t → t.1 95 8 = s.1 95 8 → t.1 95 9 = 1 → t.1 95 7 = lx_run lx_dg (s.1 99) (s.1 95 4) b → 0 ≤ t.1 95 10 ∧ min 10000 (t.1 95 10) = lx_num (s.1 99) (s.1 95 4) b 0 → Q t) : fw_197_p85L Q s := by
  refine ⟨fun t => rt_F s t ∧ t.1 95 8 = s.1 95 8 ∧ t.1 95 9 = 1 ∧ 0 ≤ t.1 95 7 ∧ (0 ≤ t.1 95 10 ∧ t.1 95 10 ≤ 1000000) ∧ lx_run lx_dg (s.1 99) (s.1 95 4) (t.1 95 7) = lx_run lx_dg (s.1 99) (s.1 95 4) b ∧ lx_num (s.1 99) (s.1 95 4) (t.1 95 7) (min 10000 (t.1 95 10)) = lx_num (s.1 99) (s.1 95 4) b 0, ?_, ⟨rt_Fr, rfl, h9, by omega, by omega, by rw [h7], by rw [h7, h10]; rfl⟩⟩
  intro t ⟨hF, g8, g9, p0, v0, hr, hn⟩
  have e4 : t.1 95 4 = s.1 95 4 := hF.2.1 4 (by decide) (by decide) (by decide) (by decide)
  have e99 : t.1 99 = s.1 99 := hF.1 99 (by decide)
  unfold fw_197_p85
  refine fl_198 (fl_199 ?_)
  rw [e4, e99]
  have fin : ¬ (t.1 95 7 < s.1 95 4 ∧ lx_dg (s.1 99 (t.1 95 7)) = true) → Q t := by
    intro hc
    refine h t hF g8 g9 ?_ ⟨v0.1, ?_⟩
    · rw [← hr, lx_run_e hc]
    · rw [← hn, lx_num_e hc]
  refine ⟨fun z => fin (fun q => ?_), fun z _ => ?_⟩
  · rw [if_neg (by omega)] at z
    rw [z] at q; cases q.2
  · have hlt : t.1 95 7 < s.1 95 4 := by
      by_cases c : s.1 95 4 ≤ t.1 95 7
      · rw [if_pos c] at z; cases z
      · omega
    rw [if_neg (by omega)] at z
    have hd := z
    unfold lx_dg at hd
    rw [Bool.and_eq_true, decide_eq_true_eq, decide_eq_true_eq] at hd
    have step : ∀ y : Int, 0 ≤ y ∧ y ≤ 1000000 → min 10000 y = min 10000 (min 10000 (t.1 95 10) * 10 + s.1 99 (t.1 95 7) - 48) → fw_197_p135 (fun t => rt_F s t ∧ t.1 95 8 = s.1 95 8 ∧ t.1 95 9 = 1 ∧ 0 ≤ t.1 95 7 ∧ (0 ≤ t.1 95 10 ∧ t.1 95 10 ≤ 1000000) ∧ lx_run lx_dg (s.1 99) (s.1 95 4) (t.1 95 7) = lx_run lx_dg (s.1 99) (s.1 95 4) b ∧ lx_num (s.1 99) (s.1 95 4) (t.1 95 7) (min 10000 (t.1 95 10)) = lx_num (s.1 99) (s.1 95 4) b 0) Q y t := by
      intro y hy he
      have k7 : (lf_up (lf_up t.1 95 10 y) 95 7 (t.1 95 7 + 1)) 95 7 = t.1 95 7 + 1 := lf_up_s
      have k10 : (lf_up (lf_up t.1 95 10 y) 95 7 (t.1 95 7 + 1)) 95 10 = y := (lf_up_i (by decide)).trans lf_up_s
      refine ⟨rt_Fu (t := (lf_up t.1 95 10 y, t.2.1, t.2.2)) (rt_Fu hF (by omega)) (by omega), ((zu_i (by decide)).trans (lf_up_i (by decide))).trans g8, ((zu_i (by decide)).trans (lf_up_i (by decide))).trans g9, ?_, ?_, ?_, ?_⟩
      · show 0 ≤ (lf_up (lf_up t.1 95 10 y) 95 7 (t.1 95 7 + 1)) 95 7; rw [k7]; omega
      · show 0 ≤ (lf_up (lf_up t.1 95 10 y) 95 7 (t.1 95 7 + 1)) 95 10 ∧ (lf_up (lf_up t.1 95 10 y) 95 7 (t.1 95 7 + 1)) 95 10 ≤ 1000000; rw [k10]; exact hy
      · show lx_run lx_dg (s.1 99) (s.1 95 4) ((lf_up (lf_up t.1 95 10 y) 95 7 (t.1 95 7 + 1)) 95 7) = _
        rw [k7, ← hr, lx_run_s hlt z]
      · show lx_num (s.1 99) (s.1 95 4) ((lf_up (lf_up t.1 95 10 y) 95 7 (t.1 95 7 + 1)) 95 7) (min 10000 ((lf_up (lf_up t.1 95 10 y) 95 7 (t.1 95 7 + 1)) 95 10)) = _
        rw [k7, k10, he, ← hn, lx_num_s hlt z]
    refine ⟨fun c => fl_198 ?_, fun c => step _ v0 (by omega)⟩
    rw [e4, e99, if_neg (by omega)]
    have hw : lf_w ((lf_w ((lf_w (10 * (t.1 95 10))) + (s.1 99 (t.1 95 7)))) - 48) = 10 * t.1 95 10 + s.1 99 (t.1 95 7) - 48 := by
      rw [tr_w (a := 10 * t.1 95 10) (by omega), tr_w (a := 10 * t.1 95 10 + s.1 99 (t.1 95 7)) (by omega), tr_w (by omega)]
    rw [hw]
    exact step _ (by omega) (by omega)
end LZ
