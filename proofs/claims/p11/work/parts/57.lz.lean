/-! the reference's reader at a token -/
section LZ
variable {f : Int → Int} {n : Int} {s t : lf_Z}
def rt_F (s t : lf_Z) : Prop := (∀ c, c ≠ 95 → t.1 c = s.1 c) ∧ (∀ i, i ≠ 7 → i ≠ 8 → i ≠ 9 → i ≠ 10 → t.1 95 i = s.1 95 i) ∧ t.2.2 = s.2.2
theorem rt_Fr : rt_F s s := ⟨fun _ _ => rfl, fun _ _ _ _ _ => rfl, rfl⟩
theorem rt_Ft {r : lf_Z} (h : rt_F s t) (h2 : rt_F t r) : rt_F s r := ⟨fun c hc => (h2.1 c hc).trans (h.1 c hc), fun i a b c d => (h2.2.1 i a b c d).trans (h.2.1 i a b c d), h2.2.2.trans h.2.2⟩
theorem rt_Fu {i v : Int} {J : Nat → Int → Int} (h : rt_F s t) (hi : i = 7 ∨ i = 8 ∨ i = 9 ∨ i = 10) : rt_F s (lf_up t.1 95 i v, J, t.2.2) := by
  refine ⟨fun c hc => ?_, fun j a b c d => ?_, h.2.2⟩
  · exact (zu_r hc).trans (h.1 c hc)
  · exact (zu_i (by omega)).trans (h.2.1 j a b c d)
theorem rt_FJ {J : Nat → Int → Int} (h : rt_F s t) : rt_F s (t.1, J, t.2.2) := ⟨h.1, h.2.1, h.2.2⟩
def lx_si (c : Int) : Bool := decide (c = 35) || decide (c = 40) || decide (c = 41) || decide (c = 42) || decide (c = 43) || decide (c = 45) || decide (c = 47) || decide (c = 59) || decide (c = 60) || decide (c = 61) || decide (c = 62)
/-- the reference's token -/
def lx_K (f : Int → Int) (n b : Int) : Int := if n ≤ b then 0 else if lx_dg (f b) = true then 1 else if lx_lt (f b) = true then 2 else if lx_two f n b = true then (if f b = 60 then 4 else 5) else if lx_si (f b) = true then f b else 3
def rt_at (s : lf_Z) (b : Int) : Prop := s.1 95 8 = b ∧ s.1 95 9 = lx_K (s.1 99) (s.1 95 4) b ∧ s.1 95 7 = lx_E (s.1 99) (s.1 95 4) b ∧ (s.1 95 9 = 1 → 0 ≤ s.1 95 10 ∧ min 10000 (s.1 95 10) = lx_V (s.1 99) (s.1 95 4) b) ∧ (s.1 95 9 = 2 → lf_wl (s.2.1 95 11) = lx_wv (s.1 99) b (lx_E (s.1 99) (s.1 95 4) b - b).toNat)
theorem fl_198 {a : Int} {Q : Int → lf_Z → Prop} (h : Q (if s.1 95 4 ≤ a then -1 else s.1 99 a) s) : fw_198 a Q s := by
  unfold fw_198
  intro _ _
  refine ⟨fun c => ?_, fun c _ => ?_⟩
  · rw [if_pos c] at h; exact h
  · rw [if_neg c] at h; exact h
theorem fl_199 {a : Int} {Q : Bool → lf_Z → Prop} (h : Q (lx_dg a) s) : fw_199 a Q s := by
  have : fw_32 a Q s := fl_32 h
  unfold fw_32 at this
  unfold fw_199
  exact this
theorem fl_200 {a : Int} {Q : Bool → lf_Z → Prop} (h : Q (lx_lt a) s) : fw_200 a Q s := by
  have : fw_34 a Q s := fl_34 h
  unfold fw_34 fw_34_p12 at this
  unfold fw_200 fw_200_p12
  exact this
theorem fl_201 {a : Int} {Q : Bool → lf_Z → Prop} (h : Q (lx_si a) s) : fw_201 a Q s := by
  have no : (a ≠ 35 ∧ a ≠ 40 ∧ a ≠ 41 ∧ a ≠ 42 ∧ a ≠ 43 ∧ a ≠ 45 ∧ a ≠ 47 ∧ a ≠ 59 ∧ a ≠ 60 ∧ a ≠ 61 ∧ a ≠ 62) → Q false s := by
    intro ⟨h1, h2, h3, h4, h5, h6, h7, h8, h9, h10, h11⟩
    unfold lx_si at h
    rw [decide_eq_false h1, decide_eq_false h2, decide_eq_false h3, decide_eq_false h4, decide_eq_false h5, decide_eq_false h6, decide_eq_false h7, decide_eq_false h8, decide_eq_false h9, decide_eq_false h10, decide_eq_false h11] at h
    exact h
  unfold fw_201
  intro _
  refine ⟨fun e => no (by omega), fun e => (by subst e; exact h), fun e => no (by omega), fun e => no (by omega), fun e => no (by omega), fun e => no (by omega), fun e => (by subst e; exact h), fun e => (by subst e; exact h), fun e => (by subst e; exact h), fun e => (by subst e; exact h), fun e => no (by omega), fun e => (by subst e; exact h), fun e => no (by omega), fun e => (by subst e; exact h), fun e => no (by omega), fun e => no (by omega), fun e => no (by omega), fun e => no (by omega), fun e => no (by omega), fun e => no (by omega), fun e => no (by omega), fun e => no (by omega), fun e => no (by omega), fun e => no (by omega), fun e => no (by omega), fun e => (by subst e; exact h), fun e => (by subst e; exact h), fun e => (by subst e; exact h), fun e => (by subst e; exact h)⟩
/-- a number -/
theorem fl_197n {Q : lf_Z → Prop} {b : Int} (h0 : 0 ≤ b) (h7 : s.1 95 7 = b) (h9 : s.1 95 9 = 1) (h10 : s.1 95 10 = 0) (hb : ∀ i, 0 ≤ i → i < s.1 95 4 → 0 ≤ s.1 99 i ∧ s.1 99 i ≤ 255) (h : ∀ t : lf_Z, rt_F s t → t.1 95 8 = s.1 95 8 → t.1 95 9 = 1 → t.1 95 7 = lx_run lx_dg (s.1 99) (s.1 95 4) b → 0 ≤ t.1 95 10 ∧ min 10000 (t.1 95 10) = lx_num (s.1 99) (s.1 95 4) b 0 → Q t) : fw_197_p85L Q s := by
  refine ⟨fun t => rt_F s t ∧ t.1 95 8 = s.1 95 8 ∧ t.1 95 9 = 1 ∧ 0 ≤ t.1 95 7 ∧ (0 ≤ t.1 95 10 ∧ t.1 95 10 ≤ 1000000) ∧ lx_run lx_dg (s.1 99) (s.1 95 4) (t.1 95 7) = lx_run lx_dg (s.1 99) (s.1 95 4) b ∧ lx_num (s.1 99) (s.1 95 4) (t.1 95 7) (min 10000 (t.1 95 10)) = lx_num (s.1 99) (s.1 95 4) b 0, ?_, ⟨rt_Fr, rfl, h9, by omega, by omega, by rw [h7], by rw [h7, h10]; rfl⟩⟩
  intro t ⟨hF, g8, g9, p0, v0, hr, hn⟩
  have e4 : t.1 95 4 = s.1 95 4 := hF.2.1 4 (by decide) (by decide) (by decide) (by decide)
  have e99 : t.1 99 = s.1 99 := hF.1 99 (by decide)
  unfold fw_197_p85
  refine fl_198 (fl_199 ?_)
  rw [e4, e99]
  have fin : ¬ (t.1 95 7 < s.1 95 4 ∧ lx_dg (s.1 99 (t.1 95 7)) = true) → Q t := by
    intro hc
    refine h t hF g8 g9 ?_ ⟨v0.1, ?_⟩
    · rw [← hr, lx_run_e hc]
    · rw [← hn, lx_num_e hc]
  refine ⟨fun z => fin (fun q => ?_), fun z _ => ?_⟩
  · rw [if_neg (by omega)] at z
    rw [z] at q; cases q.2
  · have hlt : t.1 95 7 < s.1 95 4 := by
      by_cases c : s.1 95 4 ≤ t.1 95 7
      · rw [if_pos c] at z; cases z
      · omega
    rw [if_neg (by omega)] at z
    have hd := z
    unfold lx_dg at hd
    rw [Bool.and_eq_true, decide_eq_true_eq, decide_eq_true_eq] at hd
    have step : ∀ y : Int, 0 ≤ y ∧ y ≤ 1000000 → min 10000 y = min 10000 (min 10000 (t.1 95 10) * 10 + s.1 99 (t.1 95 7) - 48) → fw_197_p135 (fun t => rt_F s t ∧ t.1 95 8 = s.1 95 8 ∧ t.1 95 9 = 1 ∧ 0 ≤ t.1 95 7 ∧ (0 ≤ t.1 95 10 ∧ t.1 95 10 ≤ 1000000) ∧ lx_run lx_dg (s.1 99) (s.1 95 4) (t.1 95 7) = lx_run lx_dg (s.1 99) (s.1 95 4) b ∧ lx_num (s.1 99) (s.1 95 4) (t.1 95 7) (min 10000 (t.1 95 10)) = lx_num (s.1 99) (s.1 95 4) b 0) Q y t := by
      intro y hy he
      have k7 : (lf_up (lf_up t.1 95 10 y) 95 7 (t.1 95 7 + 1)) 95 7 = t.1 95 7 + 1 := lf_up_s
      have k10 : (lf_up (lf_up t.1 95 10 y) 95 7 (t.1 95 7 + 1)) 95 10 = y := (lf_up_i (by decide)).trans lf_up_s
      refine ⟨rt_Fu (t := (lf_up t.1 95 10 y, t.2.1, t.2.2)) (rt_Fu hF (by omega)) (by omega), ((zu_i (by decide)).trans (lf_up_i (by decide))).trans g8, ((zu_i (by decide)).trans (lf_up_i (by decide))).trans g9, ?_, ?_, ?_, ?_⟩
      · show 0 ≤ (lf_up (lf_up t.1 95 10 y) 95 7 (t.1 95 7 + 1)) 95 7; rw [k7]; omega
      · show 0 ≤ (lf_up (lf_up t.1 95 10 y) 95 7 (t.1 95 7 + 1)) 95 10 ∧ (lf_up (lf_up t.1 95 10 y) 95 7 (t.1 95 7 + 1)) 95 10 ≤ 1000000; rw [k10]; exact hy
      · show lx_run lx_dg (s.1 99) (s.1 95 4) ((lf_up (lf_up t.1 95 10 y) 95 7 (t.1 95 7 + 1)) 95 7) = _
        rw [k7, ← hr, lx_run_s hlt z]
      · show lx_num (s.1 99) (s.1 95 4) ((lf_up (lf_up t.1 95 10 y) 95 7 (t.1 95 7 + 1)) 95 7) (min 10000 ((lf_up (lf_up t.1 95 10 y) 95 7 (t.1 95 7 + 1)) 95 10)) = _
        rw [k7, k10, he, ← hn, lx_num_s hlt z]
    refine ⟨fun c => fl_198 ?_, fun c => step _ v0 (by omega)⟩
    rw [e4, e99, if_neg (by omega)]
    have hw : lf_w ((lf_w ((lf_w (10 * (t.1 95 10))) + (s.1 99 (t.1 95 7)))) - 48) = 10 * t.1 95 10 + s.1 99 (t.1 95 7) - 48 := by
      rw [tr_w (a := 10 * t.1 95 10) (by omega), tr_w (a := 10 * t.1 95 10 + s.1 99 (t.1 95 7)) (by omega), tr_w (by omega)]
    rw [hw]
    exact step _ (by omega) (by omega)
/-! shifts -/
theorem lx_s8 : (((Int32.ofInt 8).toInt64 &&& 63).toBitVec.smod 64).toNat = 8 := by decide
theorem lx_s48 : (((Int32.ofInt 48).toInt64 &&& 63).toBitVec.smod 64).toNat = 48 := by decide
theorem lx_lor8 {x c : Int} (h0 : 0 ≤ x) (h1 : x < 281474976710656) (c0 : 0 ≤ c) (c1 : c ≤ 255) : lf_lor (lf_lshl x 8) c = x * 256 + c := by
  obtain ⟨a, rfl⟩ := Int.eq_ofNat_of_zero_le h0
  obtain ⟨d, rfl⟩ := Int.eq_ofNat_of_zero_le c0
  have ha : a < 281474976710656 := by omega
  have hd : d < 2 ^ 8 := by omega
  unfold lf_lor lf_lshl
  rw [Int64.ofInt_toInt]
  have e : (Int64.ofInt (a : Int) <<< ((Int32.ofInt 8).toInt64 &&& 63) ||| Int64.ofInt (d : Int)).toInt = ((BitVec.ofNat 64 a <<< (((Int32.ofInt 8).toInt64 &&& 63).toBitVec.smod 64).toNat) ||| BitVec.ofNat 64 d).toInt := rfl
  rw [e, lx_s8]
  have en : ((BitVec.ofNat 64 a <<< 8) ||| BitVec.ofNat 64 d).toNat = a * 256 + d := by
    rw [BitVec.toNat_or, BitVec.toNat_shiftLeft, BitVec.toNat_ofNat, BitVec.toNat_ofNat, Nat.mod_eq_of_lt (show a < 2 ^ 64 by omega), Nat.mod_eq_of_lt (show d < 2 ^ 64 by omega), Nat.shiftLeft_eq, Nat.mod_eq_of_lt (show a * 2 ^ 8 < 2 ^ 64 by omega), ← Nat.shiftLeft_eq, ← Nat.shiftLeft_add_eq_or_of_lt hd, Nat.shiftLeft_eq]
  rw [BitVec.toInt_eq_toNat_of_lt (by rw [en]; omega), en]
  omega
theorem lx_shr48 {x : Int} (h0 : 0 ≤ x) (h1 : x ≤ 9223372036854775807) : lf_lshr x 48 = x / 281474976710656 := by
  unfold lf_lshr
  have e : (Int64.ofInt x >>> ((Int32.ofInt 48).toInt64 &&& 63)).toInt = ((Int64.ofInt x).toBitVec.sshiftRight' (((Int32.ofInt 48).toInt64 &&& 63).toBitVec.smod 64)).toInt := rfl
  rw [e, BitVec.sshiftRight', BitVec.toInt_sshiftRight]
  have g : (Int64.ofInt x).toBitVec.toInt = x := Int64.toInt_ofInt_of_le (by omega) (by omega)
  rw [g, lx_s48, Int.shiftRight_eq_div_pow]
  rfl
theorem lx_byR {p : Int} (hb : ∀ i, 0 ≤ i → i < n → 0 ≤ f i ∧ f i ≤ 255) : ∀ m : Nat, 0 ≤ p → (∀ j : Nat, j < m → p + j < n ∧ lx_lt (f (p + j)) = true) → lx_by (lx_rv f p m) := by
  intro m
  induction m with
  | zero => intro _ _ c hc; cases hc
  | succ m ih =>
    intro h0 h c hc
    rcases List.mem_cons.mp hc with e | e
    · have := h m (Nat.lt_succ_self m)
      have l := this.2
      have b := hb (p + m) (by omega) this.1
      unfold lx_lt at l
      rw [Bool.or_eq_true, Bool.and_eq_true, Bool.and_eq_true, decide_eq_true_eq, decide_eq_true_eq, decide_eq_true_eq, decide_eq_true_eq] at l
      rw [e]; omega
    · exact ih h0 (fun j hj => h j (by omega)) c e
/-- a word -/
theorem fl_197w {Q : lf_Z → Prop} {b : Int} (h0 : 0 ≤ b) (h7 : s.1 95 7 = b) (h9 : s.1 95 9 = 2) (h11 : s.2.1 95 11 = 0) (hb : ∀ i, 0 ≤ i → i < s.1 95 4 → 0 ≤ s.1 99 i ∧ s.1 99 i ≤ 255) (h : ∀ t : lf_Z, rt_F s t → t.1 95 8 = s.1 95 8 → t.1 95 9 = 2 → t.1 95 7 = lx_run lx_lt (s.1 99) (s.1 95 4) b → lf_wl (t.2.1 95 11) = lx_wv (s.1 99) b (t.1 95 7 - b).toNat → Q t) : fw_197_p168L Q s := by
  refine ⟨fun t => rt_F s t ∧ t.1 95 8 = s.1 95 8 ∧ t.1 95 9 = 2 ∧ lx_run lx_lt (s.1 99) (s.1 95 4) (t.1 95 7) = lx_run lx_lt (s.1 99) (s.1 95 4) b ∧ ∃ m : Nat, t.1 95 7 = b + m ∧ (∀ j : Nat, j < m → b + j < s.1 95 4 ∧ lx_lt (s.1 99 (b + j)) = true) ∧ lf_wl (t.2.1 95 11) = lx_wv (s.1 99) b m, ?_, ⟨rt_Fr, rfl, h9, by rw [h7], 0, by rw [h7]; omega, fun j hj => absurd hj (Nat.not_lt_zero _), by rw [h11]; rfl⟩⟩
  intro t ⟨hF, g8, g9, hr, m, hm, hl, hw⟩
  have e4 : t.1 95 4 = s.1 95 4 := hF.2.1 4 (by decide) (by decide) (by decide) (by decide)
  have e99 : t.1 99 = s.1 99 := hF.1 99 (by decide)
  unfold fw_197_p168
  refine fl_198 (fl_200 ?_)
  rw [e4, e99]
  refine ⟨fun z => h t hF g8 g9 ?_ ?_, fun z => ?_⟩
  · rw [← hr]
    refine (lx_run_e (fun q => ?_)).symm
    rw [if_neg (by omega)] at z
    rw [z] at q; cases q.2
  · rw [hw, hm, show (b + (m : Int) - b).toNat = m by omega]
  · have hlt : t.1 95 7 < s.1 95 4 := by
      by_cases c : s.1 95 4 ≤ t.1 95 7
      · rw [if_pos c] at z; cases z
      · omega
    rw [if_neg (by omega)] at z
    have hbm := hb (b + m) (by omega) (by omega)
    have zl := z
    rw [hm] at zl
    have hc1 : 1 ≤ s.1 99 (b + m) := by
      unfold lx_lt at zl
      rw [Bool.or_eq_true, Bool.and_eq_true, Bool.and_eq_true, decide_eq_true_eq, decide_eq_true_eq, decide_eq_true_eq, decide_eq_true_eq] at zl
      omega
    have W := lx_wvS (f := s.1 99) (p := b) (m := m) (lx_byR hb m h0 hl) ⟨hc1, hbm.2⟩
    have wB : lx_wv (s.1 99) b m ≤ 9223372036854775807 := by
      rw [← hw]; exact (lf_wlRL _).2
    rw [hw]
    have step : ∀ y : Int, -9223372036854775808 ≤ y ∧ y ≤ 9223372036854775807 → y = lx_wv (s.1 99) b (m + 1) → fw_197_p218 (fun t => rt_F s t ∧ t.1 95 8 = s.1 95 8 ∧ t.1 95 9 = 2 ∧ lx_run lx_lt (s.1 99) (s.1 95 4) (t.1 95 7) = lx_run lx_lt (s.1 99) (s.1 95 4) b ∧ ∃ m : Nat, t.1 95 7 = b + m ∧ (∀ j : Nat, j < m → b + j < s.1 95 4 ∧ lx_lt (s.1 99 (b + j)) = true) ∧ lf_wl (t.2.1 95 11) = lx_wv (s.1 99) b m) Q y t := by
      intro y hy he
      have k7 : (lf_up t.1 95 7 (t.1 95 7 + 1)) 95 7 = t.1 95 7 + 1 := lf_up_s
      refine ⟨rt_Fu hF (by omega), (zu_i (by decide)).trans g8, (zu_i (by decide)).trans g9, ?_, m + 1, ?_, ?_, ?_⟩
      · show lx_run lx_lt (s.1 99) (s.1 95 4) ((lf_up t.1 95 7 (t.1 95 7 + 1)) 95 7) = _
        rw [k7, ← hr, lx_run_s hlt z]
      · show (lf_up t.1 95 7 (t.1 95 7 + 1)) 95 7 = _
        rw [k7]; omega
      · intro j hj
        by_cases q : j = m
        · subst q; exact ⟨by omega, zl⟩
        · exact hl j (by omega)
      · show lf_wl ((lf_up t.2.1 95 11 (lf_wl y)) 95 11) = _
        rw [lf_up_s, lf_wlR hy, lf_wlR hy, he]
    refine ⟨fun c => fl_198 ?_, fun c => step _ (by decide) ?_⟩
    · rw [lx_shr48 W.2.1 wB] at c
      have m6 : m ≤ 6 := W.1.mp (by omega)
      have lt48 := W.1.mpr m6
      have w0 := W.2.1
      rw [e4, e99, if_neg (by omega)]
      intro _
      rw [hm]
      refine step _ ?_ ?_
      · rw [lx_lor8 w0 lt48 hbm.1 hbm.2]; omega
      · rw [lx_lor8 w0 lt48 hbm.1 hbm.2]; exact (W.2.2.1 m6).symm
    · rw [lx_shr48 W.2.1 wB] at c
      have w0 := W.2.1
      refine (W.2.2.2 (fun q => ?_)).symm
      have := W.1.mpr q
      omega
theorem lx_twoF {b : Int} (h1 : f b ≠ 60) (h2 : f b ≠ 62) : lx_two f n b = false := by
  unfold lx_two
  rw [decide_eq_false h1, decide_eq_false h2, Bool.or_false, Bool.and_false]
/-- the next token: fw_197 -/
theorem fl_197 {Q : lf_Z → Prop} (h7 : 0 ≤ s.1 95 7) (hb : ∀ i, 0 ≤ i → i < s.1 95 4 → 0 ≤ s.1 99 i ∧ s.1 99 i ≤ 255) (h : ∀ t : lf_Z, rt_F s t → rt_at t (lx_sk (s.1 99) (s.1 95 4) (s.1 95 7)) → Q t) : fw_197 Q s := by
  unfold fw_197
  refine ⟨fun t => rt_F s t ∧ 0 ≤ t.1 95 7 ∧ lx_sk (s.1 99) (s.1 95 4) (t.1 95 7) = lx_sk (s.1 99) (s.1 95 4) (s.1 95 7), ?_, ⟨rt_Fr, h7, rfl⟩⟩
  intro t ⟨hF, p0, hr⟩
  have e4 : t.1 95 4 = s.1 95 4 := hF.2.1 4 (by decide) (by decide) (by decide) (by decide)
  have e99 : t.1 99 = s.1 99 := hF.1 99 (by decide)
  have more : t.1 95 7 < s.1 95 4 → lx_bl (s.1 99 (t.1 95 7)) = true → fw_197_p26 (fun t => rt_F s t ∧ 0 ≤ t.1 95 7 ∧ lx_sk (s.1 99) (s.1 95 4) (t.1 95 7) = lx_sk (s.1 99) (s.1 95 4) (s.1 95 7)) Q t := by
    intro hc hq
    have k7 : (lf_up t.1 95 7 (t.1 95 7 + 1)) 95 7 = t.1 95 7 + 1 := lf_up_s
    refine ⟨rt_Fu hF (by omega), ?_, ?_⟩
    · show 0 ≤ (lf_up t.1 95 7 (t.1 95 7 + 1)) 95 7; rw [k7]; omega
    · show lx_sk (s.1 99) (s.1 95 4) ((lf_up t.1 95 7 (t.1 95 7 + 1)) 95 7) = _
      rw [k7, ← hr]
      exact (lx_run_s hc hq).symm
  generalize hbv : t.1 95 7 = b at p0 hr more
  unfold fw_197_p0
  refine fl_198 ?_
  rw [e4, e99, hbv]
  intro _
  have val : ∀ v : Int, v = (if s.1 95 4 ≤ b then -1 else s.1 99 b) → v ≠ -1 → b < s.1 95 4 ∧ v = s.1 99 b := by
    intro v hv hn
    by_cases c : s.1 95 4 ≤ b
    · rw [if_pos c] at hv; exact absurd hv hn
    · rw [if_neg c] at hv; exact ⟨by omega, hv⟩
  refine ⟨fun c => ?_, fun c => fl_198 ?_⟩
  · have := val _ rfl (by rw [c]; decide)
    refine more this.1 ?_
    rw [← this.2, c]; rfl
  rw [e4, e99, hbv]
  intro _
  refine ⟨fun d => ?_, fun d => ?_⟩
  · -- a token begins here
    have hsk : lx_sk (s.1 99) (s.1 95 4) b = b := by
      refine lx_run_e (fun q => ?_)
      rw [if_neg (by omega)] at c d
      have q := q.2
      unfold lx_bl at q
      rw [decide_eq_false c, decide_eq_false d] at q
      cases q
    rw [hr] at hsk
    rw [hsk] at h
    obtain ⟨u, hu⟩ : ∃ u : lf_Z, u = (lf_up t.1 95 8 b, t.2.1, t.2.2) := ⟨_, rfl⟩
    have uF : rt_F s u := by rw [hu]; exact rt_Fu hF (by omega)
    have u8 : u.1 95 8 = b := by rw [hu]; exact zu_s
    have u7 : u.1 95 7 = b := by rw [hu]; exact (zu_i (by decide)).trans hbv
    have u4 : u.1 95 4 = s.1 95 4 := uF.2.1 4 (by decide) (by decide) (by decide) (by decide)
    have u99 : u.1 99 = s.1 99 := uF.1 99 (by decide)
    have fin : ∀ v : lf_Z, rt_F u v → v.1 95 8 = u.1 95 8 → v.1 95 9 = lx_K (s.1 99) (s.1 95 4) b → v.1 95 7 = lx_E (s.1 99) (s.1 95 4) b → (v.1 95 9 = 1 → 0 ≤ v.1 95 10 ∧ min 10000 (v.1 95 10) = lx_V (s.1 99) (s.1 95 4) b) → (v.1 95 9 = 2 → lf_wl (v.2.1 95 11) = lx_wv (s.1 99) b (lx_E (s.1 99) (s.1 95 4) b - b).toNat) → Q v := by
      intro v vF v8 v9 v7 vn vw
      have vs := rt_Ft uF vF
      have a4 : v.1 95 4 = s.1 95 4 := vs.2.1 4 (by decide) (by decide) (by decide) (by decide)
      have a99 : v.1 99 = s.1 99 := vs.1 99 (by decide)
      refine h v vs ⟨v8.trans u8, ?_, ?_, ?_, ?_⟩
      · rw [a4, a99]; exact v9
      · rw [a4, a99]; exact v7
      · rw [a4, a99]; exact vn
      · rw [a4, a99]; exact vw
    rw [← hu]
    refine fl_198 ?_
    rw [u4, u99]
    intro _
    by_cases cn : s.1 95 4 ≤ b
    · rw [if_pos cn]
      refine ⟨fun q => absurd q (by decide), fun _ => ?_⟩
      have k9 : (lf_up u.1 95 9 0) 95 9 = 0 := lf_up_s
      refine fin _ (rt_Fu rt_Fr (by omega)) (zu_i (by decide)) ?_ ?_ (fun q => ?_) (fun q => ?_)
      · show (lf_up u.1 95 9 0) 95 9 = _
        rw [k9]; unfold lx_K; rw [if_pos cn]
      · show (lf_up u.1 95 9 0) 95 7 = _
        rw [lf_up_i (by decide), u7]; exact (lx_Tz cn).2.symm
      · have q : (lf_up u.1 95 9 0) 95 9 = 1 := q
        rw [k9] at q; cases q
      · have q : (lf_up u.1 95 9 0) 95 9 = 2 := q
        rw [k9] at q; cases q
    · rw [if_neg cn]
      have bn : b < s.1 95 4 := by omega
      have hbb := hb b p0 bn
      refine ⟨fun _ => ?_, fun q => absurd hbb.1 q⟩
      refine fl_199 ⟨fun dg => fl_200 ⟨fun lt => ?_, fun lt => ?_⟩, fun dg => ?_⟩
      · -- a sign
        have hT := lx_Ts bn dg lt
        have two : ∀ (y : Int), (lx_two (s.1 99) (s.1 95 4) b = false → y = lx_K (s.1 99) (s.1 95 4) b) → fw_197_p247 Q (s.1 99 b) y u := by
          intro y hy
          obtain ⟨v, hv⟩ : ∃ v : lf_Z, v = (lf_up (lf_up u.1 95 9 y) 95 7 (b + 1), u.2.1, u.2.2) := ⟨_, rfl⟩
          have vF : rt_F u v := by rw [hv]; exact rt_Fu (t := (lf_up u.1 95 9 y, u.2.1, u.2.2)) (rt_Fu rt_Fr (by omega)) (by omega)
          have v7 : v.1 95 7 = b + 1 := by rw [hv]; exact zu_s
          have v9 : v.1 95 9 = y := by rw [hv]; exact (zu_i (by decide)).trans lf_up_s
          have v8 : v.1 95 8 = u.1 95 8 := by rw [hv]; exact (zu_i (by decide)).trans (lf_up_i (by decide))
          have v4 : v.1 95 4 = s.1 95 4 := (vF.2.1 4 (by decide) (by decide) (by decide) (by decide)).trans u4
          have v99 : v.1 99 = s.1 99 := (vF.1 99 (by decide)).trans u99
          have dgN : ¬ lx_dg (s.1 99 b) = true := by rw [dg]; decide
          have ltN : ¬ lx_lt (s.1 99 b) = true := by rw [lt]; decide
          have kN : lx_K (s.1 99) (s.1 95 4) b ≠ 1 ∧ lx_K (s.1 99) (s.1 95 4) b ≠ 2 := by
            unfold lx_K
            rw [if_neg cn, if_neg dgN, if_neg ltN]
            by_cases w : lx_two (s.1 99) (s.1 95 4) b = true
            · rw [if_pos w]; split <;> omega
            · rw [if_neg w]
              by_cases si : lx_si (s.1 99 b) = true
              · rw [if_pos si]
                unfold lx_si at si
                simp only [Bool.or_eq_true, decide_eq_true_eq] at si
                omega
              · rw [if_neg si]; decide
          have one : lx_two (s.1 99) (s.1 95 4) b = false → Q v := by
            intro w
            have yk := hy w
            refine fin v vF v8 (v9.trans yk) ?_ (fun q => ?_) (fun q => ?_)
            · rw [v7, hT.2, w]; rfl
            · rw [v9, yk] at q; exact absurd q kN.1
            · rw [v9, yk] at q; exact absurd q kN.2
          have p272 : (s.1 99 b = 60 ∨ s.1 99 b = 62) → fw_197_p272 Q (s.1 99 b) v := by
            intro w
            unfold fw_197_p272
            refine fl_198 ?_
            rw [v4, v99, v7]
            intro _
            have long : s.1 95 4 ≤ b + 1 ∨ s.1 99 (b + 1) ≠ 61 → lx_two (s.1 99) (s.1 95 4) b = false := by
              intro o
              unfold lx_two
              rcases o with o | o
              · rw [decide_eq_false (show ¬ b + 1 < s.1 95 4 by omega)]; rfl
              · rw [decide_eq_false o, Bool.and_false]; rfl
            refine ⟨fun q => one (long ?_), fun q _ => ?_⟩
            · by_cases o : s.1 95 4 ≤ b + 1
              · exact Or.inl o
              · rw [if_neg o] at q; exact Or.inr q
            · have q := Classical.not_not.mp q
              have o : ¬ s.1 95 4 ≤ b + 1 := fun o => by rw [if_pos o] at q; cases q
              rw [if_neg o] at q
              have w2 : lx_two (s.1 99) (s.1 95 4) b = true := by
                unfold lx_two
                rw [decide_eq_true (show b + 1 < s.1 95 4 by omega), decide_eq_true q]
                rcases w with w | w
                · rw [decide_eq_true w]; rfl
                · rw [decide_eq_true w, Bool.or_true]; rfl
              have p297 : ∀ k : Int, k = lx_K (s.1 99) (s.1 95 4) b → fw_197_p297 Q k v := by
                intro k hk
                have k9 : (lf_up (lf_up v.1 95 9 k) 95 7 (v.1 95 7 + 1)) 95 9 = k := (lf_up_i (by decide)).trans lf_up_s
                unfold fw_197_p297
                refine fin _ (rt_Ft vF (rt_Fu (t := (lf_up v.1 95 9 k, v.2.1, v.2.2)) (rt_Fu rt_Fr (by omega)) (by omega))) (((zu_i (by decide)).trans (lf_up_i (by decide))).trans v8) ?_ ?_ (fun q => ?_) (fun q => ?_)
                · show (lf_up (lf_up v.1 95 9 k) 95 7 (v.1 95 7 + 1)) 95 9 = _
                  rw [k9, hk]
                · show (lf_up (lf_up v.1 95 9 k) 95 7 (v.1 95 7 + 1)) 95 7 = _
                  rw [lf_up_s, v7, hT.2, if_pos w2]; omega
                · have q : (lf_up (lf_up v.1 95 9 k) 95 7 (v.1 95 7 + 1)) 95 9 = 1 := q
                  rw [k9, hk] at q; exact absurd q kN.1
                · have q : (lf_up (lf_up v.1 95 9 k) 95 7 (v.1 95 7 + 1)) 95 9 = 2 := q
                  rw [k9, hk] at q; exact absurd q kN.2
              refine ⟨fun x => p297 5 ?_, fun x => p297 4 ?_⟩
              · unfold lx_K
                rw [if_neg cn, if_neg dgN, if_neg ltN, if_pos w2, if_neg x]
              · unfold lx_K
                rw [if_neg cn, if_neg dgN, if_neg ltN, if_pos w2, if_pos (Classical.not_not.mp x)]
          unfold fw_197_p247
          rw [u7, ← hv]
          intro _
          exact ⟨fun x => p272 (Or.inl x), fun x => ⟨fun y => one (lx_twoF x y), fun y => p272 (Or.inr (Classical.not_not.mp y))⟩⟩
        have dgN : ¬ lx_dg (s.1 99 b) = true := by rw [dg]; decide
        have ltN : ¬ lx_lt (s.1 99 b) = true := by rw [lt]; decide
        refine fl_201 ⟨fun si => two 3 (fun w => ?_), fun si => two (s.1 99 b) (fun w => ?_)⟩
        · unfold lx_K
          rw [if_neg cn, if_neg dgN, if_neg ltN, w, si]; rfl
        · unfold lx_K
          rw [if_neg cn, if_neg dgN, if_neg ltN, w, si]; rfl
      · -- a word
        have dgN : ¬ lx_dg (s.1 99 b) = true := by rw [dg]; decide
        have hT := lx_Tl bn dg lt
        have kK : lx_K (s.1 99) (s.1 95 4) b = 2 := by unfold lx_K; rw [if_neg cn, if_neg dgN, if_pos lt]
        have x99 : (lf_up u.1 95 9 2) 99 = s.1 99 := (lf_up_row (by decide)).trans u99
        have x4 : (lf_up u.1 95 9 2) 95 4 = s.1 95 4 := (lf_up_i (by decide)).trans u4
        refine fl_197w (s := (lf_up u.1 95 9 2, lf_up u.2.1 95 11 0, u.2.2)) (b := b) p0 ((zu_i (by decide)).trans u7) zu_s (show (lf_up u.2.1 95 11 0) 95 11 = 0 from lf_up_s) ?_ ?_
        · show ∀ i, 0 ≤ i → i < (lf_up u.1 95 9 2) 95 4 → 0 ≤ (lf_up u.1 95 9 2) 99 i ∧ (lf_up u.1 95 9 2) 99 i ≤ 255
          rw [x99, x4]; exact hb
        · show ∀ t : lf_Z, rt_F (lf_up u.1 95 9 2, lf_up u.2.1 95 11 0, u.2.2) t → t.1 95 8 = (lf_up u.1 95 9 2) 95 8 → t.1 95 9 = 2 → t.1 95 7 = lx_run lx_lt ((lf_up u.1 95 9 2) 99) ((lf_up u.1 95 9 2) 95 4) b → lf_wl (t.2.1 95 11) = lx_wv ((lf_up u.1 95 9 2) 99) b (t.1 95 7 - b).toNat → Q t
          rw [x99, x4]
          intro v vF v8 v9 v7 vw
          refine fin v (rt_Ft (rt_Fu rt_Fr (by omega)) vF) (v8.trans (lf_up_i (by decide))) (v9.trans kK.symm) (v7.trans hT.2.1.symm) (fun q => by rw [v9] at q; cases q) (fun _ => ?_)
          rw [hT.2.1, vw, v7]
      · -- a number
        have hT := lx_Td bn dg
        have kK : lx_K (s.1 99) (s.1 95 4) b = 1 := by unfold lx_K; rw [if_neg cn, if_pos dg]
        have x99 : (lf_up (lf_up u.1 95 9 1) 95 10 0) 99 = s.1 99 := (lf_up_row (by decide)).trans ((lf_up_row (by decide)).trans u99)
        have x4 : (lf_up (lf_up u.1 95 9 1) 95 10 0) 95 4 = s.1 95 4 := (lf_up_i (by decide)).trans ((lf_up_i (by decide)).trans u4)
        refine fl_197n (s := (lf_up (lf_up u.1 95 9 1) 95 10 0, u.2.1, u.2.2)) (b := b) p0 (((zu_i (by decide)).trans (lf_up_i (by decide))).trans u7) ((zu_i (by decide)).trans lf_up_s) zu_s ?_ ?_
        · show ∀ i, 0 ≤ i → i < (lf_up (lf_up u.1 95 9 1) 95 10 0) 95 4 → 0 ≤ (lf_up (lf_up u.1 95 9 1) 95 10 0) 99 i ∧ (lf_up (lf_up u.1 95 9 1) 95 10 0) 99 i ≤ 255
          rw [x99, x4]; exact hb
        · show ∀ t : lf_Z, rt_F (lf_up (lf_up u.1 95 9 1) 95 10 0, u.2.1, u.2.2) t → t.1 95 8 = (lf_up (lf_up u.1 95 9 1) 95 10 0) 95 8 → t.1 95 9 = 1 → t.1 95 7 = lx_run lx_dg ((lf_up (lf_up u.1 95 9 1) 95 10 0) 99) ((lf_up (lf_up u.1 95 9 1) 95 10 0) 95 4) b → 0 ≤ t.1 95 10 ∧ min 10000 (t.1 95 10) = lx_num ((lf_up (lf_up u.1 95 9 1) 95 10 0) 99) ((lf_up (lf_up u.1 95 9 1) 95 10 0) 95 4) b 0 → Q t
          rw [x99, x4]
          intro v vF v8 v9 v7 vn
          refine fin v (rt_Ft (rt_Fu (t := (lf_up u.1 95 9 1, u.2.1, u.2.2)) (rt_Fu rt_Fr (by omega)) (by omega)) vF) (v8.trans ((lf_up_i (by decide)).trans (lf_up_i (by decide)))) (v9.trans kK.symm) (v7.trans hT.2.1.symm) (fun _ => ?_) (fun q => by rw [v9] at q; cases q)
          rw [hT.2.2]; exact vn
  · have d := Classical.not_not.mp d
    have := val _ rfl (by rw [d]; decide)
    refine more this.1 ?_
    rw [← this.2, d]; rfl
end LZ
