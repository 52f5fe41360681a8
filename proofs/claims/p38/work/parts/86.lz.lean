/-! the reference's reader at a token -/
section LZ
variable {f : Int → Int} {n : Int} {s t : lf_Z}
def rt_F (s t : lf_Z) : Prop := (∀ c, c ≠ 95 → t.1 c = s.1 c) ∧ (∀ i, i ≠ 7 → i ≠ 8 → i ≠ 9 → i ≠ 10 → t.1 95 i = s.1 95 i) ∧ t.2.2 = s.2.2
theorem rt_Fr : rt_F s s := ⟨fun _ _ => rfl, fun _ _ _ _ _ => rfl, rfl⟩
theorem rt_Ft {r : lf_Z} (h : rt_F s t) (h2 : rt_F t r) : rt_F s r := ⟨fun c hc => (h2.1 c hc).trans (h.1 c hc), fun i a b c d => (h2.2.1 i a b c d).trans (h.2.1 i a b c d), h2.2.2.trans h.2.2⟩
theorem rt_Fu {i v : Int} {J : Nat → Int → Int} (h : rt_F s t) (hi : i = 7 ∨ i = 8 ∨ i = 9 ∨ i = 10) : rt_F s (lf_up t.1 95 i v, J, t.2.2) := by
  refine ⟨fun c hc => ?_, fun j a b c d => ?_, h.2.2⟩
  · exact (zu_r hc).trans (h.1 c hc)
  · exact (zu_i (by omega)).trans (h.2.1 j a b c d)
theorem rt_FJ {J : Nat → Int → Int} (h : rt_F s t) : rt_F s (t.1, J, t.2.2) := ⟨h.1, h.2.1, h.2.2⟩
def lx_si (c : Int) : Bool := decide (c = 35) || decide (c = 40) || decide (c = 41) || decide (c = 42) || decide (c = 43) || decide (c = 45) || decide (c = 47) || decide (c = 59) || decide (c = 60) || decide (c = 61) || decide (c = 62)
/-- the reference's token -/
def lx_K (f : Int → Int) (n b : Int) : Int := if n ≤ b then 0 else if lx_dg (f b) = true then 1 else if lx_lt (f b) = true then 2 else if lx_two f n b = true then (if f b = 60 then 4 else 5) else if lx_si (f b) = true then f b else 3
def rt_at (s : lf_Z) (b : Int) : Prop := s.1 95 8 = b ∧ s.1 95 9 = lx_K (s.1 99) (s.1 95 4) b ∧ s.1 95 7 = lx_E (s.1 99) (s.1 95 4) b ∧ (s.1 95 9 = 1 → 0 ≤ s.1 95 10 ∧ min 10000 (s.1 95 10) = lx_V (s.1 99) (s.1 95 4) b) ∧ (s.1 95 9 = 2 → lf_wl (s.2.1 95 11) = lx_wv (s.1 99) b (lx_E (s.1 99) (s.1 95 4) b - b).toNat)
theorem fl_198 {a : Int} {Q : Int → lf_Z → Prop} (h : Q (if s.1 95 4 ≤ a then -1 else s.1 99 a) s) : fw_198 a Q s := by
  unfold fw_198
  intro _ _
  refine ⟨fun c => ?_, fun c _ => ?_⟩
  · rw [if_pos c] at h; exact h
  · rw [if_neg c] at h; exact h
theorem fl_199 {a : Int} {Q : Bool → lf_Z → Prop} (h : Q (lx_dg a) s) : fw_199 a Q s := by
  have : fw_32 a Q s := fl_32 h
  unfold fw_32 at this
  unfold fw_199
  exact this
theorem fl_200 {a : Int} {Q : Bool → lf_Z → Prop} (h : Q (lx_lt a) s) : fw_200 a Q s := by
  have : fw_34 a Q s := fl_34 h
  unfold fw_34 fw_34_p12 at this
  unfold fw_200 fw_200_p12
  exact this
theorem fl_201 {a : Int} {Q : Bool → lf_Z → Prop} (h : Q (lx_si a) s) : fw_201 a Q s := by
  have no : (a ≠ 35 ∧ a ≠ 40 ∧ a ≠ 41 ∧ a ≠ 42 ∧ a ≠ 43 ∧ a ≠ 45 ∧ a ≠ 47 ∧ a ≠ 59 ∧ a ≠ 60 ∧ a ≠ 61 ∧ a ≠ 62) → Q false s := by
    intro ⟨h1, h2, h3, h4, h5, h6, h7, h8, h9, h10, h11⟩
    unfold lx_si at h
    rw [decide_eq_false h1, decide_eq_false h2, decide_eq_false h3, decide_eq_false h4, decide_eq_false h5, decide_eq_false h6, decide_eq_false h7, decide_eq_false h8, decide_eq_false h9, decide_eq_false h10, decide_eq_false h11] at h
    exact h
  unfold fw_201
  intro _
  refine ⟨fun e => no (by omega), fun e => (by subst e; exact h), fun e => no (by omega), fun e => no (by omega), fun e => no (by omega), fun e => no (by omega), fun e => (by subst e; exact h), fun e => (by subst e; exact h), fun e => (by subst e; exact h), fun e => (by subst e; exact h), fun e => no (by omega), fun e => (by subst e; exact h), fun e => no (by omega), fun e => (by subst e; exact h), fun e => no (by omega), fun e => no (by omega), fun e => no (by omega), fun e => no (by omega), fun e => no (by omega), fun e => no (by omega), fun e => no (by omega), fun e => no (by omega), fun e => no (by omega), fun e => no (by omega), fun e => no (by omega), fun e => (by subst e; exact h), fun e => (by subst e; exact h), fun e => (by subst e; exact h), fun e => (by subst e; exact h)⟩
/-- a number -/
theorem fl_197n {Q : lf_Z → Prop} {b : Int} (h0 : 0 ≤ b) (h7 : s.1 95 7 = b) (h9 : s.1 95 9 = 1) (h10 : s.1 95 10 = 0) (hb : ∀ i, 0 ≤ i → i < s.1 95 4 → 0 ≤ s.1 99 i ∧ s.1 99 i ≤ 255) (h : ∀ t : lf_Z, rt_F s t → t.1 95 8 = s.1 95 8 → t.1 95 9 = 1 → t.1 95 7 = lx_run lx_dg (s.1 99) (s.1 95 4) b → 0 ≤ t.1 95 10 ∧ min 10000 (t.1 95 10) = lx_num (s.1 99) (s.1 95 4) b 0 → Q t) : fw_197_p85L Q s := by
  refine ⟨fun t => rt_F s t ∧ t.1 95 8 = s.1 95 8 ∧ t.1 95 9 = 1 ∧ 0 ≤ t.1 95 7 ∧ (0 ≤ t.1 95 10 ∧ t.1 95 10 ≤ 1000000) ∧ lx_run lx_dg (s.1 99) (s.1 95 4) (t.1 95 7) = lx_run lx_dg (s.1 99) (s.1 95 4) b ∧ lx_num (s.1 99) (s.1 95 4) (t.1 95 7) (min 10000 (t.1 95 10)) = lx_num (s.1 99) (s.1 95 4) b 0, ?_, ⟨rt_Fr, rfl, h9, by omega, by omega, by rw [h7], by rw [h7, h10]; rfl⟩⟩
  intro t ⟨hF, g8, g9, p0, v0, hr, hn⟩
  have e4 : t.1 95 4 = s.1 95 4 := hF.2.1 4 (by decide) (by decide) (by decide) (by decide)
  have e99 : t.1 99 = s.1 99 := hF.1 99 (by decide)
  unfold fw_197_p85
  refine fl_198 (fl_199 ?_)
  rw [e4, e99]
  have fin : ¬ (t.1 95 7 < s.1 95 4 ∧ lx_dg (s.1 99 (t.1 95 7)) = true) → Q t := by
    intro hc
    refine h t hF g8 g9 ?_ ⟨v0.1, ?_⟩
    · rw [← hr, lx_run_e hc]
    · rw [← hn, lx_num_e hc]
  refine ⟨fun z => fin (fun q => ?_), fun z _ => ?_⟩
  · rw [if_neg (by omega)] at z
    rw [z] at q; cases q.2
  · have hlt : t.1 95 7 < s.1 95 4 := by
      by_cases c : s.1 95 4 ≤ t.1 95 7
      · rw [if_pos c] at z; cases z
      · omega
    rw [if_neg (by omega)] at z
    have hd := z
    unfold lx_dg at hd
    rw [Bool.and_eq_true, decide_eq_true_eq, decide_eq_true_eq] at hd
    have step : ∀ y : Int, 0 ≤ y ∧ y ≤ 1000000 → min 10000 y = min 10000 (min 10000 (t.1 95 10) * 10 + s.1 99 (t.1 95 7) - 48) → fw_197_p135 (fun t => rt_F s t ∧ t.1 95 8 = s.1 95 8 ∧ t.1 95 9 = 1 ∧ 0 ≤ t.1 95 7 ∧ (0 ≤ t.1 95 10 ∧ t.1 95 10 ≤ 1000000) ∧ lx_run lx_dg (s.1 99) (s.1 95 4) (t.1 95 7) = lx_run lx_dg (s.1 99) (s.1 95 4) b ∧ lx_num (s.1 99) (s.1 95 4) (t.1 95 7) (min 10000 (t.1 95 10)) = lx_num (s.1 99) (s.1 95 4) b 0) Q y t := by
      intro y hy he
      have k7 : (lf_up (lf_up t.1 95 10 y) 95 7 (t.1 95 7 + 1)) 95 7 = t.1 95 7 + 1 := lf_up_s
      have k10 : (lf_up (lf_up t.1 95 10 y) 95 7 (t.1 95 7 + 1)) 95 10 = y := (lf_up_i (by decide)).trans lf_up_s
      refine ⟨rt_Fu (t := (lf_up t.1 95 10 y, t.2.1, t.2.2)) (rt_Fu hF (by omega)) (by omega), ((zu_i (by decide)).trans (lf_up_i (by decide))).trans g8, ((zu_i (by decide)).trans (lf_up_i (by decide))).trans g9, ?_, ?_, ?_, ?_⟩
      · show 0 ≤ (lf_up (lf_up t.1 95 10 y) 95 7 (t.1 95 7 + 1)) 95 7; rw [k7]; omega
      · show 0 ≤ (lf_up (lf_up t.1 95 10 y) 95 7 (t.1 95 7 + 1)) 95 10 ∧ (lf_up (lf_up t.1 95 10 y) 95 7 (t.1 95 7 + 1)) 95 10 ≤ 1000000; rw [k10]; exact hy
      · show lx_run lx_dg (s.1 99) (s.1 95 4) ((lf_up (lf_up t.1 95 10 y) 95 7 (t.1 95 7 + 1)) 95 7) = _
        rw [k7, ← hr, lx_run_s hlt z]
      · show lx_num (s.1 99) (s.1 95 4) ((lf_up (lf_up t.1 95 10 y) 95 7 (t.1 95 7 + 1)) 95 7) (min 10000 ((lf_up (lf_up t.1 95 10 y) 95 7 (t.1 95 7 + 1)) 95 10)) = _
        rw [k7, k10, he, ← hn, lx_num_s hlt z]
    refine ⟨fun c => fl_198 ?_, fun c => step _ v0 (by omega)⟩
    rw [e4, e99, if_neg (by omega)]
    have hw : lf_w ((lf_w ((lf_w (10 * (t.1 95 10))) + (s.1 99 (t.1 95 7)))) - 48) = 10 * t.1 95 10 + s.1 99 (t.1 95 7) - 48 := by
      rw [tr_w (a := 10 * t.1 95 10) (by omega), tr_w (a := 10 * t.1 95 10 + s.1 99 (t.1 95 7)) (by omega), tr_w (by omega)]
    rw [hw]
    exact step _ (by omega) (by omega)
/-! shifts -/
theorem lx_s8 : (((Int32.ofInt 8).toInt64 &&& 63).toBitVec.smod 64).toNat = 8 := by decide
theorem lx_s48 : (((Int32.ofInt 48).toInt64 &&& 63).toBitVec.smod 64).toNat = 48 := by decide
theorem lx_lor8 {x c : Int} (h0 : 0 ≤ x) (h1 : x < 281474976710656) (c0 : 0 ≤ c) (c1 : c ≤ 255) : lf_lor (lf_lshl x 8) c = x * 256 + c := by
  obtain ⟨a, rfl⟩ := Int.eq_ofNat_of_zero_le h0
  obtain ⟨d, rfl⟩ := Int.eq_ofNat_of_zero_le c0
  have ha : a < 281474976710656 := by omega
  have hd : d < 2 ^ 8 := by omega
  unfold lf_lor lf_lshl
  rw [Int64.ofInt_toInt]
  have e : (Int64.ofInt (a : Int) <<< ((Int32.ofInt 8).toInt64 &&& 63) ||| Int64.ofInt (d : Int)).toInt = ((BitVec.ofNat 64 a <<< (((Int32.ofInt 8).toInt64 &&& 63).toBitVec.smod 64).toNat) ||| BitVec.ofNat 64 d).toInt := rfl
  rw [e, lx_s8]
  have en : ((BitVec.ofNat 64 a <<< 8) ||| BitVec.ofNat 64 d).toNat = a * 256 + d := by
    rw [BitVec.toNat_or, BitVec.toNat_shiftLeft, BitVec.toNat_ofNat, BitVec.toNat_ofNat, Nat.mod_eq_of_lt (show a < 2 ^ 64 by omega), Nat.mod_eq_of_lt (show d < 2 ^ 64 by omega), Nat.shiftLeft_eq, Nat.mod_eq_of_lt (show a * 2 ^ 8 < 2 ^ 64 by omega), ← Nat.shiftLeft_eq, ← Nat.shiftLeft_add_eq_or_of_lt hd, Nat.shiftLeft_eq]
  rw [BitVec.toInt_eq_toNat_of_lt (by rw [en]; omega), en]
  omega
theorem lx_shr48 {x : Int} (h0 : 0 ≤ x) (h1 : x ≤ 9223372036854775807) : lf_lshr x 48 = x / 281474976710656 := by
  unfold lf_lshr
  have e : (Int64.ofInt x >>> ((Int32.ofInt 48).toInt64 &&& 63)).toInt = ((Int64.ofInt x).toBitVec.sshiftRight' (((Int32.ofInt 48).toInt64 &&& 63).toBitVec.smod 64)).toInt := rfl
  rw [e, BitVec.sshiftRight', BitVec.toInt_sshiftRight]
  have g : (Int64.ofInt x).toBitVec.toInt = x := Int64.toInt_ofInt_of_le (by omega) (by omega)
  rw [g, lx_s48, Int.shiftRight_eq_div_pow]
  rfl
theorem lx_byR {p : Int} (hb : ∀ i, 0 ≤ i → i < n → 0 ≤ f i ∧ f i ≤ 255) : ∀ m : Nat, 0 ≤ p → (∀ j : Nat, j < m → p + j < n ∧ lx_lt (f (p + j)) = true) → lx_by (lx_rv f p m) := by
  intro m
  induction m with
  | zero => intro _ _ c hc; cases hc
  | succ m ih =>
    intro h0 h c hc
    rcases List.mem_cons.mp hc with e | e
    · have := h m (Nat.lt_succ_self m)
      have l := this.2
      have b := hb (p + m) (by omega) this.1
      unfold lx_lt at l
      rw [Bool.or_eq_true, Bool.and_eq_true, Bool.and_eq_true, decide_eq_true_eq, decide_eq_true_eq, decide_eq_true_eq, decide_eq_true_eq] at l
      rw [e]; omega
    · exact ih h0 (fun j hj => h j (by omega)) c e
/-- a word -/
theorem fl_197w {Q : lf_Z → Prop} {b : Int} (h0 : 0 ≤ b) (h7 : s.1 95 7 = b) (h9 : s.1 95 9 = 2) (h11 : s.2.1 95 11 = 0) (hb : ∀ i, 0 ≤ i → i < s.1 95 4 → 0 ≤ s.1 99 i ∧ s.1 99 i ≤ 255) (h : ∀ t : lf_Z, rt_F s t → t.1 95 8 = s.1 95 8 → t.1 95 9 = 2 → t.1 95 7 = lx_run lx_lt (s.1 99) (s.1 95 4) b → lf_wl (t.2.1 95 11) = lx_wv (s.1 99) b (t.1 95 7 - b).toNat → Q t) : fw_197_p168L Q s := by
  refine ⟨fun t => rt_F s t ∧ t.1 95 8 = s.1 95 8 ∧ t.1 95 9 = 2 ∧ lx_run lx_lt (s.1 99) (s.1 95 4) (t.1 95 7) = lx_run lx_lt (s.1 99) (s.1 95 4) b ∧ ∃ m : Nat, t.1 95 7 = b + m ∧ (∀ j : Nat, j < m → b + j < s.1 95 4 ∧ lx_lt (s.1 99 (b + j)) = true) ∧ lf_wl (t.2.1 95 11) = lx_wv (s.1 99) b m, ?_, ⟨rt_Fr, rfl, h9, by rw [h7], 0, by rw [h7]; omega, fun j hj => absurd hj (Nat.not_lt_zero _), by rw [h11]; rfl⟩⟩
  intro t ⟨hF, g8, g9, hr, m, hm, hl, hw⟩
  have e4 : t.1 95 4 = s.1 95 4 := hF.2.1 4 (by decide) (by decide) (by decide) (by decide)
  have e99 : t.1 99 = s.1 99 := hF.1 99 (by decide)
  unfold fw_197_p168
  refine fl_198 (fl_200 ?_)
  rw [e4, e99]
  refine ⟨fun z => h t hF g8 g9 ?_ ?_, fun z => ?_⟩
  · rw [← hr]
    refine (lx_run_e (fun q => ?_)).symm
    rw [if_neg (by omega)] at z
    rw [z] at q; cases q.2
  · rw [hw, hm, show (b + (m : Int) - b).toNat = m by omega]
  · have hlt : t.1 95 7 < s.1 95 4 := by
      by_cases c : s.1 95 4 ≤ t.1 95 7
      · rw [if_pos c] at z; cases z
      · omega
    rw [if_neg (by omega)] at z
    have hbm := hb (b + m) (by omega) (by omega)
    have zl := z
    rw [hm] at zl
    have hc1 : 1 ≤ s.1 99 (b + m) := by
      unfold lx_lt at zl
      rw [Bool.or_eq_true, Bool.and_eq_true, Bool.and_eq_true, decide_eq_true_eq, decide_eq_true_eq, decide_eq_true_eq, decide_eq_true_eq] at zl
      omega
    have W := lx_wvS (f := s.1 99) (p := b) (m := m) (lx_byR hb m h0 hl) ⟨hc1, hbm.2⟩
    have wB : lx_wv (s.1 99) b m ≤ 9223372036854775807 := by
      rw [← hw]; exact (lf_wlRL _).2
    rw [hw]
    have step : ∀ y : Int, -9223372036854775808 ≤ y ∧ y ≤ 9223372036854775807 → y = lx_wv (s.1 99) b (m + 1) → fw_197_p218 (fun t => rt_F s t ∧ t.1 95 8 = s.1 95 8 ∧ t.1 95 9 = 2 ∧ lx_run lx_lt (s.1 99) (s.1 95 4) (t.1 95 7) = lx_run lx_lt (s.1 99) (s.1 95 4) b ∧ ∃ m : Nat, t.1 95 7 = b + m ∧ (∀ j : Nat, j < m → b + j < s.1 95 4 ∧ lx_lt (s.1 99 (b + j)) = true) ∧ lf_wl (t.2.1 95 11) = lx_wv (s.1 99) b m) Q y t := by
      intro y hy he
      have k7 : (lf_up t.1 95 7 (t.1 95 7 + 1)) 95 7 = t.1 95 7 + 1 := lf_up_s
      refine ⟨rt_Fu hF (by omega), (zu_i (by decide)).trans g8, (zu_i (by decide)).trans g9, ?_, m + 1, ?_, ?_, ?_⟩
      · show lx_run lx_lt (s.1 99) (s.1 95 4) ((lf_up t.1 95 7 (t.1 95 7 + 1)) 95 7) = _
        rw [k7, ← hr, lx_run_s hlt z]
      · show (lf_up t.1 95 7 (t.1 95 7 + 1)) 95 7 = _
        rw [k7]; omega
      · intro j hj
        by_cases q : j = m
        · subst q; exact ⟨by omega, zl⟩
        · exact hl j (by omega)
      · show lf_wl ((lf_up t.2.1 95 11 (lf_wl y)) 95 11) = _
        rw [lf_up_s, lf_wlR hy, lf_wlR hy, he]
    refine ⟨fun c => fl_198 ?_, fun c => step _ (by decide) ?_⟩
    · rw [lx_shr48 W.2.1 wB] at c
      have m6 : m ≤ 6 := W.1.mp (by omega)
      have lt48 := W.1.mpr m6
      have w0 := W.2.1
      rw [e4, e99, if_neg (by omega)]
      intro _
      rw [hw, hm]
      refine step _ ?_ ?_
      · rw [lx_lor8 w0 lt48 hbm.1 hbm.2]; omega
      · rw [lx_lor8 w0 lt48 hbm.1 hbm.2]; exact (W.2.2.1 m6).symm
    · rw [lx_shr48 W.2.1 wB] at c
      have w0 := W.2.1
      refine (W.2.2.2 (fun q => ?_)).symm
      have := W.1.mpr q
      omega
end LZ
