/-! the code of a clause, step by step -/
section WK
variable {f f' : Int → Int} {b st : Int}
theorem wk_nc {m : Nat} (h : ∀ j : Nat, j < m → f' (b + 2 * (st + j)) = f (b + 2 * (st + j))) : wk_n f' b st m = wk_n f b st m := by
  induction m with
  | zero => rfl
  | succ m ih =>
    show wk_n f' b st m + wk_dn (f' (b + 2 * (st + m))) = wk_n f b st m + wk_dn (f (b + 2 * (st + m)))
    rw [ih (fun j hj => h j (Nat.lt_succ_of_lt hj)), h m (Nat.lt_succ_self m)]
theorem wk_tc {m : Nat} (h : ∀ j : Nat, j < m → f' (b + 2 * (st + j)) = f (b + 2 * (st + j))) : wk_t f' b st m = wk_t f b st m := by
  induction m with
  | zero => rfl
  | succ m ih =>
    show wk_t f' b st m + wk_dt (f' (b + 2 * (st + m))) = wk_t f b st m + wk_dt (f (b + 2 * (st + m)))
    rw [ih (fun j hj => h j (Nat.lt_succ_of_lt hj)), h m (Nat.lt_succ_self m)]
theorem wk_okc {m : Nat} (hk : wk_ok f b st m) (h : ∀ j : Nat, j < m → f' (b + 2 * (st + j)) = f (b + 2 * (st + j)) ∧ f' (b + 2 * (st + j) + 1) = f (b + 2 * (st + j) + 1)) : wk_ok f' b st m := by
  intro j hj
  rw [(h j hj).1, (h j hj).2, wk_nc (fun i hi => (h i (Nat.lt_trans hi hj)).1), wk_tc (fun i hi => (h i (Nat.lt_trans hi hj)).1)]
  exact hk j hj
/-- the depths at a place, by whole numbers -/
def wkN (f : Int → Int) (b st i : Int) : Int := wk_n f b st (i - st).toNat
def wkT (f : Int → Int) (b st i : Int) : Int := wk_t f b st (i - st).toNat
theorem wkN_s {i : Int} (h : st ≤ i) : wkN f b st (i + 1) = wkN f b st i + wk_dn (f (b + 2 * i)) := by
  unfold wkN
  obtain ⟨m, hm⟩ := Int.eq_ofNat_of_zero_le (show 0 ≤ i - st by omega)
  rw [show i + 1 - st = ((m + 1 : Nat) : Int) by omega, hm, Int.toNat_natCast, Int.toNat_natCast]
  show wk_n f b st m + wk_dn (f (b + 2 * (st + m))) = _
  rw [show st + (m : Int) = i by omega]
theorem wkT_s {i : Int} (h : st ≤ i) : wkT f b st (i + 1) = wkT f b st i + wk_dt (f (b + 2 * i)) := by
  unfold wkT
  obtain ⟨m, hm⟩ := Int.eq_ofNat_of_zero_le (show 0 ≤ i - st by omega)
  rw [show i + 1 - st = ((m + 1 : Nat) : Int) by omega, hm, Int.toNat_natCast, Int.toNat_natCast]
  show wk_t f b st m + wk_dt (f (b + 2 * (st + m))) = _
  rw [show st + (m : Int) = i by omega]
theorem wkN_0 : wkN f b st st = 0 := by
  unfold wkN
  rw [show st - st = (0 : Int) by omega]
  rfl
theorem wkT_0 : wkT f b st st = 0 := by
  unfold wkT
  rw [show st - st = (0 : Int) by omega]
  rfl
theorem wk_at {m : Nat} {i : Int} (hk : wk_ok f b st m) (h0 : st ≤ i) (h1 : i - st < m) : wk_sf (f (b + 2 * i)) (f (b + 2 * i + 1)) (wkN f b st i) (wkT f b st i) := by
  obtain ⟨k, hm⟩ := Int.eq_ofNat_of_zero_le (show 0 ≤ i - st by omega)
  have := hk k (by omega)
  rw [show st + (k : Int) = i by omega] at this
  unfold wkN wkT
  rw [hm, Int.toNat_natCast]
  exact this
theorem wk_dnE (o : Int) : (o ≤ 1 ∨ o = 31 → wk_dn o = 1) ∧ (o = 2 ∨ o = 30 → wk_dn o = -1) ∧ (o = 3 → wk_dn o = 0) ∧ (4 ≤ o ∧ o < 10 → wk_dn o = -1) ∧ (10 ≤ o ∧ o < 20 → wk_dn o = -2) ∧ (20 ≤ o ∧ o ≠ 30 ∧ o ≠ 31 → wk_dn o = 0) := by
  unfold wk_dn
  refine ⟨?_, ?_, ?_, ?_, ?_, ?_⟩ <;> intro h <;> (repeat' split) <;> first | rfl | (exfalso; omega)
theorem wk_dtE (o : Int) : (o ≤ 1 ∨ o = 31 → wk_dt o = 0) ∧ (o = 2 → wk_dt o = -1) ∧ (o = 30 ∨ o = 3 → wk_dt o = 0) ∧ (4 ≤ o ∧ o < 10 → wk_dt o = 0) ∧ (10 ≤ o ∧ o < 20 → wk_dt o = 1) ∧ (o = 20 → wk_dt o = 0) ∧ (21 ≤ o ∧ o ≠ 30 ∧ o ≠ 31 → wk_dt o = -1) := by
  unfold wk_dt
  refine ⟨?_, ?_, ?_, ?_, ?_, ?_, ?_⟩ <;> intro h <;> (repeat' split) <;> first | rfl | (exfalso; omega)
/-- one step of a clause's code, in sums -/
theorem wk_step {x i : Int} (h : wk_O f x b) (h0 : f (x + 1) ≤ i) (h1 : i < f (x + 2)) : wk_sf (f (b + 2 * i)) (f (b + 2 * i + 1)) (wkN f b (f (x + 1)) i) (wkT f b (f (x + 1)) i) ∧ wkN f b (f (x + 1)) (i + 1) = wkN f b (f (x + 1)) i + wk_dn (f (b + 2 * i)) ∧ wkT f b (f (x + 1)) (i + 1) = wkT f b (f (x + 1)) i + wk_dt (f (b + 2 * i)) :=
  ⟨wk_at h.2.2.2 h0 (by omega), wkN_s h0, wkT_s h0⟩
theorem wk_law {I : Nat → Int → Int} {P : Nat → Option Nat} {t k : Int} (h : iv_A I P) (t0 : 0 ≤ t) (t1 : t < 4) (k0 : 0 ≤ k) (k1 : k < I 98 (705 * t)) (h0 : 0 ≤ I 98 (705 * t + 1 + 4 * k)) (h1 : I 98 (705 * t + 1 + 4 * k) ≤ 2) : wk_O (I 98) (705 * t + 1 + 4 * k) (705 * t + 97) := h.2.2.1.2.2.2.2 t k t0 t1 k0 k1 h0 h1
theorem wk_O3 {x : Int} (h : wk_O f x b) : 0 ≤ f (x + 1) ∧ f (x + 1) ≤ f (x + 2) ∧ f (x + 2) ≤ 304 := ⟨h.1, h.2.1, h.2.2.1⟩
end WK
/-! the parser's pile -/
section PZ
def pz_rk (o : Int) : Int := if 40 ≤ o then 0 else if o = 22 then 1 else if o = 21 then 2 else if o = 20 then 3 else if 10 ≤ o then 4 else if o = 3 then 7 else if 6 ≤ o then 6 else 5
theorem pz_rkE (o : Int) : (40 ≤ o ∧ pz_rk o = 0) ∨ (o = 22 ∧ pz_rk o = 1) ∨ (o = 21 ∧ pz_rk o = 2) ∨ (o = 20 ∧ pz_rk o = 3) ∨ (10 ≤ o ∧ o < 40 ∧ o ≠ 20 ∧ o ≠ 21 ∧ o ≠ 22 ∧ pz_rk o = 4) ∨ (o = 3 ∧ pz_rk o = 7) ∨ (6 ≤ o ∧ o < 10 ∧ pz_rk o = 6) ∨ (o < 6 ∧ o ≠ 3 ∧ pz_rk o = 5) := by
  unfold pz_rk
  (repeat' split) <;> omega
theorem pz_rk1 (o : Int) : (40 ≤ o ∧ pz_rk o = 0) ∨ (o < 40 ∧ 1 ≤ pz_rk o) := by
  have := pz_rkE o
  omega
def pz_lo (p : Int → Int) : Nat → Int
  | 0 => 40
  | k + 1 => p k
def pz_vn (o : Int) : Int := if o < 4 then 0 else if o < 20 then 1 else if o = 43 then 1 else 0
def pz_vt (o : Int) : Int := if o = 21 then 1 else if o = 22 then 1 else if o = 42 then 1 else if o = 43 then 1 else 0
def pz_vo (o : Int) : Int := if o = 3 then 1 else if o = 20 then 1 else if 40 ≤ o then 1 else 0
def pz_vl (o : Int) : Int := if o = 44 then 1 else if o = 45 then 1 else 0
def pz_v4 (o : Int) : Int := if o = 44 then 1 else 0
def pz_sm (v : Int → Int) (p : Int → Int) : Nat → Int
  | 0 => 0
  | k + 1 => pz_sm v p k + v (p k)
def pz_on (p : Int → Int) : Nat → Int
  | 0 => -1
  | k + 1 => if 40 ≤ p k then p k else pz_on p k
def pz_cn (p : Int → Int) : Nat → Int
  | 0 => 0
  | k + 1 => if p k < 10 then pz_cn p k else if p k < 40 ∧ p k ≠ 20 ∧ p k ≠ 21 ∧ p k ≠ 22 then 1 else 0
def pz_op (p : Int → Int) (k : Int) : Int := pz_on p k.toNat
def pz_cm (p : Int → Int) (k : Int) : Int := pz_cn p k.toNat
def pz_4 (p : Int → Int) (k : Int) : Int := pz_sm pz_v4 p k.toNat
def pz_oq (p : Int → Int) (k : Int) : Int := pz_on p (k + 1).toNat
def pz_cq (p : Int → Int) (k : Int) : Int := pz_cn p (k + 1).toNat
variable {p p' f f' : Int → Int}
theorem pz_tn {k : Int} (h : 0 ≤ k) : ∃ m : Nat, k = (m : Int) ∧ k.toNat = m ∧ (k + 1).toNat = m + 1 := ⟨k.toNat, by omega, rfl, by omega⟩
theorem pz_oqS {k : Int} (h : 0 ≤ k) : (40 ≤ p k → pz_oq p k = p k) ∧ (p k < 40 → pz_oq p k = pz_oq p (k + -1)) := by
  obtain ⟨m, rfl, h1, h2⟩ := pz_tn h
  unfold pz_oq
  rw [h2, show ((m : Int) + -1 + 1).toNat = m by omega]
  show (40 ≤ p m → (if 40 ≤ p m then p m else pz_on p m) = p m) ∧ (p m < 40 → (if 40 ≤ p m then p m else pz_on p m) = pz_on p m)
  exact ⟨fun c => if_pos c, fun c => if_neg (by omega)⟩
theorem pz_oq0 {k : Int} (h : k < 0) : pz_oq p k = -1 := by
  unfold pz_oq
  rw [show (k + 1).toNat = 0 by omega]
  rfl
theorem pz_oqE {k : Int} : pz_op p k = pz_oq p (k - 1) := by
  unfold pz_oq pz_op
  rw [show k - 1 + 1 = k by omega]
theorem pz_cqS {k : Int} (h : 0 ≤ k) : (p k < 10 → pz_cq p k = pz_cq p (k + -1)) ∧ (10 ≤ p k ∧ p k < 40 ∧ p k ≠ 20 ∧ p k ≠ 21 ∧ p k ≠ 22 → pz_cq p k = 1) ∧ (40 ≤ p k ∨ p k = 20 ∨ p k = 21 ∨ p k = 22 → pz_cq p k = 0) := by
  obtain ⟨m, rfl, h1, h2⟩ := pz_tn h
  unfold pz_cq
  rw [h2, show ((m : Int) + -1 + 1).toNat = m by omega]
  show (p m < 10 → (if p m < 10 then pz_cn p m else if p m < 40 ∧ p m ≠ 20 ∧ p m ≠ 21 ∧ p m ≠ 22 then 1 else 0) = pz_cn p m) ∧ (10 ≤ p m ∧ p m < 40 ∧ p m ≠ 20 ∧ p m ≠ 21 ∧ p m ≠ 22 → (if p m < 10 then pz_cn p m else if p m < 40 ∧ p m ≠ 20 ∧ p m ≠ 21 ∧ p m ≠ 22 then 1 else 0) = 1) ∧ (40 ≤ p m ∨ p m = 20 ∨ p m = 21 ∨ p m = 22 → (if p m < 10 then pz_cn p m else if p m < 40 ∧ p m ≠ 20 ∧ p m ≠ 21 ∧ p m ≠ 22 then 1 else 0) = 0)
  refine ⟨fun c => if_pos c, fun c => ?_, fun c => ?_⟩
  · rw [if_neg (by omega), if_pos (by omega)]
  · rw [if_neg (by omega), if_neg (by omega)]
theorem pz_cq0 {k : Int} (h : k < 0) : pz_cq p k = 0 := by
  unfold pz_cq
  rw [show (k + 1).toNat = 0 by omega]
  rfl
theorem pz_cqE {k : Int} : pz_cm p k = pz_cq p (k - 1) := by
  unfold pz_cq pz_cm
  rw [show k - 1 + 1 = k by omega]
theorem pz_opS {k : Int} (h : 0 < k) : (40 ≤ p (k - 1) → pz_op p k = p (k - 1)) ∧ (p (k - 1) < 40 → pz_op p k = pz_op p (k - 1)) := by
  have := pz_oqS (p := p) (show 0 ≤ k - 1 by omega)
  rw [pz_oqE, pz_oqE (k := k - 1), show k - 1 - 1 = k - 1 + -1 by omega]
  exact this
theorem pz_cmS {k : Int} (h : 0 < k) : (p (k - 1) < 10 → pz_cm p k = pz_cm p (k - 1)) ∧ (10 ≤ p (k - 1) ∧ p (k - 1) < 40 ∧ p (k - 1) ≠ 20 ∧ p (k - 1) ≠ 21 ∧ p (k - 1) ≠ 22 → pz_cm p k = 1) ∧ (40 ≤ p (k - 1) ∨ p (k - 1) = 20 ∨ p (k - 1) = 21 ∨ p (k - 1) = 22 → pz_cm p k = 0) := by
  have := pz_cqS (p := p) (show 0 ≤ k - 1 by omega)
  rw [pz_cqE, pz_cqE (k := k - 1), show k - 1 - 1 = k - 1 + -1 by omega]
  exact this
theorem pz_op0 {k : Int} (h : k ≤ 0) : pz_op p k = -1 := by
  unfold pz_op
  rw [show k.toNat = 0 by omega]
  rfl
theorem pz_opP {k : Int} : pz_op p k = -1 ∨ 0 < k := by
  by_cases h : 0 < k
  · exact Or.inr h
  · exact Or.inl (pz_op0 (by omega))
theorem pz_opR {k : Int} : pz_op p k = -1 ∨ 40 ≤ pz_op p k := by
  unfold pz_op
  generalize k.toNat = m
  induction m with
  | zero => exact Or.inl rfl
  | succ m ih =>
    show (if 40 ≤ p m then p m else pz_on p m) = -1 ∨ 40 ≤ (if 40 ≤ p m then p m else pz_on p m)
    split
    · exact Or.inr (by assumption)
    · exact ih
theorem pz_smc {v : Int → Int} {m : Nat} (h : ∀ j : Nat, j < m → p' j = p j) : pz_sm v p' m = pz_sm v p m := by
  induction m with
  | zero => rfl
  | succ m ih =>
    show pz_sm v p' m + v (p' m) = pz_sm v p m + v (p m)
    rw [ih (fun j hj => h j (Nat.lt_succ_of_lt hj)), h m (Nat.lt_succ_self m)]
theorem pz_onc {m : Nat} (h : ∀ j : Nat, j < m → p' j = p j) : pz_on p' m = pz_on p m := by
  induction m with
  | zero => rfl
  | succ m ih =>
    show (if 40 ≤ p' m then p' m else pz_on p' m) = (if 40 ≤ p m then p m else pz_on p m)
    rw [ih (fun j hj => h j (Nat.lt_succ_of_lt hj)), h m (Nat.lt_succ_self m)]
/-- sums over the pile, by whole numbers -/
def pz_s (v : Int → Int) (p : Int → Int) (k : Int) : Int := pz_sm v p k.toNat
theorem pz_sS {v : Int → Int} {k : Int} (h : 0 ≤ k) : pz_s v p (k + 1) = pz_s v p k + v (p k) := by
  obtain ⟨m, rfl, h1, h2⟩ := pz_tn h
  unfold pz_s
  rw [h2, h1]
  rfl
theorem pz_sc {v : Int → Int} {k : Int} (h : ∀ j : Int, 0 ≤ j → j < k → p' j = p j) : pz_s v p' k = pz_s v p k := pz_smc (fun j hj => h j (by omega) (by omega))
theorem pz_opc {k : Int} (h : ∀ j : Int, 0 ≤ j → j < k → p' j = p j) : pz_op p' k = pz_op p k := pz_onc (fun j hj => h j (by omega) (by omega))
def pz_adj (a b : Int) : Prop := (b = 22 → a = 41) ∧ (b = 21 → a = 41 ∨ a = 22) ∧ (b = 20 ∨ (10 ≤ b ∧ b ≤ 15) → a = 41 ∨ a = 22 ∨ a = 21 ∨ a = 20) ∧ (b = 4 ∨ b = 5 → 10 ≤ a) ∧ (b = 6 ∨ b = 7 → a = 4 ∨ a = 5 ∨ 10 ≤ a) ∧ (b = 3 ∨ (4 ≤ b ∧ b ≤ 7) ∨ (10 ≤ b ∧ b ≤ 15) ∨ (20 ≤ b ∧ b ≤ 22) ∨ (40 ≤ b ∧ b ≤ 45))
def pz_l (p : Int → Int) (k : Int) : Int := if k ≤ 0 then 40 else p (k - 1)
theorem pz_l0 : pz_l p 0 = 40 := rfl
theorem pz_lP {k : Int} (h : 0 < k) : pz_l p k = p (k - 1) := if_neg (by omega)
/-- the pile is well laid -/
def pz_G (p : Int → Int) (K o l : Int) : Prop := 0 ≤ K ∧ (∀ j : Int, 0 ≤ j → j < K → pz_adj (pz_l p j) (p j)) ∧ pz_s pz_vo p K = o ∧ pz_s pz_vl p K = l
/-- the code from a clause's start on leaves so much -/
def pz_C (f : Int → Int) (b st w n t : Int) : Prop := st ≤ w ∧ wk_ok f b st (w - st).toNat ∧ wkN f b st w = n ∧ wkT f b st w = t
/-- the clauses that are counted end ahead of w -/
def wk_E (f : Int → Int) (t0 w : Int) : Prop := (t0 = 0 ∨ t0 = 705 ∨ t0 = 1410 ∨ t0 = 2115) ∧ f t0 ≤ 24 ∧ 0 ≤ f t0 ∧ ∀ k : Int, 0 ≤ k → k < f t0 → 0 ≤ f (t0 + 1 + 4 * k) → f (t0 + 1 + 4 * k) ≤ 2 → f (t0 + 1 + 4 * k + 2) ≤ w
def pz_st (f : Int → Int) (t0 : Int) : Int := f (t0 + 1 + 4 * f t0 + 1)
def pz_Z (p f : Int → Int) (t0 w K o l v u : Int) : Prop := pz_G p K o l ∧ f t0 < 24 ∧ 0 ≤ pz_st f t0 ∧ wk_E f t0 (pz_st f t0) ∧ pz_C f (t0 + 97) (pz_st f t0) w (pz_s pz_vn p K + v) (pz_s pz_vt p K + u)
def pz_em (f : Int → Int) (i o v : Int) : Int → Int := fun j => if j = i + 1 then v else if j = i then o else f j
theorem pz_em1 {i o v j : Int} (h : j < i ∨ i + 1 < j) : pz_em f i o v j = f j := by
  unfold pz_em
  rw [if_neg (by omega), if_neg (by omega)]
theorem pz_emo {i o v : Int} : pz_em f i o v i = o := by
  unfold pz_em
  rw [if_neg (by omega), if_pos rfl]
theorem pz_emv {i o v : Int} : pz_em f i o v (i + 1) = v := by
  unfold pz_em
  rw [if_pos rfl]
theorem pz_emE {I : Nat → Int → Int} {i o v : Int} : lf_up (lf_up I 98 i o) 98 (i + 1) v 98 = pz_em (I 98) i o v := by
  funext j
  unfold pz_em
  by_cases h1 : j = i + 1
  · rw [if_pos h1, h1, lf_up_s]
  · rw [if_neg h1, lf_up_i h1]
    by_cases h2 : j = i
    · rw [if_pos h2, h2, lf_up_s]
    · rw [if_neg h2, lf_up_i h2]
/-- what is written behind w leaves the counted clauses as they are -/
theorem wk_Tw {t0 w : Int} (hT : wk_T f) (hE : wk_E f t0 w) (hw : 0 ≤ w) (hr : ∀ t, 0 ≤ t → t < 4 → f (705 * t) ≤ 24) (h : ∀ j : Int, j < t0 + 97 + 2 * w ∨ t0 + 705 ≤ j → f' j = f j) : wk_T f' := by
  intro t k h0 h1 k0 k1 a0 a1
  have ht4 : t = 0 ∨ t = 1 ∨ t = 2 ∨ t = 3 := by omega
  obtain ⟨e0, e1, e2, e3⟩ := hE
  have e : f' (705 * t) = f (705 * t) := h _ (by omega)
  rw [e] at k1
  have k2 := hr t h0 h1
  have eA : f' (705 * t + 1 + 4 * k) = f (705 * t + 1 + 4 * k) := h _ (by omega)
  have eB : f' (705 * t + 1 + 4 * k + 1) = f (705 * t + 1 + 4 * k + 1) := h _ (by omega)
  have eC : f' (705 * t + 1 + 4 * k + 2) = f (705 * t + 1 + 4 * k + 2) := h _ (by omega)
  rw [eA] at a0 a1
  obtain ⟨b0, b1, b2, b3⟩ := hT t k h0 h1 k0 k1 a0 a1
  have b4 : 705 * t = t0 → f (705 * t + 1 + 4 * k + 2) ≤ w := by
    intro q
    have := e3 k k0 (by rw [← q]; exact k1) (by rw [← q]; exact a0) (by rw [← q]; exact a1)
    rw [q]; exact this
  refine ⟨by rw [eB]; exact b0, by rw [eB, eC]; exact b1, by rw [eC]; exact b2, ?_⟩
  rw [eB, eC]
  refine wk_okc b3 (fun j hj => ?_)
  by_cases q : 705 * t = t0
  · have := b4 q
    exact ⟨h _ (by omega), h _ (by omega)⟩
  · exact ⟨h _ (by omega), h _ (by omega)⟩
/-- what is laid into the clause that is being read leaves the counted ones as they are -/
theorem wk_Tx {t0 j v w : Int} {I : Nat → Int → Int} (hT : wk_T (I 98)) (hE : wk_E (I 98) t0 w) (hn : I 98 t0 < 24) (hr : ∀ t, 0 ≤ t → t < 4 → I 98 (705 * t) ≤ 24) (hj : t0 + 1 + 4 * I 98 t0 ≤ j ∧ j ≤ t0 + 1 + 4 * I 98 t0 + 3) : wk_T (lf_up I 98 j v 98) := by
  intro t k h0 h1 k0 k1 a0 a1
  have ht4 : t = 0 ∨ t = 1 ∨ t = 2 ∨ t = 3 := by omega
  obtain ⟨e0, e1, e2, e3⟩ := hE
  have e : lf_up I 98 j v 98 (705 * t) = I 98 (705 * t) := lf_up_i (by omega)
  rw [e] at k1
  have k2 := hr t h0 h1
  have b4 : 705 * t = t0 → k < I 98 t0 := by
    intro q
    rw [← q]; exact k1
  have eA : lf_up I 98 j v 98 (705 * t + 1 + 4 * k) = I 98 (705 * t + 1 + 4 * k) := lf_up_i (by omega)
  have eB : lf_up I 98 j v 98 (705 * t + 1 + 4 * k + 1) = I 98 (705 * t + 1 + 4 * k + 1) := lf_up_i (by omega)
  have eC : lf_up I 98 j v 98 (705 * t + 1 + 4 * k + 2) = I 98 (705 * t + 1 + 4 * k + 2) := lf_up_i (by omega)
  rw [eA] at a0 a1
  obtain ⟨b0, b1, b2, b3⟩ := hT t k h0 h1 k0 k1 a0 a1
  refine ⟨by rw [eB]; exact b0, by rw [eB, eC]; exact b1, by rw [eC]; exact b2, ?_⟩
  rw [eB, eC]
  refine wk_okc b3 (fun i hi => ⟨lf_up_i (by omega), lf_up_i (by omega)⟩)
/-- a text is begun anew -/
theorem wk_Tz {t0 : Int} {I : Nat → Int → Int} (hT : wk_T (I 98)) (e0 : t0 = 0 ∨ t0 = 705 ∨ t0 = 1410 ∨ t0 = 2115) (hr : ∀ t, 0 ≤ t → t < 4 → I 98 (705 * t) ≤ 24) : wk_T (lf_up I 98 t0 0 98) := by
  intro t k h0 h1 k0 k1 a0 a1
  have ht4 : t = 0 ∨ t = 1 ∨ t = 2 ∨ t = 3 := by omega
  by_cases q : 705 * t = t0
  · rw [q, lf_up_s] at k1
    omega
  · have e : lf_up I 98 t0 0 98 (705 * t) = I 98 (705 * t) := lf_up_i (by omega)
    rw [e] at k1
    have k2 := hr t h0 h1
    have eA : lf_up I 98 t0 0 98 (705 * t + 1 + 4 * k) = I 98 (705 * t + 1 + 4 * k) := lf_up_i (by omega)
    have eB : lf_up I 98 t0 0 98 (705 * t + 1 + 4 * k + 1) = I 98 (705 * t + 1 + 4 * k + 1) := lf_up_i (by omega)
    have eC : lf_up I 98 t0 0 98 (705 * t + 1 + 4 * k + 2) = I 98 (705 * t + 1 + 4 * k + 2) := lf_up_i (by omega)
    rw [eA] at a0 a1
    obtain ⟨b0, b1, b2, b3⟩ := hT t k h0 h1 k0 k1 a0 a1
    refine ⟨by rw [eB]; exact b0, by rw [eB, eC]; exact b1, by rw [eC]; exact b2, ?_⟩
    rw [eB, eC]
    refine wk_okc b3 (fun i hi => ⟨lf_up_i (by omega), lf_up_i (by omega)⟩)
/-- one clause more is counted -/
theorem wk_Tn {t0 : Int} {I : Nat → Int → Int} (hT : wk_T (I 98)) (e0 : t0 = 0 ∨ t0 = 705 ∨ t0 = 1410 ∨ t0 = 2115) (hr : ∀ t, 0 ≤ t → t < 4 → I 98 (705 * t) ≤ 24) (hn : 0 ≤ I 98 t0 ∧ I 98 t0 < 24) (hc : 0 ≤ I 98 (t0 + 1 + 4 * I 98 t0) → I 98 (t0 + 1 + 4 * I 98 t0) ≤ 2 → wk_O (I 98) (t0 + 1 + 4 * I 98 t0) (t0 + 97)) : wk_T (lf_up I 98 t0 (I 98 t0 + 1) 98) := by
  intro t k h0 h1 k0 k1 a0 a1
  have ht4 : t = 0 ∨ t = 1 ∨ t = 2 ∨ t = 3 := by omega
  have k2 := hr t h0 h1
  have k3 : k < 24 ∧ (705 * t = t0 → k < I 98 t0 + 1) ∧ (705 * t ≠ t0 → k < I 98 (705 * t)) := by
    by_cases q : 705 * t = t0
    · rw [q, lf_up_s] at k1
      exact ⟨by omega, fun _ => k1, fun h => absurd q h⟩
    · rw [lf_up_i q] at k1
      exact ⟨by omega, fun h => absurd h q, fun _ => k1⟩
  have eA : lf_up I 98 t0 (I 98 t0 + 1) 98 (705 * t + 1 + 4 * k) = I 98 (705 * t + 1 + 4 * k) := lf_up_i (by omega)
  have eB : lf_up I 98 t0 (I 98 t0 + 1) 98 (705 * t + 1 + 4 * k + 1) = I 98 (705 * t + 1 + 4 * k + 1) := lf_up_i (by omega)
  have eC : lf_up I 98 t0 (I 98 t0 + 1) 98 (705 * t + 1 + 4 * k + 2) = I 98 (705 * t + 1 + 4 * k + 2) := lf_up_i (by omega)
  rw [eA] at a0 a1
  have hO : wk_O (I 98) (705 * t + 1 + 4 * k) (705 * t + 97) := by
    by_cases q : 705 * t = t0
    · by_cases q2 : k = I 98 t0
      · rw [q, q2]
        rw [q, q2] at a0 a1
        exact hc a0 a1
      · exact hT t k h0 h1 k0 (by rw [q]; have := k3.2.1 q; omega) a0 a1
    · exact hT t k h0 h1 k0 (k3.2.2 q) a0 a1
  obtain ⟨b0, b1, b2, b3⟩ := hO
  refine ⟨by rw [eB]; exact b0, by rw [eB, eC]; exact b1, by rw [eC]; exact b2, ?_⟩
  rw [eB, eC]
  refine wk_okc b3 (fun i hi => ⟨lf_up_i (by omega), lf_up_i (by omega)⟩)
theorem wk_E_c {t0 w w' : Int} (hE : wk_E f t0 w) (hw : w ≤ w') (h : ∀ j : Int, t0 ≤ j → j < t0 + 97 → f' j = f j) : wk_E f' t0 w' := by
  obtain ⟨e0, e1, e2, e3⟩ := hE
  have e : f' t0 = f t0 := h _ (by omega) (by omega)
  refine ⟨e0, by rw [e]; exact e1, by rw [e]; exact e2, fun k k0 k1 a0 a1 => ?_⟩
  rw [e] at k1
  rw [h _ (by omega) (by omega)] at a0 a1
  rw [h _ (by omega) (by omega)]
  have := e3 k k0 k1 a0 a1
  omega
theorem pz_Ca {b st w n t o v : Int} (h : pz_C f b st w n t) (hs : wk_sf o v n t) : pz_C (pz_em f (b + 2 * w) o v) b st (w + 1) (n + wk_dn o) (t + wk_dt o) := by
  obtain ⟨h0, h1, h2, h3⟩ := h
  have hc : ∀ j : Nat, j < (w - st).toNat → pz_em f (b + 2 * w) o v (b + 2 * (st + j)) = f (b + 2 * (st + j)) ∧ pz_em f (b + 2 * w) o v (b + 2 * (st + j) + 1) = f (b + 2 * (st + j) + 1) := fun j hj => ⟨pz_em1 (by omega), pz_em1 (by omega)⟩
  have en : wkN (pz_em f (b + 2 * w) o v) b st w = n := by
    rw [← h2]
    exact wk_nc (fun j hj => (hc j hj).1)
  have et : wkT (pz_em f (b + 2 * w) o v) b st w = t := by
    rw [← h3]
    exact wk_tc (fun j hj => (hc j hj).1)
  refine ⟨by omega, ?_, ?_, ?_⟩
  · intro j hj
    by_cases hq : j < (w - st).toNat
    · exact wk_okc h1 hc j hq
    · have hj2 : (j : Int) = w - st := by omega
      have e1 : wk_n (pz_em f (b + 2 * w) o v) b st j = n := by
        rw [← en]
        unfold wkN
        rw [show (w - st).toNat = j by omega]
      have e2 : wk_t (pz_em f (b + 2 * w) o v) b st j = t := by
        rw [← et]
        unfold wkT
        rw [show (w - st).toNat = j by omega]
      rw [e1, e2, show b + 2 * (st + (j : Int)) = b + 2 * w by omega, pz_emo, pz_emv]
      exact hs
  · rw [wkN_s h0, en, pz_emo]
  · rw [wkT_s h0, et, pz_emo]
/-- emitting: the state of the parser but for the pile -/
theorem pz_Ze {t0 w n t o v : Int} (h1 : f t0 < 24) (h2 : 0 ≤ pz_st f t0) (h3 : wk_E f t0 (pz_st f t0)) (h4 : pz_C f (t0 + 97) (pz_st f t0) w n t) (hs : wk_sf o v n t) : let g := pz_em f (t0 + 97 + 2 * w) o v
    g t0 < 24 ∧ 0 ≤ pz_st g t0 ∧ wk_E g t0 (pz_st g t0) ∧ pz_C g (t0 + 97) (pz_st g t0) (w + 1) (n + wk_dn o) (t + wk_dt o) := by
  intro g
  have hw : 0 ≤ w := by have := h4.1; omega
  have e0 : g t0 = f t0 := pz_em1 (by omega)
  have h30 := h3.2.2.1
  have es : pz_st g t0 = pz_st f t0 := by
    show g (t0 + 1 + 4 * g t0 + 1) = f (t0 + 1 + 4 * f t0 + 1)
    rw [e0]
    exact pz_em1 (by omega)
  rw [es, e0]
  exact ⟨h1, h2, wk_E_c h3 (Int.le_refl _) (fun j a b => pz_em1 (by omega)), pz_Ca h4 hs⟩
theorem pz_GA {K o l j : Int} (h : pz_G p K o l) (h0 : 0 ≤ j) (h1 : j < K) : pz_adj (pz_l p j) (p j) := h.2.1 j h0 h1
theorem pz_vE (o : Int) : (pz_vo o = 1 ∧ (o = 3 ∨ o = 20 ∨ 40 ≤ o) ∨ pz_vo o = 0 ∧ o ≠ 3 ∧ o ≠ 20 ∧ o < 40) ∧ (pz_vl o = 1 ∧ (o = 44 ∨ o = 45) ∨ pz_vl o = 0 ∧ o ≠ 44 ∧ o ≠ 45) ∧ (pz_v4 o = 1 ∧ o = 44 ∨ pz_v4 o = 0 ∧ o ≠ 44) := by
  unfold pz_vo pz_vl pz_v4
  refine ⟨?_, ?_, ?_⟩ <;> (repeat' split) <;> omega
theorem pz_vnE (o : Int) : (pz_vn o = 1 ∧ (4 ≤ o ∧ o < 20 ∨ o = 43)) ∨ (pz_vn o = 0 ∧ o ≠ 43 ∧ (o < 4 ∨ 20 ≤ o)) := by
  unfold pz_vn
  (repeat' split) <;> omega
theorem pz_vtE (o : Int) : (pz_vt o = 1 ∧ (o = 21 ∨ o = 22 ∨ o = 42 ∨ o = 43)) ∨ (pz_vt o = 0 ∧ o ≠ 21 ∧ o ≠ 22 ∧ o ≠ 42 ∧ o ≠ 43) := by
  unfold pz_vt
  (repeat' split) <;> omega
theorem pz_s0 {v : Int → Int} : pz_s v p 0 = 0 := rfl
theorem pz_sP {v : Int → Int} {K : Int} (h : 0 < K) : pz_s v p K = pz_s v p (K - 1) + v (p (K - 1)) := by
  have := pz_sS (p := p) (v := v) (show 0 ≤ K - 1 by omega)
  rw [show K - 1 + 1 = K by omega] at this
  exact this
theorem pz_sN {v : Int → Int} (hv : ∀ o, 0 ≤ v o) {K : Int} : 0 ≤ pz_s v p K := by
  unfold pz_s
  generalize K.toNat = m
  induction m with
  | zero => exact Int.le_refl 0
  | succ m ih =>
    show 0 ≤ pz_sm v p m + v (p m)
    have := hv (p m)
    omega
theorem pz_vo0 (o : Int) : 0 ≤ pz_vo o := by have := (pz_vE o).1; omega
theorem pz_vl0 (o : Int) : 0 ≤ pz_vl o := by have := (pz_vE o).2.1; omega
theorem pz_v40 (o : Int) : 0 ≤ pz_v4 o := by have := (pz_vE o).2.2; omega
theorem pz_vn0 (o : Int) : 0 ≤ pz_vn o := by have := pz_vnE o; omega
theorem pz_vt0 (o : Int) : 0 ≤ pz_vt o := by have := pz_vtE o; omega
theorem pz_4E {K : Int} : pz_4 p K = pz_s pz_v4 p K := rfl
theorem pz_ix (o : Int) : ∃ x : Int, x = (if o = 22 then 1 else if o = 21 then 2 else if 10 ≤ o ∧ o ≤ 15 then 3 else if o = 4 ∨ o = 5 then 4 else if o = 6 ∨ o = 7 then 5 else 0) := ⟨_, rfl⟩
def pz_i (o : Int) : Int := if o = 22 then 1 else if o = 21 then 2 else if 10 ≤ o ∧ o ≤ 15 then 3 else if o = 4 ∨ o = 5 then 4 else if o = 6 ∨ o = 7 then 5 else 0
theorem pz_iE (o : Int) : (pz_i o = 1 ∧ o = 22) ∨ (pz_i o = 2 ∧ o = 21) ∨ (pz_i o = 3 ∧ 10 ≤ o ∧ o ≤ 15) ∨ (pz_i o = 4 ∧ (o = 4 ∨ o = 5)) ∨ (pz_i o = 5 ∧ (o = 6 ∨ o = 7)) ∨ (pz_i o = 0 ∧ o ≠ 22 ∧ o ≠ 21 ∧ ¬ (10 ≤ o ∧ o ≤ 15) ∧ ¬ (4 ≤ o ∧ o ≤ 7)) := by
  unfold pz_i
  (repeat' split) <;> omega
theorem pz_bd {K o l : Int} (h : pz_G p K o l) : ∀ m : Nat, (m : Int) ≤ K → (m : Int) ≤ 6 * pz_s pz_vo p m + pz_i (pz_l p m)
  | 0, _ => by
    have := pz_sN (p := p) pz_vo0 (K := 0)
    have := pz_iE (pz_l p 0)
    show (0 : Int) ≤ 6 * pz_s pz_vo p 0 + pz_i (pz_l p 0)
    omega
  | m + 1, hm => by
    have ih := pz_bd h m (by omega)
    have ha := pz_GA h (j := m) (by omega) (by omega)
    have hs := pz_sS (p := p) (v := pz_vo) (k := m) (by omega)
    have e : ((m + 1 : Nat) : Int) = (m : Int) + 1 := by omega
    rw [e, hs]
    have el : pz_l p ((m : Int) + 1) = p m := by
      rw [pz_lP (by omega)]
      rw [show (m : Int) + 1 - 1 = m by omega]
    rw [el]
    have v1 := (pz_vE (p m)).1
    have i1 := pz_iE (p m)
    have i2 := pz_iE (pz_l p m)
    obtain ⟨a1, a2, a3, a4, a5, a6⟩ := ha
    generalize pz_l p m = y at *
    generalize p m = x at *
    generalize pz_s pz_vo p m = z at *
    generalize pz_i x = ix at *
    generalize pz_i y = iy at *
    generalize pz_vo x = vx at *
    omega
theorem pz_K {K o l : Int} (h : pz_G p K o l) : K ≤ 6 * o + 5 ∧ 0 ≤ K ∧ 0 ≤ o ∧ 0 ≤ l ∧ l ≤ o := by
  have h0 := h.1
  obtain ⟨m, hm⟩ := Int.eq_ofNat_of_zero_le h0
  have hb := pz_bd h m (by omega)
  have hi := pz_iE (pz_l p (m : Int))
  rw [← hm, h.2.2.1] at hb
  rw [← hm] at hi
  have ho := pz_sN (p := p) pz_vo0 (K := K)
  have hl := pz_sN (p := p) pz_vl0 (K := K)
  have hle : ∀ m : Nat, pz_sm pz_vl p m ≤ pz_sm pz_vo p m := by
    intro m
    induction m with
    | zero => exact Int.le_refl 0
    | succ m ih =>
      show pz_sm pz_vl p m + pz_vl (p m) ≤ pz_sm pz_vo p m + pz_vo (p m)
      have := pz_vE (p m)
      omega
  have hq : pz_s pz_vl p K ≤ pz_s pz_vo p K := hle _
  rw [h.2.2.1] at ho hq
  rw [h.2.2.2] at hl hq
  omega
/-- what is compared or joined lies above an if -/
theorem pz_o41 {K o l : Int} (h : pz_G p K o l) : ∀ m : Nat, (m : Int) < K → (p m = 20 ∨ p m = 21 ∨ p m = 22 ∨ (10 ≤ p m ∧ p m ≤ 15)) → pz_on p m = 41
  | 0, h0, h1 => by
    have ha := pz_GA h (j := 0) (by omega) (by omega)
    rw [pz_l0] at ha
    obtain ⟨a1, a2, a3, a4, a5, a6⟩ := ha
    exfalso
    have h1 : p 0 = 20 ∨ p 0 = 21 ∨ p 0 = 22 ∨ (10 ≤ p 0 ∧ p 0 ≤ 15) := h1
    omega
  | m + 1, h0, h1 => by
    have ha := pz_GA h (j := (m : Int) + 1) (by omega) (by omega)
    rw [pz_lP (by omega), show (m : Int) + 1 - 1 = m by omega] at ha
    have h1 : p ((m : Int) + 1) = 20 ∨ p ((m : Int) + 1) = 21 ∨ p ((m : Int) + 1) = 22 ∨ (10 ≤ p ((m : Int) + 1) ∧ p ((m : Int) + 1) ≤ 15) := h1
    show (if 40 ≤ p m then p m else pz_on p m) = 41
    obtain ⟨a1, a2, a3, a4, a5, a6⟩ := ha
    by_cases hq : p m = 41
    · rw [if_pos (by omega)]; exact hq
    · rw [if_neg (by omega)]
      exact pz_o41 h m (by omega) (by omega)
theorem pz_41 {K o l j : Int} (h : pz_G p K o l) (h0 : 0 ≤ j) (h1 : j < K) (h2 : p j = 20 ∨ p j = 21 ∨ p j = 22 ∨ (10 ≤ p j ∧ p j ≤ 15)) : pz_op p j = 41 := by
  obtain ⟨m, rfl⟩ := Int.eq_ofNat_of_zero_le h0
  exact pz_o41 h m h1 h2
/-- one off the pile -/
theorem pz_Gp {K o l : Int} (h : pz_G p K o l) (hK : 0 < K) : pz_G p (K - 1) (o - pz_vo (p (K - 1))) (l - pz_vl (p (K - 1))) := by
  obtain ⟨h0, h1, h2, h3⟩ := h
  rw [pz_sP hK] at h2 h3
  exact ⟨by omega, fun j a b => h1 j a (by omega), by omega, by omega⟩
/-- one onto the pile -/
theorem pz_Gu {K o l e : Int} (h : pz_G p K o l) (e1 : p' K = e) (e2 : ∀ j, j ≠ K → p' j = p j) (ha : pz_adj (pz_l p K) e) : pz_G p' (K + 1) (o + pz_vo e) (l + pz_vl e) := by
  obtain ⟨h0, h1, h2, h3⟩ := h
  have hl : ∀ j, 0 ≤ j → j ≤ K → pz_l p' j = pz_l p j := by
    intro j a b
    by_cases hj : j ≤ 0
    · rw [show j = 0 by omega]; rfl
    · rw [pz_lP (by omega), pz_lP (by omega), e2 _ (by omega)]
  refine ⟨by omega, fun j a b => ?_, ?_, ?_⟩
  · by_cases hj : j = K
    · rw [hj, hl K h0 (Int.le_refl _), e1]; exact ha
    · rw [hl j a (by omega), e2 j hj]; exact h1 j a (by omega)
  · rw [pz_sS h0, pz_sc (fun j a b => e2 j (by omega)), e1, h2]
  · rw [pz_sS h0, pz_sc (fun j a b => e2 j (by omega)), e1, h3]
/-- the parser's state: with what is spent of the text -/
def pz_Y (p f : Int → Int) (t0 w K o l sl b n v u : Int) : Prop := pz_Z p f t0 w K o l v u ∧ w + K ≤ b ∧ 4 * sl + 3 * pz_4 p K ≤ b ∧ f t0 = n
/-- the parser's state while it settles -/
def pz_W (p f : Int → Int) (t0 w K o l sl b n least : Int) : Prop := (pz_Y p f t0 w K o l sl b n 1 0 ∧ (5 ≤ least ∨ (least = 4 ∧ pz_cm p K ≠ 1) ∨ (least < 4 ∧ (pz_cm p K = 1 ∨ pz_op p K ≠ 41)))) ∨ (pz_Y p f t0 w K o l sl b n 0 1 ∧ least < 4 ∧ pz_op p K = 41 ∧ 0 < K ∧ (p (K - 1) = 41 ∨ p (K - 1) = 22 ∨ p (K - 1) = 21 ∨ p (K - 1) = 20))
theorem pz_ZG {t0 w K o l v u : Int} (h : pz_Z p f t0 w K o l v u) : pz_G p K o l := h.1
theorem pz_Zpop {t0 w K o l v u v' u' : Int} (h : pz_Z p f t0 w K o l v u) (hK : 0 < K) (hs : wk_sf (p (K - 1)) 0 (pz_s pz_vn p K + v) (pz_s pz_vt p K + u)) (hv : pz_vn (p (K - 1)) + v + wk_dn (p (K - 1)) = v') (hu : pz_vt (p (K - 1)) + u + wk_dt (p (K - 1)) = u') (hl : p (K - 1) < 40) : pz_Z p (pz_em f (t0 + 97 + 2 * w) (p (K - 1)) 0) t0 (w + 1) (K - 1) (o - pz_vo (p (K - 1))) l v' u' := by
  obtain ⟨h0, h1, h2, h3, h4⟩ := h
  obtain ⟨g1, g2, g3, g4⟩ := pz_Ze h1 h2 h3 h4 hs
  have hG := pz_Gp h0 hK
  have hv1 := (pz_vE (p (K - 1))).2.1
  rw [show l - pz_vl (p (K - 1)) = l by omega] at hG
  rw [pz_sP (v := pz_vn) hK, pz_sP (v := pz_vt) hK] at g4
  rw [show pz_s pz_vn p (K - 1) + pz_vn (p (K - 1)) + v + wk_dn (p (K - 1)) = pz_s pz_vn p (K - 1) + v' by omega, show pz_s pz_vt p (K - 1) + pz_vt (p (K - 1)) + u + wk_dt (p (K - 1)) = pz_s pz_vt p (K - 1) + u' by omega] at g4
  exact ⟨hG, g1, g2, g3, g4⟩
theorem pz_emt {t0 w q v : Int} (h : 0 ≤ w) : pz_em f (t0 + 97 + 2 * w) q v t0 = f t0 := pz_em1 (by omega)
theorem pz_Yw {t0 w K o l sl b n v u : Int} (h : pz_Y p f t0 w K o l sl b n v u) : 0 ≤ w := Int.le_trans h.1.2.2.1 h.1.2.2.2.2.1
theorem pz_pA {e : Int} (h : 3 ≤ e ∧ e ≤ 7) : pz_vn e + 1 + wk_dn e = 1 ∧ pz_vt e + 0 + wk_dt e = 0 ∧ ∀ n t : Int, 0 ≤ n → wk_sf e 0 (n + pz_vn e + 1) t := by
  have : e = 3 ∨ e = 4 ∨ e = 5 ∨ e = 6 ∨ e = 7 := by omega
  rcases this with rfl | rfl | rfl | rfl | rfl
  · exact ⟨by decide, by decide, fun n t hn => by rw [show pz_vn 3 = 0 by decide]; unfold wk_sf; omega⟩
  · exact ⟨by decide, by decide, fun n t hn => by rw [show pz_vn 4 = 1 by decide]; unfold wk_sf; omega⟩
  · exact ⟨by decide, by decide, fun n t hn => by rw [show pz_vn 5 = 1 by decide]; unfold wk_sf; omega⟩
  · exact ⟨by decide, by decide, fun n t hn => by rw [show pz_vn 6 = 1 by decide]; unfold wk_sf; omega⟩
  · exact ⟨by decide, by decide, fun n t hn => by rw [show pz_vn 7 = 1 by decide]; unfold wk_sf; omega⟩
theorem pz_pC {e : Int} (h : 10 ≤ e ∧ e ≤ 15) : pz_vn e + 1 + wk_dn e = 0 ∧ pz_vt e + 0 + wk_dt e = 1 ∧ ∀ n t : Int, 0 ≤ n → wk_sf e 0 (n + pz_vn e + 1) t := by
  have : e = 10 ∨ e = 11 ∨ e = 12 ∨ e = 13 ∨ e = 14 ∨ e = 15 := by omega
  rcases this with rfl | rfl | rfl | rfl | rfl | rfl
  · exact ⟨by decide, by decide, fun n t hn => by rw [show pz_vn 10 = 1 by decide]; unfold wk_sf; omega⟩
  · exact ⟨by decide, by decide, fun n t hn => by rw [show pz_vn 11 = 1 by decide]; unfold wk_sf; omega⟩
  · exact ⟨by decide, by decide, fun n t hn => by rw [show pz_vn 12 = 1 by decide]; unfold wk_sf; omega⟩
  · exact ⟨by decide, by decide, fun n t hn => by rw [show pz_vn 13 = 1 by decide]; unfold wk_sf; omega⟩
  · exact ⟨by decide, by decide, fun n t hn => by rw [show pz_vn 14 = 1 by decide]; unfold wk_sf; omega⟩
  · exact ⟨by decide, by decide, fun n t hn => by rw [show pz_vn 15 = 1 by decide]; unfold wk_sf; omega⟩
theorem pz_pT {e : Int} (h : 20 ≤ e ∧ e ≤ 22) : pz_vn e + 0 + wk_dn e = 0 ∧ pz_vt e + 1 + wk_dt e = 1 ∧ ∀ n t : Int, 0 ≤ t → wk_sf e 0 n (t + pz_vt e + 1) := by
  have : e = 20 ∨ e = 21 ∨ e = 22 := by omega
  rcases this with rfl | rfl | rfl
  · exact ⟨by decide, by decide, fun n t hn => by rw [show pz_vt 20 = 0 by decide]; unfold wk_sf; omega⟩
  · exact ⟨by decide, by decide, fun n t hn => by rw [show pz_vt 21 = 1 by decide]; unfold wk_sf; omega⟩
  · exact ⟨by decide, by decide, fun n t hn => by rw [show pz_vt 22 = 1 by decide]; unfold wk_sf; omega⟩
theorem pz_adjC {a b : Int} (h : pz_adj a b) (hb : (10 ≤ b ∧ b ≤ 15) ∨ (20 ≤ b ∧ b ≤ 22)) : a = 41 ∨ a = 22 ∨ a = 21 ∨ a = 20 := by
  obtain ⟨a1, a2, a3, a4, a5, a6⟩ := h
  clear a4 a5 a6
  omega
theorem pz_Wpop {t0 w K o l sl b n least : Int} (h : pz_W p f t0 w K o l sl b n least) (hK : 0 < K) (h1 : 1 ≤ least) (hr : least ≤ pz_rk (p (K - 1))) : pz_W p (pz_em f (t0 + 97 + 2 * w) (p (K - 1)) 0) t0 (w + 1) (K - 1) (o - pz_vo (p (K - 1))) l sl b n least ∧ pz_op p (K - 1) = pz_op p K ∧ p (K - 1) < 40 := by
  have hlt : p (K - 1) < 40 := by have := pz_rk1 (p (K - 1)); omega
  have hoE := (pz_opS (p := p) hK).2 hlt
  have hcS := pz_cmS (p := p) hK
  have p1 := pz_sN (p := p) pz_vn0 (K := K - 1)
  have p2 := pz_sN (p := p) pz_vt0 (K := K - 1)
  have h4 : pz_4 p K = pz_4 p (K - 1) := by
    have e : pz_4 p K = pz_4 p (K - 1) + pz_v4 (p (K - 1)) := pz_sP hK
    have := (pz_vE (p (K - 1))).2.2
    omega
  refine ⟨?_, hoE.symm, hlt⟩
  have hY : ∀ {v' u' : Int}, w + K ≤ b → 4 * sl + 3 * pz_4 p K ≤ b → f t0 = n → 0 ≤ w → pz_Z p (pz_em f (t0 + 97 + 2 * w) (p (K - 1)) 0) t0 (w + 1) (K - 1) (o - pz_vo (p (K - 1))) l v' u' → pz_Y p (pz_em f (t0 + 97 + 2 * w) (p (K - 1)) 0) t0 (w + 1) (K - 1) (o - pz_vo (p (K - 1))) l sl b n v' u' := fun a1 a2 a3 a4 hz => ⟨hz, by omega, by omega, (pz_emt a4).trans a3⟩
  have hk1 : ∀ {o' l' : Int}, pz_G p K o' l' → (10 ≤ p (K - 1) ∧ p (K - 1) ≤ 15) ∨ (20 ≤ p (K - 1) ∧ p (K - 1) ≤ 22) → pz_op p (K - 1) = 41 ∧ 0 < K - 1 ∧ (p (K - 1 - 1) = 41 ∨ p (K - 1 - 1) = 22 ∨ p (K - 1 - 1) = 21 ∨ p (K - 1 - 1) = 20) := by
    intro o' l' hG hq
    have hA := pz_adjC (pz_GA hG (j := K - 1) (by omega) (by omega)) hq
    have h41 := pz_41 hG (j := K - 1) (by omega) (by omega) (by omega)
    have hK1 : 0 < K - 1 := by
      have := pz_opP (p := p) (k := K - 1)
      omega
    rw [pz_lP hK1] at hA
    exact ⟨h41, hK1, hA⟩
  rcases h with ⟨hZ', hc⟩ | ⟨hZ', hc1, hc2, hc3, hc4⟩
  · have hw := pz_Yw hZ'
    obtain ⟨hZ, y1, y2, y3⟩ := hZ'
    have hG := pz_ZG hZ
    have hA := (pz_GA hG (j := K - 1) (by omega) (by omega)).2.2.2.2.2
    by_cases q1 : p (K - 1) < 10
    · obtain ⟨z1, z2, z3⟩ := pz_pA (e := p (K - 1)) (by omega)
      refine Or.inl ⟨hY y1 y2 y3 hw (pz_Zpop hZ hK ?_ z1 z2 hlt), ?_⟩
      · rw [pz_sP (v := pz_vn) hK]; exact z3 _ _ p1
      · rw [← hcS.1 q1, ← hoE]; exact hc
    · by_cases q2 : p (K - 1) ≤ 15
      · have hcm := hcS.2.1 (by omega)
        obtain ⟨k1, k2, k3⟩ := hk1 hG (by omega)
        obtain ⟨z1, z2, z3⟩ := pz_pC (e := p (K - 1)) (by omega)
        have hrk := pz_rkE (p (K - 1))
        refine Or.inr ⟨hY y1 y2 y3 hw (pz_Zpop hZ hK ?_ z1 z2 hlt), by omega, k1, k2, k3⟩
        rw [pz_sP (v := pz_vn) hK]; exact z3 _ _ p1
      · exfalso
        have k1 := (hk1 hG (by omega)).1
        have hcm := hcS.2.2 (by omega)
        have hrk := pz_rkE (p (K - 1))
        omega
  · have hw := pz_Yw hZ'
    obtain ⟨hZ, y1, y2, y3⟩ := hZ'
    have hG := pz_ZG hZ
    have hrk := pz_rk1 (p (K - 1))
    obtain ⟨k1, k2, k3⟩ := hk1 hG (by omega)
    obtain ⟨z1, z2, z3⟩ := pz_pT (e := p (K - 1)) (by omega)
    refine Or.inr ⟨hY y1 y2 y3 hw (pz_Zpop hZ hK ?_ z1 z2 hlt), hc1, k1, k2, k3⟩
    rw [pz_sP (v := pz_vt) hK]; exact z3 _ _ p2
def pz_R (p f : Int → Int) (t0 w K o l sl b n least op : Int) : Prop := ((least < 4 ∧ op = 41) → pz_Y p f t0 w K o l sl b n 0 1) ∧ (¬ (least < 4 ∧ op = 41) → pz_Y p f t0 w K o l sl b n 1 0)
theorem pz_Wend {t0 w K o l sl b n least op : Int} (h : pz_W p f t0 w K o l sl b n least) (h1 : 1 ≤ least) (hK : K ≤ 0 ∨ pz_rk (p (K - 1)) < least) (ho : pz_op p K = op) : pz_R p f t0 w K o l sl b n least op := by
  subst ho
  rcases h with ⟨hZ, hc⟩ | ⟨hZ, hc1, hc2, hc3, hc4⟩
  · refine ⟨fun hq => ?_, fun _ => hZ⟩
    exfalso
    have hP := pz_opP (p := p) (k := K)
    have hK0 : 0 < K := by omega
    have hrk := pz_rkE (p (K - 1))
    have hcS := pz_cmS (p := p) hK0
    omega
  · exact ⟨fun _ => hZ, fun hq => absurd ⟨hc1, hc2⟩ hq⟩
theorem pz_R0 {t0 w K o l sl b n least op : Int} (h : pz_R p f t0 w K o l sl b n least op) (hq : least < 4 ∧ op = 41) : pz_Y p f t0 w K o l sl b n 0 1 := h.1 hq
theorem pz_R1 {t0 w K o l sl b n least op : Int} (h : pz_R p f t0 w K o l sl b n least op) (hq : ¬ (least < 4 ∧ op = 41)) : pz_Y p f t0 w K o l sl b n 1 0 := h.2 hq
/-- a number, a name, a letter's value -/
theorem pz_Zval {t0 w K o l q v : Int} (h : pz_Z p f t0 w K o l 0 0) (hq : q = 0 ∨ (q = 1 ∧ 0 ≤ v ∧ v < 11) ∨ (q = 31 ∧ 0 ≤ v ∧ v < 80)) : pz_Z p (pz_em f (t0 + 97 + 2 * w) q v) t0 (w + 1) K o l 1 0 := by
  obtain ⟨h0, h1, h2, h3, h4⟩ := h
  have hdn := wk_dnE q
  have hdt := wk_dtE q
  obtain ⟨g1, g2, g3, g4⟩ := pz_Ze (o := q) (v := v) h1 h2 h3 h4 (by unfold wk_sf; omega)
  rw [show pz_s pz_vn p K + 0 + wk_dn q = pz_s pz_vn p K + 1 by omega, show pz_s pz_vt p K + 0 + wk_dt q = pz_s pz_vt p K + 0 by omega] at g4
  exact ⟨h0, g1, g2, g3, g4⟩
/-- onto the pile: what waits takes what is whole; what opens takes nothing -/
theorem pz_Zu {t0 w K o l v u e : Int} (h : pz_Z p f t0 w K o l v u) (e1 : p' K = e) (e2 : ∀ j, j ≠ K → p' j = p j) (ha : pz_adj (pz_l p K) e) (hv : pz_vn e = v) (hu : pz_vt e = u) : pz_Z p' f t0 w (K + 1) (o + pz_vo e) (l + pz_vl e) 0 0 := by
  obtain ⟨h0, h1, h2, h3, h4⟩ := h
  refine ⟨pz_Gu h0 e1 e2 ha, h1, h2, h3, ?_⟩
  rw [pz_sS h0.1, pz_sS h0.1, pz_sc (fun j a b => e2 j (by omega)), pz_sc (fun j a b => e2 j (by omega)), e1, hv, hu, Int.add_zero, Int.add_zero]
  exact h4
/-- off the pile: what is open is shut, by a code of its own or none -/
theorem pz_Zs {t0 w K o l : Int} (h : pz_Z p f t0 w K o l 1 0) (hK : 0 < K) (he : p (K - 1) = 40 ∨ p (K - 1) = 45) : pz_Z p f t0 w (K - 1) (o - 1) (l - pz_vl (p (K - 1))) 1 0 := by
  obtain ⟨h0, h1, h2, h3, h4⟩ := h
  have hG := pz_Gp h0 hK
  have hv1 := (pz_vE (p (K - 1))).1
  have hn := pz_vnE (p (K - 1))
  have ht := pz_vtE (p (K - 1))
  rw [show o - pz_vo (p (K - 1)) = o - 1 by omega] at hG
  rw [pz_sP (v := pz_vn) hK, pz_sP (v := pz_vt) hK, show pz_vn (p (K - 1)) = 0 by omega, show pz_vt (p (K - 1)) = 0 by omega, Int.add_zero, Int.add_zero] at h4
  exact ⟨hG, h1, h2, h3, h4⟩
theorem pz_Zs43 {t0 w K o l : Int} (h : pz_Z p f t0 w K o l 1 0) (hK : 0 < K) (he : p (K - 1) = 43) : pz_Z p (pz_em f (t0 + 97 + 2 * w) 2 0) t0 (w + 1) (K - 1) (o - 1) l 1 0 := by
  obtain ⟨h0, h1, h2, h3, h4⟩ := h
  have hG := pz_Gp h0 hK
  have hv1 := pz_vE (p (K - 1))
  have hn := pz_vnE (p (K - 1))
  have ht := pz_vtE (p (K - 1))
  have p1 := pz_sN (p := p) pz_vn0 (K := K - 1)
  have p2 := pz_sN (p := p) pz_vt0 (K := K - 1)
  rw [show o - pz_vo (p (K - 1)) = o - 1 by omega, show l - pz_vl (p (K - 1)) = l by omega] at hG
  have en := pz_sP (p := p) (v := pz_vn) hK
  have et := pz_sP (p := p) (v := pz_vt) hK
  obtain ⟨g1, g2, g3, g4⟩ := pz_Ze (o := 2) (v := 0) h1 h2 h3 h4 (by unfold wk_sf; omega)
  have d1 : wk_dn 2 = -1 := by decide
  have d2 : wk_dt 2 = -1 := by decide
  rw [show pz_s pz_vn p K + 1 + wk_dn 2 = pz_s pz_vn p (K - 1) + 1 by omega, show pz_s pz_vt p K + 0 + wk_dt 2 = pz_s pz_vt p (K - 1) + 0 by omega] at g4
  exact ⟨hG, g1, g2, g3, g4⟩
/-- the next part of what is open -/
theorem pz_Zr {t0 w K o l v u e : Int} (h : pz_Z p f t0 w K o l v u) (hK : 0 < K) (e1 : p' (K - 1) = e) (e2 : ∀ j, j ≠ K - 1 → p' j = p j) (he : 40 ≤ p (K - 1)) (hq : (p (K - 1) = 41 ∧ e = 42 ∧ v = 0 ∧ u = 1) ∨ (p (K - 1) = 42 ∧ e = 43 ∧ v = 1 ∧ u = 0)) : pz_Z p' f t0 w K o l 0 0 := by
  obtain ⟨h0, h1, h2, h3, h4⟩ := h
  have hG := pz_Gp h0 hK
  have hA : pz_adj (pz_l p (K - 1)) e := by unfold pz_adj; omega
  have hG2 := pz_Gu hG e1 e2 hA
  have v1 := pz_vE (p (K - 1))
  have v2 := pz_vE e
  rw [show K - 1 + 1 = K by omega, show o - pz_vo (p (K - 1)) + pz_vo e = o by omega, show l - pz_vl (p (K - 1)) + pz_vl e = l by omega] at hG2
  have n1 := pz_vnE (p (K - 1))
  have n2 := pz_vnE e
  have t1 := pz_vtE (p (K - 1))
  have t2 := pz_vtE e
  have sn := pz_sP (p := p) (v := pz_vn) hK
  have st := pz_sP (p := p) (v := pz_vt) hK
  have sn' := pz_sP (p := p') (v := pz_vn) hK
  have st' := pz_sP (p := p') (v := pz_vt) hK
  have c1 : pz_s pz_vn p' (K - 1) = pz_s pz_vn p (K - 1) := pz_sc (fun j a b => e2 j (by omega))
  have c2 : pz_s pz_vt p' (K - 1) = pz_s pz_vt p (K - 1) := pz_sc (fun j a b => e2 j (by omega))
  rw [c1, e1] at sn'
  rw [c2, e1] at st'
  refine ⟨hG2, h1, h2, h3, ?_⟩
  rw [show pz_s pz_vn p' K + 0 = pz_s pz_vn p K + v by omega, show pz_s pz_vt p' K + 0 = pz_s pz_vt p K + u by omega]
  exact h4
/-- a let's letter is bound -/
theorem pz_Zb {t0 w K o l v e : Int} (h : pz_Z p f t0 w K o l 1 0) (hK : 0 < K) (e1 : p' (K - 1) = e) (e2 : ∀ j, j ≠ K - 1 → p' j = p j) (he : p (K - 1) = 44) (hq : e = 45) (hv : 0 ≤ v ∧ v < 80) : pz_Z p' (pz_em f (t0 + 97 + 2 * w) 30 v) t0 (w + 1) K o l 0 0 := by
  obtain ⟨h0, h1, h2, h3, h4⟩ := h
  have hG := pz_Gp h0 hK
  have hA : pz_adj (pz_l p (K - 1)) e := by unfold pz_adj; omega
  have hG2 := pz_Gu hG e1 e2 hA
  have v1 := pz_vE (p (K - 1))
  have v2 := pz_vE e
  rw [show K - 1 + 1 = K by omega, show o - pz_vo (p (K - 1)) + pz_vo e = o by omega, show l - pz_vl (p (K - 1)) + pz_vl e = l by omega] at hG2
  have n1 := pz_vnE (p (K - 1))
  have n2 := pz_vnE e
  have t1 := pz_vtE (p (K - 1))
  have t2 := pz_vtE e
  have sn := pz_sP (p := p) (v := pz_vn) hK
  have st := pz_sP (p := p) (v := pz_vt) hK
  have sn' := pz_sP (p := p') (v := pz_vn) hK
  have st' := pz_sP (p := p') (v := pz_vt) hK
  have p1 := pz_sN (p := p) pz_vn0 (K := K)
  have c1 : pz_s pz_vn p' (K - 1) = pz_s pz_vn p (K - 1) := pz_sc (fun j a b => e2 j (by omega))
  have c2 : pz_s pz_vt p' (K - 1) = pz_s pz_vt p (K - 1) := pz_sc (fun j a b => e2 j (by omega))
  rw [c1, e1] at sn'
  rw [c2, e1] at st'
  obtain ⟨g1, g2, g3, g4⟩ := pz_Ze (o := 30) (v := v) h1 h2 h3 h4 (by unfold wk_sf; omega)
  have d1 : wk_dn 30 = -1 := by decide
  have d2 : wk_dt 30 = 0 := by decide
  rw [show pz_s pz_vn p K + 1 + wk_dn 30 = pz_s pz_vn p' K + 0 by omega, show pz_s pz_vt p K + 0 + wk_dt 30 = pz_s pz_vt p' K + 0 by omega] at g4
  exact ⟨hG2, g1, g2, g3, g4⟩
theorem pz_Yn {t0 w K o l sl b n v u : Int} (h : pz_Y p f t0 w K o l sl b n v u) : 0 ≤ K ∧ K ≤ 6 * o + 5 ∧ 0 ≤ o ∧ 0 ≤ l ∧ l ≤ o ∧ 0 ≤ w ∧ w + K ≤ b ∧ 4 * sl + 3 * pz_4 p K ≤ b ∧ 0 ≤ pz_4 p K ∧ f t0 = n ∧ 0 ≤ n ∧ n < 24 ∧ (t0 = 0 ∨ t0 = 705 ∨ t0 = 1410 ∨ t0 = 2115) := by
  have a := pz_K h.1.1
  have b1 := pz_Yw h
  have c := pz_sN (p := p) pz_v40 (K := K)
  have d : pz_4 p K = pz_s pz_v4 p K := rfl
  obtain ⟨h1, h2, h3, h4⟩ := h
  have e1 := h1.2.1
  have e2 := h1.2.2.2.1.2.2.1
  have e3 := h1.2.2.2.1.1
  omega
theorem pz_YE {t0 w K o l sl b n v u : Int} (h : pz_Y p f t0 w K o l sl b n v u) : wk_E f t0 w := wk_E_c h.1.2.2.2.1 h.1.2.2.2.2.1 (fun _ _ _ => rfl)
theorem pz_Wn {t0 w K o l sl b n q : Int} (h : pz_W p f t0 w K o l sl b n q) : 0 ≤ K ∧ K ≤ 6 * o + 5 ∧ 0 ≤ o ∧ 0 ≤ l ∧ l ≤ o ∧ 0 ≤ w ∧ w + K ≤ b ∧ 4 * sl + 3 * pz_4 p K ≤ b ∧ 0 ≤ pz_4 p K ∧ f t0 = n ∧ 0 ≤ n ∧ n < 24 ∧ (t0 = 0 ∨ t0 = 705 ∨ t0 = 1410 ∨ t0 = 2115) := by
  rcases h with ⟨h, _⟩ | ⟨h, _⟩ <;> exact pz_Yn h
theorem pz_WE {t0 w K o l sl b n q : Int} (h : pz_W p f t0 w K o l sl b n q) : wk_E f t0 w := by
  rcases h with ⟨h, _⟩ | ⟨h, _⟩ <;> exact pz_YE h
theorem pz_WV {t0 w K o l sl b n q : Int} (h : pz_W p f t0 w K o l sl b n q) (hK : 0 < K) : pz_vo (p (K - 1)) ≤ o := by
  have hG : pz_G p K o l := by rcases h with ⟨h, _⟩ | ⟨h, _⟩ <;> exact h.1.1
  have hs := pz_sP (p := p) (v := pz_vo) hK
  have c := pz_sN (p := p) pz_vo0 (K := K - 1)
  have := hG.2.2.1
  omega
theorem pz_cg {p p' f f' : Int → Int} {t0 w K o l sl b n v u t0' w' K' o' l' sl' b' n' v' u' : Int} (hp : p' = p) (hf : f' = f) (h : pz_Y p f t0 w K o l sl b n v u) (h1 : t0' = t0) (h2 : w' = w) (h3 : K' = K) (h4 : o' = o) (h5 : l' = l) (h6 : sl' = sl) (h7 : b ≤ b') (h8 : n' = n) (h9 : v' = v) (h10 : u' = u) : pz_Y p' f' t0' w' K' o' l' sl' b' n' v' u' := by
  subst hp hf h1 h2 h3 h4 h5 h6 h8 h9 h10
  exact ⟨h.1, by have := h.2.1; omega, by have := h.2.2.1; omega, h.2.2.2⟩
theorem pz_cW {p p' f f' : Int → Int} {t0 w K o l sl b n q t0' w' K' o' l' sl' b' n' q' : Int} (hp : p' = p) (hf : f' = f) (h : pz_W p f t0 w K o l sl b n q) (h1 : t0' = t0) (h2 : w' = w) (h3 : K' = K) (h4 : o' = o) (h5 : l' = l) (h6 : sl' = sl) (h7 : b' = b) (h8 : n' = n) (h9 : q' = q) : pz_W p' f' t0' w' K' o' l' sl' b' n' q' := by
  subst hp hf h1 h2 h3 h4 h5 h6 h7 h8 h9
  exact h
theorem pz_Ym {t0 w K o l sl b n v u : Int} (h : pz_Y p f t0 w K o l sl b n v u) : pz_Y p f t0 w K o l sl b (f t0) v u := ⟨h.1, h.2.1, h.2.2.1, rfl⟩
theorem pz_Yk {t0 w K o l sl b n v u n' : Int} (h : pz_Y p f t0 w K o l sl b n v u) (e : n' = n) : pz_Y p f t0 w K o l sl b n' v u := by
  subst e
  exact h
theorem pz_Wi {t0 w K o l sl b n least : Int} (h : pz_Y p f t0 w K o l sl b n 1 0) (hc : 5 ≤ least ∨ (least = 4 ∧ pz_cm p K ≠ 1) ∨ (least < 4 ∧ (pz_cm p K = 1 ∨ pz_op p K ≠ 41))) : pz_W p f t0 w K o l sl b n least := Or.inl ⟨h, hc⟩
def pz_H (f : Int → Int) (t0 n : Int) : Prop := f t0 = n ∧ 0 ≤ n ∧ n < 24 ∧ wk_E f t0 (pz_st f t0)
theorem pz_YH {t0 w K o l sl b n v u : Int} (h : pz_Y p f t0 w K o l sl b n v u) : pz_H f t0 n := by
  have := pz_Yn h
  exact ⟨h.2.2.2, by omega, by omega, h.1.2.2.2.1⟩
theorem pz_Hn {t0 n : Int} (h : pz_H f t0 n) : f t0 = n ∧ 0 ≤ n ∧ n < 24 ∧ (t0 = 0 ∨ t0 = 705 ∨ t0 = 1410 ∨ t0 = 2115) := ⟨h.1, h.2.1, h.2.2.1, h.2.2.2.1⟩
theorem pz_cH {t0 n t0' n' : Int} (hf : f' = f) (h : pz_H f t0 n) (h1 : t0' = t0) (h2 : n' = n) : pz_H f' t0' n' := by
  subst hf h1 h2
  exact h
theorem pz_Yval {t0 w K o l sl b n q v : Int} (h : pz_Y p f t0 w K o l sl b n 0 0) (hq : q = 0 ∨ (q = 1 ∧ 0 ≤ v ∧ v < 11) ∨ (q = 31 ∧ 0 ≤ v ∧ v < 80)) : pz_Y p (pz_em f (t0 + 97 + 2 * w) q v) t0 (w + 1) K o l sl (b + 1) n 1 0 :=
  ⟨pz_Zval h.1 hq, by have := h.2.1; omega, by have := h.2.2.1; omega, (pz_emt (pz_Yw h)).trans h.2.2.2⟩
theorem pz_4c {K : Int} (e2 : ∀ j, j ≠ K → p' j = p j) (h : 0 ≤ K) {e : Int} (e1 : p' K = e) : pz_4 p' (K + 1) = pz_4 p K + pz_v4 e := by
  show pz_s pz_v4 p' (K + 1) = pz_s pz_v4 p K + pz_v4 e
  rw [pz_sS h, pz_sc (fun j a b => e2 j (by omega)), e1]
theorem pz_Yu {t0 w K o l sl b n v u e b' : Int} (h : pz_Y p f t0 w K o l sl b n v u) (e1 : p' K = e) (e2 : ∀ j, j ≠ K → p' j = p j) (ha : pz_adj (pz_l p K) e) (hv : pz_vn e = v) (hu : pz_vt e = u) (hb : b + 1 + 2 * pz_v4 e ≤ b') : pz_Y p' f t0 w (K + 1) (o + pz_vo e) (l + pz_vl e) sl b' n 0 0 := by
  have h4 := pz_4c e2 h.1.1.1 e1
  have hv4 := (pz_vE e).2.2
  refine ⟨pz_Zu h.1 e1 e2 ha hv hu, ?_, ?_, h.2.2.2⟩
  · have := h.2.1; omega
  · have := h.2.2.1; omega
theorem pz_4P {K : Int} (h : 0 < K) : pz_4 p K = pz_4 p (K - 1) + pz_v4 (p (K - 1)) := pz_sP h
theorem pz_Ys {t0 w K o l sl b n : Int} (h : pz_Y p f t0 w K o l sl b n 1 0) (hK : 0 < K) (he : p (K - 1) = 40 ∨ p (K - 1) = 45) : pz_Y p f t0 w (K - 1) (o - 1) (l - pz_vl (p (K - 1))) sl b n 1 0 := by
  have h4 := pz_4P (p := p) hK
  have hv4 := (pz_vE (p (K - 1))).2.2
  refine ⟨pz_Zs h.1 hK he, ?_, ?_, h.2.2.2⟩
  · have := h.2.1; omega
  · have := h.2.2.1; omega
theorem pz_Ys43 {t0 w K o l sl b n : Int} (h : pz_Y p f t0 w K o l sl b n 1 0) (hK : 0 < K) (he : p (K - 1) = 43) : pz_Y p (pz_em f (t0 + 97 + 2 * w) 2 0) t0 (w + 1) (K - 1) (o - 1) l sl b n 1 0 := by
  have h4 := pz_4P (p := p) hK
  have hv4 := (pz_vE (p (K - 1))).2.2
  refine ⟨pz_Zs43 h.1 hK he, ?_, ?_, (pz_emt (pz_Yw h)).trans h.2.2.2⟩
  · have := h.2.1; omega
  · have := h.2.2.1; omega
theorem pz_4r {K e : Int} (hK : 0 < K) (e1 : p' (K - 1) = e) (e2 : ∀ j, j ≠ K - 1 → p' j = p j) : pz_4 p' K = pz_4 p (K - 1) + pz_v4 e := by
  rw [pz_4P hK, e1]
  show pz_s pz_v4 p' (K - 1) + _ = pz_s pz_v4 p (K - 1) + _
  rw [pz_sc (fun j a b => e2 j (by omega))]
theorem pz_Yr {t0 w K o l sl b n v u e : Int} (h : pz_Y p f t0 w K o l sl b n v u) (hK : 0 < K) (e1 : p' (K - 1) = e) (e2 : ∀ j, j ≠ K - 1 → p' j = p j) (he : 40 ≤ p (K - 1)) (hq : (p (K - 1) = 41 ∧ e = 42 ∧ v = 0 ∧ u = 1) ∨ (p (K - 1) = 42 ∧ e = 43 ∧ v = 1 ∧ u = 0)) : pz_Y p' f t0 w K o l sl b n 0 0 := by
  have h4 := pz_4P (p := p) hK
  have h4' := pz_4r hK e1 e2
  have v1 := (pz_vE (p (K - 1))).2.2
  have v2 := (pz_vE e).2.2
  refine ⟨pz_Zr h.1 hK e1 e2 he hq, h.2.1, ?_, h.2.2.2⟩
  have := h.2.2.1
  omega
def pz_B (p' f : Int → Int) (t0 w K o l sl b n : Int) : Prop := 0 < K ∧ ∃ p : Int → Int, pz_Y p f t0 w K o l sl b n 1 0 ∧ p (K - 1) = 44 ∧ p' (K - 1) = 45 ∧ ∀ j, j ≠ K - 1 → p' j = p j
theorem pz_Bi {t0 w K o l sl b n e i : Int} (h : pz_Y p f t0 w K o l sl b n 1 0) (hK : 0 < K) (hi : i = K - 1) (e1 : p' i = e) (e2 : ∀ j, j ≠ i → p' j = p j) (he : p (K - 1) = 44) (hq : e = 45) : pz_B p' f t0 w K o l sl b n := by
  subst hi
  exact ⟨hK, p, h, he, by rw [e1, hq], e2⟩
theorem pz_cB {p p' f f' : Int → Int} {t0 w K o l sl b n t0' w' K' o' l' sl' b' n' : Int} (hp : p' = p) (hf : f' = f) (h : pz_B p f t0 w K o l sl b n) (h1 : t0' = t0) (h2 : w' = w) (h3 : K' = K) (h4 : o' = o) (h5 : l' = l) (h6 : sl' = sl) (h7 : b' = b) (h8 : n' = n) : pz_B p' f' t0' w' K' o' l' sl' b' n' := by
  subst hp hf h1 h2 h3 h4 h5 h6 h7 h8
  exact h
theorem pz_Bn {t0 w K o l sl b n : Int} (h : pz_B p' f t0 w K o l sl b n) : 1 ≤ l ∧ l ≤ o ∧ 0 < K ∧ K ≤ 6 * o + 5 ∧ 0 ≤ w ∧ w + K ≤ b ∧ 4 * sl + 3 ≤ b ∧ f t0 = n ∧ 0 ≤ n ∧ n < 24 ∧ (t0 = 0 ∨ t0 = 705 ∨ t0 = 1410 ∨ t0 = 2115) := by
  obtain ⟨hK, p, h, he, e1, e2⟩ := h
  have hn := pz_Yn h
  have h4 := pz_4P (p := p) hK
  have v1 := pz_vE (p (K - 1))
  have hl := pz_sP (p := p) (v := pz_vl) hK
  have c := pz_sN (p := p) pz_vl0 (K := K - 1)
  have c4 := pz_sN (p := p) pz_v40 (K := K - 1)
  have d : pz_4 p (K - 1) = pz_s pz_v4 p (K - 1) := rfl
  have := h.1.1.2.2.2
  omega
theorem pz_BE {t0 w K o l sl b n : Int} (h : pz_B p' f t0 w K o l sl b n) : wk_E f t0 w := by
  obtain ⟨hK, p, h, he, e1, e2⟩ := h
  exact pz_YE h
theorem pz_Bb {t0 w K o l sl b n v : Int} (h : pz_B p' f t0 w K o l sl b n) (hv : 0 ≤ v ∧ v < 80) : pz_Y p' (pz_em f (t0 + 97 + 2 * w) 30 v) t0 (w + 1) K o l (sl + 1) (b + 1) n 0 0 := by
  obtain ⟨hK, p, h, he, e1, e2⟩ := h
  have h4 := pz_4P (p := p) hK
  have h4' := pz_4r hK e1 e2
  have v1 := (pz_vE (p (K - 1))).2.2
  have v2 : pz_v4 45 = 0 := by decide
  refine ⟨pz_Zb h.1 hK e1 e2 he rfl hv, ?_, ?_, (pz_emt (pz_Yw h)).trans h.2.2.2⟩
  · have := h.2.1; omega
  · have := h.2.2.1; omega
/-- the start of a clause's sum -/
theorem pz_Z0 {I : Nat → Int → Int} {t0 w x : Int} (hE : wk_E (I 98) t0 w) (hn : I 98 t0 < 24) (hw : 0 ≤ w) (hx : x = t0 + 1 + 4 * I 98 t0) (p : Int → Int) : pz_Z p (lf_up I 98 (x + 1) w 98) t0 w 0 0 0 0 0 := by
  have e0 : lf_up I 98 (x + 1) w 98 t0 = I 98 t0 := lf_up_i (by have := hE.2.2.1; omega)
  have es : pz_st (lf_up I 98 (x + 1) w 98) t0 = w := by
    unfold pz_st
    rw [e0, hx, lf_up_s]
  refine ⟨⟨Int.le_refl 0, fun j a b => by omega, rfl, rfl⟩, by rw [e0]; exact hn, by rw [es]; exact hw, ?_, ?_⟩
  · rw [es]
    obtain ⟨q0, q1, q2, q3⟩ := hE
    refine ⟨q0, by rw [e0]; exact q1, by rw [e0]; exact q2, fun k k0 k1 a0 a1 => ?_⟩
    rw [e0] at k1
    rw [lf_up_i (by omega)] at a0 a1
    rw [lf_up_i (by omega)]
    exact q3 k k0 k1 a0 a1
  · rw [es]
    refine ⟨Int.le_refl _, fun j hj => ?_, wkN_0, wkT_0⟩
    rw [show w - w = (0 : Int) by omega] at hj
    exact absurd hj (Nat.not_lt_zero _)
/-- a clause's sum is done -/
theorem pz_Y0 {I : Nat → Int → Int} {t0 w x b : Int} (hE : wk_E (I 98) t0 w) (hn : I 98 t0 < 24) (hw : 0 ≤ w ∧ w ≤ b) (hx : x = t0 + 1 + 4 * I 98 t0) (p : Int → Int) : pz_Y p (lf_up I 98 (x + 1) w 98) t0 w 0 0 0 0 b (lf_up I 98 (x + 1) w 98 t0) 0 0 :=
  ⟨pz_Z0 hE hn hw.1 hx p, by omega, by show 4 * 0 + 3 * pz_4 p 0 ≤ b; have : pz_4 p 0 = 0 := rfl; omega, rfl⟩
theorem pz_Zd {I : Nat → Int → Int} {t0 w K o l x : Int} (h : pz_Z p (I 98) t0 w K o l 1 0) (hw : w ≤ 304) (hx : x = t0 + 1 + 4 * I 98 t0) : wk_O (lf_up I 98 (x + 2) w 98) x (t0 + 97) := by
  obtain ⟨h0, h1, h2, h3, h4⟩ := h
  have hn := h3.2.2.1
  have e1 : lf_up I 98 (x + 2) w 98 (x + 1) = pz_st (I 98) t0 := by
    rw [lf_up_i (by omega), hx]
    rfl
  have e2 : lf_up I 98 (x + 2) w 98 (x + 2) = w := lf_up_s
  refine ⟨by rw [e1]; exact h2, by rw [e1, e2]; exact h4.1, by rw [e2]; exact hw, ?_⟩
  rw [e1, e2]
  exact wk_okc h4.2.1 (fun j hj => ⟨lf_up_i (by omega), lf_up_i (by omega)⟩)
theorem wk_Ex {I : Nat → Int → Int} {t0 w j v : Int} (hE : wk_E (I 98) t0 w) (hj : t0 + 1 + 4 * I 98 t0 ≤ j) : wk_E (lf_up I 98 j v 98) t0 w := by
  obtain ⟨q0, q1, q2, q3⟩ := hE
  have e0 : lf_up I 98 j v 98 t0 = I 98 t0 := lf_up_i (by omega)
  refine ⟨q0, by rw [e0]; exact q1, by rw [e0]; exact q2, fun k k0 k1 a0 a1 => ?_⟩
  rw [e0] at k1
  rw [lf_up_i (by omega)] at a0 a1
  rw [lf_up_i (by omega)]
  exact q3 k k0 k1 a0 a1
theorem wk_En {I : Nat → Int → Int} {t0 w w' : Int} (hE : wk_E (I 98) t0 w) (hn : I 98 t0 < 24) (hw : w ≤ w') (hc : 0 ≤ I 98 (t0 + 1 + 4 * I 98 t0) → I 98 (t0 + 1 + 4 * I 98 t0) ≤ 2 → I 98 (t0 + 1 + 4 * I 98 t0 + 2) ≤ w') : wk_E (lf_up I 98 t0 (I 98 t0 + 1) 98) t0 w' := by
  obtain ⟨q0, q1, q2, q3⟩ := hE
  refine ⟨q0, by rw [lf_up_s]; omega, by rw [lf_up_s]; omega, fun k k0 k1 a0 a1 => ?_⟩
  rw [lf_up_s] at k1
  rw [lf_up_i (by omega)] at a0 a1
  rw [lf_up_i (by omega)]
  by_cases hk : k = I 98 t0
  · rw [hk] at a0 a1 ⊢
    exact hc a0 a1
  · have := q3 k k0 (by omega) a0 a1
    omega
theorem wk_Ez {I : Nat → Int → Int} {t0 : Int} (q0 : t0 = 0 ∨ t0 = 705 ∨ t0 = 1410 ∨ t0 = 2115) : wk_E (lf_up I 98 t0 0 98) t0 0 := ⟨q0, by rw [lf_up_s]; decide, by rw [lf_up_s]; decide, fun k k0 k1 => by rw [lf_up_s] at k1; omega⟩
theorem wk_cE {t0 w t0' w' : Int} (hf : f' = f) (h : wk_E f t0 w) (h1 : t0' = t0) (h2 : w' = w) : wk_E f' t0' w' := by
  subst hf h1 h2
  exact h
theorem wk_hr {I : Nat → Int → Int} {P : Nat → Option Nat} (h : iv_A I P) : ∀ t : Int, 0 ≤ t → t < 4 → I 98 (705 * t) ≤ 24 := by
  intro t h0 h1
  have e : (iv_x (705 * t)).2 ≤ 24 := by
    have : t = 0 ∨ t = 1 ∨ t = 2 ∨ t = 3 := by omega
    rcases this with rfl | rfl | rfl | rfl <;> decide
  exact Int.le_trans (h.1 98 (705 * t)).2 e
theorem wk_TA {I : Nat → Int → Int} {P : Nat → Option Nat} (h : iv_A I P) : wk_T (I 98) := h.2.2.1.2.2.2.2
theorem pz_Yd {I : Nat → Int → Int} {t0 w K o l sl b n x : Int} (h : pz_Y p (I 98) t0 w K o l sl b n 1 0) (hw : w ≤ 304) (hx : x = t0 + 1 + 4 * I 98 t0) : wk_O (lf_up I 98 (x + 2) w 98) x (t0 + 97) := pz_Zd h.1 hw hx
theorem pz_oqA (p : Int → Int) (k : Int) : (k < 0 → pz_oq p k = -1) ∧ (0 ≤ k → (40 ≤ p k → pz_oq p k = p k) ∧ (p k < 40 → pz_oq p k = pz_oq p (k + -1))) := ⟨pz_oq0, pz_oqS⟩
theorem pz_cqA (p : Int → Int) (k : Int) : (k < 0 → pz_cq p k = 0) ∧ (0 ≤ k → (p k < 10 → pz_cq p k = pz_cq p (k + -1)) ∧ (10 ≤ p k ∧ p k < 40 ∧ p k ≠ 20 ∧ p k ≠ 21 ∧ p k ≠ 22 → pz_cq p k = 1) ∧ (40 ≤ p k ∨ p k = 20 ∨ p k = 21 ∨ p k = 22 → pz_cq p k = 0)) := ⟨pz_cq0, pz_cqS⟩
theorem iv_w98c {I : Nat → Int → Int} {P : Nat → Option Nat} {i v t0 : Int} (h : iv_A I P) (e0 : t0 = 0 ∨ t0 = 705 ∨ t0 = 1410 ∨ t0 = 2115) (hi : t0 < i ∧ i < t0 + 705) (hv : -2147483648 ≤ v ∧ v ≤ 2147483647) (hk : wk_T (lf_up I 98 i v 98)) : iv_A (lf_up I 98 i v) P := by
  refine iv_wd98 h (lf_le2 ?_ hv) hk
  unfold iv_x
  repeat' refine iv_itW (fun h => ?_) (fun h => ?_)
  all_goals first | exact ⟨by decide, by decide⟩ | (exfalso; omega)
theorem iv_w98z {I : Nat → Int → Int} {P : Nat → Option Nat} {v t0 : Int} (h : iv_A I P) (e0 : t0 = 0 ∨ t0 = 705 ∨ t0 = 1410 ∨ t0 = 2115) (hv : 0 ≤ v ∧ v ≤ 24) (hk : wk_T (lf_up I 98 t0 v 98)) : iv_A (lf_up I 98 t0 v) P := by
  refine iv_wd98 h (lf_le2 ?_ hv) hk
  rcases e0 with rfl | rfl | rfl | rfl <;> decide
theorem lf_eqx {p : Int → Int} {a b : Int} : a ≠ b ∨ p a = p b := by
  by_cases h : a = b
  · exact Or.inr (by rw [h])
  · exact Or.inl h
theorem lf_c2 {p p' : Int → Int} {i i' : Int} (F : (Int → Int) → Int → Int) (hp : p' = p) (hi : i' = i) : F p' i' = F p i := by rw [hp, hi]
theorem lf_ap {p p' : Int → Int} {i i' : Int} (hp : p' = p) (hi : i' = i) : p' i' = p i := by rw [hp, hi]
theorem pz_adjo {K e : Int} (h : e = 40 ∨ e = 3 ∨ e = 41 ∨ e = 44 ∨ (e = 20 ∧ 0 < K ∧ (p (K - 1) = 41 ∨ (20 ≤ p (K - 1) ∧ p (K - 1) ≤ 22)))) : pz_adj (pz_l p K) e := by
  have hl : 0 < K → pz_l p K = p (K - 1) := pz_lP
  unfold pz_adj
  omega
theorem pz_vn0o {e : Int} {P : Prop} (h : e = 40 ∨ e = 3 ∨ e = 41 ∨ e = 44 ∨ (e = 20 ∧ P)) : pz_vn e = 0 := by
  rcases h with rfl | rfl | rfl | rfl | ⟨rfl, _⟩ <;> decide
theorem pz_vt0o {e : Int} {P : Prop} (h : e = 40 ∨ e = 3 ∨ e = 41 ∨ e = 44 ∨ (e = 20 ∧ P)) : pz_vt e = 0 := by
  rcases h with rfl | rfl | rfl | rfl | ⟨rfl, _⟩ <;> decide
theorem pz_Yo {t0 w K o l sl b n v u : Int} (h : pz_Y p f t0 w K o l sl b n v u) (hK : 0 < K) (he : 40 ≤ p (K - 1)) : 1 ≤ o := by
  have hs := pz_sP (p := p) (v := pz_vo) hK
  have c := pz_sN (p := p) pz_vo0 (K := K - 1)
  have d := (pz_vE (p (K - 1))).1
  have := h.1.1.2.2.1
  omega
theorem pz_Yl {t0 w K o l sl b n v u : Int} (h : pz_Y p f t0 w K o l sl b n v u) (hK : 0 < K) : pz_vl (p (K - 1)) ≤ l := by
  have hs := pz_sP (p := p) (v := pz_vl) hK
  have c := pz_sN (p := p) pz_vl0 (K := K - 1)
  have := h.1.1.2.2.2
  omega
theorem pz_Rt {t0 w K o l sl b n least op : Int} (h : pz_R p f t0 w K o l sl b n least op) : f t0 = n := by
  by_cases hq : least < 4 ∧ op = 41
  · exact (h.1 hq).2.2.2
  · exact (h.2 hq).2.2.2
theorem pz_RG {t0 w K o l sl b n least op : Int} (h : pz_R p f t0 w K o l sl b n least op) : pz_G p K o l := by
  by_cases hq : least < 4 ∧ op = 41
  · exact (h.1 hq).1.1
  · exact (h.2 hq).1.1
theorem pz_Yp {t0 w K o l sl b n least op e : Int} (h : pz_R p f t0 w K o l sl b n least op) (e1 : p' K = e) (e2 : ∀ j, j ≠ K → p' j = p j) (ho : pz_op p K = op) (ht : K ≤ 0 ∨ pz_rk (p (K - 1)) < least) (he : (4 ≤ e ∧ e ≤ 7 ∧ least = pz_rk e) ∨ (10 ≤ e ∧ e ≤ 15 ∧ least = pz_rk e ∧ op = 41) ∨ ((e = 21 ∨ e = 22) ∧ least = pz_rk e ∧ op = 41)) : pz_Y p' f t0 w (K + 1) o l sl (b + 1) n 0 0 := by
  have hG := pz_RG h
  have hK0 := hG.1
  have hr := pz_rkE e
  have hvE := pz_vE e
  have hvn := pz_vnE e
  have hvt := pz_vtE e
  have ha : pz_adj (pz_l p K) e := by
    by_cases hK : K ≤ 0
    · have e0 := pz_op0 (p := p) hK
      rw [show K = 0 by omega, pz_l0]
      unfold pz_adj
      omega
    · have hK' : 0 < K := by omega
      rw [pz_lP hK']
      have hA := (pz_GA hG (j := K - 1) (by omega) (by omega)).2.2.2.2.2
      have hr2 := pz_rkE (p (K - 1))
      have hoS := pz_opS (p := p) hK'
      unfold pz_adj
      omega
  by_cases hq : least < 4 ∧ op = 41
  · have := pz_Yu (b' := b + 1) (h.1 hq) e1 e2 ha (by omega) (by omega) (by omega)
    rw [show o + pz_vo e = o by omega, show l + pz_vl e = l by omega] at this
    exact this
  · have := pz_Yu (b' := b + 1) (h.2 hq) e1 e2 ha (by omega) (by omega) (by omega)
    rw [show o + pz_vo e = o by omega, show l + pz_vl e = l by omega] at this
    exact this
theorem pz_Yq {t0 w K o l sl b n least op e i : Int} (h : pz_R p f t0 w K o l sl b n least op) (hi : i = K - 1) (e1 : p' i = e) (e2 : ∀ j, j ≠ i → p' j = p j) (hK : 0 < K ∧ least = 1 ∧ p (K - 1) = op) (he : (op = 41 ∧ e = 42) ∨ (op = 42 ∧ e = 43)) : pz_Y p' f t0 w K o l sl b n 0 0 := by
  subst hi
  by_cases hq : least < 4 ∧ op = 41
  · exact pz_Yr (h.1 hq) hK.1 e1 e2 (by omega) (by omega)
  · exact pz_Yr (h.2 hq) hK.1 e1 e2 (by omega) (by omega)
/-! clauses -/
def pz_V (f f' : Int → Int) (t0 t0' w' a : Int) : Prop := t0' = t0 ∧ wk_E f' t0' w' ∧ ∀ j, j < a → f' j = f j
theorem pz_Vt {f1 f2 : Int → Int} {t0 t1 t2 w1 w2 a a' : Int} (h1 : pz_V f f1 t0 t1 w1 a) (h2 : pz_V f1 f2 t1 t2 w2 a') (ha : a ≤ a') : pz_V f f2 t0 t2 w2 a := ⟨h2.1.trans h1.1, h2.2.1, fun j hj => (h2.2.2 j (by omega)).trans (h1.2.2 j hj)⟩
theorem pz_VE {t0 t0' w' a : Int} (h : pz_V f f' t0 t0' w' a) : wk_E f' t0' w' := h.2.1
theorem pz_Vc {t0 t0' w' a : Int} (h : pz_V f f' t0 t0' w' a) (ha : t0 < a) : t0' = t0 ∧ f' t0' = f t0 := by
  refine ⟨h.1, ?_⟩
  rw [h.1]
  exact h.2.2 t0 ha
def pz_D (sort x : Int) (f f' : Int → Int) (t0 t0' w' : Int) : Prop := t0' = t0 ∧ wk_E f' t0' w' ∧ f' t0' = f t0 ∧ (3 ≤ sort → f' x = f x) ∧ (sort ≤ 2 → wk_O f' x (t0' + 97) ∧ f' (x + 2) ≤ w')
theorem pz_DV {sort x t0 t0' w' a : Int} (h : pz_V f f' t0 t0' w' a) (hx : x < a) (ht : t0 < a) (hs : 3 ≤ sort) : pz_D sort x f f' t0 t0' w' := ⟨h.1, h.2.1, (pz_Vc h ht).2, fun _ => h.2.2 x hx, fun h => absurd h (by omega)⟩
theorem pz_Dm {sort x t0 t0' w' : Int} (h : pz_D 0 x f f' t0 t0' w') (hs : sort ≤ 2) : pz_D sort x f f' t0 t0' w' := ⟨h.1, h.2.1, h.2.2.1, fun h => absurd h (by omega), fun _ => h.2.2.2.2 (by decide)⟩
theorem pz_Dn {sort x t0 t0' w' : Int} (h : pz_D sort x f f' t0 t0' w') : t0' = t0 ∧ f' t0' = f t0 := ⟨h.1, h.2.2.1⟩
theorem pz_Dc {sort x t0 t0' w' : Int} (h : pz_D sort x f f' t0 t0' w') (hx : x = t0' + 1 + 4 * f' t0') (hs : f x = sort) (h0 : 0 ≤ sort) (a0 : 0 ≤ f' (t0' + 1 + 4 * f' t0')) (a1 : f' (t0' + 1 + 4 * f' t0') ≤ 2) : wk_O f' (t0' + 1 + 4 * f' t0') (t0' + 97) ∧ f' (t0' + 1 + 4 * f' t0' + 2) ≤ w' := by
  rw [← hx] at *
  by_cases hq : sort ≤ 2
  · exact h.2.2.2.2 hq
  · have := h.2.2.2.1 (by omega)
    omega
/-! the cases of worked -/
section WS
variable {b x i : Int}
theorem wk_sv (h : wk_O f x b) (h0 : f (x + 1) ≤ i) (h1 : i < f (x + 2)) (ho : f (b + 2 * i) ≤ 1 ∨ f (b + 2 * i) = 31) : (f (b + 2 * i) = 0 ∨ (f (b + 2 * i) = 1 ∧ 0 ≤ f (b + 2 * i + 1) ∧ f (b + 2 * i + 1) < 11) ∨ (f (b + 2 * i) ≠ 1 ∧ 0 ≤ f (b + 2 * i + 1) ∧ f (b + 2 * i + 1) < 80)) ∧ wkN f b (f (x + 1)) (i + 1) = wkN f b (f (x + 1)) i + 1 ∧ wkT f b (f (x + 1)) (i + 1) = wkT f b (f (x + 1)) i + 0 := by
  obtain ⟨⟨a1, a2⟩, a3, a4⟩ := wk_step h h0 h1
  rw [a3, a4, (wk_dnE _).1 ho, (wk_dtE _).1 ho]
  exact ⟨a1 ho, rfl, rfl⟩
theorem wk_s2 (h : wk_O f x b) (h0 : f (x + 1) ≤ i) (h1 : i < f (x + 2)) (ho : f (b + 2 * i) = 2) : (2 ≤ wkN f b (f (x + 1)) i ∧ 1 ≤ wkT f b (f (x + 1)) i) ∧ wkN f b (f (x + 1)) (i + 1) = wkN f b (f (x + 1)) i + -1 ∧ wkT f b (f (x + 1)) (i + 1) = wkT f b (f (x + 1)) i + -1 := by
  obtain ⟨a1, a3, a4⟩ := wk_step h h0 h1
  rw [a3, a4, (wk_dnE _).2.1 (Or.inl ho), (wk_dtE _).2.1 ho]
  exact ⟨a1.2.1 ho, rfl, rfl⟩
theorem wk_s30 (h : wk_O f x b) (h0 : f (x + 1) ≤ i) (h1 : i < f (x + 2)) (ho : f (b + 2 * i) = 30) : (1 ≤ wkN f b (f (x + 1)) i ∧ 0 ≤ f (b + 2 * i + 1) ∧ f (b + 2 * i + 1) < 80) ∧ wkN f b (f (x + 1)) (i + 1) = wkN f b (f (x + 1)) i + -1 ∧ wkT f b (f (x + 1)) (i + 1) = wkT f b (f (x + 1)) i + 0 := by
  obtain ⟨a1, a3, a4⟩ := wk_step h h0 h1
  rw [a3, a4, (wk_dnE _).2.1 (Or.inr ho), (wk_dtE _).2.2.1 (Or.inl ho)]
  exact ⟨a1.2.2.1 ho, rfl, rfl⟩
theorem wk_s3 (h : wk_O f x b) (h0 : f (x + 1) ≤ i) (h1 : i < f (x + 2)) (ho : f (b + 2 * i) = 3) : 1 ≤ wkN f b (f (x + 1)) i ∧ wkN f b (f (x + 1)) (i + 1) = wkN f b (f (x + 1)) i + 0 ∧ wkT f b (f (x + 1)) (i + 1) = wkT f b (f (x + 1)) i + 0 := by
  obtain ⟨a1, a3, a4⟩ := wk_step h h0 h1
  rw [a3, a4, (wk_dnE _).2.2.1 ho, (wk_dtE _).2.2.1 (Or.inr ho)]
  exact ⟨a1.2.2.2.1 ho, rfl, rfl⟩
theorem wk_s4 (h : wk_O f x b) (h0 : f (x + 1) ≤ i) (h1 : i < f (x + 2)) (ho : 4 ≤ f (b + 2 * i) ∧ f (b + 2 * i) < 10) : 2 ≤ wkN f b (f (x + 1)) i ∧ wkN f b (f (x + 1)) (i + 1) = wkN f b (f (x + 1)) i + -1 ∧ wkT f b (f (x + 1)) (i + 1) = wkT f b (f (x + 1)) i + 0 := by
  obtain ⟨a1, a3, a4⟩ := wk_step h h0 h1
  rw [a3, a4, (wk_dnE _).2.2.2.1 ho, (wk_dtE _).2.2.2.1 ho]
  exact ⟨a1.2.2.2.2.1 (by omega), rfl, rfl⟩
theorem wk_s10 (h : wk_O f x b) (h0 : f (x + 1) ≤ i) (h1 : i < f (x + 2)) (ho : 10 ≤ f (b + 2 * i) ∧ f (b + 2 * i) < 20) : 2 ≤ wkN f b (f (x + 1)) i ∧ wkN f b (f (x + 1)) (i + 1) = wkN f b (f (x + 1)) i + -2 ∧ wkT f b (f (x + 1)) (i + 1) = wkT f b (f (x + 1)) i + 1 := by
  obtain ⟨a1, a3, a4⟩ := wk_step h h0 h1
  rw [a3, a4, (wk_dnE _).2.2.2.2.1 ho, (wk_dtE _).2.2.2.2.1 ho]
  exact ⟨a1.2.2.2.2.1 (by omega), rfl, rfl⟩
theorem wk_s20 (h : wk_O f x b) (h0 : f (x + 1) ≤ i) (h1 : i < f (x + 2)) (ho : f (b + 2 * i) = 20) : 1 ≤ wkT f b (f (x + 1)) i ∧ wkN f b (f (x + 1)) (i + 1) = wkN f b (f (x + 1)) i + 0 ∧ wkT f b (f (x + 1)) (i + 1) = wkT f b (f (x + 1)) i + 0 := by
  obtain ⟨a1, a3, a4⟩ := wk_step h h0 h1
  rw [a3, a4, (wk_dnE _).2.2.2.2.2 (by omega), (wk_dtE _).2.2.2.2.2.1 ho]
  exact ⟨a1.2.2.2.2.2.1 ho, rfl, rfl⟩
theorem wk_s21 (h : wk_O f x b) (h0 : f (x + 1) ≤ i) (h1 : i < f (x + 2)) (ho : 21 ≤ f (b + 2 * i) ∧ f (b + 2 * i) ≠ 30 ∧ f (b + 2 * i) ≠ 31) : 2 ≤ wkT f b (f (x + 1)) i ∧ wkN f b (f (x + 1)) (i + 1) = wkN f b (f (x + 1)) i + 0 ∧ wkT f b (f (x + 1)) (i + 1) = wkT f b (f (x + 1)) i + -1 := by
  obtain ⟨a1, a3, a4⟩ := wk_step h h0 h1
  rw [a3, a4, (wk_dnE _).2.2.2.2.2 (by omega), (wk_dtE _).2.2.2.2.2.2 ho]
  exact ⟨a1.2.2.2.2.2.2 ho, rfl, rfl⟩
end WS
theorem pz_Yn2 {t0 w K o l sl b n v u : Int} (h : pz_Y p f t0 w K o l sl b n v u) : 0 ≤ K ∧ K ≤ 6 * o + 5 ∧ 0 ≤ o ∧ 0 ≤ l ∧ l ≤ o ∧ 0 ≤ w ∧ w + K ≤ b ∧ 4 * sl + 3 * pz_4 p K ≤ b ∧ 0 ≤ pz_4 p K ∧ f t0 = n ∧ 0 ≤ n ∧ n < 24 :=
  have a := pz_Yn h
  ⟨a.1, a.2.1, a.2.2.1, a.2.2.2.1, a.2.2.2.2.1, a.2.2.2.2.2.1, a.2.2.2.2.2.2.1, a.2.2.2.2.2.2.2.1, a.2.2.2.2.2.2.2.2.1, a.2.2.2.2.2.2.2.2.2.1, a.2.2.2.2.2.2.2.2.2.2.1, a.2.2.2.2.2.2.2.2.2.2.2.1⟩
theorem pz_Wn2 {t0 w K o l sl b n q : Int} (h : pz_W p f t0 w K o l sl b n q) : 0 ≤ K ∧ K ≤ 6 * o + 5 ∧ 0 ≤ o ∧ 0 ≤ l ∧ l ≤ o ∧ 0 ≤ w ∧ w + K ≤ b ∧ 4 * sl + 3 * pz_4 p K ≤ b ∧ 0 ≤ pz_4 p K ∧ f t0 = n ∧ 0 ≤ n ∧ n < 24 :=
  have a := pz_Wn h
  ⟨a.1, a.2.1, a.2.2.1, a.2.2.2.1, a.2.2.2.2.1, a.2.2.2.2.2.1, a.2.2.2.2.2.2.1, a.2.2.2.2.2.2.2.1, a.2.2.2.2.2.2.2.2.1, a.2.2.2.2.2.2.2.2.2.1, a.2.2.2.2.2.2.2.2.2.2.1, a.2.2.2.2.2.2.2.2.2.2.2.1⟩
end PZ
