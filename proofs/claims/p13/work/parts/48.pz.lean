/-! the code of a clause, step by step -/
section WK
variable {f f' : Int → Int} {b st : Int}
theorem wk_nc {m : Nat} (h : ∀ j : Nat, j < m → f' (b + 2 * (st + j)) = f (b + 2 * (st + j))) : wk_n f' b st m = wk_n f b st m := by
  induction m with
  | zero => rfl
  | succ m ih =>
    show wk_n f' b st m + wk_dn (f' (b + 2 * (st + m))) = wk_n f b st m + wk_dn (f (b + 2 * (st + m)))
    rw [ih (fun j hj => h j (Nat.lt_succ_of_lt hj)), h m (Nat.lt_succ_self m)]
theorem wk_tc {m : Nat} (h : ∀ j : Nat, j < m → f' (b + 2 * (st + j)) = f (b + 2 * (st + j))) : wk_t f' b st m = wk_t f b st m := by
  induction m with
  | zero => rfl
  | succ m ih =>
    show wk_t f' b st m + wk_dt (f' (b + 2 * (st + m))) = wk_t f b st m + wk_dt (f (b + 2 * (st + m)))
    rw [ih (fun j hj => h j (Nat.lt_succ_of_lt hj)), h m (Nat.lt_succ_self m)]
theorem wk_okc {m : Nat} (hk : wk_ok f b st m) (h : ∀ j : Nat, j < m → f' (b + 2 * (st + j)) = f (b + 2 * (st + j)) ∧ f' (b + 2 * (st + j) + 1) = f (b + 2 * (st + j) + 1)) : wk_ok f' b st m := by
  intro j hj
  rw [(h j hj).1, (h j hj).2, wk_nc (fun i hi => (h i (Nat.lt_trans hi hj)).1), wk_tc (fun i hi => (h i (Nat.lt_trans hi hj)).1)]
  exact hk j hj
/-- the depths at a place, by whole numbers -/
def wkN (f : Int → Int) (b st i : Int) : Int := wk_n f b st (i - st).toNat
def wkT (f : Int → Int) (b st i : Int) : Int := wk_t f b st (i - st).toNat
theorem wkN_s {i : Int} (h : st ≤ i) : wkN f b st (i + 1) = wkN f b st i + wk_dn (f (b + 2 * i)) := by
  unfold wkN
  obtain ⟨m, hm⟩ := Int.eq_ofNat_of_zero_le (show 0 ≤ i - st by omega)
  rw [show i + 1 - st = ((m + 1 : Nat) : Int) by omega, hm, Int.toNat_natCast, Int.toNat_natCast]
  show wk_n f b st m + wk_dn (f (b + 2 * (st + m))) = _
  rw [show st + (m : Int) = i by omega]
theorem wkT_s {i : Int} (h : st ≤ i) : wkT f b st (i + 1) = wkT f b st i + wk_dt (f (b + 2 * i)) := by
  unfold wkT
  obtain ⟨m, hm⟩ := Int.eq_ofNat_of_zero_le (show 0 ≤ i - st by omega)
  rw [show i + 1 - st = ((m + 1 : Nat) : Int) by omega, hm, Int.toNat_natCast, Int.toNat_natCast]
  show wk_t f b st m + wk_dt (f (b + 2 * (st + m))) = _
  rw [show st + (m : Int) = i by omega]
theorem wkN_0 : wkN f b st st = 0 := by
  unfold wkN
  rw [show st - st = (0 : Int) by omega]
  rfl
theorem wkT_0 : wkT f b st st = 0 := by
  unfold wkT
  rw [show st - st = (0 : Int) by omega]
  rfl
theorem wk_at {m : Nat} {i : Int} (hk : wk_ok f b st m) (h0 : st ≤ i) (h1 : i - st < m) : wk_sf (f (b + 2 * i)) (f (b + 2 * i + 1)) (wkN f b st i) (wkT f b st i) := by
  obtain ⟨k, hm⟩ := Int.eq_ofNat_of_zero_le (show 0 ≤ i - st by omega)
  have := hk k (by omega)
  rw [show st + (k : Int) = i by omega] at this
  unfold wkN wkT
  rw [hm, Int.toNat_natCast]
  exact this
theorem wk_dnE (o : Int) : (o ≤ 1 ∨ o = 31 → wk_dn o = 1) ∧ (o = 2 ∨ o = 30 → wk_dn o = -1) ∧ (o = 3 → wk_dn o = 0) ∧ (4 ≤ o ∧ o < 10 → wk_dn o = -1) ∧ (10 ≤ o ∧ o < 20 → wk_dn o = -2) ∧ (20 ≤ o ∧ o ≠ 30 ∧ o ≠ 31 → wk_dn o = 0) := by
  unfold wk_dn
  refine ⟨?_, ?_, ?_, ?_, ?_, ?_⟩ <;> intro h <;> (repeat' split) <;> first | rfl | (exfalso; omega)
theorem wk_dtE (o : Int) : (o ≤ 1 ∨ o = 31 → wk_dt o = 0) ∧ (o = 2 → wk_dt o = -1) ∧ (o = 30 ∨ o = 3 → wk_dt o = 0) ∧ (4 ≤ o ∧ o < 10 → wk_dt o = 0) ∧ (10 ≤ o ∧ o < 20 → wk_dt o = 1) ∧ (o = 20 → wk_dt o = 0) ∧ (21 ≤ o ∧ o ≠ 30 ∧ o ≠ 31 → wk_dt o = -1) := by
  unfold wk_dt
  refine ⟨?_, ?_, ?_, ?_, ?_, ?_, ?_⟩ <;> intro h <;> (repeat' split) <;> first | rfl | (exfalso; omega)
/-- one step of a clause's code, in sums -/
theorem wk_step {x i : Int} (h : wk_O f x b) (h0 : f (x + 1) ≤ i) (h1 : i < f (x + 2)) : wk_sf (f (b + 2 * i)) (f (b + 2 * i + 1)) (wkN f b (f (x + 1)) i) (wkT f b (f (x + 1)) i) ∧ wkN f b (f (x + 1)) (i + 1) = wkN f b (f (x + 1)) i + wk_dn (f (b + 2 * i)) ∧ wkT f b (f (x + 1)) (i + 1) = wkT f b (f (x + 1)) i + wk_dt (f (b + 2 * i)) :=
  ⟨wk_at h.2.2.2 h0 (by omega), wkN_s h0, wkT_s h0⟩
theorem wk_law {I : Nat → Int → Int} {P : Nat → Option Nat} {t k : Int} (h : iv_A I P) (t0 : 0 ≤ t) (t1 : t < 4) (k0 : 0 ≤ k) (k1 : k < I 98 (705 * t)) (h0 : 0 ≤ I 98 (705 * t + 1 + 4 * k)) (h1 : I 98 (705 * t + 1 + 4 * k) ≤ 2) : wk_O (I 98) (705 * t + 1 + 4 * k) (705 * t + 97) := h.2.2.1.2.2.2.2 t k t0 t1 k0 k1 h0 h1
theorem wk_O3 {x : Int} (h : wk_O f x b) : 0 ≤ f (x + 1) ∧ f (x + 1) ≤ f (x + 2) ∧ f (x + 2) ≤ 304 := ⟨h.1, h.2.1, h.2.2.1⟩
end WK
/-! the parser's pile -/
section PZ
def pz_rk (o : Int) : Int := if 40 ≤ o then 0 else if o = 22 then 1 else if o = 21 then 2 else if o = 20 then 3 else if 10 ≤ o then 4 else if o = 3 then 7 else if 6 ≤ o then 6 else 5
theorem pz_rkE (o : Int) : (40 ≤ o ∧ pz_rk o = 0) ∨ (o = 22 ∧ pz_rk o = 1) ∨ (o = 21 ∧ pz_rk o = 2) ∨ (o = 20 ∧ pz_rk o = 3) ∨ (10 ≤ o ∧ o < 40 ∧ o ≠ 20 ∧ o ≠ 21 ∧ o ≠ 22 ∧ pz_rk o = 4) ∨ (o = 3 ∧ pz_rk o = 7) ∨ (6 ≤ o ∧ o < 10 ∧ pz_rk o = 6) ∨ (o < 6 ∧ o ≠ 3 ∧ pz_rk o = 5) := by
  unfold pz_rk
  (repeat' split) <;> omega
theorem pz_rk1 (o : Int) : (40 ≤ o ∧ pz_rk o = 0) ∨ (o < 40 ∧ 1 ≤ pz_rk o) := by
  have := pz_rkE o
  omega
def pz_lo (p : Int → Int) : Nat → Int
  | 0 => 40
  | k + 1 => p k
def pz_vn (o : Int) : Int := if o < 4 then 0 else if o < 20 then 1 else if o = 43 then 1 else 0
def pz_vt (o : Int) : Int := if o = 21 then 1 else if o = 22 then 1 else if o = 42 then 1 else if o = 43 then 1 else 0
def pz_vo (o : Int) : Int := if o = 3 then 1 else if o = 20 then 1 else if 40 ≤ o then 1 else 0
def pz_vl (o : Int) : Int := if o = 44 then 1 else if o = 45 then 1 else 0
def pz_v4 (o : Int) : Int := if o = 44 then 1 else 0
def pz_sm (v : Int → Int) (p : Int → Int) : Nat → Int
  | 0 => 0
  | k + 1 => pz_sm v p k + v (p k)
def pz_on (p : Int → Int) : Nat → Int
  | 0 => -1
  | k + 1 => if 40 ≤ p k then p k else pz_on p k
def pz_cn (p : Int → Int) : Nat → Int
  | 0 => 0
  | k + 1 => if p k < 10 then pz_cn p k else if p k < 40 ∧ p k ≠ 20 ∧ p k ≠ 21 ∧ p k ≠ 22 then 1 else 0
def pz_op (p : Int → Int) (k : Int) : Int := pz_on p k.toNat
def pz_cm (p : Int → Int) (k : Int) : Int := pz_cn p k.toNat
def pz_4 (p : Int → Int) (k : Int) : Int := pz_sm pz_v4 p k.toNat
def pz_oq (p : Int → Int) (k : Int) : Int := pz_on p (k + 1).toNat
def pz_cq (p : Int → Int) (k : Int) : Int := pz_cn p (k + 1).toNat
variable {p p' f f' : Int → Int}
theorem pz_tn {k : Int} (h : 0 ≤ k) : ∃ m : Nat, k = (m : Int) ∧ k.toNat = m ∧ (k + 1).toNat = m + 1 := ⟨k.toNat, by omega, rfl, by omega⟩
theorem pz_oqS {k : Int} (h : 0 ≤ k) : (40 ≤ p k → pz_oq p k = p k) ∧ (p k < 40 → pz_oq p k = pz_oq p (k + -1)) := by
  obtain ⟨m, rfl, h1, h2⟩ := pz_tn h
  unfold pz_oq
  rw [h2, show ((m : Int) + -1 + 1).toNat = m by omega]
  show (40 ≤ p m → (if 40 ≤ p m then p m else pz_on p m) = p m) ∧ (p m < 40 → (if 40 ≤ p m then p m else pz_on p m) = pz_on p m)
  exact ⟨fun c => if_pos c, fun c => if_neg (by omega)⟩
theorem pz_oq0 {k : Int} (h : k < 0) : pz_oq p k = -1 := by
  unfold pz_oq
  rw [show (k + 1).toNat = 0 by omega]
  rfl
theorem pz_oqE {k : Int} : pz_op p k = pz_oq p (k - 1) := by
  unfold pz_oq pz_op
  rw [show k - 1 + 1 = k by omega]
theorem pz_cqS {k : Int} (h : 0 ≤ k) : (p k < 10 → pz_cq p k = pz_cq p (k + -1)) ∧ (10 ≤ p k ∧ p k < 40 ∧ p k ≠ 20 ∧ p k ≠ 21 ∧ p k ≠ 22 → pz_cq p k = 1) ∧ (40 ≤ p k ∨ p k = 20 ∨ p k = 21 ∨ p k = 22 → pz_cq p k = 0) := by
  obtain ⟨m, rfl, h1, h2⟩ := pz_tn h
  unfold pz_cq
  rw [h2, show ((m : Int) + -1 + 1).toNat = m by omega]
  show (p m < 10 → (if p m < 10 then pz_cn p m else if p m < 40 ∧ p m ≠ 20 ∧ p m ≠ 21 ∧ p m ≠ 22 then 1 else 0) = pz_cn p m) ∧ (10 ≤ p m ∧ p m < 40 ∧ p m ≠ 20 ∧ p m ≠ 21 ∧ p m ≠ 22 → (if p m < 10 then pz_cn p m else if p m < 40 ∧ p m ≠ 20 ∧ p m ≠ 21 ∧ p m ≠ 22 then 1 else 0) = 1) ∧ (40 ≤ p m ∨ p m = 20 ∨ p m = 21 ∨ p m = 22 → (if p m < 10 then pz_cn p m else if p m < 40 ∧ p m ≠ 20 ∧ p m ≠ 21 ∧ p m ≠ 22 then 1 else 0) = 0)
  refine ⟨fun c => if_pos c, fun c => ?_, fun c => ?_⟩
  · rw [if_neg (by omega), if_pos (by omega)]
  · rw [if_neg (by omega), if_neg (by omega)]
theorem pz_cq0 {k : Int} (h : k < 0) : pz_cq p k = 0 := by
  unfold pz_cq
  rw [show (k + 1).toNat = 0 by omega]
  rfl
theorem pz_cqE {k : Int} : pz_cm p k = pz_cq p (k - 1) := by
  unfold pz_cq pz_cm
  rw [show k - 1 + 1 = k by omega]
theorem pz_opS {k : Int} (h : 0 < k) : (40 ≤ p (k - 1) → pz_op p k = p (k - 1)) ∧ (p (k - 1) < 40 → pz_op p k = pz_op p (k - 1)) := by
  have := pz_oqS (p := p) (show 0 ≤ k - 1 by omega)
  rw [pz_oqE, pz_oqE (k := k - 1), show k - 1 - 1 = k - 1 + -1 by omega]
  exact this
theorem pz_cmS {k : Int} (h : 0 < k) : (p (k - 1) < 10 → pz_cm p k = pz_cm p (k - 1)) ∧ (10 ≤ p (k - 1) ∧ p (k - 1) < 40 ∧ p (k - 1) ≠ 20 ∧ p (k - 1) ≠ 21 ∧ p (k - 1) ≠ 22 → pz_cm p k = 1) ∧ (40 ≤ p (k - 1) ∨ p (k - 1) = 20 ∨ p (k - 1) = 21 ∨ p (k - 1) = 22 → pz_cm p k = 0) := by
  have := pz_cqS (p := p) (show 0 ≤ k - 1 by omega)
  rw [pz_cqE, pz_cqE (k := k - 1), show k - 1 - 1 = k - 1 + -1 by omega]
  exact this
theorem pz_op0 {k : Int} (h : k ≤ 0) : pz_op p k = -1 := by
  unfold pz_op
  rw [show k.toNat = 0 by omega]
  rfl
theorem pz_opP {k : Int} : pz_op p k = -1 ∨ 0 < k := by
  by_cases h : 0 < k
  · exact Or.inr h
  · exact Or.inl (pz_op0 (by omega))
theorem pz_opR {k : Int} : pz_op p k = -1 ∨ 40 ≤ pz_op p k := by
  unfold pz_op
  generalize k.toNat = m
  induction m with
  | zero => exact Or.inl rfl
  | succ m ih =>
    show (if 40 ≤ p m then p m else pz_on p m) = -1 ∨ 40 ≤ (if 40 ≤ p m then p m else pz_on p m)
    split
    · exact Or.inr (by assumption)
    · exact ih
theorem pz_smc {v : Int → Int} {m : Nat} (h : ∀ j : Nat, j < m → p' j = p j) : pz_sm v p' m = pz_sm v p m := by
  induction m with
  | zero => rfl
  | succ m ih =>
    show pz_sm v p' m + v (p' m) = pz_sm v p m + v (p m)
    rw [ih (fun j hj => h j (Nat.lt_succ_of_lt hj)), h m (Nat.lt_succ_self m)]
theorem pz_onc {m : Nat} (h : ∀ j : Nat, j < m → p' j = p j) : pz_on p' m = pz_on p m := by
  induction m with
  | zero => rfl
  | succ m ih =>
    show (if 40 ≤ p' m then p' m else pz_on p' m) = (if 40 ≤ p m then p m else pz_on p m)
    rw [ih (fun j hj => h j (Nat.lt_succ_of_lt hj)), h m (Nat.lt_succ_self m)]
/-- sums over the pile, by whole numbers -/
def pz_s (v : Int → Int) (p : Int → Int) (k : Int) : Int := pz_sm v p k.toNat
theorem pz_sS {v : Int → Int} {k : Int} (h : 0 ≤ k) : pz_s v p (k + 1) = pz_s v p k + v (p k) := by
  obtain ⟨m, rfl, h1, h2⟩ := pz_tn h
  unfold pz_s
  rw [h2, h1]
  rfl
theorem pz_sc {v : Int → Int} {k : Int} (h : ∀ j : Int, 0 ≤ j → j < k → p' j = p j) : pz_s v p' k = pz_s v p k := pz_smc (fun j hj => h j (by omega) (by omega))
theorem pz_opc {k : Int} (h : ∀ j : Int, 0 ≤ j → j < k → p' j = p j) : pz_op p' k = pz_op p k := pz_onc (fun j hj => h j (by omega) (by omega))
def pz_adj (a b : Int) : Prop := (b = 22 → a = 41) ∧ (b = 21 → a = 41 ∨ a = 22) ∧ (b = 20 ∨ (10 ≤ b ∧ b ≤ 15) → a = 41 ∨ a = 22 ∨ a = 21 ∨ a = 20) ∧ (b = 4 ∨ b = 5 → 10 ≤ a) ∧ (b = 6 ∨ b = 7 → a = 4 ∨ a = 5 ∨ 10 ≤ a) ∧ (b = 3 ∨ (4 ≤ b ∧ b ≤ 7) ∨ (10 ≤ b ∧ b ≤ 15) ∨ (20 ≤ b ∧ b ≤ 22) ∨ (40 ≤ b ∧ b ≤ 45))
def pz_l (p : Int → Int) (k : Int) : Int := if k ≤ 0 then 40 else p (k - 1)
theorem pz_l0 : pz_l p 0 = 40 := rfl
theorem pz_lP {k : Int} (h : 0 < k) : pz_l p k = p (k - 1) := if_neg (by omega)
/-- the pile is well laid -/
def pz_G (p : Int → Int) (K o l : Int) : Prop := 0 ≤ K ∧ (∀ j : Int, 0 ≤ j → j < K → pz_adj (pz_l p j) (p j)) ∧ pz_s pz_vo p K = o ∧ pz_s pz_vl p K = l
/-- the code from a clause's start on leaves so much -/
def pz_C (f : Int → Int) (b st w n t : Int) : Prop := st ≤ w ∧ wk_ok f b st (w - st).toNat ∧ wkN f b st w = n ∧ wkT f b st w = t
/-- the clauses that are counted end ahead of w -/
def wk_E (f : Int → Int) (t0 w : Int) : Prop := (t0 = 0 ∨ t0 = 705 ∨ t0 = 1410 ∨ t0 = 2115) ∧ f t0 ≤ 24 ∧ 0 ≤ f t0 ∧ ∀ k : Int, 0 ≤ k → k < f t0 → 0 ≤ f (t0 + 1 + 4 * k) → f (t0 + 1 + 4 * k) ≤ 2 → f (t0 + 1 + 4 * k + 2) ≤ w
def pz_st (f : Int → Int) (t0 : Int) : Int := f (t0 + 1 + 4 * f t0 + 1)
def pz_Z (p f : Int → Int) (t0 w K o l v u : Int) : Prop := pz_G p K o l ∧ f t0 < 24 ∧ 0 ≤ pz_st f t0 ∧ wk_E f t0 (pz_st f t0) ∧ pz_C f (t0 + 97) (pz_st f t0) w (pz_s pz_vn p K + v) (pz_s pz_vt p K + u)
def pz_em (f : Int → Int) (i o v : Int) : Int → Int := fun j => if j = i + 1 then v else if j = i then o else f j
theorem pz_em1 {i o v j : Int} (h : j < i ∨ i + 1 < j) : pz_em f i o v j = f j := by
  unfold pz_em
  rw [if_neg (by omega), if_neg (by omega)]
theorem pz_emo {i o v : Int} : pz_em f i o v i = o := by
  unfold pz_em
  rw [if_neg (by omega), if_pos rfl]
theorem pz_emv {i o v : Int} : pz_em f i o v (i + 1) = v := by
  unfold pz_em
  rw [if_pos rfl]
theorem pz_emE {I : Nat → Int → Int} {i o v : Int} : lf_up (lf_up I 98 i o) 98 (i + 1) v 98 = pz_em (I 98) i o v := by
  funext j
  unfold pz_em
  by_cases h1 : j = i + 1
  · rw [if_pos h1, h1, lf_up_s]
  · rw [if_neg h1, lf_up_i h1]
    by_cases h2 : j = i
    · rw [if_pos h2, h2, lf_up_s]
    · rw [if_neg h2, lf_up_i h2]
/-- what is written behind w leaves the counted clauses as they are -/
theorem wk_Tw {t0 w : Int} (hT : wk_T f) (hE : wk_E f t0 w) (hw : 0 ≤ w) (hr : ∀ t, 0 ≤ t → t < 4 → f (705 * t) ≤ 24) (h : ∀ j : Int, j < t0 + 97 + 2 * w ∨ t0 + 705 ≤ j → f' j = f j) : wk_T f' := by
  intro t k h0 h1 k0 k1 a0 a1
  have ht4 : t = 0 ∨ t = 1 ∨ t = 2 ∨ t = 3 := by omega
  obtain ⟨e0, e1, e2, e3⟩ := hE
  have e : f' (705 * t) = f (705 * t) := h _ (by omega)
  rw [e] at k1
  have k2 := hr t h0 h1
  have eA : f' (705 * t + 1 + 4 * k) = f (705 * t + 1 + 4 * k) := h _ (by omega)
  have eB : f' (705 * t + 1 + 4 * k + 1) = f (705 * t + 1 + 4 * k + 1) := h _ (by omega)
  have eC : f' (705 * t + 1 + 4 * k + 2) = f (705 * t + 1 + 4 * k + 2) := h _ (by omega)
  rw [eA] at a0 a1
  obtain ⟨b0, b1, b2, b3⟩ := hT t k h0 h1 k0 k1 a0 a1
  have b4 : 705 * t = t0 → f (705 * t + 1 + 4 * k + 2) ≤ w := by
    intro q
    have := e3 k k0 (by rw [← q]; exact k1) (by rw [← q]; exact a0) (by rw [← q]; exact a1)
    rw [q]; exact this
  refine ⟨by rw [eB]; exact b0, by rw [eB, eC]; exact b1, by rw [eC]; exact b2, ?_⟩
  rw [eB, eC]
  refine wk_okc b3 (fun j hj => ?_)
  by_cases q : 705 * t = t0
  · have := b4 q
    exact ⟨h _ (by omega), h _ (by omega)⟩
  · exact ⟨h _ (by omega), h _ (by omega)⟩
/-- what is laid into the clause that is being read leaves the counted ones as they are -/
theorem wk_Tx {t0 j v w : Int} {I : Nat → Int → Int} (hT : wk_T (I 98)) (hE : wk_E (I 98) t0 w) (hn : I 98 t0 < 24) (hr : ∀ t, 0 ≤ t → t < 4 → I 98 (705 * t) ≤ 24) (hj : t0 + 1 + 4 * I 98 t0 ≤ j ∧ j ≤ t0 + 1 + 4 * I 98 t0 + 3) : wk_T (lf_up I 98 j v 98) := by
  intro t k h0 h1 k0 k1 a0 a1
  have ht4 : t = 0 ∨ t = 1 ∨ t = 2 ∨ t = 3 := by omega
  obtain ⟨e0, e1, e2, e3⟩ := hE
  have e : lf_up I 98 j v 98 (705 * t) = I 98 (705 * t) := lf_up_i (by omega)
  rw [e] at k1
  have k2 := hr t h0 h1
  have b4 : 705 * t = t0 → k < I 98 t0 := by
    intro q
    rw [← q]; exact k1
  have eA : lf_up I 98 j v 98 (705 * t + 1 + 4 * k) = I 98 (705 * t + 1 + 4 * k) := lf_up_i (by omega)
  have eB : lf_up I 98 j v 98 (705 * t + 1 + 4 * k + 1) = I 98 (705 * t + 1 + 4 * k + 1) := lf_up_i (by omega)
  have eC : lf_up I 98 j v 98 (705 * t + 1 + 4 * k + 2) = I 98 (705 * t + 1 + 4 * k + 2) := lf_up_i (by omega)
  rw [eA] at a0 a1
  obtain ⟨b0, b1, b2, b3⟩ := hT t k h0 h1 k0 k1 a0 a1
  refine ⟨by rw [eB]; exact b0, by rw [eB, eC]; exact b1, by rw [eC]; exact b2, ?_⟩
  rw [eB, eC]
  refine wk_okc b3 (fun i hi => ⟨lf_up_i (by omega), lf_up_i (by omega)⟩)
/-- a text is begun anew -/
theorem wk_Tz {t0 : Int} {I : Nat → Int → Int} (hT : wk_T (I 98)) (e0 : t0 = 0 ∨ t0 = 705 ∨ t0 = 1410 ∨ t0 = 2115) (hr : ∀ t, 0 ≤ t → t < 4 → I 98 (705 * t) ≤ 24) : wk_T (lf_up I 98 t0 0 98) := by
  intro t k h0 h1 k0 k1 a0 a1
  have ht4 : t = 0 ∨ t = 1 ∨ t = 2 ∨ t = 3 := by omega
  by_cases q : 705 * t = t0
  · rw [q, lf_up_s] at k1
    omega
  · have e : lf_up I 98 t0 0 98 (705 * t) = I 98 (705 * t) := lf_up_i (by omega)
    rw [e] at k1
    have k2 := hr t h0 h1
    have eA : lf_up I 98 t0 0 98 (705 * t + 1 + 4 * k) = I 98 (705 * t + 1 + 4 * k) := lf_up_i (by omega)
    have eB : lf_up I 98 t0 0 98 (705 * t + 1 + 4 * k + 1) = I 98 (705 * t + 1 + 4 * k + 1) := lf_up_i (by omega)
    have eC : lf_up I 98 t0 0 98 (705 * t + 1 + 4 * k + 2) = I 98 (705 * t + 1 + 4 * k + 2) := lf_up_i (by omega)
    rw [eA] at a0 a1
    obtain ⟨b0, b1, b2, b3⟩ := hT t k h0 h1 k0 k1 a0 a1
    refine ⟨by rw [eB]; exact b0, by rw [eB, eC]; exact b1, by rw [eC]; exact b2, ?_⟩
    rw [eB, eC]
    refine wk_okc b3 (fun i hi => ⟨lf_up_i (by omega), lf_up_i (by omega)⟩)
/-- one clause more is counted -/
theorem wk_Tn {t0 : Int} {I : Nat → Int → Int} (hT : wk_T (I 98)) (e0 : t0 = 0 ∨ t0 = 705 ∨ t0 = 1410 ∨ t0 = 2115) (hr : ∀ t, 0 ≤ t → t < 4 → I 98 (705 * t) ≤ 24) (hn : 0 ≤ I 98 t0 ∧ I 98 t0 < 24) (hc : 0 ≤ I 98 (t0 + 1 + 4 * I 98 t0) → I 98 (t0 + 1 + 4 * I 98 t0) ≤ 2 → wk_O (I 98) (t0 + 1 + 4 * I 98 t0) (t0 + 97)) : wk_T (lf_up I 98 t0 (I 98 t0 + 1) 98) := by
  intro t k h0 h1 k0 k1 a0 a1
  have ht4 : t = 0 ∨ t = 1 ∨ t = 2 ∨ t = 3 := by omega
  have k2 := hr t h0 h1
  have k3 : k < 24 ∧ (705 * t = t0 → k < I 98 t0 + 1) ∧ (705 * t ≠ t0 → k < I 98 (705 * t)) := by
    by_cases q : 705 * t = t0
    · rw [q, lf_up_s] at k1
      exact ⟨by omega, fun _ => k1, fun h => absurd q h⟩
    · rw [lf_up_i q] at k1
      exact ⟨by omega, fun h => absurd h q, fun _ => k1⟩
  have eA : lf_up I 98 t0 (I 98 t0 + 1) 98 (705 * t + 1 + 4 * k) = I 98 (705 * t + 1 + 4 * k) := lf_up_i (by omega)
  have eB : lf_up I 98 t0 (I 98 t0 + 1) 98 (705 * t + 1 + 4 * k + 1) = I 98 (705 * t + 1 + 4 * k + 1) := lf_up_i (by omega)
  have eC : lf_up I 98 t0 (I 98 t0 + 1) 98 (705 * t + 1 + 4 * k + 2) = I 98 (705 * t + 1 + 4 * k + 2) := lf_up_i (by omega)
  rw [eA] at a0 a1
  have hO : wk_O (I 98) (705 * t + 1 + 4 * k) (705 * t + 97) := by
    by_cases q : 705 * t = t0
    · by_cases q2 : k = I 98 t0
      · rw [q, q2]
        rw [q, q2] at a0 a1
        exact hc a0 a1
      · exact hT t k h0 h1 k0 (by rw [q]; have := k3.2.1 q; omega) a0 a1
    · exact hT t k h0 h1 k0 (k3.2.2 q) a0 a1
  obtain ⟨b0, b1, b2, b3⟩ := hO
  refine ⟨by rw [eB]; exact b0, by rw [eB, eC]; exact b1, by rw [eC]; exact b2, ?_⟩
  rw [eB, eC]
  refine wk_okc b3 (fun i hi => ⟨lf_up_i (by omega), lf_up_i (by omega)⟩)
theorem wk_E_c {t0 w w' : Int} (hE : wk_E f t0 w) (hw : w ≤ w') (h : ∀ j : Int, t0 ≤ j → j < t0 + 97 → f' j = f j) : wk_E f' t0 w' := by
  obtain ⟨e0, e1, e2, e3⟩ := hE
  have e : f' t0 = f t0 := h _ (by omega) (by omega)
  refine ⟨e0, by rw [e]; exact e1, by rw [e]; exact e2, fun k k0 k1 a0 a1 => ?_⟩
  rw [e] at k1
  rw [h _ (by omega) (by omega)] at a0 a1
  rw [h _ (by omega) (by omega)]
  have := e3 k k0 k1 a0 a1
  omega
theorem pz_Ca {b st w n t o v : Int} (h : pz_C f b st w n t) (hs : wk_sf o v n t) : pz_C (pz_em f (b + 2 * w) o v) b st (w + 1) (n + wk_dn o) (t + wk_dt o) := by
  obtain ⟨h0, h1, h2, h3⟩ := h
  have hc : ∀ j : Nat, j < (w - st).toNat → pz_em f (b + 2 * w) o v (b + 2 * (st + j)) = f (b + 2 * (st + j)) ∧ pz_em f (b + 2 * w) o v (b + 2 * (st + j) + 1) = f (b + 2 * (st + j) + 1) := fun j hj => ⟨pz_em1 (by omega), pz_em1 (by omega)⟩
  have en : wkN (pz_em f (b + 2 * w) o v) b st w = n := by
    rw [← h2]
    exact wk_nc (fun j hj => (hc j hj).1)
  have et : wkT (pz_em f (b + 2 * w) o v) b st w = t := by
    rw [← h3]
    exact wk_tc (fun j hj => (hc j hj).1)
  refine ⟨by omega, ?_, ?_, ?_⟩
  · intro j hj
    by_cases hq : j < (w - st).toNat
    · exact wk_okc h1 hc j hq
    · have hj2 : (j : Int) = w - st := by omega
      have e1 : wk_n (pz_em f (b + 2 * w) o v) b st j = n := by
        rw [← en]
        unfold wkN
        rw [show (w - st).toNat = j by omega]
      have e2 : wk_t (pz_em f (b + 2 * w) o v) b st j = t := by
        rw [← et]
        unfold wkT
        rw [show (w - st).toNat = j by omega]
      rw [e1, e2, show b + 2 * (st + (j : Int)) = b + 2 * w by omega, pz_emo, pz_emv]
      exact hs
  · rw [wkN_s h0, en, pz_emo]
  · rw [wkT_s h0, et, pz_emo]
/-- emitting: the state of the parser but for the pile -/
theorem pz_Ze {t0 w n t o v : Int} (h1 : f t0 < 24) (h2 : 0 ≤ pz_st f t0) (h3 : wk_E f t0 (pz_st f t0)) (h4 : pz_C f (t0 + 97) (pz_st f t0) w n t) (hs : wk_sf o v n t) : let g := pz_em f (t0 + 97 + 2 * w) o v
    g t0 < 24 ∧ 0 ≤ pz_st g t0 ∧ wk_E g t0 (pz_st g t0) ∧ pz_C g (t0 + 97) (pz_st g t0) (w + 1) (n + wk_dn o) (t + wk_dt o) := by
  intro g
  have hw : 0 ≤ w := by have := h4.1; omega
  have e0 : g t0 = f t0 := pz_em1 (by omega)
  have h30 := h3.2.2.1
  have es : pz_st g t0 = pz_st f t0 := by
    show g (t0 + 1 + 4 * g t0 + 1) = f (t0 + 1 + 4 * f t0 + 1)
    rw [e0]
    exact pz_em1 (by omega)
  rw [es, e0]
  exact ⟨h1, h2, wk_E_c h3 (Int.le_refl _) (fun j a b => pz_em1 (by omega)), pz_Ca h4 hs⟩
theorem pz_GA {K o l j : Int} (h : pz_G p K o l) (h0 : 0 ≤ j) (h1 : j < K) : pz_adj (pz_l p j) (p j) := h.2.1 j h0 h1
theorem pz_vE (o : Int) : (pz_vo o = 1 ∧ (o = 3 ∨ o = 20 ∨ 40 ≤ o) ∨ pz_vo o = 0 ∧ o ≠ 3 ∧ o ≠ 20 ∧ o < 40) ∧ (pz_vl o = 1 ∧ (o = 44 ∨ o = 45) ∨ pz_vl o = 0 ∧ o ≠ 44 ∧ o ≠ 45) ∧ (pz_v4 o = 1 ∧ o = 44 ∨ pz_v4 o = 0 ∧ o ≠ 44) := by
  unfold pz_vo pz_vl pz_v4
  refine ⟨?_, ?_, ?_⟩ <;> (repeat' split) <;> omega
theorem pz_vnE (o : Int) : (pz_vn o = 1 ∧ (4 ≤ o ∧ o < 20 ∨ o = 43)) ∨ (pz_vn o = 0 ∧ o ≠ 43 ∧ (o < 4 ∨ 20 ≤ o)) := by
  unfold pz_vn
  (repeat' split) <;> omega
theorem pz_vtE (o : Int) : (pz_vt o = 1 ∧ (o = 21 ∨ o = 22 ∨ o = 42 ∨ o = 43)) ∨ (pz_vt o = 0 ∧ o ≠ 21 ∧ o ≠ 22 ∧ o ≠ 42 ∧ o ≠ 43) := by
  unfold pz_vt
  (repeat' split) <;> omega
theorem pz_s0 {v : Int → Int} : pz_s v p 0 = 0 := rfl
theorem pz_sP {v : Int → Int} {K : Int} (h : 0 < K) : pz_s v p K = pz_s v p (K - 1) + v (p (K - 1)) := by
  have := pz_sS (p := p) (v := v) (show 0 ≤ K - 1 by omega)
  rw [show K - 1 + 1 = K by omega] at this
  exact this
theorem pz_sN {v : Int → Int} (hv : ∀ o, 0 ≤ v o) {K : Int} : 0 ≤ pz_s v p K := by
  unfold pz_s
  generalize K.toNat = m
  induction m with
  | zero => exact Int.le_refl 0
  | succ m ih =>
    show 0 ≤ pz_sm v p m + v (p m)
    have := hv (p m)
    omega
theorem pz_vo0 (o : Int) : 0 ≤ pz_vo o := by have := (pz_vE o).1; omega
theorem pz_vl0 (o : Int) : 0 ≤ pz_vl o := by have := (pz_vE o).2.1; omega
theorem pz_v40 (o : Int) : 0 ≤ pz_v4 o := by have := (pz_vE o).2.2; omega
theorem pz_vn0 (o : Int) : 0 ≤ pz_vn o := by have := pz_vnE o; omega
theorem pz_vt0 (o : Int) : 0 ≤ pz_vt o := by have := pz_vtE o; omega
theorem pz_4E {K : Int} : pz_4 p K = pz_s pz_v4 p K := rfl
theorem pz_ix (o : Int) : ∃ x : Int, x = (if o = 22 then 1 else if o = 21 then 2 else if 10 ≤ o ∧ o ≤ 15 then 3 else if o = 4 ∨ o = 5 then 4 else if o = 6 ∨ o = 7 then 5 else 0) := ⟨_, rfl⟩
def pz_i (o : Int) : Int := if o = 22 then 1 else if o = 21 then 2 else if 10 ≤ o ∧ o ≤ 15 then 3 else if o = 4 ∨ o = 5 then 4 else if o = 6 ∨ o = 7 then 5 else 0
theorem pz_iE (o : Int) : (pz_i o = 1 ∧ o = 22) ∨ (pz_i o = 2 ∧ o = 21) ∨ (pz_i o = 3 ∧ 10 ≤ o ∧ o ≤ 15) ∨ (pz_i o = 4 ∧ (o = 4 ∨ o = 5)) ∨ (pz_i o = 5 ∧ (o = 6 ∨ o = 7)) ∨ (pz_i o = 0 ∧ o ≠ 22 ∧ o ≠ 21 ∧ ¬ (10 ≤ o ∧ o ≤ 15) ∧ ¬ (4 ≤ o ∧ o ≤ 7)) := by
  unfold pz_i
  (repeat' split) <;> omega
theorem pz_bd {K o l : Int} (h : pz_G p K o l) : ∀ m : Nat, (m : Int) ≤ K → (m : Int) ≤ 6 * pz_s pz_vo p m + pz_i (pz_l p m)
  | 0, _ => by
    have := pz_sN (p := p) pz_vo0 (K := 0)
    have := pz_iE (pz_l p 0)
    show (0 : Int) ≤ 6 * pz_s pz_vo p 0 + pz_i (pz_l p 0)
    omega
  | m + 1, hm => by
    have ih := pz_bd h m (by omega)
    have ha := pz_GA h (j := m) (by omega) (by omega)
    have hs := pz_sS (p := p) (v := pz_vo) (k := m) (by omega)
    have e : ((m + 1 : Nat) : Int) = (m : Int) + 1 := by omega
    rw [e, hs]
    have el : pz_l p ((m : Int) + 1) = p m := by
      rw [pz_lP (by omega)]
      rw [show (m : Int) + 1 - 1 = m by omega]
    rw [el]
    have v1 := (pz_vE (p m)).1
    have i1 := pz_iE (p m)
    have i2 := pz_iE (pz_l p m)
    obtain ⟨a1, a2, a3, a4, a5, a6⟩ := ha
    generalize pz_l p m = y at *
    generalize p m = x at *
    generalize pz_s pz_vo p m = z at *
    generalize pz_i x = ix at *
    generalize pz_i y = iy at *
    generalize pz_vo x = vx at *
    omega
theorem pz_K {K o l : Int} (h : pz_G p K o l) : K ≤ 6 * o + 5 ∧ 0 ≤ K ∧ 0 ≤ o ∧ 0 ≤ l ∧ l ≤ o := by
  have h0 := h.1
  obtain ⟨m, hm⟩ := Int.eq_ofNat_of_zero_le h0
  have hb := pz_bd h m (by omega)
  have hi := pz_iE (pz_l p (m : Int))
  rw [← hm, h.2.2.1] at hb
  rw [← hm] at hi
  have ho := pz_sN (p := p) pz_vo0 (K := K)
  have hl := pz_sN (p := p) pz_vl0 (K := K)
  have hle : ∀ m : Nat, pz_sm pz_vl p m ≤ pz_sm pz_vo p m := by
    intro m
    induction m with
    | zero => exact Int.le_refl 0
    | succ m ih =>
      show pz_sm pz_vl p m + pz_vl (p m) ≤ pz_sm pz_vo p m + pz_vo (p m)
      have := pz_vE (p m)
      omega
  have hq : pz_s pz_vl p K ≤ pz_s pz_vo p K := hle _
  rw [h.2.2.1] at ho hq
  rw [h.2.2.2] at hl hq
  omega
/-- what is compared or joined lies above an if -/
theorem pz_o41 {K o l : Int} (h : pz_G p K o l) : ∀ m : Nat, (m : Int) < K → (p m = 20 ∨ p m = 21 ∨ p m = 22 ∨ (10 ≤ p m ∧ p m ≤ 15)) → pz_on p m = 41
  | 0, h0, h1 => by
    have ha := pz_GA h (j := 0) (by omega) (by omega)
    rw [pz_l0] at ha
    obtain ⟨a1, a2, a3, a4, a5, a6⟩ := ha
    exfalso
    have h1 : p 0 = 20 ∨ p 0 = 21 ∨ p 0 = 22 ∨ (10 ≤ p 0 ∧ p 0 ≤ 15) := h1
    omega
  | m + 1, h0, h1 => by
    have ha := pz_GA h (j := (m : Int) + 1) (by omega) (by omega)
    rw [pz_lP (by omega), show (m : Int) + 1 - 1 = m by omega] at ha
    have h1 : p ((m : Int) + 1) = 20 ∨ p ((m : Int) + 1) = 21 ∨ p ((m : Int) + 1) = 22 ∨ (10 ≤ p ((m : Int) + 1) ∧ p ((m : Int) + 1) ≤ 15) := h1
    show (if 40 ≤ p m then p m else pz_on p m) = 41
    obtain ⟨a1, a2, a3, a4, a5, a6⟩ := ha
    by_cases hq : p m = 41
    · rw [if_pos (by omega)]; exact hq
    · rw [if_neg (by omega)]
      exact pz_o41 h m (by omega) (by omega)
theorem pz_41 {K o l j : Int} (h : pz_G p K o l) (h0 : 0 ≤ j) (h1 : j < K) (h2 : p j = 20 ∨ p j = 21 ∨ p j = 22 ∨ (10 ≤ p j ∧ p j ≤ 15)) : pz_op p j = 41 := by
  obtain ⟨m, rfl⟩ := Int.eq_ofNat_of_zero_le h0
  exact pz_o41 h m h1 h2
/-- one off the pile -/
theorem pz_Gp {K o l : Int} (h : pz_G p K o l) (hK : 0 < K) : pz_G p (K - 1) (o - pz_vo (p (K - 1))) (l - pz_vl (p (K - 1))) := by
  obtain ⟨h0, h1, h2, h3⟩ := h
  rw [pz_sP hK] at h2 h3
  exact ⟨by omega, fun j a b => h1 j a (by omega), by omega, by omega⟩
/-- one onto the pile -/
theorem pz_Gu {K o l e : Int} (h : pz_G p K o l) (e1 : p' K = e) (e2 : ∀ j, j ≠ K → p' j = p j) (ha : pz_adj (pz_l p K) e) : pz_G p' (K + 1) (o + pz_vo e) (l + pz_vl e) := by
  obtain ⟨h0, h1, h2, h3⟩ := h
  have hl : ∀ j, 0 ≤ j → j ≤ K → pz_l p' j = pz_l p j := by
    intro j a b
    by_cases hj : j ≤ 0
    · rw [show j = 0 by omega]; rfl
    · rw [pz_lP (by omega), pz_lP (by omega), e2 _ (by omega)]
  refine ⟨by omega, fun j a b => ?_, ?_, ?_⟩
  · by_cases hj : j = K
    · rw [hj, hl K h0 (Int.le_refl _), e1]; exact ha
    · rw [hl j a (by omega), e2 j hj]; exact h1 j a (by omega)
  · rw [pz_sS h0, pz_sc (fun j a b => e2 j (by omega)), e1, h2]
  · rw [pz_sS h0, pz_sc (fun j a b => e2 j (by omega)), e1, h3]
/-- the parser's state: with what is spent of the text -/
def pz_Y (p f : Int → Int) (t0 w K o l sl b n v u : Int) : Prop := pz_Z p f t0 w K o l v u ∧ w + K ≤ b ∧ 4 * sl + 3 * pz_4 p K ≤ b ∧ f t0 = n
/-- the parser's state while it settles -/
def pz_W (p f : Int → Int) (t0 w K o l sl b n least : Int) : Prop := (pz_Y p f t0 w K o l sl b n 1 0 ∧ (5 ≤ least ∨ (least = 4 ∧ pz_cm p K ≠ 1) ∨ (least < 4 ∧ (pz_cm p K = 1 ∨ pz_op p K ≠ 41)))) ∨ (pz_Y p f t0 w K o l sl b n 0 1 ∧ least < 4 ∧ pz_op p K = 41 ∧ 0 < K ∧ (p (K - 1) = 41 ∨ p (K - 1) = 22 ∨ p (K - 1) = 21 ∨ p (K - 1) = 20))
theorem pz_ZG {t0 w K o l v u : Int} (h : pz_Z p f t0 w K o l v u) : pz_G p K o l := h.1
theorem pz_Zpop {t0 w K o l v u v' u' : Int} (h : pz_Z p f t0 w K o l v u) (hK : 0 < K) (hs : wk_sf (p (K - 1)) 0 (pz_s pz_vn p K + v) (pz_s pz_vt p K + u)) (hv : pz_vn (p (K - 1)) + v + wk_dn (p (K - 1)) = v') (hu : pz_vt (p (K - 1)) + u + wk_dt (p (K - 1)) = u') (hl : p (K - 1) < 40) : pz_Z p (pz_em f (t0 + 97 + 2 * w) (p (K - 1)) 0) t0 (w + 1) (K - 1) (o - pz_vo (p (K - 1))) l v' u' := by
  obtain ⟨h0, h1, h2, h3, h4⟩ := h
  obtain ⟨g1, g2, g3, g4⟩ := pz_Ze h1 h2 h3 h4 hs
  have hG := pz_Gp h0 hK
  have hv1 := (pz_vE (p (K - 1))).2.1
  rw [show l - pz_vl (p (K - 1)) = l by omega] at hG
  rw [pz_sP (v := pz_vn) hK, pz_sP (v := pz_vt) hK] at g4
  rw [show pz_s pz_vn p (K - 1) + pz_vn (p (K - 1)) + v + wk_dn (p (K - 1)) = pz_s pz_vn p (K - 1) + v' by omega, show pz_s pz_vt p (K - 1) + pz_vt (p (K - 1)) + u + wk_dt (p (K - 1)) = pz_s pz_vt p (K - 1) + u' by omega] at g4
  exact ⟨hG, g1, g2, g3, g4⟩
theorem pz_emt {t0 w q v : Int} (h : 0 ≤ w) : pz_em f (t0 + 97 + 2 * w) q v t0 = f t0 := pz_em1 (by omega)
theorem pz_Yw {t0 w K o l sl b n v u : Int} (h : pz_Y p f t0 w K o l sl b n v u) : 0 ≤ w := Int.le_trans h.1.2.2.1 h.1.2.2.2.2.1
theorem pz_pA {e : Int} (h : 3 ≤ e ∧ e ≤ 7) : pz_vn e + 1 + wk_dn e = 1 ∧ pz_vt e + 0 + wk_dt e = 0 ∧ ∀ n t : Int, 0 ≤ n → wk_sf e 0 (n + pz_vn e + 1) t := by
  have : e = 3 ∨ e = 4 ∨ e = 5 ∨ e = 6 ∨ e = 7 := by omega
  rcases this with rfl | rfl | rfl | rfl | rfl
  · exact ⟨by decide, by decide, fun n t hn => by rw [show pz_vn 3 = 0 by decide]; unfold wk_sf; omega⟩
  · exact ⟨by decide, by decide, fun n t hn => by rw [show pz_vn 4 = 1 by decide]; unfold wk_sf; omega⟩
  · exact ⟨by decide, by decide, fun n t hn => by rw [show pz_vn 5 = 1 by decide]; unfold wk_sf; omega⟩
  · exact ⟨by decide, by decide, fun n t hn => by rw [show pz_vn 6 = 1 by decide]; unfold wk_sf; omega⟩
  · exact ⟨by decide, by decide, fun n t hn => by rw [show pz_vn 7 = 1 by decide]; unfold wk_sf; omega⟩
theorem pz_pC {e : Int} (h : 10 ≤ e ∧ e ≤ 15) : pz_vn e + 1 + wk_dn e = 0 ∧ pz_vt e + 0 + wk_dt e = 1 ∧ ∀ n t : Int, 0 ≤ n → wk_sf e 0 (n + pz_vn e + 1) t := by
  have : e = 10 ∨ e = 11 ∨ e = 12 ∨ e = 13 ∨ e = 14 ∨ e = 15 := by omega
  rcases this with rfl | rfl | rfl | rfl | rfl | rfl
  · exact ⟨by decide, by decide, fun n t hn => by rw [show pz_vn 10 = 1 by decide]; unfold wk_sf; omega⟩
  · exact ⟨by decide, by decide, fun n t hn => by rw [show pz_vn 11 = 1 by decide]; unfold wk_sf; omega⟩
  · exact ⟨by decide, by decide, fun n t hn => by rw [show pz_vn 12 = 1 by decide]; unfold wk_sf; omega⟩
  · exact ⟨by decide, by decide, fun n t hn => by rw [show pz_vn 13 = 1 by decide]; unfold wk_sf; omega⟩
  · exact ⟨by decide, by decide, fun n t hn => by rw [show pz_vn 14 = 1 by decide]; unfold wk_sf; omega⟩
  · exact ⟨by decide, by decide, fun n t hn => by rw [show pz_vn 15 = 1 by decide]; unfold wk_sf; omega⟩
theorem pz_pT {e : Int} (h : 20 ≤ e ∧ e ≤ 22) : pz_vn e + 0 + wk_dn e = 0 ∧ pz_vt e + 1 + wk_dt e = 1 ∧ ∀ n t : Int, 0 ≤ t → wk_sf e 0 n (t + pz_vt e + 1) := by
  have : e = 20 ∨ e = 21 ∨ e = 22 := by omega
  rcases this with rfl | rfl | rfl
  · exact ⟨by decide, by decide, fun n t hn => by rw [show pz_vt 20 = 0 by decide]; unfold wk_sf; omega⟩
  · exact ⟨by decide, by decide, fun n t hn => by rw [show pz_vt 21 = 1 by decide]; unfold wk_sf; omega⟩
  · exact ⟨by decide, by decide, fun n t hn => by rw [show pz_vt 22 = 1 by decide]; unfold wk_sf; omega⟩
theorem pz_adjC {a b : Int} (h : pz_adj a b) (hb : (10 ≤ b ∧ b ≤ 15) ∨ (20 ≤ b ∧ b ≤ 22)) : a = 41 ∨ a = 22 ∨ a = 21 ∨ a = 20 := by
  obtain ⟨a1, a2, a3, a4, a5, a6⟩ := h
  clear a4 a5 a6
  omega
theorem pz_Wpop {t0 w K o l sl b n least : Int} (h : pz_W p f t0 w K o l sl b n least) (hK : 0 < K) (h1 : 1 ≤ least) (hr : least ≤ pz_rk (p (K - 1))) : pz_W p (pz_em f (t0 + 97 + 2 * w) (p (K - 1)) 0) t0 (w + 1) (K - 1) (o - pz_vo (p (K - 1))) l sl b n least ∧ pz_op p (K - 1) = pz_op p K ∧ p (K - 1) < 40 := by
  have hlt : p (K - 1) < 40 := by have := pz_rk1 (p (K - 1)); omega
  have hoE := (pz_opS (p := p) hK).2 hlt
  have hcS := pz_cmS (p := p) hK
  have p1 := pz_sN (p := p) pz_vn0 (K := K - 1)
  have p2 := pz_sN (p := p) pz_vt0 (K := K - 1)
  have h4 : pz_4 p K = pz_4 p (K - 1) := by
    have e : pz_4 p K = pz_4 p (K - 1) + pz_v4 (p (K - 1)) := pz_sP hK
    have := (pz_vE (p (K - 1))).2.2
    omega
  refine ⟨?_, hoE.symm, hlt⟩
  have hY : ∀ {v' u' : Int}, w + K ≤ b → 4 * sl + 3 * pz_4 p K ≤ b → f t0 = n → 0 ≤ w → pz_Z p (pz_em f (t0 + 97 + 2 * w) (p (K - 1)) 0) t0 (w + 1) (K - 1) (o - pz_vo (p (K - 1))) l v' u' → pz_Y p (pz_em f (t0 + 97 + 2 * w) (p (K - 1)) 0) t0 (w + 1) (K - 1) (o - pz_vo (p (K - 1))) l sl b n v' u' := fun a1 a2 a3 a4 hz => ⟨hz, by omega, by omega, (pz_emt a4).trans a3⟩
  have hk1 : ∀ {o' l' : Int}, pz_G p K o' l' → (10 ≤ p (K - 1) ∧ p (K - 1) ≤ 15) ∨ (20 ≤ p (K - 1) ∧ p (K - 1) ≤ 22) → pz_op p (K - 1) = 41 ∧ 0 < K - 1 ∧ (p (K - 1 - 1) = 41 ∨ p (K - 1 - 1) = 22 ∨ p (K - 1 - 1) = 21 ∨ p (K - 1 - 1) = 20) := by
    intro o' l' hG hq
    have hA := pz_adjC (pz_GA hG (j := K - 1) (by omega) (by omega)) hq
    have h41 := pz_41 hG (j := K - 1) (by omega) (by omega) (by omega)
    have hK1 : 0 < K - 1 := by
      have := pz_opP (p := p) (k := K - 1)
      omega
    rw [pz_lP hK1] at hA
    exact ⟨h41, hK1, hA⟩
  rcases h with ⟨hZ', hc⟩ | ⟨hZ', hc1, hc2, hc3, hc4⟩
  · have hw := pz_Yw hZ'
    obtain ⟨hZ, y1, y2, y3⟩ := hZ'
    have hG := pz_ZG hZ
    have hA := (pz_GA hG (j := K - 1) (by omega) (by omega)).2.2.2.2.2
    by_cases q1 : p (K - 1) < 10
    · obtain ⟨z1, z2, z3⟩ := pz_pA (e := p (K - 1)) (by omega)
      refine Or.inl ⟨hY y1 y2 y3 hw (pz_Zpop hZ hK ?_ z1 z2 hlt), ?_⟩
      · rw [pz_sP (v := pz_vn) hK]; exact z3 _ _ p1
      · rw [← hcS.1 q1, ← hoE]; exact hc
    · by_cases q2 : p (K - 1) ≤ 15
      · have hcm := hcS.2.1 (by omega)
        obtain ⟨k1, k2, k3⟩ := hk1 hG (by omega)
        obtain ⟨z1, z2, z3⟩ := pz_pC (e := p (K - 1)) (by omega)
        have hrk := pz_rkE (p (K - 1))
        refine Or.inr ⟨hY y1 y2 y3 hw (pz_Zpop hZ hK ?_ z1 z2 hlt), by omega, k1, k2, k3⟩
        rw [pz_sP (v := pz_vn) hK]; exact z3 _ _ p1
      · exfalso
        have k1 := (hk1 hG (by omega)).1
        have hcm := hcS.2.2 (by omega)
        have hrk := pz_rkE (p (K - 1))
        omega
  · have hw := pz_Yw hZ'
    obtain ⟨hZ, y1, y2, y3⟩ := hZ'
    have hG := pz_ZG hZ
    have hrk := pz_rk1 (p (K - 1))
    obtain ⟨k1, k2, k3⟩ := hk1 hG (by omega)
    obtain ⟨z1, z2, z3⟩ := pz_pT (e := p (K - 1)) (by omega)
    refine Or.inr ⟨hY y1 y2 y3 hw (pz_Zpop hZ hK ?_ z1 z2 hlt), hc1, k1, k2, k3⟩
    rw [pz_sP (v := pz_vt) hK]; exact z3 _ _ p2
def pz_R (p f : Int → Int) (t0 w K o l sl b n least op : Int) : Prop := ((least < 4 ∧ op = 41) → pz_Y p f t0 w K o l sl b n 0 1) ∧ (¬ (least < 4 ∧ op = 41) → pz_Y p f t0 w K o l sl b n 1 0)
theorem pz_Wend {t0 w K o l sl b n least op : Int} (h : pz_W p f t0 w K o l sl b n least) (h1 : 1 ≤ least) (hK : K ≤ 0 ∨ pz_rk (p (K - 1)) < least) (ho : pz_op p K = op) : pz_R p f t0 w K o l sl b n least op := by
  subst ho
  rcases h with ⟨hZ, hc⟩ | ⟨hZ, hc1, hc2, hc3, hc4⟩
  · refine ⟨fun hq => ?_, fun _ => hZ⟩
    exfalso
    have hP := pz_opP (p := p) (k := K)
    have hK0 : 0 < K := by omega
    have hrk := pz_rkE (p (K - 1))
    have hcS := pz_cmS (p := p) hK0
    omega
  · exact ⟨fun _ => hZ, fun hq => absurd ⟨hc1, hc2⟩ hq⟩
theorem pz_R0 {t0 w K o l sl b n least op : Int} (h : pz_R p f t0 w K o l sl b n least op) (hq : least < 4 ∧ op = 41) : pz_Y p f t0 w K o l sl b n 0 1 := h.1 hq
theorem pz_R1 {t0 w K o l sl b n least op : Int} (h : pz_R p f t0 w K o l sl b n least op) (hq : ¬ (least < 4 ∧ op = 41)) : pz_Y p f t0 w K o l sl b n 1 0 := h.2 hq
/-- a number, a name, a letter's value -/
theorem pz_Zval {t0 w K o l q v : Int} (h : pz_Z p f t0 w K o l 0 0) (hq : q = 0 ∨ (q = 1 ∧ 0 ≤ v ∧ v < 11) ∨ (q = 31 ∧ 0 ≤ v ∧ v < 80)) : pz_Z p (pz_em f (t0 + 97 + 2 * w) q v) t0 (w + 1) K o l 1 0 := by
  obtain ⟨h0, h1, h2, h3, h4⟩ := h
  have hdn := wk_dnE q
  have hdt := wk_dtE q
  obtain ⟨g1, g2, g3, g4⟩ := pz_Ze (o := q) (v := v) h1 h2 h3 h4 (by unfold wk_sf; omega)
  rw [show pz_s pz_vn p K + 0 + wk_dn q = pz_s pz_vn p K + 1 by omega, show pz_s pz_vt p K + 0 + wk_dt q = pz_s pz_vt p K + 0 by omega] at g4
  exact ⟨h0, g1, g2, g3, g4⟩
/-- onto the pile: what waits takes what is whole; what opens takes nothing -/
theorem pz_Zu {t0 w K o l v u e : Int} (h : pz_Z p f t0 w K o l v u) (e1 : p' K = e) (e2 : ∀ j, j ≠ K → p' j = p j) (ha : pz_adj (pz_l p K) e) (hv : pz_vn e = v) (hu : pz_vt e = u) : pz_Z p' f t0 w (K + 1) (o + pz_vo e) (l + pz_vl e) 0 0 := by
  obtain ⟨h0, h1, h2, h3, h4⟩ := h
  refine ⟨pz_Gu h0 e1 e2 ha, h1, h2, h3, ?_⟩
  rw [pz_sS h0.1, pz_sS h0.1, pz_sc (fun j a b => e2 j (by omega)), pz_sc (fun j a b => e2 j (by omega)), e1, hv, hu, Int.add_zero, Int.add_zero]
  exact h4
/-- off the pile: what is open is shut, by a code of its own or none -/
theorem pz_Zs {t0 w K o l : Int} (h : pz_Z p f t0 w K o l 1 0) (hK : 0 < K) (he : p (K - 1) = 40 ∨ p (K - 1) = 45) : pz_Z p f t0 w (K - 1) (o - 1) (l - pz_vl (p (K - 1))) 1 0 := by
  obtain ⟨h0, h1, h2, h3, h4⟩ := h
  have hG := pz_Gp h0 hK
  have hv1 := (pz_vE (p (K - 1))).1
  have hn := pz_vnE (p (K - 1))
  have ht := pz_vtE (p (K - 1))
  rw [show o - pz_vo (p (K - 1)) = o - 1 by omega] at hG
  rw [pz_sP (v := pz_vn) hK, pz_sP (v := pz_vt) hK, show pz_vn (p (K - 1)) = 0 by omega, show pz_vt (p (K - 1)) = 0 by omega, Int.add_zero, Int.add_zero] at h4
  exact ⟨hG, h1, h2, h3, h4⟩
theorem pz_Zs43 {t0 w K o l : Int} (h : pz_Z p f t0 w K o l 1 0) (hK : 0 < K) (he : p (K - 1) = 43) : pz_Z p (pz_em f (t0 + 97 + 2 * w) 2 0) t0 (w + 1) (K - 1) (o - 1) l 1 0 := by
  obtain ⟨h0, h1, h2, h3, h4⟩ := h
  have hG := pz_Gp h0 hK
  have hv1 := pz_vE (p (K - 1))
  have hn := pz_vnE (p (K - 1))
  have ht := pz_vtE (p (K - 1))
  have p1 := pz_sN (p := p) pz_vn0 (K := K - 1)
  have p2 := pz_sN (p := p) pz_vt0 (K := K - 1)
  rw [show o - pz_vo (p (K - 1)) = o - 1 by omega, show l - pz_vl (p (K - 1)) = l by omega] at hG
  have en := pz_sP (p := p) (v := pz_vn) hK
  have et := pz_sP (p := p) (v := pz_vt) hK
  obtain ⟨g1, g2, g3, g4⟩ := pz_Ze (o := 2) (v := 0) h1 h2 h3 h4 (by unfold wk_sf; omega)
  have d1 : wk_dn 2 = -1 := by decide
  have d2 : wk_dt 2 = -1 := by decide
  rw [show pz_s pz_vn p K + 1 + wk_dn 2 = pz_s pz_vn p (K - 1) + 1 by omega, show pz_s pz_vt p K + 0 + wk_dt 2 = pz_s pz_vt p (K - 1) + 0 by omega] at g4
  exact ⟨hG, g1, g2, g3, g4⟩
/-- the next part of what is open -/
theorem pz_Zr {t0 w K o l v u e : Int} (h : pz_Z p f t0 w K o l v u) (hK : 0 < K) (e1 : p' (K - 1) = e) (e2 : ∀ j, j ≠ K - 1 → p' j = p j) (he : 40 ≤ p (K - 1)) (hq : (p (K - 1) = 41 ∧ e = 42 ∧ v = 0 ∧ u = 1) ∨ (p (K - 1) = 42 ∧ e = 43 ∧ v = 1 ∧ u = 0)) : pz_Z p' f t0 w K o l 0 0 := by
  obtain ⟨h0, h1, h2, h3, h4⟩ := h
  have hG := pz_Gp h0 hK
  have hA : pz_adj (pz_l p (K - 1)) e := by unfold pz_adj; omega
  have hG2 := pz_Gu hG e1 e2 hA
  have v1 := pz_vE (p (K - 1))
  have v2 := pz_vE e
  rw [show K - 1 + 1 = K by omega, show o - pz_vo (p (K - 1)) + pz_vo e = o by omega, show l - pz_vl (p (K - 1)) + pz_vl e = l by omega] at hG2
  have n1 := pz_vnE (p (K - 1))
  have n2 := pz_vnE e
  have t1 := pz_vtE (p (K - 1))
  have t2 := pz_vtE e
  have sn := pz_sP (p := p) (v := pz_vn) hK
  have st := pz_sP (p := p) (v := pz_vt) hK
  have sn' := pz_sP (p := p') (v := pz_vn) hK
  have st' := pz_sP (p := p') (v := pz_vt) hK
  have c1 : pz_s pz_vn p' (K - 1) = pz_s pz_vn p (K - 1) := pz_sc (fun j a b => e2 j (by omega))
  have c2 : pz_s pz_vt p' (K - 1) = pz_s pz_vt p (K - 1) := pz_sc (fun j a b => e2 j (by omega))
  rw [c1, e1] at sn'
  rw [c2, e1] at st'
  refine ⟨hG2, h1, h2, h3, ?_⟩
  rw [show pz_s pz_vn p' K + 0 = pz_s pz_vn p K + v by omega, show pz_s pz_vt p' K + 0 = pz_s pz_vt p K + u by omega]
  exact h4
/-- a let's letter is bound -/
theorem pz_Zb {t0 w K o l v e : Int} (h : pz_Z p f t0 w K o l 1 0) (hK : 0 < K) (e1 : p' (K - 1) = e) (e2 : ∀ j, j ≠ K - 1 → p' j = p j) (he : p (K - 1) = 44) (hq : e = 45) (hv : 0 ≤ v ∧ v < 80) : pz_Z p' (pz_em f (t0 + 97 + 2 * w) 30 v) t0 (w + 1) K o l 0 0 := by
  obtain ⟨h0, h1, h2, h3, h4⟩ := h
  have hG := pz_Gp h0 hK
  have hA : pz_adj (pz_l p (K - 1)) e := by unfold pz_adj; omega
  have hG2 := pz_Gu hG e1 e2 hA
  have v1 := pz_vE (p (K - 1))
  have v2 := pz_vE e
  rw [show K - 1 + 1 = K by omega, show o - pz_vo (p (K - 1)) + pz_vo e = o by omega, show l - pz_vl (p (K - 1)) + pz_vl e = l by omega] at hG2
  have n1 := pz_vnE (p (K - 1))
  have n2 := pz_vnE e
  have t1 := pz_vtE (p (K - 1))
  have t2 := pz_vtE e
  have sn := pz_sP (p := p) (v := pz_vn) hK
  have st := pz_sP (p := p) (v := pz_vt) hK
  have sn' := pz_sP (p := p') (v := pz_vn) hK
  have st' := pz_sP (p := p') (v := pz_vt) hK
  have p1 := pz_sN (p := p) pz_vn0 (K := K)
  have c1 : pz_s pz_vn p' (K - 1) = pz_s pz_vn p (K - 1) := pz_sc (fun j a b => e2 j (by omega))
  have c2 : pz_s pz_vt p' (K - 1) = pz_s pz_vt p (K - 1) := pz_sc (fun j a b => e2 j (by omega))
  rw [c1, e1] at sn'
  rw [c2, e1] at st'
  obtain ⟨g1, g2, g3, g4⟩ := pz_Ze (o := 30) (v := v) h1 h2 h3 h4 (by unfold wk_sf; omega)
  have d1 : wk_dn 30 = -1 := by decide
  have d2 : wk_dt 30 = 0 := by decide
  rw [show pz_s pz_vn p K + 1 + wk_dn 30 = pz_s pz_vn p' K + 0 by omega, show pz_s pz_vt p K + 0 + wk_dt 30 = pz_s pz_vt p' K + 0 by omega] at g4
  exact ⟨hG2, g1, g2, g3, g4⟩
theorem pz_Yn {t0 w K o l sl b n v u : Int} (h : pz_Y p f t0 w K o l sl b n v u) : 0 ≤ K ∧ K ≤ 6 * o + 5 ∧ 0 ≤ o ∧ 0 ≤ l ∧ l ≤ o ∧ 0 ≤ w ∧ w + K ≤ b ∧ 4 * sl + 3 * pz_4 p K ≤ b ∧ 0 ≤ pz_4 p K ∧ f t0 = n ∧ 0 ≤ n ∧ n < 24 ∧ (t0 = 0 ∨ t0 = 705 ∨ t0 = 1410 ∨ t0 = 2115) := by
  have a := pz_K h.1.1
  have b1 := pz_Yw h
  have c := pz_sN (p := p) pz_v40 (K := K)
  have d : pz_4 p K = pz_s pz_v4 p K := rfl
  obtain ⟨h1, h2, h3, h4⟩ := h
  have e1 := h1.2.1
  have e2 := h1.2.2.2.1.2.2.1
  have e3 := h1.2.2.2.1.1
  omega
theorem pz_YE {t0 w K o l sl b n v u : Int} (h : pz_Y p f t0 w K o l sl b n v u) : wk_E f t0 w := wk_E_c h.1.2.2.2.1 h.1.2.2.2.2.1 (fun _ _ _ => rfl)
theorem pz_Wn {t0 w K o l sl b n q : Int} (h : pz_W p f t0 w K o l sl b n q) : 0 ≤ K ∧ K ≤ 6 * o + 5 ∧ 0 ≤ o ∧ 0 ≤ l ∧ l ≤ o ∧ 0 ≤ w ∧ w + K ≤ b ∧ 4 * sl + 3 * pz_4 p K ≤ b ∧ 0 ≤ pz_4 p K ∧ f t0 = n ∧ 0 ≤ n ∧ n < 24 ∧ (t0 = 0 ∨ t0 = 705 ∨ t0 = 1410 ∨ t0 = 2115) := by
  rcases h with ⟨h, _⟩ | ⟨h, _⟩ <;> exact pz_Yn h
theorem pz_WE {t0 w K o l sl b n q : Int} (h : pz_W p f t0 w K o l sl b n q) : wk_E f t0 w := by
  rcases h with ⟨h, _⟩ | ⟨h, _⟩ <;> exact pz_YE h
theorem pz_WV {t0 w K o l sl b n q : Int} (h : pz_W p f t0 w K o l sl b n q) (hK : 0 < K) : pz_vo (p (K - 1)) ≤ o := by
  have hG : pz_G p K o l := by rcases h with ⟨h, _⟩ | ⟨h, _⟩ <;> exact h.1.1
  have hs := pz_sP (p := p) (v := pz_vo) hK
  have c := pz_sN (p := p) pz_vo0 (K := K - 1)
  have := hG.2.2.1
  omega
theorem pz_cg {p p' f f' : Int → Int} {t0 w K o l sl b n v u t0' w' K' o' l' sl' b' n' v' u' : Int} (hp : p' = p) (hf : f' = f) (h : pz_Y p f t0 w K o l sl b n v u) (h1 : t0' = t0) (h2 : w' = w) (h3 : K' = K) (h4 : o' = o) (h5 : l' = l) (h6 : sl' = sl) (h7 : b ≤ b') (h8 : n' = n) (h9 : v' = v) (h10 : u' = u) : pz_Y p' f' t0' w' K' o' l' sl' b' n' v' u' := by
  subst hp hf h1 h2 h3 h4 h5 h6 h8 h9 h10
  exact ⟨h.1, by have := h.2.1; omega, by have := h.2.2.1; omega, h.2.2.2⟩
theorem pz_cW {p p' f f' : Int → Int} {t0 w K o l sl b n q t0' w' K' o' l' sl' b' n' q' : Int} (hp : p' = p) (hf : f' = f) (h : pz_W p f t0 w K o l sl b n q) (h1 : t0' = t0) (h2 : w' = w) (h3 : K' = K) (h4 : o' = o) (h5 : l' = l) (h6 : sl' = sl) (h7 : b' = b) (h8 : n' = n) (h9 : q' = q) : pz_W p' f' t0' w' K' o' l' sl' b' n' q' := by
  subst hp hf h1 h2 h3 h4 h5 h6 h7 h8 h9
  exact h
theorem pz_Ym {t0 w K o l sl b n v u : Int} (h : pz_Y p f t0 w K o l sl b n v u) : pz_Y p f t0 w K o l sl b (f t0) v u := ⟨h.1, h.2.1, h.2.2.1, rfl⟩
theorem pz_Yk {t0 w K o l sl b n v u n' : Int} (h : pz_Y p f t0 w K o l sl b n v u) (e : n' = n) : pz_Y p f t0 w K o l sl b n' v u := by
  subst e
  exact h
theorem pz_Wi {t0 w K o l sl b n least : Int} (h : pz_Y p f t0 w K o l sl b n 1 0) (hc : 5 ≤ least ∨ (least = 4 ∧ pz_cm p K ≠ 1) ∨ (least < 4 ∧ (pz_cm p K = 1 ∨ pz_op p K ≠ 41))) : pz_W p f t0 w K o l sl b n least := Or.inl ⟨h, hc⟩
def pz_H (f : Int → Int) (t0 n : Int) : Prop := f t0 = n ∧ 0 ≤ n ∧ n < 24 ∧ wk_E f t0 (pz_st f t0)
theorem pz_YH {t0 w K o l sl b n v u : Int} (h : pz_Y p f t0 w K o l sl b n v u) : pz_H f t0 n := by
  have := pz_Yn h
  exact ⟨h.2.2.2, by omega, by omega, h.1.2.2.2.1⟩
theorem pz_Hn {t0 n : Int} (h : pz_H f t0 n) : f t0 = n ∧ 0 ≤ n ∧ n < 24 ∧ (t0 = 0 ∨ t0 = 705 ∨ t0 = 1410 ∨ t0 = 2115) := ⟨h.1, h.2.1, h.2.2.1, h.2.2.2.1⟩
theorem pz_cH {t0 n t0' n' : Int} (hf : f' = f) (h : pz_H f t0 n) (h1 : t0' = t0) (h2 : n' = n) : pz_H f' t0' n' := by
  subst hf h1 h2
  exact h
theorem pz_Yval {t0 w K o l sl b n q v : Int} (h : pz_Y p f t0 w K o l sl b n 0 0) (hq : q = 0 ∨ (q = 1 ∧ 0 ≤ v ∧ v < 11) ∨ (q = 31 ∧ 0 ≤ v ∧ v < 80)) : pz_Y p (pz_em f (t0 + 97 + 2 * w) q v) t0 (w + 1) K o l sl (b + 1) n 1 0 :=
  ⟨pz_Zval h.1 hq, by have := h.2.1; omega, by have := h.2.2.1; omega, (pz_emt (pz_Yw h)).trans h.2.2.2⟩
theorem pz_4c {K : Int} (e2 : ∀ j, j ≠ K → p' j = p j) (h : 0 ≤ K) {e : Int} (e1 : p' K = e) : pz_4 p' (K + 1) = pz_4 p K + pz_v4 e := by
  show pz_s pz_v4 p' (K + 1) = pz_s pz_v4 p K + pz_v4 e
  rw [pz_sS h, pz_sc (fun j a b => e2 j (by omega)), e1]
theorem pz_Yu {t0 w K o l sl b n v u e b' : Int} (h : pz_Y p f t0 w K o l sl b n v u) (e1 : p' K = e) (e2 : ∀ j, j ≠ K → p' j = p j) (ha : pz_adj (pz_l p K) e) (hv : pz_vn e = v) (hu : pz_vt e = u) (hb : b + 1 + 2 * pz_v4 e ≤ b') : pz_Y p' f t0 w (K + 1) (o + pz_vo e) (l + pz_vl e) sl b' n 0 0 := by
  have h4 := pz_4c e2 h.1.1.1 e1
  have hv4 := (pz_vE e).2.2
  refine ⟨pz_Zu h.1 e1 e2 ha hv hu, ?_, ?_, h.2.2.2⟩
  · have := h.2.1; omega
  · have := h.2.2.1; omega
theorem pz_4P {K : Int} (h : 0 < K) : pz_4 p K = pz_4 p (K - 1) + pz_v4 (p (K - 1)) := pz_sP h
theorem pz_Ys {t0 w K o l sl b n : Int} (h : pz_Y p f t0 w K o l sl b n 1 0) (hK : 0 < K) (he : p (K - 1) = 40 ∨ p (K - 1) = 45) : pz_Y p f t0 w (K - 1) (o - 1) (l - pz_vl (p (K - 1))) sl b n 1 0 := by
  have h4 := pz_4P (p := p) hK
  have hv4 := (pz_vE (p (K - 1))).2.2
  refine ⟨pz_Zs h.1 hK he, ?_, ?_, h.2.2.2⟩
  · have := h.2.1; omega
  · have := h.2.2.1; omega
theorem pz_Ys43 {t0 w K o l sl b n : Int} (h : pz_Y p f t0 w K o l sl b n 1 0) (hK : 0 < K) (he : p (K - 1) = 43) : pz_Y p (pz_em f (t0 + 97 + 2 * w) 2 0) t0 (w + 1) (K - 1) (o - 1) l sl b n 1 0 := by
  have h4 := pz_4P (p := p) hK
  have hv4 := (pz_vE (p (K - 1))).2.2
  refine ⟨pz_Zs43 h.1 hK he, ?_, ?_, (pz_emt (pz_Yw h)).trans h.2.2.2⟩
  · have := h.2.1; omega
  · have := h.2.2.1; omega
theorem pz_4r {K e : Int} (hK : 0 < K) (e1 : p' (K - 1) = e) (e2 : ∀ j, j ≠ K - 1 → p' j = p j) : pz_4 p' K = pz_4 p (K - 1) + pz_v4 e := by
  rw [pz_4P hK, e1]
  show pz_s pz_v4 p' (K - 1) + _ = pz_s pz_v4 p (K - 1) + _
  rw [pz_sc (fun j a b => e2 j (by omega))]
theorem pz_Yr {t0 w K o l sl b n v u e : Int} (h : pz_Y p f t0 w K o l sl b n v u) (hK : 0 < K) (e1 : p' (K - 1) = e) (e2 : ∀ j, j ≠ K - 1 → p' j = p j) (he : 40 ≤ p (K - 1)) (hq : (p (K - 1) = 41 ∧ e = 42 ∧ v = 0 ∧ u = 1) ∨ (p (K - 1) = 42 ∧ e = 43 ∧ v = 1 ∧ u = 0)) : pz_Y p' f t0 w K o l sl b n 0 0 := by
  have h4 := pz_4P (p := p) hK
  have h4' := pz_4r hK e1 e2
  have v1 := (pz_vE (p (K - 1))).2.2
  have v2 := (pz_vE e).2.2
  refine ⟨pz_Zr h.1 hK e1 e2 he hq, h.2.1, ?_, h.2.2.2⟩
  have := h.2.2.1
  omega
def pz_B (p' f : Int → Int) (t0 w K o l sl b n : Int) : Prop := 0 < K ∧ ∃ p : Int → Int, pz_Y p f t0 w K o l sl b n 1 0 ∧ p (K - 1) = 44 ∧ p' (K - 1) = 45 ∧ ∀ j, j ≠ K - 1 → p' j = p j
theorem pz_Bi {t0 w K o l sl b n e i : Int} (h : pz_Y p f t0 w K o l sl b n 1 0) (hK : 0 < K) (hi : i = K - 1) (e1 : p' i = e) (e2 : ∀ j, j ≠ i → p' j = p j) (he : p (K - 1) = 44) (hq : e = 45) : pz_B p' f t0 w K o l sl b n := by
  subst hi
  exact ⟨hK, p, h, he, by rw [e1, hq], e2⟩
theorem pz_cB {p p' f f' : Int → Int} {t0 w K o l sl b n t0' w' K' o' l' sl' b' n' : Int} (hp : p' = p) (hf : f' = f) (h : pz_B p f t0 w K o l sl b n) (h1 : t0' = t0) (h2 : w' = w) (h3 : K' = K) (h4 : o' = o) (h5 : l' = l) (h6 : sl' = sl) (h7 : b' = b) (h8 : n' = n) : pz_B p' f' t0' w' K' o' l' sl' b' n' := by
  subst hp hf h1 h2 h3 h4 h5 h6 h7 h8
  exact h
theorem pz_Bn {t0 w K o l sl b n : Int} (h : pz_B p' f t0 w K o l sl b n) : 1 ≤ l ∧ l ≤ o ∧ 0 < K ∧ K ≤ 6 * o + 5 ∧ 0 ≤ w ∧ w + K ≤ b ∧ 4 * sl + 3 ≤ b ∧ f t0 = n ∧ 0 ≤ n ∧ n < 24 ∧ (t0 = 0 ∨ t0 = 705 ∨ t0 = 1410 ∨ t0 = 2115) := by
  obtain ⟨hK, p, h, he, e1, e2⟩ := h
  have hn := pz_Yn h
  have h4 := pz_4P (p := p) hK
  have v1 := pz_vE (p (K - 1))
  have hl := pz_sP (p := p) (v := pz_vl) hK
  have c := pz_sN (p := p) pz_vl0 (K := K - 1)
  have c4 := pz_sN (p := p) pz_v40 (K := K - 1)
  have d : pz_4 p (K - 1) = pz_s pz_v4 p (K - 1) := rfl
  have := h.1.1.2.2.2
  omega
theorem pz_BE {t0 w K o l sl b n : Int} (h : pz_B p' f t0 w K o l sl b n) : wk_E f t0 w := by
  obtain ⟨hK, p, h, he, e1, e2⟩ := h
  exact pz_YE h
theorem pz_Bb {t0 w K o l sl b n v : Int} (h : pz_B p' f t0 w K o l sl b n) (hv : 0 ≤ v ∧ v < 80) : pz_Y p' (pz_em f (t0 + 97 + 2 * w) 30 v) t0 (w + 1) K o l (sl + 1) (b + 1) n 0 0 := by
  obtain ⟨hK, p, h, he, e1, e2⟩ := h
  have h4 := pz_4P (p := p) hK
  have h4' := pz_4r hK e1 e2
  have v1 := (pz_vE (p (K - 1))).2.2
  have v2 : pz_v4 45 = 0 := by decide
  refine ⟨pz_Zb h.1 hK e1 e2 he rfl hv, ?_, ?_, (pz_emt (pz_Yw h)).trans h.2.2.2⟩
  · have := h.2.1; omega
  · have := h.2.2.1; omega
/-- the start of a clause's sum -/
theorem pz_Z0 {I : Nat → Int → Int} {t0 w x : Int} (hE : wk_E (I 98) t0 w) (hn : I 98 t0 < 24) (hw : 0 ≤ w) (hx : x = t0 + 1 + 4 * I 98 t0) (p : Int → Int) : pz_Z p (lf_up I 98 (x + 1) w 98) t0 w 0 0 0 0 0 := by
  have e0 : lf_up I 98 (x + 1) w 98 t0 = I 98 t0 := lf_up_i (by have := hE.2.2.1; omega)
  have es : pz_st (lf_up I 98 (x + 1) w 98) t0 = w := by
    unfold pz_st
    rw [e0, hx, lf_up_s]
  refine ⟨⟨Int.le_refl 0, fun j a b => by omega, rfl, rfl⟩, by rw [e0]; exact hn, by rw [es]; exact hw, ?_, ?_⟩
  · rw [es]
    obtain ⟨q0, q1, q2, q3⟩ := hE
    refine ⟨q0, by rw [e0]; exact q1, by rw [e0]; exact q2, fun k k0 k1 a0 a1 => ?_⟩
    rw [e0] at k1
    rw [lf_up_i (by omega)] at a0 a1
    rw [lf_up_i (by omega)]
    exact q3 k k0 k1 a0 a1
  · rw [es]
    refine ⟨Int.le_refl _, fun j hj => ?_, wkN_0, wkT_0⟩
    rw [show w - w = (0 : Int) by omega] at hj
    exact absurd hj (Nat.not_lt_zero _)
/-- a clause's sum is done -/
theorem pz_Y0 {I : Nat → Int → Int} {t0 w x b : Int} (hE : wk_E (I 98) t0 w) (hn : I 98 t0 < 24) (hw : 0 ≤ w ∧ w ≤ b) (hx : x = t0 + 1 + 4 * I 98 t0) (p : Int → Int) : pz_Y p (lf_up I 98 (x + 1) w 98) t0 w 0 0 0 0 b (lf_up I 98 (x + 1) w 98 t0) 0 0 :=
  ⟨pz_Z0 hE hn hw.1 hx p, by omega, by show 4 * 0 + 3 * pz_4 p 0 ≤ b; have : pz_4 p 0 = 0 := rfl; omega, rfl⟩
theorem pz_Zd {I : Nat → Int → Int} {t0 w K o l x : Int} (h : pz_Z p (I 98) t0 w K o l 1 0) (hw : w ≤ 304) (hx : x = t0 + 1 + 4 * I 98 t0) : wk_O (lf_up I 98 (x + 2) w 98) x (t0 + 97) := by
  obtain ⟨h0, h1, h2, h3, h4⟩ := h
  have hn := h3.2.2.1
  have e1 : lf_up I 98 (x + 2) w 98 (x + 1) = pz_st (I 98) t0 := by
    rw [lf_up_i (by omega), hx]
    rfl
  have e2 : lf_up I 98 (x + 2) w 98 (x + 2) = w := lf_up_s
  refine ⟨by rw [e1]; exact h2, by rw [e1, e2]; exact h4.1, by rw [e2]; exact hw, ?_⟩
  rw [e1, e2]
  exact wk_okc h4.2.1 (fun j hj => ⟨lf_up_i (by omega), lf_up_i (by omega)⟩)
theorem wk_Ex {I : Nat → Int → Int} {t0 w j v : Int} (hE : wk_E (I 98) t0 w) (hj : t0 + 1 + 4 * I 98 t0 ≤ j) : wk_E (lf_up I 98 j v 98) t0 w := by
  obtain ⟨q0, q1, q2, q3⟩ := hE
  have e0 : lf_up I 98 j v 98 t0 = I 98 t0 := lf_up_i (by omega)
  refine ⟨q0, by rw [e0]; exact q1, by rw [e0]; exact q2, fun k k0 k1 a0 a1 => ?_⟩
  rw [e0] at k1
  rw [lf_up_i (by omega)] at a0 a1
  rw [lf_up_i (by omega)]
  exact q3 k k0 k1 a0 a1
theorem wk_En {I : Nat → Int → Int} {t0 w w' : Int} (hE : wk_E (I 98) t0 w) (hn : I 98 t0 < 24) (hw : w ≤ w') (hc : 0 ≤ I 98 (t0 + 1 + 4 * I 98 t0) → I 98 (t0 + 1 + 4 * I 98 t0) ≤ 2 → I 98 (t0 + 1 + 4 * I 98 t0 + 2) ≤ w') : wk_E (lf_up I 98 t0 (I 98 t0 + 1) 98) t0 w' := by
  obtain ⟨q0, q1, q2, q3⟩ := hE
  refine ⟨q0, by rw [lf_up_s]; omega, by rw [lf_up_s]; omega, fun k k0 k1 a0 a1 => ?_⟩
  rw [lf_up_s] at k1
  rw [lf_up_i (by omega)] at a0 a1
  rw [lf_up_i (by omega)]
  by_cases hk : k = I 98 t0
  · rw [hk] at a0 a1 ⊢
    exact hc a0 a1
  · have := q3 k k0 (by omega) a0 a1
    omega
theorem wk_Ez {I : Nat → Int → Int} {t0 : Int} (q0 : t0 = 0 ∨ t0 = 705 ∨ t0 = 1410 ∨ t0 = 2115) : wk_E (lf_up I 98 t0 0 98) t0 0 := ⟨q0, by rw [lf_up_s]; decide, by rw [lf_up_s]; decide, fun k k0 k1 => by rw [lf_up_s] at k1; omega⟩
theorem wk_cE {t0 w t0' w' : Int} (hf : f' = f) (h : wk_E f t0 w) (h1 : t0' = t0) (h2 : w' = w) : wk_E f' t0' w' := by
  subst hf h1 h2
  exact h
theorem wk_hr {I : Nat → Int → Int} {P : Nat → Option Nat} (h : iv_A I P) : ∀ t : Int, 0 ≤ t → t < 4 → I 98 (705 * t) ≤ 24 := by
  intro t h0 h1
  have e : (iv_x (705 * t)).2 ≤ 24 := by
    have : t = 0 ∨ t = 1 ∨ t = 2 ∨ t = 3 := by omega
    rcases this with rfl | rfl | rfl | rfl <;> decide
  exact Int.le_trans (h.1 98 (705 * t)).2 e
theorem wk_TA {I : Nat → Int → Int} {P : Nat → Option Nat} (h : iv_A I P) : wk_T (I 98) := h.2.2.1.2.2.2.2
theorem pz_Yd {I : Nat → Int → Int} {t0 w K o l sl b n x : Int} (h : pz_Y p (I 98) t0 w K o l sl b n 1 0) (hw : w ≤ 304) (hx : x = t0 + 1 + 4 * I 98 t0) : wk_O (lf_up I 98 (x + 2) w 98) x (t0 + 97) := pz_Zd h.1 hw hx
theorem pz_oqA (p : Int → Int) (k : Int) : (k < 0 → pz_oq p k = -1) ∧ (0 ≤ k → (40 ≤ p k → pz_oq p k = p k) ∧ (p k < 40 → pz_oq p k = pz_oq p (k + -1))) := ⟨pz_oq0, pz_oqS⟩
theorem pz_cqA (p : Int → Int) (k : Int) : (k < 0 → pz_cq p k = 0) ∧ (0 ≤ k → (p k < 10 → pz_cq p k = pz_cq p (k + -1)) ∧ (10 ≤ p k ∧ p k < 40 ∧ p k ≠ 20 ∧ p k ≠ 21 ∧ p k ≠ 22 → pz_cq p k = 1) ∧ (40 ≤ p k ∨ p k = 20 ∨ p k = 21 ∨ p k = 22 → pz_cq p k = 0)) := ⟨pz_cq0, pz_cqS⟩
theorem iv_w98c {I : Nat → Int → Int} {P : Nat → Option Nat} {i v t0 : Int} (h : iv_A I P) (e0 : t0 = 0 ∨ t0 = 705 ∨ t0 = 1410 ∨ t0 = 2115) (hi : t0 < i ∧ i < t0 + 705) (hv : -2147483648 ≤ v ∧ v ≤ 2147483647) (hk : wk_T (lf_up I 98 i v 98)) : iv_A (lf_up I 98 i v) P := by
  refine iv_wd98 h (lf_le2 ?_ hv) hk
  unfold iv_x
  repeat' refine iv_itW (fun h => ?_) (fun h => ?_)
  all_goals first | exact ⟨by decide, by decide⟩ | (exfalso; omega)
theorem iv_w98z {I : Nat → Int → Int} {P : Nat → Option Nat} {v t0 : Int} (h : iv_A I P) (e0 : t0 = 0 ∨ t0 = 705 ∨ t0 = 1410 ∨ t0 = 2115) (hv : 0 ≤ v ∧ v ≤ 24) (hk : wk_T (lf_up I 98 t0 v 98)) : iv_A (lf_up I 98 t0 v) P := by
  refine iv_wd98 h (lf_le2 ?_ hv) hk
  rcases e0 with rfl | rfl | rfl | rfl <;> decide
theorem lf_eqx {p : Int → Int} {a b : Int} : a ≠ b ∨ p a = p b := by
  by_cases h : a = b
  · exact Or.inr (by rw [h])
  · exact Or.inl h
theorem lf_c2 {p p' : Int → Int} {i i' : Int} (F : (Int → Int) → Int → Int) (hp : p' = p) (hi : i' = i) : F p' i' = F p i := by rw [hp, hi]
theorem lf_ap {p p' : Int → Int} {i i' : Int} (hp : p' = p) (hi : i' = i) : p' i' = p i := by rw [hp, hi]
theorem pz_adjo {K e : Int} (h : e = 40 ∨ e = 3 ∨ e = 41 ∨ e = 44 ∨ (e = 20 ∧ 0 < K ∧ (p (K - 1) = 41 ∨ (20 ≤ p (K - 1) ∧ p (K - 1) ≤ 22)))) : pz_adj (pz_l p K) e := by
  have hl : 0 < K → pz_l p K = p (K - 1) := pz_lP
  unfold pz_adj
  omega
theorem pz_vn0o {e : Int} {P : Prop} (h : e = 40 ∨ e = 3 ∨ e = 41 ∨ e = 44 ∨ (e = 20 ∧ P)) : pz_vn e = 0 := by
  rcases h with rfl | rfl | rfl | rfl | ⟨rfl, _⟩ <;> decide
theorem pz_vt0o {e : Int} {P : Prop} (h : e = 40 ∨ e = 3 ∨ e = 41 ∨ e = 44 ∨ (e = 20 ∧ P)) : pz_vt e = 0 := by
  rcases h with rfl | rfl | rfl | rfl | ⟨rfl, _⟩ <;> decide
theorem pz_Yo {t0 w K o l sl b n v u : Int} (h : pz_Y p f t0 w K o l sl b n v u) (hK : 0 < K) (he : 40 ≤ p (K - 1)) : 1 ≤ o := by
  have hs := pz_sP (p := p) (v := pz_vo) hK
  have c := pz_sN (p := p) pz_vo0 (K := K - 1)
  have d := (pz_vE (p (K - 1))).1
  have := h.1.1.2.2.1
  omega
theorem pz_Yl {t0 w K o l sl b n v u : Int} (h : pz_Y p f t0 w K o l sl b n v u) (hK : 0 < K) : pz_vl (p (K - 1)) ≤ l := by
  have hs := pz_sP (p := p) (v := pz_vl) hK
  have c := pz_sN (p := p) pz_vl0 (K := K - 1)
  have := h.1.1.2.2.2
  omega
theorem pz_Rt {t0 w K o l sl b n least op : Int} (h : pz_R p f t0 w K o l sl b n least op) : f t0 = n := by
  by_cases hq : least < 4 ∧ op = 41
  · exact (h.1 hq).2.2.2
  · exact (h.2 hq).2.2.2
theorem pz_RG {t0 w K o l sl b n least op : Int} (h : pz_R p f t0 w K o l sl b n least op) : pz_G p K o l := by
  by_cases hq : least < 4 ∧ op = 41
  · exact (h.1 hq).1.1
  · exact (h.2 hq).1.1
theorem pz_Yp {t0 w K o l sl b n least op e : Int} (h : pz_R p f t0 w K o l sl b n least op) (e1 : p' K = e) (e2 : ∀ j, j ≠ K → p' j = p j) (ho : pz_op p K = op) (ht : K ≤ 0 ∨ pz_rk (p (K - 1)) < least) (he : (4 ≤ e ∧ e ≤ 7 ∧ least = pz_rk e) ∨ (10 ≤ e ∧ e ≤ 15 ∧ least = pz_rk e ∧ op = 41) ∨ ((e = 21 ∨ e = 22) ∧ least = pz_rk e ∧ op = 41)) : pz_Y p' f t0 w (K + 1) o l sl (b + 1) n 0 0 := by
  have hG := pz_RG h
  have hK0 := hG.1
  have hr := pz_rkE e
  have hvE := pz_vE e
  have hvn := pz_vnE e
  have hvt := pz_vtE e
  have ha : pz_adj (pz_l p K) e := by
    by_cases hK : K ≤ 0
    · have e0 := pz_op0 (p := p) hK
      rw [show K = 0 by omega, pz_l0]
      unfold pz_adj
      omega
    · have hK' : 0 < K := by omega
      rw [pz_lP hK']
      have hA := (pz_GA hG (j := K - 1) (by omega) (by omega)).2.2.2.2.2
      have hr2 := pz_rkE (p (K - 1))
      have hoS := pz_opS (p := p) hK'
      unfold pz_adj
      omega
  by_cases hq : least < 4 ∧ op = 41
  · have := pz_Yu (b' := b + 1) (h.1 hq) e1 e2 ha (by omega) (by omega) (by omega)
    rw [show o + pz_vo e = o by omega, show l + pz_vl e = l by omega] at this
    exact this
  · have := pz_Yu (b' := b + 1) (h.2 hq) e1 e2 ha (by omega) (by omega) (by omega)
    rw [show o + pz_vo e = o by omega, show l + pz_vl e = l by omega] at this
    exact this
theorem pz_Yq {t0 w K o l sl b n least op e i : Int} (h : pz_R p f t0 w K o l sl b n least op) (hi : i = K - 1) (e1 : p' i = e) (e2 : ∀ j, j ≠ i → p' j = p j) (hK : 0 < K ∧ least = 1 ∧ p (K - 1) = op) (he : (op = 41 ∧ e = 42) ∨ (op = 42 ∧ e = 43)) : pz_Y p' f t0 w K o l sl b n 0 0 := by
  subst hi
  by_cases hq : least < 4 ∧ op = 41
  · exact pz_Yr (h.1 hq) hK.1 e1 e2 (by omega) (by omega)
  · exact pz_Yr (h.2 hq) hK.1 e1 e2 (by omega) (by omega)
/-! clauses -/
def pz_V (f f' : Int → Int) (t0 t0' w' a : Int) : Prop := t0' = t0 ∧ wk_E f' t0' w' ∧ ∀ j, j < a → f' j = f j
theorem pz_Vt {f1 f2 : Int → Int} {t0 t1 t2 w1 w2 a a' : Int} (h1 : pz_V f f1 t0 t1 w1 a) (h2 : pz_V f1 f2 t1 t2 w2 a') (ha : a ≤ a') : pz_V f f2 t0 t2 w2 a := ⟨h2.1.trans h1.1, h2.2.1, fun j hj => (h2.2.2 j (by omega)).trans (h1.2.2 j hj)⟩
theorem pz_VE {t0 t0' w' a : Int} (h : pz_V f f' t0 t0' w' a) : wk_E f' t0' w' := h.2.1
theorem pz_Vc {t0 t0' w' a : Int} (h : pz_V f f' t0 t0' w' a) (ha : t0 < a) : t0' = t0 ∧ f' t0' = f t0 := by
  refine ⟨h.1, ?_⟩
  rw [h.1]
  exact h.2.2 t0 ha
def pz_D (sort x : Int) (f f' : Int → Int) (t0 t0' w' : Int) : Prop := t0' = t0 ∧ wk_E f' t0' w' ∧ f' t0' = f t0 ∧ (3 ≤ sort → f' x = f x) ∧ (sort ≤ 2 → wk_O f' x (t0' + 97) ∧ f' (x + 2) ≤ w')
theorem pz_DV {sort x t0 t0' w' a : Int} (h : pz_V f f' t0 t0' w' a) (hx : x < a) (ht : t0 < a) (hs : 3 ≤ sort) : pz_D sort x f f' t0 t0' w' := ⟨h.1, h.2.1, (pz_Vc h ht).2, fun _ => h.2.2 x hx, fun h => absurd h (by omega)⟩
theorem pz_Dm {sort x t0 t0' w' : Int} (h : pz_D 0 x f f' t0 t0' w') (hs : sort ≤ 2) : pz_D sort x f f' t0 t0' w' := ⟨h.1, h.2.1, h.2.2.1, fun h => absurd h (by omega), fun _ => h.2.2.2.2 (by decide)⟩
theorem pz_Dn {sort x t0 t0' w' : Int} (h : pz_D sort x f f' t0 t0' w') : t0' = t0 ∧ f' t0' = f t0 := ⟨h.1, h.2.2.1⟩
theorem pz_Dc {sort x t0 t0' w' : Int} (h : pz_D sort x f f' t0 t0' w') (hx : x = t0' + 1 + 4 * f' t0') (hs : f x = sort) (h0 : 0 ≤ sort) (a0 : 0 ≤ f' (t0' + 1 + 4 * f' t0')) (a1 : f' (t0' + 1 + 4 * f' t0') ≤ 2) : wk_O f' (t0' + 1 + 4 * f' t0') (t0' + 97) ∧ f' (t0' + 1 + 4 * f' t0' + 2) ≤ w' := by
  rw [← hx] at *
  by_cases hq : sort ≤ 2
  · exact h.2.2.2.2 hq
  · have := h.2.2.2.1 (by omega)
    omega
/-! the cases of worked -/
section WS
variable {b x i : Int}
theorem wk_sv (h : wk_O f x b) (h0 : f (x + 1) ≤ i) (h1 : i < f (x + 2)) (ho : f (b + 2 * i) ≤ 1 ∨ f (b + 2 * i) = 31) : (f (b + 2 * i) = 0 ∨ (f (b + 2 * i) = 1 ∧ 0 ≤ f (b + 2 * i + 1) ∧ f (b + 2 * i + 1) < 11) ∨ (f (b + 2 * i) ≠ 1 ∧ 0 ≤ f (b + 2 * i + 1) ∧ f (b + 2 * i + 1) < 80)) ∧ wkN f b (f (x + 1)) (i + 1) = wkN f b (f (x + 1)) i + 1 ∧ wkT f b (f (x + 1)) (i + 1) = wkT f b (f (x + 1)) i + 0 := by
  obtain ⟨⟨a1, a2⟩, a3, a4⟩ := wk_step h h0 h1
  rw [a3, a4, (wk_dnE _).1 ho, (wk_dtE _).1 ho]
  exact ⟨a1 ho, rfl, rfl⟩
theorem wk_s2 (h : wk_O f x b) (h0 : f (x + 1) ≤ i) (h1 : i < f (x + 2)) (ho : f (b + 2 * i) = 2) : (2 ≤ wkN f b (f (x + 1)) i ∧ 1 ≤ wkT f b (f (x + 1)) i) ∧ wkN f b (f (x + 1)) (i + 1) = wkN f b (f (x + 1)) i + -1 ∧ wkT f b (f (x + 1)) (i + 1) = wkT f b (f (x + 1)) i + -1 := by
  obtain ⟨a1, a3, a4⟩ := wk_step h h0 h1
  rw [a3, a4, (wk_dnE _).2.1 (Or.inl ho), (wk_dtE _).2.1 ho]
  exact ⟨a1.2.1 ho, rfl, rfl⟩
theorem wk_s30 (h : wk_O f x b) (h0 : f (x + 1) ≤ i) (h1 : i < f (x + 2)) (ho : f (b + 2 * i) = 30) : (1 ≤ wkN f b (f (x + 1)) i ∧ 0 ≤ f (b + 2 * i + 1) ∧ f (b + 2 * i + 1) < 80) ∧ wkN f b (f (x + 1)) (i + 1) = wkN f b (f (x + 1)) i + -1 ∧ wkT f b (f (x + 1)) (i + 1) = wkT f b (f (x + 1)) i + 0 := by
  obtain ⟨a1, a3, a4⟩ := wk_step h h0 h1
  rw [a3, a4, (wk_dnE _).2.1 (Or.inr ho), (wk_dtE _).2.2.1 (Or.inl ho)]
  exact ⟨a1.2.2.1 ho, rfl, rfl⟩
theorem wk_s3 (h : wk_O f x b) (h0 : f (x + 1) ≤ i) (h1 : i < f (x + 2)) (ho : f (b + 2 * i) = 3) : 1 ≤ wkN f b (f (x + 1)) i ∧ wkN f b (f (x + 1)) (i + 1) = wkN f b (f (x + 1)) i + 0 ∧ wkT f b (f (x + 1)) (i + 1) = wkT f b (f (x + 1)) i + 0 := by
  obtain ⟨a1, a3, a4⟩ := wk_step h h0 h1
  rw [a3, a4, (wk_dnE _).2.2.1 ho, (wk_dtE _).2.2.1 (Or.inr ho)]
  exact ⟨a1.2.2.2.1 ho, rfl, rfl⟩
theorem wk_s4 (h : wk_O f x b) (h0 : f (x + 1) ≤ i) (h1 : i < f (x + 2)) (ho : 4 ≤ f (b + 2 * i) ∧ f (b + 2 * i) < 10) : 2 ≤ wkN f b (f (x + 1)) i ∧ wkN f b (f (x + 1)) (i + 1) = wkN f b (f (x + 1)) i + -1 ∧ wkT f b (f (x + 1)) (i + 1) = wkT f b (f (x + 1)) i + 0 := by
  obtain ⟨a1, a3, a4⟩ := wk_step h h0 h1
  rw [a3, a4, (wk_dnE _).2.2.2.1 ho, (wk_dtE _).2.2.2.1 ho]
  exact ⟨a1.2.2.2.2.1 (by omega), rfl, rfl⟩
theorem wk_s10 (h : wk_O f x b) (h0 : f (x + 1) ≤ i) (h1 : i < f (x + 2)) (ho : 10 ≤ f (b + 2 * i) ∧ f (b + 2 * i) < 20) : 2 ≤ wkN f b (f (x + 1)) i ∧ wkN f b (f (x + 1)) (i + 1) = wkN f b (f (x + 1)) i + -2 ∧ wkT f b (f (x + 1)) (i + 1) = wkT f b (f (x + 1)) i + 1 := by
  obtain ⟨a1, a3, a4⟩ := wk_step h h0 h1
  rw [a3, a4, (wk_dnE _).2.2.2.2.1 ho, (wk_dtE _).2.2.2.2.1 ho]
  exact ⟨a1.2.2.2.2.1 (by omega), rfl, rfl⟩
theorem wk_s20 (h : wk_O f x b) (h0 : f (x + 1) ≤ i) (h1 : i < f (x + 2)) (ho : f (b + 2 * i) = 20) : 1 ≤ wkT f b (f (x + 1)) i ∧ wkN f b (f (x + 1)) (i + 1) = wkN f b (f (x + 1)) i + 0 ∧ wkT f b (f (x + 1)) (i + 1) = wkT f b (f (x + 1)) i + 0 := by
  obtain ⟨a1, a3, a4⟩ := wk_step h h0 h1
  rw [a3, a4, (wk_dnE _).2.2.2.2.2 (by omega), (wk_dtE _).2.2.2.2.2.1 ho]
  exact ⟨a1.2.2.2.2.2.1 ho, rfl, rfl⟩
theorem wk_s21 (h : wk_O f x b) (h0 : f (x + 1) ≤ i) (h1 : i < f (x + 2)) (ho : 21 ≤ f (b + 2 * i) ∧ f (b + 2 * i) ≠ 30 ∧ f (b + 2 * i) ≠ 31) : 2 ≤ wkT f b (f (x + 1)) i ∧ wkN f b (f (x + 1)) (i + 1) = wkN f b (f (x + 1)) i + 0 ∧ wkT f b (f (x + 1)) (i + 1) = wkT f b (f (x + 1)) i + -1 := by
  obtain ⟨a1, a3, a4⟩ := wk_step h h0 h1
  rw [a3, a4, (wk_dnE _).2.2.2.2.2 (by omega), (wk_dtE _).2.2.2.2.2.2 ho]
  exact ⟨a1.2.2.2.2.2.2 ho, rfl, rfl⟩
end WS
theorem pz_Yn2 {t0 w K o l sl b n v u : Int} (h : pz_Y p f t0 w K o l sl b n v u) : 0 ≤ K ∧ K ≤ 6 * o + 5 ∧ 0 ≤ o ∧ 0 ≤ l ∧ l ≤ o ∧ 0 ≤ w ∧ w + K ≤ b ∧ 4 * sl + 3 * pz_4 p K ≤ b ∧ 0 ≤ pz_4 p K ∧ f t0 = n ∧ 0 ≤ n ∧ n < 24 :=
  have a := pz_Yn h
  ⟨a.1, a.2.1, a.2.2.1, a.2.2.2.1, a.2.2.2.2.1, a.2.2.2.2.2.1, a.2.2.2.2.2.2.1, a.2.2.2.2.2.2.2.1, a.2.2.2.2.2.2.2.2.1, a.2.2.2.2.2.2.2.2.2.1, a.2.2.2.2.2.2.2.2.2.2.1, a.2.2.2.2.2.2.2.2.2.2.2.1⟩
theorem pz_Wn2 {t0 w K o l sl b n q : Int} (h : pz_W p f t0 w K o l sl b n q) : 0 ≤ K ∧ K ≤ 6 * o + 5 ∧ 0 ≤ o ∧ 0 ≤ l ∧ l ≤ o ∧ 0 ≤ w ∧ w + K ≤ b ∧ 4 * sl + 3 * pz_4 p K ≤ b ∧ 0 ≤ pz_4 p K ∧ f t0 = n ∧ 0 ≤ n ∧ n < 24 :=
  have a := pz_Wn h
  ⟨a.1, a.2.1, a.2.2.1, a.2.2.2.1, a.2.2.2.2.1, a.2.2.2.2.2.1, a.2.2.2.2.2.2.1, a.2.2.2.2.2.2.2.1, a.2.2.2.2.2.2.2.2.1, a.2.2.2.2.2.2.2.2.2.1, a.2.2.2.2.2.2.2.2.2.2.1, a.2.2.2.2.2.2.2.2.2.2.2.1⟩
end PZ
/-! the way on of a person that is sent: distances by rounds -/
section BF
variable {f g g' : Int → Int}
def bf_n (f g : Int → Int) (s : Int) : Nat → Int
  | 0 => 0
  | k + 1 => if 0 ≤ iv_os f k s ∧ g (iv_os f k s) = g s - 1 then 1 else bf_n f g s k
def bf_e (f g : Int → Int) (s k : Int) : Int := bf_n f g s k.toNat
theorem bf_eS {s k : Int} (h : 0 ≤ k) : (0 ≤ iv_os f k s ∧ g (iv_os f k s) = g s - 1 → bf_e f g s (k + 1) = 1) ∧ (¬ (0 ≤ iv_os f k s ∧ g (iv_os f k s) = g s - 1) → bf_e f g s (k + 1) = bf_e f g s k) := by
  obtain ⟨m, rfl, h1, h2⟩ := pz_tn h
  unfold bf_e
  rw [h2, h1]
  exact ⟨fun c => if_pos c, fun c => if_neg c⟩
theorem bf_ex {s w : Int} (h0 : 0 ≤ w) (h : 0 ≤ iv_os f w s ∧ g (iv_os f w s) = g s - 1) : ∀ m : Nat, w < m → bf_n f g s m = 1
  | 0, hm => by omega
  | m + 1, hm => by
    show (if 0 ≤ iv_os f m s ∧ g (iv_os f m s) = g s - 1 then 1 else bf_n f g s m) = 1
    by_cases hc : 0 ≤ iv_os f m s ∧ g (iv_os f m s) = g s - 1
    · exact if_pos hc
    · rw [if_neg hc]
      refine bf_ex h0 h m ?_
      by_cases hw : w = m
      · subst hw; exact absurd h hc
      · omega
theorem bf_of {s w m : Int} (h0 : 0 ≤ w) (h1 : w < m) (h : 0 ≤ iv_os f w s ∧ g (iv_os f w s) = g s - 1) : bf_e f g s m = 1 := bf_ex h0 h _ (by omega)
def bf_Z (g : Int → Int) (t : Int) : Prop := ∀ s : Int, 0 ≤ s → s < 12 → 0 ≤ g s ∧ (g s = 0 → s = t)
def bf_S (f g : Int → Int) : Prop := ∀ s : Int, 0 ≤ s → s < 12 → g s < 1000 → g s ≠ 0 → ∃ w : Int, 0 ≤ w ∧ w < f 1 ∧ 0 ≤ iv_os f w s ∧ iv_os f w s < 12 ∧ g (iv_os f w s) + 1 ≤ g s
def bf_T (f g : Int → Int) (r k : Int) : Prop := ∀ w : Int, 0 ≤ w → w < k → (g (f (50 + 4 * w)) < r → g (f (50 + 4 * w + 1)) ≤ g (f (50 + 4 * w)) + 1) ∧ (g (f (50 + 4 * w + 1)) < r → g (f (50 + 4 * w)) ≤ g (f (50 + 4 * w + 1)) + 1)
def bf_R (f g : Int → Int) (r t : Int) : Prop := bf_Z g t ∧ bf_S f g ∧ bf_T f g r (f 1)
def bf_J (f g : Int → Int) (r k t : Int) : Prop := bf_Z g t ∧ bf_S f g ∧ bf_T f g r (f 1) ∧ bf_T f g (r + 1) k
def bf_i (g : Int → Int) (k t : Int) : Prop := ∀ j : Int, 0 ≤ j → j < k → (g j = 0 ∧ j = t) ∨ g j = 1000
theorem bf_R0 {t : Int} (h : bf_i g 12 t) (e : ∀ w : Int, 0 ≤ w → w < f 1 → 0 ≤ f (50 + 4 * w) ∧ f (50 + 4 * w) < 12 ∧ 0 ≤ f (50 + 4 * w + 1) ∧ f (50 + 4 * w + 1) < 12) : bf_R f g 0 t := by
  refine ⟨fun s a b => ?_, fun s a b c d => ?_, fun w a b => ?_⟩
  · rcases h s a b with ⟨h1, h2⟩ | h1 <;> constructor <;> omega
  · exfalso
    rcases h s a b with ⟨h1, h2⟩ | h1 <;> omega
  · obtain ⟨e1, e2, e3, e4⟩ := e w a b
    have q1 := h _ e1 e2
    have q2 := h _ e3 e4
    constructor <;> intro hq <;> exfalso <;> omega
theorem bf_J0 {r t : Int} (h : bf_R f g r t) : bf_J f g r 0 t := ⟨h.1, h.2.1, h.2.2, fun w a b => by omega⟩
theorem bf_RJ {r k t : Int} (h : bf_J f g r k t) (hk : f 1 ≤ k) : bf_R f g (r + 1) t := ⟨h.1, h.2.1, fun w a b => h.2.2.2 w a (by omega)⟩
theorem bf_Tu {q k a b : Int} (hT : bf_T f g q k) (hq : q ≤ g a + 1) (hlt : g a + 1 ≤ g b) (e1 : g' b = g a + 1) (e2 : ∀ j, j ≠ b → g' j = g j) : bf_T f g' q k := by
  have key : ∀ u v : Int, (g u < q → g v ≤ g u + 1) → g' u < q → g' v ≤ g' u + 1 := by
    intro u v h1 h2
    by_cases hu : u = b
    · subst hu; rw [e1] at h2; omega
    · rw [e2 u hu] at h2 ⊢
      have := h1 h2
      by_cases hv : v = b
      · subst hv; rw [e1]; omega
      · rw [e2 v hv]; exact this
  intro w h0 h1
  exact ⟨key _ _ (hT w h0 h1).1, key _ _ (hT w h0 h1).2⟩
theorem bf_rx {r k t a b w : Int} (h : bf_J f g r k t) (hw : 0 ≤ w ∧ w < f 1) (hab : (f (50 + 4 * w) = a ∧ f (50 + 4 * w + 1) = b) ∨ (f (50 + 4 * w) = b ∧ f (50 + 4 * w + 1) = a)) (ha : 0 ≤ a ∧ a < 12) (hlt : g a + 1 < g b) (e1 : g' b = g a + 1) (e2 : ∀ j, j ≠ b → g' j = g j) : bf_J f g' r k t := by
  obtain ⟨hZ, hS, hT, hU⟩ := h
  have hs : iv_os f w b = a := by
    unfold iv_os
    rcases hab with ⟨p1, p2⟩ | ⟨p1, p2⟩
    · rw [p1, p2]
      by_cases hq : a = b
      · rw [if_pos hq]; exact hq.symm
      · rw [if_neg hq, if_pos rfl]
    · rw [p1, if_pos rfl, p2]
  have hra : r ≤ g a := by
    by_cases hq : g a < r
    · have hTw := hT w hw.1 hw.2
      rcases hab with ⟨p1, p2⟩ | ⟨p1, p2⟩
      · rw [p1, p2] at hTw; have := hTw.1 hq; omega
      · rw [p1, p2] at hTw; have := hTw.2 hq; omega
    · omega
  have hne : a ≠ b := fun e => by subst e; omega
  refine ⟨fun s h0 h1 => ?_, fun s h0 h1 hf hn => ?_, bf_Tu hT (by omega) (by omega) e1 e2, bf_Tu hU (by omega) (by omega) e1 e2⟩
  · by_cases hq : s = b
    · subst hq; rw [e1]; have := (hZ a ha.1 ha.2).1; constructor <;> omega
    · rw [e2 s hq]; exact hZ s h0 h1
  · by_cases hq : s = b
    · subst hq
      exact ⟨w, hw.1, hw.2, by rw [hs]; exact ha.1, by rw [hs]; exact ha.2, by rw [hs, e1, e2 a hne]; omega⟩
    · rw [e2 s hq] at hf hn
      obtain ⟨w', q0, q1, q2, q3, q4⟩ := hS s h0 h1 hf hn
      refine ⟨w', q0, q1, q2, q3, ?_⟩
      rw [e2 s hq]
      by_cases hv : iv_os f w' s = b
      · rw [hv] at q4 ⊢; rw [e1]; omega
      · rw [e2 _ hv]; exact q4
theorem bf_nx {r k t : Int} (h : bf_J f g r k t) (h1 : g (f (50 + 4 * k + 1)) ≤ g (f (50 + 4 * k)) + 1) (h2 : g (f (50 + 4 * k)) ≤ g (f (50 + 4 * k + 1)) + 1) : bf_J f g r (k + 1) t := by
  refine ⟨h.1, h.2.1, h.2.2.1, fun w a b => ?_⟩
  by_cases hw : w = k
  · subst hw; exact ⟨fun _ => h1, fun _ => h2⟩
  · exact h.2.2.2 w a (by omega)
theorem bf_su {n s w : Int} (hT : bf_T f g n (f 1)) (h0 : 0 ≤ w) (h1 : w < f 1) (h2 : 0 ≤ iv_os f w s) (h3 : g (iv_os f w s) < n) : g s ≤ g (iv_os f w s) + 1 := by
  have hTw := hT w h0 h1
  by_cases p1 : f (50 + 4 * w) = s
  · have e : iv_os f w s = f (50 + 4 * w + 1) := if_pos p1
    rw [e] at h3 ⊢
    rw [p1] at hTw
    exact hTw.2 h3
  · by_cases p2 : f (50 + 4 * w + 1) = s
    · have e : iv_os f w s = f (50 + 4 * w) := by unfold iv_os; rw [if_neg p1, if_pos p2]
      rw [e] at h3 ⊢
      rw [p2] at hTw
      exact hTw.1 h3
    · have e : iv_os f w s = -1 := by unfold iv_os; rw [if_neg p1, if_neg p2]
      omega
theorem bf_vx {s w : Int} (hep : iv_ep f) (h0 : 0 ≤ w) (h1 : w < f 1) (hm : f 1 ≤ 16) (h2 : 0 ≤ iv_os f w s) : s < f 0 := by
  have he := hep w h0 (by omega) h1
  by_cases p1 : f (50 + 4 * w) = s
  · rw [p1] at he; exact he.1
  · by_cases p2 : f (50 + 4 * w + 1) = s
    · rw [p2] at he; exact he.2
    · have e : iv_os f w s = -1 := by unfold iv_os; rw [if_neg p1, if_neg p2]
      omega
def bf_c (g : Int → Int) (r : Int) : Nat → Int
  | 0 => 0
  | k + 1 => bf_c g r k + (if 1 ≤ g k ∧ g k ≤ r then 1 else 0)
theorem bf_cL {r : Int} : ∀ k : Nat, bf_c g r k ≤ k
  | 0 => Int.le_refl 0
  | k + 1 => by
    have := bf_cL (r := r) k
    show bf_c g r k + (if 1 ≤ g k ∧ g k ≤ r then 1 else 0) ≤ ((k + 1 : Nat) : Int)
    split <;> omega
theorem bf_cM {r q : Int} (h : r ≤ q) : ∀ k : Nat, bf_c g r k ≤ bf_c g q k
  | 0 => Int.le_refl 0
  | k + 1 => by
    have := bf_cM h k
    show bf_c g r k + (if 1 ≤ g k ∧ g k ≤ r then 1 else 0) ≤ bf_c g q k + (if 1 ≤ g k ∧ g k ≤ q then 1 else 0)
    by_cases h1 : 1 ≤ g k ∧ g k ≤ r
    · rw [if_pos h1, if_pos ⟨h1.1, by omega⟩]; omega
    · rw [if_neg h1]; split <;> omega
theorem bf_cS {r q : Int} {v : Int} (h : r ≤ q) (v0 : 0 ≤ v) (v1 : r < g v) (v2 : g v ≤ q) (v3 : 1 ≤ g v) : ∀ k : Nat, v < k → bf_c g r k + 1 ≤ bf_c g q k
  | 0, hk => by omega
  | k + 1, hk => by
    show bf_c g r k + (if 1 ≤ g k ∧ g k ≤ r then 1 else 0) + 1 ≤ bf_c g q k + (if 1 ≤ g k ∧ g k ≤ q then 1 else 0)
    by_cases hv : v = k
    · subst hv
      have := bf_cM (g := g) h k
      rw [if_neg (by omega), if_pos ⟨v3, v2⟩]
      omega
    · have := bf_cS h v0 v1 v2 v3 k (by omega)
      by_cases h1 : 1 ≤ g k ∧ g k ≤ r
      · rw [if_pos h1, if_pos ⟨h1.1, by omega⟩]; omega
      · rw [if_neg h1]; split <;> omega
/-- at the end all distances are right -/
theorem bf_end {n t : Int} (hR : bf_R f g n t) (hn : f 0 = n) (hep : iv_ep f) (hm : f 1 ≤ 16) (hn0 : 0 ≤ n) : ∀ s : Int, 0 ≤ s → s < 12 → s ≠ t → g s < 1000 → bf_e f g s (f 1) = 1 := by
  obtain ⟨hZ, hS, hT⟩ := hR
  have hz : ∀ s, 0 ≤ s → s < 12 → 0 ≤ g s := fun s a b => (hZ s a b).1
  have hlt : ∀ s, 0 ≤ s → s < 12 → g s < 1000 → g s ≠ 0 → s < n := by
    intro s a b c d
    obtain ⟨w, q0, q1, q2, q3, q4⟩ := hS s a b c d
    rw [← hn]
    exact bf_vx hep q0 q1 hm q2
  have down : ∀ s d : Int, 0 ≤ s → s < 12 → g s = d → 1 ≤ d → d ≤ n → d < 1000 → ∃ u, 0 ≤ u ∧ u < 12 ∧ g u = d - 1 := by
    intro s d a b c d1 d2 d3
    obtain ⟨w, q0, q1, q2, q3, q4⟩ := hS s a b (by omega) (by omega)
    have := bf_su hT q0 q1 q2 (by omega)
    exact ⟨_, q2, q3, by omega⟩
  have high : ∀ s : Int, 0 ≤ s → s < 12 → g s < 1000 → g s ≤ n := by
    intro s a b c
    by_cases hq : g s ≤ n
    · exact hq
    · exfalso
      have top : ∀ (k : Nat) (s : Int), 0 ≤ s → s < 12 → g s < 1000 → n < g s → (g s - n).toNat ≤ k → ∃ u, 0 ≤ u ∧ u < 12 ∧ g u = n := by
        intro k
        induction k with
        | zero => intro s a b c d e; omega
        | succ k ih =>
          intro s a b c d e
          obtain ⟨w, q0, q1, q2, q3, q4⟩ := hS s a b c (by omega)
          by_cases p1 : g (iv_os f w s) < n
          · have := bf_su hT q0 q1 q2 p1; omega
          · by_cases p2 : g (iv_os f w s) = n
            · exact ⟨_, q2, q3, p2⟩
            · exact ih _ q2 q3 (by omega) (by omega) (by omega)
      have n1 : n < 1000 := by omega
      obtain ⟨u0, a0, b0, c0⟩ := top _ s a b c (by omega) (Nat.le_refl _)
      have lev : ∀ j : Nat, (j : Int) ≤ n → ∃ u, 0 ≤ u ∧ u < 12 ∧ g u = n - j := by
        intro j
        induction j with
        | zero => intro _; exact ⟨u0, a0, b0, by omega⟩
        | succ j ih =>
          intro hj
          obtain ⟨u, a, b, c⟩ := ih (by omega)
          obtain ⟨u', a', b', c'⟩ := down u (n - j) a b c (by omega) (by omega) (by omega)
          exact ⟨u', a', b', by omega⟩
      have cnt : ∀ d : Nat, (d : Int) ≤ n → (d : Int) ≤ bf_c g d n.toNat := by
        intro d
        induction d with
        | zero =>
          intro _
          have : ∀ k : Nat, 0 ≤ bf_c g ((0 : Nat) : Int) k := by
            intro k
            induction k with
            | zero => exact Int.le_refl 0
            | succ k ih =>
              show 0 ≤ bf_c g ((0 : Nat) : Int) k + (if 1 ≤ g k ∧ g k ≤ ((0 : Nat) : Int) then 1 else 0)
              split <;> omega
          exact this _
        | succ d ih =>
          intro hd
          have h1 := ih (by omega)
          obtain ⟨u, a, b, c⟩ := lev (n - (d + 1)).toNat (by omega)
          have hu := hlt u a b (by omega) (by omega)
          have := bf_cS (g := g) (r := (d : Int)) (q := ((d + 1 : Nat) : Int)) (v := u) (by omega) a (by omega) (by omega) (by omega) n.toNat (by omega)
          omega
      have h1 := cnt n.toNat (by omega)
      have hu := hlt s a b c (by omega)
      have h2 := bf_cS (g := g) (r := ((n.toNat : Nat) : Int)) (q := 1000) (v := s) (by omega) a (by omega) (by omega) (by omega) n.toNat (by omega)
      have h3 := bf_cL (g := g) (r := 1000) n.toNat
      omega
  intro s a b hst c
  have hn0' : g s ≠ 0 := fun e => hst ((hZ s a b).2 e)
  obtain ⟨w, q0, q1, q2, q3, q4⟩ := hS s a b c hn0'
  have hh := high s a b c
  have := bf_su hT q0 q1 q2 (by omega)
  exact bf_of q0 q1 ⟨q2, by omega⟩
def bf_G (f g : Int → Int) (t : Int) : Prop := ∀ s : Int, 0 ≤ s → s < 12 → s ≠ t → g s < 1000 → bf_e f g s (f 1) = 1
theorem bf_nc {s : Int} {f' : Int → Int} : ∀ m : Nat, (∀ j : Int, 0 ≤ j → j < m → iv_os f' j s = iv_os f j s) → bf_n f' g s m = bf_n f g s m
  | 0, _ => rfl
  | m + 1, h => by
    show (if 0 ≤ iv_os f' m s ∧ g (iv_os f' m s) = g s - 1 then 1 else bf_n f' g s m) = (if 0 ≤ iv_os f m s ∧ g (iv_os f m s) = g s - 1 then 1 else bf_n f g s m)
    rw [h m (by omega) (by omega), bf_nc m (fun j a b => h j a (by omega))]
/-- what is not of ways leaves it as it is -/
theorem bf_Gc {f' : Int → Int} {t : Int} (h : bf_G f g t) (hg : g' = g) (hf : ∀ i : Int, i < 114 → f' i = f i) (hm : f 1 ≤ 16) : bf_G f' g' t := by
  subst hg
  intro s a b c d
  have e1 : f' 1 = f 1 := hf 1 (by decide)
  have := h s a b c d
  unfold bf_e at this ⊢
  rw [e1, bf_nc _ (fun j j0 j1 => ?_)]
  · exact this
  · unfold iv_os
    rw [hf _ (by omega), hf _ (by omega)]
theorem bf_iS {k t i v : Int} (h : bf_i g k t) (e1 : g' i = v) (e2 : ∀ j, j ≠ i → g' j = g j) (hi : i = k) (hv : (v = 0 ∧ k = t) ∨ v = 1000) : bf_i g' (k + 1) t := by
  subst hi
  intro j a b
  by_cases hj : j = i
  · subst hj; rw [e1]; exact hv
  · rw [e2 j hj]; exact h j a (by omega)
theorem bf_iK {k t : Int} (h : bf_i g k t) (hk : 12 ≤ k) : bf_i g 12 t := fun j a b => h j a (by omega)
section A
variable {I : Nat → Int → Int} {P : Nat → Option Nat}
theorem bf_m16 (h : iv_A I P) : I 96 1 ≤ 16 := (h.1 96 1).2
theorem bf_ep (h : iv_A I P) : iv_ep (I 96) := h.2.2.2.1.2.1
theorem bf_e50 {i x : Int} (e : i = 50 + 4 * x) (h : 0 ≤ x ∧ x ≤ 15) : 0 ≤ (iv_a i).1 ∧ (iv_a i).2 ≤ 11 := by
  unfold iv_a
  repeat' refine iv_itR (fun h => ?_) (fun h => ?_)
  all_goals first | exact ⟨by decide, by decide⟩ | (exfalso; omega)
theorem bf_e51 {i x : Int} (e : i = 50 + 4 * x + 1) (h : 0 ≤ x ∧ x ≤ 15) : 0 ≤ (iv_a i).1 ∧ (iv_a i).2 ≤ 11 := by
  unfold iv_a
  repeat' refine iv_itR (fun h => ?_) (fun h => ?_)
  all_goals first | exact ⟨by decide, by decide⟩ | (exfalso; omega)
theorem bf_ends (h : iv_A I P) : ∀ w : Int, 0 ≤ w → w < I 96 1 → 0 ≤ I 96 (50 + 4 * w) ∧ I 96 (50 + 4 * w) < 12 ∧ 0 ≤ I 96 (50 + 4 * w + 1) ∧ I 96 (50 + 4 * w + 1) < 12 := by
  intro w h0 h1
  have hm := bf_m16 h
  have a := iv_rd96 h (bf_e50 (i := 50 + 4 * w) rfl ⟨h0, by omega⟩)
  have b := iv_rd96 h (bf_e51 (i := 50 + 4 * w + 1) rfl ⟨h0, by omega⟩)
  omega
theorem bf_endA {r t : Int} (h : iv_A I P) (hR : bf_R (I 96) g r t) (hn : I 96 0 ≤ r) : bf_G (I 96) g t :=
  bf_end (n := I 96 0) ⟨hR.1, hR.2.1, fun w a b => ⟨fun c => (hR.2.2 w a b).1 (by omega), fun c => (hR.2.2 w a b).2 (by omega)⟩⟩ rfl (bf_ep h) (bf_m16 h) (h.1 96 0).1
theorem bf_r1 {r k t a b : Int} (h : bf_J (I 96) (I 108) r k t) (hw : 0 ≤ k ∧ k < I 96 1) (ea : I 96 (50 + 4 * k) = a) (eb : I 96 (50 + 4 * k + 1) = b) (ha : 0 ≤ a ∧ a < 12) (hlt : I 108 a + 1 < I 108 b) : bf_J (I 96) (lf_up I 108 b (I 108 a + 1) 108) r k t := bf_rx h hw (Or.inl ⟨ea, eb⟩) ha hlt lf_up_s (fun j hj => lf_up_i hj)
theorem bf_le1 {a b : Int} (hlt : I 108 a + 1 < I 108 b) : lf_up I 108 b (I 108 a + 1) 108 b ≤ lf_up I 108 b (I 108 a + 1) 108 a + 1 := by
  have hne : a ≠ b := fun e => by subst e; omega
  rw [lf_up_s, lf_up_i hne]
  exact Int.le_refl _
theorem bf_r3 {r k t a b : Int} (h : bf_J f g r k t) (ea : f (50 + 4 * k) = a) (eb : f (50 + 4 * k + 1) = b) (h1 : g b ≤ g a + 1) (h2 : g a ≤ g b + 1) : bf_J f g r (k + 1) t := by
  subst ea eb
  exact bf_nx h h1 h2
theorem bf_r2 {r k t a b : Int} (h : bf_J (I 96) (I 108) r k t) (hw : 0 ≤ k ∧ k < I 96 1) (ea : I 96 (50 + 4 * k) = a) (eb : I 96 (50 + 4 * k + 1) = b) (hb : 0 ≤ b ∧ b < 12) (hlt : I 108 b + 1 < I 108 a) (hle : I 108 b ≤ I 108 a + 1) : bf_J (I 96) (lf_up I 108 a (I 108 b + 1) 108) r (k + 1) t := by
  have hne : b ≠ a := fun e => by subst e; omega
  refine bf_r3 (bf_rx h hw (Or.inr ⟨ea, eb⟩) hb hlt lf_up_s (fun j hj => lf_up_i hj)) ea eb ?_ ?_
  · rw [lf_up_s, lf_up_i hne]; omega
  · rw [lf_up_s, lf_up_i hne]; exact Int.le_refl _
theorem bf_Gt {t t' : Int} (h : bf_G f g t) (e : t' = t) : bf_G f g t' := by
  subst e
  exact h
end A
end BF
/-! how many of a row are true -/
section CT
variable {f f' : Int → Int}
def lf_cn (f : Int → Int) : Nat → Int
  | 0 => 0
  | k + 1 => lf_cn f k + f k
def lf_ct (f : Int → Int) (k : Int) : Int := lf_cn f k.toNat
theorem lf_cnc : ∀ m : Nat, (∀ j : Int, 0 ≤ j → j < m → f' j = f j) → lf_cn f' m = lf_cn f m
  | 0, _ => rfl
  | m + 1, h => by
    show lf_cn f' m + f' m = lf_cn f m + f m
    rw [lf_cnc m (fun j a b => h j a (by omega)), h m (by omega) (by omega)]
theorem lf_ctz {k : Int} (h0 : 0 ≤ k) (h : lf_ct f k = 0) (e1 : f' k = 0) (e2 : ∀ j, j ≠ k → f' j = f j) : lf_ct f' (k + 1) = 0 := by
  obtain ⟨m, rfl, h1, h2⟩ := pz_tn h0
  unfold lf_ct at h ⊢
  rw [h2]
  rw [h1] at h
  show lf_cn f' m + f' m = 0
  rw [lf_cnc m (fun j a b => e2 j (by omega)), h, e1]
  rfl
theorem lf_cnu {i : Int} (e1 : f' i = f i + 1) (e2 : ∀ j, j ≠ i → f' j = f j) (h0 : 0 ≤ i) : ∀ m : Nat, i < m → lf_cn f' m = lf_cn f m + 1
  | 0, h => by omega
  | m + 1, h => by
    show lf_cn f' m + f' m = lf_cn f m + f m + 1
    by_cases hi : i = m
    · subst hi
      rw [lf_cnc m (fun j a b => e2 j (by omega)), e1]
      omega
    · rw [lf_cnu e1 e2 h0 m (by omega), e2 m (fun e => hi e.symm)]
      omega
theorem lf_ctu {i k : Int} (h0 : 0 ≤ i) (h1 : i < k) (e1 : f' i = f i + 1) (e2 : ∀ j, j ≠ i → f' j = f j) : lf_ct f' k = lf_ct f k + 1 := lf_cnu e1 e2 h0 _ (by omega)
theorem lf_cnl (hb : ∀ j, f j ≤ 1) : ∀ m : Nat, lf_cn f m ≤ m
  | 0 => Int.le_refl 0
  | m + 1 => by
    have := lf_cnl hb m
    have := hb m
    show lf_cn f m + f m ≤ ((m + 1 : Nat) : Int)
    omega
theorem lf_cns (hb : ∀ j, f j ≤ 1) {i : Int} (h0 : 0 ≤ i) (hi : f i = 0) : ∀ m : Nat, i < m → lf_cn f m + 1 ≤ m
  | 0, h => by omega
  | m + 1, h => by
    show lf_cn f m + f m + 1 ≤ ((m + 1 : Nat) : Int)
    by_cases hq : i = m
    · subst hq
      have := lf_cnl hb m
      omega
    · have := lf_cns hb h0 hi m (by omega)
      have := hb m
      omega
theorem lf_ctl (hb : ∀ j, f j ≤ 1) {k : Int} (h : 0 ≤ k) : lf_ct f k ≤ k := by
  have := lf_cnl hb k.toNat
  unfold lf_ct
  omega
theorem lf_cts (hb : ∀ j, f j ≤ 1) {i k : Int} (h0 : 0 ≤ i) (h1 : i < k) (hi : f i = 0) : lf_ct f k + 1 ≤ k := by
  have := lf_cns hb h0 hi k.toNat (by omega)
  unfold lf_ct
  omega
def lf_zr (f : Int → Int) (k : Int) : Prop := ∀ j : Int, 0 ≤ j → j < k → f j = 0
theorem lf_zrS {k : Int} (h : lf_zr f k) (e1 : f' k = 0) (e2 : ∀ j, j ≠ k → f' j = f j) : lf_zr f' (k + 1) := by
  intro j a b
  by_cases hj : j = k
  · subst hj; exact e1
  · rw [e2 j hj]; exact h j a (by omega)
theorem lf_zr0 : ∀ m : Nat, lf_zr f m → lf_cn f m = 0
  | 0, _ => rfl
  | m + 1, h => by
    show lf_cn f m + f m = 0
    rw [lf_zr0 m (fun j a b => h j a (by omega)), h m (by omega) (by omega)]
    rfl
theorem lf_zr1 {k i : Int} (h : lf_zr f k) (hk : 156 ≤ k) (h0 : 0 ≤ i) (h1 : i < 156) (e1 : f' i = 1) (e2 : ∀ j, j ≠ i → f' j = f j) : lf_ct f' 156 = 1 := by
  have e := lf_ctu (k := 156) h0 h1 (by rw [e1, h i h0 (by omega)]; rfl) e2
  rw [e]
  have : lf_cn f 156 = 0 := lf_zr0 156 (fun j a b => h j a (by omega))
  show lf_cn f 156 + 1 = 1
  rw [this]
  rfl
end CT
/-! tries that were like -/
section TM
variable {f : Int → Int} {h t : Int}
def lf_tn (f : Int → Int) (h t : Int) : Nat → Int
  | 0 => 0
  | k + 1 => lf_tn f h t k + (if f (254 + 2 * k) = h ∧ (t = 0 ∨ f (254 + 2 * k + 1) = 1) then 1 else 0)
def lf_tm (f : Int → Int) (h t k : Int) : Int := lf_tn f h t k.toNat
theorem lf_tm0 : lf_tm f h t 0 = 0 := rfl
theorem lf_tmN {k : Int} (h0 : 0 ≤ k) : lf_tm f h t (k + 1) = lf_tm f h t k + (if f (254 + 2 * k) = h ∧ (t = 0 ∨ f (254 + 2 * k + 1) = 1) then 1 else 0) := by
  obtain ⟨m, rfl, h1, h2⟩ := pz_tn h0
  unfold lf_tm
  rw [h2, h1]
  rfl
theorem lf_tm1 {k : Int} (h0 : 0 ≤ k) (hc : f (254 + 2 * k) = h ∧ (t = 0 ∨ f (254 + 2 * k + 1) = 1)) : lf_tm f h t (k + 1) = lf_tm f h t k + 1 := by rw [lf_tmN h0, if_pos hc]
theorem lf_tm2 {k : Int} (h0 : 0 ≤ k) (hc : ¬ (f (254 + 2 * k) = h ∧ (t = 0 ∨ f (254 + 2 * k + 1) = 1))) : lf_tm f h t (k + 1) = lf_tm f h t k + 0 := by rw [lf_tmN h0, if_neg hc]
end TM
/-! beasts counted, steps kept -/
section SZ
variable {I I' : Nat → Int → Int} {P : Nat → Option Nat}
theorem lf_c4 (f : Int → Int) (k : Int) : (k = 0 → f (114 + 3 * k) = f 114) ∧ (k = 1 → f (114 + 3 * k) = f 117) ∧ (k = 2 → f (114 + 3 * k) = f 120) ∧ (k = 3 → f (114 + 3 * k) = f 123) :=
  ⟨fun h => by subst h; rfl, fun h => by subst h; rfl, fun h => by subst h; rfl, fun h => by subst h; rfl⟩
theorem iv_sumU {i v : Int} (hi : i = 114 ∨ i = 117 ∨ i = 120 ∨ i = 123) : lf_up I 96 i v 96 114 + lf_up I 96 i v 96 117 + lf_up I 96 i v 96 120 + lf_up I 96 i v 96 123 = I 96 114 + I 96 117 + I 96 120 + I 96 123 - I 96 i + v := by
  rcases hi with rfl | rfl | rfl | rfl
  · rw [lf_up_s, lf_up_i (by decide), lf_up_i (by decide), lf_up_i (by decide)]; omega
  · rw [lf_up_s, lf_up_i (b := 114) (by decide), lf_up_i (b := 120) (by decide), lf_up_i (b := 123) (by decide)]; omega
  · rw [lf_up_s, lf_up_i (b := 114) (by decide), lf_up_i (b := 117) (by decide), lf_up_i (b := 123) (by decide)]; omega
  · rw [lf_up_s, lf_up_i (b := 114) (by decide), lf_up_i (b := 117) (by decide), lf_up_i (b := 120) (by decide)]; omega
theorem iv_aP {i : Int} (h : i = 114 ∨ i = 117 ∨ i = 120 ∨ i = 123) : iv_a i = (0, 24) := by
  rcases h with rfl | rfl | rfl | rfl <;> decide
theorem iv_sz0 (h : iv_A I P) : 0 ≤ I 96 114 ∧ 0 ≤ I 96 117 ∧ 0 ≤ I 96 120 ∧ 0 ≤ I 96 123 := ⟨(h.1 96 114).1, (h.1 96 117).1, (h.1 96 120).1, (h.1 96 123).1⟩
/-- two that are joined -/
theorem iv_jn {i j v : Int} (h : iv_A I P) (hi : i = 114 ∨ i = 117 ∨ i = 120 ∨ i = 123) (hj : j = 114 ∨ j = 117 ∨ j = 120 ∨ j = 123) (hij : i ≠ j) (hv : v = I 96 i + I 96 j) : iv_A (lf_up (lf_up I 96 i v) 96 j 0) P := by
  have h0 := iv_sz0 h
  have hs := iv_szA h
  have hI : iv_A (lf_up I 96 j 0) P := iv_w96' h (by show (iv_a j).1 ≤ 0 ∧ 0 ≤ (iv_a j).2; rw [iv_aP hj]; decide) (fun _ => iv_rels h hj (by rcases hj with rfl | rfl | rfl | rfl <;> omega))
  have e : lf_up (lf_up I 96 i v) 96 j 0 = lf_up (lf_up I 96 j 0) 96 i v := by
    funext a b
    by_cases ha : a = 96
    · subst ha
      by_cases hb : b = j
      · subst hb; rw [lf_up_s, lf_up_i (fun e => hij e.symm), lf_up_s]
      · rw [lf_up_i hb]
        by_cases hc : b = i
        · subst hc; rw [lf_up_s, lf_up_s]
        · rw [lf_up_i hc, lf_up_i hc, lf_up_i hb]
    · rw [lf_up_c ha, lf_up_c ha, lf_up_c ha, lf_up_c ha]
  rw [e]
  have hvr : 0 ≤ v ∧ v ≤ 24 := by
    rcases hi with rfl | rfl | rfl | rfl <;> rcases hj with rfl | rfl | rfl | rfl <;> omega
  have e2 := iv_sumU (I := I) (v := 0) hj
  have e3 : lf_up I 96 j 0 96 i = I 96 i := lf_up_i hij
  exact iv_w96' hI (by show (iv_a i).1 ≤ v ∧ v ≤ (iv_a i).2; rw [iv_aP hi]; exact hvr) (fun _ => iv_rels hI hi (by rw [e2, e3]; omega))
theorem iv_aS {r c : Int} (hr : 0 ≤ r ∧ r < 30) (hc : 0 ≤ c ∧ c < 42) : iv_a (278 + 42 * r + c) = (if c = 4 then (0, 30202) else if c < 5 then (-2147483648, 2147483647) else if c < 17 then (if (c - 5) % 3 = 0 then (0, 24) else if (c - 5) % 3 = 1 then (0, 11) else (-1, 11)) else if c < 29 then (if (c - 17) % 2 = 0 then (0, 11) else (-1, 11)) else (-2147483648, 2147483647)) := by
  have e : (278 + 42 * r + c - 278) % 42 = c := by
    rw [show 278 + 42 * r + c - 278 = c + 42 * r by omega, Int.add_mul_emod_self_left]
    exact Int.emod_eq_of_lt hc.1 hc.2
  unfold iv_a
  rw [if_neg (by omega), if_neg (by omega), if_neg (by omega), if_neg (by omega), if_neg (by omega), if_neg (by omega), if_neg (by omega), if_pos (by omega), e]
/-- a step taken back: the bunches -/
theorem iv_und {x r : Int} (h : iv_A I P) (hx : x = 278 + 42 * r) (hr : 0 ≤ r ∧ r < 30) (hs : iv_s4 (I 96) (x + 5)) (ho : ∀ a, a ≠ 96 → I' a = I a) (hd : ∀ j : Int, 114 ≤ j → j < 126 → I' 96 j = I 96 (x + 5 + (j - 114))) (hn : ∀ j : Int, ¬ (114 ≤ j ∧ j < 126) → I' 96 j = I 96 j) : iv_A I' P := by
  refine ⟨?_, h.2.1, iv_Sc h.2.2.1 (ho _ (by decide)) (ho _ (by decide)) (ho _ (by decide)) (ho _ (by decide)) (ho _ (by decide)) (ho _ (by decide)) (ho _ (by decide)), ⟨?_, ?_, ?_, ?_⟩, ?_⟩
  · intro a j
    by_cases ha : a = 96
    · subst ha
      by_cases hj : 114 ≤ j ∧ j < 126
      · rw [hd j hj.1 hj.2]
        have hb := h.1 96 (x + 5 + (j - 114))
        have e : iv_a (x + 5 + (j - 114)) = iv_a j := by
          rw [show x + 5 + (j - 114) = 278 + 42 * r + (5 + (j - 114)) by omega, iv_aS hr (by omega)]
          have : j = 114 ∨ j = 115 ∨ j = 116 ∨ j = 117 ∨ j = 118 ∨ j = 119 ∨ j = 120 ∨ j = 121 ∨ j = 122 ∨ j = 123 ∨ j = 124 ∨ j = 125 := by omega
          rcases this with rfl | rfl | rfl | rfl | rfl | rfl | rfl | rfl | rfl | rfl | rfl | rfl <;> decide
        have hb : (iv_a (x + 5 + (j - 114))).1 ≤ I 96 (x + 5 + (j - 114)) ∧ I 96 (x + 5 + (j - 114)) ≤ (iv_a (x + 5 + (j - 114))).2 := hb
        rw [e] at hb
        exact hb
      · rw [hn j hj]; exact h.1 96 j
    · rw [ho a ha]; exact h.1 a j
  · rw [hn 0 (by omega), hn 1 (by omega), hn 2 (by omega)]; exact h.2.2.2.1.1
  · intro w h0 h1 h2
    rw [hn 1 (by omega)] at h2
    rw [hn 0 (by omega), hn _ (by omega), hn _ (by omega)]
    exact h.2.2.2.1.2.1 w h0 h1 h2
  · unfold iv_s4 at hs ⊢
    rw [hd 114 (by decide) (by decide), hd (114 + 3) (by decide) (by decide), hd (114 + 6) (by decide) (by decide), hd (114 + 9) (by decide) (by decide)]
    rw [show x + 5 + (114 - 114) = x + 5 by omega, show x + 5 + (114 + 3 - 114) = x + 5 + 3 by omega, show x + 5 + (114 + 6 - 114) = x + 5 + 6 by omega, show x + 5 + (114 + 9 - 114) = x + 5 + 9 by omega]
    exact hs
  · intro q h0 h1
    rw [hn 9 (by omega)] at h1
    unfold iv_s4
    rw [hn _ (by omega), hn _ (by omega), hn _ (by omega), hn _ (by omega)]
    exact h.2.2.2.1.2.2.2 q h0 h1
  · unfold iv_l; rw [ho 97 (by decide)]; exact h.2.2.2.2
/-- the oldest step forgotten -/
theorem iv_sht (h : iv_A I P) (h9 : I 96 9 = 30) (ho : ∀ a, a ≠ 96 → I' a = I a) (hd : ∀ j : Int, 278 ≤ j → j < 278 + 1218 → I' 96 j = I 96 (j + 42)) (hn : ∀ j : Int, ¬ (278 ≤ j ∧ j < 278 + 1218) → I' 96 j = I 96 j) : iv_A I' P := by
  refine ⟨?_, h.2.1, iv_Sc h.2.2.1 (ho _ (by decide)) (ho _ (by decide)) (ho _ (by decide)) (ho _ (by decide)) (ho _ (by decide)) (ho _ (by decide)) (ho _ (by decide)), ⟨?_, ?_, ?_, ?_⟩, ?_⟩
  · intro a j
    by_cases ha : a = 96
    · subst ha
      by_cases hj : 278 ≤ j ∧ j < 278 + 1218
      · rw [hd j hj.1 hj.2]
        have hb : (iv_a (j + 42)).1 ≤ I 96 (j + 42) ∧ I 96 (j + 42) ≤ (iv_a (j + 42)).2 := h.1 96 (j + 42)
        have hq : (j - 278) = 42 * ((j - 278) / 42) + (j - 278) % 42 := (Int.mul_ediv_add_emod _ _).symm
        have hm := Int.emod_nonneg (j - 278) (show (42 : Int) ≠ 0 by decide)
        have hl := Int.emod_lt_of_pos (j - 278) (show (0 : Int) < 42 by decide)
        generalize (j - 278) / 42 = q at hq
        generalize (j - 278) % 42 = c at hq hm hl
        have e1 := iv_aS (r := q) (c := c) (by omega) ⟨hm, hl⟩
        have e2 := iv_aS (r := q + 1) (c := c) (by omega) ⟨hm, hl⟩
        rw [show 278 + 42 * q + c = j by omega] at e1
        rw [show 278 + 42 * (q + 1) + c = j + 42 by omega, ← e1] at e2
        rw [e2] at hb
        exact hb
      · rw [hn j hj]; exact h.1 96 j
    · rw [ho a ha]; exact h.1 a j
  · rw [hn 0 (by omega), hn 1 (by omega), hn 2 (by omega)]; exact h.2.2.2.1.1
  · intro w h0 h1 h2
    rw [hn 1 (by omega)] at h2
    rw [hn 0 (by omega), hn _ (by omega), hn _ (by omega)]
    exact h.2.2.2.1.2.1 w h0 h1 h2
  · unfold iv_s4
    rw [hn _ (by omega), hn _ (by omega), hn _ (by omega), hn _ (by omega)]
    exact h.2.2.2.1.2.2.1
  · intro q h0 h1
    rw [hn 9 (by omega), h9] at h1
    unfold iv_s4
    by_cases hq : q < 29
    · rw [hd _ (by omega) (by omega), hd _ (by omega) (by omega), hd _ (by omega) (by omega), hd _ (by omega) (by omega)]
      have := h.2.2.2.1.2.2.2 (q + 1) (by omega) (by omega)
      unfold iv_s4 at this
      rw [show 278 + 42 * (q + 1) + 5 = 278 + 42 * q + 5 + 42 by omega] at this
      rw [show 278 + 42 * q + 5 + 3 + 42 = 278 + 42 * q + 5 + 42 + 3 by omega, show 278 + 42 * q + 5 + 6 + 42 = 278 + 42 * q + 5 + 42 + 6 by omega, show 278 + 42 * q + 5 + 9 + 42 = 278 + 42 * q + 5 + 42 + 9 by omega]
      exact this
    · rw [hn _ (by omega), hn _ (by omega), hn _ (by omega), hn _ (by omega)]
      exact h.2.2.2.1.2.2.2 q h0 (by omega)
  · unfold iv_l; rw [ho 97 (by decide)]; exact h.2.2.2.2
def kp_F (f f' : Int → Int) : Prop := ∀ i : Int, i ≠ 9 → i < 278 → f' i = f i
theorem kp_r {f : Int → Int} : kp_F f f := fun _ _ _ => rfl
theorem kp_u {f f1 f2 : Int → Int} {i : Int} (h : kp_F f f1) (e : ∀ j, j ≠ i → f2 j = f1 j) (hi : i = 9 ∨ 278 ≤ i) : kp_F f f2 := fun j a b => (e j (by omega)).trans (h j a b)
def kp_C (f : Int → Int) (x k : Int) : Prop := ∀ j : Int, 0 ≤ j → j < k → f (x + 5 + j) = f (114 + j)
theorem kp_CS {f f' : Int → Int} {x k i v : Int} (h : kp_C f x k) (e1 : f' i = v) (e2 : ∀ j, j ≠ i → f' j = f j) (hi : i = x + 5 + k ∧ 278 ≤ x ∧ 0 ≤ k ∧ k < 12) (hv : v = f (114 + k)) : kp_C f' x (k + 1) := by
  intro j a b
  rw [e2 (114 + j) (by omega)]
  by_cases hj : j = k
  · subst hj; rw [← hi.1, e1, hv]
  · rw [e2 (x + 5 + j) (by omega)]; exact h j a (by omega)
theorem kp_s4 {f : Int → Int} {x k : Int} (h : kp_C f x k) (hk : 12 ≤ k) (hs : f 114 + f 117 + f 120 + f 123 ≤ 24) : iv_s4 f (x + 5) := by
  have a := h 0 (by decide) (by omega)
  have b := h 3 (by decide) (by omega)
  have c := h 6 (by decide) (by omega)
  have d := h 9 (by decide) (by omega)
  rw [Int.add_zero] at a
  show f (x + 5) + f (x + 5 + 3) + f (x + 5 + 6) + f (x + 5 + 9) ≤ 24
  rw [a, b, c, d]
  exact hs
theorem iv_s4u {f f' : Int → Int} {b i : Int} (h : iv_s4 f b) (e : ∀ j, j ≠ i → f' j = f j) (hi : i < b ∨ b + 9 < i) : iv_s4 f' b := by
  unfold iv_s4 at *
  rw [e _ (by omega), e _ (by omega), e _ (by omega), e _ (by omega)]
  exact h
theorem iv_s4e {f : Int → Int} {b b' : Int} (h : iv_s4 f b) (e : b' = b) : iv_s4 f b' := by
  subst e
  exact h
theorem iv_szR {r : Int} (h : iv_A I P) (h0 : 0 ≤ r) (h1 : r < I 96 9) : iv_s4 (I 96) (278 + 42 * r + 5) := h.2.2.2.1.2.2.2 r h0 h1
theorem lf_ne4 {f : Int → Int} {a b : Int} (h : f (114 + 3 * a) ≠ f (114 + 3 * b)) : a ≠ b := fun e => h (by rw [e])
theorem iv_osc {f f' : Int → Int} {w s : Int} (h : ∀ i : Int, 50 ≤ i → f' i = f i) (hw : 0 ≤ w) : iv_os f' w s = iv_os f w s := by
  unfold iv_os
  rw [h _ (by omega), h _ (by omega)]
end SZ
/-! sets of people and of stretches -/
section WH
def lf_bn (a : Int) : Nat → Int
  | 0 => 0
  | k + 1 => lf_bn a k + lf_and (lf_shr a k) 1
def lf_bt (a k : Int) : Int := lf_bn a k.toNat
theorem lf_and01 {a : Int} : 0 ≤ lf_and a 1 ∧ lf_and a 1 ≤ 1 := lf_andB (by omega) (by omega)
theorem lf_btS {a k : Int} (h : 0 ≤ k) : lf_bt a (k + 1) = lf_bt a k + lf_and (lf_shr a k) 1 := by
  obtain ⟨m, rfl, h1, h2⟩ := pz_tn h
  unfold lf_bt
  rw [h2, h1]
  rfl
theorem lf_bt12 (a : Int) : lf_bt a 12 ≤ lf_bt a 16 := by
  have e1 := lf_btS (a := a) (k := 12) (by decide)
  have e2 := lf_btS (a := a) (k := 13) (by decide)
  have e3 := lf_btS (a := a) (k := 14) (by decide)
  have e4 := lf_btS (a := a) (k := 15) (by decide)
  have a1 := lf_and01 (a := lf_shr a 12)
  have a2 := lf_and01 (a := lf_shr a 13)
  have a3 := lf_and01 (a := lf_shr a 14)
  have a4 := lf_and01 (a := lf_shr a 15)
  have e1 : lf_bt a 13 = lf_bt a 12 + lf_and (lf_shr a 12) 1 := e1
  have e2 : lf_bt a 14 = lf_bt a 13 + lf_and (lf_shr a 13) 1 := e2
  have e3 : lf_bt a 15 = lf_bt a 14 + lf_and (lf_shr a 14) 1 := e3
  have e4 : lf_bt a 16 = lf_bt a 15 + lf_and (lf_shr a 15) 1 := e4
  omega
theorem lf_bt6N : ∀ a : Fin 64, lf_bn (a.val : Int) 12 = lf_bn (a.val : Int) 16 ∧ lf_bn (a.val : Int) 16 ≤ 6 ∧ (1 ≤ a.val → 1 ≤ lf_bn (a.val : Int) 16) := by decide +kernel
theorem lf_bt6 {a : Int} (h : 1 ≤ a ∧ a ≤ 63) : lf_bt a 12 = lf_bt a 16 ∧ lf_bt a 16 ≤ 6 ∧ 1 ≤ lf_bt a 16 := by
  obtain ⟨m, rfl⟩ := Int.eq_ofNat_of_zero_le (show 0 ≤ a by omega)
  obtain ⟨h1, h2, h3⟩ := lf_bt6N ⟨m, by omega⟩
  exact ⟨h1, h2, h3 (by show 1 ≤ m; omega)⟩
def lo_C (f : Int → Int) (a n k : Int) : Prop := ∀ q : Int, 0 ≤ q → q < k → lf_and (lf_shr a q) 1 = 1 → ∃ j : Int, 0 ≤ j ∧ j < n ∧ f j = q
theorem lo_C0 {f : Int → Int} {a n k : Int} (h : lo_C f a n k) (hz : ¬ (lf_and (lf_shr a k) 1 = 1)) : lo_C f a n (k + 1) := by
  intro q a0 a1 a2
  by_cases hq : q = k
  · subst hq; exact absurd a2 hz
  · exact h q a0 (by omega) a2
theorem lo_C1 {f f' : Int → Int} {a n k : Int} (h : lo_C f a n k) (hn : 0 ≤ n) (e1 : f' n = k) (e2 : ∀ j, j ≠ n → f' j = f j) : lo_C f' a (n + 1) (k + 1) := by
  intro q a0 a1 a2
  by_cases hq : q = k
  · subst hq; exact ⟨n, hn, by omega, e1⟩
  · obtain ⟨j, j0, j1, j2⟩ := h q a0 (by omega) a2
    exact ⟨j, j0, by omega, by rw [e2 j (by omega)]; exact j2⟩
theorem lo_CK {f : Int → Int} {a n k : Int} (h : lo_C f a n k) (hk : 12 ≤ k) : lo_C f a n 12 := fun q a0 a1 a2 => h q a0 (by omega) a2
def wh_H (f : Int → Int) (n x : Int) : Prop := x = -1 ∨ ∃ j : Int, 0 ≤ j ∧ j < n ∧ f j = x
theorem wh_i {f : Int → Int} {a n x : Int} (h : lo_C f a n 12) (hx : x = -1 ∨ (0 ≤ x ∧ x < 12 ∧ lf_and (lf_shr a x) 1 = 1)) : wh_H f n x := by
  rcases hx with hx | ⟨h0, h1, h2⟩
  · exact Or.inl hx
  · exact Or.inr (h x h0 h1 h2)
theorem wh_c {f f' : Int → Int} {n x : Int} (e : f' = f) (h : wh_H f n x) : wh_H f' n x := by rw [e]; exact h
def wh_E (f : Int → Int) (x k : Int) : Prop := ∃ j : Int, k ≤ j ∧ j < 6 ∧ f j = x
theorem wh_s {f f' : Int → Int} {n x : Int} (e : f' = f) (h : wh_H f n x) (hn : n ≤ 6) (hx : x ≠ -1) : wh_E f' x 0 := by
  rw [e]
  rcases h with h | ⟨j, h0, h1, h2⟩
  · exact absurd h hx
  · exact ⟨j, h0, by omega, h2⟩
theorem wh_S {f : Int → Int} {x k : Int} (h : wh_E f x k) (hk : f k ≠ x) : wh_E f x (k + 1) := by
  obtain ⟨j, h0, h1, h2⟩ := h
  refine ⟨j, ?_, h1, h2⟩
  by_cases e : j = k
  · subst e; exact absurd h2 hk
  · omega
theorem wh_lt {f : Int → Int} {x k : Int} (h : wh_E f x k) : k < 6 := by
  obtain ⟨j, h0, h1, h2⟩ := h
  omega
end WH
/-! rows of numbers, one after another -/
section OD
variable {o o' o0 : Int → Int} {B : Int}
def od_n (o : Int → Int) (B : Int) : Nat → Int
  | 0 => 0
  | k + 1 => od_n o B k * B + o k
def od (o : Int → Int) (B n : Int) : Int := od_n o B n.toNat
def od_B (o : Int → Int) (n B : Int) : Prop := ∀ j : Int, 0 ≤ j → j < n → 0 ≤ o j ∧ o j < B
theorem od_c : ∀ m : Nat, (∀ j : Int, 0 ≤ j → j < m → o' j = o j) → od_n o' B m = od_n o B m
  | 0, _ => rfl
  | m + 1, h => by
    show od_n o' B m * B + o' m = od_n o B m * B + o m
    rw [od_c m (fun j a b => h j a (by omega)), h m (by omega) (by omega)]
theorem od_s {k : Nat} (hk : od_n o' B k = od_n o B k) : ∀ m : Nat, k ≤ m → (∀ j : Int, k ≤ j → j < m → o' j = o j) → od_n o' B m = od_n o B m
  | 0, h0, _ => by
    have : k = 0 := by omega
    subst this
    exact hk
  | m + 1, h0, h => by
    by_cases e : k = m + 1
    · subst e; exact hk
    · show od_n o' B m * B + o' m = od_n o B m * B + o m
      rw [od_s hk m (by omega) (fun j a b => h j a (by omega)), h m (by omega) (by omega)]
/-- one more, at place k, is one more of the row -/
def od_I (o0 o : Int → Int) (B n k : Int) : Prop := 0 ≤ k → ∀ o' : Int → Int, o' k = o k + 1 → (∀ j, j ≠ k → o' j = o j) → od o' B n = od o0 B n + 1
theorem od_I0 {n : Int} : od_I o o B n (n - 1) := by
  intro h0 o' e1 e2
  obtain ⟨m, hm, h1, h2⟩ := pz_tn h0
  unfold od
  rw [show n.toNat = m + 1 by omega]
  show od_n o' B m * B + o' m = od_n o B m * B + o m + 1
  rw [od_c m (fun j a b => e2 j (by omega)), ← hm, e1]
  omega
theorem od_Is {n k : Int} (h : od_I o0 o B n k) (hk : k < n) (hb : o k = B - 1) {o1 : Int → Int} (e1 : o1 k = 0) (e2 : ∀ j, j ≠ k → o1 j = o j) : od_I o0 o1 B n (k + -1) := by
  intro h0 o' f1 f2
  have hk0 : 0 ≤ k := by omega
  rw [← h hk0 (fun j => if j = k then o k + 1 else o j) (if_pos rfl) (fun j hj => if_neg hj)]
  obtain ⟨m, hm, h1, h2⟩ := pz_tn h0
  have hkm : k = ((m + 1 : Nat) : Int) := by omega
  unfold od
  have ho : ∀ j : Int, j < m → o' j = o j := fun j hj => by rw [f2 j (by omega), e2 j (by omega)]
  refine od_s (k := m + 2) ?_ n.toNat (by omega) (fun j a b => ?_)
  · show (od_n o' B m * B + o' m) * B + o' ((m + 1 : Nat) : Int) = (od_n (fun j => if j = k then o k + 1 else o j) B m * B + (if (m : Int) = k then o k + 1 else o m)) * B + (if ((m + 1 : Nat) : Int) = k then o k + 1 else o ((m + 1 : Nat) : Int))
    rw [od_c m (o := o) (o' := o') (fun j a b => ho j b), od_c m (o := o) (o' := fun j => if j = k then o k + 1 else o j) (fun j a b => if_neg (by omega))]
    rw [if_neg (show ¬ ((m : Int) = k) by omega), if_pos hkm.symm, ← hkm, f2 k (by omega), e1, hb, ← hm, f1, e2 _ (by omega)]
    rw [Int.add_mul, Int.add_mul, Int.add_mul]
    omega
  · show o' j = if j = k then o k + 1 else o j
    rw [if_neg (by omega), f2 j (by omega), e2 j (by omega)]
theorem od_Bu {n k v : Int} (h : od_B o n B) (hv : 0 ≤ v ∧ v < B) (e1 : o' k = v) (e2 : ∀ j, j ≠ k → o' j = o j) : od_B o' n B := by
  intro j a b
  by_cases hj : j = k
  · subst hj; rw [e1]; exact hv
  · rw [e2 j hj]; exact h j a b
theorem od_Bz {n k : Int} (h : ∀ j : Int, 0 ≤ j → j < k → o j = 0) (hk : n ≤ k) (hB : 1 ≤ B) : od_B o n B := fun j a b => by rw [h j a (by omega)]; omega
theorem od_p (n : Int) (h : od_B o n B) (hB : 1 ≤ B ∧ B ≤ 6) : ∀ m : Nat, (m : Int) ≤ n → 0 ≤ od_n o B m ∧ od_n o B m + 1 ≤ 6 ^ m
  | 0, _ => ⟨Int.le_refl 0, by show (0 : Int) + 1 ≤ 6 ^ 0; decide⟩
  | m + 1, hm => by
    obtain ⟨a, b⟩ := od_p n h hB m (by omega)
    obtain ⟨c, d⟩ := h m (by omega) (by omega)
    have e := Int.mul_le_mul_of_nonneg_left hB.2 a
    have f := Int.mul_nonneg a (show 0 ≤ B by omega)
    show 0 ≤ od_n o B m * B + o m ∧ od_n o B m * B + o m + 1 ≤ 6 ^ (m + 1)
    rw [Int.pow_succ]
    generalize od_n o B m * B = x at *
    generalize (6 : Int) ^ m = y at *
    omega
theorem od_le {n : Int} (h : od_B o n B) (hB : 1 ≤ B ∧ B ≤ 6) (hn : 0 ≤ n ∧ n ≤ 6) : 0 ≤ od o B n ∧ od o B n ≤ 46655 := by
  obtain ⟨a, b⟩ := od_p n h hB n.toNat (by omega)
  have : n.toNat = 0 ∨ n.toNat = 1 ∨ n.toNat = 2 ∨ n.toNat = 3 ∨ n.toNat = 4 ∨ n.toNat = 5 ∨ n.toNat = 6 := by omega
  have c : (6 : Int) ^ n.toNat ≤ 46656 := by
    rcases this with e | e | e | e | e | e | e <;> rw [e] <;> decide
  unfold od
  omega
def od_m (x v : Int) : Int := if x = 0 then 0 else v
theorem od_mE (x v : Int) : (x = 0 ∧ od_m x v = 0) ∨ (x ≠ 0 ∧ od_m x v = v) := by
  unfold od_m
  by_cases h : x = 0
  · rw [if_pos h]; exact Or.inl ⟨h, rfl⟩
  · rw [if_neg h]; exact Or.inr ⟨h, rfl⟩
theorem lf_bz {z : Bool} {P : Prop} (h : z = true → P) : lf_b z = 0 ∨ P := by
  cases z with
  | false => exact Or.inl rfl
  | true => exact Or.inr (h rfl)
theorem lf_bf {z : Bool} {P : Prop} (h : z = false → P) : lf_b z = 1 ∨ P := by
  cases z with
  | false => exact Or.inr (h rfl)
  | true => exact Or.inl rfl
/-- all that follow are the last -/
def od_A (o0 o : Int → Int) (n B k : Int) : Prop := (∀ j : Int, k < j → j < n → o0 j = B - 1) ∧ ∀ j : Int, j ≤ k → o j = o0 j
theorem od_A0 {n : Int} : od_A o o n B (n - 1) := ⟨fun j a b => by omega, fun _ _ => rfl⟩
theorem od_As {n k : Int} (h : od_A o0 o n B k) (hb : o k = B - 1) {o1 : Int → Int} (e2 : ∀ j, j ≠ k → o1 j = o j) : od_A o0 o1 n B (k + -1) := by
  refine ⟨fun j a b => ?_, fun j a => ?_⟩
  · by_cases hj : j = k
    · subst hj; rw [← h.2 j (Int.le_refl _)]; exact hb
    · exact h.1 j (by omega) b
  · rw [e2 j (by omega)]; exact h.2 j (by omega)
theorem od_Bm {n : Int} (h : od_B o n B) (hB : B ≤ 4) : od_B o n 4 := fun j a b => ⟨(h j a b).1, by have := (h j a b).2; omega⟩
theorem od_Bk {k v : Int} (h : od_B o k B) (hv : 0 ≤ v ∧ v < B) (e1 : o' k = v) (e2 : ∀ j, j ≠ k → o' j = o j) : od_B o' (k + 1) B := by
  intro j a b
  by_cases hj : j = k
  · subst hj; rw [e1]; exact hv
  · rw [e2 j hj]; exact h j a (by omega)
theorem od_Bl {k n : Int} (h : od_B o k B) (hn : n ≤ k) : od_B o n B := fun j a b => h j a (by omega)
def od_D (o : Int → Int) (n : Int) : Prop := ∀ j : Int, 0 ≤ j → j < n → o j = j
def au_t (k : Int) : Int := if k = 0 then 0 else if k = 1 then 1 else if k = 2 then 3 else if k = 3 then 7 else if k = 4 then 15 else if k = 5 then 31 else 63
theorem au_s {n k u : Int} (hD : od_D o n) (hu : u = au_t k) (hk : 0 ≤ k ∧ k < n ∧ n ≤ 6) : lf_or u (lf_shl 1 (o k)) = au_t (k + 1) := by
  rw [hD k hk.1 hk.2.1, hu]
  have : k = 0 ∨ k = 1 ∨ k = 2 ∨ k = 3 ∨ k = 4 ∨ k = 5 := by omega
  rcases this with rfl | rfl | rfl | rfl | rfl | rfl <;> decide +kernel
theorem au_no {n k u : Int} (hD : od_D o n) (hu : u = au_t k) (hk : 0 ≤ k ∧ k < n ∧ n ≤ 6) (hz : lf_and (lf_shr u (o k)) 1 = 1) : False := by
  rw [hD k hk.1 hk.2.1, hu] at hz
  have : k = 0 ∨ k = 1 ∨ k = 2 ∨ k = 3 ∨ k = 4 ∨ k = 5 := by omega
  rcases this with rfl | rfl | rfl | rfl | rfl | rfl <;> revert hz <;> decide +kernel
def af_id (n : Int) : Int := if n = 1 then 0 else if n = 2 then 1 else if n = 3 then 5 else 27
def af_F (o b : Int → Int) (n least more : Int) : Prop := (0 ≤ least ∧ od_B b n 4) ∨ (least < 0 ∧ more ≠ 0 ∧ od o n n ≤ af_id n)
def af_K (o b : Int → Int) (n least : Int) : Prop := (0 ≤ least ∧ od_B b n 4) ∨ (least < 0 ∧ od o n n < af_id n)
theorem od_e {n : Int} (hn : 1 ≤ n ∧ n ≤ 4) : (n = 1 → od o n n = o 0 ∧ af_id n = 0) ∧ (n = 2 → od o n n = 2 * o 0 + o 1 ∧ af_id n = 1) ∧ (n = 3 → od o n n = 9 * o 0 + 3 * o 1 + o 2 ∧ af_id n = 5) ∧ (n = 4 → od o n n = 64 * o 0 + 16 * o 1 + 4 * o 2 + o 3 ∧ af_id n = 27) := by
  refine ⟨fun h => ?_, fun h => ?_, fun h => ?_, fun h => ?_⟩
  · subst h
    refine ⟨?_, by decide⟩
    show (0 : Int) * 1 + o ((0 : Nat) : Int) = o 0
    rw [show ((0 : Nat) : Int) = 0 from rfl]; omega
  · subst h
    refine ⟨?_, by decide⟩
    show ((0 : Int) * 2 + o ((0 : Nat) : Int)) * 2 + o ((1 : Nat) : Int) = 2 * o 0 + o 1
    rw [show ((0 : Nat) : Int) = 0 from rfl, show ((1 : Nat) : Int) = 1 from rfl]; omega
  · subst h
    refine ⟨?_, by decide⟩
    show (((0 : Int) * 3 + o ((0 : Nat) : Int)) * 3 + o ((1 : Nat) : Int)) * 3 + o ((2 : Nat) : Int) = 9 * o 0 + 3 * o 1 + o 2
    rw [show ((0 : Nat) : Int) = 0 from rfl, show ((1 : Nat) : Int) = 1 from rfl, show ((2 : Nat) : Int) = 2 from rfl]; omega
  · subst h
    refine ⟨?_, by decide⟩
    show ((((0 : Int) * 4 + o ((0 : Nat) : Int)) * 4 + o ((1 : Nat) : Int)) * 4 + o ((2 : Nat) : Int)) * 4 + o ((3 : Nat) : Int) = 64 * o 0 + 16 * o 1 + 4 * o 2 + o 3
    rw [show ((0 : Nat) : Int) = 0 from rfl, show ((1 : Nat) : Int) = 1 from rfl, show ((2 : Nat) : Int) = 2 from rfl, show ((3 : Nat) : Int) = 3 from rfl]; omega
theorem od_id {n : Int} (hn : 1 ≤ n ∧ n ≤ 4) (hB : od_B o n n) (he : od o n n = af_id n) : od_D o n := by
  obtain ⟨e1, e2, e3, e4⟩ := od_e (o := o) hn
  have b0 := hB 0 (by decide)
  have b1 := hB 1 (by decide)
  have b2 := hB 2 (by decide)
  have b3 := hB 3 (by decide)
  have : n = 1 ∨ n = 2 ∨ n = 3 ∨ n = 4 := by omega
  have key : (0 < n → o 0 = 0) ∧ (1 < n → o 1 = 1) ∧ (2 < n → o 2 = 2) ∧ (3 < n → o 3 = 3) := by
    rcases this with rfl | rfl | rfl | rfl
    · have := e1 rfl; have := b0 (by decide); omega
    · have := e2 rfl; have := b0 (by decide); have := b1 (by decide); omega
    · have := e3 rfl; have := b0 (by decide); have := b1 (by decide); have := b2 (by decide); omega
    · have := e4 rfl; have := b0 (by decide); have := b1 (by decide); have := b2 (by decide); have := b3 (by decide); omega
  intro j a b
  have : j = 0 ∨ j = 1 ∨ j = 2 ∨ j = 3 := by omega
  rcases this with rfl | rfl | rfl | rfl
  · exact key.1 b
  · exact key.2.1 b
  · exact key.2.2.1 b
  · exact key.2.2.2 b
theorem od_hi {n : Int} (hn : 1 ≤ n ∧ n ≤ 4) (h : ∀ j : Int, 0 ≤ j → j < n → o j = n - 1) : af_id n ≤ od o n n := by
  obtain ⟨e1, e2, e3, e4⟩ := od_e (o := o) hn
  have b0 := h 0 (by decide)
  have b1 := h 1 (by decide)
  have b2 := h 2 (by decide)
  have b3 := h 3 (by decide)
  have : n = 1 ∨ n = 2 ∨ n = 3 ∨ n = 4 := by omega
  rcases this with rfl | rfl | rfl | rfl
  · have := e1 rfl; have := b0 (by decide); omega
  · have := e2 rfl; have := b0 (by decide); have := b1 (by decide); omega
  · have := e3 rfl; have := b0 (by decide); have := b1 (by decide); have := b2 (by decide); omega
  · have := e4 rfl; have := b0 (by decide); have := b1 (by decide); have := b2 (by decide); have := b3 (by decide); omega
theorem af_0 {b : Int → Int} {n k least more : Int} (h : lf_zr o k) (hn : 1 ≤ n ∧ n ≤ 4 ∧ n ≤ k) (hl : least < 0 ∧ more ≠ 0) : af_F o b n least more := by
  refine Or.inr ⟨hl.1, hl.2, ?_⟩
  obtain ⟨e1, e2, e3, e4⟩ := od_e (o := o) (n := n) ⟨hn.1, hn.2.1⟩
  have b0 := h 0 (by decide)
  have b1 := h 1 (by decide)
  have b2 := h 2 (by decide)
  have b3 := h 3 (by decide)
  omega
theorem af_1 {b : Int → Int} {n least more : Int} (h : af_F o b n least more) : af_F o b n least 1 := by
  rcases h with h | ⟨h1, h2, h3⟩
  · exact Or.inl h
  · exact Or.inr ⟨h1, by decide, h3⟩
theorem af_k {b : Int → Int} {n least v : Int} (hB : od_B o n n) (h : af_F o b n least 1) (hg : 0 ≤ v ∨ ¬ od_D o n) (hv : v < 0) (hn : 1 ≤ n ∧ n ≤ 4) : af_K o b n least := by
  rcases h with h | ⟨h1, h2, h3⟩
  · exact Or.inl h
  · refine Or.inr ⟨h1, ?_⟩
    by_cases he : od o n n = af_id n
    · exact absurd (od_id hn hB he) (by rcases hg with hg | hg; exact absurd hg (by omega); exact hg)
    · omega
theorem af_l {b : Int → Int} {n least more : Int} (h : af_F o b n least more) (hl : 0 ≤ least) : af_K o b n least := by
  rcases h with h | ⟨h1, h2, h3⟩
  · exact Or.inl h
  · omega
theorem af_n {b b' : Int → Int} {n least more : Int} (h : af_K o b n least) (eb : b' = b) (h1 : more = 0 ∨ od o' n n = od o n n + 1) (h2 : more = 1 ∨ ∀ j : Int, 0 ≤ j → j < n → o j = n - 1) (hn : 1 ≤ n ∧ n ≤ 4) : af_F o' b' n least more := by
  subst eb
  rcases h with h | ⟨h3, h4⟩
  · exact Or.inl h
  · refine Or.inr ⟨h3, ?_⟩
    rcases h2 with h2 | h2
    · subst h2
      refine ⟨by decide, ?_⟩
      omega
    · have := od_hi hn h2
      omega
theorem af_x {b : Int → Int} {n least more i : Int} (h : af_F o b n least more) (hm : more = 0) (h0 : 0 ≤ i) (h1 : i < n) : 0 ≤ b i ∧ b i < 4 := by
  rcases h with h | ⟨h3, h4, h5⟩
  · exact h.2 i h0 h1
  · exact absurd hm h4
theorem lf_m9 {a t : Int} (ha : 0 ≤ a ∧ a ≤ 2376) (ht : 0 ≤ t ∧ t ≤ 4000) : a * t ≤ 9504000 := by
  have h1 := Int.mul_le_mul_of_nonneg_left ht.2 ha.1
  have h2 := Int.mul_le_mul_of_nonneg_right ha.2 (show (0 : Int) ≤ 4000 by decide)
  omega
end OD
/-! what behindOne wants of signs and of what is open: small facts, so that no case is split in a large context -/
theorem pz_k1 {r cm op tok r' : Int} (q : r = -1 ∨ (tok ≠ 0 ∧ ((4 ≤ r ∧ r ≤ 7) ∨ (10 ≤ r ∧ r ≤ 15 ∧ op = 41 ∧ cm ≠ 1) ∨ ((r = 21 ∨ r = 22) ∧ op = 41 ∧ cm = 1)))) (c : ¬ (r < 0)) (q2 : r' = pz_rk r ∧ ((40 ≤ r ∧ r' = 0) ∨ (r = 22 ∧ r' = 1) ∨ (r = 21 ∧ r' = 2) ∨ (r = 20 ∧ r' = 3) ∨ (10 ≤ r ∧ r < 40 ∧ r ≠ 20 ∧ r ≠ 21 ∧ r ≠ 22 ∧ r' = 4) ∨ (r = 3 ∧ r' = 7) ∨ (6 ≤ r ∧ r < 10 ∧ r' = 6) ∨ (r < 6 ∧ r ≠ 3 ∧ r' = 5))) : tok ≠ 0 ∧ 1 ≤ r' ∧ (5 ≤ r' ∨ (r' = 4 ∧ cm ≠ 1) ∨ (r' < 4 ∧ (cm = 1 ∨ op ≠ 41))) ∧ ((4 ≤ r ∧ r ≤ 7 ∧ r' = pz_rk r) ∨ (10 ≤ r ∧ r ≤ 15 ∧ r' = pz_rk r ∧ op = 41) ∨ ((r = 21 ∨ r = 22) ∧ r' = pz_rk r ∧ op = 41)) := by
  obtain ⟨e, q2⟩ := q2
  rcases q with q | ⟨t, q⟩
  · omega
  · rcases q with q | q | q
    · exact ⟨t, by omega, by omega, Or.inl ⟨q.1, q.2, e⟩⟩
    · exact ⟨t, by omega, by omega, Or.inr (Or.inl ⟨q.1, q.2.1, e, q.2.2.1⟩)⟩
    · exact ⟨t, by omega, by omega, Or.inr (Or.inr ⟨q.1, e, q.2.1⟩)⟩
theorem pz_k2 {r25 r27 op cm tok : Int} (q : r27 = -1 ∨ (tok ≠ 0 ∧ ((r25 = 40 ∧ r27 = 0) ∨ (r25 = 41 ∧ r27 = 42 ∧ cm = 1) ∨ (r25 = 42 ∧ r27 = 43) ∨ (r25 = 44 ∧ r27 = 45) ∨ (r25 ≠ -1 ∧ r25 ≠ 40 ∧ r25 ≠ 41 ∧ r25 ≠ 42 ∧ r25 ≠ 44 ∧ r27 = 0)))) (c : 0 ≤ r27) (e : r25 = op) (hb : op = -1 ∨ 40 ≤ op) (hr : -1 ≤ r25 ∧ r25 ≤ 45) : tok ≠ 0 ∧ (cm = 1 ∨ op ≠ 41) ∧ ((r27 = 0 ∧ (op = 40 ∨ op = 43 ∨ op = 45)) ∨ (r27 = 42 ∧ op = 41) ∨ (r27 = 43 ∧ op = 42) ∨ (r27 = 45 ∧ op = 44)) ∧ op ≠ -1 := by
  subst e
  rcases q with q | ⟨t, q⟩
  · omega
  · exact ⟨t, by omega, by omega, by omega⟩
theorem pz_k3 {K op op' op1 top rk : Int} (h1 : op' = -1 ∨ 0 < K) (h2 : 0 < K → (40 ≤ top → op' = top) ∧ (top < 40 → op' = op1)) (h3 : (40 ≤ top ∧ rk = 0) ∨ (top < 40 ∧ 1 ≤ rk)) (h4 : op' = op) (h5 : K ≤ 0 ∨ rk < 1) (h6 : op ≠ -1) : 0 < K ∧ top = op := by
  have a : 0 < K := h1.resolve_left (by omega)
  have b : 40 ≤ top := by omega
  exact ⟨a, ((h2 a).1 b).symm.trans h4⟩
theorem pz_k4 {K op op' top r r27 q : Int} (h : ((r < 0 ∧ op' = -1) ∨ (0 ≤ r ∧ r < K ∧ op' = q ∧ 40 ≤ q)) ∧ (K ≤ 0 ∨ top < 40 ∨ r = K - 1)) (h1 : 0 < K) (h2 : top = op) (h3 : (r27 = 42 ∧ op = 41) ∨ (r27 = 43 ∧ op = 42) ∨ (r27 = 45 ∧ op = 44)) : r = K - 1 ∧ 0 ≤ r := by
  obtain ⟨_, h⟩ := h
  have : r = K - 1 := by omega
  omega
theorem pz_k5 {op r27 : Int} (h : (r27 = 0 ∧ (op = 40 ∨ op = 43 ∨ op = 45)) ∨ (r27 = 42 ∧ op = 41) ∨ (r27 = 43 ∧ op = 42) ∨ (r27 = 45 ∧ op = 44)) (c : r27 ≤ 0) : op = 40 ∨ op = 43 ∨ op = 45 := by omega
theorem pz_k6 {op : Int} (h : op = 40 ∨ op = 43 ∨ op = 45) : ¬ ((1 : Int) < 4 ∧ op = 41) := by omega
theorem pz_k7 {op r27 : Int} (h : (r27 = 0 ∧ (op = 40 ∨ op = 43 ∨ op = 45)) ∨ (r27 = 42 ∧ op = 41) ∨ (r27 = 43 ∧ op = 42) ∨ (r27 = 45 ∧ op = 44)) (c : ¬ (r27 ≤ 0)) : (r27 = 42 ∧ op = 41) ∨ (r27 = 43 ∧ op = 42) ∨ (r27 = 45 ∧ op = 44) := by omega
theorem pz_k8 {op r27 : Int} (h : (r27 = 42 ∧ op = 41) ∨ (r27 = 43 ∧ op = 42) ∨ (r27 = 45 ∧ op = 44)) (c : r27 ≠ 45) : (op = 41 ∧ r27 = 42) ∨ (op = 42 ∧ r27 = 43) := by omega
theorem pz_k10 {op r27 : Int} (h : (r27 = 42 ∧ op = 41) ∨ (r27 = 43 ∧ op = 42) ∨ (r27 = 45 ∧ op = 44)) (c : r27 = 45) : op = 44 := by omega
theorem pz_k9 {op r27 : Int} (h : (r27 = 42 ∧ op = 41) ∨ (r27 = 43 ∧ op = 42) ∨ (r27 = 45 ∧ op = 44)) (c : r27 = 45) : ¬ ((1 : Int) < 4 ∧ op = 41) := by omega
-- fm_15 ElevenBullocks.within i i i
theorem sm_15 {a0 : Int} {a1 : Int} {a2 : Int} {Q : Bool → lf_Z → Prop} {s : lf_Z} (hI : iv_A s.1 s.2.2) (ba0 : (-2147483648) ≤ a0 ∧ a0 ≤ 2147483647) (ba1 : (-1) ≤ a1 ∧ a1 ≤ 99) (ba2 : (-2147483648) ≤ a2 ∧ a2 ≤ 2147483647) (hQ : ∀ (z : Bool), ((z = true → (a1 ≤ a0 ∧ a0 ≤ a2)) ∧ (z = false → ¬ (a1 ≤ a0 ∧ a0 ≤ a2))) → Q z s) : fm_15 a0 a1 a2 Q s := by
  unfold fm_15
  refine ⟨(show lf_R a0 from lf_Rof (by omega)), ?_⟩
  refine ⟨(show lf_R a1 from lf_Rof (by omega)), ?_⟩
  refine ⟨fun c1 => ?_, fun c1 => ?_⟩
  · skip
    replace c1 : a0 < a1 := c1
    exact hQ false (lf_pf (by omega))
  · skip
    replace c1 : ¬ (a0 < a1) := c1
    refine ⟨(show lf_R a2 from lf_Rof (by omega)), ?_⟩
    refine ⟨fun c2 => ?_, fun c2 => ?_⟩
    · skip
      replace c2 : a2 < a0 := c2
      exact hQ false (lf_pf (by omega))
    · skip
      replace c2 : ¬ (a2 < a0) := c2
      exact hQ true (lf_pt (by omega))
-- fm_16 Land.addStretch 1 i i
theorem sm_16 {a1 : Int} {a2 : Int} {Q : Int → lf_Z → Prop} {s : lf_Z} (hI : iv_A s.1 s.2.2) (ba1 : 0 ≤ a1 ∧ a1 ≤ 3) (ba2 : 0 ≤ a2 ∧ a2 ≤ 99) (hQ : ∀ (r : Int) (s' : lf_Z), iv_A s'.1 s'.2.2 → lf_fq [1, 2, 3] 1000000 true s.1 s.2.2 s'.1 s'.2.2 → ((-1) ≤ r ∧ r ≤ 11) → Q r s') : fm_16 a1 a2 Q s := by
  unfold fm_16
  have b1 : 0 ≤ s.1 1 0 ∧ s.1 1 0 ≤ 12 := iv_r1_0 hI
  refine ⟨(show lf_R (s.1 1 0) from lf_Rof (by omega)), ?_⟩
  refine ⟨fun c2 => ?_, fun c2 => ?_⟩
  · skip
    replace c2 : s.1 1 0 < 12 := c2
    refine ⟨(show (0 : Int) ≤ s.1 1 0 ∧ s.1 1 0 < (12 : Int) from by omega), ?_⟩
    have hI3 : iv_A (lf_up s.1 2 (s.1 1 0) a1) s.2.2 := iv_w2 hI (by omega)
    have fr4 : lf_fq [1, 2, 3] 1000000 true s.1 s.2.2 (lf_up s.1 2 (s.1 1 0) a1) s.2.2 := lf_fq_up (lf_fq_rf) rfl (fun h => absurd h (by decide))
    have hI5 : iv_A (lf_up (lf_up s.1 2 (s.1 1 0) a1) 3 (s.1 1 0) a2) s.2.2 := iv_w3 hI3 (by omega)
    have fr6 : lf_fq [1, 2, 3] 1000000 true s.1 s.2.2 (lf_up (lf_up s.1 2 (s.1 1 0) a1) 3 (s.1 1 0) a2) s.2.2 := lf_fq_up fr4 rfl (fun h => absurd h (by decide))
    have hI7 : iv_A (lf_up (lf_up (lf_up s.1 2 (s.1 1 0) a1) 3 (s.1 1 0) a2) 1 0 ((s.1 1 0) + 1)) s.2.2 := iv_w1_0 hI5 (by omega)
    have fr8 : lf_fq [1, 2, 3] 1000000 true s.1 s.2.2 (lf_up (lf_up (lf_up s.1 2 (s.1 1 0) a1) 3 (s.1 1 0) a2) 1 0 ((s.1 1 0) + 1)) s.2.2 := lf_fq_up fr6 rfl (fun h => absurd h (by decide))
    exact hQ (((s.1 1 0) + 1) - 1) (lf_up (lf_up (lf_up s.1 2 (s.1 1 0) a1) 3 (s.1 1 0) a2) 1 0 ((s.1 1 0) + 1), s.2.1, s.2.2) hI7 fr8 (show (-1 : Int) ≤ ((s.1 1 0) + 1) - 1 ∧ ((s.1 1 0) + 1) - 1 ≤ (11 : Int) from by omega)
  · skip
    replace c2 : ¬ (s.1 1 0 < 12) := c2
    exact hQ (-1) s hI (lf_fq_rf) (show (-1 : Int) ≤ (-1) ∧ (-1) ≤ (11 : Int) from by omega)
-- fm_14 ElevenBullocks.stretch 0 i i
theorem sm_14 {a1 : Int} {a2 : Int} {Q : Int → lf_Z → Prop} {s : lf_Z} (hI : iv_A s.1 s.2.2) (ba1 : (-2147483648) ≤ a1 ∧ a1 ≤ 2147483647) (ba2 : (-2147483648) ≤ a2 ∧ a2 ≤ 2147483647) (hQ : ∀ (r : Int) (s' : lf_Z), iv_A s'.1 s'.2.2 → lf_fq [1, 2, 3] 1000000 true s.1 s.2.2 s'.1 s'.2.2 → ((-1) ≤ r ∧ r ≤ 11) → Q r s') : fm_14 a1 a2 Q s := by
  unfold fm_14
  refine sm_15 hI (show (-2147483648 : Int) ≤ a1 ∧ a1 ≤ (2147483647 : Int) from by omega) (show (-1 : Int) ≤ 0 ∧ 0 ≤ (99 : Int) from by omega) (show (-2147483648 : Int) ≤ 3 ∧ 3 ≤ (2147483647 : Int) from by omega) (fun z22 q1 => ?_)
  refine ⟨fun c2 => ?_, fun c2 => ?_⟩
  · skip
    have dc2 := q1.2 c2
    exact hQ (-1) s hI (lf_fq_rf) (show (-1 : Int) ≤ (-1) ∧ (-1) ≤ (11 : Int) from by omega)
  · skip
    have dc2 := q1.1 c2
    refine sm_15 hI (show (-2147483648 : Int) ≤ a2 ∧ a2 ≤ (2147483647 : Int) from by omega) (show (-1 : Int) ≤ 0 ∧ 0 ≤ (99 : Int) from by omega) (show (-2147483648 : Int) ≤ 99 ∧ 99 ≤ (2147483647 : Int) from by omega) (fun z24 q3 => ?_)
    refine ⟨fun c4 => ?_, fun c4 => ?_⟩
    · skip
      have dc4 := q3.1 c4
      refine sm_16 hI (show (0 : Int) ≤ a1 ∧ a1 ≤ (3 : Int) from by omega) (show (0 : Int) ≤ a2 ∧ a2 ≤ (99 : Int) from by omega) (fun r26 s25 hI6 fr5 q7 => ?_)
      have fr8 : lf_fq [1, 2, 3] 1000000 true s.1 s.2.2 s25.1 s25.2.2 := lf_fq_tr (lf_fq_rf) (lf_fq_wk fr5 rfl (by decide) (by decide))
      exact hQ r26 s25 hI6 fr8 (show (-1 : Int) ≤ r26 ∧ r26 ≤ (11 : Int) from by omega)
    · skip
      have dc4 := q3.2 c4
      exact hQ (-1) s hI (lf_fq_rf) (show (-1 : Int) ≤ (-1) ∧ (-1) ≤ (11 : Int) from by omega)
-- fm_183 Model.isIn i i i
theorem sm_183 {a0 : Int} {a1 : Int} {a2 : Int} {Q : Bool → lf_Z → Prop} {s : lf_Z} (hI : iv_A s.1 s.2.2) (ba0 : (-2147483648) ≤ a0 ∧ a0 ≤ 2147483647) (ba1 : (-1) ≤ a1 ∧ a1 ≤ 97) (ba2 : (-1) ≤ a2 ∧ a2 ≤ 9999) (hQ : ∀ (z : Bool), ((z = true → (a1 ≤ a0 ∧ a0 ≤ a2)) ∧ (z = false → ¬ (a1 ≤ a0 ∧ a0 ≤ a2))) → Q z s) : fm_183 a0 a1 a2 Q s := by
  unfold fm_183
  refine ⟨(show lf_R a0 from lf_Rof (by omega)), ?_⟩
  refine ⟨(show lf_R a1 from lf_Rof (by omega)), ?_⟩
  refine ⟨fun c1 => ?_, fun c1 => ?_⟩
  · skip
    replace c1 : a0 < a1 := c1
    exact hQ false (lf_pf (by omega))
  · skip
    replace c1 : ¬ (a0 < a1) := c1
    refine ⟨(show lf_R a2 from lf_Rof (by omega)), ?_⟩
    refine ⟨fun c2 => ?_, fun c2 => ?_⟩
    · skip
      replace c2 : a2 < a0 := c2
      exact hQ false (lf_pf (by omega))
    · skip
      replace c2 : ¬ (a2 < a0) := c2
      exact hQ true (lf_pt (by omega))
-- fm_182 Model.stretch 95 i i
theorem sm_182 {a1 : Int} {a2 : Int} {Q : Int → lf_Z → Prop} {s : lf_Z} (hI : iv_A s.1 s.2.2) (ba1 : (-2147483648) ≤ a1 ∧ a1 ≤ 2147483647) (ba2 : (-2147483648) ≤ a2 ∧ a2 ≤ 2147483647) (hQ : ∀ (r : Int) (s' : lf_Z), iv_A s'.1 s'.2.2 → lf_fq [96, 1004, 1006] 0 true s.1 s.2.2 s'.1 s'.2.2 → ((-1) ≤ r ∧ r ≤ 11) → Q r s') : fm_182 a1 a2 Q s := by
  unfold fm_182
  refine sm_183 hI (show (-2147483648 : Int) ≤ a1 ∧ a1 ≤ (2147483647 : Int) from by omega) (show (-1 : Int) ≤ 0 ∧ 0 ≤ (97 : Int) from by omega) (show (-1 : Int) ≤ 3 ∧ 3 ≤ (9999 : Int) from by omega) (fun z22 q1 => ?_)
  refine ⟨fun c2 => ?_, fun c2 => ?_⟩
  · skip
    have dc2 := q1.2 c2
    exact hQ (-1) s hI (lf_fq_rf) (show (-1 : Int) ≤ (-1) ∧ (-1) ≤ (11 : Int) from by omega)
  · skip
    have dc2 := q1.1 c2
    refine sm_183 hI (show (-2147483648 : Int) ≤ a2 ∧ a2 ≤ (2147483647 : Int) from by omega) (show (-1 : Int) ≤ 0 ∧ 0 ≤ (97 : Int) from by omega) (show (-1 : Int) ≤ 99 ∧ 99 ≤ (9999 : Int) from by omega) (fun z24 q3 => ?_)
    refine ⟨fun c4 => ?_, fun c4 => ?_⟩
    · skip
      have dc4 := q3.2 c4
      exact hQ (-1) s hI (lf_fq_rf) (show (-1 : Int) ≤ (-1) ∧ (-1) ≤ (11 : Int) from by omega)
    · skip
      have dc4 := q3.1 c4
      have b5 : 0 ≤ s.1 96 0 ∧ s.1 96 0 ≤ 12 := iv_rd96 hI (iv_f3e1fa21c (by omega))
      refine ⟨(show lf_R (s.1 96 0) from lf_Rof (by omega)), ?_⟩
      refine ⟨fun c6 => ?_, fun c6 => ?_⟩
      · skip
        replace c6 : s.1 96 0 ≠ 12 := c6
        refine ⟨(show (0 : Int) ≤ 14 + (3 * (s.1 96 0)) ∧ 14 + (3 * (s.1 96 0)) < (1538 : Int) from by omega), ?_⟩
        have hI7 : iv_A (lf_up s.1 96 (14 + (3 * (s.1 96 0))) a1) s.2.2 := iv_wd96 hI (lf_le2 (iv_f9ef4f91d (s.1 96 0) (by omega) (by omega)) (by omega)) (fun h => absurd h (by omega))
        have fr8 : lf_fq [96, 1004, 1006] 0 true s.1 s.2.2 (lf_up s.1 96 (14 + (3 * (s.1 96 0))) a1) s.2.2 := lf_fq_up (lf_fq_rf) rfl (fun _ => ⟨by omega, fr_o (Or.inr (fr_n0 (by omega))) (Or.inr (fr_n1 (by omega))) (Or.inr (fr_n2 (by omega))) (Or.inr (fr_n3 (by omega))) (Or.inl rfl) (Or.inr (fr_n5 (by omega))) (Or.inl rfl)⟩)
        refine ⟨(show (0 : Int) ≤ (14 + (3 * (s.1 96 0))) + 1 ∧ (14 + (3 * (s.1 96 0))) + 1 < (1538 : Int) from by omega), ?_⟩
        have hI9 : iv_A (lf_up (lf_up s.1 96 (14 + (3 * (s.1 96 0))) a1) 96 ((14 + (3 * (s.1 96 0))) + 1) a2) s.2.2 := iv_wd96 hI7 (lf_le2 (iv_f509b3304 (s.1 96 0) (by omega) (by omega)) (by omega)) (fun h => absurd h (by omega))
        have fr10 : lf_fq [96, 1004, 1006] 0 true s.1 s.2.2 (lf_up (lf_up s.1 96 (14 + (3 * (s.1 96 0))) a1) 96 ((14 + (3 * (s.1 96 0))) + 1) a2) s.2.2 := lf_fq_up fr8 rfl (fun _ => ⟨by omega, fr_o (Or.inr (fr_n0 (by omega))) (Or.inr (fr_n1 (by omega))) (Or.inr (fr_n2 (by omega))) (Or.inr (fr_n3 (by omega))) (Or.inl rfl) (Or.inr (fr_n5 (by omega))) (Or.inl rfl)⟩)
        refine ⟨(show (0 : Int) ≤ (14 + (3 * (s.1 96 0))) + 2 ∧ (14 + (3 * (s.1 96 0))) + 2 < (1538 : Int) from by omega), ?_⟩
        have hI11 : iv_A (lf_up (lf_up (lf_up s.1 96 (14 + (3 * (s.1 96 0))) a1) 96 ((14 + (3 * (s.1 96 0))) + 1) a2) 96 ((14 + (3 * (s.1 96 0))) + 2) 0) s.2.2 := iv_wd96 hI9 (lf_le2 (iv_f06618364 (s.1 96 0) (by omega) (by omega)) (by omega)) (fun h => absurd h (by omega))
        have fr12 : lf_fq [96, 1004, 1006] 0 true s.1 s.2.2 (lf_up (lf_up (lf_up s.1 96 (14 + (3 * (s.1 96 0))) a1) 96 ((14 + (3 * (s.1 96 0))) + 1) a2) 96 ((14 + (3 * (s.1 96 0))) + 2) 0) s.2.2 := lf_fq_up fr10 rfl (fun _ => ⟨by omega, fr_o (Or.inr (fr_n0 (by omega))) (Or.inr (fr_n1 (by omega))) (Or.inr (fr_n2 (by omega))) (Or.inr (fr_n3 (by omega))) (Or.inl rfl) (Or.inr (fr_n5 (by omega))) (Or.inl rfl)⟩)
        have b13 : 0 ≤ (lf_up (lf_up (lf_up s.1 96 (14 + (3 * (s.1 96 0))) a1) 96 ((14 + (3 * (s.1 96 0))) + 1) a2) 96 ((14 + (3 * (s.1 96 0))) + 2) 0) 96 0 ∧ (lf_up (lf_up (lf_up s.1 96 (14 + (3 * (s.1 96 0))) a1) 96 ((14 + (3 * (s.1 96 0))) + 1) a2) 96 ((14 + (3 * (s.1 96 0))) + 2) 0) 96 0 ≤ 12 := iv_rd96 hI11 (iv_f3e1fa21c (by omega))
        have b14 : (lf_up (lf_up (lf_up s.1 96 (14 + (3 * (s.1 96 0))) a1) 96 ((14 + (3 * (s.1 96 0))) + 1) a2) 96 ((14 + (3 * (s.1 96 0))) + 2) 0) 96 0 = (lf_up (lf_up s.1 96 (14 + (3 * (s.1 96 0))) a1) 96 ((14 + (3 * (s.1 96 0))) + 1) a2) 96 0 := lf_up_i (by omega)
        have b15 : (lf_up (lf_up s.1 96 (14 + (3 * (s.1 96 0))) a1) 96 ((14 + (3 * (s.1 96 0))) + 1) a2) 96 0 = (lf_up s.1 96 (14 + (3 * (s.1 96 0))) a1) 96 0 := lf_up_i (by omega)
        have b16 : (lf_up s.1 96 (14 + (3 * (s.1 96 0))) a1) 96 0 = s.1 96 0 := lf_up_i (by omega)
        have hI17 : iv_A (lf_up (lf_up (lf_up (lf_up s.1 96 (14 + (3 * (s.1 96 0))) a1) 96 ((14 + (3 * (s.1 96 0))) + 1) a2) 96 ((14 + (3 * (s.1 96 0))) + 2) 0) 96 0 (((lf_up (lf_up (lf_up s.1 96 (14 + (3 * (s.1 96 0))) a1) 96 ((14 + (3 * (s.1 96 0))) + 1) a2) 96 ((14 + (3 * (s.1 96 0))) + 2) 0) 96 0) + 1)) s.2.2 := iv_wd96 hI11 (lf_le2 (iv_fa511c528 (by omega)) (by omega)) (fun _ => iv_rel0 hI11 (by omega))
        have fr18 : lf_fq [96, 1004, 1006] 0 true s.1 s.2.2 (lf_up (lf_up (lf_up (lf_up s.1 96 (14 + (3 * (s.1 96 0))) a1) 96 ((14 + (3 * (s.1 96 0))) + 1) a2) 96 ((14 + (3 * (s.1 96 0))) + 2) 0) 96 0 (((lf_up (lf_up (lf_up s.1 96 (14 + (3 * (s.1 96 0))) a1) 96 ((14 + (3 * (s.1 96 0))) + 1) a2) 96 ((14 + (3 * (s.1 96 0))) + 2) 0) 96 0) + 1)) s.2.2 := lf_fq_up fr12 rfl (fun _ => ⟨by omega, fr_o (Or.inr (fr_n0 (by omega))) (Or.inr (fr_n1 (by omega))) (Or.inr (fr_n2 (by omega))) (Or.inr (fr_n3 (by omega))) (Or.inl rfl) (Or.inr (fr_n5 (by omega))) (Or.inl rfl)⟩)
        exact hQ ((((lf_up (lf_up (lf_up s.1 96 (14 + (3 * (s.1 96 0))) a1) 96 ((14 + (3 * (s.1 96 0))) + 1) a2) 96 ((14 + (3 * (s.1 96 0))) + 2) 0) 96 0) + 1) - 1) (lf_up (lf_up (lf_up (lf_up s.1 96 (14 + (3 * (s.1 96 0))) a1) 96 ((14 + (3 * (s.1 96 0))) + 1) a2) 96 ((14 + (3 * (s.1 96 0))) + 2) 0) 96 0 (((lf_up (lf_up (lf_up s.1 96 (14 + (3 * (s.1 96 0))) a1) 96 ((14 + (3 * (s.1 96 0))) + 1) a2) 96 ((14 + (3 * (s.1 96 0))) + 2) 0) 96 0) + 1), s.2.1, s.2.2) hI17 fr18 (show (-1 : Int) ≤ (((lf_up (lf_up (lf_up s.1 96 (14 + (3 * (s.1 96 0))) a1) 96 ((14 + (3 * (s.1 96 0))) + 1) a2) 96 ((14 + (3 * (s.1 96 0))) + 2) 0) 96 0) + 1) - 1 ∧ (((lf_up (lf_up (lf_up s.1 96 (14 + (3 * (s.1 96 0))) a1) 96 ((14 + (3 * (s.1 96 0))) + 1) a2) 96 ((14 + (3 * (s.1 96 0))) + 2) 0) 96 0) + 1) - 1 ≤ (11 : Int) from by omega)
      · skip
        replace c6 : ¬ (s.1 96 0 ≠ 12) := c6
        exact hQ (-1) s hI (lf_fq_rf) (show (-1 : Int) ≤ (-1) ∧ (-1) ≤ (11 : Int) from by omega)
-- fm_18 Land.hasStretch 1 i
theorem sm_18 {a1 : Int} {Q : Bool → lf_Z → Prop} {s : lf_Z} (hI : iv_A s.1 s.2.2) (ba1 : (-2147483648) ≤ a1 ∧ a1 ≤ 2147483647) (hQ : ∀ (z : Bool), ((z = true → (0 ≤ a1 ∧ a1 < s.1 1 0)) ∧ (z = false → ¬ (0 ≤ a1 ∧ a1 < s.1 1 0))) → Q z s) : fm_18 a1 Q s := by
  unfold fm_18
  refine ⟨(show lf_R a1 from lf_Rof (by omega)), ?_⟩
  refine ⟨fun c1 => ?_, fun c1 => ?_⟩
  · skip
    replace c1 : a1 < 0 := c1
    exact hQ false (lf_pf (by omega))
  · skip
    replace c1 : ¬ (a1 < 0) := c1
    have b2 : 0 ≤ s.1 1 0 ∧ s.1 1 0 ≤ 12 := iv_r1_0 hI
    refine ⟨(show lf_R (s.1 1 0) from lf_Rof (by omega)), ?_⟩
    refine ⟨fun c3 => ?_, fun c3 => ?_⟩
    · skip
      replace c3 : s.1 1 0 ≤ a1 := c3
      exact hQ false (lf_pf (by omega))
    · skip
      replace c3 : ¬ (s.1 1 0 ≤ a1) := c3
      exact hQ true (lf_pt (by omega))
-- fm_21 Land.noteWayAt 1 i i
theorem sm_21 {a1 : Int} {a2 : Int} {Q : lf_Z → Prop} {s : lf_Z} (hI : iv_A s.1 s.2.2) (ba1 : 0 ≤ a1 ∧ a1 ≤ 11) (ba2 : 0 ≤ a2 ∧ a2 ≤ 15) (hQ : ∀  (s' : lf_Z), iv_A s'.1 s'.2.2 → lf_fq [11, 12] 1000000 true s.1 s.2.2 s'.1 s'.2.2 → Q  s') : fm_21 a1 a2 Q s := by
  unfold fm_21
  refine ⟨(show (0 : Int) ≤ a1 ∧ a1 < (12 : Int) from by omega), ?_⟩
  have b1 : 0 ≤ s.1 12 a1 ∧ s.1 12 a1 ≤ 4 := iv_r12 hI _
  refine ⟨(show lf_R (s.1 12 a1) from lf_Rof (by omega)), ?_⟩
  refine ⟨fun c2 => ?_, fun c2 => ?_⟩
  · skip
    replace c2 : 4 ≤ s.1 12 a1 := c2
    exact hQ s hI (lf_fq_rf)
  · skip
    replace c2 : ¬ (4 ≤ s.1 12 a1) := c2
    refine ⟨(show (0 : Int) ≤ (a1 * 4) + (s.1 12 a1) ∧ (a1 * 4) + (s.1 12 a1) < (48 : Int) from by omega), ?_⟩
    have hI3 : iv_A (lf_up s.1 11 ((a1 * 4) + (s.1 12 a1)) a2) s.2.2 := iv_w11 hI (by omega)
    have fr4 : lf_fq [11, 12] 1000000 true s.1 s.2.2 (lf_up s.1 11 ((a1 * 4) + (s.1 12 a1)) a2) s.2.2 := lf_fq_up (lf_fq_rf) rfl (fun h => absurd h (by decide))
    have hI5 : iv_A (lf_up (lf_up s.1 11 ((a1 * 4) + (s.1 12 a1)) a2) 12 a1 ((s.1 12 a1) + 1)) s.2.2 := iv_w12 hI3 (by omega)
    have fr6 : lf_fq [11, 12] 1000000 true s.1 s.2.2 (lf_up (lf_up s.1 11 ((a1 * 4) + (s.1 12 a1)) a2) 12 a1 ((s.1 12 a1) + 1)) s.2.2 := lf_fq_up fr4 rfl (fun h => absurd h (by decide))
    exact hQ (lf_up (lf_up s.1 11 ((a1 * 4) + (s.1 12 a1)) a2) 12 a1 ((s.1 12 a1) + 1), s.2.1, s.2.2) hI5 fr6
-- fm_22 Land.bringNear 1 13 i i
theorem sm_22_p22 {X3 : Int → lf_Z → Prop} {X22 : Int → lf_Z → Prop} {Q : lf_Z → Prop} {x2 : Int} {x3 : Int} {x4 : Int} {x5 : Int} {x6 : Int} {s : lf_Z} (hQ : ∀  (s' : lf_Z), iv_A s'.1 s'.2.2 → lf_fq [13] 1000000 true s.1 s.2.2 s'.1 s'.2.2 → Q  s') {M3 : Nat} (hX3 : ∀ (x4 : Int) (s' : lf_Z), iv_A s'.1 s'.2.2 → lf_fq [13] 1000000 true s.1 s.2.2 s'.1 s'.2.2 → 0 ≤ x4 ∧ x4 ≤ 12 → (12 - x4).toNat < M3 → X3 x4 s') (hM3 : (12 - x4).toNat ≤ M3) {M22 : Nat} (hX22 : ∀ (x6 : Int) (s' : lf_Z), iv_A s'.1 s'.2.2 → lf_fq [13] 1000000 true s.1 s.2.2 s'.1 s'.2.2 → 0 ≤ x6 ∧ x6 ≤ 12 → (12 - x6).toNat < M22 → X22 x6 s') (hM22 : (12 - x6).toNat ≤ M22) (hI : iv_A s.1 s.2.2) (bx2 : 0 ≤ x2 ∧ x2 ≤ 11) (bx3 : 0 ≤ x3 ∧ x3 ≤ 11) (bx4 : 0 ≤ x4 ∧ x4 ≤ 11) (bx5 : 0 ≤ x5 ∧ x5 ≤ 132) (bx6 : 0 ≤ x6 ∧ x6 ≤ 12) : fm_22_p22 X3 Q x2 x3 x4 x5 X22 x6 s := by
  unfold fm_22_p22
  have b3 : 0 ≤ s.1 1 0 ∧ s.1 1 0 ≤ 12 := iv_r1_0 hI
  refine ⟨(show lf_R x6 from lf_Rof (by omega)), ?_⟩
  refine ⟨(show lf_R (s.1 1 0) from lf_Rof (by omega)), ?_⟩
  refine ⟨fun c4 => ?_, fun c4 => ?_⟩
  · skip
    replace c4 : s.1 1 0 ≤ x6 := c4
    exact hX3 (x4 + 1) s hI (lf_fq_rf) (show (0 : Int) ≤ x4 + 1 ∧ x4 + 1 ≤ (12 : Int) from by omega) (show (12 - (x4 + 1)).toNat < M3 from by omega)
  · skip
    replace c4 : ¬ (s.1 1 0 ≤ x6) := c4
    refine ⟨(show (0 : Int) ≤ x5 + x2 ∧ x5 + x2 < (144 : Int) from by omega), ?_⟩
    have b5 : 0 ≤ s.1 13 (x5 + x2) ∧ s.1 13 (x5 + x2) ≤ 1000 := iv_r13 hI _
    refine ⟨(show (0 : Int) ≤ (x3 * 12) + x6 ∧ (x3 * 12) + x6 < (144 : Int) from by omega), ?_⟩
    have b6 : 0 ≤ s.1 13 ((x3 * 12) + x6) ∧ s.1 13 ((x3 * 12) + x6) ≤ 1000 := iv_r13 hI _
    refine ⟨(show (0 : Int) ≤ x5 + x3 ∧ x5 + x3 < (144 : Int) from by omega), ?_⟩
    have b7 : 0 ≤ s.1 13 (x5 + x3) ∧ s.1 13 (x5 + x3) ≤ 1000 := iv_r13 hI _
    refine ⟨(show (0 : Int) ≤ (x2 * 12) + x6 ∧ (x2 * 12) + x6 < (144 : Int) from by omega), ?_⟩
    have b8 : 0 ≤ s.1 13 ((x2 * 12) + x6) ∧ s.1 13 ((x2 * 12) + x6) ≤ 1000 := iv_r13 hI _
    refine ⟨(show (0 : Int) ≤ x5 + x6 ∧ x5 + x6 < (144 : Int) from by omega), ?_⟩
    have b9 : 0 ≤ s.1 13 (x5 + x6) ∧ s.1 13 (x5 + x6) ≤ 1000 := iv_r13 hI _
    refine ⟨(show lf_R (((s.1 13 (x5 + x2)) + 1) + (s.1 13 ((x3 * 12) + x6))) from lf_Rof (by omega)), ?_⟩
    refine ⟨(show lf_R (((s.1 13 (x5 + x3)) + 1) + (s.1 13 ((x2 * 12) + x6))) from lf_Rof (by omega)), ?_⟩
    refine ⟨(show lf_R (s.1 13 (x5 + x6)) from lf_Rof (by omega)), ?_⟩
    refine ⟨(show lf_R (min (((s.1 13 (x5 + x2)) + 1) + (s.1 13 ((x3 * 12) + x6))) (((s.1 13 (x5 + x3)) + 1) + (s.1 13 ((x2 * 12) + x6)))) from lf_Rof (by omega)), ?_⟩
    have hI10 : iv_A (lf_up s.1 13 (x5 + x6) (min (s.1 13 (x5 + x6)) (min (((s.1 13 (x5 + x2)) + 1) + (s.1 13 ((x3 * 12) + x6))) (((s.1 13 (x5 + x3)) + 1) + (s.1 13 ((x2 * 12) + x6)))))) s.2.2 := iv_w13 hI (by omega)
    have fr11 : lf_fq [13] 1000000 true s.1 s.2.2 (lf_up s.1 13 (x5 + x6) (min (s.1 13 (x5 + x6)) (min (((s.1 13 (x5 + x2)) + 1) + (s.1 13 ((x3 * 12) + x6))) (((s.1 13 (x5 + x3)) + 1) + (s.1 13 ((x2 * 12) + x6)))))) s.2.2 := lf_fq_up (lf_fq_rf) rfl (fun h => absurd h (by decide))
    exact hX22 (x6 + 1) (lf_up s.1 13 (x5 + x6) (min (s.1 13 (x5 + x6)) (min (((s.1 13 (x5 + x2)) + 1) + (s.1 13 ((x3 * 12) + x6))) (((s.1 13 (x5 + x3)) + 1) + (s.1 13 ((x2 * 12) + x6))))), s.2.1, s.2.2) hI10 fr11 (show (0 : Int) ≤ x6 + 1 ∧ x6 + 1 ≤ (12 : Int) from by omega) (show (12 - (x6 + 1)).toNat < M22 from by omega)
theorem sm_22_p22L {X3 : Int → lf_Z → Prop} {Q : lf_Z → Prop} {x2 : Int} {x3 : Int} {x4 : Int} {x5 : Int} {x6 : Int} {s : lf_Z} (hQ : ∀  (s' : lf_Z), iv_A s'.1 s'.2.2 → lf_fq [13] 1000000 true s.1 s.2.2 s'.1 s'.2.2 → Q  s') {M3 : Nat} (hX3 : ∀ (x4 : Int) (s' : lf_Z), iv_A s'.1 s'.2.2 → lf_fq [13] 1000000 true s.1 s.2.2 s'.1 s'.2.2 → 0 ≤ x4 ∧ x4 ≤ 12 → (12 - x4).toNat < M3 → X3 x4 s') (hM3 : (12 - x4).toNat ≤ M3) (hI : iv_A s.1 s.2.2) (bx2 : 0 ≤ x2 ∧ x2 ≤ 11) (bx3 : 0 ≤ x3 ∧ x3 ≤ 11) (bx4 : 0 ≤ x4 ∧ x4 ≤ 11) (bx5 : 0 ≤ x5 ∧ x5 ≤ 132) (bx6 : 0 ≤ x6 ∧ x6 ≤ 12) : fm_22_p22L X3 Q x2 x3 x4 x5 x6 s := by
  intro X22 hX
  have key : ∀ (m9 : Nat) (x6 : Int) (s' : lf_Z), iv_A s'.1 s'.2.2 → lf_fq [13] 1000000 true s.1 s.2.2 s'.1 s'.2.2 → 0 ≤ x6 ∧ x6 ≤ 12 → (12 - x6).toNat < m9 → X22 x6 s' := by
    intro m9
    induction m9 with
    | zero => intro x6 s' _ _ bx6 h9; exact absurd h9 (Nat.not_lt_zero _)
    | succ m9 ih => intro x6 s' i7 f7 bx6 h9; exact hX _ _ (sm_22_p22 (fun t9 i9 f9 => hQ t9 i9 (lf_fq_tr f7 f9))  (fun p0 t9 i9 f9 => hX3 p0 t9 i9 (lf_fq_tr f7 f9)) hM3 (fun x6' t8 i8 f8 bx6' h8 => ih x6' t8 i8 (lf_fq_tr f7 f8) bx6' (by omega)) (Nat.le_refl _)  i7  bx2 bx3 bx4 bx5 bx6  )
  exact key _ _ s hI lf_fq_rf bx6 (Nat.lt_succ_self _)
theorem sm_22_p3 {X3 : Int → lf_Z → Prop} {Q : lf_Z → Prop} {x2 : Int} {x3 : Int} {x4 : Int} {s : lf_Z} (hQ : ∀  (s' : lf_Z), iv_A s'.1 s'.2.2 → lf_fq [13] 1000000 true s.1 s.2.2 s'.1 s'.2.2 → Q  s') {M3 : Nat} (hX3 : ∀ (x4 : Int) (s' : lf_Z), iv_A s'.1 s'.2.2 → lf_fq [13] 1000000 true s.1 s.2.2 s'.1 s'.2.2 → 0 ≤ x4 ∧ x4 ≤ 12 → (12 - x4).toNat < M3 → X3 x4 s') (hM3 : (12 - x4).toNat ≤ M3) (hI : iv_A s.1 s.2.2) (bx2 : 0 ≤ x2 ∧ x2 ≤ 11) (bx3 : 0 ≤ x3 ∧ x3 ≤ 11) (bx4 : 0 ≤ x4 ∧ x4 ≤ 12) : fm_22_p3 Q x2 x3 X3 x4 s := by
  unfold fm_22_p3
  have b1 : 0 ≤ s.1 1 0 ∧ s.1 1 0 ≤ 12 := iv_r1_0 hI
  refine ⟨(show lf_R x4 from lf_Rof (by omega)), ?_⟩
  refine ⟨(show lf_R (s.1 1 0) from lf_Rof (by omega)), ?_⟩
  refine ⟨fun c2 => ?_, fun c2 => ?_⟩
  · skip
    replace c2 : s.1 1 0 ≤ x4 := c2
    exact hQ s hI (lf_fq_rf)
  · skip
    replace c2 : ¬ (s.1 1 0 ≤ x4) := c2
    exact sm_22_p22L hQ hX3 (show (12 - x4).toNat ≤ M3 from by omega) hI (show (0 : Int) ≤ x2 ∧ x2 ≤ (11 : Int) from by omega) (show (0 : Int) ≤ x3 ∧ x3 ≤ (11 : Int) from by omega) (show (0 : Int) ≤ x4 ∧ x4 ≤ (11 : Int) from by omega) (show (0 : Int) ≤ x4 * 12 ∧ x4 * 12 ≤ (132 : Int) from by omega) (show (0 : Int) ≤ 0 ∧ 0 ≤ (12 : Int) from by omega)
theorem sm_22_p3L {Q : lf_Z → Prop} {x2 : Int} {x3 : Int} {x4 : Int} {s : lf_Z} (hQ : ∀  (s' : lf_Z), iv_A s'.1 s'.2.2 → lf_fq [13] 1000000 true s.1 s.2.2 s'.1 s'.2.2 → Q  s') (hI : iv_A s.1 s.2.2) (bx2 : 0 ≤ x2 ∧ x2 ≤ 11) (bx3 : 0 ≤ x3 ∧ x3 ≤ 11) (bx4 : 0 ≤ x4 ∧ x4 ≤ 12) : fm_22_p3L Q x2 x3 x4 s := by
  intro X3 hX
  have key : ∀ (m9 : Nat) (x4 : Int) (s' : lf_Z), iv_A s'.1 s'.2.2 → lf_fq [13] 1000000 true s.1 s.2.2 s'.1 s'.2.2 → 0 ≤ x4 ∧ x4 ≤ 12 → (12 - x4).toNat < m9 → X3 x4 s' := by
    intro m9
    induction m9 with
    | zero => intro x4 s' _ _ bx4 h9; exact absurd h9 (Nat.not_lt_zero _)
    | succ m9 ih => intro x4 s' i7 f7 bx4 h9; exact hX _ _ (sm_22_p3 (fun t9 i9 f9 => hQ t9 i9 (lf_fq_tr f7 f9))   (fun x4' t8 i8 f8 bx4' h8 => ih x4' t8 i8 (lf_fq_tr f7 f8) bx4' (by omega)) (Nat.le_refl _)  i7  bx2 bx3 bx4  )
  exact key _ _ s hI lf_fq_rf bx4 (Nat.lt_succ_self _)
theorem sm_22 {a2 : Int} {a3 : Int} {Q : lf_Z → Prop} {s : lf_Z} (hI : iv_A s.1 s.2.2) (ba2 : 0 ≤ a2 ∧ a2 ≤ 11) (ba3 : 0 ≤ a3 ∧ a3 ≤ 11) (hQ : ∀  (s' : lf_Z), iv_A s'.1 s'.2.2 → lf_fq [13] 1000000 true s.1 s.2.2 s'.1 s'.2.2 → Q  s') : fm_22 a2 a3 Q s := by
  unfold fm_22
  exact sm_22_p3L hQ hI (show (0 : Int) ≤ a2 ∧ a2 ≤ (11 : Int) from by omega) (show (0 : Int) ≤ a3 ∧ a3 ≤ (11 : Int) from by omega) (show (0 : Int) ≤ 0 ∧ 0 ≤ (12 : Int) from by omega)
-- fm_20 Land.layWay 1 i
theorem sm_20 {a1 : Int} {Q : lf_Z → Prop} {s : lf_Z} (hI : iv_A s.1 s.2.2) (ba1 : 0 ≤ a1 ∧ a1 ≤ 15) (hQ : ∀  (s' : lf_Z), iv_A s'.1 s'.2.2 → lf_fq [11, 12, 13] 1000000 true s.1 s.2.2 s'.1 s'.2.2 → Q  s') : fm_20 a1 Q s := by
  unfold fm_20
  refine ⟨(show (0 : Int) ≤ a1 ∧ a1 < (16 : Int) from by omega), ?_⟩
  have b1 : 0 ≤ s.1 4 a1 ∧ s.1 4 a1 ≤ 11 := iv_r4 hI _
  refine sm_21 hI (show (0 : Int) ≤ s.1 4 a1 ∧ s.1 4 a1 ≤ (11 : Int) from by omega) (show (0 : Int) ≤ a1 ∧ a1 ≤ (15 : Int) from by omega) (fun s22 hI3 fr2 => ?_)
  have fr5 : lf_fq [11, 12, 13] 1000000 true s.1 s.2.2 s22.1 s22.2.2 := lf_fq_tr (lf_fq_rf) (lf_fq_wk fr2 rfl (by decide) (by decide))
  have b6 : 0 ≤ s22.1 5 a1 ∧ s22.1 5 a1 ≤ 11 := iv_r5 hI3 _
  have b7 : s22.1 5 a1 = s.1 5 a1 := congrFun (fr2.1 5 rfl) _
  refine sm_21 hI3 (show (0 : Int) ≤ s22.1 5 a1 ∧ s22.1 5 a1 ≤ (11 : Int) from by omega) (show (0 : Int) ≤ a1 ∧ a1 ≤ (15 : Int) from by omega) (fun s23 hI9 fr8 => ?_)
  have fr11 : lf_fq [11, 12, 13] 1000000 true s.1 s.2.2 s23.1 s23.2.2 := lf_fq_tr fr5 (lf_fq_wk fr8 rfl (by decide) (by decide))
  have b12 : 0 ≤ s23.1 4 a1 ∧ s23.1 4 a1 ≤ 11 := iv_r4 hI9 _
  have b13 : s23.1 4 a1 = s22.1 4 a1 := congrFun (fr8.1 4 rfl) _
  have b14 : s22.1 4 a1 = s.1 4 a1 := congrFun (fr2.1 4 rfl) _
  have b15 : 0 ≤ s23.1 5 a1 ∧ s23.1 5 a1 ≤ 11 := iv_r5 hI9 _
  have b16 : s23.1 5 a1 = s22.1 5 a1 := congrFun (fr8.1 5 rfl) _
  refine sm_22 hI9 (show (0 : Int) ≤ s23.1 4 a1 ∧ s23.1 4 a1 ≤ (11 : Int) from by omega) (show (0 : Int) ≤ s23.1 5 a1 ∧ s23.1 5 a1 ≤ (11 : Int) from by omega) (fun s24 hI18 fr17 => ?_)
  have fr20 : lf_fq [11, 12, 13] 1000000 true s.1 s.2.2 s24.1 s24.2.2 := lf_fq_tr fr11 (lf_fq_wk fr17 rfl (by decide) (by decide))
  exact hQ s24 hI18 fr20
-- fm_19 Land.addWay 1 i i i
theorem sm_19 {a1 : Int} {a2 : Int} {a3 : Int} {Q : Int → lf_Z → Prop} {s : lf_Z} (hI : iv_A s.1 s.2.2) (ba1 : 0 ≤ a1 ∧ a1 ≤ 11) (ba2 : 0 ≤ a2 ∧ a2 ≤ 11) (ba3 : 0 ≤ a3 ∧ a3 ≤ 1) (hQ : ∀ (r : Int) (s' : lf_Z), iv_A s'.1 s'.2.2 → lf_fq [1, 4, 5, 6, 11, 12, 13] 1000000 true s.1 s.2.2 s'.1 s'.2.2 → ((-1) ≤ r ∧ r ≤ 15) → Q r s') : fm_19 a1 a2 a3 Q s := by
  unfold fm_19
  have b1 : 0 ≤ s.1 1 1 ∧ s.1 1 1 ≤ 16 := iv_r1_1 hI
  refine ⟨(show lf_R (s.1 1 1) from lf_Rof (by omega)), ?_⟩
  refine ⟨fun c2 => ?_, fun c2 => ?_⟩
  · skip
    replace c2 : 16 ≤ s.1 1 1 := c2
    exact hQ (-1) s hI (lf_fq_rf) (show (-1 : Int) ≤ (-1) ∧ (-1) ≤ (15 : Int) from by omega)
  · skip
    replace c2 : ¬ (16 ≤ s.1 1 1) := c2
    refine ⟨(show (0 : Int) ≤ a1 ∧ a1 < (12 : Int) from by omega), ?_⟩
    have b3 : 0 ≤ s.1 12 a1 ∧ s.1 12 a1 ≤ 4 := iv_r12 hI _
    refine ⟨(show lf_R (s.1 12 a1) from lf_Rof (by omega)), ?_⟩
    refine ⟨fun c4 => ?_, fun c4 => ?_⟩
    · skip
      replace c4 : 4 ≤ s.1 12 a1 := c4
      exact hQ (-1) s hI (lf_fq_rf) (show (-1 : Int) ≤ (-1) ∧ (-1) ≤ (15 : Int) from by omega)
    · skip
      replace c4 : ¬ (4 ≤ s.1 12 a1) := c4
      refine ⟨(show (0 : Int) ≤ a2 ∧ a2 < (12 : Int) from by omega), ?_⟩
      have b5 : 0 ≤ s.1 12 a2 ∧ s.1 12 a2 ≤ 4 := iv_r12 hI _
      refine ⟨(show lf_R (s.1 12 a2) from lf_Rof (by omega)), ?_⟩
      refine ⟨fun c6 => ?_, fun c6 => ?_⟩
      · skip
        replace c6 : s.1 12 a2 < 4 := c6
        refine ⟨(show (0 : Int) ≤ s.1 1 1 ∧ s.1 1 1 < (16 : Int) from by omega), ?_⟩
        have hI7 : iv_A (lf_up s.1 4 (s.1 1 1) a1) s.2.2 := iv_w4 hI (by omega)
        have fr8 : lf_fq [1, 4, 5, 6, 11, 12, 13] 1000000 true s.1 s.2.2 (lf_up s.1 4 (s.1 1 1) a1) s.2.2 := lf_fq_up (lf_fq_rf) rfl (fun h => absurd h (by decide))
        have hI9 : iv_A (lf_up (lf_up s.1 4 (s.1 1 1) a1) 5 (s.1 1 1) a2) s.2.2 := iv_w5 hI7 (by omega)
        have fr10 : lf_fq [1, 4, 5, 6, 11, 12, 13] 1000000 true s.1 s.2.2 (lf_up (lf_up s.1 4 (s.1 1 1) a1) 5 (s.1 1 1) a2) s.2.2 := lf_fq_up fr8 rfl (fun h => absurd h (by decide))
        refine ⟨(show a3 = 0 ∨ a3 = 1 from by omega), ?_⟩
        have hI11 : iv_A (lf_up (lf_up (lf_up s.1 4 (s.1 1 1) a1) 5 (s.1 1 1) a2) 6 (s.1 1 1) a3) s.2.2 := iv_w6 hI9 (by omega)
        have fr12 : lf_fq [1, 4, 5, 6, 11, 12, 13] 1000000 true s.1 s.2.2 (lf_up (lf_up (lf_up s.1 4 (s.1 1 1) a1) 5 (s.1 1 1) a2) 6 (s.1 1 1) a3) s.2.2 := lf_fq_up fr10 rfl (fun h => absurd h (by decide))
        have hI13 : iv_A (lf_up (lf_up (lf_up (lf_up s.1 4 (s.1 1 1) a1) 5 (s.1 1 1) a2) 6 (s.1 1 1) a3) 1 1 ((s.1 1 1) + 1)) s.2.2 := iv_w1_1 hI11 (by omega)
        have fr14 : lf_fq [1, 4, 5, 6, 11, 12, 13] 1000000 true s.1 s.2.2 (lf_up (lf_up (lf_up (lf_up s.1 4 (s.1 1 1) a1) 5 (s.1 1 1) a2) 6 (s.1 1 1) a3) 1 1 ((s.1 1 1) + 1)) s.2.2 := lf_fq_up fr12 rfl (fun h => absurd h (by decide))
        refine sm_20 hI13 (show (0 : Int) ≤ ((s.1 1 1) + 1) - 1 ∧ ((s.1 1 1) + 1) - 1 ≤ (15 : Int) from by omega) (fun s28 hI16 fr15 => ?_)
        have fr18 : lf_fq [1, 4, 5, 6, 11, 12, 13] 1000000 true s.1 s.2.2 s28.1 s28.2.2 := lf_fq_tr fr14 (lf_fq_wk fr15 rfl (by decide) (by decide))
        have b19 : 0 ≤ s28.1 1 1 ∧ s28.1 1 1 ≤ 16 := iv_r1_1 hI16
        have b20 : s28.1 1 1 = (s.1 1 1) + 1 := congrFun (fr15.1 1 rfl) _
        exact hQ ((s28.1 1 1) - 1) s28 hI16 fr18 (show (-1 : Int) ≤ (s28.1 1 1) - 1 ∧ (s28.1 1 1) - 1 ≤ (15 : Int) from by omega)
      · skip
        replace c6 : ¬ (s.1 12 a2 < 4) := c6
        exact hQ (-1) s hI (lf_fq_rf) (show (-1 : Int) ≤ (-1) ∧ (-1) ≤ (15 : Int) from by omega)
-- fm_17 ElevenBullocks.way 0 i i i
theorem sm_17 {a1 : Int} {a2 : Int} {a3 : Int} {Q : Int → lf_Z → Prop} {s : lf_Z} (hI : iv_A s.1 s.2.2) (ba1 : (-2147483648) ≤ a1 ∧ a1 ≤ 2147483647) (ba2 : (-2147483648) ≤ a2 ∧ a2 ≤ 2147483647) (ba3 : 0 ≤ a3 ∧ a3 ≤ 1) (hQ : ∀ (r : Int) (s' : lf_Z), iv_A s'.1 s'.2.2 → lf_fq [1, 4, 5, 6, 11, 12, 13] 1000000 true s.1 s.2.2 s'.1 s'.2.2 → ((-1) ≤ r ∧ r ≤ 15) → Q r s') : fm_17 a1 a2 a3 Q s := by
  unfold fm_17
  refine sm_18 hI (show (-2147483648 : Int) ≤ a1 ∧ a1 ≤ (2147483647 : Int) from by omega) (fun z22 q1 => ?_)
  have b2 : 0 ≤ s.1 1 0 ∧ s.1 1 0 ≤ 12 := iv_r1_0 hI
  refine ⟨fun c3 => ?_, fun c3 => ?_⟩
  · skip
    have dc3 := q1.2 c3
    exact hQ (-1) s hI (lf_fq_rf) (show (-1 : Int) ≤ (-1) ∧ (-1) ≤ (15 : Int) from by omega)
  · skip
    have dc3 := q1.1 c3
    refine sm_18 hI (show (-2147483648 : Int) ≤ a2 ∧ a2 ≤ (2147483647 : Int) from by omega) (fun z24 q4 => ?_)
    refine ⟨fun c5 => ?_, fun c5 => ?_⟩
    · skip
      have dc5 := q4.2 c5
      exact hQ (-1) s hI (lf_fq_rf) (show (-1 : Int) ≤ (-1) ∧ (-1) ≤ (15 : Int) from by omega)
    · skip
      have dc5 := q4.1 c5
      refine ⟨(show lf_R a1 from lf_Rof (by omega)), ?_⟩
      refine ⟨(show lf_R a2 from lf_Rof (by omega)), ?_⟩
      refine ⟨fun c6 => ?_, fun c6 => ?_⟩
      · skip
        replace c6 : a1 ≠ a2 := c6
        refine sm_19 hI (show (0 : Int) ≤ a1 ∧ a1 ≤ (11 : Int) from by omega) (show (0 : Int) ≤ a2 ∧ a2 ≤ (11 : Int) from by omega) (show (0 : Int) ≤ a3 ∧ a3 ≤ (1 : Int) from by omega) (fun r28 s27 hI8 fr7 q9 => ?_)
        have fr10 : lf_fq [1, 4, 5, 6, 11, 12, 13] 1000000 true s.1 s.2.2 s27.1 s27.2.2 := lf_fq_tr (lf_fq_rf) (lf_fq_wk fr7 rfl (by decide) (by decide))
        exact hQ r28 s27 hI8 fr10 (show (-1 : Int) ≤ r28 ∧ r28 ≤ (15 : Int) from by omega)
      · skip
        replace c6 : ¬ (a1 ≠ a2) := c6
        exact hQ (-1) s hI (lf_fq_rf) (show (-1 : Int) ≤ (-1) ∧ (-1) ≤ (15 : Int) from by omega)
-- fm_185 Model.isStretch 95 i
theorem sm_185 {a1 : Int} {Q : Bool → lf_Z → Prop} {s : lf_Z} (hI : iv_A s.1 s.2.2) (ba1 : (-2147483648) ≤ a1 ∧ a1 ≤ 2147483647) (hQ : ∀ (z : Bool), ((z = true → (0 ≤ a1 ∧ a1 < s.1 96 0)) ∧ (z = false → ¬ (0 ≤ a1 ∧ a1 < s.1 96 0))) → Q z s) : fm_185 a1 Q s := by
  unfold fm_185
  have b1 : 0 ≤ s.1 96 0 ∧ s.1 96 0 ≤ 12 := iv_rd96 hI (iv_f3e1fa21c (by omega))
  refine sm_183 hI (show (-2147483648 : Int) ≤ a1 ∧ a1 ≤ (2147483647 : Int) from by omega) (show (-1 : Int) ≤ 0 ∧ 0 ≤ (97 : Int) from by omega) (show (-1 : Int) ≤ (s.1 96 0) - 1 ∧ (s.1 96 0) - 1 ≤ (9999 : Int) from by omega) (fun z22 q2 => ?_)
  exact hQ z22 ⟨fun h9 => by have h8 := q2.1 h9; omega, fun h9 => by have h8 := q2.2 h9; omega⟩
-- fm_187 Model.acrossOf 95 i i
theorem sm_187 {a1 : Int} {a2 : Int} {Q : Int → lf_Z → Prop} {s : lf_Z} (hI : iv_A s.1 s.2.2) (ba1 : 0 ≤ a1 ∧ a1 ≤ 15) (ba2 : 0 ≤ a2 ∧ a2 ≤ 11) (hQ : ∀ (r : Int), (((-1) ≤ r ∧ r ≤ 11) ∧ (r = iv_os (s.1 96) a1 a2)) → Q r s) : fm_187 a1 a2 Q s := by
  unfold fm_187
  refine ⟨(show (0 : Int) ≤ 50 + (4 * a1) ∧ 50 + (4 * a1) < (1538 : Int) from by omega), ?_⟩
  have b1 : 0 ≤ s.1 96 (50 + (4 * a1)) ∧ s.1 96 (50 + (4 * a1)) ≤ 11 := iv_rd96 hI (iv_f76190a29 (a1) (by omega) (by omega))
  refine ⟨(show (0 : Int) ≤ (50 + (4 * a1)) + 1 ∧ (50 + (4 * a1)) + 1 < (1538 : Int) from by omega), ?_⟩
  have b2 : 0 ≤ s.1 96 ((50 + (4 * a1)) + 1) ∧ s.1 96 ((50 + (4 * a1)) + 1) ≤ 11 := iv_rd96 hI (iv_fba8b7512 (a1) (by omega) (by omega))
  refine ⟨(show lf_R (s.1 96 (50 + (4 * a1))) from lf_Rof (by omega)), ?_⟩
  refine ⟨(show lf_R a2 from lf_Rof (by omega)), ?_⟩
  refine ⟨fun c3 => ?_, fun c3 => ?_⟩
  · skip
    replace c3 : s.1 96 (50 + (4 * a1)) ≠ a2 := c3
    refine ⟨(show lf_R (s.1 96 ((50 + (4 * a1)) + 1)) from lf_Rof (by omega)), ?_⟩
    refine ⟨fun c4 => ?_, fun c4 => ?_⟩
    · skip
      replace c4 : s.1 96 ((50 + (4 * a1)) + 1) ≠ a2 := c4
      exact hQ (-1) ⟨(show (-1 : Int) ≤ (-1) ∧ (-1) ≤ (11 : Int) from by omega), (show (-1) = iv_os (s.1 96) a1 a2 from by unfold iv_os; (repeat' split) <;> first | rfl | omega | contradiction)⟩
    · skip
      replace c4 : ¬ (s.1 96 ((50 + (4 * a1)) + 1) ≠ a2) := c4
      exact hQ (s.1 96 (50 + (4 * a1))) ⟨(show (-1 : Int) ≤ s.1 96 (50 + (4 * a1)) ∧ s.1 96 (50 + (4 * a1)) ≤ (11 : Int) from by omega), (show s.1 96 (50 + (4 * a1)) = iv_os (s.1 96) a1 a2 from by unfold iv_os; (repeat' split) <;> first | rfl | omega | contradiction)⟩
  · skip
    replace c3 : ¬ (s.1 96 (50 + (4 * a1)) ≠ a2) := c3
    exact hQ (s.1 96 ((50 + (4 * a1)) + 1)) ⟨(show (-1 : Int) ≤ s.1 96 ((50 + (4 * a1)) + 1) ∧ s.1 96 ((50 + (4 * a1)) + 1) ≤ (11 : Int) from by omega), (show s.1 96 ((50 + (4 * a1)) + 1) = iv_os (s.1 96) a1 a2 from by unfold iv_os; (repeat' split) <;> first | rfl | omega | contradiction)⟩
-- fm_186 Model.waysAt 95 i
theorem sm_186_p31 {X4 : Int → Int → lf_Z → Prop} {Q : Int → lf_Z → Prop} {x1 : Int} {x3 : Int} {y0 : Int} {y1 : Int} {s : lf_Z} (hQ : ∀ (r : Int), ((-2147483648) ≤ r ∧ r ≤ 2147483647) → Q r s) {M4 : Nat} (hX4 : ∀ (x2 : Int) (x3 : Int), (-2147483648) ≤ x2 ∧ x2 ≤ 2147483647 → 0 ≤ x3 ∧ x3 ≤ 16 → (16 - x3).toNat < M4 → X4 x2 x3 s) (hM4 : (16 - x3).toNat ≤ M4) (hI : iv_A s.1 s.2.2) (bx1 : 0 ≤ x1 ∧ x1 ≤ 11) (bx3 : 0 ≤ x3 ∧ x3 ≤ 15) (by0 : (-2147483648) ≤ y0 ∧ y0 ≤ 2147483647) (by1 : 0 ≤ y1 ∧ y1 ≤ 32768) : fm_186_p31 X4 Q x1 x3 y0 y1 s := by
  unfold fm_186_p31
  have b6 : (-2147483648) ≤ lf_or y0 y1 ∧ lf_or y0 y1 ≤ 2147483647 := lf_orB
  exact hX4 (lf_or y0 y1) (x3 + 1) (show (-2147483648 : Int) ≤ lf_or y0 y1 ∧ lf_or y0 y1 ≤ (2147483647 : Int) from by omega) (show (0 : Int) ≤ x3 + 1 ∧ x3 + 1 ≤ (16 : Int) from by omega) (show (16 - (x3 + 1)).toNat < M4 from by omega)
theorem sm_186_p4 {X4 : Int → Int → lf_Z → Prop} {Q : Int → lf_Z → Prop} {x1 : Int} {x2 : Int} {x3 : Int} {s : lf_Z} (hQ : ∀ (r : Int), ((-2147483648) ≤ r ∧ r ≤ 2147483647) → Q r s) {M4 : Nat} (hX4 : ∀ (x2 : Int) (x3 : Int), (-2147483648) ≤ x2 ∧ x2 ≤ 2147483647 → 0 ≤ x3 ∧ x3 ≤ 16 → (16 - x3).toNat < M4 → X4 x2 x3 s) (hM4 : (16 - x3).toNat ≤ M4) (hI : iv_A s.1 s.2.2) (bx1 : 0 ≤ x1 ∧ x1 ≤ 11) (bx2 : (-2147483648) ≤ x2 ∧ x2 ≤ 2147483647) (bx3 : 0 ≤ x3 ∧ x3 ≤ 16) : fm_186_p4 Q x1 X4 x2 x3 s := by
  unfold fm_186_p4
  have b1 : 0 ≤ s.1 96 1 ∧ s.1 96 1 ≤ 16 := iv_rd96 hI (iv_fd6ad3e54 (by omega))
  have b2 : s.1 96 1 ≤ 0 ∨ 0 < s.1 96 0 := (show s.1 96 1 ≤ 0 ∨ 0 < s.1 96 0 from iv_l96_1 hI)
  refine ⟨(show lf_R x3 from lf_Rof (by omega)), ?_⟩
  refine ⟨(show lf_R (s.1 96 1) from lf_Rof (by omega)), ?_⟩
  refine ⟨fun c3 => ?_, fun c3 => ?_⟩
  · skip
    replace c3 : s.1 96 1 ≤ x3 := c3
    exact hQ x2 (show (-2147483648 : Int) ≤ x2 ∧ x2 ≤ (2147483647 : Int) from by omega)
  · skip
    replace c3 : ¬ (s.1 96 1 ≤ x3) := c3
    refine sm_187 hI (show (0 : Int) ≤ x3 ∧ x3 ≤ (15 : Int) from by omega) (show (0 : Int) ≤ x1 ∧ x1 ≤ (11 : Int) from by omega) (fun r24 q4 => ?_)
    obtain ⟨q4, q4x⟩ := q4
    replace q4x : r24 = iv_os (s.1 96) x3 x1 := q4x
    refine ⟨(show lf_R r24 from lf_Rof (by omega)), ?_⟩
    refine ⟨fun c5 => ?_, fun c5 => ?_⟩
    · skip
      replace c5 : r24 < 0 := c5
      exact sm_186_p31 hQ hX4 (show (16 - x3).toNat ≤ M4 from by omega) hI (show (0 : Int) ≤ x1 ∧ x1 ≤ (11 : Int) from by omega) (show (0 : Int) ≤ x3 ∧ x3 ≤ (15 : Int) from by omega) (show (-2147483648 : Int) ≤ x2 ∧ x2 ≤ (2147483647 : Int) from by omega) (show (0 : Int) ≤ 0 ∧ 0 ≤ (32768 : Int) from by omega)
    · skip
      replace c5 : ¬ (r24 < 0) := c5
      have b7 : 1 ≤ lf_shl 1 x3 ∧ lf_shl 1 x3 ≤ 32768 := lf_shl1 (m := 15) (by omega) (by omega) (by decide)
      exact sm_186_p31 hQ hX4 (show (16 - x3).toNat ≤ M4 from by omega) hI (show (0 : Int) ≤ x1 ∧ x1 ≤ (11 : Int) from by omega) (show (0 : Int) ≤ x3 ∧ x3 ≤ (15 : Int) from by omega) (show (-2147483648 : Int) ≤ x2 ∧ x2 ≤ (2147483647 : Int) from by omega) (show (0 : Int) ≤ lf_shl 1 x3 ∧ lf_shl 1 x3 ≤ (32768 : Int) from by omega)
theorem sm_186_p4L {Q : Int → lf_Z → Prop} {x1 : Int} {x2 : Int} {x3 : Int} {s : lf_Z} (hQ : ∀ (r : Int), ((-2147483648) ≤ r ∧ r ≤ 2147483647) → Q r s) (hI : iv_A s.1 s.2.2) (bx1 : 0 ≤ x1 ∧ x1 ≤ 11) (bx2 : (-2147483648) ≤ x2 ∧ x2 ≤ 2147483647) (bx3 : 0 ≤ x3 ∧ x3 ≤ 16) : fm_186_p4L Q x1 x2 x3 s := by
  intro X4 hX
  have key : ∀ (m9 : Nat) (x2 : Int) (x3 : Int), (-2147483648) ≤ x2 ∧ x2 ≤ 2147483647 → 0 ≤ x3 ∧ x3 ≤ 16 → (16 - x3).toNat < m9 → X4 x2 x3 s := by
    intro m9
    induction m9 with
    | zero => intro x2 x3 bx2 bx3 h9; exact absurd h9 (Nat.not_lt_zero _)
    | succ m9 ih => intro x2 x3 bx2 bx3 h9; exact hX _ _ _ (sm_186_p4 hQ   (fun x2' x3' bx2' bx3' h8 => ih x2' x3' bx2' bx3' (by omega)) (Nat.le_refl _)  hI  bx1 bx2 bx3  )
  exact key _ _ _ bx2 bx3   (Nat.lt_succ_self _)
theorem sm_186 {a1 : Int} {Q : Int → lf_Z → Prop} {s : lf_Z} (hI : iv_A s.1 s.2.2) (ba1 : 0 ≤ a1 ∧ a1 ≤ 11) (hQ : ∀ (r : Int), ((-2147483648) ≤ r ∧ r ≤ 2147483647) → Q r s) : fm_186 a1 Q s := by
  unfold fm_186
  exact sm_186_p4L hQ hI (show (0 : Int) ≤ a1 ∧ a1 ≤ (11 : Int) from by omega) (show (-2147483648 : Int) ≤ 0 ∧ 0 ≤ (2147483647 : Int) from by omega) (show (0 : Int) ≤ 0 ∧ 0 ≤ (16 : Int) from by omega)
-- fm_188 Model.bits i
theorem sm_188_p4 {X4 : Int → Int → lf_Z → Prop} {Q : Int → lf_Z → Prop} {x0 : Int} {x1 : Int} {x2 : Int} {s : lf_Z} {s0 : lf_Z} (hQ : ∀ (r : Int), (r = lf_bt (x0) 16) → (0 ≤ r ∧ r ≤ 16) → Q r s) {M4 : Nat} (hX4 : ∀ (x1 : Int) (x2 : Int), 0 ≤ x1 ∧ x1 ≤ 16 → 0 ≤ x2 ∧ x2 ≤ 16 → (x1 = lf_bt (x0) (x2)) → (0 ≤ x1 ∧ x1 ≤ x2) → (16 - x2).toNat < M4 → X4 x1 x2 s) (hM4 : (16 - x2).toNat ≤ M4) (hI : iv_A s.1 s.2.2) (bx0 : (-2147483648) ≤ x0 ∧ x0 ≤ 2147483647) (bx1 : 0 ≤ x1 ∧ x1 ≤ 16) (bx2 : 0 ≤ x2 ∧ x2 ≤ 16) (kv0 : x1 = lf_bt (x0) (x2)) (kv1 : 0 ≤ x1 ∧ x1 ≤ x2) : fm_188_p4 Q x0 X4 x1 x2 s := by
  unfold fm_188_p4
  refine ⟨(show lf_R x2 from lf_Rof (by omega)), ?_⟩
  refine ⟨fun c2 => ?_, fun c2 => ?_⟩
  · skip
    replace c2 : 16 ≤ x2 := c2
    have b3 : lf_bt (x0) (x2) = lf_bt (x0) 16 := congrArg (lf_bt x0) (by omega)
    exact hQ x1 (show x1 = lf_bt (x0) 16 from by omega) (show (0 : Int) ≤ x1 ∧ x1 ≤ (16 : Int) from by omega)
  · skip
    replace c2 : ¬ (16 ≤ x2) := c2
    have b4 : lf_bt (x0) (x2 + 1) = lf_bt (x0) (x2) + lf_and (lf_shr (x0) (x2)) 1 := lf_btS (by omega)
    have b5 : (-2147483648) ≤ lf_shr x0 x2 ∧ lf_shr x0 x2 ≤ 2147483647 := lf_shrB
    have b6 : 0 ≤ lf_and (lf_shr x0 x2) 1 ∧ lf_and (lf_shr x0 x2) 1 ≤ 1 := lf_andB (by omega) (by omega)
    have b7 : lf_bt (x0) 0 = 0 := rfl
    exact hX4 (x1 + (lf_and (lf_shr x0 x2) 1)) (x2 + 1) (show (0 : Int) ≤ x1 + (lf_and (lf_shr x0 x2) 1) ∧ x1 + (lf_and (lf_shr x0 x2) 1) ≤ (16 : Int) from by omega) (show (0 : Int) ≤ x2 + 1 ∧ x2 + 1 ≤ (16 : Int) from by omega) (show (x1 + (lf_and (lf_shr x0 x2) 1)) = lf_bt (x0) ((x2 + 1)) from by omega) (show 0 ≤ (x1 + (lf_and (lf_shr x0 x2) 1)) ∧ (x1 + (lf_and (lf_shr x0 x2) 1)) ≤ (x2 + 1) from by omega) (show (16 - (x2 + 1)).toNat < M4 from by omega)
theorem sm_188_p4L {Q : Int → lf_Z → Prop} {x0 : Int} {x1 : Int} {x2 : Int} {s : lf_Z} {s0 : lf_Z} (hQ : ∀ (r : Int), (r = lf_bt (x0) 16) → (0 ≤ r ∧ r ≤ 16) → Q r s) (hI : iv_A s.1 s.2.2) (bx0 : (-2147483648) ≤ x0 ∧ x0 ≤ 2147483647) (bx1 : 0 ≤ x1 ∧ x1 ≤ 16) (bx2 : 0 ≤ x2 ∧ x2 ≤ 16) (kv0 : x1 = lf_bt (x0) (x2)) (kv1 : 0 ≤ x1 ∧ x1 ≤ x2) : fm_188_p4L Q x0 x1 x2 s := by
  intro X4 hX
  have key : ∀ (m9 : Nat) (x1 : Int) (x2 : Int), 0 ≤ x1 ∧ x1 ≤ 16 → 0 ≤ x2 ∧ x2 ≤ 16 → (x1 = lf_bt (x0) (x2)) → (0 ≤ x1 ∧ x1 ≤ x2) → (16 - x2).toNat < m9 → X4 x1 x2 s := by
    intro m9
    induction m9 with
    | zero => intro x1 x2 bx1 bx2 kv0 kv1 h9; exact absurd h9 (Nat.not_lt_zero _)
    | succ m9 ih => intro x1 x2 bx1 bx2 kv0 kv1 h9; exact hX _ _ _ (sm_188_p4 (s0 := s0) hQ   (fun x1' x2' bx1' bx2' kv0' kv1' h8 => ih x1' x2' bx1' bx2' kv0' kv1' (by omega)) (Nat.le_refl _)  hI  bx0 bx1 bx2  kv0 kv1)
  exact key _ _ _ bx1 bx2  kv0 kv1 (Nat.lt_succ_self _)
theorem sm_188 {a0 : Int} {Q : Int → lf_Z → Prop} {s : lf_Z} (hI : iv_A s.1 s.2.2) (ba0 : (-2147483648) ≤ a0 ∧ a0 ≤ 2147483647) (hQ : ∀ (r : Int), (r = lf_bt (a0) 16) → (0 ≤ r ∧ r ≤ 16) → Q r s) : fm_188 a0 Q s := by
  unfold fm_188
  have b1 : lf_bt (a0) 0 = 0 := rfl
  exact sm_188_p4L (s0 := s) hQ hI (show (-2147483648 : Int) ≤ a0 ∧ a0 ≤ (2147483647 : Int) from by omega) (show (0 : Int) ≤ 0 ∧ 0 ≤ (16 : Int) from by omega) (show (0 : Int) ≤ 0 ∧ 0 ≤ (16 : Int) from by omega) (show 0 = lf_bt (a0) (0) from by omega) (show 0 ≤ 0 ∧ 0 ≤ 0 from by omega)
-- fm_184 Model.way 95 i i i
theorem sm_184_p106 {Q : Int → lf_Z → Prop} {x4 : Int} {y1 : Int} {y2 : Int} {s : lf_Z} (hQ : ∀ (r : Int) (s' : lf_Z), iv_A s'.1 s'.2.2 → lf_fq [96, 1002, 1004, 1006] 1 true s.1 s.2.2 s'.1 s'.2.2 → ((-1) ≤ r ∧ r ≤ 15) → Q r s') (hI : iv_A s.1 s.2.2) (bx4 : 50 ≤ x4 ∧ x4 ≤ 110) (by1 : 52 ≤ y1 ∧ y1 ≤ 112) (by2 : 0 ≤ y2 ∧ y2 ≤ 1) (kv0 : s.1 96 1 < 16) (kv1 : 0 < s.1 96 0) (kv2 : x4 = 50 + 4 * s.1 96 1) (kv3 : y1 = x4 + 2) (kv4 : s.1 96 (x4) < s.1 96 0) (kv5 : s.1 96 (x4 + 1) < s.1 96 0) : fm_184_p106 Q x4 y1 y2 s := by
  unfold fm_184_p106
  refine ⟨(show (0 : Int) ≤ y1 ∧ y1 < (1538 : Int) from by omega), ?_⟩
  have hI35 : iv_A (lf_up s.1 96 y1 y2) s.2.2 := iv_wd96 hI (lf_le2 (iv_fb705ee40 (y1) (by omega) (by omega)) (by omega)) (fun h => absurd h (by omega))
  have fr36 : lf_fq [96, 1002, 1004, 1006] 1 true s.1 s.2.2 (lf_up s.1 96 y1 y2) s.2.2 := lf_fq_up (lf_fq_rf) rfl (fun _ => ⟨by omega, fr_o (Or.inr (fr_n0 (by omega))) (Or.inr (fr_n1 (by omega))) (Or.inl rfl) (Or.inr (fr_n3 (by omega))) (Or.inl rfl) (Or.inr (fr_n5 (by omega))) (Or.inl rfl)⟩)
  refine ⟨(show (0 : Int) ≤ x4 + 3 ∧ x4 + 3 < (1538 : Int) from by omega), ?_⟩
  have hI37 : iv_A (lf_up (lf_up s.1 96 y1 y2) 96 (x4 + 3) 1) s.2.2 := iv_wd96 hI35 (lf_le2 (iv_fb613c05e (x4) (by omega) (by omega)) (by omega)) (fun h => absurd h (by omega))
  have fr38 : lf_fq [96, 1002, 1004, 1006] 1 true s.1 s.2.2 (lf_up (lf_up s.1 96 y1 y2) 96 (x4 + 3) 1) s.2.2 := lf_fq_up fr36 rfl (fun _ => ⟨by omega, fr_o (Or.inr (fr_n0 (by omega))) (Or.inr (fr_n1 (by omega))) (Or.inl rfl) (Or.inr (fr_n3 (by omega))) (Or.inl rfl) (Or.inr (fr_n5 (by omega))) (Or.inl rfl)⟩)
  have b39 : 0 ≤ (lf_up (lf_up s.1 96 y1 y2) 96 (x4 + 3) 1) 96 1 ∧ (lf_up (lf_up s.1 96 y1 y2) 96 (x4 + 3) 1) 96 1 ≤ 16 := iv_rd96 hI37 (iv_fd6ad3e54 (by omega))
  have b40 : (lf_up (lf_up s.1 96 y1 y2) 96 (x4 + 3) 1) 96 1 = (lf_up s.1 96 y1 y2) 96 1 := lf_up_i (by omega)
  have b41 : (lf_up s.1 96 y1 y2) 96 1 = s.1 96 1 := lf_up_i (by omega)
  have b42 : (lf_up (lf_up s.1 96 y1 y2) 96 (x4 + 3) 1) 96 1 ≤ 0 ∨ 0 < (lf_up (lf_up s.1 96 y1 y2) 96 (x4 + 3) 1) 96 0 := (show (lf_up (lf_up s.1 96 y1 y2) 96 (x4 + 3) 1) 96 1 ≤ 0 ∨ 0 < (lf_up (lf_up s.1 96 y1 y2) 96 (x4 + 3) 1) 96 0 from iv_l96_1 hI37)
  refine ⟨(show (0 : Int) ≤ 174 + (5 * ((lf_up (lf_up s.1 96 y1 y2) 96 (x4 + 3) 1) 96 1)) ∧ 174 + (5 * ((lf_up (lf_up s.1 96 y1 y2) 96 (x4 + 3) 1) 96 1)) < (1538 : Int) from by omega), ?_⟩
  have hI43 : iv_A (lf_up (lf_up (lf_up s.1 96 y1 y2) 96 (x4 + 3) 1) 96 (174 + (5 * ((lf_up (lf_up s.1 96 y1 y2) 96 (x4 + 3) 1) 96 1))) 0) s.2.2 := iv_wd96 hI37 (lf_le2 (iv_fff015721 ((lf_up (lf_up s.1 96 y1 y2) 96 (x4 + 3) 1) 96 1) (by omega) (by omega)) (by omega)) (fun h => absurd h (by omega))
  have fr44 : lf_fq [96, 1002, 1004, 1006] 1 true s.1 s.2.2 (lf_up (lf_up (lf_up s.1 96 y1 y2) 96 (x4 + 3) 1) 96 (174 + (5 * ((lf_up (lf_up s.1 96 y1 y2) 96 (x4 + 3) 1) 96 1))) 0) s.2.2 := lf_fq_up fr38 rfl (fun _ => ⟨by omega, fr_o (Or.inr (fr_n0 (by omega))) (Or.inr (fr_n1 (by omega))) (Or.inl rfl) (Or.inr (fr_n3 (by omega))) (Or.inl rfl) (Or.inr (fr_n5 (by omega))) (Or.inl rfl)⟩)
  have b45 : 0 ≤ (lf_up (lf_up (lf_up s.1 96 y1 y2) 96 (x4 + 3) 1) 96 (174 + (5 * ((lf_up (lf_up s.1 96 y1 y2) 96 (x4 + 3) 1) 96 1))) 0) 96 1 ∧ (lf_up (lf_up (lf_up s.1 96 y1 y2) 96 (x4 + 3) 1) 96 (174 + (5 * ((lf_up (lf_up s.1 96 y1 y2) 96 (x4 + 3) 1) 96 1))) 0) 96 1 ≤ 16 := iv_rd96 hI43 (iv_fd6ad3e54 (by omega))
  have b46 : (lf_up (lf_up (lf_up s.1 96 y1 y2) 96 (x4 + 3) 1) 96 (174 + (5 * ((lf_up (lf_up s.1 96 y1 y2) 96 (x4 + 3) 1) 96 1))) 0) 96 1 = (lf_up (lf_up s.1 96 y1 y2) 96 (x4 + 3) 1) 96 1 := lf_up_i (by omega)
  have b47 : (lf_up (lf_up (lf_up s.1 96 y1 y2) 96 (x4 + 3) 1) 96 (174 + (5 * ((lf_up (lf_up s.1 96 y1 y2) 96 (x4 + 3) 1) 96 1))) 0) 96 1 ≤ 0 ∨ 0 < (lf_up (lf_up (lf_up s.1 96 y1 y2) 96 (x4 + 3) 1) 96 (174 + (5 * ((lf_up (lf_up s.1 96 y1 y2) 96 (x4 + 3) 1) 96 1))) 0) 96 0 := (show (lf_up (lf_up (lf_up s.1 96 y1 y2) 96 (x4 + 3) 1) 96 (174 + (5 * ((lf_up (lf_up s.1 96 y1 y2) 96 (x4 + 3) 1) 96 1))) 0) 96 1 ≤ 0 ∨ 0 < (lf_up (lf_up (lf_up s.1 96 y1 y2) 96 (x4 + 3) 1) 96 (174 + (5 * ((lf_up (lf_up s.1 96 y1 y2) 96 (x4 + 3) 1) 96 1))) 0) 96 0 from iv_l96_1 hI43)
  have b48 : (lf_up (lf_up (lf_up s.1 96 y1 y2) 96 (x4 + 3) 1) 96 (174 + (5 * ((lf_up (lf_up s.1 96 y1 y2) 96 (x4 + 3) 1) 96 1))) 0) 96 (50 + 4 * (lf_up (lf_up (lf_up s.1 96 y1 y2) 96 (x4 + 3) 1) 96 (174 + (5 * ((lf_up (lf_up s.1 96 y1 y2) 96 (x4 + 3) 1) 96 1))) 0) 96 1) = s.1 96 x4 := ((lf_up_i (by omega)).trans ((lf_up_i (by omega)).trans (lf_up_i (by omega)))).trans (congrArg (s.1 96) (by omega))
  have b49 : (lf_up (lf_up (lf_up s.1 96 y1 y2) 96 (x4 + 3) 1) 96 (174 + (5 * ((lf_up (lf_up s.1 96 y1 y2) 96 (x4 + 3) 1) 96 1))) 0) 96 (50 + 4 * (lf_up (lf_up (lf_up s.1 96 y1 y2) 96 (x4 + 3) 1) 96 (174 + (5 * ((lf_up (lf_up s.1 96 y1 y2) 96 (x4 + 3) 1) 96 1))) 0) 96 1 + 1) = s.1 96 (x4 + 1) := ((lf_up_i (by omega)).trans ((lf_up_i (by omega)).trans (lf_up_i (by omega)))).trans (congrArg (s.1 96) (by omega))
  have b50 : 0 ≤ (lf_up (lf_up (lf_up s.1 96 y1 y2) 96 (x4 + 3) 1) 96 (174 + (5 * ((lf_up (lf_up s.1 96 y1 y2) 96 (x4 + 3) 1) 96 1))) 0) 96 0 ∧ (lf_up (lf_up (lf_up s.1 96 y1 y2) 96 (x4 + 3) 1) 96 (174 + (5 * ((lf_up (lf_up s.1 96 y1 y2) 96 (x4 + 3) 1) 96 1))) 0) 96 0 ≤ 12 := iv_rd96 hI43 (iv_f3e1fa21c (by omega))
  have b51 : (lf_up (lf_up (lf_up s.1 96 y1 y2) 96 (x4 + 3) 1) 96 (174 + (5 * ((lf_up (lf_up s.1 96 y1 y2) 96 (x4 + 3) 1) 96 1))) 0) 96 0 = (lf_up (lf_up s.1 96 y1 y2) 96 (x4 + 3) 1) 96 0 := lf_up_i (by omega)
  have b52 : (lf_up (lf_up s.1 96 y1 y2) 96 (x4 + 3) 1) 96 0 = (lf_up s.1 96 y1 y2) 96 0 := lf_up_i (by omega)
  have b53 : (lf_up s.1 96 y1 y2) 96 0 = s.1 96 0 := lf_up_i (by omega)
  have hI54 : iv_A (lf_up (lf_up (lf_up (lf_up s.1 96 y1 y2) 96 (x4 + 3) 1) 96 (174 + (5 * ((lf_up (lf_up s.1 96 y1 y2) 96 (x4 + 3) 1) 96 1))) 0) 96 1 (((lf_up (lf_up (lf_up s.1 96 y1 y2) 96 (x4 + 3) 1) 96 (174 + (5 * ((lf_up (lf_up s.1 96 y1 y2) 96 (x4 + 3) 1) 96 1))) 0) 96 1) + 1)) s.2.2 := iv_wd96 hI43 (lf_le2 (iv_febe3d830 (by omega)) (by omega)) (fun _ => iv_rel1 hI43 (by omega) (by omega) (by omega) (by omega))
  have fr55 : lf_fq [96, 1002, 1004, 1006] 1 true s.1 s.2.2 (lf_up (lf_up (lf_up (lf_up s.1 96 y1 y2) 96 (x4 + 3) 1) 96 (174 + (5 * ((lf_up (lf_up s.1 96 y1 y2) 96 (x4 + 3) 1) 96 1))) 0) 96 1 (((lf_up (lf_up (lf_up s.1 96 y1 y2) 96 (x4 + 3) 1) 96 (174 + (5 * ((lf_up (lf_up s.1 96 y1 y2) 96 (x4 + 3) 1) 96 1))) 0) 96 1) + 1)) s.2.2 := lf_fq_up fr44 rfl (fun _ => ⟨by omega, fr_o (Or.inr (fr_n0 (by omega))) (Or.inr (fr_n1 (by omega))) (Or.inl rfl) (Or.inr (fr_n3 (by omega))) (Or.inl rfl) (Or.inr (fr_n5 (by omega))) (Or.inl rfl)⟩)
  exact hQ ((((lf_up (lf_up (lf_up s.1 96 y1 y2) 96 (x4 + 3) 1) 96 (174 + (5 * ((lf_up (lf_up s.1 96 y1 y2) 96 (x4 + 3) 1) 96 1))) 0) 96 1) + 1) - 1) (lf_up (lf_up (lf_up (lf_up s.1 96 y1 y2) 96 (x4 + 3) 1) 96 (174 + (5 * ((lf_up (lf_up s.1 96 y1 y2) 96 (x4 + 3) 1) 96 1))) 0) 96 1 (((lf_up (lf_up (lf_up s.1 96 y1 y2) 96 (x4 + 3) 1) 96 (174 + (5 * ((lf_up (lf_up s.1 96 y1 y2) 96 (x4 + 3) 1) 96 1))) 0) 96 1) + 1), s.2.1, s.2.2) hI54 fr55 (show (-1 : Int) ≤ (((lf_up (lf_up (lf_up s.1 96 y1 y2) 96 (x4 + 3) 1) 96 (174 + (5 * ((lf_up (lf_up s.1 96 y1 y2) 96 (x4 + 3) 1) 96 1))) 0) 96 1) + 1) - 1 ∧ (((lf_up (lf_up (lf_up s.1 96 y1 y2) 96 (x4 + 3) 1) 96 (174 + (5 * ((lf_up (lf_up s.1 96 y1 y2) 96 (x4 + 3) 1) 96 1))) 0) 96 1) + 1) - 1 ≤ (15 : Int) from by omega)
theorem sm_184 {a1 : Int} {a2 : Int} {a3 : Int} {Q : Int → lf_Z → Prop} {s : lf_Z} (hI : iv_A s.1 s.2.2) (ba1 : (-2147483648) ≤ a1 ∧ a1 ≤ 2147483647) (ba2 : (-2147483648) ≤ a2 ∧ a2 ≤ 2147483647) (ba3 : 0 ≤ a3 ∧ a3 ≤ 1) (hQ : ∀ (r : Int) (s' : lf_Z), iv_A s'.1 s'.2.2 → lf_fq [96, 1002, 1004, 1006] 1 true s.1 s.2.2 s'.1 s'.2.2 → ((-1) ≤ r ∧ r ≤ 15) → Q r s') : fm_184 a1 a2 a3 Q s := by
  unfold fm_184
  refine sm_185 hI (show (-2147483648 : Int) ≤ a1 ∧ a1 ≤ (2147483647 : Int) from by omega) (fun z22 q1 => ?_)
  have b2 : 0 ≤ s.1 96 0 ∧ s.1 96 0 ≤ 12 := iv_rd96 hI (iv_f3e1fa21c (by omega))
  refine ⟨fun c3 => ?_, fun c3 => ?_⟩
  · skip
    have dc3 := q1.2 c3
    exact hQ (-1) s hI (lf_fq_rf) (show (-1 : Int) ≤ (-1) ∧ (-1) ≤ (15 : Int) from by omega)
  · skip
    have dc3 := q1.1 c3
    refine sm_185 hI (show (-2147483648 : Int) ≤ a2 ∧ a2 ≤ (2147483647 : Int) from by omega) (fun z24 q4 => ?_)
    refine ⟨fun c5 => ?_, fun c5 => ?_⟩
    · skip
      have dc5 := q4.2 c5
      exact hQ (-1) s hI (lf_fq_rf) (show (-1 : Int) ≤ (-1) ∧ (-1) ≤ (15 : Int) from by omega)
    · skip
      have dc5 := q4.1 c5
      refine ⟨(show lf_R a1 from lf_Rof (by omega)), ?_⟩
      refine ⟨(show lf_R a2 from lf_Rof (by omega)), ?_⟩
      refine ⟨fun c6 => ?_, fun c6 => ?_⟩
      · skip
        replace c6 : a1 = a2 := c6
        exact hQ (-1) s hI (lf_fq_rf) (show (-1 : Int) ≤ (-1) ∧ (-1) ≤ (15 : Int) from by omega)
      · skip
        replace c6 : ¬ (a1 = a2) := c6
        refine sm_186 hI (show (0 : Int) ≤ a1 ∧ a1 ≤ (11 : Int) from by omega) (fun r28 q7 => ?_)
        refine sm_188 hI (show (-2147483648 : Int) ≤ r28 ∧ r28 ≤ (2147483647 : Int) from by omega) (fun r30 ps9 q8 => ?_)
        replace ps9 : r30 = lf_bt (r28) 16 := ps9
        refine ⟨(show lf_R r30 from lf_Rof (by omega)), ?_⟩
        refine ⟨fun c10 => ?_, fun c10 => ?_⟩
        · skip
          replace c10 : r30 = 4 := c10
          exact hQ (-1) s hI (lf_fq_rf) (show (-1 : Int) ≤ (-1) ∧ (-1) ≤ (15 : Int) from by omega)
        · skip
          replace c10 : ¬ (r30 = 4) := c10
          refine sm_186 hI (show (0 : Int) ≤ a2 ∧ a2 ≤ (11 : Int) from by omega) (fun r33 q11 => ?_)
          refine sm_188 hI (show (-2147483648 : Int) ≤ r33 ∧ r33 ≤ (2147483647 : Int) from by omega) (fun r35 ps13 q12 => ?_)
          replace ps13 : r35 = lf_bt (r33) 16 := ps13
          refine ⟨(show lf_R r35 from lf_Rof (by omega)), ?_⟩
          refine ⟨fun c14 => ?_, fun c14 => ?_⟩
          · skip
            replace c14 : r35 = 4 := c14
            exact hQ (-1) s hI (lf_fq_rf) (show (-1 : Int) ≤ (-1) ∧ (-1) ≤ (15 : Int) from by omega)
          · skip
            replace c14 : ¬ (r35 = 4) := c14
            have b15 : 0 ≤ s.1 96 1 ∧ s.1 96 1 ≤ 16 := iv_rd96 hI (iv_fd6ad3e54 (by omega))
            have b16 : s.1 96 1 ≤ 0 ∨ 0 < s.1 96 0 := (show s.1 96 1 ≤ 0 ∨ 0 < s.1 96 0 from iv_l96_1 hI)
            refine ⟨(show lf_R (s.1 96 1) from lf_Rof (by omega)), ?_⟩
            refine ⟨fun c17 => ?_, fun c17 => ?_⟩
            · skip
              replace c17 : s.1 96 1 ≠ 16 := c17
              refine ⟨(show (0 : Int) ≤ 50 + (4 * (s.1 96 1)) ∧ 50 + (4 * (s.1 96 1)) < (1538 : Int) from by omega), ?_⟩
              have hI18 : iv_A (lf_up s.1 96 (50 + (4 * (s.1 96 1))) a1) s.2.2 := iv_wd96 hI (lf_le2 (iv_f1bf78659 (s.1 96 1) (by omega) (by omega)) (by omega)) (fun _ => iv_relw hI (by omega))
              have fr19 : lf_fq [96, 1002, 1004, 1006] 1 true s.1 s.2.2 (lf_up s.1 96 (50 + (4 * (s.1 96 1))) a1) s.2.2 := lf_fq_up (lf_fq_rf) rfl (fun _ => ⟨by omega, fr_o (Or.inr (fr_n0 (by omega))) (Or.inr (fr_n1 (by omega))) (Or.inl rfl) (Or.inr (fr_n3 (by omega))) (Or.inl rfl) (Or.inr (fr_n5 (by omega))) (Or.inl rfl)⟩)
              have b20 : 0 ≤ (lf_up s.1 96 (50 + (4 * (s.1 96 1))) a1) 96 1 ∧ (lf_up s.1 96 (50 + (4 * (s.1 96 1))) a1) 96 1 ≤ 16 := iv_rd96 hI18 (iv_fd6ad3e54 (by omega))
              have b21 : (lf_up s.1 96 (50 + (4 * (s.1 96 1))) a1) 96 1 = s.1 96 1 := lf_up_i (by omega)
              have b22 : (lf_up s.1 96 (50 + (4 * (s.1 96 1))) a1) 96 1 ≤ 0 ∨ 0 < (lf_up s.1 96 (50 + (4 * (s.1 96 1))) a1) 96 0 := (show (lf_up s.1 96 (50 + (4 * (s.1 96 1))) a1) 96 1 ≤ 0 ∨ 0 < (lf_up s.1 96 (50 + (4 * (s.1 96 1))) a1) 96 0 from iv_l96_1 hI18)
              have b23 : ((lf_up s.1 96 (50 + (4 * (s.1 96 1))) a1) 96 1) = s.1 96 1 := lf_up_i (by omega)
              refine ⟨(show (0 : Int) ≤ (50 + (4 * (s.1 96 1))) + 1 ∧ (50 + (4 * (s.1 96 1))) + 1 < (1538 : Int) from by omega), ?_⟩
              have hI24 : iv_A (lf_up (lf_up s.1 96 (50 + (4 * (s.1 96 1))) a1) 96 ((50 + (4 * (s.1 96 1))) + 1) a2) s.2.2 := iv_wd96 hI18 (lf_le2 (iv_f22fa496a (s.1 96 1) (by omega) (by omega)) (by omega)) (fun _ => iv_relw hI18 (by omega))
              have fr25 : lf_fq [96, 1002, 1004, 1006] 1 true s.1 s.2.2 (lf_up (lf_up s.1 96 (50 + (4 * (s.1 96 1))) a1) 96 ((50 + (4 * (s.1 96 1))) + 1) a2) s.2.2 := lf_fq_up fr19 rfl (fun _ => ⟨by omega, fr_o (Or.inr (fr_n0 (by omega))) (Or.inr (fr_n1 (by omega))) (Or.inl rfl) (Or.inr (fr_n3 (by omega))) (Or.inl rfl) (Or.inr (fr_n5 (by omega))) (Or.inl rfl)⟩)
              refine ⟨(show lf_R a3 from lf_Rof (by omega)), ?_⟩
              refine ⟨fun c26 => ?_, fun c26 => ?_⟩
              · skip
                replace c26 : a3 = 0 := c26
                have b27 : 0 ≤ (lf_up (lf_up s.1 96 (50 + (4 * (s.1 96 1))) a1) 96 ((50 + (4 * (s.1 96 1))) + 1) a2) 96 1 ∧ (lf_up (lf_up s.1 96 (50 + (4 * (s.1 96 1))) a1) 96 ((50 + (4 * (s.1 96 1))) + 1) a2) 96 1 ≤ 16 := iv_rd96 hI24 (iv_fd6ad3e54 (by omega))
                have b28 : (lf_up (lf_up s.1 96 (50 + (4 * (s.1 96 1))) a1) 96 ((50 + (4 * (s.1 96 1))) + 1) a2) 96 1 = (lf_up s.1 96 (50 + (4 * (s.1 96 1))) a1) 96 1 := lf_up_i (by omega)
                have b29 : (lf_up (lf_up s.1 96 (50 + (4 * (s.1 96 1))) a1) 96 ((50 + (4 * (s.1 96 1))) + 1) a2) 96 1 ≤ 0 ∨ 0 < (lf_up (lf_up s.1 96 (50 + (4 * (s.1 96 1))) a1) 96 ((50 + (4 * (s.1 96 1))) + 1) a2) 96 0 := (show (lf_up (lf_up s.1 96 (50 + (4 * (s.1 96 1))) a1) 96 ((50 + (4 * (s.1 96 1))) + 1) a2) 96 1 ≤ 0 ∨ 0 < (lf_up (lf_up s.1 96 (50 + (4 * (s.1 96 1))) a1) 96 ((50 + (4 * (s.1 96 1))) + 1) a2) 96 0 from iv_l96_1 hI24)
                have b30 : 0 ≤ (lf_up (lf_up s.1 96 (50 + (4 * (s.1 96 1))) a1) 96 ((50 + (4 * (s.1 96 1))) + 1) a2) 96 0 ∧ (lf_up (lf_up s.1 96 (50 + (4 * (s.1 96 1))) a1) 96 ((50 + (4 * (s.1 96 1))) + 1) a2) 96 0 ≤ 12 := iv_rd96 hI24 (iv_f3e1fa21c (by omega))
                have b31 : (lf_up (lf_up s.1 96 (50 + (4 * (s.1 96 1))) a1) 96 ((50 + (4 * (s.1 96 1))) + 1) a2) 96 0 = (lf_up s.1 96 (50 + (4 * (s.1 96 1))) a1) 96 0 := lf_up_i (by omega)
                have b32 : (lf_up s.1 96 (50 + (4 * (s.1 96 1))) a1) 96 0 = s.1 96 0 := lf_up_i (by omega)
                have b33 : ((lf_up (lf_up s.1 96 (50 + (4 * (s.1 96 1))) a1) 96 ((50 + (4 * (s.1 96 1))) + 1) a2) 96) ((50 + (4 * (s.1 96 1)))) = a1 := (lf_up_i (by omega)).trans lf_up_s
                have b34 : ((lf_up (lf_up s.1 96 (50 + (4 * (s.1 96 1))) a1) 96 ((50 + (4 * (s.1 96 1))) + 1) a2) 96) ((50 + (4 * (s.1 96 1))) + 1) = a2 := lf_up_s
                exact sm_184_p106 (fun r9 t9 i9 f9 => hQ r9 t9 i9 (lf_fq_tr fr25 f9)) hI24 (show (50 : Int) ≤ 50 + (4 * (s.1 96 1)) ∧ 50 + (4 * (s.1 96 1)) ≤ (110 : Int) from by omega) (show (52 : Int) ≤ (50 + (4 * (s.1 96 1))) + 2 ∧ (50 + (4 * (s.1 96 1))) + 2 ≤ (112 : Int) from by omega) (show (0 : Int) ≤ 0 ∧ 0 ≤ (1 : Int) from by omega) (show ((lf_up (lf_up s.1 96 (50 + (4 * (s.1 96 1))) a1) 96 ((50 + (4 * (s.1 96 1))) + 1) a2) 96 1) < 16 from by omega) (show 0 < ((lf_up (lf_up s.1 96 (50 + (4 * (s.1 96 1))) a1) 96 ((50 + (4 * (s.1 96 1))) + 1) a2) 96 0) from by omega) (show (50 + (4 * (s.1 96 1))) = 50 + 4 * ((lf_up (lf_up s.1 96 (50 + (4 * (s.1 96 1))) a1) 96 ((50 + (4 * (s.1 96 1))) + 1) a2) 96 1) from by omega) (show ((50 + (4 * (s.1 96 1))) + 2) = (50 + (4 * (s.1 96 1))) + 2 from by omega) (show ((lf_up (lf_up s.1 96 (50 + (4 * (s.1 96 1))) a1) 96 ((50 + (4 * (s.1 96 1))) + 1) a2) 96) ((50 + (4 * (s.1 96 1)))) < ((lf_up (lf_up s.1 96 (50 + (4 * (s.1 96 1))) a1) 96 ((50 + (4 * (s.1 96 1))) + 1) a2) 96 0) from by omega) (show ((lf_up (lf_up s.1 96 (50 + (4 * (s.1 96 1))) a1) 96 ((50 + (4 * (s.1 96 1))) + 1) a2) 96) ((50 + (4 * (s.1 96 1))) + 1) < ((lf_up (lf_up s.1 96 (50 + (4 * (s.1 96 1))) a1) 96 ((50 + (4 * (s.1 96 1))) + 1) a2) 96 0) from by omega)
              · skip
                replace c26 : ¬ (a3 = 0) := c26
                have b56 : 0 ≤ (lf_up (lf_up s.1 96 (50 + (4 * (s.1 96 1))) a1) 96 ((50 + (4 * (s.1 96 1))) + 1) a2) 96 1 ∧ (lf_up (lf_up s.1 96 (50 + (4 * (s.1 96 1))) a1) 96 ((50 + (4 * (s.1 96 1))) + 1) a2) 96 1 ≤ 16 := iv_rd96 hI24 (iv_fd6ad3e54 (by omega))
                have b57 : (lf_up (lf_up s.1 96 (50 + (4 * (s.1 96 1))) a1) 96 ((50 + (4 * (s.1 96 1))) + 1) a2) 96 1 = (lf_up s.1 96 (50 + (4 * (s.1 96 1))) a1) 96 1 := lf_up_i (by omega)
                have b58 : (lf_up (lf_up s.1 96 (50 + (4 * (s.1 96 1))) a1) 96 ((50 + (4 * (s.1 96 1))) + 1) a2) 96 1 ≤ 0 ∨ 0 < (lf_up (lf_up s.1 96 (50 + (4 * (s.1 96 1))) a1) 96 ((50 + (4 * (s.1 96 1))) + 1) a2) 96 0 := (show (lf_up (lf_up s.1 96 (50 + (4 * (s.1 96 1))) a1) 96 ((50 + (4 * (s.1 96 1))) + 1) a2) 96 1 ≤ 0 ∨ 0 < (lf_up (lf_up s.1 96 (50 + (4 * (s.1 96 1))) a1) 96 ((50 + (4 * (s.1 96 1))) + 1) a2) 96 0 from iv_l96_1 hI24)
                have b59 : 0 ≤ (lf_up (lf_up s.1 96 (50 + (4 * (s.1 96 1))) a1) 96 ((50 + (4 * (s.1 96 1))) + 1) a2) 96 0 ∧ (lf_up (lf_up s.1 96 (50 + (4 * (s.1 96 1))) a1) 96 ((50 + (4 * (s.1 96 1))) + 1) a2) 96 0 ≤ 12 := iv_rd96 hI24 (iv_f3e1fa21c (by omega))
                have b60 : (lf_up (lf_up s.1 96 (50 + (4 * (s.1 96 1))) a1) 96 ((50 + (4 * (s.1 96 1))) + 1) a2) 96 0 = (lf_up s.1 96 (50 + (4 * (s.1 96 1))) a1) 96 0 := lf_up_i (by omega)
                have b61 : (lf_up s.1 96 (50 + (4 * (s.1 96 1))) a1) 96 0 = s.1 96 0 := lf_up_i (by omega)
                have b62 : ((lf_up (lf_up s.1 96 (50 + (4 * (s.1 96 1))) a1) 96 ((50 + (4 * (s.1 96 1))) + 1) a2) 96) ((50 + (4 * (s.1 96 1)))) = a1 := (lf_up_i (by omega)).trans lf_up_s
                have b63 : ((lf_up (lf_up s.1 96 (50 + (4 * (s.1 96 1))) a1) 96 ((50 + (4 * (s.1 96 1))) + 1) a2) 96) ((50 + (4 * (s.1 96 1))) + 1) = a2 := lf_up_s
                exact sm_184_p106 (fun r9 t9 i9 f9 => hQ r9 t9 i9 (lf_fq_tr fr25 f9)) hI24 (show (50 : Int) ≤ 50 + (4 * (s.1 96 1)) ∧ 50 + (4 * (s.1 96 1)) ≤ (110 : Int) from by omega) (show (52 : Int) ≤ (50 + (4 * (s.1 96 1))) + 2 ∧ (50 + (4 * (s.1 96 1))) + 2 ≤ (112 : Int) from by omega) (show (0 : Int) ≤ 1 ∧ 1 ≤ (1 : Int) from by omega) (show ((lf_up (lf_up s.1 96 (50 + (4 * (s.1 96 1))) a1) 96 ((50 + (4 * (s.1 96 1))) + 1) a2) 96 1) < 16 from by omega) (show 0 < ((lf_up (lf_up s.1 96 (50 + (4 * (s.1 96 1))) a1) 96 ((50 + (4 * (s.1 96 1))) + 1) a2) 96 0) from by omega) (show (50 + (4 * (s.1 96 1))) = 50 + 4 * ((lf_up (lf_up s.1 96 (50 + (4 * (s.1 96 1))) a1) 96 ((50 + (4 * (s.1 96 1))) + 1) a2) 96 1) from by omega) (show ((50 + (4 * (s.1 96 1))) + 2) = (50 + (4 * (s.1 96 1))) + 2 from by omega) (show ((lf_up (lf_up s.1 96 (50 + (4 * (s.1 96 1))) a1) 96 ((50 + (4 * (s.1 96 1))) + 1) a2) 96) ((50 + (4 * (s.1 96 1)))) < ((lf_up (lf_up s.1 96 (50 + (4 * (s.1 96 1))) a1) 96 ((50 + (4 * (s.1 96 1))) + 1) a2) 96 0) from by omega) (show ((lf_up (lf_up s.1 96 (50 + (4 * (s.1 96 1))) a1) 96 ((50 + (4 * (s.1 96 1))) + 1) a2) 96) ((50 + (4 * (s.1 96 1))) + 1) < ((lf_up (lf_up s.1 96 (50 + (4 * (s.1 96 1))) a1) 96 ((50 + (4 * (s.1 96 1))) + 1) a2) 96 0) from by omega)
            · skip
              replace c17 : ¬ (s.1 96 1 ≠ 16) := c17
              exact hQ (-1) s hI (lf_fq_rf) (show (-1 : Int) ≤ (-1) ∧ (-1) ≤ (15 : Int) from by omega)
-- fm_24 Land.addPerson 1 i i i i
theorem sm_24 {a1 : Int} {a2 : Int} {a3 : Int} {a4 : Int} {Q : Int → lf_Z → Prop} {s : lf_Z} (hI : iv_A s.1 s.2.2) (ba1 : 0 ≤ a1 ∧ a1 ≤ 9) (ba2 : 0 ≤ a2 ∧ a2 ≤ 1) (ba3 : 0 ≤ a3 ∧ a3 ≤ 1) (ba4 : 0 ≤ a4 ∧ a4 ≤ 11) (hQ : ∀ (r : Int) (s' : lf_Z), iv_A s'.1 s'.2.2 → lf_fq [1, 7, 8, 9, 10] 1000000 true s.1 s.2.2 s'.1 s'.2.2 → ((-1) ≤ r ∧ r ≤ 5) → Q r s') : fm_24 a1 a2 a3 a4 Q s := by
  unfold fm_24
  have b1 : 0 ≤ s.1 1 2 ∧ s.1 1 2 ≤ 6 := iv_r1_2 hI
  refine ⟨(show lf_R (s.1 1 2) from lf_Rof (by omega)), ?_⟩
  refine ⟨fun c2 => ?_, fun c2 => ?_⟩
  · skip
    replace c2 : s.1 1 2 < 6 := c2
    refine ⟨(show (0 : Int) ≤ s.1 1 2 ∧ s.1 1 2 < (6 : Int) from by omega), ?_⟩
    have hI3 : iv_A (lf_up s.1 7 (s.1 1 2) a1) s.2.2 := iv_w7 hI (by omega)
    have fr4 : lf_fq [1, 7, 8, 9, 10] 1000000 true s.1 s.2.2 (lf_up s.1 7 (s.1 1 2) a1) s.2.2 := lf_fq_up (lf_fq_rf) rfl (fun h => absurd h (by decide))
    refine ⟨(show a2 = 0 ∨ a2 = 1 from by omega), ?_⟩
    have hI5 : iv_A (lf_up (lf_up s.1 7 (s.1 1 2) a1) 8 (s.1 1 2) a2) s.2.2 := iv_w8 hI3 (by omega)
    have fr6 : lf_fq [1, 7, 8, 9, 10] 1000000 true s.1 s.2.2 (lf_up (lf_up s.1 7 (s.1 1 2) a1) 8 (s.1 1 2) a2) s.2.2 := lf_fq_up fr4 rfl (fun h => absurd h (by decide))
    refine ⟨(show a3 = 0 ∨ a3 = 1 from by omega), ?_⟩
    have hI7 : iv_A (lf_up (lf_up (lf_up s.1 7 (s.1 1 2) a1) 8 (s.1 1 2) a2) 9 (s.1 1 2) a3) s.2.2 := iv_w9 hI5 (by omega)
    have fr8 : lf_fq [1, 7, 8, 9, 10] 1000000 true s.1 s.2.2 (lf_up (lf_up (lf_up s.1 7 (s.1 1 2) a1) 8 (s.1 1 2) a2) 9 (s.1 1 2) a3) s.2.2 := lf_fq_up fr6 rfl (fun h => absurd h (by decide))
    have hI9 : iv_A (lf_up (lf_up (lf_up (lf_up s.1 7 (s.1 1 2) a1) 8 (s.1 1 2) a2) 9 (s.1 1 2) a3) 10 (s.1 1 2) a4) s.2.2 := iv_w10 hI7 (by omega)
    have fr10 : lf_fq [1, 7, 8, 9, 10] 1000000 true s.1 s.2.2 (lf_up (lf_up (lf_up (lf_up s.1 7 (s.1 1 2) a1) 8 (s.1 1 2) a2) 9 (s.1 1 2) a3) 10 (s.1 1 2) a4) s.2.2 := lf_fq_up fr8 rfl (fun h => absurd h (by decide))
    have hI11 : iv_A (lf_up (lf_up (lf_up (lf_up (lf_up s.1 7 (s.1 1 2) a1) 8 (s.1 1 2) a2) 9 (s.1 1 2) a3) 10 (s.1 1 2) a4) 1 2 ((s.1 1 2) + 1)) s.2.2 := iv_w1_2 hI9 (by omega)
    have fr12 : lf_fq [1, 7, 8, 9, 10] 1000000 true s.1 s.2.2 (lf_up (lf_up (lf_up (lf_up (lf_up s.1 7 (s.1 1 2) a1) 8 (s.1 1 2) a2) 9 (s.1 1 2) a3) 10 (s.1 1 2) a4) 1 2 ((s.1 1 2) + 1)) s.2.2 := lf_fq_up fr10 rfl (fun h => absurd h (by decide))
    exact hQ (((s.1 1 2) + 1) - 1) (lf_up (lf_up (lf_up (lf_up (lf_up s.1 7 (s.1 1 2) a1) 8 (s.1 1 2) a2) 9 (s.1 1 2) a3) 10 (s.1 1 2) a4) 1 2 ((s.1 1 2) + 1), s.2.1, s.2.2) hI11 fr12 (show (-1 : Int) ≤ ((s.1 1 2) + 1) - 1 ∧ ((s.1 1 2) + 1) - 1 ≤ (5 : Int) from by omega)
  · skip
    replace c2 : ¬ (s.1 1 2 < 6) := c2
    exact hQ (-1) s hI (lf_fq_rf) (show (-1 : Int) ≤ (-1) ∧ (-1) ≤ (5 : Int) from by omega)
-- fm_23 ElevenBullocks.person 0 i i i i
theorem sm_23 {a1 : Int} {a2 : Int} {a3 : Int} {a4 : Int} {Q : Int → lf_Z → Prop} {s : lf_Z} (hI : iv_A s.1 s.2.2) (ba1 : (-2147483648) ≤ a1 ∧ a1 ≤ 2147483647) (ba2 : 0 ≤ a2 ∧ a2 ≤ 1) (ba3 : 0 ≤ a3 ∧ a3 ≤ 1) (ba4 : (-2147483648) ≤ a4 ∧ a4 ≤ 2147483647) (hQ : ∀ (r : Int) (s' : lf_Z), iv_A s'.1 s'.2.2 → lf_fq [1, 7, 8, 9, 10, 19, 20] 1000000 true s.1 s.2.2 s'.1 s'.2.2 → ((-1) ≤ r ∧ r ≤ 5) → Q r s') : fm_23 a1 a2 a3 a4 Q s := by
  unfold fm_23
  refine sm_15 hI (show (-2147483648 : Int) ≤ a1 ∧ a1 ≤ (2147483647 : Int) from by omega) (show (-1 : Int) ≤ 0 ∧ 0 ≤ (99 : Int) from by omega) (show (-2147483648 : Int) ≤ 9 ∧ 9 ≤ (2147483647 : Int) from by omega) (fun z22 q1 => ?_)
  refine ⟨fun c2 => ?_, fun c2 => ?_⟩
  · skip
    have dc2 := q1.2 c2
    exact hQ (-1) s hI (lf_fq_rf) (show (-1 : Int) ≤ (-1) ∧ (-1) ≤ (5 : Int) from by omega)
  · skip
    have dc2 := q1.1 c2
    refine sm_18 hI (show (-2147483648 : Int) ≤ a4 ∧ a4 ≤ (2147483647 : Int) from by omega) (fun z24 q3 => ?_)
    have b4 : 0 ≤ s.1 1 0 ∧ s.1 1 0 ≤ 12 := iv_r1_0 hI
    refine ⟨fun c5 => ?_, fun c5 => ?_⟩
    · skip
      have dc5 := q3.1 c5
      refine sm_24 hI (show (0 : Int) ≤ a1 ∧ a1 ≤ (9 : Int) from by omega) (show (0 : Int) ≤ a2 ∧ a2 ≤ (1 : Int) from by omega) (show (0 : Int) ≤ a3 ∧ a3 ≤ (1 : Int) from by omega) (show (0 : Int) ≤ a4 ∧ a4 ≤ (11 : Int) from by omega) (fun r26 s25 hI7 fr6 q8 => ?_)
      have fr9 : lf_fq [1, 7, 8, 9, 10, 19, 20] 1000000 true s.1 s.2.2 s25.1 s25.2.2 := lf_fq_tr (lf_fq_rf) (lf_fq_wk fr6 rfl (by decide) (by decide))
      refine ⟨(show lf_R r26 from lf_Rof (by omega)), ?_⟩
      refine ⟨fun c10 => ?_, fun c10 => ?_⟩
      · skip
        replace c10 : r26 = (-1) := c10
        exact hQ r26 s25 hI7 fr9 (show (-1 : Int) ≤ r26 ∧ r26 ≤ (5 : Int) from by omega)
      · skip
        replace c10 : ¬ (r26 = (-1)) := c10
        refine ⟨(show (0 : Int) ≤ r26 ∧ r26 < (6 : Int) from by omega), ?_⟩
        have hI11 : iv_A (lf_up s25.1 19 r26 a4) s25.2.2 := iv_w19 hI7 (by omega)
        have fr12 : lf_fq [1, 7, 8, 9, 10, 19, 20] 1000000 true s.1 s.2.2 (lf_up s25.1 19 r26 a4) s25.2.2 := lf_fq_up fr9 rfl (fun h => absurd h (by decide))
        have hI13 : iv_A (lf_up (lf_up s25.1 19 r26 a4) 20 r26 (-1)) s25.2.2 := iv_w20 hI11 (by omega)
        have fr14 : lf_fq [1, 7, 8, 9, 10, 19, 20] 1000000 true s.1 s.2.2 (lf_up (lf_up s25.1 19 r26 a4) 20 r26 (-1)) s25.2.2 := lf_fq_up fr12 rfl (fun h => absurd h (by decide))
        exact hQ r26 (lf_up (lf_up s25.1 19 r26 a4) 20 r26 (-1), s25.2.1, s25.2.2) hI13 fr14 (show (-1 : Int) ≤ r26 ∧ r26 ≤ (5 : Int) from by omega)
    · skip
      have dc5 := q3.2 c5
      exact hQ (-1) s hI (lf_fq_rf) (show (-1 : Int) ≤ (-1) ∧ (-1) ≤ (5 : Int) from by omega)
-- fm_191 Model.set 95 i 0 i
theorem sm_191 {a1 : Int} {a3 : Int} {Q : lf_Z → Prop} {s : lf_Z} (hI : iv_A s.1 s.2.2) (ba1 : 0 ≤ a1 ∧ a1 ≤ 5) (ba3 : (-2147483648) ≤ a3 ∧ a3 ≤ 2147483647) (hQ : ∀  (s' : lf_Z), iv_A s'.1 s'.2.2 → lf_fq [96, 1004] 126 true s.1 s.2.2 s'.1 s'.2.2 → (∀ i, i ≠ 126 + 6 * a1 + 0 → s'.1 96 i = s.1 96 i) → Q  s') : fm_191 a1 a3 Q s := by
  unfold fm_191
  refine ⟨(show (0 : Int) ≤ (126 + (6 * a1)) + 0 ∧ (126 + (6 * a1)) + 0 < (1538 : Int) from by omega), ?_⟩
  have hI1 : iv_A (lf_up s.1 96 ((126 + (6 * a1)) + 0) a3) s.2.2 := iv_wd96 hI (lf_le2 (iv_f34718fbc (a1) (by omega) (by omega)) (by omega)) (fun h => absurd h (by omega))
  have fr2 : lf_fq [96, 1004] 126 true s.1 s.2.2 (lf_up s.1 96 ((126 + (6 * a1)) + 0) a3) s.2.2 := lf_fq_up (lf_fq_rf) rfl (fun _ => ⟨by omega, fr_o (Or.inr (fr_n0 (by omega))) (Or.inr (fr_n1 (by omega))) (Or.inr (fr_n2 (by omega))) (Or.inr (fr_n3 (by omega))) (Or.inl rfl) (Or.inr (fr_n5 (by omega))) (Or.inr (fr_n6 (by omega)))⟩)
  have b3 : ∀ i, i ≠ 126 + 6 * a1 + 0 → ((lf_up s.1 96 ((126 + (6 * a1)) + 0) a3) 96) i = s.1 96 i := fun i hi => lf_up_i hi
  exact hQ (lf_up s.1 96 ((126 + (6 * a1)) + 0) a3, s.2.1, s.2.2) hI1 fr2 (show ∀ i, i ≠ 126 + 6 * a1 + 0 → ((lf_up s.1 96 ((126 + (6 * a1)) + 0) a3) 96) i = s.1 96 i from by first | with_reducible assumption | assumption)
-- fm_191b Model.set 95 i 1 i
theorem sm_191b {a1 : Int} {a3 : Int} {Q : lf_Z → Prop} {s : lf_Z} (hI : iv_A s.1 s.2.2) (ba1 : 0 ≤ a1 ∧ a1 ≤ 5) (ba3 : 0 ≤ a3 ∧ a3 ≤ 1) (hQ : ∀  (s' : lf_Z), iv_A s'.1 s'.2.2 → lf_fq [96, 1004] 127 true s.1 s.2.2 s'.1 s'.2.2 → (∀ i, i ≠ 126 + 6 * a1 + 1 → s'.1 96 i = s.1 96 i) → Q  s') : fm_191b a1 a3 Q s := by
  unfold fm_191b
  refine ⟨(show (0 : Int) ≤ (126 + (6 * a1)) + 1 ∧ (126 + (6 * a1)) + 1 < (1538 : Int) from by omega), ?_⟩
  have hI1 : iv_A (lf_up s.1 96 ((126 + (6 * a1)) + 1) a3) s.2.2 := iv_wd96 hI (lf_le2 (iv_faf15f4fa (a1) (by omega) (by omega)) (by omega)) (fun h => absurd h (by omega))
  have fr2 : lf_fq [96, 1004] 127 true s.1 s.2.2 (lf_up s.1 96 ((126 + (6 * a1)) + 1) a3) s.2.2 := lf_fq_up (lf_fq_rf) rfl (fun _ => ⟨by omega, fr_o (Or.inr (fr_n0 (by omega))) (Or.inr (fr_n1 (by omega))) (Or.inr (fr_n2 (by omega))) (Or.inr (fr_n3 (by omega))) (Or.inl rfl) (Or.inr (fr_n5 (by omega))) (Or.inr (fr_n6 (by omega)))⟩)
  have b3 : ∀ i, i ≠ 126 + 6 * a1 + 1 → ((lf_up s.1 96 ((126 + (6 * a1)) + 1) a3) 96) i = s.1 96 i := fun i hi => lf_up_i hi
  exact hQ (lf_up s.1 96 ((126 + (6 * a1)) + 1) a3, s.2.1, s.2.2) hI1 fr2 (show ∀ i, i ≠ 126 + 6 * a1 + 1 → ((lf_up s.1 96 ((126 + (6 * a1)) + 1) a3) 96) i = s.1 96 i from by first | with_reducible assumption | assumption)
-- fm_191c Model.set 95 i 2 i
theorem sm_191c {a1 : Int} {a3 : Int} {Q : lf_Z → Prop} {s : lf_Z} (hI : iv_A s.1 s.2.2) (ba1 : 0 ≤ a1 ∧ a1 ≤ 5) (ba3 : 0 ≤ a3 ∧ a3 ≤ 1) (hQ : ∀  (s' : lf_Z), iv_A s'.1 s'.2.2 → lf_fq [96, 1004] 128 true s.1 s.2.2 s'.1 s'.2.2 → (∀ i, i ≠ 126 + 6 * a1 + 2 → s'.1 96 i = s.1 96 i) → Q  s') : fm_191c a1 a3 Q s := by
  unfold fm_191c
  refine ⟨(show (0 : Int) ≤ (126 + (6 * a1)) + 2 ∧ (126 + (6 * a1)) + 2 < (1538 : Int) from by omega), ?_⟩
  have hI1 : iv_A (lf_up s.1 96 ((126 + (6 * a1)) + 2) a3) s.2.2 := iv_wd96 hI (lf_le2 (iv_f991cbfbb (a1) (by omega) (by omega)) (by omega)) (fun h => absurd h (by omega))
  have fr2 : lf_fq [96, 1004] 128 true s.1 s.2.2 (lf_up s.1 96 ((126 + (6 * a1)) + 2) a3) s.2.2 := lf_fq_up (lf_fq_rf) rfl (fun _ => ⟨by omega, fr_o (Or.inr (fr_n0 (by omega))) (Or.inr (fr_n1 (by omega))) (Or.inr (fr_n2 (by omega))) (Or.inr (fr_n3 (by omega))) (Or.inl rfl) (Or.inr (fr_n5 (by omega))) (Or.inr (fr_n6 (by omega)))⟩)
  have b3 : ∀ i, i ≠ 126 + 6 * a1 + 2 → ((lf_up s.1 96 ((126 + (6 * a1)) + 2) a3) 96) i = s.1 96 i := fun i hi => lf_up_i hi
  exact hQ (lf_up s.1 96 ((126 + (6 * a1)) + 2) a3, s.2.1, s.2.2) hI1 fr2 (show ∀ i, i ≠ 126 + 6 * a1 + 2 → ((lf_up s.1 96 ((126 + (6 * a1)) + 2) a3) 96) i = s.1 96 i from by first | with_reducible assumption | assumption)
-- fm_191d Model.set 95 i 3 i
theorem sm_191d {a1 : Int} {a3 : Int} {Q : lf_Z → Prop} {s : lf_Z} (hI : iv_A s.1 s.2.2) (ba1 : 0 ≤ a1 ∧ a1 ≤ 5) (ba3 : 0 ≤ a3 ∧ a3 ≤ 11) (hQ : ∀  (s' : lf_Z), iv_A s'.1 s'.2.2 → lf_fq [96, 1006] 129 true s.1 s.2.2 s'.1 s'.2.2 → (∀ i, i ≠ 126 + 6 * a1 + 3 → s'.1 96 i = s.1 96 i) → Q  s') : fm_191d a1 a3 Q s := by
  unfold fm_191d
  refine ⟨(show (0 : Int) ≤ (126 + (6 * a1)) + 3 ∧ (126 + (6 * a1)) + 3 < (1538 : Int) from by omega), ?_⟩
  have hI1 : iv_A (lf_up s.1 96 ((126 + (6 * a1)) + 3) a3) s.2.2 := iv_wd96 hI (lf_le2 (iv_f6516b99e (a1) (by omega) (by omega)) (by omega)) (fun h => absurd h (by omega))
  have fr2 : lf_fq [96, 1006] 129 true s.1 s.2.2 (lf_up s.1 96 ((126 + (6 * a1)) + 3) a3) s.2.2 := lf_fq_up (lf_fq_rf) rfl (fun _ => ⟨by omega, fr_o (Or.inr (fr_n0 (by omega))) (Or.inr (fr_n1 (by omega))) (Or.inr (fr_n2 (by omega))) (Or.inr (fr_n3 (by omega))) (Or.inr (fr_n4 (by omega))) (Or.inr (fr_n5 (by omega))) (Or.inl rfl)⟩)
  have b3 : ∀ i, i ≠ 126 + 6 * a1 + 3 → ((lf_up s.1 96 ((126 + (6 * a1)) + 3) a3) 96) i = s.1 96 i := fun i hi => lf_up_i hi
  exact hQ (lf_up s.1 96 ((126 + (6 * a1)) + 3) a3, s.2.1, s.2.2) hI1 fr2 (show ∀ i, i ≠ 126 + 6 * a1 + 3 → ((lf_up s.1 96 ((126 + (6 * a1)) + 3) a3) 96) i = s.1 96 i from by first | with_reducible assumption | assumption)
-- fm_191e Model.set 95 i 4 i
theorem sm_191e {a1 : Int} {a3 : Int} {Q : lf_Z → Prop} {s : lf_Z} (hI : iv_A s.1 s.2.2) (ba1 : 0 ≤ a1 ∧ a1 ≤ 5) (ba3 : (-1) ≤ a3 ∧ a3 ≤ 11) (hQ : ∀  (s' : lf_Z), iv_A s'.1 s'.2.2 → lf_fq [96, 1006] 130 true s.1 s.2.2 s'.1 s'.2.2 → (∀ i, i ≠ 126 + 6 * a1 + 4 → s'.1 96 i = s.1 96 i) → Q  s') : fm_191e a1 a3 Q s := by
  unfold fm_191e
  refine ⟨(show (0 : Int) ≤ (126 + (6 * a1)) + 4 ∧ (126 + (6 * a1)) + 4 < (1538 : Int) from by omega), ?_⟩
  have hI1 : iv_A (lf_up s.1 96 ((126 + (6 * a1)) + 4) a3) s.2.2 := iv_wd96 hI (lf_le2 (iv_f80bf31e9 (a1) (by omega) (by omega)) (by omega)) (fun h => absurd h (by omega))
  have fr2 : lf_fq [96, 1006] 130 true s.1 s.2.2 (lf_up s.1 96 ((126 + (6 * a1)) + 4) a3) s.2.2 := lf_fq_up (lf_fq_rf) rfl (fun _ => ⟨by omega, fr_o (Or.inr (fr_n0 (by omega))) (Or.inr (fr_n1 (by omega))) (Or.inr (fr_n2 (by omega))) (Or.inr (fr_n3 (by omega))) (Or.inr (fr_n4 (by omega))) (Or.inr (fr_n5 (by omega))) (Or.inl rfl)⟩)
  have b3 : ∀ i, i ≠ 126 + 6 * a1 + 4 → ((lf_up s.1 96 ((126 + (6 * a1)) + 4) a3) 96) i = s.1 96 i := fun i hi => lf_up_i hi
  exact hQ (lf_up s.1 96 ((126 + (6 * a1)) + 4) a3, s.2.1, s.2.2) hI1 fr2 (show ∀ i, i ≠ 126 + 6 * a1 + 4 → ((lf_up s.1 96 ((126 + (6 * a1)) + 4) a3) 96) i = s.1 96 i from by first | with_reducible assumption | assumption)
-- fm_191f Model.set 95 i 5 i
theorem sm_191f {a1 : Int} {a3 : Int} {Q : lf_Z → Prop} {s : lf_Z} (hI : iv_A s.1 s.2.2) (ba1 : 0 ≤ a1 ∧ a1 ≤ 5) (ba3 : 0 ≤ a3 ∧ a3 ≤ 11) (hQ : ∀  (s' : lf_Z), iv_A s'.1 s'.2.2 → lf_fq [96, 1004] 131 true s.1 s.2.2 s'.1 s'.2.2 → (∀ i, i ≠ 126 + 6 * a1 + 5 → s'.1 96 i = s.1 96 i) → Q  s') : fm_191f a1 a3 Q s := by
  unfold fm_191f
  refine ⟨(show (0 : Int) ≤ (126 + (6 * a1)) + 5 ∧ (126 + (6 * a1)) + 5 < (1538 : Int) from by omega), ?_⟩
  have hI1 : iv_A (lf_up s.1 96 ((126 + (6 * a1)) + 5) a3) s.2.2 := iv_wd96 hI (lf_le2 (iv_fda897c4c (a1) (by omega) (by omega)) (by omega)) (fun h => absurd h (by omega))
  have fr2 : lf_fq [96, 1004] 131 true s.1 s.2.2 (lf_up s.1 96 ((126 + (6 * a1)) + 5) a3) s.2.2 := lf_fq_up (lf_fq_rf) rfl (fun _ => ⟨by omega, fr_o (Or.inr (fr_n0 (by omega))) (Or.inr (fr_n1 (by omega))) (Or.inr (fr_n2 (by omega))) (Or.inr (fr_n3 (by omega))) (Or.inl rfl) (Or.inr (fr_n5 (by omega))) (Or.inr (fr_n6 (by omega)))⟩)
  have b3 : ∀ i, i ≠ 126 + 6 * a1 + 5 → ((lf_up s.1 96 ((126 + (6 * a1)) + 5) a3) 96) i = s.1 96 i := fun i hi => lf_up_i hi
  exact hQ (lf_up s.1 96 ((126 + (6 * a1)) + 5) a3, s.2.1, s.2.2) hI1 fr2 (show ∀ i, i ≠ 126 + 6 * a1 + 5 → ((lf_up s.1 96 ((126 + (6 * a1)) + 5) a3) 96) i = s.1 96 i from by first | with_reducible assumption | assumption)
-- fm_190 Model.personNow 95 i i i i
theorem sm_190 {a1 : Int} {a2 : Int} {a3 : Int} {a4 : Int} {Q : Int → lf_Z → Prop} {s : lf_Z} (hI : iv_A s.1 s.2.2) (ba1 : (-2147483648) ≤ a1 ∧ a1 ≤ 2147483647) (ba2 : 0 ≤ a2 ∧ a2 ≤ 1) (ba3 : 0 ≤ a3 ∧ a3 ≤ 1) (ba4 : (-2147483648) ≤ a4 ∧ a4 ≤ 2147483647) (hQ : ∀ (r : Int) (s' : lf_Z), iv_A s'.1 s'.2.2 → lf_fq [96, 1004, 1006] 2 true s.1 s.2.2 s'.1 s'.2.2 → ((-1) ≤ r ∧ r ≤ 5) → Q r s') : fm_190 a1 a2 a3 a4 Q s := by
  unfold fm_190
  refine sm_185 hI (show (-2147483648 : Int) ≤ a4 ∧ a4 ≤ (2147483647 : Int) from by omega) (fun z22 q1 => ?_)
  have b2 : 0 ≤ s.1 96 0 ∧ s.1 96 0 ≤ 12 := iv_rd96 hI (iv_f3e1fa21c (by omega))
  refine ⟨fun c3 => ?_, fun c3 => ?_⟩
  · skip
    have dc3 := q1.2 c3
    exact hQ (-1) s hI (lf_fq_rf) (show (-1 : Int) ≤ (-1) ∧ (-1) ≤ (5 : Int) from by omega)
  · skip
    have dc3 := q1.1 c3
    have b4 : 0 ≤ s.1 96 2 ∧ s.1 96 2 ≤ 6 := iv_rd96 hI (iv_f2103129b (by omega))
    have b5 : s.1 96 2 ≤ 0 ∨ 0 < s.1 96 0 := (show s.1 96 2 ≤ 0 ∨ 0 < s.1 96 0 from iv_l96_2 hI)
    refine ⟨(show lf_R (s.1 96 2) from lf_Rof (by omega)), ?_⟩
    refine ⟨fun c6 => ?_, fun c6 => ?_⟩
    · skip
      replace c6 : s.1 96 2 ≠ 6 := c6
      refine sm_191 hI (show (0 : Int) ≤ s.1 96 2 ∧ s.1 96 2 ≤ (5 : Int) from by omega) (show (-2147483648 : Int) ≤ a1 ∧ a1 ≤ (2147483647 : Int) from by omega) (fun s24 hI8 fr7 ps10 => ?_)
      replace ps10 : ∀ i, i ≠ 126 + 6 * (s.1 96 2) + 0 → s24.1 96 i = (s.1 96) i := ps10
      have fr11 : lf_fq [96, 1004, 1006] 2 true s.1 s.2.2 s24.1 s24.2.2 := lf_fq_tr (lf_fq_rf) (lf_fq_wk fr7 rfl (by decide) (by decide))
      refine sm_191b hI8 (show (0 : Int) ≤ s.1 96 2 ∧ s.1 96 2 ≤ (5 : Int) from by omega) (show (0 : Int) ≤ a2 ∧ a2 ≤ (1 : Int) from by omega) (fun s25 hI13 fr12 ps15 => ?_)
      replace ps15 : ∀ i, i ≠ 126 + 6 * (s.1 96 2) + 1 → s25.1 96 i = (s24.1 96) i := ps15
      have fr16 : lf_fq [96, 1004, 1006] 2 true s.1 s.2.2 s25.1 s25.2.2 := lf_fq_tr fr11 (lf_fq_wk fr12 rfl (by decide) (by decide))
      refine sm_191c hI13 (show (0 : Int) ≤ s.1 96 2 ∧ s.1 96 2 ≤ (5 : Int) from by omega) (show (0 : Int) ≤ a3 ∧ a3 ≤ (1 : Int) from by omega) (fun s26 hI18 fr17 ps20 => ?_)
      replace ps20 : ∀ i, i ≠ 126 + 6 * (s.1 96 2) + 2 → s26.1 96 i = (s25.1 96) i := ps20
      have fr21 : lf_fq [96, 1004, 1006] 2 true s.1 s.2.2 s26.1 s26.2.2 := lf_fq_tr fr16 (lf_fq_wk fr17 rfl (by decide) (by decide))
      refine sm_191d hI18 (show (0 : Int) ≤ s.1 96 2 ∧ s.1 96 2 ≤ (5 : Int) from by omega) (show (0 : Int) ≤ a4 ∧ a4 ≤ (11 : Int) from by omega) (fun s27 hI23 fr22 ps25 => ?_)
      replace ps25 : ∀ i, i ≠ 126 + 6 * (s.1 96 2) + 3 → s27.1 96 i = (s26.1 96) i := ps25
      have fr26 : lf_fq [96, 1004, 1006] 2 true s.1 s.2.2 s27.1 s27.2.2 := lf_fq_tr fr21 (lf_fq_wk fr22 rfl (by decide) (by decide))
      refine sm_191e hI23 (show (0 : Int) ≤ s.1 96 2 ∧ s.1 96 2 ≤ (5 : Int) from by omega) (show (-1 : Int) ≤ (-1) ∧ (-1) ≤ (11 : Int) from by omega) (fun s28 hI28 fr27 ps30 => ?_)
      replace ps30 : ∀ i, i ≠ 126 + 6 * (s.1 96 2) + 4 → s28.1 96 i = (s27.1 96) i := ps30
      have fr31 : lf_fq [96, 1004, 1006] 2 true s.1 s.2.2 s28.1 s28.2.2 := lf_fq_tr fr26 (lf_fq_wk fr27 rfl (by decide) (by decide))
      refine sm_191f hI28 (show (0 : Int) ≤ s.1 96 2 ∧ s.1 96 2 ≤ (5 : Int) from by omega) (show (0 : Int) ≤ a4 ∧ a4 ≤ (11 : Int) from by omega) (fun s29 hI33 fr32 ps35 => ?_)
      replace ps35 : ∀ i, i ≠ 126 + 6 * (s.1 96 2) + 5 → s29.1 96 i = (s28.1 96) i := ps35
      have fr36 : lf_fq [96, 1004, 1006] 2 true s.1 s.2.2 s29.1 s29.2.2 := lf_fq_tr fr31 (lf_fq_wk fr32 rfl (by decide) (by decide))
      have b37 : 0 ≤ s29.1 96 2 ∧ s29.1 96 2 ≤ 6 := iv_rd96 hI33 (iv_f2103129b (by omega))
      have b38 : s29.1 96 2 = s28.1 96 2 := fr32.2.1 2 (by decide)
      have b39 : s28.1 96 2 = s27.1 96 2 := fr27.2.1 2 (by decide)
      have b40 : s27.1 96 2 = s26.1 96 2 := fr22.2.1 2 (by decide)
      have b41 : s26.1 96 2 = s25.1 96 2 := fr17.2.1 2 (by decide)
      have b42 : s25.1 96 2 = s24.1 96 2 := fr12.2.1 2 (by decide)
      have b43 : s24.1 96 2 = s.1 96 2 := fr7.2.1 2 (by decide)
      have b44 : s29.1 96 2 ≤ 0 ∨ 0 < s29.1 96 0 := (show s29.1 96 2 ≤ 0 ∨ 0 < s29.1 96 0 from iv_l96_2 hI33)
      have b45 : 0 ≤ s29.1 96 0 ∧ s29.1 96 0 ≤ 12 := iv_rd96 hI33 (iv_f3e1fa21c (by omega))
      have b46 : s29.1 96 0 = s28.1 96 0 := fr32.2.1 0 (by decide)
      have b47 : s28.1 96 0 = s27.1 96 0 := fr27.2.1 0 (by decide)
      have b48 : s27.1 96 0 = s26.1 96 0 := fr22.2.1 0 (by decide)
      have b49 : s26.1 96 0 = s25.1 96 0 := fr17.2.1 0 (by decide)
      have b50 : s25.1 96 0 = s24.1 96 0 := fr12.2.1 0 (by decide)
      have b51 : s24.1 96 0 = s.1 96 0 := fr7.2.1 0 (by decide)
      have hI52 : iv_A (lf_up s29.1 96 2 ((s29.1 96 2) + 1)) s29.2.2 := iv_wd96 hI33 (lf_le2 (iv_fd398447a (by omega)) (by omega)) (fun _ => iv_rel2 hI33 (by omega))
      have fr53 : lf_fq [96, 1004, 1006] 2 true s.1 s.2.2 (lf_up s29.1 96 2 ((s29.1 96 2) + 1)) s29.2.2 := lf_fq_up fr36 rfl (fun _ => ⟨by omega, fr_o (Or.inr (fr_n0 (by omega))) (Or.inr (fr_n1 (by omega))) (Or.inr (fr_n2 (by omega))) (Or.inr (fr_n3 (by omega))) (Or.inl rfl) (Or.inr (fr_n5 (by omega))) (Or.inl rfl)⟩)
      exact hQ (s.1 96 2) (lf_up s29.1 96 2 ((s29.1 96 2) + 1), s29.2.1, s29.2.2) hI52 fr53 (show (-1 : Int) ≤ s.1 96 2 ∧ s.1 96 2 ≤ (5 : Int) from by omega)
    · skip
      replace c6 : ¬ (s.1 96 2 ≠ 6) := c6
      exact hQ (-1) s hI (lf_fq_rf) (show (-1 : Int) ≤ (-1) ∧ (-1) ≤ (5 : Int) from by omega)
-- fm_189 Model.person 95 i i i i
theorem sm_189_p30 {Q : Int → lf_Z → Prop} {x4 : Int} {y1 : Int} {y2 : Int} {y3 : Int} {s : lf_Z} (hQ : ∀ (r : Int) (s' : lf_Z), iv_A s'.1 s'.2.2 → lf_fq [96, 1004, 1006] 2 true s.1 s.2.2 s'.1 s'.2.2 → ((-1) ≤ r ∧ r ≤ 5) → Q r s') (hI : iv_A s.1 s.2.2) (bx4 : (-2147483648) ≤ x4 ∧ x4 ≤ 2147483647) (by1 : 0 ≤ y1 ∧ y1 ≤ 9) (by2 : 0 ≤ y2 ∧ y2 ≤ 1) (by3 : 0 ≤ y3 ∧ y3 ≤ 1) : fm_189_p30 Q x4 y1 y2 y3 s := by
  unfold fm_189_p30
  refine sm_190 hI (show (-2147483648 : Int) ≤ y1 ∧ y1 ≤ (2147483647 : Int) from by omega) (show (0 : Int) ≤ y2 ∧ y2 ≤ (1 : Int) from by omega) (show (0 : Int) ≤ y3 ∧ y3 ≤ (1 : Int) from by omega) (show (-2147483648 : Int) ≤ x4 ∧ x4 ≤ (2147483647 : Int) from by omega) (fun r26 s25 hI6 fr5 q7 => ?_)
  have fr8 : lf_fq [96, 1004, 1006] 2 true s.1 s.2.2 s25.1 s25.2.2 := lf_fq_tr (lf_fq_rf) (lf_fq_wk fr5 rfl (by decide) (by decide))
  exact hQ r26 s25 hI6 fr8 (show (-1 : Int) ≤ r26 ∧ r26 ≤ (5 : Int) from by omega)
theorem sm_189_p21 {Q : Int → lf_Z → Prop} {x3 : Int} {x4 : Int} {y1 : Int} {y2 : Int} {s : lf_Z} (hQ : ∀ (r : Int) (s' : lf_Z), iv_A s'.1 s'.2.2 → lf_fq [96, 1004, 1006] 2 true s.1 s.2.2 s'.1 s'.2.2 → ((-1) ≤ r ∧ r ≤ 5) → Q r s') (hI : iv_A s.1 s.2.2) (bx3 : 0 ≤ x3 ∧ x3 ≤ 1) (bx4 : (-2147483648) ≤ x4 ∧ x4 ≤ 2147483647) (by1 : 0 ≤ y1 ∧ y1 ≤ 9) (by2 : 0 ≤ y2 ∧ y2 ≤ 1) : fm_189_p21 Q x3 x4 y1 y2 s := by
  unfold fm_189_p21
  refine ⟨(show lf_R x3 from lf_Rof (by omega)), ?_⟩
  refine ⟨fun c4 => ?_, fun c4 => ?_⟩
  · skip
    replace c4 : x3 = 0 := c4
    exact sm_189_p30 hQ hI (show (-2147483648 : Int) ≤ x4 ∧ x4 ≤ (2147483647 : Int) from by omega) (show (0 : Int) ≤ y1 ∧ y1 ≤ (9 : Int) from by omega) (show (0 : Int) ≤ y2 ∧ y2 ≤ (1 : Int) from by omega) (show (0 : Int) ≤ 0 ∧ 0 ≤ (1 : Int) from by omega)
  · skip
    replace c4 : ¬ (x3 = 0) := c4
    exact sm_189_p30 hQ hI (show (-2147483648 : Int) ≤ x4 ∧ x4 ≤ (2147483647 : Int) from by omega) (show (0 : Int) ≤ y1 ∧ y1 ≤ (9 : Int) from by omega) (show (0 : Int) ≤ y2 ∧ y2 ≤ (1 : Int) from by omega) (show (0 : Int) ≤ 1 ∧ 1 ≤ (1 : Int) from by omega)
theorem sm_189 {a1 : Int} {a2 : Int} {a3 : Int} {a4 : Int} {Q : Int → lf_Z → Prop} {s : lf_Z} (hI : iv_A s.1 s.2.2) (ba1 : (-2147483648) ≤ a1 ∧ a1 ≤ 2147483647) (ba2 : 0 ≤ a2 ∧ a2 ≤ 1) (ba3 : 0 ≤ a3 ∧ a3 ≤ 1) (ba4 : (-2147483648) ≤ a4 ∧ a4 ≤ 2147483647) (hQ : ∀ (r : Int) (s' : lf_Z), iv_A s'.1 s'.2.2 → lf_fq [96, 1004, 1006] 2 true s.1 s.2.2 s'.1 s'.2.2 → ((-1) ≤ r ∧ r ≤ 5) → Q r s') : fm_189 a1 a2 a3 a4 Q s := by
  unfold fm_189
  refine sm_183 hI (show (-2147483648 : Int) ≤ a1 ∧ a1 ≤ (2147483647 : Int) from by omega) (show (-1 : Int) ≤ 0 ∧ 0 ≤ (97 : Int) from by omega) (show (-1 : Int) ≤ 9 ∧ 9 ≤ (9999 : Int) from by omega) (fun z22 q1 => ?_)
  refine ⟨fun c2 => ?_, fun c2 => ?_⟩
  · skip
    have dc2 := q1.2 c2
    exact hQ (-1) s hI (lf_fq_rf) (show (-1 : Int) ≤ (-1) ∧ (-1) ≤ (5 : Int) from by omega)
  · skip
    have dc2 := q1.1 c2
    refine ⟨(show lf_R a2 from lf_Rof (by omega)), ?_⟩
    refine ⟨fun c3 => ?_, fun c3 => ?_⟩
    · skip
      replace c3 : a2 = 0 := c3
      exact sm_189_p21 hQ hI (show (0 : Int) ≤ a3 ∧ a3 ≤ (1 : Int) from by omega) (show (-2147483648 : Int) ≤ a4 ∧ a4 ≤ (2147483647 : Int) from by omega) (show (0 : Int) ≤ a1 ∧ a1 ≤ (9 : Int) from by omega) (show (0 : Int) ≤ 0 ∧ 0 ≤ (1 : Int) from by omega)
    · skip
      replace c3 : ¬ (a2 = 0) := c3
      exact sm_189_p21 hQ hI (show (0 : Int) ≤ a3 ∧ a3 ≤ (1 : Int) from by omega) (show (-2147483648 : Int) ≤ a4 ∧ a4 ≤ (2147483647 : Int) from by omega) (show (0 : Int) ≤ a1 ∧ a1 ≤ (9 : Int) from by omega) (show (0 : Int) ≤ 1 ∧ 1 ≤ (1 : Int) from by omega)
-- fm_26 Reader.addBytes 31 i
theorem sm_26_p3 {X3 : Int → lf_Z → Prop} {Q : lf_Z → Prop} {x1 : Int} {x2 : Int} {s : lf_Z} (hQ : ∀  (s' : lf_Z), iv_A s'.1 s'.2.2 → lf_fq [31, 32] 1000000 true s.1 s.2.2 s'.1 s'.2.2 → Q  s') {M3 : Nat} (hX3 : ∀ (x2 : Int) (s' : lf_Z), iv_A s'.1 s'.2.2 → lf_fq [31, 32] 1000000 true s.1 s.2.2 s'.1 s'.2.2 → (-8) ≤ x2 ∧ x2 ≤ 24 → (x2 - (-8)).toNat < M3 → X3 x2 s') (hM3 : (x2 - (-8)).toNat ≤ M3) (hI : iv_A s.1 s.2.2) (bx1 : (-2147483648) ≤ x1 ∧ x1 ≤ 2147483647) (bx2 : (-8) ≤ x2 ∧ x2 ≤ 24) : fm_26_p3 Q x1 X3 x2 s := by
  unfold fm_26_p3
  refine ⟨(show lf_R x2 from lf_Rof (by omega)), ?_⟩
  refine ⟨fun c1 => ?_, fun c1 => ?_⟩
  · skip
    replace c1 : x2 < 0 := c1
    exact hQ s hI (lf_fq_rf)
  · skip
    replace c1 : ¬ (x2 < 0) := c1
    have b2 : 0 ≤ s.1 31 1 ∧ s.1 31 1 ≤ 300 := iv_r31_1 hI
    refine ⟨(show lf_R (s.1 31 1) from lf_Rof (by omega)), ?_⟩
    refine ⟨fun c3 => ?_, fun c3 => ?_⟩
    · skip
      replace c3 : 300 ≤ s.1 31 1 := c3
      exact hQ s hI (lf_fq_rf)
    · skip
      replace c3 : ¬ (300 ≤ s.1 31 1) := c3
      have b4 : (-2147483648) ≤ lf_ushr x1 x2 ∧ lf_ushr x1 x2 ≤ 2147483647 := lf_ushrB
      have b5 : 0 ≤ lf_and (lf_ushr x1 x2) 255 ∧ lf_and (lf_ushr x1 x2) 255 ≤ 255 := lf_andB (by omega) (by omega)
      refine ⟨(show (0 : Int) ≤ s.1 31 1 ∧ s.1 31 1 < (300 : Int) from by omega), ?_⟩
      have hI6 : iv_A (lf_up s.1 32 (s.1 31 1) (lf_and (lf_ushr x1 x2) 255)) s.2.2 := iv_w32 hI (by omega)
      have fr7 : lf_fq [31, 32] 1000000 true s.1 s.2.2 (lf_up s.1 32 (s.1 31 1) (lf_and (lf_ushr x1 x2) 255)) s.2.2 := lf_fq_up (lf_fq_rf) rfl (fun h => absurd h (by decide))
      have hI8 : iv_A (lf_up (lf_up s.1 32 (s.1 31 1) (lf_and (lf_ushr x1 x2) 255)) 31 1 ((s.1 31 1) + 1)) s.2.2 := iv_w31_1 hI6 (by omega)
      have fr9 : lf_fq [31, 32] 1000000 true s.1 s.2.2 (lf_up (lf_up s.1 32 (s.1 31 1) (lf_and (lf_ushr x1 x2) 255)) 31 1 ((s.1 31 1) + 1)) s.2.2 := lf_fq_up fr7 rfl (fun h => absurd h (by decide))
      exact hX3 (x2 + (-8)) (lf_up (lf_up s.1 32 (s.1 31 1) (lf_and (lf_ushr x1 x2) 255)) 31 1 ((s.1 31 1) + 1), s.2.1, s.2.2) hI8 fr9 (show (-8 : Int) ≤ x2 + (-8) ∧ x2 + (-8) ≤ (24 : Int) from by omega) (show ((x2 + (-8)) - (-8)).toNat < M3 from by omega)
theorem sm_26_p3L {Q : lf_Z → Prop} {x1 : Int} {x2 : Int} {s : lf_Z} (hQ : ∀  (s' : lf_Z), iv_A s'.1 s'.2.2 → lf_fq [31, 32] 1000000 true s.1 s.2.2 s'.1 s'.2.2 → Q  s') (hI : iv_A s.1 s.2.2) (bx1 : (-2147483648) ≤ x1 ∧ x1 ≤ 2147483647) (bx2 : (-8) ≤ x2 ∧ x2 ≤ 24) : fm_26_p3L Q x1 x2 s := by
  intro X3 hX
  have key : ∀ (m9 : Nat) (x2 : Int) (s' : lf_Z), iv_A s'.1 s'.2.2 → lf_fq [31, 32] 1000000 true s.1 s.2.2 s'.1 s'.2.2 → (-8) ≤ x2 ∧ x2 ≤ 24 → (x2 - (-8)).toNat < m9 → X3 x2 s' := by
    intro m9
    induction m9 with
    | zero => intro x2 s' _ _ bx2 h9; exact absurd h9 (Nat.not_lt_zero _)
    | succ m9 ih => intro x2 s' i7 f7 bx2 h9; exact hX _ _ (sm_26_p3 (fun t9 i9 f9 => hQ t9 i9 (lf_fq_tr f7 f9))   (fun x2' t8 i8 f8 bx2' h8 => ih x2' t8 i8 (lf_fq_tr f7 f8) bx2' (by omega)) (Nat.le_refl _)  i7  bx1 bx2  )
  exact key _ _ s hI lf_fq_rf bx2 (Nat.lt_succ_self _)
theorem sm_26 {a1 : Int} {Q : lf_Z → Prop} {s : lf_Z} (hI : iv_A s.1 s.2.2) (ba1 : (-2147483648) ≤ a1 ∧ a1 ≤ 2147483647) (hQ : ∀  (s' : lf_Z), iv_A s'.1 s'.2.2 → lf_fq [31, 32] 1000000 true s.1 s.2.2 s'.1 s'.2.2 → Q  s') : fm_26 a1 Q s := by
  unfold fm_26
  exact sm_26_p3L hQ hI (show (-2147483648 : Int) ≤ a1 ∧ a1 ≤ (2147483647 : Int) from by omega) (show (-8 : Int) ≤ 24 ∧ 24 ≤ (24 : Int) from by omega)
-- fm_25 ElevenBullocks.feed 0 i i i i i
theorem sm_25 {a1 : Int} {a2 : Int} {a3 : Int} {a4 : Int} {a5 : Int} {Q : Int → lf_Z → Prop} {s : lf_Z} (hI : iv_A s.1 s.2.2) (ba1 : (-2147483648) ≤ a1 ∧ a1 ≤ 2147483647) (ba2 : (-2147483648) ≤ a2 ∧ a2 ≤ 2147483647) (ba3 : (-2147483648) ≤ a3 ∧ a3 ≤ 2147483647) (ba4 : (-2147483648) ≤ a4 ∧ a4 ≤ 2147483647) (ba5 : (-2147483648) ≤ a5 ∧ a5 ≤ 2147483647) (hQ : ∀ (r : Int) (s' : lf_Z), iv_A s'.1 s'.2.2 → lf_fq [31, 32] 1000000 true s.1 s.2.2 s'.1 s'.2.2 → ((-1) ≤ r ∧ r ≤ 300) → Q r s') : fm_25 a1 a2 a3 a4 a5 Q s := by
  unfold fm_25
  have b1 : 0 ≤ s.1 31 1 ∧ s.1 31 1 ≤ 300 := iv_r31_1 hI
  refine ⟨(show lf_R ((s.1 31 1) + 20) from lf_Rof (by omega)), ?_⟩
  refine ⟨fun c2 => ?_, fun c2 => ?_⟩
  · skip
    replace c2 : (s.1 31 1) + 20 ≤ 300 := c2
    refine sm_26 hI (show (-2147483648 : Int) ≤ a1 ∧ a1 ≤ (2147483647 : Int) from by omega) (fun s22 hI4 fr3 => ?_)
    have fr6 : lf_fq [31, 32] 1000000 true s.1 s.2.2 s22.1 s22.2.2 := lf_fq_tr (lf_fq_rf) (lf_fq_wk fr3 rfl (by decide) (by decide))
    refine sm_26 hI4 (show (-2147483648 : Int) ≤ a2 ∧ a2 ≤ (2147483647 : Int) from by omega) (fun s23 hI8 fr7 => ?_)
    have fr10 : lf_fq [31, 32] 1000000 true s.1 s.2.2 s23.1 s23.2.2 := lf_fq_tr fr6 (lf_fq_wk fr7 rfl (by decide) (by decide))
    refine sm_26 hI8 (show (-2147483648 : Int) ≤ a3 ∧ a3 ≤ (2147483647 : Int) from by omega) (fun s24 hI12 fr11 => ?_)
    have fr14 : lf_fq [31, 32] 1000000 true s.1 s.2.2 s24.1 s24.2.2 := lf_fq_tr fr10 (lf_fq_wk fr11 rfl (by decide) (by decide))
    refine sm_26 hI12 (show (-2147483648 : Int) ≤ a4 ∧ a4 ≤ (2147483647 : Int) from by omega) (fun s25 hI16 fr15 => ?_)
    have fr18 : lf_fq [31, 32] 1000000 true s.1 s.2.2 s25.1 s25.2.2 := lf_fq_tr fr14 (lf_fq_wk fr15 rfl (by decide) (by decide))
    refine sm_26 hI16 (show (-2147483648 : Int) ≤ a5 ∧ a5 ≤ (2147483647 : Int) from by omega) (fun s26 hI20 fr19 => ?_)
    have fr22 : lf_fq [31, 32] 1000000 true s.1 s.2.2 s26.1 s26.2.2 := lf_fq_tr fr18 (lf_fq_wk fr19 rfl (by decide) (by decide))
    have b23 : 0 ≤ s26.1 31 1 ∧ s26.1 31 1 ≤ 300 := iv_r31_1 hI20
    exact hQ (s26.1 31 1) s26 hI20 fr22 (show (-1 : Int) ≤ s26.1 31 1 ∧ s26.1 31 1 ≤ (300 : Int) from by omega)
  · skip
    replace c2 : ¬ ((s.1 31 1) + 20 ≤ 300) := c2
    exact hQ (-1) s hI (lf_fq_rf) (show (-1 : Int) ≤ (-1) ∧ (-1) ≤ (300 : Int) from by omega)
-- fm_193 Model.four 95 i
theorem sm_193_p3 {X3 : Int → lf_Z → Prop} {Q : lf_Z → Prop} {x1 : Int} {x2 : Int} {s : lf_Z} {s0 : lf_Z} (hQ : ∀  (s' : lf_Z), iv_A s'.1 s'.2.2 → lf_fq [95, 99] 1000000 true s.1 s.2.2 s'.1 s'.2.2 → (s'.1 95 4 ≤ s0.1 95 4 + 4) → Q  s') {M3 : Nat} (hX3 : ∀ (x2 : Int) (s' : lf_Z), iv_A s'.1 s'.2.2 → lf_fq [95, 99] 1000000 true s.1 s.2.2 s'.1 s'.2.2 → (-8) ≤ x2 ∧ x2 ≤ 24 → (8 * s'.1 95 4 + x2 ≤ 8 * s0.1 95 4 + 24) → (s0.1 95 4 ≤ 296) → (x2 - (-8)).toNat < M3 → X3 x2 s') (hM3 : (x2 - (-8)).toNat ≤ M3) (hI : iv_A s.1 s.2.2) (bx1 : (-2147483648) ≤ x1 ∧ x1 ≤ 2147483647) (bx2 : (-8) ≤ x2 ∧ x2 ≤ 24) (kv0 : 8 * s.1 95 4 + x2 ≤ 8 * s0.1 95 4 + 24) (kv1 : s0.1 95 4 ≤ 296) : fm_193_p3 Q x1 X3 x2 s := by
  unfold fm_193_p3
  refine ⟨(show lf_R x2 from lf_Rof (by omega)), ?_⟩
  refine ⟨fun c2 => ?_, fun c2 => ?_⟩
  · skip
    replace c2 : x2 < 0 := c2
    exact hQ s hI (lf_fq_rf) (show (s.1 95 4) ≤ s0.1 95 4 + 4 from by omega)
  · skip
    replace c2 : ¬ (x2 < 0) := c2
    have b3 : 0 ≤ s.1 95 4 ∧ s.1 95 4 ≤ 300 := iv_r95_4 hI
    have b4 : (-2147483648) ≤ lf_shr x1 x2 ∧ lf_shr x1 x2 ≤ 2147483647 := lf_shrB
    have b5 : 0 ≤ lf_and (lf_shr x1 x2) 255 ∧ lf_and (lf_shr x1 x2) 255 ≤ 255 := lf_andB (by omega) (by omega)
    refine ⟨(show (0 : Int) ≤ s.1 95 4 ∧ s.1 95 4 < (300 : Int) from by omega), ?_⟩
    have hI6 : iv_A (lf_up s.1 99 (s.1 95 4) (lf_and (lf_shr x1 x2) 255)) s.2.2 := iv_w99 hI (by omega)
    have fr7 : lf_fq [95, 99] 1000000 true s.1 s.2.2 (lf_up s.1 99 (s.1 95 4) (lf_and (lf_shr x1 x2) 255)) s.2.2 := lf_fq_up (lf_fq_rf) rfl (fun h => absurd h (by decide))
    have hI8 : iv_A (lf_up (lf_up s.1 99 (s.1 95 4) (lf_and (lf_shr x1 x2) 255)) 95 4 ((s.1 95 4) + 1)) s.2.2 := iv_w95_4 hI6 (by omega)
    have fr9 : lf_fq [95, 99] 1000000 true s.1 s.2.2 (lf_up (lf_up s.1 99 (s.1 95 4) (lf_and (lf_shr x1 x2) 255)) 95 4 ((s.1 95 4) + 1)) s.2.2 := lf_fq_up fr7 rfl (fun h => absurd h (by decide))
    exact hX3 (x2 + (-8)) (lf_up (lf_up s.1 99 (s.1 95 4) (lf_and (lf_shr x1 x2) 255)) 95 4 ((s.1 95 4) + 1), s.2.1, s.2.2) hI8 fr9 (show (-8 : Int) ≤ x2 + (-8) ∧ x2 + (-8) ≤ (24 : Int) from by omega) (show 8 * ((s.1 95 4) + 1) + (x2 + (-8)) ≤ 8 * s0.1 95 4 + 24 from by omega) (show s0.1 95 4 ≤ 296 from by omega) (show ((x2 + (-8)) - (-8)).toNat < M3 from by omega)
theorem sm_193_p3L {Q : lf_Z → Prop} {x1 : Int} {x2 : Int} {s : lf_Z} {s0 : lf_Z} (hQ : ∀  (s' : lf_Z), iv_A s'.1 s'.2.2 → lf_fq [95, 99] 1000000 true s.1 s.2.2 s'.1 s'.2.2 → (s'.1 95 4 ≤ s0.1 95 4 + 4) → Q  s') (hI : iv_A s.1 s.2.2) (bx1 : (-2147483648) ≤ x1 ∧ x1 ≤ 2147483647) (bx2 : (-8) ≤ x2 ∧ x2 ≤ 24) (kv0 : 8 * s.1 95 4 + x2 ≤ 8 * s0.1 95 4 + 24) (kv1 : s0.1 95 4 ≤ 296) : fm_193_p3L Q x1 x2 s := by
  intro X3 hX
  have key : ∀ (m9 : Nat) (x2 : Int) (s' : lf_Z), iv_A s'.1 s'.2.2 → lf_fq [95, 99] 1000000 true s.1 s.2.2 s'.1 s'.2.2 → (-8) ≤ x2 ∧ x2 ≤ 24 → (8 * s'.1 95 4 + x2 ≤ 8 * s0.1 95 4 + 24) → (s0.1 95 4 ≤ 296) → (x2 - (-8)).toNat < m9 → X3 x2 s' := by
    intro m9
    induction m9 with
    | zero => intro x2 s' _ _ bx2 kv0 kv1 h9; exact absurd h9 (Nat.not_lt_zero _)
    | succ m9 ih => intro x2 s' i7 f7 bx2 kv0 kv1 h9; exact hX _ _ (sm_193_p3 (s0 := s0) (fun t9 i9 f9 => hQ t9 i9 (lf_fq_tr f7 f9))   (fun x2' t8 i8 f8 bx2' kv0' kv1' h8 => ih x2' t8 i8 (lf_fq_tr f7 f8) bx2' kv0' kv1' (by omega)) (Nat.le_refl _)  i7  bx1 bx2  kv0 kv1)
  exact key _ _ s hI lf_fq_rf bx2 kv0 kv1 (Nat.lt_succ_self _)
theorem sm_193 {a1 : Int} {Q : lf_Z → Prop} {s : lf_Z} (hI : iv_A s.1 s.2.2) (ba1 : (-2147483648) ≤ a1 ∧ a1 ≤ 2147483647) (kp0 : s.1 95 4 ≤ 296) (hQ : ∀  (s' : lf_Z), iv_A s'.1 s'.2.2 → lf_fq [95, 99] 1000000 true s.1 s.2.2 s'.1 s'.2.2 → (s'.1 95 4 ≤ s.1 95 4 + 4) → Q  s') : fm_193 a1 Q s := by
  unfold fm_193
  have b1 : 0 ≤ s.1 95 4 ∧ s.1 95 4 ≤ 300 := iv_r95_4 hI
  exact sm_193_p3L (s0 := s) hQ hI (show (-2147483648 : Int) ≤ a1 ∧ a1 ≤ (2147483647 : Int) from by omega) (show (-8 : Int) ≤ 24 ∧ 24 ≤ (24 : Int) from by omega) (show 8 * (s.1 95 4) + 24 ≤ 8 * s.1 95 4 + 24 from by omega) (show s.1 95 4 ≤ 296 from by omega)
-- fm_192 Model.feed 95 i i i i i
theorem sm_192 {a1 : Int} {a2 : Int} {a3 : Int} {a4 : Int} {a5 : Int} {Q : Int → lf_Z → Prop} {s : lf_Z} (hI : iv_A s.1 s.2.2) (ba1 : (-2147483648) ≤ a1 ∧ a1 ≤ 2147483647) (ba2 : (-2147483648) ≤ a2 ∧ a2 ≤ 2147483647) (ba3 : (-2147483648) ≤ a3 ∧ a3 ≤ 2147483647) (ba4 : (-2147483648) ≤ a4 ∧ a4 ≤ 2147483647) (ba5 : (-2147483648) ≤ a5 ∧ a5 ≤ 2147483647) (hQ : ∀ (r : Int) (s' : lf_Z), iv_A s'.1 s'.2.2 → lf_fq [95, 99] 1000000 true s.1 s.2.2 s'.1 s'.2.2 → ((-1) ≤ r ∧ r ≤ 300) → Q r s') : fm_192 a1 a2 a3 a4 a5 Q s := by
  unfold fm_192
  have b1 : 0 ≤ s.1 95 4 ∧ s.1 95 4 ≤ 300 := iv_r95_4 hI
  refine ⟨(show lf_R ((s.1 95 4) + 20) from lf_Rof (by omega)), ?_⟩
  refine ⟨fun c2 => ?_, fun c2 => ?_⟩
  · skip
    replace c2 : (s.1 95 4) + 20 ≤ 300 := c2
    refine sm_193 hI (show (-2147483648 : Int) ≤ a1 ∧ a1 ≤ (2147483647 : Int) from by omega) (show (s.1 95 4) ≤ 296 from by omega) (fun s22 hI4 fr3 ps6 => ?_)
    replace ps6 : s22.1 95 4 ≤ (s.1 95 4) + 4 := ps6
    have fr7 : lf_fq [95, 99] 1000000 true s.1 s.2.2 s22.1 s22.2.2 := lf_fq_tr (lf_fq_rf) (lf_fq_wk fr3 rfl (by decide) (by decide))
    have b10 : 0 ≤ s22.1 95 4 ∧ s22.1 95 4 ≤ 300 := iv_r95_4 hI4
    refine sm_193 hI4 (show (-2147483648 : Int) ≤ a2 ∧ a2 ≤ (2147483647 : Int) from by omega) (show (s22.1 95 4) ≤ 296 from by omega) (fun s23 hI9 fr8 ps12 => ?_)
    replace ps12 : s23.1 95 4 ≤ (s22.1 95 4) + 4 := ps12
    have fr13 : lf_fq [95, 99] 1000000 true s.1 s.2.2 s23.1 s23.2.2 := lf_fq_tr fr7 (lf_fq_wk fr8 rfl (by decide) (by decide))
    have b16 : 0 ≤ s23.1 95 4 ∧ s23.1 95 4 ≤ 300 := iv_r95_4 hI9
    refine sm_193 hI9 (show (-2147483648 : Int) ≤ a3 ∧ a3 ≤ (2147483647 : Int) from by omega) (show (s23.1 95 4) ≤ 296 from by omega) (fun s24 hI15 fr14 ps18 => ?_)
    replace ps18 : s24.1 95 4 ≤ (s23.1 95 4) + 4 := ps18
    have fr19 : lf_fq [95, 99] 1000000 true s.1 s.2.2 s24.1 s24.2.2 := lf_fq_tr fr13 (lf_fq_wk fr14 rfl (by decide) (by decide))
    have b22 : 0 ≤ s24.1 95 4 ∧ s24.1 95 4 ≤ 300 := iv_r95_4 hI15
    refine sm_193 hI15 (show (-2147483648 : Int) ≤ a4 ∧ a4 ≤ (2147483647 : Int) from by omega) (show (s24.1 95 4) ≤ 296 from by omega) (fun s25 hI21 fr20 ps24 => ?_)
    replace ps24 : s25.1 95 4 ≤ (s24.1 95 4) + 4 := ps24
    have fr25 : lf_fq [95, 99] 1000000 true s.1 s.2.2 s25.1 s25.2.2 := lf_fq_tr fr19 (lf_fq_wk fr20 rfl (by decide) (by decide))
    have b28 : 0 ≤ s25.1 95 4 ∧ s25.1 95 4 ≤ 300 := iv_r95_4 hI21
    refine sm_193 hI21 (show (-2147483648 : Int) ≤ a5 ∧ a5 ≤ (2147483647 : Int) from by omega) (show (s25.1 95 4) ≤ 296 from by omega) (fun s26 hI27 fr26 ps30 => ?_)
    replace ps30 : s26.1 95 4 ≤ (s25.1 95 4) + 4 := ps30
    have fr31 : lf_fq [95, 99] 1000000 true s.1 s.2.2 s26.1 s26.2.2 := lf_fq_tr fr25 (lf_fq_wk fr26 rfl (by decide) (by decide))
    have b32 : 0 ≤ s26.1 95 4 ∧ s26.1 95 4 ≤ 300 := iv_r95_4 hI27
    exact hQ (s26.1 95 4) s26 hI27 fr31 (show (-1 : Int) ≤ s26.1 95 4 ∧ s26.1 95 4 ≤ (300 : Int) from by omega)
  · skip
    replace c2 : ¬ ((s.1 95 4) + 20 ≤ 300) := c2
    exact hQ (-1) s hI (lf_fq_rf) (show (-1 : Int) ≤ (-1) ∧ (-1) ≤ (300 : Int) from by omega)
-- fm_27 ElevenBullocks.end 0 i
theorem sm_27 {a1 : Int} {Q : Int → lf_Z → Prop} {s : lf_Z} (hI : iv_A s.1 s.2.2) (ba1 : (-2147483648) ≤ a1 ∧ a1 ≤ 2147483647) (hQ : ∀ (r : Int) (s' : lf_Z), iv_A s'.1 s'.2.2 → lf_fq [31] 1000000 true s.1 s.2.2 s'.1 s'.2.2 → ((-1) ≤ r ∧ r ≤ 300) → Q r s') : fm_27 a1 Q s := by
  unfold fm_27
  have b1 : 0 ≤ s.1 31 1 ∧ s.1 31 1 ≤ 300 := iv_r31_1 hI
  refine sm_15 hI (show (-2147483648 : Int) ≤ a1 ∧ a1 ≤ (2147483647 : Int) from by omega) (show (-1 : Int) ≤ 0 ∧ 0 ≤ (99 : Int) from by omega) (show (-2147483648 : Int) ≤ s.1 31 1 ∧ s.1 31 1 ≤ (2147483647 : Int) from by omega) (fun z22 q2 => ?_)
  refine ⟨fun c3 => ?_, fun c3 => ?_⟩
  · skip
    have dc3 := q2.1 c3
    have hI4 : iv_A (lf_up s.1 31 1 a1) s.2.2 := iv_w31_1 hI (by omega)
    have fr5 : lf_fq [31] 1000000 true s.1 s.2.2 (lf_up s.1 31 1 a1) s.2.2 := lf_fq_up (lf_fq_rf) rfl (fun h => absurd h (by decide))
    exact hQ a1 (lf_up s.1 31 1 a1, s.2.1, s.2.2) hI4 fr5 (show (-1 : Int) ≤ a1 ∧ a1 ≤ (300 : Int) from by omega)
  · skip
    have dc3 := q2.2 c3
    exact hQ (-1) s hI (lf_fq_rf) (show (-1 : Int) ≤ (-1) ∧ (-1) ≤ (300 : Int) from by omega)
-- fm_194 Model.end 95 i
theorem sm_194 {a1 : Int} {Q : Int → lf_Z → Prop} {s : lf_Z} (hI : iv_A s.1 s.2.2) (ba1 : (-2147483648) ≤ a1 ∧ a1 ≤ 2147483647) (hQ : ∀ (r : Int) (s' : lf_Z), iv_A s'.1 s'.2.2 → lf_fq [95] 1000000 true s.1 s.2.2 s'.1 s'.2.2 → ((-1) ≤ r ∧ r ≤ 300) → Q r s') : fm_194 a1 Q s := by
  unfold fm_194
  have b1 : 0 ≤ s.1 95 4 ∧ s.1 95 4 ≤ 300 := iv_r95_4 hI
  refine sm_183 hI (show (-2147483648 : Int) ≤ a1 ∧ a1 ≤ (2147483647 : Int) from by omega) (show (-1 : Int) ≤ 0 ∧ 0 ≤ (97 : Int) from by omega) (show (-1 : Int) ≤ s.1 95 4 ∧ s.1 95 4 ≤ (9999 : Int) from by omega) (fun z22 q2 => ?_)
  refine ⟨fun c3 => ?_, fun c3 => ?_⟩
  · skip
    have dc3 := q2.1 c3
    have hI4 : iv_A (lf_up s.1 95 4 a1) s.2.2 := iv_w95_4 hI (by omega)
    have fr5 : lf_fq [95] 1000000 true s.1 s.2.2 (lf_up s.1 95 4 a1) s.2.2 := lf_fq_up (lf_fq_rf) rfl (fun h => absurd h (by decide))
    exact hQ a1 (lf_up s.1 95 4 a1, s.2.1, s.2.2) hI4 fr5 (show (-1 : Int) ≤ a1 ∧ a1 ≤ (300 : Int) from by omega)
  · skip
    have dc3 := q2.2 c3
    exact hQ (-1) s hI (lf_fq_rf) (show (-1 : Int) ≤ (-1) ∧ (-1) ≤ (300 : Int) from by omega)
-- fm_30 Script.clear t
theorem sm_30 {t0 : Nat} {Q : lf_Z → Prop} {s : lf_Z} (htt0 : t0 < 4) (hI : iv_A s.1 s.2.2) (hQ : ∀  (s' : lf_Z), iv_A s'.1 s'.2.2 → lf_fq [35, 37, 42, 44, 49, 51, 56, 58] 1000000 true s.1 s.2.2 s'.1 s'.2.2 → Q  s') : fm_30 t0 Q s := by
  unfold fm_30
  have hI1 : iv_A (lf_up s.1 (35 + 7 * t0) 1 0) s.2.2 := iv_wT_1 hI htt0 (by omega)
  have fr2 : lf_fq [35, 37, 42, 44, 49, 51, 56, 58] 1000000 true s.1 s.2.2 (lf_up s.1 (35 + 7 * t0) 1 0) s.2.2 := lf_fq_upT (lf_fq_rf) htt0 rfl (by decide)
  have hI3 : iv_A (lf_up (lf_up s.1 (35 + 7 * t0) 1 0) (35 + 7 * t0) 7 0) s.2.2 := iv_wT_7 hI1 htt0 (by omega)
  have fr4 : lf_fq [35, 37, 42, 44, 49, 51, 56, 58] 1000000 true s.1 s.2.2 (lf_up (lf_up s.1 (35 + 7 * t0) 1 0) (35 + 7 * t0) 7 0) s.2.2 := lf_fq_upT fr2 htt0 rfl (by decide)
  have hI5 : iv_A (lf_fl (lf_up (lf_up s.1 (35 + 7 * t0) 1 0) (35 + 7 * t0) 7 0) (37 + 7 * t0) 3 (-1)) s.2.2 := iv_flT37 hI3 htt0 (by omega)
  have fr6 : lf_fq [35, 37, 42, 44, 49, 51, 56, 58] 1000000 true s.1 s.2.2 (lf_fl (lf_up (lf_up s.1 (35 + 7 * t0) 1 0) (35 + 7 * t0) 7 0) (37 + 7 * t0) 3 (-1)) s.2.2 := lf_fq_flT fr4 htt0 rfl (by decide)
  exact hQ (lf_fl (lf_up (lf_up s.1 (35 + 7 * t0) 1 0) (35 + 7 * t0) 7 0) (37 + 7 * t0) 3 (-1), s.2.1, s.2.2) hI5 fr6
-- fm_32 Reader.isDigit i
theorem sm_32 {a0 : Int} {Q : Bool → lf_Z → Prop} {s : lf_Z} (hI : iv_A s.1 s.2.2) (ba0 : 0 ≤ a0 ∧ a0 ≤ 255) (hQ : ∀ (z : Bool), Q z s) : fm_32 a0 Q s := by
  unfold fm_32
  refine ⟨(show lf_R a0 from lf_Rof (by omega)), ?_⟩
  refine ⟨fun c1 => ?_, fun c1 => ?_⟩
  · skip
    replace c1 : a0 < 48 := c1
    exact hQ false
  · skip
    replace c1 : ¬ (a0 < 48) := c1
    refine ⟨fun c2 => ?_, fun c2 => ?_⟩
    · skip
      replace c2 : 57 < a0 := c2
      exact hQ false
    · skip
      replace c2 : ¬ (57 < a0) := c2
      exact hQ true
-- fm_34 Reader.isLetter i
theorem sm_34_p12 {Q : Bool → lf_Z → Prop} {x0 : Int} {s : lf_Z} (hQ : ∀ (z : Bool), Q z s) (hI : iv_A s.1 s.2.2) (bx0 : 0 ≤ x0 ∧ x0 ≤ 255) : fm_34_p12 Q x0 s := by
  unfold fm_34_p12
  refine ⟨(show lf_R x0 from lf_Rof (by omega)), ?_⟩
  refine ⟨fun c2 => ?_, fun c2 => ?_⟩
  · skip
    replace c2 : x0 < 65 := c2
    exact hQ false
  · skip
    replace c2 : ¬ (x0 < 65) := c2
    refine ⟨fun c3 => ?_, fun c3 => ?_⟩
    · skip
      replace c3 : 90 < x0 := c3
      exact hQ false
    · skip
      replace c3 : ¬ (90 < x0) := c3
      exact hQ true
theorem sm_34 {a0 : Int} {Q : Bool → lf_Z → Prop} {s : lf_Z} (hI : iv_A s.1 s.2.2) (ba0 : 0 ≤ a0 ∧ a0 ≤ 255) (hQ : ∀ (z : Bool), Q z s) : fm_34 a0 Q s := by
  unfold fm_34
  refine ⟨(show lf_R a0 from lf_Rof (by omega)), ?_⟩
  refine ⟨fun c1 => ?_, fun c1 => ?_⟩
  · skip
    replace c1 : a0 < 97 := c1
    exact sm_34_p12 hQ hI (show (0 : Int) ≤ a0 ∧ a0 ≤ (255 : Int) from by omega)
  · skip
    replace c1 : ¬ (a0 < 97) := c1
    refine ⟨fun c4 => ?_, fun c4 => ?_⟩
    · skip
      replace c4 : a0 ≤ 122 := c4
      exact hQ true
    · skip
      replace c4 : ¬ (a0 ≤ 122) := c4
      exact sm_34_p12 hQ hI (show (0 : Int) ≤ a0 ∧ a0 ≤ (255 : Int) from by omega)
-- fm_37 Reader.scanSign 31 i
theorem sm_37_p311 {Q : lf_Z → Prop} {s : lf_Z} (hQ : ∀  (s' : lf_Z), iv_A s'.1 s'.2.2 → lf_fq [31] 1000000 true s.1 s.2.2 s'.1 s'.2.2 → Q  s') (hI : iv_A s.1 s.2.2) : fm_37_p311 Q s := by
  unfold fm_37_p311
  have hI10 : iv_A (lf_up s.1 31 8 1) s.2.2 := iv_w31_8 hI (by omega)
  have fr11 : lf_fq [31] 1000000 true s.1 s.2.2 (lf_up s.1 31 8 1) s.2.2 := lf_fq_up (lf_fq_rf) rfl (fun h => absurd h (by decide))
  exact hQ (lf_up s.1 31 8 1, s.2.1, s.2.2) hI10 fr11
theorem sm_37_p206 {Q : lf_Z → Prop} {y1 : Int} {s : lf_Z} (hQ : ∀  (s' : lf_Z), iv_A s'.1 s'.2.2 → lf_fq [31] 1000000 true s.1 s.2.2 s'.1 s'.2.2 → Q  s') (hI : iv_A s.1 s.2.2) (by1 : 4 ≤ y1 ∧ y1 ≤ 5) : fm_37_p206 Q y1 s := by
  unfold fm_37_p206
  have hI29 : iv_A (lf_up s.1 31 8 y1) s.2.2 := iv_w31_8 hI (by omega)
  have fr30 : lf_fq [31] 1000000 true s.1 s.2.2 (lf_up s.1 31 8 y1) s.2.2 := lf_fq_up (lf_fq_rf) rfl (fun h => absurd h (by decide))
  exact hQ (lf_up s.1 31 8 y1, s.2.1, s.2.2) hI29 fr30
theorem sm_37_p224 {Q : lf_Z → Prop} {y1 : Int} {s : lf_Z} (hQ : ∀  (s' : lf_Z), iv_A s'.1 s'.2.2 → lf_fq [31] 1000000 true s.1 s.2.2 s'.1 s'.2.2 → Q  s') (hI : iv_A s.1 s.2.2) (by1 : 6 ≤ y1 ∧ y1 ≤ 7) : fm_37_p224 Q y1 s := by
  unfold fm_37_p224
  have hI34 : iv_A (lf_up s.1 31 8 y1) s.2.2 := iv_w31_8 hI (by omega)
  have fr35 : lf_fq [31] 1000000 true s.1 s.2.2 (lf_up s.1 31 8 y1) s.2.2 := lf_fq_up (lf_fq_rf) rfl (fun h => absurd h (by decide))
  exact hQ (lf_up s.1 31 8 y1, s.2.1, s.2.2) hI34 fr35
theorem sm_37_p67 {Q : lf_Z → Prop} {x1 : Int} {x2 : Int} {s : lf_Z} (hQ : ∀  (s' : lf_Z), iv_A s'.1 s'.2.2 → lf_fq [31] 1000000 true s.1 s.2.2 s'.1 s'.2.2 → Q  s') (hI : iv_A s.1 s.2.2) (bx1 : 0 ≤ x1 ∧ x1 ≤ 255) (bx2 : 0 ≤ x2 ∧ x2 ≤ 1) : fm_37_p67 Q x1 x2 s := by
  unfold fm_37_p67
  refine ⟨(show lf_R x1 from lf_Rof (by omega)), ?_⟩
  refine ⟨fun c9 => ?_, fun c9 => ?_, fun c9 => ?_, fun c9 => ?_, fun c9 => ?_, fun c9 => ?_, fun c9 => ?_, fun c9 => ?_, fun c9 => ?_, fun c9 => ?_, fun c9 => ?_, fun c9 => ?_, fun c9 => ?_, fun c9 => ?_, fun c9 => ?_, fun c9 => ?_, fun c9 => ?_, fun c9 => ?_, fun c9 => ?_, fun c9 => ?_, fun c9 => ?_, fun c9 => ?_, fun c9 => ?_, fun c9 => ?_, fun c9 => ?_, fun c9 => ?_, fun c9 => ?_, fun c9 => ?_, fun c9 => ?_⟩
  · replace c9 : x1 < 35 ∨ 62 < x1 := c9
    exact sm_37_p311 hQ hI
  · replace c9 : x1 = 35 := c9
    have hI12 : iv_A (lf_up s.1 31 8 9) s.2.2 := iv_w31_8 hI (by omega)
    have fr13 : lf_fq [31] 1000000 true s.1 s.2.2 (lf_up s.1 31 8 9) s.2.2 := lf_fq_up (lf_fq_rf) rfl (fun h => absurd h (by decide))
    exact hQ (lf_up s.1 31 8 9, s.2.1, s.2.2) hI12 fr13
  · replace c9 : x1 = 36 := c9
    exact sm_37_p311 hQ hI
  · replace c9 : x1 = 37 := c9
    exact sm_37_p311 hQ hI
  · replace c9 : x1 = 38 := c9
    exact sm_37_p311 hQ hI
  · replace c9 : x1 = 39 := c9
    exact sm_37_p311 hQ hI
  · replace c9 : x1 = 40 := c9
    have hI14 : iv_A (lf_up s.1 31 8 14) s.2.2 := iv_w31_8 hI (by omega)
    have fr15 : lf_fq [31] 1000000 true s.1 s.2.2 (lf_up s.1 31 8 14) s.2.2 := lf_fq_up (lf_fq_rf) rfl (fun h => absurd h (by decide))
    exact hQ (lf_up s.1 31 8 14, s.2.1, s.2.2) hI14 fr15
  · replace c9 : x1 = 41 := c9
    have hI16 : iv_A (lf_up s.1 31 8 15) s.2.2 := iv_w31_8 hI (by omega)
    have fr17 : lf_fq [31] 1000000 true s.1 s.2.2 (lf_up s.1 31 8 15) s.2.2 := lf_fq_up (lf_fq_rf) rfl (fun h => absurd h (by decide))
    exact hQ (lf_up s.1 31 8 15, s.2.1, s.2.2) hI16 fr17
  · replace c9 : x1 = 42 := c9
    have hI18 : iv_A (lf_up s.1 31 8 12) s.2.2 := iv_w31_8 hI (by omega)
    have fr19 : lf_fq [31] 1000000 true s.1 s.2.2 (lf_up s.1 31 8 12) s.2.2 := lf_fq_up (lf_fq_rf) rfl (fun h => absurd h (by decide))
    exact hQ (lf_up s.1 31 8 12, s.2.1, s.2.2) hI18 fr19
  · replace c9 : x1 = 43 := c9
    have hI20 : iv_A (lf_up s.1 31 8 10) s.2.2 := iv_w31_8 hI (by omega)
    have fr21 : lf_fq [31] 1000000 true s.1 s.2.2 (lf_up s.1 31 8 10) s.2.2 := lf_fq_up (lf_fq_rf) rfl (fun h => absurd h (by decide))
    exact hQ (lf_up s.1 31 8 10, s.2.1, s.2.2) hI20 fr21
  · replace c9 : x1 = 44 := c9
    exact sm_37_p311 hQ hI
  · replace c9 : x1 = 45 := c9
    have hI22 : iv_A (lf_up s.1 31 8 11) s.2.2 := iv_w31_8 hI (by omega)
    have fr23 : lf_fq [31] 1000000 true s.1 s.2.2 (lf_up s.1 31 8 11) s.2.2 := lf_fq_up (lf_fq_rf) rfl (fun h => absurd h (by decide))
    exact hQ (lf_up s.1 31 8 11, s.2.1, s.2.2) hI22 fr23
  · replace c9 : x1 = 46 := c9
    exact sm_37_p311 hQ hI
  · replace c9 : x1 = 47 := c9
    have hI24 : iv_A (lf_up s.1 31 8 13) s.2.2 := iv_w31_8 hI (by omega)
    have fr25 : lf_fq [31] 1000000 true s.1 s.2.2 (lf_up s.1 31 8 13) s.2.2 := lf_fq_up (lf_fq_rf) rfl (fun h => absurd h (by decide))
    exact hQ (lf_up s.1 31 8 13, s.2.1, s.2.2) hI24 fr25
  · replace c9 : x1 = 48 := c9
    exact sm_37_p311 hQ hI
  · replace c9 : x1 = 49 := c9
    exact sm_37_p311 hQ hI
  · replace c9 : x1 = 50 := c9
    exact sm_37_p311 hQ hI
  · replace c9 : x1 = 51 := c9
    exact sm_37_p311 hQ hI
  · replace c9 : x1 = 52 := c9
    exact sm_37_p311 hQ hI
  · replace c9 : x1 = 53 := c9
    exact sm_37_p311 hQ hI
  · replace c9 : x1 = 54 := c9
    exact sm_37_p311 hQ hI
  · replace c9 : x1 = 55 := c9
    exact sm_37_p311 hQ hI
  · replace c9 : x1 = 56 := c9
    exact sm_37_p311 hQ hI
  · replace c9 : x1 = 57 := c9
    exact sm_37_p311 hQ hI
  · replace c9 : x1 = 58 := c9
    exact sm_37_p311 hQ hI
  · replace c9 : x1 = 59 := c9
    have hI26 : iv_A (lf_up s.1 31 8 16) s.2.2 := iv_w31_8 hI (by omega)
    have fr27 : lf_fq [31] 1000000 true s.1 s.2.2 (lf_up s.1 31 8 16) s.2.2 := lf_fq_up (lf_fq_rf) rfl (fun h => absurd h (by decide))
    exact hQ (lf_up s.1 31 8 16, s.2.1, s.2.2) hI26 fr27
  · replace c9 : x1 = 60 := c9
    refine ⟨(show lf_R x2 from lf_Rof (by omega)), ?_⟩
    refine ⟨fun c28 => ?_, fun c28 => ?_⟩
    · skip
      replace c28 : x2 = 0 := c28
      exact sm_37_p206 hQ hI (show (4 : Int) ≤ 4 ∧ 4 ≤ (5 : Int) from by omega)
    · skip
      replace c28 : ¬ (x2 = 0) := c28
      exact sm_37_p206 hQ hI (show (4 : Int) ≤ 5 ∧ 5 ≤ (5 : Int) from by omega)
  · replace c9 : x1 = 61 := c9
    have hI31 : iv_A (lf_up s.1 31 8 8) s.2.2 := iv_w31_8 hI (by omega)
    have fr32 : lf_fq [31] 1000000 true s.1 s.2.2 (lf_up s.1 31 8 8) s.2.2 := lf_fq_up (lf_fq_rf) rfl (fun h => absurd h (by decide))
    exact hQ (lf_up s.1 31 8 8, s.2.1, s.2.2) hI31 fr32
  · replace c9 : x1 = 62 := c9
    refine ⟨(show lf_R x2 from lf_Rof (by omega)), ?_⟩
    refine ⟨fun c33 => ?_, fun c33 => ?_⟩
    · skip
      replace c33 : x2 = 0 := c33
      exact sm_37_p224 hQ hI (show (6 : Int) ≤ 6 ∧ 6 ≤ (7 : Int) from by omega)
    · skip
      replace c33 : ¬ (x2 = 0) := c33
      exact sm_37_p224 hQ hI (show (6 : Int) ≤ 7 ∧ 7 ≤ (7 : Int) from by omega)
theorem sm_37_p52 {Q : lf_Z → Prop} {x1 : Int} {y0 : Int} {s : lf_Z} (hQ : ∀  (s' : lf_Z), iv_A s'.1 s'.2.2 → lf_fq [31] 1000000 true s.1 s.2.2 s'.1 s'.2.2 → Q  s') (hI : iv_A s.1 s.2.2) (bx1 : 0 ≤ x1 ∧ x1 ≤ 255) (by0 : 0 ≤ y0 ∧ y0 ≤ 1) (kv0 : y0 = 0 ∨ s.1 31 7 < 300) : fm_37_p52 Q x1 y0 s := by
  unfold fm_37_p52
  refine ⟨(show lf_R y0 from lf_Rof (by omega)), ?_⟩
  refine ⟨fun c8 => ?_, fun c8 => ?_⟩
  · skip
    replace c8 : y0 = 0 := c8
    exact sm_37_p67 hQ hI (show (0 : Int) ≤ x1 ∧ x1 ≤ (255 : Int) from by omega) (show (0 : Int) ≤ y0 ∧ y0 ≤ (1 : Int) from by omega)
  · skip
    replace c8 : ¬ (y0 = 0) := c8
    have b36 : 0 ≤ s.1 31 7 ∧ s.1 31 7 ≤ 300 := iv_r31_7 hI
    have hI37 : iv_A (lf_up s.1 31 7 ((s.1 31 7) + 1)) s.2.2 := iv_w31_7 hI (by omega)
    have fr38 : lf_fq [31] 1000000 true s.1 s.2.2 (lf_up s.1 31 7 ((s.1 31 7) + 1)) s.2.2 := lf_fq_up (lf_fq_rf) rfl (fun h => absurd h (by decide))
    exact sm_37_p67 (fun t9 i9 f9 => hQ t9 i9 (lf_fq_tr fr38 f9)) hI37 (show (0 : Int) ≤ x1 ∧ x1 ≤ (255 : Int) from by omega) (show (0 : Int) ≤ y0 ∧ y0 ≤ (1 : Int) from by omega)
theorem sm_37_p51 {Q : lf_Z → Prop} {x1 : Int} {s : lf_Z} (hQ : ∀  (s' : lf_Z), iv_A s'.1 s'.2.2 → lf_fq [31] 1000000 true s.1 s.2.2 s'.1 s'.2.2 → Q  s') (hI : iv_A s.1 s.2.2) (bx1 : 0 ≤ x1 ∧ x1 ≤ 255) : fm_37_p51 Q x1 s := by
  unfold fm_37_p51
  have b7 : 0 ≤ s.1 31 7 ∧ s.1 31 7 ≤ 300 := iv_r31_7 hI
  exact sm_37_p52 hQ hI (show (0 : Int) ≤ x1 ∧ x1 ≤ (255 : Int) from by omega) (show (0 : Int) ≤ 0 ∧ 0 ≤ (1 : Int) from by omega) (show 0 = 0 ∨ (s.1 31 7) < 300 from by omega)
theorem sm_37_p47 {Q : lf_Z → Prop} {x1 : Int} {s : lf_Z} (hQ : ∀  (s' : lf_Z), iv_A s'.1 s'.2.2 → lf_fq [31] 1000000 true s.1 s.2.2 s'.1 s'.2.2 → Q  s') (hI : iv_A s.1 s.2.2) (bx1 : 60 ≤ x1 ∧ x1 ≤ 62) (kv0 : s.1 31 7 < 300) : fm_37_p47 Q x1 s := by
  unfold fm_37_p47
  have b42 : 0 ≤ s.1 31 7 ∧ s.1 31 7 ≤ 300 := iv_r31_7 hI
  exact sm_37_p52 hQ hI (show (0 : Int) ≤ x1 ∧ x1 ≤ (255 : Int) from by omega) (show (0 : Int) ≤ 1 ∧ 1 ≤ (1 : Int) from by omega) (show 1 = 0 ∨ (s.1 31 7) < 300 from by omega)
theorem sm_37 {a1 : Int} {Q : lf_Z → Prop} {s : lf_Z} (hI : iv_A s.1 s.2.2) (ba1 : 0 ≤ a1 ∧ a1 ≤ 255) (kp0 : s.1 31 7 < 300) (hQ : ∀  (s' : lf_Z), iv_A s'.1 s'.2.2 → lf_fq [31] 1000000 true s.1 s.2.2 s'.1 s'.2.2 → Q  s') : fm_37 a1 Q s := by
  unfold fm_37
  have b1 : 0 ≤ s.1 31 7 ∧ s.1 31 7 ≤ 300 := iv_r31_7 hI
  have hI2 : iv_A (lf_up s.1 31 7 ((s.1 31 7) + 1)) s.2.2 := iv_w31_7 hI (by omega)
  have fr3 : lf_fq [31] 1000000 true s.1 s.2.2 (lf_up s.1 31 7 ((s.1 31 7) + 1)) s.2.2 := lf_fq_up (lf_fq_rf) rfl (fun h => absurd h (by decide))
  have b4 : 0 ≤ s.1 31 1 ∧ s.1 31 1 ≤ 300 := (show 0 ≤ (lf_up s.1 31 7 ((s.1 31 7) + 1)) 31 1 ∧ (lf_up s.1 31 7 ((s.1 31 7) + 1)) 31 1 ≤ 300 from iv_r31_1 hI2)
  have b5 : (lf_up s.1 31 7 ((s.1 31 7) + 1)) 31 1 = s.1 31 1 := lf_up_i (by omega)
  refine ⟨(show lf_R ((s.1 31 7) + 1) from lf_Rof (by omega)), ?_⟩
  refine ⟨(show lf_R (s.1 31 1) from lf_Rof (by omega)), ?_⟩
  refine ⟨fun c6 => ?_, fun c6 => ?_⟩
  · skip
    replace c6 : s.1 31 1 ≤ (s.1 31 7) + 1 := c6
    exact sm_37_p51 (fun t9 i9 f9 => hQ t9 i9 (lf_fq_tr fr3 f9)) hI2 (show (0 : Int) ≤ a1 ∧ a1 ≤ (255 : Int) from by omega)
  · skip
    replace c6 : ¬ (s.1 31 1 ≤ (s.1 31 7) + 1) := c6
    refine ⟨(show (0 : Int) ≤ (s.1 31 7) + 1 ∧ (s.1 31 7) + 1 < (300 : Int) from by omega), ?_⟩
    have b39 : 0 ≤ s.1 32 ((s.1 31 7) + 1) ∧ s.1 32 ((s.1 31 7) + 1) ≤ 255 := (show 0 ≤ (lf_up s.1 31 7 ((s.1 31 7) + 1)) 32 ((s.1 31 7) + 1) ∧ (lf_up s.1 31 7 ((s.1 31 7) + 1)) 32 ((s.1 31 7) + 1) ≤ 255 from iv_r32 hI2 _)
    refine ⟨(show lf_R (s.1 32 ((s.1 31 7) + 1)) from lf_Rof (by omega)), ?_⟩
    refine ⟨fun c40 => ?_, fun c40 => ?_⟩
    · skip
      replace c40 : s.1 32 ((s.1 31 7) + 1) ≠ 61 := c40
      exact sm_37_p51 (fun t9 i9 f9 => hQ t9 i9 (lf_fq_tr fr3 f9)) hI2 (show (0 : Int) ≤ a1 ∧ a1 ≤ (255 : Int) from by omega)
    · skip
      replace c40 : ¬ (s.1 32 ((s.1 31 7) + 1) ≠ 61) := c40
      refine ⟨(show lf_R a1 from lf_Rof (by omega)), ?_⟩
      refine ⟨fun c41 => ?_, fun c41 => ?_⟩
      · skip
        replace c41 : a1 = 60 := c41
        exact sm_37_p47 (fun t9 i9 f9 => hQ t9 i9 (lf_fq_tr fr3 f9)) hI2 (show (60 : Int) ≤ a1 ∧ a1 ≤ (62 : Int) from by omega) (show ((s.1 31 7) + 1) < 300 from by omega)
      · skip
        replace c41 : ¬ (a1 = 60) := c41
        refine ⟨fun c43 => ?_, fun c43 => ?_⟩
        · skip
          replace c43 : a1 ≠ 62 := c43
          exact sm_37_p51 (fun t9 i9 f9 => hQ t9 i9 (lf_fq_tr fr3 f9)) hI2 (show (0 : Int) ≤ a1 ∧ a1 ≤ (255 : Int) from by omega)
        · skip
          replace c43 : ¬ (a1 ≠ 62) := c43
          exact sm_37_p47 (fun t9 i9 f9 => hQ t9 i9 (lf_fq_tr fr3 f9)) hI2 (show (60 : Int) ≤ a1 ∧ a1 ≤ (62 : Int) from by omega) (show ((s.1 31 7) + 1) < 300 from by omega)
-- fm_36 Reader.wordOf 31
theorem sm_36_p98 {X13 : Int → Int → Int → Int → lf_Z → Prop} {Q : Int → lf_Z → Prop} {x1 : Int} {x2 : Int} {x3 : Int} {x4 : Int} {s : lf_Z} (hQ : ∀ (r : Int), (1 ≤ r ∧ r ≤ 200) → Q r s) {M13 : Nat} (hX13 : ∀ (x1 : Int) (x2 : Int) (x3 : Int) (x4 : Int), 20 ≤ x1 ∧ x1 ≤ 200 → 0 ≤ x2 ∧ x2 ≤ 480 → 0 ≤ x3 ∧ x3 ≤ 1 → 0 ≤ x4 ∧ x4 ≤ 180 → (x1 ≤ 20 + x4) → (x2 ≤ 300 + x4) → (180 - x4).toNat < M13 → X13 x1 x2 x3 x4 s) (hM13 : (180 - x4).toNat ≤ M13) (hI : iv_A s.1 s.2.2) (bx1 : 20 ≤ x1 ∧ x1 ≤ 200) (bx2 : 0 ≤ x2 ∧ x2 ≤ 480) (bx3 : 0 ≤ x3 ∧ x3 ≤ 1) (bx4 : 0 ≤ x4 ∧ x4 ≤ 179) (kv0 : x1 ≤ 21 + x4) (kv1 : x2 ≤ 301 + x4) : fm_36_p98 X13 Q x1 x2 x3 x4 s := by
  unfold fm_36_p98
  exact hX13 (x1) (x2) (x3) (x4 + 1) (show (20 : Int) ≤ x1 ∧ x1 ≤ (200 : Int) from by omega) (show (0 : Int) ≤ x2 ∧ x2 ≤ (480 : Int) from by omega) (show (0 : Int) ≤ x3 ∧ x3 ≤ (1 : Int) from by omega) (show (0 : Int) ≤ x4 + 1 ∧ x4 + 1 ≤ (180 : Int) from by omega) (show x1 ≤ 20 + (x4 + 1) from by omega) (show x2 ≤ 300 + (x4 + 1) from by omega) (show (180 - (x4 + 1)).toNat < M13 from by omega)
theorem sm_36_p88 {X13 : Int → Int → Int → Int → lf_Z → Prop} {Q : Int → lf_Z → Prop} {x1 : Int} {x4 : Int} {s : lf_Z} (hQ : ∀ (r : Int), (1 ≤ r ∧ r ≤ 200) → Q r s) {M13 : Nat} (hX13 : ∀ (x1 : Int) (x2 : Int) (x3 : Int) (x4 : Int), 20 ≤ x1 ∧ x1 ≤ 200 → 0 ≤ x2 ∧ x2 ≤ 480 → 0 ≤ x3 ∧ x3 ≤ 1 → 0 ≤ x4 ∧ x4 ≤ 180 → (x1 ≤ 20 + x4) → (x2 ≤ 300 + x4) → (180 - x4).toNat < M13 → X13 x1 x2 x3 x4 s) (hM13 : (180 - x4).toNat ≤ M13) (hI : iv_A s.1 s.2.2) (bx1 : 20 ≤ x1 ∧ x1 ≤ 199) (bx4 : 0 ≤ x4 ∧ x4 ≤ 179) (kv0 : x1 ≤ 20 + x4) : fm_36_p88 X13 Q x1 x4 s := by
  unfold fm_36_p88
  have b6 : 0 ≤ s.1 31 9 ∧ s.1 31 9 ≤ 300 := iv_r31_9 hI
  exact sm_36_p98 hQ hX13 (show (180 - x4).toNat ≤ M13 from by omega) hI (show (20 : Int) ≤ x1 + 1 ∧ x1 + 1 ≤ (200 : Int) from by omega) (show (0 : Int) ≤ s.1 31 9 ∧ s.1 31 9 ≤ (480 : Int) from by omega) (show (0 : Int) ≤ 1 ∧ 1 ≤ (1 : Int) from by omega) (show (0 : Int) ≤ x4 ∧ x4 ≤ (179 : Int) from by omega) (show (x1 + 1) ≤ 21 + x4 from by omega) (show (s.1 31 9) ≤ 301 + x4 from by omega)
theorem sm_36_p67 {X13 : Int → Int → Int → Int → lf_Z → Prop} {Q : Int → lf_Z → Prop} {x1 : Int} {x2 : Int} {x4 : Int} {y0 : Int} {s : lf_Z} (hQ : ∀ (r : Int), (1 ≤ r ∧ r ≤ 200) → Q r s) {M13 : Nat} (hX13 : ∀ (x1 : Int) (x2 : Int) (x3 : Int) (x4 : Int), 20 ≤ x1 ∧ x1 ≤ 200 → 0 ≤ x2 ∧ x2 ≤ 480 → 0 ≤ x3 ∧ x3 ≤ 1 → 0 ≤ x4 ∧ x4 ≤ 180 → (x1 ≤ 20 + x4) → (x2 ≤ 300 + x4) → (180 - x4).toNat < M13 → X13 x1 x2 x3 x4 s) (hM13 : (180 - x4).toNat ≤ M13) (hI : iv_A s.1 s.2.2) (bx1 : 20 ≤ x1 ∧ x1 ≤ 199) (bx2 : 0 ≤ x2 ∧ x2 ≤ 479) (bx4 : 0 ≤ x4 ∧ x4 ≤ 179) (by0 : 0 ≤ y0 ∧ y0 ≤ 1) (kv0 : x1 ≤ 20 + x4) (kv1 : x2 ≤ 300 + x4) : fm_36_p67 X13 Q x1 x2 x4 y0 s := by
  unfold fm_36_p67
  exact sm_36_p98 hQ hX13 (show (180 - x4).toNat ≤ M13 from by omega) hI (show (20 : Int) ≤ x1 ∧ x1 ≤ (200 : Int) from by omega) (show (0 : Int) ≤ x2 + 1 ∧ x2 + 1 ≤ (480 : Int) from by omega) (show (0 : Int) ≤ y0 ∧ y0 ≤ (1 : Int) from by omega) (show (0 : Int) ≤ x4 ∧ x4 ≤ (179 : Int) from by omega) (show x1 ≤ 21 + x4 from by omega) (show (x2 + 1) ≤ 301 + x4 from by omega)
theorem sm_36_p66 {X13 : Int → Int → Int → Int → lf_Z → Prop} {Q : Int → lf_Z → Prop} {x1 : Int} {x2 : Int} {x4 : Int} {s : lf_Z} (hQ : ∀ (r : Int), (1 ≤ r ∧ r ≤ 200) → Q r s) {M13 : Nat} (hX13 : ∀ (x1 : Int) (x2 : Int) (x3 : Int) (x4 : Int), 20 ≤ x1 ∧ x1 ≤ 200 → 0 ≤ x2 ∧ x2 ≤ 480 → 0 ≤ x3 ∧ x3 ≤ 1 → 0 ≤ x4 ∧ x4 ≤ 180 → (x1 ≤ 20 + x4) → (x2 ≤ 300 + x4) → (180 - x4).toNat < M13 → X13 x1 x2 x3 x4 s) (hM13 : (180 - x4).toNat ≤ M13) (hI : iv_A s.1 s.2.2) (bx1 : 20 ≤ x1 ∧ x1 ≤ 199) (bx2 : 0 ≤ x2 ∧ x2 ≤ 479) (bx4 : 0 ≤ x4 ∧ x4 ≤ 179) (kv0 : x1 ≤ 20 + x4) (kv1 : x2 ≤ 300 + x4) : fm_36_p66 X13 Q x1 x2 x4 s := by
  unfold fm_36_p66
  exact sm_36_p67 hQ hX13 (show (180 - x4).toNat ≤ M13 from by omega) hI (show (20 : Int) ≤ x1 ∧ x1 ≤ (199 : Int) from by omega) (show (0 : Int) ≤ x2 ∧ x2 ≤ (479 : Int) from by omega) (show (0 : Int) ≤ x4 ∧ x4 ≤ (179 : Int) from by omega) (show (0 : Int) ≤ 0 ∧ 0 ≤ (1 : Int) from by omega) (show x1 ≤ 20 + x4 from by omega) (show x2 ≤ 300 + x4 from by omega)
theorem sm_36_p13 {X13 : Int → Int → Int → Int → lf_Z → Prop} {Q : Int → lf_Z → Prop} {x1 : Int} {x2 : Int} {x3 : Int} {x4 : Int} {s : lf_Z} (hQ : ∀ (r : Int), (1 ≤ r ∧ r ≤ 200) → Q r s) {M13 : Nat} (hX13 : ∀ (x1 : Int) (x2 : Int) (x3 : Int) (x4 : Int), 20 ≤ x1 ∧ x1 ≤ 200 → 0 ≤ x2 ∧ x2 ≤ 480 → 0 ≤ x3 ∧ x3 ≤ 1 → 0 ≤ x4 ∧ x4 ≤ 180 → (x1 ≤ 20 + x4) → (x2 ≤ 300 + x4) → (180 - x4).toNat < M13 → X13 x1 x2 x3 x4 s) (hM13 : (180 - x4).toNat ≤ M13) (hI : iv_A s.1 s.2.2) (bx1 : 20 ≤ x1 ∧ x1 ≤ 200) (bx2 : 0 ≤ x2 ∧ x2 ≤ 480) (bx3 : 0 ≤ x3 ∧ x3 ≤ 1) (bx4 : 0 ≤ x4 ∧ x4 ≤ 180) (kv0 : x1 ≤ 20 + x4) (kv1 : x2 ≤ 300 + x4) : fm_36_p13 Q X13 x1 x2 x3 x4 s := by
  unfold fm_36_p13
  refine ⟨(show lf_R x4 from lf_Rof (by omega)), ?_⟩
  refine ⟨fun c2 => ?_, fun c2 => ?_⟩
  · skip
    replace c2 : 180 ≤ x4 := c2
    exact hQ 1 (show (1 : Int) ≤ 1 ∧ 1 ≤ (200 : Int) from by omega)
  · skip
    replace c2 : ¬ (180 ≤ x4) := c2
    refine ⟨(show (0 : Int) ≤ x4 ∧ x4 < (180 : Int) from by omega), ?_⟩
    have b3 : (-2147483648) ≤ (ps_byt.getD (x4).toNat 0).toInt ∧ (ps_byt.getD (x4).toNat 0).toInt ≤ 2147483647 := lf_R_i _
    refine ⟨fun c4 => ?_, fun c4 => ?_⟩
    · skip
      replace c4 : (ps_byt.getD (x4).toNat 0).toInt = 32 := c4
      refine ⟨(show lf_R x3 from lf_Rof (by omega)), ?_⟩
      refine ⟨fun c5 => ?_, fun c5 => ?_⟩
      · skip
        replace c5 : x3 = 0 := c5
        exact sm_36_p88 hQ hX13 (show (180 - x4).toNat ≤ M13 from by omega) hI (show (20 : Int) ≤ x1 ∧ x1 ≤ (199 : Int) from by omega) (show (0 : Int) ≤ x4 ∧ x4 ≤ (179 : Int) from by omega) (show x1 ≤ 20 + x4 from by omega)
      · skip
        replace c5 : ¬ (x3 = 0) := c5
        have b7 : 0 ≤ s.1 31 7 ∧ s.1 31 7 ≤ 300 := iv_r31_7 hI
        refine ⟨(show lf_R x2 from lf_Rof (by omega)), ?_⟩
        refine ⟨(show lf_R (s.1 31 7) from lf_Rof (by omega)), ?_⟩
        refine ⟨fun c8 => ?_, fun c8 => ?_⟩
        · skip
          replace c8 : x2 ≠ s.1 31 7 := c8
          exact sm_36_p88 hQ hX13 (show (180 - x4).toNat ≤ M13 from by omega) hI (show (20 : Int) ≤ x1 ∧ x1 ≤ (199 : Int) from by omega) (show (0 : Int) ≤ x4 ∧ x4 ≤ (179 : Int) from by omega) (show x1 ≤ 20 + x4 from by omega)
        · skip
          replace c8 : ¬ (x2 ≠ s.1 31 7) := c8
          exact hQ x1 (show (1 : Int) ≤ x1 ∧ x1 ≤ (200 : Int) from by omega)
    · skip
      replace c4 : ¬ ((ps_byt.getD (x4).toNat 0).toInt = 32) := c4
      refine ⟨(show lf_R x3 from lf_Rof (by omega)), ?_⟩
      refine ⟨fun c9 => ?_, fun c9 => ?_⟩
      · skip
        replace c9 : x3 = 0 := c9
        exact sm_36_p66 hQ hX13 (show (180 - x4).toNat ≤ M13 from by omega) hI (show (20 : Int) ≤ x1 ∧ x1 ≤ (199 : Int) from by omega) (show (0 : Int) ≤ x2 ∧ x2 ≤ (479 : Int) from by omega) (show (0 : Int) ≤ x4 ∧ x4 ≤ (179 : Int) from by omega) (show x1 ≤ 20 + x4 from by omega) (show x2 ≤ 300 + x4 from by omega)
      · skip
        replace c9 : ¬ (x3 = 0) := c9
        have b10 : 0 ≤ s.1 31 7 ∧ s.1 31 7 ≤ 300 := iv_r31_7 hI
        refine ⟨(show lf_R x2 from lf_Rof (by omega)), ?_⟩
        refine ⟨(show lf_R (s.1 31 7) from lf_Rof (by omega)), ?_⟩
        refine ⟨fun c11 => ?_, fun c11 => ?_⟩
        · skip
          replace c11 : s.1 31 7 ≤ x2 := c11
          exact sm_36_p66 hQ hX13 (show (180 - x4).toNat ≤ M13 from by omega) hI (show (20 : Int) ≤ x1 ∧ x1 ≤ (199 : Int) from by omega) (show (0 : Int) ≤ x2 ∧ x2 ≤ (479 : Int) from by omega) (show (0 : Int) ≤ x4 ∧ x4 ≤ (179 : Int) from by omega) (show x1 ≤ 20 + x4 from by omega) (show x2 ≤ 300 + x4 from by omega)
        · skip
          replace c11 : ¬ (s.1 31 7 ≤ x2) := c11
          refine ⟨(show (0 : Int) ≤ x2 ∧ x2 < (300 : Int) from by omega), ?_⟩
          have b12 : 0 ≤ s.1 32 x2 ∧ s.1 32 x2 ≤ 255 := iv_r32 hI _
          refine ⟨(show lf_R (s.1 32 x2) from lf_Rof (by omega)), ?_⟩
          refine ⟨fun c13 => ?_, fun c13 => ?_⟩
          · skip
            replace c13 : s.1 32 x2 ≠ (ps_byt.getD (x4).toNat 0).toInt := c13
            exact sm_36_p66 hQ hX13 (show (180 - x4).toNat ≤ M13 from by omega) hI (show (20 : Int) ≤ x1 ∧ x1 ≤ (199 : Int) from by omega) (show (0 : Int) ≤ x2 ∧ x2 ≤ (479 : Int) from by omega) (show (0 : Int) ≤ x4 ∧ x4 ≤ (179 : Int) from by omega) (show x1 ≤ 20 + x4 from by omega) (show x2 ≤ 300 + x4 from by omega)
          · skip
            replace c13 : ¬ (s.1 32 x2 ≠ (ps_byt.getD (x4).toNat 0).toInt) := c13
            exact sm_36_p67 hQ hX13 (show (180 - x4).toNat ≤ M13 from by omega) hI (show (20 : Int) ≤ x1 ∧ x1 ≤ (199 : Int) from by omega) (show (0 : Int) ≤ x2 ∧ x2 ≤ (479 : Int) from by omega) (show (0 : Int) ≤ x4 ∧ x4 ≤ (179 : Int) from by omega) (show (0 : Int) ≤ 1 ∧ 1 ≤ (1 : Int) from by omega) (show x1 ≤ 20 + x4 from by omega) (show x2 ≤ 300 + x4 from by omega)
theorem sm_36_p13L {Q : Int → lf_Z → Prop} {x1 : Int} {x2 : Int} {x3 : Int} {x4 : Int} {s : lf_Z} (hQ : ∀ (r : Int), (1 ≤ r ∧ r ≤ 200) → Q r s) (hI : iv_A s.1 s.2.2) (bx1 : 20 ≤ x1 ∧ x1 ≤ 200) (bx2 : 0 ≤ x2 ∧ x2 ≤ 480) (bx3 : 0 ≤ x3 ∧ x3 ≤ 1) (bx4 : 0 ≤ x4 ∧ x4 ≤ 180) (kv0 : x1 ≤ 20 + x4) (kv1 : x2 ≤ 300 + x4) : fm_36_p13L Q x1 x2 x3 x4 s := by
  intro X13 hX
  have key : ∀ (m9 : Nat) (x1 : Int) (x2 : Int) (x3 : Int) (x4 : Int), 20 ≤ x1 ∧ x1 ≤ 200 → 0 ≤ x2 ∧ x2 ≤ 480 → 0 ≤ x3 ∧ x3 ≤ 1 → 0 ≤ x4 ∧ x4 ≤ 180 → (x1 ≤ 20 + x4) → (x2 ≤ 300 + x4) → (180 - x4).toNat < m9 → X13 x1 x2 x3 x4 s := by
    intro m9
    induction m9 with
    | zero => intro x1 x2 x3 x4 bx1 bx2 bx3 bx4 kv0 kv1 h9; exact absurd h9 (Nat.not_lt_zero _)
    | succ m9 ih => intro x1 x2 x3 x4 bx1 bx2 bx3 bx4 kv0 kv1 h9; exact hX _ _ _ _ _ (sm_36_p13 hQ   (fun x1' x2' x3' x4' bx1' bx2' bx3' bx4' kv0' kv1' h8 => ih x1' x2' x3' x4' bx1' bx2' bx3' bx4' kv0' kv1' (by omega)) (Nat.le_refl _)  hI  bx1 bx2 bx3 bx4  kv0 kv1)
  exact key _ _ _ _ _ bx1 bx2 bx3 bx4  kv0 kv1 (Nat.lt_succ_self _)
theorem sm_36 {Q : Int → lf_Z → Prop} {s : lf_Z} (hI : iv_A s.1 s.2.2) (hQ : ∀ (r : Int), (1 ≤ r ∧ r ≤ 200) → Q r s) : fm_36 Q s := by
  unfold fm_36
  have b1 : 0 ≤ s.1 31 9 ∧ s.1 31 9 ≤ 300 := iv_r31_9 hI
  exact sm_36_p13L hQ hI (show (20 : Int) ≤ 20 ∧ 20 ≤ (200 : Int) from by omega) (show (0 : Int) ≤ s.1 31 9 ∧ s.1 31 9 ≤ (480 : Int) from by omega) (show (0 : Int) ≤ 1 ∧ 1 ≤ (1 : Int) from by omega) (show (0 : Int) ≤ 0 ∧ 0 ≤ (180 : Int) from by omega) (show 20 ≤ 20 + 0 from by omega) (show (s.1 31 9) ≤ 300 + 0 from by omega)
-- fm_35 Reader.scanWord 31
theorem sm_35_p90 {Q : lf_Z → Prop} {s : lf_Z} (hQ : ∀  (s' : lf_Z), iv_A s'.1 s'.2.2 → lf_fq [31] 1000000 true s.1 s.2.2 s'.1 s'.2.2 → Q  s') (hI : iv_A s.1 s.2.2) : fm_35_p90 Q s := by
  unfold fm_35_p90
  refine sm_36 hI (fun r26 q7 => ?_)
  have hI8 : iv_A (lf_up s.1 31 8 r26) s.2.2 := iv_w31_8 hI (by omega)
  have fr9 : lf_fq [31] 1000000 true s.1 s.2.2 (lf_up s.1 31 8 r26) s.2.2 := lf_fq_up (lf_fq_rf) rfl (fun h => absurd h (by decide))
  exact hQ (lf_up s.1 31 8 r26, s.2.1, s.2.2) hI8 fr9
theorem sm_35_p39 {Q : lf_Z → Prop} {s : lf_Z} (hQ : ∀  (s' : lf_Z), iv_A s'.1 s'.2.2 → lf_fq [31] 1000000 true s.1 s.2.2 s'.1 s'.2.2 → Q  s') (hI : iv_A s.1 s.2.2) : fm_35_p39 Q s := by
  unfold fm_35_p39
  have b4 : 0 ≤ s.1 31 7 ∧ s.1 31 7 ≤ 300 := iv_r31_7 hI
  have b5 : 0 ≤ s.1 31 9 ∧ s.1 31 9 ≤ 300 := iv_r31_9 hI
  refine ⟨(show lf_R (s.1 31 7) from lf_Rof (by omega)), ?_⟩
  refine ⟨(show lf_R ((s.1 31 9) + 1) from lf_Rof (by omega)), ?_⟩
  refine ⟨fun c6 => ?_, fun c6 => ?_⟩
  · skip
    replace c6 : s.1 31 7 ≠ (s.1 31 9) + 1 := c6
    exact sm_35_p90 hQ hI
  · skip
    replace c6 : ¬ (s.1 31 7 ≠ (s.1 31 9) + 1) := c6
    refine ⟨(show (0 : Int) ≤ s.1 31 9 ∧ s.1 31 9 < (300 : Int) from by omega), ?_⟩
    have b10 : 0 ≤ s.1 32 (s.1 31 9) ∧ s.1 32 (s.1 31 9) ≤ 255 := iv_r32 hI _
    refine ⟨(show lf_R (s.1 32 (s.1 31 9)) from lf_Rof (by omega)), ?_⟩
    refine ⟨fun c11 => ?_, fun c11 => ?_⟩
    · skip
      replace c11 : s.1 32 (s.1 31 9) < 97 := c11
      exact sm_35_p90 hQ hI
    · skip
      replace c11 : ¬ (s.1 32 (s.1 31 9) < 97) := c11
      have hI12 : iv_A (lf_up s.1 31 8 3) s.2.2 := iv_w31_8 hI (by omega)
      have fr13 : lf_fq [31] 1000000 true s.1 s.2.2 (lf_up s.1 31 8 3) s.2.2 := lf_fq_up (lf_fq_rf) rfl (fun h => absurd h (by decide))
      have b14 : (lf_up s.1 31 8 3) 31 9 = s.1 31 9 := lf_up_i (by omega)
      have hI15 : iv_A (lf_up (lf_up s.1 31 8 3) 31 10 ((s.1 32 (s.1 31 9)) - 97)) s.2.2 := iv_w31_10 hI12 (by omega)
      have fr16 : lf_fq [31] 1000000 true s.1 s.2.2 (lf_up (lf_up s.1 31 8 3) 31 10 ((s.1 32 (s.1 31 9)) - 97)) s.2.2 := lf_fq_up fr13 rfl (fun h => absurd h (by decide))
      exact hQ (lf_up (lf_up s.1 31 8 3) 31 10 ((s.1 32 (s.1 31 9)) - 97), s.2.1, s.2.2) hI15 fr16
theorem sm_35_p0 {X0 : lf_Z → Prop} {Q : lf_Z → Prop} {s : lf_Z} (hQ : ∀  (s' : lf_Z), iv_A s'.1 s'.2.2 → lf_fq [31] 1000000 true s.1 s.2.2 s'.1 s'.2.2 → Q  s') {M0 : Nat} (hX0 : ∀ (s' : lf_Z), iv_A s'.1 s'.2.2 → lf_fq [31] 1000000 true s.1 s.2.2 s'.1 s'.2.2 → (300 - s'.1 31 7).toNat < M0 → X0 s') (hM0 : (300 - s.1 31 7).toNat ≤ M0) (hI : iv_A s.1 s.2.2) : fm_35_p0 Q X0 s := by
  unfold fm_35_p0
  have b1 : 0 ≤ s.1 31 7 ∧ s.1 31 7 ≤ 300 := iv_r31_7 hI
  have b2 : 0 ≤ s.1 31 1 ∧ s.1 31 1 ≤ 300 := iv_r31_1 hI
  refine ⟨(show lf_R (s.1 31 7) from lf_Rof (by omega)), ?_⟩
  refine ⟨(show lf_R (s.1 31 1) from lf_Rof (by omega)), ?_⟩
  refine ⟨fun c3 => ?_, fun c3 => ?_⟩
  · skip
    replace c3 : s.1 31 1 ≤ s.1 31 7 := c3
    exact sm_35_p39 hQ hI
  · skip
    replace c3 : ¬ (s.1 31 1 ≤ s.1 31 7) := c3
    refine ⟨(show (0 : Int) ≤ s.1 31 7 ∧ s.1 31 7 < (300 : Int) from by omega), ?_⟩
    have b17 : 0 ≤ s.1 32 (s.1 31 7) ∧ s.1 32 (s.1 31 7) ≤ 255 := iv_r32 hI _
    refine sm_34 hI (show (0 : Int) ≤ s.1 32 (s.1 31 7) ∧ s.1 32 (s.1 31 7) ≤ (255 : Int) from by omega) (fun z31 => ?_)
    refine ⟨fun c19 => ?_, fun c19 => ?_⟩
    · skip
      exact sm_35_p39 hQ hI
    · skip
      have hI20 : iv_A (lf_up s.1 31 7 ((s.1 31 7) + 1)) s.2.2 := iv_w31_7 hI (by omega)
      have fr21 : lf_fq [31] 1000000 true s.1 s.2.2 (lf_up s.1 31 7 ((s.1 31 7) + 1)) s.2.2 := lf_fq_up (lf_fq_rf) rfl (fun h => absurd h (by decide))
      exact hX0  (lf_up s.1 31 7 ((s.1 31 7) + 1), s.2.1, s.2.2) hI20 fr21 (show (300 - ((s.1 31 7) + 1)).toNat < M0 from by omega)
theorem sm_35_p0L {Q : lf_Z → Prop} {s : lf_Z} (hQ : ∀  (s' : lf_Z), iv_A s'.1 s'.2.2 → lf_fq [31] 1000000 true s.1 s.2.2 s'.1 s'.2.2 → Q  s') (hI : iv_A s.1 s.2.2) : fm_35_p0L Q s := by
  intro X0 hX
  have key : ∀ (m9 : Nat) (s' : lf_Z), iv_A s'.1 s'.2.2 → lf_fq [31] 1000000 true s.1 s.2.2 s'.1 s'.2.2 → (300 - s'.1 31 7).toNat < m9 → X0 s' := by
    intro m9
    induction m9 with
    | zero => intro  s' _ _  h9; exact absurd h9 (Nat.not_lt_zero _)
    | succ m9 ih => intro  s' i7 f7  h9; exact hX  _ (sm_35_p0 (fun t9 i9 f9 => hQ t9 i9 (lf_fq_tr f7 f9))   (fun  t8 i8 f8  h8 => ih  t8 i8 (lf_fq_tr f7 f8)  (by omega)) (Nat.le_refl _)  i7    )
  exact key _  s hI lf_fq_rf  (Nat.lt_succ_self _)
theorem sm_35 {Q : lf_Z → Prop} {s : lf_Z} (hI : iv_A s.1 s.2.2) (hQ : ∀  (s' : lf_Z), iv_A s'.1 s'.2.2 → lf_fq [31] 1000000 true s.1 s.2.2 s'.1 s'.2.2 → Q  s') : fm_35 Q s := by
  unfold fm_35
  exact sm_35_p0L hQ hI
-- fm_33 Reader.scanNumber 31
theorem sm_33_p10 {X10 : lf_Z → Prop} {Q : lf_Z → Prop} {s : lf_Z} (hQ : ∀  (s' : lf_Z), iv_A s'.1 s'.2.2 → lf_fq [31] 1000000 true s.1 s.2.2 s'.1 s'.2.2 → Q  s') {M10 : Nat} (hX10 : ∀ (s' : lf_Z), iv_A s'.1 s'.2.2 → lf_fq [31] 1000000 true s.1 s.2.2 s'.1 s'.2.2 → (300 - s'.1 31 7).toNat < M10 → X10 s') (hM10 : (300 - s.1 31 7).toNat ≤ M10) (hI : iv_A s.1 s.2.2) : fm_33_p10 Q X10 s := by
  unfold fm_33_p10
  have b5 : 0 ≤ s.1 31 7 ∧ s.1 31 7 ≤ 300 := iv_r31_7 hI
  have b6 : 0 ≤ s.1 31 1 ∧ s.1 31 1 ≤ 300 := iv_r31_1 hI
  refine ⟨(show lf_R (s.1 31 7) from lf_Rof (by omega)), ?_⟩
  refine ⟨(show lf_R (s.1 31 1) from lf_Rof (by omega)), ?_⟩
  refine ⟨fun c7 => ?_, fun c7 => ?_⟩
  · skip
    replace c7 : s.1 31 1 ≤ s.1 31 7 := c7
    exact hQ s hI (lf_fq_rf)
  · skip
    replace c7 : ¬ (s.1 31 1 ≤ s.1 31 7) := c7
    refine ⟨(show (0 : Int) ≤ s.1 31 7 ∧ s.1 31 7 < (300 : Int) from by omega), ?_⟩
    have b8 : 0 ≤ s.1 32 (s.1 31 7) ∧ s.1 32 (s.1 31 7) ≤ 255 := iv_r32 hI _
    refine sm_32 hI (show (0 : Int) ≤ s.1 32 (s.1 31 7) ∧ s.1 32 (s.1 31 7) ≤ (255 : Int) from by omega) (fun z25 => ?_)
    refine ⟨fun c10 => ?_, fun c10 => ?_⟩
    · skip
      exact hQ s hI (lf_fq_rf)
    · skip
      have b11 : (-2147483648) ≤ s.1 31 10 ∧ s.1 31 10 ≤ 2147483647 := iv_full hI
      have b12 : (-2147483648) ≤ lf_w ((s.1 31 10) * 10) ∧ lf_w ((s.1 31 10) * 10) ≤ 2147483647 := lf_wB
      refine ⟨(show (0 : Int) ≤ s.1 31 7 ∧ s.1 31 7 < (300 : Int) from by omega), ?_⟩
      have b13 : (-2147483648) ≤ lf_w ((lf_w ((s.1 31 10) * 10)) + (s.1 32 (s.1 31 7))) ∧ lf_w ((lf_w ((s.1 31 10) * 10)) + (s.1 32 (s.1 31 7))) ≤ 2147483647 := lf_wB
      have b14 : (-2147483648) ≤ lf_w ((lf_w ((lf_w ((s.1 31 10) * 10)) + (s.1 32 (s.1 31 7)))) - 48) ∧ lf_w ((lf_w ((lf_w ((s.1 31 10) * 10)) + (s.1 32 (s.1 31 7)))) - 48) ≤ 2147483647 := lf_wB
      have hI15 : iv_A (lf_up s.1 31 10 (min 10000 (lf_w ((lf_w ((lf_w ((s.1 31 10) * 10)) + (s.1 32 (s.1 31 7)))) - 48)))) s.2.2 := iv_w31_10 hI (by omega)
      have fr16 : lf_fq [31] 1000000 true s.1 s.2.2 (lf_up s.1 31 10 (min 10000 (lf_w ((lf_w ((lf_w ((s.1 31 10) * 10)) + (s.1 32 (s.1 31 7)))) - 48)))) s.2.2 := lf_fq_up (lf_fq_rf) rfl (fun h => absurd h (by decide))
      have b17 : (lf_up s.1 31 10 (min 10000 (lf_w ((lf_w ((lf_w ((s.1 31 10) * 10)) + (s.1 32 (s.1 31 7)))) - 48)))) 31 7 = s.1 31 7 := lf_up_i (by omega)
      have hI18 : iv_A (lf_up (lf_up s.1 31 10 (min 10000 (lf_w ((lf_w ((lf_w ((s.1 31 10) * 10)) + (s.1 32 (s.1 31 7)))) - 48)))) 31 7 ((s.1 31 7) + 1)) s.2.2 := iv_w31_7 hI15 (by omega)
      have fr19 : lf_fq [31] 1000000 true s.1 s.2.2 (lf_up (lf_up s.1 31 10 (min 10000 (lf_w ((lf_w ((lf_w ((s.1 31 10) * 10)) + (s.1 32 (s.1 31 7)))) - 48)))) 31 7 ((s.1 31 7) + 1)) s.2.2 := lf_fq_up fr16 rfl (fun h => absurd h (by decide))
      exact hX10  (lf_up (lf_up s.1 31 10 (min 10000 (lf_w ((lf_w ((lf_w ((s.1 31 10) * 10)) + (s.1 32 (s.1 31 7)))) - 48)))) 31 7 ((s.1 31 7) + 1), s.2.1, s.2.2) hI18 fr19 (show (300 - ((s.1 31 7) + 1)).toNat < M10 from by omega)
theorem sm_33_p10L {Q : lf_Z → Prop} {s : lf_Z} (hQ : ∀  (s' : lf_Z), iv_A s'.1 s'.2.2 → lf_fq [31] 1000000 true s.1 s.2.2 s'.1 s'.2.2 → Q  s') (hI : iv_A s.1 s.2.2) : fm_33_p10L Q s := by
  intro X10 hX
  have key : ∀ (m9 : Nat) (s' : lf_Z), iv_A s'.1 s'.2.2 → lf_fq [31] 1000000 true s.1 s.2.2 s'.1 s'.2.2 → (300 - s'.1 31 7).toNat < m9 → X10 s' := by
    intro m9
    induction m9 with
    | zero => intro  s' _ _  h9; exact absurd h9 (Nat.not_lt_zero _)
    | succ m9 ih => intro  s' i7 f7  h9; exact hX  _ (sm_33_p10 (fun t9 i9 f9 => hQ t9 i9 (lf_fq_tr f7 f9))   (fun  t8 i8 f8  h8 => ih  t8 i8 (lf_fq_tr f7 f8)  (by omega)) (Nat.le_refl _)  i7    )
  exact key _  s hI lf_fq_rf  (Nat.lt_succ_self _)
theorem sm_33 {Q : lf_Z → Prop} {s : lf_Z} (hI : iv_A s.1 s.2.2) (hQ : ∀  (s' : lf_Z), iv_A s'.1 s'.2.2 → lf_fq [31] 1000000 true s.1 s.2.2 s'.1 s'.2.2 → Q  s') : fm_33 Q s := by
  unfold fm_33
  have hI1 : iv_A (lf_up s.1 31 8 2) s.2.2 := iv_w31_8 hI (by omega)
  have fr2 : lf_fq [31] 1000000 true s.1 s.2.2 (lf_up s.1 31 8 2) s.2.2 := lf_fq_up (lf_fq_rf) rfl (fun h => absurd h (by decide))
  have hI3 : iv_A (lf_up (lf_up s.1 31 8 2) 31 10 0) s.2.2 := iv_w31_10 hI1 (by omega)
  have fr4 : lf_fq [31] 1000000 true s.1 s.2.2 (lf_up (lf_up s.1 31 8 2) 31 10 0) s.2.2 := lf_fq_up fr2 rfl (fun h => absurd h (by decide))
  exact sm_33_p10L (fun t9 i9 f9 => hQ t9 i9 (lf_fq_tr fr4 f9)) hI3
-- fm_31 Reader.advance 31
theorem sm_31_p60 {Q : lf_Z → Prop} {s : lf_Z} (hQ : ∀  (s' : lf_Z), iv_A s'.1 s'.2.2 → lf_fq [31] 1000000 true s.1 s.2.2 s'.1 s'.2.2 → Q  s') (hI : iv_A s.1 s.2.2) : fm_31_p60 Q s := by
  unfold fm_31_p60
  have b6 : 0 ≤ s.1 31 7 ∧ s.1 31 7 ≤ 300 := iv_r31_7 hI
  have hI7 : iv_A (lf_up s.1 31 9 (s.1 31 7)) s.2.2 := iv_w31_9 hI (by omega)
  have fr8 : lf_fq [31] 1000000 true s.1 s.2.2 (lf_up s.1 31 9 (s.1 31 7)) s.2.2 := lf_fq_up (lf_fq_rf) rfl (fun h => absurd h (by decide))
  have b9 : (lf_up s.1 31 9 (s.1 31 7)) 31 7 = s.1 31 7 := lf_up_i (by omega)
  have b10 : 0 ≤ s.1 31 1 ∧ s.1 31 1 ≤ 300 := (show 0 ≤ (lf_up s.1 31 9 (s.1 31 7)) 31 1 ∧ (lf_up s.1 31 9 (s.1 31 7)) 31 1 ≤ 300 from iv_r31_1 hI7)
  have b11 : (lf_up s.1 31 9 (s.1 31 7)) 31 1 = s.1 31 1 := lf_up_i (by omega)
  refine ⟨(show lf_R (s.1 31 7) from lf_Rof (by omega)), ?_⟩
  refine ⟨(show lf_R (s.1 31 1) from lf_Rof (by omega)), ?_⟩
  refine ⟨fun c12 => ?_, fun c12 => ?_⟩
  · skip
    replace c12 : s.1 31 7 < s.1 31 1 := c12
    refine ⟨(show (0 : Int) ≤ s.1 31 7 ∧ s.1 31 7 < (300 : Int) from by omega), ?_⟩
    have b13 : 0 ≤ s.1 32 (s.1 31 7) ∧ s.1 32 (s.1 31 7) ≤ 255 := (show 0 ≤ (lf_up s.1 31 9 (s.1 31 7)) 32 (s.1 31 7) ∧ (lf_up s.1 31 9 (s.1 31 7)) 32 (s.1 31 7) ≤ 255 from iv_r32 hI7 _)
    refine sm_32 hI7 (show (0 : Int) ≤ s.1 32 (s.1 31 7) ∧ s.1 32 (s.1 31 7) ≤ (255 : Int) from by omega) (fun z28 => ?_)
    refine ⟨fun c15 => ?_, fun c15 => ?_⟩
    · skip
      refine ⟨(show (0 : Int) ≤ s.1 31 7 ∧ s.1 31 7 < (300 : Int) from by omega), ?_⟩
      refine sm_34 hI7 (show (0 : Int) ≤ s.1 32 (s.1 31 7) ∧ s.1 32 (s.1 31 7) ≤ (255 : Int) from by omega) (fun z31 => ?_)
      refine ⟨fun c17 => ?_, fun c17 => ?_⟩
      · skip
        refine ⟨(show (0 : Int) ≤ s.1 31 7 ∧ s.1 31 7 < (300 : Int) from by omega), ?_⟩
        refine sm_37 hI7 (show (0 : Int) ≤ s.1 32 (s.1 31 7) ∧ s.1 32 (s.1 31 7) ≤ (255 : Int) from by omega) (show (s.1 31 7) < 300 from by omega) (fun s33 hI19 fr18 => ?_)
        have fr21 : lf_fq [31] 1000000 true s.1 s.2.2 s33.1 s33.2.2 := lf_fq_tr fr8 (lf_fq_wk fr18 rfl (by decide) (by decide))
        exact hQ s33 hI19 fr21
      · skip
        refine sm_35 hI7 (fun s34 hI23 fr22 => ?_)
        have fr25 : lf_fq [31] 1000000 true s.1 s.2.2 s34.1 s34.2.2 := lf_fq_tr fr8 (lf_fq_wk fr22 rfl (by decide) (by decide))
        exact hQ s34 hI23 fr25
    · skip
      refine sm_33 hI7 (fun s35 hI27 fr26 => ?_)
      have fr29 : lf_fq [31] 1000000 true s.1 s.2.2 s35.1 s35.2.2 := lf_fq_tr fr8 (lf_fq_wk fr26 rfl (by decide) (by decide))
      exact hQ s35 hI27 fr29
  · skip
    replace c12 : ¬ (s.1 31 7 < s.1 31 1) := c12
    have hI30 : iv_A (lf_up (lf_up s.1 31 9 (s.1 31 7)) 31 8 0) s.2.2 := iv_w31_8 hI7 (by omega)
    have fr31 : lf_fq [31] 1000000 true s.1 s.2.2 (lf_up (lf_up s.1 31 9 (s.1 31 7)) 31 8 0) s.2.2 := lf_fq_up fr8 rfl (fun h => absurd h (by decide))
    exact hQ (lf_up (lf_up s.1 31 9 (s.1 31 7)) 31 8 0, s.2.1, s.2.2) hI30 fr31
theorem sm_31_p47 {X8 : lf_Z → Prop} {Q : lf_Z → Prop} {s : lf_Z} (hQ : ∀  (s' : lf_Z), iv_A s'.1 s'.2.2 → lf_fq [31] 1000000 true s.1 s.2.2 s'.1 s'.2.2 → Q  s') {M8 : Nat} (hX8 : ∀ (s' : lf_Z), iv_A s'.1 s'.2.2 → lf_fq [31] 1000000 true s.1 s.2.2 s'.1 s'.2.2 → (300 - s'.1 31 7).toNat < M8 → X8 s') (hM8 : (300 - s.1 31 7).toNat ≤ M8) (hI : iv_A s.1 s.2.2) (kv0 : s.1 31 7 < 300) : fm_31_p47 X8 Q s := by
  unfold fm_31_p47
  have b34 : 0 ≤ s.1 31 7 ∧ s.1 31 7 ≤ 300 := iv_r31_7 hI
  have hI35 : iv_A (lf_up s.1 31 7 ((s.1 31 7) + 1)) s.2.2 := iv_w31_7 hI (by omega)
  have fr36 : lf_fq [31] 1000000 true s.1 s.2.2 (lf_up s.1 31 7 ((s.1 31 7) + 1)) s.2.2 := lf_fq_up (lf_fq_rf) rfl (fun h => absurd h (by decide))
  exact hX8  (lf_up s.1 31 7 ((s.1 31 7) + 1), s.2.1, s.2.2) hI35 fr36 (show (300 - ((s.1 31 7) + 1)).toNat < M8 from by omega)
theorem sm_31_p8 {X8 : lf_Z → Prop} {Q : lf_Z → Prop} {s : lf_Z} (hQ : ∀  (s' : lf_Z), iv_A s'.1 s'.2.2 → lf_fq [31] 1000000 true s.1 s.2.2 s'.1 s'.2.2 → Q  s') {M8 : Nat} (hX8 : ∀ (s' : lf_Z), iv_A s'.1 s'.2.2 → lf_fq [31] 1000000 true s.1 s.2.2 s'.1 s'.2.2 → (300 - s'.1 31 7).toNat < M8 → X8 s') (hM8 : (300 - s.1 31 7).toNat ≤ M8) (hI : iv_A s.1 s.2.2) : fm_31_p8 Q X8 s := by
  unfold fm_31_p8
  have b3 : 0 ≤ s.1 31 7 ∧ s.1 31 7 ≤ 300 := iv_r31_7 hI
  have b4 : 0 ≤ s.1 31 1 ∧ s.1 31 1 ≤ 300 := iv_r31_1 hI
  refine ⟨(show lf_R (s.1 31 7) from lf_Rof (by omega)), ?_⟩
  refine ⟨(show lf_R (s.1 31 1) from lf_Rof (by omega)), ?_⟩
  refine ⟨fun c5 => ?_, fun c5 => ?_⟩
  · skip
    replace c5 : s.1 31 1 ≤ s.1 31 7 := c5
    exact sm_31_p60 hQ hI
  · skip
    replace c5 : ¬ (s.1 31 1 ≤ s.1 31 7) := c5
    refine ⟨(show (0 : Int) ≤ s.1 31 7 ∧ s.1 31 7 < (300 : Int) from by omega), ?_⟩
    have b32 : 0 ≤ s.1 32 (s.1 31 7) ∧ s.1 32 (s.1 31 7) ≤ 255 := iv_r32 hI _
    refine ⟨(show lf_R (s.1 32 (s.1 31 7)) from lf_Rof (by omega)), ?_⟩
    refine ⟨fun c33 => ?_, fun c33 => ?_⟩
    · skip
      replace c33 : s.1 32 (s.1 31 7) = 32 := c33
      exact sm_31_p47 hQ hX8 (show (300 - (s.1 31 7)).toNat ≤ M8 from by omega) hI (show (s.1 31 7) < 300 from by omega)
    · skip
      replace c33 : ¬ (s.1 32 (s.1 31 7) = 32) := c33
      refine ⟨fun c37 => ?_, fun c37 => ?_⟩
      · skip
        replace c37 : s.1 32 (s.1 31 7) ≠ 10 := c37
        exact sm_31_p60 hQ hI
      · skip
        replace c37 : ¬ (s.1 32 (s.1 31 7) ≠ 10) := c37
        exact sm_31_p47 hQ hX8 (show (300 - (s.1 31 7)).toNat ≤ M8 from by omega) hI (show (s.1 31 7) < 300 from by omega)
theorem sm_31_p8L {Q : lf_Z → Prop} {s : lf_Z} (hQ : ∀  (s' : lf_Z), iv_A s'.1 s'.2.2 → lf_fq [31] 1000000 true s.1 s.2.2 s'.1 s'.2.2 → Q  s') (hI : iv_A s.1 s.2.2) : fm_31_p8L Q s := by
  intro X8 hX
  have key : ∀ (m9 : Nat) (s' : lf_Z), iv_A s'.1 s'.2.2 → lf_fq [31] 1000000 true s.1 s.2.2 s'.1 s'.2.2 → (300 - s'.1 31 7).toNat < m9 → X8 s' := by
    intro m9
    induction m9 with
    | zero => intro  s' _ _  h9; exact absurd h9 (Nat.not_lt_zero _)
    | succ m9 ih => intro  s' i7 f7  h9; exact hX  _ (sm_31_p8 (fun t9 i9 f9 => hQ t9 i9 (lf_fq_tr f7 f9))   (fun  t8 i8 f8  h8 => ih  t8 i8 (lf_fq_tr f7 f8)  (by omega)) (Nat.le_refl _)  i7    )
  exact key _  s hI lf_fq_rf  (Nat.lt_succ_self _)
theorem sm_31 {Q : lf_Z → Prop} {s : lf_Z} (hI : iv_A s.1 s.2.2) (hQ : ∀  (s' : lf_Z), iv_A s'.1 s'.2.2 → lf_fq [31] 1000000 true s.1 s.2.2 s'.1 s'.2.2 → Q  s') : fm_31 Q s := by
  unfold fm_31
  have b1 : (-2147483648) ≤ s.1 31 2 ∧ s.1 31 2 ≤ 2147483647 := iv_full hI
  refine ⟨(show lf_R (s.1 31 2) from lf_Rof (by omega)), ?_⟩
  refine ⟨fun c2 => ?_, fun c2 => ?_⟩
  · skip
    replace c2 : s.1 31 2 = 0 := c2
    exact sm_31_p8L hQ hI
  · skip
    replace c2 : ¬ (s.1 31 2 = 0) := c2
    exact hQ s hI (lf_fq_rf)
-- fm_40 Script.hasLaw t i
theorem sm_40 {t0 : Nat} {a1 : Int} {Q : Bool → lf_Z → Prop} {s : lf_Z} (htt0 : t0 < 4) (hI : iv_A s.1 s.2.2) (ba1 : 0 ≤ a1 ∧ a1 ≤ 12) (hQ : ∀ (z : Bool), Q z s) : fm_40 t0 a1 Q s := by
  unfold fm_40
  refine ⟨(show lf_R a1 from lf_Rof (by omega)), ?_⟩
  refine ⟨fun c1 => ?_, fun c1 => ?_⟩
  · skip
    replace c1 : a1 < 0 := c1
    exfalso
    omega
  · skip
    replace c1 : ¬ (a1 < 0) := c1
    refine ⟨fun c2 => ?_, fun c2 => ?_⟩
    · skip
      replace c2 : 3 ≤ a1 := c2
      exact hQ false
    · skip
      replace c2 : ¬ (3 ≤ a1) := c2
      refine ⟨(show (0 : Int) ≤ a1 ∧ a1 < (3 : Int) from by omega), ?_⟩
      have b3 : (-2147483648) ≤ s.1 (37 + 7 * t0) a1 ∧ s.1 (37 + 7 * t0) a1 ≤ 2147483647 := iv_full hI
      refine ⟨(show lf_R (s.1 (37 + 7 * t0) a1) from lf_Rof (by omega)), ?_⟩
      refine ⟨fun c4 => ?_, fun c4 => ?_⟩
      · skip
        replace c4 : s.1 (37 + 7 * t0) a1 = (-1) := c4
        exact hQ false
      · skip
        replace c4 : ¬ (s.1 (37 + 7 * t0) a1 = (-1)) := c4
        exact hQ true
-- fm_39 Reader.fail 31 i
theorem sm_39_p20 {Q : lf_Z → Prop} {s : lf_Z} (hQ : ∀  (s' : lf_Z), iv_A s'.1 s'.2.2 → lf_fq [31] 1000000 true s.1 s.2.2 s'.1 s'.2.2 → Q  s') (hI : iv_A s.1 s.2.2) : fm_39_p20 Q s := by
  unfold fm_39_p20
  have hI3 : iv_A (lf_up s.1 31 8 1) s.2.2 := iv_w31_8 hI (by omega)
  have fr4 : lf_fq [31] 1000000 true s.1 s.2.2 (lf_up s.1 31 8 1) s.2.2 := lf_fq_up (lf_fq_rf) rfl (fun h => absurd h (by decide))
  exact hQ (lf_up s.1 31 8 1, s.2.1, s.2.2) hI3 fr4
theorem sm_39 {a1 : Int} {Q : lf_Z → Prop} {s : lf_Z} (hI : iv_A s.1 s.2.2) (ba1 : 1 ≤ a1 ∧ a1 ≤ 6) (hQ : ∀  (s' : lf_Z), iv_A s'.1 s'.2.2 → lf_fq [31] 1000000 true s.1 s.2.2 s'.1 s'.2.2 → Q  s') : fm_39 a1 Q s := by
  unfold fm_39
  have b1 : (-2147483648) ≤ s.1 31 2 ∧ s.1 31 2 ≤ 2147483647 := iv_full hI
  refine ⟨(show lf_R (s.1 31 2) from lf_Rof (by omega)), ?_⟩
  refine ⟨fun c2 => ?_, fun c2 => ?_⟩
  · skip
    replace c2 : s.1 31 2 ≠ 0 := c2
    exact sm_39_p20 hQ hI
  · skip
    replace c2 : ¬ (s.1 31 2 ≠ 0) := c2
    have hI5 : iv_A (lf_up s.1 31 2 a1) s.2.2 := iv_w31_2 hI (by omega)
    have fr6 : lf_fq [31] 1000000 true s.1 s.2.2 (lf_up s.1 31 2 a1) s.2.2 := lf_fq_up (lf_fq_rf) rfl (fun h => absurd h (by decide))
    have b7 : 0 ≤ s.1 31 9 ∧ s.1 31 9 ≤ 300 := (show 0 ≤ (lf_up s.1 31 2 a1) 31 9 ∧ (lf_up s.1 31 2 a1) 31 9 ≤ 300 from iv_r31_9 hI5)
    have b8 : (lf_up s.1 31 2 a1) 31 9 = s.1 31 9 := lf_up_i (by omega)
    have hI9 : iv_A (lf_up (lf_up s.1 31 2 a1) 31 3 (s.1 31 9)) s.2.2 := iv_w31_3 hI5 (by omega)
    have fr10 : lf_fq [31] 1000000 true s.1 s.2.2 (lf_up (lf_up s.1 31 2 a1) 31 3 (s.1 31 9)) s.2.2 := lf_fq_up fr6 rfl (fun h => absurd h (by decide))
    exact sm_39_p20 (fun t9 i9 f9 => hQ t9 i9 (lf_fq_tr fr10 f9)) hI9
-- fm_44 Reader.readNumber 31 i i
theorem sm_44 {a1 : Int} {a2 : Int} {Q : Int → lf_Z → Prop} {s : lf_Z} (hI : iv_A s.1 s.2.2) (ba1 : 0 ≤ a1 ∧ a1 ≤ 99) (ba2 : 0 ≤ a2 ∧ a2 ≤ 9999) (hQ : ∀ (r : Int) (s' : lf_Z), iv_A s'.1 s'.2.2 → lf_fq [31] 1000000 true s.1 s.2.2 s'.1 s'.2.2 → (0 ≤ r ∧ r ≤ 9999) → Q r s') : fm_44 a1 a2 Q s := by
  unfold fm_44
  have b1 : 0 ≤ s.1 31 8 ∧ s.1 31 8 ≤ 300 := iv_r31_8 hI
  refine ⟨(show lf_R (s.1 31 8) from lf_Rof (by omega)), ?_⟩
  refine ⟨fun c2 => ?_, fun c2 => ?_⟩
  · skip
    replace c2 : s.1 31 8 = 2 := c2
    have b3 : (-2147483648) ≤ s.1 31 10 ∧ s.1 31 10 ≤ 2147483647 := iv_full hI
    refine sm_15 hI (show (-2147483648 : Int) ≤ s.1 31 10 ∧ s.1 31 10 ≤ (2147483647 : Int) from by omega) (show (-1 : Int) ≤ a1 ∧ a1 ≤ (99 : Int) from by omega) (show (-2147483648 : Int) ≤ a2 ∧ a2 ≤ (2147483647 : Int) from by omega) (fun z23 q4 => ?_)
    refine ⟨fun c5 => ?_, fun c5 => ?_⟩
    · skip
      have dc5 := q4.1 c5
      refine sm_31 hI (fun s24 hI7 fr6 => ?_)
      have fr9 : lf_fq [31] 1000000 true s.1 s.2.2 s24.1 s24.2.2 := lf_fq_tr (lf_fq_rf) (lf_fq_wk fr6 rfl (by decide) (by decide))
      exact hQ (s.1 31 10) s24 hI7 fr9 (show (0 : Int) ≤ s.1 31 10 ∧ s.1 31 10 ≤ (9999 : Int) from by omega)
    · skip
      have dc5 := q4.2 c5
      refine sm_39 hI (show (1 : Int) ≤ 2 ∧ 2 ≤ (6 : Int) from by omega) (fun s25 hI11 fr10 => ?_)
      have fr13 : lf_fq [31] 1000000 true s.1 s.2.2 s25.1 s25.2.2 := lf_fq_tr (lf_fq_rf) (lf_fq_wk fr10 rfl (by decide) (by decide))
      exact hQ a1 s25 hI11 fr13 (show (0 : Int) ≤ a1 ∧ a1 ≤ (9999 : Int) from by omega)
  · skip
    replace c2 : ¬ (s.1 31 8 = 2) := c2
    refine sm_39 hI (show (1 : Int) ≤ 1 ∧ 1 ≤ (6 : Int) from by omega) (fun s26 hI15 fr14 => ?_)
    have fr17 : lf_fq [31] 1000000 true s.1 s.2.2 s26.1 s26.2.2 := lf_fq_tr (lf_fq_rf) (lf_fq_wk fr14 rfl (by decide) (by decide))
    exact hQ a1 s26 hI15 fr17 (show (0 : Int) ≤ a1 ∧ a1 ≤ (9999 : Int) from by omega)
