/-! what a law's sum says; the class's orders as a machine over a list -/
section CM
variable {s t u : lf_Z} {R N L : Int → Int} {a b c p x lo hi : Int} {st : List Int}
/-- what binds two: by the token between them -/
def cm_cut (x : Int) : Int := max (-1000000) (min 1000000 x)
def cm_ar (t a b : Int) : Int := if t = 10 then cm_cut (a + b) else if t = 11 then cm_cut (a - b) else if t = 12 then cm_cut (a * b) else if b = 0 then 0 else a.tdiv b
def cm_cp (t a b : Int) : Bool := if t = 4 then decide (a < b) else if t = 5 then decide (a ≤ b) else if t = 6 then decide (b < a) else if t = 7 then decide (b ≤ a) else if t = 8 then decide (a = b) else decide (a ≠ b)
def cm_sm (a : Int) : Prop := -1000000 ≤ a ∧ a ≤ 1000000
theorem cm_cutS : cm_sm (cm_cut x) := by unfold cm_sm cm_cut; omega
theorem cm_dv (ha : cm_sm a) : cm_sm (a.tdiv b) := by
  unfold cm_sm at *
  have h : (a.tdiv b).natAbs ≤ a.natAbs := by
    rw [Int.natAbs_tdiv]
    exact Nat.div_le_self _ _
  omega
theorem cm_arS {t : Int} (ha : cm_sm a) : cm_sm (cm_ar t a b) := by
  unfold cm_ar
  split
  · exact cm_cutS
  · split
    · exact cm_cutS
    · split
      · exact cm_cutS
      · split
        · exact ⟨by decide, by decide⟩
        · exact cm_dv ha
theorem cm_mul (ha : cm_sm a) (hb : cm_sm b) : -1000000000000 ≤ a * b ∧ a * b ≤ 1000000000000 := by
  unfold cm_sm at *
  have h : (a * b).natAbs ≤ 1000000 * 1000000 := by
    rw [Int.natAbs_mul]
    exact Nat.mul_le_mul (by omega) (by omega)
  omega
/-- a truth as 0, 1 -/
theorem cm_b {v : Bool} : lf_b v = if v = true then 1 else 0 := by cases v <;> rfl
/-- the orders that bind two: the answer by the order's number -/
def cm_2 (k a b : Int) : Int := if k = 45 then lf_and a b else if k = 46 then lf_or a b else if 10 ≤ k then cm_ar k a b else lf_b (cm_cp k a b)
theorem fl_87 {k : Int} {Q : Int → lf_Z → Prop} (hk : (4 ≤ k ∧ k ≤ 13) ∨ k = 45 ∨ k = 46) (ha : cm_sm a) (hb : cm_sm b) (h : Q (cm_2 k a b) s) : fw_87 k a b Q s := by
  have key : ∀ v : Int, v = cm_2 k a b → Q v s := fun v e => by rw [e]; exact h
  have ab := cm_mul ha hb
  have dv := cm_dv (b := b) ha
  unfold cm_sm at ha hb dv
  have lt : ∀ (t : Int) (v : Bool), k = t → t ≤ 9 → v = cm_cp t a b → lf_b v = cm_2 k a b := fun t v e e2 ev => by
    unfold cm_2
    rw [e, if_neg (by omega), if_neg (by omega), if_neg (by omega), ev]
  unfold fw_87
  intro _
  refine ⟨fun q => by omega, fun e _ _ => ⟨fun c => key 0 ?_, fun c => key 1 ?_⟩, fun e _ _ => ⟨fun c => key 0 ?_, fun c => key 1 ?_⟩, fun e _ _ => ⟨fun c => key 0 ?_, fun c => key 1 ?_⟩, fun e _ _ => ⟨fun c => key 0 ?_, fun c => key 1 ?_⟩, fun e _ _ => ⟨fun c => key 0 ?_, fun c => key 1 ?_⟩, fun e => ?_, fun e _ => key _ ?_, fun e _ => key _ ?_, fun e _ _ => key _ ?_, fun e _ => ⟨fun c _ _ => key _ ?_, fun c => key 0 ?_⟩, ?_⟩
  · exact lt 4 false e (by decide) (show false = decide (a < b) from (decide_eq_false (by omega)).symm)
  · exact lt 4 true e (by decide) (show true = decide (a < b) from (decide_eq_true (by omega)).symm)
  · exact lt 5 false e (by decide) (show false = decide (a ≤ b) from (decide_eq_false (by omega)).symm)
  · exact lt 5 true e (by decide) (show true = decide (a ≤ b) from (decide_eq_true (by omega)).symm)
  · exact lt 6 false e (by decide) (show false = decide (b < a) from (decide_eq_false (by omega)).symm)
  · exact lt 6 true e (by decide) (show true = decide (b < a) from (decide_eq_true (by omega)).symm)
  · exact lt 7 false e (by decide) (show false = decide (b ≤ a) from (decide_eq_false (by omega)).symm)
  · exact lt 7 true e (by decide) (show true = decide (b ≤ a) from (decide_eq_true (by omega)).symm)
  · exact lt 8 false e (by decide) (show false = decide (a = b) from (decide_eq_false c).symm)
  · exact lt 8 true e (by decide) (show true = decide (a = b) from (decide_eq_true (Classical.not_not.mp c)).symm)
  · unfold fw_87_p310
    intro _ _
    refine ⟨fun c => key 0 ?_, fun c => key 1 ?_⟩
    · exact lt 9 false e (by decide) (show false = decide (a ≠ b) from (decide_eq_false (by omega)).symm)
    · exact lt 9 true e (by decide) (show true = decide (a ≠ b) from (decide_eq_true c).symm)
  · rw [tr_w (by omega)]
    unfold cm_2 cm_ar cm_cut
    rw [e]; rfl
  · rw [tr_w (by omega)]
    unfold cm_2 cm_ar cm_cut
    rw [e]; rfl
  · rw [lf_wlR (a := a * b) (by omega), lf_wlR (a := min 1000000 (a * b)) (by omega), lf_wlR (by omega), tr_w (by omega)]
    unfold cm_2 cm_ar cm_cut
    rw [e]; rfl
  · rw [tr_w (by omega)]
    unfold cm_2 cm_ar
    rw [e, if_neg (by decide), if_neg (by decide), if_pos (by decide), if_neg (by decide), if_neg (by decide), if_neg (by decide), if_neg c]
  · unfold cm_2 cm_ar
    rw [e, if_neg (by decide), if_neg (by decide), if_pos (by decide), if_neg (by decide), if_neg (by decide), if_neg (by decide), if_pos (Classical.not_not.mp c)]
  · refine ⟨fun e => by omega, fun e => by omega, fun e => by omega, fun e => by omega, fun e => by omega, fun e => by omega, fun e => by omega, fun e => by omega, fun e => by omega, fun e => by omega, fun e => by omega, fun e => by omega, fun e => by omega, fun e => by omega, fun e => by omega, fun e => by omega, fun e => by omega, fun e => by omega, fun e => by omega, fun e => by omega, fun e => by omega, fun e => by omega, fun e => by omega, fun e => by omega, fun e => by omega, fun e => by omega, fun e => by omega, fun e => by omega, fun e => by omega, fun e => by omega, fun e => by omega, fun e => key _ ?_, fun e => key _ ?_⟩
    · unfold cm_2; rw [if_pos e]
    · unfold cm_2; rw [if_neg (by omega), if_pos e]
/-- place, pile (top first), lets -/
abbrev cm_T : Type := Int × List Int × (Int → Int)
def cm_st (R N : Int → Int) (x : cm_T) : cm_T :=
  if (R x.1).tdiv 10000 = 2 then (x.1 + 1, (R x.1).tmod 10000 :: x.2.1, x.2.2)
  else if (R x.1).tdiv 10000 = 3 then (x.1 + 1, x.2.2 ((R x.1).tmod 10000) :: x.2.1, x.2.2)
  else if (R x.1).tdiv 10000 = 17 then (x.1 + 1, N ((R x.1).tmod 10000) :: x.2.1, x.2.2)
  else if (R x.1).tdiv 10000 = 39 then ((R x.1).tmod 10000, x.2.1, x.2.2)
  else match x.2.1 with
    | [] => x
    | v :: st =>
      if (R x.1).tdiv 10000 = 18 then (x.1 + 1, -v :: st, x.2.2)
      else if (R x.1).tdiv 10000 = 38 then (if v ≠ 0 then x.1 + 1 else (R x.1).tmod 10000, st, x.2.2)
      else if (R x.1).tdiv 10000 = 43 then (x.1 + 1, st, ds_u1 x.2.2 ((R x.1).tmod 10000) v)
      else if (R x.1).tdiv 10000 = 44 then (x.1 + 1, (1 - v) :: st, x.2.2)
      else match st with
        | [] => x
        | w :: st => (x.1 + 1, cm_2 ((R x.1).tdiv 10000) w v :: st, x.2.2)
/-- an order that can be done -/
def cm_or (R N : Int → Int) (lo hi : Int) (x : cm_T) : Prop :=
  (lo ≤ x.1 ∧ x.1 < hi) ∧ 0 ≤ R x.1 ∧ R x.1 < 1000000 ∧
  (((R x.1).tdiv 10000 = 2)
  ∨ ((R x.1).tdiv 10000 = 3 ∧ (R x.1).tmod 10000 < 8)
  ∨ ((R x.1).tdiv 10000 = 17 ∧ (R x.1).tmod 10000 < 11)
  ∨ ((R x.1).tdiv 10000 = 39)
  ∨ (((R x.1).tdiv 10000 = 18 ∨ (R x.1).tdiv 10000 = 38 ∨ ((R x.1).tdiv 10000 = 43 ∧ (R x.1).tmod 10000 < 8) ∨ (R x.1).tdiv 10000 = 44) ∧ ∃ v st, x.2.1 = v :: st ∧ cm_sm v)
  ∨ (((4 ≤ (R x.1).tdiv 10000 ∧ (R x.1).tdiv 10000 ≤ 13) ∨ (R x.1).tdiv 10000 = 45 ∨ (R x.1).tdiv 10000 = 46) ∧ ∃ v w st, x.2.1 = v :: w :: st ∧ cm_sm v ∧ cm_sm w))
def cm_go (R N : Int → Int) (lo hi : Int) : Nat → cm_T → cm_T → Prop
  | 0, x, y => x = y
  | k + 1, x, y => cm_or R N lo hi x ∧ cm_go R N lo hi k (cm_st R N x) y
theorem cm_goA {y z : cm_T} : ∀ (k j : Nat) (x : cm_T), cm_go R N lo hi k x y → cm_go R N lo hi j y z → cm_go R N lo hi (k + j) x z := by
  intro k
  induction k with
  | zero => intro j x h g; rw [Nat.zero_add]; rw [show x = y from h]; exact g
  | succ k ih =>
    intro j x h g
    rw [show k + 1 + j = (k + j) + 1 by omega]
    exact ⟨h.1, ih j _ h.2 g⟩
theorem cm_goW {y : cm_T} {lo' hi' : Int} (h1 : lo' ≤ lo) (h2 : hi ≤ hi') : ∀ (k : Nat) (x : cm_T), cm_go R N lo hi k x y → cm_go R N lo' hi' k x y := by
  intro k
  induction k with
  | zero => intro x h; exact h
  | succ k ih => intro x h; exact ⟨⟨⟨by have := h.1.1; omega, by have := h.1.1; omega⟩, h.1.2⟩, ih _ h.2⟩
theorem cm_goR {R' : Int → Int} {y : cm_T} (e : ∀ i : Int, lo ≤ i → i < hi → R' i = R i) : ∀ (k : Nat) (x : cm_T), cm_go R N lo hi k x y → cm_go R' N lo hi k x y := by
  intro k
  induction k with
  | zero => intro x h; exact h
  | succ k ih =>
    intro x h
    have ex : R' x.1 = R x.1 := e x.1 h.1.1.1 h.1.1.2
    refine ⟨?_, ?_⟩
    · unfold cm_or; rw [ex]; exact h.1
    · have : cm_st R' N x = cm_st R N x := by unfold cm_st; rw [ex]
      rw [this]; exact ih _ h.2
/-- the class's pile -/
def cm_k (F : Int → Int) : List Int → Prop
  | [] => True
  | v :: st => F st.length = v ∧ cm_k F st
theorem cm_kU {F : Int → Int} {v i : Int} : ∀ st : List Int, (st.length : Int) ≤ i → cm_k F st → cm_k (ds_u1 F i v) st := by
  intro st
  induction st with
  | nil => intro _ _; trivial
  | cons w st ih =>
    intro h k
    rw [List.length_cons] at h
    exact ⟨(if_neg (by omega)).trans k.1, ih (by omega) k.2⟩
end CM
