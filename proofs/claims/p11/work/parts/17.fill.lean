/-- the row k of ints filled: the first n places -/
def px_fl (I : Nat → Nat → Int32) (k n : Nat) (v : Int32) : Nat → Nat → Int32 := px_rw I k (fun b => bif Nat.blt b n then v else I k b)
theorem px_bltF {a b : Nat} (h : b ≤ a) : Nat.blt a b = false := by
  cases hz : Nat.blt a b with
  | false => rfl
  | true => exact absurd (px_bltT hz) (by omega)
theorem px_bltY {a b : Nat} (h : a < b) : Nat.blt a b = true := Nat.ble_eq_true_of_le h
theorem px_fl_succ {I : Nat → Nat → Int32} {k i : Nat} {v : Int32} : px_up (px_fl I k i v) k i v = px_fl I k (i + 1) v := by
  funext x y
  unfold px_fl px_up px_rw
  by_cases hx : x = k
  · subst hx
    rw [show Nat.beq x x = true from Nat.beq_refl x]
    dsimp only [cond_true]
    rcases Nat.lt_trichotomy y i with q | q | q
    · rw [px_beqN (Nat.ne_of_lt q), px_bltY q, px_bltY (show y < i + 1 by omega)]
      rfl
    · subst q
      rw [show Nat.beq y y = true from Nat.beq_refl y, px_bltY (Nat.lt_succ_self y)]
      rfl
    · rw [px_beqN (Nat.ne_of_gt q), px_bltF (Nat.le_of_lt q), px_bltF (show i + 1 ≤ y by omega)]
      rfl
  · rw [px_beqN hx]
    rfl
theorem px_fl_0 {I : Nat → Nat → Int32} {k : Nat} {v : Int32} : px_fl I k 0 v = I := by
  funext x y
  unfold px_fl px_rw
  by_cases hx : x = k
  · subst hx
    rw [show Nat.beq x x = true from Nat.beq_refl x]
    dsimp only [cond_true]
    rw [px_bltF (Nat.zero_le y)]
    rfl
  · rw [px_beqN hx]; rfl
theorem px_fill_loop {ro : px_RO} {d a n : Nat} {v : Int32} {sh : List px_Sh} {I : Nat → Nat → Int32} {J : Nat → Nat → Int64} {P : Nat → Nat → Option Nat} (ha : sh[a]? = some (.inl (0, n))) (hn : n < 2 ^ 31) (hs : Nat.blt a px_SC = true) :
    ∀ (m i : Nat), i + m = n → px_E ro (d + 1) 3 (5, [(3, .int (nI n)), (2, .int (nI i)), (0, .ref a), (1, .int v)], [], (sh, px_fl I a i v, J, P)) none (sh, px_fl I a n v, J, P) ∧ px_E ro (d + 1) 3 (5, [(2, .int (nI i)), (3, .int (nI n)), (0, .ref a), (1, .int v)], [], (sh, px_fl I a i v, J, P)) none (sh, px_fl I a n v, J, P) := by
  intro m
  induction m with
  | zero =>
    intro i hi
    have e : i = n := by omega
    subst e
    constructor
    · refine px_E_seg 2 (σ' := (7, [(3, .int (nI i)), (2, .int (nI i)), (0, .ref a), (1, .int v)], [.int (nI i), .int (nI i)], (sh, px_fl I a i v, J, P))) rfl ?_
      refine px_E_icmp (t := 20) rfl rfl (fun c => ?_) (fun c => ?_)
      · exact px_E_ret rfl rfl
      · exact absurd (Int32.le_refl _) c
    · refine px_E_seg 2 (σ' := (7, [(2, .int (nI i)), (3, .int (nI i)), (0, .ref a), (1, .int v)], [.int (nI i), .int (nI i)], (sh, px_fl I a i v, J, P))) rfl ?_
      refine px_E_icmp (t := 20) rfl rfl (fun c => ?_) (fun c => ?_)
      · exact px_E_ret rfl rfl
      · exact absurd (Int32.le_refl _) c
  | succ m ih =>
    intro i hi
    constructor
    · refine px_E_seg 2 (σ' := (7, [(3, .int (nI n)), (2, .int (nI i)), (0, .ref a), (1, .int v)], [.int (nI n), .int (nI i)], (sh, px_fl I a i v, J, P))) rfl ?_
      refine px_E_icmp (t := 20) rfl rfl (fun c => ?_) (fun c => ?_)
      · exact absurd c (nI_ge (a := i) (b := n) (by omega) hn)
      · refine px_E_seg 3 (σ' := (13, [(3, .int (nI n)), (2, .int (nI i)), (0, .ref a), (1, .int v)], [.int v, .int (nI i), .ref a], (sh, px_fl I a i v, J, P))) rfl ?_
        refine px_E_iast (n := n) (j := i) rfl ha hs rfl (by omega) hn ?_
        dsimp only
        rw [px_fl_succ]
        refine px_E_seg 2 (σ' := (5, [(2, .int (nI i + 1)), (3, .int (nI n)), (0, .ref a), (1, .int v)], [], (sh, px_fl I a (i + 1) v, J, P))) rfl ?_
        rw [nI_1]
        exact (ih (i + 1) (by omega)).2
    · refine px_E_seg 2 (σ' := (7, [(2, .int (nI i)), (3, .int (nI n)), (0, .ref a), (1, .int v)], [.int (nI n), .int (nI i)], (sh, px_fl I a i v, J, P))) rfl ?_
      refine px_E_icmp (t := 20) rfl rfl (fun c => ?_) (fun c => ?_)
      · exact absurd c (nI_ge (a := i) (b := n) (by omega) hn)
      · refine px_E_seg 3 (σ' := (13, [(2, .int (nI i)), (3, .int (nI n)), (0, .ref a), (1, .int v)], [.int v, .int (nI i), .ref a], (sh, px_fl I a i v, J, P))) rfl ?_
        refine px_E_iast (n := n) (j := i) rfl ha hs rfl (by omega) hn ?_
        dsimp only
        rw [px_fl_succ]
        refine px_E_seg 2 (σ' := (5, [(2, .int (nI i + 1)), (3, .int (nI n)), (0, .ref a), (1, .int v)], [], (sh, px_fl I a (i + 1) v, J, P))) rfl ?_
        rw [nI_1]
        exact (ih (i + 1) (by omega)).2
/-- Arrays.fill of ints -/
theorem px_fill {ro : px_RO} {d : Nat} (a n : Nat) {v : Int32} {sh : List px_Sh} {I : Nat → Nat → Int32} {J : Nat → Nat → Int64} {P : Nat → Nat → Option Nat} (ha : sh[a]? = some (.inl (0, n))) (hn : n < 2 ^ 31) (hs : Nat.blt a px_SC = true) (hs2 : Nat.ble px_SC a = false) : px_M ro (d + 1) 3 [.ref a, .int v] (sh, I, J, P) none (sh, px_fl I a n v, J, P) := by
  refine px_E_seg 3 (σ' := (2 + 1, [(2, .int 0), (0, .ref a), (1, .int v)], [.ref a], (sh, I, J, P))) rfl ?_
  refine px_E_one (σ' := (4, [(2, .int 0), (0, .ref a), (1, .int v)], [.int (nI n)], (sh, I, J, P))) ?_ ?_
  · show (cond (Nat.ble px_SC a) _ _) = _
    rw [hs2]
    show (match sh[a]? with | some (.inl (t, n)) => _ | _ => none) = _
    rw [ha]
    rfl
  · refine px_E_seg 1 (σ' := (5, [(3, .int (nI n)), (2, .int (nI 0)), (0, .ref a), (1, .int v)], [], (sh, I, J, P))) rfl ?_
    have h := (px_fill_loop (ro := ro) (d := d) (v := v) (I := I) (J := J) (P := P) ha hn hs n 0 (by omega)).1
    rw [px_fl_0] at h
    exact h
theorem px_E_icT {ro : px_RO} {d k pc t : Nat} {c : ClassFile.Cond} {off : Int} {lv : px_L} {st : List Value} {x y : Int32} {h hF : px_H} {r : Option Value} (hf : px_fetch k pc = some (.if_icmp c off, 3)) (ht : px_tg pc off = some t) (hc : px_cZ c x.toInt y.toInt true) (kt : px_E ro (d + 1) k (t, lv, st, h) r hF) : px_E ro (d + 1) k (pc, lv, .int y :: .int x :: st, h) r hF := px_E_icmp hf ht (fun _ => kt) (fun n => absurd (px_cZ_t hc) n)
theorem px_E_icF {ro : px_RO} {d k pc t : Nat} {c : ClassFile.Cond} {off : Int} {lv : px_L} {st : List Value} {x y : Int32} {h hF : px_H} {r : Option Value} (hf : px_fetch k pc = some (.if_icmp c off, 3)) (ht : px_tg pc off = some t) (hc : px_cZ c x.toInt y.toInt false) (kf : px_E ro (d + 1) k (pc + 3, lv, st, h) r hF) : px_E ro (d + 1) k (pc, lv, .int y :: .int x :: st, h) r hF := px_E_icmp hf ht (fun n => absurd n (px_cZ_f hc)) (fun _ => kf)
theorem px_E_ifT {ro : px_RO} {d k pc t : Nat} {c : ClassFile.Cond} {off : Int} {lv : px_L} {st : List Value} {x : Int32} {h hF : px_H} {r : Option Value} (hf : px_fetch k pc = some (.ifCond c off, 3)) (ht : px_tg pc off = some t) (hc : px_cZ c x.toInt 0 true) (kt : px_E ro (d + 1) k (t, lv, st, h) r hF) : px_E ro (d + 1) k (pc, lv, .int x :: st, h) r hF := px_E_if hf ht (fun _ => kt) (fun n => absurd (px_cZ_t (y := 0) hc) n)
theorem px_E_ifF {ro : px_RO} {d k pc t : Nat} {c : ClassFile.Cond} {off : Int} {lv : px_L} {st : List Value} {x : Int32} {h hF : px_H} {r : Option Value} (hf : px_fetch k pc = some (.ifCond c off, 3)) (ht : px_tg pc off = some t) (hc : px_cZ c x.toInt 0 false) (kf : px_E ro (d + 1) k (pc + 3, lv, st, h) r hF) : px_E ro (d + 1) k (pc, lv, .int x :: st, h) r hF := px_E_if hf ht (fun n => absurd n (px_cZ_f (y := 0) hc)) (fun _ => kf)
theorem px_E_tabO {ro : px_RO} {d k pc t len : Nat} {dflt lo hi : Int} {offs : Array Int} {lv : px_L} {st : List Value} {x : Int32} {h hF : px_H} {r : Option Value} (hf : px_fetch k pc = some (.tableswitch dflt lo hi offs, len)) (ht : px_tg pc dflt = some t) (hc : x.toInt < lo ∨ hi < x.toInt) (kt : px_E ro (d + 1) k (t, lv, st, h) r hF) : px_E ro (d + 1) k (pc, lv, .int x :: st, h) r hF := by
  refine px_E_one (σ' := (t, lv, st, h)) ?_ kt
  unfold px_one; dsimp only; rw [hf]; dsimp only [px_ret, px_inv, px_op, px_oTab]
  rw [if_pos hc, ht]
  rfl
/-- the class's cells as they may be, the reference's fresh -/
def px_mI (I : Nat → Nat → Int32) (a b : Nat) : Int32 := bif Nat.blt a 95 then I a b else px_IX a b
def px_mJ (J : Nat → Nat → Int64) (a b : Nat) : Int64 := bif Nat.blt a 95 then J a b else px_JX a b
def px_mP (P : Nat → Nat → Option Nat) (a b : Nat) : Option Nat := bif Nat.blt a 95 then P a b else px_PX a b
