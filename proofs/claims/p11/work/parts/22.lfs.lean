section LFS
variable {ro : px_RO} {d k pc : Nat} {lv : px_L} {st : List Value} {s : lf_Z} {Q : Option Value → lf_Z → Prop} {a b i v : Int}
/-! the four scripts -/
theorem lf_scr {t : Nat} (ht : t < 4) : px_shX[35 + 7 * t]? = some (.inr 7) := by
  match t, ht with
  | 0, _ => rfl
  | 1, _ => rfl
  | 2, _ => rfl
  | 3, _ => rfl
theorem lf_scL {t : Nat} (ht : t < 4) : Nat.blt (35 + 7 * t) px_SC = true := by
  match t, ht with
  | 0, _ => rfl
  | 1, _ => rfl
  | 2, _ => rfl
  | 3, _ => rfl
theorem lf_sP0 {t : Nat} (ht : t < 4) : lf_P s.2.2 (35 + 7 * t) 0 = some (36 + 7 * t) := by
  match t, ht with
  | 0, _ => rfl
  | 1, _ => rfl
  | 2, _ => rfl
  | 3, _ => rfl
theorem lf_sA0 {t : Nat} (ht : t < 4) : px_shX[36 + 7 * t]? = some (.inl (0, 300)) := by
  match t, ht with
  | 0, _ => rfl
  | 1, _ => rfl
  | 2, _ => rfl
  | 3, _ => rfl
theorem lf_sB0 {t : Nat} (ht : t < 4) : Nat.ble px_SC (36 + 7 * t) = false := by
  match t, ht with
  | 0, _ => rfl
  | 1, _ => rfl
  | 2, _ => rfl
  | 3, _ => rfl
theorem lf_sC0 {t : Nat} (ht : t < 4) : Nat.blt (36 + 7 * t) px_SC = true := by
  match t, ht with
  | 0, _ => rfl
  | 1, _ => rfl
  | 2, _ => rfl
  | 3, _ => rfl
theorem lf_sP2 {t : Nat} (ht : t < 4) : lf_P s.2.2 (35 + 7 * t) 2 = some (37 + 7 * t) := by
  match t, ht with
  | 0, _ => rfl
  | 1, _ => rfl
  | 2, _ => rfl
  | 3, _ => rfl
theorem lf_sA2 {t : Nat} (ht : t < 4) : px_shX[37 + 7 * t]? = some (.inl (0, 3)) := by
  match t, ht with
  | 0, _ => rfl
  | 1, _ => rfl
  | 2, _ => rfl
  | 3, _ => rfl
theorem lf_sB2 {t : Nat} (ht : t < 4) : Nat.ble px_SC (37 + 7 * t) = false := by
  match t, ht with
  | 0, _ => rfl
  | 1, _ => rfl
  | 2, _ => rfl
  | 3, _ => rfl
theorem lf_sC2 {t : Nat} (ht : t < 4) : Nat.blt (37 + 7 * t) px_SC = true := by
  match t, ht with
  | 0, _ => rfl
  | 1, _ => rfl
  | 2, _ => rfl
  | 3, _ => rfl
theorem lf_sP3 {t : Nat} (ht : t < 4) : lf_P s.2.2 (35 + 7 * t) 3 = some (38 + 7 * t) := by
  match t, ht with
  | 0, _ => rfl
  | 1, _ => rfl
  | 2, _ => rfl
  | 3, _ => rfl
theorem lf_sA3 {t : Nat} (ht : t < 4) : px_shX[38 + 7 * t]? = some (.inl (0, 3)) := by
  match t, ht with
  | 0, _ => rfl
  | 1, _ => rfl
  | 2, _ => rfl
  | 3, _ => rfl
theorem lf_sB3 {t : Nat} (ht : t < 4) : Nat.ble px_SC (38 + 7 * t) = false := by
  match t, ht with
  | 0, _ => rfl
  | 1, _ => rfl
  | 2, _ => rfl
  | 3, _ => rfl
theorem lf_sC3 {t : Nat} (ht : t < 4) : Nat.blt (38 + 7 * t) px_SC = true := by
  match t, ht with
  | 0, _ => rfl
  | 1, _ => rfl
  | 2, _ => rfl
  | 3, _ => rfl
theorem lf_sP4 {t : Nat} (ht : t < 4) : lf_P s.2.2 (35 + 7 * t) 4 = some (39 + 7 * t) := by
  match t, ht with
  | 0, _ => rfl
  | 1, _ => rfl
  | 2, _ => rfl
  | 3, _ => rfl
theorem lf_sA4 {t : Nat} (ht : t < 4) : px_shX[39 + 7 * t]? = some (.inl (0, 24)) := by
  match t, ht with
  | 0, _ => rfl
  | 1, _ => rfl
  | 2, _ => rfl
  | 3, _ => rfl
theorem lf_sB4 {t : Nat} (ht : t < 4) : Nat.ble px_SC (39 + 7 * t) = false := by
  match t, ht with
  | 0, _ => rfl
  | 1, _ => rfl
  | 2, _ => rfl
  | 3, _ => rfl
theorem lf_sC4 {t : Nat} (ht : t < 4) : Nat.blt (39 + 7 * t) px_SC = true := by
  match t, ht with
  | 0, _ => rfl
  | 1, _ => rfl
  | 2, _ => rfl
  | 3, _ => rfl
theorem lf_sP5 {t : Nat} (ht : t < 4) : lf_P s.2.2 (35 + 7 * t) 5 = some (40 + 7 * t) := by
  match t, ht with
  | 0, _ => rfl
  | 1, _ => rfl
  | 2, _ => rfl
  | 3, _ => rfl
theorem lf_sA5 {t : Nat} (ht : t < 4) : px_shX[40 + 7 * t]? = some (.inl (0, 24)) := by
  match t, ht with
  | 0, _ => rfl
  | 1, _ => rfl
  | 2, _ => rfl
  | 3, _ => rfl
theorem lf_sB5 {t : Nat} (ht : t < 4) : Nat.ble px_SC (40 + 7 * t) = false := by
  match t, ht with
  | 0, _ => rfl
  | 1, _ => rfl
  | 2, _ => rfl
  | 3, _ => rfl
theorem lf_sC5 {t : Nat} (ht : t < 4) : Nat.blt (40 + 7 * t) px_SC = true := by
  match t, ht with
  | 0, _ => rfl
  | 1, _ => rfl
  | 2, _ => rfl
  | 3, _ => rfl
theorem lf_sP6 {t : Nat} (ht : t < 4) : lf_P s.2.2 (35 + 7 * t) 6 = some (41 + 7 * t) := by
  match t, ht with
  | 0, _ => rfl
  | 1, _ => rfl
  | 2, _ => rfl
  | 3, _ => rfl
theorem lf_sA6 {t : Nat} (ht : t < 4) : px_shX[41 + 7 * t]? = some (.inl (0, 24)) := by
  match t, ht with
  | 0, _ => rfl
  | 1, _ => rfl
  | 2, _ => rfl
  | 3, _ => rfl
theorem lf_sB6 {t : Nat} (ht : t < 4) : Nat.ble px_SC (41 + 7 * t) = false := by
  match t, ht with
  | 0, _ => rfl
  | 1, _ => rfl
  | 2, _ => rfl
  | 3, _ => rfl
theorem lf_sC6 {t : Nat} (ht : t < 4) : Nat.blt (41 + 7 * t) px_SC = true := by
  match t, ht with
  | 0, _ => rfl
  | 1, _ => rfl
  | 2, _ => rfl
  | 3, _ => rfl
theorem lf_wA {w : Nat} (hw : w = 72 ∨ w = 73) : px_shX[w]? = some (.inl (1, 156)) := by rcases hw with rfl | rfl <;> rfl
theorem lf_wC {w : Nat} (hw : w = 72 ∨ w = 73) : Nat.blt w px_SC = true := by rcases hw with rfl | rfl <;> rfl
/-! fields -/
theorem lf_getI (pc' : Nat) (fi : Int) {c j ci f : Nat} (hf : px_fetch k pc = some (.getfield j, 3)) (hp : pc + 3 = pc') (hfl : px_fld k j = some (ci, f)) (hs : px_shX[c]? = some (.inr ci)) (hc : Nat.blt c px_SC = true) (hty : px_ty ci f = .int) (hfi : (f : Int) = fi) (kk : lf_E ro (d + 1) k pc' lv (.int (Int32.ofInt (s.1 c fi)) :: st) s Q) : lf_E ro (d + 1) k pc lv (.ref c :: st) s Q := by
  subst hp
  subst hfi
  refine lf_op ?_ kk
  unfold px_one; dsimp only; rw [hf]; dsimp only [px_ret, px_inv, px_op, px_oGet, lf_H]
  rw [hfl, hs]
  dsimp only
  rw [hc, hty, show Nat.beq ci ci = true from Nat.beq_refl ci]
  rfl
theorem lf_getZ (pc' : Nat) (fi : Int) {c j ci f : Nat} (hf : px_fetch k pc = some (.getfield j, 3)) (hp : pc + 3 = pc') (hfl : px_fld k j = some (ci, f)) (hs : px_shX[c]? = some (.inr ci)) (hc : Nat.blt c px_SC = true) (hty : px_ty ci f = .boolean) (hfi : (f : Int) = fi) (kk : lf_E ro (d + 1) k pc' lv (.int (Int32.ofInt (s.1 c fi)) :: st) s Q) : lf_E ro (d + 1) k pc lv (.ref c :: st) s Q := by
  subst hp
  subst hfi
  refine lf_op ?_ kk
  unfold px_one; dsimp only; rw [hf]; dsimp only [px_ret, px_inv, px_op, px_oGet, lf_H]
  rw [hfl, hs]
  dsimp only
  rw [hc, hty, show Nat.beq ci ci = true from Nat.beq_refl ci]
  rfl
theorem lf_getJ (pc' : Nat) (fi : Int) {c j ci f : Nat} (hf : px_fetch k pc = some (.getfield j, 3)) (hp : pc + 3 = pc') (hfl : px_fld k j = some (ci, f)) (hs : px_shX[c]? = some (.inr ci)) (hc : Nat.blt c px_SC = true) (hty : px_ty ci f = .long) (hfi : (f : Int) = fi) (kk : lf_E ro (d + 1) k pc' lv (.long (Int64.ofInt (s.2.1 c fi)) :: st) s Q) : lf_E ro (d + 1) k pc lv (.ref c :: st) s Q := by
  subst hp
  subst hfi
  refine lf_op ?_ kk
  unfold px_one; dsimp only; rw [hf]; dsimp only [px_ret, px_inv, px_op, px_oGet, lf_H]
  rw [hfl, hs]
  dsimp only
  rw [hc, hty, show Nat.beq ci ci = true from Nat.beq_refl ci]
  rfl
/-- a field of references -/
def lf_rfT : FieldType → Bool
  | .object _ => true
  | .array _ => true
  | _ => false
theorem lf_fv {I : Nat → Int32} {J : Nat → Int64} {P : Nat → Option Nat} {f : Nat} {ty : FieldType} (h : lf_rfT ty = true) : px_fv I J P f ty = va_rf (P f) := by
  cases ty <;> first | rfl | cases h
theorem lf_getR (pc' : Nat) {w : Option Nat} {c j ci f : Nat} (hf : px_fetch k pc = some (.getfield j, 3)) (hp : pc + 3 = pc') (hfl : px_fld k j = some (ci, f)) (hs : px_shX[c]? = some (.inr ci)) (hc : Nat.blt c px_SC = true) (hty : lf_rfT (px_ty ci f) = true) (hw : lf_P s.2.2 c f = w) (kk : lf_E ro (d + 1) k pc' lv (va_rf w :: st) s Q) : lf_E ro (d + 1) k pc lv (.ref c :: st) s Q := by
  subst hp
  subst hw
  refine lf_op ?_ kk
  unfold px_one; dsimp only; rw [hf]; dsimp only [px_ret, px_inv, px_op, px_oGet, lf_H]
  rw [hfl, hs]
  dsimp only
  rw [hc, lf_fv hty, show Nat.beq ci ci = true from Nat.beq_refl ci]
  rfl
theorem lf_putI (pc' : Nat) (fi : Int) {c j ci f : Nat} (hf : px_fetch k pc = some (.putfield j, 3)) (hp : pc + 3 = pc') (hfl : px_fld k j = some (ci, f)) (hs : px_shX[c]? = some (.inr ci)) (hc : Nat.blt c px_SC = true) (hm : px_mayPut k ci f = true) (hty : px_ty ci f = .int) (hfi : (f : Int) = fi) (kk : lf_E ro (d + 1) k pc' lv st (lf_up s.1 c fi v, s.2) Q) : lf_E ro (d + 1) k pc lv (.int (Int32.ofInt v) :: .ref c :: st) s Q := by
  subst hp
  refine lf_op ?_ kk
  rw [← lf_st_I hfi]
  unfold px_one; dsimp only; rw [hf]; dsimp only [px_ret, px_inv, px_op, px_oPut]
  rw [hfl, show (lf_H s).1[c]? = some (.inr ci) from hs]
  dsimp only
  rw [hc, hm, hty, show Nat.beq ci ci = true from Nat.beq_refl ci]
  rfl
theorem lf_putZ (pc' : Nat) (fi : Int) {c j ci f : Nat} (hf : px_fetch k pc = some (.putfield j, 3)) (hp : pc + 3 = pc') (hfl : px_fld k j = some (ci, f)) (hs : px_shX[c]? = some (.inr ci)) (hc : Nat.blt c px_SC = true) (hm : px_mayPut k ci f = true) (hty : px_ty ci f = .boolean) (hfi : (f : Int) = fi) (hv : v = 0 ∨ v = 1) (kk : lf_E ro (d + 1) k pc' lv st (lf_up s.1 c fi v, s.2) Q) : lf_E ro (d + 1) k pc lv (.int (Int32.ofInt v) :: .ref c :: st) s Q := by
  subst hp
  refine lf_op ?_ kk
  rw [← lf_st_I hfi]
  unfold px_one; dsimp only; rw [hf]; dsimp only [px_ret, px_inv, px_op, px_oPut]
  rw [hfl, show (lf_H s).1[c]? = some (.inr ci) from hs]
  dsimp only
  rw [hc, hm, hty, show Nat.beq ci ci = true from Nat.beq_refl ci]
  have hx : Int32.ofInt v = 0 ∨ Int32.ofInt v = 1 := by
    rcases hv with rfl | rfl
    · exact Or.inl rfl
    · exact Or.inr rfl
  show (match px_put (lf_H s) c f .boolean (.int (Int32.ofInt v)) with | some h => some (pc + 3, lv, st, h) | none => none) = _
  unfold px_put
  dsimp only
  rw [if_pos hx]
theorem lf_putJ (pc' : Nat) (fi : Int) {c j ci f : Nat} (hf : px_fetch k pc = some (.putfield j, 3)) (hp : pc + 3 = pc') (hfl : px_fld k j = some (ci, f)) (hs : px_shX[c]? = some (.inr ci)) (hc : Nat.blt c px_SC = true) (hm : px_mayPut k ci f = true) (hty : px_ty ci f = .long) (hfi : (f : Int) = fi) (kk : lf_E ro (d + 1) k pc' lv st (s.1, lf_up s.2.1 c fi v, s.2.2) Q) : lf_E ro (d + 1) k pc lv (.long (Int64.ofInt v) :: .ref c :: st) s Q := by
  subst hp
  refine lf_op ?_ kk
  rw [← lf_st_J hfi]
  unfold px_one; dsimp only; rw [hf]; dsimp only [px_ret, px_inv, px_op, px_oPut]
  rw [hfl, show (lf_H s).1[c]? = some (.inr ci) from hs]
  dsimp only
  rw [hc, hm, hty, show Nat.beq ci ci = true from Nat.beq_refl ci]
  rfl
theorem lf_urP {r : Nat → Option Nat} {q c f : Nat} {w : Option Nat} (hq : q = 0 ∧ c = 68 ∧ f = 6 ∨ q = 1 ∧ c = 68 ∧ f = 7) : px_up (lf_P r) c f w = lf_P (lf_ur r q w) := by
  funext x y
  unfold px_up lf_P lf_ur
  rcases hq with ⟨rfl, rfl, rfl⟩ | ⟨rfl, rfl, rfl⟩
  · by_cases hx : x = 68
    · subst hx
      by_cases hy : y = 6
      · subst hy; rfl
      · rw [px_beqN hy]; by_cases h7 : y = 7
        · subst h7; rfl
        · rw [px_beqN h7]; rfl
    · rw [px_beqN hx]; rfl
  · by_cases hx : x = 68
    · subst hx
      by_cases hy : y = 7
      · subst hy; rfl
      · rw [px_beqN hy]; by_cases h7 : y = 6
        · subst h7; rfl
        · rw [px_beqN h7]; rfl
    · rw [px_beqN hx]; rfl
theorem lf_urS {r : Nat → Option Nat} {q c f : Nat} {w : Option Nat} (hq : q = 2 ∧ c = 31 ∧ f = 5 ∨ q = 3 ∧ c = 63 ∧ f = 2) : px_up (lf_P r) c f (w.map (fun t => 35 + 7 * t)) = lf_P (lf_ur r q w) := by
  funext x y
  unfold px_up lf_P lf_ur
  rcases hq with ⟨rfl, rfl, rfl⟩ | ⟨rfl, rfl, rfl⟩
  · by_cases hx : x = 31
    · subst hx
      by_cases hy : y = 5
      · subst hy; rfl
      · rw [px_beqN hy]; rfl
    · rw [px_beqN hx]
      by_cases h6 : x = 63
      · subst h6; rfl
      · rw [px_beqN h6]; rfl
  · by_cases hx : x = 63
    · subst hx
      by_cases hy : y = 2
      · subst hy; rfl
      · rw [px_beqN hy]; rfl
    · rw [px_beqN hx]
      by_cases h6 : x = 31
      · subst h6; rfl
      · rw [px_beqN h6]; rfl
/-- one of the four references is written -/
theorem lf_putR (pc' q : Nat) (w w' : Option Nat) {x : Value} {c j ci f : Nat} (hf : px_fetch k pc = some (.putfield j, 3)) (hp : pc + 3 = pc') (hfl : px_fld k j = some (ci, f)) (hs : px_shX[c]? = some (.inr ci)) (hc : Nat.blt c px_SC = true) (hm : px_mayPut k ci f = true) (hty : lf_rfT (px_ty ci f) = true) (hx : x = va_rf w') (hP : px_up (lf_P s.2.2) c f w' = lf_P (lf_ur s.2.2 q w)) (kk : lf_E ro (d + 1) k pc' lv st (s.1, s.2.1, lf_ur s.2.2 q w) Q) : lf_E ro (d + 1) k pc lv (x :: .ref c :: st) s Q := by
  subst hp
  subst hx
  refine lf_op ?_ kk
  have e : lf_H (s.1, s.2.1, lf_ur s.2.2 q w) = ((lf_H s).1, (lf_H s).2.1, (lf_H s).2.2.1, px_up (lf_H s).2.2.2 c f w') := by
    show _ = (px_shX, _, _, px_up (lf_P s.2.2) c f w')
    rw [hP]
    rfl
  rw [e]
  unfold px_one; dsimp only; rw [hf]; dsimp only [px_ret, px_inv, px_op, px_oPut]
  rw [hfl, show (lf_H s).1[c]? = some (.inr ci) from hs]
  dsimp only
  rw [hc, hm, show Nat.beq ci ci = true from Nat.beq_refl ci]
  show (match px_put (lf_H s) c f (px_ty ci f) (va_rf w') with | some h => some (pc + 3, lv, st, h) | none => none) = _
  cases hq : px_ty ci f with
  | object o => cases w' <;> rfl
  | array o => cases w' <;> rfl
  | _ => rw [hq] at hty; cases hty
/-! arrays -/
theorem lf_oIald {h : px_H} {x : Int32} {c n : Nat} (hs : h.1[c]? = some (.inl (0, n))) (hc : Nat.ble px_SC c = false) (hi : px_in x n = true) : px_oIald ro pc lv (.int x :: .ref c :: st) h = some (pc, lv, .int (h.2.1 c x.toNatClampNeg) :: st, h) := by
  unfold px_oIald
  dsimp only
  rw [hc, hs]
  show cond (px_in x n) (some (pc, lv, Value.int (h.2.1 c x.toNatClampNeg) :: st, h)) none = _
  rw [hi]
  rfl
theorem lf_oZald {h : px_H} {x : Int32} {c n : Nat} (hs : h.1[c]? = some (.inl (2, n))) (hc : Nat.blt c px_SC = true) (hi : px_in x n = true) : px_oZald pc lv (.int x :: .ref c :: st) h = some (pc, lv, .int (h.2.1 c x.toNatClampNeg) :: st, h) := by
  unfold px_oZald
  dsimp only
  rw [hs]
  show cond (px_in x n && Nat.blt c px_SC) (some (pc, lv, Value.int (h.2.1 c x.toNatClampNeg) :: st, h)) none = _
  rw [hi, hc]
  rfl
theorem lf_oLald {h : px_H} {x : Int32} {c n : Nat} (hs : h.1[c]? = some (.inl (1, n))) (hc : Nat.blt c px_SC = true) (hi : px_in x n = true) : px_oLald pc lv (.int x :: .ref c :: st) h = some (pc, lv, .long (h.2.2.1 c x.toNatClampNeg) :: st, h) := by
  unfold px_oLald
  dsimp only
  rw [hs]
  show cond (px_in x n && Nat.blt c px_SC) (some (pc, lv, Value.long (h.2.2.1 c x.toNatClampNeg) :: st, h)) none = _
  rw [hi, hc]
  rfl
theorem lf_oAald {h : px_H} {x : Int32} {c n : Nat} (hs : h.1[c]? = some (.inl (3, n))) (hc : Nat.blt c px_SC = true) (hi : px_in x n = true) : px_oAald pc lv (.int x :: .ref c :: st) h = some (pc, lv, va_rf (h.2.2.2 c x.toNatClampNeg) :: st, h) := by
  unfold px_oAald
  dsimp only
  rw [hs]
  show cond (px_in x n && Nat.blt c px_SC) (some (pc, lv, va_rf (h.2.2.2 c x.toNatClampNeg) :: st, h)) none = _
  rw [hi, hc]
  rfl
theorem lf_oIast {h : px_H} {x y : Int32} {c n : Nat} (hs : h.1[c]? = some (.inl (0, n))) (hc : Nat.blt c px_SC = true) (hi : px_in x n = true) : px_oIast pc lv (.int y :: .int x :: .ref c :: st) h = some (pc, lv, st, (h.1, px_up h.2.1 c x.toNatClampNeg y, h.2.2.1, h.2.2.2)) := by
  unfold px_oIast
  dsimp only
  rw [hs]
  show cond (px_in x n && Nat.blt c px_SC) (some (pc, lv, st, (h.1, px_up h.2.1 c x.toNatClampNeg y, h.2.2.1, h.2.2.2))) none = _
  rw [hi, hc]
  rfl
theorem lf_oZast {h : px_H} {x y : Int32} {c n : Nat} (hs : h.1[c]? = some (.inl (2, n))) (hc : Nat.blt c px_SC = true) (hi : px_in x n = true) : px_oZast pc lv (.int y :: .int x :: .ref c :: st) h = some (pc, lv, st, (h.1, px_up h.2.1 c x.toNatClampNeg (y &&& 1), h.2.2.1, h.2.2.2)) := by
  unfold px_oZast
  dsimp only
  rw [hs]
  show cond (px_in x n && Nat.blt c px_SC) (some (pc, lv, st, (h.1, px_up h.2.1 c x.toNatClampNeg (y &&& 1), h.2.2.1, h.2.2.2))) none = _
  rw [hi, hc]
  rfl
theorem lf_oLast {h : px_H} {x : Int32} {y : Int64} {c n : Nat} (hs : h.1[c]? = some (.inl (1, n))) (hc : Nat.blt c px_SC = true) (hi : px_in x n = true) : px_oLast pc lv (.long y :: .int x :: .ref c :: st) h = some (pc, lv, st, (h.1, h.2.1, px_up h.2.2.1 c x.toNatClampNeg y, h.2.2.2)) := by
  unfold px_oLast
  dsimp only
  rw [hs]
  show cond (px_in x n && Nat.blt c px_SC) (some (pc, lv, st, (h.1, h.2.1, px_up h.2.2.1 c x.toNatClampNeg y, h.2.2.2))) none = _
  rw [hi, hc]
  rfl
theorem lf_stat {kd j q : Nat} {h : px_H} (hf : px_fetch k pc = some (.invokestatic j, 3)) (hcl : px_call k j = some (kd, q)) (hk : kd = 5 ∨ kd = 6 ∨ kd = 7 ∨ kd = 8 ∨ kd = 9) : px_one ro k (pc, lv, st, h) = px_oSt kd (pc + 3) lv st h := by
  unfold px_one
  dsimp only
  rw [hf]
  have h1 : px_inv k (.invokestatic j) st h = none := by
    unfold px_inv
    dsimp only
    rw [hcl]
    rcases hk with rfl | rfl | rfl | rfl | rfl <;> rfl
  show (match px_inv k (.invokestatic j) st h with | some _ => none | none => px_op ro k (.invokestatic j) 3 pc lv st h) = _
  rw [h1]
  show (match px_call k j with | some (kd, _) => px_oSt kd (pc + 3) lv st h | _ => none) = _
  rw [hcl]
theorem lf_virt {j : Nat} {h : px_H} (hf : px_fetch k pc = some (.invokevirtual j, 3)) (hcl : px_call k j = none) : px_one ro k (pc, lv, st, h) = px_oStr k j (pc + 3) lv st h := by
  unfold px_one
  dsimp only
  rw [hf]
  have h1 : px_inv k (.invokevirtual j) st h = none := by
    unfold px_inv
    dsimp only
    rw [hcl]
  show (match px_inv k (.invokevirtual j) st h with | some _ => none | none => px_op ro k (.invokevirtual j) 3 pc lv st h) = _
  rw [h1]
  rfl
theorem lf_ix {n : Nat} {m : Int} (hn : (n : Int) = m) (hn2 : Nat.ble n 1000000000 = true) (hi : 0 ≤ i ∧ i < m) : px_in (Int32.ofInt i) n = true ∧ ((Int32.ofInt i).toNatClampNeg : Int) = i := by
  have h2 : n ≤ 1000000000 := px_bleT hn2
  have e : (Int32.ofInt i).toNatClampNeg = i.toNat := Int32.toNatClampNeg_ofInt_of_le (by omega) (by omega)
  have hR : lf_R i := ⟨by omega, by omega⟩
  refine ⟨?_, by omega⟩
  unfold px_in
  refine decide_eq_true (fun h => ?_)
  rcases h with h | h
  · have := (lf_lt hR (show lf_R 0 from ⟨by decide, by decide⟩)).mp h
    omega
  · omega
theorem lf_iald (pc' : Nat) (m : Int) {c n : Nat} (hf : px_fetch k pc = some (.iaload, 1)) (hp : pc + 1 = pc') (hs : px_shX[c]? = some (.inl (0, n))) (hc : Nat.ble px_SC c = false) (hn : (n : Int) = m) (hn2 : Nat.ble n 1000000000 = true) (hi : 0 ≤ i ∧ i < m) (kk : lf_E ro (d + 1) k pc' lv (.int (Int32.ofInt (s.1 c i)) :: st) s Q) : lf_E ro (d + 1) k pc lv (.int (Int32.ofInt i) :: .ref c :: st) s Q := by
  subst hp
  obtain ⟨h1, h2⟩ := lf_ix hn hn2 hi
  refine lf_op ?_ kk
  unfold px_one; dsimp only; rw [hf]; dsimp only [px_ret, px_inv, px_op]; rw [lf_oIald (h := lf_H s) hs hc h1]
  show some (pc + 1, lv, Value.int (Int32.ofInt (s.1 c ((Int32.ofInt i).toNatClampNeg : Int))) :: st, lf_H s) = _
  rw [h2]
theorem lf_zald (pc' : Nat) (m : Int) {c n : Nat} (hf : px_fetch k pc = some (.baload, 1)) (hp : pc + 1 = pc') (hs : px_shX[c]? = some (.inl (2, n))) (hc : Nat.blt c px_SC = true) (hn : (n : Int) = m) (hn2 : Nat.ble n 1000000000 = true) (hi : 0 ≤ i ∧ i < m) (kk : lf_E ro (d + 1) k pc' lv (.int (Int32.ofInt (s.1 c i)) :: st) s Q) : lf_E ro (d + 1) k pc lv (.int (Int32.ofInt i) :: .ref c :: st) s Q := by
  subst hp
  obtain ⟨h1, h2⟩ := lf_ix hn hn2 hi
  refine lf_op ?_ kk
  unfold px_one; dsimp only; rw [hf]; dsimp only [px_ret, px_inv, px_op]; rw [lf_oZald (h := lf_H s) hs hc h1]
  show some (pc + 1, lv, Value.int (Int32.ofInt (s.1 c ((Int32.ofInt i).toNatClampNeg : Int))) :: st, lf_H s) = _
  rw [h2]
theorem lf_lald (pc' : Nat) (m : Int) {c n : Nat} (hf : px_fetch k pc = some (.laload, 1)) (hp : pc + 1 = pc') (hs : px_shX[c]? = some (.inl (1, n))) (hc : Nat.blt c px_SC = true) (hn : (n : Int) = m) (hn2 : Nat.ble n 1000000000 = true) (hi : 0 ≤ i ∧ i < m) (kk : lf_E ro (d + 1) k pc' lv (.long (Int64.ofInt (s.2.1 c i)) :: st) s Q) : lf_E ro (d + 1) k pc lv (.int (Int32.ofInt i) :: .ref c :: st) s Q := by
  subst hp
  obtain ⟨h1, h2⟩ := lf_ix hn hn2 hi
  refine lf_op ?_ kk
  unfold px_one; dsimp only; rw [hf]; dsimp only [px_ret, px_inv, px_op]; rw [lf_oLald (h := lf_H s) hs hc h1]
  show some (pc + 1, lv, Value.long (Int64.ofInt (s.2.1 c ((Int32.ofInt i).toNatClampNeg : Int))) :: st, lf_H s) = _
  rw [h2]
theorem lf_scripts {t : Nat} (ht : t < 4) (r : Nat → Option Nat) : lf_P r 34 t = some (35 + 7 * t) := by
  match t, ht with
  | 0, _ => rfl
  | 1, _ => rfl
  | 2, _ => rfl
  | 3, _ => rfl
/-- the row of scripts -/
theorem lf_aald (pc' : Nat) (hf : px_fetch k pc = some (.aaload, 1)) (hp : pc + 1 = pc') (hi : 0 ≤ i ∧ i < 4) (kk : lf_E ro (d + 1) k pc' lv (.ref (35 + 7 * i.toNat) :: st) s Q) : lf_E ro (d + 1) k pc lv (.int (Int32.ofInt i) :: .ref 34 :: st) s Q := by
  subst hp
  obtain ⟨h1, h2⟩ := lf_ix (n := 4) (m := 4) rfl rfl hi
  refine lf_op ?_ kk
  have e : (Int32.ofInt i).toNatClampNeg = i.toNat := by omega
  unfold px_one; dsimp only; rw [hf]; dsimp only [px_ret, px_inv, px_op]; rw [lf_oAald (h := lf_H s) (show (lf_H s).1[34]? = some (.inl (3, 4)) from rfl) rfl h1]
  show some (pc + 1, lv, va_rf (lf_P s.2.2 34 (Int32.ofInt i).toNatClampNeg) :: st, lf_H s) = _
  rw [e, lf_scripts (by omega)]
  rfl
/-- an old row that is read only -/
theorem lf_iro (pc' q n : Nat) (m : Int) {xs : Nat → Int32} (hf : px_fetch k pc = some (.iaload, 1)) (hp : pc + 1 = pc') (hr : ro[q]? = some (n, xs)) (hn : (n : Int) = m) (hn2 : Nat.ble n 1000000000 = true) (hi : 0 ≤ i ∧ i < m) (kk : lf_E ro (d + 1) k pc' lv (.int (Int32.ofInt (xs i.toNat).toInt) :: st) s Q) : lf_E ro (d + 1) k pc lv (.int (Int32.ofInt i) :: .ref (px_SC + q) :: st) s Q := by
  subst hp
  obtain ⟨h1, h2⟩ := lf_ix hn hn2 hi
  rw [Int32.ofInt_toInt] at kk
  refine lf_op ?_ kk
  have e : (Int32.ofInt i).toNatClampNeg = i.toNat := by omega
  have e2 : Nat.ble px_SC (px_SC + q) = true := Nat.ble_eq_true_of_le (by omega)
  unfold px_one; dsimp only; rw [hf]; dsimp only [px_ret, px_inv, px_op, px_oIald]
  rw [e2, show px_SC + q - px_SC = q by omega, hr]
  dsimp only [cond_true]
  rw [h1, e]
  rfl
theorem lf_len (pc' : Nat) (m : Int) {c n t : Nat} (hf : px_fetch k pc = some (.arraylength, 1)) (hp : pc + 1 = pc') (hs : px_shX[c]? = some (.inl (t, n))) (hc : Nat.ble px_SC c = false) (ht : Nat.blt t 4 = true) (hn : (n : Int) = m) (kk : lf_E ro (d + 1) k pc' lv (.int (Int32.ofInt m) :: st) s Q) : lf_E ro (d + 1) k pc lv (.ref c :: st) s Q := by
  subst hp
  subst hn
  refine lf_op ?_ kk
  unfold px_one; dsimp only; rw [hf]; dsimp only [px_ret, px_inv, px_op, px_oLen, lf_H]
  rw [hc, hs]
  dsimp only [cond_false]
  rw [ht, Int32.ofInt_eq_ofNat]
  rfl
theorem lf_lro (pc' q n : Nat) (m : Int) {xs : Nat → Int32} (hf : px_fetch k pc = some (.arraylength, 1)) (hp : pc + 1 = pc') (hr : ro[q]? = some (n, xs)) (hn : (n : Int) = m) (kk : lf_E ro (d + 1) k pc' lv (.int (Int32.ofInt m) :: st) s Q) : lf_E ro (d + 1) k pc lv (.ref (px_SC + q) :: st) s Q := by
  subst hp
  subst hn
  refine lf_op ?_ kk
  have e2 : Nat.ble px_SC (px_SC + q) = true := Nat.ble_eq_true_of_le (by omega)
  unfold px_one; dsimp only; rw [hf]; dsimp only [px_ret, px_inv, px_op, px_oLen]
  rw [e2, show px_SC + q - px_SC = q by omega, hr, Int32.ofInt_eq_ofNat]
  rfl
theorem lf_iast (pc' : Nat) (m : Int) {c n : Nat} (hf : px_fetch k pc = some (.iastore, 1)) (hp : pc + 1 = pc') (hs : px_shX[c]? = some (.inl (0, n))) (hc : Nat.blt c px_SC = true) (hn : (n : Int) = m) (hn2 : Nat.ble n 1000000000 = true) (hi : 0 ≤ i ∧ i < m) (kk : lf_E ro (d + 1) k pc' lv st (lf_up s.1 c i v, s.2) Q) : lf_E ro (d + 1) k pc lv (.int (Int32.ofInt v) :: .int (Int32.ofInt i) :: .ref c :: st) s Q := by
  subst hp
  obtain ⟨h1, h2⟩ := lf_ix hn hn2 hi
  refine lf_op ?_ kk
  rw [← lf_st_I h2]
  unfold px_one; dsimp only; rw [hf]; dsimp only [px_ret, px_inv, px_op]; rw [lf_oIast (h := lf_H s) hs hc h1]
theorem lf_zast (pc' : Nat) (m : Int) {c n : Nat} (hf : px_fetch k pc = some (.bastore, 1)) (hp : pc + 1 = pc') (hs : px_shX[c]? = some (.inl (2, n))) (hc : Nat.blt c px_SC = true) (hn : (n : Int) = m) (hn2 : Nat.ble n 1000000000 = true) (hi : 0 ≤ i ∧ i < m) (hv : v = 0 ∨ v = 1) (kk : lf_E ro (d + 1) k pc' lv st (lf_up s.1 c i v, s.2) Q) : lf_E ro (d + 1) k pc lv (.int (Int32.ofInt v) :: .int (Int32.ofInt i) :: .ref c :: st) s Q := by
  subst hp
  obtain ⟨h1, h2⟩ := lf_ix hn hn2 hi
  refine lf_op ?_ kk
  rw [← lf_st_I h2]
  unfold px_one; dsimp only; rw [hf]; dsimp only [px_ret, px_inv, px_op]; rw [lf_oZast (h := lf_H s) hs hc h1]
  rw [show Int32.ofInt v &&& 1 = Int32.ofInt v from by rcases hv with rfl | rfl <;> decide]
theorem lf_last (pc' : Nat) (m : Int) {c n : Nat} (hf : px_fetch k pc = some (.lastore, 1)) (hp : pc + 1 = pc') (hs : px_shX[c]? = some (.inl (1, n))) (hc : Nat.blt c px_SC = true) (hn : (n : Int) = m) (hn2 : Nat.ble n 1000000000 = true) (hi : 0 ≤ i ∧ i < m) (kk : lf_E ro (d + 1) k pc' lv st (s.1, lf_up s.2.1 c i v, s.2.2) Q) : lf_E ro (d + 1) k pc lv (.long (Int64.ofInt v) :: .int (Int32.ofInt i) :: .ref c :: st) s Q := by
  subst hp
  obtain ⟨h1, h2⟩ := lf_ix hn hn2 hi
  refine lf_op ?_ kk
  rw [← lf_st_J h2]
  unfold px_one; dsimp only; rw [hf]; dsimp only [px_ret, px_inv, px_op]; rw [lf_oLast (h := lf_H s) hs hc h1]
/-! static helpers of the JDK -/
theorem lf_imax (pc' : Nat) {j q : Nat} (hf : px_fetch k pc = some (.invokestatic j, 3)) (hp : pc + 3 = pc') (hcl : px_call k j = some (6, q)) (hr : Nat.ble (st.map fun v => v.category).sum 8 = true) (ha : lf_R a) (hb : lf_R b) (kk : lf_E ro (d + 1) k pc' lv (.int (Int32.ofInt (max a b)) :: st) s Q) : lf_E ro (d + 1) k pc lv (.int (Int32.ofInt b) :: .int (Int32.ofInt a) :: st) s Q := by
  subst hp
  refine lf_op ?_ kk
  rw [lf_stat hf hcl (by decide)]
  simp only [px_oSt]
  unfold px_oMi
  dsimp only
  rw [hr]
  by_cases h : a < b
  · rw [show (max a b : Int) = b by omega]; dsimp only [cond_true]; rw [show Nat.beq 6 6 = true from rfl]; dsimp only [cond_true]; rw [if_pos ((lf_lt ha hb).mpr h)]
  · rw [show (max a b : Int) = a by omega]; dsimp only [cond_true]; rw [show Nat.beq 6 6 = true from rfl]; dsimp only [cond_true]; rw [if_neg (fun h9 => h ((lf_lt ha hb).mp h9))]
theorem lf_imin (pc' : Nat) {j q : Nat} (hf : px_fetch k pc = some (.invokestatic j, 3)) (hp : pc + 3 = pc') (hcl : px_call k j = some (7, q)) (hr : Nat.ble (st.map fun v => v.category).sum 8 = true) (ha : lf_R a) (hb : lf_R b) (kk : lf_E ro (d + 1) k pc' lv (.int (Int32.ofInt (min a b)) :: st) s Q) : lf_E ro (d + 1) k pc lv (.int (Int32.ofInt b) :: .int (Int32.ofInt a) :: st) s Q := by
  subst hp
  refine lf_op ?_ kk
  rw [lf_stat hf hcl (by decide)]
  simp only [px_oSt]
  unfold px_oMi
  dsimp only
  rw [hr]
  by_cases h : b < a
  · rw [show (min a b : Int) = b by omega]; dsimp only [cond_true]; rw [show Nat.beq 7 6 = false from rfl]; dsimp only [cond_false]; rw [if_pos ((lf_lt hb ha).mpr h)]
  · rw [show (min a b : Int) = a by omega]; dsimp only [cond_true]; rw [show Nat.beq 7 6 = false from rfl]; dsimp only [cond_false]; rw [if_neg (fun h9 => h ((lf_lt hb ha).mp h9))]
theorem lf_lmax (pc' : Nat) {j q : Nat} (hf : px_fetch k pc = some (.invokestatic j, 3)) (hp : pc + 3 = pc') (hcl : px_call k j = some (8, q)) (hr : Nat.ble (st.map fun v => v.category).sum 8 = true) (ha : lf_RL a) (hb : lf_RL b) (kk : lf_E ro (d + 1) k pc' lv (.long (Int64.ofInt (max a b)) :: st) s Q) : lf_E ro (d + 1) k pc lv (.long (Int64.ofInt b) :: .long (Int64.ofInt a) :: st) s Q := by
  subst hp
  refine lf_op ?_ kk
  rw [lf_stat hf hcl (by decide)]
  simp only [px_oSt]
  unfold px_oMl
  dsimp only
  rw [hr]
  by_cases h : b < a
  · rw [show (max a b : Int) = a by omega]; dsimp only [cond_true]; rw [show Nat.beq 8 8 = true from rfl]; dsimp only [cond_true]; rw [if_pos ((lf_ltL hb ha).mpr h)]
  · rw [show (max a b : Int) = b by omega]; dsimp only [cond_true]; rw [show Nat.beq 8 8 = true from rfl]; dsimp only [cond_true]; rw [if_neg (fun h9 => h ((lf_ltL hb ha).mp h9))]
theorem lf_lmin (pc' : Nat) {j q : Nat} (hf : px_fetch k pc = some (.invokestatic j, 3)) (hp : pc + 3 = pc') (hcl : px_call k j = some (9, q)) (hr : Nat.ble (st.map fun v => v.category).sum 8 = true) (ha : lf_RL a) (hb : lf_RL b) (kk : lf_E ro (d + 1) k pc' lv (.long (Int64.ofInt (min a b)) :: st) s Q) : lf_E ro (d + 1) k pc lv (.long (Int64.ofInt b) :: .long (Int64.ofInt a) :: st) s Q := by
  subst hp
  refine lf_op ?_ kk
  rw [lf_stat hf hcl (by decide)]
  simp only [px_oSt]
  unfold px_oMl
  dsimp only
  rw [hr]
  by_cases h : b < a
  · rw [show (min a b : Int) = b by omega]; dsimp only [cond_true]; rw [show Nat.beq 9 8 = false from rfl]; dsimp only [cond_false]; rw [if_pos ((lf_ltL hb ha).mpr h)]
  · rw [show (min a b : Int) = a by omega]; dsimp only [cond_true]; rw [show Nat.beq 9 8 = false from rfl]; dsimp only [cond_false]; rw [if_neg (fun h9 => h ((lf_ltL hb ha).mp h9))]
/-- a row's places from dp on, n of them, are those of another from sp on -/
def lf_cp (f : Nat → Int → Int) (x y : Nat) (sp dp n : Int) : Nat → Int → Int := fun c j => if c = y ∧ dp ≤ j ∧ j < dp + n then f x (sp + (j - dp)) else f c j
theorem lf_cpy (pc' : Nat) {j q x y n0 n1 : Nat} {sp dp n m0 m1 : Int} (hf : px_fetch k pc = some (.invokestatic j, 3)) (hp : pc + 3 = pc') (hcl : px_call k j = some (5, q)) (hr : Nat.ble (st.map fun v => v.category).sum 8 = true) (hx : px_shX[x]? = some (.inl (0, n0))) (hy : px_shX[y]? = some (.inl (0, n1))) (cx : Nat.blt x px_SC = true) (cy : Nat.blt y px_SC = true) (e0 : (n0 : Int) = m0) (e1 : (n1 : Int) = m1) (l0 : Nat.ble n0 1000000000 = true) (l1 : Nat.ble n1 1000000000 = true) (hi : 0 ≤ sp ∧ 0 ≤ dp ∧ 0 ≤ n ∧ sp + n ≤ m0 ∧ dp + n ≤ m1) (kk : lf_E ro (d + 1) k pc' lv st (lf_cp s.1 x y sp dp n, s.2) Q) : lf_E ro (d + 1) k pc lv (.int (Int32.ofInt n) :: .int (Int32.ofInt dp) :: .ref y :: .int (Int32.ofInt sp) :: .ref x :: st) s Q := by
  subst hp
  have b0 : n0 ≤ 1000000000 := px_bleT l0
  have b1 : n1 ≤ 1000000000 := px_bleT l1
  obtain ⟨i1, i2, i3, i4, i5⟩ := hi
  have en : (Int32.ofInt n).toNatClampNeg = n.toNat := Int32.toNatClampNeg_ofInt_of_le (by omega) (by omega)
  have es : (Int32.ofInt sp).toNatClampNeg = sp.toNat := Int32.toNatClampNeg_ofInt_of_le (by omega) (by omega)
  have ed : (Int32.ofInt dp).toNatClampNeg = dp.toNat := Int32.toNatClampNeg_ofInt_of_le (by omega) (by omega)
  have z0 : lf_R 0 := ⟨by decide, by decide⟩
  have gn : ¬ Int32.ofInt n < 0 := fun h9 => by have := (lf_lt ⟨by omega, by omega⟩ z0).mp h9; omega
  have gs : ¬ Int32.ofInt sp < 0 := fun h9 => by have := (lf_lt ⟨by omega, by omega⟩ z0).mp h9; omega
  have gd : ¬ Int32.ofInt dp < 0 := fun h9 => by have := (lf_lt ⟨by omega, by omega⟩ z0).mp h9; omega
  have hg : px_rw (lf_H s).2.1 y (va_cpy ((lf_H s).2.1 x) ((lf_H s).2.1 y) sp.toNat dp.toNat n.toNat) = fun c (j : Nat) => Int32.ofInt (lf_cp s.1 x y sp dp n c j) := by
    funext c j
    unfold px_rw lf_cp
    by_cases hc : c = y
    · subst hc
      rw [show Nat.beq c c = true from Nat.beq_refl c]
      dsimp only [cond_true, lf_H]
      unfold va_cpy
      by_cases hj : dp ≤ (j : Int) ∧ (j : Int) < dp + n
      · rw [if_pos (show dp.toNat ≤ j ∧ j < dp.toNat + n.toNat from ⟨by omega, by omega⟩), if_pos ⟨rfl, hj⟩]
        show Int32.ofInt (s.1 x ((sp.toNat + (j - dp.toNat) : Nat) : Int)) = _
        rw [show ((sp.toNat + (j - dp.toNat) : Nat) : Int) = sp + (j - dp) by omega]
      · rw [if_neg (show ¬ (dp.toNat ≤ j ∧ j < dp.toNat + n.toNat) from fun h9 => hj ⟨by omega, by omega⟩), if_neg (fun h9 => hj h9.2)]
    · rw [px_beqN hc, if_neg (fun h9 => hc h9.1)]
      rfl
  refine lf_op ?_ kk
  have e : lf_H (lf_cp s.1 x y sp dp n, s.2) = ((lf_H s).1, px_rw (lf_H s).2.1 y (va_cpy ((lf_H s).2.1 x) ((lf_H s).2.1 y) sp.toNat dp.toNat n.toNat), (lf_H s).2.2.1, (lf_H s).2.2.2) := by rw [hg]; rfl
  rw [e]
  rw [lf_stat hf hcl (by decide)]
  simp only [px_oSt]
  unfold px_oCpy
  dsimp only
  rw [show (lf_H s).1[x]? = some (.inl (0, n0)) from hx, show (lf_H s).1[y]? = some (.inl (0, n1)) from hy]
  show cond (Nat.ble (st.map fun v => v.category).sum 8 && decide (¬ Int32.ofInt sp < 0) && decide (¬ Int32.ofInt dp < 0) && decide (¬ Int32.ofInt n < 0) && Nat.ble ((Int32.ofInt sp).toNatClampNeg + (Int32.ofInt n).toNatClampNeg) n0 && Nat.ble ((Int32.ofInt dp).toNatClampNeg + (Int32.ofInt n).toNatClampNeg) n1 && Nat.blt x px_SC && Nat.blt y px_SC) (some (pc + 3, lv, st, ((lf_H s).1, px_rw (lf_H s).2.1 y (va_cpy ((lf_H s).2.1 x) ((lf_H s).2.1 y) (Int32.ofInt sp).toNatClampNeg (Int32.ofInt dp).toNatClampNeg (Int32.ofInt n).toNatClampNeg), (lf_H s).2.2.1, (lf_H s).2.2.2))) none = _
  rw [hr, en, es, ed, cx, cy, decide_eq_true gn, decide_eq_true gs, decide_eq_true gd, show Nat.ble (sp.toNat + n.toNat) n0 = true from Nat.ble_eq_true_of_le (by omega), show Nat.ble (dp.toNat + n.toNat) n1 = true from Nat.ble_eq_true_of_le (by omega)]
  rfl
/-! the text of Reader -/
theorem lf_strlen (pc' : Nat) {j : Nat} (hf : px_fetch k pc = some (.invokevirtual j, 3)) (hp : pc + 3 = pc') (hk : (Nat.beq (px_key k j) 6179 && Nat.blt j 1000) = true) (hcl : px_call k j = none) (hr : Nat.ble (st.map fun v => v.category).sum 8 = true) (kk : lf_E ro (d + 1) k pc' lv (.int (Int32.ofInt 180) :: st) s Q) : lf_E ro (d + 1) k pc lv (.ref (px_SC + 3) :: st) s Q := by
  subst hp
  refine lf_op ?_ kk
  rw [lf_virt hf hcl]; unfold px_oStr; dsimp only; rw [hk]; dsimp only [cond_true]; rw [hr, show Nat.beq (px_SC + 3) (px_SC + 3) = true from Nat.beq_refl _]
  rfl
theorem lf_strat (pc' : Nat) {j : Nat} (hf : px_fetch k pc = some (.invokevirtual j, 3)) (hp : pc + 3 = pc') (hk0 : (Nat.beq (px_key k j) 6179 && Nat.blt j 1000) = false) (hk : (Nat.beq (px_key k j) 6183 && Nat.blt j 1000) = true) (hcl : px_call k j = none) (hr : Nat.ble (st.map fun v => v.category).sum 8 = true) (hi : 0 ≤ i ∧ i < 180) (kk : lf_E ro (d + 1) k pc' lv (.int (Int32.ofInt (ps_byt.getD i.toNat 0).toInt) :: st) s Q) : lf_E ro (d + 1) k pc lv (.int (Int32.ofInt i) :: .ref (px_SC + 3) :: st) s Q := by
  subst hp
  obtain ⟨h1, h2⟩ := lf_ix (n := 180) (m := 180) rfl rfl hi
  have e : (Int32.ofInt i).toNatClampNeg = i.toNat := by omega
  rw [Int32.ofInt_toInt] at kk
  refine lf_op ?_ kk
  rw [lf_virt hf hcl]; unfold px_oStr; dsimp only; rw [hk0, hk]; dsimp only [cond_true, cond_false]; rw [hr, show Nat.beq (px_SC + 3) (px_SC + 3) = true from Nat.beq_refl _, h1, e]
  rfl
/-! null or not -/
theorem lf_null_t (t : Nat) {off : Int} (hf : px_fetch k pc = some (.ifnull off, 3)) (ht : px_tg pc off = some t) (kk : lf_E ro (d + 1) k t lv st s Q) : lf_E ro (d + 1) k pc lv (.null :: st) s Q := by
  refine lf_op ?_ kk
  unfold px_one; dsimp only; rw [hf]; dsimp only [px_ret, px_inv, px_op, px_oNull, px_jmp]; rw [ht]
theorem lf_null_f (pc' : Nat) {off : Int} {c : Nat} (hf : px_fetch k pc = some (.ifnull off, 3)) (hp : pc + 3 = pc') (kk : lf_E ro (d + 1) k pc' lv st s Q) : lf_E ro (d + 1) k pc lv (.ref c :: st) s Q := by
  subst hp
  refine lf_op ?_ kk
  unfold px_one; dsimp only; rw [hf]; dsimp only [px_ret, px_inv, px_op, px_oNull]
theorem lf_nonnull_t (t : Nat) {off : Int} {c : Nat} (hf : px_fetch k pc = some (.ifnonnull off, 3)) (ht : px_tg pc off = some t) (kk : lf_E ro (d + 1) k t lv st s Q) : lf_E ro (d + 1) k pc lv (.ref c :: st) s Q := by
  refine lf_op ?_ kk
  unfold px_one; dsimp only; rw [hf]; dsimp only [px_ret, px_inv, px_op, px_oNonnull, px_jmp]; rw [ht]
theorem lf_nonnull_f (pc' : Nat) {off : Int} (hf : px_fetch k pc = some (.ifnonnull off, 3)) (hp : pc + 3 = pc') (kk : lf_E ro (d + 1) k pc' lv st s Q) : lf_E ro (d + 1) k pc lv (.null :: st) s Q := by
  subst hp
  refine lf_op ?_ kk
  unfold px_one; dsimp only; rw [hf]; dsimp only [px_ret, px_inv, px_op, px_oNonnull]
/-! switches -/
def lf_tab (P : Nat → Prop) (x : Int) : List (Int × Nat) → Prop
  | [] => True
  | q :: r => (x = q.1 → P q.2) ∧ lf_tab P x r
theorem lf_tab0 {P : Nat → Prop} {x : Int} : lf_tab P x [] := trivial
theorem lf_tab1 {P : Nat → Prop} {x w : Int} {t : Nat} {r : List (Int × Nat)} (h : x = w → P t) (hr : lf_tab P x r) : lf_tab P x ((w, t) :: r) := ⟨h, hr⟩
theorem lf_tab_get {P : Nat → Prop} {x : Int} : ∀ {r : List (Int × Nat)} {j : Nat} {q : Int × Nat}, lf_tab P x r → r[j]? = some q → x = q.1 → P q.2
  | [], j, q, _, h, _ => by simp at h
  | p :: r, 0, q, ht, h, hx => by
    have e : p = q := by simpa using h
    subst e
    exact ht.1 hx
  | p :: r, j + 1, q, ht, h, hx => lf_tab_get (r := r) (j := j) ht.2 (by simpa using h) hx
def lf_tabOk (pc : Nat) (lo : Int) (offs : List Int) (r : List (Int × Nat)) : Bool := (List.range offs.length).all (fun j => decide (r[j]? = some (lo + j, ((pc : Int) + offs.getD j 0).toNat)) && decide (0 ≤ (pc : Int) + offs.getD j 0))
theorem lf_tsw (t : Nat) {n : Nat} {dflt lo hi : Int} {offs : Array Int} (r : List (Int × Nat)) (hf : px_fetch k pc = some (.tableswitch dflt lo hi offs, n)) (hd : px_tg pc dflt = some t) (hz : (offs.toList.length : Int) = hi - lo + 1) (hk : lf_tabOk pc lo offs.toList r = true) (ha : lf_R a) (kd : a < lo ∨ hi < a → lf_E ro (d + 1) k t lv st s Q) (kt : lf_tab (fun t => lf_E ro (d + 1) k t lv st s Q) a r) : lf_E ro (d + 1) k pc lv (.int (Int32.ofInt a) :: st) s Q := by
  have e : (Int32.ofInt a).toInt = a := Int32.toInt_ofInt_of_le ha.1 (Int.lt_add_one_of_le ha.2)
  by_cases hc : a < lo ∨ hi < a
  · refine lf_op (pc' := t) (lv' := lv) (st' := st) (s' := s) ?_ (kd hc)
    unfold px_one; dsimp only; rw [hf]; dsimp only [px_ret, px_inv, px_op, px_oTab]; rw [e, if_pos hc, hd]; rfl
  · have hj : (a - lo).toNat < offs.toList.length := by omega
    unfold lf_tabOk at hk
    have h1 := List.all_eq_true.mp hk (a - lo).toNat (List.mem_range.mpr hj)
    rw [Bool.and_eq_true, decide_eq_true_eq, decide_eq_true_eq] at h1
    have ho : offs.toList[(a - lo).toNat]? = some (offs.toList.getD (a - lo).toNat 0) := by rw [List.getD_eq_getElem?_getD, List.getElem?_eq_getElem hj]; rfl
    refine lf_op (pc' := ((pc : Int) + offs.toList.getD (a - lo).toNat 0).toNat) (lv' := lv) (st' := st) (s' := s) ?_ (lf_tab_get kt h1.1 (by omega))
    unfold px_one; dsimp only; rw [hf]; dsimp only [px_ret, px_inv, px_op, px_oTab]; rw [e, if_neg hc]
    rw [← Array.getElem?_toList, ho]
    dsimp only
    unfold px_tg
    have h2 := h1.2
    cases hq : (pc : Int) + offs.toList.getD (a - lo).toNat 0 with
    | ofNat z => rfl
    | negSucc z => rw [hq] at h2; omega
def lf_lokOk (pc : Nat) (ps : List (Int × Int)) (r : List (Int × Nat)) : Bool := decide (r.map (fun q => q.1) = ps.map (fun q => q.1)) && (List.range ps.length).all (fun j => decide (r[j]? = some ((ps.getD j (0, 0)).1, ((pc : Int) + (ps.getD j (0, 0)).2).toNat)) && decide (0 ≤ (pc : Int) + (ps.getD j (0, 0)).2))
end LFS
