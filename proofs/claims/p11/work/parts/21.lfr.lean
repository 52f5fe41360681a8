/-! THE LIFT'S RULES: heaps of whole numbers (ints by cell and place; longs; four references that change) -/
abbrev lf_Z : Type := (Nat → Int → Int) × (Nat → Int → Int) × (Nat → Option Nat)
def lf_P (r : Nat → Option Nat) (c f : Nat) : Option Nat := bif Nat.beq c 68 && Nat.beq f 6 then r 0 else bif Nat.beq c 68 && Nat.beq f 7 then r 1 else bif Nat.beq c 31 && Nat.beq f 5 then (r 2).map (fun t => 35 + 7 * t) else bif Nat.beq c 63 && Nat.beq f 2 then (r 3).map (fun t => 35 + 7 * t) else px_PX c f
def lf_H (s : lf_Z) : px_H := (px_shX, fun c i => Int32.ofInt (s.1 c i), fun c i => Int64.ofInt (s.2.1 c i), lf_P s.2.2)
def lf_up (f : Nat → Int → Int) (c : Nat) (i v : Int) : Nat → Int → Int := fun a b => if a = c then (if b = i then v else f a b) else f a b
def lf_ur (r : Nat → Option Nat) (k : Nat) (v : Option Nat) : Nat → Option Nat := fun a => if a = k then v else r a
theorem lf_up_I {f : Nat → Int → Int} {c n : Nat} {v : Int} : px_up (fun c i => Int32.ofInt (f c i)) c n (Int32.ofInt v) = fun a (b : Nat) => Int32.ofInt (lf_up f c n v a b) := by
  funext a b
  unfold px_up lf_up
  by_cases ha : a = c
  · subst ha
    rw [show Nat.beq a a = true from Nat.beq_refl a, if_pos rfl]
    by_cases hb : b = n
    · subst hb
      rw [show Nat.beq b b = true from Nat.beq_refl b, if_pos rfl]
      rfl
    · rw [px_beqN hb, if_neg (by omega)]
      rfl
  · rw [px_beqN ha, if_neg ha]
    rfl
theorem lf_up_J {f : Nat → Int → Int} {c n : Nat} {v : Int} : px_up (fun c i => Int64.ofInt (f c i)) c n (Int64.ofInt v) = fun a (b : Nat) => Int64.ofInt (lf_up f c n v a b) := by
  funext a b
  unfold px_up lf_up
  by_cases ha : a = c
  · subst ha
    rw [show Nat.beq a a = true from Nat.beq_refl a, if_pos rfl]
    by_cases hb : b = n
    · subst hb
      rw [show Nat.beq b b = true from Nat.beq_refl b, if_pos rfl]
      rfl
    · rw [px_beqN hb, if_neg (by omega)]
      rfl
  · rw [px_beqN ha, if_neg ha]
    rfl
theorem lf_st_I {s : lf_Z} {c n : Nat} {i v : Int} (hi : (n : Int) = i) : ((lf_H s).1, px_up (lf_H s).2.1 c n (Int32.ofInt v), (lf_H s).2.2.1, (lf_H s).2.2.2) = lf_H (lf_up s.1 c i v, s.2) := by
  subst hi
  show (px_shX, px_up (fun c i => Int32.ofInt (s.1 c i)) c n (Int32.ofInt v), _, _) = _
  rw [lf_up_I]
  rfl
theorem lf_st_J {s : lf_Z} {c n : Nat} {i v : Int} (hi : (n : Int) = i) : ((lf_H s).1, (lf_H s).2.1, px_up (lf_H s).2.2.1 c n (Int64.ofInt v), (lf_H s).2.2.2) = lf_H (s.1, lf_up s.2.1 c i v, s.2.2) := by
  subst hi
  show (px_shX, _, px_up (fun c i => Int64.ofInt (s.2.1 c i)) c n (Int64.ofInt v), _) = _
  rw [lf_up_J]
  rfl
/-- method k, from a state on, comes to an answer and a heap of which Q holds -/
def lf_E (ro : px_RO) (d k pc : Nat) (lv : px_L) (st : List Value) (s : lf_Z) (Q : Option Value → lf_Z → Prop) : Prop := ∃ (r : Option Value) (s' : lf_Z), px_E ro d k (pc, lv, st, lf_H s) r (lf_H s') ∧ Q r s'
def lf_M (ro : px_RO) (d j : Nat) (as : List Value) (s : lf_Z) (Q : Option Value → lf_Z → Prop) : Prop := lf_E ro d j 0 (lv_args 0 as) [] s Q
def lf_qi (Q : Int → lf_Z → Prop) : Option Value → lf_Z → Prop := fun r s => ∃ v : Int, r = some (.int (Int32.ofInt v)) ∧ Q v s
def lf_ql (Q : Int → lf_Z → Prop) : Option Value → lf_Z → Prop := fun r s => ∃ v : Int, r = some (.long (Int64.ofInt v)) ∧ Q v s
def lf_b (b : Bool) : Int := match b with | true => 1 | false => 0
def lf_qz (Q : Bool → lf_Z → Prop) : Option Value → lf_Z → Prop := fun r s => ∃ b : Bool, r = some (.int (Int32.ofInt (lf_b b))) ∧ Q b s
def lf_qv (Q : lf_Z → Prop) : Option Value → lf_Z → Prop := fun r s => r = none ∧ Q s
def lf_qr (Q : Option Nat → lf_Z → Prop) : Option Value → lf_Z → Prop := fun r s => ∃ t : Option Nat, r = some (match t with | some t => .ref (35 + 7 * t) | none => .null) ∧ Q t s
section LFR
variable {ro : px_RO} {d k pc : Nat} {lv : px_L} {st : List Value} {s : lf_Z} {Q : Option Value → lf_Z → Prop} {a b i v : Int}
theorem lf_op {pc' : Nat} {lv' : px_L} {st' : List Value} {s' : lf_Z} (h1 : px_one ro k (pc, lv, st, lf_H s) = some (pc', lv', st', lf_H s')) (kk : lf_E ro (d + 1) k pc' lv' st' s' Q) : lf_E ro (d + 1) k pc lv st s Q := by
  obtain ⟨r, s1, h, q⟩ := kk
  exact ⟨r, s1, px_E_one h1 h, q⟩
theorem lf_seg (n : Nat) {pc' : Nat} {lv' : px_L} {st' : List Value} (h1 : px_seg ro k n (pc, lv, st, lf_H s) = some (pc', lv', st', lf_H s)) (kk : lf_E ro (d + 1) k pc' lv' st' s Q) : lf_E ro (d + 1) k pc lv st s Q := by
  obtain ⟨r, s1, h, q⟩ := kk
  exact ⟨r, s1, px_E_seg n h1 h, q⟩
theorem lf_sub {l : px_L} (hs : lf_Sb l lv) (kk : lf_E ro d k pc l st s Q) : lf_E ro d k pc lv st s Q := by
  obtain ⟨r, s1, h, q⟩ := kk
  exact ⟨r, s1, px_E_sb hs h, q⟩
theorem lf_sb0 {lv : px_L} : lf_Sb [] lv := fun q hq => by cases hq
theorem lf_sb1 {lv r : px_L} {i : Nat} {v : Value} (h : px_ld lv i = some v) (hr : lf_Sb r lv) : lf_Sb ((i, v) :: r) lv := by
  intro q hq
  rcases List.mem_cons.mp hq with rfl | hq
  · exact h
  · exact hr q hq
theorem lf_E.deep {d' : Nat} (h : lf_E ro d k pc lv st s Q) (hd : d ≤ d') : lf_E ro d' k pc lv st s Q := by
  obtain ⟨r, s1, h, q⟩ := h
  exact ⟨r, s1, h.deep hd, q⟩
theorem lf_E.mono {Q' : Option Value → lf_Z → Prop} (h : lf_E ro d k pc lv st s Q) (hq : ∀ r s, Q r s → Q' r s) : lf_E ro d k pc lv st s Q' := by
  obtain ⟨r, s1, h, q⟩ := h
  exact ⟨r, s1, h, hq _ _ q⟩
def lf_R (a : Int) : Prop := -2147483648 ≤ a ∧ a ≤ 2147483647
def lf_RL (a : Int) : Prop := -9223372036854775808 ≤ a ∧ a ≤ 9223372036854775807
theorem lf_R_i (a : Int32) : lf_R a.toInt := ⟨a.le_toInt, Int.le_of_lt_add_one a.toInt_lt⟩
theorem lf_RL_i (a : Int64) : lf_RL a.toInt := ⟨a.le_toInt, Int.le_of_lt_add_one a.toInt_lt⟩
theorem lf_inj (ha : lf_R a) (hb : lf_R b) : Int32.ofInt a = Int32.ofInt b ↔ a = b := by
  refine ⟨fun h => ?_, fun h => by rw [h]⟩
  have h2 := congrArg Int32.toInt h
  rw [Int32.toInt_ofInt_of_le ha.1 (Int.lt_add_one_of_le ha.2), Int32.toInt_ofInt_of_le hb.1 (Int.lt_add_one_of_le hb.2)] at h2
  exact h2
theorem lf_le (ha : lf_R a) (hb : lf_R b) : Int32.ofInt a ≤ Int32.ofInt b ↔ a ≤ b := Int32.ofInt_le_iff_le ha.1 ha.2 hb.1 hb.2
theorem lf_lt (ha : lf_R a) (hb : lf_R b) : Int32.ofInt a < Int32.ofInt b ↔ a < b := Int32.ofInt_lt_iff_lt ha.1 ha.2 hb.1 hb.2
theorem lf_injL (ha : lf_RL a) (hb : lf_RL b) : Int64.ofInt a = Int64.ofInt b ↔ a = b := by
  refine ⟨fun h => ?_, fun h => by rw [h]⟩
  have h2 := congrArg Int64.toInt h
  rw [Int64.toInt_ofInt_of_le ha.1 (Int.lt_add_one_of_le ha.2), Int64.toInt_ofInt_of_le hb.1 (Int.lt_add_one_of_le hb.2)] at h2
  exact h2
theorem lf_ltL (ha : lf_RL a) (hb : lf_RL b) : Int64.ofInt a < Int64.ofInt b ↔ a < b := Int64.ofInt_lt_iff_lt ha.1 ha.2 hb.1 hb.2
/-! bits -/
def lf_and (a b : Int) : Int := (Int32.ofInt a &&& Int32.ofInt b).toInt
def lf_or (a b : Int) : Int := (Int32.ofInt a ||| Int32.ofInt b).toInt
def lf_xor (a b : Int) : Int := (Int32.ofInt a ^^^ Int32.ofInt b).toInt
def lf_shl (a b : Int) : Int := (Int32.ofInt a <<< (Int32.ofInt b &&& 31)).toInt
def lf_shr (a b : Int) : Int := (Int32.ofInt a >>> (Int32.ofInt b &&& 31)).toInt
def lf_ushr (a b : Int) : Int := ((Int32.ofInt a).toUInt32 >>> ((Int32.ofInt b).toUInt32 &&& Int32.toUInt32 31)).toInt32.toInt
def lf_lor (a b : Int) : Int := (Int64.ofInt a ||| Int64.ofInt b).toInt
def lf_lshl (a b : Int) : Int := (Int64.ofInt a <<< ((Int32.ofInt b).toInt64 &&& 63)).toInt
def lf_lshr (a b : Int) : Int := (Int64.ofInt a >>> ((Int32.ofInt b).toInt64 &&& 63)).toInt
theorem lf_iadd (pc' : Nat) (hf : px_fetch k pc = some (.iadd, 1)) (hp : pc + 1 = pc') (kk : lf_E ro (d + 1) k pc' lv (.int (Int32.ofInt (a + b)) :: st) s Q) : lf_E ro (d + 1) k pc lv (.int (Int32.ofInt b) :: .int (Int32.ofInt a) :: st) s Q := by
  subst hp
  rw [Int32.ofInt_add] at kk
  exact lf_op (by unfold px_one; dsimp only; rw [hf]; dsimp only [px_ret, px_inv, px_op, px_oAri, px_ari]) kk
theorem lf_isub (pc' : Nat) (hf : px_fetch k pc = some (.isub, 1)) (hp : pc + 1 = pc') (kk : lf_E ro (d + 1) k pc' lv (.int (Int32.ofInt (a - b)) :: st) s Q) : lf_E ro (d + 1) k pc lv (.int (Int32.ofInt b) :: .int (Int32.ofInt a) :: st) s Q := by
  subst hp
  rw [Int32.ofInt_sub] at kk
  exact lf_op (by unfold px_one; dsimp only; rw [hf]; dsimp only [px_ret, px_inv, px_op, px_oAri, px_ari]) kk
theorem lf_imul (pc' : Nat) (hf : px_fetch k pc = some (.imul, 1)) (hp : pc + 1 = pc') (kk : lf_E ro (d + 1) k pc' lv (.int (Int32.ofInt (a * b)) :: st) s Q) : lf_E ro (d + 1) k pc lv (.int (Int32.ofInt b) :: .int (Int32.ofInt a) :: st) s Q := by
  subst hp
  rw [Int32.ofInt_mul] at kk
  exact lf_op (by unfold px_one; dsimp only; rw [hf]; dsimp only [px_ret, px_inv, px_op, px_oAri, px_ari]) kk
theorem lf_ladd (pc' : Nat) (hf : px_fetch k pc = some (.ladd, 1)) (hp : pc + 1 = pc') (kk : lf_E ro (d + 1) k pc' lv (.long (Int64.ofInt (a + b)) :: st) s Q) : lf_E ro (d + 1) k pc lv (.long (Int64.ofInt b) :: .long (Int64.ofInt a) :: st) s Q := by
  subst hp
  rw [Int64.ofInt_add] at kk
  exact lf_op (by unfold px_one; dsimp only; rw [hf]; dsimp only [px_ret, px_inv, px_op, px_oArl, px_arl]) kk
theorem lf_lsub (pc' : Nat) (hf : px_fetch k pc = some (.lsub, 1)) (hp : pc + 1 = pc') (kk : lf_E ro (d + 1) k pc' lv (.long (Int64.ofInt (a - b)) :: st) s Q) : lf_E ro (d + 1) k pc lv (.long (Int64.ofInt b) :: .long (Int64.ofInt a) :: st) s Q := by
  subst hp
  rw [Int64.ofInt_sub] at kk
  exact lf_op (by unfold px_one; dsimp only; rw [hf]; dsimp only [px_ret, px_inv, px_op, px_oArl, px_arl]) kk
theorem lf_lmul (pc' : Nat) (hf : px_fetch k pc = some (.lmul, 1)) (hp : pc + 1 = pc') (kk : lf_E ro (d + 1) k pc' lv (.long (Int64.ofInt (a * b)) :: st) s Q) : lf_E ro (d + 1) k pc lv (.long (Int64.ofInt b) :: .long (Int64.ofInt a) :: st) s Q := by
  subst hp
  rw [Int64.ofInt_mul] at kk
  exact lf_op (by unfold px_one; dsimp only; rw [hf]; dsimp only [px_ret, px_inv, px_op, px_oArl, px_arl]) kk
theorem lf_iand (pc' : Nat) (hf : px_fetch k pc = some (.iand, 1)) (hp : pc + 1 = pc') (kk : lf_E ro (d + 1) k pc' lv (.int (Int32.ofInt (lf_and a b)) :: st) s Q) : lf_E ro (d + 1) k pc lv (.int (Int32.ofInt b) :: .int (Int32.ofInt a) :: st) s Q := by
  subst hp
  unfold lf_and at kk
  rw [Int32.ofInt_toInt] at kk
  exact lf_op (by unfold px_one; dsimp only; rw [hf]; dsimp only [px_ret, px_inv, px_op, px_oAri, px_ari]) kk
theorem lf_ior (pc' : Nat) (hf : px_fetch k pc = some (.ior, 1)) (hp : pc + 1 = pc') (kk : lf_E ro (d + 1) k pc' lv (.int (Int32.ofInt (lf_or a b)) :: st) s Q) : lf_E ro (d + 1) k pc lv (.int (Int32.ofInt b) :: .int (Int32.ofInt a) :: st) s Q := by
  subst hp
  unfold lf_or at kk
  rw [Int32.ofInt_toInt] at kk
  exact lf_op (by unfold px_one; dsimp only; rw [hf]; dsimp only [px_ret, px_inv, px_op, px_oAri, px_ari]) kk
theorem lf_ixor (pc' : Nat) (hf : px_fetch k pc = some (.ixor, 1)) (hp : pc + 1 = pc') (kk : lf_E ro (d + 1) k pc' lv (.int (Int32.ofInt (lf_xor a b)) :: st) s Q) : lf_E ro (d + 1) k pc lv (.int (Int32.ofInt b) :: .int (Int32.ofInt a) :: st) s Q := by
  subst hp
  unfold lf_xor at kk
  rw [Int32.ofInt_toInt] at kk
  exact lf_op (by unfold px_one; dsimp only; rw [hf]; dsimp only [px_ret, px_inv, px_op, px_oAri, px_ari]) kk
theorem lf_ishl (pc' : Nat) (hf : px_fetch k pc = some (.ishl, 1)) (hp : pc + 1 = pc') (kk : lf_E ro (d + 1) k pc' lv (.int (Int32.ofInt (lf_shl a b)) :: st) s Q) : lf_E ro (d + 1) k pc lv (.int (Int32.ofInt b) :: .int (Int32.ofInt a) :: st) s Q := by
  subst hp
  unfold lf_shl at kk
  rw [Int32.ofInt_toInt] at kk
  exact lf_op (by unfold px_one; dsimp only; rw [hf]; dsimp only [px_ret, px_inv, px_op, px_oAri, px_ari]) kk
theorem lf_ishr (pc' : Nat) (hf : px_fetch k pc = some (.ishr, 1)) (hp : pc + 1 = pc') (kk : lf_E ro (d + 1) k pc' lv (.int (Int32.ofInt (lf_shr a b)) :: st) s Q) : lf_E ro (d + 1) k pc lv (.int (Int32.ofInt b) :: .int (Int32.ofInt a) :: st) s Q := by
  subst hp
  unfold lf_shr at kk
  rw [Int32.ofInt_toInt] at kk
  exact lf_op (by unfold px_one; dsimp only; rw [hf]; dsimp only [px_ret, px_inv, px_op, px_oAri, px_ari]) kk
theorem lf_iushr (pc' : Nat) (hf : px_fetch k pc = some (.iushr, 1)) (hp : pc + 1 = pc') (kk : lf_E ro (d + 1) k pc' lv (.int (Int32.ofInt (lf_ushr a b)) :: st) s Q) : lf_E ro (d + 1) k pc lv (.int (Int32.ofInt b) :: .int (Int32.ofInt a) :: st) s Q := by
  subst hp
  unfold lf_ushr at kk
  rw [Int32.ofInt_toInt] at kk
  exact lf_op (by unfold px_one; dsimp only; rw [hf]; dsimp only [px_ret, px_inv, px_op, px_oAri, px_ari]) kk
theorem lf_lor' (pc' : Nat) (hf : px_fetch k pc = some (.lor, 1)) (hp : pc + 1 = pc') (kk : lf_E ro (d + 1) k pc' lv (.long (Int64.ofInt (lf_lor a b)) :: st) s Q) : lf_E ro (d + 1) k pc lv (.long (Int64.ofInt b) :: .long (Int64.ofInt a) :: st) s Q := by
  subst hp
  unfold lf_lor at kk
  rw [Int64.ofInt_toInt] at kk
  exact lf_op (by unfold px_one; dsimp only; rw [hf]; dsimp only [px_ret, px_inv, px_op, px_oArl, px_arl]) kk
theorem lf_lshl' (pc' : Nat) (hf : px_fetch k pc = some (.lshl, 1)) (hp : pc + 1 = pc') (kk : lf_E ro (d + 1) k pc' lv (.long (Int64.ofInt (lf_lshl a b)) :: st) s Q) : lf_E ro (d + 1) k pc lv (.int (Int32.ofInt b) :: .long (Int64.ofInt a) :: st) s Q := by
  subst hp
  unfold lf_lshl at kk
  rw [Int64.ofInt_toInt] at kk
  exact lf_op (by unfold px_one; dsimp only; rw [hf]; dsimp only [px_ret, px_inv, px_op, px_oLshl]) kk
theorem lf_lshr' (pc' : Nat) (hf : px_fetch k pc = some (.lshr, 1)) (hp : pc + 1 = pc') (kk : lf_E ro (d + 1) k pc' lv (.long (Int64.ofInt (lf_lshr a b)) :: st) s Q) : lf_E ro (d + 1) k pc lv (.int (Int32.ofInt b) :: .long (Int64.ofInt a) :: st) s Q := by
  subst hp
  unfold lf_lshr at kk
  rw [Int64.ofInt_toInt] at kk
  exact lf_op (by unfold px_one; dsimp only; rw [hf]; dsimp only [px_ret, px_inv, px_op, px_oLshr]) kk
theorem lf_idiv (pc' : Nat) (hf : px_fetch k pc = some (.idiv, 1)) (hp : pc + 1 = pc') (ha : lf_R a) (hb : lf_R b) (h0 : b ≠ 0) (kk : lf_E ro (d + 1) k pc' lv (.int (Int32.ofInt (a.tdiv b)) :: st) s Q) : lf_E ro (d + 1) k pc lv (.int (Int32.ofInt b) :: .int (Int32.ofInt a) :: st) s Q := by
  subst hp
  have hne : ¬ Int32.ofInt b = 0 := fun h => h0 ((lf_inj hb ⟨by decide, by decide⟩).mp (h.trans (show (0 : Int32) = Int32.ofInt 0 from rfl)))
  refine lf_op ?_ kk
  unfold px_one
  dsimp only
  rw [hf]
  dsimp only [px_ret, px_inv, px_op, px_oAri, px_ari]
  rw [if_neg hne, Int32.ofInt_tdiv ha.1 ha.2 hb.1 hb.2]
theorem lf_irem (pc' : Nat) (hf : px_fetch k pc = some (.irem, 1)) (hp : pc + 1 = pc') (ha : lf_R a) (hb : lf_R b) (h0 : b ≠ 0) (kk : lf_E ro (d + 1) k pc' lv (.int (Int32.ofInt (a.tmod b)) :: st) s Q) : lf_E ro (d + 1) k pc lv (.int (Int32.ofInt b) :: .int (Int32.ofInt a) :: st) s Q := by
  subst hp
  have hne : ¬ Int32.ofInt b = 0 := fun h => h0 ((lf_inj hb ⟨by decide, by decide⟩).mp (h.trans (show (0 : Int32) = Int32.ofInt 0 from rfl)))
  refine lf_op ?_ kk
  unfold px_one
  dsimp only
  rw [hf]
  dsimp only [px_ret, px_inv, px_op, px_oAri, px_ari]
  rw [if_neg hne, show a.tmod b = a - a.tdiv b * b from by rw [Int.tmod_def, Int.mul_comm], Int32.ofInt_sub, Int32.ofInt_mul, Int32.ofInt_tdiv ha.1 ha.2 hb.1 hb.2]
theorem lf_ldiv (pc' : Nat) (hf : px_fetch k pc = some (.ldiv, 1)) (hp : pc + 1 = pc') (ha : lf_RL a) (hb : lf_RL b) (h0 : b ≠ 0) (kk : lf_E ro (d + 1) k pc' lv (.long (Int64.ofInt (a.tdiv b)) :: st) s Q) : lf_E ro (d + 1) k pc lv (.long (Int64.ofInt b) :: .long (Int64.ofInt a) :: st) s Q := by
  subst hp
  have hne : ¬ Int64.ofInt b = 0 := fun h => h0 ((lf_injL hb ⟨by decide, by decide⟩).mp (h.trans (show (0 : Int64) = Int64.ofInt 0 from rfl)))
  refine lf_op ?_ kk
  unfold px_one
  dsimp only
  rw [hf]
  dsimp only [px_ret, px_inv, px_op, px_oArl, px_arl]
  rw [if_neg hne, Int64.ofInt_tdiv ha.1 ha.2 hb.1 hb.2]
theorem lf_lrem (pc' : Nat) (hf : px_fetch k pc = some (.lrem, 1)) (hp : pc + 1 = pc') (ha : lf_RL a) (hb : lf_RL b) (h0 : b ≠ 0) (kk : lf_E ro (d + 1) k pc' lv (.long (Int64.ofInt (a.tmod b)) :: st) s Q) : lf_E ro (d + 1) k pc lv (.long (Int64.ofInt b) :: .long (Int64.ofInt a) :: st) s Q := by
  subst hp
  have hne : ¬ Int64.ofInt b = 0 := fun h => h0 ((lf_injL hb ⟨by decide, by decide⟩).mp (h.trans (show (0 : Int64) = Int64.ofInt 0 from rfl)))
  refine lf_op ?_ kk
  unfold px_one
  dsimp only
  rw [hf]
  dsimp only [px_ret, px_inv, px_op, px_oArl, px_arl]
  rw [if_neg hne, show a.tmod b = a - a.tdiv b * b from by rw [Int.tmod_def, Int.mul_comm], Int64.ofInt_sub, Int64.ofInt_mul, Int64.ofInt_tdiv ha.1 ha.2 hb.1 hb.2]
theorem lf_ineg (pc' : Nat) (hf : px_fetch k pc = some (.ineg, 1)) (hp : pc + 1 = pc') (kk : lf_E ro (d + 1) k pc' lv (.int (Int32.ofInt (-a)) :: st) s Q) : lf_E ro (d + 1) k pc lv (.int (Int32.ofInt a) :: st) s Q := by
  subst hp
  rw [Int32.ofInt_neg] at kk
  exact lf_op (by unfold px_one; dsimp only; rw [hf]; dsimp only [px_ret, px_inv, px_op, px_oIneg]) kk
theorem lf_lneg (pc' : Nat) (hf : px_fetch k pc = some (.lneg, 1)) (hp : pc + 1 = pc') (kk : lf_E ro (d + 1) k pc' lv (.long (Int64.ofInt (-a)) :: st) s Q) : lf_E ro (d + 1) k pc lv (.long (Int64.ofInt a) :: st) s Q := by
  subst hp
  rw [Int64.ofInt_neg] at kk
  exact lf_op (by unfold px_one; dsimp only; rw [hf]; dsimp only [px_ret, px_inv, px_op, px_oLneg]) kk
theorem lf_i2l (pc' : Nat) (hf : px_fetch k pc = some (.i2l, 1)) (hp : pc + 1 = pc') (ha : lf_R a) (kk : lf_E ro (d + 1) k pc' lv (.long (Int64.ofInt a) :: st) s Q) : lf_E ro (d + 1) k pc lv (.int (Int32.ofInt a) :: st) s Q := by
  subst hp
  rw [← Int32.toInt64_ofInt ha.1 ha.2] at kk
  exact lf_op (by unfold px_one; dsimp only; rw [hf]; dsimp only [px_ret, px_inv, px_op, px_oI2l]) kk
theorem lf_l2i (pc' : Nat) (hf : px_fetch k pc = some (.l2i, 1)) (hp : pc + 1 = pc') (kk : lf_E ro (d + 1) k pc' lv (.int (Int32.ofInt a) :: st) s Q) : lf_E ro (d + 1) k pc lv (.long (Int64.ofInt a) :: st) s Q := by
  subst hp
  rw [← Int64.toInt32_ofInt] at kk
  exact lf_op (by unfold px_one; dsimp only; rw [hf]; dsimp only [px_ret, px_inv, px_op, px_oL2i]) kk
theorem lf_bip8 : ∀ n : Int, -128 ≤ n → n ≤ 127 → (Int8.ofInt n).toInt32 = Int32.ofInt n := fun n h1 h2 => by
  rw [← Int32.ofInt_int8ToInt, Int8.toInt_ofInt_of_le h1 (Int.lt_add_one_of_le h2)]
theorem lf_bip16 : ∀ n : Int, -32768 ≤ n → n ≤ 32767 → (Int16.ofInt n).toInt32 = Int32.ofInt n := fun n h1 h2 => by
  rw [← Int32.ofInt_int16ToInt, Int16.toInt_ofInt_of_le h1 (Int.lt_add_one_of_le h2)]
theorem lf_bipush (pc' : Nat) (n : Int) (hf : px_fetch k pc = some (.bipush n, 2)) (hp : pc + 2 = pc') (h1 : -128 ≤ n) (h2 : n ≤ 127) (kk : lf_E ro (d + 1) k pc' lv (.int (Int32.ofInt n) :: st) s Q) : lf_E ro (d + 1) k pc lv st s Q := by
  subst hp
  rw [← lf_bip8 n h1 h2] at kk
  exact lf_op (by unfold px_one; dsimp only; rw [hf]; dsimp only [px_ret, px_inv, px_op]) kk
theorem lf_sipush (pc' : Nat) (n : Int) (hf : px_fetch k pc = some (.sipush n, 3)) (hp : pc + 3 = pc') (h1 : -32768 ≤ n) (h2 : n ≤ 32767) (kk : lf_E ro (d + 1) k pc' lv (.int (Int32.ofInt n) :: st) s Q) : lf_E ro (d + 1) k pc lv st s Q := by
  subst hp
  rw [← lf_bip16 n h1 h2] at kk
  exact lf_op (by unfold px_one; dsimp only; rw [hf]; dsimp only [px_ret, px_inv, px_op]) kk
theorem lf_ldc (pc' : Nat) (n : Int) {j : Nat} {x : Int32} (hf : px_fetch k pc = some (.ldc j, 2)) (hp : pc + 2 = pc') (hv : px_int k j = some x) (hx : x = Int32.ofInt n) (kk : lf_E ro (d + 1) k pc' lv (.int (Int32.ofInt n) :: st) s Q) : lf_E ro (d + 1) k pc lv st s Q := by
  subst hp
  subst hx
  exact lf_op (by unfold px_one; dsimp only; rw [hf]; dsimp only [px_ret, px_inv, px_op, px_psh, px_ldcv]; rw [hv]) kk
theorem lf_ldcS (pc' : Nat) {j : Nat} (hf : px_fetch k pc = some (.ldc j, 2)) (hp : pc + 2 = pc') (hv : px_ldcv k j = some (.ref (px_SC + 3))) (kk : lf_E ro (d + 1) k pc' lv (.ref (px_SC + 3) :: st) s Q) : lf_E ro (d + 1) k pc lv st s Q := by
  subst hp
  exact lf_op (by unfold px_one; dsimp only; rw [hf]; dsimp only [px_ret, px_inv, px_op, px_psh]; rw [hv]) kk
theorem lf_ldc2 (pc' : Nat) (n : Int) {j : Nat} {x : Int64} (hf : px_fetch k pc = some (.ldc2_w j, 3)) (hp : pc + 3 = pc') (hv : px_lng k j = some x) (hx : x = Int64.ofInt n) (kk : lf_E ro (d + 1) k pc' lv (.long (Int64.ofInt n) :: st) s Q) : lf_E ro (d + 1) k pc lv st s Q := by
  subst hp
  subst hx
  exact lf_op (by unfold px_one; dsimp only; rw [hf]; dsimp only [px_ret, px_inv, px_op, px_psh]; rw [hv]; rfl) kk
theorem lf_lconst (pc' : Nat) (n : Int) {j : Fin 2} (hf : px_fetch k pc = some (.lconst j, 1)) (hp : pc + 1 = pc') (hx : (Int64.ofNat j.val) = Int64.ofInt n) (kk : lf_E ro (d + 1) k pc' lv (.long (Int64.ofInt n) :: st) s Q) : lf_E ro (d + 1) k pc lv st s Q := by
  subst hp
  rw [← hx] at kk
  exact lf_op (by unfold px_one; dsimp only; rw [hf]; dsimp only [px_ret, px_inv, px_op]) kk
theorem lf_getst (pc' j : Nat) {w : Value} (hf : px_fetch k pc = some (.getstatic j, 3)) (hp : pc + 3 = pc') (hv : px_stc k j = some w) (kk : lf_E ro (d + 1) k pc' lv (w :: st) s Q) : lf_E ro (d + 1) k pc lv st s Q := by
  subst hp
  exact lf_op (by unfold px_one; dsimp only; rw [hf]; dsimp only [px_ret, px_inv, px_op, px_psh]; rw [hv]) kk
theorem lf_iinc (pc' : Nat) {j : Nat} {n x : Int} (hf : px_fetch k pc = some (.iinc j n, 3)) (hp : pc + 3 = pc') (hl : px_ld lv j = some (.int (Int32.ofInt x))) (hm : Nat.blt j (px_maxL k) = true) (kk : lf_E ro (d + 1) k pc' (px_st1 lv j (.int (Int32.ofInt (x + n)))) st s Q) : lf_E ro (d + 1) k pc lv st s Q := by
  subst hp
  rw [Int32.ofInt_add] at kk
  exact lf_op (by unfold px_one; dsimp only; rw [hf]; dsimp only [px_ret, px_inv, px_op, px_oInc]; rw [hl]; dsimp only; rw [hm]; rfl) kk
theorem lf_icmp_eq (t pc' : Nat) {off : Int} (hf : px_fetch k pc = some (.if_icmp .eq off, 3)) (ht : px_tg pc off = some t) (hp : pc + 3 = pc') (ha : lf_R a) (hb : lf_R b) (kt : a = b → lf_E ro (d + 1) k t lv st s Q) (kf : ¬ (a = b) → lf_E ro (d + 1) k pc' lv st s Q) : lf_E ro (d + 1) k pc lv (.int (Int32.ofInt b) :: .int (Int32.ofInt a) :: st) s Q := by
  subst hp
  have key : px_cP .eq (Int32.ofInt a) (Int32.ofInt b) ↔ a = b := (lf_inj ha hb)
  refine lf_op (pc' := px_br .eq (Int32.ofInt a) (Int32.ofInt b) t (pc + 3)) (lv' := lv) (st' := st) (s' := s) ?_ ?_
  · unfold px_one; dsimp only; rw [hf]; dsimp only [px_ret, px_inv, px_op, px_oIcmp]; rw [ht]
  · by_cases hc : a = b
    · rw [px_br_t (key.mpr hc)]; exact kt hc
    · rw [px_br_f (fun h => hc (key.mp h))]; exact kf hc
theorem lf_if_eq (t pc' : Nat) {off : Int} (hf : px_fetch k pc = some (.ifCond .eq off, 3)) (ht : px_tg pc off = some t) (hp : pc + 3 = pc') (ha : lf_R a) (kt : a = 0 → lf_E ro (d + 1) k t lv st s Q) (kf : ¬ (a = 0) → lf_E ro (d + 1) k pc' lv st s Q) : lf_E ro (d + 1) k pc lv (.int (Int32.ofInt a) :: st) s Q := by
  subst hp
  have hb : lf_R 0 := ⟨by decide, by decide⟩
  have key : px_cP .eq (Int32.ofInt a) (Int32.ofInt 0) ↔ a = 0 := (lf_inj ha hb)
  refine lf_op (pc' := px_br .eq (Int32.ofInt a) 0 t (pc + 3)) (lv' := lv) (st' := st) (s' := s) ?_ ?_
  · unfold px_one; dsimp only; rw [hf]; dsimp only [px_ret, px_inv, px_op, px_oIf]; rw [ht]
  · by_cases hc : a = 0
    · rw [px_br_t (show px_cP .eq (Int32.ofInt a) 0 from key.mpr hc)]; exact kt hc
    · rw [px_br_f (show ¬ px_cP .eq (Int32.ofInt a) 0 from fun h => hc (key.mp h))]; exact kf hc
theorem lf_icmp_ne (t pc' : Nat) {off : Int} (hf : px_fetch k pc = some (.if_icmp .ne off, 3)) (ht : px_tg pc off = some t) (hp : pc + 3 = pc') (ha : lf_R a) (hb : lf_R b) (kt : a ≠ b → lf_E ro (d + 1) k t lv st s Q) (kf : ¬ (a ≠ b) → lf_E ro (d + 1) k pc' lv st s Q) : lf_E ro (d + 1) k pc lv (.int (Int32.ofInt b) :: .int (Int32.ofInt a) :: st) s Q := by
  subst hp
  have key : px_cP .ne (Int32.ofInt a) (Int32.ofInt b) ↔ a ≠ b := not_congr (lf_inj ha hb)
  refine lf_op (pc' := px_br .ne (Int32.ofInt a) (Int32.ofInt b) t (pc + 3)) (lv' := lv) (st' := st) (s' := s) ?_ ?_
  · unfold px_one; dsimp only; rw [hf]; dsimp only [px_ret, px_inv, px_op, px_oIcmp]; rw [ht]
  · by_cases hc : a ≠ b
    · rw [px_br_t (key.mpr hc)]; exact kt hc
    · rw [px_br_f (fun h => hc (key.mp h))]; exact kf hc
theorem lf_if_ne (t pc' : Nat) {off : Int} (hf : px_fetch k pc = some (.ifCond .ne off, 3)) (ht : px_tg pc off = some t) (hp : pc + 3 = pc') (ha : lf_R a) (kt : a ≠ 0 → lf_E ro (d + 1) k t lv st s Q) (kf : ¬ (a ≠ 0) → lf_E ro (d + 1) k pc' lv st s Q) : lf_E ro (d + 1) k pc lv (.int (Int32.ofInt a) :: st) s Q := by
  subst hp
  have hb : lf_R 0 := ⟨by decide, by decide⟩
  have key : px_cP .ne (Int32.ofInt a) (Int32.ofInt 0) ↔ a ≠ 0 := not_congr (lf_inj ha hb)
  refine lf_op (pc' := px_br .ne (Int32.ofInt a) 0 t (pc + 3)) (lv' := lv) (st' := st) (s' := s) ?_ ?_
  · unfold px_one; dsimp only; rw [hf]; dsimp only [px_ret, px_inv, px_op, px_oIf]; rw [ht]
  · by_cases hc : a ≠ 0
    · rw [px_br_t (show px_cP .ne (Int32.ofInt a) 0 from key.mpr hc)]; exact kt hc
    · rw [px_br_f (show ¬ px_cP .ne (Int32.ofInt a) 0 from fun h => hc (key.mp h))]; exact kf hc
theorem lf_icmp_lt (t pc' : Nat) {off : Int} (hf : px_fetch k pc = some (.if_icmp .lt off, 3)) (ht : px_tg pc off = some t) (hp : pc + 3 = pc') (ha : lf_R a) (hb : lf_R b) (kt : a < b → lf_E ro (d + 1) k t lv st s Q) (kf : ¬ (a < b) → lf_E ro (d + 1) k pc' lv st s Q) : lf_E ro (d + 1) k pc lv (.int (Int32.ofInt b) :: .int (Int32.ofInt a) :: st) s Q := by
  subst hp
  have key : px_cP .lt (Int32.ofInt a) (Int32.ofInt b) ↔ a < b := (lf_lt ha hb)
  refine lf_op (pc' := px_br .lt (Int32.ofInt a) (Int32.ofInt b) t (pc + 3)) (lv' := lv) (st' := st) (s' := s) ?_ ?_
  · unfold px_one; dsimp only; rw [hf]; dsimp only [px_ret, px_inv, px_op, px_oIcmp]; rw [ht]
  · by_cases hc : a < b
    · rw [px_br_t (key.mpr hc)]; exact kt hc
    · rw [px_br_f (fun h => hc (key.mp h))]; exact kf hc
theorem lf_if_lt (t pc' : Nat) {off : Int} (hf : px_fetch k pc = some (.ifCond .lt off, 3)) (ht : px_tg pc off = some t) (hp : pc + 3 = pc') (ha : lf_R a) (kt : a < 0 → lf_E ro (d + 1) k t lv st s Q) (kf : ¬ (a < 0) → lf_E ro (d + 1) k pc' lv st s Q) : lf_E ro (d + 1) k pc lv (.int (Int32.ofInt a) :: st) s Q := by
  subst hp
  have hb : lf_R 0 := ⟨by decide, by decide⟩
  have key : px_cP .lt (Int32.ofInt a) (Int32.ofInt 0) ↔ a < 0 := (lf_lt ha hb)
  refine lf_op (pc' := px_br .lt (Int32.ofInt a) 0 t (pc + 3)) (lv' := lv) (st' := st) (s' := s) ?_ ?_
  · unfold px_one; dsimp only; rw [hf]; dsimp only [px_ret, px_inv, px_op, px_oIf]; rw [ht]
  · by_cases hc : a < 0
    · rw [px_br_t (show px_cP .lt (Int32.ofInt a) 0 from key.mpr hc)]; exact kt hc
    · rw [px_br_f (show ¬ px_cP .lt (Int32.ofInt a) 0 from fun h => hc (key.mp h))]; exact kf hc
theorem lf_icmp_ge (t pc' : Nat) {off : Int} (hf : px_fetch k pc = some (.if_icmp .ge off, 3)) (ht : px_tg pc off = some t) (hp : pc + 3 = pc') (ha : lf_R a) (hb : lf_R b) (kt : b ≤ a → lf_E ro (d + 1) k t lv st s Q) (kf : ¬ (b ≤ a) → lf_E ro (d + 1) k pc' lv st s Q) : lf_E ro (d + 1) k pc lv (.int (Int32.ofInt b) :: .int (Int32.ofInt a) :: st) s Q := by
  subst hp
  have key : px_cP .ge (Int32.ofInt a) (Int32.ofInt b) ↔ b ≤ a := (lf_le hb ha)
  refine lf_op (pc' := px_br .ge (Int32.ofInt a) (Int32.ofInt b) t (pc + 3)) (lv' := lv) (st' := st) (s' := s) ?_ ?_
  · unfold px_one; dsimp only; rw [hf]; dsimp only [px_ret, px_inv, px_op, px_oIcmp]; rw [ht]
  · by_cases hc : b ≤ a
    · rw [px_br_t (key.mpr hc)]; exact kt hc
    · rw [px_br_f (fun h => hc (key.mp h))]; exact kf hc
theorem lf_if_ge (t pc' : Nat) {off : Int} (hf : px_fetch k pc = some (.ifCond .ge off, 3)) (ht : px_tg pc off = some t) (hp : pc + 3 = pc') (ha : lf_R a) (kt : 0 ≤ a → lf_E ro (d + 1) k t lv st s Q) (kf : ¬ (0 ≤ a) → lf_E ro (d + 1) k pc' lv st s Q) : lf_E ro (d + 1) k pc lv (.int (Int32.ofInt a) :: st) s Q := by
  subst hp
  have hb : lf_R 0 := ⟨by decide, by decide⟩
  have key : px_cP .ge (Int32.ofInt a) (Int32.ofInt 0) ↔ 0 ≤ a := (lf_le hb ha)
  refine lf_op (pc' := px_br .ge (Int32.ofInt a) 0 t (pc + 3)) (lv' := lv) (st' := st) (s' := s) ?_ ?_
  · unfold px_one; dsimp only; rw [hf]; dsimp only [px_ret, px_inv, px_op, px_oIf]; rw [ht]
  · by_cases hc : 0 ≤ a
    · rw [px_br_t (show px_cP .ge (Int32.ofInt a) 0 from key.mpr hc)]; exact kt hc
    · rw [px_br_f (show ¬ px_cP .ge (Int32.ofInt a) 0 from fun h => hc (key.mp h))]; exact kf hc
theorem lf_icmp_gt (t pc' : Nat) {off : Int} (hf : px_fetch k pc = some (.if_icmp .gt off, 3)) (ht : px_tg pc off = some t) (hp : pc + 3 = pc') (ha : lf_R a) (hb : lf_R b) (kt : b < a → lf_E ro (d + 1) k t lv st s Q) (kf : ¬ (b < a) → lf_E ro (d + 1) k pc' lv st s Q) : lf_E ro (d + 1) k pc lv (.int (Int32.ofInt b) :: .int (Int32.ofInt a) :: st) s Q := by
  subst hp
  have key : px_cP .gt (Int32.ofInt a) (Int32.ofInt b) ↔ b < a := (lf_lt hb ha)
  refine lf_op (pc' := px_br .gt (Int32.ofInt a) (Int32.ofInt b) t (pc + 3)) (lv' := lv) (st' := st) (s' := s) ?_ ?_
  · unfold px_one; dsimp only; rw [hf]; dsimp only [px_ret, px_inv, px_op, px_oIcmp]; rw [ht]
  · by_cases hc : b < a
    · rw [px_br_t (key.mpr hc)]; exact kt hc
    · rw [px_br_f (fun h => hc (key.mp h))]; exact kf hc
theorem lf_if_gt (t pc' : Nat) {off : Int} (hf : px_fetch k pc = some (.ifCond .gt off, 3)) (ht : px_tg pc off = some t) (hp : pc + 3 = pc') (ha : lf_R a) (kt : 0 < a → lf_E ro (d + 1) k t lv st s Q) (kf : ¬ (0 < a) → lf_E ro (d + 1) k pc' lv st s Q) : lf_E ro (d + 1) k pc lv (.int (Int32.ofInt a) :: st) s Q := by
  subst hp
  have hb : lf_R 0 := ⟨by decide, by decide⟩
  have key : px_cP .gt (Int32.ofInt a) (Int32.ofInt 0) ↔ 0 < a := (lf_lt hb ha)
  refine lf_op (pc' := px_br .gt (Int32.ofInt a) 0 t (pc + 3)) (lv' := lv) (st' := st) (s' := s) ?_ ?_
  · unfold px_one; dsimp only; rw [hf]; dsimp only [px_ret, px_inv, px_op, px_oIf]; rw [ht]
  · by_cases hc : 0 < a
    · rw [px_br_t (show px_cP .gt (Int32.ofInt a) 0 from key.mpr hc)]; exact kt hc
    · rw [px_br_f (show ¬ px_cP .gt (Int32.ofInt a) 0 from fun h => hc (key.mp h))]; exact kf hc
theorem lf_icmp_le (t pc' : Nat) {off : Int} (hf : px_fetch k pc = some (.if_icmp .le off, 3)) (ht : px_tg pc off = some t) (hp : pc + 3 = pc') (ha : lf_R a) (hb : lf_R b) (kt : a ≤ b → lf_E ro (d + 1) k t lv st s Q) (kf : ¬ (a ≤ b) → lf_E ro (d + 1) k pc' lv st s Q) : lf_E ro (d + 1) k pc lv (.int (Int32.ofInt b) :: .int (Int32.ofInt a) :: st) s Q := by
  subst hp
  have key : px_cP .le (Int32.ofInt a) (Int32.ofInt b) ↔ a ≤ b := (lf_le ha hb)
  refine lf_op (pc' := px_br .le (Int32.ofInt a) (Int32.ofInt b) t (pc + 3)) (lv' := lv) (st' := st) (s' := s) ?_ ?_
  · unfold px_one; dsimp only; rw [hf]; dsimp only [px_ret, px_inv, px_op, px_oIcmp]; rw [ht]
  · by_cases hc : a ≤ b
    · rw [px_br_t (key.mpr hc)]; exact kt hc
    · rw [px_br_f (fun h => hc (key.mp h))]; exact kf hc
theorem lf_if_le (t pc' : Nat) {off : Int} (hf : px_fetch k pc = some (.ifCond .le off, 3)) (ht : px_tg pc off = some t) (hp : pc + 3 = pc') (ha : lf_R a) (kt : a ≤ 0 → lf_E ro (d + 1) k t lv st s Q) (kf : ¬ (a ≤ 0) → lf_E ro (d + 1) k pc' lv st s Q) : lf_E ro (d + 1) k pc lv (.int (Int32.ofInt a) :: st) s Q := by
  subst hp
  have hb : lf_R 0 := ⟨by decide, by decide⟩
  have key : px_cP .le (Int32.ofInt a) (Int32.ofInt 0) ↔ a ≤ 0 := (lf_le ha hb)
  refine lf_op (pc' := px_br .le (Int32.ofInt a) 0 t (pc + 3)) (lv' := lv) (st' := st) (s' := s) ?_ ?_
  · unfold px_one; dsimp only; rw [hf]; dsimp only [px_ret, px_inv, px_op, px_oIf]; rw [ht]
  · by_cases hc : a ≤ 0
    · rw [px_br_t (show px_cP .le (Int32.ofInt a) 0 from key.mpr hc)]; exact kt hc
    · rw [px_br_f (show ¬ px_cP .le (Int32.ofInt a) 0 from fun h => hc (key.mp h))]; exact kf hc
theorem lf_ifz_eq {z : Bool} (t pc' : Nat) {off : Int} (hf : px_fetch k pc = some (.ifCond .eq off, 3)) (ht : px_tg pc off = some t) (hp : pc + 3 = pc') (kt : z = false → lf_E ro (d + 1) k t lv st s Q) (kf : z = true → lf_E ro (d + 1) k pc' lv st s Q) : lf_E ro (d + 1) k pc lv (.int (Int32.ofInt (lf_b z)) :: st) s Q := by
  refine lf_if_eq t pc' hf ht hp (by cases z <;> exact ⟨by decide, by decide⟩) (fun h => kt ?_) (fun h => kf ?_)
  · cases z <;> first | rfl | exact absurd h (by decide)
  · cases z <;> first | rfl | exact absurd (by decide) h
theorem lf_ifz_ne {z : Bool} (t pc' : Nat) {off : Int} (hf : px_fetch k pc = some (.ifCond .ne off, 3)) (ht : px_tg pc off = some t) (hp : pc + 3 = pc') (kt : z = true → lf_E ro (d + 1) k t lv st s Q) (kf : z = false → lf_E ro (d + 1) k pc' lv st s Q) : lf_E ro (d + 1) k pc lv (.int (Int32.ofInt (lf_b z)) :: st) s Q := by
  refine lf_if_ne t pc' hf ht hp (by cases z <;> exact ⟨by decide, by decide⟩) (fun h => kt ?_) (fun h => kf ?_)
  · cases z <;> first | rfl | exact absurd h (by decide)
  · cases z <;> first | rfl | exact absurd (by decide) h
theorem lf_cmp3 (ha : lf_RL a) (hb : lf_RL b) : lg_cmp (Int64.ofInt a) (Int64.ofInt b) = Int32.ofInt (if a < b then -1 else if a = b then 0 else 1) := by
  have h1 := lf_ltL ha hb
  have h2 := lf_injL ha hb
  have h3 := lf_ltL hb ha
  unfold lg_cmp
  by_cases c1 : a < b
  · have c2 : ¬ b < a := by omega
    have c3 : ¬ a = b := by omega
    simp [h1.mpr c1, c1, h2, h3, c2, c3]
    first | rfl | done
  · by_cases c3 : a = b
    · simp [h1, h2, h3, c3]
      first | rfl | done
    · have c2 : b < a := by omega
      simp [h1, h2, h3, c1, c2, c3]
      first | rfl | done
theorem lf_lif_eq (t pc' : Nat) {off : Int} (hf : px_fetch k pc = some (.lcmp, 1)) (hf2 : px_fetch k (pc + 1) = some (.ifCond .eq off, 3)) (ht : px_tg (pc + 1) off = some t) (hp : pc + 4 = pc') (ha : lf_RL a) (hb : lf_RL b) (kt : a = b → lf_E ro (d + 1) k t lv st s Q) (kf : ¬ (a = b) → lf_E ro (d + 1) k pc' lv st s Q) : lf_E ro (d + 1) k pc lv (.long (Int64.ofInt b) :: .long (Int64.ofInt a) :: st) s Q := by
  refine lf_op (pc' := pc + 1) (lv' := lv) (st' := .int (lg_cmp (Int64.ofInt a) (Int64.ofInt b)) :: st) (s' := s) (by unfold px_one; dsimp only; rw [hf]; dsimp only [px_ret, px_inv, px_op, px_oLcmp]) ?_
  rw [lf_cmp3 ha hb]
  refine lf_if_eq t pc' hf2 ht (by omega) ?_ (fun h => kt ?_) (fun h => kf ?_)
  · split
    · exact ⟨by decide, by decide⟩
    · split <;> exact ⟨by decide, by decide⟩
  · split at h
    · omega
    · split at h <;> omega
  · split at h
    · omega
    · split at h <;> omega
theorem lf_lif_ne (t pc' : Nat) {off : Int} (hf : px_fetch k pc = some (.lcmp, 1)) (hf2 : px_fetch k (pc + 1) = some (.ifCond .ne off, 3)) (ht : px_tg (pc + 1) off = some t) (hp : pc + 4 = pc') (ha : lf_RL a) (hb : lf_RL b) (kt : a ≠ b → lf_E ro (d + 1) k t lv st s Q) (kf : ¬ (a ≠ b) → lf_E ro (d + 1) k pc' lv st s Q) : lf_E ro (d + 1) k pc lv (.long (Int64.ofInt b) :: .long (Int64.ofInt a) :: st) s Q := by
  refine lf_op (pc' := pc + 1) (lv' := lv) (st' := .int (lg_cmp (Int64.ofInt a) (Int64.ofInt b)) :: st) (s' := s) (by unfold px_one; dsimp only; rw [hf]; dsimp only [px_ret, px_inv, px_op, px_oLcmp]) ?_
  rw [lf_cmp3 ha hb]
  refine lf_if_ne t pc' hf2 ht (by omega) ?_ (fun h => kt ?_) (fun h => kf ?_)
  · split
    · exact ⟨by decide, by decide⟩
    · split <;> exact ⟨by decide, by decide⟩
  · split at h
    · omega
    · split at h <;> omega
  · split at h
    · omega
    · split at h <;> omega
theorem lf_lif_lt (t pc' : Nat) {off : Int} (hf : px_fetch k pc = some (.lcmp, 1)) (hf2 : px_fetch k (pc + 1) = some (.ifCond .lt off, 3)) (ht : px_tg (pc + 1) off = some t) (hp : pc + 4 = pc') (ha : lf_RL a) (hb : lf_RL b) (kt : a < b → lf_E ro (d + 1) k t lv st s Q) (kf : ¬ (a < b) → lf_E ro (d + 1) k pc' lv st s Q) : lf_E ro (d + 1) k pc lv (.long (Int64.ofInt b) :: .long (Int64.ofInt a) :: st) s Q := by
  refine lf_op (pc' := pc + 1) (lv' := lv) (st' := .int (lg_cmp (Int64.ofInt a) (Int64.ofInt b)) :: st) (s' := s) (by unfold px_one; dsimp only; rw [hf]; dsimp only [px_ret, px_inv, px_op, px_oLcmp]) ?_
  rw [lf_cmp3 ha hb]
  refine lf_if_lt t pc' hf2 ht (by omega) ?_ (fun h => kt ?_) (fun h => kf ?_)
  · split
    · exact ⟨by decide, by decide⟩
    · split <;> exact ⟨by decide, by decide⟩
  · split at h
    · omega
    · split at h <;> omega
  · split at h
    · omega
    · split at h <;> omega
theorem lf_lif_ge (t pc' : Nat) {off : Int} (hf : px_fetch k pc = some (.lcmp, 1)) (hf2 : px_fetch k (pc + 1) = some (.ifCond .ge off, 3)) (ht : px_tg (pc + 1) off = some t) (hp : pc + 4 = pc') (ha : lf_RL a) (hb : lf_RL b) (kt : b ≤ a → lf_E ro (d + 1) k t lv st s Q) (kf : ¬ (b ≤ a) → lf_E ro (d + 1) k pc' lv st s Q) : lf_E ro (d + 1) k pc lv (.long (Int64.ofInt b) :: .long (Int64.ofInt a) :: st) s Q := by
  refine lf_op (pc' := pc + 1) (lv' := lv) (st' := .int (lg_cmp (Int64.ofInt a) (Int64.ofInt b)) :: st) (s' := s) (by unfold px_one; dsimp only; rw [hf]; dsimp only [px_ret, px_inv, px_op, px_oLcmp]) ?_
  rw [lf_cmp3 ha hb]
  refine lf_if_ge t pc' hf2 ht (by omega) ?_ (fun h => kt ?_) (fun h => kf ?_)
  · split
    · exact ⟨by decide, by decide⟩
    · split <;> exact ⟨by decide, by decide⟩
  · split at h
    · omega
    · split at h <;> omega
  · split at h
    · omega
    · split at h <;> omega
theorem lf_lif_gt (t pc' : Nat) {off : Int} (hf : px_fetch k pc = some (.lcmp, 1)) (hf2 : px_fetch k (pc + 1) = some (.ifCond .gt off, 3)) (ht : px_tg (pc + 1) off = some t) (hp : pc + 4 = pc') (ha : lf_RL a) (hb : lf_RL b) (kt : b < a → lf_E ro (d + 1) k t lv st s Q) (kf : ¬ (b < a) → lf_E ro (d + 1) k pc' lv st s Q) : lf_E ro (d + 1) k pc lv (.long (Int64.ofInt b) :: .long (Int64.ofInt a) :: st) s Q := by
  refine lf_op (pc' := pc + 1) (lv' := lv) (st' := .int (lg_cmp (Int64.ofInt a) (Int64.ofInt b)) :: st) (s' := s) (by unfold px_one; dsimp only; rw [hf]; dsimp only [px_ret, px_inv, px_op, px_oLcmp]) ?_
  rw [lf_cmp3 ha hb]
  refine lf_if_gt t pc' hf2 ht (by omega) ?_ (fun h => kt ?_) (fun h => kf ?_)
  · split
    · exact ⟨by decide, by decide⟩
    · split <;> exact ⟨by decide, by decide⟩
  · split at h
    · omega
    · split at h <;> omega
  · split at h
    · omega
    · split at h <;> omega
theorem lf_lif_le (t pc' : Nat) {off : Int} (hf : px_fetch k pc = some (.lcmp, 1)) (hf2 : px_fetch k (pc + 1) = some (.ifCond .le off, 3)) (ht : px_tg (pc + 1) off = some t) (hp : pc + 4 = pc') (ha : lf_RL a) (hb : lf_RL b) (kt : a ≤ b → lf_E ro (d + 1) k t lv st s Q) (kf : ¬ (a ≤ b) → lf_E ro (d + 1) k pc' lv st s Q) : lf_E ro (d + 1) k pc lv (.long (Int64.ofInt b) :: .long (Int64.ofInt a) :: st) s Q := by
  refine lf_op (pc' := pc + 1) (lv' := lv) (st' := .int (lg_cmp (Int64.ofInt a) (Int64.ofInt b)) :: st) (s' := s) (by unfold px_one; dsimp only; rw [hf]; dsimp only [px_ret, px_inv, px_op, px_oLcmp]) ?_
  rw [lf_cmp3 ha hb]
  refine lf_if_le t pc' hf2 ht (by omega) ?_ (fun h => kt ?_) (fun h => kf ?_)
  · split
    · exact ⟨by decide, by decide⟩
    · split <;> exact ⟨by decide, by decide⟩
  · split at h
    · omega
    · split at h <;> omega
  · split at h
    · omega
    · split at h <;> omega
end LFR
