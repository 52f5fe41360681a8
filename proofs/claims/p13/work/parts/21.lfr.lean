/-! THE LIFT'S RULES: heaps of whole numbers (ints by cell and place; longs; four references that change) -/
abbrev lf_Z : Type := (Nat → Int → Int) × (Nat → Int → Int) × (Nat → Option Nat)
def lf_P (r : Nat → Option Nat) (c f : Nat) : Option Nat := bif Nat.beq c 68 && Nat.beq f 6 then r 0 else bif Nat.beq c 68 && Nat.beq f 7 then r 1 else bif Nat.beq c 31 && Nat.beq f 5 then (r 2).map (fun t => 35 + 7 * t) else bif Nat.beq c 63 && Nat.beq f 2 then (r 3).map (fun t => 35 + 7 * t) else px_PX c f
def lf_H (s : lf_Z) : px_H := (px_shX, fun c i => Int32.ofInt (s.1 c i), fun c i => Int64.ofInt (s.2.1 c i), lf_P s.2.2)
def lf_up (f : Nat → Int → Int) (c : Nat) (i v : Int) : Nat → Int → Int := fun a b => if a = c then (if b = i then v else f a b) else f a b
def lf_ur (r : Nat → Option Nat) (k : Nat) (v : Option Nat) : Nat → Option Nat := fun a => if a = k then v else r a
theorem lf_up_I {f : Nat → Int → Int} {c n : Nat} {v : Int} : px_up (fun c i => Int32.ofInt (f c i)) c n (Int32.ofInt v) = fun a (b : Nat) => Int32.ofInt (lf_up f c n v a b) := by
  funext a b
  unfold px_up lf_up
  by_cases ha : a = c
  · subst ha
    rw [show Nat.beq a a = true from Nat.beq_refl a, if_pos rfl]
    by_cases hb : b = n
    · subst hb
      rw [show Nat.beq b b = true from Nat.beq_refl b, if_pos rfl]
      rfl
    · rw [px_beqN hb, if_neg (by omega)]
      rfl
  · rw [px_beqN ha, if_neg ha]
    rfl
theorem lf_up_J {f : Nat → Int → Int} {c n : Nat} {v : Int} : px_up (fun c i => Int64.ofInt (f c i)) c n (Int64.ofInt v) = fun a (b : Nat) => Int64.ofInt (lf_up f c n v a b) := by
  funext a b
  unfold px_up lf_up
  by_cases ha : a = c
  · subst ha
    rw [show Nat.beq a a = true from Nat.beq_refl a, if_pos rfl]
    by_cases hb : b = n
    · subst hb
      rw [show Nat.beq b b = true from Nat.beq_refl b, if_pos rfl]
      rfl
    · rw [px_beqN hb, if_neg (by omega)]
      rfl
  · rw [px_beqN ha, if_neg ha]
    rfl
theorem lf_st_I {s : lf_Z} {c n : Nat} {i v : Int} (hi : (n : Int) = i) : ((lf_H s).1, px_up (lf_H s).2.1 c n (Int32.ofInt v), (lf_H s).2.2.1, (lf_H s).2.2.2) = lf_H (lf_up s.1 c i v, s.2) := by
  subst hi
  show (px_shX, px_up (fun c i => Int32.ofInt (s.1 c i)) c n (Int32.ofInt v), _, _) = _
  rw [lf_up_I]
  rfl
theorem lf_st_J {s : lf_Z} {c n : Nat} {i v : Int} (hi : (n : Int) = i) : ((lf_H s).1, (lf_H s).2.1, px_up (lf_H s).2.2.1 c n (Int64.ofInt v), (lf_H s).2.2.2) = lf_H (s.1, lf_up s.2.1 c i v, s.2.2) := by
  subst hi
  show (px_shX, _, px_up (fun c i => Int64.ofInt (s.2.1 c i)) c n (Int64.ofInt v), _) = _
  rw [lf_up_J]
  rfl
/-- method k, from a state on, comes to an answer and a heap of which Q holds -/
def lf_E (ro : px_RO) (d k pc : Nat) (lv : px_L) (st : List Value) (s : lf_Z) (Q : Option Value → lf_Z → Prop) : Prop := ∃ (r : Option Value) (s' : lf_Z), px_E ro d k (pc, lv, st, lf_H s) r (lf_H s') ∧ Q r s'
def lf_M (ro : px_RO) (d j : Nat) (as : List Value) (s : lf_Z) (Q : Option Value → lf_Z → Prop) : Prop := lf_E ro d j 0 (lv_args 0 as) [] s Q
def lf_qi (Q : Int → lf_Z → Prop) : Option Value → lf_Z → Prop := fun r s => ∃ v : Int, r = some (.int (Int32.ofInt v)) ∧ Q v s
def lf_ql (Q : Int → lf_Z → Prop) : Option Value → lf_Z → Prop := fun r s => ∃ v : Int, r = some (.long (Int64.ofInt v)) ∧ Q v s
def lf_b (b : Bool) : Int := match b with | true => 1 | false => 0
def lf_qz (Q : Bool → lf_Z → Prop) : Option Value → lf_Z → Prop := fun r s => ∃ b : Bool, r = some (.int (Int32.ofInt (lf_b b))) ∧ Q b s
def lf_qv (Q : lf_Z → Prop) : Option Value → lf_Z → Prop := fun r s => r = none ∧ Q s
def lf_qr (Q : Option Nat → lf_Z → Prop) : Option Value → lf_Z → Prop := fun r s => ∃ t : Option Nat, r = some (match t with | some t => .ref (35 + 7 * t) | none => .null) ∧ Q t s
section LFR
variable {ro : px_RO} {d k pc : Nat} {lv : px_L} {st : List Value} {s : lf_Z} {Q : Option Value → lf_Z → Prop} {a b i v : Int}
theorem lf_op {pc' : Nat} {lv' : px_L} {st' : List Value} {s' : lf_Z} (h1 : px_one ro k (pc, lv, st, lf_H s) = some (pc', lv', st', lf_H s')) (kk : lf_E ro (d + 1) k pc' lv' st' s' Q) : lf_E ro (d + 1) k pc lv st s Q := by
  obtain ⟨r, s1, h, q⟩ := kk
  exact ⟨r, s1, px_E_one h1 h, q⟩
theorem lf_seg (n : Nat) {pc' : Nat} {lv' : px_L} {st' : List Value} (h1 : px_seg ro k n (pc, lv, st, lf_H s) = some (pc', lv', st', lf_H s)) (kk : lf_E ro (d + 1) k pc' lv' st' s Q) : lf_E ro (d + 1) k pc lv st s Q := by
  obtain ⟨r, s1, h, q⟩ := kk
  exact ⟨r, s1, px_E_seg n h1 h, q⟩
theorem lf_sub {l : px_L} (hs : lf_Sb l lv) (kk : lf_E ro d k pc l st s Q) : lf_E ro d k pc lv st s Q := by
  obtain ⟨r, s1, h, q⟩ := kk
  exact ⟨r, s1, px_E_sb hs h, q⟩
theorem lf_sb0 {lv : px_L} : lf_Sb [] lv := fun q hq => by cases hq
theorem lf_sb1 {lv r : px_L} {i : Nat} {v : Value} (h : px_ld lv i = some v) (hr : lf_Sb r lv) : lf_Sb ((i, v) :: r) lv := by
  intro q hq
  rcases List.mem_cons.mp hq with rfl | hq
  · exact h
  · exact hr q hq
theorem lf_E.deep {d' : Nat} (h : lf_E ro d k pc lv st s Q) (hd : d ≤ d') : lf_E ro d' k pc lv st s Q := by
  obtain ⟨r, s1, h, q⟩ := h
  exact ⟨r, s1, h.deep hd, q⟩
theorem lf_E.mono {Q' : Option Value → lf_Z → Prop} (h : lf_E ro d k pc lv st s Q) (hq : ∀ r s, Q r s → Q' r s) : lf_E ro d k pc lv st s Q' := by
  obtain ⟨r, s1, h, q⟩ := h
  exact ⟨r, s1, h, hq _ _ q⟩
def lf_R (a : Int) : Prop := -2147483648 ≤ a ∧ a ≤ 2147483647
def lf_RL (a : Int) : Prop := -9223372036854775808 ≤ a ∧ a ≤ 9223372036854775807
theorem lf_R_i (a : Int32) : lf_R a.toInt := ⟨a.le_toInt, Int.le_of_lt_add_one a.toInt_lt⟩
theorem lf_RL_i (a : Int64) : lf_RL a.toInt := ⟨a.le_toInt, Int.le_of_lt_add_one a.toInt_lt⟩
theorem lf_inj (ha : lf_R a) (hb : lf_R b) : Int32.ofInt a = Int32.ofInt b ↔ a = b := by
  refine ⟨fun h => ?_, fun h => by rw [h]⟩
  have h2 := congrArg Int32.toInt h
  rw [Int32.toInt_ofInt_of_le ha.1 (Int.lt_add_one_of_le ha.2), Int32.toInt_ofInt_of_le hb.1 (Int.lt_add_one_of_le hb.2)] at h2
  exact h2
theorem lf_le (ha : lf_R a) (hb : lf_R b) : Int32.ofInt a ≤ Int32.ofInt b ↔ a ≤ b := Int32.ofInt_le_iff_le ha.1 ha.2 hb.1 hb.2
theorem lf_lt (ha : lf_R a) (hb : lf_R b) : Int32.ofInt a < Int32.ofInt b ↔ a < b := Int32.ofInt_lt_iff_lt ha.1 ha.2 hb.1 hb.2
theorem lf_injL (ha : lf_RL a) (hb : lf_RL b) : Int64.ofInt a = Int64.ofInt b ↔ a = b := by
  refine ⟨fun h => ?_, fun h => by rw [h]⟩
  have h2 := congrArg Int64.toInt h
  rw [Int64.toInt_ofInt_of_le ha.1 (Int.lt_add_one_of_le ha.2), Int64.toInt_ofInt_of_le hb.1 (Int.lt_add_one_of_le hb.2)] at h2
  exact h2
theorem lf_ltL (ha : lf_RL a) (hb : lf_RL b) : Int64.ofInt a < Int64.ofInt b ↔ a < b := Int64.ofInt_lt_iff_lt ha.1 ha.2 hb.1 hb.2
/-! bits -/
def lf_and (a b : Int) : Int := (Int32.ofInt a &&& Int32.ofInt b).toInt
def lf_or (a b : Int) : Int := (Int32.ofInt a ||| Int32.ofInt b).toInt
def lf_xor (a b : Int) : Int := (Int32.ofInt a ^^^ Int32.ofInt b).toInt
def lf_shl (a b : Int) : Int := (Int32.ofInt a <<< (Int32.ofInt b &&& 31)).toInt
def lf_shr (a b : Int) : Int := (Int32.ofInt a >>> (Int32.ofInt b &&& 31)).toInt
def lf_ushr (a b : Int) : Int := ((Int32.ofInt a).toUInt32 >>> ((Int32.ofInt b).toUInt32 &&& Int32.toUInt32 31)).toInt32.toInt
def lf_lor (a b : Int) : Int := (Int64.ofInt a ||| Int64.ofInt b).toInt
def lf_lshl (a b : Int) : Int := (Int64.ofInt a <<< ((Int32.ofInt b).toInt64 &&& 63)).toInt
def lf_lshr (a b : Int) : Int := (Int64.ofInt a >>> ((Int32.ofInt b).toInt64 &&& 63)).toInt
theorem lf_iadd (pc' : Nat) (hf : px_fetch k pc = some (.iadd, 1)) (hp : pc + 1 = pc') (kk : lf_E ro (d + 1) k pc' lv (.int (Int32.ofInt (a + b)) :: st) s Q) : lf_E ro (d + 1) k pc lv (.int (Int32.ofInt b) :: .int (Int32.ofInt a) :: st) s Q := by
  subst hp
  rw [Int32.ofInt_add] at kk
  exact lf_op (by unfold px_one; dsimp only; rw [hf]; dsimp only [px_ret, px_inv, px_op, px_oAri, px_ari]) kk
theorem lf_isub (pc' : Nat) (hf : px_fetch k pc = some (.isub, 1)) (hp : pc + 1 = pc') (kk : lf_E ro (d + 1) k pc' lv (.int (Int32.ofInt (a - b)) :: st) s Q) : lf_E ro (d + 1) k pc lv (.int (Int32.ofInt b) :: .int (Int32.ofInt a) :: st) s Q := by
  subst hp
  rw [Int32.ofInt_sub] at kk
  exact lf_op (by unfold px_one; dsimp only; rw [hf]; dsimp only [px_ret, px_inv, px_op, px_oAri, px_ari]) kk
theorem lf_imul (pc' : Nat) (hf : px_fetch k pc = some (.imul, 1)) (hp : pc + 1 = pc') (kk : lf_E ro (d + 1) k pc' lv (.int (Int32.ofInt (a * b)) :: st) s Q) : lf_E ro (d + 1) k pc lv (.int (Int32.ofInt b) :: .int (Int32.ofInt a) :: st) s Q := by
  subst hp
  rw [Int32.ofInt_mul] at kk
  exact lf_op (by unfold px_one; dsimp only; rw [hf]; dsimp only [px_ret, px_inv, px_op, px_oAri, px_ari]) kk
theorem lf_ladd (pc' : Nat) (hf : px_fetch k pc = some (.ladd, 1)) (hp : pc + 1 = pc') (kk : lf_E ro (d + 1) k pc' lv (.long (Int64.ofInt (a + b)) :: st) s Q) : lf_E ro (d + 1) k pc lv (.long (Int64.ofInt b) :: .long (Int64.ofInt a) :: st) s Q := by
  subst hp
  rw [Int64.ofInt_add] at kk
  exact lf_op (by unfold px_one; dsimp only; rw [hf]; dsimp only [px_ret, px_inv, px_op, px_oArl, px_arl]) kk
theorem lf_lsub (pc' : Nat) (hf : px_fetch k pc = some (.lsub, 1)) (hp : pc + 1 = pc') (kk : lf_E ro (d + 1) k pc' lv (.long (Int64.ofInt (a - b)) :: st) s Q) : lf_E ro (d + 1) k pc lv (.long (Int64.ofInt b) :: .long (Int64.ofInt a) :: st) s Q := by
  subst hp
  rw [Int64.ofInt_sub] at kk
  exact lf_op (by unfold px_one; dsimp only; rw [hf]; dsimp only [px_ret, px_inv, px_op, px_oArl, px_arl]) kk
theorem lf_lmul (pc' : Nat) (hf : px_fetch k pc = some (.lmul, 1)) (hp : pc + 1 = pc') (kk : lf_E ro (d + 1) k pc' lv (.long (Int64.ofInt (a * b)) :: st) s Q) : lf_E ro (d + 1) k pc lv (.long (Int64.ofInt b) :: .long (Int64.ofInt a) :: st) s Q := by
  subst hp
  rw [Int64.ofInt_mul] at kk
  exact lf_op (by unfold px_one; dsimp only; rw [hf]; dsimp only [px_ret, px_inv, px_op, px_oArl, px_arl]) kk
theorem lf_iand (pc' : Nat) (hf : px_fetch k pc = some (.iand, 1)) (hp : pc + 1 = pc') (kk : lf_E ro (d + 1) k pc' lv (.int (Int32.ofInt (lf_and a b)) :: st) s Q) : lf_E ro (d + 1) k pc lv (.int (Int32.ofInt b) :: .int (Int32.ofInt a) :: st) s Q := by
  subst hp
  unfold lf_and at kk
  rw [Int32.ofInt_toInt] at kk
  exact lf_op (by unfold px_one; dsimp only; rw [hf]; dsimp only [px_ret, px_inv, px_op, px_oAri, px_ari]) kk
theorem lf_ior (pc' : Nat) (hf : px_fetch k pc = some (.ior, 1)) (hp : pc + 1 = pc') (kk : lf_E ro (d + 1) k pc' lv (.int (Int32.ofInt (lf_or a b)) :: st) s Q) : lf_E ro (d + 1) k pc lv (.int (Int32.ofInt b) :: .int (Int32.ofInt a) :: st) s Q := by
  subst hp
  unfold lf_or at kk
  rw [Int32.ofInt_toInt] at kk
  exact lf_op (by unfold px_one; dsimp only; rw [hf]; dsimp only [px_ret, px_inv, px_op, px_oAri, px_ari]) kk
theorem lf_ixor (pc' : Nat) (hf : px_fetch k pc = some (.ixor, 1)) (hp : pc + 1 = pc') (kk : lf_E ro (d + 1) k pc' lv (.int (Int32.ofInt (lf_xor a b)) :: st) s Q) : lf_E ro (d + 1) k pc lv (.int (Int32.ofInt b) :: .int (Int32.ofInt a) :: st) s Q := by
  subst hp
  unfold lf_xor at kk
  rw [Int32.ofInt_toInt] at kk
  exact lf_op (by unfold px_one; dsimp only; rw [hf]; dsimp only [px_ret, px_inv, px_op, px_oAri, px_ari]) kk
theorem lf_ishl (pc' : Nat) (hf : px_fetch k pc = some (.ishl, 1)) (hp : pc + 1 = pc') (kk : lf_E ro (d + 1) k pc' lv (.int (Int32.ofInt (lf_shl a b)) :: st) s Q) : lf_E ro (d + 1) k pc lv (.int (Int32.ofInt b) :: .int (Int32.ofInt a) :: st) s Q := by
  subst hp
  unfold lf_shl at kk
  rw [Int32.ofInt_toInt] at kk
  exact lf_op (by unfold px_one; dsimp only; rw [hf]; dsimp only [px_ret, px_inv, px_op, px_oAri, px_ari]) kk
theorem lf_ishr (pc' : Nat) (hf : px_fetch k pc = some (.ishr, 1)) (hp : pc + 1 = pc') (kk : lf_E ro (d + 1) k pc' lv (.int (Int32.ofInt (lf_shr a b)) :: st) s Q) : lf_E ro (d + 1) k pc lv (.int (Int32.ofInt b) :: .int (Int32.ofInt a) :: st) s Q := by
  subst hp
  unfold lf_shr at kk
  rw [Int32.ofInt_toInt] at kk
  exact lf_op (by unfold px_one; dsimp only; rw [hf]; dsimp only [px_ret, px_inv, px_op, px_oAri, px_ari]) kk
theorem lf_iushr (pc' : Nat) (hf : px_fetch k pc = some (.iushr, 1)) (hp : pc + 1 = pc') (kk : lf_E ro (d + 1) k pc' lv (.int (Int32.ofInt (lf_ushr a b)) :: st) s Q) : lf_E ro (d + 1) k pc lv (.int (Int32.ofInt b) :: .int (Int32.ofInt a) :: st) s Q := by
  subst hp
  unfold lf_ushr at kk
  rw [Int32.ofInt_toInt] at kk
  exact lf_op (by unfold px_one; dsimp only; rw [hf]; dsimp only [px_ret, px_inv, px_op, px_oAri, px_ari]) kk
theorem lf_lor' (pc' : Nat) (hf : px_fetch k pc = some (.lor, 1)) (hp : pc + 1 = pc') (kk : lf_E ro (d + 1) k pc' lv (.long (Int64.ofInt (lf_lor a b)) :: st) s Q) : lf_E ro (d + 1) k pc lv (.long (Int64.ofInt b) :: .long (Int64.ofInt a) :: st) s Q := by
  subst hp
  unfold lf_lor at kk
  rw [Int64.ofInt_toInt] at kk
  exact lf_op (by unfold px_one; dsimp only; rw [hf]; dsimp only [px_ret, px_inv, px_op, px_oArl, px_arl]) kk
theorem lf_lshl' (pc' : Nat) (hf : px_fetch k pc = some (.lshl, 1)) (hp : pc + 1 = pc') (kk : lf_E ro (d + 1) k pc' lv (.long (Int64.ofInt (lf_lshl a b)) :: st) s Q) : lf_E ro (d + 1) k pc lv (.int (Int32.ofInt b) :: .long (Int64.ofInt a) :: st) s Q := by
  subst hp
  unfold lf_lshl at kk
  rw [Int64.ofInt_toInt] at kk
  exact lf_op (by unfold px_one; dsimp only; rw [hf]; dsimp only [px_ret, px_inv, px_op, px_oLshl]) kk
theorem lf_lshr' (pc' : Nat) (hf : px_fetch k pc = some (.lshr, 1)) (hp : pc + 1 = pc') (kk : lf_E ro (d + 1) k pc' lv (.long (Int64.ofInt (lf_lshr a b)) :: st) s Q) : lf_E ro (d + 1) k pc lv (.int (Int32.ofInt b) :: .long (Int64.ofInt a) :: st) s Q := by
  subst hp
  unfold lf_lshr at kk
  rw [Int64.ofInt_toInt] at kk
  exact lf_op (by unfold px_one; dsimp only; rw [hf]; dsimp only [px_ret, px_inv, px_op, px_oLshr]) kk
theorem lf_idiv (pc' : Nat) (hf : px_fetch k pc = some (.idiv, 1)) (hp : pc + 1 = pc') (ha : lf_R a) (hb : lf_R b) (h0 : b ≠ 0) (kk : lf_E ro (d + 1) k pc' lv (.int (Int32.ofInt (a.tdiv b)) :: st) s Q) : lf_E ro (d + 1) k pc lv (.int (Int32.ofInt b) :: .int (Int32.ofInt a) :: st) s Q := by
  subst hp
  have hne : ¬ Int32.ofInt b = 0 := fun h => h0 ((lf_inj hb ⟨by decide, by decide⟩).mp (h.trans (show (0 : Int32) = Int32.ofInt 0 from rfl)))
  refine lf_op ?_ kk
  unfold px_one
  dsimp only
  rw [hf]
  dsimp only [px_ret, px_inv, px_op, px_oAri, px_ari]
  rw [if_neg hne, Int32.ofInt_tdiv ha.1 ha.2 hb.1 hb.2]
theorem lf_irem (pc' : Nat) (hf : px_fetch k pc = some (.irem, 1)) (hp : pc + 1 = pc') (ha : lf_R a) (hb : lf_R b) (h0 : b ≠ 0) (kk : lf_E ro (d + 1) k pc' lv (.int (Int32.ofInt (a.tmod b)) :: st) s Q) : lf_E ro (d + 1) k pc lv (.int (Int32.ofInt b) :: .int (Int32.ofInt a) :: st) s Q := by
  subst hp
  have hne : ¬ Int32.ofInt b = 0 := fun h => h0 ((lf_inj hb ⟨by decide, by decide⟩).mp (h.trans (show (0 : Int32) = Int32.ofInt 0 from rfl)))
  refine lf_op ?_ kk
  unfold px_one
  dsimp only
  rw [hf]
  dsimp only [px_ret, px_inv, px_op, px_oAri, px_ari]
  rw [if_neg hne, show a.tmod b = a - a.tdiv b * b from by rw [Int.tmod_def, Int.mul_comm], Int32.ofInt_sub, Int32.ofInt_mul, Int32.ofInt_tdiv ha.1 ha.2 hb.1 hb.2]
theorem lf_ldiv (pc' : Nat) (hf : px_fetch k pc = some (.ldiv, 1)) (hp : pc + 1 = pc') (ha : lf_RL a) (hb : lf_RL b) (h0 : b ≠ 0) (kk : lf_E ro (d + 1) k pc' lv (.long (Int64.ofInt (a.tdiv b)) :: st) s Q) : lf_E ro (d + 1) k pc lv (.long (Int64.ofInt b) :: .long (Int64.ofInt a) :: st) s Q := by
  subst hp
  have hne : ¬ Int64.ofInt b = 0 := fun h => h0 ((lf_injL hb ⟨by decide, by decide⟩).mp (h.trans (show (0 : Int64) = Int64.ofInt 0 from rfl)))
  refine lf_op ?_ kk
  unfold px_one
  dsimp only
  rw [hf]
  dsimp only [px_ret, px_inv, px_op, px_oArl, px_arl]
  rw [if_neg hne, Int64.ofInt_tdiv ha.1 ha.2 hb.1 hb.2]
theorem lf_lrem (pc' : Nat) (hf : px_fetch k pc = some (.lrem, 1)) (hp : pc + 1 = pc') (ha : lf_RL a) (hb : lf_RL b) (h0 : b ≠ 0) (kk : lf_E ro (d + 1) k pc' lv (.long (Int64.ofInt (a.tmod b)) :: st) s Q) : lf_E ro (d + 1) k pc lv (.long (Int64.ofInt b) :: .long (Int64.ofInt a) :: st) s Q := by
  subst hp
  have hne : ¬ Int64.ofInt b = 0 := fun h => h0 ((lf_injL hb ⟨by decide, by decide⟩).mp (h.trans (show (0 : Int64) = Int64.ofInt 0 from rfl)))
  refine lf_op ?_ kk
  unfold px_one
  dsimp only
  rw [hf]
  dsimp only [px_ret, px_inv, px_op, px_oArl, px_arl]
  rw [if_neg hne, show a.tmod b = a - a.tdiv b * b from by rw [Int.tmod_def, Int.mul_comm], Int64.ofInt_sub, Int64.ofInt_mul, Int64.ofInt_tdiv ha.1 ha.2 hb.1 hb.2]
theorem lf_ineg (pc' : Nat) (hf : px_fetch k pc = some (.ineg, 1)) (hp : pc + 1 = pc') (kk : lf_E ro (d + 1) k pc' lv (.int (Int32.ofInt (-a)) :: st) s Q) : lf_E ro (d + 1) k pc lv (.int (Int32.ofInt a) :: st) s Q := by
  subst hp
  rw [Int32.ofInt_neg] at kk
  exact lf_op (by unfold px_one; dsimp only; rw [hf]; dsimp only [px_ret, px_inv, px_op, px_oIneg]) kk
theorem lf_lneg (pc' : Nat) (hf : px_fetch k pc = some (.lneg, 1)) (hp : pc + 1 = pc') (kk : lf_E ro (d + 1) k pc' lv (.long (Int64.ofInt (-a)) :: st) s Q) : lf_E ro (d + 1) k pc lv (.long (Int64.ofInt a) :: st) s Q := by
  subst hp
  rw [Int64.ofInt_neg] at kk
  exact lf_op (by unfold px_one; dsimp only; rw [hf]; dsimp only [px_ret, px_inv, px_op, px_oLneg]) kk
theorem lf_i2l (pc' : Nat) (hf : px_fetch k pc = some (.i2l, 1)) (hp : pc + 1 = pc') (ha : lf_R a) (kk : lf_E ro (d + 1) k pc' lv (.long (Int64.ofInt a) :: st) s Q) : lf_E ro (d + 1) k pc lv (.int (Int32.ofInt a) :: st) s Q := by
  subst hp
  rw [← Int32.toInt64_ofInt ha.1 ha.2] at kk
  exact lf_op (by unfold px_one; dsimp only; rw [hf]; dsimp only [px_ret, px_inv, px_op, px_oI2l]) kk
theorem lf_l2i (pc' : Nat) (hf : px_fetch k pc = some (.l2i, 1)) (hp : pc + 1 = pc') (kk : lf_E ro (d + 1) k pc' lv (.int (Int32.ofInt a) :: st) s Q) : lf_E ro (d + 1) k pc lv (.long (Int64.ofInt a) :: st) s Q := by
  subst hp
  rw [← Int64.toInt32_ofInt] at kk
  exact lf_op (by unfold px_one; dsimp only; rw [hf]; dsimp only [px_ret, px_inv, px_op, px_oL2i]) kk
theorem lf_bip8 : ∀ n : Int, -128 ≤ n → n ≤ 127 → (Int8.ofInt n).toInt32 = Int32.ofInt n := fun n h1 h2 => by
  rw [← Int32.ofInt_int8ToInt, Int8.toInt_ofInt_of_le h1 (Int.lt_add_one_of_le h2)]
theorem lf_bip16 : ∀ n : Int, -32768 ≤ n → n ≤ 32767 → (Int16.ofInt n).toInt32 = Int32.ofInt n := fun n h1 h2 => by
  rw [← Int32.ofInt_int16ToInt, Int16.toInt_ofInt_of_le h1 (Int.lt_add_one_of_le h2)]
theorem lf_bipush (pc' : Nat) (n : Int) (hf : px_fetch k pc = some (.bipush n, 2)) (hp : pc + 2 = pc') (h1 : -128 ≤ n) (h2 : n ≤ 127) (kk : lf_E ro (d + 1) k pc' lv (.int (Int32.ofInt n) :: st) s Q) : lf_E ro (d + 1) k pc lv st s Q := by
  subst hp
  rw [← lf_bip8 n h1 h2] at kk
  exact lf_op (by unfold px_one; dsimp only; rw [hf]; dsimp only [px_ret, px_inv, px_op]) kk
theorem lf_sipush (pc' : Nat) (n : Int) (hf : px_fetch k pc = some (.sipush n, 3)) (hp : pc + 3 = pc') (h1 : -32768 ≤ n) (h2 : n ≤ 32767) (kk : lf_E ro (d + 1) k pc' lv (.int (Int32.ofInt n) :: st) s Q) : lf_E ro (d + 1) k pc lv st s Q := by
  subst hp
  rw [← lf_bip16 n h1 h2] at kk
  exact lf_op (by unfold px_one; dsimp only; rw [hf]; dsimp only [px_ret, px_inv, px_op]) kk
theorem lf_ldc (pc' : Nat) (n : Int) {j : Nat} {x : Int32} (hf : px_fetch k pc = some (.ldc j, 2)) (hp : pc + 2 = pc') (hv : px_int k j = some x) (hx : x = Int32.ofInt n) (kk : lf_E ro (d + 1) k pc' lv (.int (Int32.ofInt n) :: st) s Q) : lf_E ro (d + 1) k pc lv st s Q := by
  subst hp
  subst hx
  exact lf_op (by unfold px_one; dsimp only; rw [hf]; dsimp only [px_ret, px_inv, px_op, px_psh, px_ldcv]; rw [hv]) kk
theorem lf_ldcS (pc' : Nat) {j : Nat} (hf : px_fetch k pc = some (.ldc j, 2)) (hp : pc + 2 = pc') (hv : px_ldcv k j = some (.ref (px_SC + 3))) (kk : lf_E ro (d + 1) k pc' lv (.ref (px_SC + 3) :: st) s Q) : lf_E ro (d + 1) k pc lv st s Q := by
  subst hp
  exact lf_op (by unfold px_one; dsimp only; rw [hf]; dsimp only [px_ret, px_inv, px_op, px_psh]; rw [hv]) kk
theorem lf_ldc2 (pc' : Nat) (n : Int) {j : Nat} {x : Int64} (hf : px_fetch k pc = some (.ldc2_w j, 3)) (hp : pc + 3 = pc') (hv : px_lng k j = some x) (hx : x = Int64.ofInt n) (kk : lf_E ro (d + 1) k pc' lv (.long (Int64.ofInt n) :: st) s Q) : lf_E ro (d + 1) k pc lv st s Q := by
  subst hp
  subst hx
  exact lf_op (by unfold px_one; dsimp only; rw [hf]; dsimp only [px_ret, px_inv, px_op, px_psh]; rw [hv]; rfl) kk
theorem lf_lconst (pc' : Nat) (n : Int) {j : Fin 2} (hf : px_fetch k pc = some (.lconst j, 1)) (hp : pc + 1 = pc') (hx : (Int64.ofNat j.val) = Int64.ofInt n) (kk : lf_E ro (d + 1) k pc' lv (.long (Int64.ofInt n) :: st) s Q) : lf_E ro (d + 1) k pc lv st s Q := by
  subst hp
  rw [← hx] at kk
  exact lf_op (by unfold px_one; dsimp only; rw [hf]; dsimp only [px_ret, px_inv, px_op]) kk
theorem lf_getst (pc' j : Nat) {w : Value} (hf : px_fetch k pc = some (.getstatic j, 3)) (hp : pc + 3 = pc') (hv : px_stc k j = some w) (kk : lf_E ro (d + 1) k pc' lv (w :: st) s Q) : lf_E ro (d + 1) k pc lv st s Q := by
  subst hp
  exact lf_op (by unfold px_one; dsimp only; rw [hf]; dsimp only [px_ret, px_inv, px_op, px_psh]; rw [hv]) kk
theorem lf_iinc (pc' : Nat) {j : Nat} {n x : Int} (hf : px_fetch k pc = some (.iinc j n, 3)) (hp : pc + 3 = pc') (hl : px_ld lv j = some (.int (Int32.ofInt x))) (hm : Nat.blt j (px_maxL k) = true) (kk : lf_E ro (d + 1) k pc' (px_st1 lv j (.int (Int32.ofInt (x + n)))) st s Q) : lf_E ro (d + 1) k pc lv st s Q := by
  subst hp
  rw [Int32.ofInt_add] at kk
  exact lf_op (by unfold px_one; dsimp only; rw [hf]; dsimp only [px_ret, px_inv, px_op, px_oInc]; rw [hl]; dsimp only; rw [hm]; rfl) kk
theorem lf_icmp_eq (t pc' : Nat) {off : Int} (hf : px_fetch k pc = some (.if_icmp .eq off, 3)) (ht : px_tg pc off = some t) (hp : pc + 3 = pc') (ha : lf_R a) (hb : lf_R b) (kt : a = b → lf_E ro (d + 1) k t lv st s Q) (kf : ¬ (a = b) → lf_E ro (d + 1) k pc' lv st s Q) : lf_E ro (d + 1) k pc lv (.int (Int32.ofInt b) :: .int (Int32.ofInt a) :: st) s Q := by
  subst hp
  have key : px_cP .eq (Int32.ofInt a) (Int32.ofInt b) ↔ a = b := (lf_inj ha hb)
  refine lf_op (pc' := px_br .eq (Int32.ofInt a) (Int32.ofInt b) t (pc + 3)) (lv' := lv) (st' := st) (s' := s) ?_ ?_
  · unfold px_one; dsimp only; rw [hf]; dsimp only [px_ret, px_inv, px_op, px_oIcmp]; rw [ht]
  · by_cases hc : a = b
    · rw [px_br_t (key.mpr hc)]; exact kt hc
    · rw [px_br_f (fun h => hc (key.mp h))]; exact kf hc
theorem lf_if_eq (t pc' : Nat) {off : Int} (hf : px_fetch k pc = some (.ifCond .eq off, 3)) (ht : px_tg pc off = some t) (hp : pc + 3 = pc') (ha : lf_R a) (kt : a = 0 → lf_E ro (d + 1) k t lv st s Q) (kf : ¬ (a = 0) → lf_E ro (d + 1) k pc' lv st s Q) : lf_E ro (d + 1) k pc lv (.int (Int32.ofInt a) :: st) s Q := by
  subst hp
  have hb : lf_R 0 := ⟨by decide, by decide⟩
  have key : px_cP .eq (Int32.ofInt a) (Int32.ofInt 0) ↔ a = 0 := (lf_inj ha hb)
  refine lf_op (pc' := px_br .eq (Int32.ofInt a) 0 t (pc + 3)) (lv' := lv) (st' := st) (s' := s) ?_ ?_
  · unfold px_one; dsimp only; rw [hf]; dsimp only [px_ret, px_inv, px_op, px_oIf]; rw [ht]
  · by_cases hc : a = 0
    · rw [px_br_t (show px_cP .eq (Int32.ofInt a) 0 from key.mpr hc)]; exact kt hc
    · rw [px_br_f (show ¬ px_cP .eq (Int32.ofInt a) 0 from fun h => hc (key.mp h))]; exact kf hc
theorem lf_icmp_ne (t pc' : Nat) {off : Int} (hf : px_fetch k pc = some (.if_icmp .ne off, 3)) (ht : px_tg pc off = some t) (hp : pc + 3 = pc') (ha : lf_R a) (hb : lf_R b) (kt : a ≠ b → lf_E ro (d + 1) k t lv st s Q) (kf : ¬ (a ≠ b) → lf_E ro (d + 1) k pc' lv st s Q) : lf_E ro (d + 1) k pc lv (.int (Int32.ofInt b) :: .int (Int32.ofInt a) :: st) s Q := by
  subst hp
  have key : px_cP .ne (Int32.ofInt a) (Int32.ofInt b) ↔ a ≠ b := not_congr (lf_inj ha hb)
  refine lf_op (pc' := px_br .ne (Int32.ofInt a) (Int32.ofInt b) t (pc + 3)) (lv' := lv) (st' := st) (s' := s) ?_ ?_
  · unfold px_one; dsimp only; rw [hf]; dsimp only [px_ret, px_inv, px_op, px_oIcmp]; rw [ht]
  · by_cases hc : a ≠ b
    · rw [px_br_t (key.mpr hc)]; exact kt hc
    · rw [px_br_f (fun h => hc (key.mp h))]; exact kf hc
theorem lf_if_ne (t pc' : Nat) {off : Int} (hf : px_fetch k pc = some (.ifCond .ne off, 3)) (ht : px_tg pc off = some t) (hp : pc + 3 = pc') (ha : lf_R a) (kt : a ≠ 0 → lf_E ro (d + 1) k t lv st s Q) (kf : ¬ (a ≠ 0) → lf_E ro (d + 1) k pc' lv st s Q) : lf_E ro (d + 1) k pc lv (.int (Int32.ofInt a) :: st) s Q := by
  subst hp
  have hb : lf_R 0 := ⟨by decide, by decide⟩
  have key : px_cP .ne (Int32.ofInt a) (Int32.ofInt 0) ↔ a ≠ 0 := not_congr (lf_inj ha hb)
  refine lf_op (pc' := px_br .ne (Int32.ofInt a) 0 t (pc + 3)) (lv' := lv) (st' := st) (s' := s) ?_ ?_
  · unfold px_one; dsimp only; rw [hf]; dsimp only [px_ret, px_inv, px_op, px_oIf]; rw [ht]
  · by_cases hc : a ≠ 0
    · rw [px_br_t (show px_cP .ne (Int32.ofInt a) 0 from key.mpr hc)]; exact kt hc
    · rw [px_br_f (show ¬ px_cP .ne (Int32.ofInt a) 0 from fun h => hc (key.mp h))]; exact kf hc
theorem lf_icmp_lt (t pc' : Nat) {off : Int} (hf : px_fetch k pc = some (.if_icmp .lt off, 3)) (ht : px_tg pc off = some t) (hp : pc + 3 = pc') (ha : lf_R a) (hb : lf_R b) (kt : a < b → lf_E ro (d + 1) k t lv st s Q) (kf : ¬ (a < b) → lf_E ro (d + 1) k pc' lv st s Q) : lf_E ro (d + 1) k pc lv (.int (Int32.ofInt b) :: .int (Int32.ofInt a) :: st) s Q := by
  subst hp
  have key : px_cP .lt (Int32.ofInt a) (Int32.ofInt b) ↔ a < b := (lf_lt ha hb)
  refine lf_op (pc' := px_br .lt (Int32.ofInt a) (Int32.ofInt b) t (pc + 3)) (lv' := lv) (st' := st) (s' := s) ?_ ?_
  · unfold px_one; dsimp only; rw [hf]; dsimp only [px_ret, px_inv, px_op, px_oIcmp]; rw [ht]
  · by_cases hc : a < b
    · rw [px_br_t (key.mpr hc)]; exact kt hc
    · rw [px_br_f (fun h => hc (key.mp h))]; exact kf hc
theorem lf_if_lt (t pc' : Nat) {off : Int} (hf : px_fetch k pc = some (.ifCond .lt off, 3)) (ht : px_tg pc off = some t) (hp : pc + 3 = pc') (ha : lf_R a) (kt : a < 0 → lf_E ro (d + 1) k t lv st s Q) (kf : ¬ (a < 0) → lf_E ro (d + 1) k pc' lv st s Q) : lf_E ro (d + 1) k pc lv (.int (Int32.ofInt a) :: st) s Q := by
  subst hp
  have hb : lf_R 0 := ⟨by decide, by decide⟩
  have key : px_cP .lt (Int32.ofInt a) (Int32.ofInt 0) ↔ a < 0 := (lf_lt ha hb)
  refine lf_op (pc' := px_br .lt (Int32.ofInt a) 0 t (pc + 3)) (lv' := lv) (st' := st) (s' := s) ?_ ?_
  · unfold px_one; dsimp only; rw [hf]; dsimp only [px_ret, px_inv, px_op, px_oIf]; rw [ht]
  · by_cases hc : a < 0
    · rw [px_br_t (show px_cP .lt (Int32.ofInt a) 0 from key.mpr hc)]; exact kt hc
    · rw [px_br_f (show ¬ px_cP .lt (Int32.ofInt a) 0 from fun h => hc (key.mp h))]; exact kf hc
theorem lf_icmp_ge (t pc' : Nat) {off : Int} (hf : px_fetch k pc = some (.if_icmp .ge off, 3)) (ht : px_tg pc off = some t) (hp : pc + 3 = pc') (ha : lf_R a) (hb : lf_R b) (kt : b ≤ a → lf_E ro (d + 1) k t lv st s Q) (kf : ¬ (b ≤ a) → lf_E ro (d + 1) k pc' lv st s Q) : lf_E ro (d + 1) k pc lv (.int (Int32.ofInt b) :: .int (Int32.ofInt a) :: st) s Q := by
  subst hp
  have key : px_cP .ge (Int32.ofInt a) (Int32.ofInt b) ↔ b ≤ a := (lf_le hb ha)
  refine lf_op (pc' := px_br .ge (Int32.ofInt a) (Int32.ofInt b) t (pc + 3)) (lv' := lv) (st' := st) (s' := s) ?_ ?_
  · unfold px_one; dsimp only; rw [hf]; dsimp only [px_ret, px_inv, px_op, px_oIcmp]; rw [ht]
  · by_cases hc : b ≤ a
    · rw [px_br_t (key.mpr hc)]; exact kt hc
    · rw [px_br_f (fun h => hc (key.mp h))]; exact kf hc
theorem lf_if_ge (t pc' : Nat) {off : Int} (hf : px_fetch k pc = some (.ifCond .ge off, 3)) (ht : px_tg pc off = some t) (hp : pc + 3 = pc') (ha : lf_R a) (kt : 0 ≤ a → lf_E ro (d + 1) k t lv st s Q) (kf : ¬ (0 ≤ a) → lf_E ro (d + 1) k pc' lv st s Q) : lf_E ro (d + 1) k pc lv (.int (Int32.ofInt a) :: st) s Q := by
  subst hp
  have hb : lf_R 0 := ⟨by decide, by decide⟩
  have key : px_cP .ge (Int32.ofInt a) (Int32.ofInt 0) ↔ 0 ≤ a := (lf_le hb ha)
  refine lf_op (pc' := px_br .ge (Int32.ofInt a) 0 t (pc + 3)) (lv' := lv) (st' := st) (s' := s) ?_ ?_
  · unfold px_one; dsimp only; rw [hf]; dsimp only [px_ret, px_inv, px_op, px_oIf]; rw [ht]
  · by_cases hc : 0 ≤ a
    · rw [px_br_t (show px_cP .ge (Int32.ofInt a) 0 from key.mpr hc)]; exact kt hc
    · rw [px_br_f (show ¬ px_cP .ge (Int32.ofInt a) 0 from fun h => hc (key.mp h))]; exact kf hc
theorem lf_icmp_gt (t pc' : Nat) {off : Int} (hf : px_fetch k pc = some (.if_icmp .gt off, 3)) (ht : px_tg pc off = some t) (hp : pc + 3 = pc') (ha : lf_R a) (hb : lf_R b) (kt : b < a → lf_E ro (d + 1) k t lv st s Q) (kf : ¬ (b < a) → lf_E ro (d + 1) k pc' lv st s Q) : lf_E ro (d + 1) k pc lv (.int (Int32.ofInt b) :: .int (Int32.ofInt a) :: st) s Q := by
  subst hp
  have key : px_cP .gt (Int32.ofInt a) (Int32.ofInt b) ↔ b < a := (lf_lt hb ha)
  refine lf_op (pc' := px_br .gt (Int32.ofInt a) (Int32.ofInt b) t (pc + 3)) (lv' := lv) (st' := st) (s' := s) ?_ ?_
  · unfold px_one; dsimp only; rw [hf]; dsimp only [px_ret, px_inv, px_op, px_oIcmp]; rw [ht]
  · by_cases hc : b < a
    · rw [px_br_t (key.mpr hc)]; exact kt hc
    · rw [px_br_f (fun h => hc (key.mp h))]; exact kf hc
theorem lf_if_gt (t pc' : Nat) {off : Int} (hf : px_fetch k pc = some (.ifCond .gt off, 3)) (ht : px_tg pc off = some t) (hp : pc + 3 = pc') (ha : lf_R a) (kt : 0 < a → lf_E ro (d + 1) k t lv st s Q) (kf : ¬ (0 < a) → lf_E ro (d + 1) k pc' lv st s Q) : lf_E ro (d + 1) k pc lv (.int (Int32.ofInt a) :: st) s Q := by
  subst hp
  have hb : lf_R 0 := ⟨by decide, by decide⟩
  have key : px_cP .gt (Int32.ofInt a) (Int32.ofInt 0) ↔ 0 < a := (lf_lt hb ha)
  refine lf_op (pc' := px_br .gt (Int32.ofInt a) 0 t (pc + 3)) (lv' := lv) (st' := st) (s' := s) ?_ ?_
  · unfold px_one; dsimp only; rw [hf]; dsimp only [px_ret, px_inv, px_op, px_oIf]; rw [ht]
  · by_cases hc : 0 < a
    · rw [px_br_t (show px_cP .gt (Int32.ofInt a) 0 from key.mpr hc)]; exact kt hc
    · rw [px_br_f (show ¬ px_cP .gt (Int32.ofInt a) 0 from fun h => hc (key.mp h))]; exact kf hc
theorem lf_icmp_le (t pc' : Nat) {off : Int} (hf : px_fetch k pc = some (.if_icmp .le off, 3)) (ht : px_tg pc off = some t) (hp : pc + 3 = pc') (ha : lf_R a) (hb : lf_R b) (kt : a ≤ b → lf_E ro (d + 1) k t lv st s Q) (kf : ¬ (a ≤ b) → lf_E ro (d + 1) k pc' lv st s Q) : lf_E ro (d + 1) k pc lv (.int (Int32.ofInt b) :: .int (Int32.ofInt a) :: st) s Q := by
  subst hp
  have key : px_cP .le (Int32.ofInt a) (Int32.ofInt b) ↔ a ≤ b := (lf_le ha hb)
  refine lf_op (pc' := px_br .le (Int32.ofInt a) (Int32.ofInt b) t (pc + 3)) (lv' := lv) (st' := st) (s' := s) ?_ ?_
  · unfold px_one; dsimp only; rw [hf]; dsimp only [px_ret, px_inv, px_op, px_oIcmp]; rw [ht]
  · by_cases hc : a ≤ b
    · rw [px_br_t (key.mpr hc)]; exact kt hc
    · rw [px_br_f (fun h => hc (key.mp h))]; exact kf hc
theorem lf_if_le (t pc' : Nat) {off : Int} (hf : px_fetch k pc = some (.ifCond .le off, 3)) (ht : px_tg pc off = some t) (hp : pc + 3 = pc') (ha : lf_R a) (kt : a ≤ 0 → lf_E ro (d + 1) k t lv st s Q) (kf : ¬ (a ≤ 0) → lf_E ro (d + 1) k pc' lv st s Q) : lf_E ro (d + 1) k pc lv (.int (Int32.ofInt a) :: st) s Q := by
  subst hp
  have hb : lf_R 0 := ⟨by decide, by decide⟩
  have key : px_cP .le (Int32.ofInt a) (Int32.ofInt 0) ↔ a ≤ 0 := (lf_le ha hb)
  refine lf_op (pc' := px_br .le (Int32.ofInt a) 0 t (pc + 3)) (lv' := lv) (st' := st) (s' := s) ?_ ?_
  · unfold px_one; dsimp only; rw [hf]; dsimp only [px_ret, px_inv, px_op, px_oIf]; rw [ht]
  · by_cases hc : a ≤ 0
    · rw [px_br_t (show px_cP .le (Int32.ofInt a) 0 from key.mpr hc)]; exact kt hc
    · rw [px_br_f (show ¬ px_cP .le (Int32.ofInt a) 0 from fun h => hc (key.mp h))]; exact kf hc
theorem lf_ifz_eq {z : Bool} (t pc' : Nat) {off : Int} (hf : px_fetch k pc = some (.ifCond .eq off, 3)) (ht : px_tg pc off = some t) (hp : pc + 3 = pc') (kt : z = false → lf_E ro (d + 1) k t lv st s Q) (kf : z = true → lf_E ro (d + 1) k pc' lv st s Q) : lf_E ro (d + 1) k pc lv (.int (Int32.ofInt (lf_b z)) :: st) s Q := by
  refine lf_if_eq t pc' hf ht hp (by cases z <;> exact ⟨by decide, by decide⟩) (fun h => kt ?_) (fun h => kf ?_)
  · cases z <;> first | rfl | exact absurd h (by decide)
  · cases z <;> first | rfl | exact absurd (by decide) h
theorem lf_ifz_ne {z : Bool} (t pc' : Nat) {off : Int} (hf : px_fetch k pc = some (.ifCond .ne off, 3)) (ht : px_tg pc off = some t) (hp : pc + 3 = pc') (kt : z = true → lf_E ro (d + 1) k t lv st s Q) (kf : z = false → lf_E ro (d + 1) k pc' lv st s Q) : lf_E ro (d + 1) k pc lv (.int (Int32.ofInt (lf_b z)) :: st) s Q := by
  refine lf_if_ne t pc' hf ht hp (by cases z <;> exact ⟨by decide, by decide⟩) (fun h => kt ?_) (fun h => kf ?_)
  · cases z <;> first | rfl | exact absurd h (by decide)
  · cases z <;> first | rfl | exact absurd (by decide) h
theorem lf_cmp3 (ha : lf_RL a) (hb : lf_RL b) : lg_cmp (Int64.ofInt a) (Int64.ofInt b) = Int32.ofInt (if a < b then -1 else if a = b then 0 else 1) := by
  have h1 := lf_ltL ha hb
  have h2 := lf_injL ha hb
  have h3 := lf_ltL hb ha
  unfold lg_cmp
  by_cases c1 : a < b
  · have c2 : ¬ b < a := by omega
    have c3 : ¬ a = b := by omega
    simp [h1.mpr c1, c1, h2, h3, c2, c3]
    first | rfl | done
  · by_cases c3 : a = b
    · simp [h1, h2, h3, c3]
      first | rfl | done
    · have c2 : b < a := by omega
      simp [h1, h2, h3, c1, c2, c3]
      first | rfl | done
theorem lf_lif_eq (t pc' : Nat) {off : Int} (hf : px_fetch k pc = some (.lcmp, 1)) (hf2 : px_fetch k (pc + 1) = some (.ifCond .eq off, 3)) (ht : px_tg (pc + 1) off = some t) (hp : pc + 4 = pc') (ha : lf_RL a) (hb : lf_RL b) (kt : a = b → lf_E ro (d + 1) k t lv st s Q) (kf : ¬ (a = b) → lf_E ro (d + 1) k pc' lv st s Q) : lf_E ro (d + 1) k pc lv (.long (Int64.ofInt b) :: .long (Int64.ofInt a) :: st) s Q := by
  refine lf_op (pc' := pc + 1) (lv' := lv) (st' := .int (lg_cmp (Int64.ofInt a) (Int64.ofInt b)) :: st) (s' := s) (by unfold px_one; dsimp only; rw [hf]; dsimp only [px_ret, px_inv, px_op, px_oLcmp]) ?_
  rw [lf_cmp3 ha hb]
  refine lf_if_eq t pc' hf2 ht (by omega) ?_ (fun h => kt ?_) (fun h => kf ?_)
  · split
    · exact ⟨by decide, by decide⟩
    · split <;> exact ⟨by decide, by decide⟩
  · split at h
    · omega
    · split at h <;> omega
  · split at h
    · omega
    · split at h <;> omega
theorem lf_lif_ne (t pc' : Nat) {off : Int} (hf : px_fetch k pc = some (.lcmp, 1)) (hf2 : px_fetch k (pc + 1) = some (.ifCond .ne off, 3)) (ht : px_tg (pc + 1) off = some t) (hp : pc + 4 = pc') (ha : lf_RL a) (hb : lf_RL b) (kt : a ≠ b → lf_E ro (d + 1) k t lv st s Q) (kf : ¬ (a ≠ b) → lf_E ro (d + 1) k pc' lv st s Q) : lf_E ro (d + 1) k pc lv (.long (Int64.ofInt b) :: .long (Int64.ofInt a) :: st) s Q := by
  refine lf_op (pc' := pc + 1) (lv' := lv) (st' := .int (lg_cmp (Int64.ofInt a) (Int64.ofInt b)) :: st) (s' := s) (by unfold px_one; dsimp only; rw [hf]; dsimp only [px_ret, px_inv, px_op, px_oLcmp]) ?_
  rw [lf_cmp3 ha hb]
  refine lf_if_ne t pc' hf2 ht (by omega) ?_ (fun h => kt ?_) (fun h => kf ?_)
  · split
    · exact ⟨by decide, by decide⟩
    · split <;> exact ⟨by decide, by decide⟩
  · split at h
    · omega
    · split at h <;> omega
  · split at h
    · omega
    · split at h <;> omega
theorem lf_lif_lt (t pc' : Nat) {off : Int} (hf : px_fetch k pc = some (.lcmp, 1)) (hf2 : px_fetch k (pc + 1) = some (.ifCond .lt off, 3)) (ht : px_tg (pc + 1) off = some t) (hp : pc + 4 = pc') (ha : lf_RL a) (hb : lf_RL b) (kt : a < b → lf_E ro (d + 1) k t lv st s Q) (kf : ¬ (a < b) → lf_E ro (d + 1) k pc' lv st s Q) : lf_E ro (d + 1) k pc lv (.long (Int64.ofInt b) :: .long (Int64.ofInt a) :: st) s Q := by
  refine lf_op (pc' := pc + 1) (lv' := lv) (st' := .int (lg_cmp (Int64.ofInt a) (Int64.ofInt b)) :: st) (s' := s) (by unfold px_one; dsimp only; rw [hf]; dsimp only [px_ret, px_inv, px_op, px_oLcmp]) ?_
  rw [lf_cmp3 ha hb]
  refine lf_if_lt t pc' hf2 ht (by omega) ?_ (fun h => kt ?_) (fun h => kf ?_)
  · split
    · exact ⟨by decide, by decide⟩
    · split <;> exact ⟨by decide, by decide⟩
  · split at h
    · omega
    · split at h <;> omega
  · split at h
    · omega
    · split at h <;> omega
theorem lf_lif_ge (t pc' : Nat) {off : Int} (hf : px_fetch k pc = some (.lcmp, 1)) (hf2 : px_fetch k (pc + 1) = some (.ifCond .ge off, 3)) (ht : px_tg (pc + 1) off = some t) (hp : pc + 4 = pc') (ha : lf_RL a) (hb : lf_RL b) (kt : b ≤ a → lf_E ro (d + 1) k t lv st s Q) (kf : ¬ (b ≤ a) → lf_E ro (d + 1) k pc' lv st s Q) : lf_E ro (d + 1) k pc lv (.long (Int64.ofInt b) :: .long (Int64.ofInt a) :: st) s Q := by
  refine lf_op (pc' := pc + 1) (lv' := lv) (st' := .int (lg_cmp (Int64.ofInt a) (Int64.ofInt b)) :: st) (s' := s) (by unfold px_one; dsimp only; rw [hf]; dsimp only [px_ret, px_inv, px_op, px_oLcmp]) ?_
  rw [lf_cmp3 ha hb]
  refine lf_if_ge t pc' hf2 ht (by omega) ?_ (fun h => kt ?_) (fun h => kf ?_)
  · split
    · exact ⟨by decide, by decide⟩
    · split <;> exact ⟨by decide, by decide⟩
  · split at h
    · omega
    · split at h <;> omega
  · split at h
    · omega
    · split at h <;> omega
theorem lf_lif_gt (t pc' : Nat) {off : Int} (hf : px_fetch k pc = some (.lcmp, 1)) (hf2 : px_fetch k (pc + 1) = some (.ifCond .gt off, 3)) (ht : px_tg (pc + 1) off = some t) (hp : pc + 4 = pc') (ha : lf_RL a) (hb : lf_RL b) (kt : b < a → lf_E ro (d + 1) k t lv st s Q) (kf : ¬ (b < a) → lf_E ro (d + 1) k pc' lv st s Q) : lf_E ro (d + 1) k pc lv (.long (Int64.ofInt b) :: .long (Int64.ofInt a) :: st) s Q := by
  refine lf_op (pc' := pc + 1) (lv' := lv) (st' := .int (lg_cmp (Int64.ofInt a) (Int64.ofInt b)) :: st) (s' := s) (by unfold px_one; dsimp only; rw [hf]; dsimp only [px_ret, px_inv, px_op, px_oLcmp]) ?_
  rw [lf_cmp3 ha hb]
  refine lf_if_gt t pc' hf2 ht (by omega) ?_ (fun h => kt ?_) (fun h => kf ?_)
  · split
    · exact ⟨by decide, by decide⟩
    · split <;> exact ⟨by decide, by decide⟩
  · split at h
    · omega
    · split at h <;> omega
  · split at h
    · omega
    · split at h <;> omega
theorem lf_lif_le (t pc' : Nat) {off : Int} (hf : px_fetch k pc = some (.lcmp, 1)) (hf2 : px_fetch k (pc + 1) = some (.ifCond .le off, 3)) (ht : px_tg (pc + 1) off = some t) (hp : pc + 4 = pc') (ha : lf_RL a) (hb : lf_RL b) (kt : a ≤ b → lf_E ro (d + 1) k t lv st s Q) (kf : ¬ (a ≤ b) → lf_E ro (d + 1) k pc' lv st s Q) : lf_E ro (d + 1) k pc lv (.long (Int64.ofInt b) :: .long (Int64.ofInt a) :: st) s Q := by
  refine lf_op (pc' := pc + 1) (lv' := lv) (st' := .int (lg_cmp (Int64.ofInt a) (Int64.ofInt b)) :: st) (s' := s) (by unfold px_one; dsimp only; rw [hf]; dsimp only [px_ret, px_inv, px_op, px_oLcmp]) ?_
  rw [lf_cmp3 ha hb]
  refine lf_if_le t pc' hf2 ht (by omega) ?_ (fun h => kt ?_) (fun h => kf ?_)
  · split
    · exact ⟨by decide, by decide⟩
    · split <;> exact ⟨by decide, by decide⟩
  · split at h
    · omega
    · split at h <;> omega
  · split at h
    · omega
    · split at h <;> omega
end LFR
section LFS
variable {ro : px_RO} {d k pc : Nat} {lv : px_L} {st : List Value} {s : lf_Z} {Q : Option Value → lf_Z → Prop} {a b i v : Int}
/-! the four scripts -/
theorem lf_scr {t : Nat} (ht : t < 4) : px_shX[35 + 7 * t]? = some (.inr 7) := by
  match t, ht with
  | 0, _ => rfl
  | 1, _ => rfl
  | 2, _ => rfl
  | 3, _ => rfl
theorem lf_scL {t : Nat} (ht : t < 4) : Nat.blt (35 + 7 * t) px_SC = true := by
  match t, ht with
  | 0, _ => rfl
  | 1, _ => rfl
  | 2, _ => rfl
  | 3, _ => rfl
theorem lf_sP0 {t : Nat} (ht : t < 4) : lf_P s.2.2 (35 + 7 * t) 0 = some (36 + 7 * t) := by
  match t, ht with
  | 0, _ => rfl
  | 1, _ => rfl
  | 2, _ => rfl
  | 3, _ => rfl
theorem lf_sA0 {t : Nat} (ht : t < 4) : px_shX[36 + 7 * t]? = some (.inl (0, 300)) := by
  match t, ht with
  | 0, _ => rfl
  | 1, _ => rfl
  | 2, _ => rfl
  | 3, _ => rfl
theorem lf_sB0 {t : Nat} (ht : t < 4) : Nat.ble px_SC (36 + 7 * t) = false := by
  match t, ht with
  | 0, _ => rfl
  | 1, _ => rfl
  | 2, _ => rfl
  | 3, _ => rfl
theorem lf_sC0 {t : Nat} (ht : t < 4) : Nat.blt (36 + 7 * t) px_SC = true := by
  match t, ht with
  | 0, _ => rfl
  | 1, _ => rfl
  | 2, _ => rfl
  | 3, _ => rfl
theorem lf_sP2 {t : Nat} (ht : t < 4) : lf_P s.2.2 (35 + 7 * t) 2 = some (37 + 7 * t) := by
  match t, ht with
  | 0, _ => rfl
  | 1, _ => rfl
  | 2, _ => rfl
  | 3, _ => rfl
theorem lf_sA2 {t : Nat} (ht : t < 4) : px_shX[37 + 7 * t]? = some (.inl (0, 3)) := by
  match t, ht with
  | 0, _ => rfl
  | 1, _ => rfl
  | 2, _ => rfl
  | 3, _ => rfl
theorem lf_sB2 {t : Nat} (ht : t < 4) : Nat.ble px_SC (37 + 7 * t) = false := by
  match t, ht with
  | 0, _ => rfl
  | 1, _ => rfl
  | 2, _ => rfl
  | 3, _ => rfl
theorem lf_sC2 {t : Nat} (ht : t < 4) : Nat.blt (37 + 7 * t) px_SC = true := by
  match t, ht with
  | 0, _ => rfl
  | 1, _ => rfl
  | 2, _ => rfl
  | 3, _ => rfl
theorem lf_sP3 {t : Nat} (ht : t < 4) : lf_P s.2.2 (35 + 7 * t) 3 = some (38 + 7 * t) := by
  match t, ht with
  | 0, _ => rfl
  | 1, _ => rfl
  | 2, _ => rfl
  | 3, _ => rfl
theorem lf_sA3 {t : Nat} (ht : t < 4) : px_shX[38 + 7 * t]? = some (.inl (0, 3)) := by
  match t, ht with
  | 0, _ => rfl
  | 1, _ => rfl
  | 2, _ => rfl
  | 3, _ => rfl
theorem lf_sB3 {t : Nat} (ht : t < 4) : Nat.ble px_SC (38 + 7 * t) = false := by
  match t, ht with
  | 0, _ => rfl
  | 1, _ => rfl
  | 2, _ => rfl
  | 3, _ => rfl
theorem lf_sC3 {t : Nat} (ht : t < 4) : Nat.blt (38 + 7 * t) px_SC = true := by
  match t, ht with
  | 0, _ => rfl
  | 1, _ => rfl
  | 2, _ => rfl
  | 3, _ => rfl
theorem lf_sP4 {t : Nat} (ht : t < 4) : lf_P s.2.2 (35 + 7 * t) 4 = some (39 + 7 * t) := by
  match t, ht with
  | 0, _ => rfl
  | 1, _ => rfl
  | 2, _ => rfl
  | 3, _ => rfl
theorem lf_sA4 {t : Nat} (ht : t < 4) : px_shX[39 + 7 * t]? = some (.inl (0, 24)) := by
  match t, ht with
  | 0, _ => rfl
  | 1, _ => rfl
  | 2, _ => rfl
  | 3, _ => rfl
theorem lf_sB4 {t : Nat} (ht : t < 4) : Nat.ble px_SC (39 + 7 * t) = false := by
  match t, ht with
  | 0, _ => rfl
  | 1, _ => rfl
  | 2, _ => rfl
  | 3, _ => rfl
theorem lf_sC4 {t : Nat} (ht : t < 4) : Nat.blt (39 + 7 * t) px_SC = true := by
  match t, ht with
  | 0, _ => rfl
  | 1, _ => rfl
  | 2, _ => rfl
  | 3, _ => rfl
theorem lf_sP5 {t : Nat} (ht : t < 4) : lf_P s.2.2 (35 + 7 * t) 5 = some (40 + 7 * t) := by
  match t, ht with
  | 0, _ => rfl
  | 1, _ => rfl
  | 2, _ => rfl
  | 3, _ => rfl
theorem lf_sA5 {t : Nat} (ht : t < 4) : px_shX[40 + 7 * t]? = some (.inl (0, 24)) := by
  match t, ht with
  | 0, _ => rfl
  | 1, _ => rfl
  | 2, _ => rfl
  | 3, _ => rfl
theorem lf_sB5 {t : Nat} (ht : t < 4) : Nat.ble px_SC (40 + 7 * t) = false := by
  match t, ht with
  | 0, _ => rfl
  | 1, _ => rfl
  | 2, _ => rfl
  | 3, _ => rfl
theorem lf_sC5 {t : Nat} (ht : t < 4) : Nat.blt (40 + 7 * t) px_SC = true := by
  match t, ht with
  | 0, _ => rfl
  | 1, _ => rfl
  | 2, _ => rfl
  | 3, _ => rfl
theorem lf_sP6 {t : Nat} (ht : t < 4) : lf_P s.2.2 (35 + 7 * t) 6 = some (41 + 7 * t) := by
  match t, ht with
  | 0, _ => rfl
  | 1, _ => rfl
  | 2, _ => rfl
  | 3, _ => rfl
theorem lf_sA6 {t : Nat} (ht : t < 4) : px_shX[41 + 7 * t]? = some (.inl (0, 24)) := by
  match t, ht with
  | 0, _ => rfl
  | 1, _ => rfl
  | 2, _ => rfl
  | 3, _ => rfl
theorem lf_sB6 {t : Nat} (ht : t < 4) : Nat.ble px_SC (41 + 7 * t) = false := by
  match t, ht with
  | 0, _ => rfl
  | 1, _ => rfl
  | 2, _ => rfl
  | 3, _ => rfl
theorem lf_sC6 {t : Nat} (ht : t < 4) : Nat.blt (41 + 7 * t) px_SC = true := by
  match t, ht with
  | 0, _ => rfl
  | 1, _ => rfl
  | 2, _ => rfl
  | 3, _ => rfl
theorem lf_wA {w : Nat} (hw : w = 72 ∨ w = 73) : px_shX[w]? = some (.inl (1, 156)) := by rcases hw with rfl | rfl <;> rfl
theorem lf_wC {w : Nat} (hw : w = 72 ∨ w = 73) : Nat.blt w px_SC = true := by rcases hw with rfl | rfl <;> rfl
/-! fields -/
theorem lf_getI (pc' : Nat) (fi : Int) {c j ci f : Nat} (hf : px_fetch k pc = some (.getfield j, 3)) (hp : pc + 3 = pc') (hfl : px_fld k j = some (ci, f)) (hs : px_shX[c]? = some (.inr ci)) (hc : Nat.blt c px_SC = true) (hty : px_ty ci f = .int) (hfi : (f : Int) = fi) (kk : lf_E ro (d + 1) k pc' lv (.int (Int32.ofInt (s.1 c fi)) :: st) s Q) : lf_E ro (d + 1) k pc lv (.ref c :: st) s Q := by
  subst hp
  subst hfi
  refine lf_op ?_ kk
  unfold px_one; dsimp only; rw [hf]; dsimp only [px_ret, px_inv, px_op, px_oGet, lf_H]
  rw [hfl, hs]
  dsimp only
  rw [hc, hty, show Nat.beq ci ci = true from Nat.beq_refl ci]
  rfl
theorem lf_getZ (pc' : Nat) (fi : Int) {c j ci f : Nat} (hf : px_fetch k pc = some (.getfield j, 3)) (hp : pc + 3 = pc') (hfl : px_fld k j = some (ci, f)) (hs : px_shX[c]? = some (.inr ci)) (hc : Nat.blt c px_SC = true) (hty : px_ty ci f = .boolean) (hfi : (f : Int) = fi) (kk : lf_E ro (d + 1) k pc' lv (.int (Int32.ofInt (s.1 c fi)) :: st) s Q) : lf_E ro (d + 1) k pc lv (.ref c :: st) s Q := by
  subst hp
  subst hfi
  refine lf_op ?_ kk
  unfold px_one; dsimp only; rw [hf]; dsimp only [px_ret, px_inv, px_op, px_oGet, lf_H]
  rw [hfl, hs]
  dsimp only
  rw [hc, hty, show Nat.beq ci ci = true from Nat.beq_refl ci]
  rfl
theorem lf_getJ (pc' : Nat) (fi : Int) {c j ci f : Nat} (hf : px_fetch k pc = some (.getfield j, 3)) (hp : pc + 3 = pc') (hfl : px_fld k j = some (ci, f)) (hs : px_shX[c]? = some (.inr ci)) (hc : Nat.blt c px_SC = true) (hty : px_ty ci f = .long) (hfi : (f : Int) = fi) (kk : lf_E ro (d + 1) k pc' lv (.long (Int64.ofInt (s.2.1 c fi)) :: st) s Q) : lf_E ro (d + 1) k pc lv (.ref c :: st) s Q := by
  subst hp
  subst hfi
  refine lf_op ?_ kk
  unfold px_one; dsimp only; rw [hf]; dsimp only [px_ret, px_inv, px_op, px_oGet, lf_H]
  rw [hfl, hs]
  dsimp only
  rw [hc, hty, show Nat.beq ci ci = true from Nat.beq_refl ci]
  rfl
/-- a field of references -/
def lf_rfT : FieldType → Bool
  | .object _ => true
  | .array _ => true
  | _ => false
theorem lf_fv {I : Nat → Int32} {J : Nat → Int64} {P : Nat → Option Nat} {f : Nat} {ty : FieldType} (h : lf_rfT ty = true) : px_fv I J P f ty = va_rf (P f) := by
  cases ty <;> first | rfl | cases h
theorem lf_getR (pc' : Nat) {w : Option Nat} {c j ci f : Nat} (hf : px_fetch k pc = some (.getfield j, 3)) (hp : pc + 3 = pc') (hfl : px_fld k j = some (ci, f)) (hs : px_shX[c]? = some (.inr ci)) (hc : Nat.blt c px_SC = true) (hty : lf_rfT (px_ty ci f) = true) (hw : lf_P s.2.2 c f = w) (kk : lf_E ro (d + 1) k pc' lv (va_rf w :: st) s Q) : lf_E ro (d + 1) k pc lv (.ref c :: st) s Q := by
  subst hp
  subst hw
  refine lf_op ?_ kk
  unfold px_one; dsimp only; rw [hf]; dsimp only [px_ret, px_inv, px_op, px_oGet, lf_H]
  rw [hfl, hs]
  dsimp only
  rw [hc, lf_fv hty, show Nat.beq ci ci = true from Nat.beq_refl ci]
  rfl
theorem lf_putI (pc' : Nat) (fi : Int) {c j ci f : Nat} (hf : px_fetch k pc = some (.putfield j, 3)) (hp : pc + 3 = pc') (hfl : px_fld k j = some (ci, f)) (hs : px_shX[c]? = some (.inr ci)) (hc : Nat.blt c px_SC = true) (hm : px_mayPut k ci f = true) (hty : px_ty ci f = .int) (hfi : (f : Int) = fi) (kk : lf_E ro (d + 1) k pc' lv st (lf_up s.1 c fi v, s.2) Q) : lf_E ro (d + 1) k pc lv (.int (Int32.ofInt v) :: .ref c :: st) s Q := by
  subst hp
  refine lf_op ?_ kk
  rw [← lf_st_I hfi]
  unfold px_one; dsimp only; rw [hf]; dsimp only [px_ret, px_inv, px_op, px_oPut]
  rw [hfl, show (lf_H s).1[c]? = some (.inr ci) from hs]
  dsimp only
  rw [hc, hm, hty, show Nat.beq ci ci = true from Nat.beq_refl ci]
  rfl
theorem lf_putZ (pc' : Nat) (fi : Int) {c j ci f : Nat} (hf : px_fetch k pc = some (.putfield j, 3)) (hp : pc + 3 = pc') (hfl : px_fld k j = some (ci, f)) (hs : px_shX[c]? = some (.inr ci)) (hc : Nat.blt c px_SC = true) (hm : px_mayPut k ci f = true) (hty : px_ty ci f = .boolean) (hfi : (f : Int) = fi) (hv : v = 0 ∨ v = 1) (kk : lf_E ro (d + 1) k pc' lv st (lf_up s.1 c fi v, s.2) Q) : lf_E ro (d + 1) k pc lv (.int (Int32.ofInt v) :: .ref c :: st) s Q := by
  subst hp
  refine lf_op ?_ kk
  rw [← lf_st_I hfi]
  unfold px_one; dsimp only; rw [hf]; dsimp only [px_ret, px_inv, px_op, px_oPut]
  rw [hfl, show (lf_H s).1[c]? = some (.inr ci) from hs]
  dsimp only
  rw [hc, hm, hty, show Nat.beq ci ci = true from Nat.beq_refl ci]
  have hx : Int32.ofInt v = 0 ∨ Int32.ofInt v = 1 := by
    rcases hv with rfl | rfl
    · exact Or.inl rfl
    · exact Or.inr rfl
  show (match px_put (lf_H s) c f .boolean (.int (Int32.ofInt v)) with | some h => some (pc + 3, lv, st, h) | none => none) = _
  unfold px_put
  dsimp only
  rw [if_pos hx]
theorem lf_putJ (pc' : Nat) (fi : Int) {c j ci f : Nat} (hf : px_fetch k pc = some (.putfield j, 3)) (hp : pc + 3 = pc') (hfl : px_fld k j = some (ci, f)) (hs : px_shX[c]? = some (.inr ci)) (hc : Nat.blt c px_SC = true) (hm : px_mayPut k ci f = true) (hty : px_ty ci f = .long) (hfi : (f : Int) = fi) (kk : lf_E ro (d + 1) k pc' lv st (s.1, lf_up s.2.1 c fi v, s.2.2) Q) : lf_E ro (d + 1) k pc lv (.long (Int64.ofInt v) :: .ref c :: st) s Q := by
  subst hp
  refine lf_op ?_ kk
  rw [← lf_st_J hfi]
  unfold px_one; dsimp only; rw [hf]; dsimp only [px_ret, px_inv, px_op, px_oPut]
  rw [hfl, show (lf_H s).1[c]? = some (.inr ci) from hs]
  dsimp only
  rw [hc, hm, hty, show Nat.beq ci ci = true from Nat.beq_refl ci]
  rfl
theorem lf_urP {r : Nat → Option Nat} {q c f : Nat} {w : Option Nat} (hq : q = 0 ∧ c = 68 ∧ f = 6 ∨ q = 1 ∧ c = 68 ∧ f = 7) : px_up (lf_P r) c f w = lf_P (lf_ur r q w) := by
  funext x y
  unfold px_up lf_P lf_ur
  rcases hq with ⟨rfl, rfl, rfl⟩ | ⟨rfl, rfl, rfl⟩
  · by_cases hx : x = 68
    · subst hx
      by_cases hy : y = 6
      · subst hy; rfl
      · rw [px_beqN hy]; by_cases h7 : y = 7
        · subst h7; rfl
        · rw [px_beqN h7]; rfl
    · rw [px_beqN hx]; rfl
  · by_cases hx : x = 68
    · subst hx
      by_cases hy : y = 7
      · subst hy; rfl
      · rw [px_beqN hy]; by_cases h7 : y = 6
        · subst h7; rfl
        · rw [px_beqN h7]; rfl
    · rw [px_beqN hx]; rfl
theorem lf_urS {r : Nat → Option Nat} {q c f : Nat} {w : Option Nat} (hq : q = 2 ∧ c = 31 ∧ f = 5 ∨ q = 3 ∧ c = 63 ∧ f = 2) : px_up (lf_P r) c f (w.map (fun t => 35 + 7 * t)) = lf_P (lf_ur r q w) := by
  funext x y
  unfold px_up lf_P lf_ur
  rcases hq with ⟨rfl, rfl, rfl⟩ | ⟨rfl, rfl, rfl⟩
  · by_cases hx : x = 31
    · subst hx
      by_cases hy : y = 5
      · subst hy; rfl
      · rw [px_beqN hy]; rfl
    · rw [px_beqN hx]
      by_cases h6 : x = 63
      · subst h6; rfl
      · rw [px_beqN h6]; rfl
  · by_cases hx : x = 63
    · subst hx
      by_cases hy : y = 2
      · subst hy; rfl
      · rw [px_beqN hy]; rfl
    · rw [px_beqN hx]
      by_cases h6 : x = 31
      · subst h6; rfl
      · rw [px_beqN h6]; rfl
/-- one of the four references is written -/
theorem lf_putR (pc' q : Nat) (w w' : Option Nat) {x : Value} {c j ci f : Nat} (hf : px_fetch k pc = some (.putfield j, 3)) (hp : pc + 3 = pc') (hfl : px_fld k j = some (ci, f)) (hs : px_shX[c]? = some (.inr ci)) (hc : Nat.blt c px_SC = true) (hm : px_mayPut k ci f = true) (hty : lf_rfT (px_ty ci f) = true) (hx : x = va_rf w') (hP : px_up (lf_P s.2.2) c f w' = lf_P (lf_ur s.2.2 q w)) (kk : lf_E ro (d + 1) k pc' lv st (s.1, s.2.1, lf_ur s.2.2 q w) Q) : lf_E ro (d + 1) k pc lv (x :: .ref c :: st) s Q := by
  subst hp
  subst hx
  refine lf_op ?_ kk
  have e : lf_H (s.1, s.2.1, lf_ur s.2.2 q w) = ((lf_H s).1, (lf_H s).2.1, (lf_H s).2.2.1, px_up (lf_H s).2.2.2 c f w') := by
    show _ = (px_shX, _, _, px_up (lf_P s.2.2) c f w')
    rw [hP]
    rfl
  rw [e]
  unfold px_one; dsimp only; rw [hf]; dsimp only [px_ret, px_inv, px_op, px_oPut]
  rw [hfl, show (lf_H s).1[c]? = some (.inr ci) from hs]
  dsimp only
  rw [hc, hm, show Nat.beq ci ci = true from Nat.beq_refl ci]
  show (match px_put (lf_H s) c f (px_ty ci f) (va_rf w') with | some h => some (pc + 3, lv, st, h) | none => none) = _
  cases hq : px_ty ci f with
  | object o => cases w' <;> rfl
  | array o => cases w' <;> rfl
  | _ => rw [hq] at hty; cases hty
/-! arrays -/
theorem lf_oIald {h : px_H} {x : Int32} {c n : Nat} (hs : h.1[c]? = some (.inl (0, n))) (hc : Nat.ble px_SC c = false) (hi : px_in x n = true) : px_oIald ro pc lv (.int x :: .ref c :: st) h = some (pc, lv, .int (h.2.1 c x.toNatClampNeg) :: st, h) := by
  unfold px_oIald
  dsimp only
  rw [hc, hs]
  show cond (px_in x n) (some (pc, lv, Value.int (h.2.1 c x.toNatClampNeg) :: st, h)) none = _
  rw [hi]
  rfl
theorem lf_oZald {h : px_H} {x : Int32} {c n : Nat} (hs : h.1[c]? = some (.inl (2, n))) (hc : Nat.blt c px_SC = true) (hi : px_in x n = true) : px_oZald pc lv (.int x :: .ref c :: st) h = some (pc, lv, .int (h.2.1 c x.toNatClampNeg) :: st, h) := by
  unfold px_oZald
  dsimp only
  rw [hs]
  show cond (px_in x n && Nat.blt c px_SC) (some (pc, lv, Value.int (h.2.1 c x.toNatClampNeg) :: st, h)) none = _
  rw [hi, hc]
  rfl
theorem lf_oLald {h : px_H} {x : Int32} {c n : Nat} (hs : h.1[c]? = some (.inl (1, n))) (hc : Nat.blt c px_SC = true) (hi : px_in x n = true) : px_oLald pc lv (.int x :: .ref c :: st) h = some (pc, lv, .long (h.2.2.1 c x.toNatClampNeg) :: st, h) := by
  unfold px_oLald
  dsimp only
  rw [hs]
  show cond (px_in x n && Nat.blt c px_SC) (some (pc, lv, Value.long (h.2.2.1 c x.toNatClampNeg) :: st, h)) none = _
  rw [hi, hc]
  rfl
theorem lf_oAald {h : px_H} {x : Int32} {c n : Nat} (hs : h.1[c]? = some (.inl (3, n))) (hc : Nat.blt c px_SC = true) (hi : px_in x n = true) : px_oAald pc lv (.int x :: .ref c :: st) h = some (pc, lv, va_rf (h.2.2.2 c x.toNatClampNeg) :: st, h) := by
  unfold px_oAald
  dsimp only
  rw [hs]
  show cond (px_in x n && Nat.blt c px_SC) (some (pc, lv, va_rf (h.2.2.2 c x.toNatClampNeg) :: st, h)) none = _
  rw [hi, hc]
  rfl
theorem lf_oIast {h : px_H} {x y : Int32} {c n : Nat} (hs : h.1[c]? = some (.inl (0, n))) (hc : Nat.blt c px_SC = true) (hi : px_in x n = true) : px_oIast pc lv (.int y :: .int x :: .ref c :: st) h = some (pc, lv, st, (h.1, px_up h.2.1 c x.toNatClampNeg y, h.2.2.1, h.2.2.2)) := by
  unfold px_oIast
  dsimp only
  rw [hs]
  show cond (px_in x n && Nat.blt c px_SC) (some (pc, lv, st, (h.1, px_up h.2.1 c x.toNatClampNeg y, h.2.2.1, h.2.2.2))) none = _
  rw [hi, hc]
  rfl
theorem lf_oZast {h : px_H} {x y : Int32} {c n : Nat} (hs : h.1[c]? = some (.inl (2, n))) (hc : Nat.blt c px_SC = true) (hi : px_in x n = true) : px_oZast pc lv (.int y :: .int x :: .ref c :: st) h = some (pc, lv, st, (h.1, px_up h.2.1 c x.toNatClampNeg (y &&& 1), h.2.2.1, h.2.2.2)) := by
  unfold px_oZast
  dsimp only
  rw [hs]
  show cond (px_in x n && Nat.blt c px_SC) (some (pc, lv, st, (h.1, px_up h.2.1 c x.toNatClampNeg (y &&& 1), h.2.2.1, h.2.2.2))) none = _
  rw [hi, hc]
  rfl
theorem lf_oLast {h : px_H} {x : Int32} {y : Int64} {c n : Nat} (hs : h.1[c]? = some (.inl (1, n))) (hc : Nat.blt c px_SC = true) (hi : px_in x n = true) : px_oLast pc lv (.long y :: .int x :: .ref c :: st) h = some (pc, lv, st, (h.1, h.2.1, px_up h.2.2.1 c x.toNatClampNeg y, h.2.2.2)) := by
  unfold px_oLast
  dsimp only
  rw [hs]
  show cond (px_in x n && Nat.blt c px_SC) (some (pc, lv, st, (h.1, h.2.1, px_up h.2.2.1 c x.toNatClampNeg y, h.2.2.2))) none = _
  rw [hi, hc]
  rfl
theorem lf_stat {kd j q : Nat} {h : px_H} (hf : px_fetch k pc = some (.invokestatic j, 3)) (hcl : px_call k j = some (kd, q)) (hk : kd = 5 ∨ kd = 6 ∨ kd = 7 ∨ kd = 8 ∨ kd = 9) : px_one ro k (pc, lv, st, h) = px_oSt kd (pc + 3) lv st h := by
  unfold px_one
  dsimp only
  rw [hf]
  have h1 : px_inv k (.invokestatic j) st h = none := by
    unfold px_inv
    dsimp only
    rw [hcl]
    rcases hk with rfl | rfl | rfl | rfl | rfl <;> rfl
  show (match px_inv k (.invokestatic j) st h with | some _ => none | none => px_op ro k (.invokestatic j) 3 pc lv st h) = _
  rw [h1]
  show (match px_call k j with | some (kd, _) => px_oSt kd (pc + 3) lv st h | _ => none) = _
  rw [hcl]
theorem lf_virt {j : Nat} {h : px_H} (hf : px_fetch k pc = some (.invokevirtual j, 3)) (hcl : px_call k j = none) : px_one ro k (pc, lv, st, h) = px_oStr k j (pc + 3) lv st h := by
  unfold px_one
  dsimp only
  rw [hf]
  have h1 : px_inv k (.invokevirtual j) st h = none := by
    unfold px_inv
    dsimp only
    rw [hcl]
  show (match px_inv k (.invokevirtual j) st h with | some _ => none | none => px_op ro k (.invokevirtual j) 3 pc lv st h) = _
  rw [h1]
  rfl
theorem lf_ix {n : Nat} {m : Int} (hn : (n : Int) = m) (hn2 : Nat.ble n 1000000000 = true) (hi : 0 ≤ i ∧ i < m) : px_in (Int32.ofInt i) n = true ∧ ((Int32.ofInt i).toNatClampNeg : Int) = i := by
  have h2 : n ≤ 1000000000 := px_bleT hn2
  have e : (Int32.ofInt i).toNatClampNeg = i.toNat := Int32.toNatClampNeg_ofInt_of_le (by omega) (by omega)
  have hR : lf_R i := ⟨by omega, by omega⟩
  refine ⟨?_, by omega⟩
  unfold px_in
  refine decide_eq_true (fun h => ?_)
  rcases h with h | h
  · have := (lf_lt hR (show lf_R 0 from ⟨by decide, by decide⟩)).mp h
    omega
  · omega
theorem lf_iald (pc' : Nat) (m : Int) {c n : Nat} (hf : px_fetch k pc = some (.iaload, 1)) (hp : pc + 1 = pc') (hs : px_shX[c]? = some (.inl (0, n))) (hc : Nat.ble px_SC c = false) (hn : (n : Int) = m) (hn2 : Nat.ble n 1000000000 = true) (hi : 0 ≤ i ∧ i < m) (kk : lf_E ro (d + 1) k pc' lv (.int (Int32.ofInt (s.1 c i)) :: st) s Q) : lf_E ro (d + 1) k pc lv (.int (Int32.ofInt i) :: .ref c :: st) s Q := by
  subst hp
  obtain ⟨h1, h2⟩ := lf_ix hn hn2 hi
  refine lf_op ?_ kk
  unfold px_one; dsimp only; rw [hf]; dsimp only [px_ret, px_inv, px_op]; rw [lf_oIald (h := lf_H s) hs hc h1]
  show some (pc + 1, lv, Value.int (Int32.ofInt (s.1 c ((Int32.ofInt i).toNatClampNeg : Int))) :: st, lf_H s) = _
  rw [h2]
theorem lf_zald (pc' : Nat) (m : Int) {c n : Nat} (hf : px_fetch k pc = some (.baload, 1)) (hp : pc + 1 = pc') (hs : px_shX[c]? = some (.inl (2, n))) (hc : Nat.blt c px_SC = true) (hn : (n : Int) = m) (hn2 : Nat.ble n 1000000000 = true) (hi : 0 ≤ i ∧ i < m) (kk : lf_E ro (d + 1) k pc' lv (.int (Int32.ofInt (s.1 c i)) :: st) s Q) : lf_E ro (d + 1) k pc lv (.int (Int32.ofInt i) :: .ref c :: st) s Q := by
  subst hp
  obtain ⟨h1, h2⟩ := lf_ix hn hn2 hi
  refine lf_op ?_ kk
  unfold px_one; dsimp only; rw [hf]; dsimp only [px_ret, px_inv, px_op]; rw [lf_oZald (h := lf_H s) hs hc h1]
  show some (pc + 1, lv, Value.int (Int32.ofInt (s.1 c ((Int32.ofInt i).toNatClampNeg : Int))) :: st, lf_H s) = _
  rw [h2]
theorem lf_lald (pc' : Nat) (m : Int) {c n : Nat} (hf : px_fetch k pc = some (.laload, 1)) (hp : pc + 1 = pc') (hs : px_shX[c]? = some (.inl (1, n))) (hc : Nat.blt c px_SC = true) (hn : (n : Int) = m) (hn2 : Nat.ble n 1000000000 = true) (hi : 0 ≤ i ∧ i < m) (kk : lf_E ro (d + 1) k pc' lv (.long (Int64.ofInt (s.2.1 c i)) :: st) s Q) : lf_E ro (d + 1) k pc lv (.int (Int32.ofInt i) :: .ref c :: st) s Q := by
  subst hp
  obtain ⟨h1, h2⟩ := lf_ix hn hn2 hi
  refine lf_op ?_ kk
  unfold px_one; dsimp only; rw [hf]; dsimp only [px_ret, px_inv, px_op]; rw [lf_oLald (h := lf_H s) hs hc h1]
  show some (pc + 1, lv, Value.long (Int64.ofInt (s.2.1 c ((Int32.ofInt i).toNatClampNeg : Int))) :: st, lf_H s) = _
  rw [h2]
theorem lf_scripts {t : Nat} (ht : t < 4) (r : Nat → Option Nat) : lf_P r 34 t = some (35 + 7 * t) := by
  match t, ht with
  | 0, _ => rfl
  | 1, _ => rfl
  | 2, _ => rfl
  | 3, _ => rfl
/-- the row of scripts -/
theorem lf_aald (pc' : Nat) (hf : px_fetch k pc = some (.aaload, 1)) (hp : pc + 1 = pc') (hi : 0 ≤ i ∧ i < 4) (kk : lf_E ro (d + 1) k pc' lv (.ref (35 + 7 * i.toNat) :: st) s Q) : lf_E ro (d + 1) k pc lv (.int (Int32.ofInt i) :: .ref 34 :: st) s Q := by
  subst hp
  obtain ⟨h1, h2⟩ := lf_ix (n := 4) (m := 4) rfl rfl hi
  refine lf_op ?_ kk
  have e : (Int32.ofInt i).toNatClampNeg = i.toNat := by omega
  unfold px_one; dsimp only; rw [hf]; dsimp only [px_ret, px_inv, px_op]; rw [lf_oAald (h := lf_H s) (show (lf_H s).1[34]? = some (.inl (3, 4)) from rfl) rfl h1]
  show some (pc + 1, lv, va_rf (lf_P s.2.2 34 (Int32.ofInt i).toNatClampNeg) :: st, lf_H s) = _
  rw [e, lf_scripts (by omega)]
  rfl
/-- an old row that is read only -/
theorem lf_iro (pc' q n : Nat) (m : Int) {xs : Nat → Int32} (hf : px_fetch k pc = some (.iaload, 1)) (hp : pc + 1 = pc') (hr : ro[q]? = some (n, xs)) (hn : (n : Int) = m) (hn2 : Nat.ble n 1000000000 = true) (hi : 0 ≤ i ∧ i < m) (kk : lf_E ro (d + 1) k pc' lv (.int (Int32.ofInt (xs i.toNat).toInt) :: st) s Q) : lf_E ro (d + 1) k pc lv (.int (Int32.ofInt i) :: .ref (px_SC + q) :: st) s Q := by
  subst hp
  obtain ⟨h1, h2⟩ := lf_ix hn hn2 hi
  rw [Int32.ofInt_toInt] at kk
  refine lf_op ?_ kk
  have e : (Int32.ofInt i).toNatClampNeg = i.toNat := by omega
  have e2 : Nat.ble px_SC (px_SC + q) = true := Nat.ble_eq_true_of_le (by omega)
  unfold px_one; dsimp only; rw [hf]; dsimp only [px_ret, px_inv, px_op, px_oIald]
  rw [e2, show px_SC + q - px_SC = q by omega, hr]
  dsimp only [cond_true]
  rw [h1, e]
  rfl
theorem lf_len (pc' : Nat) (m : Int) {c n t : Nat} (hf : px_fetch k pc = some (.arraylength, 1)) (hp : pc + 1 = pc') (hs : px_shX[c]? = some (.inl (t, n))) (hc : Nat.ble px_SC c = false) (ht : Nat.blt t 4 = true) (hn : (n : Int) = m) (kk : lf_E ro (d + 1) k pc' lv (.int (Int32.ofInt m) :: st) s Q) : lf_E ro (d + 1) k pc lv (.ref c :: st) s Q := by
  subst hp
  subst hn
  refine lf_op ?_ kk
  unfold px_one; dsimp only; rw [hf]; dsimp only [px_ret, px_inv, px_op, px_oLen, lf_H]
  rw [hc, hs]
  dsimp only [cond_false]
  rw [ht, Int32.ofInt_eq_ofNat]
  rfl
theorem lf_lro (pc' q n : Nat) (m : Int) {xs : Nat → Int32} (hf : px_fetch k pc = some (.arraylength, 1)) (hp : pc + 1 = pc') (hr : ro[q]? = some (n, xs)) (hn : (n : Int) = m) (kk : lf_E ro (d + 1) k pc' lv (.int (Int32.ofInt m) :: st) s Q) : lf_E ro (d + 1) k pc lv (.ref (px_SC + q) :: st) s Q := by
  subst hp
  subst hn
  refine lf_op ?_ kk
  have e2 : Nat.ble px_SC (px_SC + q) = true := Nat.ble_eq_true_of_le (by omega)
  unfold px_one; dsimp only; rw [hf]; dsimp only [px_ret, px_inv, px_op, px_oLen]
  rw [e2, show px_SC + q - px_SC = q by omega, hr, Int32.ofInt_eq_ofNat]
  rfl
theorem lf_iast (pc' : Nat) (m : Int) {c n : Nat} (hf : px_fetch k pc = some (.iastore, 1)) (hp : pc + 1 = pc') (hs : px_shX[c]? = some (.inl (0, n))) (hc : Nat.blt c px_SC = true) (hn : (n : Int) = m) (hn2 : Nat.ble n 1000000000 = true) (hi : 0 ≤ i ∧ i < m) (kk : lf_E ro (d + 1) k pc' lv st (lf_up s.1 c i v, s.2) Q) : lf_E ro (d + 1) k pc lv (.int (Int32.ofInt v) :: .int (Int32.ofInt i) :: .ref c :: st) s Q := by
  subst hp
  obtain ⟨h1, h2⟩ := lf_ix hn hn2 hi
  refine lf_op ?_ kk
  rw [← lf_st_I h2]
  unfold px_one; dsimp only; rw [hf]; dsimp only [px_ret, px_inv, px_op]; rw [lf_oIast (h := lf_H s) hs hc h1]
theorem lf_zast (pc' : Nat) (m : Int) {c n : Nat} (hf : px_fetch k pc = some (.bastore, 1)) (hp : pc + 1 = pc') (hs : px_shX[c]? = some (.inl (2, n))) (hc : Nat.blt c px_SC = true) (hn : (n : Int) = m) (hn2 : Nat.ble n 1000000000 = true) (hi : 0 ≤ i ∧ i < m) (hv : v = 0 ∨ v = 1) (kk : lf_E ro (d + 1) k pc' lv st (lf_up s.1 c i v, s.2) Q) : lf_E ro (d + 1) k pc lv (.int (Int32.ofInt v) :: .int (Int32.ofInt i) :: .ref c :: st) s Q := by
  subst hp
  obtain ⟨h1, h2⟩ := lf_ix hn hn2 hi
  refine lf_op ?_ kk
  rw [← lf_st_I h2]
  unfold px_one; dsimp only; rw [hf]; dsimp only [px_ret, px_inv, px_op]; rw [lf_oZast (h := lf_H s) hs hc h1]
  rw [show Int32.ofInt v &&& 1 = Int32.ofInt v from by rcases hv with rfl | rfl <;> decide]
theorem lf_last (pc' : Nat) (m : Int) {c n : Nat} (hf : px_fetch k pc = some (.lastore, 1)) (hp : pc + 1 = pc') (hs : px_shX[c]? = some (.inl (1, n))) (hc : Nat.blt c px_SC = true) (hn : (n : Int) = m) (hn2 : Nat.ble n 1000000000 = true) (hi : 0 ≤ i ∧ i < m) (kk : lf_E ro (d + 1) k pc' lv st (s.1, lf_up s.2.1 c i v, s.2.2) Q) : lf_E ro (d + 1) k pc lv (.long (Int64.ofInt v) :: .int (Int32.ofInt i) :: .ref c :: st) s Q := by
  subst hp
  obtain ⟨h1, h2⟩ := lf_ix hn hn2 hi
  refine lf_op ?_ kk
  rw [← lf_st_J h2]
  unfold px_one; dsimp only; rw [hf]; dsimp only [px_ret, px_inv, px_op]; rw [lf_oLast (h := lf_H s) hs hc h1]
/-! static helpers of the JDK -/
theorem lf_imax (pc' : Nat) {j q : Nat} (hf : px_fetch k pc = some (.invokestatic j, 3)) (hp : pc + 3 = pc') (hcl : px_call k j = some (6, q)) (hr : Nat.ble (st.map fun v => v.category).sum 8 = true) (ha : lf_R a) (hb : lf_R b) (kk : lf_E ro (d + 1) k pc' lv (.int (Int32.ofInt (max a b)) :: st) s Q) : lf_E ro (d + 1) k pc lv (.int (Int32.ofInt b) :: .int (Int32.ofInt a) :: st) s Q := by
  subst hp
  refine lf_op ?_ kk
  rw [lf_stat hf hcl (by decide)]
  simp only [px_oSt]
  unfold px_oMi
  dsimp only
  rw [hr]
  by_cases h : a < b
  · rw [show (max a b : Int) = b by omega]; dsimp only [cond_true]; rw [show Nat.beq 6 6 = true from rfl]; dsimp only [cond_true]; rw [if_pos ((lf_lt ha hb).mpr h)]
  · rw [show (max a b : Int) = a by omega]; dsimp only [cond_true]; rw [show Nat.beq 6 6 = true from rfl]; dsimp only [cond_true]; rw [if_neg (fun h9 => h ((lf_lt ha hb).mp h9))]
theorem lf_imin (pc' : Nat) {j q : Nat} (hf : px_fetch k pc = some (.invokestatic j, 3)) (hp : pc + 3 = pc') (hcl : px_call k j = some (7, q)) (hr : Nat.ble (st.map fun v => v.category).sum 8 = true) (ha : lf_R a) (hb : lf_R b) (kk : lf_E ro (d + 1) k pc' lv (.int (Int32.ofInt (min a b)) :: st) s Q) : lf_E ro (d + 1) k pc lv (.int (Int32.ofInt b) :: .int (Int32.ofInt a) :: st) s Q := by
  subst hp
  refine lf_op ?_ kk
  rw [lf_stat hf hcl (by decide)]
  simp only [px_oSt]
  unfold px_oMi
  dsimp only
  rw [hr]
  by_cases h : b < a
  · rw [show (min a b : Int) = b by omega]; dsimp only [cond_true]; rw [show Nat.beq 7 6 = false from rfl]; dsimp only [cond_false]; rw [if_pos ((lf_lt hb ha).mpr h)]
  · rw [show (min a b : Int) = a by omega]; dsimp only [cond_true]; rw [show Nat.beq 7 6 = false from rfl]; dsimp only [cond_false]; rw [if_neg (fun h9 => h ((lf_lt hb ha).mp h9))]
theorem lf_lmax (pc' : Nat) {j q : Nat} (hf : px_fetch k pc = some (.invokestatic j, 3)) (hp : pc + 3 = pc') (hcl : px_call k j = some (8, q)) (hr : Nat.ble (st.map fun v => v.category).sum 8 = true) (ha : lf_RL a) (hb : lf_RL b) (kk : lf_E ro (d + 1) k pc' lv (.long (Int64.ofInt (max a b)) :: st) s Q) : lf_E ro (d + 1) k pc lv (.long (Int64.ofInt b) :: .long (Int64.ofInt a) :: st) s Q := by
  subst hp
  refine lf_op ?_ kk
  rw [lf_stat hf hcl (by decide)]
  simp only [px_oSt]
  unfold px_oMl
  dsimp only
  rw [hr]
  by_cases h : b < a
  · rw [show (max a b : Int) = a by omega]; dsimp only [cond_true]; rw [show Nat.beq 8 8 = true from rfl]; dsimp only [cond_true]; rw [if_pos ((lf_ltL hb ha).mpr h)]
  · rw [show (max a b : Int) = b by omega]; dsimp only [cond_true]; rw [show Nat.beq 8 8 = true from rfl]; dsimp only [cond_true]; rw [if_neg (fun h9 => h ((lf_ltL hb ha).mp h9))]
theorem lf_lmin (pc' : Nat) {j q : Nat} (hf : px_fetch k pc = some (.invokestatic j, 3)) (hp : pc + 3 = pc') (hcl : px_call k j = some (9, q)) (hr : Nat.ble (st.map fun v => v.category).sum 8 = true) (ha : lf_RL a) (hb : lf_RL b) (kk : lf_E ro (d + 1) k pc' lv (.long (Int64.ofInt (min a b)) :: st) s Q) : lf_E ro (d + 1) k pc lv (.long (Int64.ofInt b) :: .long (Int64.ofInt a) :: st) s Q := by
  subst hp
  refine lf_op ?_ kk
  rw [lf_stat hf hcl (by decide)]
  simp only [px_oSt]
  unfold px_oMl
  dsimp only
  rw [hr]
  by_cases h : b < a
  · rw [show (min a b : Int) = b by omega]; dsimp only [cond_true]; rw [show Nat.beq 9 8 = false from rfl]; dsimp only [cond_false]; rw [if_pos ((lf_ltL hb ha).mpr h)]
  · rw [show (min a b : Int) = a by omega]; dsimp only [cond_true]; rw [show Nat.beq 9 8 = false from rfl]; dsimp only [cond_false]; rw [if_neg (fun h9 => h ((lf_ltL hb ha).mp h9))]
/-- a row's places from dp on, n of them, are those of another from sp on -/
def lf_cp (f : Nat → Int → Int) (x y : Nat) (sp dp n : Int) : Nat → Int → Int := fun c j => if c = y ∧ dp ≤ j ∧ j < dp + n then f x (sp + (j - dp)) else f c j
theorem lf_cpy (pc' : Nat) {j q x y n0 n1 : Nat} {sp dp n m0 m1 : Int} (hf : px_fetch k pc = some (.invokestatic j, 3)) (hp : pc + 3 = pc') (hcl : px_call k j = some (5, q)) (hr : Nat.ble (st.map fun v => v.category).sum 8 = true) (hx : px_shX[x]? = some (.inl (0, n0))) (hy : px_shX[y]? = some (.inl (0, n1))) (cx : Nat.blt x px_SC = true) (cy : Nat.blt y px_SC = true) (e0 : (n0 : Int) = m0) (e1 : (n1 : Int) = m1) (l0 : Nat.ble n0 1000000000 = true) (l1 : Nat.ble n1 1000000000 = true) (hi : 0 ≤ sp ∧ 0 ≤ dp ∧ 0 ≤ n ∧ sp + n ≤ m0 ∧ dp + n ≤ m1) (kk : lf_E ro (d + 1) k pc' lv st (lf_cp s.1 x y sp dp n, s.2) Q) : lf_E ro (d + 1) k pc lv (.int (Int32.ofInt n) :: .int (Int32.ofInt dp) :: .ref y :: .int (Int32.ofInt sp) :: .ref x :: st) s Q := by
  subst hp
  have b0 : n0 ≤ 1000000000 := px_bleT l0
  have b1 : n1 ≤ 1000000000 := px_bleT l1
  obtain ⟨i1, i2, i3, i4, i5⟩ := hi
  have en : (Int32.ofInt n).toNatClampNeg = n.toNat := Int32.toNatClampNeg_ofInt_of_le (by omega) (by omega)
  have es : (Int32.ofInt sp).toNatClampNeg = sp.toNat := Int32.toNatClampNeg_ofInt_of_le (by omega) (by omega)
  have ed : (Int32.ofInt dp).toNatClampNeg = dp.toNat := Int32.toNatClampNeg_ofInt_of_le (by omega) (by omega)
  have z0 : lf_R 0 := ⟨by decide, by decide⟩
  have gn : ¬ Int32.ofInt n < 0 := fun h9 => by have := (lf_lt ⟨by omega, by omega⟩ z0).mp h9; omega
  have gs : ¬ Int32.ofInt sp < 0 := fun h9 => by have := (lf_lt ⟨by omega, by omega⟩ z0).mp h9; omega
  have gd : ¬ Int32.ofInt dp < 0 := fun h9 => by have := (lf_lt ⟨by omega, by omega⟩ z0).mp h9; omega
  have hg : px_rw (lf_H s).2.1 y (va_cpy ((lf_H s).2.1 x) ((lf_H s).2.1 y) sp.toNat dp.toNat n.toNat) = fun c (j : Nat) => Int32.ofInt (lf_cp s.1 x y sp dp n c j) := by
    funext c j
    unfold px_rw lf_cp
    by_cases hc : c = y
    · subst hc
      rw [show Nat.beq c c = true from Nat.beq_refl c]
      dsimp only [cond_true, lf_H]
      unfold va_cpy
      by_cases hj : dp ≤ (j : Int) ∧ (j : Int) < dp + n
      · rw [if_pos (show dp.toNat ≤ j ∧ j < dp.toNat + n.toNat from ⟨by omega, by omega⟩), if_pos ⟨rfl, hj⟩]
        show Int32.ofInt (s.1 x ((sp.toNat + (j - dp.toNat) : Nat) : Int)) = _
        rw [show ((sp.toNat + (j - dp.toNat) : Nat) : Int) = sp + (j - dp) by omega]
      · rw [if_neg (show ¬ (dp.toNat ≤ j ∧ j < dp.toNat + n.toNat) from fun h9 => hj ⟨by omega, by omega⟩), if_neg (fun h9 => hj h9.2)]
    · rw [px_beqN hc, if_neg (fun h9 => hc h9.1)]
      rfl
  refine lf_op ?_ kk
  have e : lf_H (lf_cp s.1 x y sp dp n, s.2) = ((lf_H s).1, px_rw (lf_H s).2.1 y (va_cpy ((lf_H s).2.1 x) ((lf_H s).2.1 y) sp.toNat dp.toNat n.toNat), (lf_H s).2.2.1, (lf_H s).2.2.2) := by rw [hg]; rfl
  rw [e]
  rw [lf_stat hf hcl (by decide)]
  simp only [px_oSt]
  unfold px_oCpy
  dsimp only
  rw [show (lf_H s).1[x]? = some (.inl (0, n0)) from hx, show (lf_H s).1[y]? = some (.inl (0, n1)) from hy]
  show cond (Nat.ble (st.map fun v => v.category).sum 8 && decide (¬ Int32.ofInt sp < 0) && decide (¬ Int32.ofInt dp < 0) && decide (¬ Int32.ofInt n < 0) && Nat.ble ((Int32.ofInt sp).toNatClampNeg + (Int32.ofInt n).toNatClampNeg) n0 && Nat.ble ((Int32.ofInt dp).toNatClampNeg + (Int32.ofInt n).toNatClampNeg) n1 && Nat.blt x px_SC && Nat.blt y px_SC) (some (pc + 3, lv, st, ((lf_H s).1, px_rw (lf_H s).2.1 y (va_cpy ((lf_H s).2.1 x) ((lf_H s).2.1 y) (Int32.ofInt sp).toNatClampNeg (Int32.ofInt dp).toNatClampNeg (Int32.ofInt n).toNatClampNeg), (lf_H s).2.2.1, (lf_H s).2.2.2))) none = _
  rw [hr, en, es, ed, cx, cy, decide_eq_true gn, decide_eq_true gs, decide_eq_true gd, show Nat.ble (sp.toNat + n.toNat) n0 = true from Nat.ble_eq_true_of_le (by omega), show Nat.ble (dp.toNat + n.toNat) n1 = true from Nat.ble_eq_true_of_le (by omega)]
  rfl
/-! the text of Reader -/
theorem lf_strlen (pc' : Nat) {j : Nat} (hf : px_fetch k pc = some (.invokevirtual j, 3)) (hp : pc + 3 = pc') (hk : (Nat.beq (px_key k j) 6179 && Nat.blt j 1000) = true) (hcl : px_call k j = none) (hr : Nat.ble (st.map fun v => v.category).sum 8 = true) (kk : lf_E ro (d + 1) k pc' lv (.int (Int32.ofInt 180) :: st) s Q) : lf_E ro (d + 1) k pc lv (.ref (px_SC + 3) :: st) s Q := by
  subst hp
  refine lf_op ?_ kk
  rw [lf_virt hf hcl]; unfold px_oStr; dsimp only; rw [hk]; dsimp only [cond_true]; rw [hr, show Nat.beq (px_SC + 3) (px_SC + 3) = true from Nat.beq_refl _]
  rfl
theorem lf_strat (pc' : Nat) {j : Nat} (hf : px_fetch k pc = some (.invokevirtual j, 3)) (hp : pc + 3 = pc') (hk0 : (Nat.beq (px_key k j) 6179 && Nat.blt j 1000) = false) (hk : (Nat.beq (px_key k j) 6183 && Nat.blt j 1000) = true) (hcl : px_call k j = none) (hr : Nat.ble (st.map fun v => v.category).sum 8 = true) (hi : 0 ≤ i ∧ i < 180) (kk : lf_E ro (d + 1) k pc' lv (.int (Int32.ofInt (ps_byt.getD i.toNat 0).toInt) :: st) s Q) : lf_E ro (d + 1) k pc lv (.int (Int32.ofInt i) :: .ref (px_SC + 3) :: st) s Q := by
  subst hp
  obtain ⟨h1, h2⟩ := lf_ix (n := 180) (m := 180) rfl rfl hi
  have e : (Int32.ofInt i).toNatClampNeg = i.toNat := by omega
  rw [Int32.ofInt_toInt] at kk
  refine lf_op ?_ kk
  rw [lf_virt hf hcl]; unfold px_oStr; dsimp only; rw [hk0, hk]; dsimp only [cond_true, cond_false]; rw [hr, show Nat.beq (px_SC + 3) (px_SC + 3) = true from Nat.beq_refl _, h1, e]
  rfl
/-! null or not -/
theorem lf_null_t (t : Nat) {off : Int} (hf : px_fetch k pc = some (.ifnull off, 3)) (ht : px_tg pc off = some t) (kk : lf_E ro (d + 1) k t lv st s Q) : lf_E ro (d + 1) k pc lv (.null :: st) s Q := by
  refine lf_op ?_ kk
  unfold px_one; dsimp only; rw [hf]; dsimp only [px_ret, px_inv, px_op, px_oNull, px_jmp]; rw [ht]
theorem lf_null_f (pc' : Nat) {off : Int} {c : Nat} (hf : px_fetch k pc = some (.ifnull off, 3)) (hp : pc + 3 = pc') (kk : lf_E ro (d + 1) k pc' lv st s Q) : lf_E ro (d + 1) k pc lv (.ref c :: st) s Q := by
  subst hp
  refine lf_op ?_ kk
  unfold px_one; dsimp only; rw [hf]; dsimp only [px_ret, px_inv, px_op, px_oNull]
theorem lf_nonnull_t (t : Nat) {off : Int} {c : Nat} (hf : px_fetch k pc = some (.ifnonnull off, 3)) (ht : px_tg pc off = some t) (kk : lf_E ro (d + 1) k t lv st s Q) : lf_E ro (d + 1) k pc lv (.ref c :: st) s Q := by
  refine lf_op ?_ kk
  unfold px_one; dsimp only; rw [hf]; dsimp only [px_ret, px_inv, px_op, px_oNonnull, px_jmp]; rw [ht]
theorem lf_nonnull_f (pc' : Nat) {off : Int} (hf : px_fetch k pc = some (.ifnonnull off, 3)) (hp : pc + 3 = pc') (kk : lf_E ro (d + 1) k pc' lv st s Q) : lf_E ro (d + 1) k pc lv (.null :: st) s Q := by
  subst hp
  refine lf_op ?_ kk
  unfold px_one; dsimp only; rw [hf]; dsimp only [px_ret, px_inv, px_op, px_oNonnull]
/-! switches -/
def lf_tab (P : Nat → Prop) (x : Int) : List (Int × Nat) → Prop
  | [] => True
  | q :: r => (x = q.1 → P q.2) ∧ lf_tab P x r
theorem lf_tab0 {P : Nat → Prop} {x : Int} : lf_tab P x [] := trivial
theorem lf_tab1 {P : Nat → Prop} {x w : Int} {t : Nat} {r : List (Int × Nat)} (h : x = w → P t) (hr : lf_tab P x r) : lf_tab P x ((w, t) :: r) := ⟨h, hr⟩
theorem lf_tab_get {P : Nat → Prop} {x : Int} : ∀ {r : List (Int × Nat)} {j : Nat} {q : Int × Nat}, lf_tab P x r → r[j]? = some q → x = q.1 → P q.2
  | [], j, q, _, h, _ => by simp at h
  | p :: r, 0, q, ht, h, hx => by
    have e : p = q := by simpa using h
    subst e
    exact ht.1 hx
  | p :: r, j + 1, q, ht, h, hx => lf_tab_get (r := r) (j := j) ht.2 (by simpa using h) hx
def lf_tabOk (pc : Nat) (lo : Int) (offs : List Int) (r : List (Int × Nat)) : Bool := (List.range offs.length).all (fun j => decide (r[j]? = some (lo + j, ((pc : Int) + offs.getD j 0).toNat)) && decide (0 ≤ (pc : Int) + offs.getD j 0))
theorem lf_tsw (t : Nat) {n : Nat} {dflt lo hi : Int} {offs : Array Int} (r : List (Int × Nat)) (hf : px_fetch k pc = some (.tableswitch dflt lo hi offs, n)) (hd : px_tg pc dflt = some t) (hz : (offs.toList.length : Int) = hi - lo + 1) (hk : lf_tabOk pc lo offs.toList r = true) (ha : lf_R a) (kd : a < lo ∨ hi < a → lf_E ro (d + 1) k t lv st s Q) (kt : lf_tab (fun t => lf_E ro (d + 1) k t lv st s Q) a r) : lf_E ro (d + 1) k pc lv (.int (Int32.ofInt a) :: st) s Q := by
  have e : (Int32.ofInt a).toInt = a := Int32.toInt_ofInt_of_le ha.1 (Int.lt_add_one_of_le ha.2)
  by_cases hc : a < lo ∨ hi < a
  · refine lf_op (pc' := t) (lv' := lv) (st' := st) (s' := s) ?_ (kd hc)
    unfold px_one; dsimp only; rw [hf]; dsimp only [px_ret, px_inv, px_op, px_oTab]; rw [e, if_pos hc, hd]; rfl
  · have hj : (a - lo).toNat < offs.toList.length := by omega
    unfold lf_tabOk at hk
    have h1 := List.all_eq_true.mp hk (a - lo).toNat (List.mem_range.mpr hj)
    rw [Bool.and_eq_true, decide_eq_true_eq, decide_eq_true_eq] at h1
    have ho : offs.toList[(a - lo).toNat]? = some (offs.toList.getD (a - lo).toNat 0) := by rw [List.getD_eq_getElem?_getD, List.getElem?_eq_getElem hj]; rfl
    refine lf_op (pc' := ((pc : Int) + offs.toList.getD (a - lo).toNat 0).toNat) (lv' := lv) (st' := st) (s' := s) ?_ (lf_tab_get kt h1.1 (by omega))
    unfold px_one; dsimp only; rw [hf]; dsimp only [px_ret, px_inv, px_op, px_oTab]; rw [e, if_neg hc]
    rw [← Array.getElem?_toList, ho]
    dsimp only
    unfold px_tg
    have h2 := h1.2
    cases hq : (pc : Int) + offs.toList.getD (a - lo).toNat 0 with
    | ofNat z => rfl
    | negSucc z => rw [hq] at h2; omega
def lf_lokOk (pc : Nat) (ps : List (Int × Int)) (r : List (Int × Nat)) : Bool := decide (r.map (fun q => q.1) = ps.map (fun q => q.1)) && (List.range ps.length).all (fun j => decide (r[j]? = some ((ps.getD j (0, 0)).1, ((pc : Int) + (ps.getD j (0, 0)).2).toNat)) && decide (0 ≤ (pc : Int) + (ps.getD j (0, 0)).2))
end LFS
section LFC
variable {ro : px_RO} {d k pc : Nat} {lv : px_L} {st : List Value} {s : lf_Z} {Q : Option Value → lf_Z → Prop} {a b i v : Int}
def lf_ne (x : Int) : List (Int × Nat) → Prop
  | [] => True
  | [q] => x ≠ q.1
  | q :: q2 :: r => x ≠ q.1 ∧ lf_ne x (q2 :: r)
theorem lf_ne_cons {x : Int} {q : Int × Nat} : ∀ {r : List (Int × Nat)}, x ≠ q.1 → lf_ne x r → lf_ne x (q :: r)
  | [], h, _ => h
  | _ :: _, h, h2 => ⟨h, h2⟩
theorem lf_lok {pc t : Nat} {x dflt : Int} {P : Nat → Prop} (hd : px_tg pc dflt = some t) : ∀ (ps : List (Int × Int)), ps.all (fun q => decide (0 ≤ (pc : Int) + q.2)) = true → lf_tab P x (ps.map (fun q => (q.1, ((pc : Int) + q.2).toNat))) → (lf_ne x (ps.map (fun q => (q.1, ((pc : Int) + q.2).toNat))) → P t) → ∃ z, px_tg pc (Op.lookupswitch.offset ps dflt x) = some z ∧ P z
  | [], _, _, h => ⟨t, hd, h trivial⟩
  | (w, o) :: ps, ha, ht, h => by
    rw [List.all_cons, Bool.and_eq_true, decide_eq_true_eq] at ha
    rw [Op.lookupswitch.offset_cons]
    by_cases hx : w = x
    · rw [if_pos hx]
      refine ⟨((pc : Int) + o).toNat, ?_, ht.1 hx.symm⟩
      unfold px_tg
      have h2 := ha.1
      dsimp only at h2
      cases hq : (pc : Int) + o with
      | ofNat z => rfl
      | negSucc z => rw [hq] at h2; omega
    · rw [if_neg hx]
      exact lf_lok hd ps ha.2 ht.2 (fun hn => h (lf_ne_cons (fun h9 => hx h9.symm) hn))
theorem lf_lsw (t : Nat) {n : Nat} {dflt : Int} {ps : Array (Int × Int)} (r : List (Int × Nat)) (hf : px_fetch k pc = some (.lookupswitch dflt ps, n)) (hd : px_tg pc dflt = some t) (hs : ((ps.toList.zip (ps.toList.drop 1)).all (fun (a, next) => a.1 < next.1)) = true) (hk : ps.toList.map (fun q => (q.1, ((pc : Int) + q.2).toNat)) = r) (h0 : ps.toList.all (fun q => decide (0 ≤ (pc : Int) + q.2)) = true) (ha : lf_R a) (kd : lf_ne a r → lf_E ro (d + 1) k t lv st s Q) (kt : lf_tab (fun t => lf_E ro (d + 1) k t lv st s Q) a r) : lf_E ro (d + 1) k pc lv (.int (Int32.ofInt a) :: st) s Q := by
  subst hk
  have e : (Int32.ofInt a).toInt = a := Int32.toInt_ofInt_of_le ha.1 (Int.lt_add_one_of_le ha.2)
  obtain ⟨z, h1, h2⟩ := lf_lok (x := a) hd ps.toList h0 kt kd
  refine lf_op (pc' := z) (lv' := lv) (st' := st) (s' := s) ?_ h2
  unfold px_one; dsimp only; rw [hf]; dsimp only [px_ret, px_inv, px_op, px_oLook]
  rw [hs, e, h1]
  rfl
theorem lf_ldcw (pc' : Nat) (n : Int) {j : Nat} {x : Int32} (hf : px_fetch k pc = some (.ldc_w j, 3)) (hp : pc + 3 = pc') (hv : px_int k j = some x) (hx : x = Int32.ofInt n) (kk : lf_E ro (d + 1) k pc' lv (.int (Int32.ofInt n) :: st) s Q) : lf_E ro (d + 1) k pc lv st s Q := by
  subst hp
  subst hx
  exact lf_op (by unfold px_one; dsimp only; rw [hf]; dsimp only [px_ret, px_inv, px_op, px_psh]; rw [hv]; rfl) kk
/-! calls -/
theorem lf_callI (pc' : Nat) {j len : Nat} {ins : Instr} {as rest : List Value} {Q1 : Int → lf_Z → Prop} (hf : px_fetch k pc = some (ins, len)) (hp : pc + 3 = pc') (hi : px_inv k ins st (lf_H s) = some (j, as, rest)) (hq : (Nat.ble (rest.map fun v => v.category).sum 8 && Nat.ble (lg_sl as).length (px_maxL j)) = true) (hM : lf_M ro d j as s (lf_qi Q1)) (kk : ∀ v s1, Q1 v s1 → lf_E ro (d + 1) k pc' lv (.int (Int32.ofInt v) :: rest) s1 Q) : lf_E ro (d + 1) k pc lv st s Q := by
  subst hp
  obtain ⟨r, s1, h1, v, rfl, h2⟩ := hM
  obtain ⟨r2, s2, h3, q⟩ := kk v s1 h2
  exact ⟨r2, s2, px_E_call hf hi hq h1 h3, q⟩
theorem lf_callL (pc' : Nat) {j len : Nat} {ins : Instr} {as rest : List Value} {Q1 : Int → lf_Z → Prop} (hf : px_fetch k pc = some (ins, len)) (hp : pc + 3 = pc') (hi : px_inv k ins st (lf_H s) = some (j, as, rest)) (hq : (Nat.ble (rest.map fun v => v.category).sum 8 && Nat.ble (lg_sl as).length (px_maxL j)) = true) (hM : lf_M ro d j as s (lf_ql Q1)) (kk : ∀ v s1, Q1 v s1 → lf_E ro (d + 1) k pc' lv (.long (Int64.ofInt v) :: rest) s1 Q) : lf_E ro (d + 1) k pc lv st s Q := by
  subst hp
  obtain ⟨r, s1, h1, v, rfl, h2⟩ := hM
  obtain ⟨r2, s2, h3, q⟩ := kk v s1 h2
  exact ⟨r2, s2, px_E_call hf hi hq h1 h3, q⟩
theorem lf_callZ (pc' : Nat) {j len : Nat} {ins : Instr} {as rest : List Value} {Q1 : Bool → lf_Z → Prop} (hf : px_fetch k pc = some (ins, len)) (hp : pc + 3 = pc') (hi : px_inv k ins st (lf_H s) = some (j, as, rest)) (hq : (Nat.ble (rest.map fun v => v.category).sum 8 && Nat.ble (lg_sl as).length (px_maxL j)) = true) (hM : lf_M ro d j as s (lf_qz Q1)) (kk : ∀ z s1, Q1 z s1 → lf_E ro (d + 1) k pc' lv (.int (Int32.ofInt (lf_b z)) :: rest) s1 Q) : lf_E ro (d + 1) k pc lv st s Q := by
  subst hp
  obtain ⟨r, s1, h1, v, rfl, h2⟩ := hM
  obtain ⟨r2, s2, h3, q⟩ := kk v s1 h2
  exact ⟨r2, s2, px_E_call hf hi hq h1 h3, q⟩
theorem lf_callV (pc' : Nat) {j len : Nat} {ins : Instr} {as rest : List Value} {Q1 : lf_Z → Prop} (hf : px_fetch k pc = some (ins, len)) (hp : pc + 3 = pc') (hi : px_inv k ins st (lf_H s) = some (j, as, rest)) (hq : (Nat.ble (rest.map fun v => v.category).sum 8 && Nat.ble (lg_sl as).length (px_maxL j)) = true) (hM : lf_M ro d j as s (lf_qv Q1)) (kk : ∀ s1, Q1 s1 → lf_E ro (d + 1) k pc' lv rest s1 Q) : lf_E ro (d + 1) k pc lv st s Q := by
  subst hp
  obtain ⟨r, s1, h1, rfl, h2⟩ := hM
  obtain ⟨r2, s2, h3, q⟩ := kk s1 h2
  exact ⟨r2, s2, px_E_call hf hi hq h1 h3, q⟩
theorem lf_callR (pc' : Nat) {j len : Nat} {ins : Instr} {as rest : List Value} {Q1 : Option Nat → lf_Z → Prop} (hf : px_fetch k pc = some (ins, len)) (hp : pc + 3 = pc') (hi : px_inv k ins st (lf_H s) = some (j, as, rest)) (hq : (Nat.ble (rest.map fun v => v.category).sum 8 && Nat.ble (lg_sl as).length (px_maxL j)) = true) (hM : lf_M ro d j as s (lf_qr Q1)) (kn : ∀ s1, Q1 none s1 → lf_E ro (d + 1) k pc' lv (.null :: rest) s1 Q) (kk : ∀ t s1, Q1 (some t) s1 → lf_E ro (d + 1) k pc' lv (.ref (35 + 7 * t) :: rest) s1 Q) : lf_E ro (d + 1) k pc lv st s Q := by
  subst hp
  obtain ⟨r, s1, h1, t, rfl, h2⟩ := hM
  cases t with
  | none =>
    obtain ⟨r2, s2, h3, q⟩ := kn s1 h2
    exact ⟨r2, s2, px_E_call hf hi hq h1 h3, q⟩
  | some t =>
    obtain ⟨r2, s2, h3, q⟩ := kk t s1 h2
    exact ⟨r2, s2, px_E_call hf hi hq h1 h3, q⟩
/-! returns -/
theorem lf_retI {Q1 : Int → lf_Z → Prop} (hf : px_fetch k pc = some (.ireturn, 1)) (hr : (px_m k).2.2.2.2.2.1 = some .int) (hq : Q1 v s) : lf_E ro (d + 1) k pc lv [.int (Int32.ofInt v)] s (lf_qi Q1) :=
  ⟨_, s, px_E_ret hf (by unfold px_ret; rw [hr]), v, rfl, hq⟩
theorem lf_retL {Q1 : Int → lf_Z → Prop} (hf : px_fetch k pc = some (.lreturn, 1)) (hr : (px_m k).2.2.2.2.2.1 = some .long) (hq : Q1 v s) : lf_E ro (d + 1) k pc lv [.long (Int64.ofInt v)] s (lf_ql Q1) :=
  ⟨_, s, px_E_ret hf (by unfold px_ret; rw [hr]), v, rfl, hq⟩
theorem lf_retZ {Q1 : Bool → lf_Z → Prop} (z : Bool) (hf : px_fetch k pc = some (.ireturn, 1)) (hr : (px_m k).2.2.2.2.2.1 = some .boolean) (hq : Q1 z s) : lf_E ro (d + 1) k pc lv [.int (Int32.ofInt (lf_b z))] s (lf_qz Q1) := by
  refine ⟨_, s, px_E_ret hf (r := some (.int (Int32.ofInt (lf_b z)))) ?_, z, rfl, hq⟩
  unfold px_ret
  rw [hr]
  dsimp only
  cases z <;> rfl
theorem lf_retZv {Q1 : Bool → lf_Z → Prop} (hf : px_fetch k pc = some (.ireturn, 1)) (hr : (px_m k).2.2.2.2.2.1 = some .boolean) (h01 : v = 0 ∨ v = 1) (h0 : v = 0 → Q1 false s) (h1 : v = 1 → Q1 true s) : lf_E ro (d + 1) k pc lv [.int (Int32.ofInt v)] s (lf_qz Q1) := by
  rcases h01 with h | h
  · have q := h0 h
    subst h
    exact lf_retZ false hf hr q
  · have q := h1 h
    subst h
    exact lf_retZ true hf hr q
theorem lf_retV {Q1 : lf_Z → Prop} (hf : px_fetch k pc = some (.return_, 1)) (hr : (px_m k).2.2.2.2.2.1 = none) (hq : Q1 s) : lf_E ro (d + 1) k pc lv [] s (lf_qv Q1) :=
  ⟨_, s, px_E_ret hf (by unfold px_ret; rw [hr]), rfl, hq⟩
theorem lf_retRn {Q1 : Option Nat → lf_Z → Prop} {o : String} (hf : px_fetch k pc = some (.areturn, 1)) (hr : (px_m k).2.2.2.2.2.1 = some (.object o)) (hq : Q1 none s) : lf_E ro (d + 1) k pc lv [.null] s (lf_qr Q1) :=
  ⟨_, s, px_E_ret hf (by unfold px_ret; rw [hr]), none, rfl, hq⟩
theorem lf_retRs {Q1 : Option Nat → lf_Z → Prop} {t : Nat} {o : String} (hf : px_fetch k pc = some (.areturn, 1)) (hr : (px_m k).2.2.2.2.2.1 = some (.object o)) (hq : Q1 (some t) s) : lf_E ro (d + 1) k pc lv [.ref (35 + 7 * t)] s (lf_qr Q1) :=
  ⟨_, s, px_E_ret hf (by unfold px_ret; rw [hr]), some t, rfl, hq⟩
/-! a row filled -/
def lf_fl (f : Nat → Int → Int) (c : Nat) (n v : Int) : Nat → Int → Int := fun x j => if x = c ∧ 0 ≤ j ∧ j < n then v else f x j
theorem lf_fill {c n : Nat} {m : Int} {Q1 : lf_Z → Prop} (hs : px_shX[c]? = some (.inl (0, n))) (hc : Nat.blt c px_SC = true) (hc2 : Nat.ble px_SC c = false) (hn : (n : Int) = m) (hn2 : Nat.ble n 1000000000 = true) (h : Q1 (lf_fl s.1 c m v, s.2)) : lf_M ro (d + 1) 3 [.ref c, .int (Int32.ofInt v)] s (lf_qv Q1) := by
  subst hn
  have b : n ≤ 1000000000 := px_bleT hn2
  refine ⟨none, (lf_fl s.1 c n v, s.2), ?_, rfl, h⟩
  have e : lf_H (lf_fl s.1 c n v, s.2) = (px_shX, px_fl (lf_H s).2.1 c n (Int32.ofInt v), (lf_H s).2.2.1, (lf_H s).2.2.2) := by
    have e2 : (fun x (j : Nat) => Int32.ofInt (lf_fl s.1 c n v x j)) = px_fl (lf_H s).2.1 c n (Int32.ofInt v) := by
      funext x j
      unfold lf_fl px_fl px_rw
      by_cases hx : x = c
      · subst hx
        rw [show Nat.beq x x = true from Nat.beq_refl x]
        by_cases hj : j < n
        · rw [if_pos ⟨rfl, by omega, by omega⟩]
          show _ = cond (Nat.blt j n) _ _
          rw [px_bltY hj]
          rfl
        · rw [if_neg (fun h9 => hj (by omega))]
          show _ = cond (Nat.blt j n) _ _
          rw [px_bltF (by omega)]
          rfl
      · rw [px_beqN hx, if_neg (fun h9 => hx h9.1)]; rfl
    rw [← e2]
    rfl
  rw [e]
  exact px_fill (d := d) c n hs (by omega) hc hc2
/-! ranges that need no asking -/
theorem lf_Rand : lf_R (lf_and a b) := lf_R_i _
theorem lf_Ror : lf_R (lf_or a b) := lf_R_i _
theorem lf_Rxor : lf_R (lf_xor a b) := lf_R_i _
theorem lf_Rshl : lf_R (lf_shl a b) := lf_R_i _
theorem lf_Rshr : lf_R (lf_shr a b) := lf_R_i _
theorem lf_Rushr : lf_R (lf_ushr a b) := lf_R_i _
theorem lf_Rb {z : Bool} : lf_R (lf_b z) := by cases z <;> exact ⟨by decide, by decide⟩
theorem lf_Rix {m : Int} (h : 0 ≤ i ∧ i < m) (hm : m ≤ 2147483647) : lf_R i := ⟨by omega, by omega⟩
theorem lf_RLR (h : lf_R a) : lf_RL a := ⟨by have := h.1; omega, by have := h.2; omega⟩
theorem lf_RLlor : lf_RL (lf_lor a b) := lf_RL_i _
theorem lf_RLlshl : lf_RL (lf_lshl a b) := lf_RL_i _
theorem lf_RLlshr : lf_RL (lf_lshr a b) := lf_RL_i _
theorem lf_as (s' : lf_Z) (h : s = s') (kk : lf_E ro d k pc lv st s' Q) : lf_E ro d k pc lv st s Q := by
  subst h
  exact kk
end LFC
/-! RANGES AND FRAMES -/
def lf_w (e : Int) : Int := (Int32.ofInt e).toInt
def lf_wl (e : Int) : Int := (Int64.ofInt e).toInt
theorem lf_Rw {a : Int} : lf_R (lf_w a) := lf_R_i _
theorem lf_RLwl {a : Int} : lf_RL (lf_wl a) := lf_RL_i _
theorem lf_wE {a : Int} : Int32.ofInt (lf_w a) = Int32.ofInt a := Int32.ofInt_toInt _
theorem lf_wlE {a : Int} : Int64.ofInt (lf_wl a) = Int64.ofInt a := Int64.ofInt_toInt _
theorem lf_wtI {ro : px_RO} {d k pc : Nat} {lv : px_L} {st : List Value} {s : lf_Z} {Q : Option Value → lf_Z → Prop} {a : Int} (kk : lf_E ro d k pc lv (.int (Int32.ofInt (lf_w a)) :: st) s Q) : lf_E ro d k pc lv (.int (Int32.ofInt a) :: st) s Q := by
  rw [lf_wE] at kk
  exact kk
theorem lf_wtL {ro : px_RO} {d k pc : Nat} {lv : px_L} {st : List Value} {s : lf_Z} {Q : Option Value → lf_Z → Prop} {a : Int} (kk : lf_E ro d k pc lv (.long (Int64.ofInt (lf_wl a)) :: st) s Q) : lf_E ro d k pc lv (.long (Int64.ofInt a) :: st) s Q := by
  rw [lf_wlE] at kk
  exact kk
theorem lf_eqs {ro : px_RO} {d k pc : Nat} {lv lv' : px_L} {st st' : List Value} {s : lf_Z} {Q : Option Value → lf_Z → Prop} (h1 : lv = lv') (h2 : st = st') (kk : lf_E ro d k pc lv' st' s Q) : lf_E ro d k pc lv st s Q := by
  subst h1
  subst h2
  exact kk
theorem lf_invT {k i j n t : Nat} {st rest : List Value} {s : lf_Z} (ht : t < 4) (hc : px_call k i = some (1, j)) (hn : (px_m j).2.2.2.2.2.2.1 = n) (hd : st.drop n = .ref (35 + 7 * t) :: rest) (hm : (px_m j).2.2.1 = 7) : px_inv k (.invokevirtual i) st (lf_H s) = some (j, .ref (35 + 7 * t) :: (st.take n).reverse, rest) := by
  have e : (lf_H s).1[35 + 7 * t]? = some (.inr 7) := lf_scr ht
  unfold px_inv
  simp only [hc, hn, hd, e, hm, lf_scL ht]
  rfl
theorem lf_Rof {a : Int} (h : -2147483648 ≤ a ∧ a ≤ 2147483647) : lf_R a := h
theorem lf_b01 {z : Bool} : 0 ≤ lf_b z ∧ lf_b z ≤ 1 := by cases z <;> exact ⟨by decide, by decide⟩
theorem lf_wB {a : Int} : -2147483648 ≤ lf_w a ∧ lf_w a ≤ 2147483647 := lf_R_i _
theorem lf_mulB {a b p q r u L H : Int} (h1 : p ≤ a ∧ a ≤ q) (h2 : r ≤ b ∧ b ≤ u) (e1 : L ≤ p * r) (e2 : L ≤ p * u) (e3 : L ≤ q * r) (e4 : L ≤ q * u) (f1 : p * r ≤ H) (f2 : p * u ≤ H) (f3 : q * r ≤ H) (f4 : q * u ≤ H) : L ≤ a * b ∧ a * b ≤ H := by
  have lin : ∀ {x y z w m : Int}, x ≤ m → m ≤ y → min (x * z) (y * z) ≤ m * z ∧ m * z ≤ max (x * z) (y * z) := by
    intro x y z w m h1 h2
    rcases Int.le_total 0 z with hz | hz
    · have k1 := Int.mul_le_mul_of_nonneg_right h1 hz
      have k2 := Int.mul_le_mul_of_nonneg_right h2 hz
      omega
    · have k1 := Int.mul_le_mul_of_nonpos_right h1 hz
      have k2 := Int.mul_le_mul_of_nonpos_right h2 hz
      omega
  have k1 := lin (x := p) (y := q) (z := b) (w := 0) h1.1 h1.2
  have k2 := lin (x := r) (y := u) (z := p) (w := 0) h2.1 h2.2
  have k3 := lin (x := r) (y := u) (z := q) (w := 0) h2.1 h2.2
  rw [Int.mul_comm r p, Int.mul_comm u p, Int.mul_comm b p] at k2
  rw [Int.mul_comm r q, Int.mul_comm u q, Int.mul_comm b q] at k3
  omega
theorem lf_orB {a b : Int} : -2147483648 ≤ lf_or a b ∧ lf_or a b ≤ 2147483647 := lf_R_i _
theorem lf_xorB {a b : Int} : -2147483648 ≤ lf_xor a b ∧ lf_xor a b ≤ 2147483647 := lf_R_i _
theorem lf_shlB {a b : Int} : -2147483648 ≤ lf_shl a b ∧ lf_shl a b ≤ 2147483647 := lf_R_i _
theorem lf_shrB {a b : Int} : -2147483648 ≤ lf_shr a b ∧ lf_shr a b ≤ 2147483647 := lf_R_i _
theorem lf_ushrB {a b : Int} : -2147483648 ≤ lf_ushr a b ∧ lf_ushr a b ≤ 2147483647 := lf_R_i _
theorem lf_bvP {n : Nat} (h : n < 2147483648) : (BitVec.ofNat 32 n).toInt = (n : Int) := by
  rw [BitVec.toInt_eq_toNat_of_lt (by rw [BitVec.toNat_ofNat]; omega), BitVec.toNat_ofNat, Nat.mod_eq_of_lt (by omega)]
theorem lf_oiN {b : Int} (h0 : 0 ≤ b) (h1 : b ≤ 2147483647) : (Int32.ofInt b).toBitVec.toNat = b.toNat := by
  have e : (Int32.ofInt b).toBitVec = BitVec.ofInt 32 b := rfl
  rw [e, BitVec.toNat_ofInt]
  omega
theorem lf_toN {x : Int32} (h : x.toBitVec.toNat < 2147483648) : x.toInt = (x.toBitVec.toNat : Int) := by
  show x.toBitVec.toInt = _
  exact BitVec.toInt_eq_toNat_of_lt (by omega)
theorem lf_andR {a b : Int} (h0 : 0 ≤ b) (h1 : b ≤ 2147483647) : 0 ≤ lf_and a b ∧ lf_and a b ≤ b := by
  unfold lf_and
  have e : (Int32.ofInt a &&& Int32.ofInt b).toBitVec.toNat = (Int32.ofInt a).toBitVec.toNat &&& (Int32.ofInt b).toBitVec.toNat := BitVec.toNat_and _ _
  have l : (Int32.ofInt a &&& Int32.ofInt b).toBitVec.toNat ≤ b.toNat := by
    rw [e, lf_oiN h0 h1]
    exact Nat.and_le_right
  rw [lf_toN (by omega)]
  omega
theorem lf_andB {a b m : Int} (h0 : 0 ≤ b) (h1 : b ≤ m ∧ m ≤ 2147483647) : 0 ≤ lf_and a b ∧ lf_and a b ≤ m := by
  have := lf_andR (a := a) h0 (by omega)
  omega
theorem lf_andBl {a b m : Int} (h0 : 0 ≤ a) (h1 : a ≤ m ∧ m ≤ 2147483647) : 0 ≤ lf_and a b ∧ lf_and a b ≤ m := by
  have := lf_andR (a := b) (b := a) h0 (by omega)
  have e : lf_and a b = lf_and b a := by unfold lf_and; rw [Int32.and_comm]
  rw [e]
  omega
theorem lf_shrP {a b m : Int} (h0 : 0 ≤ a) (h1 : a ≤ m ∧ m ≤ 2147483647) : 0 ≤ lf_shr a b ∧ lf_shr a b ≤ m := by
  unfold lf_shr
  have e : (Int32.ofInt a >>> (Int32.ofInt b &&& 31)).toBitVec = (Int32.ofInt a).toBitVec.sshiftRight' ((Int32.ofInt b &&& 31).toBitVec.smod 32) := rfl
  have f : (Int32.ofInt a >>> (Int32.ofInt b &&& 31)).toInt = ((Int32.ofInt a).toBitVec.sshiftRight' ((Int32.ofInt b &&& 31).toBitVec.smod 32)).toInt := by rw [← e]; rfl
  rw [f, BitVec.sshiftRight', BitVec.toInt_sshiftRight]
  have g : (Int32.ofInt a).toBitVec.toInt = a := Int32.toInt_ofInt_of_le (by omega) (by omega)
  rw [g, Int.shiftRight_eq_div_pow]
  have p : (0 : Int) < ((2 : Nat) ^ ((Int32.ofInt b &&& 31).toBitVec.smod 32).toNat : Nat) := by exact_mod_cast Nat.two_pow_pos _
  constructor
  · exact Int.ediv_nonneg h0 (Int.le_of_lt p)
  · exact Int.le_trans (Int.ediv_le_self _ h0) h1.1
theorem lf_shl1N {k : Nat} (h : k ≤ 30) : lf_shl 1 (k : Int) = ((2 ^ k : Nat) : Int) := by
  have : ∀ k : Fin 31, lf_shl 1 (k.val : Int) = ((2 ^ k.val : Nat) : Int) := by decide +kernel
  exact this ⟨k, by omega⟩
theorem lf_shl1 {b H : Int} {m : Nat} (h0 : 0 ≤ b) (h1 : b ≤ m) (h2 : m ≤ 30 ∧ ((2 ^ m : Nat) : Int) ≤ H) : 1 ≤ lf_shl 1 b ∧ lf_shl 1 b ≤ H := by
  obtain ⟨k, rfl⟩ := Int.eq_ofNat_of_zero_le h0
  rw [lf_shl1N (by omega)]
  have p1 : 1 ≤ 2 ^ k := Nat.one_le_two_pow
  have p2 : 2 ^ k ≤ 2 ^ m := Nat.pow_le_pow_right (by decide) (by omega)
  omega
theorem lf_ushrP {a b m : Int} (h0 : 0 ≤ a) (h1 : a ≤ m ∧ m ≤ 2147483647) : 0 ≤ lf_ushr a b ∧ lf_ushr a b ≤ m := by
  unfold lf_ushr
  have e : ((Int32.ofInt a).toUInt32 >>> ((Int32.ofInt b).toUInt32 &&& Int32.toUInt32 31)).toInt32.toBitVec.toNat ≤ a.toNat := by
    show ((Int32.ofInt a).toUInt32 >>> ((Int32.ofInt b).toUInt32 &&& Int32.toUInt32 31)).toNat ≤ a.toNat
    rw [UInt32.toNat_shiftRight]
    have g : (Int32.ofInt a).toUInt32.toNat = a.toNat := lf_oiN h0 (by omega)
    rw [g]
    exact Nat.shiftRight_le _ _
  rw [lf_toN (by omega)]
  omega
theorem lf_tdivB {a c p q L H : Int} (h1 : p ≤ a) (h2 : a ≤ q) (hc : 0 < c) (hL : L = p.tdiv c) (hH : H = q.tdiv c) : L ≤ a.tdiv c ∧ a.tdiv c ≤ H := by
  subst hL
  subst hH
  exact ⟨Int.tdiv_le_tdiv hc h1, Int.tdiv_le_tdiv hc h2⟩
theorem lf_tdivM {a b m : Int} (h1 : -m ≤ a) (h2 : a ≤ m) : -m ≤ a.tdiv b ∧ a.tdiv b ≤ m := by
  have h := Int.natAbs_tdiv a b
  have k : (a.tdiv b).natAbs ≤ a.natAbs := by rw [h]; exact Nat.div_le_self _ _
  omega
theorem lf_tmodP {a b m : Int} (h1 : 0 ≤ a) (h2 : 0 < b) (h3 : b ≤ m + 1) : 0 ≤ a.tmod b ∧ a.tmod b ≤ m := by
  have k1 := Int.tmod_nonneg b h1
  have k2 := Int.tmod_lt_of_pos a h2
  omega
theorem lf_tmodM {a b m : Int} (h2 : 0 < b) (h3 : b ≤ m + 1) : -m ≤ a.tmod b ∧ a.tmod b ≤ m := by
  have k2 := Int.tmod_lt_of_pos a h2
  have k1 := Int.tmod_lt_of_pos (-a) h2
  rw [Int.neg_tmod] at k1
  omega
theorem lf_tmS {x c : Int} (hc : 0 < c) : x.tdiv c ≤ 0 ∨ 0 ≤ x.tmod c := by
  rcases Int.le_total 0 x with h | h
  · exact Or.inr (Int.tmod_nonneg c h)
  · refine Or.inl ?_
    have k := Int.tdiv_nonneg (a := -x) (b := c) (by omega) (Int.le_of_lt hc)
    rw [Int.neg_tdiv] at k
    omega
theorem lf_up_c {f : Nat → Int → Int} {c a : Nat} {i v b : Int} (h : a ≠ c) : lf_up f c i v a b = f a b := by unfold lf_up; rw [if_neg h]
theorem lf_up_i {f : Nat → Int → Int} {c : Nat} {i v b : Int} (h : b ≠ i) : lf_up f c i v c b = f c b := by unfold lf_up; rw [if_pos rfl, if_neg h]
theorem lf_up_s {f : Nat → Int → Int} {c : Nat} {i v : Int} : lf_up f c i v c i = v := by unfold lf_up; rw [if_pos rfl, if_pos rfl]
theorem lf_cp_c {f : Nat → Int → Int} {x y a : Nat} {p q n b : Int} (h : a ≠ y) : lf_cp f x y p q n a b = f a b := by unfold lf_cp; rw [if_neg (fun h9 => h h9.1)]
theorem lf_fl_c {f : Nat → Int → Int} {c a : Nat} {n v b : Int} (h : a ≠ c) : lf_fl f c n v a b = f a b := by unfold lf_fl; rw [if_neg (fun h9 => h h9.1)]
theorem lf_pt {P : Prop} (h : P) : (true = true → P) ∧ (true = false → ¬ P) := ⟨fun _ => h, fun h => by cases h⟩
theorem lf_pf {P : Prop} (h : ¬ P) : (false = true → P) ∧ (false = false → ¬ P) := ⟨fun h => (by cases h), fun _ => h⟩
theorem lf_lall {l : List Int32} {m : Int} (h : l.all (fun x => decide (0 ≤ x.toInt) && decide (x.toInt ≤ m)) = true) (hm : 0 ≤ m) (j : Nat) : 0 ≤ (l.getD j 0).toInt ∧ (l.getD j 0).toInt ≤ m := by
  by_cases hj : j < l.length
  · rw [List.getD_eq_getElem?_getD, List.getElem?_eq_getElem hj]
    have := List.all_eq_true.mp h _ (List.getElem_mem hj)
    simpa using this
  · rw [List.getD_eq_getElem?_getD, List.getElem?_eq_none (by omega)]
    exact ⟨by decide, hm⟩
theorem lf_px_shB {j : Nat} : 0 ≤ (px_sh j).toInt ∧ (px_sh j).toInt ≤ 99 := lf_lall (l := px_shL) (by decide) (by decide) j
theorem lf_px_lwB {j : Nat} : 0 ≤ (px_lw j).toInt ∧ (px_lw j).toInt ≤ 99 := lf_lall (l := px_lwL) (by decide) (by decide) j
theorem lf_le2 {a b v p q : Int} (h : a ≤ p ∧ q ≤ b) (h2 : p ≤ v ∧ v ≤ q) : a ≤ v ∧ v ≤ b := ⟨Int.le_trans h.1 h2.1, Int.le_trans h2.2 h.2⟩
def iv_F : Int → Int × Int := fun _ => (-2147483648, 2147483647)
def iv_a (i : Int) : Int × Int := if i < 14 then (if i = 0 then (0, 12) else if i = 1 then (0, 16) else if i = 2 then (0, 6) else if i = 6 then (0, 30202) else if i = 7 then (0, 4) else if i = 8 then (-1, 3) else if i = 9 then (0, 30) else if i = 10 then (0, 6) else if i = 11 then (0, 12) else (-2147483648, 2147483647)) else if i < 50 then (if (i - 14) % 3 = 0 then (0, 3) else if (i - 14) % 3 = 1 then (0, 99) else (-2147483648, 2147483647)) else if i < 114 then (if (i - 50) % 4 ≤ 1 then (0, 11) else (-2147483648, 2147483647)) else if i < 126 then (if (i - 114) % 3 = 0 then (0, 24) else if (i - 114) % 3 = 1 then (0, 11) else (-1, 11)) else if i < 162 then (if (i - 126) % 6 = 1 then (0, 1) else if (i - 126) % 6 = 3 then (0, 11) else if (i - 126) % 6 = 4 then (-1, 11) else if (i - 126) % 6 = 5 then (0, 11) else (-2147483648, 2147483647)) else if i < 174 then (if (i - 162) % 2 = 0 then (0, 11) else (-2147483648, 2147483647)) else if i < 278 then (-2147483648, 2147483647) else if i < 1538 then (if (i - 278) % 42 = 4 then (0, 30202) else if (i - 278) % 42 < 5 then (-2147483648, 2147483647) else if (i - 278) % 42 < 17 then (if ((i - 278) % 42 - 5) % 3 = 0 then (0, 24) else if ((i - 278) % 42 - 5) % 3 = 1 then (0, 11) else (-1, 11)) else if (i - 278) % 42 < 29 then (if ((i - 278) % 42 - 17) % 2 = 0 then (0, 11) else (-1, 11)) else (-2147483648, 2147483647)) else (-2147483648, 2147483647)
def iv_s (i : Int) : Int × Int := if 0 ≤ i ∧ i < 1170 then (if i % 39 < 12 then (if i % 39 % 3 = 0 then (-2147483648, 2147483647) else (-1, 11)) else (-2147483648, 2147483647)) else (-2147483648, 2147483647)
def iv_x (i : Int) : Int × Int := if 0 ≤ i ∧ i < 2820 ∧ i % 705 = 0 then (0, 24) else (-2147483648, 2147483647)
def iv_T : List (Int → Int × Int) := [(fun i => if i = 11 then (0, 4) else if i = 12 then (-1, 3) else (-2147483648, 2147483647)), (fun i => if i = 0 then (0, 12) else if i = 1 then (0, 16) else if i = 2 then (0, 6) else (-2147483648, 2147483647)), (fun _ => (0, 3)), (fun _ => (0, 99)), (fun _ => (0, 11)), (fun _ => (0, 11)), (fun _ => (0, 1)), (fun _ => (0, 9)), (fun _ => (0, 1)), (fun _ => (0, 1)), (fun _ => (0, 11)), (fun _ => (0, 15)), (fun _ => (0, 4)), (fun _ => (0, 1000)), (fun _ => (0, 1000)), iv_F, iv_F, (fun _ => (-1, 11)), (fun _ => (-1, 11)), iv_F, iv_F, iv_F, (fun i => if i = 2 then (0, 29) else if i = 3 then (0, 30) else (-2147483648, 2147483647)), iv_s, (fun _ => (0, 6)), (fun i => if i = 2 then (0, 6) else (-2147483648, 2147483647)), iv_F, iv_F, iv_F, iv_F, iv_F, (fun i => if i = 1 then (0, 300) else if i = 6 then (0, 2) else if i = 7 then (0, 300) else if i = 8 then (0, 300) else if i = 9 then (0, 300) else (-2147483648, 2147483647)), (fun _ => (0, 255)), (fun _ => (-1, 7)), iv_F, (fun i => if i = 1 then (0, 300) else if i = 7 then (0, 24) else (-2147483648, 2147483647)), iv_F, iv_F, iv_F, iv_F, iv_F, iv_F, (fun i => if i = 1 then (0, 300) else if i = 7 then (0, 24) else (-2147483648, 2147483647)), iv_F, iv_F, iv_F, iv_F, iv_F, iv_F, (fun i => if i = 1 then (0, 300) else if i = 7 then (0, 24) else (-2147483648, 2147483647)), iv_F, iv_F, iv_F, iv_F, iv_F, iv_F, (fun i => if i = 1 then (0, 300) else if i = 7 then (0, 24) else (-2147483648, 2147483647)), iv_F, iv_F, iv_F, iv_F, iv_F, iv_F, (fun i => if i = 6 then (0, 300) else (-2147483648, 2147483647)), iv_F, iv_F, iv_F, iv_F, iv_F, iv_F, (fun _ => (0, 155)), iv_F, iv_F, iv_F, (fun i => if i = 5 then (0, 6) else (-2147483648, 2147483647)), iv_F, (fun _ => (0, 5)), (fun _ => (0, 5)), (fun i => if i = 0 then (0, 12) else if i = 1 then (0, 16) else if i = 2 then (0, 6) else if i = 3 then (0, 4) else if i = 4 then (-1, 3) else (-2147483648, 2147483647)), iv_F, iv_F, (fun _ => (-1, 11)), (fun _ => (-1, 11)), iv_F, iv_F, iv_F, (fun i => if i = 2 then (0, 29) else if i = 3 then (0, 30) else (-2147483648, 2147483647)), iv_s, (fun _ => (0, 6)), (fun i => if i = 2 then (0, 6) else (-2147483648, 2147483647)), iv_F, iv_F, iv_F, iv_F, iv_F, (fun i => if i = 4 then (0, 300) else if i = 7 then (0, 300) else if i = 8 then (0, 300) else if i = 12 then (0, 2115) else if i = 13 then (0, 304) else if i = 14 then (0, 12) else if i = 19 then (0, 160) else if i = 20 then (0, 8) else if i = 21 then (0, 8) else if i = 22 then (0, 80) else if i = 23 then (0, 1) else (-2147483648, 2147483647)), iv_a, iv_a, iv_x, (fun _ => (0, 255)), (fun _ => (0, 45)), (fun _ => (0, 25)), (fun _ => (-1, 79)), (fun _ => (-1, 79)), iv_F, iv_F, iv_F, (fun _ => (0, 1)), (fun _ => (0, 1000)), iv_F, iv_F, (fun _ => (0, 1)), (fun _ => (0, 155)), (fun _ => (0, 5)), (fun _ => (0, 11)), (fun _ => (0, 1000)), (fun _ => (0, 5)), (fun _ => (0, 5)), (fun _ => (0, 3)), (fun _ => (0, 1000))]
def iv_B (c : Nat) : Int → Int × Int := iv_T.getD c iv_F
def iv_in (r : Int × Int) : Prop := -2147483648 ≤ r.1 ∧ r.2 ≤ 2147483647
theorem iv_ite {p : Prop} {hp : Decidable p} {a b : Int × Int} (ha : a.1 ≥ -2147483648 ∧ a.2 ≤ 2147483647) (hb : b.1 ≥ -2147483648 ∧ b.2 ≤ 2147483647) : (@ite (Int × Int) p hp a b).1 ≥ -2147483648 ∧ (@ite (Int × Int) p hp a b).2 ≤ 2147483647 := by
  by_cases h : p
  · rw [if_pos h]; exact ha
  · rw [if_neg h]; exact hb
theorem iv_itR {p : Prop} {hp : Decidable p} {a b : Int × Int} {L H : Int} (ha : p → L ≤ a.1 ∧ a.2 ≤ H) (hb : ¬ p → L ≤ b.1 ∧ b.2 ≤ H) : L ≤ (@ite (Int × Int) p hp a b).1 ∧ (@ite (Int × Int) p hp a b).2 ≤ H := by
  by_cases h : p
  · rw [if_pos h]; exact ha h
  · rw [if_neg h]; exact hb h
theorem iv_itW {p : Prop} {hp : Decidable p} {a b : Int × Int} {L H : Int} (ha : p → a.1 ≤ L ∧ H ≤ a.2) (hb : ¬ p → b.1 ≤ L ∧ H ≤ b.2) : (@ite (Int × Int) p hp a b).1 ≤ L ∧ H ≤ (@ite (Int × Int) p hp a b).2 := by
  by_cases h : p
  · rw [if_pos h]; exact ha h
  · rw [if_neg h]; exact hb h
theorem iv_a_F (i : Int) : (iv_a i).1 ≥ -2147483648 ∧ (iv_a i).2 ≤ 2147483647 := by
  unfold iv_a
  repeat' refine iv_ite ?_ ?_
  all_goals exact ⟨by decide, by decide⟩
theorem iv_s_F (i : Int) : (iv_s i).1 ≥ -2147483648 ∧ (iv_s i).2 ≤ 2147483647 := by
  unfold iv_s
  repeat' refine iv_ite ?_ ?_
  all_goals exact ⟨by decide, by decide⟩
theorem iv_x_F (i : Int) : (iv_x i).1 ≥ -2147483648 ∧ (iv_x i).2 ≤ 2147483647 := by
  unfold iv_x
  repeat' refine iv_ite ?_ ?_
  all_goals exact ⟨by decide, by decide⟩
theorem iv_TF : ∀ f ∈ iv_T, ∀ i : Int, (f i).1 ≥ -2147483648 ∧ (f i).2 ≤ 2147483647 := by
  unfold iv_T
  repeat' refine List.forall_mem_cons.mpr ⟨?_, ?_⟩
  all_goals first | (intro f hf; cases hf; done) | exact iv_a_F | exact iv_s_F | exact iv_x_F | (intro i; unfold iv_F; exact ⟨by decide, by decide⟩) | (intro i; dsimp only; exact ⟨by decide, by decide⟩) | (intro i; dsimp only; repeat' refine iv_ite ?_ ?_) <;> exact ⟨by decide, by decide⟩
theorem iv_BF (c : Nat) (i : Int) : (iv_B c i).1 ≥ -2147483648 ∧ (iv_B c i).2 ≤ 2147483647 := by
  unfold iv_B
  rw [List.getD_eq_getElem?_getD]
  cases h : iv_T[c]? with
  | none => show (-2147483648 : Int) ≥ -2147483648 ∧ (2147483647 : Int) ≤ 2147483647; exact ⟨by decide, by decide⟩
  | some f => exact iv_TF f (List.mem_of_getElem? h) i
def iv_I (I : Nat → Int → Int) : Prop := ∀ c i, (iv_B c i).1 ≤ I c i ∧ I c i ≤ (iv_B c i).2
def iv_P (P : Nat → Option Nat) : Prop := (∃ w, P 0 = some w ∧ (w = 72 ∨ w = 73)) ∧ (∃ w, P 1 = some w ∧ (w = 72 ∨ w = 73)) ∧ (∀ t, P 2 = some t → t < 4) ∧ (∀ t, P 3 = some t → t < 4)
def iv_sq (I : Nat → Int → Int) (a b : Nat) : Prop := ∀ j : Int, 0 ≤ j → j < 4 → I a j ≤ 0 ∨ 0 ≤ I b j
def iv_sr (I : Nat → Int → Int) (a : Nat) : Prop := ∀ r j : Int, 0 ≤ j → j < 4 → I a (39 * r + 3 * j) ≤ 0 ∨ 0 ≤ I a (39 * r + 3 * j + 1)
/-! the code of a clause of a text: what each order does to the depths, and where it is safe -/
def wk_dn (o : Int) : Int := if o ≤ 1 then 1 else if o = 31 then 1 else if o = 2 then -1 else if o = 30 then -1 else if o = 3 then 0 else if o < 10 then -1 else if o < 20 then -2 else 0
def wk_dt (o : Int) : Int := if o ≤ 1 then 0 else if o = 31 then 0 else if o = 2 then -1 else if o = 30 then 0 else if o = 3 then 0 else if o < 10 then 0 else if o < 20 then 1 else if o = 20 then 0 else -1
def wk_sf (o v n t : Int) : Prop := (o ≤ 1 ∨ o = 31 → o = 0 ∨ (o = 1 ∧ 0 ≤ v ∧ v < 11) ∨ (o ≠ 1 ∧ 0 ≤ v ∧ v < 80)) ∧ (o = 2 → 2 ≤ n ∧ 1 ≤ t) ∧ (o = 30 → 1 ≤ n ∧ 0 ≤ v ∧ v < 80) ∧ (o = 3 → 1 ≤ n) ∧ (4 ≤ o ∧ o < 20 → 2 ≤ n) ∧ (o = 20 → 1 ≤ t) ∧ (21 ≤ o ∧ o ≠ 30 ∧ o ≠ 31 → 2 ≤ t)
def wk_n (f : Int → Int) (b st : Int) : Nat → Int
  | 0 => 0
  | m + 1 => wk_n f b st m + wk_dn (f (b + 2 * (st + m)))
def wk_t (f : Int → Int) (b st : Int) : Nat → Int
  | 0 => 0
  | m + 1 => wk_t f b st m + wk_dt (f (b + 2 * (st + m)))
def wk_ok (f : Int → Int) (b st : Int) (m : Nat) : Prop := ∀ j : Nat, j < m → wk_sf (f (b + 2 * (st + j))) (f (b + 2 * (st + j) + 1)) (wk_n f b st j) (wk_t f b st j)
def wk_O (f : Int → Int) (x b : Int) : Prop := 0 ≤ f (x + 1) ∧ f (x + 1) ≤ f (x + 2) ∧ f (x + 2) ≤ 304 ∧ wk_ok f b (f (x + 1)) (f (x + 2) - f (x + 1)).toNat
def wk_T (f : Int → Int) : Prop := ∀ t k : Int, 0 ≤ t → t < 4 → 0 ≤ k → k < f (705 * t) → 0 ≤ f (705 * t + 1 + 4 * k) → f (705 * t + 1 + 4 * k) ≤ 2 → wk_O f (705 * t + 1 + 4 * k) (705 * t + 97)
/-- ways end at stretches that there are -/
def iv_ep (f : Int → Int) : Prop := ∀ w : Int, 0 ≤ w → w < 16 → w < f 1 → f (50 + 4 * w) < f 0 ∧ f (50 + 4 * w + 1) < f 0
def iv_S (I : Nat → Int → Int) : Prop := iv_sq I 16 17 ∧ iv_sq I 80 81 ∧ iv_sr I 23 ∧ iv_sr I 87 ∧ wk_T (I 98)
/-- no more than 24 beasts, now and in what is kept -/
def iv_s4 (f : Int → Int) (b : Int) : Prop := f b + f (b + 3) + f (b + 6) + f (b + 9) ≤ 24
def iv_sz (f : Int → Int) : Prop := iv_s4 f 114 ∧ ∀ r : Int, 0 ≤ r → r < f 9 → iv_s4 f (278 + 42 * r + 5)
def iv_l (I : Nat → Int → Int) (c : Nat) : Prop := (0 < I c 1 ∨ 0 < I c 2 → 0 < I c 0) ∧ iv_ep (I c) ∧ iv_sz (I c)
def iv_A (I : Nat → Int → Int) (P : Nat → Option Nat) : Prop := iv_I I ∧ iv_P P ∧ iv_S I ∧ iv_l I 96 ∧ iv_l I 97
section IVA
variable {I : Nat → Int → Int} {P : Nat → Option Nat} {c c0 c1 : Nat} {i v : Int}
theorem iv_full (h : iv_A I P) : -2147483648 ≤ I c i ∧ I c i ≤ 2147483647 := ⟨Int.le_trans (iv_BF c i).1 (h.1 c i).1, Int.le_trans (h.1 c i).2 (iv_BF c i).2⟩
theorem iv_up (h : iv_I I) (hv : (iv_B c i).1 ≤ v ∧ v ≤ (iv_B c i).2) : iv_I (lf_up I c i v) := by
  intro a b
  unfold lf_up
  by_cases ha : a = c
  · subst ha
    rw [if_pos rfl]
    by_cases hb : b = i
    · subst hb; rw [if_pos rfl]; exact hv
    · rw [if_neg hb]; exact h a b
  · rw [if_neg ha]; exact h a b
/-- the other side of a way, as the reference has it, and as the class has it -/
def iv_os (A : Int → Int) (w s : Int) : Int := if A (50 + 4 * w) = s then A (50 + 4 * w + 1) else if A (50 + 4 * w + 1) = s then A (50 + 4 * w) else -1
def iv_od (n : Int) (A B : Int → Int) (w s : Int) : Int := if 0 ≤ w ∧ w < n then (if A w = s then B w else if B w = s then A w else -1) else -1
def iv_fr8 (c : Nat) : Bool := !([16, 17, 80, 81, 23, 87, 96, 97, 98].contains c)
theorem iv_fr8e (hc : iv_fr8 c = true) : 16 ≠ c ∧ 17 ≠ c ∧ 80 ≠ c ∧ 81 ≠ c ∧ 23 ≠ c ∧ 87 ≠ c ∧ 96 ≠ c ∧ 97 ≠ c ∧ 98 ≠ c := by
  refine ⟨?_, ?_, ?_, ?_, ?_, ?_, ?_, ?_, ?_⟩ <;> (intro h; subst h; cases hc)
theorem iv_Sc {J : Nat → Int → Int} (h : iv_S I) (e16 : J 16 = I 16) (e17 : J 17 = I 17) (e80 : J 80 = I 80) (e81 : J 81 = I 81) (e23 : J 23 = I 23) (e87 : J 87 = I 87) (e98 : J 98 = I 98) : iv_S J := by
  unfold iv_S iv_sq iv_sr at *
  rw [e16, e17, e80, e81, e23, e87, e98]
  exact h
theorem lf_up_row {f : Nat → Int → Int} {a : Nat} (h : a ≠ c) : lf_up f c i v a = f a := by
  funext b
  exact lf_up_c h
theorem iv_wr (h : iv_A I P) (hc : iv_fr8 c = true) (hv : (iv_B c i).1 ≤ v ∧ v ≤ (iv_B c i).2) : iv_A (lf_up I c i v) P := by
  obtain ⟨a1, a2, a3, a4, a5, a6, a7, a8, a9⟩ := iv_fr8e hc
  refine ⟨iv_up h.1 hv, h.2.1, iv_Sc h.2.2.1 (lf_up_row a1) (lf_up_row a2) (lf_up_row a3) (lf_up_row a4) (lf_up_row a5) (lf_up_row a6) (lf_up_row a9), ?_, ?_⟩
  · unfold iv_l; rw [lf_up_row a7]; exact h.2.2.2.1
  · unfold iv_l; rw [lf_up_row a8]; exact h.2.2.2.2
theorem iv_w96' (h : iv_A I P) (hv : (iv_B 96 i).1 ≤ v ∧ v ≤ (iv_B 96 i).2) (hr : i < 3 ∨ i = 9 ∨ (50 ≤ i ∧ i < 114 ∧ (i - 50) % 4 < 2) ∨ i = 114 ∨ i = 117 ∨ i = 120 ∨ i = 123 ∨ (278 ≤ i ∧ i < 278 + 42 * I 96 9) → iv_l (lf_up I 96 i v) 96) : iv_A (lf_up I 96 i v) P := by
  refine ⟨iv_up h.1 hv, h.2.1, iv_Sc h.2.2.1 (lf_up_row (by decide)) (lf_up_row (by decide)) (lf_up_row (by decide)) (lf_up_row (by decide)) (lf_up_row (by decide)) (lf_up_row (by decide)) (lf_up_row (by decide)), ?_, ?_⟩
  · by_cases hi : i < 3 ∨ i = 9 ∨ (50 ≤ i ∧ i < 114 ∧ (i - 50) % 4 < 2) ∨ i = 114 ∨ i = 117 ∨ i = 120 ∨ i = 123 ∨ (278 ≤ i ∧ i < 278 + 42 * I 96 9)
    · exact hr hi
    · refine ⟨?_, ?_, ?_, ?_⟩
      · rw [lf_up_i (by omega), lf_up_i (by omega), lf_up_i (by omega)]; exact h.2.2.2.1.1
      · intro w h0 h1 h2
        rw [lf_up_i (by omega)] at h2
        rw [lf_up_i (by omega), lf_up_i (by omega), lf_up_i (by omega)]
        exact h.2.2.2.1.2.1 w h0 h1 h2
      · unfold iv_s4
        rw [lf_up_i (by omega), lf_up_i (by omega), lf_up_i (by omega), lf_up_i (by omega)]
        exact h.2.2.2.1.2.2.1
      · intro r h0 h1
        rw [lf_up_i (by omega)] at h1
        unfold iv_s4
        rw [lf_up_i (by omega), lf_up_i (by omega), lf_up_i (by omega), lf_up_i (by omega)]
        exact h.2.2.2.1.2.2.2 r h0 h1
  · unfold iv_l; rw [lf_up_row (by decide)]; exact h.2.2.2.2
theorem iv_szc {f f' : Int → Int} (h : iv_sz f) (e9 : f' 9 ≤ f 9) (e : ∀ j : Int, 114 ≤ j → j < 126 ∨ 278 ≤ j → f' j = f j) : iv_sz f' := by
  refine ⟨?_, fun r h0 h1 => ?_⟩
  · unfold iv_s4
    rw [e _ (by omega) (by omega), e _ (by omega) (by omega), e _ (by omega) (by omega), e _ (by omega) (by omega)]
    exact h.1
  · unfold iv_s4
    rw [e _ (by omega) (by omega), e _ (by omega) (by omega), e _ (by omega) (by omega), e _ (by omega) (by omega)]
    exact h.2 r h0 (by omega)
theorem iv_szu (h : iv_A I P) (hi : i < 114) (h9 : i ≠ 9) : iv_sz (lf_up I 96 i v 96) := iv_szc h.2.2.2.1.2.2 (by rw [lf_up_i (by omega)]; exact Int.le_refl _) (fun j a b => lf_up_i (by omega))
theorem iv_rel0 (h : iv_A I P) (hv : 0 < v ∧ I 96 0 ≤ v) : iv_l (lf_up I 96 0 v) 96 := by
  refine ⟨fun _ => by rw [lf_up_s]; exact hv.1, fun w h0 h1 h2 => ?_, iv_szu h (by decide) (by decide)⟩
  rw [lf_up_i (by decide)] at h2
  have e1 : lf_up I 96 0 v 96 (50 + 4 * w) = I 96 (50 + 4 * w) := lf_up_i (by omega)
  have e2 : lf_up I 96 0 v 96 (50 + 4 * w + 1) = I 96 (50 + 4 * w + 1) := lf_up_i (by omega)
  rw [e1, e2, lf_up_s]
  have := h.2.2.2.1.2.1 w h0 h1 h2
  omega
theorem iv_rel1 (h : iv_A I P) (hv : 0 < I 96 0) (hw : v ≤ I 96 1 + 1) (e1 : I 96 (50 + 4 * I 96 1) < I 96 0) (e2 : I 96 (50 + 4 * I 96 1 + 1) < I 96 0) : iv_l (lf_up I 96 1 v) 96 := by
  have hn : 0 ≤ I 96 1 := (h.1 96 1).1
  refine ⟨fun _ => by rw [lf_up_i (by decide)]; exact hv, fun w h0 h1 h2 => ?_, iv_szu h (by decide) (by decide)⟩
  rw [lf_up_s] at h2
  rw [lf_up_i (by omega), lf_up_i (by omega), lf_up_i (by omega)]
  by_cases hq : w = I 96 1
  · rw [hq]; exact ⟨e1, e2⟩
  · exact h.2.2.2.1.2.1 w h0 h1 (by omega)
theorem iv_rel2 (h : iv_A I P) (hv : 0 < I 96 0) : iv_l (lf_up I 96 2 v) 96 := by
  refine ⟨fun _ => by rw [lf_up_i (by decide)]; exact hv, fun w h0 h1 h2 => ?_, iv_szu h (by decide) (by decide)⟩
  rw [lf_up_i (by omega)] at h2
  rw [lf_up_i (by omega), lf_up_i (by omega), lf_up_i (by omega)]
  exact h.2.2.2.1.2.1 w h0 h1 h2
theorem iv_relw (h : iv_A I P) (hi : 50 + 4 * I 96 1 ≤ i ∧ i < 114) : iv_l (lf_up I 96 i v) 96 := by
  have hn : 0 ≤ I 96 1 := (h.1 96 1).1
  refine ⟨?_, fun w h0 h1 h2 => ?_, iv_szu h (by omega) (by omega)⟩
  · rw [lf_up_i (by omega), lf_up_i (by omega), lf_up_i (by omega)]; exact h.2.2.2.1.1
  · rw [lf_up_i (by omega)] at h2
    rw [lf_up_i (by omega), lf_up_i (by omega), lf_up_i (by omega)]
    exact h.2.2.2.1.2.1 w h0 h1 h2
theorem iv_rlo (h : iv_A I P) (hi : 3 ≤ i) (hi2 : i < 50 ∨ 114 ≤ i) : (0 < lf_up I 96 i v 96 1 ∨ 0 < lf_up I 96 i v 96 2 → 0 < lf_up I 96 i v 96 0) ∧ iv_ep (lf_up I 96 i v 96) := by
  refine ⟨?_, fun w h0 h1 h2 => ?_⟩
  · rw [lf_up_i (by omega), lf_up_i (by omega), lf_up_i (by omega)]; exact h.2.2.2.1.1
  · rw [lf_up_i (by omega)] at h2
    rw [lf_up_i (by omega), lf_up_i (by omega), lf_up_i (by omega)]
    exact h.2.2.2.1.2.1 w h0 h1 h2
theorem iv_rel9 (h : iv_A I P) (hv : v ≤ I 96 9) : iv_l (lf_up I 96 9 v) 96 := by
  have a := iv_rlo (v := v) h (i := 9) (by decide) (by decide)
  exact ⟨a.1, a.2, iv_szc h.2.2.2.1.2.2 (by rw [lf_up_s]; exact hv) (fun j a b => lf_up_i (by omega))⟩
theorem iv_rel9u (h : iv_A I P) (hv : v ≤ I 96 9 + 1) (hs : iv_s4 (I 96) (278 + 42 * I 96 9 + 5)) : iv_l (lf_up I 96 9 v) 96 := by
  have a := iv_rlo (v := v) h (i := 9) (by decide) (by decide)
  have hn : 0 ≤ I 96 9 := (h.1 96 9).1
  refine ⟨a.1, a.2, ?_, fun r h0 h1 => ?_⟩
  · unfold iv_s4
    rw [lf_up_i (by omega), lf_up_i (by omega), lf_up_i (by omega), lf_up_i (by omega)]
    exact h.2.2.2.1.2.2.1
  · rw [lf_up_s] at h1
    unfold iv_s4
    rw [lf_up_i (by omega), lf_up_i (by omega), lf_up_i (by omega), lf_up_i (by omega)]
    by_cases hq : r = I 96 9
    · rw [hq]; exact hs
    · exact h.2.2.2.1.2.2.2 r h0 (by omega)
theorem iv_szA (h : iv_A I P) : I 96 114 + I 96 117 + I 96 120 + I 96 123 ≤ 24 := h.2.2.2.1.2.2.1
theorem iv_rels (h : iv_A I P) (hi : i = 114 ∨ i = 117 ∨ i = 120 ∨ i = 123) (hv : I 96 114 + I 96 117 + I 96 120 + I 96 123 - I 96 i + v ≤ 24) : iv_l (lf_up I 96 i v) 96 := by
  have a := iv_rlo (v := v) h (i := i) (by omega) (by omega)
  refine ⟨a.1, a.2, ?_, fun r h0 h1 => ?_⟩
  · show lf_up I 96 i v 96 114 + lf_up I 96 i v 96 117 + lf_up I 96 i v 96 120 + lf_up I 96 i v 96 123 ≤ 24
    rcases hi with rfl | rfl | rfl | rfl
    · rw [lf_up_s, lf_up_i (by decide), lf_up_i (by decide), lf_up_i (by decide)]; omega
    · rw [lf_up_s, lf_up_i (b := 114) (by decide), lf_up_i (b := 120) (by decide), lf_up_i (b := 123) (by decide)]; omega
    · rw [lf_up_s, lf_up_i (b := 114) (by decide), lf_up_i (b := 117) (by decide), lf_up_i (b := 123) (by decide)]; omega
    · rw [lf_up_s, lf_up_i (b := 114) (by decide), lf_up_i (b := 117) (by decide), lf_up_i (b := 120) (by decide)]; omega
  · rw [lf_up_i (by omega)] at h1
    unfold iv_s4
    rw [lf_up_i (by omega), lf_up_i (by omega), lf_up_i (by omega), lf_up_i (by omega)]
    exact h.2.2.2.1.2.2.2 r h0 h1
theorem iv_wd96 (h : iv_A I P) (hv : (iv_a i).1 ≤ v ∧ v ≤ (iv_a i).2) (hr : i < 3 ∨ i = 9 ∨ (50 ≤ i ∧ i < 114 ∧ (i - 50) % 4 < 2) ∨ i = 114 ∨ i = 117 ∨ i = 120 ∨ i = 123 ∨ (278 ≤ i ∧ i < 278 + 42 * I 96 9) → iv_l (lf_up I 96 i v) 96) : iv_A (lf_up I 96 i v) P := iv_w96' h hv hr
theorem iv_rd96 {p q : Int} (h : iv_A I P) (hr : p ≤ (iv_a i).1 ∧ (iv_a i).2 ≤ q) : p ≤ I 96 i ∧ I 96 i ≤ q := ⟨Int.le_trans hr.1 (h.1 96 i).1, Int.le_trans (h.1 96 i).2 hr.2⟩
theorem iv_rd97 {p q : Int} (h : iv_A I P) (hr : p ≤ (iv_a i).1 ∧ (iv_a i).2 ≤ q) : p ≤ I 97 i ∧ I 97 i ≤ q := ⟨Int.le_trans hr.1 (h.1 97 i).1, Int.le_trans (h.1 97 i).2 hr.2⟩
theorem iv_rd23 {p q : Int} (h : iv_A I P) (hr : p ≤ (iv_s i).1 ∧ (iv_s i).2 ≤ q) : p ≤ I 23 i ∧ I 23 i ≤ q := ⟨Int.le_trans hr.1 (h.1 23 i).1, Int.le_trans (h.1 23 i).2 hr.2⟩
theorem iv_rd87 {p q : Int} (h : iv_A I P) (hr : p ≤ (iv_s i).1 ∧ (iv_s i).2 ≤ q) : p ≤ I 87 i ∧ I 87 i ≤ q := ⟨Int.le_trans hr.1 (h.1 87 i).1, Int.le_trans (h.1 87 i).2 hr.2⟩
theorem iv_rd98 {p q : Int} (h : iv_A I P) (hr : p ≤ (iv_x i).1 ∧ (iv_x i).2 ≤ q) : p ≤ I 98 i ∧ I 98 i ≤ q := ⟨Int.le_trans hr.1 (h.1 98 i).1, Int.le_trans (h.1 98 i).2 hr.2⟩
theorem iv_wd98 (h : iv_A I P) (hv : (iv_x i).1 ≤ v ∧ v ≤ (iv_x i).2) (hk : wk_T (lf_up I 98 i v 98)) : iv_A (lf_up I 98 i v) P := by
  obtain ⟨s1, s2, s3, s4, s5⟩ := h.2.2.1
  refine ⟨iv_up h.1 hv, h.2.1, ⟨?_, ?_, ?_, ?_, hk⟩, ?_, ?_⟩
  · unfold iv_sq; rw [lf_up_row (by decide), lf_up_row (by decide)]; exact s1
  · unfold iv_sq; rw [lf_up_row (by decide), lf_up_row (by decide)]; exact s2
  · unfold iv_sr; rw [lf_up_row (by decide)]; exact s3
  · unfold iv_sr; rw [lf_up_row (by decide)]; exact s4
  · unfold iv_l; rw [lf_up_row (by decide)]; exact h.2.2.2.1
  · unfold iv_l; rw [lf_up_row (by decide)]; exact h.2.2.2.2
theorem iv_sp (h : iv_A I P) (h0 : 0 ≤ i) (h1 : i < 4) : I 16 i ≤ 0 ∨ 0 ≤ I 17 i := h.2.2.1.1 i h0 h1
theorem iv_w16 (h : iv_A I P) (hb : -2147483648 ≤ v ∧ v ≤ 2147483647) (hs : v ≤ 0 ∨ 0 ≤ I 17 i) : iv_A (lf_up I 16 i v) P := by
  refine ⟨iv_up h.1 hb, h.2.1, ⟨?_, ?_, ?_, ?_, (by rw [lf_up_row (by decide)]; exact h.2.2.1.2.2.2.2)⟩, h.2.2.2.1, h.2.2.2.2⟩
  · intro j h0 h1
    rw [lf_up_c (show 17 ≠ 16 by decide)]
    by_cases hj : j = i
    · subst hj; rw [lf_up_s]; exact hs
    · rw [lf_up_i hj]; exact h.2.2.1.1 j h0 h1
  · intro j h0 h1; rw [lf_up_c (by decide), lf_up_c (by decide)]; exact h.2.2.1.2.1 j h0 h1
  · intro r j h0 h1; rw [lf_up_c (by decide), lf_up_c (by decide)]; exact h.2.2.1.2.2.1 r j h0 h1
  · intro r j h0 h1; rw [lf_up_c (by decide), lf_up_c (by decide)]; exact h.2.2.1.2.2.2.1 r j h0 h1
theorem iv_w17 (h : iv_A I P) (hb : -1 ≤ v ∧ v ≤ 11) (hs : I 16 i ≤ 0 ∨ 0 ≤ v) : iv_A (lf_up I 17 i v) P := by
  refine ⟨iv_up h.1 hb, h.2.1, ⟨?_, ?_, ?_, ?_, (by rw [lf_up_row (by decide)]; exact h.2.2.1.2.2.2.2)⟩, h.2.2.2.1, h.2.2.2.2⟩
  · intro j h0 h1
    rw [lf_up_c (show 16 ≠ 17 by decide)]
    by_cases hj : j = i
    · subst hj; rw [lf_up_s]; exact hs
    · rw [lf_up_i hj]; exact h.2.2.1.1 j h0 h1
  · intro j h0 h1; rw [lf_up_c (by decide), lf_up_c (by decide)]; exact h.2.2.1.2.1 j h0 h1
  · intro r j h0 h1; rw [lf_up_c (by decide), lf_up_c (by decide)]; exact h.2.2.1.2.2.1 r j h0 h1
  · intro r j h0 h1; rw [lf_up_c (by decide), lf_up_c (by decide)]; exact h.2.2.1.2.2.2.1 r j h0 h1
theorem iv_ref0 (h : iv_A I P) : ∃ w, P 0 = some w ∧ (w = 72 ∨ w = 73) := h.2.1.1
theorem iv_ref1 (h : iv_A I P) : ∃ w, P 1 = some w ∧ (w = 72 ∨ w = 73) := h.2.1.2.1
theorem iv_t2 {t : Nat} (h : iv_A I P) (e : P 2 = some t) : t < 4 := h.2.1.2.2.1 t e
theorem iv_t3 {t : Nat} (h : iv_A I P) (e : P 3 = some t) : t < 4 := h.2.1.2.2.2 t e
theorem iv_uw0 {w : Nat} (h : iv_A I P) (hw : w = 72 ∨ w = 73) : iv_A I (lf_ur P 0 (some w)) := ⟨h.1, ⟨⟨w, rfl, hw⟩, h.2.1.2.1, h.2.1.2.2⟩, h.2.2⟩
theorem iv_uw1 {w : Nat} (h : iv_A I P) (hw : w = 72 ∨ w = 73) : iv_A I (lf_ur P 1 (some w)) := ⟨h.1, ⟨h.2.1.1, ⟨w, rfl, hw⟩, h.2.1.2.2⟩, h.2.2⟩
theorem iv_ut2 {t : Nat} (h : iv_A I P) (ht : t < 4) : iv_A I (lf_ur P 2 (some t)) := ⟨h.1, ⟨h.2.1.1, h.2.1.2.1, fun u e => by cases e; exact ht, h.2.1.2.2.2⟩, h.2.2⟩
theorem iv_ut3 {t : Nat} (h : iv_A I P) (ht : t < 4) : iv_A I (lf_ur P 3 (some t)) := ⟨h.1, ⟨h.2.1.1, h.2.1.2.1, h.2.1.2.2.1, fun u e => by cases e; exact ht⟩, h.2.2⟩
theorem iv_un3 (h : iv_A I P) : iv_A I (lf_ur P 3 none) := ⟨h.1, ⟨h.2.1.1, h.2.1.2.1, h.2.1.2.2.1, fun u e => by cases e⟩, h.2.2⟩
theorem lf_ur2 {t : Nat} : lf_ur P 2 (some t) 2 ≠ none := by intro h; cases h
theorem iv_fill {n : Int} (h : iv_A I P) (hc : iv_fr8 c = true) (hv : ∀ j, (iv_B c j).1 ≤ v ∧ v ≤ (iv_B c j).2) : iv_A (lf_fl I c n v) P := by
  obtain ⟨a1, a2, a3, a4, a5, a6, a7, a8, a9⟩ := iv_fr8e hc
  have row : ∀ {a : Nat}, a ≠ c → lf_fl I c n v a = I a := fun ha => funext fun b => lf_fl_c ha
  refine ⟨?_, h.2.1, iv_Sc h.2.2.1 (row a1) (row a2) (row a3) (row a4) (row a5) (row a6) (row a9), ?_, ?_⟩
  · intro a b
    unfold lf_fl
    by_cases hq : a = c ∧ 0 ≤ b ∧ b < n
    · rw [if_pos hq, hq.1]; exact hv b
    · rw [if_neg hq]; exact h.1 a b
  · unfold iv_l; rw [row a7]; exact h.2.2.2.1
  · unfold iv_l; rw [row a8]; exact h.2.2.2.2
theorem iv_copy {p q n : Int} (h : iv_A I P) (hc : iv_fr8 c1 = true) (hv : ∀ j k, (iv_B c1 j).1 ≤ (iv_B c0 k).1 ∧ (iv_B c0 k).2 ≤ (iv_B c1 j).2) : iv_A (lf_cp I c0 c1 p q n) P := by
  obtain ⟨a1, a2, a3, a4, a5, a6, a7, a8, a9⟩ := iv_fr8e hc
  have row : ∀ {a : Nat}, a ≠ c1 → lf_cp I c0 c1 p q n a = I a := fun ha => funext fun b => lf_cp_c ha
  refine ⟨?_, h.2.1, iv_Sc h.2.2.1 (row a1) (row a2) (row a3) (row a4) (row a5) (row a6) (row a9), ?_, ?_⟩
  · intro a b
    unfold lf_cp
    by_cases hq : a = c1 ∧ q ≤ b ∧ b < q + n
    · rw [if_pos hq, hq.1]; exact lf_le2 (hv b (p + (b - q))) (h.1 c0 _)
    · rw [if_neg hq]; exact h.1 a b
  · unfold iv_l; rw [row a7]; exact h.2.2.2.1
  · unfold iv_l; rw [row a8]; exact h.2.2.2.2
theorem iv_cpR (h : iv_A I P) (hq : c0 = 23 ∧ c1 = 87 ∨ c0 = 87 ∧ c1 = 23) : iv_A (lf_cp I c0 c1 0 0 1170) P := by
  have e : ∀ j, lf_cp I c0 c1 0 0 1170 c1 j = if 0 ≤ j ∧ j < 1170 then I c0 j else I c1 j := by
    intro j
    unfold lf_cp
    by_cases hj : 0 ≤ j ∧ j < 0 + 1170
    · rw [if_pos ⟨rfl, hj⟩, if_pos (by omega), show (0 : Int) + (j - 0) = j by omega]
    · rw [if_neg (fun h9 => hj h9.2), if_neg (by omega)]
  have row : ∀ {a : Nat}, a ≠ c1 → lf_cp I c0 c1 0 0 1170 a = I a := fun ha => funext fun b => lf_cp_c ha
  have sr : iv_sr I c0 → iv_sr I c1 → iv_sr (lf_cp I c0 c1 0 0 1170) c1 := by
    intro h0 h1 r j a b
    rw [e, e]
    by_cases hj : 0 ≤ 39 * r + 3 * j ∧ 39 * r + 3 * j < 1170
    · rw [if_pos hj]
      by_cases hk : 0 ≤ 39 * r + 3 * j + 1 ∧ 39 * r + 3 * j + 1 < 1170
      · rw [if_pos hk]; exact h0 r j a b
      · omega
    · rw [if_neg hj]
      by_cases hk : 0 ≤ 39 * r + 3 * j + 1 ∧ 39 * r + 3 * j + 1 < 1170
      · omega
      · rw [if_neg hk]; exact h1 r j a b
  have hI : iv_I (lf_cp I c0 c1 0 0 1170) := by
    intro a b
    unfold lf_cp
    by_cases hz : a = c1 ∧ 0 ≤ b ∧ b < 0 + 1170
    · rw [if_pos hz, hz.1, show (0 : Int) + (b - 0) = b by omega]
      rcases hq with ⟨rfl, rfl⟩ | ⟨rfl, rfl⟩
      · exact h.1 23 b
      · exact h.1 87 b
    · rw [if_neg hz]; exact h.1 a b
  obtain ⟨s1, s2, s3, s4, s5⟩ := h.2.2.1
  rcases hq with ⟨rfl, rfl⟩ | ⟨rfl, rfl⟩
  · refine ⟨hI, h.2.1, ⟨?_, ?_, ?_, sr s3 s4, (by rw [row (by decide)]; exact s5)⟩, ?_, ?_⟩
    · unfold iv_sq; rw [row (by decide), row (by decide)]; exact s1
    · unfold iv_sq; rw [row (by decide), row (by decide)]; exact s2
    · unfold iv_sr; rw [row (by decide)]; exact s3
    · unfold iv_l; rw [row (by decide)]; exact h.2.2.2.1
    · unfold iv_l; rw [row (by decide)]; exact h.2.2.2.2
  · refine ⟨hI, h.2.1, ⟨?_, ?_, sr s4 s3, ?_, (by rw [row (by decide)]; exact s5)⟩, ?_, ?_⟩
    · unfold iv_sq; rw [row (by decide), row (by decide)]; exact s1
    · unfold iv_sq; rw [row (by decide), row (by decide)]; exact s2
    · unfold iv_sr; rw [row (by decide)]; exact s4
    · unfold iv_l; rw [row (by decide)]; exact h.2.2.2.1
    · unfold iv_l; rw [row (by decide)]; exact h.2.2.2.2
/-! frames -/
def fr_g (r : Nat) (i : Int) : Prop := match r with
  | 0 => i = 11 ∨ (254 ≤ i ∧ i < 278)
  | 1 => i = 10 ∨ (162 ≤ i ∧ i < 174)
  | 2 => 174 ≤ i ∧ i < 254
  | 3 => i = 7 ∨ i = 8
  | 4 => i = 0 ∨ i = 1 ∨ i = 2 ∨ (14 ≤ i ∧ i < 50 ∧ (i - 14) % 3 ≠ 2) ∨ (50 ≤ i ∧ i < 114 ∧ (i - 50) % 4 ≠ 3) ∨ (126 ≤ i ∧ i < 162 ∧ (i - 126) % 6 ≠ 3 ∧ (i - 126) % 6 ≠ 4)
  | 5 => i = 9 ∨ 278 ≤ i
  | 6 => i = 3 ∨ i = 6 ∨ (14 ≤ i ∧ i < 50 ∧ (i - 14) % 3 = 2) ∨ (50 ≤ i ∧ i < 114 ∧ (i - 50) % 4 = 3) ∨ (114 ≤ i ∧ i < 126) ∨ (126 ≤ i ∧ i < 162 ∧ ((i - 126) % 6 = 3 ∨ (i - 126) % 6 = 4))
  | _ => False
theorem fr_n0 {i : Int} (h : i ≠ 11 ∧ (i < 254 ∨ 278 ≤ i)) : ¬ fr_g 0 i := fun hg => by have hg : i = 11 ∨ (254 ≤ i ∧ i < 278) := hg; omega
theorem fr_n1 {i : Int} (h : i ≠ 10 ∧ (i < 162 ∨ 174 ≤ i)) : ¬ fr_g 1 i := fun hg => by have hg : i = 10 ∨ (162 ≤ i ∧ i < 174) := hg; omega
theorem fr_n2 {i : Int} (h : i < 174 ∨ 254 ≤ i) : ¬ fr_g 2 i := fun hg => by have hg : 174 ≤ i ∧ i < 254 := hg; omega
theorem fr_n3 {i : Int} (h : i ≠ 7 ∧ i ≠ 8) : ¬ fr_g 3 i := fun hg => by have hg : i = 7 ∨ i = 8 := hg; omega
theorem fr_n4 {i : Int} (h : (i < 0 ∨ 2 < i) ∧ (14 ≤ i → i < 50 → (i - 14) % 3 = 2) ∧ (50 ≤ i → i < 114 → (i - 50) % 4 = 3) ∧ (126 ≤ i → i < 162 → (i - 126) % 6 = 3 ∨ (i - 126) % 6 = 4)) : ¬ fr_g 4 i := fun hg => by
  have hg : i = 0 ∨ i = 1 ∨ i = 2 ∨ (14 ≤ i ∧ i < 50 ∧ (i - 14) % 3 ≠ 2) ∨ (50 ≤ i ∧ i < 114 ∧ (i - 50) % 4 ≠ 3) ∨ (126 ≤ i ∧ i < 162 ∧ (i - 126) % 6 ≠ 3 ∧ (i - 126) % 6 ≠ 4) := hg
  obtain ⟨h1, h2, h3, h4⟩ := h
  rcases hg with hg | hg | hg | ⟨a, b, c⟩ | ⟨a, b, c⟩ | ⟨a, b, c, d⟩
  · omega
  · omega
  · omega
  · exact c (h2 a b)
  · exact c (h3 a b)
  · rcases h4 a b with e | e
    · exact c e
    · exact d e
theorem fr_n5 {i : Int} (h : i ≠ 9 ∧ i < 278) : ¬ fr_g 5 i := fun hg => by have hg : i = 9 ∨ 278 ≤ i := hg; omega
theorem fr_n6 {i : Int} (h : i ≠ 3 ∧ i ≠ 6 ∧ (14 ≤ i → i < 50 → (i - 14) % 3 ≠ 2) ∧ (50 ≤ i → i < 114 → (i - 50) % 4 ≠ 3) ∧ (i < 114 ∨ 126 ≤ i) ∧ (126 ≤ i → i < 162 → (i - 126) % 6 ≠ 3 ∧ (i - 126) % 6 ≠ 4)) : ¬ fr_g 6 i := fun hg => by
  have hg : i = 3 ∨ i = 6 ∨ (14 ≤ i ∧ i < 50 ∧ (i - 14) % 3 = 2) ∨ (50 ≤ i ∧ i < 114 ∧ (i - 50) % 4 = 3) ∨ (114 ≤ i ∧ i < 126) ∨ (126 ≤ i ∧ i < 162 ∧ ((i - 126) % 6 = 3 ∨ (i - 126) % 6 = 4)) := hg
  obtain ⟨h1, h2, h3, h4, h5, h6⟩ := h
  rcases hg with hg | hg | ⟨a, b, c⟩ | ⟨a, b, c⟩ | ⟨a, b⟩ | ⟨a, b, c⟩
  · exact h1 hg
  · exact h2 hg
  · exact h3 a b c
  · exact h4 a b c
  · omega
  · rcases c with e | e
    · exact (h6 a b).1 e
    · exact (h6 a b).2 e
theorem fr_o {l : List Nat} {i : Int} (h0 : l.contains 1000 = true ∨ ¬ fr_g 0 i) (h1 : l.contains 1001 = true ∨ ¬ fr_g 1 i) (h2 : l.contains 1002 = true ∨ ¬ fr_g 2 i) (h3 : l.contains 1003 = true ∨ ¬ fr_g 3 i) (h4 : l.contains 1004 = true ∨ ¬ fr_g 4 i) (h5 : l.contains 1005 = true ∨ ¬ fr_g 5 i) (h6 : l.contains 1006 = true ∨ ¬ fr_g 6 i) : ∀ r, l.contains (1000 + r) = false → ¬ fr_g r i := by
  intro r hr
  have key : ∀ {k : Nat}, (l.contains (1000 + k) = true ∨ ¬ fr_g k i) → l.contains (1000 + k) = false → ¬ fr_g k i := by
    intro k h hk
    rcases h with e | e
    · rw [e] at hk; cases hk
    · exact e
  match r, hr with
  | 0, hr => exact key (k := 0) h0 hr
  | 1, hr => exact key (k := 1) h1 hr
  | 2, hr => exact key (k := 2) h2 hr
  | 3, hr => exact key (k := 3) h3 hr
  | 4, hr => exact key (k := 4) h4 hr
  | 5, hr => exact key (k := 5) h5 hr
  | 6, hr => exact key (k := 6) h6 hr
  | n + 7, _ => exact fun h => h
theorem fr_x {l : List Nat} {r k : Nat} {i : Int} (hk : l.contains (1000 + k) = true) (hr : l.contains (1000 + r) = false) (hi : fr_g r i) (hn : r ≠ k → ¬ fr_g r i) : False := by
  by_cases e : r = k
  · rw [e, hk] at hr; cases hr
  · exact hn e hi
theorem fr_x5 {l : List Nat} {r : Nat} {i : Int} (hk : l.contains 1005 = true) (hr : l.contains (1000 + r) = false) (hi : fr_g r i) (h : 278 ≤ i) : False := by
  refine fr_x (k := 5) hk hr hi (fun hn => ?_)
  match r, hn with
  | 0, _ => exact fr_n0 (by omega)
  | 1, _ => exact fr_n1 (by omega)
  | 2, _ => exact fr_n2 (by omega)
  | 3, _ => exact fr_n3 (by omega)
  | 4, _ => exact fr_n4 (by omega)
  | 5, hn => exact absurd rfl hn
  | 6, _ => exact fr_n6 (by omega)
  | n + 7, _ => exact fun h => h
theorem fr_x6 {l : List Nat} {r : Nat} {i : Int} (hk : l.contains 1006 = true) (hr : l.contains (1000 + r) = false) (hi : fr_g r i) (h : 114 ≤ i ∧ i < 126) : False := by
  refine fr_x (k := 6) hk hr hi (fun hn => ?_)
  match r, hn with
  | 0, _ => exact fr_n0 (by omega)
  | 1, _ => exact fr_n1 (by omega)
  | 2, _ => exact fr_n2 (by omega)
  | 3, _ => exact fr_n3 (by omega)
  | 4, _ => exact fr_n4 (by omega)
  | 5, _ => exact fr_n5 (by omega)
  | 6, hn => exact absurd rfl hn
  | n + 7, _ => exact fun h => h
def lf_fq (l : List Nat) (w : Int) (b : Bool) (I : Nat → Int → Int) (P : Nat → Option Nat) (I' : Nat → Int → Int) (P' : Nat → Option Nat) : Prop := (∀ c, l.contains c = false → I' c = I c) ∧ (∀ i, i < w → I' 96 i = I 96 i) ∧ (b = true → P' = P) ∧ (∀ r, l.contains (1000 + r) = false → ∀ i, fr_g r i → I' 96 i = I 96 i)
variable {I' I'' : Nat → Int → Int} {P' P'' : Nat → Option Nat} {l l' : List Nat} {w w' : Int} {b b' : Bool}
theorem lf_fq_rf : lf_fq l w b I P I P := ⟨fun _ _ => rfl, fun _ _ => rfl, fun _ => rfl, fun _ _ _ _ => rfl⟩
theorem lf_fq_tr (h1 : lf_fq l w b I P I' P') (h2 : lf_fq l w b I' P' I'' P'') : lf_fq l w b I P I'' P'' := ⟨fun c hc => (h2.1 c hc).trans (h1.1 c hc), fun i hi => (h2.2.1 i hi).trans (h1.2.1 i hi), fun hb => (h2.2.2.1 hb).trans (h1.2.2.1 hb), fun r hr i hi => (h2.2.2.2 r hr i hi).trans (h1.2.2.2 r hr i hi)⟩
theorem lf_fq_wk (h : lf_fq l' w' b' I P I' P') (hl : l'.all (fun c => l.contains c) = true) (hw : w ≤ w') (hb : (b && !b') = false) : lf_fq l w b I P I' P' := by
  have hc9 : ∀ c, l.contains c = false → l'.contains c = false := by
    intro c hc
    cases hq : l'.contains c with
    | false => rfl
    | true =>
      have := List.all_eq_true.mp hl c (by simpa using hq)
      rw [this] at hc
      cases hc
  refine ⟨fun c hc => h.1 c (hc9 c hc), fun i hi => h.2.1 i (Int.lt_of_lt_of_le hi hw), fun h9 => h.2.2.1 ?_, fun r hr i hi => h.2.2.2 r (hc9 _ hr) i hi⟩
  · cases b' with
    | true => rfl
    | false => subst h9; cases hb
theorem lf_fq_up (h : lf_fq l w b I P I' P') (hc : l.contains c = true) (h96 : c = 96 → w ≤ i ∧ ∀ r, l.contains (1000 + r) = false → ¬ fr_g r i) : lf_fq l w b I P (lf_up I' c i v) P' := by
  refine ⟨fun a ha => ?_, fun j hj => ?_, h.2.2.1, fun r hr j hj => ?_⟩
  · rw [lf_up_row (fun e => by rw [e, hc] at ha; cases ha)]; exact h.1 a ha
  · by_cases h9 : c = 96
    · have := (h96 h9).1
      subst h9
      rw [lf_up_i (by omega)]; exact h.2.1 j hj
    · rw [lf_up_c (fun e => h9 e.symm)]; exact h.2.1 j hj
  · by_cases h9 : c = 96
    · have hn := (h96 h9).2 r hr
      subst h9
      rw [lf_up_i (fun e => by subst e; exact hn hj)]; exact h.2.2.2 r hr j hj
    · rw [lf_up_c (fun e => h9 e.symm)]; exact h.2.2.2 r hr j hj
theorem lf_t4 {t : Nat} (ht : t < 4) {q : Nat} (h : (l.contains q && (l.contains (q + 7) && (l.contains (q + 14) && l.contains (q + 21)))) = true) : l.contains (q + 7 * t) = true := by
  rw [Bool.and_eq_true, Bool.and_eq_true, Bool.and_eq_true] at h
  match t, ht with
  | 0, _ => exact h.1
  | 1, _ => exact h.2.1
  | 2, _ => exact h.2.2.1
  | 3, _ => exact h.2.2.2
theorem lf_fq_upT {t q : Nat} (h : lf_fq l w b I P I' P') (ht : t < 4) (hc : (l.contains q && (l.contains (q + 7) && (l.contains (q + 14) && l.contains (q + 21)))) = true) (h96 : q ≤ 62) : lf_fq l w b I P (lf_up I' (q + 7 * t) i v) P' := lf_fq_up h (lf_t4 ht hc) (fun h => by omega)
theorem lf_fq_bk (h : lf_fq l w b I P I' P') (hc : l.contains c = true) (h96 : c ≠ 96) (hr : ∀ a, a ≠ c → I'' a = I' a) : lf_fq l w b I P I'' P' := by
  refine ⟨fun a ha => ?_, fun j hj => ?_, h.2.2.1, fun r hr2 j hj => ?_⟩
  · rw [hr a (fun e => by rw [e, hc] at ha; cases ha)]; exact h.1 a ha
  · rw [hr 96 (fun e => h96 e.symm)]; exact h.2.1 j hj
  · rw [hr 96 (fun e => h96 e.symm)]; exact h.2.2.2 r hr2 j hj
theorem lf_fq_cp {p q n : Int} (h : lf_fq l w b I P I' P') (hc : l.contains c1 = true) (h96 : c1 ≠ 96) : lf_fq l w b I P (lf_cp I' c0 c1 p q n) P' := lf_fq_bk h hc h96 (fun a ha => funext fun x => lf_cp_c ha)
theorem lf_fq_fl {n : Int} (h : lf_fq l w b I P I' P') (hc : l.contains c = true) (h96 : c ≠ 96) : lf_fq l w b I P (lf_fl I' c n v) P' := lf_fq_bk h hc h96 (fun a ha => funext fun x => lf_fl_c ha)
theorem lf_fq_flT {t q : Nat} {n : Int} (h : lf_fq l w b I P I' P') (ht : t < 4) (hc : (l.contains q && (l.contains (q + 7) && (l.contains (q + 14) && l.contains (q + 21)))) = true) (h96 : q ≤ 62) : lf_fq l w b I P (lf_fl I' (q + 7 * t) n v) P' := lf_fq_fl h (lf_t4 ht hc) (by omega)
theorem lf_fq_pp (h : lf_fq l w false I P I' P') : lf_fq l w false I P I' P'' := ⟨h.1, h.2.1, (fun h => by cases h), h.2.2.2⟩
theorem lf_fq_n3 (h : lf_fq l w b I P I' P') (hb : b = true) (h2 : P 3 ≠ none) : P' 3 ≠ none := by rw [h.2.2.1 hb]; exact h2
theorem lf_sn3 {t : Nat} (e : P 3 = some t) : P 3 ≠ none := by rw [e]; intro h; cases h
theorem lf_sn2 {t : Nat} (e : P 2 = some t) : P 2 ≠ none := by rw [e]; intro h; cases h
theorem lf_fq_n2 (h : lf_fq l w b I P I' P') (hb : b = true) (h2 : P 2 ≠ none) : P' 2 ≠ none := by rw [h.2.2.1 hb]; exact h2
theorem iv_rT_1 {t : Nat} (h : iv_A I P) (ht : t < 4) : 0 ≤ I (35 + 7 * t) 1 ∧ I (35 + 7 * t) 1 ≤ 300 := by
  match t, ht with
  | 0, _ => exact h.1 35 1
  | 1, _ => exact h.1 42 1
  | 2, _ => exact h.1 49 1
  | 3, _ => exact h.1 56 1
theorem iv_rT_7 {t : Nat} (h : iv_A I P) (ht : t < 4) : 0 ≤ I (35 + 7 * t) 7 ∧ I (35 + 7 * t) 7 ≤ 24 := by
  match t, ht with
  | 0, _ => exact h.1 35 7
  | 1, _ => exact h.1 42 7
  | 2, _ => exact h.1 49 7
  | 3, _ => exact h.1 56 7
theorem iv_wT_1 {t : Nat} (h : iv_A I P) (ht : t < 4) (hv : 0 ≤ v ∧ v ≤ 300) : iv_A (lf_up I (35 + 7 * t) 1 v) P := by
  match t, ht with
  | 0, _ => exact iv_wr h rfl hv
  | 1, _ => exact iv_wr h rfl hv
  | 2, _ => exact iv_wr h rfl hv
  | 3, _ => exact iv_wr h rfl hv
theorem iv_wT_7 {t : Nat} (h : iv_A I P) (ht : t < 4) (hv : 0 ≤ v ∧ v ≤ 24) : iv_A (lf_up I (35 + 7 * t) 7 v) P := by
  match t, ht with
  | 0, _ => exact iv_wr h rfl hv
  | 1, _ => exact iv_wr h rfl hv
  | 2, _ => exact iv_wr h rfl hv
  | 3, _ => exact iv_wr h rfl hv
end IVA
-- fm_15 ElevenBullocks.within i i i
def fm_15 (a0 : Int) (a1 : Int) (a2 : Int) (Q : Bool → lf_Z → Prop) (s : lf_Z) : Prop := lf_R a0 ∧ (lf_R a1 ∧ ((a0 < a1 → (Q false s)) ∧ (¬ (a0 < a1) → (lf_R a2 ∧ ((a2 < a0 → (Q false s)) ∧ (¬ (a2 < a0) → (Q true s)))))))
set_option maxRecDepth 100000 in
theorem gm_15 {L : Nat} {xs : Nat → Int32} {d : Nat} {a0 : Int} {a1 : Int} {a2 : Int} {Q : Bool → lf_Z → Prop} {s : lf_Z} (h : fm_15 a0 a1 a2 Q s) : lf_M (px_ro L xs) (d + 1) 15 [.int (Int32.ofInt a0), .int (Int32.ofInt a1), .int (Int32.ofInt a2)] s (lf_qz Q) := by
  unfold fm_15 at h
  show lf_E (px_ro L xs) (d + 1) 15 0 [(0, .int (Int32.ofInt a0)), (1, .int (Int32.ofInt a1)), (2, .int (Int32.ofInt a2))] [] s _
  refine lf_seg 2 (pc' := 2) (lv' := [(0, .int (Int32.ofInt a0)), (1, .int (Int32.ofInt a1)), (2, .int (Int32.ofInt a2))]) (st' := [.int (Int32.ofInt a1), .int (Int32.ofInt a0)]) rfl ?_
  obtain ⟨o21, h⟩ := h
  obtain ⟨o22, h⟩ := h
  refine lf_icmp_lt 14 5 rfl rfl rfl o21 o22 (fun c => ?_) (fun c => ?_)
  · have h := h.1 c
    refine lf_seg 1 (pc' := 15) (lv' := [(0, .int (Int32.ofInt a0)), (1, .int (Int32.ofInt a1)), (2, .int (Int32.ofInt a2))]) (st' := [.int (Int32.ofInt 0)]) rfl ?_
    exact lf_retZ false rfl rfl h
  · have h := h.2 c
    refine lf_seg 2 (pc' := 7) (lv' := [(0, .int (Int32.ofInt a0)), (1, .int (Int32.ofInt a1)), (2, .int (Int32.ofInt a2))]) (st' := [.int (Int32.ofInt a2), .int (Int32.ofInt a0)]) rfl ?_
    obtain ⟨o23, h⟩ := h
    refine lf_icmp_gt 14 10 rfl rfl rfl o21 o23 (fun c => ?_) (fun c => ?_)
    · have h := h.1 c
      refine lf_seg 1 (pc' := 15) (lv' := [(0, .int (Int32.ofInt a0)), (1, .int (Int32.ofInt a1)), (2, .int (Int32.ofInt a2))]) (st' := [.int (Int32.ofInt 0)]) rfl ?_
      exact lf_retZ false rfl rfl h
    · have h := h.2 c
      refine lf_seg 2 (pc' := 15) (lv' := [(0, .int (Int32.ofInt a0)), (1, .int (Int32.ofInt a1)), (2, .int (Int32.ofInt a2))]) (st' := [.int (Int32.ofInt 1)]) rfl ?_
      exact lf_retZ true rfl rfl h
-- fm_16 Land.addStretch 1 i i
def fm_16 (a1 : Int) (a2 : Int) (Q : Int → lf_Z → Prop) (s : lf_Z) : Prop := lf_R (s.1 1 0) ∧ ((s.1 1 0 < 12 → ((0 ≤ s.1 1 0 ∧ s.1 1 0 < 12) ∧ (Q (((s.1 1 0) + 1) - 1) (lf_up (lf_up (lf_up s.1 2 (s.1 1 0) a1) 3 (s.1 1 0) a2) 1 0 ((s.1 1 0) + 1), s.2.1, s.2.2)))) ∧ (¬ (s.1 1 0 < 12) → (Q (-1) s)))
set_option maxRecDepth 100000 in
theorem gm_16 {L : Nat} {xs : Nat → Int32} {d : Nat} {a1 : Int} {a2 : Int} {Q : Int → lf_Z → Prop} {s : lf_Z} (h : fm_16 a1 a2 Q s) : lf_M (px_ro L xs) (d + 1) 16 [.ref 1, .int (Int32.ofInt a1), .int (Int32.ofInt a2)] s (lf_qi Q) := by
  unfold fm_16 at h
  show lf_E (px_ro L xs) (d + 1) 16 0 [(0, .ref 1), (1, .int (Int32.ofInt a1)), (2, .int (Int32.ofInt a2))] [] s _
  refine lf_seg 1 (pc' := 1) (lv' := [(0, .ref 1), (1, .int (Int32.ofInt a1)), (2, .int (Int32.ofInt a2))]) (st' := [.ref 1]) rfl ?_
  refine lf_getI 4 0 rfl rfl rfl rfl rfl rfl rfl ?_
  refine lf_bipush 6 12 rfl rfl (by decide) (by decide) ?_
  obtain ⟨o21, h⟩ := h
  refine lf_icmp_lt 11 9 rfl rfl rfl o21 ⟨by decide, by decide⟩ (fun c => ?_) (fun c => ?_)
  · have h := h.1 c
    refine lf_seg 3 (pc' := 16) (lv' := [(0, .ref 1), (1, .int (Int32.ofInt a1)), (2, .int (Int32.ofInt a2))]) (st' := [.ref 1, .ref 2]) rfl ?_
    refine lf_getI 19 0 rfl rfl rfl rfl rfl rfl rfl ?_
    refine lf_seg 1 (pc' := 20) (lv' := [(0, .ref 1), (1, .int (Int32.ofInt a1)), (2, .int (Int32.ofInt a2))]) (st' := [.int (Int32.ofInt a1), .int (Int32.ofInt (s.1 1 0)), .ref 2]) rfl ?_
    obtain ⟨o22, h⟩ := h
    refine lf_iast 21 12 rfl rfl rfl rfl rfl rfl o22 ?_
    refine lf_as (lf_up s.1 2 (s.1 1 0) a1, s.2.1, s.2.2) rfl ?_
    refine lf_seg 3 (pc' := 26) (lv' := [(0, .ref 1), (1, .int (Int32.ofInt a1)), (2, .int (Int32.ofInt a2))]) (st' := [.ref 1, .ref 3]) rfl ?_
    refine lf_getI 29 0 rfl rfl rfl rfl rfl rfl rfl ?_
    refine lf_seg 1 (pc' := 30) (lv' := [(0, .ref 1), (1, .int (Int32.ofInt a1)), (2, .int (Int32.ofInt a2))]) (st' := [.int (Int32.ofInt a2), .int (Int32.ofInt (s.1 1 0)), .ref 3]) rfl ?_
    refine lf_iast 31 12 rfl rfl rfl rfl rfl rfl o22 ?_
    refine lf_as (lf_up (lf_up s.1 2 (s.1 1 0) a1) 3 (s.1 1 0) a2, s.2.1, s.2.2) rfl ?_
    refine lf_seg 2 (pc' := 33) (lv' := [(0, .ref 1), (1, .int (Int32.ofInt a1)), (2, .int (Int32.ofInt a2))]) (st' := [.ref 1, .ref 1]) rfl ?_
    refine lf_getI 36 0 rfl rfl rfl rfl rfl rfl rfl ?_
    refine lf_seg 1 (pc' := 37) (lv' := [(0, .ref 1), (1, .int (Int32.ofInt a1)), (2, .int (Int32.ofInt a2))]) (st' := [.int (Int32.ofInt 1), .int (Int32.ofInt (s.1 1 0)), .ref 1]) rfl ?_
    refine lf_iadd 38 rfl rfl ?_
    refine lf_putI 41 0 rfl rfl rfl rfl rfl rfl rfl rfl ?_
    refine lf_as (lf_up (lf_up (lf_up s.1 2 (s.1 1 0) a1) 3 (s.1 1 0) a2) 1 0 ((s.1 1 0) + 1), s.2.1, s.2.2) rfl ?_
    refine lf_seg 1 (pc' := 42) (lv' := [(0, .ref 1), (1, .int (Int32.ofInt a1)), (2, .int (Int32.ofInt a2))]) (st' := [.ref 1]) rfl ?_
    refine lf_getI 45 0 rfl rfl rfl rfl rfl rfl rfl ?_
    refine lf_seg 1 (pc' := 46) (lv' := [(0, .ref 1), (1, .int (Int32.ofInt a1)), (2, .int (Int32.ofInt a2))]) (st' := [.int (Int32.ofInt 1), .int (Int32.ofInt ((s.1 1 0) + 1))]) rfl ?_
    refine lf_isub 47 rfl rfl ?_
    exact lf_retI rfl rfl h
  · have h := h.2 c
    refine lf_seg 1 (pc' := 10) (lv' := [(0, .ref 1), (1, .int (Int32.ofInt a1)), (2, .int (Int32.ofInt a2))]) (st' := [.int (Int32.ofInt (-1))]) rfl ?_
    exact lf_retI rfl rfl h
-- fm_14 ElevenBullocks.stretch 0 i i
def fm_14 (a1 : Int) (a2 : Int) (Q : Int → lf_Z → Prop) (s : lf_Z) : Prop := fm_15 a1 0 3 (fun z22 s21 => ((z22 = false → (Q (-1) s21)) ∧ (z22 = true → (fm_15 a2 0 99 (fun z24 s23 => ((z24 = true → (fm_16 a1 a2 (fun r26 s25 => (Q r26 s25)) s23)) ∧ (z24 = false → (Q (-1) s23)))) s21)))) s
set_option maxRecDepth 100000 in
theorem gm_14 {L : Nat} {xs : Nat → Int32} {d : Nat} {a1 : Int} {a2 : Int} {Q : Int → lf_Z → Prop} {s : lf_Z} (h : fm_14 a1 a2 Q s) : lf_M (px_ro L xs) (d + 2) 14 [.ref 0, .int (Int32.ofInt a1), .int (Int32.ofInt a2)] s (lf_qi Q) := by
  unfold fm_14 at h
  show lf_E (px_ro L xs) (d + 2) 14 0 [(0, .ref 0), (1, .int (Int32.ofInt a1)), (2, .int (Int32.ofInt a2))] [] s _
  refine lf_seg 3 (pc' := 3) (lv' := [(0, .ref 0), (1, .int (Int32.ofInt a1)), (2, .int (Int32.ofInt a2))]) (st' := [.int (Int32.ofInt 3), .int (Int32.ofInt 0), .int (Int32.ofInt a1)]) rfl ?_
  refine lf_callZ 6 rfl rfl rfl rfl (gm_15 h) (fun z22 s21 h => ?_)
  refine lf_ifz_eq 19 9 rfl rfl rfl (fun c => ?_) (fun c => ?_)
  · have h := h.1 c
    refine lf_seg 1 (pc' := 20) (lv' := [(0, .ref 0), (1, .int (Int32.ofInt a1)), (2, .int (Int32.ofInt a2))]) (st' := [.int (Int32.ofInt (-1))]) rfl ?_
    exact lf_retI rfl rfl h
  · have h := h.2 c
    refine lf_seg 2 (pc' := 11) (lv' := [(0, .ref 0), (1, .int (Int32.ofInt a1)), (2, .int (Int32.ofInt a2))]) (st' := [.int (Int32.ofInt 0), .int (Int32.ofInt a2)]) rfl ?_
    refine lf_bipush 13 99 rfl rfl (by decide) (by decide) ?_
    refine lf_callZ 16 rfl rfl rfl rfl (gm_15 h) (fun z24 s23 h => ?_)
    refine lf_ifz_ne 21 19 rfl rfl rfl (fun c => ?_) (fun c => ?_)
    · have h := h.1 c
      refine lf_seg 4 (pc' := 27) (lv' := [(0, .ref 0), (1, .int (Int32.ofInt a1)), (2, .int (Int32.ofInt a2))]) (st' := [.int (Int32.ofInt a2), .int (Int32.ofInt a1), .ref 1]) rfl ?_
      refine lf_callI 30 rfl rfl rfl rfl (gm_16 h) (fun r26 s25 h => ?_)
      exact lf_retI rfl rfl h
    · have h := h.2 c
      refine lf_seg 1 (pc' := 20) (lv' := [(0, .ref 0), (1, .int (Int32.ofInt a1)), (2, .int (Int32.ofInt a2))]) (st' := [.int (Int32.ofInt (-1))]) rfl ?_
      exact lf_retI rfl rfl h
-- fm_183 Model.isIn i i i
def fm_183 (a0 : Int) (a1 : Int) (a2 : Int) (Q : Bool → lf_Z → Prop) (s : lf_Z) : Prop := lf_R a0 ∧ (lf_R a1 ∧ ((a0 < a1 → (Q false s)) ∧ (¬ (a0 < a1) → (lf_R a2 ∧ ((a2 < a0 → (Q false s)) ∧ (¬ (a2 < a0) → (Q true s)))))))
set_option maxRecDepth 100000 in
theorem gm_183 {L : Nat} {xs : Nat → Int32} {d : Nat} {a0 : Int} {a1 : Int} {a2 : Int} {Q : Bool → lf_Z → Prop} {s : lf_Z} (h : fm_183 a0 a1 a2 Q s) : lf_M (px_ro L xs) (d + 1) 183 [.int (Int32.ofInt a0), .int (Int32.ofInt a1), .int (Int32.ofInt a2)] s (lf_qz Q) := by
  unfold fm_183 at h
  show lf_E (px_ro L xs) (d + 1) 183 0 [(0, .int (Int32.ofInt a0)), (1, .int (Int32.ofInt a1)), (2, .int (Int32.ofInt a2))] [] s _
  refine lf_seg 2 (pc' := 2) (lv' := [(0, .int (Int32.ofInt a0)), (1, .int (Int32.ofInt a1)), (2, .int (Int32.ofInt a2))]) (st' := [.int (Int32.ofInt a1), .int (Int32.ofInt a0)]) rfl ?_
  obtain ⟨o21, h⟩ := h
  obtain ⟨o22, h⟩ := h
  refine lf_icmp_lt 14 5 rfl rfl rfl o21 o22 (fun c => ?_) (fun c => ?_)
  · have h := h.1 c
    refine lf_seg 1 (pc' := 15) (lv' := [(0, .int (Int32.ofInt a0)), (1, .int (Int32.ofInt a1)), (2, .int (Int32.ofInt a2))]) (st' := [.int (Int32.ofInt 0)]) rfl ?_
    exact lf_retZ false rfl rfl h
  · have h := h.2 c
    refine lf_seg 2 (pc' := 7) (lv' := [(0, .int (Int32.ofInt a0)), (1, .int (Int32.ofInt a1)), (2, .int (Int32.ofInt a2))]) (st' := [.int (Int32.ofInt a2), .int (Int32.ofInt a0)]) rfl ?_
    obtain ⟨o23, h⟩ := h
    refine lf_icmp_gt 14 10 rfl rfl rfl o21 o23 (fun c => ?_) (fun c => ?_)
    · have h := h.1 c
      refine lf_seg 1 (pc' := 15) (lv' := [(0, .int (Int32.ofInt a0)), (1, .int (Int32.ofInt a1)), (2, .int (Int32.ofInt a2))]) (st' := [.int (Int32.ofInt 0)]) rfl ?_
      exact lf_retZ false rfl rfl h
    · have h := h.2 c
      refine lf_seg 2 (pc' := 15) (lv' := [(0, .int (Int32.ofInt a0)), (1, .int (Int32.ofInt a1)), (2, .int (Int32.ofInt a2))]) (st' := [.int (Int32.ofInt 1)]) rfl ?_
      exact lf_retZ true rfl rfl h
-- fm_182 Model.stretch 95 i i
def fm_182 (a1 : Int) (a2 : Int) (Q : Int → lf_Z → Prop) (s : lf_Z) : Prop := fm_183 a1 0 3 (fun z22 s21 => ((z22 = false → (Q (-1) s21)) ∧ (z22 = true → (fm_183 a2 0 99 (fun z24 s23 => ((z24 = false → (Q (-1) s23)) ∧ (z24 = true → (lf_R (s23.1 96 0) ∧ ((s23.1 96 0 ≠ 12 → ((0 ≤ 14 + (3 * (s23.1 96 0)) ∧ 14 + (3 * (s23.1 96 0)) < 1538) ∧ ((0 ≤ (14 + (3 * (s23.1 96 0))) + 1 ∧ (14 + (3 * (s23.1 96 0))) + 1 < 1538) ∧ ((0 ≤ (14 + (3 * (s23.1 96 0))) + 2 ∧ (14 + (3 * (s23.1 96 0))) + 2 < 1538) ∧ (Q ((((lf_up (lf_up (lf_up s23.1 96 (14 + (3 * (s23.1 96 0))) a1) 96 ((14 + (3 * (s23.1 96 0))) + 1) a2) 96 ((14 + (3 * (s23.1 96 0))) + 2) 0) 96 0) + 1) - 1) (lf_up (lf_up (lf_up (lf_up s23.1 96 (14 + (3 * (s23.1 96 0))) a1) 96 ((14 + (3 * (s23.1 96 0))) + 1) a2) 96 ((14 + (3 * (s23.1 96 0))) + 2) 0) 96 0 (((lf_up (lf_up (lf_up s23.1 96 (14 + (3 * (s23.1 96 0))) a1) 96 ((14 + (3 * (s23.1 96 0))) + 1) a2) 96 ((14 + (3 * (s23.1 96 0))) + 2) 0) 96 0) + 1), s23.2.1, s23.2.2)))))) ∧ (¬ (s23.1 96 0 ≠ 12) → (Q (-1) s23))))))) s21)))) s
set_option maxRecDepth 100000 in
theorem gm_182 {L : Nat} {xs : Nat → Int32} {d : Nat} {a1 : Int} {a2 : Int} {Q : Int → lf_Z → Prop} {s : lf_Z} (h : fm_182 a1 a2 Q s) : lf_M (px_ro L xs) (d + 2) 182 [.ref 95, .int (Int32.ofInt a1), .int (Int32.ofInt a2)] s (lf_qi Q) := by
  unfold fm_182 at h
  show lf_E (px_ro L xs) (d + 2) 182 0 [(0, .ref 95), (1, .int (Int32.ofInt a1)), (2, .int (Int32.ofInt a2))] [] s _
  refine lf_seg 3 (pc' := 3) (lv' := [(0, .ref 95), (1, .int (Int32.ofInt a1)), (2, .int (Int32.ofInt a2))]) (st' := [.int (Int32.ofInt 3), .int (Int32.ofInt 0), .int (Int32.ofInt a1)]) rfl ?_
  refine lf_callZ 6 rfl rfl rfl rfl (gm_183 h) (fun z22 s21 h => ?_)
  refine lf_ifz_eq 30 9 rfl rfl rfl (fun c => ?_) (fun c => ?_)
  · have h := h.1 c
    refine lf_seg 1 (pc' := 31) (lv' := [(0, .ref 95), (1, .int (Int32.ofInt a1)), (2, .int (Int32.ofInt a2))]) (st' := [.int (Int32.ofInt (-1))]) rfl ?_
    exact lf_retI rfl rfl h
  · have h := h.2 c
    refine lf_seg 2 (pc' := 11) (lv' := [(0, .ref 95), (1, .int (Int32.ofInt a1)), (2, .int (Int32.ofInt a2))]) (st' := [.int (Int32.ofInt 0), .int (Int32.ofInt a2)]) rfl ?_
    refine lf_bipush 13 99 rfl rfl (by decide) (by decide) ?_
    refine lf_callZ 16 rfl rfl rfl rfl (gm_183 h) (fun z24 s23 h => ?_)
    refine lf_ifz_eq 30 19 rfl rfl rfl (fun c => ?_) (fun c => ?_)
    · have h := h.1 c
      refine lf_seg 1 (pc' := 31) (lv' := [(0, .ref 95), (1, .int (Int32.ofInt a1)), (2, .int (Int32.ofInt a2))]) (st' := [.int (Int32.ofInt (-1))]) rfl ?_
      exact lf_retI rfl rfl h
    · have h := h.2 c
      refine lf_seg 3 (pc' := 24) (lv' := [(0, .ref 95), (1, .int (Int32.ofInt a1)), (2, .int (Int32.ofInt a2))]) (st' := [.int (Int32.ofInt 0), .ref 96]) rfl ?_
      refine lf_iald 25 1538 rfl rfl rfl rfl rfl rfl ⟨by decide, by decide⟩ ?_
      refine lf_bipush 27 12 rfl rfl (by decide) (by decide) ?_
      obtain ⟨o25, h⟩ := h
      refine lf_icmp_ne 32 30 rfl rfl rfl o25 ⟨by decide, by decide⟩ (fun c => ?_) (fun c => ?_)
      · have h := h.1 c
        refine lf_bipush 34 14 rfl rfl (by decide) (by decide) ?_
        refine lf_seg 4 (pc' := 40) (lv' := [(0, .ref 95), (1, .int (Int32.ofInt a1)), (2, .int (Int32.ofInt a2))]) (st' := [.int (Int32.ofInt 0), .ref 96, .int (Int32.ofInt 3), .int (Int32.ofInt 14)]) rfl ?_
        refine lf_iald 41 1538 rfl rfl rfl rfl rfl rfl ⟨by decide, by decide⟩ ?_
        refine lf_imul 42 rfl rfl ?_
        refine lf_iadd 43 rfl rfl ?_
        refine lf_seg 5 (pc' := 50) (lv' := [(3, .int (Int32.ofInt (14 + (3 * (s23.1 96 0))))), (0, .ref 95), (1, .int (Int32.ofInt a1)), (2, .int (Int32.ofInt a2))]) (st' := [.int (Int32.ofInt a1), .int (Int32.ofInt (14 + (3 * (s23.1 96 0)))), .ref 96]) rfl ?_
        obtain ⟨o26, h⟩ := h
        refine lf_iast 51 1538 rfl rfl rfl rfl rfl rfl o26 ?_
        refine lf_as (lf_up s23.1 96 (14 + (3 * (s23.1 96 0))) a1, s23.2.1, s23.2.2) rfl ?_
        refine lf_seg 4 (pc' := 57) (lv' := [(3, .int (Int32.ofInt (14 + (3 * (s23.1 96 0))))), (0, .ref 95), (1, .int (Int32.ofInt a1)), (2, .int (Int32.ofInt a2))]) (st' := [.int (Int32.ofInt 1), .int (Int32.ofInt (14 + (3 * (s23.1 96 0)))), .ref 96]) rfl ?_
        refine lf_iadd 58 rfl rfl ?_
        refine lf_seg 1 (pc' := 59) (lv' := [(3, .int (Int32.ofInt (14 + (3 * (s23.1 96 0))))), (0, .ref 95), (1, .int (Int32.ofInt a1)), (2, .int (Int32.ofInt a2))]) (st' := [.int (Int32.ofInt a2), .int (Int32.ofInt ((14 + (3 * (s23.1 96 0))) + 1)), .ref 96]) rfl ?_
        obtain ⟨o27, h⟩ := h
        refine lf_iast 60 1538 rfl rfl rfl rfl rfl rfl o27 ?_
        refine lf_as (lf_up (lf_up s23.1 96 (14 + (3 * (s23.1 96 0))) a1) 96 ((14 + (3 * (s23.1 96 0))) + 1) a2, s23.2.1, s23.2.2) rfl ?_
        refine lf_seg 4 (pc' := 66) (lv' := [(3, .int (Int32.ofInt (14 + (3 * (s23.1 96 0))))), (0, .ref 95), (1, .int (Int32.ofInt a1)), (2, .int (Int32.ofInt a2))]) (st' := [.int (Int32.ofInt 2), .int (Int32.ofInt (14 + (3 * (s23.1 96 0)))), .ref 96]) rfl ?_
        refine lf_iadd 67 rfl rfl ?_
        refine lf_seg 1 (pc' := 68) (lv' := [(3, .int (Int32.ofInt (14 + (3 * (s23.1 96 0))))), (0, .ref 95), (1, .int (Int32.ofInt a1)), (2, .int (Int32.ofInt a2))]) (st' := [.int (Int32.ofInt 0), .int (Int32.ofInt ((14 + (3 * (s23.1 96 0))) + 2)), .ref 96]) rfl ?_
        obtain ⟨o28, h⟩ := h
        refine lf_iast 69 1538 rfl rfl rfl rfl rfl rfl o28 ?_
        refine lf_as (lf_up (lf_up (lf_up s23.1 96 (14 + (3 * (s23.1 96 0))) a1) 96 ((14 + (3 * (s23.1 96 0))) + 1) a2) 96 ((14 + (3 * (s23.1 96 0))) + 2) 0, s23.2.1, s23.2.2) rfl ?_
        refine lf_seg 4 (pc' := 75) (lv' := [(3, .int (Int32.ofInt (14 + (3 * (s23.1 96 0))))), (0, .ref 95), (1, .int (Int32.ofInt a1)), (2, .int (Int32.ofInt a2))]) (st' := [.int (Int32.ofInt 0), .ref 96, .int (Int32.ofInt 0), .ref 96]) rfl ?_
        refine lf_iald 76 1538 rfl rfl rfl rfl rfl rfl ⟨by decide, by decide⟩ ?_
        refine lf_seg 1 (pc' := 77) (lv' := [(3, .int (Int32.ofInt (14 + (3 * (s23.1 96 0))))), (0, .ref 95), (1, .int (Int32.ofInt a1)), (2, .int (Int32.ofInt a2))]) (st' := [.int (Int32.ofInt 1), .int (Int32.ofInt ((lf_up (lf_up (lf_up s23.1 96 (14 + (3 * (s23.1 96 0))) a1) 96 ((14 + (3 * (s23.1 96 0))) + 1) a2) 96 ((14 + (3 * (s23.1 96 0))) + 2) 0) 96 0)), .int (Int32.ofInt 0), .ref 96]) rfl ?_
        refine lf_iadd 78 rfl rfl ?_
        refine lf_iast 79 1538 rfl rfl rfl rfl rfl rfl ⟨by decide, by decide⟩ ?_
        refine lf_as (lf_up (lf_up (lf_up (lf_up s23.1 96 (14 + (3 * (s23.1 96 0))) a1) 96 ((14 + (3 * (s23.1 96 0))) + 1) a2) 96 ((14 + (3 * (s23.1 96 0))) + 2) 0) 96 0 (((lf_up (lf_up (lf_up s23.1 96 (14 + (3 * (s23.1 96 0))) a1) 96 ((14 + (3 * (s23.1 96 0))) + 1) a2) 96 ((14 + (3 * (s23.1 96 0))) + 2) 0) 96 0) + 1), s23.2.1, s23.2.2) rfl ?_
        refine lf_seg 3 (pc' := 84) (lv' := [(3, .int (Int32.ofInt (14 + (3 * (s23.1 96 0))))), (0, .ref 95), (1, .int (Int32.ofInt a1)), (2, .int (Int32.ofInt a2))]) (st' := [.int (Int32.ofInt 0), .ref 96]) rfl ?_
        refine lf_iald 85 1538 rfl rfl rfl rfl rfl rfl ⟨by decide, by decide⟩ ?_
        refine lf_seg 1 (pc' := 86) (lv' := [(3, .int (Int32.ofInt (14 + (3 * (s23.1 96 0))))), (0, .ref 95), (1, .int (Int32.ofInt a1)), (2, .int (Int32.ofInt a2))]) (st' := [.int (Int32.ofInt 1), .int (Int32.ofInt (((lf_up (lf_up (lf_up s23.1 96 (14 + (3 * (s23.1 96 0))) a1) 96 ((14 + (3 * (s23.1 96 0))) + 1) a2) 96 ((14 + (3 * (s23.1 96 0))) + 2) 0) 96 0) + 1))]) rfl ?_
        refine lf_isub 87 rfl rfl ?_
        exact lf_retI rfl rfl h
      · have h := h.2 c
        refine lf_seg 1 (pc' := 31) (lv' := [(0, .ref 95), (1, .int (Int32.ofInt a1)), (2, .int (Int32.ofInt a2))]) (st' := [.int (Int32.ofInt (-1))]) rfl ?_
        exact lf_retI rfl rfl h
-- fm_18 Land.hasStretch 1 i
def fm_18 (a1 : Int) (Q : Bool → lf_Z → Prop) (s : lf_Z) : Prop := lf_R a1 ∧ ((a1 < 0 → (Q false s)) ∧ (¬ (a1 < 0) → (lf_R (s.1 1 0) ∧ ((s.1 1 0 ≤ a1 → (Q false s)) ∧ (¬ (s.1 1 0 ≤ a1) → (Q true s))))))
set_option maxRecDepth 100000 in
theorem gm_18 {L : Nat} {xs : Nat → Int32} {d : Nat} {a1 : Int} {Q : Bool → lf_Z → Prop} {s : lf_Z} (h : fm_18 a1 Q s) : lf_M (px_ro L xs) (d + 1) 18 [.ref 1, .int (Int32.ofInt a1)] s (lf_qz Q) := by
  unfold fm_18 at h
  show lf_E (px_ro L xs) (d + 1) 18 0 [(0, .ref 1), (1, .int (Int32.ofInt a1))] [] s _
  refine lf_seg 1 (pc' := 1) (lv' := [(0, .ref 1), (1, .int (Int32.ofInt a1))]) (st' := [.int (Int32.ofInt a1)]) rfl ?_
  obtain ⟨o21, h⟩ := h
  refine lf_if_lt 16 4 rfl rfl rfl o21 (fun c => ?_) (fun c => ?_)
  · have h := h.1 c
    refine lf_seg 1 (pc' := 17) (lv' := [(0, .ref 1), (1, .int (Int32.ofInt a1))]) (st' := [.int (Int32.ofInt 0)]) rfl ?_
    exact lf_retZ false rfl rfl h
  · have h := h.2 c
    refine lf_seg 2 (pc' := 6) (lv' := [(0, .ref 1), (1, .int (Int32.ofInt a1))]) (st' := [.ref 1, .int (Int32.ofInt a1)]) rfl ?_
    refine lf_getI 9 0 rfl rfl rfl rfl rfl rfl rfl ?_
    obtain ⟨o22, h⟩ := h
    refine lf_icmp_ge 16 12 rfl rfl rfl o21 o22 (fun c => ?_) (fun c => ?_)
    · have h := h.1 c
      refine lf_seg 1 (pc' := 17) (lv' := [(0, .ref 1), (1, .int (Int32.ofInt a1))]) (st' := [.int (Int32.ofInt 0)]) rfl ?_
      exact lf_retZ false rfl rfl h
    · have h := h.2 c
      refine lf_seg 2 (pc' := 17) (lv' := [(0, .ref 1), (1, .int (Int32.ofInt a1))]) (st' := [.int (Int32.ofInt 1)]) rfl ?_
      exact lf_retZ true rfl rfl h
-- fm_21 Land.noteWayAt 1 i i
def fm_21 (a1 : Int) (a2 : Int) (Q : lf_Z → Prop) (s : lf_Z) : Prop := (0 ≤ a1 ∧ a1 < 12) ∧ (lf_R (s.1 12 a1) ∧ ((4 ≤ s.1 12 a1 → (Q s)) ∧ (¬ (4 ≤ s.1 12 a1) → ((0 ≤ (a1 * 4) + (s.1 12 a1) ∧ (a1 * 4) + (s.1 12 a1) < 48) ∧ (Q (lf_up (lf_up s.1 11 ((a1 * 4) + (s.1 12 a1)) a2) 12 a1 ((s.1 12 a1) + 1), s.2.1, s.2.2))))))
set_option maxRecDepth 100000 in
theorem gm_21 {L : Nat} {xs : Nat → Int32} {d : Nat} {a1 : Int} {a2 : Int} {Q : lf_Z → Prop} {s : lf_Z} (h : fm_21 a1 a2 Q s) : lf_M (px_ro L xs) (d + 1) 21 [.ref 1, .int (Int32.ofInt a1), .int (Int32.ofInt a2)] s (lf_qv Q) := by
  unfold fm_21 at h
  show lf_E (px_ro L xs) (d + 1) 21 0 [(0, .ref 1), (1, .int (Int32.ofInt a1)), (2, .int (Int32.ofInt a2))] [] s _
  refine lf_seg 3 (pc' := 5) (lv' := [(0, .ref 1), (1, .int (Int32.ofInt a1)), (2, .int (Int32.ofInt a2))]) (st' := [.int (Int32.ofInt a1), .ref 12]) rfl ?_
  obtain ⟨o21, h⟩ := h
  refine lf_iald 6 12 rfl rfl rfl rfl rfl rfl o21 ?_
  refine lf_seg 1 (pc' := 7) (lv' := [(0, .ref 1), (1, .int (Int32.ofInt a1)), (2, .int (Int32.ofInt a2))]) (st' := [.int (Int32.ofInt 4), .int (Int32.ofInt (s.1 12 a1))]) rfl ?_
  obtain ⟨o22, h⟩ := h
  refine lf_icmp_ge 36 10 rfl rfl rfl o22 ⟨by decide, by decide⟩ (fun c => ?_) (fun c => ?_)
  · have h := h.1 c
    exact lf_retV rfl rfl h
  · have h := h.2 c
    refine lf_seg 4 (pc' := 16) (lv' := [(0, .ref 1), (1, .int (Int32.ofInt a1)), (2, .int (Int32.ofInt a2))]) (st' := [.int (Int32.ofInt 4), .int (Int32.ofInt a1), .ref 11]) rfl ?_
    refine lf_imul 17 rfl rfl ?_
    refine lf_seg 3 (pc' := 22) (lv' := [(0, .ref 1), (1, .int (Int32.ofInt a1)), (2, .int (Int32.ofInt a2))]) (st' := [.int (Int32.ofInt a1), .ref 12, .int (Int32.ofInt (a1 * 4)), .ref 11]) rfl ?_
    refine lf_iald 23 12 rfl rfl rfl rfl rfl rfl o21 ?_
    refine lf_iadd 24 rfl rfl ?_
    refine lf_seg 1 (pc' := 25) (lv' := [(0, .ref 1), (1, .int (Int32.ofInt a1)), (2, .int (Int32.ofInt a2))]) (st' := [.int (Int32.ofInt a2), .int (Int32.ofInt ((a1 * 4) + (s.1 12 a1))), .ref 11]) rfl ?_
    obtain ⟨o23, h⟩ := h
    refine lf_iast 26 48 rfl rfl rfl rfl rfl rfl o23 ?_
    refine lf_as (lf_up s.1 11 ((a1 * 4) + (s.1 12 a1)) a2, s.2.1, s.2.2) rfl ?_
    refine lf_seg 4 (pc' := 32) (lv' := [(0, .ref 1), (1, .int (Int32.ofInt a1)), (2, .int (Int32.ofInt a2))]) (st' := [.int (Int32.ofInt a1), .ref 12, .int (Int32.ofInt a1), .ref 12]) rfl ?_
    refine lf_iald 33 12 rfl rfl rfl rfl rfl rfl o21 ?_
    refine lf_seg 1 (pc' := 34) (lv' := [(0, .ref 1), (1, .int (Int32.ofInt a1)), (2, .int (Int32.ofInt a2))]) (st' := [.int (Int32.ofInt 1), .int (Int32.ofInt (s.1 12 a1)), .int (Int32.ofInt a1), .ref 12]) rfl ?_
    refine lf_iadd 35 rfl rfl ?_
    refine lf_iast 36 12 rfl rfl rfl rfl rfl rfl o21 ?_
    refine lf_as (lf_up (lf_up s.1 11 ((a1 * 4) + (s.1 12 a1)) a2) 12 a1 ((s.1 12 a1) + 1), s.2.1, s.2.2) rfl ?_
    exact lf_retV rfl rfl h
-- fm_22 Land.bringNear 1 13 i i
def fm_22_p22 (X3 : Int → lf_Z → Prop) (Q : lf_Z → Prop) (x2 : Int) (x3 : Int) (x4 : Int) (x5 : Int) (X22 : Int → lf_Z → Prop) (x6 : Int) (s : lf_Z) : Prop := lf_R x6 ∧ (lf_R (s.1 1 0) ∧ ((s.1 1 0 ≤ x6 → (X3 (x4 + 1) s)) ∧ (¬ (s.1 1 0 ≤ x6) → ((0 ≤ x5 + x2 ∧ x5 + x2 < 144) ∧ ((0 ≤ (x3 * 12) + x6 ∧ (x3 * 12) + x6 < 144) ∧ ((0 ≤ x5 + x3 ∧ x5 + x3 < 144) ∧ ((0 ≤ (x2 * 12) + x6 ∧ (x2 * 12) + x6 < 144) ∧ ((0 ≤ x5 + x6 ∧ x5 + x6 < 144) ∧ (lf_R (((s.1 13 (x5 + x2)) + 1) + (s.1 13 ((x3 * 12) + x6))) ∧ (lf_R (((s.1 13 (x5 + x3)) + 1) + (s.1 13 ((x2 * 12) + x6))) ∧ (lf_R (s.1 13 (x5 + x6)) ∧ (lf_R (min (((s.1 13 (x5 + x2)) + 1) + (s.1 13 ((x3 * 12) + x6))) (((s.1 13 (x5 + x3)) + 1) + (s.1 13 ((x2 * 12) + x6)))) ∧ (X22 (x6 + 1) (lf_up s.1 13 (x5 + x6) (min (s.1 13 (x5 + x6)) (min (((s.1 13 (x5 + x2)) + 1) + (s.1 13 ((x3 * 12) + x6))) (((s.1 13 (x5 + x3)) + 1) + (s.1 13 ((x2 * 12) + x6))))), s.2.1, s.2.2))))))))))))))
def fm_22_p22L (X3 : Int → lf_Z → Prop) (Q : lf_Z → Prop) (x2 : Int) (x3 : Int) (x4 : Int) (x5 : Int) (x6 : Int) (s : lf_Z) : Prop := ∀ X22 : Int → lf_Z → Prop, (∀ (x6 : Int) (s : lf_Z), fm_22_p22 X3 Q x2 x3 x4 x5 X22 x6 s → X22 x6 s) → X22 x6 s
set_option maxRecDepth 100000 in
theorem gm_22_p22 {L : Nat} {xs : Nat → Int32} {d : Nat} {X3 : Int → lf_Z → Prop} {Q : lf_Z → Prop} {x2 : Int} {x3 : Int} {x4 : Int} {x5 : Int} {x6 : Int} {s : lf_Z} {X22 : Int → lf_Z → Prop} (hX3 : ∀ x4 s, X3 x4 s → lf_E (px_ro L xs) (d + 1) 22 3 [(0, .ref 1), (1, .ref 13), (2, .int (Int32.ofInt x2)), (3, .int (Int32.ofInt x3)), (4, .int (Int32.ofInt x4))] [] s (lf_qv Q)) (hX22 : ∀ x6 s, X22 x6 s → lf_E (px_ro L xs) (d + 1) 22 22 [(0, .ref 1), (1, .ref 13), (2, .int (Int32.ofInt x2)), (3, .int (Int32.ofInt x3)), (4, .int (Int32.ofInt x4)), (5, .int (Int32.ofInt x5)), (6, .int (Int32.ofInt x6))] [] s (lf_qv Q)) (h : fm_22_p22 X3 Q x2 x3 x4 x5 X22 x6 s) : lf_E (px_ro L xs) (d + 1) 22 22 [(0, .ref 1), (1, .ref 13), (2, .int (Int32.ofInt x2)), (3, .int (Int32.ofInt x3)), (4, .int (Int32.ofInt x4)), (5, .int (Int32.ofInt x5)), (6, .int (Int32.ofInt x6))] [] s (lf_qv Q) := by
  unfold fm_22_p22 at h
  refine lf_seg 2 (pc' := 25) (lv' := [(0, .ref 1), (1, .ref 13), (2, .int (Int32.ofInt x2)), (3, .int (Int32.ofInt x3)), (4, .int (Int32.ofInt x4)), (5, .int (Int32.ofInt x5)), (6, .int (Int32.ofInt x6))]) (st' := [.ref 1, .int (Int32.ofInt x6)]) rfl ?_
  refine lf_getI 28 0 rfl rfl rfl rfl rfl rfl rfl ?_
  obtain ⟨o23, h⟩ := h
  obtain ⟨o24, h⟩ := h
  refine lf_icmp_ge 101 31 rfl rfl rfl o23 o24 (fun c => ?_) (fun c => ?_)
  · have h := h.1 c
    refine lf_iinc 104 rfl rfl rfl rfl ?_
    refine lf_seg 1 (pc' := 3) (lv' := [(4, .int (Int32.ofInt (x4 + 1))), (0, .ref 1), (1, .ref 13), (2, .int (Int32.ofInt x2)), (3, .int (Int32.ofInt x3)), (5, .int (Int32.ofInt x5)), (6, .int (Int32.ofInt x6))]) (st' := []) rfl ?_
    refine lf_sub (l := [(0, .ref 1), (1, .ref 13), (2, .int (Int32.ofInt x2)), (3, .int (Int32.ofInt x3)), (4, .int (Int32.ofInt (x4 + 1)))]) (lf_sb1 rfl (lf_sb1 rfl (lf_sb1 rfl (lf_sb1 rfl (lf_sb1 rfl lf_sb0))))) ?_
    exact hX3 _ _ h
  · have h := h.2 c
    refine lf_seg 3 (pc' := 35) (lv' := [(0, .ref 1), (1, .ref 13), (2, .int (Int32.ofInt x2)), (3, .int (Int32.ofInt x3)), (4, .int (Int32.ofInt x4)), (5, .int (Int32.ofInt x5)), (6, .int (Int32.ofInt x6))]) (st' := [.int (Int32.ofInt x2), .int (Int32.ofInt x5), .ref 13]) rfl ?_
    refine lf_iadd 36 rfl rfl ?_
    obtain ⟨o25, h⟩ := h
    refine lf_iald 37 144 rfl rfl rfl rfl rfl rfl o25 ?_
    refine lf_seg 1 (pc' := 38) (lv' := [(0, .ref 1), (1, .ref 13), (2, .int (Int32.ofInt x2)), (3, .int (Int32.ofInt x3)), (4, .int (Int32.ofInt x4)), (5, .int (Int32.ofInt x5)), (6, .int (Int32.ofInt x6))]) (st' := [.int (Int32.ofInt 1), .int (Int32.ofInt (s.1 13 (x5 + x2)))]) rfl ?_
    refine lf_iadd 39 rfl rfl ?_
    refine lf_seg 2 (pc' := 41) (lv' := [(0, .ref 1), (1, .ref 13), (2, .int (Int32.ofInt x2)), (3, .int (Int32.ofInt x3)), (4, .int (Int32.ofInt x4)), (5, .int (Int32.ofInt x5)), (6, .int (Int32.ofInt x6))]) (st' := [.int (Int32.ofInt x3), .ref 13, .int (Int32.ofInt ((s.1 13 (x5 + x2)) + 1))]) rfl ?_
    refine lf_bipush 43 12 rfl rfl (by decide) (by decide) ?_
    refine lf_imul 44 rfl rfl ?_
    refine lf_seg 1 (pc' := 46) (lv' := [(0, .ref 1), (1, .ref 13), (2, .int (Int32.ofInt x2)), (3, .int (Int32.ofInt x3)), (4, .int (Int32.ofInt x4)), (5, .int (Int32.ofInt x5)), (6, .int (Int32.ofInt x6))]) (st' := [.int (Int32.ofInt x6), .int (Int32.ofInt (x3 * 12)), .ref 13, .int (Int32.ofInt ((s.1 13 (x5 + x2)) + 1))]) rfl ?_
    refine lf_iadd 47 rfl rfl ?_
    obtain ⟨o26, h⟩ := h
    refine lf_iald 48 144 rfl rfl rfl rfl rfl rfl o26 ?_
    refine lf_iadd 49 rfl rfl ?_
    refine lf_seg 4 (pc' := 55) (lv' := [(7, .int (Int32.ofInt (((s.1 13 (x5 + x2)) + 1) + (s.1 13 ((x3 * 12) + x6))))), (0, .ref 1), (1, .ref 13), (2, .int (Int32.ofInt x2)), (3, .int (Int32.ofInt x3)), (4, .int (Int32.ofInt x4)), (5, .int (Int32.ofInt x5)), (6, .int (Int32.ofInt x6))]) (st' := [.int (Int32.ofInt x3), .int (Int32.ofInt x5), .ref 13]) rfl ?_
    refine lf_iadd 56 rfl rfl ?_
    obtain ⟨o27, h⟩ := h
    refine lf_iald 57 144 rfl rfl rfl rfl rfl rfl o27 ?_
    refine lf_seg 1 (pc' := 58) (lv' := [(7, .int (Int32.ofInt (((s.1 13 (x5 + x2)) + 1) + (s.1 13 ((x3 * 12) + x6))))), (0, .ref 1), (1, .ref 13), (2, .int (Int32.ofInt x2)), (3, .int (Int32.ofInt x3)), (4, .int (Int32.ofInt x4)), (5, .int (Int32.ofInt x5)), (6, .int (Int32.ofInt x6))]) (st' := [.int (Int32.ofInt 1), .int (Int32.ofInt (s.1 13 (x5 + x3)))]) rfl ?_
    refine lf_iadd 59 rfl rfl ?_
    refine lf_seg 2 (pc' := 61) (lv' := [(7, .int (Int32.ofInt (((s.1 13 (x5 + x2)) + 1) + (s.1 13 ((x3 * 12) + x6))))), (0, .ref 1), (1, .ref 13), (2, .int (Int32.ofInt x2)), (3, .int (Int32.ofInt x3)), (4, .int (Int32.ofInt x4)), (5, .int (Int32.ofInt x5)), (6, .int (Int32.ofInt x6))]) (st' := [.int (Int32.ofInt x2), .ref 13, .int (Int32.ofInt ((s.1 13 (x5 + x3)) + 1))]) rfl ?_
    refine lf_bipush 63 12 rfl rfl (by decide) (by decide) ?_
    refine lf_imul 64 rfl rfl ?_
    refine lf_seg 1 (pc' := 66) (lv' := [(7, .int (Int32.ofInt (((s.1 13 (x5 + x2)) + 1) + (s.1 13 ((x3 * 12) + x6))))), (0, .ref 1), (1, .ref 13), (2, .int (Int32.ofInt x2)), (3, .int (Int32.ofInt x3)), (4, .int (Int32.ofInt x4)), (5, .int (Int32.ofInt x5)), (6, .int (Int32.ofInt x6))]) (st' := [.int (Int32.ofInt x6), .int (Int32.ofInt (x2 * 12)), .ref 13, .int (Int32.ofInt ((s.1 13 (x5 + x3)) + 1))]) rfl ?_
    refine lf_iadd 67 rfl rfl ?_
    obtain ⟨o28, h⟩ := h
    refine lf_iald 68 144 rfl rfl rfl rfl rfl rfl o28 ?_
    refine lf_iadd 69 rfl rfl ?_
    refine lf_seg 4 (pc' := 76) (lv' := [(8, .int (Int32.ofInt (((s.1 13 (x5 + x3)) + 1) + (s.1 13 ((x2 * 12) + x6))))), (7, .int (Int32.ofInt (((s.1 13 (x5 + x2)) + 1) + (s.1 13 ((x3 * 12) + x6))))), (0, .ref 1), (1, .ref 13), (2, .int (Int32.ofInt x2)), (3, .int (Int32.ofInt x3)), (4, .int (Int32.ofInt x4)), (5, .int (Int32.ofInt x5)), (6, .int (Int32.ofInt x6))]) (st' := [.int (Int32.ofInt x6), .int (Int32.ofInt x5), .ref 13]) rfl ?_
    refine lf_iadd 77 rfl rfl ?_
    refine lf_seg 3 (pc' := 82) (lv' := [(8, .int (Int32.ofInt (((s.1 13 (x5 + x3)) + 1) + (s.1 13 ((x2 * 12) + x6))))), (7, .int (Int32.ofInt (((s.1 13 (x5 + x2)) + 1) + (s.1 13 ((x3 * 12) + x6))))), (0, .ref 1), (1, .ref 13), (2, .int (Int32.ofInt x2)), (3, .int (Int32.ofInt x3)), (4, .int (Int32.ofInt x4)), (5, .int (Int32.ofInt x5)), (6, .int (Int32.ofInt x6))]) (st' := [.int (Int32.ofInt x6), .int (Int32.ofInt x5), .ref 13, .int (Int32.ofInt (x5 + x6)), .ref 13]) rfl ?_
    refine lf_iadd 83 rfl rfl ?_
    obtain ⟨o29, h⟩ := h
    refine lf_iald 84 144 rfl rfl rfl rfl rfl rfl o29 ?_
    refine lf_seg 2 (pc' := 88) (lv' := [(8, .int (Int32.ofInt (((s.1 13 (x5 + x3)) + 1) + (s.1 13 ((x2 * 12) + x6))))), (7, .int (Int32.ofInt (((s.1 13 (x5 + x2)) + 1) + (s.1 13 ((x3 * 12) + x6))))), (0, .ref 1), (1, .ref 13), (2, .int (Int32.ofInt x2)), (3, .int (Int32.ofInt x3)), (4, .int (Int32.ofInt x4)), (5, .int (Int32.ofInt x5)), (6, .int (Int32.ofInt x6))]) (st' := [.int (Int32.ofInt (((s.1 13 (x5 + x3)) + 1) + (s.1 13 ((x2 * 12) + x6)))), .int (Int32.ofInt (((s.1 13 (x5 + x2)) + 1) + (s.1 13 ((x3 * 12) + x6)))), .int (Int32.ofInt (s.1 13 (x5 + x6))), .int (Int32.ofInt (x5 + x6)), .ref 13]) rfl ?_
    obtain ⟨o30, h⟩ := h
    obtain ⟨o31, h⟩ := h
    refine lf_imin 91 rfl rfl rfl rfl o30 o31 ?_
    obtain ⟨o32, h⟩ := h
    obtain ⟨o33, h⟩ := h
    refine lf_imin 94 rfl rfl rfl rfl o32 o33 ?_
    refine lf_iast 95 144 rfl rfl rfl rfl rfl rfl o29 ?_
    refine lf_as (lf_up s.1 13 (x5 + x6) (min (s.1 13 (x5 + x6)) (min (((s.1 13 (x5 + x2)) + 1) + (s.1 13 ((x3 * 12) + x6))) (((s.1 13 (x5 + x3)) + 1) + (s.1 13 ((x2 * 12) + x6))))), s.2.1, s.2.2) rfl ?_
    refine lf_iinc 98 rfl rfl rfl rfl ?_
    refine lf_seg 1 (pc' := 22) (lv' := [(6, .int (Int32.ofInt (x6 + 1))), (8, .int (Int32.ofInt (((s.1 13 (x5 + x3)) + 1) + (s.1 13 ((x2 * 12) + x6))))), (7, .int (Int32.ofInt (((s.1 13 (x5 + x2)) + 1) + (s.1 13 ((x3 * 12) + x6))))), (0, .ref 1), (1, .ref 13), (2, .int (Int32.ofInt x2)), (3, .int (Int32.ofInt x3)), (4, .int (Int32.ofInt x4)), (5, .int (Int32.ofInt x5))]) (st' := []) rfl ?_
    refine lf_sub (l := [(0, .ref 1), (1, .ref 13), (2, .int (Int32.ofInt x2)), (3, .int (Int32.ofInt x3)), (4, .int (Int32.ofInt x4)), (5, .int (Int32.ofInt x5)), (6, .int (Int32.ofInt (x6 + 1)))]) (lf_sb1 rfl (lf_sb1 rfl (lf_sb1 rfl (lf_sb1 rfl (lf_sb1 rfl (lf_sb1 rfl (lf_sb1 rfl lf_sb0))))))) ?_
    exact hX22 _ _ h
theorem gm_22_p22L {L : Nat} {xs : Nat → Int32} {d : Nat} {X3 : Int → lf_Z → Prop} {Q : lf_Z → Prop} {x2 : Int} {x3 : Int} {x4 : Int} {x5 : Int} {x6 : Int} {s : lf_Z} (hX3 : ∀ x4 s, X3 x4 s → lf_E (px_ro L xs) (d + 1) 22 3 [(0, .ref 1), (1, .ref 13), (2, .int (Int32.ofInt x2)), (3, .int (Int32.ofInt x3)), (4, .int (Int32.ofInt x4))] [] s (lf_qv Q)) (h : fm_22_p22L X3 Q x2 x3 x4 x5 x6 s) : lf_E (px_ro L xs) (d + 1) 22 22 [(0, .ref 1), (1, .ref 13), (2, .int (Int32.ofInt x2)), (3, .int (Int32.ofInt x3)), (4, .int (Int32.ofInt x4)), (5, .int (Int32.ofInt x5)), (6, .int (Int32.ofInt x6))] [] s (lf_qv Q) :=
  h (fun x6 s => lf_E (px_ro L xs) (d + 1) 22 22 [(0, .ref 1), (1, .ref 13), (2, .int (Int32.ofInt x2)), (3, .int (Int32.ofInt x3)), (4, .int (Int32.ofInt x4)), (5, .int (Int32.ofInt x5)), (6, .int (Int32.ofInt x6))] [] s (lf_qv Q)) (fun x6 s hb => gm_22_p22 hX3 (fun _ _ h => h) hb)
def fm_22_p3 (Q : lf_Z → Prop) (x2 : Int) (x3 : Int) (X3 : Int → lf_Z → Prop) (x4 : Int) (s : lf_Z) : Prop := lf_R x4 ∧ (lf_R (s.1 1 0) ∧ ((s.1 1 0 ≤ x4 → (Q s)) ∧ (¬ (s.1 1 0 ≤ x4) → (fm_22_p22L X3 Q x2 x3 x4 (x4 * 12) 0 s))))
def fm_22_p3L (Q : lf_Z → Prop) (x2 : Int) (x3 : Int) (x4 : Int) (s : lf_Z) : Prop := ∀ X3 : Int → lf_Z → Prop, (∀ (x4 : Int) (s : lf_Z), fm_22_p3 Q x2 x3 X3 x4 s → X3 x4 s) → X3 x4 s
set_option maxRecDepth 100000 in
theorem gm_22_p3 {L : Nat} {xs : Nat → Int32} {d : Nat} {Q : lf_Z → Prop} {x2 : Int} {x3 : Int} {x4 : Int} {s : lf_Z} {X3 : Int → lf_Z → Prop} (hX3 : ∀ x4 s, X3 x4 s → lf_E (px_ro L xs) (d + 1) 22 3 [(0, .ref 1), (1, .ref 13), (2, .int (Int32.ofInt x2)), (3, .int (Int32.ofInt x3)), (4, .int (Int32.ofInt x4))] [] s (lf_qv Q)) (h : fm_22_p3 Q x2 x3 X3 x4 s) : lf_E (px_ro L xs) (d + 1) 22 3 [(0, .ref 1), (1, .ref 13), (2, .int (Int32.ofInt x2)), (3, .int (Int32.ofInt x3)), (4, .int (Int32.ofInt x4))] [] s (lf_qv Q) := by
  unfold fm_22_p3 at h
  refine lf_seg 2 (pc' := 6) (lv' := [(0, .ref 1), (1, .ref 13), (2, .int (Int32.ofInt x2)), (3, .int (Int32.ofInt x3)), (4, .int (Int32.ofInt x4))]) (st' := [.ref 1, .int (Int32.ofInt x4)]) rfl ?_
  refine lf_getI 9 0 rfl rfl rfl rfl rfl rfl rfl ?_
  obtain ⟨o21, h⟩ := h
  obtain ⟨o22, h⟩ := h
  refine lf_icmp_ge 107 12 rfl rfl rfl o21 o22 (fun c => ?_) (fun c => ?_)
  · have h := h.1 c
    exact lf_retV rfl rfl h
  · have h := h.2 c
    refine lf_seg 1 (pc' := 14) (lv' := [(0, .ref 1), (1, .ref 13), (2, .int (Int32.ofInt x2)), (3, .int (Int32.ofInt x3)), (4, .int (Int32.ofInt x4))]) (st' := [.int (Int32.ofInt x4)]) rfl ?_
    refine lf_bipush 16 12 rfl rfl (by decide) (by decide) ?_
    refine lf_imul 17 rfl rfl ?_
    refine lf_seg 3 (pc' := 22) (lv' := [(6, .int (Int32.ofInt 0)), (5, .int (Int32.ofInt (x4 * 12))), (0, .ref 1), (1, .ref 13), (2, .int (Int32.ofInt x2)), (3, .int (Int32.ofInt x3)), (4, .int (Int32.ofInt x4))]) (st' := []) rfl ?_
    refine lf_sub (l := [(0, .ref 1), (1, .ref 13), (2, .int (Int32.ofInt x2)), (3, .int (Int32.ofInt x3)), (4, .int (Int32.ofInt x4)), (5, .int (Int32.ofInt (x4 * 12))), (6, .int (Int32.ofInt 0))]) (lf_sb1 rfl (lf_sb1 rfl (lf_sb1 rfl (lf_sb1 rfl (lf_sb1 rfl (lf_sb1 rfl (lf_sb1 rfl lf_sb0))))))) ?_
    exact gm_22_p22L hX3 h
theorem gm_22_p3L {L : Nat} {xs : Nat → Int32} {d : Nat} {Q : lf_Z → Prop} {x2 : Int} {x3 : Int} {x4 : Int} {s : lf_Z} (h : fm_22_p3L Q x2 x3 x4 s) : lf_E (px_ro L xs) (d + 1) 22 3 [(0, .ref 1), (1, .ref 13), (2, .int (Int32.ofInt x2)), (3, .int (Int32.ofInt x3)), (4, .int (Int32.ofInt x4))] [] s (lf_qv Q) :=
  h (fun x4 s => lf_E (px_ro L xs) (d + 1) 22 3 [(0, .ref 1), (1, .ref 13), (2, .int (Int32.ofInt x2)), (3, .int (Int32.ofInt x3)), (4, .int (Int32.ofInt x4))] [] s (lf_qv Q)) (fun x4 s hb => gm_22_p3 (fun _ _ h => h) hb)
def fm_22 (a2 : Int) (a3 : Int) (Q : lf_Z → Prop) (s : lf_Z) : Prop := fm_22_p3L Q a2 a3 0 s
set_option maxRecDepth 100000 in
theorem gm_22 {L : Nat} {xs : Nat → Int32} {d : Nat} {a2 : Int} {a3 : Int} {Q : lf_Z → Prop} {s : lf_Z} (h : fm_22 a2 a3 Q s) : lf_M (px_ro L xs) (d + 1) 22 [.ref 1, .ref 13, .int (Int32.ofInt a2), .int (Int32.ofInt a3)] s (lf_qv Q) := by
  unfold fm_22 at h
  show lf_E (px_ro L xs) (d + 1) 22 0 [(0, .ref 1), (1, .ref 13), (2, .int (Int32.ofInt a2)), (3, .int (Int32.ofInt a3))] [] s _
  refine lf_seg 2 (pc' := 3) (lv' := [(4, .int (Int32.ofInt 0)), (0, .ref 1), (1, .ref 13), (2, .int (Int32.ofInt a2)), (3, .int (Int32.ofInt a3))]) (st' := []) rfl ?_
  refine lf_sub (l := [(0, .ref 1), (1, .ref 13), (2, .int (Int32.ofInt a2)), (3, .int (Int32.ofInt a3)), (4, .int (Int32.ofInt 0))]) (lf_sb1 rfl (lf_sb1 rfl (lf_sb1 rfl (lf_sb1 rfl (lf_sb1 rfl lf_sb0))))) ?_
  exact gm_22_p3L h
-- fm_20 Land.layWay 1 i
def fm_20 (a1 : Int) (Q : lf_Z → Prop) (s : lf_Z) : Prop := (0 ≤ a1 ∧ a1 < 16) ∧ (fm_21 (s.1 4 a1) a1 (fun s22 => (fm_21 (s22.1 5 a1) a1 (fun s23 => (fm_22 (s23.1 4 a1) (s23.1 5 a1) (fun s24 => (Q s24)) s23)) s22)) s)
set_option maxRecDepth 100000 in
theorem gm_20 {L : Nat} {xs : Nat → Int32} {d : Nat} {a1 : Int} {Q : lf_Z → Prop} {s : lf_Z} (h : fm_20 a1 Q s) : lf_M (px_ro L xs) (d + 2) 20 [.ref 1, .int (Int32.ofInt a1)] s (lf_qv Q) := by
  unfold fm_20 at h
  show lf_E (px_ro L xs) (d + 2) 20 0 [(0, .ref 1), (1, .int (Int32.ofInt a1))] [] s _
  refine lf_seg 4 (pc' := 6) (lv' := [(0, .ref 1), (1, .int (Int32.ofInt a1))]) (st' := [.int (Int32.ofInt a1), .ref 4, .ref 1]) rfl ?_
  obtain ⟨o21, h⟩ := h
  refine lf_iald 7 16 rfl rfl rfl rfl rfl rfl o21 ?_
  refine lf_seg 1 (pc' := 8) (lv' := [(0, .ref 1), (1, .int (Int32.ofInt a1))]) (st' := [.int (Int32.ofInt a1), .int (Int32.ofInt (s.1 4 a1)), .ref 1]) rfl ?_
  refine lf_callV 11 rfl rfl rfl rfl (gm_21 h) (fun s22 h => ?_)
  refine lf_seg 4 (pc' := 17) (lv' := [(0, .ref 1), (1, .int (Int32.ofInt a1))]) (st' := [.int (Int32.ofInt a1), .ref 5, .ref 1]) rfl ?_
  refine lf_iald 18 16 rfl rfl rfl rfl rfl rfl o21 ?_
  refine lf_seg 1 (pc' := 19) (lv' := [(0, .ref 1), (1, .int (Int32.ofInt a1))]) (st' := [.int (Int32.ofInt a1), .int (Int32.ofInt (s22.1 5 a1)), .ref 1]) rfl ?_
  refine lf_callV 22 rfl rfl rfl rfl (gm_21 h) (fun s23 h => ?_)
  refine lf_seg 6 (pc' := 32) (lv' := [(0, .ref 1), (1, .int (Int32.ofInt a1))]) (st' := [.int (Int32.ofInt a1), .ref 4, .ref 13, .ref 1]) rfl ?_
  refine lf_iald 33 16 rfl rfl rfl rfl rfl rfl o21 ?_
  refine lf_seg 3 (pc' := 38) (lv' := [(0, .ref 1), (1, .int (Int32.ofInt a1))]) (st' := [.int (Int32.ofInt a1), .ref 5, .int (Int32.ofInt (s23.1 4 a1)), .ref 13, .ref 1]) rfl ?_
  refine lf_iald 39 16 rfl rfl rfl rfl rfl rfl o21 ?_
  refine lf_callV 42 rfl rfl rfl rfl (gm_22 h) (fun s24 h => ?_)
  exact lf_retV rfl rfl h
-- fm_19 Land.addWay 1 i i i
def fm_19 (a1 : Int) (a2 : Int) (a3 : Int) (Q : Int → lf_Z → Prop) (s : lf_Z) : Prop := lf_R (s.1 1 1) ∧ ((16 ≤ s.1 1 1 → (Q (-1) s)) ∧ (¬ (16 ≤ s.1 1 1) → ((0 ≤ a1 ∧ a1 < 12) ∧ (lf_R (s.1 12 a1) ∧ ((4 ≤ s.1 12 a1 → (Q (-1) s)) ∧ (¬ (4 ≤ s.1 12 a1) → ((0 ≤ a2 ∧ a2 < 12) ∧ (lf_R (s.1 12 a2) ∧ ((s.1 12 a2 < 4 → ((0 ≤ s.1 1 1 ∧ s.1 1 1 < 16) ∧ ((a3 = 0 ∨ a3 = 1) ∧ (fm_20 (((s.1 1 1) + 1) - 1) (fun s28 => (Q ((s28.1 1 1) - 1) s28)) (lf_up (lf_up (lf_up (lf_up s.1 4 (s.1 1 1) a1) 5 (s.1 1 1) a2) 6 (s.1 1 1) a3) 1 1 ((s.1 1 1) + 1), s.2.1, s.2.2))))) ∧ (¬ (s.1 12 a2 < 4) → (Q (-1) s)))))))))))
set_option maxRecDepth 100000 in
theorem gm_19 {L : Nat} {xs : Nat → Int32} {d : Nat} {a1 : Int} {a2 : Int} {a3 : Int} {Q : Int → lf_Z → Prop} {s : lf_Z} (h : fm_19 a1 a2 a3 Q s) : lf_M (px_ro L xs) (d + 3) 19 [.ref 1, .int (Int32.ofInt a1), .int (Int32.ofInt a2), .int (Int32.ofInt a3)] s (lf_qi Q) := by
  unfold fm_19 at h
  show lf_E (px_ro L xs) (d + 3) 19 0 [(0, .ref 1), (1, .int (Int32.ofInt a1)), (2, .int (Int32.ofInt a2)), (3, .int (Int32.ofInt a3))] [] s _
  refine lf_seg 1 (pc' := 1) (lv' := [(0, .ref 1), (1, .int (Int32.ofInt a1)), (2, .int (Int32.ofInt a2)), (3, .int (Int32.ofInt a3))]) (st' := [.ref 1]) rfl ?_
  refine lf_getI 4 1 rfl rfl rfl rfl rfl rfl rfl ?_
  refine lf_bipush 6 16 rfl rfl (by decide) (by decide) ?_
  obtain ⟨o21, h⟩ := h
  refine lf_icmp_ge 29 9 rfl rfl rfl o21 ⟨by decide, by decide⟩ (fun c => ?_) (fun c => ?_)
  · have h := h.1 c
    refine lf_seg 1 (pc' := 30) (lv' := [(0, .ref 1), (1, .int (Int32.ofInt a1)), (2, .int (Int32.ofInt a2)), (3, .int (Int32.ofInt a3))]) (st' := [.int (Int32.ofInt (-1))]) rfl ?_
    exact lf_retI rfl rfl h
  · have h := h.2 c
    refine lf_seg 3 (pc' := 14) (lv' := [(0, .ref 1), (1, .int (Int32.ofInt a1)), (2, .int (Int32.ofInt a2)), (3, .int (Int32.ofInt a3))]) (st' := [.int (Int32.ofInt a1), .ref 12]) rfl ?_
    obtain ⟨o22, h⟩ := h
    refine lf_iald 15 12 rfl rfl rfl rfl rfl rfl o22 ?_
    refine lf_seg 1 (pc' := 16) (lv' := [(0, .ref 1), (1, .int (Int32.ofInt a1)), (2, .int (Int32.ofInt a2)), (3, .int (Int32.ofInt a3))]) (st' := [.int (Int32.ofInt 4), .int (Int32.ofInt (s.1 12 a1))]) rfl ?_
    obtain ⟨o23, h⟩ := h
    refine lf_icmp_ge 29 19 rfl rfl rfl o23 ⟨by decide, by decide⟩ (fun c => ?_) (fun c => ?_)
    · have h := h.1 c
      refine lf_seg 1 (pc' := 30) (lv' := [(0, .ref 1), (1, .int (Int32.ofInt a1)), (2, .int (Int32.ofInt a2)), (3, .int (Int32.ofInt a3))]) (st' := [.int (Int32.ofInt (-1))]) rfl ?_
      exact lf_retI rfl rfl h
    · have h := h.2 c
      refine lf_seg 3 (pc' := 24) (lv' := [(0, .ref 1), (1, .int (Int32.ofInt a1)), (2, .int (Int32.ofInt a2)), (3, .int (Int32.ofInt a3))]) (st' := [.int (Int32.ofInt a2), .ref 12]) rfl ?_
      obtain ⟨o24, h⟩ := h
      refine lf_iald 25 12 rfl rfl rfl rfl rfl rfl o24 ?_
      refine lf_seg 1 (pc' := 26) (lv' := [(0, .ref 1), (1, .int (Int32.ofInt a1)), (2, .int (Int32.ofInt a2)), (3, .int (Int32.ofInt a3))]) (st' := [.int (Int32.ofInt 4), .int (Int32.ofInt (s.1 12 a2))]) rfl ?_
      obtain ⟨o25, h⟩ := h
      refine lf_icmp_lt 31 29 rfl rfl rfl o25 ⟨by decide, by decide⟩ (fun c => ?_) (fun c => ?_)
      · have h := h.1 c
        refine lf_seg 3 (pc' := 36) (lv' := [(0, .ref 1), (1, .int (Int32.ofInt a1)), (2, .int (Int32.ofInt a2)), (3, .int (Int32.ofInt a3))]) (st' := [.ref 1, .ref 4]) rfl ?_
        refine lf_getI 39 1 rfl rfl rfl rfl rfl rfl rfl ?_
        refine lf_seg 1 (pc' := 40) (lv' := [(0, .ref 1), (1, .int (Int32.ofInt a1)), (2, .int (Int32.ofInt a2)), (3, .int (Int32.ofInt a3))]) (st' := [.int (Int32.ofInt a1), .int (Int32.ofInt (s.1 1 1)), .ref 4]) rfl ?_
        obtain ⟨o26, h⟩ := h
        refine lf_iast 41 16 rfl rfl rfl rfl rfl rfl o26 ?_
        refine lf_as (lf_up s.1 4 (s.1 1 1) a1, s.2.1, s.2.2) rfl ?_
        refine lf_seg 3 (pc' := 46) (lv' := [(0, .ref 1), (1, .int (Int32.ofInt a1)), (2, .int (Int32.ofInt a2)), (3, .int (Int32.ofInt a3))]) (st' := [.ref 1, .ref 5]) rfl ?_
        refine lf_getI 49 1 rfl rfl rfl rfl rfl rfl rfl ?_
        refine lf_seg 1 (pc' := 50) (lv' := [(0, .ref 1), (1, .int (Int32.ofInt a1)), (2, .int (Int32.ofInt a2)), (3, .int (Int32.ofInt a3))]) (st' := [.int (Int32.ofInt a2), .int (Int32.ofInt (s.1 1 1)), .ref 5]) rfl ?_
        refine lf_iast 51 16 rfl rfl rfl rfl rfl rfl o26 ?_
        refine lf_as (lf_up (lf_up s.1 4 (s.1 1 1) a1) 5 (s.1 1 1) a2, s.2.1, s.2.2) rfl ?_
        refine lf_seg 3 (pc' := 56) (lv' := [(0, .ref 1), (1, .int (Int32.ofInt a1)), (2, .int (Int32.ofInt a2)), (3, .int (Int32.ofInt a3))]) (st' := [.ref 1, .ref 6]) rfl ?_
        refine lf_getI 59 1 rfl rfl rfl rfl rfl rfl rfl ?_
        refine lf_seg 1 (pc' := 60) (lv' := [(0, .ref 1), (1, .int (Int32.ofInt a1)), (2, .int (Int32.ofInt a2)), (3, .int (Int32.ofInt a3))]) (st' := [.int (Int32.ofInt a3), .int (Int32.ofInt (s.1 1 1)), .ref 6]) rfl ?_
        obtain ⟨o27, h⟩ := h
        refine lf_zast 61 16 rfl rfl rfl rfl rfl rfl o26 o27 ?_
        refine lf_as (lf_up (lf_up (lf_up s.1 4 (s.1 1 1) a1) 5 (s.1 1 1) a2) 6 (s.1 1 1) a3, s.2.1, s.2.2) rfl ?_
        refine lf_seg 2 (pc' := 63) (lv' := [(0, .ref 1), (1, .int (Int32.ofInt a1)), (2, .int (Int32.ofInt a2)), (3, .int (Int32.ofInt a3))]) (st' := [.ref 1, .ref 1]) rfl ?_
        refine lf_getI 66 1 rfl rfl rfl rfl rfl rfl rfl ?_
        refine lf_seg 1 (pc' := 67) (lv' := [(0, .ref 1), (1, .int (Int32.ofInt a1)), (2, .int (Int32.ofInt a2)), (3, .int (Int32.ofInt a3))]) (st' := [.int (Int32.ofInt 1), .int (Int32.ofInt (s.1 1 1)), .ref 1]) rfl ?_
        refine lf_iadd 68 rfl rfl ?_
        refine lf_putI 71 1 rfl rfl rfl rfl rfl rfl rfl rfl ?_
        refine lf_as (lf_up (lf_up (lf_up (lf_up s.1 4 (s.1 1 1) a1) 5 (s.1 1 1) a2) 6 (s.1 1 1) a3) 1 1 ((s.1 1 1) + 1), s.2.1, s.2.2) rfl ?_
        refine lf_seg 2 (pc' := 73) (lv' := [(0, .ref 1), (1, .int (Int32.ofInt a1)), (2, .int (Int32.ofInt a2)), (3, .int (Int32.ofInt a3))]) (st' := [.ref 1, .ref 1]) rfl ?_
        refine lf_getI 76 1 rfl rfl rfl rfl rfl rfl rfl ?_
        refine lf_seg 1 (pc' := 77) (lv' := [(0, .ref 1), (1, .int (Int32.ofInt a1)), (2, .int (Int32.ofInt a2)), (3, .int (Int32.ofInt a3))]) (st' := [.int (Int32.ofInt 1), .int (Int32.ofInt ((s.1 1 1) + 1)), .ref 1]) rfl ?_
        refine lf_isub 78 rfl rfl ?_
        refine lf_callV 81 rfl rfl rfl rfl (gm_20 h) (fun s28 h => ?_)
        refine lf_seg 1 (pc' := 82) (lv' := [(0, .ref 1), (1, .int (Int32.ofInt a1)), (2, .int (Int32.ofInt a2)), (3, .int (Int32.ofInt a3))]) (st' := [.ref 1]) rfl ?_
        refine lf_getI 85 1 rfl rfl rfl rfl rfl rfl rfl ?_
        refine lf_seg 1 (pc' := 86) (lv' := [(0, .ref 1), (1, .int (Int32.ofInt a1)), (2, .int (Int32.ofInt a2)), (3, .int (Int32.ofInt a3))]) (st' := [.int (Int32.ofInt 1), .int (Int32.ofInt (s28.1 1 1))]) rfl ?_
        refine lf_isub 87 rfl rfl ?_
        exact lf_retI rfl rfl h
      · have h := h.2 c
        refine lf_seg 1 (pc' := 30) (lv' := [(0, .ref 1), (1, .int (Int32.ofInt a1)), (2, .int (Int32.ofInt a2)), (3, .int (Int32.ofInt a3))]) (st' := [.int (Int32.ofInt (-1))]) rfl ?_
        exact lf_retI rfl rfl h
-- fm_17 ElevenBullocks.way 0 i i i
def fm_17 (a1 : Int) (a2 : Int) (a3 : Int) (Q : Int → lf_Z → Prop) (s : lf_Z) : Prop := fm_18 a1 (fun z22 s21 => ((z22 = false → (Q (-1) s21)) ∧ (z22 = true → (fm_18 a2 (fun z24 s23 => ((z24 = false → (Q (-1) s23)) ∧ (z24 = true → (lf_R a1 ∧ (lf_R a2 ∧ ((a1 ≠ a2 → (fm_19 a1 a2 a3 (fun r28 s27 => (Q r28 s27)) s23)) ∧ (¬ (a1 ≠ a2) → (Q (-1) s23)))))))) s21)))) s
set_option maxRecDepth 100000 in
theorem gm_17 {L : Nat} {xs : Nat → Int32} {d : Nat} {a1 : Int} {a2 : Int} {a3 : Int} {Q : Int → lf_Z → Prop} {s : lf_Z} (h : fm_17 a1 a2 a3 Q s) : lf_M (px_ro L xs) (d + 4) 17 [.ref 0, .int (Int32.ofInt a1), .int (Int32.ofInt a2), .int (Int32.ofInt a3)] s (lf_qi Q) := by
  unfold fm_17 at h
  show lf_E (px_ro L xs) (d + 4) 17 0 [(0, .ref 0), (1, .int (Int32.ofInt a1)), (2, .int (Int32.ofInt a2)), (3, .int (Int32.ofInt a3))] [] s _
  refine lf_seg 3 (pc' := 5) (lv' := [(0, .ref 0), (1, .int (Int32.ofInt a1)), (2, .int (Int32.ofInt a2)), (3, .int (Int32.ofInt a3))]) (st' := [.int (Int32.ofInt a1), .ref 1]) rfl ?_
  refine lf_callZ 8 rfl rfl rfl rfl (gm_18 h) (fun z22 s21 h => ?_)
  refine lf_ifz_eq 27 11 rfl rfl rfl (fun c => ?_) (fun c => ?_)
  · have h := h.1 c
    refine lf_seg 1 (pc' := 28) (lv' := [(0, .ref 0), (1, .int (Int32.ofInt a1)), (2, .int (Int32.ofInt a2)), (3, .int (Int32.ofInt a3))]) (st' := [.int (Int32.ofInt (-1))]) rfl ?_
    exact lf_retI rfl rfl h
  · have h := h.2 c
    refine lf_seg 3 (pc' := 16) (lv' := [(0, .ref 0), (1, .int (Int32.ofInt a1)), (2, .int (Int32.ofInt a2)), (3, .int (Int32.ofInt a3))]) (st' := [.int (Int32.ofInt a2), .ref 1]) rfl ?_
    refine lf_callZ 19 rfl rfl rfl rfl (gm_18 h) (fun z24 s23 h => ?_)
    refine lf_ifz_eq 27 22 rfl rfl rfl (fun c => ?_) (fun c => ?_)
    · have h := h.1 c
      refine lf_seg 1 (pc' := 28) (lv' := [(0, .ref 0), (1, .int (Int32.ofInt a1)), (2, .int (Int32.ofInt a2)), (3, .int (Int32.ofInt a3))]) (st' := [.int (Int32.ofInt (-1))]) rfl ?_
      exact lf_retI rfl rfl h
    · have h := h.2 c
      refine lf_seg 2 (pc' := 24) (lv' := [(0, .ref 0), (1, .int (Int32.ofInt a1)), (2, .int (Int32.ofInt a2)), (3, .int (Int32.ofInt a3))]) (st' := [.int (Int32.ofInt a2), .int (Int32.ofInt a1)]) rfl ?_
      obtain ⟨o25, h⟩ := h
      obtain ⟨o26, h⟩ := h
      refine lf_icmp_ne 29 27 rfl rfl rfl o25 o26 (fun c => ?_) (fun c => ?_)
      · have h := h.1 c
        refine lf_seg 5 (pc' := 36) (lv' := [(0, .ref 0), (1, .int (Int32.ofInt a1)), (2, .int (Int32.ofInt a2)), (3, .int (Int32.ofInt a3))]) (st' := [.int (Int32.ofInt a3), .int (Int32.ofInt a2), .int (Int32.ofInt a1), .ref 1]) rfl ?_
        refine lf_callI 39 rfl rfl rfl rfl (gm_19 h) (fun r28 s27 h => ?_)
        exact lf_retI rfl rfl h
      · have h := h.2 c
        refine lf_seg 1 (pc' := 28) (lv' := [(0, .ref 0), (1, .int (Int32.ofInt a1)), (2, .int (Int32.ofInt a2)), (3, .int (Int32.ofInt a3))]) (st' := [.int (Int32.ofInt (-1))]) rfl ?_
        exact lf_retI rfl rfl h
-- fm_185 Model.isStretch 95 i
def fm_185 (a1 : Int) (Q : Bool → lf_Z → Prop) (s : lf_Z) : Prop := fm_183 a1 0 ((s.1 96 0) - 1) (fun z22 s21 => (Q z22 s21)) s
set_option maxRecDepth 100000 in
theorem gm_185 {L : Nat} {xs : Nat → Int32} {d : Nat} {a1 : Int} {Q : Bool → lf_Z → Prop} {s : lf_Z} (h : fm_185 a1 Q s) : lf_M (px_ro L xs) (d + 2) 185 [.ref 95, .int (Int32.ofInt a1)] s (lf_qz Q) := by
  unfold fm_185 at h
  show lf_E (px_ro L xs) (d + 2) 185 0 [(0, .ref 95), (1, .int (Int32.ofInt a1))] [] s _
  refine lf_seg 5 (pc' := 7) (lv' := [(0, .ref 95), (1, .int (Int32.ofInt a1))]) (st' := [.int (Int32.ofInt 0), .ref 96, .int (Int32.ofInt 0), .int (Int32.ofInt a1)]) rfl ?_
  refine lf_iald 8 1538 rfl rfl rfl rfl rfl rfl ⟨by decide, by decide⟩ ?_
  refine lf_seg 1 (pc' := 9) (lv' := [(0, .ref 95), (1, .int (Int32.ofInt a1))]) (st' := [.int (Int32.ofInt 1), .int (Int32.ofInt (s.1 96 0)), .int (Int32.ofInt 0), .int (Int32.ofInt a1)]) rfl ?_
  refine lf_isub 10 rfl rfl ?_
  refine lf_callZ 13 rfl rfl rfl rfl (gm_183 h) (fun z22 s21 h => ?_)
  exact lf_retZ z22 rfl rfl h
-- fm_187 Model.acrossOf 95 i i
def fm_187 (a1 : Int) (a2 : Int) (Q : Int → lf_Z → Prop) (s : lf_Z) : Prop := (0 ≤ 50 + (4 * a1) ∧ 50 + (4 * a1) < 1538) ∧ ((0 ≤ (50 + (4 * a1)) + 1 ∧ (50 + (4 * a1)) + 1 < 1538) ∧ (lf_R (s.1 96 (50 + (4 * a1))) ∧ (lf_R a2 ∧ ((s.1 96 (50 + (4 * a1)) ≠ a2 → (lf_R (s.1 96 ((50 + (4 * a1)) + 1)) ∧ ((s.1 96 ((50 + (4 * a1)) + 1) ≠ a2 → (Q (-1) s)) ∧ (¬ (s.1 96 ((50 + (4 * a1)) + 1) ≠ a2) → (Q (s.1 96 (50 + (4 * a1))) s))))) ∧ (¬ (s.1 96 (50 + (4 * a1)) ≠ a2) → (Q (s.1 96 ((50 + (4 * a1)) + 1)) s))))))
set_option maxRecDepth 100000 in
theorem gm_187 {L : Nat} {xs : Nat → Int32} {d : Nat} {a1 : Int} {a2 : Int} {Q : Int → lf_Z → Prop} {s : lf_Z} (h : fm_187 a1 a2 Q s) : lf_M (px_ro L xs) (d + 1) 187 [.ref 95, .int (Int32.ofInt a1), .int (Int32.ofInt a2)] s (lf_qi Q) := by
  unfold fm_187 at h
  show lf_E (px_ro L xs) (d + 1) 187 0 [(0, .ref 95), (1, .int (Int32.ofInt a1)), (2, .int (Int32.ofInt a2))] [] s _
  refine lf_seg 2 (pc' := 4) (lv' := [(0, .ref 95), (1, .int (Int32.ofInt a1)), (2, .int (Int32.ofInt a2))]) (st' := [.ref 96]) rfl ?_
  refine lf_bipush 6 50 rfl rfl (by decide) (by decide) ?_
  refine lf_seg 2 (pc' := 8) (lv' := [(0, .ref 95), (1, .int (Int32.ofInt a1)), (2, .int (Int32.ofInt a2))]) (st' := [.int (Int32.ofInt a1), .int (Int32.ofInt 4), .int (Int32.ofInt 50), .ref 96]) rfl ?_
  refine lf_imul 9 rfl rfl ?_
  refine lf_iadd 10 rfl rfl ?_
  obtain ⟨o21, h⟩ := h
  refine lf_iald 11 1538 rfl rfl rfl rfl rfl rfl o21 ?_
  refine lf_seg 3 (pc' := 16) (lv' := [(3, .int (Int32.ofInt (s.1 96 (50 + (4 * a1))))), (0, .ref 95), (1, .int (Int32.ofInt a1)), (2, .int (Int32.ofInt a2))]) (st' := [.ref 96]) rfl ?_
  refine lf_bipush 18 50 rfl rfl (by decide) (by decide) ?_
  refine lf_seg 2 (pc' := 20) (lv' := [(3, .int (Int32.ofInt (s.1 96 (50 + (4 * a1))))), (0, .ref 95), (1, .int (Int32.ofInt a1)), (2, .int (Int32.ofInt a2))]) (st' := [.int (Int32.ofInt a1), .int (Int32.ofInt 4), .int (Int32.ofInt 50), .ref 96]) rfl ?_
  refine lf_imul 21 rfl rfl ?_
  refine lf_iadd 22 rfl rfl ?_
  refine lf_seg 1 (pc' := 23) (lv' := [(3, .int (Int32.ofInt (s.1 96 (50 + (4 * a1))))), (0, .ref 95), (1, .int (Int32.ofInt a1)), (2, .int (Int32.ofInt a2))]) (st' := [.int (Int32.ofInt 1), .int (Int32.ofInt (50 + (4 * a1))), .ref 96]) rfl ?_
  refine lf_iadd 24 rfl rfl ?_
  obtain ⟨o22, h⟩ := h
  refine lf_iald 25 1538 rfl rfl rfl rfl rfl rfl o22 ?_
  refine lf_seg 3 (pc' := 29) (lv' := [(4, .int (Int32.ofInt (s.1 96 ((50 + (4 * a1)) + 1)))), (3, .int (Int32.ofInt (s.1 96 (50 + (4 * a1))))), (0, .ref 95), (1, .int (Int32.ofInt a1)), (2, .int (Int32.ofInt a2))]) (st' := [.int (Int32.ofInt a2), .int (Int32.ofInt (s.1 96 (50 + (4 * a1))))]) rfl ?_
  obtain ⟨o23, h⟩ := h
  obtain ⟨o24, h⟩ := h
  refine lf_icmp_ne 37 32 rfl rfl rfl o23 o24 (fun c => ?_) (fun c => ?_)
  · have h := h.1 c
    refine lf_seg 2 (pc' := 40) (lv' := [(4, .int (Int32.ofInt (s.1 96 ((50 + (4 * a1)) + 1)))), (3, .int (Int32.ofInt (s.1 96 (50 + (4 * a1))))), (0, .ref 95), (1, .int (Int32.ofInt a1)), (2, .int (Int32.ofInt a2))]) (st' := [.int (Int32.ofInt a2), .int (Int32.ofInt (s.1 96 ((50 + (4 * a1)) + 1)))]) rfl ?_
    obtain ⟨o25, h⟩ := h
    refine lf_icmp_ne 47 43 rfl rfl rfl o25 o24 (fun c => ?_) (fun c => ?_)
    · have h := h.1 c
      refine lf_seg 1 (pc' := 48) (lv' := [(4, .int (Int32.ofInt (s.1 96 ((50 + (4 * a1)) + 1)))), (3, .int (Int32.ofInt (s.1 96 (50 + (4 * a1))))), (0, .ref 95), (1, .int (Int32.ofInt a1)), (2, .int (Int32.ofInt a2))]) (st' := [.int (Int32.ofInt (-1))]) rfl ?_
      exact lf_retI rfl rfl h
    · have h := h.2 c
      refine lf_seg 2 (pc' := 48) (lv' := [(4, .int (Int32.ofInt (s.1 96 ((50 + (4 * a1)) + 1)))), (3, .int (Int32.ofInt (s.1 96 (50 + (4 * a1))))), (0, .ref 95), (1, .int (Int32.ofInt a1)), (2, .int (Int32.ofInt a2))]) (st' := [.int (Int32.ofInt (s.1 96 (50 + (4 * a1))))]) rfl ?_
      exact lf_retI rfl rfl h
  · have h := h.2 c
    refine lf_seg 2 (pc' := 48) (lv' := [(4, .int (Int32.ofInt (s.1 96 ((50 + (4 * a1)) + 1)))), (3, .int (Int32.ofInt (s.1 96 (50 + (4 * a1))))), (0, .ref 95), (1, .int (Int32.ofInt a1)), (2, .int (Int32.ofInt a2))]) (st' := [.int (Int32.ofInt (s.1 96 ((50 + (4 * a1)) + 1)))]) rfl ?_
    exact lf_retI rfl rfl h
-- fm_186 Model.waysAt 95 i
def fm_186_p31 (X4 : Int → Int → lf_Z → Prop) (Q : Int → lf_Z → Prop) (x1 : Int) (x3 : Int) (y0 : Int) (y1 : Int) (s : lf_Z) : Prop := X4 (lf_or y0 y1) (x3 + 1) s
set_option maxRecDepth 100000 in
theorem gm_186_p31 {L : Nat} {xs : Nat → Int32} {d : Nat} {X4 : Int → Int → lf_Z → Prop} {Q : Int → lf_Z → Prop} {x1 : Int} {x3 : Int} {y0 : Int} {y1 : Int} {s : lf_Z} (hX4 : ∀ x2 x3 s, X4 x2 x3 s → lf_E (px_ro L xs) (d + 2) 186 4 [(0, .ref 95), (1, .int (Int32.ofInt x1)), (2, .int (Int32.ofInt x2)), (3, .int (Int32.ofInt x3))] [] s (lf_qi Q)) (h : fm_186_p31 X4 Q x1 x3 y0 y1 s) : lf_E (px_ro L xs) (d + 2) 186 31 [(0, .ref 95), (1, .int (Int32.ofInt x1)), (3, .int (Int32.ofInt x3))] [.int (Int32.ofInt y1), .int (Int32.ofInt y0)] s (lf_qi Q) := by
  unfold fm_186_p31 at h
  refine lf_ior 32 rfl rfl ?_
  refine lf_seg 1 (pc' := 33) (lv' := [(2, .int (Int32.ofInt (lf_or y0 y1))), (0, .ref 95), (1, .int (Int32.ofInt x1)), (3, .int (Int32.ofInt x3))]) (st' := []) rfl ?_
  refine lf_iinc 36 rfl rfl rfl rfl ?_
  refine lf_seg 1 (pc' := 4) (lv' := [(3, .int (Int32.ofInt (x3 + 1))), (2, .int (Int32.ofInt (lf_or y0 y1))), (0, .ref 95), (1, .int (Int32.ofInt x1))]) (st' := []) rfl ?_
  refine lf_sub (l := [(0, .ref 95), (1, .int (Int32.ofInt x1)), (2, .int (Int32.ofInt (lf_or y0 y1))), (3, .int (Int32.ofInt (x3 + 1)))]) (lf_sb1 rfl (lf_sb1 rfl (lf_sb1 rfl (lf_sb1 rfl lf_sb0)))) ?_
  exact hX4 _ _ _ h
def fm_186_p4 (Q : Int → lf_Z → Prop) (x1 : Int) (X4 : Int → Int → lf_Z → Prop) (x2 : Int) (x3 : Int) (s : lf_Z) : Prop := lf_R x3 ∧ (lf_R (s.1 96 1) ∧ ((s.1 96 1 ≤ x3 → (Q x2 s)) ∧ (¬ (s.1 96 1 ≤ x3) → (fm_187 x3 x1 (fun r24 s23 => (lf_R r24 ∧ ((r24 < 0 → (fm_186_p31 X4 Q x1 x3 x2 0 s23)) ∧ (¬ (r24 < 0) → (fm_186_p31 X4 Q x1 x3 x2 (lf_shl 1 x3) s23))))) s))))
def fm_186_p4L (Q : Int → lf_Z → Prop) (x1 : Int) (x2 : Int) (x3 : Int) (s : lf_Z) : Prop := ∀ X4 : Int → Int → lf_Z → Prop, (∀ (x2 : Int) (x3 : Int) (s : lf_Z), fm_186_p4 Q x1 X4 x2 x3 s → X4 x2 x3 s) → X4 x2 x3 s
set_option maxRecDepth 100000 in
theorem gm_186_p4 {L : Nat} {xs : Nat → Int32} {d : Nat} {Q : Int → lf_Z → Prop} {x1 : Int} {x2 : Int} {x3 : Int} {s : lf_Z} {X4 : Int → Int → lf_Z → Prop} (hX4 : ∀ x2 x3 s, X4 x2 x3 s → lf_E (px_ro L xs) (d + 2) 186 4 [(0, .ref 95), (1, .int (Int32.ofInt x1)), (2, .int (Int32.ofInt x2)), (3, .int (Int32.ofInt x3))] [] s (lf_qi Q)) (h : fm_186_p4 Q x1 X4 x2 x3 s) : lf_E (px_ro L xs) (d + 2) 186 4 [(0, .ref 95), (1, .int (Int32.ofInt x1)), (2, .int (Int32.ofInt x2)), (3, .int (Int32.ofInt x3))] [] s (lf_qi Q) := by
  unfold fm_186_p4 at h
  refine lf_seg 4 (pc' := 10) (lv' := [(0, .ref 95), (1, .int (Int32.ofInt x1)), (2, .int (Int32.ofInt x2)), (3, .int (Int32.ofInt x3))]) (st' := [.int (Int32.ofInt 1), .ref 96, .int (Int32.ofInt x3)]) rfl ?_
  refine lf_iald 11 1538 rfl rfl rfl rfl rfl rfl ⟨by decide, by decide⟩ ?_
  obtain ⟨o21, h⟩ := h
  obtain ⟨o22, h⟩ := h
  refine lf_icmp_ge 39 14 rfl rfl rfl o21 o22 (fun c => ?_) (fun c => ?_)
  · have h := h.1 c
    refine lf_seg 1 (pc' := 40) (lv' := [(0, .ref 95), (1, .int (Int32.ofInt x1)), (2, .int (Int32.ofInt x2)), (3, .int (Int32.ofInt x3))]) (st' := [.int (Int32.ofInt x2)]) rfl ?_
    exact lf_retI rfl rfl h
  · have h := h.2 c
    refine lf_seg 4 (pc' := 18) (lv' := [(0, .ref 95), (1, .int (Int32.ofInt x1)), (2, .int (Int32.ofInt x2)), (3, .int (Int32.ofInt x3))]) (st' := [.int (Int32.ofInt x1), .int (Int32.ofInt x3), .ref 95, .int (Int32.ofInt x2)]) rfl ?_
    refine lf_callI 21 rfl rfl rfl rfl (gm_187 h) (fun r24 s23 h => ?_)
    obtain ⟨o25, h⟩ := h
    refine lf_if_lt 30 24 rfl rfl rfl o25 (fun c => ?_) (fun c => ?_)
    · have h := h.1 c
      refine lf_seg 1 (pc' := 31) (lv' := [(0, .ref 95), (1, .int (Int32.ofInt x1)), (2, .int (Int32.ofInt x2)), (3, .int (Int32.ofInt x3))]) (st' := [.int (Int32.ofInt 0), .int (Int32.ofInt x2)]) rfl ?_
      refine lf_sub (l := [(0, .ref 95), (1, .int (Int32.ofInt x1)), (3, .int (Int32.ofInt x3))]) (lf_sb1 rfl (lf_sb1 rfl (lf_sb1 rfl lf_sb0))) ?_
      exact gm_186_p31 hX4 h
    · have h := h.2 c
      refine lf_seg 2 (pc' := 26) (lv' := [(0, .ref 95), (1, .int (Int32.ofInt x1)), (2, .int (Int32.ofInt x2)), (3, .int (Int32.ofInt x3))]) (st' := [.int (Int32.ofInt x3), .int (Int32.ofInt 1), .int (Int32.ofInt x2)]) rfl ?_
      refine lf_ishl 27 rfl rfl ?_
      refine lf_seg 1 (pc' := 31) (lv' := [(0, .ref 95), (1, .int (Int32.ofInt x1)), (2, .int (Int32.ofInt x2)), (3, .int (Int32.ofInt x3))]) (st' := [.int (Int32.ofInt (lf_shl 1 x3)), .int (Int32.ofInt x2)]) rfl ?_
      refine lf_sub (l := [(0, .ref 95), (1, .int (Int32.ofInt x1)), (3, .int (Int32.ofInt x3))]) (lf_sb1 rfl (lf_sb1 rfl (lf_sb1 rfl lf_sb0))) ?_
      exact gm_186_p31 hX4 h
theorem gm_186_p4L {L : Nat} {xs : Nat → Int32} {d : Nat} {Q : Int → lf_Z → Prop} {x1 : Int} {x2 : Int} {x3 : Int} {s : lf_Z} (h : fm_186_p4L Q x1 x2 x3 s) : lf_E (px_ro L xs) (d + 2) 186 4 [(0, .ref 95), (1, .int (Int32.ofInt x1)), (2, .int (Int32.ofInt x2)), (3, .int (Int32.ofInt x3))] [] s (lf_qi Q) :=
  h (fun x2 x3 s => lf_E (px_ro L xs) (d + 2) 186 4 [(0, .ref 95), (1, .int (Int32.ofInt x1)), (2, .int (Int32.ofInt x2)), (3, .int (Int32.ofInt x3))] [] s (lf_qi Q)) (fun x2 x3 s hb => gm_186_p4 (fun _ _ _ h => h) hb)
def fm_186 (a1 : Int) (Q : Int → lf_Z → Prop) (s : lf_Z) : Prop := fm_186_p4L Q a1 0 0 s
set_option maxRecDepth 100000 in
theorem gm_186 {L : Nat} {xs : Nat → Int32} {d : Nat} {a1 : Int} {Q : Int → lf_Z → Prop} {s : lf_Z} (h : fm_186 a1 Q s) : lf_M (px_ro L xs) (d + 2) 186 [.ref 95, .int (Int32.ofInt a1)] s (lf_qi Q) := by
  unfold fm_186 at h
  show lf_E (px_ro L xs) (d + 2) 186 0 [(0, .ref 95), (1, .int (Int32.ofInt a1))] [] s _
  refine lf_seg 4 (pc' := 4) (lv' := [(3, .int (Int32.ofInt 0)), (2, .int (Int32.ofInt 0)), (0, .ref 95), (1, .int (Int32.ofInt a1))]) (st' := []) rfl ?_
  refine lf_sub (l := [(0, .ref 95), (1, .int (Int32.ofInt a1)), (2, .int (Int32.ofInt 0)), (3, .int (Int32.ofInt 0))]) (lf_sb1 rfl (lf_sb1 rfl (lf_sb1 rfl (lf_sb1 rfl lf_sb0)))) ?_
  exact gm_186_p4L h
-- fm_188 Model.bits i
def fm_188_p4 (Q : Int → lf_Z → Prop) (x0 : Int) (X4 : Int → Int → lf_Z → Prop) (x1 : Int) (x2 : Int) (s : lf_Z) : Prop := lf_R x2 ∧ ((16 ≤ x2 → (Q x1 s)) ∧ (¬ (16 ≤ x2) → (X4 (x1 + (lf_and (lf_shr x0 x2) 1)) (x2 + 1) s)))
def fm_188_p4L (Q : Int → lf_Z → Prop) (x0 : Int) (x1 : Int) (x2 : Int) (s : lf_Z) : Prop := ∀ X4 : Int → Int → lf_Z → Prop, (∀ (x1 : Int) (x2 : Int) (s : lf_Z), fm_188_p4 Q x0 X4 x1 x2 s → X4 x1 x2 s) → X4 x1 x2 s
set_option maxRecDepth 100000 in
theorem gm_188_p4 {L : Nat} {xs : Nat → Int32} {d : Nat} {Q : Int → lf_Z → Prop} {x0 : Int} {x1 : Int} {x2 : Int} {s : lf_Z} {X4 : Int → Int → lf_Z → Prop} (hX4 : ∀ x1 x2 s, X4 x1 x2 s → lf_E (px_ro L xs) (d + 1) 188 4 [(0, .int (Int32.ofInt x0)), (1, .int (Int32.ofInt x1)), (2, .int (Int32.ofInt x2))] [] s (lf_qi Q)) (h : fm_188_p4 Q x0 X4 x1 x2 s) : lf_E (px_ro L xs) (d + 1) 188 4 [(0, .int (Int32.ofInt x0)), (1, .int (Int32.ofInt x1)), (2, .int (Int32.ofInt x2))] [] s (lf_qi Q) := by
  unfold fm_188_p4 at h
  refine lf_seg 1 (pc' := 5) (lv' := [(0, .int (Int32.ofInt x0)), (1, .int (Int32.ofInt x1)), (2, .int (Int32.ofInt x2))]) (st' := [.int (Int32.ofInt x2)]) rfl ?_
  refine lf_bipush 7 16 rfl rfl (by decide) (by decide) ?_
  obtain ⟨o21, h⟩ := h
  refine lf_icmp_ge 24 10 rfl rfl rfl o21 ⟨by decide, by decide⟩ (fun c => ?_) (fun c => ?_)
  · have h := h.1 c
    refine lf_seg 1 (pc' := 25) (lv' := [(0, .int (Int32.ofInt x0)), (1, .int (Int32.ofInt x1)), (2, .int (Int32.ofInt x2))]) (st' := [.int (Int32.ofInt x1)]) rfl ?_
    exact lf_retI rfl rfl h
  · have h := h.2 c
    refine lf_seg 3 (pc' := 13) (lv' := [(0, .int (Int32.ofInt x0)), (1, .int (Int32.ofInt x1)), (2, .int (Int32.ofInt x2))]) (st' := [.int (Int32.ofInt x2), .int (Int32.ofInt x0), .int (Int32.ofInt x1)]) rfl ?_
    refine lf_ishr 14 rfl rfl ?_
    refine lf_seg 1 (pc' := 15) (lv' := [(0, .int (Int32.ofInt x0)), (1, .int (Int32.ofInt x1)), (2, .int (Int32.ofInt x2))]) (st' := [.int (Int32.ofInt 1), .int (Int32.ofInt (lf_shr x0 x2)), .int (Int32.ofInt x1)]) rfl ?_
    refine lf_iand 16 rfl rfl ?_
    refine lf_iadd 17 rfl rfl ?_
    refine lf_seg 1 (pc' := 18) (lv' := [(1, .int (Int32.ofInt (x1 + (lf_and (lf_shr x0 x2) 1)))), (0, .int (Int32.ofInt x0)), (2, .int (Int32.ofInt x2))]) (st' := []) rfl ?_
    refine lf_iinc 21 rfl rfl rfl rfl ?_
    refine lf_seg 1 (pc' := 4) (lv' := [(2, .int (Int32.ofInt (x2 + 1))), (1, .int (Int32.ofInt (x1 + (lf_and (lf_shr x0 x2) 1)))), (0, .int (Int32.ofInt x0))]) (st' := []) rfl ?_
    refine lf_sub (l := [(0, .int (Int32.ofInt x0)), (1, .int (Int32.ofInt (x1 + (lf_and (lf_shr x0 x2) 1)))), (2, .int (Int32.ofInt (x2 + 1)))]) (lf_sb1 rfl (lf_sb1 rfl (lf_sb1 rfl lf_sb0))) ?_
    exact hX4 _ _ _ h
theorem gm_188_p4L {L : Nat} {xs : Nat → Int32} {d : Nat} {Q : Int → lf_Z → Prop} {x0 : Int} {x1 : Int} {x2 : Int} {s : lf_Z} (h : fm_188_p4L Q x0 x1 x2 s) : lf_E (px_ro L xs) (d + 1) 188 4 [(0, .int (Int32.ofInt x0)), (1, .int (Int32.ofInt x1)), (2, .int (Int32.ofInt x2))] [] s (lf_qi Q) :=
  h (fun x1 x2 s => lf_E (px_ro L xs) (d + 1) 188 4 [(0, .int (Int32.ofInt x0)), (1, .int (Int32.ofInt x1)), (2, .int (Int32.ofInt x2))] [] s (lf_qi Q)) (fun x1 x2 s hb => gm_188_p4 (fun _ _ _ h => h) hb)
def fm_188 (a0 : Int) (Q : Int → lf_Z → Prop) (s : lf_Z) : Prop := fm_188_p4L Q a0 0 0 s
set_option maxRecDepth 100000 in
theorem gm_188 {L : Nat} {xs : Nat → Int32} {d : Nat} {a0 : Int} {Q : Int → lf_Z → Prop} {s : lf_Z} (h : fm_188 a0 Q s) : lf_M (px_ro L xs) (d + 1) 188 [.int (Int32.ofInt a0)] s (lf_qi Q) := by
  unfold fm_188 at h
  show lf_E (px_ro L xs) (d + 1) 188 0 [(0, .int (Int32.ofInt a0))] [] s _
  refine lf_seg 4 (pc' := 4) (lv' := [(2, .int (Int32.ofInt 0)), (1, .int (Int32.ofInt 0)), (0, .int (Int32.ofInt a0))]) (st' := []) rfl ?_
  refine lf_sub (l := [(0, .int (Int32.ofInt a0)), (1, .int (Int32.ofInt 0)), (2, .int (Int32.ofInt 0))]) (lf_sb1 rfl (lf_sb1 rfl (lf_sb1 rfl lf_sb0))) ?_
  exact gm_188_p4L h
-- fm_184 Model.way 95 i i i
def fm_184_p106 (Q : Int → lf_Z → Prop) (x4 : Int) (y1 : Int) (y2 : Int) (s : lf_Z) : Prop := (0 ≤ y1 ∧ y1 < 1538) ∧ ((0 ≤ x4 + 3 ∧ x4 + 3 < 1538) ∧ ((0 ≤ 174 + (5 * ((lf_up (lf_up s.1 96 y1 y2) 96 (x4 + 3) 1) 96 1)) ∧ 174 + (5 * ((lf_up (lf_up s.1 96 y1 y2) 96 (x4 + 3) 1) 96 1)) < 1538) ∧ (Q ((((lf_up (lf_up (lf_up s.1 96 y1 y2) 96 (x4 + 3) 1) 96 (174 + (5 * ((lf_up (lf_up s.1 96 y1 y2) 96 (x4 + 3) 1) 96 1))) 0) 96 1) + 1) - 1) (lf_up (lf_up (lf_up (lf_up s.1 96 y1 y2) 96 (x4 + 3) 1) 96 (174 + (5 * ((lf_up (lf_up s.1 96 y1 y2) 96 (x4 + 3) 1) 96 1))) 0) 96 1 (((lf_up (lf_up (lf_up s.1 96 y1 y2) 96 (x4 + 3) 1) 96 (174 + (5 * ((lf_up (lf_up s.1 96 y1 y2) 96 (x4 + 3) 1) 96 1))) 0) 96 1) + 1), s.2.1, s.2.2))))
set_option maxRecDepth 100000 in
theorem gm_184_p106 {L : Nat} {xs : Nat → Int32} {d : Nat} {Q : Int → lf_Z → Prop} {x4 : Int} {y1 : Int} {y2 : Int} {s : lf_Z} (h : fm_184_p106 Q x4 y1 y2 s) : lf_E (px_ro L xs) (d + 3) 184 106 [(0, .ref 95), (4, .int (Int32.ofInt x4))] [.int (Int32.ofInt y2), .int (Int32.ofInt y1), .ref 96] s (lf_qi Q) := by
  unfold fm_184_p106 at h
  obtain ⟨o41, h⟩ := h
  refine lf_iast 107 1538 rfl rfl rfl rfl rfl rfl o41 ?_
  refine lf_as (lf_up s.1 96 y1 y2, s.2.1, s.2.2) rfl ?_
  refine lf_seg 4 (pc' := 114) (lv' := [(0, .ref 95), (4, .int (Int32.ofInt x4))]) (st' := [.int (Int32.ofInt 3), .int (Int32.ofInt x4), .ref 96]) rfl ?_
  refine lf_iadd 115 rfl rfl ?_
  refine lf_seg 1 (pc' := 116) (lv' := [(0, .ref 95), (4, .int (Int32.ofInt x4))]) (st' := [.int (Int32.ofInt 1), .int (Int32.ofInt (x4 + 3)), .ref 96]) rfl ?_
  obtain ⟨o42, h⟩ := h
  refine lf_iast 117 1538 rfl rfl rfl rfl rfl rfl o42 ?_
  refine lf_as (lf_up (lf_up s.1 96 y1 y2) 96 (x4 + 3) 1, s.2.1, s.2.2) rfl ?_
  refine lf_seg 2 (pc' := 121) (lv' := [(0, .ref 95), (4, .int (Int32.ofInt x4))]) (st' := [.ref 96]) rfl ?_
  refine lf_sipush 124 174 rfl rfl (by decide) (by decide) ?_
  refine lf_seg 4 (pc' := 130) (lv' := [(0, .ref 95), (4, .int (Int32.ofInt x4))]) (st' := [.int (Int32.ofInt 1), .ref 96, .int (Int32.ofInt 5), .int (Int32.ofInt 174), .ref 96]) rfl ?_
  refine lf_iald 131 1538 rfl rfl rfl rfl rfl rfl ⟨by decide, by decide⟩ ?_
  refine lf_imul 132 rfl rfl ?_
  refine lf_iadd 133 rfl rfl ?_
  refine lf_seg 1 (pc' := 134) (lv' := [(0, .ref 95), (4, .int (Int32.ofInt x4))]) (st' := [.int (Int32.ofInt 0), .int (Int32.ofInt (174 + (5 * ((lf_up (lf_up s.1 96 y1 y2) 96 (x4 + 3) 1) 96 1)))), .ref 96]) rfl ?_
  obtain ⟨o43, h⟩ := h
  refine lf_iast 135 1538 rfl rfl rfl rfl rfl rfl o43 ?_
  refine lf_as (lf_up (lf_up (lf_up s.1 96 y1 y2) 96 (x4 + 3) 1) 96 (174 + (5 * ((lf_up (lf_up s.1 96 y1 y2) 96 (x4 + 3) 1) 96 1))) 0, s.2.1, s.2.2) rfl ?_
  refine lf_seg 4 (pc' := 141) (lv' := [(0, .ref 95), (4, .int (Int32.ofInt x4))]) (st' := [.int (Int32.ofInt 1), .ref 96, .int (Int32.ofInt 1), .ref 96]) rfl ?_
  refine lf_iald 142 1538 rfl rfl rfl rfl rfl rfl ⟨by decide, by decide⟩ ?_
  refine lf_seg 1 (pc' := 143) (lv' := [(0, .ref 95), (4, .int (Int32.ofInt x4))]) (st' := [.int (Int32.ofInt 1), .int (Int32.ofInt ((lf_up (lf_up (lf_up s.1 96 y1 y2) 96 (x4 + 3) 1) 96 (174 + (5 * ((lf_up (lf_up s.1 96 y1 y2) 96 (x4 + 3) 1) 96 1))) 0) 96 1)), .int (Int32.ofInt 1), .ref 96]) rfl ?_
  refine lf_iadd 144 rfl rfl ?_
  refine lf_iast 145 1538 rfl rfl rfl rfl rfl rfl ⟨by decide, by decide⟩ ?_
  refine lf_as (lf_up (lf_up (lf_up (lf_up s.1 96 y1 y2) 96 (x4 + 3) 1) 96 (174 + (5 * ((lf_up (lf_up s.1 96 y1 y2) 96 (x4 + 3) 1) 96 1))) 0) 96 1 (((lf_up (lf_up (lf_up s.1 96 y1 y2) 96 (x4 + 3) 1) 96 (174 + (5 * ((lf_up (lf_up s.1 96 y1 y2) 96 (x4 + 3) 1) 96 1))) 0) 96 1) + 1), s.2.1, s.2.2) rfl ?_
  refine lf_seg 3 (pc' := 150) (lv' := [(0, .ref 95), (4, .int (Int32.ofInt x4))]) (st' := [.int (Int32.ofInt 1), .ref 96]) rfl ?_
  refine lf_iald 151 1538 rfl rfl rfl rfl rfl rfl ⟨by decide, by decide⟩ ?_
  refine lf_seg 1 (pc' := 152) (lv' := [(0, .ref 95), (4, .int (Int32.ofInt x4))]) (st' := [.int (Int32.ofInt 1), .int (Int32.ofInt (((lf_up (lf_up (lf_up s.1 96 y1 y2) 96 (x4 + 3) 1) 96 (174 + (5 * ((lf_up (lf_up s.1 96 y1 y2) 96 (x4 + 3) 1) 96 1))) 0) 96 1) + 1))]) rfl ?_
  refine lf_isub 153 rfl rfl ?_
  exact lf_retI rfl rfl h
def fm_184 (a1 : Int) (a2 : Int) (a3 : Int) (Q : Int → lf_Z → Prop) (s : lf_Z) : Prop := fm_185 a1 (fun z22 s21 => ((z22 = false → (Q (-1) s21)) ∧ (z22 = true → (fm_185 a2 (fun z24 s23 => ((z24 = false → (Q (-1) s23)) ∧ (z24 = true → (lf_R a1 ∧ (lf_R a2 ∧ ((a1 = a2 → (Q (-1) s23)) ∧ (¬ (a1 = a2) → (fm_186 a1 (fun r28 s27 => (fm_188 r28 (fun r30 s29 => (lf_R r30 ∧ ((r30 = 4 → (Q (-1) s29)) ∧ (¬ (r30 = 4) → (fm_186 a2 (fun r33 s32 => (fm_188 r33 (fun r35 s34 => (lf_R r35 ∧ ((r35 = 4 → (Q (-1) s34)) ∧ (¬ (r35 = 4) → (lf_R (s34.1 96 1) ∧ ((s34.1 96 1 ≠ 16 → ((0 ≤ 50 + (4 * (s34.1 96 1)) ∧ 50 + (4 * (s34.1 96 1)) < 1538) ∧ ((0 ≤ (50 + (4 * (s34.1 96 1))) + 1 ∧ (50 + (4 * (s34.1 96 1))) + 1 < 1538) ∧ (lf_R a3 ∧ ((a3 = 0 → (fm_184_p106 Q (50 + (4 * (s34.1 96 1))) ((50 + (4 * (s34.1 96 1))) + 2) 0 (lf_up (lf_up s34.1 96 (50 + (4 * (s34.1 96 1))) a1) 96 ((50 + (4 * (s34.1 96 1))) + 1) a2, s34.2.1, s34.2.2))) ∧ (¬ (a3 = 0) → (fm_184_p106 Q (50 + (4 * (s34.1 96 1))) ((50 + (4 * (s34.1 96 1))) + 2) 1 (lf_up (lf_up s34.1 96 (50 + (4 * (s34.1 96 1))) a1) 96 ((50 + (4 * (s34.1 96 1))) + 1) a2, s34.2.1, s34.2.2)))))))) ∧ (¬ (s34.1 96 1 ≠ 16) → (Q (-1) s34)))))))) s32)) s29))))) s27)) s23)))))))) s21)))) s
set_option maxRecDepth 100000 in
theorem gm_184 {L : Nat} {xs : Nat → Int32} {d : Nat} {a1 : Int} {a2 : Int} {a3 : Int} {Q : Int → lf_Z → Prop} {s : lf_Z} (h : fm_184 a1 a2 a3 Q s) : lf_M (px_ro L xs) (d + 3) 184 [.ref 95, .int (Int32.ofInt a1), .int (Int32.ofInt a2), .int (Int32.ofInt a3)] s (lf_qi Q) := by
  unfold fm_184 at h
  show lf_E (px_ro L xs) (d + 3) 184 0 [(0, .ref 95), (1, .int (Int32.ofInt a1)), (2, .int (Int32.ofInt a2)), (3, .int (Int32.ofInt a3))] [] s _
  refine lf_seg 2 (pc' := 2) (lv' := [(0, .ref 95), (1, .int (Int32.ofInt a1)), (2, .int (Int32.ofInt a2)), (3, .int (Int32.ofInt a3))]) (st' := [.int (Int32.ofInt a1), .ref 95]) rfl ?_
  refine lf_callZ 5 rfl rfl rfl rfl (gm_185 h) (fun z22 s21 h => ?_)
  refine lf_ifz_eq 56 8 rfl rfl rfl (fun c => ?_) (fun c => ?_)
  · have h := h.1 c
    refine lf_seg 1 (pc' := 57) (lv' := [(0, .ref 95), (1, .int (Int32.ofInt a1)), (2, .int (Int32.ofInt a2)), (3, .int (Int32.ofInt a3))]) (st' := [.int (Int32.ofInt (-1))]) rfl ?_
    exact lf_retI rfl rfl h
  · have h := h.2 c
    refine lf_seg 2 (pc' := 10) (lv' := [(0, .ref 95), (1, .int (Int32.ofInt a1)), (2, .int (Int32.ofInt a2)), (3, .int (Int32.ofInt a3))]) (st' := [.int (Int32.ofInt a2), .ref 95]) rfl ?_
    refine lf_callZ 13 rfl rfl rfl rfl (gm_185 h) (fun z24 s23 h => ?_)
    refine lf_ifz_eq 56 16 rfl rfl rfl (fun c => ?_) (fun c => ?_)
    · have h := h.1 c
      refine lf_seg 1 (pc' := 57) (lv' := [(0, .ref 95), (1, .int (Int32.ofInt a1)), (2, .int (Int32.ofInt a2)), (3, .int (Int32.ofInt a3))]) (st' := [.int (Int32.ofInt (-1))]) rfl ?_
      exact lf_retI rfl rfl h
    · have h := h.2 c
      refine lf_seg 2 (pc' := 18) (lv' := [(0, .ref 95), (1, .int (Int32.ofInt a1)), (2, .int (Int32.ofInt a2)), (3, .int (Int32.ofInt a3))]) (st' := [.int (Int32.ofInt a2), .int (Int32.ofInt a1)]) rfl ?_
      obtain ⟨o25, h⟩ := h
      obtain ⟨o26, h⟩ := h
      refine lf_icmp_eq 56 21 rfl rfl rfl o25 o26 (fun c => ?_) (fun c => ?_)
      · have h := h.1 c
        refine lf_seg 1 (pc' := 57) (lv' := [(0, .ref 95), (1, .int (Int32.ofInt a1)), (2, .int (Int32.ofInt a2)), (3, .int (Int32.ofInt a3))]) (st' := [.int (Int32.ofInt (-1))]) rfl ?_
        exact lf_retI rfl rfl h
      · have h := h.2 c
        refine lf_seg 2 (pc' := 23) (lv' := [(0, .ref 95), (1, .int (Int32.ofInt a1)), (2, .int (Int32.ofInt a2)), (3, .int (Int32.ofInt a3))]) (st' := [.int (Int32.ofInt a1), .ref 95]) rfl ?_
        refine lf_callI 26 rfl rfl rfl rfl (gm_186 h) (fun r28 s27 h => ?_)
        refine lf_callI 29 rfl rfl rfl rfl (gm_188 h) (fun r30 s29 h => ?_)
        refine lf_seg 1 (pc' := 30) (lv' := [(0, .ref 95), (1, .int (Int32.ofInt a1)), (2, .int (Int32.ofInt a2)), (3, .int (Int32.ofInt a3))]) (st' := [.int (Int32.ofInt 4), .int (Int32.ofInt r30)]) rfl ?_
        obtain ⟨o31, h⟩ := h
        refine lf_icmp_eq 56 33 rfl rfl rfl o31 ⟨by decide, by decide⟩ (fun c => ?_) (fun c => ?_)
        · have h := h.1 c
          refine lf_seg 1 (pc' := 57) (lv' := [(0, .ref 95), (1, .int (Int32.ofInt a1)), (2, .int (Int32.ofInt a2)), (3, .int (Int32.ofInt a3))]) (st' := [.int (Int32.ofInt (-1))]) rfl ?_
          exact lf_retI rfl rfl h
        · have h := h.2 c
          refine lf_seg 2 (pc' := 35) (lv' := [(0, .ref 95), (1, .int (Int32.ofInt a1)), (2, .int (Int32.ofInt a2)), (3, .int (Int32.ofInt a3))]) (st' := [.int (Int32.ofInt a2), .ref 95]) rfl ?_
          refine lf_callI 38 rfl rfl rfl rfl (gm_186 h) (fun r33 s32 h => ?_)
          refine lf_callI 41 rfl rfl rfl rfl (gm_188 h) (fun r35 s34 h => ?_)
          refine lf_seg 1 (pc' := 42) (lv' := [(0, .ref 95), (1, .int (Int32.ofInt a1)), (2, .int (Int32.ofInt a2)), (3, .int (Int32.ofInt a3))]) (st' := [.int (Int32.ofInt 4), .int (Int32.ofInt r35)]) rfl ?_
          obtain ⟨o36, h⟩ := h
          refine lf_icmp_eq 56 45 rfl rfl rfl o36 ⟨by decide, by decide⟩ (fun c => ?_) (fun c => ?_)
          · have h := h.1 c
            refine lf_seg 1 (pc' := 57) (lv' := [(0, .ref 95), (1, .int (Int32.ofInt a1)), (2, .int (Int32.ofInt a2)), (3, .int (Int32.ofInt a3))]) (st' := [.int (Int32.ofInt (-1))]) rfl ?_
            exact lf_retI rfl rfl h
          · have h := h.2 c
            refine lf_seg 3 (pc' := 50) (lv' := [(0, .ref 95), (1, .int (Int32.ofInt a1)), (2, .int (Int32.ofInt a2)), (3, .int (Int32.ofInt a3))]) (st' := [.int (Int32.ofInt 1), .ref 96]) rfl ?_
            refine lf_iald 51 1538 rfl rfl rfl rfl rfl rfl ⟨by decide, by decide⟩ ?_
            refine lf_bipush 53 16 rfl rfl (by decide) (by decide) ?_
            obtain ⟨o37, h⟩ := h
            refine lf_icmp_ne 58 56 rfl rfl rfl o37 ⟨by decide, by decide⟩ (fun c => ?_) (fun c => ?_)
            · have h := h.1 c
              refine lf_bipush 60 50 rfl rfl (by decide) (by decide) ?_
              refine lf_seg 4 (pc' := 66) (lv' := [(0, .ref 95), (1, .int (Int32.ofInt a1)), (2, .int (Int32.ofInt a2)), (3, .int (Int32.ofInt a3))]) (st' := [.int (Int32.ofInt 1), .ref 96, .int (Int32.ofInt 4), .int (Int32.ofInt 50)]) rfl ?_
              refine lf_iald 67 1538 rfl rfl rfl rfl rfl rfl ⟨by decide, by decide⟩ ?_
              refine lf_imul 68 rfl rfl ?_
              refine lf_iadd 69 rfl rfl ?_
              refine lf_seg 5 (pc' := 78) (lv' := [(4, .int (Int32.ofInt (50 + (4 * (s34.1 96 1))))), (0, .ref 95), (1, .int (Int32.ofInt a1)), (2, .int (Int32.ofInt a2)), (3, .int (Int32.ofInt a3))]) (st' := [.int (Int32.ofInt a1), .int (Int32.ofInt (50 + (4 * (s34.1 96 1)))), .ref 96]) rfl ?_
              obtain ⟨o38, h⟩ := h
              refine lf_iast 79 1538 rfl rfl rfl rfl rfl rfl o38 ?_
              refine lf_as (lf_up s34.1 96 (50 + (4 * (s34.1 96 1))) a1, s34.2.1, s34.2.2) rfl ?_
              refine lf_seg 4 (pc' := 86) (lv' := [(4, .int (Int32.ofInt (50 + (4 * (s34.1 96 1))))), (0, .ref 95), (1, .int (Int32.ofInt a1)), (2, .int (Int32.ofInt a2)), (3, .int (Int32.ofInt a3))]) (st' := [.int (Int32.ofInt 1), .int (Int32.ofInt (50 + (4 * (s34.1 96 1)))), .ref 96]) rfl ?_
              refine lf_iadd 87 rfl rfl ?_
              refine lf_seg 1 (pc' := 88) (lv' := [(4, .int (Int32.ofInt (50 + (4 * (s34.1 96 1))))), (0, .ref 95), (1, .int (Int32.ofInt a1)), (2, .int (Int32.ofInt a2)), (3, .int (Int32.ofInt a3))]) (st' := [.int (Int32.ofInt a2), .int (Int32.ofInt ((50 + (4 * (s34.1 96 1))) + 1)), .ref 96]) rfl ?_
              obtain ⟨o39, h⟩ := h
              refine lf_iast 89 1538 rfl rfl rfl rfl rfl rfl o39 ?_
              refine lf_as (lf_up (lf_up s34.1 96 (50 + (4 * (s34.1 96 1))) a1) 96 ((50 + (4 * (s34.1 96 1))) + 1) a2, s34.2.1, s34.2.2) rfl ?_
              refine lf_seg 4 (pc' := 96) (lv' := [(4, .int (Int32.ofInt (50 + (4 * (s34.1 96 1))))), (0, .ref 95), (1, .int (Int32.ofInt a1)), (2, .int (Int32.ofInt a2)), (3, .int (Int32.ofInt a3))]) (st' := [.int (Int32.ofInt 2), .int (Int32.ofInt (50 + (4 * (s34.1 96 1)))), .ref 96]) rfl ?_
              refine lf_iadd 97 rfl rfl ?_
              refine lf_seg 1 (pc' := 98) (lv' := [(4, .int (Int32.ofInt (50 + (4 * (s34.1 96 1))))), (0, .ref 95), (1, .int (Int32.ofInt a1)), (2, .int (Int32.ofInt a2)), (3, .int (Int32.ofInt a3))]) (st' := [.int (Int32.ofInt a3), .int (Int32.ofInt ((50 + (4 * (s34.1 96 1))) + 2)), .ref 96]) rfl ?_
              obtain ⟨o40, h⟩ := h
              refine lf_if_eq 105 101 rfl rfl rfl o40 (fun c => ?_) (fun c => ?_)
              · have h := h.1 c
                refine lf_seg 1 (pc' := 106) (lv' := [(4, .int (Int32.ofInt (50 + (4 * (s34.1 96 1))))), (0, .ref 95), (1, .int (Int32.ofInt a1)), (2, .int (Int32.ofInt a2)), (3, .int (Int32.ofInt a3))]) (st' := [.int (Int32.ofInt 0), .int (Int32.ofInt ((50 + (4 * (s34.1 96 1))) + 2)), .ref 96]) rfl ?_
                refine lf_sub (l := [(0, .ref 95), (4, .int (Int32.ofInt (50 + (4 * (s34.1 96 1)))))]) (lf_sb1 rfl (lf_sb1 rfl lf_sb0)) ?_
                exact gm_184_p106 h
              · have h := h.2 c
                refine lf_seg 2 (pc' := 106) (lv' := [(4, .int (Int32.ofInt (50 + (4 * (s34.1 96 1))))), (0, .ref 95), (1, .int (Int32.ofInt a1)), (2, .int (Int32.ofInt a2)), (3, .int (Int32.ofInt a3))]) (st' := [.int (Int32.ofInt 1), .int (Int32.ofInt ((50 + (4 * (s34.1 96 1))) + 2)), .ref 96]) rfl ?_
                refine lf_sub (l := [(0, .ref 95), (4, .int (Int32.ofInt (50 + (4 * (s34.1 96 1)))))]) (lf_sb1 rfl (lf_sb1 rfl lf_sb0)) ?_
                exact gm_184_p106 h
            · have h := h.2 c
              refine lf_seg 1 (pc' := 57) (lv' := [(0, .ref 95), (1, .int (Int32.ofInt a1)), (2, .int (Int32.ofInt a2)), (3, .int (Int32.ofInt a3))]) (st' := [.int (Int32.ofInt (-1))]) rfl ?_
              exact lf_retI rfl rfl h
-- fm_24 Land.addPerson 1 i i i i
def fm_24 (a1 : Int) (a2 : Int) (a3 : Int) (a4 : Int) (Q : Int → lf_Z → Prop) (s : lf_Z) : Prop := lf_R (s.1 1 2) ∧ ((s.1 1 2 < 6 → ((0 ≤ s.1 1 2 ∧ s.1 1 2 < 6) ∧ ((a2 = 0 ∨ a2 = 1) ∧ ((a3 = 0 ∨ a3 = 1) ∧ (Q (((s.1 1 2) + 1) - 1) (lf_up (lf_up (lf_up (lf_up (lf_up s.1 7 (s.1 1 2) a1) 8 (s.1 1 2) a2) 9 (s.1 1 2) a3) 10 (s.1 1 2) a4) 1 2 ((s.1 1 2) + 1), s.2.1, s.2.2)))))) ∧ (¬ (s.1 1 2 < 6) → (Q (-1) s)))
set_option maxRecDepth 100000 in
theorem gm_24 {L : Nat} {xs : Nat → Int32} {d : Nat} {a1 : Int} {a2 : Int} {a3 : Int} {a4 : Int} {Q : Int → lf_Z → Prop} {s : lf_Z} (h : fm_24 a1 a2 a3 a4 Q s) : lf_M (px_ro L xs) (d + 1) 24 [.ref 1, .int (Int32.ofInt a1), .int (Int32.ofInt a2), .int (Int32.ofInt a3), .int (Int32.ofInt a4)] s (lf_qi Q) := by
  unfold fm_24 at h
  show lf_E (px_ro L xs) (d + 1) 24 0 [(0, .ref 1), (1, .int (Int32.ofInt a1)), (2, .int (Int32.ofInt a2)), (3, .int (Int32.ofInt a3)), (4, .int (Int32.ofInt a4))] [] s _
  refine lf_seg 1 (pc' := 1) (lv' := [(0, .ref 1), (1, .int (Int32.ofInt a1)), (2, .int (Int32.ofInt a2)), (3, .int (Int32.ofInt a3)), (4, .int (Int32.ofInt a4))]) (st' := [.ref 1]) rfl ?_
  refine lf_getI 4 2 rfl rfl rfl rfl rfl rfl rfl ?_
  refine lf_bipush 6 6 rfl rfl (by decide) (by decide) ?_
  obtain ⟨o21, h⟩ := h
  refine lf_icmp_lt 11 9 rfl rfl rfl o21 ⟨by decide, by decide⟩ (fun c => ?_) (fun c => ?_)
  · have h := h.1 c
    refine lf_seg 3 (pc' := 16) (lv' := [(0, .ref 1), (1, .int (Int32.ofInt a1)), (2, .int (Int32.ofInt a2)), (3, .int (Int32.ofInt a3)), (4, .int (Int32.ofInt a4))]) (st' := [.ref 1, .ref 7]) rfl ?_
    refine lf_getI 19 2 rfl rfl rfl rfl rfl rfl rfl ?_
    refine lf_seg 1 (pc' := 20) (lv' := [(0, .ref 1), (1, .int (Int32.ofInt a1)), (2, .int (Int32.ofInt a2)), (3, .int (Int32.ofInt a3)), (4, .int (Int32.ofInt a4))]) (st' := [.int (Int32.ofInt a1), .int (Int32.ofInt (s.1 1 2)), .ref 7]) rfl ?_
    obtain ⟨o22, h⟩ := h
    refine lf_iast 21 6 rfl rfl rfl rfl rfl rfl o22 ?_
    refine lf_as (lf_up s.1 7 (s.1 1 2) a1, s.2.1, s.2.2) rfl ?_
    refine lf_seg 3 (pc' := 26) (lv' := [(0, .ref 1), (1, .int (Int32.ofInt a1)), (2, .int (Int32.ofInt a2)), (3, .int (Int32.ofInt a3)), (4, .int (Int32.ofInt a4))]) (st' := [.ref 1, .ref 8]) rfl ?_
    refine lf_getI 29 2 rfl rfl rfl rfl rfl rfl rfl ?_
    refine lf_seg 1 (pc' := 30) (lv' := [(0, .ref 1), (1, .int (Int32.ofInt a1)), (2, .int (Int32.ofInt a2)), (3, .int (Int32.ofInt a3)), (4, .int (Int32.ofInt a4))]) (st' := [.int (Int32.ofInt a2), .int (Int32.ofInt (s.1 1 2)), .ref 8]) rfl ?_
    obtain ⟨o23, h⟩ := h
    refine lf_zast 31 6 rfl rfl rfl rfl rfl rfl o22 o23 ?_
    refine lf_as (lf_up (lf_up s.1 7 (s.1 1 2) a1) 8 (s.1 1 2) a2, s.2.1, s.2.2) rfl ?_
    refine lf_seg 3 (pc' := 36) (lv' := [(0, .ref 1), (1, .int (Int32.ofInt a1)), (2, .int (Int32.ofInt a2)), (3, .int (Int32.ofInt a3)), (4, .int (Int32.ofInt a4))]) (st' := [.ref 1, .ref 9]) rfl ?_
    refine lf_getI 39 2 rfl rfl rfl rfl rfl rfl rfl ?_
    refine lf_seg 1 (pc' := 40) (lv' := [(0, .ref 1), (1, .int (Int32.ofInt a1)), (2, .int (Int32.ofInt a2)), (3, .int (Int32.ofInt a3)), (4, .int (Int32.ofInt a4))]) (st' := [.int (Int32.ofInt a3), .int (Int32.ofInt (s.1 1 2)), .ref 9]) rfl ?_
    obtain ⟨o24, h⟩ := h
    refine lf_zast 41 6 rfl rfl rfl rfl rfl rfl o22 o24 ?_
    refine lf_as (lf_up (lf_up (lf_up s.1 7 (s.1 1 2) a1) 8 (s.1 1 2) a2) 9 (s.1 1 2) a3, s.2.1, s.2.2) rfl ?_
    refine lf_seg 3 (pc' := 46) (lv' := [(0, .ref 1), (1, .int (Int32.ofInt a1)), (2, .int (Int32.ofInt a2)), (3, .int (Int32.ofInt a3)), (4, .int (Int32.ofInt a4))]) (st' := [.ref 1, .ref 10]) rfl ?_
    refine lf_getI 49 2 rfl rfl rfl rfl rfl rfl rfl ?_
    refine lf_seg 1 (pc' := 51) (lv' := [(0, .ref 1), (1, .int (Int32.ofInt a1)), (2, .int (Int32.ofInt a2)), (3, .int (Int32.ofInt a3)), (4, .int (Int32.ofInt a4))]) (st' := [.int (Int32.ofInt a4), .int (Int32.ofInt (s.1 1 2)), .ref 10]) rfl ?_
    refine lf_iast 52 6 rfl rfl rfl rfl rfl rfl o22 ?_
    refine lf_as (lf_up (lf_up (lf_up (lf_up s.1 7 (s.1 1 2) a1) 8 (s.1 1 2) a2) 9 (s.1 1 2) a3) 10 (s.1 1 2) a4, s.2.1, s.2.2) rfl ?_
    refine lf_seg 2 (pc' := 54) (lv' := [(0, .ref 1), (1, .int (Int32.ofInt a1)), (2, .int (Int32.ofInt a2)), (3, .int (Int32.ofInt a3)), (4, .int (Int32.ofInt a4))]) (st' := [.ref 1, .ref 1]) rfl ?_
    refine lf_getI 57 2 rfl rfl rfl rfl rfl rfl rfl ?_
    refine lf_seg 1 (pc' := 58) (lv' := [(0, .ref 1), (1, .int (Int32.ofInt a1)), (2, .int (Int32.ofInt a2)), (3, .int (Int32.ofInt a3)), (4, .int (Int32.ofInt a4))]) (st' := [.int (Int32.ofInt 1), .int (Int32.ofInt (s.1 1 2)), .ref 1]) rfl ?_
    refine lf_iadd 59 rfl rfl ?_
    refine lf_putI 62 2 rfl rfl rfl rfl rfl rfl rfl rfl ?_
    refine lf_as (lf_up (lf_up (lf_up (lf_up (lf_up s.1 7 (s.1 1 2) a1) 8 (s.1 1 2) a2) 9 (s.1 1 2) a3) 10 (s.1 1 2) a4) 1 2 ((s.1 1 2) + 1), s.2.1, s.2.2) rfl ?_
    refine lf_seg 1 (pc' := 63) (lv' := [(0, .ref 1), (1, .int (Int32.ofInt a1)), (2, .int (Int32.ofInt a2)), (3, .int (Int32.ofInt a3)), (4, .int (Int32.ofInt a4))]) (st' := [.ref 1]) rfl ?_
    refine lf_getI 66 2 rfl rfl rfl rfl rfl rfl rfl ?_
    refine lf_seg 1 (pc' := 67) (lv' := [(0, .ref 1), (1, .int (Int32.ofInt a1)), (2, .int (Int32.ofInt a2)), (3, .int (Int32.ofInt a3)), (4, .int (Int32.ofInt a4))]) (st' := [.int (Int32.ofInt 1), .int (Int32.ofInt ((s.1 1 2) + 1))]) rfl ?_
    refine lf_isub 68 rfl rfl ?_
    exact lf_retI rfl rfl h
  · have h := h.2 c
    refine lf_seg 1 (pc' := 10) (lv' := [(0, .ref 1), (1, .int (Int32.ofInt a1)), (2, .int (Int32.ofInt a2)), (3, .int (Int32.ofInt a3)), (4, .int (Int32.ofInt a4))]) (st' := [.int (Int32.ofInt (-1))]) rfl ?_
    exact lf_retI rfl rfl h
-- fm_23 ElevenBullocks.person 0 i i i i
def fm_23 (a1 : Int) (a2 : Int) (a3 : Int) (a4 : Int) (Q : Int → lf_Z → Prop) (s : lf_Z) : Prop := fm_15 a1 0 9 (fun z22 s21 => ((z22 = false → (Q (-1) s21)) ∧ (z22 = true → (fm_18 a4 (fun z24 s23 => ((z24 = true → (fm_24 a1 a2 a3 a4 (fun r26 s25 => (lf_R r26 ∧ ((r26 = (-1) → (Q r26 s25)) ∧ (¬ (r26 = (-1)) → ((0 ≤ r26 ∧ r26 < 6) ∧ (Q r26 (lf_up (lf_up s25.1 19 r26 a4) 20 r26 (-1), s25.2.1, s25.2.2))))))) s23)) ∧ (z24 = false → (Q (-1) s23)))) s21)))) s
set_option maxRecDepth 100000 in
theorem gm_23 {L : Nat} {xs : Nat → Int32} {d : Nat} {a1 : Int} {a2 : Int} {a3 : Int} {a4 : Int} {Q : Int → lf_Z → Prop} {s : lf_Z} (h : fm_23 a1 a2 a3 a4 Q s) : lf_M (px_ro L xs) (d + 2) 23 [.ref 0, .int (Int32.ofInt a1), .int (Int32.ofInt a2), .int (Int32.ofInt a3), .int (Int32.ofInt a4)] s (lf_qi Q) := by
  unfold fm_23 at h
  show lf_E (px_ro L xs) (d + 2) 23 0 [(0, .ref 0), (1, .int (Int32.ofInt a1)), (2, .int (Int32.ofInt a2)), (3, .int (Int32.ofInt a3)), (4, .int (Int32.ofInt a4))] [] s _
  refine lf_seg 2 (pc' := 2) (lv' := [(0, .ref 0), (1, .int (Int32.ofInt a1)), (2, .int (Int32.ofInt a2)), (3, .int (Int32.ofInt a3)), (4, .int (Int32.ofInt a4))]) (st' := [.int (Int32.ofInt 0), .int (Int32.ofInt a1)]) rfl ?_
  refine lf_bipush 4 9 rfl rfl (by decide) (by decide) ?_
  refine lf_callZ 7 rfl rfl rfl rfl (gm_15 h) (fun z22 s21 h => ?_)
  refine lf_ifz_eq 22 10 rfl rfl rfl (fun c => ?_) (fun c => ?_)
  · have h := h.1 c
    refine lf_seg 1 (pc' := 23) (lv' := [(0, .ref 0), (1, .int (Int32.ofInt a1)), (2, .int (Int32.ofInt a2)), (3, .int (Int32.ofInt a3)), (4, .int (Int32.ofInt a4))]) (st' := [.int (Int32.ofInt (-1))]) rfl ?_
    exact lf_retI rfl rfl h
  · have h := h.2 c
    refine lf_seg 3 (pc' := 16) (lv' := [(0, .ref 0), (1, .int (Int32.ofInt a1)), (2, .int (Int32.ofInt a2)), (3, .int (Int32.ofInt a3)), (4, .int (Int32.ofInt a4))]) (st' := [.int (Int32.ofInt a4), .ref 1]) rfl ?_
    refine lf_callZ 19 rfl rfl rfl rfl (gm_18 h) (fun z24 s23 h => ?_)
    refine lf_ifz_ne 24 22 rfl rfl rfl (fun c => ?_) (fun c => ?_)
    · have h := h.1 c
      refine lf_seg 6 (pc' := 33) (lv' := [(0, .ref 0), (1, .int (Int32.ofInt a1)), (2, .int (Int32.ofInt a2)), (3, .int (Int32.ofInt a3)), (4, .int (Int32.ofInt a4))]) (st' := [.int (Int32.ofInt a4), .int (Int32.ofInt a3), .int (Int32.ofInt a2), .int (Int32.ofInt a1), .ref 1]) rfl ?_
      refine lf_callI 36 rfl rfl rfl rfl (gm_24 h) (fun r26 s25 h => ?_)
      refine lf_seg 3 (pc' := 41) (lv' := [(5, .int (Int32.ofInt r26)), (0, .ref 0), (1, .int (Int32.ofInt a1)), (2, .int (Int32.ofInt a2)), (3, .int (Int32.ofInt a3)), (4, .int (Int32.ofInt a4))]) (st' := [.int (Int32.ofInt (-1)), .int (Int32.ofInt r26)]) rfl ?_
      obtain ⟨o27, h⟩ := h
      refine lf_icmp_eq 67 44 rfl rfl rfl o27 ⟨by decide, by decide⟩ (fun c => ?_) (fun c => ?_)
      · have h := h.1 c
        refine lf_seg 1 (pc' := 69) (lv' := [(5, .int (Int32.ofInt r26)), (0, .ref 0), (1, .int (Int32.ofInt a1)), (2, .int (Int32.ofInt a2)), (3, .int (Int32.ofInt a3)), (4, .int (Int32.ofInt a4))]) (st' := [.int (Int32.ofInt r26)]) rfl ?_
        exact lf_retI rfl rfl h
      · have h := h.2 c
        refine lf_seg 5 (pc' := 55) (lv' := [(5, .int (Int32.ofInt r26)), (0, .ref 0), (1, .int (Int32.ofInt a1)), (2, .int (Int32.ofInt a2)), (3, .int (Int32.ofInt a3)), (4, .int (Int32.ofInt a4))]) (st' := [.int (Int32.ofInt a4), .int (Int32.ofInt r26), .ref 19]) rfl ?_
        obtain ⟨o28, h⟩ := h
        refine lf_iast 56 6 rfl rfl rfl rfl rfl rfl o28 ?_
        refine lf_as (lf_up s25.1 19 r26 a4, s25.2.1, s25.2.2) rfl ?_
        refine lf_seg 5 (pc' := 66) (lv' := [(5, .int (Int32.ofInt r26)), (0, .ref 0), (1, .int (Int32.ofInt a1)), (2, .int (Int32.ofInt a2)), (3, .int (Int32.ofInt a3)), (4, .int (Int32.ofInt a4))]) (st' := [.int (Int32.ofInt (-1)), .int (Int32.ofInt r26), .ref 20]) rfl ?_
        refine lf_iast 67 6 rfl rfl rfl rfl rfl rfl o28 ?_
        refine lf_as (lf_up (lf_up s25.1 19 r26 a4) 20 r26 (-1), s25.2.1, s25.2.2) rfl ?_
        refine lf_seg 1 (pc' := 69) (lv' := [(5, .int (Int32.ofInt r26)), (0, .ref 0), (1, .int (Int32.ofInt a1)), (2, .int (Int32.ofInt a2)), (3, .int (Int32.ofInt a3)), (4, .int (Int32.ofInt a4))]) (st' := [.int (Int32.ofInt r26)]) rfl ?_
        exact lf_retI rfl rfl h
    · have h := h.2 c
      refine lf_seg 1 (pc' := 23) (lv' := [(0, .ref 0), (1, .int (Int32.ofInt a1)), (2, .int (Int32.ofInt a2)), (3, .int (Int32.ofInt a3)), (4, .int (Int32.ofInt a4))]) (st' := [.int (Int32.ofInt (-1))]) rfl ?_
      exact lf_retI rfl rfl h
-- fm_191 Model.set 95 i 0 i
def fm_191 (a1 : Int) (a3 : Int) (Q : lf_Z → Prop) (s : lf_Z) : Prop := (0 ≤ (126 + (6 * a1)) + 0 ∧ (126 + (6 * a1)) + 0 < 1538) ∧ (Q (lf_up s.1 96 ((126 + (6 * a1)) + 0) a3, s.2.1, s.2.2))
set_option maxRecDepth 100000 in
theorem gm_191 {L : Nat} {xs : Nat → Int32} {d : Nat} {a1 : Int} {a3 : Int} {Q : lf_Z → Prop} {s : lf_Z} (h : fm_191 a1 a3 Q s) : lf_M (px_ro L xs) (d + 1) 191 [.ref 95, .int (Int32.ofInt a1), .int (Int32.ofInt 0), .int (Int32.ofInt a3)] s (lf_qv Q) := by
  unfold fm_191 at h
  show lf_E (px_ro L xs) (d + 1) 191 0 [(0, .ref 95), (1, .int (Int32.ofInt a1)), (2, .int (Int32.ofInt 0)), (3, .int (Int32.ofInt a3))] [] s _
  refine lf_seg 2 (pc' := 4) (lv' := [(0, .ref 95), (1, .int (Int32.ofInt a1)), (2, .int (Int32.ofInt 0)), (3, .int (Int32.ofInt a3))]) (st' := [.ref 96]) rfl ?_
  refine lf_bipush 6 126 rfl rfl (by decide) (by decide) ?_
  refine lf_bipush 8 6 rfl rfl (by decide) (by decide) ?_
  refine lf_seg 1 (pc' := 9) (lv' := [(0, .ref 95), (1, .int (Int32.ofInt a1)), (2, .int (Int32.ofInt 0)), (3, .int (Int32.ofInt a3))]) (st' := [.int (Int32.ofInt a1), .int (Int32.ofInt 6), .int (Int32.ofInt 126), .ref 96]) rfl ?_
  refine lf_imul 10 rfl rfl ?_
  refine lf_iadd 11 rfl rfl ?_
  refine lf_seg 1 (pc' := 12) (lv' := [(0, .ref 95), (1, .int (Int32.ofInt a1)), (2, .int (Int32.ofInt 0)), (3, .int (Int32.ofInt a3))]) (st' := [.int (Int32.ofInt 0), .int (Int32.ofInt (126 + (6 * a1))), .ref 96]) rfl ?_
  refine lf_iadd 13 rfl rfl ?_
  refine lf_seg 1 (pc' := 14) (lv' := [(0, .ref 95), (1, .int (Int32.ofInt a1)), (2, .int (Int32.ofInt 0)), (3, .int (Int32.ofInt a3))]) (st' := [.int (Int32.ofInt a3), .int (Int32.ofInt ((126 + (6 * a1)) + 0)), .ref 96]) rfl ?_
  obtain ⟨o21, h⟩ := h
  refine lf_iast 15 1538 rfl rfl rfl rfl rfl rfl o21 ?_
  refine lf_as (lf_up s.1 96 ((126 + (6 * a1)) + 0) a3, s.2.1, s.2.2) rfl ?_
  exact lf_retV rfl rfl h
-- fm_191b Model.set 95 i 1 i
def fm_191b (a1 : Int) (a3 : Int) (Q : lf_Z → Prop) (s : lf_Z) : Prop := (0 ≤ (126 + (6 * a1)) + 1 ∧ (126 + (6 * a1)) + 1 < 1538) ∧ (Q (lf_up s.1 96 ((126 + (6 * a1)) + 1) a3, s.2.1, s.2.2))
set_option maxRecDepth 100000 in
theorem gm_191b {L : Nat} {xs : Nat → Int32} {d : Nat} {a1 : Int} {a3 : Int} {Q : lf_Z → Prop} {s : lf_Z} (h : fm_191b a1 a3 Q s) : lf_M (px_ro L xs) (d + 1) 191 [.ref 95, .int (Int32.ofInt a1), .int (Int32.ofInt 1), .int (Int32.ofInt a3)] s (lf_qv Q) := by
  unfold fm_191b at h
  show lf_E (px_ro L xs) (d + 1) 191 0 [(0, .ref 95), (1, .int (Int32.ofInt a1)), (2, .int (Int32.ofInt 1)), (3, .int (Int32.ofInt a3))] [] s _
  refine lf_seg 2 (pc' := 4) (lv' := [(0, .ref 95), (1, .int (Int32.ofInt a1)), (2, .int (Int32.ofInt 1)), (3, .int (Int32.ofInt a3))]) (st' := [.ref 96]) rfl ?_
  refine lf_bipush 6 126 rfl rfl (by decide) (by decide) ?_
  refine lf_bipush 8 6 rfl rfl (by decide) (by decide) ?_
  refine lf_seg 1 (pc' := 9) (lv' := [(0, .ref 95), (1, .int (Int32.ofInt a1)), (2, .int (Int32.ofInt 1)), (3, .int (Int32.ofInt a3))]) (st' := [.int (Int32.ofInt a1), .int (Int32.ofInt 6), .int (Int32.ofInt 126), .ref 96]) rfl ?_
  refine lf_imul 10 rfl rfl ?_
  refine lf_iadd 11 rfl rfl ?_
  refine lf_seg 1 (pc' := 12) (lv' := [(0, .ref 95), (1, .int (Int32.ofInt a1)), (2, .int (Int32.ofInt 1)), (3, .int (Int32.ofInt a3))]) (st' := [.int (Int32.ofInt 1), .int (Int32.ofInt (126 + (6 * a1))), .ref 96]) rfl ?_
  refine lf_iadd 13 rfl rfl ?_
  refine lf_seg 1 (pc' := 14) (lv' := [(0, .ref 95), (1, .int (Int32.ofInt a1)), (2, .int (Int32.ofInt 1)), (3, .int (Int32.ofInt a3))]) (st' := [.int (Int32.ofInt a3), .int (Int32.ofInt ((126 + (6 * a1)) + 1)), .ref 96]) rfl ?_
  obtain ⟨o21, h⟩ := h
  refine lf_iast 15 1538 rfl rfl rfl rfl rfl rfl o21 ?_
  refine lf_as (lf_up s.1 96 ((126 + (6 * a1)) + 1) a3, s.2.1, s.2.2) rfl ?_
  exact lf_retV rfl rfl h
