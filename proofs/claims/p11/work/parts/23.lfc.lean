section LFC
variable {ro : px_RO} {d k pc : Nat} {lv : px_L} {st : List Value} {s : lf_Z} {Q : Option Value → lf_Z → Prop} {a b i v : Int}
def lf_ne (x : Int) : List (Int × Nat) → Prop
  | [] => True
  | [q] => x ≠ q.1
  | q :: q2 :: r => x ≠ q.1 ∧ lf_ne x (q2 :: r)
theorem lf_ne_cons {x : Int} {q : Int × Nat} : ∀ {r : List (Int × Nat)}, x ≠ q.1 → lf_ne x r → lf_ne x (q :: r)
  | [], h, _ => h
  | _ :: _, h, h2 => ⟨h, h2⟩
theorem lf_lok {pc t : Nat} {x dflt : Int} {P : Nat → Prop} (hd : px_tg pc dflt = some t) : ∀ (ps : List (Int × Int)), ps.all (fun q => decide (0 ≤ (pc : Int) + q.2)) = true → lf_tab P x (ps.map (fun q => (q.1, ((pc : Int) + q.2).toNat))) → (lf_ne x (ps.map (fun q => (q.1, ((pc : Int) + q.2).toNat))) → P t) → ∃ z, px_tg pc (Op.lookupswitch.offset ps dflt x) = some z ∧ P z
  | [], _, _, h => ⟨t, hd, h trivial⟩
  | (w, o) :: ps, ha, ht, h => by
    rw [List.all_cons, Bool.and_eq_true, decide_eq_true_eq] at ha
    rw [Op.lookupswitch.offset_cons]
    by_cases hx : w = x
    · rw [if_pos hx]
      refine ⟨((pc : Int) + o).toNat, ?_, ht.1 hx.symm⟩
      unfold px_tg
      have h2 := ha.1
      dsimp only at h2
      cases hq : (pc : Int) + o with
      | ofNat z => rfl
      | negSucc z => rw [hq] at h2; omega
    · rw [if_neg hx]
      exact lf_lok hd ps ha.2 ht.2 (fun hn => h (lf_ne_cons (fun h9 => hx h9.symm) hn))
theorem lf_lsw (t : Nat) {n : Nat} {dflt : Int} {ps : Array (Int × Int)} (r : List (Int × Nat)) (hf : px_fetch k pc = some (.lookupswitch dflt ps, n)) (hd : px_tg pc dflt = some t) (hs : ((ps.toList.zip (ps.toList.drop 1)).all (fun (a, next) => a.1 < next.1)) = true) (hk : ps.toList.map (fun q => (q.1, ((pc : Int) + q.2).toNat)) = r) (h0 : ps.toList.all (fun q => decide (0 ≤ (pc : Int) + q.2)) = true) (ha : lf_R a) (kd : lf_ne a r → lf_E ro (d + 1) k t lv st s Q) (kt : lf_tab (fun t => lf_E ro (d + 1) k t lv st s Q) a r) : lf_E ro (d + 1) k pc lv (.int (Int32.ofInt a) :: st) s Q := by
  subst hk
  have e : (Int32.ofInt a).toInt = a := Int32.toInt_ofInt_of_le ha.1 (Int.lt_add_one_of_le ha.2)
  obtain ⟨z, h1, h2⟩ := lf_lok (x := a) hd ps.toList h0 kt kd
  refine lf_op (pc' := z) (lv' := lv) (st' := st) (s' := s) ?_ h2
  unfold px_one; dsimp only; rw [hf]; dsimp only [px_ret, px_inv, px_op, px_oLook]
  rw [hs, e, h1]
  rfl
theorem lf_ldcw (pc' : Nat) (n : Int) {j : Nat} {x : Int32} (hf : px_fetch k pc = some (.ldc_w j, 3)) (hp : pc + 3 = pc') (hv : px_int k j = some x) (hx : x = Int32.ofInt n) (kk : lf_E ro (d + 1) k pc' lv (.int (Int32.ofInt n) :: st) s Q) : lf_E ro (d + 1) k pc lv st s Q := by
  subst hp
  subst hx
  exact lf_op (by unfold px_one; dsimp only; rw [hf]; dsimp only [px_ret, px_inv, px_op, px_psh]; rw [hv]; rfl) kk
/-! calls -/
theorem lf_callI (pc' : Nat) {j len : Nat} {ins : Instr} {as rest : List Value} {Q1 : Int → lf_Z → Prop} (hf : px_fetch k pc = some (ins, len)) (hp : pc + 3 = pc') (hi : px_inv k ins st (lf_H s) = some (j, as, rest)) (hq : (Nat.ble (rest.map fun v => v.category).sum 8 && Nat.ble (lg_sl as).length (px_maxL j)) = true) (hM : lf_M ro d j as s (lf_qi Q1)) (kk : ∀ v s1, Q1 v s1 → lf_E ro (d + 1) k pc' lv (.int (Int32.ofInt v) :: rest) s1 Q) : lf_E ro (d + 1) k pc lv st s Q := by
  subst hp
  obtain ⟨r, s1, h1, v, rfl, h2⟩ := hM
  obtain ⟨r2, s2, h3, q⟩ := kk v s1 h2
  exact ⟨r2, s2, px_E_call hf hi hq h1 h3, q⟩
theorem lf_callL (pc' : Nat) {j len : Nat} {ins : Instr} {as rest : List Value} {Q1 : Int → lf_Z → Prop} (hf : px_fetch k pc = some (ins, len)) (hp : pc + 3 = pc') (hi : px_inv k ins st (lf_H s) = some (j, as, rest)) (hq : (Nat.ble (rest.map fun v => v.category).sum 8 && Nat.ble (lg_sl as).length (px_maxL j)) = true) (hM : lf_M ro d j as s (lf_ql Q1)) (kk : ∀ v s1, Q1 v s1 → lf_E ro (d + 1) k pc' lv (.long (Int64.ofInt v) :: rest) s1 Q) : lf_E ro (d + 1) k pc lv st s Q := by
  subst hp
  obtain ⟨r, s1, h1, v, rfl, h2⟩ := hM
  obtain ⟨r2, s2, h3, q⟩ := kk v s1 h2
  exact ⟨r2, s2, px_E_call hf hi hq h1 h3, q⟩
theorem lf_callZ (pc' : Nat) {j len : Nat} {ins : Instr} {as rest : List Value} {Q1 : Bool → lf_Z → Prop} (hf : px_fetch k pc = some (ins, len)) (hp : pc + 3 = pc') (hi : px_inv k ins st (lf_H s) = some (j, as, rest)) (hq : (Nat.ble (rest.map fun v => v.category).sum 8 && Nat.ble (lg_sl as).length (px_maxL j)) = true) (hM : lf_M ro d j as s (lf_qz Q1)) (kk : ∀ z s1, Q1 z s1 → lf_E ro (d + 1) k pc' lv (.int (Int32.ofInt (lf_b z)) :: rest) s1 Q) : lf_E ro (d + 1) k pc lv st s Q := by
  subst hp
  obtain ⟨r, s1, h1, v, rfl, h2⟩ := hM
  obtain ⟨r2, s2, h3, q⟩ := kk v s1 h2
  exact ⟨r2, s2, px_E_call hf hi hq h1 h3, q⟩
theorem lf_callV (pc' : Nat) {j len : Nat} {ins : Instr} {as rest : List Value} {Q1 : lf_Z → Prop} (hf : px_fetch k pc = some (ins, len)) (hp : pc + 3 = pc') (hi : px_inv k ins st (lf_H s) = some (j, as, rest)) (hq : (Nat.ble (rest.map fun v => v.category).sum 8 && Nat.ble (lg_sl as).length (px_maxL j)) = true) (hM : lf_M ro d j as s (lf_qv Q1)) (kk : ∀ s1, Q1 s1 → lf_E ro (d + 1) k pc' lv rest s1 Q) : lf_E ro (d + 1) k pc lv st s Q := by
  subst hp
  obtain ⟨r, s1, h1, rfl, h2⟩ := hM
  obtain ⟨r2, s2, h3, q⟩ := kk s1 h2
  exact ⟨r2, s2, px_E_call hf hi hq h1 h3, q⟩
theorem lf_callR (pc' : Nat) {j len : Nat} {ins : Instr} {as rest : List Value} {Q1 : Option Nat → lf_Z → Prop} (hf : px_fetch k pc = some (ins, len)) (hp : pc + 3 = pc') (hi : px_inv k ins st (lf_H s) = some (j, as, rest)) (hq : (Nat.ble (rest.map fun v => v.category).sum 8 && Nat.ble (lg_sl as).length (px_maxL j)) = true) (hM : lf_M ro d j as s (lf_qr Q1)) (kn : ∀ s1, Q1 none s1 → lf_E ro (d + 1) k pc' lv (.null :: rest) s1 Q) (kk : ∀ t s1, Q1 (some t) s1 → lf_E ro (d + 1) k pc' lv (.ref (35 + 7 * t) :: rest) s1 Q) : lf_E ro (d + 1) k pc lv st s Q := by
  subst hp
  obtain ⟨r, s1, h1, t, rfl, h2⟩ := hM
  cases t with
  | none =>
    obtain ⟨r2, s2, h3, q⟩ := kn s1 h2
    exact ⟨r2, s2, px_E_call hf hi hq h1 h3, q⟩
  | some t =>
    obtain ⟨r2, s2, h3, q⟩ := kk t s1 h2
    exact ⟨r2, s2, px_E_call hf hi hq h1 h3, q⟩
/-! returns -/
theorem lf_retI {Q1 : Int → lf_Z → Prop} (hf : px_fetch k pc = some (.ireturn, 1)) (hr : (px_m k).2.2.2.2.2.1 = some .int) (hq : Q1 v s) : lf_E ro (d + 1) k pc lv [.int (Int32.ofInt v)] s (lf_qi Q1) :=
  ⟨_, s, px_E_ret hf (by unfold px_ret; rw [hr]), v, rfl, hq⟩
theorem lf_retL {Q1 : Int → lf_Z → Prop} (hf : px_fetch k pc = some (.lreturn, 1)) (hr : (px_m k).2.2.2.2.2.1 = some .long) (hq : Q1 v s) : lf_E ro (d + 1) k pc lv [.long (Int64.ofInt v)] s (lf_ql Q1) :=
  ⟨_, s, px_E_ret hf (by unfold px_ret; rw [hr]), v, rfl, hq⟩
theorem lf_retZ {Q1 : Bool → lf_Z → Prop} (z : Bool) (hf : px_fetch k pc = some (.ireturn, 1)) (hr : (px_m k).2.2.2.2.2.1 = some .boolean) (hq : Q1 z s) : lf_E ro (d + 1) k pc lv [.int (Int32.ofInt (lf_b z))] s (lf_qz Q1) := by
  refine ⟨_, s, px_E_ret hf (r := some (.int (Int32.ofInt (lf_b z)))) ?_, z, rfl, hq⟩
  unfold px_ret
  rw [hr]
  dsimp only
  cases z <;> rfl
theorem lf_retZv {Q1 : Bool → lf_Z → Prop} (hf : px_fetch k pc = some (.ireturn, 1)) (hr : (px_m k).2.2.2.2.2.1 = some .boolean) (h01 : v = 0 ∨ v = 1) (h0 : v = 0 → Q1 false s) (h1 : v = 1 → Q1 true s) : lf_E ro (d + 1) k pc lv [.int (Int32.ofInt v)] s (lf_qz Q1) := by
  rcases h01 with h | h
  · have q := h0 h
    subst h
    exact lf_retZ false hf hr q
  · have q := h1 h
    subst h
    exact lf_retZ true hf hr q
theorem lf_retV {Q1 : lf_Z → Prop} (hf : px_fetch k pc = some (.return_, 1)) (hr : (px_m k).2.2.2.2.2.1 = none) (hq : Q1 s) : lf_E ro (d + 1) k pc lv [] s (lf_qv Q1) :=
  ⟨_, s, px_E_ret hf (by unfold px_ret; rw [hr]), rfl, hq⟩
theorem lf_retRn {Q1 : Option Nat → lf_Z → Prop} {o : String} (hf : px_fetch k pc = some (.areturn, 1)) (hr : (px_m k).2.2.2.2.2.1 = some (.object o)) (hq : Q1 none s) : lf_E ro (d + 1) k pc lv [.null] s (lf_qr Q1) :=
  ⟨_, s, px_E_ret hf (by unfold px_ret; rw [hr]), none, rfl, hq⟩
theorem lf_retRs {Q1 : Option Nat → lf_Z → Prop} {t : Nat} {o : String} (hf : px_fetch k pc = some (.areturn, 1)) (hr : (px_m k).2.2.2.2.2.1 = some (.object o)) (hq : Q1 (some t) s) : lf_E ro (d + 1) k pc lv [.ref (35 + 7 * t)] s (lf_qr Q1) :=
  ⟨_, s, px_E_ret hf (by unfold px_ret; rw [hr]), some t, rfl, hq⟩
/-! a row filled -/
def lf_fl (f : Nat → Int → Int) (c : Nat) (n v : Int) : Nat → Int → Int := fun x j => if x = c ∧ 0 ≤ j ∧ j < n then v else f x j
theorem lf_fill {c n : Nat} {m : Int} {Q1 : lf_Z → Prop} (hs : px_shX[c]? = some (.inl (0, n))) (hc : Nat.blt c px_SC = true) (hc2 : Nat.ble px_SC c = false) (hn : (n : Int) = m) (hn2 : Nat.ble n 1000000000 = true) (h : Q1 (lf_fl s.1 c m v, s.2)) : lf_M ro (d + 1) 3 [.ref c, .int (Int32.ofInt v)] s (lf_qv Q1) := by
  subst hn
  have b : n ≤ 1000000000 := px_bleT hn2
  refine ⟨none, (lf_fl s.1 c n v, s.2), ?_, rfl, h⟩
  have e : lf_H (lf_fl s.1 c n v, s.2) = (px_shX, px_fl (lf_H s).2.1 c n (Int32.ofInt v), (lf_H s).2.2.1, (lf_H s).2.2.2) := by
    have e2 : (fun x (j : Nat) => Int32.ofInt (lf_fl s.1 c n v x j)) = px_fl (lf_H s).2.1 c n (Int32.ofInt v) := by
      funext x j
      unfold lf_fl px_fl px_rw
      by_cases hx : x = c
      · subst hx
        rw [show Nat.beq x x = true from Nat.beq_refl x]
        by_cases hj : j < n
        · rw [if_pos ⟨rfl, by omega, by omega⟩]
          show _ = cond (Nat.blt j n) _ _
          rw [px_bltY hj]
          rfl
        · rw [if_neg (fun h9 => hj (by omega))]
          show _ = cond (Nat.blt j n) _ _
          rw [px_bltF (by omega)]
          rfl
      · rw [px_beqN hx, if_neg (fun h9 => hx h9.1)]; rfl
    rw [← e2]
    rfl
  rw [e]
  exact px_fill (d := d) c n hs (by omega) hc hc2
/-! ranges that need no asking -/
theorem lf_Rand : lf_R (lf_and a b) := lf_R_i _
theorem lf_Ror : lf_R (lf_or a b) := lf_R_i _
theorem lf_Rxor : lf_R (lf_xor a b) := lf_R_i _
theorem lf_Rshl : lf_R (lf_shl a b) := lf_R_i _
theorem lf_Rshr : lf_R (lf_shr a b) := lf_R_i _
theorem lf_Rushr : lf_R (lf_ushr a b) := lf_R_i _
theorem lf_Rb {z : Bool} : lf_R (lf_b z) := by cases z <;> exact ⟨by decide, by decide⟩
theorem lf_Rix {m : Int} (h : 0 ≤ i ∧ i < m) (hm : m ≤ 2147483647) : lf_R i := ⟨by omega, by omega⟩
theorem lf_RLR (h : lf_R a) : lf_RL a := ⟨by have := h.1; omega, by have := h.2; omega⟩
theorem lf_RLlor : lf_RL (lf_lor a b) := lf_RL_i _
theorem lf_RLlshl : lf_RL (lf_lshl a b) := lf_RL_i _
theorem lf_RLlshr : lf_RL (lf_lshr a b) := lf_RL_i _
theorem lf_as (s' : lf_Z) (h : s = s') (kk : lf_E ro d k pc lv st s' Q) : lf_E ro d k pc lv st s Q := by
  subst h
  exact kk
end LFC
