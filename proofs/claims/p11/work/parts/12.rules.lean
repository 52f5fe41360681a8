/-! RULES OF THE PURE MACHINE: px_E: method k, from a state on, comes to an answer and a heap -/
def px_E (ro : px_RO) (d k : Nat) (σ : px_S) (r : Option Value) (hF : px_H) : Prop := ∃ n, px_ev ro n d k σ = some (r, hF)
/-- method j, called -/
def px_M (ro : px_RO) (d j : Nat) (as : List Value) (h : px_H) (r : Option Value) (hF : px_H) : Prop := px_E ro d j (0, lv_args 0 as, [], h) r hF
theorem px_ev_mono {ro : px_RO} : ∀ (n d k : Nat) (σ : px_S) (r : Option Value) (hF : px_H), px_ev ro n d k σ = some (r, hF) → ∀ n' d', n ≤ n' → d ≤ d' → px_ev ro n' d' k σ = some (r, hF) := by
  intro n
  induction n with
  | zero => intro d k σ r hF h; cases h
  | succ n ih =>
    intro d k σ r hF h n' d' hn hd
    obtain ⟨pc, lv, st, hp⟩ := σ
    cases d with
    | zero => cases h
    | succ d =>
      obtain ⟨n', rfl⟩ : ∃ z, n' = z + 1 := ⟨n' - 1, by omega⟩
      obtain ⟨d', rfl⟩ : ∃ z, d' = z + 1 := ⟨d' - 1, by omega⟩
      unfold px_ev at h ⊢
      cases hf : px_fetch k pc with
      | none => rw [hf] at h; cases h
      | some q =>
        obtain ⟨ins, len⟩ := q
        rw [hf] at h
        dsimp only at h ⊢
        cases hr : px_ret k ins st with
        | some r' => rw [hr] at h; exact h
        | none =>
          rw [hr] at h
          dsimp only at h ⊢
          cases hi : px_inv k ins st hp with
          | some q =>
            obtain ⟨j, as, rest⟩ := q
            rw [hi] at h
            dsimp only at h ⊢
            cases hq : (Nat.ble (rest.map fun v => v.category).sum 8 && Nat.ble (lg_sl as).length (px_maxL j)) with
            | false => rw [hq] at h; cases h
            | true =>
              rw [hq] at h
              dsimp only [cond_true] at h ⊢
              cases hv : px_ev ro n d j (0, lv_args 0 as, [], hp) with
              | none => rw [hv] at h; cases h
              | some q =>
                obtain ⟨v, h1⟩ := q
                rw [hv] at h
                rw [ih _ _ _ _ _ hv n' d' (by omega) (by omega)]
                exact ih _ _ _ _ _ h n' (d' + 1) (by omega) (by omega)
          | none =>
            rw [hi] at h
            dsimp only at h ⊢
            cases ho : px_op ro k ins len pc lv st hp with
            | none => rw [ho] at h; cases h
            | some σ =>
              rw [ho] at h
              exact ih _ _ _ _ _ h n' (d' + 1) (by omega) (by omega)
theorem px_E.deep {ro : px_RO} {d d' k : Nat} {σ : px_S} {r : Option Value} {hF : px_H} (h : px_E ro d k σ r hF) (hd : d ≤ d') : px_E ro d' k σ r hF := by
  obtain ⟨n, h⟩ := h
  exact ⟨n, px_ev_mono _ _ _ _ _ _ h n d' (Nat.le_refl _) hd⟩
theorem px_M.deep {ro : px_RO} {d d' k : Nat} {as : List Value} {h : px_H} {r : Option Value} {hF : px_H} (hM : px_M ro d k as h r hF) (hd : d ≤ d') : px_M ro d' k as h r hF := px_E.deep hM hd
/-- one instruction that is no call of a method with code and no return -/
def px_one (ro : px_RO) (k : Nat) (σ : px_S) : Option px_S := match px_fetch k σ.1 with
  | none => none
  | some (ins, len) => match px_ret k ins σ.2.2.1 with
    | some _ => none
    | none => match px_inv k ins σ.2.2.1 σ.2.2.2 with
      | some _ => none
      | none => px_op ro k ins len σ.1 σ.2.1 σ.2.2.1 σ.2.2.2
def px_seg (ro : px_RO) (k : Nat) : Nat → px_S → Option px_S
  | 0, σ => some σ
  | n + 1, σ => match px_one ro k σ with
    | some σ' => px_seg ro k n σ'
    | none => none
theorem px_E_one {ro : px_RO} {d k : Nat} {σ σ' : px_S} {r : Option Value} {hF : px_H} (h1 : px_one ro k σ = some σ') (h : px_E ro (d + 1) k σ' r hF) : px_E ro (d + 1) k σ r hF := by
  obtain ⟨n, h⟩ := h
  refine ⟨n + 1, ?_⟩
  obtain ⟨pc, lv, st, hp⟩ := σ
  unfold px_one at h1
  dsimp only at h1
  unfold px_ev
  cases hf : px_fetch k pc with
  | none => rw [hf] at h1; cases h1
  | some q =>
    obtain ⟨ins, len⟩ := q
    rw [hf] at h1
    dsimp only at h1 ⊢
    cases hr : px_ret k ins st with
    | some r' => rw [hr] at h1; cases h1
    | none =>
      rw [hr] at h1
      dsimp only at h1 ⊢
      cases hi : px_inv k ins st hp with
      | some q => rw [hi] at h1; cases h1
      | none =>
        rw [hi] at h1
        dsimp only at h1 ⊢
        rw [h1]
        exact h
theorem px_E_seg {ro : px_RO} {d k : Nat} : ∀ (n : Nat) {σ σ' : px_S} {r : Option Value} {hF : px_H}, px_seg ro k n σ = some σ' → px_E ro (d + 1) k σ' r hF → px_E ro (d + 1) k σ r hF := by
  intro n
  induction n with
  | zero => intro σ σ' r hF h1 h; cases h1; exact h
  | succ n ih =>
    intro σ σ' r hF h1 h
    unfold px_seg at h1
    cases ho : px_one ro k σ with
    | none => rw [ho] at h1; cases h1
    | some σ1 =>
      rw [ho] at h1
      exact px_E_one ho (ih h1 h)
theorem px_E_ret {ro : px_RO} {d k pc len : Nat} {lv : px_L} {st : List Value} {h : px_H} {ins : Instr} {r : Option Value} (hf : px_fetch k pc = some (ins, len)) (hr : px_ret k ins st = some r) : px_E ro (d + 1) k (pc, lv, st, h) r h := by
  refine ⟨1, ?_⟩
  unfold px_ev
  rw [hf]
  dsimp only
  rw [hr]
theorem px_E_call {ro : px_RO} {d k pc len j : Nat} {lv : px_L} {st as rest : List Value} {h h1 hF : px_H} {ins : Instr} {v r : Option Value} (hf : px_fetch k pc = some (ins, len)) (hi : px_inv k ins st h = some (j, as, rest)) (hq : (Nat.ble (rest.map fun v => v.category).sum 8 && Nat.ble (lg_sl as).length (px_maxL j)) = true) (hM : px_M ro d j as h v h1) (hk : px_E ro (d + 1) k (pc + 3, lv, v.toList ++ rest, h1) r hF) : px_E ro (d + 1) k (pc, lv, st, h) r hF := by
  obtain ⟨n1, e1⟩ := hM
  obtain ⟨n2, e2⟩ := hk
  refine ⟨n1 + n2 + 1, ?_⟩
  have hr : px_ret k ins st = none := by
    rcases px_inv_st hi with ⟨i, rfl, -⟩ | ⟨i, a, as', rfl, -⟩ | ⟨i, a, as', rfl, -⟩ <;> rfl
  unfold px_ev
  rw [hf]
  dsimp only
  rw [hr]
  dsimp only
  rw [hi]
  dsimp only
  rw [hq]
  dsimp only [cond_true]
  rw [px_ev_mono _ _ _ _ _ _ e1 (n1 + n2) d (by omega) (Nat.le_refl _)]
  exact px_ev_mono _ _ _ _ _ _ e2 (n1 + n2) (d + 1) (by omega) (Nat.le_refl _)
/-- what a comparison asks -/
def px_cP (c : ClassFile.Cond) (x y : Int32) : Prop := match c with
  | .eq => x = y
  | .ne => ¬ x = y
  | .lt => x < y
  | .ge => y ≤ x
  | .gt => y < x
  | .le => x ≤ y
theorem px_br_t {c : ClassFile.Cond} {x y : Int32} {t f : Nat} (h : px_cP c x y) : px_br c x y t f = t := by
  cases c <;> first | exact if_pos h | exact if_neg h
theorem px_br_f {c : ClassFile.Cond} {x y : Int32} {t f : Nat} (h : ¬ px_cP c x y) : px_br c x y t f = f := by
  cases c with
  | ne => exact if_pos (Classical.not_not.mp h)
  | _ => exact if_neg h
theorem px_E_icmp {ro : px_RO} {d k pc t : Nat} {c : ClassFile.Cond} {off : Int} {lv : px_L} {st : List Value} {x y : Int32} {h hF : px_H} {r : Option Value} (hf : px_fetch k pc = some (.if_icmp c off, 3)) (ht : px_tg pc off = some t) (kt : px_cP c x y → px_E ro (d + 1) k (t, lv, st, h) r hF) (kf : ¬ px_cP c x y → px_E ro (d + 1) k (pc + 3, lv, st, h) r hF) : px_E ro (d + 1) k (pc, lv, .int y :: .int x :: st, h) r hF := by
  refine px_E_one (σ' := (px_br c x y t (pc + 3), lv, st, h)) ?_ ?_
  · unfold px_one; dsimp only; rw [hf]; dsimp only [px_ret, px_inv, px_op, px_oIcmp]; rw [ht]
  · by_cases hc : px_cP c x y
    · rw [px_br_t hc]; exact kt hc
    · rw [px_br_f hc]; exact kf hc
theorem px_E_if {ro : px_RO} {d k pc t : Nat} {c : ClassFile.Cond} {off : Int} {lv : px_L} {st : List Value} {x : Int32} {h hF : px_H} {r : Option Value} (hf : px_fetch k pc = some (.ifCond c off, 3)) (ht : px_tg pc off = some t) (kt : px_cP c x 0 → px_E ro (d + 1) k (t, lv, st, h) r hF) (kf : ¬ px_cP c x 0 → px_E ro (d + 1) k (pc + 3, lv, st, h) r hF) : px_E ro (d + 1) k (pc, lv, .int x :: st, h) r hF := by
  refine px_E_one (σ' := (px_br c x 0 t (pc + 3), lv, st, h)) ?_ ?_
  · unfold px_one; dsimp only; rw [hf]; dsimp only [px_ret, px_inv, px_op, px_oIf]; rw [ht]
  · by_cases hc : px_cP c x 0
    · rw [px_br_t hc]; exact kt hc
    · rw [px_br_f hc]; exact kf hc
theorem px_in_nI {j n : Nat} (hj : j < n) (hn : n < 2 ^ 31) : px_in (nI j) n = true := by
  unfold px_in
  exact decide_eq_true (nI_in hj hn)
theorem px_E_iald {ro : px_RO} {d k pc a n j : Nat} {lv : px_L} {st : List Value} {i : Int32} {h hF : px_H} {r : Option Value} (hf : px_fetch k pc = some (.iaload, 1)) (ha : h.1[a]? = some (.inl (0, n))) (hs : Nat.ble px_SC a = false) (hi : i = nI j) (hj : j < n) (hn : n < 2 ^ 31) (kk : px_E ro (d + 1) k (pc + 1, lv, .int (h.2.1 a j) :: st, h) r hF) : px_E ro (d + 1) k (pc, lv, .int i :: .ref a :: st, h) r hF := by
  subst hi
  refine px_E_one (σ' := (pc + 1, lv, .int (h.2.1 a j) :: st, h)) ?_ kk
  unfold px_one; dsimp only; rw [hf]; dsimp only [px_ret, px_inv, px_op, px_oIald]
  rw [hs, ha]
  show cond (px_in (nI j) n) (some (pc + 1, lv, .int (h.2.1 a (nI j).toNatClampNeg) :: st, h)) none = _
  rw [px_in_nI hj hn, nI_clamp (by omega)]
  rfl
theorem px_E_iast {ro : px_RO} {d k pc a n j : Nat} {lv : px_L} {st : List Value} {i x : Int32} {h hF : px_H} {r : Option Value} (hf : px_fetch k pc = some (.iastore, 1)) (ha : h.1[a]? = some (.inl (0, n))) (hs : Nat.blt a px_SC = true) (hi : i = nI j) (hj : j < n) (hn : n < 2 ^ 31) (kk : px_E ro (d + 1) k (pc + 1, lv, st, (h.1, px_up h.2.1 a j x, h.2.2.1, h.2.2.2)) r hF) : px_E ro (d + 1) k (pc, lv, .int x :: .int i :: .ref a :: st, h) r hF := by
  subst hi
  refine px_E_one (σ' := (pc + 1, lv, st, (h.1, px_up h.2.1 a j x, h.2.2.1, h.2.2.2))) ?_ kk
  unfold px_one; dsimp only; rw [hf]; dsimp only [px_ret, px_inv, px_op, px_oIast]
  rw [ha]
  show cond (px_in (nI j) n && Nat.blt a px_SC) (some (pc + 1, lv, st, (h.1, px_up h.2.1 a (nI j).toNatClampNeg x, h.2.2.1, h.2.2.2))) none = _
  rw [px_in_nI hj hn, hs, nI_clamp (by omega)]
  rfl
