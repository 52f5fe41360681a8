/-! RUNS WITH FORETOLD BRANCHES: a comparison of what isn't known goes where the list says, and what that asks is collected -/
def px_cZ (c : ClassFile.Cond) (x y : Int) (b : Bool) : Prop := match c, b with
  | .eq, true => x = y
  | .eq, false => x ≠ y
  | .ne, true => x ≠ y
  | .ne, false => x = y
  | .lt, true => x < y
  | .lt, false => y ≤ x
  | .ge, true => y ≤ x
  | .ge, false => x < y
  | .gt, true => y < x
  | .gt, false => x ≤ y
  | .le, true => x ≤ y
  | .le, false => y < x
theorem px_cZ_t {c : ClassFile.Cond} {x y : Int32} (h : px_cZ c x.toInt y.toInt true) : px_cP c x y := by
  cases c with
  | eq => exact Int32.toInt_inj.mp h
  | ne => exact fun e => h (by rw [e])
  | lt => exact Int32.lt_iff_toInt_lt.mpr h
  | ge => exact Int32.le_iff_toInt_le.mpr h
  | gt => exact Int32.lt_iff_toInt_lt.mpr h
  | le => exact Int32.le_iff_toInt_le.mpr h
theorem px_cZ_f {c : ClassFile.Cond} {x y : Int32} (h : px_cZ c x.toInt y.toInt false) : ¬ px_cP c x y := by
  cases c with
  | eq => exact fun e => h (by rw [show x = y from e])
  | ne => exact fun e => e (Int32.toInt_inj.mp h)
  | lt => exact fun e => by have := Int32.lt_iff_toInt_lt.mp e; have h2 : y.toInt ≤ x.toInt := h; omega
  | ge => exact fun e => by have := Int32.le_iff_toInt_le.mp e; have h2 : x.toInt < y.toInt := h; omega
  | gt => exact fun e => by have := Int32.lt_iff_toInt_lt.mp e; have h2 : x.toInt ≤ y.toInt := h; omega
  | le => exact fun e => by have := Int32.le_iff_toInt_le.mp e; have h2 : y.toInt < x.toInt := h; omega
theorem px_br_z {c : ClassFile.Cond} {x y : Int32} {b : Bool} {t f : Nat} (h : px_cZ c x.toInt y.toInt b) : px_br c x y t f = bif b then t else f := by
  cases b with
  | true => exact px_br_t (px_cZ_t h)
  | false => exact px_br_f (px_cZ_f h)
/-- a step at a comparison, foretold: where to, what it asks -/
def px_fore (ins : Instr) (pc : Nat) (lv : px_L) (st : List Value) (h : px_H) (b : Bool) : Option (px_S × Prop) := match ins, st with
  | .if_icmp c off, .int y :: .int x :: st => match px_tg pc off with
    | some t => some ((bif b then t else pc + 3, lv, st, h), px_cZ c x.toInt y.toInt b)
    | none => none
  | .ifCond c off, .int x :: st => match px_tg pc off with
    | some t => some ((bif b then t else pc + 3, lv, st, h), px_cZ c x.toInt 0 b)
    | none => none
  | _, _ => none
def px_isBr (ins : Instr) : Bool := match ins with
  | .if_icmp _ _ => true
  | .ifCond _ _ => true
  | _ => false
abbrev px_OR : Type := Option Value × px_H × List (Option Bool) × Prop
def px_evO (ro : px_RO) : Nat → Nat → Nat → px_S → List (Option Bool) → Option px_OR
  | 0, _, _, _, _ => none
  | _ + 1, 0, _, _, _ => none
  | n + 1, d + 1, k, (pc, lv, st, h), ds => match px_fetch k pc with
    | none => none
    | some (ins, len) => match px_ret k ins st with
      | some r => some (r, h, ds, True)
      | none => match px_inv k ins st h with
        | some (j, as, rest) => bif Nat.ble (rest.map fun v => v.category).sum 8 && Nat.ble (lg_sl as).length (px_maxL j) then (match px_evO ro n d j (0, lv_args 0 as, [], h) ds with
          | some (v, h1, ds1, C1) => (match px_evO ro n (d + 1) k (pc + 3, lv, v.toList ++ rest, h1) ds1 with
            | some (r, hF, ds2, C2) => some (r, hF, ds2, C1 ∧ C2)
            | none => none)
          | none => none) else none
        | none => bif px_isBr ins then (match ds with
          | some b :: ds => (match px_fore ins pc lv st h b with
            | some (s, C1) => (match px_evO ro n (d + 1) k s ds with
              | some (r, hF, ds2, C2) => some (r, hF, ds2, C1 ∧ C2)
              | none => none)
            | none => none)
          | none :: ds => (match px_op ro k ins len pc lv st h with
            | some s => px_evO ro n (d + 1) k s ds
            | none => none)
          | [] => none) else (match px_op ro k ins len pc lv st h with
            | some s => px_evO ro n (d + 1) k s ds
            | none => none)
theorem px_fore_ok {ro : px_RO} {k len pc : Nat} {ins : Instr} {lv : px_L} {st : List Value} {h : px_H} {b : Bool} {s : px_S} {C : Prop} (hb : px_fore ins pc lv st h b = some (s, C)) (hC : C) : px_op ro k ins len pc lv st h = some s := by
  unfold px_fore at hb
  split at hb
  · split at hb
    · rename_i t ht
      cases hb
      unfold px_op px_oIcmp
      dsimp only
      rw [ht]
      dsimp only
      rw [px_br_z hC]
    · cases hb
  · split at hb
    · rename_i t ht
      cases hb
      unfold px_op px_oIf
      dsimp only
      rw [ht]
      dsimp only
      rw [px_br_z (y := 0) hC]
    · cases hb
  · cases hb
theorem px_evO_ok {ro : px_RO} : ∀ {n d k : Nat} {σ : px_S} {ds : List (Option Bool)} {r : Option Value} {hF : px_H} {ds' : List (Option Bool)} {C : Prop}, px_evO ro n d k σ ds = some (r, hF, ds', C) → C → px_ev ro n d k σ = some (r, hF) := by
  intro n
  induction n with
  | zero => intro d k σ ds r hF ds' C h; cases h
  | succ n ih =>
    intro d k σ ds r hF ds' C h hC
    obtain ⟨pc, lv, st, hp⟩ := σ
    cases d with
    | zero => cases h
    | succ d =>
      unfold px_evO at h
      unfold px_ev
      cases hf : px_fetch k pc with
      | none => rw [hf] at h; cases h
      | some q =>
        obtain ⟨ins, len⟩ := q
        rw [hf] at h
        dsimp only at h ⊢
        cases hr : px_ret k ins st with
        | some r' => rw [hr] at h; cases h; rfl
        | none =>
          rw [hr] at h
          dsimp only at h ⊢
          cases hi : px_inv k ins st hp with
          | some q =>
            obtain ⟨j, as, rest⟩ := q
            rw [hi] at h
            dsimp only at h ⊢
            cases hq : (Nat.ble (rest.map fun v => v.category).sum 8 && Nat.ble (lg_sl as).length (px_maxL j)) with
            | false => rw [hq] at h; cases h
            | true =>
              rw [hq] at h
              dsimp only [cond_true] at h ⊢
              cases hv : px_evO ro n d j (0, lv_args 0 as, [], hp) ds with
              | none => rw [hv] at h; cases h
              | some q =>
                obtain ⟨v, h1, ds1, C1⟩ := q
                rw [hv] at h
                dsimp only at h
                cases hw : px_evO ro n (d + 1) k (pc + 3, lv, v.toList ++ rest, h1) ds1 with
                | none => rw [hw] at h; cases h
                | some q =>
                  obtain ⟨r2, hF2, ds2, C2⟩ := q
                  rw [hw] at h
                  cases h
                  rw [ih hv hC.1]
                  exact ih hw hC.2
          | none =>
            rw [hi] at h
            dsimp only at h ⊢
            cases hb : px_isBr ins with
            | true =>
              rw [hb] at h
              dsimp only [cond_true] at h
              split at h
              · rename_i b ds0
                cases hfo : px_fore ins pc lv st hp b with
                | none => rw [hfo] at h; cases h
                | some q =>
                  obtain ⟨s, C1⟩ := q
                  rw [hfo] at h
                  dsimp only at h
                  cases hw : px_evO ro n (d + 1) k s ds0 with
                  | none => rw [hw] at h; cases h
                  | some q =>
                    obtain ⟨r2, hF2, ds2, C2⟩ := q
                    rw [hw] at h
                    cases h
                    rw [px_fore_ok hfo hC.1]
                    exact ih hw hC.2
              · cases ho : px_op ro k ins len pc lv st hp with
                | none => rw [ho] at h; cases h
                | some s => rw [ho] at h; exact ih h hC
              · cases h
            | false =>
              rw [hb] at h
              dsimp only [cond_false] at h
              cases ho : px_op ro k ins len pc lv st hp with
              | none => rw [ho] at h; cases h
              | some s => rw [ho] at h; exact ih h hC
theorem px_MO {ro : px_RO} (n : Nat) {d k : Nat} {as : List Value} {h : px_H} (ds : List (Option Bool)) {r : Option Value} {hF : px_H} {C : Prop} (he : px_evO ro n d k (0, lv_args 0 as, [], h) ds = some (r, hF, [], C)) (hC : C) : px_M ro d k as h r hF := ⟨n, px_evO_ok he hC⟩
