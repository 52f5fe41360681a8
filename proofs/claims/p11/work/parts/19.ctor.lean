theorem px_PT_in : px_all (fun q => match px_shX[q.1 / 64]? with | some sh => Nat.blt (q.1 % 64) (px_ns sh) | none => false) px_PT = true := by decide +kernel
theorem px_PX_out {a b : Nat} (h : ∀ sh, px_shX[a]? = some sh → px_ns sh ≤ b) : px_PX a b = none := by
  unfold px_PX
  have hq := px_all_get px_PT (a * 64 + b) px_PT_in
  generalize px_PT.get (a * 64 + b) = q at hq ⊢
  dsimp only
  cases hb : (Nat.beq q.1 (a * 64 + b) && Nat.blt b 64) with
  | false => rfl
  | true =>
    rw [Bool.and_eq_true] at hb
    have e := px_beqT hb.1
    have hl := px_bltT hb.2
    rw [e, show (a * 64 + b) / 64 = a by omega, show (a * 64 + b) % 64 = b by omega] at hq
    split at hq
    · rename_i sh hs
      have := h sh hs
      have := px_bltT hq
      omega
    · cases hq
def px_rowZ (q : Nat × (Nat → Int32)) : Prop := ∀ b, px_ns (px_shX.getD q.1 (.inr 0)) ≤ b → q.2 b = 0
theorem px_rz0 : px_rowZ (0, px_i0) := by
  intro b hb
  have hb : 13 ≤ b := hb
  show px_i0 b = 0
  unfold px_i0
  rw [px_beqN (show b ≠ 12 by omega)]
  rfl
theorem px_rz13 : px_rowZ (13, px_i13) := by
  intro b hb
  have hb : 144 ≤ b := hb
  show px_i13 b = 0
  unfold px_i13
  rw [px_bltF hb]
  rfl
theorem px_rz15 : px_rowZ (15, px_i15) := by
  intro b hb
  have hb : 9 ≤ b := hb
  show px_i15 b = 0
  unfold px_i15
  rw [px_beqN (show b ≠ 8 by omega)]
  rfl
theorem px_rz17 : px_rowZ (17, px_i17) := by
  intro b hb
  have hb : 4 ≤ b := hb
  show px_i17 b = 0
  unfold px_i17
  rw [px_bltF hb]
  rfl
theorem px_rz18 : px_rowZ (18, px_i18) := by
  intro b hb
  have hb : 4 ≤ b := hb
  show px_i18 b = 0
  unfold px_i18
  rw [px_bltF hb]
  rfl
theorem px_rz20 : px_rowZ (20, px_i20) := by
  intro b hb
  have hb : 6 ≤ b := hb
  show px_i20 b = 0
  unfold px_i20
  rw [px_bltF hb]
  rfl
theorem px_rz28 : px_rowZ (28, px_i28) := by
  intro b hb
  have hb : 16 ≤ b := hb
  show px_i28 b = 0
  unfold px_i28
  rw [px_bltF hb]
  rfl
theorem px_rz31 : px_rowZ (31, px_i31) := by
  intro b hb
  have hb : 11 ≤ b := hb
  show px_i31 b = 0
  unfold px_i31
  rw [px_beqN (show b ≠ 2 by omega), px_beqN (show b ≠ 3 by omega)]
  rfl
theorem px_rz78 : px_rowZ (78, px_i78) := by
  intro b hb
  have hb : 8 ≤ b := hb
  show px_i78 b = 0
  unfold px_i78
  rw [px_beqN (show b ≠ 4 by omega)]
  rfl
theorem px_rz79 : px_rowZ (79, px_i79) := by
  intro b hb
  have hb : 9 ≤ b := hb
  show px_i79 b = 0
  unfold px_i79
  rw [px_beqN (show b ≠ 8 by omega)]
  rfl
theorem px_rz81 : px_rowZ (81, px_i81) := by
  intro b hb
  have hb : 4 ≤ b := hb
  show px_i81 b = 0
  unfold px_i81
  rw [px_bltF hb]
  rfl
theorem px_rz82 : px_rowZ (82, px_i82) := by
  intro b hb
  have hb : 4 ≤ b := hb
  show px_i82 b = 0
  unfold px_i82
  rw [px_bltF hb]
  rfl
theorem px_rz84 : px_rowZ (84, px_i84) := by
  intro b hb
  have hb : 6 ≤ b := hb
  show px_i84 b = 0
  unfold px_i84
  rw [px_bltF hb]
  rfl
theorem px_rz92 : px_rowZ (92, px_i92) := by
  intro b hb
  have hb : 16 ≤ b := hb
  show px_i92 b = 0
  unfold px_i92
  rw [px_bltF hb]
  rfl
theorem px_rz95 : px_rowZ (95, px_i95) := by
  intro b hb
  have hb : 44 ≤ b := hb
  show px_i95 b = 0
  unfold px_i95
  rw [px_beqN (show b ≠ 5 by omega), px_beqN (show b ≠ 6 by omega)]
  rfl
theorem px_rz96 : px_rowZ (96, px_i96) := by
  intro b hb
  have hb : 1538 ≤ b := hb
  show px_i96 b = 0
  unfold px_i96
  rw [px_beqN (show b ≠ 6 by omega), px_beqN (show b ≠ 8 by omega)]
  rfl
theorem px_rz97 : px_rowZ (97, px_i97) := by
  intro b hb
  have hb : 1538 ≤ b := hb
  show px_i97 b = 0
  unfold px_i97
  rw [px_beqN (show b ≠ 6 by omega), px_beqN (show b ≠ 8 by omega)]
  rfl
theorem px_IT_z : px_allP px_rowZ px_IT := (px_allPB (px_allPB (px_allPB (px_allPB (px_allPL px_rz0) (px_allPL px_rz13)) (px_allPB (px_allPL px_rz15) (px_allPL px_rz17))) (px_allPB (px_allPB (px_allPL px_rz18) (px_allPL px_rz20)) (px_allPB (px_allPL px_rz28) (px_allPL px_rz31)))) (px_allPB (px_allPB (px_allPB (px_allPL px_rz78) (px_allPL px_rz79)) (px_allPB (px_allPL px_rz81) (px_allPL px_rz82))) (px_allPB (px_allPB (px_allPL px_rz84) (px_allPL px_rz92)) (px_allPB (px_allPL px_rz95) (px_allPB (px_allPL px_rz96) (px_allPL px_rz97))))))
theorem px_IX_out {a b : Nat} (h : ∀ sh, px_shX[a]? = some sh → px_ns sh ≤ b) (ha : a < 120) : px_IX a b = 0 := by
  unfold px_IX
  have hq := px_allP_get px_IT a px_IT_z
  generalize px_IT.get a = q at hq ⊢
  dsimp only
  cases hb : Nat.beq q.1 a with
  | false => rfl
  | true =>
    have e := px_beqT hb
    show q.2 b = 0
    refine hq b ?_
    rw [e, List.getD_eq_getElem?_getD]
    have hl : a < px_shX.length := ha
    rw [List.getElem?_eq_getElem hl]
    exact h _ (List.getElem?_eq_getElem hl)
theorem px_IT_in : px_all (fun q : Nat × (Nat → Int32) => Nat.blt q.1 120) px_IT = true := by decide +kernel
theorem px_IX_far {a b : Nat} (ha : 120 ≤ a) : px_IX a b = 0 := by
  unfold px_IX
  have hq := px_all_get px_IT a px_IT_in
  generalize px_IT.get a = q at hq ⊢
  dsimp only
  rw [px_beqN (by have := px_bltT hq; omega)]
  rfl
theorem px_IX_o {a b : Nat} (h : ∀ sh, px_shX[a]? = some sh → px_ns sh ≤ b) : px_IX a b = 0 := by
  rcases Nat.lt_or_ge a 120 with q | q
  · exact px_IX_out h q
  · exact px_IX_far q
theorem px_hX_Z : px_Z px_hX := fun a b h => ⟨px_IX_o h, rfl, px_PX_out h⟩
theorem px_shC_get {a : Nat} (ha : a < 95) : px_shC[a]? = px_shX[a]? := by
  unfold px_shC
  rw [List.getElem?_take, if_pos ha]
theorem px_hC_Z : px_Z px_hC := by
  intro a b h
  rcases Nat.lt_or_ge a 95 with q | q
  · have h' : ∀ sh, px_shX[a]? = some sh → px_ns sh ≤ b := fun sh hs => h sh (by show px_shC[a]? = some sh; rw [px_shC_get q]; exact hs)
    refine ⟨?_, rfl, ?_⟩
    · show px_IC a b = 0
      unfold px_IC
      rw [px_bltY q]
      exact px_IX_o h'
    · show px_PC a b = none
      unfold px_PC
      rw [px_bltY q]
      exact px_PX_out h'
  · refine ⟨?_, rfl, ?_⟩
    · show px_IC a b = 0
      unfold px_IC
      rw [px_bltF q]; rfl
    · show px_PC a b = none
      unfold px_PC
      rw [px_bltF q]; rfl
theorem px_h0_Z : px_Z px_h0 := fun _ _ _ => ⟨rfl, rfl, rfl⟩
/-- behind the reference's constructor but for its copy -/
def px_I1 (a b : Nat) : Int32 := bif Nat.beq a 97 then 0 else px_IX a b
def px_h1 : px_H := (px_shX, px_I1, px_JX, px_PX)
theorem px_h1_Z : px_Z px_h1 := by
  intro a b h
  refine ⟨?_, rfl, px_PX_out h⟩
  show px_I1 a b = 0
  unfold px_I1
  cases Nat.beq a 97 with
  | true => rfl
  | false => exact px_IX_o h
-- runs without the old arrays are runs with them
theorem px_op_ro {ro : px_RO} {k : Nat} {ins : Instr} {len pc : Nat} {lv : px_L} {st : List Value} {h : px_H} {σ : px_S} (ho : px_op [] k ins len pc lv st h = some σ) : px_op ro k ins len pc lv st h = some σ := by
  cases ins with
  | iaload =>
    change px_oIald ro (pc + len) lv st h = some σ
    change px_oIald [] (pc + len) lv st h = some σ at ho
    unfold px_oIald at ho ⊢
    split at ho
    · rename_i i a st
      cases hq : Nat.ble px_SC a with
      | true => rw [hq] at ho; simp at ho
      | false => rw [hq] at ho; exact ho
    · cases ho
  | arraylength =>
    change px_oLen ro (pc + len) lv st h = some σ
    change px_oLen [] (pc + len) lv st h = some σ at ho
    unfold px_oLen at ho ⊢
    split at ho
    · rename_i a st
      cases hq : Nat.ble px_SC a with
      | true => rw [hq] at ho; simp at ho
      | false => rw [hq] at ho; exact ho
    · cases ho
  | newarray t => cases t <;> exact ho
  | _ => exact ho
theorem px_ev_ro {ro : px_RO} : ∀ (n d k : Nat) (σ : px_S) (r : Option Value) (hF : px_H), px_ev [] n d k σ = some (r, hF) → px_ev ro n d k σ = some (r, hF) := by
  intro n
  induction n with
  | zero => intro d k σ r hF h; cases h
  | succ n ih =>
    intro d k σ r hF h
    obtain ⟨pc, lv, st, hp⟩ := σ
    cases d with
    | zero => cases h
    | succ d =>
      unfold px_ev at h ⊢
      cases hf : px_fetch k pc with
      | none => rw [hf] at h; cases h
      | some q =>
        obtain ⟨ins, len⟩ := q
        rw [hf] at h
        dsimp only at h ⊢
        cases hr : px_ret k ins st with
        | some r' => rw [hr] at h; exact h
        | none =>
          rw [hr] at h
          dsimp only at h ⊢
          cases hi : px_inv k ins st hp with
          | some q =>
            obtain ⟨j, as, rest⟩ := q
            rw [hi] at h
            dsimp only at h ⊢
            cases hq : (Nat.ble (rest.map fun v => v.category).sum 8 && Nat.ble (lg_sl as).length (px_maxL j)) with
            | false => rw [hq] at h; cases h
            | true =>
              rw [hq] at h
              dsimp only [cond_true] at h ⊢
              cases hv : px_ev [] n d j (0, lv_args 0 as, [], hp) with
              | none => rw [hv] at h; cases h
              | some q =>
                obtain ⟨v, h1⟩ := q
                rw [hv] at h
                rw [ih _ _ _ _ _ hv]
                exact ih _ _ _ _ _ h
          | none =>
            rw [hi] at h
            dsimp only at h ⊢
            cases ho : px_op [] k ins len pc lv st hp with
            | none => rw [ho] at h; cases h
            | some σ =>
              rw [ho] at h
              rw [px_op_ro ho]
              exact ih _ _ _ _ _ h
theorem px_seg_ro {ro : px_RO} {k : Nat} : ∀ (n : Nat) (σ σ' : px_S), px_seg [] k n σ = some σ' → px_seg ro k n σ = some σ' := by
  intro n
  induction n with
  | zero => intro σ σ' h; exact h
  | succ n ih =>
    intro σ σ' h
    unfold px_seg at h ⊢
    cases ho : px_one [] k σ with
    | none => rw [ho] at h; cases h
    | some σ1 =>
      rw [ho] at h
      have ho' : px_one ro k σ = some σ1 := by
        unfold px_one at ho ⊢
        split at ho
        · cases ho
        · split at ho
          · cases ho
          · split at ho
            · cases ho
            · exact px_op_ro ho
      rw [ho']
      exact ih _ _ h
theorem px_ctorC {ro : px_RO} {d : Nat} : px_M ro (d + 20) 0 [.ref 0] (px_new px_h0 (.inr 11)) none px_hC := by
  have h := px_t1
  split at h
  · rename_i hh he
    have e := px_agree_eq (px_ev_Z _ _ _ _ _ _ he (px_Z_new px_h0_Z)) px_hC_Z h
    subst e
    exact px_E.deep ⟨_, px_ev_ro _ _ _ _ _ _ he⟩ (by omega)
  · cases h
set_option maxRecDepth 100000 in
theorem px_t2 : (match px_seg [] 180 118 (0, [(0, .ref 95)], [], px_new px_hC (.inr 12)) with
  | some (pc, lv, st, h) => decide (pc = 241) && decide (lv = [(0, .ref 95)]) && decide (st = [.ref 97, .ref 96]) && px_agree h px_h1
  | _ => false) = true := by decide +kernel
theorem px_cp1 : px_cpR px_I1 96 97 = px_IX := by
  funext a b
  unfold px_cpR px_rw
  by_cases ha : a = 97
  · subst ha
    show (bif Nat.blt b 1538 then px_I1 96 b else px_I1 97 b) = px_IX 97 b
    rcases Nat.lt_or_ge b 1538 with q | q
    · rw [px_bltY q]; rfl
    · rw [px_bltF q]
      exact (px_IX_o (fun sh hs => by cases hs; exact q)).symm
  · rw [px_beqN ha]
    show px_I1 a b = px_IX a b
    unfold px_I1
    rw [px_beqN ha]; rfl
set_option maxRecDepth 100000 in
theorem px_ctorM {ro : px_RO} {d : Nat} : px_M ro (d + 20) 180 [.ref 95] (px_new px_hC (.inr 12)) none px_hX := by
  have h := px_t2
  split at h
  · rename_i pc lv st hh he
    simp only [Bool.and_eq_true, decide_eq_true_eq] at h
    obtain ⟨⟨⟨e1, e2⟩, e3⟩, e4⟩ := h
    subst e1; subst e2; subst e3
    have e := px_agree_eq (px_seg_Z _ _ _ he (px_Z_new px_hC_Z)) px_h1_Z e4
    subst e
    refine px_E_seg 118 (px_seg_ro _ _ _ he) ?_
    refine px_E_call (j := 181) (as := [.ref 96, .ref 97]) (rest := []) (v := none) (h1 := (px_shX, px_cpR px_I1 96 97, px_JX, px_PX)) rfl rfl rfl (px_copy (na := 1538) (nb := 1538) rfl rfl (by decide) (by decide) (by decide) (by decide) (by decide) rfl rfl) ?_
    rw [px_cp1]
    exact px_E_ret rfl rfl
  · cases h
