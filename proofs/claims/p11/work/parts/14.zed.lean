/-! what lies outside of the cells is nothing: so two heaps are one if they agree within -/
def px_ns : px_Sh → Nat
  | .inl (_, n) => n
  | .inr ci => px_n ci
def px_Z (h : px_H) : Prop := ∀ a b, (∀ sh, h.1[a]? = some sh → px_ns sh ≤ b) → h.2.1 a b = 0 ∧ h.2.2.1 a b = 0 ∧ h.2.2.2 a b = none
theorem px_up_out {α : Type} {f : Nat → Nat → α} {k i a b : Nat} {x : α} (h : a = k → b ≠ i) : px_up f k i x a b = f a b := by
  unfold px_up
  by_cases e : a = k
  · rw [px_beqN (h e)]
    cases Nat.beq a k <;> rfl
  · rw [px_beqN e]; rfl
theorem px_up_in {α : Type} {f : Nat → Nat → α} {k i : Nat} {x : α} : px_up f k i x k i = x := by
  unfold px_up
  rw [show Nat.beq k k = true from Nat.beq_refl k, show Nat.beq i i = true from Nat.beq_refl i]; rfl
theorem px_Z_I {h : px_H} {a i : Nat} {sh : px_Sh} {x : Int32} (hZ : px_Z h) (ha : h.1[a]? = some sh) (hi : i < px_ns sh) : px_Z (h.1, px_up h.2.1 a i x, h.2.2.1, h.2.2.2) := by
  intro a' b' hb
  have hz := hZ a' b' hb
  refine ⟨?_, hz.2⟩
  show px_up h.2.1 a i x a' b' = 0
  rw [px_up_out (fun e => by subst e; have := hb sh ha; omega)]
  exact hz.1
theorem px_Z_J {h : px_H} {a i : Nat} {sh : px_Sh} {x : Int64} (hZ : px_Z h) (ha : h.1[a]? = some sh) (hi : i < px_ns sh) : px_Z (h.1, h.2.1, px_up h.2.2.1 a i x, h.2.2.2) := by
  intro a' b' hb
  have hz := hZ a' b' hb
  refine ⟨hz.1, ?_, hz.2.2⟩
  show px_up h.2.2.1 a i x a' b' = 0
  rw [px_up_out (fun e => by subst e; have := hb sh ha; omega)]
  exact hz.2.1
theorem px_Z_P {h : px_H} {a i : Nat} {sh : px_Sh} {x : Option Nat} (hZ : px_Z h) (ha : h.1[a]? = some sh) (hi : i < px_ns sh) : px_Z (h.1, h.2.1, h.2.2.1, px_up h.2.2.2 a i x) := by
  intro a' b' hb
  have hz := hZ a' b' hb
  refine ⟨hz.1, hz.2.1, ?_⟩
  show px_up h.2.2.2 a i x a' b' = none
  rw [px_up_out (fun e => by subst e; have := hb sh ha; omega)]
  exact hz.2.2
theorem px_Z_new {h : px_H} {sh : px_Sh} (hZ : px_Z h) : px_Z (px_new h sh) := by
  intro a b hb
  by_cases e : a = h.1.length
  · subst e
    show px_rw h.2.1 h.1.length (fun _ => 0) h.1.length b = 0 ∧ px_rw h.2.2.1 h.1.length (fun _ => 0) h.1.length b = 0 ∧ px_rw h.2.2.2 h.1.length (fun _ => none) h.1.length b = none
    rw [px_rw_eq, px_rw_eq, px_rw_eq]
    exact ⟨rfl, rfl, rfl⟩
  · show px_rw h.2.1 h.1.length (fun _ => 0) a b = 0 ∧ px_rw h.2.2.1 h.1.length (fun _ => 0) a b = 0 ∧ px_rw h.2.2.2 h.1.length (fun _ => none) a b = none
    rw [px_rw_ne e, px_rw_ne e, px_rw_ne e]
    refine hZ a b (fun sh' hs => hb sh' ?_)
    show (h.1 ++ [sh])[a]? = some sh'
    rw [List.getElem?_append_left (List.getElem?_eq_some_iff.mp hs).1]
    exact hs
theorem px_in_lt {i : Int32} {n : Nat} (h : px_in i n = true) : i.toNatClampNeg < n := Nat.not_le.mp fun q => px_inT h (Or.inr q)
theorem px_oPut_Z {k i pc : Nat} {lv : px_L} {st : List Value} {h : px_H} {σ : px_S} (ho : px_oPut k i pc lv st h = some σ) (hZ : px_Z h) : px_Z σ.2.2.2 := by
  unfold px_oPut at ho
  split at ho
  · rename_i v a st
    split at ho
    · rename_i ci f ci' hf ha
      cases hq : (Nat.beq ci ci' && Nat.blt a px_SC && px_mayPut k ci f) with
      | false => rw [hq] at ho; cases ho
      | true =>
        rw [hq] at ho
        dsimp only [cond_true] at ho
        split at ho
        · rename_i h' hp
          cases ho
          simp only [Bool.and_eq_true] at hq
          have e := px_beqT hq.1.1
          subst e
          obtain ⟨C, T, N, hc, hfN, -⟩ := px_fld_ok hf
          have hfn : f < px_ns (.inr ci) := by show f < px_n ci; rw [px_n_of hc]; exact hfN
          show px_Z h'
          unfold px_put at hp
          split at hp
          · cases hp; exact px_Z_I hZ ha hfn
          · split at hp
            · cases hp; exact px_Z_I hZ ha hfn
            · cases hp
          · cases hp; exact px_Z_J hZ ha hfn
          · cases hp; exact px_Z_P hZ ha hfn
          · cases hp; exact px_Z_P hZ ha hfn
          · cases hp; exact px_Z_P hZ ha hfn
          · cases hp; exact px_Z_P hZ ha hfn
          · cases hp
        · cases ho
    · cases ho
  · cases ho
theorem px_oIast_Z {pc : Nat} {lv : px_L} {st : List Value} {h : px_H} {σ : px_S} (ho : px_oIast pc lv st h = some σ) (hZ : px_Z h) : px_Z σ.2.2.2 := by
  unfold px_oIast at ho
  split at ho
  · rename_i x i a st
    split at ho
    · rename_i n ha
      cases hq : (px_in i n && Nat.blt a px_SC) with
      | false => rw [hq] at ho; cases ho
      | true =>
        rw [hq] at ho
        cases ho
        rw [Bool.and_eq_true] at hq
        exact px_Z_I hZ ha (px_in_lt hq.1)
    · cases ho
  · cases ho
theorem px_oZast_Z {pc : Nat} {lv : px_L} {st : List Value} {h : px_H} {σ : px_S} (ho : px_oZast pc lv st h = some σ) (hZ : px_Z h) : px_Z σ.2.2.2 := by
  unfold px_oZast at ho
  split at ho
  · rename_i x i a st
    split at ho
    · rename_i n ha
      cases hq : (px_in i n && Nat.blt a px_SC) with
      | false => rw [hq] at ho; cases ho
      | true =>
        rw [hq] at ho
        cases ho
        rw [Bool.and_eq_true] at hq
        exact px_Z_I hZ ha (px_in_lt hq.1)
    · cases ho
  · cases ho
theorem px_oLast_Z {pc : Nat} {lv : px_L} {st : List Value} {h : px_H} {σ : px_S} (ho : px_oLast pc lv st h = some σ) (hZ : px_Z h) : px_Z σ.2.2.2 := by
  unfold px_oLast at ho
  split at ho
  · rename_i x i a st
    split at ho
    · rename_i n ha
      cases hq : (px_in i n && Nat.blt a px_SC) with
      | false => rw [hq] at ho; cases ho
      | true =>
        rw [hq] at ho
        cases ho
        rw [Bool.and_eq_true] at hq
        exact px_Z_J hZ ha (px_in_lt hq.1)
    · cases ho
  · cases ho
theorem px_oAast_Z {pc : Nat} {lv : px_L} {st : List Value} {h : px_H} {σ : px_S} (ho : px_oAast pc lv st h = some σ) (hZ : px_Z h) : px_Z σ.2.2.2 := by
  unfold px_oAast at ho
  split at ho
  · rename_i b i a st
    split at ho
    · rename_i n ha hbb
      cases hq : (px_in i n && Nat.blt a px_SC && Nat.blt b px_SC) with
      | false => rw [hq] at ho; cases ho
      | true =>
        rw [hq] at ho
        cases ho
        simp only [Bool.and_eq_true] at hq
        exact px_Z_P hZ ha (px_in_lt hq.1.1)
    · cases ho
  · cases ho
theorem px_oNew_Z {k i pc : Nat} {lv : px_L} {st : List Value} {h : px_H} {σ : px_S} (ho : px_oNew k i pc lv st h = some σ) (hZ : px_Z h) : px_Z σ.2.2.2 := by
  unfold px_oNew at ho
  split at ho
  · rename_i ci _
    cases hq : Nat.blt h.1.length px_SC with
    | false => rw [hq] at ho; cases ho
    | true => rw [hq] at ho; cases ho; exact px_Z_new hZ
  · cases ho
theorem px_oNewa_Z {t pc : Nat} {lv : px_L} {st : List Value} {h : px_H} {σ : px_S} (ho : px_oNewa t pc lv st h = some σ) (hZ : px_Z h) : px_Z σ.2.2.2 := by
  unfold px_oNewa at ho
  split at ho
  · rename_i n st
    cases hq : (Nat.blt h.1.length px_SC && decide (¬ n < 0) && Nat.ble n.toNatClampNeg 100000) with
    | false => rw [hq] at ho; cases ho
    | true => rw [hq] at ho; cases ho; exact px_Z_new hZ
  · cases ho
theorem px_oAnew_Z {k i pc : Nat} {lv : px_L} {st : List Value} {h : px_H} {σ : px_S} (ho : px_oAnew k i pc lv st h = some σ) (hZ : px_Z h) : px_Z σ.2.2.2 := by
  unfold px_oAnew at ho
  split at ho
  · exact px_oNewa_Z ho hZ
  · cases ho
theorem px_oCpy_Z {pc : Nat} {lv : px_L} {st : List Value} {h : px_H} {σ : px_S} (ho : px_oCpy pc lv st h = some σ) (hZ : px_Z h) : px_Z σ.2.2.2 := by
  unfold px_oCpy at ho
  split at ho
  · rename_i n dp b sp a st
    split at ho
    · rename_i n0 n1 ha hbb
      cases hq : (Nat.ble (st.map fun v => v.category).sum 8 && decide (¬ sp < 0) && decide (¬ dp < 0) && decide (¬ n < 0) && Nat.ble (sp.toNatClampNeg + n.toNatClampNeg) n0 && Nat.ble (dp.toNatClampNeg + n.toNatClampNeg) n1 && Nat.blt a px_SC && Nat.blt b px_SC) with
      | false => rw [hq] at ho; cases ho
      | true =>
        rw [hq] at ho
        cases ho
        simp only [Bool.and_eq_true, decide_eq_true_eq] at hq
        obtain ⟨⟨⟨⟨⟨⟨⟨q1, q2⟩, q3⟩, q4⟩, q5⟩, q6⟩, q7⟩, q8⟩ := hq
        intro a' b' hb'
        have hz := hZ a' b' hb'
        refine ⟨?_, hz.2⟩
        show px_rw h.2.1 b (va_cpy (h.2.1 a) (h.2.1 b) sp.toNatClampNeg dp.toNatClampNeg n.toNatClampNeg) a' b' = 0
        by_cases e : a' = b
        · subst e
          rw [px_rw_eq]
          unfold va_cpy
          have h1 : n1 ≤ b' := hb' _ hbb
          have h2 := px_bleT q6
          rw [if_neg (by omega)]
          exact hz.1
        · rw [px_rw_ne e]; exact hz.1
    · cases ho
  · cases ho
theorem px_op_Z {ro : px_RO} {k : Nat} {ins : Instr} {len pc : Nat} {lv : px_L} {st : List Value} {h : px_H} {σ : px_S} (ho : px_op ro k ins len pc lv st h = some σ) (hZ : px_Z h) : px_Z σ.2.2.2 := by
  have cnd : ∀ {b : Bool} {x : px_S}, (cond b (some x) none) = some σ → x = σ := by
    intro b x h9
    cases b with
    | false => cases h9
    | true => cases h9; rfl
  have cnb : ∀ {b : Bool} {x : px_S}, (cond b (some x) none) = some σ → b = true := by
    intro b x h9
    cases b with
    | false => cases h9
    | true => rfl
  unfold px_op at ho
  split at ho
  all_goals first
    | (cases ho; exact hZ)
    | (cases ho; done)
    | skip
  all_goals first
    | (unfold px_psh at ho; split at ho <;> first | (cases ho; exact hZ) | cases ho)
    | (unfold px_jmp at ho; split at ho <;> first | (cases ho; exact hZ) | cases ho)
    | (unfold px_oSto at ho; split at ho <;> first | (split at ho <;> first | (cases ho; exact hZ) | cases ho) | cases ho)
    | (unfold px_oInc at ho; split at ho <;> first | (have e := cnd ho; subst e; exact hZ) | cases ho)
    | (unfold px_oAri at ho; split at ho <;> first | (split at ho <;> first | (cases ho; exact hZ) | cases ho) | cases ho)
    | (unfold px_oArl at ho; split at ho <;> first | (split at ho <;> first | (cases ho; exact hZ) | cases ho) | cases ho)
    | (unfold px_oIneg at ho; split at ho <;> first | (cases ho; exact hZ) | cases ho)
    | (unfold px_oLneg at ho; split at ho <;> first | (cases ho; exact hZ) | cases ho)
    | (unfold px_oI2l at ho; split at ho <;> first | (cases ho; exact hZ) | cases ho)
    | (unfold px_oL2i at ho; split at ho <;> first | (cases ho; exact hZ) | cases ho)
    | (unfold px_oLcmp at ho; split at ho <;> first | (cases ho; exact hZ) | cases ho)
    | (unfold px_oLshl at ho; split at ho <;> first | (cases ho; exact hZ) | cases ho)
    | (unfold px_oLshr at ho; split at ho <;> first | (cases ho; exact hZ) | cases ho)
    | (unfold px_oDup at ho; split at ho <;> first | (have e := cnd ho; subst e; exact hZ) | cases ho)
    | (unfold px_oPop at ho; split at ho <;> first | (have e := cnd ho; subst e; exact hZ) | cases ho)
    | (unfold px_oIf at ho; split at ho <;> first | (split at ho <;> first | (cases ho; exact hZ) | cases ho) | cases ho)
    | (unfold px_oIcmp at ho; split at ho <;> first | (split at ho <;> first | (cases ho; exact hZ) | cases ho) | cases ho)
    | (unfold px_oDup2 at ho
       split at ho
       · rename_i v w st
         cases hq : (Nat.beq v.category 1 && Nat.beq w.category 1) with
         | true => rw [hq] at ho; cases ho; exact hZ
         | false => rw [hq] at ho; dsimp only [cond_false] at ho; have e := cnd ho; subst e; exact hZ
       · have e := cnd ho; subst e; exact hZ
       · cases ho)
    | (unfold px_oNull at ho; split at ho <;> first | (unfold px_jmp at ho; split at ho <;> first | (cases ho; exact hZ) | cases ho) | (cases ho; exact hZ) | cases ho)
    | (unfold px_oNonnull at ho; split at ho <;> first | (unfold px_jmp at ho; split at ho <;> first | (cases ho; exact hZ) | cases ho) | (cases ho; exact hZ) | cases ho)
    | (unfold px_oTab at ho
       split at ho
       · split at ho
         · unfold px_jmp at ho; split at ho <;> first | (cases ho; exact hZ) | cases ho
         · split at ho
           · unfold px_jmp at ho; split at ho <;> first | (cases ho; exact hZ) | cases ho
           · cases ho
       · cases ho)
    | (rename_i dflt ps
       unfold px_oLook at ho
       split at ho
       · cases hq : ((ps.toList.zip (ps.toList.drop 1)).all (fun (a, next) => a.1 < next.1)) with
         | false => rw [hq] at ho; cases ho
         | true => rw [hq] at ho; dsimp only [cond_true] at ho; unfold px_jmp at ho; split at ho <;> first | (cases ho; exact hZ) | cases ho
       · cases ho)
    | (unfold px_oGet at ho; split at ho <;> first | (split at ho <;> first | (have e := cnd ho; subst e; exact hZ) | cases ho) | cases ho)
    | exact px_oPut_Z ho hZ
    | (unfold px_oIald at ho
       split at ho
       · rename_i i a st
         cases hq : Nat.ble px_SC a with
         | true => rw [hq] at ho; dsimp only [cond_true] at ho; split at ho <;> first | (have e := cnd ho; subst e; exact hZ) | cases ho
         | false => rw [hq] at ho; dsimp only [cond_false] at ho; split at ho <;> first | (have e := cnd ho; subst e; exact hZ) | cases ho
       · cases ho)
    | (unfold px_oZald at ho; split at ho <;> first | (split at ho <;> first | (have e := cnd ho; subst e; exact hZ) | cases ho) | cases ho)
    | (unfold px_oLald at ho; split at ho <;> first | (split at ho <;> first | (have e := cnd ho; subst e; exact hZ) | cases ho) | cases ho)
    | (unfold px_oAald at ho; split at ho <;> first | (split at ho <;> first | (have e := cnd ho; subst e; exact hZ) | cases ho) | cases ho)
    | exact px_oIast_Z ho hZ
    | exact px_oZast_Z ho hZ
    | exact px_oLast_Z ho hZ
    | exact px_oAast_Z ho hZ
    | (unfold px_oLen at ho
       split at ho
       · rename_i a st
         cases hq : Nat.ble px_SC a with
         | true => rw [hq] at ho; dsimp only [cond_true] at ho; split at ho <;> first | (cases ho; exact hZ) | cases ho
         | false => rw [hq] at ho; dsimp only [cond_false] at ho; split at ho <;> first | (have e := cnd ho; subst e; exact hZ) | cases ho
       · cases ho)
    | exact px_oNew_Z ho hZ
    | exact px_oNewa_Z ho hZ
    | exact px_oAnew_Z ho hZ
    | (unfold px_oStr at ho
       rename_i i9
       cases hq : (Nat.beq (px_key k i9) 6179 && Nat.blt i9 1000) with
       | true => rw [hq] at ho; dsimp only [cond_true] at ho; split at ho <;> first | (have e := cnd ho; subst e; exact hZ) | cases ho
       | false =>
         rw [hq] at ho; dsimp only [cond_false] at ho
         cases hq1 : (Nat.beq (px_key k i9) 6183 && Nat.blt i9 1000) with
         | true => rw [hq1] at ho; dsimp only [cond_true] at ho; split at ho <;> first | (have e := cnd ho; subst e; exact hZ) | cases ho
         | false => rw [hq1] at ho; cases ho)
    | (split at ho
       · unfold px_oSp at ho; split at ho <;> first | (have e := cnd ho; subst e; exact hZ) | cases ho
       · cases ho)
    | (split at ho
       · unfold px_oSt at ho
         split at ho
         · exact px_oCpy_Z ho hZ
         · unfold px_oMi at ho; split at ho <;> first | (have e := cnd ho; subst e; exact hZ) | cases ho
         · unfold px_oMi at ho; split at ho <;> first | (have e := cnd ho; subst e; exact hZ) | cases ho
         · unfold px_oMl at ho; split at ho <;> first | (have e := cnd ho; subst e; exact hZ) | cases ho
         · unfold px_oMl at ho; split at ho <;> first | (have e := cnd ho; subst e; exact hZ) | cases ho
         · cases ho
       · cases ho)
theorem px_ev_Z {ro : px_RO} : ∀ (n d k : Nat) (σ : px_S) (r : Option Value) (hF : px_H), px_ev ro n d k σ = some (r, hF) → px_Z σ.2.2.2 → px_Z hF := by
  intro n
  induction n with
  | zero => intro d k σ r hF h; cases h
  | succ n ih =>
    intro d k σ r hF h hs
    obtain ⟨pc, lv, st, hp⟩ := σ
    cases d with
    | zero => cases h
    | succ d =>
      obtain ⟨ins, len, hf, h1⟩ := px_ev_inv h
      rcases h1 with ⟨-, rfl⟩ | ⟨j, as, rest, v, h1, hi, -, -, hc, hk⟩ | ⟨σ, ho, hk⟩
      · exact hs
      · exact ih _ _ _ _ _ hk (ih _ _ _ _ _ hc hs)
      · exact ih _ _ _ _ _ hk (px_op_Z ho hs)
theorem px_seg_Z {ro : px_RO} {k : Nat} : ∀ (n : Nat) (σ σ' : px_S), px_seg ro k n σ = some σ' → px_Z σ.2.2.2 → px_Z σ'.2.2.2 := by
  intro n
  induction n with
  | zero => intro σ σ' h hZ; cases h; exact hZ
  | succ n ih =>
    intro σ σ' h hZ
    unfold px_seg at h
    cases ho : px_one ro k σ with
    | none => rw [ho] at h; cases h
    | some σ1 =>
      rw [ho] at h
      refine ih σ1 σ' h ?_
      unfold px_one at ho
      split at ho
      · cases ho
      · split at ho
        · cases ho
        · split at ho
          · cases ho
          · exact px_op_Z ho hZ
theorem px_H_ext {h g : px_H} (hs : h.1 = g.1) (zh : px_Z h) (zg : px_Z g) (hag : ∀ a sh b, h.1[a]? = some sh → b < px_ns sh → h.2.1 a b = g.2.1 a b ∧ h.2.2.1 a b = g.2.2.1 a b ∧ h.2.2.2 a b = g.2.2.2 a b) : h = g := by
  have key : ∀ a b, h.2.1 a b = g.2.1 a b ∧ h.2.2.1 a b = g.2.2.1 a b ∧ h.2.2.2 a b = g.2.2.2 a b := by
    intro a b
    by_cases q : ∀ sh, h.1[a]? = some sh → px_ns sh ≤ b
    · obtain ⟨x1, x2, x3⟩ := zh a b q
      obtain ⟨y1, y2, y3⟩ := zg a b (by rw [← hs]; exact q)
      rw [x1, x2, x3, y1, y2, y3]
      exact ⟨rfl, rfl, rfl⟩
    · have q2 := Classical.not_forall.mp q
      obtain ⟨sh, q3⟩ := q2
      have q4 := Classical.not_imp.mp q3
      exact hag a sh b q4.1 (Nat.not_le.mp q4.2)
  obtain ⟨h1, hI, hJ, hP⟩ := h
  obtain ⟨g1, gI, gJ, gP⟩ := g
  dsimp only at hs key
  subst hs
  have e1 : hI = gI := by funext a b; exact (key a b).1
  have e2 : hJ = gJ := by funext a b; exact (key a b).2.1
  have e3 : hP = gP := by funext a b; exact (key a b).2.2
  rw [e1, e2, e3]
def px_agree (h g : px_H) : Bool := decide (h.1 = g.1) && (List.range h.1.length).all (fun a => (List.range (px_ns (h.1.getD a (.inr 0)))).all (fun b => decide (h.2.1 a b = g.2.1 a b) && decide (h.2.2.1 a b = g.2.2.1 a b) && decide (h.2.2.2 a b = g.2.2.2 a b)))
theorem px_agree_eq {h g : px_H} (zh : px_Z h) (zg : px_Z g) (ha : px_agree h g = true) : h = g := by
  unfold px_agree at ha
  rw [Bool.and_eq_true, decide_eq_true_eq] at ha
  refine px_H_ext ha.1 zh zg (fun a sh b hs hb => ?_)
  have h1 := List.all_eq_true.mp ha.2 a (List.mem_range.mpr (List.getElem?_eq_some_iff.mp hs).1)
  have h2 := List.all_eq_true.mp h1 b (List.mem_range.mpr (by rw [List.getD_eq_getElem?_getD, hs]; exact hb))
  simp only [Bool.and_eq_true, decide_eq_true_eq] at h2
  exact ⟨h2.1.1, h2.1.2, h2.2⟩
