section PXH
variable {p : Program} {l : Launch} {e : Env} {R : Room} {s : State} {m : MethodId} {args : Array Value} {below : List Frame} {meth : Method} {c : Code} {Q : State → Prop}
variable {base : Nat} {rb : Nat → Nat} {ro : px_RO} {D : va_G} {dA : Nat → ClassId} {k c0 s0 : Nat} {pc : Nat} {lv : px_L} {st : List Value} {h : px_H} {σ : px_S}
theorem px_inT {i : Int32} {n : Nat} (h : px_in i n = true) : vp_in i n := by unfold vp_in; exact of_decide_eq_true h
theorem px_upd_row {f : Nat → Nat → Int32} {a i : Nat} {x : Int32} : upd (f a) i x = px_up f a i x a := by
  rw [px_up_eq]
  funext b
  unfold upd
  by_cases e : b = i
  · subst e
    rw [if_pos rfl, show Nat.beq b b = true from Nat.beq_refl b]; rfl
  · rw [if_neg e, px_beqN e]; rfl
theorem px_updL_row {f : Nat → Nat → Int64} {a i : Nat} {x : Int64} : vp_updL (f a) i x = px_up f a i x a := by
  rw [px_up_eq]
  funext b
  unfold vp_updL
  by_cases e : b = i
  · subst e
    rw [if_pos rfl, show Nat.beq b b = true from Nat.beq_refl b]; rfl
  · rw [if_neg e, px_beqN e]; rfl
/-- a cell of ints is written -/
theorem px_setI {h : px_H} {a t n : Nat} {g : Nat → Nat → Int32} (ha : h.1[a]? = some (.inl (t, n))) (ht : t = 0 ∨ t = 2) (ho : ∀ j, j ≠ a → g j = h.2.1 j) : (px_w (px_ad base rb) dA h).set a (px_ad base rb a, .inl (dA t, n, .inl (g a))) = px_w (px_ad base rb) dA (h.1, g, h.2.2.1, h.2.2.2) := by
  rw [← px_w_set (ad := px_ad base rb) (dA := dA) (h := h) (h' := (h.1, g, h.2.2.1, h.2.2.2)) (k := a) rfl ha (fun j hj => ⟨ho j hj, rfl, rfl⟩)]
  rcases ht with rfl | rfl <;> rfl
theorem px_setJ {h : px_H} {a n : Nat} {g : Nat → Nat → Int64} (ha : h.1[a]? = some (.inl (1, n))) (ho : ∀ j, j ≠ a → g j = h.2.2.1 j) : (px_w (px_ad base rb) dA h).set a (px_ad base rb a, .inl (dA 1, n, .inr (.inl (g a)))) = px_w (px_ad base rb) dA (h.1, h.2.1, g, h.2.2.2) := by
  rw [← px_w_set (ad := px_ad base rb) (dA := dA) (h := h) (h' := (h.1, h.2.1, g, h.2.2.2)) (k := a) rfl ha (fun j hj => ⟨rfl, ho j hj, rfl⟩)]
  rfl
theorem px_setP {h : px_H} {a n : Nat} {g : Nat → Nat → Option Nat} (ha : h.1[a]? = some (.inl (3, n))) (ho : ∀ j, j ≠ a → g j = h.2.2.2 j) : (px_w (px_ad base rb) dA h).set a (px_ad base rb a, .inl (dA 3, n, .inr (.inr (.inr (.inr (fun i => (g a i).map (px_ad base rb))))))) = px_w (px_ad base rb) dA (h.1, h.2.1, h.2.2.1, g) := by
  rw [← px_w_set (ad := px_ad base rb) (dA := dA) (h := h) (h' := (h.1, h.2.1, h.2.2.1, g)) (k := a) rfl ha (fun j hj => ⟨rfl, rfl, ho j hj⟩)]
  rfl
theorem px_s_get {i : Nat} (Cx : px_Cx p s m args meth c base rb ro D dA k c0) (hdg : decode (px_m k).2.2.2.1 pc = .ok (.getfield i, 3)) (ho : px_oGet k i (pc + 3) lv st h = some σ) (kk : px_Go p l e R s m args below meth c base rb D dA k c0 s0 Q σ) : px_Go p l e R s m args below meth c base rb D dA k c0 s0 Q (pc, lv, st, h) := by
  obtain ⟨hx, hb, hml, hown, hts, hnest, hao, hK, hsz, hro, hin, hst9⟩ := Cx
  unfold px_oGet at ho
  split at ho
  · rename_i a st
    split at ho
    · rename_i ci f ci' hf ha
      cases hq : (Nat.beq ci ci' && Nat.blt a px_SC) with
      | false => rw [hq] at ho; cases ho
      | true =>
        rw [hq] at ho
        cases ho
        rw [Bool.and_eq_true] at hq
        have e := px_beqT hq.1
        subst e
        obtain ⟨C, T, N, hc, hfN, hlink⟩ := px_fld_ok hf
        have hcl := px_cl hc
        intro H locs ls cells slots I
        have hget := px_w_get (ad := px_ad base rb) (dA := dA) ha
        exact va_get (D := D) (ci := ci) (C := C) (T := T) (N := N) hx hb hts hcl.2.1 hown hK I.1 a hget hc f hfN (hts _ hlink) (fun _ h9 => h9) (px_fs_get (by rw [px_n_of hc]; exact hfN)) hdg (kk H locs ls cells slots I)
    · cases ho
  · cases ho
theorem px_put_ok {h' : px_H} {a ci f : Nat} {v : Value} (hp : px_put h a f (px_ty ci f) v = some h') (ha : h.1[a]? = some (.inr ci)) (hf : f < px_n ci) :
    narrow (px_ty ci f) (px_v (px_ad base rb) v) = px_v (px_ad base rb) v ∧ fits (px_ty ci f) (px_v (px_ad base rb) v) = true ∧ h'.1 = h.1 ∧
    (px_w (px_ad base rb) dA h).set a (px_ad base rb a, .inr (ci, (px_fs (px_ad base rb) (h.2.1 a) (h.2.2.1 a) (h.2.2.2 a) ci).set f (px_v (px_ad base rb) v))) = px_w (px_ad base rb) dA h' := by
  have key : ∀ (h' : px_H), h'.1 = h.1 → (∀ j, j ≠ a → h'.2.1 j = h.2.1 j ∧ h'.2.2.1 j = h.2.2.1 j ∧ h'.2.2.2 j = h.2.2.2 j) → (∀ j, j ≠ f → h'.2.1 a j = h.2.1 a j ∧ h'.2.2.1 a j = h.2.2.1 a j ∧ h'.2.2.2 a j = h.2.2.2 a j) → px_fv (h'.2.1 a) (h'.2.2.1 a) (h'.2.2.2 a) f (px_ty ci f) = v →
      (px_w (px_ad base rb) dA h).set a (px_ad base rb a, .inr (ci, (px_fs (px_ad base rb) (h.2.1 a) (h.2.2.1 a) (h.2.2.2 a) ci).set f (px_v (px_ad base rb) v))) = px_w (px_ad base rb) dA h' := by
    intro h' e1 e2 e3 e4
    rw [← px_w_set (ad := px_ad base rb) (dA := dA) (h := h) (h' := h') (k := a) e1 ha e2]
    show _ = (px_w (px_ad base rb) dA h).set a (px_ad base rb a, .inr (ci, px_fs (px_ad base rb) (h'.2.1 a) (h'.2.2.1 a) (h'.2.2.2 a) ci))
    rw [← px_fs_set hf e3, e4]
  have ne1 : ∀ {α : Type} {g : Nat → Nat → α} {x : α} {j : Nat}, j ≠ a → px_up g a f x j = g j := fun hj => px_up_ne hj
  have ne2 : ∀ {α : Type} {g : Nat → Nat → α} {x : α} {j : Nat}, j ≠ f → px_up g a f x a j = g a j := fun {α g x j} hj => by rw [px_up_eq]; show cond (Nat.beq j f) x (g a j) = _; rw [px_beqN hj]; rfl
  have eq2 : ∀ {α : Type} {g : Nat → Nat → α} {x : α}, px_up g a f x a f = x := fun {α g x} => by rw [px_up_eq]; show cond (Nat.beq f f) x (g a f) = _; rw [show Nat.beq f f = true from Nat.beq_refl f]; rfl
  generalize hty : px_ty ci f = ty at *
  unfold px_put at hp
  split at hp
  · cases hp
    exact ⟨rfl, rfl, rfl, key _ rfl (fun j hj => ⟨ne1 hj, rfl, rfl⟩) (fun j hj => ⟨ne2 hj, rfl, rfl⟩) (congrArg Value.int eq2)⟩
  · rename_i x
    split at hp
    · rename_i hx
      cases hp
      refine ⟨?_, ?_, rfl, key _ rfl (fun j hj => ⟨ne1 hj, rfl, rfl⟩) (fun j hj => ⟨ne2 hj, rfl, rfl⟩) (congrArg Value.int eq2)⟩
      · rcases hx with rfl | rfl <;> rfl
      · rcases hx with rfl | rfl <;> rfl
    · cases hp
  · cases hp
    exact ⟨rfl, rfl, rfl, key _ rfl (fun j hj => ⟨rfl, ne1 hj, rfl⟩) (fun j hj => ⟨rfl, ne2 hj, rfl⟩) (congrArg Value.long eq2)⟩
  · cases hp
    exact ⟨rfl, rfl, rfl, key _ rfl (fun j hj => ⟨rfl, rfl, ne1 hj⟩) (fun j hj => ⟨rfl, rfl, ne2 hj⟩) (congrArg va_rf eq2)⟩
  · cases hp
    exact ⟨rfl, rfl, rfl, key _ rfl (fun j hj => ⟨rfl, rfl, ne1 hj⟩) (fun j hj => ⟨rfl, rfl, ne2 hj⟩) (congrArg va_rf eq2)⟩
  · cases hp
    exact ⟨rfl, rfl, rfl, key _ rfl (fun j hj => ⟨rfl, rfl, ne1 hj⟩) (fun j hj => ⟨rfl, rfl, ne2 hj⟩) (congrArg va_rf eq2)⟩
  · cases hp
    exact ⟨rfl, rfl, rfl, key _ rfl (fun j hj => ⟨rfl, rfl, ne1 hj⟩) (fun j hj => ⟨rfl, rfl, ne2 hj⟩) (congrArg va_rf eq2)⟩
  · cases hp
theorem px_s_put {i : Nat} (Cx : px_Cx p s m args meth c base rb ro D dA k c0) (hdg : decode (px_m k).2.2.2.1 pc = .ok (.putfield i, 3)) (ho : px_oPut k i (pc + 3) lv st h = some σ) (kk : px_Go p l e R s m args below meth c base rb D dA k c0 s0 Q σ) : px_Go p l e R s m args below meth c base rb D dA k c0 s0 Q (pc, lv, st, h) := by
  obtain ⟨hx, hb, hml, hown, hts, hnest, hao, hK, hsz, hro, hin, hst9⟩ := Cx
  unfold px_oPut at ho
  split at ho
  · rename_i v a st
    split at ho
    · rename_i ci f ci' hf ha
      cases hq : (Nat.beq ci ci' && Nat.blt a px_SC && px_mayPut k ci f) with
      | false => rw [hq] at ho; cases ho
      | true =>
        rw [hq] at ho
        dsimp only [cond_true] at ho
        split at ho
        · rename_i h' hp
          cases ho
          simp only [Bool.and_eq_true] at hq
          have e := px_beqT hq.1.1
          subst e
          obtain ⟨C, T, N, hc, hfN, hlink⟩ := px_fld_ok hf
          have hcl := px_cl hc
          have hn := px_n_of hc
          obtain ⟨w1, w2, w3, w4⟩ := px_put_ok (base := base) (rb := rb) (dA := dA) hp ha (by rw [hn]; exact hfN)
          intro H locs ls cells slots I
          obtain ⟨hP, hS, hl, hcc, hsl, hsc⟩ := I
          have hget := px_w_get (ad := px_ad base rb) (dA := dA) ha
          have goOn : ∀ (H1 : Heap) (locs1 : List Loc), va_P D vwCl ((px_w (px_ad base rb) dA h).set a (px_ad base rb a, .inr (ci, (px_fs (px_ad base rb) (h.2.1 a) (h.2.2.1 a) (h.2.2.2 a) ci).set f (px_v (px_ad base rb) v)))) H1 → va_S (fun q => base ≤ q) s.heap H1 locs1 → W p l e R s m args below meth c H1 locs1 cells slots Q (F0 m (pc + 3) ls (st.map (px_v (px_ad base rb)))) := by
            intro H1 locs1 hP1 hS1
            rw [w4] at hP1
            exact kk H1 locs1 ls cells slots ⟨hP1, hS1, hl, by show _ = h'.1.length; rw [w3]; exact hcc, by show _ = px_sl h'.1; rw [w3]; exact hsl, by show h'.1.length ≤ _; rw [w3]; exact hsc⟩
          have hmp := hq.2
          unfold px_mayPut at hmp
          rw [hc] at hmp
          cases hfin : (T f).2.2.2 with
          | false => exact va_put (D := D) (ci := ci) (C := C) (T := T) (N := N) hx hb hts hcl.2.1 (px_ty ci) hcl.2.2.1 hcl.2.2.2.1 hown hK hP (px_w_D hsc) hS a hget hc f hfN (hts _ hlink) (fun _ h9 => h9) hfin (hcl.2.2.1 f hfN) w1 w2 (by show f < (px_fs _ _ _ _ _).length; rw [px_fs_len, hn]; exact hfN) hdg (fun H1 locs1 hP1 _ hS1 => goOn H1 locs1 hP1 hS1)
          | true =>
            simp only [hfin, Bool.not_true, Bool.false_or, Bool.and_eq_true, beq_iff_eq] at hmp
            exact va_putF (D := D) (ci := ci) (C := C) (T := T) (N := N) hx hb hts hcl.2.1 (px_ty ci) hcl.2.2.1 hcl.2.2.2.1 hown hK hP (px_w_D hsc) hS a hget hc f hfN (hts _ hlink) (fun _ h9 => h9) hfin (hin hmp.1) hmp.2 (hcl.2.2.1 f hfN) w1 w2 (by show f < (px_fs _ _ _ _ _).length; rw [px_fs_len, hn]; exact hfN) hdg (fun H1 locs1 hP1 _ hS1 => goOn H1 locs1 hP1 hS1)
        · cases ho
    · cases ho
  · cases ho
theorem px_s_iald (Cx : px_Cx p s m args meth c base rb ro D dA k c0) (hdg : decode (px_m k).2.2.2.1 pc = .ok (.iaload, 1)) (ho : px_oIald ro (pc + 1) lv st h = some σ) (kk : px_Go p l e R s m args below meth c base rb D dA k c0 s0 Q σ) : px_Go p l e R s m args below meth c base rb D dA k c0 s0 Q (pc, lv, st, h) := by
  obtain ⟨hx, hb, hml, hown, hts, hnest, hao, hK, hsz, hro, hin, hst9⟩ := Cx
  unfold px_oIald at ho
  split at ho
  · rename_i i a st
    cases hq : Nat.ble px_SC a with
    | true =>
      rw [hq] at ho
      dsimp only [cond_true] at ho
      split at ho
      · rename_i n xs hr
        cases hi : px_in i n with
        | false => rw [hi] at ho; cases ho
        | true =>
          rw [hi] at ho
          cases ho
          have hX := hro _ _ _ hr
          intro H locs ls cells slots I
          have hle := px_bleT hq
          have ead : px_ad base rb a = rb (a - px_SC) := if_neg (by omega)
          have K := kk H locs ls cells slots I
          show W p l e R s m args below meth c H locs cells slots Q (F0 m pc ls (.int i :: .ref (px_ad base rb a) :: _))
          rw [ead]
          exact va_ti hx hb hX I.2.1 (px_inT hi) rfl hdg K
      · cases ho
    | false =>
      rw [hq] at ho
      dsimp only [cond_false] at ho
      split at ho
      · rename_i n ha
        cases hi : px_in i n with
        | false => rw [hi] at ho; cases ho
        | true =>
          rw [hi] at ho
          cases ho
          intro H locs ls cells slots I
          exact va_iald hx hb hK I.1 a 0 (px_w_get ha) rfl (px_inT hi) hdg (kk H locs ls cells slots I)
      · cases ho
  · cases ho
theorem px_s_zald (Cx : px_Cx p s m args meth c base rb ro D dA k c0) (hdg : decode (px_m k).2.2.2.1 pc = .ok (.baload, 1)) (ho : px_oZald (pc + 1) lv st h = some σ) (kk : px_Go p l e R s m args below meth c base rb D dA k c0 s0 Q σ) : px_Go p l e R s m args below meth c base rb D dA k c0 s0 Q (pc, lv, st, h) := by
  obtain ⟨hx, hb, hml, hown, hts, hnest, hao, hK, hsz, hro, hin, hst9⟩ := Cx
  unfold px_oZald at ho
  split at ho
  · rename_i i a st
    split at ho
    · rename_i n ha
      cases hq : (px_in i n && Nat.blt a px_SC) with
      | false => rw [hq] at ho; cases ho
      | true =>
        rw [hq] at ho
        cases ho
        rw [Bool.and_eq_true] at hq
        intro H locs ls cells slots I
        exact va_zald hx hb hK I.1 a 2 (px_w_get ha) rfl (px_inT hq.1) hdg (kk H locs ls cells slots I)
    · cases ho
  · cases ho
theorem px_s_lald (Cx : px_Cx p s m args meth c base rb ro D dA k c0) (hdg : decode (px_m k).2.2.2.1 pc = .ok (.laload, 1)) (ho : px_oLald (pc + 1) lv st h = some σ) (kk : px_Go p l e R s m args below meth c base rb D dA k c0 s0 Q σ) : px_Go p l e R s m args below meth c base rb D dA k c0 s0 Q (pc, lv, st, h) := by
  obtain ⟨hx, hb, hml, hown, hts, hnest, hao, hK, hsz, hro, hin, hst9⟩ := Cx
  unfold px_oLald at ho
  split at ho
  · rename_i i a st
    split at ho
    · rename_i n ha
      cases hq : (px_in i n && Nat.blt a px_SC) with
      | false => rw [hq] at ho; cases ho
      | true =>
        rw [hq] at ho
        cases ho
        rw [Bool.and_eq_true] at hq
        intro H locs ls cells slots I
        exact va_lald hx hb hK I.1 a 1 (px_w_get ha) rfl (px_inT hq.1) hdg (kk H locs ls cells slots I)
    · cases ho
  · cases ho
theorem px_s_iast (Cx : px_Cx p s m args meth c base rb ro D dA k c0) (hdg : decode (px_m k).2.2.2.1 pc = .ok (.iastore, 1)) (ho : px_oIast (pc + 1) lv st h = some σ) (kk : px_Go p l e R s m args below meth c base rb D dA k c0 s0 Q σ) : px_Go p l e R s m args below meth c base rb D dA k c0 s0 Q (pc, lv, st, h) := by
  obtain ⟨hx, hb, hml, hown, hts, hnest, hao, hK, hsz, hro, hin, hst9⟩ := Cx
  unfold px_oIast at ho
  split at ho
  · rename_i x i a st
    split at ho
    · rename_i n ha
      cases hq : (px_in i n && Nat.blt a px_SC) with
      | false => rw [hq] at ho; cases ho
      | true =>
        rw [hq] at ho
        cases ho
        rw [Bool.and_eq_true] at hq
        intro H locs ls cells slots I
        obtain ⟨hP, hS, hl, hcc, hsl, hsc⟩ := I
        refine va_iast hx hb hK hP (px_w_D hsc) hS a 0 (px_w_get ha) rfl (px_inT hq.1) hdg (fun H1 locs1 hP1 _ hS1 => ?_)
        rw [px_upd_row (f := h.2.1), px_setI (g := px_up h.2.1 a i.toNatClampNeg x) ha (Or.inl rfl) (fun j hj => px_up_ne hj)] at hP1
        exact kk H1 locs1 ls cells slots ⟨hP1, hS1, hl, hcc, hsl, hsc⟩
    · cases ho
  · cases ho
theorem px_s_zast (Cx : px_Cx p s m args meth c base rb ro D dA k c0) (hdg : decode (px_m k).2.2.2.1 pc = .ok (.bastore, 1)) (ho : px_oZast (pc + 1) lv st h = some σ) (kk : px_Go p l e R s m args below meth c base rb D dA k c0 s0 Q σ) : px_Go p l e R s m args below meth c base rb D dA k c0 s0 Q (pc, lv, st, h) := by
  obtain ⟨hx, hb, hml, hown, hts, hnest, hao, hK, hsz, hro, hin, hst9⟩ := Cx
  unfold px_oZast at ho
  split at ho
  · rename_i x i a st
    split at ho
    · rename_i n ha
      cases hq : (px_in i n && Nat.blt a px_SC) with
      | false => rw [hq] at ho; cases ho
      | true =>
        rw [hq] at ho
        cases ho
        rw [Bool.and_eq_true] at hq
        intro H locs ls cells slots I
        obtain ⟨hP, hS, hl, hcc, hsl, hsc⟩ := I
        refine va_zast hx hb hK hP (px_w_D hsc) hS a 2 (px_w_get ha) rfl (px_inT hq.1) hdg (fun H1 locs1 hP1 _ hS1 => ?_)
        rw [show vp_nar .boolean x = x &&& 1 from rfl, px_upd_row (f := h.2.1), px_setI (g := px_up h.2.1 a i.toNatClampNeg (x &&& 1)) ha (Or.inr rfl) (fun j hj => px_up_ne hj)] at hP1
        exact kk H1 locs1 ls cells slots ⟨hP1, hS1, hl, hcc, hsl, hsc⟩
    · cases ho
  · cases ho
theorem px_s_last (Cx : px_Cx p s m args meth c base rb ro D dA k c0) (hdg : decode (px_m k).2.2.2.1 pc = .ok (.lastore, 1)) (ho : px_oLast (pc + 1) lv st h = some σ) (kk : px_Go p l e R s m args below meth c base rb D dA k c0 s0 Q σ) : px_Go p l e R s m args below meth c base rb D dA k c0 s0 Q (pc, lv, st, h) := by
  obtain ⟨hx, hb, hml, hown, hts, hnest, hao, hK, hsz, hro, hin, hst9⟩ := Cx
  unfold px_oLast at ho
  split at ho
  · rename_i x i a st
    split at ho
    · rename_i n ha
      cases hq : (px_in i n && Nat.blt a px_SC) with
      | false => rw [hq] at ho; cases ho
      | true =>
        rw [hq] at ho
        cases ho
        rw [Bool.and_eq_true] at hq
        intro H locs ls cells slots I
        obtain ⟨hP, hS, hl, hcc, hsl, hsc⟩ := I
        refine va_last hx hb hK hP (px_w_D hsc) hS a 1 (px_w_get ha) rfl (px_inT hq.1) hdg (fun H1 locs1 hP1 _ hS1 => ?_)
        rw [px_updL_row (f := h.2.2.1), px_setJ (g := px_up h.2.2.1 a i.toNatClampNeg x) ha (fun j hj => px_up_ne hj)] at hP1
        exact kk H1 locs1 ls cells slots ⟨hP1, hS1, hl, hcc, hsl, hsc⟩
    · cases ho
  · cases ho
theorem px_s_aald (Cx : px_Cx p s m args meth c base rb ro D dA k c0) (hdg : decode (px_m k).2.2.2.1 pc = .ok (.aaload, 1)) (ho : px_oAald (pc + 1) lv st h = some σ) (kk : px_Go p l e R s m args below meth c base rb D dA k c0 s0 Q σ) : px_Go p l e R s m args below meth c base rb D dA k c0 s0 Q (pc, lv, st, h) := by
  obtain ⟨hx, hb, hml, hown, hts, hnest, hao, hK, hsz, hro, hin, hst9⟩ := Cx
  unfold px_oAald at ho
  split at ho
  · rename_i i a st
    split at ho
    · rename_i n ha
      cases hq : (px_in i n && Nat.blt a px_SC) with
      | false => rw [hq] at ho; cases ho
      | true =>
        rw [hq] at ho
        cases ho
        rw [Bool.and_eq_true] at hq
        intro H locs ls cells slots I
        have K := kk H locs ls cells slots I
        rw [List.map_cons, px_v_rf] at K
        exact va_aldq hx hb hK I.1 a 3 (px_w_get ha) rfl (px_inT hq.1) hdg K
    · cases ho
  · cases ho
theorem px_s_aast (Cx : px_Cx p s m args meth c base rb ro D dA k c0) (hdg : decode (px_m k).2.2.2.1 pc = .ok (.aastore, 1)) (ho : px_oAast (pc + 1) lv st h = some σ) (kk : px_Go p l e R s m args below meth c base rb D dA k c0 s0 Q σ) : px_Go p l e R s m args below meth c base rb D dA k c0 s0 Q (pc, lv, st, h) := by
  obtain ⟨hx, hb, hml, hown, hts, hnest, hao, hK, hsz, hro, hin, hst9⟩ := Cx
  unfold px_oAast at ho
  split at ho
  · rename_i b i a st
    split at ho
    · rename_i n ha hbb
      cases hq : (px_in i n && Nat.blt a px_SC && Nat.blt b px_SC) with
      | false => rw [hq] at ho; cases ho
      | true =>
        rw [hq] at ho
        cases ho
        simp only [Bool.and_eq_true] at hq
        intro H locs ls cells slots I
        obtain ⟨hP, hS, hl, hcc, hsl, hsc⟩ := I
        refine va_astq hx hb hK hP (px_w_D hsc) hS a 3 b 7 (r := (RX7, TX7, 8)) (px_w_get ha) rfl (px_w_get hbb) rfl (px_inT hq.1.1) hdg (fun H1 locs1 hP1 _ hS1 => ?_)
        have e : va_up (fun i => (h.2.2.2 a i).map (px_ad base rb)) i.toNatClampNeg (some (px_ad base rb b)) = fun j => (px_up h.2.2.2 a i.toNatClampNeg (some b) a j).map (px_ad base rb) := by
          funext j
          rw [px_up_eq]
          unfold va_up
          by_cases ej : j = i.toNatClampNeg
          · subst ej
            rw [if_pos rfl]
            show _ = Option.map _ (cond (Nat.beq _ _) _ _)
            rw [show ∀ q, Nat.beq q q = true from Nat.beq_refl]; rfl
          · rw [if_neg ej]
            show _ = Option.map _ (cond (Nat.beq _ _) _ _)
            rw [px_beqN ej]; rfl
        rw [e, px_setP (g := px_up h.2.2.2 a i.toNatClampNeg (some b)) ha (fun j hj => px_up_ne hj)] at hP1
        exact kk H1 locs1 ls cells slots ⟨hP1, hS1, hl, hcc, hsl, hsc⟩
    · cases ho
  · cases ho
theorem px_s_len (Cx : px_Cx p s m args meth c base rb ro D dA k c0) (hdg : decode (px_m k).2.2.2.1 pc = .ok (.arraylength, 1)) (ho : px_oLen ro (pc + 1) lv st h = some σ) (kk : px_Go p l e R s m args below meth c base rb D dA k c0 s0 Q σ) : px_Go p l e R s m args below meth c base rb D dA k c0 s0 Q (pc, lv, st, h) := by
  obtain ⟨hx, hb, hml, hown, hts, hnest, hao, hK, hsz, hro, hin, hst9⟩ := Cx
  unfold px_oLen at ho
  split at ho
  · rename_i a st
    cases hq : Nat.ble px_SC a with
    | true =>
      rw [hq] at ho
      dsimp only [cond_true] at ho
      split at ho
      · rename_i n xs hr
        cases ho
        have hX := hro _ _ _ hr
        intro H locs ls cells slots I
        have hle := px_bleT hq
        have ead : px_ad base rb a = rb (a - px_SC) := if_neg (by omega)
        have K := kk H locs ls cells slots I
        show W p l e R s m args below meth c H locs cells slots Q (F0 m pc ls (.ref (px_ad base rb a) :: _))
        rw [ead]
        exact va_tlen hx hb hX I.2.1 rfl hdg K
      · cases ho
    | false =>
      rw [hq] at ho
      dsimp only [cond_false] at ho
      split at ho
      · rename_i t n ha
        cases ht : Nat.blt t 4 with
        | false => rw [ht] at ho; cases ho
        | true =>
          rw [ht] at ho
          cases ho
          have ht := px_bltT ht
          intro H locs ls cells slots I
          have hget := px_w_get (ad := px_ad base rb) (dA := dA) ha
          have hty : ∃ ty, (px_tys dA)[t]? = some (dA t, ty) := by
            match t, ht with
            | 0, _ => exact ⟨_, rfl⟩
            | 1, _ => exact ⟨_, rfl⟩
            | 2, _ => exact ⟨_, rfl⟩
            | 3, _ => exact ⟨_, rfl⟩
          obtain ⟨ty, hty⟩ := hty
          exact va_alen hx hb hK I.1 a t hget hty rfl hdg (kk H locs ls cells slots I)
      · cases ho
  · cases ho
/-- what a new cell needs: its address is the next one -/
theorem px_newI {H1 : Heap} {locs : List Loc} {ls : Array Slot} {cells slots q : Nat} {sh : px_Sh} {lv : px_L} (hP1 : va_P D vwCl (px_w (px_ad base rb) dA h ++ [(q, px_cell (px_ad base rb) dA (fun _ => 0) (fun _ => 0) (fun _ => none) sh)]) H1) (hD1 : va_D (fun q => base ≤ q) (px_w (px_ad base rb) dA h ++ [(q, px_cell (px_ad base rb) dA (fun _ => 0) (fun _ => 0) (fun _ => none) sh)])) (hS1 : va_S (fun q => base ≤ q) s.heap H1 locs) (hl : lv_has ls (px_maxL k) (px_lv (px_ad base rb) lv)) (hsz : s.heap.size = base + c0) (hc : cells + c0 = h.1.length) (hsl : slots + s0 = px_sl h.1) (hlt : h.1.length < px_SC) (hH : H1.size ≤ s.heap.size + (cells + 1)) :
    q = px_ad base rb h.1.length ∧ px_I base rb D dA s k c0 s0 lv (px_new h sh) H1 locs ls (cells + 1) (slots + px_sl [sh]) := by
  have e := px_q hP1 hD1 (by omega) (by omega)
  have e2 : q = px_ad base rb h.1.length := by rw [px_ad_lt hlt]; exact e
  subst e2
  refine ⟨rfl, ?_, hS1, hl, ?_, ?_, ?_⟩
  · rw [px_w_new]; exact hP1
  · show _ = (h.1 ++ [sh]).length; rw [List.length_append]; simp; omega
  · show _ = px_sl (h.1 ++ [sh]); rw [px_sl_app]; omega
  · show (h.1 ++ [sh]).length ≤ _; rw [List.length_append]; simp; omega
theorem px_s_new {i : Nat} (Cx : px_Cx p s m args meth c base rb ro D dA k c0) (hdg : decode (px_m k).2.2.2.1 pc = .ok (.new i, 3)) (ho : px_oNew k i (pc + 3) lv st h = some σ) (hR : σ.2.2.2.1.length ≤ R.cells + c0 ∧ px_sl σ.2.2.2.1 ≤ R.slots + s0) (kk : px_Go p l e R s m args below meth c base rb D dA k c0 s0 Q σ) : px_Go p l e R s m args below meth c base rb D dA k c0 s0 Q (pc, lv, st, h) := by
  obtain ⟨hx, hb, hml, hown, hts, hnest, hao, hK, hsz, hro, hin, hst9⟩ := Cx
  unfold px_oNew at ho
  split at ho
  · rename_i ci hcl0
    cases hq : Nat.blt h.1.length px_SC with
    | false => rw [hq] at ho; cases ho
    | true =>
      rw [hq] at ho
      cases ho
      have hlt := px_bltT hq
      obtain ⟨C, T, N, hc, hlink⟩ := px_cls_ok hcl0
      have hcl := px_cl hc
      have hn := px_n_of hc
      intro H locs ls cells slots I
      obtain ⟨hP, hS, hl, hcc, hsl, hsc⟩ := I
      dsimp only at hP hl hcc hsl hsc
      have hR1 : (h.1 ++ [Sum.inr ci]).length ≤ R.cells + c0 := hR.1
      have hR2 : px_sl (h.1 ++ [Sum.inr ci]) ≤ R.slots + s0 := hR.2
      rw [List.length_append] at hR1
      rw [px_sl_app] at hR2
      have e1 : px_sl [Sum.inr ci] = N := by show px_n ci + 0 = N; omega
      simp only [List.length_cons, List.length_nil] at hR1
      refine va_new (ci := ci) (fs := px_fs (px_ad base rb) (fun _ => 0) (fun _ => 0) (fun _ => none) ci) (C := C) (T := T) (N := N) hx hb hts hcl.2.1 (px_ty ci) hcl.2.2.1 hown (hts _ hlink) (hts _ hcl.2.2.2.2.1) (hts _ hcl.2.2.2.2.2) hK hP (px_w_D hsc) hS (fun q hq => by show base ≤ q; omega) hc ?_ (by omega) (by omega) hdg (fun q H1 hP1 hD1 hS1 => ?_)
      · intro j hj
        unfold vp_V
        rw [List.getD_eq_getElem?_getD, px_fs_get (by rw [hn]; exact hj)]
        exact px_dflt (px_ty_good hc j hj)
      · refine px_sized (fun hH => ?_)
        obtain ⟨rfl, I1⟩ := px_newI (k := k) (c0 := c0) (s0 := s0) (sh := .inr ci) (lv := lv) hP1 hD1 hS1 hl hsz hcc hsl hlt hH
        rw [e1] at I1
        exact kk H1 locs ls (cells + 1) (slots + N) I1
  · cases ho
theorem px_RA_eq {U : State} {c1 c2 : ClassId} {ty : FieldType} (h1 : va_RA U c1 ty) (h2 : va_RA U c2 ty) : c1 = c2 := by
  cases ty with
  | object C =>
    obtain ⟨_, _, _, _, _, a⟩ := h1
    obtain ⟨_, _, _, _, _, b⟩ := h2
    exact Option.some.inj (a.symm.trans b)
  | _ => exact Option.some.inj (Eq.trans (Eq.symm h1) h2)
theorem px_s_newa {t : Nat} {aty : ArrayType} {ty : FieldType} (hat : newarray.typeOf aty = ty) (htt : (px_tys dA)[t]? = some (dA t, ty)) (harr : Cond.arrayClass ty ∈ px_ws) (hby : componentBytes ty ≤ 8) (hzero : ∀ (cA : ClassId) (n : Nat), vp_cell cA (n, px_arr (px_ad base rb) (fun _ => 0) (fun _ => 0) (fun _ => none) t) = arrV cA n (fun _ => defaultValue ty)) (Cx : px_Cx p s m args meth c base rb ro D dA k c0) (hdg : decode (px_m k).2.2.2.1 pc = .ok (.newarray aty, 2)) (ho : px_oNewa t (pc + 2) lv st h = some σ) (hR : σ.2.2.2.1.length ≤ R.cells + c0 ∧ px_sl σ.2.2.2.1 ≤ R.slots + s0) (kk : px_Go p l e R s m args below meth c base rb D dA k c0 s0 Q σ) : px_Go p l e R s m args below meth c base rb D dA k c0 s0 Q (pc, lv, st, h) := by
  obtain ⟨hx, hb, hml, hown, hts, hnest, hao, hK, hsz, hro, hin, hst9⟩ := Cx
  unfold px_oNewa at ho
  split at ho
  · rename_i n st
    cases hq : (Nat.blt h.1.length px_SC && decide (¬ n < 0) && Nat.ble n.toNatClampNeg 100000) with
    | false => rw [hq] at ho; cases ho
    | true =>
      rw [hq] at ho
      cases ho
      simp only [Bool.and_eq_true, decide_eq_true_eq] at hq
      obtain ⟨⟨q1, q2⟩, q3⟩ := hq
      have hlt := px_bltT q1
      have hnn := px_bleT q3
      intro H locs ls cells slots I
      obtain ⟨hP, hS, hl, hcc, hsl, hsc⟩ := I
      dsimp only at hP hl hcc hsl hsc
      have hR1 : (h.1 ++ [Sum.inl (t, n.toNatClampNeg)]).length ≤ R.cells + c0 := hR.1
      have hR2 : px_sl (h.1 ++ [Sum.inl (t, n.toNatClampNeg)]) ≤ R.slots + s0 := hR.2
      rw [List.length_append] at hR1
      rw [px_sl_app] at hR2
      have e1 : px_sl [Sum.inl (t, n.toNatClampNeg)] = n.toNatClampNeg := by show n.toNatClampNeg + 0 = _; omega
      simp only [List.length_cons, List.length_nil] at hR1
      have hby2 : n.toNatClampNeg * componentBytes ty ≤ 536870912 := Nat.le_trans (Nat.mul_le_mul hnn hby) (Nat.le_of_ble_eq_true rfl)
      refine va_newa (ty := ty) (N' := n.toNatClampNeg) (a0 := (n.toNatClampNeg, px_arr (px_ad base rb) (fun _ => 0) (fun _ => 0) (fun _ => none) t)) hx hb (by rw [hat]; exact hts _ harr) hat hK hP (px_w_D hsc) hS (fun q hq => by show base ≤ q; omega) (fun cA => hzero cA _) q2 rfl hby2 (by omega) (by omega) hdg (fun q cA H1 hK1 hP1 hD1 hS1 => ?_)
      have ecA : cA = dA t := px_RA_eq (hK1.2 (px_tys dA).length (cA, ty) (by rw [List.getElem?_append_right (Nat.le_refl _), Nat.sub_self]; rfl)).2 (hK.2 t _ htt).2
      subst ecA
      refine px_sized (fun hH => ?_)
      obtain ⟨rfl, I1⟩ := px_newI (k := k) (c0 := c0) (s0 := s0) (sh := .inl (t, n.toNatClampNeg)) (lv := lv) hP1 hD1 hS1 hl hsz hcc hsl hlt hH
      rw [e1] at I1
      exact kk H1 locs ls (cells + 1) (slots + n.toNatClampNeg) I1
  · cases ho
theorem px_s_anew {i : Nat} (Cx : px_Cx p s m args meth c base rb ro D dA k c0) (hdg : decode (px_m k).2.2.2.1 pc = .ok (.anewarray i, 3)) (ho : px_oAnew k i (pc + 3) lv st h = some σ) (hR : σ.2.2.2.1.length ≤ R.cells + c0 ∧ px_sl σ.2.2.2.1 ≤ R.slots + s0) (kk : px_Go p l e R s m args below meth c base rb D dA k c0 s0 Q σ) : px_Go p l e R s m args below meth c base rb D dA k c0 s0 Q (pc, lv, st, h) := by
  obtain ⟨hx, hb, hml, hown, hts, hnest, hao, hK, hsz, hro, hin, hst9⟩ := Cx
  unfold px_oAnew at ho
  split at ho
  · rename_i hcl0
    unfold px_oNewa at ho
    split at ho
    · rename_i n st
      cases hq : (Nat.blt h.1.length px_SC && decide (¬ n < 0) && Nat.ble n.toNatClampNeg 100000) with
      | false => rw [hq] at ho; cases ho
      | true =>
        rw [hq] at ho
        cases ho
        simp only [Bool.and_eq_true, decide_eq_true_eq] at hq
        obtain ⟨⟨q1, q2⟩, q3⟩ := hq
        have hlt := px_bltT q1
        have hnn := px_bleT q3
        obtain ⟨C, T, N, hc, hlink⟩ := px_cls_ok hcl0
        cases hc
        intro H locs ls cells slots I
        obtain ⟨hP, hS, hl, hcc, hsl, hsc⟩ := I
        dsimp only at hP hl hcc hsl hsc
        have hR1 : (h.1 ++ [Sum.inl (3, n.toNatClampNeg)]).length ≤ R.cells + c0 := hR.1
        have hR2 : px_sl (h.1 ++ [Sum.inl (3, n.toNatClampNeg)]) ≤ R.slots + s0 := hR.2
        rw [List.length_append] at hR1
        rw [px_sl_app] at hR2
        have e1 : px_sl [Sum.inl (3, n.toNatClampNeg)] = n.toNatClampNeg := by show n.toNatClampNeg + 0 = _; omega
        simp only [List.length_cons, List.length_nil] at hR1
        refine va_newq (C := "ElevenBullocks$Script") (N' := n.toNatClampNeg) hx hb hown (hts _ hlink) hao hK hP (px_w_D hsc) hS (fun q hq => by show base ≤ q; omega) q2 rfl (by omega) (by omega) (by omega) hdg (fun q cA H1 hK1 hP1 hD1 hS1 => ?_)
        have ecA : cA = dA 3 := px_RA_eq (hK1.2 (px_tys dA).length (cA, .object "ElevenBullocks$Script") (by rw [List.getElem?_append_right (Nat.le_refl _), Nat.sub_self]; rfl)).2 (hK.2 3 _ rfl).2
        subst ecA
        refine px_sized (fun hH => ?_)
        obtain ⟨rfl, I1⟩ := px_newI (k := k) (c0 := c0) (s0 := s0) (sh := .inl (3, n.toNatClampNeg)) (lv := lv) hP1 hD1 hS1 hl hsz hcc hsl hlt hH
        rw [e1] at I1
        exact kk H1 locs ls (cells + 1) (slots + n.toNatClampNeg) I1
    · cases ho
  · cases ho
end PXH
