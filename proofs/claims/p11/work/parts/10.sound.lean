/-! calls, and the whole of a method -/
def px_ext (a b : List px_Sh) : Prop := ∃ t, b = a ++ t
theorem px_ext_rf {a : List px_Sh} : px_ext a a := ⟨[], by simp⟩
theorem px_ext_tr {a b c : List px_Sh} (h1 : px_ext a b) (h2 : px_ext b c) : px_ext a c := by
  obtain ⟨t, rfl⟩ := h1
  obtain ⟨u, rfl⟩ := h2
  exact ⟨t ++ u, by simp⟩
theorem px_ext_one {a : List px_Sh} {sh : px_Sh} : px_ext a (a ++ [sh]) := ⟨[sh], rfl⟩
theorem px_sl_le : ∀ (t a : List px_Sh), px_sl a ≤ px_sl (a ++ t)
  | [], a => by simp
  | x :: t, a => by
    have h := px_sl_le t (a ++ [x])
    rw [px_sl_app] at h
    rw [List.append_assoc] at h
    exact Nat.le_trans (Nat.le_add_right _ _) h
theorem px_ext_le {a b : List px_Sh} (h : px_ext a b) : a.length ≤ b.length ∧ px_sl a ≤ px_sl b := by
  obtain ⟨t, rfl⟩ := h
  exact ⟨by simp, px_sl_le t a⟩
theorem px_put_ext {h h' : px_H} {k f : Nat} {ty : FieldType} {v : Value} (hp : px_put h k f ty v = some h') : h'.1 = h.1 := by
  unfold px_put at hp
  split at hp <;> first | (cases hp; rfl) | (split at hp <;> first | (cases hp; rfl) | cases hp) | cases hp
theorem px_oPut_e1 {k i pc : Nat} {lv : px_L} {st : List Value} {h : px_H} {σ : px_S} (ho : px_oPut k i pc lv st h = some σ) : σ.2.2.2.1 = h.1 := by
  unfold px_oPut at ho
  split at ho
  · rename_i v a st
    split at ho
    · rename_i ci f ci' hf ha
      cases hq : (Nat.beq ci ci' && Nat.blt a px_SC && px_mayPut k ci f) with
      | false => rw [hq] at ho; cases ho
      | true =>
        rw [hq] at ho
        dsimp only [cond_true] at ho
        split at ho
        · rename_i h' hp
          cases ho
          exact px_put_ext hp
        · cases ho
    · cases ho
  · cases ho
def px_e1 (a b : List px_Sh) : Prop := b = a ∨ ∃ sh, b = a ++ [sh] ∧ a.length < px_SC
theorem px_e1_rf {a : List px_Sh} : px_e1 a a := Or.inl rfl
theorem px_e1_one {a : List px_Sh} {sh : px_Sh} (h : a.length < px_SC) : px_e1 a (a ++ [sh]) := Or.inr ⟨sh, rfl, h⟩
theorem px_op_e1 {ro : px_RO} {k : Nat} {ins : Instr} {len pc : Nat} {lv : px_L} {st : List Value} {h : px_H} {σ : px_S} (ho : px_op ro k ins len pc lv st h = some σ) : px_e1 h.1 σ.2.2.2.1 := by
  have cnd : ∀ {b : Bool} {x : px_S}, (cond b (some x) none) = some σ → x = σ := by
    intro b x h9
    cases b with
    | false => cases h9
    | true => cases h9; rfl
  have cnb : ∀ {b : Bool} {x : px_S}, (cond b (some x) none) = some σ → b = true := by
    intro b x h9
    cases b with
    | false => cases h9
    | true => rfl
  unfold px_op at ho
  split at ho
  all_goals first
    | (cases ho; exact px_e1_rf)
    | (cases ho; done)
    | skip
  all_goals first
    | (unfold px_psh at ho; split at ho <;> first | (cases ho; exact px_e1_rf) | cases ho)
    | (unfold px_jmp at ho; split at ho <;> first | (cases ho; exact px_e1_rf) | cases ho)
    | (unfold px_oSto at ho; split at ho <;> first | (split at ho <;> first | (cases ho; exact px_e1_rf) | cases ho) | cases ho)
    | (unfold px_oInc at ho; split at ho <;> first | (have e := cnd ho; subst e; exact px_e1_rf) | cases ho)
    | (unfold px_oAri at ho; split at ho <;> first | (split at ho <;> first | (cases ho; exact px_e1_rf) | cases ho) | cases ho)
    | (unfold px_oArl at ho; split at ho <;> first | (split at ho <;> first | (cases ho; exact px_e1_rf) | cases ho) | cases ho)
    | (unfold px_oIneg at ho; split at ho <;> first | (cases ho; exact px_e1_rf) | cases ho)
    | (unfold px_oLneg at ho; split at ho <;> first | (cases ho; exact px_e1_rf) | cases ho)
    | (unfold px_oI2l at ho; split at ho <;> first | (cases ho; exact px_e1_rf) | cases ho)
    | (unfold px_oL2i at ho; split at ho <;> first | (cases ho; exact px_e1_rf) | cases ho)
    | (unfold px_oLcmp at ho; split at ho <;> first | (cases ho; exact px_e1_rf) | cases ho)
    | (unfold px_oLshl at ho; split at ho <;> first | (cases ho; exact px_e1_rf) | cases ho)
    | (unfold px_oLshr at ho; split at ho <;> first | (cases ho; exact px_e1_rf) | cases ho)
    | (unfold px_oDup at ho; split at ho <;> first | (have e := cnd ho; subst e; exact px_e1_rf) | cases ho)
    | (unfold px_oPop at ho; split at ho <;> first | (have e := cnd ho; subst e; exact px_e1_rf) | cases ho)
    | (unfold px_oIf at ho; split at ho <;> first | (split at ho <;> first | (cases ho; exact px_e1_rf) | cases ho) | cases ho)
    | (unfold px_oIcmp at ho; split at ho <;> first | (split at ho <;> first | (cases ho; exact px_e1_rf) | cases ho) | cases ho)
    | (unfold px_oDup2 at ho
       split at ho
       · rename_i v w st
         cases hq : (Nat.beq v.category 1 && Nat.beq w.category 1) with
         | true => rw [hq] at ho; cases ho; exact px_e1_rf
         | false => rw [hq] at ho; dsimp only [cond_false] at ho; have e := cnd ho; subst e; exact px_e1_rf
       · have e := cnd ho; subst e; exact px_e1_rf
       · cases ho)
    | (unfold px_oNull at ho; split at ho <;> first | (unfold px_jmp at ho; split at ho <;> first | (cases ho; exact px_e1_rf) | cases ho) | (cases ho; exact px_e1_rf) | cases ho)
    | (unfold px_oNonnull at ho; split at ho <;> first | (unfold px_jmp at ho; split at ho <;> first | (cases ho; exact px_e1_rf) | cases ho) | (cases ho; exact px_e1_rf) | cases ho)
    | (unfold px_oTab at ho
       split at ho
       · split at ho
         · unfold px_jmp at ho; split at ho <;> first | (cases ho; exact px_e1_rf) | cases ho
         · split at ho
           · unfold px_jmp at ho; split at ho <;> first | (cases ho; exact px_e1_rf) | cases ho
           · cases ho
       · cases ho)
    | (rename_i dflt ps
       unfold px_oLook at ho
       split at ho
       · cases hq : ((ps.toList.zip (ps.toList.drop 1)).all (fun (a, next) => a.1 < next.1)) with
         | false => rw [hq] at ho; cases ho
         | true => rw [hq] at ho; dsimp only [cond_true] at ho; unfold px_jmp at ho; split at ho <;> first | (cases ho; exact px_e1_rf) | cases ho
       · cases ho)
    | (unfold px_oGet at ho; split at ho <;> first | (split at ho <;> first | (have e := cnd ho; subst e; exact px_e1_rf) | cases ho) | cases ho)
    | (have e := px_oPut_e1 ho; rw [e]; exact px_e1_rf)
    | (unfold px_oIald at ho
       split at ho
       · rename_i i a st
         cases hq : Nat.ble px_SC a with
         | true => rw [hq] at ho; dsimp only [cond_true] at ho; split at ho <;> first | (have e := cnd ho; subst e; exact px_e1_rf) | cases ho
         | false => rw [hq] at ho; dsimp only [cond_false] at ho; split at ho <;> first | (have e := cnd ho; subst e; exact px_e1_rf) | cases ho
       · cases ho)
    | (unfold px_oZald at ho; split at ho <;> first | (split at ho <;> first | (have e := cnd ho; subst e; exact px_e1_rf) | cases ho) | cases ho)
    | (unfold px_oLald at ho; split at ho <;> first | (split at ho <;> first | (have e := cnd ho; subst e; exact px_e1_rf) | cases ho) | cases ho)
    | (unfold px_oAald at ho; split at ho <;> first | (split at ho <;> first | (have e := cnd ho; subst e; exact px_e1_rf) | cases ho) | cases ho)
    | (unfold px_oIast at ho; split at ho <;> first | (split at ho <;> first | (have e := cnd ho; subst e; exact px_e1_rf) | cases ho) | cases ho)
    | (unfold px_oZast at ho; split at ho <;> first | (split at ho <;> first | (have e := cnd ho; subst e; exact px_e1_rf) | cases ho) | cases ho)
    | (unfold px_oLast at ho; split at ho <;> first | (split at ho <;> first | (have e := cnd ho; subst e; exact px_e1_rf) | cases ho) | cases ho)
    | (unfold px_oAast at ho; split at ho <;> first | (split at ho <;> first | (have e := cnd ho; subst e; exact px_e1_rf) | cases ho) | cases ho)
    | (unfold px_oLen at ho
       split at ho
       · rename_i a st
         cases hq : Nat.ble px_SC a with
         | true => rw [hq] at ho; dsimp only [cond_true] at ho; split at ho <;> first | (cases ho; exact px_e1_rf) | cases ho
         | false => rw [hq] at ho; dsimp only [cond_false] at ho; split at ho <;> first | (have e := cnd ho; subst e; exact px_e1_rf) | cases ho
       · cases ho)
    | (unfold px_oNew at ho; split at ho <;> first | (have e := cnd ho; have hb := cnb ho; subst e; exact px_e1_one (px_bltT hb)) | cases ho)
    | (unfold px_oNewa at ho; split at ho <;> first | (have e := cnd ho; have hb := cnb ho; simp only [Bool.and_eq_true] at hb; subst e; exact px_e1_one (px_bltT hb.1.1)) | cases ho)
    | (unfold px_oAnew at ho; split at ho <;> first | (unfold px_oNewa at ho; split at ho <;> first | (have e := cnd ho; have hb := cnb ho; simp only [Bool.and_eq_true] at hb; subst e; exact px_e1_one (px_bltT hb.1.1)) | cases ho) | cases ho)
    | (unfold px_oStr at ho
       rename_i i9
       cases hq : (Nat.beq (px_key k i9) 6179 && Nat.blt i9 1000) with
       | true => rw [hq] at ho; dsimp only [cond_true] at ho; split at ho <;> first | (have e := cnd ho; subst e; exact px_e1_rf) | cases ho
       | false =>
         rw [hq] at ho; dsimp only [cond_false] at ho
         cases hq1 : (Nat.beq (px_key k i9) 6183 && Nat.blt i9 1000) with
         | true => rw [hq1] at ho; dsimp only [cond_true] at ho; split at ho <;> first | (have e := cnd ho; subst e; exact px_e1_rf) | cases ho
         | false => rw [hq1] at ho; cases ho)
    | (split at ho
       · unfold px_oSp at ho; split at ho <;> first | (have e := cnd ho; subst e; exact px_e1_rf) | cases ho
       · cases ho)
    | (split at ho
       · unfold px_oSt at ho
         split at ho
         · unfold px_oCpy at ho; split at ho <;> first | (split at ho <;> first | (have e := cnd ho; subst e; exact px_e1_rf) | cases ho) | cases ho
         · unfold px_oMi at ho; split at ho <;> first | (have e := cnd ho; subst e; exact px_e1_rf) | cases ho
         · unfold px_oMi at ho; split at ho <;> first | (have e := cnd ho; subst e; exact px_e1_rf) | cases ho
         · unfold px_oMl at ho; split at ho <;> first | (have e := cnd ho; subst e; exact px_e1_rf) | cases ho
         · unfold px_oMl at ho; split at ho <;> first | (have e := cnd ho; subst e; exact px_e1_rf) | cases ho
         · cases ho
       · cases ho)
theorem px_op_ext {ro : px_RO} {k : Nat} {ins : Instr} {len pc : Nat} {lv : px_L} {st : List Value} {h : px_H} {σ : px_S} (ho : px_op ro k ins len pc lv st h = some σ) : px_ext h.1 σ.2.2.2.1 := by
  rcases px_op_e1 ho with e | ⟨sh, e, -⟩
  · rw [e]; exact px_ext_rf
  · rw [e]; exact px_ext_one
theorem px_op_sc {ro : px_RO} {k : Nat} {ins : Instr} {len pc : Nat} {lv : px_L} {st : List Value} {h : px_H} {σ : px_S} (ho : px_op ro k ins len pc lv st h = some σ) (hs : h.1.length ≤ px_SC) : σ.2.2.2.1.length ≤ px_SC := by
  rcases px_op_e1 ho with e | ⟨sh, e, hl⟩
  · rw [e]; exact hs
  · rw [e, List.length_append, List.length_singleton]; omega
/-- one step of px_ev: three ways -/
theorem px_ev_inv {ro : px_RO} {n d k : Nat} {pc : Nat} {lv : px_L} {st : List Value} {h : px_H} {r : Option Value} {hF : px_H} (he : px_ev ro (n + 1) (d + 1) k (pc, lv, st, h) = some (r, hF)) :
    ∃ ins len, px_fetch k pc = some (ins, len) ∧
      ((px_ret k ins st = some r ∧ h = hF) ∨
       (∃ j as rest v h1, px_inv k ins st h = some (j, as, rest) ∧ (rest.map fun v => v.category).sum ≤ 8 ∧ (lg_sl as).length ≤ px_maxL j ∧ px_ev ro n d j (0, lv_args 0 as, [], h) = some (v, h1) ∧ px_ev ro n (d + 1) k (pc + 3, lv, v.toList ++ rest, h1) = some (r, hF)) ∨
       (∃ σ, px_op ro k ins len pc lv st h = some σ ∧ px_ev ro n (d + 1) k σ = some (r, hF))) := by
  unfold px_ev at he
  split at he
  · cases he
  · rename_i ins len hf
    refine ⟨ins, len, hf, ?_⟩
    split at he
    · rename_i r' hr
      cases he
      exact Or.inl ⟨hr, rfl⟩
    · split at he
      · rename_i j as rest hi
        cases hq : (Nat.ble (rest.map fun v => v.category).sum 8 && Nat.ble (lg_sl as).length (px_maxL j)) with
        | false => rw [hq] at he; cases he
        | true =>
          rw [hq] at he
          dsimp only [cond_true] at he
          rw [Bool.and_eq_true] at hq
          split at he
          · rename_i v h1 hv
            exact Or.inr (Or.inl ⟨j, as, rest, v, h1, hi, px_bleT hq.1, px_bleT hq.2, hv, he⟩)
          · cases he
      · split at he
        · rename_i σ ho
          exact Or.inr (Or.inr ⟨σ, ho, he⟩)
        · cases he
theorem px_ev_ext {ro : px_RO} : ∀ (n d k : Nat) (σ : px_S) (r : Option Value) (hF : px_H), px_ev ro n d k σ = some (r, hF) → px_ext σ.2.2.2.1 hF.1 := by
  intro n
  induction n with
  | zero => intro d k σ r hF h; cases h
  | succ n ih =>
    intro d k σ r hF h
    obtain ⟨pc, lv, st, hp⟩ := σ
    cases d with
    | zero => cases h
    | succ d =>
      obtain ⟨ins, len, hf, h1⟩ := px_ev_inv h
      rcases h1 with ⟨-, rfl⟩ | ⟨j, as, rest, v, h1, hi, -, -, hc, hk⟩ | ⟨σ, ho, hk⟩
      · exact px_ext_rf
      · have a1 := ih _ _ _ _ _ hc
        have a2 := ih _ _ _ _ _ hk
        exact px_ext_tr (a := hp.1) (b := h1.1) a1 a2
      · exact px_ext_tr (px_op_ext ho) (ih _ _ _ _ _ hk)
theorem px_ev_sc {ro : px_RO} : ∀ (n d k : Nat) (σ : px_S) (r : Option Value) (hF : px_H), px_ev ro n d k σ = some (r, hF) → σ.2.2.2.1.length ≤ px_SC → hF.1.length ≤ px_SC := by
  intro n
  induction n with
  | zero => intro d k σ r hF h; cases h
  | succ n ih =>
    intro d k σ r hF h hs
    obtain ⟨pc, lv, st, hp⟩ := σ
    cases d with
    | zero => cases h
    | succ d =>
      obtain ⟨ins, len, hf, h1⟩ := px_ev_inv h
      rcases h1 with ⟨-, rfl⟩ | ⟨j, as, rest, v, h1, hi, -, -, hc, hk⟩ | ⟨σ, ho, hk⟩
      · exact hs
      · exact ih _ _ _ _ _ hk (ih _ _ _ _ _ hc hs)
      · exact ih _ _ _ _ _ hk (px_op_sc ho hs)
/-- a method's start and end -/
def px_Pc (base : Nat) (rb : Nat → Nat) (ro : px_RO) (D : va_G) (dA : Nat → ClassId) (h : px_H) (as : List Value) : Array Value → State → Prop := fun v U =>
  v = (as.map (px_v (px_ad base rb))).toArray ∧ U.heap.size = base + h.1.length ∧ va_P D vwCl (px_w (px_ad base rb) dA h) U.heap ∧ va_K D vwCl (px_tys dA) U ∧ (∀ (i L : Nat) (xs : Nat → Int32), ro[i]? = some (L, xs) → va_T .int (rb i) L (fun j => .int (xs j)) (fun q => base ≤ q) U U.heap) ∧ (∀ q ∈ px_nest, va_Nw (.methodLinkNest q.1 q.2.1 q.2.2.1 q.2.2.2) U) ∧ va_AO "ElevenBullocks$Script" U ∧ ps_St base rb U
def px_Qc (base : Nat) (rb : Nat → Nat) (D : va_G) (dA : Nat → ClassId) (r : Option Value) (h : px_H) : Array Value → State → Outcome → State → Prop := fun _ st o t =>
  o = .returned (r.map (px_v (px_ad base rb))) ∧ va_P D vwCl (px_w (px_ad base rb) dA h) t.heap ∧ va_F (fun q => base ≤ q) st t
def px_rm (d mc ms : Nat) : Room := { frames := d + 3, cells := mc, slots := ms, locals := 64 * (d + 3) }
def px_wsm (j : Nat) : List Cond := Cond.code (px_m j).2.1 (px_m j).2.2.2.1 (px_maxL j) (px_m j).2.2.2.2.2.1 :: px_ws
theorem px_Pc_blind {base : Nat} {rb : Nat → Nat} {ro : px_RO} {D : va_G} {dA : Nat → ClassId} {h : px_H} {as : List Value} : FrameBlind (px_Pc base rb ro D dA h as) := by
  intro a U g mk q
  obtain ⟨q0, q1, q2, q3, q4, q5, q6, q7⟩ := q
  exact ⟨q0, q1, q2, va_K.moved (u := U) (U := U.calling g mk a) (Vm.Alike.refl U.vm) q3, fun i L xs hi => va_T.moved (u := U) (U := U.calling g mk a) (Vm.Alike.refl U.vm) (q4 i L xs hi), fun z hz => va_Nw.same (u := U) (U := U.calling g mk a) rfl rfl (q5 z hz), va_AO.moved (u := U) (U := U.calling g mk a) (Vm.Alike.refl U.vm) q6, ⟨vk_S.moved (u := U) (U := U.calling g mk a) (Vm.Alike.refl U.vm) q7.1.1, va_Z.moved (u := U) (U := U.calling g mk a) (Vm.Alike.refl U.vm) q7.1.2.1, va_Zq.moved (u := U) (U := U.calling g mk a) (Vm.Alike.refl U.vm) q7.1.2.2⟩, vk_R.same (u := U) (U := U.calling g mk a) rfl q7.2.1, va_Z.moved (u := U) (U := U.calling g mk a) (Vm.Alike.refl U.vm) q7.2.2.1, va_Z.moved (u := U) (U := U.calling g mk a) (Vm.Alike.refl U.vm) q7.2.2.2⟩
theorem px_m_ok (j : Nat) : Cond.initialized (px_m j).2.1.cls ∈ px_ws ∧ plainName (px_m j).2.1.cls = true ∧ px_on (px_m j).2.2.1 = (px_m j).2.1.cls ∧ (parseMethodDescriptor (px_m j).2.1.desc).map (fun d => d.parameters.length) = some (px_m j).2.2.2.2.2.2.1 ∧ px_maxL j ≤ 20 ∧ (px_m j).2.1.cls ≠ "java/lang/invoke/MethodHandle" ∧ (px_m j).2.1.cls ≠ "java/lang/invoke/VarHandle" := by
  have h := px_all_get px_mT j px_mT_ok
  unfold px_mOk at h
  simp only [Bool.and_eq_true, decide_eq_true_eq] at h
  obtain ⟨⟨⟨⟨⟨⟨h1, h2⟩, h3⟩, h4⟩, h5⟩, h6⟩, h7⟩ := h
  exact ⟨px_mem h1, h2, h3, h4, h5, h6, h7⟩
theorem px_wsm_good {j : Nat} (hj : j < px_law) (hn : (px_m j).1 = j) : GoodIn px_ws (px_wsm j) := by
  intro w hw
  rcases List.mem_cons.mp hw with rfl | hw
  · have h := px_allP_get px_mT j px_mT_cw
    rcases h with h | h
    · exact absurd ((show (px_m j).1 = px_law from h).symm.trans hn) (by omega)
    · exact px_ws_good _ h
  · exact px_ws_good _ hw
theorem px_toList_map (ad : Nat → Nat) (v : Option Value) (rest : List Value) : (v.map (px_v ad)).toList ++ rest.map (px_v ad) = (v.toList ++ rest).map (px_v ad) := by
  cases v <;> rfl
/-- behind a call -/
theorem px_run_go {p : Program} {l : Launch} {e : Env} {R : Room} {s : State} {m : MethodId} {args : Array Value} {below : List Frame} {meth : Method} {c : Code} {Q : State → Prop} {base : Nat} {rb : Nat → Nat} {D : va_G} {dA : Nat → ClassId} {H : Heap} {locs : List Loc} {cells slots mc ms pc : Nat} {ls : Array Slot} {st0 rest : List Value} {v : Option Value} {h1 : px_H} {a : Array Value}
    (hr : va_Run p l e R s m args below meth c H locs cells slots mc ms (F0 m pc ls st0) (rest.map (px_v (px_ad base rb))) (px_Qc base rb D dA v h1 a) (fun q => base ≤ q)) (hS : va_S (fun q => base ≤ q) s.heap H locs)
    (kk : ∀ (H1 : Heap) (locs1 : List Loc), va_P D vwCl (px_w (px_ad base rb) dA h1) H1 → va_S (fun q => base ≤ q) s.heap H1 locs1 → W p l e R s m args below meth c H1 locs1 (cells + mc) (slots + ms) Q (F0 m (pc + 3) ls ((v.toList ++ rest).map (px_v (px_ad base rb))))) : W p l e R s m args below meth c H locs cells slots Q (F0 m pc ls st0) := by
  intro T hT X
  obtain ⟨v', st₀, t, T', L, h0, X', hL, e1, e2, ⟨hv, hP1, hz, hk⟩, st⟩ := hr T hT X
  cases hv
  rw [h0] at hz hk
  obtain ⟨t2, a1, b1⟩ := kk T'.heap (locs ++ L) (by rw [e1]; exact hP1) ⟨Nat.le_trans hS.1 (by rw [e1]; exact hz), fun q h1 h2 => by rw [e1, hk q (Nat.lt_of_lt_of_le h1 hS.1) h2]; exact hS.2.1 q h1 h2, fun q hq => by
      rcases List.mem_append.mp hq with h | h
      · exact hS.2.2 q h
      · exact hL q h⟩ T' rfl X'
  refine ⟨t2, st t2 ?_, b1⟩
  rw [px_toList_map]
  exact a1
theorem px_on_cl {ci : Nat} {r : vw_C} (h : vwCl[ci]? = some r) : r.1 = px_on ci := by
  match ci, h with
  | 0, h => cases h; rfl
  | 1, h => cases h; rfl
  | 2, h => cases h; rfl
  | 3, h => cases h; rfl
  | 4, h => cases h; rfl
  | 5, h => cases h; rfl
  | 6, h => cases h; rfl
  | 7, h => cases h; rfl
  | 8, h => cases h; rfl
  | 9, h => cases h; rfl
  | 10, h => cases h; rfl
  | 11, h => cases h; rfl
  | 12, h => cases h; rfl
  | n + 13, h => simp [vwCl] at h
/-- the room a method needs -/
def px_Rm (R : Room) (d : Nat) (hF : px_H) (c0 s0 : Nat) : Prop := d + 3 ≤ R.frames ∧ 64 * (d + 3) ≤ R.locals ∧ hF.1.length ≤ R.cells + c0 ∧ px_sl hF.1 ≤ R.slots + s0
/-- a call's stack -/
theorem px_inv_st {k j : Nat} {ins : Instr} {st as rest : List Value} {h : px_H} (hi : px_inv k ins st h = some (j, as, rest)) :
    (∃ i, ins = .invokestatic i ∧ (px_call k i = some (0, j) ∨ px_call k i = some (3, j)) ∧ as.length = (px_m j).2.2.2.2.2.2.1 ∧ st = as.reverse ++ rest) ∨
    (∃ i a as', ins = .invokevirtual i ∧ px_call k i = some (1, j) ∧ as = .ref a :: as' ∧ as'.length = (px_m j).2.2.2.2.2.2.1 ∧ st = as'.reverse ++ .ref a :: rest ∧ a < px_SC ∧ h.1[a]? = some (.inr (px_m j).2.2.1)) ∨
    (∃ i a as', ins = .invokespecial i ∧ px_call k i = some (2, j) ∧ as = .ref a :: as' ∧ as'.length = (px_m j).2.2.2.2.2.2.1 ∧ st = as'.reverse ++ .ref a :: rest) := by
  have key : ∀ {n : Nat} {x : Value} {r : List Value}, st.drop n = x :: r → (st.take n).length = n ∧ st = (st.take n) ++ x :: r := by
    intro n x r hd
    have h1 : n < st.length := by
      rcases Nat.lt_or_ge n st.length with q | q
      · exact q
      · rw [List.drop_eq_nil_of_le q] at hd; cases hd
    exact ⟨by rw [List.length_take]; omega, by rw [← hd, List.take_append_drop]⟩
  unfold px_inv at hi
  split at hi
  · rename_i i
    split at hi
    · rename_i j' hc
      cases hq : Nat.ble (px_m j').2.2.2.2.2.2.1 st.length with
      | false => rw [hq] at hi; cases hi
      | true =>
        rw [hq] at hi
        cases hi
        have hle := px_bleT hq
        exact Or.inl ⟨i, rfl, Or.inl hc, by rw [List.length_reverse, List.length_take]; omega, by rw [List.reverse_reverse, List.take_append_drop]⟩
    · rename_i j' hc
      cases hq : Nat.ble (px_m j').2.2.2.2.2.2.1 st.length with
      | false => rw [hq] at hi; cases hi
      | true =>
        rw [hq] at hi
        cases hi
        have hle := px_bleT hq
        exact Or.inl ⟨i, rfl, Or.inr hc, by rw [List.length_reverse, List.length_take]; omega, by rw [List.reverse_reverse, List.take_append_drop]⟩
    · cases hi
  · rename_i i
    split at hi
    · rename_i j' hc
      split at hi
      · rename_i a rest' hd
        split at hi
        · rename_i ci ha
          cases hq : (Nat.beq ci (px_m j').2.2.1 && Nat.blt a px_SC) with
          | false => rw [hq] at hi; cases hi
          | true =>
            rw [hq] at hi
            cases hi
            rw [Bool.and_eq_true] at hq
            obtain ⟨k1, k2⟩ := key hd
            have e := px_beqT hq.1
            subst e
            exact Or.inr (Or.inl ⟨i, a, _, rfl, hc, rfl, by rw [List.length_reverse]; exact k1, by rw [List.reverse_reverse]; exact k2, px_bltT hq.2, ha⟩)
        · cases hi
      · cases hi
    · cases hi
  · rename_i i
    split at hi
    · rename_i j' hc
      split at hi
      · rename_i a rest' hd
        cases hi
        obtain ⟨k1, k2⟩ := key hd
        exact Or.inr (Or.inr ⟨i, a, _, rfl, hc, rfl, by rw [List.length_reverse]; exact k1, by rw [List.reverse_reverse]; exact k2⟩)
      · cases hi
    · cases hi
  · cases hi
/-- where a method with code returns, the machine does -/
theorem px_ret_go {p : Program} {l : Launch} {e : Env} {R : Room} {s : State} {m : MethodId} {args : Array Value} {below : List Frame} {meth : Method} {c : Code} {base : Nat} {rb : Nat → Nat} {ro : px_RO} {D : va_G} {dA : Nat → ClassId} {k : Nat} {h hF : px_H} {r : Option Value} (Cx : px_Cx p s m args meth c base rb ro D dA k h.1.length) (hret : meth.sig.returnType = (px_m k).2.2.2.2.2.1) (hlocks : meth.locks = false) {pc len : Nat} {lv : px_L} {st : List Value} {ins : Instr} (hf : px_fetch k pc = some (ins, len)) (hr : px_ret k ins st = some r) :
    px_Go p l e R s m args below meth c base rb D dA k h.1.length (px_sl h.1) (MQ below (px_Qc base rb D dA r hF) args s (hF.1.length - h.1.length) (px_sl hF.1 - px_sl h.1) (fun q => base ≤ q)) (pc, lv, st, hF) := by
  obtain ⟨hx, hb, hml, hown, hts, hnest, hao, hK, hsz, hro, hin, hst9⟩ := Cx
  obtain ⟨hdg, hlen⟩ := px_fetch_ok hf
  intro H locs ls cells slots I
  obtain ⟨hP, hS, hl, hcc, hsl, hsc⟩ := I
  dsimp only at hP hcc hsl
  have e1 : cells = hF.1.length - h.1.length := by omega
  have e2 : slots = px_sl hF.1 - px_sl h.1 := by omega
  subst e1
  subst e2
  unfold px_ret at hr
  split at hr
  · rename_i v hrt
    cases hr
    have e9 : len = 1 := px_beqT hlen
    subst e9
    exact W.iret hx hb (by rw [hret]; exact hrt) (fun t ht _ => ⟨rfl, by rw [ht]; exact hP, hS.F ht⟩) hS.2.2 hdg hlocks
  · rename_i v hrt
    split at hr
    · rename_i hv
      cases hr
      have e9 : len = 1 := px_beqT hlen
      subst e9
      exact W.zret (ty := .boolean) hx hb (by rw [hret]; exact hrt) (by rcases hv with rfl | rfl <;> rfl) (fun t ht _ => ⟨rfl, by rw [ht]; exact hP, hS.F ht⟩) hS.2.2 hdg hlocks
    · cases hr
  · rename_i v hrt
    cases hr
    have e9 : len = 1 := px_beqT hlen
    subst e9
    exact W.lret hx hb (by rw [hret]; exact hrt) (fun t ht _ => ⟨rfl, by rw [ht]; exact hP, hS.F ht⟩) hS.2.2 hdg hlocks
  · rename_i C a hrt
    cases hr
    have e9 : len = 1 := px_beqT hlen
    subst e9
    exact W.aret (rt := .object C) (v := .ref (px_ad base rb a)) hx hb (by rw [hret]; exact hrt) (Or.inl ⟨_, rfl⟩) (Or.inr ⟨_, rfl⟩) (fun t ht _ => ⟨rfl, by rw [ht]; exact hP, hS.F ht⟩) hS.2.2 hdg hlocks
  · rename_i C hrt
    cases hr
    have e9 : len = 1 := px_beqT hlen
    subst e9
    exact W.aret (rt := .object C) (v := .null) hx hb (by rw [hret]; exact hrt) (Or.inl ⟨_, rfl⟩) (Or.inl rfl) (fun t ht _ => ⟨rfl, by rw [ht]; exact hP, hS.F ht⟩) hS.2.2 hdg hlocks
  · rename_i hrt
    cases hr
    have e9 : len = 1 := px_beqT hlen
    subst e9
    exact W.vret hx hb (by rw [hret]; exact hrt) (fun t ht _ => ⟨rfl, by rw [ht]; exact hP, hS.F ht⟩) hS.2.2 hdg hlocks
  · cases hr
set_option maxHeartbeats 1000000 in
/-- THE PURE MACHINE IS SOUND -/
theorem px_sound {l : Launch} {base : Nat} {rb : Nat → Nat} {ro : px_RO} {D : va_G} {dA : Nat → ClassId} : ∀ (n d k : Nat) (σ : px_S) (r : Option Value) (hF : px_H), px_ev ro n d k σ = some (r, hF) →
    ∀ (p : Program) (e : Env) (R : Room) (s : State) (m : MethodId) (args : Array Value) (below : List Frame) (meth : Method) (c : Code) (c0 s0 : Nat) (Q : State → Prop), px_Cx p s m args meth c base rb ro D dA k c0 → px_Rm R d hF c0 s0 →
      (∀ (pc len : Nat) (lv : px_L) (st : List Value) (ins : Instr), px_fetch k pc = some (ins, len) → px_ret k ins st = some r → px_Go p l e R s m args below meth c base rb D dA k c0 s0 Q (pc, lv, st, hF)) →
      px_Go p l e R s m args below meth c base rb D dA k c0 s0 Q σ := by
  intro n
  induction n with
  | zero => intro d k σ r hF h; cases h
  | succ n ih =>
    intro d k σ r hF hev p e R s m args below meth c c0 s0 Q Cx Rm ret
    obtain ⟨pc, lv, st, h⟩ := σ
    cases d with
    | zero => cases hev
    | succ d =>
      obtain ⟨ins, len, hf, h1⟩ := px_ev_inv hev
      rcases h1 with ⟨hr, rfl⟩ | ⟨j, as, rest, v, h1, hi, hrs, hfit, hcal, hk⟩ | ⟨σ, ho, hk⟩
      · exact ret pc len lv st ins hf hr
      · -- a call
        have hgo := ih _ _ _ _ _ hk p e R s m args below meth c c0 s0 Q Cx Rm ret
        obtain ⟨hx, hb, hml, hown, hts, hnest, hao, hK, hsz, hro, hin, hst9⟩ := id Cx
        obtain ⟨r1, r2, r3, r4⟩ := Rm
        obtain ⟨hdg, hlen⟩ := px_fetch_ok hf
        have x1 := px_ext_le (px_ev_ext _ _ _ _ _ _ hcal)
        have x2 := px_ext_le (px_ev_ext _ _ _ _ _ _ hk)
        dsimp only at x1 x2
        obtain ⟨o1, o2, o3, o4, o5, o6, o7⟩ := px_m_ok j
        intro H locs ls cells slots I
        refine px_sized (fun hH => ?_)
        obtain ⟨hP, hS, hl, hcc, hsl, hsc⟩ := I
        dsimp only at hP hl hcc hsl hsc
        have hHs : H.size = base + h.1.length := by
          have hge : base + h.1.length ≤ H.size := by
            rcases Nat.eq_zero_or_pos h.1.length with z | z
            · have := hS.1; omega
            · have hlt : h.1.length - 1 < h.1.length := by omega
              have hg := (hP _ _ (px_w_get (List.getElem?_eq_getElem hlt))).lt
              dsimp only at hg
              rw [px_ad_lt (by omega)] at hg
              omega
          omega
        -- the callee's contract
        have hMet : ∀ (hjl : j < px_law) (hjn : (px_m j).1 = j), Met l (px_m j).2.1 (px_wsm j) (px_rm d (h1.1.length - h.1.length) (px_sl h1.1 - px_sl h.1)) (px_Pc base rb ro D dA h as) (px_Qc base rb D dA v h1) (h1.1.length - h.1.length) (px_sl h1.1 - px_sl h.1) (fun q => base ≤ q) := by
          intro hjl hjn
          refine Met.ofW (cc := (px_m j).2.2.2.1) (maxL := px_maxL j) (ret := (px_m j).2.2.2.2.2.1) o2 rfl ?_
          intro p' e' s' m' args' below' meth' c' s₁ B hml' hv
          obtain ⟨rfl, vsz, vP, vK, vro, vnest, vao, vst⟩ := hv
          have vts := atoms_spec (ws := px_wsm j) B.pre
          have Cx' : px_Cx p' s' m' (as.map (px_v (px_ad base rb))).toArray meth' c' base rb ro D dA j h.1.length := ⟨B.exec, B.bytes, hml', by rw [o3]; exact findClass_of_methodNamed B.named, fun w hw => vts w (List.mem_cons_of_mem _ hw), vnest, vao, vK, vsz, vro, fun hn => (name_of_methodNamed B.named B.method).1.trans hn, vst⟩
          rw [lg_entry_eq]
          have hl' := lv_entry (as.map (px_v (px_ad base rb))) (n := px_maxL j) (by rw [px_sl_len]; exact hfit)
          rw [px_args_map] at hl'
          refine ih _ _ _ _ _ hcal p' e' _ s' m' _ below' meth' c' h.1.length (px_sl h.1) _ Cx' ⟨Nat.le_refl _, Nat.le_refl _, ?_, ?_⟩ (fun pc' len' lv' st' ins' hf' hr' => px_ret_go (h := h) Cx' B.returns B.notSynchronized hf' hr') s'.heap [] _ 0 0 ⟨vP, va_S.rf, hl', by dsimp only; omega, by dsimp only; omega, hsc⟩
          · show h1.1.length ≤ (h1.1.length - h.1.length) + h.1.length; omega
          · show px_sl h1.1 ≤ (px_sl h1.1 - px_sl h.1) + px_sl h.1; omega
        have hpre : ∀ U : State, U.heap = H → s.WarmedH U.vm → px_Pc base rb ro D dA h as (as.map (px_v (px_ad base rb))).toArray U := by
          intro U hU hW
          refine ⟨rfl, by rw [hU]; exact hHs, by rw [hU]; exact hP, va_K.moved hW.alike hK, fun i L xs hi => ?_, fun q hq => va_Nw.warmM hW (hnest q hq), va_AO.moved hW.alike hao, ⟨ps_go hst9.1 hS hU hW, vk_R.warm hW hst9.2.1, by rw [hU]; exact (hst9.2.2.1.kept hS.2.1).moved hW.alike, by rw [hU]; exact (hst9.2.2.2.kept hS.2.1).moved hW.alike⟩⟩
          rw [hU]
          exact ((hro i L xs hi).kept hS.2.1).moved hW.alike
        have hroom : (px_rm d (h1.1.length - h.1.length) (px_sl h1.1 - px_sl h.1)).frames + 1 ≤ R.frames ∧ 8 + (px_maxL j + 11) + (px_rm d (h1.1.length - h.1.length) (px_sl h1.1 - px_sl h.1)).locals ≤ R.locals := by
          refine ⟨by show d + 3 + 1 ≤ R.frames; omega, ?_⟩
          show 8 + (px_maxL j + 11) + 64 * (d + 3) ≤ R.locals
          omega
        have hcell : cells + (h1.1.length - h.1.length) ≤ R.cells ∧ slots + (px_sl h1.1 - px_sl h.1) ≤ R.slots := by
          constructor <;> omega
        have hsum : ((rest.map (px_v (px_ad base rb))).map fun v => v.category).sum ≤ 8 := by rw [px_v_sum]; exact hrs
        have cont : ∀ (H1 : Heap) (locs1 : List Loc), va_P D vwCl (px_w (px_ad base rb) dA h1) H1 → va_S (fun q => base ≤ q) s.heap H1 locs1 → W p l e R s m args below meth c H1 locs1 (cells + (h1.1.length - h.1.length)) (slots + (px_sl h1.1 - px_sl h.1)) Q (F0 m (pc + 3) ls ((v.toList ++ rest).map (px_v (px_ad base rb)))) := by
          intro H1 locs1 hP1 hS1
          refine hgo H1 locs1 ls _ _ ⟨hP1, hS1, hl, by dsimp only; omega, by dsimp only; omega, ?_⟩
          dsimp only
          -- cells stay below the mark
          exact px_ev_sc _ _ _ _ _ _ hcal hsc
        have S9 : CallFix p m c (px_m k).2.2.2.1 (px_maxL k) s args px_ws (px_on (px_m k).2.2.1) := ⟨hx, hb, hml, hown, hts⟩
        rcases px_inv_st hi with ⟨i, rfl, hc, hal, hst⟩ | ⟨i, a, as', rfl, hc, rfl, hal, hst, hasc, ha⟩ | ⟨i, a, as', rfl, hc, rfl, hal, hst⟩
        · have e9 : len = 3 := px_beqT hlen
          subst e9
          have hstk : (st.map (px_v (px_ad base rb))) = (as.map (px_v (px_ad base rb))).reverse ++ rest.map (px_v (px_ad base rb)) := by rw [hst]; simp
          rcases hc with hc | hc
          · obtain ⟨k1, k2, k3, k4⟩ := px_call_ok hc
            have cw := callB_of (R := R) (s := s) (args := args) (own := px_on (px_m k).2.2.1) (index := i) (rm := px_rm d (h1.1.length - h.1.length) (px_sl h1.1 - px_sl h.1)) (mc := h1.1.length - h.1.length) (ms := px_sl h1.1 - px_sl h.1) (px_m j).2.2.2.2.2.2.1 hts (px_wsm_good k3 k4) rfl rfl rfl (hts _ o1) (hts _ k1) ⟨o6, o7, o4⟩ hroom
            exact px_run_go (va_runS (g := F0 m pc ls (st.map (px_v (px_ad base rb)))) S9 (hMet k3 k4) ⟨cw, hts _ k2⟩ ⟨px_Pc_blind, hpre⟩ rfl (by rw [List.length_map]; exact hal) hl.1 hstk (lv_room hsum) hdg hcell) hS cont
          · obtain ⟨⟨hh, k1⟩, k2, k3, k4⟩ := px_call_ok hc
            have cw := va_cnB (R := R) (s := s) (args := args) (own := px_on (px_m k).2.2.1) (index := i) (rm := px_rm d (h1.1.length - h.1.length) (px_sl h1.1 - px_sl h.1)) (mc := h1.1.length - h.1.length) (ms := px_sl h1.1 - px_sl h.1) (px_m j).2.2.2.2.2.2.1 hts (px_wsm_good k3 k4) rfl rfl rfl (hnest _ k1) (hts _ o1) ⟨o6, o7, o4⟩ hroom
            exact px_run_go (va_runSN (g := F0 m pc ls (st.map (px_v (px_ad base rb)))) S9 (hMet k3 k4) ⟨cw, hts _ k2, trivial⟩ ⟨px_Pc_blind, hpre⟩ rfl (by rw [List.length_map]; exact hal) hl.1 hstk (lv_room hsum) hdg hcell) hS cont
        · have e9 : len = 3 := px_beqT hlen
          subst e9
          have hstk : (st.map (px_v (px_ad base rb))) = (as'.map (px_v (px_ad base rb))).reverse ++ .ref (px_ad base rb a) :: rest.map (px_v (px_ad base rb)) := by rw [hst]; simp [px_v]
          obtain ⟨k1, k2, k3, k4, k5⟩ := px_call_ok hc
          have cw := callB_of (R := R) (s := s) (args := args) (own := px_on (px_m k).2.2.1) (index := i) (rm := px_rm d (h1.1.length - h.1.length) (px_sl h1.1 - px_sl h.1)) (mc := h1.1.length - h.1.length) (ms := px_sl h1.1 - px_sl h.1) (px_m j).2.2.2.2.2.2.1 hts (px_wsm_good k4 k5) rfl rfl rfl (hts _ o1) (hts _ k1) ⟨o6, o7, o4⟩ hroom
          have hget := px_w_get (ad := px_ad base rb) (dA := dA) ha
          obtain ⟨q, hq, -⟩ := hP a _ hget
          have hrec := va_recv hK hP hq hget
          rw [px_on_cl hq, o3] at hrec
          exact px_run_go (va_runV (C := (px_m j).2.1.cls) (b := px_ad base rb a) (g := F0 m pc ls (st.map (px_v (px_ad base rb)))) S9 (hMet k4 k5) ⟨cw, hts _ k2, hts _ k3⟩ ⟨px_Pc_blind, hrec, hpre⟩ rfl (by rw [List.length_map]; exact hal) hl.1 hstk (lv_room hsum) hdg hcell) hS cont
        · have e9 : len = 3 := px_beqT hlen
          subst e9
          have hstk : (st.map (px_v (px_ad base rb))) = (as'.map (px_v (px_ad base rb))).reverse ++ .ref (px_ad base rb a) :: rest.map (px_v (px_ad base rb)) := by rw [hst]; simp [px_v]
          obtain ⟨k1, k2, k3, k4, k5, k6⟩ := px_call_ok hc
          have hwm : px_wsm j = Cond.code (px_m j).2.1 (px_m j).2.2.2.1 (px_maxL j) none :: px_ws := by unfold px_wsm; rw [k6]
          have cw := callB_of (R := R) (s := s) (args := args) (own := px_on (px_m k).2.2.1) (index := i) (rm := px_rm d (h1.1.length - h.1.length) (px_sl h1.1 - px_sl h.1)) (mc := h1.1.length - h.1.length) (ms := px_sl h1.1 - px_sl h.1) (px_m j).2.2.2.2.2.2.1 hts (px_wsm_good k3 k4) hwm rfl rfl (hts _ o1) (hts _ k1) ⟨o6, o7, o4⟩ hroom
          exact px_run_go (va_runI (b := px_ad base rb a) (g := F0 m pc ls (st.map (px_v (px_ad base rb)))) S9 (hMet k3 k4) ⟨cw, k5, hts _ k2⟩ ⟨px_Pc_blind, hpre⟩ rfl (by rw [List.length_map]; exact hal) hl.1 hstk (lv_room hsum) hdg hcell) hS cont
      · have x2 := px_ext_le (px_ev_ext _ _ _ _ _ _ hk)
        obtain ⟨r1, r2, r3, r4⟩ := id Rm
        exact px_op_ok Cx ⟨by omega, by omega⟩ ⟨by omega, by omega⟩ hf ho ⟨by omega, by omega⟩ (ih _ _ _ _ _ hk p e R s m args below meth c c0 s0 Q Cx Rm ret)

