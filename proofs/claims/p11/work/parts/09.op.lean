section PXS
variable {p : Program} {l : Launch} {e : Env} {R : Room} {s : State} {m : MethodId} {args : Array Value} {below : List Frame} {meth : Method} {c : Code} {Q : State → Prop}
variable {base : Nat} {rb : Nat → Nat} {ro : px_RO} {D : va_G} {dA : Nat → ClassId} {k c0 s0 : Nat} {pc : Nat} {lv : px_L} {st : List Value} {h : px_H} {σ : px_S}
theorem px_rm13 {x : Nat} {xs : List Value} {ad : Nat → Nat} (h : Nat.ble (xs.map fun v => v.category).sum 8 = true) (hR : 64 ≤ x) : ((xs.map (px_v ad)).map fun v => v.category).sum + 15 ≤ x := by
  rw [px_v_sum]; have := px_bleT h; omega
theorem px_s_mi {kd i j : Nat} (hk6 : kd = 6 ∨ kd = 7) (Cx : px_Cx p s m args meth c base rb ro D dA k c0) (hR1 : 1 ≤ R.frames ∧ 64 ≤ R.locals) (hcall : px_call k i = some (kd, j)) (hdg : decode (px_m k).2.2.2.1 pc = .ok (.invokestatic i, 3)) (ho : px_oMi kd (pc + 3) lv st h = some σ) (hR : σ.2.2.2.1.length ≤ R.cells + c0 ∧ px_sl σ.2.2.2.1 ≤ R.slots + s0) (kk : px_Go p l e R s m args below meth c base rb D dA k c0 s0 Q σ) : px_Go p l e R s m args below meth c base rb D dA k c0 s0 Q (pc, lv, st, h) := by
  obtain ⟨hx, hb, hml, hown, hts, hnest, hao, hK, hsz, hro, hin, hst9⟩ := Cx
  unfold px_oMi at ho
  split at ho
  · rename_i y x st
    cases hq : Nat.ble (st.map fun v => v.category).sum 8 with
    | false => rw [hq] at ho; cases ho
    | true =>
      rw [hq] at ho
      cases ho
      intro H locs ls cells slots I
      have K := kk H locs ls cells slots I
      obtain ⟨hP, hS, hl, hcc, hsl, hsc⟩ := I
      dsimp only at hcc hsl
      have hc1 : cells ≤ R.cells := by have := hR.1; dsimp only at this; omega
      have hc2 : slots ≤ R.slots := by have := hR.2; dsimp only at this; omega
      have hroom := px_rm13 (ad := px_ad base rb) hq hR1.2
      rcases hk6 with rfl | rfl
      · exact va_mmax hx hb (by rw [hml]; exact hl.1.symm) hown (hts _ (px_call_ok hcall).2.2) (hts _ px_gl_max_s) (hts _ px_gl_math) (hts _ px_gl_max_c) hR1.1 (by omega) hc1 hc2 hdg K
      · exact va_mmin hx hb (by rw [hml]; exact hl.1.symm) hown (hts _ (px_call_ok hcall).2.2) (hts _ px_gl_min_s) (hts _ px_gl_math) (hts _ px_gl_min_c) hR1.1 (by omega) hc1 hc2 hdg K
  · cases ho
theorem px_s_ml {kd i j : Nat} (hk6 : kd = 8 ∨ kd = 9) (Cx : px_Cx p s m args meth c base rb ro D dA k c0) (hR1 : 1 ≤ R.frames ∧ 64 ≤ R.locals) (hcall : px_call k i = some (kd, j)) (hdg : decode (px_m k).2.2.2.1 pc = .ok (.invokestatic i, 3)) (ho : px_oMl kd (pc + 3) lv st h = some σ) (hR : σ.2.2.2.1.length ≤ R.cells + c0 ∧ px_sl σ.2.2.2.1 ≤ R.slots + s0) (kk : px_Go p l e R s m args below meth c base rb D dA k c0 s0 Q σ) : px_Go p l e R s m args below meth c base rb D dA k c0 s0 Q (pc, lv, st, h) := by
  obtain ⟨hx, hb, hml, hown, hts, hnest, hao, hK, hsz, hro, hin, hst9⟩ := Cx
  unfold px_oMl at ho
  split at ho
  · rename_i y x st
    cases hq : Nat.ble (st.map fun v => v.category).sum 8 with
    | false => rw [hq] at ho; cases ho
    | true =>
      rw [hq] at ho
      cases ho
      intro H locs ls cells slots I
      have K := kk H locs ls cells slots I
      obtain ⟨hP, hS, hl, hcc, hsl, hsc⟩ := I
      dsimp only at hcc hsl
      have hc1 : cells ≤ R.cells := by have := hR.1; dsimp only at this; omega
      have hc2 : slots ≤ R.slots := by have := hR.2; dsimp only at this; omega
      have hroom := px_rm13 (ad := px_ad base rb) hq hR1.2
      rcases hk6 with rfl | rfl
      · exact va_mmax_long hx hb (by rw [hml]; exact hl.1.symm) hown (hts _ (px_call_ok hcall).2.2) (hts _ px_gl_maxl_s) (hts _ px_gl_math) (hts _ px_gl_maxl_c) hR1.1 hroom hc1 hc2 hdg K
      · exact va_mmin_long hx hb (by rw [hml]; exact hl.1.symm) hown (hts _ (px_call_ok hcall).2.2) (hts _ px_gl_minl_s) (hts _ px_gl_math) (hts _ px_gl_minl_c) hR1.1 hroom hc1 hc2 hdg K
  · cases ho
theorem px_s_sp {i j : Nat} (Cx : px_Cx p s m args meth c base rb ro D dA k c0) (hR1 : 1 ≤ R.frames ∧ 64 ≤ R.locals) (hcall : px_call k i = some (4, j)) (hdg : decode (px_m k).2.2.2.1 pc = .ok (.invokespecial i, 3)) (ho : px_oSp (pc + 3) lv st h = some σ) (kk : px_Go p l e R s m args below meth c base rb D dA k c0 s0 Q σ) : px_Go p l e R s m args below meth c base rb D dA k c0 s0 Q (pc, lv, st, h) := by
  obtain ⟨hx, hb, hml, hown, hts, hnest, hao, hK, hsz, hro, hin, hst9⟩ := Cx
  unfold px_oSp at ho
  split at ho
  · rename_i a st
    cases hq : Nat.ble (st.map fun v => v.category).sum 8 with
    | false => rw [hq] at ho; cases ho
    | true =>
      rw [hq] at ho
      cases ho
      intro H locs ls cells slots I
      have K := kk H locs ls cells slots I
      have hroom : ((st.map (px_v (px_ad base rb))).map fun v => v.category).sum ≤ 8 := by rw [px_v_sum]; exact px_bleT hq
      have hr2 := lv_room (m := m) (pc := pc) (ls := ls) (rest := .ref (px_ad base rb a) :: st.map (px_v (px_ad base rb))) hroom
      refine W.objInit (g := F0 m pc ls (.ref (px_ad base rb a) :: st.map (px_v (px_ad base rb)))) hx hb hown (hts _ (px_call_ok hcall).2.2) (hts _ px_gl_obj) (hts _ px_gl_objc) rfl (by rw [hml]; exact I.2.2.1.1) rfl hdg hR1.1 (by have := hR1.2; omega) ?_
      exact K
  · cases ho
theorem px_s_cpy {i j : Nat} (Cx : px_Cx p s m args meth c base rb ro D dA k c0) (hR1 : 1 ≤ R.frames ∧ 64 ≤ R.locals) (hcall : px_call k i = some (5, j)) (hdg : decode (px_m k).2.2.2.1 pc = .ok (.invokestatic i, 3)) (ho : px_oCpy (pc + 3) lv st h = some σ) (kk : px_Go p l e R s m args below meth c base rb D dA k c0 s0 Q σ) : px_Go p l e R s m args below meth c base rb D dA k c0 s0 Q (pc, lv, st, h) := by
  obtain ⟨hx, hb, hml, hown, hts, hnest, hao, hK, hsz, hro, hin, hst9⟩ := Cx
  unfold px_oCpy at ho
  split at ho
  · rename_i n dp b sp a st
    split at ho
    · rename_i n0 n1 ha hbb
      cases hq : (Nat.ble (st.map fun v => v.category).sum 8 && decide (¬ sp < 0) && decide (¬ dp < 0) && decide (¬ n < 0) && Nat.ble (sp.toNatClampNeg + n.toNatClampNeg) n0 && Nat.ble (dp.toNatClampNeg + n.toNatClampNeg) n1 && Nat.blt a px_SC && Nat.blt b px_SC) with
      | false => rw [hq] at ho; cases ho
      | true =>
        rw [hq] at ho
        cases ho
        simp only [Bool.and_eq_true, decide_eq_true_eq] at hq
        obtain ⟨⟨⟨⟨⟨⟨⟨q1, q2⟩, q3⟩, q4⟩, q5⟩, q6⟩, q7⟩, q8⟩ := hq
        intro H locs ls cells slots I
        obtain ⟨hP, hS, hl, hcc, hsl, hsc⟩ := I
        have hroom : ((st.map (px_v (px_ad base rb))).map fun v => v.category).sum ≤ 8 := by rw [px_v_sum]; exact px_bleT q1
        have hnf : nativeFrameWords "java/lang/System" "arraycopy" 5 ≤ 40 := by decide
        refine va_copyi hx hb (by rw [hml]; exact hl.1.symm) hown (hts _ (px_call_ok hcall).2.2) (hts _ px_gl_acn2) (hts _ px_gl_acs) (hts _ px_gl_sys) hK hP (px_w_D hsc) hS a b 0 0 (ty := .int) (px_w_get ha) (px_w_get hbb) rfl rfl rfl q2 q3 q4 (px_bleT q5) (px_bleT q6) (fun _ _ => rfl) hR1.1 (by have := hR1.2; omega) hdg (fun H1 locs1 hP1 _ hS1 => ?_)
        have e : va_cpy (h.2.1 a) (h.2.1 b) sp.toNatClampNeg dp.toNatClampNeg n.toNatClampNeg = px_rw h.2.1 b (va_cpy (h.2.1 a) (h.2.1 b) sp.toNatClampNeg dp.toNatClampNeg n.toNatClampNeg) b := px_rw_eq.symm
        rw [e, px_setI (g := px_rw h.2.1 b (va_cpy (h.2.1 a) (h.2.1 b) sp.toNatClampNeg dp.toNatClampNeg n.toNatClampNeg)) hbb (Or.inl rfl) (fun j hj => px_rw_ne hj)] at hP1
        exact kk H1 locs1 ls cells slots ⟨hP1, hS1, hl, hcc, hsl, hsc⟩
    · cases ho
  · cases ho
theorem ps_w_l_len : Cond.methodLink "ElevenBullocks$Reader" 179 yJ0_length_8abf5 ∈ px_ws := px_mem (pl := 3135) (by decide +kernel)
theorem ps_w_l_cha : Cond.methodLink "ElevenBullocks$Reader" 183 yJ0_charAt_5068e ∈ px_ws := px_mem (pl := 3145) (by decide +kernel)
theorem ps_Lit.narrow {A B : Nat → Prop} {q v : Nat} {U : State} (h : ps_Lit A q v U) (hAB : ∀ q, B q → A q) : ps_Lit B q v U := ⟨h.1.narrow hAB, h.2.1.narrow hAB, h.2.2.narrow hAB⟩
/-- behind a call that leaves all there was as it was -/
theorem ps_run2 {H : Heap} {locs : List Loc} {cells slots pc : Nat} {ls : Array Slot} {st0 rest : List Value} {r : Option Value} {a : Array Value}
    (hr : va_Run p l e R s m args below meth c H locs cells slots 0 0 (F0 m pc ls st0) rest (ps_Q r (fun q => H.size ≤ q) a) (fun q => H.size ≤ q)) (hS : va_S (fun q => base ≤ q) s.heap H locs) (hbs : base ≤ H.size)
    (kk : ∀ (H1 : Heap) (locs1 : List Loc), va_S (fun q => base ≤ q) s.heap H1 locs1 → (∀ q : Nat, q < H.size → H1[q]? = H[q]?) → W p l e R s m args below meth c H1 locs1 cells slots Q (F0 m (pc + 3) ls (r.toList ++ rest))) : W p l e R s m args below meth c H locs cells slots Q (F0 m pc ls st0) := by
  intro T hT X
  obtain ⟨v', st₀, t, T', L, h0, X', hL, e1, e2, ⟨hv, hz, hk⟩, st⟩ := hr T hT X
  cases hv
  rw [h0] at hz hk
  have same : ∀ q : Nat, q < H.size → T'.heap[q]? = H[q]? := fun q h1 => by rw [e1]; exact hk q h1 (Nat.not_le.mpr h1)
  obtain ⟨t2, a1, b1⟩ := kk T'.heap (locs ++ L) ⟨Nat.le_trans hS.1 (by rw [e1]; exact hz), fun q h1 h2 => by rw [same q (Nat.lt_of_lt_of_le h1 hS.1)]; exact hS.2.1 q h1 h2, fun q hq => by
      rcases List.mem_append.mp hq with h | h
      · exact hS.2.2 q h
      · exact Nat.le_trans hbs (hL q h)⟩ same T' rfl X'
  exact ⟨t2, st t2 a1, b1⟩
theorem px_s_str {i : Nat} (Cx : px_Cx p s m args meth c base rb ro D dA k c0) (hR4 : 4 ≤ R.frames ∧ 256 ≤ R.locals) (hdg : decode (px_m k).2.2.2.1 pc = .ok (.invokevirtual i, 3)) (ho : px_oStr k i (pc + 3) lv st h = some σ) (hR : σ.2.2.2.1.length ≤ R.cells + c0 ∧ px_sl σ.2.2.2.1 ≤ R.slots + s0) (kk : px_Go p l e R s m args below meth c base rb D dA k c0 s0 Q σ) : px_Go p l e R s m args below meth c base rb D dA k c0 s0 Q (pc, lv, st, h) := by
  obtain ⟨hx, hb, hml, hown, hts, hnest, hao, hK, hsz, hro, hin, hst9⟩ := Cx
  obtain ⟨f1, f2⟩ := hR4
  have S0 : CallFix p m c (px_m k).2.2.2.1 (px_maxL k) s args px_ws (px_on (px_m k).2.2.1) := ⟨hx, hb, hml, hown, hts⟩
  unfold px_oStr at ho
  cases hq : (Nat.beq (px_key k i) 6179 && Nat.blt i 1000) with
  | true =>
    rw [hq] at ho
    dsimp only [cond_true] at ho
    obtain ⟨e1, rfl⟩ := px_key6 (n := 179) hq (by decide)
    rw [e1] at S0
    split at ho
    · rename_i a st
      cases hq2 : (Nat.beq a (px_SC + 3) && Nat.ble (st.map fun v => v.category).sum 8) with
      | false => rw [hq2] at ho; cases ho
      | true =>
        rw [hq2] at ho
        cases ho
        rw [Bool.and_eq_true] at hq2
        have ea := px_beqT hq2.1
        subst ea
        intro H locs ls cells slots I
        obtain ⟨hP, hS, hl, hcc, hsl, hsc⟩ := id I
        dsimp only at hP hl hcc hsl hsc
        have hc1 : cells ≤ R.cells := by have := hR.1; dsimp only at this; omega
        have hc2 : slots ≤ R.slots := by have := hR.2; dsimp only at this; omega
        have hbs : base ≤ H.size := by have := hS.1; omega
        have hsum : ((st.map (px_v (px_ad base rb))).map fun v => v.category).sum ≤ 8 := by rw [px_v_sum]; exact px_bleT hq2.2
        have cw := callB_of (R := R) (s := s) (args := args) (own := px_on 6) (index := 179) (rm := ps_rm 1) (mc := 0) (ms := 0) 0 hts (fun w hw => (by
          rcases List.mem_cons.mp hw with rfl | hw
          · exact px_ws_good _ ps_w_c_length
          · exact px_ws_good _ hw) : GoodIn px_ws (Cond.code yJ0_length_8abf5 cJ0_length_8abf5 1 (some .int) :: px_ws)) rfl rfl rfl (hts _ ps_w_iS) (hts _ ps_w_l_len) ⟨by decide, by decide, by decide⟩ ⟨by show 1 + 1 ≤ R.frames; omega, by show 8 + (1 + 11) + 64 * 1 ≤ R.locals; omega⟩
        refine ps_run2 (va_runV (C := "java/lang/String") (b := rb 3) (As := []) (rest := st.map (px_v (px_ad base rb))) (g := F0 m pc ls ((Value.ref (px_SC + 3) :: st).map (px_v (px_ad base rb)))) S0 (ps_length l (A := fun q => H.size ≤ q) (q := rb 3) (v := rb 4)) ⟨cw, hts _ ps_w_in_length, hts _ ps_w_se_length⟩ ⟨ps_blind, vk_recv (i := 0) hst9.1.1 (by decide) hS, fun U hU hW => ⟨rfl, (ps_go hst9.1 hS hU hW).narrow (fun q (h9 : H.size ≤ q) => Nat.le_trans hbs h9)⟩⟩ rfl rfl hl.1 ?_ (lv_room hsum) hdg ⟨hc1, hc2⟩) hS hbs (fun H1 locs1 hS1 same => ?_)
        · show Value.ref (px_ad base rb (px_SC + 3)) :: _ = _
          rw [px_ad_3]
          rfl
        · exact kk H1 locs1 ls cells slots ⟨hP.kept (fun j q hj => same _ (hP j q hj).lt), hS1, hl, hcc, hsl, hsc⟩
    · cases ho
  | false =>
    rw [hq] at ho
    dsimp only [cond_false] at ho
    cases hq1 : (Nat.beq (px_key k i) 6183 && Nat.blt i 1000) with
    | false => rw [hq1] at ho; cases ho
    | true =>
      rw [hq1] at ho
      dsimp only [cond_true] at ho
      obtain ⟨e1, rfl⟩ := px_key6 (n := 183) hq1 (by decide)
      rw [e1] at S0
      split at ho
      · rename_i x a st
        cases hq2 : (Nat.beq a (px_SC + 3) && px_in x 180 && Nat.ble (st.map fun v => v.category).sum 8) with
        | false => rw [hq2] at ho; cases ho
        | true =>
          rw [hq2] at ho
          cases ho
          simp only [Bool.and_eq_true] at hq2
          obtain ⟨⟨q1, q2⟩, q3⟩ := hq2
          have ea := px_beqT q1
          subst ea
          have hx180 : ¬ (x < 0 ∨ 180 ≤ x.toNatClampNeg) := of_decide_eq_true q2
          obtain ⟨j, hj, rfl⟩ := nI_of (fun h9 => hx180 (Or.inl h9))
          rw [nI_clamp hj] at hx180
          have hj2 : j < 180 := by
            rcases Nat.lt_or_ge j 180 with h9 | h9
            · exact h9
            · exact absurd (Or.inr h9) hx180
          intro H locs ls cells slots I
          obtain ⟨hP, hS, hl, hcc, hsl, hsc⟩ := id I
          dsimp only at hP hl hcc hsl hsc
          have hc1 : cells ≤ R.cells := by have := hR.1; dsimp only at this; omega
          have hc2 : slots ≤ R.slots := by have := hR.2; dsimp only at this; omega
          have hbs : base ≤ H.size := by have := hS.1; omega
          have hsum : ((st.map (px_v (px_ad base rb))).map fun v => v.category).sum ≤ 8 := by rw [px_v_sum]; exact px_bleT q3
          have cw := callB_of (R := R) (s := s) (args := args) (own := px_on 6) (index := 183) (rm := ps_rm 3) (mc := 0) (ms := 0) 1 hts (fun w hw => (by
            rcases List.mem_cons.mp hw with rfl | hw
            · exact px_ws_good _ ps_w_c_charAt
            · exact px_ws_good _ hw) : GoodIn px_ws (Cond.code yJ0_charAt_5068e cJ0_charAt_5068e 2 (some .char) :: px_ws)) rfl rfl rfl (hts _ ps_w_iS) (hts _ ps_w_l_cha) ⟨by decide, by decide, by decide⟩ ⟨by show 3 + 1 ≤ R.frames; omega, by show 8 + (2 + 11) + 64 * 3 ≤ R.locals; omega⟩
          refine ps_run2 (va_runV (C := "java/lang/String") (b := rb 3) (As := [.int (nI j)]) (rest := st.map (px_v (px_ad base rb))) (g := F0 m pc ls ((Value.int (nI j) :: Value.ref (px_SC + 3) :: st).map (px_v (px_ad base rb)))) S0 (ps_charAt l (A := fun q => H.size ≤ q) (q := rb 3) (v := rb 4) hj2) ⟨cw, hts _ ps_w_in_charAt, hts _ ps_w_se_charAt⟩ ⟨ps_blind, vk_recv (i := 0) hst9.1.1 (by decide) hS, fun U hU hW => ⟨rfl, (ps_go hst9.1 hS hU hW).narrow (fun q (h9 : H.size ≤ q) => Nat.le_trans hbs h9)⟩⟩ rfl rfl hl.1 ?_ (lv_room hsum) hdg ⟨hc1, hc2⟩) hS hbs (fun H1 locs1 hS1 same => ?_)
          · show Value.int (nI j) :: Value.ref (px_ad base rb (px_SC + 3)) :: _ = _
            rw [px_ad_3]
            rfl
          · have K := kk H1 locs1 ls cells slots ⟨hP.kept (fun j q hj => same _ (hP j q hj).lt), hS1, hl, hcc, hsl, hsc⟩
            dsimp only at K
            rw [nI_clamp hj] at K
            exact K
      · cases ho
theorem px_op_ok {ins : Instr} {len : Nat} (Cx : px_Cx p s m args meth c base rb ro D dA k c0) (hR1 : 1 ≤ R.frames ∧ 64 ≤ R.locals) (hR4 : 4 ≤ R.frames ∧ 256 ≤ R.locals) (hf : px_fetch k pc = some (ins, len)) (ho : px_op ro k ins len pc lv st h = some σ) (hR : σ.2.2.2.1.length ≤ R.cells + c0 ∧ px_sl σ.2.2.2.1 ≤ R.slots + s0) (kk : px_Go p l e R s m args below meth c base rb D dA k c0 s0 Q σ) : px_Go p l e R s m args below meth c base rb D dA k c0 s0 Q (pc, lv, st, h) := by
  obtain ⟨hdg, hlen⟩ := px_fetch_ok hf
  obtain ⟨hx, hb, hml, hown, hts, hnest, hao, hK, hsz, hro, hin, hst9⟩ := id Cx
  unfold px_op at ho
  split at ho
  · have e9 : len = 1 := px_beqT hlen
    subst e9
    cases ho
    exact fun H locs ls cells slots I => lv_iconst hx hb hdg rfl (kk H locs ls cells slots I)
  · have e9 : len = 2 := px_beqT hlen
    subst e9
    cases ho
    exact fun H locs ls cells slots I => lv_bipush hx hb hdg rfl (kk H locs ls cells slots I)
  · have e9 : len = 3 := px_beqT hlen
    subst e9
    cases ho
    exact fun H locs ls cells slots I => lv_sipush hx hb hdg rfl (kk H locs ls cells slots I)
  · have e9 : len = 1 := px_beqT hlen
    subst e9
    cases ho
    exact fun H locs ls cells slots I => lv_lconst hx hb hdg rfl (kk H locs ls cells slots I)
  · have e9 : len = 1 := px_beqT hlen
    subst e9
    cases ho
    exact fun H locs ls cells slots I => lv_null hx hb hdg (kk H locs ls cells slots I)
  · have e9 : len = 2 := px_beqT hlen
    subst e9
    refine px_s_psh ho kk (fun w hw H locs ls cells slots hl K => ?_)
    rcases px_ldcv_ok hw with ⟨x, hv, rfl⟩ | ⟨e1, rfl, rfl⟩
    · exact lv_ldc hx hb hown (hts _ (px_int_ok hv)) hdg K
    · rw [e1] at hown
      refine va_ldcS hx hb hown hst9.2.1 hdg ?_
      rw [show px_v (px_ad base rb) (.ref (px_SC + 3)) = .ref (rb 3) from congrArg Value.ref px_ad_3] at K
      exact K
  · have e9 : len = 3 := px_beqT hlen
    subst e9
    refine px_s_psh ho kk (fun w hw H locs ls cells slots hl K => ?_)
    obtain ⟨v, hv, rfl⟩ := Option.map_eq_some_iff.mp hw
    exact lv_ldcw hx hb hown (hts _ (px_int_ok hv)) hdg K
  · have e9 : len = 3 := px_beqT hlen
    subst e9
    refine px_s_psh ho kk (fun w hw H locs ls cells slots hl K => ?_)
    obtain ⟨v, hv, rfl⟩ := Option.map_eq_some_iff.mp hw
    exact lv_ldc2 hx hb hown (hts _ (px_lng_ok hv)) hdg K
  · have e9 : len = 2 := px_beqT hlen
    subst e9
    refine px_s_psh ho kk (fun w hw H locs ls cells slots hl K => ?_)
    obtain ⟨x, rfl, hld⟩ := px_get0 hw
    exact lv_iload hx hb hdg (px_ld_at hl hld) K
  · have e9 : len = 1 := px_beqT hlen
    subst e9
    refine px_s_psh ho kk (fun w hw H locs ls cells slots hl K => ?_)
    obtain ⟨x, rfl, hld⟩ := px_get0 hw
    exact lv_iload_n hx hb hdg rfl (px_ld_at hl hld) K
  · have e9 : len = 2 := px_beqT hlen
    subst e9
    refine px_s_psh ho kk (fun w hw H locs ls cells slots hl K => ?_)
    obtain ⟨x, rfl, hld⟩ := px_get1 hw
    exact lv_lload hx hb hdg (px_ld_at hl hld) K
  · have e9 : len = 1 := px_beqT hlen
    subst e9
    refine px_s_psh ho kk (fun w hw H locs ls cells slots hl K => ?_)
    obtain ⟨x, rfl, hld⟩ := px_get1 hw
    exact lv_lload_n hx hb hdg rfl (px_ld_at hl hld) K
  · have e9 : len = 2 := px_beqT hlen
    subst e9
    refine px_s_psh ho kk (fun w hw H locs ls cells slots hl K => ?_)
    rcases px_get2 hw with ⟨x, rfl, hld⟩ | ⟨rfl, hld⟩
    · exact lv_aload hx hb hdg (px_ld_at hl hld) K
    · exact lv_aloadN hx hb hdg (px_ld_at hl hld) K
  · have e9 : len = 1 := px_beqT hlen
    subst e9
    refine px_s_psh ho kk (fun w hw H locs ls cells slots hl K => ?_)
    rcases px_get2 hw with ⟨x, rfl, hld⟩ | ⟨rfl, hld⟩
    · exact lv_aload_n hx hb hdg rfl (px_ld_at hl hld) K
    · exact lv_aload_nN hx hb hdg rfl (px_ld_at hl hld) K
  · have e9 : len = 2 := px_beqT hlen
    subst e9
    refine px_s_sto ho kk (fun x H locs ls cells slots rest _ hi hl K => lv_istore hx hb hdg hl hi (px_st1_map (px_ad base rb) lv _ (.int x)) K) (fun _ _ _ _ _ _ _ h9 => by cases h9) (fun _ _ _ _ _ _ _ h9 => by cases h9) (fun _ _ _ _ _ _ h9 => by cases h9)
  · have e9 : len = 1 := px_beqT hlen
    subst e9
    refine px_s_sto ho kk (fun x H locs ls cells slots rest _ hi hl K => lv_istore_n hx hb hdg rfl hl hi (px_st1_map (px_ad base rb) lv _ (.int x)) K) (fun _ _ _ _ _ _ _ h9 => by cases h9) (fun _ _ _ _ _ _ _ h9 => by cases h9) (fun _ _ _ _ _ _ h9 => by cases h9)
  · have e9 : len = 2 := px_beqT hlen
    subst e9
    refine px_s_sto ho kk (fun _ _ _ _ _ _ _ h9 => by cases h9) (fun x H locs ls cells slots rest _ hi hl K => lv_lstore hx hb hdg hl hi (px_st2_map (px_ad base rb) lv _ (.long x)) K) (fun _ _ _ _ _ _ _ h9 => by cases h9) (fun _ _ _ _ _ _ h9 => by cases h9)
  · have e9 : len = 1 := px_beqT hlen
    subst e9
    refine px_s_sto ho kk (fun _ _ _ _ _ _ _ h9 => by cases h9) (fun x H locs ls cells slots rest _ hi hl K => lv_lstore_n hx hb hdg rfl hl hi (px_st2_map (px_ad base rb) lv _ (.long x)) K) (fun _ _ _ _ _ _ _ h9 => by cases h9) (fun _ _ _ _ _ _ h9 => by cases h9)
  · have e9 : len = 2 := px_beqT hlen
    subst e9
    refine px_s_sto ho kk (fun _ _ _ _ _ _ _ h9 => by cases h9) (fun _ _ _ _ _ _ _ h9 => by cases h9) (fun x H locs ls cells slots rest _ hi hl K => lv_astore hx hb hdg hl hi (px_st1_map (px_ad base rb) lv _ (.ref x)) K) (fun H locs ls cells slots rest _ hi hl K => lv_astoreN hx hb hdg hl hi (px_st1_map (px_ad base rb) lv _ .null) K)
  · have e9 : len = 1 := px_beqT hlen
    subst e9
    refine px_s_sto ho kk (fun _ _ _ _ _ _ _ h9 => by cases h9) (fun _ _ _ _ _ _ _ h9 => by cases h9) (fun x H locs ls cells slots rest _ hi hl K => lv_astore_n hx hb hdg rfl hl hi (px_st1_map (px_ad base rb) lv _ (.ref x)) K) (fun H locs ls cells slots rest _ hi hl K => lv_astore_nN hx hb hdg rfl hl hi (px_st1_map (px_ad base rb) lv _ .null) K)
  · have e9 : len = 3 := px_beqT hlen
    subst e9
    rename_i i n
    unfold px_oInc at ho
    split at ho
    · rename_i x hld
      cases hq : Nat.blt i (px_maxL k) with
      | false => rw [hq] at ho; cases ho
      | true =>
        rw [hq] at ho
        cases ho
        intro H locs ls cells slots I
        obtain ⟨hP, hS, hl, hcc, hsl, hsc⟩ := I
        obtain ⟨q, hq1, hq2⟩ := Option.map_eq_some_iff.mp (show (lv.find? (fun q => q.1 == i)).map (fun q => q.2) = some (.int x) from hld)
        have hm := List.mem_of_find?_eq_some hq1
        have hqi : q.1 = i := by have := List.find?_some hq1; simpa using this
        have hm2 : (i, Value.int x) ∈ px_lv (px_ad base rb) lv := List.mem_map.mpr ⟨q, hm, by rw [hqi, hq2]; rfl⟩
        obtain ⟨j, hj⟩ := List.getElem?_of_mem hm2
        exact lv_iinc hx hb hdg hl hj rfl (px_bltT hq) (px_st1_map (px_ad base rb) lv i (.int (x + Int32.ofInt n))) (fun ls' hl' => kk H locs ls' cells slots ⟨hP, hS, hl', hcc, hsl, hsc⟩)
    · cases ho
  · have e9 : len = 1 := px_beqT hlen
    subst e9
    exact px_s_ari ho kk (fun x y v hv H locs ls cells slots rest K => by cases hv; exact lv_iadd hx hb hdg K)
  · have e9 : len = 1 := px_beqT hlen
    subst e9
    exact px_s_ari ho kk (fun x y v hv H locs ls cells slots rest K => by cases hv; exact lv_isub hx hb hdg K)
  · have e9 : len = 1 := px_beqT hlen
    subst e9
    exact px_s_ari ho kk (fun x y v hv H locs ls cells slots rest K => by cases hv; exact lv_imul hx hb hdg K)
  · have e9 : len = 1 := px_beqT hlen
    subst e9
    refine px_s_ari ho kk (fun x y v hv H locs ls cells slots rest K => ?_)
    unfold px_ari at hv
    dsimp only at hv
    split at hv
    · cases hv
    · rename_i hne
      cases hv
      exact lv_idiv hx hb hdg hne K
  · have e9 : len = 1 := px_beqT hlen
    subst e9
    refine px_s_ari ho kk (fun x y v hv H locs ls cells slots rest K => ?_)
    unfold px_ari at hv
    dsimp only at hv
    split at hv
    · cases hv
    · rename_i hne
      cases hv
      exact lv_irem hx hb hdg hne K
  · have e9 : len = 1 := px_beqT hlen
    subst e9
    exact px_s_ari ho kk (fun x y v hv H locs ls cells slots rest K => by cases hv; exact lv_iand hx hb hdg K)
  · have e9 : len = 1 := px_beqT hlen
    subst e9
    exact px_s_ari ho kk (fun x y v hv H locs ls cells slots rest K => by cases hv; exact lv_ior hx hb hdg K)
  · have e9 : len = 1 := px_beqT hlen
    subst e9
    exact px_s_ari ho kk (fun x y v hv H locs ls cells slots rest K => by cases hv; exact lv_ixor hx hb hdg K)
  · have e9 : len = 1 := px_beqT hlen
    subst e9
    exact px_s_ari ho kk (fun x y v hv H locs ls cells slots rest K => by cases hv; exact lv_ishl hx hb hdg K)
  · have e9 : len = 1 := px_beqT hlen
    subst e9
    exact px_s_ari ho kk (fun x y v hv H locs ls cells slots rest K => by cases hv; exact lv_ishr hx hb hdg K)
  · have e9 : len = 1 := px_beqT hlen
    subst e9
    exact px_s_ari ho kk (fun x y v hv H locs ls cells slots rest K => by cases hv; exact lv_iushr hx hb hdg rfl K)
  · have e9 : len = 1 := px_beqT hlen
    subst e9
    exact px_s_arl ho kk (fun x y v hv H locs ls cells slots rest K => by cases hv; exact lv_ladd hx hb hdg K)
  · have e9 : len = 1 := px_beqT hlen
    subst e9
    exact px_s_arl ho kk (fun x y v hv H locs ls cells slots rest K => by cases hv; exact lv_lsub hx hb hdg K)
  · have e9 : len = 1 := px_beqT hlen
    subst e9
    exact px_s_arl ho kk (fun x y v hv H locs ls cells slots rest K => by cases hv; exact lv_lmul hx hb hdg K)
  · have e9 : len = 1 := px_beqT hlen
    subst e9
    refine px_s_arl ho kk (fun x y v hv H locs ls cells slots rest K => ?_)
    unfold px_arl at hv
    dsimp only at hv
    split at hv
    · cases hv
    · rename_i hne
      cases hv
      exact lv_ldiv hx hb hdg hne K
  · have e9 : len = 1 := px_beqT hlen
    subst e9
    refine px_s_arl ho kk (fun x y v hv H locs ls cells slots rest K => ?_)
    unfold px_arl at hv
    dsimp only at hv
    split at hv
    · cases hv
    · rename_i hne
      cases hv
      exact lv_lrem hx hb hdg hne K
  · have e9 : len = 1 := px_beqT hlen
    subst e9
    exact px_s_arl ho kk (fun x y v hv H locs ls cells slots rest K => by cases hv; exact lv_lor hx hb hdg K)
  · have e9 : len = 1 := px_beqT hlen
    subst e9
    unfold px_oIneg at ho
    split at ho
    · cases ho
      exact fun H locs ls cells slots I => lv_ineg hx hb hdg (kk H locs ls cells slots I)
    · cases ho
  · have e9 : len = 1 := px_beqT hlen
    subst e9
    unfold px_oLneg at ho
    split at ho
    · cases ho
      exact fun H locs ls cells slots I => lv_lneg hx hb hdg (kk H locs ls cells slots I)
    · cases ho
  · have e9 : len = 1 := px_beqT hlen
    subst e9
    unfold px_oI2l at ho
    split at ho
    · cases ho
      exact fun H locs ls cells slots I => lv_i2l hx hb hdg rfl (kk H locs ls cells slots I)
    · cases ho
  · have e9 : len = 1 := px_beqT hlen
    subst e9
    unfold px_oL2i at ho
    split at ho
    · cases ho
      exact fun H locs ls cells slots I => lv_l2i hx hb hdg rfl (kk H locs ls cells slots I)
    · cases ho
  · have e9 : len = 1 := px_beqT hlen
    subst e9
    unfold px_oLcmp at ho
    split at ho
    · cases ho
      exact fun H locs ls cells slots I => W.lcmp hx hb hdg (kk H locs ls cells slots I)
    · cases ho
  · have e9 : len = 1 := px_beqT hlen
    subst e9
    unfold px_oLshl at ho
    split at ho
    · cases ho
      exact fun H locs ls cells slots I => lv_lshl hx hb hdg rfl (kk H locs ls cells slots I)
    · cases ho
  · have e9 : len = 1 := px_beqT hlen
    subst e9
    unfold px_oLshr at ho
    split at ho
    · cases ho
      exact fun H locs ls cells slots I => lv_lshr hx hb hdg rfl (kk H locs ls cells slots I)
    · cases ho
  · have e9 : len = 1 := px_beqT hlen
    subst e9
    unfold px_oDup at ho
    split at ho
    · rename_i v st
      cases hq : Nat.beq v.category 1 with
      | false => rw [hq] at ho; cases ho
      | true =>
        rw [hq] at ho
        cases ho
        have hv : (px_v (px_ad base rb) v).category = 1 := by rw [px_v_cat]; exact px_beqT hq
        exact fun H locs ls cells slots I => lv_dup hx hb hdg hv (kk H locs ls cells slots I)
    · cases ho
  · have e9 : len = 1 := px_beqT hlen
    subst e9
    unfold px_oPop at ho
    split at ho
    · rename_i v st
      cases hq : Nat.beq v.category 1 with
      | false => rw [hq] at ho; cases ho
      | true =>
        rw [hq] at ho
        cases ho
        have hv : (px_v (px_ad base rb) v).category = 1 := by rw [px_v_cat]; exact px_beqT hq
        exact fun H locs ls cells slots I => lv_pop hx hb hdg hv (kk H locs ls cells slots I)
    · cases ho
  · have e9 : len = 1 := px_beqT hlen
    subst e9
    unfold px_oPop at ho
    split at ho
    · rename_i v st
      cases hq : Nat.beq v.category 2 with
      | false => rw [hq] at ho; cases ho
      | true =>
        rw [hq] at ho
        cases ho
        have hv : (px_v (px_ad base rb) v).category = 2 := by rw [px_v_cat]; exact px_beqT hq
        exact fun H locs ls cells slots I => lv_pop2_2 hx hb hdg hv (kk H locs ls cells slots I)
    · cases ho
  · have e9 : len = 1 := px_beqT hlen
    subst e9
    unfold px_oDup2 at ho
    split at ho
    · rename_i v w st
      cases hq : (Nat.beq v.category 1 && Nat.beq w.category 1) with
      | true =>
        rw [hq] at ho
        cases ho
        rw [Bool.and_eq_true] at hq
        have hv : (px_v (px_ad base rb) v).category = 1 := by rw [px_v_cat]; exact px_beqT hq.1
        have hw : (px_v (px_ad base rb) w).category = 1 := by rw [px_v_cat]; exact px_beqT hq.2
        exact fun H locs ls cells slots I => lv_dup2_11 hx hb hdg hv hw (kk H locs ls cells slots I)
      | false =>
        rw [hq] at ho
        dsimp only [cond_false] at ho
        cases hq2 : Nat.beq v.category 2 with
        | false => rw [hq2] at ho; cases ho
        | true =>
          rw [hq2] at ho
          cases ho
          have hv : (px_v (px_ad base rb) v).category = 2 := by rw [px_v_cat]; exact px_beqT hq2
          exact fun H locs ls cells slots I => lv_dup2_2 hx hb hdg hv (kk H locs ls cells slots I)
    · rename_i v
      cases hq2 : Nat.beq v.category 2 with
      | false => rw [hq2] at ho; cases ho
      | true =>
        rw [hq2] at ho
        cases ho
        have hv : (px_v (px_ad base rb) v).category = 2 := by rw [px_v_cat]; exact px_beqT hq2
        exact fun H locs ls cells slots I => lv_dup2_2 hx hb hdg hv (kk H locs ls cells slots I)
    · cases ho
  · have e9 : len = 3 := px_beqT hlen
    subst e9
    exact px_s_if hx hb hdg ho kk
  · have e9 : len = 3 := px_beqT hlen
    subst e9
    exact px_s_icmp hx hb hdg ho kk
  · have e9 : len = 3 := px_beqT hlen
    subst e9
    unfold px_oNull at ho
    split at ho
    · exact px_s_jmp (g := .null :: _) ho kk (fun t ht H locs ls cells slots K => lv_ifnullN hx hb hdg (px_tg_ok ht) K)
    · cases ho
      exact fun H locs ls cells slots I => lv_ifnull hx hb hdg (kk H locs ls cells slots I)
    · cases ho
  · have e9 : len = 3 := px_beqT hlen
    subst e9
    unfold px_oNonnull at ho
    split at ho
    · exact px_s_jmp (g := .ref _ :: _) ho kk (fun t ht H locs ls cells slots K => lv_ifnonnull hx hb hdg (px_tg_ok ht) K)
    · cases ho
      exact fun H locs ls cells slots I => lv_ifnonnullN hx hb hdg (kk H locs ls cells slots I)
    · cases ho
  · have e9 : len = 3 := px_beqT hlen
    subst e9
    exact px_s_jmp ho kk (fun t ht H locs ls cells slots K => lv_goto hx hb hdg (px_tg_ok ht) K)
  · unfold px_oTab at ho
    split at ho
    · split at ho
      · rename_i hout
        exact px_s_jmp (g := .int _ :: _) ho kk (fun t ht H locs ls cells slots K => lv_tableOut hx hb hdg hout (px_tg_ok ht) K)
      · rename_i hout
        split at ho
        · rename_i off hoff
          exact px_s_jmp (g := .int _ :: _) ho kk (fun t ht H locs ls cells slots K => lv_tableIn hx hb hdg (fun q => hout (Or.inl q)) (fun q => hout (Or.inr q)) hoff (px_tg_ok ht) K)
        · cases ho
    · cases ho
  · rename_i dflt ps
    unfold px_oLook at ho
    split at ho
    · cases hq : ((ps.toList.zip (ps.toList.drop 1)).all (fun (a, next) => a.1 < next.1)) with
      | false => rw [hq] at ho; cases ho
      | true =>
        rw [hq] at ho
        exact px_s_jmp (g := .int _ :: _) ho kk (fun t ht H locs ls cells slots K => lv_lookup hx hb hdg hq rfl (px_tg_ok ht) K)
    · cases ho
  · have e9 : len = 3 := px_beqT hlen
    subst e9
    exact px_s_get Cx hdg ho kk
  · have e9 : len = 3 := px_beqT hlen
    subst e9
    exact px_s_put Cx hdg ho kk
  · have e9 : len = 1 := px_beqT hlen
    subst e9
    exact px_s_iald Cx hdg ho kk
  · have e9 : len = 1 := px_beqT hlen
    subst e9
    exact px_s_zald Cx hdg ho kk
  · have e9 : len = 1 := px_beqT hlen
    subst e9
    exact px_s_lald Cx hdg ho kk
  · have e9 : len = 1 := px_beqT hlen
    subst e9
    exact px_s_aald Cx hdg ho kk
  · have e9 : len = 1 := px_beqT hlen
    subst e9
    exact px_s_iast Cx hdg ho kk
  · have e9 : len = 1 := px_beqT hlen
    subst e9
    exact px_s_zast Cx hdg ho kk
  · have e9 : len = 1 := px_beqT hlen
    subst e9
    exact px_s_last Cx hdg ho kk
  · have e9 : len = 1 := px_beqT hlen
    subst e9
    exact px_s_aast Cx hdg ho kk
  · have e9 : len = 1 := px_beqT hlen
    subst e9
    exact px_s_len Cx hdg ho kk
  · have e9 : len = 3 := px_beqT hlen
    subst e9
    exact px_s_new Cx hdg ho hR kk
  · have e9 : len = 2 := px_beqT hlen
    subst e9
    exact px_s_newa (t := 0) (ty := .int) rfl rfl px_gl_ai (by decide) (fun cA n => rfl) Cx hdg ho hR kk
  · have e9 : len = 2 := px_beqT hlen
    subst e9
    exact px_s_newa (t := 1) (ty := .long) rfl rfl px_gl_al (by decide) (fun cA n => rfl) Cx hdg ho hR kk
  · have e9 : len = 2 := px_beqT hlen
    subst e9
    exact px_s_newa (t := 2) (ty := .boolean) rfl rfl px_gl_az (by decide) (fun cA n => rfl) Cx hdg ho hR kk
  · have e9 : len = 3 := px_beqT hlen
    subst e9
    exact px_s_anew Cx hdg ho hR kk
  · have e9 : len = 3 := px_beqT hlen
    subst e9
    split at ho
    · rename_i hcall
      exact px_s_sp Cx hR1 hcall hdg ho kk
    · cases ho
  · have e9 : len = 3 := px_beqT hlen
    subst e9
    split at ho
    · rename_i hcall
      unfold px_oSt at ho
      split at ho
      · exact px_s_cpy Cx hR1 hcall hdg ho kk
      · exact px_s_mi (Or.inl rfl) Cx hR1 hcall hdg ho hR kk
      · exact px_s_mi (Or.inr rfl) Cx hR1 hcall hdg ho hR kk
      · exact px_s_ml (Or.inl rfl) Cx hR1 hcall hdg ho hR kk
      · exact px_s_ml (Or.inr rfl) Cx hR1 hcall hdg ho hR kk
      · cases ho
    · cases ho
  · have e9 : len = 3 := px_beqT hlen
    subst e9
    unfold px_psh at ho
    split at ho
    · rename_i w hw
      cases ho
      intro H locs ls cells slots I
      have K := kk H locs ls cells slots I
      rcases px_stc_ok hw with ⟨e1, rfl, rfl⟩ | ⟨e1, rfl, rfl⟩
      · rw [e1] at hown
        refine va_gets (C := "ElevenBullocks$Reader") (ref := "ElevenBullocks$Reader") hx hb hst9.2.2.1 I.2.1 hown (hts _ ps_w_rs) (fun _ h9 => h9) hdg ?_
        rw [← show px_v (px_ad base rb) (.ref (px_SC + 1)) = .ref (rb 1) from congrArg Value.ref px_ad_1]
        exact K
      · rw [e1] at hown
        refine va_gets (C := "ElevenBullocks$Reader") (ref := "ElevenBullocks$Reader") hx hb hst9.2.2.2 I.2.1 hown (hts _ ps_w_rl) (fun _ h9 => h9) hdg ?_
        rw [← show px_v (px_ad base rb) (.ref (px_SC + 2)) = .ref (rb 2) from congrArg Value.ref px_ad_2]
        exact K
    · cases ho
  · have e9 : len = 3 := px_beqT hlen
    subst e9
    exact px_s_str Cx hR4 hdg ho hR kk
  · cases ho
end PXS
