/-! the JDK's own String.length and String.charAt over the one literal -/
section PST
def ps_byt : List Int32 := [112, 97, 99, 101, 32, 116, 97, 107, 101, 115, 32, 112, 97, 121, 115, 32, 115, 116, 114, 101, 116, 99, 104, 32, 119, 97, 121, 32, 112, 97, 116, 104, 32, 111, 110, 101, 32, 115, 116, 114, 97, 121, 32, 115, 101, 110, 100, 32, 115, 104, 117, 116, 32, 111, 112, 101, 110, 32, 115, 112, 108, 105, 116, 32, 109, 105, 110, 117, 116, 101, 32, 104, 97, 114, 109, 32, 116, 111, 32, 97, 116, 32, 98, 121, 32, 105, 102, 32, 116, 104, 101, 110, 32, 101, 108, 115, 101, 32, 101, 110, 100, 32, 108, 101, 116, 32, 98, 101, 32, 105, 110, 32, 110, 111, 116, 32, 97, 110, 100, 32, 111, 114, 32, 115, 105, 122, 101, 32, 112, 108, 97, 99, 101, 32, 107, 105, 110, 100, 32, 104, 101, 114, 101, 32, 98, 101, 104, 105, 110, 100, 32, 97, 104, 101, 97, 100, 32, 115, 116, 111, 111, 100, 32, 98, 117, 99, 107, 101, 116, 32, 98, 97, 99, 107, 32, 100, 111, 110, 101, 32]
def ps_Lit (A : Nat → Prop) (q v : Nat) (U : State) : Prop := vk_S 1 [180] [ps_byt] (fun _ => q) (fun _ => v) A U U.heap ∧ va_Z "java/lang/String" "COMPACT_STRINGS" "Z" (.int 1) A U U.heap ∧ va_Zq "jdk/internal/util/Preconditions" "SIOOBE_FORMATTER" "Ljava/util/function/BiFunction;" A U U.heap
def ps_P (as : List Value) (A : Nat → Prop) (q v : Nat) : Array Value → State → Prop := fun w U => w = as.toArray ∧ ps_Lit A q v U
def ps_Q (r : Option Value) (A : Nat → Prop) : Array Value → State → Outcome → State → Prop := fun _ st o t => o = .returned r ∧ va_F A st t
def ps_rm (d : Nat) : Room := { frames := d, cells := 0, slots := 0, locals := 64 * d }
theorem ps_go {A : Nat → Prop} {q v : Nat} {s U : State} {H : Heap} {locs : List Loc} (hL : ps_Lit A q v s) (hS : va_S A s.heap H locs) (hU : U.heap = H) (hW : s.WarmedH U.vm) : ps_Lit A q v U := by
  unfold ps_Lit
  rw [hU]
  exact ⟨(hL.1.kept hS.2.1).moved hW.alike, (hL.2.1.kept hS.2.1).moved hW.alike, (hL.2.2.kept hS.2.1).moved hW.alike⟩
theorem ps_blind {as : List Value} {A : Nat → Prop} {q v : Nat} : FrameBlind (ps_P as A q v) := by
  intro a U g mk z
  obtain ⟨z0, z1, z2, z3⟩ := z
  exact ⟨z0, vk_S.moved (u := U) (U := U.calling g mk a) (Vm.Alike.refl U.vm) z1, va_Z.moved (u := U) (U := U.calling g mk a) (Vm.Alike.refl U.vm) z2, va_Zq.moved (u := U) (U := U.calling g mk a) (Vm.Alike.refl U.vm) z3⟩
theorem ps_run {p : Program} {l : Launch} {e : Env} {R : Room} {s : State} {m : MethodId} {args : Array Value} {below : List Frame} {meth : Method} {c : Code} {Q : State → Prop} {A : Nat → Prop} {H : Heap} {locs : List Loc} {cells slots pc : Nat} {ls : Array Slot} {st0 rest : List Value} {r : Option Value} {a : Array Value}
    (hr : va_Run p l e R s m args below meth c H locs cells slots 0 0 (F0 m pc ls st0) rest (ps_Q r A a) A) (hS : va_S A s.heap H locs)
    (kk : ∀ (H1 : Heap) (locs1 : List Loc), va_S A s.heap H1 locs1 → H.size ≤ H1.size → (∀ q : Nat, q < H.size → ¬ A q → H1[q]? = H[q]?) → W p l e R s m args below meth c H1 locs1 cells slots Q (F0 m (pc + 3) ls (r.toList ++ rest))) : W p l e R s m args below meth c H locs cells slots Q (F0 m pc ls st0) := by
  intro T hT X
  obtain ⟨v', st₀, t, T', L, h0, X', hL, e1, e2, ⟨hv, hz, hk⟩, st⟩ := hr T hT X
  cases hv
  rw [h0] at hz hk
  obtain ⟨t2, a1, b1⟩ := kk T'.heap (locs ++ L) ⟨Nat.le_trans hS.1 (by rw [e1]; exact hz), fun q h1 h2 => by rw [e1, hk q (Nat.lt_of_lt_of_le h1 hS.1) h2]; exact hS.2.1 q h1 h2, fun q hq => by
      rcases List.mem_append.mp hq with h | h
      · exact hS.2.2 q h
      · exact hL q h⟩ (by rw [e1]; exact hz) (fun q h1 h2 => by rw [e1]; exact hk q h1 h2) T' rfl X'
  exact ⟨t2, st t2 a1, b1⟩
theorem ps_w_c_coder : Cond.code yJ0_coder_7d493 cJ0_coder_7d493 1 (some .byte) ∈ px_ws := px_mem (pl := 3142) (by decide +kernel)
theorem ps_w_c_length : Cond.code yJ0_length_8abf5 cJ0_length_8abf5 1 (some .int) ∈ px_ws := px_mem (pl := 3138) (by decide +kernel)
theorem ps_w_c_isLatin1 : Cond.code yJ0_isLatin1_aae02 cJ0_isLatin1_aae02 1 (some .boolean) ∈ px_ws := px_mem (pl := 3152) (by decide +kernel)
theorem ps_w_c_charAt : Cond.code yJ0_charAt_5068e cJ0_charAt_5068e 2 (some .char) ∈ px_ws := px_mem (pl := 3148) (by decide +kernel)
theorem ps_w_c_chk : Cond.code yJ0_checkIndex_df160 cJ0_checkIndex_df160 2 none ∈ px_ws := px_mem (pl := 3158) (by decide +kernel)
theorem ps_w_c_lat : Cond.code yJ1_charAt_3b067 cJ1_charAt_3b067 2 (some .char) ∈ px_ws := px_mem (pl := 3155) (by decide +kernel)
theorem ps_w_c_pre : Cond.code yJ3_checkIndex_8e157 cJ3_checkIndex_8e157 3 (some .int) ∈ px_ws := px_mem (pl := 3163) (by decide +kernel)
theorem ps_w_iS : Cond.initialized "java/lang/String" ∈ px_ws := px_mem (pl := 1016) (by decide +kernel)
theorem ps_w_iL : Cond.initialized "java/lang/StringLatin1" ∈ px_ws := px_mem (pl := 1017) (by decide +kernel)
theorem ps_w_iP : Cond.initialized "jdk/internal/util/Preconditions" ∈ px_ws := px_mem (pl := 1018) (by decide +kernel)
theorem ps_w_in_coder : Cond.instanceMethod yJ0_coder_7d493 ∈ px_ws := px_mem (pl := 3140) (by decide +kernel)
theorem ps_w_se_coder : Cond.selects "java/lang/String" yJ0_coder_7d493 yJ0_coder_7d493 ∈ px_ws := px_mem (pl := 3141) (by decide +kernel)
theorem ps_w_in_isLatin1 : Cond.instanceMethod yJ0_isLatin1_aae02 ∈ px_ws := px_mem (pl := 3150) (by decide +kernel)
theorem ps_w_se_isLatin1 : Cond.selects "java/lang/String" yJ0_isLatin1_aae02 yJ0_isLatin1_aae02 ∈ px_ws := px_mem (pl := 3151) (by decide +kernel)
theorem ps_w_in_length : Cond.instanceMethod yJ0_length_8abf5 ∈ px_ws := px_mem (pl := 3136) (by decide +kernel)
theorem ps_w_se_length : Cond.selects "java/lang/String" yJ0_length_8abf5 yJ0_length_8abf5 ∈ px_ws := px_mem (pl := 3137) (by decide +kernel)
theorem ps_w_in_charAt : Cond.instanceMethod yJ0_charAt_5068e ∈ px_ws := px_mem (pl := 3146) (by decide +kernel)
theorem ps_w_se_charAt : Cond.selects "java/lang/String" yJ0_charAt_5068e yJ0_charAt_5068e ∈ px_ws := px_mem (pl := 3147) (by decide +kernel)
theorem ps_w_st_lat : Cond.static yJ1_charAt_3b067 ∈ px_ws := px_mem (pl := 3154) (by decide +kernel)
theorem ps_w_st_chk : Cond.static yJ0_checkIndex_df160 ∈ px_ws := px_mem (pl := 3157) (by decide +kernel)
theorem ps_w_st_pre : Cond.static yJ3_checkIndex_8e157 ∈ px_ws := px_mem (pl := 3162) (by decide +kernel)
theorem ps_w_l_coder : Cond.methodLink "java/lang/String" 335 yJ0_coder_7d493 ∈ px_ws := px_mem (pl := 3139) (by decide +kernel)
theorem ps_w_l_isLatin1 : Cond.methodLink "java/lang/String" 492 yJ0_isLatin1_aae02 ∈ px_ws := px_mem (pl := 3149) (by decide +kernel)
theorem ps_w_l_lat : Cond.methodLink "java/lang/String" 495 yJ1_charAt_3b067 ∈ px_ws := px_mem (pl := 3153) (by decide +kernel)
theorem ps_w_l_chk : Cond.methodLink "java/lang/StringLatin1" 9 yJ0_checkIndex_df160 ∈ px_ws := px_mem (pl := 3156) (by decide +kernel)
theorem ps_w_l_pre : Cond.methodLink "java/lang/String" 1059 yJ3_checkIndex_8e157 ∈ px_ws := px_mem (pl := 3161) (by decide +kernel)
theorem ps_w_f_cs : Cond.fieldLink "java/lang/String" 38 "java/lang/String" "COMPACT_STRINGS" "Z" ∈ px_ws := px_mem (pl := 3143) (by decide +kernel)
theorem ps_w_f_co : Cond.fieldLink "java/lang/String" 15 "java/lang/String" "coder" "B" ∈ px_ws := px_mem (pl := 9106) (by decide +kernel)
theorem ps_w_f_va : Cond.fieldLink "java/lang/String" 9 "java/lang/String" "value" "[B" ∈ px_ws := px_mem (pl := 9105) (by decide +kernel)
theorem ps_w_f_fo : Cond.fieldLink "java/lang/String" 1053 "jdk/internal/util/Preconditions" "SIOOBE_FORMATTER" "Ljava/util/function/BiFunction;" ∈ px_ws := px_mem (pl := 3159) (by decide +kernel)
theorem ps_w_rs : Cond.fieldLink "ElevenBullocks$Reader" 101 "ElevenBullocks$Reader" "SHAPES" "[I" ∈ px_ws := px_mem (pl := 4037) (by decide +kernel)
theorem ps_w_rl : Cond.fieldLink "ElevenBullocks$Reader" 134 "ElevenBullocks$Reader" "LAWS_OF_NAMES" "[I" ∈ px_ws := px_mem (pl := 4027) (by decide +kernel)
theorem ps_d_coder_0 : decode cJ0_coder_7d493 0 = .ok (.getstatic 38, 3) := by decide +kernel
theorem ps_d_coder_3 : decode cJ0_coder_7d493 3 = .ok (.ifCond .eq 10, 3) := by decide +kernel
theorem ps_d_coder_6 : decode cJ0_coder_7d493 6 = .ok (.aload_n 0, 1) := by decide +kernel
theorem ps_d_coder_7 : decode cJ0_coder_7d493 7 = .ok (.getfield 15, 3) := by decide +kernel
theorem ps_d_coder_10 : decode cJ0_coder_7d493 10 = .ok (.goto 4, 3) := by decide +kernel
theorem ps_d_coder_14 : decode cJ0_coder_7d493 14 = .ok (.ireturn, 1) := by decide +kernel
theorem ps_d_isLatin1_0 : decode cJ0_isLatin1_aae02 0 = .ok (.getstatic 38, 3) := by decide +kernel
theorem ps_d_isLatin1_3 : decode cJ0_isLatin1_aae02 3 = .ok (.ifCond .eq 14, 3) := by decide +kernel
theorem ps_d_isLatin1_6 : decode cJ0_isLatin1_aae02 6 = .ok (.aload_n 0, 1) := by decide +kernel
theorem ps_d_isLatin1_7 : decode cJ0_isLatin1_aae02 7 = .ok (.getfield 15, 3) := by decide +kernel
theorem ps_d_isLatin1_10 : decode cJ0_isLatin1_aae02 10 = .ok (.ifCond .ne 7, 3) := by decide +kernel
theorem ps_d_isLatin1_13 : decode cJ0_isLatin1_aae02 13 = .ok (.iconst 1, 1) := by decide +kernel
theorem ps_d_isLatin1_14 : decode cJ0_isLatin1_aae02 14 = .ok (.goto 4, 3) := by decide +kernel
theorem ps_d_isLatin1_18 : decode cJ0_isLatin1_aae02 18 = .ok (.ireturn, 1) := by decide +kernel
theorem ps_d_length_0 : decode cJ0_length_8abf5 0 = .ok (.aload_n 0, 1) := by decide +kernel
theorem ps_d_length_1 : decode cJ0_length_8abf5 1 = .ok (.getfield 9, 3) := by decide +kernel
theorem ps_d_length_4 : decode cJ0_length_8abf5 4 = .ok (.arraylength, 1) := by decide +kernel
theorem ps_d_length_5 : decode cJ0_length_8abf5 5 = .ok (.aload_n 0, 1) := by decide +kernel
theorem ps_d_length_6 : decode cJ0_length_8abf5 6 = .ok (.invokevirtual 335, 3) := by decide +kernel
theorem ps_d_length_9 : decode cJ0_length_8abf5 9 = .ok (.ishr, 1) := by decide +kernel
theorem ps_d_length_10 : decode cJ0_length_8abf5 10 = .ok (.ireturn, 1) := by decide +kernel
theorem ps_d_pre_0 : decode cJ3_checkIndex_8e157 0 = .ok (.iload_n 0, 1) := by decide +kernel
theorem ps_d_pre_1 : decode cJ3_checkIndex_8e157 1 = .ok (.ifCond .lt 8, 3) := by decide +kernel
theorem ps_d_pre_4 : decode cJ3_checkIndex_8e157 4 = .ok (.iload_n 0, 1) := by decide +kernel
theorem ps_d_pre_5 : decode cJ3_checkIndex_8e157 5 = .ok (.iload_n 1, 1) := by decide +kernel
theorem ps_d_pre_6 : decode cJ3_checkIndex_8e157 6 = .ok (.if_icmp .lt 10, 3) := by decide +kernel
theorem ps_d_pre_16 : decode cJ3_checkIndex_8e157 16 = .ok (.iload_n 0, 1) := by decide +kernel
theorem ps_d_pre_17 : decode cJ3_checkIndex_8e157 17 = .ok (.ireturn, 1) := by decide +kernel
theorem ps_d_chk_0 : decode cJ0_checkIndex_df160 0 = .ok (.iload_n 0, 1) := by decide +kernel
theorem ps_d_chk_1 : decode cJ0_checkIndex_df160 1 = .ok (.iload_n 1, 1) := by decide +kernel
theorem ps_d_chk_2 : decode cJ0_checkIndex_df160 2 = .ok (.getstatic 1053, 3) := by decide +kernel
theorem ps_d_chk_5 : decode cJ0_checkIndex_df160 5 = .ok (.invokestatic 1059, 3) := by decide +kernel
theorem ps_d_chk_8 : decode cJ0_checkIndex_df160 8 = .ok (.pop, 1) := by decide +kernel
theorem ps_d_chk_9 : decode cJ0_checkIndex_df160 9 = .ok (.return_, 1) := by decide +kernel
theorem ps_d_lat_0 : decode cJ1_charAt_3b067 0 = .ok (.iload_n 1, 1) := by decide +kernel
theorem ps_d_lat_1 : decode cJ1_charAt_3b067 1 = .ok (.aload_n 0, 1) := by decide +kernel
theorem ps_d_lat_2 : decode cJ1_charAt_3b067 2 = .ok (.arraylength, 1) := by decide +kernel
theorem ps_d_lat_3 : decode cJ1_charAt_3b067 3 = .ok (.invokestatic 9, 3) := by decide +kernel
theorem ps_d_lat_6 : decode cJ1_charAt_3b067 6 = .ok (.aload_n 0, 1) := by decide +kernel
theorem ps_d_lat_7 : decode cJ1_charAt_3b067 7 = .ok (.iload_n 1, 1) := by decide +kernel
theorem ps_d_lat_8 : decode cJ1_charAt_3b067 8 = .ok (.baload, 1) := by decide +kernel
theorem ps_d_lat_9 : decode cJ1_charAt_3b067 9 = .ok (.sipush 255, 3) := by decide +kernel
theorem ps_d_lat_12 : decode cJ1_charAt_3b067 12 = .ok (.iand, 1) := by decide +kernel
theorem ps_d_lat_13 : decode cJ1_charAt_3b067 13 = .ok (.i2c, 1) := by decide +kernel
theorem ps_d_lat_14 : decode cJ1_charAt_3b067 14 = .ok (.ireturn, 1) := by decide +kernel
theorem ps_d_charAt_0 : decode cJ0_charAt_5068e 0 = .ok (.aload_n 0, 1) := by decide +kernel
theorem ps_d_charAt_1 : decode cJ0_charAt_5068e 1 = .ok (.invokevirtual 492, 3) := by decide +kernel
theorem ps_d_charAt_4 : decode cJ0_charAt_5068e 4 = .ok (.ifCond .eq 12, 3) := by decide +kernel
theorem ps_d_charAt_7 : decode cJ0_charAt_5068e 7 = .ok (.aload_n 0, 1) := by decide +kernel
theorem ps_d_charAt_8 : decode cJ0_charAt_5068e 8 = .ok (.getfield 9, 3) := by decide +kernel
theorem ps_d_charAt_11 : decode cJ0_charAt_5068e 11 = .ok (.iload_n 1, 1) := by decide +kernel
theorem ps_d_charAt_12 : decode cJ0_charAt_5068e 12 = .ok (.invokestatic 495, 3) := by decide +kernel
theorem ps_d_charAt_15 : decode cJ0_charAt_5068e 15 = .ok (.ireturn, 1) := by decide +kernel
set_option maxRecDepth 100000 in
theorem ps_coder (l : Launch) {A : Nat → Prop} {q v : Nat}  : Met l yJ0_coder_7d493 (Cond.code yJ0_coder_7d493 cJ0_coder_7d493 1 (some .byte) :: px_ws) (ps_rm 0) (ps_P [.ref q] A q v) (ps_Q (some (.int 0)) A) 0 0 A := by
  refine Met.ofW (cc := cJ0_coder_7d493) (maxL := 1) (ret := (some .byte)) (by decide) rfl ?_
  intro p e s m args below meth c s₁ B hml hv
  obtain ⟨rfl, hL⟩ := hv
  have hx := B.exec
  have hb := B.bytes
  have hr := B.returns
  have hlocks := B.notSynchronized
  have hts0 := atoms_spec (ws := Cond.code yJ0_coder_7d493 cJ0_coder_7d493 1 (some .byte) :: px_ws) B.pre
  have hts : ∀ w ∈ px_ws, w.before [.ref q].toArray s = true := fun w h => hts0 w (List.mem_cons_of_mem _ h)
  have hown : s.vm.findClass "java/lang/String" = some m.cls := findClass_of_methodNamed B.named
  have hS : va_S A s.heap s.heap [] := va_S.rf
  have hl := lv_entry ([.ref q]) (n := 1) (Nat.le_of_ble_eq_true rfl)
  rw [lg_entry_eq]
  generalize (lg_sl ([.ref q]) ++ List.replicate (1 - (lg_sl ([.ref q])).length) Slot.unset).toArray = ls at hl ⊢
  have S9 : CallFix p m c cJ0_coder_7d493 1 s [.ref q].toArray px_ws "java/lang/String" := ⟨hx, hb, hml, hown, hts⟩
  have hl : lv_has ls 1 [(0, .ref q)] := hl
  refine va_gets (C := "java/lang/String") (ref := "java/lang/String") hx hb hL.2.1 hS hown (hts _ ps_w_f_cs) (fun _ h9 => h9) ps_d_coder_0 ?_
  refine lv_if_eq hx hb ps_d_coder_3 (tgt := 13) rfl (fun h9 => absurd h9 (by decide)) (fun _ => ?_)
  refine lv_aload_n hx hb ps_d_coder_6 rfl (lv_at hl 0 rfl) ?_
  refine vk_getf (ref := "java/lang/String") hx hb (hL.1.1 0 (by decide)).2.1 hS hown (hts _ ps_w_f_co) (fun _ h9 => h9) ps_d_coder_7 ?_
  refine lv_goto hx hb ps_d_coder_10 (tgt := 14) rfl ?_
  exact W.zret hx hb hr rfl (fun t ht _ => ⟨rfl, hS.F ht⟩) hS.2.2 ps_d_coder_14
set_option maxRecDepth 100000 in
theorem ps_isLatin1 (l : Launch) {A : Nat → Prop} {q v : Nat}  : Met l yJ0_isLatin1_aae02 (Cond.code yJ0_isLatin1_aae02 cJ0_isLatin1_aae02 1 (some .boolean) :: px_ws) (ps_rm 0) (ps_P [.ref q] A q v) (ps_Q (some (.int 1)) A) 0 0 A := by
  refine Met.ofW (cc := cJ0_isLatin1_aae02) (maxL := 1) (ret := (some .boolean)) (by decide) rfl ?_
  intro p e s m args below meth c s₁ B hml hv
  obtain ⟨rfl, hL⟩ := hv
  have hx := B.exec
  have hb := B.bytes
  have hr := B.returns
  have hlocks := B.notSynchronized
  have hts0 := atoms_spec (ws := Cond.code yJ0_isLatin1_aae02 cJ0_isLatin1_aae02 1 (some .boolean) :: px_ws) B.pre
  have hts : ∀ w ∈ px_ws, w.before [.ref q].toArray s = true := fun w h => hts0 w (List.mem_cons_of_mem _ h)
  have hown : s.vm.findClass "java/lang/String" = some m.cls := findClass_of_methodNamed B.named
  have hS : va_S A s.heap s.heap [] := va_S.rf
  have hl := lv_entry ([.ref q]) (n := 1) (Nat.le_of_ble_eq_true rfl)
  rw [lg_entry_eq]
  generalize (lg_sl ([.ref q]) ++ List.replicate (1 - (lg_sl ([.ref q])).length) Slot.unset).toArray = ls at hl ⊢
  have S9 : CallFix p m c cJ0_isLatin1_aae02 1 s [.ref q].toArray px_ws "java/lang/String" := ⟨hx, hb, hml, hown, hts⟩
  have hl : lv_has ls 1 [(0, .ref q)] := hl
  refine va_gets (C := "java/lang/String") (ref := "java/lang/String") hx hb hL.2.1 hS hown (hts _ ps_w_f_cs) (fun _ h9 => h9) ps_d_isLatin1_0 ?_
  refine lv_if_eq hx hb ps_d_isLatin1_3 (tgt := 17) rfl (fun h9 => absurd h9 (by decide)) (fun _ => ?_)
  refine lv_aload_n hx hb ps_d_isLatin1_6 rfl (lv_at hl 0 rfl) ?_
  refine vk_getf (ref := "java/lang/String") hx hb (hL.1.1 0 (by decide)).2.1 hS hown (hts _ ps_w_f_co) (fun _ h9 => h9) ps_d_isLatin1_7 ?_
  refine lv_if_ne hx hb ps_d_isLatin1_10 (tgt := 17) rfl (fun h9 => absurd rfl h9) (fun _ => ?_)
  refine lv_iconst (v := 1) hx hb ps_d_isLatin1_13 (by decide) ?_
  refine lv_goto hx hb ps_d_isLatin1_14 (tgt := 18) rfl ?_
  exact W.zret hx hb hr rfl (fun t ht _ => ⟨rfl, hS.F ht⟩) hS.2.2 ps_d_isLatin1_18
set_option maxRecDepth 100000 in
theorem ps_length (l : Launch) {A : Nat → Prop} {q v : Nat}  : Met l yJ0_length_8abf5 (Cond.code yJ0_length_8abf5 cJ0_length_8abf5 1 (some .int) :: px_ws) (ps_rm 1) (ps_P [.ref q] A q v) (ps_Q (some (.int 180)) A) 0 0 A := by
  refine Met.ofW (cc := cJ0_length_8abf5) (maxL := 1) (ret := (some .int)) (by decide) rfl ?_
  intro p e s m args below meth c s₁ B hml hv
  obtain ⟨rfl, hL⟩ := hv
  have hx := B.exec
  have hb := B.bytes
  have hr := B.returns
  have hlocks := B.notSynchronized
  have hts0 := atoms_spec (ws := Cond.code yJ0_length_8abf5 cJ0_length_8abf5 1 (some .int) :: px_ws) B.pre
  have hts : ∀ w ∈ px_ws, w.before [.ref q].toArray s = true := fun w h => hts0 w (List.mem_cons_of_mem _ h)
  have hown : s.vm.findClass "java/lang/String" = some m.cls := findClass_of_methodNamed B.named
  have hS : va_S A s.heap s.heap [] := va_S.rf
  have hl := lv_entry ([.ref q]) (n := 1) (Nat.le_of_ble_eq_true rfl)
  rw [lg_entry_eq]
  generalize (lg_sl ([.ref q]) ++ List.replicate (1 - (lg_sl ([.ref q])).length) Slot.unset).toArray = ls at hl ⊢
  have S9 : CallFix p m c cJ0_length_8abf5 1 s [.ref q].toArray px_ws "java/lang/String" := ⟨hx, hb, hml, hown, hts⟩
  have hl : lv_has ls 1 [(0, .ref q)] := hl
  refine lv_aload_n hx hb ps_d_length_0 rfl (lv_at hl 0 rfl) ?_
  refine vk_getf (ref := "java/lang/String") hx hb (hL.1.1 0 (by decide)).2.2.1 hS hown (hts _ ps_w_f_va) (fun _ h9 => h9) ps_d_length_1 ?_
  refine va_tlen (v := 180) hx hb (hL.1.1 0 (by decide)).2.2.2 hS rfl ps_d_length_4 ?_
  refine lv_aload_n hx hb ps_d_length_5 rfl (lv_at hl 0 rfl) ?_
  have cw := callB_of (R := ps_rm 1) (s := s) (args := [.ref q].toArray) (own := "java/lang/String") (index := 335) (rm := ps_rm 0) (mc := 0) (ms := 0) 0 hts (fun w hw => (by
    rcases List.mem_cons.mp hw with rfl | hw
    · exact px_ws_good _ ps_w_c_coder
    · exact px_ws_good _ hw) : GoodIn px_ws (Cond.code yJ0_coder_7d493 cJ0_coder_7d493 1 (some .byte) :: px_ws)) rfl rfl rfl (hts _ ps_w_iS) (hts _ ps_w_l_coder) ⟨by decide, by decide, by decide⟩ ⟨by decide, by decide⟩
  refine ps_run (va_runV (C := "java/lang/String") (b := q) (As := []) (rest := [.int 180]) S9 (ps_coder l (A := A) (q := q) (v := v)) ⟨cw, hts _ ps_w_in_coder, hts _ ps_w_se_coder⟩ ⟨ps_blind, vk_recv (i := 0) hL.1 (by decide) hS, fun U hU hW => ⟨rfl, ps_go hL hS hU hW⟩⟩ rfl rfl hl.1 rfl (lv_room (by decide)) ps_d_length_6 ⟨by decide, by decide⟩) hS (fun H1 locs1 hS1 _ _ => ?_)
  refine lv_ishr hx hb ps_d_length_9 ?_
  exact W.iret (v := 180) hx hb hr (fun t ht _ => ⟨rfl, hS1.F ht⟩) hS1.2.2 ps_d_length_10
set_option maxRecDepth 100000 in
theorem ps_preN (l : Launch) {A : Nat → Prop} {q v : Nat} {i n : Int32} {t : Nat} (h0 : ¬ i < 0) (h1 : i < n) : Met l yJ3_checkIndex_8e157 (Cond.code yJ3_checkIndex_8e157 cJ3_checkIndex_8e157 3 (some .int) :: px_ws) (ps_rm 0) (ps_P [.int i, .int n, .null] A q v) (ps_Q (some (.int i)) A) 0 0 A := by
  refine Met.ofW (cc := cJ3_checkIndex_8e157) (maxL := 3) (ret := (some .int)) (by decide) rfl ?_
  intro p e s m args below meth c s₁ B hml hv
  obtain ⟨rfl, hL⟩ := hv
  have hx := B.exec
  have hb := B.bytes
  have hr := B.returns
  have hlocks := B.notSynchronized
  have hts0 := atoms_spec (ws := Cond.code yJ3_checkIndex_8e157 cJ3_checkIndex_8e157 3 (some .int) :: px_ws) B.pre
  have hts : ∀ w ∈ px_ws, w.before [.int i, .int n, .null].toArray s = true := fun w h => hts0 w (List.mem_cons_of_mem _ h)
  have hown : s.vm.findClass "jdk/internal/util/Preconditions" = some m.cls := findClass_of_methodNamed B.named
  have hS : va_S A s.heap s.heap [] := va_S.rf
  have hl := lv_entry ([.int i, .int n, .null]) (n := 3) (Nat.le_of_ble_eq_true rfl)
  rw [lg_entry_eq]
  generalize (lg_sl ([.int i, .int n, .null]) ++ List.replicate (3 - (lg_sl ([.int i, .int n, .null])).length) Slot.unset).toArray = ls at hl ⊢
  have S9 : CallFix p m c cJ3_checkIndex_8e157 3 s [.int i, .int n, .null].toArray px_ws "jdk/internal/util/Preconditions" := ⟨hx, hb, hml, hown, hts⟩
  have hl : lv_has ls 3 [(0, .int i), (1, .int n), (2, .null)] := hl
  refine lv_iload_n hx hb ps_d_pre_0 rfl (lv_at hl 0 rfl) ?_
  refine lv_if_lt hx hb ps_d_pre_1 (tgt := 9) rfl (fun h9 => absurd h9 h0) (fun _ => ?_)
  refine lv_iload_n hx hb ps_d_pre_4 rfl (lv_at hl 0 rfl) ?_
  refine lv_iload_n hx hb ps_d_pre_5 rfl (lv_at hl 1 rfl) ?_
  refine lv_icmp_lt hx hb ps_d_pre_6 (tgt := 16) rfl (fun _ => ?_) (fun h9 => absurd h1 h9)
  refine lv_iload_n hx hb ps_d_pre_16 rfl (lv_at hl 0 rfl) ?_
  exact W.iret hx hb hr (fun t ht _ => ⟨rfl, hS.F ht⟩) hS.2.2 ps_d_pre_17
set_option maxRecDepth 100000 in
theorem ps_preR (l : Launch) {A : Nat → Prop} {q v : Nat} {i n : Int32} {t : Nat} (h0 : ¬ i < 0) (h1 : i < n) : Met l yJ3_checkIndex_8e157 (Cond.code yJ3_checkIndex_8e157 cJ3_checkIndex_8e157 3 (some .int) :: px_ws) (ps_rm 0) (ps_P [.int i, .int n, .ref t] A q v) (ps_Q (some (.int i)) A) 0 0 A := by
  refine Met.ofW (cc := cJ3_checkIndex_8e157) (maxL := 3) (ret := (some .int)) (by decide) rfl ?_
  intro p e s m args below meth c s₁ B hml hv
  obtain ⟨rfl, hL⟩ := hv
  have hx := B.exec
  have hb := B.bytes
  have hr := B.returns
  have hlocks := B.notSynchronized
  have hts0 := atoms_spec (ws := Cond.code yJ3_checkIndex_8e157 cJ3_checkIndex_8e157 3 (some .int) :: px_ws) B.pre
  have hts : ∀ w ∈ px_ws, w.before [.int i, .int n, .ref t].toArray s = true := fun w h => hts0 w (List.mem_cons_of_mem _ h)
  have hown : s.vm.findClass "jdk/internal/util/Preconditions" = some m.cls := findClass_of_methodNamed B.named
  have hS : va_S A s.heap s.heap [] := va_S.rf
  have hl := lv_entry ([.int i, .int n, .ref t]) (n := 3) (Nat.le_of_ble_eq_true rfl)
  rw [lg_entry_eq]
  generalize (lg_sl ([.int i, .int n, .ref t]) ++ List.replicate (3 - (lg_sl ([.int i, .int n, .ref t])).length) Slot.unset).toArray = ls at hl ⊢
  have S9 : CallFix p m c cJ3_checkIndex_8e157 3 s [.int i, .int n, .ref t].toArray px_ws "jdk/internal/util/Preconditions" := ⟨hx, hb, hml, hown, hts⟩
  have hl : lv_has ls 3 [(0, .int i), (1, .int n), (2, .ref t)] := hl
  refine lv_iload_n hx hb ps_d_pre_0 rfl (lv_at hl 0 rfl) ?_
  refine lv_if_lt hx hb ps_d_pre_1 (tgt := 9) rfl (fun h9 => absurd h9 h0) (fun _ => ?_)
  refine lv_iload_n hx hb ps_d_pre_4 rfl (lv_at hl 0 rfl) ?_
  refine lv_iload_n hx hb ps_d_pre_5 rfl (lv_at hl 1 rfl) ?_
  refine lv_icmp_lt hx hb ps_d_pre_6 (tgt := 16) rfl (fun _ => ?_) (fun h9 => absurd h1 h9)
  refine lv_iload_n hx hb ps_d_pre_16 rfl (lv_at hl 0 rfl) ?_
  exact W.iret hx hb hr (fun t ht _ => ⟨rfl, hS.F ht⟩) hS.2.2 ps_d_pre_17
set_option maxRecDepth 100000 in
theorem ps_chk (l : Launch) {A : Nat → Prop} {q v : Nat} {i n : Int32} (h0 : ¬ i < 0) (h1 : i < n) : Met l yJ0_checkIndex_df160 (Cond.code yJ0_checkIndex_df160 cJ0_checkIndex_df160 2 none :: px_ws) (ps_rm 1) (ps_P [.int i, .int n] A q v) (ps_Q none A) 0 0 A := by
  refine Met.ofW (cc := cJ0_checkIndex_df160) (maxL := 2) (ret := none) (by decide) rfl ?_
  intro p e s m args below meth c s₁ B hml hv
  obtain ⟨rfl, hL⟩ := hv
  have hx := B.exec
  have hb := B.bytes
  have hr := B.returns
  have hlocks := B.notSynchronized
  have hts0 := atoms_spec (ws := Cond.code yJ0_checkIndex_df160 cJ0_checkIndex_df160 2 none :: px_ws) B.pre
  have hts : ∀ w ∈ px_ws, w.before [.int i, .int n].toArray s = true := fun w h => hts0 w (List.mem_cons_of_mem _ h)
  have hown : s.vm.findClass "java/lang/String" = some m.cls := findClass_of_methodNamed B.named
  have hS : va_S A s.heap s.heap [] := va_S.rf
  have hl := lv_entry ([.int i, .int n]) (n := 2) (Nat.le_of_ble_eq_true rfl)
  rw [lg_entry_eq]
  generalize (lg_sl ([.int i, .int n]) ++ List.replicate (2 - (lg_sl ([.int i, .int n])).length) Slot.unset).toArray = ls at hl ⊢
  have S9 : CallFix p m c cJ0_checkIndex_df160 2 s [.int i, .int n].toArray px_ws "java/lang/String" := ⟨hx, hb, hml, hown, hts⟩
  have hl : lv_has ls 2 [(0, .int i), (1, .int n)] := hl
  refine lv_iload_n hx hb ps_d_chk_0 rfl (lv_at hl 0 rfl) ?_
  refine lv_iload_n hx hb ps_d_chk_1 rfl (lv_at hl 1 rfl) ?_
  rcases hL.2.2 with z | ⟨t, z⟩
  · refine va_gets (C := "jdk/internal/util/Preconditions") (ref := "jdk/internal/util/Preconditions") hx hb z hS hown (hts _ ps_w_f_fo) (fun _ h9 => h9) ps_d_chk_2 ?_
    have cw := callB_of (R := ps_rm 1) (s := s) (args := [.int i, .int n].toArray) (own := "java/lang/String") (index := 1059) (rm := ps_rm 0) (mc := 0) (ms := 0) 3 hts (fun w hw => (by
    rcases List.mem_cons.mp hw with rfl | hw
    · exact px_ws_good _ ps_w_c_pre
    · exact px_ws_good _ hw) : GoodIn px_ws (Cond.code yJ3_checkIndex_8e157 cJ3_checkIndex_8e157 3 (some .int) :: px_ws)) rfl rfl rfl (hts _ ps_w_iP) (hts _ ps_w_l_pre) ⟨by decide, by decide, by decide⟩ ⟨by decide, by decide⟩
    refine ps_run (va_runS (As := [.int i, .int n, .null]) (rest := []) S9 (ps_preN (t := 0) l (A := A) (q := q) (v := v) h0 h1) ⟨cw, hts _ ps_w_st_pre⟩ ⟨ps_blind, fun U hU hW => ⟨rfl, ps_go hL hS hU hW⟩⟩ rfl rfl hl.1 rfl (lv_room (by decide)) ps_d_chk_5 ⟨by decide, by decide⟩) hS (fun H1 locs1 hS1 _ _ => ?_)
    refine lv_pop hx hb ps_d_chk_8 rfl ?_
    exact W.vret hx hb hr (fun t ht _ => ⟨rfl, hS1.F ht⟩) hS1.2.2 ps_d_chk_9
  · refine va_gets (C := "jdk/internal/util/Preconditions") (ref := "jdk/internal/util/Preconditions") hx hb z hS hown (hts _ ps_w_f_fo) (fun _ h9 => h9) ps_d_chk_2 ?_
    have cw := callB_of (R := ps_rm 1) (s := s) (args := [.int i, .int n].toArray) (own := "java/lang/String") (index := 1059) (rm := ps_rm 0) (mc := 0) (ms := 0) 3 hts (fun w hw => (by
    rcases List.mem_cons.mp hw with rfl | hw
    · exact px_ws_good _ ps_w_c_pre
    · exact px_ws_good _ hw) : GoodIn px_ws (Cond.code yJ3_checkIndex_8e157 cJ3_checkIndex_8e157 3 (some .int) :: px_ws)) rfl rfl rfl (hts _ ps_w_iP) (hts _ ps_w_l_pre) ⟨by decide, by decide, by decide⟩ ⟨by decide, by decide⟩
    refine ps_run (va_runS (As := [.int i, .int n, .ref t]) (rest := []) S9 (ps_preR (t := t) l (A := A) (q := q) (v := v) h0 h1) ⟨cw, hts _ ps_w_st_pre⟩ ⟨ps_blind, fun U hU hW => ⟨rfl, ps_go hL hS hU hW⟩⟩ rfl rfl hl.1 rfl (lv_room (by decide)) ps_d_chk_5 ⟨by decide, by decide⟩) hS (fun H1 locs1 hS1 _ _ => ?_)
    refine lv_pop hx hb ps_d_chk_8 rfl ?_
    exact W.vret hx hb hr (fun t ht _ => ⟨rfl, hS1.F ht⟩) hS1.2.2 ps_d_chk_9
theorem ps_ch : ∀ k, k < 180 → (((ps_byt.getD k 0) &&& 255).toUInt32 % 65536).toInt32 = ps_byt.getD k 0 ∧ narrow .char (.int (ps_byt.getD k 0)) = .int (ps_byt.getD k 0) := by decide +kernel
set_option maxRecDepth 100000 in
theorem ps_lat (l : Launch) {A : Nat → Prop} {q v : Nat} {k : Nat} (hk : k < 180) : Met l yJ1_charAt_3b067 (Cond.code yJ1_charAt_3b067 cJ1_charAt_3b067 2 (some .char) :: px_ws) (ps_rm 2) (ps_P [.ref v, .int (nI k)] A q v) (ps_Q (some (.int (ps_byt.getD k 0))) A) 0 0 A := by
  refine Met.ofW (cc := cJ1_charAt_3b067) (maxL := 2) (ret := (some .char)) (by decide) rfl ?_
  intro p e s m args below meth c s₁ B hml hv
  obtain ⟨rfl, hL⟩ := hv
  have hx := B.exec
  have hb := B.bytes
  have hr := B.returns
  have hlocks := B.notSynchronized
  have hts0 := atoms_spec (ws := Cond.code yJ1_charAt_3b067 cJ1_charAt_3b067 2 (some .char) :: px_ws) B.pre
  have hts : ∀ w ∈ px_ws, w.before [.ref v, .int (nI k)].toArray s = true := fun w h => hts0 w (List.mem_cons_of_mem _ h)
  have hown : s.vm.findClass "java/lang/StringLatin1" = some m.cls := findClass_of_methodNamed B.named
  have hS : va_S A s.heap s.heap [] := va_S.rf
  have hl := lv_entry ([.ref v, .int (nI k)]) (n := 2) (Nat.le_of_ble_eq_true rfl)
  rw [lg_entry_eq]
  generalize (lg_sl ([.ref v, .int (nI k)]) ++ List.replicate (2 - (lg_sl ([.ref v, .int (nI k)])).length) Slot.unset).toArray = ls at hl ⊢
  have S9 : CallFix p m c cJ1_charAt_3b067 2 s [.ref v, .int (nI k)].toArray px_ws "java/lang/StringLatin1" := ⟨hx, hb, hml, hown, hts⟩
  have hl : lv_has ls 2 [(0, .ref v), (1, .int (nI k))] := hl
  refine lv_iload_n hx hb ps_d_lat_0 rfl (lv_at hl 1 rfl) ?_
  refine lv_aload_n hx hb ps_d_lat_1 rfl (lv_at hl 0 rfl) ?_
  refine va_tlen (v := nI 180) hx hb (hL.1.1 0 (by decide)).2.2.2 hS rfl ps_d_lat_2 ?_
  · have cw := callB_of (R := ps_rm 2) (s := s) (args := [.ref v, .int (nI k)].toArray) (own := "java/lang/StringLatin1") (index := 9) (rm := ps_rm 1) (mc := 0) (ms := 0) 2 hts (fun w hw => (by
    rcases List.mem_cons.mp hw with rfl | hw
    · exact px_ws_good _ ps_w_c_chk
    · exact px_ws_good _ hw) : GoodIn px_ws (Cond.code yJ0_checkIndex_df160 cJ0_checkIndex_df160 2 none :: px_ws)) rfl rfl rfl (hts _ ps_w_iS) (hts _ ps_w_l_chk) ⟨by decide, by decide, by decide⟩ ⟨by decide, by decide⟩
    refine ps_run (va_runS (As := [.int (nI k), .int (nI 180)]) (rest := []) S9 (ps_chk l (A := A) (q := q) (v := v) (nI_pos (by omega)) (nI_lt hk (by decide))) ⟨cw, hts _ ps_w_st_chk⟩ ⟨ps_blind, fun U hU hW => ⟨rfl, ps_go hL hS hU hW⟩⟩ rfl rfl hl.1 rfl (lv_room (by decide)) ps_d_lat_3 ⟨by decide, by decide⟩) hS (fun H1 locs1 hS1 _ _ => ?_)
    refine lv_aload_n hx hb ps_d_lat_6 rfl (lv_at hl 0 rfl) ?_
    refine lv_iload_n hx hb ps_d_lat_7 rfl (lv_at hl 1 rfl) ?_
    refine va_tb (v := .int (ps_byt.getD k 0)) hx hb (hL.1.1 0 (by decide)).2.2.2 hS1 (vp_in_nI (show k < ([180] : List Nat).getD 0 0 from hk) (by decide)) (by show Value.int (ps_byt.getD (nI k).toNatClampNeg 0) = _; rw [nI_clamp (by omega)]) ps_d_lat_8 ?_
    refine lv_sipush (v := 255) hx hb ps_d_lat_9 (by decide) ?_
    refine lv_iand hx hb ps_d_lat_12 ?_
    refine lv_i2c (v := ps_byt.getD k 0) hx hb ps_d_lat_13 (ps_ch k hk).1 ?_
    exact W.zret hx hb hr (ps_ch k hk).2 (fun t ht _ => ⟨rfl, hS1.F ht⟩) hS1.2.2 ps_d_lat_14
set_option maxRecDepth 100000 in
theorem ps_charAt (l : Launch) {A : Nat → Prop} {q v : Nat} {k : Nat} (hk : k < 180) : Met l yJ0_charAt_5068e (Cond.code yJ0_charAt_5068e cJ0_charAt_5068e 2 (some .char) :: px_ws) (ps_rm 3) (ps_P [.ref q, .int (nI k)] A q v) (ps_Q (some (.int (ps_byt.getD k 0))) A) 0 0 A := by
  refine Met.ofW (cc := cJ0_charAt_5068e) (maxL := 2) (ret := (some .char)) (by decide) rfl ?_
  intro p e s m args below meth c s₁ B hml hv
  obtain ⟨rfl, hL⟩ := hv
  have hx := B.exec
  have hb := B.bytes
  have hr := B.returns
  have hlocks := B.notSynchronized
  have hts0 := atoms_spec (ws := Cond.code yJ0_charAt_5068e cJ0_charAt_5068e 2 (some .char) :: px_ws) B.pre
  have hts : ∀ w ∈ px_ws, w.before [.ref q, .int (nI k)].toArray s = true := fun w h => hts0 w (List.mem_cons_of_mem _ h)
  have hown : s.vm.findClass "java/lang/String" = some m.cls := findClass_of_methodNamed B.named
  have hS : va_S A s.heap s.heap [] := va_S.rf
  have hl := lv_entry ([.ref q, .int (nI k)]) (n := 2) (Nat.le_of_ble_eq_true rfl)
  rw [lg_entry_eq]
  generalize (lg_sl ([.ref q, .int (nI k)]) ++ List.replicate (2 - (lg_sl ([.ref q, .int (nI k)])).length) Slot.unset).toArray = ls at hl ⊢
  have S9 : CallFix p m c cJ0_charAt_5068e 2 s [.ref q, .int (nI k)].toArray px_ws "java/lang/String" := ⟨hx, hb, hml, hown, hts⟩
  have hl : lv_has ls 2 [(0, .ref q), (1, .int (nI k))] := hl
  refine lv_aload_n hx hb ps_d_charAt_0 rfl (lv_at hl 0 rfl) ?_
  have cw := callB_of (R := ps_rm 3) (s := s) (args := [.ref q, .int (nI k)].toArray) (own := "java/lang/String") (index := 492) (rm := ps_rm 0) (mc := 0) (ms := 0) 0 hts (fun w hw => (by
    rcases List.mem_cons.mp hw with rfl | hw
    · exact px_ws_good _ ps_w_c_isLatin1
    · exact px_ws_good _ hw) : GoodIn px_ws (Cond.code yJ0_isLatin1_aae02 cJ0_isLatin1_aae02 1 (some .boolean) :: px_ws)) rfl rfl rfl (hts _ ps_w_iS) (hts _ ps_w_l_isLatin1) ⟨by decide, by decide, by decide⟩ ⟨by decide, by decide⟩
  refine ps_run (va_runV (C := "java/lang/String") (b := q) (As := []) (rest := []) S9 (ps_isLatin1 l (A := A) (q := q) (v := v)) ⟨cw, hts _ ps_w_in_isLatin1, hts _ ps_w_se_isLatin1⟩ ⟨ps_blind, vk_recv (i := 0) hL.1 (by decide) hS, fun U hU hW => ⟨rfl, ps_go hL hS hU hW⟩⟩ rfl rfl hl.1 rfl (lv_room (by decide)) ps_d_charAt_1 ⟨by decide, by decide⟩) hS (fun H0 locs0 hS0 _ _ => ?_)
  refine lv_if_eq hx hb ps_d_charAt_4 (tgt := 16) rfl (fun h9 => absurd h9 (by decide)) (fun _ => ?_)
  refine lv_aload_n hx hb ps_d_charAt_7 rfl (lv_at hl 0 rfl) ?_
  refine vk_getf (ref := "java/lang/String") hx hb (hL.1.1 0 (by decide)).2.2.1 hS0 hown (hts _ ps_w_f_va) (fun _ h9 => h9) ps_d_charAt_8 ?_
  refine lv_iload_n hx hb ps_d_charAt_11 rfl (lv_at hl 1 rfl) ?_
  · have cw := callB_of (R := ps_rm 3) (s := s) (args := [.ref q, .int (nI k)].toArray) (own := "java/lang/String") (index := 495) (rm := ps_rm 2) (mc := 0) (ms := 0) 2 hts (fun w hw => (by
    rcases List.mem_cons.mp hw with rfl | hw
    · exact px_ws_good _ ps_w_c_lat
    · exact px_ws_good _ hw) : GoodIn px_ws (Cond.code yJ1_charAt_3b067 cJ1_charAt_3b067 2 (some .char) :: px_ws)) rfl rfl rfl (hts _ ps_w_iL) (hts _ ps_w_l_lat) ⟨by decide, by decide, by decide⟩ ⟨by decide, by decide⟩
    refine ps_run (va_runS (As := [.ref v, .int (nI k)]) (rest := []) S9 (ps_lat l (A := A) (q := q) (v := v) hk) ⟨cw, hts _ ps_w_st_lat⟩ ⟨ps_blind, fun U hU hW => ⟨rfl, ps_go hL hS0 hU hW⟩⟩ rfl rfl hl.1 rfl (lv_room (by decide)) ps_d_charAt_12 ⟨by decide, by decide⟩) hS0 (fun H1 locs1 hS1 _ _ => ?_)
    exact W.zret hx hb hr (ps_ch k hk).2 (fun t ht _ => ⟨rfl, hS1.F ht⟩) hS1.2.2 ps_d_charAt_15
end PST
