def R_law : String := "ElevenBullocksLaw"
def lw_P (b : Addr) (xs : List Int32) (args : Array Value) (s : State) : Prop := args = #[.ref b] ∧ s.IntsAt b xs ∧ xs.length ≤ 3072 ∧ (Jvm.Cond.and given_1 narrow_1).before args s = true
def lw_Q (_ : Array Value) (s : State) (o : Outcome) (t : State) : Prop := o = .returned (some (.int 1)) ∧ Framed s o t [] 600000 7302250
def lw_Z (below : List Frame) (a : Array Value) (s : State) : State → Prop := fun t => ∃ o, t.status = .running ∧ Ended t below o ∧ lw_Q a s o t
/-- the law's own end, with 1 on the stack, nothing written that was there before, its room as the claim has it -/
theorem lw_ret {p : Program} {l : Launch} {e : Env} {s : State} {m : MethodId} {below : List Frame} {meth : Method} {c : Code} {b : Nat} (hx : p.tables.exec = Jvm.exec) (hb : c.code = code) (hr : meth.sig.returnType = ret) (hlocks : meth.locks = false) {pc : Nat} {H : Heap} {ls : Array Slot} (hdg : decode code pc = .ok (.ireturn, 1)) : W p l e room_1 s m #[Value.ref b] below meth c H [] 600000 7302250 (lw_Z below #[Value.ref b] s) (F0 m pc ls [.int 1]) := by
  intro T hT X
  obtain ⟨fs, hret, hrun, hended, hW, hframe⟩ := X.leave (v := some (.int 1)) (hlocks := hlocks) (fun h => by rw [hr] at h; cases h)
  have hmeth' : T.vm.method? m = some meth := X.method'
  refine ⟨T.setFrames fs, ?_, .returned (some (.int 1)), hrun, hended, rfl, ⟨_, rfl⟩, hW, hframe⟩
  jvm_step X.here [X.here.top, hx, hb, hdg, hmeth', hr, ret, narrow_b1]
  (try refine ⟨rfl, ?_⟩); (try refine ⟨rfl, ?_⟩)
  first | (intro acts; rw [hret _ acts rfl rfl rfl]) | rw [hret _ _ rfl rfl rfl]
  exact Steps.refl _
/-- what holds at the law's entry: the machine, the code, the tables' words (any of lw_tbl by 'hts w (by decide +kernel)'), the script of L ints xs at the cell b, what the Statement gives of the start (any of its parts by flat_of_before) -/
def lw_At (p : Program) (s : State) (m : MethodId) (meth : Method) (c : Code) (b L : Nat) (xs : Nat → Int32) : Prop :=
  p.tables.exec = Jvm.exec ∧ c.code = code ∧ meth.sig.returnType = ret ∧ c.maxLocals = 4 ∧ s.vm.findClass R_law = some m.cls ∧ (∀ w ∈ lw_tbl, w.before #[Value.ref b] s = true) ∧ va_X b L xs s s.heap ∧ b < s.heap.size ∧ meth.locks = false ∧ (Jvm.Cond.and given_1 narrow_1).before #[Value.ref b] s = true

theorem px_world {s : State} {args : Array Value} (hts : ∀ w ∈ px_ws, w.before args s = true) (hao : va_AO "ElevenBullocks$Script" s) : ∃ (D : va_G) (dA : Nat → ClassId), va_K D vwCl (px_tys dA) s := by
  have h1 : ∀ ci : Nat, ∃ (cC : ClassId) (iS : Nat → Nat), ∀ r : vw_C, vwCl[ci]? = some r → u_Kn s r.1 r.2.1 r.2.2 cC iS := by
    intro ci
    cases hc : vwCl[ci]? with
    | none => exact ⟨0, fun _ => 0, fun r h => by cases h⟩
    | some r =>
      have q := px_cl hc
      obtain ⟨cC, iS, h⟩ := u_known hts q.2.1 (hts _ q.2.2.2.2.1)
      exact ⟨cC, iS, fun r' h' => by cases h'; exact h⟩
  have arr : ∀ {ty : FieldType}, (Cond.arrayClass ty).before args s = true → ∃ cA : ClassId, ArrOfT s cA ty ∧ s.vm.findClass ("[" ++ ty.toString) = some cA := by
    intro ty h
    obtain ⟨cA, kA, comp, a1, a2, a3⟩ := Cond.arrayClass_spec h
    exact ⟨cA, fun n z => ⟨fun k h => (by cases h), kA, a2, comp, a3⟩, a1⟩
  obtain ⟨a0, x0, y0⟩ := arr (hts _ px_gl_ai)
  obtain ⟨a1, x1, y1⟩ := arr (hts _ px_gl_al)
  obtain ⟨a2, x2, y2⟩ := arr (hts _ px_gl_az)
  obtain ⟨comp, a3, k3, f1, -, f3, f4, f5⟩ := Cond.arrayOver_spec (va_AO.use (A := args) hao)
  refine ⟨(fun ci => Classical.choose (h1 ci), fun ci => Classical.choose (Classical.choose_spec (h1 ci))), fun t => match t with | 0 => a0 | 1 => a1 | 2 => a2 | _ => a3, fun ci r h => Classical.choose_spec (Classical.choose_spec (h1 ci)) r h, ?_⟩
  intro k q hq
  match k, hq with
  | 0, hq => cases hq; exact ⟨x0, y0⟩
  | 1, hq => cases hq; exact ⟨x1, y1⟩
  | 2, hq => cases hq; exact ⟨x2, y2⟩
  | 3, hq => cases hq; exact ⟨fun n z => ⟨fun k h => (by cases h), k3, f3, comp, f4⟩, k3, comp, f3, f4, f1, f5⟩
  | n + 4, hq => simp [px_tys] at hq
def px_shL : List Int32 := [0, 3, 33, 0, 99, 0, 11, 34, 0, 11, 0, 11, 34, 0, 11, 0, 9, 35, 0, 11, 1, 24, 35, 0, 11, 0, 5, 34, 0, 11, 0, 15, 0, 0, 0, 0, 15, 0, 0, 0, 0, 3, 36, 1, 24, 1, 60, 0, 0, 0]
def px_lwL : List Int32 := [7, 7, 7, 7, 1, 2, 2, 2, 2, 4, 2]
def px_sh (j : Nat) : Int32 := px_shL.getD j 0
def px_lw (j : Nat) : Int32 := px_lwL.getD j 0
theorem px_shIn : ∀ j, j < 50 → Cond.eq (.elem (.static "ElevenBullocks$Reader" "SHAPES" "[I") (.int (Int32.ofNat j))) (.int (px_shL.getD j 0)) ∈ flatC (Jvm.Cond.and given_1 narrow_1) := fun j hj => va_run (N := 50) (p := 26) (f := fun j => Cond.eq (.elem (.static "ElevenBullocks$Reader" "SHAPES" "[I") (.int (Int32.ofNat j))) (.int (px_shL.getD j 0))) (by decide +kernel) j hj
theorem px_lwIn : ∀ j, j < 11 → Cond.eq (.elem (.static "ElevenBullocks$Reader" "LAWS_OF_NAMES" "[I") (.int (Int32.ofNat j))) (.int (px_lwL.getD j 0)) ∈ flatC (Jvm.Cond.and given_1 narrow_1) := fun j hj => va_run (N := 11) (p := 12) (f := fun j => Cond.eq (.elem (.static "ElevenBullocks$Reader" "LAWS_OF_NAMES" "[I") (.int (Int32.ofNat j))) (.int (px_lwL.getD j 0))) (by decide +kernel) j hj
theorem px_byIn : ∀ j, j < 180 → Cond.eq (.elem (.field (.string "ElevenBullocks$Reader" 177) "java/lang/String" "value" "[B") (.int (Int32.ofNat j))) (.int (ps_byt.getD j 0)) ∈ flatC (Jvm.Cond.and given_1 narrow_1) := fun j hj => va_run (N := 180) (p := 80) (f := fun j => Cond.eq (.elem (.field (.string "ElevenBullocks$Reader" 177) "java/lang/String" "value" "[B") (.int (Int32.ofNat j))) (.int (ps_byt.getD j 0))) (by decide +kernel) j hj
/-- what the Statement gives of the class's statics and of its one text -/
theorem px_stat {s : State} {b : Nat} (hts : ∀ w ∈ lw_tbl, w.before #[Value.ref b] s = true) (hgv : (Jvm.Cond.and given_1 narrow_1).before #[Value.ref b] s = true) : ∃ rb : Nat → Nat, rb 0 = b ∧ ps_St s.heap.size rb s ∧ va_T .int (rb 1) 50 (fun j => .int (px_sh j)) (fun q => s.heap.size ≤ q) s s.heap ∧ va_T .int (rb 2) 11 (fun j => .int (px_lw j)) (fun q => s.heap.size ≤ q) s s.heap := by
  have hs := flat_of_before _ hgv
  have hA : ∀ a : Nat, a < s.heap.size → ¬ (fun q => s.heap.size ≤ q) a := fun a h => Nat.not_le.mpr h
  obtain ⟨t1, e1, T1⟩ := va_Tof (tm := .static "ElevenBullocks$Reader" "SHAPES" "[I") (ty := .int) (N := 50) (f := fun j => .int (px_sh j)) (A := fun q => s.heap.size ≤ q) (by decide) (hs _ (by decide +kernel)) (va_eqt (hs _ (by decide +kernel))) (fun j hj => va_eqt (hs _ (px_shIn j hj))) hA
  obtain ⟨t2, e2, T2⟩ := va_Tof (tm := .static "ElevenBullocks$Reader" "LAWS_OF_NAMES" "[I") (ty := .int) (N := 11) (f := fun j => .int (px_lw j)) (A := fun q => s.heap.size ≤ q) (by decide) (hs _ (by decide +kernel)) (va_eqt (hs _ (by decide +kernel))) (fun j hj => va_eqt (hs _ (px_lwIn j hj))) hA
  have key : ∀ {P : Nat → Prop}, P 0 → ∀ i : Nat, i < 1 → P i := fun h i hi => by
    have e : i = 0 := by omega
    subst e
    exact h
  obtain ⟨adK, adV, S1, S2⟩ := vk_Sof (args := #[Value.ref b]) (s := s) (N := 1) (tm := fun _ => .string "ElevenBullocks$Reader" 177) (len := [180]) (byt := [ps_byt]) (A := fun q => s.heap.size ≤ q) (key (by decide)) (key (hs _ (by decide +kernel))) (key (hs _ (by decide +kernel))) (key (hs _ (by decide +kernel))) (key (hs _ (by decide +kernel))) (key (fun j hj => hs _ (px_byIn j hj))) (fun i j hi hj h => absurd (show i = j by omega) h) hA
  refine ⟨fun i => match i with | 0 => b | 1 => t1 | 2 => t2 | 3 => adK 0 | _ => adV 0, rfl, ⟨⟨⟨key (S1.1 0 (by decide)), fun i j hi hj _ => by omega⟩, va_Zof (hts _ (by decide +kernel)) (hts _ (by decide +kernel)) (va_eqt (hs _ (by decide +kernel))) hA, va_Zqof (hts _ (by decide +kernel)) (hts _ (by decide +kernel)) (hs _ (by decide +kernel)) hA⟩, vk_R.of (hts _ (by decide +kernel)) (S2 0 (by decide)), va_Zof (hts _ (by decide +kernel)) (hts _ (by decide +kernel)) e1 hA, va_Zof (hts _ (by decide +kernel)) (hts _ (by decide +kernel)) e2 hA⟩, T1, T2⟩
def px_ro (L : Nat) (xs : Nat → Int32) : px_RO := [(L, xs), (50, px_sh), (11, px_lw)]
def px_h0 : px_H := ([], fun _ _ => 0, fun _ _ => 0, fun _ _ => none)
/-- the law's walk out of a run of the pure machine -/
theorem px_law_go {p : Program} {e : Env} {s : State} {m : MethodId} {below : List Frame} {meth : Method} {c : Code} (l : Launch) {b L : Nat} {xs : Nat → Int32} (C0 : lw_At p s m meth c b L xs) {n : Nat} {hF : px_H} (hev : px_ev (px_ro L xs) n 1000 px_law (0, [(0, .ref px_SC)], [], px_h0) = some (some (.int 1), hF)) (hc : hF.1.length ≤ 600000) (hs : px_sl hF.1 ≤ 7302250) :
    W p l e room_1 s m #[Value.ref b] below meth c s.heap [] 0 0 (lw_Z below #[Value.ref b] s) (entryFrame m ([Value.ref b] : List Value).toArray 4) := by
  obtain ⟨hx, hb, hr, hml, hown, hts, hX, hbl, hlocks, hgv⟩ := id C0
  have hts' : ∀ w ∈ px_ws, w.before #[Value.ref b] s = true := fun w h => hts w (px_ws_sub w h)
  have hao : va_AO "ElevenBullocks$Script" s := va_AO.of (hts _ px_gl_ao)
  obtain ⟨D, dA, hK⟩ := px_world hts' hao
  obtain ⟨rb, rb0, hst, T1, T2⟩ := px_stat hts hgv
  have Cx : px_Cx p s m #[Value.ref b] meth c s.heap.size rb (px_ro L xs) D dA px_law 0 := by
    refine ⟨hx, hb, hml, hown, hts', fun q hq => va_Nw.of rfl (hts _ (px_nest_in q hq)), hao, hK, rfl, ?_, fun h => absurd h (by decide), hst⟩
    intro i L' xs' hi
    match i, hi with
    | 0, hi =>
      cases hi
      obtain ⟨scr, h1, h2, h3, h4, h5⟩ := hX
      rw [rb0]
      exact ⟨scr, h1, h2, h3, Nat.le_of_eq h4.symm, by rw [h4], h5, Nat.not_le.mpr hbl⟩
    | 1, hi => cases hi; exact T1
    | 2, hi => cases hi; exact T2
    | i + 3, hi => simp [px_ro] at hi
  have hl := lv_entry ([.ref b]) (n := 4) (Nat.le_of_ble_eq_true rfl)
  rw [lg_entry_eq]
  have had : px_ad s.heap.size rb px_SC = b := (if_neg (by decide)).trans rb0
  have hl2 : lv_has ((lg_sl ([.ref b]) ++ List.replicate (4 - (lg_sl ([.ref b])).length) Slot.unset).toArray) (px_maxL px_law) (px_lv (px_ad s.heap.size rb) [(0, .ref px_SC)]) := by
    have e : px_lv (px_ad s.heap.size rb) [(0, .ref px_SC)] = [(0, .ref b)] := by
      show [(0, Value.ref (px_ad s.heap.size rb px_SC))] = _
      rw [had]
    rw [e]
    exact hl
  refine px_sound n 1000 px_law _ _ _ hev p e room_1 s m #[Value.ref b] below meth c 0 0 _ Cx ⟨Nat.le_of_ble_eq_true rfl, Nat.le_of_ble_eq_true rfl, hc, hs⟩ ?_ s.heap [] _ 0 0 ⟨fun k q h => by simp [px_w, px_h0] at h, va_S.rf, hl2, rfl, rfl, Nat.zero_le _⟩
  intro pc len lv st ins hf hret
  obtain ⟨hdg, hlen⟩ := px_fetch_ok hf
  intro H locs ls cells slots I
  obtain ⟨hP, hS, hl, hcc, hsl, hsc⟩ := I
  dsimp only at hcc hsl
  have hst : ins = .ireturn ∧ st = [.int 1] := by
    unfold px_ret at hret
    split at hret
    · rename_i v hrt; cases hret; exact ⟨rfl, rfl⟩
    · split at hret
      · cases hret; exact ⟨rfl, rfl⟩
      · cases hret
    · cases hret
    · cases hret
    · cases hret
    · cases hret
    · cases hret
  obtain ⟨rfl, rfl⟩ := hst
  have e9 : len = 1 := px_beqT hlen
  subst e9
  refine va_forget (fun q hq => hS.2.2 q hq) ?_
  refine W.widen (k := 600000) (n := 7302250) (by omega) (by omega) ?_
  exact lw_ret hx hb hr hlocks hdg
