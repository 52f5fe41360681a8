/-- the types of the fields are ints, booleans, longs, references -/
def px_goodTy : FieldType → Bool
  | .int => true
  | .boolean => true
  | .long => true
  | .object _ => true
  | .array _ => true
  | _ => false
theorem px_ty_good {ci : Nat} {C : String} {T : u_T} {N : Nat} (h : vwCl[ci]? = some (C, T, N)) : ∀ j, j < N → px_goodTy (px_ty ci j) = true := by
  match ci, h with
  | 0, h => cases h; decide
  | 1, h => cases h; decide
  | 2, h => cases h; decide
  | 3, h => cases h; decide
  | 4, h => cases h; decide
  | 5, h => cases h; decide
  | 6, h => cases h; decide
  | 7, h => cases h; decide
  | 8, h => cases h; decide
  | 9, h => cases h; decide
  | 10, h => cases h; decide
  | 11, h => cases h; decide
  | 12, h => cases h; decide
  | n + 13, h => simp [vwCl] at h
theorem px_dflt {ad : Nat → Nat} {j : Nat} : ∀ {ty : FieldType}, px_goodTy ty = true → defaultValue ty = px_v ad (px_fv (fun _ => 0) (fun _ => 0) (fun _ => none) j ty)
  | .int, _ => rfl
  | .boolean, _ => rfl
  | .long, _ => rfl
  | .object _, _ => rfl
  | .array _, _ => rfl
def ps_tx : String := "pace takes pays stretch way path one stray send shut open split minute harm to at by if then else end let be in not and or size place kind here behind ahead stood bucket back done "
def ps_St (base : Nat) (rb : Nat → Nat) (s : State) : Prop := ps_Lit (fun q => base ≤ q) (rb 3) (rb 4) s ∧ vk_R "ElevenBullocks$Reader" 177 ps_tx (rb 3) s ∧ va_Z "ElevenBullocks$Reader" "SHAPES" "[I" (.ref (rb 1)) (fun q => base ≤ q) s s.heap ∧ va_Z "ElevenBullocks$Reader" "LAWS_OF_NAMES" "[I" (.ref (rb 2)) (fun q => base ≤ q) s s.heap
theorem px_ad_1 {base : Nat} {rb : Nat → Nat} : px_ad base rb (px_SC + 1) = rb 1 := if_neg (by decide)
theorem px_ad_2 {base : Nat} {rb : Nat → Nat} : px_ad base rb (px_SC + 2) = rb 2 := if_neg (by decide)
theorem px_ad_3 {base : Nat} {rb : Nat → Nat} : px_ad base rb (px_SC + 3) = rb 3 := if_neg (by decide)
theorem px_key6 {k i n : Nat} (h : (Nat.beq (px_key k i) (6000 + n) && Nat.blt i 1000) = true) (hn : n < 1000) : (px_m k).2.2.1 = 6 ∧ i = n := by
  rw [Bool.and_eq_true] at h
  have h1 := px_beqT h.1
  have h2 : i < 1000 := Nat.blt_eq.mp h.2
  unfold px_key at h1
  omega
theorem px_ldcv_ok {k i : Nat} {w : Value} (h : px_ldcv k i = some w) : (∃ x, px_int k i = some x ∧ w = .int x) ∨ ((px_m k).2.2.1 = 6 ∧ i = 177 ∧ w = .ref (px_SC + 3)) := by
  unfold px_ldcv at h
  split at h
  · rename_i x hv
    cases h
    exact Or.inl ⟨x, hv, rfl⟩
  · cases hq : (Nat.beq (px_key k i) 6177 && Nat.blt i 1000) with
    | false => rw [hq] at h; cases h
    | true =>
      rw [hq] at h
      cases h
      obtain ⟨e1, e2⟩ := px_key6 (n := 177) hq (by decide)
      exact Or.inr ⟨e1, e2, rfl⟩
theorem px_stc_ok {k i : Nat} {w : Value} (h : px_stc k i = some w) : ((px_m k).2.2.1 = 6 ∧ i = 101 ∧ w = .ref (px_SC + 1)) ∨ ((px_m k).2.2.1 = 6 ∧ i = 134 ∧ w = .ref (px_SC + 2)) := by
  unfold px_stc at h
  cases hq : (Nat.beq (px_key k i) 6101 && Nat.blt i 1000) with
  | true =>
    rw [hq] at h
    cases h
    obtain ⟨e1, e2⟩ := px_key6 (n := 101) hq (by decide)
    exact Or.inl ⟨e1, e2, rfl⟩
  | false =>
    rw [hq] at h
    cases hq2 : (Nat.beq (px_key k i) 6134 && Nat.blt i 1000) with
    | false => rw [hq2] at h; cases h
    | true =>
      rw [hq2] at h
      cases h
      obtain ⟨e1, e2⟩ := px_key6 (n := 134) hq2 (by decide)
      exact Or.inr ⟨e1, e2, rfl⟩
/-- what an activation of method k stands on -/
def px_Cx (p : Program) (s : State) (m : MethodId) (args : Array Value) (meth : Method) (c : Code) (base : Nat) (rb : Nat → Nat) (ro : px_RO) (D : va_G) (dA : Nat → ClassId) (k c0 : Nat) : Prop :=
  p.tables.exec = Jvm.exec ∧ c.code = (px_m k).2.2.2.1 ∧ c.maxLocals = px_maxL k ∧ s.vm.findClass (px_on (px_m k).2.2.1) = some m.cls ∧ (∀ w ∈ px_ws, w.before args s = true) ∧ (∀ q ∈ px_nest, va_Nw (.methodLinkNest q.1 q.2.1 q.2.2.1 q.2.2.2) s) ∧ va_AO "ElevenBullocks$Script" s ∧ va_K D vwCl (px_tys dA) s ∧ s.heap.size = base + c0 ∧ (∀ (i L : Nat) (xs : Nat → Int32), ro[i]? = some (L, xs) → va_T .int (rb i) L (fun j => .int (xs j)) (fun q => base ≤ q) s s.heap) ∧ ((px_m k).2.1.name = "<init>" → meth.name = "<init>") ∧ ps_St base rb s
/-- the machine's heap, locals and counts as the pure state has them -/
def px_I (base : Nat) (rb : Nat → Nat) (D : va_G) (dA : Nat → ClassId) (s : State) (k c0 s0 : Nat) (lv : px_L) (h : px_H) (H : Heap) (locs : List Loc) (ls : Array Slot) (cells slots : Nat) : Prop :=
  va_P D vwCl (px_w (px_ad base rb) dA h) H ∧ va_S (fun q => base ≤ q) s.heap H locs ∧ lv_has ls (px_maxL k) (px_lv (px_ad base rb) lv) ∧ cells + c0 = h.1.length ∧ slots + s0 = px_sl h.1 ∧ h.1.length ≤ px_SC
def px_Go (p : Program) (l : Launch) (e : Env) (R : Room) (s : State) (m : MethodId) (args : Array Value) (below : List Frame) (meth : Method) (c : Code) (base : Nat) (rb : Nat → Nat) (D : va_G) (dA : Nat → ClassId) (k c0 s0 : Nat) (Q : State → Prop) (x : px_S) : Prop :=
  ∀ (H : Heap) (locs : List Loc) (ls : Array Slot) (cells slots : Nat), px_I base rb D dA s k c0 s0 x.2.1 x.2.2.2 H locs ls cells slots → W p l e R s m args below meth c H locs cells slots Q (F0 m x.1 ls (x.2.2.1.map (px_v (px_ad base rb))))
section PXO
variable {p : Program} {l : Launch} {e : Env} {R : Room} {s : State} {m : MethodId} {args : Array Value} {below : List Frame} {meth : Method} {c : Code} {Q : State → Prop}
variable {base : Nat} {rb : Nat → Nat} {ro : px_RO} {D : va_G} {dA : Nat → ClassId} {k c0 s0 : Nat} {pc : Nat} {lv : px_L} {st : List Value} {h : px_H} {σ : px_S}
theorem px_sized {H : Heap} {locs : List Loc} {cells slots : Nat} {g : JFrame} (kk : H.size ≤ s.heap.size + cells → W p l e R s m args below meth c H locs cells slots Q g) : W p l e R s m args below meth c H locs cells slots Q g :=
  fun T hT X => kk (by rw [← hT]; exact X.heapSize) T hT X
theorem px_s_psh {v : Option Value} {n : Nat} (ho : px_psh (pc + n) lv st h v = some σ) (kk : px_Go p l e R s m args below meth c base rb D dA k c0 s0 Q σ) (row : ∀ (w : Value), v = some w → ∀ (H : Heap) (locs : List Loc) (ls : Array Slot) (cells slots : Nat), lv_has ls (px_maxL k) (px_lv (px_ad base rb) lv) → W p l e R s m args below meth c H locs cells slots Q (F0 m (pc + n) ls (px_v (px_ad base rb) w :: st.map (px_v (px_ad base rb)))) → W p l e R s m args below meth c H locs cells slots Q (F0 m pc ls (st.map (px_v (px_ad base rb))))) : px_Go p l e R s m args below meth c base rb D dA k c0 s0 Q (pc, lv, st, h) := by
  cases v with
  | none => cases ho
  | some w =>
    cases ho
    intro H locs ls cells slots I
    exact row w rfl H locs ls cells slots I.2.2.1 (kk H locs ls cells slots I)
theorem px_get0 {i : Nat} {w : Value} (h : px_get lv i 0 = some w) : ∃ x, w = .int x ∧ px_ld lv i = some (.int x) := by
  unfold px_get at h
  split at h <;> first | (cases h; done) | skip
  all_goals first | (rename_i h1; cases h; exact ⟨_, rfl, h1⟩) | (rename_i h0 h1; cases h0) | omega
theorem px_get1 {i : Nat} {w : Value} (h : px_get lv i 1 = some w) : ∃ x, w = .long x ∧ px_ld lv i = some (.long x) := by
  unfold px_get at h
  split at h <;> first | (cases h; done) | skip
  all_goals first | (rename_i h1; cases h; exact ⟨_, rfl, h1⟩) | (rename_i h0 h1; cases h0) | omega
theorem px_get2 {i : Nat} {w : Value} (h : px_get lv i 2 = some w) : (∃ x, w = .ref x ∧ px_ld lv i = some (.ref x)) ∨ (w = .null ∧ px_ld lv i = some .null) := by
  unfold px_get at h
  split at h <;> first | (cases h; done) | skip
  all_goals first | (rename_i h1; cases h; first | exact Or.inl ⟨_, rfl, h1⟩ | exact Or.inr ⟨rfl, h1⟩) | (rename_i h0 h1; cases h0) | omega
theorem px_s_sto {n i kd : Nat} (ho : px_oSto k (pc + n) lv st h i kd = some σ) (kk : px_Go p l e R s m args below meth c base rb D dA k c0 s0 Q σ)
    (row0 : ∀ (x : Int32) (H : Heap) (locs : List Loc) (ls : Array Slot) (cells slots : Nat) (rest : List Value), kd = 0 → i < px_maxL k → lv_has ls (px_maxL k) (px_lv (px_ad base rb) lv) → (∀ ls', lv_has ls' (px_maxL k) (px_lv (px_ad base rb) (px_st1 lv i (.int x))) → W p l e R s m args below meth c H locs cells slots Q (F0 m (pc + n) ls' rest)) → W p l e R s m args below meth c H locs cells slots Q (F0 m pc ls (.int x :: rest)))
    (row1 : ∀ (x : Int64) (H : Heap) (locs : List Loc) (ls : Array Slot) (cells slots : Nat) (rest : List Value), kd = 1 → i + 1 < px_maxL k → lv_has ls (px_maxL k) (px_lv (px_ad base rb) lv) → (∀ ls', lv_has ls' (px_maxL k) (px_lv (px_ad base rb) (px_st2 lv i (.long x))) → W p l e R s m args below meth c H locs cells slots Q (F0 m (pc + n) ls' rest)) → W p l e R s m args below meth c H locs cells slots Q (F0 m pc ls (.long x :: rest)))
    (row2 : ∀ (x : Nat) (H : Heap) (locs : List Loc) (ls : Array Slot) (cells slots : Nat) (rest : List Value), kd = 2 → i < px_maxL k → lv_has ls (px_maxL k) (px_lv (px_ad base rb) lv) → (∀ ls', lv_has ls' (px_maxL k) (px_lv (px_ad base rb) (px_st1 lv i (.ref x))) → W p l e R s m args below meth c H locs cells slots Q (F0 m (pc + n) ls' rest)) → W p l e R s m args below meth c H locs cells slots Q (F0 m pc ls (.ref (px_ad base rb x) :: rest)))
    (row3 : ∀ (H : Heap) (locs : List Loc) (ls : Array Slot) (cells slots : Nat) (rest : List Value), kd = 2 → i < px_maxL k → lv_has ls (px_maxL k) (px_lv (px_ad base rb) lv) → (∀ ls', lv_has ls' (px_maxL k) (px_lv (px_ad base rb) (px_st1 lv i .null)) → W p l e R s m args below meth c H locs cells slots Q (F0 m (pc + n) ls' rest)) → W p l e R s m args below meth c H locs cells slots Q (F0 m pc ls (.null :: rest))) : px_Go p l e R s m args below meth c base rb D dA k c0 s0 Q (pc, lv, st, h) := by
  unfold px_oSto at ho
  split at ho
  · rename_i v st
    split at ho
    · rename_i lv' hs
      cases ho
      intro H locs ls cells slots I
      obtain ⟨hP, hS, hl, hc, hsl, hsc⟩ := I
      unfold px_sto at hs
      split at hs
      · rename_i x
        cases hb : Nat.blt i (px_maxL k) with
        | false => rw [hb] at hs; cases hs
        | true =>
          rw [hb] at hs
          cases hs
          exact row0 x H locs ls cells slots _ rfl (px_bltT hb) hl (fun ls' hl' => kk H locs ls' cells slots ⟨hP, hS, hl', hc, hsl, hsc⟩)
      · rename_i x
        cases hb : Nat.blt (i + 1) (px_maxL k) with
        | false => rw [hb] at hs; cases hs
        | true =>
          rw [hb] at hs
          cases hs
          exact row1 x H locs ls cells slots _ rfl (px_bltT hb) hl (fun ls' hl' => kk H locs ls' cells slots ⟨hP, hS, hl', hc, hsl, hsc⟩)
      · rename_i x
        cases hb : Nat.blt i (px_maxL k) with
        | false => rw [hb] at hs; cases hs
        | true =>
          rw [hb] at hs
          cases hs
          exact row2 x H locs ls cells slots _ rfl (px_bltT hb) hl (fun ls' hl' => kk H locs ls' cells slots ⟨hP, hS, hl', hc, hsl, hsc⟩)
      · cases hb : Nat.blt i (px_maxL k) with
        | false => rw [hb] at hs; cases hs
        | true =>
          rw [hb] at hs
          cases hs
          exact row3 H locs ls cells slots _ rfl (px_bltT hb) hl (fun ls' hl' => kk H locs ls' cells slots ⟨hP, hS, hl', hc, hsl, hsc⟩)
      · cases hs
    · cases ho
  · cases ho
/-- what the rows of arithmetic share -/
theorem px_s_ari {ins : Instr} {n : Nat} (ho : px_oAri ins (pc + n) lv st h = some σ) (kk : px_Go p l e R s m args below meth c base rb D dA k c0 s0 Q σ) (row : ∀ (x y v : Int32), px_ari ins x y = some v → ∀ (H : Heap) (locs : List Loc) (ls : Array Slot) (cells slots : Nat) (rest : List Value), W p l e R s m args below meth c H locs cells slots Q (F0 m (pc + n) ls (.int v :: rest)) → W p l e R s m args below meth c H locs cells slots Q (F0 m pc ls (.int y :: .int x :: rest))) : px_Go p l e R s m args below meth c base rb D dA k c0 s0 Q (pc, lv, st, h) := by
  unfold px_oAri at ho
  split at ho
  · split at ho
    · rename_i v hv
      cases ho
      intro H locs ls cells slots I
      exact row _ _ v hv H locs ls cells slots _ (kk H locs ls cells slots I)
    · cases ho
  · cases ho
theorem px_s_arl {ins : Instr} {n : Nat} (ho : px_oArl ins (pc + n) lv st h = some σ) (kk : px_Go p l e R s m args below meth c base rb D dA k c0 s0 Q σ) (row : ∀ (x y v : Int64), px_arl ins x y = some v → ∀ (H : Heap) (locs : List Loc) (ls : Array Slot) (cells slots : Nat) (rest : List Value), W p l e R s m args below meth c H locs cells slots Q (F0 m (pc + n) ls (.long v :: rest)) → W p l e R s m args below meth c H locs cells slots Q (F0 m pc ls (.long y :: .long x :: rest))) : px_Go p l e R s m args below meth c base rb D dA k c0 s0 Q (pc, lv, st, h) := by
  unfold px_oArl at ho
  split at ho
  · split at ho
    · rename_i v hv
      cases ho
      intro H locs ls cells slots I
      exact row _ _ v hv H locs ls cells slots _ (kk H locs ls cells slots I)
    · cases ho
  · cases ho
theorem px_tg_ok {off : Int} {t : Nat} (h : px_tg pc off = some t) : (pc : Int) + off = (t : Int) := by
  unfold px_tg at h
  split at h
  · rename_i t' e
    cases h
    exact e
  · cases h
theorem px_s_jmp {t : Option Nat} (ho : px_jmp lv st h t = some σ) (kk : px_Go p l e R s m args below meth c base rb D dA k c0 s0 Q σ) {g : List Value} (row : ∀ (t' : Nat), t = some t' → ∀ (H : Heap) (locs : List Loc) (ls : Array Slot) (cells slots : Nat), W p l e R s m args below meth c H locs cells slots Q (F0 m t' ls (st.map (px_v (px_ad base rb)))) → W p l e R s m args below meth c H locs cells slots Q (F0 m pc ls (g.map (px_v (px_ad base rb))))) : px_Go p l e R s m args below meth c base rb D dA k c0 s0 Q (pc, lv, g, h) := by
  cases t with
  | none => cases ho
  | some t' =>
    cases ho
    intro H locs ls cells slots I
    exact row t' rfl H locs ls cells slots (kk H locs ls cells slots I)
theorem px_s_if {cd : ClassFile.Cond} {off : Int} (hx : p.tables.exec = Jvm.exec) {cc : ByteArray} (hb : c.code = cc) (hdg : decode cc pc = .ok (.ifCond cd off, 3)) (ho : px_oIf cd off pc lv st h = some σ) (kk : px_Go p l e R s m args below meth c base rb D dA k c0 s0 Q σ) : px_Go p l e R s m args below meth c base rb D dA k c0 s0 Q (pc, lv, st, h) := by
  unfold px_oIf at ho
  split at ho
  · rename_i x st
    split at ho
    · rename_i t ht
      cases ho
      have ht := px_tg_ok ht
      intro H locs ls cells slots I
      have K := kk H locs ls cells slots I
      cases cd with
      | eq =>
        refine lv_if_eq (tgt := t) hx hb hdg ht (fun q => ?_) (fun q => ?_)
        · have e : px_br .eq x 0 t (pc + 3) = t := if_pos q
          rw [e] at K; exact K
        · have e : px_br .eq x 0 t (pc + 3) = pc + 3 := if_neg q
          rw [e] at K; exact K
      | ne =>
        refine lv_if_ne (tgt := t) hx hb hdg ht (fun q => ?_) (fun q => ?_)
        · have e : px_br .ne x 0 t (pc + 3) = t := if_neg q
          rw [e] at K; exact K
        · have e : px_br .ne x 0 t (pc + 3) = pc + 3 := if_pos q
          rw [e] at K; exact K
      | lt =>
        refine lv_if_lt (tgt := t) hx hb hdg ht (fun q => ?_) (fun q => ?_)
        · have e : px_br .lt x 0 t (pc + 3) = t := if_pos q
          rw [e] at K; exact K
        · have e : px_br .lt x 0 t (pc + 3) = pc + 3 := if_neg q
          rw [e] at K; exact K
      | ge =>
        refine lv_if_ge (tgt := t) hx hb hdg ht (fun q => ?_) (fun q => ?_)
        · have e : px_br .ge x 0 t (pc + 3) = t := if_pos q
          rw [e] at K; exact K
        · have e : px_br .ge x 0 t (pc + 3) = pc + 3 := if_neg q
          rw [e] at K; exact K
      | gt =>
        refine lv_if_gt (tgt := t) hx hb hdg ht (fun q => ?_) (fun q => ?_)
        · have e : px_br .gt x 0 t (pc + 3) = t := if_pos q
          rw [e] at K; exact K
        · have e : px_br .gt x 0 t (pc + 3) = pc + 3 := if_neg q
          rw [e] at K; exact K
      | le =>
        refine lv_if_le (tgt := t) hx hb hdg ht (fun q => ?_) (fun q => ?_)
        · have e : px_br .le x 0 t (pc + 3) = t := if_pos q
          rw [e] at K; exact K
        · have e : px_br .le x 0 t (pc + 3) = pc + 3 := if_neg q
          rw [e] at K; exact K
    · cases ho
  · cases ho
theorem px_s_icmp {cd : ClassFile.Cond} {off : Int} (hx : p.tables.exec = Jvm.exec) {cc : ByteArray} (hb : c.code = cc) (hdg : decode cc pc = .ok (.if_icmp cd off, 3)) (ho : px_oIcmp cd off pc lv st h = some σ) (kk : px_Go p l e R s m args below meth c base rb D dA k c0 s0 Q σ) : px_Go p l e R s m args below meth c base rb D dA k c0 s0 Q (pc, lv, st, h) := by
  unfold px_oIcmp at ho
  split at ho
  · rename_i y x st
    split at ho
    · rename_i t ht
      cases ho
      have ht := px_tg_ok ht
      intro H locs ls cells slots I
      have K := kk H locs ls cells slots I
      cases cd with
      | eq =>
        refine lv_icmp_eq (tgt := t) hx hb hdg ht (fun q => ?_) (fun q => ?_)
        · have e : px_br .eq x y t (pc + 3) = t := if_pos q
          rw [e] at K; exact K
        · have e : px_br .eq x y t (pc + 3) = pc + 3 := if_neg q
          rw [e] at K; exact K
      | ne =>
        refine lv_icmp_ne (tgt := t) hx hb hdg ht (fun q => ?_) (fun q => ?_)
        · have e : px_br .ne x y t (pc + 3) = t := if_neg q
          rw [e] at K; exact K
        · have e : px_br .ne x y t (pc + 3) = pc + 3 := if_pos q
          rw [e] at K; exact K
      | lt =>
        refine lv_icmp_lt (tgt := t) hx hb hdg ht (fun q => ?_) (fun q => ?_)
        · have e : px_br .lt x y t (pc + 3) = t := if_pos q
          rw [e] at K; exact K
        · have e : px_br .lt x y t (pc + 3) = pc + 3 := if_neg q
          rw [e] at K; exact K
      | ge =>
        refine lv_icmp_ge (tgt := t) hx hb hdg ht (fun q => ?_) (fun q => ?_)
        · have e : px_br .ge x y t (pc + 3) = t := if_pos q
          rw [e] at K; exact K
        · have e : px_br .ge x y t (pc + 3) = pc + 3 := if_neg q
          rw [e] at K; exact K
      | gt =>
        refine lv_icmp_gt (tgt := t) hx hb hdg ht (fun q => ?_) (fun q => ?_)
        · have e : px_br .gt x y t (pc + 3) = t := if_pos q
          rw [e] at K; exact K
        · have e : px_br .gt x y t (pc + 3) = pc + 3 := if_neg q
          rw [e] at K; exact K
      | le =>
        refine lv_icmp_le (tgt := t) hx hb hdg ht (fun q => ?_) (fun q => ?_)
        · have e : px_br .le x y t (pc + 3) = t := if_pos q
          rw [e] at K; exact K
        · have e : px_br .le x y t (pc + 3) = pc + 3 := if_neg q
          rw [e] at K; exact K
    · cases ho
  · cases ho
end PXO
