/-! THE LIFT: heaps of whole numbers, and what a method comes to, as a statement over them -/
theorem lf_all_find {lv : px_L} {p : Nat × Value → Bool} {j : Nat} {q : Nat × Value} : lv.find? (fun q => q.1 == j) = some q → p q = true → (lv.filter p).find? (fun q => q.1 == j) = some q := by
  induction lv with
  | nil => intro h; cases h
  | cons a r ih =>
    intro h hp
    rw [List.find?_cons] at h
    cases ha : (a.1 == j) with
    | true =>
      rw [ha] at h
      cases h
      rw [List.filter_cons_of_pos hp, List.find?_cons, ha]
    | false =>
      rw [ha] at h
      cases hpa : p a with
      | true => rw [List.filter_cons_of_pos hpa, List.find?_cons, ha]; exact ih h hp
      | false => rw [List.filter_cons_of_neg (by rw [hpa]; decide)]; exact ih h hp
def lf_Sb (l lv : px_L) : Prop := ∀ q ∈ l, px_ld lv q.1 = some q.2
theorem lf_ld_mem {l : px_L} {i : Nat} {v : Value} (h : px_ld l i = some v) : (i, v) ∈ l := by
  unfold px_ld at h
  obtain ⟨q, hq, rfl⟩ := Option.map_eq_some_iff.mp h
  have h1 := List.mem_of_find?_eq_some hq
  have h2 := List.find?_some hq
  have e : q.1 = i := by simpa using h2
  rw [← e]
  exact h1
theorem lf_Sb_ld {l lv : px_L} (hs : lf_Sb l lv) {i : Nat} {v : Value} (h : px_ld l i = some v) : px_ld lv i = some v := hs _ (lf_ld_mem h)
theorem lf_ld_st {lv : px_L} {i j : Nat} {v w : Value} {p : Nat × Value → Bool} (hj : j ≠ i) (hp : p (j, w) = true) (h : px_ld lv j = some w) : px_ld ((i, v) :: lv.filter p) j = some w := by
  unfold px_ld at h ⊢
  obtain ⟨q, hq, hw⟩ := Option.map_eq_some_iff.mp h
  have h2 := List.find?_some hq
  have e : q.1 = j := by simpa using h2
  have eq : q = (j, w) := Prod.ext e hw
  rw [List.find?_cons]
  have hne : (((i, v) : Nat × Value).1 == j) = false := by simpa using fun h9 : i = j => hj h9.symm
  rw [hne]
  dsimp only
  rw [lf_all_find hq (by rw [eq]; exact hp)]
  rw [eq]
  rfl
theorem lf_ld_hd {lv : px_L} {i : Nat} {v : Value} : px_ld ((i, v) :: lv) i = some v := by
  unfold px_ld
  rw [List.find?_cons]
  have h : (((i, v) : Nat × Value).1 == i) = true := by simp
  rw [h]
  rfl
theorem lf_Sb_st {l lv : px_L} {i : Nat} {v : Value} {p : Nat × Value → Bool} (hs : lf_Sb l lv) (hpi : ∀ q, p q = true → q.1 ≠ i) : lf_Sb ((i, v) :: l.filter p) ((i, v) :: lv.filter p) := by
  intro q hq
  rcases List.mem_cons.mp hq with rfl | hq
  · exact lf_ld_hd
  · obtain ⟨h1, h2⟩ := List.mem_filter.mp hq
    exact lf_ld_st (hpi q h2) h2 (hs q h1)
theorem lf_Sb_st1 {l lv : px_L} {i : Nat} {v : Value} (hs : lf_Sb l lv) : lf_Sb (px_st1 l i v) (px_st1 lv i v) := by
  refine lf_Sb_st hs (fun q hq e => ?_)
  rw [e] at hq
  simp at hq
theorem lf_Sb_st2 {l lv : px_L} {i : Nat} {v : Value} (hs : lf_Sb l lv) : lf_Sb (px_st2 l i v) (px_st2 lv i v) := by
  refine lf_Sb_st hs (fun q hq e => ?_)
  rw [e] at hq
  simp at hq
theorem lf_Sb_tr {a b c : px_L} (h1 : lf_Sb a b) (h2 : lf_Sb b c) : lf_Sb a c := fun q hq => lf_Sb_ld h2 (h1 q hq)
/-- what doesn't look at the variables -/
def lf_fr (f : px_L → Option px_S) : Prop := ∀ lv, f lv = (f []).map (fun σ => (σ.1, lv, σ.2.2))
theorem lf_bif {b : Bool} {x y z w : Option px_S} {f : px_S → px_S} (h1 : x = y.map f) (h2 : z = w.map f) : (bif b then x else z) = (bif b then y else w).map f := by cases b <;> assumption
theorem lf_fr_ari {ins : Instr} {pc : Nat} {st : List Value} {h : px_H} : lf_fr (fun lv => px_oAri ins pc lv st h) := by
  intro lv
  unfold px_oAri
  dsimp only
  repeat' (first | rfl | refine lf_bif ?_ ?_ | split)
theorem lf_fr_arl {ins : Instr} {pc : Nat} {st : List Value} {h : px_H} : lf_fr (fun lv => px_oArl ins pc lv st h) := by
  intro lv
  unfold px_oArl
  dsimp only
  repeat' (first | rfl | refine lf_bif ?_ ?_ | split)
theorem lf_fr_Ineg  {pc : Nat} {st : List Value} {h : px_H} : lf_fr (fun lv => px_oIneg pc lv st h) := by
  intro lv
  unfold px_oIneg
  dsimp only
  repeat' (first | rfl | refine lf_bif ?_ ?_ | split)
theorem lf_fr_Lneg  {pc : Nat} {st : List Value} {h : px_H} : lf_fr (fun lv => px_oLneg pc lv st h) := by
  intro lv
  unfold px_oLneg
  dsimp only
  repeat' (first | rfl | refine lf_bif ?_ ?_ | split)
theorem lf_fr_I2l  {pc : Nat} {st : List Value} {h : px_H} : lf_fr (fun lv => px_oI2l pc lv st h) := by
  intro lv
  unfold px_oI2l
  dsimp only
  repeat' (first | rfl | refine lf_bif ?_ ?_ | split)
theorem lf_fr_L2i  {pc : Nat} {st : List Value} {h : px_H} : lf_fr (fun lv => px_oL2i pc lv st h) := by
  intro lv
  unfold px_oL2i
  dsimp only
  repeat' (first | rfl | refine lf_bif ?_ ?_ | split)
theorem lf_fr_Lcmp  {pc : Nat} {st : List Value} {h : px_H} : lf_fr (fun lv => px_oLcmp pc lv st h) := by
  intro lv
  unfold px_oLcmp
  dsimp only
  repeat' (first | rfl | refine lf_bif ?_ ?_ | split)
theorem lf_fr_Lshl  {pc : Nat} {st : List Value} {h : px_H} : lf_fr (fun lv => px_oLshl pc lv st h) := by
  intro lv
  unfold px_oLshl
  dsimp only
  repeat' (first | rfl | refine lf_bif ?_ ?_ | split)
theorem lf_fr_Lshr  {pc : Nat} {st : List Value} {h : px_H} : lf_fr (fun lv => px_oLshr pc lv st h) := by
  intro lv
  unfold px_oLshr
  dsimp only
  repeat' (first | rfl | refine lf_bif ?_ ?_ | split)
theorem lf_fr_Dup  {pc : Nat} {st : List Value} {h : px_H} : lf_fr (fun lv => px_oDup pc lv st h) := by
  intro lv
  unfold px_oDup
  dsimp only
  repeat' (first | rfl | refine lf_bif ?_ ?_ | split)
theorem lf_fr_Dup2  {pc : Nat} {st : List Value} {h : px_H} : lf_fr (fun lv => px_oDup2 pc lv st h) := by
  intro lv
  unfold px_oDup2
  dsimp only
  repeat' (first | rfl | refine lf_bif ?_ ?_ | split)
theorem lf_fr_Zald  {pc : Nat} {st : List Value} {h : px_H} : lf_fr (fun lv => px_oZald pc lv st h) := by
  intro lv
  unfold px_oZald
  dsimp only
  repeat' (first | rfl | refine lf_bif ?_ ?_ | split)
theorem lf_fr_Lald  {pc : Nat} {st : List Value} {h : px_H} : lf_fr (fun lv => px_oLald pc lv st h) := by
  intro lv
  unfold px_oLald
  dsimp only
  repeat' (first | rfl | refine lf_bif ?_ ?_ | split)
theorem lf_fr_Aald  {pc : Nat} {st : List Value} {h : px_H} : lf_fr (fun lv => px_oAald pc lv st h) := by
  intro lv
  unfold px_oAald
  dsimp only
  repeat' (first | rfl | refine lf_bif ?_ ?_ | split)
theorem lf_fr_Iast  {pc : Nat} {st : List Value} {h : px_H} : lf_fr (fun lv => px_oIast pc lv st h) := by
  intro lv
  unfold px_oIast
  dsimp only
  repeat' (first | rfl | refine lf_bif ?_ ?_ | split)
theorem lf_fr_Zast  {pc : Nat} {st : List Value} {h : px_H} : lf_fr (fun lv => px_oZast pc lv st h) := by
  intro lv
  unfold px_oZast
  dsimp only
  repeat' (first | rfl | refine lf_bif ?_ ?_ | split)
theorem lf_fr_Last  {pc : Nat} {st : List Value} {h : px_H} : lf_fr (fun lv => px_oLast pc lv st h) := by
  intro lv
  unfold px_oLast
  dsimp only
  repeat' (first | rfl | refine lf_bif ?_ ?_ | split)
theorem lf_fr_Aast  {pc : Nat} {st : List Value} {h : px_H} : lf_fr (fun lv => px_oAast pc lv st h) := by
  intro lv
  unfold px_oAast
  dsimp only
  repeat' (first | rfl | refine lf_bif ?_ ?_ | split)
theorem lf_fr_Sp  {pc : Nat} {st : List Value} {h : px_H} : lf_fr (fun lv => px_oSp pc lv st h) := by
  intro lv
  unfold px_oSp
  dsimp only
  repeat' (first | rfl | refine lf_bif ?_ ?_ | split)
theorem lf_fr_Cpy  {pc : Nat} {st : List Value} {h : px_H} : lf_fr (fun lv => px_oCpy pc lv st h) := by
  intro lv
  unfold px_oCpy
  dsimp only
  repeat' (first | rfl | refine lf_bif ?_ ?_ | split)
theorem lf_fr_pop {n : Nat} {pc : Nat} {st : List Value} {h : px_H} : lf_fr (fun lv => px_oPop n pc lv st h) := by
  intro lv
  unfold px_oPop
  dsimp only
  repeat' (first | rfl | refine lf_bif ?_ ?_ | split)
theorem lf_fr_if {c : ClassFile.Cond} {off : Int} {pc : Nat} {st : List Value} {h : px_H} : lf_fr (fun lv => px_oIf c off pc lv st h) := by
  intro lv
  unfold px_oIf
  dsimp only
  repeat' (first | rfl | refine lf_bif ?_ ?_ | split)
theorem lf_fr_icmp {c : ClassFile.Cond} {off : Int} {pc : Nat} {st : List Value} {h : px_H} : lf_fr (fun lv => px_oIcmp c off pc lv st h) := by
  intro lv
  unfold px_oIcmp
  dsimp only
  repeat' (first | rfl | refine lf_bif ?_ ?_ | split)
theorem lf_fr_null {off : Int} {pc : Nat} {st : List Value} {h : px_H} : lf_fr (fun lv => px_oNull off pc lv st h) := by
  intro lv
  unfold px_oNull
  try unfold px_jmp
  dsimp only
  repeat' (first | rfl | refine lf_bif ?_ ?_ | split)
theorem lf_fr_nonnull {off : Int} {pc : Nat} {st : List Value} {h : px_H} : lf_fr (fun lv => px_oNonnull off pc lv st h) := by
  intro lv
  unfold px_oNonnull
  try unfold px_jmp
  dsimp only
  repeat' (first | rfl | refine lf_bif ?_ ?_ | split)
theorem lf_fr_tab {dflt lo hi : Int} {offs : Array Int} {pc : Nat} {st : List Value} {h : px_H} : lf_fr (fun lv => px_oTab dflt lo hi offs pc lv st h) := by
  intro lv
  unfold px_oTab
  try unfold px_jmp
  dsimp only
  repeat' (first | rfl | refine lf_bif ?_ ?_ | split)
theorem lf_fr_look {dflt : Int} {ps : Array (Int × Int)} {pc : Nat} {st : List Value} {h : px_H} : lf_fr (fun lv => px_oLook dflt ps pc lv st h) := by
  intro lv
  unfold px_oLook
  try unfold px_jmp
  dsimp only
  repeat' (first | rfl | refine lf_bif ?_ ?_ | split)
theorem lf_fr_get {k i : Nat} {pc : Nat} {st : List Value} {h : px_H} : lf_fr (fun lv => px_oGet k i pc lv st h) := by
  intro lv
  unfold px_oGet
  dsimp only
  repeat' (first | rfl | refine lf_bif ?_ ?_ | split)
theorem lf_fr_put {k i : Nat} {pc : Nat} {st : List Value} {h : px_H} : lf_fr (fun lv => px_oPut k i pc lv st h) := by
  intro lv
  unfold px_oPut
  dsimp only
  repeat' (first | rfl | refine lf_bif ?_ ?_ | split)
theorem lf_fr_iald {ro : px_RO} {pc : Nat} {st : List Value} {h : px_H} : lf_fr (fun lv => px_oIald ro pc lv st h) := by
  intro lv
  unfold px_oIald
  dsimp only
  repeat' (first | rfl | refine lf_bif ?_ ?_ | split)
theorem lf_fr_len {ro : px_RO} {pc : Nat} {st : List Value} {h : px_H} : lf_fr (fun lv => px_oLen ro pc lv st h) := by
  intro lv
  unfold px_oLen
  dsimp only
  repeat' (first | rfl | refine lf_bif ?_ ?_ | split)
theorem lf_fr_new {k i : Nat} {pc : Nat} {st : List Value} {h : px_H} : lf_fr (fun lv => px_oNew k i pc lv st h) := by
  intro lv
  unfold px_oNew
  dsimp only
  repeat' (first | rfl | refine lf_bif ?_ ?_ | split)
theorem lf_fr_newa {t : Nat} {pc : Nat} {st : List Value} {h : px_H} : lf_fr (fun lv => px_oNewa t pc lv st h) := by
  intro lv
  unfold px_oNewa
  dsimp only
  repeat' (first | rfl | refine lf_bif ?_ ?_ | split)
theorem lf_fr_mi {kd : Nat} {pc : Nat} {st : List Value} {h : px_H} : lf_fr (fun lv => px_oMi kd pc lv st h) := by
  intro lv
  unfold px_oMi
  dsimp only
  repeat' (first | rfl | refine lf_bif ?_ ?_ | split)
theorem lf_fr_ml {kd : Nat} {pc : Nat} {st : List Value} {h : px_H} : lf_fr (fun lv => px_oMl kd pc lv st h) := by
  intro lv
  unfold px_oMl
  dsimp only
  repeat' (first | rfl | refine lf_bif ?_ ?_ | split)
theorem lf_fr_str {k i : Nat} {pc : Nat} {st : List Value} {h : px_H} : lf_fr (fun lv => px_oStr k i pc lv st h) := by
  intro lv
  unfold px_oStr
  dsimp only
  repeat' (first | rfl | refine lf_bif ?_ ?_ | split)
theorem lf_fr_jmp {t : Option Nat} {pc : Nat} {st : List Value} {h : px_H} : lf_fr (fun lv => px_jmp lv st h t) := by
  intro lv
  unfold px_jmp
  dsimp only
  repeat' (first | rfl | refine lf_bif ?_ ?_ | split)
theorem lf_fr_psh {v : Option Value} {pc : Nat} {st : List Value} {h : px_H} : lf_fr (fun lv => px_psh pc lv st h v) := by
  intro lv
  unfold px_psh
  dsimp only
  repeat' (first | rfl | refine lf_bif ?_ ?_ | split)
theorem lf_fr_anew {k i pc : Nat} {st : List Value} {h : px_H} : lf_fr (fun lv => px_oAnew k i pc lv st h) := by
  intro lv
  unfold px_oAnew
  dsimp only
  split
  · exact lf_fr_newa lv
  · rfl
theorem lf_fr_st {kd pc : Nat} {st : List Value} {h : px_H} : lf_fr (fun lv => px_oSt kd pc lv st h) := by
  intro lv
  unfold px_oSt
  dsimp only
  split
  · exact lf_fr_Cpy lv
  · exact lf_fr_mi lv
  · exact lf_fr_mi lv
  · exact lf_fr_ml lv
  · exact lf_fr_ml lv
  · rfl
theorem lf_fr_k {f : px_L → Option px_S} {l lv : px_L} {σ : px_S} (hs : lf_Sb l lv) (hf : lf_fr f) (h1 : f l = some σ) : ∃ l', f lv = some (σ.1, l', σ.2.2) ∧ lf_Sb σ.2.1 l' := by
  have h2 := hf l
  rw [h1] at h2
  cases he : f [] with
  | none => rw [he] at h2; cases h2
  | some τ =>
    rw [he] at h2
    cases h2
    refine ⟨lv, ?_, hs⟩
    rw [hf lv, he]
    rfl
theorem lf_get_sb {l lv : px_L} {i kd : Nat} {w : Value} (hs : lf_Sb l lv) (h : px_get l i kd = some w) : px_get lv i kd = some w := by
  unfold px_get at h ⊢
  cases hl : px_ld l i with
  | none => rw [hl] at h; split at h <;> first | (rename_i h9; cases h9) | cases h
  | some v => rw [lf_Sb_ld hs hl]; rw [hl] at h; exact h
theorem lf_psh_sb {l lv : px_L} {pc i kd : Nat} {st : List Value} {h : px_H} {σ : px_S} (hs : lf_Sb l lv) (h1 : px_psh pc l st h (px_get l i kd) = some σ) : ∃ l', px_psh pc lv st h (px_get lv i kd) = some (σ.1, l', σ.2.2) ∧ lf_Sb σ.2.1 l' := by
  cases hg : px_get l i kd with
  | none => rw [hg] at h1; cases h1
  | some w =>
    rw [hg] at h1
    cases h1
    rw [lf_get_sb hs hg]
    exact ⟨lv, rfl, hs⟩
theorem lf_sto_sb {l lv : px_L} {k pc i kd : Nat} {st : List Value} {h : px_H} {σ : px_S} (hs : lf_Sb l lv) (h1 : px_oSto k pc l st h i kd = some σ) : ∃ l', px_oSto k pc lv st h i kd = some (σ.1, l', σ.2.2) ∧ lf_Sb σ.2.1 l' := by
  unfold px_oSto at h1 ⊢
  split at h1
  · rename_i v st
    split at h1
    · rename_i l1 hl
      cases h1
      unfold px_sto at hl ⊢
      split at hl
      · cases hb : Nat.blt i (px_maxL k) with
        | false => rw [hb] at hl; cases hl
        | true => rw [hb] at hl; cases hl; exact ⟨_, rfl, lf_Sb_st1 hs⟩
      · cases hb : Nat.blt (i + 1) (px_maxL k) with
        | false => rw [hb] at hl; cases hl
        | true => rw [hb] at hl; cases hl; exact ⟨_, rfl, lf_Sb_st2 hs⟩
      · cases hb : Nat.blt i (px_maxL k) with
        | false => rw [hb] at hl; cases hl
        | true => rw [hb] at hl; cases hl; exact ⟨_, rfl, lf_Sb_st1 hs⟩
      · cases hb : Nat.blt i (px_maxL k) with
        | false => rw [hb] at hl; cases hl
        | true => rw [hb] at hl; cases hl; exact ⟨_, rfl, lf_Sb_st1 hs⟩
      · cases hl
    · cases h1
  · cases h1
theorem lf_inc_sb {l lv : px_L} {k pc i : Nat} {n : Int} {st : List Value} {h : px_H} {σ : px_S} (hs : lf_Sb l lv) (h1 : px_oInc k pc l st h i n = some σ) : ∃ l', px_oInc k pc lv st h i n = some (σ.1, l', σ.2.2) ∧ lf_Sb σ.2.1 l' := by
  unfold px_oInc at h1 ⊢
  split at h1
  · rename_i x hx
    rw [lf_Sb_ld hs hx]
    dsimp only
    cases hb : Nat.blt i (px_maxL k) with
    | false => rw [hb] at h1; cases h1
    | true => rw [hb] at h1; cases h1; exact ⟨_, rfl, lf_Sb_st1 hs⟩
  · cases h1
theorem lf_op_sb {ro : px_RO} {k : Nat} {ins : Instr} {len pc : Nat} {l lv : px_L} {st : List Value} {h : px_H} {σ : px_S} (hs : lf_Sb l lv) (ho : px_op ro k ins len pc l st h = some σ) : ∃ l', px_op ro k ins len pc lv st h = some (σ.1, l', σ.2.2) ∧ lf_Sb σ.2.1 l' := by
  cases ins with
  | iload i => exact lf_psh_sb hs ho
  | iload_n i => exact lf_psh_sb hs ho
  | lload i => exact lf_psh_sb hs ho
  | lload_n i => exact lf_psh_sb hs ho
  | aload i => exact lf_psh_sb hs ho
  | aload_n i => exact lf_psh_sb hs ho
  | istore i => exact lf_sto_sb hs ho
  | istore_n i => exact lf_sto_sb hs ho
  | lstore i => exact lf_sto_sb hs ho
  | lstore_n i => exact lf_sto_sb hs ho
  | astore i => exact lf_sto_sb hs ho
  | astore_n i => exact lf_sto_sb hs ho
  | iinc i n => exact lf_inc_sb hs ho
  | newarray t =>
    cases t with
    | int => exact lf_fr_k hs lf_fr_newa ho
    | long => exact lf_fr_k hs lf_fr_newa ho
    | boolean => exact lf_fr_k hs lf_fr_newa ho
    | _ => cases ho
  | invokespecial i =>
    refine lf_fr_k (f := fun lv => px_op ro k (.invokespecial i) len pc lv st h) hs ?_ ho
    intro lv
    show (match px_call k i with | some (4, _) => px_oSp (pc + len) lv st h | _ => none) = (match px_call k i with | some (4, _) => px_oSp (pc + len) [] st h | _ => none).map _
    split
    · exact lf_fr_Sp lv
    · rfl
  | invokestatic i =>
    refine lf_fr_k (f := fun lv => px_op ro k (.invokestatic i) len pc lv st h) hs ?_ ho
    intro lv
    show (match px_call k i with | some (kd, _) => px_oSt kd (pc + len) lv st h | _ => none) = (match px_call k i with | some (kd, _) => px_oSt kd (pc + len) [] st h | _ => none).map _
    split
    · exact lf_fr_st lv
    · rfl
  | iadd => exact lf_fr_k hs (lf_fr_ari (ins := .iadd)) ho
  | isub => exact lf_fr_k hs (lf_fr_ari (ins := .isub)) ho
  | imul => exact lf_fr_k hs (lf_fr_ari (ins := .imul)) ho
  | idiv => exact lf_fr_k hs (lf_fr_ari (ins := .idiv)) ho
  | irem => exact lf_fr_k hs (lf_fr_ari (ins := .irem)) ho
  | iand => exact lf_fr_k hs (lf_fr_ari (ins := .iand)) ho
  | ior => exact lf_fr_k hs (lf_fr_ari (ins := .ior)) ho
  | ixor => exact lf_fr_k hs (lf_fr_ari (ins := .ixor)) ho
  | ishl => exact lf_fr_k hs (lf_fr_ari (ins := .ishl)) ho
  | ishr => exact lf_fr_k hs (lf_fr_ari (ins := .ishr)) ho
  | iushr => exact lf_fr_k hs (lf_fr_ari (ins := .iushr)) ho
  | ladd => exact lf_fr_k hs (lf_fr_arl (ins := .ladd)) ho
  | lsub => exact lf_fr_k hs (lf_fr_arl (ins := .lsub)) ho
  | lmul => exact lf_fr_k hs (lf_fr_arl (ins := .lmul)) ho
  | ldiv => exact lf_fr_k hs (lf_fr_arl (ins := .ldiv)) ho
  | lrem => exact lf_fr_k hs (lf_fr_arl (ins := .lrem)) ho
  | lor => exact lf_fr_k hs (lf_fr_arl (ins := .lor)) ho
  | ineg => exact lf_fr_k hs (lf_fr_Ineg) ho
  | lneg => exact lf_fr_k hs (lf_fr_Lneg) ho
  | i2l => exact lf_fr_k hs (lf_fr_I2l) ho
  | l2i => exact lf_fr_k hs (lf_fr_L2i) ho
  | lcmp => exact lf_fr_k hs (lf_fr_Lcmp) ho
  | lshl => exact lf_fr_k hs (lf_fr_Lshl) ho
  | lshr => exact lf_fr_k hs (lf_fr_Lshr) ho
  | dup => exact lf_fr_k hs (lf_fr_Dup) ho
  | pop => exact lf_fr_k hs (lf_fr_pop) ho
  | pop2 => exact lf_fr_k hs (lf_fr_pop) ho
  | dup2 => exact lf_fr_k hs (lf_fr_Dup2) ho
  | ifCond a0 a1 => exact lf_fr_k hs (lf_fr_if) ho
  | if_icmp a0 a1 => exact lf_fr_k hs (lf_fr_icmp) ho
  | ifnull a0 => exact lf_fr_k hs (lf_fr_null) ho
  | ifnonnull a0 => exact lf_fr_k hs (lf_fr_nonnull) ho
  | goto a0 => exact lf_fr_k hs (lf_fr_jmp (pc := 0)) ho
  | tableswitch a0 a1 a2 a3 => exact lf_fr_k hs (lf_fr_tab) ho
  | lookupswitch a0 a1 => exact lf_fr_k hs (lf_fr_look) ho
  | getfield a0 => exact lf_fr_k hs (lf_fr_get) ho
  | putfield a0 => exact lf_fr_k hs (lf_fr_put) ho
  | iaload => exact lf_fr_k hs (lf_fr_iald) ho
  | baload => exact lf_fr_k hs (lf_fr_Zald) ho
  | laload => exact lf_fr_k hs (lf_fr_Lald) ho
  | aaload => exact lf_fr_k hs (lf_fr_Aald) ho
  | iastore => exact lf_fr_k hs (lf_fr_Iast) ho
  | bastore => exact lf_fr_k hs (lf_fr_Zast) ho
  | lastore => exact lf_fr_k hs (lf_fr_Last) ho
  | aastore => exact lf_fr_k hs (lf_fr_Aast) ho
  | arraylength => exact lf_fr_k hs (lf_fr_len) ho
  | new a0 => exact lf_fr_k hs (lf_fr_new) ho
  | anewarray a0 => exact lf_fr_k hs (lf_fr_anew) ho
  | getstatic a0 => exact lf_fr_k hs (lf_fr_psh) ho
  | invokevirtual a0 => exact lf_fr_k hs (lf_fr_str) ho
  | ldc a0 => exact lf_fr_k hs (lf_fr_psh) ho
  | ldc_w a0 => exact lf_fr_k hs (lf_fr_psh) ho
  | ldc2_w a0 => exact lf_fr_k hs (lf_fr_psh) ho
  | iconst n => cases ho; exact ⟨lv, rfl, hs⟩
  | bipush n => cases ho; exact ⟨lv, rfl, hs⟩
  | sipush n => cases ho; exact ⟨lv, rfl, hs⟩
  | lconst n => cases ho; exact ⟨lv, rfl, hs⟩
  | aconst_null => cases ho; exact ⟨lv, rfl, hs⟩
  | _ => cases ho
theorem lf_ev_sb {ro : px_RO} : ∀ (n d k : Nat) (pc : Nat) (l lv : px_L) (st : List Value) (h : px_H) (r : Option Value) (hF : px_H), lf_Sb l lv → px_ev ro n d k (pc, l, st, h) = some (r, hF) → px_ev ro n d k (pc, lv, st, h) = some (r, hF) := by
  intro n
  induction n with
  | zero => intro d k pc l lv st h r hF hs he; cases he
  | succ n ih =>
    intro d k pc l lv st h r hF hs he
    cases d with
    | zero => cases he
    | succ d =>
      unfold px_ev at he ⊢
      cases hf : px_fetch k pc with
      | none => rw [hf] at he; cases he
      | some q =>
        obtain ⟨ins, len⟩ := q
        rw [hf] at he
        dsimp only at he ⊢
        cases hr : px_ret k ins st with
        | some r' => rw [hr] at he; exact he
        | none =>
          rw [hr] at he
          dsimp only at he ⊢
          cases hi : px_inv k ins st h with
          | some q =>
            obtain ⟨j, as, rest⟩ := q
            rw [hi] at he
            dsimp only at he ⊢
            cases hq : (Nat.ble (rest.map fun v => v.category).sum 8 && Nat.ble (lg_sl as).length (px_maxL j)) with
            | false => rw [hq] at he; cases he
            | true =>
              rw [hq] at he
              dsimp only [cond_true] at he ⊢
              cases hv : px_ev ro n d j (0, lv_args 0 as, [], h) with
              | none => rw [hv] at he; cases he
              | some q =>
                obtain ⟨v, h1⟩ := q
                rw [hv] at he
                exact ih _ _ _ _ _ _ _ _ _ hs he
          | none =>
            rw [hi] at he
            dsimp only at he ⊢
            cases ho : px_op ro k ins len pc l st h with
            | none => rw [ho] at he; cases he
            | some σ =>
              rw [ho] at he
              obtain ⟨pc1, l1, st1, h1⟩ := σ
              obtain ⟨l', e1, e2⟩ := lf_op_sb hs ho
              rw [e1]
              exact ih _ _ _ _ _ _ _ _ _ e2 he
theorem px_E_sb {ro : px_RO} {d k pc : Nat} {l lv : px_L} {st : List Value} {h hF : px_H} {r : Option Value} (hs : lf_Sb l lv) (h1 : px_E ro d k (pc, l, st, h) r hF) : px_E ro d k (pc, lv, st, h) r hF := by
  obtain ⟨n, h1⟩ := h1
  exact ⟨n, lf_ev_sb _ _ _ _ _ _ _ _ _ _ hs h1⟩
