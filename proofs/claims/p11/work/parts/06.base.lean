/-! THE PURE MACHINE IS SOUND: where px_ev answers, the machine itself comes to that answer and that heap -/
theorem px_beqT {a b : Nat} (h : Nat.beq a b = true) : a = b := Nat.eq_of_beq_eq_true h
theorem px_beqN {a b : Nat} (h : a ≠ b) : Nat.beq a b = false := by
  cases hb : Nat.beq a b with
  | false => rfl
  | true => exact absurd (Nat.eq_of_beq_eq_true hb) h
theorem px_bltT {a b : Nat} (h : Nat.blt a b = true) : a < b := Nat.le_of_ble_eq_true h
theorem px_bleT {a b : Nat} (h : Nat.ble a b = true) : a ≤ b := Nat.le_of_ble_eq_true h
theorem px_bleF {a b : Nat} (h : Nat.ble a b = false) : b < a := by
  rcases Nat.lt_or_ge b a with q | q
  · exact q
  · rw [Nat.ble_eq_true_of_le q] at h; cases h
theorem px_up_ne {α : Type} {f : Nat → Nat → α} {k i j : Nat} {x : α} (h : j ≠ k) : px_up f k i x j = f j := by
  funext b; unfold px_up; rw [px_beqN h]; rfl
theorem px_up_eq {α : Type} {f : Nat → Nat → α} {k i : Nat} {x : α} : px_up f k i x k = fun b => cond (Nat.beq b i) x (f k b) := by
  funext b; unfold px_up; rw [show Nat.beq k k = true from Nat.beq_refl k]; rfl
theorem px_rw_ne {α : Type} {f : Nat → Nat → α} {k j : Nat} {g : Nat → α} (h : j ≠ k) : px_rw f k g j = f j := by
  funext b; unfold px_rw; rw [px_beqN h]; rfl
theorem px_rw_eq {α : Type} {f : Nat → Nat → α} {k : Nat} {g : Nat → α} : px_rw f k g k = g := by
  funext b; unfold px_rw; rw [show Nat.beq k k = true from Nat.beq_refl k]; rfl
def px_ad (base : Nat) (rb : Nat → Nat) (k : Nat) : Nat := if k < px_SC then base + k else rb (k - px_SC)
theorem px_ad_lt {base : Nat} {rb : Nat → Nat} {k : Nat} (h : k < px_SC) : px_ad base rb k = base + k := if_pos h
def px_v (ad : Nat → Nat) : Value → Value
  | .ref k => .ref (ad k)
  | v => v
theorem px_v_cat (ad : Nat → Nat) (v : Value) : (px_v ad v).category = v.category := by cases v <;> rfl
theorem px_v_rf (ad : Nat → Nat) (r : Option Nat) : px_v ad (va_rf r) = va_rf (r.map ad) := by cases r <;> rfl
theorem px_v_sum (ad : Nat → Nat) (st : List Value) : ((st.map (px_v ad)).map fun v => v.category).sum = (st.map fun v => v.category).sum := by
  rw [List.map_map]; congr 1; apply List.map_congr_left; intro v _; exact px_v_cat ad v
def px_lv (ad : Nat → Nat) (lv : px_L) : px_L := lv.map (fun q => (q.1, px_v ad q.2))
def px_fs (ad : Nat → Nat) (I : Nat → Int32) (J : Nat → Int64) (P : Nat → Option Nat) (ci : Nat) : List Value := (List.range (px_n ci)).map (fun f => px_v ad (px_fv I J P f (px_ty ci f)))
def px_arr (ad : Nat → Nat) (I : Nat → Int32) (J : Nat → Int64) (P : Nat → Option Nat) (t : Nat) : (Nat → Int32) ⊕ (Nat → Int64) ⊕ (Nat → UInt32) ⊕ (Nat → UInt64) ⊕ (Nat → Option Nat) := match t with
  | 1 => .inr (.inl J)
  | 3 => .inr (.inr (.inr (.inr (fun i => (P i).map ad))))
  | _ => .inl I
def px_cell (ad : Nat → Nat) (dA : Nat → ClassId) (I : Nat → Int32) (J : Nat → Int64) (P : Nat → Option Nat) : px_Sh → va_E
  | .inl (t, n) => .inl (dA t, n, px_arr ad I J P t)
  | .inr ci => .inr (ci, px_fs ad I J P ci)
def px_w (ad : Nat → Nat) (dA : Nat → ClassId) (h : px_H) : va_W := h.1.mapIdx (fun k sh => (ad k, px_cell ad dA (h.2.1 k) (h.2.2.1 k) (h.2.2.2 k) sh))
def px_tys (dA : Nat → ClassId) : List (ClassId × FieldType) := [(dA 0, .int), (dA 1, .long), (dA 2, .boolean), (dA 3, .object "ElevenBullocks$Script")]
theorem px_w_get {ad : Nat → Nat} {dA : Nat → ClassId} {h : px_H} {k : Nat} {sh : px_Sh} (hk : h.1[k]? = some sh) : (px_w ad dA h)[k]? = some (ad k, px_cell ad dA (h.2.1 k) (h.2.2.1 k) (h.2.2.2 k) sh) := by
  simp [px_w, List.getElem?_mapIdx, hk]
theorem px_w_len {ad : Nat → Nat} {dA : Nat → ClassId} {h : px_H} : (px_w ad dA h).length = h.1.length := by simp [px_w]
theorem px_w_inv {ad : Nat → Nat} {dA : Nat → ClassId} {h : px_H} {k : Nat} {q : Nat × va_E} (hk : (px_w ad dA h)[k]? = some q) : k < h.1.length ∧ q.1 = ad k := by
  have hlt : k < h.1.length := by rw [← px_w_len (ad := ad) (dA := dA)]; exact (List.getElem?_eq_some_iff.mp hk).1
  refine ⟨hlt, ?_⟩
  rw [px_w_get (List.getElem?_eq_getElem hlt)] at hk
  cases hk; rfl
theorem px_w_set {ad : Nat → Nat} {dA : Nat → ClassId} {h h' : px_H} {k : Nat} {sh : px_Sh} (hsh : h'.1 = h.1) (hk : h.1[k]? = some sh) (ho : ∀ j, j ≠ k → h'.2.1 j = h.2.1 j ∧ h'.2.2.1 j = h.2.2.1 j ∧ h'.2.2.2 j = h.2.2.2 j) :
    (px_w ad dA h).set k (ad k, px_cell ad dA (h'.2.1 k) (h'.2.2.1 k) (h'.2.2.2 k) sh) = px_w ad dA h' := by
  apply List.ext_getElem?
  intro j
  rw [List.getElem?_set]
  by_cases e : k = j
  · subst e
    have hlt : k < (px_w ad dA h).length := by rw [px_w_len]; exact (List.getElem?_eq_some_iff.mp hk).1
    rw [if_pos rfl, if_pos hlt, px_w_get (by rw [hsh]; exact hk)]
  · rw [if_neg e]
    obtain ⟨a, b, c⟩ := ho j (fun z => e z.symm)
    simp only [px_w, List.getElem?_mapIdx, hsh, a, b, c]
theorem px_w_new {ad : Nat → Nat} {dA : Nat → ClassId} {h : px_H} {sh : px_Sh} : px_w ad dA (px_new h sh) = px_w ad dA h ++ [(ad h.1.length, px_cell ad dA (fun _ => 0) (fun _ => 0) (fun _ => none) sh)] := by
  apply List.ext_getElem?
  intro j
  rcases Nat.lt_trichotomy j h.1.length with hj | hj | hj
  · rw [List.getElem?_append_left (by rw [px_w_len]; exact hj)]
    have hne : j ≠ h.1.length := Nat.ne_of_lt hj
    simp only [px_w, px_new, List.getElem?_mapIdx, List.getElem?_append_left hj, px_rw_ne hne]
  · subst hj
    rw [List.getElem?_append_right (by rw [px_w_len]; exact Nat.le_refl _), px_w_len, Nat.sub_self]
    simp only [px_w, px_new, List.getElem?_mapIdx, px_rw_eq]
    simp
  · have h1 : (px_w ad dA (px_new h sh)).length ≤ j := by rw [px_w_len]; simp [px_new]; omega
    have h2 : (px_w ad dA h ++ [(ad h.1.length, px_cell ad dA (fun _ => 0) (fun _ => 0) (fun _ => none) sh)]).length ≤ j := by rw [List.length_append, px_w_len]; simp; omega
    rw [List.getElem?_eq_none h1, List.getElem?_eq_none h2]
theorem px_w_D {base : Nat} {rb : Nat → Nat} {dA : Nat → ClassId} {h : px_H} (hl : h.1.length ≤ px_SC) : va_D (fun q => base ≤ q) (px_w (px_ad base rb) dA h) := by
  refine ⟨fun i j x y hx hy e => ?_, fun j x hx => ?_⟩
  · obtain ⟨i1, i2⟩ := px_w_inv hx
    obtain ⟨j1, j2⟩ := px_w_inv hy
    rw [i2, j2, px_ad_lt (by omega), px_ad_lt (by omega)] at e
    omega
  · obtain ⟨i1, i2⟩ := px_w_inv hx
    show base ≤ x.1
    rw [i2, px_ad_lt (by omega)]
    omega
theorem px_q {base : Nat} {rb : Nat → Nat} {D : va_G} {dA : Nat → ClassId} {h : px_H} {q : Nat} {e : va_E} {H1 : Heap} (hP : va_P D vwCl (px_w (px_ad base rb) dA h ++ [(q, e)]) H1) (hD : va_D (fun q => base ≤ q) (px_w (px_ad base rb) dA h ++ [(q, e)])) (hl : h.1.length ≤ px_SC) (hsz : H1.size ≤ base + h.1.length + 1) : q = base + h.1.length := by
  have hlast : (px_w (px_ad base rb) dA h ++ [(q, e)])[h.1.length]? = some (q, e) := by
    rw [List.getElem?_append_right (by rw [px_w_len]; exact Nat.le_refl _), px_w_len, Nat.sub_self]; rfl
  have h1 : q < H1.size := (hP _ _ hlast).lt
  have h2 : base ≤ q := hD.2 _ _ hlast
  rcases Nat.lt_or_ge q (base + h.1.length) with hlt | hge
  · exfalso
    have hj : q - base < h.1.length := by omega
    have e1 : (px_w (px_ad base rb) dA h ++ [(q, e)])[q - base]? = _ := (List.getElem?_append_left (by rw [px_w_len]; exact hj)).trans (px_w_get (List.getElem?_eq_getElem hj))
    have h3 := hD.1 (q - base) h.1.length _ _ e1 hlast (by show px_ad base rb (q - base) = q; rw [px_ad_lt (by omega)]; omega)
    omega
  · omega
theorem px_ld_at {ad : Nat → Nat} {ls : Array Slot} {nL : Nat} {lv : px_L} {i : Nat} {v : Value} (hl : lv_has ls nL (px_lv ad lv)) (h : px_ld lv i = some v) : ls[i]? = some (.val (px_v ad v)) := by
  unfold px_ld at h
  obtain ⟨q, hq, rfl⟩ := Option.map_eq_some_iff.mp h
  have h1 := List.mem_of_find?_eq_some hq
  have h2 : q.1 = i := by have := List.find?_some hq; simpa using this
  have h3 := hl.2.2 (q.1, px_v ad q.2) (List.mem_map.mpr ⟨q, h1, rfl⟩)
  rw [← h2]; exact h3
theorem px_st1_map (ad : Nat → Nat) (lv : px_L) (i : Nat) (v : Value) : (i, px_v ad v) :: (px_lv ad lv).filter (fun q => !(q.1 == i) && !(q.1 + 1 == i && q.2.category == 2)) = px_lv ad (px_st1 lv i v) := by
  simp only [px_lv, px_st1, List.map_cons, List.filter_map]
  congr 2
  apply List.filter_congr
  intro q _
  simp [px_v_cat]
theorem px_st2_map (ad : Nat → Nat) (lv : px_L) (i : Nat) (v : Value) : (i, px_v ad v) :: (px_lv ad lv).filter (fun q => !(q.1 == i) && (!(q.1 == i + 1) && !(q.1 + 1 == i && q.2.category == 2))) = px_lv ad (px_st2 lv i v) := by
  simp only [px_lv, px_st2, List.map_cons, List.filter_map]
  congr 2
  apply List.filter_congr
  intro q _
  simp [px_v_cat]
theorem px_args_map (ad : Nat → Nat) : ∀ (as : List Value) (i : Nat), lv_args i (as.map (px_v ad)) = px_lv ad (lv_args i as)
  | [], i => rfl
  | v :: as, i => by
    show (i, px_v ad v) :: lv_args (if (px_v ad v).category = 2 then i + 2 else i + 1) (as.map (px_v ad)) = (i, px_v ad v) :: px_lv ad (lv_args (if v.category = 2 then i + 2 else i + 1) as)
    rw [px_v_cat, px_args_map ad as]
theorem px_sl_len (ad : Nat → Nat) (as : List Value) : (lg_sl (as.map (px_v ad))).length = (lg_sl as).length := by
  induction as with
  | nil => rfl
  | cons v as ih =>
    simp only [lg_sl, List.map_cons, List.flatMap_cons, List.length_append, px_v_cat] at ih ⊢
    rw [ih]
    split <;> rfl
theorem px_n_of {ci : Nat} {C : String} {T : u_T} {N : Nat} (h : vwCl[ci]? = some (C, T, N)) : px_n ci = N := by
  unfold px_n; rw [h]
theorem px_fs_get {ad : Nat → Nat} {I : Nat → Int32} {J : Nat → Int64} {P : Nat → Option Nat} {ci f : Nat} (h : f < px_n ci) : (px_fs ad I J P ci)[f]? = some (px_v ad (px_fv I J P f (px_ty ci f))) := by
  simp [px_fs, List.getElem?_map, List.getElem?_range h]
theorem px_fs_len {ad : Nat → Nat} {I : Nat → Int32} {J : Nat → Int64} {P : Nat → Option Nat} {ci : Nat} : (px_fs ad I J P ci).length = px_n ci := by simp [px_fs]
theorem px_fs_set {ad : Nat → Nat} {I I' : Nat → Int32} {J J' : Nat → Int64} {P P' : Nat → Option Nat} {ci f : Nat} (hf : f < px_n ci) (ho : ∀ j, j ≠ f → I' j = I j ∧ J' j = J j ∧ P' j = P j) : (px_fs ad I J P ci).set f (px_v ad (px_fv I' J' P' f (px_ty ci f))) = px_fs ad I' J' P' ci := by
  apply List.ext_getElem?
  intro j
  rw [List.getElem?_set]
  by_cases e : f = j
  · subst e
    rw [if_pos rfl, if_pos (by rw [px_fs_len]; exact hf), px_fs_get hf]
  · rw [if_neg e]
    obtain ⟨a, b, c⟩ := ho j (fun z => e z.symm)
    rcases Nat.lt_or_ge j (px_n ci) with hj | hj
    · rw [px_fs_get hj, px_fs_get hj]
      congr 2
      unfold px_fv
      split <;> simp only [a, b, c]
    · rw [List.getElem?_eq_none (by rw [px_fs_len]; exact hj), List.getElem?_eq_none (by rw [px_fs_len]; exact hj)]
theorem px_sl_app (a : List px_Sh) (sh : px_Sh) : px_sl (a ++ [sh]) = px_sl a + px_sl [sh] := by
  induction a with
  | nil => simp [px_sl]
  | cons x a ih =>
    cases x with
    | inl q => obtain ⟨t, n⟩ := q; simp only [List.cons_append, px_sl] at ih ⊢; omega
    | inr ci => simp only [List.cons_append, px_sl] at ih ⊢; omega
-- links
theorem px_key_dm {k idx : Nat} (hi : idx < 1000) : px_key k idx / 1000 = (px_m k).2.2.1 ∧ px_key k idx % 1000 = idx := by
  unfold px_key; omega
theorem px_hit {q key idx : Nat} (h : (Nat.beq q key && Nat.blt idx 1000) = true) : q = key ∧ idx < 1000 := by
  rw [Bool.and_eq_true] at h
  exact ⟨px_beqT h.1, px_bltT h.2⟩
theorem px_fld_ok {k idx ci f : Nat} (h : px_fld k idx = some (ci, f)) : ∃ (C : String) (T : u_T) (N : Nat), vwCl[ci]? = some (C, T, N) ∧ f < N ∧ Cond.fieldLink (px_on (px_m k).2.2.1) idx (T f).1 (T f).2.1 (T f).2.2.1 ∈ px_ws := by
  unfold px_fld at h
  have hq := px_all_get px_fldT (px_key k idx) px_fldT_ok
  generalize px_fldT.get (px_key k idx) = q at h hq
  dsimp only at h
  cases hb : (Nat.beq q.1 (px_key k idx) && Nat.blt idx 1000) with
  | false => rw [hb] at h; cases h
  | true =>
    rw [hb] at h
    cases h
    obtain ⟨h1, h2⟩ := px_hit hb
    obtain ⟨d1, d2⟩ := px_key_dm (k := k) h2
    unfold px_fldOk at hq
    cases hc : vwCl[q.2.1]? with
    | none => rw [hc] at hq; cases hq
    | some r =>
      obtain ⟨C, T, N⟩ := r
      rw [hc] at hq
      simp only [Bool.and_eq_true, decide_eq_true_eq] at hq
      have h3 := px_mem hq.2
      rw [h1, d1, d2] at h3
      exact ⟨C, T, N, rfl, hq.1, h3⟩
theorem px_cls_ok {k idx ci : Nat} (h : px_cls k idx = some ci) : ∃ (C : String) (T : u_T) (N : Nat), vwCl[ci]? = some (C, T, N) ∧ Cond.classLink (px_on (px_m k).2.2.1) idx C ∈ px_ws := by
  unfold px_cls at h
  have hq := px_all_get px_clsT (px_key k idx) px_clsT_ok
  generalize px_clsT.get (px_key k idx) = q at h hq
  dsimp only at h
  cases hb : (Nat.beq q.1 (px_key k idx) && Nat.blt idx 1000) with
  | false => rw [hb] at h; cases h
  | true =>
    rw [hb] at h
    cases h
    obtain ⟨h1, h2⟩ := px_hit hb
    obtain ⟨d1, d2⟩ := px_key_dm (k := k) h2
    unfold px_clsOk at hq
    cases hc : vwCl[q.2.1]? with
    | none => rw [hc] at hq; cases hq
    | some r =>
      obtain ⟨C, T, N⟩ := r
      rw [hc] at hq
      have h3 := px_mem hq
      rw [h1, d1, d2] at h3
      exact ⟨C, T, N, rfl, h3⟩
theorem px_int_ok {k idx : Nat} {v : Int32} (h : px_int k idx = some v) : Cond.constant (px_on (px_m k).2.2.1) idx v ∈ px_ws := by
  unfold px_int at h
  have hq := px_all_get px_intT (px_key k idx) px_intT_ok
  generalize px_intT.get (px_key k idx) = q at h hq
  dsimp only at h
  cases hb : (Nat.beq q.1 (px_key k idx) && Nat.blt idx 1000) with
  | false => rw [hb] at h; cases h
  | true =>
    rw [hb] at h
    cases h
    obtain ⟨h1, h2⟩ := px_hit hb
    obtain ⟨d1, d2⟩ := px_key_dm (k := k) h2
    have h3 := px_mem hq
    rw [h1, d1, d2] at h3
    exact h3
theorem px_lng_ok {k idx : Nat} {v : Int64} (h : px_lng k idx = some v) : Cond.constantLong (px_on (px_m k).2.2.1) idx v ∈ px_ws := by
  unfold px_lng at h
  have hq := px_all_get px_lngT (px_key k idx) px_lngT_ok
  generalize px_lngT.get (px_key k idx) = q at h hq
  dsimp only at h
  cases hb : (Nat.beq q.1 (px_key k idx) && Nat.blt idx 1000) with
  | false => rw [hb] at h; cases h
  | true =>
    rw [hb] at h
    cases h
    obtain ⟨h1, h2⟩ := px_hit hb
    obtain ⟨d1, d2⟩ := px_key_dm (k := k) h2
    have h3 := px_mem hq
    rw [h1, d1, d2] at h3
    exact h3
/-- what the tables say of a call, by its kind -/
def px_CallOk (own : String) (idx kd j : Nat) : Prop := match kd with
  | 0 => Cond.methodLink own idx (px_m j).2.1 ∈ px_ws ∧ Cond.static (px_m j).2.1 ∈ px_ws ∧ j < px_law ∧ (px_m j).1 = j
  | 1 => Cond.methodLink own idx (px_m j).2.1 ∈ px_ws ∧ Cond.instanceMethod (px_m j).2.1 ∈ px_ws ∧ Cond.selects (px_m j).2.1.cls (px_m j).2.1 (px_m j).2.1 ∈ px_ws ∧ j < px_law ∧ (px_m j).1 = j
  | 2 => Cond.methodLink own idx (px_m j).2.1 ∈ px_ws ∧ Cond.instanceMethod (px_m j).2.1 ∈ px_ws ∧ j < px_law ∧ (px_m j).1 = j ∧ (px_m j).2.1.name = "<init>" ∧ (px_m j).2.2.2.2.2.1 = none
  | 3 => (∃ h, (own, idx, (px_m j).2.1, h) ∈ px_nest) ∧ Cond.static (px_m j).2.1 ∈ px_ws ∧ j < px_law ∧ (px_m j).1 = j
  | kd => 4 ≤ kd ∧ kd ≤ 9 ∧ Cond.methodLink own idx (px_spec kd) ∈ px_ws
theorem px_clOk_ok {q : Nat × Nat × Nat × List Nat} (h : px_clOk q = true) : px_CallOk (px_on (q.1 / 1000)) (q.1 % 1000) q.2.1 q.2.2.1 := by
  obtain ⟨key, kd, j, pls⟩ := q
  unfold px_clOk at h
  dsimp only at h ⊢
  split at h
  · rename_i a b
    simp only [Bool.and_eq_true, decide_eq_true_eq] at h
    exact ⟨px_mem h.1.1.1, px_mem h.1.1.2, h.1.2, h.2⟩
  · simp only [Bool.and_eq_true, decide_eq_true_eq] at h
    exact ⟨px_mem h.1.1.1.1, px_mem h.1.1.1.2, px_mem h.1.1.2, h.1.2, h.2⟩
  · simp only [Bool.and_eq_true, decide_eq_true_eq] at h
    exact ⟨px_mem h.1.1.1.1.1, px_mem h.1.1.1.1.2, h.1.1.1.2, h.1.1.2, h.1.2, h.2⟩
  · simp only [Bool.and_eq_true, decide_eq_true_eq] at h
    exact ⟨⟨_, List.mem_of_getElem? h.1.1.1⟩, px_mem h.1.1.2, h.1.2, h.2⟩
  · simp only [Bool.and_eq_true, decide_eq_true_eq] at h
    obtain ⟨⟨h1, h2⟩, h3⟩ := h
    match kd, h1, h2, h3 with
    | 4, _, _, h3 => exact ⟨by decide, by decide, px_mem h3⟩
    | 5, _, _, h3 => exact ⟨by decide, by decide, px_mem h3⟩
    | 6, _, _, h3 => exact ⟨by decide, by decide, px_mem h3⟩
    | 7, _, _, h3 => exact ⟨by decide, by decide, px_mem h3⟩
    | 8, _, _, h3 => exact ⟨by decide, by decide, px_mem h3⟩
    | 9, _, _, h3 => exact ⟨by decide, by decide, px_mem h3⟩
    | n + 10, _, h2, _ => omega
  · cases h
theorem px_call_ok {k idx kd j : Nat} (h : px_call k idx = some (kd, j)) : px_CallOk (px_on (px_m k).2.2.1) idx kd j := by
  unfold px_call at h
  have hq := px_clOk_ok (px_all_get px_clT (px_key k idx) px_clT_ok)
  generalize px_clT.get (px_key k idx) = q at h hq
  dsimp only at h
  cases hb : (Nat.beq q.1 (px_key k idx) && Nat.blt idx 1000) with
  | false => rw [hb] at h; cases h
  | true =>
    rw [hb] at h
    cases h
    obtain ⟨h1, h2⟩ := px_hit hb
    obtain ⟨d1, d2⟩ := px_key_dm (k := k) h2
    rw [h1, d1, d2] at hq
    exact hq
theorem px_fetch_ok {k pc len : Nat} {ins : Instr} (h : px_fetch k pc = some (ins, len)) : decode (px_m k).2.2.2.1 pc = .ok (ins, len) ∧ px_lenOk ins len = true := by
  have h1 := px_all_get _ pc (px_all_get px_mT k px_mT_code)
  have h2 := px_all_get _ pc (px_all_get px_mT k px_mT_len)
  unfold px_fetch at h
  change px_rowOk (px_m k).2.2.2.1 ((px_codes k).get pc) = true at h1
  change px_rowLen ((px_codes k).get pc) = true at h2
  generalize (px_codes k).get pc = q at h h1 h2
  dsimp only at h
  cases hb : Nat.beq q.1 pc with
  | false => rw [hb] at h; cases h
  | true =>
    rw [hb] at h
    have e := px_beqT hb
    obtain ⟨a, b, c⟩ := q
    cases h
    subst e
    exact ⟨of_decide_eq_true h1, h2⟩
