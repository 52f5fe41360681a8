/-! decode, read off the bytes as they lie -/
section PXW
variable {c : ByteArray} {p : Nat} {α β : Type} {l : List UInt8} {n o k : Nat} {v : Int}
theorem qy_rb {x : Jvm.ClassFile.Decoder α} {f : α → Jvm.ClassFile.Decoder β} {a : α} {p' : Nat} (h : x c p = .ok (a, p')) : (x >>= f) c p = f a c p' := by
  show Except.bind (x c p) _ = _
  rw [h]
  rfl
theorem qy_rm {x : Jvm.ClassFile.Decoder α} {f : α → β} {a : α} {p' : Nat} (h : x c p = .ok (a, p')) : (f <$> x) c p = .ok (f a, p') := by
  show Except.bind (x c p) _ = _
  rw [h]
  rfl
theorem qy_u1 {a : UInt8} (h : c.data.toList[p]? = some a) : (Jvm.ClassFile.Reader.u1 : Jvm.ClassFile.Decoder Nat) c p = .ok (a.toNat, p + 1) := by
  obtain ⟨hp, e⟩ := List.getElem?_eq_some_iff.mp h
  have hp' : p < c.size := hp
  have e' : c[p] = a := e
  show (dite (p < c.size) (fun h => _) (fun h => _) : Jvm.ClassFile.Decoder Nat) c p = _
  rw [dif_pos hp', e']
  rfl
theorem qy_at (hl : c.data.toList.drop p = l) (i : Nat) : c.data.toList[p + i]? = l[i]? := by rw [← hl, List.getElem?_drop]
theorem qy_dc {ins : Instr} (h : Jvm.ClassFile.Decoder.instr p c p = .ok (ins, p + n)) : decode c p = .ok (ins, n) := by
  show Except.bind (Jvm.ClassFile.Decoder.instr p c p) _ = _
  rw [h]
  show Except.ok (ins, p + n - p) = _
  rw [Nat.add_sub_cancel_left]
def qy_t0 (l : List UInt8) (n o : Nat) : Bool := match l with
  | x :: _ => Nat.beq n 1 && Nat.beq x.toNat o
  | _ => false
def qy_t1 (l : List UInt8) (n o v : Nat) : Bool := match l with
  | x :: a :: _ => Nat.beq n 2 && (Nat.beq x.toNat o && Nat.beq a.toNat v)
  | _ => false
def qy_t2 (l : List UInt8) (n o v : Nat) : Bool := match l with
  | x :: a :: b :: _ => Nat.beq n 3 && (Nat.beq x.toNat o && Nat.beq (a.toNat * 256 + b.toNat) v)
  | _ => false
def qy_y1 (l : List UInt8) (n o : Nat) (v : Int) : Bool := match l with
  | x :: a :: _ => Nat.beq n 2 && (Nat.beq x.toNat o && decide (Jvm.ClassFile.Reader.signed 8 a.toNat = v))
  | _ => false
def qy_y2 (l : List UInt8) (n o : Nat) (v : Int) : Bool := match l with
  | x :: a :: b :: _ => Nat.beq n 3 && (Nat.beq x.toNat o && decide (Jvm.ClassFile.Reader.signed 16 (a.toNat * 256 + b.toNat) = v))
  | _ => false
def qy_yi (l : List UInt8) (n o k : Nat) (v : Int) : Bool := match l with
  | x :: a :: b :: _ => Nat.beq n 3 && (Nat.beq x.toNat o && (Nat.beq a.toNat k && decide (Jvm.ClassFile.Reader.signed 8 b.toNat = v)))
  | _ => false
theorem qy_t0s (h : qy_t0 l n o = true) (hl : c.data.toList.drop p = l) : n = 1 ∧ (Jvm.ClassFile.Reader.u1 : Jvm.ClassFile.Decoder Nat) c p = .ok (o, p + 1) := by
  cases l with
  | nil => cases h
  | cons x t =>
    have h : (Nat.beq n 1 && Nat.beq x.toNat o) = true := h
    rw [Bool.and_eq_true] at h
    exact ⟨Nat.eq_of_beq_eq_true h.1, by rw [← Nat.eq_of_beq_eq_true h.2]; exact qy_u1 (qy_at hl 0)⟩
theorem qy_t1s (h : qy_t1 l n o k = true) (hl : c.data.toList.drop p = l) : n = 2 ∧ (Jvm.ClassFile.Reader.u1 : Jvm.ClassFile.Decoder Nat) c p = .ok (o, p + 1) ∧ (Jvm.ClassFile.Reader.u1 : Jvm.ClassFile.Decoder Nat) c (p + 1) = .ok (k, p + 2) := by
  cases l with
  | nil => cases h
  | cons x t =>
    cases t with
    | nil => cases h
    | cons a t =>
      have h : (Nat.beq n 2 && (Nat.beq x.toNat o && Nat.beq a.toNat k)) = true := h
      rw [Bool.and_eq_true, Bool.and_eq_true] at h
      exact ⟨Nat.eq_of_beq_eq_true h.1, by rw [← Nat.eq_of_beq_eq_true h.2.1]; exact qy_u1 (qy_at hl 0), by rw [← Nat.eq_of_beq_eq_true h.2.2]; exact qy_u1 (qy_at hl 1)⟩
theorem qy_u2 {a b : UInt8} (h1 : c.data.toList[p]? = some a) (h2 : c.data.toList[p + 1]? = some b) : (Jvm.ClassFile.Reader.u2 : Jvm.ClassFile.Decoder Nat) c p = .ok (a.toNat * 256 + b.toNat, p + 2) :=
  (qy_rb (qy_u1 h1)).trans ((qy_rb (qy_u1 h2)).trans rfl)
theorem qy_t2s (h : qy_t2 l n o k = true) (hl : c.data.toList.drop p = l) : n = 3 ∧ (Jvm.ClassFile.Reader.u1 : Jvm.ClassFile.Decoder Nat) c p = .ok (o, p + 1) ∧ (Jvm.ClassFile.Reader.u2 : Jvm.ClassFile.Decoder Nat) c (p + 1) = .ok (k, p + 3) := by
  cases l with
  | nil => cases h
  | cons x t =>
    cases t with
    | nil => cases h
    | cons a t =>
      cases t with
      | nil => cases h
      | cons b t =>
        have h : (Nat.beq n 3 && (Nat.beq x.toNat o && Nat.beq (a.toNat * 256 + b.toNat) k)) = true := h
        rw [Bool.and_eq_true, Bool.and_eq_true] at h
        exact ⟨Nat.eq_of_beq_eq_true h.1, by rw [← Nat.eq_of_beq_eq_true h.2.1]; exact qy_u1 (qy_at hl 0), by rw [← Nat.eq_of_beq_eq_true h.2.2]; exact qy_u2 (qy_at hl 1) (qy_at hl 2)⟩
theorem qy_y1s (h : qy_y1 l n o v = true) (hl : c.data.toList.drop p = l) : n = 2 ∧ (Jvm.ClassFile.Reader.u1 : Jvm.ClassFile.Decoder Nat) c p = .ok (o, p + 1) ∧ (Jvm.ClassFile.Reader.s1 : Jvm.ClassFile.Decoder Int) c (p + 1) = .ok (v, p + 2) := by
  cases l with
  | nil => cases h
  | cons x t =>
    cases t with
    | nil => cases h
    | cons a t =>
      have h : (Nat.beq n 2 && (Nat.beq x.toNat o && decide (Jvm.ClassFile.Reader.signed 8 a.toNat = v))) = true := h
      rw [Bool.and_eq_true, Bool.and_eq_true] at h
      exact ⟨Nat.eq_of_beq_eq_true h.1, by rw [← Nat.eq_of_beq_eq_true h.2.1]; exact qy_u1 (qy_at hl 0), by rw [← of_decide_eq_true h.2.2]; exact qy_rm (qy_u1 (qy_at hl 1))⟩
theorem qy_y2s (h : qy_y2 l n o v = true) (hl : c.data.toList.drop p = l) : n = 3 ∧ (Jvm.ClassFile.Reader.u1 : Jvm.ClassFile.Decoder Nat) c p = .ok (o, p + 1) ∧ (Jvm.ClassFile.Reader.s2 : Jvm.ClassFile.Decoder Int) c (p + 1) = .ok (v, p + 3) := by
  cases l with
  | nil => cases h
  | cons x t =>
    cases t with
    | nil => cases h
    | cons a t =>
      cases t with
      | nil => cases h
      | cons b t =>
        have h : (Nat.beq n 3 && (Nat.beq x.toNat o && decide (Jvm.ClassFile.Reader.signed 16 (a.toNat * 256 + b.toNat) = v))) = true := h
        rw [Bool.and_eq_true, Bool.and_eq_true] at h
        exact ⟨Nat.eq_of_beq_eq_true h.1, by rw [← Nat.eq_of_beq_eq_true h.2.1]; exact qy_u1 (qy_at hl 0), by rw [← of_decide_eq_true h.2.2]; exact qy_rm (qy_u2 (qy_at hl 1) (qy_at hl 2))⟩
theorem qy_yis (h : qy_yi l n o k v = true) (hl : c.data.toList.drop p = l) : n = 3 ∧ (Jvm.ClassFile.Reader.u1 : Jvm.ClassFile.Decoder Nat) c p = .ok (o, p + 1) ∧ (Jvm.ClassFile.Reader.u1 : Jvm.ClassFile.Decoder Nat) c (p + 1) = .ok (k, p + 2) ∧ (Jvm.ClassFile.Reader.s1 : Jvm.ClassFile.Decoder Int) c (p + 2) = .ok (v, p + 3) := by
  cases l with
  | nil => cases h
  | cons x t =>
    cases t with
    | nil => cases h
    | cons a t =>
      cases t with
      | nil => cases h
      | cons b t =>
        have h : (Nat.beq n 3 && (Nat.beq x.toNat o && (Nat.beq a.toNat k && decide (Jvm.ClassFile.Reader.signed 8 b.toNat = v)))) = true := h
        rw [Bool.and_eq_true, Bool.and_eq_true, Bool.and_eq_true] at h
        exact ⟨Nat.eq_of_beq_eq_true h.1, by rw [← Nat.eq_of_beq_eq_true h.2.1]; exact qy_u1 (qy_at hl 0), by rw [← Nat.eq_of_beq_eq_true h.2.2.1]; exact qy_u1 (qy_at hl 1), by rw [← of_decide_eq_true h.2.2.2]; exact qy_rm (qy_u1 (qy_at hl 2))⟩
def qy_cd : Jvm.ClassFile.Cond → Nat
  | .eq => 0
  | .ne => 1
  | .lt => 2
  | .ge => 3
  | .gt => 4
  | .le => 5
/-- one row against the bytes from its place on -/
def qy_st (ins : Instr) (n : Nat) (l : List UInt8) : Bool := match ins with
  | .aload_n k => qy_t0 l n (42 + k.val)
  | .iload_n k => qy_t0 l n (26 + k.val)
  | .istore_n k => qy_t0 l n (59 + k.val)
  | .lload_n k => qy_t0 l n (30 + k.val)
  | .iconst v => qy_t0 l n (3 + v).toNat && (decide (-1 ≤ v) && decide (v ≤ 5))
  | .getfield k => qy_t2 l n 180 k
  | .putfield k => qy_t2 l n 181 k
  | .invokevirtual k => qy_t2 l n 182 k
  | .invokestatic k => qy_t2 l n 184 k
  | .bipush v => qy_y1 l n 16 v
  | .sipush v => qy_y2 l n 17 v
  | .goto v => qy_y2 l n 167 v
  | .if_icmp d v => qy_y2 l n (159 + qy_cd d) v
  | .ifCond d v => qy_y2 l n (153 + qy_cd d) v
  | .iload k => qy_t1 l n 21 k
  | .istore k => qy_t1 l n 54 k
  | .lload k => qy_t1 l n 22 k
  | .iinc k v => qy_yi l n 132 k v
  | .iaload => qy_t0 l n 46
  | .iastore => qy_t0 l n 79
  | .iadd => qy_t0 l n 96
  | .isub => qy_t0 l n 100
  | .imul => qy_t0 l n 104
  | .ireturn => qy_t0 l n 172
  | .return_ => qy_t0 l n 177
  | .pop => qy_t0 l n 87
  | .dup => qy_t0 l n 89
  | _ => false
abbrev qy_U1 (c : ByteArray) (p o : Nat) : Prop := (Jvm.ClassFile.Reader.u1 : Jvm.ClassFile.Decoder Nat) c p = .ok (o, p + 1)
theorem qy_f4 {P : Fin 4 → Prop} (h0 : P 0) (h1 : P 1) (h2 : P 2) (h3 : P 3) : ∀ k : Fin 4, P k
  | ⟨0, _⟩ => h0
  | ⟨1, _⟩ => h1
  | ⟨2, _⟩ => h2
  | ⟨3, _⟩ => h3
  | ⟨n + 4, h⟩ => absurd h (by omega)
theorem qy_sts {ins : Instr} (h : qy_st ins n l = true) (hl : c.data.toList.drop p = l) : decode c p = .ok (ins, n) := by
  unfold qy_st at h
  split at h
  · rename_i k
    obtain ⟨rfl, e⟩ := qy_t0s h hl
    clear h
    revert k
    exact qy_f4 (fun (e : qy_U1 c p 42) => qy_dc ((qy_rb e).trans rfl)) (fun (e : qy_U1 c p 43) => qy_dc ((qy_rb e).trans rfl)) (fun (e : qy_U1 c p 44) => qy_dc ((qy_rb e).trans rfl)) (fun (e : qy_U1 c p 45) => qy_dc ((qy_rb e).trans rfl))
  · rename_i k
    obtain ⟨rfl, e⟩ := qy_t0s h hl
    clear h
    revert k
    exact qy_f4 (fun (e : qy_U1 c p 26) => qy_dc ((qy_rb e).trans rfl)) (fun (e : qy_U1 c p 27) => qy_dc ((qy_rb e).trans rfl)) (fun (e : qy_U1 c p 28) => qy_dc ((qy_rb e).trans rfl)) (fun (e : qy_U1 c p 29) => qy_dc ((qy_rb e).trans rfl))
  · rename_i k
    obtain ⟨rfl, e⟩ := qy_t0s h hl
    clear h
    revert k
    exact qy_f4 (fun (e : qy_U1 c p 59) => qy_dc ((qy_rb e).trans rfl)) (fun (e : qy_U1 c p 60) => qy_dc ((qy_rb e).trans rfl)) (fun (e : qy_U1 c p 61) => qy_dc ((qy_rb e).trans rfl)) (fun (e : qy_U1 c p 62) => qy_dc ((qy_rb e).trans rfl))
  · rename_i k
    obtain ⟨rfl, e⟩ := qy_t0s h hl
    clear h
    revert k
    exact qy_f4 (fun (e : qy_U1 c p 30) => qy_dc ((qy_rb e).trans rfl)) (fun (e : qy_U1 c p 31) => qy_dc ((qy_rb e).trans rfl)) (fun (e : qy_U1 c p 32) => qy_dc ((qy_rb e).trans rfl)) (fun (e : qy_U1 c p 33) => qy_dc ((qy_rb e).trans rfl))
  · rename_i w
    rw [Bool.and_eq_true, Bool.and_eq_true] at h
    obtain ⟨h1, h2, h3⟩ := h
    have h2 := of_decide_eq_true h2
    have h3 := of_decide_eq_true h3
    obtain ⟨rfl, e⟩ := qy_t0s h1 hl
    clear h1
    rcases (show w = -1 ∨ w = 0 ∨ w = 1 ∨ w = 2 ∨ w = 3 ∨ w = 4 ∨ w = 5 by omega) with q | q | q | q | q | q | q
    · subst q; have e : qy_U1 c p 2 := e; exact qy_dc ((qy_rb e).trans rfl)
    · subst q; have e : qy_U1 c p 3 := e; exact qy_dc ((qy_rb e).trans rfl)
    · subst q; have e : qy_U1 c p 4 := e; exact qy_dc ((qy_rb e).trans rfl)
    · subst q; have e : qy_U1 c p 5 := e; exact qy_dc ((qy_rb e).trans rfl)
    · subst q; have e : qy_U1 c p 6 := e; exact qy_dc ((qy_rb e).trans rfl)
    · subst q; have e : qy_U1 c p 7 := e; exact qy_dc ((qy_rb e).trans rfl)
    · subst q; have e : qy_U1 c p 8 := e; exact qy_dc ((qy_rb e).trans rfl)
  · obtain ⟨rfl, e, e2⟩ := qy_t2s h hl; exact qy_dc ((qy_rb e).trans ((qy_rb e2).trans rfl))
  · obtain ⟨rfl, e, e2⟩ := qy_t2s h hl; exact qy_dc ((qy_rb e).trans ((qy_rb e2).trans rfl))
  · obtain ⟨rfl, e, e2⟩ := qy_t2s h hl; exact qy_dc ((qy_rb e).trans ((qy_rb e2).trans rfl))
  · obtain ⟨rfl, e, e2⟩ := qy_t2s h hl; exact qy_dc ((qy_rb e).trans ((qy_rb e2).trans rfl))
  · obtain ⟨rfl, e, e2⟩ := qy_y1s h hl; exact qy_dc ((qy_rb e).trans ((qy_rb e2).trans rfl))
  · obtain ⟨rfl, e, e2⟩ := qy_y2s h hl; exact qy_dc ((qy_rb e).trans ((qy_rb e2).trans rfl))
  · obtain ⟨rfl, e, e2⟩ := qy_y2s h hl; exact qy_dc ((qy_rb e).trans ((qy_rb e2).trans rfl))
  · rename_i d w
    obtain ⟨rfl, e, e2⟩ := qy_y2s h hl
    clear h
    cases d
    · have e : qy_U1 c p 159 := e; exact qy_dc ((qy_rb e).trans ((qy_rb e2).trans rfl))
    · have e : qy_U1 c p 160 := e; exact qy_dc ((qy_rb e).trans ((qy_rb e2).trans rfl))
    · have e : qy_U1 c p 161 := e; exact qy_dc ((qy_rb e).trans ((qy_rb e2).trans rfl))
    · have e : qy_U1 c p 162 := e; exact qy_dc ((qy_rb e).trans ((qy_rb e2).trans rfl))
    · have e : qy_U1 c p 163 := e; exact qy_dc ((qy_rb e).trans ((qy_rb e2).trans rfl))
    · have e : qy_U1 c p 164 := e; exact qy_dc ((qy_rb e).trans ((qy_rb e2).trans rfl))
  · rename_i d w
    obtain ⟨rfl, e, e2⟩ := qy_y2s h hl
    clear h
    cases d
    · have e : qy_U1 c p 153 := e; exact qy_dc ((qy_rb e).trans ((qy_rb e2).trans rfl))
    · have e : qy_U1 c p 154 := e; exact qy_dc ((qy_rb e).trans ((qy_rb e2).trans rfl))
    · have e : qy_U1 c p 155 := e; exact qy_dc ((qy_rb e).trans ((qy_rb e2).trans rfl))
    · have e : qy_U1 c p 156 := e; exact qy_dc ((qy_rb e).trans ((qy_rb e2).trans rfl))
    · have e : qy_U1 c p 157 := e; exact qy_dc ((qy_rb e).trans ((qy_rb e2).trans rfl))
    · have e : qy_U1 c p 158 := e; exact qy_dc ((qy_rb e).trans ((qy_rb e2).trans rfl))
  · obtain ⟨rfl, e, e2⟩ := qy_t1s h hl; exact qy_dc ((qy_rb e).trans ((qy_rb e2).trans rfl))
  · obtain ⟨rfl, e, e2⟩ := qy_t1s h hl; exact qy_dc ((qy_rb e).trans ((qy_rb e2).trans rfl))
  · obtain ⟨rfl, e, e2⟩ := qy_t1s h hl; exact qy_dc ((qy_rb e).trans ((qy_rb e2).trans rfl))
  · obtain ⟨rfl, e, e2, e3⟩ := qy_yis h hl; exact qy_dc ((qy_rb e).trans ((qy_rb e2).trans ((qy_rb e3).trans rfl)))
  · obtain ⟨rfl, e⟩ := qy_t0s h hl; exact qy_dc ((qy_rb e).trans rfl)
  · obtain ⟨rfl, e⟩ := qy_t0s h hl; exact qy_dc ((qy_rb e).trans rfl)
  · obtain ⟨rfl, e⟩ := qy_t0s h hl; exact qy_dc ((qy_rb e).trans rfl)
  · obtain ⟨rfl, e⟩ := qy_t0s h hl; exact qy_dc ((qy_rb e).trans rfl)
  · obtain ⟨rfl, e⟩ := qy_t0s h hl; exact qy_dc ((qy_rb e).trans rfl)
  · obtain ⟨rfl, e⟩ := qy_t0s h hl; exact qy_dc ((qy_rb e).trans rfl)
  · obtain ⟨rfl, e⟩ := qy_t0s h hl; exact qy_dc ((qy_rb e).trans rfl)
  · obtain ⟨rfl, e⟩ := qy_t0s h hl; exact qy_dc ((qy_rb e).trans rfl)
  · obtain ⟨rfl, e⟩ := qy_t0s h hl; exact qy_dc ((qy_rb e).trans rfl)
  · cases h
/-- all rows, the bytes walked once -/
def qy_wk (c : ByteArray) : List px_Row → Nat → List UInt8 → Bool
  | [], _, _ => true
  | q :: r, p, l => (qy_st q.2.1 q.2.2 (l.drop (q.1 - p)) || px_rowOk c q) && (Nat.ble p q.1 && qy_wk c r q.1 (l.drop (q.1 - p)))
theorem qy_wks : ∀ (rs : List px_Row) (p : Nat) (l : List UInt8), c.data.toList.drop p = l → qy_wk c rs p l = true → ∀ q ∈ rs, px_rowOk c q = true := by
  intro rs
  induction rs with
  | nil => intro p l _ _ q hq; cases hq
  | cons q r ih =>
    intro p l hl h q' hq'
    have h : ((qy_st q.2.1 q.2.2 (l.drop (q.1 - p)) || px_rowOk c q) && (Nat.ble p q.1 && qy_wk c r q.1 (l.drop (q.1 - p)))) = true := h
    rw [Bool.and_eq_true, Bool.and_eq_true] at h
    obtain ⟨h1, h2, h3⟩ := h
    have h2 := Nat.le_of_ble_eq_true h2
    have hd : c.data.toList.drop q.1 = l.drop (q.1 - p) := by
      rw [← hl, List.drop_drop]
      congr 1
      omega
    rcases List.mem_cons.mp hq' with e | e
    · rw [e]
      rw [Bool.or_eq_true] at h1
      rcases h1 with g | g
      · exact decide_eq_true (qy_sts g hd)
      · exact g
    · exact ih q.1 _ hd h3 q' e
def qy_fl {α : Type} : Lean.RArray α → List α → List α
  | .leaf a, r => a :: r
  | .branch _ x y, r => qy_fl x (qy_fl y r)
theorem qy_fls {P : α → Bool} : ∀ (t : Lean.RArray α) (r : List α), (∀ q ∈ qy_fl t r, P q = true) → px_all P t = true ∧ ∀ q ∈ r, P q = true
  | .leaf a, r, h => ⟨h a (List.mem_cons.mpr (Or.inl rfl)), fun q hq => h q (List.mem_cons.mpr (Or.inr hq))⟩
  | .branch k x y, r, h => by
    obtain ⟨h1, h2⟩ := qy_fls x (qy_fl y r) h
    obtain ⟨h3, h4⟩ := qy_fls y r h2
    exact ⟨px_allB h1 h3, h4⟩
theorem qy_ok {t : Lean.RArray px_Row} (h : qy_wk c (qy_fl t []) 0 c.data.toList = true) : px_all (px_rowOk c) t = true := (qy_fls t [] (qy_wks _ 0 _ rfl h)).1
end PXW
set_option maxRecDepth 100000 in
theorem px_c0_ok : px_all (px_rowOk prog_1_method_1_code) px_c0 = true := qy_ok (by decide +kernel)
set_option maxRecDepth 100000 in
theorem px_c1_ok : px_all (px_rowOk prog_4_method_1_code) px_c1 = true := qy_ok (by decide +kernel)
set_option maxRecDepth 100000 in
theorem px_c2_ok : px_all (px_rowOk prog_4_method_12_code) px_c2 = true := qy_ok (by decide +kernel)
set_option maxRecDepth 100000 in
theorem px_c3_ok : px_all (px_rowOk prog_21_method_103_code) px_c3 = true := qy_ok (by decide +kernel)
set_option maxRecDepth 100000 in
theorem px_c4_ok : px_all (px_rowOk prog_10_method_1_code) px_c4 = true := qy_ok (by decide +kernel)
set_option maxRecDepth 100000 in
theorem px_c5_ok : px_all (px_rowOk prog_11_method_1_code) px_c5 = true := qy_ok (by decide +kernel)
set_option maxRecDepth 100000 in
theorem px_c6_ok : px_all (px_rowOk prog_7_method_1_code) px_c6 = true := qy_ok (by decide +kernel)
set_option maxRecDepth 100000 in
theorem px_c7_ok : px_all (px_rowOk prog_8_method_1_code) px_c7 = true := qy_ok (by decide +kernel)
set_option maxRecDepth 100000 in
theorem px_c8_ok : px_all (px_rowOk prog_9_method_1_code) px_c8 = true := qy_ok (by decide +kernel)
set_option maxRecDepth 100000 in
theorem px_c9_ok : px_all (px_rowOk prog_5_method_1_code) px_c9 = true := qy_ok (by decide +kernel)
set_option maxRecDepth 100000 in
theorem px_c10_ok : px_all (px_rowOk prog_6_method_1_code) px_c10 = true := qy_ok (by decide +kernel)
set_option maxRecDepth 100000 in
theorem px_c11_ok : px_all (px_rowOk prog_12_method_1_code) px_c11 = true := qy_ok (by decide +kernel)
set_option maxRecDepth 100000 in
theorem px_c12_ok : px_all (px_rowOk prog_2_method_1_code) px_c12 = true := qy_ok (by decide +kernel)
set_option maxRecDepth 100000 in
theorem px_c13_ok : px_all (px_rowOk prog_3_method_1_code) px_c13 = true := qy_ok (by decide +kernel)
set_option maxRecDepth 100000 in
theorem px_c14_ok : px_all (px_rowOk prog_1_method_2_code) px_c14 = true := qy_ok (by decide +kernel)
set_option maxRecDepth 100000 in
theorem px_c15_ok : px_all (px_rowOk prog_1_method_43_code) px_c15 = true := qy_ok (by decide +kernel)
set_option maxRecDepth 100000 in
theorem px_c16_ok : px_all (px_rowOk prog_4_method_6_code) px_c16 = true := qy_ok (by decide +kernel)
set_option maxRecDepth 100000 in
theorem px_c17_ok : px_all (px_rowOk prog_1_method_3_code) px_c17 = true := qy_ok (by decide +kernel)
set_option maxRecDepth 100000 in
theorem px_c18_ok : px_all (px_rowOk prog_4_method_2_code) px_c18 = true := qy_ok (by decide +kernel)
set_option maxRecDepth 100000 in
theorem px_c19_ok : px_all (px_rowOk prog_4_method_7_code) px_c19 = true := qy_ok (by decide +kernel)
set_option maxRecDepth 100000 in
theorem px_c20_ok : px_all (px_rowOk prog_4_method_10_code) px_c20 = true := qy_ok (by decide +kernel)
set_option maxRecDepth 100000 in
theorem px_c21_ok : px_all (px_rowOk prog_4_method_11_code) px_c21 = true := qy_ok (by decide +kernel)
set_option maxRecDepth 100000 in
theorem px_c22_ok : px_all (px_rowOk prog_4_method_13_code) px_c22 = true := qy_ok (by decide +kernel)
set_option maxRecDepth 100000 in
theorem px_c23_ok : px_all (px_rowOk prog_1_method_4_code) px_c23 = true := qy_ok (by decide +kernel)
set_option maxRecDepth 100000 in
theorem px_c24_ok : px_all (px_rowOk prog_4_method_8_code) px_c24 = true := qy_ok (by decide +kernel)
set_option maxRecDepth 100000 in
theorem px_c25_ok : px_all (px_rowOk prog_1_method_5_code) px_c25 = true := qy_ok (by decide +kernel)
set_option maxRecDepth 100000 in
theorem px_c26_ok : px_all (px_rowOk prog_8_method_2_code) px_c26 = true := qy_ok (by decide +kernel)
set_option maxRecDepth 100000 in
theorem px_c27_ok : px_all (px_rowOk prog_1_method_6_code) px_c27 = true := qy_ok (by decide +kernel)
set_option maxRecDepth 100000 in
theorem px_c28_ok : px_all (px_rowOk prog_1_method_7_code) px_c28 = true := qy_ok (by decide +kernel)
set_option maxRecDepth 100000 in
theorem px_c29_ok : px_all (px_rowOk prog_8_method_3_code) px_c29 = true := qy_ok (by decide +kernel)
set_option maxRecDepth 100000 in
theorem px_c30_ok : px_all (px_rowOk prog_9_method_2_code) px_c30 = true := qy_ok (by decide +kernel)
set_option maxRecDepth 100000 in
theorem px_c31_ok : px_all (px_rowOk prog_8_method_20_code) px_c31 = true := qy_ok (by decide +kernel)
set_option maxRecDepth 100000 in
theorem px_c32_ok : px_all (px_rowOk prog_8_method_21_code) px_c32 = true := qy_ok (by decide +kernel)
set_option maxRecDepth 100000 in
theorem px_c33_ok : px_all (px_rowOk prog_8_method_23_code) px_c33 = true := qy_ok (by decide +kernel)
set_option maxRecDepth 100000 in
theorem px_c34_ok : px_all (px_rowOk prog_8_method_22_code) px_c34 = true := qy_ok (by decide +kernel)
set_option maxRecDepth 100000 in
theorem px_c35_ok : px_all (px_rowOk prog_8_method_24_code) px_c35 = true := qy_ok (by decide +kernel)
set_option maxRecDepth 100000 in
theorem px_c36_ok : px_all (px_rowOk prog_8_method_25_code) px_c36 = true := qy_ok (by decide +kernel)
set_option maxRecDepth 100000 in
theorem px_c37_ok : px_all (px_rowOk prog_8_method_26_code) px_c37 = true := qy_ok (by decide +kernel)
set_option maxRecDepth 100000 in
theorem px_c38_ok : px_all (px_rowOk prog_8_method_7_code) px_c38 = true := qy_ok (by decide +kernel)
set_option maxRecDepth 100000 in
theorem px_c39_ok : px_all (px_rowOk prog_8_method_4_code) px_c39 = true := qy_ok (by decide +kernel)
set_option maxRecDepth 100000 in
theorem px_c40_ok : px_all (px_rowOk prog_9_method_3_code) px_c40 = true := qy_ok (by decide +kernel)
set_option maxRecDepth 100000 in
theorem px_c41_ok : px_all (px_rowOk prog_8_method_9_code) px_c41 = true := qy_ok (by decide +kernel)
set_option maxRecDepth 100000 in
theorem px_c42_ok : px_all (px_rowOk prog_8_method_10_code) px_c42 = true := qy_ok (by decide +kernel)
set_option maxRecDepth 100000 in
theorem px_c43_ok : px_all (px_rowOk prog_8_method_11_code) px_c43 = true := qy_ok (by decide +kernel)
set_option maxRecDepth 100000 in
theorem px_c44_ok : px_all (px_rowOk prog_8_method_6_code) px_c44 = true := qy_ok (by decide +kernel)
set_option maxRecDepth 100000 in
theorem px_c45_ok : px_all (px_rowOk prog_9_method_4_code) px_c45 = true := qy_ok (by decide +kernel)
set_option maxRecDepth 100000 in
theorem px_c46_ok : px_all (px_rowOk prog_8_method_13_code) px_c46 = true := qy_ok (by decide +kernel)
set_option maxRecDepth 100000 in
theorem px_c47_ok : px_all (px_rowOk prog_8_method_12_code) px_c47 = true := qy_ok (by decide +kernel)
set_option maxRecDepth 100000 in
theorem px_c48_ok : px_all (px_rowOk prog_8_method_5_code) px_c48 = true := qy_ok (by decide +kernel)
set_option maxRecDepth 100000 in
theorem px_c49_ok : px_all (px_rowOk prog_8_method_15_code) px_c49 = true := qy_ok (by decide +kernel)
set_option maxRecDepth 100000 in
theorem px_c50_ok : px_all (px_rowOk prog_8_method_17_code) px_c50 = true := qy_ok (by decide +kernel)
set_option maxRecDepth 100000 in
theorem px_c51_ok : px_all (px_rowOk prog_8_method_18_code) px_c51 = true := qy_ok (by decide +kernel)
set_option maxRecDepth 100000 in
theorem px_c52_ok : px_all (px_rowOk prog_8_method_19_code) px_c52 = true := qy_ok (by decide +kernel)
set_option maxRecDepth 100000 in
theorem px_c53_ok : px_all (px_rowOk prog_9_method_5_code) px_c53 = true := qy_ok (by decide +kernel)
set_option maxRecDepth 100000 in
theorem px_c54_ok : px_all (px_rowOk prog_8_method_16_code) px_c54 = true := qy_ok (by decide +kernel)
set_option maxRecDepth 100000 in
theorem px_c55_ok : px_all (px_rowOk prog_1_method_44_code) px_c55 = true := qy_ok (by decide +kernel)
set_option maxRecDepth 100000 in
theorem px_c56_ok : px_all (px_rowOk prog_8_method_14_code) px_c56 = true := qy_ok (by decide +kernel)
set_option maxRecDepth 100000 in
theorem px_c57_ok : px_all (px_rowOk prog_9_method_6_code) px_c57 = true := qy_ok (by decide +kernel)
set_option maxRecDepth 100000 in
theorem px_c58_ok : px_all (px_rowOk prog_8_method_8_code) px_c58 = true := qy_ok (by decide +kernel)
set_option maxRecDepth 100000 in
theorem px_c59_ok : px_all (px_rowOk prog_1_method_8_code) px_c59 = true := qy_ok (by decide +kernel)
set_option maxRecDepth 100000 in
theorem px_c60_ok : px_all (px_rowOk prog_1_method_9_code) px_c60 = true := qy_ok (by decide +kernel)
set_option maxRecDepth 100000 in
theorem px_c61_ok : px_all (px_rowOk prog_1_method_49_code) px_c61 = true := qy_ok (by decide +kernel)
set_option maxRecDepth 100000 in
theorem px_c62_ok : px_all (px_rowOk prog_1_method_48_code) px_c62 = true := qy_ok (by decide +kernel)
set_option maxRecDepth 100000 in
theorem px_c63_ok : px_all (px_rowOk prog_1_method_10_code) px_c63 = true := qy_ok (by decide +kernel)
set_option maxRecDepth 100000 in
theorem px_c64_ok : px_all (px_rowOk prog_10_method_5_code) px_c64 = true := qy_ok (by decide +kernel)
set_option maxRecDepth 100000 in
theorem px_c65_ok : px_all (px_rowOk prog_10_method_7_code) px_c65 = true := qy_ok (by decide +kernel)
set_option maxRecDepth 100000 in
theorem px_c66_ok : px_all (px_rowOk prog_10_method_3_code) px_c66 = true := qy_ok (by decide +kernel)
set_option maxRecDepth 100000 in
theorem px_c67_ok : px_all (px_rowOk prog_11_method_2_code) px_c67 = true := qy_ok (by decide +kernel)
set_option maxRecDepth 100000 in
theorem px_c68_ok : px_all (px_rowOk prog_10_method_13_code) px_c68 = true := qy_ok (by decide +kernel)
set_option maxRecDepth 100000 in
theorem px_c69_ok : px_all (px_rowOk prog_10_method_4_code) px_c69 = true := qy_ok (by decide +kernel)
set_option maxRecDepth 100000 in
theorem px_c70_ok : px_all (px_rowOk prog_1_method_11_code) px_c70 = true := qy_ok (by decide +kernel)
set_option maxRecDepth 100000 in
theorem px_c71_ok : px_all (px_rowOk prog_1_method_50_code) px_c71 = true := qy_ok (by decide +kernel)
set_option maxRecDepth 100000 in
theorem px_c72_ok : px_all (px_rowOk prog_6_method_2_code) px_c72 = true := qy_ok (by decide +kernel)
set_option maxRecDepth 100000 in
theorem px_c73_ok : px_all (px_rowOk prog_6_method_3_code) px_c73 = true := qy_ok (by decide +kernel)
set_option maxRecDepth 100000 in
theorem px_c74_ok : px_all (px_rowOk prog_4_method_24_code) px_c74 = true := qy_ok (by decide +kernel)
set_option maxRecDepth 100000 in
theorem px_c75_ok : px_all (px_rowOk prog_4_method_16_code) px_c75 = true := qy_ok (by decide +kernel)
set_option maxRecDepth 100000 in
theorem px_c76_ok : px_all (px_rowOk prog_4_method_17_code) px_c76 = true := qy_ok (by decide +kernel)
set_option maxRecDepth 100000 in
theorem px_c77_ok : px_all (px_rowOk prog_4_method_18_code) px_c77 = true := qy_ok (by decide +kernel)
set_option maxRecDepth 100000 in
theorem px_c78_ok : px_all (px_rowOk prog_4_method_21_code) px_c78 = true := qy_ok (by decide +kernel)
set_option maxRecDepth 100000 in
theorem px_c79_ok : px_all (px_rowOk prog_4_method_3_code) px_c79 = true := qy_ok (by decide +kernel)
set_option maxRecDepth 100000 in
theorem px_c80_ok : px_all (px_rowOk prog_10_method_2_code) px_c80 = true := qy_ok (by decide +kernel)
set_option maxRecDepth 100000 in
theorem px_c81_ok : px_all (px_rowOk prog_5_method_2_code) px_c81 = true := qy_ok (by decide +kernel)
set_option maxRecDepth 100000 in
theorem px_c82_ok : px_all (px_rowOk prog_5_method_5_code) px_c82 = true := qy_ok (by decide +kernel)
set_option maxRecDepth 100000 in
theorem px_c83_ok : px_all (px_rowOk prog_5_method_6_code) px_c83 = true := qy_ok (by decide +kernel)
set_option maxRecDepth 100000 in
theorem px_c84_ok : px_all (px_rowOk prog_5_method_7_code) px_c84 = true := qy_ok (by decide +kernel)
set_option maxRecDepth 100000 in
theorem px_c85_ok : px_all (px_rowOk prog_5_method_8_code) px_c85 = true := qy_ok (by decide +kernel)
set_option maxRecDepth 100000 in
theorem px_c86_ok : px_all (px_rowOk prog_5_method_9_code) px_c86 = true := qy_ok (by decide +kernel)
set_option maxRecDepth 100000 in
theorem px_c87_ok : px_all (px_rowOk prog_5_method_10_code) px_c87 = true := qy_ok (by decide +kernel)
set_option maxRecDepth 100000 in
theorem px_c88_ok : px_all (px_rowOk prog_6_method_4_code) px_c88 = true := qy_ok (by decide +kernel)
set_option maxRecDepth 100000 in
theorem px_c89_ok : px_all (px_rowOk prog_4_method_4_code) px_c89 = true := qy_ok (by decide +kernel)
set_option maxRecDepth 100000 in
theorem px_c90_ok : px_all (px_rowOk prog_10_method_8_code) px_c90 = true := qy_ok (by decide +kernel)
set_option maxRecDepth 100000 in
theorem px_c91_ok : px_all (px_rowOk prog_5_method_3_code) px_c91 = true := qy_ok (by decide +kernel)
set_option maxRecDepth 100000 in
theorem px_c92_ok : px_all (px_rowOk prog_6_method_5_code) px_c92 = true := qy_ok (by decide +kernel)
set_option maxRecDepth 100000 in
theorem px_c93_ok : px_all (px_rowOk prog_10_method_11_code) px_c93 = true := qy_ok (by decide +kernel)
set_option maxRecDepth 100000 in
theorem px_c94_ok : px_all (px_rowOk prog_10_method_10_code) px_c94 = true := qy_ok (by decide +kernel)
set_option maxRecDepth 100000 in
theorem px_c95_ok : px_all (px_rowOk prog_6_method_6_code) px_c95 = true := qy_ok (by decide +kernel)
set_option maxRecDepth 100000 in
theorem px_c96_ok : px_all (px_rowOk prog_6_method_7_code) px_c96 = true := qy_ok (by decide +kernel)
set_option maxRecDepth 100000 in
theorem px_c97_ok : px_all (px_rowOk prog_10_method_6_code) px_c97 = true := qy_ok (by decide +kernel)
set_option maxRecDepth 100000 in
theorem px_c98_ok : px_all (px_rowOk prog_1_method_12_code) px_c98 = true := qy_ok (by decide +kernel)
set_option maxRecDepth 100000 in
theorem px_c99_ok : px_all (px_rowOk prog_4_method_5_code) px_c99 = true := qy_ok (by decide +kernel)
set_option maxRecDepth 100000 in
theorem px_c100_ok : px_all (px_rowOk prog_1_method_13_code) px_c100 = true := qy_ok (by decide +kernel)
set_option maxRecDepth 100000 in
theorem px_c101_ok : px_all (px_rowOk prog_10_method_9_code) px_c101 = true := qy_ok (by decide +kernel)
set_option maxRecDepth 100000 in
theorem px_c102_ok : px_all (px_rowOk prog_1_method_14_code) px_c102 = true := qy_ok (by decide +kernel)
set_option maxRecDepth 100000 in
theorem px_c103_ok : px_all (px_rowOk prog_1_method_15_code) px_c103 = true := qy_ok (by decide +kernel)
set_option maxRecDepth 100000 in
theorem px_c104_ok : px_all (px_rowOk prog_1_method_51_code) px_c104 = true := qy_ok (by decide +kernel)
set_option maxRecDepth 100000 in
theorem px_c105_ok : px_all (px_rowOk prog_1_method_16_code) px_c105 = true := qy_ok (by decide +kernel)
set_option maxRecDepth 100000 in
theorem px_c106_ok : px_all (px_rowOk prog_1_method_52_code) px_c106 = true := qy_ok (by decide +kernel)
set_option maxRecDepth 100000 in
theorem px_c107_ok : px_all (px_rowOk prog_1_method_17_code) px_c107 = true := qy_ok (by decide +kernel)
set_option maxRecDepth 100000 in
theorem px_c108_ok : px_all (px_rowOk prog_11_method_3_code) px_c108 = true := qy_ok (by decide +kernel)
set_option maxRecDepth 100000 in
theorem px_c109_ok : px_all (px_rowOk prog_10_method_14_code) px_c109 = true := qy_ok (by decide +kernel)
set_option maxRecDepth 100000 in
theorem px_c110_ok : px_all (px_rowOk prog_1_method_18_code) px_c110 = true := qy_ok (by decide +kernel)
set_option maxRecDepth 100000 in
theorem px_c111_ok : px_all (px_rowOk prog_1_method_19_code) px_c111 = true := qy_ok (by decide +kernel)
set_option maxRecDepth 100000 in
theorem px_c112_ok : px_all (px_rowOk prog_1_method_20_code) px_c112 = true := qy_ok (by decide +kernel)
set_option maxRecDepth 100000 in
theorem px_c113_ok : px_all (px_rowOk prog_4_method_19_code) px_c113 = true := qy_ok (by decide +kernel)
set_option maxRecDepth 100000 in
theorem px_c114_ok : px_all (px_rowOk prog_1_method_21_code) px_c114 = true := qy_ok (by decide +kernel)
set_option maxRecDepth 100000 in
theorem px_c115_ok : px_all (px_rowOk prog_1_method_22_code) px_c115 = true := qy_ok (by decide +kernel)
set_option maxRecDepth 100000 in
theorem px_c116_ok : px_all (px_rowOk prog_1_method_23_code) px_c116 = true := qy_ok (by decide +kernel)
set_option maxRecDepth 100000 in
theorem px_c117_ok : px_all (px_rowOk prog_12_method_11_code) px_c117 = true := qy_ok (by decide +kernel)
set_option maxRecDepth 100000 in
theorem px_c118_ok : px_all (px_rowOk prog_12_method_2_code) px_c118 = true := qy_ok (by decide +kernel)
set_option maxRecDepth 100000 in
theorem px_c119_ok : px_all (px_rowOk prog_21_method_101_code) px_c119 = true := qy_ok (by decide +kernel)
set_option maxRecDepth 100000 in
theorem px_c120_ok : px_all (px_rowOk prog_12_method_3_code) px_c120 = true := qy_ok (by decide +kernel)
set_option maxRecDepth 100000 in
theorem px_c121_ok : px_all (px_rowOk prog_12_method_13_code) px_c121 = true := qy_ok (by decide +kernel)
set_option maxRecDepth 100000 in
theorem px_c122_ok : px_all (px_rowOk prog_12_method_14_code) px_c122 = true := qy_ok (by decide +kernel)
set_option maxRecDepth 100000 in
theorem px_c123_ok : px_all (px_rowOk prog_12_method_4_code) px_c123 = true := qy_ok (by decide +kernel)
set_option maxRecDepth 100000 in
theorem px_c124_ok : px_all (px_rowOk prog_12_method_12_code) px_c124 = true := qy_ok (by decide +kernel)
set_option maxRecDepth 100000 in
theorem px_c125_ok : px_all (px_rowOk prog_1_method_45_code) px_c125 = true := qy_ok (by decide +kernel)
set_option maxRecDepth 100000 in
theorem px_c126_ok : px_all (px_rowOk prog_1_method_24_code) px_c126 = true := qy_ok (by decide +kernel)
set_option maxRecDepth 100000 in
theorem px_c127_ok : px_all (px_rowOk prog_12_method_5_code) px_c127 = true := qy_ok (by decide +kernel)
set_option maxRecDepth 100000 in
theorem px_c128_ok : px_all (px_rowOk prog_12_method_6_code) px_c128 = true := qy_ok (by decide +kernel)
set_option maxRecDepth 100000 in
theorem px_c129_ok : px_all (px_rowOk prog_12_method_7_code) px_c129 = true := qy_ok (by decide +kernel)
set_option maxRecDepth 100000 in
theorem px_c130_ok : px_all (px_rowOk prog_1_method_25_code) px_c130 = true := qy_ok (by decide +kernel)
set_option maxRecDepth 100000 in
theorem px_c131_ok : px_all (px_rowOk prog_12_method_8_code) px_c131 = true := qy_ok (by decide +kernel)
set_option maxRecDepth 100000 in
theorem px_c132_ok : px_all (px_rowOk prog_4_method_20_code) px_c132 = true := qy_ok (by decide +kernel)
set_option maxRecDepth 100000 in
theorem px_c133_ok : px_all (px_rowOk prog_1_method_47_code) px_c133 = true := qy_ok (by decide +kernel)
set_option maxRecDepth 100000 in
theorem px_c134_ok : px_all (px_rowOk prog_1_method_26_code) px_c134 = true := qy_ok (by decide +kernel)
set_option maxRecDepth 100000 in
theorem px_c135_ok : px_all (px_rowOk prog_4_method_23_code) px_c135 = true := qy_ok (by decide +kernel)
set_option maxRecDepth 100000 in
theorem px_c136_ok : px_all (px_rowOk prog_1_method_27_code) px_c136 = true := qy_ok (by decide +kernel)
set_option maxRecDepth 100000 in
theorem px_c137_ok : px_all (px_rowOk prog_2_method_2_code) px_c137 = true := qy_ok (by decide +kernel)
set_option maxRecDepth 100000 in
theorem px_c138_ok : px_all (px_rowOk prog_15_method_49_code) px_c138 = true := qy_ok (by decide +kernel)
set_option maxRecDepth 100000 in
theorem px_c139_ok : px_all (px_rowOk prog_2_method_4_code) px_c139 = true := qy_ok (by decide +kernel)
set_option maxRecDepth 100000 in
theorem px_c140_ok : px_all (px_rowOk prog_2_method_5_code) px_c140 = true := qy_ok (by decide +kernel)
set_option maxRecDepth 100000 in
theorem px_c141_ok : px_all (px_rowOk prog_2_method_3_code) px_c141 = true := qy_ok (by decide +kernel)
set_option maxRecDepth 100000 in
theorem px_c142_ok : px_all (px_rowOk prog_1_method_28_code) px_c142 = true := qy_ok (by decide +kernel)
set_option maxRecDepth 100000 in
theorem px_c143_ok : px_all (px_rowOk prog_12_method_9_code) px_c143 = true := qy_ok (by decide +kernel)
set_option maxRecDepth 100000 in
theorem px_c144_ok : px_all (px_rowOk prog_12_method_10_code) px_c144 = true := qy_ok (by decide +kernel)
set_option maxRecDepth 100000 in
theorem px_c145_ok : px_all (px_rowOk prog_1_method_29_code) px_c145 = true := qy_ok (by decide +kernel)
set_option maxRecDepth 100000 in
theorem px_c146_ok : px_all (px_rowOk prog_7_method_2_code) px_c146 = true := qy_ok (by decide +kernel)
set_option maxRecDepth 100000 in
theorem px_c147_ok : px_all (px_rowOk prog_1_method_30_code) px_c147 = true := qy_ok (by decide +kernel)
set_option maxRecDepth 100000 in
theorem px_c148_ok : px_all (px_rowOk prog_4_method_14_code) px_c148 = true := qy_ok (by decide +kernel)
set_option maxRecDepth 100000 in
theorem px_c149_ok : px_all (px_rowOk prog_4_method_22_code) px_c149 = true := qy_ok (by decide +kernel)
set_option maxRecDepth 100000 in
theorem px_c150_ok : px_all (px_rowOk prog_7_method_3_code) px_c150 = true := qy_ok (by decide +kernel)
set_option maxRecDepth 100000 in
theorem px_c151_ok : px_all (px_rowOk prog_4_method_15_code) px_c151 = true := qy_ok (by decide +kernel)
set_option maxRecDepth 100000 in
theorem px_c152_ok : px_all (px_rowOk prog_1_method_31_code) px_c152 = true := qy_ok (by decide +kernel)
set_option maxRecDepth 100000 in
theorem px_c153_ok : px_all (px_rowOk prog_1_method_46_code) px_c153 = true := qy_ok (by decide +kernel)
set_option maxRecDepth 100000 in
theorem px_c154_ok : px_all (px_rowOk prog_1_method_32_code) px_c154 = true := qy_ok (by decide +kernel)
set_option maxRecDepth 100000 in
theorem px_c155_ok : px_all (px_rowOk prog_2_method_6_code) px_c155 = true := qy_ok (by decide +kernel)
set_option maxRecDepth 100000 in
theorem px_c156_ok : px_all (px_rowOk prog_2_method_8_code) px_c156 = true := qy_ok (by decide +kernel)
set_option maxRecDepth 100000 in
theorem px_c157_ok : px_all (px_rowOk prog_2_method_7_code) px_c157 = true := qy_ok (by decide +kernel)
set_option maxRecDepth 100000 in
theorem px_c158_ok : px_all (px_rowOk prog_1_method_33_code) px_c158 = true := qy_ok (by decide +kernel)
set_option maxRecDepth 100000 in
theorem px_c159_ok : px_all (px_rowOk prog_1_method_53_code) px_c159 = true := qy_ok (by decide +kernel)
set_option maxRecDepth 100000 in
theorem px_c160_ok : px_all (px_rowOk prog_5_method_4_code) px_c160 = true := qy_ok (by decide +kernel)
set_option maxRecDepth 100000 in
theorem px_c161_ok : px_all (px_rowOk prog_1_method_34_code) px_c161 = true := qy_ok (by decide +kernel)
set_option maxRecDepth 100000 in
theorem px_c162_ok : px_all (px_rowOk prog_1_method_54_code) px_c162 = true := qy_ok (by decide +kernel)
set_option maxRecDepth 100000 in
theorem px_c163_ok : px_all (px_rowOk prog_1_method_35_code) px_c163 = true := qy_ok (by decide +kernel)
set_option maxRecDepth 100000 in
theorem px_c164_ok : px_all (px_rowOk prog_1_method_36_code) px_c164 = true := qy_ok (by decide +kernel)
set_option maxRecDepth 100000 in
theorem px_c165_ok : px_all (px_rowOk prog_7_method_4_code) px_c165 = true := qy_ok (by decide +kernel)
set_option maxRecDepth 100000 in
theorem px_c166_ok : px_all (px_rowOk prog_1_method_37_code) px_c166 = true := qy_ok (by decide +kernel)
set_option maxRecDepth 100000 in
theorem px_c167_ok : px_all (px_rowOk prog_7_method_6_code) px_c167 = true := qy_ok (by decide +kernel)
set_option maxRecDepth 100000 in
theorem px_c168_ok : px_all (px_rowOk prog_7_method_5_code) px_c168 = true := qy_ok (by decide +kernel)
set_option maxRecDepth 100000 in
theorem px_c169_ok : px_all (px_rowOk prog_1_method_38_code) px_c169 = true := qy_ok (by decide +kernel)
set_option maxRecDepth 100000 in
theorem px_c170_ok : px_all (px_rowOk prog_1_method_39_code) px_c170 = true := qy_ok (by decide +kernel)
set_option maxRecDepth 100000 in
theorem px_c171_ok : px_all (px_rowOk prog_7_method_7_code) px_c171 = true := qy_ok (by decide +kernel)
set_option maxRecDepth 100000 in
theorem px_c172_ok : px_all (px_rowOk prog_7_method_8_code) px_c172 = true := qy_ok (by decide +kernel)
set_option maxRecDepth 100000 in
theorem px_c173_ok : px_all (px_rowOk prog_1_method_40_code) px_c173 = true := qy_ok (by decide +kernel)
set_option maxRecDepth 100000 in
theorem px_c174_ok : px_all (px_rowOk prog_10_method_12_code) px_c174 = true := qy_ok (by decide +kernel)
set_option maxRecDepth 100000 in
theorem px_c175_ok : px_all (px_rowOk prog_11_method_4_code) px_c175 = true := qy_ok (by decide +kernel)
set_option maxRecDepth 100000 in
theorem px_c176_ok : px_all (px_rowOk prog_7_method_9_code) px_c176 = true := qy_ok (by decide +kernel)
set_option maxRecDepth 100000 in
theorem px_c177_ok : px_all (px_rowOk prog_1_method_41_code) px_c177 = true := qy_ok (by decide +kernel)
set_option maxRecDepth 100000 in
theorem px_c178_ok : px_all (px_rowOk prog_4_method_9_code) px_c178 = true := qy_ok (by decide +kernel)
set_option maxRecDepth 100000 in
theorem px_c179_ok : px_all (px_rowOk prog_1_method_42_code) px_c179 = true := qy_ok (by decide +kernel)
set_option maxRecDepth 100000 in
theorem px_c180_ok : px_all (px_rowOk prog_14_method_1_code) px_c180 = true := qy_ok (by decide +kernel)
set_option maxRecDepth 100000 in
theorem px_c181_ok : px_all (px_rowOk prog_14_method_2_code) px_c181 = true := qy_ok (by decide +kernel)
set_option maxRecDepth 100000 in
theorem px_c182_ok : px_all (px_rowOk prog_14_method_21_code) px_c182 = true := qy_ok (by decide +kernel)
set_option maxRecDepth 100000 in
theorem px_c183_ok : px_all (px_rowOk prog_14_method_3_code) px_c183 = true := qy_ok (by decide +kernel)
set_option maxRecDepth 100000 in
theorem px_c184_ok : px_all (px_rowOk prog_14_method_23_code) px_c184 = true := qy_ok (by decide +kernel)
set_option maxRecDepth 100000 in
theorem px_c185_ok : px_all (px_rowOk prog_14_method_6_code) px_c185 = true := qy_ok (by decide +kernel)
set_option maxRecDepth 100000 in
theorem px_c186_ok : px_all (px_rowOk prog_14_method_22_code) px_c186 = true := qy_ok (by decide +kernel)
set_option maxRecDepth 100000 in
theorem px_c187_ok : px_all (px_rowOk prog_14_method_15_code) px_c187 = true := qy_ok (by decide +kernel)
set_option maxRecDepth 100000 in
theorem px_c188_ok : px_all (px_rowOk prog_14_method_5_code) px_c188 = true := qy_ok (by decide +kernel)
set_option maxRecDepth 100000 in
theorem px_c189_ok : px_all (px_rowOk prog_14_method_25_code) px_c189 = true := qy_ok (by decide +kernel)
set_option maxRecDepth 100000 in
theorem px_c190_ok : px_all (px_rowOk prog_14_method_24_code) px_c190 = true := qy_ok (by decide +kernel)
set_option maxRecDepth 100000 in
theorem px_c191_ok : px_all (px_rowOk prog_14_method_20_code) px_c191 = true := qy_ok (by decide +kernel)
set_option maxRecDepth 100000 in
theorem px_c192_ok : px_all (px_rowOk prog_14_method_27_code) px_c192 = true := qy_ok (by decide +kernel)
set_option maxRecDepth 100000 in
theorem px_c193_ok : px_all (px_rowOk prog_14_method_26_code) px_c193 = true := qy_ok (by decide +kernel)
set_option maxRecDepth 100000 in
theorem px_c194_ok : px_all (px_rowOk prog_14_method_28_code) px_c194 = true := qy_ok (by decide +kernel)
set_option maxRecDepth 100000 in
theorem px_c195_ok : px_all (px_rowOk prog_14_method_68_code) px_c195 = true := qy_ok (by decide +kernel)
set_option maxRecDepth 100000 in
theorem px_c196_ok : px_all (px_rowOk prog_14_method_67_code) px_c196 = true := qy_ok (by decide +kernel)
set_option maxRecDepth 100000 in
theorem px_c197_ok : px_all (px_rowOk prog_14_method_33_code) px_c197 = true := qy_ok (by decide +kernel)
set_option maxRecDepth 100000 in
theorem px_c198_ok : px_all (px_rowOk prog_14_method_29_code) px_c198 = true := qy_ok (by decide +kernel)
set_option maxRecDepth 100000 in
theorem px_c199_ok : px_all (px_rowOk prog_14_method_31_code) px_c199 = true := qy_ok (by decide +kernel)
set_option maxRecDepth 100000 in
theorem px_c200_ok : px_all (px_rowOk prog_14_method_30_code) px_c200 = true := qy_ok (by decide +kernel)
set_option maxRecDepth 100000 in
theorem px_c201_ok : px_all (px_rowOk prog_14_method_32_code) px_c201 = true := qy_ok (by decide +kernel)
set_option maxRecDepth 100000 in
theorem px_c202_ok : px_all (px_rowOk prog_14_method_66_code) px_c202 = true := qy_ok (by decide +kernel)
set_option maxRecDepth 100000 in
theorem px_c203_ok : px_all (px_rowOk prog_14_method_65_code) px_c203 = true := qy_ok (by decide +kernel)
set_option maxRecDepth 100000 in
theorem px_c204_ok : px_all (px_rowOk prog_14_method_36_code) px_c204 = true := qy_ok (by decide +kernel)
set_option maxRecDepth 100000 in
theorem px_c205_ok : px_all (px_rowOk prog_14_method_35_code) px_c205 = true := qy_ok (by decide +kernel)
set_option maxRecDepth 100000 in
theorem px_c206_ok : px_all (px_rowOk prog_14_method_34_code) px_c206 = true := qy_ok (by decide +kernel)
set_option maxRecDepth 100000 in
theorem px_c207_ok : px_all (px_rowOk prog_14_method_39_code) px_c207 = true := qy_ok (by decide +kernel)
set_option maxRecDepth 100000 in
theorem px_c208_ok : px_all (px_rowOk prog_14_method_37_code) px_c208 = true := qy_ok (by decide +kernel)
set_option maxRecDepth 100000 in
theorem px_c209_ok : px_all (px_rowOk prog_14_method_38_code) px_c209 = true := qy_ok (by decide +kernel)
set_option maxRecDepth 100000 in
theorem px_c210_ok : px_all (px_rowOk prog_14_method_4_code) px_c210 = true := qy_ok (by decide +kernel)
set_option maxRecDepth 100000 in
theorem px_c211_ok : px_all (px_rowOk prog_14_method_64_code) px_c211 = true := qy_ok (by decide +kernel)
set_option maxRecDepth 100000 in
theorem px_c212_ok : px_all (px_rowOk prog_14_method_63_code) px_c212 = true := qy_ok (by decide +kernel)
set_option maxRecDepth 100000 in
theorem px_c213_ok : px_all (px_rowOk prog_14_method_60_code) px_c213 = true := qy_ok (by decide +kernel)
set_option maxRecDepth 100000 in
theorem px_c214_ok : px_all (px_rowOk prog_14_method_61_code) px_c214 = true := qy_ok (by decide +kernel)
set_option maxRecDepth 100000 in
theorem px_c215_ok : px_all (px_rowOk prog_14_method_62_code) px_c215 = true := qy_ok (by decide +kernel)
set_option maxRecDepth 100000 in
theorem px_c216_ok : px_all (px_rowOk prog_14_method_59_code) px_c216 = true := qy_ok (by decide +kernel)
set_option maxRecDepth 100000 in
theorem px_c217_ok : px_all (px_rowOk prog_14_method_58_code) px_c217 = true := qy_ok (by decide +kernel)
set_option maxRecDepth 100000 in
theorem px_c218_ok : px_all (px_rowOk prog_14_method_54_code) px_c218 = true := qy_ok (by decide +kernel)
set_option maxRecDepth 100000 in
theorem px_c219_ok : px_all (px_rowOk prog_14_method_47_code) px_c219 = true := qy_ok (by decide +kernel)
set_option maxRecDepth 100000 in
theorem px_c220_ok : px_all (px_rowOk prog_14_method_46_code) px_c220 = true := qy_ok (by decide +kernel)
set_option maxRecDepth 100000 in
theorem px_c221_ok : px_all (px_rowOk prog_14_method_48_code) px_c221 = true := qy_ok (by decide +kernel)
set_option maxRecDepth 100000 in
theorem px_c222_ok : px_all (px_rowOk prog_14_method_44_code) px_c222 = true := qy_ok (by decide +kernel)
set_option maxRecDepth 100000 in
theorem px_c223_ok : px_all (px_rowOk prog_14_method_53_code) px_c223 = true := qy_ok (by decide +kernel)
set_option maxRecDepth 100000 in
theorem px_c224_ok : px_all (px_rowOk prog_14_method_45_code) px_c224 = true := qy_ok (by decide +kernel)
set_option maxRecDepth 100000 in
theorem px_c225_ok : px_all (px_rowOk prog_14_method_40_code) px_c225 = true := qy_ok (by decide +kernel)
set_option maxRecDepth 100000 in
theorem px_c226_ok : px_all (px_rowOk prog_14_method_55_code) px_c226 = true := qy_ok (by decide +kernel)
set_option maxRecDepth 100000 in
theorem px_c227_ok : px_all (px_rowOk prog_14_method_56_code) px_c227 = true := qy_ok (by decide +kernel)
set_option maxRecDepth 100000 in
theorem px_c228_ok : px_all (px_rowOk prog_14_method_57_code) px_c228 = true := qy_ok (by decide +kernel)
set_option maxRecDepth 100000 in
theorem px_c229_ok : px_all (px_rowOk prog_14_method_52_code) px_c229 = true := qy_ok (by decide +kernel)
set_option maxRecDepth 100000 in
theorem px_c230_ok : px_all (px_rowOk prog_14_method_41_code) px_c230 = true := qy_ok (by decide +kernel)
set_option maxRecDepth 100000 in
theorem px_c231_ok : px_all (px_rowOk prog_14_method_42_code) px_c231 = true := qy_ok (by decide +kernel)
set_option maxRecDepth 100000 in
theorem px_c232_ok : px_all (px_rowOk prog_14_method_43_code) px_c232 = true := qy_ok (by decide +kernel)
set_option maxRecDepth 100000 in
theorem px_c233_ok : px_all (px_rowOk prog_14_method_51_code) px_c233 = true := qy_ok (by decide +kernel)
set_option maxRecDepth 100000 in
theorem px_c234_ok : px_all (px_rowOk prog_14_method_50_code) px_c234 = true := qy_ok (by decide +kernel)
set_option maxRecDepth 100000 in
theorem px_c235_ok : px_all (px_rowOk prog_14_method_49_code) px_c235 = true := qy_ok (by decide +kernel)
set_option maxRecDepth 100000 in
theorem px_c236_ok : px_all (px_rowOk prog_14_method_69_code) px_c236 = true := qy_ok (by decide +kernel)
set_option maxRecDepth 100000 in
theorem px_c237_ok : px_all (px_rowOk prog_14_method_70_code) px_c237 = true := qy_ok (by decide +kernel)
set_option maxRecDepth 100000 in
theorem px_c238_ok : px_all (px_rowOk prog_14_method_82_code) px_c238 = true := qy_ok (by decide +kernel)
set_option maxRecDepth 100000 in
theorem px_c239_ok : px_all (px_rowOk prog_14_method_19_code) px_c239 = true := qy_ok (by decide +kernel)
set_option maxRecDepth 100000 in
theorem px_c240_ok : px_all (px_rowOk prog_14_method_86_code) px_c240 = true := qy_ok (by decide +kernel)
set_option maxRecDepth 100000 in
theorem px_c241_ok : px_all (px_rowOk prog_14_method_84_code) px_c241 = true := qy_ok (by decide +kernel)
set_option maxRecDepth 100000 in
theorem px_c242_ok : px_all (px_rowOk prog_14_method_16_code) px_c242 = true := qy_ok (by decide +kernel)
set_option maxRecDepth 100000 in
theorem px_c243_ok : px_all (px_rowOk prog_14_method_83_code) px_c243 = true := qy_ok (by decide +kernel)
set_option maxRecDepth 100000 in
theorem px_c244_ok : px_all (px_rowOk prog_14_method_81_code) px_c244 = true := qy_ok (by decide +kernel)
set_option maxRecDepth 100000 in
theorem px_c245_ok : px_all (px_rowOk prog_14_method_14_code) px_c245 = true := qy_ok (by decide +kernel)
set_option maxRecDepth 100000 in
theorem px_c246_ok : px_all (px_rowOk prog_14_method_12_code) px_c246 = true := qy_ok (by decide +kernel)
set_option maxRecDepth 100000 in
theorem px_c247_ok : px_all (px_rowOk prog_14_method_85_code) px_c247 = true := qy_ok (by decide +kernel)
set_option maxRecDepth 100000 in
theorem px_c248_ok : px_all (px_rowOk prog_14_method_87_code) px_c248 = true := qy_ok (by decide +kernel)
set_option maxRecDepth 100000 in
theorem px_c249_ok : px_all (px_rowOk prog_14_method_8_code) px_c249 = true := qy_ok (by decide +kernel)
set_option maxRecDepth 100000 in
theorem px_c250_ok : px_all (px_rowOk prog_14_method_88_code) px_c250 = true := qy_ok (by decide +kernel)
set_option maxRecDepth 100000 in
theorem px_c251_ok : px_all (px_rowOk prog_14_method_7_code) px_c251 = true := qy_ok (by decide +kernel)
set_option maxRecDepth 100000 in
theorem px_c252_ok : px_all (px_rowOk prog_14_method_13_code) px_c252 = true := qy_ok (by decide +kernel)
set_option maxRecDepth 100000 in
theorem px_c253_ok : px_all (px_rowOk prog_14_method_89_code) px_c253 = true := qy_ok (by decide +kernel)
set_option maxRecDepth 100000 in
theorem px_c254_ok : px_all (px_rowOk prog_14_method_9_code) px_c254 = true := qy_ok (by decide +kernel)
set_option maxRecDepth 100000 in
theorem px_c255_ok : px_all (px_rowOk prog_14_method_17_code) px_c255 = true := qy_ok (by decide +kernel)
set_option maxRecDepth 100000 in
theorem px_c256_ok : px_all (px_rowOk prog_14_method_18_code) px_c256 = true := qy_ok (by decide +kernel)
set_option maxRecDepth 100000 in
theorem px_c257_ok : px_all (px_rowOk prog_14_method_100_code) px_c257 = true := qy_ok (by decide +kernel)
set_option maxRecDepth 100000 in
theorem px_c258_ok : px_all (px_rowOk prog_14_method_99_code) px_c258 = true := qy_ok (by decide +kernel)
set_option maxRecDepth 100000 in
theorem px_c259_ok : px_all (px_rowOk prog_14_method_98_code) px_c259 = true := qy_ok (by decide +kernel)
set_option maxRecDepth 100000 in
theorem px_c260_ok : px_all (px_rowOk prog_14_method_96_code) px_c260 = true := qy_ok (by decide +kernel)
set_option maxRecDepth 100000 in
theorem px_c261_ok : px_all (px_rowOk prog_14_method_90_code) px_c261 = true := qy_ok (by decide +kernel)
set_option maxRecDepth 100000 in
theorem px_c262_ok : px_all (px_rowOk prog_14_method_91_code) px_c262 = true := qy_ok (by decide +kernel)
set_option maxRecDepth 100000 in
theorem px_c263_ok : px_all (px_rowOk prog_14_method_79_code) px_c263 = true := qy_ok (by decide +kernel)
set_option maxRecDepth 100000 in
theorem px_c264_ok : px_all (px_rowOk prog_14_method_78_code) px_c264 = true := qy_ok (by decide +kernel)
set_option maxRecDepth 100000 in
theorem px_c265_ok : px_all (px_rowOk prog_14_method_10_code) px_c265 = true := qy_ok (by decide +kernel)
set_option maxRecDepth 100000 in
theorem px_c266_ok : px_all (px_rowOk prog_14_method_76_code) px_c266 = true := qy_ok (by decide +kernel)
set_option maxRecDepth 100000 in
theorem px_c267_ok : px_all (px_rowOk prog_14_method_75_code) px_c267 = true := qy_ok (by decide +kernel)
set_option maxRecDepth 100000 in
theorem px_c268_ok : px_all (px_rowOk prog_14_method_74_code) px_c268 = true := qy_ok (by decide +kernel)
set_option maxRecDepth 100000 in
theorem px_c269_ok : px_all (px_rowOk prog_14_method_72_code) px_c269 = true := qy_ok (by decide +kernel)
set_option maxRecDepth 100000 in
theorem px_c270_ok : px_all (px_rowOk prog_14_method_71_code) px_c270 = true := qy_ok (by decide +kernel)
set_option maxRecDepth 100000 in
theorem px_c271_ok : px_all (px_rowOk prog_14_method_73_code) px_c271 = true := qy_ok (by decide +kernel)
set_option maxRecDepth 100000 in
theorem px_c272_ok : px_all (px_rowOk prog_14_method_94_code) px_c272 = true := qy_ok (by decide +kernel)
set_option maxRecDepth 100000 in
theorem px_c273_ok : px_all (px_rowOk prog_14_method_80_code) px_c273 = true := qy_ok (by decide +kernel)
set_option maxRecDepth 100000 in
theorem px_c274_ok : px_all (px_rowOk prog_14_method_77_code) px_c274 = true := qy_ok (by decide +kernel)
set_option maxRecDepth 100000 in
theorem px_c275_ok : px_all (px_rowOk prog_14_method_92_code) px_c275 = true := qy_ok (by decide +kernel)
set_option maxRecDepth 100000 in
theorem px_c276_ok : px_all (px_rowOk prog_14_method_93_code) px_c276 = true := qy_ok (by decide +kernel)
set_option maxRecDepth 100000 in
theorem px_c277_ok : px_all (px_rowOk prog_14_method_11_code) px_c277 = true := qy_ok (by decide +kernel)
set_option maxRecDepth 100000 in
theorem px_c278_ok : px_all (px_rowOk prog_14_method_95_code) px_c278 = true := qy_ok (by decide +kernel)
set_option maxRecDepth 100000 in
theorem px_c279_ok : px_all (px_rowOk prog_14_method_97_code) px_c279 = true := qy_ok (by decide +kernel)
set_option maxRecDepth 100000 in
theorem px_c280_ok : px_all (px_rowOk prog_14_method_102_code) px_c280 = true := qy_ok (by decide +kernel)
set_option maxRecDepth 100000 in
theorem px_c281_ok : px_all (px_rowOk prog_14_method_101_code) px_c281 = true := qy_ok (by decide +kernel)
set_option maxRecDepth 100000 in
theorem px_c282_ok : px_all (px_rowOk prog_14_method_104_code) px_c282 = true := qy_ok (by decide +kernel)
set_option maxRecDepth 100000 in
theorem px_c283_ok : px_all (px_rowOk prog_14_method_103_code) px_c283 = true := qy_ok (by decide +kernel)
set_option maxRecDepth 100000 in
theorem px_c284_ok : px_all (px_rowOk prog_14_method_105_code) px_c284 = true := qy_ok (by decide +kernel)
set_option maxRecDepth 100000 in
theorem px_c285_ok : px_all (px_rowOk prog_14_method_106_code) px_c285 = true := qy_ok (by decide +kernel)
set_option maxRecDepth 100000 in
theorem px_c286_ok : px_all (px_rowOk prog_14_method_107_code) px_c286 = true := qy_ok (by decide +kernel)
set_option maxRecDepth 100000 in
theorem px_c287_ok : px_all (px_rowOk prog_14_method_108_code) px_c287 = true := qy_ok (by decide +kernel)
set_option maxRecDepth 100000 in
theorem px_c288_ok : px_all (px_rowOk prog_14_method_109_code) px_c288 = true := qy_ok (by decide +kernel)
set_option maxRecDepth 100000 in
theorem px_c289_ok : px_all (px_rowOk prog_14_method_113_code) px_c289 = true := qy_ok (by decide +kernel)
set_option maxRecDepth 100000 in
theorem px_c290_ok : px_all (px_rowOk prog_14_method_110_code) px_c290 = true := qy_ok (by decide +kernel)
set_option maxRecDepth 100000 in
theorem px_c291_ok : px_all (px_rowOk prog_14_method_112_code) px_c291 = true := qy_ok (by decide +kernel)
set_option maxRecDepth 100000 in
theorem px_c292_ok : px_all (px_rowOk prog_14_method_111_code) px_c292 = true := qy_ok (by decide +kernel)
set_option maxRecDepth 100000 in
theorem px_c293_ok : px_all (px_rowOk prog_14_method_116_code) px_c293 = true := qy_ok (by decide +kernel)
set_option maxRecDepth 100000 in
theorem px_c294_ok : px_all (px_rowOk prog_14_method_114_code) px_c294 = true := qy_ok (by decide +kernel)
set_option maxRecDepth 100000 in
theorem px_c295_ok : px_all (px_rowOk prog_14_method_117_code) px_c295 = true := qy_ok (by decide +kernel)
set_option maxRecDepth 100000 in
theorem px_c296_ok : px_all (px_rowOk prog_14_method_115_code) px_c296 = true := qy_ok (by decide +kernel)
set_option maxRecDepth 100000 in
theorem px_c297_ok : px_all (px_rowOk prog_14_method_118_code) px_c297 = true := qy_ok (by decide +kernel)
set_option maxRecDepth 100000 in
theorem px_c298_ok : px_all (px_rowOk prog_14_method_120_code) px_c298 = true := qy_ok (by decide +kernel)
set_option maxRecDepth 100000 in
theorem px_c299_ok : px_all (px_rowOk prog_14_method_119_code) px_c299 = true := qy_ok (by decide +kernel)
set_option maxRecDepth 100000 in
theorem px_c300_ok : px_all (px_rowOk prog_14_method_125_code) px_c300 = true := qy_ok (by decide +kernel)
set_option maxRecDepth 100000 in
theorem px_c301_ok : px_all (px_rowOk prog_14_method_121_code) px_c301 = true := qy_ok (by decide +kernel)
set_option maxRecDepth 100000 in
theorem px_c302_ok : px_all (px_rowOk prog_14_method_124_code) px_c302 = true := qy_ok (by decide +kernel)
set_option maxRecDepth 100000 in
theorem px_c303_ok : px_all (px_rowOk prog_14_method_123_code) px_c303 = true := qy_ok (by decide +kernel)
set_option maxRecDepth 100000 in
theorem px_c304_ok : px_all (px_rowOk prog_14_method_122_code) px_c304 = true := qy_ok (by decide +kernel)
set_option maxRecDepth 100000 in
theorem px_c305_ok : px_all (px_rowOk prog_14_method_126_code) px_c305 = true := qy_ok (by decide +kernel)
set_option maxRecDepth 100000 in
theorem px_c306_ok : px_all (px_rowOk prog_14_method_128_code) px_c306 = true := qy_ok (by decide +kernel)
set_option maxRecDepth 100000 in
theorem px_c307_ok : px_all (px_rowOk prog_14_method_127_code) px_c307 = true := qy_ok (by decide +kernel)
set_option maxRecDepth 100000 in
theorem px_c308_ok : px_all (px_rowOk prog_14_method_131_code) px_c308 = true := qy_ok (by decide +kernel)
set_option maxRecDepth 100000 in
theorem px_c309_ok : px_all (px_rowOk prog_14_method_130_code) px_c309 = true := qy_ok (by decide +kernel)
set_option maxRecDepth 100000 in
theorem px_c310_ok : px_all (px_rowOk prog_14_method_129_code) px_c310 = true := qy_ok (by decide +kernel)
set_option maxRecDepth 100000 in
theorem px_c311_ok : px_all (px_rowOk prog_14_method_134_code) px_c311 = true := qy_ok (by decide +kernel)
set_option maxRecDepth 100000 in
theorem px_c312_ok : px_all (px_rowOk prog_14_method_132_code) px_c312 = true := qy_ok (by decide +kernel)
set_option maxRecDepth 100000 in
theorem px_c313_ok : px_all (px_rowOk prog_14_method_133_code) px_c313 = true := qy_ok (by decide +kernel)
set_option maxRecDepth 100000 in
theorem px_c314_ok : px_all (px_rowOk prog_14_method_136_code) px_c314 = true := qy_ok (by decide +kernel)
set_option maxRecDepth 100000 in
theorem px_c315_ok : px_all (px_rowOk prog_14_method_135_code) px_c315 = true := qy_ok (by decide +kernel)
set_option maxRecDepth 100000 in
theorem px_c316_ok : px_all (px_rowOk prog_14_method_138_code) px_c316 = true := qy_ok (by decide +kernel)
set_option maxRecDepth 100000 in
theorem px_c317_ok : px_all (px_rowOk prog_14_method_137_code) px_c317 = true := qy_ok (by decide +kernel)
set_option maxRecDepth 100000 in
theorem px_c318_ok : px_all (px_rowOk prog_14_method_139_code) px_c318 = true := qy_ok (by decide +kernel)
set_option maxRecDepth 100000 in
theorem px_c319_ok : px_all (px_rowOk prog_14_method_141_code) px_c319 = true := qy_ok (by decide +kernel)
set_option maxRecDepth 100000 in
theorem px_c320_ok : px_all (px_rowOk prog_14_method_140_code) px_c320 = true := qy_ok (by decide +kernel)
set_option maxRecDepth 100000 in
theorem px_c321_ok : px_all (px_rowOk prog_14_method_142_code) px_c321 = true := qy_ok (by decide +kernel)
set_option maxRecDepth 100000 in
theorem px_c322_ok : px_all (px_rowOk prog_14_method_144_code) px_c322 = true := qy_ok (by decide +kernel)
set_option maxRecDepth 100000 in
theorem px_c323_ok : px_all (px_rowOk prog_14_method_143_code) px_c323 = true := qy_ok (by decide +kernel)
set_option maxRecDepth 100000 in
theorem px_c324_ok : px_all (px_rowOk prog_14_method_145_code) px_c324 = true := qy_ok (by decide +kernel)
set_option maxRecDepth 100000 in
theorem px_c325_ok : px_all (px_rowOk prog_14_method_146_code) px_c325 = true := qy_ok (by decide +kernel)
set_option maxRecDepth 100000 in
theorem px_c326_ok : px_all (px_rowOk prog_14_method_147_code) px_c326 = true := qy_ok (by decide +kernel)
set_option maxRecDepth 100000 in
theorem px_c327_ok : px_all (px_rowOk prog_14_method_148_code) px_c327 = true := qy_ok (by decide +kernel)
set_option maxRecDepth 100000 in
theorem px_cL0_ok : px_all (px_rowOk code) px_cL0 = true := qy_ok (by decide +kernel)
set_option maxRecDepth 100000 in
theorem px_cL1_ok : px_all (px_rowOk code) px_cL1 = true := qy_ok (by decide +kernel)
set_option maxRecDepth 100000 in
theorem px_cL2_ok : px_all (px_rowOk code) px_cL2 = true := qy_ok (by decide +kernel)
set_option maxRecDepth 100000 in
theorem px_cL3_ok : px_all (px_rowOk code) px_cL3 = true := qy_ok (by decide +kernel)
set_option maxRecDepth 100000 in
theorem px_cL4_ok : px_all (px_rowOk code) px_cL4 = true := qy_ok (by decide +kernel)
set_option maxRecDepth 100000 in
theorem px_cL5_ok : px_all (px_rowOk code) px_cL5 = true := qy_ok (by decide +kernel)
set_option maxRecDepth 100000 in
theorem px_cL6_ok : px_all (px_rowOk code) px_cL6 = true := qy_ok (by decide +kernel)
set_option maxRecDepth 100000 in
theorem px_cL7_ok : px_all (px_rowOk code) px_cL7 = true := qy_ok (by decide +kernel)
set_option maxRecDepth 100000 in
theorem px_cL8_ok : px_all (px_rowOk code) px_cL8 = true := qy_ok (by decide +kernel)
set_option maxRecDepth 100000 in
theorem px_cL9_ok : px_all (px_rowOk code) px_cL9 = true := qy_ok (by decide +kernel)
set_option maxRecDepth 100000 in
theorem px_cL10_ok : px_all (px_rowOk code) px_cL10 = true := qy_ok (by decide +kernel)
set_option maxRecDepth 100000 in
theorem px_cL11_ok : px_all (px_rowOk code) px_cL11 = true := qy_ok (by decide +kernel)
theorem px_c328_ok : px_all (px_rowOk code) px_c328 = true := (px_allB (px_allB (px_allB px_cL0_ok (px_allB px_cL1_ok px_cL2_ok)) (px_allB px_cL3_ok (px_allB px_cL4_ok px_cL5_ok))) (px_allB (px_allB px_cL6_ok (px_allB px_cL7_ok px_cL8_ok)) (px_allB px_cL9_ok (px_allB px_cL10_ok px_cL11_ok))))
/-! links: what each constant-pool number of a class stands for; every row is checked by its place in the tables' words -/
def px_ws : List Cond := lw_tbl.filter goodWord
def px_chunk (c : Nat) : List Cond := match c with
  | 0 => k2_sels lw_privs
  | 1 => tables_1_1
  | 2 => tables_1_2
  | 3 => tables_1_3
  | 4 => tables_1_4
  | 5 => tables_1_5
  | 6 => tables_1_6
  | 7 => tables_1_7
  | 8 => tables_1_8
  | _ => tables_1_9
theorem px_chunk_in {c : Nat} {w : Cond} (h : w ∈ px_chunk c) : w ∈ lw_tbl := by
  have h0 : w ∈ k2_sels lw_privs ∨ w ∈ tables_1 := by
    unfold px_chunk at h
    split at h
    · exact Or.inl h
    · refine Or.inr ?_; unfold tables_1; simp only [List.mem_append]; simp only [h, true_or, or_true]
    · refine Or.inr ?_; unfold tables_1; simp only [List.mem_append]; simp only [h, true_or, or_true]
    · refine Or.inr ?_; unfold tables_1; simp only [List.mem_append]; simp only [h, true_or, or_true]
    · refine Or.inr ?_; unfold tables_1; simp only [List.mem_append]; simp only [h, true_or, or_true]
    · refine Or.inr ?_; unfold tables_1; simp only [List.mem_append]; simp only [h, true_or, or_true]
    · refine Or.inr ?_; unfold tables_1; simp only [List.mem_append]; simp only [h, true_or, or_true]
    · refine Or.inr ?_; unfold tables_1; simp only [List.mem_append]; simp only [h, true_or, or_true]
    · refine Or.inr ?_; unfold tables_1; simp only [List.mem_append]; simp only [h, true_or, or_true]
    · refine Or.inr ?_; unfold tables_1; simp only [List.mem_append]; simp only [h, true_or, or_true]
  unfold lw_tbl
  exact List.mem_append.mpr h0
def px_okw (pl : Nat) (w : Cond) : Bool := decide ((px_chunk (pl / 1000))[pl % 1000]? = some w) && goodWord w
theorem px_memc (c i : Nat) {w : Cond} (h : (px_chunk c)[i]? = some w) (g : goodWord w = true) : w ∈ px_ws := List.mem_filter.mpr ⟨px_chunk_in (List.mem_of_getElem? h), g⟩
theorem px_mem {pl : Nat} {w : Cond} (h : px_okw pl w = true) : w ∈ px_ws := by
  unfold px_okw at h
  rw [Bool.and_eq_true, decide_eq_true_eq] at h
  exact px_memc _ _ h.1 h.2
def px_allP {α : Type} (p : α → Prop) : Lean.RArray α → Prop
  | .leaf a => p a
  | .branch _ l r => px_allP p l ∧ px_allP p r
theorem px_allPB {α : Type} {p : α → Prop} {k : Nat} {l r : Lean.RArray α} (hl : px_allP p l) (hr : px_allP p r) : px_allP p (.branch k l r) := ⟨hl, hr⟩
theorem px_allPL {α : Type} {p : α → Prop} {a : α} (h : p a) : px_allP p (.leaf a) := h
theorem px_allP_get {α : Type} {p : α → Prop} : ∀ (t : Lean.RArray α) (n : Nat), px_allP p t → p (t.get n)
  | .leaf a, n, h => h
  | .branch k l r, n, h => by
    rw [Lean.RArray.get_eq_getImpl]
    unfold Lean.RArray.getImpl
    split
    · rw [← Lean.RArray.get_eq_getImpl]; exact px_allP_get l n h.1
    · rw [← Lean.RArray.get_eq_getImpl]; exact px_allP_get r n h.2
theorem px_ws_good : GoodIn px_ws px_ws := fun w h => ⟨h, good_of_word (List.mem_filter.mp h).2⟩
theorem px_ws_sub : ∀ w ∈ px_ws, w ∈ lw_tbl := fun w h => (List.mem_filter.mp h).1
def px_owns : List String := ["ElevenBullocks$Errands", "ElevenBullocks$Image", "ElevenBullocks$Land", "ElevenBullocks$Laws", "ElevenBullocks$Minutes", "ElevenBullocks$Notes", "ElevenBullocks$Reader", "ElevenBullocks$Script", "ElevenBullocks$Stand", "ElevenBullocks$Steps", "ElevenBullocks$Walk", "ElevenBullocks", "ElevenBullocksModel", "java/lang/Integer", "java/util/Arrays", "ElevenBullocksLaw"]
def px_on (n : Nat) : String := px_owns.getD n ""
-- classes: types of the fields
def px_ty (ci : Nat) : Nat → FieldType := match ci with
  | 0 => tyX0
  | 1 => tyX1
  | 2 => tyX2
  | 3 => tyX3
  | 4 => tyX4
  | 5 => tyX5
  | 6 => tyX6
  | 7 => tyX7
  | 8 => tyX8
  | 9 => tyX9
  | 10 => tyX10
  | 11 => tyX11
  | _ => tyX12
theorem px_lay0 : (List.range 8).all (fun k => px_okw (([2181, 2183, 2185, 2187, 2189, 2191, 2193, 2195] : List Nat).getD k 0) (u_lay RX0 TX0 k)) = true := by decide +kernel
theorem px_uws0 : ∀ w ∈ u_ws RX0 TX0 8, w ∈ px_ws := by
  intro w hw
  obtain ⟨k, hk, rfl⟩ := List.mem_map.mp hw
  exact px_mem (List.all_eq_true.mp px_lay0 k hk)
theorem px_lay1 : (List.range 8).all (fun k => px_okw (([2222, 2224, 2226, 2228, 2230, 2232, 2234, 2236] : List Nat).getD k 0) (u_lay RX1 TX1 k)) = true := by decide +kernel
theorem px_uws1 : ∀ w ∈ u_ws RX1 TX1 8, w ∈ px_ws := by
  intro w hw
  obtain ⟨k, hk, rfl⟩ := List.mem_map.mp hw
  exact px_mem (List.all_eq_true.mp px_lay1 k hk)
theorem px_lay2 : (List.range 16).all (fun k => px_okw (([1084, 1086, 1088, 1090, 1092, 1094, 1096, 1098, 1100, 1102, 1104, 1106, 1108, 1110, 1112, 1114] : List Nat).getD k 0) (u_lay RX2 TX2 k)) = true := by decide +kernel
theorem px_uws2 : ∀ w ∈ u_ws RX2 TX2 16, w ∈ px_ws := by
  intro w hw
  obtain ⟨k, hk, rfl⟩ := List.mem_map.mp hw
  exact px_mem (List.all_eq_true.mp px_lay2 k hk)
theorem px_lay3 : (List.range 7).all (fun k => px_okw (([2092, 2094, 2096, 2098, 2100, 2102, 2104] : List Nat).getD k 0) (u_lay RX3 TX3 k)) = true := by decide +kernel
theorem px_uws3 : ∀ w ∈ u_ws RX3 TX3 7, w ∈ px_ws := by
  intro w hw
  obtain ⟨k, hk, rfl⟩ := List.mem_map.mp hw
  exact px_mem (List.all_eq_true.mp px_lay3 k hk)
theorem px_lay4 : (List.range 3).all (fun k => px_okw (([2116, 2118, 2120] : List Nat).getD k 0) (u_lay RX4 TX4 k)) = true := by decide +kernel
theorem px_uws4 : ∀ w ∈ u_ws RX4 TX4 3, w ∈ px_ws := by
  intro w hw
  obtain ⟨k, hk, rfl⟩ := List.mem_map.mp hw
  exact px_mem (List.all_eq_true.mp px_lay4 k hk)
theorem px_lay5 : (List.range 6).all (fun k => px_okw (([1219, 1221, 1223, 1225, 1227, 1229] : List Nat).getD k 0) (u_lay RX5 TX5 k)) = true := by decide +kernel
theorem px_uws5 : ∀ w ∈ u_ws RX5 TX5 6, w ∈ px_ws := by
  intro w hw
  obtain ⟨k, hk, rfl⟩ := List.mem_map.mp hw
  exact px_mem (List.all_eq_true.mp px_lay5 k hk)
theorem px_lay6 : (List.range 11).all (fun k => px_okw (([2012, 2014, 2016, 2018, 2020, 2022, 2024, 2026, 2028, 2030, 2032] : List Nat).getD k 0) (u_lay RX6 TX6 k)) = true := by decide +kernel
theorem px_uws6 : ∀ w ∈ u_ws RX6 TX6 11, w ∈ px_ws := by
  intro w hw
  obtain ⟨k, hk, rfl⟩ := List.mem_map.mp hw
  exact px_mem (List.all_eq_true.mp px_lay6 k hk)
theorem px_lay7 : (List.range 8).all (fun k => px_okw (([2061, 2063, 2065, 2067, 2069, 2071, 2073, 2075] : List Nat).getD k 0) (u_lay RX7 TX7 k)) = true := by decide +kernel
theorem px_uws7 : ∀ w ∈ u_ws RX7 TX7 8, w ∈ px_ws := by
  intro w hw
  obtain ⟨k, hk, rfl⟩ := List.mem_map.mp hw
  exact px_mem (List.all_eq_true.mp px_lay7 k hk)
theorem px_lay8 : (List.range 9).all (fun k => px_okw (([1163, 1165, 1167, 1169, 1171, 1173, 1175, 1177, 1179] : List Nat).getD k 0) (u_lay RX8 TX8 k)) = true := by decide +kernel
theorem px_uws8 : ∀ w ∈ u_ws RX8 TX8 9, w ∈ px_ws := by
  intro w hw
  obtain ⟨k, hk, rfl⟩ := List.mem_map.mp hw
  exact px_mem (List.all_eq_true.mp px_lay8 k hk)
theorem px_lay9 : (List.range 4).all (fun k => px_okw (([1193, 1195, 1197, 1199] : List Nat).getD k 0) (u_lay RX9 TX9 k)) = true := by decide +kernel
theorem px_uws9 : ∀ w ∈ u_ws RX9 TX9 4, w ∈ px_ws := by
  intro w hw
  obtain ⟨k, hk, rfl⟩ := List.mem_map.mp hw
  exact px_mem (List.all_eq_true.mp px_lay9 k hk)
theorem px_lay10 : (List.range 12).all (fun k => px_okw (([2141, 2143, 2145, 2147, 2149, 2151, 2153, 2155, 2157, 2159, 2161, 2163] : List Nat).getD k 0) (u_lay RX10 TX10 k)) = true := by decide +kernel
theorem px_uws10 : ∀ w ∈ u_ws RX10 TX10 12, w ∈ px_ws := by
  intro w hw
  obtain ⟨k, hk, rfl⟩ := List.mem_map.mp hw
  exact px_mem (List.all_eq_true.mp px_lay10 k hk)
theorem px_lay11 : (List.range 13).all (fun k => px_okw (([3012, 3014, 3016, 3018, 3020, 3022, 3024, 3026, 3028, 3030, 3032, 3034, 3036] : List Nat).getD k 0) (u_lay RX11 TX11 k)) = true := by decide +kernel
theorem px_uws11 : ∀ w ∈ u_ws RX11 TX11 13, w ∈ px_ws := by
  intro w hw
  obtain ⟨k, hk, rfl⟩ := List.mem_map.mp hw
  exact px_mem (List.all_eq_true.mp px_lay11 k hk)
theorem px_lay12 : (List.range 44).all (fun k => px_okw (([6158, 6160, 6162, 6164, 6166, 6168, 6170, 6172, 6174, 6176, 6178, 6180, 6182, 6184, 6186, 6188, 6190, 6192, 6194, 6196, 6198, 6200, 6202, 6204, 6206, 6208, 6210, 6212, 6214, 6216, 6218, 6220, 6222, 6224, 6226, 6228, 6230, 6232, 6234, 6236, 6238, 7000, 7002, 7004] : List Nat).getD k 0) (u_lay RX12 TX12 k)) = true := by decide +kernel
theorem px_uws12 : ∀ w ∈ u_ws RX12 TX12 44, w ∈ px_ws := by
  intro w hw
  obtain ⟨k, hk, rfl⟩ := List.mem_map.mp hw
  exact px_mem (List.all_eq_true.mp px_lay12 k hk)
/-- what is known of class number ci: its name, fields, how many -/
def px_Cl (ci : Nat) (C : String) (T : u_T) (N : Nat) : Prop := vwCl[ci]? = some (C, T, N) ∧ (∀ w ∈ u_ws C T N, w ∈ px_ws) ∧ (∀ k, k < N → parseFieldDescriptor (T k).2.2.1 = some (px_ty ci k)) ∧ (∀ a, a < N → ∀ b, b < N → a ≠ b → (T a).2.1 ≠ (T b).2.1) ∧ Cond.instantiable C N ∈ px_ws ∧ Cond.initialized C ∈ px_ws
theorem px_cl0 : px_Cl 0 RX0 TX0 8 := ⟨rfl, px_uws0, tyX0_ok, nmX0, px_mem (pl := 2168) (by decide +kernel), px_mem (pl := 1012) (by decide +kernel)⟩
theorem px_cl1 : px_Cl 1 RX1 TX1 8 := ⟨rfl, px_uws1, tyX1_ok, nmX1, px_mem (pl := 2199) (by decide +kernel), px_mem (pl := 1013) (by decide +kernel)⟩
theorem px_cl2 : px_Cl 2 RX2 TX2 16 := ⟨rfl, px_uws2, tyX2_ok, nmX2, px_mem (pl := 1031) (by decide +kernel), px_mem (pl := 1002) (by decide +kernel)⟩
theorem px_cl3 : px_Cl 3 RX3 TX3 7 := ⟨rfl, px_uws3, tyX3_ok, nmX3, px_mem (pl := 2079) (by decide +kernel), px_mem (pl := 1009) (by decide +kernel)⟩
theorem px_cl4 : px_Cl 4 RX4 TX4 3 := ⟨rfl, px_uws4, tyX4_ok, nmX4, px_mem (pl := 2108) (by decide +kernel), px_mem (pl := 1010) (by decide +kernel)⟩
theorem px_cl5 : px_Cl 5 RX5 TX5 6 := ⟨rfl, px_uws5, tyX5_ok, nmX5, px_mem (pl := 1203) (by decide +kernel), px_mem (pl := 1006) (by decide +kernel)⟩
theorem px_cl6 : px_Cl 6 RX6 TX6 11 := ⟨rfl, px_uws6, tyX6_ok, nmX6, px_mem (pl := 1233) (by decide +kernel), px_mem (pl := 1007) (by decide +kernel)⟩
theorem px_cl7 : px_Cl 7 RX7 TX7 8 := ⟨rfl, px_uws7, tyX7_ok, nmX7, px_mem (pl := 2037) (by decide +kernel), px_mem (pl := 1008) (by decide +kernel)⟩
theorem px_cl8 : px_Cl 8 RX8 TX8 9 := ⟨rfl, px_uws8, tyX8_ok, nmX8, px_mem (pl := 1120) (by decide +kernel), px_mem (pl := 1004) (by decide +kernel)⟩
theorem px_cl9 : px_Cl 9 RX9 TX9 4 := ⟨rfl, px_uws9, tyX9_ok, nmX9, px_mem (pl := 1183) (by decide +kernel), px_mem (pl := 1005) (by decide +kernel)⟩
theorem px_cl10 : px_Cl 10 RX10 TX10 12 := ⟨rfl, px_uws10, tyX10_ok, nmX10, px_mem (pl := 2124) (by decide +kernel), px_mem (pl := 1011) (by decide +kernel)⟩
theorem px_cl11 : px_Cl 11 RX11 TX11 13 := ⟨rfl, px_uws11, tyX11_ok, nmX11, px_mem (pl := 1023) (by decide +kernel), px_mem (pl := 1001) (by decide +kernel)⟩
theorem px_cl12 : px_Cl 12 RX12 TX12 44 := ⟨rfl, px_uws12, tyX12_ok, nmX12, px_mem (pl := 6106) (by decide +kernel), px_mem (pl := 1014) (by decide +kernel)⟩
theorem px_cl {ci : Nat} {r : vw_C} (h : vwCl[ci]? = some r) : px_Cl ci r.1 r.2.1 r.2.2 := by
  match ci, h with
  | 0, h => cases h; exact px_cl0
  | 1, h => cases h; exact px_cl1
  | 2, h => cases h; exact px_cl2
  | 3, h => cases h; exact px_cl3
  | 4, h => cases h; exact px_cl4
  | 5, h => cases h; exact px_cl5
  | 6, h => cases h; exact px_cl6
  | 7, h => cases h; exact px_cl7
  | 8, h => cases h; exact px_cl8
  | 9, h => cases h; exact px_cl9
  | 10, h => cases h; exact px_cl10
  | 11, h => cases h; exact px_cl11
  | 12, h => cases h; exact px_cl12
  | n + 13, h => simp [vwCl] at h
-- fields: key (own class * 1000 + pool number), class, field, place
def px_fldT : Lean.RArray (Nat × Nat × Nat × Nat) := .branch 10015 (.branch 4023 (.branch 2043 (.branch 1009 (.branch 48 (.branch 21 (.branch 15 (.leaf (9, 0, 2, 2175)) (.branch 18 (.leaf (15, 0, 3, 2176)) (.leaf (18, 0, 4, 2177)))) (.branch 29 (.branch 25 (.leaf (21, 0, 0, 2173)) (.leaf (25, 0, 1, 2174))) (.branch 33 (.leaf (29, 0, 6, 2179)) (.leaf (33, 0, 5, 2178))))) (.branch 82 (.branch 61 (.leaf (48, 2, 0, 1043)) (.branch 64 (.leaf (61, 2, 2, 1052)) (.leaf (64, 8, 3, 1148)))) (.branch 100 (.branch 97 (.leaf (82, 0, 7, 2180)) (.leaf (97, 8, 1, 1136))) (.branch 103 (.leaf (100, 8, 0, 1130)) (.leaf (103, 2, 4, 1060)))))) (.branch 2021 (.branch 1032 (.branch 1018 (.leaf (1009, 1, 4, 2214)) (.branch 1025 (.leaf (1018, 1, 5, 2216)) (.leaf (1025, 1, 6, 2218)))) (.branch 2015 (.branch 2009 (.leaf (1032, 1, 7, 2220)) (.leaf (2009, 2, 3, 1055))) (.branch 2018 (.leaf (2015, 2, 4, 1058)) (.leaf (2018, 2, 5, 1062))))) (.branch 2031 (.branch 2024 (.leaf (2021, 2, 6, 1065)) (.branch 2028 (.leaf (2024, 2, 7, 1067)) (.leaf (2028, 2, 8, 1069)))) (.branch 2037 (.branch 2034 (.leaf (2031, 2, 9, 1072)) (.leaf (2034, 2, 10, 1075))) (.branch 2040 (.leaf (2037, 2, 11, 1078)) (.leaf (2040, 2, 12, 1080))))))) (.branch 3054 (.branch 3015 (.branch 2056 (.branch 2046 (.leaf (2043, 2, 13, 1081)) (.branch 2049 (.leaf (2046, 2, 14, 1082)) (.leaf (2049, 2, 15, 1083)))) (.branch 2063 (.branch 2060 (.leaf (2056, 2, 0, 1042)) (.leaf (2060, 2, 1, 1046))) (.branch 3009 (.leaf (2063, 2, 2, 1053)) (.leaf (3009, 3, 3, 2088))))) (.branch 3025 (.branch 3018 (.leaf (3015, 3, 4, 2089)) (.branch 3021 (.leaf (3018, 3, 5, 2090)) (.leaf (3021, 3, 0, 2084)))) (.branch 3044 (.branch 3029 (.leaf (3025, 3, 1, 2085)) (.leaf (3029, 3, 2, 2086))) (.branch 3047 (.leaf (3044, 8, 0, 1128)) (.leaf (3047, 8, 1, 1133)))))) (.branch 3099 (.branch 3082 (.branch 3075 (.leaf (3054, 8, 2, 1139)) (.branch 3079 (.leaf (3075, 2, 2, 1050)) (.leaf (3079, 8, 3, 1146)))) (.branch 3089 (.branch 3085 (.leaf (3082, 2, 8, 1070)) (.leaf (3085, 2, 10, 1076))) (.branch 3095 (.leaf (3089, 2, 3, 1056)) (.leaf (3095, 8, 5, 1154))))) (.branch 3113 (.branch 3102 (.leaf (3099, 3, 6, 2091)) (.branch 3110 (.leaf (3102, 7, 3, 2050)) (.leaf (3110, 7, 2, 2047)))) (.branch 4015 (.branch 4009 (.leaf (3113, 7, 0, 2043)) (.leaf (4009, 4, 0, 2113))) (.branch 4019 (.leaf (4015, 4, 1, 2114)) (.leaf (4019, 4, 2, 2115)))))))) (.branch 6079 (.branch 5024 (.branch 4093 (.branch 4061 (.branch 4033 (.leaf (4023, 2, 2, 1049)) (.branch 4058 (.leaf (4033, 2, 9, 1073)) (.leaf (4058, 8, 7, 1158)))) (.branch 4072 (.branch 4065 (.leaf (4061, 8, 4, 1150)) (.leaf (4065, 8, 3, 1144))) (.branch 4090 (.leaf (4072, 8, 1, 1135)) (.leaf (4090, 8, 2, 1141))))) (.branch 5009 (.branch 4107 (.leaf (4093, 8, 0, 1129)) (.branch 4110 (.leaf (4107, 8, 5, 1155)) (.leaf (4110, 2, 4, 1059)))) (.branch 5018 (.branch 5015 (.leaf (5009, 5, 0, 1209)) (.leaf (5015, 5, 1, 1210))) (.branch 5021 (.leaf (5018, 5, 3, 1213)) (.leaf (5021, 5, 4, 1215)))))) (.branch 6028 (.branch 6015 (.branch 5033 (.leaf (5024, 5, 5, 1217)) (.branch 6009 (.leaf (5033, 5, 2, 1211)) (.leaf (6009, 6, 0, 1238)))) (.branch 6022 (.branch 6019 (.leaf (6015, 6, 2, 2001)) (.leaf (6019, 6, 3, 2003))) (.branch 6025 (.leaf (6022, 6, 4, 2005)) (.leaf (6025, 6, 1, 1239))))) (.branch 6055 (.branch 6043 (.leaf (6028, 6, 5, 2006)) (.branch 6049 (.leaf (6043, 6, 7, 2008)) (.leaf (6049, 6, 8, 2009)))) (.branch 6073 (.branch 6062 (.leaf (6055, 6, 9, 2010)) (.leaf (6062, 6, 10, 2011))) (.branch 6076 (.leaf (6073, 7, 7, 2059)) (.leaf (6076, 6, 6, 2007))))))) (.branch 8021 (.branch 7024 (.branch 7009 (.branch 6082 (.leaf (6079, 7, 2, 2048)) (.branch 6088 (.leaf (6082, 7, 1, 2045)) (.leaf (6088, 7, 3, 2051)))) (.branch 7018 (.branch 7015 (.leaf (7009, 7, 0, 2042)) (.leaf (7015, 7, 2, 2046))) (.branch 7021 (.leaf (7018, 7, 3, 2049)) (.leaf (7021, 7, 4, 2052))))) (.branch 7034 (.branch 7027 (.leaf (7024, 7, 5, 2054)) (.branch 7030 (.leaf (7027, 7, 6, 2056)) (.leaf (7030, 7, 1, 2044)))) (.branch 8015 (.branch 8009 (.leaf (7034, 7, 7, 2058)) (.leaf (8009, 8, 0, 1126))) (.branch 8018 (.leaf (8015, 8, 1, 1132)) (.leaf (8018, 8, 2, 1138)))))) (.branch 9017 (.branch 8036 (.branch 8024 (.leaf (8021, 8, 3, 1143)) (.branch 8027 (.leaf (8024, 8, 4, 1149)) (.leaf (8027, 8, 5, 1153)))) (.branch 8056 (.branch 8044 (.leaf (8036, 8, 8, 1161)) (.leaf (8044, 8, 6, 1157))) (.branch 9011 (.leaf (8056, 8, 7, 1160)) (.leaf (9011, 9, 0, 1188))))) (.branch 9045 (.branch 9024 (.branch 9020 (.leaf (9017, 9, 1, 1189)) (.leaf (9020, 9, 2, 1190))) (.branch 9040 (.leaf (9024, 9, 3, 1191)) (.leaf (9040, 2, 2, 1051)))) (.branch 9051 (.branch 9048 (.leaf (9045, 8, 3, 1145)) (.leaf (9048, 2, 11, 1079))) (.branch 10011 (.leaf (9051, 8, 4, 1151)) (.leaf (10011, 10, 3, 2132))))))))) (.branch 11314 (.branch 11090 (.branch 10082 (.branch 10046 (.branch 10025 (.branch 10018 (.leaf (10015, 10, 4, 2133)) (.branch 10021 (.leaf (10018, 10, 5, 2134)) (.leaf (10021, 10, 6, 2135)))) (.branch 10032 (.branch 10028 (.leaf (10025, 10, 7, 2136)) (.leaf (10028, 10, 0, 2129))) (.branch 10036 (.leaf (10032, 10, 1, 2130)) (.leaf (10036, 10, 2, 2131))))) (.branch 10057 (.branch 10051 (.leaf (10046, 8, 0, 1127)) (.branch 10054 (.leaf (10051, 10, 8, 2137)) (.leaf (10054, 10, 11, 2140)))) (.branch 10063 (.branch 10060 (.leaf (10057, 10, 9, 2138)) (.leaf (10060, 10, 10, 2139))) (.branch 10066 (.leaf (10063, 8, 1, 1134)) (.leaf (10066, 8, 2, 1140)))))) (.branch 11040 (.branch 11010 (.branch 10117 (.leaf (10082, 2, 5, 1063)) (.branch 10127 (.leaf (10117, 2, 0, 1044)) (.leaf (10127, 2, 1, 1047)))) (.branch 11026 (.branch 11019 (.leaf (11010, 11, 0, 2239)) (.leaf (11019, 11, 1, 3000))) (.branch 11033 (.leaf (11026, 11, 2, 3001)) (.leaf (11033, 11, 3, 3002))))) (.branch 11065 (.branch 11046 (.leaf (11040, 11, 4, 3003)) (.branch 11056 (.leaf (11046, 11, 5, 3004)) (.leaf (11056, 11, 6, 3005)))) (.branch 11079 (.branch 11072 (.leaf (11065, 11, 7, 3006)) (.leaf (11072, 11, 8, 3007))) (.branch 11086 (.leaf (11079, 11, 9, 3008)) (.leaf (11086, 11, 10, 3009))))))) (.branch 11205 (.branch 11151 (.branch 11121 (.branch 11094 (.leaf (11090, 11, 11, 3010)) (.branch 11117 (.leaf (11094, 11, 12, 3011)) (.leaf (11117, 8, 3, 1147)))) (.branch 11135 (.branch 11124 (.leaf (11121, 8, 4, 1152)) (.leaf (11124, 6, 1, 2000))) (.branch 11138 (.leaf (11135, 6, 2, 2002)) (.leaf (11138, 6, 3, 2004))))) (.branch 11189 (.branch 11162 (.leaf (11151, 2, 2, 1054)) (.branch 11174 (.leaf (11162, 8, 7, 1159)) (.leaf (11174, 2, 0, 1045)))) (.branch 11195 (.branch 11192 (.leaf (11189, 8, 0, 1131)) (.leaf (11192, 8, 1, 1137))) (.branch 11202 (.leaf (11195, 8, 2, 1142)) (.leaf (11202, 7, 7, 2060)))))) (.branch 11243 (.branch 11217 (.branch 11208 (.leaf (11205, 7, 4, 2053)) (.branch 11211 (.leaf (11208, 7, 5, 2055)) (.leaf (11211, 7, 6, 2057)))) (.branch 11233 (.branch 11220 (.leaf (11217, 2, 1, 1048)) (.leaf (11220, 8, 8, 1162))) (.branch 11240 (.leaf (11233, 9, 3, 1192)) (.leaf (11240, 2, 8, 1071))))) (.branch 11256 (.branch 11250 (.branch 11247 (.leaf (11243, 2, 9, 1074)) (.leaf (11247, 2, 10, 1077))) (.branch 11253 (.leaf (11250, 2, 3, 1057)) (.leaf (11253, 2, 4, 1061)))) (.branch 11268 (.branch 11265 (.leaf (11256, 8, 5, 1156)) (.leaf (11265, 2, 5, 1064))) (.branch 11271 (.leaf (11268, 2, 6, 1066)) (.leaf (11271, 2, 7, 1068)))))))) (.branch 12058 (.branch 12013 (.branch 11370 (.branch 11361 (.branch 11346 (.leaf (11314, 5, 2, 1212)) (.branch 11358 (.leaf (11346, 5, 3, 1214)) (.leaf (11358, 5, 4, 1216)))) (.branch 11368 (.branch 11367 (.leaf (11361, 5, 5, 1218)) (.leaf (11367, 1, 0, 2210))) (.branch 11369 (.leaf (11368, 1, 1, 2211)) (.leaf (11369, 1, 2, 2212))))) (.branch 11377 (.branch 11371 (.leaf (11370, 1, 3, 2213)) (.branch 11372 (.leaf (11371, 1, 4, 2215)) (.leaf (11372, 1, 5, 2217)))) (.branch 11400 (.branch 11381 (.leaf (11377, 1, 6, 2219)) (.leaf (11381, 1, 7, 2221))) (.branch 12007 (.leaf (11400, 3, 2, 2087)) (.leaf (12007, 12, 0, 6114)))))) (.branch 12035 (.branch 12022 (.branch 12016 (.leaf (12013, 12, 1, 6115)) (.branch 12019 (.leaf (12016, 12, 2, 6116)) (.leaf (12019, 12, 3, 6117)))) (.branch 12029 (.branch 12026 (.leaf (12022, 12, 5, 6119)) (.leaf (12026, 12, 6, 6120))) (.branch 12032 (.leaf (12029, 12, 15, 6129)) (.leaf (12032, 12, 16, 6130))))) (.branch 12044 (.branch 12038 (.leaf (12035, 12, 17, 6131)) (.branch 12041 (.leaf (12038, 12, 18, 6132)) (.leaf (12041, 12, 25, 6139)))) (.branch 12051 (.branch 12048 (.leaf (12044, 12, 26, 6140)) (.leaf (12048, 12, 27, 6141))) (.branch 12055 (.leaf (12051, 12, 28, 6142)) (.leaf (12055, 12, 32, 6146))))))) (.branch 12141 (.branch 12079 (.branch 12067 (.branch 12061 (.leaf (12058, 12, 33, 6147)) (.branch 12064 (.leaf (12061, 12, 34, 6148)) (.leaf (12064, 12, 35, 6149)))) (.branch 12073 (.branch 12070 (.leaf (12067, 12, 36, 6150)) (.leaf (12070, 12, 37, 6151))) (.branch 12076 (.leaf (12073, 12, 38, 6152)) (.leaf (12076, 12, 39, 6153))))) (.branch 12088 (.branch 12082 (.leaf (12079, 12, 40, 6154)) (.branch 12085 (.leaf (12082, 12, 41, 6155)) (.leaf (12085, 12, 42, 6156)))) (.branch 12132 (.branch 12125 (.leaf (12088, 12, 43, 6157)) (.leaf (12125, 12, 4, 6118))) (.branch 12138 (.leaf (12132, 12, 7, 6121)) (.leaf (12138, 12, 8, 6122)))))) (.branch 12202 (.branch 12179 (.branch 12147 (.leaf (12141, 12, 9, 6123)) (.branch 12154 (.leaf (12147, 12, 10, 6124)) (.leaf (12154, 12, 11, 6125)))) (.branch 12189 (.branch 12182 (.leaf (12179, 12, 12, 6126)) (.leaf (12182, 12, 13, 6127))) (.branch 12192 (.leaf (12189, 12, 14, 6128)) (.leaf (12192, 12, 19, 6133))))) (.branch 12296 (.branch 12225 (.branch 12218 (.leaf (12202, 12, 20, 6134)) (.leaf (12218, 12, 21, 6135))) (.branch 12254 (.leaf (12225, 12, 23, 6137)) (.leaf (12254, 12, 22, 6136)))) (.branch 12337 (.branch 12331 (.leaf (12296, 12, 24, 6138)) (.leaf (12331, 12, 29, 6143))) (.branch 12364 (.leaf (12337, 12, 30, 6144)) (.leaf (12364, 12, 31, 6145)))))))))
def px_fldOk (q : Nat × Nat × Nat × Nat) : Bool := match vwCl[q.2.1]? with
  | some (_, T, N) => decide (q.2.2.1 < N) && px_okw q.2.2.2 (.fieldLink (px_on (q.1 / 1000)) (q.1 % 1000) (T q.2.2.1).1 (T q.2.2.1).2.1 (T q.2.2.1).2.2.1)
  | none => false
set_option maxRecDepth 100000 in
theorem px_fldT_ok : px_all px_fldOk px_fldT = true := by decide +kernel
-- classes by pool number
def px_clsT : Lean.RArray (Nat × Nat × Nat) := .branch 11044 (.branch 11016 (.branch 1029 (.branch 1022 (.leaf (1015, 8, 2204)) (.leaf (1022, 9, 2206))) (.branch 11007 (.leaf (1029, 5, 2208)) (.leaf (11007, 2, 1030)))) (.branch 11030 (.branch 11023 (.leaf (11016, 8, 1119)) (.leaf (11023, 9, 1182))) (.branch 11037 (.leaf (11030, 5, 1202)) (.leaf (11037, 6, 1232))))) (.branch 11076 (.branch 11060 (.branch 11051 (.leaf (11044, 7, 2035)) (.leaf (11051, 3, 2078))) (.branch 11069 (.leaf (11060, 4, 2107)) (.leaf (11069, 10, 2123)))) (.branch 15007 (.branch 11083 (.leaf (11076, 0, 2167)) (.leaf (11083, 1, 2198))) (.branch 15010 (.leaf (15007, 11, 1022)) (.leaf (15010, 12, 6105)))))
def px_clsOk (q : Nat × Nat × Nat) : Bool := match vwCl[q.2.1]? with
  | some (C, _, _) => px_okw q.2.2 (.classLink (px_on (q.1 / 1000)) (q.1 % 1000) C)
  | none => false
theorem px_clsT_ok : px_all px_clsOk px_clsT = true := by decide +kernel
-- whole numbers by pool number
def px_intT : Lean.RArray (Nat × Int32 × Nat) := .branch 12150 (.branch 3127 (.leaf (3098, 1000000, 4164)) (.branch 11399 (.leaf (3127, (-1000000), 4163)) (.leaf (11399, 65536, 5147)))) (.branch 13266 (.branch 13265 (.leaf (12150, 99999, 7076)) (.leaf (13265, 1431655765, 5168))) (.branch 13267 (.leaf (13266, 858993459, 5169)) (.leaf (13267, 252645135, 5170))))
theorem px_intT_ok : px_all (fun q => px_okw q.2.2 (.constant (px_on (q.1 / 1000)) (q.1 % 1000) q.2.1)) px_intT = true := by decide +kernel
def px_lngT : Lean.RArray (Nat × Int64 × Nat) := .branch 12158 (.branch 10142 (.branch 3133 (.leaf (3131, (-1000000), 4166)) (.branch 10136 (.leaf (3133, 1000000, 4167)) (.leaf (10136, 10000, 5097)))) (.branch 11281 (.leaf (10142, 10, 5108)) (.branch 11397 (.leaf (11281, (-1), 5072)) (.leaf (11397, 10, 5235))))) (.branch 12461 (.branch 12312 (.leaf (12158, 1152921504606846976, 7080)) (.branch 12314 (.leaf (12312, 1000000, 8111)) (.leaf (12314, (-1000000), 8112)))) (.branch 12469 (.branch 12463 (.leaf (12461, 10000, 8199)) (.leaf (12463, 10, 8200))) (.branch 12516 (.leaf (12469, (-1), 8194)) (.leaf (12516, 100, 9056)))))
theorem px_lngT_ok : px_all (fun q => px_okw q.2.2 (.constantLong (px_on (q.1 / 1000)) (q.1 % 1000) q.2.1)) px_lngT = true := by decide +kernel
-- methods: number, name, own class' number, code, locals, answer's type, parameters, place of the class' word 'initialized'
abbrev px_MI : Type := Nat × MethodName × Nat × ByteArray × Nat × Option FieldType × Nat × Nat × Lean.RArray px_Row
def px_mT : Lean.RArray px_MI := .branch 164 (.branch 82 (.branch 41 (.branch 20 (.branch 10 (.branch 5 (.branch 2 (.branch 1 (.leaf (0, ⟨"ElevenBullocks", "<init>", "()V"⟩, 11, prog_1_method_1_code, 2, (Option.none : Option Jvm.ClassFile.FieldType), 0, 1001, px_c0)) (.leaf (1, ⟨"ElevenBullocks$Land", "<init>", "()V"⟩, 2, prog_4_method_1_code, 1, (Option.none : Option Jvm.ClassFile.FieldType), 0, 1002, px_c1))) (.branch 3 (.leaf (2, ⟨"ElevenBullocks$Land", "setApart", "([I)V"⟩, 2, prog_4_method_12_code, 2, (Option.none : Option Jvm.ClassFile.FieldType), 1, 1002, px_c2)) (.branch 4 (.leaf (3, ⟨"java/util/Arrays", "fill", "([II)V"⟩, 14, prog_21_method_103_code, 4, (Option.none : Option Jvm.ClassFile.FieldType), 2, 1003, px_c3)) (.leaf (4, ⟨"ElevenBullocks$Stand", "<init>", "()V"⟩, 8, prog_10_method_1_code, 1, (Option.none : Option Jvm.ClassFile.FieldType), 0, 1004, px_c4))))) (.branch 7 (.branch 6 (.leaf (5, ⟨"ElevenBullocks$Steps", "<init>", "()V"⟩, 9, prog_11_method_1_code, 1, (Option.none : Option Jvm.ClassFile.FieldType), 0, 1005, px_c5)) (.leaf (6, ⟨"ElevenBullocks$Notes", "<init>", "()V"⟩, 5, prog_7_method_1_code, 1, (Option.none : Option Jvm.ClassFile.FieldType), 0, 1006, px_c6))) (.branch 8 (.leaf (7, ⟨"ElevenBullocks$Reader", "<init>", "()V"⟩, 6, prog_8_method_1_code, 1, (Option.none : Option Jvm.ClassFile.FieldType), 0, 1007, px_c7)) (.branch 9 (.leaf (8, ⟨"ElevenBullocks$Script", "<init>", "()V"⟩, 7, prog_9_method_1_code, 1, (Option.none : Option Jvm.ClassFile.FieldType), 0, 1008, px_c8)) (.leaf (9, ⟨"ElevenBullocks$Laws", "<init>", "(LElevenBullocks$Land;LElevenBullocks$Stand;)V"⟩, 3, prog_5_method_1_code, 3, (Option.none : Option Jvm.ClassFile.FieldType), 2, 1009, px_c9)))))) (.branch 15 (.branch 12 (.branch 11 (.leaf (10, ⟨"ElevenBullocks$Minutes", "<init>", "(LElevenBullocks$Land;LElevenBullocks$Stand;LElevenBullocks$Laws;)V"⟩, 4, prog_6_method_1_code, 4, (Option.none : Option Jvm.ClassFile.FieldType), 3, 1010, px_c10)) (.leaf (11, ⟨"ElevenBullocks$Walk", "<init>", "(LElevenBullocks$Land;LElevenBullocks$Stand;LElevenBullocks$Laws;)V"⟩, 10, prog_12_method_1_code, 4, (Option.none : Option Jvm.ClassFile.FieldType), 3, 1011, px_c11))) (.branch 13 (.leaf (12, ⟨"ElevenBullocks$Errands", "<init>", "(LElevenBullocks$Land;LElevenBullocks$Stand;)V"⟩, 0, prog_2_method_1_code, 3, (Option.none : Option Jvm.ClassFile.FieldType), 2, 1012, px_c12)) (.branch 14 (.leaf (13, ⟨"ElevenBullocks$Image", "<init>", "()V"⟩, 1, prog_3_method_1_code, 1, (Option.none : Option Jvm.ClassFile.FieldType), 0, 1013, px_c13)) (.leaf (14, ⟨"ElevenBullocks", "stretch", "(II)I"⟩, 11, prog_1_method_2_code, 3, (Option.some Jvm.ClassFile.FieldType.int), 2, 1001, px_c14))))) (.branch 17 (.branch 16 (.leaf (15, ⟨"ElevenBullocks", "within", "(III)Z"⟩, 11, prog_1_method_43_code, 3, (Option.some Jvm.ClassFile.FieldType.boolean), 3, 1001, px_c15)) (.leaf (16, ⟨"ElevenBullocks$Land", "addStretch", "(II)I"⟩, 2, prog_4_method_6_code, 3, (Option.some Jvm.ClassFile.FieldType.int), 2, 1002, px_c16))) (.branch 18 (.leaf (17, ⟨"ElevenBullocks", "way", "(IIZ)I"⟩, 11, prog_1_method_3_code, 4, (Option.some Jvm.ClassFile.FieldType.int), 3, 1001, px_c17)) (.branch 19 (.leaf (18, ⟨"ElevenBullocks$Land", "hasStretch", "(I)Z"⟩, 2, prog_4_method_2_code, 2, (Option.some Jvm.ClassFile.FieldType.boolean), 1, 1002, px_c18)) (.leaf (19, ⟨"ElevenBullocks$Land", "addWay", "(IIZ)I"⟩, 2, prog_4_method_7_code, 4, (Option.some Jvm.ClassFile.FieldType.int), 3, 1002, px_c19))))))) (.branch 30 (.branch 25 (.branch 22 (.branch 21 (.leaf (20, ⟨"ElevenBullocks$Land", "layWay", "(I)V"⟩, 2, prog_4_method_10_code, 2, (Option.none : Option Jvm.ClassFile.FieldType), 1, 1002, px_c20)) (.leaf (21, ⟨"ElevenBullocks$Land", "noteWayAt", "(II)V"⟩, 2, prog_4_method_11_code, 3, (Option.none : Option Jvm.ClassFile.FieldType), 2, 1002, px_c21))) (.branch 23 (.leaf (22, ⟨"ElevenBullocks$Land", "bringNear", "([III)V"⟩, 2, prog_4_method_13_code, 9, (Option.none : Option Jvm.ClassFile.FieldType), 3, 1002, px_c22)) (.branch 24 (.leaf (23, ⟨"ElevenBullocks", "person", "(IZZI)I"⟩, 11, prog_1_method_4_code, 6, (Option.some Jvm.ClassFile.FieldType.int), 4, 1001, px_c23)) (.leaf (24, ⟨"ElevenBullocks$Land", "addPerson", "(IZZI)I"⟩, 2, prog_4_method_8_code, 5, (Option.some Jvm.ClassFile.FieldType.int), 4, 1002, px_c24))))) (.branch 27 (.branch 26 (.leaf (25, ⟨"ElevenBullocks", "feed", "(IIIII)I"⟩, 11, prog_1_method_5_code, 6, (Option.some Jvm.ClassFile.FieldType.int), 5, 1001, px_c25)) (.leaf (26, ⟨"ElevenBullocks$Reader", "addBytes", "(I)V"⟩, 6, prog_8_method_2_code, 3, (Option.none : Option Jvm.ClassFile.FieldType), 1, 1007, px_c26))) (.branch 28 (.leaf (27, ⟨"ElevenBullocks", "end", "(I)I"⟩, 11, prog_1_method_6_code, 2, (Option.some Jvm.ClassFile.FieldType.int), 1, 1001, px_c27)) (.branch 29 (.leaf (28, ⟨"ElevenBullocks", "text", "()I"⟩, 11, prog_1_method_7_code, 1, (Option.some Jvm.ClassFile.FieldType.int), 0, 1001, px_c28)) (.leaf (29, ⟨"ElevenBullocks$Reader", "readAll", "(LElevenBullocks$Script;)Z"⟩, 6, prog_8_method_3_code, 3, (Option.some Jvm.ClassFile.FieldType.boolean), 1, 1007, px_c29)))))) (.branch 35 (.branch 32 (.branch 31 (.leaf (30, ⟨"ElevenBullocks$Script", "clear", "()V"⟩, 7, prog_9_method_2_code, 1, (Option.none : Option Jvm.ClassFile.FieldType), 0, 1008, px_c30)) (.leaf (31, ⟨"ElevenBullocks$Reader", "advance", "()V"⟩, 6, prog_8_method_20_code, 1, (Option.none : Option Jvm.ClassFile.FieldType), 0, 1007, px_c31))) (.branch 33 (.leaf (32, ⟨"ElevenBullocks$Reader", "isDigit", "(I)Z"⟩, 6, prog_8_method_21_code, 1, (Option.some Jvm.ClassFile.FieldType.boolean), 1, 1007, px_c32)) (.branch 34 (.leaf (33, ⟨"ElevenBullocks$Reader", "scanNumber", "()V"⟩, 6, prog_8_method_23_code, 1, (Option.none : Option Jvm.ClassFile.FieldType), 0, 1007, px_c33)) (.leaf (34, ⟨"ElevenBullocks$Reader", "isLetter", "(I)Z"⟩, 6, prog_8_method_22_code, 1, (Option.some Jvm.ClassFile.FieldType.boolean), 1, 1007, px_c34))))) (.branch 38 (.branch 36 (.leaf (35, ⟨"ElevenBullocks$Reader", "scanWord", "()V"⟩, 6, prog_8_method_24_code, 1, (Option.none : Option Jvm.ClassFile.FieldType), 0, 1007, px_c35)) (.branch 37 (.leaf (36, ⟨"ElevenBullocks$Reader", "wordOf", "()I"⟩, 6, prog_8_method_25_code, 6, (Option.some Jvm.ClassFile.FieldType.int), 0, 1007, px_c36)) (.leaf (37, ⟨"ElevenBullocks$Reader", "scanSign", "(I)V"⟩, 6, prog_8_method_26_code, 3, (Option.none : Option Jvm.ClassFile.FieldType), 1, 1007, px_c37)))) (.branch 39 (.leaf (38, ⟨"ElevenBullocks$Reader", "readClause", "()V"⟩, 6, prog_8_method_7_code, 2, (Option.none : Option Jvm.ClassFile.FieldType), 0, 1007, px_c38)) (.branch 40 (.leaf (39, ⟨"ElevenBullocks$Reader", "fail", "(I)V"⟩, 6, prog_8_method_4_code, 2, (Option.none : Option Jvm.ClassFile.FieldType), 1, 1007, px_c39)) (.leaf (40, ⟨"ElevenBullocks$Script", "hasLaw", "(I)Z"⟩, 7, prog_9_method_3_code, 2, (Option.some Jvm.ClassFile.FieldType.boolean), 1, 1008, px_c40)))))))) (.branch 61 (.branch 51 (.branch 46 (.branch 43 (.branch 42 (.leaf (41, ⟨"ElevenBullocks$Reader", "readSum", "(I)V"⟩, 6, prog_8_method_9_code, 4, (Option.none : Option Jvm.ClassFile.FieldType), 1, 1007, px_c41)) (.leaf (42, ⟨"ElevenBullocks$Reader", "readProduct", "(I)V"⟩, 6, prog_8_method_10_code, 4, (Option.none : Option Jvm.ClassFile.FieldType), 1, 1007, px_c42))) (.branch 44 (.leaf (43, ⟨"ElevenBullocks$Reader", "readOne", "(I)V"⟩, 6, prog_8_method_11_code, 2, (Option.none : Option Jvm.ClassFile.FieldType), 1, 1007, px_c43)) (.branch 45 (.leaf (44, ⟨"ElevenBullocks$Reader", "readNumber", "(II)I"⟩, 6, prog_8_method_6_code, 4, (Option.some Jvm.ClassFile.FieldType.int), 2, 1007, px_c44)) (.leaf (45, ⟨"ElevenBullocks$Script", "addOrder", "(II)I"⟩, 7, prog_9_method_4_code, 3, (Option.some Jvm.ClassFile.FieldType.int), 2, 1008, px_c45))))) (.branch 48 (.branch 47 (.leaf (46, ⟨"ElevenBullocks$Reader", "readLetter", "()V"⟩, 6, prog_8_method_13_code, 2, (Option.none : Option Jvm.ClassFile.FieldType), 0, 1007, px_c46)) (.leaf (47, ⟨"ElevenBullocks$Reader", "enter", "(I)Z"⟩, 6, prog_8_method_12_code, 2, (Option.some Jvm.ClassFile.FieldType.boolean), 1, 1007, px_c47))) (.branch 49 (.leaf (48, ⟨"ElevenBullocks$Reader", "expect", "(I)V"⟩, 6, prog_8_method_5_code, 2, (Option.none : Option Jvm.ClassFile.FieldType), 1, 1007, px_c48)) (.branch 50 (.leaf (49, ⟨"ElevenBullocks$Reader", "readIf", "(I)V"⟩, 6, prog_8_method_15_code, 4, (Option.none : Option Jvm.ClassFile.FieldType), 1, 1007, px_c49)) (.leaf (50, ⟨"ElevenBullocks$Reader", "readEither", "(I)V"⟩, 6, prog_8_method_17_code, 3, (Option.none : Option Jvm.ClassFile.FieldType), 1, 1007, px_c50)))))) (.branch 56 (.branch 53 (.branch 52 (.leaf (51, ⟨"ElevenBullocks$Reader", "readBoth", "(I)V"⟩, 6, prog_8_method_18_code, 3, (Option.none : Option Jvm.ClassFile.FieldType), 1, 1007, px_c51)) (.leaf (52, ⟨"ElevenBullocks$Reader", "readAsk", "(I)V"⟩, 6, prog_8_method_19_code, 3, (Option.none : Option Jvm.ClassFile.FieldType), 1, 1007, px_c52))) (.branch 54 (.leaf (53, ⟨"ElevenBullocks$Script", "leadToHere", "(I)V"⟩, 7, prog_9_method_5_code, 2, (Option.none : Option Jvm.ClassFile.FieldType), 1, 1008, px_c53)) (.branch 55 (.leaf (54, ⟨"ElevenBullocks$Reader", "readLet", "(I)V"⟩, 6, prog_8_method_16_code, 5, (Option.none : Option Jvm.ClassFile.FieldType), 1, 1007, px_c54)) (.leaf (55, ⟨"ElevenBullocks", "cut", "(III)I"⟩, 11, prog_1_method_44_code, 3, (Option.some Jvm.ClassFile.FieldType.int), 3, 1001, px_c55))))) (.branch 58 (.branch 57 (.leaf (56, ⟨"ElevenBullocks$Reader", "readName", "()V"⟩, 6, prog_8_method_14_code, 2, (Option.none : Option Jvm.ClassFile.FieldType), 0, 1007, px_c56)) (.leaf (57, ⟨"ElevenBullocks$Script", "addClause", "(III)V"⟩, 7, prog_9_method_6_code, 4, (Option.none : Option Jvm.ClassFile.FieldType), 3, 1008, px_c57))) (.branch 59 (.leaf (58, ⟨"ElevenBullocks$Reader", "readDeed", "(I)V"⟩, 6, prog_8_method_8_code, 5, (Option.none : Option Jvm.ClassFile.FieldType), 1, 1007, px_c58)) (.branch 60 (.leaf (59, ⟨"ElevenBullocks", "fault", "(I)I"⟩, 11, prog_1_method_8_code, 2, (Option.some Jvm.ClassFile.FieldType.int), 1, 1001, px_c59)) (.leaf (60, ⟨"ElevenBullocks", "by", "(I)Z"⟩, 11, prog_1_method_9_code, 2, (Option.some Jvm.ClassFile.FieldType.boolean), 1, 1001, px_c60))))))) (.branch 71 (.branch 66 (.branch 63 (.branch 62 (.leaf (61, ⟨"ElevenBullocks", "rule", "(I)V"⟩, 11, prog_1_method_49_code, 2, (Option.none : Option Jvm.ClassFile.FieldType), 1, 1001, px_c61)) (.leaf (62, ⟨"ElevenBullocks", "scriptOf", "(I)LElevenBullocks$Script;"⟩, 11, prog_1_method_48_code, 2, (Option.some (Jvm.ClassFile.FieldType.object "ElevenBullocks$Script")), 1, 1001, px_c62))) (.branch 64 (.leaf (63, ⟨"ElevenBullocks", "stray", "(II)I"⟩, 11, prog_1_method_10_code, 4, (Option.some Jvm.ClassFile.FieldType.int), 2, 1001, px_c63)) (.branch 65 (.leaf (64, ⟨"ElevenBullocks$Stand", "beasts", "()I"⟩, 8, prog_10_method_5_code, 1, (Option.some Jvm.ClassFile.FieldType.int), 0, 1004, px_c64)) (.leaf (65, ⟨"ElevenBullocks$Stand", "sum", "([I)I"⟩, 8, prog_10_method_7_code, 6, (Option.some Jvm.ClassFile.FieldType.int), 1, 1004, px_c65))))) (.branch 68 (.branch 67 (.leaf (66, ⟨"ElevenBullocks$Stand", "freeBunch", "()I"⟩, 8, prog_10_method_3_code, 2, (Option.some Jvm.ClassFile.FieldType.int), 0, 1004, px_c66)) (.leaf (67, ⟨"ElevenBullocks$Steps", "keep", "(LElevenBullocks$Stand;I)V"⟩, 9, prog_11_method_2_code, 3, (Option.none : Option Jvm.ClassFile.FieldType), 2, 1005, px_c67))) (.branch 69 (.leaf (68, ⟨"ElevenBullocks$Stand", "writeTo", "([II)V"⟩, 8, prog_10_method_13_code, 5, (Option.none : Option Jvm.ClassFile.FieldType), 2, 1004, px_c68)) (.branch 70 (.leaf (69, ⟨"ElevenBullocks$Stand", "put", "(IIII)V"⟩, 8, prog_10_method_4_code, 5, (Option.none : Option Jvm.ClassFile.FieldType), 4, 1004, px_c69)) (.leaf (70, ⟨"ElevenBullocks", "minute", "(I)I"⟩, 11, prog_1_method_11_code, 2, (Option.some Jvm.ClassFile.FieldType.int), 1, 1001, px_c70)))))) (.branch 76 (.branch 73 (.branch 72 (.leaf (71, ⟨"ElevenBullocks", "passMinutes", "(I)Z"⟩, 11, prog_1_method_50_code, 3, (Option.some Jvm.ClassFile.FieldType.boolean), 1, 1001, px_c71)) (.leaf (72, ⟨"ElevenBullocks$Minutes", "pass", "()V"⟩, 4, prog_6_method_2_code, 4, (Option.none : Option Jvm.ClassFile.FieldType), 0, 1010, px_c72))) (.branch 74 (.leaf (73, ⟨"ElevenBullocks$Minutes", "goOn", "(I)V"⟩, 4, prog_6_method_3_code, 4, (Option.none : Option Jvm.ClassFile.FieldType), 1, 1010, px_c73)) (.branch 75 (.leaf (74, ⟨"ElevenBullocks$Land", "nextTowards", "(II)I"⟩, 2, prog_4_method_24_code, 7, (Option.some Jvm.ClassFile.FieldType.int), 2, 1002, px_c74)) (.leaf (75, ⟨"ElevenBullocks$Land", "distance", "(II)I"⟩, 2, prog_4_method_16_code, 3, (Option.some Jvm.ClassFile.FieldType.int), 2, 1002, px_c75))))) (.branch 79 (.branch 77 (.leaf (76, ⟨"ElevenBullocks$Land", "countWaysAt", "(I)I"⟩, 2, prog_4_method_17_code, 2, (Option.some Jvm.ClassFile.FieldType.int), 1, 1002, px_c76)) (.branch 78 (.leaf (77, ⟨"ElevenBullocks$Land", "wayAt", "(II)I"⟩, 2, prog_4_method_18_code, 3, (Option.some Jvm.ClassFile.FieldType.int), 2, 1002, px_c77)) (.leaf (78, ⟨"ElevenBullocks$Land", "otherSide", "(II)I"⟩, 2, prog_4_method_21_code, 3, (Option.some Jvm.ClassFile.FieldType.int), 2, 1002, px_c78)))) (.branch 80 (.leaf (79, ⟨"ElevenBullocks$Land", "hasWay", "(I)Z"⟩, 2, prog_4_method_3_code, 2, (Option.some Jvm.ClassFile.FieldType.boolean), 1, 1002, px_c79)) (.branch 81 (.leaf (80, ⟨"ElevenBullocks$Stand", "hasBunch", "(I)Z"⟩, 8, prog_10_method_2_code, 2, (Option.some Jvm.ClassFile.FieldType.boolean), 1, 1004, px_c80)) (.leaf (81, ⟨"ElevenBullocks$Laws", "paceOf", "(I)I"⟩, 3, prog_5_method_2_code, 2, (Option.some Jvm.ClassFile.FieldType.int), 1, 1009, px_c81))))))))) (.branch 123 (.branch 102 (.branch 92 (.branch 87 (.branch 84 (.branch 83 (.leaf (82, ⟨"ElevenBullocks$Laws", "nameAll", "(III)V"⟩, 3, prog_5_method_5_code, 4, (Option.none : Option Jvm.ClassFile.FieldType), 3, 1009, px_c82)) (.leaf (83, ⟨"ElevenBullocks$Laws", "peopleAt", "(I)I"⟩, 3, prog_5_method_6_code, 4, (Option.some Jvm.ClassFile.FieldType.int), 1, 1009, px_c83))) (.branch 85 (.leaf (84, ⟨"ElevenBullocks$Laws", "answer", "(LElevenBullocks$Script;I)I"⟩, 3, prog_5_method_7_code, 9, (Option.some Jvm.ClassFile.FieldType.int), 2, 1009, px_c84)) (.branch 86 (.leaf (85, ⟨"ElevenBullocks$Laws", "push", "(I)V"⟩, 3, prog_5_method_8_code, 2, (Option.none : Option Jvm.ClassFile.FieldType), 1, 1009, px_c85)) (.leaf (86, ⟨"ElevenBullocks$Laws", "pop", "()I"⟩, 3, prog_5_method_9_code, 1, (Option.some Jvm.ClassFile.FieldType.int), 0, 1009, px_c86))))) (.branch 89 (.branch 88 (.leaf (87, ⟨"ElevenBullocks$Laws", "joined", "(III)I"⟩, 3, prog_5_method_10_code, 3, (Option.some Jvm.ClassFile.FieldType.int), 3, 1009, px_c87)) (.leaf (88, ⟨"ElevenBullocks$Minutes", "moveOn", "(I)V"⟩, 4, prog_6_method_4_code, 7, (Option.none : Option Jvm.ClassFile.FieldType), 1, 1010, px_c88))) (.branch 90 (.leaf (89, ⟨"ElevenBullocks$Land", "hasGate", "(I)Z"⟩, 2, prog_4_method_4_code, 2, (Option.some Jvm.ClassFile.FieldType.boolean), 1, 1002, px_c89)) (.branch 91 (.leaf (90, ⟨"ElevenBullocks$Stand", "isOpen", "(I)Z"⟩, 8, prog_10_method_8_code, 2, (Option.some Jvm.ClassFile.FieldType.boolean), 1, 1004, px_c90)) (.leaf (91, ⟨"ElevenBullocks$Laws", "chanceOf", "(IIIIII)I"⟩, 3, prog_5_method_3_code, 11, (Option.some Jvm.ClassFile.FieldType.int), 6, 1009, px_c91)))))) (.branch 97 (.branch 94 (.branch 93 (.leaf (92, ⟨"ElevenBullocks$Minutes", "isTaken", "(I)Z"⟩, 4, prog_6_method_5_code, 2, (Option.some Jvm.ClassFile.FieldType.boolean), 1, 1010, px_c92)) (.leaf (93, ⟨"ElevenBullocks$Stand", "drawByTen", "()I"⟩, 8, prog_10_method_11_code, 2, (Option.some Jvm.ClassFile.FieldType.int), 0, 1004, px_c93))) (.branch 95 (.leaf (94, ⟨"ElevenBullocks$Stand", "renew", "()V"⟩, 8, prog_10_method_10_code, 1, (Option.none : Option Jvm.ClassFile.FieldType), 0, 1004, px_c94)) (.branch 96 (.leaf (95, ⟨"ElevenBullocks$Minutes", "doHarm", "()V"⟩, 4, prog_6_method_6_code, 3, (Option.none : Option Jvm.ClassFile.FieldType), 0, 1010, px_c95)) (.leaf (96, ⟨"ElevenBullocks$Minutes", "joinBunches", "()V"⟩, 4, prog_6_method_7_code, 3, (Option.none : Option Jvm.ClassFile.FieldType), 0, 1010, px_c96))))) (.branch 99 (.branch 98 (.leaf (97, ⟨"ElevenBullocks$Stand", "allDone", "()I"⟩, 8, prog_10_method_6_code, 1, (Option.some Jvm.ClassFile.FieldType.int), 0, 1004, px_c97)) (.leaf (98, ⟨"ElevenBullocks", "send", "(II)Z"⟩, 11, prog_1_method_12_code, 3, (Option.some Jvm.ClassFile.FieldType.boolean), 2, 1001, px_c98))) (.branch 100 (.leaf (99, ⟨"ElevenBullocks$Land", "hasPerson", "(I)Z"⟩, 2, prog_4_method_5_code, 2, (Option.some Jvm.ClassFile.FieldType.boolean), 1, 1002, px_c99)) (.branch 101 (.leaf (100, ⟨"ElevenBullocks", "gate", "(IZ)Z"⟩, 11, prog_1_method_13_code, 3, (Option.some Jvm.ClassFile.FieldType.boolean), 2, 1001, px_c100)) (.leaf (101, ⟨"ElevenBullocks$Stand", "turn", "(I)V"⟩, 8, prog_10_method_9_code, 2, (Option.none : Option Jvm.ClassFile.FieldType), 1, 1004, px_c101))))))) (.branch 112 (.branch 107 (.branch 104 (.branch 103 (.leaf (102, ⟨"ElevenBullocks", "split", "(II)I"⟩, 11, prog_1_method_14_code, 4, (Option.some Jvm.ClassFile.FieldType.int), 2, 1001, px_c102)) (.leaf (103, ⟨"ElevenBullocks", "played", "(I)I"⟩, 11, prog_1_method_15_code, 4, (Option.some Jvm.ClassFile.FieldType.int), 1, 1001, px_c103))) (.branch 105 (.leaf (104, ⟨"ElevenBullocks", "carryOut", "(III)Z"⟩, 11, prog_1_method_51_code, 4, (Option.some Jvm.ClassFile.FieldType.boolean), 3, 1001, px_c104)) (.branch 106 (.leaf (105, ⟨"ElevenBullocks", "day", "(II)I"⟩, 11, prog_1_method_16_code, 4, (Option.some Jvm.ClassFile.FieldType.int), 2, 1001, px_c105)) (.leaf (106, ⟨"ElevenBullocks", "happen", "()V"⟩, 11, prog_1_method_52_code, 3, (Option.none : Option Jvm.ClassFile.FieldType), 0, 1001, px_c106))))) (.branch 109 (.branch 108 (.leaf (107, ⟨"ElevenBullocks", "undo", "()I"⟩, 11, prog_1_method_17_code, 1, (Option.some Jvm.ClassFile.FieldType.int), 0, 1001, px_c107)) (.leaf (108, ⟨"ElevenBullocks$Steps", "takeBack", "(LElevenBullocks$Stand;LElevenBullocks$Land;)Z"⟩, 9, prog_11_method_3_code, 4, (Option.some Jvm.ClassFile.FieldType.boolean), 2, 1005, px_c108))) (.branch 110 (.leaf (109, ⟨"ElevenBullocks$Stand", "readFrom", "([II)V"⟩, 8, prog_10_method_14_code, 5, (Option.none : Option Jvm.ClassFile.FieldType), 2, 1004, px_c109)) (.branch 111 (.leaf (110, ⟨"ElevenBullocks", "bunch", "(II)I"⟩, 11, prog_1_method_18_code, 3, (Option.some Jvm.ClassFile.FieldType.int), 2, 1001, px_c110)) (.leaf (111, ⟨"ElevenBullocks", "ofPerson", "(II)I"⟩, 11, prog_1_method_19_code, 3, (Option.some Jvm.ClassFile.FieldType.int), 2, 1001, px_c111)))))) (.branch 117 (.branch 114 (.branch 113 (.leaf (112, ⟨"ElevenBullocks", "ofStretch", "(II)I"⟩, 11, prog_1_method_20_code, 3, (Option.some Jvm.ClassFile.FieldType.int), 2, 1001, px_c112)) (.leaf (113, ⟨"ElevenBullocks$Land", "bitsOfWaysAt", "(I)I"⟩, 2, prog_4_method_19_code, 4, (Option.some Jvm.ClassFile.FieldType.int), 1, 1002, px_c113))) (.branch 115 (.leaf (114, ⟨"ElevenBullocks", "ofWay", "(II)I"⟩, 11, prog_1_method_21_code, 3, (Option.some Jvm.ClassFile.FieldType.int), 2, 1001, px_c114)) (.branch 116 (.leaf (115, ⟨"ElevenBullocks", "takes", "(II)I"⟩, 11, prog_1_method_22_code, 5, (Option.some Jvm.ClassFile.FieldType.int), 2, 1001, px_c115)) (.leaf (116, ⟨"ElevenBullocks", "where", "(IIIZ)J"⟩, 11, prog_1_method_23_code, 9, (Option.some Jvm.ClassFile.FieldType.long), 4, 1001, px_c116))))) (.branch 120 (.branch 118 (.leaf (117, ⟨"ElevenBullocks$Walk", "oddsOf", "(III)J"⟩, 10, prog_12_method_11_code, 7, (Option.some Jvm.ClassFile.FieldType.long), 3, 1011, px_c117)) (.branch 119 (.leaf (118, ⟨"ElevenBullocks$Walk", "begin", "(II)V"⟩, 10, prog_12_method_2_code, 3, (Option.none : Option Jvm.ClassFile.FieldType), 2, 1011, px_c118)) (.leaf (119, ⟨"java/util/Arrays", "fill", "([JJ)V"⟩, 14, prog_21_method_101_code, 5, (Option.none : Option Jvm.ClassFile.FieldType), 2, 1003, px_c119)))) (.branch 121 (.leaf (120, ⟨"ElevenBullocks$Walk", "standOf", "(I)I"⟩, 10, prog_12_method_3_code, 2, (Option.some Jvm.ClassFile.FieldType.int), 1, 1011, px_c120)) (.branch 122 (.leaf (121, ⟨"ElevenBullocks$Walk", "moveOdds", "()V"⟩, 10, prog_12_method_13_code, 2, (Option.none : Option Jvm.ClassFile.FieldType), 0, 1011, px_c121)) (.leaf (122, ⟨"ElevenBullocks$Walk", "moveOddsFrom", "(I)V"⟩, 10, prog_12_method_14_code, 10, (Option.none : Option Jvm.ClassFile.FieldType), 1, 1011, px_c122)))))))) (.branch 143 (.branch 133 (.branch 128 (.branch 125 (.branch 124 (.leaf (123, ⟨"ElevenBullocks$Walk", "chanceOf", "(III)I"⟩, 10, prog_12_method_4_code, 10, (Option.some Jvm.ClassFile.FieldType.int), 3, 1011, px_c123)) (.leaf (124, ⟨"ElevenBullocks$Walk", "oddsOfAll", "(I)J"⟩, 10, prog_12_method_12_code, 5, (Option.some Jvm.ClassFile.FieldType.long), 1, 1011, px_c124))) (.branch 126 (.leaf (125, ⟨"ElevenBullocks", "inLowestTerms", "(JJZ)J"⟩, 11, prog_1_method_45_code, 12, (Option.some Jvm.ClassFile.FieldType.long), 3, 1001, px_c125)) (.branch 127 (.leaf (126, ⟨"ElevenBullocks", "canCome", "(I)I"⟩, 11, prog_1_method_24_code, 2, (Option.some Jvm.ClassFile.FieldType.int), 1, 1001, px_c126)) (.leaf (127, ⟨"ElevenBullocks$Walk", "reached", "(I)I"⟩, 10, prog_12_method_5_code, 2, (Option.some Jvm.ClassFile.FieldType.int), 1, 1011, px_c127))))) (.branch 130 (.branch 129 (.leaf (128, ⟨"ElevenBullocks$Walk", "spread", "(I)I"⟩, 10, prog_12_method_6_code, 5, (Option.some Jvm.ClassFile.FieldType.int), 1, 1011, px_c128)) (.leaf (129, ⟨"ElevenBullocks$Walk", "goFrom", "(II)I"⟩, 10, prog_12_method_7_code, 9, (Option.some Jvm.ClassFile.FieldType.int), 2, 1011, px_c129))) (.branch 131 (.leaf (130, ⟨"ElevenBullocks", "stopped", "(II)I"⟩, 11, prog_1_method_25_code, 3, (Option.some Jvm.ClassFile.FieldType.int), 2, 1001, px_c130)) (.branch 132 (.leaf (131, ⟨"ElevenBullocks$Walk", "fewestWhoStop", "(II)I"⟩, 10, prog_12_method_8_code, 8, (Option.some Jvm.ClassFile.FieldType.int), 2, 1011, px_c131)) (.leaf (132, ⟨"ElevenBullocks$Land", "bitsOfKind", "(I)I"⟩, 2, prog_4_method_20_code, 4, (Option.some Jvm.ClassFile.FieldType.int), 1, 1002, px_c132)))))) (.branch 138 (.branch 135 (.branch 134 (.leaf (133, ⟨"ElevenBullocks", "nextSet", "(I)I"⟩, 11, prog_1_method_47_code, 3, (Option.some Jvm.ClassFile.FieldType.int), 1, 1001, px_c133)) (.leaf (134, ⟨"ElevenBullocks", "soon", "(II)I"⟩, 11, prog_1_method_26_code, 3, (Option.some Jvm.ClassFile.FieldType.int), 2, 1001, px_c134))) (.branch 136 (.leaf (135, ⟨"ElevenBullocks$Land", "minutesBetween", "(III)I"⟩, 2, prog_4_method_23_code, 5, (Option.some Jvm.ClassFile.FieldType.int), 3, 1002, px_c135)) (.branch 137 (.leaf (136, ⟨"ElevenBullocks", "whom", "(III)I"⟩, 11, prog_1_method_27_code, 5, (Option.some Jvm.ClassFile.FieldType.int), 3, 1001, px_c136)) (.leaf (137, ⟨"ElevenBullocks$Errands", "sendAll", "(II)I"⟩, 0, prog_2_method_2_code, 4, (Option.some Jvm.ClassFile.FieldType.int), 2, 1012, px_c137))))) (.branch 140 (.branch 139 (.leaf (138, ⟨"java/lang/Integer", "bitCount", "(I)I"⟩, 13, prog_15_method_49_code, 1, (Option.some Jvm.ClassFile.FieldType.int), 1, 1021, px_c138)) (.leaf (139, ⟨"ElevenBullocks$Errands", "choosePerson", "(III)V"⟩, 0, prog_2_method_4_code, 6, (Option.none : Option Jvm.ClassFile.FieldType), 3, 1012, px_c139))) (.branch 141 (.leaf (140, ⟨"ElevenBullocks$Errands", "keepChoice", "(I)V"⟩, 0, prog_2_method_5_code, 2, (Option.none : Option Jvm.ClassFile.FieldType), 1, 1012, px_c140)) (.branch 142 (.leaf (141, ⟨"ElevenBullocks$Errands", "whoGoesTo", "(I)I"⟩, 0, prog_2_method_3_code, 3, (Option.some Jvm.ClassFile.FieldType.int), 1, 1012, px_c141)) (.leaf (142, ⟨"ElevenBullocks", "home", "(I)I"⟩, 11, prog_1_method_28_code, 2, (Option.some Jvm.ClassFile.FieldType.int), 1, 1001, px_c142))))))) (.branch 153 (.branch 148 (.branch 145 (.branch 144 (.leaf (143, ⟨"ElevenBullocks$Walk", "fewestToShut", "(I)I"⟩, 10, prog_12_method_9_code, 10, (Option.some Jvm.ClassFile.FieldType.int), 1, 1011, px_c143)) (.leaf (144, ⟨"ElevenBullocks$Walk", "openGates", "()I"⟩, 10, prog_12_method_10_code, 3, (Option.some Jvm.ClassFile.FieldType.int), 0, 1011, px_c144))) (.branch 146 (.leaf (145, ⟨"ElevenBullocks", "seen", "(II)I"⟩, 11, prog_1_method_29_code, 3, (Option.some Jvm.ClassFile.FieldType.int), 2, 1001, px_c145)) (.branch 147 (.leaf (146, ⟨"ElevenBullocks$Notes", "addSight", "(II)I"⟩, 5, prog_7_method_2_code, 3, (Option.some Jvm.ClassFile.FieldType.int), 2, 1006, px_c146)) (.leaf (147, ⟨"ElevenBullocks", "which", "()I"⟩, 11, prog_1_method_30_code, 4, (Option.some Jvm.ClassFile.FieldType.int), 0, 1001, px_c147))))) (.branch 150 (.branch 149 (.leaf (148, ⟨"ElevenBullocks$Land", "measureGates", "()V"⟩, 2, prog_4_method_14_code, 2, (Option.none : Option Jvm.ClassFile.FieldType), 0, 1002, px_c148)) (.leaf (149, ⟨"ElevenBullocks$Land", "outsideOf", "(I)I"⟩, 2, prog_4_method_22_code, 4, (Option.some Jvm.ClassFile.FieldType.int), 1, 1002, px_c149))) (.branch 151 (.leaf (150, ⟨"ElevenBullocks$Notes", "couldAllBeFrom", "(ILElevenBullocks$Land;)Z"⟩, 5, prog_7_method_3_code, 4, (Option.some Jvm.ClassFile.FieldType.boolean), 2, 1006, px_c150)) (.branch 152 (.leaf (151, ⟨"ElevenBullocks$Land", "distanceByGates", "(II)I"⟩, 2, prog_4_method_15_code, 3, (Option.some Jvm.ClassFile.FieldType.int), 2, 1002, px_c151)) (.leaf (152, ⟨"ElevenBullocks", "many", "(IIIZ)J"⟩, 11, prog_1_method_31_code, 8, (Option.some Jvm.ClassFile.FieldType.long), 4, 1001, px_c152)))))) (.branch 158 (.branch 155 (.branch 154 (.leaf (153, ⟨"ElevenBullocks", "weightOf", "(III)J"⟩, 11, prog_1_method_46_code, 6, (Option.some Jvm.ClassFile.FieldType.long), 3, 1001, px_c153)) (.leaf (154, ⟨"ElevenBullocks", "after", "(II)I"⟩, 11, prog_1_method_32_code, 4, (Option.some Jvm.ClassFile.FieldType.int), 2, 1001, px_c154))) (.branch 156 (.leaf (155, ⟨"ElevenBullocks$Errands", "goAfterAll", "(I)I"⟩, 0, prog_2_method_6_code, 4, (Option.some Jvm.ClassFile.FieldType.int), 1, 1012, px_c155)) (.branch 157 (.leaf (156, ⟨"ElevenBullocks$Errands", "chooseBunch", "(IIIII)V"⟩, 0, prog_2_method_8_code, 10, (Option.none : Option Jvm.ClassFile.FieldType), 5, 1012, px_c156)) (.leaf (157, ⟨"ElevenBullocks$Errands", "bunchAt", "(I)I"⟩, 0, prog_2_method_7_code, 2, (Option.some Jvm.ClassFile.FieldType.int), 1, 1012, px_c157))))) (.branch 161 (.branch 159 (.leaf (158, ⟨"ElevenBullocks", "pays", "(II)I"⟩, 11, prog_1_method_33_code, 3, (Option.some Jvm.ClassFile.FieldType.int), 2, 1001, px_c158)) (.branch 160 (.leaf (159, ⟨"ElevenBullocks", "costAt", "(ILElevenBullocks$Script;)I"⟩, 11, prog_1_method_53_code, 3, (Option.some Jvm.ClassFile.FieldType.int), 2, 1001, px_c159)) (.leaf (160, ⟨"ElevenBullocks$Laws", "shareOf", "(LElevenBullocks$Script;I)I"⟩, 3, prog_5_method_4_code, 3, (Option.some Jvm.ClassFile.FieldType.int), 2, 1009, px_c160)))) (.branch 162 (.leaf (161, ⟨"ElevenBullocks", "cheapest", "()I"⟩, 11, prog_1_method_34_code, 5, (Option.some Jvm.ClassFile.FieldType.int), 0, 1001, px_c161)) (.branch 163 (.leaf (162, ⟨"ElevenBullocks", "costOfGardens", "(I)I"⟩, 11, prog_1_method_54_code, 4, (Option.some Jvm.ClassFile.FieldType.int), 1, 1001, px_c162)) (.leaf (163, ⟨"ElevenBullocks", "mending", "(IIIII)Z"⟩, 11, prog_1_method_35_code, 7, (Option.some Jvm.ClassFile.FieldType.boolean), 5, 1001, px_c163)))))))))) (.branch 246 (.branch 205 (.branch 184 (.branch 174 (.branch 169 (.branch 166 (.branch 165 (.leaf (164, ⟨"ElevenBullocks", "saved", "(I)I"⟩, 11, prog_1_method_36_code, 2, (Option.some Jvm.ClassFile.FieldType.int), 1, 1001, px_c164)) (.leaf (165, ⟨"ElevenBullocks$Notes", "bestGate", "()I"⟩, 5, prog_7_method_4_code, 4, (Option.some Jvm.ClassFile.FieldType.int), 0, 1006, px_c165))) (.branch 167 (.leaf (166, ⟨"ElevenBullocks", "tried", "(IZ)I"⟩, 11, prog_1_method_37_code, 3, (Option.some Jvm.ClassFile.FieldType.int), 2, 1001, px_c166)) (.branch 168 (.leaf (167, ⟨"ElevenBullocks$Notes", "forgetTries", "()V"⟩, 5, prog_7_method_6_code, 1, (Option.none : Option Jvm.ClassFile.FieldType), 0, 1006, px_c167)) (.leaf (168, ⟨"ElevenBullocks$Notes", "allTries", "()I"⟩, 5, prog_7_method_5_code, 1, (Option.some Jvm.ClassFile.FieldType.int), 0, 1006, px_c168))))) (.branch 171 (.branch 170 (.leaf (169, ⟨"ElevenBullocks", "turned", "(IZ)I"⟩, 11, prog_1_method_38_code, 3, (Option.some Jvm.ClassFile.FieldType.int), 2, 1001, px_c169)) (.leaf (170, ⟨"ElevenBullocks", "best", "()I"⟩, 11, prog_1_method_39_code, 1, (Option.some Jvm.ClassFile.FieldType.int), 0, 1001, px_c170))) (.branch 172 (.leaf (171, ⟨"ElevenBullocks$Notes", "bestHow", "()I"⟩, 5, prog_7_method_7_code, 3, (Option.some Jvm.ClassFile.FieldType.int), 0, 1006, px_c171)) (.branch 173 (.leaf (172, ⟨"ElevenBullocks$Notes", "isBetter", "(II)Z"⟩, 5, prog_7_method_8_code, 5, (Option.some Jvm.ClassFile.FieldType.boolean), 2, 1006, px_c172)) (.leaf (173, ⟨"ElevenBullocks", "image", "()I"⟩, 11, prog_1_method_40_code, 1, (Option.some Jvm.ClassFile.FieldType.int), 0, 1001, px_c173)))))) (.branch 179 (.branch 176 (.branch 175 (.leaf (174, ⟨"ElevenBullocks$Stand", "likeOther", "(LElevenBullocks$Stand;)V"⟩, 8, prog_10_method_12_code, 2, (Option.none : Option Jvm.ClassFile.FieldType), 1, 1004, px_c174)) (.leaf (175, ⟨"ElevenBullocks$Steps", "likeOther", "(LElevenBullocks$Steps;)V"⟩, 9, prog_11_method_4_code, 2, (Option.none : Option Jvm.ClassFile.FieldType), 1, 1005, px_c175))) (.branch 177 (.leaf (176, ⟨"ElevenBullocks$Notes", "likeOther", "(LElevenBullocks$Notes;)V"⟩, 5, prog_7_method_9_code, 2, (Option.none : Option Jvm.ClassFile.FieldType), 1, 1006, px_c176)) (.branch 178 (.leaf (177, ⟨"ElevenBullocks", "back", "()I"⟩, 11, prog_1_method_41_code, 1, (Option.some Jvm.ClassFile.FieldType.int), 0, 1001, px_c177)) (.leaf (178, ⟨"ElevenBullocks$Land", "cutTo", "(III)V"⟩, 2, prog_4_method_9_code, 5, (Option.none : Option Jvm.ClassFile.FieldType), 3, 1002, px_c178))))) (.branch 181 (.branch 180 (.leaf (179, ⟨"ElevenBullocks", "about", "(I)I"⟩, 11, prog_1_method_42_code, 2, (Option.some Jvm.ClassFile.FieldType.int), 1, 1001, px_c179)) (.leaf (180, ⟨"ElevenBullocksModel", "<init>", "()V"⟩, 12, prog_14_method_1_code, 1, (Option.none : Option Jvm.ClassFile.FieldType), 0, 1014, px_c180))) (.branch 182 (.leaf (181, ⟨"ElevenBullocksModel", "copy", "([I[I)V"⟩, 12, prog_14_method_2_code, 3, (Option.none : Option Jvm.ClassFile.FieldType), 2, 1014, px_c181)) (.branch 183 (.leaf (182, ⟨"ElevenBullocksModel", "stretch", "(II)I"⟩, 12, prog_14_method_21_code, 4, (Option.some Jvm.ClassFile.FieldType.int), 2, 1014, px_c182)) (.leaf (183, ⟨"ElevenBullocksModel", "isIn", "(III)Z"⟩, 12, prog_14_method_3_code, 3, (Option.some Jvm.ClassFile.FieldType.boolean), 3, 1014, px_c183))))))) (.branch 194 (.branch 189 (.branch 186 (.branch 185 (.leaf (184, ⟨"ElevenBullocksModel", "way", "(IIZ)I"⟩, 12, prog_14_method_23_code, 5, (Option.some Jvm.ClassFile.FieldType.int), 3, 1014, px_c184)) (.leaf (185, ⟨"ElevenBullocksModel", "isStretch", "(I)Z"⟩, 12, prog_14_method_6_code, 2, (Option.some Jvm.ClassFile.FieldType.boolean), 1, 1014, px_c185))) (.branch 187 (.leaf (186, ⟨"ElevenBullocksModel", "waysAt", "(I)I"⟩, 12, prog_14_method_22_code, 4, (Option.some Jvm.ClassFile.FieldType.int), 1, 1014, px_c186)) (.branch 188 (.leaf (187, ⟨"ElevenBullocksModel", "acrossOf", "(II)I"⟩, 12, prog_14_method_15_code, 5, (Option.some Jvm.ClassFile.FieldType.int), 2, 1014, px_c187)) (.leaf (188, ⟨"ElevenBullocksModel", "bits", "(I)I"⟩, 12, prog_14_method_5_code, 3, (Option.some Jvm.ClassFile.FieldType.int), 1, 1014, px_c188))))) (.branch 191 (.branch 190 (.leaf (189, ⟨"ElevenBullocksModel", "person", "(IZZI)I"⟩, 12, prog_14_method_25_code, 5, (Option.some Jvm.ClassFile.FieldType.int), 4, 1014, px_c189)) (.leaf (190, ⟨"ElevenBullocksModel", "personNow", "(IIII)I"⟩, 12, prog_14_method_24_code, 6, (Option.some Jvm.ClassFile.FieldType.int), 4, 1014, px_c190))) (.branch 192 (.leaf (191, ⟨"ElevenBullocksModel", "set", "(III)V"⟩, 12, prog_14_method_20_code, 4, (Option.none : Option Jvm.ClassFile.FieldType), 3, 1014, px_c191)) (.branch 193 (.leaf (192, ⟨"ElevenBullocksModel", "feed", "(IIIII)I"⟩, 12, prog_14_method_27_code, 6, (Option.some Jvm.ClassFile.FieldType.int), 5, 1014, px_c192)) (.leaf (193, ⟨"ElevenBullocksModel", "four", "(I)V"⟩, 12, prog_14_method_26_code, 3, (Option.none : Option Jvm.ClassFile.FieldType), 1, 1014, px_c193)))))) (.branch 199 (.branch 196 (.branch 195 (.leaf (194, ⟨"ElevenBullocksModel", "end", "(I)I"⟩, 12, prog_14_method_28_code, 2, (Option.some Jvm.ClassFile.FieldType.int), 1, 1014, px_c194)) (.leaf (195, ⟨"ElevenBullocksModel", "text", "()I"⟩, 12, prog_14_method_68_code, 1, (Option.some Jvm.ClassFile.FieldType.int), 0, 1014, px_c195))) (.branch 197 (.leaf (196, ⟨"ElevenBullocksModel", "readText", "()I"⟩, 12, prog_14_method_67_code, 2, (Option.some Jvm.ClassFile.FieldType.int), 0, 1014, px_c196)) (.branch 198 (.leaf (197, ⟨"ElevenBullocksModel", "nextToken", "()V"⟩, 12, prog_14_method_33_code, 2, (Option.none : Option Jvm.ClassFile.FieldType), 0, 1014, px_c197)) (.leaf (198, ⟨"ElevenBullocksModel", "byteAt", "(I)I"⟩, 12, prog_14_method_29_code, 2, (Option.some Jvm.ClassFile.FieldType.int), 1, 1014, px_c198))))) (.branch 202 (.branch 200 (.leaf (199, ⟨"ElevenBullocksModel", "isFigure", "(I)Z"⟩, 12, prog_14_method_31_code, 1, (Option.some Jvm.ClassFile.FieldType.boolean), 1, 1014, px_c199)) (.branch 201 (.leaf (200, ⟨"ElevenBullocksModel", "isLetterByte", "(I)Z"⟩, 12, prog_14_method_30_code, 1, (Option.some Jvm.ClassFile.FieldType.boolean), 1, 1014, px_c200)) (.leaf (201, ⟨"ElevenBullocksModel", "isSign", "(I)Z"⟩, 12, prog_14_method_32_code, 1, (Option.some Jvm.ClassFile.FieldType.boolean), 1, 1014, px_c201)))) (.branch 203 (.leaf (202, ⟨"ElevenBullocksModel", "clause", "()I"⟩, 12, prog_14_method_66_code, 5, (Option.some Jvm.ClassFile.FieldType.int), 0, 1014, px_c202)) (.branch 204 (.leaf (203, ⟨"ElevenBullocksModel", "sortOf", "()I"⟩, 12, prog_14_method_65_code, 1, (Option.some Jvm.ClassFile.FieldType.int), 0, 1014, px_c203)) (.leaf (204, ⟨"ElevenBullocksModel", "w4", "(IIII)J"⟩, 12, prog_14_method_36_code, 4, (Option.some Jvm.ClassFile.FieldType.long), 4, 1014, px_c204)))))))) (.branch 225 (.branch 215 (.branch 210 (.branch 207 (.branch 206 (.leaf (205, ⟨"ElevenBullocksModel", "w3", "(III)J"⟩, 12, prog_14_method_35_code, 3, (Option.some Jvm.ClassFile.FieldType.long), 3, 1014, px_c205)) (.leaf (206, ⟨"ElevenBullocksModel", "w2", "(II)J"⟩, 12, prog_14_method_34_code, 2, (Option.some Jvm.ClassFile.FieldType.long), 2, 1014, px_c206))) (.branch 208 (.leaf (207, ⟨"ElevenBullocksModel", "isWord", "(J)Z"⟩, 12, prog_14_method_39_code, 3, (Option.some Jvm.ClassFile.FieldType.boolean), 1, 1014, px_c207)) (.branch 209 (.leaf (208, ⟨"ElevenBullocksModel", "w5", "(IIIII)J"⟩, 12, prog_14_method_37_code, 5, (Option.some Jvm.ClassFile.FieldType.long), 5, 1014, px_c208)) (.leaf (209, ⟨"ElevenBullocksModel", "w6", "(IIIIII)J"⟩, 12, prog_14_method_38_code, 6, (Option.some Jvm.ClassFile.FieldType.long), 6, 1014, px_c209))))) (.branch 212 (.branch 211 (.leaf (210, ⟨"ElevenBullocksModel", "has", "(II)Z"⟩, 12, prog_14_method_4_code, 2, (Option.some Jvm.ClassFile.FieldType.boolean), 2, 1014, px_c210)) (.leaf (211, ⟨"ElevenBullocksModel", "body", "(II)I"⟩, 12, prog_14_method_64_code, 3, (Option.some Jvm.ClassFile.FieldType.int), 2, 1014, px_c211))) (.branch 213 (.leaf (212, ⟨"ElevenBullocksModel", "pair", "(IIIJII)I"⟩, 12, prog_14_method_63_code, 9, (Option.some Jvm.ClassFile.FieldType.int), 6, 1014, px_c212)) (.branch 214 (.leaf (213, ⟨"ElevenBullocksModel", "figure", "(III)I"⟩, 12, prog_14_method_60_code, 4, (Option.some Jvm.ClassFile.FieldType.int), 3, 1014, px_c213)) (.leaf (214, ⟨"ElevenBullocksModel", "worded", "(JIII)I"⟩, 12, prog_14_method_61_code, 6, (Option.some Jvm.ClassFile.FieldType.int), 4, 1014, px_c214)))))) (.branch 220 (.branch 217 (.branch 216 (.leaf (215, ⟨"ElevenBullocksModel", "lawClause", "(I)I"⟩, 12, prog_14_method_62_code, 3, (Option.some Jvm.ClassFile.FieldType.int), 1, 1014, px_c215)) (.leaf (216, ⟨"ElevenBullocksModel", "summed", "()I"⟩, 12, prog_14_method_59_code, 2, (Option.some Jvm.ClassFile.FieldType.int), 0, 1014, px_c216))) (.branch 218 (.leaf (217, ⟨"ElevenBullocksModel", "behindOne", "()Z"⟩, 12, prog_14_method_58_code, 4, (Option.some Jvm.ClassFile.FieldType.boolean), 0, 1014, px_c217)) (.branch 219 (.leaf (218, ⟨"ElevenBullocksModel", "betweenOf", "()I"⟩, 12, prog_14_method_54_code, 1, (Option.some Jvm.ClassFile.FieldType.int), 0, 1014, px_c218)) (.leaf (219, ⟨"ElevenBullocksModel", "openNow", "()I"⟩, 12, prog_14_method_47_code, 1, (Option.some Jvm.ClassFile.FieldType.int), 0, 1014, px_c219))))) (.branch 222 (.branch 221 (.leaf (220, ⟨"ElevenBullocksModel", "openAt", "()I"⟩, 12, prog_14_method_46_code, 2, (Option.some Jvm.ClassFile.FieldType.int), 0, 1014, px_c220)) (.leaf (221, ⟨"ElevenBullocksModel", "isCompared", "()Z"⟩, 12, prog_14_method_48_code, 2, (Option.some Jvm.ClassFile.FieldType.boolean), 0, 1014, px_c221))) (.branch 223 (.leaf (222, ⟨"ElevenBullocksModel", "rank", "(I)I"⟩, 12, prog_14_method_44_code, 1, (Option.some Jvm.ClassFile.FieldType.int), 1, 1014, px_c222)) (.branch 224 (.leaf (223, ⟨"ElevenBullocksModel", "compareOf", "()I"⟩, 12, prog_14_method_53_code, 1, (Option.some Jvm.ClassFile.FieldType.int), 0, 1014, px_c223)) (.leaf (224, ⟨"ElevenBullocksModel", "settle", "(I)V"⟩, 12, prog_14_method_45_code, 2, (Option.none : Option Jvm.ClassFile.FieldType), 1, 1014, px_c224))))))) (.branch 235 (.branch 230 (.branch 227 (.branch 226 (.leaf (225, ⟨"ElevenBullocksModel", "emit", "(II)V"⟩, 12, prog_14_method_40_code, 3, (Option.none : Option Jvm.ClassFile.FieldType), 2, 1014, px_c225)) (.leaf (226, ⟨"ElevenBullocksModel", "partOf", "(I)I"⟩, 12, prog_14_method_55_code, 2, (Option.some Jvm.ClassFile.FieldType.int), 1, 1014, px_c226))) (.branch 228 (.leaf (227, ⟨"ElevenBullocksModel", "bind", "()V"⟩, 12, prog_14_method_56_code, 2, (Option.none : Option Jvm.ClassFile.FieldType), 0, 1014, px_c227)) (.branch 229 (.leaf (228, ⟨"ElevenBullocksModel", "shut", "(I)V"⟩, 12, prog_14_method_57_code, 2, (Option.none : Option Jvm.ClassFile.FieldType), 1, 1014, px_c228)) (.leaf (229, ⟨"ElevenBullocksModel", "beginOne", "()I"⟩, 12, prog_14_method_52_code, 2, (Option.some Jvm.ClassFile.FieldType.int), 0, 1014, px_c229))))) (.branch 232 (.branch 231 (.leaf (230, ⟨"ElevenBullocksModel", "nameOf", "()I"⟩, 12, prog_14_method_41_code, 1, (Option.some Jvm.ClassFile.FieldType.int), 0, 1014, px_c230)) (.leaf (231, ⟨"ElevenBullocksModel", "isOf", "(I)Z"⟩, 12, prog_14_method_42_code, 2, (Option.some Jvm.ClassFile.FieldType.boolean), 1, 1014, px_c231))) (.branch 233 (.leaf (232, ⟨"ElevenBullocksModel", "letter", "()I"⟩, 12, prog_14_method_43_code, 1, (Option.some Jvm.ClassFile.FieldType.int), 0, 1014, px_c232)) (.branch 234 (.leaf (233, ⟨"ElevenBullocksModel", "one", "(II)V"⟩, 12, prog_14_method_51_code, 3, (Option.none : Option Jvm.ClassFile.FieldType), 2, 1014, px_c233)) (.leaf (234, ⟨"ElevenBullocksModel", "opened", "(I)I"⟩, 12, prog_14_method_50_code, 2, (Option.some Jvm.ClassFile.FieldType.int), 1, 1014, px_c234)))))) (.branch 240 (.branch 237 (.branch 236 (.leaf (235, ⟨"ElevenBullocksModel", "isAskAhead", "()Z"⟩, 12, prog_14_method_49_code, 1, (Option.some Jvm.ClassFile.FieldType.boolean), 0, 1014, px_c235)) (.leaf (236, ⟨"ElevenBullocksModel", "fault", "(I)I"⟩, 12, prog_14_method_69_code, 2, (Option.some Jvm.ClassFile.FieldType.int), 1, 1014, px_c236))) (.branch 238 (.leaf (237, ⟨"ElevenBullocksModel", "by", "(I)Z"⟩, 12, prog_14_method_70_code, 2, (Option.some Jvm.ClassFile.FieldType.boolean), 1, 1014, px_c237)) (.branch 239 (.leaf (238, ⟨"ElevenBullocksModel", "undo", "()I"⟩, 12, prog_14_method_82_code, 3, (Option.some Jvm.ClassFile.FieldType.int), 0, 1014, px_c238)) (.leaf (239, ⟨"ElevenBullocksModel", "get", "(II)I"⟩, 12, prog_14_method_19_code, 3, (Option.some Jvm.ClassFile.FieldType.int), 2, 1014, px_c239))))) (.branch 243 (.branch 241 (.leaf (240, ⟨"ElevenBullocksModel", "stray", "(II)I"⟩, 12, prog_14_method_86_code, 4, (Option.some Jvm.ClassFile.FieldType.int), 2, 1014, px_c240)) (.branch 242 (.leaf (241, ⟨"ElevenBullocksModel", "freeBunch", "()I"⟩, 12, prog_14_method_84_code, 2, (Option.some Jvm.ClassFile.FieldType.int), 0, 1014, px_c241)) (.leaf (242, ⟨"ElevenBullocksModel", "sizeOf", "(I)I"⟩, 12, prog_14_method_16_code, 2, (Option.some Jvm.ClassFile.FieldType.int), 1, 1014, px_c242)))) (.branch 244 (.leaf (243, ⟨"ElevenBullocksModel", "beasts", "()I"⟩, 12, prog_14_method_83_code, 3, (Option.some Jvm.ClassFile.FieldType.int), 0, 1014, px_c243)) (.branch 245 (.leaf (244, ⟨"ElevenBullocksModel", "keep", "()V"⟩, 12, prog_14_method_81_code, 3, (Option.none : Option Jvm.ClassFile.FieldType), 0, 1014, px_c244)) (.leaf (245, ⟨"ElevenBullocksModel", "isOpen", "(I)Z"⟩, 12, prog_14_method_14_code, 2, (Option.some Jvm.ClassFile.FieldType.boolean), 1, 1014, px_c245))))))))) (.branch 287 (.branch 266 (.branch 256 (.branch 251 (.branch 248 (.branch 247 (.leaf (246, ⟨"ElevenBullocksModel", "doneAt", "(I)I"⟩, 12, prog_14_method_12_code, 2, (Option.some Jvm.ClassFile.FieldType.int), 1, 1014, px_c246)) (.leaf (247, ⟨"ElevenBullocksModel", "layBunch", "(IIII)V"⟩, 12, prog_14_method_85_code, 5, (Option.none : Option Jvm.ClassFile.FieldType), 4, 1014, px_c247))) (.branch 249 (.leaf (248, ⟨"ElevenBullocksModel", "send", "(II)Z"⟩, 12, prog_14_method_87_code, 3, (Option.some Jvm.ClassFile.FieldType.boolean), 2, 1014, px_c248)) (.branch 250 (.leaf (249, ⟨"ElevenBullocksModel", "isPerson", "(I)Z"⟩, 12, prog_14_method_8_code, 2, (Option.some Jvm.ClassFile.FieldType.boolean), 1, 1014, px_c249)) (.leaf (250, ⟨"ElevenBullocksModel", "gate", "(IZ)Z"⟩, 12, prog_14_method_88_code, 3, (Option.some Jvm.ClassFile.FieldType.boolean), 2, 1014, px_c250))))) (.branch 253 (.branch 252 (.leaf (251, ⟨"ElevenBullocksModel", "isWay", "(I)Z"⟩, 12, prog_14_method_7_code, 2, (Option.some Jvm.ClassFile.FieldType.boolean), 1, 1014, px_c251)) (.leaf (252, ⟨"ElevenBullocksModel", "isPath", "(I)Z"⟩, 12, prog_14_method_13_code, 2, (Option.some Jvm.ClassFile.FieldType.boolean), 1, 1014, px_c252))) (.branch 254 (.leaf (253, ⟨"ElevenBullocksModel", "split", "(II)I"⟩, 12, prog_14_method_89_code, 4, (Option.some Jvm.ClassFile.FieldType.int), 2, 1014, px_c253)) (.branch 255 (.leaf (254, ⟨"ElevenBullocksModel", "isBunch", "(I)Z"⟩, 12, prog_14_method_9_code, 2, (Option.some Jvm.ClassFile.FieldType.boolean), 1, 1014, px_c254)) (.leaf (255, ⟨"ElevenBullocksModel", "atOf", "(I)I"⟩, 12, prog_14_method_17_code, 2, (Option.some Jvm.ClassFile.FieldType.int), 1, 1014, px_c255)))))) (.branch 261 (.branch 258 (.branch 257 (.leaf (256, ⟨"ElevenBullocksModel", "cameOf", "(I)I"⟩, 12, prog_14_method_18_code, 2, (Option.some Jvm.ClassFile.FieldType.int), 1, 1014, px_c256)) (.leaf (257, ⟨"ElevenBullocksModel", "minute", "(I)I"⟩, 12, prog_14_method_100_code, 2, (Option.some Jvm.ClassFile.FieldType.int), 1, 1014, px_c257))) (.branch 259 (.leaf (258, ⟨"ElevenBullocksModel", "areMinutes", "(I)Z"⟩, 12, prog_14_method_99_code, 3, (Option.some Jvm.ClassFile.FieldType.boolean), 1, 1014, px_c258)) (.branch 260 (.leaf (259, ⟨"ElevenBullocksModel", "passStep", "()Z"⟩, 12, prog_14_method_98_code, 1, (Option.some Jvm.ClassFile.FieldType.boolean), 0, 1014, px_c259)) (.leaf (260, ⟨"ElevenBullocksModel", "pass", "()V"⟩, 12, prog_14_method_96_code, 4, (Option.none : Option Jvm.ClassFile.FieldType), 0, 1014, px_c260))))) (.branch 263 (.branch 262 (.leaf (261, ⟨"ElevenBullocksModel", "findFar", "(IZ)V"⟩, 12, prog_14_method_90_code, 7, (Option.none : Option Jvm.ClassFile.FieldType), 2, 1014, px_c261)) (.leaf (262, ⟨"ElevenBullocksModel", "goOn", "(I)V"⟩, 12, prog_14_method_91_code, 6, (Option.none : Option Jvm.ClassFile.FieldType), 1, 1014, px_c262))) (.branch 264 (.leaf (263, ⟨"ElevenBullocksModel", "paceOf", "(I)I"⟩, 12, prog_14_method_79_code, 2, (Option.some Jvm.ClassFile.FieldType.int), 1, 1014, px_c263)) (.branch 265 (.leaf (264, ⟨"ElevenBullocksModel", "name", "(II)V"⟩, 12, prog_14_method_78_code, 3, (Option.none : Option Jvm.ClassFile.FieldType), 2, 1014, px_c264)) (.leaf (265, ⟨"ElevenBullocksModel", "kindOf", "(I)I"⟩, 12, prog_14_method_10_code, 2, (Option.some Jvm.ClassFile.FieldType.int), 1, 1014, px_c265))))))) (.branch 276 (.branch 271 (.branch 268 (.branch 267 (.leaf (266, ⟨"ElevenBullocksModel", "peopleAt", "(I)I"⟩, 12, prog_14_method_76_code, 4, (Option.some Jvm.ClassFile.FieldType.int), 1, 1014, px_c266)) (.leaf (267, ⟨"ElevenBullocksModel", "says", "(IIII)I"⟩, 12, prog_14_method_75_code, 7, (Option.some Jvm.ClassFile.FieldType.int), 4, 1014, px_c267))) (.branch 269 (.leaf (268, ⟨"ElevenBullocksModel", "worked", "(II)I"⟩, 12, prog_14_method_74_code, 10, (Option.some Jvm.ClassFile.FieldType.int), 2, 1014, px_c268)) (.branch 270 (.leaf (269, ⟨"ElevenBullocksModel", "two", "(IJJ)J"⟩, 12, prog_14_method_72_code, 5, (Option.some Jvm.ClassFile.FieldType.long), 3, 1014, px_c269)) (.leaf (270, ⟨"ElevenBullocksModel", "clip", "(J)J"⟩, 12, prog_14_method_71_code, 2, (Option.some Jvm.ClassFile.FieldType.long), 1, 1014, px_c270))))) (.branch 273 (.branch 272 (.leaf (271, ⟨"ElevenBullocksModel", "isAsked", "(IJJ)Z"⟩, 12, prog_14_method_73_code, 5, (Option.some Jvm.ClassFile.FieldType.boolean), 3, 1014, px_c271)) (.leaf (272, ⟨"ElevenBullocksModel", "move", "(I)V"⟩, 12, prog_14_method_94_code, 5, (Option.none : Option Jvm.ClassFile.FieldType), 1, 1014, px_c272))) (.branch 274 (.leaf (273, ⟨"ElevenBullocksModel", "takesOf", "(IIII)I"⟩, 12, prog_14_method_80_code, 6, (Option.some Jvm.ClassFile.FieldType.int), 4, 1014, px_c273)) (.branch 275 (.leaf (274, ⟨"ElevenBullocksModel", "sumAt", "(II)I"⟩, 12, prog_14_method_77_code, 5, (Option.some Jvm.ClassFile.FieldType.int), 2, 1014, px_c274)) (.leaf (275, ⟨"ElevenBullocksModel", "drawn", "(I)I"⟩, 12, prog_14_method_92_code, 3, (Option.some Jvm.ClassFile.FieldType.int), 1, 1014, px_c275)))))) (.branch 281 (.branch 278 (.branch 277 (.leaf (276, ⟨"ElevenBullocksModel", "anew", "()V"⟩, 12, prog_14_method_93_code, 1, (Option.none : Option Jvm.ClassFile.FieldType), 0, 1014, px_c276)) (.leaf (277, ⟨"ElevenBullocksModel", "harmOf", "(I)I"⟩, 12, prog_14_method_11_code, 2, (Option.some Jvm.ClassFile.FieldType.int), 1, 1014, px_c277))) (.branch 279 (.leaf (278, ⟨"ElevenBullocksModel", "join", "()V"⟩, 12, prog_14_method_95_code, 3, (Option.none : Option Jvm.ClassFile.FieldType), 0, 1014, px_c278)) (.branch 280 (.leaf (279, ⟨"ElevenBullocksModel", "allDone", "()I"⟩, 12, prog_14_method_97_code, 3, (Option.some Jvm.ClassFile.FieldType.int), 0, 1014, px_c279)) (.leaf (280, ⟨"ElevenBullocksModel", "played", "(I)I"⟩, 12, prog_14_method_102_code, 3, (Option.some Jvm.ClassFile.FieldType.int), 1, 1014, px_c280))))) (.branch 284 (.branch 282 (.leaf (281, ⟨"ElevenBullocksModel", "isPlayed", "(I)Z"⟩, 12, prog_14_method_101_code, 4, (Option.some Jvm.ClassFile.FieldType.boolean), 1, 1014, px_c281)) (.branch 283 (.leaf (282, ⟨"ElevenBullocksModel", "day", "(II)I"⟩, 12, prog_14_method_104_code, 4, (Option.some Jvm.ClassFile.FieldType.int), 2, 1014, px_c282)) (.leaf (283, ⟨"ElevenBullocksModel", "happens", "()V"⟩, 12, prog_14_method_103_code, 3, (Option.none : Option Jvm.ClassFile.FieldType), 0, 1014, px_c283)))) (.branch 285 (.leaf (284, ⟨"ElevenBullocksModel", "bunch", "(II)I"⟩, 12, prog_14_method_105_code, 3, (Option.some Jvm.ClassFile.FieldType.int), 2, 1014, px_c284)) (.branch 286 (.leaf (285, ⟨"ElevenBullocksModel", "ofPerson", "(II)I"⟩, 12, prog_14_method_106_code, 3, (Option.some Jvm.ClassFile.FieldType.int), 2, 1014, px_c285)) (.leaf (286, ⟨"ElevenBullocksModel", "ofStretch", "(II)I"⟩, 12, prog_14_method_107_code, 3, (Option.some Jvm.ClassFile.FieldType.int), 2, 1014, px_c286)))))))) (.branch 308 (.branch 297 (.branch 292 (.branch 289 (.branch 288 (.leaf (287, ⟨"ElevenBullocksModel", "ofWay", "(II)I"⟩, 12, prog_14_method_108_code, 3, (Option.some Jvm.ClassFile.FieldType.int), 2, 1014, px_c287)) (.leaf (288, ⟨"ElevenBullocksModel", "takes", "(II)I"⟩, 12, prog_14_method_109_code, 3, (Option.some Jvm.ClassFile.FieldType.int), 2, 1014, px_c288))) (.branch 290 (.leaf (289, ⟨"ElevenBullocksModel", "where", "(IIIZ)J"⟩, 12, prog_14_method_113_code, 10, (Option.some Jvm.ClassFile.FieldType.long), 4, 1014, px_c289)) (.branch 291 (.leaf (290, ⟨"ElevenBullocksModel", "spread", "(II)V"⟩, 12, prog_14_method_110_code, 10, (Option.none : Option Jvm.ClassFile.FieldType), 2, 1014, px_c290)) (.leaf (291, ⟨"ElevenBullocksModel", "part", "(JJZ)J"⟩, 12, prog_14_method_112_code, 5, (Option.some Jvm.ClassFile.FieldType.long), 3, 1014, px_c291))))) (.branch 294 (.branch 293 (.leaf (292, ⟨"ElevenBullocksModel", "common", "(JJ)J"⟩, 12, prog_14_method_111_code, 10, (Option.some Jvm.ClassFile.FieldType.long), 2, 1014, px_c292)) (.leaf (293, ⟨"ElevenBullocksModel", "canCome", "(I)I"⟩, 12, prog_14_method_116_code, 2, (Option.some Jvm.ClassFile.FieldType.int), 1, 1014, px_c293))) (.branch 295 (.leaf (294, ⟨"ElevenBullocksModel", "comesTo", "(I)I"⟩, 12, prog_14_method_114_code, 9, (Option.some Jvm.ClassFile.FieldType.int), 1, 1014, px_c294)) (.branch 296 (.leaf (295, ⟨"ElevenBullocksModel", "stopped", "(II)I"⟩, 12, prog_14_method_117_code, 6, (Option.some Jvm.ClassFile.FieldType.int), 2, 1014, px_c295)) (.leaf (296, ⟨"ElevenBullocksModel", "ofKind", "(II)I"⟩, 12, prog_14_method_115_code, 5, (Option.some Jvm.ClassFile.FieldType.int), 2, 1014, px_c296)))))) (.branch 302 (.branch 299 (.branch 298 (.leaf (297, ⟨"ElevenBullocksModel", "home", "(I)I"⟩, 12, prog_14_method_118_code, 7, (Option.some Jvm.ClassFile.FieldType.int), 1, 1014, px_c297)) (.leaf (298, ⟨"ElevenBullocksModel", "soon", "(II)I"⟩, 12, prog_14_method_120_code, 4, (Option.some Jvm.ClassFile.FieldType.int), 2, 1014, px_c298))) (.branch 300 (.leaf (299, ⟨"ElevenBullocksModel", "minutesOf", "(II)I"⟩, 12, prog_14_method_119_code, 3, (Option.some Jvm.ClassFile.FieldType.int), 2, 1014, px_c299)) (.branch 301 (.leaf (300, ⟨"ElevenBullocksModel", "whom", "(III)I"⟩, 12, prog_14_method_125_code, 8, (Option.some Jvm.ClassFile.FieldType.int), 3, 1014, px_c300)) (.leaf (301, ⟨"ElevenBullocksModel", "layOut", "(I[I)I"⟩, 12, prog_14_method_121_code, 4, (Option.some Jvm.ClassFile.FieldType.int), 2, 1014, px_c301))))) (.branch 305 (.branch 303 (.leaf (302, ⟨"ElevenBullocksModel", "bestSending", "(II)I"⟩, 12, prog_14_method_124_code, 7, (Option.some Jvm.ClassFile.FieldType.int), 2, 1014, px_c302)) (.branch 304 (.leaf (303, ⟨"ElevenBullocksModel", "areUnlike", "(I)Z"⟩, 12, prog_14_method_123_code, 4, (Option.some Jvm.ClassFile.FieldType.boolean), 1, 1014, px_c303)) (.leaf (304, ⟨"ElevenBullocksModel", "nextRow", "(II)Z"⟩, 12, prog_14_method_122_code, 4, (Option.some Jvm.ClassFile.FieldType.boolean), 2, 1014, px_c304)))) (.branch 306 (.leaf (305, ⟨"ElevenBullocksModel", "seen", "(II)I"⟩, 12, prog_14_method_126_code, 3, (Option.some Jvm.ClassFile.FieldType.int), 2, 1014, px_c305)) (.branch 307 (.leaf (306, ⟨"ElevenBullocksModel", "which", "()I"⟩, 12, prog_14_method_128_code, 5, (Option.some Jvm.ClassFile.FieldType.int), 0, 1014, px_c306)) (.leaf (307, ⟨"ElevenBullocksModel", "isFrom", "(I)Z"⟩, 12, prog_14_method_127_code, 3, (Option.some Jvm.ClassFile.FieldType.boolean), 1, 1014, px_c307))))))) (.branch 318 (.branch 313 (.branch 310 (.branch 309 (.leaf (308, ⟨"ElevenBullocksModel", "many", "(IIIZ)J"⟩, 12, prog_14_method_131_code, 8, (Option.some Jvm.ClassFile.FieldType.long), 4, 1014, px_c308)) (.leaf (309, ⟨"ElevenBullocksModel", "weightOf", "(III)J"⟩, 12, prog_14_method_130_code, 6, (Option.some Jvm.ClassFile.FieldType.long), 3, 1014, px_c309))) (.branch 311 (.leaf (310, ⟨"ElevenBullocksModel", "power", "(JI)J"⟩, 12, prog_14_method_129_code, 6, (Option.some Jvm.ClassFile.FieldType.long), 2, 1014, px_c310)) (.branch 312 (.leaf (311, ⟨"ElevenBullocksModel", "after", "(II)I"⟩, 12, prog_14_method_134_code, 8, (Option.some Jvm.ClassFile.FieldType.int), 2, 1014, px_c311)) (.leaf (312, ⟨"ElevenBullocksModel", "layBunches", "(I)I"⟩, 12, prog_14_method_132_code, 5, (Option.some Jvm.ClassFile.FieldType.int), 1, 1014, px_c312))))) (.branch 315 (.branch 314 (.leaf (313, ⟨"ElevenBullocksModel", "harmBy", "(I)I"⟩, 12, prog_14_method_133_code, 7, (Option.some Jvm.ClassFile.FieldType.int), 1, 1014, px_c313)) (.leaf (314, ⟨"ElevenBullocksModel", "pays", "(II)I"⟩, 12, prog_14_method_136_code, 3, (Option.some Jvm.ClassFile.FieldType.int), 2, 1014, px_c314))) (.branch 316 (.leaf (315, ⟨"ElevenBullocksModel", "paysBy", "(II)I"⟩, 12, prog_14_method_135_code, 3, (Option.some Jvm.ClassFile.FieldType.int), 2, 1014, px_c315)) (.branch 317 (.leaf (316, ⟨"ElevenBullocksModel", "cheapest", "()I"⟩, 12, prog_14_method_138_code, 3, (Option.some Jvm.ClassFile.FieldType.int), 0, 1014, px_c316)) (.leaf (317, ⟨"ElevenBullocksModel", "costBy", "(I)I"⟩, 12, prog_14_method_137_code, 4, (Option.some Jvm.ClassFile.FieldType.int), 1, 1014, px_c317)))))) (.branch 323 (.branch 320 (.branch 319 (.leaf (318, ⟨"ElevenBullocksModel", "mending", "(IIIII)Z"⟩, 12, prog_14_method_139_code, 7, (Option.some Jvm.ClassFile.FieldType.boolean), 5, 1014, px_c318)) (.leaf (319, ⟨"ElevenBullocksModel", "saved", "(I)I"⟩, 12, prog_14_method_141_code, 5, (Option.some Jvm.ClassFile.FieldType.int), 1, 1014, px_c319))) (.branch 321 (.leaf (320, ⟨"ElevenBullocksModel", "savedBy", "(I)I"⟩, 12, prog_14_method_140_code, 3, (Option.some Jvm.ClassFile.FieldType.int), 1, 1014, px_c320)) (.branch 322 (.leaf (321, ⟨"ElevenBullocksModel", "tried", "(IZ)I"⟩, 12, prog_14_method_142_code, 3, (Option.some Jvm.ClassFile.FieldType.int), 2, 1014, px_c321)) (.leaf (322, ⟨"ElevenBullocksModel", "turned", "(IZ)I"⟩, 12, prog_14_method_144_code, 3, (Option.some Jvm.ClassFile.FieldType.int), 2, 1014, px_c322))))) (.branch 326 (.branch 324 (.leaf (323, ⟨"ElevenBullocksModel", "timesOf", "(IZ)I"⟩, 12, prog_14_method_143_code, 5, (Option.some Jvm.ClassFile.FieldType.int), 2, 1014, px_c323)) (.branch 325 (.leaf (324, ⟨"ElevenBullocksModel", "best", "()I"⟩, 12, prog_14_method_145_code, 5, (Option.some Jvm.ClassFile.FieldType.int), 0, 1014, px_c324)) (.leaf (325, ⟨"ElevenBullocksModel", "image", "()I"⟩, 12, prog_14_method_146_code, 1, (Option.some Jvm.ClassFile.FieldType.int), 0, 1014, px_c325)))) (.branch 327 (.leaf (326, ⟨"ElevenBullocksModel", "back", "()I"⟩, 12, prog_14_method_147_code, 1, (Option.some Jvm.ClassFile.FieldType.int), 0, 1014, px_c326)) (.branch 328 (.leaf (327, ⟨"ElevenBullocksModel", "about", "(I)I"⟩, 12, prog_14_method_148_code, 2, (Option.some Jvm.ClassFile.FieldType.int), 1, 1014, px_c327)) (.leaf (328, ⟨"ElevenBullocksLaw", "law", "([I)Z"⟩, 15, code, 4, (Option.some Jvm.ClassFile.FieldType.boolean), 1, 1000, px_c328))))))))))
def px_law : Nat := 328
def px_mOk (q : px_MI) : Bool := px_okw q.2.2.2.2.2.2.2.1 (.initialized q.2.1.cls) && plainName q.2.1.cls && decide (px_on q.2.2.1 = q.2.1.cls) && decide ((parseMethodDescriptor q.2.1.desc).map (fun d => d.parameters.length) = some q.2.2.2.2.2.2.1) && decide (q.2.2.2.2.1 ≤ 20) && decide (q.2.1.cls ≠ "java/lang/invoke/MethodHandle") && decide (q.2.1.cls ≠ "java/lang/invoke/VarHandle")
set_option maxRecDepth 100000 in
theorem px_mT_ok : px_all px_mOk px_mT = true := by decide +kernel
theorem px_mT_code : px_all (fun q : px_MI => px_all (px_rowOk q.2.2.2.1) q.2.2.2.2.2.2.2.2) px_mT = true := (px_allB (px_allB (px_allB (px_allB (px_allB (px_allB (px_allB (px_allB px_c0_ok px_c1_ok) (px_allB px_c2_ok (px_allB px_c3_ok px_c4_ok))) (px_allB (px_allB px_c5_ok px_c6_ok) (px_allB px_c7_ok (px_allB px_c8_ok px_c9_ok)))) (px_allB (px_allB (px_allB px_c10_ok px_c11_ok) (px_allB px_c12_ok (px_allB px_c13_ok px_c14_ok))) (px_allB (px_allB px_c15_ok px_c16_ok) (px_allB px_c17_ok (px_allB px_c18_ok px_c19_ok))))) (px_allB (px_allB (px_allB (px_allB px_c20_ok px_c21_ok) (px_allB px_c22_ok (px_allB px_c23_ok px_c24_ok))) (px_allB (px_allB px_c25_ok px_c26_ok) (px_allB px_c27_ok (px_allB px_c28_ok px_c29_ok)))) (px_allB (px_allB (px_allB px_c30_ok px_c31_ok) (px_allB px_c32_ok (px_allB px_c33_ok px_c34_ok))) (px_allB (px_allB px_c35_ok (px_allB px_c36_ok px_c37_ok)) (px_allB px_c38_ok (px_allB px_c39_ok px_c40_ok)))))) (px_allB (px_allB (px_allB (px_allB (px_allB px_c41_ok px_c42_ok) (px_allB px_c43_ok (px_allB px_c44_ok px_c45_ok))) (px_allB (px_allB px_c46_ok px_c47_ok) (px_allB px_c48_ok (px_allB px_c49_ok px_c50_ok)))) (px_allB (px_allB (px_allB px_c51_ok px_c52_ok) (px_allB px_c53_ok (px_allB px_c54_ok px_c55_ok))) (px_allB (px_allB px_c56_ok px_c57_ok) (px_allB px_c58_ok (px_allB px_c59_ok px_c60_ok))))) (px_allB (px_allB (px_allB (px_allB px_c61_ok px_c62_ok) (px_allB px_c63_ok (px_allB px_c64_ok px_c65_ok))) (px_allB (px_allB px_c66_ok px_c67_ok) (px_allB px_c68_ok (px_allB px_c69_ok px_c70_ok)))) (px_allB (px_allB (px_allB px_c71_ok px_c72_ok) (px_allB px_c73_ok (px_allB px_c74_ok px_c75_ok))) (px_allB (px_allB px_c76_ok (px_allB px_c77_ok px_c78_ok)) (px_allB px_c79_ok (px_allB px_c80_ok px_c81_ok))))))) (px_allB (px_allB (px_allB (px_allB (px_allB (px_allB px_c82_ok px_c83_ok) (px_allB px_c84_ok (px_allB px_c85_ok px_c86_ok))) (px_allB (px_allB px_c87_ok px_c88_ok) (px_allB px_c89_ok (px_allB px_c90_ok px_c91_ok)))) (px_allB (px_allB (px_allB px_c92_ok px_c93_ok) (px_allB px_c94_ok (px_allB px_c95_ok px_c96_ok))) (px_allB (px_allB px_c97_ok px_c98_ok) (px_allB px_c99_ok (px_allB px_c100_ok px_c101_ok))))) (px_allB (px_allB (px_allB (px_allB px_c102_ok px_c103_ok) (px_allB px_c104_ok (px_allB px_c105_ok px_c106_ok))) (px_allB (px_allB px_c107_ok px_c108_ok) (px_allB px_c109_ok (px_allB px_c110_ok px_c111_ok)))) (px_allB (px_allB (px_allB px_c112_ok px_c113_ok) (px_allB px_c114_ok (px_allB px_c115_ok px_c116_ok))) (px_allB (px_allB px_c117_ok (px_allB px_c118_ok px_c119_ok)) (px_allB px_c120_ok (px_allB px_c121_ok px_c122_ok)))))) (px_allB (px_allB (px_allB (px_allB (px_allB px_c123_ok px_c124_ok) (px_allB px_c125_ok (px_allB px_c126_ok px_c127_ok))) (px_allB (px_allB px_c128_ok px_c129_ok) (px_allB px_c130_ok (px_allB px_c131_ok px_c132_ok)))) (px_allB (px_allB (px_allB px_c133_ok px_c134_ok) (px_allB px_c135_ok (px_allB px_c136_ok px_c137_ok))) (px_allB (px_allB px_c138_ok px_c139_ok) (px_allB px_c140_ok (px_allB px_c141_ok px_c142_ok))))) (px_allB (px_allB (px_allB (px_allB px_c143_ok px_c144_ok) (px_allB px_c145_ok (px_allB px_c146_ok px_c147_ok))) (px_allB (px_allB px_c148_ok px_c149_ok) (px_allB px_c150_ok (px_allB px_c151_ok px_c152_ok)))) (px_allB (px_allB (px_allB px_c153_ok px_c154_ok) (px_allB px_c155_ok (px_allB px_c156_ok px_c157_ok))) (px_allB (px_allB px_c158_ok (px_allB px_c159_ok px_c160_ok)) (px_allB px_c161_ok (px_allB px_c162_ok px_c163_ok)))))))) (px_allB (px_allB (px_allB (px_allB (px_allB (px_allB (px_allB px_c164_ok px_c165_ok) (px_allB px_c166_ok (px_allB px_c167_ok px_c168_ok))) (px_allB (px_allB px_c169_ok px_c170_ok) (px_allB px_c171_ok (px_allB px_c172_ok px_c173_ok)))) (px_allB (px_allB (px_allB px_c174_ok px_c175_ok) (px_allB px_c176_ok (px_allB px_c177_ok px_c178_ok))) (px_allB (px_allB px_c179_ok px_c180_ok) (px_allB px_c181_ok (px_allB px_c182_ok px_c183_ok))))) (px_allB (px_allB (px_allB (px_allB px_c184_ok px_c185_ok) (px_allB px_c186_ok (px_allB px_c187_ok px_c188_ok))) (px_allB (px_allB px_c189_ok px_c190_ok) (px_allB px_c191_ok (px_allB px_c192_ok px_c193_ok)))) (px_allB (px_allB (px_allB px_c194_ok px_c195_ok) (px_allB px_c196_ok (px_allB px_c197_ok px_c198_ok))) (px_allB (px_allB px_c199_ok (px_allB px_c200_ok px_c201_ok)) (px_allB px_c202_ok (px_allB px_c203_ok px_c204_ok)))))) (px_allB (px_allB (px_allB (px_allB (px_allB px_c205_ok px_c206_ok) (px_allB px_c207_ok (px_allB px_c208_ok px_c209_ok))) (px_allB (px_allB px_c210_ok px_c211_ok) (px_allB px_c212_ok (px_allB px_c213_ok px_c214_ok)))) (px_allB (px_allB (px_allB px_c215_ok px_c216_ok) (px_allB px_c217_ok (px_allB px_c218_ok px_c219_ok))) (px_allB (px_allB px_c220_ok px_c221_ok) (px_allB px_c222_ok (px_allB px_c223_ok px_c224_ok))))) (px_allB (px_allB (px_allB (px_allB px_c225_ok px_c226_ok) (px_allB px_c227_ok (px_allB px_c228_ok px_c229_ok))) (px_allB (px_allB px_c230_ok px_c231_ok) (px_allB px_c232_ok (px_allB px_c233_ok px_c234_ok)))) (px_allB (px_allB (px_allB px_c235_ok px_c236_ok) (px_allB px_c237_ok (px_allB px_c238_ok px_c239_ok))) (px_allB (px_allB px_c240_ok (px_allB px_c241_ok px_c242_ok)) (px_allB px_c243_ok (px_allB px_c244_ok px_c245_ok))))))) (px_allB (px_allB (px_allB (px_allB (px_allB (px_allB px_c246_ok px_c247_ok) (px_allB px_c248_ok (px_allB px_c249_ok px_c250_ok))) (px_allB (px_allB px_c251_ok px_c252_ok) (px_allB px_c253_ok (px_allB px_c254_ok px_c255_ok)))) (px_allB (px_allB (px_allB px_c256_ok px_c257_ok) (px_allB px_c258_ok (px_allB px_c259_ok px_c260_ok))) (px_allB (px_allB px_c261_ok px_c262_ok) (px_allB px_c263_ok (px_allB px_c264_ok px_c265_ok))))) (px_allB (px_allB (px_allB (px_allB px_c266_ok px_c267_ok) (px_allB px_c268_ok (px_allB px_c269_ok px_c270_ok))) (px_allB (px_allB px_c271_ok px_c272_ok) (px_allB px_c273_ok (px_allB px_c274_ok px_c275_ok)))) (px_allB (px_allB (px_allB px_c276_ok px_c277_ok) (px_allB px_c278_ok (px_allB px_c279_ok px_c280_ok))) (px_allB (px_allB px_c281_ok (px_allB px_c282_ok px_c283_ok)) (px_allB px_c284_ok (px_allB px_c285_ok px_c286_ok)))))) (px_allB (px_allB (px_allB (px_allB (px_allB px_c287_ok px_c288_ok) (px_allB px_c289_ok (px_allB px_c290_ok px_c291_ok))) (px_allB (px_allB px_c292_ok px_c293_ok) (px_allB px_c294_ok (px_allB px_c295_ok px_c296_ok)))) (px_allB (px_allB (px_allB px_c297_ok px_c298_ok) (px_allB px_c299_ok (px_allB px_c300_ok px_c301_ok))) (px_allB (px_allB px_c302_ok (px_allB px_c303_ok px_c304_ok)) (px_allB px_c305_ok (px_allB px_c306_ok px_c307_ok))))) (px_allB (px_allB (px_allB (px_allB px_c308_ok px_c309_ok) (px_allB px_c310_ok (px_allB px_c311_ok px_c312_ok))) (px_allB (px_allB px_c313_ok px_c314_ok) (px_allB px_c315_ok (px_allB px_c316_ok px_c317_ok)))) (px_allB (px_allB (px_allB px_c318_ok px_c319_ok) (px_allB px_c320_ok (px_allB px_c321_ok px_c322_ok))) (px_allB (px_allB px_c323_ok (px_allB px_c324_ok px_c325_ok)) (px_allB px_c326_ok (px_allB px_c327_ok px_c328_ok)))))))))
-- the methods' code words, by their places
theorem px_w0 : Cond.code ⟨"ElevenBullocks", "<init>", "()V"⟩ prog_1_method_1_code 2 (Option.none : Option Jvm.ClassFile.FieldType) ∈ px_ws := px_memc 1 26 rfl rfl
theorem px_w1 : Cond.code ⟨"ElevenBullocks$Land", "<init>", "()V"⟩ prog_4_method_1_code 1 (Option.none : Option Jvm.ClassFile.FieldType) ∈ px_ws := px_memc 1 34 rfl rfl
theorem px_w2 : Cond.code ⟨"ElevenBullocks$Land", "setApart", "([I)V"⟩ prog_4_method_12_code 2 (Option.none : Option Jvm.ClassFile.FieldType) ∈ px_ws := px_memc 1 38 rfl rfl
theorem px_w3 : Cond.code ⟨"java/util/Arrays", "fill", "([II)V"⟩ prog_21_method_103_code 4 (Option.none : Option Jvm.ClassFile.FieldType) ∈ px_ws := px_memc 1 41 rfl rfl
theorem px_w4 : Cond.code ⟨"ElevenBullocks$Stand", "<init>", "()V"⟩ prog_10_method_1_code 1 (Option.none : Option Jvm.ClassFile.FieldType) ∈ px_ws := px_memc 1 123 rfl rfl
theorem px_w5 : Cond.code ⟨"ElevenBullocks$Steps", "<init>", "()V"⟩ prog_11_method_1_code 1 (Option.none : Option Jvm.ClassFile.FieldType) ∈ px_ws := px_memc 1 186 rfl rfl
theorem px_w6 : Cond.code ⟨"ElevenBullocks$Notes", "<init>", "()V"⟩ prog_7_method_1_code 1 (Option.none : Option Jvm.ClassFile.FieldType) ∈ px_ws := px_memc 1 206 rfl rfl
theorem px_w7 : Cond.code ⟨"ElevenBullocks$Reader", "<init>", "()V"⟩ prog_8_method_1_code 1 (Option.none : Option Jvm.ClassFile.FieldType) ∈ px_ws := px_memc 1 236 rfl rfl
theorem px_w8 : Cond.code ⟨"ElevenBullocks$Script", "<init>", "()V"⟩ prog_9_method_1_code 1 (Option.none : Option Jvm.ClassFile.FieldType) ∈ px_ws := px_memc 2 40 rfl rfl
theorem px_w9 : Cond.code ⟨"ElevenBullocks$Laws", "<init>", "(LElevenBullocks$Land;LElevenBullocks$Stand;)V"⟩ prog_5_method_1_code 3 (Option.none : Option Jvm.ClassFile.FieldType) ∈ px_ws := px_memc 2 82 rfl rfl
theorem px_w10 : Cond.code ⟨"ElevenBullocks$Minutes", "<init>", "(LElevenBullocks$Land;LElevenBullocks$Stand;LElevenBullocks$Laws;)V"⟩ prog_6_method_1_code 4 (Option.none : Option Jvm.ClassFile.FieldType) ∈ px_ws := px_memc 2 111 rfl rfl
theorem px_w11 : Cond.code ⟨"ElevenBullocks$Walk", "<init>", "(LElevenBullocks$Land;LElevenBullocks$Stand;LElevenBullocks$Laws;)V"⟩ prog_12_method_1_code 4 (Option.none : Option Jvm.ClassFile.FieldType) ∈ px_ws := px_memc 2 127 rfl rfl
theorem px_w12 : Cond.code ⟨"ElevenBullocks$Errands", "<init>", "(LElevenBullocks$Land;LElevenBullocks$Stand;)V"⟩ prog_2_method_1_code 3 (Option.none : Option Jvm.ClassFile.FieldType) ∈ px_ws := px_memc 2 171 rfl rfl
theorem px_w13 : Cond.code ⟨"ElevenBullocks$Image", "<init>", "()V"⟩ prog_3_method_1_code 1 (Option.none : Option Jvm.ClassFile.FieldType) ∈ px_ws := px_memc 2 202 rfl rfl
theorem px_w14 : Cond.code ⟨"ElevenBullocks", "stretch", "(II)I"⟩ prog_1_method_2_code 3 (Option.some Jvm.ClassFile.FieldType.int) ∈ px_ws := px_memc 3 42 rfl rfl
theorem px_w15 : Cond.code ⟨"ElevenBullocks", "within", "(III)Z"⟩ prog_1_method_43_code 3 (Option.some Jvm.ClassFile.FieldType.boolean) ∈ px_ws := px_memc 3 45 rfl rfl
theorem px_w16 : Cond.code ⟨"ElevenBullocks$Land", "addStretch", "(II)I"⟩ prog_4_method_6_code 3 (Option.some Jvm.ClassFile.FieldType.int) ∈ px_ws := px_memc 3 49 rfl rfl
theorem px_w17 : Cond.code ⟨"ElevenBullocks", "way", "(IIZ)I"⟩ prog_1_method_3_code 4 (Option.some Jvm.ClassFile.FieldType.int) ∈ px_ws := px_memc 3 53 rfl rfl
theorem px_w18 : Cond.code ⟨"ElevenBullocks$Land", "hasStretch", "(I)Z"⟩ prog_4_method_2_code 2 (Option.some Jvm.ClassFile.FieldType.boolean) ∈ px_ws := px_memc 3 57 rfl rfl
theorem px_w19 : Cond.code ⟨"ElevenBullocks$Land", "addWay", "(IIZ)I"⟩ prog_4_method_7_code 4 (Option.some Jvm.ClassFile.FieldType.int) ∈ px_ws := px_memc 3 61 rfl rfl
theorem px_w20 : Cond.code ⟨"ElevenBullocks$Land", "layWay", "(I)V"⟩ prog_4_method_10_code 2 (Option.none : Option Jvm.ClassFile.FieldType) ∈ px_ws := px_memc 3 65 rfl rfl
theorem px_w21 : Cond.code ⟨"ElevenBullocks$Land", "noteWayAt", "(II)V"⟩ prog_4_method_11_code 3 (Option.none : Option Jvm.ClassFile.FieldType) ∈ px_ws := px_memc 3 69 rfl rfl
theorem px_w22 : Cond.code ⟨"ElevenBullocks$Land", "bringNear", "([III)V"⟩ prog_4_method_13_code 9 (Option.none : Option Jvm.ClassFile.FieldType) ∈ px_ws := px_memc 3 73 rfl rfl
theorem px_w23 : Cond.code ⟨"ElevenBullocks", "person", "(IZZI)I"⟩ prog_1_method_4_code 6 (Option.some Jvm.ClassFile.FieldType.int) ∈ px_ws := px_memc 3 80 rfl rfl
theorem px_w24 : Cond.code ⟨"ElevenBullocks$Land", "addPerson", "(IZZI)I"⟩ prog_4_method_8_code 5 (Option.some Jvm.ClassFile.FieldType.int) ∈ px_ws := px_memc 3 84 rfl rfl
theorem px_w25 : Cond.code ⟨"ElevenBullocks", "feed", "(IIIII)I"⟩ prog_1_method_5_code 6 (Option.some Jvm.ClassFile.FieldType.int) ∈ px_ws := px_memc 3 88 rfl rfl
theorem px_w26 : Cond.code ⟨"ElevenBullocks$Reader", "addBytes", "(I)V"⟩ prog_8_method_2_code 3 (Option.none : Option Jvm.ClassFile.FieldType) ∈ px_ws := px_memc 3 92 rfl rfl
theorem px_w27 : Cond.code ⟨"ElevenBullocks", "end", "(I)I"⟩ prog_1_method_6_code 2 (Option.some Jvm.ClassFile.FieldType.int) ∈ px_ws := px_memc 3 96 rfl rfl
theorem px_w28 : Cond.code ⟨"ElevenBullocks", "text", "()I"⟩ prog_1_method_7_code 1 (Option.some Jvm.ClassFile.FieldType.int) ∈ px_ws := px_memc 3 100 rfl rfl
theorem px_w29 : Cond.code ⟨"ElevenBullocks$Reader", "readAll", "(LElevenBullocks$Script;)Z"⟩ prog_8_method_3_code 3 (Option.some Jvm.ClassFile.FieldType.boolean) ∈ px_ws := px_memc 3 104 rfl rfl
theorem px_w30 : Cond.code ⟨"ElevenBullocks$Script", "clear", "()V"⟩ prog_9_method_2_code 1 (Option.none : Option Jvm.ClassFile.FieldType) ∈ px_ws := px_memc 3 108 rfl rfl
theorem px_w31 : Cond.code ⟨"ElevenBullocks$Reader", "advance", "()V"⟩ prog_8_method_20_code 1 (Option.none : Option Jvm.ClassFile.FieldType) ∈ px_ws := px_memc 3 114 rfl rfl
theorem px_w32 : Cond.code ⟨"ElevenBullocks$Reader", "isDigit", "(I)Z"⟩ prog_8_method_21_code 1 (Option.some Jvm.ClassFile.FieldType.boolean) ∈ px_ws := px_memc 3 117 rfl rfl
theorem px_w33 : Cond.code ⟨"ElevenBullocks$Reader", "scanNumber", "()V"⟩ prog_8_method_23_code 1 (Option.none : Option Jvm.ClassFile.FieldType) ∈ px_ws := px_memc 3 121 rfl rfl
theorem px_w34 : Cond.code ⟨"ElevenBullocks$Reader", "isLetter", "(I)Z"⟩ prog_8_method_22_code 1 (Option.some Jvm.ClassFile.FieldType.boolean) ∈ px_ws := px_memc 3 125 rfl rfl
theorem px_w35 : Cond.code ⟨"ElevenBullocks$Reader", "scanWord", "()V"⟩ prog_8_method_24_code 1 (Option.none : Option Jvm.ClassFile.FieldType) ∈ px_ws := px_memc 3 129 rfl rfl
theorem px_w36 : Cond.code ⟨"ElevenBullocks$Reader", "wordOf", "()I"⟩ prog_8_method_25_code 6 (Option.some Jvm.ClassFile.FieldType.int) ∈ px_ws := px_memc 3 133 rfl rfl
theorem px_w37 : Cond.code ⟨"ElevenBullocks$Reader", "scanSign", "(I)V"⟩ prog_8_method_26_code 3 (Option.none : Option Jvm.ClassFile.FieldType) ∈ px_ws := px_memc 3 186 rfl rfl
theorem px_w38 : Cond.code ⟨"ElevenBullocks$Reader", "readClause", "()V"⟩ prog_8_method_7_code 2 (Option.none : Option Jvm.ClassFile.FieldType) ∈ px_ws := px_memc 3 190 rfl rfl
theorem px_w39 : Cond.code ⟨"ElevenBullocks$Reader", "fail", "(I)V"⟩ prog_8_method_4_code 2 (Option.none : Option Jvm.ClassFile.FieldType) ∈ px_ws := px_memc 3 195 rfl rfl
theorem px_w40 : Cond.code ⟨"ElevenBullocks$Script", "hasLaw", "(I)Z"⟩ prog_9_method_3_code 2 (Option.some Jvm.ClassFile.FieldType.boolean) ∈ px_ws := px_memc 3 199 rfl rfl
theorem px_w41 : Cond.code ⟨"ElevenBullocks$Reader", "readSum", "(I)V"⟩ prog_8_method_9_code 4 (Option.none : Option Jvm.ClassFile.FieldType) ∈ px_ws := px_memc 3 203 rfl rfl
theorem px_w42 : Cond.code ⟨"ElevenBullocks$Reader", "readProduct", "(I)V"⟩ prog_8_method_10_code 4 (Option.none : Option Jvm.ClassFile.FieldType) ∈ px_ws := px_memc 3 207 rfl rfl
theorem px_w43 : Cond.code ⟨"ElevenBullocks$Reader", "readOne", "(I)V"⟩ prog_8_method_11_code 2 (Option.none : Option Jvm.ClassFile.FieldType) ∈ px_ws := px_memc 3 211 rfl rfl
theorem px_w44 : Cond.code ⟨"ElevenBullocks$Reader", "readNumber", "(II)I"⟩ prog_8_method_6_code 4 (Option.some Jvm.ClassFile.FieldType.int) ∈ px_ws := px_memc 3 215 rfl rfl
theorem px_w45 : Cond.code ⟨"ElevenBullocks$Script", "addOrder", "(II)I"⟩ prog_9_method_4_code 3 (Option.some Jvm.ClassFile.FieldType.int) ∈ px_ws := px_memc 3 219 rfl rfl
theorem px_w46 : Cond.code ⟨"ElevenBullocks$Reader", "readLetter", "()V"⟩ prog_8_method_13_code 2 (Option.none : Option Jvm.ClassFile.FieldType) ∈ px_ws := px_memc 3 223 rfl rfl
theorem px_w47 : Cond.code ⟨"ElevenBullocks$Reader", "enter", "(I)Z"⟩ prog_8_method_12_code 2 (Option.some Jvm.ClassFile.FieldType.boolean) ∈ px_ws := px_memc 3 227 rfl rfl
theorem px_w48 : Cond.code ⟨"ElevenBullocks$Reader", "expect", "(I)V"⟩ prog_8_method_5_code 2 (Option.none : Option Jvm.ClassFile.FieldType) ∈ px_ws := px_memc 3 231 rfl rfl
theorem px_w49 : Cond.code ⟨"ElevenBullocks$Reader", "readIf", "(I)V"⟩ prog_8_method_15_code 4 (Option.none : Option Jvm.ClassFile.FieldType) ∈ px_ws := px_memc 3 235 rfl rfl
theorem px_w50 : Cond.code ⟨"ElevenBullocks$Reader", "readEither", "(I)V"⟩ prog_8_method_17_code 3 (Option.none : Option Jvm.ClassFile.FieldType) ∈ px_ws := px_memc 3 239 rfl rfl
theorem px_w51 : Cond.code ⟨"ElevenBullocks$Reader", "readBoth", "(I)V"⟩ prog_8_method_18_code 3 (Option.none : Option Jvm.ClassFile.FieldType) ∈ px_ws := px_memc 4 3 rfl rfl
theorem px_w52 : Cond.code ⟨"ElevenBullocks$Reader", "readAsk", "(I)V"⟩ prog_8_method_19_code 3 (Option.none : Option Jvm.ClassFile.FieldType) ∈ px_ws := px_memc 4 7 rfl rfl
theorem px_w53 : Cond.code ⟨"ElevenBullocks$Script", "leadToHere", "(I)V"⟩ prog_9_method_5_code 2 (Option.none : Option Jvm.ClassFile.FieldType) ∈ px_ws := px_memc 4 11 rfl rfl
theorem px_w54 : Cond.code ⟨"ElevenBullocks$Reader", "readLet", "(I)V"⟩ prog_8_method_16_code 5 (Option.none : Option Jvm.ClassFile.FieldType) ∈ px_ws := px_memc 4 15 rfl rfl
theorem px_w55 : Cond.code ⟨"ElevenBullocks", "cut", "(III)I"⟩ prog_1_method_44_code 3 (Option.some Jvm.ClassFile.FieldType.int) ∈ px_ws := px_memc 4 18 rfl rfl
theorem px_w56 : Cond.code ⟨"ElevenBullocks$Reader", "readName", "()V"⟩ prog_8_method_14_code 2 (Option.none : Option Jvm.ClassFile.FieldType) ∈ px_ws := px_memc 4 26 rfl rfl
theorem px_w57 : Cond.code ⟨"ElevenBullocks$Script", "addClause", "(III)V"⟩ prog_9_method_6_code 4 (Option.none : Option Jvm.ClassFile.FieldType) ∈ px_ws := px_memc 4 32 rfl rfl
theorem px_w58 : Cond.code ⟨"ElevenBullocks$Reader", "readDeed", "(I)V"⟩ prog_8_method_8_code 5 (Option.none : Option Jvm.ClassFile.FieldType) ∈ px_ws := px_memc 4 36 rfl rfl
theorem px_w59 : Cond.code ⟨"ElevenBullocks", "fault", "(I)I"⟩ prog_1_method_8_code 2 (Option.some Jvm.ClassFile.FieldType.int) ∈ px_ws := px_memc 4 43 rfl rfl
theorem px_w60 : Cond.code ⟨"ElevenBullocks", "by", "(I)Z"⟩ prog_1_method_9_code 2 (Option.some Jvm.ClassFile.FieldType.boolean) ∈ px_ws := px_memc 4 47 rfl rfl
theorem px_w61 : Cond.code ⟨"ElevenBullocks", "rule", "(I)V"⟩ prog_1_method_49_code 2 (Option.none : Option Jvm.ClassFile.FieldType) ∈ px_ws := px_memc 4 51 rfl rfl
theorem px_w62 : Cond.code ⟨"ElevenBullocks", "scriptOf", "(I)LElevenBullocks$Script;"⟩ prog_1_method_48_code 2 (Option.some (Jvm.ClassFile.FieldType.object "ElevenBullocks$Script")) ∈ px_ws := px_memc 4 55 rfl rfl
theorem px_w63 : Cond.code ⟨"ElevenBullocks", "stray", "(II)I"⟩ prog_1_method_10_code 4 (Option.some Jvm.ClassFile.FieldType.int) ∈ px_ws := px_memc 4 59 rfl rfl
theorem px_w64 : Cond.code ⟨"ElevenBullocks$Stand", "beasts", "()I"⟩ prog_10_method_5_code 1 (Option.some Jvm.ClassFile.FieldType.int) ∈ px_ws := px_memc 4 63 rfl rfl
theorem px_w65 : Cond.code ⟨"ElevenBullocks$Stand", "sum", "([I)I"⟩ prog_10_method_7_code 6 (Option.some Jvm.ClassFile.FieldType.int) ∈ px_ws := px_memc 4 66 rfl rfl
theorem px_w66 : Cond.code ⟨"ElevenBullocks$Stand", "freeBunch", "()I"⟩ prog_10_method_3_code 2 (Option.some Jvm.ClassFile.FieldType.int) ∈ px_ws := px_memc 4 70 rfl rfl
theorem px_w67 : Cond.code ⟨"ElevenBullocks$Steps", "keep", "(LElevenBullocks$Stand;I)V"⟩ prog_11_method_2_code 3 (Option.none : Option Jvm.ClassFile.FieldType) ∈ px_ws := px_memc 4 74 rfl rfl
theorem px_w68 : Cond.code ⟨"ElevenBullocks$Stand", "writeTo", "([II)V"⟩ prog_10_method_13_code 5 (Option.none : Option Jvm.ClassFile.FieldType) ∈ px_ws := px_memc 4 79 rfl rfl
theorem px_w69 : Cond.code ⟨"ElevenBullocks$Stand", "put", "(IIII)V"⟩ prog_10_method_4_code 5 (Option.none : Option Jvm.ClassFile.FieldType) ∈ px_ws := px_memc 4 86 rfl rfl
theorem px_w70 : Cond.code ⟨"ElevenBullocks", "minute", "(I)I"⟩ prog_1_method_11_code 2 (Option.some Jvm.ClassFile.FieldType.int) ∈ px_ws := px_memc 4 90 rfl rfl
theorem px_w71 : Cond.code ⟨"ElevenBullocks", "passMinutes", "(I)Z"⟩ prog_1_method_50_code 3 (Option.some Jvm.ClassFile.FieldType.boolean) ∈ px_ws := px_memc 4 94 rfl rfl
theorem px_w72 : Cond.code ⟨"ElevenBullocks$Minutes", "pass", "()V"⟩ prog_6_method_2_code 4 (Option.none : Option Jvm.ClassFile.FieldType) ∈ px_ws := px_memc 4 98 rfl rfl
theorem px_w73 : Cond.code ⟨"ElevenBullocks$Minutes", "goOn", "(I)V"⟩ prog_6_method_3_code 4 (Option.none : Option Jvm.ClassFile.FieldType) ∈ px_ws := px_memc 4 102 rfl rfl
theorem px_w74 : Cond.code ⟨"ElevenBullocks$Land", "nextTowards", "(II)I"⟩ prog_4_method_24_code 7 (Option.some Jvm.ClassFile.FieldType.int) ∈ px_ws := px_memc 4 106 rfl rfl
theorem px_w75 : Cond.code ⟨"ElevenBullocks$Land", "distance", "(II)I"⟩ prog_4_method_16_code 3 (Option.some Jvm.ClassFile.FieldType.int) ∈ px_ws := px_memc 4 110 rfl rfl
theorem px_w76 : Cond.code ⟨"ElevenBullocks$Land", "countWaysAt", "(I)I"⟩ prog_4_method_17_code 2 (Option.some Jvm.ClassFile.FieldType.int) ∈ px_ws := px_memc 4 115 rfl rfl
theorem px_w77 : Cond.code ⟨"ElevenBullocks$Land", "wayAt", "(II)I"⟩ prog_4_method_18_code 3 (Option.some Jvm.ClassFile.FieldType.int) ∈ px_ws := px_memc 4 119 rfl rfl
theorem px_w78 : Cond.code ⟨"ElevenBullocks$Land", "otherSide", "(II)I"⟩ prog_4_method_21_code 3 (Option.some Jvm.ClassFile.FieldType.int) ∈ px_ws := px_memc 4 123 rfl rfl
theorem px_w79 : Cond.code ⟨"ElevenBullocks$Land", "hasWay", "(I)Z"⟩ prog_4_method_3_code 2 (Option.some Jvm.ClassFile.FieldType.boolean) ∈ px_ws := px_memc 4 127 rfl rfl
theorem px_w80 : Cond.code ⟨"ElevenBullocks$Stand", "hasBunch", "(I)Z"⟩ prog_10_method_2_code 2 (Option.some Jvm.ClassFile.FieldType.boolean) ∈ px_ws := px_memc 4 131 rfl rfl
theorem px_w81 : Cond.code ⟨"ElevenBullocks$Laws", "paceOf", "(I)I"⟩ prog_5_method_2_code 2 (Option.some Jvm.ClassFile.FieldType.int) ∈ px_ws := px_memc 4 135 rfl rfl
theorem px_w82 : Cond.code ⟨"ElevenBullocks$Laws", "nameAll", "(III)V"⟩ prog_5_method_5_code 4 (Option.none : Option Jvm.ClassFile.FieldType) ∈ px_ws := px_memc 4 141 rfl rfl
theorem px_w83 : Cond.code ⟨"ElevenBullocks$Laws", "peopleAt", "(I)I"⟩ prog_5_method_6_code 4 (Option.some Jvm.ClassFile.FieldType.int) ∈ px_ws := px_memc 4 146 rfl rfl
theorem px_w84 : Cond.code ⟨"ElevenBullocks$Laws", "answer", "(LElevenBullocks$Script;I)I"⟩ prog_5_method_7_code 9 (Option.some Jvm.ClassFile.FieldType.int) ∈ px_ws := px_memc 4 150 rfl rfl
theorem px_w85 : Cond.code ⟨"ElevenBullocks$Laws", "push", "(I)V"⟩ prog_5_method_8_code 2 (Option.none : Option Jvm.ClassFile.FieldType) ∈ px_ws := px_memc 4 155 rfl rfl
theorem px_w86 : Cond.code ⟨"ElevenBullocks$Laws", "pop", "()I"⟩ prog_5_method_9_code 1 (Option.some Jvm.ClassFile.FieldType.int) ∈ px_ws := px_memc 4 159 rfl rfl
theorem px_w87 : Cond.code ⟨"ElevenBullocks$Laws", "joined", "(III)I"⟩ prog_5_method_10_code 3 (Option.some Jvm.ClassFile.FieldType.int) ∈ px_ws := px_memc 4 162 rfl rfl
theorem px_w88 : Cond.code ⟨"ElevenBullocks$Minutes", "moveOn", "(I)V"⟩ prog_6_method_4_code 7 (Option.none : Option Jvm.ClassFile.FieldType) ∈ px_ws := px_memc 4 178 rfl rfl
theorem px_w89 : Cond.code ⟨"ElevenBullocks$Land", "hasGate", "(I)Z"⟩ prog_4_method_4_code 2 (Option.some Jvm.ClassFile.FieldType.boolean) ∈ px_ws := px_memc 4 185 rfl rfl
theorem px_w90 : Cond.code ⟨"ElevenBullocks$Stand", "isOpen", "(I)Z"⟩ prog_10_method_8_code 2 (Option.some Jvm.ClassFile.FieldType.boolean) ∈ px_ws := px_memc 4 189 rfl rfl
theorem px_w91 : Cond.code ⟨"ElevenBullocks$Laws", "chanceOf", "(IIIIII)I"⟩ prog_5_method_3_code 11 (Option.some Jvm.ClassFile.FieldType.int) ∈ px_ws := px_memc 4 193 rfl rfl
theorem px_w92 : Cond.code ⟨"ElevenBullocks$Minutes", "isTaken", "(I)Z"⟩ prog_6_method_5_code 2 (Option.some Jvm.ClassFile.FieldType.boolean) ∈ px_ws := px_memc 4 198 rfl rfl
theorem px_w93 : Cond.code ⟨"ElevenBullocks$Stand", "drawByTen", "()I"⟩ prog_10_method_11_code 2 (Option.some Jvm.ClassFile.FieldType.int) ∈ px_ws := px_memc 4 202 rfl rfl
theorem px_w94 : Cond.code ⟨"ElevenBullocks$Stand", "renew", "()V"⟩ prog_10_method_10_code 1 (Option.none : Option Jvm.ClassFile.FieldType) ∈ px_ws := px_memc 4 206 rfl rfl
theorem px_w95 : Cond.code ⟨"ElevenBullocks$Minutes", "doHarm", "()V"⟩ prog_6_method_6_code 3 (Option.none : Option Jvm.ClassFile.FieldType) ∈ px_ws := px_memc 4 210 rfl rfl
theorem px_w96 : Cond.code ⟨"ElevenBullocks$Minutes", "joinBunches", "()V"⟩ prog_6_method_7_code 3 (Option.none : Option Jvm.ClassFile.FieldType) ∈ px_ws := px_memc 4 214 rfl rfl
theorem px_w97 : Cond.code ⟨"ElevenBullocks$Stand", "allDone", "()I"⟩ prog_10_method_6_code 1 (Option.some Jvm.ClassFile.FieldType.int) ∈ px_ws := px_memc 4 219 rfl rfl
theorem px_w98 : Cond.code ⟨"ElevenBullocks", "send", "(II)Z"⟩ prog_1_method_12_code 3 (Option.some Jvm.ClassFile.FieldType.boolean) ∈ px_ws := px_memc 4 223 rfl rfl
theorem px_w99 : Cond.code ⟨"ElevenBullocks$Land", "hasPerson", "(I)Z"⟩ prog_4_method_5_code 2 (Option.some Jvm.ClassFile.FieldType.boolean) ∈ px_ws := px_memc 4 227 rfl rfl
theorem px_w100 : Cond.code ⟨"ElevenBullocks", "gate", "(IZ)Z"⟩ prog_1_method_13_code 3 (Option.some Jvm.ClassFile.FieldType.boolean) ∈ px_ws := px_memc 4 231 rfl rfl
theorem px_w101 : Cond.code ⟨"ElevenBullocks$Stand", "turn", "(I)V"⟩ prog_10_method_9_code 2 (Option.none : Option Jvm.ClassFile.FieldType) ∈ px_ws := px_memc 4 237 rfl rfl
theorem px_w102 : Cond.code ⟨"ElevenBullocks", "split", "(II)I"⟩ prog_1_method_14_code 4 (Option.some Jvm.ClassFile.FieldType.int) ∈ px_ws := px_memc 5 1 rfl rfl
theorem px_w103 : Cond.code ⟨"ElevenBullocks", "played", "(I)I"⟩ prog_1_method_15_code 4 (Option.some Jvm.ClassFile.FieldType.int) ∈ px_ws := px_memc 5 6 rfl rfl
theorem px_w104 : Cond.code ⟨"ElevenBullocks", "carryOut", "(III)Z"⟩ prog_1_method_51_code 4 (Option.some Jvm.ClassFile.FieldType.boolean) ∈ px_ws := px_memc 5 10 rfl rfl
theorem px_w105 : Cond.code ⟨"ElevenBullocks", "day", "(II)I"⟩ prog_1_method_16_code 4 (Option.some Jvm.ClassFile.FieldType.int) ∈ px_ws := px_memc 5 21 rfl rfl
theorem px_w106 : Cond.code ⟨"ElevenBullocks", "happen", "()V"⟩ prog_1_method_52_code 3 (Option.none : Option Jvm.ClassFile.FieldType) ∈ px_ws := px_memc 5 25 rfl rfl
theorem px_w107 : Cond.code ⟨"ElevenBullocks", "undo", "()I"⟩ prog_1_method_17_code 1 (Option.some Jvm.ClassFile.FieldType.int) ∈ px_ws := px_memc 5 30 rfl rfl
theorem px_w108 : Cond.code ⟨"ElevenBullocks$Steps", "takeBack", "(LElevenBullocks$Stand;LElevenBullocks$Land;)Z"⟩ prog_11_method_3_code 4 (Option.some Jvm.ClassFile.FieldType.boolean) ∈ px_ws := px_memc 5 34 rfl rfl
theorem px_w109 : Cond.code ⟨"ElevenBullocks$Stand", "readFrom", "([II)V"⟩ prog_10_method_14_code 5 (Option.none : Option Jvm.ClassFile.FieldType) ∈ px_ws := px_memc 5 38 rfl rfl
theorem px_w110 : Cond.code ⟨"ElevenBullocks", "bunch", "(II)I"⟩ prog_1_method_18_code 3 (Option.some Jvm.ClassFile.FieldType.int) ∈ px_ws := px_memc 5 43 rfl rfl
theorem px_w111 : Cond.code ⟨"ElevenBullocks", "ofPerson", "(II)I"⟩ prog_1_method_19_code 3 (Option.some Jvm.ClassFile.FieldType.int) ∈ px_ws := px_memc 5 48 rfl rfl
theorem px_w112 : Cond.code ⟨"ElevenBullocks", "ofStretch", "(II)I"⟩ prog_1_method_20_code 3 (Option.some Jvm.ClassFile.FieldType.int) ∈ px_ws := px_memc 5 52 rfl rfl
theorem px_w113 : Cond.code ⟨"ElevenBullocks$Land", "bitsOfWaysAt", "(I)I"⟩ prog_4_method_19_code 4 (Option.some Jvm.ClassFile.FieldType.int) ∈ px_ws := px_memc 5 56 rfl rfl
theorem px_w114 : Cond.code ⟨"ElevenBullocks", "ofWay", "(II)I"⟩ prog_1_method_21_code 3 (Option.some Jvm.ClassFile.FieldType.int) ∈ px_ws := px_memc 5 60 rfl rfl
theorem px_w115 : Cond.code ⟨"ElevenBullocks", "takes", "(II)I"⟩ prog_1_method_22_code 5 (Option.some Jvm.ClassFile.FieldType.int) ∈ px_ws := px_memc 5 65 rfl rfl
theorem px_w116 : Cond.code ⟨"ElevenBullocks", "where", "(IIIZ)J"⟩ prog_1_method_23_code 9 (Option.some Jvm.ClassFile.FieldType.long) ∈ px_ws := px_memc 5 71 rfl rfl
theorem px_w117 : Cond.code ⟨"ElevenBullocks$Walk", "oddsOf", "(III)J"⟩ prog_12_method_11_code 7 (Option.some Jvm.ClassFile.FieldType.long) ∈ px_ws := px_memc 5 76 rfl rfl
theorem px_w118 : Cond.code ⟨"ElevenBullocks$Walk", "begin", "(II)V"⟩ prog_12_method_2_code 3 (Option.none : Option Jvm.ClassFile.FieldType) ∈ px_ws := px_memc 5 80 rfl rfl
theorem px_w119 : Cond.code ⟨"java/util/Arrays", "fill", "([JJ)V"⟩ prog_21_method_101_code 5 (Option.none : Option Jvm.ClassFile.FieldType) ∈ px_ws := px_memc 5 84 rfl rfl
theorem px_w120 : Cond.code ⟨"ElevenBullocks$Walk", "standOf", "(I)I"⟩ prog_12_method_3_code 2 (Option.some Jvm.ClassFile.FieldType.int) ∈ px_ws := px_memc 5 88 rfl rfl
theorem px_w121 : Cond.code ⟨"ElevenBullocks$Walk", "moveOdds", "()V"⟩ prog_12_method_13_code 2 (Option.none : Option Jvm.ClassFile.FieldType) ∈ px_ws := px_memc 5 92 rfl rfl
theorem px_w122 : Cond.code ⟨"ElevenBullocks$Walk", "moveOddsFrom", "(I)V"⟩ prog_12_method_14_code 10 (Option.none : Option Jvm.ClassFile.FieldType) ∈ px_ws := px_memc 5 96 rfl rfl
theorem px_w123 : Cond.code ⟨"ElevenBullocks$Walk", "chanceOf", "(III)I"⟩ prog_12_method_4_code 10 (Option.some Jvm.ClassFile.FieldType.int) ∈ px_ws := px_memc 5 103 rfl rfl
theorem px_w124 : Cond.code ⟨"ElevenBullocks$Walk", "oddsOfAll", "(I)J"⟩ prog_12_method_12_code 5 (Option.some Jvm.ClassFile.FieldType.long) ∈ px_ws := px_memc 5 112 rfl rfl
theorem px_w125 : Cond.code ⟨"ElevenBullocks", "inLowestTerms", "(JJZ)J"⟩ prog_1_method_45_code 12 (Option.some Jvm.ClassFile.FieldType.long) ∈ px_ws := px_memc 5 115 rfl rfl
theorem px_w126 : Cond.code ⟨"ElevenBullocks", "canCome", "(I)I"⟩ prog_1_method_24_code 2 (Option.some Jvm.ClassFile.FieldType.int) ∈ px_ws := px_memc 5 119 rfl rfl
theorem px_w127 : Cond.code ⟨"ElevenBullocks$Walk", "reached", "(I)I"⟩ prog_12_method_5_code 2 (Option.some Jvm.ClassFile.FieldType.int) ∈ px_ws := px_memc 5 123 rfl rfl
theorem px_w128 : Cond.code ⟨"ElevenBullocks$Walk", "spread", "(I)I"⟩ prog_12_method_6_code 5 (Option.some Jvm.ClassFile.FieldType.int) ∈ px_ws := px_memc 5 127 rfl rfl
theorem px_w129 : Cond.code ⟨"ElevenBullocks$Walk", "goFrom", "(II)I"⟩ prog_12_method_7_code 9 (Option.some Jvm.ClassFile.FieldType.int) ∈ px_ws := px_memc 5 131 rfl rfl
theorem px_w130 : Cond.code ⟨"ElevenBullocks", "stopped", "(II)I"⟩ prog_1_method_25_code 3 (Option.some Jvm.ClassFile.FieldType.int) ∈ px_ws := px_memc 5 135 rfl rfl
theorem px_w131 : Cond.code ⟨"ElevenBullocks$Walk", "fewestWhoStop", "(II)I"⟩ prog_12_method_8_code 8 (Option.some Jvm.ClassFile.FieldType.int) ∈ px_ws := px_memc 5 139 rfl rfl
theorem px_w132 : Cond.code ⟨"ElevenBullocks$Land", "bitsOfKind", "(I)I"⟩ prog_4_method_20_code 4 (Option.some Jvm.ClassFile.FieldType.int) ∈ px_ws := px_memc 5 143 rfl rfl
theorem px_w133 : Cond.code ⟨"ElevenBullocks", "nextSet", "(I)I"⟩ prog_1_method_47_code 3 (Option.some Jvm.ClassFile.FieldType.int) ∈ px_ws := px_memc 5 146 rfl rfl
theorem px_w134 : Cond.code ⟨"ElevenBullocks", "soon", "(II)I"⟩ prog_1_method_26_code 3 (Option.some Jvm.ClassFile.FieldType.int) ∈ px_ws := px_memc 5 151 rfl rfl
theorem px_w135 : Cond.code ⟨"ElevenBullocks$Land", "minutesBetween", "(III)I"⟩ prog_4_method_23_code 5 (Option.some Jvm.ClassFile.FieldType.int) ∈ px_ws := px_memc 5 155 rfl rfl
theorem px_w136 : Cond.code ⟨"ElevenBullocks", "whom", "(III)I"⟩ prog_1_method_27_code 5 (Option.some Jvm.ClassFile.FieldType.int) ∈ px_ws := px_memc 5 160 rfl rfl
theorem px_w137 : Cond.code ⟨"ElevenBullocks$Errands", "sendAll", "(II)I"⟩ prog_2_method_2_code 4 (Option.some Jvm.ClassFile.FieldType.int) ∈ px_ws := px_memc 5 164 rfl rfl
theorem px_w138 : Cond.code ⟨"java/lang/Integer", "bitCount", "(I)I"⟩ prog_15_method_49_code 1 (Option.some Jvm.ClassFile.FieldType.int) ∈ px_ws := px_memc 5 167 rfl rfl
theorem px_w139 : Cond.code ⟨"ElevenBullocks$Errands", "choosePerson", "(III)V"⟩ prog_2_method_4_code 6 (Option.none : Option Jvm.ClassFile.FieldType) ∈ px_ws := px_memc 5 175 rfl rfl
theorem px_w140 : Cond.code ⟨"ElevenBullocks$Errands", "keepChoice", "(I)V"⟩ prog_2_method_5_code 2 (Option.none : Option Jvm.ClassFile.FieldType) ∈ px_ws := px_memc 5 179 rfl rfl
theorem px_w141 : Cond.code ⟨"ElevenBullocks$Errands", "whoGoesTo", "(I)I"⟩ prog_2_method_3_code 3 (Option.some Jvm.ClassFile.FieldType.int) ∈ px_ws := px_memc 5 186 rfl rfl
theorem px_w142 : Cond.code ⟨"ElevenBullocks", "home", "(I)I"⟩ prog_1_method_28_code 2 (Option.some Jvm.ClassFile.FieldType.int) ∈ px_ws := px_memc 5 190 rfl rfl
theorem px_w143 : Cond.code ⟨"ElevenBullocks$Walk", "fewestToShut", "(I)I"⟩ prog_12_method_9_code 10 (Option.some Jvm.ClassFile.FieldType.int) ∈ px_ws := px_memc 5 194 rfl rfl
theorem px_w144 : Cond.code ⟨"ElevenBullocks$Walk", "openGates", "()I"⟩ prog_12_method_10_code 3 (Option.some Jvm.ClassFile.FieldType.int) ∈ px_ws := px_memc 5 198 rfl rfl
theorem px_w145 : Cond.code ⟨"ElevenBullocks", "seen", "(II)I"⟩ prog_1_method_29_code 3 (Option.some Jvm.ClassFile.FieldType.int) ∈ px_ws := px_memc 5 202 rfl rfl
theorem px_w146 : Cond.code ⟨"ElevenBullocks$Notes", "addSight", "(II)I"⟩ prog_7_method_2_code 3 (Option.some Jvm.ClassFile.FieldType.int) ∈ px_ws := px_memc 5 206 rfl rfl
theorem px_w147 : Cond.code ⟨"ElevenBullocks", "which", "()I"⟩ prog_1_method_30_code 4 (Option.some Jvm.ClassFile.FieldType.int) ∈ px_ws := px_memc 5 210 rfl rfl
theorem px_w148 : Cond.code ⟨"ElevenBullocks$Land", "measureGates", "()V"⟩ prog_4_method_14_code 2 (Option.none : Option Jvm.ClassFile.FieldType) ∈ px_ws := px_memc 5 214 rfl rfl
theorem px_w149 : Cond.code ⟨"ElevenBullocks$Land", "outsideOf", "(I)I"⟩ prog_4_method_22_code 4 (Option.some Jvm.ClassFile.FieldType.int) ∈ px_ws := px_memc 5 218 rfl rfl
theorem px_w150 : Cond.code ⟨"ElevenBullocks$Notes", "couldAllBeFrom", "(ILElevenBullocks$Land;)Z"⟩ prog_7_method_3_code 4 (Option.some Jvm.ClassFile.FieldType.boolean) ∈ px_ws := px_memc 5 223 rfl rfl
theorem px_w151 : Cond.code ⟨"ElevenBullocks$Land", "distanceByGates", "(II)I"⟩ prog_4_method_15_code 3 (Option.some Jvm.ClassFile.FieldType.int) ∈ px_ws := px_memc 5 227 rfl rfl
theorem px_w152 : Cond.code ⟨"ElevenBullocks", "many", "(IIIZ)J"⟩ prog_1_method_31_code 8 (Option.some Jvm.ClassFile.FieldType.long) ∈ px_ws := px_memc 5 231 rfl rfl
theorem px_w153 : Cond.code ⟨"ElevenBullocks", "weightOf", "(III)J"⟩ prog_1_method_46_code 6 (Option.some Jvm.ClassFile.FieldType.long) ∈ px_ws := px_memc 5 234 rfl rfl
theorem px_w154 : Cond.code ⟨"ElevenBullocks", "after", "(II)I"⟩ prog_1_method_32_code 4 (Option.some Jvm.ClassFile.FieldType.int) ∈ px_ws := px_memc 5 239 rfl rfl
theorem px_w155 : Cond.code ⟨"ElevenBullocks$Errands", "goAfterAll", "(I)I"⟩ prog_2_method_6_code 4 (Option.some Jvm.ClassFile.FieldType.int) ∈ px_ws := px_memc 6 3 rfl rfl
theorem px_w156 : Cond.code ⟨"ElevenBullocks$Errands", "chooseBunch", "(IIIII)V"⟩ prog_2_method_8_code 10 (Option.none : Option Jvm.ClassFile.FieldType) ∈ px_ws := px_memc 6 8 rfl rfl
theorem px_w157 : Cond.code ⟨"ElevenBullocks$Errands", "bunchAt", "(I)I"⟩ prog_2_method_7_code 2 (Option.some Jvm.ClassFile.FieldType.int) ∈ px_ws := px_memc 6 12 rfl rfl
theorem px_w158 : Cond.code ⟨"ElevenBullocks", "pays", "(II)I"⟩ prog_1_method_33_code 3 (Option.some Jvm.ClassFile.FieldType.int) ∈ px_ws := px_memc 6 17 rfl rfl
theorem px_w159 : Cond.code ⟨"ElevenBullocks", "costAt", "(ILElevenBullocks$Script;)I"⟩ prog_1_method_53_code 3 (Option.some Jvm.ClassFile.FieldType.int) ∈ px_ws := px_memc 6 21 rfl rfl
theorem px_w160 : Cond.code ⟨"ElevenBullocks$Laws", "shareOf", "(LElevenBullocks$Script;I)I"⟩ prog_5_method_4_code 3 (Option.some Jvm.ClassFile.FieldType.int) ∈ px_ws := px_memc 6 25 rfl rfl
theorem px_w161 : Cond.code ⟨"ElevenBullocks", "cheapest", "()I"⟩ prog_1_method_34_code 5 (Option.some Jvm.ClassFile.FieldType.int) ∈ px_ws := px_memc 6 29 rfl rfl
theorem px_w162 : Cond.code ⟨"ElevenBullocks", "costOfGardens", "(I)I"⟩ prog_1_method_54_code 4 (Option.some Jvm.ClassFile.FieldType.int) ∈ px_ws := px_memc 6 33 rfl rfl
theorem px_w163 : Cond.code ⟨"ElevenBullocks", "mending", "(IIIII)Z"⟩ prog_1_method_35_code 7 (Option.some Jvm.ClassFile.FieldType.boolean) ∈ px_ws := px_memc 6 37 rfl rfl
theorem px_w164 : Cond.code ⟨"ElevenBullocks", "saved", "(I)I"⟩ prog_1_method_36_code 2 (Option.some Jvm.ClassFile.FieldType.int) ∈ px_ws := px_memc 6 41 rfl rfl
theorem px_w165 : Cond.code ⟨"ElevenBullocks$Notes", "bestGate", "()I"⟩ prog_7_method_4_code 4 (Option.some Jvm.ClassFile.FieldType.int) ∈ px_ws := px_memc 6 45 rfl rfl
theorem px_w166 : Cond.code ⟨"ElevenBullocks", "tried", "(IZ)I"⟩ prog_1_method_37_code 3 (Option.some Jvm.ClassFile.FieldType.int) ∈ px_ws := px_memc 6 49 rfl rfl
theorem px_w167 : Cond.code ⟨"ElevenBullocks$Notes", "forgetTries", "()V"⟩ prog_7_method_6_code 1 (Option.none : Option Jvm.ClassFile.FieldType) ∈ px_ws := px_memc 6 53 rfl rfl
theorem px_w168 : Cond.code ⟨"ElevenBullocks$Notes", "allTries", "()I"⟩ prog_7_method_5_code 1 (Option.some Jvm.ClassFile.FieldType.int) ∈ px_ws := px_memc 6 57 rfl rfl
theorem px_w169 : Cond.code ⟨"ElevenBullocks", "turned", "(IZ)I"⟩ prog_1_method_38_code 3 (Option.some Jvm.ClassFile.FieldType.int) ∈ px_ws := px_memc 6 62 rfl rfl
theorem px_w170 : Cond.code ⟨"ElevenBullocks", "best", "()I"⟩ prog_1_method_39_code 1 (Option.some Jvm.ClassFile.FieldType.int) ∈ px_ws := px_memc 6 66 rfl rfl
theorem px_w171 : Cond.code ⟨"ElevenBullocks$Notes", "bestHow", "()I"⟩ prog_7_method_7_code 3 (Option.some Jvm.ClassFile.FieldType.int) ∈ px_ws := px_memc 6 70 rfl rfl
theorem px_w172 : Cond.code ⟨"ElevenBullocks$Notes", "isBetter", "(II)Z"⟩ prog_7_method_8_code 5 (Option.some Jvm.ClassFile.FieldType.boolean) ∈ px_ws := px_memc 6 74 rfl rfl
theorem px_w173 : Cond.code ⟨"ElevenBullocks", "image", "()I"⟩ prog_1_method_40_code 1 (Option.some Jvm.ClassFile.FieldType.int) ∈ px_ws := px_memc 6 78 rfl rfl
theorem px_w174 : Cond.code ⟨"ElevenBullocks$Stand", "likeOther", "(LElevenBullocks$Stand;)V"⟩ prog_10_method_12_code 2 (Option.none : Option Jvm.ClassFile.FieldType) ∈ px_ws := px_memc 6 82 rfl rfl
theorem px_w175 : Cond.code ⟨"ElevenBullocks$Steps", "likeOther", "(LElevenBullocks$Steps;)V"⟩ prog_11_method_4_code 2 (Option.none : Option Jvm.ClassFile.FieldType) ∈ px_ws := px_memc 6 86 rfl rfl
theorem px_w176 : Cond.code ⟨"ElevenBullocks$Notes", "likeOther", "(LElevenBullocks$Notes;)V"⟩ prog_7_method_9_code 2 (Option.none : Option Jvm.ClassFile.FieldType) ∈ px_ws := px_memc 6 91 rfl rfl
theorem px_w177 : Cond.code ⟨"ElevenBullocks", "back", "()I"⟩ prog_1_method_41_code 1 (Option.some Jvm.ClassFile.FieldType.int) ∈ px_ws := px_memc 6 96 rfl rfl
theorem px_w178 : Cond.code ⟨"ElevenBullocks$Land", "cutTo", "(III)V"⟩ prog_4_method_9_code 5 (Option.none : Option Jvm.ClassFile.FieldType) ∈ px_ws := px_memc 6 100 rfl rfl
theorem px_w179 : Cond.code ⟨"ElevenBullocks", "about", "(I)I"⟩ prog_1_method_42_code 2 (Option.some Jvm.ClassFile.FieldType.int) ∈ px_ws := px_memc 6 104 rfl rfl
theorem px_w180 : Cond.code ⟨"ElevenBullocksModel", "<init>", "()V"⟩ prog_14_method_1_code 1 (Option.none : Option Jvm.ClassFile.FieldType) ∈ px_ws := px_memc 6 109 rfl rfl
theorem px_w181 : Cond.code ⟨"ElevenBullocksModel", "copy", "([I[I)V"⟩ prog_14_method_2_code 3 (Option.none : Option Jvm.ClassFile.FieldType) ∈ px_ws := px_memc 6 113 rfl rfl
theorem px_w182 : Cond.code ⟨"ElevenBullocksModel", "stretch", "(II)I"⟩ prog_14_method_21_code 4 (Option.some Jvm.ClassFile.FieldType.int) ∈ px_ws := px_memc 7 10 rfl rfl
theorem px_w183 : Cond.code ⟨"ElevenBullocksModel", "isIn", "(III)Z"⟩ prog_14_method_3_code 3 (Option.some Jvm.ClassFile.FieldType.boolean) ∈ px_ws := px_memc 7 13 rfl rfl
theorem px_w184 : Cond.code ⟨"ElevenBullocksModel", "way", "(IIZ)I"⟩ prog_14_method_23_code 5 (Option.some Jvm.ClassFile.FieldType.int) ∈ px_ws := px_memc 7 17 rfl rfl
theorem px_w185 : Cond.code ⟨"ElevenBullocksModel", "isStretch", "(I)Z"⟩ prog_14_method_6_code 2 (Option.some Jvm.ClassFile.FieldType.boolean) ∈ px_ws := px_memc 7 21 rfl rfl
theorem px_w186 : Cond.code ⟨"ElevenBullocksModel", "waysAt", "(I)I"⟩ prog_14_method_22_code 4 (Option.some Jvm.ClassFile.FieldType.int) ∈ px_ws := px_memc 7 25 rfl rfl
theorem px_w187 : Cond.code ⟨"ElevenBullocksModel", "acrossOf", "(II)I"⟩ prog_14_method_15_code 5 (Option.some Jvm.ClassFile.FieldType.int) ∈ px_ws := px_memc 7 29 rfl rfl
theorem px_w188 : Cond.code ⟨"ElevenBullocksModel", "bits", "(I)I"⟩ prog_14_method_5_code 3 (Option.some Jvm.ClassFile.FieldType.int) ∈ px_ws := px_memc 7 32 rfl rfl
theorem px_w189 : Cond.code ⟨"ElevenBullocksModel", "person", "(IZZI)I"⟩ prog_14_method_25_code 5 (Option.some Jvm.ClassFile.FieldType.int) ∈ px_ws := px_memc 7 36 rfl rfl
theorem px_w190 : Cond.code ⟨"ElevenBullocksModel", "personNow", "(IIII)I"⟩ prog_14_method_24_code 6 (Option.some Jvm.ClassFile.FieldType.int) ∈ px_ws := px_memc 7 40 rfl rfl
theorem px_w191 : Cond.code ⟨"ElevenBullocksModel", "set", "(III)V"⟩ prog_14_method_20_code 4 (Option.none : Option Jvm.ClassFile.FieldType) ∈ px_ws := px_memc 7 44 rfl rfl
theorem px_w192 : Cond.code ⟨"ElevenBullocksModel", "feed", "(IIIII)I"⟩ prog_14_method_27_code 6 (Option.some Jvm.ClassFile.FieldType.int) ∈ px_ws := px_memc 7 48 rfl rfl
theorem px_w193 : Cond.code ⟨"ElevenBullocksModel", "four", "(I)V"⟩ prog_14_method_26_code 3 (Option.none : Option Jvm.ClassFile.FieldType) ∈ px_ws := px_memc 7 52 rfl rfl
theorem px_w194 : Cond.code ⟨"ElevenBullocksModel", "end", "(I)I"⟩ prog_14_method_28_code 2 (Option.some Jvm.ClassFile.FieldType.int) ∈ px_ws := px_memc 7 56 rfl rfl
theorem px_w195 : Cond.code ⟨"ElevenBullocksModel", "text", "()I"⟩ prog_14_method_68_code 1 (Option.some Jvm.ClassFile.FieldType.int) ∈ px_ws := px_memc 7 60 rfl rfl
theorem px_w196 : Cond.code ⟨"ElevenBullocksModel", "readText", "()I"⟩ prog_14_method_67_code 2 (Option.some Jvm.ClassFile.FieldType.int) ∈ px_ws := px_memc 7 64 rfl rfl
theorem px_w197 : Cond.code ⟨"ElevenBullocksModel", "nextToken", "()V"⟩ prog_14_method_33_code 2 (Option.none : Option Jvm.ClassFile.FieldType) ∈ px_ws := px_memc 7 68 rfl rfl
theorem px_w198 : Cond.code ⟨"ElevenBullocksModel", "byteAt", "(I)I"⟩ prog_14_method_29_code 2 (Option.some Jvm.ClassFile.FieldType.int) ∈ px_ws := px_memc 7 72 rfl rfl
theorem px_w199 : Cond.code ⟨"ElevenBullocksModel", "isFigure", "(I)Z"⟩ prog_14_method_31_code 1 (Option.some Jvm.ClassFile.FieldType.boolean) ∈ px_ws := px_memc 7 75 rfl rfl
theorem px_w200 : Cond.code ⟨"ElevenBullocksModel", "isLetterByte", "(I)Z"⟩ prog_14_method_30_code 1 (Option.some Jvm.ClassFile.FieldType.boolean) ∈ px_ws := px_memc 7 79 rfl rfl
theorem px_w201 : Cond.code ⟨"ElevenBullocksModel", "isSign", "(I)Z"⟩ prog_14_method_32_code 1 (Option.some Jvm.ClassFile.FieldType.boolean) ∈ px_ws := px_memc 7 83 rfl rfl
theorem px_w202 : Cond.code ⟨"ElevenBullocksModel", "clause", "()I"⟩ prog_14_method_66_code 5 (Option.some Jvm.ClassFile.FieldType.int) ∈ px_ws := px_memc 7 87 rfl rfl
theorem px_w203 : Cond.code ⟨"ElevenBullocksModel", "sortOf", "()I"⟩ prog_14_method_65_code 1 (Option.some Jvm.ClassFile.FieldType.int) ∈ px_ws := px_memc 7 91 rfl rfl
theorem px_w204 : Cond.code ⟨"ElevenBullocksModel", "w4", "(IIII)J"⟩ prog_14_method_36_code 4 (Option.some Jvm.ClassFile.FieldType.long) ∈ px_ws := px_memc 7 94 rfl rfl
theorem px_w205 : Cond.code ⟨"ElevenBullocksModel", "w3", "(III)J"⟩ prog_14_method_35_code 3 (Option.some Jvm.ClassFile.FieldType.long) ∈ px_ws := px_memc 7 97 rfl rfl
theorem px_w206 : Cond.code ⟨"ElevenBullocksModel", "w2", "(II)J"⟩ prog_14_method_34_code 2 (Option.some Jvm.ClassFile.FieldType.long) ∈ px_ws := px_memc 7 100 rfl rfl
theorem px_w207 : Cond.code ⟨"ElevenBullocksModel", "isWord", "(J)Z"⟩ prog_14_method_39_code 3 (Option.some Jvm.ClassFile.FieldType.boolean) ∈ px_ws := px_memc 7 104 rfl rfl
theorem px_w208 : Cond.code ⟨"ElevenBullocksModel", "w5", "(IIIII)J"⟩ prog_14_method_37_code 5 (Option.some Jvm.ClassFile.FieldType.long) ∈ px_ws := px_memc 7 107 rfl rfl
theorem px_w209 : Cond.code ⟨"ElevenBullocksModel", "w6", "(IIIIII)J"⟩ prog_14_method_38_code 6 (Option.some Jvm.ClassFile.FieldType.long) ∈ px_ws := px_memc 7 110 rfl rfl
theorem px_w210 : Cond.code ⟨"ElevenBullocksModel", "has", "(II)Z"⟩ prog_14_method_4_code 2 (Option.some Jvm.ClassFile.FieldType.boolean) ∈ px_ws := px_memc 7 113 rfl rfl
theorem px_w211 : Cond.code ⟨"ElevenBullocksModel", "body", "(II)I"⟩ prog_14_method_64_code 3 (Option.some Jvm.ClassFile.FieldType.int) ∈ px_ws := px_memc 7 117 rfl rfl
theorem px_w212 : Cond.code ⟨"ElevenBullocksModel", "pair", "(IIIJII)I"⟩ prog_14_method_63_code 9 (Option.some Jvm.ClassFile.FieldType.int) ∈ px_ws := px_memc 7 121 rfl rfl
theorem px_w213 : Cond.code ⟨"ElevenBullocksModel", "figure", "(III)I"⟩ prog_14_method_60_code 4 (Option.some Jvm.ClassFile.FieldType.int) ∈ px_ws := px_memc 7 125 rfl rfl
theorem px_w214 : Cond.code ⟨"ElevenBullocksModel", "worded", "(JIII)I"⟩ prog_14_method_61_code 6 (Option.some Jvm.ClassFile.FieldType.int) ∈ px_ws := px_memc 7 129 rfl rfl
theorem px_w215 : Cond.code ⟨"ElevenBullocksModel", "lawClause", "(I)I"⟩ prog_14_method_62_code 3 (Option.some Jvm.ClassFile.FieldType.int) ∈ px_ws := px_memc 7 133 rfl rfl
theorem px_w216 : Cond.code ⟨"ElevenBullocksModel", "summed", "()I"⟩ prog_14_method_59_code 2 (Option.some Jvm.ClassFile.FieldType.int) ∈ px_ws := px_memc 7 137 rfl rfl
theorem px_w217 : Cond.code ⟨"ElevenBullocksModel", "behindOne", "()Z"⟩ prog_14_method_58_code 4 (Option.some Jvm.ClassFile.FieldType.boolean) ∈ px_ws := px_memc 7 141 rfl rfl
theorem px_w218 : Cond.code ⟨"ElevenBullocksModel", "betweenOf", "()I"⟩ prog_14_method_54_code 1 (Option.some Jvm.ClassFile.FieldType.int) ∈ px_ws := px_memc 7 145 rfl rfl
theorem px_w219 : Cond.code ⟨"ElevenBullocksModel", "openNow", "()I"⟩ prog_14_method_47_code 1 (Option.some Jvm.ClassFile.FieldType.int) ∈ px_ws := px_memc 7 149 rfl rfl
theorem px_w220 : Cond.code ⟨"ElevenBullocksModel", "openAt", "()I"⟩ prog_14_method_46_code 2 (Option.some Jvm.ClassFile.FieldType.int) ∈ px_ws := px_memc 7 153 rfl rfl
theorem px_w221 : Cond.code ⟨"ElevenBullocksModel", "isCompared", "()Z"⟩ prog_14_method_48_code 2 (Option.some Jvm.ClassFile.FieldType.boolean) ∈ px_ws := px_memc 7 157 rfl rfl
theorem px_w222 : Cond.code ⟨"ElevenBullocksModel", "rank", "(I)I"⟩ prog_14_method_44_code 1 (Option.some Jvm.ClassFile.FieldType.int) ∈ px_ws := px_memc 7 160 rfl rfl
theorem px_w223 : Cond.code ⟨"ElevenBullocksModel", "compareOf", "()I"⟩ prog_14_method_53_code 1 (Option.some Jvm.ClassFile.FieldType.int) ∈ px_ws := px_memc 7 164 rfl rfl
theorem px_w224 : Cond.code ⟨"ElevenBullocksModel", "settle", "(I)V"⟩ prog_14_method_45_code 2 (Option.none : Option Jvm.ClassFile.FieldType) ∈ px_ws := px_memc 7 168 rfl rfl
theorem px_w225 : Cond.code ⟨"ElevenBullocksModel", "emit", "(II)V"⟩ prog_14_method_40_code 3 (Option.none : Option Jvm.ClassFile.FieldType) ∈ px_ws := px_memc 7 172 rfl rfl
theorem px_w226 : Cond.code ⟨"ElevenBullocksModel", "partOf", "(I)I"⟩ prog_14_method_55_code 2 (Option.some Jvm.ClassFile.FieldType.int) ∈ px_ws := px_memc 7 176 rfl rfl
theorem px_w227 : Cond.code ⟨"ElevenBullocksModel", "bind", "()V"⟩ prog_14_method_56_code 2 (Option.none : Option Jvm.ClassFile.FieldType) ∈ px_ws := px_memc 7 180 rfl rfl
theorem px_w228 : Cond.code ⟨"ElevenBullocksModel", "shut", "(I)V"⟩ prog_14_method_57_code 2 (Option.none : Option Jvm.ClassFile.FieldType) ∈ px_ws := px_memc 7 184 rfl rfl
theorem px_w229 : Cond.code ⟨"ElevenBullocksModel", "beginOne", "()I"⟩ prog_14_method_52_code 2 (Option.some Jvm.ClassFile.FieldType.int) ∈ px_ws := px_memc 7 188 rfl rfl
theorem px_w230 : Cond.code ⟨"ElevenBullocksModel", "nameOf", "()I"⟩ prog_14_method_41_code 1 (Option.some Jvm.ClassFile.FieldType.int) ∈ px_ws := px_memc 7 192 rfl rfl
theorem px_w231 : Cond.code ⟨"ElevenBullocksModel", "isOf", "(I)Z"⟩ prog_14_method_42_code 2 (Option.some Jvm.ClassFile.FieldType.boolean) ∈ px_ws := px_memc 7 196 rfl rfl
theorem px_w232 : Cond.code ⟨"ElevenBullocksModel", "letter", "()I"⟩ prog_14_method_43_code 1 (Option.some Jvm.ClassFile.FieldType.int) ∈ px_ws := px_memc 7 200 rfl rfl
theorem px_w233 : Cond.code ⟨"ElevenBullocksModel", "one", "(II)V"⟩ prog_14_method_51_code 3 (Option.none : Option Jvm.ClassFile.FieldType) ∈ px_ws := px_memc 7 204 rfl rfl
theorem px_w234 : Cond.code ⟨"ElevenBullocksModel", "opened", "(I)I"⟩ prog_14_method_50_code 2 (Option.some Jvm.ClassFile.FieldType.int) ∈ px_ws := px_memc 7 208 rfl rfl
theorem px_w235 : Cond.code ⟨"ElevenBullocksModel", "isAskAhead", "()Z"⟩ prog_14_method_49_code 1 (Option.some Jvm.ClassFile.FieldType.boolean) ∈ px_ws := px_memc 7 212 rfl rfl
theorem px_w236 : Cond.code ⟨"ElevenBullocksModel", "fault", "(I)I"⟩ prog_14_method_69_code 2 (Option.some Jvm.ClassFile.FieldType.int) ∈ px_ws := px_memc 7 216 rfl rfl
theorem px_w237 : Cond.code ⟨"ElevenBullocksModel", "by", "(I)Z"⟩ prog_14_method_70_code 2 (Option.some Jvm.ClassFile.FieldType.boolean) ∈ px_ws := px_memc 7 220 rfl rfl
theorem px_w238 : Cond.code ⟨"ElevenBullocksModel", "undo", "()I"⟩ prog_14_method_82_code 3 (Option.some Jvm.ClassFile.FieldType.int) ∈ px_ws := px_memc 7 224 rfl rfl
theorem px_w239 : Cond.code ⟨"ElevenBullocksModel", "get", "(II)I"⟩ prog_14_method_19_code 3 (Option.some Jvm.ClassFile.FieldType.int) ∈ px_ws := px_memc 7 228 rfl rfl
theorem px_w240 : Cond.code ⟨"ElevenBullocksModel", "stray", "(II)I"⟩ prog_14_method_86_code 4 (Option.some Jvm.ClassFile.FieldType.int) ∈ px_ws := px_memc 7 232 rfl rfl
theorem px_w241 : Cond.code ⟨"ElevenBullocksModel", "freeBunch", "()I"⟩ prog_14_method_84_code 2 (Option.some Jvm.ClassFile.FieldType.int) ∈ px_ws := px_memc 7 236 rfl rfl
theorem px_w242 : Cond.code ⟨"ElevenBullocksModel", "sizeOf", "(I)I"⟩ prog_14_method_16_code 2 (Option.some Jvm.ClassFile.FieldType.int) ∈ px_ws := px_memc 8 0 rfl rfl
theorem px_w243 : Cond.code ⟨"ElevenBullocksModel", "beasts", "()I"⟩ prog_14_method_83_code 3 (Option.some Jvm.ClassFile.FieldType.int) ∈ px_ws := px_memc 8 4 rfl rfl
theorem px_w244 : Cond.code ⟨"ElevenBullocksModel", "keep", "()V"⟩ prog_14_method_81_code 3 (Option.none : Option Jvm.ClassFile.FieldType) ∈ px_ws := px_memc 8 8 rfl rfl
theorem px_w245 : Cond.code ⟨"ElevenBullocksModel", "isOpen", "(I)Z"⟩ prog_14_method_14_code 2 (Option.some Jvm.ClassFile.FieldType.boolean) ∈ px_ws := px_memc 8 12 rfl rfl
theorem px_w246 : Cond.code ⟨"ElevenBullocksModel", "doneAt", "(I)I"⟩ prog_14_method_12_code 2 (Option.some Jvm.ClassFile.FieldType.int) ∈ px_ws := px_memc 8 16 rfl rfl
theorem px_w247 : Cond.code ⟨"ElevenBullocksModel", "layBunch", "(IIII)V"⟩ prog_14_method_85_code 5 (Option.none : Option Jvm.ClassFile.FieldType) ∈ px_ws := px_memc 8 20 rfl rfl
theorem px_w248 : Cond.code ⟨"ElevenBullocksModel", "send", "(II)Z"⟩ prog_14_method_87_code 3 (Option.some Jvm.ClassFile.FieldType.boolean) ∈ px_ws := px_memc 8 24 rfl rfl
theorem px_w249 : Cond.code ⟨"ElevenBullocksModel", "isPerson", "(I)Z"⟩ prog_14_method_8_code 2 (Option.some Jvm.ClassFile.FieldType.boolean) ∈ px_ws := px_memc 8 28 rfl rfl
theorem px_w250 : Cond.code ⟨"ElevenBullocksModel", "gate", "(IZ)Z"⟩ prog_14_method_88_code 3 (Option.some Jvm.ClassFile.FieldType.boolean) ∈ px_ws := px_memc 8 32 rfl rfl
theorem px_w251 : Cond.code ⟨"ElevenBullocksModel", "isWay", "(I)Z"⟩ prog_14_method_7_code 2 (Option.some Jvm.ClassFile.FieldType.boolean) ∈ px_ws := px_memc 8 36 rfl rfl
theorem px_w252 : Cond.code ⟨"ElevenBullocksModel", "isPath", "(I)Z"⟩ prog_14_method_13_code 2 (Option.some Jvm.ClassFile.FieldType.boolean) ∈ px_ws := px_memc 8 40 rfl rfl
theorem px_w253 : Cond.code ⟨"ElevenBullocksModel", "split", "(II)I"⟩ prog_14_method_89_code 4 (Option.some Jvm.ClassFile.FieldType.int) ∈ px_ws := px_memc 8 44 rfl rfl
theorem px_w254 : Cond.code ⟨"ElevenBullocksModel", "isBunch", "(I)Z"⟩ prog_14_method_9_code 2 (Option.some Jvm.ClassFile.FieldType.boolean) ∈ px_ws := px_memc 8 48 rfl rfl
theorem px_w255 : Cond.code ⟨"ElevenBullocksModel", "atOf", "(I)I"⟩ prog_14_method_17_code 2 (Option.some Jvm.ClassFile.FieldType.int) ∈ px_ws := px_memc 8 52 rfl rfl
theorem px_w256 : Cond.code ⟨"ElevenBullocksModel", "cameOf", "(I)I"⟩ prog_14_method_18_code 2 (Option.some Jvm.ClassFile.FieldType.int) ∈ px_ws := px_memc 8 56 rfl rfl
theorem px_w257 : Cond.code ⟨"ElevenBullocksModel", "minute", "(I)I"⟩ prog_14_method_100_code 2 (Option.some Jvm.ClassFile.FieldType.int) ∈ px_ws := px_memc 8 60 rfl rfl
theorem px_w258 : Cond.code ⟨"ElevenBullocksModel", "areMinutes", "(I)Z"⟩ prog_14_method_99_code 3 (Option.some Jvm.ClassFile.FieldType.boolean) ∈ px_ws := px_memc 8 64 rfl rfl
theorem px_w259 : Cond.code ⟨"ElevenBullocksModel", "passStep", "()Z"⟩ prog_14_method_98_code 1 (Option.some Jvm.ClassFile.FieldType.boolean) ∈ px_ws := px_memc 8 68 rfl rfl
theorem px_w260 : Cond.code ⟨"ElevenBullocksModel", "pass", "()V"⟩ prog_14_method_96_code 4 (Option.none : Option Jvm.ClassFile.FieldType) ∈ px_ws := px_memc 8 72 rfl rfl
theorem px_w261 : Cond.code ⟨"ElevenBullocksModel", "findFar", "(IZ)V"⟩ prog_14_method_90_code 7 (Option.none : Option Jvm.ClassFile.FieldType) ∈ px_ws := px_memc 8 76 rfl rfl
theorem px_w262 : Cond.code ⟨"ElevenBullocksModel", "goOn", "(I)V"⟩ prog_14_method_91_code 6 (Option.none : Option Jvm.ClassFile.FieldType) ∈ px_ws := px_memc 8 80 rfl rfl
theorem px_w263 : Cond.code ⟨"ElevenBullocksModel", "paceOf", "(I)I"⟩ prog_14_method_79_code 2 (Option.some Jvm.ClassFile.FieldType.int) ∈ px_ws := px_memc 8 84 rfl rfl
theorem px_w264 : Cond.code ⟨"ElevenBullocksModel", "name", "(II)V"⟩ prog_14_method_78_code 3 (Option.none : Option Jvm.ClassFile.FieldType) ∈ px_ws := px_memc 8 88 rfl rfl
theorem px_w265 : Cond.code ⟨"ElevenBullocksModel", "kindOf", "(I)I"⟩ prog_14_method_10_code 2 (Option.some Jvm.ClassFile.FieldType.int) ∈ px_ws := px_memc 8 92 rfl rfl
theorem px_w266 : Cond.code ⟨"ElevenBullocksModel", "peopleAt", "(I)I"⟩ prog_14_method_76_code 4 (Option.some Jvm.ClassFile.FieldType.int) ∈ px_ws := px_memc 8 96 rfl rfl
theorem px_w267 : Cond.code ⟨"ElevenBullocksModel", "says", "(IIII)I"⟩ prog_14_method_75_code 7 (Option.some Jvm.ClassFile.FieldType.int) ∈ px_ws := px_memc 8 100 rfl rfl
theorem px_w268 : Cond.code ⟨"ElevenBullocksModel", "worked", "(II)I"⟩ prog_14_method_74_code 10 (Option.some Jvm.ClassFile.FieldType.int) ∈ px_ws := px_memc 8 104 rfl rfl
theorem px_w269 : Cond.code ⟨"ElevenBullocksModel", "two", "(IJJ)J"⟩ prog_14_method_72_code 5 (Option.some Jvm.ClassFile.FieldType.long) ∈ px_ws := px_memc 8 107 rfl rfl
theorem px_w270 : Cond.code ⟨"ElevenBullocksModel", "clip", "(J)J"⟩ prog_14_method_71_code 2 (Option.some Jvm.ClassFile.FieldType.long) ∈ px_ws := px_memc 8 110 rfl rfl
theorem px_w271 : Cond.code ⟨"ElevenBullocksModel", "isAsked", "(IJJ)Z"⟩ prog_14_method_73_code 5 (Option.some Jvm.ClassFile.FieldType.boolean) ∈ px_ws := px_memc 8 115 rfl rfl
theorem px_w272 : Cond.code ⟨"ElevenBullocksModel", "move", "(I)V"⟩ prog_14_method_94_code 5 (Option.none : Option Jvm.ClassFile.FieldType) ∈ px_ws := px_memc 8 119 rfl rfl
theorem px_w273 : Cond.code ⟨"ElevenBullocksModel", "takesOf", "(IIII)I"⟩ prog_14_method_80_code 6 (Option.some Jvm.ClassFile.FieldType.int) ∈ px_ws := px_memc 8 123 rfl rfl
theorem px_w274 : Cond.code ⟨"ElevenBullocksModel", "sumAt", "(II)I"⟩ prog_14_method_77_code 5 (Option.some Jvm.ClassFile.FieldType.int) ∈ px_ws := px_memc 8 127 rfl rfl
theorem px_w275 : Cond.code ⟨"ElevenBullocksModel", "drawn", "(I)I"⟩ prog_14_method_92_code 3 (Option.some Jvm.ClassFile.FieldType.int) ∈ px_ws := px_memc 8 131 rfl rfl
theorem px_w276 : Cond.code ⟨"ElevenBullocksModel", "anew", "()V"⟩ prog_14_method_93_code 1 (Option.none : Option Jvm.ClassFile.FieldType) ∈ px_ws := px_memc 8 135 rfl rfl
theorem px_w277 : Cond.code ⟨"ElevenBullocksModel", "harmOf", "(I)I"⟩ prog_14_method_11_code 2 (Option.some Jvm.ClassFile.FieldType.int) ∈ px_ws := px_memc 8 139 rfl rfl
theorem px_w278 : Cond.code ⟨"ElevenBullocksModel", "join", "()V"⟩ prog_14_method_95_code 3 (Option.none : Option Jvm.ClassFile.FieldType) ∈ px_ws := px_memc 8 143 rfl rfl
theorem px_w279 : Cond.code ⟨"ElevenBullocksModel", "allDone", "()I"⟩ prog_14_method_97_code 3 (Option.some Jvm.ClassFile.FieldType.int) ∈ px_ws := px_memc 8 147 rfl rfl
theorem px_w280 : Cond.code ⟨"ElevenBullocksModel", "played", "(I)I"⟩ prog_14_method_102_code 3 (Option.some Jvm.ClassFile.FieldType.int) ∈ px_ws := px_memc 8 151 rfl rfl
theorem px_w281 : Cond.code ⟨"ElevenBullocksModel", "isPlayed", "(I)Z"⟩ prog_14_method_101_code 4 (Option.some Jvm.ClassFile.FieldType.boolean) ∈ px_ws := px_memc 8 155 rfl rfl
theorem px_w282 : Cond.code ⟨"ElevenBullocksModel", "day", "(II)I"⟩ prog_14_method_104_code 4 (Option.some Jvm.ClassFile.FieldType.int) ∈ px_ws := px_memc 8 165 rfl rfl
theorem px_w283 : Cond.code ⟨"ElevenBullocksModel", "happens", "()V"⟩ prog_14_method_103_code 3 (Option.none : Option Jvm.ClassFile.FieldType) ∈ px_ws := px_memc 8 169 rfl rfl
theorem px_w284 : Cond.code ⟨"ElevenBullocksModel", "bunch", "(II)I"⟩ prog_14_method_105_code 3 (Option.some Jvm.ClassFile.FieldType.int) ∈ px_ws := px_memc 8 173 rfl rfl
theorem px_w285 : Cond.code ⟨"ElevenBullocksModel", "ofPerson", "(II)I"⟩ prog_14_method_106_code 3 (Option.some Jvm.ClassFile.FieldType.int) ∈ px_ws := px_memc 8 177 rfl rfl
theorem px_w286 : Cond.code ⟨"ElevenBullocksModel", "ofStretch", "(II)I"⟩ prog_14_method_107_code 3 (Option.some Jvm.ClassFile.FieldType.int) ∈ px_ws := px_memc 8 181 rfl rfl
theorem px_w287 : Cond.code ⟨"ElevenBullocksModel", "ofWay", "(II)I"⟩ prog_14_method_108_code 3 (Option.some Jvm.ClassFile.FieldType.int) ∈ px_ws := px_memc 8 185 rfl rfl
theorem px_w288 : Cond.code ⟨"ElevenBullocksModel", "takes", "(II)I"⟩ prog_14_method_109_code 3 (Option.some Jvm.ClassFile.FieldType.int) ∈ px_ws := px_memc 8 189 rfl rfl
theorem px_w289 : Cond.code ⟨"ElevenBullocksModel", "where", "(IIIZ)J"⟩ prog_14_method_113_code 10 (Option.some Jvm.ClassFile.FieldType.long) ∈ px_ws := px_memc 8 193 rfl rfl
theorem px_w290 : Cond.code ⟨"ElevenBullocksModel", "spread", "(II)V"⟩ prog_14_method_110_code 10 (Option.none : Option Jvm.ClassFile.FieldType) ∈ px_ws := px_memc 8 198 rfl rfl
theorem px_w291 : Cond.code ⟨"ElevenBullocksModel", "part", "(JJZ)J"⟩ prog_14_method_112_code 5 (Option.some Jvm.ClassFile.FieldType.long) ∈ px_ws := px_memc 8 203 rfl rfl
theorem px_w292 : Cond.code ⟨"ElevenBullocksModel", "common", "(JJ)J"⟩ prog_14_method_111_code 10 (Option.some Jvm.ClassFile.FieldType.long) ∈ px_ws := px_memc 8 206 rfl rfl
theorem px_w293 : Cond.code ⟨"ElevenBullocksModel", "canCome", "(I)I"⟩ prog_14_method_116_code 2 (Option.some Jvm.ClassFile.FieldType.int) ∈ px_ws := px_memc 8 210 rfl rfl
theorem px_w294 : Cond.code ⟨"ElevenBullocksModel", "comesTo", "(I)I"⟩ prog_14_method_114_code 9 (Option.some Jvm.ClassFile.FieldType.int) ∈ px_ws := px_memc 8 214 rfl rfl
theorem px_w295 : Cond.code ⟨"ElevenBullocksModel", "stopped", "(II)I"⟩ prog_14_method_117_code 6 (Option.some Jvm.ClassFile.FieldType.int) ∈ px_ws := px_memc 8 218 rfl rfl
theorem px_w296 : Cond.code ⟨"ElevenBullocksModel", "ofKind", "(II)I"⟩ prog_14_method_115_code 5 (Option.some Jvm.ClassFile.FieldType.int) ∈ px_ws := px_memc 8 222 rfl rfl
theorem px_w297 : Cond.code ⟨"ElevenBullocksModel", "home", "(I)I"⟩ prog_14_method_118_code 7 (Option.some Jvm.ClassFile.FieldType.int) ∈ px_ws := px_memc 8 226 rfl rfl
theorem px_w298 : Cond.code ⟨"ElevenBullocksModel", "soon", "(II)I"⟩ prog_14_method_120_code 4 (Option.some Jvm.ClassFile.FieldType.int) ∈ px_ws := px_memc 8 230 rfl rfl
theorem px_w299 : Cond.code ⟨"ElevenBullocksModel", "minutesOf", "(II)I"⟩ prog_14_method_119_code 3 (Option.some Jvm.ClassFile.FieldType.int) ∈ px_ws := px_memc 8 234 rfl rfl
theorem px_w300 : Cond.code ⟨"ElevenBullocksModel", "whom", "(III)I"⟩ prog_14_method_125_code 8 (Option.some Jvm.ClassFile.FieldType.int) ∈ px_ws := px_memc 8 238 rfl rfl
theorem px_w301 : Cond.code ⟨"ElevenBullocksModel", "layOut", "(I[I)I"⟩ prog_14_method_121_code 4 (Option.some Jvm.ClassFile.FieldType.int) ∈ px_ws := px_memc 9 1 rfl rfl
theorem px_w302 : Cond.code ⟨"ElevenBullocksModel", "bestSending", "(II)I"⟩ prog_14_method_124_code 7 (Option.some Jvm.ClassFile.FieldType.int) ∈ px_ws := px_memc 9 5 rfl rfl
theorem px_w303 : Cond.code ⟨"ElevenBullocksModel", "areUnlike", "(I)Z"⟩ prog_14_method_123_code 4 (Option.some Jvm.ClassFile.FieldType.boolean) ∈ px_ws := px_memc 9 9 rfl rfl
theorem px_w304 : Cond.code ⟨"ElevenBullocksModel", "nextRow", "(II)Z"⟩ prog_14_method_122_code 4 (Option.some Jvm.ClassFile.FieldType.boolean) ∈ px_ws := px_memc 9 13 rfl rfl
theorem px_w305 : Cond.code ⟨"ElevenBullocksModel", "seen", "(II)I"⟩ prog_14_method_126_code 3 (Option.some Jvm.ClassFile.FieldType.int) ∈ px_ws := px_memc 9 17 rfl rfl
theorem px_w306 : Cond.code ⟨"ElevenBullocksModel", "which", "()I"⟩ prog_14_method_128_code 5 (Option.some Jvm.ClassFile.FieldType.int) ∈ px_ws := px_memc 9 21 rfl rfl
theorem px_w307 : Cond.code ⟨"ElevenBullocksModel", "isFrom", "(I)Z"⟩ prog_14_method_127_code 3 (Option.some Jvm.ClassFile.FieldType.boolean) ∈ px_ws := px_memc 9 25 rfl rfl
theorem px_w308 : Cond.code ⟨"ElevenBullocksModel", "many", "(IIIZ)J"⟩ prog_14_method_131_code 8 (Option.some Jvm.ClassFile.FieldType.long) ∈ px_ws := px_memc 9 29 rfl rfl
theorem px_w309 : Cond.code ⟨"ElevenBullocksModel", "weightOf", "(III)J"⟩ prog_14_method_130_code 6 (Option.some Jvm.ClassFile.FieldType.long) ∈ px_ws := px_memc 9 32 rfl rfl
theorem px_w310 : Cond.code ⟨"ElevenBullocksModel", "power", "(JI)J"⟩ prog_14_method_129_code 6 (Option.some Jvm.ClassFile.FieldType.long) ∈ px_ws := px_memc 9 35 rfl rfl
theorem px_w311 : Cond.code ⟨"ElevenBullocksModel", "after", "(II)I"⟩ prog_14_method_134_code 8 (Option.some Jvm.ClassFile.FieldType.int) ∈ px_ws := px_memc 9 39 rfl rfl
theorem px_w312 : Cond.code ⟨"ElevenBullocksModel", "layBunches", "(I)I"⟩ prog_14_method_132_code 5 (Option.some Jvm.ClassFile.FieldType.int) ∈ px_ws := px_memc 9 43 rfl rfl
theorem px_w313 : Cond.code ⟨"ElevenBullocksModel", "harmBy", "(I)I"⟩ prog_14_method_133_code 7 (Option.some Jvm.ClassFile.FieldType.int) ∈ px_ws := px_memc 9 47 rfl rfl
theorem px_w314 : Cond.code ⟨"ElevenBullocksModel", "pays", "(II)I"⟩ prog_14_method_136_code 3 (Option.some Jvm.ClassFile.FieldType.int) ∈ px_ws := px_memc 9 51 rfl rfl
theorem px_w315 : Cond.code ⟨"ElevenBullocksModel", "paysBy", "(II)I"⟩ prog_14_method_135_code 3 (Option.some Jvm.ClassFile.FieldType.int) ∈ px_ws := px_memc 9 55 rfl rfl
theorem px_w316 : Cond.code ⟨"ElevenBullocksModel", "cheapest", "()I"⟩ prog_14_method_138_code 3 (Option.some Jvm.ClassFile.FieldType.int) ∈ px_ws := px_memc 9 60 rfl rfl
theorem px_w317 : Cond.code ⟨"ElevenBullocksModel", "costBy", "(I)I"⟩ prog_14_method_137_code 4 (Option.some Jvm.ClassFile.FieldType.int) ∈ px_ws := px_memc 9 64 rfl rfl
theorem px_w318 : Cond.code ⟨"ElevenBullocksModel", "mending", "(IIIII)Z"⟩ prog_14_method_139_code 7 (Option.some Jvm.ClassFile.FieldType.boolean) ∈ px_ws := px_memc 9 68 rfl rfl
theorem px_w319 : Cond.code ⟨"ElevenBullocksModel", "saved", "(I)I"⟩ prog_14_method_141_code 5 (Option.some Jvm.ClassFile.FieldType.int) ∈ px_ws := px_memc 9 72 rfl rfl
theorem px_w320 : Cond.code ⟨"ElevenBullocksModel", "savedBy", "(I)I"⟩ prog_14_method_140_code 3 (Option.some Jvm.ClassFile.FieldType.int) ∈ px_ws := px_memc 9 76 rfl rfl
theorem px_w321 : Cond.code ⟨"ElevenBullocksModel", "tried", "(IZ)I"⟩ prog_14_method_142_code 3 (Option.some Jvm.ClassFile.FieldType.int) ∈ px_ws := px_memc 9 80 rfl rfl
theorem px_w322 : Cond.code ⟨"ElevenBullocksModel", "turned", "(IZ)I"⟩ prog_14_method_144_code 3 (Option.some Jvm.ClassFile.FieldType.int) ∈ px_ws := px_memc 9 84 rfl rfl
theorem px_w323 : Cond.code ⟨"ElevenBullocksModel", "timesOf", "(IZ)I"⟩ prog_14_method_143_code 5 (Option.some Jvm.ClassFile.FieldType.int) ∈ px_ws := px_memc 9 88 rfl rfl
theorem px_w324 : Cond.code ⟨"ElevenBullocksModel", "best", "()I"⟩ prog_14_method_145_code 5 (Option.some Jvm.ClassFile.FieldType.int) ∈ px_ws := px_memc 9 92 rfl rfl
theorem px_w325 : Cond.code ⟨"ElevenBullocksModel", "image", "()I"⟩ prog_14_method_146_code 1 (Option.some Jvm.ClassFile.FieldType.int) ∈ px_ws := px_memc 9 96 rfl rfl
theorem px_w326 : Cond.code ⟨"ElevenBullocksModel", "back", "()I"⟩ prog_14_method_147_code 1 (Option.some Jvm.ClassFile.FieldType.int) ∈ px_ws := px_memc 9 100 rfl rfl
theorem px_w327 : Cond.code ⟨"ElevenBullocksModel", "about", "(I)I"⟩ prog_14_method_148_code 2 (Option.some Jvm.ClassFile.FieldType.int) ∈ px_ws := px_memc 9 104 rfl rfl
theorem px_mT_cw : px_allP (fun q : px_MI => q.1 = px_law ∨ Cond.code q.2.1 q.2.2.2.1 q.2.2.2.2.1 q.2.2.2.2.2.1 ∈ px_ws) px_mT := (px_allPB (px_allPB (px_allPB (px_allPB (px_allPB (px_allPB (px_allPB (px_allPB (px_allPL (Or.inr px_w0)) (px_allPL (Or.inr px_w1))) (px_allPB (px_allPL (Or.inr px_w2)) (px_allPB (px_allPL (Or.inr px_w3)) (px_allPL (Or.inr px_w4))))) (px_allPB (px_allPB (px_allPL (Or.inr px_w5)) (px_allPL (Or.inr px_w6))) (px_allPB (px_allPL (Or.inr px_w7)) (px_allPB (px_allPL (Or.inr px_w8)) (px_allPL (Or.inr px_w9)))))) (px_allPB (px_allPB (px_allPB (px_allPL (Or.inr px_w10)) (px_allPL (Or.inr px_w11))) (px_allPB (px_allPL (Or.inr px_w12)) (px_allPB (px_allPL (Or.inr px_w13)) (px_allPL (Or.inr px_w14))))) (px_allPB (px_allPB (px_allPL (Or.inr px_w15)) (px_allPL (Or.inr px_w16))) (px_allPB (px_allPL (Or.inr px_w17)) (px_allPB (px_allPL (Or.inr px_w18)) (px_allPL (Or.inr px_w19))))))) (px_allPB (px_allPB (px_allPB (px_allPB (px_allPL (Or.inr px_w20)) (px_allPL (Or.inr px_w21))) (px_allPB (px_allPL (Or.inr px_w22)) (px_allPB (px_allPL (Or.inr px_w23)) (px_allPL (Or.inr px_w24))))) (px_allPB (px_allPB (px_allPL (Or.inr px_w25)) (px_allPL (Or.inr px_w26))) (px_allPB (px_allPL (Or.inr px_w27)) (px_allPB (px_allPL (Or.inr px_w28)) (px_allPL (Or.inr px_w29)))))) (px_allPB (px_allPB (px_allPB (px_allPL (Or.inr px_w30)) (px_allPL (Or.inr px_w31))) (px_allPB (px_allPL (Or.inr px_w32)) (px_allPB (px_allPL (Or.inr px_w33)) (px_allPL (Or.inr px_w34))))) (px_allPB (px_allPB (px_allPL (Or.inr px_w35)) (px_allPB (px_allPL (Or.inr px_w36)) (px_allPL (Or.inr px_w37)))) (px_allPB (px_allPL (Or.inr px_w38)) (px_allPB (px_allPL (Or.inr px_w39)) (px_allPL (Or.inr px_w40)))))))) (px_allPB (px_allPB (px_allPB (px_allPB (px_allPB (px_allPL (Or.inr px_w41)) (px_allPL (Or.inr px_w42))) (px_allPB (px_allPL (Or.inr px_w43)) (px_allPB (px_allPL (Or.inr px_w44)) (px_allPL (Or.inr px_w45))))) (px_allPB (px_allPB (px_allPL (Or.inr px_w46)) (px_allPL (Or.inr px_w47))) (px_allPB (px_allPL (Or.inr px_w48)) (px_allPB (px_allPL (Or.inr px_w49)) (px_allPL (Or.inr px_w50)))))) (px_allPB (px_allPB (px_allPB (px_allPL (Or.inr px_w51)) (px_allPL (Or.inr px_w52))) (px_allPB (px_allPL (Or.inr px_w53)) (px_allPB (px_allPL (Or.inr px_w54)) (px_allPL (Or.inr px_w55))))) (px_allPB (px_allPB (px_allPL (Or.inr px_w56)) (px_allPL (Or.inr px_w57))) (px_allPB (px_allPL (Or.inr px_w58)) (px_allPB (px_allPL (Or.inr px_w59)) (px_allPL (Or.inr px_w60))))))) (px_allPB (px_allPB (px_allPB (px_allPB (px_allPL (Or.inr px_w61)) (px_allPL (Or.inr px_w62))) (px_allPB (px_allPL (Or.inr px_w63)) (px_allPB (px_allPL (Or.inr px_w64)) (px_allPL (Or.inr px_w65))))) (px_allPB (px_allPB (px_allPL (Or.inr px_w66)) (px_allPL (Or.inr px_w67))) (px_allPB (px_allPL (Or.inr px_w68)) (px_allPB (px_allPL (Or.inr px_w69)) (px_allPL (Or.inr px_w70)))))) (px_allPB (px_allPB (px_allPB (px_allPL (Or.inr px_w71)) (px_allPL (Or.inr px_w72))) (px_allPB (px_allPL (Or.inr px_w73)) (px_allPB (px_allPL (Or.inr px_w74)) (px_allPL (Or.inr px_w75))))) (px_allPB (px_allPB (px_allPL (Or.inr px_w76)) (px_allPB (px_allPL (Or.inr px_w77)) (px_allPL (Or.inr px_w78)))) (px_allPB (px_allPL (Or.inr px_w79)) (px_allPB (px_allPL (Or.inr px_w80)) (px_allPL (Or.inr px_w81))))))))) (px_allPB (px_allPB (px_allPB (px_allPB (px_allPB (px_allPB (px_allPL (Or.inr px_w82)) (px_allPL (Or.inr px_w83))) (px_allPB (px_allPL (Or.inr px_w84)) (px_allPB (px_allPL (Or.inr px_w85)) (px_allPL (Or.inr px_w86))))) (px_allPB (px_allPB (px_allPL (Or.inr px_w87)) (px_allPL (Or.inr px_w88))) (px_allPB (px_allPL (Or.inr px_w89)) (px_allPB (px_allPL (Or.inr px_w90)) (px_allPL (Or.inr px_w91)))))) (px_allPB (px_allPB (px_allPB (px_allPL (Or.inr px_w92)) (px_allPL (Or.inr px_w93))) (px_allPB (px_allPL (Or.inr px_w94)) (px_allPB (px_allPL (Or.inr px_w95)) (px_allPL (Or.inr px_w96))))) (px_allPB (px_allPB (px_allPL (Or.inr px_w97)) (px_allPL (Or.inr px_w98))) (px_allPB (px_allPL (Or.inr px_w99)) (px_allPB (px_allPL (Or.inr px_w100)) (px_allPL (Or.inr px_w101))))))) (px_allPB (px_allPB (px_allPB (px_allPB (px_allPL (Or.inr px_w102)) (px_allPL (Or.inr px_w103))) (px_allPB (px_allPL (Or.inr px_w104)) (px_allPB (px_allPL (Or.inr px_w105)) (px_allPL (Or.inr px_w106))))) (px_allPB (px_allPB (px_allPL (Or.inr px_w107)) (px_allPL (Or.inr px_w108))) (px_allPB (px_allPL (Or.inr px_w109)) (px_allPB (px_allPL (Or.inr px_w110)) (px_allPL (Or.inr px_w111)))))) (px_allPB (px_allPB (px_allPB (px_allPL (Or.inr px_w112)) (px_allPL (Or.inr px_w113))) (px_allPB (px_allPL (Or.inr px_w114)) (px_allPB (px_allPL (Or.inr px_w115)) (px_allPL (Or.inr px_w116))))) (px_allPB (px_allPB (px_allPL (Or.inr px_w117)) (px_allPB (px_allPL (Or.inr px_w118)) (px_allPL (Or.inr px_w119)))) (px_allPB (px_allPL (Or.inr px_w120)) (px_allPB (px_allPL (Or.inr px_w121)) (px_allPL (Or.inr px_w122)))))))) (px_allPB (px_allPB (px_allPB (px_allPB (px_allPB (px_allPL (Or.inr px_w123)) (px_allPL (Or.inr px_w124))) (px_allPB (px_allPL (Or.inr px_w125)) (px_allPB (px_allPL (Or.inr px_w126)) (px_allPL (Or.inr px_w127))))) (px_allPB (px_allPB (px_allPL (Or.inr px_w128)) (px_allPL (Or.inr px_w129))) (px_allPB (px_allPL (Or.inr px_w130)) (px_allPB (px_allPL (Or.inr px_w131)) (px_allPL (Or.inr px_w132)))))) (px_allPB (px_allPB (px_allPB (px_allPL (Or.inr px_w133)) (px_allPL (Or.inr px_w134))) (px_allPB (px_allPL (Or.inr px_w135)) (px_allPB (px_allPL (Or.inr px_w136)) (px_allPL (Or.inr px_w137))))) (px_allPB (px_allPB (px_allPL (Or.inr px_w138)) (px_allPL (Or.inr px_w139))) (px_allPB (px_allPL (Or.inr px_w140)) (px_allPB (px_allPL (Or.inr px_w141)) (px_allPL (Or.inr px_w142))))))) (px_allPB (px_allPB (px_allPB (px_allPB (px_allPL (Or.inr px_w143)) (px_allPL (Or.inr px_w144))) (px_allPB (px_allPL (Or.inr px_w145)) (px_allPB (px_allPL (Or.inr px_w146)) (px_allPL (Or.inr px_w147))))) (px_allPB (px_allPB (px_allPL (Or.inr px_w148)) (px_allPL (Or.inr px_w149))) (px_allPB (px_allPL (Or.inr px_w150)) (px_allPB (px_allPL (Or.inr px_w151)) (px_allPL (Or.inr px_w152)))))) (px_allPB (px_allPB (px_allPB (px_allPL (Or.inr px_w153)) (px_allPL (Or.inr px_w154))) (px_allPB (px_allPL (Or.inr px_w155)) (px_allPB (px_allPL (Or.inr px_w156)) (px_allPL (Or.inr px_w157))))) (px_allPB (px_allPB (px_allPL (Or.inr px_w158)) (px_allPB (px_allPL (Or.inr px_w159)) (px_allPL (Or.inr px_w160)))) (px_allPB (px_allPL (Or.inr px_w161)) (px_allPB (px_allPL (Or.inr px_w162)) (px_allPL (Or.inr px_w163)))))))))) (px_allPB (px_allPB (px_allPB (px_allPB (px_allPB (px_allPB (px_allPB (px_allPL (Or.inr px_w164)) (px_allPL (Or.inr px_w165))) (px_allPB (px_allPL (Or.inr px_w166)) (px_allPB (px_allPL (Or.inr px_w167)) (px_allPL (Or.inr px_w168))))) (px_allPB (px_allPB (px_allPL (Or.inr px_w169)) (px_allPL (Or.inr px_w170))) (px_allPB (px_allPL (Or.inr px_w171)) (px_allPB (px_allPL (Or.inr px_w172)) (px_allPL (Or.inr px_w173)))))) (px_allPB (px_allPB (px_allPB (px_allPL (Or.inr px_w174)) (px_allPL (Or.inr px_w175))) (px_allPB (px_allPL (Or.inr px_w176)) (px_allPB (px_allPL (Or.inr px_w177)) (px_allPL (Or.inr px_w178))))) (px_allPB (px_allPB (px_allPL (Or.inr px_w179)) (px_allPL (Or.inr px_w180))) (px_allPB (px_allPL (Or.inr px_w181)) (px_allPB (px_allPL (Or.inr px_w182)) (px_allPL (Or.inr px_w183))))))) (px_allPB (px_allPB (px_allPB (px_allPB (px_allPL (Or.inr px_w184)) (px_allPL (Or.inr px_w185))) (px_allPB (px_allPL (Or.inr px_w186)) (px_allPB (px_allPL (Or.inr px_w187)) (px_allPL (Or.inr px_w188))))) (px_allPB (px_allPB (px_allPL (Or.inr px_w189)) (px_allPL (Or.inr px_w190))) (px_allPB (px_allPL (Or.inr px_w191)) (px_allPB (px_allPL (Or.inr px_w192)) (px_allPL (Or.inr px_w193)))))) (px_allPB (px_allPB (px_allPB (px_allPL (Or.inr px_w194)) (px_allPL (Or.inr px_w195))) (px_allPB (px_allPL (Or.inr px_w196)) (px_allPB (px_allPL (Or.inr px_w197)) (px_allPL (Or.inr px_w198))))) (px_allPB (px_allPB (px_allPL (Or.inr px_w199)) (px_allPB (px_allPL (Or.inr px_w200)) (px_allPL (Or.inr px_w201)))) (px_allPB (px_allPL (Or.inr px_w202)) (px_allPB (px_allPL (Or.inr px_w203)) (px_allPL (Or.inr px_w204)))))))) (px_allPB (px_allPB (px_allPB (px_allPB (px_allPB (px_allPL (Or.inr px_w205)) (px_allPL (Or.inr px_w206))) (px_allPB (px_allPL (Or.inr px_w207)) (px_allPB (px_allPL (Or.inr px_w208)) (px_allPL (Or.inr px_w209))))) (px_allPB (px_allPB (px_allPL (Or.inr px_w210)) (px_allPL (Or.inr px_w211))) (px_allPB (px_allPL (Or.inr px_w212)) (px_allPB (px_allPL (Or.inr px_w213)) (px_allPL (Or.inr px_w214)))))) (px_allPB (px_allPB (px_allPB (px_allPL (Or.inr px_w215)) (px_allPL (Or.inr px_w216))) (px_allPB (px_allPL (Or.inr px_w217)) (px_allPB (px_allPL (Or.inr px_w218)) (px_allPL (Or.inr px_w219))))) (px_allPB (px_allPB (px_allPL (Or.inr px_w220)) (px_allPL (Or.inr px_w221))) (px_allPB (px_allPL (Or.inr px_w222)) (px_allPB (px_allPL (Or.inr px_w223)) (px_allPL (Or.inr px_w224))))))) (px_allPB (px_allPB (px_allPB (px_allPB (px_allPL (Or.inr px_w225)) (px_allPL (Or.inr px_w226))) (px_allPB (px_allPL (Or.inr px_w227)) (px_allPB (px_allPL (Or.inr px_w228)) (px_allPL (Or.inr px_w229))))) (px_allPB (px_allPB (px_allPL (Or.inr px_w230)) (px_allPL (Or.inr px_w231))) (px_allPB (px_allPL (Or.inr px_w232)) (px_allPB (px_allPL (Or.inr px_w233)) (px_allPL (Or.inr px_w234)))))) (px_allPB (px_allPB (px_allPB (px_allPL (Or.inr px_w235)) (px_allPL (Or.inr px_w236))) (px_allPB (px_allPL (Or.inr px_w237)) (px_allPB (px_allPL (Or.inr px_w238)) (px_allPL (Or.inr px_w239))))) (px_allPB (px_allPB (px_allPL (Or.inr px_w240)) (px_allPB (px_allPL (Or.inr px_w241)) (px_allPL (Or.inr px_w242)))) (px_allPB (px_allPL (Or.inr px_w243)) (px_allPB (px_allPL (Or.inr px_w244)) (px_allPL (Or.inr px_w245))))))))) (px_allPB (px_allPB (px_allPB (px_allPB (px_allPB (px_allPB (px_allPL (Or.inr px_w246)) (px_allPL (Or.inr px_w247))) (px_allPB (px_allPL (Or.inr px_w248)) (px_allPB (px_allPL (Or.inr px_w249)) (px_allPL (Or.inr px_w250))))) (px_allPB (px_allPB (px_allPL (Or.inr px_w251)) (px_allPL (Or.inr px_w252))) (px_allPB (px_allPL (Or.inr px_w253)) (px_allPB (px_allPL (Or.inr px_w254)) (px_allPL (Or.inr px_w255)))))) (px_allPB (px_allPB (px_allPB (px_allPL (Or.inr px_w256)) (px_allPL (Or.inr px_w257))) (px_allPB (px_allPL (Or.inr px_w258)) (px_allPB (px_allPL (Or.inr px_w259)) (px_allPL (Or.inr px_w260))))) (px_allPB (px_allPB (px_allPL (Or.inr px_w261)) (px_allPL (Or.inr px_w262))) (px_allPB (px_allPL (Or.inr px_w263)) (px_allPB (px_allPL (Or.inr px_w264)) (px_allPL (Or.inr px_w265))))))) (px_allPB (px_allPB (px_allPB (px_allPB (px_allPL (Or.inr px_w266)) (px_allPL (Or.inr px_w267))) (px_allPB (px_allPL (Or.inr px_w268)) (px_allPB (px_allPL (Or.inr px_w269)) (px_allPL (Or.inr px_w270))))) (px_allPB (px_allPB (px_allPL (Or.inr px_w271)) (px_allPL (Or.inr px_w272))) (px_allPB (px_allPL (Or.inr px_w273)) (px_allPB (px_allPL (Or.inr px_w274)) (px_allPL (Or.inr px_w275)))))) (px_allPB (px_allPB (px_allPB (px_allPL (Or.inr px_w276)) (px_allPL (Or.inr px_w277))) (px_allPB (px_allPL (Or.inr px_w278)) (px_allPB (px_allPL (Or.inr px_w279)) (px_allPL (Or.inr px_w280))))) (px_allPB (px_allPB (px_allPL (Or.inr px_w281)) (px_allPB (px_allPL (Or.inr px_w282)) (px_allPL (Or.inr px_w283)))) (px_allPB (px_allPL (Or.inr px_w284)) (px_allPB (px_allPL (Or.inr px_w285)) (px_allPL (Or.inr px_w286)))))))) (px_allPB (px_allPB (px_allPB (px_allPB (px_allPB (px_allPL (Or.inr px_w287)) (px_allPL (Or.inr px_w288))) (px_allPB (px_allPL (Or.inr px_w289)) (px_allPB (px_allPL (Or.inr px_w290)) (px_allPL (Or.inr px_w291))))) (px_allPB (px_allPB (px_allPL (Or.inr px_w292)) (px_allPL (Or.inr px_w293))) (px_allPB (px_allPL (Or.inr px_w294)) (px_allPB (px_allPL (Or.inr px_w295)) (px_allPL (Or.inr px_w296)))))) (px_allPB (px_allPB (px_allPB (px_allPL (Or.inr px_w297)) (px_allPL (Or.inr px_w298))) (px_allPB (px_allPL (Or.inr px_w299)) (px_allPB (px_allPL (Or.inr px_w300)) (px_allPL (Or.inr px_w301))))) (px_allPB (px_allPB (px_allPL (Or.inr px_w302)) (px_allPB (px_allPL (Or.inr px_w303)) (px_allPL (Or.inr px_w304)))) (px_allPB (px_allPL (Or.inr px_w305)) (px_allPB (px_allPL (Or.inr px_w306)) (px_allPL (Or.inr px_w307))))))) (px_allPB (px_allPB (px_allPB (px_allPB (px_allPL (Or.inr px_w308)) (px_allPL (Or.inr px_w309))) (px_allPB (px_allPL (Or.inr px_w310)) (px_allPB (px_allPL (Or.inr px_w311)) (px_allPL (Or.inr px_w312))))) (px_allPB (px_allPB (px_allPL (Or.inr px_w313)) (px_allPL (Or.inr px_w314))) (px_allPB (px_allPL (Or.inr px_w315)) (px_allPB (px_allPL (Or.inr px_w316)) (px_allPL (Or.inr px_w317)))))) (px_allPB (px_allPB (px_allPB (px_allPL (Or.inr px_w318)) (px_allPL (Or.inr px_w319))) (px_allPB (px_allPL (Or.inr px_w320)) (px_allPB (px_allPL (Or.inr px_w321)) (px_allPL (Or.inr px_w322))))) (px_allPB (px_allPB (px_allPL (Or.inr px_w323)) (px_allPB (px_allPL (Or.inr px_w324)) (px_allPL (Or.inr px_w325)))) (px_allPB (px_allPL (Or.inr px_w326)) (px_allPB (px_allPL (Or.inr px_w327)) (px_allPL (Or.inl rfl)))))))))))
-- nest mates' links
abbrev px_NL : Type := String × Nat × MethodName × String
def px_nest : List px_NL := [("ElevenBullocks$Reader", 65, ⟨"ElevenBullocks", "within", "(III)Z"⟩, "ElevenBullocks"), ("ElevenBullocks$Reader", 143, ⟨"ElevenBullocks", "cut", "(III)I"⟩, "ElevenBullocks"), ("ElevenBullocks$Laws", 65, ⟨"ElevenBullocks", "cut", "(III)I"⟩, "ElevenBullocks"), ("ElevenBullocks$Walk", 120, ⟨"ElevenBullocks", "nextSet", "(I)I"⟩, "ElevenBullocks"), ("ElevenBullocks$Errands", 93, ⟨"ElevenBullocks", "within", "(III)Z"⟩, "ElevenBullocks"), ("ElevenBullocks$Notes", 43, ⟨"ElevenBullocks$Stand", "sum", "([I)I"⟩, "ElevenBullocks")]
def px_nestP : List Nat := [3191, 4016, 4174, 5144, 6013, 6058]
theorem px_nest_in : ∀ q ∈ px_nest, Cond.methodLinkNest q.1 q.2.1 q.2.2.1 q.2.2.2 ∈ lw_tbl := by
  have h : (px_nest.zip px_nestP).all (fun z => decide ((px_chunk (z.2 / 1000))[z.2 % 1000]? = some (Cond.methodLinkNest z.1.1 z.1.2.1 z.1.2.2.1 z.1.2.2.2))) = true := by decide +kernel
  intro q hq
  obtain ⟨i, hi⟩ := List.getElem?_of_mem hq
  have hl : px_nest.length = px_nestP.length := rfl
  have hi' : i < px_nestP.length := by rw [← hl]; exact (List.getElem?_eq_some_iff.mp hi).1
  have hz : (px_nest.zip px_nestP)[i]? = some (q, px_nestP[i]) := by
    rw [List.getElem?_zip_eq_some]
    exact ⟨hi, List.getElem?_eq_getElem hi'⟩
  have h2 := List.all_eq_true.mp h _ (List.mem_of_getElem? hz)
  exact px_chunk_in (List.mem_of_getElem? (of_decide_eq_true h2))
-- calls: key, kind (0 static, 1 virtual, 2 constructor, 3 nest mate's static, 4 Object's constructor, 5 arraycopy, 6 max, 7 min, 8 max of longs, 9 min of longs), method, places
def px_clT0 : Lean.RArray (Nat × Nat × Nat × List Nat) := .branch 1024 (.branch 73 (.branch 53 (.branch 36 (.leaf (3, 4, 0, [2172])) (.branch 42 (.leaf (36, 0, 138, [5165, 5166])) (.leaf (42, 7, 0, [5171])))) (.branch 57 (.leaf (53, 1, 139, [5172, 5174, 47])) (.branch 69 (.leaf (57, 1, 140, [5176, 5178, 48])) (.leaf (69, 1, 135, [5181, 5153, 5154]))))) (.branch 89 (.branch 76 (.leaf (73, 6, 0, [5182])) (.branch 85 (.leaf (76, 5, 0, [5180])) (.leaf (85, 1, 80, [6004, 4129, 4130])))) (.branch 1003 (.branch 93 (.leaf (89, 1, 156, [6005, 6007, 50])) (.leaf (93, 3, 15, [4, 3044]))) (.branch 1017 (.leaf (1003, 4, 0, [2203])) (.leaf (1017, 2, 4, [2205, 1122])))))) (.branch 2076 (.branch 2052 (.branch 1031 (.leaf (1024, 2, 5, [2207, 1185])) (.branch 2003 (.leaf (1031, 2, 6, [2209, 1205])) (.leaf (2003, 4, 0, [1035])))) (.branch 2066 (.leaf (2052, 0, 2, [1036, 1037])) (.branch 2070 (.leaf (2066, 1, 20, [3062, 3064, 0])) (.leaf (2070, 0, 3, [1039, 1040]))))) (.branch 2090 (.branch 2080 (.leaf (2076, 1, 21, [3066, 3068, 1])) (.branch 2084 (.leaf (2080, 1, 22, [3070, 3072, 2])) (.leaf (2084, 7, 0, [3074])))) (.branch 2098 (.branch 2094 (.leaf (2090, 1, 18, [4111, 3055, 3056])) (.leaf (2094, 1, 76, [4112, 4113, 4114]))) (.branch 2101 (.leaf (2098, 1, 77, [4116, 4117, 4118])) (.leaf (2101, 1, 79, [4124, 4125, 4126]))))))
def px_clT1 : Lean.RArray (Nat × Nat × Nat × List Nat) := .branch 3105 (.branch 3039 (.branch 2113 (.branch 2107 (.leaf (2104, 1, 89, [5219, 4183, 4184])) (.branch 2110 (.leaf (2107, 1, 75, [4107, 4109, 28])) (.leaf (2110, 1, 99, [5156, 4225, 4226])))) (.branch 3003 (.leaf (2113, 1, 78, [4120, 4121, 4122])) (.branch 3033 (.leaf (3003, 4, 0, [2083])) (.leaf (3033, 1, 40, [4136, 3197, 3198]))))) (.branch 3061 (.branch 3050 (.leaf (3039, 1, 80, [4137, 4129, 4130])) (.branch 3057 (.leaf (3050, 1, 82, [4138, 4140, 29])) (.leaf (3057, 1, 83, [4143, 4145, 30])))) (.branch 3069 (.branch 3065 (.leaf (3061, 1, 84, [4147, 4149, 31])) (.leaf (3065, 3, 55, [2, 4017]))) (.branch 3092 (.leaf (3069, 1, 78, [4194, 4121, 4122])) (.leaf (3092, 1, 18, [4142, 3055, 3056])))))) (.branch 3138 (.branch 3124 (.branch 3116 (.leaf (3105, 7, 0, [4151])) (.branch 3120 (.leaf (3116, 1, 85, [4152, 4154, 32])) (.leaf (3120, 1, 86, [4156, 4158, 33])))) (.branch 3128 (.leaf (3124, 0, 87, [4160, 4161])) (.branch 3135 (.leaf (3128, 6, 0, [4165])) (.leaf (3135, 9, 0, [4168]))))) (.branch 4037 (.branch 4003 (.leaf (3138, 8, 0, [4171])) (.branch 4029 (.leaf (4003, 4, 0, [2112])) (.leaf (4029, 1, 73, [4099, 4101, 27])))) (.branch 4049 (.branch 4043 (.leaf (4037, 1, 80, [4128, 4129, 4130])) (.leaf (4043, 1, 81, [4132, 4133, 4134]))) (.branch 4052 (.leaf (4049, 1, 88, [4175, 4177, 34])) (.leaf (4052, 1, 95, [4207, 4209, 36]))))))
def px_clT2 : Lean.RArray (Nat × Nat × Nat × List Nat) := .branch 5037 (.branch 4087 (.branch 4078 (.branch 4068 (.leaf (4055, 1, 96, [4211, 4213, 37])) (.branch 4075 (.leaf (4068, 1, 74, [4103, 4104, 4105])) (.leaf (4075, 1, 76, [4179, 4113, 4114])))) (.branch 4081 (.leaf (4078, 1, 77, [4180, 4117, 4118])) (.branch 4084 (.leaf (4081, 1, 78, [4181, 4121, 4122])) (.leaf (4084, 1, 89, [4182, 4183, 4184]))))) (.branch 4103 (.branch 4096 (.leaf (4087, 1, 90, [4186, 4187, 4188])) (.branch 4100 (.leaf (4096, 1, 91, [4190, 4191, 4192])) (.leaf (4100, 1, 92, [4195, 4197, 35])))) (.branch 5003 (.branch 4113 (.leaf (4103, 1, 93, [4199, 4200, 4201])) (.leaf (4113, 1, 69, [4215, 4084, 4085]))) (.branch 5027 (.leaf (5003, 4, 0, [1207])) (.leaf (5027, 0, 3, [1208, 1040])))))) (.branch 6037 (.branch 5053 (.branch 5043 (.leaf (5037, 1, 151, [5224, 5225, 5226])) (.branch 5049 (.leaf (5043, 3, 65, [5, 4065])) (.leaf (5049, 1, 172, [6071, 6073, 53])))) (.branch 6003 (.leaf (5053, 5, 0, [6092])) (.branch 6032 (.leaf (6003, 4, 0, [1237])) (.leaf (6032, 1, 30, [3105, 3106, 3107]))))) (.branch 6058 (.branch 6046 (.leaf (6037, 0, 3, [3110, 1040])) (.branch 6052 (.leaf (6046, 1, 31, [3111, 3113, 3])) (.leaf (6052, 1, 38, [3187, 3189, 8])))) (.branch 6069 (.branch 6065 (.leaf (6058, 1, 39, [3192, 3194, 9])) (.leaf (6065, 3, 15, [0, 3044]))) (.branch 6085 (.leaf (6069, 1, 40, [3196, 3197, 3198])) (.leaf (6085, 1, 41, [3200, 3202, 10]))))))
def px_clT3 : Lean.RArray (Nat × Nat × Nat × List Nat) := .branch 6140 (.branch 6114 (.branch 6104 (.branch 6095 (.leaf (6091, 1, 57, [4029, 4030, 4031])) (.branch 6098 (.leaf (6095, 1, 58, [4033, 4035, 23])) (.leaf (6098, 1, 48, [3228, 3230, 16])))) (.branch 6108 (.leaf (6104, 1, 44, [3212, 3214, 13])) (.branch 6111 (.leaf (6108, 1, 42, [3204, 3206, 11])) (.leaf (6111, 1, 45, [3216, 3217, 3218]))))) (.branch 6123 (.branch 6117 (.leaf (6114, 1, 43, [3208, 3210, 12])) (.branch 6120 (.leaf (6117, 1, 46, [3220, 3222, 14])) (.leaf (6120, 1, 47, [3224, 3226, 15])))) (.branch 6129 (.branch 6126 (.leaf (6123, 1, 49, [3232, 3234, 17])) (.leaf (6126, 1, 54, [4012, 4014, 21]))) (.branch 6137 (.leaf (6129, 1, 56, [4023, 4025, 22])) (.leaf (6137, 1, 50, [3236, 3238, 18])))))) (.branch 6159 (.branch 6150 (.branch 6143 (.leaf (6140, 1, 53, [4008, 4009, 4010])) (.branch 6147 (.leaf (6143, 3, 55, [1, 4017])) (.leaf (6147, 1, 51, [4000, 4002, 19])))) (.branch 6153 (.leaf (6150, 1, 52, [4004, 4006, 20])) (.branch 6156 (.leaf (6153, 0, 32, [3115, 3116])) (.leaf (6156, 1, 33, [3118, 3120, 4]))))) (.branch 6168 (.branch 6162 (.leaf (6159, 0, 34, [3123, 3124])) (.branch 6165 (.leaf (6162, 1, 35, [3126, 3128, 5])) (.leaf (6165, 1, 37, [3183, 3185, 7])))) (.branch 7003 (.branch 6173 (.leaf (6168, 7, 0, [3122])) (.leaf (6173, 1, 36, [3130, 3132, 6]))) (.branch 7037 (.leaf (7003, 4, 0, [2041])) (.leaf (7037, 0, 3, [3109, 1040]))))))
def px_clT4 : Lean.RArray (Nat × Nat × Nat × List Nat) := .branch 10069 (.branch 9003 (.branch 8047 (.branch 8030 (.leaf (8003, 4, 0, [1124])) (.branch 8040 (.leaf (8030, 0, 3, [1125, 1040])) (.leaf (8040, 0, 65, [4064, 4065])))) (.branch 8050 (.leaf (8047, 1, 94, [4203, 4204, 4205])) (.branch 8059 (.leaf (8050, 5, 0, [4080])) (.leaf (8059, 1, 69, [5039, 4084, 4085]))))) (.branch 9037 (.branch 9027 (.leaf (9003, 4, 0, [1187])) (.branch 9033 (.leaf (9027, 7, 0, [4075])) (.leaf (9033, 1, 68, [4076, 4077, 4078])))) (.branch 10005 (.branch 9054 (.leaf (9037, 1, 109, [5035, 5036, 5037])) (.leaf (9054, 5, 0, [6087]))) (.branch 10040 (.leaf (10005, 4, 0, [2128])) (.leaf (10040, 0, 3, [5081, 1040])))))) (.branch 10099 (.branch 10085 (.branch 10075 (.leaf (10069, 1, 78, [5104, 4121, 4122])) (.branch 10079 (.leaf (10075, 1, 89, [5105, 4183, 4184])) (.leaf (10079, 1, 90, [5106, 4187, 4188])))) (.branch 10091 (.leaf (10085, 1, 91, [5107, 4191, 4192])) (.branch 10095 (.leaf (10091, 1, 118, [5077, 5079, 40])) (.leaf (10095, 1, 128, [5124, 5126, 45]))))) (.branch 10108 (.branch 10102 (.leaf (10099, 1, 120, [5085, 5087, 41])) (.branch 10105 (.leaf (10102, 1, 129, [5128, 5130, 46])) (.leaf (10105, 1, 76, [5098, 4113, 4114])))) (.branch 10114 (.branch 10111 (.leaf (10108, 1, 77, [5099, 4117, 4118])) (.leaf (10111, 1, 123, [5100, 5102, 44]))) (.branch 10120 (.leaf (10114, 1, 132, [5140, 5141, 5142])) (.leaf (10120, 3, 133, [3, 5145]))))))
def px_clT5 : Lean.RArray (Nat × Nat × Nat × List Nat) := .branch 11071 (.branch 11018 (.branch 10138 (.branch 10130 (.leaf (10123, 1, 144, [5195, 5197, 49])) (.branch 10133 (.leaf (10130, 0, 119, [5082, 5083])) (.leaf (10133, 1, 121, [5089, 5091, 42])))) (.branch 11001 (.leaf (10138, 1, 122, [5093, 5095, 43])) (.branch 11009 (.leaf (11001, 4, 0, [1027])) (.leaf (11009, 2, 1, [1032, 1033]))))) (.branch 11039 (.branch 11025 (.leaf (11018, 2, 4, [1121, 1122])) (.branch 11032 (.leaf (11025, 2, 5, [1184, 1185])) (.leaf (11032, 2, 6, [1204, 1205])))) (.branch 11053 (.branch 11050 (.leaf (11039, 2, 7, [1234, 1235])) (.leaf (11050, 2, 8, [2038, 2039]))) (.branch 11062 (.leaf (11053, 2, 9, [2080, 2081])) (.leaf (11062, 2, 10, [2109, 2110])))))) (.branch 11109 (.branch 11097 (.branch 11078 (.leaf (11071, 2, 11, [2125, 2126])) (.branch 11085 (.leaf (11078, 2, 12, [2169, 2170])) (.leaf (11085, 2, 13, [2200, 2201])))) (.branch 11101 (.leaf (11097, 0, 15, [3043, 3044])) (.branch 11105 (.leaf (11101, 1, 16, [3046, 3047, 3048])) (.leaf (11105, 1, 18, [3054, 3055, 3056]))))) (.branch 11131 (.branch 11113 (.leaf (11109, 1, 19, [3058, 3059, 3060])) (.branch 11127 (.leaf (11113, 1, 24, [3081, 3082, 3083])) (.leaf (11127, 1, 26, [3089, 3090, 3091])))) (.branch 11144 (.branch 11141 (.leaf (11131, 1, 29, [3101, 3102, 3103])) (.leaf (11141, 1, 61, [4048, 4050, 24]))) (.branch 11148 (.leaf (11144, 1, 64, [4060, 4061, 4062])) (.leaf (11148, 1, 66, [4067, 4068, 4069]))))))
def px_clT6 : Lean.RArray (Nat × Nat × Nat × List Nat) := .branch 11229 (.branch 11180 (.branch 11168 (.branch 11158 (.leaf (11154, 1, 67, [4071, 4072, 4073])) (.branch 11165 (.leaf (11158, 1, 69, [4083, 4084, 4085])) (.leaf (11165, 1, 71, [4091, 4093, 26])))) (.branch 11171 (.leaf (11168, 1, 97, [4216, 4217, 4218])) (.branch 11177 (.leaf (11171, 1, 99, [4224, 4225, 4226])) (.leaf (11177, 1, 89, [4232, 4183, 4184]))))) (.branch 11198 (.branch 11183 (.leaf (11180, 1, 90, [4233, 4187, 4188])) (.branch 11186 (.leaf (11183, 1, 101, [4234, 4235, 4236])) (.leaf (11186, 1, 80, [5002, 4129, 4130])))) (.branch 11223 (.branch 11214 (.leaf (11198, 1, 62, [4052, 4054, 25])) (.leaf (11214, 1, 104, [5007, 5009, 38]))) (.branch 11226 (.leaf (11223, 1, 106, [5022, 5024, 39])) (.leaf (11226, 1, 94, [5026, 4204, 4205])))))) (.branch 11283 (.branch 11262 (.branch 11236 (.leaf (11229, 1, 108, [5031, 5032, 5033])) (.branch 11259 (.leaf (11236, 1, 81, [5044, 4133, 4134])) (.leaf (11259, 1, 113, [5053, 5054, 5055])))) (.branch 11274 (.leaf (11262, 1, 79, [5061, 4125, 4126])) (.branch 11277 (.leaf (11274, 1, 78, [5066, 4121, 4122])) (.leaf (11277, 1, 91, [5067, 4191, 4192]))))) (.branch 11295 (.branch 11287 (.leaf (11283, 1, 117, [5073, 5074, 5075])) (.branch 11291 (.leaf (11287, 1, 124, [5109, 5110, 5111])) (.leaf (11291, 0, 125, [5113, 5114])))) (.branch 11301 (.branch 11298 (.leaf (11295, 1, 127, [5120, 5121, 5122])) (.leaf (11298, 1, 131, [5136, 5137, 5138]))) (.branch 11305 (.leaf (11301, 1, 135, [5152, 5153, 5154])) (.leaf (11305, 1, 137, [5161, 5162, 5163]))))))
def px_clT7 : Lean.RArray (Nat × Nat × Nat × List Nat) := .branch 11355 (.branch 11330 (.branch 11320 (.branch 11311 (.leaf (11308, 1, 141, [5183, 5184, 5185])) (.branch 11317 (.leaf (11311, 1, 143, [5191, 5192, 5193])) (.leaf (11317, 1, 146, [5203, 5204, 5205])))) (.branch 11323 (.leaf (11320, 1, 148, [5211, 5212, 5213])) (.branch 11326 (.leaf (11323, 1, 149, [5215, 5216, 5217])) (.leaf (11326, 1, 150, [5220, 5221, 5222]))))) (.branch 11339 (.branch 11333 (.leaf (11330, 0, 153, [5232, 5233])) (.branch 11336 (.leaf (11333, 1, 155, [6000, 6001, 6002])) (.leaf (11336, 1, 157, [6009, 6010, 6011])))) (.branch 11349 (.branch 11343 (.leaf (11339, 1, 159, [6018, 6020, 51])) (.leaf (11343, 1, 162, [6030, 6032, 52]))) (.branch 11352 (.leaf (11349, 1, 165, [6042, 6043, 6044])) (.leaf (11352, 1, 167, [6050, 6051, 6052])))))) (.branch 11389 (.branch 11378 (.branch 11364 (.leaf (11355, 1, 168, [6054, 6055, 6056])) (.branch 11373 (.leaf (11364, 1, 171, [6067, 6068, 6069])) (.leaf (11373, 1, 174, [6079, 6080, 6081])))) (.branch 11382 (.leaf (11378, 1, 175, [6083, 6084, 6085])) (.branch 11385 (.leaf (11382, 1, 176, [6088, 6089, 6090])) (.leaf (11385, 1, 178, [6097, 6098, 6099]))))) (.branch 11406 (.branch 11394 (.leaf (11389, 7, 0, [4019])) (.branch 11403 (.leaf (11394, 6, 0, [4020])) (.leaf (11403, 1, 72, [4095, 4096, 4097])))) (.branch 11412 (.branch 11409 (.leaf (11406, 1, 14, [5011, 3040, 3041])) (.leaf (11409, 1, 17, [5012, 3051, 3052]))) (.branch 11415 (.leaf (11412, 1, 23, [5013, 3078, 3079])) (.leaf (11415, 1, 63, [5014, 4057, 4058]))))))
def px_clT8 : Lean.RArray (Nat × Nat × Nat × List Nat) := .branch 12121 (.branch 12095 (.branch 11429 (.branch 11422 (.leaf (11418, 1, 98, [5015, 4221, 4222])) (.branch 11426 (.leaf (11422, 1, 100, [5016, 4229, 4230])) (.leaf (11426, 1, 102, [5017, 4239, 5000])))) (.branch 12001 (.leaf (11429, 1, 160, [6022, 6023, 6024])) (.branch 12091 (.leaf (12001, 4, 0, [6110])) (.leaf (12091, 0, 181, [6111, 6112]))))) (.branch 12107 (.branch 12099 (.leaf (12095, 0, 183, [7011, 7012])) (.branch 12103 (.leaf (12099, 1, 242, [7237, 7239, 92])) (.leaf (12103, 1, 187, [7026, 7028, 56])))) (.branch 12114 (.branch 12111 (.leaf (12107, 1, 185, [7018, 7020, 54])) (.leaf (12111, 1, 186, [7022, 7024, 55]))) (.branch 12117 (.leaf (12114, 0, 188, [7030, 7031])) (.leaf (12117, 1, 191, [7041, 7043, 58])))))) (.branch 12163 (.branch 12144 (.branch 12128 (.leaf (12121, 1, 190, [7037, 7039, 57])) (.branch 12135 (.leaf (12128, 1, 193, [7049, 7051, 59])) (.leaf (12135, 1, 198, [7069, 7071, 62])))) (.branch 12151 (.leaf (12144, 0, 199, [7073, 7074])) (.branch 12160 (.leaf (12151, 0, 200, [7077, 7078])) (.leaf (12160, 0, 201, [7081, 7082]))))) (.branch 12175 (.branch 12167 (.leaf (12163, 0, 206, [7098, 7099])) (.branch 12171 (.leaf (12167, 0, 205, [7095, 7096])) (.leaf (12171, 0, 204, [7092, 7093])))) (.branch 12195 (.branch 12185 (.leaf (12175, 0, 208, [7105, 7106])) (.leaf (12185, 0, 209, [7108, 7109]))) (.branch 12198 (.leaf (12195, 0, 222, [7158, 7159])) (.leaf (12198, 1, 225, [7169, 7171, 79]))))))
def px_clT9 : Lean.RArray (Nat × Nat × Nat × List Nat) := .branch 12257 (.branch 12232 (.branch 12215 (.branch 12209 (.leaf (12205, 1, 220, [7150, 7152, 75])) (.branch 12212 (.leaf (12209, 1, 219, [7146, 7148, 74])) (.leaf (12212, 1, 197, [7065, 7067, 61])))) (.branch 12221 (.leaf (12215, 1, 232, [7197, 7199, 86])) (.branch 12229 (.leaf (12221, 1, 207, [7101, 7103, 65])) (.leaf (12229, 1, 224, [7165, 7167, 78]))))) (.branch 12241 (.branch 12235 (.leaf (12232, 1, 230, [7189, 7191, 84])) (.branch 12238 (.leaf (12235, 1, 231, [7193, 7195, 85])) (.leaf (12238, 1, 233, [7201, 7203, 87])))) (.branch 12248 (.branch 12244 (.leaf (12241, 1, 234, [7205, 7207, 88])) (.leaf (12244, 1, 235, [7209, 7211, 89]))) (.branch 12251 (.leaf (12248, 1, 221, [7154, 7156, 76])) (.leaf (12251, 1, 223, [7161, 7163, 77])))))) (.branch 12275 (.branch 12266 (.branch 12260 (.leaf (12257, 1, 218, [7142, 7144, 73])) (.branch 12263 (.leaf (12260, 1, 226, [7173, 7175, 80])) (.leaf (12263, 1, 227, [7177, 7179, 81])))) (.branch 12269 (.leaf (12266, 1, 228, [7181, 7183, 82])) (.branch 12272 (.leaf (12269, 1, 217, [7138, 7140, 72])) (.leaf (12272, 1, 229, [7185, 7187, 83]))))) (.branch 12286 (.branch 12279 (.leaf (12275, 1, 213, [7122, 7124, 68])) (.branch 12282 (.leaf (12279, 1, 216, [7134, 7136, 71])) (.leaf (12282, 1, 214, [7126, 7128, 69])))) (.branch 12293 (.branch 12290 (.leaf (12286, 1, 212, [7118, 7120, 67])) (.leaf (12290, 1, 215, [7130, 7132, 70]))) (.branch 12299 (.leaf (12293, 1, 203, [7088, 7090, 64])) (.leaf (12299, 0, 210, [7111, 7112]))))))
def px_clT10 : Lean.RArray (Nat × Nat × Nat × List Nat) := .branch 12355 (.branch 12328 (.branch 12316 (.branch 12306 (.leaf (12303, 1, 211, [7114, 7116, 66])) (.branch 12309 (.leaf (12306, 1, 202, [7084, 7086, 63])) (.leaf (12309, 1, 196, [7061, 7063, 60])))) (.branch 12320 (.leaf (12316, 0, 270, [8108, 8109])) (.branch 12324 (.leaf (12320, 0, 269, [8105, 8106])) (.leaf (12324, 0, 271, [8113, 8114]))))) (.branch 12343 (.branch 12334 (.leaf (12328, 1, 268, [8101, 8103, 114])) (.branch 12340 (.leaf (12334, 1, 239, [7225, 7227, 90])) (.leaf (12340, 1, 265, [8089, 8091, 111])))) (.branch 12349 (.branch 12346 (.leaf (12343, 1, 266, [8093, 8095, 112])) (.leaf (12346, 1, 255, [8049, 8051, 102]))) (.branch 12352 (.leaf (12349, 1, 264, [8085, 8087, 110])) (.leaf (12352, 1, 256, [8053, 8055, 103])))))) (.branch 12376 (.branch 12367 (.branch 12358 (.leaf (12355, 1, 267, [8097, 8099, 113])) (.branch 12361 (.leaf (12358, 1, 252, [8037, 8039, 100])) (.leaf (12361, 1, 245, [8009, 8011, 95])))) (.branch 12370 (.leaf (12367, 1, 274, [8124, 8126, 117])) (.branch 12373 (.leaf (12370, 1, 246, [8013, 8015, 96])) (.leaf (12373, 1, 241, [7233, 7235, 91]))))) (.branch 12386 (.branch 12379 (.leaf (12376, 1, 243, [8001, 8003, 93])) (.branch 12382 (.leaf (12379, 1, 244, [8005, 8007, 94])) (.leaf (12382, 1, 247, [8017, 8019, 97])))) (.branch 12392 (.branch 12389 (.leaf (12386, 1, 249, [8025, 8027, 98])) (.leaf (12389, 1, 251, [8033, 8035, 99]))) (.branch 12395 (.leaf (12392, 1, 254, [8045, 8047, 101])) (.leaf (12395, 1, 276, [8132, 8134, 119]))))))
def px_clT11 : Lean.RArray (Nat × Nat × Nat × List Nat) := .branch 12438 (.branch 12417 (.branch 12408 (.branch 12401 (.leaf (12398, 1, 273, [8120, 8122, 116])) (.branch 12404 (.leaf (12401, 1, 275, [8128, 8130, 118])) (.leaf (12404, 1, 261, [8073, 8075, 107])))) (.branch 12411 (.leaf (12408, 1, 262, [8077, 8079, 108])) (.branch 12414 (.leaf (12411, 1, 263, [8081, 8083, 109])) (.leaf (12414, 1, 272, [8116, 8118, 115]))))) (.branch 12426 (.branch 12420 (.leaf (12417, 1, 277, [8136, 8138, 120])) (.branch 12423 (.leaf (12420, 1, 278, [8140, 8142, 121])) (.leaf (12423, 1, 260, [8069, 8071, 106])))) (.branch 12432 (.branch 12429 (.leaf (12426, 1, 259, [8065, 8067, 105])) (.leaf (12429, 1, 258, [8061, 8063, 104]))) (.branch 12435 (.leaf (12432, 1, 279, [8144, 8146, 122])) (.leaf (12435, 1, 182, [8156, 7008, 7009])))))) (.branch 12458 (.branch 12448 (.branch 12442 (.leaf (12438, 1, 184, [8157, 7015, 7016])) (.branch 12445 (.leaf (12442, 1, 240, [8158, 7230, 7231])) (.leaf (12445, 1, 248, [8159, 8022, 8023])))) (.branch 12452 (.leaf (12448, 1, 250, [8160, 8030, 8031])) (.branch 12455 (.leaf (12452, 1, 253, [8161, 8042, 8043])) (.leaf (12455, 1, 281, [8152, 8154, 123]))))) (.branch 12474 (.branch 12465 (.leaf (12458, 1, 283, [8166, 8168, 124])) (.branch 12471 (.leaf (12465, 0, 292, [8204, 8205])) (.leaf (12471, 1, 290, [8195, 8197, 125])))) (.branch 12481 (.branch 12478 (.leaf (12474, 0, 291, [8201, 8202])) (.leaf (12478, 1, 294, [8211, 8213, 126]))) (.branch 12484 (.leaf (12481, 1, 296, [8219, 8221, 127])) (.leaf (12484, 1, 299, [8231, 8233, 128]))))))
def px_clT12 : Lean.RArray (Nat × Nat × Nat × List Nat) := .branch 15009 (.branch 12507 (.branch 12497 (.branch 12490 (.leaf (12487, 1, 303, [9006, 9008, 130])) (.branch 12493 (.leaf (12490, 1, 304, [9010, 9012, 131])) (.leaf (12493, 0, 301, [8239, 9000])))) (.branch 12500 (.leaf (12497, 1, 302, [9002, 9004, 129])) (.branch 12503 (.leaf (12500, 1, 307, [9022, 9024, 132])) (.leaf (12503, 0, 310, [9033, 9034]))))) (.branch 12518 (.branch 12510 (.leaf (12507, 0, 309, [9030, 9031])) (.branch 12513 (.leaf (12510, 1, 312, [9040, 9042, 133])) (.leaf (12513, 1, 313, [9044, 9046, 134])))) (.branch 12524 (.branch 12521 (.leaf (12518, 1, 315, [9052, 9054, 135])) (.leaf (12521, 1, 317, [9061, 9063, 136]))) (.branch 12527 (.leaf (12524, 1, 320, [9073, 9075, 137])) (.leaf (12527, 1, 323, [9085, 9087, 138])))))) (.branch 15023 (.branch 15017 (.branch 15012 (.leaf (15009, 2, 0, [1024, 1025])) (.branch 15013 (.leaf (15012, 2, 180, [6107, 6108])) (.leaf (15013, 1, 14, [3039, 3040, 3041])))) (.branch 15018 (.leaf (15017, 1, 182, [7007, 7008, 7009])) (.branch 15022 (.leaf (15018, 1, 17, [3050, 3051, 3052])) (.leaf (15022, 1, 184, [7014, 7015, 7016]))))) (.branch 15032 (.branch 15027 (.leaf (15023, 1, 23, [3077, 3078, 3079])) (.branch 15028 (.leaf (15027, 1, 189, [7033, 7034, 7035])) (.leaf (15028, 1, 25, [3085, 3086, 3087])))) (.branch 15037 (.branch 15033 (.leaf (15032, 1, 192, [7045, 7046, 7047])) (.leaf (15033, 1, 27, [3093, 3094, 3095]))) (.branch 15038 (.leaf (15037, 1, 194, [7053, 7054, 7055])) (.leaf (15038, 1, 28, [3097, 3098, 3099]))))))
def px_clT13 : Lean.RArray (Nat × Nat × Nat × List Nat) := .branch 15070 (.branch 15055 (.branch 15047 (.branch 15043 (.leaf (15042, 1, 195, [7057, 7058, 7059])) (.branch 15046 (.leaf (15043, 1, 59, [4040, 4041, 4042])) (.leaf (15046, 1, 236, [7213, 7214, 7215])))) (.branch 15051 (.leaf (15047, 1, 60, [4044, 4045, 4046])) (.branch 15052 (.leaf (15051, 1, 237, [7217, 7218, 7219])) (.leaf (15052, 1, 63, [4056, 4057, 4058]))))) (.branch 15060 (.branch 15056 (.leaf (15055, 1, 240, [7229, 7230, 7231])) (.branch 15059 (.leaf (15056, 1, 70, [4087, 4088, 4089])) (.leaf (15059, 1, 257, [8057, 8058, 8059])))) (.branch 15065 (.branch 15064 (.leaf (15060, 1, 98, [4220, 4221, 4222])) (.leaf (15064, 1, 248, [8021, 8022, 8023]))) (.branch 15069 (.leaf (15065, 1, 100, [4228, 4229, 4230])) (.leaf (15069, 1, 250, [8029, 8030, 8031])))))) (.branch 15082 (.branch 15077 (.branch 15073 (.leaf (15070, 1, 102, [4238, 4239, 5000])) (.branch 15074 (.leaf (15073, 1, 253, [8041, 8042, 8043])) (.leaf (15074, 1, 103, [5003, 5004, 5005])))) (.branch 15078 (.leaf (15077, 1, 280, [8148, 8149, 8150])) (.branch 15081 (.leaf (15078, 1, 105, [5018, 5019, 5020])) (.leaf (15081, 1, 282, [8162, 8163, 8164]))))) (.branch 15089 (.branch 15085 (.leaf (15082, 1, 107, [5027, 5028, 5029])) (.branch 15086 (.leaf (15085, 1, 238, [7221, 7222, 7223])) (.leaf (15086, 1, 110, [5040, 5041, 5042])))) (.branch 15093 (.branch 15090 (.leaf (15089, 1, 284, [8170, 8171, 8172])) (.leaf (15090, 1, 111, [5045, 5046, 5047]))) (.branch 15094 (.leaf (15093, 1, 285, [8174, 8175, 8176])) (.leaf (15094, 1, 112, [5049, 5050, 5051]))))))
def px_clT14 : Lean.RArray (Nat × Nat × Nat × List Nat) := .branch 15123 (.branch 15110 (.branch 15102 (.branch 15098 (.leaf (15097, 1, 286, [8178, 8179, 8180])) (.branch 15101 (.leaf (15098, 1, 114, [5057, 5058, 5059])) (.leaf (15101, 1, 287, [8182, 8183, 8184])))) (.branch 15105 (.leaf (15102, 1, 115, [5062, 5063, 5064])) (.branch 15106 (.leaf (15105, 1, 288, [8186, 8187, 8188])) (.leaf (15106, 1, 116, [5068, 5069, 5070]))))) (.branch 15115 (.branch 15111 (.leaf (15110, 1, 289, [8190, 8191, 8192])) (.branch 15114 (.leaf (15111, 1, 126, [5116, 5117, 5118])) (.leaf (15114, 1, 293, [8207, 8208, 8209])))) (.branch 15119 (.branch 15118 (.leaf (15115, 1, 130, [5132, 5133, 5134])) (.leaf (15118, 1, 295, [8215, 8216, 8217]))) (.branch 15122 (.leaf (15119, 1, 134, [5148, 5149, 5150])) (.leaf (15122, 1, 298, [8227, 8228, 8229])))))) (.branch 15136 (.branch 15131 (.branch 15127 (.leaf (15123, 1, 136, [5157, 5158, 5159])) (.branch 15128 (.leaf (15127, 1, 300, [8235, 8236, 8237])) (.leaf (15128, 1, 142, [5187, 5188, 5189])))) (.branch 15132 (.leaf (15131, 1, 297, [8223, 8224, 8225])) (.branch 15135 (.leaf (15132, 1, 145, [5199, 5200, 5201])) (.leaf (15135, 1, 305, [9014, 9015, 9016]))))) (.branch 15143 (.branch 15139 (.leaf (15136, 1, 147, [5207, 5208, 5209])) (.branch 15140 (.leaf (15139, 1, 306, [9018, 9019, 9020])) (.leaf (15140, 1, 152, [5228, 5229, 5230])))) (.branch 15147 (.branch 15144 (.leaf (15143, 1, 308, [9026, 9027, 9028])) (.leaf (15144, 1, 154, [5236, 5237, 5238]))) (.branch 15148 (.leaf (15147, 1, 311, [9036, 9037, 9038])) (.leaf (15148, 1, 158, [6014, 6015, 6016]))))))
def px_clT15 : Lean.RArray (Nat × Nat × Nat × List Nat) := .branch 15170 (.branch 15160 (.branch 15155 (.branch 15152 (.leaf (15151, 1, 314, [9048, 9049, 9050])) (.leaf (15152, 1, 161, [6026, 6027, 6028]))) (.branch 15156 (.leaf (15155, 1, 316, [9057, 9058, 9059])) (.leaf (15156, 1, 163, [6034, 6035, 6036])))) (.branch 15164 (.branch 15161 (.leaf (15160, 1, 318, [9065, 9066, 9067])) (.leaf (15161, 1, 164, [6038, 6039, 6040]))) (.branch 15165 (.leaf (15164, 1, 319, [9069, 9070, 9071])) (.branch 15169 (.leaf (15165, 1, 166, [6046, 6047, 6048])) (.leaf (15169, 1, 321, [9077, 9078, 9079])))))) (.branch 15181 (.branch 15174 (.branch 15173 (.leaf (15170, 1, 169, [6059, 6060, 6061])) (.leaf (15173, 1, 322, [9081, 9082, 9083]))) (.branch 15177 (.leaf (15174, 1, 170, [6063, 6064, 6065])) (.branch 15178 (.leaf (15177, 1, 324, [9089, 9090, 9091])) (.leaf (15178, 1, 173, [6075, 6076, 6077]))))) (.branch 15185 (.branch 15182 (.leaf (15181, 1, 325, [9093, 9094, 9095])) (.leaf (15182, 1, 177, [6093, 6094, 6095]))) (.branch 15186 (.leaf (15185, 1, 326, [9097, 9098, 9099])) (.branch 15189 (.leaf (15186, 1, 179, [6101, 6102, 6103])) (.leaf (15189, 1, 327, [9101, 9102, 9103]))))))
def px_clT : Lean.RArray (Nat × Nat × Nat × List Nat) := (.branch 11418 (.branch 8003 (.branch 4055 (.branch 2104 px_clT0 px_clT1) (.branch 6091 px_clT2 px_clT3)) (.branch 11154 (.branch 10123 px_clT4 px_clT5) (.branch 11308 px_clT6 px_clT7))) (.branch 12487 (.branch 12303 (.branch 12205 px_clT8 px_clT9) (.branch 12398 px_clT10 px_clT11)) (.branch 15097 (.branch 15042 px_clT12 px_clT13) (.branch 15151 px_clT14 px_clT15))))
def px_spec (kd : Nat) : MethodName := match kd with
  | 4 => objectInit
  | 5 => arraycopyName
  | 6 => Lib.Math.max.name
  | 7 => Lib.Math.min.name
  | 8 => Lib.MathLoose.max_long.x
  | _ => Lib.MathLoose.min_long.x
def px_clOk (q : Nat × Nat × Nat × List Nat) : Bool := match q.2.1, q.2.2.2 with
  | 0, [a, b] => px_okw a (.methodLink (px_on (q.1 / 1000)) (q.1 % 1000) (px_mT.get q.2.2.1).2.1) && px_okw b (.static (px_mT.get q.2.2.1).2.1) && decide (q.2.2.1 < px_law) && decide ((px_mT.get q.2.2.1).1 = q.2.2.1)
  | 1, [a, b, c] => px_okw a (.methodLink (px_on (q.1 / 1000)) (q.1 % 1000) (px_mT.get q.2.2.1).2.1) && px_okw b (.instanceMethod (px_mT.get q.2.2.1).2.1) && px_okw c (.selects (px_mT.get q.2.2.1).2.1.cls (px_mT.get q.2.2.1).2.1 (px_mT.get q.2.2.1).2.1) && decide (q.2.2.1 < px_law) && decide ((px_mT.get q.2.2.1).1 = q.2.2.1)
  | 2, [a, b] => px_okw a (.methodLink (px_on (q.1 / 1000)) (q.1 % 1000) (px_mT.get q.2.2.1).2.1) && px_okw b (.instanceMethod (px_mT.get q.2.2.1).2.1) && decide (q.2.2.1 < px_law) && decide ((px_mT.get q.2.2.1).1 = q.2.2.1) && decide ((px_mT.get q.2.2.1).2.1.name = "<init>") && decide ((px_mT.get q.2.2.1).2.2.2.2.2.1 = none)
  | 3, [a, b] => decide (px_nest[a]? = some (px_on (q.1 / 1000), q.1 % 1000, (px_mT.get q.2.2.1).2.1, "ElevenBullocks")) && px_okw b (.static (px_mT.get q.2.2.1).2.1) && decide (q.2.2.1 < px_law) && decide ((px_mT.get q.2.2.1).1 = q.2.2.1)
  | kd, [a] => decide (4 ≤ kd ∧ kd ≤ 9) && px_okw a (.methodLink (px_on (q.1 / 1000)) (q.1 % 1000) (px_spec kd))
  | _, _ => false
set_option maxRecDepth 100000 in
theorem px_clT0_ok : px_all px_clOk px_clT0 = true := by decide +kernel
set_option maxRecDepth 100000 in
theorem px_clT1_ok : px_all px_clOk px_clT1 = true := by decide +kernel
set_option maxRecDepth 100000 in
theorem px_clT2_ok : px_all px_clOk px_clT2 = true := by decide +kernel
set_option maxRecDepth 100000 in
theorem px_clT3_ok : px_all px_clOk px_clT3 = true := by decide +kernel
set_option maxRecDepth 100000 in
theorem px_clT4_ok : px_all px_clOk px_clT4 = true := by decide +kernel
set_option maxRecDepth 100000 in
theorem px_clT5_ok : px_all px_clOk px_clT5 = true := by decide +kernel
set_option maxRecDepth 100000 in
theorem px_clT6_ok : px_all px_clOk px_clT6 = true := by decide +kernel
set_option maxRecDepth 100000 in
theorem px_clT7_ok : px_all px_clOk px_clT7 = true := by decide +kernel
set_option maxRecDepth 100000 in
theorem px_clT8_ok : px_all px_clOk px_clT8 = true := by decide +kernel
set_option maxRecDepth 100000 in
theorem px_clT9_ok : px_all px_clOk px_clT9 = true := by decide +kernel
set_option maxRecDepth 100000 in
theorem px_clT10_ok : px_all px_clOk px_clT10 = true := by decide +kernel
set_option maxRecDepth 100000 in
theorem px_clT11_ok : px_all px_clOk px_clT11 = true := by decide +kernel
set_option maxRecDepth 100000 in
theorem px_clT12_ok : px_all px_clOk px_clT12 = true := by decide +kernel
set_option maxRecDepth 100000 in
theorem px_clT13_ok : px_all px_clOk px_clT13 = true := by decide +kernel
set_option maxRecDepth 100000 in
theorem px_clT14_ok : px_all px_clOk px_clT14 = true := by decide +kernel
set_option maxRecDepth 100000 in
theorem px_clT15_ok : px_all px_clOk px_clT15 = true := by decide +kernel
theorem px_clT_ok : px_all px_clOk px_clT = true := (px_allB (px_allB (px_allB (px_allB px_clT0_ok px_clT1_ok) (px_allB px_clT2_ok px_clT3_ok)) (px_allB (px_allB px_clT4_ok px_clT5_ok) (px_allB px_clT6_ok px_clT7_ok))) (px_allB (px_allB (px_allB px_clT8_ok px_clT9_ok) (px_allB px_clT10_ok px_clT11_ok)) (px_allB (px_allB px_clT12_ok px_clT13_ok) (px_allB px_clT14_ok px_clT15_ok))))
theorem px_gl_obj : Cond.instanceMethod objectInit ∈ px_ws := px_mem (pl := 1028) (by decide +kernel)
theorem px_gl_objc : Cond.code objectInit ⟨#[0xb1]⟩ 1 none ∈ px_ws := px_mem (pl := 1029) (by decide +kernel)
theorem px_gl_acn : Cond.native arraycopyName ∈ px_ws := px_mem (pl := 4082) (by decide +kernel)
theorem px_gl_acs : Cond.static arraycopyName ∈ px_ws := px_mem (pl := 4081) (by decide +kernel)
theorem px_gl_sys : Cond.initialized "java/lang/System" ∈ px_ws := px_mem (pl := 1020) (by decide +kernel)
theorem px_gl_math : Cond.initialized "java/lang/Math" ∈ px_ws := px_mem (pl := 1015) (by decide +kernel)
theorem px_gl_acn2 : Cond.native arraycopyName ∈ px_ws := px_mem (pl := 4082) (by decide +kernel)
theorem px_gl_max_s : Cond.static Lib.Math.max.name ∈ px_ws := px_mem (pl := 4021) (by decide +kernel)
theorem px_gl_max_c : Cond.code Lib.Math.max.name Lib.Math.max.code 2 (some .int) ∈ px_ws := px_mem (pl := 4022) (by decide +kernel)
theorem px_gl_min_s : Cond.static Lib.Math.min.name ∈ px_ws := px_mem (pl := 3075) (by decide +kernel)
theorem px_gl_min_c : Cond.code Lib.Math.min.name Lib.Math.min.code 2 (some .int) ∈ px_ws := px_mem (pl := 3076) (by decide +kernel)
theorem px_gl_maxl_s : Cond.static Lib.MathLoose.max_long.x ∈ px_ws := px_mem (pl := 4172) (by decide +kernel)
theorem px_gl_maxl_c : Cond.code Lib.MathLoose.max_long.x Lib.MathLoose.max_long.code 4 (some .long) ∈ px_ws := px_mem (pl := 4173) (by decide +kernel)
theorem px_gl_minl_s : Cond.static Lib.MathLoose.min_long.x ∈ px_ws := px_mem (pl := 4169) (by decide +kernel)
theorem px_gl_minl_c : Cond.code Lib.MathLoose.min_long.x Lib.MathLoose.min_long.code 4 (some .long) ∈ px_ws := px_mem (pl := 4170) (by decide +kernel)
theorem px_gl_ai : Cond.arrayClass .int ∈ px_ws := px_mem (pl := 1117) (by decide +kernel)
theorem px_gl_al : Cond.arrayClass .long ∈ px_ws := px_mem (pl := 2166) (by decide +kernel)
theorem px_gl_az : Cond.arrayClass .boolean ∈ px_ws := px_mem (pl := 1118) (by decide +kernel)
theorem px_gl_ao : Cond.arrayOver (.object "ElevenBullocks$Script") ∈ lw_tbl := px_chunk_in (c := 2) (List.mem_of_getElem? (i := 36) (by decide +kernel))
/-! the JDK's own String.length and String.charAt over the one literal -/
section PST
def ps_byt : List Int32 := [112, 97, 99, 101, 32, 116, 97, 107, 101, 115, 32, 112, 97, 121, 115, 32, 115, 116, 114, 101, 116, 99, 104, 32, 119, 97, 121, 32, 112, 97, 116, 104, 32, 111, 110, 101, 32, 115, 116, 114, 97, 121, 32, 115, 101, 110, 100, 32, 115, 104, 117, 116, 32, 111, 112, 101, 110, 32, 115, 112, 108, 105, 116, 32, 109, 105, 110, 117, 116, 101, 32, 104, 97, 114, 109, 32, 116, 111, 32, 97, 116, 32, 98, 121, 32, 105, 102, 32, 116, 104, 101, 110, 32, 101, 108, 115, 101, 32, 101, 110, 100, 32, 108, 101, 116, 32, 98, 101, 32, 105, 110, 32, 110, 111, 116, 32, 97, 110, 100, 32, 111, 114, 32, 115, 105, 122, 101, 32, 112, 108, 97, 99, 101, 32, 107, 105, 110, 100, 32, 104, 101, 114, 101, 32, 98, 101, 104, 105, 110, 100, 32, 97, 104, 101, 97, 100, 32, 115, 116, 111, 111, 100, 32, 98, 117, 99, 107, 101, 116, 32, 98, 97, 99, 107, 32, 100, 111, 110, 101, 32]
def ps_Lit (A : Nat → Prop) (q v : Nat) (U : State) : Prop := vk_S 1 [180] [ps_byt] (fun _ => q) (fun _ => v) A U U.heap ∧ va_Z "java/lang/String" "COMPACT_STRINGS" "Z" (.int 1) A U U.heap ∧ va_Zq "jdk/internal/util/Preconditions" "SIOOBE_FORMATTER" "Ljava/util/function/BiFunction;" A U U.heap
def ps_P (as : List Value) (A : Nat → Prop) (q v : Nat) : Array Value → State → Prop := fun w U => w = as.toArray ∧ ps_Lit A q v U
def ps_Q (r : Option Value) (A : Nat → Prop) : Array Value → State → Outcome → State → Prop := fun _ st o t => o = .returned r ∧ va_F A st t
def ps_rm (d : Nat) : Room := { frames := d, cells := 0, slots := 0, locals := 64 * d }
theorem ps_go {A : Nat → Prop} {q v : Nat} {s U : State} {H : Heap} {locs : List Loc} (hL : ps_Lit A q v s) (hS : va_S A s.heap H locs) (hU : U.heap = H) (hW : s.WarmedH U.vm) : ps_Lit A q v U := by
  unfold ps_Lit
  rw [hU]
  exact ⟨(hL.1.kept hS.2.1).moved hW.alike, (hL.2.1.kept hS.2.1).moved hW.alike, (hL.2.2.kept hS.2.1).moved hW.alike⟩
theorem ps_blind {as : List Value} {A : Nat → Prop} {q v : Nat} : FrameBlind (ps_P as A q v) := by
  intro a U g mk z
  obtain ⟨z0, z1, z2, z3⟩ := z
  exact ⟨z0, vk_S.moved (u := U) (U := U.calling g mk a) (Vm.Alike.refl U.vm) z1, va_Z.moved (u := U) (U := U.calling g mk a) (Vm.Alike.refl U.vm) z2, va_Zq.moved (u := U) (U := U.calling g mk a) (Vm.Alike.refl U.vm) z3⟩
theorem ps_run {p : Program} {l : Launch} {e : Env} {R : Room} {s : State} {m : MethodId} {args : Array Value} {below : List Frame} {meth : Method} {c : Code} {Q : State → Prop} {A : Nat → Prop} {H : Heap} {locs : List Loc} {cells slots pc : Nat} {ls : Array Slot} {st0 rest : List Value} {r : Option Value} {a : Array Value}
    (hr : va_Run p l e R s m args below meth c H locs cells slots 0 0 (F0 m pc ls st0) rest (ps_Q r A a) A) (hS : va_S A s.heap H locs)
    (kk : ∀ (H1 : Heap) (locs1 : List Loc), va_S A s.heap H1 locs1 → H.size ≤ H1.size → (∀ q : Nat, q < H.size → ¬ A q → H1[q]? = H[q]?) → W p l e R s m args below meth c H1 locs1 cells slots Q (F0 m (pc + 3) ls (r.toList ++ rest))) : W p l e R s m args below meth c H locs cells slots Q (F0 m pc ls st0) := by
  intro T hT X
  obtain ⟨v', st₀, t, T', L, h0, X', hL, e1, e2, ⟨hv, hz, hk⟩, st⟩ := hr T hT X
  cases hv
  rw [h0] at hz hk
  obtain ⟨t2, a1, b1⟩ := kk T'.heap (locs ++ L) ⟨Nat.le_trans hS.1 (by rw [e1]; exact hz), fun q h1 h2 => by rw [e1, hk q (Nat.lt_of_lt_of_le h1 hS.1) h2]; exact hS.2.1 q h1 h2, fun q hq => by
      rcases List.mem_append.mp hq with h | h
      · exact hS.2.2 q h
      · exact hL q h⟩ (by rw [e1]; exact hz) (fun q h1 h2 => by rw [e1]; exact hk q h1 h2) T' rfl X'
  exact ⟨t2, st t2 a1, b1⟩
theorem ps_w_c_coder : Cond.code yJ0_coder_7d493 cJ0_coder_7d493 1 (some .byte) ∈ px_ws := px_mem (pl := 3142) (by decide +kernel)
theorem ps_w_c_length : Cond.code yJ0_length_8abf5 cJ0_length_8abf5 1 (some .int) ∈ px_ws := px_mem (pl := 3138) (by decide +kernel)
theorem ps_w_c_isLatin1 : Cond.code yJ0_isLatin1_aae02 cJ0_isLatin1_aae02 1 (some .boolean) ∈ px_ws := px_mem (pl := 3152) (by decide +kernel)
theorem ps_w_c_charAt : Cond.code yJ0_charAt_5068e cJ0_charAt_5068e 2 (some .char) ∈ px_ws := px_mem (pl := 3148) (by decide +kernel)
theorem ps_w_c_chk : Cond.code yJ0_checkIndex_df160 cJ0_checkIndex_df160 2 none ∈ px_ws := px_mem (pl := 3158) (by decide +kernel)
theorem ps_w_c_lat : Cond.code yJ1_charAt_3b067 cJ1_charAt_3b067 2 (some .char) ∈ px_ws := px_mem (pl := 3155) (by decide +kernel)
theorem ps_w_c_pre : Cond.code yJ3_checkIndex_8e157 cJ3_checkIndex_8e157 3 (some .int) ∈ px_ws := px_mem (pl := 3163) (by decide +kernel)
theorem ps_w_iS : Cond.initialized "java/lang/String" ∈ px_ws := px_mem (pl := 1016) (by decide +kernel)
theorem ps_w_iL : Cond.initialized "java/lang/StringLatin1" ∈ px_ws := px_mem (pl := 1017) (by decide +kernel)
theorem ps_w_iP : Cond.initialized "jdk/internal/util/Preconditions" ∈ px_ws := px_mem (pl := 1018) (by decide +kernel)
theorem ps_w_in_coder : Cond.instanceMethod yJ0_coder_7d493 ∈ px_ws := px_mem (pl := 3140) (by decide +kernel)
theorem ps_w_se_coder : Cond.selects "java/lang/String" yJ0_coder_7d493 yJ0_coder_7d493 ∈ px_ws := px_mem (pl := 3141) (by decide +kernel)
theorem ps_w_in_isLatin1 : Cond.instanceMethod yJ0_isLatin1_aae02 ∈ px_ws := px_mem (pl := 3150) (by decide +kernel)
theorem ps_w_se_isLatin1 : Cond.selects "java/lang/String" yJ0_isLatin1_aae02 yJ0_isLatin1_aae02 ∈ px_ws := px_mem (pl := 3151) (by decide +kernel)
theorem ps_w_in_length : Cond.instanceMethod yJ0_length_8abf5 ∈ px_ws := px_mem (pl := 3136) (by decide +kernel)
theorem ps_w_se_length : Cond.selects "java/lang/String" yJ0_length_8abf5 yJ0_length_8abf5 ∈ px_ws := px_mem (pl := 3137) (by decide +kernel)
theorem ps_w_in_charAt : Cond.instanceMethod yJ0_charAt_5068e ∈ px_ws := px_mem (pl := 3146) (by decide +kernel)
theorem ps_w_se_charAt : Cond.selects "java/lang/String" yJ0_charAt_5068e yJ0_charAt_5068e ∈ px_ws := px_mem (pl := 3147) (by decide +kernel)
theorem ps_w_st_lat : Cond.static yJ1_charAt_3b067 ∈ px_ws := px_mem (pl := 3154) (by decide +kernel)
theorem ps_w_st_chk : Cond.static yJ0_checkIndex_df160 ∈ px_ws := px_mem (pl := 3157) (by decide +kernel)
theorem ps_w_st_pre : Cond.static yJ3_checkIndex_8e157 ∈ px_ws := px_mem (pl := 3162) (by decide +kernel)
theorem ps_w_l_coder : Cond.methodLink "java/lang/String" 335 yJ0_coder_7d493 ∈ px_ws := px_mem (pl := 3139) (by decide +kernel)
theorem ps_w_l_isLatin1 : Cond.methodLink "java/lang/String" 492 yJ0_isLatin1_aae02 ∈ px_ws := px_mem (pl := 3149) (by decide +kernel)
theorem ps_w_l_lat : Cond.methodLink "java/lang/String" 495 yJ1_charAt_3b067 ∈ px_ws := px_mem (pl := 3153) (by decide +kernel)
theorem ps_w_l_chk : Cond.methodLink "java/lang/StringLatin1" 9 yJ0_checkIndex_df160 ∈ px_ws := px_mem (pl := 3156) (by decide +kernel)
theorem ps_w_l_pre : Cond.methodLink "java/lang/String" 1059 yJ3_checkIndex_8e157 ∈ px_ws := px_mem (pl := 3161) (by decide +kernel)
theorem ps_w_f_cs : Cond.fieldLink "java/lang/String" 38 "java/lang/String" "COMPACT_STRINGS" "Z" ∈ px_ws := px_mem (pl := 3143) (by decide +kernel)
theorem ps_w_f_co : Cond.fieldLink "java/lang/String" 15 "java/lang/String" "coder" "B" ∈ px_ws := px_mem (pl := 9106) (by decide +kernel)
theorem ps_w_f_va : Cond.fieldLink "java/lang/String" 9 "java/lang/String" "value" "[B" ∈ px_ws := px_mem (pl := 9105) (by decide +kernel)
theorem ps_w_f_fo : Cond.fieldLink "java/lang/String" 1053 "jdk/internal/util/Preconditions" "SIOOBE_FORMATTER" "Ljava/util/function/BiFunction;" ∈ px_ws := px_mem (pl := 3159) (by decide +kernel)
theorem ps_w_rs : Cond.fieldLink "ElevenBullocks$Reader" 101 "ElevenBullocks$Reader" "SHAPES" "[I" ∈ px_ws := px_mem (pl := 4037) (by decide +kernel)
theorem ps_w_rl : Cond.fieldLink "ElevenBullocks$Reader" 134 "ElevenBullocks$Reader" "LAWS_OF_NAMES" "[I" ∈ px_ws := px_mem (pl := 4027) (by decide +kernel)
theorem ps_d_coder_0 : decode cJ0_coder_7d493 0 = .ok (.getstatic 38, 3) := by decide +kernel
theorem ps_d_coder_3 : decode cJ0_coder_7d493 3 = .ok (.ifCond .eq 10, 3) := by decide +kernel
theorem ps_d_coder_6 : decode cJ0_coder_7d493 6 = .ok (.aload_n 0, 1) := by decide +kernel
theorem ps_d_coder_7 : decode cJ0_coder_7d493 7 = .ok (.getfield 15, 3) := by decide +kernel
theorem ps_d_coder_10 : decode cJ0_coder_7d493 10 = .ok (.goto 4, 3) := by decide +kernel
theorem ps_d_coder_14 : decode cJ0_coder_7d493 14 = .ok (.ireturn, 1) := by decide +kernel
theorem ps_d_isLatin1_0 : decode cJ0_isLatin1_aae02 0 = .ok (.getstatic 38, 3) := by decide +kernel
theorem ps_d_isLatin1_3 : decode cJ0_isLatin1_aae02 3 = .ok (.ifCond .eq 14, 3) := by decide +kernel
theorem ps_d_isLatin1_6 : decode cJ0_isLatin1_aae02 6 = .ok (.aload_n 0, 1) := by decide +kernel
theorem ps_d_isLatin1_7 : decode cJ0_isLatin1_aae02 7 = .ok (.getfield 15, 3) := by decide +kernel
theorem ps_d_isLatin1_10 : decode cJ0_isLatin1_aae02 10 = .ok (.ifCond .ne 7, 3) := by decide +kernel
theorem ps_d_isLatin1_13 : decode cJ0_isLatin1_aae02 13 = .ok (.iconst 1, 1) := by decide +kernel
theorem ps_d_isLatin1_14 : decode cJ0_isLatin1_aae02 14 = .ok (.goto 4, 3) := by decide +kernel
theorem ps_d_isLatin1_18 : decode cJ0_isLatin1_aae02 18 = .ok (.ireturn, 1) := by decide +kernel
theorem ps_d_length_0 : decode cJ0_length_8abf5 0 = .ok (.aload_n 0, 1) := by decide +kernel
theorem ps_d_length_1 : decode cJ0_length_8abf5 1 = .ok (.getfield 9, 3) := by decide +kernel
theorem ps_d_length_4 : decode cJ0_length_8abf5 4 = .ok (.arraylength, 1) := by decide +kernel
theorem ps_d_length_5 : decode cJ0_length_8abf5 5 = .ok (.aload_n 0, 1) := by decide +kernel
theorem ps_d_length_6 : decode cJ0_length_8abf5 6 = .ok (.invokevirtual 335, 3) := by decide +kernel
theorem ps_d_length_9 : decode cJ0_length_8abf5 9 = .ok (.ishr, 1) := by decide +kernel
theorem ps_d_length_10 : decode cJ0_length_8abf5 10 = .ok (.ireturn, 1) := by decide +kernel
theorem ps_d_pre_0 : decode cJ3_checkIndex_8e157 0 = .ok (.iload_n 0, 1) := by decide +kernel
theorem ps_d_pre_1 : decode cJ3_checkIndex_8e157 1 = .ok (.ifCond .lt 8, 3) := by decide +kernel
theorem ps_d_pre_4 : decode cJ3_checkIndex_8e157 4 = .ok (.iload_n 0, 1) := by decide +kernel
theorem ps_d_pre_5 : decode cJ3_checkIndex_8e157 5 = .ok (.iload_n 1, 1) := by decide +kernel
theorem ps_d_pre_6 : decode cJ3_checkIndex_8e157 6 = .ok (.if_icmp .lt 10, 3) := by decide +kernel
theorem ps_d_pre_16 : decode cJ3_checkIndex_8e157 16 = .ok (.iload_n 0, 1) := by decide +kernel
theorem ps_d_pre_17 : decode cJ3_checkIndex_8e157 17 = .ok (.ireturn, 1) := by decide +kernel
theorem ps_d_chk_0 : decode cJ0_checkIndex_df160 0 = .ok (.iload_n 0, 1) := by decide +kernel
theorem ps_d_chk_1 : decode cJ0_checkIndex_df160 1 = .ok (.iload_n 1, 1) := by decide +kernel
theorem ps_d_chk_2 : decode cJ0_checkIndex_df160 2 = .ok (.getstatic 1053, 3) := by decide +kernel
theorem ps_d_chk_5 : decode cJ0_checkIndex_df160 5 = .ok (.invokestatic 1059, 3) := by decide +kernel
theorem ps_d_chk_8 : decode cJ0_checkIndex_df160 8 = .ok (.pop, 1) := by decide +kernel
theorem ps_d_chk_9 : decode cJ0_checkIndex_df160 9 = .ok (.return_, 1) := by decide +kernel
theorem ps_d_lat_0 : decode cJ1_charAt_3b067 0 = .ok (.iload_n 1, 1) := by decide +kernel
theorem ps_d_lat_1 : decode cJ1_charAt_3b067 1 = .ok (.aload_n 0, 1) := by decide +kernel
theorem ps_d_lat_2 : decode cJ1_charAt_3b067 2 = .ok (.arraylength, 1) := by decide +kernel
theorem ps_d_lat_3 : decode cJ1_charAt_3b067 3 = .ok (.invokestatic 9, 3) := by decide +kernel
theorem ps_d_lat_6 : decode cJ1_charAt_3b067 6 = .ok (.aload_n 0, 1) := by decide +kernel
theorem ps_d_lat_7 : decode cJ1_charAt_3b067 7 = .ok (.iload_n 1, 1) := by decide +kernel
theorem ps_d_lat_8 : decode cJ1_charAt_3b067 8 = .ok (.baload, 1) := by decide +kernel
theorem ps_d_lat_9 : decode cJ1_charAt_3b067 9 = .ok (.sipush 255, 3) := by decide +kernel
theorem ps_d_lat_12 : decode cJ1_charAt_3b067 12 = .ok (.iand, 1) := by decide +kernel
theorem ps_d_lat_13 : decode cJ1_charAt_3b067 13 = .ok (.i2c, 1) := by decide +kernel
theorem ps_d_lat_14 : decode cJ1_charAt_3b067 14 = .ok (.ireturn, 1) := by decide +kernel
theorem ps_d_charAt_0 : decode cJ0_charAt_5068e 0 = .ok (.aload_n 0, 1) := by decide +kernel
theorem ps_d_charAt_1 : decode cJ0_charAt_5068e 1 = .ok (.invokevirtual 492, 3) := by decide +kernel
theorem ps_d_charAt_4 : decode cJ0_charAt_5068e 4 = .ok (.ifCond .eq 12, 3) := by decide +kernel
theorem ps_d_charAt_7 : decode cJ0_charAt_5068e 7 = .ok (.aload_n 0, 1) := by decide +kernel
theorem ps_d_charAt_8 : decode cJ0_charAt_5068e 8 = .ok (.getfield 9, 3) := by decide +kernel
theorem ps_d_charAt_11 : decode cJ0_charAt_5068e 11 = .ok (.iload_n 1, 1) := by decide +kernel
theorem ps_d_charAt_12 : decode cJ0_charAt_5068e 12 = .ok (.invokestatic 495, 3) := by decide +kernel
theorem ps_d_charAt_15 : decode cJ0_charAt_5068e 15 = .ok (.ireturn, 1) := by decide +kernel
set_option maxRecDepth 100000 in
theorem ps_coder (l : Launch) {A : Nat → Prop} {q v : Nat}  : Met l yJ0_coder_7d493 (Cond.code yJ0_coder_7d493 cJ0_coder_7d493 1 (some .byte) :: px_ws) (ps_rm 0) (ps_P [.ref q] A q v) (ps_Q (some (.int 0)) A) 0 0 A := by
  refine Met.ofW (cc := cJ0_coder_7d493) (maxL := 1) (ret := (some .byte)) (by decide) rfl ?_
  intro p e s m args below meth c s₁ B hml hv
  obtain ⟨rfl, hL⟩ := hv
  have hx := B.exec
  have hb := B.bytes
  have hr := B.returns
  have hlocks := B.notSynchronized
  have hts0 := atoms_spec (ws := Cond.code yJ0_coder_7d493 cJ0_coder_7d493 1 (some .byte) :: px_ws) B.pre
  have hts : ∀ w ∈ px_ws, w.before [.ref q].toArray s = true := fun w h => hts0 w (List.mem_cons_of_mem _ h)
  have hown : s.vm.findClass "java/lang/String" = some m.cls := findClass_of_methodNamed B.named
  have hS : va_S A s.heap s.heap [] := va_S.rf
  have hl := lv_entry ([.ref q]) (n := 1) (Nat.le_of_ble_eq_true rfl)
  rw [lg_entry_eq]
  generalize (lg_sl ([.ref q]) ++ List.replicate (1 - (lg_sl ([.ref q])).length) Slot.unset).toArray = ls at hl ⊢
  have S9 : CallFix p m c cJ0_coder_7d493 1 s [.ref q].toArray px_ws "java/lang/String" := ⟨hx, hb, hml, hown, hts⟩
  have hl : lv_has ls 1 [(0, .ref q)] := hl
  refine va_gets (C := "java/lang/String") (ref := "java/lang/String") hx hb hL.2.1 hS hown (hts _ ps_w_f_cs) (fun _ h9 => h9) ps_d_coder_0 ?_
  refine lv_if_eq hx hb ps_d_coder_3 (tgt := 13) rfl (fun h9 => absurd h9 (by decide)) (fun _ => ?_)
  refine lv_aload_n hx hb ps_d_coder_6 rfl (lv_at hl 0 rfl) ?_
  refine vk_getf (ref := "java/lang/String") hx hb (hL.1.1 0 (by decide)).2.1 hS hown (hts _ ps_w_f_co) (fun _ h9 => h9) ps_d_coder_7 ?_
  refine lv_goto hx hb ps_d_coder_10 (tgt := 14) rfl ?_
  exact W.zret hx hb hr rfl (fun t ht _ => ⟨rfl, hS.F ht⟩) hS.2.2 ps_d_coder_14
set_option maxRecDepth 100000 in
theorem ps_isLatin1 (l : Launch) {A : Nat → Prop} {q v : Nat}  : Met l yJ0_isLatin1_aae02 (Cond.code yJ0_isLatin1_aae02 cJ0_isLatin1_aae02 1 (some .boolean) :: px_ws) (ps_rm 0) (ps_P [.ref q] A q v) (ps_Q (some (.int 1)) A) 0 0 A := by
  refine Met.ofW (cc := cJ0_isLatin1_aae02) (maxL := 1) (ret := (some .boolean)) (by decide) rfl ?_
  intro p e s m args below meth c s₁ B hml hv
  obtain ⟨rfl, hL⟩ := hv
  have hx := B.exec
  have hb := B.bytes
  have hr := B.returns
  have hlocks := B.notSynchronized
  have hts0 := atoms_spec (ws := Cond.code yJ0_isLatin1_aae02 cJ0_isLatin1_aae02 1 (some .boolean) :: px_ws) B.pre
  have hts : ∀ w ∈ px_ws, w.before [.ref q].toArray s = true := fun w h => hts0 w (List.mem_cons_of_mem _ h)
  have hown : s.vm.findClass "java/lang/String" = some m.cls := findClass_of_methodNamed B.named
  have hS : va_S A s.heap s.heap [] := va_S.rf
  have hl := lv_entry ([.ref q]) (n := 1) (Nat.le_of_ble_eq_true rfl)
  rw [lg_entry_eq]
  generalize (lg_sl ([.ref q]) ++ List.replicate (1 - (lg_sl ([.ref q])).length) Slot.unset).toArray = ls at hl ⊢
  have S9 : CallFix p m c cJ0_isLatin1_aae02 1 s [.ref q].toArray px_ws "java/lang/String" := ⟨hx, hb, hml, hown, hts⟩
  have hl : lv_has ls 1 [(0, .ref q)] := hl
  refine va_gets (C := "java/lang/String") (ref := "java/lang/String") hx hb hL.2.1 hS hown (hts _ ps_w_f_cs) (fun _ h9 => h9) ps_d_isLatin1_0 ?_
  refine lv_if_eq hx hb ps_d_isLatin1_3 (tgt := 17) rfl (fun h9 => absurd h9 (by decide)) (fun _ => ?_)
  refine lv_aload_n hx hb ps_d_isLatin1_6 rfl (lv_at hl 0 rfl) ?_
  refine vk_getf (ref := "java/lang/String") hx hb (hL.1.1 0 (by decide)).2.1 hS hown (hts _ ps_w_f_co) (fun _ h9 => h9) ps_d_isLatin1_7 ?_
  refine lv_if_ne hx hb ps_d_isLatin1_10 (tgt := 17) rfl (fun h9 => absurd rfl h9) (fun _ => ?_)
  refine lv_iconst (v := 1) hx hb ps_d_isLatin1_13 (by decide) ?_
  refine lv_goto hx hb ps_d_isLatin1_14 (tgt := 18) rfl ?_
  exact W.zret hx hb hr rfl (fun t ht _ => ⟨rfl, hS.F ht⟩) hS.2.2 ps_d_isLatin1_18
set_option maxRecDepth 100000 in
theorem ps_length (l : Launch) {A : Nat → Prop} {q v : Nat}  : Met l yJ0_length_8abf5 (Cond.code yJ0_length_8abf5 cJ0_length_8abf5 1 (some .int) :: px_ws) (ps_rm 1) (ps_P [.ref q] A q v) (ps_Q (some (.int 180)) A) 0 0 A := by
  refine Met.ofW (cc := cJ0_length_8abf5) (maxL := 1) (ret := (some .int)) (by decide) rfl ?_
  intro p e s m args below meth c s₁ B hml hv
  obtain ⟨rfl, hL⟩ := hv
  have hx := B.exec
  have hb := B.bytes
  have hr := B.returns
  have hlocks := B.notSynchronized
  have hts0 := atoms_spec (ws := Cond.code yJ0_length_8abf5 cJ0_length_8abf5 1 (some .int) :: px_ws) B.pre
  have hts : ∀ w ∈ px_ws, w.before [.ref q].toArray s = true := fun w h => hts0 w (List.mem_cons_of_mem _ h)
  have hown : s.vm.findClass "java/lang/String" = some m.cls := findClass_of_methodNamed B.named
  have hS : va_S A s.heap s.heap [] := va_S.rf
  have hl := lv_entry ([.ref q]) (n := 1) (Nat.le_of_ble_eq_true rfl)
  rw [lg_entry_eq]
  generalize (lg_sl ([.ref q]) ++ List.replicate (1 - (lg_sl ([.ref q])).length) Slot.unset).toArray = ls at hl ⊢
  have S9 : CallFix p m c cJ0_length_8abf5 1 s [.ref q].toArray px_ws "java/lang/String" := ⟨hx, hb, hml, hown, hts⟩
  have hl : lv_has ls 1 [(0, .ref q)] := hl
  refine lv_aload_n hx hb ps_d_length_0 rfl (lv_at hl 0 rfl) ?_
  refine vk_getf (ref := "java/lang/String") hx hb (hL.1.1 0 (by decide)).2.2.1 hS hown (hts _ ps_w_f_va) (fun _ h9 => h9) ps_d_length_1 ?_
  refine va_tlen (v := 180) hx hb (hL.1.1 0 (by decide)).2.2.2 hS rfl ps_d_length_4 ?_
  refine lv_aload_n hx hb ps_d_length_5 rfl (lv_at hl 0 rfl) ?_
  have cw := callB_of (R := ps_rm 1) (s := s) (args := [.ref q].toArray) (own := "java/lang/String") (index := 335) (rm := ps_rm 0) (mc := 0) (ms := 0) 0 hts (fun w hw => (by
    rcases List.mem_cons.mp hw with rfl | hw
    · exact px_ws_good _ ps_w_c_coder
    · exact px_ws_good _ hw) : GoodIn px_ws (Cond.code yJ0_coder_7d493 cJ0_coder_7d493 1 (some .byte) :: px_ws)) rfl rfl rfl (hts _ ps_w_iS) (hts _ ps_w_l_coder) ⟨by decide, by decide, by decide⟩ ⟨by decide, by decide⟩
  refine ps_run (va_runV (C := "java/lang/String") (b := q) (As := []) (rest := [.int 180]) S9 (ps_coder l (A := A) (q := q) (v := v)) ⟨cw, hts _ ps_w_in_coder, hts _ ps_w_se_coder⟩ ⟨ps_blind, vk_recv (i := 0) hL.1 (by decide) hS, fun U hU hW => ⟨rfl, ps_go hL hS hU hW⟩⟩ rfl rfl hl.1 rfl (lv_room (by decide)) ps_d_length_6 ⟨by decide, by decide⟩) hS (fun H1 locs1 hS1 _ _ => ?_)
  refine lv_ishr hx hb ps_d_length_9 ?_
  exact W.iret (v := 180) hx hb hr (fun t ht _ => ⟨rfl, hS1.F ht⟩) hS1.2.2 ps_d_length_10
set_option maxRecDepth 100000 in
theorem ps_preN (l : Launch) {A : Nat → Prop} {q v : Nat} {i n : Int32} {t : Nat} (h0 : ¬ i < 0) (h1 : i < n) : Met l yJ3_checkIndex_8e157 (Cond.code yJ3_checkIndex_8e157 cJ3_checkIndex_8e157 3 (some .int) :: px_ws) (ps_rm 0) (ps_P [.int i, .int n, .null] A q v) (ps_Q (some (.int i)) A) 0 0 A := by
  refine Met.ofW (cc := cJ3_checkIndex_8e157) (maxL := 3) (ret := (some .int)) (by decide) rfl ?_
  intro p e s m args below meth c s₁ B hml hv
  obtain ⟨rfl, hL⟩ := hv
  have hx := B.exec
  have hb := B.bytes
  have hr := B.returns
  have hlocks := B.notSynchronized
  have hts0 := atoms_spec (ws := Cond.code yJ3_checkIndex_8e157 cJ3_checkIndex_8e157 3 (some .int) :: px_ws) B.pre
  have hts : ∀ w ∈ px_ws, w.before [.int i, .int n, .null].toArray s = true := fun w h => hts0 w (List.mem_cons_of_mem _ h)
  have hown : s.vm.findClass "jdk/internal/util/Preconditions" = some m.cls := findClass_of_methodNamed B.named
  have hS : va_S A s.heap s.heap [] := va_S.rf
  have hl := lv_entry ([.int i, .int n, .null]) (n := 3) (Nat.le_of_ble_eq_true rfl)
  rw [lg_entry_eq]
  generalize (lg_sl ([.int i, .int n, .null]) ++ List.replicate (3 - (lg_sl ([.int i, .int n, .null])).length) Slot.unset).toArray = ls at hl ⊢
  have S9 : CallFix p m c cJ3_checkIndex_8e157 3 s [.int i, .int n, .null].toArray px_ws "jdk/internal/util/Preconditions" := ⟨hx, hb, hml, hown, hts⟩
  have hl : lv_has ls 3 [(0, .int i), (1, .int n), (2, .null)] := hl
  refine lv_iload_n hx hb ps_d_pre_0 rfl (lv_at hl 0 rfl) ?_
  refine lv_if_lt hx hb ps_d_pre_1 (tgt := 9) rfl (fun h9 => absurd h9 h0) (fun _ => ?_)
  refine lv_iload_n hx hb ps_d_pre_4 rfl (lv_at hl 0 rfl) ?_
  refine lv_iload_n hx hb ps_d_pre_5 rfl (lv_at hl 1 rfl) ?_
  refine lv_icmp_lt hx hb ps_d_pre_6 (tgt := 16) rfl (fun _ => ?_) (fun h9 => absurd h1 h9)
  refine lv_iload_n hx hb ps_d_pre_16 rfl (lv_at hl 0 rfl) ?_
  exact W.iret hx hb hr (fun t ht _ => ⟨rfl, hS.F ht⟩) hS.2.2 ps_d_pre_17
set_option maxRecDepth 100000 in
theorem ps_preR (l : Launch) {A : Nat → Prop} {q v : Nat} {i n : Int32} {t : Nat} (h0 : ¬ i < 0) (h1 : i < n) : Met l yJ3_checkIndex_8e157 (Cond.code yJ3_checkIndex_8e157 cJ3_checkIndex_8e157 3 (some .int) :: px_ws) (ps_rm 0) (ps_P [.int i, .int n, .ref t] A q v) (ps_Q (some (.int i)) A) 0 0 A := by
  refine Met.ofW (cc := cJ3_checkIndex_8e157) (maxL := 3) (ret := (some .int)) (by decide) rfl ?_
  intro p e s m args below meth c s₁ B hml hv
  obtain ⟨rfl, hL⟩ := hv
  have hx := B.exec
  have hb := B.bytes
  have hr := B.returns
  have hlocks := B.notSynchronized
  have hts0 := atoms_spec (ws := Cond.code yJ3_checkIndex_8e157 cJ3_checkIndex_8e157 3 (some .int) :: px_ws) B.pre
  have hts : ∀ w ∈ px_ws, w.before [.int i, .int n, .ref t].toArray s = true := fun w h => hts0 w (List.mem_cons_of_mem _ h)
  have hown : s.vm.findClass "jdk/internal/util/Preconditions" = some m.cls := findClass_of_methodNamed B.named
  have hS : va_S A s.heap s.heap [] := va_S.rf
  have hl := lv_entry ([.int i, .int n, .ref t]) (n := 3) (Nat.le_of_ble_eq_true rfl)
  rw [lg_entry_eq]
  generalize (lg_sl ([.int i, .int n, .ref t]) ++ List.replicate (3 - (lg_sl ([.int i, .int n, .ref t])).length) Slot.unset).toArray = ls at hl ⊢
  have S9 : CallFix p m c cJ3_checkIndex_8e157 3 s [.int i, .int n, .ref t].toArray px_ws "jdk/internal/util/Preconditions" := ⟨hx, hb, hml, hown, hts⟩
  have hl : lv_has ls 3 [(0, .int i), (1, .int n), (2, .ref t)] := hl
  refine lv_iload_n hx hb ps_d_pre_0 rfl (lv_at hl 0 rfl) ?_
  refine lv_if_lt hx hb ps_d_pre_1 (tgt := 9) rfl (fun h9 => absurd h9 h0) (fun _ => ?_)
  refine lv_iload_n hx hb ps_d_pre_4 rfl (lv_at hl 0 rfl) ?_
  refine lv_iload_n hx hb ps_d_pre_5 rfl (lv_at hl 1 rfl) ?_
  refine lv_icmp_lt hx hb ps_d_pre_6 (tgt := 16) rfl (fun _ => ?_) (fun h9 => absurd h1 h9)
  refine lv_iload_n hx hb ps_d_pre_16 rfl (lv_at hl 0 rfl) ?_
  exact W.iret hx hb hr (fun t ht _ => ⟨rfl, hS.F ht⟩) hS.2.2 ps_d_pre_17
set_option maxRecDepth 100000 in
theorem ps_chk (l : Launch) {A : Nat → Prop} {q v : Nat} {i n : Int32} (h0 : ¬ i < 0) (h1 : i < n) : Met l yJ0_checkIndex_df160 (Cond.code yJ0_checkIndex_df160 cJ0_checkIndex_df160 2 none :: px_ws) (ps_rm 1) (ps_P [.int i, .int n] A q v) (ps_Q none A) 0 0 A := by
  refine Met.ofW (cc := cJ0_checkIndex_df160) (maxL := 2) (ret := none) (by decide) rfl ?_
  intro p e s m args below meth c s₁ B hml hv
  obtain ⟨rfl, hL⟩ := hv
  have hx := B.exec
  have hb := B.bytes
  have hr := B.returns
  have hlocks := B.notSynchronized
  have hts0 := atoms_spec (ws := Cond.code yJ0_checkIndex_df160 cJ0_checkIndex_df160 2 none :: px_ws) B.pre
  have hts : ∀ w ∈ px_ws, w.before [.int i, .int n].toArray s = true := fun w h => hts0 w (List.mem_cons_of_mem _ h)
  have hown : s.vm.findClass "java/lang/String" = some m.cls := findClass_of_methodNamed B.named
  have hS : va_S A s.heap s.heap [] := va_S.rf
  have hl := lv_entry ([.int i, .int n]) (n := 2) (Nat.le_of_ble_eq_true rfl)
  rw [lg_entry_eq]
  generalize (lg_sl ([.int i, .int n]) ++ List.replicate (2 - (lg_sl ([.int i, .int n])).length) Slot.unset).toArray = ls at hl ⊢
  have S9 : CallFix p m c cJ0_checkIndex_df160 2 s [.int i, .int n].toArray px_ws "java/lang/String" := ⟨hx, hb, hml, hown, hts⟩
  have hl : lv_has ls 2 [(0, .int i), (1, .int n)] := hl
  refine lv_iload_n hx hb ps_d_chk_0 rfl (lv_at hl 0 rfl) ?_
  refine lv_iload_n hx hb ps_d_chk_1 rfl (lv_at hl 1 rfl) ?_
  rcases hL.2.2 with z | ⟨t, z⟩
  · refine va_gets (C := "jdk/internal/util/Preconditions") (ref := "jdk/internal/util/Preconditions") hx hb z hS hown (hts _ ps_w_f_fo) (fun _ h9 => h9) ps_d_chk_2 ?_
    have cw := callB_of (R := ps_rm 1) (s := s) (args := [.int i, .int n].toArray) (own := "java/lang/String") (index := 1059) (rm := ps_rm 0) (mc := 0) (ms := 0) 3 hts (fun w hw => (by
    rcases List.mem_cons.mp hw with rfl | hw
    · exact px_ws_good _ ps_w_c_pre
    · exact px_ws_good _ hw) : GoodIn px_ws (Cond.code yJ3_checkIndex_8e157 cJ3_checkIndex_8e157 3 (some .int) :: px_ws)) rfl rfl rfl (hts _ ps_w_iP) (hts _ ps_w_l_pre) ⟨by decide, by decide, by decide⟩ ⟨by decide, by decide⟩
    refine ps_run (va_runS (As := [.int i, .int n, .null]) (rest := []) S9 (ps_preN (t := 0) l (A := A) (q := q) (v := v) h0 h1) ⟨cw, hts _ ps_w_st_pre⟩ ⟨ps_blind, fun U hU hW => ⟨rfl, ps_go hL hS hU hW⟩⟩ rfl rfl hl.1 rfl (lv_room (by decide)) ps_d_chk_5 ⟨by decide, by decide⟩) hS (fun H1 locs1 hS1 _ _ => ?_)
    refine lv_pop hx hb ps_d_chk_8 rfl ?_
    exact W.vret hx hb hr (fun t ht _ => ⟨rfl, hS1.F ht⟩) hS1.2.2 ps_d_chk_9
  · refine va_gets (C := "jdk/internal/util/Preconditions") (ref := "jdk/internal/util/Preconditions") hx hb z hS hown (hts _ ps_w_f_fo) (fun _ h9 => h9) ps_d_chk_2 ?_
    have cw := callB_of (R := ps_rm 1) (s := s) (args := [.int i, .int n].toArray) (own := "java/lang/String") (index := 1059) (rm := ps_rm 0) (mc := 0) (ms := 0) 3 hts (fun w hw => (by
    rcases List.mem_cons.mp hw with rfl | hw
    · exact px_ws_good _ ps_w_c_pre
    · exact px_ws_good _ hw) : GoodIn px_ws (Cond.code yJ3_checkIndex_8e157 cJ3_checkIndex_8e157 3 (some .int) :: px_ws)) rfl rfl rfl (hts _ ps_w_iP) (hts _ ps_w_l_pre) ⟨by decide, by decide, by decide⟩ ⟨by decide, by decide⟩
    refine ps_run (va_runS (As := [.int i, .int n, .ref t]) (rest := []) S9 (ps_preR (t := t) l (A := A) (q := q) (v := v) h0 h1) ⟨cw, hts _ ps_w_st_pre⟩ ⟨ps_blind, fun U hU hW => ⟨rfl, ps_go hL hS hU hW⟩⟩ rfl rfl hl.1 rfl (lv_room (by decide)) ps_d_chk_5 ⟨by decide, by decide⟩) hS (fun H1 locs1 hS1 _ _ => ?_)
    refine lv_pop hx hb ps_d_chk_8 rfl ?_
    exact W.vret hx hb hr (fun t ht _ => ⟨rfl, hS1.F ht⟩) hS1.2.2 ps_d_chk_9
theorem ps_ch : ∀ k, k < 180 → (((ps_byt.getD k 0) &&& 255).toUInt32 % 65536).toInt32 = ps_byt.getD k 0 ∧ narrow .char (.int (ps_byt.getD k 0)) = .int (ps_byt.getD k 0) := by decide +kernel
set_option maxRecDepth 100000 in
theorem ps_lat (l : Launch) {A : Nat → Prop} {q v : Nat} {k : Nat} (hk : k < 180) : Met l yJ1_charAt_3b067 (Cond.code yJ1_charAt_3b067 cJ1_charAt_3b067 2 (some .char) :: px_ws) (ps_rm 2) (ps_P [.ref v, .int (nI k)] A q v) (ps_Q (some (.int (ps_byt.getD k 0))) A) 0 0 A := by
  refine Met.ofW (cc := cJ1_charAt_3b067) (maxL := 2) (ret := (some .char)) (by decide) rfl ?_
  intro p e s m args below meth c s₁ B hml hv
  obtain ⟨rfl, hL⟩ := hv
  have hx := B.exec
  have hb := B.bytes
  have hr := B.returns
  have hlocks := B.notSynchronized
  have hts0 := atoms_spec (ws := Cond.code yJ1_charAt_3b067 cJ1_charAt_3b067 2 (some .char) :: px_ws) B.pre
  have hts : ∀ w ∈ px_ws, w.before [.ref v, .int (nI k)].toArray s = true := fun w h => hts0 w (List.mem_cons_of_mem _ h)
  have hown : s.vm.findClass "java/lang/StringLatin1" = some m.cls := findClass_of_methodNamed B.named
  have hS : va_S A s.heap s.heap [] := va_S.rf
  have hl := lv_entry ([.ref v, .int (nI k)]) (n := 2) (Nat.le_of_ble_eq_true rfl)
  rw [lg_entry_eq]
  generalize (lg_sl ([.ref v, .int (nI k)]) ++ List.replicate (2 - (lg_sl ([.ref v, .int (nI k)])).length) Slot.unset).toArray = ls at hl ⊢
  have S9 : CallFix p m c cJ1_charAt_3b067 2 s [.ref v, .int (nI k)].toArray px_ws "java/lang/StringLatin1" := ⟨hx, hb, hml, hown, hts⟩
  have hl : lv_has ls 2 [(0, .ref v), (1, .int (nI k))] := hl
  refine lv_iload_n hx hb ps_d_lat_0 rfl (lv_at hl 1 rfl) ?_
  refine lv_aload_n hx hb ps_d_lat_1 rfl (lv_at hl 0 rfl) ?_
  refine va_tlen (v := nI 180) hx hb (hL.1.1 0 (by decide)).2.2.2 hS rfl ps_d_lat_2 ?_
  · have cw := callB_of (R := ps_rm 2) (s := s) (args := [.ref v, .int (nI k)].toArray) (own := "java/lang/StringLatin1") (index := 9) (rm := ps_rm 1) (mc := 0) (ms := 0) 2 hts (fun w hw => (by
    rcases List.mem_cons.mp hw with rfl | hw
    · exact px_ws_good _ ps_w_c_chk
    · exact px_ws_good _ hw) : GoodIn px_ws (Cond.code yJ0_checkIndex_df160 cJ0_checkIndex_df160 2 none :: px_ws)) rfl rfl rfl (hts _ ps_w_iS) (hts _ ps_w_l_chk) ⟨by decide, by decide, by decide⟩ ⟨by decide, by decide⟩
    refine ps_run (va_runS (As := [.int (nI k), .int (nI 180)]) (rest := []) S9 (ps_chk l (A := A) (q := q) (v := v) (nI_pos (by omega)) (nI_lt hk (by decide))) ⟨cw, hts _ ps_w_st_chk⟩ ⟨ps_blind, fun U hU hW => ⟨rfl, ps_go hL hS hU hW⟩⟩ rfl rfl hl.1 rfl (lv_room (by decide)) ps_d_lat_3 ⟨by decide, by decide⟩) hS (fun H1 locs1 hS1 _ _ => ?_)
    refine lv_aload_n hx hb ps_d_lat_6 rfl (lv_at hl 0 rfl) ?_
    refine lv_iload_n hx hb ps_d_lat_7 rfl (lv_at hl 1 rfl) ?_
    refine va_tb (v := .int (ps_byt.getD k 0)) hx hb (hL.1.1 0 (by decide)).2.2.2 hS1 (vp_in_nI (show k < ([180] : List Nat).getD 0 0 from hk) (by decide)) (by show Value.int (ps_byt.getD (nI k).toNatClampNeg 0) = _; rw [nI_clamp (by omega)]) ps_d_lat_8 ?_
    refine lv_sipush (v := 255) hx hb ps_d_lat_9 (by decide) ?_
    refine lv_iand hx hb ps_d_lat_12 ?_
    refine lv_i2c (v := ps_byt.getD k 0) hx hb ps_d_lat_13 (ps_ch k hk).1 ?_
    exact W.zret hx hb hr (ps_ch k hk).2 (fun t ht _ => ⟨rfl, hS1.F ht⟩) hS1.2.2 ps_d_lat_14
set_option maxRecDepth 100000 in
theorem ps_charAt (l : Launch) {A : Nat → Prop} {q v : Nat} {k : Nat} (hk : k < 180) : Met l yJ0_charAt_5068e (Cond.code yJ0_charAt_5068e cJ0_charAt_5068e 2 (some .char) :: px_ws) (ps_rm 3) (ps_P [.ref q, .int (nI k)] A q v) (ps_Q (some (.int (ps_byt.getD k 0))) A) 0 0 A := by
  refine Met.ofW (cc := cJ0_charAt_5068e) (maxL := 2) (ret := (some .char)) (by decide) rfl ?_
  intro p e s m args below meth c s₁ B hml hv
  obtain ⟨rfl, hL⟩ := hv
  have hx := B.exec
  have hb := B.bytes
  have hr := B.returns
  have hlocks := B.notSynchronized
  have hts0 := atoms_spec (ws := Cond.code yJ0_charAt_5068e cJ0_charAt_5068e 2 (some .char) :: px_ws) B.pre
  have hts : ∀ w ∈ px_ws, w.before [.ref q, .int (nI k)].toArray s = true := fun w h => hts0 w (List.mem_cons_of_mem _ h)
  have hown : s.vm.findClass "java/lang/String" = some m.cls := findClass_of_methodNamed B.named
  have hS : va_S A s.heap s.heap [] := va_S.rf
  have hl := lv_entry ([.ref q, .int (nI k)]) (n := 2) (Nat.le_of_ble_eq_true rfl)
  rw [lg_entry_eq]
  generalize (lg_sl ([.ref q, .int (nI k)]) ++ List.replicate (2 - (lg_sl ([.ref q, .int (nI k)])).length) Slot.unset).toArray = ls at hl ⊢
  have S9 : CallFix p m c cJ0_charAt_5068e 2 s [.ref q, .int (nI k)].toArray px_ws "java/lang/String" := ⟨hx, hb, hml, hown, hts⟩
  have hl : lv_has ls 2 [(0, .ref q), (1, .int (nI k))] := hl
  refine lv_aload_n hx hb ps_d_charAt_0 rfl (lv_at hl 0 rfl) ?_
  have cw := callB_of (R := ps_rm 3) (s := s) (args := [.ref q, .int (nI k)].toArray) (own := "java/lang/String") (index := 492) (rm := ps_rm 0) (mc := 0) (ms := 0) 0 hts (fun w hw => (by
    rcases List.mem_cons.mp hw with rfl | hw
    · exact px_ws_good _ ps_w_c_isLatin1
    · exact px_ws_good _ hw) : GoodIn px_ws (Cond.code yJ0_isLatin1_aae02 cJ0_isLatin1_aae02 1 (some .boolean) :: px_ws)) rfl rfl rfl (hts _ ps_w_iS) (hts _ ps_w_l_isLatin1) ⟨by decide, by decide, by decide⟩ ⟨by decide, by decide⟩
  refine ps_run (va_runV (C := "java/lang/String") (b := q) (As := []) (rest := []) S9 (ps_isLatin1 l (A := A) (q := q) (v := v)) ⟨cw, hts _ ps_w_in_isLatin1, hts _ ps_w_se_isLatin1⟩ ⟨ps_blind, vk_recv (i := 0) hL.1 (by decide) hS, fun U hU hW => ⟨rfl, ps_go hL hS hU hW⟩⟩ rfl rfl hl.1 rfl (lv_room (by decide)) ps_d_charAt_1 ⟨by decide, by decide⟩) hS (fun H0 locs0 hS0 _ _ => ?_)
  refine lv_if_eq hx hb ps_d_charAt_4 (tgt := 16) rfl (fun h9 => absurd h9 (by decide)) (fun _ => ?_)
  refine lv_aload_n hx hb ps_d_charAt_7 rfl (lv_at hl 0 rfl) ?_
  refine vk_getf (ref := "java/lang/String") hx hb (hL.1.1 0 (by decide)).2.2.1 hS0 hown (hts _ ps_w_f_va) (fun _ h9 => h9) ps_d_charAt_8 ?_
  refine lv_iload_n hx hb ps_d_charAt_11 rfl (lv_at hl 1 rfl) ?_
  · have cw := callB_of (R := ps_rm 3) (s := s) (args := [.ref q, .int (nI k)].toArray) (own := "java/lang/String") (index := 495) (rm := ps_rm 2) (mc := 0) (ms := 0) 2 hts (fun w hw => (by
    rcases List.mem_cons.mp hw with rfl | hw
    · exact px_ws_good _ ps_w_c_lat
    · exact px_ws_good _ hw) : GoodIn px_ws (Cond.code yJ1_charAt_3b067 cJ1_charAt_3b067 2 (some .char) :: px_ws)) rfl rfl rfl (hts _ ps_w_iL) (hts _ ps_w_l_lat) ⟨by decide, by decide, by decide⟩ ⟨by decide, by decide⟩
    refine ps_run (va_runS (As := [.ref v, .int (nI k)]) (rest := []) S9 (ps_lat l (A := A) (q := q) (v := v) hk) ⟨cw, hts _ ps_w_st_lat⟩ ⟨ps_blind, fun U hU hW => ⟨rfl, ps_go hL hS0 hU hW⟩⟩ rfl rfl hl.1 rfl (lv_room (by decide)) ps_d_charAt_12 ⟨by decide, by decide⟩) hS0 (fun H1 locs1 hS1 _ _ => ?_)
    exact W.zret hx hb hr (ps_ch k hk).2 (fun t ht _ => ⟨rfl, hS1.F ht⟩) hS1.2.2 ps_d_charAt_15
end PST
