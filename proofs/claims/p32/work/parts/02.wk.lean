/-! decode, read off the bytes as they lie -/
section PXW
variable {c : ByteArray} {p : Nat} {α β : Type} {l : List UInt8} {n o k : Nat} {v : Int}
theorem qy_rb {x : Jvm.ClassFile.Decoder α} {f : α → Jvm.ClassFile.Decoder β} {a : α} {p' : Nat} (h : x c p = .ok (a, p')) : (x >>= f) c p = f a c p' := by
  show Except.bind (x c p) _ = _
  rw [h]
  rfl
theorem qy_rm {x : Jvm.ClassFile.Decoder α} {f : α → β} {a : α} {p' : Nat} (h : x c p = .ok (a, p')) : (f <$> x) c p = .ok (f a, p') := by
  show Except.bind (x c p) _ = _
  rw [h]
  rfl
theorem qy_u1 {a : UInt8} (h : c.data.toList[p]? = some a) : (Jvm.ClassFile.Reader.u1 : Jvm.ClassFile.Decoder Nat) c p = .ok (a.toNat, p + 1) := by
  obtain ⟨hp, e⟩ := List.getElem?_eq_some_iff.mp h
  have hp' : p < c.size := hp
  have e' : c[p] = a := e
  show (dite (p < c.size) (fun h => _) (fun h => _) : Jvm.ClassFile.Decoder Nat) c p = _
  rw [dif_pos hp', e']
  rfl
theorem qy_at (hl : c.data.toList.drop p = l) (i : Nat) : c.data.toList[p + i]? = l[i]? := by rw [← hl, List.getElem?_drop]
theorem qy_dc {ins : Instr} (h : Jvm.ClassFile.Decoder.instr p c p = .ok (ins, p + n)) : decode c p = .ok (ins, n) := by
  show Except.bind (Jvm.ClassFile.Decoder.instr p c p) _ = _
  rw [h]
  show Except.ok (ins, p + n - p) = _
  rw [Nat.add_sub_cancel_left]
def qy_t0 (l : List UInt8) (n o : Nat) : Bool := match l with
  | x :: _ => Nat.beq n 1 && Nat.beq x.toNat o
  | _ => false
def qy_t1 (l : List UInt8) (n o v : Nat) : Bool := match l with
  | x :: a :: _ => Nat.beq n 2 && (Nat.beq x.toNat o && Nat.beq a.toNat v)
  | _ => false
def qy_t2 (l : List UInt8) (n o v : Nat) : Bool := match l with
  | x :: a :: b :: _ => Nat.beq n 3 && (Nat.beq x.toNat o && Nat.beq (a.toNat * 256 + b.toNat) v)
  | _ => false
def qy_y1 (l : List UInt8) (n o : Nat) (v : Int) : Bool := match l with
  | x :: a :: _ => Nat.beq n 2 && (Nat.beq x.toNat o && decide (Jvm.ClassFile.Reader.signed 8 a.toNat = v))
  | _ => false
def qy_y2 (l : List UInt8) (n o : Nat) (v : Int) : Bool := match l with
  | x :: a :: b :: _ => Nat.beq n 3 && (Nat.beq x.toNat o && decide (Jvm.ClassFile.Reader.signed 16 (a.toNat * 256 + b.toNat) = v))
  | _ => false
def qy_yi (l : List UInt8) (n o k : Nat) (v : Int) : Bool := match l with
  | x :: a :: b :: _ => Nat.beq n 3 && (Nat.beq x.toNat o && (Nat.beq a.toNat k && decide (Jvm.ClassFile.Reader.signed 8 b.toNat = v)))
  | _ => false
theorem qy_t0s (h : qy_t0 l n o = true) (hl : c.data.toList.drop p = l) : n = 1 ∧ (Jvm.ClassFile.Reader.u1 : Jvm.ClassFile.Decoder Nat) c p = .ok (o, p + 1) := by
  cases l with
  | nil => cases h
  | cons x t =>
    have h : (Nat.beq n 1 && Nat.beq x.toNat o) = true := h
    rw [Bool.and_eq_true] at h
    exact ⟨Nat.eq_of_beq_eq_true h.1, by rw [← Nat.eq_of_beq_eq_true h.2]; exact qy_u1 (qy_at hl 0)⟩
theorem qy_t1s (h : qy_t1 l n o k = true) (hl : c.data.toList.drop p = l) : n = 2 ∧ (Jvm.ClassFile.Reader.u1 : Jvm.ClassFile.Decoder Nat) c p = .ok (o, p + 1) ∧ (Jvm.ClassFile.Reader.u1 : Jvm.ClassFile.Decoder Nat) c (p + 1) = .ok (k, p + 2) := by
  cases l with
  | nil => cases h
  | cons x t =>
    cases t with
    | nil => cases h
    | cons a t =>
      have h : (Nat.beq n 2 && (Nat.beq x.toNat o && Nat.beq a.toNat k)) = true := h
      rw [Bool.and_eq_true, Bool.and_eq_true] at h
      exact ⟨Nat.eq_of_beq_eq_true h.1, by rw [← Nat.eq_of_beq_eq_true h.2.1]; exact qy_u1 (qy_at hl 0), by rw [← Nat.eq_of_beq_eq_true h.2.2]; exact qy_u1 (qy_at hl 1)⟩
theorem qy_u2 {a b : UInt8} (h1 : c.data.toList[p]? = some a) (h2 : c.data.toList[p + 1]? = some b) : (Jvm.ClassFile.Reader.u2 : Jvm.ClassFile.Decoder Nat) c p = .ok (a.toNat * 256 + b.toNat, p + 2) :=
  (qy_rb (qy_u1 h1)).trans ((qy_rb (qy_u1 h2)).trans rfl)
theorem qy_t2s (h : qy_t2 l n o k = true) (hl : c.data.toList.drop p = l) : n = 3 ∧ (Jvm.ClassFile.Reader.u1 : Jvm.ClassFile.Decoder Nat) c p = .ok (o, p + 1) ∧ (Jvm.ClassFile.Reader.u2 : Jvm.ClassFile.Decoder Nat) c (p + 1) = .ok (k, p + 3) := by
  cases l with
  | nil => cases h
  | cons x t =>
    cases t with
    | nil => cases h
    | cons a t =>
      cases t with
      | nil => cases h
      | cons b t =>
        have h : (Nat.beq n 3 && (Nat.beq x.toNat o && Nat.beq (a.toNat * 256 + b.toNat) k)) = true := h
        rw [Bool.and_eq_true, Bool.and_eq_true] at h
        exact ⟨Nat.eq_of_beq_eq_true h.1, by rw [← Nat.eq_of_beq_eq_true h.2.1]; exact qy_u1 (qy_at hl 0), by rw [← Nat.eq_of_beq_eq_true h.2.2]; exact qy_u2 (qy_at hl 1) (qy_at hl 2)⟩
theorem qy_y1s (h : qy_y1 l n o v = true) (hl : c.data.toList.drop p = l) : n = 2 ∧ (Jvm.ClassFile.Reader.u1 : Jvm.ClassFile.Decoder Nat) c p = .ok (o, p + 1) ∧ (Jvm.ClassFile.Reader.s1 : Jvm.ClassFile.Decoder Int) c (p + 1) = .ok (v, p + 2) := by
  cases l with
  | nil => cases h
  | cons x t =>
    cases t with
    | nil => cases h
    | cons a t =>
      have h : (Nat.beq n 2 && (Nat.beq x.toNat o && decide (Jvm.ClassFile.Reader.signed 8 a.toNat = v))) = true := h
      rw [Bool.and_eq_true, Bool.and_eq_true] at h
      exact ⟨Nat.eq_of_beq_eq_true h.1, by rw [← Nat.eq_of_beq_eq_true h.2.1]; exact qy_u1 (qy_at hl 0), by rw [← of_decide_eq_true h.2.2]; exact qy_rm (qy_u1 (qy_at hl 1))⟩
theorem qy_y2s (h : qy_y2 l n o v = true) (hl : c.data.toList.drop p = l) : n = 3 ∧ (Jvm.ClassFile.Reader.u1 : Jvm.ClassFile.Decoder Nat) c p = .ok (o, p + 1) ∧ (Jvm.ClassFile.Reader.s2 : Jvm.ClassFile.Decoder Int) c (p + 1) = .ok (v, p + 3) := by
  cases l with
  | nil => cases h
  | cons x t =>
    cases t with
    | nil => cases h
    | cons a t =>
      cases t with
      | nil => cases h
      | cons b t =>
        have h : (Nat.beq n 3 && (Nat.beq x.toNat o && decide (Jvm.ClassFile.Reader.signed 16 (a.toNat * 256 + b.toNat) = v))) = true := h
        rw [Bool.and_eq_true, Bool.and_eq_true] at h
        exact ⟨Nat.eq_of_beq_eq_true h.1, by rw [← Nat.eq_of_beq_eq_true h.2.1]; exact qy_u1 (qy_at hl 0), by rw [← of_decide_eq_true h.2.2]; exact qy_rm (qy_u2 (qy_at hl 1) (qy_at hl 2))⟩
theorem qy_yis (h : qy_yi l n o k v = true) (hl : c.data.toList.drop p = l) : n = 3 ∧ (Jvm.ClassFile.Reader.u1 : Jvm.ClassFile.Decoder Nat) c p = .ok (o, p + 1) ∧ (Jvm.ClassFile.Reader.u1 : Jvm.ClassFile.Decoder Nat) c (p + 1) = .ok (k, p + 2) ∧ (Jvm.ClassFile.Reader.s1 : Jvm.ClassFile.Decoder Int) c (p + 2) = .ok (v, p + 3) := by
  cases l with
  | nil => cases h
  | cons x t =>
    cases t with
    | nil => cases h
    | cons a t =>
      cases t with
      | nil => cases h
      | cons b t =>
        have h : (Nat.beq n 3 && (Nat.beq x.toNat o && (Nat.beq a.toNat k && decide (Jvm.ClassFile.Reader.signed 8 b.toNat = v)))) = true := h
        rw [Bool.and_eq_true, Bool.and_eq_true, Bool.and_eq_true] at h
        exact ⟨Nat.eq_of_beq_eq_true h.1, by rw [← Nat.eq_of_beq_eq_true h.2.1]; exact qy_u1 (qy_at hl 0), by rw [← Nat.eq_of_beq_eq_true h.2.2.1]; exact qy_u1 (qy_at hl 1), by rw [← of_decide_eq_true h.2.2.2]; exact qy_rm (qy_u1 (qy_at hl 2))⟩
def qy_cd : Jvm.ClassFile.Cond → Nat
  | .eq => 0
  | .ne => 1
  | .lt => 2
  | .ge => 3
  | .gt => 4
  | .le => 5
/-- one row against the bytes from its place on -/
def qy_st (ins : Instr) (n : Nat) (l : List UInt8) : Bool := match ins with
  | .aload_n k => qy_t0 l n (42 + k.val)
  | .iload_n k => qy_t0 l n (26 + k.val)
  | .istore_n k => qy_t0 l n (59 + k.val)
  | .lload_n k => qy_t0 l n (30 + k.val)
  | .iconst v => qy_t0 l n (3 + v).toNat && (decide (-1 ≤ v) && decide (v ≤ 5))
  | .getfield k => qy_t2 l n 180 k
  | .putfield k => qy_t2 l n 181 k
  | .invokevirtual k => qy_t2 l n 182 k
  | .invokestatic k => qy_t2 l n 184 k
  | .bipush v => qy_y1 l n 16 v
  | .sipush v => qy_y2 l n 17 v
  | .goto v => qy_y2 l n 167 v
  | .if_icmp d v => qy_y2 l n (159 + qy_cd d) v
  | .ifCond d v => qy_y2 l n (153 + qy_cd d) v
  | .iload k => qy_t1 l n 21 k
  | .istore k => qy_t1 l n 54 k
  | .lload k => qy_t1 l n 22 k
  | .iinc k v => qy_yi l n 132 k v
  | .iaload => qy_t0 l n 46
  | .iastore => qy_t0 l n 79
  | .iadd => qy_t0 l n 96
  | .isub => qy_t0 l n 100
  | .imul => qy_t0 l n 104
  | .ireturn => qy_t0 l n 172
  | .return_ => qy_t0 l n 177
  | .pop => qy_t0 l n 87
  | .dup => qy_t0 l n 89
  | _ => false
abbrev qy_U1 (c : ByteArray) (p o : Nat) : Prop := (Jvm.ClassFile.Reader.u1 : Jvm.ClassFile.Decoder Nat) c p = .ok (o, p + 1)
theorem qy_f4 {P : Fin 4 → Prop} (h0 : P 0) (h1 : P 1) (h2 : P 2) (h3 : P 3) : ∀ k : Fin 4, P k
  | ⟨0, _⟩ => h0
  | ⟨1, _⟩ => h1
  | ⟨2, _⟩ => h2
  | ⟨3, _⟩ => h3
  | ⟨n + 4, h⟩ => absurd h (by omega)
theorem qy_sts {ins : Instr} (h : qy_st ins n l = true) (hl : c.data.toList.drop p = l) : decode c p = .ok (ins, n) := by
  unfold qy_st at h
  split at h
  · rename_i k
    obtain ⟨rfl, e⟩ := qy_t0s h hl
    clear h
    revert k
    exact qy_f4 (fun (e : qy_U1 c p 42) => qy_dc ((qy_rb e).trans rfl)) (fun (e : qy_U1 c p 43) => qy_dc ((qy_rb e).trans rfl)) (fun (e : qy_U1 c p 44) => qy_dc ((qy_rb e).trans rfl)) (fun (e : qy_U1 c p 45) => qy_dc ((qy_rb e).trans rfl))
  · rename_i k
    obtain ⟨rfl, e⟩ := qy_t0s h hl
    clear h
    revert k
    exact qy_f4 (fun (e : qy_U1 c p 26) => qy_dc ((qy_rb e).trans rfl)) (fun (e : qy_U1 c p 27) => qy_dc ((qy_rb e).trans rfl)) (fun (e : qy_U1 c p 28) => qy_dc ((qy_rb e).trans rfl)) (fun (e : qy_U1 c p 29) => qy_dc ((qy_rb e).trans rfl))
  · rename_i k
    obtain ⟨rfl, e⟩ := qy_t0s h hl
    clear h
    revert k
    exact qy_f4 (fun (e : qy_U1 c p 59) => qy_dc ((qy_rb e).trans rfl)) (fun (e : qy_U1 c p 60) => qy_dc ((qy_rb e).trans rfl)) (fun (e : qy_U1 c p 61) => qy_dc ((qy_rb e).trans rfl)) (fun (e : qy_U1 c p 62) => qy_dc ((qy_rb e).trans rfl))
  · rename_i k
    obtain ⟨rfl, e⟩ := qy_t0s h hl
    clear h
    revert k
    exact qy_f4 (fun (e : qy_U1 c p 30) => qy_dc ((qy_rb e).trans rfl)) (fun (e : qy_U1 c p 31) => qy_dc ((qy_rb e).trans rfl)) (fun (e : qy_U1 c p 32) => qy_dc ((qy_rb e).trans rfl)) (fun (e : qy_U1 c p 33) => qy_dc ((qy_rb e).trans rfl))
  · rename_i w
    rw [Bool.and_eq_true, Bool.and_eq_true] at h
    obtain ⟨h1, h2, h3⟩ := h
    have h2 := of_decide_eq_true h2
    have h3 := of_decide_eq_true h3
    obtain ⟨rfl, e⟩ := qy_t0s h1 hl
    clear h1
    rcases (show w = -1 ∨ w = 0 ∨ w = 1 ∨ w = 2 ∨ w = 3 ∨ w = 4 ∨ w = 5 by omega) with q | q | q | q | q | q | q
    · subst q; have e : qy_U1 c p 2 := e; exact qy_dc ((qy_rb e).trans rfl)
    · subst q; have e : qy_U1 c p 3 := e; exact qy_dc ((qy_rb e).trans rfl)
    · subst q; have e : qy_U1 c p 4 := e; exact qy_dc ((qy_rb e).trans rfl)
    · subst q; have e : qy_U1 c p 5 := e; exact qy_dc ((qy_rb e).trans rfl)
    · subst q; have e : qy_U1 c p 6 := e; exact qy_dc ((qy_rb e).trans rfl)
    · subst q; have e : qy_U1 c p 7 := e; exact qy_dc ((qy_rb e).trans rfl)
    · subst q; have e : qy_U1 c p 8 := e; exact qy_dc ((qy_rb e).trans rfl)
  · obtain ⟨rfl, e, e2⟩ := qy_t2s h hl; exact qy_dc ((qy_rb e).trans ((qy_rb e2).trans rfl))
  · obtain ⟨rfl, e, e2⟩ := qy_t2s h hl; exact qy_dc ((qy_rb e).trans ((qy_rb e2).trans rfl))
  · obtain ⟨rfl, e, e2⟩ := qy_t2s h hl; exact qy_dc ((qy_rb e).trans ((qy_rb e2).trans rfl))
  · obtain ⟨rfl, e, e2⟩ := qy_t2s h hl; exact qy_dc ((qy_rb e).trans ((qy_rb e2).trans rfl))
  · obtain ⟨rfl, e, e2⟩ := qy_y1s h hl; exact qy_dc ((qy_rb e).trans ((qy_rb e2).trans rfl))
  · obtain ⟨rfl, e, e2⟩ := qy_y2s h hl; exact qy_dc ((qy_rb e).trans ((qy_rb e2).trans rfl))
  · obtain ⟨rfl, e, e2⟩ := qy_y2s h hl; exact qy_dc ((qy_rb e).trans ((qy_rb e2).trans rfl))
  · rename_i d w
    obtain ⟨rfl, e, e2⟩ := qy_y2s h hl
    clear h
    cases d
    · have e : qy_U1 c p 159 := e; exact qy_dc ((qy_rb e).trans ((qy_rb e2).trans rfl))
    · have e : qy_U1 c p 160 := e; exact qy_dc ((qy_rb e).trans ((qy_rb e2).trans rfl))
    · have e : qy_U1 c p 161 := e; exact qy_dc ((qy_rb e).trans ((qy_rb e2).trans rfl))
    · have e : qy_U1 c p 162 := e; exact qy_dc ((qy_rb e).trans ((qy_rb e2).trans rfl))
    · have e : qy_U1 c p 163 := e; exact qy_dc ((qy_rb e).trans ((qy_rb e2).trans rfl))
    · have e : qy_U1 c p 164 := e; exact qy_dc ((qy_rb e).trans ((qy_rb e2).trans rfl))
  · rename_i d w
    obtain ⟨rfl, e, e2⟩ := qy_y2s h hl
    clear h
    cases d
    · have e : qy_U1 c p 153 := e; exact qy_dc ((qy_rb e).trans ((qy_rb e2).trans rfl))
    · have e : qy_U1 c p 154 := e; exact qy_dc ((qy_rb e).trans ((qy_rb e2).trans rfl))
    · have e : qy_U1 c p 155 := e; exact qy_dc ((qy_rb e).trans ((qy_rb e2).trans rfl))
    · have e : qy_U1 c p 156 := e; exact qy_dc ((qy_rb e).trans ((qy_rb e2).trans rfl))
    · have e : qy_U1 c p 157 := e; exact qy_dc ((qy_rb e).trans ((qy_rb e2).trans rfl))
    · have e : qy_U1 c p 158 := e; exact qy_dc ((qy_rb e).trans ((qy_rb e2).trans rfl))
  · obtain ⟨rfl, e, e2⟩ := qy_t1s h hl; exact qy_dc ((qy_rb e).trans ((qy_rb e2).trans rfl))
  · obtain ⟨rfl, e, e2⟩ := qy_t1s h hl; exact qy_dc ((qy_rb e).trans ((qy_rb e2).trans rfl))
  · obtain ⟨rfl, e, e2⟩ := qy_t1s h hl; exact qy_dc ((qy_rb e).trans ((qy_rb e2).trans rfl))
  · obtain ⟨rfl, e, e2, e3⟩ := qy_yis h hl; exact qy_dc ((qy_rb e).trans ((qy_rb e2).trans ((qy_rb e3).trans rfl)))
  · obtain ⟨rfl, e⟩ := qy_t0s h hl; exact qy_dc ((qy_rb e).trans rfl)
  · obtain ⟨rfl, e⟩ := qy_t0s h hl; exact qy_dc ((qy_rb e).trans rfl)
  · obtain ⟨rfl, e⟩ := qy_t0s h hl; exact qy_dc ((qy_rb e).trans rfl)
  · obtain ⟨rfl, e⟩ := qy_t0s h hl; exact qy_dc ((qy_rb e).trans rfl)
  · obtain ⟨rfl, e⟩ := qy_t0s h hl; exact qy_dc ((qy_rb e).trans rfl)
  · obtain ⟨rfl, e⟩ := qy_t0s h hl; exact qy_dc ((qy_rb e).trans rfl)
  · obtain ⟨rfl, e⟩ := qy_t0s h hl; exact qy_dc ((qy_rb e).trans rfl)
  · obtain ⟨rfl, e⟩ := qy_t0s h hl; exact qy_dc ((qy_rb e).trans rfl)
  · obtain ⟨rfl, e⟩ := qy_t0s h hl; exact qy_dc ((qy_rb e).trans rfl)
  · cases h
/-- all rows, the bytes walked once -/
def qy_wk (c : ByteArray) : List px_Row → Nat → List UInt8 → Bool
  | [], _, _ => true
  | q :: r, p, l => (qy_st q.2.1 q.2.2 (l.drop (q.1 - p)) || px_rowOk c q) && (Nat.ble p q.1 && qy_wk c r q.1 (l.drop (q.1 - p)))
theorem qy_wks : ∀ (rs : List px_Row) (p : Nat) (l : List UInt8), c.data.toList.drop p = l → qy_wk c rs p l = true → ∀ q ∈ rs, px_rowOk c q = true := by
  intro rs
  induction rs with
  | nil => intro p l _ _ q hq; cases hq
  | cons q r ih =>
    intro p l hl h q' hq'
    have h : ((qy_st q.2.1 q.2.2 (l.drop (q.1 - p)) || px_rowOk c q) && (Nat.ble p q.1 && qy_wk c r q.1 (l.drop (q.1 - p)))) = true := h
    rw [Bool.and_eq_true, Bool.and_eq_true] at h
    obtain ⟨h1, h2, h3⟩ := h
    have h2 := Nat.le_of_ble_eq_true h2
    have hd : c.data.toList.drop q.1 = l.drop (q.1 - p) := by
      rw [← hl, List.drop_drop]
      congr 1
      omega
    rcases List.mem_cons.mp hq' with e | e
    · rw [e]
      rw [Bool.or_eq_true] at h1
      rcases h1 with g | g
      · exact decide_eq_true (qy_sts g hd)
      · exact g
    · exact ih q.1 _ hd h3 q' e
def qy_fl {α : Type} : Lean.RArray α → List α → List α
  | .leaf a, r => a :: r
  | .branch _ x y, r => qy_fl x (qy_fl y r)
theorem qy_fls {P : α → Bool} : ∀ (t : Lean.RArray α) (r : List α), (∀ q ∈ qy_fl t r, P q = true) → px_all P t = true ∧ ∀ q ∈ r, P q = true
  | .leaf a, r, h => ⟨h a (List.mem_cons.mpr (Or.inl rfl)), fun q hq => h q (List.mem_cons.mpr (Or.inr hq))⟩
  | .branch k x y, r, h => by
    obtain ⟨h1, h2⟩ := qy_fls x (qy_fl y r) h
    obtain ⟨h3, h4⟩ := qy_fls y r h2
    exact ⟨px_allB h1 h3, h4⟩
theorem qy_ok {t : Lean.RArray px_Row} (h : qy_wk c (qy_fl t []) 0 c.data.toList = true) : px_all (px_rowOk c) t = true := (qy_fls t [] (qy_wks _ 0 _ rfl h)).1
end PXW
