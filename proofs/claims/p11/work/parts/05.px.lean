/-! THE PURE MACHINE: what the methods do, on a heap of numbered cells. A cell is an array (.inl (type, length)) or an object (.inr class); its whole numbers stand in I, its longs in J, its references (to cells, by number) in P, by cell and place. Cells from px_SC on are old arrays of ints that are read only (the script: px_SC). -/
abbrev px_Sh : Type := (Nat × Nat) ⊕ Nat
abbrev px_H : Type := List px_Sh × (Nat → Nat → Int32) × (Nat → Nat → Int64) × (Nat → Nat → Option Nat)
abbrev px_L : Type := List (Nat × Value)
abbrev px_S : Type := Nat × px_L × List Value × px_H
abbrev px_RO : Type := List (Nat × (Nat → Int32))
def px_SC : Nat := 1000000
def px_up {α : Type} (f : Nat → Nat → α) (k i : Nat) (x : α) : Nat → Nat → α := fun a b => cond (Nat.beq a k) (cond (Nat.beq b i) x (f a b)) (f a b)
def px_rw {α : Type} (f : Nat → Nat → α) (k : Nat) (g : Nat → α) : Nat → Nat → α := fun a b => cond (Nat.beq a k) (g b) (f a b)
def px_tyA : List FieldType := [.int, .long, .boolean, .object "ElevenBullocks$Script"]
def px_n (ci : Nat) : Nat := match vwCl[ci]? with
  | some (_, _, N) => N
  | none => 0
/-- how many slots the cells have -/
def px_sl : List px_Sh → Nat
  | [] => 0
  | .inl (_, n) :: r => n + px_sl r
  | .inr ci :: r => px_n ci + px_sl r
/-- the value of a field -/
def px_fv (I : Nat → Int32) (J : Nat → Int64) (P : Nat → Option Nat) (f : Nat) : FieldType → Value
  | .int => .int (I f)
  | .boolean => .int (I f)
  | .long => .long (J f)
  | _ => va_rf (P f)
def px_m (k : Nat) : px_MI := px_mT.get k
def px_codes (k : Nat) : Lean.RArray px_Row := (px_m k).2.2.2.2.2.2.2.2
def px_fetch (k pc : Nat) : Option (Instr × Nat) := let q := (px_codes k).get pc; bif Nat.beq q.1 pc then some q.2 else none
def px_key (k idx : Nat) : Nat := (px_m k).2.2.1 * 1000 + idx
def px_fld (k idx : Nat) : Option (Nat × Nat) := let q := px_fldT.get (px_key k idx); bif Nat.beq q.1 (px_key k idx) && Nat.blt idx 1000 then some (q.2.1, q.2.2.1) else none
def px_cls (k idx : Nat) : Option Nat := let q := px_clsT.get (px_key k idx); bif Nat.beq q.1 (px_key k idx) && Nat.blt idx 1000 then some q.2.1 else none
def px_int (k idx : Nat) : Option Int32 := let q := px_intT.get (px_key k idx); bif Nat.beq q.1 (px_key k idx) && Nat.blt idx 1000 then some q.2.1 else none
def px_lng (k idx : Nat) : Option Int64 := let q := px_lngT.get (px_key k idx); bif Nat.beq q.1 (px_key k idx) && Nat.blt idx 1000 then some q.2.1 else none
def px_call (k idx : Nat) : Option (Nat × Nat) := let q := px_clT.get (px_key k idx); bif Nat.beq q.1 (px_key k idx) && Nat.blt idx 1000 then some (q.2.1, q.2.2.1) else none
def px_ld (lv : px_L) (i : Nat) : Option Value := (lv.find? (fun q => q.1 == i)).map (fun q => q.2)
def px_st1 (lv : px_L) (i : Nat) (v : Value) : px_L := (i, v) :: lv.filter (fun q => !(q.1 == i) && !(q.1 + 1 == i && q.2.category == 2))
def px_st2 (lv : px_L) (i : Nat) (v : Value) : px_L := (i, v) :: lv.filter (fun q => !(q.1 == i) && (!(q.1 == i + 1) && !(q.1 + 1 == i && q.2.category == 2)))
def px_maxL (k : Nat) : Nat := (px_m k).2.2.2.2.1
/-- storing a value of the wanted kind (0 int, 1 long, 2 reference) -/
def px_sto (k : Nat) (lv : px_L) (i : Nat) (kd : Nat) (v : Value) : Option px_L := match kd, v with
  | 0, .int x => bif Nat.blt i (px_maxL k) then some (px_st1 lv i (.int x)) else none
  | 1, .long x => bif Nat.blt (i + 1) (px_maxL k) then some (px_st2 lv i (.long x)) else none
  | 2, .ref x => bif Nat.blt i (px_maxL k) then some (px_st1 lv i (.ref x)) else none
  | 2, .null => bif Nat.blt i (px_maxL k) then some (px_st1 lv i .null) else none
  | _, _ => none
/-- loading a value of the wanted kind -/
def px_get (lv : px_L) (i : Nat) (kd : Nat) : Option Value := match kd, px_ld lv i with
  | 0, some (.int x) => some (.int x)
  | 1, some (.long x) => some (.long x)
  | 2, some (.ref x) => some (.ref x)
  | 2, some .null => some .null
  | _, _ => none
def px_tg (pc : Nat) (off : Int) : Option Nat := match (pc : Int) + off with
  | .ofNat t => some t
  | .negSucc _ => none
def px_br (c : ClassFile.Cond) (x y : Int32) (t f : Nat) : Nat := match c with
  | .eq => if x = y then t else f
  | .ne => if x = y then f else t
  | .lt => if x < y then t else f
  | .ge => if y ≤ x then t else f
  | .gt => if y < x then t else f
  | .le => if x ≤ y then t else f
def px_ari (ins : Instr) (x y : Int32) : Option Int32 := match ins with
  | .iadd => some (x + y)
  | .isub => some (x - y)
  | .imul => some (x * y)
  | .idiv => if y = 0 then none else some (x / y)
  | .irem => if y = 0 then none else some (x - x / y * y)
  | .iand => some (x &&& y)
  | .ior => some (x ||| y)
  | .ixor => some (x ^^^ y)
  | .ishl => some (x <<< (y &&& 31))
  | .ishr => some (x >>> (y &&& 31))
  | .iushr => some (x.toUInt32 >>> (y.toUInt32 &&& Int32.toUInt32 31)).toInt32
  | _ => none
def px_arl (ins : Instr) (x y : Int64) : Option Int64 := match ins with
  | .ladd => some (x + y)
  | .lsub => some (x - y)
  | .lmul => some (x * y)
  | .ldiv => if y = 0 then none else some (x / y)
  | .lrem => if y = 0 then none else some (x - x / y * y)
  | .lor => some (x ||| y)
  | _ => none
/-- writing a field -/
def px_put (h : px_H) (k f : Nat) (ty : FieldType) (v : Value) : Option px_H := match ty, v with
  | .int, .int x => some (h.1, px_up h.2.1 k f x, h.2.2.1, h.2.2.2)
  | .boolean, .int x => if x = 0 ∨ x = 1 then some (h.1, px_up h.2.1 k f x, h.2.2.1, h.2.2.2) else none
  | .long, .long x => some (h.1, h.2.1, px_up h.2.2.1 k f x, h.2.2.2)
  | .object _, .ref a => some (h.1, h.2.1, h.2.2.1, px_up h.2.2.2 k f (some a))
  | .object _, .null => some (h.1, h.2.1, h.2.2.1, px_up h.2.2.2 k f none)
  | .array _, .ref a => some (h.1, h.2.1, h.2.2.1, px_up h.2.2.2 k f (some a))
  | .array _, .null => some (h.1, h.2.1, h.2.2.1, px_up h.2.2.2 k f none)
  | _, _ => none
def px_final (ci f : Nat) : Bool := match vwCl[ci]? with
  | some (_, T, _) => (T f).2.2.2
  | none => false
/-- a final field is written in a constructor of its own class alone -/
def px_mayPut (k ci f : Nat) : Bool := match vwCl[ci]? with
  | some (_, T, _) => !(T f).2.2.2 || ((px_m k).2.1.name == "<init>" && (T f).1 == px_on (px_m k).2.2.1)
  | none => false
def px_new (h : px_H) (sh : px_Sh) : px_H := (h.1 ++ [sh], px_rw h.2.1 h.1.length (fun _ => 0), px_rw h.2.2.1 h.1.length (fun _ => 0), px_rw h.2.2.2 h.1.length (fun _ => none))
def px_in (i : Int32) (n : Nat) : Bool := decide (¬ (i < 0 ∨ n ≤ i.toNatClampNeg))
def px_psh (pc : Nat) (lv : px_L) (st : List Value) (h : px_H) (v : Option Value) : Option px_S := match v with
  | some v => some (pc, lv, v :: st, h)
  | none => none
def px_jmp (lv : px_L) (st : List Value) (h : px_H) (t : Option Nat) : Option px_S := match t with
  | some t => some (t, lv, st, h)
  | none => none
def px_oSto (k pc : Nat) (lv : px_L) (st : List Value) (h : px_H) (i kd : Nat) : Option px_S := match st with
  | v :: st => match px_sto k lv i kd v with
    | some lv => some (pc, lv, st, h)
    | none => none
  | [] => none
def px_oInc (k pc : Nat) (lv : px_L) (st : List Value) (h : px_H) (i : Nat) (n : Int) : Option px_S := match px_ld lv i with
  | some (.int x) => bif Nat.blt i (px_maxL k) then some (pc, px_st1 lv i (.int (x + Int32.ofInt n)), st, h) else none
  | _ => none
def px_oAri (ins : Instr) (pc : Nat) (lv : px_L) (st : List Value) (h : px_H) : Option px_S := match st with
  | .int y :: .int x :: st => match px_ari ins x y with
    | some v => some (pc, lv, .int v :: st, h)
    | none => none
  | _ => none
def px_oArl (ins : Instr) (pc : Nat) (lv : px_L) (st : List Value) (h : px_H) : Option px_S := match st with
  | .long y :: .long x :: st => match px_arl ins x y with
    | some v => some (pc, lv, .long v :: st, h)
    | none => none
  | _ => none
def px_oIneg (pc : Nat) (lv : px_L) (st : List Value) (h : px_H) : Option px_S := match st with
  | .int x :: st => some (pc, lv, .int (-x) :: st, h)
  | _ => none
def px_oLneg (pc : Nat) (lv : px_L) (st : List Value) (h : px_H) : Option px_S := match st with
  | .long x :: st => some (pc, lv, .long (-x) :: st, h)
  | _ => none
def px_oI2l (pc : Nat) (lv : px_L) (st : List Value) (h : px_H) : Option px_S := match st with
  | .int x :: st => some (pc, lv, .long x.toInt64 :: st, h)
  | _ => none
def px_oL2i (pc : Nat) (lv : px_L) (st : List Value) (h : px_H) : Option px_S := match st with
  | .long x :: st => some (pc, lv, .int x.toInt32 :: st, h)
  | _ => none
def px_oLcmp (pc : Nat) (lv : px_L) (st : List Value) (h : px_H) : Option px_S := match st with
  | .long y :: .long x :: st => some (pc, lv, .int (lg_cmp x y) :: st, h)
  | _ => none
def px_oLshl (pc : Nat) (lv : px_L) (st : List Value) (h : px_H) : Option px_S := match st with
  | .int y :: .long x :: st => some (pc, lv, .long (x <<< (y.toInt64 &&& 63)) :: st, h)
  | _ => none
def px_oLshr (pc : Nat) (lv : px_L) (st : List Value) (h : px_H) : Option px_S := match st with
  | .int y :: .long x :: st => some (pc, lv, .long (x >>> (y.toInt64 &&& 63)) :: st, h)
  | _ => none
def px_oDup (pc : Nat) (lv : px_L) (st : List Value) (h : px_H) : Option px_S := match st with
  | v :: st => bif Nat.beq v.category 1 then some (pc, lv, v :: v :: st, h) else none
  | [] => none
def px_oPop (n pc : Nat) (lv : px_L) (st : List Value) (h : px_H) : Option px_S := match st with
  | v :: st => bif Nat.beq v.category n then some (pc, lv, st, h) else none
  | [] => none
def px_oDup2 (pc : Nat) (lv : px_L) (st : List Value) (h : px_H) : Option px_S := match st with
  | v :: w :: st => bif Nat.beq v.category 1 && Nat.beq w.category 1 then some (pc, lv, v :: w :: v :: w :: st, h) else bif Nat.beq v.category 2 then some (pc, lv, v :: v :: w :: st, h) else none
  | [v] => bif Nat.beq v.category 2 then some (pc, lv, [v, v], h) else none
  | [] => none
def px_oIf (c : ClassFile.Cond) (off : Int) (pc : Nat) (lv : px_L) (st : List Value) (h : px_H) : Option px_S := match st with
  | .int x :: st => match px_tg pc off with
    | some t => some (px_br c x 0 t (pc + 3), lv, st, h)
    | none => none
  | _ => none
def px_oIcmp (c : ClassFile.Cond) (off : Int) (pc : Nat) (lv : px_L) (st : List Value) (h : px_H) : Option px_S := match st with
  | .int y :: .int x :: st => match px_tg pc off with
    | some t => some (px_br c x y t (pc + 3), lv, st, h)
    | none => none
  | _ => none
def px_oNull (off : Int) (pc : Nat) (lv : px_L) (st : List Value) (h : px_H) : Option px_S := match st with
  | .null :: st => px_jmp lv st h (px_tg pc off)
  | .ref _ :: st => some (pc + 3, lv, st, h)
  | _ => none
def px_oNonnull (off : Int) (pc : Nat) (lv : px_L) (st : List Value) (h : px_H) : Option px_S := match st with
  | .ref _ :: st => px_jmp lv st h (px_tg pc off)
  | .null :: st => some (pc + 3, lv, st, h)
  | _ => none
def px_oTab (dflt lo hi : Int) (offs : Array Int) (pc : Nat) (lv : px_L) (st : List Value) (h : px_H) : Option px_S := match st with
  | .int x :: st => if x.toInt < lo ∨ hi < x.toInt then px_jmp lv st h (px_tg pc dflt) else match offs[(x.toInt - lo).toNat]? with
    | some off => px_jmp lv st h (px_tg pc off)
    | none => none
  | _ => none
def px_oLook (dflt : Int) (ps : Array (Int × Int)) (pc : Nat) (lv : px_L) (st : List Value) (h : px_H) : Option px_S := match st with
  | .int x :: st => bif (ps.toList.zip (ps.toList.drop 1)).all (fun (a, next) => a.1 < next.1) then px_jmp lv st h (px_tg pc (Op.lookupswitch.offset ps.toList dflt x.toInt)) else none
  | _ => none
def px_oGet (k i pc : Nat) (lv : px_L) (st : List Value) (h : px_H) : Option px_S := match st with
  | .ref a :: st => match px_fld k i, h.1[a]? with
    | some (ci, f), some (.inr ci') => bif Nat.beq ci ci' && Nat.blt a px_SC then some (pc, lv, px_fv (h.2.1 a) (h.2.2.1 a) (h.2.2.2 a) f (px_ty ci f) :: st, h) else none
    | _, _ => none
  | _ => none
def px_oPut (k i pc : Nat) (lv : px_L) (st : List Value) (h : px_H) : Option px_S := match st with
  | v :: .ref a :: st => match px_fld k i, h.1[a]? with
    | some (ci, f), some (.inr ci') => bif Nat.beq ci ci' && Nat.blt a px_SC && px_mayPut k ci f then (match px_put h a f (px_ty ci f) v with
      | some h => some (pc, lv, st, h)
      | none => none) else none
    | _, _ => none
  | _ => none
def px_oIald (ro : px_RO) (pc : Nat) (lv : px_L) (st : List Value) (h : px_H) : Option px_S := match st with
  | .int i :: .ref a :: st => bif Nat.ble px_SC a then (match ro[a - px_SC]? with
      | some (n, xs) => bif px_in i n then some (pc, lv, .int (xs i.toNatClampNeg) :: st, h) else none
      | none => none)
    else match h.1[a]? with
      | some (.inl (0, n)) => bif px_in i n then some (pc, lv, .int (h.2.1 a i.toNatClampNeg) :: st, h) else none
      | _ => none
  | _ => none
def px_oZald (pc : Nat) (lv : px_L) (st : List Value) (h : px_H) : Option px_S := match st with
  | .int i :: .ref a :: st => match h.1[a]? with
      | some (.inl (2, n)) => bif px_in i n && Nat.blt a px_SC then some (pc, lv, .int (h.2.1 a i.toNatClampNeg) :: st, h) else none
      | _ => none
  | _ => none
def px_oLald (pc : Nat) (lv : px_L) (st : List Value) (h : px_H) : Option px_S := match st with
  | .int i :: .ref a :: st => match h.1[a]? with
      | some (.inl (1, n)) => bif px_in i n && Nat.blt a px_SC then some (pc, lv, .long (h.2.2.1 a i.toNatClampNeg) :: st, h) else none
      | _ => none
  | _ => none
def px_oAald (pc : Nat) (lv : px_L) (st : List Value) (h : px_H) : Option px_S := match st with
  | .int i :: .ref a :: st => match h.1[a]? with
      | some (.inl (3, n)) => bif px_in i n && Nat.blt a px_SC then some (pc, lv, va_rf (h.2.2.2 a i.toNatClampNeg) :: st, h) else none
      | _ => none
  | _ => none
def px_oIast (pc : Nat) (lv : px_L) (st : List Value) (h : px_H) : Option px_S := match st with
  | .int x :: .int i :: .ref a :: st => match h.1[a]? with
      | some (.inl (0, n)) => bif px_in i n && Nat.blt a px_SC then some (pc, lv, st, (h.1, px_up h.2.1 a i.toNatClampNeg x, h.2.2.1, h.2.2.2)) else none
      | _ => none
  | _ => none
def px_oZast (pc : Nat) (lv : px_L) (st : List Value) (h : px_H) : Option px_S := match st with
  | .int x :: .int i :: .ref a :: st => match h.1[a]? with
      | some (.inl (2, n)) => bif px_in i n && Nat.blt a px_SC then some (pc, lv, st, (h.1, px_up h.2.1 a i.toNatClampNeg (x &&& 1), h.2.2.1, h.2.2.2)) else none
      | _ => none
  | _ => none
def px_oLast (pc : Nat) (lv : px_L) (st : List Value) (h : px_H) : Option px_S := match st with
  | .long x :: .int i :: .ref a :: st => match h.1[a]? with
      | some (.inl (1, n)) => bif px_in i n && Nat.blt a px_SC then some (pc, lv, st, (h.1, h.2.1, px_up h.2.2.1 a i.toNatClampNeg x, h.2.2.2)) else none
      | _ => none
  | _ => none
def px_oAast (pc : Nat) (lv : px_L) (st : List Value) (h : px_H) : Option px_S := match st with
  | .ref b :: .int i :: .ref a :: st => match h.1[a]?, h.1[b]? with
      | some (.inl (3, n)), some (.inr 7) => bif px_in i n && Nat.blt a px_SC && Nat.blt b px_SC then some (pc, lv, st, (h.1, h.2.1, h.2.2.1, px_up h.2.2.2 a i.toNatClampNeg (some b))) else none
      | _, _ => none
  | _ => none
def px_oLen (ro : px_RO) (pc : Nat) (lv : px_L) (st : List Value) (h : px_H) : Option px_S := match st with
  | .ref a :: st => bif Nat.ble px_SC a then (match ro[a - px_SC]? with
      | some (n, _) => some (pc, lv, .int (Int32.ofNat n) :: st, h)
      | none => none)
    else match h.1[a]? with
      | some (.inl (t, n)) => bif Nat.blt t 4 then some (pc, lv, .int (Int32.ofNat n) :: st, h) else none
      | _ => none
  | _ => none
def px_oNew (k i pc : Nat) (lv : px_L) (st : List Value) (h : px_H) : Option px_S := match px_cls k i with
  | some ci => bif Nat.blt h.1.length px_SC then some (pc, lv, .ref h.1.length :: st, px_new h (.inr ci)) else none
  | none => none
def px_oNewa (t pc : Nat) (lv : px_L) (st : List Value) (h : px_H) : Option px_S := match st with
  | .int n :: st => bif Nat.blt h.1.length px_SC && decide (¬ n < 0) && Nat.ble n.toNatClampNeg 100000 then some (pc, lv, .ref h.1.length :: st, px_new h (.inl (t, n.toNatClampNeg))) else none
  | _ => none
def px_oAnew (k i pc : Nat) (lv : px_L) (st : List Value) (h : px_H) : Option px_S := match px_cls k i with
  | some 7 => px_oNewa 3 pc lv st h
  | _ => none
def px_oSp (pc : Nat) (lv : px_L) (st : List Value) (h : px_H) : Option px_S := match st with
  | .ref _ :: st => bif Nat.ble (st.map fun v => v.category).sum 8 then some (pc, lv, st, h) else none
  | _ => none
def px_oCpy (pc : Nat) (lv : px_L) (st : List Value) (h : px_H) : Option px_S := match st with
  | .int n :: .int dp :: .ref b :: .int sp :: .ref a :: st => match h.1[a]?, h.1[b]? with
    | some (.inl (0, n0)), some (.inl (0, n1)) => bif Nat.ble (st.map fun v => v.category).sum 8 && decide (¬ sp < 0) && decide (¬ dp < 0) && decide (¬ n < 0) && Nat.ble (sp.toNatClampNeg + n.toNatClampNeg) n0 && Nat.ble (dp.toNatClampNeg + n.toNatClampNeg) n1 && Nat.blt a px_SC && Nat.blt b px_SC
      then some (pc, lv, st, (h.1, px_rw h.2.1 b (va_cpy (h.2.1 a) (h.2.1 b) sp.toNatClampNeg dp.toNatClampNeg n.toNatClampNeg), h.2.2.1, h.2.2.2)) else none
    | _, _ => none
  | _ => none
def px_oMi (kd pc : Nat) (lv : px_L) (st : List Value) (h : px_H) : Option px_S := match st with
  | .int y :: .int x :: st => bif Nat.ble (st.map fun v => v.category).sum 8 then some (pc, lv, .int (bif Nat.beq kd 6 then (if x < y then y else x) else (if y < x then y else x)) :: st, h) else none
  | _ => none
def px_oMl (kd pc : Nat) (lv : px_L) (st : List Value) (h : px_H) : Option px_S := match st with
  | .long y :: .long x :: st => bif Nat.ble (st.map fun v => v.category).sum 8 then some (pc, lv, .long (bif Nat.beq kd 8 then (if y < x then x else y) else (if y < x then y else x)) :: st, h) else none
  | _ => none
def px_oSt (kd pc : Nat) (lv : px_L) (st : List Value) (h : px_H) : Option px_S := match kd with
  | 5 => px_oCpy pc lv st h
  | 6 => px_oMi 6 pc lv st h
  | 7 => px_oMi 7 pc lv st h
  | 8 => px_oMl 8 pc lv st h
  | 9 => px_oMl 9 pc lv st h
  | _ => none
/-- a static table of Reader: SHAPES, LAWS_OF_NAMES -/
def px_stc (k i : Nat) : Option Value := bif Nat.beq (px_key k i) 6101 && Nat.blt i 1000 then some (.ref (px_SC + 1)) else bif Nat.beq (px_key k i) 6134 && Nat.blt i 1000 then some (.ref (px_SC + 2)) else none
/-- a constant: a number, or the text of Reader -/
def px_ldcv (k i : Nat) : Option Value := match px_int k i with
  | some x => some (.int x)
  | none => bif Nat.beq (px_key k i) 6177 && Nat.blt i 1000 then some (.ref (px_SC + 3)) else none
/-- length and charAt of the text of Reader -/
def px_oStr (k i pc : Nat) (lv : px_L) (st : List Value) (h : px_H) : Option px_S :=
  bif Nat.beq (px_key k i) 6179 && Nat.blt i 1000 then (match st with
    | .ref a :: st => bif Nat.beq a (px_SC + 3) && Nat.ble (st.map fun v => v.category).sum 8 then some (pc, lv, .int 180 :: st, h) else none
    | _ => none)
  else bif Nat.beq (px_key k i) 6183 && Nat.blt i 1000 then (match st with
    | .int x :: .ref a :: st => bif Nat.beq a (px_SC + 3) && px_in x 180 && Nat.ble (st.map fun v => v.category).sum 8 then some (pc, lv, .int (ps_byt.getD x.toNatClampNeg 0) :: st, h) else none
    | _ => none)
  else none
/-- an instruction that is no call of a method with code and no return -/
def px_op (ro : px_RO) (k : Nat) (ins : Instr) (len pc : Nat) (lv : px_L) (st : List Value) (h : px_H) : Option px_S := match ins with
  | .iconst n => some (pc + len, lv, .int (Int32.ofInt n) :: st, h)
  | .bipush n => some (pc + len, lv, .int (Int8.ofInt n).toInt32 :: st, h)
  | .sipush n => some (pc + len, lv, .int (Int16.ofInt n).toInt32 :: st, h)
  | .lconst n => some (pc + len, lv, .long (Int64.ofNat n.val) :: st, h)
  | .aconst_null => some (pc + len, lv, .null :: st, h)
  | .ldc i => px_psh (pc + len) lv st h (px_ldcv k i)
  | .ldc_w i => px_psh (pc + len) lv st h ((px_int k i).map Value.int)
  | .ldc2_w i => px_psh (pc + len) lv st h ((px_lng k i).map Value.long)
  | .iload i => px_psh (pc + len) lv st h (px_get lv i 0)
  | .iload_n i => px_psh (pc + len) lv st h (px_get lv i.val 0)
  | .lload i => px_psh (pc + len) lv st h (px_get lv i 1)
  | .lload_n i => px_psh (pc + len) lv st h (px_get lv i.val 1)
  | .aload i => px_psh (pc + len) lv st h (px_get lv i 2)
  | .aload_n i => px_psh (pc + len) lv st h (px_get lv i.val 2)
  | .istore i => px_oSto k (pc + len) lv st h i 0
  | .istore_n i => px_oSto k (pc + len) lv st h i.val 0
  | .lstore i => px_oSto k (pc + len) lv st h i 1
  | .lstore_n i => px_oSto k (pc + len) lv st h i.val 1
  | .astore i => px_oSto k (pc + len) lv st h i 2
  | .astore_n i => px_oSto k (pc + len) lv st h i.val 2
  | .iinc i n => px_oInc k (pc + len) lv st h i n
  | .iadd => px_oAri .iadd (pc + len) lv st h
  | .isub => px_oAri .isub (pc + len) lv st h
  | .imul => px_oAri .imul (pc + len) lv st h
  | .idiv => px_oAri .idiv (pc + len) lv st h
  | .irem => px_oAri .irem (pc + len) lv st h
  | .iand => px_oAri .iand (pc + len) lv st h
  | .ior => px_oAri .ior (pc + len) lv st h
  | .ixor => px_oAri .ixor (pc + len) lv st h
  | .ishl => px_oAri .ishl (pc + len) lv st h
  | .ishr => px_oAri .ishr (pc + len) lv st h
  | .iushr => px_oAri .iushr (pc + len) lv st h
  | .ladd => px_oArl .ladd (pc + len) lv st h
  | .lsub => px_oArl .lsub (pc + len) lv st h
  | .lmul => px_oArl .lmul (pc + len) lv st h
  | .ldiv => px_oArl .ldiv (pc + len) lv st h
  | .lrem => px_oArl .lrem (pc + len) lv st h
  | .lor => px_oArl .lor (pc + len) lv st h
  | .ineg => px_oIneg (pc + len) lv st h
  | .lneg => px_oLneg (pc + len) lv st h
  | .i2l => px_oI2l (pc + len) lv st h
  | .l2i => px_oL2i (pc + len) lv st h
  | .lcmp => px_oLcmp (pc + len) lv st h
  | .lshl => px_oLshl (pc + len) lv st h
  | .lshr => px_oLshr (pc + len) lv st h
  | .dup => px_oDup (pc + len) lv st h
  | .pop => px_oPop 1 (pc + len) lv st h
  | .pop2 => px_oPop 2 (pc + len) lv st h
  | .dup2 => px_oDup2 (pc + len) lv st h
  | .ifCond c off => px_oIf c off pc lv st h
  | .if_icmp c off => px_oIcmp c off pc lv st h
  | .ifnull off => px_oNull off pc lv st h
  | .ifnonnull off => px_oNonnull off pc lv st h
  | .goto off => px_jmp lv st h (px_tg pc off)
  | .tableswitch dflt lo hi offs => px_oTab dflt lo hi offs pc lv st h
  | .lookupswitch dflt ps => px_oLook dflt ps pc lv st h
  | .getfield i => px_oGet k i (pc + len) lv st h
  | .putfield i => px_oPut k i (pc + len) lv st h
  | .iaload => px_oIald ro (pc + len) lv st h
  | .baload => px_oZald (pc + len) lv st h
  | .laload => px_oLald (pc + len) lv st h
  | .aaload => px_oAald (pc + len) lv st h
  | .iastore => px_oIast (pc + len) lv st h
  | .bastore => px_oZast (pc + len) lv st h
  | .lastore => px_oLast (pc + len) lv st h
  | .aastore => px_oAast (pc + len) lv st h
  | .arraylength => px_oLen ro (pc + len) lv st h
  | .new i => px_oNew k i (pc + len) lv st h
  | .newarray .int => px_oNewa 0 (pc + len) lv st h
  | .newarray .long => px_oNewa 1 (pc + len) lv st h
  | .newarray .boolean => px_oNewa 2 (pc + len) lv st h
  | .anewarray i => px_oAnew k i (pc + len) lv st h
  | .invokespecial i => match px_call k i with
    | some (4, _) => px_oSp (pc + len) lv st h
    | _ => none
  | .invokestatic i => match px_call k i with
    | some (kd, _) => px_oSt kd (pc + len) lv st h
    | _ => none
  | .getstatic i => px_psh (pc + len) lv st h (px_stc k i)
  | .invokevirtual i => px_oStr k i (pc + len) lv st h
  | _ => none
/-- a call of a method with code: the method, its arguments, what is left on the stack -/
def px_inv (k : Nat) (ins : Instr) (st : List Value) (h : px_H) : Option (Nat × List Value × List Value) := match ins with
  | .invokestatic i => match px_call k i with
    | some (0, j) => bif Nat.ble (px_m j).2.2.2.2.2.2.1 st.length then some (j, (st.take (px_m j).2.2.2.2.2.2.1).reverse, st.drop (px_m j).2.2.2.2.2.2.1) else none
    | some (3, j) => bif Nat.ble (px_m j).2.2.2.2.2.2.1 st.length then some (j, (st.take (px_m j).2.2.2.2.2.2.1).reverse, st.drop (px_m j).2.2.2.2.2.2.1) else none
    | _ => none
  | .invokevirtual i => match px_call k i with
    | some (1, j) => match st.drop (px_m j).2.2.2.2.2.2.1 with
      | .ref a :: rest => match h.1[a]? with
        | some (.inr ci) => bif Nat.beq ci (px_m j).2.2.1 && Nat.blt a px_SC then some (j, .ref a :: (st.take (px_m j).2.2.2.2.2.2.1).reverse, rest) else none
        | _ => none
      | _ => none
    | _ => none
  | .invokespecial i => match px_call k i with
    | some (2, j) => match st.drop (px_m j).2.2.2.2.2.2.1 with
      | .ref a :: rest => some (j, .ref a :: (st.take (px_m j).2.2.2.2.2.2.1).reverse, rest)
      | _ => none
    | _ => none
  | _ => none
/-- a return: its value -/
def px_ret (k : Nat) (ins : Instr) (st : List Value) : Option (Option Value) := match ins, (px_m k).2.2.2.2.2.1, st with
  | .ireturn, some .int, [.int v] => some (some (.int v))
  | .ireturn, some .boolean, [.int v] => if v = 0 ∨ v = 1 then some (some (.int v)) else none
  | .lreturn, some .long, [.long v] => some (some (.long v))
  | .areturn, some (.object _), [.ref a] => some (some (.ref a))
  | .areturn, some (.object _), [.null] => some (some .null)
  | .return_, none, [] => some none
  | _, _, _ => none
/-- method k from the state on: what it answers, and the heap then; n: steps at most, d: how deep calls may go -/
def px_ev (ro : px_RO) : Nat → Nat → Nat → px_S → Option (Option Value × px_H)
  | 0, _, _, _ => none
  | _ + 1, 0, _, _ => none
  | n + 1, d + 1, k, (pc, lv, st, h) => match px_fetch k pc with
    | none => none
    | some (ins, len) => match px_ret k ins st with
      | some r => some (r, h)
      | none => match px_inv k ins st h with
        | some (j, as, rest) => bif Nat.ble (rest.map fun v => v.category).sum 8 && Nat.ble (lg_sl as).length (px_maxL j) then (match px_ev ro n d j (0, lv_args 0 as, [], h) with
          | some (v, h1) => px_ev ro n (d + 1) k (pc + 3, lv, v.toList ++ rest, h1)
          | none => none) else none
        | none => match px_op ro k ins len pc lv st h with
          | some s => px_ev ro n (d + 1) k s
          | none => none
