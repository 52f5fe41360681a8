/-! THE PURE MACHINE: what the methods do, on a heap of numbered cells. A cell is an array (.inl (type, length)) or an object (.inr class); its whole numbers stand in I, its longs in J, its references (to cells, by number) in P, by cell and place. Cells from px_SC on are old arrays of ints that are read only (the script: px_SC). -/
abbrev px_Sh : Type := (Nat × Nat) ⊕ Nat
abbrev px_H : Type := List px_Sh × (Nat → Nat → Int32) × (Nat → Nat → Int64) × (Nat → Nat → Option Nat)
abbrev px_L : Type := List (Nat × Value)
abbrev px_S : Type := Nat × px_L × List Value × px_H
abbrev px_RO : Type := List (Nat × (Nat → Int32))
def px_SC : Nat := 1000000
def px_up {α : Type} (f : Nat → Nat → α) (k i : Nat) (x : α) : Nat → Nat → α := fun a b => cond (Nat.beq a k) (cond (Nat.beq b i) x (f a b)) (f a b)
def px_rw {α : Type} (f : Nat → Nat → α) (k : Nat) (g : Nat → α) : Nat → Nat → α := fun a b => cond (Nat.beq a k) (g b) (f a b)
def px_tyA : List FieldType := [.int, .long, .boolean, .object "ElevenBullocks$Script"]
def px_n (ci : Nat) : Nat := match vwCl[ci]? with
  | some (_, _, N) => N
  | none => 0
/-- how many slots the cells have -/
def px_sl : List px_Sh → Nat
  | [] => 0
  | .inl (_, n) :: r => n + px_sl r
  | .inr ci :: r => px_n ci + px_sl r
/-- the value of a field -/
def px_fv (I : Nat → Int32) (J : Nat → Int64) (P : Nat → Option Nat) (f : Nat) : FieldType → Value
  | .int => .int (I f)
  | .boolean => .int (I f)
  | .long => .long (J f)
  | _ => va_rf (P f)
def px_m (k : Nat) : px_MI := px_mT.get k
def px_codes (k : Nat) : Lean.RArray px_Row := (px_m k).2.2.2.2.2.2.2.2
def px_fetch (k pc : Nat) : Option (Instr × Nat) := let q := (px_codes k).get pc; bif Nat.beq q.1 pc then some q.2 else none
def px_key (k idx : Nat) : Nat := (px_m k).2.2.1 * 1000 + idx
def px_fld (k idx : Nat) : Option (Nat × Nat) := let q := px_fldT.get (px_key k idx); bif Nat.beq q.1 (px_key k idx) && Nat.blt idx 1000 then some (q.2.1, q.2.2.1) else none
def px_cls (k idx : Nat) : Option Nat := let q := px_clsT.get (px_key k idx); bif Nat.beq q.1 (px_key k idx) && Nat.blt idx 1000 then some q.2.1 else none
def px_int (k idx : Nat) : Option Int32 := let q := px_intT.get (px_key k idx); bif Nat.beq q.1 (px_key k idx) && Nat.blt idx 1000 then some q.2.1 else none
def px_lng (k idx : Nat) : Option Int64 := let q := px_lngT.get (px_key k idx); bif Nat.beq q.1 (px_key k idx) && Nat.blt idx 1000 then some q.2.1 else none
def px_call (k idx : Nat) : Option (Nat × Nat) := let q := px_clT.get (px_key k idx); bif Nat.beq q.1 (px_key k idx) && Nat.blt idx 1000 then some (q.2.1, q.2.2.1) else none
def px_ld (lv : px_L) (i : Nat) : Option Value := (lv.find? (fun q => q.1 == i)).map (fun q => q.2)
def px_st1 (lv : px_L) (i : Nat) (v : Value) : px_L := (i, v) :: lv.filter (fun q => !(q.1 == i) && !(q.1 + 1 == i && q.2.category == 2))
def px_st2 (lv : px_L) (i : Nat) (v : Value) : px_L := (i, v) :: lv.filter (fun q => !(q.1 == i) && (!(q.1 == i + 1) && !(q.1 + 1 == i && q.2.category == 2)))
def px_maxL (k : Nat) : Nat := (px_m k).2.2.2.2.1
/-- storing a value of the wanted kind (0 int, 1 long, 2 reference) -/
def px_sto (k : Nat) (lv : px_L) (i : Nat) (kd : Nat) (v : Value) : Option px_L := match kd, v with
  | 0, .int x => bif Nat.blt i (px_maxL k) then some (px_st1 lv i (.int x)) else none
  | 1, .long x => bif Nat.blt (i + 1) (px_maxL k) then some (px_st2 lv i (.long x)) else none
  | 2, .ref x => bif Nat.blt i (px_maxL k) then some (px_st1 lv i (.ref x)) else none
  | 2, .null => bif Nat.blt i (px_maxL k) then some (px_st1 lv i .null) else none
  | _, _ => none
/-- loading a value of the wanted kind -/
def px_get (lv : px_L) (i : Nat) (kd : Nat) : Option Value := match kd, px_ld lv i with
  | 0, some (.int x) => some (.int x)
  | 1, some (.long x) => some (.long x)
  | 2, some (.ref x) => some (.ref x)
  | 2, some .null => some .null
  | _, _ => none
def px_tg (pc : Nat) (off : Int) : Option Nat := match (pc : Int) + off with
  | .ofNat t => some t
  | .negSucc _ => none
def px_br (c : ClassFile.Cond) (x y : Int32) (t f : Nat) : Nat := match c with
  | .eq => if x = y then t else f
  | .ne => if x = y then f else t
  | .lt => if x < y then t else f
  | .ge => if y ≤ x then t else f
  | .gt => if y < x then t else f
  | .le => if x ≤ y then t else f
def px_ari (ins : Instr) (x y : Int32) : Option Int32 := match ins with
  | .iadd => some (x + y)
  | .isub => some (x - y)
  | .imul => some (x * y)
  | .idiv => if y = 0 then none else some (x / y)
  | .irem => if y = 0 then none else some (x - x / y * y)
  | .iand => some (x &&& y)
  | .ior => some (x ||| y)
  | .ixor => some (x ^^^ y)
  | .ishl => some (x <<< (y &&& 31))
  | .ishr => some (x >>> (y &&& 31))
  | .iushr => some (x.toUInt32 >>> (y.toUInt32 &&& Int32.toUInt32 31)).toInt32
  | _ => none
def px_arl (ins : Instr) (x y : Int64) : Option Int64 := match ins with
  | .ladd => some (x + y)
  | .lsub => some (x - y)
  | .lmul => some (x * y)
  | .ldiv => if y = 0 then none else some (x / y)
  | .lrem => if y = 0 then none else some (x - x / y * y)
  | .lor => some (x ||| y)
  | _ => none
/-- writing a field -/
def px_put (h : px_H) (k f : Nat) (ty : FieldType) (v : Value) : Option px_H := match ty, v with
  | .int, .int x => some (h.1, px_up h.2.1 k f x, h.2.2.1, h.2.2.2)
  | .boolean, .int x => if x = 0 ∨ x = 1 then some (h.1, px_up h.2.1 k f x, h.2.2.1, h.2.2.2) else none
  | .long, .long x => some (h.1, h.2.1, px_up h.2.2.1 k f x, h.2.2.2)
  | .object _, .ref a => some (h.1, h.2.1, h.2.2.1, px_up h.2.2.2 k f (some a))
  | .object _, .null => some (h.1, h.2.1, h.2.2.1, px_up h.2.2.2 k f none)
  | .array _, .ref a => some (h.1, h.2.1, h.2.2.1, px_up h.2.2.2 k f (some a))
  | .array _, .null => some (h.1, h.2.1, h.2.2.1, px_up h.2.2.2 k f none)
  | _, _ => none
def px_final (ci f : Nat) : Bool := match vwCl[ci]? with
  | some (_, T, _) => (T f).2.2.2
  | none => false
/-- a final field is written in a constructor of its own class alone -/
def px_mayPut (k ci f : Nat) : Bool := match vwCl[ci]? with
  | some (_, T, _) => !(T f).2.2.2 || ((px_m k).2.1.name == "<init>" && (T f).1 == px_on (px_m k).2.2.1)
  | none => false
def px_new (h : px_H) (sh : px_Sh) : px_H := (h.1 ++ [sh], px_rw h.2.1 h.1.length (fun _ => 0), px_rw h.2.2.1 h.1.length (fun _ => 0), px_rw h.2.2.2 h.1.length (fun _ => none))
def px_in (i : Int32) (n : Nat) : Bool := decide (¬ (i < 0 ∨ n ≤ i.toNatClampNeg))
def px_psh (pc : Nat) (lv : px_L) (st : List Value) (h : px_H) (v : Option Value) : Option px_S := match v with
  | some v => some (pc, lv, v :: st, h)
  | none => none
def px_jmp (lv : px_L) (st : List Value) (h : px_H) (t : Option Nat) : Option px_S := match t with
  | some t => some (t, lv, st, h)
  | none => none
def px_oSto (k pc : Nat) (lv : px_L) (st : List Value) (h : px_H) (i kd : Nat) : Option px_S := match st with
  | v :: st => match px_sto k lv i kd v with
    | some lv => some (pc, lv, st, h)
    | none => none
  | [] => none
def px_oInc (k pc : Nat) (lv : px_L) (st : List Value) (h : px_H) (i : Nat) (n : Int) : Option px_S := match px_ld lv i with
  | some (.int x) => bif Nat.blt i (px_maxL k) then some (pc, px_st1 lv i (.int (x + Int32.ofInt n)), st, h) else none
  | _ => none
def px_oAri (ins : Instr) (pc : Nat) (lv : px_L) (st : List Value) (h : px_H) : Option px_S := match st with
  | .int y :: .int x :: st => match px_ari ins x y with
    | some v => some (pc, lv, .int v :: st, h)
    | none => none
  | _ => none
def px_oArl (ins : Instr) (pc : Nat) (lv : px_L) (st : List Value) (h : px_H) : Option px_S := match st with
  | .long y :: .long x :: st => match px_arl ins x y with
    | some v => some (pc, lv, .long v :: st, h)
    | none => none
  | _ => none
def px_oIneg (pc : Nat) (lv : px_L) (st : List Value) (h : px_H) : Option px_S := match st with
  | .int x :: st => some (pc, lv, .int (-x) :: st, h)
  | _ => none
def px_oLneg (pc : Nat) (lv : px_L) (st : List Value) (h : px_H) : Option px_S := match st with
  | .long x :: st => some (pc, lv, .long (-x) :: st, h)
  | _ => none
def px_oI2l (pc : Nat) (lv : px_L) (st : List Value) (h : px_H) : Option px_S := match st with
  | .int x :: st => some (pc, lv, .long x.toInt64 :: st, h)
  | _ => none
def px_oL2i (pc : Nat) (lv : px_L) (st : List Value) (h : px_H) : Option px_S := match st with
  | .long x :: st => some (pc, lv, .int x.toInt32 :: st, h)
  | _ => none
def px_oLcmp (pc : Nat) (lv : px_L) (st : List Value) (h : px_H) : Option px_S := match st with
  | .long y :: .long x :: st => some (pc, lv, .int (lg_cmp x y) :: st, h)
  | _ => none
def px_oLshl (pc : Nat) (lv : px_L) (st : List Value) (h : px_H) : Option px_S := match st with
  | .int y :: .long x :: st => some (pc, lv, .long (x <<< (y.toInt64 &&& 63)) :: st, h)
  | _ => none
def px_oLshr (pc : Nat) (lv : px_L) (st : List Value) (h : px_H) : Option px_S := match st with
  | .int y :: .long x :: st => some (pc, lv, .long (x >>> (y.toInt64 &&& 63)) :: st, h)
  | _ => none
def px_oDup (pc : Nat) (lv : px_L) (st : List Value) (h : px_H) : Option px_S := match st with
  | v :: st => bif Nat.beq v.category 1 then some (pc, lv, v :: v :: st, h) else none
  | [] => none
def px_oPop (n pc : Nat) (lv : px_L) (st : List Value) (h : px_H) : Option px_S := match st with
  | v :: st => bif Nat.beq v.category n then some (pc, lv, st, h) else none
  | [] => none
def px_oDup2 (pc : Nat) (lv : px_L) (st : List Value) (h : px_H) : Option px_S := match st with
  | v :: w :: st => bif Nat.beq v.category 1 && Nat.beq w.category 1 then some (pc, lv, v :: w :: v :: w :: st, h) else bif Nat.beq v.category 2 then some (pc, lv, v :: v :: w :: st, h) else none
  | [v] => bif Nat.beq v.category 2 then some (pc, lv, [v, v], h) else none
  | [] => none
def px_oIf (c : ClassFile.Cond) (off : Int) (pc : Nat) (lv : px_L) (st : List Value) (h : px_H) : Option px_S := match st with
  | .int x :: st => match px_tg pc off with
    | some t => some (px_br c x 0 t (pc + 3), lv, st, h)
    | none => none
  | _ => none
def px_oIcmp (c : ClassFile.Cond) (off : Int) (pc : Nat) (lv : px_L) (st : List Value) (h : px_H) : Option px_S := match st with
  | .int y :: .int x :: st => match px_tg pc off with
    | some t => some (px_br c x y t (pc + 3), lv, st, h)
    | none => none
  | _ => none
def px_oNull (off : Int) (pc : Nat) (lv : px_L) (st : List Value) (h : px_H) : Option px_S := match st with
  | .null :: st => px_jmp lv st h (px_tg pc off)
  | .ref _ :: st => some (pc + 3, lv, st, h)
  | _ => none
def px_oNonnull (off : Int) (pc : Nat) (lv : px_L) (st : List Value) (h : px_H) : Option px_S := match st with
  | .ref _ :: st => px_jmp lv st h (px_tg pc off)
  | .null :: st => some (pc + 3, lv, st, h)
  | _ => none
def px_oTab (dflt lo hi : Int) (offs : Array Int) (pc : Nat) (lv : px_L) (st : List Value) (h : px_H) : Option px_S := match st with
  | .int x :: st => if x.toInt < lo ∨ hi < x.toInt then px_jmp lv st h (px_tg pc dflt) else match offs[(x.toInt - lo).toNat]? with
    | some off => px_jmp lv st h (px_tg pc off)
    | none => none
  | _ => none
def px_oLook (dflt : Int) (ps : Array (Int × Int)) (pc : Nat) (lv : px_L) (st : List Value) (h : px_H) : Option px_S := match st with
  | .int x :: st => bif (ps.toList.zip (ps.toList.drop 1)).all (fun (a, next) => a.1 < next.1) then px_jmp lv st h (px_tg pc (Op.lookupswitch.offset ps.toList dflt x.toInt)) else none
  | _ => none
def px_oGet (k i pc : Nat) (lv : px_L) (st : List Value) (h : px_H) : Option px_S := match st with
  | .ref a :: st => match px_fld k i, h.1[a]? with
    | some (ci, f), some (.inr ci') => bif Nat.beq ci ci' && Nat.blt a px_SC then some (pc, lv, px_fv (h.2.1 a) (h.2.2.1 a) (h.2.2.2 a) f (px_ty ci f) :: st, h) else none
    | _, _ => none
  | _ => none
def px_oPut (k i pc : Nat) (lv : px_L) (st : List Value) (h : px_H) : Option px_S := match st with
  | v :: .ref a :: st => match px_fld k i, h.1[a]? with
    | some (ci, f), some (.inr ci') => bif Nat.beq ci ci' && Nat.blt a px_SC && px_mayPut k ci f then (match px_put h a f (px_ty ci f) v with
      | some h => some (pc, lv, st, h)
      | none => none) else none
    | _, _ => none
  | _ => none
def px_oIald (ro : px_RO) (pc : Nat) (lv : px_L) (st : List Value) (h : px_H) : Option px_S := match st with
  | .int i :: .ref a :: st => bif Nat.ble px_SC a then (match ro[a - px_SC]? with
      | some (n, xs) => bif px_in i n then some (pc, lv, .int (xs i.toNatClampNeg) :: st, h) else none
      | none => none)
    else match h.1[a]? with
      | some (.inl (0, n)) => bif px_in i n then some (pc, lv, .int (h.2.1 a i.toNatClampNeg) :: st, h) else none
      | _ => none
  | _ => none
def px_oZald (pc : Nat) (lv : px_L) (st : List Value) (h : px_H) : Option px_S := match st with
  | .int i :: .ref a :: st => match h.1[a]? with
      | some (.inl (2, n)) => bif px_in i n && Nat.blt a px_SC then some (pc, lv, .int (h.2.1 a i.toNatClampNeg) :: st, h) else none
      | _ => none
  | _ => none
def px_oLald (pc : Nat) (lv : px_L) (st : List Value) (h : px_H) : Option px_S := match st with
  | .int i :: .ref a :: st => match h.1[a]? with
      | some (.inl (1, n)) => bif px_in i n && Nat.blt a px_SC then some (pc, lv, .long (h.2.2.1 a i.toNatClampNeg) :: st, h) else none
      | _ => none
  | _ => none
def px_oAald (pc : Nat) (lv : px_L) (st : List Value) (h : px_H) : Option px_S := match st with
  | .int i :: .ref a :: st => match h.1[a]? with
      | some (.inl (3, n)) => bif px_in i n && Nat.blt a px_SC then some (pc, lv, va_rf (h.2.2.2 a i.toNatClampNeg) :: st, h) else none
      | _ => none
  | _ => none
def px_oIast (pc : Nat) (lv : px_L) (st : List Value) (h : px_H) : Option px_S := match st with
  | .int x :: .int i :: .ref a :: st => match h.1[a]? with
      | some (.inl (0, n)) => bif px_in i n && Nat.blt a px_SC then some (pc, lv, st, (h.1, px_up h.2.1 a i.toNatClampNeg x, h.2.2.1, h.2.2.2)) else none
      | _ => none
  | _ => none
def px_oZast (pc : Nat) (lv : px_L) (st : List Value) (h : px_H) : Option px_S := match st with
  | .int x :: .int i :: .ref a :: st => match h.1[a]? with
      | some (.inl (2, n)) => bif px_in i n && Nat.blt a px_SC then some (pc, lv, st, (h.1, px_up h.2.1 a i.toNatClampNeg (x &&& 1), h.2.2.1, h.2.2.2)) else none
      | _ => none
  | _ => none
def px_oLast (pc : Nat) (lv : px_L) (st : List Value) (h : px_H) : Option px_S := match st with
  | .long x :: .int i :: .ref a :: st => match h.1[a]? with
      | some (.inl (1, n)) => bif px_in i n && Nat.blt a px_SC then some (pc, lv, st, (h.1, h.2.1, px_up h.2.2.1 a i.toNatClampNeg x, h.2.2.2)) else none
      | _ => none
  | _ => none
def px_oAast (pc : Nat) (lv : px_L) (st : List Value) (h : px_H) : Option px_S := match st with
  | .ref b :: .int i :: .ref a :: st => match h.1[a]?, h.1[b]? with
      | some (.inl (3, n)), some (.inr 7) => bif px_in i n && Nat.blt a px_SC && Nat.blt b px_SC then some (pc, lv, st, (h.1, h.2.1, h.2.2.1, px_up h.2.2.2 a i.toNatClampNeg (some b))) else none
      | _, _ => none
  | _ => none
def px_oLen (ro : px_RO) (pc : Nat) (lv : px_L) (st : List Value) (h : px_H) : Option px_S := match st with
  | .ref a :: st => bif Nat.ble px_SC a then (match ro[a - px_SC]? with
      | some (n, _) => some (pc, lv, .int (Int32.ofNat n) :: st, h)
      | none => none)
    else match h.1[a]? with
      | some (.inl (t, n)) => bif Nat.blt t 4 then some (pc, lv, .int (Int32.ofNat n) :: st, h) else none
      | _ => none
  | _ => none
def px_oNew (k i pc : Nat) (lv : px_L) (st : List Value) (h : px_H) : Option px_S := match px_cls k i with
  | some ci => bif Nat.blt h.1.length px_SC then some (pc, lv, .ref h.1.length :: st, px_new h (.inr ci)) else none
  | none => none
def px_oNewa (t pc : Nat) (lv : px_L) (st : List Value) (h : px_H) : Option px_S := match st with
  | .int n :: st => bif Nat.blt h.1.length px_SC && decide (¬ n < 0) && Nat.ble n.toNatClampNeg 100000 then some (pc, lv, .ref h.1.length :: st, px_new h (.inl (t, n.toNatClampNeg))) else none
  | _ => none
def px_oAnew (k i pc : Nat) (lv : px_L) (st : List Value) (h : px_H) : Option px_S := match px_cls k i with
  | some 7 => px_oNewa 3 pc lv st h
  | _ => none
def px_oSp (pc : Nat) (lv : px_L) (st : List Value) (h : px_H) : Option px_S := match st with
  | .ref _ :: st => bif Nat.ble (st.map fun v => v.category).sum 8 then some (pc, lv, st, h) else none
  | _ => none
def px_oCpy (pc : Nat) (lv : px_L) (st : List Value) (h : px_H) : Option px_S := match st with
  | .int n :: .int dp :: .ref b :: .int sp :: .ref a :: st => match h.1[a]?, h.1[b]? with
    | some (.inl (0, n0)), some (.inl (0, n1)) => bif Nat.ble (st.map fun v => v.category).sum 8 && decide (¬ sp < 0) && decide (¬ dp < 0) && decide (¬ n < 0) && Nat.ble (sp.toNatClampNeg + n.toNatClampNeg) n0 && Nat.ble (dp.toNatClampNeg + n.toNatClampNeg) n1 && Nat.blt a px_SC && Nat.blt b px_SC
      then some (pc, lv, st, (h.1, px_rw h.2.1 b (va_cpy (h.2.1 a) (h.2.1 b) sp.toNatClampNeg dp.toNatClampNeg n.toNatClampNeg), h.2.2.1, h.2.2.2)) else none
    | _, _ => none
  | _ => none
def px_oMi (kd pc : Nat) (lv : px_L) (st : List Value) (h : px_H) : Option px_S := match st with
  | .int y :: .int x :: st => bif Nat.ble (st.map fun v => v.category).sum 8 then some (pc, lv, .int (bif Nat.beq kd 6 then (if x < y then y else x) else (if y < x then y else x)) :: st, h) else none
  | _ => none
def px_oMl (kd pc : Nat) (lv : px_L) (st : List Value) (h : px_H) : Option px_S := match st with
  | .long y :: .long x :: st => bif Nat.ble (st.map fun v => v.category).sum 8 then some (pc, lv, .long (bif Nat.beq kd 8 then (if y < x then x else y) else (if y < x then y else x)) :: st, h) else none
  | _ => none
def px_oSt (kd pc : Nat) (lv : px_L) (st : List Value) (h : px_H) : Option px_S := match kd with
  | 5 => px_oCpy pc lv st h
  | 6 => px_oMi 6 pc lv st h
  | 7 => px_oMi 7 pc lv st h
  | 8 => px_oMl 8 pc lv st h
  | 9 => px_oMl 9 pc lv st h
  | _ => none
/-- a static table of Reader: SHAPES, LAWS_OF_NAMES -/
def px_stc (k i : Nat) : Option Value := bif Nat.beq (px_key k i) 6101 && Nat.blt i 1000 then some (.ref (px_SC + 1)) else bif Nat.beq (px_key k i) 6134 && Nat.blt i 1000 then some (.ref (px_SC + 2)) else none
/-- a constant: a number, or the text of Reader -/
def px_ldcv (k i : Nat) : Option Value := match px_int k i with
  | some x => some (.int x)
  | none => bif Nat.beq (px_key k i) 6177 && Nat.blt i 1000 then some (.ref (px_SC + 3)) else none
/-- length and charAt of the text of Reader -/
def px_oStr (k i pc : Nat) (lv : px_L) (st : List Value) (h : px_H) : Option px_S :=
  bif Nat.beq (px_key k i) 6179 && Nat.blt i 1000 then (match st with
    | .ref a :: st => bif Nat.beq a (px_SC + 3) && Nat.ble (st.map fun v => v.category).sum 8 then some (pc, lv, .int 180 :: st, h) else none
    | _ => none)
  else bif Nat.beq (px_key k i) 6183 && Nat.blt i 1000 then (match st with
    | .int x :: .ref a :: st => bif Nat.beq a (px_SC + 3) && px_in x 180 && Nat.ble (st.map fun v => v.category).sum 8 then some (pc, lv, .int (ps_byt.getD x.toNatClampNeg 0) :: st, h) else none
    | _ => none)
  else none
/-- an instruction that is no call of a method with code and no return -/
def px_op (ro : px_RO) (k : Nat) (ins : Instr) (len pc : Nat) (lv : px_L) (st : List Value) (h : px_H) : Option px_S := match ins with
  | .iconst n => some (pc + len, lv, .int (Int32.ofInt n) :: st, h)
  | .bipush n => some (pc + len, lv, .int (Int8.ofInt n).toInt32 :: st, h)
  | .sipush n => some (pc + len, lv, .int (Int16.ofInt n).toInt32 :: st, h)
  | .lconst n => some (pc + len, lv, .long (Int64.ofNat n.val) :: st, h)
  | .aconst_null => some (pc + len, lv, .null :: st, h)
  | .ldc i => px_psh (pc + len) lv st h (px_ldcv k i)
  | .ldc_w i => px_psh (pc + len) lv st h ((px_int k i).map Value.int)
  | .ldc2_w i => px_psh (pc + len) lv st h ((px_lng k i).map Value.long)
  | .iload i => px_psh (pc + len) lv st h (px_get lv i 0)
  | .iload_n i => px_psh (pc + len) lv st h (px_get lv i.val 0)
  | .lload i => px_psh (pc + len) lv st h (px_get lv i 1)
  | .lload_n i => px_psh (pc + len) lv st h (px_get lv i.val 1)
  | .aload i => px_psh (pc + len) lv st h (px_get lv i 2)
  | .aload_n i => px_psh (pc + len) lv st h (px_get lv i.val 2)
  | .istore i => px_oSto k (pc + len) lv st h i 0
  | .istore_n i => px_oSto k (pc + len) lv st h i.val 0
  | .lstore i => px_oSto k (pc + len) lv st h i 1
  | .lstore_n i => px_oSto k (pc + len) lv st h i.val 1
  | .astore i => px_oSto k (pc + len) lv st h i 2
  | .astore_n i => px_oSto k (pc + len) lv st h i.val 2
  | .iinc i n => px_oInc k (pc + len) lv st h i n
  | .iadd => px_oAri .iadd (pc + len) lv st h
  | .isub => px_oAri .isub (pc + len) lv st h
  | .imul => px_oAri .imul (pc + len) lv st h
  | .idiv => px_oAri .idiv (pc + len) lv st h
  | .irem => px_oAri .irem (pc + len) lv st h
  | .iand => px_oAri .iand (pc + len) lv st h
  | .ior => px_oAri .ior (pc + len) lv st h
  | .ixor => px_oAri .ixor (pc + len) lv st h
  | .ishl => px_oAri .ishl (pc + len) lv st h
  | .ishr => px_oAri .ishr (pc + len) lv st h
  | .iushr => px_oAri .iushr (pc + len) lv st h
  | .ladd => px_oArl .ladd (pc + len) lv st h
  | .lsub => px_oArl .lsub (pc + len) lv st h
  | .lmul => px_oArl .lmul (pc + len) lv st h
  | .ldiv => px_oArl .ldiv (pc + len) lv st h
  | .lrem => px_oArl .lrem (pc + len) lv st h
  | .lor => px_oArl .lor (pc + len) lv st h
  | .ineg => px_oIneg (pc + len) lv st h
  | .lneg => px_oLneg (pc + len) lv st h
  | .i2l => px_oI2l (pc + len) lv st h
  | .l2i => px_oL2i (pc + len) lv st h
  | .lcmp => px_oLcmp (pc + len) lv st h
  | .lshl => px_oLshl (pc + len) lv st h
  | .lshr => px_oLshr (pc + len) lv st h
  | .dup => px_oDup (pc + len) lv st h
  | .pop => px_oPop 1 (pc + len) lv st h
  | .pop2 => px_oPop 2 (pc + len) lv st h
  | .dup2 => px_oDup2 (pc + len) lv st h
  | .ifCond c off => px_oIf c off pc lv st h
  | .if_icmp c off => px_oIcmp c off pc lv st h
  | .ifnull off => px_oNull off pc lv st h
  | .ifnonnull off => px_oNonnull off pc lv st h
  | .goto off => px_jmp lv st h (px_tg pc off)
  | .tableswitch dflt lo hi offs => px_oTab dflt lo hi offs pc lv st h
  | .lookupswitch dflt ps => px_oLook dflt ps pc lv st h
  | .getfield i => px_oGet k i (pc + len) lv st h
  | .putfield i => px_oPut k i (pc + len) lv st h
  | .iaload => px_oIald ro (pc + len) lv st h
  | .baload => px_oZald (pc + len) lv st h
  | .laload => px_oLald (pc + len) lv st h
  | .aaload => px_oAald (pc + len) lv st h
  | .iastore => px_oIast (pc + len) lv st h
  | .bastore => px_oZast (pc + len) lv st h
  | .lastore => px_oLast (pc + len) lv st h
  | .aastore => px_oAast (pc + len) lv st h
  | .arraylength => px_oLen ro (pc + len) lv st h
  | .new i => px_oNew k i (pc + len) lv st h
  | .newarray .int => px_oNewa 0 (pc + len) lv st h
  | .newarray .long => px_oNewa 1 (pc + len) lv st h
  | .newarray .boolean => px_oNewa 2 (pc + len) lv st h
  | .anewarray i => px_oAnew k i (pc + len) lv st h
  | .invokespecial i => match px_call k i with
    | some (4, _) => px_oSp (pc + len) lv st h
    | _ => none
  | .invokestatic i => match px_call k i with
    | some (kd, _) => px_oSt kd (pc + len) lv st h
    | _ => none
  | .getstatic i => px_psh (pc + len) lv st h (px_stc k i)
  | .invokevirtual i => px_oStr k i (pc + len) lv st h
  | _ => none
/-- a call of a method with code: the method, its arguments, what is left on the stack -/
def px_inv (k : Nat) (ins : Instr) (st : List Value) (h : px_H) : Option (Nat × List Value × List Value) := match ins with
  | .invokestatic i => match px_call k i with
    | some (0, j) => bif Nat.ble (px_m j).2.2.2.2.2.2.1 st.length then some (j, (st.take (px_m j).2.2.2.2.2.2.1).reverse, st.drop (px_m j).2.2.2.2.2.2.1) else none
    | some (3, j) => bif Nat.ble (px_m j).2.2.2.2.2.2.1 st.length then some (j, (st.take (px_m j).2.2.2.2.2.2.1).reverse, st.drop (px_m j).2.2.2.2.2.2.1) else none
    | _ => none
  | .invokevirtual i => match px_call k i with
    | some (1, j) => match st.drop (px_m j).2.2.2.2.2.2.1 with
      | .ref a :: rest => match h.1[a]? with
        | some (.inr ci) => bif Nat.beq ci (px_m j).2.2.1 && Nat.blt a px_SC then some (j, .ref a :: (st.take (px_m j).2.2.2.2.2.2.1).reverse, rest) else none
        | _ => none
      | _ => none
    | _ => none
  | .invokespecial i => match px_call k i with
    | some (2, j) => match st.drop (px_m j).2.2.2.2.2.2.1 with
      | .ref a :: rest => some (j, .ref a :: (st.take (px_m j).2.2.2.2.2.2.1).reverse, rest)
      | _ => none
    | _ => none
  | _ => none
/-- a return: its value -/
def px_ret (k : Nat) (ins : Instr) (st : List Value) : Option (Option Value) := match ins, (px_m k).2.2.2.2.2.1, st with
  | .ireturn, some .int, [.int v] => some (some (.int v))
  | .ireturn, some .boolean, [.int v] => if v = 0 ∨ v = 1 then some (some (.int v)) else none
  | .lreturn, some .long, [.long v] => some (some (.long v))
  | .areturn, some (.object _), [.ref a] => some (some (.ref a))
  | .areturn, some (.object _), [.null] => some (some .null)
  | .return_, none, [] => some none
  | _, _, _ => none
/-- method k from the state on: what it answers, and the heap then; n: steps at most, d: how deep calls may go -/
def px_ev (ro : px_RO) : Nat → Nat → Nat → px_S → Option (Option Value × px_H)
  | 0, _, _, _ => none
  | _ + 1, 0, _, _ => none
  | n + 1, d + 1, k, (pc, lv, st, h) => match px_fetch k pc with
    | none => none
    | some (ins, len) => match px_ret k ins st with
      | some r => some (r, h)
      | none => match px_inv k ins st h with
        | some (j, as, rest) => bif Nat.ble (rest.map fun v => v.category).sum 8 && Nat.ble (lg_sl as).length (px_maxL j) then (match px_ev ro n d j (0, lv_args 0 as, [], h) with
          | some (v, h1) => px_ev ro n (d + 1) k (pc + 3, lv, v.toList ++ rest, h1)
          | none => none) else none
        | none => match px_op ro k ins len pc lv st h with
          | some s => px_ev ro n (d + 1) k s
          | none => none
def px_lenOk (ins : Instr) (len : Nat) : Bool := match ins with
  | .bipush _ => Nat.beq len 2
  | .ldc _ => Nat.beq len 2
  | .iload _ => Nat.beq len 2
  | .lload _ => Nat.beq len 2
  | .aload _ => Nat.beq len 2
  | .istore _ => Nat.beq len 2
  | .lstore _ => Nat.beq len 2
  | .astore _ => Nat.beq len 2
  | .newarray _ => Nat.beq len 2
  | .sipush _ => Nat.beq len 3
  | .ldc_w _ => Nat.beq len 3
  | .ldc2_w _ => Nat.beq len 3
  | .iinc _ _ => Nat.beq len 3
  | .ifCond _ _ => Nat.beq len 3
  | .if_icmp _ _ => Nat.beq len 3
  | .goto _ => Nat.beq len 3
  | .ifnull _ => Nat.beq len 3
  | .ifnonnull _ => Nat.beq len 3
  | .getfield _ => Nat.beq len 3
  | .putfield _ => Nat.beq len 3
  | .getstatic _ => Nat.beq len 3
  | .invokestatic _ => Nat.beq len 3
  | .invokevirtual _ => Nat.beq len 3
  | .invokespecial _ => Nat.beq len 3
  | .new _ => Nat.beq len 3
  | .anewarray _ => Nat.beq len 3
  | .tableswitch _ _ _ _ => true
  | .lookupswitch _ _ => true
  | _ => Nat.beq len 1
def px_rowLen (q : px_Row) : Bool := px_lenOk q.2.1 q.2.2
set_option maxRecDepth 100000 in
theorem px_mT_len : px_all (fun q : px_MI => px_all px_rowLen q.2.2.2.2.2.2.2.2) px_mT = true := by decide +kernel
/-! THE PURE MACHINE IS SOUND: where px_ev answers, the machine itself comes to that answer and that heap -/
theorem px_beqT {a b : Nat} (h : Nat.beq a b = true) : a = b := Nat.eq_of_beq_eq_true h
theorem px_beqN {a b : Nat} (h : a ≠ b) : Nat.beq a b = false := by
  cases hb : Nat.beq a b with
  | false => rfl
  | true => exact absurd (Nat.eq_of_beq_eq_true hb) h
theorem px_bltT {a b : Nat} (h : Nat.blt a b = true) : a < b := Nat.le_of_ble_eq_true h
theorem px_bleT {a b : Nat} (h : Nat.ble a b = true) : a ≤ b := Nat.le_of_ble_eq_true h
theorem px_bleF {a b : Nat} (h : Nat.ble a b = false) : b < a := by
  rcases Nat.lt_or_ge b a with q | q
  · exact q
  · rw [Nat.ble_eq_true_of_le q] at h; cases h
theorem px_up_ne {α : Type} {f : Nat → Nat → α} {k i j : Nat} {x : α} (h : j ≠ k) : px_up f k i x j = f j := by
  funext b; unfold px_up; rw [px_beqN h]; rfl
theorem px_up_eq {α : Type} {f : Nat → Nat → α} {k i : Nat} {x : α} : px_up f k i x k = fun b => cond (Nat.beq b i) x (f k b) := by
  funext b; unfold px_up; rw [show Nat.beq k k = true from Nat.beq_refl k]; rfl
theorem px_rw_ne {α : Type} {f : Nat → Nat → α} {k j : Nat} {g : Nat → α} (h : j ≠ k) : px_rw f k g j = f j := by
  funext b; unfold px_rw; rw [px_beqN h]; rfl
theorem px_rw_eq {α : Type} {f : Nat → Nat → α} {k : Nat} {g : Nat → α} : px_rw f k g k = g := by
  funext b; unfold px_rw; rw [show Nat.beq k k = true from Nat.beq_refl k]; rfl
def px_ad (base : Nat) (rb : Nat → Nat) (k : Nat) : Nat := if k < px_SC then base + k else rb (k - px_SC)
theorem px_ad_lt {base : Nat} {rb : Nat → Nat} {k : Nat} (h : k < px_SC) : px_ad base rb k = base + k := if_pos h
def px_v (ad : Nat → Nat) : Value → Value
  | .ref k => .ref (ad k)
  | v => v
theorem px_v_cat (ad : Nat → Nat) (v : Value) : (px_v ad v).category = v.category := by cases v <;> rfl
theorem px_v_rf (ad : Nat → Nat) (r : Option Nat) : px_v ad (va_rf r) = va_rf (r.map ad) := by cases r <;> rfl
theorem px_v_sum (ad : Nat → Nat) (st : List Value) : ((st.map (px_v ad)).map fun v => v.category).sum = (st.map fun v => v.category).sum := by
  rw [List.map_map]; congr 1; apply List.map_congr_left; intro v _; exact px_v_cat ad v
def px_lv (ad : Nat → Nat) (lv : px_L) : px_L := lv.map (fun q => (q.1, px_v ad q.2))
def px_fs (ad : Nat → Nat) (I : Nat → Int32) (J : Nat → Int64) (P : Nat → Option Nat) (ci : Nat) : List Value := (List.range (px_n ci)).map (fun f => px_v ad (px_fv I J P f (px_ty ci f)))
def px_arr (ad : Nat → Nat) (I : Nat → Int32) (J : Nat → Int64) (P : Nat → Option Nat) (t : Nat) : (Nat → Int32) ⊕ (Nat → Int64) ⊕ (Nat → UInt32) ⊕ (Nat → UInt64) ⊕ (Nat → Option Nat) := match t with
  | 1 => .inr (.inl J)
  | 3 => .inr (.inr (.inr (.inr (fun i => (P i).map ad))))
  | _ => .inl I
def px_cell (ad : Nat → Nat) (dA : Nat → ClassId) (I : Nat → Int32) (J : Nat → Int64) (P : Nat → Option Nat) : px_Sh → va_E
  | .inl (t, n) => .inl (dA t, n, px_arr ad I J P t)
  | .inr ci => .inr (ci, px_fs ad I J P ci)
def px_w (ad : Nat → Nat) (dA : Nat → ClassId) (h : px_H) : va_W := h.1.mapIdx (fun k sh => (ad k, px_cell ad dA (h.2.1 k) (h.2.2.1 k) (h.2.2.2 k) sh))
def px_tys (dA : Nat → ClassId) : List (ClassId × FieldType) := [(dA 0, .int), (dA 1, .long), (dA 2, .boolean), (dA 3, .object "ElevenBullocks$Script")]
theorem px_w_get {ad : Nat → Nat} {dA : Nat → ClassId} {h : px_H} {k : Nat} {sh : px_Sh} (hk : h.1[k]? = some sh) : (px_w ad dA h)[k]? = some (ad k, px_cell ad dA (h.2.1 k) (h.2.2.1 k) (h.2.2.2 k) sh) := by
  simp [px_w, List.getElem?_mapIdx, hk]
theorem px_w_len {ad : Nat → Nat} {dA : Nat → ClassId} {h : px_H} : (px_w ad dA h).length = h.1.length := by simp [px_w]
theorem px_w_inv {ad : Nat → Nat} {dA : Nat → ClassId} {h : px_H} {k : Nat} {q : Nat × va_E} (hk : (px_w ad dA h)[k]? = some q) : k < h.1.length ∧ q.1 = ad k := by
  have hlt : k < h.1.length := by rw [← px_w_len (ad := ad) (dA := dA)]; exact (List.getElem?_eq_some_iff.mp hk).1
  refine ⟨hlt, ?_⟩
  rw [px_w_get (List.getElem?_eq_getElem hlt)] at hk
  cases hk; rfl
theorem px_w_set {ad : Nat → Nat} {dA : Nat → ClassId} {h h' : px_H} {k : Nat} {sh : px_Sh} (hsh : h'.1 = h.1) (hk : h.1[k]? = some sh) (ho : ∀ j, j ≠ k → h'.2.1 j = h.2.1 j ∧ h'.2.2.1 j = h.2.2.1 j ∧ h'.2.2.2 j = h.2.2.2 j) :
    (px_w ad dA h).set k (ad k, px_cell ad dA (h'.2.1 k) (h'.2.2.1 k) (h'.2.2.2 k) sh) = px_w ad dA h' := by
  apply List.ext_getElem?
  intro j
  rw [List.getElem?_set]
  by_cases e : k = j
  · subst e
    have hlt : k < (px_w ad dA h).length := by rw [px_w_len]; exact (List.getElem?_eq_some_iff.mp hk).1
    rw [if_pos rfl, if_pos hlt, px_w_get (by rw [hsh]; exact hk)]
  · rw [if_neg e]
    obtain ⟨a, b, c⟩ := ho j (fun z => e z.symm)
    simp only [px_w, List.getElem?_mapIdx, hsh, a, b, c]
theorem px_w_new {ad : Nat → Nat} {dA : Nat → ClassId} {h : px_H} {sh : px_Sh} : px_w ad dA (px_new h sh) = px_w ad dA h ++ [(ad h.1.length, px_cell ad dA (fun _ => 0) (fun _ => 0) (fun _ => none) sh)] := by
  apply List.ext_getElem?
  intro j
  rcases Nat.lt_trichotomy j h.1.length with hj | hj | hj
  · rw [List.getElem?_append_left (by rw [px_w_len]; exact hj)]
    have hne : j ≠ h.1.length := Nat.ne_of_lt hj
    simp only [px_w, px_new, List.getElem?_mapIdx, List.getElem?_append_left hj, px_rw_ne hne]
  · subst hj
    rw [List.getElem?_append_right (by rw [px_w_len]; exact Nat.le_refl _), px_w_len, Nat.sub_self]
    simp only [px_w, px_new, List.getElem?_mapIdx, px_rw_eq]
    simp
  · have h1 : (px_w ad dA (px_new h sh)).length ≤ j := by rw [px_w_len]; simp [px_new]; omega
    have h2 : (px_w ad dA h ++ [(ad h.1.length, px_cell ad dA (fun _ => 0) (fun _ => 0) (fun _ => none) sh)]).length ≤ j := by rw [List.length_append, px_w_len]; simp; omega
    rw [List.getElem?_eq_none h1, List.getElem?_eq_none h2]
theorem px_w_D {base : Nat} {rb : Nat → Nat} {dA : Nat → ClassId} {h : px_H} (hl : h.1.length ≤ px_SC) : va_D (fun q => base ≤ q) (px_w (px_ad base rb) dA h) := by
  refine ⟨fun i j x y hx hy e => ?_, fun j x hx => ?_⟩
  · obtain ⟨i1, i2⟩ := px_w_inv hx
    obtain ⟨j1, j2⟩ := px_w_inv hy
    rw [i2, j2, px_ad_lt (by omega), px_ad_lt (by omega)] at e
    omega
  · obtain ⟨i1, i2⟩ := px_w_inv hx
    show base ≤ x.1
    rw [i2, px_ad_lt (by omega)]
    omega
theorem px_q {base : Nat} {rb : Nat → Nat} {D : va_G} {dA : Nat → ClassId} {h : px_H} {q : Nat} {e : va_E} {H1 : Heap} (hP : va_P D vwCl (px_w (px_ad base rb) dA h ++ [(q, e)]) H1) (hD : va_D (fun q => base ≤ q) (px_w (px_ad base rb) dA h ++ [(q, e)])) (hl : h.1.length ≤ px_SC) (hsz : H1.size ≤ base + h.1.length + 1) : q = base + h.1.length := by
  have hlast : (px_w (px_ad base rb) dA h ++ [(q, e)])[h.1.length]? = some (q, e) := by
    rw [List.getElem?_append_right (by rw [px_w_len]; exact Nat.le_refl _), px_w_len, Nat.sub_self]; rfl
  have h1 : q < H1.size := (hP _ _ hlast).lt
  have h2 : base ≤ q := hD.2 _ _ hlast
  rcases Nat.lt_or_ge q (base + h.1.length) with hlt | hge
  · exfalso
    have hj : q - base < h.1.length := by omega
    have e1 : (px_w (px_ad base rb) dA h ++ [(q, e)])[q - base]? = _ := (List.getElem?_append_left (by rw [px_w_len]; exact hj)).trans (px_w_get (List.getElem?_eq_getElem hj))
    have h3 := hD.1 (q - base) h.1.length _ _ e1 hlast (by show px_ad base rb (q - base) = q; rw [px_ad_lt (by omega)]; omega)
    omega
  · omega
theorem px_ld_at {ad : Nat → Nat} {ls : Array Slot} {nL : Nat} {lv : px_L} {i : Nat} {v : Value} (hl : lv_has ls nL (px_lv ad lv)) (h : px_ld lv i = some v) : ls[i]? = some (.val (px_v ad v)) := by
  unfold px_ld at h
  obtain ⟨q, hq, rfl⟩ := Option.map_eq_some_iff.mp h
  have h1 := List.mem_of_find?_eq_some hq
  have h2 : q.1 = i := by have := List.find?_some hq; simpa using this
  have h3 := hl.2.2 (q.1, px_v ad q.2) (List.mem_map.mpr ⟨q, h1, rfl⟩)
  rw [← h2]; exact h3
theorem px_st1_map (ad : Nat → Nat) (lv : px_L) (i : Nat) (v : Value) : (i, px_v ad v) :: (px_lv ad lv).filter (fun q => !(q.1 == i) && !(q.1 + 1 == i && q.2.category == 2)) = px_lv ad (px_st1 lv i v) := by
  simp only [px_lv, px_st1, List.map_cons, List.filter_map]
  congr 2
  apply List.filter_congr
  intro q _
  simp [px_v_cat]
theorem px_st2_map (ad : Nat → Nat) (lv : px_L) (i : Nat) (v : Value) : (i, px_v ad v) :: (px_lv ad lv).filter (fun q => !(q.1 == i) && (!(q.1 == i + 1) && !(q.1 + 1 == i && q.2.category == 2))) = px_lv ad (px_st2 lv i v) := by
  simp only [px_lv, px_st2, List.map_cons, List.filter_map]
  congr 2
  apply List.filter_congr
  intro q _
  simp [px_v_cat]
theorem px_args_map (ad : Nat → Nat) : ∀ (as : List Value) (i : Nat), lv_args i (as.map (px_v ad)) = px_lv ad (lv_args i as)
  | [], i => rfl
  | v :: as, i => by
    show (i, px_v ad v) :: lv_args (if (px_v ad v).category = 2 then i + 2 else i + 1) (as.map (px_v ad)) = (i, px_v ad v) :: px_lv ad (lv_args (if v.category = 2 then i + 2 else i + 1) as)
    rw [px_v_cat, px_args_map ad as]
theorem px_sl_len (ad : Nat → Nat) (as : List Value) : (lg_sl (as.map (px_v ad))).length = (lg_sl as).length := by
  induction as with
  | nil => rfl
  | cons v as ih =>
    simp only [lg_sl, List.map_cons, List.flatMap_cons, List.length_append, px_v_cat] at ih ⊢
    rw [ih]
    split <;> rfl
theorem px_n_of {ci : Nat} {C : String} {T : u_T} {N : Nat} (h : vwCl[ci]? = some (C, T, N)) : px_n ci = N := by
  unfold px_n; rw [h]
theorem px_fs_get {ad : Nat → Nat} {I : Nat → Int32} {J : Nat → Int64} {P : Nat → Option Nat} {ci f : Nat} (h : f < px_n ci) : (px_fs ad I J P ci)[f]? = some (px_v ad (px_fv I J P f (px_ty ci f))) := by
  simp [px_fs, List.getElem?_map, List.getElem?_range h]
theorem px_fs_len {ad : Nat → Nat} {I : Nat → Int32} {J : Nat → Int64} {P : Nat → Option Nat} {ci : Nat} : (px_fs ad I J P ci).length = px_n ci := by simp [px_fs]
theorem px_fs_set {ad : Nat → Nat} {I I' : Nat → Int32} {J J' : Nat → Int64} {P P' : Nat → Option Nat} {ci f : Nat} (hf : f < px_n ci) (ho : ∀ j, j ≠ f → I' j = I j ∧ J' j = J j ∧ P' j = P j) : (px_fs ad I J P ci).set f (px_v ad (px_fv I' J' P' f (px_ty ci f))) = px_fs ad I' J' P' ci := by
  apply List.ext_getElem?
  intro j
  rw [List.getElem?_set]
  by_cases e : f = j
  · subst e
    rw [if_pos rfl, if_pos (by rw [px_fs_len]; exact hf), px_fs_get hf]
  · rw [if_neg e]
    obtain ⟨a, b, c⟩ := ho j (fun z => e z.symm)
    rcases Nat.lt_or_ge j (px_n ci) with hj | hj
    · rw [px_fs_get hj, px_fs_get hj]
      congr 2
      unfold px_fv
      split <;> simp only [a, b, c]
    · rw [List.getElem?_eq_none (by rw [px_fs_len]; exact hj), List.getElem?_eq_none (by rw [px_fs_len]; exact hj)]
theorem px_sl_app (a : List px_Sh) (sh : px_Sh) : px_sl (a ++ [sh]) = px_sl a + px_sl [sh] := by
  induction a with
  | nil => simp [px_sl]
  | cons x a ih =>
    cases x with
    | inl q => obtain ⟨t, n⟩ := q; simp only [List.cons_append, px_sl] at ih ⊢; omega
    | inr ci => simp only [List.cons_append, px_sl] at ih ⊢; omega
-- links
theorem px_key_dm {k idx : Nat} (hi : idx < 1000) : px_key k idx / 1000 = (px_m k).2.2.1 ∧ px_key k idx % 1000 = idx := by
  unfold px_key; omega
theorem px_hit {q key idx : Nat} (h : (Nat.beq q key && Nat.blt idx 1000) = true) : q = key ∧ idx < 1000 := by
  rw [Bool.and_eq_true] at h
  exact ⟨px_beqT h.1, px_bltT h.2⟩
theorem px_fld_ok {k idx ci f : Nat} (h : px_fld k idx = some (ci, f)) : ∃ (C : String) (T : u_T) (N : Nat), vwCl[ci]? = some (C, T, N) ∧ f < N ∧ Cond.fieldLink (px_on (px_m k).2.2.1) idx (T f).1 (T f).2.1 (T f).2.2.1 ∈ px_ws := by
  unfold px_fld at h
  have hq := px_all_get px_fldT (px_key k idx) px_fldT_ok
  generalize px_fldT.get (px_key k idx) = q at h hq
  dsimp only at h
  cases hb : (Nat.beq q.1 (px_key k idx) && Nat.blt idx 1000) with
  | false => rw [hb] at h; cases h
  | true =>
    rw [hb] at h
    cases h
    obtain ⟨h1, h2⟩ := px_hit hb
    obtain ⟨d1, d2⟩ := px_key_dm (k := k) h2
    unfold px_fldOk at hq
    cases hc : vwCl[q.2.1]? with
    | none => rw [hc] at hq; cases hq
    | some r =>
      obtain ⟨C, T, N⟩ := r
      rw [hc] at hq
      simp only [Bool.and_eq_true, decide_eq_true_eq] at hq
      have h3 := px_mem hq.2
      rw [h1, d1, d2] at h3
      exact ⟨C, T, N, rfl, hq.1, h3⟩
theorem px_cls_ok {k idx ci : Nat} (h : px_cls k idx = some ci) : ∃ (C : String) (T : u_T) (N : Nat), vwCl[ci]? = some (C, T, N) ∧ Cond.classLink (px_on (px_m k).2.2.1) idx C ∈ px_ws := by
  unfold px_cls at h
  have hq := px_all_get px_clsT (px_key k idx) px_clsT_ok
  generalize px_clsT.get (px_key k idx) = q at h hq
  dsimp only at h
  cases hb : (Nat.beq q.1 (px_key k idx) && Nat.blt idx 1000) with
  | false => rw [hb] at h; cases h
  | true =>
    rw [hb] at h
    cases h
    obtain ⟨h1, h2⟩ := px_hit hb
    obtain ⟨d1, d2⟩ := px_key_dm (k := k) h2
    unfold px_clsOk at hq
    cases hc : vwCl[q.2.1]? with
    | none => rw [hc] at hq; cases hq
    | some r =>
      obtain ⟨C, T, N⟩ := r
      rw [hc] at hq
      have h3 := px_mem hq
      rw [h1, d1, d2] at h3
      exact ⟨C, T, N, rfl, h3⟩
theorem px_int_ok {k idx : Nat} {v : Int32} (h : px_int k idx = some v) : Cond.constant (px_on (px_m k).2.2.1) idx v ∈ px_ws := by
  unfold px_int at h
  have hq := px_all_get px_intT (px_key k idx) px_intT_ok
  generalize px_intT.get (px_key k idx) = q at h hq
  dsimp only at h
  cases hb : (Nat.beq q.1 (px_key k idx) && Nat.blt idx 1000) with
  | false => rw [hb] at h; cases h
  | true =>
    rw [hb] at h
    cases h
    obtain ⟨h1, h2⟩ := px_hit hb
    obtain ⟨d1, d2⟩ := px_key_dm (k := k) h2
    have h3 := px_mem hq
    rw [h1, d1, d2] at h3
    exact h3
theorem px_lng_ok {k idx : Nat} {v : Int64} (h : px_lng k idx = some v) : Cond.constantLong (px_on (px_m k).2.2.1) idx v ∈ px_ws := by
  unfold px_lng at h
  have hq := px_all_get px_lngT (px_key k idx) px_lngT_ok
  generalize px_lngT.get (px_key k idx) = q at h hq
  dsimp only at h
  cases hb : (Nat.beq q.1 (px_key k idx) && Nat.blt idx 1000) with
  | false => rw [hb] at h; cases h
  | true =>
    rw [hb] at h
    cases h
    obtain ⟨h1, h2⟩ := px_hit hb
    obtain ⟨d1, d2⟩ := px_key_dm (k := k) h2
    have h3 := px_mem hq
    rw [h1, d1, d2] at h3
    exact h3
/-- what the tables say of a call, by its kind -/
def px_CallOk (own : String) (idx kd j : Nat) : Prop := match kd with
  | 0 => Cond.methodLink own idx (px_m j).2.1 ∈ px_ws ∧ Cond.static (px_m j).2.1 ∈ px_ws ∧ j < px_law ∧ (px_m j).1 = j
  | 1 => Cond.methodLink own idx (px_m j).2.1 ∈ px_ws ∧ Cond.instanceMethod (px_m j).2.1 ∈ px_ws ∧ Cond.selects (px_m j).2.1.cls (px_m j).2.1 (px_m j).2.1 ∈ px_ws ∧ j < px_law ∧ (px_m j).1 = j
  | 2 => Cond.methodLink own idx (px_m j).2.1 ∈ px_ws ∧ Cond.instanceMethod (px_m j).2.1 ∈ px_ws ∧ j < px_law ∧ (px_m j).1 = j ∧ (px_m j).2.1.name = "<init>" ∧ (px_m j).2.2.2.2.2.1 = none
  | 3 => (∃ h, (own, idx, (px_m j).2.1, h) ∈ px_nest) ∧ Cond.static (px_m j).2.1 ∈ px_ws ∧ j < px_law ∧ (px_m j).1 = j
  | kd => 4 ≤ kd ∧ kd ≤ 9 ∧ Cond.methodLink own idx (px_spec kd) ∈ px_ws
theorem px_clOk_ok {q : Nat × Nat × Nat × List Nat} (h : px_clOk q = true) : px_CallOk (px_on (q.1 / 1000)) (q.1 % 1000) q.2.1 q.2.2.1 := by
  obtain ⟨key, kd, j, pls⟩ := q
  unfold px_clOk at h
  dsimp only at h ⊢
  split at h
  · rename_i a b
    simp only [Bool.and_eq_true, decide_eq_true_eq] at h
    exact ⟨px_mem h.1.1.1, px_mem h.1.1.2, h.1.2, h.2⟩
  · simp only [Bool.and_eq_true, decide_eq_true_eq] at h
    exact ⟨px_mem h.1.1.1.1, px_mem h.1.1.1.2, px_mem h.1.1.2, h.1.2, h.2⟩
  · simp only [Bool.and_eq_true, decide_eq_true_eq] at h
    exact ⟨px_mem h.1.1.1.1.1, px_mem h.1.1.1.1.2, h.1.1.1.2, h.1.1.2, h.1.2, h.2⟩
  · simp only [Bool.and_eq_true, decide_eq_true_eq] at h
    exact ⟨⟨_, List.mem_of_getElem? h.1.1.1⟩, px_mem h.1.1.2, h.1.2, h.2⟩
  · simp only [Bool.and_eq_true, decide_eq_true_eq] at h
    obtain ⟨⟨h1, h2⟩, h3⟩ := h
    match kd, h1, h2, h3 with
    | 4, _, _, h3 => exact ⟨by decide, by decide, px_mem h3⟩
    | 5, _, _, h3 => exact ⟨by decide, by decide, px_mem h3⟩
    | 6, _, _, h3 => exact ⟨by decide, by decide, px_mem h3⟩
    | 7, _, _, h3 => exact ⟨by decide, by decide, px_mem h3⟩
    | 8, _, _, h3 => exact ⟨by decide, by decide, px_mem h3⟩
    | 9, _, _, h3 => exact ⟨by decide, by decide, px_mem h3⟩
    | n + 10, _, h2, _ => omega
  · cases h
theorem px_call_ok {k idx kd j : Nat} (h : px_call k idx = some (kd, j)) : px_CallOk (px_on (px_m k).2.2.1) idx kd j := by
  unfold px_call at h
  have hq := px_clOk_ok (px_all_get px_clT (px_key k idx) px_clT_ok)
  generalize px_clT.get (px_key k idx) = q at h hq
  dsimp only at h
  cases hb : (Nat.beq q.1 (px_key k idx) && Nat.blt idx 1000) with
  | false => rw [hb] at h; cases h
  | true =>
    rw [hb] at h
    cases h
    obtain ⟨h1, h2⟩ := px_hit hb
    obtain ⟨d1, d2⟩ := px_key_dm (k := k) h2
    rw [h1, d1, d2] at hq
    exact hq
theorem px_fetch_ok {k pc len : Nat} {ins : Instr} (h : px_fetch k pc = some (ins, len)) : decode (px_m k).2.2.2.1 pc = .ok (ins, len) ∧ px_lenOk ins len = true := by
  have h1 := px_all_get _ pc (px_all_get px_mT k px_mT_code)
  have h2 := px_all_get _ pc (px_all_get px_mT k px_mT_len)
  unfold px_fetch at h
  change px_rowOk (px_m k).2.2.2.1 ((px_codes k).get pc) = true at h1
  change px_rowLen ((px_codes k).get pc) = true at h2
  generalize (px_codes k).get pc = q at h h1 h2
  dsimp only at h
  cases hb : Nat.beq q.1 pc with
  | false => rw [hb] at h; cases h
  | true =>
    rw [hb] at h
    have e := px_beqT hb
    obtain ⟨a, b, c⟩ := q
    cases h
    subst e
    exact ⟨of_decide_eq_true h1, h2⟩
/-- the types of the fields are ints, booleans, longs, references -/
def px_goodTy : FieldType → Bool
  | .int => true
  | .boolean => true
  | .long => true
  | .object _ => true
  | .array _ => true
  | _ => false
theorem px_ty_good {ci : Nat} {C : String} {T : u_T} {N : Nat} (h : vwCl[ci]? = some (C, T, N)) : ∀ j, j < N → px_goodTy (px_ty ci j) = true := by
  match ci, h with
  | 0, h => cases h; decide
  | 1, h => cases h; decide
  | 2, h => cases h; decide
  | 3, h => cases h; decide
  | 4, h => cases h; decide
  | 5, h => cases h; decide
  | 6, h => cases h; decide
  | 7, h => cases h; decide
  | 8, h => cases h; decide
  | 9, h => cases h; decide
  | 10, h => cases h; decide
  | 11, h => cases h; decide
  | 12, h => cases h; decide
  | n + 13, h => simp [vwCl] at h
theorem px_dflt {ad : Nat → Nat} {j : Nat} : ∀ {ty : FieldType}, px_goodTy ty = true → defaultValue ty = px_v ad (px_fv (fun _ => 0) (fun _ => 0) (fun _ => none) j ty)
  | .int, _ => rfl
  | .boolean, _ => rfl
  | .long, _ => rfl
  | .object _, _ => rfl
  | .array _, _ => rfl
def ps_tx : String := "pace takes pays stretch way path one stray send shut open split minute harm to at by if then else end let be in not and or size place kind here behind ahead stood bucket back done "
def ps_St (base : Nat) (rb : Nat → Nat) (s : State) : Prop := ps_Lit (fun q => base ≤ q) (rb 3) (rb 4) s ∧ vk_R "ElevenBullocks$Reader" 177 ps_tx (rb 3) s ∧ va_Z "ElevenBullocks$Reader" "SHAPES" "[I" (.ref (rb 1)) (fun q => base ≤ q) s s.heap ∧ va_Z "ElevenBullocks$Reader" "LAWS_OF_NAMES" "[I" (.ref (rb 2)) (fun q => base ≤ q) s s.heap
theorem px_ad_1 {base : Nat} {rb : Nat → Nat} : px_ad base rb (px_SC + 1) = rb 1 := if_neg (by decide)
theorem px_ad_2 {base : Nat} {rb : Nat → Nat} : px_ad base rb (px_SC + 2) = rb 2 := if_neg (by decide)
theorem px_ad_3 {base : Nat} {rb : Nat → Nat} : px_ad base rb (px_SC + 3) = rb 3 := if_neg (by decide)
theorem px_key6 {k i n : Nat} (h : (Nat.beq (px_key k i) (6000 + n) && Nat.blt i 1000) = true) (hn : n < 1000) : (px_m k).2.2.1 = 6 ∧ i = n := by
  rw [Bool.and_eq_true] at h
  have h1 := px_beqT h.1
  have h2 : i < 1000 := Nat.blt_eq.mp h.2
  unfold px_key at h1
  omega
theorem px_ldcv_ok {k i : Nat} {w : Value} (h : px_ldcv k i = some w) : (∃ x, px_int k i = some x ∧ w = .int x) ∨ ((px_m k).2.2.1 = 6 ∧ i = 177 ∧ w = .ref (px_SC + 3)) := by
  unfold px_ldcv at h
  split at h
  · rename_i x hv
    cases h
    exact Or.inl ⟨x, hv, rfl⟩
  · cases hq : (Nat.beq (px_key k i) 6177 && Nat.blt i 1000) with
    | false => rw [hq] at h; cases h
    | true =>
      rw [hq] at h
      cases h
      obtain ⟨e1, e2⟩ := px_key6 (n := 177) hq (by decide)
      exact Or.inr ⟨e1, e2, rfl⟩
theorem px_stc_ok {k i : Nat} {w : Value} (h : px_stc k i = some w) : ((px_m k).2.2.1 = 6 ∧ i = 101 ∧ w = .ref (px_SC + 1)) ∨ ((px_m k).2.2.1 = 6 ∧ i = 134 ∧ w = .ref (px_SC + 2)) := by
  unfold px_stc at h
  cases hq : (Nat.beq (px_key k i) 6101 && Nat.blt i 1000) with
  | true =>
    rw [hq] at h
    cases h
    obtain ⟨e1, e2⟩ := px_key6 (n := 101) hq (by decide)
    exact Or.inl ⟨e1, e2, rfl⟩
  | false =>
    rw [hq] at h
    cases hq2 : (Nat.beq (px_key k i) 6134 && Nat.blt i 1000) with
    | false => rw [hq2] at h; cases h
    | true =>
      rw [hq2] at h
      cases h
      obtain ⟨e1, e2⟩ := px_key6 (n := 134) hq2 (by decide)
      exact Or.inr ⟨e1, e2, rfl⟩
/-- what an activation of method k stands on -/
def px_Cx (p : Program) (s : State) (m : MethodId) (args : Array Value) (meth : Method) (c : Code) (base : Nat) (rb : Nat → Nat) (ro : px_RO) (D : va_G) (dA : Nat → ClassId) (k c0 : Nat) : Prop :=
  p.tables.exec = Jvm.exec ∧ c.code = (px_m k).2.2.2.1 ∧ c.maxLocals = px_maxL k ∧ s.vm.findClass (px_on (px_m k).2.2.1) = some m.cls ∧ (∀ w ∈ px_ws, w.before args s = true) ∧ (∀ q ∈ px_nest, va_Nw (.methodLinkNest q.1 q.2.1 q.2.2.1 q.2.2.2) s) ∧ va_AO "ElevenBullocks$Script" s ∧ va_K D vwCl (px_tys dA) s ∧ s.heap.size = base + c0 ∧ (∀ (i L : Nat) (xs : Nat → Int32), ro[i]? = some (L, xs) → va_T .int (rb i) L (fun j => .int (xs j)) (fun q => base ≤ q) s s.heap) ∧ ((px_m k).2.1.name = "<init>" → meth.name = "<init>") ∧ ps_St base rb s
/-- the machine's heap, locals and counts as the pure state has them -/
def px_I (base : Nat) (rb : Nat → Nat) (D : va_G) (dA : Nat → ClassId) (s : State) (k c0 s0 : Nat) (lv : px_L) (h : px_H) (H : Heap) (locs : List Loc) (ls : Array Slot) (cells slots : Nat) : Prop :=
  va_P D vwCl (px_w (px_ad base rb) dA h) H ∧ va_S (fun q => base ≤ q) s.heap H locs ∧ lv_has ls (px_maxL k) (px_lv (px_ad base rb) lv) ∧ cells + c0 = h.1.length ∧ slots + s0 = px_sl h.1 ∧ h.1.length ≤ px_SC
def px_Go (p : Program) (l : Launch) (e : Env) (R : Room) (s : State) (m : MethodId) (args : Array Value) (below : List Frame) (meth : Method) (c : Code) (base : Nat) (rb : Nat → Nat) (D : va_G) (dA : Nat → ClassId) (k c0 s0 : Nat) (Q : State → Prop) (x : px_S) : Prop :=
  ∀ (H : Heap) (locs : List Loc) (ls : Array Slot) (cells slots : Nat), px_I base rb D dA s k c0 s0 x.2.1 x.2.2.2 H locs ls cells slots → W p l e R s m args below meth c H locs cells slots Q (F0 m x.1 ls (x.2.2.1.map (px_v (px_ad base rb))))
section PXO
variable {p : Program} {l : Launch} {e : Env} {R : Room} {s : State} {m : MethodId} {args : Array Value} {below : List Frame} {meth : Method} {c : Code} {Q : State → Prop}
variable {base : Nat} {rb : Nat → Nat} {ro : px_RO} {D : va_G} {dA : Nat → ClassId} {k c0 s0 : Nat} {pc : Nat} {lv : px_L} {st : List Value} {h : px_H} {σ : px_S}
theorem px_sized {H : Heap} {locs : List Loc} {cells slots : Nat} {g : JFrame} (kk : H.size ≤ s.heap.size + cells → W p l e R s m args below meth c H locs cells slots Q g) : W p l e R s m args below meth c H locs cells slots Q g :=
  fun T hT X => kk (by rw [← hT]; exact X.heapSize) T hT X
theorem px_s_psh {v : Option Value} {n : Nat} (ho : px_psh (pc + n) lv st h v = some σ) (kk : px_Go p l e R s m args below meth c base rb D dA k c0 s0 Q σ) (row : ∀ (w : Value), v = some w → ∀ (H : Heap) (locs : List Loc) (ls : Array Slot) (cells slots : Nat), lv_has ls (px_maxL k) (px_lv (px_ad base rb) lv) → W p l e R s m args below meth c H locs cells slots Q (F0 m (pc + n) ls (px_v (px_ad base rb) w :: st.map (px_v (px_ad base rb)))) → W p l e R s m args below meth c H locs cells slots Q (F0 m pc ls (st.map (px_v (px_ad base rb))))) : px_Go p l e R s m args below meth c base rb D dA k c0 s0 Q (pc, lv, st, h) := by
  cases v with
  | none => cases ho
  | some w =>
    cases ho
    intro H locs ls cells slots I
    exact row w rfl H locs ls cells slots I.2.2.1 (kk H locs ls cells slots I)
theorem px_get0 {i : Nat} {w : Value} (h : px_get lv i 0 = some w) : ∃ x, w = .int x ∧ px_ld lv i = some (.int x) := by
  unfold px_get at h
  split at h <;> first | (cases h; done) | skip
  all_goals first | (rename_i h1; cases h; exact ⟨_, rfl, h1⟩) | (rename_i h0 h1; cases h0) | omega
theorem px_get1 {i : Nat} {w : Value} (h : px_get lv i 1 = some w) : ∃ x, w = .long x ∧ px_ld lv i = some (.long x) := by
  unfold px_get at h
  split at h <;> first | (cases h; done) | skip
  all_goals first | (rename_i h1; cases h; exact ⟨_, rfl, h1⟩) | (rename_i h0 h1; cases h0) | omega
theorem px_get2 {i : Nat} {w : Value} (h : px_get lv i 2 = some w) : (∃ x, w = .ref x ∧ px_ld lv i = some (.ref x)) ∨ (w = .null ∧ px_ld lv i = some .null) := by
  unfold px_get at h
  split at h <;> first | (cases h; done) | skip
  all_goals first | (rename_i h1; cases h; first | exact Or.inl ⟨_, rfl, h1⟩ | exact Or.inr ⟨rfl, h1⟩) | (rename_i h0 h1; cases h0) | omega
theorem px_s_sto {n i kd : Nat} (ho : px_oSto k (pc + n) lv st h i kd = some σ) (kk : px_Go p l e R s m args below meth c base rb D dA k c0 s0 Q σ)
    (row0 : ∀ (x : Int32) (H : Heap) (locs : List Loc) (ls : Array Slot) (cells slots : Nat) (rest : List Value), kd = 0 → i < px_maxL k → lv_has ls (px_maxL k) (px_lv (px_ad base rb) lv) → (∀ ls', lv_has ls' (px_maxL k) (px_lv (px_ad base rb) (px_st1 lv i (.int x))) → W p l e R s m args below meth c H locs cells slots Q (F0 m (pc + n) ls' rest)) → W p l e R s m args below meth c H locs cells slots Q (F0 m pc ls (.int x :: rest)))
    (row1 : ∀ (x : Int64) (H : Heap) (locs : List Loc) (ls : Array Slot) (cells slots : Nat) (rest : List Value), kd = 1 → i + 1 < px_maxL k → lv_has ls (px_maxL k) (px_lv (px_ad base rb) lv) → (∀ ls', lv_has ls' (px_maxL k) (px_lv (px_ad base rb) (px_st2 lv i (.long x))) → W p l e R s m args below meth c H locs cells slots Q (F0 m (pc + n) ls' rest)) → W p l e R s m args below meth c H locs cells slots Q (F0 m pc ls (.long x :: rest)))
    (row2 : ∀ (x : Nat) (H : Heap) (locs : List Loc) (ls : Array Slot) (cells slots : Nat) (rest : List Value), kd = 2 → i < px_maxL k → lv_has ls (px_maxL k) (px_lv (px_ad base rb) lv) → (∀ ls', lv_has ls' (px_maxL k) (px_lv (px_ad base rb) (px_st1 lv i (.ref x))) → W p l e R s m args below meth c H locs cells slots Q (F0 m (pc + n) ls' rest)) → W p l e R s m args below meth c H locs cells slots Q (F0 m pc ls (.ref (px_ad base rb x) :: rest)))
    (row3 : ∀ (H : Heap) (locs : List Loc) (ls : Array Slot) (cells slots : Nat) (rest : List Value), kd = 2 → i < px_maxL k → lv_has ls (px_maxL k) (px_lv (px_ad base rb) lv) → (∀ ls', lv_has ls' (px_maxL k) (px_lv (px_ad base rb) (px_st1 lv i .null)) → W p l e R s m args below meth c H locs cells slots Q (F0 m (pc + n) ls' rest)) → W p l e R s m args below meth c H locs cells slots Q (F0 m pc ls (.null :: rest))) : px_Go p l e R s m args below meth c base rb D dA k c0 s0 Q (pc, lv, st, h) := by
  unfold px_oSto at ho
  split at ho
  · rename_i v st
    split at ho
    · rename_i lv' hs
      cases ho
      intro H locs ls cells slots I
      obtain ⟨hP, hS, hl, hc, hsl, hsc⟩ := I
      unfold px_sto at hs
      split at hs
      · rename_i x
        cases hb : Nat.blt i (px_maxL k) with
        | false => rw [hb] at hs; cases hs
        | true =>
          rw [hb] at hs
          cases hs
          exact row0 x H locs ls cells slots _ rfl (px_bltT hb) hl (fun ls' hl' => kk H locs ls' cells slots ⟨hP, hS, hl', hc, hsl, hsc⟩)
      · rename_i x
        cases hb : Nat.blt (i + 1) (px_maxL k) with
        | false => rw [hb] at hs; cases hs
        | true =>
          rw [hb] at hs
          cases hs
          exact row1 x H locs ls cells slots _ rfl (px_bltT hb) hl (fun ls' hl' => kk H locs ls' cells slots ⟨hP, hS, hl', hc, hsl, hsc⟩)
      · rename_i x
        cases hb : Nat.blt i (px_maxL k) with
        | false => rw [hb] at hs; cases hs
        | true =>
          rw [hb] at hs
          cases hs
          exact row2 x H locs ls cells slots _ rfl (px_bltT hb) hl (fun ls' hl' => kk H locs ls' cells slots ⟨hP, hS, hl', hc, hsl, hsc⟩)
      · cases hb : Nat.blt i (px_maxL k) with
        | false => rw [hb] at hs; cases hs
        | true =>
          rw [hb] at hs
          cases hs
          exact row3 H locs ls cells slots _ rfl (px_bltT hb) hl (fun ls' hl' => kk H locs ls' cells slots ⟨hP, hS, hl', hc, hsl, hsc⟩)
      · cases hs
    · cases ho
  · cases ho
/-- what the rows of arithmetic share -/
theorem px_s_ari {ins : Instr} {n : Nat} (ho : px_oAri ins (pc + n) lv st h = some σ) (kk : px_Go p l e R s m args below meth c base rb D dA k c0 s0 Q σ) (row : ∀ (x y v : Int32), px_ari ins x y = some v → ∀ (H : Heap) (locs : List Loc) (ls : Array Slot) (cells slots : Nat) (rest : List Value), W p l e R s m args below meth c H locs cells slots Q (F0 m (pc + n) ls (.int v :: rest)) → W p l e R s m args below meth c H locs cells slots Q (F0 m pc ls (.int y :: .int x :: rest))) : px_Go p l e R s m args below meth c base rb D dA k c0 s0 Q (pc, lv, st, h) := by
  unfold px_oAri at ho
  split at ho
  · split at ho
    · rename_i v hv
      cases ho
      intro H locs ls cells slots I
      exact row _ _ v hv H locs ls cells slots _ (kk H locs ls cells slots I)
    · cases ho
  · cases ho
theorem px_s_arl {ins : Instr} {n : Nat} (ho : px_oArl ins (pc + n) lv st h = some σ) (kk : px_Go p l e R s m args below meth c base rb D dA k c0 s0 Q σ) (row : ∀ (x y v : Int64), px_arl ins x y = some v → ∀ (H : Heap) (locs : List Loc) (ls : Array Slot) (cells slots : Nat) (rest : List Value), W p l e R s m args below meth c H locs cells slots Q (F0 m (pc + n) ls (.long v :: rest)) → W p l e R s m args below meth c H locs cells slots Q (F0 m pc ls (.long y :: .long x :: rest))) : px_Go p l e R s m args below meth c base rb D dA k c0 s0 Q (pc, lv, st, h) := by
  unfold px_oArl at ho
  split at ho
  · split at ho
    · rename_i v hv
      cases ho
      intro H locs ls cells slots I
      exact row _ _ v hv H locs ls cells slots _ (kk H locs ls cells slots I)
    · cases ho
  · cases ho
theorem px_tg_ok {off : Int} {t : Nat} (h : px_tg pc off = some t) : (pc : Int) + off = (t : Int) := by
  unfold px_tg at h
  split at h
  · rename_i t' e
    cases h
    exact e
  · cases h
theorem px_s_jmp {t : Option Nat} (ho : px_jmp lv st h t = some σ) (kk : px_Go p l e R s m args below meth c base rb D dA k c0 s0 Q σ) {g : List Value} (row : ∀ (t' : Nat), t = some t' → ∀ (H : Heap) (locs : List Loc) (ls : Array Slot) (cells slots : Nat), W p l e R s m args below meth c H locs cells slots Q (F0 m t' ls (st.map (px_v (px_ad base rb)))) → W p l e R s m args below meth c H locs cells slots Q (F0 m pc ls (g.map (px_v (px_ad base rb))))) : px_Go p l e R s m args below meth c base rb D dA k c0 s0 Q (pc, lv, g, h) := by
  cases t with
  | none => cases ho
  | some t' =>
    cases ho
    intro H locs ls cells slots I
    exact row t' rfl H locs ls cells slots (kk H locs ls cells slots I)
theorem px_s_if {cd : ClassFile.Cond} {off : Int} (hx : p.tables.exec = Jvm.exec) {cc : ByteArray} (hb : c.code = cc) (hdg : decode cc pc = .ok (.ifCond cd off, 3)) (ho : px_oIf cd off pc lv st h = some σ) (kk : px_Go p l e R s m args below meth c base rb D dA k c0 s0 Q σ) : px_Go p l e R s m args below meth c base rb D dA k c0 s0 Q (pc, lv, st, h) := by
  unfold px_oIf at ho
  split at ho
  · rename_i x st
    split at ho
    · rename_i t ht
      cases ho
      have ht := px_tg_ok ht
      intro H locs ls cells slots I
      have K := kk H locs ls cells slots I
      cases cd with
      | eq =>
        refine lv_if_eq (tgt := t) hx hb hdg ht (fun q => ?_) (fun q => ?_)
        · have e : px_br .eq x 0 t (pc + 3) = t := if_pos q
          rw [e] at K; exact K
        · have e : px_br .eq x 0 t (pc + 3) = pc + 3 := if_neg q
          rw [e] at K; exact K
      | ne =>
        refine lv_if_ne (tgt := t) hx hb hdg ht (fun q => ?_) (fun q => ?_)
        · have e : px_br .ne x 0 t (pc + 3) = t := if_neg q
          rw [e] at K; exact K
        · have e : px_br .ne x 0 t (pc + 3) = pc + 3 := if_pos q
          rw [e] at K; exact K
      | lt =>
        refine lv_if_lt (tgt := t) hx hb hdg ht (fun q => ?_) (fun q => ?_)
        · have e : px_br .lt x 0 t (pc + 3) = t := if_pos q
          rw [e] at K; exact K
        · have e : px_br .lt x 0 t (pc + 3) = pc + 3 := if_neg q
          rw [e] at K; exact K
      | ge =>
        refine lv_if_ge (tgt := t) hx hb hdg ht (fun q => ?_) (fun q => ?_)
        · have e : px_br .ge x 0 t (pc + 3) = t := if_pos q
          rw [e] at K; exact K
        · have e : px_br .ge x 0 t (pc + 3) = pc + 3 := if_neg q
          rw [e] at K; exact K
      | gt =>
        refine lv_if_gt (tgt := t) hx hb hdg ht (fun q => ?_) (fun q => ?_)
        · have e : px_br .gt x 0 t (pc + 3) = t := if_pos q
          rw [e] at K; exact K
        · have e : px_br .gt x 0 t (pc + 3) = pc + 3 := if_neg q
          rw [e] at K; exact K
      | le =>
        refine lv_if_le (tgt := t) hx hb hdg ht (fun q => ?_) (fun q => ?_)
        · have e : px_br .le x 0 t (pc + 3) = t := if_pos q
          rw [e] at K; exact K
        · have e : px_br .le x 0 t (pc + 3) = pc + 3 := if_neg q
          rw [e] at K; exact K
    · cases ho
  · cases ho
theorem px_s_icmp {cd : ClassFile.Cond} {off : Int} (hx : p.tables.exec = Jvm.exec) {cc : ByteArray} (hb : c.code = cc) (hdg : decode cc pc = .ok (.if_icmp cd off, 3)) (ho : px_oIcmp cd off pc lv st h = some σ) (kk : px_Go p l e R s m args below meth c base rb D dA k c0 s0 Q σ) : px_Go p l e R s m args below meth c base rb D dA k c0 s0 Q (pc, lv, st, h) := by
  unfold px_oIcmp at ho
  split at ho
  · rename_i y x st
    split at ho
    · rename_i t ht
      cases ho
      have ht := px_tg_ok ht
      intro H locs ls cells slots I
      have K := kk H locs ls cells slots I
      cases cd with
      | eq =>
        refine lv_icmp_eq (tgt := t) hx hb hdg ht (fun q => ?_) (fun q => ?_)
        · have e : px_br .eq x y t (pc + 3) = t := if_pos q
          rw [e] at K; exact K
        · have e : px_br .eq x y t (pc + 3) = pc + 3 := if_neg q
          rw [e] at K; exact K
      | ne =>
        refine lv_icmp_ne (tgt := t) hx hb hdg ht (fun q => ?_) (fun q => ?_)
        · have e : px_br .ne x y t (pc + 3) = t := if_neg q
          rw [e] at K; exact K
        · have e : px_br .ne x y t (pc + 3) = pc + 3 := if_pos q
          rw [e] at K; exact K
      | lt =>
        refine lv_icmp_lt (tgt := t) hx hb hdg ht (fun q => ?_) (fun q => ?_)
        · have e : px_br .lt x y t (pc + 3) = t := if_pos q
          rw [e] at K; exact K
        · have e : px_br .lt x y t (pc + 3) = pc + 3 := if_neg q
          rw [e] at K; exact K
      | ge =>
        refine lv_icmp_ge (tgt := t) hx hb hdg ht (fun q => ?_) (fun q => ?_)
        · have e : px_br .ge x y t (pc + 3) = t := if_pos q
          rw [e] at K; exact K
        · have e : px_br .ge x y t (pc + 3) = pc + 3 := if_neg q
          rw [e] at K; exact K
      | gt =>
        refine lv_icmp_gt (tgt := t) hx hb hdg ht (fun q => ?_) (fun q => ?_)
        · have e : px_br .gt x y t (pc + 3) = t := if_pos q
          rw [e] at K; exact K
        · have e : px_br .gt x y t (pc + 3) = pc + 3 := if_neg q
          rw [e] at K; exact K
      | le =>
        refine lv_icmp_le (tgt := t) hx hb hdg ht (fun q => ?_) (fun q => ?_)
        · have e : px_br .le x y t (pc + 3) = t := if_pos q
          rw [e] at K; exact K
        · have e : px_br .le x y t (pc + 3) = pc + 3 := if_neg q
          rw [e] at K; exact K
    · cases ho
  · cases ho
end PXO
section PXH
variable {p : Program} {l : Launch} {e : Env} {R : Room} {s : State} {m : MethodId} {args : Array Value} {below : List Frame} {meth : Method} {c : Code} {Q : State → Prop}
variable {base : Nat} {rb : Nat → Nat} {ro : px_RO} {D : va_G} {dA : Nat → ClassId} {k c0 s0 : Nat} {pc : Nat} {lv : px_L} {st : List Value} {h : px_H} {σ : px_S}
theorem px_inT {i : Int32} {n : Nat} (h : px_in i n = true) : vp_in i n := by unfold vp_in; exact of_decide_eq_true h
theorem px_upd_row {f : Nat → Nat → Int32} {a i : Nat} {x : Int32} : upd (f a) i x = px_up f a i x a := by
  rw [px_up_eq]
  funext b
  unfold upd
  by_cases e : b = i
  · subst e
    rw [if_pos rfl, show Nat.beq b b = true from Nat.beq_refl b]; rfl
  · rw [if_neg e, px_beqN e]; rfl
theorem px_updL_row {f : Nat → Nat → Int64} {a i : Nat} {x : Int64} : vp_updL (f a) i x = px_up f a i x a := by
  rw [px_up_eq]
  funext b
  unfold vp_updL
  by_cases e : b = i
  · subst e
    rw [if_pos rfl, show Nat.beq b b = true from Nat.beq_refl b]; rfl
  · rw [if_neg e, px_beqN e]; rfl
/-- a cell of ints is written -/
theorem px_setI {h : px_H} {a t n : Nat} {g : Nat → Nat → Int32} (ha : h.1[a]? = some (.inl (t, n))) (ht : t = 0 ∨ t = 2) (ho : ∀ j, j ≠ a → g j = h.2.1 j) : (px_w (px_ad base rb) dA h).set a (px_ad base rb a, .inl (dA t, n, .inl (g a))) = px_w (px_ad base rb) dA (h.1, g, h.2.2.1, h.2.2.2) := by
  rw [← px_w_set (ad := px_ad base rb) (dA := dA) (h := h) (h' := (h.1, g, h.2.2.1, h.2.2.2)) (k := a) rfl ha (fun j hj => ⟨ho j hj, rfl, rfl⟩)]
  rcases ht with rfl | rfl <;> rfl
theorem px_setJ {h : px_H} {a n : Nat} {g : Nat → Nat → Int64} (ha : h.1[a]? = some (.inl (1, n))) (ho : ∀ j, j ≠ a → g j = h.2.2.1 j) : (px_w (px_ad base rb) dA h).set a (px_ad base rb a, .inl (dA 1, n, .inr (.inl (g a)))) = px_w (px_ad base rb) dA (h.1, h.2.1, g, h.2.2.2) := by
  rw [← px_w_set (ad := px_ad base rb) (dA := dA) (h := h) (h' := (h.1, h.2.1, g, h.2.2.2)) (k := a) rfl ha (fun j hj => ⟨rfl, ho j hj, rfl⟩)]
  rfl
theorem px_setP {h : px_H} {a n : Nat} {g : Nat → Nat → Option Nat} (ha : h.1[a]? = some (.inl (3, n))) (ho : ∀ j, j ≠ a → g j = h.2.2.2 j) : (px_w (px_ad base rb) dA h).set a (px_ad base rb a, .inl (dA 3, n, .inr (.inr (.inr (.inr (fun i => (g a i).map (px_ad base rb))))))) = px_w (px_ad base rb) dA (h.1, h.2.1, h.2.2.1, g) := by
  rw [← px_w_set (ad := px_ad base rb) (dA := dA) (h := h) (h' := (h.1, h.2.1, h.2.2.1, g)) (k := a) rfl ha (fun j hj => ⟨rfl, rfl, ho j hj⟩)]
  rfl
theorem px_s_get {i : Nat} (Cx : px_Cx p s m args meth c base rb ro D dA k c0) (hdg : decode (px_m k).2.2.2.1 pc = .ok (.getfield i, 3)) (ho : px_oGet k i (pc + 3) lv st h = some σ) (kk : px_Go p l e R s m args below meth c base rb D dA k c0 s0 Q σ) : px_Go p l e R s m args below meth c base rb D dA k c0 s0 Q (pc, lv, st, h) := by
  obtain ⟨hx, hb, hml, hown, hts, hnest, hao, hK, hsz, hro, hin, hst9⟩ := Cx
  unfold px_oGet at ho
  split at ho
  · rename_i a st
    split at ho
    · rename_i ci f ci' hf ha
      cases hq : (Nat.beq ci ci' && Nat.blt a px_SC) with
      | false => rw [hq] at ho; cases ho
      | true =>
        rw [hq] at ho
        cases ho
        rw [Bool.and_eq_true] at hq
        have e := px_beqT hq.1
        subst e
        obtain ⟨C, T, N, hc, hfN, hlink⟩ := px_fld_ok hf
        have hcl := px_cl hc
        intro H locs ls cells slots I
        have hget := px_w_get (ad := px_ad base rb) (dA := dA) ha
        exact va_get (D := D) (ci := ci) (C := C) (T := T) (N := N) hx hb hts hcl.2.1 hown hK I.1 a hget hc f hfN (hts _ hlink) (fun _ h9 => h9) (px_fs_get (by rw [px_n_of hc]; exact hfN)) hdg (kk H locs ls cells slots I)
    · cases ho
  · cases ho
theorem px_put_ok {h' : px_H} {a ci f : Nat} {v : Value} (hp : px_put h a f (px_ty ci f) v = some h') (ha : h.1[a]? = some (.inr ci)) (hf : f < px_n ci) :
    narrow (px_ty ci f) (px_v (px_ad base rb) v) = px_v (px_ad base rb) v ∧ fits (px_ty ci f) (px_v (px_ad base rb) v) = true ∧ h'.1 = h.1 ∧
    (px_w (px_ad base rb) dA h).set a (px_ad base rb a, .inr (ci, (px_fs (px_ad base rb) (h.2.1 a) (h.2.2.1 a) (h.2.2.2 a) ci).set f (px_v (px_ad base rb) v))) = px_w (px_ad base rb) dA h' := by
  have key : ∀ (h' : px_H), h'.1 = h.1 → (∀ j, j ≠ a → h'.2.1 j = h.2.1 j ∧ h'.2.2.1 j = h.2.2.1 j ∧ h'.2.2.2 j = h.2.2.2 j) → (∀ j, j ≠ f → h'.2.1 a j = h.2.1 a j ∧ h'.2.2.1 a j = h.2.2.1 a j ∧ h'.2.2.2 a j = h.2.2.2 a j) → px_fv (h'.2.1 a) (h'.2.2.1 a) (h'.2.2.2 a) f (px_ty ci f) = v →
      (px_w (px_ad base rb) dA h).set a (px_ad base rb a, .inr (ci, (px_fs (px_ad base rb) (h.2.1 a) (h.2.2.1 a) (h.2.2.2 a) ci).set f (px_v (px_ad base rb) v))) = px_w (px_ad base rb) dA h' := by
    intro h' e1 e2 e3 e4
    rw [← px_w_set (ad := px_ad base rb) (dA := dA) (h := h) (h' := h') (k := a) e1 ha e2]
    show _ = (px_w (px_ad base rb) dA h).set a (px_ad base rb a, .inr (ci, px_fs (px_ad base rb) (h'.2.1 a) (h'.2.2.1 a) (h'.2.2.2 a) ci))
    rw [← px_fs_set hf e3, e4]
  have ne1 : ∀ {α : Type} {g : Nat → Nat → α} {x : α} {j : Nat}, j ≠ a → px_up g a f x j = g j := fun hj => px_up_ne hj
  have ne2 : ∀ {α : Type} {g : Nat → Nat → α} {x : α} {j : Nat}, j ≠ f → px_up g a f x a j = g a j := fun {α g x j} hj => by rw [px_up_eq]; show cond (Nat.beq j f) x (g a j) = _; rw [px_beqN hj]; rfl
  have eq2 : ∀ {α : Type} {g : Nat → Nat → α} {x : α}, px_up g a f x a f = x := fun {α g x} => by rw [px_up_eq]; show cond (Nat.beq f f) x (g a f) = _; rw [show Nat.beq f f = true from Nat.beq_refl f]; rfl
  generalize hty : px_ty ci f = ty at *
  unfold px_put at hp
  split at hp
  · cases hp
    exact ⟨rfl, rfl, rfl, key _ rfl (fun j hj => ⟨ne1 hj, rfl, rfl⟩) (fun j hj => ⟨ne2 hj, rfl, rfl⟩) (congrArg Value.int eq2)⟩
  · rename_i x
    split at hp
    · rename_i hx
      cases hp
      refine ⟨?_, ?_, rfl, key _ rfl (fun j hj => ⟨ne1 hj, rfl, rfl⟩) (fun j hj => ⟨ne2 hj, rfl, rfl⟩) (congrArg Value.int eq2)⟩
      · rcases hx with rfl | rfl <;> rfl
      · rcases hx with rfl | rfl <;> rfl
    · cases hp
  · cases hp
    exact ⟨rfl, rfl, rfl, key _ rfl (fun j hj => ⟨rfl, ne1 hj, rfl⟩) (fun j hj => ⟨rfl, ne2 hj, rfl⟩) (congrArg Value.long eq2)⟩
  · cases hp
    exact ⟨rfl, rfl, rfl, key _ rfl (fun j hj => ⟨rfl, rfl, ne1 hj⟩) (fun j hj => ⟨rfl, rfl, ne2 hj⟩) (congrArg va_rf eq2)⟩
  · cases hp
    exact ⟨rfl, rfl, rfl, key _ rfl (fun j hj => ⟨rfl, rfl, ne1 hj⟩) (fun j hj => ⟨rfl, rfl, ne2 hj⟩) (congrArg va_rf eq2)⟩
  · cases hp
    exact ⟨rfl, rfl, rfl, key _ rfl (fun j hj => ⟨rfl, rfl, ne1 hj⟩) (fun j hj => ⟨rfl, rfl, ne2 hj⟩) (congrArg va_rf eq2)⟩
  · cases hp
    exact ⟨rfl, rfl, rfl, key _ rfl (fun j hj => ⟨rfl, rfl, ne1 hj⟩) (fun j hj => ⟨rfl, rfl, ne2 hj⟩) (congrArg va_rf eq2)⟩
  · cases hp
theorem px_s_put {i : Nat} (Cx : px_Cx p s m args meth c base rb ro D dA k c0) (hdg : decode (px_m k).2.2.2.1 pc = .ok (.putfield i, 3)) (ho : px_oPut k i (pc + 3) lv st h = some σ) (kk : px_Go p l e R s m args below meth c base rb D dA k c0 s0 Q σ) : px_Go p l e R s m args below meth c base rb D dA k c0 s0 Q (pc, lv, st, h) := by
  obtain ⟨hx, hb, hml, hown, hts, hnest, hao, hK, hsz, hro, hin, hst9⟩ := Cx
  unfold px_oPut at ho
  split at ho
  · rename_i v a st
    split at ho
    · rename_i ci f ci' hf ha
      cases hq : (Nat.beq ci ci' && Nat.blt a px_SC && px_mayPut k ci f) with
      | false => rw [hq] at ho; cases ho
      | true =>
        rw [hq] at ho
        dsimp only [cond_true] at ho
        split at ho
        · rename_i h' hp
          cases ho
          simp only [Bool.and_eq_true] at hq
          have e := px_beqT hq.1.1
          subst e
          obtain ⟨C, T, N, hc, hfN, hlink⟩ := px_fld_ok hf
          have hcl := px_cl hc
          have hn := px_n_of hc
          obtain ⟨w1, w2, w3, w4⟩ := px_put_ok (base := base) (rb := rb) (dA := dA) hp ha (by rw [hn]; exact hfN)
          intro H locs ls cells slots I
          obtain ⟨hP, hS, hl, hcc, hsl, hsc⟩ := I
          have hget := px_w_get (ad := px_ad base rb) (dA := dA) ha
          have goOn : ∀ (H1 : Heap) (locs1 : List Loc), va_P D vwCl ((px_w (px_ad base rb) dA h).set a (px_ad base rb a, .inr (ci, (px_fs (px_ad base rb) (h.2.1 a) (h.2.2.1 a) (h.2.2.2 a) ci).set f (px_v (px_ad base rb) v)))) H1 → va_S (fun q => base ≤ q) s.heap H1 locs1 → W p l e R s m args below meth c H1 locs1 cells slots Q (F0 m (pc + 3) ls (st.map (px_v (px_ad base rb)))) := by
            intro H1 locs1 hP1 hS1
            rw [w4] at hP1
            exact kk H1 locs1 ls cells slots ⟨hP1, hS1, hl, by show _ = h'.1.length; rw [w3]; exact hcc, by show _ = px_sl h'.1; rw [w3]; exact hsl, by show h'.1.length ≤ _; rw [w3]; exact hsc⟩
          have hmp := hq.2
          unfold px_mayPut at hmp
          rw [hc] at hmp
          cases hfin : (T f).2.2.2 with
          | false => exact va_put (D := D) (ci := ci) (C := C) (T := T) (N := N) hx hb hts hcl.2.1 (px_ty ci) hcl.2.2.1 hcl.2.2.2.1 hown hK hP (px_w_D hsc) hS a hget hc f hfN (hts _ hlink) (fun _ h9 => h9) hfin (hcl.2.2.1 f hfN) w1 w2 (by show f < (px_fs _ _ _ _ _).length; rw [px_fs_len, hn]; exact hfN) hdg (fun H1 locs1 hP1 _ hS1 => goOn H1 locs1 hP1 hS1)
          | true =>
            simp only [hfin, Bool.not_true, Bool.false_or, Bool.and_eq_true, beq_iff_eq] at hmp
            exact va_putF (D := D) (ci := ci) (C := C) (T := T) (N := N) hx hb hts hcl.2.1 (px_ty ci) hcl.2.2.1 hcl.2.2.2.1 hown hK hP (px_w_D hsc) hS a hget hc f hfN (hts _ hlink) (fun _ h9 => h9) hfin (hin hmp.1) hmp.2 (hcl.2.2.1 f hfN) w1 w2 (by show f < (px_fs _ _ _ _ _).length; rw [px_fs_len, hn]; exact hfN) hdg (fun H1 locs1 hP1 _ hS1 => goOn H1 locs1 hP1 hS1)
        · cases ho
    · cases ho
  · cases ho
theorem px_s_iald (Cx : px_Cx p s m args meth c base rb ro D dA k c0) (hdg : decode (px_m k).2.2.2.1 pc = .ok (.iaload, 1)) (ho : px_oIald ro (pc + 1) lv st h = some σ) (kk : px_Go p l e R s m args below meth c base rb D dA k c0 s0 Q σ) : px_Go p l e R s m args below meth c base rb D dA k c0 s0 Q (pc, lv, st, h) := by
  obtain ⟨hx, hb, hml, hown, hts, hnest, hao, hK, hsz, hro, hin, hst9⟩ := Cx
  unfold px_oIald at ho
  split at ho
  · rename_i i a st
    cases hq : Nat.ble px_SC a with
    | true =>
      rw [hq] at ho
      dsimp only [cond_true] at ho
      split at ho
      · rename_i n xs hr
        cases hi : px_in i n with
        | false => rw [hi] at ho; cases ho
        | true =>
          rw [hi] at ho
          cases ho
          have hX := hro _ _ _ hr
          intro H locs ls cells slots I
          have hle := px_bleT hq
          have ead : px_ad base rb a = rb (a - px_SC) := if_neg (by omega)
          have K := kk H locs ls cells slots I
          show W p l e R s m args below meth c H locs cells slots Q (F0 m pc ls (.int i :: .ref (px_ad base rb a) :: _))
          rw [ead]
          exact va_ti hx hb hX I.2.1 (px_inT hi) rfl hdg K
      · cases ho
    | false =>
      rw [hq] at ho
      dsimp only [cond_false] at ho
      split at ho
      · rename_i n ha
        cases hi : px_in i n with
        | false => rw [hi] at ho; cases ho
        | true =>
          rw [hi] at ho
          cases ho
          intro H locs ls cells slots I
          exact va_iald hx hb hK I.1 a 0 (px_w_get ha) rfl (px_inT hi) hdg (kk H locs ls cells slots I)
      · cases ho
  · cases ho
theorem px_s_zald (Cx : px_Cx p s m args meth c base rb ro D dA k c0) (hdg : decode (px_m k).2.2.2.1 pc = .ok (.baload, 1)) (ho : px_oZald (pc + 1) lv st h = some σ) (kk : px_Go p l e R s m args below meth c base rb D dA k c0 s0 Q σ) : px_Go p l e R s m args below meth c base rb D dA k c0 s0 Q (pc, lv, st, h) := by
  obtain ⟨hx, hb, hml, hown, hts, hnest, hao, hK, hsz, hro, hin, hst9⟩ := Cx
  unfold px_oZald at ho
  split at ho
  · rename_i i a st
    split at ho
    · rename_i n ha
      cases hq : (px_in i n && Nat.blt a px_SC) with
      | false => rw [hq] at ho; cases ho
      | true =>
        rw [hq] at ho
        cases ho
        rw [Bool.and_eq_true] at hq
        intro H locs ls cells slots I
        exact va_zald hx hb hK I.1 a 2 (px_w_get ha) rfl (px_inT hq.1) hdg (kk H locs ls cells slots I)
    · cases ho
  · cases ho
theorem px_s_lald (Cx : px_Cx p s m args meth c base rb ro D dA k c0) (hdg : decode (px_m k).2.2.2.1 pc = .ok (.laload, 1)) (ho : px_oLald (pc + 1) lv st h = some σ) (kk : px_Go p l e R s m args below meth c base rb D dA k c0 s0 Q σ) : px_Go p l e R s m args below meth c base rb D dA k c0 s0 Q (pc, lv, st, h) := by
  obtain ⟨hx, hb, hml, hown, hts, hnest, hao, hK, hsz, hro, hin, hst9⟩ := Cx
  unfold px_oLald at ho
  split at ho
  · rename_i i a st
    split at ho
    · rename_i n ha
      cases hq : (px_in i n && Nat.blt a px_SC) with
      | false => rw [hq] at ho; cases ho
      | true =>
        rw [hq] at ho
        cases ho
        rw [Bool.and_eq_true] at hq
        intro H locs ls cells slots I
        exact va_lald hx hb hK I.1 a 1 (px_w_get ha) rfl (px_inT hq.1) hdg (kk H locs ls cells slots I)
    · cases ho
  · cases ho
theorem px_s_iast (Cx : px_Cx p s m args meth c base rb ro D dA k c0) (hdg : decode (px_m k).2.2.2.1 pc = .ok (.iastore, 1)) (ho : px_oIast (pc + 1) lv st h = some σ) (kk : px_Go p l e R s m args below meth c base rb D dA k c0 s0 Q σ) : px_Go p l e R s m args below meth c base rb D dA k c0 s0 Q (pc, lv, st, h) := by
  obtain ⟨hx, hb, hml, hown, hts, hnest, hao, hK, hsz, hro, hin, hst9⟩ := Cx
  unfold px_oIast at ho
  split at ho
  · rename_i x i a st
    split at ho
    · rename_i n ha
      cases hq : (px_in i n && Nat.blt a px_SC) with
      | false => rw [hq] at ho; cases ho
      | true =>
        rw [hq] at ho
        cases ho
        rw [Bool.and_eq_true] at hq
        intro H locs ls cells slots I
        obtain ⟨hP, hS, hl, hcc, hsl, hsc⟩ := I
        refine va_iast hx hb hK hP (px_w_D hsc) hS a 0 (px_w_get ha) rfl (px_inT hq.1) hdg (fun H1 locs1 hP1 _ hS1 => ?_)
        rw [px_upd_row (f := h.2.1), px_setI (g := px_up h.2.1 a i.toNatClampNeg x) ha (Or.inl rfl) (fun j hj => px_up_ne hj)] at hP1
        exact kk H1 locs1 ls cells slots ⟨hP1, hS1, hl, hcc, hsl, hsc⟩
    · cases ho
  · cases ho
theorem px_s_zast (Cx : px_Cx p s m args meth c base rb ro D dA k c0) (hdg : decode (px_m k).2.2.2.1 pc = .ok (.bastore, 1)) (ho : px_oZast (pc + 1) lv st h = some σ) (kk : px_Go p l e R s m args below meth c base rb D dA k c0 s0 Q σ) : px_Go p l e R s m args below meth c base rb D dA k c0 s0 Q (pc, lv, st, h) := by
  obtain ⟨hx, hb, hml, hown, hts, hnest, hao, hK, hsz, hro, hin, hst9⟩ := Cx
  unfold px_oZast at ho
  split at ho
  · rename_i x i a st
    split at ho
    · rename_i n ha
      cases hq : (px_in i n && Nat.blt a px_SC) with
      | false => rw [hq] at ho; cases ho
      | true =>
        rw [hq] at ho
        cases ho
        rw [Bool.and_eq_true] at hq
        intro H locs ls cells slots I
        obtain ⟨hP, hS, hl, hcc, hsl, hsc⟩ := I
        refine va_zast hx hb hK hP (px_w_D hsc) hS a 2 (px_w_get ha) rfl (px_inT hq.1) hdg (fun H1 locs1 hP1 _ hS1 => ?_)
        rw [show vp_nar .boolean x = x &&& 1 from rfl, px_upd_row (f := h.2.1), px_setI (g := px_up h.2.1 a i.toNatClampNeg (x &&& 1)) ha (Or.inr rfl) (fun j hj => px_up_ne hj)] at hP1
        exact kk H1 locs1 ls cells slots ⟨hP1, hS1, hl, hcc, hsl, hsc⟩
    · cases ho
  · cases ho
theorem px_s_last (Cx : px_Cx p s m args meth c base rb ro D dA k c0) (hdg : decode (px_m k).2.2.2.1 pc = .ok (.lastore, 1)) (ho : px_oLast (pc + 1) lv st h = some σ) (kk : px_Go p l e R s m args below meth c base rb D dA k c0 s0 Q σ) : px_Go p l e R s m args below meth c base rb D dA k c0 s0 Q (pc, lv, st, h) := by
  obtain ⟨hx, hb, hml, hown, hts, hnest, hao, hK, hsz, hro, hin, hst9⟩ := Cx
  unfold px_oLast at ho
  split at ho
  · rename_i x i a st
    split at ho
    · rename_i n ha
      cases hq : (px_in i n && Nat.blt a px_SC) with
      | false => rw [hq] at ho; cases ho
      | true =>
        rw [hq] at ho
        cases ho
        rw [Bool.and_eq_true] at hq
        intro H locs ls cells slots I
        obtain ⟨hP, hS, hl, hcc, hsl, hsc⟩ := I
        refine va_last hx hb hK hP (px_w_D hsc) hS a 1 (px_w_get ha) rfl (px_inT hq.1) hdg (fun H1 locs1 hP1 _ hS1 => ?_)
        rw [px_updL_row (f := h.2.2.1), px_setJ (g := px_up h.2.2.1 a i.toNatClampNeg x) ha (fun j hj => px_up_ne hj)] at hP1
        exact kk H1 locs1 ls cells slots ⟨hP1, hS1, hl, hcc, hsl, hsc⟩
    · cases ho
  · cases ho
theorem px_s_aald (Cx : px_Cx p s m args meth c base rb ro D dA k c0) (hdg : decode (px_m k).2.2.2.1 pc = .ok (.aaload, 1)) (ho : px_oAald (pc + 1) lv st h = some σ) (kk : px_Go p l e R s m args below meth c base rb D dA k c0 s0 Q σ) : px_Go p l e R s m args below meth c base rb D dA k c0 s0 Q (pc, lv, st, h) := by
  obtain ⟨hx, hb, hml, hown, hts, hnest, hao, hK, hsz, hro, hin, hst9⟩ := Cx
  unfold px_oAald at ho
  split at ho
  · rename_i i a st
    split at ho
    · rename_i n ha
      cases hq : (px_in i n && Nat.blt a px_SC) with
      | false => rw [hq] at ho; cases ho
      | true =>
        rw [hq] at ho
        cases ho
        rw [Bool.and_eq_true] at hq
        intro H locs ls cells slots I
        have K := kk H locs ls cells slots I
        rw [List.map_cons, px_v_rf] at K
        exact va_aldq hx hb hK I.1 a 3 (px_w_get ha) rfl (px_inT hq.1) hdg K
    · cases ho
  · cases ho
theorem px_s_aast (Cx : px_Cx p s m args meth c base rb ro D dA k c0) (hdg : decode (px_m k).2.2.2.1 pc = .ok (.aastore, 1)) (ho : px_oAast (pc + 1) lv st h = some σ) (kk : px_Go p l e R s m args below meth c base rb D dA k c0 s0 Q σ) : px_Go p l e R s m args below meth c base rb D dA k c0 s0 Q (pc, lv, st, h) := by
  obtain ⟨hx, hb, hml, hown, hts, hnest, hao, hK, hsz, hro, hin, hst9⟩ := Cx
  unfold px_oAast at ho
  split at ho
  · rename_i b i a st
    split at ho
    · rename_i n ha hbb
      cases hq : (px_in i n && Nat.blt a px_SC && Nat.blt b px_SC) with
      | false => rw [hq] at ho; cases ho
      | true =>
        rw [hq] at ho
        cases ho
        simp only [Bool.and_eq_true] at hq
        intro H locs ls cells slots I
        obtain ⟨hP, hS, hl, hcc, hsl, hsc⟩ := I
        refine va_astq hx hb hK hP (px_w_D hsc) hS a 3 b 7 (r := (RX7, TX7, 8)) (px_w_get ha) rfl (px_w_get hbb) rfl (px_inT hq.1.1) hdg (fun H1 locs1 hP1 _ hS1 => ?_)
        have e : va_up (fun i => (h.2.2.2 a i).map (px_ad base rb)) i.toNatClampNeg (some (px_ad base rb b)) = fun j => (px_up h.2.2.2 a i.toNatClampNeg (some b) a j).map (px_ad base rb) := by
          funext j
          rw [px_up_eq]
          unfold va_up
          by_cases ej : j = i.toNatClampNeg
          · subst ej
            rw [if_pos rfl]
            show _ = Option.map _ (cond (Nat.beq _ _) _ _)
            rw [show ∀ q, Nat.beq q q = true from Nat.beq_refl]; rfl
          · rw [if_neg ej]
            show _ = Option.map _ (cond (Nat.beq _ _) _ _)
            rw [px_beqN ej]; rfl
        rw [e, px_setP (g := px_up h.2.2.2 a i.toNatClampNeg (some b)) ha (fun j hj => px_up_ne hj)] at hP1
        exact kk H1 locs1 ls cells slots ⟨hP1, hS1, hl, hcc, hsl, hsc⟩
    · cases ho
  · cases ho
theorem px_s_len (Cx : px_Cx p s m args meth c base rb ro D dA k c0) (hdg : decode (px_m k).2.2.2.1 pc = .ok (.arraylength, 1)) (ho : px_oLen ro (pc + 1) lv st h = some σ) (kk : px_Go p l e R s m args below meth c base rb D dA k c0 s0 Q σ) : px_Go p l e R s m args below meth c base rb D dA k c0 s0 Q (pc, lv, st, h) := by
  obtain ⟨hx, hb, hml, hown, hts, hnest, hao, hK, hsz, hro, hin, hst9⟩ := Cx
  unfold px_oLen at ho
  split at ho
  · rename_i a st
    cases hq : Nat.ble px_SC a with
    | true =>
      rw [hq] at ho
      dsimp only [cond_true] at ho
      split at ho
      · rename_i n xs hr
        cases ho
        have hX := hro _ _ _ hr
        intro H locs ls cells slots I
        have hle := px_bleT hq
        have ead : px_ad base rb a = rb (a - px_SC) := if_neg (by omega)
        have K := kk H locs ls cells slots I
        show W p l e R s m args below meth c H locs cells slots Q (F0 m pc ls (.ref (px_ad base rb a) :: _))
        rw [ead]
        exact va_tlen hx hb hX I.2.1 rfl hdg K
      · cases ho
    | false =>
      rw [hq] at ho
      dsimp only [cond_false] at ho
      split at ho
      · rename_i t n ha
        cases ht : Nat.blt t 4 with
        | false => rw [ht] at ho; cases ho
        | true =>
          rw [ht] at ho
          cases ho
          have ht := px_bltT ht
          intro H locs ls cells slots I
          have hget := px_w_get (ad := px_ad base rb) (dA := dA) ha
          have hty : ∃ ty, (px_tys dA)[t]? = some (dA t, ty) := by
            match t, ht with
            | 0, _ => exact ⟨_, rfl⟩
            | 1, _ => exact ⟨_, rfl⟩
            | 2, _ => exact ⟨_, rfl⟩
            | 3, _ => exact ⟨_, rfl⟩
          obtain ⟨ty, hty⟩ := hty
          exact va_alen hx hb hK I.1 a t hget hty rfl hdg (kk H locs ls cells slots I)
      · cases ho
  · cases ho
/-- what a new cell needs: its address is the next one -/
theorem px_newI {H1 : Heap} {locs : List Loc} {ls : Array Slot} {cells slots q : Nat} {sh : px_Sh} {lv : px_L} (hP1 : va_P D vwCl (px_w (px_ad base rb) dA h ++ [(q, px_cell (px_ad base rb) dA (fun _ => 0) (fun _ => 0) (fun _ => none) sh)]) H1) (hD1 : va_D (fun q => base ≤ q) (px_w (px_ad base rb) dA h ++ [(q, px_cell (px_ad base rb) dA (fun _ => 0) (fun _ => 0) (fun _ => none) sh)])) (hS1 : va_S (fun q => base ≤ q) s.heap H1 locs) (hl : lv_has ls (px_maxL k) (px_lv (px_ad base rb) lv)) (hsz : s.heap.size = base + c0) (hc : cells + c0 = h.1.length) (hsl : slots + s0 = px_sl h.1) (hlt : h.1.length < px_SC) (hH : H1.size ≤ s.heap.size + (cells + 1)) :
    q = px_ad base rb h.1.length ∧ px_I base rb D dA s k c0 s0 lv (px_new h sh) H1 locs ls (cells + 1) (slots + px_sl [sh]) := by
  have e := px_q hP1 hD1 (by omega) (by omega)
  have e2 : q = px_ad base rb h.1.length := by rw [px_ad_lt hlt]; exact e
  subst e2
  refine ⟨rfl, ?_, hS1, hl, ?_, ?_, ?_⟩
  · rw [px_w_new]; exact hP1
  · show _ = (h.1 ++ [sh]).length; rw [List.length_append]; simp; omega
  · show _ = px_sl (h.1 ++ [sh]); rw [px_sl_app]; omega
  · show (h.1 ++ [sh]).length ≤ _; rw [List.length_append]; simp; omega
theorem px_s_new {i : Nat} (Cx : px_Cx p s m args meth c base rb ro D dA k c0) (hdg : decode (px_m k).2.2.2.1 pc = .ok (.new i, 3)) (ho : px_oNew k i (pc + 3) lv st h = some σ) (hR : σ.2.2.2.1.length ≤ R.cells + c0 ∧ px_sl σ.2.2.2.1 ≤ R.slots + s0) (kk : px_Go p l e R s m args below meth c base rb D dA k c0 s0 Q σ) : px_Go p l e R s m args below meth c base rb D dA k c0 s0 Q (pc, lv, st, h) := by
  obtain ⟨hx, hb, hml, hown, hts, hnest, hao, hK, hsz, hro, hin, hst9⟩ := Cx
  unfold px_oNew at ho
  split at ho
  · rename_i ci hcl0
    cases hq : Nat.blt h.1.length px_SC with
    | false => rw [hq] at ho; cases ho
    | true =>
      rw [hq] at ho
      cases ho
      have hlt := px_bltT hq
      obtain ⟨C, T, N, hc, hlink⟩ := px_cls_ok hcl0
      have hcl := px_cl hc
      have hn := px_n_of hc
      intro H locs ls cells slots I
      obtain ⟨hP, hS, hl, hcc, hsl, hsc⟩ := I
      dsimp only at hP hl hcc hsl hsc
      have hR1 : (h.1 ++ [Sum.inr ci]).length ≤ R.cells + c0 := hR.1
      have hR2 : px_sl (h.1 ++ [Sum.inr ci]) ≤ R.slots + s0 := hR.2
      rw [List.length_append] at hR1
      rw [px_sl_app] at hR2
      have e1 : px_sl [Sum.inr ci] = N := by show px_n ci + 0 = N; omega
      simp only [List.length_cons, List.length_nil] at hR1
      refine va_new (ci := ci) (fs := px_fs (px_ad base rb) (fun _ => 0) (fun _ => 0) (fun _ => none) ci) (C := C) (T := T) (N := N) hx hb hts hcl.2.1 (px_ty ci) hcl.2.2.1 hown (hts _ hlink) (hts _ hcl.2.2.2.2.1) (hts _ hcl.2.2.2.2.2) hK hP (px_w_D hsc) hS (fun q hq => by show base ≤ q; omega) hc ?_ (by omega) (by omega) hdg (fun q H1 hP1 hD1 hS1 => ?_)
      · intro j hj
        unfold vp_V
        rw [List.getD_eq_getElem?_getD, px_fs_get (by rw [hn]; exact hj)]
        exact px_dflt (px_ty_good hc j hj)
      · refine px_sized (fun hH => ?_)
        obtain ⟨rfl, I1⟩ := px_newI (k := k) (c0 := c0) (s0 := s0) (sh := .inr ci) (lv := lv) hP1 hD1 hS1 hl hsz hcc hsl hlt hH
        rw [e1] at I1
        exact kk H1 locs ls (cells + 1) (slots + N) I1
  · cases ho
theorem px_RA_eq {U : State} {c1 c2 : ClassId} {ty : FieldType} (h1 : va_RA U c1 ty) (h2 : va_RA U c2 ty) : c1 = c2 := by
  cases ty with
  | object C =>
    obtain ⟨_, _, _, _, _, a⟩ := h1
    obtain ⟨_, _, _, _, _, b⟩ := h2
    exact Option.some.inj (a.symm.trans b)
  | _ => exact Option.some.inj (Eq.trans (Eq.symm h1) h2)
theorem px_s_newa {t : Nat} {aty : ArrayType} {ty : FieldType} (hat : newarray.typeOf aty = ty) (htt : (px_tys dA)[t]? = some (dA t, ty)) (harr : Cond.arrayClass ty ∈ px_ws) (hby : componentBytes ty ≤ 8) (hzero : ∀ (cA : ClassId) (n : Nat), vp_cell cA (n, px_arr (px_ad base rb) (fun _ => 0) (fun _ => 0) (fun _ => none) t) = arrV cA n (fun _ => defaultValue ty)) (Cx : px_Cx p s m args meth c base rb ro D dA k c0) (hdg : decode (px_m k).2.2.2.1 pc = .ok (.newarray aty, 2)) (ho : px_oNewa t (pc + 2) lv st h = some σ) (hR : σ.2.2.2.1.length ≤ R.cells + c0 ∧ px_sl σ.2.2.2.1 ≤ R.slots + s0) (kk : px_Go p l e R s m args below meth c base rb D dA k c0 s0 Q σ) : px_Go p l e R s m args below meth c base rb D dA k c0 s0 Q (pc, lv, st, h) := by
  obtain ⟨hx, hb, hml, hown, hts, hnest, hao, hK, hsz, hro, hin, hst9⟩ := Cx
  unfold px_oNewa at ho
  split at ho
  · rename_i n st
    cases hq : (Nat.blt h.1.length px_SC && decide (¬ n < 0) && Nat.ble n.toNatClampNeg 100000) with
    | false => rw [hq] at ho; cases ho
    | true =>
      rw [hq] at ho
      cases ho
      simp only [Bool.and_eq_true, decide_eq_true_eq] at hq
      obtain ⟨⟨q1, q2⟩, q3⟩ := hq
      have hlt := px_bltT q1
      have hnn := px_bleT q3
      intro H locs ls cells slots I
      obtain ⟨hP, hS, hl, hcc, hsl, hsc⟩ := I
      dsimp only at hP hl hcc hsl hsc
      have hR1 : (h.1 ++ [Sum.inl (t, n.toNatClampNeg)]).length ≤ R.cells + c0 := hR.1
      have hR2 : px_sl (h.1 ++ [Sum.inl (t, n.toNatClampNeg)]) ≤ R.slots + s0 := hR.2
      rw [List.length_append] at hR1
      rw [px_sl_app] at hR2
      have e1 : px_sl [Sum.inl (t, n.toNatClampNeg)] = n.toNatClampNeg := by show n.toNatClampNeg + 0 = _; omega
      simp only [List.length_cons, List.length_nil] at hR1
      have hby2 : n.toNatClampNeg * componentBytes ty ≤ 536870912 := Nat.le_trans (Nat.mul_le_mul hnn hby) (Nat.le_of_ble_eq_true rfl)
      refine va_newa (ty := ty) (N' := n.toNatClampNeg) (a0 := (n.toNatClampNeg, px_arr (px_ad base rb) (fun _ => 0) (fun _ => 0) (fun _ => none) t)) hx hb (by rw [hat]; exact hts _ harr) hat hK hP (px_w_D hsc) hS (fun q hq => by show base ≤ q; omega) (fun cA => hzero cA _) q2 rfl hby2 (by omega) (by omega) hdg (fun q cA H1 hK1 hP1 hD1 hS1 => ?_)
      have ecA : cA = dA t := px_RA_eq (hK1.2 (px_tys dA).length (cA, ty) (by rw [List.getElem?_append_right (Nat.le_refl _), Nat.sub_self]; rfl)).2 (hK.2 t _ htt).2
      subst ecA
      refine px_sized (fun hH => ?_)
      obtain ⟨rfl, I1⟩ := px_newI (k := k) (c0 := c0) (s0 := s0) (sh := .inl (t, n.toNatClampNeg)) (lv := lv) hP1 hD1 hS1 hl hsz hcc hsl hlt hH
      rw [e1] at I1
      exact kk H1 locs ls (cells + 1) (slots + n.toNatClampNeg) I1
  · cases ho
theorem px_s_anew {i : Nat} (Cx : px_Cx p s m args meth c base rb ro D dA k c0) (hdg : decode (px_m k).2.2.2.1 pc = .ok (.anewarray i, 3)) (ho : px_oAnew k i (pc + 3) lv st h = some σ) (hR : σ.2.2.2.1.length ≤ R.cells + c0 ∧ px_sl σ.2.2.2.1 ≤ R.slots + s0) (kk : px_Go p l e R s m args below meth c base rb D dA k c0 s0 Q σ) : px_Go p l e R s m args below meth c base rb D dA k c0 s0 Q (pc, lv, st, h) := by
  obtain ⟨hx, hb, hml, hown, hts, hnest, hao, hK, hsz, hro, hin, hst9⟩ := Cx
  unfold px_oAnew at ho
  split at ho
  · rename_i hcl0
    unfold px_oNewa at ho
    split at ho
    · rename_i n st
      cases hq : (Nat.blt h.1.length px_SC && decide (¬ n < 0) && Nat.ble n.toNatClampNeg 100000) with
      | false => rw [hq] at ho; cases ho
      | true =>
        rw [hq] at ho
        cases ho
        simp only [Bool.and_eq_true, decide_eq_true_eq] at hq
        obtain ⟨⟨q1, q2⟩, q3⟩ := hq
        have hlt := px_bltT q1
        have hnn := px_bleT q3
        obtain ⟨C, T, N, hc, hlink⟩ := px_cls_ok hcl0
        cases hc
        intro H locs ls cells slots I
        obtain ⟨hP, hS, hl, hcc, hsl, hsc⟩ := I
        dsimp only at hP hl hcc hsl hsc
        have hR1 : (h.1 ++ [Sum.inl (3, n.toNatClampNeg)]).length ≤ R.cells + c0 := hR.1
        have hR2 : px_sl (h.1 ++ [Sum.inl (3, n.toNatClampNeg)]) ≤ R.slots + s0 := hR.2
        rw [List.length_append] at hR1
        rw [px_sl_app] at hR2
        have e1 : px_sl [Sum.inl (3, n.toNatClampNeg)] = n.toNatClampNeg := by show n.toNatClampNeg + 0 = _; omega
        simp only [List.length_cons, List.length_nil] at hR1
        refine va_newq (C := "ElevenBullocks$Script") (N' := n.toNatClampNeg) hx hb hown (hts _ hlink) hao hK hP (px_w_D hsc) hS (fun q hq => by show base ≤ q; omega) q2 rfl (by omega) (by omega) (by omega) hdg (fun q cA H1 hK1 hP1 hD1 hS1 => ?_)
        have ecA : cA = dA 3 := px_RA_eq (hK1.2 (px_tys dA).length (cA, .object "ElevenBullocks$Script") (by rw [List.getElem?_append_right (Nat.le_refl _), Nat.sub_self]; rfl)).2 (hK.2 3 _ rfl).2
        subst ecA
        refine px_sized (fun hH => ?_)
        obtain ⟨rfl, I1⟩ := px_newI (k := k) (c0 := c0) (s0 := s0) (sh := .inl (3, n.toNatClampNeg)) (lv := lv) hP1 hD1 hS1 hl hsz hcc hsl hlt hH
        rw [e1] at I1
        exact kk H1 locs ls (cells + 1) (slots + n.toNatClampNeg) I1
    · cases ho
  · cases ho
end PXH
section PXS
variable {p : Program} {l : Launch} {e : Env} {R : Room} {s : State} {m : MethodId} {args : Array Value} {below : List Frame} {meth : Method} {c : Code} {Q : State → Prop}
variable {base : Nat} {rb : Nat → Nat} {ro : px_RO} {D : va_G} {dA : Nat → ClassId} {k c0 s0 : Nat} {pc : Nat} {lv : px_L} {st : List Value} {h : px_H} {σ : px_S}
theorem px_rm13 {x : Nat} {xs : List Value} {ad : Nat → Nat} (h : Nat.ble (xs.map fun v => v.category).sum 8 = true) (hR : 64 ≤ x) : ((xs.map (px_v ad)).map fun v => v.category).sum + 15 ≤ x := by
  rw [px_v_sum]; have := px_bleT h; omega
theorem px_s_mi {kd i j : Nat} (hk6 : kd = 6 ∨ kd = 7) (Cx : px_Cx p s m args meth c base rb ro D dA k c0) (hR1 : 1 ≤ R.frames ∧ 64 ≤ R.locals) (hcall : px_call k i = some (kd, j)) (hdg : decode (px_m k).2.2.2.1 pc = .ok (.invokestatic i, 3)) (ho : px_oMi kd (pc + 3) lv st h = some σ) (hR : σ.2.2.2.1.length ≤ R.cells + c0 ∧ px_sl σ.2.2.2.1 ≤ R.slots + s0) (kk : px_Go p l e R s m args below meth c base rb D dA k c0 s0 Q σ) : px_Go p l e R s m args below meth c base rb D dA k c0 s0 Q (pc, lv, st, h) := by
  obtain ⟨hx, hb, hml, hown, hts, hnest, hao, hK, hsz, hro, hin, hst9⟩ := Cx
  unfold px_oMi at ho
  split at ho
  · rename_i y x st
    cases hq : Nat.ble (st.map fun v => v.category).sum 8 with
    | false => rw [hq] at ho; cases ho
    | true =>
      rw [hq] at ho
      cases ho
      intro H locs ls cells slots I
      have K := kk H locs ls cells slots I
      obtain ⟨hP, hS, hl, hcc, hsl, hsc⟩ := I
      dsimp only at hcc hsl
      have hc1 : cells ≤ R.cells := by have := hR.1; dsimp only at this; omega
      have hc2 : slots ≤ R.slots := by have := hR.2; dsimp only at this; omega
      have hroom := px_rm13 (ad := px_ad base rb) hq hR1.2
      rcases hk6 with rfl | rfl
      · exact va_mmax hx hb (by rw [hml]; exact hl.1.symm) hown (hts _ (px_call_ok hcall).2.2) (hts _ px_gl_max_s) (hts _ px_gl_math) (hts _ px_gl_max_c) hR1.1 (by omega) hc1 hc2 hdg K
      · exact va_mmin hx hb (by rw [hml]; exact hl.1.symm) hown (hts _ (px_call_ok hcall).2.2) (hts _ px_gl_min_s) (hts _ px_gl_math) (hts _ px_gl_min_c) hR1.1 (by omega) hc1 hc2 hdg K
  · cases ho
theorem px_s_ml {kd i j : Nat} (hk6 : kd = 8 ∨ kd = 9) (Cx : px_Cx p s m args meth c base rb ro D dA k c0) (hR1 : 1 ≤ R.frames ∧ 64 ≤ R.locals) (hcall : px_call k i = some (kd, j)) (hdg : decode (px_m k).2.2.2.1 pc = .ok (.invokestatic i, 3)) (ho : px_oMl kd (pc + 3) lv st h = some σ) (hR : σ.2.2.2.1.length ≤ R.cells + c0 ∧ px_sl σ.2.2.2.1 ≤ R.slots + s0) (kk : px_Go p l e R s m args below meth c base rb D dA k c0 s0 Q σ) : px_Go p l e R s m args below meth c base rb D dA k c0 s0 Q (pc, lv, st, h) := by
  obtain ⟨hx, hb, hml, hown, hts, hnest, hao, hK, hsz, hro, hin, hst9⟩ := Cx
  unfold px_oMl at ho
  split at ho
  · rename_i y x st
    cases hq : Nat.ble (st.map fun v => v.category).sum 8 with
    | false => rw [hq] at ho; cases ho
    | true =>
      rw [hq] at ho
      cases ho
      intro H locs ls cells slots I
      have K := kk H locs ls cells slots I
      obtain ⟨hP, hS, hl, hcc, hsl, hsc⟩ := I
      dsimp only at hcc hsl
      have hc1 : cells ≤ R.cells := by have := hR.1; dsimp only at this; omega
      have hc2 : slots ≤ R.slots := by have := hR.2; dsimp only at this; omega
      have hroom := px_rm13 (ad := px_ad base rb) hq hR1.2
      rcases hk6 with rfl | rfl
      · exact va_mmax_long hx hb (by rw [hml]; exact hl.1.symm) hown (hts _ (px_call_ok hcall).2.2) (hts _ px_gl_maxl_s) (hts _ px_gl_math) (hts _ px_gl_maxl_c) hR1.1 hroom hc1 hc2 hdg K
      · exact va_mmin_long hx hb (by rw [hml]; exact hl.1.symm) hown (hts _ (px_call_ok hcall).2.2) (hts _ px_gl_minl_s) (hts _ px_gl_math) (hts _ px_gl_minl_c) hR1.1 hroom hc1 hc2 hdg K
  · cases ho
theorem px_s_sp {i j : Nat} (Cx : px_Cx p s m args meth c base rb ro D dA k c0) (hR1 : 1 ≤ R.frames ∧ 64 ≤ R.locals) (hcall : px_call k i = some (4, j)) (hdg : decode (px_m k).2.2.2.1 pc = .ok (.invokespecial i, 3)) (ho : px_oSp (pc + 3) lv st h = some σ) (kk : px_Go p l e R s m args below meth c base rb D dA k c0 s0 Q σ) : px_Go p l e R s m args below meth c base rb D dA k c0 s0 Q (pc, lv, st, h) := by
  obtain ⟨hx, hb, hml, hown, hts, hnest, hao, hK, hsz, hro, hin, hst9⟩ := Cx
  unfold px_oSp at ho
  split at ho
  · rename_i a st
    cases hq : Nat.ble (st.map fun v => v.category).sum 8 with
    | false => rw [hq] at ho; cases ho
    | true =>
      rw [hq] at ho
      cases ho
      intro H locs ls cells slots I
      have K := kk H locs ls cells slots I
      have hroom : ((st.map (px_v (px_ad base rb))).map fun v => v.category).sum ≤ 8 := by rw [px_v_sum]; exact px_bleT hq
      have hr2 := lv_room (m := m) (pc := pc) (ls := ls) (rest := .ref (px_ad base rb a) :: st.map (px_v (px_ad base rb))) hroom
      refine W.objInit (g := F0 m pc ls (.ref (px_ad base rb a) :: st.map (px_v (px_ad base rb)))) hx hb hown (hts _ (px_call_ok hcall).2.2) (hts _ px_gl_obj) (hts _ px_gl_objc) rfl (by rw [hml]; exact I.2.2.1.1) rfl hdg hR1.1 (by have := hR1.2; omega) ?_
      exact K
  · cases ho
theorem px_s_cpy {i j : Nat} (Cx : px_Cx p s m args meth c base rb ro D dA k c0) (hR1 : 1 ≤ R.frames ∧ 64 ≤ R.locals) (hcall : px_call k i = some (5, j)) (hdg : decode (px_m k).2.2.2.1 pc = .ok (.invokestatic i, 3)) (ho : px_oCpy (pc + 3) lv st h = some σ) (kk : px_Go p l e R s m args below meth c base rb D dA k c0 s0 Q σ) : px_Go p l e R s m args below meth c base rb D dA k c0 s0 Q (pc, lv, st, h) := by
  obtain ⟨hx, hb, hml, hown, hts, hnest, hao, hK, hsz, hro, hin, hst9⟩ := Cx
  unfold px_oCpy at ho
  split at ho
  · rename_i n dp b sp a st
    split at ho
    · rename_i n0 n1 ha hbb
      cases hq : (Nat.ble (st.map fun v => v.category).sum 8 && decide (¬ sp < 0) && decide (¬ dp < 0) && decide (¬ n < 0) && Nat.ble (sp.toNatClampNeg + n.toNatClampNeg) n0 && Nat.ble (dp.toNatClampNeg + n.toNatClampNeg) n1 && Nat.blt a px_SC && Nat.blt b px_SC) with
      | false => rw [hq] at ho; cases ho
      | true =>
        rw [hq] at ho
        cases ho
        simp only [Bool.and_eq_true, decide_eq_true_eq] at hq
        obtain ⟨⟨⟨⟨⟨⟨⟨q1, q2⟩, q3⟩, q4⟩, q5⟩, q6⟩, q7⟩, q8⟩ := hq
        intro H locs ls cells slots I
        obtain ⟨hP, hS, hl, hcc, hsl, hsc⟩ := I
        have hroom : ((st.map (px_v (px_ad base rb))).map fun v => v.category).sum ≤ 8 := by rw [px_v_sum]; exact px_bleT q1
        have hnf : nativeFrameWords "java/lang/System" "arraycopy" 5 ≤ 40 := by decide
        refine va_copyi hx hb (by rw [hml]; exact hl.1.symm) hown (hts _ (px_call_ok hcall).2.2) (hts _ px_gl_acn2) (hts _ px_gl_acs) (hts _ px_gl_sys) hK hP (px_w_D hsc) hS a b 0 0 (ty := .int) (px_w_get ha) (px_w_get hbb) rfl rfl rfl q2 q3 q4 (px_bleT q5) (px_bleT q6) (fun _ _ => rfl) hR1.1 (by have := hR1.2; omega) hdg (fun H1 locs1 hP1 _ hS1 => ?_)
        have e : va_cpy (h.2.1 a) (h.2.1 b) sp.toNatClampNeg dp.toNatClampNeg n.toNatClampNeg = px_rw h.2.1 b (va_cpy (h.2.1 a) (h.2.1 b) sp.toNatClampNeg dp.toNatClampNeg n.toNatClampNeg) b := px_rw_eq.symm
        rw [e, px_setI (g := px_rw h.2.1 b (va_cpy (h.2.1 a) (h.2.1 b) sp.toNatClampNeg dp.toNatClampNeg n.toNatClampNeg)) hbb (Or.inl rfl) (fun j hj => px_rw_ne hj)] at hP1
        exact kk H1 locs1 ls cells slots ⟨hP1, hS1, hl, hcc, hsl, hsc⟩
    · cases ho
  · cases ho
theorem ps_w_l_len : Cond.methodLink "ElevenBullocks$Reader" 179 yJ0_length_8abf5 ∈ px_ws := px_mem (pl := 3135) (by decide +kernel)
theorem ps_w_l_cha : Cond.methodLink "ElevenBullocks$Reader" 183 yJ0_charAt_5068e ∈ px_ws := px_mem (pl := 3145) (by decide +kernel)
theorem ps_Lit.narrow {A B : Nat → Prop} {q v : Nat} {U : State} (h : ps_Lit A q v U) (hAB : ∀ q, B q → A q) : ps_Lit B q v U := ⟨h.1.narrow hAB, h.2.1.narrow hAB, h.2.2.narrow hAB⟩
/-- behind a call that leaves all there was as it was -/
theorem ps_run2 {H : Heap} {locs : List Loc} {cells slots pc : Nat} {ls : Array Slot} {st0 rest : List Value} {r : Option Value} {a : Array Value}
    (hr : va_Run p l e R s m args below meth c H locs cells slots 0 0 (F0 m pc ls st0) rest (ps_Q r (fun q => H.size ≤ q) a) (fun q => H.size ≤ q)) (hS : va_S (fun q => base ≤ q) s.heap H locs) (hbs : base ≤ H.size)
    (kk : ∀ (H1 : Heap) (locs1 : List Loc), va_S (fun q => base ≤ q) s.heap H1 locs1 → (∀ q : Nat, q < H.size → H1[q]? = H[q]?) → W p l e R s m args below meth c H1 locs1 cells slots Q (F0 m (pc + 3) ls (r.toList ++ rest))) : W p l e R s m args below meth c H locs cells slots Q (F0 m pc ls st0) := by
  intro T hT X
  obtain ⟨v', st₀, t, T', L, h0, X', hL, e1, e2, ⟨hv, hz, hk⟩, st⟩ := hr T hT X
  cases hv
  rw [h0] at hz hk
  have same : ∀ q : Nat, q < H.size → T'.heap[q]? = H[q]? := fun q h1 => by rw [e1]; exact hk q h1 (Nat.not_le.mpr h1)
  obtain ⟨t2, a1, b1⟩ := kk T'.heap (locs ++ L) ⟨Nat.le_trans hS.1 (by rw [e1]; exact hz), fun q h1 h2 => by rw [same q (Nat.lt_of_lt_of_le h1 hS.1)]; exact hS.2.1 q h1 h2, fun q hq => by
      rcases List.mem_append.mp hq with h | h
      · exact hS.2.2 q h
      · exact Nat.le_trans hbs (hL q h)⟩ same T' rfl X'
  exact ⟨t2, st t2 a1, b1⟩
theorem px_s_str {i : Nat} (Cx : px_Cx p s m args meth c base rb ro D dA k c0) (hR4 : 4 ≤ R.frames ∧ 256 ≤ R.locals) (hdg : decode (px_m k).2.2.2.1 pc = .ok (.invokevirtual i, 3)) (ho : px_oStr k i (pc + 3) lv st h = some σ) (hR : σ.2.2.2.1.length ≤ R.cells + c0 ∧ px_sl σ.2.2.2.1 ≤ R.slots + s0) (kk : px_Go p l e R s m args below meth c base rb D dA k c0 s0 Q σ) : px_Go p l e R s m args below meth c base rb D dA k c0 s0 Q (pc, lv, st, h) := by
  obtain ⟨hx, hb, hml, hown, hts, hnest, hao, hK, hsz, hro, hin, hst9⟩ := Cx
  obtain ⟨f1, f2⟩ := hR4
  have S0 : CallFix p m c (px_m k).2.2.2.1 (px_maxL k) s args px_ws (px_on (px_m k).2.2.1) := ⟨hx, hb, hml, hown, hts⟩
  unfold px_oStr at ho
  cases hq : (Nat.beq (px_key k i) 6179 && Nat.blt i 1000) with
  | true =>
    rw [hq] at ho
    dsimp only [cond_true] at ho
    obtain ⟨e1, rfl⟩ := px_key6 (n := 179) hq (by decide)
    rw [e1] at S0
    split at ho
    · rename_i a st
      cases hq2 : (Nat.beq a (px_SC + 3) && Nat.ble (st.map fun v => v.category).sum 8) with
      | false => rw [hq2] at ho; cases ho
      | true =>
        rw [hq2] at ho
        cases ho
        rw [Bool.and_eq_true] at hq2
        have ea := px_beqT hq2.1
        subst ea
        intro H locs ls cells slots I
        obtain ⟨hP, hS, hl, hcc, hsl, hsc⟩ := id I
        dsimp only at hP hl hcc hsl hsc
        have hc1 : cells ≤ R.cells := by have := hR.1; dsimp only at this; omega
        have hc2 : slots ≤ R.slots := by have := hR.2; dsimp only at this; omega
        have hbs : base ≤ H.size := by have := hS.1; omega
        have hsum : ((st.map (px_v (px_ad base rb))).map fun v => v.category).sum ≤ 8 := by rw [px_v_sum]; exact px_bleT hq2.2
        have cw := callB_of (R := R) (s := s) (args := args) (own := px_on 6) (index := 179) (rm := ps_rm 1) (mc := 0) (ms := 0) 0 hts (fun w hw => (by
          rcases List.mem_cons.mp hw with rfl | hw
          · exact px_ws_good _ ps_w_c_length
          · exact px_ws_good _ hw) : GoodIn px_ws (Cond.code yJ0_length_8abf5 cJ0_length_8abf5 1 (some .int) :: px_ws)) rfl rfl rfl (hts _ ps_w_iS) (hts _ ps_w_l_len) ⟨by decide, by decide, by decide⟩ ⟨by show 1 + 1 ≤ R.frames; omega, by show 8 + (1 + 11) + 64 * 1 ≤ R.locals; omega⟩
        refine ps_run2 (va_runV (C := "java/lang/String") (b := rb 3) (As := []) (rest := st.map (px_v (px_ad base rb))) (g := F0 m pc ls ((Value.ref (px_SC + 3) :: st).map (px_v (px_ad base rb)))) S0 (ps_length l (A := fun q => H.size ≤ q) (q := rb 3) (v := rb 4)) ⟨cw, hts _ ps_w_in_length, hts _ ps_w_se_length⟩ ⟨ps_blind, vk_recv (i := 0) hst9.1.1 (by decide) hS, fun U hU hW => ⟨rfl, (ps_go hst9.1 hS hU hW).narrow (fun q (h9 : H.size ≤ q) => Nat.le_trans hbs h9)⟩⟩ rfl rfl hl.1 ?_ (lv_room hsum) hdg ⟨hc1, hc2⟩) hS hbs (fun H1 locs1 hS1 same => ?_)
        · show Value.ref (px_ad base rb (px_SC + 3)) :: _ = _
          rw [px_ad_3]
          rfl
        · exact kk H1 locs1 ls cells slots ⟨hP.kept (fun j q hj => same _ (hP j q hj).lt), hS1, hl, hcc, hsl, hsc⟩
    · cases ho
  | false =>
    rw [hq] at ho
    dsimp only [cond_false] at ho
    cases hq1 : (Nat.beq (px_key k i) 6183 && Nat.blt i 1000) with
    | false => rw [hq1] at ho; cases ho
    | true =>
      rw [hq1] at ho
      dsimp only [cond_true] at ho
      obtain ⟨e1, rfl⟩ := px_key6 (n := 183) hq1 (by decide)
      rw [e1] at S0
      split at ho
      · rename_i x a st
        cases hq2 : (Nat.beq a (px_SC + 3) && px_in x 180 && Nat.ble (st.map fun v => v.category).sum 8) with
        | false => rw [hq2] at ho; cases ho
        | true =>
          rw [hq2] at ho
          cases ho
          simp only [Bool.and_eq_true] at hq2
          obtain ⟨⟨q1, q2⟩, q3⟩ := hq2
          have ea := px_beqT q1
          subst ea
          have hx180 : ¬ (x < 0 ∨ 180 ≤ x.toNatClampNeg) := of_decide_eq_true q2
          obtain ⟨j, hj, rfl⟩ := nI_of (fun h9 => hx180 (Or.inl h9))
          rw [nI_clamp hj] at hx180
          have hj2 : j < 180 := by
            rcases Nat.lt_or_ge j 180 with h9 | h9
            · exact h9
            · exact absurd (Or.inr h9) hx180
          intro H locs ls cells slots I
          obtain ⟨hP, hS, hl, hcc, hsl, hsc⟩ := id I
          dsimp only at hP hl hcc hsl hsc
          have hc1 : cells ≤ R.cells := by have := hR.1; dsimp only at this; omega
          have hc2 : slots ≤ R.slots := by have := hR.2; dsimp only at this; omega
          have hbs : base ≤ H.size := by have := hS.1; omega
          have hsum : ((st.map (px_v (px_ad base rb))).map fun v => v.category).sum ≤ 8 := by rw [px_v_sum]; exact px_bleT q3
          have cw := callB_of (R := R) (s := s) (args := args) (own := px_on 6) (index := 183) (rm := ps_rm 3) (mc := 0) (ms := 0) 1 hts (fun w hw => (by
            rcases List.mem_cons.mp hw with rfl | hw
            · exact px_ws_good _ ps_w_c_charAt
            · exact px_ws_good _ hw) : GoodIn px_ws (Cond.code yJ0_charAt_5068e cJ0_charAt_5068e 2 (some .char) :: px_ws)) rfl rfl rfl (hts _ ps_w_iS) (hts _ ps_w_l_cha) ⟨by decide, by decide, by decide⟩ ⟨by show 3 + 1 ≤ R.frames; omega, by show 8 + (2 + 11) + 64 * 3 ≤ R.locals; omega⟩
          refine ps_run2 (va_runV (C := "java/lang/String") (b := rb 3) (As := [.int (nI j)]) (rest := st.map (px_v (px_ad base rb))) (g := F0 m pc ls ((Value.int (nI j) :: Value.ref (px_SC + 3) :: st).map (px_v (px_ad base rb)))) S0 (ps_charAt l (A := fun q => H.size ≤ q) (q := rb 3) (v := rb 4) hj2) ⟨cw, hts _ ps_w_in_charAt, hts _ ps_w_se_charAt⟩ ⟨ps_blind, vk_recv (i := 0) hst9.1.1 (by decide) hS, fun U hU hW => ⟨rfl, (ps_go hst9.1 hS hU hW).narrow (fun q (h9 : H.size ≤ q) => Nat.le_trans hbs h9)⟩⟩ rfl rfl hl.1 ?_ (lv_room hsum) hdg ⟨hc1, hc2⟩) hS hbs (fun H1 locs1 hS1 same => ?_)
          · show Value.int (nI j) :: Value.ref (px_ad base rb (px_SC + 3)) :: _ = _
            rw [px_ad_3]
            rfl
          · have K := kk H1 locs1 ls cells slots ⟨hP.kept (fun j q hj => same _ (hP j q hj).lt), hS1, hl, hcc, hsl, hsc⟩
            dsimp only at K
            rw [nI_clamp hj] at K
            exact K
      · cases ho
theorem px_op_ok {ins : Instr} {len : Nat} (Cx : px_Cx p s m args meth c base rb ro D dA k c0) (hR1 : 1 ≤ R.frames ∧ 64 ≤ R.locals) (hR4 : 4 ≤ R.frames ∧ 256 ≤ R.locals) (hf : px_fetch k pc = some (ins, len)) (ho : px_op ro k ins len pc lv st h = some σ) (hR : σ.2.2.2.1.length ≤ R.cells + c0 ∧ px_sl σ.2.2.2.1 ≤ R.slots + s0) (kk : px_Go p l e R s m args below meth c base rb D dA k c0 s0 Q σ) : px_Go p l e R s m args below meth c base rb D dA k c0 s0 Q (pc, lv, st, h) := by
  obtain ⟨hdg, hlen⟩ := px_fetch_ok hf
  obtain ⟨hx, hb, hml, hown, hts, hnest, hao, hK, hsz, hro, hin, hst9⟩ := id Cx
  unfold px_op at ho
  split at ho
  · have e9 : len = 1 := px_beqT hlen
    subst e9
    cases ho
    exact fun H locs ls cells slots I => lv_iconst hx hb hdg rfl (kk H locs ls cells slots I)
  · have e9 : len = 2 := px_beqT hlen
    subst e9
    cases ho
    exact fun H locs ls cells slots I => lv_bipush hx hb hdg rfl (kk H locs ls cells slots I)
  · have e9 : len = 3 := px_beqT hlen
    subst e9
    cases ho
    exact fun H locs ls cells slots I => lv_sipush hx hb hdg rfl (kk H locs ls cells slots I)
  · have e9 : len = 1 := px_beqT hlen
    subst e9
    cases ho
    exact fun H locs ls cells slots I => lv_lconst hx hb hdg rfl (kk H locs ls cells slots I)
  · have e9 : len = 1 := px_beqT hlen
    subst e9
    cases ho
    exact fun H locs ls cells slots I => lv_null hx hb hdg (kk H locs ls cells slots I)
  · have e9 : len = 2 := px_beqT hlen
    subst e9
    refine px_s_psh ho kk (fun w hw H locs ls cells slots hl K => ?_)
    rcases px_ldcv_ok hw with ⟨x, hv, rfl⟩ | ⟨e1, rfl, rfl⟩
    · exact lv_ldc hx hb hown (hts _ (px_int_ok hv)) hdg K
    · rw [e1] at hown
      refine va_ldcS hx hb hown hst9.2.1 hdg ?_
      rw [show px_v (px_ad base rb) (.ref (px_SC + 3)) = .ref (rb 3) from congrArg Value.ref px_ad_3] at K
      exact K
  · have e9 : len = 3 := px_beqT hlen
    subst e9
    refine px_s_psh ho kk (fun w hw H locs ls cells slots hl K => ?_)
    obtain ⟨v, hv, rfl⟩ := Option.map_eq_some_iff.mp hw
    exact lv_ldcw hx hb hown (hts _ (px_int_ok hv)) hdg K
  · have e9 : len = 3 := px_beqT hlen
    subst e9
    refine px_s_psh ho kk (fun w hw H locs ls cells slots hl K => ?_)
    obtain ⟨v, hv, rfl⟩ := Option.map_eq_some_iff.mp hw
    exact lv_ldc2 hx hb hown (hts _ (px_lng_ok hv)) hdg K
  · have e9 : len = 2 := px_beqT hlen
    subst e9
    refine px_s_psh ho kk (fun w hw H locs ls cells slots hl K => ?_)
    obtain ⟨x, rfl, hld⟩ := px_get0 hw
    exact lv_iload hx hb hdg (px_ld_at hl hld) K
  · have e9 : len = 1 := px_beqT hlen
    subst e9
    refine px_s_psh ho kk (fun w hw H locs ls cells slots hl K => ?_)
    obtain ⟨x, rfl, hld⟩ := px_get0 hw
    exact lv_iload_n hx hb hdg rfl (px_ld_at hl hld) K
  · have e9 : len = 2 := px_beqT hlen
    subst e9
    refine px_s_psh ho kk (fun w hw H locs ls cells slots hl K => ?_)
    obtain ⟨x, rfl, hld⟩ := px_get1 hw
    exact lv_lload hx hb hdg (px_ld_at hl hld) K
  · have e9 : len = 1 := px_beqT hlen
    subst e9
    refine px_s_psh ho kk (fun w hw H locs ls cells slots hl K => ?_)
    obtain ⟨x, rfl, hld⟩ := px_get1 hw
    exact lv_lload_n hx hb hdg rfl (px_ld_at hl hld) K
  · have e9 : len = 2 := px_beqT hlen
    subst e9
    refine px_s_psh ho kk (fun w hw H locs ls cells slots hl K => ?_)
    rcases px_get2 hw with ⟨x, rfl, hld⟩ | ⟨rfl, hld⟩
    · exact lv_aload hx hb hdg (px_ld_at hl hld) K
    · exact lv_aloadN hx hb hdg (px_ld_at hl hld) K
  · have e9 : len = 1 := px_beqT hlen
    subst e9
    refine px_s_psh ho kk (fun w hw H locs ls cells slots hl K => ?_)
    rcases px_get2 hw with ⟨x, rfl, hld⟩ | ⟨rfl, hld⟩
    · exact lv_aload_n hx hb hdg rfl (px_ld_at hl hld) K
    · exact lv_aload_nN hx hb hdg rfl (px_ld_at hl hld) K
  · have e9 : len = 2 := px_beqT hlen
    subst e9
    refine px_s_sto ho kk (fun x H locs ls cells slots rest _ hi hl K => lv_istore hx hb hdg hl hi (px_st1_map (px_ad base rb) lv _ (.int x)) K) (fun _ _ _ _ _ _ _ h9 => by cases h9) (fun _ _ _ _ _ _ _ h9 => by cases h9) (fun _ _ _ _ _ _ h9 => by cases h9)
  · have e9 : len = 1 := px_beqT hlen
    subst e9
    refine px_s_sto ho kk (fun x H locs ls cells slots rest _ hi hl K => lv_istore_n hx hb hdg rfl hl hi (px_st1_map (px_ad base rb) lv _ (.int x)) K) (fun _ _ _ _ _ _ _ h9 => by cases h9) (fun _ _ _ _ _ _ _ h9 => by cases h9) (fun _ _ _ _ _ _ h9 => by cases h9)
  · have e9 : len = 2 := px_beqT hlen
    subst e9
    refine px_s_sto ho kk (fun _ _ _ _ _ _ _ h9 => by cases h9) (fun x H locs ls cells slots rest _ hi hl K => lv_lstore hx hb hdg hl hi (px_st2_map (px_ad base rb) lv _ (.long x)) K) (fun _ _ _ _ _ _ _ h9 => by cases h9) (fun _ _ _ _ _ _ h9 => by cases h9)
  · have e9 : len = 1 := px_beqT hlen
    subst e9
    refine px_s_sto ho kk (fun _ _ _ _ _ _ _ h9 => by cases h9) (fun x H locs ls cells slots rest _ hi hl K => lv_lstore_n hx hb hdg rfl hl hi (px_st2_map (px_ad base rb) lv _ (.long x)) K) (fun _ _ _ _ _ _ _ h9 => by cases h9) (fun _ _ _ _ _ _ h9 => by cases h9)
  · have e9 : len = 2 := px_beqT hlen
    subst e9
    refine px_s_sto ho kk (fun _ _ _ _ _ _ _ h9 => by cases h9) (fun _ _ _ _ _ _ _ h9 => by cases h9) (fun x H locs ls cells slots rest _ hi hl K => lv_astore hx hb hdg hl hi (px_st1_map (px_ad base rb) lv _ (.ref x)) K) (fun H locs ls cells slots rest _ hi hl K => lv_astoreN hx hb hdg hl hi (px_st1_map (px_ad base rb) lv _ .null) K)
  · have e9 : len = 1 := px_beqT hlen
    subst e9
    refine px_s_sto ho kk (fun _ _ _ _ _ _ _ h9 => by cases h9) (fun _ _ _ _ _ _ _ h9 => by cases h9) (fun x H locs ls cells slots rest _ hi hl K => lv_astore_n hx hb hdg rfl hl hi (px_st1_map (px_ad base rb) lv _ (.ref x)) K) (fun H locs ls cells slots rest _ hi hl K => lv_astore_nN hx hb hdg rfl hl hi (px_st1_map (px_ad base rb) lv _ .null) K)
  · have e9 : len = 3 := px_beqT hlen
    subst e9
    rename_i i n
    unfold px_oInc at ho
    split at ho
    · rename_i x hld
      cases hq : Nat.blt i (px_maxL k) with
      | false => rw [hq] at ho; cases ho
      | true =>
        rw [hq] at ho
        cases ho
        intro H locs ls cells slots I
        obtain ⟨hP, hS, hl, hcc, hsl, hsc⟩ := I
        obtain ⟨q, hq1, hq2⟩ := Option.map_eq_some_iff.mp (show (lv.find? (fun q => q.1 == i)).map (fun q => q.2) = some (.int x) from hld)
        have hm := List.mem_of_find?_eq_some hq1
        have hqi : q.1 = i := by have := List.find?_some hq1; simpa using this
        have hm2 : (i, Value.int x) ∈ px_lv (px_ad base rb) lv := List.mem_map.mpr ⟨q, hm, by rw [hqi, hq2]; rfl⟩
        obtain ⟨j, hj⟩ := List.getElem?_of_mem hm2
        exact lv_iinc hx hb hdg hl hj rfl (px_bltT hq) (px_st1_map (px_ad base rb) lv i (.int (x + Int32.ofInt n))) (fun ls' hl' => kk H locs ls' cells slots ⟨hP, hS, hl', hcc, hsl, hsc⟩)
    · cases ho
  · have e9 : len = 1 := px_beqT hlen
    subst e9
    exact px_s_ari ho kk (fun x y v hv H locs ls cells slots rest K => by cases hv; exact lv_iadd hx hb hdg K)
  · have e9 : len = 1 := px_beqT hlen
    subst e9
    exact px_s_ari ho kk (fun x y v hv H locs ls cells slots rest K => by cases hv; exact lv_isub hx hb hdg K)
  · have e9 : len = 1 := px_beqT hlen
    subst e9
    exact px_s_ari ho kk (fun x y v hv H locs ls cells slots rest K => by cases hv; exact lv_imul hx hb hdg K)
  · have e9 : len = 1 := px_beqT hlen
    subst e9
    refine px_s_ari ho kk (fun x y v hv H locs ls cells slots rest K => ?_)
    unfold px_ari at hv
    dsimp only at hv
    split at hv
    · cases hv
    · rename_i hne
      cases hv
      exact lv_idiv hx hb hdg hne K
  · have e9 : len = 1 := px_beqT hlen
    subst e9
    refine px_s_ari ho kk (fun x y v hv H locs ls cells slots rest K => ?_)
    unfold px_ari at hv
    dsimp only at hv
    split at hv
    · cases hv
    · rename_i hne
      cases hv
      exact lv_irem hx hb hdg hne K
  · have e9 : len = 1 := px_beqT hlen
    subst e9
    exact px_s_ari ho kk (fun x y v hv H locs ls cells slots rest K => by cases hv; exact lv_iand hx hb hdg K)
  · have e9 : len = 1 := px_beqT hlen
    subst e9
    exact px_s_ari ho kk (fun x y v hv H locs ls cells slots rest K => by cases hv; exact lv_ior hx hb hdg K)
  · have e9 : len = 1 := px_beqT hlen
    subst e9
    exact px_s_ari ho kk (fun x y v hv H locs ls cells slots rest K => by cases hv; exact lv_ixor hx hb hdg K)
  · have e9 : len = 1 := px_beqT hlen
    subst e9
    exact px_s_ari ho kk (fun x y v hv H locs ls cells slots rest K => by cases hv; exact lv_ishl hx hb hdg K)
  · have e9 : len = 1 := px_beqT hlen
    subst e9
    exact px_s_ari ho kk (fun x y v hv H locs ls cells slots rest K => by cases hv; exact lv_ishr hx hb hdg K)
  · have e9 : len = 1 := px_beqT hlen
    subst e9
    exact px_s_ari ho kk (fun x y v hv H locs ls cells slots rest K => by cases hv; exact lv_iushr hx hb hdg rfl K)
  · have e9 : len = 1 := px_beqT hlen
    subst e9
    exact px_s_arl ho kk (fun x y v hv H locs ls cells slots rest K => by cases hv; exact lv_ladd hx hb hdg K)
  · have e9 : len = 1 := px_beqT hlen
    subst e9
    exact px_s_arl ho kk (fun x y v hv H locs ls cells slots rest K => by cases hv; exact lv_lsub hx hb hdg K)
  · have e9 : len = 1 := px_beqT hlen
    subst e9
    exact px_s_arl ho kk (fun x y v hv H locs ls cells slots rest K => by cases hv; exact lv_lmul hx hb hdg K)
  · have e9 : len = 1 := px_beqT hlen
    subst e9
    refine px_s_arl ho kk (fun x y v hv H locs ls cells slots rest K => ?_)
    unfold px_arl at hv
    dsimp only at hv
    split at hv
    · cases hv
    · rename_i hne
      cases hv
      exact lv_ldiv hx hb hdg hne K
  · have e9 : len = 1 := px_beqT hlen
    subst e9
    refine px_s_arl ho kk (fun x y v hv H locs ls cells slots rest K => ?_)
    unfold px_arl at hv
    dsimp only at hv
    split at hv
    · cases hv
    · rename_i hne
      cases hv
      exact lv_lrem hx hb hdg hne K
  · have e9 : len = 1 := px_beqT hlen
    subst e9
    exact px_s_arl ho kk (fun x y v hv H locs ls cells slots rest K => by cases hv; exact lv_lor hx hb hdg K)
  · have e9 : len = 1 := px_beqT hlen
    subst e9
    unfold px_oIneg at ho
    split at ho
    · cases ho
      exact fun H locs ls cells slots I => lv_ineg hx hb hdg (kk H locs ls cells slots I)
    · cases ho
  · have e9 : len = 1 := px_beqT hlen
    subst e9
    unfold px_oLneg at ho
    split at ho
    · cases ho
      exact fun H locs ls cells slots I => lv_lneg hx hb hdg (kk H locs ls cells slots I)
    · cases ho
  · have e9 : len = 1 := px_beqT hlen
    subst e9
    unfold px_oI2l at ho
    split at ho
    · cases ho
      exact fun H locs ls cells slots I => lv_i2l hx hb hdg rfl (kk H locs ls cells slots I)
    · cases ho
  · have e9 : len = 1 := px_beqT hlen
    subst e9
    unfold px_oL2i at ho
    split at ho
    · cases ho
      exact fun H locs ls cells slots I => lv_l2i hx hb hdg rfl (kk H locs ls cells slots I)
    · cases ho
  · have e9 : len = 1 := px_beqT hlen
    subst e9
    unfold px_oLcmp at ho
    split at ho
    · cases ho
      exact fun H locs ls cells slots I => W.lcmp hx hb hdg (kk H locs ls cells slots I)
    · cases ho
  · have e9 : len = 1 := px_beqT hlen
    subst e9
    unfold px_oLshl at ho
    split at ho
    · cases ho
      exact fun H locs ls cells slots I => lv_lshl hx hb hdg rfl (kk H locs ls cells slots I)
    · cases ho
  · have e9 : len = 1 := px_beqT hlen
    subst e9
    unfold px_oLshr at ho
    split at ho
    · cases ho
      exact fun H locs ls cells slots I => lv_lshr hx hb hdg rfl (kk H locs ls cells slots I)
    · cases ho
  · have e9 : len = 1 := px_beqT hlen
    subst e9
    unfold px_oDup at ho
    split at ho
    · rename_i v st
      cases hq : Nat.beq v.category 1 with
      | false => rw [hq] at ho; cases ho
      | true =>
        rw [hq] at ho
        cases ho
        have hv : (px_v (px_ad base rb) v).category = 1 := by rw [px_v_cat]; exact px_beqT hq
        exact fun H locs ls cells slots I => lv_dup hx hb hdg hv (kk H locs ls cells slots I)
    · cases ho
  · have e9 : len = 1 := px_beqT hlen
    subst e9
    unfold px_oPop at ho
    split at ho
    · rename_i v st
      cases hq : Nat.beq v.category 1 with
      | false => rw [hq] at ho; cases ho
      | true =>
        rw [hq] at ho
        cases ho
        have hv : (px_v (px_ad base rb) v).category = 1 := by rw [px_v_cat]; exact px_beqT hq
        exact fun H locs ls cells slots I => lv_pop hx hb hdg hv (kk H locs ls cells slots I)
    · cases ho
  · have e9 : len = 1 := px_beqT hlen
    subst e9
    unfold px_oPop at ho
    split at ho
    · rename_i v st
      cases hq : Nat.beq v.category 2 with
      | false => rw [hq] at ho; cases ho
      | true =>
        rw [hq] at ho
        cases ho
        have hv : (px_v (px_ad base rb) v).category = 2 := by rw [px_v_cat]; exact px_beqT hq
        exact fun H locs ls cells slots I => lv_pop2_2 hx hb hdg hv (kk H locs ls cells slots I)
    · cases ho
  · have e9 : len = 1 := px_beqT hlen
    subst e9
    unfold px_oDup2 at ho
    split at ho
    · rename_i v w st
      cases hq : (Nat.beq v.category 1 && Nat.beq w.category 1) with
      | true =>
        rw [hq] at ho
        cases ho
        rw [Bool.and_eq_true] at hq
        have hv : (px_v (px_ad base rb) v).category = 1 := by rw [px_v_cat]; exact px_beqT hq.1
        have hw : (px_v (px_ad base rb) w).category = 1 := by rw [px_v_cat]; exact px_beqT hq.2
        exact fun H locs ls cells slots I => lv_dup2_11 hx hb hdg hv hw (kk H locs ls cells slots I)
      | false =>
        rw [hq] at ho
        dsimp only [cond_false] at ho
        cases hq2 : Nat.beq v.category 2 with
        | false => rw [hq2] at ho; cases ho
        | true =>
          rw [hq2] at ho
          cases ho
          have hv : (px_v (px_ad base rb) v).category = 2 := by rw [px_v_cat]; exact px_beqT hq2
          exact fun H locs ls cells slots I => lv_dup2_2 hx hb hdg hv (kk H locs ls cells slots I)
    · rename_i v
      cases hq2 : Nat.beq v.category 2 with
      | false => rw [hq2] at ho; cases ho
      | true =>
        rw [hq2] at ho
        cases ho
        have hv : (px_v (px_ad base rb) v).category = 2 := by rw [px_v_cat]; exact px_beqT hq2
        exact fun H locs ls cells slots I => lv_dup2_2 hx hb hdg hv (kk H locs ls cells slots I)
    · cases ho
  · have e9 : len = 3 := px_beqT hlen
    subst e9
    exact px_s_if hx hb hdg ho kk
  · have e9 : len = 3 := px_beqT hlen
    subst e9
    exact px_s_icmp hx hb hdg ho kk
  · have e9 : len = 3 := px_beqT hlen
    subst e9
    unfold px_oNull at ho
    split at ho
    · exact px_s_jmp (g := .null :: _) ho kk (fun t ht H locs ls cells slots K => lv_ifnullN hx hb hdg (px_tg_ok ht) K)
    · cases ho
      exact fun H locs ls cells slots I => lv_ifnull hx hb hdg (kk H locs ls cells slots I)
    · cases ho
  · have e9 : len = 3 := px_beqT hlen
    subst e9
    unfold px_oNonnull at ho
    split at ho
    · exact px_s_jmp (g := .ref _ :: _) ho kk (fun t ht H locs ls cells slots K => lv_ifnonnull hx hb hdg (px_tg_ok ht) K)
    · cases ho
      exact fun H locs ls cells slots I => lv_ifnonnullN hx hb hdg (kk H locs ls cells slots I)
    · cases ho
  · have e9 : len = 3 := px_beqT hlen
    subst e9
    exact px_s_jmp ho kk (fun t ht H locs ls cells slots K => lv_goto hx hb hdg (px_tg_ok ht) K)
  · unfold px_oTab at ho
    split at ho
    · split at ho
      · rename_i hout
        exact px_s_jmp (g := .int _ :: _) ho kk (fun t ht H locs ls cells slots K => lv_tableOut hx hb hdg hout (px_tg_ok ht) K)
      · rename_i hout
        split at ho
        · rename_i off hoff
          exact px_s_jmp (g := .int _ :: _) ho kk (fun t ht H locs ls cells slots K => lv_tableIn hx hb hdg (fun q => hout (Or.inl q)) (fun q => hout (Or.inr q)) hoff (px_tg_ok ht) K)
        · cases ho
    · cases ho
  · rename_i dflt ps
    unfold px_oLook at ho
    split at ho
    · cases hq : ((ps.toList.zip (ps.toList.drop 1)).all (fun (a, next) => a.1 < next.1)) with
      | false => rw [hq] at ho; cases ho
      | true =>
        rw [hq] at ho
        exact px_s_jmp (g := .int _ :: _) ho kk (fun t ht H locs ls cells slots K => lv_lookup hx hb hdg hq rfl (px_tg_ok ht) K)
    · cases ho
  · have e9 : len = 3 := px_beqT hlen
    subst e9
    exact px_s_get Cx hdg ho kk
  · have e9 : len = 3 := px_beqT hlen
    subst e9
    exact px_s_put Cx hdg ho kk
  · have e9 : len = 1 := px_beqT hlen
    subst e9
    exact px_s_iald Cx hdg ho kk
  · have e9 : len = 1 := px_beqT hlen
    subst e9
    exact px_s_zald Cx hdg ho kk
  · have e9 : len = 1 := px_beqT hlen
    subst e9
    exact px_s_lald Cx hdg ho kk
  · have e9 : len = 1 := px_beqT hlen
    subst e9
    exact px_s_aald Cx hdg ho kk
  · have e9 : len = 1 := px_beqT hlen
    subst e9
    exact px_s_iast Cx hdg ho kk
  · have e9 : len = 1 := px_beqT hlen
    subst e9
    exact px_s_zast Cx hdg ho kk
  · have e9 : len = 1 := px_beqT hlen
    subst e9
    exact px_s_last Cx hdg ho kk
  · have e9 : len = 1 := px_beqT hlen
    subst e9
    exact px_s_aast Cx hdg ho kk
  · have e9 : len = 1 := px_beqT hlen
    subst e9
    exact px_s_len Cx hdg ho kk
  · have e9 : len = 3 := px_beqT hlen
    subst e9
    exact px_s_new Cx hdg ho hR kk
  · have e9 : len = 2 := px_beqT hlen
    subst e9
    exact px_s_newa (t := 0) (ty := .int) rfl rfl px_gl_ai (by decide) (fun cA n => rfl) Cx hdg ho hR kk
  · have e9 : len = 2 := px_beqT hlen
    subst e9
    exact px_s_newa (t := 1) (ty := .long) rfl rfl px_gl_al (by decide) (fun cA n => rfl) Cx hdg ho hR kk
  · have e9 : len = 2 := px_beqT hlen
    subst e9
    exact px_s_newa (t := 2) (ty := .boolean) rfl rfl px_gl_az (by decide) (fun cA n => rfl) Cx hdg ho hR kk
  · have e9 : len = 3 := px_beqT hlen
    subst e9
    exact px_s_anew Cx hdg ho hR kk
  · have e9 : len = 3 := px_beqT hlen
    subst e9
    split at ho
    · rename_i hcall
      exact px_s_sp Cx hR1 hcall hdg ho kk
    · cases ho
  · have e9 : len = 3 := px_beqT hlen
    subst e9
    split at ho
    · rename_i hcall
      unfold px_oSt at ho
      split at ho
      · exact px_s_cpy Cx hR1 hcall hdg ho kk
      · exact px_s_mi (Or.inl rfl) Cx hR1 hcall hdg ho hR kk
      · exact px_s_mi (Or.inr rfl) Cx hR1 hcall hdg ho hR kk
      · exact px_s_ml (Or.inl rfl) Cx hR1 hcall hdg ho hR kk
      · exact px_s_ml (Or.inr rfl) Cx hR1 hcall hdg ho hR kk
      · cases ho
    · cases ho
  · have e9 : len = 3 := px_beqT hlen
    subst e9
    unfold px_psh at ho
    split at ho
    · rename_i w hw
      cases ho
      intro H locs ls cells slots I
      have K := kk H locs ls cells slots I
      rcases px_stc_ok hw with ⟨e1, rfl, rfl⟩ | ⟨e1, rfl, rfl⟩
      · rw [e1] at hown
        refine va_gets (C := "ElevenBullocks$Reader") (ref := "ElevenBullocks$Reader") hx hb hst9.2.2.1 I.2.1 hown (hts _ ps_w_rs) (fun _ h9 => h9) hdg ?_
        rw [← show px_v (px_ad base rb) (.ref (px_SC + 1)) = .ref (rb 1) from congrArg Value.ref px_ad_1]
        exact K
      · rw [e1] at hown
        refine va_gets (C := "ElevenBullocks$Reader") (ref := "ElevenBullocks$Reader") hx hb hst9.2.2.2 I.2.1 hown (hts _ ps_w_rl) (fun _ h9 => h9) hdg ?_
        rw [← show px_v (px_ad base rb) (.ref (px_SC + 2)) = .ref (rb 2) from congrArg Value.ref px_ad_2]
        exact K
    · cases ho
  · have e9 : len = 3 := px_beqT hlen
    subst e9
    exact px_s_str Cx hR4 hdg ho hR kk
  · cases ho
end PXS
/-! calls, and the whole of a method -/
def px_ext (a b : List px_Sh) : Prop := ∃ t, b = a ++ t
theorem px_ext_rf {a : List px_Sh} : px_ext a a := ⟨[], by simp⟩
theorem px_ext_tr {a b c : List px_Sh} (h1 : px_ext a b) (h2 : px_ext b c) : px_ext a c := by
  obtain ⟨t, rfl⟩ := h1
  obtain ⟨u, rfl⟩ := h2
  exact ⟨t ++ u, by simp⟩
theorem px_ext_one {a : List px_Sh} {sh : px_Sh} : px_ext a (a ++ [sh]) := ⟨[sh], rfl⟩
theorem px_sl_le : ∀ (t a : List px_Sh), px_sl a ≤ px_sl (a ++ t)
  | [], a => by simp
  | x :: t, a => by
    have h := px_sl_le t (a ++ [x])
    rw [px_sl_app] at h
    rw [List.append_assoc] at h
    exact Nat.le_trans (Nat.le_add_right _ _) h
theorem px_ext_le {a b : List px_Sh} (h : px_ext a b) : a.length ≤ b.length ∧ px_sl a ≤ px_sl b := by
  obtain ⟨t, rfl⟩ := h
  exact ⟨by simp, px_sl_le t a⟩
theorem px_put_ext {h h' : px_H} {k f : Nat} {ty : FieldType} {v : Value} (hp : px_put h k f ty v = some h') : h'.1 = h.1 := by
  unfold px_put at hp
  split at hp <;> first | (cases hp; rfl) | (split at hp <;> first | (cases hp; rfl) | cases hp) | cases hp
theorem px_oPut_e1 {k i pc : Nat} {lv : px_L} {st : List Value} {h : px_H} {σ : px_S} (ho : px_oPut k i pc lv st h = some σ) : σ.2.2.2.1 = h.1 := by
  unfold px_oPut at ho
  split at ho
  · rename_i v a st
    split at ho
    · rename_i ci f ci' hf ha
      cases hq : (Nat.beq ci ci' && Nat.blt a px_SC && px_mayPut k ci f) with
      | false => rw [hq] at ho; cases ho
      | true =>
        rw [hq] at ho
        dsimp only [cond_true] at ho
        split at ho
        · rename_i h' hp
          cases ho
          exact px_put_ext hp
        · cases ho
    · cases ho
  · cases ho
def px_e1 (a b : List px_Sh) : Prop := b = a ∨ ∃ sh, b = a ++ [sh] ∧ a.length < px_SC
theorem px_e1_rf {a : List px_Sh} : px_e1 a a := Or.inl rfl
theorem px_e1_one {a : List px_Sh} {sh : px_Sh} (h : a.length < px_SC) : px_e1 a (a ++ [sh]) := Or.inr ⟨sh, rfl, h⟩
theorem px_op_e1 {ro : px_RO} {k : Nat} {ins : Instr} {len pc : Nat} {lv : px_L} {st : List Value} {h : px_H} {σ : px_S} (ho : px_op ro k ins len pc lv st h = some σ) : px_e1 h.1 σ.2.2.2.1 := by
  have cnd : ∀ {b : Bool} {x : px_S}, (cond b (some x) none) = some σ → x = σ := by
    intro b x h9
    cases b with
    | false => cases h9
    | true => cases h9; rfl
  have cnb : ∀ {b : Bool} {x : px_S}, (cond b (some x) none) = some σ → b = true := by
    intro b x h9
    cases b with
    | false => cases h9
    | true => rfl
  unfold px_op at ho
  split at ho
  all_goals first
    | (cases ho; exact px_e1_rf)
    | (cases ho; done)
    | skip
  all_goals first
    | (unfold px_psh at ho; split at ho <;> first | (cases ho; exact px_e1_rf) | cases ho)
    | (unfold px_jmp at ho; split at ho <;> first | (cases ho; exact px_e1_rf) | cases ho)
    | (unfold px_oSto at ho; split at ho <;> first | (split at ho <;> first | (cases ho; exact px_e1_rf) | cases ho) | cases ho)
    | (unfold px_oInc at ho; split at ho <;> first | (have e := cnd ho; subst e; exact px_e1_rf) | cases ho)
    | (unfold px_oAri at ho; split at ho <;> first | (split at ho <;> first | (cases ho; exact px_e1_rf) | cases ho) | cases ho)
    | (unfold px_oArl at ho; split at ho <;> first | (split at ho <;> first | (cases ho; exact px_e1_rf) | cases ho) | cases ho)
    | (unfold px_oIneg at ho; split at ho <;> first | (cases ho; exact px_e1_rf) | cases ho)
    | (unfold px_oLneg at ho; split at ho <;> first | (cases ho; exact px_e1_rf) | cases ho)
    | (unfold px_oI2l at ho; split at ho <;> first | (cases ho; exact px_e1_rf) | cases ho)
    | (unfold px_oL2i at ho; split at ho <;> first | (cases ho; exact px_e1_rf) | cases ho)
    | (unfold px_oLcmp at ho; split at ho <;> first | (cases ho; exact px_e1_rf) | cases ho)
    | (unfold px_oLshl at ho; split at ho <;> first | (cases ho; exact px_e1_rf) | cases ho)
    | (unfold px_oLshr at ho; split at ho <;> first | (cases ho; exact px_e1_rf) | cases ho)
    | (unfold px_oDup at ho; split at ho <;> first | (have e := cnd ho; subst e; exact px_e1_rf) | cases ho)
    | (unfold px_oPop at ho; split at ho <;> first | (have e := cnd ho; subst e; exact px_e1_rf) | cases ho)
    | (unfold px_oIf at ho; split at ho <;> first | (split at ho <;> first | (cases ho; exact px_e1_rf) | cases ho) | cases ho)
    | (unfold px_oIcmp at ho; split at ho <;> first | (split at ho <;> first | (cases ho; exact px_e1_rf) | cases ho) | cases ho)
    | (unfold px_oDup2 at ho
       split at ho
       · rename_i v w st
         cases hq : (Nat.beq v.category 1 && Nat.beq w.category 1) with
         | true => rw [hq] at ho; cases ho; exact px_e1_rf
         | false => rw [hq] at ho; dsimp only [cond_false] at ho; have e := cnd ho; subst e; exact px_e1_rf
       · have e := cnd ho; subst e; exact px_e1_rf
       · cases ho)
    | (unfold px_oNull at ho; split at ho <;> first | (unfold px_jmp at ho; split at ho <;> first | (cases ho; exact px_e1_rf) | cases ho) | (cases ho; exact px_e1_rf) | cases ho)
    | (unfold px_oNonnull at ho; split at ho <;> first | (unfold px_jmp at ho; split at ho <;> first | (cases ho; exact px_e1_rf) | cases ho) | (cases ho; exact px_e1_rf) | cases ho)
    | (unfold px_oTab at ho
       split at ho
       · split at ho
         · unfold px_jmp at ho; split at ho <;> first | (cases ho; exact px_e1_rf) | cases ho
         · split at ho
           · unfold px_jmp at ho; split at ho <;> first | (cases ho; exact px_e1_rf) | cases ho
           · cases ho
       · cases ho)
    | (rename_i dflt ps
       unfold px_oLook at ho
       split at ho
       · cases hq : ((ps.toList.zip (ps.toList.drop 1)).all (fun (a, next) => a.1 < next.1)) with
         | false => rw [hq] at ho; cases ho
         | true => rw [hq] at ho; dsimp only [cond_true] at ho; unfold px_jmp at ho; split at ho <;> first | (cases ho; exact px_e1_rf) | cases ho
       · cases ho)
    | (unfold px_oGet at ho; split at ho <;> first | (split at ho <;> first | (have e := cnd ho; subst e; exact px_e1_rf) | cases ho) | cases ho)
    | (have e := px_oPut_e1 ho; rw [e]; exact px_e1_rf)
    | (unfold px_oIald at ho
       split at ho
       · rename_i i a st
         cases hq : Nat.ble px_SC a with
         | true => rw [hq] at ho; dsimp only [cond_true] at ho; split at ho <;> first | (have e := cnd ho; subst e; exact px_e1_rf) | cases ho
         | false => rw [hq] at ho; dsimp only [cond_false] at ho; split at ho <;> first | (have e := cnd ho; subst e; exact px_e1_rf) | cases ho
       · cases ho)
    | (unfold px_oZald at ho; split at ho <;> first | (split at ho <;> first | (have e := cnd ho; subst e; exact px_e1_rf) | cases ho) | cases ho)
    | (unfold px_oLald at ho; split at ho <;> first | (split at ho <;> first | (have e := cnd ho; subst e; exact px_e1_rf) | cases ho) | cases ho)
    | (unfold px_oAald at ho; split at ho <;> first | (split at ho <;> first | (have e := cnd ho; subst e; exact px_e1_rf) | cases ho) | cases ho)
    | (unfold px_oIast at ho; split at ho <;> first | (split at ho <;> first | (have e := cnd ho; subst e; exact px_e1_rf) | cases ho) | cases ho)
    | (unfold px_oZast at ho; split at ho <;> first | (split at ho <;> first | (have e := cnd ho; subst e; exact px_e1_rf) | cases ho) | cases ho)
    | (unfold px_oLast at ho; split at ho <;> first | (split at ho <;> first | (have e := cnd ho; subst e; exact px_e1_rf) | cases ho) | cases ho)
    | (unfold px_oAast at ho; split at ho <;> first | (split at ho <;> first | (have e := cnd ho; subst e; exact px_e1_rf) | cases ho) | cases ho)
    | (unfold px_oLen at ho
       split at ho
       · rename_i a st
         cases hq : Nat.ble px_SC a with
         | true => rw [hq] at ho; dsimp only [cond_true] at ho; split at ho <;> first | (cases ho; exact px_e1_rf) | cases ho
         | false => rw [hq] at ho; dsimp only [cond_false] at ho; split at ho <;> first | (have e := cnd ho; subst e; exact px_e1_rf) | cases ho
       · cases ho)
    | (unfold px_oNew at ho; split at ho <;> first | (have e := cnd ho; have hb := cnb ho; subst e; exact px_e1_one (px_bltT hb)) | cases ho)
    | (unfold px_oNewa at ho; split at ho <;> first | (have e := cnd ho; have hb := cnb ho; simp only [Bool.and_eq_true] at hb; subst e; exact px_e1_one (px_bltT hb.1.1)) | cases ho)
    | (unfold px_oAnew at ho; split at ho <;> first | (unfold px_oNewa at ho; split at ho <;> first | (have e := cnd ho; have hb := cnb ho; simp only [Bool.and_eq_true] at hb; subst e; exact px_e1_one (px_bltT hb.1.1)) | cases ho) | cases ho)
    | (unfold px_oStr at ho
       rename_i i9
       cases hq : (Nat.beq (px_key k i9) 6179 && Nat.blt i9 1000) with
       | true => rw [hq] at ho; dsimp only [cond_true] at ho; split at ho <;> first | (have e := cnd ho; subst e; exact px_e1_rf) | cases ho
       | false =>
         rw [hq] at ho; dsimp only [cond_false] at ho
         cases hq1 : (Nat.beq (px_key k i9) 6183 && Nat.blt i9 1000) with
         | true => rw [hq1] at ho; dsimp only [cond_true] at ho; split at ho <;> first | (have e := cnd ho; subst e; exact px_e1_rf) | cases ho
         | false => rw [hq1] at ho; cases ho)
    | (split at ho
       · unfold px_oSp at ho; split at ho <;> first | (have e := cnd ho; subst e; exact px_e1_rf) | cases ho
       · cases ho)
    | (split at ho
       · unfold px_oSt at ho
         split at ho
         · unfold px_oCpy at ho; split at ho <;> first | (split at ho <;> first | (have e := cnd ho; subst e; exact px_e1_rf) | cases ho) | cases ho
         · unfold px_oMi at ho; split at ho <;> first | (have e := cnd ho; subst e; exact px_e1_rf) | cases ho
         · unfold px_oMi at ho; split at ho <;> first | (have e := cnd ho; subst e; exact px_e1_rf) | cases ho
         · unfold px_oMl at ho; split at ho <;> first | (have e := cnd ho; subst e; exact px_e1_rf) | cases ho
         · unfold px_oMl at ho; split at ho <;> first | (have e := cnd ho; subst e; exact px_e1_rf) | cases ho
         · cases ho
       · cases ho)
theorem px_op_ext {ro : px_RO} {k : Nat} {ins : Instr} {len pc : Nat} {lv : px_L} {st : List Value} {h : px_H} {σ : px_S} (ho : px_op ro k ins len pc lv st h = some σ) : px_ext h.1 σ.2.2.2.1 := by
  rcases px_op_e1 ho with e | ⟨sh, e, -⟩
  · rw [e]; exact px_ext_rf
  · rw [e]; exact px_ext_one
theorem px_op_sc {ro : px_RO} {k : Nat} {ins : Instr} {len pc : Nat} {lv : px_L} {st : List Value} {h : px_H} {σ : px_S} (ho : px_op ro k ins len pc lv st h = some σ) (hs : h.1.length ≤ px_SC) : σ.2.2.2.1.length ≤ px_SC := by
  rcases px_op_e1 ho with e | ⟨sh, e, hl⟩
  · rw [e]; exact hs
  · rw [e, List.length_append, List.length_singleton]; omega
/-- one step of px_ev: three ways -/
theorem px_ev_inv {ro : px_RO} {n d k : Nat} {pc : Nat} {lv : px_L} {st : List Value} {h : px_H} {r : Option Value} {hF : px_H} (he : px_ev ro (n + 1) (d + 1) k (pc, lv, st, h) = some (r, hF)) :
    ∃ ins len, px_fetch k pc = some (ins, len) ∧
      ((px_ret k ins st = some r ∧ h = hF) ∨
       (∃ j as rest v h1, px_inv k ins st h = some (j, as, rest) ∧ (rest.map fun v => v.category).sum ≤ 8 ∧ (lg_sl as).length ≤ px_maxL j ∧ px_ev ro n d j (0, lv_args 0 as, [], h) = some (v, h1) ∧ px_ev ro n (d + 1) k (pc + 3, lv, v.toList ++ rest, h1) = some (r, hF)) ∨
       (∃ σ, px_op ro k ins len pc lv st h = some σ ∧ px_ev ro n (d + 1) k σ = some (r, hF))) := by
  unfold px_ev at he
  split at he
  · cases he
  · rename_i ins len hf
    refine ⟨ins, len, hf, ?_⟩
    split at he
    · rename_i r' hr
      cases he
      exact Or.inl ⟨hr, rfl⟩
    · split at he
      · rename_i j as rest hi
        cases hq : (Nat.ble (rest.map fun v => v.category).sum 8 && Nat.ble (lg_sl as).length (px_maxL j)) with
        | false => rw [hq] at he; cases he
        | true =>
          rw [hq] at he
          dsimp only [cond_true] at he
          rw [Bool.and_eq_true] at hq
          split at he
          · rename_i v h1 hv
            exact Or.inr (Or.inl ⟨j, as, rest, v, h1, hi, px_bleT hq.1, px_bleT hq.2, hv, he⟩)
          · cases he
      · split at he
        · rename_i σ ho
          exact Or.inr (Or.inr ⟨σ, ho, he⟩)
        · cases he
theorem px_ev_ext {ro : px_RO} : ∀ (n d k : Nat) (σ : px_S) (r : Option Value) (hF : px_H), px_ev ro n d k σ = some (r, hF) → px_ext σ.2.2.2.1 hF.1 := by
  intro n
  induction n with
  | zero => intro d k σ r hF h; cases h
  | succ n ih =>
    intro d k σ r hF h
    obtain ⟨pc, lv, st, hp⟩ := σ
    cases d with
    | zero => cases h
    | succ d =>
      obtain ⟨ins, len, hf, h1⟩ := px_ev_inv h
      rcases h1 with ⟨-, rfl⟩ | ⟨j, as, rest, v, h1, hi, -, -, hc, hk⟩ | ⟨σ, ho, hk⟩
      · exact px_ext_rf
      · have a1 := ih _ _ _ _ _ hc
        have a2 := ih _ _ _ _ _ hk
        exact px_ext_tr (a := hp.1) (b := h1.1) a1 a2
      · exact px_ext_tr (px_op_ext ho) (ih _ _ _ _ _ hk)
theorem px_ev_sc {ro : px_RO} : ∀ (n d k : Nat) (σ : px_S) (r : Option Value) (hF : px_H), px_ev ro n d k σ = some (r, hF) → σ.2.2.2.1.length ≤ px_SC → hF.1.length ≤ px_SC := by
  intro n
  induction n with
  | zero => intro d k σ r hF h; cases h
  | succ n ih =>
    intro d k σ r hF h hs
    obtain ⟨pc, lv, st, hp⟩ := σ
    cases d with
    | zero => cases h
    | succ d =>
      obtain ⟨ins, len, hf, h1⟩ := px_ev_inv h
      rcases h1 with ⟨-, rfl⟩ | ⟨j, as, rest, v, h1, hi, -, -, hc, hk⟩ | ⟨σ, ho, hk⟩
      · exact hs
      · exact ih _ _ _ _ _ hk (ih _ _ _ _ _ hc hs)
      · exact ih _ _ _ _ _ hk (px_op_sc ho hs)
/-- a method's start and end -/
def px_Pc (base : Nat) (rb : Nat → Nat) (ro : px_RO) (D : va_G) (dA : Nat → ClassId) (h : px_H) (as : List Value) : Array Value → State → Prop := fun v U =>
  v = (as.map (px_v (px_ad base rb))).toArray ∧ U.heap.size = base + h.1.length ∧ va_P D vwCl (px_w (px_ad base rb) dA h) U.heap ∧ va_K D vwCl (px_tys dA) U ∧ (∀ (i L : Nat) (xs : Nat → Int32), ro[i]? = some (L, xs) → va_T .int (rb i) L (fun j => .int (xs j)) (fun q => base ≤ q) U U.heap) ∧ (∀ q ∈ px_nest, va_Nw (.methodLinkNest q.1 q.2.1 q.2.2.1 q.2.2.2) U) ∧ va_AO "ElevenBullocks$Script" U ∧ ps_St base rb U
def px_Qc (base : Nat) (rb : Nat → Nat) (D : va_G) (dA : Nat → ClassId) (r : Option Value) (h : px_H) : Array Value → State → Outcome → State → Prop := fun _ st o t =>
  o = .returned (r.map (px_v (px_ad base rb))) ∧ va_P D vwCl (px_w (px_ad base rb) dA h) t.heap ∧ va_F (fun q => base ≤ q) st t
def px_rm (d mc ms : Nat) : Room := { frames := d + 3, cells := mc, slots := ms, locals := 64 * (d + 3) }
def px_wsm (j : Nat) : List Cond := Cond.code (px_m j).2.1 (px_m j).2.2.2.1 (px_maxL j) (px_m j).2.2.2.2.2.1 :: px_ws
theorem px_Pc_blind {base : Nat} {rb : Nat → Nat} {ro : px_RO} {D : va_G} {dA : Nat → ClassId} {h : px_H} {as : List Value} : FrameBlind (px_Pc base rb ro D dA h as) := by
  intro a U g mk q
  obtain ⟨q0, q1, q2, q3, q4, q5, q6, q7⟩ := q
  exact ⟨q0, q1, q2, va_K.moved (u := U) (U := U.calling g mk a) (Vm.Alike.refl U.vm) q3, fun i L xs hi => va_T.moved (u := U) (U := U.calling g mk a) (Vm.Alike.refl U.vm) (q4 i L xs hi), fun z hz => va_Nw.same (u := U) (U := U.calling g mk a) rfl rfl (q5 z hz), va_AO.moved (u := U) (U := U.calling g mk a) (Vm.Alike.refl U.vm) q6, ⟨vk_S.moved (u := U) (U := U.calling g mk a) (Vm.Alike.refl U.vm) q7.1.1, va_Z.moved (u := U) (U := U.calling g mk a) (Vm.Alike.refl U.vm) q7.1.2.1, va_Zq.moved (u := U) (U := U.calling g mk a) (Vm.Alike.refl U.vm) q7.1.2.2⟩, vk_R.same (u := U) (U := U.calling g mk a) rfl q7.2.1, va_Z.moved (u := U) (U := U.calling g mk a) (Vm.Alike.refl U.vm) q7.2.2.1, va_Z.moved (u := U) (U := U.calling g mk a) (Vm.Alike.refl U.vm) q7.2.2.2⟩
theorem px_m_ok (j : Nat) : Cond.initialized (px_m j).2.1.cls ∈ px_ws ∧ plainName (px_m j).2.1.cls = true ∧ px_on (px_m j).2.2.1 = (px_m j).2.1.cls ∧ (parseMethodDescriptor (px_m j).2.1.desc).map (fun d => d.parameters.length) = some (px_m j).2.2.2.2.2.2.1 ∧ px_maxL j ≤ 20 ∧ (px_m j).2.1.cls ≠ "java/lang/invoke/MethodHandle" ∧ (px_m j).2.1.cls ≠ "java/lang/invoke/VarHandle" := by
  have h := px_all_get px_mT j px_mT_ok
  unfold px_mOk at h
  simp only [Bool.and_eq_true, decide_eq_true_eq] at h
  obtain ⟨⟨⟨⟨⟨⟨h1, h2⟩, h3⟩, h4⟩, h5⟩, h6⟩, h7⟩ := h
  exact ⟨px_mem h1, h2, h3, h4, h5, h6, h7⟩
theorem px_wsm_good {j : Nat} (hj : j < px_law) (hn : (px_m j).1 = j) : GoodIn px_ws (px_wsm j) := by
  intro w hw
  rcases List.mem_cons.mp hw with rfl | hw
  · have h := px_allP_get px_mT j px_mT_cw
    rcases h with h | h
    · exact absurd ((show (px_m j).1 = px_law from h).symm.trans hn) (by omega)
    · exact px_ws_good _ h
  · exact px_ws_good _ hw
theorem px_toList_map (ad : Nat → Nat) (v : Option Value) (rest : List Value) : (v.map (px_v ad)).toList ++ rest.map (px_v ad) = (v.toList ++ rest).map (px_v ad) := by
  cases v <;> rfl
/-- behind a call -/
theorem px_run_go {p : Program} {l : Launch} {e : Env} {R : Room} {s : State} {m : MethodId} {args : Array Value} {below : List Frame} {meth : Method} {c : Code} {Q : State → Prop} {base : Nat} {rb : Nat → Nat} {D : va_G} {dA : Nat → ClassId} {H : Heap} {locs : List Loc} {cells slots mc ms pc : Nat} {ls : Array Slot} {st0 rest : List Value} {v : Option Value} {h1 : px_H} {a : Array Value}
    (hr : va_Run p l e R s m args below meth c H locs cells slots mc ms (F0 m pc ls st0) (rest.map (px_v (px_ad base rb))) (px_Qc base rb D dA v h1 a) (fun q => base ≤ q)) (hS : va_S (fun q => base ≤ q) s.heap H locs)
    (kk : ∀ (H1 : Heap) (locs1 : List Loc), va_P D vwCl (px_w (px_ad base rb) dA h1) H1 → va_S (fun q => base ≤ q) s.heap H1 locs1 → W p l e R s m args below meth c H1 locs1 (cells + mc) (slots + ms) Q (F0 m (pc + 3) ls ((v.toList ++ rest).map (px_v (px_ad base rb))))) : W p l e R s m args below meth c H locs cells slots Q (F0 m pc ls st0) := by
  intro T hT X
  obtain ⟨v', st₀, t, T', L, h0, X', hL, e1, e2, ⟨hv, hP1, hz, hk⟩, st⟩ := hr T hT X
  cases hv
  rw [h0] at hz hk
  obtain ⟨t2, a1, b1⟩ := kk T'.heap (locs ++ L) (by rw [e1]; exact hP1) ⟨Nat.le_trans hS.1 (by rw [e1]; exact hz), fun q h1 h2 => by rw [e1, hk q (Nat.lt_of_lt_of_le h1 hS.1) h2]; exact hS.2.1 q h1 h2, fun q hq => by
      rcases List.mem_append.mp hq with h | h
      · exact hS.2.2 q h
      · exact hL q h⟩ T' rfl X'
  refine ⟨t2, st t2 ?_, b1⟩
  rw [px_toList_map]
  exact a1
theorem px_on_cl {ci : Nat} {r : vw_C} (h : vwCl[ci]? = some r) : r.1 = px_on ci := by
  match ci, h with
  | 0, h => cases h; rfl
  | 1, h => cases h; rfl
  | 2, h => cases h; rfl
  | 3, h => cases h; rfl
  | 4, h => cases h; rfl
  | 5, h => cases h; rfl
  | 6, h => cases h; rfl
  | 7, h => cases h; rfl
  | 8, h => cases h; rfl
  | 9, h => cases h; rfl
  | 10, h => cases h; rfl
  | 11, h => cases h; rfl
  | 12, h => cases h; rfl
  | n + 13, h => simp [vwCl] at h
/-- the room a method needs -/
def px_Rm (R : Room) (d : Nat) (hF : px_H) (c0 s0 : Nat) : Prop := d + 3 ≤ R.frames ∧ 64 * (d + 3) ≤ R.locals ∧ hF.1.length ≤ R.cells + c0 ∧ px_sl hF.1 ≤ R.slots + s0
/-- a call's stack -/
theorem px_inv_st {k j : Nat} {ins : Instr} {st as rest : List Value} {h : px_H} (hi : px_inv k ins st h = some (j, as, rest)) :
    (∃ i, ins = .invokestatic i ∧ (px_call k i = some (0, j) ∨ px_call k i = some (3, j)) ∧ as.length = (px_m j).2.2.2.2.2.2.1 ∧ st = as.reverse ++ rest) ∨
    (∃ i a as', ins = .invokevirtual i ∧ px_call k i = some (1, j) ∧ as = .ref a :: as' ∧ as'.length = (px_m j).2.2.2.2.2.2.1 ∧ st = as'.reverse ++ .ref a :: rest ∧ a < px_SC ∧ h.1[a]? = some (.inr (px_m j).2.2.1)) ∨
    (∃ i a as', ins = .invokespecial i ∧ px_call k i = some (2, j) ∧ as = .ref a :: as' ∧ as'.length = (px_m j).2.2.2.2.2.2.1 ∧ st = as'.reverse ++ .ref a :: rest) := by
  have key : ∀ {n : Nat} {x : Value} {r : List Value}, st.drop n = x :: r → (st.take n).length = n ∧ st = (st.take n) ++ x :: r := by
    intro n x r hd
    have h1 : n < st.length := by
      rcases Nat.lt_or_ge n st.length with q | q
      · exact q
      · rw [List.drop_eq_nil_of_le q] at hd; cases hd
    exact ⟨by rw [List.length_take]; omega, by rw [← hd, List.take_append_drop]⟩
  unfold px_inv at hi
  split at hi
  · rename_i i
    split at hi
    · rename_i j' hc
      cases hq : Nat.ble (px_m j').2.2.2.2.2.2.1 st.length with
      | false => rw [hq] at hi; cases hi
      | true =>
        rw [hq] at hi
        cases hi
        have hle := px_bleT hq
        exact Or.inl ⟨i, rfl, Or.inl hc, by rw [List.length_reverse, List.length_take]; omega, by rw [List.reverse_reverse, List.take_append_drop]⟩
    · rename_i j' hc
      cases hq : Nat.ble (px_m j').2.2.2.2.2.2.1 st.length with
      | false => rw [hq] at hi; cases hi
      | true =>
        rw [hq] at hi
        cases hi
        have hle := px_bleT hq
        exact Or.inl ⟨i, rfl, Or.inr hc, by rw [List.length_reverse, List.length_take]; omega, by rw [List.reverse_reverse, List.take_append_drop]⟩
    · cases hi
  · rename_i i
    split at hi
    · rename_i j' hc
      split at hi
      · rename_i a rest' hd
        split at hi
        · rename_i ci ha
          cases hq : (Nat.beq ci (px_m j').2.2.1 && Nat.blt a px_SC) with
          | false => rw [hq] at hi; cases hi
          | true =>
            rw [hq] at hi
            cases hi
            rw [Bool.and_eq_true] at hq
            obtain ⟨k1, k2⟩ := key hd
            have e := px_beqT hq.1
            subst e
            exact Or.inr (Or.inl ⟨i, a, _, rfl, hc, rfl, by rw [List.length_reverse]; exact k1, by rw [List.reverse_reverse]; exact k2, px_bltT hq.2, ha⟩)
        · cases hi
      · cases hi
    · cases hi
  · rename_i i
    split at hi
    · rename_i j' hc
      split at hi
      · rename_i a rest' hd
        cases hi
        obtain ⟨k1, k2⟩ := key hd
        exact Or.inr (Or.inr ⟨i, a, _, rfl, hc, rfl, by rw [List.length_reverse]; exact k1, by rw [List.reverse_reverse]; exact k2⟩)
      · cases hi
    · cases hi
  · cases hi
/-- where a method with code returns, the machine does -/
theorem px_ret_go {p : Program} {l : Launch} {e : Env} {R : Room} {s : State} {m : MethodId} {args : Array Value} {below : List Frame} {meth : Method} {c : Code} {base : Nat} {rb : Nat → Nat} {ro : px_RO} {D : va_G} {dA : Nat → ClassId} {k : Nat} {h hF : px_H} {r : Option Value} (Cx : px_Cx p s m args meth c base rb ro D dA k h.1.length) (hret : meth.sig.returnType = (px_m k).2.2.2.2.2.1) (hlocks : meth.locks = false) {pc len : Nat} {lv : px_L} {st : List Value} {ins : Instr} (hf : px_fetch k pc = some (ins, len)) (hr : px_ret k ins st = some r) :
    px_Go p l e R s m args below meth c base rb D dA k h.1.length (px_sl h.1) (MQ below (px_Qc base rb D dA r hF) args s (hF.1.length - h.1.length) (px_sl hF.1 - px_sl h.1) (fun q => base ≤ q)) (pc, lv, st, hF) := by
  obtain ⟨hx, hb, hml, hown, hts, hnest, hao, hK, hsz, hro, hin, hst9⟩ := Cx
  obtain ⟨hdg, hlen⟩ := px_fetch_ok hf
  intro H locs ls cells slots I
  obtain ⟨hP, hS, hl, hcc, hsl, hsc⟩ := I
  dsimp only at hP hcc hsl
  have e1 : cells = hF.1.length - h.1.length := by omega
  have e2 : slots = px_sl hF.1 - px_sl h.1 := by omega
  subst e1
  subst e2
  unfold px_ret at hr
  split at hr
  · rename_i v hrt
    cases hr
    have e9 : len = 1 := px_beqT hlen
    subst e9
    exact W.iret hx hb (by rw [hret]; exact hrt) (fun t ht _ => ⟨rfl, by rw [ht]; exact hP, hS.F ht⟩) hS.2.2 hdg hlocks
  · rename_i v hrt
    split at hr
    · rename_i hv
      cases hr
      have e9 : len = 1 := px_beqT hlen
      subst e9
      exact W.zret (ty := .boolean) hx hb (by rw [hret]; exact hrt) (by rcases hv with rfl | rfl <;> rfl) (fun t ht _ => ⟨rfl, by rw [ht]; exact hP, hS.F ht⟩) hS.2.2 hdg hlocks
    · cases hr
  · rename_i v hrt
    cases hr
    have e9 : len = 1 := px_beqT hlen
    subst e9
    exact W.lret hx hb (by rw [hret]; exact hrt) (fun t ht _ => ⟨rfl, by rw [ht]; exact hP, hS.F ht⟩) hS.2.2 hdg hlocks
  · rename_i C a hrt
    cases hr
    have e9 : len = 1 := px_beqT hlen
    subst e9
    exact W.aret (rt := .object C) (v := .ref (px_ad base rb a)) hx hb (by rw [hret]; exact hrt) (Or.inl ⟨_, rfl⟩) (Or.inr ⟨_, rfl⟩) (fun t ht _ => ⟨rfl, by rw [ht]; exact hP, hS.F ht⟩) hS.2.2 hdg hlocks
  · rename_i C hrt
    cases hr
    have e9 : len = 1 := px_beqT hlen
    subst e9
    exact W.aret (rt := .object C) (v := .null) hx hb (by rw [hret]; exact hrt) (Or.inl ⟨_, rfl⟩) (Or.inl rfl) (fun t ht _ => ⟨rfl, by rw [ht]; exact hP, hS.F ht⟩) hS.2.2 hdg hlocks
  · rename_i hrt
    cases hr
    have e9 : len = 1 := px_beqT hlen
    subst e9
    exact W.vret hx hb (by rw [hret]; exact hrt) (fun t ht _ => ⟨rfl, by rw [ht]; exact hP, hS.F ht⟩) hS.2.2 hdg hlocks
  · cases hr
set_option maxHeartbeats 1000000 in
/-- THE PURE MACHINE IS SOUND -/
theorem px_sound {l : Launch} {base : Nat} {rb : Nat → Nat} {ro : px_RO} {D : va_G} {dA : Nat → ClassId} : ∀ (n d k : Nat) (σ : px_S) (r : Option Value) (hF : px_H), px_ev ro n d k σ = some (r, hF) →
    ∀ (p : Program) (e : Env) (R : Room) (s : State) (m : MethodId) (args : Array Value) (below : List Frame) (meth : Method) (c : Code) (c0 s0 : Nat) (Q : State → Prop), px_Cx p s m args meth c base rb ro D dA k c0 → px_Rm R d hF c0 s0 →
      (∀ (pc len : Nat) (lv : px_L) (st : List Value) (ins : Instr), px_fetch k pc = some (ins, len) → px_ret k ins st = some r → px_Go p l e R s m args below meth c base rb D dA k c0 s0 Q (pc, lv, st, hF)) →
      px_Go p l e R s m args below meth c base rb D dA k c0 s0 Q σ := by
  intro n
  induction n with
  | zero => intro d k σ r hF h; cases h
  | succ n ih =>
    intro d k σ r hF hev p e R s m args below meth c c0 s0 Q Cx Rm ret
    obtain ⟨pc, lv, st, h⟩ := σ
    cases d with
    | zero => cases hev
    | succ d =>
      obtain ⟨ins, len, hf, h1⟩ := px_ev_inv hev
      rcases h1 with ⟨hr, rfl⟩ | ⟨j, as, rest, v, h1, hi, hrs, hfit, hcal, hk⟩ | ⟨σ, ho, hk⟩
      · exact ret pc len lv st ins hf hr
      · -- a call
        have hgo := ih _ _ _ _ _ hk p e R s m args below meth c c0 s0 Q Cx Rm ret
        obtain ⟨hx, hb, hml, hown, hts, hnest, hao, hK, hsz, hro, hin, hst9⟩ := id Cx
        obtain ⟨r1, r2, r3, r4⟩ := Rm
        obtain ⟨hdg, hlen⟩ := px_fetch_ok hf
        have x1 := px_ext_le (px_ev_ext _ _ _ _ _ _ hcal)
        have x2 := px_ext_le (px_ev_ext _ _ _ _ _ _ hk)
        dsimp only at x1 x2
        obtain ⟨o1, o2, o3, o4, o5, o6, o7⟩ := px_m_ok j
        intro H locs ls cells slots I
        refine px_sized (fun hH => ?_)
        obtain ⟨hP, hS, hl, hcc, hsl, hsc⟩ := I
        dsimp only at hP hl hcc hsl hsc
        have hHs : H.size = base + h.1.length := by
          have hge : base + h.1.length ≤ H.size := by
            rcases Nat.eq_zero_or_pos h.1.length with z | z
            · have := hS.1; omega
            · have hlt : h.1.length - 1 < h.1.length := by omega
              have hg := (hP _ _ (px_w_get (List.getElem?_eq_getElem hlt))).lt
              dsimp only at hg
              rw [px_ad_lt (by omega)] at hg
              omega
          omega
        -- the callee's contract
        have hMet : ∀ (hjl : j < px_law) (hjn : (px_m j).1 = j), Met l (px_m j).2.1 (px_wsm j) (px_rm d (h1.1.length - h.1.length) (px_sl h1.1 - px_sl h.1)) (px_Pc base rb ro D dA h as) (px_Qc base rb D dA v h1) (h1.1.length - h.1.length) (px_sl h1.1 - px_sl h.1) (fun q => base ≤ q) := by
          intro hjl hjn
          refine Met.ofW (cc := (px_m j).2.2.2.1) (maxL := px_maxL j) (ret := (px_m j).2.2.2.2.2.1) o2 rfl ?_
          intro p' e' s' m' args' below' meth' c' s₁ B hml' hv
          obtain ⟨rfl, vsz, vP, vK, vro, vnest, vao, vst⟩ := hv
          have vts := atoms_spec (ws := px_wsm j) B.pre
          have Cx' : px_Cx p' s' m' (as.map (px_v (px_ad base rb))).toArray meth' c' base rb ro D dA j h.1.length := ⟨B.exec, B.bytes, hml', by rw [o3]; exact findClass_of_methodNamed B.named, fun w hw => vts w (List.mem_cons_of_mem _ hw), vnest, vao, vK, vsz, vro, fun hn => (name_of_methodNamed B.named B.method).1.trans hn, vst⟩
          rw [lg_entry_eq]
          have hl' := lv_entry (as.map (px_v (px_ad base rb))) (n := px_maxL j) (by rw [px_sl_len]; exact hfit)
          rw [px_args_map] at hl'
          refine ih _ _ _ _ _ hcal p' e' _ s' m' _ below' meth' c' h.1.length (px_sl h.1) _ Cx' ⟨Nat.le_refl _, Nat.le_refl _, ?_, ?_⟩ (fun pc' len' lv' st' ins' hf' hr' => px_ret_go (h := h) Cx' B.returns B.notSynchronized hf' hr') s'.heap [] _ 0 0 ⟨vP, va_S.rf, hl', by dsimp only; omega, by dsimp only; omega, hsc⟩
          · show h1.1.length ≤ (h1.1.length - h.1.length) + h.1.length; omega
          · show px_sl h1.1 ≤ (px_sl h1.1 - px_sl h.1) + px_sl h.1; omega
        have hpre : ∀ U : State, U.heap = H → s.WarmedH U.vm → px_Pc base rb ro D dA h as (as.map (px_v (px_ad base rb))).toArray U := by
          intro U hU hW
          refine ⟨rfl, by rw [hU]; exact hHs, by rw [hU]; exact hP, va_K.moved hW.alike hK, fun i L xs hi => ?_, fun q hq => va_Nw.warmM hW (hnest q hq), va_AO.moved hW.alike hao, ⟨ps_go hst9.1 hS hU hW, vk_R.warm hW hst9.2.1, by rw [hU]; exact (hst9.2.2.1.kept hS.2.1).moved hW.alike, by rw [hU]; exact (hst9.2.2.2.kept hS.2.1).moved hW.alike⟩⟩
          rw [hU]
          exact ((hro i L xs hi).kept hS.2.1).moved hW.alike
        have hroom : (px_rm d (h1.1.length - h.1.length) (px_sl h1.1 - px_sl h.1)).frames + 1 ≤ R.frames ∧ 8 + (px_maxL j + 11) + (px_rm d (h1.1.length - h.1.length) (px_sl h1.1 - px_sl h.1)).locals ≤ R.locals := by
          refine ⟨by show d + 3 + 1 ≤ R.frames; omega, ?_⟩
          show 8 + (px_maxL j + 11) + 64 * (d + 3) ≤ R.locals
          omega
        have hcell : cells + (h1.1.length - h.1.length) ≤ R.cells ∧ slots + (px_sl h1.1 - px_sl h.1) ≤ R.slots := by
          constructor <;> omega
        have hsum : ((rest.map (px_v (px_ad base rb))).map fun v => v.category).sum ≤ 8 := by rw [px_v_sum]; exact hrs
        have cont : ∀ (H1 : Heap) (locs1 : List Loc), va_P D vwCl (px_w (px_ad base rb) dA h1) H1 → va_S (fun q => base ≤ q) s.heap H1 locs1 → W p l e R s m args below meth c H1 locs1 (cells + (h1.1.length - h.1.length)) (slots + (px_sl h1.1 - px_sl h.1)) Q (F0 m (pc + 3) ls ((v.toList ++ rest).map (px_v (px_ad base rb)))) := by
          intro H1 locs1 hP1 hS1
          refine hgo H1 locs1 ls _ _ ⟨hP1, hS1, hl, by dsimp only; omega, by dsimp only; omega, ?_⟩
          dsimp only
          -- cells stay below the mark
          exact px_ev_sc _ _ _ _ _ _ hcal hsc
        have S9 : CallFix p m c (px_m k).2.2.2.1 (px_maxL k) s args px_ws (px_on (px_m k).2.2.1) := ⟨hx, hb, hml, hown, hts⟩
        rcases px_inv_st hi with ⟨i, rfl, hc, hal, hst⟩ | ⟨i, a, as', rfl, hc, rfl, hal, hst, hasc, ha⟩ | ⟨i, a, as', rfl, hc, rfl, hal, hst⟩
        · have e9 : len = 3 := px_beqT hlen
          subst e9
          have hstk : (st.map (px_v (px_ad base rb))) = (as.map (px_v (px_ad base rb))).reverse ++ rest.map (px_v (px_ad base rb)) := by rw [hst]; simp
          rcases hc with hc | hc
          · obtain ⟨k1, k2, k3, k4⟩ := px_call_ok hc
            have cw := callB_of (R := R) (s := s) (args := args) (own := px_on (px_m k).2.2.1) (index := i) (rm := px_rm d (h1.1.length - h.1.length) (px_sl h1.1 - px_sl h.1)) (mc := h1.1.length - h.1.length) (ms := px_sl h1.1 - px_sl h.1) (px_m j).2.2.2.2.2.2.1 hts (px_wsm_good k3 k4) rfl rfl rfl (hts _ o1) (hts _ k1) ⟨o6, o7, o4⟩ hroom
            exact px_run_go (va_runS (g := F0 m pc ls (st.map (px_v (px_ad base rb)))) S9 (hMet k3 k4) ⟨cw, hts _ k2⟩ ⟨px_Pc_blind, hpre⟩ rfl (by rw [List.length_map]; exact hal) hl.1 hstk (lv_room hsum) hdg hcell) hS cont
          · obtain ⟨⟨hh, k1⟩, k2, k3, k4⟩ := px_call_ok hc
            have cw := va_cnB (R := R) (s := s) (args := args) (own := px_on (px_m k).2.2.1) (index := i) (rm := px_rm d (h1.1.length - h.1.length) (px_sl h1.1 - px_sl h.1)) (mc := h1.1.length - h.1.length) (ms := px_sl h1.1 - px_sl h.1) (px_m j).2.2.2.2.2.2.1 hts (px_wsm_good k3 k4) rfl rfl rfl (hnest _ k1) (hts _ o1) ⟨o6, o7, o4⟩ hroom
            exact px_run_go (va_runSN (g := F0 m pc ls (st.map (px_v (px_ad base rb)))) S9 (hMet k3 k4) ⟨cw, hts _ k2, trivial⟩ ⟨px_Pc_blind, hpre⟩ rfl (by rw [List.length_map]; exact hal) hl.1 hstk (lv_room hsum) hdg hcell) hS cont
        · have e9 : len = 3 := px_beqT hlen
          subst e9
          have hstk : (st.map (px_v (px_ad base rb))) = (as'.map (px_v (px_ad base rb))).reverse ++ .ref (px_ad base rb a) :: rest.map (px_v (px_ad base rb)) := by rw [hst]; simp [px_v]
          obtain ⟨k1, k2, k3, k4, k5⟩ := px_call_ok hc
          have cw := callB_of (R := R) (s := s) (args := args) (own := px_on (px_m k).2.2.1) (index := i) (rm := px_rm d (h1.1.length - h.1.length) (px_sl h1.1 - px_sl h.1)) (mc := h1.1.length - h.1.length) (ms := px_sl h1.1 - px_sl h.1) (px_m j).2.2.2.2.2.2.1 hts (px_wsm_good k4 k5) rfl rfl rfl (hts _ o1) (hts _ k1) ⟨o6, o7, o4⟩ hroom
          have hget := px_w_get (ad := px_ad base rb) (dA := dA) ha
          obtain ⟨q, hq, -⟩ := hP a _ hget
          have hrec := va_recv hK hP hq hget
          rw [px_on_cl hq, o3] at hrec
          exact px_run_go (va_runV (C := (px_m j).2.1.cls) (b := px_ad base rb a) (g := F0 m pc ls (st.map (px_v (px_ad base rb)))) S9 (hMet k4 k5) ⟨cw, hts _ k2, hts _ k3⟩ ⟨px_Pc_blind, hrec, hpre⟩ rfl (by rw [List.length_map]; exact hal) hl.1 hstk (lv_room hsum) hdg hcell) hS cont
        · have e9 : len = 3 := px_beqT hlen
          subst e9
          have hstk : (st.map (px_v (px_ad base rb))) = (as'.map (px_v (px_ad base rb))).reverse ++ .ref (px_ad base rb a) :: rest.map (px_v (px_ad base rb)) := by rw [hst]; simp [px_v]
          obtain ⟨k1, k2, k3, k4, k5, k6⟩ := px_call_ok hc
          have hwm : px_wsm j = Cond.code (px_m j).2.1 (px_m j).2.2.2.1 (px_maxL j) none :: px_ws := by unfold px_wsm; rw [k6]
          have cw := callB_of (R := R) (s := s) (args := args) (own := px_on (px_m k).2.2.1) (index := i) (rm := px_rm d (h1.1.length - h.1.length) (px_sl h1.1 - px_sl h.1)) (mc := h1.1.length - h.1.length) (ms := px_sl h1.1 - px_sl h.1) (px_m j).2.2.2.2.2.2.1 hts (px_wsm_good k3 k4) hwm rfl rfl (hts _ o1) (hts _ k1) ⟨o6, o7, o4⟩ hroom
          exact px_run_go (va_runI (b := px_ad base rb a) (g := F0 m pc ls (st.map (px_v (px_ad base rb)))) S9 (hMet k3 k4) ⟨cw, k5, hts _ k2⟩ ⟨px_Pc_blind, hpre⟩ rfl (by rw [List.length_map]; exact hal) hl.1 hstk (lv_room hsum) hdg hcell) hS cont
      · have x2 := px_ext_le (px_ev_ext _ _ _ _ _ _ hk)
        obtain ⟨r1, r2, r3, r4⟩ := id Rm
        exact px_op_ok Cx ⟨by omega, by omega⟩ ⟨by omega, by omega⟩ hf ho ⟨by omega, by omega⟩ (ih _ _ _ _ _ hk p e R s m args below meth c c0 s0 Q Cx Rm ret)
def R_law : String := "ElevenBullocksLaw"
def lw_P (b : Addr) (xs : List Int32) (args : Array Value) (s : State) : Prop := args = #[.ref b] ∧ s.IntsAt b xs ∧ xs.length ≤ 3072 ∧ (Jvm.Cond.and given_1 narrow_1).before args s = true
def lw_Q (_ : Array Value) (s : State) (o : Outcome) (t : State) : Prop := o = .returned (some (.int 1)) ∧ Framed s o t [] 600000 7302250
def lw_Z (below : List Frame) (a : Array Value) (s : State) : State → Prop := fun t => ∃ o, t.status = .running ∧ Ended t below o ∧ lw_Q a s o t
/-- the law's own end, with 1 on the stack, nothing written that was there before, its room as the claim has it -/
theorem lw_ret {p : Program} {l : Launch} {e : Env} {s : State} {m : MethodId} {below : List Frame} {meth : Method} {c : Code} {b : Nat} (hx : p.tables.exec = Jvm.exec) (hb : c.code = code) (hr : meth.sig.returnType = ret) (hlocks : meth.locks = false) {pc : Nat} {H : Heap} {ls : Array Slot} (hdg : decode code pc = .ok (.ireturn, 1)) : W p l e room_1 s m #[Value.ref b] below meth c H [] 600000 7302250 (lw_Z below #[Value.ref b] s) (F0 m pc ls [.int 1]) := by
  intro T hT X
  obtain ⟨fs, hret, hrun, hended, hW, hframe⟩ := X.leave (v := some (.int 1)) (hlocks := hlocks) (fun h => by rw [hr] at h; cases h)
  have hmeth' : T.vm.method? m = some meth := X.method'
  refine ⟨T.setFrames fs, ?_, .returned (some (.int 1)), hrun, hended, rfl, ⟨_, rfl⟩, hW, hframe⟩
  jvm_step X.here [X.here.top, hx, hb, hdg, hmeth', hr, ret, narrow_b1]
  (try refine ⟨rfl, ?_⟩); (try refine ⟨rfl, ?_⟩)
  first | (intro acts; rw [hret _ acts rfl rfl rfl]) | rw [hret _ _ rfl rfl rfl]
  exact Steps.refl _
/-- what holds at the law's entry: the machine, the code, the tables' words (any of lw_tbl by 'hts w (by decide +kernel)'), the script of L ints xs at the cell b, what the Statement gives of the start (any of its parts by flat_of_before) -/
def lw_At (p : Program) (s : State) (m : MethodId) (meth : Method) (c : Code) (b L : Nat) (xs : Nat → Int32) : Prop :=
  p.tables.exec = Jvm.exec ∧ c.code = code ∧ meth.sig.returnType = ret ∧ c.maxLocals = 4 ∧ s.vm.findClass R_law = some m.cls ∧ (∀ w ∈ lw_tbl, w.before #[Value.ref b] s = true) ∧ va_X b L xs s s.heap ∧ b < s.heap.size ∧ meth.locks = false ∧ (Jvm.Cond.and given_1 narrow_1).before #[Value.ref b] s = true

theorem px_world {s : State} {args : Array Value} (hts : ∀ w ∈ px_ws, w.before args s = true) (hao : va_AO "ElevenBullocks$Script" s) : ∃ (D : va_G) (dA : Nat → ClassId), va_K D vwCl (px_tys dA) s := by
  have h1 : ∀ ci : Nat, ∃ (cC : ClassId) (iS : Nat → Nat), ∀ r : vw_C, vwCl[ci]? = some r → u_Kn s r.1 r.2.1 r.2.2 cC iS := by
    intro ci
    cases hc : vwCl[ci]? with
    | none => exact ⟨0, fun _ => 0, fun r h => by cases h⟩
    | some r =>
      have q := px_cl hc
      obtain ⟨cC, iS, h⟩ := u_known hts q.2.1 (hts _ q.2.2.2.2.1)
      exact ⟨cC, iS, fun r' h' => by cases h'; exact h⟩
  have arr : ∀ {ty : FieldType}, (Cond.arrayClass ty).before args s = true → ∃ cA : ClassId, ArrOfT s cA ty ∧ s.vm.findClass ("[" ++ ty.toString) = some cA := by
    intro ty h
    obtain ⟨cA, kA, comp, a1, a2, a3⟩ := Cond.arrayClass_spec h
    exact ⟨cA, fun n z => ⟨fun k h => (by cases h), kA, a2, comp, a3⟩, a1⟩
  obtain ⟨a0, x0, y0⟩ := arr (hts _ px_gl_ai)
  obtain ⟨a1, x1, y1⟩ := arr (hts _ px_gl_al)
  obtain ⟨a2, x2, y2⟩ := arr (hts _ px_gl_az)
  obtain ⟨comp, a3, k3, f1, -, f3, f4, f5⟩ := Cond.arrayOver_spec (va_AO.use (A := args) hao)
  refine ⟨(fun ci => Classical.choose (h1 ci), fun ci => Classical.choose (Classical.choose_spec (h1 ci))), fun t => match t with | 0 => a0 | 1 => a1 | 2 => a2 | _ => a3, fun ci r h => Classical.choose_spec (Classical.choose_spec (h1 ci)) r h, ?_⟩
  intro k q hq
  match k, hq with
  | 0, hq => cases hq; exact ⟨x0, y0⟩
  | 1, hq => cases hq; exact ⟨x1, y1⟩
  | 2, hq => cases hq; exact ⟨x2, y2⟩
  | 3, hq => cases hq; exact ⟨fun n z => ⟨fun k h => (by cases h), k3, f3, comp, f4⟩, k3, comp, f3, f4, f1, f5⟩
  | n + 4, hq => simp [px_tys] at hq
def px_shL : List Int32 := [0, 3, 33, 0, 99, 0, 11, 34, 0, 11, 0, 11, 34, 0, 11, 0, 9, 35, 0, 11, 1, 24, 35, 0, 11, 0, 5, 34, 0, 11, 0, 15, 0, 0, 0, 0, 15, 0, 0, 0, 0, 3, 36, 1, 24, 1, 60, 0, 0, 0]
def px_lwL : List Int32 := [7, 7, 7, 7, 1, 2, 2, 2, 2, 4, 2]
def px_sh (j : Nat) : Int32 := px_shL.getD j 0
def px_lw (j : Nat) : Int32 := px_lwL.getD j 0
theorem px_shIn : ∀ j, j < 50 → Cond.eq (.elem (.static "ElevenBullocks$Reader" "SHAPES" "[I") (.int (Int32.ofNat j))) (.int (px_shL.getD j 0)) ∈ flatC (Jvm.Cond.and given_1 narrow_1) := fun j hj => va_run (N := 50) (p := 26) (f := fun j => Cond.eq (.elem (.static "ElevenBullocks$Reader" "SHAPES" "[I") (.int (Int32.ofNat j))) (.int (px_shL.getD j 0))) (by decide +kernel) j hj
theorem px_lwIn : ∀ j, j < 11 → Cond.eq (.elem (.static "ElevenBullocks$Reader" "LAWS_OF_NAMES" "[I") (.int (Int32.ofNat j))) (.int (px_lwL.getD j 0)) ∈ flatC (Jvm.Cond.and given_1 narrow_1) := fun j hj => va_run (N := 11) (p := 12) (f := fun j => Cond.eq (.elem (.static "ElevenBullocks$Reader" "LAWS_OF_NAMES" "[I") (.int (Int32.ofNat j))) (.int (px_lwL.getD j 0))) (by decide +kernel) j hj
theorem px_byIn : ∀ j, j < 180 → Cond.eq (.elem (.field (.string "ElevenBullocks$Reader" 177) "java/lang/String" "value" "[B") (.int (Int32.ofNat j))) (.int (ps_byt.getD j 0)) ∈ flatC (Jvm.Cond.and given_1 narrow_1) := fun j hj => va_run (N := 180) (p := 80) (f := fun j => Cond.eq (.elem (.field (.string "ElevenBullocks$Reader" 177) "java/lang/String" "value" "[B") (.int (Int32.ofNat j))) (.int (ps_byt.getD j 0))) (by decide +kernel) j hj
/-- what the Statement gives of the class's statics and of its one text -/
theorem px_stat {s : State} {b : Nat} (hts : ∀ w ∈ lw_tbl, w.before #[Value.ref b] s = true) (hgv : (Jvm.Cond.and given_1 narrow_1).before #[Value.ref b] s = true) : ∃ rb : Nat → Nat, rb 0 = b ∧ ps_St s.heap.size rb s ∧ va_T .int (rb 1) 50 (fun j => .int (px_sh j)) (fun q => s.heap.size ≤ q) s s.heap ∧ va_T .int (rb 2) 11 (fun j => .int (px_lw j)) (fun q => s.heap.size ≤ q) s s.heap := by
  have hs := flat_of_before _ hgv
  have hA : ∀ a : Nat, a < s.heap.size → ¬ (fun q => s.heap.size ≤ q) a := fun a h => Nat.not_le.mpr h
  obtain ⟨t1, e1, T1⟩ := va_Tof (tm := .static "ElevenBullocks$Reader" "SHAPES" "[I") (ty := .int) (N := 50) (f := fun j => .int (px_sh j)) (A := fun q => s.heap.size ≤ q) (by decide) (hs _ (by decide +kernel)) (va_eqt (hs _ (by decide +kernel))) (fun j hj => va_eqt (hs _ (px_shIn j hj))) hA
  obtain ⟨t2, e2, T2⟩ := va_Tof (tm := .static "ElevenBullocks$Reader" "LAWS_OF_NAMES" "[I") (ty := .int) (N := 11) (f := fun j => .int (px_lw j)) (A := fun q => s.heap.size ≤ q) (by decide) (hs _ (by decide +kernel)) (va_eqt (hs _ (by decide +kernel))) (fun j hj => va_eqt (hs _ (px_lwIn j hj))) hA
  have key : ∀ {P : Nat → Prop}, P 0 → ∀ i : Nat, i < 1 → P i := fun h i hi => by
    have e : i = 0 := by omega
    subst e
    exact h
  obtain ⟨adK, adV, S1, S2⟩ := vk_Sof (args := #[Value.ref b]) (s := s) (N := 1) (tm := fun _ => .string "ElevenBullocks$Reader" 177) (len := [180]) (byt := [ps_byt]) (A := fun q => s.heap.size ≤ q) (key (by decide)) (key (hs _ (by decide +kernel))) (key (hs _ (by decide +kernel))) (key (hs _ (by decide +kernel))) (key (hs _ (by decide +kernel))) (key (fun j hj => hs _ (px_byIn j hj))) (fun i j hi hj h => absurd (show i = j by omega) h) hA
  refine ⟨fun i => match i with | 0 => b | 1 => t1 | 2 => t2 | 3 => adK 0 | _ => adV 0, rfl, ⟨⟨⟨key (S1.1 0 (by decide)), fun i j hi hj _ => by omega⟩, va_Zof (hts _ (by decide +kernel)) (hts _ (by decide +kernel)) (va_eqt (hs _ (by decide +kernel))) hA, va_Zqof (hts _ (by decide +kernel)) (hts _ (by decide +kernel)) (hs _ (by decide +kernel)) hA⟩, vk_R.of (hts _ (by decide +kernel)) (S2 0 (by decide)), va_Zof (hts _ (by decide +kernel)) (hts _ (by decide +kernel)) e1 hA, va_Zof (hts _ (by decide +kernel)) (hts _ (by decide +kernel)) e2 hA⟩, T1, T2⟩
def px_ro (L : Nat) (xs : Nat → Int32) : px_RO := [(L, xs), (50, px_sh), (11, px_lw)]
def px_h0 : px_H := ([], fun _ _ => 0, fun _ _ => 0, fun _ _ => none)
/-- the law's walk out of a run of the pure machine -/
theorem px_law_go {p : Program} {e : Env} {s : State} {m : MethodId} {below : List Frame} {meth : Method} {c : Code} (l : Launch) {b L : Nat} {xs : Nat → Int32} (C0 : lw_At p s m meth c b L xs) {n : Nat} {hF : px_H} (hev : px_ev (px_ro L xs) n 1000 px_law (0, [(0, .ref px_SC)], [], px_h0) = some (some (.int 1), hF)) (hc : hF.1.length ≤ 600000) (hs : px_sl hF.1 ≤ 7302250) :
    W p l e room_1 s m #[Value.ref b] below meth c s.heap [] 0 0 (lw_Z below #[Value.ref b] s) (entryFrame m ([Value.ref b] : List Value).toArray 4) := by
  obtain ⟨hx, hb, hr, hml, hown, hts, hX, hbl, hlocks, hgv⟩ := id C0
  have hts' : ∀ w ∈ px_ws, w.before #[Value.ref b] s = true := fun w h => hts w (px_ws_sub w h)
  have hao : va_AO "ElevenBullocks$Script" s := va_AO.of (hts _ px_gl_ao)
  obtain ⟨D, dA, hK⟩ := px_world hts' hao
  obtain ⟨rb, rb0, hst, T1, T2⟩ := px_stat hts hgv
  have Cx : px_Cx p s m #[Value.ref b] meth c s.heap.size rb (px_ro L xs) D dA px_law 0 := by
    refine ⟨hx, hb, hml, hown, hts', fun q hq => va_Nw.of rfl (hts _ (px_nest_in q hq)), hao, hK, rfl, ?_, fun h => absurd h (by decide), hst⟩
    intro i L' xs' hi
    match i, hi with
    | 0, hi =>
      cases hi
      obtain ⟨scr, h1, h2, h3, h4, h5⟩ := hX
      rw [rb0]
      exact ⟨scr, h1, h2, h3, Nat.le_of_eq h4.symm, by rw [h4], h5, Nat.not_le.mpr hbl⟩
    | 1, hi => cases hi; exact T1
    | 2, hi => cases hi; exact T2
    | i + 3, hi => simp [px_ro] at hi
  have hl := lv_entry ([.ref b]) (n := 4) (Nat.le_of_ble_eq_true rfl)
  rw [lg_entry_eq]
  have had : px_ad s.heap.size rb px_SC = b := (if_neg (by decide)).trans rb0
  have hl2 : lv_has ((lg_sl ([.ref b]) ++ List.replicate (4 - (lg_sl ([.ref b])).length) Slot.unset).toArray) (px_maxL px_law) (px_lv (px_ad s.heap.size rb) [(0, .ref px_SC)]) := by
    have e : px_lv (px_ad s.heap.size rb) [(0, .ref px_SC)] = [(0, .ref b)] := by
      show [(0, Value.ref (px_ad s.heap.size rb px_SC))] = _
      rw [had]
    rw [e]
    exact hl
  refine px_sound n 1000 px_law _ _ _ hev p e room_1 s m #[Value.ref b] below meth c 0 0 _ Cx ⟨Nat.le_of_ble_eq_true rfl, Nat.le_of_ble_eq_true rfl, hc, hs⟩ ?_ s.heap [] _ 0 0 ⟨fun k q h => by simp [px_w, px_h0] at h, va_S.rf, hl2, rfl, rfl, Nat.zero_le _⟩
  intro pc len lv st ins hf hret
  obtain ⟨hdg, hlen⟩ := px_fetch_ok hf
  intro H locs ls cells slots I
  obtain ⟨hP, hS, hl, hcc, hsl, hsc⟩ := I
  dsimp only at hcc hsl
  have hst : ins = .ireturn ∧ st = [.int 1] := by
    unfold px_ret at hret
    split at hret
    · rename_i v hrt; cases hret; exact ⟨rfl, rfl⟩
    · split at hret
      · cases hret; exact ⟨rfl, rfl⟩
      · cases hret
    · cases hret
    · cases hret
    · cases hret
    · cases hret
    · cases hret
  obtain ⟨rfl, rfl⟩ := hst
  have e9 : len = 1 := px_beqT hlen
  subst e9
  refine va_forget (fun q hq => hS.2.2 q hq) ?_
  refine W.widen (k := 600000) (n := 7302250) (by omega) (by omega) ?_
  exact lw_ret hx hb hr hlocks hdg
/-! RULES OF THE PURE MACHINE: px_E: method k, from a state on, comes to an answer and a heap -/
def px_E (ro : px_RO) (d k : Nat) (σ : px_S) (r : Option Value) (hF : px_H) : Prop := ∃ n, px_ev ro n d k σ = some (r, hF)
/-- method j, called -/
def px_M (ro : px_RO) (d j : Nat) (as : List Value) (h : px_H) (r : Option Value) (hF : px_H) : Prop := px_E ro d j (0, lv_args 0 as, [], h) r hF
theorem px_ev_mono {ro : px_RO} : ∀ (n d k : Nat) (σ : px_S) (r : Option Value) (hF : px_H), px_ev ro n d k σ = some (r, hF) → ∀ n' d', n ≤ n' → d ≤ d' → px_ev ro n' d' k σ = some (r, hF) := by
  intro n
  induction n with
  | zero => intro d k σ r hF h; cases h
  | succ n ih =>
    intro d k σ r hF h n' d' hn hd
    obtain ⟨pc, lv, st, hp⟩ := σ
    cases d with
    | zero => cases h
    | succ d =>
      obtain ⟨n', rfl⟩ : ∃ z, n' = z + 1 := ⟨n' - 1, by omega⟩
      obtain ⟨d', rfl⟩ : ∃ z, d' = z + 1 := ⟨d' - 1, by omega⟩
      unfold px_ev at h ⊢
      cases hf : px_fetch k pc with
      | none => rw [hf] at h; cases h
      | some q =>
        obtain ⟨ins, len⟩ := q
        rw [hf] at h
        dsimp only at h ⊢
        cases hr : px_ret k ins st with
        | some r' => rw [hr] at h; exact h
        | none =>
          rw [hr] at h
          dsimp only at h ⊢
          cases hi : px_inv k ins st hp with
          | some q =>
            obtain ⟨j, as, rest⟩ := q
            rw [hi] at h
            dsimp only at h ⊢
            cases hq : (Nat.ble (rest.map fun v => v.category).sum 8 && Nat.ble (lg_sl as).length (px_maxL j)) with
            | false => rw [hq] at h; cases h
            | true =>
              rw [hq] at h
              dsimp only [cond_true] at h ⊢
              cases hv : px_ev ro n d j (0, lv_args 0 as, [], hp) with
              | none => rw [hv] at h; cases h
              | some q =>
                obtain ⟨v, h1⟩ := q
                rw [hv] at h
                rw [ih _ _ _ _ _ hv n' d' (by omega) (by omega)]
                exact ih _ _ _ _ _ h n' (d' + 1) (by omega) (by omega)
          | none =>
            rw [hi] at h
            dsimp only at h ⊢
            cases ho : px_op ro k ins len pc lv st hp with
            | none => rw [ho] at h; cases h
            | some σ =>
              rw [ho] at h
              exact ih _ _ _ _ _ h n' (d' + 1) (by omega) (by omega)
theorem px_E.deep {ro : px_RO} {d d' k : Nat} {σ : px_S} {r : Option Value} {hF : px_H} (h : px_E ro d k σ r hF) (hd : d ≤ d') : px_E ro d' k σ r hF := by
  obtain ⟨n, h⟩ := h
  exact ⟨n, px_ev_mono _ _ _ _ _ _ h n d' (Nat.le_refl _) hd⟩
theorem px_M.deep {ro : px_RO} {d d' k : Nat} {as : List Value} {h : px_H} {r : Option Value} {hF : px_H} (hM : px_M ro d k as h r hF) (hd : d ≤ d') : px_M ro d' k as h r hF := px_E.deep hM hd
/-- one instruction that is no call of a method with code and no return -/
def px_one (ro : px_RO) (k : Nat) (σ : px_S) : Option px_S := match px_fetch k σ.1 with
  | none => none
  | some (ins, len) => match px_ret k ins σ.2.2.1 with
    | some _ => none
    | none => match px_inv k ins σ.2.2.1 σ.2.2.2 with
      | some _ => none
      | none => px_op ro k ins len σ.1 σ.2.1 σ.2.2.1 σ.2.2.2
def px_seg (ro : px_RO) (k : Nat) : Nat → px_S → Option px_S
  | 0, σ => some σ
  | n + 1, σ => match px_one ro k σ with
    | some σ' => px_seg ro k n σ'
    | none => none
theorem px_E_one {ro : px_RO} {d k : Nat} {σ σ' : px_S} {r : Option Value} {hF : px_H} (h1 : px_one ro k σ = some σ') (h : px_E ro (d + 1) k σ' r hF) : px_E ro (d + 1) k σ r hF := by
  obtain ⟨n, h⟩ := h
  refine ⟨n + 1, ?_⟩
  obtain ⟨pc, lv, st, hp⟩ := σ
  unfold px_one at h1
  dsimp only at h1
  unfold px_ev
  cases hf : px_fetch k pc with
  | none => rw [hf] at h1; cases h1
  | some q =>
    obtain ⟨ins, len⟩ := q
    rw [hf] at h1
    dsimp only at h1 ⊢
    cases hr : px_ret k ins st with
    | some r' => rw [hr] at h1; cases h1
    | none =>
      rw [hr] at h1
      dsimp only at h1 ⊢
      cases hi : px_inv k ins st hp with
      | some q => rw [hi] at h1; cases h1
      | none =>
        rw [hi] at h1
        dsimp only at h1 ⊢
        rw [h1]
        exact h
theorem px_E_seg {ro : px_RO} {d k : Nat} : ∀ (n : Nat) {σ σ' : px_S} {r : Option Value} {hF : px_H}, px_seg ro k n σ = some σ' → px_E ro (d + 1) k σ' r hF → px_E ro (d + 1) k σ r hF := by
  intro n
  induction n with
  | zero => intro σ σ' r hF h1 h; cases h1; exact h
  | succ n ih =>
    intro σ σ' r hF h1 h
    unfold px_seg at h1
    cases ho : px_one ro k σ with
    | none => rw [ho] at h1; cases h1
    | some σ1 =>
      rw [ho] at h1
      exact px_E_one ho (ih h1 h)
theorem px_E_ret {ro : px_RO} {d k pc len : Nat} {lv : px_L} {st : List Value} {h : px_H} {ins : Instr} {r : Option Value} (hf : px_fetch k pc = some (ins, len)) (hr : px_ret k ins st = some r) : px_E ro (d + 1) k (pc, lv, st, h) r h := by
  refine ⟨1, ?_⟩
  unfold px_ev
  rw [hf]
  dsimp only
  rw [hr]
theorem px_E_call {ro : px_RO} {d k pc len j : Nat} {lv : px_L} {st as rest : List Value} {h h1 hF : px_H} {ins : Instr} {v r : Option Value} (hf : px_fetch k pc = some (ins, len)) (hi : px_inv k ins st h = some (j, as, rest)) (hq : (Nat.ble (rest.map fun v => v.category).sum 8 && Nat.ble (lg_sl as).length (px_maxL j)) = true) (hM : px_M ro d j as h v h1) (hk : px_E ro (d + 1) k (pc + 3, lv, v.toList ++ rest, h1) r hF) : px_E ro (d + 1) k (pc, lv, st, h) r hF := by
  obtain ⟨n1, e1⟩ := hM
  obtain ⟨n2, e2⟩ := hk
  refine ⟨n1 + n2 + 1, ?_⟩
  have hr : px_ret k ins st = none := by
    rcases px_inv_st hi with ⟨i, rfl, -⟩ | ⟨i, a, as', rfl, -⟩ | ⟨i, a, as', rfl, -⟩ <;> rfl
  unfold px_ev
  rw [hf]
  dsimp only
  rw [hr]
  dsimp only
  rw [hi]
  dsimp only
  rw [hq]
  dsimp only [cond_true]
  rw [px_ev_mono _ _ _ _ _ _ e1 (n1 + n2) d (by omega) (Nat.le_refl _)]
  exact px_ev_mono _ _ _ _ _ _ e2 (n1 + n2) (d + 1) (by omega) (Nat.le_refl _)
/-- what a comparison asks -/
def px_cP (c : ClassFile.Cond) (x y : Int32) : Prop := match c with
  | .eq => x = y
  | .ne => ¬ x = y
  | .lt => x < y
  | .ge => y ≤ x
  | .gt => y < x
  | .le => x ≤ y
theorem px_br_t {c : ClassFile.Cond} {x y : Int32} {t f : Nat} (h : px_cP c x y) : px_br c x y t f = t := by
  cases c <;> first | exact if_pos h | exact if_neg h
theorem px_br_f {c : ClassFile.Cond} {x y : Int32} {t f : Nat} (h : ¬ px_cP c x y) : px_br c x y t f = f := by
  cases c with
  | ne => exact if_pos (Classical.not_not.mp h)
  | _ => exact if_neg h
theorem px_E_icmp {ro : px_RO} {d k pc t : Nat} {c : ClassFile.Cond} {off : Int} {lv : px_L} {st : List Value} {x y : Int32} {h hF : px_H} {r : Option Value} (hf : px_fetch k pc = some (.if_icmp c off, 3)) (ht : px_tg pc off = some t) (kt : px_cP c x y → px_E ro (d + 1) k (t, lv, st, h) r hF) (kf : ¬ px_cP c x y → px_E ro (d + 1) k (pc + 3, lv, st, h) r hF) : px_E ro (d + 1) k (pc, lv, .int y :: .int x :: st, h) r hF := by
  refine px_E_one (σ' := (px_br c x y t (pc + 3), lv, st, h)) ?_ ?_
  · unfold px_one; dsimp only; rw [hf]; dsimp only [px_ret, px_inv, px_op, px_oIcmp]; rw [ht]
  · by_cases hc : px_cP c x y
    · rw [px_br_t hc]; exact kt hc
    · rw [px_br_f hc]; exact kf hc
theorem px_E_if {ro : px_RO} {d k pc t : Nat} {c : ClassFile.Cond} {off : Int} {lv : px_L} {st : List Value} {x : Int32} {h hF : px_H} {r : Option Value} (hf : px_fetch k pc = some (.ifCond c off, 3)) (ht : px_tg pc off = some t) (kt : px_cP c x 0 → px_E ro (d + 1) k (t, lv, st, h) r hF) (kf : ¬ px_cP c x 0 → px_E ro (d + 1) k (pc + 3, lv, st, h) r hF) : px_E ro (d + 1) k (pc, lv, .int x :: st, h) r hF := by
  refine px_E_one (σ' := (px_br c x 0 t (pc + 3), lv, st, h)) ?_ ?_
  · unfold px_one; dsimp only; rw [hf]; dsimp only [px_ret, px_inv, px_op, px_oIf]; rw [ht]
  · by_cases hc : px_cP c x 0
    · rw [px_br_t hc]; exact kt hc
    · rw [px_br_f hc]; exact kf hc
theorem px_in_nI {j n : Nat} (hj : j < n) (hn : n < 2 ^ 31) : px_in (nI j) n = true := by
  unfold px_in
  exact decide_eq_true (nI_in hj hn)
theorem px_E_iald {ro : px_RO} {d k pc a n j : Nat} {lv : px_L} {st : List Value} {i : Int32} {h hF : px_H} {r : Option Value} (hf : px_fetch k pc = some (.iaload, 1)) (ha : h.1[a]? = some (.inl (0, n))) (hs : Nat.ble px_SC a = false) (hi : i = nI j) (hj : j < n) (hn : n < 2 ^ 31) (kk : px_E ro (d + 1) k (pc + 1, lv, .int (h.2.1 a j) :: st, h) r hF) : px_E ro (d + 1) k (pc, lv, .int i :: .ref a :: st, h) r hF := by
  subst hi
  refine px_E_one (σ' := (pc + 1, lv, .int (h.2.1 a j) :: st, h)) ?_ kk
  unfold px_one; dsimp only; rw [hf]; dsimp only [px_ret, px_inv, px_op, px_oIald]
  rw [hs, ha]
  show cond (px_in (nI j) n) (some (pc + 1, lv, .int (h.2.1 a (nI j).toNatClampNeg) :: st, h)) none = _
  rw [px_in_nI hj hn, nI_clamp (by omega)]
  rfl
theorem px_E_iast {ro : px_RO} {d k pc a n j : Nat} {lv : px_L} {st : List Value} {i x : Int32} {h hF : px_H} {r : Option Value} (hf : px_fetch k pc = some (.iastore, 1)) (ha : h.1[a]? = some (.inl (0, n))) (hs : Nat.blt a px_SC = true) (hi : i = nI j) (hj : j < n) (hn : n < 2 ^ 31) (kk : px_E ro (d + 1) k (pc + 1, lv, st, (h.1, px_up h.2.1 a j x, h.2.2.1, h.2.2.2)) r hF) : px_E ro (d + 1) k (pc, lv, .int x :: .int i :: .ref a :: st, h) r hF := by
  subst hi
  refine px_E_one (σ' := (pc + 1, lv, st, (h.1, px_up h.2.1 a j x, h.2.2.1, h.2.2.2))) ?_ kk
  unfold px_one; dsimp only; rw [hf]; dsimp only [px_ret, px_inv, px_op, px_oIast]
  rw [ha]
  show cond (px_in (nI j) n && Nat.blt a px_SC) (some (pc + 1, lv, st, (h.1, px_up h.2.1 a (nI j).toNatClampNeg x, h.2.2.1, h.2.2.2))) none = _
  rw [px_in_nI hj hn, hs, nI_clamp (by omega)]
  rfl
-- the reference's copy, Arrays.fill
def px_kCopy : Nat := 181
theorem px_copy_loop {ro : px_RO} {d a b na nb : Nat} {sh : List px_Sh} {I : Nat → Nat → Int32} {J : Nat → Nat → Int64} {P : Nat → Nat → Option Nat} (ha : sh[a]? = some (.inl (0, na))) (hb : sh[b]? = some (.inl (0, nb))) (hna : 1538 ≤ na) (hnb : 1538 ≤ nb) (hna2 : na < 2 ^ 31) (hnb2 : nb < 2 ^ 31) (hab : a ≠ b) (hsa : Nat.ble px_SC a = false) (hsb : Nat.blt b px_SC = true) :
    ∀ (m i : Nat), i + m = 1538 → px_E ro (d + 1) 181 (2, [(2, .int (nI i)), (0, .ref a), (1, .ref b)], [], (sh, px_rw I b (fun j => bif Nat.blt j i then I a j else I b j), J, P)) none (sh, px_rw I b (fun j => bif Nat.blt j 1538 then I a j else I b j), J, P) := by
  intro m
  induction m with
  | zero =>
    intro i hi
    have e : i = 1538 := by omega
    subst e
    refine px_E_seg 3 (σ' := (21, [(2, .int 1538), (0, .ref a), (1, .ref b)], [], (sh, px_rw I b (fun j => bif Nat.blt j 1538 then I a j else I b j), J, P))) rfl ?_
    exact px_E_ret rfl rfl
  | succ m ih =>
    intro i hi
    refine px_E_seg 2 (σ' := (6, [(2, .int (nI i)), (0, .ref a), (1, .ref b)], [.int 1538, .int (nI i)], (sh, px_rw I b (fun j => bif Nat.blt j i then I a j else I b j), J, P))) rfl ?_
    refine px_E_icmp (t := 21) rfl rfl (fun c => ?_) (fun c => ?_)
    · exact absurd c (nI_ge (a := i) (b := 1538) (by omega) (by decide))
    · refine px_E_seg 4 (σ' := (13, [(2, .int (nI i)), (0, .ref a), (1, .ref b)], [.int (nI i), .ref a, .int (nI i), .ref b], (sh, px_rw I b (fun j => bif Nat.blt j i then I a j else I b j), J, P))) rfl ?_
      refine px_E_iald (n := na) (j := i) rfl ha hsa rfl (by omega) hna2 ?_
      refine px_E_iast (n := nb) (j := i) rfl hb hsb rfl (by omega) hnb2 ?_
      have e : px_up (px_rw I b (fun j => bif Nat.blt j i then I a j else I b j)) b i (px_rw I b (fun j => bif Nat.blt j i then I a j else I b j) a i) = px_rw I b (fun j => bif Nat.blt j (i + 1) then I a j else I b j) := by
        rw [px_rw_ne hab]
        funext x y
        unfold px_up px_rw
        by_cases hx : x = b
        · subst hx
          rw [show Nat.beq x x = true from Nat.beq_refl x]
          dsimp only [cond_true]
          by_cases hy : y = i
          · subst hy
            rw [show Nat.beq y y = true from Nat.beq_refl y, show Nat.blt y (y + 1) = true from Nat.ble_eq_true_of_le (Nat.le_refl _)]
            rfl
          · rw [px_beqN hy]
            dsimp only [cond_false]
            rcases Nat.lt_or_ge y i with q | q
            · rw [show Nat.blt y i = true from Nat.ble_eq_true_of_le q, show Nat.blt y (i + 1) = true from Nat.ble_eq_true_of_le (by omega)]
            · have q1 : Nat.blt y i = false := by
                cases hz : Nat.blt y i with
                | false => rfl
                | true => exact absurd (px_bltT hz) (by omega)
              have q2 : Nat.blt y (i + 1) = false := by
                cases hz : Nat.blt y (i + 1) with
                | false => rfl
                | true => exact absurd (px_bltT hz) (by omega)
              rw [q1, q2]
        · rw [px_beqN hx]
          rfl
      dsimp only
      rw [e]
      refine px_E_seg 2 (σ' := (2, [(2, .int (nI i + 1)), (0, .ref a), (1, .ref b)], [], (sh, px_rw I b (fun j => bif Nat.blt j (i + 1) then I a j else I b j), J, P))) rfl ?_
      rw [nI_1]
      exact ih (i + 1) (by omega)
/-! what lies outside of the cells is nothing: so two heaps are one if they agree within -/
def px_ns : px_Sh → Nat
  | .inl (_, n) => n
  | .inr ci => px_n ci
def px_Z (h : px_H) : Prop := ∀ a b, (∀ sh, h.1[a]? = some sh → px_ns sh ≤ b) → h.2.1 a b = 0 ∧ h.2.2.1 a b = 0 ∧ h.2.2.2 a b = none
theorem px_up_out {α : Type} {f : Nat → Nat → α} {k i a b : Nat} {x : α} (h : a = k → b ≠ i) : px_up f k i x a b = f a b := by
  unfold px_up
  by_cases e : a = k
  · rw [px_beqN (h e)]
    cases Nat.beq a k <;> rfl
  · rw [px_beqN e]; rfl
theorem px_up_in {α : Type} {f : Nat → Nat → α} {k i : Nat} {x : α} : px_up f k i x k i = x := by
  unfold px_up
  rw [show Nat.beq k k = true from Nat.beq_refl k, show Nat.beq i i = true from Nat.beq_refl i]; rfl
theorem px_Z_I {h : px_H} {a i : Nat} {sh : px_Sh} {x : Int32} (hZ : px_Z h) (ha : h.1[a]? = some sh) (hi : i < px_ns sh) : px_Z (h.1, px_up h.2.1 a i x, h.2.2.1, h.2.2.2) := by
  intro a' b' hb
  have hz := hZ a' b' hb
  refine ⟨?_, hz.2⟩
  show px_up h.2.1 a i x a' b' = 0
  rw [px_up_out (fun e => by subst e; have := hb sh ha; omega)]
  exact hz.1
theorem px_Z_J {h : px_H} {a i : Nat} {sh : px_Sh} {x : Int64} (hZ : px_Z h) (ha : h.1[a]? = some sh) (hi : i < px_ns sh) : px_Z (h.1, h.2.1, px_up h.2.2.1 a i x, h.2.2.2) := by
  intro a' b' hb
  have hz := hZ a' b' hb
  refine ⟨hz.1, ?_, hz.2.2⟩
  show px_up h.2.2.1 a i x a' b' = 0
  rw [px_up_out (fun e => by subst e; have := hb sh ha; omega)]
  exact hz.2.1
theorem px_Z_P {h : px_H} {a i : Nat} {sh : px_Sh} {x : Option Nat} (hZ : px_Z h) (ha : h.1[a]? = some sh) (hi : i < px_ns sh) : px_Z (h.1, h.2.1, h.2.2.1, px_up h.2.2.2 a i x) := by
  intro a' b' hb
  have hz := hZ a' b' hb
  refine ⟨hz.1, hz.2.1, ?_⟩
  show px_up h.2.2.2 a i x a' b' = none
  rw [px_up_out (fun e => by subst e; have := hb sh ha; omega)]
  exact hz.2.2
theorem px_Z_new {h : px_H} {sh : px_Sh} (hZ : px_Z h) : px_Z (px_new h sh) := by
  intro a b hb
  by_cases e : a = h.1.length
  · subst e
    show px_rw h.2.1 h.1.length (fun _ => 0) h.1.length b = 0 ∧ px_rw h.2.2.1 h.1.length (fun _ => 0) h.1.length b = 0 ∧ px_rw h.2.2.2 h.1.length (fun _ => none) h.1.length b = none
    rw [px_rw_eq, px_rw_eq, px_rw_eq]
    exact ⟨rfl, rfl, rfl⟩
  · show px_rw h.2.1 h.1.length (fun _ => 0) a b = 0 ∧ px_rw h.2.2.1 h.1.length (fun _ => 0) a b = 0 ∧ px_rw h.2.2.2 h.1.length (fun _ => none) a b = none
    rw [px_rw_ne e, px_rw_ne e, px_rw_ne e]
    refine hZ a b (fun sh' hs => hb sh' ?_)
    show (h.1 ++ [sh])[a]? = some sh'
    rw [List.getElem?_append_left (List.getElem?_eq_some_iff.mp hs).1]
    exact hs
theorem px_in_lt {i : Int32} {n : Nat} (h : px_in i n = true) : i.toNatClampNeg < n := Nat.not_le.mp fun q => px_inT h (Or.inr q)
theorem px_oPut_Z {k i pc : Nat} {lv : px_L} {st : List Value} {h : px_H} {σ : px_S} (ho : px_oPut k i pc lv st h = some σ) (hZ : px_Z h) : px_Z σ.2.2.2 := by
  unfold px_oPut at ho
  split at ho
  · rename_i v a st
    split at ho
    · rename_i ci f ci' hf ha
      cases hq : (Nat.beq ci ci' && Nat.blt a px_SC && px_mayPut k ci f) with
      | false => rw [hq] at ho; cases ho
      | true =>
        rw [hq] at ho
        dsimp only [cond_true] at ho
        split at ho
        · rename_i h' hp
          cases ho
          simp only [Bool.and_eq_true] at hq
          have e := px_beqT hq.1.1
          subst e
          obtain ⟨C, T, N, hc, hfN, -⟩ := px_fld_ok hf
          have hfn : f < px_ns (.inr ci) := by show f < px_n ci; rw [px_n_of hc]; exact hfN
          show px_Z h'
          unfold px_put at hp
          split at hp
          · cases hp; exact px_Z_I hZ ha hfn
          · split at hp
            · cases hp; exact px_Z_I hZ ha hfn
            · cases hp
          · cases hp; exact px_Z_J hZ ha hfn
          · cases hp; exact px_Z_P hZ ha hfn
          · cases hp; exact px_Z_P hZ ha hfn
          · cases hp; exact px_Z_P hZ ha hfn
          · cases hp; exact px_Z_P hZ ha hfn
          · cases hp
        · cases ho
    · cases ho
  · cases ho
theorem px_oIast_Z {pc : Nat} {lv : px_L} {st : List Value} {h : px_H} {σ : px_S} (ho : px_oIast pc lv st h = some σ) (hZ : px_Z h) : px_Z σ.2.2.2 := by
  unfold px_oIast at ho
  split at ho
  · rename_i x i a st
    split at ho
    · rename_i n ha
      cases hq : (px_in i n && Nat.blt a px_SC) with
      | false => rw [hq] at ho; cases ho
      | true =>
        rw [hq] at ho
        cases ho
        rw [Bool.and_eq_true] at hq
        exact px_Z_I hZ ha (px_in_lt hq.1)
    · cases ho
  · cases ho
theorem px_oZast_Z {pc : Nat} {lv : px_L} {st : List Value} {h : px_H} {σ : px_S} (ho : px_oZast pc lv st h = some σ) (hZ : px_Z h) : px_Z σ.2.2.2 := by
  unfold px_oZast at ho
  split at ho
  · rename_i x i a st
    split at ho
    · rename_i n ha
      cases hq : (px_in i n && Nat.blt a px_SC) with
      | false => rw [hq] at ho; cases ho
      | true =>
        rw [hq] at ho
        cases ho
        rw [Bool.and_eq_true] at hq
        exact px_Z_I hZ ha (px_in_lt hq.1)
    · cases ho
  · cases ho
theorem px_oLast_Z {pc : Nat} {lv : px_L} {st : List Value} {h : px_H} {σ : px_S} (ho : px_oLast pc lv st h = some σ) (hZ : px_Z h) : px_Z σ.2.2.2 := by
  unfold px_oLast at ho
  split at ho
  · rename_i x i a st
    split at ho
    · rename_i n ha
      cases hq : (px_in i n && Nat.blt a px_SC) with
      | false => rw [hq] at ho; cases ho
      | true =>
        rw [hq] at ho
        cases ho
        rw [Bool.and_eq_true] at hq
        exact px_Z_J hZ ha (px_in_lt hq.1)
    · cases ho
  · cases ho
theorem px_oAast_Z {pc : Nat} {lv : px_L} {st : List Value} {h : px_H} {σ : px_S} (ho : px_oAast pc lv st h = some σ) (hZ : px_Z h) : px_Z σ.2.2.2 := by
  unfold px_oAast at ho
  split at ho
  · rename_i b i a st
    split at ho
    · rename_i n ha hbb
      cases hq : (px_in i n && Nat.blt a px_SC && Nat.blt b px_SC) with
      | false => rw [hq] at ho; cases ho
      | true =>
        rw [hq] at ho
        cases ho
        simp only [Bool.and_eq_true] at hq
        exact px_Z_P hZ ha (px_in_lt hq.1.1)
    · cases ho
  · cases ho
theorem px_oNew_Z {k i pc : Nat} {lv : px_L} {st : List Value} {h : px_H} {σ : px_S} (ho : px_oNew k i pc lv st h = some σ) (hZ : px_Z h) : px_Z σ.2.2.2 := by
  unfold px_oNew at ho
  split at ho
  · rename_i ci _
    cases hq : Nat.blt h.1.length px_SC with
    | false => rw [hq] at ho; cases ho
    | true => rw [hq] at ho; cases ho; exact px_Z_new hZ
  · cases ho
theorem px_oNewa_Z {t pc : Nat} {lv : px_L} {st : List Value} {h : px_H} {σ : px_S} (ho : px_oNewa t pc lv st h = some σ) (hZ : px_Z h) : px_Z σ.2.2.2 := by
  unfold px_oNewa at ho
  split at ho
  · rename_i n st
    cases hq : (Nat.blt h.1.length px_SC && decide (¬ n < 0) && Nat.ble n.toNatClampNeg 100000) with
    | false => rw [hq] at ho; cases ho
    | true => rw [hq] at ho; cases ho; exact px_Z_new hZ
  · cases ho
theorem px_oAnew_Z {k i pc : Nat} {lv : px_L} {st : List Value} {h : px_H} {σ : px_S} (ho : px_oAnew k i pc lv st h = some σ) (hZ : px_Z h) : px_Z σ.2.2.2 := by
  unfold px_oAnew at ho
  split at ho
  · exact px_oNewa_Z ho hZ
  · cases ho
theorem px_oCpy_Z {pc : Nat} {lv : px_L} {st : List Value} {h : px_H} {σ : px_S} (ho : px_oCpy pc lv st h = some σ) (hZ : px_Z h) : px_Z σ.2.2.2 := by
  unfold px_oCpy at ho
  split at ho
  · rename_i n dp b sp a st
    split at ho
    · rename_i n0 n1 ha hbb
      cases hq : (Nat.ble (st.map fun v => v.category).sum 8 && decide (¬ sp < 0) && decide (¬ dp < 0) && decide (¬ n < 0) && Nat.ble (sp.toNatClampNeg + n.toNatClampNeg) n0 && Nat.ble (dp.toNatClampNeg + n.toNatClampNeg) n1 && Nat.blt a px_SC && Nat.blt b px_SC) with
      | false => rw [hq] at ho; cases ho
      | true =>
        rw [hq] at ho
        cases ho
        simp only [Bool.and_eq_true, decide_eq_true_eq] at hq
        obtain ⟨⟨⟨⟨⟨⟨⟨q1, q2⟩, q3⟩, q4⟩, q5⟩, q6⟩, q7⟩, q8⟩ := hq
        intro a' b' hb'
        have hz := hZ a' b' hb'
        refine ⟨?_, hz.2⟩
        show px_rw h.2.1 b (va_cpy (h.2.1 a) (h.2.1 b) sp.toNatClampNeg dp.toNatClampNeg n.toNatClampNeg) a' b' = 0
        by_cases e : a' = b
        · subst e
          rw [px_rw_eq]
          unfold va_cpy
          have h1 : n1 ≤ b' := hb' _ hbb
          have h2 := px_bleT q6
          rw [if_neg (by omega)]
          exact hz.1
        · rw [px_rw_ne e]; exact hz.1
    · cases ho
  · cases ho
theorem px_op_Z {ro : px_RO} {k : Nat} {ins : Instr} {len pc : Nat} {lv : px_L} {st : List Value} {h : px_H} {σ : px_S} (ho : px_op ro k ins len pc lv st h = some σ) (hZ : px_Z h) : px_Z σ.2.2.2 := by
  have cnd : ∀ {b : Bool} {x : px_S}, (cond b (some x) none) = some σ → x = σ := by
    intro b x h9
    cases b with
    | false => cases h9
    | true => cases h9; rfl
  have cnb : ∀ {b : Bool} {x : px_S}, (cond b (some x) none) = some σ → b = true := by
    intro b x h9
    cases b with
    | false => cases h9
    | true => rfl
  unfold px_op at ho
  split at ho
  all_goals first
    | (cases ho; exact hZ)
    | (cases ho; done)
    | skip
  all_goals first
    | (unfold px_psh at ho; split at ho <;> first | (cases ho; exact hZ) | cases ho)
    | (unfold px_jmp at ho; split at ho <;> first | (cases ho; exact hZ) | cases ho)
    | (unfold px_oSto at ho; split at ho <;> first | (split at ho <;> first | (cases ho; exact hZ) | cases ho) | cases ho)
    | (unfold px_oInc at ho; split at ho <;> first | (have e := cnd ho; subst e; exact hZ) | cases ho)
    | (unfold px_oAri at ho; split at ho <;> first | (split at ho <;> first | (cases ho; exact hZ) | cases ho) | cases ho)
    | (unfold px_oArl at ho; split at ho <;> first | (split at ho <;> first | (cases ho; exact hZ) | cases ho) | cases ho)
    | (unfold px_oIneg at ho; split at ho <;> first | (cases ho; exact hZ) | cases ho)
    | (unfold px_oLneg at ho; split at ho <;> first | (cases ho; exact hZ) | cases ho)
    | (unfold px_oI2l at ho; split at ho <;> first | (cases ho; exact hZ) | cases ho)
    | (unfold px_oL2i at ho; split at ho <;> first | (cases ho; exact hZ) | cases ho)
    | (unfold px_oLcmp at ho; split at ho <;> first | (cases ho; exact hZ) | cases ho)
    | (unfold px_oLshl at ho; split at ho <;> first | (cases ho; exact hZ) | cases ho)
    | (unfold px_oLshr at ho; split at ho <;> first | (cases ho; exact hZ) | cases ho)
    | (unfold px_oDup at ho; split at ho <;> first | (have e := cnd ho; subst e; exact hZ) | cases ho)
    | (unfold px_oPop at ho; split at ho <;> first | (have e := cnd ho; subst e; exact hZ) | cases ho)
    | (unfold px_oIf at ho; split at ho <;> first | (split at ho <;> first | (cases ho; exact hZ) | cases ho) | cases ho)
    | (unfold px_oIcmp at ho; split at ho <;> first | (split at ho <;> first | (cases ho; exact hZ) | cases ho) | cases ho)
    | (unfold px_oDup2 at ho
       split at ho
       · rename_i v w st
         cases hq : (Nat.beq v.category 1 && Nat.beq w.category 1) with
         | true => rw [hq] at ho; cases ho; exact hZ
         | false => rw [hq] at ho; dsimp only [cond_false] at ho; have e := cnd ho; subst e; exact hZ
       · have e := cnd ho; subst e; exact hZ
       · cases ho)
    | (unfold px_oNull at ho; split at ho <;> first | (unfold px_jmp at ho; split at ho <;> first | (cases ho; exact hZ) | cases ho) | (cases ho; exact hZ) | cases ho)
    | (unfold px_oNonnull at ho; split at ho <;> first | (unfold px_jmp at ho; split at ho <;> first | (cases ho; exact hZ) | cases ho) | (cases ho; exact hZ) | cases ho)
    | (unfold px_oTab at ho
       split at ho
       · split at ho
         · unfold px_jmp at ho; split at ho <;> first | (cases ho; exact hZ) | cases ho
         · split at ho
           · unfold px_jmp at ho; split at ho <;> first | (cases ho; exact hZ) | cases ho
           · cases ho
       · cases ho)
    | (rename_i dflt ps
       unfold px_oLook at ho
       split at ho
       · cases hq : ((ps.toList.zip (ps.toList.drop 1)).all (fun (a, next) => a.1 < next.1)) with
         | false => rw [hq] at ho; cases ho
         | true => rw [hq] at ho; dsimp only [cond_true] at ho; unfold px_jmp at ho; split at ho <;> first | (cases ho; exact hZ) | cases ho
       · cases ho)
    | (unfold px_oGet at ho; split at ho <;> first | (split at ho <;> first | (have e := cnd ho; subst e; exact hZ) | cases ho) | cases ho)
    | exact px_oPut_Z ho hZ
    | (unfold px_oIald at ho
       split at ho
       · rename_i i a st
         cases hq : Nat.ble px_SC a with
         | true => rw [hq] at ho; dsimp only [cond_true] at ho; split at ho <;> first | (have e := cnd ho; subst e; exact hZ) | cases ho
         | false => rw [hq] at ho; dsimp only [cond_false] at ho; split at ho <;> first | (have e := cnd ho; subst e; exact hZ) | cases ho
       · cases ho)
    | (unfold px_oZald at ho; split at ho <;> first | (split at ho <;> first | (have e := cnd ho; subst e; exact hZ) | cases ho) | cases ho)
    | (unfold px_oLald at ho; split at ho <;> first | (split at ho <;> first | (have e := cnd ho; subst e; exact hZ) | cases ho) | cases ho)
    | (unfold px_oAald at ho; split at ho <;> first | (split at ho <;> first | (have e := cnd ho; subst e; exact hZ) | cases ho) | cases ho)
    | exact px_oIast_Z ho hZ
    | exact px_oZast_Z ho hZ
    | exact px_oLast_Z ho hZ
    | exact px_oAast_Z ho hZ
    | (unfold px_oLen at ho
       split at ho
       · rename_i a st
         cases hq : Nat.ble px_SC a with
         | true => rw [hq] at ho; dsimp only [cond_true] at ho; split at ho <;> first | (cases ho; exact hZ) | cases ho
         | false => rw [hq] at ho; dsimp only [cond_false] at ho; split at ho <;> first | (have e := cnd ho; subst e; exact hZ) | cases ho
       · cases ho)
    | exact px_oNew_Z ho hZ
    | exact px_oNewa_Z ho hZ
    | exact px_oAnew_Z ho hZ
    | (unfold px_oStr at ho
       rename_i i9
       cases hq : (Nat.beq (px_key k i9) 6179 && Nat.blt i9 1000) with
       | true => rw [hq] at ho; dsimp only [cond_true] at ho; split at ho <;> first | (have e := cnd ho; subst e; exact hZ) | cases ho
       | false =>
         rw [hq] at ho; dsimp only [cond_false] at ho
         cases hq1 : (Nat.beq (px_key k i9) 6183 && Nat.blt i9 1000) with
         | true => rw [hq1] at ho; dsimp only [cond_true] at ho; split at ho <;> first | (have e := cnd ho; subst e; exact hZ) | cases ho
         | false => rw [hq1] at ho; cases ho)
    | (split at ho
       · unfold px_oSp at ho; split at ho <;> first | (have e := cnd ho; subst e; exact hZ) | cases ho
       · cases ho)
    | (split at ho
       · unfold px_oSt at ho
         split at ho
         · exact px_oCpy_Z ho hZ
         · unfold px_oMi at ho; split at ho <;> first | (have e := cnd ho; subst e; exact hZ) | cases ho
         · unfold px_oMi at ho; split at ho <;> first | (have e := cnd ho; subst e; exact hZ) | cases ho
         · unfold px_oMl at ho; split at ho <;> first | (have e := cnd ho; subst e; exact hZ) | cases ho
         · unfold px_oMl at ho; split at ho <;> first | (have e := cnd ho; subst e; exact hZ) | cases ho
         · cases ho
       · cases ho)
theorem px_ev_Z {ro : px_RO} : ∀ (n d k : Nat) (σ : px_S) (r : Option Value) (hF : px_H), px_ev ro n d k σ = some (r, hF) → px_Z σ.2.2.2 → px_Z hF := by
  intro n
  induction n with
  | zero => intro d k σ r hF h; cases h
  | succ n ih =>
    intro d k σ r hF h hs
    obtain ⟨pc, lv, st, hp⟩ := σ
    cases d with
    | zero => cases h
    | succ d =>
      obtain ⟨ins, len, hf, h1⟩ := px_ev_inv h
      rcases h1 with ⟨-, rfl⟩ | ⟨j, as, rest, v, h1, hi, -, -, hc, hk⟩ | ⟨σ, ho, hk⟩
      · exact hs
      · exact ih _ _ _ _ _ hk (ih _ _ _ _ _ hc hs)
      · exact ih _ _ _ _ _ hk (px_op_Z ho hs)
theorem px_seg_Z {ro : px_RO} {k : Nat} : ∀ (n : Nat) (σ σ' : px_S), px_seg ro k n σ = some σ' → px_Z σ.2.2.2 → px_Z σ'.2.2.2 := by
  intro n
  induction n with
  | zero => intro σ σ' h hZ; cases h; exact hZ
  | succ n ih =>
    intro σ σ' h hZ
    unfold px_seg at h
    cases ho : px_one ro k σ with
    | none => rw [ho] at h; cases h
    | some σ1 =>
      rw [ho] at h
      refine ih σ1 σ' h ?_
      unfold px_one at ho
      split at ho
      · cases ho
      · split at ho
        · cases ho
        · split at ho
          · cases ho
          · exact px_op_Z ho hZ
theorem px_H_ext {h g : px_H} (hs : h.1 = g.1) (zh : px_Z h) (zg : px_Z g) (hag : ∀ a sh b, h.1[a]? = some sh → b < px_ns sh → h.2.1 a b = g.2.1 a b ∧ h.2.2.1 a b = g.2.2.1 a b ∧ h.2.2.2 a b = g.2.2.2 a b) : h = g := by
  have key : ∀ a b, h.2.1 a b = g.2.1 a b ∧ h.2.2.1 a b = g.2.2.1 a b ∧ h.2.2.2 a b = g.2.2.2 a b := by
    intro a b
    by_cases q : ∀ sh, h.1[a]? = some sh → px_ns sh ≤ b
    · obtain ⟨x1, x2, x3⟩ := zh a b q
      obtain ⟨y1, y2, y3⟩ := zg a b (by rw [← hs]; exact q)
      rw [x1, x2, x3, y1, y2, y3]
      exact ⟨rfl, rfl, rfl⟩
    · have q2 := Classical.not_forall.mp q
      obtain ⟨sh, q3⟩ := q2
      have q4 := Classical.not_imp.mp q3
      exact hag a sh b q4.1 (Nat.not_le.mp q4.2)
  obtain ⟨h1, hI, hJ, hP⟩ := h
  obtain ⟨g1, gI, gJ, gP⟩ := g
  dsimp only at hs key
  subst hs
  have e1 : hI = gI := by funext a b; exact (key a b).1
  have e2 : hJ = gJ := by funext a b; exact (key a b).2.1
  have e3 : hP = gP := by funext a b; exact (key a b).2.2
  rw [e1, e2, e3]
def px_agree (h g : px_H) : Bool := decide (h.1 = g.1) && (List.range h.1.length).all (fun a => (List.range (px_ns (h.1.getD a (.inr 0)))).all (fun b => decide (h.2.1 a b = g.2.1 a b) && decide (h.2.2.1 a b = g.2.2.1 a b) && decide (h.2.2.2 a b = g.2.2.2 a b)))
theorem px_agree_eq {h g : px_H} (zh : px_Z h) (zg : px_Z g) (ha : px_agree h g = true) : h = g := by
  unfold px_agree at ha
  rw [Bool.and_eq_true, decide_eq_true_eq] at ha
  refine px_H_ext ha.1 zh zg (fun a sh b hs hb => ?_)
  have h1 := List.all_eq_true.mp ha.2 a (List.mem_range.mpr (List.getElem?_eq_some_iff.mp hs).1)
  have h2 := List.all_eq_true.mp h1 b (List.mem_range.mpr (by rw [List.getD_eq_getElem?_getD, hs]; exact hb))
  simp only [Bool.and_eq_true, decide_eq_true_eq] at h2
  exact ⟨h2.1.1, h2.1.2, h2.2⟩
/-! THE FRESH HEAP: cells 0 .. 94 are the class's, 95 .. 119 the reference's -/
def px_shX : List px_Sh := [.inr 11, .inr 2, .inl (0, 12), .inl (0, 12), .inl (0, 16), .inl (0, 16), .inl (2, 16), .inl (0, 6), .inl (2, 6), .inl (2, 6), .inl (0, 6), .inl (0, 48), .inl (0, 12), .inl (0, 144), .inl (0, 144), .inr 8, .inl (0, 4), .inl (0, 4), .inl (0, 4), .inl (0, 6), .inl (0, 6), .inl (0, 12), .inr 9, .inl (0, 1170), .inl (0, 30), .inr 5, .inl (0, 6), .inl (0, 6), .inl (0, 16), .inl (0, 4), .inl (0, 4), .inr 6, .inl (0, 300), .inl (0, 26), .inl (3, 4), .inr 7, .inl (0, 300), .inl (0, 3), .inl (0, 3), .inl (0, 24), .inl (0, 24), .inl (0, 24), .inr 7, .inl (0, 300), .inl (0, 3), .inl (0, 3), .inl (0, 24), .inl (0, 24), .inl (0, 24), .inr 7, .inl (0, 300), .inl (0, 3), .inl (0, 3), .inl (0, 24), .inl (0, 24), .inl (0, 24), .inr 7, .inl (0, 300), .inl (0, 3), .inl (0, 3), .inl (0, 24), .inl (0, 24), .inl (0, 24), .inr 3, .inl (0, 11), .inl (0, 8), .inl (0, 300), .inr 4, .inr 10, .inl (0, 256), .inl (0, 156), .inl (0, 156), .inl (1, 156), .inl (1, 156), .inr 0, .inl (0, 6), .inl (0, 6), .inl (0, 6), .inr 1, .inr 8, .inl (0, 4), .inl (0, 4), .inl (0, 4), .inl (0, 6), .inl (0, 6), .inl (0, 12), .inr 9, .inl (0, 1170), .inl (0, 30), .inr 5, .inl (0, 6), .inl (0, 6), .inl (0, 16), .inl (0, 4), .inl (0, 4), .inr 12, .inl (0, 1538), .inl (0, 1538), .inl (0, 2820), .inl (0, 300), .inl (0, 160), .inl (0, 10), .inl (0, 10), .inl (0, 26), .inl (0, 11), .inl (1, 80), .inl (1, 330), .inl (2, 330), .inl (0, 12), .inl (1, 156), .inl (1, 156), .inl (2, 156), .inl (0, 156), .inl (0, 6), .inl (0, 12), .inl (0, 72), .inl (0, 6), .inl (0, 6), .inl (0, 4), .inl (0, 20)]
def px_shC : List px_Sh := px_shX.take 95
def px_PT : Lean.RArray (Nat × Nat) := .branch 3588 (.branch 1600 (.branch 72 (.branch 8 (.branch 4 (.branch 2 (.branch 1 (.leaf (0, 1)) (.leaf (1, 15))) (.branch 3 (.leaf (2, 22)) (.leaf (3, 25)))) (.branch 6 (.branch 5 (.leaf (4, 31)) (.leaf (5, 34))) (.branch 7 (.leaf (6, 63)) (.leaf (7, 67))))) (.branch 68 (.branch 10 (.branch 9 (.leaf (8, 68)) (.leaf (9, 74))) (.branch 67 (.leaf (10, 78)) (.leaf (67, 2)))) (.branch 70 (.branch 69 (.leaf (68, 3)) (.leaf (69, 4))) (.branch 71 (.leaf (70, 5)) (.leaf (71, 6)))))) (.branch 960 (.branch 76 (.branch 74 (.branch 73 (.leaf (72, 7)) (.leaf (73, 8))) (.branch 75 (.leaf (74, 9)) (.leaf (75, 10)))) (.branch 78 (.branch 77 (.leaf (76, 11)) (.leaf (77, 12))) (.branch 79 (.leaf (78, 13)) (.leaf (79, 14))))) (.branch 964 (.branch 962 (.branch 961 (.leaf (960, 16)) (.leaf (961, 17))) (.branch 963 (.leaf (962, 18)) (.leaf (963, 19)))) (.branch 1408 (.branch 965 (.leaf (964, 20)) (.leaf (965, 21))) (.branch 1409 (.leaf (1408, 23)) (.leaf (1409, 24))))))) (.branch 2246 (.branch 2177 (.branch 1605 (.branch 1603 (.branch 1601 (.leaf (1600, 26)) (.leaf (1601, 27))) (.branch 1604 (.leaf (1603, 28)) (.leaf (1604, 29)))) (.branch 1988 (.branch 1984 (.leaf (1605, 30)) (.leaf (1984, 32))) (.branch 2176 (.leaf (1988, 33)) (.leaf (2176, 35))))) (.branch 2242 (.branch 2179 (.branch 2178 (.leaf (2177, 42)) (.leaf (2178, 49))) (.branch 2240 (.leaf (2179, 56)) (.leaf (2240, 36)))) (.branch 2244 (.branch 2243 (.leaf (2242, 37)) (.leaf (2243, 38))) (.branch 2245 (.leaf (2244, 39)) (.leaf (2245, 40)))))) (.branch 3138 (.branch 2692 (.branch 2690 (.branch 2688 (.leaf (2246, 41)) (.leaf (2688, 43))) (.branch 2691 (.leaf (2690, 44)) (.leaf (2691, 45)))) (.branch 2694 (.branch 2693 (.leaf (2692, 46)) (.leaf (2693, 47))) (.branch 3136 (.leaf (2694, 48)) (.leaf (3136, 50))))) (.branch 3142 (.branch 3140 (.branch 3139 (.leaf (3138, 51)) (.leaf (3139, 52))) (.branch 3141 (.leaf (3140, 53)) (.leaf (3141, 54)))) (.branch 3586 (.branch 3584 (.leaf (3142, 55)) (.leaf (3584, 57))) (.branch 3587 (.leaf (3586, 58)) (.leaf (3587, 59)))))))) (.branch 5061 (.branch 4357 (.branch 4288 (.branch 4033 (.branch 3590 (.branch 3589 (.leaf (3588, 60)) (.leaf (3589, 61))) (.branch 4032 (.leaf (3590, 62)) (.leaf (4032, 1)))) (.branch 4036 (.branch 4035 (.leaf (4033, 15)) (.leaf (4035, 64))) (.branch 4037 (.leaf (4036, 65)) (.leaf (4037, 66))))) (.branch 4353 (.branch 4290 (.branch 4289 (.leaf (4288, 1)) (.leaf (4289, 15))) (.branch 4352 (.leaf (4290, 63)) (.leaf (4352, 1)))) (.branch 4355 (.branch 4354 (.leaf (4353, 15)) (.leaf (4354, 63))) (.branch 4356 (.leaf (4355, 69)) (.leaf (4356, 70)))))) (.branch 4997 (.branch 4737 (.branch 4359 (.branch 4358 (.leaf (4357, 71)) (.leaf (4358, 72))) (.branch 4736 (.leaf (4359, 73)) (.leaf (4736, 1)))) (.branch 4739 (.branch 4738 (.leaf (4737, 15)) (.leaf (4738, 75))) (.branch 4740 (.leaf (4739, 76)) (.leaf (4740, 77))))) (.branch 5057 (.branch 4999 (.branch 4998 (.leaf (4997, 79)) (.leaf (4998, 86))) (.branch 5056 (.leaf (4999, 89)) (.leaf (5056, 80)))) (.branch 5059 (.branch 5058 (.leaf (5057, 81)) (.leaf (5058, 82))) (.branch 5060 (.leaf (5059, 83)) (.leaf (5060, 84))))))) (.branch 6105 (.branch 6080 (.branch 5697 (.branch 5505 (.branch 5504 (.leaf (5061, 85)) (.leaf (5504, 87))) (.branch 5696 (.leaf (5505, 88)) (.leaf (5696, 90)))) (.branch 5700 (.branch 5699 (.leaf (5697, 91)) (.leaf (5699, 92))) (.branch 5701 (.leaf (5700, 93)) (.leaf (5701, 94))))) (.branch 6095 (.branch 6082 (.branch 6081 (.leaf (6080, 96)) (.leaf (6081, 97))) (.branch 6083 (.leaf (6082, 98)) (.leaf (6083, 99)))) (.branch 6097 (.branch 6096 (.leaf (6095, 100)) (.leaf (6096, 101))) (.branch 6098 (.leaf (6097, 102)) (.leaf (6098, 103)))))) (.branch 6116 (.branch 6112 (.branch 6107 (.branch 6106 (.leaf (6105, 104)) (.leaf (6106, 105))) (.branch 6108 (.leaf (6107, 106)) (.leaf (6108, 107)))) (.branch 6114 (.branch 6113 (.leaf (6112, 108)) (.leaf (6113, 109))) (.branch 6115 (.leaf (6114, 110)) (.leaf (6115, 111))))) (.branch 6120 (.branch 6118 (.branch 6117 (.leaf (6116, 112)) (.leaf (6117, 113))) (.branch 6119 (.leaf (6118, 114)) (.leaf (6119, 115)))) (.branch 6122 (.branch 6121 (.leaf (6120, 116)) (.leaf (6121, 117))) (.branch 6123 (.leaf (6122, 118)) (.leaf (6123, 119))))))))
/-- the references, as both constructors leave them -/
def px_PX (a b : Nat) : Option Nat := let q := px_PT.get (a * 64 + b); bif Nat.beq q.1 (a * 64 + b) && Nat.blt b 64 then some q.2 else none
def px_PC (a b : Nat) : Option Nat := bif Nat.blt a 95 then px_PX a b else none
def px_i0 (b : Nat) : Int32 := bif Nat.beq b 12 then (-1) else 0
def px_i13 (b : Nat) : Int32 := bif Nat.blt b 144 then (bif Nat.beq (b % 13) 0 then 0 else 1000) else 0
def px_i15 (b : Nat) : Int32 := bif Nat.beq b 8 then (41) else 0
def px_i17 (b : Nat) : Int32 := bif Nat.blt b 4 then (-1) else 0
def px_i18 (b : Nat) : Int32 := bif Nat.blt b 4 then (-1) else 0
def px_i20 (b : Nat) : Int32 := bif Nat.blt b 6 then (-1) else 0
def px_i28 (b : Nat) : Int32 := bif Nat.blt b 16 then (-10000) else 0
def px_i31 (b : Nat) : Int32 := bif Nat.beq b 2 then (-1) else bif Nat.beq b 3 then (-1) else 0
def px_i78 (b : Nat) : Int32 := bif Nat.beq b 4 then (-1) else 0
def px_i79 (b : Nat) : Int32 := bif Nat.beq b 8 then (41) else 0
def px_i81 (b : Nat) : Int32 := bif Nat.blt b 4 then (-1) else 0
def px_i82 (b : Nat) : Int32 := bif Nat.blt b 4 then (-1) else 0
def px_i84 (b : Nat) : Int32 := bif Nat.blt b 6 then (-1) else 0
def px_i92 (b : Nat) : Int32 := bif Nat.blt b 16 then (-10000) else 0
def px_i95 (b : Nat) : Int32 := bif Nat.beq b 5 then (-1) else bif Nat.beq b 6 then (-1) else 0
def px_i96 (b : Nat) : Int32 := bif Nat.beq b 6 then (41) else bif Nat.beq b 8 then (-1) else 0
def px_i97 (b : Nat) : Int32 := bif Nat.beq b 6 then (41) else bif Nat.beq b 8 then (-1) else 0
def px_i_ (_ : Nat) : Int32 := 0
def px_IT : Lean.RArray (Nat × (Nat → Int32)) := .branch 78 (.branch 18 (.branch 15 (.branch 13 (.leaf (0, px_i0)) (.leaf (13, px_i13))) (.branch 17 (.leaf (15, px_i15)) (.leaf (17, px_i17)))) (.branch 28 (.branch 20 (.leaf (18, px_i18)) (.leaf (20, px_i20))) (.branch 31 (.leaf (28, px_i28)) (.leaf (31, px_i31))))) (.branch 84 (.branch 81 (.branch 79 (.leaf (78, px_i78)) (.leaf (79, px_i79))) (.branch 82 (.leaf (81, px_i81)) (.leaf (82, px_i82)))) (.branch 95 (.branch 92 (.leaf (84, px_i84)) (.leaf (92, px_i92))) (.branch 96 (.leaf (95, px_i95)) (.branch 97 (.leaf (96, px_i96)) (.leaf (97, px_i97))))))
def px_IX (a b : Nat) : Int32 := let q := px_IT.get a; bif Nat.beq q.1 a then q.2 b else 0
def px_IC (a b : Nat) : Int32 := bif Nat.blt a 95 then px_IX a b else 0
def px_JX (_ _ : Nat) : Int64 := 0
/-- behind the class's constructor; behind both -/
def px_hC : px_H := (px_shC, px_IC, px_JX, px_PC)
def px_hX : px_H := (px_shX, px_IX, px_JX, px_PX)
set_option maxRecDepth 100000 in
theorem px_t1 : (match px_ev [] 5000 20 0 (0, [(0, .ref 0)], [], px_new px_h0 (.inr 11)) with
  | some (none, h) => px_agree h px_hC
  | _ => false) = true := by decide +kernel
/-! RUNS WITH FORETOLD BRANCHES: a comparison of what isn't known goes where the list says, and what that asks is collected -/
def px_cZ (c : ClassFile.Cond) (x y : Int) (b : Bool) : Prop := match c, b with
  | .eq, true => x = y
  | .eq, false => x ≠ y
  | .ne, true => x ≠ y
  | .ne, false => x = y
  | .lt, true => x < y
  | .lt, false => y ≤ x
  | .ge, true => y ≤ x
  | .ge, false => x < y
  | .gt, true => y < x
  | .gt, false => x ≤ y
  | .le, true => x ≤ y
  | .le, false => y < x
theorem px_cZ_t {c : ClassFile.Cond} {x y : Int32} (h : px_cZ c x.toInt y.toInt true) : px_cP c x y := by
  cases c with
  | eq => exact Int32.toInt_inj.mp h
  | ne => exact fun e => h (by rw [e])
  | lt => exact Int32.lt_iff_toInt_lt.mpr h
  | ge => exact Int32.le_iff_toInt_le.mpr h
  | gt => exact Int32.lt_iff_toInt_lt.mpr h
  | le => exact Int32.le_iff_toInt_le.mpr h
theorem px_cZ_f {c : ClassFile.Cond} {x y : Int32} (h : px_cZ c x.toInt y.toInt false) : ¬ px_cP c x y := by
  cases c with
  | eq => exact fun e => h (by rw [show x = y from e])
  | ne => exact fun e => e (Int32.toInt_inj.mp h)
  | lt => exact fun e => by have := Int32.lt_iff_toInt_lt.mp e; have h2 : y.toInt ≤ x.toInt := h; omega
  | ge => exact fun e => by have := Int32.le_iff_toInt_le.mp e; have h2 : x.toInt < y.toInt := h; omega
  | gt => exact fun e => by have := Int32.lt_iff_toInt_lt.mp e; have h2 : x.toInt ≤ y.toInt := h; omega
  | le => exact fun e => by have := Int32.le_iff_toInt_le.mp e; have h2 : y.toInt < x.toInt := h; omega
theorem px_br_z {c : ClassFile.Cond} {x y : Int32} {b : Bool} {t f : Nat} (h : px_cZ c x.toInt y.toInt b) : px_br c x y t f = bif b then t else f := by
  cases b with
  | true => exact px_br_t (px_cZ_t h)
  | false => exact px_br_f (px_cZ_f h)
/-- a step at a comparison, foretold: where to, what it asks -/
def px_fore (ins : Instr) (pc : Nat) (lv : px_L) (st : List Value) (h : px_H) (b : Bool) : Option (px_S × Prop) := match ins, st with
  | .if_icmp c off, .int y :: .int x :: st => match px_tg pc off with
    | some t => some ((bif b then t else pc + 3, lv, st, h), px_cZ c x.toInt y.toInt b)
    | none => none
  | .ifCond c off, .int x :: st => match px_tg pc off with
    | some t => some ((bif b then t else pc + 3, lv, st, h), px_cZ c x.toInt 0 b)
    | none => none
  | _, _ => none
def px_isBr (ins : Instr) : Bool := match ins with
  | .if_icmp _ _ => true
  | .ifCond _ _ => true
  | _ => false
abbrev px_OR : Type := Option Value × px_H × List (Option Bool) × Prop
def px_evO (ro : px_RO) : Nat → Nat → Nat → px_S → List (Option Bool) → Option px_OR
  | 0, _, _, _, _ => none
  | _ + 1, 0, _, _, _ => none
  | n + 1, d + 1, k, (pc, lv, st, h), ds => match px_fetch k pc with
    | none => none
    | some (ins, len) => match px_ret k ins st with
      | some r => some (r, h, ds, True)
      | none => match px_inv k ins st h with
        | some (j, as, rest) => bif Nat.ble (rest.map fun v => v.category).sum 8 && Nat.ble (lg_sl as).length (px_maxL j) then (match px_evO ro n d j (0, lv_args 0 as, [], h) ds with
          | some (v, h1, ds1, C1) => (match px_evO ro n (d + 1) k (pc + 3, lv, v.toList ++ rest, h1) ds1 with
            | some (r, hF, ds2, C2) => some (r, hF, ds2, C1 ∧ C2)
            | none => none)
          | none => none) else none
        | none => bif px_isBr ins then (match ds with
          | some b :: ds => (match px_fore ins pc lv st h b with
            | some (s, C1) => (match px_evO ro n (d + 1) k s ds with
              | some (r, hF, ds2, C2) => some (r, hF, ds2, C1 ∧ C2)
              | none => none)
            | none => none)
          | none :: ds => (match px_op ro k ins len pc lv st h with
            | some s => px_evO ro n (d + 1) k s ds
            | none => none)
          | [] => none) else (match px_op ro k ins len pc lv st h with
            | some s => px_evO ro n (d + 1) k s ds
            | none => none)
theorem px_fore_ok {ro : px_RO} {k len pc : Nat} {ins : Instr} {lv : px_L} {st : List Value} {h : px_H} {b : Bool} {s : px_S} {C : Prop} (hb : px_fore ins pc lv st h b = some (s, C)) (hC : C) : px_op ro k ins len pc lv st h = some s := by
  unfold px_fore at hb
  split at hb
  · split at hb
    · rename_i t ht
      cases hb
      unfold px_op px_oIcmp
      dsimp only
      rw [ht]
      dsimp only
      rw [px_br_z hC]
    · cases hb
  · split at hb
    · rename_i t ht
      cases hb
      unfold px_op px_oIf
      dsimp only
      rw [ht]
      dsimp only
      rw [px_br_z (y := 0) hC]
    · cases hb
  · cases hb
theorem px_evO_ok {ro : px_RO} : ∀ {n d k : Nat} {σ : px_S} {ds : List (Option Bool)} {r : Option Value} {hF : px_H} {ds' : List (Option Bool)} {C : Prop}, px_evO ro n d k σ ds = some (r, hF, ds', C) → C → px_ev ro n d k σ = some (r, hF) := by
  intro n
  induction n with
  | zero => intro d k σ ds r hF ds' C h; cases h
  | succ n ih =>
    intro d k σ ds r hF ds' C h hC
    obtain ⟨pc, lv, st, hp⟩ := σ
    cases d with
    | zero => cases h
    | succ d =>
      unfold px_evO at h
      unfold px_ev
      cases hf : px_fetch k pc with
      | none => rw [hf] at h; cases h
      | some q =>
        obtain ⟨ins, len⟩ := q
        rw [hf] at h
        dsimp only at h ⊢
        cases hr : px_ret k ins st with
        | some r' => rw [hr] at h; cases h; rfl
        | none =>
          rw [hr] at h
          dsimp only at h ⊢
          cases hi : px_inv k ins st hp with
          | some q =>
            obtain ⟨j, as, rest⟩ := q
            rw [hi] at h
            dsimp only at h ⊢
            cases hq : (Nat.ble (rest.map fun v => v.category).sum 8 && Nat.ble (lg_sl as).length (px_maxL j)) with
            | false => rw [hq] at h; cases h
            | true =>
              rw [hq] at h
              dsimp only [cond_true] at h ⊢
              cases hv : px_evO ro n d j (0, lv_args 0 as, [], hp) ds with
              | none => rw [hv] at h; cases h
              | some q =>
                obtain ⟨v, h1, ds1, C1⟩ := q
                rw [hv] at h
                dsimp only at h
                cases hw : px_evO ro n (d + 1) k (pc + 3, lv, v.toList ++ rest, h1) ds1 with
                | none => rw [hw] at h; cases h
                | some q =>
                  obtain ⟨r2, hF2, ds2, C2⟩ := q
                  rw [hw] at h
                  cases h
                  rw [ih hv hC.1]
                  exact ih hw hC.2
          | none =>
            rw [hi] at h
            dsimp only at h ⊢
            cases hb : px_isBr ins with
            | true =>
              rw [hb] at h
              dsimp only [cond_true] at h
              split at h
              · rename_i b ds0
                cases hfo : px_fore ins pc lv st hp b with
                | none => rw [hfo] at h; cases h
                | some q =>
                  obtain ⟨s, C1⟩ := q
                  rw [hfo] at h
                  dsimp only at h
                  cases hw : px_evO ro n (d + 1) k s ds0 with
                  | none => rw [hw] at h; cases h
                  | some q =>
                    obtain ⟨r2, hF2, ds2, C2⟩ := q
                    rw [hw] at h
                    cases h
                    rw [px_fore_ok hfo hC.1]
                    exact ih hw hC.2
              · cases ho : px_op ro k ins len pc lv st hp with
                | none => rw [ho] at h; cases h
                | some s => rw [ho] at h; exact ih h hC
              · cases h
            | false =>
              rw [hb] at h
              dsimp only [cond_false] at h
              cases ho : px_op ro k ins len pc lv st hp with
              | none => rw [ho] at h; cases h
              | some s => rw [ho] at h; exact ih h hC
theorem px_MO {ro : px_RO} (n : Nat) {d k : Nat} {as : List Value} {h : px_H} (ds : List (Option Bool)) {r : Option Value} {hF : px_H} {C : Prop} (he : px_evO ro n d k (0, lv_args 0 as, [], h) ds = some (r, hF, [], C)) (hC : C) : px_M ro d k as h r hF := ⟨n, px_evO_ok he hC⟩
/-- the row k of ints filled: the first n places -/
def px_fl (I : Nat → Nat → Int32) (k n : Nat) (v : Int32) : Nat → Nat → Int32 := px_rw I k (fun b => bif Nat.blt b n then v else I k b)
theorem px_bltF {a b : Nat} (h : b ≤ a) : Nat.blt a b = false := by
  cases hz : Nat.blt a b with
  | false => rfl
  | true => exact absurd (px_bltT hz) (by omega)
theorem px_bltY {a b : Nat} (h : a < b) : Nat.blt a b = true := Nat.ble_eq_true_of_le h
theorem px_fl_succ {I : Nat → Nat → Int32} {k i : Nat} {v : Int32} : px_up (px_fl I k i v) k i v = px_fl I k (i + 1) v := by
  funext x y
  unfold px_fl px_up px_rw
  by_cases hx : x = k
  · subst hx
    rw [show Nat.beq x x = true from Nat.beq_refl x]
    dsimp only [cond_true]
    rcases Nat.lt_trichotomy y i with q | q | q
    · rw [px_beqN (Nat.ne_of_lt q), px_bltY q, px_bltY (show y < i + 1 by omega)]
      rfl
    · subst q
      rw [show Nat.beq y y = true from Nat.beq_refl y, px_bltY (Nat.lt_succ_self y)]
      rfl
    · rw [px_beqN (Nat.ne_of_gt q), px_bltF (Nat.le_of_lt q), px_bltF (show i + 1 ≤ y by omega)]
      rfl
  · rw [px_beqN hx]
    rfl
theorem px_fl_0 {I : Nat → Nat → Int32} {k : Nat} {v : Int32} : px_fl I k 0 v = I := by
  funext x y
  unfold px_fl px_rw
  by_cases hx : x = k
  · subst hx
    rw [show Nat.beq x x = true from Nat.beq_refl x]
    dsimp only [cond_true]
    rw [px_bltF (Nat.zero_le y)]
    rfl
  · rw [px_beqN hx]; rfl
theorem px_fill_loop {ro : px_RO} {d a n : Nat} {v : Int32} {sh : List px_Sh} {I : Nat → Nat → Int32} {J : Nat → Nat → Int64} {P : Nat → Nat → Option Nat} (ha : sh[a]? = some (.inl (0, n))) (hn : n < 2 ^ 31) (hs : Nat.blt a px_SC = true) :
    ∀ (m i : Nat), i + m = n → px_E ro (d + 1) 3 (5, [(3, .int (nI n)), (2, .int (nI i)), (0, .ref a), (1, .int v)], [], (sh, px_fl I a i v, J, P)) none (sh, px_fl I a n v, J, P) ∧ px_E ro (d + 1) 3 (5, [(2, .int (nI i)), (3, .int (nI n)), (0, .ref a), (1, .int v)], [], (sh, px_fl I a i v, J, P)) none (sh, px_fl I a n v, J, P) := by
  intro m
  induction m with
  | zero =>
    intro i hi
    have e : i = n := by omega
    subst e
    constructor
    · refine px_E_seg 2 (σ' := (7, [(3, .int (nI i)), (2, .int (nI i)), (0, .ref a), (1, .int v)], [.int (nI i), .int (nI i)], (sh, px_fl I a i v, J, P))) rfl ?_
      refine px_E_icmp (t := 20) rfl rfl (fun c => ?_) (fun c => ?_)
      · exact px_E_ret rfl rfl
      · exact absurd (Int32.le_refl _) c
    · refine px_E_seg 2 (σ' := (7, [(2, .int (nI i)), (3, .int (nI i)), (0, .ref a), (1, .int v)], [.int (nI i), .int (nI i)], (sh, px_fl I a i v, J, P))) rfl ?_
      refine px_E_icmp (t := 20) rfl rfl (fun c => ?_) (fun c => ?_)
      · exact px_E_ret rfl rfl
      · exact absurd (Int32.le_refl _) c
  | succ m ih =>
    intro i hi
    constructor
    · refine px_E_seg 2 (σ' := (7, [(3, .int (nI n)), (2, .int (nI i)), (0, .ref a), (1, .int v)], [.int (nI n), .int (nI i)], (sh, px_fl I a i v, J, P))) rfl ?_
      refine px_E_icmp (t := 20) rfl rfl (fun c => ?_) (fun c => ?_)
      · exact absurd c (nI_ge (a := i) (b := n) (by omega) hn)
      · refine px_E_seg 3 (σ' := (13, [(3, .int (nI n)), (2, .int (nI i)), (0, .ref a), (1, .int v)], [.int v, .int (nI i), .ref a], (sh, px_fl I a i v, J, P))) rfl ?_
        refine px_E_iast (n := n) (j := i) rfl ha hs rfl (by omega) hn ?_
        dsimp only
        rw [px_fl_succ]
        refine px_E_seg 2 (σ' := (5, [(2, .int (nI i + 1)), (3, .int (nI n)), (0, .ref a), (1, .int v)], [], (sh, px_fl I a (i + 1) v, J, P))) rfl ?_
        rw [nI_1]
        exact (ih (i + 1) (by omega)).2
    · refine px_E_seg 2 (σ' := (7, [(2, .int (nI i)), (3, .int (nI n)), (0, .ref a), (1, .int v)], [.int (nI n), .int (nI i)], (sh, px_fl I a i v, J, P))) rfl ?_
      refine px_E_icmp (t := 20) rfl rfl (fun c => ?_) (fun c => ?_)
      · exact absurd c (nI_ge (a := i) (b := n) (by omega) hn)
      · refine px_E_seg 3 (σ' := (13, [(2, .int (nI i)), (3, .int (nI n)), (0, .ref a), (1, .int v)], [.int v, .int (nI i), .ref a], (sh, px_fl I a i v, J, P))) rfl ?_
        refine px_E_iast (n := n) (j := i) rfl ha hs rfl (by omega) hn ?_
        dsimp only
        rw [px_fl_succ]
        refine px_E_seg 2 (σ' := (5, [(2, .int (nI i + 1)), (3, .int (nI n)), (0, .ref a), (1, .int v)], [], (sh, px_fl I a (i + 1) v, J, P))) rfl ?_
        rw [nI_1]
        exact (ih (i + 1) (by omega)).2
/-- Arrays.fill of ints -/
theorem px_fill {ro : px_RO} {d : Nat} (a n : Nat) {v : Int32} {sh : List px_Sh} {I : Nat → Nat → Int32} {J : Nat → Nat → Int64} {P : Nat → Nat → Option Nat} (ha : sh[a]? = some (.inl (0, n))) (hn : n < 2 ^ 31) (hs : Nat.blt a px_SC = true) (hs2 : Nat.ble px_SC a = false) : px_M ro (d + 1) 3 [.ref a, .int v] (sh, I, J, P) none (sh, px_fl I a n v, J, P) := by
  refine px_E_seg 3 (σ' := (2 + 1, [(2, .int 0), (0, .ref a), (1, .int v)], [.ref a], (sh, I, J, P))) rfl ?_
  refine px_E_one (σ' := (4, [(2, .int 0), (0, .ref a), (1, .int v)], [.int (nI n)], (sh, I, J, P))) ?_ ?_
  · show (cond (Nat.ble px_SC a) _ _) = _
    rw [hs2]
    show (match sh[a]? with | some (.inl (t, n)) => _ | _ => none) = _
    rw [ha]
    rfl
  · refine px_E_seg 1 (σ' := (5, [(3, .int (nI n)), (2, .int (nI 0)), (0, .ref a), (1, .int v)], [], (sh, I, J, P))) rfl ?_
    have h := (px_fill_loop (ro := ro) (d := d) (v := v) (I := I) (J := J) (P := P) ha hn hs n 0 (by omega)).1
    rw [px_fl_0] at h
    exact h
theorem px_E_icT {ro : px_RO} {d k pc t : Nat} {c : ClassFile.Cond} {off : Int} {lv : px_L} {st : List Value} {x y : Int32} {h hF : px_H} {r : Option Value} (hf : px_fetch k pc = some (.if_icmp c off, 3)) (ht : px_tg pc off = some t) (hc : px_cZ c x.toInt y.toInt true) (kt : px_E ro (d + 1) k (t, lv, st, h) r hF) : px_E ro (d + 1) k (pc, lv, .int y :: .int x :: st, h) r hF := px_E_icmp hf ht (fun _ => kt) (fun n => absurd (px_cZ_t hc) n)
theorem px_E_icF {ro : px_RO} {d k pc t : Nat} {c : ClassFile.Cond} {off : Int} {lv : px_L} {st : List Value} {x y : Int32} {h hF : px_H} {r : Option Value} (hf : px_fetch k pc = some (.if_icmp c off, 3)) (ht : px_tg pc off = some t) (hc : px_cZ c x.toInt y.toInt false) (kf : px_E ro (d + 1) k (pc + 3, lv, st, h) r hF) : px_E ro (d + 1) k (pc, lv, .int y :: .int x :: st, h) r hF := px_E_icmp hf ht (fun n => absurd n (px_cZ_f hc)) (fun _ => kf)
theorem px_E_ifT {ro : px_RO} {d k pc t : Nat} {c : ClassFile.Cond} {off : Int} {lv : px_L} {st : List Value} {x : Int32} {h hF : px_H} {r : Option Value} (hf : px_fetch k pc = some (.ifCond c off, 3)) (ht : px_tg pc off = some t) (hc : px_cZ c x.toInt 0 true) (kt : px_E ro (d + 1) k (t, lv, st, h) r hF) : px_E ro (d + 1) k (pc, lv, .int x :: st, h) r hF := px_E_if hf ht (fun _ => kt) (fun n => absurd (px_cZ_t (y := 0) hc) n)
theorem px_E_ifF {ro : px_RO} {d k pc t : Nat} {c : ClassFile.Cond} {off : Int} {lv : px_L} {st : List Value} {x : Int32} {h hF : px_H} {r : Option Value} (hf : px_fetch k pc = some (.ifCond c off, 3)) (ht : px_tg pc off = some t) (hc : px_cZ c x.toInt 0 false) (kf : px_E ro (d + 1) k (pc + 3, lv, st, h) r hF) : px_E ro (d + 1) k (pc, lv, .int x :: st, h) r hF := px_E_if hf ht (fun n => absurd n (px_cZ_f (y := 0) hc)) (fun _ => kf)
theorem px_E_tabO {ro : px_RO} {d k pc t len : Nat} {dflt lo hi : Int} {offs : Array Int} {lv : px_L} {st : List Value} {x : Int32} {h hF : px_H} {r : Option Value} (hf : px_fetch k pc = some (.tableswitch dflt lo hi offs, len)) (ht : px_tg pc dflt = some t) (hc : x.toInt < lo ∨ hi < x.toInt) (kt : px_E ro (d + 1) k (t, lv, st, h) r hF) : px_E ro (d + 1) k (pc, lv, .int x :: st, h) r hF := by
  refine px_E_one (σ' := (t, lv, st, h)) ?_ kt
  unfold px_one; dsimp only; rw [hf]; dsimp only [px_ret, px_inv, px_op, px_oTab]
  rw [if_pos hc, ht]
  rfl
/-- the class's cells as they may be, the reference's fresh -/
def px_mI (I : Nat → Nat → Int32) (a b : Nat) : Int32 := bif Nat.blt a 95 then I a b else px_IX a b
def px_mJ (J : Nat → Nat → Int64) (a b : Nat) : Int64 := bif Nat.blt a 95 then J a b else px_JX a b
def px_mP (P : Nat → Nat → Option Nat) (a b : Nat) : Option Nat := bif Nat.blt a 95 then P a b else px_PX a b
/-- what is fresh from cell 95 on -/
def px_fr (I : Nat → Nat → Int32) : Prop := ∀ a, 95 ≤ a → I a = px_IX a
def px_frP (P : Nat → Nat → Option Nat) : Prop := ∀ a, 95 ≤ a → P a = px_PX a
theorem px_fr_0 : px_fr px_IX := fun _ _ => rfl
theorem px_frP_0 : px_frP px_PX := fun _ _ => rfl
theorem px_fr_up {I : Nat → Nat → Int32} {k i : Nat} {x : Int32} (hk : k < 95) (h : px_fr I) : px_fr (px_up I k i x) := fun a ha => by rw [px_up_ne (by omega)]; exact h a ha
theorem px_frP_up {I : Nat → Nat → Option Nat} {k i : Nat} {x : Option Nat} (hk : k < 95) (h : px_frP I) : px_frP (px_up I k i x) := fun a ha => by rw [px_up_ne (by omega)]; exact h a ha
theorem px_fr_rw {I : Nat → Nat → Int32} {k : Nat} {g : Nat → Int32} (hk : k < 95) (h : px_fr I) : px_fr (px_rw I k g) := fun a ha => by rw [px_rw_ne (by omega)]; exact h a ha
theorem px_fr_fl {I : Nat → Nat → Int32} {k n : Nat} {v : Int32} (hk : k < 95) (h : px_fr I) : px_fr (px_fl I k n v) := px_fr_rw hk h
theorem px_mI_eq {I : Nat → Nat → Int32} (h : px_fr I) : px_mI I = I := by
  funext a b
  unfold px_mI
  rcases Nat.lt_or_ge a 95 with q | q
  · rw [px_bltY q]; rfl
  · rw [px_bltF q, h a q]; rfl
theorem px_mP_eq {P : Nat → Nat → Option Nat} (h : px_frP P) : px_mP P = P := by
  funext a b
  unfold px_mP
  rcases Nat.lt_or_ge a 95 with q | q
  · rw [px_bltY q]; rfl
  · rw [px_bltF q, h a q]; rfl
theorem px_mJ_eq : px_mJ px_JX = px_JX := by
  funext a b
  unfold px_mJ
  cases Nat.blt a 95 <;> rfl
/-- System.arraycopy of ints -/
def px_cy (I : Nat → Nat → Int32) (a b sp dp n : Nat) : Nat → Nat → Int32 := px_rw I b (va_cpy (I a) (I b) sp dp n)
theorem px_fr_cy {I : Nat → Nat → Int32} {a b sp dp n : Nat} (hk : b < 95) (h : px_fr I) : px_fr (px_cy I a b sp dp n) := px_fr_rw hk h
/-- the class's method k, on the fresh heap: its answer; the reference's cells stay fresh -/
def px_CX (ro : px_RO) (d k : Nat) (as : List Value) (r : Value) : Prop := ∃ I P, px_M ro d k as (px_shX, px_IX, px_JX, px_PX) (some r) (px_shX, I, px_JX, P) ∧ px_fr I ∧ px_frP P
/-- the reference's method k, its cells fresh -/
def px_RX (ro : px_RO) (d k : Nat) (as : List Value) (r : Value) : Prop := ∀ (Ic : Nat → Nat → Int32) (Jc : Nat → Nat → Int64) (Pc : Nat → Nat → Option Nat), ∃ hF, px_M ro d k as (px_shX, px_mI Ic, px_mJ Jc, px_mP Pc) (some r) hF ∧ hF.1 = px_shX
/-- both answer alike -/
theorem px_both {ro : px_RO} {d k1 k2 : Nat} {as1 as2 : List Value} {r : Value} (h1 : px_CX ro d k1 as1 r) (h2 : px_RX ro d k2 as2 r) : ∃ h h', px_M ro d k1 as1 px_hX (some r) h ∧ px_M ro d k2 as2 h (some r) h' ∧ h'.1 = px_shX := by
  obtain ⟨I, P, hM, hI, hP⟩ := h1
  obtain ⟨hF, hR, hs⟩ := h2 I px_JX P
  rw [px_mI_eq hI, px_mJ_eq, px_mP_eq hP] at hR
  exact ⟨_, hF, hM, hR, hs⟩
/-- the reference's copy -/
def px_cpR (I : Nat → Nat → Int32) (a b : Nat) : Nat → Nat → Int32 := px_rw I b (fun j => bif Nat.blt j 1538 then I a j else I b j)
theorem px_copy {ro : px_RO} {d a b na nb : Nat} {sh : List px_Sh} {I : Nat → Nat → Int32} {J : Nat → Nat → Int64} {P : Nat → Nat → Option Nat} (ha : sh[a]? = some (.inl (0, na))) (hb : sh[b]? = some (.inl (0, nb))) (hna : 1538 ≤ na) (hnb : 1538 ≤ nb) (hna2 : na < 2 ^ 31) (hnb2 : nb < 2 ^ 31) (hab : a ≠ b) (hsa : Nat.ble px_SC a = false) (hsb : Nat.blt b px_SC = true) : px_M ro (d + 1) 181 [.ref a, .ref b] (sh, I, J, P) none (sh, px_cpR I a b, J, P) := by
  refine px_E_seg 2 (σ' := (2, [(2, .int (nI 0)), (0, .ref a), (1, .ref b)], [], (sh, I, J, P))) rfl ?_
  have h := px_copy_loop (ro := ro) (d := d) (I := I) (J := J) (P := P) ha hb hna hnb hna2 hnb2 hab hsa hsb 1538 0 (by omega)
  have e : px_rw I b (fun j => bif Nat.blt j 0 then I a j else I b j) = I := by
    funext x y
    unfold px_rw
    by_cases hx : x = b
    · subst hx
      rw [show Nat.beq x x = true from Nat.beq_refl x]
      dsimp only [cond_true]
      rw [px_bltF (Nat.zero_le y)]
      rfl
    · rw [px_beqN hx]; rfl
  rw [e] at h
  exact h
theorem px_PT_in : px_all (fun q => match px_shX[q.1 / 64]? with | some sh => Nat.blt (q.1 % 64) (px_ns sh) | none => false) px_PT = true := by decide +kernel
theorem px_PX_out {a b : Nat} (h : ∀ sh, px_shX[a]? = some sh → px_ns sh ≤ b) : px_PX a b = none := by
  unfold px_PX
  have hq := px_all_get px_PT (a * 64 + b) px_PT_in
  generalize px_PT.get (a * 64 + b) = q at hq ⊢
  dsimp only
  cases hb : (Nat.beq q.1 (a * 64 + b) && Nat.blt b 64) with
  | false => rfl
  | true =>
    rw [Bool.and_eq_true] at hb
    have e := px_beqT hb.1
    have hl := px_bltT hb.2
    rw [e, show (a * 64 + b) / 64 = a by omega, show (a * 64 + b) % 64 = b by omega] at hq
    split at hq
    · rename_i sh hs
      have := h sh hs
      have := px_bltT hq
      omega
    · cases hq
def px_rowZ (q : Nat × (Nat → Int32)) : Prop := ∀ b, px_ns (px_shX.getD q.1 (.inr 0)) ≤ b → q.2 b = 0
theorem px_rz0 : px_rowZ (0, px_i0) := by
  intro b hb
  have hb : 13 ≤ b := hb
  show px_i0 b = 0
  unfold px_i0
  rw [px_beqN (show b ≠ 12 by omega)]
  rfl
theorem px_rz13 : px_rowZ (13, px_i13) := by
  intro b hb
  have hb : 144 ≤ b := hb
  show px_i13 b = 0
  unfold px_i13
  rw [px_bltF hb]
  rfl
theorem px_rz15 : px_rowZ (15, px_i15) := by
  intro b hb
  have hb : 9 ≤ b := hb
  show px_i15 b = 0
  unfold px_i15
  rw [px_beqN (show b ≠ 8 by omega)]
  rfl
theorem px_rz17 : px_rowZ (17, px_i17) := by
  intro b hb
  have hb : 4 ≤ b := hb
  show px_i17 b = 0
  unfold px_i17
  rw [px_bltF hb]
  rfl
theorem px_rz18 : px_rowZ (18, px_i18) := by
  intro b hb
  have hb : 4 ≤ b := hb
  show px_i18 b = 0
  unfold px_i18
  rw [px_bltF hb]
  rfl
theorem px_rz20 : px_rowZ (20, px_i20) := by
  intro b hb
  have hb : 6 ≤ b := hb
  show px_i20 b = 0
  unfold px_i20
  rw [px_bltF hb]
  rfl
theorem px_rz28 : px_rowZ (28, px_i28) := by
  intro b hb
  have hb : 16 ≤ b := hb
  show px_i28 b = 0
  unfold px_i28
  rw [px_bltF hb]
  rfl
theorem px_rz31 : px_rowZ (31, px_i31) := by
  intro b hb
  have hb : 11 ≤ b := hb
  show px_i31 b = 0
  unfold px_i31
  rw [px_beqN (show b ≠ 2 by omega), px_beqN (show b ≠ 3 by omega)]
  rfl
theorem px_rz78 : px_rowZ (78, px_i78) := by
  intro b hb
  have hb : 8 ≤ b := hb
  show px_i78 b = 0
  unfold px_i78
  rw [px_beqN (show b ≠ 4 by omega)]
  rfl
theorem px_rz79 : px_rowZ (79, px_i79) := by
  intro b hb
  have hb : 9 ≤ b := hb
  show px_i79 b = 0
  unfold px_i79
  rw [px_beqN (show b ≠ 8 by omega)]
  rfl
theorem px_rz81 : px_rowZ (81, px_i81) := by
  intro b hb
  have hb : 4 ≤ b := hb
  show px_i81 b = 0
  unfold px_i81
  rw [px_bltF hb]
  rfl
theorem px_rz82 : px_rowZ (82, px_i82) := by
  intro b hb
  have hb : 4 ≤ b := hb
  show px_i82 b = 0
  unfold px_i82
  rw [px_bltF hb]
  rfl
theorem px_rz84 : px_rowZ (84, px_i84) := by
  intro b hb
  have hb : 6 ≤ b := hb
  show px_i84 b = 0
  unfold px_i84
  rw [px_bltF hb]
  rfl
theorem px_rz92 : px_rowZ (92, px_i92) := by
  intro b hb
  have hb : 16 ≤ b := hb
  show px_i92 b = 0
  unfold px_i92
  rw [px_bltF hb]
  rfl
theorem px_rz95 : px_rowZ (95, px_i95) := by
  intro b hb
  have hb : 44 ≤ b := hb
  show px_i95 b = 0
  unfold px_i95
  rw [px_beqN (show b ≠ 5 by omega), px_beqN (show b ≠ 6 by omega)]
  rfl
theorem px_rz96 : px_rowZ (96, px_i96) := by
  intro b hb
  have hb : 1538 ≤ b := hb
  show px_i96 b = 0
  unfold px_i96
  rw [px_beqN (show b ≠ 6 by omega), px_beqN (show b ≠ 8 by omega)]
  rfl
theorem px_rz97 : px_rowZ (97, px_i97) := by
  intro b hb
  have hb : 1538 ≤ b := hb
  show px_i97 b = 0
  unfold px_i97
  rw [px_beqN (show b ≠ 6 by omega), px_beqN (show b ≠ 8 by omega)]
  rfl
theorem px_IT_z : px_allP px_rowZ px_IT := (px_allPB (px_allPB (px_allPB (px_allPB (px_allPL px_rz0) (px_allPL px_rz13)) (px_allPB (px_allPL px_rz15) (px_allPL px_rz17))) (px_allPB (px_allPB (px_allPL px_rz18) (px_allPL px_rz20)) (px_allPB (px_allPL px_rz28) (px_allPL px_rz31)))) (px_allPB (px_allPB (px_allPB (px_allPL px_rz78) (px_allPL px_rz79)) (px_allPB (px_allPL px_rz81) (px_allPL px_rz82))) (px_allPB (px_allPB (px_allPL px_rz84) (px_allPL px_rz92)) (px_allPB (px_allPL px_rz95) (px_allPB (px_allPL px_rz96) (px_allPL px_rz97))))))
theorem px_IX_out {a b : Nat} (h : ∀ sh, px_shX[a]? = some sh → px_ns sh ≤ b) (ha : a < 120) : px_IX a b = 0 := by
  unfold px_IX
  have hq := px_allP_get px_IT a px_IT_z
  generalize px_IT.get a = q at hq ⊢
  dsimp only
  cases hb : Nat.beq q.1 a with
  | false => rfl
  | true =>
    have e := px_beqT hb
    show q.2 b = 0
    refine hq b ?_
    rw [e, List.getD_eq_getElem?_getD]
    have hl : a < px_shX.length := ha
    rw [List.getElem?_eq_getElem hl]
    exact h _ (List.getElem?_eq_getElem hl)
theorem px_IT_in : px_all (fun q : Nat × (Nat → Int32) => Nat.blt q.1 120) px_IT = true := by decide +kernel
theorem px_IX_far {a b : Nat} (ha : 120 ≤ a) : px_IX a b = 0 := by
  unfold px_IX
  have hq := px_all_get px_IT a px_IT_in
  generalize px_IT.get a = q at hq ⊢
  dsimp only
  rw [px_beqN (by have := px_bltT hq; omega)]
  rfl
theorem px_IX_o {a b : Nat} (h : ∀ sh, px_shX[a]? = some sh → px_ns sh ≤ b) : px_IX a b = 0 := by
  rcases Nat.lt_or_ge a 120 with q | q
  · exact px_IX_out h q
  · exact px_IX_far q
theorem px_hX_Z : px_Z px_hX := fun a b h => ⟨px_IX_o h, rfl, px_PX_out h⟩
theorem px_shC_get {a : Nat} (ha : a < 95) : px_shC[a]? = px_shX[a]? := by
  unfold px_shC
  rw [List.getElem?_take, if_pos ha]
theorem px_hC_Z : px_Z px_hC := by
  intro a b h
  rcases Nat.lt_or_ge a 95 with q | q
  · have h' : ∀ sh, px_shX[a]? = some sh → px_ns sh ≤ b := fun sh hs => h sh (by show px_shC[a]? = some sh; rw [px_shC_get q]; exact hs)
    refine ⟨?_, rfl, ?_⟩
    · show px_IC a b = 0
      unfold px_IC
      rw [px_bltY q]
      exact px_IX_o h'
    · show px_PC a b = none
      unfold px_PC
      rw [px_bltY q]
      exact px_PX_out h'
  · refine ⟨?_, rfl, ?_⟩
    · show px_IC a b = 0
      unfold px_IC
      rw [px_bltF q]; rfl
    · show px_PC a b = none
      unfold px_PC
      rw [px_bltF q]; rfl
theorem px_h0_Z : px_Z px_h0 := fun _ _ _ => ⟨rfl, rfl, rfl⟩
/-- behind the reference's constructor but for its copy -/
def px_I1 (a b : Nat) : Int32 := bif Nat.beq a 97 then 0 else px_IX a b
def px_h1 : px_H := (px_shX, px_I1, px_JX, px_PX)
theorem px_h1_Z : px_Z px_h1 := by
  intro a b h
  refine ⟨?_, rfl, px_PX_out h⟩
  show px_I1 a b = 0
  unfold px_I1
  cases Nat.beq a 97 with
  | true => rfl
  | false => exact px_IX_o h
-- runs without the old arrays are runs with them
theorem px_op_ro {ro : px_RO} {k : Nat} {ins : Instr} {len pc : Nat} {lv : px_L} {st : List Value} {h : px_H} {σ : px_S} (ho : px_op [] k ins len pc lv st h = some σ) : px_op ro k ins len pc lv st h = some σ := by
  cases ins with
  | iaload =>
    change px_oIald ro (pc + len) lv st h = some σ
    change px_oIald [] (pc + len) lv st h = some σ at ho
    unfold px_oIald at ho ⊢
    split at ho
    · rename_i i a st
      cases hq : Nat.ble px_SC a with
      | true => rw [hq] at ho; simp at ho
      | false => rw [hq] at ho; exact ho
    · cases ho
  | arraylength =>
    change px_oLen ro (pc + len) lv st h = some σ
    change px_oLen [] (pc + len) lv st h = some σ at ho
    unfold px_oLen at ho ⊢
    split at ho
    · rename_i a st
      cases hq : Nat.ble px_SC a with
      | true => rw [hq] at ho; simp at ho
      | false => rw [hq] at ho; exact ho
    · cases ho
  | newarray t => cases t <;> exact ho
  | _ => exact ho
theorem px_ev_ro {ro : px_RO} : ∀ (n d k : Nat) (σ : px_S) (r : Option Value) (hF : px_H), px_ev [] n d k σ = some (r, hF) → px_ev ro n d k σ = some (r, hF) := by
  intro n
  induction n with
  | zero => intro d k σ r hF h; cases h
  | succ n ih =>
    intro d k σ r hF h
    obtain ⟨pc, lv, st, hp⟩ := σ
    cases d with
    | zero => cases h
    | succ d =>
      unfold px_ev at h ⊢
      cases hf : px_fetch k pc with
      | none => rw [hf] at h; cases h
      | some q =>
        obtain ⟨ins, len⟩ := q
        rw [hf] at h
        dsimp only at h ⊢
        cases hr : px_ret k ins st with
        | some r' => rw [hr] at h; exact h
        | none =>
          rw [hr] at h
          dsimp only at h ⊢
          cases hi : px_inv k ins st hp with
          | some q =>
            obtain ⟨j, as, rest⟩ := q
            rw [hi] at h
            dsimp only at h ⊢
            cases hq : (Nat.ble (rest.map fun v => v.category).sum 8 && Nat.ble (lg_sl as).length (px_maxL j)) with
            | false => rw [hq] at h; cases h
            | true =>
              rw [hq] at h
              dsimp only [cond_true] at h ⊢
              cases hv : px_ev [] n d j (0, lv_args 0 as, [], hp) with
              | none => rw [hv] at h; cases h
              | some q =>
                obtain ⟨v, h1⟩ := q
                rw [hv] at h
                rw [ih _ _ _ _ _ hv]
                exact ih _ _ _ _ _ h
          | none =>
            rw [hi] at h
            dsimp only at h ⊢
            cases ho : px_op [] k ins len pc lv st hp with
            | none => rw [ho] at h; cases h
            | some σ =>
              rw [ho] at h
              rw [px_op_ro ho]
              exact ih _ _ _ _ _ h
theorem px_seg_ro {ro : px_RO} {k : Nat} : ∀ (n : Nat) (σ σ' : px_S), px_seg [] k n σ = some σ' → px_seg ro k n σ = some σ' := by
  intro n
  induction n with
  | zero => intro σ σ' h; exact h
  | succ n ih =>
    intro σ σ' h
    unfold px_seg at h ⊢
    cases ho : px_one [] k σ with
    | none => rw [ho] at h; cases h
    | some σ1 =>
      rw [ho] at h
      have ho' : px_one ro k σ = some σ1 := by
        unfold px_one at ho ⊢
        split at ho
        · cases ho
        · split at ho
          · cases ho
          · split at ho
            · cases ho
            · exact px_op_ro ho
      rw [ho']
      exact ih _ _ h
theorem px_ctorC {ro : px_RO} {d : Nat} : px_M ro (d + 20) 0 [.ref 0] (px_new px_h0 (.inr 11)) none px_hC := by
  have h := px_t1
  split at h
  · rename_i hh he
    have e := px_agree_eq (px_ev_Z _ _ _ _ _ _ he (px_Z_new px_h0_Z)) px_hC_Z h
    subst e
    exact px_E.deep ⟨_, px_ev_ro _ _ _ _ _ _ he⟩ (by omega)
  · cases h
set_option maxRecDepth 100000 in
theorem px_t2 : (match px_seg [] 180 118 (0, [(0, .ref 95)], [], px_new px_hC (.inr 12)) with
  | some (pc, lv, st, h) => decide (pc = 241) && decide (lv = [(0, .ref 95)]) && decide (st = [.ref 97, .ref 96]) && px_agree h px_h1
  | _ => false) = true := by decide +kernel
theorem px_cp1 : px_cpR px_I1 96 97 = px_IX := by
  funext a b
  unfold px_cpR px_rw
  by_cases ha : a = 97
  · subst ha
    show (bif Nat.blt b 1538 then px_I1 96 b else px_I1 97 b) = px_IX 97 b
    rcases Nat.lt_or_ge b 1538 with q | q
    · rw [px_bltY q]; rfl
    · rw [px_bltF q]
      exact (px_IX_o (fun sh hs => by cases hs; exact q)).symm
  · rw [px_beqN ha]
    show px_I1 a b = px_IX a b
    unfold px_I1
    rw [px_beqN ha]; rfl
set_option maxRecDepth 100000 in
theorem px_ctorM {ro : px_RO} {d : Nat} : px_M ro (d + 20) 180 [.ref 95] (px_new px_hC (.inr 12)) none px_hX := by
  have h := px_t2
  split at h
  · rename_i pc lv st hh he
    simp only [Bool.and_eq_true, decide_eq_true_eq] at h
    obtain ⟨⟨⟨e1, e2⟩, e3⟩, e4⟩ := h
    subst e1; subst e2; subst e3
    have e := px_agree_eq (px_seg_Z _ _ _ he (px_Z_new px_hC_Z)) px_h1_Z e4
    subst e
    refine px_E_seg 118 (px_seg_ro _ _ _ he) ?_
    refine px_E_call (j := 181) (as := [.ref 96, .ref 97]) (rest := []) (v := none) (h1 := (px_shX, px_cpR px_I1 96 97, px_JX, px_PX)) rfl rfl rfl (px_copy (na := 1538) (nb := 1538) rfl rfl (by decide) (by decide) (by decide) (by decide) (by decide) rfl rfl) ?_
    rw [px_cp1]
    exact px_E_ret rfl rfl
  · cases h
/-! THE LIFT: heaps of whole numbers, and what a method comes to, as a statement over them -/
theorem lf_all_find {lv : px_L} {p : Nat × Value → Bool} {j : Nat} {q : Nat × Value} : lv.find? (fun q => q.1 == j) = some q → p q = true → (lv.filter p).find? (fun q => q.1 == j) = some q := by
  induction lv with
  | nil => intro h; cases h
  | cons a r ih =>
    intro h hp
    rw [List.find?_cons] at h
    cases ha : (a.1 == j) with
    | true =>
      rw [ha] at h
      cases h
      rw [List.filter_cons_of_pos hp, List.find?_cons, ha]
    | false =>
      rw [ha] at h
      cases hpa : p a with
      | true => rw [List.filter_cons_of_pos hpa, List.find?_cons, ha]; exact ih h hp
      | false => rw [List.filter_cons_of_neg (by rw [hpa]; decide)]; exact ih h hp
def lf_Sb (l lv : px_L) : Prop := ∀ q ∈ l, px_ld lv q.1 = some q.2
theorem lf_ld_mem {l : px_L} {i : Nat} {v : Value} (h : px_ld l i = some v) : (i, v) ∈ l := by
  unfold px_ld at h
  obtain ⟨q, hq, rfl⟩ := Option.map_eq_some_iff.mp h
  have h1 := List.mem_of_find?_eq_some hq
  have h2 := List.find?_some hq
  have e : q.1 = i := by simpa using h2
  rw [← e]
  exact h1
theorem lf_Sb_ld {l lv : px_L} (hs : lf_Sb l lv) {i : Nat} {v : Value} (h : px_ld l i = some v) : px_ld lv i = some v := hs _ (lf_ld_mem h)
theorem lf_ld_st {lv : px_L} {i j : Nat} {v w : Value} {p : Nat × Value → Bool} (hj : j ≠ i) (hp : p (j, w) = true) (h : px_ld lv j = some w) : px_ld ((i, v) :: lv.filter p) j = some w := by
  unfold px_ld at h ⊢
  obtain ⟨q, hq, hw⟩ := Option.map_eq_some_iff.mp h
  have h2 := List.find?_some hq
  have e : q.1 = j := by simpa using h2
  have eq : q = (j, w) := Prod.ext e hw
  rw [List.find?_cons]
  have hne : (((i, v) : Nat × Value).1 == j) = false := by simpa using fun h9 : i = j => hj h9.symm
  rw [hne]
  dsimp only
  rw [lf_all_find hq (by rw [eq]; exact hp)]
  rw [eq]
  rfl
theorem lf_ld_hd {lv : px_L} {i : Nat} {v : Value} : px_ld ((i, v) :: lv) i = some v := by
  unfold px_ld
  rw [List.find?_cons]
  have h : (((i, v) : Nat × Value).1 == i) = true := by simp
  rw [h]
  rfl
theorem lf_Sb_st {l lv : px_L} {i : Nat} {v : Value} {p : Nat × Value → Bool} (hs : lf_Sb l lv) (hpi : ∀ q, p q = true → q.1 ≠ i) : lf_Sb ((i, v) :: l.filter p) ((i, v) :: lv.filter p) := by
  intro q hq
  rcases List.mem_cons.mp hq with rfl | hq
  · exact lf_ld_hd
  · obtain ⟨h1, h2⟩ := List.mem_filter.mp hq
    exact lf_ld_st (hpi q h2) h2 (hs q h1)
theorem lf_Sb_st1 {l lv : px_L} {i : Nat} {v : Value} (hs : lf_Sb l lv) : lf_Sb (px_st1 l i v) (px_st1 lv i v) := by
  refine lf_Sb_st hs (fun q hq e => ?_)
  rw [e] at hq
  simp at hq
theorem lf_Sb_st2 {l lv : px_L} {i : Nat} {v : Value} (hs : lf_Sb l lv) : lf_Sb (px_st2 l i v) (px_st2 lv i v) := by
  refine lf_Sb_st hs (fun q hq e => ?_)
  rw [e] at hq
  simp at hq
theorem lf_Sb_tr {a b c : px_L} (h1 : lf_Sb a b) (h2 : lf_Sb b c) : lf_Sb a c := fun q hq => lf_Sb_ld h2 (h1 q hq)
/-- what doesn't look at the variables -/
def lf_fr (f : px_L → Option px_S) : Prop := ∀ lv, f lv = (f []).map (fun σ => (σ.1, lv, σ.2.2))
theorem lf_bif {b : Bool} {x y z w : Option px_S} {f : px_S → px_S} (h1 : x = y.map f) (h2 : z = w.map f) : (bif b then x else z) = (bif b then y else w).map f := by cases b <;> assumption
theorem lf_fr_ari {ins : Instr} {pc : Nat} {st : List Value} {h : px_H} : lf_fr (fun lv => px_oAri ins pc lv st h) := by
  intro lv
  unfold px_oAri
  dsimp only
  repeat' (first | rfl | refine lf_bif ?_ ?_ | split)
theorem lf_fr_arl {ins : Instr} {pc : Nat} {st : List Value} {h : px_H} : lf_fr (fun lv => px_oArl ins pc lv st h) := by
  intro lv
  unfold px_oArl
  dsimp only
  repeat' (first | rfl | refine lf_bif ?_ ?_ | split)
theorem lf_fr_Ineg  {pc : Nat} {st : List Value} {h : px_H} : lf_fr (fun lv => px_oIneg pc lv st h) := by
  intro lv
  unfold px_oIneg
  dsimp only
  repeat' (first | rfl | refine lf_bif ?_ ?_ | split)
theorem lf_fr_Lneg  {pc : Nat} {st : List Value} {h : px_H} : lf_fr (fun lv => px_oLneg pc lv st h) := by
  intro lv
  unfold px_oLneg
  dsimp only
  repeat' (first | rfl | refine lf_bif ?_ ?_ | split)
theorem lf_fr_I2l  {pc : Nat} {st : List Value} {h : px_H} : lf_fr (fun lv => px_oI2l pc lv st h) := by
  intro lv
  unfold px_oI2l
  dsimp only
  repeat' (first | rfl | refine lf_bif ?_ ?_ | split)
theorem lf_fr_L2i  {pc : Nat} {st : List Value} {h : px_H} : lf_fr (fun lv => px_oL2i pc lv st h) := by
  intro lv
  unfold px_oL2i
  dsimp only
  repeat' (first | rfl | refine lf_bif ?_ ?_ | split)
theorem lf_fr_Lcmp  {pc : Nat} {st : List Value} {h : px_H} : lf_fr (fun lv => px_oLcmp pc lv st h) := by
  intro lv
  unfold px_oLcmp
  dsimp only
  repeat' (first | rfl | refine lf_bif ?_ ?_ | split)
theorem lf_fr_Lshl  {pc : Nat} {st : List Value} {h : px_H} : lf_fr (fun lv => px_oLshl pc lv st h) := by
  intro lv
  unfold px_oLshl
  dsimp only
  repeat' (first | rfl | refine lf_bif ?_ ?_ | split)
theorem lf_fr_Lshr  {pc : Nat} {st : List Value} {h : px_H} : lf_fr (fun lv => px_oLshr pc lv st h) := by
  intro lv
  unfold px_oLshr
  dsimp only
  repeat' (first | rfl | refine lf_bif ?_ ?_ | split)
theorem lf_fr_Dup  {pc : Nat} {st : List Value} {h : px_H} : lf_fr (fun lv => px_oDup pc lv st h) := by
  intro lv
  unfold px_oDup
  dsimp only
  repeat' (first | rfl | refine lf_bif ?_ ?_ | split)
theorem lf_fr_Dup2  {pc : Nat} {st : List Value} {h : px_H} : lf_fr (fun lv => px_oDup2 pc lv st h) := by
  intro lv
  unfold px_oDup2
  dsimp only
  repeat' (first | rfl | refine lf_bif ?_ ?_ | split)
theorem lf_fr_Zald  {pc : Nat} {st : List Value} {h : px_H} : lf_fr (fun lv => px_oZald pc lv st h) := by
  intro lv
  unfold px_oZald
  dsimp only
  repeat' (first | rfl | refine lf_bif ?_ ?_ | split)
theorem lf_fr_Lald  {pc : Nat} {st : List Value} {h : px_H} : lf_fr (fun lv => px_oLald pc lv st h) := by
  intro lv
  unfold px_oLald
  dsimp only
  repeat' (first | rfl | refine lf_bif ?_ ?_ | split)
theorem lf_fr_Aald  {pc : Nat} {st : List Value} {h : px_H} : lf_fr (fun lv => px_oAald pc lv st h) := by
  intro lv
  unfold px_oAald
  dsimp only
  repeat' (first | rfl | refine lf_bif ?_ ?_ | split)
theorem lf_fr_Iast  {pc : Nat} {st : List Value} {h : px_H} : lf_fr (fun lv => px_oIast pc lv st h) := by
  intro lv
  unfold px_oIast
  dsimp only
  repeat' (first | rfl | refine lf_bif ?_ ?_ | split)
theorem lf_fr_Zast  {pc : Nat} {st : List Value} {h : px_H} : lf_fr (fun lv => px_oZast pc lv st h) := by
  intro lv
  unfold px_oZast
  dsimp only
  repeat' (first | rfl | refine lf_bif ?_ ?_ | split)
theorem lf_fr_Last  {pc : Nat} {st : List Value} {h : px_H} : lf_fr (fun lv => px_oLast pc lv st h) := by
  intro lv
  unfold px_oLast
  dsimp only
  repeat' (first | rfl | refine lf_bif ?_ ?_ | split)
theorem lf_fr_Aast  {pc : Nat} {st : List Value} {h : px_H} : lf_fr (fun lv => px_oAast pc lv st h) := by
  intro lv
  unfold px_oAast
  dsimp only
  repeat' (first | rfl | refine lf_bif ?_ ?_ | split)
theorem lf_fr_Sp  {pc : Nat} {st : List Value} {h : px_H} : lf_fr (fun lv => px_oSp pc lv st h) := by
  intro lv
  unfold px_oSp
  dsimp only
  repeat' (first | rfl | refine lf_bif ?_ ?_ | split)
theorem lf_fr_Cpy  {pc : Nat} {st : List Value} {h : px_H} : lf_fr (fun lv => px_oCpy pc lv st h) := by
  intro lv
  unfold px_oCpy
  dsimp only
  repeat' (first | rfl | refine lf_bif ?_ ?_ | split)
theorem lf_fr_pop {n : Nat} {pc : Nat} {st : List Value} {h : px_H} : lf_fr (fun lv => px_oPop n pc lv st h) := by
  intro lv
  unfold px_oPop
  dsimp only
  repeat' (first | rfl | refine lf_bif ?_ ?_ | split)
theorem lf_fr_if {c : ClassFile.Cond} {off : Int} {pc : Nat} {st : List Value} {h : px_H} : lf_fr (fun lv => px_oIf c off pc lv st h) := by
  intro lv
  unfold px_oIf
  dsimp only
  repeat' (first | rfl | refine lf_bif ?_ ?_ | split)
theorem lf_fr_icmp {c : ClassFile.Cond} {off : Int} {pc : Nat} {st : List Value} {h : px_H} : lf_fr (fun lv => px_oIcmp c off pc lv st h) := by
  intro lv
  unfold px_oIcmp
  dsimp only
  repeat' (first | rfl | refine lf_bif ?_ ?_ | split)
theorem lf_fr_null {off : Int} {pc : Nat} {st : List Value} {h : px_H} : lf_fr (fun lv => px_oNull off pc lv st h) := by
  intro lv
  unfold px_oNull
  try unfold px_jmp
  dsimp only
  repeat' (first | rfl | refine lf_bif ?_ ?_ | split)
theorem lf_fr_nonnull {off : Int} {pc : Nat} {st : List Value} {h : px_H} : lf_fr (fun lv => px_oNonnull off pc lv st h) := by
  intro lv
  unfold px_oNonnull
  try unfold px_jmp
  dsimp only
  repeat' (first | rfl | refine lf_bif ?_ ?_ | split)
theorem lf_fr_tab {dflt lo hi : Int} {offs : Array Int} {pc : Nat} {st : List Value} {h : px_H} : lf_fr (fun lv => px_oTab dflt lo hi offs pc lv st h) := by
  intro lv
  unfold px_oTab
  try unfold px_jmp
  dsimp only
  repeat' (first | rfl | refine lf_bif ?_ ?_ | split)
theorem lf_fr_look {dflt : Int} {ps : Array (Int × Int)} {pc : Nat} {st : List Value} {h : px_H} : lf_fr (fun lv => px_oLook dflt ps pc lv st h) := by
  intro lv
  unfold px_oLook
  try unfold px_jmp
  dsimp only
  repeat' (first | rfl | refine lf_bif ?_ ?_ | split)
theorem lf_fr_get {k i : Nat} {pc : Nat} {st : List Value} {h : px_H} : lf_fr (fun lv => px_oGet k i pc lv st h) := by
  intro lv
  unfold px_oGet
  dsimp only
  repeat' (first | rfl | refine lf_bif ?_ ?_ | split)
theorem lf_fr_put {k i : Nat} {pc : Nat} {st : List Value} {h : px_H} : lf_fr (fun lv => px_oPut k i pc lv st h) := by
  intro lv
  unfold px_oPut
  dsimp only
  repeat' (first | rfl | refine lf_bif ?_ ?_ | split)
theorem lf_fr_iald {ro : px_RO} {pc : Nat} {st : List Value} {h : px_H} : lf_fr (fun lv => px_oIald ro pc lv st h) := by
  intro lv
  unfold px_oIald
  dsimp only
  repeat' (first | rfl | refine lf_bif ?_ ?_ | split)
theorem lf_fr_len {ro : px_RO} {pc : Nat} {st : List Value} {h : px_H} : lf_fr (fun lv => px_oLen ro pc lv st h) := by
  intro lv
  unfold px_oLen
  dsimp only
  repeat' (first | rfl | refine lf_bif ?_ ?_ | split)
theorem lf_fr_new {k i : Nat} {pc : Nat} {st : List Value} {h : px_H} : lf_fr (fun lv => px_oNew k i pc lv st h) := by
  intro lv
  unfold px_oNew
  dsimp only
  repeat' (first | rfl | refine lf_bif ?_ ?_ | split)
theorem lf_fr_newa {t : Nat} {pc : Nat} {st : List Value} {h : px_H} : lf_fr (fun lv => px_oNewa t pc lv st h) := by
  intro lv
  unfold px_oNewa
  dsimp only
  repeat' (first | rfl | refine lf_bif ?_ ?_ | split)
theorem lf_fr_mi {kd : Nat} {pc : Nat} {st : List Value} {h : px_H} : lf_fr (fun lv => px_oMi kd pc lv st h) := by
  intro lv
  unfold px_oMi
  dsimp only
  repeat' (first | rfl | refine lf_bif ?_ ?_ | split)
theorem lf_fr_ml {kd : Nat} {pc : Nat} {st : List Value} {h : px_H} : lf_fr (fun lv => px_oMl kd pc lv st h) := by
  intro lv
  unfold px_oMl
  dsimp only
  repeat' (first | rfl | refine lf_bif ?_ ?_ | split)
theorem lf_fr_str {k i : Nat} {pc : Nat} {st : List Value} {h : px_H} : lf_fr (fun lv => px_oStr k i pc lv st h) := by
  intro lv
  unfold px_oStr
  dsimp only
  repeat' (first | rfl | refine lf_bif ?_ ?_ | split)
theorem lf_fr_jmp {t : Option Nat} {pc : Nat} {st : List Value} {h : px_H} : lf_fr (fun lv => px_jmp lv st h t) := by
  intro lv
  unfold px_jmp
  dsimp only
  repeat' (first | rfl | refine lf_bif ?_ ?_ | split)
theorem lf_fr_psh {v : Option Value} {pc : Nat} {st : List Value} {h : px_H} : lf_fr (fun lv => px_psh pc lv st h v) := by
  intro lv
  unfold px_psh
  dsimp only
  repeat' (first | rfl | refine lf_bif ?_ ?_ | split)
theorem lf_fr_anew {k i pc : Nat} {st : List Value} {h : px_H} : lf_fr (fun lv => px_oAnew k i pc lv st h) := by
  intro lv
  unfold px_oAnew
  dsimp only
  split
  · exact lf_fr_newa lv
  · rfl
theorem lf_fr_st {kd pc : Nat} {st : List Value} {h : px_H} : lf_fr (fun lv => px_oSt kd pc lv st h) := by
  intro lv
  unfold px_oSt
  dsimp only
  split
  · exact lf_fr_Cpy lv
  · exact lf_fr_mi lv
  · exact lf_fr_mi lv
  · exact lf_fr_ml lv
  · exact lf_fr_ml lv
  · rfl
theorem lf_fr_k {f : px_L → Option px_S} {l lv : px_L} {σ : px_S} (hs : lf_Sb l lv) (hf : lf_fr f) (h1 : f l = some σ) : ∃ l', f lv = some (σ.1, l', σ.2.2) ∧ lf_Sb σ.2.1 l' := by
  have h2 := hf l
  rw [h1] at h2
  cases he : f [] with
  | none => rw [he] at h2; cases h2
  | some τ =>
    rw [he] at h2
    cases h2
    refine ⟨lv, ?_, hs⟩
    rw [hf lv, he]
    rfl
theorem lf_get_sb {l lv : px_L} {i kd : Nat} {w : Value} (hs : lf_Sb l lv) (h : px_get l i kd = some w) : px_get lv i kd = some w := by
  unfold px_get at h ⊢
  cases hl : px_ld l i with
  | none => rw [hl] at h; split at h <;> first | (rename_i h9; cases h9) | cases h
  | some v => rw [lf_Sb_ld hs hl]; rw [hl] at h; exact h
theorem lf_psh_sb {l lv : px_L} {pc i kd : Nat} {st : List Value} {h : px_H} {σ : px_S} (hs : lf_Sb l lv) (h1 : px_psh pc l st h (px_get l i kd) = some σ) : ∃ l', px_psh pc lv st h (px_get lv i kd) = some (σ.1, l', σ.2.2) ∧ lf_Sb σ.2.1 l' := by
  cases hg : px_get l i kd with
  | none => rw [hg] at h1; cases h1
  | some w =>
    rw [hg] at h1
    cases h1
    rw [lf_get_sb hs hg]
    exact ⟨lv, rfl, hs⟩
theorem lf_sto_sb {l lv : px_L} {k pc i kd : Nat} {st : List Value} {h : px_H} {σ : px_S} (hs : lf_Sb l lv) (h1 : px_oSto k pc l st h i kd = some σ) : ∃ l', px_oSto k pc lv st h i kd = some (σ.1, l', σ.2.2) ∧ lf_Sb σ.2.1 l' := by
  unfold px_oSto at h1 ⊢
  split at h1
  · rename_i v st
    split at h1
    · rename_i l1 hl
      cases h1
      unfold px_sto at hl ⊢
      split at hl
      · cases hb : Nat.blt i (px_maxL k) with
        | false => rw [hb] at hl; cases hl
        | true => rw [hb] at hl; cases hl; exact ⟨_, rfl, lf_Sb_st1 hs⟩
      · cases hb : Nat.blt (i + 1) (px_maxL k) with
        | false => rw [hb] at hl; cases hl
        | true => rw [hb] at hl; cases hl; exact ⟨_, rfl, lf_Sb_st2 hs⟩
      · cases hb : Nat.blt i (px_maxL k) with
        | false => rw [hb] at hl; cases hl
        | true => rw [hb] at hl; cases hl; exact ⟨_, rfl, lf_Sb_st1 hs⟩
      · cases hb : Nat.blt i (px_maxL k) with
        | false => rw [hb] at hl; cases hl
        | true => rw [hb] at hl; cases hl; exact ⟨_, rfl, lf_Sb_st1 hs⟩
      · cases hl
    · cases h1
  · cases h1
theorem lf_inc_sb {l lv : px_L} {k pc i : Nat} {n : Int} {st : List Value} {h : px_H} {σ : px_S} (hs : lf_Sb l lv) (h1 : px_oInc k pc l st h i n = some σ) : ∃ l', px_oInc k pc lv st h i n = some (σ.1, l', σ.2.2) ∧ lf_Sb σ.2.1 l' := by
  unfold px_oInc at h1 ⊢
  split at h1
  · rename_i x hx
    rw [lf_Sb_ld hs hx]
    dsimp only
    cases hb : Nat.blt i (px_maxL k) with
    | false => rw [hb] at h1; cases h1
    | true => rw [hb] at h1; cases h1; exact ⟨_, rfl, lf_Sb_st1 hs⟩
  · cases h1
theorem lf_op_sb {ro : px_RO} {k : Nat} {ins : Instr} {len pc : Nat} {l lv : px_L} {st : List Value} {h : px_H} {σ : px_S} (hs : lf_Sb l lv) (ho : px_op ro k ins len pc l st h = some σ) : ∃ l', px_op ro k ins len pc lv st h = some (σ.1, l', σ.2.2) ∧ lf_Sb σ.2.1 l' := by
  cases ins with
  | iload i => exact lf_psh_sb hs ho
  | iload_n i => exact lf_psh_sb hs ho
  | lload i => exact lf_psh_sb hs ho
  | lload_n i => exact lf_psh_sb hs ho
  | aload i => exact lf_psh_sb hs ho
  | aload_n i => exact lf_psh_sb hs ho
  | istore i => exact lf_sto_sb hs ho
  | istore_n i => exact lf_sto_sb hs ho
  | lstore i => exact lf_sto_sb hs ho
  | lstore_n i => exact lf_sto_sb hs ho
  | astore i => exact lf_sto_sb hs ho
  | astore_n i => exact lf_sto_sb hs ho
  | iinc i n => exact lf_inc_sb hs ho
  | newarray t =>
    cases t with
    | int => exact lf_fr_k hs lf_fr_newa ho
    | long => exact lf_fr_k hs lf_fr_newa ho
    | boolean => exact lf_fr_k hs lf_fr_newa ho
    | _ => cases ho
  | invokespecial i =>
    refine lf_fr_k (f := fun lv => px_op ro k (.invokespecial i) len pc lv st h) hs ?_ ho
    intro lv
    show (match px_call k i with | some (4, _) => px_oSp (pc + len) lv st h | _ => none) = (match px_call k i with | some (4, _) => px_oSp (pc + len) [] st h | _ => none).map _
    split
    · exact lf_fr_Sp lv
    · rfl
  | invokestatic i =>
    refine lf_fr_k (f := fun lv => px_op ro k (.invokestatic i) len pc lv st h) hs ?_ ho
    intro lv
    show (match px_call k i with | some (kd, _) => px_oSt kd (pc + len) lv st h | _ => none) = (match px_call k i with | some (kd, _) => px_oSt kd (pc + len) [] st h | _ => none).map _
    split
    · exact lf_fr_st lv
    · rfl
  | iadd => exact lf_fr_k hs (lf_fr_ari (ins := .iadd)) ho
  | isub => exact lf_fr_k hs (lf_fr_ari (ins := .isub)) ho
  | imul => exact lf_fr_k hs (lf_fr_ari (ins := .imul)) ho
  | idiv => exact lf_fr_k hs (lf_fr_ari (ins := .idiv)) ho
  | irem => exact lf_fr_k hs (lf_fr_ari (ins := .irem)) ho
  | iand => exact lf_fr_k hs (lf_fr_ari (ins := .iand)) ho
  | ior => exact lf_fr_k hs (lf_fr_ari (ins := .ior)) ho
  | ixor => exact lf_fr_k hs (lf_fr_ari (ins := .ixor)) ho
  | ishl => exact lf_fr_k hs (lf_fr_ari (ins := .ishl)) ho
  | ishr => exact lf_fr_k hs (lf_fr_ari (ins := .ishr)) ho
  | iushr => exact lf_fr_k hs (lf_fr_ari (ins := .iushr)) ho
  | ladd => exact lf_fr_k hs (lf_fr_arl (ins := .ladd)) ho
  | lsub => exact lf_fr_k hs (lf_fr_arl (ins := .lsub)) ho
  | lmul => exact lf_fr_k hs (lf_fr_arl (ins := .lmul)) ho
  | ldiv => exact lf_fr_k hs (lf_fr_arl (ins := .ldiv)) ho
  | lrem => exact lf_fr_k hs (lf_fr_arl (ins := .lrem)) ho
  | lor => exact lf_fr_k hs (lf_fr_arl (ins := .lor)) ho
  | ineg => exact lf_fr_k hs (lf_fr_Ineg) ho
  | lneg => exact lf_fr_k hs (lf_fr_Lneg) ho
  | i2l => exact lf_fr_k hs (lf_fr_I2l) ho
  | l2i => exact lf_fr_k hs (lf_fr_L2i) ho
  | lcmp => exact lf_fr_k hs (lf_fr_Lcmp) ho
  | lshl => exact lf_fr_k hs (lf_fr_Lshl) ho
  | lshr => exact lf_fr_k hs (lf_fr_Lshr) ho
  | dup => exact lf_fr_k hs (lf_fr_Dup) ho
  | pop => exact lf_fr_k hs (lf_fr_pop) ho
  | pop2 => exact lf_fr_k hs (lf_fr_pop) ho
  | dup2 => exact lf_fr_k hs (lf_fr_Dup2) ho
  | ifCond a0 a1 => exact lf_fr_k hs (lf_fr_if) ho
  | if_icmp a0 a1 => exact lf_fr_k hs (lf_fr_icmp) ho
  | ifnull a0 => exact lf_fr_k hs (lf_fr_null) ho
  | ifnonnull a0 => exact lf_fr_k hs (lf_fr_nonnull) ho
  | goto a0 => exact lf_fr_k hs (lf_fr_jmp (pc := 0)) ho
  | tableswitch a0 a1 a2 a3 => exact lf_fr_k hs (lf_fr_tab) ho
  | lookupswitch a0 a1 => exact lf_fr_k hs (lf_fr_look) ho
  | getfield a0 => exact lf_fr_k hs (lf_fr_get) ho
  | putfield a0 => exact lf_fr_k hs (lf_fr_put) ho
  | iaload => exact lf_fr_k hs (lf_fr_iald) ho
  | baload => exact lf_fr_k hs (lf_fr_Zald) ho
  | laload => exact lf_fr_k hs (lf_fr_Lald) ho
  | aaload => exact lf_fr_k hs (lf_fr_Aald) ho
  | iastore => exact lf_fr_k hs (lf_fr_Iast) ho
  | bastore => exact lf_fr_k hs (lf_fr_Zast) ho
  | lastore => exact lf_fr_k hs (lf_fr_Last) ho
  | aastore => exact lf_fr_k hs (lf_fr_Aast) ho
  | arraylength => exact lf_fr_k hs (lf_fr_len) ho
  | new a0 => exact lf_fr_k hs (lf_fr_new) ho
  | anewarray a0 => exact lf_fr_k hs (lf_fr_anew) ho
  | getstatic a0 => exact lf_fr_k hs (lf_fr_psh) ho
  | invokevirtual a0 => exact lf_fr_k hs (lf_fr_str) ho
  | ldc a0 => exact lf_fr_k hs (lf_fr_psh) ho
  | ldc_w a0 => exact lf_fr_k hs (lf_fr_psh) ho
  | ldc2_w a0 => exact lf_fr_k hs (lf_fr_psh) ho
  | iconst n => cases ho; exact ⟨lv, rfl, hs⟩
  | bipush n => cases ho; exact ⟨lv, rfl, hs⟩
  | sipush n => cases ho; exact ⟨lv, rfl, hs⟩
  | lconst n => cases ho; exact ⟨lv, rfl, hs⟩
  | aconst_null => cases ho; exact ⟨lv, rfl, hs⟩
  | _ => cases ho
theorem lf_ev_sb {ro : px_RO} : ∀ (n d k : Nat) (pc : Nat) (l lv : px_L) (st : List Value) (h : px_H) (r : Option Value) (hF : px_H), lf_Sb l lv → px_ev ro n d k (pc, l, st, h) = some (r, hF) → px_ev ro n d k (pc, lv, st, h) = some (r, hF) := by
  intro n
  induction n with
  | zero => intro d k pc l lv st h r hF hs he; cases he
  | succ n ih =>
    intro d k pc l lv st h r hF hs he
    cases d with
    | zero => cases he
    | succ d =>
      unfold px_ev at he ⊢
      cases hf : px_fetch k pc with
      | none => rw [hf] at he; cases he
      | some q =>
        obtain ⟨ins, len⟩ := q
        rw [hf] at he
        dsimp only at he ⊢
        cases hr : px_ret k ins st with
        | some r' => rw [hr] at he; exact he
        | none =>
          rw [hr] at he
          dsimp only at he ⊢
          cases hi : px_inv k ins st h with
          | some q =>
            obtain ⟨j, as, rest⟩ := q
            rw [hi] at he
            dsimp only at he ⊢
            cases hq : (Nat.ble (rest.map fun v => v.category).sum 8 && Nat.ble (lg_sl as).length (px_maxL j)) with
            | false => rw [hq] at he; cases he
            | true =>
              rw [hq] at he
              dsimp only [cond_true] at he ⊢
              cases hv : px_ev ro n d j (0, lv_args 0 as, [], h) with
              | none => rw [hv] at he; cases he
              | some q =>
                obtain ⟨v, h1⟩ := q
                rw [hv] at he
                exact ih _ _ _ _ _ _ _ _ _ hs he
          | none =>
            rw [hi] at he
            dsimp only at he ⊢
            cases ho : px_op ro k ins len pc l st h with
            | none => rw [ho] at he; cases he
            | some σ =>
              rw [ho] at he
              obtain ⟨pc1, l1, st1, h1⟩ := σ
              obtain ⟨l', e1, e2⟩ := lf_op_sb hs ho
              rw [e1]
              exact ih _ _ _ _ _ _ _ _ _ e2 he
theorem px_E_sb {ro : px_RO} {d k pc : Nat} {l lv : px_L} {st : List Value} {h hF : px_H} {r : Option Value} (hs : lf_Sb l lv) (h1 : px_E ro d k (pc, l, st, h) r hF) : px_E ro d k (pc, lv, st, h) r hF := by
  obtain ⟨n, h1⟩ := h1
  exact ⟨n, lf_ev_sb _ _ _ _ _ _ _ _ _ _ hs h1⟩
