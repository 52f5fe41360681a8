/-! bits of an int -/
section BT
variable {a b : Int}
def bt_g (a : Int) (k : Nat) : Bool := (Int32.ofInt a).toBitVec.getLsbD k
theorem bt_1 : ∀ i, i < 32 → (1#32).getLsbD i = decide (i = 0) := by decide
theorem bt_k : ∀ k : Nat, k < 31 → ((Int32.ofInt (k : Int) &&& 31).toBitVec.smod 32).toNat = k := by decide +kernel
theorem bt_a1 (x : BitVec 32) (k : Nat) (hk : k < 31) : (x.sshiftRight k &&& 1#32) = if x.getLsbD k = true then 1#32 else 0#32 := by
  apply BitVec.eq_of_getLsbD_eq
  intro i hi
  rw [BitVec.getLsbD_and, bt_1 i hi]
  by_cases c : i = 0
  · subst c
    rw [BitVec.getLsbD_sshiftRight]
    cases h : x.getLsbD k with
    | true =>
      have : k + 0 < 32 := by omega
      have c32 : k < 32 := by omega
      have n32 : ¬ 32 ≤ k := by omega
      simp [h, this, c32, n32]
    | false =>
      have : k + 0 < 32 := by omega
      have c32 : k < 32 := by omega
      have n32 : ¬ 32 ≤ k := by omega
      simp [h, this, c32, n32]
  · have h1 : decide (i = 0) = false := decide_eq_false c
    rw [h1, Bool.and_false]
    cases h : x.getLsbD k with
    | true => rw [if_pos rfl, bt_1 i hi, h1]
    | false => rw [if_neg (by decide)]; simp
/-- one bit -/
theorem bt_tb {k : Nat} (h : k < 31) : lf_and (lf_shr a (k : Int)) 1 = if bt_g a k = true then 1 else 0 := by
  unfold lf_and lf_shr bt_g
  rw [Int32.ofInt_toInt]
  have e : ((Int32.ofInt a >>> (Int32.ofInt (k : Int) &&& 31)) &&& Int32.ofInt 1).toInt = ((Int32.ofInt a).toBitVec.sshiftRight ((Int32.ofInt (k : Int) &&& 31).toBitVec.smod 32).toNat &&& 1#32).toInt := rfl
  rw [e, bt_k k h, bt_a1 _ k h]
  split <;> rfl
theorem bt_or {k : Nat} : bt_g (lf_or a b) k = (bt_g a k || bt_g b k) := by
  unfold bt_g lf_or
  rw [Int32.ofInt_toInt]
  exact BitVec.getLsbD_or
theorem bt_and {k : Nat} : bt_g (lf_and a b) k = (bt_g a k && bt_g b k) := by
  unfold bt_g lf_and
  rw [Int32.ofInt_toInt]
  exact BitVec.getLsbD_and
theorem bt_xor {k : Nat} : bt_g (lf_xor a b) k = (bt_g a k ^^ bt_g b k) := by
  unfold bt_g lf_xor
  rw [Int32.ofInt_toInt]
  exact BitVec.getLsbD_xor
theorem bt_s1 : ∀ j : Nat, j < 31 → ∀ k : Nat, k < 32 → bt_g (lf_shl 1 (j : Int)) k = decide (k = j) := by decide +kernel
theorem bt_0 {k : Nat} : bt_g 0 k = false := by
  unfold bt_g
  have e : (Int32.ofInt 0).toBitVec = 0#32 := rfl
  rw [e]; simp
/-- a bit by its number -/
def bt_t (a k : Int) : Bool := bt_g a k.toNat
theorem bt_T {k : Int} (h0 : 0 ≤ k) (h1 : k < 31) : lf_and (lf_shr a k) 1 = if bt_t a k = true then 1 else 0 := by
  obtain ⟨n, rfl⟩ := Int.eq_ofNat_of_zero_le h0
  exact bt_tb (by omega)
theorem bt_Tor {k j : Int} (h0 : 0 ≤ k) (h1 : k < 31) (j0 : 0 ≤ j) (j1 : j < 31) : bt_t (lf_or a (lf_shl 1 j)) k = (bt_t a k || decide (k = j)) := by
  obtain ⟨n, rfl⟩ := Int.eq_ofNat_of_zero_le h0
  obtain ⟨m, rfl⟩ := Int.eq_ofNat_of_zero_le j0
  unfold bt_t
  rw [bt_or, Int.toNat_natCast, bt_s1 m (by omega) n (by omega)]
  congr 1
  by_cases e : n = m
  · rw [decide_eq_true e, decide_eq_true (by rw [e])]
  · rw [decide_eq_false e, decide_eq_false (by omega)]
theorem bt_Txor {k j : Int} (h0 : 0 ≤ k) (h1 : k < 31) (j0 : 0 ≤ j) (j1 : j < 31) : bt_t (lf_xor a (lf_shl 1 j)) k = (bt_t a k ^^ decide (k = j)) := by
  obtain ⟨n, rfl⟩ := Int.eq_ofNat_of_zero_le h0
  obtain ⟨m, rfl⟩ := Int.eq_ofNat_of_zero_le j0
  unfold bt_t
  rw [bt_xor, Int.toNat_natCast, bt_s1 m (by omega) n (by omega)]
  congr 1
  by_cases e : n = m
  · rw [decide_eq_true e, decide_eq_true (by rw [e])]
  · rw [decide_eq_false e, decide_eq_false (by omega)]
theorem bt_To0 {k : Int} : bt_t (lf_or a 0) k = bt_t a k := by
  unfold bt_t
  rw [bt_or, bt_0, Bool.or_false]
/-- has of the reference -/
theorem fl_210 {Q : Bool → lf_Z → Prop} {s : lf_Z} (h0 : 0 ≤ b) (h1 : b < 31) (h : Q (bt_t a b) s) : fw_210 a b Q s := by
  unfold fw_210
  rw [bt_T h0 h1]
  cases e : bt_t a b with
  | true =>
    rw [e] at h
    exact ⟨fun q => absurd rfl q, fun _ => h⟩
  | false =>
    rw [e] at h
    exact ⟨fun _ => h, fun q => absurd (show (if false = true then (1 : Int) else 0) ≠ 1 by decide) q⟩
end BT
