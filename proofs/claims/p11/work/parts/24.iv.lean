/-! RANGES AND FRAMES -/
def lf_w (e : Int) : Int := (Int32.ofInt e).toInt
def lf_wl (e : Int) : Int := (Int64.ofInt e).toInt
theorem lf_Rw {a : Int} : lf_R (lf_w a) := lf_R_i _
theorem lf_RLwl {a : Int} : lf_RL (lf_wl a) := lf_RL_i _
theorem lf_wE {a : Int} : Int32.ofInt (lf_w a) = Int32.ofInt a := Int32.ofInt_toInt _
theorem lf_wlE {a : Int} : Int64.ofInt (lf_wl a) = Int64.ofInt a := Int64.ofInt_toInt _
theorem lf_wtI {ro : px_RO} {d k pc : Nat} {lv : px_L} {st : List Value} {s : lf_Z} {Q : Option Value → lf_Z → Prop} {a : Int} (kk : lf_E ro d k pc lv (.int (Int32.ofInt (lf_w a)) :: st) s Q) : lf_E ro d k pc lv (.int (Int32.ofInt a) :: st) s Q := by
  rw [lf_wE] at kk
  exact kk
theorem lf_wtL {ro : px_RO} {d k pc : Nat} {lv : px_L} {st : List Value} {s : lf_Z} {Q : Option Value → lf_Z → Prop} {a : Int} (kk : lf_E ro d k pc lv (.long (Int64.ofInt (lf_wl a)) :: st) s Q) : lf_E ro d k pc lv (.long (Int64.ofInt a) :: st) s Q := by
  rw [lf_wlE] at kk
  exact kk
theorem lf_eqs {ro : px_RO} {d k pc : Nat} {lv lv' : px_L} {st st' : List Value} {s : lf_Z} {Q : Option Value → lf_Z → Prop} (h1 : lv = lv') (h2 : st = st') (kk : lf_E ro d k pc lv' st' s Q) : lf_E ro d k pc lv st s Q := by
  subst h1
  subst h2
  exact kk
theorem lf_invT {k i j n t : Nat} {st rest : List Value} {s : lf_Z} (ht : t < 4) (hc : px_call k i = some (1, j)) (hn : (px_m j).2.2.2.2.2.2.1 = n) (hd : st.drop n = .ref (35 + 7 * t) :: rest) (hm : (px_m j).2.2.1 = 7) : px_inv k (.invokevirtual i) st (lf_H s) = some (j, .ref (35 + 7 * t) :: (st.take n).reverse, rest) := by
  have e : (lf_H s).1[35 + 7 * t]? = some (.inr 7) := lf_scr ht
  unfold px_inv
  simp only [hc, hn, hd, e, hm, lf_scL ht]
  rfl
theorem lf_Rof {a : Int} (h : -2147483648 ≤ a ∧ a ≤ 2147483647) : lf_R a := h
theorem lf_b01 {z : Bool} : 0 ≤ lf_b z ∧ lf_b z ≤ 1 := by cases z <;> exact ⟨by decide, by decide⟩
theorem lf_wB {a : Int} : -2147483648 ≤ lf_w a ∧ lf_w a ≤ 2147483647 := lf_R_i _
theorem lf_mulB {a b p q r u L H : Int} (h1 : p ≤ a ∧ a ≤ q) (h2 : r ≤ b ∧ b ≤ u) (e1 : L ≤ p * r) (e2 : L ≤ p * u) (e3 : L ≤ q * r) (e4 : L ≤ q * u) (f1 : p * r ≤ H) (f2 : p * u ≤ H) (f3 : q * r ≤ H) (f4 : q * u ≤ H) : L ≤ a * b ∧ a * b ≤ H := by
  have lin : ∀ {x y z w m : Int}, x ≤ m → m ≤ y → min (x * z) (y * z) ≤ m * z ∧ m * z ≤ max (x * z) (y * z) := by
    intro x y z w m h1 h2
    rcases Int.le_total 0 z with hz | hz
    · have k1 := Int.mul_le_mul_of_nonneg_right h1 hz
      have k2 := Int.mul_le_mul_of_nonneg_right h2 hz
      omega
    · have k1 := Int.mul_le_mul_of_nonpos_right h1 hz
      have k2 := Int.mul_le_mul_of_nonpos_right h2 hz
      omega
  have k1 := lin (x := p) (y := q) (z := b) (w := 0) h1.1 h1.2
  have k2 := lin (x := r) (y := u) (z := p) (w := 0) h2.1 h2.2
  have k3 := lin (x := r) (y := u) (z := q) (w := 0) h2.1 h2.2
  rw [Int.mul_comm r p, Int.mul_comm u p, Int.mul_comm b p] at k2
  rw [Int.mul_comm r q, Int.mul_comm u q, Int.mul_comm b q] at k3
  omega
theorem lf_orB {a b : Int} : -2147483648 ≤ lf_or a b ∧ lf_or a b ≤ 2147483647 := lf_R_i _
theorem lf_xorB {a b : Int} : -2147483648 ≤ lf_xor a b ∧ lf_xor a b ≤ 2147483647 := lf_R_i _
theorem lf_shlB {a b : Int} : -2147483648 ≤ lf_shl a b ∧ lf_shl a b ≤ 2147483647 := lf_R_i _
theorem lf_shrB {a b : Int} : -2147483648 ≤ lf_shr a b ∧ lf_shr a b ≤ 2147483647 := lf_R_i _
theorem lf_ushrB {a b : Int} : -2147483648 ≤ lf_ushr a b ∧ lf_ushr a b ≤ 2147483647 := lf_R_i _
theorem lf_bvP {n : Nat} (h : n < 2147483648) : (BitVec.ofNat 32 n).toInt = (n : Int) := by
  rw [BitVec.toInt_eq_toNat_of_lt (by rw [BitVec.toNat_ofNat]; omega), BitVec.toNat_ofNat, Nat.mod_eq_of_lt (by omega)]
theorem lf_oiN {b : Int} (h0 : 0 ≤ b) (h1 : b ≤ 2147483647) : (Int32.ofInt b).toBitVec.toNat = b.toNat := by
  have e : (Int32.ofInt b).toBitVec = BitVec.ofInt 32 b := rfl
  rw [e, BitVec.toNat_ofInt]
  omega
theorem lf_toN {x : Int32} (h : x.toBitVec.toNat < 2147483648) : x.toInt = (x.toBitVec.toNat : Int) := by
  show x.toBitVec.toInt = _
  exact BitVec.toInt_eq_toNat_of_lt (by omega)
theorem lf_andR {a b : Int} (h0 : 0 ≤ b) (h1 : b ≤ 2147483647) : 0 ≤ lf_and a b ∧ lf_and a b ≤ b := by
  unfold lf_and
  have e : (Int32.ofInt a &&& Int32.ofInt b).toBitVec.toNat = (Int32.ofInt a).toBitVec.toNat &&& (Int32.ofInt b).toBitVec.toNat := BitVec.toNat_and _ _
  have l : (Int32.ofInt a &&& Int32.ofInt b).toBitVec.toNat ≤ b.toNat := by
    rw [e, lf_oiN h0 h1]
    exact Nat.and_le_right
  rw [lf_toN (by omega)]
  omega
theorem lf_andB {a b m : Int} (h0 : 0 ≤ b) (h1 : b ≤ m ∧ m ≤ 2147483647) : 0 ≤ lf_and a b ∧ lf_and a b ≤ m := by
  have := lf_andR (a := a) h0 (by omega)
  omega
theorem lf_andBl {a b m : Int} (h0 : 0 ≤ a) (h1 : a ≤ m ∧ m ≤ 2147483647) : 0 ≤ lf_and a b ∧ lf_and a b ≤ m := by
  have := lf_andR (a := b) (b := a) h0 (by omega)
  have e : lf_and a b = lf_and b a := by unfold lf_and; rw [Int32.and_comm]
  rw [e]
  omega
theorem lf_shrP {a b m : Int} (h0 : 0 ≤ a) (h1 : a ≤ m ∧ m ≤ 2147483647) : 0 ≤ lf_shr a b ∧ lf_shr a b ≤ m := by
  unfold lf_shr
  have e : (Int32.ofInt a >>> (Int32.ofInt b &&& 31)).toBitVec = (Int32.ofInt a).toBitVec.sshiftRight' ((Int32.ofInt b &&& 31).toBitVec.smod 32) := rfl
  have f : (Int32.ofInt a >>> (Int32.ofInt b &&& 31)).toInt = ((Int32.ofInt a).toBitVec.sshiftRight' ((Int32.ofInt b &&& 31).toBitVec.smod 32)).toInt := by rw [← e]; rfl
  rw [f, BitVec.sshiftRight', BitVec.toInt_sshiftRight]
  have g : (Int32.ofInt a).toBitVec.toInt = a := Int32.toInt_ofInt_of_le (by omega) (by omega)
  rw [g, Int.shiftRight_eq_div_pow]
  have p : (0 : Int) < ((2 : Nat) ^ ((Int32.ofInt b &&& 31).toBitVec.smod 32).toNat : Nat) := by exact_mod_cast Nat.two_pow_pos _
  constructor
  · exact Int.ediv_nonneg h0 (Int.le_of_lt p)
  · exact Int.le_trans (Int.ediv_le_self _ h0) h1.1
theorem lf_shl1N {k : Nat} (h : k ≤ 30) : lf_shl 1 (k : Int) = ((2 ^ k : Nat) : Int) := by
  have : ∀ k : Fin 31, lf_shl 1 (k.val : Int) = ((2 ^ k.val : Nat) : Int) := by decide +kernel
  exact this ⟨k, by omega⟩
theorem lf_shl1 {b H : Int} {m : Nat} (h0 : 0 ≤ b) (h1 : b ≤ m) (h2 : m ≤ 30 ∧ ((2 ^ m : Nat) : Int) ≤ H) : 1 ≤ lf_shl 1 b ∧ lf_shl 1 b ≤ H := by
  obtain ⟨k, rfl⟩ := Int.eq_ofNat_of_zero_le h0
  rw [lf_shl1N (by omega)]
  have p1 : 1 ≤ 2 ^ k := Nat.one_le_two_pow
  have p2 : 2 ^ k ≤ 2 ^ m := Nat.pow_le_pow_right (by decide) (by omega)
  omega
theorem lf_ushrP {a b m : Int} (h0 : 0 ≤ a) (h1 : a ≤ m ∧ m ≤ 2147483647) : 0 ≤ lf_ushr a b ∧ lf_ushr a b ≤ m := by
  unfold lf_ushr
  have e : ((Int32.ofInt a).toUInt32 >>> ((Int32.ofInt b).toUInt32 &&& Int32.toUInt32 31)).toInt32.toBitVec.toNat ≤ a.toNat := by
    show ((Int32.ofInt a).toUInt32 >>> ((Int32.ofInt b).toUInt32 &&& Int32.toUInt32 31)).toNat ≤ a.toNat
    rw [UInt32.toNat_shiftRight]
    have g : (Int32.ofInt a).toUInt32.toNat = a.toNat := lf_oiN h0 (by omega)
    rw [g]
    exact Nat.shiftRight_le _ _
  rw [lf_toN (by omega)]
  omega
theorem lf_tdivB {a c p q L H : Int} (h1 : p ≤ a) (h2 : a ≤ q) (hc : 0 < c) (hL : L = p.tdiv c) (hH : H = q.tdiv c) : L ≤ a.tdiv c ∧ a.tdiv c ≤ H := by
  subst hL
  subst hH
  exact ⟨Int.tdiv_le_tdiv hc h1, Int.tdiv_le_tdiv hc h2⟩
theorem lf_tdivM {a b m : Int} (h1 : -m ≤ a) (h2 : a ≤ m) : -m ≤ a.tdiv b ∧ a.tdiv b ≤ m := by
  have h := Int.natAbs_tdiv a b
  have k : (a.tdiv b).natAbs ≤ a.natAbs := by rw [h]; exact Nat.div_le_self _ _
  omega
theorem lf_tmodP {a b m : Int} (h1 : 0 ≤ a) (h2 : 0 < b) (h3 : b ≤ m + 1) : 0 ≤ a.tmod b ∧ a.tmod b ≤ m := by
  have k1 := Int.tmod_nonneg b h1
  have k2 := Int.tmod_lt_of_pos a h2
  omega
theorem lf_tmodM {a b m : Int} (h2 : 0 < b) (h3 : b ≤ m + 1) : -m ≤ a.tmod b ∧ a.tmod b ≤ m := by
  have k2 := Int.tmod_lt_of_pos a h2
  have k1 := Int.tmod_lt_of_pos (-a) h2
  rw [Int.neg_tmod] at k1
  omega
theorem lf_tmS {x c : Int} (hc : 0 < c) : x.tdiv c ≤ 0 ∨ 0 ≤ x.tmod c := by
  rcases Int.le_total 0 x with h | h
  · exact Or.inr (Int.tmod_nonneg c h)
  · refine Or.inl ?_
    have k := Int.tdiv_nonneg (a := -x) (b := c) (by omega) (Int.le_of_lt hc)
    rw [Int.neg_tdiv] at k
    omega
theorem lf_up_c {f : Nat → Int → Int} {c a : Nat} {i v b : Int} (h : a ≠ c) : lf_up f c i v a b = f a b := by unfold lf_up; rw [if_neg h]
theorem lf_up_i {f : Nat → Int → Int} {c : Nat} {i v b : Int} (h : b ≠ i) : lf_up f c i v c b = f c b := by unfold lf_up; rw [if_pos rfl, if_neg h]
theorem lf_up_s {f : Nat → Int → Int} {c : Nat} {i v : Int} : lf_up f c i v c i = v := by unfold lf_up; rw [if_pos rfl, if_pos rfl]
theorem lf_cp_c {f : Nat → Int → Int} {x y a : Nat} {p q n b : Int} (h : a ≠ y) : lf_cp f x y p q n a b = f a b := by unfold lf_cp; rw [if_neg (fun h9 => h h9.1)]
theorem lf_fl_c {f : Nat → Int → Int} {c a : Nat} {n v b : Int} (h : a ≠ c) : lf_fl f c n v a b = f a b := by unfold lf_fl; rw [if_neg (fun h9 => h h9.1)]
theorem lf_pt {P : Prop} (h : P) : (true = true → P) ∧ (true = false → ¬ P) := ⟨fun _ => h, fun h => by cases h⟩
theorem lf_pf {P : Prop} (h : ¬ P) : (false = true → P) ∧ (false = false → ¬ P) := ⟨fun h => (by cases h), fun _ => h⟩
theorem lf_lall {l : List Int32} {m : Int} (h : l.all (fun x => decide (0 ≤ x.toInt) && decide (x.toInt ≤ m)) = true) (hm : 0 ≤ m) (j : Nat) : 0 ≤ (l.getD j 0).toInt ∧ (l.getD j 0).toInt ≤ m := by
  by_cases hj : j < l.length
  · rw [List.getD_eq_getElem?_getD, List.getElem?_eq_getElem hj]
    have := List.all_eq_true.mp h _ (List.getElem_mem hj)
    simpa using this
  · rw [List.getD_eq_getElem?_getD, List.getElem?_eq_none (by omega)]
    exact ⟨by decide, hm⟩
theorem lf_px_shB {j : Nat} : 0 ≤ (px_sh j).toInt ∧ (px_sh j).toInt ≤ 99 := lf_lall (l := px_shL) (by decide) (by decide) j
theorem lf_px_lwB {j : Nat} : 0 ≤ (px_lw j).toInt ∧ (px_lw j).toInt ≤ 99 := lf_lall (l := px_lwL) (by decide) (by decide) j
theorem lf_le2 {a b v p q : Int} (h : a ≤ p ∧ q ≤ b) (h2 : p ≤ v ∧ v ≤ q) : a ≤ v ∧ v ≤ b := ⟨Int.le_trans h.1 h2.1, Int.le_trans h2.2 h.2⟩
def iv_F : Int → Int × Int := fun _ => (-2147483648, 2147483647)
def iv_a (i : Int) : Int × Int := if i < 14 then (if i = 0 then (0, 12) else if i = 1 then (0, 16) else if i = 2 then (0, 6) else if i = 6 then (0, 30202) else if i = 7 then (0, 4) else if i = 8 then (-1, 3) else if i = 9 then (0, 30) else if i = 10 then (0, 6) else if i = 11 then (0, 12) else (-2147483648, 2147483647)) else if i < 50 then (if (i - 14) % 3 = 0 then (0, 3) else if (i - 14) % 3 = 1 then (0, 99) else (-2147483648, 2147483647)) else if i < 114 then (if (i - 50) % 4 ≤ 1 then (0, 11) else (-2147483648, 2147483647)) else if i < 126 then (if (i - 114) % 3 = 0 then (0, 24) else if (i - 114) % 3 = 1 then (0, 11) else (-1, 11)) else if i < 162 then (if (i - 126) % 6 = 1 then (0, 1) else if (i - 126) % 6 = 3 then (0, 11) else if (i - 126) % 6 = 4 then (-1, 11) else if (i - 126) % 6 = 5 then (0, 11) else (-2147483648, 2147483647)) else if i < 174 then (if (i - 162) % 2 = 0 then (0, 11) else (-2147483648, 2147483647)) else if i < 278 then (-2147483648, 2147483647) else if i < 1538 then (if (i - 278) % 42 = 4 then (0, 30202) else if (i - 278) % 42 < 5 then (-2147483648, 2147483647) else if (i - 278) % 42 < 17 then (if ((i - 278) % 42 - 5) % 3 = 0 then (0, 24) else if ((i - 278) % 42 - 5) % 3 = 1 then (0, 11) else (-1, 11)) else if (i - 278) % 42 < 29 then (if ((i - 278) % 42 - 17) % 2 = 0 then (0, 11) else (-1, 11)) else (-2147483648, 2147483647)) else (-2147483648, 2147483647)
def iv_s (i : Int) : Int × Int := if 0 ≤ i ∧ i < 1170 then (if i % 39 < 12 then (if i % 39 % 3 = 0 then (-2147483648, 2147483647) else (-1, 11)) else (-2147483648, 2147483647)) else (-2147483648, 2147483647)
def iv_x (i : Int) : Int × Int := if 0 ≤ i ∧ i < 2820 ∧ i % 705 = 0 then (0, 24) else (-2147483648, 2147483647)
def iv_T : List (Int → Int × Int) := [(fun i => if i = 11 then (0, 4) else if i = 12 then (-1, 3) else (-2147483648, 2147483647)), (fun i => if i = 0 then (0, 12) else if i = 1 then (0, 16) else if i = 2 then (0, 6) else (-2147483648, 2147483647)), (fun _ => (0, 3)), (fun _ => (0, 99)), (fun _ => (0, 11)), (fun _ => (0, 11)), (fun _ => (0, 1)), (fun _ => (0, 9)), (fun _ => (0, 1)), (fun _ => (0, 1)), (fun _ => (0, 11)), (fun _ => (0, 15)), (fun _ => (0, 4)), (fun _ => (0, 1000)), (fun _ => (0, 1000)), iv_F, iv_F, (fun _ => (-1, 11)), (fun _ => (-1, 11)), iv_F, iv_F, iv_F, (fun i => if i = 2 then (0, 29) else if i = 3 then (0, 30) else (-2147483648, 2147483647)), iv_s, (fun _ => (0, 6)), (fun i => if i = 2 then (0, 6) else (-2147483648, 2147483647)), iv_F, iv_F, iv_F, iv_F, iv_F, (fun i => if i = 1 then (0, 300) else if i = 6 then (0, 2) else if i = 7 then (0, 300) else if i = 8 then (0, 300) else if i = 9 then (0, 300) else (-2147483648, 2147483647)), (fun _ => (0, 255)), (fun _ => (-1, 7)), iv_F, (fun i => if i = 1 then (0, 300) else if i = 7 then (0, 24) else (-2147483648, 2147483647)), iv_F, iv_F, iv_F, iv_F, iv_F, iv_F, (fun i => if i = 1 then (0, 300) else if i = 7 then (0, 24) else (-2147483648, 2147483647)), iv_F, iv_F, iv_F, iv_F, iv_F, iv_F, (fun i => if i = 1 then (0, 300) else if i = 7 then (0, 24) else (-2147483648, 2147483647)), iv_F, iv_F, iv_F, iv_F, iv_F, iv_F, (fun i => if i = 1 then (0, 300) else if i = 7 then (0, 24) else (-2147483648, 2147483647)), iv_F, iv_F, iv_F, iv_F, iv_F, iv_F, (fun i => if i = 6 then (0, 300) else (-2147483648, 2147483647)), iv_F, iv_F, iv_F, iv_F, iv_F, iv_F, (fun _ => (0, 155)), iv_F, iv_F, iv_F, (fun i => if i = 5 then (0, 6) else (-2147483648, 2147483647)), iv_F, (fun _ => (0, 5)), (fun _ => (0, 5)), (fun i => if i = 0 then (0, 12) else if i = 1 then (0, 16) else if i = 2 then (0, 6) else if i = 3 then (0, 4) else if i = 4 then (-1, 3) else (-2147483648, 2147483647)), iv_F, iv_F, (fun _ => (-1, 11)), (fun _ => (-1, 11)), iv_F, iv_F, iv_F, (fun i => if i = 2 then (0, 29) else if i = 3 then (0, 30) else (-2147483648, 2147483647)), iv_s, (fun _ => (0, 6)), (fun i => if i = 2 then (0, 6) else (-2147483648, 2147483647)), iv_F, iv_F, iv_F, iv_F, iv_F, (fun i => if i = 4 then (0, 300) else if i = 7 then (0, 300) else if i = 8 then (0, 300) else if i = 12 then (0, 2115) else if i = 13 then (0, 304) else if i = 14 then (0, 12) else if i = 19 then (0, 160) else if i = 20 then (0, 8) else if i = 21 then (0, 8) else if i = 22 then (0, 80) else if i = 23 then (0, 1) else (-2147483648, 2147483647)), iv_a, iv_a, iv_x, (fun _ => (0, 255)), (fun _ => (0, 45)), (fun _ => (0, 25)), (fun _ => (-1, 79)), (fun _ => (-1, 79)), iv_F, iv_F, iv_F, (fun _ => (0, 1)), (fun _ => (0, 1000)), iv_F, iv_F, (fun _ => (0, 1)), (fun _ => (0, 155)), (fun _ => (0, 5)), (fun _ => (0, 11)), (fun _ => (0, 1000)), (fun _ => (0, 5)), (fun _ => (0, 5)), (fun _ => (0, 3)), (fun _ => (0, 1000))]
def iv_B (c : Nat) : Int → Int × Int := iv_T.getD c iv_F
def iv_in (r : Int × Int) : Prop := -2147483648 ≤ r.1 ∧ r.2 ≤ 2147483647
theorem iv_ite {p : Prop} {hp : Decidable p} {a b : Int × Int} (ha : a.1 ≥ -2147483648 ∧ a.2 ≤ 2147483647) (hb : b.1 ≥ -2147483648 ∧ b.2 ≤ 2147483647) : (@ite (Int × Int) p hp a b).1 ≥ -2147483648 ∧ (@ite (Int × Int) p hp a b).2 ≤ 2147483647 := by
  by_cases h : p
  · rw [if_pos h]; exact ha
  · rw [if_neg h]; exact hb
theorem iv_itR {p : Prop} {hp : Decidable p} {a b : Int × Int} {L H : Int} (ha : p → L ≤ a.1 ∧ a.2 ≤ H) (hb : ¬ p → L ≤ b.1 ∧ b.2 ≤ H) : L ≤ (@ite (Int × Int) p hp a b).1 ∧ (@ite (Int × Int) p hp a b).2 ≤ H := by
  by_cases h : p
  · rw [if_pos h]; exact ha h
  · rw [if_neg h]; exact hb h
theorem iv_itW {p : Prop} {hp : Decidable p} {a b : Int × Int} {L H : Int} (ha : p → a.1 ≤ L ∧ H ≤ a.2) (hb : ¬ p → b.1 ≤ L ∧ H ≤ b.2) : (@ite (Int × Int) p hp a b).1 ≤ L ∧ H ≤ (@ite (Int × Int) p hp a b).2 := by
  by_cases h : p
  · rw [if_pos h]; exact ha h
  · rw [if_neg h]; exact hb h
theorem iv_a_F (i : Int) : (iv_a i).1 ≥ -2147483648 ∧ (iv_a i).2 ≤ 2147483647 := by
  unfold iv_a
  repeat' refine iv_ite ?_ ?_
  all_goals exact ⟨by decide, by decide⟩
theorem iv_s_F (i : Int) : (iv_s i).1 ≥ -2147483648 ∧ (iv_s i).2 ≤ 2147483647 := by
  unfold iv_s
  repeat' refine iv_ite ?_ ?_
  all_goals exact ⟨by decide, by decide⟩
theorem iv_x_F (i : Int) : (iv_x i).1 ≥ -2147483648 ∧ (iv_x i).2 ≤ 2147483647 := by
  unfold iv_x
  repeat' refine iv_ite ?_ ?_
  all_goals exact ⟨by decide, by decide⟩
theorem iv_TF : ∀ f ∈ iv_T, ∀ i : Int, (f i).1 ≥ -2147483648 ∧ (f i).2 ≤ 2147483647 := by
  unfold iv_T
  repeat' refine List.forall_mem_cons.mpr ⟨?_, ?_⟩
  all_goals first | (intro f hf; cases hf; done) | exact iv_a_F | exact iv_s_F | exact iv_x_F | (intro i; unfold iv_F; exact ⟨by decide, by decide⟩) | (intro i; dsimp only; exact ⟨by decide, by decide⟩) | (intro i; dsimp only; repeat' refine iv_ite ?_ ?_) <;> exact ⟨by decide, by decide⟩
theorem iv_BF (c : Nat) (i : Int) : (iv_B c i).1 ≥ -2147483648 ∧ (iv_B c i).2 ≤ 2147483647 := by
  unfold iv_B
  rw [List.getD_eq_getElem?_getD]
  cases h : iv_T[c]? with
  | none => show (-2147483648 : Int) ≥ -2147483648 ∧ (2147483647 : Int) ≤ 2147483647; exact ⟨by decide, by decide⟩
  | some f => exact iv_TF f (List.mem_of_getElem? h) i
def iv_I (I : Nat → Int → Int) : Prop := ∀ c i, (iv_B c i).1 ≤ I c i ∧ I c i ≤ (iv_B c i).2
def iv_P (P : Nat → Option Nat) : Prop := (∃ w, P 0 = some w ∧ (w = 72 ∨ w = 73)) ∧ (∃ w, P 1 = some w ∧ (w = 72 ∨ w = 73)) ∧ (∀ t, P 2 = some t → t < 4) ∧ (∀ t, P 3 = some t → t < 4)
def iv_sq (I : Nat → Int → Int) (a b : Nat) : Prop := ∀ j : Int, 0 ≤ j → j < 4 → I a j ≤ 0 ∨ 0 ≤ I b j
def iv_sr (I : Nat → Int → Int) (a : Nat) : Prop := ∀ r j : Int, 0 ≤ j → j < 4 → I a (39 * r + 3 * j) ≤ 0 ∨ 0 ≤ I a (39 * r + 3 * j + 1)
/-! the code of a clause of a text: what each order does to the depths, and where it is safe -/
def wk_dn (o : Int) : Int := if o ≤ 1 then 1 else if o = 31 then 1 else if o = 2 then -1 else if o = 30 then -1 else if o = 3 then 0 else if o < 10 then -1 else if o < 20 then -2 else 0
def wk_dt (o : Int) : Int := if o ≤ 1 then 0 else if o = 31 then 0 else if o = 2 then -1 else if o = 30 then 0 else if o = 3 then 0 else if o < 10 then 0 else if o < 20 then 1 else if o = 20 then 0 else -1
def wk_sf (o v n t : Int) : Prop := (o ≤ 1 ∨ o = 31 → o = 0 ∨ (o = 1 ∧ 0 ≤ v ∧ v < 11) ∨ (o ≠ 1 ∧ 0 ≤ v ∧ v < 80)) ∧ (o = 2 → 2 ≤ n ∧ 1 ≤ t) ∧ (o = 30 → 1 ≤ n ∧ 0 ≤ v ∧ v < 80) ∧ (o = 3 → 1 ≤ n) ∧ (4 ≤ o ∧ o < 20 → 2 ≤ n) ∧ (o = 20 → 1 ≤ t) ∧ (21 ≤ o ∧ o ≠ 30 ∧ o ≠ 31 → 2 ≤ t)
def wk_n (f : Int → Int) (b st : Int) : Nat → Int
  | 0 => 0
  | m + 1 => wk_n f b st m + wk_dn (f (b + 2 * (st + m)))
def wk_t (f : Int → Int) (b st : Int) : Nat → Int
  | 0 => 0
  | m + 1 => wk_t f b st m + wk_dt (f (b + 2 * (st + m)))
def wk_ok (f : Int → Int) (b st : Int) (m : Nat) : Prop := ∀ j : Nat, j < m → wk_sf (f (b + 2 * (st + j))) (f (b + 2 * (st + j) + 1)) (wk_n f b st j) (wk_t f b st j)
def wk_O (f : Int → Int) (x b : Int) : Prop := 0 ≤ f (x + 1) ∧ f (x + 1) ≤ f (x + 2) ∧ f (x + 2) ≤ 304 ∧ wk_ok f b (f (x + 1)) (f (x + 2) - f (x + 1)).toNat
def wk_T (f : Int → Int) : Prop := ∀ t k : Int, 0 ≤ t → t < 4 → 0 ≤ k → k < f (705 * t) → 0 ≤ f (705 * t + 1 + 4 * k) → f (705 * t + 1 + 4 * k) ≤ 2 → wk_O f (705 * t + 1 + 4 * k) (705 * t + 97)
/-- ways end at stretches that there are -/
def iv_ep (f : Int → Int) : Prop := ∀ w : Int, 0 ≤ w → w < 16 → w < f 1 → f (50 + 4 * w) < f 0 ∧ f (50 + 4 * w + 1) < f 0
def iv_S (I : Nat → Int → Int) : Prop := iv_sq I 16 17 ∧ iv_sq I 80 81 ∧ iv_sr I 23 ∧ iv_sr I 87 ∧ wk_T (I 98)
/-- no more than 24 beasts, now and in what is kept -/
def iv_s4 (f : Int → Int) (b : Int) : Prop := f b + f (b + 3) + f (b + 6) + f (b + 9) ≤ 24
def iv_sz (f : Int → Int) : Prop := iv_s4 f 114 ∧ ∀ r : Int, 0 ≤ r → r < f 9 → iv_s4 f (278 + 42 * r + 5)
def iv_l (I : Nat → Int → Int) (c : Nat) : Prop := (0 < I c 1 ∨ 0 < I c 2 → 0 < I c 0) ∧ iv_ep (I c) ∧ iv_sz (I c)
def iv_A (I : Nat → Int → Int) (P : Nat → Option Nat) : Prop := iv_I I ∧ iv_P P ∧ iv_S I ∧ iv_l I 96 ∧ iv_l I 97
section IVA
variable {I : Nat → Int → Int} {P : Nat → Option Nat} {c c0 c1 : Nat} {i v : Int}
theorem iv_full (h : iv_A I P) : -2147483648 ≤ I c i ∧ I c i ≤ 2147483647 := ⟨Int.le_trans (iv_BF c i).1 (h.1 c i).1, Int.le_trans (h.1 c i).2 (iv_BF c i).2⟩
theorem iv_up (h : iv_I I) (hv : (iv_B c i).1 ≤ v ∧ v ≤ (iv_B c i).2) : iv_I (lf_up I c i v) := by
  intro a b
  unfold lf_up
  by_cases ha : a = c
  · subst ha
    rw [if_pos rfl]
    by_cases hb : b = i
    · subst hb; rw [if_pos rfl]; exact hv
    · rw [if_neg hb]; exact h a b
  · rw [if_neg ha]; exact h a b
/-- the other side of a way, as the reference has it, and as the class has it -/
def iv_os (A : Int → Int) (w s : Int) : Int := if A (50 + 4 * w) = s then A (50 + 4 * w + 1) else if A (50 + 4 * w + 1) = s then A (50 + 4 * w) else -1
def iv_od (n : Int) (A B : Int → Int) (w s : Int) : Int := if 0 ≤ w ∧ w < n then (if A w = s then B w else if B w = s then A w else -1) else -1
def iv_fr8 (c : Nat) : Bool := !([16, 17, 80, 81, 23, 87, 96, 97, 98].contains c)
theorem iv_fr8e (hc : iv_fr8 c = true) : 16 ≠ c ∧ 17 ≠ c ∧ 80 ≠ c ∧ 81 ≠ c ∧ 23 ≠ c ∧ 87 ≠ c ∧ 96 ≠ c ∧ 97 ≠ c ∧ 98 ≠ c := by
  refine ⟨?_, ?_, ?_, ?_, ?_, ?_, ?_, ?_, ?_⟩ <;> (intro h; subst h; cases hc)
theorem iv_Sc {J : Nat → Int → Int} (h : iv_S I) (e16 : J 16 = I 16) (e17 : J 17 = I 17) (e80 : J 80 = I 80) (e81 : J 81 = I 81) (e23 : J 23 = I 23) (e87 : J 87 = I 87) (e98 : J 98 = I 98) : iv_S J := by
  unfold iv_S iv_sq iv_sr at *
  rw [e16, e17, e80, e81, e23, e87, e98]
  exact h
theorem lf_up_row {f : Nat → Int → Int} {a : Nat} (h : a ≠ c) : lf_up f c i v a = f a := by
  funext b
  exact lf_up_c h
theorem iv_wr (h : iv_A I P) (hc : iv_fr8 c = true) (hv : (iv_B c i).1 ≤ v ∧ v ≤ (iv_B c i).2) : iv_A (lf_up I c i v) P := by
  obtain ⟨a1, a2, a3, a4, a5, a6, a7, a8, a9⟩ := iv_fr8e hc
  refine ⟨iv_up h.1 hv, h.2.1, iv_Sc h.2.2.1 (lf_up_row a1) (lf_up_row a2) (lf_up_row a3) (lf_up_row a4) (lf_up_row a5) (lf_up_row a6) (lf_up_row a9), ?_, ?_⟩
  · unfold iv_l; rw [lf_up_row a7]; exact h.2.2.2.1
  · unfold iv_l; rw [lf_up_row a8]; exact h.2.2.2.2
theorem iv_w96' (h : iv_A I P) (hv : (iv_B 96 i).1 ≤ v ∧ v ≤ (iv_B 96 i).2) (hr : i < 3 ∨ i = 9 ∨ (50 ≤ i ∧ i < 114 ∧ (i - 50) % 4 < 2) ∨ i = 114 ∨ i = 117 ∨ i = 120 ∨ i = 123 ∨ (278 ≤ i ∧ i < 278 + 42 * I 96 9) → iv_l (lf_up I 96 i v) 96) : iv_A (lf_up I 96 i v) P := by
  refine ⟨iv_up h.1 hv, h.2.1, iv_Sc h.2.2.1 (lf_up_row (by decide)) (lf_up_row (by decide)) (lf_up_row (by decide)) (lf_up_row (by decide)) (lf_up_row (by decide)) (lf_up_row (by decide)) (lf_up_row (by decide)), ?_, ?_⟩
  · by_cases hi : i < 3 ∨ i = 9 ∨ (50 ≤ i ∧ i < 114 ∧ (i - 50) % 4 < 2) ∨ i = 114 ∨ i = 117 ∨ i = 120 ∨ i = 123 ∨ (278 ≤ i ∧ i < 278 + 42 * I 96 9)
    · exact hr hi
    · refine ⟨?_, ?_, ?_, ?_⟩
      · rw [lf_up_i (by omega), lf_up_i (by omega), lf_up_i (by omega)]; exact h.2.2.2.1.1
      · intro w h0 h1 h2
        rw [lf_up_i (by omega)] at h2
        rw [lf_up_i (by omega), lf_up_i (by omega), lf_up_i (by omega)]
        exact h.2.2.2.1.2.1 w h0 h1 h2
      · unfold iv_s4
        rw [lf_up_i (by omega), lf_up_i (by omega), lf_up_i (by omega), lf_up_i (by omega)]
        exact h.2.2.2.1.2.2.1
      · intro r h0 h1
        rw [lf_up_i (by omega)] at h1
        unfold iv_s4
        rw [lf_up_i (by omega), lf_up_i (by omega), lf_up_i (by omega), lf_up_i (by omega)]
        exact h.2.2.2.1.2.2.2 r h0 h1
  · unfold iv_l; rw [lf_up_row (by decide)]; exact h.2.2.2.2
theorem iv_szc {f f' : Int → Int} (h : iv_sz f) (e9 : f' 9 ≤ f 9) (e : ∀ j : Int, 114 ≤ j → j < 126 ∨ 278 ≤ j → f' j = f j) : iv_sz f' := by
  refine ⟨?_, fun r h0 h1 => ?_⟩
  · unfold iv_s4
    rw [e _ (by omega) (by omega), e _ (by omega) (by omega), e _ (by omega) (by omega), e _ (by omega) (by omega)]
    exact h.1
  · unfold iv_s4
    rw [e _ (by omega) (by omega), e _ (by omega) (by omega), e _ (by omega) (by omega), e _ (by omega) (by omega)]
    exact h.2 r h0 (by omega)
theorem iv_szu (h : iv_A I P) (hi : i < 114) (h9 : i ≠ 9) : iv_sz (lf_up I 96 i v 96) := iv_szc h.2.2.2.1.2.2 (by rw [lf_up_i (by omega)]; exact Int.le_refl _) (fun j a b => lf_up_i (by omega))
theorem iv_rel0 (h : iv_A I P) (hv : 0 < v ∧ I 96 0 ≤ v) : iv_l (lf_up I 96 0 v) 96 := by
  refine ⟨fun _ => by rw [lf_up_s]; exact hv.1, fun w h0 h1 h2 => ?_, iv_szu h (by decide) (by decide)⟩
  rw [lf_up_i (by decide)] at h2
  have e1 : lf_up I 96 0 v 96 (50 + 4 * w) = I 96 (50 + 4 * w) := lf_up_i (by omega)
  have e2 : lf_up I 96 0 v 96 (50 + 4 * w + 1) = I 96 (50 + 4 * w + 1) := lf_up_i (by omega)
  rw [e1, e2, lf_up_s]
  have := h.2.2.2.1.2.1 w h0 h1 h2
  omega
theorem iv_rel1 (h : iv_A I P) (hv : 0 < I 96 0) (hw : v ≤ I 96 1 + 1) (e1 : I 96 (50 + 4 * I 96 1) < I 96 0) (e2 : I 96 (50 + 4 * I 96 1 + 1) < I 96 0) : iv_l (lf_up I 96 1 v) 96 := by
  have hn : 0 ≤ I 96 1 := (h.1 96 1).1
  refine ⟨fun _ => by rw [lf_up_i (by decide)]; exact hv, fun w h0 h1 h2 => ?_, iv_szu h (by decide) (by decide)⟩
  rw [lf_up_s] at h2
  rw [lf_up_i (by omega), lf_up_i (by omega), lf_up_i (by omega)]
  by_cases hq : w = I 96 1
  · rw [hq]; exact ⟨e1, e2⟩
  · exact h.2.2.2.1.2.1 w h0 h1 (by omega)
theorem iv_rel2 (h : iv_A I P) (hv : 0 < I 96 0) : iv_l (lf_up I 96 2 v) 96 := by
  refine ⟨fun _ => by rw [lf_up_i (by decide)]; exact hv, fun w h0 h1 h2 => ?_, iv_szu h (by decide) (by decide)⟩
  rw [lf_up_i (by omega)] at h2
  rw [lf_up_i (by omega), lf_up_i (by omega), lf_up_i (by omega)]
  exact h.2.2.2.1.2.1 w h0 h1 h2
theorem iv_relw (h : iv_A I P) (hi : 50 + 4 * I 96 1 ≤ i ∧ i < 114) : iv_l (lf_up I 96 i v) 96 := by
  have hn : 0 ≤ I 96 1 := (h.1 96 1).1
  refine ⟨?_, fun w h0 h1 h2 => ?_, iv_szu h (by omega) (by omega)⟩
  · rw [lf_up_i (by omega), lf_up_i (by omega), lf_up_i (by omega)]; exact h.2.2.2.1.1
  · rw [lf_up_i (by omega)] at h2
    rw [lf_up_i (by omega), lf_up_i (by omega), lf_up_i (by omega)]
    exact h.2.2.2.1.2.1 w h0 h1 h2
theorem iv_rlo (h : iv_A I P) (hi : 3 ≤ i) (hi2 : i < 50 ∨ 114 ≤ i) : (0 < lf_up I 96 i v 96 1 ∨ 0 < lf_up I 96 i v 96 2 → 0 < lf_up I 96 i v 96 0) ∧ iv_ep (lf_up I 96 i v 96) := by
  refine ⟨?_, fun w h0 h1 h2 => ?_⟩
  · rw [lf_up_i (by omega), lf_up_i (by omega), lf_up_i (by omega)]; exact h.2.2.2.1.1
  · rw [lf_up_i (by omega)] at h2
    rw [lf_up_i (by omega), lf_up_i (by omega), lf_up_i (by omega)]
    exact h.2.2.2.1.2.1 w h0 h1 h2
theorem iv_rel9 (h : iv_A I P) (hv : v ≤ I 96 9) : iv_l (lf_up I 96 9 v) 96 := by
  have a := iv_rlo (v := v) h (i := 9) (by decide) (by decide)
  exact ⟨a.1, a.2, iv_szc h.2.2.2.1.2.2 (by rw [lf_up_s]; exact hv) (fun j a b => lf_up_i (by omega))⟩
theorem iv_rel9u (h : iv_A I P) (hv : v ≤ I 96 9 + 1) (hs : iv_s4 (I 96) (278 + 42 * I 96 9 + 5)) : iv_l (lf_up I 96 9 v) 96 := by
  have a := iv_rlo (v := v) h (i := 9) (by decide) (by decide)
  have hn : 0 ≤ I 96 9 := (h.1 96 9).1
  refine ⟨a.1, a.2, ?_, fun r h0 h1 => ?_⟩
  · unfold iv_s4
    rw [lf_up_i (by omega), lf_up_i (by omega), lf_up_i (by omega), lf_up_i (by omega)]
    exact h.2.2.2.1.2.2.1
  · rw [lf_up_s] at h1
    unfold iv_s4
    rw [lf_up_i (by omega), lf_up_i (by omega), lf_up_i (by omega), lf_up_i (by omega)]
    by_cases hq : r = I 96 9
    · rw [hq]; exact hs
    · exact h.2.2.2.1.2.2.2 r h0 (by omega)
theorem iv_szA (h : iv_A I P) : I 96 114 + I 96 117 + I 96 120 + I 96 123 ≤ 24 := h.2.2.2.1.2.2.1
theorem iv_rels (h : iv_A I P) (hi : i = 114 ∨ i = 117 ∨ i = 120 ∨ i = 123) (hv : I 96 114 + I 96 117 + I 96 120 + I 96 123 - I 96 i + v ≤ 24) : iv_l (lf_up I 96 i v) 96 := by
  have a := iv_rlo (v := v) h (i := i) (by omega) (by omega)
  refine ⟨a.1, a.2, ?_, fun r h0 h1 => ?_⟩
  · show lf_up I 96 i v 96 114 + lf_up I 96 i v 96 117 + lf_up I 96 i v 96 120 + lf_up I 96 i v 96 123 ≤ 24
    rcases hi with rfl | rfl | rfl | rfl
    · rw [lf_up_s, lf_up_i (by decide), lf_up_i (by decide), lf_up_i (by decide)]; omega
    · rw [lf_up_s, lf_up_i (b := 114) (by decide), lf_up_i (b := 120) (by decide), lf_up_i (b := 123) (by decide)]; omega
    · rw [lf_up_s, lf_up_i (b := 114) (by decide), lf_up_i (b := 117) (by decide), lf_up_i (b := 123) (by decide)]; omega
    · rw [lf_up_s, lf_up_i (b := 114) (by decide), lf_up_i (b := 117) (by decide), lf_up_i (b := 120) (by decide)]; omega
  · rw [lf_up_i (by omega)] at h1
    unfold iv_s4
    rw [lf_up_i (by omega), lf_up_i (by omega), lf_up_i (by omega), lf_up_i (by omega)]
    exact h.2.2.2.1.2.2.2 r h0 h1
theorem iv_wd96 (h : iv_A I P) (hv : (iv_a i).1 ≤ v ∧ v ≤ (iv_a i).2) (hr : i < 3 ∨ i = 9 ∨ (50 ≤ i ∧ i < 114 ∧ (i - 50) % 4 < 2) ∨ i = 114 ∨ i = 117 ∨ i = 120 ∨ i = 123 ∨ (278 ≤ i ∧ i < 278 + 42 * I 96 9) → iv_l (lf_up I 96 i v) 96) : iv_A (lf_up I 96 i v) P := iv_w96' h hv hr
theorem iv_rd96 {p q : Int} (h : iv_A I P) (hr : p ≤ (iv_a i).1 ∧ (iv_a i).2 ≤ q) : p ≤ I 96 i ∧ I 96 i ≤ q := ⟨Int.le_trans hr.1 (h.1 96 i).1, Int.le_trans (h.1 96 i).2 hr.2⟩
theorem iv_rd97 {p q : Int} (h : iv_A I P) (hr : p ≤ (iv_a i).1 ∧ (iv_a i).2 ≤ q) : p ≤ I 97 i ∧ I 97 i ≤ q := ⟨Int.le_trans hr.1 (h.1 97 i).1, Int.le_trans (h.1 97 i).2 hr.2⟩
theorem iv_rd23 {p q : Int} (h : iv_A I P) (hr : p ≤ (iv_s i).1 ∧ (iv_s i).2 ≤ q) : p ≤ I 23 i ∧ I 23 i ≤ q := ⟨Int.le_trans hr.1 (h.1 23 i).1, Int.le_trans (h.1 23 i).2 hr.2⟩
theorem iv_rd87 {p q : Int} (h : iv_A I P) (hr : p ≤ (iv_s i).1 ∧ (iv_s i).2 ≤ q) : p ≤ I 87 i ∧ I 87 i ≤ q := ⟨Int.le_trans hr.1 (h.1 87 i).1, Int.le_trans (h.1 87 i).2 hr.2⟩
theorem iv_rd98 {p q : Int} (h : iv_A I P) (hr : p ≤ (iv_x i).1 ∧ (iv_x i).2 ≤ q) : p ≤ I 98 i ∧ I 98 i ≤ q := ⟨Int.le_trans hr.1 (h.1 98 i).1, Int.le_trans (h.1 98 i).2 hr.2⟩
theorem iv_wd98 (h : iv_A I P) (hv : (iv_x i).1 ≤ v ∧ v ≤ (iv_x i).2) (hk : wk_T (lf_up I 98 i v 98)) : iv_A (lf_up I 98 i v) P := by
  obtain ⟨s1, s2, s3, s4, s5⟩ := h.2.2.1
  refine ⟨iv_up h.1 hv, h.2.1, ⟨?_, ?_, ?_, ?_, hk⟩, ?_, ?_⟩
  · unfold iv_sq; rw [lf_up_row (by decide), lf_up_row (by decide)]; exact s1
  · unfold iv_sq; rw [lf_up_row (by decide), lf_up_row (by decide)]; exact s2
  · unfold iv_sr; rw [lf_up_row (by decide)]; exact s3
  · unfold iv_sr; rw [lf_up_row (by decide)]; exact s4
  · unfold iv_l; rw [lf_up_row (by decide)]; exact h.2.2.2.1
  · unfold iv_l; rw [lf_up_row (by decide)]; exact h.2.2.2.2
theorem iv_sp (h : iv_A I P) (h0 : 0 ≤ i) (h1 : i < 4) : I 16 i ≤ 0 ∨ 0 ≤ I 17 i := h.2.2.1.1 i h0 h1
theorem iv_w16 (h : iv_A I P) (hb : -2147483648 ≤ v ∧ v ≤ 2147483647) (hs : v ≤ 0 ∨ 0 ≤ I 17 i) : iv_A (lf_up I 16 i v) P := by
  refine ⟨iv_up h.1 hb, h.2.1, ⟨?_, ?_, ?_, ?_, (by rw [lf_up_row (by decide)]; exact h.2.2.1.2.2.2.2)⟩, h.2.2.2.1, h.2.2.2.2⟩
  · intro j h0 h1
    rw [lf_up_c (show 17 ≠ 16 by decide)]
    by_cases hj : j = i
    · subst hj; rw [lf_up_s]; exact hs
    · rw [lf_up_i hj]; exact h.2.2.1.1 j h0 h1
  · intro j h0 h1; rw [lf_up_c (by decide), lf_up_c (by decide)]; exact h.2.2.1.2.1 j h0 h1
  · intro r j h0 h1; rw [lf_up_c (by decide), lf_up_c (by decide)]; exact h.2.2.1.2.2.1 r j h0 h1
  · intro r j h0 h1; rw [lf_up_c (by decide), lf_up_c (by decide)]; exact h.2.2.1.2.2.2.1 r j h0 h1
theorem iv_w17 (h : iv_A I P) (hb : -1 ≤ v ∧ v ≤ 11) (hs : I 16 i ≤ 0 ∨ 0 ≤ v) : iv_A (lf_up I 17 i v) P := by
  refine ⟨iv_up h.1 hb, h.2.1, ⟨?_, ?_, ?_, ?_, (by rw [lf_up_row (by decide)]; exact h.2.2.1.2.2.2.2)⟩, h.2.2.2.1, h.2.2.2.2⟩
  · intro j h0 h1
    rw [lf_up_c (show 16 ≠ 17 by decide)]
    by_cases hj : j = i
    · subst hj; rw [lf_up_s]; exact hs
    · rw [lf_up_i hj]; exact h.2.2.1.1 j h0 h1
  · intro j h0 h1; rw [lf_up_c (by decide), lf_up_c (by decide)]; exact h.2.2.1.2.1 j h0 h1
  · intro r j h0 h1; rw [lf_up_c (by decide), lf_up_c (by decide)]; exact h.2.2.1.2.2.1 r j h0 h1
  · intro r j h0 h1; rw [lf_up_c (by decide), lf_up_c (by decide)]; exact h.2.2.1.2.2.2.1 r j h0 h1
theorem iv_ref0 (h : iv_A I P) : ∃ w, P 0 = some w ∧ (w = 72 ∨ w = 73) := h.2.1.1
theorem iv_ref1 (h : iv_A I P) : ∃ w, P 1 = some w ∧ (w = 72 ∨ w = 73) := h.2.1.2.1
theorem iv_t2 {t : Nat} (h : iv_A I P) (e : P 2 = some t) : t < 4 := h.2.1.2.2.1 t e
theorem iv_t3 {t : Nat} (h : iv_A I P) (e : P 3 = some t) : t < 4 := h.2.1.2.2.2 t e
theorem iv_uw0 {w : Nat} (h : iv_A I P) (hw : w = 72 ∨ w = 73) : iv_A I (lf_ur P 0 (some w)) := ⟨h.1, ⟨⟨w, rfl, hw⟩, h.2.1.2.1, h.2.1.2.2⟩, h.2.2⟩
theorem iv_uw1 {w : Nat} (h : iv_A I P) (hw : w = 72 ∨ w = 73) : iv_A I (lf_ur P 1 (some w)) := ⟨h.1, ⟨h.2.1.1, ⟨w, rfl, hw⟩, h.2.1.2.2⟩, h.2.2⟩
theorem iv_ut2 {t : Nat} (h : iv_A I P) (ht : t < 4) : iv_A I (lf_ur P 2 (some t)) := ⟨h.1, ⟨h.2.1.1, h.2.1.2.1, fun u e => by cases e; exact ht, h.2.1.2.2.2⟩, h.2.2⟩
theorem iv_ut3 {t : Nat} (h : iv_A I P) (ht : t < 4) : iv_A I (lf_ur P 3 (some t)) := ⟨h.1, ⟨h.2.1.1, h.2.1.2.1, h.2.1.2.2.1, fun u e => by cases e; exact ht⟩, h.2.2⟩
theorem iv_un3 (h : iv_A I P) : iv_A I (lf_ur P 3 none) := ⟨h.1, ⟨h.2.1.1, h.2.1.2.1, h.2.1.2.2.1, fun u e => by cases e⟩, h.2.2⟩
theorem lf_ur2 {t : Nat} : lf_ur P 2 (some t) 2 ≠ none := by intro h; cases h
theorem iv_fill {n : Int} (h : iv_A I P) (hc : iv_fr8 c = true) (hv : ∀ j, (iv_B c j).1 ≤ v ∧ v ≤ (iv_B c j).2) : iv_A (lf_fl I c n v) P := by
  obtain ⟨a1, a2, a3, a4, a5, a6, a7, a8, a9⟩ := iv_fr8e hc
  have row : ∀ {a : Nat}, a ≠ c → lf_fl I c n v a = I a := fun ha => funext fun b => lf_fl_c ha
  refine ⟨?_, h.2.1, iv_Sc h.2.2.1 (row a1) (row a2) (row a3) (row a4) (row a5) (row a6) (row a9), ?_, ?_⟩
  · intro a b
    unfold lf_fl
    by_cases hq : a = c ∧ 0 ≤ b ∧ b < n
    · rw [if_pos hq, hq.1]; exact hv b
    · rw [if_neg hq]; exact h.1 a b
  · unfold iv_l; rw [row a7]; exact h.2.2.2.1
  · unfold iv_l; rw [row a8]; exact h.2.2.2.2
theorem iv_copy {p q n : Int} (h : iv_A I P) (hc : iv_fr8 c1 = true) (hv : ∀ j k, (iv_B c1 j).1 ≤ (iv_B c0 k).1 ∧ (iv_B c0 k).2 ≤ (iv_B c1 j).2) : iv_A (lf_cp I c0 c1 p q n) P := by
  obtain ⟨a1, a2, a3, a4, a5, a6, a7, a8, a9⟩ := iv_fr8e hc
  have row : ∀ {a : Nat}, a ≠ c1 → lf_cp I c0 c1 p q n a = I a := fun ha => funext fun b => lf_cp_c ha
  refine ⟨?_, h.2.1, iv_Sc h.2.2.1 (row a1) (row a2) (row a3) (row a4) (row a5) (row a6) (row a9), ?_, ?_⟩
  · intro a b
    unfold lf_cp
    by_cases hq : a = c1 ∧ q ≤ b ∧ b < q + n
    · rw [if_pos hq, hq.1]; exact lf_le2 (hv b (p + (b - q))) (h.1 c0 _)
    · rw [if_neg hq]; exact h.1 a b
  · unfold iv_l; rw [row a7]; exact h.2.2.2.1
  · unfold iv_l; rw [row a8]; exact h.2.2.2.2
theorem iv_cpR (h : iv_A I P) (hq : c0 = 23 ∧ c1 = 87 ∨ c0 = 87 ∧ c1 = 23) : iv_A (lf_cp I c0 c1 0 0 1170) P := by
  have e : ∀ j, lf_cp I c0 c1 0 0 1170 c1 j = if 0 ≤ j ∧ j < 1170 then I c0 j else I c1 j := by
    intro j
    unfold lf_cp
    by_cases hj : 0 ≤ j ∧ j < 0 + 1170
    · rw [if_pos ⟨rfl, hj⟩, if_pos (by omega), show (0 : Int) + (j - 0) = j by omega]
    · rw [if_neg (fun h9 => hj h9.2), if_neg (by omega)]
  have row : ∀ {a : Nat}, a ≠ c1 → lf_cp I c0 c1 0 0 1170 a = I a := fun ha => funext fun b => lf_cp_c ha
  have sr : iv_sr I c0 → iv_sr I c1 → iv_sr (lf_cp I c0 c1 0 0 1170) c1 := by
    intro h0 h1 r j a b
    rw [e, e]
    by_cases hj : 0 ≤ 39 * r + 3 * j ∧ 39 * r + 3 * j < 1170
    · rw [if_pos hj]
      by_cases hk : 0 ≤ 39 * r + 3 * j + 1 ∧ 39 * r + 3 * j + 1 < 1170
      · rw [if_pos hk]; exact h0 r j a b
      · omega
    · rw [if_neg hj]
      by_cases hk : 0 ≤ 39 * r + 3 * j + 1 ∧ 39 * r + 3 * j + 1 < 1170
      · omega
      · rw [if_neg hk]; exact h1 r j a b
  have hI : iv_I (lf_cp I c0 c1 0 0 1170) := by
    intro a b
    unfold lf_cp
    by_cases hz : a = c1 ∧ 0 ≤ b ∧ b < 0 + 1170
    · rw [if_pos hz, hz.1, show (0 : Int) + (b - 0) = b by omega]
      rcases hq with ⟨rfl, rfl⟩ | ⟨rfl, rfl⟩
      · exact h.1 23 b
      · exact h.1 87 b
    · rw [if_neg hz]; exact h.1 a b
  obtain ⟨s1, s2, s3, s4, s5⟩ := h.2.2.1
  rcases hq with ⟨rfl, rfl⟩ | ⟨rfl, rfl⟩
  · refine ⟨hI, h.2.1, ⟨?_, ?_, ?_, sr s3 s4, (by rw [row (by decide)]; exact s5)⟩, ?_, ?_⟩
    · unfold iv_sq; rw [row (by decide), row (by decide)]; exact s1
    · unfold iv_sq; rw [row (by decide), row (by decide)]; exact s2
    · unfold iv_sr; rw [row (by decide)]; exact s3
    · unfold iv_l; rw [row (by decide)]; exact h.2.2.2.1
    · unfold iv_l; rw [row (by decide)]; exact h.2.2.2.2
  · refine ⟨hI, h.2.1, ⟨?_, ?_, sr s4 s3, ?_, (by rw [row (by decide)]; exact s5)⟩, ?_, ?_⟩
    · unfold iv_sq; rw [row (by decide), row (by decide)]; exact s1
    · unfold iv_sq; rw [row (by decide), row (by decide)]; exact s2
    · unfold iv_sr; rw [row (by decide)]; exact s4
    · unfold iv_l; rw [row (by decide)]; exact h.2.2.2.1
    · unfold iv_l; rw [row (by decide)]; exact h.2.2.2.2
/-! frames -/
def fr_g (r : Nat) (i : Int) : Prop := match r with
  | 0 => i = 11 ∨ (254 ≤ i ∧ i < 278)
  | 1 => i = 10 ∨ (162 ≤ i ∧ i < 174)
  | 2 => 174 ≤ i ∧ i < 254
  | 3 => i = 7 ∨ i = 8
  | 4 => i = 0 ∨ i = 1 ∨ i = 2 ∨ (14 ≤ i ∧ i < 50 ∧ (i - 14) % 3 ≠ 2) ∨ (50 ≤ i ∧ i < 114 ∧ (i - 50) % 4 ≠ 3) ∨ (126 ≤ i ∧ i < 162 ∧ (i - 126) % 6 ≠ 3 ∧ (i - 126) % 6 ≠ 4)
  | 5 => i = 9 ∨ 278 ≤ i
  | 6 => i = 3 ∨ i = 6 ∨ (14 ≤ i ∧ i < 50 ∧ (i - 14) % 3 = 2) ∨ (50 ≤ i ∧ i < 114 ∧ (i - 50) % 4 = 3) ∨ (114 ≤ i ∧ i < 126) ∨ (126 ≤ i ∧ i < 162 ∧ ((i - 126) % 6 = 3 ∨ (i - 126) % 6 = 4))
  | _ => False
theorem fr_n0 {i : Int} (h : i ≠ 11 ∧ (i < 254 ∨ 278 ≤ i)) : ¬ fr_g 0 i := fun hg => by have hg : i = 11 ∨ (254 ≤ i ∧ i < 278) := hg; omega
theorem fr_n1 {i : Int} (h : i ≠ 10 ∧ (i < 162 ∨ 174 ≤ i)) : ¬ fr_g 1 i := fun hg => by have hg : i = 10 ∨ (162 ≤ i ∧ i < 174) := hg; omega
theorem fr_n2 {i : Int} (h : i < 174 ∨ 254 ≤ i) : ¬ fr_g 2 i := fun hg => by have hg : 174 ≤ i ∧ i < 254 := hg; omega
theorem fr_n3 {i : Int} (h : i ≠ 7 ∧ i ≠ 8) : ¬ fr_g 3 i := fun hg => by have hg : i = 7 ∨ i = 8 := hg; omega
theorem fr_n4 {i : Int} (h : (i < 0 ∨ 2 < i) ∧ (14 ≤ i → i < 50 → (i - 14) % 3 = 2) ∧ (50 ≤ i → i < 114 → (i - 50) % 4 = 3) ∧ (126 ≤ i → i < 162 → (i - 126) % 6 = 3 ∨ (i - 126) % 6 = 4)) : ¬ fr_g 4 i := fun hg => by
  have hg : i = 0 ∨ i = 1 ∨ i = 2 ∨ (14 ≤ i ∧ i < 50 ∧ (i - 14) % 3 ≠ 2) ∨ (50 ≤ i ∧ i < 114 ∧ (i - 50) % 4 ≠ 3) ∨ (126 ≤ i ∧ i < 162 ∧ (i - 126) % 6 ≠ 3 ∧ (i - 126) % 6 ≠ 4) := hg
  obtain ⟨h1, h2, h3, h4⟩ := h
  rcases hg with hg | hg | hg | ⟨a, b, c⟩ | ⟨a, b, c⟩ | ⟨a, b, c, d⟩
  · omega
  · omega
  · omega
  · exact c (h2 a b)
  · exact c (h3 a b)
  · rcases h4 a b with e | e
    · exact c e
    · exact d e
theorem fr_n5 {i : Int} (h : i ≠ 9 ∧ i < 278) : ¬ fr_g 5 i := fun hg => by have hg : i = 9 ∨ 278 ≤ i := hg; omega
theorem fr_n6 {i : Int} (h : i ≠ 3 ∧ i ≠ 6 ∧ (14 ≤ i → i < 50 → (i - 14) % 3 ≠ 2) ∧ (50 ≤ i → i < 114 → (i - 50) % 4 ≠ 3) ∧ (i < 114 ∨ 126 ≤ i) ∧ (126 ≤ i → i < 162 → (i - 126) % 6 ≠ 3 ∧ (i - 126) % 6 ≠ 4)) : ¬ fr_g 6 i := fun hg => by
  have hg : i = 3 ∨ i = 6 ∨ (14 ≤ i ∧ i < 50 ∧ (i - 14) % 3 = 2) ∨ (50 ≤ i ∧ i < 114 ∧ (i - 50) % 4 = 3) ∨ (114 ≤ i ∧ i < 126) ∨ (126 ≤ i ∧ i < 162 ∧ ((i - 126) % 6 = 3 ∨ (i - 126) % 6 = 4)) := hg
  obtain ⟨h1, h2, h3, h4, h5, h6⟩ := h
  rcases hg with hg | hg | ⟨a, b, c⟩ | ⟨a, b, c⟩ | ⟨a, b⟩ | ⟨a, b, c⟩
  · exact h1 hg
  · exact h2 hg
  · exact h3 a b c
  · exact h4 a b c
  · omega
  · rcases c with e | e
    · exact (h6 a b).1 e
    · exact (h6 a b).2 e
theorem fr_o {l : List Nat} {i : Int} (h0 : l.contains 1000 = true ∨ ¬ fr_g 0 i) (h1 : l.contains 1001 = true ∨ ¬ fr_g 1 i) (h2 : l.contains 1002 = true ∨ ¬ fr_g 2 i) (h3 : l.contains 1003 = true ∨ ¬ fr_g 3 i) (h4 : l.contains 1004 = true ∨ ¬ fr_g 4 i) (h5 : l.contains 1005 = true ∨ ¬ fr_g 5 i) (h6 : l.contains 1006 = true ∨ ¬ fr_g 6 i) : ∀ r, l.contains (1000 + r) = false → ¬ fr_g r i := by
  intro r hr
  have key : ∀ {k : Nat}, (l.contains (1000 + k) = true ∨ ¬ fr_g k i) → l.contains (1000 + k) = false → ¬ fr_g k i := by
    intro k h hk
    rcases h with e | e
    · rw [e] at hk; cases hk
    · exact e
  match r, hr with
  | 0, hr => exact key (k := 0) h0 hr
  | 1, hr => exact key (k := 1) h1 hr
  | 2, hr => exact key (k := 2) h2 hr
  | 3, hr => exact key (k := 3) h3 hr
  | 4, hr => exact key (k := 4) h4 hr
  | 5, hr => exact key (k := 5) h5 hr
  | 6, hr => exact key (k := 6) h6 hr
  | n + 7, _ => exact fun h => h
theorem fr_x {l : List Nat} {r k : Nat} {i : Int} (hk : l.contains (1000 + k) = true) (hr : l.contains (1000 + r) = false) (hi : fr_g r i) (hn : r ≠ k → ¬ fr_g r i) : False := by
  by_cases e : r = k
  · rw [e, hk] at hr; cases hr
  · exact hn e hi
theorem fr_x5 {l : List Nat} {r : Nat} {i : Int} (hk : l.contains 1005 = true) (hr : l.contains (1000 + r) = false) (hi : fr_g r i) (h : 278 ≤ i) : False := by
  refine fr_x (k := 5) hk hr hi (fun hn => ?_)
  match r, hn with
  | 0, _ => exact fr_n0 (by omega)
  | 1, _ => exact fr_n1 (by omega)
  | 2, _ => exact fr_n2 (by omega)
  | 3, _ => exact fr_n3 (by omega)
  | 4, _ => exact fr_n4 (by omega)
  | 5, hn => exact absurd rfl hn
  | 6, _ => exact fr_n6 (by omega)
  | n + 7, _ => exact fun h => h
theorem fr_x6 {l : List Nat} {r : Nat} {i : Int} (hk : l.contains 1006 = true) (hr : l.contains (1000 + r) = false) (hi : fr_g r i) (h : 114 ≤ i ∧ i < 126) : False := by
  refine fr_x (k := 6) hk hr hi (fun hn => ?_)
  match r, hn with
  | 0, _ => exact fr_n0 (by omega)
  | 1, _ => exact fr_n1 (by omega)
  | 2, _ => exact fr_n2 (by omega)
  | 3, _ => exact fr_n3 (by omega)
  | 4, _ => exact fr_n4 (by omega)
  | 5, _ => exact fr_n5 (by omega)
  | 6, hn => exact absurd rfl hn
  | n + 7, _ => exact fun h => h
def lf_fq (l : List Nat) (w : Int) (b : Bool) (I : Nat → Int → Int) (P : Nat → Option Nat) (I' : Nat → Int → Int) (P' : Nat → Option Nat) : Prop := (∀ c, l.contains c = false → I' c = I c) ∧ (∀ i, i < w → I' 96 i = I 96 i) ∧ (b = true → P' = P) ∧ (∀ r, l.contains (1000 + r) = false → ∀ i, fr_g r i → I' 96 i = I 96 i)
variable {I' I'' : Nat → Int → Int} {P' P'' : Nat → Option Nat} {l l' : List Nat} {w w' : Int} {b b' : Bool}
theorem lf_fq_rf : lf_fq l w b I P I P := ⟨fun _ _ => rfl, fun _ _ => rfl, fun _ => rfl, fun _ _ _ _ => rfl⟩
theorem lf_fq_tr (h1 : lf_fq l w b I P I' P') (h2 : lf_fq l w b I' P' I'' P'') : lf_fq l w b I P I'' P'' := ⟨fun c hc => (h2.1 c hc).trans (h1.1 c hc), fun i hi => (h2.2.1 i hi).trans (h1.2.1 i hi), fun hb => (h2.2.2.1 hb).trans (h1.2.2.1 hb), fun r hr i hi => (h2.2.2.2 r hr i hi).trans (h1.2.2.2 r hr i hi)⟩
theorem lf_fq_wk (h : lf_fq l' w' b' I P I' P') (hl : l'.all (fun c => l.contains c) = true) (hw : w ≤ w') (hb : (b && !b') = false) : lf_fq l w b I P I' P' := by
  have hc9 : ∀ c, l.contains c = false → l'.contains c = false := by
    intro c hc
    cases hq : l'.contains c with
    | false => rfl
    | true =>
      have := List.all_eq_true.mp hl c (by simpa using hq)
      rw [this] at hc
      cases hc
  refine ⟨fun c hc => h.1 c (hc9 c hc), fun i hi => h.2.1 i (Int.lt_of_lt_of_le hi hw), fun h9 => h.2.2.1 ?_, fun r hr i hi => h.2.2.2 r (hc9 _ hr) i hi⟩
  · cases b' with
    | true => rfl
    | false => subst h9; cases hb
theorem lf_fq_up (h : lf_fq l w b I P I' P') (hc : l.contains c = true) (h96 : c = 96 → w ≤ i ∧ ∀ r, l.contains (1000 + r) = false → ¬ fr_g r i) : lf_fq l w b I P (lf_up I' c i v) P' := by
  refine ⟨fun a ha => ?_, fun j hj => ?_, h.2.2.1, fun r hr j hj => ?_⟩
  · rw [lf_up_row (fun e => by rw [e, hc] at ha; cases ha)]; exact h.1 a ha
  · by_cases h9 : c = 96
    · have := (h96 h9).1
      subst h9
      rw [lf_up_i (by omega)]; exact h.2.1 j hj
    · rw [lf_up_c (fun e => h9 e.symm)]; exact h.2.1 j hj
  · by_cases h9 : c = 96
    · have hn := (h96 h9).2 r hr
      subst h9
      rw [lf_up_i (fun e => by subst e; exact hn hj)]; exact h.2.2.2 r hr j hj
    · rw [lf_up_c (fun e => h9 e.symm)]; exact h.2.2.2 r hr j hj
theorem lf_t4 {t : Nat} (ht : t < 4) {q : Nat} (h : (l.contains q && (l.contains (q + 7) && (l.contains (q + 14) && l.contains (q + 21)))) = true) : l.contains (q + 7 * t) = true := by
  rw [Bool.and_eq_true, Bool.and_eq_true, Bool.and_eq_true] at h
  match t, ht with
  | 0, _ => exact h.1
  | 1, _ => exact h.2.1
  | 2, _ => exact h.2.2.1
  | 3, _ => exact h.2.2.2
theorem lf_fq_upT {t q : Nat} (h : lf_fq l w b I P I' P') (ht : t < 4) (hc : (l.contains q && (l.contains (q + 7) && (l.contains (q + 14) && l.contains (q + 21)))) = true) (h96 : q ≤ 62) : lf_fq l w b I P (lf_up I' (q + 7 * t) i v) P' := lf_fq_up h (lf_t4 ht hc) (fun h => by omega)
theorem lf_fq_bk (h : lf_fq l w b I P I' P') (hc : l.contains c = true) (h96 : c ≠ 96) (hr : ∀ a, a ≠ c → I'' a = I' a) : lf_fq l w b I P I'' P' := by
  refine ⟨fun a ha => ?_, fun j hj => ?_, h.2.2.1, fun r hr2 j hj => ?_⟩
  · rw [hr a (fun e => by rw [e, hc] at ha; cases ha)]; exact h.1 a ha
  · rw [hr 96 (fun e => h96 e.symm)]; exact h.2.1 j hj
  · rw [hr 96 (fun e => h96 e.symm)]; exact h.2.2.2 r hr2 j hj
theorem lf_fq_cp {p q n : Int} (h : lf_fq l w b I P I' P') (hc : l.contains c1 = true) (h96 : c1 ≠ 96) : lf_fq l w b I P (lf_cp I' c0 c1 p q n) P' := lf_fq_bk h hc h96 (fun a ha => funext fun x => lf_cp_c ha)
theorem lf_fq_fl {n : Int} (h : lf_fq l w b I P I' P') (hc : l.contains c = true) (h96 : c ≠ 96) : lf_fq l w b I P (lf_fl I' c n v) P' := lf_fq_bk h hc h96 (fun a ha => funext fun x => lf_fl_c ha)
theorem lf_fq_flT {t q : Nat} {n : Int} (h : lf_fq l w b I P I' P') (ht : t < 4) (hc : (l.contains q && (l.contains (q + 7) && (l.contains (q + 14) && l.contains (q + 21)))) = true) (h96 : q ≤ 62) : lf_fq l w b I P (lf_fl I' (q + 7 * t) n v) P' := lf_fq_fl h (lf_t4 ht hc) (by omega)
theorem lf_fq_pp (h : lf_fq l w false I P I' P') : lf_fq l w false I P I' P'' := ⟨h.1, h.2.1, (fun h => by cases h), h.2.2.2⟩
theorem lf_fq_n3 (h : lf_fq l w b I P I' P') (hb : b = true) (h2 : P 3 ≠ none) : P' 3 ≠ none := by rw [h.2.2.1 hb]; exact h2
theorem lf_sn3 {t : Nat} (e : P 3 = some t) : P 3 ≠ none := by rw [e]; intro h; cases h
theorem lf_sn2 {t : Nat} (e : P 2 = some t) : P 2 ≠ none := by rw [e]; intro h; cases h
theorem lf_fq_n2 (h : lf_fq l w b I P I' P') (hb : b = true) (h2 : P 2 ≠ none) : P' 2 ≠ none := by rw [h.2.2.1 hb]; exact h2
theorem iv_rT_1 {t : Nat} (h : iv_A I P) (ht : t < 4) : 0 ≤ I (35 + 7 * t) 1 ∧ I (35 + 7 * t) 1 ≤ 300 := by
  match t, ht with
  | 0, _ => exact h.1 35 1
  | 1, _ => exact h.1 42 1
  | 2, _ => exact h.1 49 1
  | 3, _ => exact h.1 56 1
theorem iv_rT_7 {t : Nat} (h : iv_A I P) (ht : t < 4) : 0 ≤ I (35 + 7 * t) 7 ∧ I (35 + 7 * t) 7 ≤ 24 := by
  match t, ht with
  | 0, _ => exact h.1 35 7
  | 1, _ => exact h.1 42 7
  | 2, _ => exact h.1 49 7
  | 3, _ => exact h.1 56 7
theorem iv_wT_1 {t : Nat} (h : iv_A I P) (ht : t < 4) (hv : 0 ≤ v ∧ v ≤ 300) : iv_A (lf_up I (35 + 7 * t) 1 v) P := by
  match t, ht with
  | 0, _ => exact iv_wr h rfl hv
  | 1, _ => exact iv_wr h rfl hv
  | 2, _ => exact iv_wr h rfl hv
  | 3, _ => exact iv_wr h rfl hv
theorem iv_wT_7 {t : Nat} (h : iv_A I P) (ht : t < 4) (hv : 0 ≤ v ∧ v ≤ 24) : iv_A (lf_up I (35 + 7 * t) 7 v) P := by
  match t, ht with
  | 0, _ => exact iv_wr h rfl hv
  | 1, _ => exact iv_wr h rfl hv
  | 2, _ => exact iv_wr h rfl hv
  | 3, _ => exact iv_wr h rfl hv
end IVA
