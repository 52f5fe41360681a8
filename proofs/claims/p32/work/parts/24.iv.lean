/-! RANGES AND FRAMES -/
def lf_w (e : Int) : Int := (Int32.ofInt e).toInt
def lf_wl (e : Int) : Int := (Int64.ofInt e).toInt
theorem lf_Rw {a : Int} : lf_R (lf_w a) := lf_R_i _
theorem lf_RLwl {a : Int} : lf_RL (lf_wl a) := lf_RL_i _
theorem lf_wE {a : Int} : Int32.ofInt (lf_w a) = Int32.ofInt a := Int32.ofInt_toInt _
theorem lf_wlE {a : Int} : Int64.ofInt (lf_wl a) = Int64.ofInt a := Int64.ofInt_toInt _
theorem lf_wtI {ro : px_RO} {d k pc : Nat} {lv : px_L} {st : List Value} {s : lf_Z} {Q : Option Value → lf_Z → Prop} {a : Int} (kk : lf_E ro d k pc lv (.int (Int32.ofInt (lf_w a)) :: st) s Q) : lf_E ro d k pc lv (.int (Int32.ofInt a) :: st) s Q := by
  rw [lf_wE] at kk
  exact kk
theorem lf_wtL {ro : px_RO} {d k pc : Nat} {lv : px_L} {st : List Value} {s : lf_Z} {Q : Option Value → lf_Z → Prop} {a : Int} (kk : lf_E ro d k pc lv (.long (Int64.ofInt (lf_wl a)) :: st) s Q) : lf_E ro d k pc lv (.long (Int64.ofInt a) :: st) s Q := by
  rw [lf_wlE] at kk
  exact kk
theorem lf_eqs {ro : px_RO} {d k pc : Nat} {lv lv' : px_L} {st st' : List Value} {s : lf_Z} {Q : Option Value → lf_Z → Prop} (h1 : lv = lv') (h2 : st = st') (kk : lf_E ro d k pc lv' st' s Q) : lf_E ro d k pc lv st s Q := by
  subst h1
  subst h2
  exact kk
theorem lf_invT {k i j n t : Nat} {st rest : List Value} {s : lf_Z} (ht : t < 4) (hc : px_call k i = some (1, j)) (hn : (px_m j).2.2.2.2.2.2.1 = n) (hd : st.drop n = .ref (35 + 7 * t) :: rest) (hm : (px_m j).2.2.1 = 7) : px_inv k (.invokevirtual i) st (lf_H s) = some (j, .ref (35 + 7 * t) :: (st.take n).reverse, rest) := by
  have e : (lf_H s).1[35 + 7 * t]? = some (.inr 7) := lf_scr ht
  unfold px_inv
  simp only [hc, hn, hd, e, hm, lf_scL ht]
  rfl
theorem lf_Rof {a : Int} (h : -2147483648 ≤ a ∧ a ≤ 2147483647) : lf_R a := h
theorem lf_b01 {z : Bool} : 0 ≤ lf_b z ∧ lf_b z ≤ 1 := by cases z <;> exact ⟨by decide, by decide⟩
theorem lf_wB {a : Int} : -2147483648 ≤ lf_w a ∧ lf_w a ≤ 2147483647 := lf_R_i _
theorem lf_mulB {a b p q r u L H : Int} (h1 : p ≤ a ∧ a ≤ q) (h2 : r ≤ b ∧ b ≤ u) (e1 : L ≤ p * r) (e2 : L ≤ p * u) (e3 : L ≤ q * r) (e4 : L ≤ q * u) (f1 : p * r ≤ H) (f2 : p * u ≤ H) (f3 : q * r ≤ H) (f4 : q * u ≤ H) : L ≤ a * b ∧ a * b ≤ H := by
  have lin : ∀ {x y z w m : Int}, x ≤ m → m ≤ y → min (x * z) (y * z) ≤ m * z ∧ m * z ≤ max (x * z) (y * z) := by
    intro x y z w m h1 h2
    rcases Int.le_total 0 z with hz | hz
    · have k1 := Int.mul_le_mul_of_nonneg_right h1 hz
      have k2 := Int.mul_le_mul_of_nonneg_right h2 hz
      omega
    · have k1 := Int.mul_le_mul_of_nonpos_right h1 hz
      have k2 := Int.mul_le_mul_of_nonpos_right h2 hz
      omega
  have k1 := lin (x := p) (y := q) (z := b) (w := 0) h1.1 h1.2
  have k2 := lin (x := r) (y := u) (z := p) (w := 0) h2.1 h2.2
  have k3 := lin (x := r) (y := u) (z := q) (w := 0) h2.1 h2.2
  rw [Int.mul_comm r p, Int.mul_comm u p, Int.mul_comm b p] at k2
  rw [Int.mul_comm r q, Int.mul_comm u q, Int.mul_comm b q] at k3
  omega
theorem lf_orB {a b : Int} : -2147483648 ≤ lf_or a b ∧ lf_or a b ≤ 2147483647 := lf_R_i _
theorem lf_xorB {a b : Int} : -2147483648 ≤ lf_xor a b ∧ lf_xor a b ≤ 2147483647 := lf_R_i _
theorem lf_shlB {a b : Int} : -2147483648 ≤ lf_shl a b ∧ lf_shl a b ≤ 2147483647 := lf_R_i _
theorem lf_shrB {a b : Int} : -2147483648 ≤ lf_shr a b ∧ lf_shr a b ≤ 2147483647 := lf_R_i _
theorem lf_ushrB {a b : Int} : -2147483648 ≤ lf_ushr a b ∧ lf_ushr a b ≤ 2147483647 := lf_R_i _
theorem lf_bvP {n : Nat} (h : n < 2147483648) : (BitVec.ofNat 32 n).toInt = (n : Int) := by
  rw [BitVec.toInt_eq_toNat_of_lt (by rw [BitVec.toNat_ofNat]; omega), BitVec.toNat_ofNat, Nat.mod_eq_of_lt (by omega)]
theorem lf_oiN {b : Int} (h0 : 0 ≤ b) (h1 : b ≤ 2147483647) : (Int32.ofInt b).toBitVec.toNat = b.toNat := by
  have e : (Int32.ofInt b).toBitVec = BitVec.ofInt 32 b := rfl
  rw [e, BitVec.toNat_ofInt]
  omega
theorem lf_toN {x : Int32} (h : x.toBitVec.toNat < 2147483648) : x.toInt = (x.toBitVec.toNat : Int) := by
  show x.toBitVec.toInt = _
  exact BitVec.toInt_eq_toNat_of_lt (by omega)
theorem lf_andR {a b : Int} (h0 : 0 ≤ b) (h1 : b ≤ 2147483647) : 0 ≤ lf_and a b ∧ lf_and a b ≤ b := by
  unfold lf_and
  have e : (Int32.ofInt a &&& Int32.ofInt b).toBitVec.toNat = (Int32.ofInt a).toBitVec.toNat &&& (Int32.ofInt b).toBitVec.toNat := BitVec.toNat_and _ _
  have l : (Int32.ofInt a &&& Int32.ofInt b).toBitVec.toNat ≤ b.toNat := by
    rw [e, lf_oiN h0 h1]
    exact Nat.and_le_right
  rw [lf_toN (by omega)]
  omega
theorem lf_andB {a b m : Int} (h0 : 0 ≤ b) (h1 : b ≤ m ∧ m ≤ 2147483647) : 0 ≤ lf_and a b ∧ lf_and a b ≤ m := by
  have := lf_andR (a := a) h0 (by omega)
  omega
theorem lf_andBl {a b m : Int} (h0 : 0 ≤ a) (h1 : a ≤ m ∧ m ≤ 2147483647) : 0 ≤ lf_and a b ∧ lf_and a b ≤ m := by
  have := lf_andR (a := b) (b := a) h0 (by omega)
  have e : lf_and a b = lf_and b a := by unfold lf_and; rw [Int32.and_comm]
  rw [e]
  omega
theorem lf_shrP {a b m : Int} (h0 : 0 ≤ a) (h1 : a ≤ m ∧ m ≤ 2147483647) : 0 ≤ lf_shr a b ∧ lf_shr a b ≤ m := by
  unfold lf_shr
  have e : (Int32.ofInt a >>> (Int32.ofInt b &&& 31)).toBitVec = (Int32.ofInt a).toBitVec.sshiftRight' ((Int32.ofInt b &&& 31).toBitVec.smod 32) := rfl
  have f : (Int32.ofInt a >>> (Int32.ofInt b &&& 31)).toInt = ((Int32.ofInt a).toBitVec.sshiftRight' ((Int32.ofInt b &&& 31).toBitVec.smod 32)).toInt := by rw [← e]; rfl
  rw [f, BitVec.sshiftRight', BitVec.toInt_sshiftRight]
  have g : (Int32.ofInt a).toBitVec.toInt = a := Int32.toInt_ofInt_of_le (by omega) (by omega)
  rw [g, Int.shiftRight_eq_div_pow]
  have p : (0 : Int) < ((2 : Nat) ^ ((Int32.ofInt b &&& 31).toBitVec.smod 32).toNat : Nat) := by exact_mod_cast Nat.two_pow_pos _
  constructor
  · exact Int.ediv_nonneg h0 (Int.le_of_lt p)
  · exact Int.le_trans (Int.ediv_le_self _ h0) h1.1
theorem lf_shl1N {k : Nat} (h : k ≤ 30) : lf_shl 1 (k : Int) = ((2 ^ k : Nat) : Int) := by
  have : ∀ k : Fin 31, lf_shl 1 (k.val : Int) = ((2 ^ k.val : Nat) : Int) := by decide +kernel
  exact this ⟨k, by omega⟩
theorem lf_shl1 {b H : Int} {m : Nat} (h0 : 0 ≤ b) (h1 : b ≤ m) (h2 : m ≤ 30 ∧ ((2 ^ m : Nat) : Int) ≤ H) : 1 ≤ lf_shl 1 b ∧ lf_shl 1 b ≤ H := by
  obtain ⟨k, rfl⟩ := Int.eq_ofNat_of_zero_le h0
  rw [lf_shl1N (by omega)]
  have p1 : 1 ≤ 2 ^ k := Nat.one_le_two_pow
  have p2 : 2 ^ k ≤ 2 ^ m := Nat.pow_le_pow_right (by decide) (by omega)
  omega
theorem lf_ushrP {a b m : Int} (h0 : 0 ≤ a) (h1 : a ≤ m ∧ m ≤ 2147483647) : 0 ≤ lf_ushr a b ∧ lf_ushr a b ≤ m := by
  unfold lf_ushr
  have e : ((Int32.ofInt a).toUInt32 >>> ((Int32.ofInt b).toUInt32 &&& Int32.toUInt32 31)).toInt32.toBitVec.toNat ≤ a.toNat := by
    show ((Int32.ofInt a).toUInt32 >>> ((Int32.ofInt b).toUInt32 &&& Int32.toUInt32 31)).toNat ≤ a.toNat
    rw [UInt32.toNat_shiftRight]
    have g : (Int32.ofInt a).toUInt32.toNat = a.toNat := lf_oiN h0 (by omega)
    rw [g]
    exact Nat.shiftRight_le _ _
  rw [lf_toN (by omega)]
  omega
theorem lf_tdivB {a c p q L H : Int} (h1 : p ≤ a) (h2 : a ≤ q) (hc : 0 < c) (hL : L = p.tdiv c) (hH : H = q.tdiv c) : L ≤ a.tdiv c ∧ a.tdiv c ≤ H := by
  subst hL
  subst hH
  exact ⟨Int.tdiv_le_tdiv hc h1, Int.tdiv_le_tdiv hc h2⟩
theorem lf_tdivM {a b m : Int} (h1 : -m ≤ a) (h2 : a ≤ m) : -m ≤ a.tdiv b ∧ a.tdiv b ≤ m := by
  have h := Int.natAbs_tdiv a b
  have k : (a.tdiv b).natAbs ≤ a.natAbs := by rw [h]; exact Nat.div_le_self _ _
  omega
theorem lf_tmodP {a b m : Int} (h1 : 0 ≤ a) (h2 : 0 < b) (h3 : b ≤ m + 1) : 0 ≤ a.tmod b ∧ a.tmod b ≤ m := by
  have k1 := Int.tmod_nonneg b h1
  have k2 := Int.tmod_lt_of_pos a h2
  omega
theorem lf_tmodM {a b m : Int} (h2 : 0 < b) (h3 : b ≤ m + 1) : -m ≤ a.tmod b ∧ a.tmod b ≤ m := by
  have k2 := Int.tmod_lt_of_pos a h2
  have k1 := Int.tmod_lt_of_pos (-a) h2
  rw [Int.neg_tmod] at k1
  omega
theorem lf_tmS {x c : Int} (hc : 0 < c) : x.tdiv c ≤ 0 ∨ 0 ≤ x.tmod c := by
  rcases Int.le_total 0 x with h | h
  · exact Or.inr (Int.tmod_nonneg c h)
  · refine Or.inl ?_
    have k := Int.tdiv_nonneg (a := -x) (b := c) (by omega) (Int.le_of_lt hc)
    rw [Int.neg_tdiv] at k
    omega
theorem lf_up_c {f : Nat → Int → Int} {c a : Nat} {i v b : Int} (h : a ≠ c) : lf_up f c i v a b = f a b := by unfold lf_up; rw [if_neg h]
theorem lf_up_i {f : Nat → Int → Int} {c : Nat} {i v b : Int} (h : b ≠ i) : lf_up f c i v c b = f c b := by unfold lf_up; rw [if_pos rfl, if_neg h]
theorem lf_up_s {f : Nat → Int → Int} {c : Nat} {i v : Int} : lf_up f c i v c i = v := by unfold lf_up; rw [if_pos rfl, if_pos rfl]
theorem lf_cp_c {f : Nat → Int → Int} {x y a : Nat} {p q n b : Int} (h : a ≠ y) : lf_cp f x y p q n a b = f a b := by unfold lf_cp; rw [if_neg (fun h9 => h h9.1)]
theorem lf_fl_c {f : Nat → Int → Int} {c a : Nat} {n v b : Int} (h : a ≠ c) : lf_fl f c n v a b = f a b := by unfold lf_fl; rw [if_neg (fun h9 => h h9.1)]
theorem lf_pt {P : Prop} (h : P) : (true = true → P) ∧ (true = false → ¬ P) := ⟨fun _ => h, fun h => by cases h⟩
theorem lf_pf {P : Prop} (h : ¬ P) : (false = true → P) ∧ (false = false → ¬ P) := ⟨fun h => (by cases h), fun _ => h⟩
theorem lf_lall {l : List Int32} {m : Int} (h : l.all (fun x => decide (0 ≤ x.toInt) && decide (x.toInt ≤ m)) = true) (hm : 0 ≤ m) (j : Nat) : 0 ≤ (l.getD j 0).toInt ∧ (l.getD j 0).toInt ≤ m := by
  by_cases hj : j < l.length
  · rw [List.getD_eq_getElem?_getD, List.getElem?_eq_getElem hj]
    have := List.all_eq_true.mp h _ (List.getElem_mem hj)
    simpa using this
  · rw [List.getD_eq_getElem?_getD, List.getElem?_eq_none (by omega)]
    exact ⟨by decide, hm⟩
theorem lf_px_shB {j : Nat} : 0 ≤ (px_sh j).toInt ∧ (px_sh j).toInt ≤ 99 := lf_lall (l := px_shL) (by decide) (by decide) j
theorem lf_px_lwB {j : Nat} : 0 ≤ (px_lw j).toInt ∧ (px_lw j).toInt ≤ 99 := lf_lall (l := px_lwL) (by decide) (by decide) j
theorem lf_le2 {a b v p q : Int} (h : a ≤ p ∧ q ≤ b) (h2 : p ≤ v ∧ v ≤ q) : a ≤ v ∧ v ≤ b := ⟨Int.le_trans h.1 h2.1, Int.le_trans h2.2 h.2⟩
def iv_F : Int → Int × Int := fun _ => (-2147483648, 2147483647)
def iv_a (i : Int) : Int × Int := if i < 14 then (if i = 0 then (0, 12) else if i = 1 then (0, 16) else if i = 2 then (0, 6) else if i = 6 then (0, 30202) else if i = 7 then (0, 4) else if i = 8 then (-1, 3) else if i = 9 then (0, 30) else if i = 10 then (0, 6) else if i = 11 then (0, 12) else (-2147483648, 2147483647)) else if i < 50 then (if (i - 14) % 3 = 0 then (0, 3) else if (i - 14) % 3 = 1 then (0, 99) else (-2147483648, 2147483647)) else if i < 114 then (if (i - 50) % 4 ≤ 1 then (0, 11) else (-2147483648, 2147483647)) else if i < 126 then (if (i - 114) % 3 = 0 then (0, 24) else if (i - 114) % 3 = 1 then (0, 11) else (-1, 11)) else if i < 162 then (if (i - 126) % 6 = 1 then (0, 1) else if (i - 126) % 6 = 3 then (0, 11) else if (i - 126) % 6 = 4 then (-1, 11) else if (i - 126) % 6 = 5 then (0, 11) else (-2147483648, 2147483647)) else if i < 174 then (if (i - 162) % 2 = 0 then (0, 11) else (-2147483648, 2147483647)) else if i < 278 then (-2147483648, 2147483647) else if i < 1538 then (if (i - 278) % 42 = 4 then (0, 30202) else if (i - 278) % 42 < 5 then (-2147483648, 2147483647) else if (i - 278) % 42 < 17 then (if ((i - 278) % 42 - 5) % 3 = 0 then (0, 24) else if ((i - 278) % 42 - 5) % 3 = 1 then (0, 11) else (-1, 11)) else if (i - 278) % 42 < 29 then (if ((i - 278) % 42 - 17) % 2 = 0 then (0, 11) else (-1, 11)) else (-2147483648, 2147483647)) else (-2147483648, 2147483647)
def iv_s (i : Int) : Int × Int := if 0 ≤ i ∧ i < 1170 then (if i % 39 < 12 then (if i % 39 % 3 = 0 then (-2147483648, 2147483647) else (-1, 11)) else (-2147483648, 2147483647)) else (-2147483648, 2147483647)
def iv_x (i : Int) : Int × Int := if 0 ≤ i ∧ i < 2820 ∧ i % 705 = 0 then (0, 24) else (-2147483648, 2147483647)
def iv_T : List (Int → Int × Int) := [(fun i => if i = 11 then (0, 4) else if i = 12 then (-1, 3) else (-2147483648, 2147483647)), (fun i => if i = 0 then (0, 12) else if i = 1 then (0, 16) else if i = 2 then (0, 6) else (-2147483648, 2147483647)), (fun _ => (0, 3)), (fun _ => (0, 99)), (fun _ => (0, 11)), (fun _ => (0, 11)), (fun _ => (0, 1)), (fun _ => (0, 9)), (fun _ => (0, 1)), (fun _ => (0, 1)), (fun _ => (0, 11)), (fun _ => (0, 15)), (fun _ => (0, 4)), (fun _ => (0, 1000)), (fun _ => (0, 1000)), iv_F, iv_F, (fun _ => (-1, 11)), (fun _ => (-1, 11)), iv_F, iv_F, iv_F, (fun i => if i = 2 then (0, 29) else if i = 3 then (0, 30) else (-2147483648, 2147483647)), iv_s, (fun _ => (0, 6)), (fun i => if i = 2 then (0, 6) else (-2147483648, 2147483647)), iv_F, iv_F, iv_F, iv_F, iv_F, (fun i => if i = 1 then (0, 300) else if i = 6 then (0, 2) else if i = 7 then (0, 300) else if i = 8 then (0, 300) else if i = 9 then (0, 300) else (-2147483648, 2147483647)), (fun _ => (0, 255)), (fun _ => (-1, 7)), iv_F, (fun i => if i = 1 then (0, 300) else if i = 7 then (0, 24) else (-2147483648, 2147483647)), iv_F, iv_F, iv_F, iv_F, iv_F, iv_F, (fun i => if i = 1 then (0, 300) else if i = 7 then (0, 24) else (-2147483648, 2147483647)), iv_F, iv_F, iv_F, iv_F, iv_F, iv_F, (fun i => if i = 1 then (0, 300) else if i = 7 then (0, 24) else (-2147483648, 2147483647)), iv_F, iv_F, iv_F, iv_F, iv_F, iv_F, (fun i => if i = 1 then (0, 300) else if i = 7 then (0, 24) else (-2147483648, 2147483647)), iv_F, iv_F, iv_F, iv_F, iv_F, iv_F, (fun i => if i = 6 then (0, 300) else (-2147483648, 2147483647)), iv_F, iv_F, iv_F, iv_F, iv_F, iv_F, (fun _ => (0, 155)), iv_F, iv_F, iv_F, (fun i => if i = 5 then (0, 6) else (-2147483648, 2147483647)), iv_F, (fun _ => (0, 5)), (fun _ => (0, 5)), (fun i => if i = 0 then (0, 12) else if i = 1 then (0, 16) else if i = 2 then (0, 6) else if i = 3 then (0, 4) else if i = 4 then (-1, 3) else (-2147483648, 2147483647)), iv_F, iv_F, (fun _ => (-1, 11)), (fun _ => (-1, 11)), iv_F, iv_F, iv_F, (fun i => if i = 2 then (0, 29) else if i = 3 then (0, 30) else (-2147483648, 2147483647)), iv_s, (fun _ => (0, 6)), (fun i => if i = 2 then (0, 6) else (-2147483648, 2147483647)), iv_F, iv_F, iv_F, iv_F, iv_F, (fun i => if i = 4 then (0, 300) else if i = 7 then (0, 300) else if i = 8 then (0, 300) else if i = 12 then (0, 2115) else if i = 13 then (0, 304) else if i = 14 then (0, 12) else if i = 19 then (0, 160) else if i = 20 then (0, 8) else if i = 21 then (0, 8) else if i = 22 then (0, 80) else if i = 23 then (0, 1) else (-2147483648, 2147483647)), iv_a, iv_a, iv_x, (fun _ => (0, 255)), (fun _ => (0, 45)), (fun _ => (0, 25)), (fun _ => (-1, 79)), (fun _ => (-1, 79)), iv_F, iv_F, iv_F, (fun _ => (0, 1)), (fun _ => (0, 1000)), iv_F, iv_F, (fun _ => (0, 1)), (fun _ => (0, 155)), (fun _ => (0, 5)), (fun _ => (0, 11)), (fun _ => (0, 1000)), (fun _ => (0, 5)), (fun _ => (0, 5)), (fun _ => (0, 3)), (fun _ => (0, 1000))]
def iv_B (c : Nat) : Int → Int × Int := iv_T.getD c iv_F
def iv_in (r : Int × Int) : Prop := -2147483648 ≤ r.1 ∧ r.2 ≤ 2147483647
theorem iv_ite {p : Prop} {hp : Decidable p} {a b : Int × Int} (ha : a.1 ≥ -2147483648 ∧ a.2 ≤ 2147483647) (hb : b.1 ≥ -2147483648 ∧ b.2 ≤ 2147483647) : (@ite (Int × Int) p hp a b).1 ≥ -2147483648 ∧ (@ite (Int × Int) p hp a b).2 ≤ 2147483647 := by
  by_cases h : p
  · rw [if_pos h]; exact ha
  · rw [if_neg h]; exact hb
theorem iv_itR {p : Prop} {hp : Decidable p} {a b : Int × Int} {L H : Int} (ha : p → L ≤ a.1 ∧ a.2 ≤ H) (hb : ¬ p → L ≤ b.1 ∧ b.2 ≤ H) : L ≤ (@ite (Int × Int) p hp a b).1 ∧ (@ite (Int × Int) p hp a b).2 ≤ H := by
  by_cases h : p
  · rw [if_pos h]; exact ha h
  · rw [if_neg h]; exact hb h
theorem iv_itW {p : Prop} {hp : Decidable p} {a b : Int × Int} {L H : Int} (ha : p → a.1 ≤ L ∧ H ≤ a.2) (hb : ¬ p → b.1 ≤ L ∧ H ≤ b.2) : (@ite (Int × Int) p hp a b).1 ≤ L ∧ H ≤ (@ite (Int × Int) p hp a b).2 := by
  by_cases h : p
  · rw [if_pos h]; exact ha h
  · rw [if_neg h]; exact hb h
theorem iv_a_F (i : Int) : (iv_a i).1 ≥ -2147483648 ∧ (iv_a i).2 ≤ 2147483647 := by
  unfold iv_a
  repeat' refine iv_ite ?_ ?_
  all_goals exact ⟨by decide, by decide⟩
theorem iv_s_F (i : Int) : (iv_s i).1 ≥ -2147483648 ∧ (iv_s i).2 ≤ 2147483647 := by
  unfold iv_s
  repeat' refine iv_ite ?_ ?_
  all_goals exact ⟨by decide, by decide⟩
theorem iv_x_F (i : Int) : (iv_x i).1 ≥ -2147483648 ∧ (iv_x i).2 ≤ 2147483647 := by
  unfold iv_x
  repeat' refine iv_ite ?_ ?_
  all_goals exact ⟨by decide, by decide⟩
theorem iv_TF : ∀ f ∈ iv_T, ∀ i : Int, (f i).1 ≥ -2147483648 ∧ (f i).2 ≤ 2147483647 := by
  unfold iv_T
  repeat' refine List.forall_mem_cons.mpr ⟨?_, ?_⟩
  all_goals first | (intro f hf; cases hf; done) | exact iv_a_F | exact iv_s_F | exact iv_x_F | (intro i; unfold iv_F; exact ⟨by decide, by decide⟩) | (intro i; dsimp only; exact ⟨by decide, by decide⟩) | (intro i; dsimp only; repeat' refine iv_ite ?_ ?_) <;> exact ⟨by decide, by decide⟩
theorem iv_BF (c : Nat) (i : Int) : (iv_B c i).1 ≥ -2147483648 ∧ (iv_B c i).2 ≤ 2147483647 := by
  unfold iv_B
  rw [List.getD_eq_getElem?_getD]
  cases h : iv_T[c]? with
  | none => show (-2147483648 : Int) ≥ -2147483648 ∧ (2147483647 : Int) ≤ 2147483647; exact ⟨by decide, by decide⟩
  | some f => exact iv_TF f (List.mem_of_getElem? h) i
def iv_I (I : Nat → Int → Int) : Prop := ∀ c i, (iv_B c i).1 ≤ I c i ∧ I c i ≤ (iv_B c i).2
def iv_P (P : Nat → Option Nat) : Prop := (∃ w, P 0 = some w ∧ (w = 72 ∨ w = 73)) ∧ (∃ w, P 1 = some w ∧ (w = 72 ∨ w = 73)) ∧ (∀ t, P 2 = some t → t < 4) ∧ (∀ t, P 3 = some t → t < 4)
def iv_sq (I : Nat → Int → Int) (a b : Nat) : Prop := ∀ j : Int, 0 ≤ j → j < 4 → I a j ≤ 0 ∨ 0 ≤ I b j
def iv_sr (I : Nat → Int → Int) (a : Nat) : Prop := ∀ r j : Int, 0 ≤ j → j < 4 → I a (39 * r + 3 * j) ≤ 0 ∨ 0 ≤ I a (39 * r + 3 * j + 1)
/-! the code of a clause of a text: what each order does to the depths, and where it is safe -/
def wk_dn (o : Int) : Int := if o ≤ 1 then 1 else if o = 31 then 1 else if o = 2 then -1 else if o = 30 then -1 else if o = 3 then 0 else if o < 10 then -1 else if o < 20 then -2 else 0
def wk_dt (o : Int) : Int := if o ≤ 1 then 0 else if o = 31 then 0 else if o = 2 then -1 else if o = 30 then 0 else if o = 3 then 0 else if o < 10 then 0 else if o < 20 then 1 else if o = 20 then 0 else -1
def wk_sf (o v n t : Int) : Prop := (o ≤ 1 ∨ o = 31 → o = 0 ∨ (o = 1 ∧ 0 ≤ v ∧ v < 11) ∨ (o ≠ 1 ∧ 0 ≤ v ∧ v < 80)) ∧ (o = 2 → 2 ≤ n ∧ 1 ≤ t) ∧ (o = 30 → 1 ≤ n ∧ 0 ≤ v ∧ v < 80) ∧ (o = 3 → 1 ≤ n) ∧ (4 ≤ o ∧ o < 20 → 2 ≤ n) ∧ (o = 20 → 1 ≤ t) ∧ (21 ≤ o ∧ o ≠ 30 ∧ o ≠ 31 → 2 ≤ t)
def wk_n (f : Int → Int) (b st : Int) : Nat → Int
  | 0 => 0
  | m + 1 => wk_n f b st m + wk_dn (f (b + 2 * (st + m)))
def wk_t (f : Int → Int) (b st : Int) : Nat → Int
  | 0 => 0
  | m + 1 => wk_t f b st m + wk_dt (f (b + 2 * (st + m)))
def wk_ok (f : Int → Int) (b st : Int) (m : Nat) : Prop := ∀ j : Nat, j < m → wk_sf (f (b + 2 * (st + j))) (f (b + 2 * (st + j) + 1)) (wk_n f b st j) (wk_t f b st j)
def wk_O (f : Int → Int) (x b : Int) : Prop := 0 ≤ f (x + 1) ∧ f (x + 1) ≤ f (x + 2) ∧ f (x + 2) ≤ 304 ∧ wk_ok f b (f (x + 1)) (f (x + 2) - f (x + 1)).toNat
def wk_T (f : Int → Int) : Prop := ∀ t k : Int, 0 ≤ t → t < 4 → 0 ≤ k → k < f (705 * t) → 0 ≤ f (705 * t + 1 + 4 * k) → f (705 * t + 1 + 4 * k) ≤ 2 → wk_O f (705 * t + 1 + 4 * k) (705 * t + 97)
/-- ways end at stretches that there are -/
def iv_ep (f : Int → Int) : Prop := ∀ w : Int, 0 ≤ w → w < 16 → w < f 1 → f (50 + 4 * w) < f 0 ∧ f (50 + 4 * w + 1) < f 0
def iv_S (I : Nat → Int → Int) : Prop := iv_sq I 16 17 ∧ iv_sq I 80 81 ∧ iv_sr I 23 ∧ iv_sr I 87 ∧ wk_T (I 98)
/-- no more than 24 beasts, now and in what is kept -/
def iv_s4 (f : Int → Int) (b : Int) : Prop := f b + f (b + 3) + f (b + 6) + f (b + 9) ≤ 24
def iv_sz (f : Int → Int) : Prop := iv_s4 f 114 ∧ ∀ r : Int, 0 ≤ r → r < f 9 → iv_s4 f (278 + 42 * r + 5)
def iv_l (I : Nat → Int → Int) (c : Nat) : Prop := (0 < I c 1 ∨ 0 < I c 2 → 0 < I c 0) ∧ iv_ep (I c) ∧ iv_sz (I c)
def iv_A (I : Nat → Int → Int) (P : Nat → Option Nat) : Prop := iv_I I ∧ iv_P P ∧ iv_S I ∧ iv_l I 96 ∧ iv_l I 97
section IVA
variable {I : Nat → Int → Int} {P : Nat → Option Nat} {c c0 c1 : Nat} {i v : Int}
theorem iv_full (h : iv_A I P) : -2147483648 ≤ I c i ∧ I c i ≤ 2147483647 := ⟨Int.le_trans (iv_BF c i).1 (h.1 c i).1, Int.le_trans (h.1 c i).2 (iv_BF c i).2⟩
theorem iv_up (h : iv_I I) (hv : (iv_B c i).1 ≤ v ∧ v ≤ (iv_B c i).2) : iv_I (lf_up I c i v) := by
  intro a b
  unfold lf_up
  by_cases ha : a = c
  · subst ha
    rw [if_pos rfl]
    by_cases hb : b = i
    · subst hb; rw [if_pos rfl]; exact hv
    · rw [if_neg hb]; exact h a b
  · rw [if_neg ha]; exact h a b
/-- the other side of a way, as the reference has it, and as the class has it -/
def iv_os (A : Int → Int) (w s : Int) : Int := if A (50 + 4 * w) = s then A (50 + 4 * w + 1) else if A (50 + 4 * w + 1) = s then A (50 + 4 * w) else -1
def iv_od (n : Int) (A B : Int → Int) (w s : Int) : Int := if 0 ≤ w ∧ w < n then (if A w = s then B w else if B w = s then A w else -1) else -1
def iv_fr8 (c : Nat) : Bool := !([16, 17, 80, 81, 23, 87, 96, 97, 98].contains c)
theorem iv_fr8e (hc : iv_fr8 c = true) : 16 ≠ c ∧ 17 ≠ c ∧ 80 ≠ c ∧ 81 ≠ c ∧ 23 ≠ c ∧ 87 ≠ c ∧ 96 ≠ c ∧ 97 ≠ c ∧ 98 ≠ c := by
  refine ⟨?_, ?_, ?_, ?_, ?_, ?_, ?_, ?_, ?_⟩ <;> (intro h; subst h; cases hc)
theorem iv_Sc {J : Nat → Int → Int} (h : iv_S I) (e16 : J 16 = I 16) (e17 : J 17 = I 17) (e80 : J 80 = I 80) (e81 : J 81 = I 81) (e23 : J 23 = I 23) (e87 : J 87 = I 87) (e98 : J 98 = I 98) : iv_S J := by
  unfold iv_S iv_sq iv_sr at *
  rw [e16, e17, e80, e81, e23, e87, e98]
  exact h
theorem lf_up_row {f : Nat → Int → Int} {a : Nat} (h : a ≠ c) : lf_up f c i v a = f a := by
  funext b
  exact lf_up_c h
theorem iv_wr (h : iv_A I P) (hc : iv_fr8 c = true) (hv : (iv_B c i).1 ≤ v ∧ v ≤ (iv_B c i).2) : iv_A (lf_up I c i v) P := by
  obtain ⟨a1, a2, a3, a4, a5, a6, a7, a8, a9⟩ := iv_fr8e hc
  refine ⟨iv_up h.1 hv, h.2.1, iv_Sc h.2.2.1 (lf_up_row a1) (lf_up_row a2) (lf_up_row a3) (lf_up_row a4) (lf_up_row a5) (lf_up_row a6) (lf_up_row a9), ?_, ?_⟩
  · unfold iv_l; rw [lf_up_row a7]; exact h.2.2.2.1
  · unfold iv_l; rw [lf_up_row a8]; exact h.2.2.2.2
theorem iv_w96' (h : iv_A I P) (hv : (iv_B 96 i).1 ≤ v ∧ v ≤ (iv_B 96 i).2) (hr : i < 3 ∨ i = 9 ∨ (50 ≤ i ∧ i < 114 ∧ (i - 50) % 4 < 2) ∨ i = 114 ∨ i = 117 ∨ i = 120 ∨ i = 123 ∨ (278 ≤ i ∧ i < 278 + 42 * I 96 9) → iv_l (lf_up I 96 i v) 96) : iv_A (lf_up I 96 i v) P := by
  refine ⟨iv_up h.1 hv, h.2.1, iv_Sc h.2.2.1 (lf_up_row (by decide)) (lf_up_row (by decide)) (lf_up_row (by decide)) (lf_up_row (by decide)) (lf_up_row (by decide)) (lf_up_row (by decide)) (lf_up_row (by decide)), ?_, ?_⟩
  · by_cases hi : i < 3 ∨ i = 9 ∨ (50 ≤ i ∧ i < 114 ∧ (i - 50) % 4 < 2) ∨ i = 114 ∨ i = 117 ∨ i = 120 ∨ i = 123 ∨ (278 ≤ i ∧ i < 278 + 42 * I 96 9)
    · exact hr hi
    · refine ⟨?_, ?_, ?_, ?_⟩
      · rw [lf_up_i (by omega), lf_up_i (by omega), lf_up_i (by omega)]; exact h.2.2.2.1.1
      · intro w h0 h1 h2
        rw [lf_up_i (by omega)] at h2
        rw [lf_up_i (by omega), lf_up_i (by omega), lf_up_i (by omega)]
        exact h.2.2.2.1.2.1 w h0 h1 h2
      · unfold iv_s4
        rw [lf_up_i (by omega), lf_up_i (by omega), lf_up_i (by omega), lf_up_i (by omega)]
        exact h.2.2.2.1.2.2.1
      · intro r h0 h1
        rw [lf_up_i (by omega)] at h1
        unfold iv_s4
        rw [lf_up_i (by omega), lf_up_i (by omega), lf_up_i (by omega), lf_up_i (by omega)]
        exact h.2.2.2.1.2.2.2 r h0 h1
  · unfold iv_l; rw [lf_up_row (by decide)]; exact h.2.2.2.2
theorem iv_szc {f f' : Int → Int} (h : iv_sz f) (e9 : f' 9 ≤ f 9) (e : ∀ j : Int, 114 ≤ j → j < 126 ∨ 278 ≤ j → f' j = f j) : iv_sz f' := by
  refine ⟨?_, fun r h0 h1 => ?_⟩
  · unfold iv_s4
    rw [e _ (by omega) (by omega), e _ (by omega) (by omega), e _ (by omega) (by omega), e _ (by omega) (by omega)]
    exact h.1
  · unfold iv_s4
    rw [e _ (by omega) (by omega), e _ (by omega) (by omega), e _ (by omega) (by omega), e _ (by omega) (by omega)]
    exact h.2 r h0 (by omega)
theorem iv_szu (h : iv_A I P) (hi : i < 114) (h9 : i ≠ 9) : iv_sz (lf_up I 96 i v 96) := iv_szc h.2.2.2.1.2.2 (by rw [lf_up_i (by omega)]; exact Int.le_refl _) (fun j a b => lf_up_i (by omega))
theorem iv_rel0 (h : iv_A I P) (hv : 0 < v ∧ I 96 0 ≤ v) : iv_l (lf_up I 96 0 v) 96 := by
  refine ⟨fun _ => by rw [lf_up_s]; exact hv.1, fun w h0 h1 h2 => ?_, iv_szu h (by decide) (by decide)⟩
  rw [lf_up_i (by decide)] at h2
  have e1 : lf_up I 96 0 v 96 (50 + 4 * w) = I 96 (50 + 4 * w) := lf_up_i (by omega)
  have e2 : lf_up I 96 0 v 96 (50 + 4 * w + 1) = I 96 (50 + 4 * w + 1) := lf_up_i (by omega)
  rw [e1, e2, lf_up_s]
  have := h.2.2.2.1.2.1 w h0 h1 h2
  omega
theorem iv_rel1 (h : iv_A I P) (hv : 0 < I 96 0) (hw : v ≤ I 96 1 + 1) (e1 : I 96 (50 + 4 * I 96 1) < I 96 0) (e2 : I 96 (50 + 4 * I 96 1 + 1) < I 96 0) : iv_l (lf_up I 96 1 v) 96 := by
  have hn : 0 ≤ I 96 1 := (h.1 96 1).1
  refine ⟨fun _ => by rw [lf_up_i (by decide)]; exact hv, fun w h0 h1 h2 => ?_, iv_szu h (by decide) (by decide)⟩
  rw [lf_up_s] at h2
  rw [lf_up_i (by omega), lf_up_i (by omega), lf_up_i (by omega)]
  by_cases hq : w = I 96 1
  · rw [hq]; exact ⟨e1, e2⟩
  · exact h.2.2.2.1.2.1 w h0 h1 (by omega)
theorem iv_rel2 (h : iv_A I P) (hv : 0 < I 96 0) : iv_l (lf_up I 96 2 v) 96 := by
  refine ⟨fun _ => by rw [lf_up_i (by decide)]; exact hv, fun w h0 h1 h2 => ?_, iv_szu h (by decide) (by decide)⟩
  rw [lf_up_i (by omega)] at h2
  rw [lf_up_i (by omega), lf_up_i (by omega), lf_up_i (by omega)]
  exact h.2.2.2.1.2.1 w h0 h1 h2
theorem iv_relw (h : iv_A I P) (hi : 50 + 4 * I 96 1 ≤ i ∧ i < 114) : iv_l (lf_up I 96 i v) 96 := by
  have hn : 0 ≤ I 96 1 := (h.1 96 1).1
  refine ⟨?_, fun w h0 h1 h2 => ?_, iv_szu h (by omega) (by omega)⟩
  · rw [lf_up_i (by omega), lf_up_i (by omega), lf_up_i (by omega)]; exact h.2.2.2.1.1
  · rw [lf_up_i (by omega)] at h2
    rw [lf_up_i (by omega), lf_up_i (by omega), lf_up_i (by omega)]
    exact h.2.2.2.1.2.1 w h0 h1 h2
theorem iv_rlo (h : iv_A I P) (hi : 3 ≤ i) (hi2 : i < 50 ∨ 114 ≤ i) : (0 < lf_up I 96 i v 96 1 ∨ 0 < lf_up I 96 i v 96 2 → 0 < lf_up I 96 i v 96 0) ∧ iv_ep (lf_up I 96 i v 96) := by
  refine ⟨?_, fun w h0 h1 h2 => ?_⟩
  · rw [lf_up_i (by omega), lf_up_i (by omega), lf_up_i (by omega)]; exact h.2.2.2.1.1
  · rw [lf_up_i (by omega)] at h2
    rw [lf_up_i (by omega), lf_up_i (by omega), lf_up_i (by omega)]
    exact h.2.2.2.1.2.1 w h0 h1 h2
theorem iv_rel9 (h : iv_A I P) (hv : v ≤ I 96 9) : iv_l (lf_up I 96 9 v) 96 := by
  have a := iv_rlo (v := v) h (i := 9) (by decide) (by decide)
  exact ⟨a.1, a.2, iv_szc h.2.2.2.1.2.2 (by rw [lf_up_s]; exact hv) (fun j a b => lf_up_i (by omega))⟩
theorem iv_rel9u (h : iv_A I P) (hv : v ≤ I 96 9 + 1) (hs : iv_s4 (I 96) (278 + 42 * I 96 9 + 5)) : iv_l (lf_up I 96 9 v) 96 := by
  have a := iv_rlo (v := v) h (i := 9) (by decide) (by decide)
  have hn : 0 ≤ I 96 9 := (h.1 96 9).1
  refine ⟨a.1, a.2, ?_, fun r h0 h1 => ?_⟩
  · unfold iv_s4
    rw [lf_up_i (by omega), lf_up_i (by omega), lf_up_i (by omega), lf_up_i (by omega)]
    exact h.2.2.2.1.2.2.1
  · rw [lf_up_s] at h1
    unfold iv_s4
    rw [lf_up_i (by omega), lf_up_i (by omega), lf_up_i (by omega), lf_up_i (by omega)]
    by_cases hq : r = I 96 9
    · rw [hq]; exact hs
    · exact h.2.2.2.1.2.2.2 r h0 (by omega)
theorem iv_szA (h : iv_A I P) : I 96 114 + I 96 117 + I 96 120 + I 96 123 ≤ 24 := h.2.2.2.1.2.2.1
theorem iv_rels (h : iv_A I P) (hi : i = 114 ∨ i = 117 ∨ i = 120 ∨ i = 123) (hv : I 96 114 + I 96 117 + I 96 120 + I 96 123 - I 96 i + v ≤ 24) : iv_l (lf_up I 96 i v) 96 := by
  have a := iv_rlo (v := v) h (i := i) (by omega) (by omega)
  refine ⟨a.1, a.2, ?_, fun r h0 h1 => ?_⟩
  · show lf_up I 96 i v 96 114 + lf_up I 96 i v 96 117 + lf_up I 96 i v 96 120 + lf_up I 96 i v 96 123 ≤ 24
    rcases hi with rfl | rfl | rfl | rfl
    · rw [lf_up_s, lf_up_i (by decide), lf_up_i (by decide), lf_up_i (by decide)]; omega
    · rw [lf_up_s, lf_up_i (b := 114) (by decide), lf_up_i (b := 120) (by decide), lf_up_i (b := 123) (by decide)]; omega
    · rw [lf_up_s, lf_up_i (b := 114) (by decide), lf_up_i (b := 117) (by decide), lf_up_i (b := 123) (by decide)]; omega
    · rw [lf_up_s, lf_up_i (b := 114) (by decide), lf_up_i (b := 117) (by decide), lf_up_i (b := 120) (by decide)]; omega
  · rw [lf_up_i (by omega)] at h1
    unfold iv_s4
    rw [lf_up_i (by omega), lf_up_i (by omega), lf_up_i (by omega), lf_up_i (by omega)]
    exact h.2.2.2.1.2.2.2 r h0 h1
theorem iv_wd96 (h : iv_A I P) (hv : (iv_a i).1 ≤ v ∧ v ≤ (iv_a i).2) (hr : i < 3 ∨ i = 9 ∨ (50 ≤ i ∧ i < 114 ∧ (i - 50) % 4 < 2) ∨ i = 114 ∨ i = 117 ∨ i = 120 ∨ i = 123 ∨ (278 ≤ i ∧ i < 278 + 42 * I 96 9) → iv_l (lf_up I 96 i v) 96) : iv_A (lf_up I 96 i v) P := iv_w96' h hv hr
theorem iv_rd96 {p q : Int} (h : iv_A I P) (hr : p ≤ (iv_a i).1 ∧ (iv_a i).2 ≤ q) : p ≤ I 96 i ∧ I 96 i ≤ q := ⟨Int.le_trans hr.1 (h.1 96 i).1, Int.le_trans (h.1 96 i).2 hr.2⟩
theorem iv_rd97 {p q : Int} (h : iv_A I P) (hr : p ≤ (iv_a i).1 ∧ (iv_a i).2 ≤ q) : p ≤ I 97 i ∧ I 97 i ≤ q := ⟨Int.le_trans hr.1 (h.1 97 i).1, Int.le_trans (h.1 97 i).2 hr.2⟩
theorem iv_rd23 {p q : Int} (h : iv_A I P) (hr : p ≤ (iv_s i).1 ∧ (iv_s i).2 ≤ q) : p ≤ I 23 i ∧ I 23 i ≤ q := ⟨Int.le_trans hr.1 (h.1 23 i).1, Int.le_trans (h.1 23 i).2 hr.2⟩
theorem iv_rd87 {p q : Int} (h : iv_A I P) (hr : p ≤ (iv_s i).1 ∧ (iv_s i).2 ≤ q) : p ≤ I 87 i ∧ I 87 i ≤ q := ⟨Int.le_trans hr.1 (h.1 87 i).1, Int.le_trans (h.1 87 i).2 hr.2⟩
theorem iv_rd98 {p q : Int} (h : iv_A I P) (hr : p ≤ (iv_x i).1 ∧ (iv_x i).2 ≤ q) : p ≤ I 98 i ∧ I 98 i ≤ q := ⟨Int.le_trans hr.1 (h.1 98 i).1, Int.le_trans (h.1 98 i).2 hr.2⟩
theorem iv_wd98 (h : iv_A I P) (hv : (iv_x i).1 ≤ v ∧ v ≤ (iv_x i).2) (hk : wk_T (lf_up I 98 i v 98)) : iv_A (lf_up I 98 i v) P := by
  obtain ⟨s1, s2, s3, s4, s5⟩ := h.2.2.1
  refine ⟨iv_up h.1 hv, h.2.1, ⟨?_, ?_, ?_, ?_, hk⟩, ?_, ?_⟩
  · unfold iv_sq; rw [lf_up_row (by decide), lf_up_row (by decide)]; exact s1
  · unfold iv_sq; rw [lf_up_row (by decide), lf_up_row (by decide)]; exact s2
  · unfold iv_sr; rw [lf_up_row (by decide)]; exact s3
  · unfold iv_sr; rw [lf_up_row (by decide)]; exact s4
  · unfold iv_l; rw [lf_up_row (by decide)]; exact h.2.2.2.1
  · unfold iv_l; rw [lf_up_row (by decide)]; exact h.2.2.2.2
theorem iv_sp (h : iv_A I P) (h0 : 0 ≤ i) (h1 : i < 4) : I 16 i ≤ 0 ∨ 0 ≤ I 17 i := h.2.2.1.1 i h0 h1
theorem iv_w16 (h : iv_A I P) (hb : -2147483648 ≤ v ∧ v ≤ 2147483647) (hs : v ≤ 0 ∨ 0 ≤ I 17 i) : iv_A (lf_up I 16 i v) P := by
  refine ⟨iv_up h.1 hb, h.2.1, ⟨?_, ?_, ?_, ?_, (by rw [lf_up_row (by decide)]; exact h.2.2.1.2.2.2.2)⟩, h.2.2.2.1, h.2.2.2.2⟩
  · intro j h0 h1
    rw [lf_up_c (show 17 ≠ 16 by decide)]
    by_cases hj : j = i
    · subst hj; rw [lf_up_s]; exact hs
    · rw [lf_up_i hj]; exact h.2.2.1.1 j h0 h1
  · intro j h0 h1; rw [lf_up_c (by decide), lf_up_c (by decide)]; exact h.2.2.1.2.1 j h0 h1
  · intro r j h0 h1; rw [lf_up_c (by decide), lf_up_c (by decide)]; exact h.2.2.1.2.2.1 r j h0 h1
  · intro r j h0 h1; rw [lf_up_c (by decide), lf_up_c (by decide)]; exact h.2.2.1.2.2.2.1 r j h0 h1
theorem iv_w17 (h : iv_A I P) (hb : -1 ≤ v ∧ v ≤ 11) (hs : I 16 i ≤ 0 ∨ 0 ≤ v) : iv_A (lf_up I 17 i v) P := by
  refine ⟨iv_up h.1 hb, h.2.1, ⟨?_, ?_, ?_, ?_, (by rw [lf_up_row (by decide)]; exact h.2.2.1.2.2.2.2)⟩, h.2.2.2.1, h.2.2.2.2⟩
  · intro j h0 h1
    rw [lf_up_c (show 16 ≠ 17 by decide)]
    by_cases hj : j = i
    · subst hj; rw [lf_up_s]; exact hs
    · rw [lf_up_i hj]; exact h.2.2.1.1 j h0 h1
  · intro j h0 h1; rw [lf_up_c (by decide), lf_up_c (by decide)]; exact h.2.2.1.2.1 j h0 h1
  · intro r j h0 h1; rw [lf_up_c (by decide), lf_up_c (by decide)]; exact h.2.2.1.2.2.1 r j h0 h1
  · intro r j h0 h1; rw [lf_up_c (by decide), lf_up_c (by decide)]; exact h.2.2.1.2.2.2.1 r j h0 h1
theorem iv_ref0 (h : iv_A I P) : ∃ w, P 0 = some w ∧ (w = 72 ∨ w = 73) := h.2.1.1
theorem iv_ref1 (h : iv_A I P) : ∃ w, P 1 = some w ∧ (w = 72 ∨ w = 73) := h.2.1.2.1
theorem iv_t2 {t : Nat} (h : iv_A I P) (e : P 2 = some t) : t < 4 := h.2.1.2.2.1 t e
theorem iv_t3 {t : Nat} (h : iv_A I P) (e : P 3 = some t) : t < 4 := h.2.1.2.2.2 t e
theorem iv_uw0 {w : Nat} (h : iv_A I P) (hw : w = 72 ∨ w = 73) : iv_A I (lf_ur P 0 (some w)) := ⟨h.1, ⟨⟨w, rfl, hw⟩, h.2.1.2.1, h.2.1.2.2⟩, h.2.2⟩
theorem iv_uw1 {w : Nat} (h : iv_A I P) (hw : w = 72 ∨ w = 73) : iv_A I (lf_ur P 1 (some w)) := ⟨h.1, ⟨h.2.1.1, ⟨w, rfl, hw⟩, h.2.1.2.2⟩, h.2.2⟩
theorem iv_ut2 {t : Nat} (h : iv_A I P) (ht : t < 4) : iv_A I (lf_ur P 2 (some t)) := ⟨h.1, ⟨h.2.1.1, h.2.1.2.1, fun u e => by cases e; exact ht, h.2.1.2.2.2⟩, h.2.2⟩
theorem iv_ut3 {t : Nat} (h : iv_A I P) (ht : t < 4) : iv_A I (lf_ur P 3 (some t)) := ⟨h.1, ⟨h.2.1.1, h.2.1.2.1, h.2.1.2.2.1, fun u e => by cases e; exact ht⟩, h.2.2⟩
theorem iv_un3 (h : iv_A I P) : iv_A I (lf_ur P 3 none) := ⟨h.1, ⟨h.2.1.1, h.2.1.2.1, h.2.1.2.2.1, fun u e => by cases e⟩, h.2.2⟩
theorem lf_ur2 {t : Nat} : lf_ur P 2 (some t) 2 ≠ none := by intro h; cases h
theorem iv_fill {n : Int} (h : iv_A I P) (hc : iv_fr8 c = true) (hv : ∀ j, (iv_B c j).1 ≤ v ∧ v ≤ (iv_B c j).2) : iv_A (lf_fl I c n v) P := by
  obtain ⟨a1, a2, a3, a4, a5, a6, a7, a8, a9⟩ := iv_fr8e hc
  have row : ∀ {a : Nat}, a ≠ c → lf_fl I c n v a = I a := fun ha => funext fun b => lf_fl_c ha
  refine ⟨?_, h.2.1, iv_Sc h.2.2.1 (row a1) (row a2) (row a3) (row a4) (row a5) (row a6) (row a9), ?_, ?_⟩
  · intro a b
    unfold lf_fl
    by_cases hq : a = c ∧ 0 ≤ b ∧ b < n
    · rw [if_pos hq, hq.1]; exact hv b
    · rw [if_neg hq]; exact h.1 a b
  · unfold iv_l; rw [row a7]; exact h.2.2.2.1
  · unfold iv_l; rw [row a8]; exact h.2.2.2.2
theorem iv_copy {p q n : Int} (h : iv_A I P) (hc : iv_fr8 c1 = true) (hv : ∀ j k, (iv_B c1 j).1 ≤ (iv_B c0 k).1 ∧ (iv_B c0 k).2 ≤ (iv_B c1 j).2) : iv_A (lf_cp I c0 c1 p q n) P := by
  obtain ⟨a1, a2, a3, a4, a5, a6, a7, a8, a9⟩ := iv_fr8e hc
  have row : ∀ {a : Nat}, a ≠ c1 → lf_cp I c0 c1 p q n a = I a := fun ha => funext fun b => lf_cp_c ha
  refine ⟨?_, h.2.1, iv_Sc h.2.2.1 (row a1) (row a2) (row a3) (row a4) (row a5) (row a6) (row a9), ?_, ?_⟩
  · intro a b
    unfold lf_cp
    by_cases hq : a = c1 ∧ q ≤ b ∧ b < q + n
    · rw [if_pos hq, hq.1]; exact lf_le2 (hv b (p + (b - q))) (h.1 c0 _)
    · rw [if_neg hq]; exact h.1 a b
  · unfold iv_l; rw [row a7]; exact h.2.2.2.1
  · unfold iv_l; rw [row a8]; exact h.2.2.2.2
theorem iv_cpR (h : iv_A I P) (hq : c0 = 23 ∧ c1 = 87 ∨ c0 = 87 ∧ c1 = 23) : iv_A (lf_cp I c0 c1 0 0 1170) P := by
  have e : ∀ j, lf_cp I c0 c1 0 0 1170 c1 j = if 0 ≤ j ∧ j < 1170 then I c0 j else I c1 j := by
    intro j
    unfold lf_cp
    by_cases hj : 0 ≤ j ∧ j < 0 + 1170
    · rw [if_pos ⟨rfl, hj⟩, if_pos (by omega), show (0 : Int) + (j - 0) = j by omega]
    · rw [if_neg (fun h9 => hj h9.2), if_neg (by omega)]
  have row : ∀ {a : Nat}, a ≠ c1 → lf_cp I c0 c1 0 0 1170 a = I a := fun ha => funext fun b => lf_cp_c ha
  have sr : iv_sr I c0 → iv_sr I c1 → iv_sr (lf_cp I c0 c1 0 0 1170) c1 := by
    intro h0 h1 r j a b
    rw [e, e]
    by_cases hj : 0 ≤ 39 * r + 3 * j ∧ 39 * r + 3 * j < 1170
    · rw [if_pos hj]
      by_cases hk : 0 ≤ 39 * r + 3 * j + 1 ∧ 39 * r + 3 * j + 1 < 1170
      · rw [if_pos hk]; exact h0 r j a b
      · omega
    · rw [if_neg hj]
      by_cases hk : 0 ≤ 39 * r + 3 * j + 1 ∧ 39 * r + 3 * j + 1 < 1170
      · omega
      · rw [if_neg hk]; exact h1 r j a b
  have hI : iv_I (lf_cp I c0 c1 0 0 1170) := by
    intro a b
    unfold lf_cp
    by_cases hz : a = c1 ∧ 0 ≤ b ∧ b < 0 + 1170
    · rw [if_pos hz, hz.1, show (0 : Int) + (b - 0) = b by omega]
      rcases hq with ⟨rfl, rfl⟩ | ⟨rfl, rfl⟩
      · exact h.1 23 b
      · exact h.1 87 b
    · rw [if_neg hz]; exact h.1 a b
  obtain ⟨s1, s2, s3, s4, s5⟩ := h.2.2.1
  rcases hq with ⟨rfl, rfl⟩ | ⟨rfl, rfl⟩
  · refine ⟨hI, h.2.1, ⟨?_, ?_, ?_, sr s3 s4, (by rw [row (by decide)]; exact s5)⟩, ?_, ?_⟩
    · unfold iv_sq; rw [row (by decide), row (by decide)]; exact s1
    · unfold iv_sq; rw [row (by decide), row (by decide)]; exact s2
    · unfold iv_sr; rw [row (by decide)]; exact s3
    · unfold iv_l; rw [row (by decide)]; exact h.2.2.2.1
    · unfold iv_l; rw [row (by decide)]; exact h.2.2.2.2
  · refine ⟨hI, h.2.1, ⟨?_, ?_, sr s4 s3, ?_, (by rw [row (by decide)]; exact s5)⟩, ?_, ?_⟩
    · unfold iv_sq; rw [row (by decide), row (by decide)]; exact s1
    · unfold iv_sq; rw [row (by decide), row (by decide)]; exact s2
    · unfold iv_sr; rw [row (by decide)]; exact s4
    · unfold iv_l; rw [row (by decide)]; exact h.2.2.2.1
    · unfold iv_l; rw [row (by decide)]; exact h.2.2.2.2
/-! frames -/
def fr_g (r : Nat) (i : Int) : Prop := match r with
  | 0 => i = 11 ∨ (254 ≤ i ∧ i < 278)
  | 1 => i = 10 ∨ (162 ≤ i ∧ i < 174)
  | 2 => 174 ≤ i ∧ i < 254
  | 3 => i = 7 ∨ i = 8
  | 4 => i = 0 ∨ i = 1 ∨ i = 2 ∨ (14 ≤ i ∧ i < 50 ∧ (i - 14) % 3 ≠ 2) ∨ (50 ≤ i ∧ i < 114 ∧ (i - 50) % 4 ≠ 3) ∨ (126 ≤ i ∧ i < 162 ∧ (i - 126) % 6 ≠ 3 ∧ (i - 126) % 6 ≠ 4)
  | 5 => i = 9 ∨ 278 ≤ i
  | 6 => i = 3 ∨ i = 6 ∨ (14 ≤ i ∧ i < 50 ∧ (i - 14) % 3 = 2) ∨ (50 ≤ i ∧ i < 114 ∧ (i - 50) % 4 = 3) ∨ (114 ≤ i ∧ i < 126) ∨ (126 ≤ i ∧ i < 162 ∧ ((i - 126) % 6 = 3 ∨ (i - 126) % 6 = 4))
  | _ => False
theorem fr_n0 {i : Int} (h : i ≠ 11 ∧ (i < 254 ∨ 278 ≤ i)) : ¬ fr_g 0 i := fun hg => by have hg : i = 11 ∨ (254 ≤ i ∧ i < 278) := hg; omega
theorem fr_n1 {i : Int} (h : i ≠ 10 ∧ (i < 162 ∨ 174 ≤ i)) : ¬ fr_g 1 i := fun hg => by have hg : i = 10 ∨ (162 ≤ i ∧ i < 174) := hg; omega
theorem fr_n2 {i : Int} (h : i < 174 ∨ 254 ≤ i) : ¬ fr_g 2 i := fun hg => by have hg : 174 ≤ i ∧ i < 254 := hg; omega
theorem fr_n3 {i : Int} (h : i ≠ 7 ∧ i ≠ 8) : ¬ fr_g 3 i := fun hg => by have hg : i = 7 ∨ i = 8 := hg; omega
theorem fr_n4 {i : Int} (h : (i < 0 ∨ 2 < i) ∧ (14 ≤ i → i < 50 → (i - 14) % 3 = 2) ∧ (50 ≤ i → i < 114 → (i - 50) % 4 = 3) ∧ (126 ≤ i → i < 162 → (i - 126) % 6 = 3 ∨ (i - 126) % 6 = 4)) : ¬ fr_g 4 i := fun hg => by
  have hg : i = 0 ∨ i = 1 ∨ i = 2 ∨ (14 ≤ i ∧ i < 50 ∧ (i - 14) % 3 ≠ 2) ∨ (50 ≤ i ∧ i < 114 ∧ (i - 50) % 4 ≠ 3) ∨ (126 ≤ i ∧ i < 162 ∧ (i - 126) % 6 ≠ 3 ∧ (i - 126) % 6 ≠ 4) := hg
  obtain ⟨h1, h2, h3, h4⟩ := h
  rcases hg with hg | hg | hg | ⟨a, b, c⟩ | ⟨a, b, c⟩ | ⟨a, b, c, d⟩
  · omega
  · omega
  · omega
  · exact c (h2 a b)
  · exact c (h3 a b)
  · rcases h4 a b with e | e
    · exact c e
    · exact d e
theorem fr_n5 {i : Int} (h : i ≠ 9 ∧ i < 278) : ¬ fr_g 5 i := fun hg => by have hg : i = 9 ∨ 278 ≤ i := hg; omega
theorem fr_n6 {i : Int} (h : i ≠ 3 ∧ i ≠ 6 ∧ (14 ≤ i → i < 50 → (i - 14) % 3 ≠ 2) ∧ (50 ≤ i → i < 114 → (i - 50) % 4 ≠ 3) ∧ (i < 114 ∨ 126 ≤ i) ∧ (126 ≤ i → i < 162 → (i - 126) % 6 ≠ 3 ∧ (i - 126) % 6 ≠ 4)) : ¬ fr_g 6 i := fun hg => by
  have hg : i = 3 ∨ i = 6 ∨ (14 ≤ i ∧ i < 50 ∧ (i - 14) % 3 = 2) ∨ (50 ≤ i ∧ i < 114 ∧ (i - 50) % 4 = 3) ∨ (114 ≤ i ∧ i < 126) ∨ (126 ≤ i ∧ i < 162 ∧ ((i - 126) % 6 = 3 ∨ (i - 126) % 6 = 4)) := hg
  obtain ⟨h1, h2, h3, h4, h5, h6⟩ := h
  rcases hg with hg | hg | ⟨a, b, c⟩ | ⟨a, b, c⟩ | ⟨a, b⟩ | ⟨a, b, c⟩
  · exact h1 hg
  · exact h2 hg
  · exact h3 a b c
  · exact h4 a b c
  · omega
  · rcases c with e | e
    · exact (h6 a b).1 e
    · exact (h6 a b).2 e
theorem fr_o {l : List Nat} {i : Int} (h0 : l.contains 1000 = true ∨ ¬ fr_g 0 i) (h1 : l.contains 1001 = true ∨ ¬ fr_g 1 i) (h2 : l.contains 1002 = true ∨ ¬ fr_g 2 i) (h3 : l.contains 1003 = true ∨ ¬ fr_g 3 i) (h4 : l.contains 1004 = true ∨ ¬ fr_g 4 i) (h5 : l.contains 1005 = true ∨ ¬ fr_g 5 i) (h6 : l.contains 1006 = true ∨ ¬ fr_g 6 i) : ∀ r, l.contains (1000 + r) = false → ¬ fr_g r i := by
  intro r hr
  have key : ∀ {k : Nat}, (l.contains (1000 + k) = true ∨ ¬ fr_g k i) → l.contains (1000 + k) = false → ¬ fr_g k i := by
    intro k h hk
    rcases h with e | e
    · rw [e] at hk; cases hk
    · exact e
  match r, hr with
  | 0, hr => exact key (k := 0) h0 hr
  | 1, hr => exact key (k := 1) h1 hr
  | 2, hr => exact key (k := 2) h2 hr
  | 3, hr => exact key (k := 3) h3 hr
  | 4, hr => exact key (k := 4) h4 hr
  | 5, hr => exact key (k := 5) h5 hr
  | 6, hr => exact key (k := 6) h6 hr
  | n + 7, _ => exact fun h => h
theorem fr_x {l : List Nat} {r k : Nat} {i : Int} (hk : l.contains (1000 + k) = true) (hr : l.contains (1000 + r) = false) (hi : fr_g r i) (hn : r ≠ k → ¬ fr_g r i) : False := by
  by_cases e : r = k
  · rw [e, hk] at hr; cases hr
  · exact hn e hi
theorem fr_x5 {l : List Nat} {r : Nat} {i : Int} (hk : l.contains 1005 = true) (hr : l.contains (1000 + r) = false) (hi : fr_g r i) (h : 278 ≤ i) : False := by
  refine fr_x (k := 5) hk hr hi (fun hn => ?_)
  match r, hn with
  | 0, _ => exact fr_n0 (by omega)
  | 1, _ => exact fr_n1 (by omega)
  | 2, _ => exact fr_n2 (by omega)
  | 3, _ => exact fr_n3 (by omega)
  | 4, _ => exact fr_n4 (by omega)
  | 5, hn => exact absurd rfl hn
  | 6, _ => exact fr_n6 (by omega)
  | n + 7, _ => exact fun h => h
theorem fr_x6 {l : List Nat} {r : Nat} {i : Int} (hk : l.contains 1006 = true) (hr : l.contains (1000 + r) = false) (hi : fr_g r i) (h : 114 ≤ i ∧ i < 126) : False := by
  refine fr_x (k := 6) hk hr hi (fun hn => ?_)
  match r, hn with
  | 0, _ => exact fr_n0 (by omega)
  | 1, _ => exact fr_n1 (by omega)
  | 2, _ => exact fr_n2 (by omega)
  | 3, _ => exact fr_n3 (by omega)
  | 4, _ => exact fr_n4 (by omega)
  | 5, _ => exact fr_n5 (by omega)
  | 6, hn => exact absurd rfl hn
  | n + 7, _ => exact fun h => h
def lf_fq (l : List Nat) (w : Int) (b : Bool) (I : Nat → Int → Int) (P : Nat → Option Nat) (I' : Nat → Int → Int) (P' : Nat → Option Nat) : Prop := (∀ c, l.contains c = false → I' c = I c) ∧ (∀ i, i < w → I' 96 i = I 96 i) ∧ (b = true → P' = P) ∧ (∀ r, l.contains (1000 + r) = false → ∀ i, fr_g r i → I' 96 i = I 96 i)
variable {I' I'' : Nat → Int → Int} {P' P'' : Nat → Option Nat} {l l' : List Nat} {w w' : Int} {b b' : Bool}
theorem lf_fq_rf : lf_fq l w b I P I P := ⟨fun _ _ => rfl, fun _ _ => rfl, fun _ => rfl, fun _ _ _ _ => rfl⟩
theorem lf_fq_tr (h1 : lf_fq l w b I P I' P') (h2 : lf_fq l w b I' P' I'' P'') : lf_fq l w b I P I'' P'' := ⟨fun c hc => (h2.1 c hc).trans (h1.1 c hc), fun i hi => (h2.2.1 i hi).trans (h1.2.1 i hi), fun hb => (h2.2.2.1 hb).trans (h1.2.2.1 hb), fun r hr i hi => (h2.2.2.2 r hr i hi).trans (h1.2.2.2 r hr i hi)⟩
theorem lf_fq_wk (h : lf_fq l' w' b' I P I' P') (hl : l'.all (fun c => l.contains c) = true) (hw : w ≤ w') (hb : (b && !b') = false) : lf_fq l w b I P I' P' := by
  have hc9 : ∀ c, l.contains c = false → l'.contains c = false := by
    intro c hc
    cases hq : l'.contains c with
    | false => rfl
    | true =>
      have := List.all_eq_true.mp hl c (by simpa using hq)
      rw [this] at hc
      cases hc
  refine ⟨fun c hc => h.1 c (hc9 c hc), fun i hi => h.2.1 i (Int.lt_of_lt_of_le hi hw), fun h9 => h.2.2.1 ?_, fun r hr i hi => h.2.2.2 r (hc9 _ hr) i hi⟩
  · cases b' with
    | true => rfl
    | false => subst h9; cases hb
theorem lf_fq_up (h : lf_fq l w b I P I' P') (hc : l.contains c = true) (h96 : c = 96 → w ≤ i ∧ ∀ r, l.contains (1000 + r) = false → ¬ fr_g r i) : lf_fq l w b I P (lf_up I' c i v) P' := by
  refine ⟨fun a ha => ?_, fun j hj => ?_, h.2.2.1, fun r hr j hj => ?_⟩
  · rw [lf_up_row (fun e => by rw [e, hc] at ha; cases ha)]; exact h.1 a ha
  · by_cases h9 : c = 96
    · have := (h96 h9).1
      subst h9
      rw [lf_up_i (by omega)]; exact h.2.1 j hj
    · rw [lf_up_c (fun e => h9 e.symm)]; exact h.2.1 j hj
  · by_cases h9 : c = 96
    · have hn := (h96 h9).2 r hr
      subst h9
      rw [lf_up_i (fun e => by subst e; exact hn hj)]; exact h.2.2.2 r hr j hj
    · rw [lf_up_c (fun e => h9 e.symm)]; exact h.2.2.2 r hr j hj
theorem lf_t4 {t : Nat} (ht : t < 4) {q : Nat} (h : (l.contains q && (l.contains (q + 7) && (l.contains (q + 14) && l.contains (q + 21)))) = true) : l.contains (q + 7 * t) = true := by
  rw [Bool.and_eq_true, Bool.and_eq_true, Bool.and_eq_true] at h
  match t, ht with
  | 0, _ => exact h.1
  | 1, _ => exact h.2.1
  | 2, _ => exact h.2.2.1
  | 3, _ => exact h.2.2.2
theorem lf_fq_upT {t q : Nat} (h : lf_fq l w b I P I' P') (ht : t < 4) (hc : (l.contains q && (l.contains (q + 7) && (l.contains (q + 14) && l.contains (q + 21)))) = true) (h96 : q ≤ 62) : lf_fq l w b I P (lf_up I' (q + 7 * t) i v) P' := lf_fq_up h (lf_t4 ht hc) (fun h => by omega)
theorem lf_fq_bk (h : lf_fq l w b I P I' P') (hc : l.contains c = true) (h96 : c ≠ 96) (hr : ∀ a, a ≠ c → I'' a = I' a) : lf_fq l w b I P I'' P' := by
  refine ⟨fun a ha => ?_, fun j hj => ?_, h.2.2.1, fun r hr2 j hj => ?_⟩
  · rw [hr a (fun e => by rw [e, hc] at ha; cases ha)]; exact h.1 a ha
  · rw [hr 96 (fun e => h96 e.symm)]; exact h.2.1 j hj
  · rw [hr 96 (fun e => h96 e.symm)]; exact h.2.2.2 r hr2 j hj
theorem lf_fq_cp {p q n : Int} (h : lf_fq l w b I P I' P') (hc : l.contains c1 = true) (h96 : c1 ≠ 96) : lf_fq l w b I P (lf_cp I' c0 c1 p q n) P' := lf_fq_bk h hc h96 (fun a ha => funext fun x => lf_cp_c ha)
theorem lf_fq_fl {n : Int} (h : lf_fq l w b I P I' P') (hc : l.contains c = true) (h96 : c ≠ 96) : lf_fq l w b I P (lf_fl I' c n v) P' := lf_fq_bk h hc h96 (fun a ha => funext fun x => lf_fl_c ha)
theorem lf_fq_flT {t q : Nat} {n : Int} (h : lf_fq l w b I P I' P') (ht : t < 4) (hc : (l.contains q && (l.contains (q + 7) && (l.contains (q + 14) && l.contains (q + 21)))) = true) (h96 : q ≤ 62) : lf_fq l w b I P (lf_fl I' (q + 7 * t) n v) P' := lf_fq_fl h (lf_t4 ht hc) (by omega)
theorem lf_fq_pp (h : lf_fq l w false I P I' P') : lf_fq l w false I P I' P'' := ⟨h.1, h.2.1, (fun h => by cases h), h.2.2.2⟩
theorem lf_fq_n3 (h : lf_fq l w b I P I' P') (hb : b = true) (h2 : P 3 ≠ none) : P' 3 ≠ none := by rw [h.2.2.1 hb]; exact h2
theorem lf_sn3 {t : Nat} (e : P 3 = some t) : P 3 ≠ none := by rw [e]; intro h; cases h
theorem lf_sn2 {t : Nat} (e : P 2 = some t) : P 2 ≠ none := by rw [e]; intro h; cases h
theorem lf_fq_n2 (h : lf_fq l w b I P I' P') (hb : b = true) (h2 : P 2 ≠ none) : P' 2 ≠ none := by rw [h.2.2.1 hb]; exact h2
theorem iv_rT_1 {t : Nat} (h : iv_A I P) (ht : t < 4) : 0 ≤ I (35 + 7 * t) 1 ∧ I (35 + 7 * t) 1 ≤ 300 := by
  match t, ht with
  | 0, _ => exact h.1 35 1
  | 1, _ => exact h.1 42 1
  | 2, _ => exact h.1 49 1
  | 3, _ => exact h.1 56 1
theorem iv_rT_7 {t : Nat} (h : iv_A I P) (ht : t < 4) : 0 ≤ I (35 + 7 * t) 7 ∧ I (35 + 7 * t) 7 ≤ 24 := by
  match t, ht with
  | 0, _ => exact h.1 35 7
  | 1, _ => exact h.1 42 7
  | 2, _ => exact h.1 49 7
  | 3, _ => exact h.1 56 7
theorem iv_wT_1 {t : Nat} (h : iv_A I P) (ht : t < 4) (hv : 0 ≤ v ∧ v ≤ 300) : iv_A (lf_up I (35 + 7 * t) 1 v) P := by
  match t, ht with
  | 0, _ => exact iv_wr h rfl hv
  | 1, _ => exact iv_wr h rfl hv
  | 2, _ => exact iv_wr h rfl hv
  | 3, _ => exact iv_wr h rfl hv
theorem iv_wT_7 {t : Nat} (h : iv_A I P) (ht : t < 4) (hv : 0 ≤ v ∧ v ≤ 24) : iv_A (lf_up I (35 + 7 * t) 7 v) P := by
  match t, ht with
  | 0, _ => exact iv_wr h rfl hv
  | 1, _ => exact iv_wr h rfl hv
  | 2, _ => exact iv_wr h rfl hv
  | 3, _ => exact iv_wr h rfl hv
end IVA
-- fm_15 ElevenBullocks.within i i i
def fm_15 (a0 : Int) (a1 : Int) (a2 : Int) (Q : Bool → lf_Z → Prop) (s : lf_Z) : Prop := lf_R a0 ∧ (lf_R a1 ∧ ((a0 < a1 → (Q false s)) ∧ (¬ (a0 < a1) → (lf_R a2 ∧ ((a2 < a0 → (Q false s)) ∧ (¬ (a2 < a0) → (Q true s)))))))
set_option maxRecDepth 100000 in
theorem gm_15 {L : Nat} {xs : Nat → Int32} {d : Nat} {a0 : Int} {a1 : Int} {a2 : Int} {Q : Bool → lf_Z → Prop} {s : lf_Z} (h : fm_15 a0 a1 a2 Q s) : lf_M (px_ro L xs) (d + 1) 15 [.int (Int32.ofInt a0), .int (Int32.ofInt a1), .int (Int32.ofInt a2)] s (lf_qz Q) := by
  unfold fm_15 at h
  show lf_E (px_ro L xs) (d + 1) 15 0 [(0, .int (Int32.ofInt a0)), (1, .int (Int32.ofInt a1)), (2, .int (Int32.ofInt a2))] [] s _
  refine lf_seg 2 (pc' := 2) (lv' := [(0, .int (Int32.ofInt a0)), (1, .int (Int32.ofInt a1)), (2, .int (Int32.ofInt a2))]) (st' := [.int (Int32.ofInt a1), .int (Int32.ofInt a0)]) rfl ?_
  obtain ⟨o21, h⟩ := h
  obtain ⟨o22, h⟩ := h
  refine lf_icmp_lt 14 5 rfl rfl rfl o21 o22 (fun c => ?_) (fun c => ?_)
  · have h := h.1 c
    refine lf_seg 1 (pc' := 15) (lv' := [(0, .int (Int32.ofInt a0)), (1, .int (Int32.ofInt a1)), (2, .int (Int32.ofInt a2))]) (st' := [.int (Int32.ofInt 0)]) rfl ?_
    exact lf_retZ false rfl rfl h
  · have h := h.2 c
    refine lf_seg 2 (pc' := 7) (lv' := [(0, .int (Int32.ofInt a0)), (1, .int (Int32.ofInt a1)), (2, .int (Int32.ofInt a2))]) (st' := [.int (Int32.ofInt a2), .int (Int32.ofInt a0)]) rfl ?_
    obtain ⟨o23, h⟩ := h
    refine lf_icmp_gt 14 10 rfl rfl rfl o21 o23 (fun c => ?_) (fun c => ?_)
    · have h := h.1 c
      refine lf_seg 1 (pc' := 15) (lv' := [(0, .int (Int32.ofInt a0)), (1, .int (Int32.ofInt a1)), (2, .int (Int32.ofInt a2))]) (st' := [.int (Int32.ofInt 0)]) rfl ?_
      exact lf_retZ false rfl rfl h
    · have h := h.2 c
      refine lf_seg 2 (pc' := 15) (lv' := [(0, .int (Int32.ofInt a0)), (1, .int (Int32.ofInt a1)), (2, .int (Int32.ofInt a2))]) (st' := [.int (Int32.ofInt 1)]) rfl ?_
      exact lf_retZ true rfl rfl h
-- fm_16 Land.addStretch 1 i i
def fm_16 (a1 : Int) (a2 : Int) (Q : Int → lf_Z → Prop) (s : lf_Z) : Prop := lf_R (s.1 1 0) ∧ ((s.1 1 0 < 12 → ((0 ≤ s.1 1 0 ∧ s.1 1 0 < 12) ∧ (Q (((s.1 1 0) + 1) - 1) (lf_up (lf_up (lf_up s.1 2 (s.1 1 0) a1) 3 (s.1 1 0) a2) 1 0 ((s.1 1 0) + 1), s.2.1, s.2.2)))) ∧ (¬ (s.1 1 0 < 12) → (Q (-1) s)))
set_option maxRecDepth 100000 in
theorem gm_16 {L : Nat} {xs : Nat → Int32} {d : Nat} {a1 : Int} {a2 : Int} {Q : Int → lf_Z → Prop} {s : lf_Z} (h : fm_16 a1 a2 Q s) : lf_M (px_ro L xs) (d + 1) 16 [.ref 1, .int (Int32.ofInt a1), .int (Int32.ofInt a2)] s (lf_qi Q) := by
  unfold fm_16 at h
  show lf_E (px_ro L xs) (d + 1) 16 0 [(0, .ref 1), (1, .int (Int32.ofInt a1)), (2, .int (Int32.ofInt a2))] [] s _
  refine lf_seg 1 (pc' := 1) (lv' := [(0, .ref 1), (1, .int (Int32.ofInt a1)), (2, .int (Int32.ofInt a2))]) (st' := [.ref 1]) rfl ?_
  refine lf_getI 4 0 rfl rfl rfl rfl rfl rfl rfl ?_
  refine lf_bipush 6 12 rfl rfl (by decide) (by decide) ?_
  obtain ⟨o21, h⟩ := h
  refine lf_icmp_lt 11 9 rfl rfl rfl o21 ⟨by decide, by decide⟩ (fun c => ?_) (fun c => ?_)
  · have h := h.1 c
    refine lf_seg 3 (pc' := 16) (lv' := [(0, .ref 1), (1, .int (Int32.ofInt a1)), (2, .int (Int32.ofInt a2))]) (st' := [.ref 1, .ref 2]) rfl ?_
    refine lf_getI 19 0 rfl rfl rfl rfl rfl rfl rfl ?_
    refine lf_seg 1 (pc' := 20) (lv' := [(0, .ref 1), (1, .int (Int32.ofInt a1)), (2, .int (Int32.ofInt a2))]) (st' := [.int (Int32.ofInt a1), .int (Int32.ofInt (s.1 1 0)), .ref 2]) rfl ?_
    obtain ⟨o22, h⟩ := h
    refine lf_iast 21 12 rfl rfl rfl rfl rfl rfl o22 ?_
    refine lf_as (lf_up s.1 2 (s.1 1 0) a1, s.2.1, s.2.2) rfl ?_
    refine lf_seg 3 (pc' := 26) (lv' := [(0, .ref 1), (1, .int (Int32.ofInt a1)), (2, .int (Int32.ofInt a2))]) (st' := [.ref 1, .ref 3]) rfl ?_
    refine lf_getI 29 0 rfl rfl rfl rfl rfl rfl rfl ?_
    refine lf_seg 1 (pc' := 30) (lv' := [(0, .ref 1), (1, .int (Int32.ofInt a1)), (2, .int (Int32.ofInt a2))]) (st' := [.int (Int32.ofInt a2), .int (Int32.ofInt (s.1 1 0)), .ref 3]) rfl ?_
    refine lf_iast 31 12 rfl rfl rfl rfl rfl rfl o22 ?_
    refine lf_as (lf_up (lf_up s.1 2 (s.1 1 0) a1) 3 (s.1 1 0) a2, s.2.1, s.2.2) rfl ?_
    refine lf_seg 2 (pc' := 33) (lv' := [(0, .ref 1), (1, .int (Int32.ofInt a1)), (2, .int (Int32.ofInt a2))]) (st' := [.ref 1, .ref 1]) rfl ?_
    refine lf_getI 36 0 rfl rfl rfl rfl rfl rfl rfl ?_
    refine lf_seg 1 (pc' := 37) (lv' := [(0, .ref 1), (1, .int (Int32.ofInt a1)), (2, .int (Int32.ofInt a2))]) (st' := [.int (Int32.ofInt 1), .int (Int32.ofInt (s.1 1 0)), .ref 1]) rfl ?_
    refine lf_iadd 38 rfl rfl ?_
    refine lf_putI 41 0 rfl rfl rfl rfl rfl rfl rfl rfl ?_
    refine lf_as (lf_up (lf_up (lf_up s.1 2 (s.1 1 0) a1) 3 (s.1 1 0) a2) 1 0 ((s.1 1 0) + 1), s.2.1, s.2.2) rfl ?_
    refine lf_seg 1 (pc' := 42) (lv' := [(0, .ref 1), (1, .int (Int32.ofInt a1)), (2, .int (Int32.ofInt a2))]) (st' := [.ref 1]) rfl ?_
    refine lf_getI 45 0 rfl rfl rfl rfl rfl rfl rfl ?_
    refine lf_seg 1 (pc' := 46) (lv' := [(0, .ref 1), (1, .int (Int32.ofInt a1)), (2, .int (Int32.ofInt a2))]) (st' := [.int (Int32.ofInt 1), .int (Int32.ofInt ((s.1 1 0) + 1))]) rfl ?_
    refine lf_isub 47 rfl rfl ?_
    exact lf_retI rfl rfl h
  · have h := h.2 c
    refine lf_seg 1 (pc' := 10) (lv' := [(0, .ref 1), (1, .int (Int32.ofInt a1)), (2, .int (Int32.ofInt a2))]) (st' := [.int (Int32.ofInt (-1))]) rfl ?_
    exact lf_retI rfl rfl h
-- fm_14 ElevenBullocks.stretch 0 i i
def fm_14 (a1 : Int) (a2 : Int) (Q : Int → lf_Z → Prop) (s : lf_Z) : Prop := fm_15 a1 0 3 (fun z22 s21 => ((z22 = false → (Q (-1) s21)) ∧ (z22 = true → (fm_15 a2 0 99 (fun z24 s23 => ((z24 = true → (fm_16 a1 a2 (fun r26 s25 => (Q r26 s25)) s23)) ∧ (z24 = false → (Q (-1) s23)))) s21)))) s
set_option maxRecDepth 100000 in
theorem gm_14 {L : Nat} {xs : Nat → Int32} {d : Nat} {a1 : Int} {a2 : Int} {Q : Int → lf_Z → Prop} {s : lf_Z} (h : fm_14 a1 a2 Q s) : lf_M (px_ro L xs) (d + 2) 14 [.ref 0, .int (Int32.ofInt a1), .int (Int32.ofInt a2)] s (lf_qi Q) := by
  unfold fm_14 at h
  show lf_E (px_ro L xs) (d + 2) 14 0 [(0, .ref 0), (1, .int (Int32.ofInt a1)), (2, .int (Int32.ofInt a2))] [] s _
  refine lf_seg 3 (pc' := 3) (lv' := [(0, .ref 0), (1, .int (Int32.ofInt a1)), (2, .int (Int32.ofInt a2))]) (st' := [.int (Int32.ofInt 3), .int (Int32.ofInt 0), .int (Int32.ofInt a1)]) rfl ?_
  refine lf_callZ 6 rfl rfl rfl rfl (gm_15 h) (fun z22 s21 h => ?_)
  refine lf_ifz_eq 19 9 rfl rfl rfl (fun c => ?_) (fun c => ?_)
  · have h := h.1 c
    refine lf_seg 1 (pc' := 20) (lv' := [(0, .ref 0), (1, .int (Int32.ofInt a1)), (2, .int (Int32.ofInt a2))]) (st' := [.int (Int32.ofInt (-1))]) rfl ?_
    exact lf_retI rfl rfl h
  · have h := h.2 c
    refine lf_seg 2 (pc' := 11) (lv' := [(0, .ref 0), (1, .int (Int32.ofInt a1)), (2, .int (Int32.ofInt a2))]) (st' := [.int (Int32.ofInt 0), .int (Int32.ofInt a2)]) rfl ?_
    refine lf_bipush 13 99 rfl rfl (by decide) (by decide) ?_
    refine lf_callZ 16 rfl rfl rfl rfl (gm_15 h) (fun z24 s23 h => ?_)
    refine lf_ifz_ne 21 19 rfl rfl rfl (fun c => ?_) (fun c => ?_)
    · have h := h.1 c
      refine lf_seg 4 (pc' := 27) (lv' := [(0, .ref 0), (1, .int (Int32.ofInt a1)), (2, .int (Int32.ofInt a2))]) (st' := [.int (Int32.ofInt a2), .int (Int32.ofInt a1), .ref 1]) rfl ?_
      refine lf_callI 30 rfl rfl rfl rfl (gm_16 h) (fun r26 s25 h => ?_)
      exact lf_retI rfl rfl h
    · have h := h.2 c
      refine lf_seg 1 (pc' := 20) (lv' := [(0, .ref 0), (1, .int (Int32.ofInt a1)), (2, .int (Int32.ofInt a2))]) (st' := [.int (Int32.ofInt (-1))]) rfl ?_
      exact lf_retI rfl rfl h
-- fm_183 Model.isIn i i i
def fm_183 (a0 : Int) (a1 : Int) (a2 : Int) (Q : Bool → lf_Z → Prop) (s : lf_Z) : Prop := lf_R a0 ∧ (lf_R a1 ∧ ((a0 < a1 → (Q false s)) ∧ (¬ (a0 < a1) → (lf_R a2 ∧ ((a2 < a0 → (Q false s)) ∧ (¬ (a2 < a0) → (Q true s)))))))
set_option maxRecDepth 100000 in
theorem gm_183 {L : Nat} {xs : Nat → Int32} {d : Nat} {a0 : Int} {a1 : Int} {a2 : Int} {Q : Bool → lf_Z → Prop} {s : lf_Z} (h : fm_183 a0 a1 a2 Q s) : lf_M (px_ro L xs) (d + 1) 183 [.int (Int32.ofInt a0), .int (Int32.ofInt a1), .int (Int32.ofInt a2)] s (lf_qz Q) := by
  unfold fm_183 at h
  show lf_E (px_ro L xs) (d + 1) 183 0 [(0, .int (Int32.ofInt a0)), (1, .int (Int32.ofInt a1)), (2, .int (Int32.ofInt a2))] [] s _
  refine lf_seg 2 (pc' := 2) (lv' := [(0, .int (Int32.ofInt a0)), (1, .int (Int32.ofInt a1)), (2, .int (Int32.ofInt a2))]) (st' := [.int (Int32.ofInt a1), .int (Int32.ofInt a0)]) rfl ?_
  obtain ⟨o21, h⟩ := h
  obtain ⟨o22, h⟩ := h
  refine lf_icmp_lt 14 5 rfl rfl rfl o21 o22 (fun c => ?_) (fun c => ?_)
  · have h := h.1 c
    refine lf_seg 1 (pc' := 15) (lv' := [(0, .int (Int32.ofInt a0)), (1, .int (Int32.ofInt a1)), (2, .int (Int32.ofInt a2))]) (st' := [.int (Int32.ofInt 0)]) rfl ?_
    exact lf_retZ false rfl rfl h
  · have h := h.2 c
    refine lf_seg 2 (pc' := 7) (lv' := [(0, .int (Int32.ofInt a0)), (1, .int (Int32.ofInt a1)), (2, .int (Int32.ofInt a2))]) (st' := [.int (Int32.ofInt a2), .int (Int32.ofInt a0)]) rfl ?_
    obtain ⟨o23, h⟩ := h
    refine lf_icmp_gt 14 10 rfl rfl rfl o21 o23 (fun c => ?_) (fun c => ?_)
    · have h := h.1 c
      refine lf_seg 1 (pc' := 15) (lv' := [(0, .int (Int32.ofInt a0)), (1, .int (Int32.ofInt a1)), (2, .int (Int32.ofInt a2))]) (st' := [.int (Int32.ofInt 0)]) rfl ?_
      exact lf_retZ false rfl rfl h
    · have h := h.2 c
      refine lf_seg 2 (pc' := 15) (lv' := [(0, .int (Int32.ofInt a0)), (1, .int (Int32.ofInt a1)), (2, .int (Int32.ofInt a2))]) (st' := [.int (Int32.ofInt 1)]) rfl ?_
      exact lf_retZ true rfl rfl h
-- fm_182 Model.stretch 95 i i
def fm_182 (a1 : Int) (a2 : Int) (Q : Int → lf_Z → Prop) (s : lf_Z) : Prop := fm_183 a1 0 3 (fun z22 s21 => ((z22 = false → (Q (-1) s21)) ∧ (z22 = true → (fm_183 a2 0 99 (fun z24 s23 => ((z24 = false → (Q (-1) s23)) ∧ (z24 = true → (lf_R (s23.1 96 0) ∧ ((s23.1 96 0 ≠ 12 → ((0 ≤ 14 + (3 * (s23.1 96 0)) ∧ 14 + (3 * (s23.1 96 0)) < 1538) ∧ ((0 ≤ (14 + (3 * (s23.1 96 0))) + 1 ∧ (14 + (3 * (s23.1 96 0))) + 1 < 1538) ∧ ((0 ≤ (14 + (3 * (s23.1 96 0))) + 2 ∧ (14 + (3 * (s23.1 96 0))) + 2 < 1538) ∧ (Q ((((lf_up (lf_up (lf_up s23.1 96 (14 + (3 * (s23.1 96 0))) a1) 96 ((14 + (3 * (s23.1 96 0))) + 1) a2) 96 ((14 + (3 * (s23.1 96 0))) + 2) 0) 96 0) + 1) - 1) (lf_up (lf_up (lf_up (lf_up s23.1 96 (14 + (3 * (s23.1 96 0))) a1) 96 ((14 + (3 * (s23.1 96 0))) + 1) a2) 96 ((14 + (3 * (s23.1 96 0))) + 2) 0) 96 0 (((lf_up (lf_up (lf_up s23.1 96 (14 + (3 * (s23.1 96 0))) a1) 96 ((14 + (3 * (s23.1 96 0))) + 1) a2) 96 ((14 + (3 * (s23.1 96 0))) + 2) 0) 96 0) + 1), s23.2.1, s23.2.2)))))) ∧ (¬ (s23.1 96 0 ≠ 12) → (Q (-1) s23))))))) s21)))) s
set_option maxRecDepth 100000 in
theorem gm_182 {L : Nat} {xs : Nat → Int32} {d : Nat} {a1 : Int} {a2 : Int} {Q : Int → lf_Z → Prop} {s : lf_Z} (h : fm_182 a1 a2 Q s) : lf_M (px_ro L xs) (d + 2) 182 [.ref 95, .int (Int32.ofInt a1), .int (Int32.ofInt a2)] s (lf_qi Q) := by
  unfold fm_182 at h
  show lf_E (px_ro L xs) (d + 2) 182 0 [(0, .ref 95), (1, .int (Int32.ofInt a1)), (2, .int (Int32.ofInt a2))] [] s _
  refine lf_seg 3 (pc' := 3) (lv' := [(0, .ref 95), (1, .int (Int32.ofInt a1)), (2, .int (Int32.ofInt a2))]) (st' := [.int (Int32.ofInt 3), .int (Int32.ofInt 0), .int (Int32.ofInt a1)]) rfl ?_
  refine lf_callZ 6 rfl rfl rfl rfl (gm_183 h) (fun z22 s21 h => ?_)
  refine lf_ifz_eq 30 9 rfl rfl rfl (fun c => ?_) (fun c => ?_)
  · have h := h.1 c
    refine lf_seg 1 (pc' := 31) (lv' := [(0, .ref 95), (1, .int (Int32.ofInt a1)), (2, .int (Int32.ofInt a2))]) (st' := [.int (Int32.ofInt (-1))]) rfl ?_
    exact lf_retI rfl rfl h
  · have h := h.2 c
    refine lf_seg 2 (pc' := 11) (lv' := [(0, .ref 95), (1, .int (Int32.ofInt a1)), (2, .int (Int32.ofInt a2))]) (st' := [.int (Int32.ofInt 0), .int (Int32.ofInt a2)]) rfl ?_
    refine lf_bipush 13 99 rfl rfl (by decide) (by decide) ?_
    refine lf_callZ 16 rfl rfl rfl rfl (gm_183 h) (fun z24 s23 h => ?_)
    refine lf_ifz_eq 30 19 rfl rfl rfl (fun c => ?_) (fun c => ?_)
    · have h := h.1 c
      refine lf_seg 1 (pc' := 31) (lv' := [(0, .ref 95), (1, .int (Int32.ofInt a1)), (2, .int (Int32.ofInt a2))]) (st' := [.int (Int32.ofInt (-1))]) rfl ?_
      exact lf_retI rfl rfl h
    · have h := h.2 c
      refine lf_seg 3 (pc' := 24) (lv' := [(0, .ref 95), (1, .int (Int32.ofInt a1)), (2, .int (Int32.ofInt a2))]) (st' := [.int (Int32.ofInt 0), .ref 96]) rfl ?_
      refine lf_iald 25 1538 rfl rfl rfl rfl rfl rfl ⟨by decide, by decide⟩ ?_
      refine lf_bipush 27 12 rfl rfl (by decide) (by decide) ?_
      obtain ⟨o25, h⟩ := h
      refine lf_icmp_ne 32 30 rfl rfl rfl o25 ⟨by decide, by decide⟩ (fun c => ?_) (fun c => ?_)
      · have h := h.1 c
        refine lf_bipush 34 14 rfl rfl (by decide) (by decide) ?_
        refine lf_seg 4 (pc' := 40) (lv' := [(0, .ref 95), (1, .int (Int32.ofInt a1)), (2, .int (Int32.ofInt a2))]) (st' := [.int (Int32.ofInt 0), .ref 96, .int (Int32.ofInt 3), .int (Int32.ofInt 14)]) rfl ?_
        refine lf_iald 41 1538 rfl rfl rfl rfl rfl rfl ⟨by decide, by decide⟩ ?_
        refine lf_imul 42 rfl rfl ?_
        refine lf_iadd 43 rfl rfl ?_
        refine lf_seg 5 (pc' := 50) (lv' := [(3, .int (Int32.ofInt (14 + (3 * (s23.1 96 0))))), (0, .ref 95), (1, .int (Int32.ofInt a1)), (2, .int (Int32.ofInt a2))]) (st' := [.int (Int32.ofInt a1), .int (Int32.ofInt (14 + (3 * (s23.1 96 0)))), .ref 96]) rfl ?_
        obtain ⟨o26, h⟩ := h
        refine lf_iast 51 1538 rfl rfl rfl rfl rfl rfl o26 ?_
        refine lf_as (lf_up s23.1 96 (14 + (3 * (s23.1 96 0))) a1, s23.2.1, s23.2.2) rfl ?_
        refine lf_seg 4 (pc' := 57) (lv' := [(3, .int (Int32.ofInt (14 + (3 * (s23.1 96 0))))), (0, .ref 95), (1, .int (Int32.ofInt a1)), (2, .int (Int32.ofInt a2))]) (st' := [.int (Int32.ofInt 1), .int (Int32.ofInt (14 + (3 * (s23.1 96 0)))), .ref 96]) rfl ?_
        refine lf_iadd 58 rfl rfl ?_
        refine lf_seg 1 (pc' := 59) (lv' := [(3, .int (Int32.ofInt (14 + (3 * (s23.1 96 0))))), (0, .ref 95), (1, .int (Int32.ofInt a1)), (2, .int (Int32.ofInt a2))]) (st' := [.int (Int32.ofInt a2), .int (Int32.ofInt ((14 + (3 * (s23.1 96 0))) + 1)), .ref 96]) rfl ?_
        obtain ⟨o27, h⟩ := h
        refine lf_iast 60 1538 rfl rfl rfl rfl rfl rfl o27 ?_
        refine lf_as (lf_up (lf_up s23.1 96 (14 + (3 * (s23.1 96 0))) a1) 96 ((14 + (3 * (s23.1 96 0))) + 1) a2, s23.2.1, s23.2.2) rfl ?_
        refine lf_seg 4 (pc' := 66) (lv' := [(3, .int (Int32.ofInt (14 + (3 * (s23.1 96 0))))), (0, .ref 95), (1, .int (Int32.ofInt a1)), (2, .int (Int32.ofInt a2))]) (st' := [.int (Int32.ofInt 2), .int (Int32.ofInt (14 + (3 * (s23.1 96 0)))), .ref 96]) rfl ?_
        refine lf_iadd 67 rfl rfl ?_
        refine lf_seg 1 (pc' := 68) (lv' := [(3, .int (Int32.ofInt (14 + (3 * (s23.1 96 0))))), (0, .ref 95), (1, .int (Int32.ofInt a1)), (2, .int (Int32.ofInt a2))]) (st' := [.int (Int32.ofInt 0), .int (Int32.ofInt ((14 + (3 * (s23.1 96 0))) + 2)), .ref 96]) rfl ?_
        obtain ⟨o28, h⟩ := h
        refine lf_iast 69 1538 rfl rfl rfl rfl rfl rfl o28 ?_
        refine lf_as (lf_up (lf_up (lf_up s23.1 96 (14 + (3 * (s23.1 96 0))) a1) 96 ((14 + (3 * (s23.1 96 0))) + 1) a2) 96 ((14 + (3 * (s23.1 96 0))) + 2) 0, s23.2.1, s23.2.2) rfl ?_
        refine lf_seg 4 (pc' := 75) (lv' := [(3, .int (Int32.ofInt (14 + (3 * (s23.1 96 0))))), (0, .ref 95), (1, .int (Int32.ofInt a1)), (2, .int (Int32.ofInt a2))]) (st' := [.int (Int32.ofInt 0), .ref 96, .int (Int32.ofInt 0), .ref 96]) rfl ?_
        refine lf_iald 76 1538 rfl rfl rfl rfl rfl rfl ⟨by decide, by decide⟩ ?_
        refine lf_seg 1 (pc' := 77) (lv' := [(3, .int (Int32.ofInt (14 + (3 * (s23.1 96 0))))), (0, .ref 95), (1, .int (Int32.ofInt a1)), (2, .int (Int32.ofInt a2))]) (st' := [.int (Int32.ofInt 1), .int (Int32.ofInt ((lf_up (lf_up (lf_up s23.1 96 (14 + (3 * (s23.1 96 0))) a1) 96 ((14 + (3 * (s23.1 96 0))) + 1) a2) 96 ((14 + (3 * (s23.1 96 0))) + 2) 0) 96 0)), .int (Int32.ofInt 0), .ref 96]) rfl ?_
        refine lf_iadd 78 rfl rfl ?_
        refine lf_iast 79 1538 rfl rfl rfl rfl rfl rfl ⟨by decide, by decide⟩ ?_
        refine lf_as (lf_up (lf_up (lf_up (lf_up s23.1 96 (14 + (3 * (s23.1 96 0))) a1) 96 ((14 + (3 * (s23.1 96 0))) + 1) a2) 96 ((14 + (3 * (s23.1 96 0))) + 2) 0) 96 0 (((lf_up (lf_up (lf_up s23.1 96 (14 + (3 * (s23.1 96 0))) a1) 96 ((14 + (3 * (s23.1 96 0))) + 1) a2) 96 ((14 + (3 * (s23.1 96 0))) + 2) 0) 96 0) + 1), s23.2.1, s23.2.2) rfl ?_
        refine lf_seg 3 (pc' := 84) (lv' := [(3, .int (Int32.ofInt (14 + (3 * (s23.1 96 0))))), (0, .ref 95), (1, .int (Int32.ofInt a1)), (2, .int (Int32.ofInt a2))]) (st' := [.int (Int32.ofInt 0), .ref 96]) rfl ?_
        refine lf_iald 85 1538 rfl rfl rfl rfl rfl rfl ⟨by decide, by decide⟩ ?_
        refine lf_seg 1 (pc' := 86) (lv' := [(3, .int (Int32.ofInt (14 + (3 * (s23.1 96 0))))), (0, .ref 95), (1, .int (Int32.ofInt a1)), (2, .int (Int32.ofInt a2))]) (st' := [.int (Int32.ofInt 1), .int (Int32.ofInt (((lf_up (lf_up (lf_up s23.1 96 (14 + (3 * (s23.1 96 0))) a1) 96 ((14 + (3 * (s23.1 96 0))) + 1) a2) 96 ((14 + (3 * (s23.1 96 0))) + 2) 0) 96 0) + 1))]) rfl ?_
        refine lf_isub 87 rfl rfl ?_
        exact lf_retI rfl rfl h
      · have h := h.2 c
        refine lf_seg 1 (pc' := 31) (lv' := [(0, .ref 95), (1, .int (Int32.ofInt a1)), (2, .int (Int32.ofInt a2))]) (st' := [.int (Int32.ofInt (-1))]) rfl ?_
        exact lf_retI rfl rfl h
-- fm_18 Land.hasStretch 1 i
def fm_18 (a1 : Int) (Q : Bool → lf_Z → Prop) (s : lf_Z) : Prop := lf_R a1 ∧ ((a1 < 0 → (Q false s)) ∧ (¬ (a1 < 0) → (lf_R (s.1 1 0) ∧ ((s.1 1 0 ≤ a1 → (Q false s)) ∧ (¬ (s.1 1 0 ≤ a1) → (Q true s))))))
set_option maxRecDepth 100000 in
theorem gm_18 {L : Nat} {xs : Nat → Int32} {d : Nat} {a1 : Int} {Q : Bool → lf_Z → Prop} {s : lf_Z} (h : fm_18 a1 Q s) : lf_M (px_ro L xs) (d + 1) 18 [.ref 1, .int (Int32.ofInt a1)] s (lf_qz Q) := by
  unfold fm_18 at h
  show lf_E (px_ro L xs) (d + 1) 18 0 [(0, .ref 1), (1, .int (Int32.ofInt a1))] [] s _
  refine lf_seg 1 (pc' := 1) (lv' := [(0, .ref 1), (1, .int (Int32.ofInt a1))]) (st' := [.int (Int32.ofInt a1)]) rfl ?_
  obtain ⟨o21, h⟩ := h
  refine lf_if_lt 16 4 rfl rfl rfl o21 (fun c => ?_) (fun c => ?_)
  · have h := h.1 c
    refine lf_seg 1 (pc' := 17) (lv' := [(0, .ref 1), (1, .int (Int32.ofInt a1))]) (st' := [.int (Int32.ofInt 0)]) rfl ?_
    exact lf_retZ false rfl rfl h
  · have h := h.2 c
    refine lf_seg 2 (pc' := 6) (lv' := [(0, .ref 1), (1, .int (Int32.ofInt a1))]) (st' := [.ref 1, .int (Int32.ofInt a1)]) rfl ?_
    refine lf_getI 9 0 rfl rfl rfl rfl rfl rfl rfl ?_
    obtain ⟨o22, h⟩ := h
    refine lf_icmp_ge 16 12 rfl rfl rfl o21 o22 (fun c => ?_) (fun c => ?_)
    · have h := h.1 c
      refine lf_seg 1 (pc' := 17) (lv' := [(0, .ref 1), (1, .int (Int32.ofInt a1))]) (st' := [.int (Int32.ofInt 0)]) rfl ?_
      exact lf_retZ false rfl rfl h
    · have h := h.2 c
      refine lf_seg 2 (pc' := 17) (lv' := [(0, .ref 1), (1, .int (Int32.ofInt a1))]) (st' := [.int (Int32.ofInt 1)]) rfl ?_
      exact lf_retZ true rfl rfl h
-- fm_21 Land.noteWayAt 1 i i
def fm_21 (a1 : Int) (a2 : Int) (Q : lf_Z → Prop) (s : lf_Z) : Prop := (0 ≤ a1 ∧ a1 < 12) ∧ (lf_R (s.1 12 a1) ∧ ((4 ≤ s.1 12 a1 → (Q s)) ∧ (¬ (4 ≤ s.1 12 a1) → ((0 ≤ (a1 * 4) + (s.1 12 a1) ∧ (a1 * 4) + (s.1 12 a1) < 48) ∧ (Q (lf_up (lf_up s.1 11 ((a1 * 4) + (s.1 12 a1)) a2) 12 a1 ((s.1 12 a1) + 1), s.2.1, s.2.2))))))
set_option maxRecDepth 100000 in
theorem gm_21 {L : Nat} {xs : Nat → Int32} {d : Nat} {a1 : Int} {a2 : Int} {Q : lf_Z → Prop} {s : lf_Z} (h : fm_21 a1 a2 Q s) : lf_M (px_ro L xs) (d + 1) 21 [.ref 1, .int (Int32.ofInt a1), .int (Int32.ofInt a2)] s (lf_qv Q) := by
  unfold fm_21 at h
  show lf_E (px_ro L xs) (d + 1) 21 0 [(0, .ref 1), (1, .int (Int32.ofInt a1)), (2, .int (Int32.ofInt a2))] [] s _
  refine lf_seg 3 (pc' := 5) (lv' := [(0, .ref 1), (1, .int (Int32.ofInt a1)), (2, .int (Int32.ofInt a2))]) (st' := [.int (Int32.ofInt a1), .ref 12]) rfl ?_
  obtain ⟨o21, h⟩ := h
  refine lf_iald 6 12 rfl rfl rfl rfl rfl rfl o21 ?_
  refine lf_seg 1 (pc' := 7) (lv' := [(0, .ref 1), (1, .int (Int32.ofInt a1)), (2, .int (Int32.ofInt a2))]) (st' := [.int (Int32.ofInt 4), .int (Int32.ofInt (s.1 12 a1))]) rfl ?_
  obtain ⟨o22, h⟩ := h
  refine lf_icmp_ge 36 10 rfl rfl rfl o22 ⟨by decide, by decide⟩ (fun c => ?_) (fun c => ?_)
  · have h := h.1 c
    exact lf_retV rfl rfl h
  · have h := h.2 c
    refine lf_seg 4 (pc' := 16) (lv' := [(0, .ref 1), (1, .int (Int32.ofInt a1)), (2, .int (Int32.ofInt a2))]) (st' := [.int (Int32.ofInt 4), .int (Int32.ofInt a1), .ref 11]) rfl ?_
    refine lf_imul 17 rfl rfl ?_
    refine lf_seg 3 (pc' := 22) (lv' := [(0, .ref 1), (1, .int (Int32.ofInt a1)), (2, .int (Int32.ofInt a2))]) (st' := [.int (Int32.ofInt a1), .ref 12, .int (Int32.ofInt (a1 * 4)), .ref 11]) rfl ?_
    refine lf_iald 23 12 rfl rfl rfl rfl rfl rfl o21 ?_
    refine lf_iadd 24 rfl rfl ?_
    refine lf_seg 1 (pc' := 25) (lv' := [(0, .ref 1), (1, .int (Int32.ofInt a1)), (2, .int (Int32.ofInt a2))]) (st' := [.int (Int32.ofInt a2), .int (Int32.ofInt ((a1 * 4) + (s.1 12 a1))), .ref 11]) rfl ?_
    obtain ⟨o23, h⟩ := h
    refine lf_iast 26 48 rfl rfl rfl rfl rfl rfl o23 ?_
    refine lf_as (lf_up s.1 11 ((a1 * 4) + (s.1 12 a1)) a2, s.2.1, s.2.2) rfl ?_
    refine lf_seg 4 (pc' := 32) (lv' := [(0, .ref 1), (1, .int (Int32.ofInt a1)), (2, .int (Int32.ofInt a2))]) (st' := [.int (Int32.ofInt a1), .ref 12, .int (Int32.ofInt a1), .ref 12]) rfl ?_
    refine lf_iald 33 12 rfl rfl rfl rfl rfl rfl o21 ?_
    refine lf_seg 1 (pc' := 34) (lv' := [(0, .ref 1), (1, .int (Int32.ofInt a1)), (2, .int (Int32.ofInt a2))]) (st' := [.int (Int32.ofInt 1), .int (Int32.ofInt (s.1 12 a1)), .int (Int32.ofInt a1), .ref 12]) rfl ?_
    refine lf_iadd 35 rfl rfl ?_
    refine lf_iast 36 12 rfl rfl rfl rfl rfl rfl o21 ?_
    refine lf_as (lf_up (lf_up s.1 11 ((a1 * 4) + (s.1 12 a1)) a2) 12 a1 ((s.1 12 a1) + 1), s.2.1, s.2.2) rfl ?_
    exact lf_retV rfl rfl h
-- fm_22 Land.bringNear 1 13 i i
def fm_22_p22 (X3 : Int → lf_Z → Prop) (Q : lf_Z → Prop) (x2 : Int) (x3 : Int) (x4 : Int) (x5 : Int) (X22 : Int → lf_Z → Prop) (x6 : Int) (s : lf_Z) : Prop := lf_R x6 ∧ (lf_R (s.1 1 0) ∧ ((s.1 1 0 ≤ x6 → (X3 (x4 + 1) s)) ∧ (¬ (s.1 1 0 ≤ x6) → ((0 ≤ x5 + x2 ∧ x5 + x2 < 144) ∧ ((0 ≤ (x3 * 12) + x6 ∧ (x3 * 12) + x6 < 144) ∧ ((0 ≤ x5 + x3 ∧ x5 + x3 < 144) ∧ ((0 ≤ (x2 * 12) + x6 ∧ (x2 * 12) + x6 < 144) ∧ ((0 ≤ x5 + x6 ∧ x5 + x6 < 144) ∧ (lf_R (((s.1 13 (x5 + x2)) + 1) + (s.1 13 ((x3 * 12) + x6))) ∧ (lf_R (((s.1 13 (x5 + x3)) + 1) + (s.1 13 ((x2 * 12) + x6))) ∧ (lf_R (s.1 13 (x5 + x6)) ∧ (lf_R (min (((s.1 13 (x5 + x2)) + 1) + (s.1 13 ((x3 * 12) + x6))) (((s.1 13 (x5 + x3)) + 1) + (s.1 13 ((x2 * 12) + x6)))) ∧ (X22 (x6 + 1) (lf_up s.1 13 (x5 + x6) (min (s.1 13 (x5 + x6)) (min (((s.1 13 (x5 + x2)) + 1) + (s.1 13 ((x3 * 12) + x6))) (((s.1 13 (x5 + x3)) + 1) + (s.1 13 ((x2 * 12) + x6))))), s.2.1, s.2.2))))))))))))))
def fm_22_p22L (X3 : Int → lf_Z → Prop) (Q : lf_Z → Prop) (x2 : Int) (x3 : Int) (x4 : Int) (x5 : Int) (x6 : Int) (s : lf_Z) : Prop := ∀ X22 : Int → lf_Z → Prop, (∀ (x6 : Int) (s : lf_Z), fm_22_p22 X3 Q x2 x3 x4 x5 X22 x6 s → X22 x6 s) → X22 x6 s
set_option maxRecDepth 100000 in
theorem gm_22_p22 {L : Nat} {xs : Nat → Int32} {d : Nat} {X3 : Int → lf_Z → Prop} {Q : lf_Z → Prop} {x2 : Int} {x3 : Int} {x4 : Int} {x5 : Int} {x6 : Int} {s : lf_Z} {X22 : Int → lf_Z → Prop} (hX3 : ∀ x4 s, X3 x4 s → lf_E (px_ro L xs) (d + 1) 22 3 [(0, .ref 1), (1, .ref 13), (2, .int (Int32.ofInt x2)), (3, .int (Int32.ofInt x3)), (4, .int (Int32.ofInt x4))] [] s (lf_qv Q)) (hX22 : ∀ x6 s, X22 x6 s → lf_E (px_ro L xs) (d + 1) 22 22 [(0, .ref 1), (1, .ref 13), (2, .int (Int32.ofInt x2)), (3, .int (Int32.ofInt x3)), (4, .int (Int32.ofInt x4)), (5, .int (Int32.ofInt x5)), (6, .int (Int32.ofInt x6))] [] s (lf_qv Q)) (h : fm_22_p22 X3 Q x2 x3 x4 x5 X22 x6 s) : lf_E (px_ro L xs) (d + 1) 22 22 [(0, .ref 1), (1, .ref 13), (2, .int (Int32.ofInt x2)), (3, .int (Int32.ofInt x3)), (4, .int (Int32.ofInt x4)), (5, .int (Int32.ofInt x5)), (6, .int (Int32.ofInt x6))] [] s (lf_qv Q) := by
  unfold fm_22_p22 at h
  refine lf_seg 2 (pc' := 25) (lv' := [(0, .ref 1), (1, .ref 13), (2, .int (Int32.ofInt x2)), (3, .int (Int32.ofInt x3)), (4, .int (Int32.ofInt x4)), (5, .int (Int32.ofInt x5)), (6, .int (Int32.ofInt x6))]) (st' := [.ref 1, .int (Int32.ofInt x6)]) rfl ?_
  refine lf_getI 28 0 rfl rfl rfl rfl rfl rfl rfl ?_
  obtain ⟨o23, h⟩ := h
  obtain ⟨o24, h⟩ := h
  refine lf_icmp_ge 101 31 rfl rfl rfl o23 o24 (fun c => ?_) (fun c => ?_)
  · have h := h.1 c
    refine lf_iinc 104 rfl rfl rfl rfl ?_
    refine lf_seg 1 (pc' := 3) (lv' := [(4, .int (Int32.ofInt (x4 + 1))), (0, .ref 1), (1, .ref 13), (2, .int (Int32.ofInt x2)), (3, .int (Int32.ofInt x3)), (5, .int (Int32.ofInt x5)), (6, .int (Int32.ofInt x6))]) (st' := []) rfl ?_
    refine lf_sub (l := [(0, .ref 1), (1, .ref 13), (2, .int (Int32.ofInt x2)), (3, .int (Int32.ofInt x3)), (4, .int (Int32.ofInt (x4 + 1)))]) (lf_sb1 rfl (lf_sb1 rfl (lf_sb1 rfl (lf_sb1 rfl (lf_sb1 rfl lf_sb0))))) ?_
    exact hX3 _ _ h
  · have h := h.2 c
    refine lf_seg 3 (pc' := 35) (lv' := [(0, .ref 1), (1, .ref 13), (2, .int (Int32.ofInt x2)), (3, .int (Int32.ofInt x3)), (4, .int (Int32.ofInt x4)), (5, .int (Int32.ofInt x5)), (6, .int (Int32.ofInt x6))]) (st' := [.int (Int32.ofInt x2), .int (Int32.ofInt x5), .ref 13]) rfl ?_
    refine lf_iadd 36 rfl rfl ?_
    obtain ⟨o25, h⟩ := h
    refine lf_iald 37 144 rfl rfl rfl rfl rfl rfl o25 ?_
    refine lf_seg 1 (pc' := 38) (lv' := [(0, .ref 1), (1, .ref 13), (2, .int (Int32.ofInt x2)), (3, .int (Int32.ofInt x3)), (4, .int (Int32.ofInt x4)), (5, .int (Int32.ofInt x5)), (6, .int (Int32.ofInt x6))]) (st' := [.int (Int32.ofInt 1), .int (Int32.ofInt (s.1 13 (x5 + x2)))]) rfl ?_
    refine lf_iadd 39 rfl rfl ?_
    refine lf_seg 2 (pc' := 41) (lv' := [(0, .ref 1), (1, .ref 13), (2, .int (Int32.ofInt x2)), (3, .int (Int32.ofInt x3)), (4, .int (Int32.ofInt x4)), (5, .int (Int32.ofInt x5)), (6, .int (Int32.ofInt x6))]) (st' := [.int (Int32.ofInt x3), .ref 13, .int (Int32.ofInt ((s.1 13 (x5 + x2)) + 1))]) rfl ?_
    refine lf_bipush 43 12 rfl rfl (by decide) (by decide) ?_
    refine lf_imul 44 rfl rfl ?_
    refine lf_seg 1 (pc' := 46) (lv' := [(0, .ref 1), (1, .ref 13), (2, .int (Int32.ofInt x2)), (3, .int (Int32.ofInt x3)), (4, .int (Int32.ofInt x4)), (5, .int (Int32.ofInt x5)), (6, .int (Int32.ofInt x6))]) (st' := [.int (Int32.ofInt x6), .int (Int32.ofInt (x3 * 12)), .ref 13, .int (Int32.ofInt ((s.1 13 (x5 + x2)) + 1))]) rfl ?_
    refine lf_iadd 47 rfl rfl ?_
    obtain ⟨o26, h⟩ := h
    refine lf_iald 48 144 rfl rfl rfl rfl rfl rfl o26 ?_
    refine lf_iadd 49 rfl rfl ?_
    refine lf_seg 4 (pc' := 55) (lv' := [(7, .int (Int32.ofInt (((s.1 13 (x5 + x2)) + 1) + (s.1 13 ((x3 * 12) + x6))))), (0, .ref 1), (1, .ref 13), (2, .int (Int32.ofInt x2)), (3, .int (Int32.ofInt x3)), (4, .int (Int32.ofInt x4)), (5, .int (Int32.ofInt x5)), (6, .int (Int32.ofInt x6))]) (st' := [.int (Int32.ofInt x3), .int (Int32.ofInt x5), .ref 13]) rfl ?_
    refine lf_iadd 56 rfl rfl ?_
    obtain ⟨o27, h⟩ := h
    refine lf_iald 57 144 rfl rfl rfl rfl rfl rfl o27 ?_
    refine lf_seg 1 (pc' := 58) (lv' := [(7, .int (Int32.ofInt (((s.1 13 (x5 + x2)) + 1) + (s.1 13 ((x3 * 12) + x6))))), (0, .ref 1), (1, .ref 13), (2, .int (Int32.ofInt x2)), (3, .int (Int32.ofInt x3)), (4, .int (Int32.ofInt x4)), (5, .int (Int32.ofInt x5)), (6, .int (Int32.ofInt x6))]) (st' := [.int (Int32.ofInt 1), .int (Int32.ofInt (s.1 13 (x5 + x3)))]) rfl ?_
    refine lf_iadd 59 rfl rfl ?_
    refine lf_seg 2 (pc' := 61) (lv' := [(7, .int (Int32.ofInt (((s.1 13 (x5 + x2)) + 1) + (s.1 13 ((x3 * 12) + x6))))), (0, .ref 1), (1, .ref 13), (2, .int (Int32.ofInt x2)), (3, .int (Int32.ofInt x3)), (4, .int (Int32.ofInt x4)), (5, .int (Int32.ofInt x5)), (6, .int (Int32.ofInt x6))]) (st' := [.int (Int32.ofInt x2), .ref 13, .int (Int32.ofInt ((s.1 13 (x5 + x3)) + 1))]) rfl ?_
    refine lf_bipush 63 12 rfl rfl (by decide) (by decide) ?_
    refine lf_imul 64 rfl rfl ?_
    refine lf_seg 1 (pc' := 66) (lv' := [(7, .int (Int32.ofInt (((s.1 13 (x5 + x2)) + 1) + (s.1 13 ((x3 * 12) + x6))))), (0, .ref 1), (1, .ref 13), (2, .int (Int32.ofInt x2)), (3, .int (Int32.ofInt x3)), (4, .int (Int32.ofInt x4)), (5, .int (Int32.ofInt x5)), (6, .int (Int32.ofInt x6))]) (st' := [.int (Int32.ofInt x6), .int (Int32.ofInt (x2 * 12)), .ref 13, .int (Int32.ofInt ((s.1 13 (x5 + x3)) + 1))]) rfl ?_
    refine lf_iadd 67 rfl rfl ?_
    obtain ⟨o28, h⟩ := h
    refine lf_iald 68 144 rfl rfl rfl rfl rfl rfl o28 ?_
    refine lf_iadd 69 rfl rfl ?_
    refine lf_seg 4 (pc' := 76) (lv' := [(8, .int (Int32.ofInt (((s.1 13 (x5 + x3)) + 1) + (s.1 13 ((x2 * 12) + x6))))), (7, .int (Int32.ofInt (((s.1 13 (x5 + x2)) + 1) + (s.1 13 ((x3 * 12) + x6))))), (0, .ref 1), (1, .ref 13), (2, .int (Int32.ofInt x2)), (3, .int (Int32.ofInt x3)), (4, .int (Int32.ofInt x4)), (5, .int (Int32.ofInt x5)), (6, .int (Int32.ofInt x6))]) (st' := [.int (Int32.ofInt x6), .int (Int32.ofInt x5), .ref 13]) rfl ?_
    refine lf_iadd 77 rfl rfl ?_
    refine lf_seg 3 (pc' := 82) (lv' := [(8, .int (Int32.ofInt (((s.1 13 (x5 + x3)) + 1) + (s.1 13 ((x2 * 12) + x6))))), (7, .int (Int32.ofInt (((s.1 13 (x5 + x2)) + 1) + (s.1 13 ((x3 * 12) + x6))))), (0, .ref 1), (1, .ref 13), (2, .int (Int32.ofInt x2)), (3, .int (Int32.ofInt x3)), (4, .int (Int32.ofInt x4)), (5, .int (Int32.ofInt x5)), (6, .int (Int32.ofInt x6))]) (st' := [.int (Int32.ofInt x6), .int (Int32.ofInt x5), .ref 13, .int (Int32.ofInt (x5 + x6)), .ref 13]) rfl ?_
    refine lf_iadd 83 rfl rfl ?_
    obtain ⟨o29, h⟩ := h
    refine lf_iald 84 144 rfl rfl rfl rfl rfl rfl o29 ?_
    refine lf_seg 2 (pc' := 88) (lv' := [(8, .int (Int32.ofInt (((s.1 13 (x5 + x3)) + 1) + (s.1 13 ((x2 * 12) + x6))))), (7, .int (Int32.ofInt (((s.1 13 (x5 + x2)) + 1) + (s.1 13 ((x3 * 12) + x6))))), (0, .ref 1), (1, .ref 13), (2, .int (Int32.ofInt x2)), (3, .int (Int32.ofInt x3)), (4, .int (Int32.ofInt x4)), (5, .int (Int32.ofInt x5)), (6, .int (Int32.ofInt x6))]) (st' := [.int (Int32.ofInt (((s.1 13 (x5 + x3)) + 1) + (s.1 13 ((x2 * 12) + x6)))), .int (Int32.ofInt (((s.1 13 (x5 + x2)) + 1) + (s.1 13 ((x3 * 12) + x6)))), .int (Int32.ofInt (s.1 13 (x5 + x6))), .int (Int32.ofInt (x5 + x6)), .ref 13]) rfl ?_
    obtain ⟨o30, h⟩ := h
    obtain ⟨o31, h⟩ := h
    refine lf_imin 91 rfl rfl rfl rfl o30 o31 ?_
    obtain ⟨o32, h⟩ := h
    obtain ⟨o33, h⟩ := h
    refine lf_imin 94 rfl rfl rfl rfl o32 o33 ?_
    refine lf_iast 95 144 rfl rfl rfl rfl rfl rfl o29 ?_
    refine lf_as (lf_up s.1 13 (x5 + x6) (min (s.1 13 (x5 + x6)) (min (((s.1 13 (x5 + x2)) + 1) + (s.1 13 ((x3 * 12) + x6))) (((s.1 13 (x5 + x3)) + 1) + (s.1 13 ((x2 * 12) + x6))))), s.2.1, s.2.2) rfl ?_
    refine lf_iinc 98 rfl rfl rfl rfl ?_
    refine lf_seg 1 (pc' := 22) (lv' := [(6, .int (Int32.ofInt (x6 + 1))), (8, .int (Int32.ofInt (((s.1 13 (x5 + x3)) + 1) + (s.1 13 ((x2 * 12) + x6))))), (7, .int (Int32.ofInt (((s.1 13 (x5 + x2)) + 1) + (s.1 13 ((x3 * 12) + x6))))), (0, .ref 1), (1, .ref 13), (2, .int (Int32.ofInt x2)), (3, .int (Int32.ofInt x3)), (4, .int (Int32.ofInt x4)), (5, .int (Int32.ofInt x5))]) (st' := []) rfl ?_
    refine lf_sub (l := [(0, .ref 1), (1, .ref 13), (2, .int (Int32.ofInt x2)), (3, .int (Int32.ofInt x3)), (4, .int (Int32.ofInt x4)), (5, .int (Int32.ofInt x5)), (6, .int (Int32.ofInt (x6 + 1)))]) (lf_sb1 rfl (lf_sb1 rfl (lf_sb1 rfl (lf_sb1 rfl (lf_sb1 rfl (lf_sb1 rfl (lf_sb1 rfl lf_sb0))))))) ?_
    exact hX22 _ _ h
theorem gm_22_p22L {L : Nat} {xs : Nat → Int32} {d : Nat} {X3 : Int → lf_Z → Prop} {Q : lf_Z → Prop} {x2 : Int} {x3 : Int} {x4 : Int} {x5 : Int} {x6 : Int} {s : lf_Z} (hX3 : ∀ x4 s, X3 x4 s → lf_E (px_ro L xs) (d + 1) 22 3 [(0, .ref 1), (1, .ref 13), (2, .int (Int32.ofInt x2)), (3, .int (Int32.ofInt x3)), (4, .int (Int32.ofInt x4))] [] s (lf_qv Q)) (h : fm_22_p22L X3 Q x2 x3 x4 x5 x6 s) : lf_E (px_ro L xs) (d + 1) 22 22 [(0, .ref 1), (1, .ref 13), (2, .int (Int32.ofInt x2)), (3, .int (Int32.ofInt x3)), (4, .int (Int32.ofInt x4)), (5, .int (Int32.ofInt x5)), (6, .int (Int32.ofInt x6))] [] s (lf_qv Q) :=
  h (fun x6 s => lf_E (px_ro L xs) (d + 1) 22 22 [(0, .ref 1), (1, .ref 13), (2, .int (Int32.ofInt x2)), (3, .int (Int32.ofInt x3)), (4, .int (Int32.ofInt x4)), (5, .int (Int32.ofInt x5)), (6, .int (Int32.ofInt x6))] [] s (lf_qv Q)) (fun x6 s hb => gm_22_p22 hX3 (fun _ _ h => h) hb)
def fm_22_p3 (Q : lf_Z → Prop) (x2 : Int) (x3 : Int) (X3 : Int → lf_Z → Prop) (x4 : Int) (s : lf_Z) : Prop := lf_R x4 ∧ (lf_R (s.1 1 0) ∧ ((s.1 1 0 ≤ x4 → (Q s)) ∧ (¬ (s.1 1 0 ≤ x4) → (fm_22_p22L X3 Q x2 x3 x4 (x4 * 12) 0 s))))
def fm_22_p3L (Q : lf_Z → Prop) (x2 : Int) (x3 : Int) (x4 : Int) (s : lf_Z) : Prop := ∀ X3 : Int → lf_Z → Prop, (∀ (x4 : Int) (s : lf_Z), fm_22_p3 Q x2 x3 X3 x4 s → X3 x4 s) → X3 x4 s
set_option maxRecDepth 100000 in
theorem gm_22_p3 {L : Nat} {xs : Nat → Int32} {d : Nat} {Q : lf_Z → Prop} {x2 : Int} {x3 : Int} {x4 : Int} {s : lf_Z} {X3 : Int → lf_Z → Prop} (hX3 : ∀ x4 s, X3 x4 s → lf_E (px_ro L xs) (d + 1) 22 3 [(0, .ref 1), (1, .ref 13), (2, .int (Int32.ofInt x2)), (3, .int (Int32.ofInt x3)), (4, .int (Int32.ofInt x4))] [] s (lf_qv Q)) (h : fm_22_p3 Q x2 x3 X3 x4 s) : lf_E (px_ro L xs) (d + 1) 22 3 [(0, .ref 1), (1, .ref 13), (2, .int (Int32.ofInt x2)), (3, .int (Int32.ofInt x3)), (4, .int (Int32.ofInt x4))] [] s (lf_qv Q) := by
  unfold fm_22_p3 at h
  refine lf_seg 2 (pc' := 6) (lv' := [(0, .ref 1), (1, .ref 13), (2, .int (Int32.ofInt x2)), (3, .int (Int32.ofInt x3)), (4, .int (Int32.ofInt x4))]) (st' := [.ref 1, .int (Int32.ofInt x4)]) rfl ?_
  refine lf_getI 9 0 rfl rfl rfl rfl rfl rfl rfl ?_
  obtain ⟨o21, h⟩ := h
  obtain ⟨o22, h⟩ := h
  refine lf_icmp_ge 107 12 rfl rfl rfl o21 o22 (fun c => ?_) (fun c => ?_)
  · have h := h.1 c
    exact lf_retV rfl rfl h
  · have h := h.2 c
    refine lf_seg 1 (pc' := 14) (lv' := [(0, .ref 1), (1, .ref 13), (2, .int (Int32.ofInt x2)), (3, .int (Int32.ofInt x3)), (4, .int (Int32.ofInt x4))]) (st' := [.int (Int32.ofInt x4)]) rfl ?_
    refine lf_bipush 16 12 rfl rfl (by decide) (by decide) ?_
    refine lf_imul 17 rfl rfl ?_
    refine lf_seg 3 (pc' := 22) (lv' := [(6, .int (Int32.ofInt 0)), (5, .int (Int32.ofInt (x4 * 12))), (0, .ref 1), (1, .ref 13), (2, .int (Int32.ofInt x2)), (3, .int (Int32.ofInt x3)), (4, .int (Int32.ofInt x4))]) (st' := []) rfl ?_
    refine lf_sub (l := [(0, .ref 1), (1, .ref 13), (2, .int (Int32.ofInt x2)), (3, .int (Int32.ofInt x3)), (4, .int (Int32.ofInt x4)), (5, .int (Int32.ofInt (x4 * 12))), (6, .int (Int32.ofInt 0))]) (lf_sb1 rfl (lf_sb1 rfl (lf_sb1 rfl (lf_sb1 rfl (lf_sb1 rfl (lf_sb1 rfl (lf_sb1 rfl lf_sb0))))))) ?_
    exact gm_22_p22L hX3 h
theorem gm_22_p3L {L : Nat} {xs : Nat → Int32} {d : Nat} {Q : lf_Z → Prop} {x2 : Int} {x3 : Int} {x4 : Int} {s : lf_Z} (h : fm_22_p3L Q x2 x3 x4 s) : lf_E (px_ro L xs) (d + 1) 22 3 [(0, .ref 1), (1, .ref 13), (2, .int (Int32.ofInt x2)), (3, .int (Int32.ofInt x3)), (4, .int (Int32.ofInt x4))] [] s (lf_qv Q) :=
  h (fun x4 s => lf_E (px_ro L xs) (d + 1) 22 3 [(0, .ref 1), (1, .ref 13), (2, .int (Int32.ofInt x2)), (3, .int (Int32.ofInt x3)), (4, .int (Int32.ofInt x4))] [] s (lf_qv Q)) (fun x4 s hb => gm_22_p3 (fun _ _ h => h) hb)
def fm_22 (a2 : Int) (a3 : Int) (Q : lf_Z → Prop) (s : lf_Z) : Prop := fm_22_p3L Q a2 a3 0 s
set_option maxRecDepth 100000 in
theorem gm_22 {L : Nat} {xs : Nat → Int32} {d : Nat} {a2 : Int} {a3 : Int} {Q : lf_Z → Prop} {s : lf_Z} (h : fm_22 a2 a3 Q s) : lf_M (px_ro L xs) (d + 1) 22 [.ref 1, .ref 13, .int (Int32.ofInt a2), .int (Int32.ofInt a3)] s (lf_qv Q) := by
  unfold fm_22 at h
  show lf_E (px_ro L xs) (d + 1) 22 0 [(0, .ref 1), (1, .ref 13), (2, .int (Int32.ofInt a2)), (3, .int (Int32.ofInt a3))] [] s _
  refine lf_seg 2 (pc' := 3) (lv' := [(4, .int (Int32.ofInt 0)), (0, .ref 1), (1, .ref 13), (2, .int (Int32.ofInt a2)), (3, .int (Int32.ofInt a3))]) (st' := []) rfl ?_
  refine lf_sub (l := [(0, .ref 1), (1, .ref 13), (2, .int (Int32.ofInt a2)), (3, .int (Int32.ofInt a3)), (4, .int (Int32.ofInt 0))]) (lf_sb1 rfl (lf_sb1 rfl (lf_sb1 rfl (lf_sb1 rfl (lf_sb1 rfl lf_sb0))))) ?_
  exact gm_22_p3L h
-- fm_20 Land.layWay 1 i
def fm_20 (a1 : Int) (Q : lf_Z → Prop) (s : lf_Z) : Prop := (0 ≤ a1 ∧ a1 < 16) ∧ (fm_21 (s.1 4 a1) a1 (fun s22 => (fm_21 (s22.1 5 a1) a1 (fun s23 => (fm_22 (s23.1 4 a1) (s23.1 5 a1) (fun s24 => (Q s24)) s23)) s22)) s)
set_option maxRecDepth 100000 in
theorem gm_20 {L : Nat} {xs : Nat → Int32} {d : Nat} {a1 : Int} {Q : lf_Z → Prop} {s : lf_Z} (h : fm_20 a1 Q s) : lf_M (px_ro L xs) (d + 2) 20 [.ref 1, .int (Int32.ofInt a1)] s (lf_qv Q) := by
  unfold fm_20 at h
  show lf_E (px_ro L xs) (d + 2) 20 0 [(0, .ref 1), (1, .int (Int32.ofInt a1))] [] s _
  refine lf_seg 4 (pc' := 6) (lv' := [(0, .ref 1), (1, .int (Int32.ofInt a1))]) (st' := [.int (Int32.ofInt a1), .ref 4, .ref 1]) rfl ?_
  obtain ⟨o21, h⟩ := h
  refine lf_iald 7 16 rfl rfl rfl rfl rfl rfl o21 ?_
  refine lf_seg 1 (pc' := 8) (lv' := [(0, .ref 1), (1, .int (Int32.ofInt a1))]) (st' := [.int (Int32.ofInt a1), .int (Int32.ofInt (s.1 4 a1)), .ref 1]) rfl ?_
  refine lf_callV 11 rfl rfl rfl rfl (gm_21 h) (fun s22 h => ?_)
  refine lf_seg 4 (pc' := 17) (lv' := [(0, .ref 1), (1, .int (Int32.ofInt a1))]) (st' := [.int (Int32.ofInt a1), .ref 5, .ref 1]) rfl ?_
  refine lf_iald 18 16 rfl rfl rfl rfl rfl rfl o21 ?_
  refine lf_seg 1 (pc' := 19) (lv' := [(0, .ref 1), (1, .int (Int32.ofInt a1))]) (st' := [.int (Int32.ofInt a1), .int (Int32.ofInt (s22.1 5 a1)), .ref 1]) rfl ?_
  refine lf_callV 22 rfl rfl rfl rfl (gm_21 h) (fun s23 h => ?_)
  refine lf_seg 6 (pc' := 32) (lv' := [(0, .ref 1), (1, .int (Int32.ofInt a1))]) (st' := [.int (Int32.ofInt a1), .ref 4, .ref 13, .ref 1]) rfl ?_
  refine lf_iald 33 16 rfl rfl rfl rfl rfl rfl o21 ?_
  refine lf_seg 3 (pc' := 38) (lv' := [(0, .ref 1), (1, .int (Int32.ofInt a1))]) (st' := [.int (Int32.ofInt a1), .ref 5, .int (Int32.ofInt (s23.1 4 a1)), .ref 13, .ref 1]) rfl ?_
  refine lf_iald 39 16 rfl rfl rfl rfl rfl rfl o21 ?_
  refine lf_callV 42 rfl rfl rfl rfl (gm_22 h) (fun s24 h => ?_)
  exact lf_retV rfl rfl h
-- fm_19 Land.addWay 1 i i i
def fm_19 (a1 : Int) (a2 : Int) (a3 : Int) (Q : Int → lf_Z → Prop) (s : lf_Z) : Prop := lf_R (s.1 1 1) ∧ ((16 ≤ s.1 1 1 → (Q (-1) s)) ∧ (¬ (16 ≤ s.1 1 1) → ((0 ≤ a1 ∧ a1 < 12) ∧ (lf_R (s.1 12 a1) ∧ ((4 ≤ s.1 12 a1 → (Q (-1) s)) ∧ (¬ (4 ≤ s.1 12 a1) → ((0 ≤ a2 ∧ a2 < 12) ∧ (lf_R (s.1 12 a2) ∧ ((s.1 12 a2 < 4 → ((0 ≤ s.1 1 1 ∧ s.1 1 1 < 16) ∧ ((a3 = 0 ∨ a3 = 1) ∧ (fm_20 (((s.1 1 1) + 1) - 1) (fun s28 => (Q ((s28.1 1 1) - 1) s28)) (lf_up (lf_up (lf_up (lf_up s.1 4 (s.1 1 1) a1) 5 (s.1 1 1) a2) 6 (s.1 1 1) a3) 1 1 ((s.1 1 1) + 1), s.2.1, s.2.2))))) ∧ (¬ (s.1 12 a2 < 4) → (Q (-1) s)))))))))))
set_option maxRecDepth 100000 in
theorem gm_19 {L : Nat} {xs : Nat → Int32} {d : Nat} {a1 : Int} {a2 : Int} {a3 : Int} {Q : Int → lf_Z → Prop} {s : lf_Z} (h : fm_19 a1 a2 a3 Q s) : lf_M (px_ro L xs) (d + 3) 19 [.ref 1, .int (Int32.ofInt a1), .int (Int32.ofInt a2), .int (Int32.ofInt a3)] s (lf_qi Q) := by
  unfold fm_19 at h
  show lf_E (px_ro L xs) (d + 3) 19 0 [(0, .ref 1), (1, .int (Int32.ofInt a1)), (2, .int (Int32.ofInt a2)), (3, .int (Int32.ofInt a3))] [] s _
  refine lf_seg 1 (pc' := 1) (lv' := [(0, .ref 1), (1, .int (Int32.ofInt a1)), (2, .int (Int32.ofInt a2)), (3, .int (Int32.ofInt a3))]) (st' := [.ref 1]) rfl ?_
  refine lf_getI 4 1 rfl rfl rfl rfl rfl rfl rfl ?_
  refine lf_bipush 6 16 rfl rfl (by decide) (by decide) ?_
  obtain ⟨o21, h⟩ := h
  refine lf_icmp_ge 29 9 rfl rfl rfl o21 ⟨by decide, by decide⟩ (fun c => ?_) (fun c => ?_)
  · have h := h.1 c
    refine lf_seg 1 (pc' := 30) (lv' := [(0, .ref 1), (1, .int (Int32.ofInt a1)), (2, .int (Int32.ofInt a2)), (3, .int (Int32.ofInt a3))]) (st' := [.int (Int32.ofInt (-1))]) rfl ?_
    exact lf_retI rfl rfl h
  · have h := h.2 c
    refine lf_seg 3 (pc' := 14) (lv' := [(0, .ref 1), (1, .int (Int32.ofInt a1)), (2, .int (Int32.ofInt a2)), (3, .int (Int32.ofInt a3))]) (st' := [.int (Int32.ofInt a1), .ref 12]) rfl ?_
    obtain ⟨o22, h⟩ := h
    refine lf_iald 15 12 rfl rfl rfl rfl rfl rfl o22 ?_
    refine lf_seg 1 (pc' := 16) (lv' := [(0, .ref 1), (1, .int (Int32.ofInt a1)), (2, .int (Int32.ofInt a2)), (3, .int (Int32.ofInt a3))]) (st' := [.int (Int32.ofInt 4), .int (Int32.ofInt (s.1 12 a1))]) rfl ?_
    obtain ⟨o23, h⟩ := h
    refine lf_icmp_ge 29 19 rfl rfl rfl o23 ⟨by decide, by decide⟩ (fun c => ?_) (fun c => ?_)
    · have h := h.1 c
      refine lf_seg 1 (pc' := 30) (lv' := [(0, .ref 1), (1, .int (Int32.ofInt a1)), (2, .int (Int32.ofInt a2)), (3, .int (Int32.ofInt a3))]) (st' := [.int (Int32.ofInt (-1))]) rfl ?_
      exact lf_retI rfl rfl h
    · have h := h.2 c
      refine lf_seg 3 (pc' := 24) (lv' := [(0, .ref 1), (1, .int (Int32.ofInt a1)), (2, .int (Int32.ofInt a2)), (3, .int (Int32.ofInt a3))]) (st' := [.int (Int32.ofInt a2), .ref 12]) rfl ?_
      obtain ⟨o24, h⟩ := h
      refine lf_iald 25 12 rfl rfl rfl rfl rfl rfl o24 ?_
      refine lf_seg 1 (pc' := 26) (lv' := [(0, .ref 1), (1, .int (Int32.ofInt a1)), (2, .int (Int32.ofInt a2)), (3, .int (Int32.ofInt a3))]) (st' := [.int (Int32.ofInt 4), .int (Int32.ofInt (s.1 12 a2))]) rfl ?_
      obtain ⟨o25, h⟩ := h
      refine lf_icmp_lt 31 29 rfl rfl rfl o25 ⟨by decide, by decide⟩ (fun c => ?_) (fun c => ?_)
      · have h := h.1 c
        refine lf_seg 3 (pc' := 36) (lv' := [(0, .ref 1), (1, .int (Int32.ofInt a1)), (2, .int (Int32.ofInt a2)), (3, .int (Int32.ofInt a3))]) (st' := [.ref 1, .ref 4]) rfl ?_
        refine lf_getI 39 1 rfl rfl rfl rfl rfl rfl rfl ?_
        refine lf_seg 1 (pc' := 40) (lv' := [(0, .ref 1), (1, .int (Int32.ofInt a1)), (2, .int (Int32.ofInt a2)), (3, .int (Int32.ofInt a3))]) (st' := [.int (Int32.ofInt a1), .int (Int32.ofInt (s.1 1 1)), .ref 4]) rfl ?_
        obtain ⟨o26, h⟩ := h
        refine lf_iast 41 16 rfl rfl rfl rfl rfl rfl o26 ?_
        refine lf_as (lf_up s.1 4 (s.1 1 1) a1, s.2.1, s.2.2) rfl ?_
        refine lf_seg 3 (pc' := 46) (lv' := [(0, .ref 1), (1, .int (Int32.ofInt a1)), (2, .int (Int32.ofInt a2)), (3, .int (Int32.ofInt a3))]) (st' := [.ref 1, .ref 5]) rfl ?_
        refine lf_getI 49 1 rfl rfl rfl rfl rfl rfl rfl ?_
        refine lf_seg 1 (pc' := 50) (lv' := [(0, .ref 1), (1, .int (Int32.ofInt a1)), (2, .int (Int32.ofInt a2)), (3, .int (Int32.ofInt a3))]) (st' := [.int (Int32.ofInt a2), .int (Int32.ofInt (s.1 1 1)), .ref 5]) rfl ?_
        refine lf_iast 51 16 rfl rfl rfl rfl rfl rfl o26 ?_
        refine lf_as (lf_up (lf_up s.1 4 (s.1 1 1) a1) 5 (s.1 1 1) a2, s.2.1, s.2.2) rfl ?_
        refine lf_seg 3 (pc' := 56) (lv' := [(0, .ref 1), (1, .int (Int32.ofInt a1)), (2, .int (Int32.ofInt a2)), (3, .int (Int32.ofInt a3))]) (st' := [.ref 1, .ref 6]) rfl ?_
        refine lf_getI 59 1 rfl rfl rfl rfl rfl rfl rfl ?_
        refine lf_seg 1 (pc' := 60) (lv' := [(0, .ref 1), (1, .int (Int32.ofInt a1)), (2, .int (Int32.ofInt a2)), (3, .int (Int32.ofInt a3))]) (st' := [.int (Int32.ofInt a3), .int (Int32.ofInt (s.1 1 1)), .ref 6]) rfl ?_
        obtain ⟨o27, h⟩ := h
        refine lf_zast 61 16 rfl rfl rfl rfl rfl rfl o26 o27 ?_
        refine lf_as (lf_up (lf_up (lf_up s.1 4 (s.1 1 1) a1) 5 (s.1 1 1) a2) 6 (s.1 1 1) a3, s.2.1, s.2.2) rfl ?_
        refine lf_seg 2 (pc' := 63) (lv' := [(0, .ref 1), (1, .int (Int32.ofInt a1)), (2, .int (Int32.ofInt a2)), (3, .int (Int32.ofInt a3))]) (st' := [.ref 1, .ref 1]) rfl ?_
        refine lf_getI 66 1 rfl rfl rfl rfl rfl rfl rfl ?_
        refine lf_seg 1 (pc' := 67) (lv' := [(0, .ref 1), (1, .int (Int32.ofInt a1)), (2, .int (Int32.ofInt a2)), (3, .int (Int32.ofInt a3))]) (st' := [.int (Int32.ofInt 1), .int (Int32.ofInt (s.1 1 1)), .ref 1]) rfl ?_
        refine lf_iadd 68 rfl rfl ?_
        refine lf_putI 71 1 rfl rfl rfl rfl rfl rfl rfl rfl ?_
        refine lf_as (lf_up (lf_up (lf_up (lf_up s.1 4 (s.1 1 1) a1) 5 (s.1 1 1) a2) 6 (s.1 1 1) a3) 1 1 ((s.1 1 1) + 1), s.2.1, s.2.2) rfl ?_
        refine lf_seg 2 (pc' := 73) (lv' := [(0, .ref 1), (1, .int (Int32.ofInt a1)), (2, .int (Int32.ofInt a2)), (3, .int (Int32.ofInt a3))]) (st' := [.ref 1, .ref 1]) rfl ?_
        refine lf_getI 76 1 rfl rfl rfl rfl rfl rfl rfl ?_
        refine lf_seg 1 (pc' := 77) (lv' := [(0, .ref 1), (1, .int (Int32.ofInt a1)), (2, .int (Int32.ofInt a2)), (3, .int (Int32.ofInt a3))]) (st' := [.int (Int32.ofInt 1), .int (Int32.ofInt ((s.1 1 1) + 1)), .ref 1]) rfl ?_
        refine lf_isub 78 rfl rfl ?_
        refine lf_callV 81 rfl rfl rfl rfl (gm_20 h) (fun s28 h => ?_)
        refine lf_seg 1 (pc' := 82) (lv' := [(0, .ref 1), (1, .int (Int32.ofInt a1)), (2, .int (Int32.ofInt a2)), (3, .int (Int32.ofInt a3))]) (st' := [.ref 1]) rfl ?_
        refine lf_getI 85 1 rfl rfl rfl rfl rfl rfl rfl ?_
        refine lf_seg 1 (pc' := 86) (lv' := [(0, .ref 1), (1, .int (Int32.ofInt a1)), (2, .int (Int32.ofInt a2)), (3, .int (Int32.ofInt a3))]) (st' := [.int (Int32.ofInt 1), .int (Int32.ofInt (s28.1 1 1))]) rfl ?_
        refine lf_isub 87 rfl rfl ?_
        exact lf_retI rfl rfl h
      · have h := h.2 c
        refine lf_seg 1 (pc' := 30) (lv' := [(0, .ref 1), (1, .int (Int32.ofInt a1)), (2, .int (Int32.ofInt a2)), (3, .int (Int32.ofInt a3))]) (st' := [.int (Int32.ofInt (-1))]) rfl ?_
        exact lf_retI rfl rfl h
-- fm_17 ElevenBullocks.way 0 i i i
def fm_17 (a1 : Int) (a2 : Int) (a3 : Int) (Q : Int → lf_Z → Prop) (s : lf_Z) : Prop := fm_18 a1 (fun z22 s21 => ((z22 = false → (Q (-1) s21)) ∧ (z22 = true → (fm_18 a2 (fun z24 s23 => ((z24 = false → (Q (-1) s23)) ∧ (z24 = true → (lf_R a1 ∧ (lf_R a2 ∧ ((a1 ≠ a2 → (fm_19 a1 a2 a3 (fun r28 s27 => (Q r28 s27)) s23)) ∧ (¬ (a1 ≠ a2) → (Q (-1) s23)))))))) s21)))) s
set_option maxRecDepth 100000 in
theorem gm_17 {L : Nat} {xs : Nat → Int32} {d : Nat} {a1 : Int} {a2 : Int} {a3 : Int} {Q : Int → lf_Z → Prop} {s : lf_Z} (h : fm_17 a1 a2 a3 Q s) : lf_M (px_ro L xs) (d + 4) 17 [.ref 0, .int (Int32.ofInt a1), .int (Int32.ofInt a2), .int (Int32.ofInt a3)] s (lf_qi Q) := by
  unfold fm_17 at h
  show lf_E (px_ro L xs) (d + 4) 17 0 [(0, .ref 0), (1, .int (Int32.ofInt a1)), (2, .int (Int32.ofInt a2)), (3, .int (Int32.ofInt a3))] [] s _
  refine lf_seg 3 (pc' := 5) (lv' := [(0, .ref 0), (1, .int (Int32.ofInt a1)), (2, .int (Int32.ofInt a2)), (3, .int (Int32.ofInt a3))]) (st' := [.int (Int32.ofInt a1), .ref 1]) rfl ?_
  refine lf_callZ 8 rfl rfl rfl rfl (gm_18 h) (fun z22 s21 h => ?_)
  refine lf_ifz_eq 27 11 rfl rfl rfl (fun c => ?_) (fun c => ?_)
  · have h := h.1 c
    refine lf_seg 1 (pc' := 28) (lv' := [(0, .ref 0), (1, .int (Int32.ofInt a1)), (2, .int (Int32.ofInt a2)), (3, .int (Int32.ofInt a3))]) (st' := [.int (Int32.ofInt (-1))]) rfl ?_
    exact lf_retI rfl rfl h
  · have h := h.2 c
    refine lf_seg 3 (pc' := 16) (lv' := [(0, .ref 0), (1, .int (Int32.ofInt a1)), (2, .int (Int32.ofInt a2)), (3, .int (Int32.ofInt a3))]) (st' := [.int (Int32.ofInt a2), .ref 1]) rfl ?_
    refine lf_callZ 19 rfl rfl rfl rfl (gm_18 h) (fun z24 s23 h => ?_)
    refine lf_ifz_eq 27 22 rfl rfl rfl (fun c => ?_) (fun c => ?_)
    · have h := h.1 c
      refine lf_seg 1 (pc' := 28) (lv' := [(0, .ref 0), (1, .int (Int32.ofInt a1)), (2, .int (Int32.ofInt a2)), (3, .int (Int32.ofInt a3))]) (st' := [.int (Int32.ofInt (-1))]) rfl ?_
      exact lf_retI rfl rfl h
    · have h := h.2 c
      refine lf_seg 2 (pc' := 24) (lv' := [(0, .ref 0), (1, .int (Int32.ofInt a1)), (2, .int (Int32.ofInt a2)), (3, .int (Int32.ofInt a3))]) (st' := [.int (Int32.ofInt a2), .int (Int32.ofInt a1)]) rfl ?_
      obtain ⟨o25, h⟩ := h
      obtain ⟨o26, h⟩ := h
      refine lf_icmp_ne 29 27 rfl rfl rfl o25 o26 (fun c => ?_) (fun c => ?_)
      · have h := h.1 c
        refine lf_seg 5 (pc' := 36) (lv' := [(0, .ref 0), (1, .int (Int32.ofInt a1)), (2, .int (Int32.ofInt a2)), (3, .int (Int32.ofInt a3))]) (st' := [.int (Int32.ofInt a3), .int (Int32.ofInt a2), .int (Int32.ofInt a1), .ref 1]) rfl ?_
        refine lf_callI 39 rfl rfl rfl rfl (gm_19 h) (fun r28 s27 h => ?_)
        exact lf_retI rfl rfl h
      · have h := h.2 c
        refine lf_seg 1 (pc' := 28) (lv' := [(0, .ref 0), (1, .int (Int32.ofInt a1)), (2, .int (Int32.ofInt a2)), (3, .int (Int32.ofInt a3))]) (st' := [.int (Int32.ofInt (-1))]) rfl ?_
        exact lf_retI rfl rfl h
-- fm_185 Model.isStretch 95 i
def fm_185 (a1 : Int) (Q : Bool → lf_Z → Prop) (s : lf_Z) : Prop := fm_183 a1 0 ((s.1 96 0) - 1) (fun z22 s21 => (Q z22 s21)) s
set_option maxRecDepth 100000 in
theorem gm_185 {L : Nat} {xs : Nat → Int32} {d : Nat} {a1 : Int} {Q : Bool → lf_Z → Prop} {s : lf_Z} (h : fm_185 a1 Q s) : lf_M (px_ro L xs) (d + 2) 185 [.ref 95, .int (Int32.ofInt a1)] s (lf_qz Q) := by
  unfold fm_185 at h
  show lf_E (px_ro L xs) (d + 2) 185 0 [(0, .ref 95), (1, .int (Int32.ofInt a1))] [] s _
  refine lf_seg 5 (pc' := 7) (lv' := [(0, .ref 95), (1, .int (Int32.ofInt a1))]) (st' := [.int (Int32.ofInt 0), .ref 96, .int (Int32.ofInt 0), .int (Int32.ofInt a1)]) rfl ?_
  refine lf_iald 8 1538 rfl rfl rfl rfl rfl rfl ⟨by decide, by decide⟩ ?_
  refine lf_seg 1 (pc' := 9) (lv' := [(0, .ref 95), (1, .int (Int32.ofInt a1))]) (st' := [.int (Int32.ofInt 1), .int (Int32.ofInt (s.1 96 0)), .int (Int32.ofInt 0), .int (Int32.ofInt a1)]) rfl ?_
  refine lf_isub 10 rfl rfl ?_
  refine lf_callZ 13 rfl rfl rfl rfl (gm_183 h) (fun z22 s21 h => ?_)
  exact lf_retZ z22 rfl rfl h
-- fm_187 Model.acrossOf 95 i i
def fm_187 (a1 : Int) (a2 : Int) (Q : Int → lf_Z → Prop) (s : lf_Z) : Prop := (0 ≤ 50 + (4 * a1) ∧ 50 + (4 * a1) < 1538) ∧ ((0 ≤ (50 + (4 * a1)) + 1 ∧ (50 + (4 * a1)) + 1 < 1538) ∧ (lf_R (s.1 96 (50 + (4 * a1))) ∧ (lf_R a2 ∧ ((s.1 96 (50 + (4 * a1)) ≠ a2 → (lf_R (s.1 96 ((50 + (4 * a1)) + 1)) ∧ ((s.1 96 ((50 + (4 * a1)) + 1) ≠ a2 → (Q (-1) s)) ∧ (¬ (s.1 96 ((50 + (4 * a1)) + 1) ≠ a2) → (Q (s.1 96 (50 + (4 * a1))) s))))) ∧ (¬ (s.1 96 (50 + (4 * a1)) ≠ a2) → (Q (s.1 96 ((50 + (4 * a1)) + 1)) s))))))
set_option maxRecDepth 100000 in
theorem gm_187 {L : Nat} {xs : Nat → Int32} {d : Nat} {a1 : Int} {a2 : Int} {Q : Int → lf_Z → Prop} {s : lf_Z} (h : fm_187 a1 a2 Q s) : lf_M (px_ro L xs) (d + 1) 187 [.ref 95, .int (Int32.ofInt a1), .int (Int32.ofInt a2)] s (lf_qi Q) := by
  unfold fm_187 at h
  show lf_E (px_ro L xs) (d + 1) 187 0 [(0, .ref 95), (1, .int (Int32.ofInt a1)), (2, .int (Int32.ofInt a2))] [] s _
  refine lf_seg 2 (pc' := 4) (lv' := [(0, .ref 95), (1, .int (Int32.ofInt a1)), (2, .int (Int32.ofInt a2))]) (st' := [.ref 96]) rfl ?_
  refine lf_bipush 6 50 rfl rfl (by decide) (by decide) ?_
  refine lf_seg 2 (pc' := 8) (lv' := [(0, .ref 95), (1, .int (Int32.ofInt a1)), (2, .int (Int32.ofInt a2))]) (st' := [.int (Int32.ofInt a1), .int (Int32.ofInt 4), .int (Int32.ofInt 50), .ref 96]) rfl ?_
  refine lf_imul 9 rfl rfl ?_
  refine lf_iadd 10 rfl rfl ?_
  obtain ⟨o21, h⟩ := h
  refine lf_iald 11 1538 rfl rfl rfl rfl rfl rfl o21 ?_
  refine lf_seg 3 (pc' := 16) (lv' := [(3, .int (Int32.ofInt (s.1 96 (50 + (4 * a1))))), (0, .ref 95), (1, .int (Int32.ofInt a1)), (2, .int (Int32.ofInt a2))]) (st' := [.ref 96]) rfl ?_
  refine lf_bipush 18 50 rfl rfl (by decide) (by decide) ?_
  refine lf_seg 2 (pc' := 20) (lv' := [(3, .int (Int32.ofInt (s.1 96 (50 + (4 * a1))))), (0, .ref 95), (1, .int (Int32.ofInt a1)), (2, .int (Int32.ofInt a2))]) (st' := [.int (Int32.ofInt a1), .int (Int32.ofInt 4), .int (Int32.ofInt 50), .ref 96]) rfl ?_
  refine lf_imul 21 rfl rfl ?_
  refine lf_iadd 22 rfl rfl ?_
  refine lf_seg 1 (pc' := 23) (lv' := [(3, .int (Int32.ofInt (s.1 96 (50 + (4 * a1))))), (0, .ref 95), (1, .int (Int32.ofInt a1)), (2, .int (Int32.ofInt a2))]) (st' := [.int (Int32.ofInt 1), .int (Int32.ofInt (50 + (4 * a1))), .ref 96]) rfl ?_
  refine lf_iadd 24 rfl rfl ?_
  obtain ⟨o22, h⟩ := h
  refine lf_iald 25 1538 rfl rfl rfl rfl rfl rfl o22 ?_
  refine lf_seg 3 (pc' := 29) (lv' := [(4, .int (Int32.ofInt (s.1 96 ((50 + (4 * a1)) + 1)))), (3, .int (Int32.ofInt (s.1 96 (50 + (4 * a1))))), (0, .ref 95), (1, .int (Int32.ofInt a1)), (2, .int (Int32.ofInt a2))]) (st' := [.int (Int32.ofInt a2), .int (Int32.ofInt (s.1 96 (50 + (4 * a1))))]) rfl ?_
  obtain ⟨o23, h⟩ := h
  obtain ⟨o24, h⟩ := h
  refine lf_icmp_ne 37 32 rfl rfl rfl o23 o24 (fun c => ?_) (fun c => ?_)
  · have h := h.1 c
    refine lf_seg 2 (pc' := 40) (lv' := [(4, .int (Int32.ofInt (s.1 96 ((50 + (4 * a1)) + 1)))), (3, .int (Int32.ofInt (s.1 96 (50 + (4 * a1))))), (0, .ref 95), (1, .int (Int32.ofInt a1)), (2, .int (Int32.ofInt a2))]) (st' := [.int (Int32.ofInt a2), .int (Int32.ofInt (s.1 96 ((50 + (4 * a1)) + 1)))]) rfl ?_
    obtain ⟨o25, h⟩ := h
    refine lf_icmp_ne 47 43 rfl rfl rfl o25 o24 (fun c => ?_) (fun c => ?_)
    · have h := h.1 c
      refine lf_seg 1 (pc' := 48) (lv' := [(4, .int (Int32.ofInt (s.1 96 ((50 + (4 * a1)) + 1)))), (3, .int (Int32.ofInt (s.1 96 (50 + (4 * a1))))), (0, .ref 95), (1, .int (Int32.ofInt a1)), (2, .int (Int32.ofInt a2))]) (st' := [.int (Int32.ofInt (-1))]) rfl ?_
      exact lf_retI rfl rfl h
    · have h := h.2 c
      refine lf_seg 2 (pc' := 48) (lv' := [(4, .int (Int32.ofInt (s.1 96 ((50 + (4 * a1)) + 1)))), (3, .int (Int32.ofInt (s.1 96 (50 + (4 * a1))))), (0, .ref 95), (1, .int (Int32.ofInt a1)), (2, .int (Int32.ofInt a2))]) (st' := [.int (Int32.ofInt (s.1 96 (50 + (4 * a1))))]) rfl ?_
      exact lf_retI rfl rfl h
  · have h := h.2 c
    refine lf_seg 2 (pc' := 48) (lv' := [(4, .int (Int32.ofInt (s.1 96 ((50 + (4 * a1)) + 1)))), (3, .int (Int32.ofInt (s.1 96 (50 + (4 * a1))))), (0, .ref 95), (1, .int (Int32.ofInt a1)), (2, .int (Int32.ofInt a2))]) (st' := [.int (Int32.ofInt (s.1 96 ((50 + (4 * a1)) + 1)))]) rfl ?_
    exact lf_retI rfl rfl h
-- fm_186 Model.waysAt 95 i
def fm_186_p31 (X4 : Int → Int → lf_Z → Prop) (Q : Int → lf_Z → Prop) (x1 : Int) (x3 : Int) (y0 : Int) (y1 : Int) (s : lf_Z) : Prop := X4 (lf_or y0 y1) (x3 + 1) s
set_option maxRecDepth 100000 in
theorem gm_186_p31 {L : Nat} {xs : Nat → Int32} {d : Nat} {X4 : Int → Int → lf_Z → Prop} {Q : Int → lf_Z → Prop} {x1 : Int} {x3 : Int} {y0 : Int} {y1 : Int} {s : lf_Z} (hX4 : ∀ x2 x3 s, X4 x2 x3 s → lf_E (px_ro L xs) (d + 2) 186 4 [(0, .ref 95), (1, .int (Int32.ofInt x1)), (2, .int (Int32.ofInt x2)), (3, .int (Int32.ofInt x3))] [] s (lf_qi Q)) (h : fm_186_p31 X4 Q x1 x3 y0 y1 s) : lf_E (px_ro L xs) (d + 2) 186 31 [(0, .ref 95), (1, .int (Int32.ofInt x1)), (3, .int (Int32.ofInt x3))] [.int (Int32.ofInt y1), .int (Int32.ofInt y0)] s (lf_qi Q) := by
  unfold fm_186_p31 at h
  refine lf_ior 32 rfl rfl ?_
  refine lf_seg 1 (pc' := 33) (lv' := [(2, .int (Int32.ofInt (lf_or y0 y1))), (0, .ref 95), (1, .int (Int32.ofInt x1)), (3, .int (Int32.ofInt x3))]) (st' := []) rfl ?_
  refine lf_iinc 36 rfl rfl rfl rfl ?_
  refine lf_seg 1 (pc' := 4) (lv' := [(3, .int (Int32.ofInt (x3 + 1))), (2, .int (Int32.ofInt (lf_or y0 y1))), (0, .ref 95), (1, .int (Int32.ofInt x1))]) (st' := []) rfl ?_
  refine lf_sub (l := [(0, .ref 95), (1, .int (Int32.ofInt x1)), (2, .int (Int32.ofInt (lf_or y0 y1))), (3, .int (Int32.ofInt (x3 + 1)))]) (lf_sb1 rfl (lf_sb1 rfl (lf_sb1 rfl (lf_sb1 rfl lf_sb0)))) ?_
  exact hX4 _ _ _ h
def fm_186_p4 (Q : Int → lf_Z → Prop) (x1 : Int) (X4 : Int → Int → lf_Z → Prop) (x2 : Int) (x3 : Int) (s : lf_Z) : Prop := lf_R x3 ∧ (lf_R (s.1 96 1) ∧ ((s.1 96 1 ≤ x3 → (Q x2 s)) ∧ (¬ (s.1 96 1 ≤ x3) → (fm_187 x3 x1 (fun r24 s23 => (lf_R r24 ∧ ((r24 < 0 → (fm_186_p31 X4 Q x1 x3 x2 0 s23)) ∧ (¬ (r24 < 0) → (fm_186_p31 X4 Q x1 x3 x2 (lf_shl 1 x3) s23))))) s))))
def fm_186_p4L (Q : Int → lf_Z → Prop) (x1 : Int) (x2 : Int) (x3 : Int) (s : lf_Z) : Prop := ∀ X4 : Int → Int → lf_Z → Prop, (∀ (x2 : Int) (x3 : Int) (s : lf_Z), fm_186_p4 Q x1 X4 x2 x3 s → X4 x2 x3 s) → X4 x2 x3 s
set_option maxRecDepth 100000 in
theorem gm_186_p4 {L : Nat} {xs : Nat → Int32} {d : Nat} {Q : Int → lf_Z → Prop} {x1 : Int} {x2 : Int} {x3 : Int} {s : lf_Z} {X4 : Int → Int → lf_Z → Prop} (hX4 : ∀ x2 x3 s, X4 x2 x3 s → lf_E (px_ro L xs) (d + 2) 186 4 [(0, .ref 95), (1, .int (Int32.ofInt x1)), (2, .int (Int32.ofInt x2)), (3, .int (Int32.ofInt x3))] [] s (lf_qi Q)) (h : fm_186_p4 Q x1 X4 x2 x3 s) : lf_E (px_ro L xs) (d + 2) 186 4 [(0, .ref 95), (1, .int (Int32.ofInt x1)), (2, .int (Int32.ofInt x2)), (3, .int (Int32.ofInt x3))] [] s (lf_qi Q) := by
  unfold fm_186_p4 at h
  refine lf_seg 4 (pc' := 10) (lv' := [(0, .ref 95), (1, .int (Int32.ofInt x1)), (2, .int (Int32.ofInt x2)), (3, .int (Int32.ofInt x3))]) (st' := [.int (Int32.ofInt 1), .ref 96, .int (Int32.ofInt x3)]) rfl ?_
  refine lf_iald 11 1538 rfl rfl rfl rfl rfl rfl ⟨by decide, by decide⟩ ?_
  obtain ⟨o21, h⟩ := h
  obtain ⟨o22, h⟩ := h
  refine lf_icmp_ge 39 14 rfl rfl rfl o21 o22 (fun c => ?_) (fun c => ?_)
  · have h := h.1 c
    refine lf_seg 1 (pc' := 40) (lv' := [(0, .ref 95), (1, .int (Int32.ofInt x1)), (2, .int (Int32.ofInt x2)), (3, .int (Int32.ofInt x3))]) (st' := [.int (Int32.ofInt x2)]) rfl ?_
    exact lf_retI rfl rfl h
  · have h := h.2 c
    refine lf_seg 4 (pc' := 18) (lv' := [(0, .ref 95), (1, .int (Int32.ofInt x1)), (2, .int (Int32.ofInt x2)), (3, .int (Int32.ofInt x3))]) (st' := [.int (Int32.ofInt x1), .int (Int32.ofInt x3), .ref 95, .int (Int32.ofInt x2)]) rfl ?_
    refine lf_callI 21 rfl rfl rfl rfl (gm_187 h) (fun r24 s23 h => ?_)
    obtain ⟨o25, h⟩ := h
    refine lf_if_lt 30 24 rfl rfl rfl o25 (fun c => ?_) (fun c => ?_)
    · have h := h.1 c
      refine lf_seg 1 (pc' := 31) (lv' := [(0, .ref 95), (1, .int (Int32.ofInt x1)), (2, .int (Int32.ofInt x2)), (3, .int (Int32.ofInt x3))]) (st' := [.int (Int32.ofInt 0), .int (Int32.ofInt x2)]) rfl ?_
      refine lf_sub (l := [(0, .ref 95), (1, .int (Int32.ofInt x1)), (3, .int (Int32.ofInt x3))]) (lf_sb1 rfl (lf_sb1 rfl (lf_sb1 rfl lf_sb0))) ?_
      exact gm_186_p31 hX4 h
    · have h := h.2 c
      refine lf_seg 2 (pc' := 26) (lv' := [(0, .ref 95), (1, .int (Int32.ofInt x1)), (2, .int (Int32.ofInt x2)), (3, .int (Int32.ofInt x3))]) (st' := [.int (Int32.ofInt x3), .int (Int32.ofInt 1), .int (Int32.ofInt x2)]) rfl ?_
      refine lf_ishl 27 rfl rfl ?_
      refine lf_seg 1 (pc' := 31) (lv' := [(0, .ref 95), (1, .int (Int32.ofInt x1)), (2, .int (Int32.ofInt x2)), (3, .int (Int32.ofInt x3))]) (st' := [.int (Int32.ofInt (lf_shl 1 x3)), .int (Int32.ofInt x2)]) rfl ?_
      refine lf_sub (l := [(0, .ref 95), (1, .int (Int32.ofInt x1)), (3, .int (Int32.ofInt x3))]) (lf_sb1 rfl (lf_sb1 rfl (lf_sb1 rfl lf_sb0))) ?_
      exact gm_186_p31 hX4 h
theorem gm_186_p4L {L : Nat} {xs : Nat → Int32} {d : Nat} {Q : Int → lf_Z → Prop} {x1 : Int} {x2 : Int} {x3 : Int} {s : lf_Z} (h : fm_186_p4L Q x1 x2 x3 s) : lf_E (px_ro L xs) (d + 2) 186 4 [(0, .ref 95), (1, .int (Int32.ofInt x1)), (2, .int (Int32.ofInt x2)), (3, .int (Int32.ofInt x3))] [] s (lf_qi Q) :=
  h (fun x2 x3 s => lf_E (px_ro L xs) (d + 2) 186 4 [(0, .ref 95), (1, .int (Int32.ofInt x1)), (2, .int (Int32.ofInt x2)), (3, .int (Int32.ofInt x3))] [] s (lf_qi Q)) (fun x2 x3 s hb => gm_186_p4 (fun _ _ _ h => h) hb)
def fm_186 (a1 : Int) (Q : Int → lf_Z → Prop) (s : lf_Z) : Prop := fm_186_p4L Q a1 0 0 s
set_option maxRecDepth 100000 in
theorem gm_186 {L : Nat} {xs : Nat → Int32} {d : Nat} {a1 : Int} {Q : Int → lf_Z → Prop} {s : lf_Z} (h : fm_186 a1 Q s) : lf_M (px_ro L xs) (d + 2) 186 [.ref 95, .int (Int32.ofInt a1)] s (lf_qi Q) := by
  unfold fm_186 at h
  show lf_E (px_ro L xs) (d + 2) 186 0 [(0, .ref 95), (1, .int (Int32.ofInt a1))] [] s _
  refine lf_seg 4 (pc' := 4) (lv' := [(3, .int (Int32.ofInt 0)), (2, .int (Int32.ofInt 0)), (0, .ref 95), (1, .int (Int32.ofInt a1))]) (st' := []) rfl ?_
  refine lf_sub (l := [(0, .ref 95), (1, .int (Int32.ofInt a1)), (2, .int (Int32.ofInt 0)), (3, .int (Int32.ofInt 0))]) (lf_sb1 rfl (lf_sb1 rfl (lf_sb1 rfl (lf_sb1 rfl lf_sb0)))) ?_
  exact gm_186_p4L h
-- fm_188 Model.bits i
def fm_188_p4 (Q : Int → lf_Z → Prop) (x0 : Int) (X4 : Int → Int → lf_Z → Prop) (x1 : Int) (x2 : Int) (s : lf_Z) : Prop := lf_R x2 ∧ ((16 ≤ x2 → (Q x1 s)) ∧ (¬ (16 ≤ x2) → (X4 (x1 + (lf_and (lf_shr x0 x2) 1)) (x2 + 1) s)))
def fm_188_p4L (Q : Int → lf_Z → Prop) (x0 : Int) (x1 : Int) (x2 : Int) (s : lf_Z) : Prop := ∀ X4 : Int → Int → lf_Z → Prop, (∀ (x1 : Int) (x2 : Int) (s : lf_Z), fm_188_p4 Q x0 X4 x1 x2 s → X4 x1 x2 s) → X4 x1 x2 s
set_option maxRecDepth 100000 in
theorem gm_188_p4 {L : Nat} {xs : Nat → Int32} {d : Nat} {Q : Int → lf_Z → Prop} {x0 : Int} {x1 : Int} {x2 : Int} {s : lf_Z} {X4 : Int → Int → lf_Z → Prop} (hX4 : ∀ x1 x2 s, X4 x1 x2 s → lf_E (px_ro L xs) (d + 1) 188 4 [(0, .int (Int32.ofInt x0)), (1, .int (Int32.ofInt x1)), (2, .int (Int32.ofInt x2))] [] s (lf_qi Q)) (h : fm_188_p4 Q x0 X4 x1 x2 s) : lf_E (px_ro L xs) (d + 1) 188 4 [(0, .int (Int32.ofInt x0)), (1, .int (Int32.ofInt x1)), (2, .int (Int32.ofInt x2))] [] s (lf_qi Q) := by
  unfold fm_188_p4 at h
  refine lf_seg 1 (pc' := 5) (lv' := [(0, .int (Int32.ofInt x0)), (1, .int (Int32.ofInt x1)), (2, .int (Int32.ofInt x2))]) (st' := [.int (Int32.ofInt x2)]) rfl ?_
  refine lf_bipush 7 16 rfl rfl (by decide) (by decide) ?_
  obtain ⟨o21, h⟩ := h
  refine lf_icmp_ge 24 10 rfl rfl rfl o21 ⟨by decide, by decide⟩ (fun c => ?_) (fun c => ?_)
  · have h := h.1 c
    refine lf_seg 1 (pc' := 25) (lv' := [(0, .int (Int32.ofInt x0)), (1, .int (Int32.ofInt x1)), (2, .int (Int32.ofInt x2))]) (st' := [.int (Int32.ofInt x1)]) rfl ?_
    exact lf_retI rfl rfl h
  · have h := h.2 c
    refine lf_seg 3 (pc' := 13) (lv' := [(0, .int (Int32.ofInt x0)), (1, .int (Int32.ofInt x1)), (2, .int (Int32.ofInt x2))]) (st' := [.int (Int32.ofInt x2), .int (Int32.ofInt x0), .int (Int32.ofInt x1)]) rfl ?_
    refine lf_ishr 14 rfl rfl ?_
    refine lf_seg 1 (pc' := 15) (lv' := [(0, .int (Int32.ofInt x0)), (1, .int (Int32.ofInt x1)), (2, .int (Int32.ofInt x2))]) (st' := [.int (Int32.ofInt 1), .int (Int32.ofInt (lf_shr x0 x2)), .int (Int32.ofInt x1)]) rfl ?_
    refine lf_iand 16 rfl rfl ?_
    refine lf_iadd 17 rfl rfl ?_
    refine lf_seg 1 (pc' := 18) (lv' := [(1, .int (Int32.ofInt (x1 + (lf_and (lf_shr x0 x2) 1)))), (0, .int (Int32.ofInt x0)), (2, .int (Int32.ofInt x2))]) (st' := []) rfl ?_
    refine lf_iinc 21 rfl rfl rfl rfl ?_
    refine lf_seg 1 (pc' := 4) (lv' := [(2, .int (Int32.ofInt (x2 + 1))), (1, .int (Int32.ofInt (x1 + (lf_and (lf_shr x0 x2) 1)))), (0, .int (Int32.ofInt x0))]) (st' := []) rfl ?_
    refine lf_sub (l := [(0, .int (Int32.ofInt x0)), (1, .int (Int32.ofInt (x1 + (lf_and (lf_shr x0 x2) 1)))), (2, .int (Int32.ofInt (x2 + 1)))]) (lf_sb1 rfl (lf_sb1 rfl (lf_sb1 rfl lf_sb0))) ?_
    exact hX4 _ _ _ h
theorem gm_188_p4L {L : Nat} {xs : Nat → Int32} {d : Nat} {Q : Int → lf_Z → Prop} {x0 : Int} {x1 : Int} {x2 : Int} {s : lf_Z} (h : fm_188_p4L Q x0 x1 x2 s) : lf_E (px_ro L xs) (d + 1) 188 4 [(0, .int (Int32.ofInt x0)), (1, .int (Int32.ofInt x1)), (2, .int (Int32.ofInt x2))] [] s (lf_qi Q) :=
  h (fun x1 x2 s => lf_E (px_ro L xs) (d + 1) 188 4 [(0, .int (Int32.ofInt x0)), (1, .int (Int32.ofInt x1)), (2, .int (Int32.ofInt x2))] [] s (lf_qi Q)) (fun x1 x2 s hb => gm_188_p4 (fun _ _ _ h => h) hb)
def fm_188 (a0 : Int) (Q : Int → lf_Z → Prop) (s : lf_Z) : Prop := fm_188_p4L Q a0 0 0 s
set_option maxRecDepth 100000 in
theorem gm_188 {L : Nat} {xs : Nat → Int32} {d : Nat} {a0 : Int} {Q : Int → lf_Z → Prop} {s : lf_Z} (h : fm_188 a0 Q s) : lf_M (px_ro L xs) (d + 1) 188 [.int (Int32.ofInt a0)] s (lf_qi Q) := by
  unfold fm_188 at h
  show lf_E (px_ro L xs) (d + 1) 188 0 [(0, .int (Int32.ofInt a0))] [] s _
  refine lf_seg 4 (pc' := 4) (lv' := [(2, .int (Int32.ofInt 0)), (1, .int (Int32.ofInt 0)), (0, .int (Int32.ofInt a0))]) (st' := []) rfl ?_
  refine lf_sub (l := [(0, .int (Int32.ofInt a0)), (1, .int (Int32.ofInt 0)), (2, .int (Int32.ofInt 0))]) (lf_sb1 rfl (lf_sb1 rfl (lf_sb1 rfl lf_sb0))) ?_
  exact gm_188_p4L h
-- fm_184 Model.way 95 i i i
def fm_184_p106 (Q : Int → lf_Z → Prop) (x4 : Int) (y1 : Int) (y2 : Int) (s : lf_Z) : Prop := (0 ≤ y1 ∧ y1 < 1538) ∧ ((0 ≤ x4 + 3 ∧ x4 + 3 < 1538) ∧ ((0 ≤ 174 + (5 * ((lf_up (lf_up s.1 96 y1 y2) 96 (x4 + 3) 1) 96 1)) ∧ 174 + (5 * ((lf_up (lf_up s.1 96 y1 y2) 96 (x4 + 3) 1) 96 1)) < 1538) ∧ (Q ((((lf_up (lf_up (lf_up s.1 96 y1 y2) 96 (x4 + 3) 1) 96 (174 + (5 * ((lf_up (lf_up s.1 96 y1 y2) 96 (x4 + 3) 1) 96 1))) 0) 96 1) + 1) - 1) (lf_up (lf_up (lf_up (lf_up s.1 96 y1 y2) 96 (x4 + 3) 1) 96 (174 + (5 * ((lf_up (lf_up s.1 96 y1 y2) 96 (x4 + 3) 1) 96 1))) 0) 96 1 (((lf_up (lf_up (lf_up s.1 96 y1 y2) 96 (x4 + 3) 1) 96 (174 + (5 * ((lf_up (lf_up s.1 96 y1 y2) 96 (x4 + 3) 1) 96 1))) 0) 96 1) + 1), s.2.1, s.2.2))))
set_option maxRecDepth 100000 in
theorem gm_184_p106 {L : Nat} {xs : Nat → Int32} {d : Nat} {Q : Int → lf_Z → Prop} {x4 : Int} {y1 : Int} {y2 : Int} {s : lf_Z} (h : fm_184_p106 Q x4 y1 y2 s) : lf_E (px_ro L xs) (d + 3) 184 106 [(0, .ref 95), (4, .int (Int32.ofInt x4))] [.int (Int32.ofInt y2), .int (Int32.ofInt y1), .ref 96] s (lf_qi Q) := by
  unfold fm_184_p106 at h
  obtain ⟨o41, h⟩ := h
  refine lf_iast 107 1538 rfl rfl rfl rfl rfl rfl o41 ?_
  refine lf_as (lf_up s.1 96 y1 y2, s.2.1, s.2.2) rfl ?_
  refine lf_seg 4 (pc' := 114) (lv' := [(0, .ref 95), (4, .int (Int32.ofInt x4))]) (st' := [.int (Int32.ofInt 3), .int (Int32.ofInt x4), .ref 96]) rfl ?_
  refine lf_iadd 115 rfl rfl ?_
  refine lf_seg 1 (pc' := 116) (lv' := [(0, .ref 95), (4, .int (Int32.ofInt x4))]) (st' := [.int (Int32.ofInt 1), .int (Int32.ofInt (x4 + 3)), .ref 96]) rfl ?_
  obtain ⟨o42, h⟩ := h
  refine lf_iast 117 1538 rfl rfl rfl rfl rfl rfl o42 ?_
  refine lf_as (lf_up (lf_up s.1 96 y1 y2) 96 (x4 + 3) 1, s.2.1, s.2.2) rfl ?_
  refine lf_seg 2 (pc' := 121) (lv' := [(0, .ref 95), (4, .int (Int32.ofInt x4))]) (st' := [.ref 96]) rfl ?_
  refine lf_sipush 124 174 rfl rfl (by decide) (by decide) ?_
  refine lf_seg 4 (pc' := 130) (lv' := [(0, .ref 95), (4, .int (Int32.ofInt x4))]) (st' := [.int (Int32.ofInt 1), .ref 96, .int (Int32.ofInt 5), .int (Int32.ofInt 174), .ref 96]) rfl ?_
  refine lf_iald 131 1538 rfl rfl rfl rfl rfl rfl ⟨by decide, by decide⟩ ?_
  refine lf_imul 132 rfl rfl ?_
  refine lf_iadd 133 rfl rfl ?_
  refine lf_seg 1 (pc' := 134) (lv' := [(0, .ref 95), (4, .int (Int32.ofInt x4))]) (st' := [.int (Int32.ofInt 0), .int (Int32.ofInt (174 + (5 * ((lf_up (lf_up s.1 96 y1 y2) 96 (x4 + 3) 1) 96 1)))), .ref 96]) rfl ?_
  obtain ⟨o43, h⟩ := h
  refine lf_iast 135 1538 rfl rfl rfl rfl rfl rfl o43 ?_
  refine lf_as (lf_up (lf_up (lf_up s.1 96 y1 y2) 96 (x4 + 3) 1) 96 (174 + (5 * ((lf_up (lf_up s.1 96 y1 y2) 96 (x4 + 3) 1) 96 1))) 0, s.2.1, s.2.2) rfl ?_
  refine lf_seg 4 (pc' := 141) (lv' := [(0, .ref 95), (4, .int (Int32.ofInt x4))]) (st' := [.int (Int32.ofInt 1), .ref 96, .int (Int32.ofInt 1), .ref 96]) rfl ?_
  refine lf_iald 142 1538 rfl rfl rfl rfl rfl rfl ⟨by decide, by decide⟩ ?_
  refine lf_seg 1 (pc' := 143) (lv' := [(0, .ref 95), (4, .int (Int32.ofInt x4))]) (st' := [.int (Int32.ofInt 1), .int (Int32.ofInt ((lf_up (lf_up (lf_up s.1 96 y1 y2) 96 (x4 + 3) 1) 96 (174 + (5 * ((lf_up (lf_up s.1 96 y1 y2) 96 (x4 + 3) 1) 96 1))) 0) 96 1)), .int (Int32.ofInt 1), .ref 96]) rfl ?_
  refine lf_iadd 144 rfl rfl ?_
  refine lf_iast 145 1538 rfl rfl rfl rfl rfl rfl ⟨by decide, by decide⟩ ?_
  refine lf_as (lf_up (lf_up (lf_up (lf_up s.1 96 y1 y2) 96 (x4 + 3) 1) 96 (174 + (5 * ((lf_up (lf_up s.1 96 y1 y2) 96 (x4 + 3) 1) 96 1))) 0) 96 1 (((lf_up (lf_up (lf_up s.1 96 y1 y2) 96 (x4 + 3) 1) 96 (174 + (5 * ((lf_up (lf_up s.1 96 y1 y2) 96 (x4 + 3) 1) 96 1))) 0) 96 1) + 1), s.2.1, s.2.2) rfl ?_
  refine lf_seg 3 (pc' := 150) (lv' := [(0, .ref 95), (4, .int (Int32.ofInt x4))]) (st' := [.int (Int32.ofInt 1), .ref 96]) rfl ?_
  refine lf_iald 151 1538 rfl rfl rfl rfl rfl rfl ⟨by decide, by decide⟩ ?_
  refine lf_seg 1 (pc' := 152) (lv' := [(0, .ref 95), (4, .int (Int32.ofInt x4))]) (st' := [.int (Int32.ofInt 1), .int (Int32.ofInt (((lf_up (lf_up (lf_up s.1 96 y1 y2) 96 (x4 + 3) 1) 96 (174 + (5 * ((lf_up (lf_up s.1 96 y1 y2) 96 (x4 + 3) 1) 96 1))) 0) 96 1) + 1))]) rfl ?_
  refine lf_isub 153 rfl rfl ?_
  exact lf_retI rfl rfl h
def fm_184 (a1 : Int) (a2 : Int) (a3 : Int) (Q : Int → lf_Z → Prop) (s : lf_Z) : Prop := fm_185 a1 (fun z22 s21 => ((z22 = false → (Q (-1) s21)) ∧ (z22 = true → (fm_185 a2 (fun z24 s23 => ((z24 = false → (Q (-1) s23)) ∧ (z24 = true → (lf_R a1 ∧ (lf_R a2 ∧ ((a1 = a2 → (Q (-1) s23)) ∧ (¬ (a1 = a2) → (fm_186 a1 (fun r28 s27 => (fm_188 r28 (fun r30 s29 => (lf_R r30 ∧ ((r30 = 4 → (Q (-1) s29)) ∧ (¬ (r30 = 4) → (fm_186 a2 (fun r33 s32 => (fm_188 r33 (fun r35 s34 => (lf_R r35 ∧ ((r35 = 4 → (Q (-1) s34)) ∧ (¬ (r35 = 4) → (lf_R (s34.1 96 1) ∧ ((s34.1 96 1 ≠ 16 → ((0 ≤ 50 + (4 * (s34.1 96 1)) ∧ 50 + (4 * (s34.1 96 1)) < 1538) ∧ ((0 ≤ (50 + (4 * (s34.1 96 1))) + 1 ∧ (50 + (4 * (s34.1 96 1))) + 1 < 1538) ∧ (lf_R a3 ∧ ((a3 = 0 → (fm_184_p106 Q (50 + (4 * (s34.1 96 1))) ((50 + (4 * (s34.1 96 1))) + 2) 0 (lf_up (lf_up s34.1 96 (50 + (4 * (s34.1 96 1))) a1) 96 ((50 + (4 * (s34.1 96 1))) + 1) a2, s34.2.1, s34.2.2))) ∧ (¬ (a3 = 0) → (fm_184_p106 Q (50 + (4 * (s34.1 96 1))) ((50 + (4 * (s34.1 96 1))) + 2) 1 (lf_up (lf_up s34.1 96 (50 + (4 * (s34.1 96 1))) a1) 96 ((50 + (4 * (s34.1 96 1))) + 1) a2, s34.2.1, s34.2.2)))))))) ∧ (¬ (s34.1 96 1 ≠ 16) → (Q (-1) s34)))))))) s32)) s29))))) s27)) s23)))))))) s21)))) s
set_option maxRecDepth 100000 in
theorem gm_184 {L : Nat} {xs : Nat → Int32} {d : Nat} {a1 : Int} {a2 : Int} {a3 : Int} {Q : Int → lf_Z → Prop} {s : lf_Z} (h : fm_184 a1 a2 a3 Q s) : lf_M (px_ro L xs) (d + 3) 184 [.ref 95, .int (Int32.ofInt a1), .int (Int32.ofInt a2), .int (Int32.ofInt a3)] s (lf_qi Q) := by
  unfold fm_184 at h
  show lf_E (px_ro L xs) (d + 3) 184 0 [(0, .ref 95), (1, .int (Int32.ofInt a1)), (2, .int (Int32.ofInt a2)), (3, .int (Int32.ofInt a3))] [] s _
  refine lf_seg 2 (pc' := 2) (lv' := [(0, .ref 95), (1, .int (Int32.ofInt a1)), (2, .int (Int32.ofInt a2)), (3, .int (Int32.ofInt a3))]) (st' := [.int (Int32.ofInt a1), .ref 95]) rfl ?_
  refine lf_callZ 5 rfl rfl rfl rfl (gm_185 h) (fun z22 s21 h => ?_)
  refine lf_ifz_eq 56 8 rfl rfl rfl (fun c => ?_) (fun c => ?_)
  · have h := h.1 c
    refine lf_seg 1 (pc' := 57) (lv' := [(0, .ref 95), (1, .int (Int32.ofInt a1)), (2, .int (Int32.ofInt a2)), (3, .int (Int32.ofInt a3))]) (st' := [.int (Int32.ofInt (-1))]) rfl ?_
    exact lf_retI rfl rfl h
  · have h := h.2 c
    refine lf_seg 2 (pc' := 10) (lv' := [(0, .ref 95), (1, .int (Int32.ofInt a1)), (2, .int (Int32.ofInt a2)), (3, .int (Int32.ofInt a3))]) (st' := [.int (Int32.ofInt a2), .ref 95]) rfl ?_
    refine lf_callZ 13 rfl rfl rfl rfl (gm_185 h) (fun z24 s23 h => ?_)
    refine lf_ifz_eq 56 16 rfl rfl rfl (fun c => ?_) (fun c => ?_)
    · have h := h.1 c
      refine lf_seg 1 (pc' := 57) (lv' := [(0, .ref 95), (1, .int (Int32.ofInt a1)), (2, .int (Int32.ofInt a2)), (3, .int (Int32.ofInt a3))]) (st' := [.int (Int32.ofInt (-1))]) rfl ?_
      exact lf_retI rfl rfl h
    · have h := h.2 c
      refine lf_seg 2 (pc' := 18) (lv' := [(0, .ref 95), (1, .int (Int32.ofInt a1)), (2, .int (Int32.ofInt a2)), (3, .int (Int32.ofInt a3))]) (st' := [.int (Int32.ofInt a2), .int (Int32.ofInt a1)]) rfl ?_
      obtain ⟨o25, h⟩ := h
      obtain ⟨o26, h⟩ := h
      refine lf_icmp_eq 56 21 rfl rfl rfl o25 o26 (fun c => ?_) (fun c => ?_)
      · have h := h.1 c
        refine lf_seg 1 (pc' := 57) (lv' := [(0, .ref 95), (1, .int (Int32.ofInt a1)), (2, .int (Int32.ofInt a2)), (3, .int (Int32.ofInt a3))]) (st' := [.int (Int32.ofInt (-1))]) rfl ?_
        exact lf_retI rfl rfl h
      · have h := h.2 c
        refine lf_seg 2 (pc' := 23) (lv' := [(0, .ref 95), (1, .int (Int32.ofInt a1)), (2, .int (Int32.ofInt a2)), (3, .int (Int32.ofInt a3))]) (st' := [.int (Int32.ofInt a1), .ref 95]) rfl ?_
        refine lf_callI 26 rfl rfl rfl rfl (gm_186 h) (fun r28 s27 h => ?_)
        refine lf_callI 29 rfl rfl rfl rfl (gm_188 h) (fun r30 s29 h => ?_)
        refine lf_seg 1 (pc' := 30) (lv' := [(0, .ref 95), (1, .int (Int32.ofInt a1)), (2, .int (Int32.ofInt a2)), (3, .int (Int32.ofInt a3))]) (st' := [.int (Int32.ofInt 4), .int (Int32.ofInt r30)]) rfl ?_
        obtain ⟨o31, h⟩ := h
        refine lf_icmp_eq 56 33 rfl rfl rfl o31 ⟨by decide, by decide⟩ (fun c => ?_) (fun c => ?_)
        · have h := h.1 c
          refine lf_seg 1 (pc' := 57) (lv' := [(0, .ref 95), (1, .int (Int32.ofInt a1)), (2, .int (Int32.ofInt a2)), (3, .int (Int32.ofInt a3))]) (st' := [.int (Int32.ofInt (-1))]) rfl ?_
          exact lf_retI rfl rfl h
        · have h := h.2 c
          refine lf_seg 2 (pc' := 35) (lv' := [(0, .ref 95), (1, .int (Int32.ofInt a1)), (2, .int (Int32.ofInt a2)), (3, .int (Int32.ofInt a3))]) (st' := [.int (Int32.ofInt a2), .ref 95]) rfl ?_
          refine lf_callI 38 rfl rfl rfl rfl (gm_186 h) (fun r33 s32 h => ?_)
          refine lf_callI 41 rfl rfl rfl rfl (gm_188 h) (fun r35 s34 h => ?_)
          refine lf_seg 1 (pc' := 42) (lv' := [(0, .ref 95), (1, .int (Int32.ofInt a1)), (2, .int (Int32.ofInt a2)), (3, .int (Int32.ofInt a3))]) (st' := [.int (Int32.ofInt 4), .int (Int32.ofInt r35)]) rfl ?_
          obtain ⟨o36, h⟩ := h
          refine lf_icmp_eq 56 45 rfl rfl rfl o36 ⟨by decide, by decide⟩ (fun c => ?_) (fun c => ?_)
          · have h := h.1 c
            refine lf_seg 1 (pc' := 57) (lv' := [(0, .ref 95), (1, .int (Int32.ofInt a1)), (2, .int (Int32.ofInt a2)), (3, .int (Int32.ofInt a3))]) (st' := [.int (Int32.ofInt (-1))]) rfl ?_
            exact lf_retI rfl rfl h
          · have h := h.2 c
            refine lf_seg 3 (pc' := 50) (lv' := [(0, .ref 95), (1, .int (Int32.ofInt a1)), (2, .int (Int32.ofInt a2)), (3, .int (Int32.ofInt a3))]) (st' := [.int (Int32.ofInt 1), .ref 96]) rfl ?_
            refine lf_iald 51 1538 rfl rfl rfl rfl rfl rfl ⟨by decide, by decide⟩ ?_
            refine lf_bipush 53 16 rfl rfl (by decide) (by decide) ?_
            obtain ⟨o37, h⟩ := h
            refine lf_icmp_ne 58 56 rfl rfl rfl o37 ⟨by decide, by decide⟩ (fun c => ?_) (fun c => ?_)
            · have h := h.1 c
              refine lf_bipush 60 50 rfl rfl (by decide) (by decide) ?_
              refine lf_seg 4 (pc' := 66) (lv' := [(0, .ref 95), (1, .int (Int32.ofInt a1)), (2, .int (Int32.ofInt a2)), (3, .int (Int32.ofInt a3))]) (st' := [.int (Int32.ofInt 1), .ref 96, .int (Int32.ofInt 4), .int (Int32.ofInt 50)]) rfl ?_
              refine lf_iald 67 1538 rfl rfl rfl rfl rfl rfl ⟨by decide, by decide⟩ ?_
              refine lf_imul 68 rfl rfl ?_
              refine lf_iadd 69 rfl rfl ?_
              refine lf_seg 5 (pc' := 78) (lv' := [(4, .int (Int32.ofInt (50 + (4 * (s34.1 96 1))))), (0, .ref 95), (1, .int (Int32.ofInt a1)), (2, .int (Int32.ofInt a2)), (3, .int (Int32.ofInt a3))]) (st' := [.int (Int32.ofInt a1), .int (Int32.ofInt (50 + (4 * (s34.1 96 1)))), .ref 96]) rfl ?_
              obtain ⟨o38, h⟩ := h
              refine lf_iast 79 1538 rfl rfl rfl rfl rfl rfl o38 ?_
              refine lf_as (lf_up s34.1 96 (50 + (4 * (s34.1 96 1))) a1, s34.2.1, s34.2.2) rfl ?_
              refine lf_seg 4 (pc' := 86) (lv' := [(4, .int (Int32.ofInt (50 + (4 * (s34.1 96 1))))), (0, .ref 95), (1, .int (Int32.ofInt a1)), (2, .int (Int32.ofInt a2)), (3, .int (Int32.ofInt a3))]) (st' := [.int (Int32.ofInt 1), .int (Int32.ofInt (50 + (4 * (s34.1 96 1)))), .ref 96]) rfl ?_
              refine lf_iadd 87 rfl rfl ?_
              refine lf_seg 1 (pc' := 88) (lv' := [(4, .int (Int32.ofInt (50 + (4 * (s34.1 96 1))))), (0, .ref 95), (1, .int (Int32.ofInt a1)), (2, .int (Int32.ofInt a2)), (3, .int (Int32.ofInt a3))]) (st' := [.int (Int32.ofInt a2), .int (Int32.ofInt ((50 + (4 * (s34.1 96 1))) + 1)), .ref 96]) rfl ?_
              obtain ⟨o39, h⟩ := h
              refine lf_iast 89 1538 rfl rfl rfl rfl rfl rfl o39 ?_
              refine lf_as (lf_up (lf_up s34.1 96 (50 + (4 * (s34.1 96 1))) a1) 96 ((50 + (4 * (s34.1 96 1))) + 1) a2, s34.2.1, s34.2.2) rfl ?_
              refine lf_seg 4 (pc' := 96) (lv' := [(4, .int (Int32.ofInt (50 + (4 * (s34.1 96 1))))), (0, .ref 95), (1, .int (Int32.ofInt a1)), (2, .int (Int32.ofInt a2)), (3, .int (Int32.ofInt a3))]) (st' := [.int (Int32.ofInt 2), .int (Int32.ofInt (50 + (4 * (s34.1 96 1)))), .ref 96]) rfl ?_
              refine lf_iadd 97 rfl rfl ?_
              refine lf_seg 1 (pc' := 98) (lv' := [(4, .int (Int32.ofInt (50 + (4 * (s34.1 96 1))))), (0, .ref 95), (1, .int (Int32.ofInt a1)), (2, .int (Int32.ofInt a2)), (3, .int (Int32.ofInt a3))]) (st' := [.int (Int32.ofInt a3), .int (Int32.ofInt ((50 + (4 * (s34.1 96 1))) + 2)), .ref 96]) rfl ?_
              obtain ⟨o40, h⟩ := h
              refine lf_if_eq 105 101 rfl rfl rfl o40 (fun c => ?_) (fun c => ?_)
              · have h := h.1 c
                refine lf_seg 1 (pc' := 106) (lv' := [(4, .int (Int32.ofInt (50 + (4 * (s34.1 96 1))))), (0, .ref 95), (1, .int (Int32.ofInt a1)), (2, .int (Int32.ofInt a2)), (3, .int (Int32.ofInt a3))]) (st' := [.int (Int32.ofInt 0), .int (Int32.ofInt ((50 + (4 * (s34.1 96 1))) + 2)), .ref 96]) rfl ?_
                refine lf_sub (l := [(0, .ref 95), (4, .int (Int32.ofInt (50 + (4 * (s34.1 96 1)))))]) (lf_sb1 rfl (lf_sb1 rfl lf_sb0)) ?_
                exact gm_184_p106 h
              · have h := h.2 c
                refine lf_seg 2 (pc' := 106) (lv' := [(4, .int (Int32.ofInt (50 + (4 * (s34.1 96 1))))), (0, .ref 95), (1, .int (Int32.ofInt a1)), (2, .int (Int32.ofInt a2)), (3, .int (Int32.ofInt a3))]) (st' := [.int (Int32.ofInt 1), .int (Int32.ofInt ((50 + (4 * (s34.1 96 1))) + 2)), .ref 96]) rfl ?_
                refine lf_sub (l := [(0, .ref 95), (4, .int (Int32.ofInt (50 + (4 * (s34.1 96 1)))))]) (lf_sb1 rfl (lf_sb1 rfl lf_sb0)) ?_
                exact gm_184_p106 h
            · have h := h.2 c
              refine lf_seg 1 (pc' := 57) (lv' := [(0, .ref 95), (1, .int (Int32.ofInt a1)), (2, .int (Int32.ofInt a2)), (3, .int (Int32.ofInt a3))]) (st' := [.int (Int32.ofInt (-1))]) rfl ?_
              exact lf_retI rfl rfl h
-- fm_24 Land.addPerson 1 i i i i
def fm_24 (a1 : Int) (a2 : Int) (a3 : Int) (a4 : Int) (Q : Int → lf_Z → Prop) (s : lf_Z) : Prop := lf_R (s.1 1 2) ∧ ((s.1 1 2 < 6 → ((0 ≤ s.1 1 2 ∧ s.1 1 2 < 6) ∧ ((a2 = 0 ∨ a2 = 1) ∧ ((a3 = 0 ∨ a3 = 1) ∧ (Q (((s.1 1 2) + 1) - 1) (lf_up (lf_up (lf_up (lf_up (lf_up s.1 7 (s.1 1 2) a1) 8 (s.1 1 2) a2) 9 (s.1 1 2) a3) 10 (s.1 1 2) a4) 1 2 ((s.1 1 2) + 1), s.2.1, s.2.2)))))) ∧ (¬ (s.1 1 2 < 6) → (Q (-1) s)))
set_option maxRecDepth 100000 in
theorem gm_24 {L : Nat} {xs : Nat → Int32} {d : Nat} {a1 : Int} {a2 : Int} {a3 : Int} {a4 : Int} {Q : Int → lf_Z → Prop} {s : lf_Z} (h : fm_24 a1 a2 a3 a4 Q s) : lf_M (px_ro L xs) (d + 1) 24 [.ref 1, .int (Int32.ofInt a1), .int (Int32.ofInt a2), .int (Int32.ofInt a3), .int (Int32.ofInt a4)] s (lf_qi Q) := by
  unfold fm_24 at h
  show lf_E (px_ro L xs) (d + 1) 24 0 [(0, .ref 1), (1, .int (Int32.ofInt a1)), (2, .int (Int32.ofInt a2)), (3, .int (Int32.ofInt a3)), (4, .int (Int32.ofInt a4))] [] s _
  refine lf_seg 1 (pc' := 1) (lv' := [(0, .ref 1), (1, .int (Int32.ofInt a1)), (2, .int (Int32.ofInt a2)), (3, .int (Int32.ofInt a3)), (4, .int (Int32.ofInt a4))]) (st' := [.ref 1]) rfl ?_
  refine lf_getI 4 2 rfl rfl rfl rfl rfl rfl rfl ?_
  refine lf_bipush 6 6 rfl rfl (by decide) (by decide) ?_
  obtain ⟨o21, h⟩ := h
  refine lf_icmp_lt 11 9 rfl rfl rfl o21 ⟨by decide, by decide⟩ (fun c => ?_) (fun c => ?_)
  · have h := h.1 c
    refine lf_seg 3 (pc' := 16) (lv' := [(0, .ref 1), (1, .int (Int32.ofInt a1)), (2, .int (Int32.ofInt a2)), (3, .int (Int32.ofInt a3)), (4, .int (Int32.ofInt a4))]) (st' := [.ref 1, .ref 7]) rfl ?_
    refine lf_getI 19 2 rfl rfl rfl rfl rfl rfl rfl ?_
    refine lf_seg 1 (pc' := 20) (lv' := [(0, .ref 1), (1, .int (Int32.ofInt a1)), (2, .int (Int32.ofInt a2)), (3, .int (Int32.ofInt a3)), (4, .int (Int32.ofInt a4))]) (st' := [.int (Int32.ofInt a1), .int (Int32.ofInt (s.1 1 2)), .ref 7]) rfl ?_
    obtain ⟨o22, h⟩ := h
    refine lf_iast 21 6 rfl rfl rfl rfl rfl rfl o22 ?_
    refine lf_as (lf_up s.1 7 (s.1 1 2) a1, s.2.1, s.2.2) rfl ?_
    refine lf_seg 3 (pc' := 26) (lv' := [(0, .ref 1), (1, .int (Int32.ofInt a1)), (2, .int (Int32.ofInt a2)), (3, .int (Int32.ofInt a3)), (4, .int (Int32.ofInt a4))]) (st' := [.ref 1, .ref 8]) rfl ?_
    refine lf_getI 29 2 rfl rfl rfl rfl rfl rfl rfl ?_
    refine lf_seg 1 (pc' := 30) (lv' := [(0, .ref 1), (1, .int (Int32.ofInt a1)), (2, .int (Int32.ofInt a2)), (3, .int (Int32.ofInt a3)), (4, .int (Int32.ofInt a4))]) (st' := [.int (Int32.ofInt a2), .int (Int32.ofInt (s.1 1 2)), .ref 8]) rfl ?_
    obtain ⟨o23, h⟩ := h
    refine lf_zast 31 6 rfl rfl rfl rfl rfl rfl o22 o23 ?_
    refine lf_as (lf_up (lf_up s.1 7 (s.1 1 2) a1) 8 (s.1 1 2) a2, s.2.1, s.2.2) rfl ?_
    refine lf_seg 3 (pc' := 36) (lv' := [(0, .ref 1), (1, .int (Int32.ofInt a1)), (2, .int (Int32.ofInt a2)), (3, .int (Int32.ofInt a3)), (4, .int (Int32.ofInt a4))]) (st' := [.ref 1, .ref 9]) rfl ?_
    refine lf_getI 39 2 rfl rfl rfl rfl rfl rfl rfl ?_
    refine lf_seg 1 (pc' := 40) (lv' := [(0, .ref 1), (1, .int (Int32.ofInt a1)), (2, .int (Int32.ofInt a2)), (3, .int (Int32.ofInt a3)), (4, .int (Int32.ofInt a4))]) (st' := [.int (Int32.ofInt a3), .int (Int32.ofInt (s.1 1 2)), .ref 9]) rfl ?_
    obtain ⟨o24, h⟩ := h
    refine lf_zast 41 6 rfl rfl rfl rfl rfl rfl o22 o24 ?_
    refine lf_as (lf_up (lf_up (lf_up s.1 7 (s.1 1 2) a1) 8 (s.1 1 2) a2) 9 (s.1 1 2) a3, s.2.1, s.2.2) rfl ?_
    refine lf_seg 3 (pc' := 46) (lv' := [(0, .ref 1), (1, .int (Int32.ofInt a1)), (2, .int (Int32.ofInt a2)), (3, .int (Int32.ofInt a3)), (4, .int (Int32.ofInt a4))]) (st' := [.ref 1, .ref 10]) rfl ?_
    refine lf_getI 49 2 rfl rfl rfl rfl rfl rfl rfl ?_
    refine lf_seg 1 (pc' := 51) (lv' := [(0, .ref 1), (1, .int (Int32.ofInt a1)), (2, .int (Int32.ofInt a2)), (3, .int (Int32.ofInt a3)), (4, .int (Int32.ofInt a4))]) (st' := [.int (Int32.ofInt a4), .int (Int32.ofInt (s.1 1 2)), .ref 10]) rfl ?_
    refine lf_iast 52 6 rfl rfl rfl rfl rfl rfl o22 ?_
    refine lf_as (lf_up (lf_up (lf_up (lf_up s.1 7 (s.1 1 2) a1) 8 (s.1 1 2) a2) 9 (s.1 1 2) a3) 10 (s.1 1 2) a4, s.2.1, s.2.2) rfl ?_
    refine lf_seg 2 (pc' := 54) (lv' := [(0, .ref 1), (1, .int (Int32.ofInt a1)), (2, .int (Int32.ofInt a2)), (3, .int (Int32.ofInt a3)), (4, .int (Int32.ofInt a4))]) (st' := [.ref 1, .ref 1]) rfl ?_
    refine lf_getI 57 2 rfl rfl rfl rfl rfl rfl rfl ?_
    refine lf_seg 1 (pc' := 58) (lv' := [(0, .ref 1), (1, .int (Int32.ofInt a1)), (2, .int (Int32.ofInt a2)), (3, .int (Int32.ofInt a3)), (4, .int (Int32.ofInt a4))]) (st' := [.int (Int32.ofInt 1), .int (Int32.ofInt (s.1 1 2)), .ref 1]) rfl ?_
    refine lf_iadd 59 rfl rfl ?_
    refine lf_putI 62 2 rfl rfl rfl rfl rfl rfl rfl rfl ?_
    refine lf_as (lf_up (lf_up (lf_up (lf_up (lf_up s.1 7 (s.1 1 2) a1) 8 (s.1 1 2) a2) 9 (s.1 1 2) a3) 10 (s.1 1 2) a4) 1 2 ((s.1 1 2) + 1), s.2.1, s.2.2) rfl ?_
    refine lf_seg 1 (pc' := 63) (lv' := [(0, .ref 1), (1, .int (Int32.ofInt a1)), (2, .int (Int32.ofInt a2)), (3, .int (Int32.ofInt a3)), (4, .int (Int32.ofInt a4))]) (st' := [.ref 1]) rfl ?_
    refine lf_getI 66 2 rfl rfl rfl rfl rfl rfl rfl ?_
    refine lf_seg 1 (pc' := 67) (lv' := [(0, .ref 1), (1, .int (Int32.ofInt a1)), (2, .int (Int32.ofInt a2)), (3, .int (Int32.ofInt a3)), (4, .int (Int32.ofInt a4))]) (st' := [.int (Int32.ofInt 1), .int (Int32.ofInt ((s.1 1 2) + 1))]) rfl ?_
    refine lf_isub 68 rfl rfl ?_
    exact lf_retI rfl rfl h
  · have h := h.2 c
    refine lf_seg 1 (pc' := 10) (lv' := [(0, .ref 1), (1, .int (Int32.ofInt a1)), (2, .int (Int32.ofInt a2)), (3, .int (Int32.ofInt a3)), (4, .int (Int32.ofInt a4))]) (st' := [.int (Int32.ofInt (-1))]) rfl ?_
    exact lf_retI rfl rfl h
-- fm_23 ElevenBullocks.person 0 i i i i
def fm_23 (a1 : Int) (a2 : Int) (a3 : Int) (a4 : Int) (Q : Int → lf_Z → Prop) (s : lf_Z) : Prop := fm_15 a1 0 9 (fun z22 s21 => ((z22 = false → (Q (-1) s21)) ∧ (z22 = true → (fm_18 a4 (fun z24 s23 => ((z24 = true → (fm_24 a1 a2 a3 a4 (fun r26 s25 => (lf_R r26 ∧ ((r26 = (-1) → (Q r26 s25)) ∧ (¬ (r26 = (-1)) → ((0 ≤ r26 ∧ r26 < 6) ∧ (Q r26 (lf_up (lf_up s25.1 19 r26 a4) 20 r26 (-1), s25.2.1, s25.2.2))))))) s23)) ∧ (z24 = false → (Q (-1) s23)))) s21)))) s
set_option maxRecDepth 100000 in
theorem gm_23 {L : Nat} {xs : Nat → Int32} {d : Nat} {a1 : Int} {a2 : Int} {a3 : Int} {a4 : Int} {Q : Int → lf_Z → Prop} {s : lf_Z} (h : fm_23 a1 a2 a3 a4 Q s) : lf_M (px_ro L xs) (d + 2) 23 [.ref 0, .int (Int32.ofInt a1), .int (Int32.ofInt a2), .int (Int32.ofInt a3), .int (Int32.ofInt a4)] s (lf_qi Q) := by
  unfold fm_23 at h
  show lf_E (px_ro L xs) (d + 2) 23 0 [(0, .ref 0), (1, .int (Int32.ofInt a1)), (2, .int (Int32.ofInt a2)), (3, .int (Int32.ofInt a3)), (4, .int (Int32.ofInt a4))] [] s _
  refine lf_seg 2 (pc' := 2) (lv' := [(0, .ref 0), (1, .int (Int32.ofInt a1)), (2, .int (Int32.ofInt a2)), (3, .int (Int32.ofInt a3)), (4, .int (Int32.ofInt a4))]) (st' := [.int (Int32.ofInt 0), .int (Int32.ofInt a1)]) rfl ?_
  refine lf_bipush 4 9 rfl rfl (by decide) (by decide) ?_
  refine lf_callZ 7 rfl rfl rfl rfl (gm_15 h) (fun z22 s21 h => ?_)
  refine lf_ifz_eq 22 10 rfl rfl rfl (fun c => ?_) (fun c => ?_)
  · have h := h.1 c
    refine lf_seg 1 (pc' := 23) (lv' := [(0, .ref 0), (1, .int (Int32.ofInt a1)), (2, .int (Int32.ofInt a2)), (3, .int (Int32.ofInt a3)), (4, .int (Int32.ofInt a4))]) (st' := [.int (Int32.ofInt (-1))]) rfl ?_
    exact lf_retI rfl rfl h
  · have h := h.2 c
    refine lf_seg 3 (pc' := 16) (lv' := [(0, .ref 0), (1, .int (Int32.ofInt a1)), (2, .int (Int32.ofInt a2)), (3, .int (Int32.ofInt a3)), (4, .int (Int32.ofInt a4))]) (st' := [.int (Int32.ofInt a4), .ref 1]) rfl ?_
    refine lf_callZ 19 rfl rfl rfl rfl (gm_18 h) (fun z24 s23 h => ?_)
    refine lf_ifz_ne 24 22 rfl rfl rfl (fun c => ?_) (fun c => ?_)
    · have h := h.1 c
      refine lf_seg 6 (pc' := 33) (lv' := [(0, .ref 0), (1, .int (Int32.ofInt a1)), (2, .int (Int32.ofInt a2)), (3, .int (Int32.ofInt a3)), (4, .int (Int32.ofInt a4))]) (st' := [.int (Int32.ofInt a4), .int (Int32.ofInt a3), .int (Int32.ofInt a2), .int (Int32.ofInt a1), .ref 1]) rfl ?_
      refine lf_callI 36 rfl rfl rfl rfl (gm_24 h) (fun r26 s25 h => ?_)
      refine lf_seg 3 (pc' := 41) (lv' := [(5, .int (Int32.ofInt r26)), (0, .ref 0), (1, .int (Int32.ofInt a1)), (2, .int (Int32.ofInt a2)), (3, .int (Int32.ofInt a3)), (4, .int (Int32.ofInt a4))]) (st' := [.int (Int32.ofInt (-1)), .int (Int32.ofInt r26)]) rfl ?_
      obtain ⟨o27, h⟩ := h
      refine lf_icmp_eq 67 44 rfl rfl rfl o27 ⟨by decide, by decide⟩ (fun c => ?_) (fun c => ?_)
      · have h := h.1 c
        refine lf_seg 1 (pc' := 69) (lv' := [(5, .int (Int32.ofInt r26)), (0, .ref 0), (1, .int (Int32.ofInt a1)), (2, .int (Int32.ofInt a2)), (3, .int (Int32.ofInt a3)), (4, .int (Int32.ofInt a4))]) (st' := [.int (Int32.ofInt r26)]) rfl ?_
        exact lf_retI rfl rfl h
      · have h := h.2 c
        refine lf_seg 5 (pc' := 55) (lv' := [(5, .int (Int32.ofInt r26)), (0, .ref 0), (1, .int (Int32.ofInt a1)), (2, .int (Int32.ofInt a2)), (3, .int (Int32.ofInt a3)), (4, .int (Int32.ofInt a4))]) (st' := [.int (Int32.ofInt a4), .int (Int32.ofInt r26), .ref 19]) rfl ?_
        obtain ⟨o28, h⟩ := h
        refine lf_iast 56 6 rfl rfl rfl rfl rfl rfl o28 ?_
        refine lf_as (lf_up s25.1 19 r26 a4, s25.2.1, s25.2.2) rfl ?_
        refine lf_seg 5 (pc' := 66) (lv' := [(5, .int (Int32.ofInt r26)), (0, .ref 0), (1, .int (Int32.ofInt a1)), (2, .int (Int32.ofInt a2)), (3, .int (Int32.ofInt a3)), (4, .int (Int32.ofInt a4))]) (st' := [.int (Int32.ofInt (-1)), .int (Int32.ofInt r26), .ref 20]) rfl ?_
        refine lf_iast 67 6 rfl rfl rfl rfl rfl rfl o28 ?_
        refine lf_as (lf_up (lf_up s25.1 19 r26 a4) 20 r26 (-1), s25.2.1, s25.2.2) rfl ?_
        refine lf_seg 1 (pc' := 69) (lv' := [(5, .int (Int32.ofInt r26)), (0, .ref 0), (1, .int (Int32.ofInt a1)), (2, .int (Int32.ofInt a2)), (3, .int (Int32.ofInt a3)), (4, .int (Int32.ofInt a4))]) (st' := [.int (Int32.ofInt r26)]) rfl ?_
        exact lf_retI rfl rfl h
    · have h := h.2 c
      refine lf_seg 1 (pc' := 23) (lv' := [(0, .ref 0), (1, .int (Int32.ofInt a1)), (2, .int (Int32.ofInt a2)), (3, .int (Int32.ofInt a3)), (4, .int (Int32.ofInt a4))]) (st' := [.int (Int32.ofInt (-1))]) rfl ?_
      exact lf_retI rfl rfl h
-- fm_191 Model.set 95 i 0 i
def fm_191 (a1 : Int) (a3 : Int) (Q : lf_Z → Prop) (s : lf_Z) : Prop := (0 ≤ (126 + (6 * a1)) + 0 ∧ (126 + (6 * a1)) + 0 < 1538) ∧ (Q (lf_up s.1 96 ((126 + (6 * a1)) + 0) a3, s.2.1, s.2.2))
set_option maxRecDepth 100000 in
theorem gm_191 {L : Nat} {xs : Nat → Int32} {d : Nat} {a1 : Int} {a3 : Int} {Q : lf_Z → Prop} {s : lf_Z} (h : fm_191 a1 a3 Q s) : lf_M (px_ro L xs) (d + 1) 191 [.ref 95, .int (Int32.ofInt a1), .int (Int32.ofInt 0), .int (Int32.ofInt a3)] s (lf_qv Q) := by
  unfold fm_191 at h
  show lf_E (px_ro L xs) (d + 1) 191 0 [(0, .ref 95), (1, .int (Int32.ofInt a1)), (2, .int (Int32.ofInt 0)), (3, .int (Int32.ofInt a3))] [] s _
  refine lf_seg 2 (pc' := 4) (lv' := [(0, .ref 95), (1, .int (Int32.ofInt a1)), (2, .int (Int32.ofInt 0)), (3, .int (Int32.ofInt a3))]) (st' := [.ref 96]) rfl ?_
  refine lf_bipush 6 126 rfl rfl (by decide) (by decide) ?_
  refine lf_bipush 8 6 rfl rfl (by decide) (by decide) ?_
  refine lf_seg 1 (pc' := 9) (lv' := [(0, .ref 95), (1, .int (Int32.ofInt a1)), (2, .int (Int32.ofInt 0)), (3, .int (Int32.ofInt a3))]) (st' := [.int (Int32.ofInt a1), .int (Int32.ofInt 6), .int (Int32.ofInt 126), .ref 96]) rfl ?_
  refine lf_imul 10 rfl rfl ?_
  refine lf_iadd 11 rfl rfl ?_
  refine lf_seg 1 (pc' := 12) (lv' := [(0, .ref 95), (1, .int (Int32.ofInt a1)), (2, .int (Int32.ofInt 0)), (3, .int (Int32.ofInt a3))]) (st' := [.int (Int32.ofInt 0), .int (Int32.ofInt (126 + (6 * a1))), .ref 96]) rfl ?_
  refine lf_iadd 13 rfl rfl ?_
  refine lf_seg 1 (pc' := 14) (lv' := [(0, .ref 95), (1, .int (Int32.ofInt a1)), (2, .int (Int32.ofInt 0)), (3, .int (Int32.ofInt a3))]) (st' := [.int (Int32.ofInt a3), .int (Int32.ofInt ((126 + (6 * a1)) + 0)), .ref 96]) rfl ?_
  obtain ⟨o21, h⟩ := h
  refine lf_iast 15 1538 rfl rfl rfl rfl rfl rfl o21 ?_
  refine lf_as (lf_up s.1 96 ((126 + (6 * a1)) + 0) a3, s.2.1, s.2.2) rfl ?_
  exact lf_retV rfl rfl h
-- fm_191b Model.set 95 i 1 i
def fm_191b (a1 : Int) (a3 : Int) (Q : lf_Z → Prop) (s : lf_Z) : Prop := (0 ≤ (126 + (6 * a1)) + 1 ∧ (126 + (6 * a1)) + 1 < 1538) ∧ (Q (lf_up s.1 96 ((126 + (6 * a1)) + 1) a3, s.2.1, s.2.2))
set_option maxRecDepth 100000 in
theorem gm_191b {L : Nat} {xs : Nat → Int32} {d : Nat} {a1 : Int} {a3 : Int} {Q : lf_Z → Prop} {s : lf_Z} (h : fm_191b a1 a3 Q s) : lf_M (px_ro L xs) (d + 1) 191 [.ref 95, .int (Int32.ofInt a1), .int (Int32.ofInt 1), .int (Int32.ofInt a3)] s (lf_qv Q) := by
  unfold fm_191b at h
  show lf_E (px_ro L xs) (d + 1) 191 0 [(0, .ref 95), (1, .int (Int32.ofInt a1)), (2, .int (Int32.ofInt 1)), (3, .int (Int32.ofInt a3))] [] s _
  refine lf_seg 2 (pc' := 4) (lv' := [(0, .ref 95), (1, .int (Int32.ofInt a1)), (2, .int (Int32.ofInt 1)), (3, .int (Int32.ofInt a3))]) (st' := [.ref 96]) rfl ?_
  refine lf_bipush 6 126 rfl rfl (by decide) (by decide) ?_
  refine lf_bipush 8 6 rfl rfl (by decide) (by decide) ?_
  refine lf_seg 1 (pc' := 9) (lv' := [(0, .ref 95), (1, .int (Int32.ofInt a1)), (2, .int (Int32.ofInt 1)), (3, .int (Int32.ofInt a3))]) (st' := [.int (Int32.ofInt a1), .int (Int32.ofInt 6), .int (Int32.ofInt 126), .ref 96]) rfl ?_
  refine lf_imul 10 rfl rfl ?_
  refine lf_iadd 11 rfl rfl ?_
  refine lf_seg 1 (pc' := 12) (lv' := [(0, .ref 95), (1, .int (Int32.ofInt a1)), (2, .int (Int32.ofInt 1)), (3, .int (Int32.ofInt a3))]) (st' := [.int (Int32.ofInt 1), .int (Int32.ofInt (126 + (6 * a1))), .ref 96]) rfl ?_
  refine lf_iadd 13 rfl rfl ?_
  refine lf_seg 1 (pc' := 14) (lv' := [(0, .ref 95), (1, .int (Int32.ofInt a1)), (2, .int (Int32.ofInt 1)), (3, .int (Int32.ofInt a3))]) (st' := [.int (Int32.ofInt a3), .int (Int32.ofInt ((126 + (6 * a1)) + 1)), .ref 96]) rfl ?_
  obtain ⟨o21, h⟩ := h
  refine lf_iast 15 1538 rfl rfl rfl rfl rfl rfl o21 ?_
  refine lf_as (lf_up s.1 96 ((126 + (6 * a1)) + 1) a3, s.2.1, s.2.2) rfl ?_
  exact lf_retV rfl rfl h
-- fm_191c Model.set 95 i 2 i
def fm_191c (a1 : Int) (a3 : Int) (Q : lf_Z → Prop) (s : lf_Z) : Prop := (0 ≤ (126 + (6 * a1)) + 2 ∧ (126 + (6 * a1)) + 2 < 1538) ∧ (Q (lf_up s.1 96 ((126 + (6 * a1)) + 2) a3, s.2.1, s.2.2))
set_option maxRecDepth 100000 in
theorem gm_191c {L : Nat} {xs : Nat → Int32} {d : Nat} {a1 : Int} {a3 : Int} {Q : lf_Z → Prop} {s : lf_Z} (h : fm_191c a1 a3 Q s) : lf_M (px_ro L xs) (d + 1) 191 [.ref 95, .int (Int32.ofInt a1), .int (Int32.ofInt 2), .int (Int32.ofInt a3)] s (lf_qv Q) := by
  unfold fm_191c at h
  show lf_E (px_ro L xs) (d + 1) 191 0 [(0, .ref 95), (1, .int (Int32.ofInt a1)), (2, .int (Int32.ofInt 2)), (3, .int (Int32.ofInt a3))] [] s _
  refine lf_seg 2 (pc' := 4) (lv' := [(0, .ref 95), (1, .int (Int32.ofInt a1)), (2, .int (Int32.ofInt 2)), (3, .int (Int32.ofInt a3))]) (st' := [.ref 96]) rfl ?_
  refine lf_bipush 6 126 rfl rfl (by decide) (by decide) ?_
  refine lf_bipush 8 6 rfl rfl (by decide) (by decide) ?_
  refine lf_seg 1 (pc' := 9) (lv' := [(0, .ref 95), (1, .int (Int32.ofInt a1)), (2, .int (Int32.ofInt 2)), (3, .int (Int32.ofInt a3))]) (st' := [.int (Int32.ofInt a1), .int (Int32.ofInt 6), .int (Int32.ofInt 126), .ref 96]) rfl ?_
  refine lf_imul 10 rfl rfl ?_
  refine lf_iadd 11 rfl rfl ?_
  refine lf_seg 1 (pc' := 12) (lv' := [(0, .ref 95), (1, .int (Int32.ofInt a1)), (2, .int (Int32.ofInt 2)), (3, .int (Int32.ofInt a3))]) (st' := [.int (Int32.ofInt 2), .int (Int32.ofInt (126 + (6 * a1))), .ref 96]) rfl ?_
  refine lf_iadd 13 rfl rfl ?_
  refine lf_seg 1 (pc' := 14) (lv' := [(0, .ref 95), (1, .int (Int32.ofInt a1)), (2, .int (Int32.ofInt 2)), (3, .int (Int32.ofInt a3))]) (st' := [.int (Int32.ofInt a3), .int (Int32.ofInt ((126 + (6 * a1)) + 2)), .ref 96]) rfl ?_
  obtain ⟨o21, h⟩ := h
  refine lf_iast 15 1538 rfl rfl rfl rfl rfl rfl o21 ?_
  refine lf_as (lf_up s.1 96 ((126 + (6 * a1)) + 2) a3, s.2.1, s.2.2) rfl ?_
  exact lf_retV rfl rfl h
-- fm_191d Model.set 95 i 3 i
def fm_191d (a1 : Int) (a3 : Int) (Q : lf_Z → Prop) (s : lf_Z) : Prop := (0 ≤ (126 + (6 * a1)) + 3 ∧ (126 + (6 * a1)) + 3 < 1538) ∧ (Q (lf_up s.1 96 ((126 + (6 * a1)) + 3) a3, s.2.1, s.2.2))
set_option maxRecDepth 100000 in
theorem gm_191d {L : Nat} {xs : Nat → Int32} {d : Nat} {a1 : Int} {a3 : Int} {Q : lf_Z → Prop} {s : lf_Z} (h : fm_191d a1 a3 Q s) : lf_M (px_ro L xs) (d + 1) 191 [.ref 95, .int (Int32.ofInt a1), .int (Int32.ofInt 3), .int (Int32.ofInt a3)] s (lf_qv Q) := by
  unfold fm_191d at h
  show lf_E (px_ro L xs) (d + 1) 191 0 [(0, .ref 95), (1, .int (Int32.ofInt a1)), (2, .int (Int32.ofInt 3)), (3, .int (Int32.ofInt a3))] [] s _
  refine lf_seg 2 (pc' := 4) (lv' := [(0, .ref 95), (1, .int (Int32.ofInt a1)), (2, .int (Int32.ofInt 3)), (3, .int (Int32.ofInt a3))]) (st' := [.ref 96]) rfl ?_
  refine lf_bipush 6 126 rfl rfl (by decide) (by decide) ?_
  refine lf_bipush 8 6 rfl rfl (by decide) (by decide) ?_
  refine lf_seg 1 (pc' := 9) (lv' := [(0, .ref 95), (1, .int (Int32.ofInt a1)), (2, .int (Int32.ofInt 3)), (3, .int (Int32.ofInt a3))]) (st' := [.int (Int32.ofInt a1), .int (Int32.ofInt 6), .int (Int32.ofInt 126), .ref 96]) rfl ?_
  refine lf_imul 10 rfl rfl ?_
  refine lf_iadd 11 rfl rfl ?_
  refine lf_seg 1 (pc' := 12) (lv' := [(0, .ref 95), (1, .int (Int32.ofInt a1)), (2, .int (Int32.ofInt 3)), (3, .int (Int32.ofInt a3))]) (st' := [.int (Int32.ofInt 3), .int (Int32.ofInt (126 + (6 * a1))), .ref 96]) rfl ?_
  refine lf_iadd 13 rfl rfl ?_
  refine lf_seg 1 (pc' := 14) (lv' := [(0, .ref 95), (1, .int (Int32.ofInt a1)), (2, .int (Int32.ofInt 3)), (3, .int (Int32.ofInt a3))]) (st' := [.int (Int32.ofInt a3), .int (Int32.ofInt ((126 + (6 * a1)) + 3)), .ref 96]) rfl ?_
  obtain ⟨o21, h⟩ := h
  refine lf_iast 15 1538 rfl rfl rfl rfl rfl rfl o21 ?_
  refine lf_as (lf_up s.1 96 ((126 + (6 * a1)) + 3) a3, s.2.1, s.2.2) rfl ?_
  exact lf_retV rfl rfl h
-- fm_191e Model.set 95 i 4 i
def fm_191e (a1 : Int) (a3 : Int) (Q : lf_Z → Prop) (s : lf_Z) : Prop := (0 ≤ (126 + (6 * a1)) + 4 ∧ (126 + (6 * a1)) + 4 < 1538) ∧ (Q (lf_up s.1 96 ((126 + (6 * a1)) + 4) a3, s.2.1, s.2.2))
set_option maxRecDepth 100000 in
theorem gm_191e {L : Nat} {xs : Nat → Int32} {d : Nat} {a1 : Int} {a3 : Int} {Q : lf_Z → Prop} {s : lf_Z} (h : fm_191e a1 a3 Q s) : lf_M (px_ro L xs) (d + 1) 191 [.ref 95, .int (Int32.ofInt a1), .int (Int32.ofInt 4), .int (Int32.ofInt a3)] s (lf_qv Q) := by
  unfold fm_191e at h
  show lf_E (px_ro L xs) (d + 1) 191 0 [(0, .ref 95), (1, .int (Int32.ofInt a1)), (2, .int (Int32.ofInt 4)), (3, .int (Int32.ofInt a3))] [] s _
  refine lf_seg 2 (pc' := 4) (lv' := [(0, .ref 95), (1, .int (Int32.ofInt a1)), (2, .int (Int32.ofInt 4)), (3, .int (Int32.ofInt a3))]) (st' := [.ref 96]) rfl ?_
  refine lf_bipush 6 126 rfl rfl (by decide) (by decide) ?_
  refine lf_bipush 8 6 rfl rfl (by decide) (by decide) ?_
  refine lf_seg 1 (pc' := 9) (lv' := [(0, .ref 95), (1, .int (Int32.ofInt a1)), (2, .int (Int32.ofInt 4)), (3, .int (Int32.ofInt a3))]) (st' := [.int (Int32.ofInt a1), .int (Int32.ofInt 6), .int (Int32.ofInt 126), .ref 96]) rfl ?_
  refine lf_imul 10 rfl rfl ?_
  refine lf_iadd 11 rfl rfl ?_
  refine lf_seg 1 (pc' := 12) (lv' := [(0, .ref 95), (1, .int (Int32.ofInt a1)), (2, .int (Int32.ofInt 4)), (3, .int (Int32.ofInt a3))]) (st' := [.int (Int32.ofInt 4), .int (Int32.ofInt (126 + (6 * a1))), .ref 96]) rfl ?_
  refine lf_iadd 13 rfl rfl ?_
  refine lf_seg 1 (pc' := 14) (lv' := [(0, .ref 95), (1, .int (Int32.ofInt a1)), (2, .int (Int32.ofInt 4)), (3, .int (Int32.ofInt a3))]) (st' := [.int (Int32.ofInt a3), .int (Int32.ofInt ((126 + (6 * a1)) + 4)), .ref 96]) rfl ?_
  obtain ⟨o21, h⟩ := h
  refine lf_iast 15 1538 rfl rfl rfl rfl rfl rfl o21 ?_
  refine lf_as (lf_up s.1 96 ((126 + (6 * a1)) + 4) a3, s.2.1, s.2.2) rfl ?_
  exact lf_retV rfl rfl h
-- fm_191f Model.set 95 i 5 i
def fm_191f (a1 : Int) (a3 : Int) (Q : lf_Z → Prop) (s : lf_Z) : Prop := (0 ≤ (126 + (6 * a1)) + 5 ∧ (126 + (6 * a1)) + 5 < 1538) ∧ (Q (lf_up s.1 96 ((126 + (6 * a1)) + 5) a3, s.2.1, s.2.2))
set_option maxRecDepth 100000 in
theorem gm_191f {L : Nat} {xs : Nat → Int32} {d : Nat} {a1 : Int} {a3 : Int} {Q : lf_Z → Prop} {s : lf_Z} (h : fm_191f a1 a3 Q s) : lf_M (px_ro L xs) (d + 1) 191 [.ref 95, .int (Int32.ofInt a1), .int (Int32.ofInt 5), .int (Int32.ofInt a3)] s (lf_qv Q) := by
  unfold fm_191f at h
  show lf_E (px_ro L xs) (d + 1) 191 0 [(0, .ref 95), (1, .int (Int32.ofInt a1)), (2, .int (Int32.ofInt 5)), (3, .int (Int32.ofInt a3))] [] s _
  refine lf_seg 2 (pc' := 4) (lv' := [(0, .ref 95), (1, .int (Int32.ofInt a1)), (2, .int (Int32.ofInt 5)), (3, .int (Int32.ofInt a3))]) (st' := [.ref 96]) rfl ?_
  refine lf_bipush 6 126 rfl rfl (by decide) (by decide) ?_
  refine lf_bipush 8 6 rfl rfl (by decide) (by decide) ?_
  refine lf_seg 1 (pc' := 9) (lv' := [(0, .ref 95), (1, .int (Int32.ofInt a1)), (2, .int (Int32.ofInt 5)), (3, .int (Int32.ofInt a3))]) (st' := [.int (Int32.ofInt a1), .int (Int32.ofInt 6), .int (Int32.ofInt 126), .ref 96]) rfl ?_
  refine lf_imul 10 rfl rfl ?_
  refine lf_iadd 11 rfl rfl ?_
  refine lf_seg 1 (pc' := 12) (lv' := [(0, .ref 95), (1, .int (Int32.ofInt a1)), (2, .int (Int32.ofInt 5)), (3, .int (Int32.ofInt a3))]) (st' := [.int (Int32.ofInt 5), .int (Int32.ofInt (126 + (6 * a1))), .ref 96]) rfl ?_
  refine lf_iadd 13 rfl rfl ?_
  refine lf_seg 1 (pc' := 14) (lv' := [(0, .ref 95), (1, .int (Int32.ofInt a1)), (2, .int (Int32.ofInt 5)), (3, .int (Int32.ofInt a3))]) (st' := [.int (Int32.ofInt a3), .int (Int32.ofInt ((126 + (6 * a1)) + 5)), .ref 96]) rfl ?_
  obtain ⟨o21, h⟩ := h
  refine lf_iast 15 1538 rfl rfl rfl rfl rfl rfl o21 ?_
  refine lf_as (lf_up s.1 96 ((126 + (6 * a1)) + 5) a3, s.2.1, s.2.2) rfl ?_
  exact lf_retV rfl rfl h
-- fm_190 Model.personNow 95 i i i i
def fm_190 (a1 : Int) (a2 : Int) (a3 : Int) (a4 : Int) (Q : Int → lf_Z → Prop) (s : lf_Z) : Prop := fm_185 a4 (fun z22 s21 => ((z22 = false → (Q (-1) s21)) ∧ (z22 = true → (lf_R (s21.1 96 2) ∧ ((s21.1 96 2 ≠ 6 → (fm_191 (s21.1 96 2) a1 (fun s24 => (fm_191b (s21.1 96 2) a2 (fun s25 => (fm_191c (s21.1 96 2) a3 (fun s26 => (fm_191d (s21.1 96 2) a4 (fun s27 => (fm_191e (s21.1 96 2) (-1) (fun s28 => (fm_191f (s21.1 96 2) a4 (fun s29 => (Q (s21.1 96 2) (lf_up s29.1 96 2 ((s29.1 96 2) + 1), s29.2.1, s29.2.2))) s28)) s27)) s26)) s25)) s24)) s21)) ∧ (¬ (s21.1 96 2 ≠ 6) → (Q (-1) s21))))))) s
set_option maxRecDepth 100000 in
theorem gm_190 {L : Nat} {xs : Nat → Int32} {d : Nat} {a1 : Int} {a2 : Int} {a3 : Int} {a4 : Int} {Q : Int → lf_Z → Prop} {s : lf_Z} (h : fm_190 a1 a2 a3 a4 Q s) : lf_M (px_ro L xs) (d + 3) 190 [.ref 95, .int (Int32.ofInt a1), .int (Int32.ofInt a2), .int (Int32.ofInt a3), .int (Int32.ofInt a4)] s (lf_qi Q) := by
  unfold fm_190 at h
  show lf_E (px_ro L xs) (d + 3) 190 0 [(0, .ref 95), (1, .int (Int32.ofInt a1)), (2, .int (Int32.ofInt a2)), (3, .int (Int32.ofInt a3)), (4, .int (Int32.ofInt a4))] [] s _
  refine lf_seg 2 (pc' := 3) (lv' := [(0, .ref 95), (1, .int (Int32.ofInt a1)), (2, .int (Int32.ofInt a2)), (3, .int (Int32.ofInt a3)), (4, .int (Int32.ofInt a4))]) (st' := [.int (Int32.ofInt a4), .ref 95]) rfl ?_
  refine lf_callZ 6 rfl rfl rfl rfl (gm_185 h) (fun z22 s21 h => ?_)
  refine lf_ifz_eq 20 9 rfl rfl rfl (fun c => ?_) (fun c => ?_)
  · have h := h.1 c
    refine lf_seg 1 (pc' := 21) (lv' := [(0, .ref 95), (1, .int (Int32.ofInt a1)), (2, .int (Int32.ofInt a2)), (3, .int (Int32.ofInt a3)), (4, .int (Int32.ofInt a4))]) (st' := [.int (Int32.ofInt (-1))]) rfl ?_
    exact lf_retI rfl rfl h
  · have h := h.2 c
    refine lf_seg 3 (pc' := 14) (lv' := [(0, .ref 95), (1, .int (Int32.ofInt a1)), (2, .int (Int32.ofInt a2)), (3, .int (Int32.ofInt a3)), (4, .int (Int32.ofInt a4))]) (st' := [.int (Int32.ofInt 2), .ref 96]) rfl ?_
    refine lf_iald 15 1538 rfl rfl rfl rfl rfl rfl ⟨by decide, by decide⟩ ?_
    refine lf_bipush 17 6 rfl rfl (by decide) (by decide) ?_
    obtain ⟨o23, h⟩ := h
    refine lf_icmp_ne 22 20 rfl rfl rfl o23 ⟨by decide, by decide⟩ (fun c => ?_) (fun c => ?_)
    · have h := h.1 c
      refine lf_seg 3 (pc' := 27) (lv' := [(0, .ref 95), (1, .int (Int32.ofInt a1)), (2, .int (Int32.ofInt a2)), (3, .int (Int32.ofInt a3)), (4, .int (Int32.ofInt a4))]) (st' := [.int (Int32.ofInt 2), .ref 96]) rfl ?_
      refine lf_iald 28 1538 rfl rfl rfl rfl rfl rfl ⟨by decide, by decide⟩ ?_
      refine lf_seg 5 (pc' := 35) (lv' := [(5, .int (Int32.ofInt (s21.1 96 2))), (0, .ref 95), (1, .int (Int32.ofInt a1)), (2, .int (Int32.ofInt a2)), (3, .int (Int32.ofInt a3)), (4, .int (Int32.ofInt a4))]) (st' := [.int (Int32.ofInt a1), .int (Int32.ofInt 0), .int (Int32.ofInt (s21.1 96 2)), .ref 95]) rfl ?_
      refine lf_callV 38 rfl rfl rfl rfl (gm_191 h) (fun s24 h => ?_)
      refine lf_seg 4 (pc' := 43) (lv' := [(5, .int (Int32.ofInt (s21.1 96 2))), (0, .ref 95), (1, .int (Int32.ofInt a1)), (2, .int (Int32.ofInt a2)), (3, .int (Int32.ofInt a3)), (4, .int (Int32.ofInt a4))]) (st' := [.int (Int32.ofInt a2), .int (Int32.ofInt 1), .int (Int32.ofInt (s21.1 96 2)), .ref 95]) rfl ?_
      refine lf_callV 46 rfl rfl rfl rfl (gm_191b h) (fun s25 h => ?_)
      refine lf_seg 4 (pc' := 51) (lv' := [(5, .int (Int32.ofInt (s21.1 96 2))), (0, .ref 95), (1, .int (Int32.ofInt a1)), (2, .int (Int32.ofInt a2)), (3, .int (Int32.ofInt a3)), (4, .int (Int32.ofInt a4))]) (st' := [.int (Int32.ofInt a3), .int (Int32.ofInt 2), .int (Int32.ofInt (s21.1 96 2)), .ref 95]) rfl ?_
      refine lf_callV 54 rfl rfl rfl rfl (gm_191c h) (fun s26 h => ?_)
      refine lf_seg 4 (pc' := 60) (lv' := [(5, .int (Int32.ofInt (s21.1 96 2))), (0, .ref 95), (1, .int (Int32.ofInt a1)), (2, .int (Int32.ofInt a2)), (3, .int (Int32.ofInt a3)), (4, .int (Int32.ofInt a4))]) (st' := [.int (Int32.ofInt a4), .int (Int32.ofInt 3), .int (Int32.ofInt (s21.1 96 2)), .ref 95]) rfl ?_
      refine lf_callV 63 rfl rfl rfl rfl (gm_191d h) (fun s27 h => ?_)
      refine lf_seg 4 (pc' := 68) (lv' := [(5, .int (Int32.ofInt (s21.1 96 2))), (0, .ref 95), (1, .int (Int32.ofInt a1)), (2, .int (Int32.ofInt a2)), (3, .int (Int32.ofInt a3)), (4, .int (Int32.ofInt a4))]) (st' := [.int (Int32.ofInt (-1)), .int (Int32.ofInt 4), .int (Int32.ofInt (s21.1 96 2)), .ref 95]) rfl ?_
      refine lf_callV 71 rfl rfl rfl rfl (gm_191e h) (fun s28 h => ?_)
      refine lf_seg 4 (pc' := 77) (lv' := [(5, .int (Int32.ofInt (s21.1 96 2))), (0, .ref 95), (1, .int (Int32.ofInt a1)), (2, .int (Int32.ofInt a2)), (3, .int (Int32.ofInt a3)), (4, .int (Int32.ofInt a4))]) (st' := [.int (Int32.ofInt a4), .int (Int32.ofInt 5), .int (Int32.ofInt (s21.1 96 2)), .ref 95]) rfl ?_
      refine lf_callV 80 rfl rfl rfl rfl (gm_191f h) (fun s29 h => ?_)
      refine lf_seg 4 (pc' := 86) (lv' := [(5, .int (Int32.ofInt (s21.1 96 2))), (0, .ref 95), (1, .int (Int32.ofInt a1)), (2, .int (Int32.ofInt a2)), (3, .int (Int32.ofInt a3)), (4, .int (Int32.ofInt a4))]) (st' := [.int (Int32.ofInt 2), .ref 96, .int (Int32.ofInt 2), .ref 96]) rfl ?_
      refine lf_iald 87 1538 rfl rfl rfl rfl rfl rfl ⟨by decide, by decide⟩ ?_
      refine lf_seg 1 (pc' := 88) (lv' := [(5, .int (Int32.ofInt (s21.1 96 2))), (0, .ref 95), (1, .int (Int32.ofInt a1)), (2, .int (Int32.ofInt a2)), (3, .int (Int32.ofInt a3)), (4, .int (Int32.ofInt a4))]) (st' := [.int (Int32.ofInt 1), .int (Int32.ofInt (s29.1 96 2)), .int (Int32.ofInt 2), .ref 96]) rfl ?_
      refine lf_iadd 89 rfl rfl ?_
      refine lf_iast 90 1538 rfl rfl rfl rfl rfl rfl ⟨by decide, by decide⟩ ?_
      refine lf_as (lf_up s29.1 96 2 ((s29.1 96 2) + 1), s29.2.1, s29.2.2) rfl ?_
      refine lf_seg 1 (pc' := 92) (lv' := [(5, .int (Int32.ofInt (s21.1 96 2))), (0, .ref 95), (1, .int (Int32.ofInt a1)), (2, .int (Int32.ofInt a2)), (3, .int (Int32.ofInt a3)), (4, .int (Int32.ofInt a4))]) (st' := [.int (Int32.ofInt (s21.1 96 2))]) rfl ?_
      exact lf_retI rfl rfl h
    · have h := h.2 c
      refine lf_seg 1 (pc' := 21) (lv' := [(0, .ref 95), (1, .int (Int32.ofInt a1)), (2, .int (Int32.ofInt a2)), (3, .int (Int32.ofInt a3)), (4, .int (Int32.ofInt a4))]) (st' := [.int (Int32.ofInt (-1))]) rfl ?_
      exact lf_retI rfl rfl h
-- fm_189 Model.person 95 i i i i
def fm_189_p30 (Q : Int → lf_Z → Prop) (x4 : Int) (y1 : Int) (y2 : Int) (y3 : Int) (s : lf_Z) : Prop := fm_190 y1 y2 y3 x4 (fun r26 s25 => (Q r26 s25)) s
set_option maxRecDepth 100000 in
theorem gm_189_p30 {L : Nat} {xs : Nat → Int32} {d : Nat} {Q : Int → lf_Z → Prop} {x4 : Int} {y1 : Int} {y2 : Int} {y3 : Int} {s : lf_Z} (h : fm_189_p30 Q x4 y1 y2 y3 s) : lf_E (px_ro L xs) (d + 4) 189 30 [(4, .int (Int32.ofInt x4))] [.int (Int32.ofInt y3), .int (Int32.ofInt y2), .int (Int32.ofInt y1), .ref 95] s (lf_qi Q) := by
  unfold fm_189_p30 at h
  refine lf_seg 1 (pc' := 32) (lv' := [(4, .int (Int32.ofInt x4))]) (st' := [.int (Int32.ofInt x4), .int (Int32.ofInt y3), .int (Int32.ofInt y2), .int (Int32.ofInt y1), .ref 95]) rfl ?_
  refine lf_callI 35 rfl rfl rfl rfl (gm_190 h) (fun r26 s25 h => ?_)
  refine lf_seg 1 (pc' := 39) (lv' := [(4, .int (Int32.ofInt x4))]) (st' := [.int (Int32.ofInt r26)]) rfl ?_
  exact lf_retI rfl rfl h
def fm_189_p21 (Q : Int → lf_Z → Prop) (x3 : Int) (x4 : Int) (y1 : Int) (y2 : Int) (s : lf_Z) : Prop := lf_R x3 ∧ ((x3 = 0 → (fm_189_p30 Q x4 y1 y2 0 s)) ∧ (¬ (x3 = 0) → (fm_189_p30 Q x4 y1 y2 1 s)))
set_option maxRecDepth 100000 in
theorem gm_189_p21 {L : Nat} {xs : Nat → Int32} {d : Nat} {Q : Int → lf_Z → Prop} {x3 : Int} {x4 : Int} {y1 : Int} {y2 : Int} {s : lf_Z} (h : fm_189_p21 Q x3 x4 y1 y2 s) : lf_E (px_ro L xs) (d + 4) 189 21 [(3, .int (Int32.ofInt x3)), (4, .int (Int32.ofInt x4))] [.int (Int32.ofInt y2), .int (Int32.ofInt y1), .ref 95] s (lf_qi Q) := by
  unfold fm_189_p21 at h
  refine lf_seg 1 (pc' := 22) (lv' := [(3, .int (Int32.ofInt x3)), (4, .int (Int32.ofInt x4))]) (st' := [.int (Int32.ofInt x3), .int (Int32.ofInt y2), .int (Int32.ofInt y1), .ref 95]) rfl ?_
  obtain ⟨o24, h⟩ := h
  refine lf_if_eq 29 25 rfl rfl rfl o24 (fun c => ?_) (fun c => ?_)
  · have h := h.1 c
    refine lf_seg 1 (pc' := 30) (lv' := [(3, .int (Int32.ofInt x3)), (4, .int (Int32.ofInt x4))]) (st' := [.int (Int32.ofInt 0), .int (Int32.ofInt y2), .int (Int32.ofInt y1), .ref 95]) rfl ?_
    refine lf_sub (l := [(4, .int (Int32.ofInt x4))]) (lf_sb1 rfl lf_sb0) ?_
    exact gm_189_p30 h
  · have h := h.2 c
    refine lf_seg 2 (pc' := 30) (lv' := [(3, .int (Int32.ofInt x3)), (4, .int (Int32.ofInt x4))]) (st' := [.int (Int32.ofInt 1), .int (Int32.ofInt y2), .int (Int32.ofInt y1), .ref 95]) rfl ?_
    refine lf_sub (l := [(4, .int (Int32.ofInt x4))]) (lf_sb1 rfl lf_sb0) ?_
    exact gm_189_p30 h
def fm_189 (a1 : Int) (a2 : Int) (a3 : Int) (a4 : Int) (Q : Int → lf_Z → Prop) (s : lf_Z) : Prop := fm_183 a1 0 9 (fun z22 s21 => ((z22 = false → (Q (-1) s21)) ∧ (z22 = true → (lf_R a2 ∧ ((a2 = 0 → (fm_189_p21 Q a3 a4 a1 0 s21)) ∧ (¬ (a2 = 0) → (fm_189_p21 Q a3 a4 a1 1 s21))))))) s
set_option maxRecDepth 100000 in
theorem gm_189 {L : Nat} {xs : Nat → Int32} {d : Nat} {a1 : Int} {a2 : Int} {a3 : Int} {a4 : Int} {Q : Int → lf_Z → Prop} {s : lf_Z} (h : fm_189 a1 a2 a3 a4 Q s) : lf_M (px_ro L xs) (d + 4) 189 [.ref 95, .int (Int32.ofInt a1), .int (Int32.ofInt a2), .int (Int32.ofInt a3), .int (Int32.ofInt a4)] s (lf_qi Q) := by
  unfold fm_189 at h
  show lf_E (px_ro L xs) (d + 4) 189 0 [(0, .ref 95), (1, .int (Int32.ofInt a1)), (2, .int (Int32.ofInt a2)), (3, .int (Int32.ofInt a3)), (4, .int (Int32.ofInt a4))] [] s _
  refine lf_seg 2 (pc' := 2) (lv' := [(0, .ref 95), (1, .int (Int32.ofInt a1)), (2, .int (Int32.ofInt a2)), (3, .int (Int32.ofInt a3)), (4, .int (Int32.ofInt a4))]) (st' := [.int (Int32.ofInt 0), .int (Int32.ofInt a1)]) rfl ?_
  refine lf_bipush 4 9 rfl rfl (by decide) (by decide) ?_
  refine lf_callZ 7 rfl rfl rfl rfl (gm_183 h) (fun z22 s21 h => ?_)
  refine lf_ifz_eq 38 10 rfl rfl rfl (fun c => ?_) (fun c => ?_)
  · have h := h.1 c
    refine lf_seg 1 (pc' := 39) (lv' := [(0, .ref 95), (1, .int (Int32.ofInt a1)), (2, .int (Int32.ofInt a2)), (3, .int (Int32.ofInt a3)), (4, .int (Int32.ofInt a4))]) (st' := [.int (Int32.ofInt (-1))]) rfl ?_
    exact lf_retI rfl rfl h
  · have h := h.2 c
    refine lf_seg 3 (pc' := 13) (lv' := [(0, .ref 95), (1, .int (Int32.ofInt a1)), (2, .int (Int32.ofInt a2)), (3, .int (Int32.ofInt a3)), (4, .int (Int32.ofInt a4))]) (st' := [.int (Int32.ofInt a2), .int (Int32.ofInt a1), .ref 95]) rfl ?_
    obtain ⟨o23, h⟩ := h
    refine lf_if_eq 20 16 rfl rfl rfl o23 (fun c => ?_) (fun c => ?_)
    · have h := h.1 c
      refine lf_seg 1 (pc' := 21) (lv' := [(0, .ref 95), (1, .int (Int32.ofInt a1)), (2, .int (Int32.ofInt a2)), (3, .int (Int32.ofInt a3)), (4, .int (Int32.ofInt a4))]) (st' := [.int (Int32.ofInt 0), .int (Int32.ofInt a1), .ref 95]) rfl ?_
      refine lf_sub (l := [(3, .int (Int32.ofInt a3)), (4, .int (Int32.ofInt a4))]) (lf_sb1 rfl (lf_sb1 rfl lf_sb0)) ?_
      exact gm_189_p21 h
    · have h := h.2 c
      refine lf_seg 2 (pc' := 21) (lv' := [(0, .ref 95), (1, .int (Int32.ofInt a1)), (2, .int (Int32.ofInt a2)), (3, .int (Int32.ofInt a3)), (4, .int (Int32.ofInt a4))]) (st' := [.int (Int32.ofInt 1), .int (Int32.ofInt a1), .ref 95]) rfl ?_
      refine lf_sub (l := [(3, .int (Int32.ofInt a3)), (4, .int (Int32.ofInt a4))]) (lf_sb1 rfl (lf_sb1 rfl lf_sb0)) ?_
      exact gm_189_p21 h
-- fm_26 Reader.addBytes 31 i
def fm_26_p3 (Q : lf_Z → Prop) (x1 : Int) (X3 : Int → lf_Z → Prop) (x2 : Int) (s : lf_Z) : Prop := lf_R x2 ∧ ((x2 < 0 → (Q s)) ∧ (¬ (x2 < 0) → (lf_R (s.1 31 1) ∧ ((300 ≤ s.1 31 1 → (Q s)) ∧ (¬ (300 ≤ s.1 31 1) → ((0 ≤ s.1 31 1 ∧ s.1 31 1 < 300) ∧ (X3 (x2 + (-8)) (lf_up (lf_up s.1 32 (s.1 31 1) (lf_and (lf_ushr x1 x2) 255)) 31 1 ((s.1 31 1) + 1), s.2.1, s.2.2))))))))
def fm_26_p3L (Q : lf_Z → Prop) (x1 : Int) (x2 : Int) (s : lf_Z) : Prop := ∀ X3 : Int → lf_Z → Prop, (∀ (x2 : Int) (s : lf_Z), fm_26_p3 Q x1 X3 x2 s → X3 x2 s) → X3 x2 s
set_option maxRecDepth 100000 in
theorem gm_26_p3 {L : Nat} {xs : Nat → Int32} {d : Nat} {Q : lf_Z → Prop} {x1 : Int} {x2 : Int} {s : lf_Z} {X3 : Int → lf_Z → Prop} (hX3 : ∀ x2 s, X3 x2 s → lf_E (px_ro L xs) (d + 1) 26 3 [(0, .ref 31), (1, .int (Int32.ofInt x1)), (2, .int (Int32.ofInt x2))] [] s (lf_qv Q)) (h : fm_26_p3 Q x1 X3 x2 s) : lf_E (px_ro L xs) (d + 1) 26 3 [(0, .ref 31), (1, .int (Int32.ofInt x1)), (2, .int (Int32.ofInt x2))] [] s (lf_qv Q) := by
  unfold fm_26_p3 at h
  refine lf_seg 1 (pc' := 4) (lv' := [(0, .ref 31), (1, .int (Int32.ofInt x1)), (2, .int (Int32.ofInt x2))]) (st' := [.int (Int32.ofInt x2)]) rfl ?_
  obtain ⟨o21, h⟩ := h
  refine lf_if_lt 49 7 rfl rfl rfl o21 (fun c => ?_) (fun c => ?_)
  · have h := h.1 c
    exact lf_retV rfl rfl h
  · have h := h.2 c
    refine lf_seg 1 (pc' := 8) (lv' := [(0, .ref 31), (1, .int (Int32.ofInt x1)), (2, .int (Int32.ofInt x2))]) (st' := [.ref 31]) rfl ?_
    refine lf_getI 11 1 rfl rfl rfl rfl rfl rfl rfl ?_
    refine lf_sipush 14 300 rfl rfl (by decide) (by decide) ?_
    obtain ⟨o22, h⟩ := h
    refine lf_icmp_ge 49 17 rfl rfl rfl o22 ⟨by decide, by decide⟩ (fun c => ?_) (fun c => ?_)
    · have h := h.1 c
      exact lf_retV rfl rfl h
    · have h := h.2 c
      refine lf_seg 3 (pc' := 22) (lv' := [(0, .ref 31), (1, .int (Int32.ofInt x1)), (2, .int (Int32.ofInt x2))]) (st' := [.ref 31, .ref 32]) rfl ?_
      refine lf_getI 25 1 rfl rfl rfl rfl rfl rfl rfl ?_
      refine lf_seg 2 (pc' := 27) (lv' := [(0, .ref 31), (1, .int (Int32.ofInt x1)), (2, .int (Int32.ofInt x2))]) (st' := [.int (Int32.ofInt x2), .int (Int32.ofInt x1), .int (Int32.ofInt (s.1 31 1)), .ref 32]) rfl ?_
      refine lf_iushr 28 rfl rfl ?_
      refine lf_sipush 31 255 rfl rfl (by decide) (by decide) ?_
      refine lf_iand 32 rfl rfl ?_
      obtain ⟨o23, h⟩ := h
      refine lf_iast 33 300 rfl rfl rfl rfl rfl rfl o23 ?_
      refine lf_as (lf_up s.1 32 (s.1 31 1) (lf_and (lf_ushr x1 x2) 255), s.2.1, s.2.2) rfl ?_
      refine lf_seg 2 (pc' := 35) (lv' := [(0, .ref 31), (1, .int (Int32.ofInt x1)), (2, .int (Int32.ofInt x2))]) (st' := [.ref 31, .ref 31]) rfl ?_
      refine lf_getI 38 1 rfl rfl rfl rfl rfl rfl rfl ?_
      refine lf_seg 1 (pc' := 39) (lv' := [(0, .ref 31), (1, .int (Int32.ofInt x1)), (2, .int (Int32.ofInt x2))]) (st' := [.int (Int32.ofInt 1), .int (Int32.ofInt (s.1 31 1)), .ref 31]) rfl ?_
      refine lf_iadd 40 rfl rfl ?_
      refine lf_putI 43 1 rfl rfl rfl rfl rfl rfl rfl rfl ?_
      refine lf_as (lf_up (lf_up s.1 32 (s.1 31 1) (lf_and (lf_ushr x1 x2) 255)) 31 1 ((s.1 31 1) + 1), s.2.1, s.2.2) rfl ?_
      refine lf_iinc 46 rfl rfl rfl rfl ?_
      refine lf_seg 1 (pc' := 3) (lv' := [(2, .int (Int32.ofInt (x2 + (-8)))), (0, .ref 31), (1, .int (Int32.ofInt x1))]) (st' := []) rfl ?_
      refine lf_sub (l := [(0, .ref 31), (1, .int (Int32.ofInt x1)), (2, .int (Int32.ofInt (x2 + (-8))))]) (lf_sb1 rfl (lf_sb1 rfl (lf_sb1 rfl lf_sb0))) ?_
      exact hX3 _ _ h
theorem gm_26_p3L {L : Nat} {xs : Nat → Int32} {d : Nat} {Q : lf_Z → Prop} {x1 : Int} {x2 : Int} {s : lf_Z} (h : fm_26_p3L Q x1 x2 s) : lf_E (px_ro L xs) (d + 1) 26 3 [(0, .ref 31), (1, .int (Int32.ofInt x1)), (2, .int (Int32.ofInt x2))] [] s (lf_qv Q) :=
  h (fun x2 s => lf_E (px_ro L xs) (d + 1) 26 3 [(0, .ref 31), (1, .int (Int32.ofInt x1)), (2, .int (Int32.ofInt x2))] [] s (lf_qv Q)) (fun x2 s hb => gm_26_p3 (fun _ _ h => h) hb)
def fm_26 (a1 : Int) (Q : lf_Z → Prop) (s : lf_Z) : Prop := fm_26_p3L Q a1 24 s
set_option maxRecDepth 100000 in
theorem gm_26 {L : Nat} {xs : Nat → Int32} {d : Nat} {a1 : Int} {Q : lf_Z → Prop} {s : lf_Z} (h : fm_26 a1 Q s) : lf_M (px_ro L xs) (d + 1) 26 [.ref 31, .int (Int32.ofInt a1)] s (lf_qv Q) := by
  unfold fm_26 at h
  show lf_E (px_ro L xs) (d + 1) 26 0 [(0, .ref 31), (1, .int (Int32.ofInt a1))] [] s _
  refine lf_bipush 2 24 rfl rfl (by decide) (by decide) ?_
  refine lf_seg 1 (pc' := 3) (lv' := [(2, .int (Int32.ofInt 24)), (0, .ref 31), (1, .int (Int32.ofInt a1))]) (st' := []) rfl ?_
  refine lf_sub (l := [(0, .ref 31), (1, .int (Int32.ofInt a1)), (2, .int (Int32.ofInt 24))]) (lf_sb1 rfl (lf_sb1 rfl (lf_sb1 rfl lf_sb0))) ?_
  exact gm_26_p3L h
-- fm_25 ElevenBullocks.feed 0 i i i i i
def fm_25 (a1 : Int) (a2 : Int) (a3 : Int) (a4 : Int) (a5 : Int) (Q : Int → lf_Z → Prop) (s : lf_Z) : Prop := lf_R ((s.1 31 1) + 20) ∧ (((s.1 31 1) + 20 ≤ 300 → (fm_26 a1 (fun s22 => (fm_26 a2 (fun s23 => (fm_26 a3 (fun s24 => (fm_26 a4 (fun s25 => (fm_26 a5 (fun s26 => (Q (s26.1 31 1) s26)) s25)) s24)) s23)) s22)) s)) ∧ (¬ ((s.1 31 1) + 20 ≤ 300) → (Q (-1) s)))
set_option maxRecDepth 100000 in
theorem gm_25 {L : Nat} {xs : Nat → Int32} {d : Nat} {a1 : Int} {a2 : Int} {a3 : Int} {a4 : Int} {a5 : Int} {Q : Int → lf_Z → Prop} {s : lf_Z} (h : fm_25 a1 a2 a3 a4 a5 Q s) : lf_M (px_ro L xs) (d + 2) 25 [.ref 0, .int (Int32.ofInt a1), .int (Int32.ofInt a2), .int (Int32.ofInt a3), .int (Int32.ofInt a4), .int (Int32.ofInt a5)] s (lf_qi Q) := by
  unfold fm_25 at h
  show lf_E (px_ro L xs) (d + 2) 25 0 [(0, .ref 0), (1, .int (Int32.ofInt a1)), (2, .int (Int32.ofInt a2)), (3, .int (Int32.ofInt a3)), (4, .int (Int32.ofInt a4)), (5, .int (Int32.ofInt a5))] [] s _
  refine lf_seg 2 (pc' := 4) (lv' := [(0, .ref 0), (1, .int (Int32.ofInt a1)), (2, .int (Int32.ofInt a2)), (3, .int (Int32.ofInt a3)), (4, .int (Int32.ofInt a4)), (5, .int (Int32.ofInt a5))]) (st' := [.ref 31]) rfl ?_
  refine lf_getI 7 1 rfl rfl rfl rfl rfl rfl rfl ?_
  refine lf_bipush 9 20 rfl rfl (by decide) (by decide) ?_
  refine lf_iadd 10 rfl rfl ?_
  refine lf_sipush 13 300 rfl rfl (by decide) (by decide) ?_
  obtain ⟨o21, h⟩ := h
  refine lf_icmp_le 18 16 rfl rfl rfl o21 ⟨by decide, by decide⟩ (fun c => ?_) (fun c => ?_)
  · have h := h.1 c
    refine lf_seg 3 (pc' := 23) (lv' := [(0, .ref 0), (1, .int (Int32.ofInt a1)), (2, .int (Int32.ofInt a2)), (3, .int (Int32.ofInt a3)), (4, .int (Int32.ofInt a4)), (5, .int (Int32.ofInt a5))]) (st' := [.int (Int32.ofInt a1), .ref 31]) rfl ?_
    refine lf_callV 26 rfl rfl rfl rfl (gm_26 h) (fun s22 h => ?_)
    refine lf_seg 3 (pc' := 31) (lv' := [(0, .ref 0), (1, .int (Int32.ofInt a1)), (2, .int (Int32.ofInt a2)), (3, .int (Int32.ofInt a3)), (4, .int (Int32.ofInt a4)), (5, .int (Int32.ofInt a5))]) (st' := [.int (Int32.ofInt a2), .ref 31]) rfl ?_
    refine lf_callV 34 rfl rfl rfl rfl (gm_26 h) (fun s23 h => ?_)
    refine lf_seg 3 (pc' := 39) (lv' := [(0, .ref 0), (1, .int (Int32.ofInt a1)), (2, .int (Int32.ofInt a2)), (3, .int (Int32.ofInt a3)), (4, .int (Int32.ofInt a4)), (5, .int (Int32.ofInt a5))]) (st' := [.int (Int32.ofInt a3), .ref 31]) rfl ?_
    refine lf_callV 42 rfl rfl rfl rfl (gm_26 h) (fun s24 h => ?_)
    refine lf_seg 3 (pc' := 48) (lv' := [(0, .ref 0), (1, .int (Int32.ofInt a1)), (2, .int (Int32.ofInt a2)), (3, .int (Int32.ofInt a3)), (4, .int (Int32.ofInt a4)), (5, .int (Int32.ofInt a5))]) (st' := [.int (Int32.ofInt a4), .ref 31]) rfl ?_
    refine lf_callV 51 rfl rfl rfl rfl (gm_26 h) (fun s25 h => ?_)
    refine lf_seg 3 (pc' := 57) (lv' := [(0, .ref 0), (1, .int (Int32.ofInt a1)), (2, .int (Int32.ofInt a2)), (3, .int (Int32.ofInt a3)), (4, .int (Int32.ofInt a4)), (5, .int (Int32.ofInt a5))]) (st' := [.int (Int32.ofInt a5), .ref 31]) rfl ?_
    refine lf_callV 60 rfl rfl rfl rfl (gm_26 h) (fun s26 h => ?_)
    refine lf_seg 2 (pc' := 64) (lv' := [(0, .ref 0), (1, .int (Int32.ofInt a1)), (2, .int (Int32.ofInt a2)), (3, .int (Int32.ofInt a3)), (4, .int (Int32.ofInt a4)), (5, .int (Int32.ofInt a5))]) (st' := [.ref 31]) rfl ?_
    refine lf_getI 67 1 rfl rfl rfl rfl rfl rfl rfl ?_
    exact lf_retI rfl rfl h
  · have h := h.2 c
    refine lf_seg 1 (pc' := 17) (lv' := [(0, .ref 0), (1, .int (Int32.ofInt a1)), (2, .int (Int32.ofInt a2)), (3, .int (Int32.ofInt a3)), (4, .int (Int32.ofInt a4)), (5, .int (Int32.ofInt a5))]) (st' := [.int (Int32.ofInt (-1))]) rfl ?_
    exact lf_retI rfl rfl h
-- fm_193 Model.four 95 i
def fm_193_p3 (Q : lf_Z → Prop) (x1 : Int) (X3 : Int → lf_Z → Prop) (x2 : Int) (s : lf_Z) : Prop := lf_R x2 ∧ ((x2 < 0 → (Q s)) ∧ (¬ (x2 < 0) → ((0 ≤ s.1 95 4 ∧ s.1 95 4 < 300) ∧ (X3 (x2 + (-8)) (lf_up (lf_up s.1 99 (s.1 95 4) (lf_and (lf_shr x1 x2) 255)) 95 4 ((s.1 95 4) + 1), s.2.1, s.2.2)))))
def fm_193_p3L (Q : lf_Z → Prop) (x1 : Int) (x2 : Int) (s : lf_Z) : Prop := ∀ X3 : Int → lf_Z → Prop, (∀ (x2 : Int) (s : lf_Z), fm_193_p3 Q x1 X3 x2 s → X3 x2 s) → X3 x2 s
set_option maxRecDepth 100000 in
theorem gm_193_p3 {L : Nat} {xs : Nat → Int32} {d : Nat} {Q : lf_Z → Prop} {x1 : Int} {x2 : Int} {s : lf_Z} {X3 : Int → lf_Z → Prop} (hX3 : ∀ x2 s, X3 x2 s → lf_E (px_ro L xs) (d + 1) 193 3 [(0, .ref 95), (1, .int (Int32.ofInt x1)), (2, .int (Int32.ofInt x2))] [] s (lf_qv Q)) (h : fm_193_p3 Q x1 X3 x2 s) : lf_E (px_ro L xs) (d + 1) 193 3 [(0, .ref 95), (1, .int (Int32.ofInt x1)), (2, .int (Int32.ofInt x2))] [] s (lf_qv Q) := by
  unfold fm_193_p3 at h
  refine lf_seg 1 (pc' := 4) (lv' := [(0, .ref 95), (1, .int (Int32.ofInt x1)), (2, .int (Int32.ofInt x2))]) (st' := [.int (Int32.ofInt x2)]) rfl ?_
  obtain ⟨o21, h⟩ := h
  refine lf_if_lt 39 7 rfl rfl rfl o21 (fun c => ?_) (fun c => ?_)
  · have h := h.1 c
    exact lf_retV rfl rfl h
  · have h := h.2 c
    refine lf_seg 3 (pc' := 12) (lv' := [(0, .ref 95), (1, .int (Int32.ofInt x1)), (2, .int (Int32.ofInt x2))]) (st' := [.ref 95, .ref 99]) rfl ?_
    refine lf_getI 15 4 rfl rfl rfl rfl rfl rfl rfl ?_
    refine lf_seg 2 (pc' := 17) (lv' := [(0, .ref 95), (1, .int (Int32.ofInt x1)), (2, .int (Int32.ofInt x2))]) (st' := [.int (Int32.ofInt x2), .int (Int32.ofInt x1), .int (Int32.ofInt (s.1 95 4)), .ref 99]) rfl ?_
    refine lf_ishr 18 rfl rfl ?_
    refine lf_sipush 21 255 rfl rfl (by decide) (by decide) ?_
    refine lf_iand 22 rfl rfl ?_
    obtain ⟨o22, h⟩ := h
    refine lf_iast 23 300 rfl rfl rfl rfl rfl rfl o22 ?_
    refine lf_as (lf_up s.1 99 (s.1 95 4) (lf_and (lf_shr x1 x2) 255), s.2.1, s.2.2) rfl ?_
    refine lf_seg 2 (pc' := 25) (lv' := [(0, .ref 95), (1, .int (Int32.ofInt x1)), (2, .int (Int32.ofInt x2))]) (st' := [.ref 95, .ref 95]) rfl ?_
    refine lf_getI 28 4 rfl rfl rfl rfl rfl rfl rfl ?_
    refine lf_seg 1 (pc' := 29) (lv' := [(0, .ref 95), (1, .int (Int32.ofInt x1)), (2, .int (Int32.ofInt x2))]) (st' := [.int (Int32.ofInt 1), .int (Int32.ofInt (s.1 95 4)), .ref 95]) rfl ?_
    refine lf_iadd 30 rfl rfl ?_
    refine lf_putI 33 4 rfl rfl rfl rfl rfl rfl rfl rfl ?_
    refine lf_as (lf_up (lf_up s.1 99 (s.1 95 4) (lf_and (lf_shr x1 x2) 255)) 95 4 ((s.1 95 4) + 1), s.2.1, s.2.2) rfl ?_
    refine lf_iinc 36 rfl rfl rfl rfl ?_
    refine lf_seg 1 (pc' := 3) (lv' := [(2, .int (Int32.ofInt (x2 + (-8)))), (0, .ref 95), (1, .int (Int32.ofInt x1))]) (st' := []) rfl ?_
    refine lf_sub (l := [(0, .ref 95), (1, .int (Int32.ofInt x1)), (2, .int (Int32.ofInt (x2 + (-8))))]) (lf_sb1 rfl (lf_sb1 rfl (lf_sb1 rfl lf_sb0))) ?_
    exact hX3 _ _ h
theorem gm_193_p3L {L : Nat} {xs : Nat → Int32} {d : Nat} {Q : lf_Z → Prop} {x1 : Int} {x2 : Int} {s : lf_Z} (h : fm_193_p3L Q x1 x2 s) : lf_E (px_ro L xs) (d + 1) 193 3 [(0, .ref 95), (1, .int (Int32.ofInt x1)), (2, .int (Int32.ofInt x2))] [] s (lf_qv Q) :=
  h (fun x2 s => lf_E (px_ro L xs) (d + 1) 193 3 [(0, .ref 95), (1, .int (Int32.ofInt x1)), (2, .int (Int32.ofInt x2))] [] s (lf_qv Q)) (fun x2 s hb => gm_193_p3 (fun _ _ h => h) hb)
def fm_193 (a1 : Int) (Q : lf_Z → Prop) (s : lf_Z) : Prop := fm_193_p3L Q a1 24 s
set_option maxRecDepth 100000 in
theorem gm_193 {L : Nat} {xs : Nat → Int32} {d : Nat} {a1 : Int} {Q : lf_Z → Prop} {s : lf_Z} (h : fm_193 a1 Q s) : lf_M (px_ro L xs) (d + 1) 193 [.ref 95, .int (Int32.ofInt a1)] s (lf_qv Q) := by
  unfold fm_193 at h
  show lf_E (px_ro L xs) (d + 1) 193 0 [(0, .ref 95), (1, .int (Int32.ofInt a1))] [] s _
  refine lf_bipush 2 24 rfl rfl (by decide) (by decide) ?_
  refine lf_seg 1 (pc' := 3) (lv' := [(2, .int (Int32.ofInt 24)), (0, .ref 95), (1, .int (Int32.ofInt a1))]) (st' := []) rfl ?_
  refine lf_sub (l := [(0, .ref 95), (1, .int (Int32.ofInt a1)), (2, .int (Int32.ofInt 24))]) (lf_sb1 rfl (lf_sb1 rfl (lf_sb1 rfl lf_sb0))) ?_
  exact gm_193_p3L h
-- fm_192 Model.feed 95 i i i i i
def fm_192 (a1 : Int) (a2 : Int) (a3 : Int) (a4 : Int) (a5 : Int) (Q : Int → lf_Z → Prop) (s : lf_Z) : Prop := lf_R ((s.1 95 4) + 20) ∧ (((s.1 95 4) + 20 ≤ 300 → (fm_193 a1 (fun s22 => (fm_193 a2 (fun s23 => (fm_193 a3 (fun s24 => (fm_193 a4 (fun s25 => (fm_193 a5 (fun s26 => (Q (s26.1 95 4) s26)) s25)) s24)) s23)) s22)) s)) ∧ (¬ ((s.1 95 4) + 20 ≤ 300) → (Q (-1) s)))
set_option maxRecDepth 100000 in
theorem gm_192 {L : Nat} {xs : Nat → Int32} {d : Nat} {a1 : Int} {a2 : Int} {a3 : Int} {a4 : Int} {a5 : Int} {Q : Int → lf_Z → Prop} {s : lf_Z} (h : fm_192 a1 a2 a3 a4 a5 Q s) : lf_M (px_ro L xs) (d + 2) 192 [.ref 95, .int (Int32.ofInt a1), .int (Int32.ofInt a2), .int (Int32.ofInt a3), .int (Int32.ofInt a4), .int (Int32.ofInt a5)] s (lf_qi Q) := by
  unfold fm_192 at h
  show lf_E (px_ro L xs) (d + 2) 192 0 [(0, .ref 95), (1, .int (Int32.ofInt a1)), (2, .int (Int32.ofInt a2)), (3, .int (Int32.ofInt a3)), (4, .int (Int32.ofInt a4)), (5, .int (Int32.ofInt a5))] [] s _
  refine lf_seg 1 (pc' := 1) (lv' := [(0, .ref 95), (1, .int (Int32.ofInt a1)), (2, .int (Int32.ofInt a2)), (3, .int (Int32.ofInt a3)), (4, .int (Int32.ofInt a4)), (5, .int (Int32.ofInt a5))]) (st' := [.ref 95]) rfl ?_
  refine lf_getI 4 4 rfl rfl rfl rfl rfl rfl rfl ?_
  refine lf_bipush 6 20 rfl rfl (by decide) (by decide) ?_
  refine lf_iadd 7 rfl rfl ?_
  refine lf_sipush 10 300 rfl rfl (by decide) (by decide) ?_
  obtain ⟨o21, h⟩ := h
  refine lf_icmp_le 15 13 rfl rfl rfl o21 ⟨by decide, by decide⟩ (fun c => ?_) (fun c => ?_)
  · have h := h.1 c
    refine lf_seg 2 (pc' := 17) (lv' := [(0, .ref 95), (1, .int (Int32.ofInt a1)), (2, .int (Int32.ofInt a2)), (3, .int (Int32.ofInt a3)), (4, .int (Int32.ofInt a4)), (5, .int (Int32.ofInt a5))]) (st' := [.int (Int32.ofInt a1), .ref 95]) rfl ?_
    refine lf_callV 20 rfl rfl rfl rfl (gm_193 h) (fun s22 h => ?_)
    refine lf_seg 2 (pc' := 22) (lv' := [(0, .ref 95), (1, .int (Int32.ofInt a1)), (2, .int (Int32.ofInt a2)), (3, .int (Int32.ofInt a3)), (4, .int (Int32.ofInt a4)), (5, .int (Int32.ofInt a5))]) (st' := [.int (Int32.ofInt a2), .ref 95]) rfl ?_
    refine lf_callV 25 rfl rfl rfl rfl (gm_193 h) (fun s23 h => ?_)
    refine lf_seg 2 (pc' := 27) (lv' := [(0, .ref 95), (1, .int (Int32.ofInt a1)), (2, .int (Int32.ofInt a2)), (3, .int (Int32.ofInt a3)), (4, .int (Int32.ofInt a4)), (5, .int (Int32.ofInt a5))]) (st' := [.int (Int32.ofInt a3), .ref 95]) rfl ?_
    refine lf_callV 30 rfl rfl rfl rfl (gm_193 h) (fun s24 h => ?_)
    refine lf_seg 2 (pc' := 33) (lv' := [(0, .ref 95), (1, .int (Int32.ofInt a1)), (2, .int (Int32.ofInt a2)), (3, .int (Int32.ofInt a3)), (4, .int (Int32.ofInt a4)), (5, .int (Int32.ofInt a5))]) (st' := [.int (Int32.ofInt a4), .ref 95]) rfl ?_
    refine lf_callV 36 rfl rfl rfl rfl (gm_193 h) (fun s25 h => ?_)
    refine lf_seg 2 (pc' := 39) (lv' := [(0, .ref 95), (1, .int (Int32.ofInt a1)), (2, .int (Int32.ofInt a2)), (3, .int (Int32.ofInt a3)), (4, .int (Int32.ofInt a4)), (5, .int (Int32.ofInt a5))]) (st' := [.int (Int32.ofInt a5), .ref 95]) rfl ?_
    refine lf_callV 42 rfl rfl rfl rfl (gm_193 h) (fun s26 h => ?_)
    refine lf_seg 1 (pc' := 43) (lv' := [(0, .ref 95), (1, .int (Int32.ofInt a1)), (2, .int (Int32.ofInt a2)), (3, .int (Int32.ofInt a3)), (4, .int (Int32.ofInt a4)), (5, .int (Int32.ofInt a5))]) (st' := [.ref 95]) rfl ?_
    refine lf_getI 46 4 rfl rfl rfl rfl rfl rfl rfl ?_
    exact lf_retI rfl rfl h
  · have h := h.2 c
    refine lf_seg 1 (pc' := 14) (lv' := [(0, .ref 95), (1, .int (Int32.ofInt a1)), (2, .int (Int32.ofInt a2)), (3, .int (Int32.ofInt a3)), (4, .int (Int32.ofInt a4)), (5, .int (Int32.ofInt a5))]) (st' := [.int (Int32.ofInt (-1))]) rfl ?_
    exact lf_retI rfl rfl h
-- fm_27 ElevenBullocks.end 0 i
def fm_27 (a1 : Int) (Q : Int → lf_Z → Prop) (s : lf_Z) : Prop := fm_15 a1 0 (s.1 31 1) (fun z22 s21 => ((z22 = true → (Q a1 (lf_up s21.1 31 1 a1, s21.2.1, s21.2.2))) ∧ (z22 = false → (Q (-1) s21)))) s
set_option maxRecDepth 100000 in
theorem gm_27 {L : Nat} {xs : Nat → Int32} {d : Nat} {a1 : Int} {Q : Int → lf_Z → Prop} {s : lf_Z} (h : fm_27 a1 Q s) : lf_M (px_ro L xs) (d + 2) 27 [.ref 0, .int (Int32.ofInt a1)] s (lf_qi Q) := by
  unfold fm_27 at h
  show lf_E (px_ro L xs) (d + 2) 27 0 [(0, .ref 0), (1, .int (Int32.ofInt a1))] [] s _
  refine lf_seg 4 (pc' := 6) (lv' := [(0, .ref 0), (1, .int (Int32.ofInt a1))]) (st' := [.ref 31, .int (Int32.ofInt 0), .int (Int32.ofInt a1)]) rfl ?_
  refine lf_getI 9 1 rfl rfl rfl rfl rfl rfl rfl ?_
  refine lf_callZ 12 rfl rfl rfl rfl (gm_15 h) (fun z22 s21 h => ?_)
  refine lf_ifz_ne 17 15 rfl rfl rfl (fun c => ?_) (fun c => ?_)
  · have h := h.1 c
    refine lf_seg 3 (pc' := 22) (lv' := [(0, .ref 0), (1, .int (Int32.ofInt a1))]) (st' := [.int (Int32.ofInt a1), .ref 31]) rfl ?_
    refine lf_putI 25 1 rfl rfl rfl rfl rfl rfl rfl rfl ?_
    refine lf_as (lf_up s21.1 31 1 a1, s21.2.1, s21.2.2) rfl ?_
    refine lf_seg 1 (pc' := 26) (lv' := [(0, .ref 0), (1, .int (Int32.ofInt a1))]) (st' := [.int (Int32.ofInt a1)]) rfl ?_
    exact lf_retI rfl rfl h
  · have h := h.2 c
    refine lf_seg 1 (pc' := 16) (lv' := [(0, .ref 0), (1, .int (Int32.ofInt a1))]) (st' := [.int (Int32.ofInt (-1))]) rfl ?_
    exact lf_retI rfl rfl h
-- fm_194 Model.end 95 i
def fm_194 (a1 : Int) (Q : Int → lf_Z → Prop) (s : lf_Z) : Prop := fm_183 a1 0 (s.1 95 4) (fun z22 s21 => ((z22 = true → (Q a1 (lf_up s21.1 95 4 a1, s21.2.1, s21.2.2))) ∧ (z22 = false → (Q (-1) s21)))) s
set_option maxRecDepth 100000 in
theorem gm_194 {L : Nat} {xs : Nat → Int32} {d : Nat} {a1 : Int} {Q : Int → lf_Z → Prop} {s : lf_Z} (h : fm_194 a1 Q s) : lf_M (px_ro L xs) (d + 2) 194 [.ref 95, .int (Int32.ofInt a1)] s (lf_qi Q) := by
  unfold fm_194 at h
  show lf_E (px_ro L xs) (d + 2) 194 0 [(0, .ref 95), (1, .int (Int32.ofInt a1))] [] s _
  refine lf_seg 3 (pc' := 3) (lv' := [(0, .ref 95), (1, .int (Int32.ofInt a1))]) (st' := [.ref 95, .int (Int32.ofInt 0), .int (Int32.ofInt a1)]) rfl ?_
  refine lf_getI 6 4 rfl rfl rfl rfl rfl rfl rfl ?_
  refine lf_callZ 9 rfl rfl rfl rfl (gm_183 h) (fun z22 s21 h => ?_)
  refine lf_ifz_ne 14 12 rfl rfl rfl (fun c => ?_) (fun c => ?_)
  · have h := h.1 c
    refine lf_seg 2 (pc' := 16) (lv' := [(0, .ref 95), (1, .int (Int32.ofInt a1))]) (st' := [.int (Int32.ofInt a1), .ref 95]) rfl ?_
    refine lf_putI 19 4 rfl rfl rfl rfl rfl rfl rfl rfl ?_
    refine lf_as (lf_up s21.1 95 4 a1, s21.2.1, s21.2.2) rfl ?_
    refine lf_seg 1 (pc' := 20) (lv' := [(0, .ref 95), (1, .int (Int32.ofInt a1))]) (st' := [.int (Int32.ofInt a1)]) rfl ?_
    exact lf_retI rfl rfl h
  · have h := h.2 c
    refine lf_seg 1 (pc' := 13) (lv' := [(0, .ref 95), (1, .int (Int32.ofInt a1))]) (st' := [.int (Int32.ofInt (-1))]) rfl ?_
    exact lf_retI rfl rfl h
-- fm_30 Script.clear t
def fm_30 (t0 : Nat) (Q : lf_Z → Prop) (s : lf_Z) : Prop := Q (lf_fl (lf_up (lf_up s.1 (35 + 7 * t0) 1 0) (35 + 7 * t0) 7 0) (37 + 7 * t0) 3 (-1), s.2.1, s.2.2)
set_option maxRecDepth 100000 in
theorem gm_30 {L : Nat} {xs : Nat → Int32} {d : Nat} {t0 : Nat} {Q : lf_Z → Prop} {s : lf_Z} (htt0 : t0 < 4) (h : fm_30 t0 Q s) : lf_M (px_ro L xs) (d + 2) 30 [.ref (35 + 7 * t0)] s (lf_qv Q) := by
  unfold fm_30 at h
  show lf_E (px_ro L xs) (d + 2) 30 0 [(0, .ref (35 + 7 * t0))] [] s _
  refine lf_seg 2 (pc' := 2) (lv' := [(0, .ref (35 + 7 * t0))]) (st' := [.int (Int32.ofInt 0), .ref (35 + 7 * t0)]) rfl ?_
  refine lf_putI 5 1 rfl rfl rfl (lf_scr htt0) (lf_scL htt0) rfl rfl rfl ?_
  refine lf_as (lf_up s.1 (35 + 7 * t0) 1 0, s.2.1, s.2.2) rfl ?_
  refine lf_seg 2 (pc' := 7) (lv' := [(0, .ref (35 + 7 * t0))]) (st' := [.int (Int32.ofInt 0), .ref (35 + 7 * t0)]) rfl ?_
  refine lf_putI 10 7 rfl rfl rfl (lf_scr htt0) (lf_scL htt0) rfl rfl rfl ?_
  refine lf_as (lf_up (lf_up s.1 (35 + 7 * t0) 1 0) (35 + 7 * t0) 7 0, s.2.1, s.2.2) rfl ?_
  refine lf_seg 1 (pc' := 11) (lv' := [(0, .ref (35 + 7 * t0))]) (st' := [.ref (35 + 7 * t0)]) rfl ?_
  refine lf_getR 14 (w := some (37 + 7 * t0)) rfl rfl rfl (lf_scr htt0) (lf_scL htt0) rfl (lf_sP2 htt0) ?_
  refine lf_seg 1 (pc' := 15) (lv' := [(0, .ref (35 + 7 * t0))]) (st' := [.int (Int32.ofInt (-1)), .ref (37 + 7 * t0)]) rfl ?_
  refine lf_callV (Q1 := fun s1 => s1 = (lf_fl (lf_up (lf_up s.1 (35 + 7 * t0) 1 0) (35 + 7 * t0) 7 0) (37 + 7 * t0) 3 (-1), s.2.1, s.2.2)) 18 rfl rfl rfl rfl (lf_fill (m := 3) (lf_sA2 htt0) (lf_sC2 htt0) (lf_sB2 htt0) rfl rfl rfl) (fun s1 hs1 => ?_)
  refine lf_as (lf_fl (lf_up (lf_up s.1 (35 + 7 * t0) 1 0) (35 + 7 * t0) 7 0) (37 + 7 * t0) 3 (-1), s.2.1, s.2.2) hs1 ?_
  exact lf_retV rfl rfl h
-- fm_32 Reader.isDigit i
def fm_32 (a0 : Int) (Q : Bool → lf_Z → Prop) (s : lf_Z) : Prop := lf_R a0 ∧ ((a0 < 48 → (Q false s)) ∧ (¬ (a0 < 48) → ((57 < a0 → (Q false s)) ∧ (¬ (57 < a0) → (Q true s)))))
set_option maxRecDepth 100000 in
theorem gm_32 {L : Nat} {xs : Nat → Int32} {d : Nat} {a0 : Int} {Q : Bool → lf_Z → Prop} {s : lf_Z} (h : fm_32 a0 Q s) : lf_M (px_ro L xs) (d + 1) 32 [.int (Int32.ofInt a0)] s (lf_qz Q) := by
  unfold fm_32 at h
  show lf_E (px_ro L xs) (d + 1) 32 0 [(0, .int (Int32.ofInt a0))] [] s _
  refine lf_seg 1 (pc' := 1) (lv' := [(0, .int (Int32.ofInt a0))]) (st' := [.int (Int32.ofInt a0)]) rfl ?_
  refine lf_bipush 3 48 rfl rfl (by decide) (by decide) ?_
  obtain ⟨o21, h⟩ := h
  refine lf_icmp_lt 16 6 rfl rfl rfl o21 ⟨by decide, by decide⟩ (fun c => ?_) (fun c => ?_)
  · have h := h.1 c
    refine lf_seg 1 (pc' := 17) (lv' := [(0, .int (Int32.ofInt a0))]) (st' := [.int (Int32.ofInt 0)]) rfl ?_
    exact lf_retZ false rfl rfl h
  · have h := h.2 c
    refine lf_seg 1 (pc' := 7) (lv' := [(0, .int (Int32.ofInt a0))]) (st' := [.int (Int32.ofInt a0)]) rfl ?_
    refine lf_bipush 9 57 rfl rfl (by decide) (by decide) ?_
    refine lf_icmp_gt 16 12 rfl rfl rfl o21 ⟨by decide, by decide⟩ (fun c => ?_) (fun c => ?_)
    · have h := h.1 c
      refine lf_seg 1 (pc' := 17) (lv' := [(0, .int (Int32.ofInt a0))]) (st' := [.int (Int32.ofInt 0)]) rfl ?_
      exact lf_retZ false rfl rfl h
    · have h := h.2 c
      refine lf_seg 2 (pc' := 17) (lv' := [(0, .int (Int32.ofInt a0))]) (st' := [.int (Int32.ofInt 1)]) rfl ?_
      exact lf_retZ true rfl rfl h
-- fm_34 Reader.isLetter i
def fm_34_p12 (Q : Bool → lf_Z → Prop) (x0 : Int) (s : lf_Z) : Prop := lf_R x0 ∧ ((x0 < 65 → (Q false s)) ∧ (¬ (x0 < 65) → ((90 < x0 → (Q false s)) ∧ (¬ (90 < x0) → (Q true s)))))
set_option maxRecDepth 100000 in
theorem gm_34_p12 {L : Nat} {xs : Nat → Int32} {d : Nat} {Q : Bool → lf_Z → Prop} {x0 : Int} {s : lf_Z} (h : fm_34_p12 Q x0 s) : lf_E (px_ro L xs) (d + 1) 34 12 [(0, .int (Int32.ofInt x0))] [] s (lf_qz Q) := by
  unfold fm_34_p12 at h
  refine lf_seg 1 (pc' := 13) (lv' := [(0, .int (Int32.ofInt x0))]) (st' := [.int (Int32.ofInt x0)]) rfl ?_
  refine lf_bipush 15 65 rfl rfl (by decide) (by decide) ?_
  obtain ⟨o22, h⟩ := h
  refine lf_icmp_lt 28 18 rfl rfl rfl o22 ⟨by decide, by decide⟩ (fun c => ?_) (fun c => ?_)
  · have h := h.1 c
    refine lf_seg 1 (pc' := 29) (lv' := [(0, .int (Int32.ofInt x0))]) (st' := [.int (Int32.ofInt 0)]) rfl ?_
    exact lf_retZ false rfl rfl h
  · have h := h.2 c
    refine lf_seg 1 (pc' := 19) (lv' := [(0, .int (Int32.ofInt x0))]) (st' := [.int (Int32.ofInt x0)]) rfl ?_
    refine lf_bipush 21 90 rfl rfl (by decide) (by decide) ?_
    refine lf_icmp_gt 28 24 rfl rfl rfl o22 ⟨by decide, by decide⟩ (fun c => ?_) (fun c => ?_)
    · have h := h.1 c
      refine lf_seg 1 (pc' := 29) (lv' := [(0, .int (Int32.ofInt x0))]) (st' := [.int (Int32.ofInt 0)]) rfl ?_
      exact lf_retZ false rfl rfl h
    · have h := h.2 c
      refine lf_seg 2 (pc' := 29) (lv' := [(0, .int (Int32.ofInt x0))]) (st' := [.int (Int32.ofInt 1)]) rfl ?_
      exact lf_retZ true rfl rfl h
def fm_34 (a0 : Int) (Q : Bool → lf_Z → Prop) (s : lf_Z) : Prop := lf_R a0 ∧ ((a0 < 97 → (fm_34_p12 Q a0 s)) ∧ (¬ (a0 < 97) → ((a0 ≤ 122 → (Q true s)) ∧ (¬ (a0 ≤ 122) → (fm_34_p12 Q a0 s)))))
set_option maxRecDepth 100000 in
theorem gm_34 {L : Nat} {xs : Nat → Int32} {d : Nat} {a0 : Int} {Q : Bool → lf_Z → Prop} {s : lf_Z} (h : fm_34 a0 Q s) : lf_M (px_ro L xs) (d + 1) 34 [.int (Int32.ofInt a0)] s (lf_qz Q) := by
  unfold fm_34 at h
  show lf_E (px_ro L xs) (d + 1) 34 0 [(0, .int (Int32.ofInt a0))] [] s _
  refine lf_seg 1 (pc' := 1) (lv' := [(0, .int (Int32.ofInt a0))]) (st' := [.int (Int32.ofInt a0)]) rfl ?_
  refine lf_bipush 3 97 rfl rfl (by decide) (by decide) ?_
  obtain ⟨o21, h⟩ := h
  refine lf_icmp_lt 12 6 rfl rfl rfl o21 ⟨by decide, by decide⟩ (fun c => ?_) (fun c => ?_)
  · have h := h.1 c
    refine lf_sub (l := [(0, .int (Int32.ofInt a0))]) (lf_sb1 rfl lf_sb0) ?_
    exact gm_34_p12 h
  · have h := h.2 c
    refine lf_seg 1 (pc' := 7) (lv' := [(0, .int (Int32.ofInt a0))]) (st' := [.int (Int32.ofInt a0)]) rfl ?_
    refine lf_bipush 9 122 rfl rfl (by decide) (by decide) ?_
    refine lf_icmp_le 24 12 rfl rfl rfl o21 ⟨by decide, by decide⟩ (fun c => ?_) (fun c => ?_)
    · have h := h.1 c
      refine lf_seg 2 (pc' := 29) (lv' := [(0, .int (Int32.ofInt a0))]) (st' := [.int (Int32.ofInt 1)]) rfl ?_
      exact lf_retZ true rfl rfl h
    · have h := h.2 c
      refine lf_sub (l := [(0, .int (Int32.ofInt a0))]) (lf_sb1 rfl lf_sb0) ?_
      exact gm_34_p12 h
-- fm_37 Reader.scanSign 31 i
def fm_37_p311 (Q : lf_Z → Prop) (s : lf_Z) : Prop := Q (lf_up s.1 31 8 1, s.2.1, s.2.2)
set_option maxRecDepth 100000 in
theorem gm_37_p311 {L : Nat} {xs : Nat → Int32} {d : Nat} {Q : lf_Z → Prop} {s : lf_Z} (h : fm_37_p311 Q s) : lf_E (px_ro L xs) (d + 1) 37 311 [(0, .ref 31)] [] s (lf_qv Q) := by
  unfold fm_37_p311 at h
  refine lf_seg 2 (pc' := 313) (lv' := [(0, .ref 31)]) (st' := [.int (Int32.ofInt 1), .ref 31]) rfl ?_
  refine lf_putI 316 8 rfl rfl rfl rfl rfl rfl rfl rfl ?_
  refine lf_as (lf_up s.1 31 8 1, s.2.1, s.2.2) rfl ?_
  exact lf_retV rfl rfl h
def fm_37_p206 (Q : lf_Z → Prop) (y1 : Int) (s : lf_Z) : Prop := Q (lf_up s.1 31 8 y1, s.2.1, s.2.2)
set_option maxRecDepth 100000 in
theorem gm_37_p206 {L : Nat} {xs : Nat → Int32} {d : Nat} {Q : lf_Z → Prop} {y1 : Int} {s : lf_Z} (h : fm_37_p206 Q y1 s) : lf_E (px_ro L xs) (d + 1) 37 206 [] [.int (Int32.ofInt y1), .ref 31] s (lf_qv Q) := by
  unfold fm_37_p206 at h
  refine lf_putI 209 8 rfl rfl rfl rfl rfl rfl rfl rfl ?_
  refine lf_as (lf_up s.1 31 8 y1, s.2.1, s.2.2) rfl ?_
  refine lf_seg 1 (pc' := 316) (lv' := []) (st' := []) rfl ?_
  exact lf_retV rfl rfl h
def fm_37_p224 (Q : lf_Z → Prop) (y1 : Int) (s : lf_Z) : Prop := Q (lf_up s.1 31 8 y1, s.2.1, s.2.2)
set_option maxRecDepth 100000 in
theorem gm_37_p224 {L : Nat} {xs : Nat → Int32} {d : Nat} {Q : lf_Z → Prop} {y1 : Int} {s : lf_Z} (h : fm_37_p224 Q y1 s) : lf_E (px_ro L xs) (d + 1) 37 224 [] [.int (Int32.ofInt y1), .ref 31] s (lf_qv Q) := by
  unfold fm_37_p224 at h
  refine lf_putI 227 8 rfl rfl rfl rfl rfl rfl rfl rfl ?_
  refine lf_as (lf_up s.1 31 8 y1, s.2.1, s.2.2) rfl ?_
  refine lf_seg 1 (pc' := 316) (lv' := []) (st' := []) rfl ?_
  exact lf_retV rfl rfl h
def fm_37_p67 (Q : lf_Z → Prop) (x1 : Int) (x2 : Int) (s : lf_Z) : Prop := lf_R x1 ∧ ((x1 < 35 ∨ 62 < x1 → (fm_37_p311 Q s)) ∧ (x1 = 35 → (Q (lf_up s.1 31 8 9, s.2.1, s.2.2))) ∧ (x1 = 36 → (fm_37_p311 Q s)) ∧ (x1 = 37 → (fm_37_p311 Q s)) ∧ (x1 = 38 → (fm_37_p311 Q s)) ∧ (x1 = 39 → (fm_37_p311 Q s)) ∧ (x1 = 40 → (Q (lf_up s.1 31 8 14, s.2.1, s.2.2))) ∧ (x1 = 41 → (Q (lf_up s.1 31 8 15, s.2.1, s.2.2))) ∧ (x1 = 42 → (Q (lf_up s.1 31 8 12, s.2.1, s.2.2))) ∧ (x1 = 43 → (Q (lf_up s.1 31 8 10, s.2.1, s.2.2))) ∧ (x1 = 44 → (fm_37_p311 Q s)) ∧ (x1 = 45 → (Q (lf_up s.1 31 8 11, s.2.1, s.2.2))) ∧ (x1 = 46 → (fm_37_p311 Q s)) ∧ (x1 = 47 → (Q (lf_up s.1 31 8 13, s.2.1, s.2.2))) ∧ (x1 = 48 → (fm_37_p311 Q s)) ∧ (x1 = 49 → (fm_37_p311 Q s)) ∧ (x1 = 50 → (fm_37_p311 Q s)) ∧ (x1 = 51 → (fm_37_p311 Q s)) ∧ (x1 = 52 → (fm_37_p311 Q s)) ∧ (x1 = 53 → (fm_37_p311 Q s)) ∧ (x1 = 54 → (fm_37_p311 Q s)) ∧ (x1 = 55 → (fm_37_p311 Q s)) ∧ (x1 = 56 → (fm_37_p311 Q s)) ∧ (x1 = 57 → (fm_37_p311 Q s)) ∧ (x1 = 58 → (fm_37_p311 Q s)) ∧ (x1 = 59 → (Q (lf_up s.1 31 8 16, s.2.1, s.2.2))) ∧ (x1 = 60 → (lf_R x2 ∧ ((x2 = 0 → (fm_37_p206 Q 4 s)) ∧ (¬ (x2 = 0) → (fm_37_p206 Q 5 s))))) ∧ (x1 = 61 → (Q (lf_up s.1 31 8 8, s.2.1, s.2.2))) ∧ (x1 = 62 → (lf_R x2 ∧ ((x2 = 0 → (fm_37_p224 Q 6 s)) ∧ (¬ (x2 = 0) → (fm_37_p224 Q 7 s))))))
set_option maxRecDepth 100000 in
theorem gm_37_p67 {L : Nat} {xs : Nat → Int32} {d : Nat} {Q : lf_Z → Prop} {x1 : Int} {x2 : Int} {s : lf_Z} (h : fm_37_p67 Q x1 x2 s) : lf_E (px_ro L xs) (d + 1) 37 67 [(0, .ref 31), (1, .int (Int32.ofInt x1)), (2, .int (Int32.ofInt x2))] [] s (lf_qv Q) := by
  unfold fm_37_p67 at h
  refine lf_seg 1 (pc' := 68) (lv' := [(0, .ref 31), (1, .int (Int32.ofInt x1)), (2, .int (Int32.ofInt x2))]) (st' := [.int (Int32.ofInt x1)]) rfl ?_
  obtain ⟨o24, h⟩ := h
  refine lf_tsw 311 [(35, 239), (36, 311), (37, 311), (38, 311), (39, 311), (40, 284), (41, 293), (42, 266), (43, 248), (44, 311), (45, 257), (46, 311), (47, 275), (48, 311), (49, 311), (50, 311), (51, 311), (52, 311), (53, 311), (54, 311), (55, 311), (56, 311), (57, 311), (58, 311), (59, 302), (60, 196), (61, 230), (62, 212)] rfl rfl rfl (by decide) o24 (fun c => ?_) (lf_tab1 (fun c => ?_) (lf_tab1 (fun c => ?_) (lf_tab1 (fun c => ?_) (lf_tab1 (fun c => ?_) (lf_tab1 (fun c => ?_) (lf_tab1 (fun c => ?_) (lf_tab1 (fun c => ?_) (lf_tab1 (fun c => ?_) (lf_tab1 (fun c => ?_) (lf_tab1 (fun c => ?_) (lf_tab1 (fun c => ?_) (lf_tab1 (fun c => ?_) (lf_tab1 (fun c => ?_) (lf_tab1 (fun c => ?_) (lf_tab1 (fun c => ?_) (lf_tab1 (fun c => ?_) (lf_tab1 (fun c => ?_) (lf_tab1 (fun c => ?_) (lf_tab1 (fun c => ?_) (lf_tab1 (fun c => ?_) (lf_tab1 (fun c => ?_) (lf_tab1 (fun c => ?_) (lf_tab1 (fun c => ?_) (lf_tab1 (fun c => ?_) (lf_tab1 (fun c => ?_) (lf_tab1 (fun c => ?_) (lf_tab1 (fun c => ?_) (lf_tab1 (fun c => ?_) lf_tab0))))))))))))))))))))))))))))
  · have h := h.1 c
    refine lf_sub (l := [(0, .ref 31)]) (lf_sb1 rfl lf_sb0) ?_
    exact gm_37_p311 h
  · have h := h.2.1 c
    refine lf_seg 1 (pc' := 240) (lv' := [(0, .ref 31), (1, .int (Int32.ofInt x1)), (2, .int (Int32.ofInt x2))]) (st' := [.ref 31]) rfl ?_
    refine lf_bipush 242 9 rfl rfl (by decide) (by decide) ?_
    refine lf_putI 245 8 rfl rfl rfl rfl rfl rfl rfl rfl ?_
    refine lf_as (lf_up s.1 31 8 9, s.2.1, s.2.2) rfl ?_
    refine lf_seg 1 (pc' := 316) (lv' := [(0, .ref 31), (1, .int (Int32.ofInt x1)), (2, .int (Int32.ofInt x2))]) (st' := []) rfl ?_
    exact lf_retV rfl rfl h
  · have h := h.2.2.1 c
    refine lf_sub (l := [(0, .ref 31)]) (lf_sb1 rfl lf_sb0) ?_
    exact gm_37_p311 h
  · have h := h.2.2.2.1 c
    refine lf_sub (l := [(0, .ref 31)]) (lf_sb1 rfl lf_sb0) ?_
    exact gm_37_p311 h
  · have h := h.2.2.2.2.1 c
    refine lf_sub (l := [(0, .ref 31)]) (lf_sb1 rfl lf_sb0) ?_
    exact gm_37_p311 h
  · have h := h.2.2.2.2.2.1 c
    refine lf_sub (l := [(0, .ref 31)]) (lf_sb1 rfl lf_sb0) ?_
    exact gm_37_p311 h
  · have h := h.2.2.2.2.2.2.1 c
    refine lf_seg 1 (pc' := 285) (lv' := [(0, .ref 31), (1, .int (Int32.ofInt x1)), (2, .int (Int32.ofInt x2))]) (st' := [.ref 31]) rfl ?_
    refine lf_bipush 287 14 rfl rfl (by decide) (by decide) ?_
    refine lf_putI 290 8 rfl rfl rfl rfl rfl rfl rfl rfl ?_
    refine lf_as (lf_up s.1 31 8 14, s.2.1, s.2.2) rfl ?_
    refine lf_seg 1 (pc' := 316) (lv' := [(0, .ref 31), (1, .int (Int32.ofInt x1)), (2, .int (Int32.ofInt x2))]) (st' := []) rfl ?_
    exact lf_retV rfl rfl h
  · have h := h.2.2.2.2.2.2.2.1 c
    refine lf_seg 1 (pc' := 294) (lv' := [(0, .ref 31), (1, .int (Int32.ofInt x1)), (2, .int (Int32.ofInt x2))]) (st' := [.ref 31]) rfl ?_
    refine lf_bipush 296 15 rfl rfl (by decide) (by decide) ?_
    refine lf_putI 299 8 rfl rfl rfl rfl rfl rfl rfl rfl ?_
    refine lf_as (lf_up s.1 31 8 15, s.2.1, s.2.2) rfl ?_
    refine lf_seg 1 (pc' := 316) (lv' := [(0, .ref 31), (1, .int (Int32.ofInt x1)), (2, .int (Int32.ofInt x2))]) (st' := []) rfl ?_
    exact lf_retV rfl rfl h
  · have h := h.2.2.2.2.2.2.2.2.1 c
    refine lf_seg 1 (pc' := 267) (lv' := [(0, .ref 31), (1, .int (Int32.ofInt x1)), (2, .int (Int32.ofInt x2))]) (st' := [.ref 31]) rfl ?_
    refine lf_bipush 269 12 rfl rfl (by decide) (by decide) ?_
    refine lf_putI 272 8 rfl rfl rfl rfl rfl rfl rfl rfl ?_
    refine lf_as (lf_up s.1 31 8 12, s.2.1, s.2.2) rfl ?_
    refine lf_seg 1 (pc' := 316) (lv' := [(0, .ref 31), (1, .int (Int32.ofInt x1)), (2, .int (Int32.ofInt x2))]) (st' := []) rfl ?_
    exact lf_retV rfl rfl h
  · have h := h.2.2.2.2.2.2.2.2.2.1 c
    refine lf_seg 1 (pc' := 249) (lv' := [(0, .ref 31), (1, .int (Int32.ofInt x1)), (2, .int (Int32.ofInt x2))]) (st' := [.ref 31]) rfl ?_
    refine lf_bipush 251 10 rfl rfl (by decide) (by decide) ?_
    refine lf_putI 254 8 rfl rfl rfl rfl rfl rfl rfl rfl ?_
    refine lf_as (lf_up s.1 31 8 10, s.2.1, s.2.2) rfl ?_
    refine lf_seg 1 (pc' := 316) (lv' := [(0, .ref 31), (1, .int (Int32.ofInt x1)), (2, .int (Int32.ofInt x2))]) (st' := []) rfl ?_
    exact lf_retV rfl rfl h
  · have h := h.2.2.2.2.2.2.2.2.2.2.1 c
    refine lf_sub (l := [(0, .ref 31)]) (lf_sb1 rfl lf_sb0) ?_
    exact gm_37_p311 h
  · have h := h.2.2.2.2.2.2.2.2.2.2.2.1 c
    refine lf_seg 1 (pc' := 258) (lv' := [(0, .ref 31), (1, .int (Int32.ofInt x1)), (2, .int (Int32.ofInt x2))]) (st' := [.ref 31]) rfl ?_
    refine lf_bipush 260 11 rfl rfl (by decide) (by decide) ?_
    refine lf_putI 263 8 rfl rfl rfl rfl rfl rfl rfl rfl ?_
    refine lf_as (lf_up s.1 31 8 11, s.2.1, s.2.2) rfl ?_
    refine lf_seg 1 (pc' := 316) (lv' := [(0, .ref 31), (1, .int (Int32.ofInt x1)), (2, .int (Int32.ofInt x2))]) (st' := []) rfl ?_
    exact lf_retV rfl rfl h
  · have h := h.2.2.2.2.2.2.2.2.2.2.2.2.1 c
    refine lf_sub (l := [(0, .ref 31)]) (lf_sb1 rfl lf_sb0) ?_
    exact gm_37_p311 h
  · have h := h.2.2.2.2.2.2.2.2.2.2.2.2.2.1 c
    refine lf_seg 1 (pc' := 276) (lv' := [(0, .ref 31), (1, .int (Int32.ofInt x1)), (2, .int (Int32.ofInt x2))]) (st' := [.ref 31]) rfl ?_
    refine lf_bipush 278 13 rfl rfl (by decide) (by decide) ?_
    refine lf_putI 281 8 rfl rfl rfl rfl rfl rfl rfl rfl ?_
    refine lf_as (lf_up s.1 31 8 13, s.2.1, s.2.2) rfl ?_
    refine lf_seg 1 (pc' := 316) (lv' := [(0, .ref 31), (1, .int (Int32.ofInt x1)), (2, .int (Int32.ofInt x2))]) (st' := []) rfl ?_
    exact lf_retV rfl rfl h
  · have h := h.2.2.2.2.2.2.2.2.2.2.2.2.2.2.1 c
    refine lf_sub (l := [(0, .ref 31)]) (lf_sb1 rfl lf_sb0) ?_
    exact gm_37_p311 h
  · have h := h.2.2.2.2.2.2.2.2.2.2.2.2.2.2.2.1 c
    refine lf_sub (l := [(0, .ref 31)]) (lf_sb1 rfl lf_sb0) ?_
    exact gm_37_p311 h
  · have h := h.2.2.2.2.2.2.2.2.2.2.2.2.2.2.2.2.1 c
    refine lf_sub (l := [(0, .ref 31)]) (lf_sb1 rfl lf_sb0) ?_
    exact gm_37_p311 h
  · have h := h.2.2.2.2.2.2.2.2.2.2.2.2.2.2.2.2.2.1 c
    refine lf_sub (l := [(0, .ref 31)]) (lf_sb1 rfl lf_sb0) ?_
    exact gm_37_p311 h
  · have h := h.2.2.2.2.2.2.2.2.2.2.2.2.2.2.2.2.2.2.1 c
    refine lf_sub (l := [(0, .ref 31)]) (lf_sb1 rfl lf_sb0) ?_
    exact gm_37_p311 h
  · have h := h.2.2.2.2.2.2.2.2.2.2.2.2.2.2.2.2.2.2.2.1 c
    refine lf_sub (l := [(0, .ref 31)]) (lf_sb1 rfl lf_sb0) ?_
    exact gm_37_p311 h
  · have h := h.2.2.2.2.2.2.2.2.2.2.2.2.2.2.2.2.2.2.2.2.1 c
    refine lf_sub (l := [(0, .ref 31)]) (lf_sb1 rfl lf_sb0) ?_
    exact gm_37_p311 h
  · have h := h.2.2.2.2.2.2.2.2.2.2.2.2.2.2.2.2.2.2.2.2.2.1 c
    refine lf_sub (l := [(0, .ref 31)]) (lf_sb1 rfl lf_sb0) ?_
    exact gm_37_p311 h
  · have h := h.2.2.2.2.2.2.2.2.2.2.2.2.2.2.2.2.2.2.2.2.2.2.1 c
    refine lf_sub (l := [(0, .ref 31)]) (lf_sb1 rfl lf_sb0) ?_
    exact gm_37_p311 h
  · have h := h.2.2.2.2.2.2.2.2.2.2.2.2.2.2.2.2.2.2.2.2.2.2.2.1 c
    refine lf_sub (l := [(0, .ref 31)]) (lf_sb1 rfl lf_sb0) ?_
    exact gm_37_p311 h
  · have h := h.2.2.2.2.2.2.2.2.2.2.2.2.2.2.2.2.2.2.2.2.2.2.2.2.1 c
    refine lf_sub (l := [(0, .ref 31)]) (lf_sb1 rfl lf_sb0) ?_
    exact gm_37_p311 h
  · have h := h.2.2.2.2.2.2.2.2.2.2.2.2.2.2.2.2.2.2.2.2.2.2.2.2.2.1 c
    refine lf_seg 1 (pc' := 303) (lv' := [(0, .ref 31), (1, .int (Int32.ofInt x1)), (2, .int (Int32.ofInt x2))]) (st' := [.ref 31]) rfl ?_
    refine lf_bipush 305 16 rfl rfl (by decide) (by decide) ?_
    refine lf_putI 308 8 rfl rfl rfl rfl rfl rfl rfl rfl ?_
    refine lf_as (lf_up s.1 31 8 16, s.2.1, s.2.2) rfl ?_
    refine lf_seg 1 (pc' := 316) (lv' := [(0, .ref 31), (1, .int (Int32.ofInt x1)), (2, .int (Int32.ofInt x2))]) (st' := []) rfl ?_
    exact lf_retV rfl rfl h
  · have h := h.2.2.2.2.2.2.2.2.2.2.2.2.2.2.2.2.2.2.2.2.2.2.2.2.2.2.1 c
    refine lf_seg 2 (pc' := 198) (lv' := [(0, .ref 31), (1, .int (Int32.ofInt x1)), (2, .int (Int32.ofInt x2))]) (st' := [.int (Int32.ofInt x2), .ref 31]) rfl ?_
    obtain ⟨o25, h⟩ := h
    refine lf_if_eq 205 201 rfl rfl rfl o25 (fun c => ?_) (fun c => ?_)
    · have h := h.1 c
      refine lf_seg 1 (pc' := 206) (lv' := [(0, .ref 31), (1, .int (Int32.ofInt x1)), (2, .int (Int32.ofInt x2))]) (st' := [.int (Int32.ofInt 4), .ref 31]) rfl ?_
      refine lf_sub (l := []) lf_sb0 ?_
      exact gm_37_p206 h
    · have h := h.2 c
      refine lf_seg 2 (pc' := 206) (lv' := [(0, .ref 31), (1, .int (Int32.ofInt x1)), (2, .int (Int32.ofInt x2))]) (st' := [.int (Int32.ofInt 5), .ref 31]) rfl ?_
      refine lf_sub (l := []) lf_sb0 ?_
      exact gm_37_p206 h
  · have h := h.2.2.2.2.2.2.2.2.2.2.2.2.2.2.2.2.2.2.2.2.2.2.2.2.2.2.2.1 c
    refine lf_seg 1 (pc' := 231) (lv' := [(0, .ref 31), (1, .int (Int32.ofInt x1)), (2, .int (Int32.ofInt x2))]) (st' := [.ref 31]) rfl ?_
    refine lf_bipush 233 8 rfl rfl (by decide) (by decide) ?_
    refine lf_putI 236 8 rfl rfl rfl rfl rfl rfl rfl rfl ?_
    refine lf_as (lf_up s.1 31 8 8, s.2.1, s.2.2) rfl ?_
    refine lf_seg 1 (pc' := 316) (lv' := [(0, .ref 31), (1, .int (Int32.ofInt x1)), (2, .int (Int32.ofInt x2))]) (st' := []) rfl ?_
    exact lf_retV rfl rfl h
  · have h := h.2.2.2.2.2.2.2.2.2.2.2.2.2.2.2.2.2.2.2.2.2.2.2.2.2.2.2.2 c
    refine lf_seg 2 (pc' := 214) (lv' := [(0, .ref 31), (1, .int (Int32.ofInt x1)), (2, .int (Int32.ofInt x2))]) (st' := [.int (Int32.ofInt x2), .ref 31]) rfl ?_
    obtain ⟨o26, h⟩ := h
    refine lf_if_eq 222 217 rfl rfl rfl o26 (fun c => ?_) (fun c => ?_)
    · have h := h.1 c
      refine lf_bipush 224 6 rfl rfl (by decide) (by decide) ?_
      refine lf_sub (l := []) lf_sb0 ?_
      exact gm_37_p224 h
    · have h := h.2 c
      refine lf_bipush 219 7 rfl rfl (by decide) (by decide) ?_
      refine lf_seg 1 (pc' := 224) (lv' := [(0, .ref 31), (1, .int (Int32.ofInt x1)), (2, .int (Int32.ofInt x2))]) (st' := [.int (Int32.ofInt 7), .ref 31]) rfl ?_
      refine lf_sub (l := []) lf_sb0 ?_
      exact gm_37_p224 h
def fm_37_p52 (Q : lf_Z → Prop) (x1 : Int) (y0 : Int) (s : lf_Z) : Prop := lf_R y0 ∧ ((y0 = 0 → (fm_37_p67 Q x1 y0 s)) ∧ (¬ (y0 = 0) → (fm_37_p67 Q x1 y0 (lf_up s.1 31 7 ((s.1 31 7) + 1), s.2.1, s.2.2))))
set_option maxRecDepth 100000 in
theorem gm_37_p52 {L : Nat} {xs : Nat → Int32} {d : Nat} {Q : lf_Z → Prop} {x1 : Int} {y0 : Int} {s : lf_Z} (h : fm_37_p52 Q x1 y0 s) : lf_E (px_ro L xs) (d + 1) 37 52 [(0, .ref 31), (1, .int (Int32.ofInt x1))] [.int (Int32.ofInt y0)] s (lf_qv Q) := by
  unfold fm_37_p52 at h
  refine lf_seg 2 (pc' := 54) (lv' := [(2, .int (Int32.ofInt y0)), (0, .ref 31), (1, .int (Int32.ofInt x1))]) (st' := [.int (Int32.ofInt y0)]) rfl ?_
  obtain ⟨o23, h⟩ := h
  refine lf_if_eq 67 57 rfl rfl rfl o23 (fun c => ?_) (fun c => ?_)
  · have h := h.1 c
    refine lf_sub (l := [(0, .ref 31), (1, .int (Int32.ofInt x1)), (2, .int (Int32.ofInt y0))]) (lf_sb1 rfl (lf_sb1 rfl (lf_sb1 rfl lf_sb0))) ?_
    exact gm_37_p67 h
  · have h := h.2 c
    refine lf_seg 2 (pc' := 59) (lv' := [(2, .int (Int32.ofInt y0)), (0, .ref 31), (1, .int (Int32.ofInt x1))]) (st' := [.ref 31, .ref 31]) rfl ?_
    refine lf_getI 62 7 rfl rfl rfl rfl rfl rfl rfl ?_
    refine lf_seg 1 (pc' := 63) (lv' := [(2, .int (Int32.ofInt y0)), (0, .ref 31), (1, .int (Int32.ofInt x1))]) (st' := [.int (Int32.ofInt 1), .int (Int32.ofInt (s.1 31 7)), .ref 31]) rfl ?_
    refine lf_iadd 64 rfl rfl ?_
    refine lf_putI 67 7 rfl rfl rfl rfl rfl rfl rfl rfl ?_
    refine lf_as (lf_up s.1 31 7 ((s.1 31 7) + 1), s.2.1, s.2.2) rfl ?_
    refine lf_sub (l := [(0, .ref 31), (1, .int (Int32.ofInt x1)), (2, .int (Int32.ofInt y0))]) (lf_sb1 rfl (lf_sb1 rfl (lf_sb1 rfl lf_sb0))) ?_
    exact gm_37_p67 h
def fm_37_p51 (Q : lf_Z → Prop) (x1 : Int) (s : lf_Z) : Prop := fm_37_p52 Q x1 0 s
set_option maxRecDepth 100000 in
theorem gm_37_p51 {L : Nat} {xs : Nat → Int32} {d : Nat} {Q : lf_Z → Prop} {x1 : Int} {s : lf_Z} (h : fm_37_p51 Q x1 s) : lf_E (px_ro L xs) (d + 1) 37 51 [(0, .ref 31), (1, .int (Int32.ofInt x1))] [] s (lf_qv Q) := by
  unfold fm_37_p51 at h
  refine lf_seg 1 (pc' := 52) (lv' := [(0, .ref 31), (1, .int (Int32.ofInt x1))]) (st' := [.int (Int32.ofInt 0)]) rfl ?_
  refine lf_sub (l := [(0, .ref 31), (1, .int (Int32.ofInt x1))]) (lf_sb1 rfl (lf_sb1 rfl lf_sb0)) ?_
  exact gm_37_p52 h
def fm_37_p47 (Q : lf_Z → Prop) (x1 : Int) (s : lf_Z) : Prop := fm_37_p52 Q x1 1 s
set_option maxRecDepth 100000 in
theorem gm_37_p47 {L : Nat} {xs : Nat → Int32} {d : Nat} {Q : lf_Z → Prop} {x1 : Int} {s : lf_Z} (h : fm_37_p47 Q x1 s) : lf_E (px_ro L xs) (d + 1) 37 47 [(0, .ref 31), (1, .int (Int32.ofInt x1))] [] s (lf_qv Q) := by
  unfold fm_37_p47 at h
  refine lf_seg 2 (pc' := 52) (lv' := [(0, .ref 31), (1, .int (Int32.ofInt x1))]) (st' := [.int (Int32.ofInt 1)]) rfl ?_
  refine lf_sub (l := [(0, .ref 31), (1, .int (Int32.ofInt x1))]) (lf_sb1 rfl (lf_sb1 rfl lf_sb0)) ?_
  exact gm_37_p52 h
def fm_37 (a1 : Int) (Q : lf_Z → Prop) (s : lf_Z) : Prop := lf_R ((s.1 31 7) + 1) ∧ (lf_R (s.1 31 1) ∧ ((s.1 31 1 ≤ (s.1 31 7) + 1 → (fm_37_p51 Q a1 (lf_up s.1 31 7 ((s.1 31 7) + 1), s.2.1, s.2.2))) ∧ (¬ (s.1 31 1 ≤ (s.1 31 7) + 1) → ((0 ≤ (s.1 31 7) + 1 ∧ (s.1 31 7) + 1 < 300) ∧ (lf_R (s.1 32 ((s.1 31 7) + 1)) ∧ ((s.1 32 ((s.1 31 7) + 1) ≠ 61 → (fm_37_p51 Q a1 (lf_up s.1 31 7 ((s.1 31 7) + 1), s.2.1, s.2.2))) ∧ (¬ (s.1 32 ((s.1 31 7) + 1) ≠ 61) → (lf_R a1 ∧ ((a1 = 60 → (fm_37_p47 Q a1 (lf_up s.1 31 7 ((s.1 31 7) + 1), s.2.1, s.2.2))) ∧ (¬ (a1 = 60) → ((a1 ≠ 62 → (fm_37_p51 Q a1 (lf_up s.1 31 7 ((s.1 31 7) + 1), s.2.1, s.2.2))) ∧ (¬ (a1 ≠ 62) → (fm_37_p47 Q a1 (lf_up s.1 31 7 ((s.1 31 7) + 1), s.2.1, s.2.2))))))))))))))
set_option maxRecDepth 100000 in
theorem gm_37 {L : Nat} {xs : Nat → Int32} {d : Nat} {a1 : Int} {Q : lf_Z → Prop} {s : lf_Z} (h : fm_37 a1 Q s) : lf_M (px_ro L xs) (d + 1) 37 [.ref 31, .int (Int32.ofInt a1)] s (lf_qv Q) := by
  unfold fm_37 at h
  show lf_E (px_ro L xs) (d + 1) 37 0 [(0, .ref 31), (1, .int (Int32.ofInt a1))] [] s _
  refine lf_seg 2 (pc' := 2) (lv' := [(0, .ref 31), (1, .int (Int32.ofInt a1))]) (st' := [.ref 31, .ref 31]) rfl ?_
  refine lf_getI 5 7 rfl rfl rfl rfl rfl rfl rfl ?_
  refine lf_seg 1 (pc' := 6) (lv' := [(0, .ref 31), (1, .int (Int32.ofInt a1))]) (st' := [.int (Int32.ofInt 1), .int (Int32.ofInt (s.1 31 7)), .ref 31]) rfl ?_
  refine lf_iadd 7 rfl rfl ?_
  refine lf_putI 10 7 rfl rfl rfl rfl rfl rfl rfl rfl ?_
  refine lf_as (lf_up s.1 31 7 ((s.1 31 7) + 1), s.2.1, s.2.2) rfl ?_
  refine lf_seg 1 (pc' := 11) (lv' := [(0, .ref 31), (1, .int (Int32.ofInt a1))]) (st' := [.ref 31]) rfl ?_
  refine lf_getI 14 7 rfl rfl rfl rfl rfl rfl rfl ?_
  refine lf_seg 1 (pc' := 15) (lv' := [(0, .ref 31), (1, .int (Int32.ofInt a1))]) (st' := [.ref 31, .int (Int32.ofInt ((s.1 31 7) + 1))]) rfl ?_
  refine lf_getI 18 1 rfl rfl rfl rfl rfl rfl rfl ?_
  refine lf_seg 0 (pc' := 18) (lv' := [(0, .ref 31), (1, .int (Int32.ofInt a1))]) (st' := [.int (Int32.ofInt (s.1 31 1)), .int (Int32.ofInt ((s.1 31 7) + 1))]) rfl ?_
  obtain ⟨o21, h⟩ := h
  obtain ⟨o22, h⟩ := h
  refine lf_icmp_ge 51 21 rfl rfl rfl o21 o22 (fun c => ?_) (fun c => ?_)
  · have h := h.1 c
    refine lf_sub (l := [(0, .ref 31), (1, .int (Int32.ofInt a1))]) (lf_sb1 rfl (lf_sb1 rfl lf_sb0)) ?_
    exact gm_37_p51 h
  · have h := h.2 c
    refine lf_seg 3 (pc' := 26) (lv' := [(0, .ref 31), (1, .int (Int32.ofInt a1))]) (st' := [.ref 31, .ref 32]) rfl ?_
    refine lf_getI 29 7 rfl rfl rfl rfl rfl rfl rfl ?_
    refine lf_seg 0 (pc' := 29) (lv' := [(0, .ref 31), (1, .int (Int32.ofInt a1))]) (st' := [.int (Int32.ofInt ((s.1 31 7) + 1)), .ref 32]) rfl ?_
    obtain ⟨o27, h⟩ := h
    refine lf_iald 30 300 rfl rfl rfl rfl rfl rfl o27 ?_
    refine lf_seg 0 (pc' := 30) (lv' := [(0, .ref 31), (1, .int (Int32.ofInt a1))]) (st' := [.int (Int32.ofInt (s.1 32 ((s.1 31 7) + 1)))]) rfl ?_
    refine lf_bipush 32 61 rfl rfl (by decide) (by decide) ?_
    obtain ⟨o28, h⟩ := h
    refine lf_icmp_ne 51 35 rfl rfl rfl o28 ⟨by decide, by decide⟩ (fun c => ?_) (fun c => ?_)
    · have h := h.1 c
      refine lf_sub (l := [(0, .ref 31), (1, .int (Int32.ofInt a1))]) (lf_sb1 rfl (lf_sb1 rfl lf_sb0)) ?_
      exact gm_37_p51 h
    · have h := h.2 c
      refine lf_seg 1 (pc' := 36) (lv' := [(0, .ref 31), (1, .int (Int32.ofInt a1))]) (st' := [.int (Int32.ofInt a1)]) rfl ?_
      refine lf_bipush 38 60 rfl rfl (by decide) (by decide) ?_
      obtain ⟨o29, h⟩ := h
      refine lf_icmp_eq 47 41 rfl rfl rfl o29 ⟨by decide, by decide⟩ (fun c => ?_) (fun c => ?_)
      · have h := h.1 c
        refine lf_sub (l := [(0, .ref 31), (1, .int (Int32.ofInt a1))]) (lf_sb1 rfl (lf_sb1 rfl lf_sb0)) ?_
        exact gm_37_p47 h
      · have h := h.2 c
        refine lf_seg 1 (pc' := 42) (lv' := [(0, .ref 31), (1, .int (Int32.ofInt a1))]) (st' := [.int (Int32.ofInt a1)]) rfl ?_
        refine lf_bipush 44 62 rfl rfl (by decide) (by decide) ?_
        refine lf_icmp_ne 51 47 rfl rfl rfl o29 ⟨by decide, by decide⟩ (fun c => ?_) (fun c => ?_)
        · have h := h.1 c
          refine lf_sub (l := [(0, .ref 31), (1, .int (Int32.ofInt a1))]) (lf_sb1 rfl (lf_sb1 rfl lf_sb0)) ?_
          exact gm_37_p51 h
        · have h := h.2 c
          refine lf_sub (l := [(0, .ref 31), (1, .int (Int32.ofInt a1))]) (lf_sb1 rfl (lf_sb1 rfl lf_sb0)) ?_
          exact gm_37_p47 h
-- fm_36 Reader.wordOf 31
def fm_36_p98 (X13 : Int → Int → Int → Int → lf_Z → Prop) (Q : Int → lf_Z → Prop) (x1 : Int) (x2 : Int) (x3 : Int) (x4 : Int) (s : lf_Z) : Prop := X13 x1 x2 x3 (x4 + 1) s
set_option maxRecDepth 100000 in
theorem gm_36_p98 {L : Nat} {xs : Nat → Int32} {d : Nat} {X13 : Int → Int → Int → Int → lf_Z → Prop} {Q : Int → lf_Z → Prop} {x1 : Int} {x2 : Int} {x3 : Int} {x4 : Int} {s : lf_Z} (hX13 : ∀ x1 x2 x3 x4 s, X13 x1 x2 x3 x4 s → lf_E (px_ro L xs) (d + 1) 36 13 [(0, .ref 31), (1, .int (Int32.ofInt x1)), (2, .int (Int32.ofInt x2)), (3, .int (Int32.ofInt x3)), (4, .int (Int32.ofInt x4))] [] s (lf_qi Q)) (h : fm_36_p98 X13 Q x1 x2 x3 x4 s) : lf_E (px_ro L xs) (d + 1) 36 98 [(0, .ref 31), (1, .int (Int32.ofInt x1)), (2, .int (Int32.ofInt x2)), (3, .int (Int32.ofInt x3)), (4, .int (Int32.ofInt x4))] [] s (lf_qi Q) := by
  unfold fm_36_p98 at h
  refine lf_iinc 101 rfl rfl rfl rfl ?_
  refine lf_seg 1 (pc' := 13) (lv' := [(4, .int (Int32.ofInt (x4 + 1))), (0, .ref 31), (1, .int (Int32.ofInt x1)), (2, .int (Int32.ofInt x2)), (3, .int (Int32.ofInt x3))]) (st' := []) rfl ?_
  refine lf_sub (l := [(0, .ref 31), (1, .int (Int32.ofInt x1)), (2, .int (Int32.ofInt x2)), (3, .int (Int32.ofInt x3)), (4, .int (Int32.ofInt (x4 + 1)))]) (lf_sb1 rfl (lf_sb1 rfl (lf_sb1 rfl (lf_sb1 rfl (lf_sb1 rfl lf_sb0))))) ?_
  exact hX13 _ _ _ _ _ h
def fm_36_p88 (X13 : Int → Int → Int → Int → lf_Z → Prop) (Q : Int → lf_Z → Prop) (x1 : Int) (x4 : Int) (s : lf_Z) : Prop := fm_36_p98 X13 Q (x1 + 1) (s.1 31 9) 1 x4 s
set_option maxRecDepth 100000 in
theorem gm_36_p88 {L : Nat} {xs : Nat → Int32} {d : Nat} {X13 : Int → Int → Int → Int → lf_Z → Prop} {Q : Int → lf_Z → Prop} {x1 : Int} {x4 : Int} {s : lf_Z} (hX13 : ∀ x1 x2 x3 x4 s, X13 x1 x2 x3 x4 s → lf_E (px_ro L xs) (d + 1) 36 13 [(0, .ref 31), (1, .int (Int32.ofInt x1)), (2, .int (Int32.ofInt x2)), (3, .int (Int32.ofInt x3)), (4, .int (Int32.ofInt x4))] [] s (lf_qi Q)) (h : fm_36_p88 X13 Q x1 x4 s) : lf_E (px_ro L xs) (d + 1) 36 88 [(0, .ref 31), (1, .int (Int32.ofInt x1)), (4, .int (Int32.ofInt x4))] [] s (lf_qi Q) := by
  unfold fm_36_p88 at h
  refine lf_iinc 91 rfl rfl rfl rfl ?_
  refine lf_seg 1 (pc' := 92) (lv' := [(1, .int (Int32.ofInt (x1 + 1))), (0, .ref 31), (4, .int (Int32.ofInt x4))]) (st' := [.ref 31]) rfl ?_
  refine lf_getI 95 9 rfl rfl rfl rfl rfl rfl rfl ?_
  refine lf_seg 3 (pc' := 98) (lv' := [(3, .int (Int32.ofInt 1)), (2, .int (Int32.ofInt (s.1 31 9))), (1, .int (Int32.ofInt (x1 + 1))), (0, .ref 31), (4, .int (Int32.ofInt x4))]) (st' := []) rfl ?_
  refine lf_sub (l := [(0, .ref 31), (1, .int (Int32.ofInt (x1 + 1))), (2, .int (Int32.ofInt (s.1 31 9))), (3, .int (Int32.ofInt 1)), (4, .int (Int32.ofInt x4))]) (lf_sb1 rfl (lf_sb1 rfl (lf_sb1 rfl (lf_sb1 rfl (lf_sb1 rfl lf_sb0))))) ?_
  exact gm_36_p98 hX13 h
def fm_36_p67 (X13 : Int → Int → Int → Int → lf_Z → Prop) (Q : Int → lf_Z → Prop) (x1 : Int) (x2 : Int) (x4 : Int) (y0 : Int) (s : lf_Z) : Prop := fm_36_p98 X13 Q x1 (x2 + 1) y0 x4 s
set_option maxRecDepth 100000 in
theorem gm_36_p67 {L : Nat} {xs : Nat → Int32} {d : Nat} {X13 : Int → Int → Int → Int → lf_Z → Prop} {Q : Int → lf_Z → Prop} {x1 : Int} {x2 : Int} {x4 : Int} {y0 : Int} {s : lf_Z} (hX13 : ∀ x1 x2 x3 x4 s, X13 x1 x2 x3 x4 s → lf_E (px_ro L xs) (d + 1) 36 13 [(0, .ref 31), (1, .int (Int32.ofInt x1)), (2, .int (Int32.ofInt x2)), (3, .int (Int32.ofInt x3)), (4, .int (Int32.ofInt x4))] [] s (lf_qi Q)) (h : fm_36_p67 X13 Q x1 x2 x4 y0 s) : lf_E (px_ro L xs) (d + 1) 36 67 [(0, .ref 31), (1, .int (Int32.ofInt x1)), (2, .int (Int32.ofInt x2)), (4, .int (Int32.ofInt x4))] [.int (Int32.ofInt y0)] s (lf_qi Q) := by
  unfold fm_36_p67 at h
  refine lf_seg 1 (pc' := 68) (lv' := [(3, .int (Int32.ofInt y0)), (0, .ref 31), (1, .int (Int32.ofInt x1)), (2, .int (Int32.ofInt x2)), (4, .int (Int32.ofInt x4))]) (st' := []) rfl ?_
  refine lf_iinc 71 rfl rfl rfl rfl ?_
  refine lf_seg 1 (pc' := 98) (lv' := [(2, .int (Int32.ofInt (x2 + 1))), (3, .int (Int32.ofInt y0)), (0, .ref 31), (1, .int (Int32.ofInt x1)), (4, .int (Int32.ofInt x4))]) (st' := []) rfl ?_
  refine lf_sub (l := [(0, .ref 31), (1, .int (Int32.ofInt x1)), (2, .int (Int32.ofInt (x2 + 1))), (3, .int (Int32.ofInt y0)), (4, .int (Int32.ofInt x4))]) (lf_sb1 rfl (lf_sb1 rfl (lf_sb1 rfl (lf_sb1 rfl (lf_sb1 rfl lf_sb0))))) ?_
  exact gm_36_p98 hX13 h
def fm_36_p66 (X13 : Int → Int → Int → Int → lf_Z → Prop) (Q : Int → lf_Z → Prop) (x1 : Int) (x2 : Int) (x4 : Int) (s : lf_Z) : Prop := fm_36_p67 X13 Q x1 x2 x4 0 s
set_option maxRecDepth 100000 in
theorem gm_36_p66 {L : Nat} {xs : Nat → Int32} {d : Nat} {X13 : Int → Int → Int → Int → lf_Z → Prop} {Q : Int → lf_Z → Prop} {x1 : Int} {x2 : Int} {x4 : Int} {s : lf_Z} (hX13 : ∀ x1 x2 x3 x4 s, X13 x1 x2 x3 x4 s → lf_E (px_ro L xs) (d + 1) 36 13 [(0, .ref 31), (1, .int (Int32.ofInt x1)), (2, .int (Int32.ofInt x2)), (3, .int (Int32.ofInt x3)), (4, .int (Int32.ofInt x4))] [] s (lf_qi Q)) (h : fm_36_p66 X13 Q x1 x2 x4 s) : lf_E (px_ro L xs) (d + 1) 36 66 [(0, .ref 31), (1, .int (Int32.ofInt x1)), (2, .int (Int32.ofInt x2)), (4, .int (Int32.ofInt x4))] [] s (lf_qi Q) := by
  unfold fm_36_p66 at h
  refine lf_seg 1 (pc' := 67) (lv' := [(0, .ref 31), (1, .int (Int32.ofInt x1)), (2, .int (Int32.ofInt x2)), (4, .int (Int32.ofInt x4))]) (st' := [.int (Int32.ofInt 0)]) rfl ?_
  refine lf_sub (l := [(0, .ref 31), (1, .int (Int32.ofInt x1)), (2, .int (Int32.ofInt x2)), (4, .int (Int32.ofInt x4))]) (lf_sb1 rfl (lf_sb1 rfl (lf_sb1 rfl (lf_sb1 rfl lf_sb0)))) ?_
  exact gm_36_p67 hX13 h
def fm_36_p13 (Q : Int → lf_Z → Prop) (X13 : Int → Int → Int → Int → lf_Z → Prop) (x1 : Int) (x2 : Int) (x3 : Int) (x4 : Int) (s : lf_Z) : Prop := lf_R x4 ∧ ((180 ≤ x4 → (Q 1 s)) ∧ (¬ (180 ≤ x4) → ((0 ≤ x4 ∧ x4 < 180) ∧ (((ps_byt.getD (x4).toNat 0).toInt = 32 → (lf_R x3 ∧ ((x3 = 0 → (fm_36_p88 X13 Q x1 x4 s)) ∧ (¬ (x3 = 0) → (lf_R x2 ∧ (lf_R (s.1 31 7) ∧ ((x2 ≠ s.1 31 7 → (fm_36_p88 X13 Q x1 x4 s)) ∧ (¬ (x2 ≠ s.1 31 7) → (Q x1 s))))))))) ∧ (¬ ((ps_byt.getD (x4).toNat 0).toInt = 32) → (lf_R x3 ∧ ((x3 = 0 → (fm_36_p66 X13 Q x1 x2 x4 s)) ∧ (¬ (x3 = 0) → (lf_R x2 ∧ (lf_R (s.1 31 7) ∧ ((s.1 31 7 ≤ x2 → (fm_36_p66 X13 Q x1 x2 x4 s)) ∧ (¬ (s.1 31 7 ≤ x2) → ((0 ≤ x2 ∧ x2 < 300) ∧ (lf_R (s.1 32 x2) ∧ ((s.1 32 x2 ≠ (ps_byt.getD (x4).toNat 0).toInt → (fm_36_p66 X13 Q x1 x2 x4 s)) ∧ (¬ (s.1 32 x2 ≠ (ps_byt.getD (x4).toNat 0).toInt) → (fm_36_p67 X13 Q x1 x2 x4 1 s)))))))))))))))))
def fm_36_p13L (Q : Int → lf_Z → Prop) (x1 : Int) (x2 : Int) (x3 : Int) (x4 : Int) (s : lf_Z) : Prop := ∀ X13 : Int → Int → Int → Int → lf_Z → Prop, (∀ (x1 : Int) (x2 : Int) (x3 : Int) (x4 : Int) (s : lf_Z), fm_36_p13 Q X13 x1 x2 x3 x4 s → X13 x1 x2 x3 x4 s) → X13 x1 x2 x3 x4 s
set_option maxRecDepth 100000 in
theorem gm_36_p13 {L : Nat} {xs : Nat → Int32} {d : Nat} {Q : Int → lf_Z → Prop} {x1 : Int} {x2 : Int} {x3 : Int} {x4 : Int} {s : lf_Z} {X13 : Int → Int → Int → Int → lf_Z → Prop} (hX13 : ∀ x1 x2 x3 x4 s, X13 x1 x2 x3 x4 s → lf_E (px_ro L xs) (d + 1) 36 13 [(0, .ref 31), (1, .int (Int32.ofInt x1)), (2, .int (Int32.ofInt x2)), (3, .int (Int32.ofInt x3)), (4, .int (Int32.ofInt x4))] [] s (lf_qi Q)) (h : fm_36_p13 Q X13 x1 x2 x3 x4 s) : lf_E (px_ro L xs) (d + 1) 36 13 [(0, .ref 31), (1, .int (Int32.ofInt x1)), (2, .int (Int32.ofInt x2)), (3, .int (Int32.ofInt x3)), (4, .int (Int32.ofInt x4))] [] s (lf_qi Q) := by
  unfold fm_36_p13 at h
  refine lf_seg 1 (pc' := 15) (lv' := [(0, .ref 31), (1, .int (Int32.ofInt x1)), (2, .int (Int32.ofInt x2)), (3, .int (Int32.ofInt x3)), (4, .int (Int32.ofInt x4))]) (st' := [.int (Int32.ofInt x4)]) rfl ?_
  refine lf_ldcS 17 rfl rfl rfl ?_
  refine lf_strlen 20 rfl rfl rfl rfl rfl ?_
  obtain ⟨o21, h⟩ := h
  refine lf_icmp_ge 104 23 rfl rfl rfl o21 ⟨by decide, by decide⟩ (fun c => ?_) (fun c => ?_)
  · have h := h.1 c
    refine lf_seg 1 (pc' := 105) (lv' := [(0, .ref 31), (1, .int (Int32.ofInt x1)), (2, .int (Int32.ofInt x2)), (3, .int (Int32.ofInt x3)), (4, .int (Int32.ofInt x4))]) (st' := [.int (Int32.ofInt 1)]) rfl ?_
    exact lf_retI rfl rfl h
  · have h := h.2 c
    refine lf_ldcS 25 rfl rfl rfl ?_
    refine lf_seg 1 (pc' := 27) (lv' := [(0, .ref 31), (1, .int (Int32.ofInt x1)), (2, .int (Int32.ofInt x2)), (3, .int (Int32.ofInt x3)), (4, .int (Int32.ofInt x4))]) (st' := [.int (Int32.ofInt x4), .ref (px_SC + 3)]) rfl ?_
    obtain ⟨o22, h⟩ := h
    refine lf_strat 30 rfl rfl rfl rfl rfl rfl o22 ?_
    refine lf_seg 2 (pc' := 34) (lv' := [(5, .int (Int32.ofInt ((ps_byt.getD (x4).toNat 0).toInt))), (0, .ref 31), (1, .int (Int32.ofInt x1)), (2, .int (Int32.ofInt x2)), (3, .int (Int32.ofInt x3)), (4, .int (Int32.ofInt x4))]) (st' := [.int (Int32.ofInt ((ps_byt.getD (x4).toNat 0).toInt))]) rfl ?_
    refine lf_bipush 36 32 rfl rfl (by decide) (by decide) ?_
    refine lf_icmp_eq 74 39 rfl rfl rfl (lf_R_i _) ⟨by decide, by decide⟩ (fun c => ?_) (fun c => ?_)
    · have h := h.1 c
      refine lf_seg 1 (pc' := 75) (lv' := [(5, .int (Int32.ofInt ((ps_byt.getD (x4).toNat 0).toInt))), (0, .ref 31), (1, .int (Int32.ofInt x1)), (2, .int (Int32.ofInt x2)), (3, .int (Int32.ofInt x3)), (4, .int (Int32.ofInt x4))]) (st' := [.int (Int32.ofInt x3)]) rfl ?_
      obtain ⟨o23, h⟩ := h
      refine lf_if_eq 88 78 rfl rfl rfl o23 (fun c => ?_) (fun c => ?_)
      · have h := h.1 c
        refine lf_sub (l := [(0, .ref 31), (1, .int (Int32.ofInt x1)), (4, .int (Int32.ofInt x4))]) (lf_sb1 rfl (lf_sb1 rfl (lf_sb1 rfl lf_sb0))) ?_
        exact gm_36_p88 hX13 h
      · have h := h.2 c
        refine lf_seg 2 (pc' := 80) (lv' := [(5, .int (Int32.ofInt ((ps_byt.getD (x4).toNat 0).toInt))), (0, .ref 31), (1, .int (Int32.ofInt x1)), (2, .int (Int32.ofInt x2)), (3, .int (Int32.ofInt x3)), (4, .int (Int32.ofInt x4))]) (st' := [.ref 31, .int (Int32.ofInt x2)]) rfl ?_
        refine lf_getI 83 7 rfl rfl rfl rfl rfl rfl rfl ?_
        obtain ⟨o24, h⟩ := h
        obtain ⟨o25, h⟩ := h
        refine lf_icmp_ne 88 86 rfl rfl rfl o24 o25 (fun c => ?_) (fun c => ?_)
        · have h := h.1 c
          refine lf_sub (l := [(0, .ref 31), (1, .int (Int32.ofInt x1)), (4, .int (Int32.ofInt x4))]) (lf_sb1 rfl (lf_sb1 rfl (lf_sb1 rfl lf_sb0))) ?_
          exact gm_36_p88 hX13 h
        · have h := h.2 c
          refine lf_seg 1 (pc' := 87) (lv' := [(5, .int (Int32.ofInt ((ps_byt.getD (x4).toNat 0).toInt))), (0, .ref 31), (1, .int (Int32.ofInt x1)), (2, .int (Int32.ofInt x2)), (3, .int (Int32.ofInt x3)), (4, .int (Int32.ofInt x4))]) (st' := [.int (Int32.ofInt x1)]) rfl ?_
          exact lf_retI rfl rfl h
    · have h := h.2 c
      refine lf_seg 1 (pc' := 40) (lv' := [(5, .int (Int32.ofInt ((ps_byt.getD (x4).toNat 0).toInt))), (0, .ref 31), (1, .int (Int32.ofInt x1)), (2, .int (Int32.ofInt x2)), (3, .int (Int32.ofInt x3)), (4, .int (Int32.ofInt x4))]) (st' := [.int (Int32.ofInt x3)]) rfl ?_
      obtain ⟨o26, h⟩ := h
      refine lf_if_eq 66 43 rfl rfl rfl o26 (fun c => ?_) (fun c => ?_)
      · have h := h.1 c
        refine lf_sub (l := [(0, .ref 31), (1, .int (Int32.ofInt x1)), (2, .int (Int32.ofInt x2)), (4, .int (Int32.ofInt x4))]) (lf_sb1 rfl (lf_sb1 rfl (lf_sb1 rfl (lf_sb1 rfl lf_sb0)))) ?_
        exact gm_36_p66 hX13 h
      · have h := h.2 c
        refine lf_seg 2 (pc' := 45) (lv' := [(5, .int (Int32.ofInt ((ps_byt.getD (x4).toNat 0).toInt))), (0, .ref 31), (1, .int (Int32.ofInt x1)), (2, .int (Int32.ofInt x2)), (3, .int (Int32.ofInt x3)), (4, .int (Int32.ofInt x4))]) (st' := [.ref 31, .int (Int32.ofInt x2)]) rfl ?_
        refine lf_getI 48 7 rfl rfl rfl rfl rfl rfl rfl ?_
        obtain ⟨o27, h⟩ := h
        obtain ⟨o28, h⟩ := h
        refine lf_icmp_ge 66 51 rfl rfl rfl o27 o28 (fun c => ?_) (fun c => ?_)
        · have h := h.1 c
          refine lf_sub (l := [(0, .ref 31), (1, .int (Int32.ofInt x1)), (2, .int (Int32.ofInt x2)), (4, .int (Int32.ofInt x4))]) (lf_sb1 rfl (lf_sb1 rfl (lf_sb1 rfl (lf_sb1 rfl lf_sb0)))) ?_
          exact gm_36_p66 hX13 h
        · have h := h.2 c
          refine lf_seg 3 (pc' := 56) (lv' := [(5, .int (Int32.ofInt ((ps_byt.getD (x4).toNat 0).toInt))), (0, .ref 31), (1, .int (Int32.ofInt x1)), (2, .int (Int32.ofInt x2)), (3, .int (Int32.ofInt x3)), (4, .int (Int32.ofInt x4))]) (st' := [.int (Int32.ofInt x2), .ref 32]) rfl ?_
          obtain ⟨o29, h⟩ := h
          refine lf_iald 57 300 rfl rfl rfl rfl rfl rfl o29 ?_
          refine lf_seg 1 (pc' := 59) (lv' := [(5, .int (Int32.ofInt ((ps_byt.getD (x4).toNat 0).toInt))), (0, .ref 31), (1, .int (Int32.ofInt x1)), (2, .int (Int32.ofInt x2)), (3, .int (Int32.ofInt x3)), (4, .int (Int32.ofInt x4))]) (st' := [.int (Int32.ofInt ((ps_byt.getD (x4).toNat 0).toInt)), .int (Int32.ofInt (s.1 32 x2))]) rfl ?_
          obtain ⟨o30, h⟩ := h
          refine lf_icmp_ne 66 62 rfl rfl rfl o30 (lf_R_i _) (fun c => ?_) (fun c => ?_)
          · have h := h.1 c
            refine lf_sub (l := [(0, .ref 31), (1, .int (Int32.ofInt x1)), (2, .int (Int32.ofInt x2)), (4, .int (Int32.ofInt x4))]) (lf_sb1 rfl (lf_sb1 rfl (lf_sb1 rfl (lf_sb1 rfl lf_sb0)))) ?_
            exact gm_36_p66 hX13 h
          · have h := h.2 c
            refine lf_seg 2 (pc' := 67) (lv' := [(5, .int (Int32.ofInt ((ps_byt.getD (x4).toNat 0).toInt))), (0, .ref 31), (1, .int (Int32.ofInt x1)), (2, .int (Int32.ofInt x2)), (3, .int (Int32.ofInt x3)), (4, .int (Int32.ofInt x4))]) (st' := [.int (Int32.ofInt 1)]) rfl ?_
            refine lf_sub (l := [(0, .ref 31), (1, .int (Int32.ofInt x1)), (2, .int (Int32.ofInt x2)), (4, .int (Int32.ofInt x4))]) (lf_sb1 rfl (lf_sb1 rfl (lf_sb1 rfl (lf_sb1 rfl lf_sb0)))) ?_
            exact gm_36_p67 hX13 h
theorem gm_36_p13L {L : Nat} {xs : Nat → Int32} {d : Nat} {Q : Int → lf_Z → Prop} {x1 : Int} {x2 : Int} {x3 : Int} {x4 : Int} {s : lf_Z} (h : fm_36_p13L Q x1 x2 x3 x4 s) : lf_E (px_ro L xs) (d + 1) 36 13 [(0, .ref 31), (1, .int (Int32.ofInt x1)), (2, .int (Int32.ofInt x2)), (3, .int (Int32.ofInt x3)), (4, .int (Int32.ofInt x4))] [] s (lf_qi Q) :=
  h (fun x1 x2 x3 x4 s => lf_E (px_ro L xs) (d + 1) 36 13 [(0, .ref 31), (1, .int (Int32.ofInt x1)), (2, .int (Int32.ofInt x2)), (3, .int (Int32.ofInt x3)), (4, .int (Int32.ofInt x4))] [] s (lf_qi Q)) (fun x1 x2 x3 x4 s hb => gm_36_p13 (fun _ _ _ _ _ h => h) hb)
def fm_36 (Q : Int → lf_Z → Prop) (s : lf_Z) : Prop := fm_36_p13L Q 20 (s.1 31 9) 1 0 s
set_option maxRecDepth 100000 in
theorem gm_36 {L : Nat} {xs : Nat → Int32} {d : Nat} {Q : Int → lf_Z → Prop} {s : lf_Z} (h : fm_36 Q s) : lf_M (px_ro L xs) (d + 1) 36 [.ref 31] s (lf_qi Q) := by
  unfold fm_36 at h
  show lf_E (px_ro L xs) (d + 1) 36 0 [(0, .ref 31)] [] s _
  refine lf_bipush 2 20 rfl rfl (by decide) (by decide) ?_
  refine lf_seg 2 (pc' := 4) (lv' := [(1, .int (Int32.ofInt 20)), (0, .ref 31)]) (st' := [.ref 31]) rfl ?_
  refine lf_getI 7 9 rfl rfl rfl rfl rfl rfl rfl ?_
  refine lf_seg 5 (pc' := 13) (lv' := [(4, .int (Int32.ofInt 0)), (3, .int (Int32.ofInt 1)), (2, .int (Int32.ofInt (s.1 31 9))), (1, .int (Int32.ofInt 20)), (0, .ref 31)]) (st' := []) rfl ?_
  refine lf_sub (l := [(0, .ref 31), (1, .int (Int32.ofInt 20)), (2, .int (Int32.ofInt (s.1 31 9))), (3, .int (Int32.ofInt 1)), (4, .int (Int32.ofInt 0))]) (lf_sb1 rfl (lf_sb1 rfl (lf_sb1 rfl (lf_sb1 rfl (lf_sb1 rfl lf_sb0))))) ?_
  exact gm_36_p13L h
-- fm_35 Reader.scanWord 31
def fm_35_p90 (Q : lf_Z → Prop) (s : lf_Z) : Prop := fm_36 (fun r26 s25 => (Q (lf_up s25.1 31 8 r26, s25.2.1, s25.2.2))) s
set_option maxRecDepth 100000 in
theorem gm_35_p90 {L : Nat} {xs : Nat → Int32} {d : Nat} {Q : lf_Z → Prop} {s : lf_Z} (h : fm_35_p90 Q s) : lf_E (px_ro L xs) (d + 2) 35 90 [(0, .ref 31)] [] s (lf_qv Q) := by
  unfold fm_35_p90 at h
  refine lf_seg 2 (pc' := 92) (lv' := [(0, .ref 31)]) (st' := [.ref 31, .ref 31]) rfl ?_
  refine lf_callI 95 rfl rfl rfl rfl (gm_36 h) (fun r26 s25 h => ?_)
  refine lf_putI 98 8 rfl rfl rfl rfl rfl rfl rfl rfl ?_
  refine lf_as (lf_up s25.1 31 8 r26, s25.2.1, s25.2.2) rfl ?_
  exact lf_retV rfl rfl h
def fm_35_p39 (Q : lf_Z → Prop) (s : lf_Z) : Prop := lf_R (s.1 31 7) ∧ (lf_R ((s.1 31 9) + 1) ∧ ((s.1 31 7 ≠ (s.1 31 9) + 1 → (fm_35_p90 Q s)) ∧ (¬ (s.1 31 7 ≠ (s.1 31 9) + 1) → ((0 ≤ s.1 31 9 ∧ s.1 31 9 < 300) ∧ (lf_R (s.1 32 (s.1 31 9)) ∧ ((s.1 32 (s.1 31 9) < 97 → (fm_35_p90 Q s)) ∧ (¬ (s.1 32 (s.1 31 9) < 97) → (Q (lf_up (lf_up s.1 31 8 3) 31 10 ((s.1 32 (s.1 31 9)) - 97), s.2.1, s.2.2)))))))))
set_option maxRecDepth 100000 in
theorem gm_35_p39 {L : Nat} {xs : Nat → Int32} {d : Nat} {Q : lf_Z → Prop} {s : lf_Z} (h : fm_35_p39 Q s) : lf_E (px_ro L xs) (d + 2) 35 39 [(0, .ref 31)] [] s (lf_qv Q) := by
  unfold fm_35_p39 at h
  refine lf_seg 1 (pc' := 40) (lv' := [(0, .ref 31)]) (st' := [.ref 31]) rfl ?_
  refine lf_getI 43 7 rfl rfl rfl rfl rfl rfl rfl ?_
  refine lf_seg 1 (pc' := 44) (lv' := [(0, .ref 31)]) (st' := [.ref 31, .int (Int32.ofInt (s.1 31 7))]) rfl ?_
  refine lf_getI 47 9 rfl rfl rfl rfl rfl rfl rfl ?_
  refine lf_seg 1 (pc' := 48) (lv' := [(0, .ref 31)]) (st' := [.int (Int32.ofInt 1), .int (Int32.ofInt (s.1 31 9)), .int (Int32.ofInt (s.1 31 7))]) rfl ?_
  refine lf_iadd 49 rfl rfl ?_
  obtain ⟨o23, h⟩ := h
  obtain ⟨o24, h⟩ := h
  refine lf_icmp_ne 90 52 rfl rfl rfl o23 o24 (fun c => ?_) (fun c => ?_)
  · have h := h.1 c
    refine lf_sub (l := [(0, .ref 31)]) (lf_sb1 rfl lf_sb0) ?_
    exact gm_35_p90 h
  · have h := h.2 c
    refine lf_seg 3 (pc' := 57) (lv' := [(0, .ref 31)]) (st' := [.ref 31, .ref 32]) rfl ?_
    refine lf_getI 60 9 rfl rfl rfl rfl rfl rfl rfl ?_
    obtain ⟨o27, h⟩ := h
    refine lf_iald 61 300 rfl rfl rfl rfl rfl rfl o27 ?_
    refine lf_bipush 63 97 rfl rfl (by decide) (by decide) ?_
    obtain ⟨o28, h⟩ := h
    refine lf_icmp_lt 90 66 rfl rfl rfl o28 ⟨by decide, by decide⟩ (fun c => ?_) (fun c => ?_)
    · have h := h.1 c
      refine lf_sub (l := [(0, .ref 31)]) (lf_sb1 rfl lf_sb0) ?_
      exact gm_35_p90 h
    · have h := h.2 c
      refine lf_seg 2 (pc' := 68) (lv' := [(0, .ref 31)]) (st' := [.int (Int32.ofInt 3), .ref 31]) rfl ?_
      refine lf_putI 71 8 rfl rfl rfl rfl rfl rfl rfl rfl ?_
      refine lf_as (lf_up s.1 31 8 3, s.2.1, s.2.2) rfl ?_
      refine lf_seg 4 (pc' := 77) (lv' := [(0, .ref 31)]) (st' := [.ref 31, .ref 32, .ref 31]) rfl ?_
      refine lf_getI 80 9 rfl rfl rfl rfl rfl rfl rfl ?_
      refine lf_seg 0 (pc' := 80) (lv' := [(0, .ref 31)]) (st' := [.int (Int32.ofInt (s.1 31 9)), .ref 32, .ref 31]) rfl ?_
      refine lf_iald 81 300 rfl rfl rfl rfl rfl rfl o27 ?_
      refine lf_seg 0 (pc' := 81) (lv' := [(0, .ref 31)]) (st' := [.int (Int32.ofInt (s.1 32 (s.1 31 9))), .ref 31]) rfl ?_
      refine lf_bipush 83 97 rfl rfl (by decide) (by decide) ?_
      refine lf_isub 84 rfl rfl ?_
      refine lf_putI 87 10 rfl rfl rfl rfl rfl rfl rfl rfl ?_
      refine lf_as (lf_up (lf_up s.1 31 8 3) 31 10 ((s.1 32 (s.1 31 9)) - 97), s.2.1, s.2.2) rfl ?_
      refine lf_seg 1 (pc' := 98) (lv' := [(0, .ref 31)]) (st' := []) rfl ?_
      exact lf_retV rfl rfl h
def fm_35_p0 (Q : lf_Z → Prop) (X0 : lf_Z → Prop) (s : lf_Z) : Prop := lf_R (s.1 31 7) ∧ (lf_R (s.1 31 1) ∧ ((s.1 31 1 ≤ s.1 31 7 → (fm_35_p39 Q s)) ∧ (¬ (s.1 31 1 ≤ s.1 31 7) → ((0 ≤ s.1 31 7 ∧ s.1 31 7 < 300) ∧ (fm_34 (s.1 32 (s.1 31 7)) (fun z31 s30 => ((z31 = false → (fm_35_p39 Q s30)) ∧ (z31 = true → (X0 (lf_up s30.1 31 7 ((s30.1 31 7) + 1), s30.2.1, s30.2.2))))) s)))))
def fm_35_p0L (Q : lf_Z → Prop) (s : lf_Z) : Prop := ∀ X0 : lf_Z → Prop, (∀ (s : lf_Z), fm_35_p0 Q X0 s → X0 s) → X0 s
set_option maxRecDepth 100000 in
theorem gm_35_p0 {L : Nat} {xs : Nat → Int32} {d : Nat} {Q : lf_Z → Prop} {s : lf_Z} {X0 : lf_Z → Prop} (hX0 : ∀ s, X0 s → lf_E (px_ro L xs) (d + 2) 35 0 [(0, .ref 31)] [] s (lf_qv Q)) (h : fm_35_p0 Q X0 s) : lf_E (px_ro L xs) (d + 2) 35 0 [(0, .ref 31)] [] s (lf_qv Q) := by
  unfold fm_35_p0 at h
  refine lf_seg 1 (pc' := 1) (lv' := [(0, .ref 31)]) (st' := [.ref 31]) rfl ?_
  refine lf_getI 4 7 rfl rfl rfl rfl rfl rfl rfl ?_
  refine lf_seg 1 (pc' := 5) (lv' := [(0, .ref 31)]) (st' := [.ref 31, .int (Int32.ofInt (s.1 31 7))]) rfl ?_
  refine lf_getI 8 1 rfl rfl rfl rfl rfl rfl rfl ?_
  obtain ⟨o21, h⟩ := h
  obtain ⟨o22, h⟩ := h
  refine lf_icmp_ge 39 11 rfl rfl rfl o21 o22 (fun c => ?_) (fun c => ?_)
  · have h := h.1 c
    refine lf_sub (l := [(0, .ref 31)]) (lf_sb1 rfl lf_sb0) ?_
    exact gm_35_p39 h
  · have h := h.2 c
    refine lf_seg 3 (pc' := 16) (lv' := [(0, .ref 31)]) (st' := [.ref 31, .ref 32]) rfl ?_
    refine lf_getI 19 7 rfl rfl rfl rfl rfl rfl rfl ?_
    obtain ⟨o29, h⟩ := h
    refine lf_iald 20 300 rfl rfl rfl rfl rfl rfl o29 ?_
    refine lf_callZ 23 rfl rfl rfl rfl (gm_34 h) (fun z31 s30 h => ?_)
    refine lf_ifz_eq 39 26 rfl rfl rfl (fun c => ?_) (fun c => ?_)
    · have h := h.1 c
      refine lf_sub (l := [(0, .ref 31)]) (lf_sb1 rfl lf_sb0) ?_
      exact gm_35_p39 h
    · have h := h.2 c
      refine lf_seg 2 (pc' := 28) (lv' := [(0, .ref 31)]) (st' := [.ref 31, .ref 31]) rfl ?_
      refine lf_getI 31 7 rfl rfl rfl rfl rfl rfl rfl ?_
      refine lf_seg 1 (pc' := 32) (lv' := [(0, .ref 31)]) (st' := [.int (Int32.ofInt 1), .int (Int32.ofInt (s30.1 31 7)), .ref 31]) rfl ?_
      refine lf_iadd 33 rfl rfl ?_
      refine lf_putI 36 7 rfl rfl rfl rfl rfl rfl rfl rfl ?_
      refine lf_as (lf_up s30.1 31 7 ((s30.1 31 7) + 1), s30.2.1, s30.2.2) rfl ?_
      refine lf_seg 1 (pc' := 0) (lv' := [(0, .ref 31)]) (st' := []) rfl ?_
      refine lf_sub (l := [(0, .ref 31)]) (lf_sb1 rfl lf_sb0) ?_
      exact hX0 _ h
theorem gm_35_p0L {L : Nat} {xs : Nat → Int32} {d : Nat} {Q : lf_Z → Prop} {s : lf_Z} (h : fm_35_p0L Q s) : lf_E (px_ro L xs) (d + 2) 35 0 [(0, .ref 31)] [] s (lf_qv Q) :=
  h (fun s => lf_E (px_ro L xs) (d + 2) 35 0 [(0, .ref 31)] [] s (lf_qv Q)) (fun s hb => gm_35_p0 (fun _ h => h) hb)
def fm_35 (Q : lf_Z → Prop) (s : lf_Z) : Prop := fm_35_p0L Q s
set_option maxRecDepth 100000 in
theorem gm_35 {L : Nat} {xs : Nat → Int32} {d : Nat} {Q : lf_Z → Prop} {s : lf_Z} (h : fm_35 Q s) : lf_M (px_ro L xs) (d + 2) 35 [.ref 31] s (lf_qv Q) := by
  unfold fm_35 at h
  show lf_E (px_ro L xs) (d + 2) 35 0 [(0, .ref 31)] [] s _
  refine lf_sub (l := [(0, .ref 31)]) (lf_sb1 rfl lf_sb0) ?_
  exact gm_35_p0L h
-- fm_33 Reader.scanNumber 31
def fm_33_p10 (Q : lf_Z → Prop) (X10 : lf_Z → Prop) (s : lf_Z) : Prop := lf_R (s.1 31 7) ∧ (lf_R (s.1 31 1) ∧ ((s.1 31 1 ≤ s.1 31 7 → (Q s)) ∧ (¬ (s.1 31 1 ≤ s.1 31 7) → ((0 ≤ s.1 31 7 ∧ s.1 31 7 < 300) ∧ (fm_32 (s.1 32 (s.1 31 7)) (fun z25 s24 => ((z25 = false → (Q s24)) ∧ (z25 = true → ((0 ≤ s24.1 31 7 ∧ s24.1 31 7 < 300) ∧ (X10 (lf_up (lf_up s24.1 31 10 (min 10000 (lf_w ((lf_w ((lf_w ((s24.1 31 10) * 10)) + (s24.1 32 (s24.1 31 7)))) - 48)))) 31 7 ((s24.1 31 7) + 1), s24.2.1, s24.2.2)))))) s)))))
def fm_33_p10L (Q : lf_Z → Prop) (s : lf_Z) : Prop := ∀ X10 : lf_Z → Prop, (∀ (s : lf_Z), fm_33_p10 Q X10 s → X10 s) → X10 s
set_option maxRecDepth 100000 in
theorem gm_33_p10 {L : Nat} {xs : Nat → Int32} {d : Nat} {Q : lf_Z → Prop} {s : lf_Z} {X10 : lf_Z → Prop} (hX10 : ∀ s, X10 s → lf_E (px_ro L xs) (d + 2) 33 10 [(0, .ref 31)] [] s (lf_qv Q)) (h : fm_33_p10 Q X10 s) : lf_E (px_ro L xs) (d + 2) 33 10 [(0, .ref 31)] [] s (lf_qv Q) := by
  unfold fm_33_p10 at h
  refine lf_seg 1 (pc' := 11) (lv' := [(0, .ref 31)]) (st' := [.ref 31]) rfl ?_
  refine lf_getI 14 7 rfl rfl rfl rfl rfl rfl rfl ?_
  refine lf_seg 1 (pc' := 15) (lv' := [(0, .ref 31)]) (st' := [.ref 31, .int (Int32.ofInt (s.1 31 7))]) rfl ?_
  refine lf_getI 18 1 rfl rfl rfl rfl rfl rfl rfl ?_
  obtain ⟨o21, h⟩ := h
  obtain ⟨o22, h⟩ := h
  refine lf_icmp_ge 79 21 rfl rfl rfl o21 o22 (fun c => ?_) (fun c => ?_)
  · have h := h.1 c
    exact lf_retV rfl rfl h
  · have h := h.2 c
    refine lf_seg 3 (pc' := 26) (lv' := [(0, .ref 31)]) (st' := [.ref 31, .ref 32]) rfl ?_
    refine lf_getI 29 7 rfl rfl rfl rfl rfl rfl rfl ?_
    obtain ⟨o23, h⟩ := h
    refine lf_iald 30 300 rfl rfl rfl rfl rfl rfl o23 ?_
    refine lf_callZ 33 rfl rfl rfl rfl (gm_32 h) (fun z25 s24 h => ?_)
    refine lf_ifz_eq 79 36 rfl rfl rfl (fun c => ?_) (fun c => ?_)
    · have h := h.1 c
      exact lf_retV rfl rfl h
    · have h := h.2 c
      refine lf_seg 1 (pc' := 37) (lv' := [(0, .ref 31)]) (st' := [.ref 31]) rfl ?_
      refine lf_sipush 40 10000 rfl rfl (by decide) (by decide) ?_
      refine lf_seg 1 (pc' := 41) (lv' := [(0, .ref 31)]) (st' := [.ref 31, .int (Int32.ofInt 10000), .ref 31]) rfl ?_
      refine lf_getI 44 10 rfl rfl rfl rfl rfl rfl rfl ?_
      refine lf_bipush 46 10 rfl rfl (by decide) (by decide) ?_
      refine lf_imul 47 rfl rfl ?_
      refine lf_wtI ?_
      refine lf_seg 3 (pc' := 52) (lv' := [(0, .ref 31)]) (st' := [.ref 31, .ref 32, .int (Int32.ofInt (lf_w ((s24.1 31 10) * 10))), .int (Int32.ofInt 10000), .ref 31]) rfl ?_
      refine lf_getI 55 7 rfl rfl rfl rfl rfl rfl rfl ?_
      obtain ⟨o26, h⟩ := h
      refine lf_iald 56 300 rfl rfl rfl rfl rfl rfl o26 ?_
      refine lf_iadd 57 rfl rfl ?_
      refine lf_wtI ?_
      refine lf_bipush 59 48 rfl rfl (by decide) (by decide) ?_
      refine lf_isub 60 rfl rfl ?_
      refine lf_wtI ?_
      refine lf_imin 63 rfl rfl rfl rfl ⟨by decide, by decide⟩ lf_Rw ?_
      refine lf_putI 66 10 rfl rfl rfl rfl rfl rfl rfl rfl ?_
      refine lf_as (lf_up s24.1 31 10 (min 10000 (lf_w ((lf_w ((lf_w ((s24.1 31 10) * 10)) + (s24.1 32 (s24.1 31 7)))) - 48))), s24.2.1, s24.2.2) rfl ?_
      refine lf_seg 2 (pc' := 68) (lv' := [(0, .ref 31)]) (st' := [.ref 31, .ref 31]) rfl ?_
      refine lf_getI 71 7 rfl rfl rfl rfl rfl rfl rfl ?_
      refine lf_seg 1 (pc' := 72) (lv' := [(0, .ref 31)]) (st' := [.int (Int32.ofInt 1), .int (Int32.ofInt (s24.1 31 7)), .ref 31]) rfl ?_
      refine lf_iadd 73 rfl rfl ?_
      refine lf_putI 76 7 rfl rfl rfl rfl rfl rfl rfl rfl ?_
      refine lf_as (lf_up (lf_up s24.1 31 10 (min 10000 (lf_w ((lf_w ((lf_w ((s24.1 31 10) * 10)) + (s24.1 32 (s24.1 31 7)))) - 48)))) 31 7 ((s24.1 31 7) + 1), s24.2.1, s24.2.2) rfl ?_
      refine lf_seg 1 (pc' := 10) (lv' := [(0, .ref 31)]) (st' := []) rfl ?_
      refine lf_sub (l := [(0, .ref 31)]) (lf_sb1 rfl lf_sb0) ?_
      exact hX10 _ h
theorem gm_33_p10L {L : Nat} {xs : Nat → Int32} {d : Nat} {Q : lf_Z → Prop} {s : lf_Z} (h : fm_33_p10L Q s) : lf_E (px_ro L xs) (d + 2) 33 10 [(0, .ref 31)] [] s (lf_qv Q) :=
  h (fun s => lf_E (px_ro L xs) (d + 2) 33 10 [(0, .ref 31)] [] s (lf_qv Q)) (fun s hb => gm_33_p10 (fun _ h => h) hb)
def fm_33 (Q : lf_Z → Prop) (s : lf_Z) : Prop := fm_33_p10L Q (lf_up (lf_up s.1 31 8 2) 31 10 0, s.2.1, s.2.2)
set_option maxRecDepth 100000 in
theorem gm_33 {L : Nat} {xs : Nat → Int32} {d : Nat} {Q : lf_Z → Prop} {s : lf_Z} (h : fm_33 Q s) : lf_M (px_ro L xs) (d + 2) 33 [.ref 31] s (lf_qv Q) := by
  unfold fm_33 at h
  show lf_E (px_ro L xs) (d + 2) 33 0 [(0, .ref 31)] [] s _
  refine lf_seg 2 (pc' := 2) (lv' := [(0, .ref 31)]) (st' := [.int (Int32.ofInt 2), .ref 31]) rfl ?_
  refine lf_putI 5 8 rfl rfl rfl rfl rfl rfl rfl rfl ?_
  refine lf_as (lf_up s.1 31 8 2, s.2.1, s.2.2) rfl ?_
  refine lf_seg 2 (pc' := 7) (lv' := [(0, .ref 31)]) (st' := [.int (Int32.ofInt 0), .ref 31]) rfl ?_
  refine lf_putI 10 10 rfl rfl rfl rfl rfl rfl rfl rfl ?_
  refine lf_as (lf_up (lf_up s.1 31 8 2) 31 10 0, s.2.1, s.2.2) rfl ?_
  refine lf_sub (l := [(0, .ref 31)]) (lf_sb1 rfl lf_sb0) ?_
  exact gm_33_p10L h
