/-! rows of numbers, one after another -/
section OD
variable {o o' o0 : Int → Int} {B : Int}
def od_n (o : Int → Int) (B : Int) : Nat → Int
  | 0 => 0
  | k + 1 => od_n o B k * B + o k
def od (o : Int → Int) (B n : Int) : Int := od_n o B n.toNat
def od_B (o : Int → Int) (n B : Int) : Prop := ∀ j : Int, 0 ≤ j → j < n → 0 ≤ o j ∧ o j < B
theorem od_c : ∀ m : Nat, (∀ j : Int, 0 ≤ j → j < m → o' j = o j) → od_n o' B m = od_n o B m
  | 0, _ => rfl
  | m + 1, h => by
    show od_n o' B m * B + o' m = od_n o B m * B + o m
    rw [od_c m (fun j a b => h j a (by omega)), h m (by omega) (by omega)]
theorem od_s {k : Nat} (hk : od_n o' B k = od_n o B k) : ∀ m : Nat, k ≤ m → (∀ j : Int, k ≤ j → j < m → o' j = o j) → od_n o' B m = od_n o B m
  | 0, h0, _ => by
    have : k = 0 := by omega
    subst this
    exact hk
  | m + 1, h0, h => by
    by_cases e : k = m + 1
    · subst e; exact hk
    · show od_n o' B m * B + o' m = od_n o B m * B + o m
      rw [od_s hk m (by omega) (fun j a b => h j a (by omega)), h m (by omega) (by omega)]
/-- one more, at place k, is one more of the row -/
def od_I (o0 o : Int → Int) (B n k : Int) : Prop := 0 ≤ k → ∀ o' : Int → Int, o' k = o k + 1 → (∀ j, j ≠ k → o' j = o j) → od o' B n = od o0 B n + 1
theorem od_I0 {n : Int} : od_I o o B n (n - 1) := by
  intro h0 o' e1 e2
  obtain ⟨m, hm, h1, h2⟩ := pz_tn h0
  unfold od
  rw [show n.toNat = m + 1 by omega]
  show od_n o' B m * B + o' m = od_n o B m * B + o m + 1
  rw [od_c m (fun j a b => e2 j (by omega)), ← hm, e1]
  omega
theorem od_Is {n k : Int} (h : od_I o0 o B n k) (hk : k < n) (hb : o k = B - 1) {o1 : Int → Int} (e1 : o1 k = 0) (e2 : ∀ j, j ≠ k → o1 j = o j) : od_I o0 o1 B n (k + -1) := by
  intro h0 o' f1 f2
  have hk0 : 0 ≤ k := by omega
  rw [← h hk0 (fun j => if j = k then o k + 1 else o j) (if_pos rfl) (fun j hj => if_neg hj)]
  obtain ⟨m, hm, h1, h2⟩ := pz_tn h0
  have hkm : k = ((m + 1 : Nat) : Int) := by omega
  unfold od
  have ho : ∀ j : Int, j < m → o' j = o j := fun j hj => by rw [f2 j (by omega), e2 j (by omega)]
  refine od_s (k := m + 2) ?_ n.toNat (by omega) (fun j a b => ?_)
  · show (od_n o' B m * B + o' m) * B + o' ((m + 1 : Nat) : Int) = (od_n (fun j => if j = k then o k + 1 else o j) B m * B + (if (m : Int) = k then o k + 1 else o m)) * B + (if ((m + 1 : Nat) : Int) = k then o k + 1 else o ((m + 1 : Nat) : Int))
    rw [od_c m (o := o) (o' := o') (fun j a b => ho j b), od_c m (o := o) (o' := fun j => if j = k then o k + 1 else o j) (fun j a b => if_neg (by omega))]
    rw [if_neg (show ¬ ((m : Int) = k) by omega), if_pos hkm.symm, ← hkm, f2 k (by omega), e1, hb, ← hm, f1, e2 _ (by omega)]
    rw [Int.add_mul, Int.add_mul, Int.add_mul]
    omega
  · show o' j = if j = k then o k + 1 else o j
    rw [if_neg (by omega), f2 j (by omega), e2 j (by omega)]
theorem od_Bu {n k v : Int} (h : od_B o n B) (hv : 0 ≤ v ∧ v < B) (e1 : o' k = v) (e2 : ∀ j, j ≠ k → o' j = o j) : od_B o' n B := by
  intro j a b
  by_cases hj : j = k
  · subst hj; rw [e1]; exact hv
  · rw [e2 j hj]; exact h j a b
theorem od_Bz {n k : Int} (h : ∀ j : Int, 0 ≤ j → j < k → o j = 0) (hk : n ≤ k) (hB : 1 ≤ B) : od_B o n B := fun j a b => by rw [h j a (by omega)]; omega
theorem od_p (n : Int) (h : od_B o n B) (hB : 1 ≤ B ∧ B ≤ 6) : ∀ m : Nat, (m : Int) ≤ n → 0 ≤ od_n o B m ∧ od_n o B m + 1 ≤ 6 ^ m
  | 0, _ => ⟨Int.le_refl 0, by show (0 : Int) + 1 ≤ 6 ^ 0; decide⟩
  | m + 1, hm => by
    obtain ⟨a, b⟩ := od_p n h hB m (by omega)
    obtain ⟨c, d⟩ := h m (by omega) (by omega)
    have e := Int.mul_le_mul_of_nonneg_left hB.2 a
    have f := Int.mul_nonneg a (show 0 ≤ B by omega)
    show 0 ≤ od_n o B m * B + o m ∧ od_n o B m * B + o m + 1 ≤ 6 ^ (m + 1)
    rw [Int.pow_succ]
    generalize od_n o B m * B = x at *
    generalize (6 : Int) ^ m = y at *
    omega
theorem od_le {n : Int} (h : od_B o n B) (hB : 1 ≤ B ∧ B ≤ 6) (hn : 0 ≤ n ∧ n ≤ 6) : 0 ≤ od o B n ∧ od o B n ≤ 46655 := by
  obtain ⟨a, b⟩ := od_p n h hB n.toNat (by omega)
  have : n.toNat = 0 ∨ n.toNat = 1 ∨ n.toNat = 2 ∨ n.toNat = 3 ∨ n.toNat = 4 ∨ n.toNat = 5 ∨ n.toNat = 6 := by omega
  have c : (6 : Int) ^ n.toNat ≤ 46656 := by
    rcases this with e | e | e | e | e | e | e <;> rw [e] <;> decide
  unfold od
  omega
def od_m (x v : Int) : Int := if x = 0 then 0 else v
theorem od_mE (x v : Int) : (x = 0 ∧ od_m x v = 0) ∨ (x ≠ 0 ∧ od_m x v = v) := by
  unfold od_m
  by_cases h : x = 0
  · rw [if_pos h]; exact Or.inl ⟨h, rfl⟩
  · rw [if_neg h]; exact Or.inr ⟨h, rfl⟩
theorem lf_bz {z : Bool} {P : Prop} (h : z = true → P) : lf_b z = 0 ∨ P := by
  cases z with
  | false => exact Or.inl rfl
  | true => exact Or.inr (h rfl)
theorem lf_bf {z : Bool} {P : Prop} (h : z = false → P) : lf_b z = 1 ∨ P := by
  cases z with
  | false => exact Or.inr (h rfl)
  | true => exact Or.inl rfl
/-- all that follow are the last -/
def od_A (o0 o : Int → Int) (n B k : Int) : Prop := (∀ j : Int, k < j → j < n → o0 j = B - 1) ∧ ∀ j : Int, j ≤ k → o j = o0 j
theorem od_A0 {n : Int} : od_A o o n B (n - 1) := ⟨fun j a b => by omega, fun _ _ => rfl⟩
theorem od_As {n k : Int} (h : od_A o0 o n B k) (hb : o k = B - 1) {o1 : Int → Int} (e2 : ∀ j, j ≠ k → o1 j = o j) : od_A o0 o1 n B (k + -1) := by
  refine ⟨fun j a b => ?_, fun j a => ?_⟩
  · by_cases hj : j = k
    · subst hj; rw [← h.2 j (Int.le_refl _)]; exact hb
    · exact h.1 j (by omega) b
  · rw [e2 j (by omega)]; exact h.2 j (by omega)
theorem od_Bm {n : Int} (h : od_B o n B) (hB : B ≤ 4) : od_B o n 4 := fun j a b => ⟨(h j a b).1, by have := (h j a b).2; omega⟩
theorem od_Bk {k v : Int} (h : od_B o k B) (hv : 0 ≤ v ∧ v < B) (e1 : o' k = v) (e2 : ∀ j, j ≠ k → o' j = o j) : od_B o' (k + 1) B := by
  intro j a b
  by_cases hj : j = k
  · subst hj; rw [e1]; exact hv
  · rw [e2 j hj]; exact h j a (by omega)
theorem od_Bl {k n : Int} (h : od_B o k B) (hn : n ≤ k) : od_B o n B := fun j a b => h j a (by omega)
def od_D (o : Int → Int) (n : Int) : Prop := ∀ j : Int, 0 ≤ j → j < n → o j = j
def au_t (k : Int) : Int := if k = 0 then 0 else if k = 1 then 1 else if k = 2 then 3 else if k = 3 then 7 else if k = 4 then 15 else if k = 5 then 31 else 63
theorem au_s {n k u : Int} (hD : od_D o n) (hu : u = au_t k) (hk : 0 ≤ k ∧ k < n ∧ n ≤ 6) : lf_or u (lf_shl 1 (o k)) = au_t (k + 1) := by
  rw [hD k hk.1 hk.2.1, hu]
  have : k = 0 ∨ k = 1 ∨ k = 2 ∨ k = 3 ∨ k = 4 ∨ k = 5 := by omega
  rcases this with rfl | rfl | rfl | rfl | rfl | rfl <;> decide +kernel
theorem au_no {n k u : Int} (hD : od_D o n) (hu : u = au_t k) (hk : 0 ≤ k ∧ k < n ∧ n ≤ 6) (hz : lf_and (lf_shr u (o k)) 1 = 1) : False := by
  rw [hD k hk.1 hk.2.1, hu] at hz
  have : k = 0 ∨ k = 1 ∨ k = 2 ∨ k = 3 ∨ k = 4 ∨ k = 5 := by omega
  rcases this with rfl | rfl | rfl | rfl | rfl | rfl <;> revert hz <;> decide +kernel
def af_id (n : Int) : Int := if n = 1 then 0 else if n = 2 then 1 else if n = 3 then 5 else 27
def af_F (o b : Int → Int) (n least more : Int) : Prop := (0 ≤ least ∧ od_B b n 4) ∨ (least < 0 ∧ more ≠ 0 ∧ od o n n ≤ af_id n)
def af_K (o b : Int → Int) (n least : Int) : Prop := (0 ≤ least ∧ od_B b n 4) ∨ (least < 0 ∧ od o n n < af_id n)
theorem od_e {n : Int} (hn : 1 ≤ n ∧ n ≤ 4) : (n = 1 → od o n n = o 0 ∧ af_id n = 0) ∧ (n = 2 → od o n n = 2 * o 0 + o 1 ∧ af_id n = 1) ∧ (n = 3 → od o n n = 9 * o 0 + 3 * o 1 + o 2 ∧ af_id n = 5) ∧ (n = 4 → od o n n = 64 * o 0 + 16 * o 1 + 4 * o 2 + o 3 ∧ af_id n = 27) := by
  refine ⟨fun h => ?_, fun h => ?_, fun h => ?_, fun h => ?_⟩
  · subst h
    refine ⟨?_, by decide⟩
    show (0 : Int) * 1 + o ((0 : Nat) : Int) = o 0
    rw [show ((0 : Nat) : Int) = 0 from rfl]; omega
  · subst h
    refine ⟨?_, by decide⟩
    show ((0 : Int) * 2 + o ((0 : Nat) : Int)) * 2 + o ((1 : Nat) : Int) = 2 * o 0 + o 1
    rw [show ((0 : Nat) : Int) = 0 from rfl, show ((1 : Nat) : Int) = 1 from rfl]; omega
  · subst h
    refine ⟨?_, by decide⟩
    show (((0 : Int) * 3 + o ((0 : Nat) : Int)) * 3 + o ((1 : Nat) : Int)) * 3 + o ((2 : Nat) : Int) = 9 * o 0 + 3 * o 1 + o 2
    rw [show ((0 : Nat) : Int) = 0 from rfl, show ((1 : Nat) : Int) = 1 from rfl, show ((2 : Nat) : Int) = 2 from rfl]; omega
  · subst h
    refine ⟨?_, by decide⟩
    show ((((0 : Int) * 4 + o ((0 : Nat) : Int)) * 4 + o ((1 : Nat) : Int)) * 4 + o ((2 : Nat) : Int)) * 4 + o ((3 : Nat) : Int) = 64 * o 0 + 16 * o 1 + 4 * o 2 + o 3
    rw [show ((0 : Nat) : Int) = 0 from rfl, show ((1 : Nat) : Int) = 1 from rfl, show ((2 : Nat) : Int) = 2 from rfl, show ((3 : Nat) : Int) = 3 from rfl]; omega
theorem od_id {n : Int} (hn : 1 ≤ n ∧ n ≤ 4) (hB : od_B o n n) (he : od o n n = af_id n) : od_D o n := by
  obtain ⟨e1, e2, e3, e4⟩ := od_e (o := o) hn
  have b0 := hB 0 (by decide)
  have b1 := hB 1 (by decide)
  have b2 := hB 2 (by decide)
  have b3 := hB 3 (by decide)
  have : n = 1 ∨ n = 2 ∨ n = 3 ∨ n = 4 := by omega
  have key : (0 < n → o 0 = 0) ∧ (1 < n → o 1 = 1) ∧ (2 < n → o 2 = 2) ∧ (3 < n → o 3 = 3) := by
    rcases this with rfl | rfl | rfl | rfl
    · have := e1 rfl; have := b0 (by decide); omega
    · have := e2 rfl; have := b0 (by decide); have := b1 (by decide); omega
    · have := e3 rfl; have := b0 (by decide); have := b1 (by decide); have := b2 (by decide); omega
    · have := e4 rfl; have := b0 (by decide); have := b1 (by decide); have := b2 (by decide); have := b3 (by decide); omega
  intro j a b
  have : j = 0 ∨ j = 1 ∨ j = 2 ∨ j = 3 := by omega
  rcases this with rfl | rfl | rfl | rfl
  · exact key.1 b
  · exact key.2.1 b
  · exact key.2.2.1 b
  · exact key.2.2.2 b
theorem od_hi {n : Int} (hn : 1 ≤ n ∧ n ≤ 4) (h : ∀ j : Int, 0 ≤ j → j < n → o j = n - 1) : af_id n ≤ od o n n := by
  obtain ⟨e1, e2, e3, e4⟩ := od_e (o := o) hn
  have b0 := h 0 (by decide)
  have b1 := h 1 (by decide)
  have b2 := h 2 (by decide)
  have b3 := h 3 (by decide)
  have : n = 1 ∨ n = 2 ∨ n = 3 ∨ n = 4 := by omega
  rcases this with rfl | rfl | rfl | rfl
  · have := e1 rfl; have := b0 (by decide); omega
  · have := e2 rfl; have := b0 (by decide); have := b1 (by decide); omega
  · have := e3 rfl; have := b0 (by decide); have := b1 (by decide); have := b2 (by decide); omega
  · have := e4 rfl; have := b0 (by decide); have := b1 (by decide); have := b2 (by decide); have := b3 (by decide); omega
theorem af_0 {b : Int → Int} {n k least more : Int} (h : lf_zr o k) (hn : 1 ≤ n ∧ n ≤ 4 ∧ n ≤ k) (hl : least < 0 ∧ more ≠ 0) : af_F o b n least more := by
  refine Or.inr ⟨hl.1, hl.2, ?_⟩
  obtain ⟨e1, e2, e3, e4⟩ := od_e (o := o) (n := n) ⟨hn.1, hn.2.1⟩
  have b0 := h 0 (by decide)
  have b1 := h 1 (by decide)
  have b2 := h 2 (by decide)
  have b3 := h 3 (by decide)
  omega
theorem af_1 {b : Int → Int} {n least more : Int} (h : af_F o b n least more) : af_F o b n least 1 := by
  rcases h with h | ⟨h1, h2, h3⟩
  · exact Or.inl h
  · exact Or.inr ⟨h1, by decide, h3⟩
theorem af_k {b : Int → Int} {n least v : Int} (hB : od_B o n n) (h : af_F o b n least 1) (hg : 0 ≤ v ∨ ¬ od_D o n) (hv : v < 0) (hn : 1 ≤ n ∧ n ≤ 4) : af_K o b n least := by
  rcases h with h | ⟨h1, h2, h3⟩
  · exact Or.inl h
  · refine Or.inr ⟨h1, ?_⟩
    by_cases he : od o n n = af_id n
    · exact absurd (od_id hn hB he) (by rcases hg with hg | hg; exact absurd hg (by omega); exact hg)
    · omega
theorem af_l {b : Int → Int} {n least more : Int} (h : af_F o b n least more) (hl : 0 ≤ least) : af_K o b n least := by
  rcases h with h | ⟨h1, h2, h3⟩
  · exact Or.inl h
  · omega
theorem af_n {b b' : Int → Int} {n least more : Int} (h : af_K o b n least) (eb : b' = b) (h1 : more = 0 ∨ od o' n n = od o n n + 1) (h2 : more = 1 ∨ ∀ j : Int, 0 ≤ j → j < n → o j = n - 1) (hn : 1 ≤ n ∧ n ≤ 4) : af_F o' b' n least more := by
  subst eb
  rcases h with h | ⟨h3, h4⟩
  · exact Or.inl h
  · refine Or.inr ⟨h3, ?_⟩
    rcases h2 with h2 | h2
    · subst h2
      refine ⟨by decide, ?_⟩
      omega
    · have := od_hi hn h2
      omega
theorem af_x {b : Int → Int} {n least more i : Int} (h : af_F o b n least more) (hm : more = 0) (h0 : 0 ≤ i) (h1 : i < n) : 0 ≤ b i ∧ b i < 4 := by
  rcases h with h | ⟨h3, h4, h5⟩
  · exact h.2 i h0 h1
  · exact absurd hm h4
theorem lf_m9 {a t : Int} (ha : 0 ≤ a ∧ a ≤ 2376) (ht : 0 ≤ t ∧ t ≤ 4000) : a * t ≤ 9504000 := by
  have h1 := Int.mul_le_mul_of_nonneg_left ht.2 ha.1
  have h2 := Int.mul_le_mul_of_nonneg_right ha.2 (show (0 : Int) ≤ 4000 by decide)
  omega
end OD
