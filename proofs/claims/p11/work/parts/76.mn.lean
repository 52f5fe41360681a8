/-! a minute, as both do it: f is the stand's row, J the class's land -/
section MN
def mn_ac (J : Nat → Int → Int) (w s : Int) : Int := if J 4 w = s then J 5 w else if J 5 w = s then J 4 w else -1
/-- whether a way is at a stretch -/
def mn_at (J : Nat → Int → Int) (s : Int) (w : Nat) : Bool := decide (J 4 (w : Int) = s) || decide (J 5 (w : Int) = s)
/-- the edges: of all ways below m that are of a sort -/
def mn_E (J : Nat → Int → Int) (ok : Int → Bool) (m : Int) (i j : Int) : Prop := ∃ w : Int, 0 ≤ w ∧ w < m ∧ ok w = true ∧ ((J 4 w = i ∧ J 5 w = j) ∨ (J 4 w = j ∧ J 5 w = i))
def mn_d (J : Nat → Int → Int) (c : Nat) (i j : Int) : Int := J c (i * 12 + j)
/-- what holds of the class's land: where ways are, how far it is -/
def mn_W (J : Nat → Int → Int) : Prop :=
  (0 ≤ J 1 0 ∧ J 1 0 ≤ 12) ∧ (0 ≤ J 1 1 ∧ J 1 1 ≤ 16) ∧ (0 ≤ J 1 2 ∧ J 1 2 ≤ 6)
  ∧ (∀ w : Int, 0 ≤ w → w < J 1 1 → (0 ≤ J 4 w ∧ J 4 w < J 1 0) ∧ (0 ≤ J 5 w ∧ J 5 w < J 1 0) ∧ J 4 w ≠ J 5 w)
  ∧ (∀ s : Int, 0 ≤ s → s < 12 → J 12 s = dm_cn (mn_at J s) (J 1 1).toNat ∧ J 12 s ≤ 4 ∧ ∀ w : Nat, (w : Int) < J 1 1 → mn_at J s w = true → J 11 (s * 4 + dm_cn (mn_at J s) w) = w)
  ∧ dm_M (J 1 0) (mn_E J (fun _ => true) (J 1 1)) (mn_d J 13)
  ∧ (∀ i j : Int, 0 ≤ i → i < 12 → 0 ≤ j → j < 12 → (J 1 0 ≤ i ∨ J 1 0 ≤ j) → mn_d J 13 i j = if i = j then 0 else 1000)
/-! towards a stretch -/
/-- the lowest for which it holds, from v on; none: -1 -/
def mn_le (P : Int → Bool) : Nat → Int → Int
  | 0, _ => -1
  | k + 1, v => if P v = true then v else mn_le P k (v + 1)
variable {J : Nat → Int → Int} {P : Int → Bool} {s t v w : Int}
theorem mn_leS : ∀ (k : Nat) (v u : Int), P u = true → v ≤ u → u < v + k → (∀ z, P z = true → v ≤ z → u ≤ z) → mn_le P k v = u := by
  intro k
  induction k with
  | zero => intro v u _ h1 h2 _; omega
  | succ k ih =>
    intro v u hu h1 h2 hm
    show (if P v = true then v else mn_le P k (v + 1)) = u
    by_cases c : P v = true
    · rw [if_pos c]
      have := hm v c (Int.le_refl v)
      omega
    · rw [if_neg c]
      have ne : v ≠ u := fun q => c (by rw [q]; exact hu)
      exact ih (v + 1) u hu (by omega) (by omega) (fun z hz hv => hm z hz (by omega))
/-- some way below k leads from s to v -/
def mn_aj (J : Nat → Int → Int) (s v : Int) : Nat → Bool
  | 0 => false
  | k + 1 => mn_aj J s v k || (mn_at J s k && decide (mn_ac J (k : Int) s = v))
theorem mn_ajI : ∀ k : Nat, mn_aj J s v k = true ↔ ∃ w : Nat, w < k ∧ mn_at J s w = true ∧ mn_ac J (w : Int) s = v := by
  intro k
  induction k with
  | zero => exact ⟨fun h => (by cases h), fun ⟨w, h, _⟩ => by omega⟩
  | succ k ih =>
    show (mn_aj J s v k || (mn_at J s k && decide (mn_ac J (k : Int) s = v))) = true ↔ _
    rw [Bool.or_eq_true, ih, Bool.and_eq_true, decide_eq_true_eq]
    constructor
    · rintro (⟨w, h1, h2⟩ | ⟨h1, h2⟩)
      · exact ⟨w, by omega, h2⟩
      · exact ⟨k, by omega, h1, h2⟩
    · rintro ⟨w, h1, h2, h3⟩
      by_cases e : w = k
      · subst e; exact Or.inr ⟨h2, h3⟩
      · exact Or.inl ⟨w, by omega, h2, h3⟩
/-- a next stretch on a shortest way -/
def mn_P (J : Nat → Int → Int) (s t v : Int) : Bool := mn_aj J s v (J 1 1).toNat && decide (mn_d J 13 v t = mn_d J 13 s t - 1)
def mn_nx (J : Nat → Int → Int) (s t : Int) : Int := mn_le (mn_P J s t) 12 0
theorem mn_atE {w : Nat} : mn_at J s w = true ↔ (J 4 (w : Int) = s ∨ J 5 (w : Int) = s) := by
  unfold mn_at
  rw [Bool.or_eq_true, decide_eq_true_eq, decide_eq_true_eq]
theorem mn_acB (hW : mn_W J) {w : Nat} (h : (w : Int) < J 1 1) (ha : mn_at J s w = true) : 0 ≤ mn_ac J w s ∧ mn_ac J w s < J 1 0 ∧ mn_E J (fun _ => true) (J 1 1) s (mn_ac J w s) := by
  obtain ⟨_, _, _, h4, _⟩ := hW
  have b := h4 w (by omega) h
  unfold mn_ac
  by_cases c : J 4 (w : Int) = s
  · rw [if_pos c]
    exact ⟨b.2.1.1, b.2.1.2, w, by omega, h, rfl, Or.inl ⟨c, rfl⟩⟩
  · rw [if_neg c]
    have d := (mn_atE.mp ha).resolve_left c
    rw [if_pos d]
    exact ⟨b.1.1, b.1.2, w, by omega, h, rfl, Or.inr ⟨rfl, d⟩⟩
theorem mn_PI (hW : mn_W J) : mn_P J s t v = true ↔ ∃ w : Nat, (w : Int) < J 1 1 ∧ mn_at J s w = true ∧ mn_ac J (w : Int) s = v ∧ mn_d J 13 v t = mn_d J 13 s t - 1 := by
  obtain ⟨_, h1, _⟩ := hW
  unfold mn_P
  rw [Bool.and_eq_true, mn_ajI, decide_eq_true_eq]
  constructor
  · rintro ⟨⟨w, a, b, c⟩, d⟩
    exact ⟨w, by omega, b, c, d⟩
  · rintro ⟨w, a, b, c, d⟩
    exact ⟨⟨w, by omega, b, c⟩, d⟩
/-- there is a next one, unless it is there or can't be come to -/
theorem mn_Pex (hW : mn_W J) (s0 : 0 ≤ s) (s1 : s < J 1 0) (t0 : 0 ≤ t) (t1 : t < J 1 0) (ne : s ≠ t) (hf : mn_d J 13 s t < 1000) : ∃ v, mn_P J s t v = true := by
  have hW' := hW
  obtain ⟨_, _, _, h4, _, h6, _⟩ := hW
  rcases h6.2.2.2.2.2 s t s0 s1 t0 t1 ne with q | ⟨v, ⟨w, w0, w1, _, hw⟩, hv⟩
  · omega
  · obtain ⟨n, rfl⟩ := Int.eq_ofNat_of_zero_le w0
    refine ⟨v, (mn_PI hW').mpr ⟨n, w1, mn_atE.mpr ?_, ?_, hv⟩⟩
    · rcases hw with ⟨a, _⟩ | ⟨_, a⟩
      · exact Or.inl a
      · exact Or.inr a
    · unfold mn_ac
      have := (h4 n w0 w1).2.2
      rcases hw with ⟨a, b⟩ | ⟨a, b⟩
      · rw [if_pos a]; exact b
      · rw [if_neg (by omega), if_pos b]; exact a
/-- the lowest of them is it -/
theorem mn_nxU (hW : mn_W J) {u : Int} (hu : mn_P J s t u = true) (hm : ∀ z, mn_P J s t z = true → u ≤ z) : mn_nx J s t = u := by
  obtain ⟨w, a, b, c, _⟩ := (mn_PI hW).mp hu
  have B := mn_acB hW a b
  have h0 := hW.1
  exact mn_leS 12 0 u hu (by omega) (by omega) (fun z hz _ => hm z hz)
/-- one way on of a person that is sent -/
def mn_go (J : Nat → Int → Int) (p : Int) (f : Int → Int) : Int → Int :=
  if f (12 + 2 * p + 1) = -1 ∨ f (12 + 2 * p) = f (12 + 2 * p + 1) ∨ 1000 ≤ mn_d J 13 (f (12 + 2 * p)) (f (12 + 2 * p + 1)) then f else ds_u1 f (12 + 2 * p) (mn_nx J (f (12 + 2 * p)) (f (12 + 2 * p + 1)))
def mn_pp (J : Nat → Int → Int) : Nat → Int → (Int → Int) → Int → Int
  | 0, _, f => f
  | k + 1, p, f => mn_pp J k (p + 1) (if J 8 p = 0 then mn_go J p f else mn_go J p (mn_go J p f))
/-! bunches -/
/-- how many people are there; the nerves, the buckets of those -/
def mn_he (J : Nat → Int → Int) (f : Int → Int) (s : Int) : Nat → Int
  | 0 => 0
  | k + 1 => mn_he J f s k + (if f (12 + 2 * (k : Int)) = s then 1 else 0)
def mn_su (g : Int → Int) (f : Int → Int) (s : Int) : Nat → Int
  | 0 => 0
  | k + 1 => mn_su g f s k + (if f (12 + 2 * (k : Int)) = s then g k else 0)
/-- the names of takes: by the reference's numbers -/
def mn_nt (J : Nat → Int → Int) (f : Int → Int) (size s came w : Int) (i : Int) : Int :=
  if i = 0 then size else if i = 1 then s else if i = 2 then J 2 s else if i = 3 then mn_he J f s (J 1 2).toNat
  else if i = 5 then J 2 (mn_ac J w s) else if i = 6 then mn_su (J 7) f (mn_ac J w s) (J 1 2).toNat else if i = 7 then mn_su (J 9) f (mn_ac J w s) (J 1 2).toNat
  else if i = 8 then (if mn_ac J w s = came then 1 else 0) else if i = 9 then w else 0
def mn_np (J : Nat → Int → Int) (f : Int → Int) (b : Int) (i : Int) : Int :=
  if i = 0 then f (3 * b) else if i = 1 then f (3 * b + 1) else if i = 2 then J 2 (f (3 * b + 1)) else if i = 3 then mn_he J f (f (3 * b + 1)) (J 1 2).toNat
  else if i = 4 then (if f (3 * b + 2) < 0 then 0 else mn_he J f (f (3 * b + 2)) (J 1 2).toNat) else 0
/-- the laws: pace and takes, within bounds -/
abbrev mn_X : Type := ((Int → Int) → Int) × ((Int → Int) → Int)
def mn_tk (J : Nat → Int → Int) (X : mn_X) (f : Int → Int) (size s came : Int) (w : Nat) : Int :=
  if mn_at J s w = false ∨ J 6 (w : Int) ≠ 0 ∨ bt_t (f 36) (w : Int) = true then 0 else X.2 (mn_nt J f size s came w)
def mn_an (x : Int) : Int := (x * 239 + 137).tmod 30203
/-- a move, from way w on, k ways left -/
def mn_mv (J : Nat → Int → Int) (X : mn_X) (b s : Int) : Nat → Nat → (Int → Int) → Int → Int
  | 0, _, f => f
  | k + 1, w, f =>
    if mn_tk J X f (f (3 * b)) s (f (3 * b + 2)) w = 0 then mn_mv J X b s k (w + 1) f
    else if 10 ≤ mn_tk J X f (f (3 * b)) s (f (3 * b + 2)) w then ds_u1 (ds_u1 f (3 * b + 1) (mn_ac J w s)) (3 * b + 2) s
    else if (f 38).tmod 10 < mn_tk J X f (f (3 * b)) s (f (3 * b + 2)) w then ds_u1 (ds_u1 (ds_u1 f 38 (mn_an (f 38))) (3 * b + 1) (mn_ac J w s)) (3 * b + 2) s
    else mn_mv J X b s k (w + 1) (ds_u1 f 38 (mn_an (f 38)))
def mn_m1 (J : Nat → Int → Int) (X : mn_X) (b : Int) (f : Int → Int) : Int → Int := mn_mv J X b (f (3 * b + 1)) (J 1 1).toNat 0 f
def mn_rp (F : (Int → Int) → Int → Int) : Nat → (Int → Int) → Int → Int
  | 0, f => f
  | k + 1, f => mn_rp F k (F f)
/-- all bunches move -/
def mn_bb (J : Nat → Int → Int) (X : mn_X) : Nat → Int → (Int → Int) → Int → Int
  | 0, _, f => f
  | k + 1, b, f => mn_bb J X k (b + 1) (if f (3 * b) ≤ 0 then f else mn_rp (mn_m1 J X b) (X.1 (mn_np J f b)).toNat f)
/-- harm -/
def mn_hb (J : Nat → Int → Int) : Nat → Int → (Int → Int) → Int → Int
  | 0, _, f => f
  | k + 1, b, f => mn_hb J k (b + 1) (if f (3 * b) ≤ 0 then f else ds_u1 f (24 + f (3 * b + 1)) (lf_w (f (24 + f (3 * b + 1)) + f (3 * b) * J 3 (f (3 * b + 1)))))
/-- bunches at one stretch are one -/
def mn_jc (b : Int) : Nat → Int → (Int → Int) → Int → Int
  | 0, _, f => f
  | k + 1, c, f => mn_jc b k (c + 1) (if f (3 * b) ≤ 0 ∨ f (3 * c) ≤ 0 ∨ f (3 * c + 1) ≠ f (3 * b + 1) then f else ds_u1 (ds_u1 (ds_u1 (ds_u1 f (3 * b) (f (3 * b) + f (3 * c))) (3 * c) 0) (3 * c + 1) (-1)) (3 * c + 2) (-1))
def mn_jb : Nat → Int → (Int → Int) → Int → Int
  | 0, _, f => f
  | k + 1, b, f => mn_jb k (b + 1) (mn_jc b (3 - b).toNat (b + 1) f)
def mn_min (J : Nat → Int → Int) (X : mn_X) (f : Int → Int) : Int → Int :=
  let g := mn_jb 4 0 (mn_hb J 4 0 (mn_bb J X 4 0 (mn_pp J (J 1 2).toNat 0 f)))
  ds_u1 g 37 (lf_w (g 37 + 1))
end MN
