/-! the way on of a person that is sent: distances by rounds -/
section BF
variable {f g g' : Int → Int}
def bf_n (f g : Int → Int) (s : Int) : Nat → Int
  | 0 => 0
  | k + 1 => if 0 ≤ iv_os f k s ∧ g (iv_os f k s) = g s - 1 then 1 else bf_n f g s k
def bf_e (f g : Int → Int) (s k : Int) : Int := bf_n f g s k.toNat
theorem bf_eS {s k : Int} (h : 0 ≤ k) : (0 ≤ iv_os f k s ∧ g (iv_os f k s) = g s - 1 → bf_e f g s (k + 1) = 1) ∧ (¬ (0 ≤ iv_os f k s ∧ g (iv_os f k s) = g s - 1) → bf_e f g s (k + 1) = bf_e f g s k) := by
  obtain ⟨m, rfl, h1, h2⟩ := pz_tn h
  unfold bf_e
  rw [h2, h1]
  exact ⟨fun c => if_pos c, fun c => if_neg c⟩
theorem bf_ex {s w : Int} (h0 : 0 ≤ w) (h : 0 ≤ iv_os f w s ∧ g (iv_os f w s) = g s - 1) : ∀ m : Nat, w < m → bf_n f g s m = 1
  | 0, hm => by omega
  | m + 1, hm => by
    show (if 0 ≤ iv_os f m s ∧ g (iv_os f m s) = g s - 1 then 1 else bf_n f g s m) = 1
    by_cases hc : 0 ≤ iv_os f m s ∧ g (iv_os f m s) = g s - 1
    · exact if_pos hc
    · rw [if_neg hc]
      refine bf_ex h0 h m ?_
      by_cases hw : w = m
      · subst hw; exact absurd h hc
      · omega
theorem bf_of {s w m : Int} (h0 : 0 ≤ w) (h1 : w < m) (h : 0 ≤ iv_os f w s ∧ g (iv_os f w s) = g s - 1) : bf_e f g s m = 1 := bf_ex h0 h _ (by omega)
def bf_Z (g : Int → Int) (t : Int) : Prop := ∀ s : Int, 0 ≤ s → s < 12 → 0 ≤ g s ∧ (g s = 0 → s = t)
def bf_S (f g : Int → Int) : Prop := ∀ s : Int, 0 ≤ s → s < 12 → g s < 1000 → g s ≠ 0 → ∃ w : Int, 0 ≤ w ∧ w < f 1 ∧ 0 ≤ iv_os f w s ∧ iv_os f w s < 12 ∧ g (iv_os f w s) + 1 ≤ g s
def bf_T (f g : Int → Int) (r k : Int) : Prop := ∀ w : Int, 0 ≤ w → w < k → (g (f (50 + 4 * w)) < r → g (f (50 + 4 * w + 1)) ≤ g (f (50 + 4 * w)) + 1) ∧ (g (f (50 + 4 * w + 1)) < r → g (f (50 + 4 * w)) ≤ g (f (50 + 4 * w + 1)) + 1)
def bf_R (f g : Int → Int) (r t : Int) : Prop := bf_Z g t ∧ bf_S f g ∧ bf_T f g r (f 1)
def bf_J (f g : Int → Int) (r k t : Int) : Prop := bf_Z g t ∧ bf_S f g ∧ bf_T f g r (f 1) ∧ bf_T f g (r + 1) k
def bf_i (g : Int → Int) (k t : Int) : Prop := ∀ j : Int, 0 ≤ j → j < k → (g j = 0 ∧ j = t) ∨ g j = 1000
theorem bf_R0 {t : Int} (h : bf_i g 12 t) (e : ∀ w : Int, 0 ≤ w → w < f 1 → 0 ≤ f (50 + 4 * w) ∧ f (50 + 4 * w) < 12 ∧ 0 ≤ f (50 + 4 * w + 1) ∧ f (50 + 4 * w + 1) < 12) : bf_R f g 0 t := by
  refine ⟨fun s a b => ?_, fun s a b c d => ?_, fun w a b => ?_⟩
  · rcases h s a b with ⟨h1, h2⟩ | h1 <;> constructor <;> omega
  · exfalso
    rcases h s a b with ⟨h1, h2⟩ | h1 <;> omega
  · obtain ⟨e1, e2, e3, e4⟩ := e w a b
    have q1 := h _ e1 e2
    have q2 := h _ e3 e4
    constructor <;> intro hq <;> exfalso <;> omega
theorem bf_J0 {r t : Int} (h : bf_R f g r t) : bf_J f g r 0 t := ⟨h.1, h.2.1, h.2.2, fun w a b => by omega⟩
theorem bf_RJ {r k t : Int} (h : bf_J f g r k t) (hk : f 1 ≤ k) : bf_R f g (r + 1) t := ⟨h.1, h.2.1, fun w a b => h.2.2.2 w a (by omega)⟩
theorem bf_Tu {q k a b : Int} (hT : bf_T f g q k) (hq : q ≤ g a + 1) (hlt : g a + 1 ≤ g b) (e1 : g' b = g a + 1) (e2 : ∀ j, j ≠ b → g' j = g j) : bf_T f g' q k := by
  have key : ∀ u v : Int, (g u < q → g v ≤ g u + 1) → g' u < q → g' v ≤ g' u + 1 := by
    intro u v h1 h2
    by_cases hu : u = b
    · subst hu; rw [e1] at h2; omega
    · rw [e2 u hu] at h2 ⊢
      have := h1 h2
      by_cases hv : v = b
      · subst hv; rw [e1]; omega
      · rw [e2 v hv]; exact this
  intro w h0 h1
  exact ⟨key _ _ (hT w h0 h1).1, key _ _ (hT w h0 h1).2⟩
theorem bf_rx {r k t a b w : Int} (h : bf_J f g r k t) (hw : 0 ≤ w ∧ w < f 1) (hab : (f (50 + 4 * w) = a ∧ f (50 + 4 * w + 1) = b) ∨ (f (50 + 4 * w) = b ∧ f (50 + 4 * w + 1) = a)) (ha : 0 ≤ a ∧ a < 12) (hlt : g a + 1 < g b) (e1 : g' b = g a + 1) (e2 : ∀ j, j ≠ b → g' j = g j) : bf_J f g' r k t := by
  obtain ⟨hZ, hS, hT, hU⟩ := h
  have hs : iv_os f w b = a := by
    unfold iv_os
    rcases hab with ⟨p1, p2⟩ | ⟨p1, p2⟩
    · rw [p1, p2]
      by_cases hq : a = b
      · rw [if_pos hq]; exact hq.symm
      · rw [if_neg hq, if_pos rfl]
    · rw [p1, if_pos rfl, p2]
  have hra : r ≤ g a := by
    by_cases hq : g a < r
    · have hTw := hT w hw.1 hw.2
      rcases hab with ⟨p1, p2⟩ | ⟨p1, p2⟩
      · rw [p1, p2] at hTw; have := hTw.1 hq; omega
      · rw [p1, p2] at hTw; have := hTw.2 hq; omega
    · omega
  have hne : a ≠ b := fun e => by subst e; omega
  refine ⟨fun s h0 h1 => ?_, fun s h0 h1 hf hn => ?_, bf_Tu hT (by omega) (by omega) e1 e2, bf_Tu hU (by omega) (by omega) e1 e2⟩
  · by_cases hq : s = b
    · subst hq; rw [e1]; have := (hZ a ha.1 ha.2).1; constructor <;> omega
    · rw [e2 s hq]; exact hZ s h0 h1
  · by_cases hq : s = b
    · subst hq
      exact ⟨w, hw.1, hw.2, by rw [hs]; exact ha.1, by rw [hs]; exact ha.2, by rw [hs, e1, e2 a hne]; omega⟩
    · rw [e2 s hq] at hf hn
      obtain ⟨w', q0, q1, q2, q3, q4⟩ := hS s h0 h1 hf hn
      refine ⟨w', q0, q1, q2, q3, ?_⟩
      rw [e2 s hq]
      by_cases hv : iv_os f w' s = b
      · rw [hv] at q4 ⊢; rw [e1]; omega
      · rw [e2 _ hv]; exact q4
theorem bf_nx {r k t : Int} (h : bf_J f g r k t) (h1 : g (f (50 + 4 * k + 1)) ≤ g (f (50 + 4 * k)) + 1) (h2 : g (f (50 + 4 * k)) ≤ g (f (50 + 4 * k + 1)) + 1) : bf_J f g r (k + 1) t := by
  refine ⟨h.1, h.2.1, h.2.2.1, fun w a b => ?_⟩
  by_cases hw : w = k
  · subst hw; exact ⟨fun _ => h1, fun _ => h2⟩
  · exact h.2.2.2 w a (by omega)
theorem bf_su {n s w : Int} (hT : bf_T f g n (f 1)) (h0 : 0 ≤ w) (h1 : w < f 1) (h2 : 0 ≤ iv_os f w s) (h3 : g (iv_os f w s) < n) : g s ≤ g (iv_os f w s) + 1 := by
  have hTw := hT w h0 h1
  by_cases p1 : f (50 + 4 * w) = s
  · have e : iv_os f w s = f (50 + 4 * w + 1) := if_pos p1
    rw [e] at h3 ⊢
    rw [p1] at hTw
    exact hTw.2 h3
  · by_cases p2 : f (50 + 4 * w + 1) = s
    · have e : iv_os f w s = f (50 + 4 * w) := by unfold iv_os; rw [if_neg p1, if_pos p2]
      rw [e] at h3 ⊢
      rw [p2] at hTw
      exact hTw.1 h3
    · have e : iv_os f w s = -1 := by unfold iv_os; rw [if_neg p1, if_neg p2]
      omega
theorem bf_vx {s w : Int} (hep : iv_ep f) (h0 : 0 ≤ w) (h1 : w < f 1) (hm : f 1 ≤ 16) (h2 : 0 ≤ iv_os f w s) : s < f 0 := by
  have he := hep w h0 (by omega) h1
  by_cases p1 : f (50 + 4 * w) = s
  · rw [p1] at he; exact he.1
  · by_cases p2 : f (50 + 4 * w + 1) = s
    · rw [p2] at he; exact he.2
    · have e : iv_os f w s = -1 := by unfold iv_os; rw [if_neg p1, if_neg p2]
      omega
def bf_c (g : Int → Int) (r : Int) : Nat → Int
  | 0 => 0
  | k + 1 => bf_c g r k + (if 1 ≤ g k ∧ g k ≤ r then 1 else 0)
theorem bf_cL {r : Int} : ∀ k : Nat, bf_c g r k ≤ k
  | 0 => Int.le_refl 0
  | k + 1 => by
    have := bf_cL (r := r) k
    show bf_c g r k + (if 1 ≤ g k ∧ g k ≤ r then 1 else 0) ≤ ((k + 1 : Nat) : Int)
    split <;> omega
theorem bf_cM {r q : Int} (h : r ≤ q) : ∀ k : Nat, bf_c g r k ≤ bf_c g q k
  | 0 => Int.le_refl 0
  | k + 1 => by
    have := bf_cM h k
    show bf_c g r k + (if 1 ≤ g k ∧ g k ≤ r then 1 else 0) ≤ bf_c g q k + (if 1 ≤ g k ∧ g k ≤ q then 1 else 0)
    by_cases h1 : 1 ≤ g k ∧ g k ≤ r
    · rw [if_pos h1, if_pos ⟨h1.1, by omega⟩]; omega
    · rw [if_neg h1]; split <;> omega
theorem bf_cS {r q : Int} {v : Int} (h : r ≤ q) (v0 : 0 ≤ v) (v1 : r < g v) (v2 : g v ≤ q) (v3 : 1 ≤ g v) : ∀ k : Nat, v < k → bf_c g r k + 1 ≤ bf_c g q k
  | 0, hk => by omega
  | k + 1, hk => by
    show bf_c g r k + (if 1 ≤ g k ∧ g k ≤ r then 1 else 0) + 1 ≤ bf_c g q k + (if 1 ≤ g k ∧ g k ≤ q then 1 else 0)
    by_cases hv : v = k
    · subst hv
      have := bf_cM (g := g) h k
      rw [if_neg (by omega), if_pos ⟨v3, v2⟩]
      omega
    · have := bf_cS h v0 v1 v2 v3 k (by omega)
      by_cases h1 : 1 ≤ g k ∧ g k ≤ r
      · rw [if_pos h1, if_pos ⟨h1.1, by omega⟩]; omega
      · rw [if_neg h1]; split <;> omega
/-- at the end all distances are right -/
theorem bf_end {n t : Int} (hR : bf_R f g n t) (hn : f 0 = n) (hep : iv_ep f) (hm : f 1 ≤ 16) (hn0 : 0 ≤ n) : ∀ s : Int, 0 ≤ s → s < 12 → s ≠ t → g s < 1000 → bf_e f g s (f 1) = 1 := by
  obtain ⟨hZ, hS, hT⟩ := hR
  have hz : ∀ s, 0 ≤ s → s < 12 → 0 ≤ g s := fun s a b => (hZ s a b).1
  have hlt : ∀ s, 0 ≤ s → s < 12 → g s < 1000 → g s ≠ 0 → s < n := by
    intro s a b c d
    obtain ⟨w, q0, q1, q2, q3, q4⟩ := hS s a b c d
    rw [← hn]
    exact bf_vx hep q0 q1 hm q2
  have down : ∀ s d : Int, 0 ≤ s → s < 12 → g s = d → 1 ≤ d → d ≤ n → d < 1000 → ∃ u, 0 ≤ u ∧ u < 12 ∧ g u = d - 1 := by
    intro s d a b c d1 d2 d3
    obtain ⟨w, q0, q1, q2, q3, q4⟩ := hS s a b (by omega) (by omega)
    have := bf_su hT q0 q1 q2 (by omega)
    exact ⟨_, q2, q3, by omega⟩
  have high : ∀ s : Int, 0 ≤ s → s < 12 → g s < 1000 → g s ≤ n := by
    intro s a b c
    by_cases hq : g s ≤ n
    · exact hq
    · exfalso
      have top : ∀ (k : Nat) (s : Int), 0 ≤ s → s < 12 → g s < 1000 → n < g s → (g s - n).toNat ≤ k → ∃ u, 0 ≤ u ∧ u < 12 ∧ g u = n := by
        intro k
        induction k with
        | zero => intro s a b c d e; omega
        | succ k ih =>
          intro s a b c d e
          obtain ⟨w, q0, q1, q2, q3, q4⟩ := hS s a b c (by omega)
          by_cases p1 : g (iv_os f w s) < n
          · have := bf_su hT q0 q1 q2 p1; omega
          · by_cases p2 : g (iv_os f w s) = n
            · exact ⟨_, q2, q3, p2⟩
            · exact ih _ q2 q3 (by omega) (by omega) (by omega)
      have n1 : n < 1000 := by omega
      obtain ⟨u0, a0, b0, c0⟩ := top _ s a b c (by omega) (Nat.le_refl _)
      have lev : ∀ j : Nat, (j : Int) ≤ n → ∃ u, 0 ≤ u ∧ u < 12 ∧ g u = n - j := by
        intro j
        induction j with
        | zero => intro _; exact ⟨u0, a0, b0, by omega⟩
        | succ j ih =>
          intro hj
          obtain ⟨u, a, b, c⟩ := ih (by omega)
          obtain ⟨u', a', b', c'⟩ := down u (n - j) a b c (by omega) (by omega) (by omega)
          exact ⟨u', a', b', by omega⟩
      have cnt : ∀ d : Nat, (d : Int) ≤ n → (d : Int) ≤ bf_c g d n.toNat := by
        intro d
        induction d with
        | zero =>
          intro _
          have : ∀ k : Nat, 0 ≤ bf_c g ((0 : Nat) : Int) k := by
            intro k
            induction k with
            | zero => exact Int.le_refl 0
            | succ k ih =>
              show 0 ≤ bf_c g ((0 : Nat) : Int) k + (if 1 ≤ g k ∧ g k ≤ ((0 : Nat) : Int) then 1 else 0)
              split <;> omega
          exact this _
        | succ d ih =>
          intro hd
          have h1 := ih (by omega)
          obtain ⟨u, a, b, c⟩ := lev (n - (d + 1)).toNat (by omega)
          have hu := hlt u a b (by omega) (by omega)
          have := bf_cS (g := g) (r := (d : Int)) (q := ((d + 1 : Nat) : Int)) (v := u) (by omega) a (by omega) (by omega) (by omega) n.toNat (by omega)
          omega
      have h1 := cnt n.toNat (by omega)
      have hu := hlt s a b c (by omega)
      have h2 := bf_cS (g := g) (r := ((n.toNat : Nat) : Int)) (q := 1000) (v := s) (by omega) a (by omega) (by omega) (by omega) n.toNat (by omega)
      have h3 := bf_cL (g := g) (r := 1000) n.toNat
      omega
  intro s a b hst c
  have hn0' : g s ≠ 0 := fun e => hst ((hZ s a b).2 e)
  obtain ⟨w, q0, q1, q2, q3, q4⟩ := hS s a b c hn0'
  have hh := high s a b c
  have := bf_su hT q0 q1 q2 (by omega)
  exact bf_of q0 q1 ⟨q2, by omega⟩
def bf_G (f g : Int → Int) (t : Int) : Prop := ∀ s : Int, 0 ≤ s → s < 12 → s ≠ t → g s < 1000 → bf_e f g s (f 1) = 1
theorem bf_nc {s : Int} {f' : Int → Int} : ∀ m : Nat, (∀ j : Int, 0 ≤ j → j < m → iv_os f' j s = iv_os f j s) → bf_n f' g s m = bf_n f g s m
  | 0, _ => rfl
  | m + 1, h => by
    show (if 0 ≤ iv_os f' m s ∧ g (iv_os f' m s) = g s - 1 then 1 else bf_n f' g s m) = (if 0 ≤ iv_os f m s ∧ g (iv_os f m s) = g s - 1 then 1 else bf_n f g s m)
    rw [h m (by omega) (by omega), bf_nc m (fun j a b => h j a (by omega))]
/-- what is not of ways leaves it as it is -/
theorem bf_Gc {f' : Int → Int} {t : Int} (h : bf_G f g t) (hg : g' = g) (hf : ∀ i : Int, i < 114 → f' i = f i) (hm : f 1 ≤ 16) : bf_G f' g' t := by
  subst hg
  intro s a b c d
  have e1 : f' 1 = f 1 := hf 1 (by decide)
  have := h s a b c d
  unfold bf_e at this ⊢
  rw [e1, bf_nc _ (fun j j0 j1 => ?_)]
  · exact this
  · unfold iv_os
    rw [hf _ (by omega), hf _ (by omega)]
theorem bf_iS {k t i v : Int} (h : bf_i g k t) (e1 : g' i = v) (e2 : ∀ j, j ≠ i → g' j = g j) (hi : i = k) (hv : (v = 0 ∧ k = t) ∨ v = 1000) : bf_i g' (k + 1) t := by
  subst hi
  intro j a b
  by_cases hj : j = i
  · subst hj; rw [e1]; exact hv
  · rw [e2 j hj]; exact h j a (by omega)
theorem bf_iK {k t : Int} (h : bf_i g k t) (hk : 12 ≤ k) : bf_i g 12 t := fun j a b => h j a (by omega)
section A
variable {I : Nat → Int → Int} {P : Nat → Option Nat}
theorem bf_m16 (h : iv_A I P) : I 96 1 ≤ 16 := (h.1 96 1).2
theorem bf_ep (h : iv_A I P) : iv_ep (I 96) := h.2.2.2.1.2.1
theorem bf_e50 {i x : Int} (e : i = 50 + 4 * x) (h : 0 ≤ x ∧ x ≤ 15) : 0 ≤ (iv_a i).1 ∧ (iv_a i).2 ≤ 11 := by
  unfold iv_a
  repeat' refine iv_itR (fun h => ?_) (fun h => ?_)
  all_goals first | exact ⟨by decide, by decide⟩ | (exfalso; omega)
theorem bf_e51 {i x : Int} (e : i = 50 + 4 * x + 1) (h : 0 ≤ x ∧ x ≤ 15) : 0 ≤ (iv_a i).1 ∧ (iv_a i).2 ≤ 11 := by
  unfold iv_a
  repeat' refine iv_itR (fun h => ?_) (fun h => ?_)
  all_goals first | exact ⟨by decide, by decide⟩ | (exfalso; omega)
theorem bf_ends (h : iv_A I P) : ∀ w : Int, 0 ≤ w → w < I 96 1 → 0 ≤ I 96 (50 + 4 * w) ∧ I 96 (50 + 4 * w) < 12 ∧ 0 ≤ I 96 (50 + 4 * w + 1) ∧ I 96 (50 + 4 * w + 1) < 12 := by
  intro w h0 h1
  have hm := bf_m16 h
  have a := iv_rd96 h (bf_e50 (i := 50 + 4 * w) rfl ⟨h0, by omega⟩)
  have b := iv_rd96 h (bf_e51 (i := 50 + 4 * w + 1) rfl ⟨h0, by omega⟩)
  omega
theorem bf_endA {r t : Int} (h : iv_A I P) (hR : bf_R (I 96) g r t) (hn : I 96 0 ≤ r) : bf_G (I 96) g t :=
  bf_end (n := I 96 0) ⟨hR.1, hR.2.1, fun w a b => ⟨fun c => (hR.2.2 w a b).1 (by omega), fun c => (hR.2.2 w a b).2 (by omega)⟩⟩ rfl (bf_ep h) (bf_m16 h) (h.1 96 0).1
theorem bf_r1 {r k t a b : Int} (h : bf_J (I 96) (I 108) r k t) (hw : 0 ≤ k ∧ k < I 96 1) (ea : I 96 (50 + 4 * k) = a) (eb : I 96 (50 + 4 * k + 1) = b) (ha : 0 ≤ a ∧ a < 12) (hlt : I 108 a + 1 < I 108 b) : bf_J (I 96) (lf_up I 108 b (I 108 a + 1) 108) r k t := bf_rx h hw (Or.inl ⟨ea, eb⟩) ha hlt lf_up_s (fun j hj => lf_up_i hj)
theorem bf_le1 {a b : Int} (hlt : I 108 a + 1 < I 108 b) : lf_up I 108 b (I 108 a + 1) 108 b ≤ lf_up I 108 b (I 108 a + 1) 108 a + 1 := by
  have hne : a ≠ b := fun e => by subst e; omega
  rw [lf_up_s, lf_up_i hne]
  exact Int.le_refl _
theorem bf_r3 {r k t a b : Int} (h : bf_J f g r k t) (ea : f (50 + 4 * k) = a) (eb : f (50 + 4 * k + 1) = b) (h1 : g b ≤ g a + 1) (h2 : g a ≤ g b + 1) : bf_J f g r (k + 1) t := by
  subst ea eb
  exact bf_nx h h1 h2
theorem bf_r2 {r k t a b : Int} (h : bf_J (I 96) (I 108) r k t) (hw : 0 ≤ k ∧ k < I 96 1) (ea : I 96 (50 + 4 * k) = a) (eb : I 96 (50 + 4 * k + 1) = b) (hb : 0 ≤ b ∧ b < 12) (hlt : I 108 b + 1 < I 108 a) (hle : I 108 b ≤ I 108 a + 1) : bf_J (I 96) (lf_up I 108 a (I 108 b + 1) 108) r (k + 1) t := by
  have hne : b ≠ a := fun e => by subst e; omega
  refine bf_r3 (bf_rx h hw (Or.inr ⟨ea, eb⟩) hb hlt lf_up_s (fun j hj => lf_up_i hj)) ea eb ?_ ?_
  · rw [lf_up_s, lf_up_i hne]; omega
  · rw [lf_up_s, lf_up_i hne]; exact Int.le_refl _
theorem bf_Gt {t t' : Int} (h : bf_G f g t) (e : t' = t) : bf_G f g t' := by
  subst e
  exact h
end A
end BF
/-! how many of a row are true -/
section CT
variable {f f' : Int → Int}
def lf_cn (f : Int → Int) : Nat → Int
  | 0 => 0
  | k + 1 => lf_cn f k + f k
def lf_ct (f : Int → Int) (k : Int) : Int := lf_cn f k.toNat
theorem lf_cnc : ∀ m : Nat, (∀ j : Int, 0 ≤ j → j < m → f' j = f j) → lf_cn f' m = lf_cn f m
  | 0, _ => rfl
  | m + 1, h => by
    show lf_cn f' m + f' m = lf_cn f m + f m
    rw [lf_cnc m (fun j a b => h j a (by omega)), h m (by omega) (by omega)]
theorem lf_ctz {k : Int} (h0 : 0 ≤ k) (h : lf_ct f k = 0) (e1 : f' k = 0) (e2 : ∀ j, j ≠ k → f' j = f j) : lf_ct f' (k + 1) = 0 := by
  obtain ⟨m, rfl, h1, h2⟩ := pz_tn h0
  unfold lf_ct at h ⊢
  rw [h2]
  rw [h1] at h
  show lf_cn f' m + f' m = 0
  rw [lf_cnc m (fun j a b => e2 j (by omega)), h, e1]
  rfl
theorem lf_cnu {i : Int} (e1 : f' i = f i + 1) (e2 : ∀ j, j ≠ i → f' j = f j) (h0 : 0 ≤ i) : ∀ m : Nat, i < m → lf_cn f' m = lf_cn f m + 1
  | 0, h => by omega
  | m + 1, h => by
    show lf_cn f' m + f' m = lf_cn f m + f m + 1
    by_cases hi : i = m
    · subst hi
      rw [lf_cnc m (fun j a b => e2 j (by omega)), e1]
      omega
    · rw [lf_cnu e1 e2 h0 m (by omega), e2 m (fun e => hi e.symm)]
      omega
theorem lf_ctu {i k : Int} (h0 : 0 ≤ i) (h1 : i < k) (e1 : f' i = f i + 1) (e2 : ∀ j, j ≠ i → f' j = f j) : lf_ct f' k = lf_ct f k + 1 := lf_cnu e1 e2 h0 _ (by omega)
theorem lf_cnl (hb : ∀ j, f j ≤ 1) : ∀ m : Nat, lf_cn f m ≤ m
  | 0 => Int.le_refl 0
  | m + 1 => by
    have := lf_cnl hb m
    have := hb m
    show lf_cn f m + f m ≤ ((m + 1 : Nat) : Int)
    omega
theorem lf_cns (hb : ∀ j, f j ≤ 1) {i : Int} (h0 : 0 ≤ i) (hi : f i = 0) : ∀ m : Nat, i < m → lf_cn f m + 1 ≤ m
  | 0, h => by omega
  | m + 1, h => by
    show lf_cn f m + f m + 1 ≤ ((m + 1 : Nat) : Int)
    by_cases hq : i = m
    · subst hq
      have := lf_cnl hb m
      omega
    · have := lf_cns hb h0 hi m (by omega)
      have := hb m
      omega
theorem lf_ctl (hb : ∀ j, f j ≤ 1) {k : Int} (h : 0 ≤ k) : lf_ct f k ≤ k := by
  have := lf_cnl hb k.toNat
  unfold lf_ct
  omega
theorem lf_cts (hb : ∀ j, f j ≤ 1) {i k : Int} (h0 : 0 ≤ i) (h1 : i < k) (hi : f i = 0) : lf_ct f k + 1 ≤ k := by
  have := lf_cns hb h0 hi k.toNat (by omega)
  unfold lf_ct
  omega
def lf_zr (f : Int → Int) (k : Int) : Prop := ∀ j : Int, 0 ≤ j → j < k → f j = 0
theorem lf_zrS {k : Int} (h : lf_zr f k) (e1 : f' k = 0) (e2 : ∀ j, j ≠ k → f' j = f j) : lf_zr f' (k + 1) := by
  intro j a b
  by_cases hj : j = k
  · subst hj; exact e1
  · rw [e2 j hj]; exact h j a (by omega)
theorem lf_zr0 : ∀ m : Nat, lf_zr f m → lf_cn f m = 0
  | 0, _ => rfl
  | m + 1, h => by
    show lf_cn f m + f m = 0
    rw [lf_zr0 m (fun j a b => h j a (by omega)), h m (by omega) (by omega)]
    rfl
theorem lf_zr1 {k i : Int} (h : lf_zr f k) (hk : 156 ≤ k) (h0 : 0 ≤ i) (h1 : i < 156) (e1 : f' i = 1) (e2 : ∀ j, j ≠ i → f' j = f j) : lf_ct f' 156 = 1 := by
  have e := lf_ctu (k := 156) h0 h1 (by rw [e1, h i h0 (by omega)]; rfl) e2
  rw [e]
  have : lf_cn f 156 = 0 := lf_zr0 156 (fun j a b => h j a (by omega))
  show lf_cn f 156 + 1 = 1
  rw [this]
  rfl
end CT
/-! tries that were like -/
section TM
variable {f : Int → Int} {h t : Int}
def lf_tn (f : Int → Int) (h t : Int) : Nat → Int
  | 0 => 0
  | k + 1 => lf_tn f h t k + (if f (254 + 2 * k) = h ∧ (t = 0 ∨ f (254 + 2 * k + 1) = 1) then 1 else 0)
def lf_tm (f : Int → Int) (h t k : Int) : Int := lf_tn f h t k.toNat
theorem lf_tm0 : lf_tm f h t 0 = 0 := rfl
theorem lf_tmN {k : Int} (h0 : 0 ≤ k) : lf_tm f h t (k + 1) = lf_tm f h t k + (if f (254 + 2 * k) = h ∧ (t = 0 ∨ f (254 + 2 * k + 1) = 1) then 1 else 0) := by
  obtain ⟨m, rfl, h1, h2⟩ := pz_tn h0
  unfold lf_tm
  rw [h2, h1]
  rfl
theorem lf_tm1 {k : Int} (h0 : 0 ≤ k) (hc : f (254 + 2 * k) = h ∧ (t = 0 ∨ f (254 + 2 * k + 1) = 1)) : lf_tm f h t (k + 1) = lf_tm f h t k + 1 := by rw [lf_tmN h0, if_pos hc]
theorem lf_tm2 {k : Int} (h0 : 0 ≤ k) (hc : ¬ (f (254 + 2 * k) = h ∧ (t = 0 ∨ f (254 + 2 * k + 1) = 1))) : lf_tm f h t (k + 1) = lf_tm f h t k + 0 := by rw [lf_tmN h0, if_neg hc]
end TM
