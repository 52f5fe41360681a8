-- the reference's weights
def pw (v : Int64) : Nat → Int64
  | 0 => 1
  | t + 1 => pw v t * v
set_option maxRecDepth 100000 in
theorem pw_loop {ro : px_RO} {d N : Nat} {v : Int64} {h : px_H} (hN : N < 1000) : ∀ m t, t + m = N → px_E ro (d + 1) 310 (5, [(5, .int (nI t)), (3, .long (pw v t)), (0, .long v), (2, .int (nI N))], [], h) (some (.long (pw v N))) h := by
  intro m
  induction m with
  | zero =>
    intro t ht
    have e : t = N := by omega
    subst e
    refine px_E_seg 2 (σ' := (8, [(5, .int (nI t)), (3, .long (pw v t)), (0, .long v), (2, .int (nI t))], [.int (nI t), .int (nI t)], h)) rfl ?_
    refine px_E_icmp (t := 21) rfl rfl (fun _ => ?_) (fun n9 => absurd (Int32.le_refl _) n9)
    refine px_E_seg 1 (σ' := (22, [(5, .int (nI t)), (3, .long (pw v t)), (0, .long v), (2, .int (nI t))], [.long (pw v t)], h)) rfl ?_
    exact px_E_ret rfl rfl
  | succ m ih =>
    intro t ht
    refine px_E_seg 2 (σ' := (8, [(5, .int (nI t)), (3, .long (pw v t)), (0, .long v), (2, .int (nI N))], [.int (nI N), .int (nI t)], h)) rfl ?_
    refine px_E_icmp (t := 21) rfl rfl (fun c9 => absurd c9 (nI_ge (by omega) (by omega))) (fun _ => ?_)
    refine px_E_seg 6 (σ' := (5, [(5, .int (nI t + 1)), (3, .long (pw v (t + 1))), (0, .long v), (2, .int (nI N))], [], h)) rfl ?_
    rw [nI_1]
    exact ih (t + 1) (by omega)
set_option maxRecDepth 100000 in
theorem pw_ok {ro : px_RO} {d N : Nat} {v : Int64} {n : Int32} {h : px_H} (hN : N < 1000) (hn : n = nI N) : px_M ro (d + 1) 310 [.long v, .int n] h (some (.long (pw v N))) h := by
  subst hn
  show px_E ro (d + 1) 310 (0, [(0, .long v), (2, .int (nI N))], [], h) _ _
  refine px_E_seg 4 (σ' := (5, [(5, .int (nI 0)), (3, .long (pw v 0)), (0, .long v), (2, .int (nI N))], [], h)) rfl ?_
  exact pw_loop hN N 0 (by omega)
def rw_1 (N C : Nat) : Nat → Int64
  | 0 => 1
  | t + 1 => rw_1 N C t * (nI N - nI C + nI (t + 1)).toInt64 / (nI (t + 1)).toInt64
def rwF (N : Nat) (x : Int32) (C : Nat) : Int64 := bif Nat.blt N C then 0 else rw_1 N C C * pw (10 - x).toInt64 C * pw x.toInt64 (N - C) * pw 10 (12 - N)
abbrev rwL (i : Int32) (w : Int64) (m c n : Int32) : px_L := [(5, .int i), (3, .long w), (0, .int m), (1, .int c), (2, .int n)]
set_option maxRecDepth 100000 in
theorem rw_loop1 {ro : px_RO} {d N C : Nat} {x : Int32} {h hF : px_H} {r : Option Value} (hC : C ≤ 12) (kk : px_E ro (d + 1) 309 (38, rwL (nI (C + 1)) (rw_1 N C C) x (nI C) (nI N), [], h) r hF) : ∀ m t, t + m = C → px_E ro (d + 1) 309 (12, rwL (nI (t + 1)) (rw_1 N C t) x (nI C) (nI N), [], h) r hF := by
  intro m
  induction m with
  | zero =>
    intro t ht
    have e : t = C := by omega
    subst e
    refine px_E_seg 2 (σ' := (15, rwL (nI (t + 1)) (rw_1 N t t) x (nI t) (nI N), [.int (nI t), .int (nI (t + 1))], h)) rfl ?_
    exact px_E_icmp (t := 38) rfl rfl (fun _ => kk) (fun n9 => absurd (nI_lt (by omega) (by omega)) n9)
  | succ m ih =>
    intro t ht
    refine px_E_seg 2 (σ' := (15, rwL (nI (t + 1)) (rw_1 N C t) x (nI C) (nI N), [.int (nI C), .int (nI (t + 1))], h)) rfl ?_
    refine px_E_icmp (t := 38) rfl rfl (fun c9 => absurd c9 (nI_nlt (by omega) (by omega))) (fun _ => ?_)
    refine px_E_seg 6 (σ' := (25, rwL (nI (t + 1)) (rw_1 N C t) x (nI C) (nI N), [.int (nI N - nI C + nI (t + 1)), .long (rw_1 N C t)], h)) rfl ?_
    refine px_E_seg 4 (σ' := (30, rwL (nI (t + 1)) (rw_1 N C t) x (nI C) (nI N), [.long (nI (t + 1)).toInt64, .long (rw_1 N C t * (nI N - nI C + nI (t + 1)).toInt64)], h)) rfl ?_
    refine px_E_ldiv rfl (px_l0 (by omega)) ?_
    refine px_E_seg 3 (σ' := (12, rwL (nI (t + 1) + 1) (rw_1 N C (t + 1)) x (nI C) (nI N), [], h)) rfl ?_
    rw [nI_1]
    exact ih (t + 1) (by omega)
set_option maxRecDepth 100000 in
set_option maxRecDepth 100000 in
theorem rw_ok {ro : px_RO} {d N C : Nat} {x : Int32} {h : px_H} (hN : N ≤ 12) (hC : C ≤ 12) : px_M ro (d + 2) 309 [.int x, .int (nI C), .int (nI N)] h (some (.long (rwF N x C))) h := by
  show px_E ro (d + 2) 309 (0, [(0, .int x), (1, .int (nI C)), (2, .int (nI N))], [], h) _ _
  refine px_E_seg 2 (σ' := (2, [(0, .int x), (1, .int (nI C)), (2, .int (nI N))], [.int (nI C), .int (nI N)], h)) rfl ?_
  refine px_E_icmp (t := 7) rfl rfl (fun c9 => ?_) (fun c9 => ?_)
  · have hCN : C ≤ N := (nI_leI (by omega) (by omega)).mp c9
    have e : rwF N x C = rw_1 N C C * pw (10 - x).toInt64 C * pw x.toInt64 (N - C) * pw 10 (12 - N) := by unfold rwF; rw [px_bltF hCN]; rfl
    rw [e]
    refine px_E_seg 4 (σ' := (12, rwL (nI (0 + 1)) (rw_1 N C 0) x (nI C) (nI N), [], h)) rfl ?_
    refine rw_loop1 hC ?_ C 0 (by omega)
    generalize nI (C + 1) = z
    refine px_E_seg 4 (σ' := (43, rwL z (rw_1 N C C) x (nI C) (nI N), [.int (10 - x), .long (rw_1 N C C)], h)) rfl ?_
    refine px_E_seg 2 (σ' := (45, rwL z (rw_1 N C C) x (nI C) (nI N), [.int (nI C), .long (10 - x).toInt64, .long (rw_1 N C C)], h)) rfl ?_
    refine px_E_call (j := 310) (as := [.long (10 - x).toInt64, .int (nI C)]) (rest := [.long (rw_1 N C C)]) (v := some (.long (pw (10 - x).toInt64 C))) (h1 := h) rfl rfl rfl (pw_ok (by omega) rfl) ?_
    refine px_E_seg 5 (σ' := (53, rwL z (rw_1 N C C) x (nI C) (nI N), [.int (nI C), .int (nI N), .long x.toInt64, .long (rw_1 N C C * pw (10 - x).toInt64 C)], h)) rfl ?_
    refine px_E_seg 1 (σ' := (54, rwL z (rw_1 N C C) x (nI C) (nI N), [.int (nI N - nI C), .long x.toInt64, .long (rw_1 N C C * pw (10 - x).toInt64 C)], h)) rfl ?_
    refine px_E_call (j := 310) (as := [.long x.toInt64, .int (nI N - nI C)]) (rest := [.long (rw_1 N C C * pw (10 - x).toInt64 C)]) (v := some (.long (pw x.toInt64 (N - C)))) (h1 := h) rfl rfl rfl (pw_ok (by omega) (pk_sub hCN)) ?_
    refine px_E_seg 4 (σ' := (64, rwL z (rw_1 N C C) x (nI C) (nI N), [.int (nI N), .int 12, .long 10, .long (rw_1 N C C * pw (10 - x).toInt64 C * pw x.toInt64 (N - C))], h)) rfl ?_
    refine px_E_seg 1 (σ' := (65, rwL z (rw_1 N C C) x (nI C) (nI N), [.int (12 - nI N), .long 10, .long (rw_1 N C C * pw (10 - x).toInt64 C * pw x.toInt64 (N - C))], h)) rfl ?_
    refine px_E_call (j := 310) (as := [.long 10, .int (12 - nI N)]) (rest := [.long (rw_1 N C C * pw (10 - x).toInt64 C * pw x.toInt64 (N - C))]) (v := some (.long (pw 10 (12 - N)))) (h1 := h) rfl rfl rfl (pw_ok (by omega) (pk_sub (a := 12) hN)) ?_
    refine px_E_seg 1 (σ' := (69, rwL z (rw_1 N C C) x (nI C) (nI N), [.long (rw_1 N C C * pw (10 - x).toInt64 C * pw x.toInt64 (N - C) * pw 10 (12 - N))], h)) rfl ?_
    exact px_E_ret rfl rfl
  · have hCN : N < C := by
      rcases Nat.lt_or_ge N C with q | q
      · exact q
      · exact absurd (nI_le q (by omega)) c9
    have e : rwF N x C = 0 := by unfold rwF; rw [px_bltY hCN]; rfl
    rw [e]
    refine px_E_seg 1 (σ' := (6, [(0, .int x), (1, .int (nI C)), (2, .int (nI N))], [.long 0], h)) rfl ?_
    exact px_E_ret rfl rfl
/-! whether the common divisor is found in n steps -/
def gt_ : Nat → Int64 → Int64 → Bool
  | 0, _, b => decide (b = 0)
  | n + 1, a, b => if b = 0 then true else gt_ n b (a - a / b * b)
abbrev cmM (p q r x y : Int64) : px_L := [(6, .long q), (4, .long p), (8, .long r), (0, .long x), (2, .long y)]
set_option maxRecDepth 100000 in
theorem cm_loop {ro : px_RO} {d : Nat} {x y : Int64} {h : px_H} : ∀ (m : Nat) (p q r : Int64), gt_ m p q = true → px_E ro (d + 1) 292 (6, cmM p q r x y, [], h) (some (.long (gl m p q))) h := by
  intro m
  induction m with
  | zero =>
    intro p q r hg
    have hq : q = 0 := of_decide_eq_true hg
    refine px_E_seg 3 (σ' := (10, cmM p q r x y, [.int (lg_cmp q 0)], h)) rfl ?_
    refine px_E_if (t := 31) rfl rfl (fun _ => ?_) (fun n9 => absurd ((lg_cmp_eq q 0).mpr hq) n9)
    refine px_E_seg 1 (σ' := (33, cmM p q r x y, [.long p], h)) rfl ?_
    exact px_E_ret rfl rfl
  | succ m ih =>
    intro p q r hg
    refine px_E_seg 3 (σ' := (10, cmM p q r x y, [.int (lg_cmp q 0)], h)) rfl ?_
    refine px_E_if (t := 31) rfl rfl (fun c9 => ?_) (fun c9 => ?_)
    · have hb : q = 0 := (lg_cmp_eq q 0).mp c9
      have e : gl (m + 1) p q = p := by show (if q = 0 then p else _) = p; rw [if_pos hb]
      rw [e]
      refine px_E_seg 1 (σ' := (33, cmM p q r x y, [.long p], h)) rfl ?_
      exact px_E_ret rfl rfl
    · have hb : ¬ q = 0 := fun e => c9 ((lg_cmp_eq q 0).mpr e)
      have e : gl (m + 1) p q = gl m q (p - p / q * q) := by show (if q = 0 then p else _) = _; rw [if_neg hb]
      have hg2 : gt_ m q (p - p / q * q) = true := by
        have h9 : (if q = 0 then true else gt_ m q (p - p / q * q)) = true := hg
        rw [if_neg hb] at h9
        exact h9
      rw [e]
      refine px_E_seg 2 (σ' := (17, cmM p q r x y, [.long q, .long p], h)) rfl ?_
      refine px_E_lrem rfl hb ?_
      refine px_E_seg 6 (σ' := (6, cmM q (p - p / q * q) (p - p / q * q) x y, [], h)) rfl ?_
      exact ih _ _ _ hg2
set_option maxRecDepth 100000 in
theorem cm_ok {ro : px_RO} {d : Nat} {x y : Int64} {h : px_H} (m : Nat) (hg : gt_ (m + 1) x y = true) : px_M ro (d + 1) 292 [.long x, .long y] h (some (.long (gl (m + 1) x y))) h := by
  show px_E ro (d + 1) 292 (0, [(0, .long x), (2, .long y)], [], h) _ _
  refine px_E_seg 4 (σ' := (6, [(6, .long y), (4, .long x), (0, .long x), (2, .long y)], [], h)) rfl ?_
  refine px_E_seg 3 (σ' := (10, [(6, .long y), (4, .long x), (0, .long x), (2, .long y)], [.int (lg_cmp y 0)], h)) rfl ?_
  refine px_E_if (t := 31) rfl rfl (fun c9 => ?_) (fun c9 => ?_)
  · have hb : y = 0 := (lg_cmp_eq y 0).mp c9
    have e : gl (m + 1) x y = x := by show (if y = 0 then x else _) = x; rw [if_pos hb]
    rw [e]
    refine px_E_seg 1 (σ' := (33, [(6, .long y), (4, .long x), (0, .long x), (2, .long y)], [.long x], h)) rfl ?_
    exact px_E_ret rfl rfl
  · have hb : ¬ y = 0 := fun e => c9 ((lg_cmp_eq y 0).mpr e)
    have e : gl (m + 1) x y = gl m y (x - x / y * y) := by show (if y = 0 then x else _) = _; rw [if_neg hb]
    have hg2 : gt_ m y (x - x / y * y) = true := by
      have h9 : (if y = 0 then true else gt_ m y (x - x / y * y)) = true := hg
      rw [if_neg hb] at h9
      exact h9
    rw [e]
    refine px_E_seg 2 (σ' := (17, [(6, .long y), (4, .long x), (0, .long x), (2, .long y)], [.long y, .long x], h)) rfl ?_
    refine px_E_lrem rfl hb ?_
    refine px_E_seg 6 (σ' := (6, cmM y (x - x / y * y) (x - x / y * y) x y, [], h)) rfl ?_
    exact cm_loop m _ _ _ hg2
set_option maxRecDepth 100000 in
set_option maxRecDepth 100000 in
theorem pt_ok {ro : px_RO} {d : Nat} {u a : Int64} {f : Int32} {h : px_H} (m : Nat) (hg : gt_ (m + 1) u a = true) (hz : ¬ gl (m + 1) u a = 0) : px_M ro (d + 2) 291 [.long u, .long a, .int f] h (some (.long ((if f = 0 then u else a) / gl (m + 1) u a))) h := by
  show px_E ro (d + 2) 291 (0, [(0, .long u), (2, .long a), (4, .int f)], [], h) _ _
  have fin : ∀ z : Int64, px_E ro (d + 2) 291 (10, [(0, .long u), (2, .long a), (4, .int f)], [.long z], h) (some (.long (z / gl (m + 1) u a))) h := by
    intro z
    refine px_E_seg 2 (σ' := (12, [(0, .long u), (2, .long a), (4, .int f)], [.long a, .long u, .long z], h)) rfl ?_
    refine px_E_call (j := 292) (as := [.long u, .long a]) (rest := [.long z]) (v := some (.long (gl (m + 1) u a))) (h1 := h) rfl rfl rfl (cm_ok m hg) ?_
    refine px_E_ldiv rfl hz ?_
    exact px_E_ret rfl rfl
  refine px_E_seg 1 (σ' := (2, [(0, .long u), (2, .long a), (4, .int f)], [.int f], h)) rfl ?_
  refine px_E_if (t := 9) rfl rfl (fun c9 => ?_) (fun c9 => ?_)
  · have hf : f = 0 := c9
    rw [if_pos hf]
    refine px_E_seg 1 (σ' := (10, [(0, .long u), (2, .long a), (4, .int f)], [.long u], h)) rfl ?_
    exact fin u
  · have hf : ¬ f = 0 := c9
    rw [if_neg hf]
    refine px_E_seg 2 (σ' := (10, [(0, .long u), (2, .long a), (4, .int f)], [.long a], h)) rfl ?_
    exact fin a
-- the sums
def cS (x : Int32) (C : Nat) : Nat → Int64
  | 0 => 0
  | n + 1 => cS x C n + cw n x C
def rS (x : Int32) (C : Nat) : Nat → Int64
  | 0 => 0
  | n + 1 => rS x C n + rwF n x C
abbrev mnL (i : Int32) (s : Int64) (o : Nat) (m c k f : Int32) : px_L := [(7, .int i), (5, .long s), (0, .ref o), (1, .int m), (2, .int c), (3, .int k), (4, .int f)]
set_option maxRecDepth 100000 in
set_option maxRecDepth 100000 in
theorem cS_loop {ro : px_RO} {d C : Nat} {o : Nat} {x k f : Int32} {h hF : px_H} {r : Option Value} (hC : C ≤ 12) (kk : px_E ro (d + 2) 152 (65, mnL (nI 13) (cS x C 13) o x (nI C) k f, [], h) r hF) : ∀ m t, t + m = 13 → px_E ro (d + 2) 152 (40, mnL (nI t) (cS x C t) o x (nI C) k f, [], h) r hF := by
  intro m
  induction m with
  | zero =>
    intro t ht
    have e : t = 13 := by omega
    subst e
    refine px_E_seg 3 (σ' := (65, mnL (nI 13) (cS x C 13) o x (nI C) k f, [], h)) rfl kk
  | succ m ih =>
    intro t ht
    refine px_E_seg 2 (σ' := (44, mnL (nI t) (cS x C t) o x (nI C) k f, [.int 12, .int (nI t)], h)) rfl ?_
    refine px_E_icmp (t := 65) rfl rfl (fun c9 => absurd c9 (show ¬ nI 12 < nI t from nI_nlt (by omega) (by omega))) (fun _ => ?_)
    refine px_E_seg 4 (σ' := (53, mnL (nI t) (cS x C t) o x (nI C) k f, [.int (nI C), .int x, .int (nI t), .long (cS x C t)], h)) rfl ?_
    refine px_E_call (j := 153) (as := [.int (nI t), .int x, .int (nI C)]) (rest := [.long (cS x C t)]) (v := some (.long (cw t x C))) (h1 := h) rfl rfl rfl (cw_ok (by omega) hC) ?_
    refine px_E_seg 4 (σ' := (40, mnL (nI t + 1) (cS x C (t + 1)) o x (nI C) k f, [], h)) rfl ?_
    rw [nI_1]
    exact ih (t + 1) (by omega)
set_option maxRecDepth 100000 in
set_option maxRecDepth 100000 in
theorem rS_loop {ro : px_RO} {d C : Nat} {o : Nat} {x k f : Int32} {h hF : px_H} {r : Option Value} (hC : C ≤ 12) (kk : px_E ro (d + 3) 308 (65, mnL (nI 13) (rS x C 13) o x (nI C) k f, [], h) r hF) : ∀ m t, t + m = 13 → px_E ro (d + 3) 308 (40, mnL (nI t) (rS x C t) o x (nI C) k f, [], h) r hF := by
  intro m
  induction m with
  | zero =>
    intro t ht
    have e : t = 13 := by omega
    subst e
    refine px_E_seg 3 (σ' := (65, mnL (nI 13) (rS x C 13) o x (nI C) k f, [], h)) rfl kk
  | succ m ih =>
    intro t ht
    refine px_E_seg 2 (σ' := (44, mnL (nI t) (rS x C t) o x (nI C) k f, [.int 13, .int (nI t)], h)) rfl ?_
    refine px_E_icmp (t := 65) rfl rfl (fun c9 => absurd c9 (show ¬ nI 13 ≤ nI t from nI_ge (by omega) (by omega))) (fun _ => ?_)
    refine px_E_seg 4 (σ' := (53, mnL (nI t) (rS x C t) o x (nI C) k f, [.int (nI t), .int (nI C), .int x, .long (rS x C t)], h)) rfl ?_
    refine px_E_call (j := 309) (as := [.int x, .int (nI C), .int (nI t)]) (rest := [.long (rS x C t)]) (v := some (.long (rwF t x C))) (h1 := h) rfl rfl rfl (rw_ok (by omega) hC) ?_
    refine px_E_seg 4 (σ' := (40, mnL (nI t + 1) (rS x C (t + 1)) o x (nI C) k f, [], h)) rfl ?_
    rw [nI_1]
    exact ih (t + 1) (by omega)
set_option maxRecDepth 100000 in
set_option maxRecDepth 100000 in
theorem mnC {ro : px_RO} {d C K : Nat} {x f : Int32} {h : px_H} (hC : C ≤ 12) (hK : K ≤ 12) : px_E ro (d + 2) 152 (34, [(0, .ref 0), (1, .int x), (2, .int (nI C)), (3, .int (nI K)), (4, .int f)], [], h) (some (.long (lt_ (cw K x C) (cS x C 13) f))) h := by
  refine px_E_seg 4 (σ' := (40, mnL (nI 0) (cS x C 0) 0 x (nI C) (nI K) f, [], h)) rfl ?_
  refine cS_loop hC ?_ 13 0 rfl
  refine px_E_seg 3 (σ' := (68, mnL (nI 13) (cS x C 13) 0 x (nI C) (nI K) f, [.int (nI C), .int x, .int (nI K)], h)) rfl ?_
  refine px_E_call (j := 153) (as := [.int (nI K), .int x, .int (nI C)]) (rest := []) (v := some (.long (cw K x C))) (h1 := h) rfl rfl rfl (cw_ok hK hC) ?_
  refine px_E_seg 2 (σ' := (75, mnL (nI 13) (cS x C 13) 0 x (nI C) (nI K) f, [.int f, .long (cS x C 13), .long (cw K x C)], h)) rfl ?_
  refine px_E_call (j := 125) (as := [.long (cw K x C), .long (cS x C 13), .int f]) (rest := []) (v := some (.long (lt_ (cw K x C) (cS x C 13) f))) (h1 := h) rfl rfl rfl il_ok ?_
  exact px_E_ret rfl rfl
set_option maxRecDepth 100000 in
set_option maxRecDepth 100000 in
theorem mnR {ro : px_RO} {d C K : Nat} {x f : Int32} {h : px_H} (hC : C ≤ 12) (hK : K ≤ 12) (hg : gt_ 100 (rwF K x C) (rS x C 13) = true) (hz : ¬ gl 100 (rwF K x C) (rS x C 13) = 0) : px_E ro (d + 3) 308 (34, [(0, .ref 95), (1, .int x), (2, .int (nI C)), (3, .int (nI K)), (4, .int f)], [], h) (some (.long ((if f = 0 then rwF K x C else rS x C 13) / gl 100 (rwF K x C) (rS x C 13)))) h := by
  refine px_E_seg 4 (σ' := (40, mnL (nI 0) (rS x C 0) 95 x (nI C) (nI K) f, [], h)) rfl ?_
  refine rS_loop hC ?_ 13 0 rfl
  refine px_E_seg 3 (σ' := (68, mnL (nI 13) (rS x C 13) 95 x (nI C) (nI K) f, [.int (nI K), .int (nI C), .int x], h)) rfl ?_
  refine px_E_call (j := 309) (as := [.int x, .int (nI C), .int (nI K)]) (rest := []) (v := some (.long (rwF K x C))) (h1 := h) rfl rfl rfl (rw_ok hK hC) ?_
  refine px_E_seg 2 (σ' := (75, mnL (nI 13) (rS x C 13) 95 x (nI C) (nI K) f, [.int f, .long (rS x C 13), .long (rwF K x C)], h)) rfl ?_
  refine px_E_call (j := 291) (as := [.long (rwF K x C), .long (rS x C 13), .int f]) (rest := []) (v := some (.long ((if f = 0 then rwF K x C else rS x C 13) / gl 100 (rwF K x C) (rS x C 13)))) (h1 := h) rfl rfl rfl (pt_ok 99 hg hz) ?_
  exact px_E_ret rfl rfl
/-! all of it, counted through -/
def mnOk (m C K : Nat) : Bool := gt_ 100 (rwF K (nI m) C) (rS (nI m) C 13) && decide (¬ gl 100 (rwF K (nI m) C) (rS (nI m) C 13) = 0) && decide (lt_ (cw K (nI m) C) (cS (nI m) C 13) 0 = rwF K (nI m) C / gl 100 (rwF K (nI m) C) (rS (nI m) C 13)) && decide (lt_ (cw K (nI m) C) (cS (nI m) C 13) 1 = rS (nI m) C 13 / gl 100 (rwF K (nI m) C) (rS (nI m) C 13))
set_option maxRecDepth 100000 in
theorem mnOk_0 : (List.range 13).all (fun C => (List.range 13).all (fun K => mnOk 0 C K)) = true := by decide +kernel
set_option maxRecDepth 100000 in
theorem mnOk_1 : (List.range 13).all (fun C => (List.range 13).all (fun K => mnOk 1 C K)) = true := by decide +kernel
set_option maxRecDepth 100000 in
theorem mnOk_2 : (List.range 13).all (fun C => (List.range 13).all (fun K => mnOk 2 C K)) = true := by decide +kernel
set_option maxRecDepth 100000 in
theorem mnOk_3 : (List.range 13).all (fun C => (List.range 13).all (fun K => mnOk 3 C K)) = true := by decide +kernel
set_option maxRecDepth 100000 in
theorem mnOk_4 : (List.range 13).all (fun C => (List.range 13).all (fun K => mnOk 4 C K)) = true := by decide +kernel
set_option maxRecDepth 100000 in
theorem mnOk_5 : (List.range 13).all (fun C => (List.range 13).all (fun K => mnOk 5 C K)) = true := by decide +kernel
set_option maxRecDepth 100000 in
theorem mnOk_6 : (List.range 13).all (fun C => (List.range 13).all (fun K => mnOk 6 C K)) = true := by decide +kernel
set_option maxRecDepth 100000 in
theorem mnOk_7 : (List.range 13).all (fun C => (List.range 13).all (fun K => mnOk 7 C K)) = true := by decide +kernel
set_option maxRecDepth 100000 in
theorem mnOk_8 : (List.range 13).all (fun C => (List.range 13).all (fun K => mnOk 8 C K)) = true := by decide +kernel
set_option maxRecDepth 100000 in
theorem mnOk_9 : (List.range 13).all (fun C => (List.range 13).all (fun K => mnOk 9 C K)) = true := by decide +kernel
theorem mn_all {m C K : Nat} (hm : m ≤ 9) (hC : C ≤ 12) (hK : K ≤ 12) : mnOk m C K = true := by
  have use : ∀ {m : Nat}, (List.range 13).all (fun C => (List.range 13).all (fun K => mnOk m C K)) = true → mnOk m C K = true := fun h => List.all_eq_true.mp (List.all_eq_true.mp h C (List.mem_range.mpr (by omega))) K (List.mem_range.mpr (by omega))
  match m, hm with
  | 0, _ => exact use mnOk_0
  | 1, _ => exact use mnOk_1
  | 2, _ => exact use mnOk_2
  | 3, _ => exact use mnOk_3
  | 4, _ => exact use mnOk_4
  | 5, _ => exact use mnOk_5
  | 6, _ => exact use mnOk_6
  | 7, _ => exact use mnOk_7
  | 8, _ => exact use mnOk_8
  | 9, _ => exact use mnOk_9
  | n + 10, h => omega
