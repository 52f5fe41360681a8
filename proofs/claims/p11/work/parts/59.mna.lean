/-! HOW MANY: both sides as functions of longs, just as they are worked out; that they agree is counted through -/
theorem px_E_ldiv {ro : px_RO} {d k pc : Nat} {lv : px_L} {st : List Value} {x y : Int64} {h hF : px_H} {r : Option Value} (hf : px_fetch k pc = some (.ldiv, 1)) (hne : ¬ y = 0) (kk : px_E ro (d + 1) k (pc + 1, lv, .long (x / y) :: st, h) r hF) : px_E ro (d + 1) k (pc, lv, .long y :: .long x :: st, h) r hF := by
  refine px_E_one (σ' := (pc + 1, lv, .long (x / y) :: st, h)) ?_ kk
  unfold px_one; dsimp only; rw [hf]; dsimp only [px_ret, px_inv, px_op, px_oArl, px_arl]
  rw [if_neg hne]
theorem px_E_lrem {ro : px_RO} {d k pc : Nat} {lv : px_L} {st : List Value} {x y : Int64} {h hF : px_H} {r : Option Value} (hf : px_fetch k pc = some (.lrem, 1)) (hne : ¬ y = 0) (kk : px_E ro (d + 1) k (pc + 1, lv, .long (x - x / y * y) :: st, h) r hF) : px_E ro (d + 1) k (pc, lv, .long y :: .long x :: st, h) r hF := by
  refine px_E_one (σ' := (pc + 1, lv, .long (x - x / y * y) :: st, h)) ?_ kk
  unfold px_one; dsimp only; rw [hf]; dsimp only [px_ret, px_inv, px_op, px_oArl, px_arl]
  rw [if_neg hne]
theorem px_l0 {t : Nat} (ht : t < 1000) : ¬ (nI (t + 1)).toInt64 = 0 := by
  rw [nI_l (by omega)]
  intro e
  have := (lN_eq (a := t + 1) (b := 0) (by omega) (by omega)).mp (by rw [e]; rfl)
  omega
-- the class's weights
def cw_1 (C : Nat) : Nat → Int64
  | 0 => 1
  | t + 1 => cw_1 C t * (nI C + nI (t + 1)).toInt64 / (nI (t + 1)).toInt64
def cw_2 (x : Int32) (w : Int64) : Nat → Int64
  | 0 => w
  | t + 1 => cw_2 x w t * x.toInt64
def cw_3 (w : Int64) : Nat → Int64
  | 0 => w
  | t + 1 => cw_3 w t * 10
def cw (N : Nat) (x : Int32) (C : Nat) : Int64 := bif Nat.blt N C then 0 else cw_3 (cw_2 x (cw_1 C (N - C)) (N - C)) (12 - N)
abbrev cwL (i : Int32) (w : Int64) (n m c : Int32) : px_L := [(5, .int i), (3, .long w), (0, .int n), (1, .int m), (2, .int c)]
set_option maxRecDepth 100000 in
theorem cw_loop1 {ro : px_RO} {d N C : Nat} {x : Int32} {h hF : px_H} {r : Option Value} (hN : N ≤ 12) (hC : C ≤ N) (kk : px_E ro (d + 1) 153 (38, cwL (nI (N - C + 1)) (cw_1 C (N - C)) (nI N) x (nI C), [], h) r hF) : ∀ m t, t + m = N - C → px_E ro (d + 1) 153 (12, cwL (nI (t + 1)) (cw_1 C t) (nI N) x (nI C), [], h) r hF := by
  intro m
  induction m with
  | zero =>
    intro t ht
    have e : t = N - C := by omega
    subst e
    refine px_E_seg 4 (σ' := (17, cwL (nI (N - C + 1)) (cw_1 C (N - C)) (nI N) x (nI C), [.int (nI N - nI C), .int (nI (N - C + 1))], h)) rfl ?_
    refine px_E_icmp (t := 38) rfl rfl (fun _ => kk) (fun n9 => absurd ?_ n9)
    show nI N - nI C < nI (N - C + 1)
    rw [pk_sub hC]
    exact nI_lt (by omega) (by omega)
  | succ m ih =>
    intro t ht
    refine px_E_seg 4 (σ' := (17, cwL (nI (t + 1)) (cw_1 C t) (nI N) x (nI C), [.int (nI N - nI C), .int (nI (t + 1))], h)) rfl ?_
    refine px_E_icmp (t := 38) rfl rfl (fun c9 => absurd c9 ?_) (fun _ => ?_)
    · show ¬ nI N - nI C < nI (t + 1)
      rw [pk_sub hC]
      exact nI_nlt (by omega) (by omega)
    · refine px_E_seg 8 (σ' := (30, cwL (nI (t + 1)) (cw_1 C t) (nI N) x (nI C), [.long (nI (t + 1)).toInt64, .long (cw_1 C t * (nI C + nI (t + 1)).toInt64)], h)) rfl ?_
      refine px_E_ldiv rfl (px_l0 (by omega)) ?_
      refine px_E_seg 3 (σ' := (12, cwL (nI (t + 1) + 1) (cw_1 C (t + 1)) (nI N) x (nI C), [], h)) rfl ?_
      rw [nI_1]
      exact ih (t + 1) (by omega)
set_option maxRecDepth 100000 in
theorem cw_loop2 {ro : px_RO} {d N C : Nat} {x : Int32} {w : Int64} {h hF : px_H} {r : Option Value} (hN : N ≤ 12) (hC : C ≤ N) (kk : px_E ro (d + 1) 153 (60, cwL (nI (N - C)) (cw_2 x w (N - C)) (nI N) x (nI C), [], h) r hF) : ∀ m t, t + m = N - C → px_E ro (d + 1) 153 (41, cwL (nI t) (cw_2 x w t) (nI N) x (nI C), [], h) r hF := by
  intro m
  induction m with
  | zero =>
    intro t ht
    have e : t = N - C := by omega
    subst e
    refine px_E_seg 4 (σ' := (46, cwL (nI (N - C)) (cw_2 x w (N - C)) (nI N) x (nI C), [.int (nI N - nI C), .int (nI (N - C))], h)) rfl ?_
    refine px_E_icmp (t := 60) rfl rfl (fun _ => kk) (fun n9 => absurd ?_ n9)
    show nI N - nI C ≤ nI (N - C)
    rw [pk_sub hC]
    exact Int32.le_refl _
  | succ m ih =>
    intro t ht
    refine px_E_seg 4 (σ' := (46, cwL (nI t) (cw_2 x w t) (nI N) x (nI C), [.int (nI N - nI C), .int (nI t)], h)) rfl ?_
    refine px_E_icmp (t := 60) rfl rfl (fun c9 => absurd c9 ?_) (fun _ => ?_)
    · show ¬ nI N - nI C ≤ nI t
      rw [pk_sub hC]
      exact nI_ge (by omega) (by omega)
    · refine px_E_seg 7 (σ' := (41, cwL (nI t + 1) (cw_2 x w (t + 1)) (nI N) x (nI C), [], h)) rfl ?_
      rw [nI_1]
      exact ih (t + 1) (by omega)
set_option maxRecDepth 100000 in
theorem cw_loop3 {ro : px_RO} {d N C : Nat} {x : Int32} {w : Int64} {h : px_H} (hN : N ≤ 12) : ∀ m t, t + m = 12 - N → px_E ro (d + 1) 153 (63, cwL (nI (N + t)) (cw_3 w t) (nI N) x (nI C), [], h) (some (.long (cw_3 w (12 - N)))) h := by
  intro m
  induction m with
  | zero =>
    intro t ht
    have e : t = 12 - N := by omega
    subst e
    refine px_E_seg 2 (σ' := (67, cwL (nI (N + (12 - N))) (cw_3 w (12 - N)) (nI N) x (nI C), [.int 12, .int (nI (N + (12 - N)))], h)) rfl ?_
    refine px_E_icmp (t := 82) rfl rfl (fun _ => ?_) (fun n9 => absurd ?_ n9)
    · refine px_E_seg 1 (σ' := (83, cwL (nI (N + (12 - N))) (cw_3 w (12 - N)) (nI N) x (nI C), [.long (cw_3 w (12 - N))], h)) rfl ?_
      exact px_E_ret rfl rfl
    · show nI 12 ≤ nI (N + (12 - N))
      exact nI_le (by omega) (by omega)
  | succ m ih =>
    intro t ht
    refine px_E_seg 2 (σ' := (67, cwL (nI (N + t)) (cw_3 w t) (nI N) x (nI C), [.int 12, .int (nI (N + t))], h)) rfl ?_
    refine px_E_icmp (t := 82) rfl rfl (fun c9 => absurd c9 ?_) (fun _ => ?_)
    · show ¬ nI 12 ≤ nI (N + t)
      exact nI_ge (by omega) (by omega)
    · refine px_E_seg 6 (σ' := (63, cwL (nI (N + t) + 1) (cw_3 w (t + 1)) (nI N) x (nI C), [], h)) rfl ?_
      rw [nI_1, show N + t + 1 = N + (t + 1) from rfl]
      exact ih (t + 1) (by omega)
set_option maxRecDepth 100000 in
theorem cw_ok {ro : px_RO} {d N C : Nat} {x : Int32} {h : px_H} (hN : N ≤ 12) (hC : C ≤ 12) : px_M ro (d + 1) 153 [.int (nI N), .int x, .int (nI C)] h (some (.long (cw N x C))) h := by
  show px_E ro (d + 1) 153 (0, [(0, .int (nI N)), (1, .int x), (2, .int (nI C))], [], h) _ _
  refine px_E_seg 2 (σ' := (2, [(0, .int (nI N)), (1, .int x), (2, .int (nI C))], [.int (nI C), .int (nI N)], h)) rfl ?_
  refine px_E_icmp (t := 7) rfl rfl (fun c9 => ?_) (fun c9 => ?_)
  · have hCN : C ≤ N := (nI_leI (by omega) (by omega)).mp c9
    have e : cw N x C = cw_3 (cw_2 x (cw_1 C (N - C)) (N - C)) (12 - N) := by unfold cw; rw [px_bltF hCN]; rfl
    rw [e]
    refine px_E_seg 4 (σ' := (12, cwL (nI (0 + 1)) (cw_1 C 0) (nI N) x (nI C), [], h)) rfl ?_
    refine cw_loop1 hN hCN ?_ (N - C) 0 (by omega)
    refine px_E_seg 2 (σ' := (41, cwL (nI 0) (cw_2 x (cw_1 C (N - C)) 0) (nI N) x (nI C), [], h)) rfl ?_
    refine cw_loop2 hN hCN ?_ (N - C) 0 (by omega)
    refine px_E_seg 2 (σ' := (63, cwL (nI (N + 0)) (cw_3 (cw_2 x (cw_1 C (N - C)) (N - C)) 0) (nI N) x (nI C), [], h)) rfl ?_
    exact cw_loop3 hN (12 - N) 0 (by omega)
  · have hCN : N < C := by
      rcases Nat.lt_or_ge N C with q | q
      · exact q
      · exact absurd (nI_le q (by omega)) c9
    have e : cw N x C = 0 := by unfold cw; rw [px_bltY hCN]; rfl
    rw [e]
    refine px_E_seg 1 (σ' := (6, [(0, .int (nI N)), (1, .int x), (2, .int (nI C))], [.long 0], h)) rfl ?_
    exact px_E_ret rfl rfl
-- the common divisor, n steps at most
def gl : Nat → Int64 → Int64 → Int64
  | 0, a, _ => a
  | n + 1, a, b => if b = 0 then a else gl n b (a - a / b * b)
abbrev ilL (i : Int32) (a b u lo : Int64) (f : Int32) : px_L := [(9, .int i), (7, .long b), (5, .long a), (0, .long u), (2, .long lo), (4, .int f)]
abbrev ilM (i : Int32) (a b q u lo : Int64) (f : Int32) : px_L := [(9, .int i), (7, .long b), (5, .long a), (10, .long q), (0, .long u), (2, .long lo), (4, .int f)]
def lt_ (u lo : Int64) (f : Int32) : Int64 := if gl 1000 lo u = 0 then (if f = 0 then u else lo) else (if f = 0 then u else lo) / gl 1000 lo u
/-! behind the loop -/
set_option maxRecDepth 100000 in
theorem il_fin {ro : px_RO} {d : Nat} {u lo a b z : Int64} {f : Int32} {h : px_H} : px_E ro (d + 1) 125 (57, [(9, .long z), (7, .long b), (5, .long a), (0, .long u), (2, .long lo), (4, .int f)], [], h) (some (.long (if a = 0 then z else z / a))) h := by
  refine px_E_seg 3 (σ' := (61, [(9, .long z), (7, .long b), (5, .long a), (0, .long u), (2, .long lo), (4, .int f)], [.int (lg_cmp a 0)], h)) rfl ?_
  refine px_E_if (t := 69) rfl rfl (fun c9 => ?_) (fun c9 => ?_)
  · have ha : ¬ a = 0 := fun e => c9 ((lg_cmp_eq a 0).mpr e)
    refine px_E_seg 2 (σ' := (73, [(9, .long z), (7, .long b), (5, .long a), (0, .long u), (2, .long lo), (4, .int f)], [.long a, .long z], h)) rfl ?_
    refine px_E_ldiv rfl ha ?_
    rw [if_neg ha]
    exact px_E_ret rfl rfl
  · have ha : a = 0 := (lg_cmp_eq a 0).mp (Classical.not_not.mp c9)
    refine px_E_seg 2 (σ' := (74, [(9, .long z), (7, .long b), (5, .long a), (0, .long u), (2, .long lo), (4, .int f)], [.long z], h)) rfl ?_
    rw [if_pos ha]
    exact px_E_ret rfl rfl
set_option maxRecDepth 100000 in
theorem il_tail {ro : px_RO} {d : Nat} {u lo a b q : Int64} {i f : Int32} {h : px_H} : px_E ro (d + 1) 125 (45, ilM i a b q u lo f, [], h) (some (.long (if a = 0 then (if f = 0 then u else lo) else (if f = 0 then u else lo) / a))) h := by
  refine px_E_seg 1 (σ' := (47, ilM i a b q u lo f, [.int f], h)) rfl ?_
  refine px_E_if (t := 54) rfl rfl (fun c9 => ?_) (fun c9 => ?_)
  · have hf : f = 0 := c9
    rw [if_pos hf]
    refine px_E_seg 2 (σ' := (57, [(9, .long u), (7, .long b), (5, .long a), (0, .long u), (2, .long lo), (4, .int f)], [], h)) rfl ?_
    exact il_fin
  · have hf : ¬ f = 0 := c9
    rw [if_neg hf]
    refine px_E_seg 3 (σ' := (57, [(9, .long lo), (7, .long b), (5, .long a), (0, .long u), (2, .long lo), (4, .int f)], [], h)) rfl ?_
    exact il_fin
set_option maxRecDepth 100000 in
theorem il_tail0 {ro : px_RO} {d : Nat} {u lo a b : Int64} {i f : Int32} {h : px_H} : px_E ro (d + 1) 125 (45, ilL i a b u lo f, [], h) (some (.long (if a = 0 then (if f = 0 then u else lo) else (if f = 0 then u else lo) / a))) h := by
  refine px_E_seg 1 (σ' := (47, ilL i a b u lo f, [.int f], h)) rfl ?_
  refine px_E_if (t := 54) rfl rfl (fun c9 => ?_) (fun c9 => ?_)
  · have hf : f = 0 := c9
    rw [if_pos hf]
    refine px_E_seg 2 (σ' := (57, [(9, .long u), (7, .long b), (5, .long a), (0, .long u), (2, .long lo), (4, .int f)], [], h)) rfl ?_
    exact il_fin
  · have hf : ¬ f = 0 := c9
    rw [if_neg hf]
    refine px_E_seg 3 (σ' := (57, [(9, .long lo), (7, .long b), (5, .long a), (0, .long u), (2, .long lo), (4, .int f)], [], h)) rfl ?_
    exact il_fin
set_option maxRecDepth 100000 in
theorem il_loop {ro : px_RO} {d : Nat} {u lo : Int64} {f : Int32} {h : px_H} : ∀ (m i : Nat) (a b q : Int64), i + m = 1000 → px_E ro (d + 1) 125 (9, ilM (nI i) a b q u lo f, [], h) (some (.long (if gl m a b = 0 then (if f = 0 then u else lo) else (if f = 0 then u else lo) / gl m a b))) h := by
  intro m
  induction m with
  | zero =>
    intro i a b q hi
    have e : i = 1000 := by omega
    subst e
    refine px_E_seg 3 (σ' := (45, ilM (nI 1000) a b q u lo f, [], h)) rfl ?_
    exact il_tail
  | succ m ih =>
    intro i a b q hi
    refine px_E_seg 2 (σ' := (14, ilM (nI i) a b q u lo f, [.int 1000, .int (nI i)], h)) rfl ?_
    refine px_E_icmp (t := 45) rfl rfl (fun c9 => absurd c9 (nI_ge (a := i) (b := 1000) (by omega) (by decide))) (fun _ => ?_)
    refine px_E_seg 3 (σ' := (21, ilM (nI i) a b q u lo f, [.int (lg_cmp b 0)], h)) rfl ?_
    refine px_E_if (t := 45) rfl rfl (fun c9 => ?_) (fun c9 => ?_)
    · have hb : b = 0 := (lg_cmp_eq b 0).mp c9
      have e : gl (m + 1) a b = a := by show (if b = 0 then a else _) = a; rw [if_pos hb]
      rw [e]
      exact il_tail
    · have hb : ¬ b = 0 := fun e => c9 ((lg_cmp_eq b 0).mpr e)
      have e : gl (m + 1) a b = gl m b (a - a / b * b) := by show (if b = 0 then a else _) = _; rw [if_neg hb]
      rw [e]
      refine px_E_seg 2 (σ' := (28, ilM (nI i) a b q u lo f, [.long b, .long a], h)) rfl ?_
      refine px_E_lrem rfl hb ?_
      refine px_E_seg 5 (σ' := (39, [(7, .long (a - a / b * b)), (5, .long b), (10, .long (a - a / b * b)), (9, .int (nI i)), (0, .long u), (2, .long lo), (4, .int f)], [], h)) rfl ?_
      refine px_E_seg 2 (σ' := (9, ilM (nI i + 1) b (a - a / b * b) (a - a / b * b) u lo f, [], h)) rfl ?_
      rw [nI_1]
      exact ih (i + 1) b _ _ (by omega)
set_option maxRecDepth 100000 in
theorem il_ok {ro : px_RO} {d : Nat} {u lo : Int64} {f : Int32} {h : px_H} : px_M ro (d + 1) 125 [.long u, .long lo, .int f] h (some (.long (lt_ u lo f))) h := by
  show px_E ro (d + 1) 125 (0, [(0, .long u), (2, .long lo), (4, .int f)], [], h) _ _
  refine px_E_seg 6 (σ' := (9, ilL (nI 0) lo u u lo f, [], h)) rfl ?_
  -- the first round, without a rest yet
  refine px_E_seg 5 (σ' := (20 - 0, ilL (nI 0) lo u u lo f, [.long 0, .long u], h)) rfl ?_
  refine px_E_seg 1 (σ' := (21, ilL (nI 0) lo u u lo f, [.int (lg_cmp u 0)], h)) rfl ?_
  unfold lt_
  refine px_E_if (t := 45) rfl rfl (fun c9 => ?_) (fun c9 => ?_)
  · have hb : u = 0 := (lg_cmp_eq u 0).mp c9
    have e : gl 1000 lo u = lo := by show (if u = 0 then lo else _) = lo; rw [if_pos hb]
    rw [e]
    exact il_tail0
  · have hb : ¬ u = 0 := fun e => c9 ((lg_cmp_eq u 0).mpr e)
    have e : gl 1000 lo u = gl 999 u (lo - lo / u * u) := by show (if u = 0 then lo else _) = _; rw [if_neg hb]
    rw [e]
    refine px_E_seg 2 (σ' := (28, ilL (nI 0) lo u u lo f, [.long u, .long lo], h)) rfl ?_
    refine px_E_lrem rfl hb ?_
    refine px_E_seg 5 (σ' := (39, [(7, .long (lo - lo / u * u)), (5, .long u), (10, .long (lo - lo / u * u)), (9, .int (nI 0)), (0, .long u), (2, .long lo), (4, .int f)], [], h)) rfl ?_
    refine px_E_seg 2 (σ' := (9, ilM (nI 0 + 1) u (lo - lo / u * u) (lo - lo / u * u) u lo f, [], h)) rfl ?_
    rw [nI_1]
    exact il_loop 999 1 _ _ _ (by omega)
