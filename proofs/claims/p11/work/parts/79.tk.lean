/-! what takes and pace say: the class -/
section TK
variable {J : Nat → Int → Int} {s t u : lf_Z} {f : Int → Int} {X : mn_X} {I : Nat → Int → Int} {a b p x : Int}
/-- worths of names are small -/
def cm_nm (N : Int → Int) : Prop := ∀ i : Int, 0 ≤ i → i ≤ 9 → cm_sm (N i)
/-- the names of pace, of takes, by the class's numbers -/
def xc_n0 (N M : Int → Int) : Prop := ∀ i : Int, 0 ≤ i → i ≤ 4 → M i = N i
def xc_n1 (N M : Int → Int) : Prop := (∀ i : Int, 0 ≤ i → i ≤ 8 → i ≠ 4 → M i = N i) ∧ M 10 = N 9
/-- answer of the class, by a law of a script: V of the names -/
def xc_A (k : Nat) (l : Int) (R : (Int → Int) → (Int → Int) → Prop) (V : (Int → Int) → Int) (I : Nat → Int → Int) : Prop := ∀ (u : lf_Z) (Q : Int → lf_Z → Prop) (N : Int → Int), (∀ c : Nat, c = 36 + 7 * k ∨ c = 37 + 7 * k ∨ c = 38 + 7 * k → u.1 c = I c) → R N (u.1 64) → cm_nm N → (∀ (v : Int) (w : lf_Z), (∀ c : Nat, c ≠ 63 → c ≠ 65 → c ≠ 66 → w.1 c = u.1 c) → w.2 = u.2 → v = V N → Q v w) → fw_84b k l Q u
/-- the law that rules, in the class -/
def xc_X (X : mn_X) (I : Nat → Int → Int) (P : Nat → Option Nat) : Prop :=
  (P 3 = none → ∀ N, X.1 N = 1 ∧ X.2 N = if 0 < N 6 then 0 else 5)
  ∧ ∀ k : Nat, P 3 = some k → k < 4 ∧ (I (37 + 7 * k) 0 = -1 → ∀ N, X.1 N = 1) ∧ (I (37 + 7 * k) 1 = -1 → ∀ N, X.2 N = if 0 < N 6 then 0 else 5)
    ∧ (I (37 + 7 * k) 0 ≠ -1 → ∃ V, xc_A k 0 xc_n0 V I ∧ ∀ N, X.1 N = max 0 (min 2 (V N))) ∧ (I (37 + 7 * k) 1 ≠ -1 → ∃ V, xc_A k 1 xc_n1 V I ∧ ∀ N, X.2 N = max 0 (min 10 (V N)))
/-- the names of takes, with so many more here and so much nerve more there -/
def mn_ng (J : Nat → Int → Int) (f : Int → Int) (size s w back mh mv : Int) (i : Int) : Int :=
  if i = 0 then size else if i = 1 then s else if i = 2 then J 2 s else if i = 3 then mn_he J f s (J 1 2).toNat + mh
  else if i = 5 then J 2 (mn_ac J w s) else if i = 6 then mv + mn_su (J 7) f (mn_ac J w s) (J 1 2).toNat else if i = 7 then mn_su (J 9) f (mn_ac J w s) (J 1 2).toNat
  else if i = 8 then back else if i = 9 then w else 0
/-- nerves and kinds are small -/
def mn_V (J : Nat → Int → Int) : Prop := ∀ q : Int, (0 ≤ J 7 q ∧ J 7 q ≤ 9) ∧ 0 ≤ J 2 q ∧ J 2 q ≤ 9
theorem mn_suB {g : Int → Int} (h : ∀ q, 0 ≤ g q ∧ g q ≤ 9) : ∀ k : Nat, 0 ≤ mn_su g f x k ∧ mn_su g f x k ≤ 9 * k := by
  intro k
  induction k with
  | zero => exact ⟨Int.le_refl 0, Int.le_refl 0⟩
  | succ k ih =>
    have := h k
    show 0 ≤ mn_su g f x k + (if f (12 + 2 * (k : Int)) = x then g k else 0) ∧ mn_su g f x k + (if f (12 + 2 * (k : Int)) = x then g k else 0) ≤ 9 * ((k + 1 : Nat) : Int)
    split <;> omega
theorem mn_heB : ∀ k : Nat, 0 ≤ mn_he J f x k ∧ mn_he J f x k ≤ k := by
  intro k
  induction k with
  | zero => exact ⟨Int.le_refl 0, Int.le_refl 0⟩
  | succ k ih =>
    show 0 ≤ mn_he J f x k + (if f (12 + 2 * (k : Int)) = x then 1 else 0) ∧ mn_he J f x k + (if f (12 + 2 * (k : Int)) = x then 1 else 0) ≤ ((k + 1 : Nat) : Int)
    split <;> omega
/-- nothing but the laws' scratch -/
def tk_f (s t : lf_Z) : Prop := (∀ c : Nat, c ≠ 63 → c ≠ 64 → c ≠ 65 → c ≠ 66 → t.1 c = s.1 c) ∧ t.2 = s.2
theorem tk_fr : tk_f s s := ⟨fun _ _ _ _ _ => rfl, rfl⟩
theorem tk_ft (h : tk_f s t) (g : tk_f t u) : tk_f s u := ⟨fun c a b d e => (g.1 c a b d e).trans (h.1 c a b d e), g.2.trans h.2⟩
theorem tk_64 {i v : Int} (h : tk_f s t) : tk_f s (lf_up t.1 64 i v, t.2.1, t.2.2) := ⟨fun c a b d e => (zu_r b).trans (h.1 c a b d e), h.2⟩
theorem fl_83 {Q : Int → lf_Z → Prop} (hJ : gc_J J s) (hW : mn_W J) (hS : rc_S s.1 f) (h : Q (mn_he J f a (J 1 2).toNat) s) : fw_83 a Q s := by
  have w2 := hW.2.2.1
  unfold fw_83
  refine ⟨fun x k u => u = s ∧ ∃ n : Nat, k = n ∧ k ≤ J 1 2 ∧ x = mn_he J f a n, ?_, ⟨rfl, 0, rfl, w2.1, rfl⟩⟩
  intro x k u ⟨eu, n, ek, k1, ex⟩
  rw [eu]
  unfold fw_83_p4
  rw [hJ 1 (by omega)]
  intro _ _
  refine ⟨fun c => ?_, fun c _ _ _ => ?_⟩
  · have : n = (J 1 2).toNat := by omega
    rw [ex, this]; exact h
  · have e := (hS.2.1 k (by omega) (by omega)).1
    rw [e]
    refine ⟨fun d => ?_, fun d => ?_⟩
    · unfold fw_83_p31
      refine ⟨rfl, n + 1, by omega, by omega, ?_⟩
      show x = mn_he J f a n + (if f (12 + 2 * (n : Int)) = a then 1 else 0)
      rw [← ek, if_neg d]; omega
    · unfold fw_83_p31
      refine ⟨rfl, n + 1, by omega, by omega, ?_⟩
      show x + 1 = mn_he J f a n + (if f (12 + 2 * (n : Int)) = a then 1 else 0)
      rw [← ek, if_pos (Classical.not_not.mp d)]; omega
theorem rc_Sk (h : rc_S s.1 f) (g : tk_f s t) : rc_S t.1 f := by
  unfold rc_S at h ⊢
  rw [g.1 16 (by decide) (by decide) (by decide) (by decide), g.1 17 (by decide) (by decide) (by decide) (by decide), g.1 18 (by decide) (by decide) (by decide) (by decide), g.1 19 (by decide) (by decide) (by decide) (by decide), g.1 20 (by decide) (by decide) (by decide) (by decide), g.1 21 (by decide) (by decide) (by decide) (by decide), g.1 15 (by decide) (by decide) (by decide) (by decide)]
  exact h
theorem gc_Jk (h : gc_J J s) (g : tk_f s t) : gc_J J t := fun c hc => (g.1 c (by omega) (by omega) (by omega) (by omega)).trans (h c hc)
/-- the names in all -/
theorem fl_82 {mh : Int} {Q : lf_Z → Prop} (hJ : gc_J J s) (hW : mn_W J) (hS : rc_S s.1 f) (hb : 0 ≤ b ∧ b < J 1 0) (k : ∀ t : lf_Z, tk_f s t → t.1 64 0 = a → t.1 64 1 = b → t.1 64 2 = J 2 b → t.1 64 3 = mn_he J f b (J 1 2).toNat + mh → (∀ i : Int, 4 ≤ i → t.1 64 i = s.1 64 i) → Q t) : fw_82 a b mh Q s := by
  unfold fw_82
  obtain ⟨u, hu⟩ : ∃ u : lf_Z, u = (lf_up (lf_up s.1 64 0 a) 64 1 b, s.2.1, s.2.2) := ⟨_, rfl⟩
  rw [← hu]
  have uf : tk_f s u := by
    rw [hu]
    exact ⟨fun c x y z w => (zu_r y).trans (lf_up_row y), rfl⟩
  have uJ := gc_Jk hJ uf
  have u0 : u.1 64 0 = a := by rw [hu]; exact (zu_i (by decide)).trans lf_up_s
  have u1 : u.1 64 1 = b := by rw [hu]; exact zu_s
  have ui : ∀ i : Int, 2 ≤ i → u.1 64 i = s.1 64 i := fun i hi => by rw [hu]; exact (zu_i (by omega)).trans (lf_up_i (by omega))
  have e1 : u.1 1 = J 1 := uJ 1 (by omega)
  refine fl_18 ⟨fun z => ?_, fun _ _ => ?_⟩
  · rw [e1, decide_eq_true hb.1, decide_eq_true hb.2] at z; cases z
  · unfold fw_82_p43
    intro _
    rw [uJ 2 (by omega)]
    have vf : tk_f s (lf_up u.1 64 2 (J 2 b), u.2.1, u.2.2) := tk_64 uf
    refine fl_83 (gc_Jk hJ vf) hW (rc_Sk hS vf) ?_
    refine k _ (tk_64 vf) ((zu_i (by decide)).trans ((zu_i (by decide)).trans u0)) ((zu_i (by decide)).trans ((zu_i (by decide)).trans u1)) ((zu_i (by decide)).trans zu_s) zu_s (fun i hi => (zu_i (by omega)).trans ((zu_i (by omega)).trans (ui i (by omega))))
theorem xc_Ac {k : Nat} {l : Int} {R : (Int → Int) → (Int → Int) → Prop} {V : (Int → Int) → Int} {N : Int → Int} (h : xc_A k l R V I) (e : ∀ c : Nat, c = 36 + 7 * k ∨ c = 37 + 7 * k ∨ c = 38 + 7 * k → s.1 c = I c) (g : tk_f s t) {Q : Int → lf_Z → Prop} (hk : k < 4) (hR : R N (t.1 64)) (hN : cm_nm N) (q : ∀ (v : Int) (w : lf_Z), tk_f s w → v = V N → Q v w) : fw_84b k l Q t := by
  refine h t Q N (fun c hc => (g.1 c (by omega) (by omega) (by omega) (by omega)).trans (e c hc)) hR hN (fun v w w1 w2 hv => q v w ⟨fun c a b d e => (w1 c a d e).trans (g.1 c a b d e), w2.trans g.2⟩ hv)
theorem ng_S {size s0 w back mh mv : Int} (hW : mn_W J) (hB : mn_B J) (hV : mn_V J) (hs : 0 ≤ s0 ∧ s0 < J 1 0) (w0 : 0 ≤ w) (w1 : w < J 1 1) (hz : cm_sm size) (hb : cm_sm back) (hh : 0 ≤ mh ∧ mh ≤ 1) (hm : 0 ≤ mv ∧ mv ≤ 9) : cm_nm (mn_ng J f size s0 w back mh mv) := by
  intro i i0 i1
  have a0 := hW.1
  have a1 := hW.2.1
  have a2 := hW.2.2.1
  have su7 := mn_suB (f := f) (x := mn_ac J w s0) (fun q => (hV q).1) (J 1 2).toNat
  have su9 := mn_suB (f := f) (x := mn_ac J w s0) (g := J 9) (fun q => by have := (hB.2 q).2; omega) (J 1 2).toNat
  have he := mn_heB (J := J) (f := f) (x := s0) (J 1 2).toNat
  have v1 := (hV s0).2
  have v2 := (hV (mn_ac J w s0)).2
  unfold cm_sm at *
  unfold mn_ng
  (repeat' split) <;> omega
theorem np_S {b : Int} (hW : mn_W J) (hV : mn_V J) (hz : 0 ≤ f (3 * b) ∧ f (3 * b) ≤ 24) (hp : 0 ≤ f (3 * b + 1) ∧ f (3 * b + 1) < J 1 0) : cm_nm (mn_np J f b) := by
  intro i i0 i1
  have a0 := hW.1
  have a2 := hW.2.2.1
  have h1 := mn_heB (J := J) (f := f) (x := f (3 * b + 1)) (J 1 2).toNat
  have h2 := mn_heB (J := J) (f := f) (x := f (3 * b + 2)) (J 1 2).toNat
  have v1 := (hV (f (3 * b + 1))).2
  unfold cm_sm
  unfold mn_np
  (repeat' split) <;> omega
/-- chanceOf -/
theorem fl_91 {size s0 w back mh mv : Int} {Q : Int → lf_Z → Prop} (hJ : gc_J J s) (hW : mn_W J) (hB : mn_B J) (hV : mn_V J) (hS : rc_S s.1 f) (hX : xc_X X I s.2.2) (hI : ∀ c : Nat, 35 ≤ c → c < 63 → s.1 c = I c) (hs : 0 ≤ s0 ∧ s0 < J 1 0) (w0 : 0 ≤ w) (w1 : w < J 1 1) (hm : 0 ≤ mv ∧ mv ≤ 9) (hn : cm_nm (mn_ng J f size s0 w back mh mv)) (hat : 0 ≤ mn_ac J w s0)
    (k : ∀ (v : Int) (t : lf_Z), tk_f s t → v = X.2 (mn_ng J f size s0 w back mh mv) → Q v t) : fw_91 size s0 w back mh mv Q s := by
  have w2 := hW.2.2.1
  have e1 : s.1 1 = J 1 := hJ 1 (by omega)
  have acB : mn_ac J w s0 < J 1 0 := by
    have q := hW.2.2.2.1 w w0 w1
    unfold mn_ac at hat ⊢
    (repeat' split) <;> omega
  unfold fw_91
  refine fl_78 ?_
  rw [e1, if_pos ⟨w0, w1⟩, mn_acJ hJ]
  generalize hto : mn_ac J w s0 = to at *
  intro _
  refine ⟨fun _ => ?_, fun c => absurd c (by omega)⟩
  refine ⟨fun x8 x9 p u => u = s ∧ ∃ n : Nat, p = n ∧ p ≤ J 1 2 ∧ x8 = mv + mn_su (J 7) f to n ∧ x9 = mn_su (J 9) f to n, ?_, ⟨rfl, 0, rfl, w2.1, (Int.add_zero mv).symm, rfl⟩⟩
  intro x8 x9 p u ⟨eu, n, ep, p1, e8, e9⟩
  rw [eu]
  have su7 := mn_suB (f := f) (x := to) (fun q => (hV q).1) n
  have su9 := mn_suB (f := f) (x := to) (g := J 9) (fun q => by have := (hB.2 q).2; omega) n
  unfold fw_91_p29
  rw [e1]
  intro _ _
  refine ⟨fun c => ?_, fun c _ _ _ => ?_⟩
  · have hn : n = (J 1 2).toNat := by omega
    subst hn
    -- without a law
    have none' : (∀ N, X.2 N = if 0 < N 6 then 0 else 5) → fw_91_p118 Q x8 s := by
      intro hx
      have v6 : mn_ng J f size s0 w back mh mv 6 = x8 := by
        rw [e8]
        show mv + mn_su (J 7) f (mn_ac J w s0) (J 1 2).toNat = _
        rw [hto]
      unfold fw_91_p118
      intro _
      refine ⟨fun d => k 5 s tk_fr ?_, fun d => k 0 s tk_fr ?_⟩
      · rw [hx, v6, if_neg (by omega)]
      · rw [hx, v6, if_pos (by omega)]
    refine ⟨fun d => none' (fun N => (hX.1 d N).2), fun k1 hk1 hk14 => ⟨fun d => (by rw [hk1] at d; cases d), fun k2 hk2 hk24 => ?_⟩⟩
    obtain ⟨_, x1, x2, x3, x4⟩ := hX.2 k2 hk2
    have e37 : s.1 (37 + 7 * k2) = I (37 + 7 * k2) := hI _ (by omega) (by omega)
    refine fl_40 (t0 := k2) ⟨fun z => ?_, fun z => ?_⟩
    · have z : decide (s.1 (37 + 7 * k2) 1 ≠ -1) = true := z
      have z := of_decide_eq_true z
      rw [e37] at z
      obtain ⟨m, mA, mN⟩ := x4 z
      refine fl_82 hJ hW hS hs (fun t tf t0 t1 t2 t3 ti => ?_)
      intro _
      obtain ⟨y, hy⟩ : ∃ y : lf_Z, y = (lf_up (lf_up (lf_up (lf_up (lf_up t.1 64 5 (t.1 2 to)) 64 6 x8) 64 7 x9) 64 8 back) 64 10 w, t.2.1, t.2.2) := ⟨_, rfl⟩
      rw [← hy]
      have yf : tk_f s y := by
        rw [hy]
        exact tk_ft tf ⟨fun c a b d e => (zu_r b).trans ((lf_up_row b).trans ((lf_up_row b).trans ((lf_up_row b).trans (lf_up_row b)))), rfl⟩
      have yl : ∀ i : Int, i ≤ 4 → y.1 64 i = t.1 64 i := fun i hi => by rw [hy]; exact (zu_i (by omega)).trans ((lf_up_i (by omega)).trans ((lf_up_i (by omega)).trans ((lf_up_i (by omega)).trans (lf_up_i (by omega)))))
      have y5 : y.1 64 5 = J 2 to := by
        rw [hy]
        refine (zu_i (by decide)).trans ((lf_up_i (by decide)).trans ((lf_up_i (by decide)).trans ((lf_up_i (by decide)).trans (lf_up_s.trans ?_))))
        rw [(gc_Jk hJ tf) 2 (by omega)]
      have y6 : y.1 64 6 = x8 := by rw [hy]; exact (zu_i (by decide)).trans ((lf_up_i (by decide)).trans ((lf_up_i (by decide)).trans lf_up_s))
      have y7 : y.1 64 7 = x9 := by rw [hy]; exact (zu_i (by decide)).trans ((lf_up_i (by decide)).trans lf_up_s)
      have y8 : y.1 64 8 = back := by rw [hy]; exact (zu_i (by decide)).trans lf_up_s
      have y10 : y.1 64 10 = w := by rw [hy]; exact zu_s
      have nn : xc_n1 (mn_ng J f size s0 w back mh mv) (y.1 64) := by
        refine ⟨fun i i0 i1 i4 => ?_, y10⟩
        rcases (show i = 0 ∨ i = 1 ∨ i = 2 ∨ i = 3 ∨ i = 5 ∨ i = 6 ∨ i = 7 ∨ i = 8 by omega) with e | e | e | e | e | e | e | e
        · subst e; exact (yl 0 (by decide)).trans t0
        · subst e; exact (yl 1 (by decide)).trans t1
        · subst e; exact (yl 2 (by decide)).trans t2
        · subst e; exact (yl 3 (by decide)).trans t3
        · subst e
          show y.1 64 5 = J 2 (mn_ac J w s0)
          rw [hto]; exact y5
        · subst e
          show y.1 64 6 = mv + mn_su (J 7) f (mn_ac J w s0) (J 1 2).toNat
          rw [hto, y6, e8]
        · subst e
          show y.1 64 7 = mn_su (J 9) f (mn_ac J w s0) (J 1 2).toNat
          rw [hto, y7, e9]
        · subst e; exact y8
      have y2 : t.2.2 3 = some k2 := by rw [tf.2]; exact hk2
      refine ⟨fun d => (by rw [y2] at d; cases d), fun k3 hk3 hk34 => ?_⟩
      rw [y2] at hk3
      have hk3 := Option.some.inj hk3
      subst hk3
      refine xc_Ac mA (fun c hc => hI c (by omega) (by omega)) yf hk24 nn hn (fun v z zf hv => fl_55 (k _ z zf ?_))
      rw [mN, hv]
    · have z : decide (s.1 (37 + 7 * k2) 1 ≠ -1) = false := z
      have z := Classical.not_not.mp (of_decide_eq_false z)
      rw [e37] at z
      exact none' (x2 z)
  · have e := (hS.2.1 p (by omega) (by omega)).1
    have b9 := (hB.2 p).2
    have b7 := (hV p).1
    rw [e, hJ 9 (by omega), hJ 7 (by omega)]
    have s7 : mn_su (J 7) f to (n + 1) = mn_su (J 7) f to n + (if f (12 + 2 * (n : Int)) = to then J 7 n else 0) := rfl
    have s9 : mn_su (J 9) f to (n + 1) = mn_su (J 9) f to n + (if f (12 + 2 * (n : Int)) = to then J 9 n else 0) := rfl
    rw [← ep] at s7 s9
    refine ⟨fun d => ?_, fun d _ => ⟨fun d2 => ?_, fun d2 => ?_⟩⟩
    · unfold fw_91_p94
      rw [if_neg d] at s7 s9
      exact ⟨rfl, n + 1, by omega, by omega, by omega, by omega⟩
    · unfold fw_91_p91 fw_91_p94
      rw [if_pos (Classical.not_not.mp d)] at s7 s9
      rw [tr_w (a := x8 + J 7 p) (by omega), tr_w (a := x9 + 0) (by omega)]
      exact ⟨rfl, n + 1, by omega, by omega, by omega, by omega⟩
    · unfold fw_91_p91 fw_91_p94
      rw [if_pos (Classical.not_not.mp d)] at s7 s9
      rw [tr_w (a := x8 + J 7 p) (by omega), tr_w (a := x9 + 1) (by omega)]
      exact ⟨rfl, n + 1, by omega, by omega, by omega, by omega⟩
end TK
