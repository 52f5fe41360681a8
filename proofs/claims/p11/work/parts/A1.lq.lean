/-! the list machine's readings, with what they are worth -/
section LQ
variable {f g : Int → Int} {n law b c c2 c3 k j x : Int} {P P2 P3 Q : ln_P} {o o2 o3 o5 : List (Int × Int)} {M N L0 e : Int → Int} {m : Nat} {s t u : ln_T} {R R1 R5 : rq_R}
def lo_go (f : Int → Int) (n law : Int) : Nat → ln_T → ln_T → Prop
  | 0, s, t => s = t
  | k + 1, s, t => ∃ u : ln_T, lo_sp f n law s = .inr u ∧ lo_go f n law k u t
def lq_R (f : Int → Int) (n law : Int) (s t : ln_T) : Prop := ∃ k : Nat, lo_go f n law k s t
theorem lq_Rr : lq_R f n law s s := ⟨0, rfl⟩
theorem lq_R1 (h : lo_sp f n law s = .inr t) (g : lq_R f n law t u) : lq_R f n law s u := by
  obtain ⟨k, hk⟩ := g
  exact ⟨k + 1, t, h, hk⟩
theorem lo_goA : ∀ (a d : Nat) (s : ln_T), lo_go f n law a s t → lo_go f n law d t u → lo_go f n law (a + d) s u := by
  intro a
  induction a with
  | zero => intro d s h g; have h : s = t := h; rw [h, Nat.zero_add]; exact g
  | succ a ih =>
    intro d s h g
    obtain ⟨y, h1, h2⟩ := h
    rw [show a + 1 + d = (a + d) + 1 by omega]
    exact ⟨y, h1, ih d y h2 g⟩
theorem lq_Rt (h : lq_R f n law s t) (g : lq_R f n law t u) : lq_R f n law s u := by
  obtain ⟨a, ha⟩ := h
  obtain ⟨d, hd⟩ := g
  exact ⟨a + d, lo_goA a d s ha hd⟩
/-- two runs that have ended are one -/
theorem lo_det {v w : Int × Int} : ∀ (a d : Nat) (s : ln_T), lo_go f n law a s t → lo_sp f n law t = .inl v → lo_go f n law d s u → lo_sp f n law u = .inl w → t = u := by
  intro a
  induction a with
  | zero =>
    intro d s h ht g hu
    have h : s = t := h
    cases d with
    | zero => have g : s = u := g; rw [← h, ← g]
    | succ d => obtain ⟨y, g1, _⟩ := g; rw [h, ht] at g1; cases g1
  | succ a ih =>
    intro d s h ht g hu
    obtain ⟨y, h1, h2⟩ := h
    cases d with
    | zero => have g : s = u := g; rw [g, hu] at h1; cases h1
    | succ d =>
      obtain ⟨z, g1, g2⟩ := g
      rw [h1] at g1
      have e : y = z := by injection g1
      subst e
      exact ih d y h2 ht g2 hu
/-- a reading that has no fault: what stands behind it -/
def lq_L (f : Int → Int) (n law : Int) (C : ln_P → List (Int × Int) → Int → Prop) (s : ln_T) (r : Int × Int) : Prop := r.1 = 0 → ∃ (P2 : ln_P) (o2 : List (Int × Int)) (c2 : Int), C P2 o2 c2 ∧ lq_R f n law s (P2, o2, c2, true, r.2)
variable {C C' : ln_P → List (Int × Int) → Int → Prop} {r : Int × Int}
theorem lq_Lw (h : lq_L f n law C s r) (w : ∀ P2 o2 c2, C P2 o2 c2 → C' P2 o2 c2) : lq_L f n law C' s r := fun z => by
  obtain ⟨P2, o2, c2, a, d⟩ := h z
  exact ⟨P2, o2, c2, w _ _ _ a, d⟩
theorem lq_L1 (h : lo_sp f n law s = .inr t) (a : lq_L f n law C t r) : lq_L f n law C s r := fun z => by
  obtain ⟨P2, o2, c2, a1, a2⟩ := a z
  exact ⟨P2, o2, c2, a1, lq_R1 h a2⟩
theorem lq_Lbd {g : Int → Int × Int} (a : lq_L f n law C s r) (k : ∀ P2 o2 c2, C P2 o2 c2 → lq_L f n law C' (P2, o2, c2, true, r.2) (g r.2)) : lq_L f n law C' s (ds_bd r g) := fun z => by
  obtain ⟨z1, z2⟩ := ds_bdZ z
  obtain ⟨P2, o2, c2, a1, a2⟩ := a z1
  obtain ⟨P3, o3, c3, d1, d2⟩ := k P2 o2 c2 a1 z2
  refine ⟨P3, o3, c3, d1, ?_⟩
  rw [ds_bd0 z1]
  exact lq_Rt a2 d2
/-- what must stand when a reading begins: letters are worth e -/
def lq_i (M N L0 : Int → Int) (m : Nat) (P : ln_P) (o : List (Int × Int)) (c : Int) (e : Int → Int) : Prop := rq_P c P ∧ rq_ok M N L0 m o ∧ 0 ≤ c ∧ ∀ x : Int, 0 ≤ x → x < 26 → ln_g P x ≠ -1 → (0 ≤ ln_g P x ∧ ln_g P x < c) ∧ (rv N L0 m o).2.2 (ln_g P x) = e x ∧ cm_sm (e x)
/-- what stands behind it: R, but that signs wait from rank k on -/
def lq_C (M N L0 : Int → Int) (m : Nat) (k : Int) (P : ln_P) (c : Int) (R : rq_R) (P2 : ln_P) (o2 : List (Int × Int)) (c2 : Int) : Prop := ln_st k P2 = ln_st k P ∧ c ≤ c2 ∧ rq_ok M N L0 m o2 ∧ rq_P c2 P2 ∧ rq_E c (rq_fl N k P R) (rq_fl N k P2 (rv N L0 m o2))
abbrev rq_n (v : Int) (R : rq_R) : rq_R := (v :: R.1, R.2)
abbrev rq_t (v : Int) (R : rq_R) : rq_R := (R.1, v :: R.2.1, R.2.2)
theorem rq_nE {v : Int} {S : rq_R} (h : rq_E c R S) : rq_E c (rq_n v R) (rq_n v S) := ⟨by show v :: S.1 = v :: R.1; rw [h.1], h.2⟩
theorem rq_tE {v : Int} {S : rq_R} (h : rq_E c R S) : rq_E c (rq_t v R) (rq_t v S) := ⟨h.1, by show v :: S.2.1 = v :: R.2.1; rw [h.2.1], h.2.2⟩
theorem lq_CC (hjk : j ≤ k) (hP : rq_P c P) (h : lq_C M N L0 m k P c R P2 o2 c2) : lq_C M N L0 m j P c R P2 o2 c2 := by
  obtain ⟨h1, h2, h3, h4, h5⟩ := h
  refine ⟨?_, h2, h3, h4, ?_⟩
  · rw [← ln_stst hjk P2, ← ln_stst hjk P, h1]
  · rw [rq_flfl hjk P, rq_flfl hjk P2, h1]
    exact rq_Efl j _ _ _ (rq_Ps hP) h5
/-- the pile of the machine without output -/
theorem lq_lm (h : ln_st k P2 = ln_st k P) : lm_C k (ln_e P) (ln_e P2) := by
  unfold lm_C
  rw [← ln_eS, ← ln_eS, h]
theorem lq_hg : ∀ {P : ln_P}, rq_P c P → (ln_g P x ≠ -1 ↔ lm_g (ln_e P) x ≠ -1) := by
  intro P
  induction P with
  | nil => intro _; exact Iff.rfl
  | cons y P ih =>
    intro h
    have i := ih (rq_Pt h)
    show (if y.1 = 45 then ds_u1 (ln_g P) y.2.1 y.2.2 else ln_g P) x ≠ -1 ↔ (if y.1 = 45 then ds_u1 (lm_g (ln_e P)) y.2.1 (ds_sl (1 + lm_dp (ln_e P))) else lm_g (ln_e P)) x ≠ -1
    by_cases q : y.1 = 45
    · rw [if_pos q, if_pos q]
      unfold ds_u1
      by_cases w : x = y.2.1
      · rw [if_pos w, if_pos w]
        have := (h y List.mem_cons_self).2 q
        have s0 : 0 ≤ ds_sl (1 + lm_dp (ln_e P)) := by unfold ds_sl; omega
        exact ⟨fun _ => by omega, fun _ => by omega⟩
      · rw [if_neg w, if_neg w]; exact i
    · rw [if_neg q, if_neg q]; exact i
/-- written, nothing waits from rank 7 on -/
theorem lq_fin (hQ : rq_P c2 Q) (h : rq_ok M N L0 m o5) (hc : c ≤ c2) (hE : rq_E c R5 (rv N L0 m o5)) : lq_C M N L0 m 7 Q c R5 (ln_st 7 Q) (ln_so 7 Q o5) c2 := by
  obtain ⟨a1, a2⟩ := rv_so (k := 7) (by decide) Q o5 hQ h
  refine ⟨ln_stst (Int.le_refl 7) Q, hc, a1, rq_Ps hQ, ?_⟩
  rw [rq_fl0 (ln_stst (Int.le_refl 7) Q), a2]
  exact rq_Efl 7 _ _ _ hQ hE
/-- a sign x has been put down; then a reading -/
theorem lq_op {F : rq_R → rq_R} {S : rq_R} (hkj : k ≤ j) (hx : k ≤ lm_rk x) (hxo : 3 ≤ x ∧ x ≠ 30 ∧ x ≠ 31) (hx45 : x ≠ 45) (hP : rq_P c P) (hc : c ≤ c2) (hF : rq_E c (F R1) (F S)) (h3 : lq_C M N L0 m j ((x, 0, 0) :: P) c2 (F S) P3 o3 c3) (hR : R = rq_st N (x, 0) (F R1)) : lq_C M N L0 m k P c R P3 o3 c3 := by
  obtain ⟨h1, h2, h4, h5, h6⟩ := h3
  have hP' : rq_P c2 ((x, 0, 0) :: P) := rq_Pc (rq_Pw hP hc) hxo (fun q => absurd q hx45)
  have top : ∀ S : rq_R, rq_fl N k ((x, 0, 0) :: P) S = rq_fl N k P (rq_st N (x, 0) S) := fun S => if_pos hx
  refine ⟨?_, by omega, h4, h5, ?_⟩
  · rw [← ln_stst hkj P3, h1, ln_stst hkj]
    exact if_pos hx
  · have a := rq_Ew (rq_Efl (N := N) k _ _ _ (rq_Ps (k := j) hP') h6) hc
    rw [← h1, ← rq_flfl hkj, h1, ← rq_flfl hkj, top] at a
    rw [hR]
    exact rq_Et (rq_Efl k _ _ _ hP (rq_Est hF hxo)) a
/-- what waits is written ahead of a sign of rank k -/
theorem lq_so (hk : 1 ≤ k) (hP : ln_st k P = P) (h : lq_C M N L0 m k P c R P2 o2 c2) : ln_st k P2 = P ∧ rq_ok M N L0 m (ln_so k P2 o2) ∧ rq_E c R (rv N L0 m (ln_so k P2 o2)) := by
  obtain ⟨h1, h2, h3, h4, h5⟩ := h
  obtain ⟨a1, a2⟩ := rv_so (M := M) (N := N) (L0 := L0) (m := m) hk P2 o2 h4 h3
  rw [rq_fl0 hP] at h5
  exact ⟨h1.trans hP, a1, by rw [a2]; exact h5⟩
theorem lq_iw {P' : ln_P} {o' : List (Int × Int)} (h : lq_i M N L0 m P o c e) (hc : c ≤ c2) (h1 : rq_ok M N L0 m o') (h2 : rq_P c2 P') (h3 : ln_g P' = ln_g P) (h4 : ∀ i : Int, i < c → (rv N L0 m o').2.2 i = (rv N L0 m o).2.2 i) : lq_i M N L0 m P' o' c2 e := by
  obtain ⟨a1, a2, a3, a4⟩ := h
  refine ⟨h2, h1, by omega, fun x x0 x1 hx => ?_⟩
  rw [h3] at hx ⊢
  obtain ⟨b1, b2, b3⟩ := a4 x x0 x1 hx
  exact ⟨⟨b1.1, by omega⟩, (h4 _ b1.2).trans b2, b3⟩
/-- a loop over what binds -/
theorem lq_lp {ok : Int → Bool} {G : Int → Int × Int} {VG : Int → Int} {D : Int → ln_P → List (Int × Int) → Int → Prop}
    (hO : ∀ (v : Int) (P2 : ln_P) (o2 : List (Int × Int)) (c2 b : Int), D v P2 o2 c2 → ok (lx_T f n b) = true → lq_L f n law (D (cm_2 (lx_T f n b) v (VG (ds_ad f n b)))) (P2, o2, c2, true, b) (G (ds_ad f n b))) :
    ∀ (K : Nat) (b v : Int) (P2 : ln_P) (o2 : List (Int × Int)) (c2 : Int), D v P2 o2 c2 → lq_L f n law (D (dv_lp f n ok G VG cm_2 K b v)) (P2, o2, c2, true, b) (ds_lp f n ok G K b) := by
  intro K
  induction K with
  | zero => intro b v P2 o2 c2 h _; exact ⟨P2, o2, c2, h, lq_Rr⟩
  | succ K ih =>
    intro b v P2 o2 c2 h
    show lq_L f n law (D (if ok (lx_T f n b) = true then dv_lp f n ok G VG cm_2 K (G (ds_ad f n b)).2 (cm_2 (lx_T f n b) v (VG (ds_ad f n b))) else v)) (P2, o2, c2, true, b) (if ok (lx_T f n b) = true then ds_bd (G (ds_ad f n b)) (ds_lp f n ok G K) else (0, b))
    by_cases q : ok (lx_T f n b) = true
    · rw [if_pos q, if_pos q]
      exact lq_Lbd (hO v P2 o2 c2 b h q) (fun P3 o3 c3 h3 => ih _ _ P3 o3 c3 h3)
    · rw [if_neg q, if_neg q]
      exact fun _ => ⟨P2, o2, c2, h, lq_Rr⟩
/-- behind one, a sign between two -/
theorem lq_bt {t : Int} (h : lm_bt (lx_T f n b) (ln_e P2) = t) (h0 : 0 ≤ t) : lo_sp f n law (P2, o2, c2, true, b) = .inr ((t, 0, 0) :: ln_st (lm_rk t) P2, ln_so (lm_rk t) P2 o2, c2, false, ds_ad f n b) := by
  show lo_bh f n P2 o2 c2 b = _
  unfold lo_bh
  rw [h, if_pos h0]
abbrev lq_M1 (f : Int → Int) (n law : Int) (M N L0 : Int → Int) (m : Nat) (O : ds_D) (V : dv_D) : Prop := ∀ (P : ln_P) (o : List (Int × Int)) (c b : Int) (e : Int → Int), lq_i M N L0 m P o c e → (lx_T f n b ≠ 44 ∨ lm_ah (ln_e P) = false) → lq_L f n law (lq_C M N L0 m 7 P c (rq_n (V (lm_dp (ln_e P)) (lm_g (ln_e P)) e b) (rv N L0 m o))) (P, o, c, false, b) (O (lm_dp (ln_e P)) (lm_g (ln_e P)) b)
abbrev lq_M2 (f : Int → Int) (n law : Int) (M N L0 : Int → Int) (m : Nat) (O : ds_D) (V : dv_D) : Prop := ∀ (P : ln_P) (o : List (Int × Int)) (c b : Int) (e : Int → Int), lq_i M N L0 m P o c e → ln_st 6 P = P → (lx_T f n b ≠ 44 ∨ lm_ah (ln_e P) = false) → lq_L f n law (lq_C M N L0 m 6 P c (rq_n (V (lm_dp (ln_e P)) (lm_g (ln_e P)) e b) (rv N L0 m o))) (P, o, c, false, b) (O (lm_dp (ln_e P)) (lm_g (ln_e P)) b)
abbrev lq_M3 (f : Int → Int) (n law : Int) (M N L0 : Int → Int) (m : Nat) (O : ds_D) (V : dv_D) : Prop := ∀ (P : ln_P) (o : List (Int × Int)) (c b : Int) (e : Int → Int), lq_i M N L0 m P o c e → ln_st 5 P = P → (lx_T f n b ≠ 44 ∨ lm_ah (ln_e P) = false) → lq_L f n law (lq_C M N L0 m 5 P c (rq_n (V (lm_dp (ln_e P)) (lm_g (ln_e P)) e b) (rv N L0 m o))) (P, o, c, false, b) (O (lm_dp (ln_e P)) (lm_g (ln_e P)) b)
theorem lq_sgd {x v w : Int} (h : ¬ 40 ≤ x) (h3 : x ≠ 3) (h20 : x ≠ 20) : lm_dp (ln_e ((x, v, w) :: P)) = lm_dp (ln_e P) ∧ lm_g (ln_e ((x, v, w) :: P)) = lm_g (ln_e P) ∧ lm_op (ln_e ((x, v, w) :: P)) = lm_op (ln_e P) ∧ ln_g ((x, v, w) :: P) = ln_g P := by
  obtain ⟨a1, a2, a3⟩ := lm_sgd (P := ln_e P) (v := v) h h3 h20
  exact ⟨a1, a2, a3, if_neg (show ¬ x = 45 by omega)⟩
theorem rq_ar {t v w : Int} (h : 10 ≤ t ∧ t ≤ 13) : rq_n (cm_2 t v w) R = rq_st N (t - 6, 0) (rq_n w (rq_n v R)) := by
  unfold rq_st cm_2
  dsimp only
  rw [if_neg (show ¬ t - 6 = 0 by omega), if_neg (show ¬ t - 6 = 1 by omega), if_neg (show ¬ (t - 6 ≤ 1 ∨ t - 6 = 31) by omega), if_neg (show ¬ t - 6 = 2 by omega), if_neg (show ¬ t - 6 = 30 by omega), if_neg (show ¬ t - 6 = 3 by omega), if_pos (show t - 6 < 10 by omega), if_neg (show ¬ t = 45 by omega), if_neg (show ¬ t = 46 by omega), if_pos h.1, show t - 6 + 6 = t by omega]
  rfl
theorem rq_cmp {t v w : Int} (h : 4 ≤ t ∧ t ≤ 9) : rq_t (lf_b (cm_cp t v w)) R = rq_st N (6 + t, 0) (rq_n w (rq_n v R)) := by
  unfold rq_st
  dsimp only
  rw [if_neg (show ¬ 6 + t = 0 by omega), if_neg (show ¬ 6 + t = 1 by omega), if_neg (show ¬ (6 + t ≤ 1 ∨ 6 + t = 31) by omega), if_neg (show ¬ 6 + t = 2 by omega), if_neg (show ¬ 6 + t = 30 by omega), if_neg (show ¬ 6 + t = 3 by omega), if_neg (show ¬ 6 + t < 10 by omega), if_pos (show 6 + t < 20 by omega), show 6 + t - 6 = t by omega]
  rfl
theorem rq_bo {x t v w : Int} (h : x = 21 ∧ t = 45 ∨ x = 22 ∧ t = 46) : rq_t (cm_2 t v w) R = rq_st N (x, 0) (rq_t w (rq_t v R)) := by
  rcases h with ⟨h, g⟩ | ⟨h, g⟩ <;> subst h <;> subst g <;> rfl
/-- a loop of numbers at rank k -/
theorem lq_num {O : ds_D} {V : dv_D} {ok : Int → Bool} {K : Nat} (hk : 1 ≤ k) (hkj : k ≤ j) (hok : ∀ t : Int, ok t = true → (10 ≤ t ∧ t ≤ 13) ∧ lm_rk (t - 6) = k) (hi : lq_i M N L0 m P o c e) (hP : ln_st k P = P)
    (h1 : lq_L f n law (lq_C M N L0 m j P c (rq_n (V (lm_dp (ln_e P)) (lm_g (ln_e P)) e b) (rv N L0 m o))) (P, o, c, false, b) (O (lm_dp (ln_e P)) (lm_g (ln_e P)) b))
    (h2 : ∀ (x : Int) (o' : List (Int × Int)) (c2 b : Int), lm_rk x = k → 4 ≤ x → x ≤ 7 → lq_i M N L0 m ((x, 0, 0) :: P) o' c2 e → lq_L f n law (lq_C M N L0 m j ((x, 0, 0) :: P) c2 (rq_n (V (lm_dp (ln_e P)) (lm_g (ln_e P)) e b) (rv N L0 m o'))) ((x, 0, 0) :: P, o', c2, false, b) (O (lm_dp (ln_e P)) (lm_g (ln_e P)) b)) :
    lq_L f n law (lq_C M N L0 m k P c (rq_n (dv_lp f n ok (O (lm_dp (ln_e P)) (lm_g (ln_e P))) (V (lm_dp (ln_e P)) (lm_g (ln_e P)) e) cm_2 K (O (lm_dp (ln_e P)) (lm_g (ln_e P)) b).2 (V (lm_dp (ln_e P)) (lm_g (ln_e P)) e b)) (rv N L0 m o))) (P, o, c, false, b) (ds_bd (O (lm_dp (ln_e P)) (lm_g (ln_e P)) b) (ds_lp f n ok (O (lm_dp (ln_e P)) (lm_g (ln_e P))) K)) := by
  refine lq_Lbd (lq_Lw h1 (fun P2 o2 c2 a => lq_CC hkj hi.1 a)) (fun P2 o2 c2 hC => lq_lp (D := fun v => lq_C M N L0 m k P c (rq_n v (rv N L0 m o))) (fun v P2 o2 c2 b' hD ht => ?_) K _ _ P2 o2 c2 hC)
  obtain ⟨t1, t2⟩ := hok _ ht
  obtain ⟨s1, s2, s3⟩ := lq_so hk hP hD
  have hbt : lm_bt (lx_T f n b') (ln_e P2) = lx_T f n b' - 6 := by
    unfold lm_bt
    rcases (show lx_T f n b' = 10 ∨ lx_T f n b' = 11 ∨ lx_T f n b' = 12 ∨ lx_T f n b' = 13 by omega) with q | q | q | q <;> rw [q] <;> rfl
  refine lq_L1 (lq_bt hbt (by omega)) ?_
  rw [t2, s1]
  obtain ⟨d1, d2, d3, d4⟩ := lq_sgd (P := P) (x := lx_T f n b' - 6) (v := 0) (w := 0) (by omega) (by omega) (by omega)
  have inner := h2 (lx_T f n b' - 6) (ln_so k P2 o2) c2 (ds_ad f n b') t2 (by omega) (by omega) (lq_iw hi hD.2.1 s2 (rq_Pc (rq_Pw hi.1 hD.2.1) (by dsimp only; omega) (fun q => by dsimp only at q; omega)) d4 (fun i hi => s3.2.2 i hi))
  exact lq_Lw inner (fun P3 o3 c3 h3 => lq_op (F := rq_n (V (lm_dp (ln_e P)) (lm_g (ln_e P)) e (ds_ad f n b'))) hkj (by omega) (by omega) (by omega) hi.1 hD.2.1 (rq_nE s3) h3 (rq_ar t1))
theorem lq_p2 {O : ds_D} {V : dv_D} (h1 : lq_M1 f n law M N L0 m O V) : lq_M2 f n law M N L0 m (fun d g b => ds_bd (O d g b) (ds_lp f n ds_td (O d g) 300)) (fun d g e b => dv_lp f n ds_td (O d g) (V d g e) cm_2 300 (O d g b).2 (V d g e b)) := fun P o c b e hi hP hs => by
  refine lq_num (k := 6) (j := 7) (by decide) (by decide) (fun t ht => ?_) hi hP (h1 P o c b e hi hs) (fun x o' c2 b hx h4 h7 hi' => ?_)
  · rcases lm_tdc ht with h | h <;> subst h <;> decide
  · obtain ⟨d1, d2, _⟩ := lq_sgd (P := P) (x := x) (v := 0) (w := 0) (by omega) (by omega) (by omega)
    have a := h1 ((x, 0, 0) :: P) o' c2 b e hi' (Or.inr (lm_ahs (Or.inr (by show 4 ≤ lm_rk x; omega))))
    rw [d1, d2] at a
    exact a
theorem lq_p3 {O : ds_D} {V : dv_D} (h1 : lq_M2 f n law M N L0 m O V) : lq_M3 f n law M N L0 m (fun d g b => ds_bd (O d g b) (ds_lp f n ds_pm (O d g) 300)) (fun d g e b => dv_lp f n ds_pm (O d g) (V d g e) cm_2 300 (O d g b).2 (V d g e b)) := fun P o c b e hi hP hs => by
  refine lq_num (k := 5) (j := 6) (by decide) (by decide) (fun t ht => ?_) hi hP (h1 P o c b e hi (ln_stj (k := 5) (by decide) hP) hs) (fun x o' c2 b hx h4 h7 hi' => ?_)
  · rcases lm_pmc ht with h | h <;> subst h <;> decide
  · obtain ⟨d1, d2, _⟩ := lq_sgd (P := P) (x := x) (v := 0) (w := 0) (by omega) (by omega) (by omega)
    have a := h1 ((x, 0, 0) :: P) o' c2 b e hi' (if_neg (by dsimp only; omega)) (Or.inr (lm_ahs (Or.inr (by show 4 ≤ lm_rk x; omega))))
    rw [d1, d2] at a
    exact a
/-! asks -/
def lq_A (M N L0 : Int → Int) (m : Nat) (k : Int) (P : ln_P) (c : Int) (R : rq_R) (P2 : ln_P) (o2 : List (Int × Int)) (c2 : Int) : Prop := lq_C M N L0 m k P c R P2 o2 c2 ∧ lm_cp (ln_e P2) = true
abbrev lq_M4 (f : Int → Int) (n law : Int) (M N L0 : Int → Int) (m : Nat) (O : ds_D) (V : dv_D) : Prop := ∀ (P : ln_P) (o : List (Int × Int)) (c b : Int) (e : Int → Int), lq_i M N L0 m P o c e → lm_ah (ln_e P) = true → lq_L f n law (lq_A M N L0 m 3 P c (rq_t (V (lm_dp (ln_e P)) (lm_g (ln_e P)) e b) (rv N L0 m o))) (P, o, c, false, b) (O (lm_dp (ln_e P)) (lm_g (ln_e P)) b)
abbrev lq_M5 (f : Int → Int) (n law : Int) (M N L0 : Int → Int) (m : Nat) (O : ds_D) (V : dv_D) : Prop := ∀ (P : ln_P) (o : List (Int × Int)) (c b : Int) (e : Int → Int), lq_i M N L0 m P o c e → ln_st 2 P = P → lm_op (ln_e P) = 41 → lq_L f n law (lq_A M N L0 m 2 P c (rq_t (V (lm_dp (ln_e P)) (lm_g (ln_e P)) e b) (rv N L0 m o))) (P, o, c, false, b) (O (lm_dp (ln_e P)) (lm_g (ln_e P)) b)
abbrev lq_M6 (f : Int → Int) (n law : Int) (M N L0 : Int → Int) (m : Nat) (O : ds_D) (V : dv_D) : Prop := ∀ (P : ln_P) (o : List (Int × Int)) (c b : Int) (e : Int → Int), lq_i M N L0 m P o c e → ln_st 1 P = P → lm_op (ln_e P) = 41 → lq_L f n law (lq_A M N L0 m 1 P c (rq_t (V (lm_dp (ln_e P)) (lm_g (ln_e P)) e b) (rv N L0 m o))) (P, o, c, false, b) (O (lm_dp (ln_e P)) (lm_g (ln_e P)) b)
theorem lq_stE (h : ln_st k P = P) : lm_st k (ln_e P) = ln_e P := by rw [← ln_eS, h]
/-- a loop of truths at rank k -/
theorem lq_tru {O : ds_D} {V : dv_D} {w : Int} {K : Nat} (hk : 1 ≤ k) (hkj : k ≤ j) (hw : x = 21 ∧ w = 45 ∨ x = 22 ∧ w = 46) (hx : lm_rk x = k) (hi : lq_i M N L0 m P o c e) (hP : ln_st k P = P) (ho : lm_op (ln_e P) = 41)
    (h1 : lq_L f n law (lq_A M N L0 m j P c (rq_t (V (lm_dp (ln_e P)) (lm_g (ln_e P)) e b) (rv N L0 m o))) (P, o, c, false, b) (O (lm_dp (ln_e P)) (lm_g (ln_e P)) b))
    (h2 : ∀ (o' : List (Int × Int)) (c2 b : Int), lq_i M N L0 m ((x, 0, 0) :: P) o' c2 e → lq_L f n law (lq_A M N L0 m j ((x, 0, 0) :: P) c2 (rq_t (V (lm_dp (ln_e P)) (lm_g (ln_e P)) e b) (rv N L0 m o'))) ((x, 0, 0) :: P, o', c2, false, b) (O (lm_dp (ln_e P)) (lm_g (ln_e P)) b)) :
    lq_L f n law (lq_A M N L0 m k P c (rq_t (dv_lp f n (ds_is w) (O (lm_dp (ln_e P)) (lm_g (ln_e P))) (V (lm_dp (ln_e P)) (lm_g (ln_e P)) e) cm_2 K (O (lm_dp (ln_e P)) (lm_g (ln_e P)) b).2 (V (lm_dp (ln_e P)) (lm_g (ln_e P)) e b)) (rv N L0 m o))) (P, o, c, false, b) (ds_bd (O (lm_dp (ln_e P)) (lm_g (ln_e P)) b) (ds_lp f n (ds_is w) (O (lm_dp (ln_e P)) (lm_g (ln_e P))) K)) := by
  refine lq_Lbd (lq_Lw h1 (fun P2 o2 c2 a => (⟨lq_CC hkj hi.1 a.1, a.2⟩ : lq_A M N L0 m k P c _ P2 o2 c2))) (fun P2 o2 c2 hC => lq_lp (D := fun v => lq_A M N L0 m k P c (rq_t v (rv N L0 m o))) (fun v P2 o2 c2 b' hD ht => ?_) K _ _ P2 o2 c2 hC)
  have t1 := lm_isc ht
  obtain ⟨hD, hcp⟩ := hD
  obtain ⟨s1, s2, s3⟩ := lq_so hk hP hD
  have op2 : lm_op (ln_e P2) = 41 := (lm_Cop hk (lq_lm hD.1)).trans ho
  have hbt : lm_bt (lx_T f n b') (ln_e P2) = x := by
    rw [t1]
    unfold lm_bt
    rcases hw with ⟨q1, q2⟩ | ⟨q1, q2⟩ <;> subst q1 <;> subst q2 <;> rw [op2, hcp] <;> rfl
  refine lq_L1 (lq_bt hbt (by omega)) ?_
  rw [hx, s1]
  obtain ⟨d1, d2, d3, d4⟩ := lq_sgd (P := P) (x := x) (v := 0) (w := 0) (by omega) (by omega) (by omega)
  have inner := h2 (ln_so k P2 o2) c2 (ds_ad f n b') (lq_iw hi hD.2.1 s2 (rq_Pc (rq_Pw hi.1 hD.2.1) (by dsimp only; omega) (fun q => by dsimp only at q; omega)) d4 (fun i hi => s3.2.2 i hi))
  rw [t1]
  exact lq_Lw inner (fun P3 o3 c3 h3 => ⟨lq_op (F := rq_t (V (lm_dp (ln_e P)) (lm_g (ln_e P)) e (ds_ad f n b'))) hkj (by omega) (by omega) (by omega) hi.1 hD.2.1 (rq_tE s3) h3.1 (rq_bo hw), h3.2⟩)
theorem lq_p5 {O : ds_D} {V : dv_D} (h1 : lq_M4 f n law M N L0 m O V) : lq_M5 f n law M N L0 m (fun d g b => ds_bd (O d g b) (ds_lp f n (ds_is 45) (O d g) 300)) (fun d g e b => dv_lp f n (ds_is 45) (O d g) (V d g e) cm_2 300 (O d g b).2 (V d g e b)) := fun P o c b e hi hP ho => by
  refine lq_tru (k := 2) (j := 3) (x := 21) (by decide) (by decide) (Or.inl ⟨rfl, rfl⟩) (by decide) hi hP ho (h1 P o c b e hi (lm_ahm (k := 2) (by decide) (lq_stE hP) ho)) (fun o' c2 b hi' => ?_)
  obtain ⟨d1, d2, d3, _⟩ := lq_sgd (P := P) (x := 21) (v := 0) (w := 0) (by decide) (by decide) (by decide)
  have a := h1 ((21, 0, 0) :: P) o' c2 b e hi' (lm_ahm (k := 3) (by decide) (lq_stE (if_neg (by decide))) (d3.trans ho))
  rw [d1, d2] at a
  exact a
theorem lq_p6 {O : ds_D} {V : dv_D} (h1 : lq_M5 f n law M N L0 m O V) : lq_M6 f n law M N L0 m (fun d g b => ds_bd (O d g b) (ds_lp f n (ds_is 46) (O d g) 300)) (fun d g e b => dv_lp f n (ds_is 46) (O d g) (V d g e) cm_2 300 (O d g b).2 (V d g e b)) := fun P o c b e hi hP ho => by
  refine lq_tru (k := 1) (j := 2) (x := 22) (by decide) (by decide) (Or.inr ⟨rfl, rfl⟩) (by decide) hi hP ho (h1 P o c b e hi (ln_stj (k := 1) (by decide) hP) ho) (fun o' c2 b hi' => ?_)
  obtain ⟨d1, d2, d3, _⟩ := lq_sgd (P := P) (x := 22) (v := 0) (w := 0) (by decide) (by decide) (by decide)
  have a := h1 ((22, 0, 0) :: P) o' c2 b e hi' (if_neg (by decide)) (d3.trans ho)
  rw [d1, d2] at a
  exact a
theorem lq_en {K : Int → (Int × Int) ⊕ ln_T} {g : Int → Int × Int} (hs : lo_sp f n law (P, o, c, false, b) = lo_pu f n P b K) (hk : lm_dp (ln_e P) < 8 → lo_sp f n law (P, o, c, false, b) = K (ds_ad f n b) → lq_L f n law C (P, o, c, false, b) (g (ds_ad f n b))) : lq_L f n law C (P, o, c, false, b) (ds_en f n (lm_dp (ln_e P)) g b) := by
  unfold ds_en
  unfold lo_pu at hs
  by_cases q : lm_dp (ln_e P) < 8
  · rw [if_pos q] at hs ⊢; exact hk q hs
  · rw [if_neg q]; exact fun z => absurd z (show (3 : Int) ≠ 0 by decide)
theorem lq_ahst (h : lm_ah (ln_e P) = true) : ln_st 4 P = P := by
  obtain ⟨_, q⟩ := lm_ahtp h
  cases P with
  | nil => rfl
  | cons e P =>
    have : lm_rk e.1 ≤ 3 := by
      rcases q with q | q
      · have : e.1 = 41 := q
        rw [this]; decide
      · exact q.2
    exact if_neg (by omega)
theorem lq_ex {w : Int} {g : Int → Int × Int} (h : lx_T f n b = w → lq_L f n law C s (g (ds_ad f n b))) : lq_L f n law C s (ds_bd (ds_ex f n w b) g) := fun z => by
  obtain ⟨z1, z2⟩ := ds_bdZ z
  obtain ⟨a1, a2⟩ := ds_exZ z1
  rw [ds_bd0 z1, a2] at z ⊢
  exact h a1 z
theorem lq_p4 {S A : ds_D} {VS VA : dv_D} (hS : lq_M3 f n law M N L0 m S VS) (hA : lq_M4 f n law M N L0 m A VA) : lq_M4 f n law M N L0 m (ds_ask f n S A) (dv_ask f n S VS VA) := by
  intro P o c b e hi ha
  obtain ⟨ho, _⟩ := lm_ahtp ha
  have h4 := lq_ahst ha
  unfold ds_ask dv_ask
  by_cases q : lx_T f n b = 44
  · rw [if_pos q, if_pos q]
    have hs : lo_sp f n law (P, o, c, false, b) = lo_pu f n P b (fun q => .inr ((20, 0, 0) :: P, o, c, false, q)) := by
      show lo_be f n law P o c b = _
      unfold lo_be
      rw [if_neg (by omega), if_neg (by omega), if_neg (by omega), if_neg (by omega), if_neg (by omega), if_neg (by omega), if_pos ⟨q, ha⟩]
    refine lq_en hs (fun _ st => lq_L1 st ?_)
    have hi' : lq_i M N L0 m ((20, 0, 0) :: P) o c e := lq_iw hi (Int.le_refl c) hi.2.1 (rq_Pc hi.1 (by decide) (fun q => by cases q)) (if_neg (by decide)) (fun _ _ => rfl)
    have a := hA ((20, 0, 0) :: P) o c (ds_ad f n b) e hi' (lm_ahm (k := 4) (by decide) (lq_stE (P := (20, 0, 0) :: P) (if_neg (by decide))) ((if_neg (by decide)).trans ho))
    rw [show lm_dp (ln_e ((20, 0, 0) :: P)) = lm_dp (ln_e P) + 1 from lm_opn (by decide), show lm_g (ln_e ((20, 0, 0) :: P)) = lm_g (ln_e P) from if_neg (by decide)] at a
    exact lq_Lw a (fun P3 o3 c3 h3 => ⟨lq_op (F := rq_t (VA (lm_dp (ln_e P) + 1) (lm_g (ln_e P)) e (ds_ad f n b))) (R1 := rv N L0 m o) (Int.le_refl 3) (by decide) (by decide) (by decide) hi.1 (Int.le_refl c) rq_Er h3.1 rfl, h3.2⟩)
  · rw [if_neg q, if_neg q, ds_bdA]
    refine lq_Lbd (hS P o c b e hi (ln_stj (k := 4) (by decide) h4) (Or.inl q)) (fun P2 o2 c2 hC => ?_)
    generalize hb2 : (S (lm_dp (ln_e P)) (lm_g (ln_e P)) b).2 = b2
    have hC4 := lq_CC (j := 4) (by decide) hi.1 hC
    obtain ⟨s1, s2, s3⟩ := lq_so (by decide) h4 hC4
    have o2' : lm_op (ln_e P2) = 41 := (lm_Cop (by decide) (lq_lm hC.1)).trans ho
    have q2 : lm_cp (ln_e P2) = false := (lm_Ccp (by decide) (lq_lm hC.1)).trans (lm_ahcp ha)
    by_cases ct : 4 ≤ lx_T f n b2 ∧ lx_T f n b2 ≤ 9
    · rw [if_pos ct, ds_bd0 (r := ((0 : Int), ds_ad f n b2)) rfl]
      have hbt : lm_bt (lx_T f n b2) (ln_e P2) = 6 + lx_T f n b2 := by
        unfold lm_bt
        rw [if_neg (by omega), if_neg (by omega), if_neg (by omega), if_neg (by omega), if_neg (by rw [o2']; decide), if_pos q2, if_pos ct]
      have rk4 : lm_rk (6 + lx_T f n b2) = 4 := by
        unfold lm_rk
        rw [if_neg (by omega), if_neg (by omega), if_neg (by omega), if_neg (by omega), if_pos (by omega)]
      refine lq_L1 (lq_bt hbt (by omega)) ?_
      rw [rk4, s1]
      obtain ⟨d1, d2, _, d4⟩ := lq_sgd (P := P) (x := 6 + lx_T f n b2) (v := 0) (w := 0) (by omega) (by omega) (by omega)
      have hi' : lq_i M N L0 m ((6 + lx_T f n b2, 0, 0) :: P) (ln_so 4 P2 o2) c2 e := lq_iw hi hC.2.1 s2 (rq_Pc (rq_Pw hi.1 hC.2.1) (by dsimp only; omega) (fun q => by dsimp only at q; omega)) d4 (fun i hi => s3.2.2 i hi)
      have a := hS ((6 + lx_T f n b2, 0, 0) :: P) (ln_so 4 P2 o2) c2 (ds_ad f n b2) e hi' (if_neg (by dsimp only; omega)) (Or.inr (lm_ahs (Or.inr (by show 4 ≤ lm_rk (6 + lx_T f n b2); omega))))
      rw [d1, d2] at a
      refine lq_Lw a (fun P3 o3 c3 h3 => ⟨lq_op (F := rq_n (VS (lm_dp (ln_e P)) (lm_g (ln_e P)) e (ds_ad f n b2))) (by decide) (by omega) (by omega) (by omega) hi.1 hC.2.1 (rq_nE s3) h3 (rq_cmp ct), (lm_Ccp (by decide) (lq_lm h3.1)).trans ?_⟩)
      show (if 4 < lm_rk (6 + lx_T f n b2) then lm_cp (ln_e P) else decide (lm_rk (6 + lx_T f n b2) = 4)) = true
      rw [rk4]; rfl
    · rw [if_neg ct, ds_bdF (r := ((1 : Int), b2)) (show (1 : Int) ≠ 0 by decide)]
      exact fun z => absurd z (show (1 : Int) ≠ 0 by decide)
end LQ
