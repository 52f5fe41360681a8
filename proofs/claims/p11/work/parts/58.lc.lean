/-! the reference does the machine's steps; lo_: the machine with what it writes -/
section LC
variable {f : Int → Int} {n law b c m d k : Int} {P : ln_P} {o : List (Int × Int)} {s t z : lf_Z}
abbrev ln_T : Type := ln_P × List (Int × Int) × Int × Bool × Int
def lo_pu (f : Int → Int) (n : Int) (P : ln_P) (b : Int) (k : Int → (Int × Int) ⊕ ln_T) : (Int × Int) ⊕ ln_T := if lm_dp (ln_e P) < 8 then k (ds_ad f n b) else .inl (3, b)
def lo_one (f : Int → Int) (n : Int) (P : ln_P) (o : List (Int × Int)) (c b : Int) (e : Int × Int) : (Int × Int) ⊕ ln_T := .inr (ln_st 7 P, ln_so 7 P (e :: o), c, true, ds_ad f n b)
def lo_lt (f : Int → Int) (n : Int) (P : ln_P) (o : List (Int × Int)) (c q : Int) : (Int × Int) ⊕ ln_T := if lx_T f n q = 3 then (if lx_T f n (ds_ad f n q) = 42 then .inr ((44, lx_V f n q, 0) :: P, o, c, false, ds_ad f n (ds_ad f n q)) else .inl (1, ds_ad f n q)) else .inl (1, q)
def lo_be (f : Int → Int) (n law : Int) (P : ln_P) (o : List (Int × Int)) (c b : Int) : (Int × Int) ⊕ ln_T :=
  if lx_T f n b = 2 then (if lx_V f n b ≤ 9999 then lo_one f n P o c b (0, lx_V f n b) else .inl (2, b))
  else if lx_T f n b = 3 then (if ln_g P (lx_V f n b) ≠ -1 then lo_one f n P o c b (31, ln_g P (lx_V f n b)) else .inl (5, b))
  else if lx_T f n b = 11 then lo_pu f n P b (fun q => .inr ((3, 0, 0) :: P, o, c, false, q))
  else if lx_T f n b = 14 then lo_pu f n P b (fun q => .inr ((40, 0, 0) :: P, o, c, false, q))
  else if lx_T f n b = 37 then lo_pu f n P b (fun q => .inr ((41, 0, 0) :: P, o, c, false, q))
  else if lx_T f n b = 41 then lo_pu f n P b (lo_lt f n P o c)
  else if lx_T f n b = 44 ∧ lm_ah (ln_e P) = true then lo_pu f n P b (fun q => .inr ((20, 0, 0) :: P, o, c, false, q))
  else if (ds_name f n law b).1 = 0 then lo_one f n P o c b (1, la_nm (lx_T f n b)) else .inl ((ds_name f n law b).1, b)
def lo_hd (P : ln_P) : Int := match P with | [] => 0 | e :: _ => e.2.1
def lo_bh (f : Int → Int) (n : Int) (P : ln_P) (o : List (Int × Int)) (c b : Int) : (Int × Int) ⊕ ln_T :=
  if 0 ≤ lm_bt (lx_T f n b) (ln_e P) then .inr ((lm_bt (lx_T f n b) (ln_e P), 0, 0) :: ln_st (lm_rk (lm_bt (lx_T f n b) (ln_e P))) P, ln_so (lm_rk (lm_bt (lx_T f n b) (ln_e P))) P o, c, false, ds_ad f n b)
  else if 0 < lm_pt (lx_T f n b) (ln_e P) then
    (if lm_pt (lx_T f n b) (ln_e P) = 45 then .inr ((45, lo_hd (ln_st 1 P), c) :: (ln_st 1 P).tail, (30, c) :: ln_so 1 P o, c + 1, false, ds_ad f n b)
     else .inr ((lm_pt (lx_T f n b) (ln_e P), lo_hd (ln_st 1 P), 0) :: (ln_st 1 P).tail, ln_so 1 P o, c, false, ds_ad f n b))
  else if lm_pt (lx_T f n b) (ln_e P) = 0 then .inr (ln_st 7 (ln_st 1 P).tail, ln_so 7 (ln_st 1 P).tail (if lm_op (ln_e P) = 43 then (2, 0) :: ln_so 1 P o else ln_so 1 P o), c, true, ds_ad f n b)
  else if 0 ≤ lm_op (ln_e P) then .inl (1, b) else .inl (0, b)
def lo_sp (f : Int → Int) (n law : Int) (x : ln_T) : (Int × Int) ⊕ ln_T := if x.2.2.2.1 = true then lo_bh f n x.1 x.2.1 x.2.2.1 x.2.2.2.2 else lo_be f n law x.1 x.2.1 x.2.2.1 x.2.2.2.2
/-- what stands when one has begun -/
def ln_Q (z : lf_Z) (f : Int → Int) (n : Int) (r : (Int × Int) ⊕ ln_T) (v : Int) (t : lf_Z) : Prop :=
  match r with
  | .inl V => v = V.1 ∧ V.1 ≠ 0 ∧ la_B f n V.2 t ∧ ln_F z t
  | .inr y => v = 0 ∧ ln_C z f n y.2.2.2.2 y.1 y.2.2.1 y.2.1 t ∧ t.1 95 23 = (if y.2.2.2.1 = true then 1 else 0) ∧ lm_dp (ln_e y.1) ≤ 8
theorem ln_w {v : Int} (h : ln_S z f n b P m d k c o s) : ln_S z f n b P m d k c o (lf_up s.1 95 23 v, s.2.1, s.2.2) :=
  ln_Sx h rfl (fun q hq => zu_r hq) (fun i hi => zu_i (by omega)) ((zu_i (by decide)).trans h.2.2.1) ((zu_i (by decide)).trans h.2.2.2.2.1) ((zu_i (by decide)).trans h.2.2.2.2.2.1) ((zu_i (by decide)).trans h.2.2.2.2.2.2.2.2.1) h.2.2.2.2.2.2.2.2.2.2.2
theorem ln_19 {v : Int} (h : ln_S z f n b P m d k c o s) : ln_S z f n b P v d k c o (lf_up s.1 95 19 v, s.2.1, s.2.2) :=
  ln_Sx h rfl (fun q hq => zu_r hq) (fun i hi => zu_i (by omega)) zu_s ((zu_i (by decide)).trans h.2.2.2.2.1) ((zu_i (by decide)).trans h.2.2.2.2.2.1) ((zu_i (by decide)).trans h.2.2.2.2.2.2.2.2.1) h.2.2.2.2.2.2.2.2.2.2.2
theorem ln_20 {v : Int} (h : ln_S z f n b P m d k c o s) : ln_S z f n b P m v k c o (lf_up s.1 95 20 v, s.2.1, s.2.2) :=
  ln_Sx h rfl (fun q hq => zu_r hq) (fun i hi => zu_i (by omega)) ((zu_i (by decide)).trans h.2.2.1) zu_s ((zu_i (by decide)).trans h.2.2.2.2.2.1) ((zu_i (by decide)).trans h.2.2.2.2.2.2.2.2.1) h.2.2.2.2.2.2.2.2.2.2.2
theorem ln_21 {v : Int} (h : ln_S z f n b P m d k c o s) : ln_S z f n b P m d v c o (lf_up s.1 95 21 v, s.2.1, s.2.2) :=
  ln_Sx h rfl (fun q hq => zu_r hq) (fun i hi => zu_i (by omega)) ((zu_i (by decide)).trans h.2.2.1) ((zu_i (by decide)).trans h.2.2.2.2.1) zu_s ((zu_i (by decide)).trans h.2.2.2.2.2.2.2.2.1) h.2.2.2.2.2.2.2.2.2.2.2
theorem ln_22 {v : Int} (h : ln_S z f n b P m d k c o s) (hv : 0 ≤ v) : ln_S z f n b P m d k v o (lf_up s.1 95 22 v, s.2.1, s.2.2) :=
  ln_Sx h rfl (fun q hq => zu_r hq) (fun i hi => zu_i (by omega)) ((zu_i (by decide)).trans h.2.2.1) ((zu_i (by decide)).trans h.2.2.2.2.1) ((zu_i (by decide)).trans h.2.2.2.2.2.1) zu_s hv
theorem ln_cl (h : ln_S z f n b P m d k c o s) (hm : m = P.length) (hd : d = lm_dp (ln_e P)) (hk : k = ln_nl P) : ln_C z f n b P c o s := by
  subst hm hd hk; exact h
theorem ln_dpc {x y w : Int} : lm_dp (ln_e ((x, y, w) :: P)) = (if 40 ≤ x ∨ x = 3 ∨ x = 20 then 1 else 0) + lm_dp (ln_e P) := rfl
theorem ln_len {e : Int × Int × Int} : ((e :: P).length : Int) = (P.length : Int) + 1 := by rw [List.length_cons]; omega
/-- one is done -/
theorem fl_233 {x y : Int} {Q : lf_Z → Prop} (h : ln_C z f n b P c o s) (kk : ∀ t : lf_Z, ln_C z f n (ds_ad f n b) (ln_st 7 P) c (ln_so 7 P ((x, y) :: o)) t → t.1 95 23 = 1 → Q t) : fw_233 x y Q s := by
  unfold fw_233
  refine fl_225 h (fun u hu _ _ => ln_nx hu (fun v hv _ _ => ?_))
  have h2 : ln_C z f n (ds_ad f n b) P c ((x, y) :: o) (lf_up v.1 95 23 1, v.2.1, v.2.2) := ln_w hv
  exact fl_224 (by decide) h2 (fun t ht h23 => kk t ht (h23.trans zu_s))
theorem ln_push {x : Int} (h : ln_C z f n b P c o s) (t : lf_Z) (ht : t = (lf_up (lf_up (lf_up s.1 95 20 (s.1 95 20 + 1)) 100 (s.1 95 19) x) 95 19 (s.1 95 19 + 1), s.2.1, s.2.2)) : ln_S z f n b P (P.length + 1) (lm_dp (ln_e P) + 1) (ln_nl P) c o t ∧ t.1 100 P.length = x ∧ t.1 95 23 = s.1 95 23 := by
  have e19 : s.1 95 19 = P.length := h.2.2.1
  have e20 : s.1 95 20 = lm_dp (ln_e P) := h.2.2.2.2.1
  rw [e19, e20] at ht
  have a : ln_S z f n b P P.length (lm_dp (ln_e P) + 1) (ln_nl P) c o (lf_up s.1 95 20 (lm_dp (ln_e P) + 1), s.2.1, s.2.2) := ln_20 h
  have a2 := ln_S100 (i := P.length) (v := x) a (Int.le_refl _)
  refine ⟨?_, ?_, ?_⟩
  · rw [ht]; exact ln_19 a2
  · rw [ht]; exact (zu_c (by decide)).trans lf_up_s
  · rw [ht]; exact (zu_i (by decide)).trans ((lf_up_c (by decide)).trans (lf_up_i (by decide)))
/-- opened -/
theorem fl_234 {x : Int} {Q : Int → lf_Z → Prop} (h : ln_C z f n b P c o s) (hd : lm_dp (ln_e P) ≤ 8) (h23 : s.1 95 23 = 0) (hx : x = 40 ∨ x = 41 ∨ x = 3 ∨ x = 20) (kk : ∀ (v : Int) (t : lf_Z), ln_Q z f n (lo_pu f n P b (fun q => .inr ((x, 0, 0) :: P, o, c, false, q))) v t → Q v t) : fw_234 x Q s := by
  have e20 : s.1 95 20 = lm_dp (ln_e P) := h.2.2.2.2.1
  unfold fw_234
  intro _
  refine ⟨fun q _ => ?_, fun q => kk _ _ ?_⟩
  · obtain ⟨p1, p2, p3⟩ := ln_push (x := x) h _ rfl
    refine ln_nx p1 (fun v hv v95 vq => ?_)
    intro _
    refine ⟨fun w => by omega, fun _ => kk _ _ ?_⟩
    unfold lo_pu
    rw [if_pos (by omega)]
    refine ⟨rfl, ln_cl (ln_cons hv (e := (x, 0, 0)) (show x ≠ 44 by omega) (show x ≠ 45 by omega) ?_) ln_len.symm ?_ (ln_nlN (show x ≠ 44 by omega) (show x ≠ 45 by omega)).symm, ((v95 23 (by omega)).trans p3).trans h23, ?_⟩
    · rw [vq 100 (by decide)]; exact p2
    · rw [ln_dpc, if_pos (by omega)]; omega
    · show lm_dp (ln_e ((x, 0, 0) :: P)) ≤ 8
      rw [ln_dpc, if_pos (by omega)]; omega
  · unfold lo_pu
    rw [if_neg (by omega)]
    exact ⟨rfl, (by decide : (3 : Int) ≠ 0), h.2.1, h.1⟩
theorem fl_234L {Q : Int → lf_Z → Prop} (h : ln_C z f n b P c o s) (hd : lm_dp (ln_e P) ≤ 8) (h23 : s.1 95 23 = 0) (kk : ∀ (v : Int) (t : lf_Z), ln_Q z f n (lo_pu f n P b (lo_lt f n P o c)) v t → Q v t) : fw_234 44 Q s := by
  have e20 : s.1 95 20 = lm_dp (ln_e P) := h.2.2.2.2.1
  unfold fw_234
  intro _
  refine ⟨fun q _ => ?_, fun q => kk _ _ ?_⟩
  · obtain ⟨p1, p2, p3⟩ := ln_push (x := 44) h _ rfl
    have E : lo_pu f n P b (lo_lt f n P o c) = lo_lt f n P o c (ds_ad f n b) := if_pos (by omega)
    rw [E] at kk
    unfold lo_lt at kk
    refine ln_nx p1 (fun v hv v95 vq => ?_)
    have v100 : v.1 100 P.length = 44 := by rw [vq 100 (by decide)]; exact p2
    have v23 : v.1 95 23 = 0 := ((v95 23 (by omega)).trans p3).trans h23
    intro _
    refine ⟨fun _ => fl_232 hv.2.1 (fun w hw => ?_), fun w => absurd rfl w⟩
    intro _
    by_cases T3 : lx_T f n (ds_ad f n b) = 3
    · have V3 := la_V3 T3
      rw [if_pos T3] at hw kk
      refine ⟨fun _ => fl_232 hv.2.1 (fun w2 hw2 _ => ?_), fun q0 => by omega⟩
      rw [if_pos T3] at hw2
      have e21 : v.1 95 21 = ln_nl P := hv.2.2.2.2.2.1
      rw [e21, hw2]
      have a := ln_let hv v100 V3.1 V3.2
      have a2 : ln_C z f n (ds_ad f n b) ((44, lx_V f n (ds_ad f n b), 0) :: P) c o (lf_up (lf_up v.1 101 (ln_nl P) (lx_V f n (ds_ad f n b))) 95 21 (ln_nl P + 1), v.2.1, v.2.2) := by
        refine ln_cl (ln_21 a) ln_len.symm ?_ ?_
        · rw [ln_dpc, if_pos (by omega)]; omega
        · rw [ln_nlL (Or.inl rfl)]; omega
      refine ln_nx a2 (fun y hy y95 yq => fl_206 (fl_207 hy.2.1 22 (by decide) (by decide +kernel) ⟨fun g => ?_, fun g => kk _ _ ?_⟩))
      · have g := of_decide_eq_true g
        rw [if_pos (by omega)] at kk
        have y23 : y.1 95 23 = 0 := (y95 23 (by omega)).trans (((zu_i (by decide)).trans (lf_up_c (by decide))).trans v23)
        refine ln_nx hy (fun u hu u95 uq => kk _ _ ⟨rfl, hu, (u95 23 (by omega)).trans y23, ?_⟩)
        show lm_dp (ln_e ((44, lx_V f n (ds_ad f n b), 0) :: P)) ≤ 8
        rw [ln_dpc, if_pos (by omega)]; omega
      · have g := of_decide_eq_false g
        rw [if_neg (by omega)]
        exact ⟨rfl, (by decide : (1 : Int) ≠ 0), hy.2.1, hy.1⟩
    · rw [if_neg T3] at hw kk
      refine ⟨fun q0 => by omega, fun _ => kk _ _ ⟨rfl, (by decide : (1 : Int) ≠ 0), hv.2.1, hv.1⟩⟩
  · unfold lo_pu
    rw [if_neg (by omega)]
    exact ⟨rfl, (by decide : (3 : Int) ≠ 0), h.2.1, h.1⟩
/-! names -/
def la_of (x law : Int) : Bool := decide (x < 4) || (if x = 4 then decide (law = 0) else if x = 10 then decide (law = 2) else decide (law = 1))
theorem fl_231 {x : Int} {Q : Bool → lf_Z → Prop} (hl : s.1 95 14 = law) (kk : Q (la_of x law) s) : fw_231 x Q s := by
  have key : ∀ v : Bool, v = la_of x law → Q v s := fun v e => by rw [e]; exact kk
  unfold fw_231
  intro _
  rw [hl]
  refine ⟨fun c1 => key _ ?_, fun c1 => ⟨fun c2 => ⟨fun c3 _ => ⟨fun c4 => key _ ?_, fun c4 => key _ ?_⟩, fun c3 _ => ⟨fun c4 => key _ ?_, fun c4 => key _ ?_⟩⟩, fun c2 _ => ⟨fun c4 => key _ ?_, fun c4 => key _ ?_⟩⟩⟩
  · unfold la_of; rw [decide_eq_true c1]; rfl
  · unfold la_of; rw [decide_eq_false c1, Bool.false_or, if_neg c2, if_neg c3, decide_eq_false c4]
  · unfold la_of; rw [decide_eq_false c1, Bool.false_or, if_neg c2, if_neg c3, decide_eq_true (Classical.not_not.mp c4)]
  · unfold la_of; rw [decide_eq_false c1, Bool.false_or, if_neg c2, if_pos (Classical.not_not.mp c3), decide_eq_false c4]
  · unfold la_of; rw [decide_eq_false c1, Bool.false_or, if_neg c2, if_pos (Classical.not_not.mp c3), decide_eq_true (Classical.not_not.mp c4)]
  · unfold la_of; rw [decide_eq_false c1, Bool.false_or, if_pos (Classical.not_not.mp c2), decide_eq_false c4]
  · unfold la_of; rw [decide_eq_false c1, Bool.false_or, if_pos (Classical.not_not.mp c2), decide_eq_true (Classical.not_not.mp c4)]
theorem la_ofE : ∀ l : Nat, l < 3 → (ds_nm l 10 = la_of 9 l) ∧ (ds_nm l 9 = la_of 10 l) ∧ ∀ x : Nat, x < 9 → ds_nm l x = la_of x l := by decide +kernel
theorem la_nmB (t : Int) : (0 ≤ la_nm t ↔ (t = 24 ∨ (47 ≤ t ∧ t ≤ 56))) ∧ (t = 24 → la_nm t = 9) ∧ (t = 56 → la_nm t = 10) ∧ (47 ≤ t ∧ t ≤ 55 → la_nm t = t - 47) := by
  unfold la_nm
  refine ⟨?_, fun q => if_pos q, fun q => by rw [if_neg (by omega), if_pos q], fun q => by rw [if_neg (by omega), if_neg (by omega), if_pos q]⟩
  (repeat' split) <;> omega
/-- a name: whether it stands in the clause of this law -/
theorem la_name (h0 : 0 ≤ law) (h2 : law ≤ 2) : (0 ≤ la_nm (lx_T f n b) → (ds_name f n law b).1 = if la_of (la_nm (lx_T f n b)) law = true then 0 else 5) ∧ (¬ 0 ≤ la_nm (lx_T f n b) → (ds_name f n law b).1 = 1) := by
  obtain ⟨b1, b2, b3, b4⟩ := la_nmB (lx_T f n b)
  obtain ⟨l, rfl⟩ := Int.eq_ofNat_of_zero_le h0
  obtain ⟨e1, e2, e3⟩ := la_ofE l (by omega)
  unfold ds_name
  refine ⟨fun q => ?_, fun q => ?_⟩
  · rcases b1.mp q with w | w
    · rw [b2 w, if_pos w, ← e1]
      split <;> rfl
    · rw [if_neg (by omega), if_pos w]
      by_cases y : lx_T f n b = 56
      · rw [b3 y, y, ← e2]
        show (if ds_nm l 9 = true then (0, ds_ad f n b) else (5, b)).1 = _
        split <;> rfl
      · have := e3 (lx_T f n b - 47).toNat (by omega)
        rw [show (((lx_T f n b - 47).toNat : Nat) : Int) = lx_T f n b - 47 by omega] at this
        rw [b4 (by omega), ← this]
        split <;> rfl
  · rw [if_neg (fun w => q (b1.mpr (Or.inl w))), if_neg (fun w => q (b1.mpr (Or.inr w)))]
/-- begins one -/
theorem fl_229 {Q : Int → lf_Z → Prop} (h : ln_C z f n b P c o s) (hd : lm_dp (ln_e P) ≤ 8) (h23 : s.1 95 23 = 0) (hl : s.1 95 14 = law) (h0 : 0 ≤ law) (h2 : law ≤ 2) (kk : ∀ (v : Int) (t : lf_Z), ln_Q z f n (lo_be f n law P o c b) v t → Q v t) : fw_229 Q s := by
  have KT := la_Bk h.2.1
  unfold la_kt at KT
  have r10 : s.1 95 9 = 1 → 0 ≤ s.1 95 10 ∧ min 10000 (s.1 95 10) = lx_V f n b := by
    obtain ⟨b1, b2, b3, _⟩ := h.2.1
    have := b3.2.2.2.1
    rw [b1, b2] at this
    exact this
  obtain ⟨n1, n2, n3, n4⟩ := la_nmB (lx_T f n b)
  obtain ⟨m1, m2⟩ := la_name (f := f) (n := n) (b := b) h0 h2
  have hg : ∀ j : Int, 0 ≤ j → j < 26 → s.1 103 j = ln_g P j := h.2.2.2.2.2.2.2.1
  have one : ∀ x y : Int, lo_be f n law P o c b = lo_one f n P o c b (x, y) → fw_233 x y (fun s34 => Q 0 s34) s := fun x y e =>
    fl_233 h (fun t ht h1 => kk 0 t (by rw [e]; exact ⟨rfl, ht, h1, Int.le_trans (ln_dpst P) hd⟩))
  have bad : ∀ v : Int, v ≠ 0 → lo_be f n law P o c b = .inl (v, b) → Q v s := fun v hv e => kk v s (by rw [e]; exact ⟨rfl, hv, h.2.1, h.1⟩)
  have p79 : ∀ x1 : Int, x1 = la_nm (lx_T f n b) → (lx_T f n b = 2 → lx_V f n b ≤ 9999) → (lx_T f n b = 3 → ln_g P (lx_V f n b) ≠ -1) → (0 ≤ x1 → (ds_name f n law b).1 = 0) → (lx_T f n b = 2 ∨ lx_T f n b = 3 ∨ 0 ≤ x1) → fw_229_p79 Q x1 s := by
    intro x1 e1 g2 g3 g4 g5
    unfold fw_229_p79
    intro _
    refine ⟨fun q _ => ⟨fun q2 => ?_, fun q2 => ?_⟩, fun q => ?_⟩
    · have T3 : lx_T f n b = 3 := by omega
      have V3 := la_V3 T3
      refine fl_232 h.2.1 (fun w hw _ => ?_)
      rw [if_pos T3] at hw
      rw [hw, hg _ V3.1 V3.2]
      exact one _ _ (by unfold lo_be; rw [if_neg (by omega), if_pos T3, if_pos (g3 T3)])
    · have := n1.mp (by omega)
      have w := g4 (by omega)
      rw [e1]
      exact one _ _ (by unfold lo_be; rw [if_neg (by omega), if_neg (by omega), if_neg (by omega), if_neg (by omega), if_neg (by omega), if_neg (by omega), if_neg (fun y => by omega), if_pos w])
    · have T2 : lx_T f n b = 2 := by omega
      have r := r10 (by omega)
      have v := g2 T2
      rw [show s.1 95 10 = lx_V f n b by omega]
      exact one _ _ (by unfold lo_be; rw [if_pos T2, if_pos v])
  have p60 : ∀ x1 : Int, x1 = la_nm (lx_T f n b) → (lx_T f n b = 2 → lx_V f n b ≤ 9999) → (lx_T f n b = 3 → ln_g P (lx_V f n b) ≠ -1) → (0 ≤ x1 → (ds_name f n law b).1 = 0) → fw_229_p60 Q x1 s := by
    intro x1 e1 g2 g3 g4
    unfold fw_229_p60
    intro _
    refine ⟨fun q => p79 x1 e1 g2 g3 g4 (by omega), fun q _ => ⟨fun q2 => p79 x1 e1 g2 g3 g4 (Or.inr (Or.inr q2)), fun q2 => fl_232 h.2.1 (fun w hw => ?_)⟩⟩
    intro _
    by_cases T3 : lx_T f n b = 3
    · rw [if_pos T3] at hw
      have V3 := la_V3 T3
      exact ⟨fun q3 => by omega, fun _ => p79 x1 e1 g2 g3 g4 (Or.inr (Or.inl T3))⟩
    · rw [if_neg T3] at hw
      refine ⟨fun _ _ => ⟨fun t40 => ⟨fun t45 => ?_, fun t45 => ?_⟩, fun t40 => ?_⟩, fun q3 => by omega⟩
      · have nn := m2 (by omega)
        refine fl_206 (fl_207 h.2.1 17 (by decide) (by decide +kernel) ⟨fun z17 => ?_, fun z17 => ?_⟩)
        · have z17 := of_decide_eq_false z17
          refine fl_205 (fl_207 h.2.1 21 (by decide) (by decide +kernel) ⟨fun z21 => ?_, fun z21 => ?_⟩)
          · have z21 := of_decide_eq_false z21
            refine fl_205 (fl_207 h.2.1 24 (by decide) (by decide +kernel) ⟨fun z24 => ?_, fun z24 => ?_⟩)
            · have z24 := of_decide_eq_false z24
              refine bad 1 (by decide) ?_
              unfold lo_be
              rw [if_neg (by omega), if_neg (by omega), if_neg (by omega), if_neg (by omega), if_neg (by omega), if_neg (by omega), if_neg (fun y => by omega), if_neg (by omega), nn]
            · have z24 := of_decide_eq_true z24
              refine fl_235 h.2.2.2.1 h.2.2.1 ⟨fun y => ?_, fun y => ?_⟩
              · refine bad 1 (by decide) ?_
                unfold lo_be
                rw [if_neg (by omega), if_neg (by omega), if_neg (by omega), if_neg (by omega), if_neg (by omega), if_neg (by omega), if_neg (fun g => by rw [y] at g; exact absurd g.2 (by decide)), if_neg (by omega), nn]
              · refine fl_234 h hd h23 (by omega) (fun v t ht => kk v t ?_)
                unfold lo_be
                rw [if_neg (by omega), if_neg (by omega), if_neg (by omega), if_neg (by omega), if_neg (by omega), if_neg (by omega), if_pos ⟨by omega, y⟩]
                exact ht
          · have z21 := of_decide_eq_true z21
            refine fl_234L h hd h23 (fun v t ht => kk v t ?_)
            unfold lo_be
            rw [if_neg (by omega), if_neg (by omega), if_neg (by omega), if_neg (by omega), if_neg (by omega), if_pos (by omega)]
            exact ht
        · have z17 := of_decide_eq_true z17
          refine fl_234 h hd h23 (by omega) (fun v t ht => kk v t ?_)
          unfold lo_be
          rw [if_neg (by omega), if_neg (by omega), if_neg (by omega), if_neg (by omega), if_pos (by omega)]
          exact ht
      · refine fl_234 h hd h23 (by omega) (fun v t ht => kk v t ?_)
        unfold lo_be
        rw [if_neg (by omega), if_neg (by omega), if_pos (by omega)]
        exact ht
      · refine fl_234 h hd h23 (by omega) (fun v t ht => kk v t ?_)
        unfold lo_be
        rw [if_neg (by omega), if_neg (by omega), if_neg (by omega), if_pos (by omega)]
        exact ht
  have p39 : ∀ x1 : Int, x1 = la_nm (lx_T f n b) → (lx_T f n b = 2 → lx_V f n b ≤ 9999) → (0 ≤ x1 → (ds_name f n law b).1 = 0) → fw_229_p39 Q x1 s := by
    intro x1 e1 g2 g4
    unfold fw_229_p39
    refine fl_232 h.2.1 (fun w hw => ?_)
    intro _
    by_cases T3 : lx_T f n b = 3
    · rw [if_pos T3] at hw
      have V3 := la_V3 T3
      refine ⟨fun q => by omega, fun _ => fl_232 h.2.1 (fun w2 hw2 _ => ?_)⟩
      rw [if_pos T3] at hw2
      rw [hw2, hg _ V3.1 V3.2]
      intro _
      have B := ln_gB P h.2.2.2.2.2.2.1 (lx_V f n b)
      refine ⟨fun q => p60 x1 e1 g2 (fun _ => by omega) g4, fun q => bad 5 (by decide) ?_⟩
      unfold lo_be
      rw [if_neg (by omega), if_pos T3, if_neg (by omega)]
    · rw [if_neg T3] at hw
      exact ⟨fun _ => p60 x1 e1 g2 (fun y => absurd y T3) g4, fun q => by omega⟩
  have p20 : (lx_T f n b = 2 → lx_V f n b ≤ 9999) → fw_229_p20 Q s := by
    intro g2
    unfold fw_229_p20
    refine fl_230 h.2.1 (fun v hv => ?_)
    intro _
    refine ⟨fun q => p39 v hv g2 (fun y => by omega), fun q => fl_231 hl ?_⟩
    have nn := m1 (by omega)
    rw [← hv] at nn
    refine ⟨fun y => p39 v hv g2 (fun _ => ?_), fun y => bad 5 (by decide) ?_⟩
    · rw [nn, if_pos y]
    · rw [y] at nn
      have nn : (ds_name f n law b).1 = 5 := nn
      have := n1.mp (by omega)
      unfold lo_be
      rw [if_neg (by omega), if_neg (by omega), if_neg (by omega), if_neg (by omega), if_neg (by omega), if_neg (by omega), if_neg (fun y => by omega), if_neg (by omega), nn]
  unfold fw_229
  intro _
  refine ⟨fun q => p20 (fun y => by omega), fun q _ => ⟨fun q2 => p20 (fun _ => ?_), fun q2 => bad 2 (by decide) ?_⟩⟩
  · have := r10 (by omega)
    omega
  · have := r10 (by omega)
    unfold lo_be
    rw [if_pos (by omega), if_neg (by omega)]
end LC
