/-! the reference's sum: what it writes -/
section RS
variable {f : Int → Int} {n law a b c k : Int} {P : ln_P} {o : List (Int × Int)} {x y : ln_T} {s t z : lf_Z}
theorem ln_soS (k : Int) : ∀ (P : ln_P) (o : List (Int × Int)), (∃ w, ln_so k P o = w ++ o) ∧ (ln_so k P o).length + (ln_st k P).length = o.length + P.length := by
  intro P
  induction P with
  | nil => intro o; exact ⟨⟨[], rfl⟩, rfl⟩
  | cons e P ih =>
    intro o
    show (∃ w, (if k ≤ lm_rk e.1 then ln_so k P ((e.1, 0) :: o) else o) = w ++ o) ∧ (if k ≤ lm_rk e.1 then ln_so k P ((e.1, 0) :: o) else o).length + (if k ≤ lm_rk e.1 then ln_st k P else e :: P).length = o.length + (e :: P).length
    by_cases q : k ≤ lm_rk e.1
    · rw [if_pos q, if_pos q]
      obtain ⟨⟨w, hw⟩, hl⟩ := ih ((e.1, 0) :: o)
      refine ⟨⟨w ++ [(e.1, 0)], by rw [hw, List.append_assoc]; rfl⟩, ?_⟩
      rw [hl, List.length_cons, List.length_cons]; omega
    · rw [if_neg q, if_neg q]; exact ⟨⟨[], rfl⟩, rfl⟩
def rs_w (x y : ln_T) : Prop := (∃ w, y.2.1 = w ++ x.2.1) ∧ ((y.2.1.length + y.1.length : Nat) : Int) + x.2.2.2.2 ≤ ((x.2.1.length + x.1.length : Nat) : Int) + y.2.2.2.2
theorem rs_wt {u : ln_T} (h : rs_w x y) (g : rs_w y u) : rs_w x u := by
  obtain ⟨⟨w, h1⟩, h2⟩ := h
  obtain ⟨⟨v, g1⟩, g2⟩ := g
  exact ⟨⟨v ++ w, by rw [g1, h1, List.append_assoc]⟩, by omega⟩
theorem rs_one {e : Int × Int} {w : Bool} (hb : lx_T f n b ≠ 0) (h : lo_one f n P o c b e = .inr y) : rs_w (P, o, c, w, b) y := by
  unfold lo_one at h
  have h : (ln_st 7 P, ln_so 7 P (e :: o), c, true, ds_ad f n b) = y := by injection h
  rw [← h]
  obtain ⟨⟨w, hw⟩, hl⟩ := ln_soS 7 P (e :: o)
  have ad := (lm_adv hb).2
  refine ⟨⟨w ++ [e], by rw [show (ln_st 7 P, ln_so 7 P (e :: o), c, true, ds_ad f n b).2.1 = ln_so 7 P (e :: o) from rfl, hw, List.append_assoc]; rfl⟩, ?_⟩
  dsimp only
  rw [hl, List.length_cons]
  omega
theorem rs_pu {e : Int × Int × Int} {w : Bool} (hb : lx_T f n b ≠ 0) (h : lo_pu f n P b (fun q => .inr (e :: P, o, c, false, q)) = .inr y) : rs_w (P, o, c, w, b) y := by
  unfold lo_pu at h
  split at h
  · have h : (e :: P, o, c, false, ds_ad f n b) = y := by injection h
    rw [← h]
    have ad := (lm_adv hb).2
    refine ⟨⟨[], rfl⟩, ?_⟩
    dsimp only
    rw [List.length_cons]
    omega
  · cases h
theorem rs_be (h : lo_be f n law P o c b = .inr y) : rs_w (P, o, c, false, b) y := by
  unfold lo_be at h
  by_cases c2 : lx_T f n b = 2
  · rw [if_pos c2] at h
    split at h
    · exact rs_one (by omega) h
    · cases h
  rw [if_neg c2] at h
  by_cases c3 : lx_T f n b = 3
  · rw [if_pos c3] at h
    split at h
    · exact rs_one (by omega) h
    · cases h
  rw [if_neg c3] at h
  by_cases c11 : lx_T f n b = 11
  · rw [if_pos c11] at h; exact rs_pu (by omega) h
  rw [if_neg c11] at h
  by_cases c14 : lx_T f n b = 14
  · rw [if_pos c14] at h; exact rs_pu (by omega) h
  rw [if_neg c14] at h
  by_cases c37 : lx_T f n b = 37
  · rw [if_pos c37] at h; exact rs_pu (by omega) h
  rw [if_neg c37] at h
  by_cases c41 : lx_T f n b = 41
  · rw [if_pos c41] at h
    unfold lo_pu lo_lt at h
    split at h
    · split at h
      · split at h
        · rename_i q1 q2 q3
          have h : ((44, lx_V f n (ds_ad f n b), 0) :: P, o, c, false, ds_ad f n (ds_ad f n (ds_ad f n b))) = y := by injection h
          rw [← h]
          have ad := (lm_adv (f := f) (n := n) (b := b) (by omega)).2
          have a2 := lm_ad0 (f := f) (n := n) (b := ds_ad f n b)
          have a3 := lm_ad0 (f := f) (n := n) (b := ds_ad f n (ds_ad f n b))
          refine ⟨⟨[], rfl⟩, ?_⟩
          dsimp only
          rw [List.length_cons]
          omega
        · cases h
      · cases h
    · cases h
  rw [if_neg c41] at h
  by_cases c44 : lx_T f n b = 44 ∧ lm_ah (ln_e P) = true
  · rw [if_pos c44] at h; exact rs_pu (by omega) h
  rw [if_neg c44] at h
  split at h
  · rename_i q
    refine rs_one (fun w => ?_) h
    unfold ds_name at q
    rw [w, if_neg (by decide), if_neg (by decide)] at q
    exact absurd q (show (1 : Int) ≠ 0 by decide)
  · cases h
theorem rs_bh (h : lo_bh f n P o c b = .inr y) : rs_w (P, o, c, true, b) y := by
  unfold lo_bh at h
  split at h
  · rename_i q
    have h : ((lm_bt (lx_T f n b) (ln_e P), (0 : Int), (0 : Int)) :: ln_st (lm_rk (lm_bt (lx_T f n b) (ln_e P))) P, ln_so (lm_rk (lm_bt (lx_T f n b) (ln_e P))) P o, c, false, ds_ad f n b) = y := by injection h
    rw [← h]
    have tn : lx_T f n b ≠ 0 := fun w => by
      rw [w] at q
      unfold lm_bt at q
      rw [if_neg (by decide), if_neg (by decide), if_neg (by decide), if_neg (by decide)] at q
      split at q
      · exact absurd q (by decide)
      · split at q
        · exact absurd q (by decide)
        · exact absurd q (by decide)
    have ad := (lm_adv tn).2
    obtain ⟨hw, hl⟩ := ln_soS (lm_rk (lm_bt (lx_T f n b) (ln_e P))) P o
    refine ⟨hw, ?_⟩
    dsimp only
    rw [List.length_cons]
    omega
  · obtain ⟨⟨w, hw⟩, hl⟩ := ln_soS 1 P o
    have t0 : lm_pt 0 (ln_e P) = -1 := by unfold lm_pt; (repeat' split) <;> omega
    have tl : ∀ l : ln_P, l.tail.length ≤ l.length := fun l => by rw [List.length_tail]; omega
    split at h
    · rename_i q
      have tn : lx_T f n b ≠ 0 := fun w => by rw [w, t0] at q; exact absurd q (by decide)
      have ad := (lm_adv tn).2
      have pb := lm_ptB (lx_T f n b) (ln_e P)
      have ne : 1 ≤ (ln_st 1 P).length := by
        have op : lm_op (ln_e P) ≠ -1 := by omega
        cases hP : ln_st 1 P with
        | nil =>
          exfalso
          have := lm_opst (P := ln_e P) (k := 1) (by decide)
          rw [← ln_eS, hP] at this
          exact op (this.symm.trans rfl)
        | cons _ _ => rw [List.length_cons]; omega
      split at h
      · have h : (((45 : Int), lo_hd (ln_st 1 P), c) :: (ln_st 1 P).tail, ((30 : Int), c) :: ln_so 1 P o, c + 1, false, ds_ad f n b) = y := by injection h
        rw [← h]
        refine ⟨⟨(30, c) :: w, by rw [show (((45 : Int), lo_hd (ln_st 1 P), c) :: (ln_st 1 P).tail, ((30 : Int), c) :: ln_so 1 P o, c + 1, false, ds_ad f n b).2.1 = ((30 : Int), c) :: ln_so 1 P o from rfl, hw]; rfl⟩, ?_⟩
        dsimp only
        rw [List.length_cons, List.length_cons, List.length_tail]
        omega
      · have h : ((lm_pt (lx_T f n b) (ln_e P), lo_hd (ln_st 1 P), (0 : Int)) :: (ln_st 1 P).tail, ln_so 1 P o, c, false, ds_ad f n b) = y := by injection h
        rw [← h]
        refine ⟨⟨w, hw⟩, ?_⟩
        dsimp only
        rw [List.length_cons, List.length_tail]
        omega
    · split at h
      · rename_i q
        have tn : lx_T f n b ≠ 0 := fun w => by rw [w, t0] at q; exact absurd q (by decide)
        have ad := (lm_adv tn).2
        have h : (ln_st 7 (ln_st 1 P).tail, ln_so 7 (ln_st 1 P).tail (if lm_op (ln_e P) = 43 then ((2 : Int), (0 : Int)) :: ln_so 1 P o else ln_so 1 P o), c, true, ds_ad f n b) = y := by injection h
        rw [← h]
        have key : ∀ o5 : List (Int × Int), (∃ v, o5 = v ++ o) → o5.length + (ln_st 1 P).tail.length ≤ o.length + P.length + 1 → rs_w (P, o, c, true, b) (ln_st 7 (ln_st 1 P).tail, ln_so 7 (ln_st 1 P).tail o5, c, true, ds_ad f n b) := by
          intro o5 ⟨v, hv⟩ h5
          obtain ⟨⟨w7, hw7⟩, hl7⟩ := ln_soS 7 (ln_st 1 P).tail o5
          refine ⟨⟨w7 ++ v, by show ln_so 7 (ln_st 1 P).tail o5 = _; rw [hw7, hv, List.append_assoc]⟩, ?_⟩
          dsimp only
          rw [hl7]
          omega
        have tt := tl (ln_st 1 P)
        split
        · exact key _ ⟨(2, 0) :: w, by rw [hw]; rfl⟩ (by rw [List.length_cons]; omega)
        · exact key _ ⟨w, hw⟩ (by omega)
      · split at h <;> cases h
theorem rs_sp (h : lo_sp f n law x = .inr y) : rs_w x y := by
  obtain ⟨P, o, c, w, b⟩ := x
  cases w with
  | false => exact rs_be h
  | true => exact rs_bh h
/-- names that both have, and their worths -/
def rs_N (f : Int → Int) (n law : Int) (M N : Int → Int) : Prop := ∀ b : Int, (ds_name f n law b).1 = 0 → cm_sm (N (la_nm (lx_T f n b))) ∧ M (la_nm (lx_T f n b)) = N (la_nm (lx_T f n b))
/-- the orders of a sum at b: from the m-th on in o -/
def rs_V (f : Int → Int) (n law b : Int) (m : Nat) (o : List (Int × Int)) : Prop := ∀ M N L0 : Int → Int, rs_N f n law M N → rq_ok M N L0 m o ∧ (rv N L0 m o).1 = [(dv_T f n law N 200).1 0 tx_g0 (fun _ => 0) b]
theorem fy_216 {Q : Int → lf_Z → Prop} {r : Int × Int} (hr : (ds_T f n law 200).1 0 tx_g0 b = r) (hn : n ≤ 300) (hB : la_B f n b s) (h13 : s.1 95 13 = o.length) (ho : ln_ou (s.1 98) (s.1 95 12 + 97) o) (hl : s.1 95 14 = law) (h0 : 0 ≤ law) (h2 : law ≤ 2)
    (kk : ∀ t : lf_Z, la_B f n r.2 t → ln_F s t → (r.1 = 0 → ∃ o' : List (Int × Int), t.1 95 13 = o'.length ∧ ln_ou (t.1 98) (s.1 95 12 + 97) o' ∧ (lx_T f n r.2 = 16 → (∃ w, o' = w ++ o) ∧ (o'.length : Int) + b ≤ o.length + r.2 ∧ rs_V f n law b o.length o')) → Q r.1 t) : fw_216 Q s := by
  have b0 := hB.2.2.2.1
  have hR := lm_topS (f := f) (law := law) hn b0
  have hr' : (ds_T f n law 200).1 0 (fun _ => -1) b = r := hr
  rw [hr'] at hR
  refine fl_216 (I := fun x => lm_R f n law (ln_pr x) r ∧ lq_R f n law ([], o, 0, false, b) x ∧ rs_w ([], o, 0, false, b) x) hB h13 ho hl h0 h2 ⟨hR, lq_Rr, ⟨[], rfl⟩, Int.le_refl _⟩ (fun x y hx hg e => ?_) (fun x V' t hx hg e tB tF tC => ?_)
  · obtain ⟨hx, hx2, hx3⟩ := hx
    refine ⟨?_, lq_Rt hx2 (lq_R1 e lq_Rr), rs_wt hx3 (rs_sp e)⟩
    have p := ln_pjsp (f := f) (n := n) (law := law) hg
    rw [e] at p
    obtain ⟨k, hk⟩ := hx
    cases k with
    | zero => cases hk
    | succ k =>
      have hk : (match lm_sp f n law (ln_pr x) with | .inl v => some v | .inr t => lm_mr f n law k t) = some r := hk
      rw [← p] at hk
      exact ⟨k, hk⟩
  · obtain ⟨hx, hx2, hx3⟩ := hx
    have p := ln_pjsp (f := f) (n := n) (law := law) hg
    rw [e] at p
    have eV : V' = r := by
      obtain ⟨k, hk⟩ := hx
      cases k with
      | zero => cases hk
      | succ k =>
        have hk : (match lm_sp f n law (ln_pr x) with | .inl v => some v | .inr t => lm_mr f n law k t) = some r := hk
        rw [← p] at hk
        exact Option.some.inj hk
    subst eV
    refine kk t tB tF (fun q => ⟨ln_so 1 x.1 x.2.1, (tC q).2.2.2.2.2.2.2.2.2.1, (tC q).2.2.2.2.2.2.2.2.2.2.1, fun T => ?_⟩)
    obtain ⟨⟨w, hw⟩, hl1⟩ := ln_soS 1 x.1 x.2.1
    obtain ⟨⟨v, hv⟩, hl2⟩ := hx3
    have atE : ∀ (P2 : ln_P) (o2 : List (Int × Int)) (c2 : Int), lq_R f n law ([], o, 0, false, b) (P2, o2, c2, true, V'.2) → lo_sp f n law (P2, o2, c2, true, V'.2) = .inl (0, V'.2) → x = (P2, o2, c2, true, V'.2) := by
      intro P2 o2 c2 g1 g2
      obtain ⟨i, hi⟩ := hx2
      obtain ⟨j, hj⟩ := g1
      exact lo_det i j _ hi e hj g2
    refine ⟨⟨w ++ v, by rw [hw, hv, List.append_assoc]⟩, ?_, fun M N L0 hN => ?_⟩
    · obtain ⟨P2, o2, c2, g1, g2, _⟩ := lq_top (M := fun _ => 0) (N := fun _ => 0) (L0 := fun _ => 0) (m := o.length) (fun _ _ => ⟨⟨by decide, by decide⟩, rfl⟩) rfl hr q T
      have ex := atE P2 o2 c2 g1 g2
      rw [ex] at hl1 hl2 ⊢
      dsimp only at hl1 hl2 ⊢
      rw [List.length_nil] at hl2
      omega
    · obtain ⟨P2, o2, c2, g1, g2, g3, g4⟩ := lq_top (L0 := L0) hN rfl hr q T
      rw [atE P2 o2 c2 g1 g2]
      exact ⟨g3, g4⟩
end RS
