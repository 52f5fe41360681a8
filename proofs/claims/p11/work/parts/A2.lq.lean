/-! what is open: brackets, if, let; one; all readings, with what they are worth -/
section LQ2
variable {f g : Int → Int} {n law b c c2 c3 k j x : Int} {P P2 P3 Q : ln_P} {o o2 o3 o5 : List (Int × Int)} {M N L0 e : Int → Int} {m : Nat} {s t u : ln_T} {R R1 R5 S1 : rq_R} {C : ln_P → List (Int × Int) → Int → Prop}
theorem rq_E2 {y : Int} (h : rq_E c R S1) : rq_E c (rq_st N (2, y) R) (rq_st N (2, y) S1) := by
  obtain ⟨h1, h2, h3⟩ := h
  refine ⟨?_, ?_, h3⟩
  · show (if rq_hd S1.2.1 ≠ 0 then S1.1.tail else rq_hd S1.1 :: S1.1.tail.tail) = (if rq_hd R.2.1 ≠ 0 then R.1.tail else rq_hd R.1 :: R.1.tail.tail)
    rw [h1, h2]
  · show S1.2.1.tail = R.2.1.tail
    rw [h2]
/-- the pile with something open on it -/
theorem lq_io {w v : Int} (h : lq_i M N L0 m Q o c e) (hw : 40 ≤ w) (h45 : w ≠ 45) {o' : List (Int × Int)} (hc : c ≤ c2) (h1 : rq_ok M N L0 m o') (h4 : ∀ i : Int, i < c → (rv N L0 m o').2.2 i = (rv N L0 m o).2.2 i) : lq_i M N L0 m ((w, v, 0) :: Q) o' c2 e :=
  lq_iw h hc h1 (rq_Pc (rq_Pw h.1 hc) (by dsimp only; omega) (fun q => absurd q h45)) (if_neg h45) h4
theorem lq_o40 {w v y : Int} (hk : 1 ≤ k) (hw : 40 ≤ w) : ln_st k ((w, v, y) :: Q) = (w, v, y) :: Q := if_neg (by show ¬ k ≤ lm_rk w; rw [lm_rk0 hw]; omega)
/-- a sum that stands open on w -/
theorem lq_os {w v y : Int} (hk : 1 ≤ k) (hw : 40 ≤ w) (hP : rq_P c ((w, v, y) :: Q)) (h : lq_C M N L0 m k ((w, v, y) :: Q) c R P2 o2 c2) : ln_st 1 P2 = (w, v, y) :: Q ∧ rq_ok M N L0 m (ln_so 1 P2 o2) ∧ rq_E c R (rv N L0 m (ln_so 1 P2 o2)) ∧ lm_op (ln_e P2) = w := by
  obtain ⟨a1, a2, a3⟩ := lq_so (k := 1) (by decide) (lq_o40 (by decide) hw) (lq_CC hk hP h)
  exact ⟨a1, a2, a3, (lm_Cop hk (lq_lm h.1)).trans (if_pos hw)⟩
/-- a sum on what stands open -/
theorem lq_S {S : ds_D} {V : dv_D} {w v y : Int} (hS : lq_M3 f n law M N L0 m S V) (hw : 40 ≤ w) (h41 : w ≠ 41) (hi : lq_i M N L0 m ((w, v, y) :: Q) o c e) : lq_L f n law (lq_C M N L0 m 5 ((w, v, y) :: Q) c (rq_n (V (lm_dp (ln_e Q) + 1) (lm_g (ln_e ((w, v, y) :: Q))) e b) (rv N L0 m o))) ((w, v, y) :: Q, o, c, false, b) (S (lm_dp (ln_e Q) + 1) (lm_g (ln_e ((w, v, y) :: Q))) b) := by
  have a := hS ((w, v, y) :: Q) o c b e hi (lq_o40 (by decide) hw) (Or.inr (by unfold lm_ah; rw [show lm_op (ln_e ((w, v, y) :: Q)) = w from if_pos hw, decide_eq_false h41]; rfl))
  rw [show lm_dp (ln_e ((w, v, y) :: Q)) = lm_dp (ln_e Q) + 1 from lm_opn (Or.inr (Or.inr hw))] at a
  exact a
/-- the next part of what is open -/
theorem lq_xn {w v y p z : Int} (hs : ln_st 1 P2 = (w, v, y) :: Q) (hbt : lm_bt (lx_T f n b) (ln_e P2) = -1) (hpt : lm_pt (lx_T f n b) (ln_e P2) = p) (hp : 0 < p) (h45 : p ≠ 45) : lo_sp f n law (P2, o2, c2, true, b) = .inr ((p, v, 0) :: Q, ln_so 1 P2 o2, c2, false, ds_ad f n b) := by
  show lo_bh f n P2 o2 c2 b = _
  unfold lo_bh
  rw [hbt, hpt, if_neg (by decide), if_pos hp, if_neg h45, hs]
  rfl
theorem lq_xl {w v y : Int} (hs : ln_st 1 P2 = (w, v, y) :: Q) (hbt : lm_bt (lx_T f n b) (ln_e P2) = -1) (hpt : lm_pt (lx_T f n b) (ln_e P2) = 45) : lo_sp f n law (P2, o2, c2, true, b) = .inr ((45, v, c2) :: Q, (30, c2) :: ln_so 1 P2 o2, c2 + 1, false, ds_ad f n b) := by
  show lo_bh f n P2 o2 c2 b = _
  unfold lo_bh
  rw [hbt, hpt, if_neg (by decide), if_pos (by decide), if_pos rfl, hs]
  rfl
theorem lq_x0 {w v y : Int} (hs : ln_st 1 P2 = (w, v, y) :: Q) (hop : lm_op (ln_e P2) = w) (hbt : lm_bt (lx_T f n b) (ln_e P2) = -1) (hpt : lm_pt (lx_T f n b) (ln_e P2) = 0) : lo_sp f n law (P2, o2, c2, true, b) = .inr (ln_st 7 Q, ln_so 7 Q (if w = 43 then (2, 0) :: ln_so 1 P2 o2 else ln_so 1 P2 o2), c2, true, ds_ad f n b) := by
  show lo_bh f n P2 o2 c2 b = _
  unfold lo_bh
  rw [hbt, hpt, if_neg (by decide), if_neg (by decide), if_pos rfl, hs, hop]
  rfl
theorem lq_bn {t : Int} (h : t ≠ 10 ∧ t ≠ 11 ∧ t ≠ 12 ∧ t ≠ 13) (h2 : lm_op (ln_e P2) ≠ 41 ∨ (lm_cp (ln_e P2) = true ∧ t ≠ 45 ∧ t ≠ 46)) : lm_bt t (ln_e P2) = -1 := by
  unfold lm_bt
  rw [if_neg h.1, if_neg h.2.1, if_neg h.2.2.1, if_neg h.2.2.2]
  by_cases q : lm_op (ln_e P2) = 41
  · rcases h2 with h2 | h2
    · exact absurd q h2
    · rw [if_neg (fun d => d q), if_neg (by rw [h2.1]; decide), if_neg h2.2.1, if_neg h2.2.2]
  · rw [if_pos q]
theorem lq_pif {S E : ds_D} {VS VE : dv_D} (hS : lq_M3 f n law M N L0 m S VS) (hE : lq_M6 f n law M N L0 m E VE) (hi : lq_i M N L0 m Q o c e) : lq_L f n law (lq_C M N L0 m 7 Q c (rq_n (dv_if f n S E VS VE (lm_dp (ln_e Q) + 1) (lm_g (ln_e Q)) e b) (rv N L0 m o))) ((41, 0, 0) :: Q, o, c, false, b) (ds_if f n S E (lm_dp (ln_e Q) + 1) (lm_g (ln_e Q)) b) := by
  unfold ds_if dv_if
  simp only [ds_bdA]
  have hi1 := lq_io (w := 41) (v := 0) hi (by decide) (by decide) (Int.le_refl c) hi.2.1 (fun _ _ => rfl)
  have a := hE ((41, 0, 0) :: Q) o c b e hi1 (lq_o40 (by decide) (by decide)) (if_pos (by decide))
  rw [show lm_dp (ln_e ((41, 0, 0) :: Q)) = lm_dp (ln_e Q) + 1 from lm_opn (by decide), show lm_g (ln_e ((41, 0, 0) :: Q)) = lm_g (ln_e Q) from if_neg (by decide)] at a
  refine lq_Lbd a (fun P2 o2 c2 hC => lq_ex (fun T1 => ?_))
  obtain ⟨s1, s2, s3, s4⟩ := lq_os (k := 1) (by decide) (by decide) hi1.1 hC.1
  generalize (E (lm_dp (ln_e Q) + 1) (lm_g (ln_e Q)) b).2 = b1 at T1 ⊢
  have pt : lm_pt (lx_T f n b1) (ln_e P2) = 42 := by
    rw [T1]
    unfold lm_pt
    rw [s4, if_neg (by decide), if_pos rfl, if_pos ⟨rfl, hC.2⟩]
  refine lq_L1 (lq_xn (z := 0) s1 (lq_bn (by omega) (Or.inr ⟨hC.2, by omega, by omega⟩)) pt (by decide) (by decide)) ?_
  have hi2 := lq_io (w := 42) (v := 0) hi (by decide) (by decide) hC.1.2.1 s2 (fun i hi => s3.2.2 i hi)
  have a2 := lq_S (b := ds_ad f n b1) hS (by decide) (by decide) hi2
  rw [show lm_g (ln_e ((42, 0, 0) :: Q)) = lm_g (ln_e Q) from if_neg (by decide)] at a2
  refine lq_Lbd a2 (fun P3 o3 c3 hC3 => lq_ex (fun T2 => ?_))
  obtain ⟨r1, r2, r3, r4⟩ := lq_os (k := 5) (by decide) (by decide) hi2.1 hC3
  generalize (S (lm_dp (ln_e Q) + 1) (lm_g (ln_e Q)) (ds_ad f n b1)).2 = b2 at T2 ⊢
  have pt2 : lm_pt (lx_T f n b2) (ln_e P3) = 43 := by
    rw [T2]
    unfold lm_pt
    rw [r4, if_neg (by decide), if_neg (by decide), if_pos rfl, if_pos rfl]
  refine lq_L1 (lq_xn (z := 0) r1 (lq_bn (by omega) (Or.inl (by rw [r4]; decide))) pt2 (by decide) (by decide)) ?_
  have hi3 := lq_io (w := 43) (v := 0) hi (by decide) (by decide) (Int.le_trans hC.1.2.1 hC3.2.1) r2 (fun i hi => (r3.2.2 i (by have := hC.1.2.1; omega)).trans (s3.2.2 i hi))
  have a3 := lq_S (b := ds_ad f n b2) hS (by decide) (by decide) hi3
  rw [show lm_g (ln_e ((43, 0, 0) :: Q)) = lm_g (ln_e Q) from if_neg (by decide)] at a3
  refine lq_Lbd a3 (fun P4 o4 c4 hC4 z => ?_)
  obtain ⟨T3, ex⟩ := ds_exZ z
  obtain ⟨q1, q2, q3, q4⟩ := lq_os (k := 5) (by decide) (by decide) hi3.1 hC4
  rw [ex]
  generalize (S (lm_dp (ln_e Q) + 1) (lm_g (ln_e Q)) (ds_ad f n b2)).2 = b3 at T3 ⊢
  have pt3 : lm_pt (lx_T f n b3) (ln_e P4) = 0 := by
    rw [T3]
    unfold lm_pt
    rw [q4, if_neg (by decide), if_neg (by decide), if_neg (by decide), if_neg (by decide), if_neg (by decide), if_pos rfl]
  have st := lq_x0 (law := law) (o2 := o4) (c2 := c4) q1 q4 (lq_bn (by omega) (Or.inl (by rw [q4]; decide))) pt3
  rw [if_pos rfl] at st
  refine ⟨_, _, c4, ?_, lq_R1 st lq_Rr⟩
  have cc : c ≤ c4 := Int.le_trans hC.1.2.1 (Int.le_trans hC3.2.1 hC4.2.1)
  have pr : rq_pr M N (2, 0) (rv N L0 m (ln_so 1 P4 o4)) := ⟨(fun w => absurd w (show (2 : Int) ≠ 0 by decide)), (fun w => absurd w (show (2 : Int) ≠ 1 by decide)), (fun w => absurd w (show ¬ ((2 : Int) < 0 ∨ (2 : Int) = 31) by decide)), (fun _ => by rw [q3.1]; exact List.cons_ne_nil _ _)⟩
  refine lq_fin (rq_Pw hi.1 cc) (rq_c q2 pr) cc ?_
  rw [rv_c q2]
  have E1 := rq_nE (v := VS (lm_dp (ln_e Q) + 1) (lm_g (ln_e Q)) e (ds_ad f n b1)) s3
  have E2 := rq_nE (v := VS (lm_dp (ln_e Q) + 1) (lm_g (ln_e Q)) e (ds_ad f n b2)) (rq_Et E1 (rq_Ew r3 hC.1.2.1))
  have E3 := rq_E2 (N := N) (y := 0) (rq_Et E2 (rq_Ew q3 (Int.le_trans hC.1.2.1 hC3.2.1)))
  refine rq_Et ?_ E3
  show rq_E c _ ((if VE (lm_dp (ln_e Q) + 1) (lm_g (ln_e Q)) e b ≠ 0 then VS (lm_dp (ln_e Q) + 1) (lm_g (ln_e Q)) e (ds_ad f n b1) :: (rv N L0 m o).1 else VS (lm_dp (ln_e Q) + 1) (lm_g (ln_e Q)) e (ds_ad f n b2) :: (rv N L0 m o).1), (rv N L0 m o).2.1, (rv N L0 m o).2.2)
  by_cases q : VE (lm_dp (ln_e Q) + 1) (lm_g (ln_e Q)) e b ≠ 0
  · rw [if_pos q, if_pos q]; exact rq_Er
  · rw [if_neg q, if_neg q]; exact rq_Er
theorem lq_plet {S : ds_D} {VS : dv_D} {b0 : Int} (hS : lq_M3 f n law M N L0 m S VS) (hi : lq_i M N L0 m Q o c e) (hs : lo_sp f n law (Q, o, c, false, b0) = lo_lt f n Q o c b) : lq_L f n law (lq_C M N L0 m 7 Q c (rq_n (dv_let f n S VS (lm_dp (ln_e Q) + 1) (lm_g (ln_e Q)) e b) (rv N L0 m o))) (Q, o, c, false, b0) (ds_let f n S (lm_dp (ln_e Q) + 1) (lm_g (ln_e Q)) b) := by
  unfold ds_let dv_let
  simp only [ds_bdA]
  unfold lo_lt at hs
  refine lq_ex (fun T0 => lq_ex (fun T1 => ?_))
  rw [if_pos T0, if_pos T1] at hs
  refine lq_L1 hs ?_
  have V3 := la_V3 T0
  generalize lx_V f n b = v at V3 ⊢
  generalize ds_ad f n (ds_ad f n b) = b1
  have hi1 := lq_io (w := 44) (v := v) hi (by decide) (by decide) (Int.le_refl c) hi.2.1 (fun _ _ => rfl)
  have a := lq_S (b := b1) hS (by decide) (by decide) hi1
  rw [show lm_g (ln_e ((44, v, 0) :: Q)) = lm_g (ln_e Q) from if_neg (show ¬ (44 : Int) = 45 by decide)] at a
  refine lq_Lbd a (fun P2 o2 c2 hC => lq_ex (fun T2 => ?_))
  obtain ⟨s1, s2, s3, s4⟩ := lq_os (k := 5) (by decide) (by decide) hi1.1 hC
  generalize hb2 : (S (lm_dp (ln_e Q) + 1) (lm_g (ln_e Q)) b1).2 = b2 at T2 ⊢
  have pt : lm_pt (lx_T f n b2) (ln_e P2) = 45 := by
    rw [T2]
    unfold lm_pt
    rw [s4, if_neg (by decide), if_neg (by decide), if_neg (by decide), if_pos rfl, if_pos rfl]
  refine lq_L1 (lq_xl s1 (lq_bn (by omega) (Or.inl (by rw [s4]; decide))) pt) ?_
  have pr : rq_pr M N (30, c2) (rv N L0 m (ln_so 1 P2 o2)) := ⟨(fun w => absurd w (show (30 : Int) ≠ 0 by decide)), (fun w => absurd w (show (30 : Int) ≠ 1 by decide)), (fun w => absurd w (show ¬ ((30 : Int) < 0 ∨ (30 : Int) = 31) by decide)), (fun w => absurd w (show (30 : Int) ≠ 2 by decide))⟩
  have ok3 := rq_c s2 pr
  have c0 : 0 ≤ c := hi.2.2.1
  have cc := hC.2.1
  have small : cm_sm (VS (lm_dp (ln_e Q) + 1) (lm_g (ln_e Q)) e b1) := by
    have := (rq_okS _ s2).1
    rw [s3.1] at this
    exact this _ List.mem_cons_self
  have R3 : rv N L0 m ((30, c2) :: ln_so 1 P2 o2) = ((rv N L0 m (ln_so 1 P2 o2)).1.tail, (rv N L0 m (ln_so 1 P2 o2)).2.1, ds_u1 (rv N L0 m (ln_so 1 P2 o2)).2.2 c2 (rq_hd (rv N L0 m (ln_so 1 P2 o2)).1)) := (rv_c s2).trans rfl
  have hd : rq_hd (rv N L0 m (ln_so 1 P2 o2)).1 = VS (lm_dp (ln_e Q) + 1) (lm_g (ln_e Q)) e b1 := by rw [s3.1]; rfl
  have tl : (rv N L0 m (ln_so 1 P2 o2)).1.tail = (rv N L0 m o).1 := by rw [s3.1]; rfl
  rw [hd, tl] at R3
  have hi2 : lq_i M N L0 m ((45, v, c2) :: Q) ((30, c2) :: ln_so 1 P2 o2) (c2 + 1) (ds_u1 e v (VS (lm_dp (ln_e Q) + 1) (lm_g (ln_e Q)) e b1)) := by
    refine ⟨rq_Pc (rq_Pw hi.1 (by omega)) (show (3 : Int) ≤ 45 ∧ (45 : Int) ≠ 30 ∧ (45 : Int) ≠ 31 by decide) (fun _ => ⟨(show 0 ≤ c2 by omega), (show c2 < c2 + 1 by omega)⟩), ok3, by omega, fun x x0 x1 hx => ?_⟩
    rw [R3]
    have G : ln_g ((45, v, c2) :: Q) = ds_u1 (ln_g Q) v c2 := if_pos rfl
    rw [G] at hx ⊢
    unfold ds_u1 at hx ⊢
    dsimp only
    by_cases q : x = v
    · rw [if_pos q, if_pos q, if_pos rfl]
      exact ⟨⟨by omega, by omega⟩, rfl, small⟩
    · rw [if_neg q] at hx ⊢
      rw [if_neg q]
      obtain ⟨y1, y2, y3⟩ := hi.2.2.2 x x0 x1 hx
      refine ⟨⟨y1.1, by omega⟩, ?_, y3⟩
      rw [if_neg (by omega)]
      exact (s3.2.2 _ y1.2).trans y2
  have a2 := lq_S (b := ds_ad f n b2) hS (by decide) (by decide) hi2
  rw [show lm_g (ln_e ((45, v, c2) :: Q)) = ds_u1 (lm_g (ln_e Q)) v (ds_sl (lm_dp (ln_e Q) + 1)) from (if_pos rfl).trans (by rw [Int.add_comm]; rfl)] at a2
  refine lq_Lbd a2 (fun P4 o4 c4 hC4 z => ?_)
  obtain ⟨T3, ex⟩ := ds_exZ z
  obtain ⟨q1, q2, q3, q4⟩ := lq_os (k := 5) (by decide) (by decide) hi2.1 hC4
  rw [ex]
  generalize hb3 : (S (lm_dp (ln_e Q) + 1) (ds_u1 (lm_g (ln_e Q)) v (ds_sl (lm_dp (ln_e Q) + 1))) (ds_ad f n b2)).2 = b3 at T3 ⊢
  have pt3 : lm_pt (lx_T f n b3) (ln_e P4) = 0 := by
    rw [T3]
    unfold lm_pt
    rw [q4, if_neg (by decide), if_neg (by decide), if_neg (by decide), if_neg (by decide), if_neg (by decide), if_pos rfl]
  have st := lq_x0 (law := law) (o2 := o4) (c2 := c4) q1 q4 (lq_bn (by omega) (Or.inl (by rw [q4]; decide))) pt3
  rw [if_neg (by decide)] at st
  refine ⟨_, _, c4, ?_, lq_R1 st lq_Rr⟩
  have c4c : c2 + 1 ≤ c4 := hC4.2.1
  refine lq_fin (rq_Pw hi.1 (by omega)) q2 (by omega) ?_
  refine rq_Et ?_ (rq_Ew q3 (by omega))
  rw [R3]
  exact ⟨rfl, s3.2.1, fun i hi => (if_neg (by omega)).trans (s3.2.2 i hi)⟩
/-- one that is written at once -/
theorem lq_on {y v : Int} (hi : lq_i M N L0 m P o c e) (hs : lo_sp f n law (P, o, c, false, b) = lo_one f n P o c b (y, x)) (pr : rq_pr M N (y, x) (rv N L0 m o)) (hv : rq_st N (y, x) (rv N L0 m o) = rq_n v (rv N L0 m o)) : lq_L f n law (lq_C M N L0 m 7 P c (rq_n v (rv N L0 m o))) (P, o, c, false, b) (0, ds_ad f n b) := fun _ => by
  refine ⟨_, _, c, ?_, lq_R1 hs lq_Rr⟩
  refine lq_fin hi.1 (rq_c hi.2.1 pr) (Int.le_refl c) ?_
  rw [rv_c hi.2.1, hv]
  exact rq_Er
theorem lq_p1 {S O I L : ds_D} {VS VO VI VL : dv_D} (hN : ∀ b : Int, (ds_name f n law b).1 = 0 → cm_sm (N (la_nm (lx_T f n b))) ∧ M (la_nm (lx_T f n b)) = N (la_nm (lx_T f n b))) (hS : lq_M3 f n law M N L0 m S VS) (hO : lq_M1 f n law M N L0 m O VO)
    (hI : ∀ (Q : ln_P) (o : List (Int × Int)) (c b : Int) (e : Int → Int), lq_i M N L0 m Q o c e → lq_L f n law (lq_C M N L0 m 7 Q c (rq_n (VI (lm_dp (ln_e Q) + 1) (lm_g (ln_e Q)) e b) (rv N L0 m o))) ((41, 0, 0) :: Q, o, c, false, b) (I (lm_dp (ln_e Q) + 1) (lm_g (ln_e Q)) b))
    (hL : ∀ (Q : ln_P) (o : List (Int × Int)) (c b b0 : Int) (e : Int → Int), lq_i M N L0 m Q o c e → lo_sp f n law (Q, o, c, false, b0) = lo_lt f n Q o c b → lq_L f n law (lq_C M N L0 m 7 Q c (rq_n (VL (lm_dp (ln_e Q) + 1) (lm_g (ln_e Q)) e b) (rv N L0 m o))) (Q, o, c, false, b0) (L (lm_dp (ln_e Q) + 1) (lm_g (ln_e Q)) b)) :
    lq_M1 f n law M N L0 m (ds_one f n law S O I L) (dv_one f n N VS VO VI VL) := by
  intro P o c b e hi hs
  have hsp : lo_sp f n law (P, o, c, false, b) = lo_be f n law P o c b := rfl
  unfold lo_be at hsp
  unfold ds_one dv_one
  by_cases c2 : lx_T f n b = 2
  · rw [if_pos c2] at hsp
    rw [if_pos c2, if_pos c2]
    by_cases q : lx_V f n b ≤ 9999
    · rw [if_pos q] at hsp ⊢
      have V2 := lx_V2 c2
      exact lq_on hi hsp ⟨(fun _ => by dsimp only; exact ⟨by omega, by omega⟩), (fun w => absurd w (show (0 : Int) ≠ 1 by decide)), (fun w => absurd w (show ¬ ((0 : Int) < 0 ∨ (0 : Int) = 31) by decide)), (fun w => absurd w (show (0 : Int) ≠ 2 by decide))⟩ rfl
    · rw [if_neg q]; exact fun z => absurd z (show (2 : Int) ≠ 0 by decide)
  rw [if_neg c2] at hsp
  rw [if_neg c2, if_neg c2]
  by_cases c3 : lx_T f n b = 3
  · rw [if_pos c3] at hsp
    rw [if_pos c3, if_pos c3]
    have hg := lq_hg (x := lx_V f n b) hi.1
    by_cases q : lm_g (ln_e P) (lx_V f n b) ≠ -1
    · rw [if_pos q]
      rw [if_pos (hg.mpr q)] at hsp
      have V3 := la_V3 c3
      obtain ⟨y1, y2, y3⟩ := hi.2.2.2 (lx_V f n b) V3.1 V3.2 (hg.mpr q)
      refine lq_on hi hsp ⟨(fun w => absurd w (show (31 : Int) ≠ 0 by decide)), (fun w => absurd w (show (31 : Int) ≠ 1 by decide)), (fun _ => by dsimp only; rw [y2]; exact y3), (fun w => absurd w (show (31 : Int) ≠ 2 by decide))⟩ ?_
      show ((rv N L0 m o).2.2 (ln_g P (lx_V f n b)) :: (rv N L0 m o).1, (rv N L0 m o).2) = _
      rw [y2]
    · rw [if_neg q]; exact fun z => absurd z (show (5 : Int) ≠ 0 by decide)
  rw [if_neg c3] at hsp
  rw [if_neg c3, if_neg c3]
  by_cases c11 : lx_T f n b = 11
  · rw [if_pos c11] at hsp
    rw [if_pos c11, if_pos c11]
    refine lq_en hsp (fun _ st => lq_L1 st ?_)
    have hi' : lq_i M N L0 m ((3, 0, 0) :: P) o c e := lq_iw hi (Int.le_refl c) hi.2.1 (rq_Pc hi.1 (by decide) (fun q => by cases q)) (if_neg (by decide)) (fun _ _ => rfl)
    have a := hO ((3, 0, 0) :: P) o c (ds_ad f n b) e hi' (Or.inr (lm_ahs (Or.inl rfl)))
    rw [show lm_dp (ln_e ((3, 0, 0) :: P)) = lm_dp (ln_e P) + 1 from lm_opn (by decide), show lm_g (ln_e ((3, 0, 0) :: P)) = lm_g (ln_e P) from if_neg (by decide)] at a
    exact lq_Lw a (fun P3 o3 c3 h3 => lq_op (F := rq_n (VO (lm_dp (ln_e P) + 1) (lm_g (ln_e P)) e (ds_ad f n b))) (R1 := rv N L0 m o) (Int.le_refl 7) (by decide) (by decide) (by decide) hi.1 (Int.le_refl c) rq_Er h3 rfl)
  rw [if_neg c11] at hsp
  rw [if_neg c11, if_neg c11]
  by_cases c14 : lx_T f n b = 14
  · rw [if_pos c14] at hsp
    rw [if_pos c14, if_pos c14]
    refine lq_en hsp (fun _ st => lq_L1 st ?_)
    have hi1 := lq_io (w := 40) (v := 0) hi (by decide) (by decide) (Int.le_refl c) hi.2.1 (fun _ _ => rfl)
    have a := lq_S (b := ds_ad f n b) hS (by decide) (by decide) hi1
    rw [show lm_g (ln_e ((40, 0, 0) :: P)) = lm_g (ln_e P) from if_neg (by decide)] at a
    refine lq_Lbd a (fun P2 o2 c2 hC z => ?_)
    obtain ⟨T3, ex⟩ := ds_exZ z
    obtain ⟨q1, q2, q3, q4⟩ := lq_os (k := 5) (by decide) (by decide) hi1.1 hC
    rw [ex]
    generalize (S (lm_dp (ln_e P) + 1) (lm_g (ln_e P)) (ds_ad f n b)).2 = b3 at T3 ⊢
    have pt3 : lm_pt (lx_T f n b3) (ln_e P2) = 0 := by
      rw [T3]
      unfold lm_pt
      rw [q4, if_pos rfl, if_pos rfl]
    have st := lq_x0 (law := law) (o2 := o2) (c2 := c2) q1 q4 (lq_bn (by omega) (Or.inl (by rw [q4]; decide))) pt3
    rw [if_neg (by decide)] at st
    exact ⟨_, _, c2, lq_fin (rq_Pw hi.1 hC.2.1) q2 hC.2.1 q3, lq_R1 st lq_Rr⟩
  rw [if_neg c14] at hsp
  rw [if_neg c14, if_neg c14]
  by_cases c37 : lx_T f n b = 37
  · rw [if_pos c37] at hsp
    rw [if_pos c37, if_pos c37]
    exact lq_en hsp (fun _ st => lq_L1 st (hI P o c _ e hi))
  rw [if_neg c37] at hsp
  rw [if_neg c37, if_neg c37]
  by_cases c41 : lx_T f n b = 41
  · rw [if_pos c41] at hsp
    rw [if_pos c41, if_pos c41]
    exact lq_en hsp (fun _ st => hL P o c _ b e hi st)
  rw [if_neg c41] at hsp
  rw [if_neg c41, if_neg c41]
  rw [if_neg (show ¬ (lx_T f n b = 44 ∧ lm_ah (ln_e P) = true) from fun q => hs.elim (fun h => h q.1) (fun h => by rw [h] at q; exact absurd q.2 (by decide)))] at hsp
  rw [lm_name]
  by_cases q : (ds_name f n law b).1 = 0
  · rw [if_pos q] at hsp
    rw [if_pos q, if_pos q]
    exact lq_on hi hsp ⟨(fun w => absurd w (show (1 : Int) ≠ 0 by decide)), (fun _ => hN b q), (fun w => absurd w (show ¬ ((1 : Int) < 0 ∨ (1 : Int) = 31) by decide)), (fun w => absurd w (show (1 : Int) ≠ 2 by decide))⟩ rfl
  · rw [if_neg q, if_neg q]; exact fun z => absurd z q
/-- all readings -/
theorem lq_all (hN : ∀ b : Int, (ds_name f n law b).1 = 0 → cm_sm (N (la_nm (lx_T f n b))) ∧ M (la_nm (lx_T f n b)) = N (la_nm (lx_T f n b))) : ∀ k : Nat, lq_M3 f n law M N L0 m (ds_T f n law k).1 (dv_T f n law N k).1 ∧ lq_M2 f n law M N L0 m (ds_T f n law k).2.1 (dv_T f n law N k).2.1 ∧ lq_M1 f n law M N L0 m (ds_T f n law k).2.2.1 (dv_T f n law N k).2.2.1
    ∧ (∀ (Q : ln_P) (o : List (Int × Int)) (c b : Int) (e : Int → Int), lq_i M N L0 m Q o c e → lq_L f n law (lq_C M N L0 m 7 Q c (rq_n ((dv_T f n law N k).2.2.2.1 (lm_dp (ln_e Q) + 1) (lm_g (ln_e Q)) e b) (rv N L0 m o))) ((41, 0, 0) :: Q, o, c, false, b) ((ds_T f n law k).2.2.2.1 (lm_dp (ln_e Q) + 1) (lm_g (ln_e Q)) b))
    ∧ (∀ (Q : ln_P) (o : List (Int × Int)) (c b b0 : Int) (e : Int → Int), lq_i M N L0 m Q o c e → lo_sp f n law (Q, o, c, false, b0) = lo_lt f n Q o c b → lq_L f n law (lq_C M N L0 m 7 Q c (rq_n ((dv_T f n law N k).2.2.2.2.1 (lm_dp (ln_e Q) + 1) (lm_g (ln_e Q)) e b) (rv N L0 m o))) (Q, o, c, false, b0) ((ds_T f n law k).2.2.2.2.1 (lm_dp (ln_e Q) + 1) (lm_g (ln_e Q)) b))
    ∧ lq_M6 f n law M N L0 m (ds_T f n law k).2.2.2.2.2.1 (dv_T f n law N k).2.2.2.2.2.1 ∧ lq_M5 f n law M N L0 m (ds_T f n law k).2.2.2.2.2.2.1 (dv_T f n law N k).2.2.2.2.2.2.1 ∧ lq_M4 f n law M N L0 m (ds_T f n law k).2.2.2.2.2.2.2 (dv_T f n law N k).2.2.2.2.2.2.2 := by
  intro k
  have n9 : (9 : Int) ≠ 0 := by decide
  induction k with
  | zero => exact ⟨fun _ _ _ _ _ _ _ _ z => absurd z n9, fun _ _ _ _ _ _ _ _ z => absurd z n9, fun _ _ _ _ _ _ _ z => absurd z n9, fun _ _ _ _ _ _ z => absurd z n9, fun _ _ _ _ _ _ _ _ z => absurd z n9, fun _ _ _ _ _ _ _ _ z => absurd z n9, fun _ _ _ _ _ _ _ _ z => absurd z n9, fun _ _ _ _ _ _ _ z => absurd z n9⟩
  | succ k ih =>
    obtain ⟨i3, i2, i1, iI, iL, i6, i5, i4⟩ := ih
    exact ⟨lq_p3 i2, lq_p2 i1, lq_p1 hN i3 i1 iI iL, fun Q o c b e hi => lq_pif i3 i6 hi, fun Q o c b b0 e hi hs => lq_plet i3 hi hs, lq_p6 i5, lq_p5 i4, lq_p4 i3 i4⟩
/-- a sum of a clause, alone: where the machine ends, and what its orders are worth -/
theorem lq_top {r : Int × Int} (hN : ∀ b : Int, (ds_name f n law b).1 = 0 → cm_sm (N (la_nm (lx_T f n b))) ∧ M (la_nm (lx_T f n b)) = N (la_nm (lx_T f n b))) (hm : o.length = m) (hr : (ds_T f n law 200).1 0 tx_g0 b = r) (z : r.1 = 0) (T : lx_T f n r.2 = 16) : ∃ (P2 : ln_P) (o2 : List (Int × Int)) (c2 : Int), lq_R f n law ([], o, 0, false, b) (P2, o2, c2, true, r.2) ∧ lo_sp f n law (P2, o2, c2, true, r.2) = .inl (0, r.2) ∧ rq_ok M N L0 m (ln_so 1 P2 o2) ∧ (rv N L0 m (ln_so 1 P2 o2)).1 = [(dv_T f n law N 200).1 0 tx_g0 (fun _ => 0) b] := by
  obtain ⟨r0, ok0⟩ := rv_0 (N := N) (L0 := L0) M hm
  have hi : lq_i M N L0 m [] o 0 (fun _ => 0) := ⟨fun x hx => (by cases hx), ok0, Int.le_refl 0, fun x _ _ hx => absurd rfl hx⟩
  have a := (lq_all (f := f) (n := n) (law := law) (M := M) (N := N) (L0 := L0) (m := m) hN 200).1 [] o 0 b (fun _ => 0) hi rfl (Or.inr rfl)
  have a : lq_L f n law (lq_C M N L0 m 5 [] 0 (rq_n ((dv_T f n law N 200).1 0 tx_g0 (fun _ => 0) b) (rv N L0 m o))) ([], o, 0, false, b) ((ds_T f n law 200).1 0 tx_g0 b) := a
  rw [hr] at a
  obtain ⟨P2, o2, c2, hC, hR⟩ := a z
  obtain ⟨s1, s2, s3⟩ := lq_so (k := 1) (by decide) rfl (lq_CC (j := 1) (by decide) hi.1 hC)
  refine ⟨P2, o2, c2, hR, ?_, s2, ?_⟩
  · have op : lm_op (ln_e P2) = -1 := lm_Cop (P := ln_e []) (k := 5) (by decide) (lq_lm hC.1)
    have hbt : lm_bt (lx_T f n r.2) (ln_e P2) = -1 := lq_bn (by omega) (Or.inl (by rw [op]; decide))
    have hpt : lm_pt (lx_T f n r.2) (ln_e P2) = -1 := by
      unfold lm_pt
      rw [op, if_neg (by decide), if_neg (by decide), if_neg (by decide), if_neg (by decide), if_pos (by decide)]
    show lo_bh f n P2 o2 c2 r.2 = _
    unfold lo_bh
    rw [hbt, hpt, op, if_neg (by decide), if_neg (by decide), if_neg (by decide), if_neg (by decide)]
  · rw [s3.1, r0]
end LQ2
