/-! what is open: brackets, if, let; one; all readings, with what they are worth -/
section LQ2
variable {f g : Int → Int} {n law b c c2 c3 k j x : Int} {P P2 P3 Q : ln_P} {o o2 o3 o5 : List (Int × Int)} {M N L0 e : Int → Int} {m : Nat} {s t u : ln_T} {R R1 R5 S1 : rq_R} {C : ln_P → List (Int × Int) → Int → Prop}
theorem rq_E2 {y : Int} (h : rq_E c R S1) : rq_E c (rq_st N (2, y) R) (rq_st N (2, y) S1) := by
  obtain ⟨h1, h2, h3⟩ := h
  refine ⟨?_, ?_, h3⟩
  · show (if rq_hd S1.2.1 ≠ 0 then S1.1.tail else rq_hd S1.1 :: S1.1.tail.tail) = (if rq_hd R.2.1 ≠ 0 then R.1.tail else rq_hd R.1 :: R.1.tail.tail)
    rw [h1, h2]
  · show S1.2.1.tail = R.2.1.tail
    rw [h2]
/-- the pile with something open on it -/
theorem lq_io {w v : Int} (h : lq_i M N L0 m Q o c e) (hw : 40 ≤ w) (h45 : w ≠ 45) {o' : List (Int × Int)} (hc : c ≤ c2) (h1 : rq_ok M N L0 m o') (h4 : ∀ i : Int, i < c → (rv N L0 m o').2.2 i = (rv N L0 m o).2.2 i) : lq_i M N L0 m ((w, v, 0) :: Q) o' c2 e :=
  lq_iw h hc h1 (rq_Pc (rq_Pw h.1 hc) (by dsimp only; omega) (fun q => absurd q h45)) (if_neg h45) h4
theorem lq_o40 {w v y : Int} (hk : 1 ≤ k) (hw : 40 ≤ w) : ln_st k ((w, v, y) :: Q) = (w, v, y) :: Q := if_neg (by show ¬ k ≤ lm_rk w; rw [lm_rk0 hw]; omega)
/-- a sum that stands open on w -/
theorem lq_os {w v y : Int} (hk : 1 ≤ k) (hw : 40 ≤ w) (hP : rq_P c ((w, v, y) :: Q)) (h : lq_C M N L0 m k ((w, v, y) :: Q) c R P2 o2 c2) : ln_st 1 P2 = (w, v, y) :: Q ∧ rq_ok M N L0 m (ln_so 1 P2 o2) ∧ rq_E c R (rv N L0 m (ln_so 1 P2 o2)) ∧ lm_op (ln_e P2) = w := by
  obtain ⟨a1, a2, a3⟩ := lq_so (k := 1) (by decide) (lq_o40 (by decide) hw) (lq_CC hk hP h)
  exact ⟨a1, a2, a3, (lm_Cop hk (lq_lm h.1)).trans (if_pos hw)⟩
/-- a sum on what stands open -/
theorem lq_S {S : ds_D} {V : dv_D} {w v y : Int} (hS : lq_M3 f n law M N L0 m S V) (hw : 40 ≤ w) (h41 : w ≠ 41) (hi : lq_i M N L0 m ((w, v, y) :: Q) o c e) : lq_L f n law (lq_C M N L0 m 5 ((w, v, y) :: Q) c (rq_n (V (lm_dp (ln_e Q) + 1) (lm_g (ln_e ((w, v, y) :: Q))) e b) (rv N L0 m o))) ((w, v, y) :: Q, o, c, false, b) (S (lm_dp (ln_e Q) + 1) (lm_g (ln_e ((w, v, y) :: Q))) b) := by
  have a := hS ((w, v, y) :: Q) o c b e hi (lq_o40 (by decide) hw) (Or.inr (by unfold lm_ah; rw [show lm_op (ln_e ((w, v, y) :: Q)) = w from if_pos hw, decide_eq_false h41]; rfl))
  rw [show lm_dp (ln_e ((w, v, y) :: Q)) = lm_dp (ln_e Q) + 1 from lm_opn (Or.inr (Or.inr hw))] at a
  exact a
/-- the next part of what is open -/
theorem lq_xn {w v y p z : Int} (hs : ln_st 1 P2 = (w, v, y) :: Q) (hbt : lm_bt (lx_T f n b) (ln_e P2) = -1) (hpt : lm_pt (lx_T f n b) (ln_e P2) = p) (hp : 0 < p) (h45 : p ≠ 45) : lo_sp f n law (P2, o2, c2, true, b) = .inr ((p, v, 0) :: Q, ln_so 1 P2 o2, c2, false, ds_ad f n b) := by
  show lo_bh f n P2 o2 c2 b = _
  unfold lo_bh
  rw [hbt, hpt, if_neg (by decide), if_pos hp, if_neg h45, hs]
  rfl
theorem lq_xl {w v y : Int} (hs : ln_st 1 P2 = (w, v, y) :: Q) (hbt : lm_bt (lx_T f n b) (ln_e P2) = -1) (hpt : lm_pt (lx_T f n b) (ln_e P2) = 45) : lo_sp f n law (P2, o2, c2, true, b) = .inr ((45, v, c2) :: Q, (30, c2) :: ln_so 1 P2 o2, c2 + 1, false, ds_ad f n b) := by
  show lo_bh f n P2 o2 c2 b = _
  unfold lo_bh
  rw [hbt, hpt, if_neg (by decide), if_pos (by decide), if_pos rfl, hs]
  rfl
theorem lq_x0 {w v y : Int} (hs : ln_st 1 P2 = (w, v, y) :: Q) (hop : lm_op (ln_e P2) = w) (hbt : lm_bt (lx_T f n b) (ln_e P2) = -1) (hpt : lm_pt (lx_T f n b) (ln_e P2) = 0) : lo_sp f n law (P2, o2, c2, true, b) = .inr (ln_st 7 Q, ln_so 7 Q (if w = 43 then (2, 0) :: ln_so 1 P2 o2 else ln_so 1 P2 o2), c2, true, ds_ad f n b) := by
  show lo_bh f n P2 o2 c2 b = _
  unfold lo_bh
  rw [hbt, hpt, if_neg (by decide), if_neg (by decide), if_pos rfl, hs, hop]
  rfl
theorem lq_bn {t : Int} (h : t ≠ 10 ∧ t ≠ 11 ∧ t ≠ 12 ∧ t ≠ 13) (h2 : lm_op (ln_e P2) ≠ 41 ∨ (lm_cp (ln_e P2) = true ∧ t ≠ 45 ∧ t ≠ 46)) : lm_bt t (ln_e P2) = -1 := by
  unfold lm_bt
  rw [if_neg h.1, if_neg h.2.1, if_neg h.2.2.1, if_neg h.2.2.2]
  by_cases q : lm_op (ln_e P2) = 41
  · rcases h2 with h2 | h2
    · exact absurd q h2
    · rw [if_neg (fun d => d q), if_neg (by rw [h2.1]; decide), if_neg h2.2.1, if_neg h2.2.2]
  · rw [if_pos q]
theorem lq_pif {S E : ds_D} {VS VE : dv_D} (hS : lq_M3 f n law M N L0 m S VS) (hE : lq_M6 f n law M N L0 m E VE) (hi : lq_i M N L0 m Q o c e) : lq_L f n law (lq_C M N L0 m 7 Q c (rq_n (dv_if f n S E VS VE (lm_dp (ln_e Q) + 1) (lm_g (ln_e Q)) e b) (rv N L0 m o))) ((41, 0, 0) :: Q, o, c, false, b) (ds_if f n S E (lm_dp (ln_e Q) + 1) (lm_g (ln_e Q)) b) := by
  unfold ds_if dv_if
  simp only [ds_bdA]
  have hi1 := lq_io (w := 41) (v := 0) hi (by decide) (by decide) (Int.le_refl c) hi.2.1 (fun _ _ => rfl)
  have a := hE ((41, 0, 0) :: Q) o c b e hi1 (lq_o40 (by decide) (by decide)) (if_pos (by decide))
  rw [show lm_dp (ln_e ((41, 0, 0) :: Q)) = lm_dp (ln_e Q) + 1 from lm_opn (by decide), show lm_g (ln_e ((41, 0, 0) :: Q)) = lm_g (ln_e Q) from if_neg (by decide)] at a
  refine lq_Lbd a (fun P2 o2 c2 hC => lq_ex (fun T1 => ?_))
  obtain ⟨s1, s2, s3, s4⟩ := lq_os (k := 1) (by decide) (by decide) hi1.1 hC.1
  generalize (E (lm_dp (ln_e Q) + 1) (lm_g (ln_e Q)) b).2 = b1 at T1 ⊢
  have pt : lm_pt (lx_T f n b1) (ln_e P2) = 42 := by
    rw [T1]
    unfold lm_pt
    rw [s4, if_neg (by decide), if_pos rfl, if_pos ⟨rfl, hC.2⟩]
  refine lq_L1 (lq_xn (z := 0) s1 (lq_bn (by omega) (Or.inr ⟨hC.2, by omega, by omega⟩)) pt (by decide) (by decide)) ?_
  have hi2 := lq_io (w := 42) (v := 0) hi (by decide) (by decide) hC.1.2.1 s2 (fun i hi => s3.2.2 i hi)
  have a2 := lq_S (b := ds_ad f n b1) hS (by decide) (by decide) hi2
  rw [show lm_g (ln_e ((42, 0, 0) :: Q)) = lm_g (ln_e Q) from if_neg (by decide)] at a2
  refine lq_Lbd a2 (fun P3 o3 c3 hC3 => lq_ex (fun T2 => ?_))
  obtain ⟨r1, r2, r3, r4⟩ := lq_os (k := 5) (by decide) (by decide) hi2.1 hC3
  generalize (S (lm_dp (ln_e Q) + 1) (lm_g (ln_e Q)) (ds_ad f n b1)).2 = b2 at T2 ⊢
  have pt2 : lm_pt (lx_T f n b2) (ln_e P3) = 43 := by
    rw [T2]
    unfold lm_pt
    rw [r4, if_neg (by decide), if_neg (by decide), if_pos rfl, if_pos rfl]
  refine lq_L1 (lq_xn (z := 0) r1 (lq_bn (by omega) (Or.inl (by rw [r4]; decide))) pt2 (by decide) (by decide)) ?_
  have hi3 := lq_io (w := 43) (v := 0) hi (by decide) (by decide) (Int.le_trans hC.1.2.1 hC3.2.1) r2 (fun i hi => (r3.2.2 i (by have := hC.1.2.1; omega)).trans (s3.2.2 i hi))
  have a3 := lq_S (b := ds_ad f n b2) hS (by decide) (by decide) hi3
  rw [show lm_g (ln_e ((43, 0, 0) :: Q)) = lm_g (ln_e Q) from if_neg (by decide)] at a3
  refine lq_Lbd a3 (fun P4 o4 c4 hC4 z => ?_)
  obtain ⟨T3, ex⟩ := ds_exZ z
  obtain ⟨q1, q2, q3, q4⟩ := lq_os (k := 5) (by decide) (by decide) hi3.1 hC4
  rw [ex]
  generalize (S (lm_dp (ln_e Q) + 1) (lm_g (ln_e Q)) (ds_ad f n b2)).2 = b3 at T3 ⊢
  have pt3 : lm_pt (lx_T f n b3) (ln_e P4) = 0 := by
    rw [T3]
    unfold lm_pt
    rw [q4, if_neg (by decide), if_neg (by decide), if_neg (by decide), if_neg (by decide), if_neg (by decide), if_pos rfl]
  have st := lq_x0 (law := law) (o2 := o4) (c2 := c4) q1 q4 (lq_bn (by omega) (Or.inl (by rw [q4]; decide))) pt3
  rw [if_pos rfl] at st
  refine ⟨_, _, c4, ?_, lq_R1 st lq_Rr⟩
  have cc : c ≤ c4 := Int.le_trans hC.1.2.1 (Int.le_trans hC3.2.1 hC4.2.1)
  have pr : rq_pr M N (2, 0) (rv N L0 m (ln_so 1 P4 o4)) := ⟨(fun w => absurd w (show (2 : Int) ≠ 0 by decide)), (fun w => absurd w (show (2 : Int) ≠ 1 by decide)), (fun w => absurd w (show ¬ ((2 : Int) < 0 ∨ (2 : Int) = 31) by decide)), (fun _ => by rw [q3.1]; exact List.cons_ne_nil _ _)⟩
  refine lq_fin (rq_Pw hi.1 cc) (rq_c q2 pr) cc ?_
  rw [rv_c q2]
  have E1 := rq_nE (v := VS (lm_dp (ln_e Q) + 1) (lm_g (ln_e Q)) e (ds_ad f n b1)) s3
  have E2 := rq_nE (v := VS (lm_dp (ln_e Q) + 1) (lm_g (ln_e Q)) e (ds_ad f n b2)) (rq_Et E1 (rq_Ew r3 hC.1.2.1))
  have E3 := rq_E2 (N := N) (y := 0) (rq_Et E2 (rq_Ew q3 (Int.le_trans hC.1.2.1 hC3.2.1)))
  refine rq_Et ?_ E3
  show rq_E c _ ((if VE (lm_dp (ln_e Q) + 1) (lm_g (ln_e Q)) e b ≠ 0 then VS (lm_dp (ln_e Q) + 1) (lm_g (ln_e Q)) e (ds_ad f n b1) :: (rv N L0 m o).1 else VS (lm_dp (ln_e Q) + 1) (lm_g (ln_e Q)) e (ds_ad f n b2) :: (rv N L0 m o).1), (rv N L0 m o).2.1, (rv N L0 m o).2.2)
  by_cases q : VE (lm_dp (ln_e Q) + 1) (lm_g (ln_e Q)) e b ≠ 0
  · rw [if_pos q, if_pos q]; exact rq_Er
  · rw [if_neg q, if_neg q]; exact rq_Er
theorem lq_plet {S : ds_D} {VS : dv_D} {b0 : Int} (hS : lq_M3 f n law M N L0 m S VS) (hi : lq_i M N L0 m Q o c e) (hs : lo_sp f n law (Q, o, c, false, b0) = lo_lt f n Q o c b) : lq_L f n law (lq_C M N L0 m 7 Q c (rq_n (dv_let f n S VS (lm_dp (ln_e Q) + 1) (lm_g (ln_e Q)) e b) (rv N L0 m o))) (Q, o, c, false, b0) (ds_let f n S (lm_dp (ln_e Q) + 1) (lm_g (ln_e Q)) b) := by
  unfold ds_let dv_let
  simp only [ds_bdA]
  unfold lo_lt at hs
  refine lq_ex (fun T0 => lq_ex (fun T1 => ?_))
  rw [if_pos T0, if_pos T1] at hs
  refine lq_L1 hs ?_
  have V3 := la_V3 T0
  generalize lx_V f n b = v at V3 ⊢
  generalize ds_ad f n (ds_ad f n b) = b1
  have hi1 := lq_io (w := 44) (v := v) hi (by decide) (by decide) (Int.le_refl c) hi.2.1 (fun _ _ => rfl)
  have a := lq_S (b := b1) hS (by decide) (by decide) hi1
  rw [show lm_g (ln_e ((44, v, 0) :: Q)) = lm_g (ln_e Q) from if_neg (show ¬ (44 : Int) = 45 by decide)] at a
  refine lq_Lbd a (fun P2 o2 c2 hC => lq_ex (fun T2 => ?_))
  obtain ⟨s1, s2, s3, s4⟩ := lq_os (k := 5) (by decide) (by decide) hi1.1 hC
  generalize hb2 : (S (lm_dp (ln_e Q) + 1) (lm_g (ln_e Q)) b1).2 = b2 at T2 ⊢
  have pt : lm_pt (lx_T f n b2) (ln_e P2) = 45 := by
    rw [T2]
    unfold lm_pt
    rw [s4, if_neg (by decide), if_neg (by decide), if_neg (by decide), if_pos rfl, if_pos rfl]
  refine lq_L1 (lq_xl s1 (lq_bn (by omega) (Or.inl (by rw [s4]; decide))) pt) ?_
  have pr : rq_pr M N (30, c2) (rv N L0 m (ln_so 1 P2 o2)) := ⟨(fun w => absurd w (show (30 : Int) ≠ 0 by decide)), (fun w => absurd w (show (30 : Int) ≠ 1 by decide)), (fun w => absurd w (show ¬ ((30 : Int) < 0 ∨ (30 : Int) = 31) by decide)), (fun w => absurd w (show (30 : Int) ≠ 2 by decide))⟩
  have ok3 := rq_c s2 pr
  have c0 : 0 ≤ c := hi.2.2.1
  have cc := hC.2.1
  have small : cm_sm (VS (lm_dp (ln_e Q) + 1) (lm_g (ln_e Q)) e b1) := by
    have := (rq_okS _ s2).1
    rw [s3.1] at this
    exact this _ List.mem_cons_self
  have R3 : rv N L0 m ((30, c2) :: ln_so 1 P2 o2) = ((rv N L0 m (ln_so 1 P2 o2)).1.tail, (rv N L0 m (ln_so 1 P2 o2)).2.1, ds_u1 (rv N L0 m (ln_so 1 P2 o2)).2.2 c2 (rq_hd (rv N L0 m (ln_so 1 P2 o2)).1)) := (rv_c s2).trans rfl
  have hd : rq_hd (rv N L0 m (ln_so 1 P2 o2)).1 = VS (lm_dp (ln_e Q) + 1) (lm_g (ln_e Q)) e b1 := by rw [s3.1]; rfl
  have tl : (rv N L0 m (ln_so 1 P2 o2)).1.tail = (rv N L0 m o).1 := by rw [s3.1]; rfl
  rw [hd, tl] at R3
  have hi2 : lq_i M N L0 m ((45, v, c2) :: Q) ((30, c2) :: ln_so 1 P2 o2) (c2 + 1) (ds_u1 e v (VS (lm_dp (ln_e Q) + 1) (lm_g (ln_e Q)) e b1)) := by
    refine ⟨rq_Pc (rq_Pw hi.1 (by omega)) (show (3 : Int) ≤ 45 ∧ (45 : Int) ≠ 30 ∧ (45 : Int) ≠ 31 by decide) (fun _ => ⟨(show 0 ≤ c2 by omega), (show c2 < c2 + 1 by omega)⟩), ok3, by omega, fun x x0 x1 hx => ?_⟩
    rw [R3]
    have G : ln_g ((45, v, c2) :: Q) = ds_u1 (ln_g Q) v c2 := if_pos rfl
    rw [G] at hx ⊢
    unfold ds_u1 at hx ⊢
    dsimp only
    by_cases q : x = v
    · rw [if_pos q, if_pos q, if_pos rfl]
      exact ⟨⟨by omega, by omega⟩, rfl, small⟩
    · rw [if_neg q] at hx ⊢
      rw [if_neg q]
      obtain ⟨y1, y2, y3⟩ := hi.2.2.2 x x0 x1 hx
      refine ⟨⟨y1.1, by omega⟩, ?_, y3⟩
      rw [if_neg (by omega)]
      exact (s3.2.2 _ y1.2).trans y2
  have a2 := lq_S (b := ds_ad f n b2) hS (by decide) (by decide) hi2
  rw [show lm_g (ln_e ((45, v, c2) :: Q)) = ds_u1 (lm_g (ln_e Q)) v (ds_sl (lm_dp (ln_e Q) + 1)) from (if_pos rfl).trans (by rw [Int.add_comm]; rfl)] at a2
  refine lq_Lbd a2 (fun P4 o4 c4 hC4 z => ?_)
  obtain ⟨T3, ex⟩ := ds_exZ z
  obtain ⟨q1, q2, q3, q4⟩ := lq_os (k := 5) (by decide) (by decide) hi2.1 hC4
  rw [ex]
  generalize hb3 : (S (lm_dp (ln_e Q) + 1) (ds_u1 (lm_g (ln_e Q)) v (ds_sl (lm_dp (ln_e Q) + 1))) (ds_ad f n b2)).2 = b3 at T3 ⊢
  have pt3 : lm_pt (lx_T f n b3) (ln_e P4) = 0 := by
    rw [T3]
    unfold lm_pt
    rw [q4, if_neg (by decide), if_neg (by decide), if_neg (by decide), if_neg (by decide), if_neg (by decide), if_pos rfl]
  have st := lq_x0 (law := law) (o2 := o4) (c2 := c4) q1 q4 (lq_bn (by omega) (Or.inl (by rw [q4]; decide))) pt3
  rw [if_neg (by decide)] at st
  refine ⟨_, _, c4, ?_, lq_R1 st lq_Rr⟩
  have c4c : c2 + 1 ≤ c4 := hC4.2.1
  refine lq_fin (rq_Pw hi.1 (by omega)) q2 (by omega) ?_
  refine rq_Et ?_ (rq_Ew q3 (by omega))
  rw [R3]
  exact ⟨rfl, s3.2.1, fun i hi => (if_neg (by omega)).trans (s3.2.2 i hi)⟩
/-- one that is written at once -/
theorem lq_on {y v : Int} (hi : lq_i M N L0 m P o c e) (hs : lo_sp f n law (P, o, c, false, b) = lo_one f n P o c b (y, x)) (pr : rq_pr M N (y, x) (rv N L0 m o)) (hv : rq_st N (y, x) (rv N L0 m o) = rq_n v (rv N L0 m o)) : lq_L f n law (lq_C M N L0 m 7 P c (rq_n v (rv N L0 m o))) (P, o, c, false, b) (0, ds_ad f n b) := fun _ => by
  refine ⟨_, _, c, ?_, lq_R1 hs lq_Rr⟩
  refine lq_fin hi.1 (rq_c hi.2.1 pr) (Int.le_refl c) ?_
  rw [rv_c hi.2.1, hv]
  exact rq_Er
theorem lq_p1 {S O I L : ds_D} {VS VO VI VL : dv_D} (hN : ∀ b : Int, (ds_name f n law b).1 = 0 → cm_sm (N (la_nm (lx_T f n b))) ∧ M (la_nm (lx_T f n b)) = N (la_nm (lx_T f n b))) (hS : lq_M3 f n law M N L0 m S VS) (hO : lq_M1 f n law M N L0 m O VO)
    (hI : ∀ (Q : ln_P) (o : List (Int × Int)) (c b : Int) (e : Int → Int), lq_i M N L0 m Q o c e → lq_L f n law (lq_C M N L0 m 7 Q c (rq_n (VI (lm_dp (ln_e Q) + 1) (lm_g (ln_e Q)) e b) (rv N L0 m o))) ((41, 0, 0) :: Q, o, c, false, b) (I (lm_dp (ln_e Q) + 1) (lm_g (ln_e Q)) b))
    (hL : ∀ (Q : ln_P) (o : List (Int × Int)) (c b b0 : Int) (e : Int → Int), lq_i M N L0 m Q o c e → lo_sp f n law (Q, o, c, false, b0) = lo_lt f n Q o c b → lq_L f n law (lq_C M N L0 m 7 Q c (rq_n (VL (lm_dp (ln_e Q) + 1) (lm_g (ln_e Q)) e b) (rv N L0 m o))) (Q, o, c, false, b0) (L (lm_dp (ln_e Q) + 1) (lm_g (ln_e Q)) b)) :
    lq_M1 f n law M N L0 m (ds_one f n law S O I L) (dv_one f n N VS VO VI VL) := by
  intro P o c b e hi hs
  have hsp : lo_sp f n law (P, o, c, false, b) = lo_be f n law P o c b := rfl
  unfold lo_be at hsp
  unfold ds_one dv_one
  by_cases c2 : lx_T f n b = 2
  · rw [if_pos c2] at hsp
    rw [if_pos c2, if_pos c2]
    by_cases q : lx_V f n b ≤ 9999
    · rw [if_pos q] at hsp ⊢
      have V2 := lx_V2 c2
      exact lq_on hi hsp ⟨(fun _ => by dsimp only; exact ⟨by omega, by omega⟩), (fun w => absurd w (show (0 : Int) ≠ 1 by decide)), (fun w => absurd w (show ¬ ((0 : Int) < 0 ∨ (0 : Int) = 31) by decide)), (fun w => absurd w (show (0 : Int) ≠ 2 by decide))⟩ rfl
    · rw [if_neg q]; exact fun z => absurd z (show (2 : Int) ≠ 0 by decide)
  rw [if_neg c2] at hsp
  rw [if_neg c2, if_neg c2]
  by_cases c3 : lx_T f n b = 3
  · rw [if_pos c3] at hsp
    rw [if_pos c3, if_pos c3]
    have hg := lq_hg (x := lx_V f n b) hi.1
    by_cases q : lm_g (ln_e P) (lx_V f n b) ≠ -1
    · rw [if_pos q]
      rw [if_pos (hg.mpr q)] at hsp
      have V3 := la_V3 c3
      obtain ⟨y1, y2, y3⟩ := hi.2.2.2 (lx_V f n b) V3.1 V3.2 (hg.mpr q)
      refine lq_on hi hsp ⟨(fun w => absurd w (show (31 : Int) ≠ 0 by decide)), (fun w => absurd w (show (31 : Int) ≠ 1 by decide)), (fun _ => by dsimp only; rw [y2]; exact y3), (fun w => absurd w (show (31 : Int) ≠ 2 by decide))⟩ ?_
      show ((rv N L0 m o).2.2 (ln_g P (lx_V f n b)) :: (rv N L0 m o).1, (rv N L0 m o).2) = _
      rw [y2]
    · rw [if_neg q]; exact fun z => absurd z (show (5 : Int) ≠ 0 by decide)
  rw [if_neg c3] at hsp
  rw [if_neg c3, if_neg c3]
  by_cases c11 : lx_T f n b = 11
  · rw [if_pos c11] at hsp
    rw [if_pos c11, if_pos c11]
    refine lq_en hsp (fun _ st => lq_L1 st ?_)
    have hi' : lq_i M N L0 m ((3, 0, 0) :: P) o c e := lq_iw hi (Int.le_refl c) hi.2.1 (rq_Pc hi.1 (by decide) (fun q => by cases q)) (if_neg (by decide)) (fun _ _ => rfl)
    have a := hO ((3, 0, 0) :: P) o c (ds_ad f n b) e hi' (Or.inr (lm_ahs (Or.inl rfl)))
    rw [show lm_dp (ln_e ((3, 0, 0) :: P)) = lm_dp (ln_e P) + 1 from lm_opn (by decide), show lm_g (ln_e ((3, 0, 0) :: P)) = lm_g (ln_e P) from if_neg (by decide)] at a
    exact lq_Lw a (fun P3 o3 c3 h3 => lq_op (F := rq_n (VO (lm_dp (ln_e P) + 1) (lm_g (ln_e P)) e (ds_ad f n b))) (R1 := rv N L0 m o) (Int.le_refl 7) (by decide) (by decide) (by decide) hi.1 (Int.le_refl c) rq_Er h3 rfl)
  rw [if_neg c11] at hsp
  rw [if_neg c11, if_neg c11]
  by_cases c14 : lx_T f n b = 14
  · rw [if_pos c14] at hsp
    rw [if_pos c14, if_pos c14]
    refine lq_en hsp (fun _ st => lq_L1 st ?_)
    have hi1 := lq_io (w := 40) (v := 0) hi (by decide) (by decide) (Int.le_refl c) hi.2.1 (fun _ _ => rfl)
    have a := lq_S (b := ds_ad f n b) hS (by decide) (by decide) hi1
    rw [show lm_g (ln_e ((40, 0, 0) :: P)) = lm_g (ln_e P) from if_neg (by decide)] at a
    refine lq_Lbd a (fun P2 o2 c2 hC z => ?_)
    obtain ⟨T3, ex⟩ := ds_exZ z
    obtain ⟨q1, q2, q3, q4⟩ := lq_os (k := 5) (by decide) (by decide) hi1.1 hC
    rw [ex]
    generalize (S (lm_dp (ln_e P) + 1) (lm_g (ln_e P)) (ds_ad f n b)).2 = b3 at T3 ⊢
    have pt3 : lm_pt (lx_T f n b3) (ln_e P2) = 0 := by
      rw [T3]
      unfold lm_pt
      rw [q4, if_pos rfl, if_pos rfl]
    have st := lq_x0 (law := law) (o2 := o2) (c2 := c2) q1 q4 (lq_bn (by omega) (Or.inl (by rw [q4]; decide))) pt3
    rw [if_neg (by decide)] at st
    exact ⟨_, _, c2, lq_fin (rq_Pw hi.1 hC.2.1) q2 hC.2.1 q3, lq_R1 st lq_Rr⟩
  rw [if_neg c14] at hsp
  rw [if_neg c14, if_neg c14]
  by_cases c37 : lx_T f n b = 37
  · rw [if_pos c37] at hsp
    rw [if_pos c37, if_pos c37]
    exact lq_en hsp (fun _ st => lq_L1 st (hI P o c _ e hi))
  rw [if_neg c37] at hsp
  rw [if_neg c37, if_neg c37]
  by_cases c41 : lx_T f n b = 41
  · rw [if_pos c41] at hsp
    rw [if_pos c41, if_pos c41]
    exact lq_en hsp (fun _ st => hL P o c _ b e hi st)
  rw [if_neg c41] at hsp
  rw [if_neg c41, if_neg c41]
  rw [if_neg (show ¬ (lx_T f n b = 44 ∧ lm_ah (ln_e P) = true) from fun q => hs.elim (fun h => h q.1) (fun h => by rw [h] at q; exact absurd q.2 (by decide)))] at hsp
  rw [lm_name]
  by_cases q : (ds_name f n law b).1 = 0
  · rw [if_pos q] at hsp
    rw [if_pos q, if_pos q]
    exact lq_on hi hsp ⟨(fun w => absurd w (show (1 : Int) ≠ 0 by decide)), (fun _ => hN b q), (fun w => absurd w (show ¬ ((1 : Int) < 0 ∨ (1 : Int) = 31) by decide)), (fun w => absurd w (show (1 : Int) ≠ 2 by decide))⟩ rfl
  · rw [if_neg q, if_neg q]; exact fun z => absurd z q
/-- all readings -/
theorem lq_all (hN : ∀ b : Int, (ds_name f n law b).1 = 0 → cm_sm (N (la_nm (lx_T f n b))) ∧ M (la_nm (lx_T f n b)) = N (la_nm (lx_T f n b))) : ∀ k : Nat, lq_M3 f n law M N L0 m (ds_T f n law k).1 (dv_T f n law N k).1 ∧ lq_M2 f n law M N L0 m (ds_T f n law k).2.1 (dv_T f n law N k).2.1 ∧ lq_M1 f n law M N L0 m (ds_T f n law k).2.2.1 (dv_T f n law N k).2.2.1
    ∧ (∀ (Q : ln_P) (o : List (Int × Int)) (c b : Int) (e : Int → Int), lq_i M N L0 m Q o c e → lq_L f n law (lq_C M N L0 m 7 Q c (rq_n ((dv_T f n law N k).2.2.2.1 (lm_dp (ln_e Q) + 1) (lm_g (ln_e Q)) e b) (rv N L0 m o))) ((41, 0, 0) :: Q, o, c, false, b) ((ds_T f n law k).2.2.2.1 (lm_dp (ln_e Q) + 1) (lm_g (ln_e Q)) b))
    ∧ (∀ (Q : ln_P) (o : List (Int × Int)) (c b b0 : Int) (e : Int → Int), lq_i M N L0 m Q o c e → lo_sp f n law (Q, o, c, false, b0) = lo_lt f n Q o c b → lq_L f n law (lq_C M N L0 m 7 Q c (rq_n ((dv_T f n law N k).2.2.2.2.1 (lm_dp (ln_e Q) + 1) (lm_g (ln_e Q)) e b) (rv N L0 m o))) (Q, o, c, false, b0) ((ds_T f n law k).2.2.2.2.1 (lm_dp (ln_e Q) + 1) (lm_g (ln_e Q)) b))
    ∧ lq_M6 f n law M N L0 m (ds_T f n law k).2.2.2.2.2.1 (dv_T f n law N k).2.2.2.2.2.1 ∧ lq_M5 f n law M N L0 m (ds_T f n law k).2.2.2.2.2.2.1 (dv_T f n law N k).2.2.2.2.2.2.1 ∧ lq_M4 f n law M N L0 m (ds_T f n law k).2.2.2.2.2.2.2 (dv_T f n law N k).2.2.2.2.2.2.2 := by
  intro k
  have n9 : (9 : Int) ≠ 0 := by decide
  induction k with
  | zero => exact ⟨fun _ _ _ _ _ _ _ _ z => absurd z n9, fun _ _ _ _ _ _ _ _ z => absurd z n9, fun _ _ _ _ _ _ _ z => absurd z n9, fun _ _ _ _ _ _ z => absurd z n9, fun _ _ _ _ _ _ _ _ z => absurd z n9, fun _ _ _ _ _ _ _ _ z => absurd z n9, fun _ _ _ _ _ _ _ _ z => absurd z n9, fun _ _ _ _ _ _ _ z => absurd z n9⟩
  | succ k ih =>
    obtain ⟨i3, i2, i1, iI, iL, i6, i5, i4⟩ := ih
    exact ⟨lq_p3 i2, lq_p2 i1, lq_p1 hN i3 i1 iI iL, fun Q o c b e hi => lq_pif i3 i6 hi, fun Q o c b b0 e hi hs => lq_plet i3 hi hs, lq_p6 i5, lq_p5 i4, lq_p4 i3 i4⟩
/-- a sum of a clause, alone: where the machine ends, and what its orders are worth -/
theorem lq_top {r : Int × Int} (hN : ∀ b : Int, (ds_name f n law b).1 = 0 → cm_sm (N (la_nm (lx_T f n b))) ∧ M (la_nm (lx_T f n b)) = N (la_nm (lx_T f n b))) (hm : o.length = m) (hr : (ds_T f n law 200).1 0 tx_g0 b = r) (z : r.1 = 0) (T : lx_T f n r.2 = 16) : ∃ (P2 : ln_P) (o2 : List (Int × Int)) (c2 : Int), lq_R f n law ([], o, 0, false, b) (P2, o2, c2, true, r.2) ∧ lo_sp f n law (P2, o2, c2, true, r.2) = .inl (0, r.2) ∧ rq_ok M N L0 m (ln_so 1 P2 o2) ∧ (rv N L0 m (ln_so 1 P2 o2)).1 = [(dv_T f n law N 200).1 0 tx_g0 (fun _ => 0) b] := by
  obtain ⟨r0, ok0⟩ := rv_0 (N := N) (L0 := L0) M hm
  have hi : lq_i M N L0 m [] o 0 (fun _ => 0) := ⟨fun x hx => (by cases hx), ok0, Int.le_refl 0, fun x _ _ hx => absurd rfl hx⟩
  have a := (lq_all (f := f) (n := n) (law := law) (M := M) (N := N) (L0 := L0) (m := m) hN 200).1 [] o 0 b (fun _ => 0) hi rfl (Or.inr rfl)
  have a : lq_L f n law (lq_C M N L0 m 5 [] 0 (rq_n ((dv_T f n law N 200).1 0 tx_g0 (fun _ => 0) b) (rv N L0 m o))) ([], o, 0, false, b) ((ds_T f n law 200).1 0 tx_g0 b) := a
  rw [hr] at a
  obtain ⟨P2, o2, c2, hC, hR⟩ := a z
  obtain ⟨s1, s2, s3⟩ := lq_so (k := 1) (by decide) rfl (lq_CC (j := 1) (by decide) hi.1 hC)
  refine ⟨P2, o2, c2, hR, ?_, s2, ?_⟩
  · have op : lm_op (ln_e P2) = -1 := lm_Cop (P := ln_e []) (k := 5) (by decide) (lq_lm hC.1)
    have hbt : lm_bt (lx_T f n r.2) (ln_e P2) = -1 := lq_bn (by omega) (Or.inl (by rw [op]; decide))
    have hpt : lm_pt (lx_T f n r.2) (ln_e P2) = -1 := by
      unfold lm_pt
      rw [op, if_neg (by decide), if_neg (by decide), if_neg (by decide), if_neg (by decide), if_pos (by decide)]
    show lo_bh f n P2 o2 c2 r.2 = _
    unfold lo_bh
    rw [hbt, hpt, op, if_neg (by decide), if_neg (by decide), if_neg (by decide), if_neg (by decide)]
  · rw [s3.1, r0]
end LQ2
/-! the reference does its orders as rv says -/
section EV
variable {M N T : Int → Int} {a a0 a1 a2 b c r i x x3 x4 x5 x6 x7 y : Int} {o w : List (Int × Int)} {m : Nat} {s t u z : lf_Z} {R : rq_R}
theorem fl_270 {Q : Int → lf_Z → Prop} (h : -9000000000000000000 ≤ a ∧ a ≤ 9000000000000000000) (k : Q (cm_cut a) s) : fw_270 a Q s := by
  have key : ∀ v : Int, v = cm_cut a → Q v s := fun v e => by rw [e]; exact k
  unfold fw_270
  rw [lf_wlR (a := a) (by omega)]
  refine ⟨fun c => ⟨fun d => key _ ?_, fun d => key _ ?_⟩, fun c => key _ ?_⟩ <;> unfold cm_cut <;> omega
theorem fl_269 {Q : Int → lf_Z → Prop} (h1 : cm_sm a1) (h2 : cm_sm a2) (ha : a0 < 10) (k : Q (cm_ar (a0 + 6) a1 a2) s) : fw_269 a0 a1 a2 Q s := by
  have key : ∀ v : Int, v = cm_ar (a0 + 6) a1 a2 → Q v s := fun v e => by rw [e]; exact k
  have m := cm_mul h1 h2
  have dv := cm_dv (b := a2) h1
  have ct : ∀ v : Int, cm_sm (cm_cut v) := fun v => cm_cutS
  have wc : ∀ v : Int, lf_wl (cm_cut v) = cm_cut v := fun v => lf_wlR (by have := ct v; unfold cm_sm at this; omega)
  unfold cm_sm at h1 h2 dv
  unfold fw_269
  rw [lf_wlR (a := a1) (by omega), lf_wlR (a := a2) (by omega)]
  intro _
  refine ⟨fun q => ⟨fun c _ => ?_, fun c => key _ ?_⟩, fun q => ?_, fun q => ?_, fun q => ?_⟩
  · rw [lf_wlR (a := a1.tdiv a2) (by omega)]
    refine fl_270 (by omega) (key _ ?_)
    rw [wc]
    unfold cm_ar
    rw [if_neg (by omega), if_neg (by omega), if_neg (by omega), if_neg c]
    unfold cm_cut; omega
  · unfold cm_ar
    rw [if_neg (by omega), if_neg (by omega), if_neg (by omega), if_pos (Classical.not_not.mp c)]
  · rw [lf_wlR (a := a1 + a2) (by omega)]
    refine fl_270 (by omega) (key _ ?_)
    rw [wc]
    unfold cm_ar
    rw [if_pos (by omega)]
  · rw [lf_wlR (a := a1 - a2) (by omega)]
    refine fl_270 (by omega) (key _ ?_)
    rw [wc]
    unfold cm_ar
    rw [if_neg (by omega), if_pos (by omega)]
  · rw [lf_wlR (a := a1 * a2) (by omega)]
    refine fl_270 (by omega) (key _ ?_)
    rw [wc]
    unfold cm_ar
    rw [if_neg (by omega), if_neg (by omega), if_pos (by omega)]
theorem fl_271 {Q : Bool → lf_Z → Prop} (h1 : cm_sm a1) (h2 : cm_sm a2) (ha : 10 ≤ a0) (k : Q (cm_cp (a0 - 6) a1 a2) s) : fw_271 a0 a1 a2 Q s := by
  have key : ∀ v : Bool, v = cm_cp (a0 - 6) a1 a2 → Q v s := fun v e => by rw [e]; exact k
  unfold cm_sm at h1 h2
  unfold fw_271
  rw [lf_wlR (a := a1) (by omega), lf_wlR (a := a2) (by omega)]
  intro _
  refine ⟨fun c10 => ⟨fun c11 => ⟨fun c12 => ⟨fun c13 => ⟨fun c14 => ⟨fun h => key _ ?_, fun h => key _ ?_⟩, fun c14 => ⟨fun h => key _ ?_, fun h => key _ ?_⟩⟩, fun c13 => ⟨fun h => key _ ?_, fun h => key _ ?_⟩⟩, fun c12 => ⟨fun h => key _ ?_, fun h => key _ ?_⟩⟩, fun c11 => ⟨fun h => key _ ?_, fun h => key _ ?_⟩⟩, fun c10 => ⟨fun h => key _ ?_, fun h => key _ ?_⟩⟩ <;> unfold cm_cp <;> (repeat' split) <;> first | omega | exact (decide_eq_false (by omega)).symm | exact (decide_eq_true (by omega)).symm
/-- numbers, truths and lets, as they lie -/
def ev_A (s : lf_Z) (x5 x6 : Int) (R : rq_R) : Prop := x5 = R.1.length ∧ x6 = R.2.1.length ∧ cm_k (s.2.1 106) R.1 ∧ cm_k (s.1 107) R.2.1 ∧ s.2.1 105 = R.2.2
theorem ln_ouS {F : Int → Int} : ∀ w : List (Int × Int), ln_ou F a (w ++ o) → ln_ou F a o := by
  intro w
  induction w with
  | nil => intro h; exact h
  | cons e w ih => intro h; exact ih h.2.2
theorem rq_okL {L0 : Int → Int} : ∀ w : List (Int × Int), m ≤ o.length → rq_ok M N L0 m (w ++ o) → rq_ok M N L0 m o := by
  intro w
  induction w with
  | nil => intro _ h; exact h
  | cons e w ih =>
    intro hm h
    rcases h with h | h
    · exfalso
      have : (w ++ o).length + 1 = m := h
      rw [List.length_append] at this
      omega
    · exact ih hm h.1
theorem ev_up {F : Int → Int} {v : Int} {st : List Int} (h : cm_k F st) : cm_k (ds_u1 F (st.length : Int) v) (v :: st) := ⟨if_pos rfl, cm_kU st (Int.le_refl _) h⟩
theorem fl_268 {Q : Int → lf_Z → Prop} {v : Int} (hM : s.1 104 = M) (h1 : s.1 98 (((705 * r) + 1) + (4 * i) + 1) = m) (h2 : s.1 98 (((705 * r) + 1) + (4 * i) + 2) = o.length) (ho : ln_ou (s.1 98) (705 * r + 97) o) (hok : ∀ L0 : Int → Int, rq_ok M N L0 m o) (hv : ∀ L0 : Int → Int, (rv N L0 m o).1 = [v]) (k : ∀ t : lf_Z, tr_f s t → t.1 104 = M → Q v t) : fw_268 r i Q s := by
  unfold fw_268
  intro _
  rw [h1]
  have hml := rq_len o (hok (s.2.1 105))
  refine ⟨fun x5 x6 x7 t => tr_f s t ∧ t.1 104 = M ∧ ∃ w oi : List (Int × Int), o = w ++ oi ∧ x7 = oi.length ∧ m ≤ oi.length ∧ ev_A t x5 x6 (rv N (s.2.1 105) m oi), ?_, ⟨tr_fr, hM, o.take (o.length - m), o.drop (o.length - m), (List.take_append_drop _ _).symm, by rw [List.length_drop]; omega, by rw [List.length_drop]; omega, ?_⟩⟩
  rotate_left
  · rw [(rv_0 (N := N) (L0 := s.2.1 105) M (show (o.drop (o.length - m)).length = m by rw [List.length_drop]; omega)).1]
    exact ⟨rfl, rfl, trivial, trivial, rfl⟩
  intro x5 x6 x7 t ⟨tf, tM, w, oi, ow, x7e, mi, tA⟩
  have t98 : t.1 98 = s.1 98 := tf.1 98 (by decide) (by decide)
  unfold fw_268_p38
  rw [t98, h2]
  have okI := rq_okL w mi (by rw [← ow]; exact hok (s.2.1 105))
  have sm := rq_okS _ okI
  intro _ _ _
  refine ⟨fun q => ?_, fun q _ _ => ?_⟩
  · have hw : w = [] := by
      cases w with
      | nil => rfl
      | cons e w => rw [ow, List.length_append, List.length_cons] at q; omega
    rw [hw, List.nil_append] at ow
    rw [← ow] at tA sm
    obtain ⟨_, _, c3, _, _⟩ := tA
    unfold rq_sm at sm
    rw [hv] at c3
    have sm := sm.1
    rw [hv] at sm
    have e0 : t.2.1 106 0 = v := c3.1
    have sv := sm v List.mem_cons_self
    unfold cm_sm at sv
    rw [e0, lf_wlR (a := v) (by omega), tr_w (a := v) (by omega)]
    exact k t tf tM
  · -- the next order
    have hw : w ≠ [] := by
      intro e
      rw [e, List.nil_append] at ow
      rw [ow] at q; omega
    obtain ⟨w', e, ew⟩ : ∃ w' e, w = w' ++ [e] := ⟨w.dropLast, w.getLast hw, (List.dropLast_concat_getLast hw).symm⟩
    have ow2 : o = w' ++ (e :: oi) := by rw [ow, ew, List.append_assoc]; rfl
    have ho2 := ln_ouS w' (by rw [← ow2]; exact ho)
    obtain ⟨c1, c2, _⟩ := ho2
    have okE := rq_okL w' (show m ≤ (e :: oi).length by rw [List.length_cons]; omega) (by rw [← ow2]; exact hok (s.2.1 105))
    have pr : rq_pr M N e (rv N (s.2.1 105) m oi) := by
      rcases okE with h | h
      · omega
      · exact h.2
    have rvE := rv_c (e := e) okI
    rw [x7e, c1, c2]
    have fin : ∀ (x5' x6' : Int) (u : lf_Z), tr_f t u → u.1 104 = M → ev_A u x5' x6' (rq_st N e (rv N (s.2.1 105) m oi)) → fw_268_p437 (fun x5 x6 x7 t => tr_f s t ∧ t.1 104 = M ∧ ∃ w oi : List (Int × Int), o = w ++ oi ∧ x7 = oi.length ∧ m ≤ oi.length ∧ ev_A t x5 x6 (rv N (s.2.1 105) m oi)) Q (705 * r + 1 + 4 * i) (705 * r + 97) x5' x6' (oi.length : Int) u := by
      intro x5' x6' u uf uM uA
      unfold fw_268_p437
      exact ⟨tr_ft tf uf, uM, w', e :: oi, ow2, by rw [List.length_cons]; omega, by rw [List.length_cons]; omega, by rw [rvE]; exact uA⟩
    generalize rv N (s.2.1 105) m oi = R at tA sm pr fin
    obtain ⟨ns, ts, ls⟩ := R
    obtain ⟨d5, d6, k1, k2, k3⟩ := tA
    obtain ⟨p1, p2, p3, p4⟩ := pr
    obtain ⟨sm1, sm2⟩ := sm
    have d5 : x5 = (ns.length : Int) := d5
    have d6 : x6 = (ts.length : Int) := d6
    have k1 : cm_k (t.2.1 106) ns := k1
    have k2 : cm_k (t.1 107) ts := k2
    have k3 : t.2.1 105 = ls := k3
    have sm1 : ∀ x ∈ ns, cm_sm x := sm1
    have sm2 : ∀ x ∈ ts, x = 0 ∨ x = 1 := sm2
    have p3 : e.1 < 0 ∨ e.1 = 31 → cm_sm (ls e.2) := p3
    have p4 : e.1 = 2 → ns ≠ [] := p4
    subst d5
    subst d6
    -- a number is put down
    have num : ∀ (v y1 : Int) (st : List Int) (x6' : Int), cm_sm v → y1 = st.length → cm_k (t.2.1 106) st → x6' = ts.length → rq_st N e (ns, ts, ls) = (v :: st, ts, ls) → fw_268_p437 (fun x5 x6 x7 t => tr_f s t ∧ t.1 104 = M ∧ ∃ w oi : List (Int × Int), o = w ++ oi ∧ x7 = oi.length ∧ m ≤ oi.length ∧ ev_A t x5 x6 (rv N (s.2.1 105) m oi)) Q (705 * r + 1 + 4 * i) (705 * r + 97) (y1 + 1) x6' (oi.length : Int) (t.1, lf_up t.2.1 106 y1 v, t.2.2) := by
      intro v y1 st x6' sv hy hk h6 hR
      refine fin _ _ _ ⟨fun _ _ _ => rfl, rfl⟩ tM ?_
      rw [hR]
      refine ⟨by dsimp only; rw [List.length_cons]; omega, h6, ?_, k2, ?_⟩
      rotate_left
      · show lf_up t.2.1 106 y1 v 105 = ls
        rw [lf_up_row (show (105 : Nat) ≠ 106 by decide)]; exact k3
      have : lf_up t.2.1 106 y1 v 106 = ds_u1 (t.2.1 106) y1 v := tp_row
      show cm_k (lf_up t.2.1 106 y1 v 106) (v :: st)
      rw [this, hy]
      exact ev_up hk
    -- a truth is put down
    have tru : ∀ (v y1 x6' : Int) (st : List Int), y1 = st.length → cm_k (t.1 107) st → x6' = y1 + 1 → rq_st N e (ns, ts, ls) = (ns, v :: st, ls) → fw_268_p437 (fun x5 x6 x7 t => tr_f s t ∧ t.1 104 = M ∧ ∃ w oi : List (Int × Int), o = w ++ oi ∧ x7 = oi.length ∧ m ≤ oi.length ∧ ev_A t x5 x6 (rv N (s.2.1 105) m oi)) Q (705 * r + 1 + 4 * i) (705 * r + 97) (ns.length : Int) x6' (oi.length : Int) (lf_up t.1 107 y1 v, t.2.1, t.2.2) := by
      intro v y1 x6' st hy hk h6 hR
      refine fin _ _ _ ⟨fun c _ c2 => lf_up_row c2, rfl⟩ ((zu_r (show (104 : Nat) ≠ 107 by decide)).trans tM) ?_
      rw [hR]
      refine ⟨rfl, by dsimp only; rw [List.length_cons]; omega, k1, ?_, k3⟩
      have : lf_up t.1 107 y1 v 107 = ds_u1 (t.1 107) y1 v := tp_row
      show cm_k (lf_up t.1 107 y1 v 107) (v :: st)
      rw [this, hy]
      exact ev_up hk
    have sml : ∀ v : Int, cm_sm v → lf_wl v = v := fun v hv => lf_wlR (by unfold cm_sm at hv; omega)
    have p94 : (e.1 ≤ 1 ∨ e.1 = 31) → fw_268_p94 (fun x5 x6 x7 t => tr_f s t ∧ t.1 104 = M ∧ ∃ w oi : List (Int × Int), o = w ++ oi ∧ x7 = oi.length ∧ m ≤ oi.length ∧ ev_A t x5 x6 (rv N (s.2.1 105) m oi)) Q (705 * r + 1 + 4 * i) (705 * r + 97) (ns.length : Int) (ts.length : Int) (oi.length : Int) e.1 e.2 t := by
      intro he
      unfold fw_268_p94 fw_268_p135
      intro _
      refine ⟨fun q0 => ⟨fun q1 _ _ => ?_, fun q1 _ _ _ => ?_⟩, fun q0 _ _ => ?_⟩
      · have sv := p3 (by omega)
        rw [k3, sml _ sv, sml _ sv]
        refine num _ _ _ _ sv rfl k1 rfl ?_
        unfold rq_st
        rw [if_neg q0, if_neg q1, if_pos he]
      · have q1 := Classical.not_not.mp q1
        obtain ⟨sv, me⟩ := p2 q1
        rw [tM, me, sml _ sv]
        refine num _ _ _ _ sv rfl k1 rfl ?_
        unfold rq_st
        rw [if_neg q0, if_pos q1]
      · have q0 := Classical.not_not.mp q0
        rw [sml _ (p1 q0)]
        refine num _ _ _ _ (p1 q0) rfl k1 rfl ?_
        unfold rq_st
        rw [if_pos q0]
    have hd : ∀ {x : Int} {l : List Int} {F : Int → Int}, cm_k F (x :: l) → F l.length = x := fun h => h.1
    intro _
    refine ⟨fun g1 => p94 (Or.inl g1), fun g1 => ⟨fun g31 => ⟨fun g2 => ⟨fun g30 => ⟨fun g3 => ⟨fun g10 => ⟨fun g20 => ⟨fun n20 => ⟨fun n21 b1 => ?_, fun n21 b1 => ?_⟩, fun n20 b1 => ?_⟩, fun g20 b1 b2 => ?_⟩, fun g10 b1 b2 => ?_⟩, fun g3 b1 => ?_⟩, fun g30 b1 b2 => ?_⟩, fun g2 b1 => ?_⟩, fun g31 => p94 (Or.inr (Classical.not_not.mp g31))⟩⟩
    · -- or
      rcases ts with _ | ⟨t1, _ | ⟨t2, st⟩⟩
      · exfalso; rw [List.length_nil] at b1; omega
      · exfalso; rw [List.length_cons, List.length_nil] at b1; omega
      · have e2 : ((t1 :: t2 :: st).length : Int) + -1 - 1 = st.length := by rw [List.length_cons, List.length_cons]; omega
        have e1 : ((t1 :: t2 :: st).length : Int) + -1 = (st.length : Int) + 1 := by rw [List.length_cons, List.length_cons]; omega
        have f1 : t.1 107 ((st.length : Int) + 1) = t1 := by have := k2.1; rw [List.length_cons] at this; rw [← this]; congr 1
        have f2 : t.1 107 (st.length : Int) = t2 := k2.2.1
        have v1 := sm2 t1 List.mem_cons_self
        have v2 := sm2 t2 (List.mem_cons_of_mem _ List.mem_cons_self)
        have R1 : ∀ v : Int, v = cm_2 46 t2 t1 → rq_st N e (ns, t1 :: t2 :: st, ls) = (ns, v :: st, ls) := fun v hv => by
          unfold rq_st
          rw [if_neg (by omega), if_neg (by omega), if_neg (by omega), if_neg g2, if_neg g30, if_neg g3, if_neg (by omega), if_neg (by omega), if_neg n20, if_neg n21, hv]
          rfl
        rw [e2, e1, f1, f2]
        unfold fw_268_p431 fw_268_p436
        intro _
        refine ⟨fun q _ _ => tru 1 _ _ st rfl k2.2.2 rfl (R1 _ ?_), fun q _ _ => ⟨fun q1 _ _ => tru 0 _ _ st rfl k2.2.2 rfl (R1 _ ?_), fun q1 _ _ => tru 1 _ _ st rfl k2.2.2 rfl (R1 _ ?_)⟩⟩
        · rcases v1 with v1 | v1 <;> rcases v2 with v2 | v2 <;> subst v1 <;> subst v2 <;> first | exact absurd rfl q | decide
        · rcases v1 with v1 | v1 <;> rcases v2 with v2 | v2 <;> subst v1 <;> subst v2 <;> first | (exfalso; omega) | decide
        · rcases v1 with v1 | v1 <;> rcases v2 with v2 | v2 <;> subst v1 <;> subst v2 <;> first | (exfalso; omega) | decide
    · -- and
      have n21 := Classical.not_not.mp n21
      rcases ts with _ | ⟨t1, _ | ⟨t2, st⟩⟩
      · exfalso; rw [List.length_nil] at b1; omega
      · exfalso; rw [List.length_cons, List.length_nil] at b1; omega
      · have e2 : ((t1 :: t2 :: st).length : Int) + -1 - 1 = st.length := by rw [List.length_cons, List.length_cons]; omega
        have e1 : ((t1 :: t2 :: st).length : Int) + -1 = (st.length : Int) + 1 := by rw [List.length_cons, List.length_cons]; omega
        have f1 : t.1 107 ((st.length : Int) + 1) = t1 := by have := k2.1; rw [List.length_cons] at this; rw [← this]; congr 1
        have f2 : t.1 107 (st.length : Int) = t2 := k2.2.1
        have v1 := sm2 t1 List.mem_cons_self
        have v2 := sm2 t2 (List.mem_cons_of_mem _ List.mem_cons_self)
        have R1 : ∀ v : Int, v = cm_2 45 t2 t1 → rq_st N e (ns, t1 :: t2 :: st, ls) = (ns, v :: st, ls) := fun v hv => by
          unfold rq_st
          rw [if_neg (by omega), if_neg (by omega), if_neg (by omega), if_neg g2, if_neg g30, if_neg g3, if_neg (by omega), if_neg (by omega), if_neg n20, if_pos n21, hv]
          rfl
        rw [e2, e1, f1, f2]
        unfold fw_268_p405 fw_268_p436
        intro _
        refine ⟨fun q _ _ => tru 0 _ _ st rfl k2.2.2 rfl (R1 _ ?_), fun q _ _ => ⟨fun q1 _ _ => tru 0 _ _ st rfl k2.2.2 rfl (R1 _ ?_), fun q1 _ _ => tru 1 _ _ st rfl k2.2.2 rfl (R1 _ ?_)⟩⟩
        · rcases v1 with v1 | v1 <;> rcases v2 with v2 | v2 <;> subst v1 <;> subst v2 <;> first | (exfalso; omega) | decide
        · rcases v1 with v1 | v1 <;> rcases v2 with v2 | v2 <;> subst v1 <;> subst v2 <;> first | (exfalso; omega) | decide
        · rcases v1 with v1 | v1 <;> rcases v2 with v2 | v2 <;> subst v1 <;> subst v2 <;> first | (exfalso; omega) | decide
    · -- not
      have n20 := Classical.not_not.mp n20
      rcases ts with _ | ⟨t1, st⟩
      · exfalso; rw [List.length_nil] at b1; omega
      · have e1 : ((t1 :: st).length : Int) - 1 = st.length := by rw [List.length_cons]; omega
        have f1 : t.1 107 (st.length : Int) = t1 := k2.1
        have v1 := sm2 t1 List.mem_cons_self
        have R1 : ∀ v : Int, v = 1 - t1 → rq_st N e (ns, t1 :: st, ls) = (ns, v :: st, ls) := fun v hv => by
          unfold rq_st
          rw [if_neg (by omega), if_neg (by omega), if_neg (by omega), if_neg g2, if_neg g30, if_neg g3, if_neg (by omega), if_neg (by omega), if_pos n20, hv]
          rfl
        rw [e1, f1]
        unfold fw_268_p357
        intro _
        refine ⟨fun q _ _ => tru 0 _ _ st rfl k2.2 (by rw [List.length_cons]; omega) (R1 _ (by omega)), fun q _ _ => tru 1 _ _ st rfl k2.2 (by rw [List.length_cons]; omega) (R1 _ (by omega))⟩
    · -- compare
      rcases ns with _ | ⟨n1, _ | ⟨n2, st⟩⟩
      · exfalso; rw [List.length_nil] at b1; omega
      · exfalso; rw [List.length_cons, List.length_nil] at b1; omega
      · have e2 : ((n1 :: n2 :: st).length : Int) + -2 = st.length := by rw [List.length_cons, List.length_cons]; omega
        have f1 : t.2.1 106 ((st.length : Int) + 1) = n1 := by have := k1.1; rw [List.length_cons] at this; rw [← this]; congr 1
        have f2 : t.2.1 106 (st.length : Int) = n2 := k1.2.1
        have s1 := sm1 n1 List.mem_cons_self
        have s2 := sm1 n2 (List.mem_cons_of_mem _ List.mem_cons_self)
        rw [e2, f1, f2, sml _ s1, sml _ s2]
        refine fl_271 s2 s1 g10 ?_
        intro _ _
        refine fin _ _ _ ⟨fun c _ c2 => lf_up_row c2, rfl⟩ ((zu_r (show (104 : Nat) ≠ 107 by decide)).trans tM) ?_
        have R1 : rq_st N e (n1 :: n2 :: st, ts, ls) = (st, lf_b (cm_cp (e.1 - 6) n2 n1) :: ts, ls) := by
          unfold rq_st
          rw [if_neg (by omega), if_neg (by omega), if_neg (by omega), if_neg g2, if_neg g30, if_neg g3, if_neg (by omega), if_pos (by omega)]
          rfl
        rw [R1]
        refine ⟨rfl, by dsimp only; rw [List.length_cons]; omega, k1.2.2, ?_, k3⟩
        have : lf_up t.1 107 (ts.length : Int) (lf_b (cm_cp (e.1 - 6) n2 n1)) 107 = ds_u1 (t.1 107) (ts.length : Int) (lf_b (cm_cp (e.1 - 6) n2 n1)) := tp_row
        show cm_k (lf_up t.1 107 (ts.length : Int) (lf_b (cm_cp (e.1 - 6) n2 n1)) 107) (_ :: ts)
        rw [this]
        exact ev_up k2
    · -- arithmetic
      rcases ns with _ | ⟨n1, _ | ⟨n2, st⟩⟩
      · exfalso; rw [List.length_nil] at b1; omega
      · exfalso; rw [List.length_cons, List.length_nil] at b1; omega
      · have e2 : ((n1 :: n2 :: st).length : Int) + -1 - 1 = st.length := by rw [List.length_cons, List.length_cons]; omega
        have e1 : ((n1 :: n2 :: st).length : Int) + -1 = (st.length : Int) + 1 := by rw [List.length_cons, List.length_cons]; omega
        have f1 : t.2.1 106 ((st.length : Int) + 1) = n1 := by have := k1.1; rw [List.length_cons] at this; rw [← this]; congr 1
        have f2 : t.2.1 106 (st.length : Int) = n2 := k1.2.1
        have s1 := sm1 n1 List.mem_cons_self
        have s2 := sm1 n2 (List.mem_cons_of_mem _ List.mem_cons_self)
        rw [e2, e1, f1, f2, sml _ s1, sml _ s2]
        refine fl_269 s2 s1 (by omega) ?_
        have sa : cm_sm (cm_ar (e.1 + 6) n2 n1) := cm_arS s2
        rw [sml _ sa]
        refine num _ _ st _ sa rfl k1.2.2 rfl ?_
        unfold rq_st
        rw [if_neg (by omega), if_neg (by omega), if_neg (by omega), if_neg g2, if_neg g30, if_neg g3, if_pos (by omega)]
        rfl
    · -- minus
      have g3 := Classical.not_not.mp g3
      rcases ns with _ | ⟨n1, st⟩
      · exfalso; rw [List.length_nil] at b1; omega
      · have e1 : ((n1 :: st).length : Int) - 1 = st.length := by rw [List.length_cons]; omega
        have e2 : ((n1 :: st).length : Int) = (st.length : Int) + 1 := by rw [List.length_cons]; omega
        have f1 : t.2.1 106 (st.length : Int) = n1 := k1.1
        have s1 := sm1 n1 List.mem_cons_self
        have sn : cm_sm (-n1) := by unfold cm_sm at *; omega
        rw [e1, f1, sml _ s1, sml _ sn, e2]
        refine num _ _ st _ sn rfl k1.2 rfl ?_
        unfold rq_st
        rw [if_neg (by omega), if_neg (by omega), if_neg (by omega), if_neg g2, if_neg g30, if_pos g3]
        rfl
    · -- let
      have g30 := Classical.not_not.mp g30
      rcases ns with _ | ⟨n1, st⟩
      · exfalso; rw [List.length_nil] at b1; omega
      · have e1 : ((n1 :: st).length : Int) + -1 = st.length := by rw [List.length_cons]; omega
        have f1 : t.2.1 106 (st.length : Int) = n1 := k1.1
        have s1 := sm1 n1 List.mem_cons_self
        rw [e1, f1, sml _ s1]
        refine fin _ _ _ ⟨fun _ _ _ => rfl, rfl⟩ tM ?_
        have R1 : rq_st N e (n1 :: st, ts, ls) = (st, ts, ds_u1 ls e.2 n1) := by
          unfold rq_st
          rw [if_neg (by omega), if_neg (by omega), if_neg (by omega), if_neg g2, if_pos g30]
          rfl
        rw [R1]
        refine ⟨rfl, rfl, ?_, k2, ?_⟩
        · show cm_k (lf_up t.2.1 105 e.2 n1 106) st
          rw [lf_up_row (show (106 : Nat) ≠ 105 by decide)]; exact k1.2
        · show lf_up t.2.1 105 e.2 n1 105 = ds_u1 ls e.2 n1
          rw [tp_row, k3]
    · -- choose
      have g2 := Classical.not_not.mp g2
      rcases ts with _ | ⟨t1, ts'⟩
      · exfalso; rw [List.length_nil] at b1; omega
      · have e1 : ((t1 :: ts').length : Int) + -1 = ts'.length := by rw [List.length_cons]; omega
        have f1 : t.1 107 (ts'.length : Int) = t1 := k2.1
        rw [e1, f1]
        intro _
        have R1 : rq_st N e (ns, t1 :: ts', ls) = ((if t1 ≠ 0 then ns.tail else rq_hd ns :: ns.tail.tail), ts', ls) := by
          unfold rq_st
          rw [if_neg (by omega), if_neg (by omega), if_neg (by omega), if_pos g2]
          rfl
        refine ⟨fun q => ?_, fun q b3 b4 => ?_⟩
        · rcases ns with _ | ⟨n1, st⟩
          · exact absurd rfl (p4 g2)
          · rw [show ((n1 :: st).length : Int) + -1 = st.length by rw [List.length_cons]; omega]
            refine fin _ _ _ ⟨fun _ _ _ => rfl, rfl⟩ tM ?_
            rw [R1, if_pos q]
            exact ⟨rfl, rfl, k1.2, k2.2, k3⟩
        · rcases ns with _ | ⟨n1, _ | ⟨n2, st⟩⟩
          · exfalso; rw [List.length_nil] at b4; omega
          · exfalso; rw [List.length_cons, List.length_nil] at b4; omega
          · have e3 : ((n1 :: n2 :: st).length : Int) + -1 - 1 = st.length := by rw [List.length_cons, List.length_cons]; omega
            have e4 : ((n1 :: n2 :: st).length : Int) + -1 = (st.length : Int) + 1 := by rw [List.length_cons, List.length_cons]; omega
            have f3 : t.2.1 106 ((st.length : Int) + 1) = n1 := by have := k1.1; rw [List.length_cons] at this; rw [← this]; congr 1
            have s1 := sm1 n1 List.mem_cons_self
            rw [e3, e4, f3, sml _ s1]
            refine fin _ _ _ ⟨fun _ _ _ => rfl, rfl⟩ tM ?_
            rw [R1, if_neg (fun w => w (Classical.not_not.mp q))]
            refine ⟨by show (st.length : Int) + 1 = ((n1 :: st).length : Int); rw [List.length_cons]; omega, rfl, ?_, k2.2, ?_⟩
            rotate_left
            · show lf_up t.2.1 106 (st.length : Int) n1 105 = ls
              rw [lf_up_row (show (105 : Nat) ≠ 106 by decide)]; exact k3
            have : lf_up t.2.1 106 (st.length : Int) n1 106 = ds_u1 (t.2.1 106) (st.length : Int) n1 := tp_row
            show cm_k (lf_up t.2.1 106 (st.length : Int) n1 106) (n1 :: st)
            rw [this]
            exact ev_up k1.2.2
end EV
/-! the reference's sum: what it writes -/
section RS
variable {f : Int → Int} {n law a b c k : Int} {P : ln_P} {o : List (Int × Int)} {x y : ln_T} {s t z : lf_Z}
theorem ln_soS (k : Int) : ∀ (P : ln_P) (o : List (Int × Int)), (∃ w, ln_so k P o = w ++ o) ∧ (ln_so k P o).length + (ln_st k P).length = o.length + P.length := by
  intro P
  induction P with
  | nil => intro o; exact ⟨⟨[], rfl⟩, rfl⟩
  | cons e P ih =>
    intro o
    show (∃ w, (if k ≤ lm_rk e.1 then ln_so k P ((e.1, 0) :: o) else o) = w ++ o) ∧ (if k ≤ lm_rk e.1 then ln_so k P ((e.1, 0) :: o) else o).length + (if k ≤ lm_rk e.1 then ln_st k P else e :: P).length = o.length + (e :: P).length
    by_cases q : k ≤ lm_rk e.1
    · rw [if_pos q, if_pos q]
      obtain ⟨⟨w, hw⟩, hl⟩ := ih ((e.1, 0) :: o)
      refine ⟨⟨w ++ [(e.1, 0)], by rw [hw, List.append_assoc]; rfl⟩, ?_⟩
      rw [hl, List.length_cons, List.length_cons]; omega
    · rw [if_neg q, if_neg q]; exact ⟨⟨[], rfl⟩, rfl⟩
def rs_w (x y : ln_T) : Prop := (∃ w, y.2.1 = w ++ x.2.1) ∧ ((y.2.1.length + y.1.length : Nat) : Int) + x.2.2.2.2 ≤ ((x.2.1.length + x.1.length : Nat) : Int) + y.2.2.2.2
theorem rs_wt {u : ln_T} (h : rs_w x y) (g : rs_w y u) : rs_w x u := by
  obtain ⟨⟨w, h1⟩, h2⟩ := h
  obtain ⟨⟨v, g1⟩, g2⟩ := g
  exact ⟨⟨v ++ w, by rw [g1, h1, List.append_assoc]⟩, by omega⟩
theorem rs_one {e : Int × Int} {w : Bool} (hb : lx_T f n b ≠ 0) (h : lo_one f n P o c b e = .inr y) : rs_w (P, o, c, w, b) y := by
  unfold lo_one at h
  have h : (ln_st 7 P, ln_so 7 P (e :: o), c, true, ds_ad f n b) = y := by injection h
  rw [← h]
  obtain ⟨⟨w, hw⟩, hl⟩ := ln_soS 7 P (e :: o)
  have ad := (lm_adv hb).2
  refine ⟨⟨w ++ [e], by rw [show (ln_st 7 P, ln_so 7 P (e :: o), c, true, ds_ad f n b).2.1 = ln_so 7 P (e :: o) from rfl, hw, List.append_assoc]; rfl⟩, ?_⟩
  dsimp only
  rw [hl, List.length_cons]
  omega
theorem rs_pu {e : Int × Int × Int} {w : Bool} (hb : lx_T f n b ≠ 0) (h : lo_pu f n P b (fun q => .inr (e :: P, o, c, false, q)) = .inr y) : rs_w (P, o, c, w, b) y := by
  unfold lo_pu at h
  split at h
  · have h : (e :: P, o, c, false, ds_ad f n b) = y := by injection h
    rw [← h]
    have ad := (lm_adv hb).2
    refine ⟨⟨[], rfl⟩, ?_⟩
    dsimp only
    rw [List.length_cons]
    omega
  · cases h
theorem rs_be (h : lo_be f n law P o c b = .inr y) : rs_w (P, o, c, false, b) y := by
  unfold lo_be at h
  by_cases c2 : lx_T f n b = 2
  · rw [if_pos c2] at h
    split at h
    · exact rs_one (by omega) h
    · cases h
  rw [if_neg c2] at h
  by_cases c3 : lx_T f n b = 3
  · rw [if_pos c3] at h
    split at h
    · exact rs_one (by omega) h
    · cases h
  rw [if_neg c3] at h
  by_cases c11 : lx_T f n b = 11
  · rw [if_pos c11] at h; exact rs_pu (by omega) h
  rw [if_neg c11] at h
  by_cases c14 : lx_T f n b = 14
  · rw [if_pos c14] at h; exact rs_pu (by omega) h
  rw [if_neg c14] at h
  by_cases c37 : lx_T f n b = 37
  · rw [if_pos c37] at h; exact rs_pu (by omega) h
  rw [if_neg c37] at h
  by_cases c41 : lx_T f n b = 41
  · rw [if_pos c41] at h
    unfold lo_pu lo_lt at h
    split at h
    · split at h
      · split at h
        · rename_i q1 q2 q3
          have h : ((44, lx_V f n (ds_ad f n b), 0) :: P, o, c, false, ds_ad f n (ds_ad f n (ds_ad f n b))) = y := by injection h
          rw [← h]
          have ad := (lm_adv (f := f) (n := n) (b := b) (by omega)).2
          have a2 := lm_ad0 (f := f) (n := n) (b := ds_ad f n b)
          have a3 := lm_ad0 (f := f) (n := n) (b := ds_ad f n (ds_ad f n b))
          refine ⟨⟨[], rfl⟩, ?_⟩
          dsimp only
          rw [List.length_cons]
          omega
        · cases h
      · cases h
    · cases h
  rw [if_neg c41] at h
  by_cases c44 : lx_T f n b = 44 ∧ lm_ah (ln_e P) = true
  · rw [if_pos c44] at h; exact rs_pu (by omega) h
  rw [if_neg c44] at h
  split at h
  · rename_i q
    refine rs_one (fun w => ?_) h
    unfold ds_name at q
    rw [w, if_neg (by decide), if_neg (by decide)] at q
    exact absurd q (show (1 : Int) ≠ 0 by decide)
  · cases h
theorem rs_bh (h : lo_bh f n P o c b = .inr y) : rs_w (P, o, c, true, b) y := by
  unfold lo_bh at h
  split at h
  · rename_i q
    have h : ((lm_bt (lx_T f n b) (ln_e P), (0 : Int), (0 : Int)) :: ln_st (lm_rk (lm_bt (lx_T f n b) (ln_e P))) P, ln_so (lm_rk (lm_bt (lx_T f n b) (ln_e P))) P o, c, false, ds_ad f n b) = y := by injection h
    rw [← h]
    have tn : lx_T f n b ≠ 0 := fun w => by
      rw [w] at q
      unfold lm_bt at q
      rw [if_neg (by decide), if_neg (by decide), if_neg (by decide), if_neg (by decide)] at q
      split at q
      · exact absurd q (by decide)
      · split at q
        · exact absurd q (by decide)
        · exact absurd q (by decide)
    have ad := (lm_adv tn).2
    obtain ⟨hw, hl⟩ := ln_soS (lm_rk (lm_bt (lx_T f n b) (ln_e P))) P o
    refine ⟨hw, ?_⟩
    dsimp only
    rw [List.length_cons]
    omega
  · obtain ⟨⟨w, hw⟩, hl⟩ := ln_soS 1 P o
    have t0 : lm_pt 0 (ln_e P) = -1 := by unfold lm_pt; (repeat' split) <;> omega
    have tl : ∀ l : ln_P, l.tail.length ≤ l.length := fun l => by rw [List.length_tail]; omega
    split at h
    · rename_i q
      have tn : lx_T f n b ≠ 0 := fun w => by rw [w, t0] at q; exact absurd q (by decide)
      have ad := (lm_adv tn).2
      have pb := lm_ptB (lx_T f n b) (ln_e P)
      have ne : 1 ≤ (ln_st 1 P).length := by
        have op : lm_op (ln_e P) ≠ -1 := by omega
        cases hP : ln_st 1 P with
        | nil =>
          exfalso
          have := lm_opst (P := ln_e P) (k := 1) (by decide)
          rw [← ln_eS, hP] at this
          exact op (this.symm.trans rfl)
        | cons _ _ => rw [List.length_cons]; omega
      split at h
      · have h : (((45 : Int), lo_hd (ln_st 1 P), c) :: (ln_st 1 P).tail, ((30 : Int), c) :: ln_so 1 P o, c + 1, false, ds_ad f n b) = y := by injection h
        rw [← h]
        refine ⟨⟨(30, c) :: w, by rw [show (((45 : Int), lo_hd (ln_st 1 P), c) :: (ln_st 1 P).tail, ((30 : Int), c) :: ln_so 1 P o, c + 1, false, ds_ad f n b).2.1 = ((30 : Int), c) :: ln_so 1 P o from rfl, hw]; rfl⟩, ?_⟩
        dsimp only
        rw [List.length_cons, List.length_cons, List.length_tail]
        omega
      · have h : ((lm_pt (lx_T f n b) (ln_e P), lo_hd (ln_st 1 P), (0 : Int)) :: (ln_st 1 P).tail, ln_so 1 P o, c, false, ds_ad f n b) = y := by injection h
        rw [← h]
        refine ⟨⟨w, hw⟩, ?_⟩
        dsimp only
        rw [List.length_cons, List.length_tail]
        omega
    · split at h
      · rename_i q
        have tn : lx_T f n b ≠ 0 := fun w => by rw [w, t0] at q; exact absurd q (by decide)
        have ad := (lm_adv tn).2
        have h : (ln_st 7 (ln_st 1 P).tail, ln_so 7 (ln_st 1 P).tail (if lm_op (ln_e P) = 43 then ((2 : Int), (0 : Int)) :: ln_so 1 P o else ln_so 1 P o), c, true, ds_ad f n b) = y := by injection h
        rw [← h]
        have key : ∀ o5 : List (Int × Int), (∃ v, o5 = v ++ o) → o5.length + (ln_st 1 P).tail.length ≤ o.length + P.length + 1 → rs_w (P, o, c, true, b) (ln_st 7 (ln_st 1 P).tail, ln_so 7 (ln_st 1 P).tail o5, c, true, ds_ad f n b) := by
          intro o5 ⟨v, hv⟩ h5
          obtain ⟨⟨w7, hw7⟩, hl7⟩ := ln_soS 7 (ln_st 1 P).tail o5
          refine ⟨⟨w7 ++ v, by show ln_so 7 (ln_st 1 P).tail o5 = _; rw [hw7, hv, List.append_assoc]⟩, ?_⟩
          dsimp only
          rw [hl7]
          omega
        have tt := tl (ln_st 1 P)
        split
        · exact key _ ⟨(2, 0) :: w, by rw [hw]; rfl⟩ (by rw [List.length_cons]; omega)
        · exact key _ ⟨w, hw⟩ (by omega)
      · split at h <;> cases h
theorem rs_sp (h : lo_sp f n law x = .inr y) : rs_w x y := by
  obtain ⟨P, o, c, w, b⟩ := x
  cases w with
  | false => exact rs_be h
  | true => exact rs_bh h
/-- names that both have, and their worths -/
def rs_N (f : Int → Int) (n law : Int) (M N : Int → Int) : Prop := ∀ b : Int, (ds_name f n law b).1 = 0 → cm_sm (N (la_nm (lx_T f n b))) ∧ M (la_nm (lx_T f n b)) = N (la_nm (lx_T f n b))
/-- the orders of a sum at b: from the m-th on in o -/
def rs_V (f : Int → Int) (n law b : Int) (m : Nat) (o : List (Int × Int)) : Prop := ∀ M N L0 : Int → Int, rs_N f n law M N → rq_ok M N L0 m o ∧ (rv N L0 m o).1 = [(dv_T f n law N 200).1 0 tx_g0 (fun _ => 0) b]
theorem fy_216 {Q : Int → lf_Z → Prop} {r : Int × Int} (hr : (ds_T f n law 200).1 0 tx_g0 b = r) (hn : n ≤ 300) (hB : la_B f n b s) (h13 : s.1 95 13 = o.length) (ho : ln_ou (s.1 98) (s.1 95 12 + 97) o) (hl : s.1 95 14 = law) (h0 : 0 ≤ law) (h2 : law ≤ 2)
    (kk : ∀ t : lf_Z, la_B f n r.2 t → ln_F s t → (r.1 = 0 → ∃ o' : List (Int × Int), t.1 95 13 = o'.length ∧ ln_ou (t.1 98) (s.1 95 12 + 97) o' ∧ (lx_T f n r.2 = 16 → (∃ w, o' = w ++ o) ∧ (o'.length : Int) + b ≤ o.length + r.2 ∧ rs_V f n law b o.length o')) → Q r.1 t) : fw_216 Q s := by
  have b0 := hB.2.2.2.1
  have hR := lm_topS (f := f) (law := law) hn b0
  have hr' : (ds_T f n law 200).1 0 (fun _ => -1) b = r := hr
  rw [hr'] at hR
  refine fl_216 (I := fun x => lm_R f n law (ln_pr x) r ∧ lq_R f n law ([], o, 0, false, b) x ∧ rs_w ([], o, 0, false, b) x) hB h13 ho hl h0 h2 ⟨hR, lq_Rr, ⟨[], rfl⟩, Int.le_refl _⟩ (fun x y hx hg e => ?_) (fun x V' t hx hg e tB tF tC => ?_)
  · obtain ⟨hx, hx2, hx3⟩ := hx
    refine ⟨?_, lq_Rt hx2 (lq_R1 e lq_Rr), rs_wt hx3 (rs_sp e)⟩
    have p := ln_pjsp (f := f) (n := n) (law := law) hg
    rw [e] at p
    obtain ⟨k, hk⟩ := hx
    cases k with
    | zero => cases hk
    | succ k =>
      have hk : (match lm_sp f n law (ln_pr x) with | .inl v => some v | .inr t => lm_mr f n law k t) = some r := hk
      rw [← p] at hk
      exact ⟨k, hk⟩
  · obtain ⟨hx, hx2, hx3⟩ := hx
    have p := ln_pjsp (f := f) (n := n) (law := law) hg
    rw [e] at p
    have eV : V' = r := by
      obtain ⟨k, hk⟩ := hx
      cases k with
      | zero => cases hk
      | succ k =>
        have hk : (match lm_sp f n law (ln_pr x) with | .inl v => some v | .inr t => lm_mr f n law k t) = some r := hk
        rw [← p] at hk
        exact Option.some.inj hk
    subst eV
    refine kk t tB tF (fun q => ⟨ln_so 1 x.1 x.2.1, (tC q).2.2.2.2.2.2.2.2.2.1, (tC q).2.2.2.2.2.2.2.2.2.2.1, fun T => ?_⟩)
    obtain ⟨⟨w, hw⟩, hl1⟩ := ln_soS 1 x.1 x.2.1
    obtain ⟨⟨v, hv⟩, hl2⟩ := hx3
    have atE : ∀ (P2 : ln_P) (o2 : List (Int × Int)) (c2 : Int), lq_R f n law ([], o, 0, false, b) (P2, o2, c2, true, V'.2) → lo_sp f n law (P2, o2, c2, true, V'.2) = .inl (0, V'.2) → x = (P2, o2, c2, true, V'.2) := by
      intro P2 o2 c2 g1 g2
      obtain ⟨i, hi⟩ := hx2
      obtain ⟨j, hj⟩ := g1
      exact lo_det i j _ hi e hj g2
    refine ⟨⟨w ++ v, by rw [hw, hv, List.append_assoc]⟩, ?_, fun M N L0 hN => ?_⟩
    · obtain ⟨P2, o2, c2, g1, g2, _⟩ := lq_top (M := fun _ => 0) (N := fun _ => 0) (L0 := fun _ => 0) (m := o.length) (fun _ _ => ⟨⟨by decide, by decide⟩, rfl⟩) rfl hr q T
      have ex := atE P2 o2 c2 g1 g2
      rw [ex] at hl1 hl2 ⊢
      dsimp only at hl1 hl2 ⊢
      rw [List.length_nil] at hl2
      omega
    · obtain ⟨P2, o2, c2, g1, g2, g3, g4⟩ := lq_top (L0 := L0) hN rfl hr q T
      rw [atE P2 o2 c2 g1 g2]
      exact ⟨g3, g4⟩
end RS
/-! the reference's text: what it writes -/
section RT
variable {f : Int → Int} {n law a b c k i : Int} {P : ln_P} {o : List (Int × Int)} {s t z u : lf_Z} {r : Int × Int} {D : List Int} {F G : Int → Int}
abbrev tz_T : Type := (Int → Int) → List (Int × Int) → Prop
variable {W W' : tz_T}
/-- the texts before a are as they were -/
def tz_L (z : lf_Z) (a : Int) (t : lf_Z) : Prop := tn_F z t ∧ ∀ j : Int, j < a → t.1 98 j = z.1 98 j
def tz_S (z : lf_Z) (a : Int) (W : tz_T) (f : Int → Int) (n b : Int) (s : lf_Z) : Prop := tz_L z a s ∧ la_B f n b s ∧ s.1 95 12 = a ∧ ∃ o : List (Int × Int), s.1 95 13 = o.length ∧ ln_ou (s.1 98) (a + 97) o ∧ W (s.1 98) o
def tz_Q (z : lf_Z) (a : Int) (W : tz_T) (f : Int → Int) (n : Int) (r : Int × Int) (t : lf_Z) : Prop := tz_L z a t ∧ (r.1 = 0 → tz_S z a W f n r.2 t)
theorem tz_nx {Q : lf_Z → Prop} (h : tz_S z a W f n b s) (kk : ∀ t : lf_Z, tz_S z a W f n (ds_ad f n b) t → (∀ i : Int, ¬ (7 ≤ i ∧ i ≤ 10) → t.1 95 i = s.1 95 i) → (∀ q : Nat, q ≠ 95 → t.1 q = s.1 q) → Q t) : fw_197 Q s := by
  have h7 := la_0 h.2.1
  obtain ⟨⟨hF, hL⟩, ⟨b1, b2, b3, b4, b5⟩, x1, o, x2, x3, x4⟩ := h
  refine fl_197 h7 (by rw [b1, b2]; exact b5) (fun t tF tA => ?_)
  obtain ⟨f1, f2, f3⟩ := tF
  have r7 : s.1 95 7 = lx_E f n b := by rw [← b1, ← b2]; exact b3.2.2.1
  rw [b1, b2, r7] at tA
  have u95 : ∀ i : Int, ¬ (7 ≤ i ∧ i ≤ 10) → t.1 95 i = s.1 95 i := fun i hi => f2 i (by omega) (by omega) (by omega) (by omega)
  have e98 : t.1 98 = s.1 98 := f1 98 (by decide)
  refine kk t ⟨⟨tn_Ft hF ⟨fun q a1 _ _ _ _ _ => f1 q a1, fun i c d => u95 i (by omega), f3⟩, fun j hj => by rw [e98]; exact hL j hj⟩, ⟨(f1 99 (by decide)).trans b1, (u95 4 (by omega)).trans b2, tA, cl_ad0 b4, b5⟩, (u95 12 (by omega)).trans x1, o, (u95 13 (by omega)).trans x2, by rw [e98]; exact x3, by rw [e98]; exact x4⟩ u95 f1
/-- a cell is written -/
def tz_1 (i v : Int) (W : tz_T) : tz_T := fun F o => ∃ G : Int → Int, W G o ∧ F = ds_u1 G i v
theorem ln_ouX {F G : Int → Int} : ∀ o : List (Int × Int), (∀ j : Int, a ≤ j → F j = G j) → ln_ou G a o → ln_ou F a o := by
  intro o
  induction o with
  | nil => intro _ _; trivial
  | cons x o ih => intro e h; exact ⟨(e _ (by omega)).trans h.1, (e _ (by omega)).trans h.2.1, ih e h.2.2⟩
theorem tz_98 {v : Int} (h : tz_S z a W f n b s) (i0 : a ≤ i) (i1 : i < a + 97) : tz_S z a (tz_1 i v W) f n b (lf_up s.1 98 i v, s.2.1, s.2.2) := by
  obtain ⟨⟨hF, hL⟩, hB, x1, o, x2, x3, x4⟩ := h
  obtain ⟨t, ht⟩ : ∃ t : lf_Z, t = (lf_up s.1 98 i v, s.2.1, s.2.2) := ⟨_, rfl⟩
  rw [← ht]
  have e : ∀ q : Nat, q ≠ 98 → t.1 q = s.1 q := fun q hq => by rw [ht]; exact zu_r hq
  have e3 : t.1 98 = ds_u1 (s.1 98) i v := by rw [ht]; exact (tp_row : lf_up s.1 98 i v 98 = ds_u1 (s.1 98) i v)
  have eJ : t.2 = s.2 := by rw [ht]
  have e95 := e 95 (by decide)
  refine ⟨⟨tn_Ft hF ⟨fun q _ a2 _ _ _ _ => e q a2, fun i _ _ => by rw [e95], by rw [eJ]⟩, fun j hj => ?_⟩, la_Bx hB (e 99 (by decide)) (fun i _ => by rw [e95]) (by rw [eJ]), by rw [e95]; exact x1, o, by rw [e95]; exact x2, ?_, s.1 98, x4, e3⟩
  · rw [e3]; exact (if_neg (by omega)).trans (hL j hj)
  · rw [e3]; exact ln_ouX o (fun j hj => if_neg (by omega)) x3
theorem tz_95 (h : tz_S z a W f n b s) {v : Int} (hk : k = 14 ∨ k = 24) : tz_S z a W f n b (lf_up s.1 95 k v, s.2.1, s.2.2) := by
  obtain ⟨⟨hF, hL⟩, hB, x1, o, x2, x3, x4⟩ := h
  have e : ∀ q : Nat, q ≠ 95 → (lf_up s.1 95 k v) q = s.1 q := fun q hq => lf_up_row hq
  have e2 : ∀ i : Int, i ≠ k → (lf_up s.1 95 k v) 95 i = s.1 95 i := fun i hi => lf_up_i hi
  refine ⟨⟨tn_Ft hF ⟨fun q a1 _ _ _ _ _ => e q a1, fun i c d => e2 i (by omega), rfl⟩, fun j hj => ?_⟩, la_Bx hB (e 99 (by decide)) (fun i hi => e2 i (by omega)) rfl, (e2 12 (by omega)).trans x1, o, (e2 13 (by omega)).trans x2, ?_, ?_⟩
  · exact (congrFun (e 98 (by decide)) j).trans (hL j hj)
  · show ln_ou ((lf_up s.1 95 k v) 98) _ _
    rw [e 98 (by decide)]; exact x3
  · show W ((lf_up s.1 95 k v) 98) o
    rw [e 98 (by decide)]; exact x4
theorem tz_m (h : tz_S z a W f n b s) (m : ∀ F o, W F o → ln_ou F (a + 97) o → W' F o) : tz_S z a W' f n b s := by
  obtain ⟨h1, h2, h3, o, h4, h5, h6⟩ := h
  exact ⟨h1, h2, h3, o, h4, h5, m _ _ h6 h5⟩
/-- a number -/
theorem tz_213 {lo hi : Int} {Q : Int → lf_Z → Prop} (h : tz_S z a W f n b s) (h9 : hi ≤ 9999) (i0 : a ≤ i) (i1 : i < a + 97) (kk : ∀ t : lf_Z, tz_Q z a (tz_1 i (lx_V f n b) W) f n (ds_num f n lo hi b) t → Q (ds_num f n lo hi b).1 t) : fw_213 i lo hi Q s := by
  have KT := la_Bk h.2.1
  unfold la_kt at KT
  have r10 := la_10 h.2.1
  unfold ds_num at kk
  unfold fw_213
  intro _
  refine ⟨fun q => fl_183 ⟨fun y _ => ?_, fun y => ?_⟩, fun q => ?_⟩
  · have r := r10 q
    rw [Bool.and_eq_true, decide_eq_true_eq, decide_eq_true_eq] at y
    rw [if_pos (by omega), if_pos (by omega)] at kk
    rw [show s.1 95 10 = lx_V f n b by omega]
    exact tz_nx (tz_98 h i0 i1) (fun t ht _ _ => kk t ⟨ht.1, fun _ => ht⟩)
  · have r := r10 q
    rw [Bool.and_eq_false_iff, decide_eq_false_iff_not, decide_eq_false_iff_not] at y
    rw [if_pos (by omega), if_neg (by omega)] at kk
    exact kk s ⟨h.1, fun c => absurd c (show (2 : Int) ≠ 0 by decide)⟩
  · rw [if_neg (by omega)] at kk
    exact kk s ⟨h.1, fun c => absurd c (show (1 : Int) ≠ 0 by decide)⟩
theorem tz_214 {w lo hi : Int} {Q : Int → lf_Z → Prop} (j : Nat) (hj : j < 37) (hw : lf_wl w = lx_pkr (la_r j)) (h : tz_S z a W f n b s) (h9 : hi ≤ 9999) (i0 : a ≤ i) (i1 : i < a + 97) (kk : ∀ t : lf_Z, tz_Q z a (tz_1 i (lx_V f n (ds_ad f n b)) W) f n (ds_bd (ds_ex f n (20 + j) b) (ds_num f n lo hi)) t → Q (ds_bd (ds_ex f n (20 + j) b) (ds_num f n lo hi)).1 t) : fw_214 w i lo hi Q s := by
  unfold ds_ex at kk
  unfold fw_214
  refine fl_207 h.2.1 j hj (by rw [lf_wlI]; exact hw) ⟨fun y => ?_, fun y => ?_⟩
  · rw [if_pos (of_decide_eq_true y)] at kk
    exact tz_nx h (fun t ht _ _ => tz_213 ht h9 i0 i1 kk)
  · rw [if_neg (of_decide_eq_false y)] at kk
    exact kk s ⟨h.1, fun c => absurd c (show (1 : Int) ≠ 0 by decide)⟩
theorem tz_212 {lo hi w lo2 hi2 : Int} {Q : Int → lf_Z → Prop} (j : Nat) (hj : j < 37) (hw : lf_wl w = lx_pkr (la_r j)) (h : tz_S z a W f n b s) (h9 : hi ≤ 9999) (h92 : hi2 ≤ 9999) (i0 : a ≤ i) (i1 : i + 2 < a + 97) (kk : ∀ t : lf_Z, tz_Q z a (tz_1 (i + 2) (lx_V f n (ds_ad f n (ds_ad f n b))) (tz_1 (i + 1) (lx_V f n b) W)) f n (ds_bd (ds_bd (ds_num f n lo hi b) (ds_ex f n (20 + j))) (ds_num f n lo2 hi2)) t → Q (ds_bd (ds_bd (ds_num f n lo hi b) (ds_ex f n (20 + j))) (ds_num f n lo2 hi2)).1 t) : fw_212 i lo hi w lo2 hi2 Q s := by
  unfold fw_212
  refine tz_213 h h9 (by omega) (by omega) (fun t ht => ?_)
  intro _
  refine ⟨fun y => ?_, fun y => ?_⟩
  · rw [ds_bd0 y] at kk
    rw [← (ds_numZ y).2] at kk
    exact tz_214 j hj (by rw [lf_wlI]; exact hw) (ht.2 y) h92 (by omega) (by omega) kk
  · rw [ds_bdF y, ds_bdF y] at kk
    exact kk t ⟨ht.1, fun c => absurd c y⟩
/-- a sum is written -/
def tz_s (f : Int → Int) (n law a i b b' : Int) (W : tz_T) : tz_T := fun F o' => ∃ (G : Int → Int) (o : List (Int × Int)), W G o ∧ F (i + 1) = o.length ∧ F (i + 2) = o'.length ∧ (∀ j : Int, j < a + 97 → j ≠ i + 1 → j ≠ i + 2 → F j = G j) ∧ (lx_T f n b' = 16 → (∃ w, o' = w ++ o) ∧ (o'.length : Int) + b ≤ o.length + b' ∧ rs_V f n law b o.length o')
theorem tz_215 {Q : Int → lf_Z → Prop} {r : Int × Int} (hr : (ds_T f n law 200).1 0 tx_g0 b = r) (h : tz_S z a W f n b s) (hn : n ≤ 300) (hl : s.1 95 14 = law) (l0 : 0 ≤ law) (l2 : law ≤ 2) (i0 : a ≤ i) (i1 : i + 2 < a + 97) (kk : ∀ t : lf_Z, tz_Q z a (tz_s f n law a i b r.2 W) f n r t → Q r.1 t) : fw_215 i Q s := by
  unfold fw_215
  intro _
  obtain ⟨⟨yF, yL⟩, yB, y12, o, y13, yO, G, hW, yE⟩ := tz_98 (v := s.1 95 13) h (show a ≤ i + 1 by omega) (by omega)
  have yl : ((lf_up s.1 98 (i + 1) (s.1 95 13), s.2.1, s.2.2) : lf_Z).1 95 14 = law := (zu_c (by decide)).trans hl
  have y13' : s.1 95 13 = o.length := y13
  generalize ((lf_up s.1 98 (i + 1) (s.1 95 13), s.2.1, s.2.2) : lf_Z) = y at yF yL yB y12 y13 yO yE yl ⊢
  refine fy_216 (o := o) hr hn yB y13 (by rw [y12]; exact yO) yl l0 l2 (fun u uB uF uO => ?_)
  intro _
  rw [y12] at uO
  have u12 : u.1 95 12 = a := (uF.2.1 12 (by omega) (by decide) (by omega)).trans y12
  have low : ∀ j : Int, j < a + 97 → u.1 98 j = y.1 98 j := fun j hj => uF.2.2.1 j (by rw [y12]; exact hj)
  obtain ⟨t, ht⟩ : ∃ t : lf_Z, t = (lf_up u.1 98 (i + 2) (u.1 95 13), u.2.1, u.2.2) := ⟨_, rfl⟩
  rw [← ht]
  have e : ∀ q : Nat, q ≠ 98 → t.1 q = u.1 q := fun q hq => by rw [ht]; exact zu_r hq
  have e98 : t.1 98 = ds_u1 (u.1 98) (i + 2) (u.1 95 13) := by rw [ht]; exact (tp_row : lf_up u.1 98 (i + 2) (u.1 95 13) 98 = ds_u1 (u.1 98) (i + 2) (u.1 95 13))
  have eJ : t.2 = u.2 := by rw [ht]
  have tL : tz_L z a t := ⟨tn_Ft (tn_Ft yF (tn_Fl uF)) ⟨fun q _ a2 _ _ _ _ => e q a2, fun i _ _ => by rw [e 95 (by decide)], by rw [eJ]⟩, fun j hj => by rw [e98]; exact (if_neg (by omega)).trans ((low j (by omega)).trans (yL j hj))⟩
  refine kk t ⟨tL, fun q => ?_⟩
  obtain ⟨o', o1, o2, o3⟩ := uO q
  refine ⟨tL, la_Bx uB (e 99 (by decide)) (fun i _ => by rw [e 95 (by decide)]) (by rw [eJ]), by rw [e 95 (by decide)]; exact u12, o', by rw [e 95 (by decide)]; exact o1, ?_, G, o, hW, ?_, ?_, fun j hj j1 j2 => ?_, o3⟩
  · rw [e98]; exact ln_ouX o' (fun j hj => if_neg (by omega)) o2
  · rw [e98]
    refine (if_neg (by omega)).trans ?_
    rw [low _ (by omega), yE, ← y13']
    exact if_pos rfl
  · rw [e98, ← o1]
    exact if_pos rfl
  · rw [e98]
    refine (if_neg j2).trans ?_
    rw [low j hj, yE]
    exact if_neg j1
/-- a clause behind its first word: its two cells -/
def tz_c (f : Int → Int) (n x a i b b' : Int) (W : tz_T) : tz_T := fun F o' => (x ≤ 2 → tz_s f n x a i b b' W F o') ∧ (2 < x → ∃ G : Int → Int, W G o' ∧ (∀ j : Int, j ≠ i + 1 → j ≠ i + 2 → F j = G j) ∧ F (i + 1) = lx_V f n b ∧ (tx_sh ((20 + x - 23) * 5 + 2) ≠ 0 → F (i + 2) = lx_V f n (ds_ad f n (ds_ad f n b))))
theorem tz_211 {x : Int} {Q : Int → lf_Z → Prop} (h : tz_S z a W f n b s) (hn : n ≤ 300) (hl : s.1 95 14 = x) (x0 : 0 ≤ x) (x1 : x ≤ 12) (i0 : a ≤ i) (i1 : i + 2 < a + 97) (kk : ∀ t : lf_Z, tz_Q z a (tz_c f n x a i b (tn_bd f n x b).2 W) f n (tn_bd f n x b) t → Q (tn_bd f n x b).1 t) : fw_211 x i Q s := by
  have P : ∀ {A B C E F : Int}, 2 < x → C ≠ 0 → tx_sh ((20 + x - 23) * 5) = A → tx_sh ((20 + x - 23) * 5 + 1) = B → tx_sh ((20 + x - 23) * 5 + 2) = C → tx_sh ((20 + x - 23) * 5 + 3) = E → tx_sh ((20 + x - 23) * 5 + 4) = F → ∀ t : lf_Z, tz_Q z a (tz_1 (i + 2) (lx_V f n (ds_ad f n (ds_ad f n b))) (tz_1 (i + 1) (lx_V f n b) W)) f n (ds_bd (ds_bd (ds_num f n A B b) (ds_ex f n C)) (ds_num f n E F)) t → Q (ds_bd (ds_bd (ds_num f n A B b) (ds_ex f n C)) (ds_num f n E F)).1 t := by
    intro A B C E F g g0 h0 h1 h2 h3 h4 t ht
    have eb : ds_bd (ds_bd (ds_num f n A B b) (ds_ex f n C)) (ds_num f n E F) = tn_bd f n x b := by
      unfold tn_bd
      rw [if_pos g, tn_deed h0 h1 h2 h3 h4, if_neg g0]
    rw [eb] at ht ⊢
    refine kk t ⟨ht.1, fun q => tz_m (ht.2 q) (fun F o hF _ => ⟨fun w => absurd w (by omega), fun _ => ?_⟩)⟩
    obtain ⟨G1, ⟨G, hG, e1⟩, e2⟩ := hF
    refine ⟨G, hG, fun j j1 j2 => ?_, ?_, fun _ => ?_⟩
    · rw [e2, e1]; exact (if_neg j2).trans (if_neg j1)
    · rw [e2, e1]; exact (if_neg (by omega)).trans (if_pos rfl)
    · rw [e2]; exact if_pos rfl
  have P0 : ∀ {A B E F : Int}, 2 < x → tx_sh ((20 + x - 23) * 5) = A → tx_sh ((20 + x - 23) * 5 + 1) = B → tx_sh ((20 + x - 23) * 5 + 2) = 0 → tx_sh ((20 + x - 23) * 5 + 3) = E → tx_sh ((20 + x - 23) * 5 + 4) = F → ∀ t : lf_Z, tz_Q z a (tz_1 (i + 1) (lx_V f n b) W) f n (ds_num f n A B b) t → Q (ds_num f n A B b).1 t := by
    intro A B E F g h0 h1 h2 h3 h4 t ht
    have eb : ds_num f n A B b = tn_bd f n x b := by
      unfold tn_bd
      rw [if_pos g, tn_deed h0 h1 h2 h3 h4, if_pos rfl]
    rw [eb] at ht ⊢
    refine kk t ⟨ht.1, fun q => tz_m (ht.2 q) (fun F o hF _ => ⟨fun w => absurd w (by omega), fun _ => ?_⟩)⟩
    obtain ⟨G, hG, e1⟩ := hF
    refine ⟨G, hG, fun j j1 j2 => ?_, ?_, fun w => absurd h2 w⟩
    · rw [e1]; exact if_neg j1
    · rw [e1]; exact if_pos rfl
  unfold fw_211
  intro _
  refine ⟨fun q => ?_, fun q => ?_, fun q => ?_, fun q => ?_, fun q => ?_, fun q => ?_, fun q => ?_, fun q => ?_, fun q => ?_, fun q => ?_, fun q => ?_⟩
  · have e : tn_bd f n x b = (ds_T f n x 200).1 0 tx_g0 b := if_neg (by omega)
    rw [e] at kk
    refine tz_215 rfl h hn hl x0 (by omega) i0 i1 (fun t ht => kk t ⟨ht.1, fun q => tz_m (ht.2 q) (fun F o hF _ => ⟨fun _ => hF, fun w => absurd w (by omega)⟩)⟩)
  · subst q
    exact fl_204 (tz_212 13 (by decide) (by rw [lf_wlI]; decide +kernel) h (by decide) (by decide) i0 i1 (P (by decide) (by decide) (by decide +kernel) (by decide +kernel) (by decide +kernel) (by decide +kernel) (by decide +kernel)))
  · subst q
    exact fl_206 (tz_212 14 (by decide) (by rw [lf_wlI]; decide +kernel) h (by decide) (by decide) i0 i1 (P (by decide) (by decide) (by decide +kernel) (by decide +kernel) (by decide +kernel) (by decide +kernel) (by decide +kernel)))
  · subst q
    exact fl_206 (tz_212 14 (by decide) (by rw [lf_wlI]; decide +kernel) h (by decide) (by decide) i0 i1 (P (by decide) (by decide) (by decide +kernel) (by decide +kernel) (by decide +kernel) (by decide +kernel) (by decide +kernel)))
  · subst q
    exact fl_206 (tz_212 15 (by decide) (by rw [lf_wlI]; decide +kernel) h (by decide) (by decide) i0 i1 (P (by decide) (by decide) (by decide +kernel) (by decide +kernel) (by decide +kernel) (by decide +kernel) (by decide +kernel)))
  · subst q
    exact fl_206 (tz_212 15 (by decide) (by rw [lf_wlI]; decide +kernel) h (by decide) (by decide) i0 i1 (P (by decide) (by decide) (by decide +kernel) (by decide +kernel) (by decide +kernel) (by decide +kernel) (by decide +kernel)))
  · subst q
    exact fl_206 (tz_212 14 (by decide) (by rw [lf_wlI]; decide +kernel) h (by decide) (by decide) i0 i1 (P (by decide) (by decide) (by decide +kernel) (by decide +kernel) (by decide +kernel) (by decide +kernel) (by decide +kernel)))
  · subst q
    exact tz_213 h (by decide) (by omega) (by omega) (P0 (by decide) (by decide +kernel) (by decide +kernel) (by decide +kernel) rfl rfl)
  · subst q
    exact tz_213 h (by decide) (by omega) (by omega) (P0 (by decide) (by decide +kernel) (by decide +kernel) (by decide +kernel) rfl rfl)
  · subst q
    exact fl_206 (tz_212 16 (by decide) (by rw [lf_wlI]; decide +kernel) h (by decide) (by decide) i0 i1 (P (by decide) (by decide) (by decide +kernel) (by decide +kernel) (by decide +kernel) (by decide +kernel) (by decide +kernel)))
  · subst q
    exact tz_213 h (by decide) (by omega) (by omega) (P0 (by decide) (by decide +kernel) (by decide +kernel) (by decide +kernel) rfl rfl)
end RT
/-! the reference's clauses and texts: what they write -/
section RY
variable {f : Int → Int} {n law a b b' c k i x : Int} {P : ln_P} {o : List (Int × Int)} {s t z u : lf_Z} {r : Int × Int} {D : List Int} {F G : Int → Int}
/-- the text at a holds the clauses D -/
def rs_F (f : Int → Int) (n : Int) (F : Int → Int) (a : Int) (o : List (Int × Int)) (D : List Int) : Prop := F a = (D.length : Int) ∧ ∀ (i : Nat) (b : Int), D[i]? = some b → F (a + 1 + 4 * i) = lx_T f n b - 20
  ∧ (22 < lx_T f n b → F (a + 1 + 4 * i + 1) = cs_v f n b ∧ (tx_sh ((lx_T f n b - 23) * 5 + 2) ≠ 0 → F (a + 1 + 4 * i + 2) = cs_x f n b))
  ∧ (lx_T f n b ≤ 22 → ∃ (m : Nat) (o2 : List (Int × Int)), F (a + 1 + 4 * i + 1) = m ∧ F (a + 1 + 4 * i + 2) = o2.length ∧ (∃ w, o = w ++ o2) ∧ rs_V f n (lx_T f n b - 20) (ds_ad f n b) m o2)
def rs_W (f : Int → Int) (n a : Int) (D : List Int) (b : Int) : tz_T := fun F o => rs_F f n F a o D ∧ D.length ≤ 24 ∧ (o.length : Int) ≤ b ∧ b ≤ n
theorem rs_add {m : Int} (hx : x = lx_T f n b - 20) (x0 : 0 ≤ x) (hm : m = D.length) (m24 : m < 24) (hT : lx_T f n b' = 16) (hb : 2 < x → ds_ad f n b ≤ b') (h : tz_1 a (m + 1) (tz_c f n x a (a + 1 + 4 * m) (ds_ad f n b) b' (tz_1 (a + 1 + 4 * m) x (rs_W f n a D b))) F o) : rs_W f n a (D ++ [b]) (ds_ad f n b') F o := by
  obtain ⟨F1, ⟨hs, hd⟩, eF⟩ := h
  have t' := (cz_ad (f := f) (n := n) (b := b') (by omega))
  have tb := lm_ad0 (f := f) (n := n) (b := b)
  have len : ((D ++ [b]).length : Int) = m + 1 := by rw [List.length_append, List.length_singleton]; omega
  have fa : F a = m + 1 := by rw [eF]; exact if_pos rfl
  have fo : ∀ j : Int, j ≠ a → F j = F1 j := fun j hj => by rw [eF]; exact if_neg hj
  -- what came before, and the new clause
  have key : ∀ (G0 : Int → Int) (o1 : List (Int × Int)), rs_W f n a D b G0 o1 → (∃ w, o = w ++ o1) → (∀ j : Int, a < j → j < a + 97 → j ≠ a + 1 + 4 * m → j ≠ a + 1 + 4 * m + 1 → j ≠ a + 1 + 4 * m + 2 → F1 j = G0 j) → F1 (a + 1 + 4 * m) = x → (o.length : Int) ≤ b'
      → (22 < lx_T f n b → F1 (a + 1 + 4 * m + 1) = cs_v f n b ∧ (tx_sh ((lx_T f n b - 23) * 5 + 2) ≠ 0 → F1 (a + 1 + 4 * m + 2) = cs_x f n b))
      → (lx_T f n b ≤ 22 → ∃ (mm : Nat) (o2 : List (Int × Int)), F1 (a + 1 + 4 * m + 1) = mm ∧ F1 (a + 1 + 4 * m + 2) = o2.length ∧ (∃ w, o = w ++ o2) ∧ rs_V f n (lx_T f n b - 20) (ds_ad f n b) mm o2) → rs_W f n a (D ++ [b]) (ds_ad f n b') F o := by
    intro G0 o1 ⟨⟨g1, g2⟩, g3, g4, g5⟩ ⟨w, hw⟩ same fx fl n1 n2
    refine ⟨⟨by rw [fa, len], fun i y hy => ?_⟩, by omega, by omega, t'.2⟩
    rw [fo _ (by omega), fo _ (by omega), fo _ (by omega)]
    rcases cs_at hy with q | ⟨q, ey⟩
    · have il := cs_lt q
      rw [same _ (by omega) (by omega) (by omega) (by omega) (by omega), same _ (by omega) (by omega) (by omega) (by omega) (by omega), same _ (by omega) (by omega) (by omega) (by omega) (by omega)]
      obtain ⟨y1, y2, y3⟩ := g2 i y q
      refine ⟨y1, y2, fun y22 => ?_⟩
      obtain ⟨mm, o2, z1, z2, ⟨w2, z3⟩, z4⟩ := y3 y22
      exact ⟨mm, o2, z1, z2, ⟨w ++ w2, by rw [hw, z3, List.append_assoc]⟩, z4⟩
    · rw [show a + 1 + 4 * (i : Int) = a + 1 + 4 * m by omega, ey]
      exact ⟨by rw [fx]; exact hx, n1, n2⟩
  by_cases q : x ≤ 2
  · obtain ⟨G, o1, ⟨G0, hW, eG⟩, s1, s2, s3, s4⟩ := hs q
    obtain ⟨hw, hl, hV⟩ := s4 hT
    have lo := hW.2.2.1
    refine key G0 o1 hW hw (fun j j0 j1 j2 j3 j4 => ?_) ?_ (by omega) (fun w => by omega) (fun _ => ⟨o1.length, o, s1, s2, ⟨[], rfl⟩, by rw [← hx]; exact hV⟩)
    · rw [s3 j j1 j3 j4, eG]; exact if_neg j2
    · rw [s3 _ (by omega) (by omega) (by omega), eG]; exact if_pos rfl
  · obtain ⟨G, ⟨G0, hW, eG⟩, s1, s2, s3⟩ := hd (by omega)
    have lo := hW.2.2.1
    have hb := hb (by omega)
    refine key G0 o hW ⟨[], rfl⟩ (fun j j0 j1 j2 j3 j4 => ?_) ?_ (by omega) (fun w => ⟨?_, fun w2 => ?_⟩) (fun w => by omega)
    · rw [s1 j j3 j4, eG]; exact if_neg j2
    · rw [s1 _ (by omega) (by omega), eG]; exact if_pos rfl
    · rw [s2]; unfold cs_v; rw [if_pos w]
    · rw [s3 (by rw [show (20 : Int) + x - 23 = lx_T f n b - 23 by omega]; exact w2)]; unfold cs_x; rw [if_pos ⟨w, w2⟩]
theorem tz_ca {m : Int} (hm : m = D.length) (m24 : m < 24) (m0 : 0 ≤ m) (h : tz_c f n x a (a + 1 + 4 * m) c b' (tz_1 (a + 1 + 4 * m) k (rs_W f n a D b)) F o) : F a = m := by
  by_cases q : x ≤ 2
  · obtain ⟨G, o1, ⟨G0, hW, eG⟩, s1, s2, s3, s4⟩ := h.1 q
    rw [s3 a (by omega) (by omega) (by omega), eG]
    exact (if_neg (by omega)).trans (hW.1.1.trans hm.symm)
  · obtain ⟨G, ⟨G0, hW, eG⟩, s1, s2, s3⟩ := h.2 (by omega)
    rw [s1 a (by omega) (by omega), eG]
    exact (if_neg (by omega)).trans (hW.1.1.trans hm.symm)
theorem tz_202 {Q : Int → lf_Z → Prop} (h : tz_S z a (rs_W f n a D b) f n b s) (hn : n ≤ 300) (kk : ∀ (r : Int × Int) (t : lf_Z), tz_Q z a (rs_W f n a (D ++ [b]) r.2) f n r t → (r.1 = 0 → r = ds_cl f n tx_g0 b) → Q r.1 t) : fw_202 Q s := by
  have bad : ∀ w : Int, w ≠ 0 → Q w s := fun w hw => kk (w, b) s ⟨h.1, fun q => absurd q hw⟩ (fun q => absurd q hw)
  have x12 : s.1 95 12 = a := h.2.2.1
  obtain ⟨o0, _, _, hW0⟩ := h.2.2.2
  have x98 : s.1 98 a = (D.length : Int) := hW0.1.1
  have p65 : ∀ (x : Int) (u : lf_Z), tz_S z a (rs_W f n a D b) f n b u → (D.length : Int) < 24 → x = lx_T f n b - 20 → 0 ≤ x → x ≤ 12 → fw_202_p65 Q x (D.length : Int) u := by
    intro x u hu m24 ex e0 e1
    have ecl : ds_cl f n tx_g0 b = ds_bd (tn_bd f n x (ds_ad f n b)) (ds_ex f n 16) := by
      unfold ds_cl tn_bd
      by_cases q : 2 < x
      · rw [if_pos q, if_pos (by omega), show (20 : Int) + x = lx_T f n b by omega]
      · rw [if_neg q, if_neg (by omega), ex]; rfl
    unfold fw_202_p65
    refine tz_nx (tz_95 (v := x) hu (Or.inl rfl)) (fun t ht t95 tq => ?_)
    rw [ht.2.2.1]
    intro _
    have h4 := tz_98 (v := x) ht (show a ≤ a + 1 + 4 * (D.length : Int) by omega) (by omega)
    have l4 : ((lf_up t.1 98 (a + 1 + 4 * (D.length : Int)) x, t.2.1, t.2.2) : lf_Z).1 95 14 = x := (zu_c (by decide)).trans ((t95 14 (by omega)).trans zu_s)
    refine tz_211 h4 hn l4 e0 e1 (by omega) (by omega) (fun y hy => ?_)
    obtain ⟨yL, yS⟩ := hy
    intro _
    refine ⟨fun q _ _ => ?_, fun q => ?_⟩
    · have yS := yS q
      have KT := la_Bk yS.2.1
      unfold la_kt at KT
      have y12 : y.1 95 12 = a := yS.2.2.1
      have ya : y.1 98 a = (D.length : Int) := by
        obtain ⟨o', _, _, hc⟩ := yS.2.2.2
        exact tz_ca rfl m24 (by omega) hc
      rw [y12, ya]
      have hy2 := tz_98 (i := a) (v := (D.length : Int) + 1) yS (Int.le_refl a) (by omega)
      refine ⟨fun w => tz_nx hy2 (fun g hg _ _ => ?_), fun w => ?_⟩
      · have T16 : lx_T f n (tn_bd f n x (ds_ad f n b)).2 = 16 := by omega
        have cl : ds_cl f n tx_g0 b = (0, ds_ad f n (tn_bd f n x (ds_ad f n b)).2) := by
          rw [ecl, ds_bd0 q]
          exact if_pos T16
        refine kk (0, ds_ad f n (tn_bd f n x (ds_ad f n b)).2) g ⟨hg.1, fun _ => tz_m hg (fun F o hF _ => rs_add ex e0 rfl m24 T16 (fun x2 => ?_) hF)⟩ (fun _ => cl.symm)
        have e : tn_bd f n x (ds_ad f n b) = ds_deed f n (20 + x) (ds_ad f n b) := if_pos x2
        rw [e] at q ⊢
        exact ds_deedZ q
      · exact kk (1, b) _ ⟨hy2.1, fun c => absurd c (show (1 : Int) ≠ 0 by decide)⟩ (fun c => absurd c (show (1 : Int) ≠ 0 by decide))
    · exact kk ((tn_bd f n x (ds_ad f n b)).1, b) y ⟨yL, fun c => absurd c q⟩ (fun c => absurd c q)
  have p29 : ∀ x : Int, x = lx_T f n b - 20 → 0 ≤ x → x ≤ 12 → fw_202_p29 Q x s := by
    intro x ex e0 e1
    unfold fw_202_p29
    rw [x12, x98]
    intro _ _
    have l24 := hW0.2.1
    exact ⟨fun q _ => ⟨fun q2 => p65 x s h (by omega) ex e0 e1, fun q2 => p65 x _ (tz_95 h (Or.inr rfl)) (by omega) ex e0 e1⟩, fun q => bad 6 (by decide)⟩
  unfold fw_202
  refine fl_203 h.2.1 (fun x hx => ?_)
  intro _
  by_cases c : 20 ≤ lx_T f n b ∧ lx_T f n b ≤ 32
  · rw [if_pos c] at hx
    refine ⟨fun _ => ⟨fun q => p29 x hx (by omega) (by omega), fun q => ?_⟩, fun q => by omega⟩
    unfold fw_210
    exact ⟨fun y => ⟨fun _ => p29 x hx (by omega) (by omega), fun g => (by cases g)⟩, fun y => ⟨fun g => (by cases g), fun _ => bad 4 (by decide)⟩⟩
  · rw [if_neg c] at hx
    exact ⟨fun q => by omega, fun _ => bad 1 (by decide)⟩
/-- a text that the reference holds at a -/
def rs_X (f : Int → Int) (n : Int) (F : Int → Int) (a : Int) (D : List Int) : Prop := ∃ o : List (Int × Int), ln_ou F (a + 97) o ∧ rs_F f n F a o D ∧ D.length ≤ 24 ∧ (o.length : Int) ≤ 300
theorem tz_196 {Q : Int → lf_Z → Prop} {a : Int} (ea : a = 705 * s.1 96 7) (h0 : 0 ≤ s.1 95 4) (hn : s.1 95 4 ≤ 300) (hb : cl_tp (s.1 99) (s.1 95 4)) (kk : ∀ (v : Int) (t : lf_Z), tz_L s a t → (v = 0 → rs_X (s.1 99) (s.1 95 4) (t.1 98) a (tx_ps (s.1 99) (s.1 95 4) tx_g0 301 (lx_sk (s.1 99) (s.1 95 4) 0))) → Q v t) : fw_196 Q s := by
  unfold fw_196
  intro _
  generalize hf : s.1 99 = f at hb kk
  generalize hnn : s.1 95 4 = n at h0 hn hb kk
  rw [← ea]
  obtain ⟨u, hu⟩ : ∃ u : lf_Z, u = (lf_up (lf_up (lf_up (lf_up (lf_up s.1 95 12 a) 98 a 0) 95 13 0) 95 24 0) 95 7 0, s.2.1, s.2.2) := ⟨_, rfl⟩
  rw [← hu]
  have u95 : ∀ i : Int, i ≠ 7 → i ≠ 12 → i ≠ 13 → i ≠ 24 → u.1 95 i = s.1 95 i := fun i h7 h12 h13 h24 => by rw [hu]; exact (zu_i h7).trans ((lf_up_i h24).trans ((lf_up_i h13).trans ((lf_up_c (by decide)).trans (lf_up_i h12))))
  have uq : ∀ q : Nat, q ≠ 95 → q ≠ 98 → u.1 q = s.1 q := fun q h1 h2 => by rw [hu]; exact (zu_r h1).trans ((lf_up_row h1).trans ((lf_up_row h1).trans ((lf_up_row h2).trans (lf_up_row h1))))
  have u7 : u.1 95 7 = 0 := by rw [hu]; exact zu_s
  have u12 : u.1 95 12 = a := by rw [hu]; exact (zu_i (by decide)).trans ((lf_up_i (by decide)).trans ((lf_up_i (by decide)).trans ((lf_up_c (by decide)).trans lf_up_s)))
  have u13 : u.1 95 13 = 0 := by rw [hu]; exact (zu_i (by decide)).trans ((lf_up_i (by decide)).trans lf_up_s)
  have u98 : ∀ j : Int, u.1 98 j = if j = a then 0 else s.1 98 j := fun j => by
    rw [hu]
    refine (zu_c (by decide)).trans ((lf_up_c (by decide)).trans ((lf_up_c (by decide)).trans ?_))
    by_cases q : j = a
    · rw [if_pos q, q]; exact lf_up_s
    · rw [if_neg q]; exact (lf_up_i q).trans (lf_up_c (by decide))
  have uP : u.2.2 = s.2.2 := by rw [hu]
  have uf : u.1 99 = f := (uq 99 (by decide) (by decide)).trans hf
  have un : u.1 95 4 = n := (u95 4 (by decide) (by decide) (by decide) (by decide)).trans hnn
  have uF : tn_F s u := ⟨fun q a1 a2 _ _ _ _ => uq q a1 a2, fun i c d => u95 i (by omega) (by omega) (by omega) (by omega), uP⟩
  refine fl_197 (by rw [u7]; exact Int.le_refl 0) (by rw [uf, un]; exact hb) (fun t tF tA => ?_)
  obtain ⟨f1, f2, f3⟩ := tF
  rw [uf, un, u7] at tA
  have t95 : ∀ i : Int, ¬ (7 ≤ i ∧ i ≤ 10) → t.1 95 i = u.1 95 i := fun i hi => f2 i (by omega) (by omega) (by omega) (by omega)
  have e98 : t.1 98 = u.1 98 := f1 98 (by decide)
  have tL : tz_L s a t := ⟨tn_Ft uF ⟨fun q a1 _ _ _ _ _ => f1 q a1, fun i c d => t95 i (by omega), f3⟩, fun j hj => by rw [e98, u98]; exact if_neg (by omega)⟩
  have tS : tz_S s a (rs_W f n a [] (lx_sk f n 0)) f n (lx_sk f n 0) t := ⟨tL, ⟨(f1 99 (by decide)).trans uf, (t95 4 (by omega)).trans un, tA, lx_runB, hb⟩, (t95 12 (by omega)).trans u12, [], (t95 13 (by omega)).trans u13, trivial, ⟨by rw [e98, u98]; exact if_pos rfl, fun i y hy => by cases hy⟩, by decide, lx_runB, lx_runN h0⟩
  refine ⟨fun t => ∃ (b : Int) (D : List Int), tz_S s a (rs_W f n a D b) f n b t ∧ D ++ tx_ps f n tx_g0 (301 - D.length) b = tx_ps f n tx_g0 301 (lx_sk f n 0), ?_, ⟨_, [], tS, rfl⟩⟩
  intro t ⟨b, D, tS, hl⟩
  have KT := la_Bk tS.2.1
  unfold la_kt at KT
  obtain ⟨o, _, ho, hW⟩ := tS.2.2.2
  have l24 := hW.2.1
  rw [show 301 - D.length = (300 - D.length) + 1 by omega] at hl
  unfold fw_196_p44
  intro _
  refine ⟨fun q => ?_, fun q => ?_⟩
  · have e : tx_ps f n tx_g0 ((300 - D.length) + 1) b = [] := if_pos (by omega)
    rw [e, List.append_nil] at hl
    rw [← hl] at kk
    exact kk 0 t tS.1 (fun _ => ⟨o, ho, hW.1, l24, by have := hW.2.2; omega⟩)
  · have e : tx_ps f n tx_g0 ((300 - D.length) + 1) b = b :: tx_ps f n tx_g0 (300 - D.length) (ds_cl f n tx_g0 b).2 := if_neg (by omega)
    rw [e] at hl
    refine tz_202 tS hn (fun r w hw hr => ?_)
    intro _
    refine ⟨fun y => ⟨r.2, D ++ [b], hw.2 y, ?_⟩, fun y => kk _ w hw.1 (fun c => absurd c y)⟩
    rw [hr y, List.length_append, List.length_singleton, show 301 - (D.length + 1) = 300 - D.length by omega, List.append_assoc]
    exact hl
theorem tz_195 {Q : Int → lf_Z → Prop} (h0 : 0 ≤ s.1 95 4) (hn : s.1 95 4 ≤ 300) (hb : cl_tp (s.1 99) (s.1 95 4)) (k4 : s.1 96 7 = 4 → Q (-1) s) (kk : s.1 96 7 ≠ 4 → ∀ (w : Int) (t : lf_Z), (∀ j : Int, j < 705 * s.1 96 7 → t.1 98 j = s.1 98 j) → (w ≠ -1 → w = s.1 96 7 ∧ rs_X (s.1 99) (s.1 95 4) (t.1 98) (705 * s.1 96 7) (tx_ps (s.1 99) (s.1 95 4) tx_g0 301 (lx_sk (s.1 99) (s.1 95 4) 0))) → Q w t) : fw_195 Q s := by
  unfold fw_195
  intro _
  refine ⟨fun c => tz_196 rfl h0 hn hb (fun v t tL tX => ?_), fun c => k4 (Classical.not_not.mp c)⟩
  have kk := kk c
  have t96 : t.1 96 = s.1 96 := tL.1.1 96 (by decide) (by decide) (by decide) (by decide) (by decide) (by decide)
  intro _
  have e5 : ∀ {x : Int}, ((lf_up t.1 95 5 x, t.2.1, t.2.2) : lf_Z).1 95 5 = x := zu_s
  have e96 : ∀ {x : Int}, ((lf_up t.1 95 5 x, t.2.1, t.2.2) : lf_Z).1 96 = t.1 96 := zu_r (by decide)
  refine ⟨fun y => ?_, fun y => ?_⟩
  · unfold fw_195_p37
    rw [e5]
    intro _
    refine ⟨fun w => absurd w y, fun _ => kk _ _ (fun j hj => ?_) (fun w => absurd rfl w)⟩
    exact (zu_c (by decide)).trans ((lf_up_c (by decide)).trans ((zu_c (by decide)).trans (tL.2 j hj)))
  · have y := Classical.not_not.mp y
    unfold fw_195_p37
    rw [e5, e96, t96]
    intro _
    refine ⟨fun _ => kk _ _ (fun j hj => ?_) (fun _ => ⟨by omega, ?_⟩), fun w => absurd y w⟩
    · exact (zu_c (by decide)).trans ((lf_up_c (by decide)).trans ((lf_up_c (by decide)).trans ((zu_c (by decide)).trans (tL.2 j hj))))
    · have e : ∀ x y z w : Int, ((lf_up (lf_up (lf_up (lf_up t.1 95 5 x) 95 6 y) 95 4 z) 96 7 w) : Nat → Int → Int) 98 = t.1 98 := fun x y z w => (lf_up_row (by decide)).trans ((lf_up_row (by decide)).trans ((lf_up_row (by decide)).trans (lf_up_row (by decide))))
      have X := tX y
      rw [← e v (-1) 0 (s.1 96 7 + 1)] at X
      exact X
end RY
/-! the laws of a text: what they say in the class, in the reference -/
section LW
variable {f : Int → Int} {n l a b : Int} {s t u : lf_Z} {D D1 D2 : List Int} {T N M : Int → Int} {I : Nat → Int → Int} {P : Nat → Option Nat} {k : Nat}
/-- the clause of a law -/
def lw_f (f : Int → Int) (n l : Int) : List Int → Option Int
  | [] => none
  | b :: D => if lx_T f n b = l + 20 then some b else lw_f f n l D
theorem lw_fS : ∀ D : List Int, lw_f f n l D = some b → b ∈ D ∧ lx_T f n b = l + 20 := by
  intro D
  induction D with
  | nil => intro h; cases h
  | cons x D ih =>
    intro h
    have h : (if lx_T f n x = l + 20 then some x else lw_f f n l D) = some b := h
    by_cases q : lx_T f n x = l + 20
    · rw [if_pos q] at h
      have e : x = b := Option.some.inj h
      exact ⟨by rw [e]; exact List.mem_cons_self, by rw [← e]; exact q⟩
    · rw [if_neg q] at h
      exact ⟨List.mem_cons_of_mem _ (ih h).1, (ih h).2⟩
theorem lw_fN : ∀ D : List Int, lw_f f n l D = none → ∀ b ∈ D, lx_T f n b ≠ l + 20 := by
  intro D
  induction D with
  | nil => intro _ b hb; cases hb
  | cons x D ih =>
    intro h b hb
    have h : (if lx_T f n x = l + 20 then some x else lw_f f n l D) = none := h
    by_cases q : lx_T f n x = l + 20
    · rw [if_pos q] at h; cases h
    · rw [if_neg q] at h
      rcases List.mem_cons.mp hb with e | e
      · rw [e]; exact q
      · exact ih h b e
def lw_v (f : Int → Int) (n l b : Int) (N : Int → Int) : Int := (dv_T f n l N 200).1 0 tx_g0 (fun _ => 0) (ds_ad f n b)
def lw_1 (f : Int → Int) (n l lo hi : Int) (d : (Int → Int) → Int) (D : List Int) (N : Int → Int) : Int := match lw_f f n l D with
  | none => d N
  | some b => max lo (min hi (lw_v f n l b N))
/-- pace and takes of a text -/
def lw_X (f : Int → Int) (n : Int) (D : List Int) : mn_X := (lw_1 f n 0 0 2 (fun _ => 1) D, lw_1 f n 1 0 10 (fun N => if 0 < N 6 then 0 else 5) D)
/-- without a text -/
def lw_X0 : mn_X := (fun _ => 1, fun N => if 0 < N 6 then 0 else 5)
theorem lw_B1 {lo hi : Int} {d : (Int → Int) → Int} (h : lo ≤ hi) (hd : lo ≤ d N ∧ d N ≤ hi) : lo ≤ lw_1 f n l lo hi d D N ∧ lw_1 f n l lo hi d D N ≤ hi := by
  unfold lw_1
  split
  · exact hd
  · omega
theorem lw_XB : (∀ N, 0 ≤ (lw_X f n D).1 N ∧ (lw_X f n D).1 N ≤ 2) ∧ ∀ N, 0 ≤ (lw_X f n D).2 N ∧ (lw_X f n D).2 N ≤ 10 :=
  ⟨fun N => lw_B1 (d := fun _ => 1) (show (0 : Int) ≤ 2 by decide) ⟨(show (0 : Int) ≤ 1 by decide), (show (1 : Int) ≤ 2 by decide)⟩, fun N => lw_B1 (d := fun N => if 0 < N 6 then 0 else 5) (show (0 : Int) ≤ 10 by decide) (by show 0 ≤ (if 0 < N 6 then (0 : Int) else 5) ∧ (if 0 < N 6 then (0 : Int) else 5) ≤ 10; split <;> omega)⟩
theorem lw_XB0 : (∀ N, 0 ≤ lw_X0.1 N ∧ lw_X0.1 N ≤ 2) ∧ ∀ N, 0 ≤ lw_X0.2 N ∧ lw_X0.2 N ≤ 10 :=
  ⟨fun N => ⟨(show (0 : Int) ≤ 1 by decide), (show (1 : Int) ≤ 2 by decide)⟩, fun N => by unfold lw_X0; dsimp only; split <;> omega⟩
/-- names that stand in a law, by both numbers -/
theorem lw_nm {l : Nat} {t : Int} (hl : l < 3) (ht : t = 24 ∨ (47 ≤ t ∧ t ≤ 56)) (h : ds_nm l (cc_ix t) = true) : la_of (la_nm t) l = true ∧ ((la_nm t = 9 ∧ cc_ix t = 10) ∨ (la_nm t = 10 ∧ cc_ix t = 9) ∨ (0 ≤ la_nm t ∧ la_nm t < 9 ∧ cc_ix t = la_nm t)) := by
  obtain ⟨e1, e2, e3⟩ := la_ofE l hl
  obtain ⟨b1, b2, b3, b4⟩ := la_nmB t
  unfold cc_ix at h ⊢
  rcases ht with q | q
  · rw [if_pos q] at h ⊢
    rw [b2 q]
    exact ⟨e1.symm.trans h, Or.inl ⟨rfl, rfl⟩⟩
  · rw [if_neg (by omega)] at h ⊢
    by_cases w : t = 56
    · subst w
      rw [b3 rfl]
      exact ⟨e2.symm.trans h, Or.inr (Or.inl ⟨rfl, rfl⟩)⟩
    · rw [b4 ⟨q.1, by omega⟩]
      obtain ⟨x, hx⟩ := Int.eq_ofNat_of_zero_le (show 0 ≤ t - 47 by omega)
      rw [hx] at h ⊢
      exact ⟨(e3 x (by omega)).symm.trans h, Or.inr (Or.inr ⟨by omega, by omega, rfl⟩)⟩
theorem lw_of0 {x : Int} (h : la_of x 0 = true) (h9 : x = 9 ∨ x = 10 ∨ (0 ≤ x ∧ x < 9)) : 0 ≤ x ∧ x ≤ 4 := by
  unfold la_of at h
  by_cases c : x < 4
  · omega
  · rw [decide_eq_false c, Bool.false_or] at h
    by_cases d : x = 4
    · omega
    · rw [if_neg d] at h
      by_cases e : x = 10
      · rw [if_pos e] at h; exact absurd (of_decide_eq_true h) (by decide)
      · rw [if_neg e] at h; exact absurd (of_decide_eq_true h) (by decide)
theorem lw_of1 {x : Int} (h : la_of x 1 = true) (h9 : x = 9 ∨ x = 10 ∨ (0 ≤ x ∧ x < 9)) : 0 ≤ x ∧ x ≤ 9 ∧ x ≠ 4 := by
  unfold la_of at h
  by_cases c : x < 4
  · omega
  · rw [decide_eq_false c, Bool.false_or] at h
    by_cases d : x = 4
    · rw [if_pos d] at h; exact absurd (of_decide_eq_true h) (by decide)
    · rw [if_neg d] at h
      by_cases e : x = 10
      · rw [if_pos e] at h; exact absurd (of_decide_eq_true h) (by decide)
      · omega
theorem lw_cN0 (h : xc_n0 N M) (hN : cm_nm N) : cc_N 0 N M := by
  intro t ht hd
  obtain ⟨h1, h2⟩ := lw_nm (l := 0) (by decide) ht hd
  have r := lw_of0 h1 (by omega)
  refine ⟨?_, hN _ (by omega) (by omega)⟩
  rw [show cc_ix t = la_nm t by omega]
  exact h _ r.1 r.2
theorem lw_cN1 (h : xc_n1 N M) (hN : cm_nm N) : cc_N 1 N M := by
  intro t ht hd
  obtain ⟨h1, h2⟩ := lw_nm (l := 1) (by decide) ht hd
  have r := lw_of1 h1 (by omega)
  refine ⟨?_, hN _ (by omega) (by omega)⟩
  rcases h2 with q | q | q
  · rw [q.1, q.2]; exact h.2
  · omega
  · rw [q.2.2]; exact h.1 _ (by omega) (by omega) (by omega)
theorem lw_name {l : Nat} (h : (ds_name f n l b).1 = 0) : (lx_T f n b = 24 ∨ (47 ≤ lx_T f n b ∧ lx_T f n b ≤ 56)) ∧ ds_nm l (cc_ix (lx_T f n b)) = true := by
  unfold ds_name at h
  unfold cc_ix
  by_cases c : lx_T f n b = 24
  · rw [if_pos c] at h ⊢
    refine ⟨Or.inl c, ?_⟩
    by_cases d : ds_nm l 10 = true
    · exact d
    · rw [if_neg d] at h; exact absurd h (show (5 : Int) ≠ 0 by decide)
  · rw [if_neg c] at h ⊢
    by_cases e : 47 ≤ lx_T f n b ∧ lx_T f n b ≤ 56
    · rw [if_pos e] at h
      refine ⟨Or.inr e, ?_⟩
      by_cases d : ds_nm l (lx_T f n b - 47) = true
      · exact d
      · rw [if_neg d] at h; exact absurd h (show (5 : Int) ≠ 0 by decide)
    · rw [if_neg e] at h; exact absurd h (show (1 : Int) ≠ 0 by decide)
theorem lw_rN0 (h : xr_n0 N M) (hN : cm_nm N) : rs_N f n 0 M N := by
  intro b hb
  obtain ⟨ht, hd⟩ := lw_name (l := 0) hb
  obtain ⟨h1, h2⟩ := lw_nm (l := 0) (by decide) ht hd
  have r := lw_of0 h1 (by omega)
  exact ⟨hN _ (by omega) (by omega), h _ (by omega) (by omega)⟩
theorem lw_rN1 (h : xr_n1 N M) (hN : cm_nm N) : rs_N f n 1 M N := by
  intro b hb
  obtain ⟨ht, hd⟩ := lw_name (l := 1) hb
  obtain ⟨h1, h2⟩ := lw_nm (l := 1) (by decide) ht hd
  have r := lw_of1 h1 (by omega)
  exact ⟨hN _ (by omega) (by omega), h _ (by omega) (by omega) (by omega)⟩
/-- a law of the class's script -/
theorem xc_of1 {R : (Int → Int) → (Int → Int) → Prop} (hk : k < 4) (hR : ∀ N M, R N M → cm_nm N → cc_N l N M) (h3 : I (38 + 7 * k) l ≤ 300) (hL : cs_L f n tx_g0 (fun c => I (35 + c)) k l b) : xc_A k l R (lw_v f n l b) I := by
  intro u Q N e hRN hN q
  obtain ⟨⟨a1, a2, a3, a4⟩, hc⟩ := hL
  dsimp only at a1 a2 a4 hc
  rw [show 35 + (2 + 7 * k) = 37 + 7 * k by omega] at a1 a2 a4 hc
  rw [show 35 + (3 + 7 * k) = 38 + 7 * k by omega] at a2 a4 hc
  rw [show 35 + (7 * k + 1) = 36 + 7 * k by omega] at hc
  rw [← e _ (Or.inr (Or.inl rfl))] at a1 a2 a4 hc
  rw [← e _ (Or.inr (Or.inr rfl))] at a2 a4 hc h3
  rw [← e _ (Or.inl rfl)] at hc
  obtain ⟨_, k2, L', h1, h2, _⟩ := hc.2 N (u.1 64) (fun _ => 0) (u.1 65) [] (hR _ _ hRN hN) (fun x _ _ hx => absurd rfl hx)
  exact fl_84b hk a1 h3 (by omega) h2 (fun t tf => q _ t tf.1 tf.2 rfl)
theorem xc_of (hk : k < 4) (hP : P 3 = some k) (h3 : I (35 + 7 * k) 1 ≤ 300) (hF : cs_F f n tx_g0 (fun c => I (35 + c)) k D) : xc_X (lw_X f n D) I P := by
  obtain ⟨⟨_, c0⟩, _, hl⟩ := hF
  have e2 : ∀ l : Int, (fun c : Nat => I (35 + c)) (2 + 7 * k) l = I (37 + 7 * k) l := fun l => by
    show I (35 + (2 + 7 * k)) l = _
    rw [show 35 + (2 + 7 * k) = 37 + 7 * k by omega]
  have no : ∀ l : Int, 0 ≤ l → l < 3 → I (37 + 7 * k) l = -1 → lw_f f n l D = none := by
    intro l l0 l1 h
    cases q : lw_f f n l D with
    | none => rfl
    | some b =>
      obtain ⟨q1, q2⟩ := lw_fS D q
      have := ((hl l l0 l1).2 b q1 q2).1.1
      rw [e2, h] at this
      exact absurd this (by decide)
  have yes : ∀ l : Int, 0 ≤ l → l < 3 → I (37 + 7 * k) l ≠ -1 → ∃ b, lw_f f n l D = some b ∧ cs_L f n tx_g0 (fun c => I (35 + c)) k l b ∧ I (38 + 7 * k) l ≤ 300 := by
    intro l l0 l1 h
    cases q : lw_f f n l D with
    | none => exact absurd (((hl l l0 l1).1 (lw_fN D q)).symm.trans (e2 l)).symm h
    | some b =>
      obtain ⟨q1, q2⟩ := lw_fS D q
      have hL := (hl l l0 l1).2 b q1 q2
      refine ⟨b, rfl, hL, ?_⟩
      have a3 := hL.1.2.2.1
      have a3 : I (35 + (3 + 7 * k)) l ≤ I (35 + 7 * k) 1 := a3
      rw [show 35 + (3 + 7 * k) = 38 + 7 * k by omega] at a3
      omega
  refine ⟨fun h => (by rw [hP] at h; cases h), fun j hj => ?_⟩
  have ej : k = j := Option.some.inj (hP.symm.trans hj)
  subst ej
  refine ⟨hk, fun h N => ?_, fun h N => ?_, fun h => ?_, fun h => ?_⟩
  · show lw_1 f n 0 0 2 (fun _ => 1) D N = 1
    unfold lw_1
    rw [no 0 (by decide) (by decide) h]
  · show lw_1 f n 1 0 10 (fun N => if 0 < N 6 then 0 else 5) D N = _
    unfold lw_1
    rw [no 1 (by decide) (by decide) h]
  · obtain ⟨b, q1, q2, q3⟩ := yes 0 (by decide) (by decide) h
    refine ⟨lw_v f n 0 b, xc_of1 hk (fun _ _ => lw_cN0) q3 q2, fun N => ?_⟩
    show lw_1 f n 0 0 2 (fun _ => 1) D N = _
    unfold lw_1
    rw [q1]
  · obtain ⟨b, q1, q2, q3⟩ := yes 1 (by decide) (by decide) h
    refine ⟨lw_v f n 1 b, xc_of1 hk (fun _ _ => lw_cN1) q3 q2, fun N => ?_⟩
    show lw_1 f n 1 0 10 (fun N => if 0 < N 6 then 0 else 5) D N = _
    unfold lw_1
    rw [q1]
theorem xc_of0 (hP : P 3 = none) : xc_X lw_X0 I P := ⟨fun _ N => ⟨rfl, rfl⟩, fun k hk => (by rw [hP] at hk; cases hk)⟩
/-- a law asked of the reference -/
theorem fl_267 {Q : Int → lf_Z → Prop} {d hi : Int} {df : (Int → Int) → Int} (hu : 0 ≤ a) (l2 : l ≤ 2) (hh : 0 ≤ hi) (hT : rs_X f n (s.1 98) (705 * a) D) (hN : rs_N f n l (s.1 104) N) (hd : d = df N) (q : ∀ (v : Int) (w : lf_Z), tr_f s w → v = lw_1 f n l 0 hi df D N → Q v w) : fw_267 a l d hi Q s := by
  obtain ⟨o, ho, ⟨hn, hc⟩, _, _⟩ := hT
  unfold fw_267
  refine ⟨fun x5 t => t = s ∧ ∃ D1 D2 : List Int, D = D1 ++ D2 ∧ x5 = D1.length ∧ lw_f f n l D = lw_f f n l D2, ?_, ⟨rfl, [], D, rfl, rfl, rfl⟩⟩
  intro x5 t ⟨et, D1, D2, eD, ex, ef⟩
  rw [et]
  unfold fw_267_p3
  intro _
  refine ⟨fun c => absurd c (by omega), fun _ _ _ _ => ?_⟩
  rw [hn]
  have lenD : D.length = D1.length + D2.length := by rw [eD, List.length_append]
  refine ⟨fun c => ?_, fun c _ _ _ => ?_⟩
  · have e2 : D2 = [] := by
      cases D2 with
      | nil => rfl
      | cons x D2 => rw [List.length_cons] at lenD; omega
    refine q d s tr_fr ?_
    unfold lw_1
    rw [ef, e2]
    exact hd
  · cases D2 with
    | nil => rw [List.length_nil] at lenD; omega
    | cons b D2 =>
      have at_ : D[D1.length]? = some b := by rw [eD, List.getElem?_append_right (Nat.le_refl _), Nat.sub_self]; rfl
      obtain ⟨h1, h2, h3⟩ := hc D1.length b at_
      rw [ex, h1]
      refine ⟨fun g => ?_, fun g => ⟨rfl, D1 ++ [b], D2, by rw [eD, List.append_assoc]; rfl, by rw [List.length_append, List.length_singleton]; omega, ?_⟩⟩
      · obtain ⟨m, o2, g1, g2, ⟨w, g3⟩, g4⟩ := h3 (by omega)
        rw [show lx_T f n b - 20 = l by omega] at g4
        have V := g4 (s.1 104) N
        refine fl_268 (M := s.1 104) (N := N) rfl g1 g2 (ln_ouS w (by rw [← g3]; exact ho)) (fun L0 => (V L0 hN).1) (fun L0 => (V L0 hN).2) (fun t tf _ => ?_)
        have fin : ∀ v : Int, v = max 0 (min hi (lw_v f n l b N)) → Q v t := fun v hv => by
          refine q v t tf ?_
          unfold lw_1
          rw [ef, show lw_f f n l (b :: D2) = some b from if_pos (by omega)]
          exact hv
        intro _
        refine ⟨fun c1 _ => ⟨fun c2 => fin _ ?_, fun c2 => fin _ ?_⟩, fun c1 => fin _ ?_⟩
        · show (dv_T f n l N 200).1 0 tx_g0 (fun _ => 0) (ds_ad f n b) = _
          unfold lw_v; omega
        · unfold lw_v; omega
        · unfold lw_v; omega
      · rw [ef]
        exact if_neg (by omega)
theorem xr_of (hu : 0 ≤ a) (hT : rs_X f n T (705 * a) D) : xr_X (lw_X f n D) T a :=
  ⟨fun u Q N e hN sN q => fl_267 (f := f) (n := n) (D := D) (df := fun _ => 1) hu (by decide) (by decide) (by rw [e]; exact hT) (lw_rN0 hN sN) rfl q, fun u Q N d e hN sN hd q => fl_267 (f := f) (n := n) (D := D) (df := fun N => if 0 < N 6 then 0 else 5) hu (by decide) (by decide) (by rw [e]; exact hT) (lw_rN1 hN sN) hd q⟩
theorem xr_of0 (hu : a < 0) : xr_X lw_X0 T a := by
  have key : ∀ (u : lf_Z) (Q : Int → lf_Z → Prop) (l d hi : Int), Q d u → fw_267 a l d hi Q u := by
    intro u Q l d hi h
    unfold fw_267
    refine ⟨fun x5 t => t = u, ?_, rfl⟩
    intro x5 t et
    rw [et]
    unfold fw_267_p3
    intro _
    exact ⟨fun _ => h, fun c => absurd hu c⟩
  exact ⟨fun u Q N _ _ _ q => key u Q 0 1 2 (q 1 u tr_fr rfl), fun u Q N d _ _ _ hd q => key u Q 1 d 10 (q d u tr_fr hd)⟩
end LW
/-! image and back: the class -/
section BK
variable {J K : Nat → Int → Int} {F G : Nat → Int → Int} {s t u : lf_Z} {f : Int → Int} {H : List rr_H} {a b i j n : Int}
theorem bk_r {x y c : Nat} {sp dp m : Int} (h : c ≠ y) : lf_cp F x y sp dp m c = F c := by
  funext j
  unfold lf_cp
  rw [if_neg (fun q => h q.1)]
theorem bk_s {x y : Nat} {m : Int} (j0 : 0 ≤ j) (j1 : j < m) : lf_cp F x y 0 0 m y j = F x j := by
  unfold lf_cp
  rw [if_pos ⟨rfl, j0, by omega⟩, show (0 : Int) + (j - 0) = j by omega]
/-- a copy of the stand: cells a .. a + 6 of F are those of b .. b + 6 of G -/
def bk_S (F G : Nat → Int → Int) (x y : Nat) : Prop := (∀ j : Int, 0 ≤ j → j < 4 → F (x + 1) j = G (y + 1) j ∧ F (x + 2) j = G (y + 2) j ∧ F (x + 3) j = G (y + 3) j) ∧ (∀ j : Int, 0 ≤ j → j < 6 → F (x + 4) j = G (y + 4) j ∧ F (x + 5) j = G (y + 5) j) ∧ (∀ j : Int, 0 ≤ j → j < 12 → F (x + 6) j = G (y + 6) j) ∧ F x 6 = G y 6 ∧ F x 7 = G y 7 ∧ F x 8 = G y 8
def bk_T (F G : Nat → Int → Int) (x y : Nat) : Prop := (∀ j : Int, 0 ≤ j → j < 1170 → F (x + 1) j = G (y + 1) j) ∧ (∀ j : Int, 0 ≤ j → j < 30 → F (x + 2) j = G (y + 2) j) ∧ F x 2 = G y 2 ∧ F x 3 = G y 3
/-- the stand and the steps at k cells further -/
def bk_c (k : Nat) (I : Nat → Int → Int) : Nat → Int → Int := fun c => I (c + k)
theorem bk_rS {k m : Nat} (h : rc_S (bk_c m G) f) (e : bk_S F G (15 + k) (15 + m)) : rc_S (bk_c k F) f := by
  obtain ⟨h1, h2, h3, h4, h5, h6⟩ := h
  obtain ⟨e1, e2, e3, e4, e5, e6⟩ := e
  unfold bk_c at *
  refine ⟨fun b b0 b1 => ?_, fun p p0 p1 => ?_, fun q q0 q1 => ?_, ?_, ?_, ?_⟩
  · dsimp only
    have := e1 b b0 b1
    rw [show 15 + k + 1 = 16 + k by omega, show 15 + k + 2 = 17 + k by omega, show 15 + k + 3 = 18 + k by omega, show 15 + m + 1 = 16 + m by omega, show 15 + m + 2 = 17 + m by omega, show 15 + m + 3 = 18 + m by omega] at this
    rw [this.1, this.2.1, this.2.2]; exact h1 b b0 b1
  · dsimp only
    have := e2 p p0 p1
    rw [show 15 + k + 4 = 19 + k by omega, show 15 + k + 5 = 20 + k by omega, show 15 + m + 4 = 19 + m by omega, show 15 + m + 5 = 20 + m by omega] at this
    rw [this.1, this.2]; exact h2 p p0 p1
  · dsimp only
    have := e3 q q0 q1
    rw [show 15 + k + 6 = 21 + k by omega, show 15 + m + 6 = 21 + m by omega] at this
    rw [this]; exact h3 q q0 q1
  · exact e4.trans h4
  · exact e5.trans h5
  · exact e6.trans h6
theorem bk_hs {R R' P P' : Int → Int} {lt : Int} (l0 : 0 ≤ lt) (l1 : lt < 30) (e1 : ∀ j : Int, 0 ≤ j → j < 1170 → R' j = R j) (e2 : ∀ j : Int, 0 ≤ j → j < 30 → P' j = P j) : ∀ (H : List rr_H) (k : Int), 0 ≤ k → k + H.length ≤ 30 → rc_hs R P lt H k → rc_hs R' P' lt H k := by
  intro H
  induction H with
  | nil => intro _ _ _ _; trivial
  | cons h H ih =>
    intro k k0 k1 hh
    rw [List.length_cons] at k1
    have pB : 0 ≤ rc_p lt k ∧ rc_p lt k < 30 := by unfold rc_p; split <;> omega
    refine ⟨⟨(e2 _ pB.1 pB.2).trans hh.1.1, fun j j0 j1 => (e1 _ (by omega) (by omega)).trans (hh.1.2 j j0 j1)⟩, ih (k + 1) (by omega) (by omega) hh.2⟩
theorem bk_rH {k m : Nat} (h : rc_H (bk_c m G) H) (e : bk_T F G (22 + k) (22 + m)) : rc_H (bk_c k F) H := by
  obtain ⟨h1, h2, h3, h4, h5⟩ := h
  obtain ⟨e1, e2, e3, e4⟩ := e
  unfold bk_c at *
  rw [show 22 + k + 1 = 23 + k by omega, show 22 + m + 1 = 23 + m by omega] at e1
  rw [show 22 + k + 2 = 24 + k by omega, show 22 + m + 2 = 24 + m by omega] at e2
  refine ⟨e4.trans h1, h2, by show 0 ≤ F (22 + k) 2; rw [e3]; exact h3, by show F (22 + k) 2 < 30; rw [e3]; exact h4, ?_⟩
  show rc_hs (F (23 + k)) (F (24 + k)) (F (22 + k) 2) H 0
  rw [e3]
  exact bk_hs h3 h4 e1 e2 H 0 (Int.le_refl 0) (by omega) h5
/-- image -/
theorem fl_173 {Q : Int → lf_Z → Prop} (k : ∀ t : lf_Z, (∀ c : Nat, c < 78 → t.1 c = s.1 c) → t.2 = s.2 → (t.1 78 0 = s.1 1 0 ∧ t.1 78 1 = s.1 1 1 ∧ t.1 78 2 = s.1 1 2 ∧ t.1 78 3 = s.1 0 11 ∧ t.1 78 4 = s.1 0 12) → bk_S t.1 s.1 79 15 → bk_T t.1 s.1 86 22 → Q (s.1 15 7) t) : fw_173 Q s := by
  unfold fw_173
  obtain ⟨u, hu⟩ : ∃ u : lf_Z, u = (lf_up (lf_up (lf_up (lf_up (lf_up s.1 78 0 (s.1 1 0)) 78 1 (s.1 1 1)) 78 2 (s.1 1 2)) 78 3 (s.1 0 11)) 78 4 (s.1 0 12), s.2.1, s.2.2) := ⟨_, rfl⟩
  have e1 : ∀ v : Int, (lf_up s.1 78 0 v) 1 1 = s.1 1 1 := fun v => lf_up_c (by decide)
  have uc : ∀ c : Nat, c ≠ 78 → u.1 c = s.1 c := fun c hc => by rw [hu]; exact (zu_r hc).trans ((lf_up_row hc).trans ((lf_up_row hc).trans ((lf_up_row hc).trans (lf_up_row hc))))
  have u0 : u.1 78 0 = s.1 1 0 := by rw [hu]; exact (zu_i (by decide)).trans ((lf_up_i (by decide)).trans ((lf_up_i (by decide)).trans ((lf_up_i (by decide)).trans lf_up_s)))
  have u1 : u.1 78 1 = s.1 1 1 := by rw [hu]; exact (zu_i (by decide)).trans ((lf_up_i (by decide)).trans ((lf_up_i (by decide)).trans lf_up_s))
  have u2 : u.1 78 2 = s.1 1 2 := by rw [hu]; exact (zu_i (by decide)).trans ((lf_up_i (by decide)).trans lf_up_s)
  have u3 : u.1 78 3 = s.1 0 11 := by rw [hu]; exact (zu_i (by decide)).trans lf_up_s
  have u4 : u.1 78 4 = s.1 0 12 := by rw [hu]; exact zu_s
  have uP : u.2 = s.2 := by rw [hu]
  show fw_174 _ (lf_up (lf_up (lf_up (lf_up (lf_up s.1 78 0 (s.1 1 0)) 78 1 (s.1 1 1)) 78 2 (s.1 1 2)) 78 3 (s.1 0 11)) 78 4 (s.1 0 12), s.2.1, s.2.2)
  rw [← hu]
  unfold fw_174
  generalize hV : lf_cp (lf_cp (lf_cp (lf_cp (lf_cp (lf_cp u.1 16 80 0 0 4) 17 81 0 0 4) 18 82 0 0 4) 19 83 0 0 6) 20 84 0 0 6) 21 85 0 0 12 = V
  have vc : ∀ c : Nat, c < 80 ∨ 85 < c → V c = u.1 c := fun c hc => by rw [← hV]; exact (bk_r (by omega)).trans ((bk_r (by omega)).trans ((bk_r (by omega)).trans ((bk_r (by omega)).trans ((bk_r (by omega)).trans (bk_r (by omega))))))
  have v80 : ∀ j : Int, 0 ≤ j → j < 4 → V 80 j = u.1 16 j := fun j j0 j1 => by rw [← hV, bk_r (by decide), bk_r (by decide), bk_r (by decide), bk_r (by decide), bk_r (by decide)]; exact bk_s j0 j1
  have v81 : ∀ j : Int, 0 ≤ j → j < 4 → V 81 j = u.1 17 j := fun j j0 j1 => by rw [← hV, bk_r (by decide), bk_r (by decide), bk_r (by decide), bk_r (by decide)]; exact (bk_s j0 j1).trans (by rw [bk_r (by decide)])
  have v82 : ∀ j : Int, 0 ≤ j → j < 4 → V 82 j = u.1 18 j := fun j j0 j1 => by rw [← hV, bk_r (by decide), bk_r (by decide), bk_r (by decide)]; exact (bk_s j0 j1).trans (by rw [bk_r (by decide), bk_r (by decide)])
  have v83 : ∀ j : Int, 0 ≤ j → j < 6 → V 83 j = u.1 19 j := fun j j0 j1 => by rw [← hV, bk_r (by decide), bk_r (by decide)]; exact (bk_s j0 j1).trans (by rw [bk_r (by decide), bk_r (by decide), bk_r (by decide)])
  have v84 : ∀ j : Int, 0 ≤ j → j < 6 → V 84 j = u.1 20 j := fun j j0 j1 => by rw [← hV, bk_r (by decide)]; exact (bk_s j0 j1).trans (by rw [bk_r (by decide), bk_r (by decide), bk_r (by decide), bk_r (by decide)])
  have v85 : ∀ j : Int, 0 ≤ j → j < 12 → V 85 j = u.1 21 j := fun j j0 j1 => by rw [← hV]; exact (bk_s j0 j1).trans (by rw [bk_r (by decide), bk_r (by decide), bk_r (by decide), bk_r (by decide), bk_r (by decide)])
  unfold fw_175
  dsimp only
  obtain ⟨W, hW⟩ : ∃ W, W = lf_up (lf_up (lf_up V 79 6 (V 15 6)) 79 7 (V 15 7)) 79 8 (V 15 8) := ⟨_, rfl⟩
  have wc : ∀ c : Nat, c ≠ 79 → W c = V c := fun c hc => by rw [hW]; exact (lf_up_row hc).trans ((lf_up_row hc).trans (lf_up_row hc))
  have w6 : W 79 6 = u.1 15 6 := by rw [hW]; exact (lf_up_i (by decide)).trans ((lf_up_i (by decide)).trans (lf_up_s.trans (by rw [vc 15 (by omega)])))
  have w7 : W 79 7 = u.1 15 7 := by rw [hW]; exact (lf_up_i (by decide)).trans (lf_up_s.trans (by rw [vc 15 (by omega)]))
  have w8 : W 79 8 = u.1 15 8 := by rw [hW]; exact lf_up_s.trans (by rw [vc 15 (by omega)])
  rw [← hW]
  generalize hX : lf_cp (lf_cp W 23 87 0 0 1170) 24 88 0 0 30 = X
  have xc : ∀ c : Nat, c ≠ 87 → c ≠ 88 → X c = W c := fun c c1 c2 => by rw [← hX]; exact (bk_r c2).trans (bk_r c1)
  have x87 : ∀ j : Int, 0 ≤ j → j < 1170 → X 87 j = u.1 23 j := fun j j0 j1 => by rw [← hX, bk_r (by decide)]; exact (bk_s j0 j1).trans (by rw [wc 23 (by decide), vc 23 (by omega)])
  have x88 : ∀ j : Int, 0 ≤ j → j < 30 → X 88 j = u.1 24 j := fun j j0 j1 => by rw [← hX]; exact (bk_s j0 j1).trans (by rw [bk_r (by decide), wc 24 (by decide), vc 24 (by omega)])
  unfold fw_176
  dsimp only
  obtain ⟨Y, hY⟩ : ∃ Y, Y = lf_up (lf_up X 86 2 (X 22 2)) 86 3 (X 22 3) := ⟨_, rfl⟩
  have yc : ∀ c : Nat, c ≠ 86 → Y c = X c := fun c hc => by rw [hY]; exact (lf_up_row hc).trans (lf_up_row hc)
  have y2 : Y 86 2 = u.1 22 2 := by rw [hY]; exact (lf_up_i (by decide)).trans (lf_up_s.trans (by rw [xc 22 (by decide) (by decide), wc 22 (by decide), vc 22 (by omega)]))
  have y3 : Y 86 3 = u.1 22 3 := by rw [hY]; exact lf_up_s.trans (by rw [xc 22 (by decide) (by decide), wc 22 (by decide), vc 22 (by omega)])
  rw [← hY]
  generalize hZ : lf_cp (lf_cp (lf_cp (lf_cp (lf_cp Y 26 90 0 0 6) 27 91 0 0 6) 28 92 0 0 16) 29 93 0 0 4) 30 94 0 0 4 = Z
  have zc : ∀ c : Nat, c < 90 → Z c = Y c := fun c hc => by rw [← hZ]; exact (bk_r (by omega)).trans ((bk_r (by omega)).trans ((bk_r (by omega)).trans ((bk_r (by omega)).trans (bk_r (by omega)))))
  have fc : ∀ c : Nat, c < 89 → (lf_up Z 89 2 (Z 25 2)) c = Y c := fun c hc => (lf_up_row (by omega)).trans (zc c (by omega))
  have ec : ∀ c : Nat, c < 78 → (lf_up Z 89 2 (Z 25 2)) c = s.1 c := fun c hc => by rw [fc c (by omega), yc c (by omega), xc c (by omega) (by omega), wc c (by omega), vc c (by omega), uc c (by omega)]
  have e15 : (lf_up Z 89 2 (Z 25 2)) 15 7 = s.1 15 7 := by rw [ec 15 (by omega)]
  have R : ∀ c : Nat, 79 < c → c < 86 → (lf_up Z 89 2 (Z 25 2)) c = V c := fun c c1 c2 => by rw [fc c (by omega), yc c (by omega), xc c (by omega) (by omega), wc c (by omega)]
  rw [e15]
  refine k _ ec uP ?_ ⟨fun j j0 j1 => ⟨?_, ?_, ?_⟩, fun j j0 j1 => ⟨?_, ?_⟩, fun j j0 j1 => ?_, ?_, ?_, ?_⟩ ⟨fun j j0 j1 => ?_, fun j j0 j1 => ?_, ?_, ?_⟩
  · have e : (lf_up Z 89 2 (Z 25 2)) 78 = u.1 78 := by rw [fc 78 (by omega), yc 78 (by omega), xc 78 (by omega) (by omega), wc 78 (by omega), vc 78 (by omega)]
    show (lf_up Z 89 2 (Z 25 2)) 78 0 = _ ∧ (lf_up Z 89 2 (Z 25 2)) 78 1 = _ ∧ (lf_up Z 89 2 (Z 25 2)) 78 2 = _ ∧ (lf_up Z 89 2 (Z 25 2)) 78 3 = _ ∧ (lf_up Z 89 2 (Z 25 2)) 78 4 = _
    rw [e]
    exact ⟨u0, u1, u2, u3, u4⟩
  · exact (congrFun (R 80 (by omega) (by omega)) j).trans ((v80 j j0 j1).trans (by rw [uc 16 (by decide)]))
  · exact (congrFun (R 81 (by omega) (by omega)) j).trans ((v81 j j0 j1).trans (by rw [uc 17 (by decide)]))
  · exact (congrFun (R 82 (by omega) (by omega)) j).trans ((v82 j j0 j1).trans (by rw [uc 18 (by decide)]))
  · exact (congrFun (R 83 (by omega) (by omega)) j).trans ((v83 j j0 j1).trans (by rw [uc 19 (by decide)]))
  · exact (congrFun (R 84 (by omega) (by omega)) j).trans ((v84 j j0 j1).trans (by rw [uc 20 (by decide)]))
  · exact (congrFun (R 85 (by omega) (by omega)) j).trans ((v85 j j0 j1).trans (by rw [uc 21 (by decide)]))
  · show (lf_up Z 89 2 (Z 25 2)) 79 6 = _
    rw [fc 79 (by omega), yc 79 (by omega), xc 79 (by omega) (by omega), w6, uc 15 (by decide)]
  · show (lf_up Z 89 2 (Z 25 2)) 79 7 = _
    rw [fc 79 (by omega), yc 79 (by omega), xc 79 (by omega) (by omega), w7, uc 15 (by decide)]
  · show (lf_up Z 89 2 (Z 25 2)) 79 8 = _
    rw [fc 79 (by omega), yc 79 (by omega), xc 79 (by omega) (by omega), w8, uc 15 (by decide)]
  · show (lf_up Z 89 2 (Z 25 2)) 87 j = _
    rw [fc 87 (by omega), yc 87 (by omega), x87 j j0 j1, uc 23 (by decide)]
  · show (lf_up Z 89 2 (Z 25 2)) 88 j = _
    rw [fc 88 (by omega), yc 88 (by omega), x88 j j0 j1, uc 24 (by decide)]
  · show (lf_up Z 89 2 (Z 25 2)) 86 2 = _
    rw [fc 86 (by omega), y2, uc 22 (by decide)]
  · show (lf_up Z 89 2 (Z 25 2)) 86 3 = _
    rw [fc 86 (by omega), y3, uc 22 (by decide)]
/-- the image is the stand -/
theorem fl_181 {Q : lf_Z → Prop} (k : ∀ t : lf_Z, (∀ c : Nat, c ≠ 97 → t.1 c = s.1 c) → t.2 = s.2 → (∀ i : Int, 0 ≤ i → i < 1538 → t.1 97 i = s.1 96 i) → Q t) : fw_181 Q s := by
  unfold fw_181
  refine ⟨fun x t => 0 ≤ x ∧ (∀ c : Nat, c ≠ 97 → t.1 c = s.1 c) ∧ t.2 = s.2 ∧ (∀ i : Int, 0 ≤ i → i < x → t.1 97 i = s.1 96 i), ?_, ⟨Int.le_refl 0, fun _ _ => rfl, rfl, fun i i0 i1 => by omega⟩⟩
  intro x t ⟨x0, tc, t2, ti⟩
  unfold fw_181_p2
  intro _
  refine ⟨fun c => k t tc t2 (fun i i0 i1 => ti i i0 (by omega)), fun c _ => ⟨by omega, fun c hc => (zu_r hc).trans (tc c hc), t2, fun i i0 i1 => ?_⟩⟩
  by_cases e : i = x
  · rw [e]
    refine zu_s.trans ?_
    rw [tc 96 (by decide)]
  · exact (zu_i e).trans (ti i i0 (by omega))
theorem fl_181b {Q : lf_Z → Prop} (k : ∀ t : lf_Z, (∀ c : Nat, c ≠ 96 → t.1 c = s.1 c) → t.2 = s.2 → (∀ i : Int, 0 ≤ i → i < 1538 → t.1 96 i = s.1 97 i) → Q t) : fw_181b Q s := by
  unfold fw_181b
  refine ⟨fun x t => 0 ≤ x ∧ (∀ c : Nat, c ≠ 96 → t.1 c = s.1 c) ∧ t.2 = s.2 ∧ (∀ i : Int, 0 ≤ i → i < x → t.1 96 i = s.1 97 i), ?_, ⟨Int.le_refl 0, fun _ _ => rfl, rfl, fun i i0 i1 => by omega⟩⟩
  intro x t ⟨x0, tc, t2, ti⟩
  unfold fw_181b_p2
  intro _
  refine ⟨fun c => k t tc t2 (fun i i0 i1 => ti i i0 (by omega)), fun c _ => ⟨by omega, fun c hc => (zu_r hc).trans (tc c hc), t2, fun i i0 i1 => ?_⟩⟩
  by_cases e : i = x
  · rw [e]
    refine zu_s.trans ?_
    rw [tc 97 (by decide)]
  · exact (zu_i e).trans (ti i i0 (by omega))
/-- a way is put into the lists; J: the land without it -/
theorem fl_20 {Q : lf_Z → Prop} (hW : mn_W J) (ok : wy_ok J a b) (hn : J 1 1 = n) (n0 : 0 ≤ n) (e1 : s.1 1 0 = J 1 0) (e4 : s.1 4 n = a) (e5 : s.1 5 n = b) (e11 : s.1 11 = J 11) (e12 : s.1 12 = J 12) (e13 : s.1 13 = J 13)
    (k : ∀ t : lf_Z, (∀ c : Nat, c ≠ 11 → c ≠ 12 → c ≠ 13 → t.1 c = s.1 c) → t.2 = s.2 → (∀ q : Int, t.1 12 q = if q = b then J 12 b + 1 else if q = a then J 12 a + 1 else J 12 q) → (∀ i : Int, t.1 11 i = if i = b * 4 + J 12 b then n else if i = a * 4 + J 12 a then n else J 11 i)
      → (∀ i j : Int, 0 ≤ i → i < J 1 0 → 0 ≤ j → j < J 1 0 → t.1 13 (i * 12 + j) = dm_nw (mn_d J 13) a b i j) → (∀ i j : Int, 0 ≤ i → i < 12 → 0 ≤ j → j < 12 → (J 1 0 ≤ i ∨ J 1 0 ≤ j) → t.1 13 (i * 12 + j) = J 13 (i * 12 + j)) → Q t) : fw_20 n Q s := by
  obtain ⟨h0, h1, h2, h3, h4, h5, h6⟩ := hW
  obtain ⟨z, z2, ne, o1, o2, o3⟩ := ok
  unfold fw_20
  intro _
  rw [e4]
  refine fl_21 z.1 (by omega) (by rw [e12]; omega) ?_
  rw [e12]
  obtain ⟨v, hv⟩ : ∃ v : lf_Z, v = (lf_up (lf_up s.1 11 (a * 4 + J 12 a) n) 12 a (J 12 a + 1), s.2.1, s.2.2) := ⟨_, rfl⟩
  rw [← hv]
  have vo : ∀ q : Nat, q ≠ 11 → q ≠ 12 → v.1 q = s.1 q := fun q q1 q2 => by rw [hv]; exact (zu_r q2).trans (lf_up_row q1)
  have v12 : ∀ q : Int, v.1 12 q = if q = a then J 12 a + 1 else J 12 q := fun q => by
    rw [hv]
    by_cases y : q = a
    · rw [y, if_pos rfl]; exact zu_s
    · rw [if_neg y]; exact (zu_i y).trans ((lf_up_c (by decide)).trans (by rw [e12]))
  have v11 : ∀ i : Int, v.1 11 i = if i = a * 4 + J 12 a then n else J 11 i := fun i => by
    rw [hv]
    refine (zu_c (by decide)).trans ?_
    by_cases y : i = a * 4 + J 12 a
    · rw [y, if_pos rfl]; exact lf_up_s
    · rw [if_neg y]; exact (lf_up_i y).trans (by rw [e11])
  have v2 : v.2 = s.2 := by rw [hv]
  have vb : v.1 12 b = J 12 b := by rw [v12, if_neg (by omega)]
  rw [vo 5 (by decide) (by decide), e5]
  refine fl_21 z2.1 (by omega) (by rw [vb]; exact o3) ?_
  rw [vb]
  obtain ⟨y, hy⟩ : ∃ y : lf_Z, y = (lf_up (lf_up v.1 11 (b * 4 + J 12 b) n) 12 b (J 12 b + 1), v.2.1, v.2.2) := ⟨_, rfl⟩
  rw [← hy]
  have yo : ∀ q : Nat, q ≠ 11 → q ≠ 12 → y.1 q = s.1 q := fun q q1 q2 => by rw [hy]; exact ((zu_r q2).trans (lf_up_row q1)).trans (vo q q1 q2)
  have y12 : ∀ q : Int, y.1 12 q = if q = b then J 12 b + 1 else if q = a then J 12 a + 1 else J 12 q := fun q => by
    rw [hy]
    by_cases e : q = b
    · rw [e, if_pos rfl]; exact zu_s
    · rw [if_neg e]; exact (zu_i e).trans ((lf_up_c (by decide)).trans (v12 q))
  have y11 : ∀ i : Int, y.1 11 i = if i = b * 4 + J 12 b then n else if i = a * 4 + J 12 a then n else J 11 i := fun i => by
    rw [hy]
    refine (zu_c (by decide)).trans ?_
    by_cases e : i = b * 4 + J 12 b
    · rw [e, if_pos rfl]; exact lf_up_s
    · rw [if_neg e]; exact (lf_up_i e).trans (v11 i)
  have y2 : y.2 = s.2 := by rw [hy]; exact v2
  have y13 : y.1 13 = J 13 := (yo 13 (by decide) (by decide)).trans e13
  rw [yo 4 (by decide) (by decide), yo 5 (by decide) (by decide), e4, e5]
  have y10 : y.1 1 0 = J 1 0 := by rw [yo 1 (by decide) (by decide)]; exact e1
  refine fl_22 (d := mn_d J 13) h5 y10 h0.1 h0.2 (fun i j _ _ _ _ => by rw [y13]; rfl) z.1 z.2 z2.1 z2.2 (fun t tc t2 td tf => ?_)
  exact k t (fun c c1 c2 c3 => (tc c c3).trans (yo c c1 c2)) (t2.trans y2) (fun q => by rw [tc 12 (by decide)]; exact y12 q) (fun i => by rw [tc 11 (by decide)]; exact y11 i) td (fun i j i0 i1 j0 j1 e => by rw [tf i j i0 i1 j0 j1 e, y13])
/-- the land K is s with k ways of it alone -/
def bk_J (I : Nat → Int → Int) (k : Int) : Nat → Int → Int := fun c => if c = 1 then (fun i => if i = 1 then k else I 1 i) else I c
theorem bk_J1 {I : Nat → Int → Int} {k : Int} : bk_J I k 1 1 = k ∧ bk_J I k 1 0 = I 1 0 ∧ bk_J I k 1 2 = I 1 2 := ⟨rfl, rfl, rfl⟩
theorem bk_Jc {I : Nat → Int → Int} {k : Int} {c : Nat} (h : c ≠ 1) : bk_J I k c = I c := if_neg h
theorem fl_2b {Q : lf_Z → Prop} (k : ∀ t : lf_Z, (∀ c : Nat, c ≠ 13 → t.1 c = s.1 c) → t.2 = s.2 → (∀ i j : Int, 0 ≤ i → i < 12 → 0 ≤ j → j < 12 → t.1 13 (i * 12 + j) = if i = j then 0 else 1000) → Q t) : fw_2b Q s := by
  unfold fw_2b
  have f0 : ∀ i : Int, 0 ≤ i → i < 144 → (lf_fl s.1 13 144 1000) 13 i = 1000 := fun i i0 i1 => by unfold lf_fl; rw [if_pos ⟨rfl, i0, i1⟩]
  refine ⟨fun x t => 0 ≤ x ∧ (∀ c : Nat, c ≠ 13 → t.1 c = s.1 c) ∧ t.2 = s.2 ∧ (∀ i j : Int, 0 ≤ i → i < 12 → 0 ≤ j → j < 12 → t.1 13 (i * 12 + j) = if i = j ∧ i < x then 0 else 1000), ?_, ⟨Int.le_refl 0, fun c hc => funext fun j => lf_fl_c hc, rfl, fun i j i0 i1 j0 j1 => ?_⟩⟩
  rotate_left
  · rw [if_neg (by omega)]; exact f0 _ (by omega) (by omega)
  intro x t ⟨x0, tc, t2, ti⟩
  unfold fw_2b_p9
  intro _
  refine ⟨fun c => k t tc t2 (fun i j i0 i1 j0 j1 => ?_), fun c _ => ⟨by omega, fun c hc => (zu_r hc).trans (tc c hc), t2, fun i j i0 i1 j0 j1 => ?_⟩⟩
  · rw [ti i j i0 i1 j0 j1]
    by_cases e : i = j
    · rw [if_pos e, if_pos ⟨e, by omega⟩]
    · rw [if_neg e, if_neg (fun q => e q.1)]
  · by_cases e : i * 12 + j = x * 12 + x
    · rw [e, if_pos (by omega)]; exact zu_s
    · refine (zu_i e).trans ((ti i j i0 i1 j0 j1).trans ?_)
      by_cases q : i = j ∧ i < x
      · rw [if_pos q, if_pos (by omega)]
      · rw [if_neg q, if_neg (by omega)]
/-- the land is cut back; J: the land as it was -/
theorem fl_178 {Q : lf_Z → Prop} {i0 i1 i2 : Int} (hW : mn_W s.1) (h0 : 0 ≤ i0 ∧ i0 ≤ s.1 1 0) (h1 : 0 ≤ i1 ∧ i1 ≤ s.1 1 1) (h2 : 0 ≤ i2 ∧ i2 ≤ s.1 1 2) (hw : ∀ w : Int, 0 ≤ w → w < i1 → s.1 4 w < i0 ∧ s.1 5 w < i0)
    (k : ∀ t : lf_Z, (∀ c : Nat, c ≠ 1 → c ≠ 11 → c ≠ 12 → c ≠ 13 → t.1 c = s.1 c) → t.2 = s.2 → (t.1 1 0 = i0 ∧ t.1 1 1 = i1 ∧ t.1 1 2 = i2) → mn_W t.1 → Q t) : fw_178 i0 i1 i2 Q s := by
  obtain ⟨g0, g1, g2, g3, g4, _, _⟩ := hW
  unfold fw_178
  obtain ⟨u, hu⟩ : ∃ u : lf_Z, u = (lf_fl (lf_up (lf_up (lf_up s.1 1 0 i0) 1 1 i1) 1 2 i2) 12 12 0, s.2.1, s.2.2) := ⟨_, rfl⟩
  rw [← hu]
  have uc : ∀ c : Nat, c ≠ 1 → c ≠ 12 → u.1 c = s.1 c := fun c c1 c2 => by rw [hu]; exact funext fun j => (lf_fl_c c2).trans ((lf_up_c c1).trans ((lf_up_c c1).trans (lf_up_c c1)))
  have u10 : u.1 1 0 = i0 := by rw [hu]; show (lf_fl (lf_up (lf_up (lf_up s.1 1 0 i0) 1 1 i1) 1 2 i2) 12 12 0) 1 0 = i0; exact (lf_fl_c (by decide)).trans ((lf_up_i (by decide)).trans ((lf_up_i (by decide)).trans lf_up_s))
  have u11 : u.1 1 1 = i1 := by rw [hu]; show (lf_fl (lf_up (lf_up (lf_up s.1 1 0 i0) 1 1 i1) 1 2 i2) 12 12 0) 1 1 = i1; exact (lf_fl_c (by decide)).trans ((lf_up_i (by decide)).trans lf_up_s)
  have u12 : u.1 1 2 = i2 := by rw [hu]; show (lf_fl (lf_up (lf_up (lf_up s.1 1 0 i0) 1 1 i1) 1 2 i2) 12 12 0) 1 2 = i2; exact (lf_fl_c (by decide)).trans lf_up_s
  have u12z : ∀ q : Int, 0 ≤ q → q < 12 → u.1 12 q = 0 := fun q q0 q1 => by rw [hu]; show lf_fl _ 12 12 0 12 q = 0; unfold lf_fl; rw [if_pos ⟨rfl, q0, q1⟩]
  have u2 : u.2 = s.2 := by rw [hu]
  refine fl_2b (fun v vc v2 vd => ?_)
  have start : mn_W (bk_J v.1 0) := by
    unfold mn_W
    rw [bk_J1.1, bk_J1.2.1, bk_J1.2.2, bk_Jc (show (12 : Nat) ≠ 1 by decide)]
    rw [vc 1 (by decide), vc 12 (by decide), u10, u12]
    refine ⟨by omega, ⟨by decide, by decide⟩, by omega, fun w w0 w1 => by omega, fun q q0 q1 => ⟨u12z q q0 q1, by rw [u12z q q0 q1]; decide, fun w w1 => by omega⟩, ?_, fun i j i0' i1' j0' j1' _ => ?_⟩
    · refine dm_C (dm_0 (m := i0)) (fun i j a1 a2 a3 a4 => ?_) (fun i j => ⟨fun ⟨w, w0, w1, _⟩ => by omega, fun h => h.elim⟩)
      unfold mn_d
      rw [bk_Jc (show (13 : Nat) ≠ 1 by decide)]
      exact vd i j a1 (by omega) a3 (by omega)
    · unfold mn_d
      rw [bk_Jc (show (13 : Nat) ≠ 1 by decide)]
      exact vd i j i0' i1' j0' j1'
  refine ⟨fun x t => 0 ≤ x ∧ x ≤ i1 ∧ (∀ c : Nat, c ≠ 11 → c ≠ 12 → c ≠ 13 → t.1 c = v.1 c) ∧ t.2 = v.2 ∧ mn_W (bk_J t.1 x), ?_, ⟨Int.le_refl 0, h1.1, fun _ _ _ _ => rfl, rfl, start⟩⟩
  intro x t ⟨x0, x1, tc, t2, tW⟩
  have t1 : t.1 1 = u.1 1 := by rw [tc 1 (by decide) (by decide) (by decide), vc 1 (by decide)]
  have t4 : t.1 4 = s.1 4 := by rw [tc 4 (by decide) (by decide) (by decide), vc 4 (by decide), uc 4 (by decide) (by decide)]
  have t5 : t.1 5 = s.1 5 := by rw [tc 5 (by decide) (by decide) (by decide), vc 5 (by decide), uc 5 (by decide) (by decide)]
  unfold fw_178_p33
  rw [t1, u11]
  intro _ _
  refine ⟨fun c => ?_, fun c => ?_⟩
  · have ex : x = i1 := by omega
    refine k t (fun c c1 c2 c3 c4 => by rw [tc c c2 c3 c4, vc c c4, uc c c1 c3]) (t2.trans (v2.trans u2)) (by rw [t1]; exact ⟨u10, u11, u12⟩) ?_
    have e : bk_J t.1 x = t.1 := by
      funext c
      unfold bk_J
      by_cases q : c = 1
      · rw [if_pos q, q]
        funext i
        by_cases w : i = 1
        · rw [if_pos w, w, t1, u11, ex]
        · rw [if_neg w]
      · rw [if_neg q]
    rw [← e]; exact tW
  · have w3 := g3 x x0 (by omega)
    have w4 := hw x x0 (by omega)
    have atE : ∀ q : Int, mn_at (bk_J t.1 x) q = mn_at s.1 q := fun q => congrFun (mn_atR ((bk_Jc (by decide)).trans t4) ((bk_Jc (by decide)).trans t5)) q
    have deg : ∀ q : Int, 0 ≤ q → q < 12 → (s.1 4 x = q ∨ s.1 5 x = q) → bk_J t.1 x 12 q < 4 := by
      intro q q0 q1 hq
      obtain ⟨d1, _⟩ := tW.2.2.2.2.1 q q0 q1
      obtain ⟨d2, d3, _⟩ := g4 q q0 q1
      rw [d1, atE, bk_J1.1]
      have a1 : mn_at s.1 q x.toNat = true := by
        unfold mn_at
        rw [show ((x.toNat : Nat) : Int) = x by omega]
        rcases hq with e | e
        · rw [decide_eq_true e, Bool.true_or]
        · rw [decide_eq_true e, Bool.or_true]
      have lt := dm_cnG (P := mn_at s.1 q) (w := x.toNat) (n := (s.1 1 1).toNat) (by omega) a1
      omega
    have ok : wy_ok (bk_J t.1 x) (s.1 4 x) (s.1 5 x) := by
      refine ⟨⟨w3.1.1, ?_⟩, ⟨w3.2.1.1, ?_⟩, w3.2.2, ?_, deg _ w3.1.1 (by omega) (Or.inl rfl), deg _ w3.2.1.1 (by omega) (Or.inr rfl)⟩
      · rw [bk_J1.2.1, t1, u10]; exact w4.1
      · rw [bk_J1.2.1, t1, u10]; exact w4.2
      · rw [bk_J1.1]; omega
    refine fl_20 (J := bk_J t.1 x) (a := s.1 4 x) (b := s.1 5 x) tW ok bk_J1.1 x0 bk_J1.2.1.symm (by rw [t4]) (by rw [t5]) (bk_Jc (by decide)).symm (bk_Jc (by decide)).symm (bk_Jc (by decide)).symm (fun y yc y2 y12 y11 y13 y13o => ?_)
    refine ⟨by omega, by omega, fun c c1 c2 c3 => (yc c c1 c2 c3).trans (tc c c1 c2 c3), y2.trans t2, ?_⟩
    have hR : wy_R (bk_J t.1 x) (bk_J y.1 (x + 1)) (s.1 4 x) (s.1 5 x) (s.1 6 x) := by
      have r : ∀ c : Nat, c ≠ 1 → bk_J y.1 (x + 1) c = y.1 c := fun c hc => bk_Jc hc
      have r' : ∀ c : Nat, c ≠ 1 → bk_J t.1 x c = t.1 c := fun c hc => bk_Jc hc
      have y1 : y.1 1 = t.1 1 := yc 1 (by decide) (by decide) (by decide)
      have t6 : t.1 6 = s.1 6 := by rw [tc 6 (by decide) (by decide) (by decide), vc 6 (by decide), uc 6 (by decide) (by decide)]
      refine ⟨fun q q1 q4 q5 q6 q11 q12 q13 => by rw [r q q1, r' q q1]; exact yc q q11 q12 q13, ⟨by rw [bk_J1.2.1, bk_J1.2.1, y1], by rw [bk_J1.1, bk_J1.1], by rw [bk_J1.2.2, bk_J1.2.2, y1]⟩, fun w => ?_, fun q => by rw [r 12 (by decide)]; exact y12 q, fun i => ?_, fun i j a1 a2 a3 a4 => by rw [r 13 (by decide)]; exact y13 i j a1 a2 a3 a4, fun i j a1 a2 a3 a4 e => by rw [r 13 (by decide)]; exact y13o i j a1 a2 a3 a4 e⟩
      · rw [r 4 (by decide), r 5 (by decide), r 6 (by decide), r' 4 (by decide), r' 5 (by decide), r' 6 (by decide), yc 4 (by decide) (by decide) (by decide), yc 5 (by decide) (by decide) (by decide), yc 6 (by decide) (by decide) (by decide), bk_J1.1]
        by_cases e : w = x
        · rw [if_pos e, if_pos e, if_pos e, e, t4, t5, t6]; exact ⟨rfl, rfl, rfl⟩
        · rw [if_neg e, if_neg e, if_neg e]; exact ⟨rfl, rfl, rfl⟩
      · rw [r 11 (by decide), bk_J1.1]; exact y11 i
    exact wy_W tW ok hR
end BK
/-! land, stand and steps together: what every call that changes them does, as a relation of both sides -/
section GT
variable {J K M : Nat → Int → Int} {s t u : lf_Z} {f f' g A B sv : Int → Int} {H H' : List rr_H} {X : mn_X} {I : Nat → Int → Int} {a b c d r j n1 n2 : Int} {T : Int → Int}
/-- the land is the same -/
def gj_e (J K : Nat → Int → Int) : Prop := ∀ c : Nat, 1 ≤ c → c < 14 → K c = J c
theorem gj_r : gj_e J J := fun _ _ _ => rfl
theorem gj_t (h : gj_e J K) (k : gj_e K M) : gj_e J M := fun c a b => (k c a b).trans (h c a b)
theorem gj_s (h : gj_e J K) : gj_e K J := fun c a b => (h c a b).symm
/-- what is true of the land -/
def gj_F (J : Nat → Int → Int) : Prop := mn_W J ∧ mn_B J ∧ mn_V J ∧ ∀ q : Int, 0 ≤ q → q < J 1 2 → 0 ≤ J 10 q ∧ J 10 q < J 1 0
theorem gj_Fe (e : gj_e J K) (h : gj_F J) : gj_F K := by
  obtain ⟨hW, ⟨hB1, hB2⟩, hV, hT⟩ := h
  have e1 : K 1 = J 1 := e 1 (by decide) (by decide)
  refine ⟨mn_Wr hW (e 4 (by decide) (by decide)) (e 5 (by decide) (by decide)) (e 11 (by decide) (by decide)) (e 12 (by decide) (by decide)) (e 13 (by decide) (by decide)) (by rw [e1]) (by rw [e1]) (by rw [e1]; exact hW.2.2.1), ⟨fun w => ?_, fun q => ?_⟩, fun q => ?_, fun q => ?_⟩
  · rw [e 6 (by decide) (by decide)]; exact hB1 w
  · rw [e 8 (by decide) (by decide), e 9 (by decide) (by decide)]; exact hB2 q
  · rw [e 7 (by decide) (by decide), e 2 (by decide) (by decide)]; exact hV q
  · rw [e1, e 10 (by decide) (by decide)]; exact hT q
theorem gj_L (e : gj_e J K) (h : rr_L J A) : rr_L K A := by
  unfold rr_L at h ⊢
  rw [e 1 (by decide) (by decide), e 2 (by decide) (by decide), e 3 (by decide) (by decide), e 4 (by decide) (by decide), e 5 (by decide) (by decide), e 6 (by decide) (by decide), e 7 (by decide) (by decide), e 8 (by decide) (by decide), e 9 (by decide) (by decide), e 10 (by decide) (by decide)]
  exact h
theorem gj_P (e1 : K 1 = J 1) (h : gp_J J f) : gp_J K f := by
  obtain ⟨h1, h2, h3⟩ := h
  exact ⟨gp_Iu h1 (by rw [e1]) (by rw [e1]), by rw [e1]; exact h2, h3⟩
theorem gj_H (e1 : K 1 = J 1) (h : mi_H J H) : mi_H K H := mi_Hg h (by rw [e1]; exact Int.le_refl _) (by rw [e1]; exact Int.le_refl _) (by rw [e1]; exact Int.le_refl _)
def gf_T (J : Nat → Int → Int) (f : Int → Int) (H : List rr_H) : Prop := gj_F J ∧ gp_J J f ∧ mi_H J H
theorem gf_Te (e : gj_e J K) (h : gf_T J f H) : gf_T K f H := ⟨gj_Fe e h.1, gj_P (e 1 (by decide) (by decide)) h.2.1, gj_H (e 1 (by decide) (by decide)) h.2.2⟩
/-- the class holds stand and steps -/
def gc_T (I : Nat → Int → Int) (f : Int → Int) (H : List rr_H) : Prop := rc_S I f ∧ rc_H I H
theorem gc_Te (e : ∀ c : Nat, 15 ≤ c → c < 25 → K c = J c) (h : gc_T J f H) : gc_T K f H := by
  unfold gc_T rc_S rc_H at *
  rw [e 15 (by decide) (by decide), e 16 (by decide) (by decide), e 17 (by decide) (by decide), e 18 (by decide) (by decide), e 19 (by decide) (by decide), e 20 (by decide) (by decide), e 21 (by decide) (by decide), e 22 (by decide) (by decide), e 23 (by decide) (by decide), e 24 (by decide) (by decide)]
  exact h
/-- mending: sv what is saved, as the class keeps it -/
def gr_1 (sv A : Int → Int) (w : Int) : Prop := (A (174 + 5 * w) = 0 ∧ sv w = -10000) ∨ (A (174 + 5 * w) = 1 ∧ (0 ≤ A (174 + 5 * w + 1) ∧ A (174 + 5 * w + 1) ≤ 10) ∧ (0 ≤ A (174 + 5 * w + 2) ∧ A (174 + 5 * w + 2) ≤ 999) ∧ (0 ≤ A (174 + 5 * w + 3) ∧ A (174 + 5 * w + 3) ≤ 999) ∧ (1 ≤ A (174 + 5 * w + 4) ∧ A (174 + 5 * w + 4) ≤ 99) ∧ sv w = (A (174 + 5 * w + 3) * A (174 + 5 * w + 1) * A (174 + 5 * w + 4)).tdiv 10 - A (174 + 5 * w + 2))
def gr_m (n1 : Int) (sv A : Int → Int) : Prop := (∀ w : Int, 0 ≤ w → w < n1 → gr_1 sv A w) ∧ ∀ w : Int, n1 ≤ w → w < 16 → sv w = -10000
theorem gr_1e (e : ∀ i : Int, 174 + 5 * j ≤ i → i ≤ 174 + 5 * j + 4 → B i = A i) (h : gr_1 sv A j) : gr_1 sv B j := by
  unfold gr_1 at *
  rw [e (174 + 5 * j) (by omega) (by omega), e (174 + 5 * j + 1) (by omega) (by omega), e (174 + 5 * j + 2) (by omega) (by omega), e (174 + 5 * j + 3) (by omega) (by omega), e (174 + 5 * j + 4) (by omega) (by omega)]
  exact h
theorem gr_me (h16 : n1 ≤ 16) (e : ∀ i : Int, 174 ≤ i → i < 254 → B i = A i) (h : gr_m n1 sv A) : gr_m n1 sv B := ⟨fun w w0 w1 => gr_1e (fun i i0 i1 => e i (by omega) (by omega)) (h.1 w w0 w1), h.2⟩
/-- the reference holds land, stand, steps, mending -/
def gr_T (sv : Int → Int) (J : Nat → Int → Int) (f : Int → Int) (H : List rr_H) (A : Int → Int) : Prop := rr_L J A ∧ rr_S (J 1 1) (J 1 2) f A ∧ rh_H A H ∧ gr_m (J 1 1) sv A
theorem gr_Te (e : gj_e J K) (h : gr_T sv J f H A) : gr_T sv K f H A := by
  obtain ⟨h1, h2, h3, h4⟩ := h
  have e1 : K 1 = J 1 := e 1 (by decide) (by decide)
  refine ⟨gj_L e h1, ?_, h3, ?_⟩
  · rw [e1]; exact h2
  · rw [e1]; exact h4
/-- what the calls leave as it is: the class -/
def gc_F (s t : lf_Z) : Prop := (∀ c : Nat, (c = 0 ∨ c = 14 ∨ (24 < c ∧ (c < 63 ∨ 66 < c))) → t.1 c = s.1 c) ∧ t.2 = s.2
theorem gc_Fr : gc_F s s := ⟨fun _ _ => rfl, rfl⟩
theorem gc_Ft (h : gc_F s t) (k : gc_F t u) : gc_F s u := ⟨fun c hc => (k.1 c hc).trans (h.1 c hc), k.2.trans h.2⟩
/-- the reference -/
def gr_F (s t : lf_Z) : Prop := (∀ c : Nat, c ≠ 96 → c ≠ 104 → c ≠ 107 → c ≠ 108 → t.1 c = s.1 c) ∧ t.1 96 8 = s.1 96 8 ∧ t.2.2 = s.2.2
theorem gr_Fr : gr_F s s := ⟨fun _ _ _ _ _ => rfl, rfl, rfl⟩
theorem gr_Ft (h : gr_F s t) (k : gr_F t u) : gr_F s u := ⟨fun c c1 c2 c3 c4 => (k.1 c c1 c2 c3 c4).trans (h.1 c c1 c2 c3 c4), k.2.1.trans h.2.1, k.2.2.trans h.2.2⟩
/-- the law that rules -/
def gx_XB (X : mn_X) : Prop := (∀ N, 0 ≤ X.1 N ∧ X.1 N ≤ 2) ∧ ∀ N, 0 ≤ X.2 N ∧ X.2 N ≤ 10
def gx_Xc (X : mn_X) (I : Nat → Int → Int) (s : lf_Z) : Prop := xc_X X I s.2.2 ∧ ∀ c : Nat, 35 ≤ c → c < 63 → s.1 c = I c
def gx_Xr (X : mn_X) (T : Int → Int) (s : lf_Z) : Prop := xr_X X T (s.1 96 8) ∧ rm_0 T s
theorem gx_XcF (h : gx_Xc X I s) (k : gc_F s t) : gx_Xc X I t := ⟨by rw [k.2]; exact h.1, fun c c0 c1 => (k.1 c (by omega)).trans (h.2 c c0 c1)⟩
theorem gx_XrF (h : gx_Xr X T s) (k : gr_F s t) : gx_Xr X T t := by
  refine ⟨by rw [k.2.1]; exact h.1, ?_⟩
  have h2 := h.2
  unfold rm_0 at h2 ⊢
  rw [k.1 98 (by decide) (by decide) (by decide) (by decide), k.1 95 (by decide) (by decide) (by decide) (by decide)]
  exact h2
/-- a call that leaves the land: if ok, stand and steps are f1 and H1 behind it and it answers ro; else nothing is done, and it answers rn -/
def gq_o (ok : Prop) (ro rn : Int) (f1 : Int → Int) (H1 : List rr_H) (J : Nat → Int → Int) (f : Int → Int) (H : List rr_H) (K : Nat → Int → Int) (f' : Int → Int) (H' : List rr_H) (r : Int) : Prop := gj_e J K ∧ ((¬ ok ∧ f' = f ∧ H' = H ∧ r = rn) ∨ (ok ∧ f' = f1 ∧ H' = H1 ∧ r = ro))
theorem gc_o {ok : Prop} {ro rn : Int} {f1 : Int → Int} {H1 : List rr_H} {Q : Int → lf_Z → Prop} (hF : gf_T s.1 f H) (hC : gc_T s.1 f H) (hG : ok → gp_J s.1 f1 ∧ mi_H s.1 H1)
    (k : ∀ (r : Int) (t : lf_Z) (f' : Int → Int) (H' : List rr_H), gq_o ok ro rn f1 H1 s.1 f H t.1 f' H' r → gf_T t.1 f' H' → gc_T t.1 f' H' → gc_F s t → Q r t) : (¬ ok → Q rn s) ∧ (ok → ∀ t : lf_Z, mc_f s t → rc_S t.1 f1 → rc_H t.1 H1 → Q ro t) := by
  refine ⟨fun q => k rn s f H ⟨gj_r, Or.inl ⟨q, rfl, rfl, rfl⟩⟩ hF hC gc_Fr, fun q t m hS hH => ?_⟩
  have e : gj_e s.1 t.1 := fun c c0 c1 => m.1 c (Or.inl (by omega))
  refine k ro t f1 H1 ⟨e, Or.inr ⟨q, rfl, rfl, rfl⟩⟩ (gf_Te e ⟨hF.1, (hG q).1, (hG q).2⟩) ⟨hS, hH⟩ ⟨fun c hc => m.1 c ?_, m.2.2.2⟩
  rcases hc with h | h | ⟨h, h2⟩
  · exact Or.inl (by omega)
  · exact Or.inl (by omega)
  · exact Or.inr ⟨h, h2⟩
/-- nothing but the stand, the steps and scratch -/
def gr_q (s t : lf_Z) : Prop := (∀ c : Nat, c ≠ 96 → c ≠ 104 → c ≠ 107 → c ≠ 108 → t.1 c = s.1 c) ∧ (∀ i : Int, ¬ rg_p i → i ≠ 9 → i < 278 → t.1 96 i = s.1 96 i) ∧ t.2.2 = s.2.2
theorem gr_qm (h : mr_f s t) : gr_q s t := ⟨h.1, fun i a b c => h.2.1 i (fun q => a (Or.inl q)) b c, h.2.2⟩
theorem gr_qL (hL : rr_L J (s.1 96)) (hW : mn_W J) (h : gr_q s t) : rr_L J (t.1 96) := by
  obtain ⟨w0, w1, w2, _⟩ := hW
  obtain ⟨l0, l1, l2, l3, l4, l5⟩ := hL
  have g : ∀ j : Int, ¬ rg_p j → j ≠ 9 → j < 278 → t.1 96 j = s.1 96 j := h.2.1
  refine ⟨(g 0 (by unfold rg_p rm_p; omega) (by omega) (by omega)).trans l0, (g 1 (by unfold rg_p rm_p; omega) (by omega) (by omega)).trans l1, (g 2 (by unfold rg_p rm_p; omega) (by omega) (by omega)).trans l2, fun q q0 q1 => ?_, fun w x0 x1 => ?_, fun q q0 q1 => ?_⟩
  · rw [g (14 + 3 * q) (by unfold rg_p rm_p; omega) (by omega) (by omega), g (14 + 3 * q + 1) (by unfold rg_p rm_p; omega) (by omega) (by omega)]; exact l3 q q0 q1
  · rw [g (50 + 4 * w) (by unfold rg_p rm_p; omega) (by omega) (by omega), g (50 + 4 * w + 1) (by unfold rg_p rm_p; omega) (by omega) (by omega), g (50 + 4 * w + 2) (by unfold rg_p rm_p; omega) (by omega) (by omega)]; exact l4 w x0 x1
  · rw [g (126 + 6 * q + 0) (by unfold rg_p rm_p; omega) (by omega) (by omega), g (126 + 6 * q + 1) (by unfold rg_p rm_p; omega) (by omega) (by omega), g (126 + 6 * q + 2) (by unfold rg_p rm_p; omega) (by omega) (by omega), g (126 + 6 * q + 5) (by unfold rg_p rm_p; omega) (by omega) (by omega)]; exact l5 q q0 q1
theorem gr_o {ok : Prop} {ro rn : Int} {f1 : Int → Int} {H1 : List rr_H} {Q : Int → lf_Z → Prop} (hF : gf_T J f H) (hR : gr_T sv J f H (s.1 96)) (hT : gq_o ok ro rn f1 H1 J f H K f' H' r)
    (k : ∀ t : lf_Z, gr_F s t → gr_T sv K f' H' (t.1 96) → Q r t) : (¬ ok → Q rn s) ∧ (ok → ∀ t : lf_Z, gr_q s t → rr_S (J 1 1) (J 1 2) f1 (t.1 96) → rh_H (t.1 96) H1 → Q ro t) := by
  obtain ⟨e, hT⟩ := hT
  refine ⟨fun q => ?_, fun q t m hS hH => ?_⟩
  · rcases hT with ⟨_, rfl, rfl, rfl⟩ | ⟨q', _⟩
    · exact k s gr_Fr (gr_Te e hR)
    · exact absurd q' q
  · rcases hT with ⟨q', _⟩ | ⟨_, rfl, rfl, rfl⟩
    · exact absurd q q'
    · obtain ⟨h1, h2, h3, h4⟩ := hR
      refine k t ⟨m.1, m.2.1 8 (by unfold rg_p rm_p; omega) (by omega) (by omega), m.2.2⟩ (gr_Te e ⟨gr_qL h1 hF.1.1 m, hS, hH, gr_me hF.1.1.2.1.2 (fun i i0 i1 => m.2.1 i (by unfold rg_p rm_p; omega) (by omega) (by omega)) h4⟩)
/-! the relations -/
/-- the land K: J with a stretch more -/
def st_R (J K : Nat → Int → Int) (a b : Int) : Prop := (∀ q : Nat, q ≠ 1 → q ≠ 2 → q ≠ 3 → K q = J q) ∧ (K 1 0 = J 1 0 + 1 ∧ K 1 1 = J 1 1 ∧ K 1 2 = J 1 2) ∧ ∀ q : Int, K 2 q = (if q = J 1 0 then a else J 2 q) ∧ K 3 q = (if q = J 1 0 then b else J 3 q)
def gt_14 (a b : Int) (J : Nat → Int → Int) (f : Int → Int) (H : List rr_H) (K : Nat → Int → Int) (f' : Int → Int) (H' : List rr_H) (r : Int) : Prop := (¬ st_ok (J 1 0) a b ∧ gj_e J K ∧ f' = f ∧ H' = H ∧ r = -1) ∨ (st_ok (J 1 0) a b ∧ st_R J K a b ∧ f' = f ∧ H' = H ∧ r = J 1 0)
def gt_17 (a b c : Int) (J : Nat → Int → Int) (f : Int → Int) (H : List rr_H) (K : Nat → Int → Int) (f' : Int → Int) (H' : List rr_H) (r : Int) : Prop := (¬ wy_ok J a b ∧ gj_e J K ∧ f' = f ∧ H' = H ∧ r = -1) ∨ (wy_ok J a b ∧ wy_R J K a b c ∧ f' = f ∧ H' = H ∧ r = J 1 1)
def gt_23 (a b c d : Int) (J : Nat → Int → Int) (f : Int → Int) (H : List rr_H) (K : Nat → Int → Int) (f' : Int → Int) (H' : List rr_H) (r : Int) : Prop := (¬ pn_ok J a d ∧ gj_e J K ∧ f' = f ∧ H' = H ∧ r = -1) ∨ (pn_ok J a d ∧ pn_R J K a b c d ∧ f' = pn_f f (J 1 2) d ∧ H' = H ∧ r = J 1 2)
def gt_63 (a b : Int) (J : Nat → Int → Int) (f : Int → Int) (H : List rr_H) : (Nat → Int → Int) → (Int → Int) → List rr_H → Int → Prop := gq_o (sy_ok J f a b) (sg_b f) (-1) (rm_b f (sg_b f) a b (-1)) (rr_K (J 1 2, J 1 1, f) H) J f H
def gt_70 (X : mn_X) (a : Int) (J : Nat → Int → Int) (f : Int → Int) (H : List rr_H) : (Nat → Int → Int) → (Int → Int) → List rr_H → Int → Prop := gq_o (mi_ok f a) (mi_al (mi_r J X a.toNat (f, H)).1 12) (-1) (mi_r J X a.toNat (f, H)).1 (mi_r J X a.toNat (f, H)).2 J f H
/-- so many minutes as can be, at most a -/
def gt_71 (X : mn_X) (a : Int) (J : Nat → Int → Int) (f : Int → Int) (H : List rr_H) (K : Nat → Int → Int) (f' : Int → Int) (H' : List rr_H) (r : Int) : Prop := gj_e J K ∧ ∃ m : Nat, (m : Int) ≤ max 0 a ∧ f 37 + m ≤ 999 ∧ f' = (mi_r J X m (f, H)).1 ∧ H' = (mi_r J X m (f, H)).2 ∧ (((m : Int) = max 0 a ∧ r = 1) ∨ ((m : Int) < a ∧ f 37 + m = 999 ∧ r = 0))
def gt_98 (a b : Int) (J : Nat → Int → Int) (f : Int → Int) (H : List rr_H) : (Nat → Int → Int) → (Int → Int) → List rr_H → Int → Prop := gq_o (sd_ok J f a b) 1 0 (ds_u1 f (12 + 2 * a + 1) b) (rr_K (J 1 2, J 1 1, f) H) J f H
def gt_100 (a b : Int) (J : Nat → Int → Int) (f : Int → Int) (H : List rr_H) : (Nat → Int → Int) → (Int → Int) → List rr_H → Int → Prop := gq_o (gt_ok J f a b) 1 0 (gt_f f a) (rr_K (J 1 2, J 1 1, f) H) J f H
def gt_102 (a b : Int) (J : Nat → Int → Int) (f : Int → Int) (H : List rr_H) : (Nat → Int → Int) → (Int → Int) → List rr_H → Int → Prop := gq_o (sp_ok f a b) (sg_b f) (-1) (sp_f f a b) (rr_K (J 1 2, J 1 1, f) H) J f H
def gt_105 (X : mn_X) (a b : Int) (J : Nat → Int → Int) (f : Int → Int) (H : List rr_H) : (Nat → Int → Int) → (Int → Int) → List rr_H → Int → Prop := gq_o (dy_ok J a b) (mi_al (dy_r J X b.toNat (dy_s f a)) 12) (-1) (dy_r J X b.toNat (dy_s f a)) (rr_K (J 1 2, J 1 1, f) H) J f H
/-- the stand behind undo -/
def un_f (J : Nat → Int → Int) (f : Int → Int) : List rr_H → Int → Int
  | [] => f
  | h :: _ => rr_un h.1 (J 1 2) (J 10) h.2.2
def gt_107 (J : Nat → Int → Int) (f : Int → Int) (H : List rr_H) : (Nat → Int → Int) → (Int → Int) → List rr_H → Int → Prop := gq_o (H ≠ []) H.tail.length (-1) (un_f J f H) H.tail J f H
/-! facts of what comes behind -/
theorem st_F (hF : gf_T J f H) (ok : st_ok (J 1 0) a b) (hR : st_R J K a b) : gf_T K f H := by
  obtain ⟨⟨hW, ⟨hB1, hB2⟩, hV, hT⟩, hP, hH⟩ := hF
  obtain ⟨r1, ⟨r2, r3, r4⟩, r5⟩ := hR
  have h12 : J 1 0 < 12 := ok.2.2
  refine ⟨⟨mn_Ws hW h12 (r1 4 (by decide) (by decide) (by decide)) (r1 5 (by decide) (by decide) (by decide)) (r1 11 (by decide) (by decide) (by decide)) (r1 12 (by decide) (by decide) (by decide)) (r1 13 (by decide) (by decide) (by decide)) r2 r3 r4, ⟨fun w => ?_, fun q => ?_⟩, fun q => ?_, fun q q0 q1 => ?_⟩, ⟨gp_Ig hP.1 (by omega) r4, ?_, hP.2.2⟩, mi_Hg hH (by omega) (by omega) (by omega)⟩
  · rw [r1 6 (by decide) (by decide) (by decide)]; exact hB1 w
  · rw [r1 8 (by decide) (by decide) (by decide), r1 9 (by decide) (by decide) (by decide)]; exact hB2 q
  · rw [r1 7 (by decide) (by decide) (by decide)]
    refine ⟨(hV q).1, ?_⟩
    rw [(r5 q).1]
    have ok1 := ok.1
    split
    · omega
    · exact (hV q).2
  · rw [r1 10 (by decide) (by decide) (by decide), r2]
    have := hT q q0 (by omega)
    omega
  · rw [r2, r3]; exact rr_Wg hP.2.1 (by omega) (by omega)
theorem wy_F (hF : gf_T J f H) (ok : wy_ok J a b) (hc : c = 0 ∨ c = 1) (hR : wy_R J K a b c) : gf_T K f H := by
  have hW2 := wy_W hF.1.1 ok hR
  obtain ⟨⟨hW, ⟨hB1, hB2⟩, hV, hT⟩, hP, hH⟩ := hF
  obtain ⟨r1, ⟨r2, r3, r4⟩, r5, _⟩ := hR
  have e : ∀ q : Nat, q = 2 ∨ q = 7 ∨ q = 8 ∨ q = 9 ∨ q = 10 → K q = J q := fun q hq => r1 q (by omega) (by omega) (by omega) (by omega) (by omega) (by omega) (by omega)
  refine ⟨⟨hW2, ⟨fun w => ?_, fun q => ?_⟩, fun q => ?_, fun q q0 q1 => ?_⟩, ⟨gp_Ig hP.1 (by omega) r4, ?_, hP.2.2⟩, mi_Hg hH (by omega) (by omega) (by omega)⟩
  · rw [(r5 w).2.2]
    split
    · exact hc
    · exact hB1 w
  · rw [e 8 (by decide), e 9 (by decide)]; exact hB2 q
  · rw [e 7 (by decide), e 2 (by decide)]; exact hV q
  · rw [e 10 (by decide), r2]
    exact hT q q0 (by omega)
  · rw [r2, r3]; exact rr_Wg hP.2.1 (by omega) (by omega)
theorem pn_F (hF : gf_T J f H) (ok : pn_ok J a d) (hb : b = 0 ∨ b = 1) (hc : c = 0 ∨ c = 1) (hR : pn_R J K a b c d) : gf_T K (pn_f f (J 1 2) d) H := by
  obtain ⟨⟨hW, ⟨hB1, hB2⟩, hV, hT⟩, hP, hH⟩ := hF
  have hW2 := pn_W hW ok.2.2 hR
  have hP2 := pn_J hW hP ok hR
  obtain ⟨r1, ⟨r2, r3, r4⟩, r5⟩ := hR
  have e : ∀ q : Nat, q = 2 ∨ q = 6 → K q = J q := fun q hq => r1 q (by omega) (by omega) (by omega) (by omega) (by omega) (by omega) (by omega)
  refine ⟨⟨hW2, ⟨fun w => ?_, fun q => ⟨?_, ?_⟩⟩, fun q => ⟨?_, ?_⟩, fun q q0 q1 => ?_⟩, hP2, mi_Hg hH (by omega) (by omega) (by omega)⟩
  · rw [e 6 (by decide)]; exact hB1 w
  · rw [(r5 q).2.1]
    split
    · exact hb
    · exact (hB2 q).1
  · rw [(r5 q).2.2.1]
    split
    · exact hc
    · exact (hB2 q).2
  · rw [(r5 q).1]
    have ok1 := ok.1
    split
    · exact ok1
    · exact (hV q).1
  · rw [e 2 (by decide)]; exact (hV q).2
  · rw [(r5 q).2.2.2.1, r2]
    have ok2 := ok.2.1
    split
    · exact ok2
    · exact hT q q0 (by omega)
theorem mi_rJ (hW : mn_W J) (hP : gp_J J f) (hH : mi_H J H) : ∀ m : Nat, f 37 + m ≤ 999 → gp_J J (mi_r J X m (f, H)).1 ∧ mi_H J (mi_r J X m (f, H)).2 ∧ (mi_r J X m (f, H)).1 37 = f 37 + m := by
  intro m
  induction m with
  | zero => intro _; exact ⟨hP, hH, by show f 37 = f 37 + ((0 : Nat) : Int); omega⟩
  | succ m ih =>
    intro h
    obtain ⟨i1, i2, i3⟩ := ih (by omega)
    rw [mi_rS]
    have h9 : (mi_r J X m (f, H)).1 37 < 999 := by omega
    obtain ⟨j1, j2⟩ := gp_Jm (X := X) hW i1 h9
    exact ⟨j1, mi_K hW i1 i2, by show mn_min J X (mi_r J X m (f, H)).1 37 = _; rw [j2, i3]; omega⟩
theorem un_J (hF : gf_T J f H) (ne : H ≠ []) : gp_J J (un_f J f H) ∧ mi_H J H.tail := by
  obtain ⟨⟨hW, hB, hV, hT⟩, hP, hH⟩ := hF
  cases H with
  | nil => exact absurd rfl ne
  | cons h T =>
    obtain ⟨h1, h2, h3, ⟨g1, g2, g3, g4⟩, h5, h6⟩ := hH.2 h List.mem_cons_self
    have w2 := hW.2.2.1
    have w0 := hW.1
    have hl : (h :: T).length ≤ 30 := hH.1
    rw [List.length_cons] at hl
    refine ⟨⟨⟨fun q q0 q1 => ?_, fun b b0 b1 => ?_, ?_, ?_⟩, ⟨fun q q0 q1 => ?_, fun w w0 w1 => ?_⟩, ?_, ?_⟩, ⟨by show T.length ≤ 30; omega, fun x hx => hH.2 x (List.mem_cons_of_mem _ hx)⟩⟩
    · by_cases y : h.1 ≤ q
      · obtain ⟨y1, y2⟩ := rr_unY (g := h.2.2) (tl := J 10) y q0 (by omega) q1
        show (0 ≤ rr_un h.1 (J 1 2) (J 10) h.2.2 (12 + 2 * q) ∧ rr_un h.1 (J 1 2) (J 10) h.2.2 (12 + 2 * q) < J 1 0) ∧ -1 ≤ rr_un h.1 (J 1 2) (J 10) h.2.2 (12 + 2 * q + 1) ∧ rr_un h.1 (J 1 2) (J 10) h.2.2 (12 + 2 * q + 1) < J 1 0
        rw [y1, y2]
        have := hT q q0 q1
        omega
      · obtain ⟨y1, y2⟩ := rr_unO (g := h.2.2) (tl := J 10) (n2 := J 1 2) (show q < h.1 by omega) q0 (by omega)
        show (0 ≤ rr_un h.1 (J 1 2) (J 10) h.2.2 (12 + 2 * q) ∧ rr_un h.1 (J 1 2) (J 10) h.2.2 (12 + 2 * q) < J 1 0) ∧ -1 ≤ rr_un h.1 (J 1 2) (J 10) h.2.2 (12 + 2 * q + 1) ∧ rr_un h.1 (J 1 2) (J 10) h.2.2 (12 + 2 * q + 1) < J 1 0
        rw [y1, y2]
        have := g1 q q0 (show q < (lf_up J 1 2 h.1) 1 2 by rw [lf_up_s]; omega)
        rw [lf_up_i (show (0 : Int) ≠ 2 by decide)] at this
        exact this
    · have := g2 b b0 b1
      unfold gp_b at this ⊢
      rw [lf_up_i (show (0 : Int) ≠ 2 by decide)] at this
      show 0 < rr_un h.1 (J 1 2) (J 10) h.2.2 (3 * b) → (0 ≤ rr_un h.1 (J 1 2) (J 10) h.2.2 (3 * b + 1) ∧ rr_un h.1 (J 1 2) (J 10) h.2.2 (3 * b + 1) < J 1 0) ∧ -1 ≤ rr_un h.1 (J 1 2) (J 10) h.2.2 (3 * b + 2) ∧ rr_un h.1 (J 1 2) (J 10) h.2.2 (3 * b + 2) < J 1 0
      rw [rr_unN (by omega), rr_unN (by omega), rr_unN (by omega)]
      exact this
    · show 0 ≤ rr_un h.1 (J 1 2) (J 10) h.2.2 0 ∧ 0 ≤ rr_un h.1 (J 1 2) (J 10) h.2.2 3 ∧ 0 ≤ rr_un h.1 (J 1 2) (J 10) h.2.2 6 ∧ 0 ≤ rr_un h.1 (J 1 2) (J 10) h.2.2 9 ∧ rr_un h.1 (J 1 2) (J 10) h.2.2 0 + rr_un h.1 (J 1 2) (J 10) h.2.2 3 + rr_un h.1 (J 1 2) (J 10) h.2.2 6 + rr_un h.1 (J 1 2) (J 10) h.2.2 9 ≤ 24
      rw [rr_unN (x := 0) (by decide), rr_unN (x := 3) (by decide), rr_unN (x := 6) (by decide), rr_unN (x := 9) (by decide)]
      exact g3
    · show 0 ≤ rr_un h.1 (J 1 2) (J 10) h.2.2 38 ∧ rr_un h.1 (J 1 2) (J 10) h.2.2 38 < 30203
      rw [rr_unN (x := 38) (by decide)]
      exact g4
    · show rr_un h.1 (J 1 2) (J 10) h.2.2 (24 + q) = 0
      rw [rr_unN (by omega)]
      exact h3.1 q q0 q1
    · show bt_t (rr_un h.1 (J 1 2) (J 10) h.2.2 36) w = false
      rw [rr_unN (x := 36) (by decide)]
      exact h3.2 w (by omega) w1
    · show 0 ≤ rr_un h.1 (J 1 2) (J 10) h.2.2 37
      rw [rr_unN (x := 37) (by decide)]
      exact h5
    · show rr_un h.1 (J 1 2) (J 10) h.2.2 37 ≤ 999
      rw [rr_unN (x := 37) (by decide)]
      exact h6
end GT
/-! the calls of the class -/
section GC
variable {J K M : Nat → Int → Int} {s t u : lf_Z} {f f' g A B sv : Int → Int} {H H' : List rr_H} {X : mn_X} {I : Nat → Int → Int} {a b c d r j n1 n2 : Int} {T : Int → Int}
theorem dy_rJ (hW : mn_W J) (hn : J 1 1 ≠ 0) (h : gp_J J f) : ∀ m : Nat, gp_J J (dy_r J X m f) := by
  intro m
  induction m with
  | zero => exact h
  | succ m ih => rw [dy_rS]; exact dy_nJ hW hn ih
theorem gc_ob {ok : Prop} {f1 : Int → Int} {H1 : List rr_H} {Q : Bool → lf_Z → Prop} (hF : gf_T s.1 f H) (hC : gc_T s.1 f H) (hG : ok → gp_J s.1 f1 ∧ mi_H s.1 H1)
    (k : ∀ (z : Bool) (t : lf_Z) (f' : Int → Int) (H' : List rr_H), gq_o ok 1 0 f1 H1 s.1 f H t.1 f' H' (lf_b z) → gf_T t.1 f' H' → gc_T t.1 f' H' → gc_F s t → Q z t) : (¬ ok → Q false s) ∧ (ok → ∀ t : lf_Z, mc_f s t → rc_S t.1 f1 → rc_H t.1 H1 → Q true t) := by
  have g := gc_o (Q := fun r t => ∀ z : Bool, r = lf_b z → Q z t) (ro := 1) (rn := 0) hF hC hG (fun r t f' H' h1 h2 h3 h4 z e => k z t f' H' (e ▸ h1) h2 h3 h4)
  exact ⟨fun q => g.1 q false rfl, fun q t m h1 h2 => g.2 q t m h1 h2 true rfl⟩
theorem gc_14 {Q : Int → lf_Z → Prop} (hF : gf_T s.1 f H) (hC : gc_T s.1 f H)
    (k : ∀ (r : Int) (t : lf_Z) (f' : Int → Int) (H' : List rr_H), gt_14 a b s.1 f H t.1 f' H' r → gf_T t.1 f' H' → gc_T t.1 f' H' → gc_F s t → Q r t) : fw_14 a b Q s := by
  refine fl_14 (fun q => k (-1) s f H (Or.inl ⟨q, gj_r, rfl, rfl, rfl⟩) hF hC gc_Fr) (fun q => ?_)
  have hR : st_R s.1 (lf_up (lf_up (lf_up s.1 2 (s.1 1 0) a) 3 (s.1 1 0) b) 1 0 (s.1 1 0 + 1)) a b := by
    refine ⟨fun q q1 q2 q3 => (lf_up_row q1).trans ((lf_up_row q3).trans (lf_up_row q2)), ⟨lf_up_s, (lf_up_i (by decide)).trans ((lf_up_c (by decide)).trans (lf_up_c (by decide))), (lf_up_i (by decide)).trans ((lf_up_c (by decide)).trans (lf_up_c (by decide)))⟩, fun q => ⟨?_, ?_⟩⟩
    · refine (lf_up_c (by decide)).trans ((lf_up_c (by decide)).trans ?_)
      by_cases e : q = s.1 1 0
      · rw [e, if_pos rfl]; exact lf_up_s
      · rw [if_neg e]; exact lf_up_i e
    · refine (lf_up_c (by decide)).trans ?_
      by_cases e : q = s.1 1 0
      · rw [e, if_pos rfl]; exact lf_up_s
      · rw [if_neg e]; exact (lf_up_i e).trans (lf_up_c (by decide))
  exact k (s.1 1 0) _ f H (Or.inr ⟨q, hR, rfl, rfl, rfl⟩) (st_F hF q hR) (gc_Te (fun c c0 c1 => hR.1 c (by omega) (by omega) (by omega)) hC) ⟨fun c hc => hR.1 c (by omega) (by omega) (by omega), rfl⟩
theorem gc_17 {Q : Int → lf_Z → Prop} (hF : gf_T s.1 f H) (hC : gc_T s.1 f H)
    (k : ∀ (r : Int) (t : lf_Z) (f' : Int → Int) (H' : List rr_H), gt_17 a b c s.1 f H t.1 f' H' r → gf_T t.1 f' H' → gc_T t.1 f' H' → gc_F s t → Q r t) : fw_17 a b c Q s := by
  refine fl_17 hF.1.1 (fun q => k (-1) s f H (Or.inl ⟨q, gj_r, rfl, rfl, rfl⟩) hF hC gc_Fr) (fun q hc t hR t2 => ?_)
  have e : ∀ x : Nat, (x = 0 ∨ 13 < x) → t.1 x = s.1 x := fun x h => hR.1 x (by omega) (by omega) (by omega) (by omega) (by omega) (by omega) (by omega)
  exact k _ t f H (Or.inr ⟨q, hR, rfl, rfl, rfl⟩) (wy_F hF q hc hR) (gc_Te (fun x x0 x1 => e x (by omega)) hC) ⟨fun x hx => e x (by omega), t2⟩
theorem gc_23 {Q : Int → lf_Z → Prop} (hF : gf_T s.1 f H) (hC : gc_T s.1 f H)
    (k : ∀ (r : Int) (t : lf_Z) (f' : Int → Int) (H' : List rr_H), gt_23 a b c d s.1 f H t.1 f' H' r → gf_T t.1 f' H' → gc_T t.1 f' H' → gc_F s t → Q r t) : fw_23 a b c d Q s := by
  refine fl_23 hF.1.1.2.2.1 (fun q => k (-1) s f H (Or.inl ⟨q, gj_r, rfl, rfl, rfl⟩) hF hC gc_Fr) (fun q hb hc t hR t2 => ?_)
  have e : ∀ x : Nat, (x = 0 ∨ (10 < x ∧ x ≠ 19 ∧ x ≠ 20)) → t.1 x = s.1 x := fun x h => hR.1 x (by omega) (by omega) (by omega) (by omega) (by omega) (by omega) (by omega)
  refine k _ t (pn_f f (s.1 1 2) d) H (Or.inr ⟨q, hR, rfl, rfl, rfl⟩) (pn_F hF q hb hc hR) ⟨pn_C hC.1 hF.1.1.2.2.1.1 q.2.2 hR, ?_⟩ ⟨fun x hx => e x (by omega), t2⟩
  have h2 := hC.2
  unfold rc_H at h2 ⊢
  rw [e 22 (by decide), e 23 (by decide), e 24 (by decide)]
  exact h2
theorem gc_63 {Q : Int → lf_Z → Prop} (hF : gf_T s.1 f H) (hC : gc_T s.1 f H)
    (k : ∀ (r : Int) (t : lf_Z) (f' : Int → Int) (H' : List rr_H), gt_63 a b s.1 f H t.1 f' H' r → gf_T t.1 f' H' → gc_T t.1 f' H' → gc_F s t → Q r t) : fw_63 a b Q s := by
  have g := gc_o (ok := sy_ok s.1 f a b) (ro := sg_b f) (rn := -1) (f1 := rm_b f (sg_b f) a b (-1)) (H1 := rr_K (s.1 1 2, s.1 1 1, f) H) hF hC (fun q => ⟨sy_J hF.1.1 hF.2.1 q, mi_K hF.1.1 hF.2.1 hF.2.2⟩) k
  exact fl_63 (J := s.1) (fun _ _ => rfl) hC.1 hF.2.1 hC.2 g.1 g.2
theorem gc_70 {Q : Int → lf_Z → Prop} (hF : gf_T s.1 f H) (hC : gc_T s.1 f H) (hX : gx_Xc X I s) (hB : gx_XB X) 
    (k : ∀ (r : Int) (t : lf_Z) (f' : Int → Int) (H' : List rr_H), gt_70 X a s.1 f H t.1 f' H' r → gf_T t.1 f' H' → gc_T t.1 f' H' → gc_F s t → Q r t) : fw_70 a Q s := by
  have g := gc_o (ok := mi_ok f a) (ro := mi_al (mi_r s.1 X a.toNat (f, H)).1 12) (rn := -1) (f1 := (mi_r s.1 X a.toNat (f, H)).1) (H1 := (mi_r s.1 X a.toNat (f, H)).2) hF hC (fun q => by
    have m := mi_rJ (X := X) hF.1.1 hF.2.1 hF.2.2 a.toNat (by have q1 := q.1; have q2 := q.2.2; omega)
    exact ⟨m.1, m.2.1⟩) k
  exact fl_70 (J := s.1) (fun _ _ => rfl) hF.1.1 hF.1.2.1 hF.1.2.2.1 hC.1 hF.2.1 hC.2 hX.1 hB.2 hB.1 hX.2 g.1 (fun q t m h1 h2 _ => g.2 q t m h1 h2)
theorem gc_71 {Q : Bool → lf_Z → Prop} (hF : gf_T s.1 f H) (hC : gc_T s.1 f H) (hX : gx_Xc X I s) (hB : gx_XB X) 
    (k : ∀ (z : Bool) (t : lf_Z) (f' : Int → Int) (H' : List rr_H), gt_71 X a s.1 f H t.1 f' H' (lf_b z) → gf_T t.1 f' H' → gc_T t.1 f' H' → gc_F s t → Q z t) : fw_71 a Q s := by
  refine fl_71 (J := s.1) (fun _ _ => rfl) hF.1.1 hF.1.2.1 hF.1.2.2.1 hC.1 hF.2.1 hC.2 hX.1 hB.2 hB.1 hX.2 (fun m t m1 m2 mf hS hH hG => ?_)
  have e : gj_e s.1 t.1 := fun c c0 c1 => mf.1 c (Or.inl (by omega))
  have g := mi_rJ (X := X) hF.1.1 hF.2.1 hF.2.2 m m2
  have w : gc_F s t := ⟨fun c hc => mf.1 c (by omega), mf.2.2.2⟩
  have y := gf_Te e ⟨hF.1, g.1, g.2.1⟩
  exact ⟨fun q => k true t _ _ ⟨e, m, m1, m2, rfl, rfl, Or.inl ⟨q, rfl⟩⟩ y ⟨hS, hH⟩ w, fun q q2 => k false t _ _ ⟨e, m, m1, m2, rfl, rfl, Or.inr ⟨q, q2, rfl⟩⟩ y ⟨hS, hH⟩ w⟩
theorem gc_98 {Q : Bool → lf_Z → Prop} (hF : gf_T s.1 f H) (hC : gc_T s.1 f H)
    (k : ∀ (z : Bool) (t : lf_Z) (f' : Int → Int) (H' : List rr_H), gt_98 a b s.1 f H t.1 f' H' (lf_b z) → gf_T t.1 f' H' → gc_T t.1 f' H' → gc_F s t → Q z t) : fw_98 a b Q s := by
  have g := gc_ob (ok := sd_ok s.1 f a b) (f1 := ds_u1 f (12 + 2 * a + 1) b) (H1 := rr_K (s.1 1 2, s.1 1 1, f) H) hF hC (fun q => ⟨sd_J hF.1.1 hF.2.1 q, mi_K hF.1.1 hF.2.1 hF.2.2⟩) k
  exact fl_98 (J := s.1) (fun _ _ => rfl) hF.1.1 hC.1 hC.2 g.1 g.2
theorem gc_100 {Q : Bool → lf_Z → Prop} (hF : gf_T s.1 f H) (hC : gc_T s.1 f H)
    (k : ∀ (z : Bool) (t : lf_Z) (f' : Int → Int) (H' : List rr_H), gt_100 a b s.1 f H t.1 f' H' (lf_b z) → gf_T t.1 f' H' → gc_T t.1 f' H' → gc_F s t → Q z t) : fw_100 a b Q s := by
  have g := gc_ob (ok := gt_ok s.1 f a b) (f1 := gt_f f a) (H1 := rr_K (s.1 1 2, s.1 1 1, f) H) hF hC (fun q => ⟨gt_J hF.1.1 hF.2.1 q, mi_K hF.1.1 hF.2.1 hF.2.2⟩) k
  exact fl_100 (J := s.1) (fun _ _ => rfl) hF.1.1 hC.1 hC.2 g.1 g.2
theorem gc_102 {Q : Int → lf_Z → Prop} (hF : gf_T s.1 f H) (hC : gc_T s.1 f H)
    (k : ∀ (r : Int) (t : lf_Z) (f' : Int → Int) (H' : List rr_H), gt_102 a b s.1 f H t.1 f' H' r → gf_T t.1 f' H' → gc_T t.1 f' H' → gc_F s t → Q r t) : fw_102 a b Q s := by
  have g := gc_o (ok := sp_ok f a b) (ro := sg_b f) (rn := -1) (f1 := sp_f f a b) (H1 := rr_K (s.1 1 2, s.1 1 1, f) H) hF hC (fun q => ⟨sp_J hF.1.1 hF.2.1 q, mi_K hF.1.1 hF.2.1 hF.2.2⟩) k
  exact fl_102 (J := s.1) (fun _ _ => rfl) hC.1 hF.2.1 hC.2 g.1 g.2
theorem gc_105 {Q : Int → lf_Z → Prop} (hF : gf_T s.1 f H) (hC : gc_T s.1 f H) (hX : gx_Xc X I s) (hB : gx_XB X) 
    (k : ∀ (r : Int) (t : lf_Z) (f' : Int → Int) (H' : List rr_H), gt_105 X a b s.1 f H t.1 f' H' r → gf_T t.1 f' H' → gc_T t.1 f' H' → gc_F s t → Q r t) : fw_105 a b Q s := by
  have hP : dy_ok s.1 a b → gp_J s.1 (dy_r s.1 X b.toNat (dy_s f a)) := fun q => dy_rJ hF.1.1 q.2.2 (gp_J38 hF.1.1 hF.2.1 (by have q1 := q.1; omega)) _
  have g := gc_o (ok := dy_ok s.1 a b) (ro := mi_al (dy_r s.1 X b.toNat (dy_s f a)) 12) (rn := -1) (f1 := dy_r s.1 X b.toNat (dy_s f a)) (H1 := rr_K (s.1 1 2, s.1 1 1, f) H) hF hC (fun q => ⟨hP q, mi_K hF.1.1 hF.2.1 hF.2.2⟩) k
  exact fl_105 (J := s.1) (fun _ _ => rfl) hF.1.1 hF.1.2.1 hF.1.2.2.1 hC.1 hF.2.1 hC.2 hX.1 hB.2 hB.1 hX.2 g.1 (fun q t m h1 h2 _ => g.2 q t m h1 h2)
theorem gc_107 {Q : Int → lf_Z → Prop} (hF : gf_T s.1 f H) (hC : gc_T s.1 f H)
    (k : ∀ (r : Int) (t : lf_Z) (f' : Int → Int) (H' : List rr_H), gt_107 s.1 f H t.1 f' H' r → gf_T t.1 f' H' → gc_T t.1 f' H' → gc_F s t → Q r t) : fw_107 Q s := by
  refine fl_107 hC.2 hF.1.1.2.2.1 (fun h hh => (hF.2.2.2 h hh).1) (fun e => k (-1) s f H ⟨gj_r, Or.inl ⟨fun q => q e, rfl, rfl, rfl⟩⟩ hF hC gc_Fr) (fun h T t e lo hi t2 hS hH => ?_)
  subst e
  have g : gj_e s.1 t.1 := fun c c0 c1 => lo c (by omega)
  have uj := un_J hF (List.cons_ne_nil h T)
  refine k T.length t _ T ⟨g, Or.inr ⟨List.cons_ne_nil h T, rfl, rfl, rfl⟩⟩ (gf_Te g ⟨hF.1, uj.1, uj.2⟩) ⟨hS, hH⟩ ⟨fun c hc => ?_, t2⟩
  by_cases y : c < 15
  · exact lo c y
  · exact hi c (by omega)
end GC
/-! the calls of the reference -/
section GR
variable {J K M : Nat → Int → Int} {s t u : lf_Z} {f f' g A B sv : Int → Int} {H H' : List rr_H} {X : mn_X} {I : Nat → Int → Int} {a b c d r j n1 n2 : Int} {T : Int → Int}
theorem lf_bi {z y : Bool} (h : lf_b z = lf_b y) : z = y := by
  cases z <;> cases y <;> first | rfl | (exact absurd h (by decide))
theorem gr_ob {ok : Prop} {f1 : Int → Int} {H1 : List rr_H} {z : Bool} {Q : Bool → lf_Z → Prop} (hF : gf_T J f H) (hR : gr_T sv J f H (s.1 96)) (hT : gq_o ok 1 0 f1 H1 J f H K f' H' (lf_b z))
    (k : ∀ t : lf_Z, gr_F s t → gr_T sv K f' H' (t.1 96) → Q z t) : (¬ ok → Q false s) ∧ (ok → ∀ t : lf_Z, gr_q s t → rr_S (J 1 1) (J 1 2) f1 (t.1 96) → rh_H (t.1 96) H1 → Q true t) := by
  have g := gr_o (Q := fun r t => ∀ y : Bool, r = lf_b y → Q y t) hF hR hT (fun t h1 h2 y e => by rw [← lf_bi e]; exact k t h1 h2)
  exact ⟨fun q => g.1 q false rfl, fun q t m h1 h2 => g.2 q t m h1 h2 true rfl⟩
theorem gr_182 {Q : Int → lf_Z → Prop} (hF : gf_T J f H) (hR : gr_T sv J f H (s.1 96)) 
    (hT : gt_14 a b J f H K f' H' r) (k : ∀ t : lf_Z, gr_F s t → gr_T sv K f' H' (t.1 96) → Q r t) : fw_182 a b Q s := by
  obtain ⟨hL, hS, hH, hM⟩ := hR
  have e0 : s.1 96 0 = J 1 0 := hL.1
  have w2 := hF.1.1.2.2.1
  have w1 := hF.1.1.2.1
  refine fl_182 (by rw [e0]; exact hF.1.1.1) (fun q => ?_) (fun q t tf t0 ta tb tc tn => ?_)
  · rw [e0] at q
    rcases hT with ⟨_, e, rfl, rfl, rfl⟩ | ⟨q', _⟩
    · exact k s gr_Fr (gr_Te e ⟨hL, hS, hH, hM⟩)
    · exact absurd q' q
  · rw [e0] at q t0 ta tb tc tn ⊢
    rcases hT with ⟨q', _⟩ | ⟨_, hR, rfl, rfl, rfl⟩
    · exact absurd q q'
    · have h12 : J 1 0 < 12 := q.2.2
      have h0 : 0 ≤ J 1 0 := hF.1.1.1.1
      obtain ⟨r1, ⟨r2, r3, r4⟩, r5⟩ := hR
      refine k t ⟨fun c hc _ _ _ => tf.1 c hc, tn 8 (by decide) (by omega), by rw [tf.2]⟩ ⟨st_L hL hF.1.1 h12 r2 r3 r4 (fun x x0 x1 => ?_) ?_ ?_ (fun c c0 c1 => r1 c (by omega) (by omega) (by omega)) t0 ta tb tn, ?_, rh_Hr hF.2.2 hF.1.1 hH (tn 9 (by decide) (by omega)) (fun i i0 => tn i (by omega) (by omega)), ?_⟩
      · exact ⟨by rw [(r5 x).1, if_neg (by omega)], by rw [(r5 x).2, if_neg (by omega)]⟩
      · rw [(r5 (J 1 0)).1, if_pos rfl]
      · rw [(r5 (J 1 0)).2, if_pos rfl]
      · rw [r3, r4]
        exact st_S hS hF.1.1 h12 w1.2 w2.2 hF.2.1.2.1 tc tn
      · rw [r3]
        exact gr_me w1.2 (fun i i0 i1 => tn i (by omega) (by omega)) hM
theorem gr_184 {Q : Int → lf_Z → Prop} (hc : c = 0 ∨ c = 1) (hF : gf_T J f H) (hR : gr_T sv J f H (s.1 96)) 
    (hT : gt_17 a b c J f H K f' H' r) (k : ∀ t : lf_Z, gr_F s t → gr_T sv K f' H' (t.1 96) → Q r t) : fw_184 a b c Q s := by
  obtain ⟨hL, hS, hH, hM⟩ := hR
  have w2 := hF.1.1.2.2.1
  have w1 := hF.1.1.2.1
  refine fl_184 hL hF.1.1 hc (fun q => ?_) (fun q t tf t1 ta tb tc td tm tn => ?_)
  · rcases hT with ⟨_, e, rfl, rfl, rfl⟩ | ⟨q', _⟩
    · exact k s gr_Fr (gr_Te e ⟨hL, hS, hH, hM⟩)
    · exact absurd q' q
  · rcases hT with ⟨q', _⟩ | ⟨_, hR, rfl, rfl, rfl⟩
    · exact absurd q q'
    · have h16 : J 1 1 < 16 := q.2.2.2.1
      obtain ⟨r2, r3, r4⟩ := hR.2.1
      refine k t ⟨fun c hc _ _ _ => tf.1 c hc, tn 8 (by decide) (by omega) (by omega), by rw [tf.2]⟩ ⟨wy_L hL hF.1.1 q hR t1 ta tb tc tn, ?_, rh_Hr hF.2.2 hF.1.1 hH (tn 9 (by decide) (by omega) (by omega)) (fun i i0 => tn i (by omega) (by omega) (by omega)), ?_⟩
      · rw [r3, r4]
        exact wy_S hS hF.1.1 q w2.2 hF.2.1.2.1 td tn
      · rw [r3]
        refine ⟨fun w x0 x1 => ?_, fun w x0 x1 => hM.2 w (by omega) x1⟩
        by_cases y : w = J 1 1
        · exact Or.inl ⟨by rw [y]; exact tm, hM.2 w (by omega) (by omega)⟩
        · exact gr_1e (fun i i0 i1 => tn i (by omega) (by omega) (by omega)) (hM.1 w x0 (by omega))
theorem gr_pn (hF : gf_T J f H) (hR : gr_T sv J f H (s.1 96)) (ok : pn_ok J a d) (hK : pn_R J K a b c d) (tf : rr_f s t) (hB : pn_B (s.1 96) (t.1 96) (J 1 2) a b c d) : gr_F s t ∧ gr_T sv K (pn_f f (J 1 2) d) H (t.1 96) := by
  obtain ⟨hL, hS, hH, hM⟩ := hR
  have w2 := hF.1.1.2.2.1
  have w1 := hF.1.1.2.1
  have n6 : J 1 2 < 6 := ok.2.2
  obtain ⟨r2, r3, r4⟩ := hK.2.1
  have tn : ∀ i : Int, i ≠ 2 → ¬ (126 + 6 * J 1 2 ≤ i ∧ i ≤ 126 + 6 * J 1 2 + 5) → t.1 96 i = s.1 96 i := hB.2.2.2.2.2.2.2
  refine ⟨⟨fun c hc _ _ _ => tf.1 c hc, tn 8 (by decide) (by omega), by rw [tf.2]⟩, pn_L hL hF.1.1 n6 hK hB, ?_, rh_Hr hF.2.2 hF.1.1 hH (tn 9 (by decide) (by omega)) (fun i i0 => tn i (by omega) (by omega)), ?_⟩
  · rw [r3, r4]
    exact pn_S hS w2.1 n6 w1.2 hB
  · rw [r3]
    exact gr_me w1.2 (fun i i0 i1 => tn i (by omega) (by omega)) hM
theorem gr_189 {Q : Int → lf_Z → Prop} (hb : b = 0 ∨ b = 1) (hc : c = 0 ∨ c = 1) (hF : gf_T J f H) (hR : gr_T sv J f H (s.1 96)) 
    (hT : gt_23 a b c d J f H K f' H' r) (k : ∀ t : lf_Z, gr_F s t → gr_T sv K f' H' (t.1 96) → Q r t) : fw_189 a b c d Q s := by
  refine fl_189 hR.1 hF.1.1 hb hc (fun q => ?_) (fun q t tf hB => ?_)
  · rcases hT with ⟨_, e, rfl, rfl, rfl⟩ | ⟨q', _⟩
    · exact k s gr_Fr (gr_Te e hR)
    · exact absurd q' q
  · rcases hT with ⟨q', _⟩ | ⟨_, hK, rfl, rfl, rfl⟩
    · exact absurd q q'
    · have g := gr_pn hF hR q hK tf hB
      exact k t g.1 g.2
theorem gr_190 {Q : Int → lf_Z → Prop} (ha : 0 ≤ a ∧ a ≤ 9) (hF : gf_T J f H) (hR : gr_T sv J f H (s.1 96)) 
    (hT : gt_23 a b c d J f H K f' H' r) (k : ∀ t : lf_Z, gr_F s t → gr_T sv K f' H' (t.1 96) → Q r t) : fw_190 a b c d Q s := by
  refine fl_190 hR.1 hF.1.1 (fun q => ?_) (fun q1 q2 t tf hB => ?_)
  · rcases hT with ⟨_, e, rfl, rfl, rfl⟩ | ⟨q', _⟩
    · exact k s gr_Fr (gr_Te e hR)
    · exact absurd q'.2 q
  · rcases hT with ⟨q', _⟩ | ⟨q, hK, rfl, rfl, rfl⟩
    · exact absurd ⟨ha, q1, q2⟩ q'
    · have g := gr_pn hF hR q hK tf hB
      exact k t g.1 g.2
theorem gr_240 {Q : Int → lf_Z → Prop} (hF : gf_T J f H) (hR : gr_T sv J f H (s.1 96)) 
    (hT : gt_63 a b J f H K f' H' r) (k : ∀ t : lf_Z, gr_F s t → gr_T sv K f' H' (t.1 96) → Q r t) : fw_240 a b Q s := by
  have g := gr_o (ok := sy_ok J f a b) (ro := sg_b f) (rn := -1) (f1 := rm_b f (sg_b f) a b (-1)) (H1 := rr_K (J 1 2, J 1 1, f) H) hF hR hT k
  exact fl_240 hR.1 hF.1.1 hR.2.1 hF.2.1 hR.2.2.1 hF.2.2 g.1 (fun q t m => g.2 q t (gr_qm m))
theorem gr_257 {Q : Int → lf_Z → Prop} (hF : gf_T J f H) (hR : gr_T sv J f H (s.1 96)) (hX : gx_Xr X T s) (hB : gx_XB X) 
    (hT : gt_70 X a J f H K f' H' r) (k : ∀ t : lf_Z, gr_F s t → gr_T sv K f' H' (t.1 96) → Q r t) : fw_257 a Q s := by
  have g := gr_o (ok := mi_ok f a) (ro := mi_al (mi_r J X a.toNat (f, H)).1 12) (rn := -1) (f1 := (mi_r J X a.toNat (f, H)).1) (H1 := (mi_r J X a.toNat (f, H)).2) hF hR hT k
  exact fl_257 hR.1 hF.1.1 hF.1.2.1 hF.1.2.2.1 hR.2.1 hF.2.1 hR.2.2.1 hF.2.2 hX.1 hX.2 hB.1 g.1 (fun q t m h1 h2 _ _ => g.2 q t (gr_qm m) h1 h2)
theorem gr_258 {Q : Bool → lf_Z → Prop} (hF : gf_T J f H) (hR : gr_T sv J f H (s.1 96)) (hX : gx_Xr X T s) (hB : gx_XB X) 
    {z : Bool} (hT : gt_71 X a J f H K f' H' (lf_b z)) (k : ∀ t : lf_Z, gr_F s t → gr_T sv K f' H' (t.1 96) → Q z t) : fw_258 a Q s := by
  obtain ⟨e, m0, m1, m2, rfl, rfl, hz⟩ := hT
  refine fl_258 hR.1 hF.1.1 hF.1.2.1 hF.1.2.2.1 hR.2.1 hF.2.1 hR.2.2.1 hF.2.2 hX.1 hX.2 hB.1 (fun m t n1 n2 mf hS hH _ _ => ?_)
  have key : m = m0 → gr_F s t ∧ gr_T sv K (mi_r J X m0 (f, H)).1 (mi_r J X m0 (f, H)).2 (t.1 96) := by
    intro y
    subst y
    have q := gr_qm mf
    exact ⟨⟨q.1, q.2.1 8 (by unfold rg_p rm_p; omega) (by omega) (by omega), q.2.2⟩, gr_Te e ⟨gr_qL hR.1 hF.1.1 q, hS, hH, gr_me hF.1.1.2.1.2 (fun i i0 i1 => q.2.1 i (by unfold rg_p rm_p; omega) (by omega) (by omega)) hR.2.2.2⟩⟩
  refine ⟨fun q => ?_, fun q q2 => ?_⟩
  · rcases hz with ⟨z1, z2⟩ | ⟨z1, z2, z3⟩
    · have z4 : z = true := lf_bi z2
      subst z4
      have y := key (by omega)
      exact k t y.1 y.2
    · exfalso; omega
  · rcases hz with ⟨z1, z2⟩ | ⟨z1, z2, z3⟩
    · exfalso; omega
    · have z4 : z = false := lf_bi z3
      subst z4
      have y := key (by omega)
      exact k t y.1 y.2
theorem gr_248 {Q : Bool → lf_Z → Prop} (hF : gf_T J f H) (hR : gr_T sv J f H (s.1 96)) 
    {z : Bool} (hT : gt_98 a b J f H K f' H' (lf_b z)) (k : ∀ t : lf_Z, gr_F s t → gr_T sv K f' H' (t.1 96) → Q z t) : fw_248 a b Q s := by
  have g := gr_ob (ok := sd_ok J f a b) (f1 := ds_u1 f (12 + 2 * a + 1) b) (H1 := rr_K (J 1 2, J 1 1, f) H) hF hR hT k
  exact fl_248 hR.1 hF.1.1 hR.2.1 hF.2.1 hR.2.2.1 hF.2.2 g.1 (fun q t m => g.2 q t (gr_qm m))
theorem gr_250 {Q : Bool → lf_Z → Prop} (hb : b = 0 ∨ b = 1) (hF : gf_T J f H) (hR : gr_T sv J f H (s.1 96)) 
    {z : Bool} (hT : gt_100 a b J f H K f' H' (lf_b z)) (k : ∀ t : lf_Z, gr_F s t → gr_T sv K f' H' (t.1 96) → Q z t) : fw_250 a b Q s := by
  have g := gr_ob (ok := gt_ok J f a b) (f1 := gt_f f a) (H1 := rr_K (J 1 2, J 1 1, f) H) hF hR hT k
  have w1 := hF.1.1.2.1
  refine fl_250 hR.1 hF.1.1 hF.1.2.1 hR.2.1 hF.2.1 hR.2.2.1 hF.2.2 hb g.1 (fun q t tc t2 tn => g.2 q t ⟨fun c hc _ _ _ => tc c hc, fun i i0 i1 i2 => tn i (fun y => i0 ?_) i1 i2, by rw [t2]⟩)
  have q1 := q.1
  unfold rg_p rm_p
  omega
theorem gr_253 {Q : Int → lf_Z → Prop} (hF : gf_T J f H) (hR : gr_T sv J f H (s.1 96)) 
    (hT : gt_102 a b J f H K f' H' r) (k : ∀ t : lf_Z, gr_F s t → gr_T sv K f' H' (t.1 96) → Q r t) : fw_253 a b Q s := by
  have g := gr_o (ok := sp_ok f a b) (ro := sg_b f) (rn := -1) (f1 := sp_f f a b) (H1 := rr_K (J 1 2, J 1 1, f) H) hF hR hT k
  exact fl_253 hR.1 hF.1.1 hR.2.1 hF.2.1 hR.2.2.1 hF.2.2 g.1 (fun q t m => g.2 q t (gr_qm m))
theorem gr_282 {Q : Int → lf_Z → Prop} (hF : gf_T J f H) (hR : gr_T sv J f H (s.1 96)) (hX : gx_Xr X T s) (hB : gx_XB X) 
    (hT : gt_105 X a b J f H K f' H' r) (k : ∀ t : lf_Z, gr_F s t → gr_T sv K f' H' (t.1 96) → Q r t) : fw_282 a b Q s := by
  have g := gr_o (ok := dy_ok J a b) (ro := mi_al (dy_r J X b.toNat (dy_s f a)) 12) (rn := -1) (f1 := dy_r J X b.toNat (dy_s f a)) (H1 := rr_K (J 1 2, J 1 1, f) H) hF hR hT k
  exact fl_282 hR.1 hF.1.1 hF.1.2.1 hF.1.2.2.1 hR.2.1 hF.2.1 hR.2.2.1 hF.2.2 hX.1 hX.2 hB.1 g.1 (fun q t tc t2 tn _ h1 h2 => g.2 q t ⟨tc, tn, t2⟩ h1 h2)
theorem gr_238 {Q : Int → lf_Z → Prop} (hF : gf_T J f H) (hR : gr_T sv J f H (s.1 96)) 
    (hT : gt_107 J f H K f' H' r) (k : ∀ t : lf_Z, gr_F s t → gr_T sv K f' H' (t.1 96) → Q r t) : fw_238 Q s := by
  obtain ⟨hL, hS, hH, hM⟩ := hR
  obtain ⟨e, hT⟩ := hT
  have e0 : s.1 96 0 = J 1 0 := hL.1
  have e1 : s.1 96 1 = J 1 1 := hL.2.1
  have e2 : s.1 96 2 = J 1 2 := hL.2.2.1
  refine fl_238 (f := f) (H := H) (tl := J 10) (by rw [e0]; exact hF.1.1.1) (by rw [e1]; exact hF.1.1.2.1) (by rw [e2]; exact hF.1.1.2.2.1) (by rw [e1, e2]; exact hS) (by rw [e0, e1]; exact hF.2.1.2.1) hH.1 hH.2 (fun h hh => ?_) (fun q q0 q1 => (hL.2.2.2.2.2 q q0 (by omega)).2.2.2) (fun y => ?_) (fun h S t y tf tD t9 tH tS => ?_)
  · rw [e0, e1]
    have m := hF.2.2.2 h hh
    exact ⟨m.2.2.1, m.2.1.2⟩
  · rcases hT with ⟨_, rfl, rfl, rfl⟩ | ⟨q', _⟩
    · exact k s gr_Fr (gr_Te e ⟨hL, hS, hH, hM⟩)
    · exact absurd y q'
  · rcases hT with ⟨q', _⟩ | ⟨_, rfl, rfl, rfl⟩
    · exact absurd (by rw [y]; exact List.cons_ne_nil h S) q'
    · subst y
      have tn : ∀ i : Int, ¬ rg_p i → i ≠ 9 → i < 278 → t.1 96 i = s.1 96 i := fun i i0 i1 _ => (lf_up_i i1).symm.trans (tD i (fun y => i0 (by unfold rg_p rm_p; omega)))
      have m : gr_q s t := ⟨fun c hc _ _ _ => tf.1 c hc, tn, by rw [tf.2]⟩
      rw [e1, e2] at tS
      exact k t ⟨m.1, tn 8 (by unfold rg_p rm_p; omega) (by omega) (by omega), m.2.2⟩ (gr_Te e ⟨gr_qL hL hF.1.1 m, tS, ⟨t9, tH⟩, gr_me hF.1.1.2.1.2 (fun i i0 i1 => tn i (by unfold rg_p rm_p; omega) (by omega) (by omega)) hM⟩)
end GR
/-! a text is played -/
section PL
variable {J K M : Nat → Int → Int} {s t u : lf_Z} {f f' g A B sv F : Int → Int} {H H' : List rr_H} {X : mn_X} {I : Nat → Int → Int} {a b c d r j n n1 n2 v w x : Int} {T : Int → Int} {D : List Int} {L : List (Int × Int × Int)} {z : Bool}
/-- what one deed does, and whether it can be -/
def dd_T (X : mn_X) (w v x : Int) (J : Nat → Int → Int) (f : Int → Int) (H : List rr_H) (K : Nat → Int → Int) (f' : Int → Int) (H' : List rr_H) (z : Bool) : Prop := ((w < 23 ∨ 32 < w) → K = J ∧ f' = f ∧ H' = H ∧ z = true)
  ∧ (w = 23 → ∃ r : Int, gt_14 v x J f H K f' H' r ∧ (z = true ↔ r ≠ -1))
  ∧ (w = 24 → ∃ r : Int, gt_17 v x 0 J f H K f' H' r ∧ (z = true ↔ r ≠ -1))
  ∧ (w = 25 → ∃ r : Int, gt_17 v x 1 J f H K f' H' r ∧ (z = true ↔ r ≠ -1))
  ∧ (w = 26 → ∃ r : Int, gt_23 v 0 0 x J f H K f' H' r ∧ (z = true ↔ r ≠ -1))
  ∧ (w = 27 → ∃ r : Int, gt_63 v x J f H K f' H' r ∧ (z = true ↔ r ≠ -1))
  ∧ (w = 28 → gt_98 v x J f H K f' H' (lf_b z))
  ∧ (w = 29 → gt_100 v 0 J f H K f' H' (lf_b z))
  ∧ (w = 30 → gt_100 v 1 J f H K f' H' (lf_b z))
  ∧ (w = 31 → ∃ r : Int, gt_102 v x J f H K f' H' r ∧ (z = true ↔ r ≠ -1))
  ∧ (w = 32 → gt_71 X v J f H K f' H' (lf_b z))
theorem dd_no {r : Int} (h : r = -1) : (false = true ↔ r ≠ -1) := ⟨fun y => Bool.noConfusion y, fun y => absurd h y⟩
theorem dd_ye {r : Int} (h : ¬ r = -1) : (true = true ↔ r ≠ -1) := ⟨fun _ => h, fun _ => rfl⟩
/-- a deed of the class -/
theorem gc_104 {Q : Bool → lf_Z → Prop} (hF : gf_T s.1 f H) (hC : gc_T s.1 f H) (hX : gx_Xc X I s) (hB : gx_XB X)
    (k : ∀ (z : Bool) (t : lf_Z) (f' : Int → Int) (H' : List rr_H), dd_T X w v x s.1 f H t.1 f' H' z → gf_T t.1 f' H' → gc_T t.1 f' H' → gc_F s t → Q z t) : fw_104 w v x Q s := by
  unfold fw_104
  intro _
  refine ⟨fun q => k true s f H ?_ hF hC gc_Fr, fun q => gc_14 hF hC (fun r t f' H' h1 h2 h3 h4 _ => ⟨fun y => k false t f' H' ?_ h2 h3 h4, fun y => k true t f' H' ?_ h2 h3 h4⟩), fun q => gc_17 hF hC (fun r t f' H' h1 h2 h3 h4 _ => ⟨fun y => k false t f' H' ?_ h2 h3 h4, fun y => k true t f' H' ?_ h2 h3 h4⟩), fun q => gc_17 hF hC (fun r t f' H' h1 h2 h3 h4 _ => ⟨fun y => k false t f' H' ?_ h2 h3 h4, fun y => k true t f' H' ?_ h2 h3 h4⟩), fun q => gc_23 hF hC (fun r t f' H' h1 h2 h3 h4 _ => ⟨fun y => k false t f' H' ?_ h2 h3 h4, fun y => k true t f' H' ?_ h2 h3 h4⟩), fun q => gc_63 hF hC (fun r t f' H' h1 h2 h3 h4 _ => ⟨fun y => k false t f' H' ?_ h2 h3 h4, fun y => k true t f' H' ?_ h2 h3 h4⟩), fun q => gc_98 hF hC (fun z t f' H' h1 h2 h3 h4 => k z t f' H' ?_ h2 h3 h4), fun q => gc_100 hF hC (fun z t f' H' h1 h2 h3 h4 => k z t f' H' ?_ h2 h3 h4), fun q => gc_100 hF hC (fun z t f' H' h1 h2 h3 h4 => k z t f' H' ?_ h2 h3 h4), fun q => gc_102 hF hC (fun r t f' H' h1 h2 h3 h4 _ => ⟨fun y => k false t f' H' ?_ h2 h3 h4, fun y => k true t f' H' ?_ h2 h3 h4⟩), fun q => gc_71 hF hC hX hB (fun z t f' H' h1 h2 h3 h4 => k z t f' H' ?_ h2 h3 h4)⟩
  · exact ⟨fun _ => ⟨rfl, rfl, rfl, rfl⟩, fun e => absurd q (by omega), fun e => absurd q (by omega), fun e => absurd q (by omega), fun e => absurd q (by omega), fun e => absurd q (by omega), fun e => absurd q (by omega), fun e => absurd q (by omega), fun e => absurd q (by omega), fun e => absurd q (by omega), fun e => absurd q (by omega)⟩
  · exact ⟨fun e => absurd q (by omega), fun _ => ⟨r, h1, dd_no y⟩, fun e => absurd q (by omega), fun e => absurd q (by omega), fun e => absurd q (by omega), fun e => absurd q (by omega), fun e => absurd q (by omega), fun e => absurd q (by omega), fun e => absurd q (by omega), fun e => absurd q (by omega), fun e => absurd q (by omega)⟩
  · exact ⟨fun e => absurd q (by omega), fun _ => ⟨r, h1, dd_ye y⟩, fun e => absurd q (by omega), fun e => absurd q (by omega), fun e => absurd q (by omega), fun e => absurd q (by omega), fun e => absurd q (by omega), fun e => absurd q (by omega), fun e => absurd q (by omega), fun e => absurd q (by omega), fun e => absurd q (by omega)⟩
  · exact ⟨fun e => absurd q (by omega), fun e => absurd q (by omega), fun _ => ⟨r, h1, dd_no y⟩, fun e => absurd q (by omega), fun e => absurd q (by omega), fun e => absurd q (by omega), fun e => absurd q (by omega), fun e => absurd q (by omega), fun e => absurd q (by omega), fun e => absurd q (by omega), fun e => absurd q (by omega)⟩
  · exact ⟨fun e => absurd q (by omega), fun e => absurd q (by omega), fun _ => ⟨r, h1, dd_ye y⟩, fun e => absurd q (by omega), fun e => absurd q (by omega), fun e => absurd q (by omega), fun e => absurd q (by omega), fun e => absurd q (by omega), fun e => absurd q (by omega), fun e => absurd q (by omega), fun e => absurd q (by omega)⟩
  · exact ⟨fun e => absurd q (by omega), fun e => absurd q (by omega), fun e => absurd q (by omega), fun _ => ⟨r, h1, dd_no y⟩, fun e => absurd q (by omega), fun e => absurd q (by omega), fun e => absurd q (by omega), fun e => absurd q (by omega), fun e => absurd q (by omega), fun e => absurd q (by omega), fun e => absurd q (by omega)⟩
  · exact ⟨fun e => absurd q (by omega), fun e => absurd q (by omega), fun e => absurd q (by omega), fun _ => ⟨r, h1, dd_ye y⟩, fun e => absurd q (by omega), fun e => absurd q (by omega), fun e => absurd q (by omega), fun e => absurd q (by omega), fun e => absurd q (by omega), fun e => absurd q (by omega), fun e => absurd q (by omega)⟩
  · exact ⟨fun e => absurd q (by omega), fun e => absurd q (by omega), fun e => absurd q (by omega), fun e => absurd q (by omega), fun _ => ⟨r, h1, dd_no y⟩, fun e => absurd q (by omega), fun e => absurd q (by omega), fun e => absurd q (by omega), fun e => absurd q (by omega), fun e => absurd q (by omega), fun e => absurd q (by omega)⟩
  · exact ⟨fun e => absurd q (by omega), fun e => absurd q (by omega), fun e => absurd q (by omega), fun e => absurd q (by omega), fun _ => ⟨r, h1, dd_ye y⟩, fun e => absurd q (by omega), fun e => absurd q (by omega), fun e => absurd q (by omega), fun e => absurd q (by omega), fun e => absurd q (by omega), fun e => absurd q (by omega)⟩
  · exact ⟨fun e => absurd q (by omega), fun e => absurd q (by omega), fun e => absurd q (by omega), fun e => absurd q (by omega), fun e => absurd q (by omega), fun _ => ⟨r, h1, dd_no y⟩, fun e => absurd q (by omega), fun e => absurd q (by omega), fun e => absurd q (by omega), fun e => absurd q (by omega), fun e => absurd q (by omega)⟩
  · exact ⟨fun e => absurd q (by omega), fun e => absurd q (by omega), fun e => absurd q (by omega), fun e => absurd q (by omega), fun e => absurd q (by omega), fun _ => ⟨r, h1, dd_ye y⟩, fun e => absurd q (by omega), fun e => absurd q (by omega), fun e => absurd q (by omega), fun e => absurd q (by omega), fun e => absurd q (by omega)⟩
  · exact ⟨fun e => absurd q (by omega), fun e => absurd q (by omega), fun e => absurd q (by omega), fun e => absurd q (by omega), fun e => absurd q (by omega), fun e => absurd q (by omega), fun _ => h1, fun e => absurd q (by omega), fun e => absurd q (by omega), fun e => absurd q (by omega), fun e => absurd q (by omega)⟩
  · exact ⟨fun e => absurd q (by omega), fun e => absurd q (by omega), fun e => absurd q (by omega), fun e => absurd q (by omega), fun e => absurd q (by omega), fun e => absurd q (by omega), fun e => absurd q (by omega), fun _ => h1, fun e => absurd q (by omega), fun e => absurd q (by omega), fun e => absurd q (by omega)⟩
  · exact ⟨fun e => absurd q (by omega), fun e => absurd q (by omega), fun e => absurd q (by omega), fun e => absurd q (by omega), fun e => absurd q (by omega), fun e => absurd q (by omega), fun e => absurd q (by omega), fun e => absurd q (by omega), fun _ => h1, fun e => absurd q (by omega), fun e => absurd q (by omega)⟩
  · exact ⟨fun e => absurd q (by omega), fun e => absurd q (by omega), fun e => absurd q (by omega), fun e => absurd q (by omega), fun e => absurd q (by omega), fun e => absurd q (by omega), fun e => absurd q (by omega), fun e => absurd q (by omega), fun e => absurd q (by omega), fun _ => ⟨r, h1, dd_no y⟩, fun e => absurd q (by omega)⟩
  · exact ⟨fun e => absurd q (by omega), fun e => absurd q (by omega), fun e => absurd q (by omega), fun e => absurd q (by omega), fun e => absurd q (by omega), fun e => absurd q (by omega), fun e => absurd q (by omega), fun e => absurd q (by omega), fun e => absurd q (by omega), fun _ => ⟨r, h1, dd_ye y⟩, fun e => absurd q (by omega)⟩
  · exact ⟨fun e => absurd q (by omega), fun e => absurd q (by omega), fun e => absurd q (by omega), fun e => absurd q (by omega), fun e => absurd q (by omega), fun e => absurd q (by omega), fun e => absurd q (by omega), fun e => absurd q (by omega), fun e => absurd q (by omega), fun e => absurd q (by omega), fun _ => h1⟩
/-! answers are -1 or more -/
theorem gq_oB {ok : Prop} {ro : Int} {f1 : Int → Int} {H1 : List rr_H} (h : gq_o ok ro (-1) f1 H1 J f H K f' H' r) (h0 : ok → 0 ≤ ro) : r = -1 ∨ 0 ≤ r := by
  rcases h.2 with ⟨_, _, _, e⟩ | ⟨q, _, _, e⟩
  · exact Or.inl e
  · exact Or.inr (by rw [e]; exact h0 q)
theorem gt_14B (hF : gf_T J f H) (h : gt_14 a b J f H K f' H' r) : r = -1 ∨ 0 ≤ r := by
  rcases h with ⟨_, _, _, _, e⟩ | ⟨_, _, _, _, e⟩
  · exact Or.inl e
  · exact Or.inr (by rw [e]; exact hF.1.1.1.1)
theorem gt_17B (hF : gf_T J f H) (h : gt_17 a b c J f H K f' H' r) : r = -1 ∨ 0 ≤ r := by
  rcases h with ⟨_, _, _, _, e⟩ | ⟨_, _, _, _, e⟩
  · exact Or.inl e
  · exact Or.inr (by rw [e]; exact hF.1.1.2.1.1)
theorem gt_23B (hF : gf_T J f H) (h : gt_23 a b c d J f H K f' H' r) : r = -1 ∨ 0 ≤ r := by
  rcases h with ⟨_, _, _, _, e⟩ | ⟨_, _, _, _, e⟩
  · exact Or.inl e
  · exact Or.inr (by rw [e]; exact hF.1.1.2.2.1.1)
theorem gt_63B (_ : gf_T J f H) (h : gt_63 a b J f H K f' H' r) : r = -1 ∨ 0 ≤ r := gq_oB h (fun q => by
  rcases sg_bB (f := f) with e | e
  · exact absurd e q.2.2
  · exact e.1)
theorem gt_102B (_ : gf_T J f H) (h : gt_102 a b J f H K f' H' r) : r = -1 ∨ 0 ≤ r := gq_oB h (fun q => by
  rcases sg_bB (f := f) with e | e
  · exact absurd e q.2.2
  · exact e.1)
theorem dd_z0 {r : Int} (h : z = true ↔ r ≠ -1) (hr : r = -1 ∨ 0 ≤ r) (q : r < 0) : z = false := by
  cases z with
  | false => rfl
  | true => exact absurd (h.1 rfl) (fun y => y (by omega))
theorem dd_z1 {r : Int} (h : z = true ↔ r ≠ -1) (q : ¬ r < 0) : z = true := h.2 (by omega)
/-- a deed of the reference -/
theorem gr_281 {Q : Bool → lf_Z → Prop} (e0 : s.1 98 a = w - 20) (e1 : 22 < w → s.1 98 (a + 1) = v) (e2 : 22 < w → tx_sh ((w - 23) * 5 + 2) ≠ 0 → s.1 98 (a + 2) = x) (h9 : w = 26 → 0 ≤ v ∧ v ≤ 9)
    (hF : gf_T J f H) (hR : gr_T sv J f H (s.1 96)) (hX : gx_Xr X T s) (hB : gx_XB X) (hT : dd_T X w v x J f H K f' H' z) (k : ∀ t : lf_Z, gr_F s t → gr_T sv K f' H' (t.1 96) → Q z t) : fw_281 a Q s := by
  obtain ⟨d0, d1, d2, d3, d4, d5, d6, d7, d8, d9, d10⟩ := hT
  unfold fw_281
  intro _ _ _ _
  rw [e0]
  refine ⟨fun q => ?_, fun q => ?_, fun q => ?_, fun q => ?_, fun q => ?_, fun q => ?_, fun q => ?_, fun q => ?_, fun q => ?_, fun q => ?_, fun q => ?_⟩
  · obtain ⟨rfl, rfl, rfl, rfl⟩ := d0 (by omega)
    exact k s gr_Fr hR
  · have c : w = 23 := by omega
    rw [e1 (by omega), e2 (by omega) (by rw [c]; decide)]
    obtain ⟨r, h1, h2⟩ := d1 c
    have hB1 := gt_14B hF h1
    exact gr_182 hF hR h1 (fun t g1 g2 _ => ⟨fun y => dd_z0 h2 hB1 y ▸ k t g1 g2, fun y => dd_z1 h2 y ▸ k t g1 g2⟩)
  · have c : w = 24 := by omega
    rw [e1 (by omega), e2 (by omega) (by rw [c]; decide)]
    obtain ⟨r, h1, h2⟩ := d2 c
    have hB1 := gt_17B hF h1
    exact gr_184 (Or.inl rfl) hF hR h1 (fun t g1 g2 _ => ⟨fun y => dd_z0 h2 hB1 y ▸ k t g1 g2, fun y => dd_z1 h2 y ▸ k t g1 g2⟩)
  · have c : w = 25 := by omega
    rw [e1 (by omega), e2 (by omega) (by rw [c]; decide)]
    obtain ⟨r, h1, h2⟩ := d3 c
    have hB1 := gt_17B hF h1
    exact gr_184 (Or.inr rfl) hF hR h1 (fun t g1 g2 _ => ⟨fun y => dd_z0 h2 hB1 y ▸ k t g1 g2, fun y => dd_z1 h2 y ▸ k t g1 g2⟩)
  · have c : w = 26 := by omega
    rw [e1 (by omega), e2 (by omega) (by rw [c]; decide)]
    obtain ⟨r, h1, h2⟩ := d4 c
    have hB1 := gt_23B hF h1
    exact gr_190 (h9 c) hF hR h1 (fun t g1 g2 _ => ⟨fun y => dd_z0 h2 hB1 y ▸ k t g1 g2, fun y => dd_z1 h2 y ▸ k t g1 g2⟩)
  · have c : w = 27 := by omega
    rw [e1 (by omega), e2 (by omega) (by rw [c]; decide)]
    obtain ⟨r, h1, h2⟩ := d5 c
    have hB1 := gt_63B hF h1
    exact gr_240 hF hR h1 (fun t g1 g2 _ => ⟨fun y => dd_z0 h2 hB1 y ▸ k t g1 g2, fun y => dd_z1 h2 y ▸ k t g1 g2⟩)
  · have c : w = 28 := by omega
    rw [e1 (by omega), e2 (by omega) (by rw [c]; decide)]
    exact gr_248 hF hR (d6 c) k
  · have c : w = 29 := by omega
    rw [e1 (by omega)]
    exact gr_250 (Or.inl rfl) hF hR (d7 c) k
  · have c : w = 30 := by omega
    rw [e1 (by omega)]
    exact gr_250 (Or.inr rfl) hF hR (d8 c) k
  · have c : w = 31 := by omega
    rw [e1 (by omega), e2 (by omega) (by rw [c]; decide)]
    obtain ⟨r, h1, h2⟩ := d9 c
    have hB1 := gt_102B hF h1
    exact gr_253 hF hR h1 (fun t g1 g2 _ => ⟨fun y => dd_z0 h2 hB1 y ▸ k t g1 g2, fun y => dd_z1 h2 y ▸ k t g1 g2⟩)
  · have c : w = 32 := by omega
    rw [e1 (by omega)]
    exact gr_258 hF hR hX hB (d10 c) k
/-! all clauses of a text -/
def pl_T (X : mn_X) : List (Int × Int × Int) → Int → (Nat → Int → Int) → (Int → Int) → List rr_H → (Nat → Int → Int) → (Int → Int) → List rr_H → Int → Prop
  | [], _, J, f, H, K, f', H', r => K = J ∧ f' = f ∧ H' = H ∧ r = -1
  | q :: L, i, J, f, H, K, f', H', r => ∃ (K1 : Nat → Int → Int) (f1 : Int → Int) (H1 : List rr_H) (z : Bool), dd_T X q.1 q.2.1 q.2.2 J f H K1 f1 H1 z ∧ gf_T K1 f1 H1 ∧ ((z = true ∧ pl_T X L (i + 1) K1 f1 H1 K f' H' r) ∨ (z = false ∧ K = K1 ∧ f' = f1 ∧ H' = H1 ∧ r = i))
/-- the clauses as deeds -/
def pl_d (F : Int → Int) (n : Int) (D : List Int) : List (Int × Int × Int) := D.map (fun b => (cs_w F n b, cs_v F n b, cs_x F n b))
theorem pl_dl : (pl_d F n D).length = D.length := List.length_map _
theorem pl_di {i : Nat} {b : Int} (h : D[i]? = some b) : (pl_d F n D)[i]? = some (cs_w F n b, cs_v F n b, cs_x F n b) := by
  unfold pl_d
  rw [List.getElem?_map, h]
  rfl
theorem pl_drop {i : Nat} {b : Int} (h : D[i]? = some b) : (pl_d F n D).drop i = (cs_w F n b, cs_v F n b, cs_x F n b) :: (pl_d F n D).drop (i + 1) := by
  have hi : i < (pl_d F n D).length := by
    have := List.getElem?_eq_some_iff.mp (pl_di (F := F) (n := n) h)
    exact this.1
  rw [List.drop_eq_getElem_cons hi]
  have := List.getElem?_eq_some_iff.mp (pl_di (F := F) (n := n) h)
  rw [this.2]
theorem pl_at {i : Nat} (h : i < D.length) : ∃ b, D[i]? = some b := ⟨D[i], List.getElem?_eq_getElem h⟩
/-- played of the class, behind the choice of the text -/
theorem gc_103p {Q : Int → lf_Z → Prop} {y : Nat} (hl : s.1 (35 + 7 * y) 7 = D.length) (h24 : D.length ≤ 24) (y4 : y < 4) (hrow : ∀ (i : Nat) (b : Int), D[i]? = some b → s.1 (39 + 7 * y) i = cs_w F n b ∧ s.1 (40 + 7 * y) i = cs_v F n b ∧ s.1 (41 + 7 * y) i = cs_x F n b)
    (hF : gf_T s.1 f H) (hC : gc_T s.1 f H) (hX : gx_Xc X I s) (hB : gx_XB X)
    (k : ∀ (r : Int) (t : lf_Z) (f' : Int → Int) (H' : List rr_H), pl_T X (pl_d F n D) 0 s.1 f H t.1 f' H' r → gf_T t.1 f' H' → gc_T t.1 f' H' → gc_F s t → Q r t) : fw_103_p15L Q y 0 s := by
  refine ⟨fun x3 t => ∃ (i : Nat) (fc : Int → Int) (Hc : List rr_H), x3 = i ∧ i ≤ D.length ∧ gf_T t.1 fc Hc ∧ gc_T t.1 fc Hc ∧ gc_F s t ∧ (∀ (K : Nat → Int → Int) (f' : Int → Int) (H' : List rr_H) (r : Int), pl_T X ((pl_d F n D).drop i) i t.1 fc Hc K f' H' r → pl_T X (pl_d F n D) 0 s.1 f H K f' H' r), ?_, ⟨0, f, H, rfl, Nat.zero_le _, hF, hC, gc_Fr, fun K f' H' r h => h⟩⟩
  intro x3 t ⟨i, fc, Hc, hx, hi, tF, tC, tg, ih⟩
  subst hx
  have e7 : t.1 (35 + 7 * y) 7 = D.length := by rw [tg.1 (35 + 7 * y) (by omega)]; exact hl
  unfold fw_103_p15
  intro _
  rw [e7]
  intro _
  have fin : D.length ≤ i → Q (-1) t := fun q => by
    have e : (pl_d F n D).drop i = [] := List.drop_eq_nil_of_le (by rw [pl_dl]; exact q)
    refine k (-1) t fc Hc (ih _ _ _ _ ?_) tF tC tg
    rw [e]
    exact ⟨rfl, rfl, rfl, rfl⟩
  refine ⟨fun q => fin (by omega), fun q => ⟨fun q2 => fin (by omega), fun _ _ => ?_⟩⟩
  obtain ⟨b, hb⟩ := pl_at (D := D) (i := i) (by omega)
  obtain ⟨r1, r2, r3⟩ := hrow i b hb
  have c1 : t.1 (39 + 7 * y) i = cs_w F n b := by rw [tg.1 (39 + 7 * y) (by omega)]; exact r1
  have c2 : t.1 (40 + 7 * y) i = cs_v F n b := by rw [tg.1 (40 + 7 * y) (by omega)]; exact r2
  have c3 : t.1 (41 + 7 * y) i = cs_x F n b := by rw [tg.1 (41 + 7 * y) (by omega)]; exact r3
  rw [c1, c2, c3]
  refine gc_104 tF tC (gx_XcF hX tg) hB (fun z t' f1 H1 h1 h2 h3 h4 => ⟨fun q => ?_, fun q => ?_⟩)
  · refine ⟨i + 1, f1, H1, by omega, by omega, h2, h3, gc_Ft tg h4, fun K f' H' r h => ih K f' H' r ?_⟩
    rw [pl_drop hb]
    exact ⟨t'.1, f1, H1, z, h1, h2, Or.inl ⟨q, h⟩⟩
  · refine k i t' f1 H1 (ih _ _ _ _ ?_) h2 h3 (gc_Ft tg h4)
    rw [pl_drop hb]
    exact ⟨t'.1, f1, H1, z, h1, h2, Or.inr ⟨q, rfl, rfl, rfl, rfl⟩⟩
/-- played of the reference, behind the choice of the text -/
theorem gr_280p {Q : Int → lf_Z → Prop} (hl : s.1 98 (705 * a) = D.length) (hrow : ∀ (i : Nat) (b : Int), D[i]? = some b → s.1 98 (705 * a + 1 + 4 * i) = cs_w F n b - 20 ∧ (22 < cs_w F n b → s.1 98 (705 * a + 1 + 4 * i + 1) = cs_v F n b) ∧ (22 < cs_w F n b → tx_sh ((cs_w F n b - 23) * 5 + 2) ≠ 0 → s.1 98 (705 * a + 1 + 4 * i + 2) = cs_x F n b) ∧ (cs_w F n b = 26 → 0 ≤ cs_v F n b ∧ cs_v F n b ≤ 9))
    (hF : gf_T J f H) (hR : gr_T sv J f H (s.1 96)) (hX : gx_Xr X T s) (hB : gx_XB X) (hT : pl_T X (pl_d F n D) 0 J f H K f' H' r) (k : ∀ t : lf_Z, gr_F s t → gr_T sv K f' H' (t.1 96) → Q r t) : fw_280_p22L Q a 0 s := by
  refine ⟨fun x2 t => ∃ (i : Nat) (Jc : Nat → Int → Int) (fc : Int → Int) (Hc : List rr_H), x2 = i ∧ i ≤ D.length ∧ gf_T Jc fc Hc ∧ gr_T sv Jc fc Hc (t.1 96) ∧ gr_F s t ∧ pl_T X ((pl_d F n D).drop i) i Jc fc Hc K f' H' r, ?_, ⟨0, J, f, H, rfl, Nat.zero_le _, hF, hR, gr_Fr, hT⟩⟩
  intro x2 t ⟨i, Jc, fc, Hc, hx, hi, tF, tR, tg, tT⟩
  subst hx
  have e98 : t.1 98 = s.1 98 := tg.1 98 (by decide) (by decide) (by decide) (by decide)
  unfold fw_280_p22
  intro _ _
  rw [e98, hl]
  intro _
  refine ⟨fun q => ?_, fun q => ?_⟩
  · have e : (pl_d F n D).drop i = [] := List.drop_eq_nil_of_le (by rw [pl_dl]; omega)
    rw [e] at tT
    obtain ⟨rfl, rfl, rfl, rfl⟩ := tT
    exact k t tg tR
  · obtain ⟨b, hb⟩ := pl_at (D := D) (i := i) (by omega)
    obtain ⟨r1, r2, r3, r4⟩ := hrow i b hb
    rw [pl_drop hb] at tT
    obtain ⟨K1, f1, H1, z, g1, g2, g3⟩ := tT
    refine gr_281 (by rw [e98]; exact r1) (fun y => by rw [e98]; exact r2 y) (fun y y2 => by rw [e98]; exact r3 y y2) r4 tF tR (gx_XrF hX tg) hB g1 (fun t' h1 h2 => ⟨fun y => ?_, fun y => ?_⟩)
    · rcases g3 with ⟨_, g3⟩ | ⟨g3, _⟩
      · exact ⟨i + 1, K1, f1, H1, by omega, by omega, g2, h2, gr_Ft tg h1, by rw [show ((i + 1 : Nat) : Int) = (i : Int) + 1 by omega]; exact g3⟩
      · rw [y] at g3; exact Bool.noConfusion g3
    · rcases g3 with ⟨g3, _⟩ | ⟨_, rfl, rfl, rfl, rfl⟩
      · rw [y] at g3; exact Bool.noConfusion g3
      · exact k t' (gr_Ft tg h1) h2
end PL
/-! stopped and home of the reference: nobody more is posted, nothing barred behind them -/
section ZQ
variable {l l' : List Nat} {w w' i v k e : Int} {b b' : Bool} {c : Nat} {I I' I2 : Nat → Int → Int} {P P' P2 : Nat → Option Nat}
def zq_R (k : Int) (l : List Nat) (w : Int) (b : Bool) (I : Nat → Int → Int) (P : Nat → Option Nat) (I' : Nat → Int → Int) (P' : Nat → Option Nat) : Prop := lf_fq l w b I P I' P' ∧ ∀ i : Int, ((4 ≤ i ∧ i ≤ 6) ∨ i = k ∨ i = 30) → I' 95 i = I 95 i
def zq_9 (I : Nat → Int → Int) : Prop := I 95 29 = 0 ∧ I 95 31 = 0 ∧ 0 ≤ I 95 30 ∧ I 95 30 ≤ 9
def zq_E (k e : Int) (l : List Nat) (w : Int) (b : Bool) (I : Nat → Int → Int) (P : Nat → Option Nat) (I' : Nat → Int → Int) (P' : Nat → Option Nat) : Prop := zq_R k l w b I P I' P' ∧ I' 95 e = 0
theorem zq_rf : zq_R k l w b I P I P := ⟨lf_fq_rf, fun _ _ => rfl⟩
theorem zq_tr (h1 : zq_R k l w b I P I' P') (h2 : zq_R k l w b I' P' I2 P2) : zq_R k l w b I P I2 P2 := ⟨lf_fq_tr h1.1 h2.1, fun i a => (h2.2 i a).trans (h1.2 i a)⟩
theorem zq_te (h1 : zq_R k l w b I P I' P') (h2 : zq_E k e l w b I' P' I2 P2) : zq_E k e l w b I P I2 P2 := ⟨zq_tr h1 h2.1, h2.2⟩
theorem zq_wk (h : lf_fq l' w' b' I P I' P') (hl : l'.all (fun c => l.contains c) = true) (hw : w ≤ w') (hb : (b && !b') = false) (h9 : l'.contains 95 = false) : zq_R k l w b I P I' P' := ⟨lf_fq_wk h hl hw hb, fun i _ => congrFun (h.1 95 h9) i⟩
theorem zq_up (h : zq_R k l w b I P I' P') (hc : l.contains c = true) (h96 : c = 96 → w ≤ i ∧ ∀ r, l.contains (1000 + r) = false → ¬ fr_g r i) (h9 : c = 95 → ¬ ((4 ≤ i ∧ i ≤ 6) ∨ i = k ∨ i = 30)) : zq_R k l w b I P (lf_up I' c i v) P' := by
  refine ⟨lf_fq_up h.1 hc h96, fun j a => ?_⟩
  by_cases y : c = 95
  · have := h9 y
    subst y
    exact (lf_up_i (show j ≠ i from fun q => this (q ▸ a))).trans (h.2 j a)
  · exact (lf_up_c (fun q => y q.symm)).trans (h.2 j a)
theorem zq_295_p120 {Q : Int → lf_Z → Prop} {x3 : Int} {s : lf_Z} (hQ : ∀ (r : Int) (s' : lf_Z), iv_A s'.1 s'.2.2 → zq_E 31 29 [95, 104, 107, 111, 112] 1000000 true s.1 s.2.2 s'.1 s'.2.2 → ((-1) ≤ r ∧ r ≤ 4095) → Q r s') (hI : iv_A s.1 s.2.2) (bx3 : (-1) ≤ x3 ∧ x3 ≤ 4095) : fm_295_p120 Q x3 s := by
  unfold fm_295_p120
  have hI8 : iv_A (lf_up s.1 95 29 0) s.2.2 := iv_w95_29 hI (by omega)
  have fr9 : zq_R 31 [95, 104, 107, 111, 112] 1000000 true s.1 s.2.2 (lf_up s.1 95 29 0) s.2.2 := zq_up (zq_rf) rfl (fun h => absurd h (by decide)) (fun _ => by decide)
  exact hQ x3 (lf_up s.1 95 29 0, s.2.1, s.2.2) hI8 ⟨fr9, zu_s⟩ (show (-1 : Int) ≤ x3 ∧ x3 ≤ (4095 : Int) from by omega)
theorem zq_295_p114 {X30 : Int → Int → lf_Z → Prop} {Q : Int → lf_Z → Prop} {x1 : Int} {x3 : Int} {x4 : Int} {s : lf_Z} (hQ : ∀ (r : Int) (s' : lf_Z), iv_A s'.1 s'.2.2 → zq_E 31 29 [95, 104, 107, 111, 112] 1000000 true s.1 s.2.2 s'.1 s'.2.2 → ((-1) ≤ r ∧ r ≤ 4095) → Q r s') {M30 : Nat} (hX30 : ∀ (x3 : Int) (x4 : Int) (s' : lf_Z), iv_A s'.1 s'.2.2 → zq_R 31 [95, 104, 107, 111, 112] 1000000 true s.1 s.2.2 s'.1 s'.2.2 → (-1) ≤ x3 ∧ x3 ≤ 4095 → 0 ≤ x4 ∧ x4 ≤ 4 → (4 - x4).toNat < M30 → X30 x3 x4 s') (hM30 : (4 - x4).toNat ≤ M30) (hI : iv_A s.1 s.2.2) (bx1 : 0 ≤ x1 ∧ x1 ≤ 3) (bx3 : (-1) ≤ x3 ∧ x3 ≤ 4095) (bx4 : 0 ≤ x4 ∧ x4 ≤ 3) : fm_295_p114 X30 Q x1 x3 x4 s := by
  unfold fm_295_p114
  exact hX30 (x3) (x4 + 1) s hI (zq_rf) (show (-1 : Int) ≤ x3 ∧ x3 ≤ (4095 : Int) from by omega) (show (0 : Int) ≤ x4 + 1 ∧ x4 + 1 ≤ (4 : Int) from by omega) (show (4 - (x4 + 1)).toNat < M30 from by omega)
theorem zq_295_p108 {X30 : Int → Int → lf_Z → Prop} {X43 : Int → Int → lf_Z → Prop} {Q : Int → lf_Z → Prop} {x1 : Int} {x3 : Int} {x4 : Int} {x5 : Int} {s : lf_Z} (hQ : ∀ (r : Int) (s' : lf_Z), iv_A s'.1 s'.2.2 → zq_E 31 29 [95, 104, 107, 111, 112] 1000000 true s.1 s.2.2 s'.1 s'.2.2 → ((-1) ≤ r ∧ r ≤ 4095) → Q r s') {M30 : Nat} (hX30 : ∀ (x3 : Int) (x4 : Int) (s' : lf_Z), iv_A s'.1 s'.2.2 → zq_R 31 [95, 104, 107, 111, 112] 1000000 true s.1 s.2.2 s'.1 s'.2.2 → (-1) ≤ x3 ∧ x3 ≤ 4095 → 0 ≤ x4 ∧ x4 ≤ 4 → (4 - x4).toNat < M30 → X30 x3 x4 s') (hM30 : (4 - x4).toNat ≤ M30) {M43 : Nat} (hX43 : ∀ (x3 : Int) (x5 : Int) (s' : lf_Z), iv_A s'.1 s'.2.2 → zq_R 31 [95, 104, 107, 111, 112] 1000000 true s.1 s.2.2 s'.1 s'.2.2 → (-1) ≤ x3 ∧ x3 ≤ 4095 → 0 ≤ x5 ∧ x5 ≤ 2147483647 → (2147483647 - x5).toNat < M43 → X43 x3 x5 s') (hM43 : (2147483647 - x5).toNat ≤ M43) (hI : iv_A s.1 s.2.2) (bx1 : 0 ≤ x1 ∧ x1 ≤ 3) (bx3 : (-1) ≤ x3 ∧ x3 ≤ 4095) (bx4 : 0 ≤ x4 ∧ x4 ≤ 3) (bx5 : 0 ≤ x5 ∧ x5 ≤ 2147483646) : fm_295_p108 X30 X43 Q x1 x3 x4 x5 s := by
  unfold fm_295_p108
  exact hX43 (x3) (x5 + 1) s hI (zq_rf) (show (-1 : Int) ≤ x3 ∧ x3 ≤ (4095 : Int) from by omega) (show (0 : Int) ≤ x5 + 1 ∧ x5 + 1 ≤ (2147483647 : Int) from by omega) (show (2147483647 - (x5 + 1)).toNat < M43 from by omega)
theorem zq_295_p43 {X30 : Int → Int → lf_Z → Prop} {X43 : Int → Int → lf_Z → Prop} {Q : Int → lf_Z → Prop} {x1 : Int} {x3 : Int} {x4 : Int} {x5 : Int} {s : lf_Z} (hQ : ∀ (r : Int) (s' : lf_Z), iv_A s'.1 s'.2.2 → zq_E 31 29 [95, 104, 107, 111, 112] 1000000 true s.1 s.2.2 s'.1 s'.2.2 → ((-1) ≤ r ∧ r ≤ 4095) → Q r s') {M30 : Nat} (hX30 : ∀ (x3 : Int) (x4 : Int) (s' : lf_Z), iv_A s'.1 s'.2.2 → zq_R 31 [95, 104, 107, 111, 112] 1000000 true s.1 s.2.2 s'.1 s'.2.2 → (-1) ≤ x3 ∧ x3 ≤ 4095 → 0 ≤ x4 ∧ x4 ≤ 4 → (4 - x4).toNat < M30 → X30 x3 x4 s') (hM30 : (4 - x4).toNat ≤ M30) {M43 : Nat} (hX43 : ∀ (x3 : Int) (x5 : Int) (s' : lf_Z), iv_A s'.1 s'.2.2 → zq_R 31 [95, 104, 107, 111, 112] 1000000 true s.1 s.2.2 s'.1 s'.2.2 → (-1) ≤ x3 ∧ x3 ≤ 4095 → 0 ≤ x5 ∧ x5 ≤ 2147483647 → (2147483647 - x5).toNat < M43 → X43 x3 x5 s') (hM43 : (2147483647 - x5).toNat ≤ M43) (hI : iv_A s.1 s.2.2) (bx1 : 0 ≤ x1 ∧ x1 ≤ 3) (bx3 : (-1) ≤ x3 ∧ x3 ≤ 4095) (bx4 : 0 ≤ x4 ∧ x4 ≤ 3) (bx5 : 0 ≤ x5 ∧ x5 ≤ 2147483647) : fm_295_p43 X30 Q x1 x4 X43 x3 x5 s := by
  unfold fm_295_p43
  have b11 : 0 ≤ s.1 96 0 ∧ s.1 96 0 ≤ 12 := iv_rd96 hI (iv_f3e1fa21c (by omega))
  have b12 : 1 ≤ lf_shl 1 (s.1 96 0) ∧ lf_shl 1 (s.1 96 0) ≤ 4096 := lf_shl1 (m := 12) (by omega) (by omega) (by decide)
  refine ⟨(show lf_R x5 from lf_Rof (by omega)), ?_⟩
  refine ⟨fun c13 => ?_, fun c13 => ?_⟩
  · skip
    replace c13 : lf_shl 1 (s.1 96 0) ≤ x5 := c13
    exact zq_295_p114 hQ hX30 (show (4 - x4).toNat ≤ M30 from by omega) hI (show (0 : Int) ≤ x1 ∧ x1 ≤ (3 : Int) from by omega) (show (-1 : Int) ≤ x3 ∧ x3 ≤ (4095 : Int) from by omega) (show (0 : Int) ≤ x4 ∧ x4 ≤ (3 : Int) from by omega)
  · skip
    replace c13 : ¬ (lf_shl 1 (s.1 96 0) ≤ x5) := c13
    refine ⟨(show lf_R x3 from lf_Rof (by omega)), ?_⟩
    refine ⟨fun c14 => ?_, fun c14 => ?_⟩
    · skip
      replace c14 : 0 ≤ x3 := c14
      exact zq_295_p114 hQ hX30 (show (4 - x4).toNat ≤ M30 from by omega) hI (show (0 : Int) ≤ x1 ∧ x1 ≤ (3 : Int) from by omega) (show (-1 : Int) ≤ x3 ∧ x3 ≤ (4095 : Int) from by omega) (show (0 : Int) ≤ x4 ∧ x4 ≤ (3 : Int) from by omega)
    · skip
      replace c14 : ¬ (0 ≤ x3) := c14
      refine sm_188 hI (show (-2147483648 : Int) ≤ x5 ∧ x5 ≤ (2147483647 : Int) from by omega) (fun r30 ps16 q15 => ?_)
      replace ps16 : r30 = lf_bt (x5) 16 := ps16
      refine ⟨(show lf_R r30 from lf_Rof (by omega)), ?_⟩
      refine ⟨(show lf_R x4 from lf_Rof (by omega)), ?_⟩
      refine ⟨fun c17 => ?_, fun c17 => ?_⟩
      · skip
        replace c17 : r30 ≠ x4 := c17
        exact zq_295_p108 hQ hX30 (show (4 - x4).toNat ≤ M30 from by omega) hX43 (show (2147483647 - x5).toNat ≤ M43 from by omega) hI (show (0 : Int) ≤ x1 ∧ x1 ≤ (3 : Int) from by omega) (show (-1 : Int) ≤ x3 ∧ x3 ≤ (4095 : Int) from by omega) (show (0 : Int) ≤ x4 ∧ x4 ≤ (3 : Int) from by omega) (show (0 : Int) ≤ x5 ∧ x5 ≤ (2147483646 : Int) from by omega)
      · skip
        replace c17 : ¬ (r30 ≠ x4) := c17
        refine sm_255 hI (show (0 : Int) ≤ x1 ∧ x1 ≤ (3 : Int) from by omega) (fun r34 q18 => ?_)
        refine sm_210 hI (show (-2147483648 : Int) ≤ x5 ∧ x5 ≤ (2147483647 : Int) from by omega) (show (-1 : Int) ≤ r34 ∧ r34 ≤ (15 : Int) from by omega) (fun z36 q19 => ?_)
        refine ⟨fun c20 => ?_, fun c20 => ?_⟩
        · skip
          have dc20 := q19.2 c20
          have hI21 : iv_A (lf_up s.1 95 29 x5) s.2.2 := iv_w95_29 hI (by omega)
          have fr22 : zq_R 31 [95, 104, 107, 111, 112] 1000000 true s.1 s.2.2 (lf_up s.1 95 29 x5) s.2.2 := zq_up (zq_rf) rfl (fun h => absurd h (by decide)) (fun _ => by decide)
          refine sm_294 hI21 (show (0 : Int) ≤ x1 ∧ x1 ≤ (3 : Int) from by omega) (fun r38 s37 hI24 fr23 q25 => ?_)
          have fr26 : zq_R 31 [95, 104, 107, 111, 112] 1000000 true s.1 s.2.2 s37.1 s37.2.2 := zq_tr fr22 (zq_wk fr23 rfl (by decide) (by decide) rfl)
          refine sm_296 hI24 (show (-2147483648 : Int) ≤ r38 ∧ r38 ≤ (2147483647 : Int) from by omega) (show (0 : Int) ≤ 2 ∧ 2 ≤ (3 : Int) from by omega) (fun r40 q27 => ?_)
          refine ⟨(show lf_R r40 from lf_Rof (by omega)), ?_⟩
          refine ⟨fun c28 => ?_, fun c28 => ?_⟩
          · skip
            replace c28 : r40 ≠ 0 := c28
            exact zq_295_p108 (fun r9 t9 i9 f9 => hQ r9 t9 i9 (zq_te fr26 f9)) (fun p0 p1 t9 i9 f9 => hX30 p0 p1 t9 i9 (zq_tr fr26 f9)) (show (4 - x4).toNat ≤ M30 from by omega) (fun p0 p1 t9 i9 f9 => hX43 p0 p1 t9 i9 (zq_tr fr26 f9)) (show (2147483647 - x5).toNat ≤ M43 from by omega) hI24 (show (0 : Int) ≤ x1 ∧ x1 ≤ (3 : Int) from by omega) (show (-1 : Int) ≤ x3 ∧ x3 ≤ (4095 : Int) from by omega) (show (0 : Int) ≤ x4 ∧ x4 ≤ (3 : Int) from by omega) (show (0 : Int) ≤ x5 ∧ x5 ≤ (2147483646 : Int) from by omega)
          · skip
            replace c28 : ¬ (r40 ≠ 0) := c28
            exact zq_295_p108 (fun r9 t9 i9 f9 => hQ r9 t9 i9 (zq_te fr26 f9)) (fun p0 p1 t9 i9 f9 => hX30 p0 p1 t9 i9 (zq_tr fr26 f9)) (show (4 - x4).toNat ≤ M30 from by omega) (fun p0 p1 t9 i9 f9 => hX43 p0 p1 t9 i9 (zq_tr fr26 f9)) (show (2147483647 - x5).toNat ≤ M43 from by omega) hI24 (show (0 : Int) ≤ x1 ∧ x1 ≤ (3 : Int) from by omega) (show (-1 : Int) ≤ x5 ∧ x5 ≤ (4095 : Int) from by omega) (show (0 : Int) ≤ x4 ∧ x4 ≤ (3 : Int) from by omega) (show (0 : Int) ≤ x5 ∧ x5 ≤ (2147483646 : Int) from by omega)
        · skip
          have dc20 := q19.1 c20
          exact zq_295_p108 hQ hX30 (show (4 - x4).toNat ≤ M30 from by omega) hX43 (show (2147483647 - x5).toNat ≤ M43 from by omega) hI (show (0 : Int) ≤ x1 ∧ x1 ≤ (3 : Int) from by omega) (show (-1 : Int) ≤ x3 ∧ x3 ≤ (4095 : Int) from by omega) (show (0 : Int) ≤ x4 ∧ x4 ≤ (3 : Int) from by omega) (show (0 : Int) ≤ x5 ∧ x5 ≤ (2147483646 : Int) from by omega)
theorem zq_295_p43L {X30 : Int → Int → lf_Z → Prop} {Q : Int → lf_Z → Prop} {x1 : Int} {x3 : Int} {x4 : Int} {x5 : Int} {s : lf_Z} (hQ : ∀ (r : Int) (s' : lf_Z), iv_A s'.1 s'.2.2 → zq_E 31 29 [95, 104, 107, 111, 112] 1000000 true s.1 s.2.2 s'.1 s'.2.2 → ((-1) ≤ r ∧ r ≤ 4095) → Q r s') {M30 : Nat} (hX30 : ∀ (x3 : Int) (x4 : Int) (s' : lf_Z), iv_A s'.1 s'.2.2 → zq_R 31 [95, 104, 107, 111, 112] 1000000 true s.1 s.2.2 s'.1 s'.2.2 → (-1) ≤ x3 ∧ x3 ≤ 4095 → 0 ≤ x4 ∧ x4 ≤ 4 → (4 - x4).toNat < M30 → X30 x3 x4 s') (hM30 : (4 - x4).toNat ≤ M30) (hI : iv_A s.1 s.2.2) (bx1 : 0 ≤ x1 ∧ x1 ≤ 3) (bx3 : (-1) ≤ x3 ∧ x3 ≤ 4095) (bx4 : 0 ≤ x4 ∧ x4 ≤ 3) (bx5 : 0 ≤ x5 ∧ x5 ≤ 2147483647) : fm_295_p43L X30 Q x1 x3 x4 x5 s := by
  intro X43 hX
  have key : ∀ (m9 : Nat) (x3 : Int) (x5 : Int) (s' : lf_Z), iv_A s'.1 s'.2.2 → zq_R 31 [95, 104, 107, 111, 112] 1000000 true s.1 s.2.2 s'.1 s'.2.2 → (-1) ≤ x3 ∧ x3 ≤ 4095 → 0 ≤ x5 ∧ x5 ≤ 2147483647 → (2147483647 - x5).toNat < m9 → X43 x3 x5 s' := by
    intro m9
    induction m9 with
    | zero => intro x3 x5 s' _ _ bx3 bx5 h9; exact absurd h9 (Nat.not_lt_zero _)
    | succ m9 ih => intro x3 x5 s' i7 f7 bx3 bx5 h9; exact hX _ _ _ (zq_295_p43 (fun r9 t9 i9 f9 => hQ r9 t9 i9 (zq_te f7 f9))  (fun p0 p1 t9 i9 f9 => hX30 p0 p1 t9 i9 (zq_tr f7 f9)) hM30 (fun x3' x5' t8 i8 f8 bx3' bx5' h8 => ih x3' x5' t8 i8 (zq_tr f7 f8) bx3' bx5' (by omega)) (Nat.le_refl _)  i7  bx1 bx3 bx4 bx5  )
  exact key _ _ _ s hI zq_rf bx3 bx5 (Nat.lt_succ_self _)
theorem zq_295_p30 {X30 : Int → Int → lf_Z → Prop} {Q : Int → lf_Z → Prop} {x1 : Int} {x3 : Int} {x4 : Int} {s : lf_Z} (hQ : ∀ (r : Int) (s' : lf_Z), iv_A s'.1 s'.2.2 → zq_E 31 29 [95, 104, 107, 111, 112] 1000000 true s.1 s.2.2 s'.1 s'.2.2 → ((-1) ≤ r ∧ r ≤ 4095) → Q r s') {M30 : Nat} (hX30 : ∀ (x3 : Int) (x4 : Int) (s' : lf_Z), iv_A s'.1 s'.2.2 → zq_R 31 [95, 104, 107, 111, 112] 1000000 true s.1 s.2.2 s'.1 s'.2.2 → (-1) ≤ x3 ∧ x3 ≤ 4095 → 0 ≤ x4 ∧ x4 ≤ 4 → (4 - x4).toNat < M30 → X30 x3 x4 s') (hM30 : (4 - x4).toNat ≤ M30) (hI : iv_A s.1 s.2.2) (bx1 : 0 ≤ x1 ∧ x1 ≤ 3) (bx3 : (-1) ≤ x3 ∧ x3 ≤ 4095) (bx4 : 0 ≤ x4 ∧ x4 ≤ 4) : fm_295_p30 Q x1 X30 x3 x4 s := by
  unfold fm_295_p30
  refine ⟨(show lf_R x4 from lf_Rof (by omega)), ?_⟩
  refine ⟨fun c7 => ?_, fun c7 => ?_⟩
  · skip
    replace c7 : 3 < x4 := c7
    exact zq_295_p120 hQ hI (show (-1 : Int) ≤ x3 ∧ x3 ≤ (4095 : Int) from by omega)
  · skip
    replace c7 : ¬ (3 < x4) := c7
    refine ⟨(show lf_R x3 from lf_Rof (by omega)), ?_⟩
    refine ⟨fun c10 => ?_, fun c10 => ?_⟩
    · skip
      replace c10 : 0 ≤ x3 := c10
      exact zq_295_p120 hQ hI (show (-1 : Int) ≤ x3 ∧ x3 ≤ (4095 : Int) from by omega)
    · skip
      replace c10 : ¬ (0 ≤ x3) := c10
      exact zq_295_p43L hQ hX30 (show (4 - x4).toNat ≤ M30 from by omega) hI (show (0 : Int) ≤ x1 ∧ x1 ≤ (3 : Int) from by omega) (show (-1 : Int) ≤ x3 ∧ x3 ≤ (4095 : Int) from by omega) (show (0 : Int) ≤ x4 ∧ x4 ≤ (3 : Int) from by omega) (show (0 : Int) ≤ 0 ∧ 0 ≤ (2147483647 : Int) from by omega)
theorem zq_295_p30L {Q : Int → lf_Z → Prop} {x1 : Int} {x3 : Int} {x4 : Int} {s : lf_Z} (hQ : ∀ (r : Int) (s' : lf_Z), iv_A s'.1 s'.2.2 → zq_E 31 29 [95, 104, 107, 111, 112] 1000000 true s.1 s.2.2 s'.1 s'.2.2 → ((-1) ≤ r ∧ r ≤ 4095) → Q r s') (hI : iv_A s.1 s.2.2) (bx1 : 0 ≤ x1 ∧ x1 ≤ 3) (bx3 : (-1) ≤ x3 ∧ x3 ≤ 4095) (bx4 : 0 ≤ x4 ∧ x4 ≤ 4) : fm_295_p30L Q x1 x3 x4 s := by
  intro X30 hX
  have key : ∀ (m9 : Nat) (x3 : Int) (x4 : Int) (s' : lf_Z), iv_A s'.1 s'.2.2 → zq_R 31 [95, 104, 107, 111, 112] 1000000 true s.1 s.2.2 s'.1 s'.2.2 → (-1) ≤ x3 ∧ x3 ≤ 4095 → 0 ≤ x4 ∧ x4 ≤ 4 → (4 - x4).toNat < m9 → X30 x3 x4 s' := by
    intro m9
    induction m9 with
    | zero => intro x3 x4 s' _ _ bx3 bx4 h9; exact absurd h9 (Nat.not_lt_zero _)
    | succ m9 ih => intro x3 x4 s' i7 f7 bx3 bx4 h9; exact hX _ _ _ (zq_295_p30 (fun r9 t9 i9 f9 => hQ r9 t9 i9 (zq_te f7 f9))   (fun x3' x4' t8 i8 f8 bx3' bx4' h8 => ih x3' x4' t8 i8 (zq_tr f7 f8) bx3' bx4' (by omega)) (Nat.le_refl _)  i7  bx1 bx3 bx4  )
  exact key _ _ _ s hI zq_rf bx3 bx4 (Nat.lt_succ_self _)
theorem zr_295 {a1 : Int} {a2 : Int} {Q : Int → lf_Z → Prop} {s : lf_Z} (hI : iv_A s.1 s.2.2) (h0 : zq_9 s.1) (ba1 : (-2147483648) ≤ a1 ∧ a1 ≤ 2147483647) (ba2 : (-2147483648) ≤ a2 ∧ a2 ≤ 2147483647) (hQ : ∀ (r : Int) (s' : lf_Z), iv_A s'.1 s'.2.2 → lf_fq [95, 104, 107, 111, 112] 1000000 true s.1 s.2.2 s'.1 s'.2.2 → ((∀ i : Int, 4 ≤ i → i ≤ 6 → s'.1 95 i = s.1 95 i) ∧ zq_9 s'.1) → ((-1) ≤ r ∧ r ≤ 4095) → Q r s') : fm_295 a1 a2 Q s := by
  unfold fm_295
  refine sm_254 hI (show (-2147483648 : Int) ≤ a1 ∧ a1 ≤ (2147483647 : Int) from by omega) (fun z22 q1 => ?_)
  refine ⟨fun c2 => ?_, fun c2 => ?_⟩
  · skip
    have dc2 := q1.2 c2
    exact hQ (-1) s hI (lf_fq_rf) ⟨fun _ _ _ => rfl, h0⟩ (show (-1 : Int) ≤ (-1) ∧ (-1) ≤ (4095 : Int) from by omega)
  · skip
    have dc2 := q1.1 c2
    refine sm_183 hI (show (-2147483648 : Int) ≤ a2 ∧ a2 ≤ (2147483647 : Int) from by omega) (show (-1 : Int) ≤ 0 ∧ 0 ≤ (97 : Int) from by omega) (show (-1 : Int) ≤ 9 ∧ 9 ≤ (9999 : Int) from by omega) (fun z24 q3 => ?_)
    refine ⟨fun c4 => ?_, fun c4 => ?_⟩
    · skip
      have dc4 := q3.1 c4
      have hI5 : iv_A (lf_up s.1 95 30 a2) s.2.2 := iv_w95_30 hI (by omega)
      have fr6 : lf_fq [95, 104, 107, 111, 112] 1000000 true s.1 s.2.2 (lf_up s.1 95 30 a2) s.2.2 := lf_fq_up (lf_fq_rf) rfl (fun h => absurd h (by decide))
      exact zq_295_p30L (fun r9 t9 i9 f9 b9 => hQ r9 t9 i9 (lf_fq_tr fr6 f9.1.1) ⟨fun i j0 j1 => (f9.1.2 i (Or.inl ⟨j0, j1⟩)).trans (zu_i (by omega)), f9.2, (f9.1.2 31 (by decide)).trans ((zu_i (by decide)).trans h0.2.1), by rw [show t9.1 95 30 = a2 from (f9.1.2 30 (by decide)).trans zu_s]; omega⟩ b9) hI5 (show (0 : Int) ≤ a1 ∧ a1 ≤ (3 : Int) from by omega) (show (-1 : Int) ≤ (-1) ∧ (-1) ≤ (4095 : Int) from by omega) (show (0 : Int) ≤ 0 ∧ 0 ≤ (4 : Int) from by omega)
    · skip
      have dc4 := q3.2 c4
      exact hQ (-1) s hI (lf_fq_rf) ⟨fun _ _ _ => rfl, h0⟩ (show (-1 : Int) ≤ (-1) ∧ (-1) ≤ (4095 : Int) from by omega)
theorem zq_297_p176 {Q : Int → lf_Z → Prop} {x2 : Int} {s : lf_Z} (hQ : ∀ (r : Int) (s' : lf_Z), iv_A s'.1 s'.2.2 → zq_E 29 31 [95, 104, 107, 111, 112] 1000000 true s.1 s.2.2 s'.1 s'.2.2 → ((-1) ≤ r ∧ r ≤ 65535) → Q r s') (hI : iv_A s.1 s.2.2) (bx2 : (-1) ≤ x2 ∧ x2 ≤ 65535) : fm_297_p176 Q x2 s := by
  unfold fm_297_p176
  have hI7 : iv_A (lf_up s.1 95 31 0) s.2.2 := iv_w95_31 hI (by omega)
  have fr8 : zq_R 29 [95, 104, 107, 111, 112] 1000000 true s.1 s.2.2 (lf_up s.1 95 31 0) s.2.2 := zq_up (zq_rf) rfl (fun h => absurd h (by decide)) (fun _ => by decide)
  exact hQ x2 (lf_up s.1 95 31 0, s.2.1, s.2.2) hI7 ⟨fr8, zu_s⟩ (show (-1 : Int) ≤ x2 ∧ x2 ≤ (65535 : Int) from by omega)
theorem zq_297_p170 {X66 : Int → Int → lf_Z → Prop} {Q : Int → lf_Z → Prop} {x1 : Int} {x2 : Int} {x3 : Int} {x4 : Int} {s : lf_Z} (hQ : ∀ (r : Int) (s' : lf_Z), iv_A s'.1 s'.2.2 → zq_E 29 31 [95, 104, 107, 111, 112] 1000000 true s.1 s.2.2 s'.1 s'.2.2 → ((-1) ≤ r ∧ r ≤ 65535) → Q r s') {M66 : Nat} (hX66 : ∀ (x2 : Int) (x4 : Int) (s' : lf_Z), iv_A s'.1 s'.2.2 → zq_R 29 [95, 104, 107, 111, 112] 1000000 true s.1 s.2.2 s'.1 s'.2.2 → (-1) ≤ x2 ∧ x2 ≤ 65535 → 0 ≤ x4 ∧ x4 ≤ 4 → (4 - x4).toNat < M66 → X66 x2 x4 s') (hM66 : (4 - x4).toNat ≤ M66) (hI : iv_A s.1 s.2.2) (bx1 : 0 ≤ x1 ∧ x1 ≤ 3) (bx2 : (-1) ≤ x2 ∧ x2 ≤ 65535) (bx3 : (-2147483648) ≤ x3 ∧ x3 ≤ 2147483647) (bx4 : 0 ≤ x4 ∧ x4 ≤ 3) : fm_297_p170 X66 Q x1 x2 x3 x4 s := by
  unfold fm_297_p170
  exact hX66 (x2) (x4 + 1) s hI (zq_rf) (show (-1 : Int) ≤ x2 ∧ x2 ≤ (65535 : Int) from by omega) (show (0 : Int) ≤ x4 + 1 ∧ x4 + 1 ≤ (4 : Int) from by omega) (show (4 - (x4 + 1)).toNat < M66 from by omega)
theorem zq_297_p164 {X66 : Int → Int → lf_Z → Prop} {X79 : Int → Int → lf_Z → Prop} {Q : Int → lf_Z → Prop} {x1 : Int} {x2 : Int} {x3 : Int} {x4 : Int} {x5 : Int} {s : lf_Z} (hQ : ∀ (r : Int) (s' : lf_Z), iv_A s'.1 s'.2.2 → zq_E 29 31 [95, 104, 107, 111, 112] 1000000 true s.1 s.2.2 s'.1 s'.2.2 → ((-1) ≤ r ∧ r ≤ 65535) → Q r s') {M66 : Nat} (hX66 : ∀ (x2 : Int) (x4 : Int) (s' : lf_Z), iv_A s'.1 s'.2.2 → zq_R 29 [95, 104, 107, 111, 112] 1000000 true s.1 s.2.2 s'.1 s'.2.2 → (-1) ≤ x2 ∧ x2 ≤ 65535 → 0 ≤ x4 ∧ x4 ≤ 4 → (4 - x4).toNat < M66 → X66 x2 x4 s') (hM66 : (4 - x4).toNat ≤ M66) {M79 : Nat} (hX79 : ∀ (x2 : Int) (x5 : Int) (s' : lf_Z), iv_A s'.1 s'.2.2 → zq_R 29 [95, 104, 107, 111, 112] 1000000 true s.1 s.2.2 s'.1 s'.2.2 → (-1) ≤ x2 ∧ x2 ≤ 65535 → 0 ≤ x5 ∧ x5 ≤ 2147483647 → (2147483647 - x5).toNat < M79 → X79 x2 x5 s') (hM79 : (2147483647 - x5).toNat ≤ M79) (hI : iv_A s.1 s.2.2) (bx1 : 0 ≤ x1 ∧ x1 ≤ 3) (bx2 : (-1) ≤ x2 ∧ x2 ≤ 65535) (bx3 : (-2147483648) ≤ x3 ∧ x3 ≤ 2147483647) (bx4 : 0 ≤ x4 ∧ x4 ≤ 3) (bx5 : 0 ≤ x5 ∧ x5 ≤ 2147483646) : fm_297_p164 X66 X79 Q x1 x2 x3 x4 x5 s := by
  unfold fm_297_p164
  exact hX79 (x2) (x5 + 1) s hI (zq_rf) (show (-1 : Int) ≤ x2 ∧ x2 ≤ (65535 : Int) from by omega) (show (0 : Int) ≤ x5 + 1 ∧ x5 + 1 ≤ (2147483647 : Int) from by omega) (show (2147483647 - (x5 + 1)).toNat < M79 from by omega)
theorem zq_297_p79 {X66 : Int → Int → lf_Z → Prop} {X79 : Int → Int → lf_Z → Prop} {Q : Int → lf_Z → Prop} {x1 : Int} {x2 : Int} {x3 : Int} {x4 : Int} {x5 : Int} {s : lf_Z} (hQ : ∀ (r : Int) (s' : lf_Z), iv_A s'.1 s'.2.2 → zq_E 29 31 [95, 104, 107, 111, 112] 1000000 true s.1 s.2.2 s'.1 s'.2.2 → ((-1) ≤ r ∧ r ≤ 65535) → Q r s') {M66 : Nat} (hX66 : ∀ (x2 : Int) (x4 : Int) (s' : lf_Z), iv_A s'.1 s'.2.2 → zq_R 29 [95, 104, 107, 111, 112] 1000000 true s.1 s.2.2 s'.1 s'.2.2 → (-1) ≤ x2 ∧ x2 ≤ 65535 → 0 ≤ x4 ∧ x4 ≤ 4 → (4 - x4).toNat < M66 → X66 x2 x4 s') (hM66 : (4 - x4).toNat ≤ M66) {M79 : Nat} (hX79 : ∀ (x2 : Int) (x5 : Int) (s' : lf_Z), iv_A s'.1 s'.2.2 → zq_R 29 [95, 104, 107, 111, 112] 1000000 true s.1 s.2.2 s'.1 s'.2.2 → (-1) ≤ x2 ∧ x2 ≤ 65535 → 0 ≤ x5 ∧ x5 ≤ 2147483647 → (2147483647 - x5).toNat < M79 → X79 x2 x5 s') (hM79 : (2147483647 - x5).toNat ≤ M79) (hI : iv_A s.1 s.2.2) (bx1 : 0 ≤ x1 ∧ x1 ≤ 3) (bx2 : (-1) ≤ x2 ∧ x2 ≤ 65535) (bx3 : (-2147483648) ≤ x3 ∧ x3 ≤ 2147483647) (bx4 : 0 ≤ x4 ∧ x4 ≤ 3) (bx5 : 0 ≤ x5 ∧ x5 ≤ 2147483647) : fm_297_p79 X66 Q x1 x3 x4 X79 x2 x5 s := by
  unfold fm_297_p79
  have b10 : 0 ≤ s.1 96 1 ∧ s.1 96 1 ≤ 16 := iv_rd96 hI (iv_fd6ad3e54 (by omega))
  have b11 : s.1 96 1 ≤ 0 ∨ 0 < s.1 96 0 := (show s.1 96 1 ≤ 0 ∨ 0 < s.1 96 0 from iv_l96_1 hI)
  have b12 : 1 ≤ lf_shl 1 (s.1 96 1) ∧ lf_shl 1 (s.1 96 1) ≤ 65536 := lf_shl1 (m := 16) (by omega) (by omega) (by decide)
  refine ⟨(show lf_R x5 from lf_Rof (by omega)), ?_⟩
  refine ⟨fun c13 => ?_, fun c13 => ?_⟩
  · skip
    replace c13 : lf_shl 1 (s.1 96 1) ≤ x5 := c13
    exact zq_297_p170 hQ hX66 (show (4 - x4).toNat ≤ M66 from by omega) hI (show (0 : Int) ≤ x1 ∧ x1 ≤ (3 : Int) from by omega) (show (-1 : Int) ≤ x2 ∧ x2 ≤ (65535 : Int) from by omega) (show (-2147483648 : Int) ≤ x3 ∧ x3 ≤ (2147483647 : Int) from by omega) (show (0 : Int) ≤ x4 ∧ x4 ≤ (3 : Int) from by omega)
  · skip
    replace c13 : ¬ (lf_shl 1 (s.1 96 1) ≤ x5) := c13
    refine ⟨(show lf_R x2 from lf_Rof (by omega)), ?_⟩
    refine ⟨fun c14 => ?_, fun c14 => ?_⟩
    · skip
      replace c14 : 0 ≤ x2 := c14
      exact zq_297_p170 hQ hX66 (show (4 - x4).toNat ≤ M66 from by omega) hI (show (0 : Int) ≤ x1 ∧ x1 ≤ (3 : Int) from by omega) (show (-1 : Int) ≤ x2 ∧ x2 ≤ (65535 : Int) from by omega) (show (-2147483648 : Int) ≤ x3 ∧ x3 ≤ (2147483647 : Int) from by omega) (show (0 : Int) ≤ x4 ∧ x4 ≤ (3 : Int) from by omega)
    · skip
      replace c14 : ¬ (0 ≤ x2) := c14
      refine sm_188 hI (show (-2147483648 : Int) ≤ x5 ∧ x5 ≤ (2147483647 : Int) from by omega) (fun r30 ps16 q15 => ?_)
      replace ps16 : r30 = lf_bt (x5) 16 := ps16
      refine ⟨(show lf_R r30 from lf_Rof (by omega)), ?_⟩
      refine ⟨(show lf_R x4 from lf_Rof (by omega)), ?_⟩
      refine ⟨fun c17 => ?_, fun c17 => ?_⟩
      · skip
        replace c17 : r30 ≠ x4 := c17
        exact zq_297_p164 hQ hX66 (show (4 - x4).toNat ≤ M66 from by omega) hX79 (show (2147483647 - x5).toNat ≤ M79 from by omega) hI (show (0 : Int) ≤ x1 ∧ x1 ≤ (3 : Int) from by omega) (show (-1 : Int) ≤ x2 ∧ x2 ≤ (65535 : Int) from by omega) (show (-2147483648 : Int) ≤ x3 ∧ x3 ≤ (2147483647 : Int) from by omega) (show (0 : Int) ≤ x4 ∧ x4 ≤ (3 : Int) from by omega) (show (0 : Int) ≤ x5 ∧ x5 ≤ (2147483646 : Int) from by omega)
      · skip
        replace c17 : ¬ (r30 ≠ x4) := c17
        have b18 : (-2147483648) ≤ lf_xor x3 (-1) ∧ lf_xor x3 (-1) ≤ 2147483647 := lf_xorB
        have b19 : 0 ≤ lf_and x5 (lf_xor x3 (-1)) ∧ lf_and x5 (lf_xor x3 (-1)) ≤ 65535 := lf_andBl (by omega) (by omega)
        refine ⟨fun c20 => ?_, fun c20 => ?_⟩
        · skip
          replace c20 : lf_and x5 (lf_xor x3 (-1)) = 0 := c20
          have hI21 : iv_A (lf_up s.1 95 31 x5) s.2.2 := iv_w95_31 hI (by omega)
          have fr22 : zq_R 29 [95, 104, 107, 111, 112] 1000000 true s.1 s.2.2 (lf_up s.1 95 31 x5) s.2.2 := zq_up (zq_rf) rfl (fun h => absurd h (by decide)) (fun _ => by decide)
          refine sm_294 hI21 (show (0 : Int) ≤ x1 ∧ x1 ≤ (3 : Int) from by omega) (fun r34 s33 hI24 fr23 q25 => ?_)
          have fr26 : zq_R 29 [95, 104, 107, 111, 112] 1000000 true s.1 s.2.2 s33.1 s33.2.2 := zq_tr fr22 (zq_wk fr23 rfl (by decide) (by decide) rfl)
          refine sm_296 hI24 (show (-2147483648 : Int) ≤ r34 ∧ r34 ≤ (2147483647 : Int) from by omega) (show (0 : Int) ≤ 3 ∧ 3 ≤ (3 : Int) from by omega) (fun r36 q27 => ?_)
          refine ⟨(show lf_R r36 from lf_Rof (by omega)), ?_⟩
          refine ⟨fun c28 => ?_, fun c28 => ?_⟩
          · skip
            replace c28 : r36 = 0 := c28
            exact zq_297_p164 (fun r9 t9 i9 f9 => hQ r9 t9 i9 (zq_te fr26 f9)) (fun p0 p1 t9 i9 f9 => hX66 p0 p1 t9 i9 (zq_tr fr26 f9)) (show (4 - x4).toNat ≤ M66 from by omega) (fun p0 p1 t9 i9 f9 => hX79 p0 p1 t9 i9 (zq_tr fr26 f9)) (show (2147483647 - x5).toNat ≤ M79 from by omega) hI24 (show (0 : Int) ≤ x1 ∧ x1 ≤ (3 : Int) from by omega) (show (-1 : Int) ≤ x2 ∧ x2 ≤ (65535 : Int) from by omega) (show (-2147483648 : Int) ≤ x3 ∧ x3 ≤ (2147483647 : Int) from by omega) (show (0 : Int) ≤ x4 ∧ x4 ≤ (3 : Int) from by omega) (show (0 : Int) ≤ x5 ∧ x5 ≤ (2147483646 : Int) from by omega)
          · skip
            replace c28 : ¬ (r36 = 0) := c28
            refine sm_296 hI24 (show (-2147483648 : Int) ≤ r34 ∧ r34 ≤ (2147483647 : Int) from by omega) (show (0 : Int) ≤ 1 ∧ 1 ≤ (3 : Int) from by omega) (fun r39 q29 => ?_)
            refine ⟨(show lf_R r39 from lf_Rof (by omega)), ?_⟩
            refine ⟨fun c30 => ?_, fun c30 => ?_⟩
            · skip
              replace c30 : r39 ≠ 0 := c30
              exact zq_297_p164 (fun r9 t9 i9 f9 => hQ r9 t9 i9 (zq_te fr26 f9)) (fun p0 p1 t9 i9 f9 => hX66 p0 p1 t9 i9 (zq_tr fr26 f9)) (show (4 - x4).toNat ≤ M66 from by omega) (fun p0 p1 t9 i9 f9 => hX79 p0 p1 t9 i9 (zq_tr fr26 f9)) (show (2147483647 - x5).toNat ≤ M79 from by omega) hI24 (show (0 : Int) ≤ x1 ∧ x1 ≤ (3 : Int) from by omega) (show (-1 : Int) ≤ x2 ∧ x2 ≤ (65535 : Int) from by omega) (show (-2147483648 : Int) ≤ x3 ∧ x3 ≤ (2147483647 : Int) from by omega) (show (0 : Int) ≤ x4 ∧ x4 ≤ (3 : Int) from by omega) (show (0 : Int) ≤ x5 ∧ x5 ≤ (2147483646 : Int) from by omega)
            · skip
              replace c30 : ¬ (r39 ≠ 0) := c30
              refine sm_296 hI24 (show (-2147483648 : Int) ≤ r34 ∧ r34 ≤ (2147483647 : Int) from by omega) (show (0 : Int) ≤ 2 ∧ 2 ≤ (3 : Int) from by omega) (fun r42 q31 => ?_)
              refine ⟨(show lf_R r42 from lf_Rof (by omega)), ?_⟩
              refine ⟨fun c32 => ?_, fun c32 => ?_⟩
              · skip
                replace c32 : r42 ≠ 0 := c32
                exact zq_297_p164 (fun r9 t9 i9 f9 => hQ r9 t9 i9 (zq_te fr26 f9)) (fun p0 p1 t9 i9 f9 => hX66 p0 p1 t9 i9 (zq_tr fr26 f9)) (show (4 - x4).toNat ≤ M66 from by omega) (fun p0 p1 t9 i9 f9 => hX79 p0 p1 t9 i9 (zq_tr fr26 f9)) (show (2147483647 - x5).toNat ≤ M79 from by omega) hI24 (show (0 : Int) ≤ x1 ∧ x1 ≤ (3 : Int) from by omega) (show (-1 : Int) ≤ x2 ∧ x2 ≤ (65535 : Int) from by omega) (show (-2147483648 : Int) ≤ x3 ∧ x3 ≤ (2147483647 : Int) from by omega) (show (0 : Int) ≤ x4 ∧ x4 ≤ (3 : Int) from by omega) (show (0 : Int) ≤ x5 ∧ x5 ≤ (2147483646 : Int) from by omega)
              · skip
                replace c32 : ¬ (r42 ≠ 0) := c32
                exact zq_297_p164 (fun r9 t9 i9 f9 => hQ r9 t9 i9 (zq_te fr26 f9)) (fun p0 p1 t9 i9 f9 => hX66 p0 p1 t9 i9 (zq_tr fr26 f9)) (show (4 - x4).toNat ≤ M66 from by omega) (fun p0 p1 t9 i9 f9 => hX79 p0 p1 t9 i9 (zq_tr fr26 f9)) (show (2147483647 - x5).toNat ≤ M79 from by omega) hI24 (show (0 : Int) ≤ x1 ∧ x1 ≤ (3 : Int) from by omega) (show (-1 : Int) ≤ x5 ∧ x5 ≤ (65535 : Int) from by omega) (show (-2147483648 : Int) ≤ x3 ∧ x3 ≤ (2147483647 : Int) from by omega) (show (0 : Int) ≤ x4 ∧ x4 ≤ (3 : Int) from by omega) (show (0 : Int) ≤ x5 ∧ x5 ≤ (2147483646 : Int) from by omega)
        · skip
          replace c20 : ¬ (lf_and x5 (lf_xor x3 (-1)) = 0) := c20
          exact zq_297_p164 hQ hX66 (show (4 - x4).toNat ≤ M66 from by omega) hX79 (show (2147483647 - x5).toNat ≤ M79 from by omega) hI (show (0 : Int) ≤ x1 ∧ x1 ≤ (3 : Int) from by omega) (show (-1 : Int) ≤ x2 ∧ x2 ≤ (65535 : Int) from by omega) (show (-2147483648 : Int) ≤ x3 ∧ x3 ≤ (2147483647 : Int) from by omega) (show (0 : Int) ≤ x4 ∧ x4 ≤ (3 : Int) from by omega) (show (0 : Int) ≤ x5 ∧ x5 ≤ (2147483646 : Int) from by omega)
theorem zq_297_p79L {X66 : Int → Int → lf_Z → Prop} {Q : Int → lf_Z → Prop} {x1 : Int} {x2 : Int} {x3 : Int} {x4 : Int} {x5 : Int} {s : lf_Z} (hQ : ∀ (r : Int) (s' : lf_Z), iv_A s'.1 s'.2.2 → zq_E 29 31 [95, 104, 107, 111, 112] 1000000 true s.1 s.2.2 s'.1 s'.2.2 → ((-1) ≤ r ∧ r ≤ 65535) → Q r s') {M66 : Nat} (hX66 : ∀ (x2 : Int) (x4 : Int) (s' : lf_Z), iv_A s'.1 s'.2.2 → zq_R 29 [95, 104, 107, 111, 112] 1000000 true s.1 s.2.2 s'.1 s'.2.2 → (-1) ≤ x2 ∧ x2 ≤ 65535 → 0 ≤ x4 ∧ x4 ≤ 4 → (4 - x4).toNat < M66 → X66 x2 x4 s') (hM66 : (4 - x4).toNat ≤ M66) (hI : iv_A s.1 s.2.2) (bx1 : 0 ≤ x1 ∧ x1 ≤ 3) (bx2 : (-1) ≤ x2 ∧ x2 ≤ 65535) (bx3 : (-2147483648) ≤ x3 ∧ x3 ≤ 2147483647) (bx4 : 0 ≤ x4 ∧ x4 ≤ 3) (bx5 : 0 ≤ x5 ∧ x5 ≤ 2147483647) : fm_297_p79L X66 Q x1 x2 x3 x4 x5 s := by
  intro X79 hX
  have key : ∀ (m9 : Nat) (x2 : Int) (x5 : Int) (s' : lf_Z), iv_A s'.1 s'.2.2 → zq_R 29 [95, 104, 107, 111, 112] 1000000 true s.1 s.2.2 s'.1 s'.2.2 → (-1) ≤ x2 ∧ x2 ≤ 65535 → 0 ≤ x5 ∧ x5 ≤ 2147483647 → (2147483647 - x5).toNat < m9 → X79 x2 x5 s' := by
    intro m9
    induction m9 with
    | zero => intro x2 x5 s' _ _ bx2 bx5 h9; exact absurd h9 (Nat.not_lt_zero _)
    | succ m9 ih => intro x2 x5 s' i7 f7 bx2 bx5 h9; exact hX _ _ _ (zq_297_p79 (fun r9 t9 i9 f9 => hQ r9 t9 i9 (zq_te f7 f9))  (fun p0 p1 t9 i9 f9 => hX66 p0 p1 t9 i9 (zq_tr f7 f9)) hM66 (fun x2' x5' t8 i8 f8 bx2' bx5' h8 => ih x2' x5' t8 i8 (zq_tr f7 f8) bx2' bx5' (by omega)) (Nat.le_refl _)  i7  bx1 bx2 bx3 bx4 bx5  )
  exact key _ _ _ s hI zq_rf bx2 bx5 (Nat.lt_succ_self _)
theorem zq_297_p66 {X66 : Int → Int → lf_Z → Prop} {Q : Int → lf_Z → Prop} {x1 : Int} {x2 : Int} {x3 : Int} {x4 : Int} {s : lf_Z} (hQ : ∀ (r : Int) (s' : lf_Z), iv_A s'.1 s'.2.2 → zq_E 29 31 [95, 104, 107, 111, 112] 1000000 true s.1 s.2.2 s'.1 s'.2.2 → ((-1) ≤ r ∧ r ≤ 65535) → Q r s') {M66 : Nat} (hX66 : ∀ (x2 : Int) (x4 : Int) (s' : lf_Z), iv_A s'.1 s'.2.2 → zq_R 29 [95, 104, 107, 111, 112] 1000000 true s.1 s.2.2 s'.1 s'.2.2 → (-1) ≤ x2 ∧ x2 ≤ 65535 → 0 ≤ x4 ∧ x4 ≤ 4 → (4 - x4).toNat < M66 → X66 x2 x4 s') (hM66 : (4 - x4).toNat ≤ M66) (hI : iv_A s.1 s.2.2) (bx1 : 0 ≤ x1 ∧ x1 ≤ 3) (bx2 : (-1) ≤ x2 ∧ x2 ≤ 65535) (bx3 : (-2147483648) ≤ x3 ∧ x3 ≤ 2147483647) (bx4 : 0 ≤ x4 ∧ x4 ≤ 4) : fm_297_p66 Q x1 x3 X66 x2 x4 s := by
  unfold fm_297_p66
  refine ⟨(show lf_R x4 from lf_Rof (by omega)), ?_⟩
  refine ⟨fun c6 => ?_, fun c6 => ?_⟩
  · skip
    replace c6 : 3 < x4 := c6
    exact zq_297_p176 hQ hI (show (-1 : Int) ≤ x2 ∧ x2 ≤ (65535 : Int) from by omega)
  · skip
    replace c6 : ¬ (3 < x4) := c6
    refine ⟨(show lf_R x2 from lf_Rof (by omega)), ?_⟩
    refine ⟨fun c9 => ?_, fun c9 => ?_⟩
    · skip
      replace c9 : 0 ≤ x2 := c9
      exact zq_297_p176 hQ hI (show (-1 : Int) ≤ x2 ∧ x2 ≤ (65535 : Int) from by omega)
    · skip
      replace c9 : ¬ (0 ≤ x2) := c9
      exact zq_297_p79L hQ hX66 (show (4 - x4).toNat ≤ M66 from by omega) hI (show (0 : Int) ≤ x1 ∧ x1 ≤ (3 : Int) from by omega) (show (-1 : Int) ≤ x2 ∧ x2 ≤ (65535 : Int) from by omega) (show (-2147483648 : Int) ≤ x3 ∧ x3 ≤ (2147483647 : Int) from by omega) (show (0 : Int) ≤ x4 ∧ x4 ≤ (3 : Int) from by omega) (show (0 : Int) ≤ 0 ∧ 0 ≤ (2147483647 : Int) from by omega)
theorem zq_297_p66L {Q : Int → lf_Z → Prop} {x1 : Int} {x2 : Int} {x3 : Int} {x4 : Int} {s : lf_Z} (hQ : ∀ (r : Int) (s' : lf_Z), iv_A s'.1 s'.2.2 → zq_E 29 31 [95, 104, 107, 111, 112] 1000000 true s.1 s.2.2 s'.1 s'.2.2 → ((-1) ≤ r ∧ r ≤ 65535) → Q r s') (hI : iv_A s.1 s.2.2) (bx1 : 0 ≤ x1 ∧ x1 ≤ 3) (bx2 : (-1) ≤ x2 ∧ x2 ≤ 65535) (bx3 : (-2147483648) ≤ x3 ∧ x3 ≤ 2147483647) (bx4 : 0 ≤ x4 ∧ x4 ≤ 4) : fm_297_p66L Q x1 x2 x3 x4 s := by
  intro X66 hX
  have key : ∀ (m9 : Nat) (x2 : Int) (x4 : Int) (s' : lf_Z), iv_A s'.1 s'.2.2 → zq_R 29 [95, 104, 107, 111, 112] 1000000 true s.1 s.2.2 s'.1 s'.2.2 → (-1) ≤ x2 ∧ x2 ≤ 65535 → 0 ≤ x4 ∧ x4 ≤ 4 → (4 - x4).toNat < m9 → X66 x2 x4 s' := by
    intro m9
    induction m9 with
    | zero => intro x2 x4 s' _ _ bx2 bx4 h9; exact absurd h9 (Nat.not_lt_zero _)
    | succ m9 ih => intro x2 x4 s' i7 f7 bx2 bx4 h9; exact hX _ _ _ (zq_297_p66 (fun r9 t9 i9 f9 => hQ r9 t9 i9 (zq_te f7 f9))   (fun x2' x4' t8 i8 f8 bx2' bx4' h8 => ih x2' x4' t8 i8 (zq_tr f7 f8) bx2' bx4' (by omega)) (Nat.le_refl _)  i7  bx1 bx2 bx3 bx4  )
  exact key _ _ _ s hI zq_rf bx2 bx4 (Nat.lt_succ_self _)
theorem zq_297_p55 {X17 : Int → Int → lf_Z → Prop} {Q : Int → lf_Z → Prop} {x1 : Int} {x2 : Int} {x4 : Int} {y0 : Int} {y1 : Int} {s : lf_Z} (hQ : ∀ (r : Int) (s' : lf_Z), iv_A s'.1 s'.2.2 → zq_E 29 31 [95, 104, 107, 111, 112] 1000000 true s.1 s.2.2 s'.1 s'.2.2 → ((-1) ≤ r ∧ r ≤ 65535) → Q r s') {M17 : Nat} (hX17 : ∀ (x3 : Int) (x4 : Int) (s' : lf_Z), iv_A s'.1 s'.2.2 → zq_R 29 [95, 104, 107, 111, 112] 1000000 true s.1 s.2.2 s'.1 s'.2.2 → (-2147483648) ≤ x3 ∧ x3 ≤ 2147483647 → 0 ≤ x4 ∧ x4 ≤ 16 → (16 - x4).toNat < M17 → X17 x3 x4 s') (hM17 : (16 - x4).toNat ≤ M17) (hI : iv_A s.1 s.2.2) (bx1 : 0 ≤ x1 ∧ x1 ≤ 3) (bx2 : (-1) ≤ x2 ∧ x2 ≤ (-1)) (bx4 : 0 ≤ x4 ∧ x4 ≤ 15) (by0 : (-2147483648) ≤ y0 ∧ y0 ≤ 2147483647) (by1 : 0 ≤ y1 ∧ y1 ≤ 32768) : fm_297_p55 X17 Q x1 x2 x4 y0 y1 s := by
  unfold fm_297_p55
  have b35 : (-2147483648) ≤ lf_or y0 y1 ∧ lf_or y0 y1 ≤ 2147483647 := lf_orB
  exact hX17 (lf_or y0 y1) (x4 + 1) s hI (zq_rf) (show (-2147483648 : Int) ≤ lf_or y0 y1 ∧ lf_or y0 y1 ≤ (2147483647 : Int) from by omega) (show (0 : Int) ≤ x4 + 1 ∧ x4 + 1 ≤ (16 : Int) from by omega) (show (16 - (x4 + 1)).toNat < M17 from by omega)
theorem zq_297_p54 {X17 : Int → Int → lf_Z → Prop} {Q : Int → lf_Z → Prop} {x1 : Int} {x2 : Int} {x4 : Int} {y0 : Int} {s : lf_Z} (hQ : ∀ (r : Int) (s' : lf_Z), iv_A s'.1 s'.2.2 → zq_E 29 31 [95, 104, 107, 111, 112] 1000000 true s.1 s.2.2 s'.1 s'.2.2 → ((-1) ≤ r ∧ r ≤ 65535) → Q r s') {M17 : Nat} (hX17 : ∀ (x3 : Int) (x4 : Int) (s' : lf_Z), iv_A s'.1 s'.2.2 → zq_R 29 [95, 104, 107, 111, 112] 1000000 true s.1 s.2.2 s'.1 s'.2.2 → (-2147483648) ≤ x3 ∧ x3 ≤ 2147483647 → 0 ≤ x4 ∧ x4 ≤ 16 → (16 - x4).toNat < M17 → X17 x3 x4 s') (hM17 : (16 - x4).toNat ≤ M17) (hI : iv_A s.1 s.2.2) (bx1 : 0 ≤ x1 ∧ x1 ≤ 3) (bx2 : (-1) ≤ x2 ∧ x2 ≤ (-1)) (bx4 : 0 ≤ x4 ∧ x4 ≤ 15) (by0 : (-2147483648) ≤ y0 ∧ y0 ≤ 2147483647) : fm_297_p54 X17 Q x1 x2 x4 y0 s := by
  unfold fm_297_p54
  exact zq_297_p55 hQ hX17 (show (16 - x4).toNat ≤ M17 from by omega) hI (show (0 : Int) ≤ x1 ∧ x1 ≤ (3 : Int) from by omega) (show (-1 : Int) ≤ x2 ∧ x2 ≤ (-1 : Int) from by omega) (show (0 : Int) ≤ x4 ∧ x4 ≤ (15 : Int) from by omega) (show (-2147483648 : Int) ≤ y0 ∧ y0 ≤ (2147483647 : Int) from by omega) (show (0 : Int) ≤ 0 ∧ 0 ≤ (32768 : Int) from by omega)
theorem zq_297_p17 {X17 : Int → Int → lf_Z → Prop} {Q : Int → lf_Z → Prop} {x1 : Int} {x2 : Int} {x3 : Int} {x4 : Int} {s : lf_Z} (hQ : ∀ (r : Int) (s' : lf_Z), iv_A s'.1 s'.2.2 → zq_E 29 31 [95, 104, 107, 111, 112] 1000000 true s.1 s.2.2 s'.1 s'.2.2 → ((-1) ≤ r ∧ r ≤ 65535) → Q r s') {M17 : Nat} (hX17 : ∀ (x3 : Int) (x4 : Int) (s' : lf_Z), iv_A s'.1 s'.2.2 → zq_R 29 [95, 104, 107, 111, 112] 1000000 true s.1 s.2.2 s'.1 s'.2.2 → (-2147483648) ≤ x3 ∧ x3 ≤ 2147483647 → 0 ≤ x4 ∧ x4 ≤ 16 → (16 - x4).toNat < M17 → X17 x3 x4 s') (hM17 : (16 - x4).toNat ≤ M17) (hI : iv_A s.1 s.2.2) (bx1 : 0 ≤ x1 ∧ x1 ≤ 3) (bx2 : (-1) ≤ x2 ∧ x2 ≤ (-1)) (bx3 : (-2147483648) ≤ x3 ∧ x3 ≤ 2147483647) (bx4 : 0 ≤ x4 ∧ x4 ≤ 16) : fm_297_p17 Q x1 x2 X17 x3 x4 s := by
  unfold fm_297_p17
  have b3 : 0 ≤ s.1 96 1 ∧ s.1 96 1 ≤ 16 := iv_rd96 hI (iv_fd6ad3e54 (by omega))
  have b4 : s.1 96 1 ≤ 0 ∨ 0 < s.1 96 0 := (show s.1 96 1 ≤ 0 ∨ 0 < s.1 96 0 from iv_l96_1 hI)
  refine ⟨(show lf_R x4 from lf_Rof (by omega)), ?_⟩
  refine ⟨(show lf_R (s.1 96 1) from lf_Rof (by omega)), ?_⟩
  refine ⟨fun c5 => ?_, fun c5 => ?_⟩
  · skip
    replace c5 : s.1 96 1 ≤ x4 := c5
    exact zq_297_p66L hQ hI (show (0 : Int) ≤ x1 ∧ x1 ≤ (3 : Int) from by omega) (show (-1 : Int) ≤ x2 ∧ x2 ≤ (65535 : Int) from by omega) (show (-2147483648 : Int) ≤ x3 ∧ x3 ≤ (2147483647 : Int) from by omega) (show (0 : Int) ≤ 0 ∧ 0 ≤ (4 : Int) from by omega)
  · skip
    replace c5 : ¬ (s.1 96 1 ≤ x4) := c5
    refine sm_245 hI (show (0 : Int) ≤ x4 ∧ x4 ≤ (15 : Int) from by omega) (fun z45 => ?_)
    refine ⟨fun c34 => ?_, fun c34 => ?_⟩
    · skip
      exact zq_297_p54 hQ hX17 (show (16 - x4).toNat ≤ M17 from by omega) hI (show (0 : Int) ≤ x1 ∧ x1 ≤ (3 : Int) from by omega) (show (-1 : Int) ≤ x2 ∧ x2 ≤ (-1 : Int) from by omega) (show (0 : Int) ≤ x4 ∧ x4 ≤ (15 : Int) from by omega) (show (-2147483648 : Int) ≤ x3 ∧ x3 ≤ (2147483647 : Int) from by omega)
    · skip
      refine sm_252 hI (show (0 : Int) ≤ x4 ∧ x4 ≤ (15 : Int) from by omega) (fun z47 => ?_)
      refine ⟨fun c37 => ?_, fun c37 => ?_⟩
      · skip
        exact zq_297_p54 hQ hX17 (show (16 - x4).toNat ≤ M17 from by omega) hI (show (0 : Int) ≤ x1 ∧ x1 ≤ (3 : Int) from by omega) (show (-1 : Int) ≤ x2 ∧ x2 ≤ (-1 : Int) from by omega) (show (0 : Int) ≤ x4 ∧ x4 ≤ (15 : Int) from by omega) (show (-2147483648 : Int) ≤ x3 ∧ x3 ≤ (2147483647 : Int) from by omega)
      · skip
        have b38 : 1 ≤ lf_shl 1 x4 ∧ lf_shl 1 x4 ≤ 32768 := lf_shl1 (m := 15) (by omega) (by omega) (by decide)
        exact zq_297_p55 hQ hX17 (show (16 - x4).toNat ≤ M17 from by omega) hI (show (0 : Int) ≤ x1 ∧ x1 ≤ (3 : Int) from by omega) (show (-1 : Int) ≤ x2 ∧ x2 ≤ (-1 : Int) from by omega) (show (0 : Int) ≤ x4 ∧ x4 ≤ (15 : Int) from by omega) (show (-2147483648 : Int) ≤ x3 ∧ x3 ≤ (2147483647 : Int) from by omega) (show (0 : Int) ≤ lf_shl 1 x4 ∧ lf_shl 1 x4 ≤ (32768 : Int) from by omega)
theorem zq_297_p17L {Q : Int → lf_Z → Prop} {x1 : Int} {x2 : Int} {x3 : Int} {x4 : Int} {s : lf_Z} (hQ : ∀ (r : Int) (s' : lf_Z), iv_A s'.1 s'.2.2 → zq_E 29 31 [95, 104, 107, 111, 112] 1000000 true s.1 s.2.2 s'.1 s'.2.2 → ((-1) ≤ r ∧ r ≤ 65535) → Q r s') (hI : iv_A s.1 s.2.2) (bx1 : 0 ≤ x1 ∧ x1 ≤ 3) (bx2 : (-1) ≤ x2 ∧ x2 ≤ (-1)) (bx3 : (-2147483648) ≤ x3 ∧ x3 ≤ 2147483647) (bx4 : 0 ≤ x4 ∧ x4 ≤ 16) : fm_297_p17L Q x1 x2 x3 x4 s := by
  intro X17 hX
  have key : ∀ (m9 : Nat) (x3 : Int) (x4 : Int) (s' : lf_Z), iv_A s'.1 s'.2.2 → zq_R 29 [95, 104, 107, 111, 112] 1000000 true s.1 s.2.2 s'.1 s'.2.2 → (-2147483648) ≤ x3 ∧ x3 ≤ 2147483647 → 0 ≤ x4 ∧ x4 ≤ 16 → (16 - x4).toNat < m9 → X17 x3 x4 s' := by
    intro m9
    induction m9 with
    | zero => intro x3 x4 s' _ _ bx3 bx4 h9; exact absurd h9 (Nat.not_lt_zero _)
    | succ m9 ih => intro x3 x4 s' i7 f7 bx3 bx4 h9; exact hX _ _ _ (zq_297_p17 (fun r9 t9 i9 f9 => hQ r9 t9 i9 (zq_te f7 f9))   (fun x3' x4' t8 i8 f8 bx3' bx4' h8 => ih x3' x4' t8 i8 (zq_tr f7 f8) bx3' bx4' (by omega)) (Nat.le_refl _)  i7  bx1 bx2 bx3 bx4  )
  exact key _ _ _ s hI zq_rf bx3 bx4 (Nat.lt_succ_self _)
theorem zr_297 {a1 : Int} {Q : Int → lf_Z → Prop} {s : lf_Z} (hI : iv_A s.1 s.2.2) (h0 : zq_9 s.1) (ba1 : (-2147483648) ≤ a1 ∧ a1 ≤ 2147483647) (hQ : ∀ (r : Int) (s' : lf_Z), iv_A s'.1 s'.2.2 → lf_fq [95, 104, 107, 111, 112] 1000000 true s.1 s.2.2 s'.1 s'.2.2 → ((∀ i : Int, 4 ≤ i → i ≤ 6 → s'.1 95 i = s.1 95 i) ∧ zq_9 s'.1) → ((-1) ≤ r ∧ r ≤ 65535) → Q r s') : fm_297 a1 Q s := by
  unfold fm_297
  refine sm_254 hI (show (-2147483648 : Int) ≤ a1 ∧ a1 ≤ (2147483647 : Int) from by omega) (fun z22 q1 => ?_)
  refine ⟨fun c2 => ?_, fun c2 => ?_⟩
  · skip
    have dc2 := q1.1 c2
    exact zq_297_p17L (fun r9 t9 i9 f9 b9 => hQ r9 t9 i9 f9.1.1 ⟨fun i j0 j1 => f9.1.2 i (Or.inl ⟨j0, j1⟩), (f9.1.2 29 (by decide)).trans h0.1, f9.2, by rw [f9.1.2 30 (by decide)]; exact h0.2.2⟩ b9) hI (show (0 : Int) ≤ a1 ∧ a1 ≤ (3 : Int) from by omega) (show (-1 : Int) ≤ (-1) ∧ (-1) ≤ (-1 : Int) from by omega) (show (-2147483648 : Int) ≤ 0 ∧ 0 ≤ (2147483647 : Int) from by omega) (show (0 : Int) ≤ 0 ∧ 0 ≤ (16 : Int) from by omega)
  · skip
    have dc2 := q1.2 c2
    exact hQ (-1) s hI (lf_fq_rf) ⟨fun _ _ _ => rfl, h0⟩ (show (-1 : Int) ≤ (-1) ∧ (-1) ≤ (65535 : Int) from by omega)
end ZQ
/-! both sides hold the same: the relation of the law's loop -/
section GX
variable {J K M : Nat → Int → Int} {s t u : lf_Z} {f f' g A B sv sw F : Int → Int} {H H' G : List rr_H} {X : mn_X} {I I' C C' : Nat → Int → Int} {P P' : Nat → Option Nat} {o : Option Nat} {a b c d r j n n0 n1 n2 v w x : Int} {T T' : Int → Int} {D : List Int} {l : List Nat} {bb : Bool}
/-- the image's land: that of now, cut -/
def gx_K (I : Nat → Int → Int) : Nat → Int → Int := fun c => if c = 1 then I 78 else I c
theorem gx_K1 : gx_K I 1 = I 78 := if_pos rfl
theorem gx_Kc {c : Nat} (h : c ≠ 1) : gx_K I c = I c := if_neg h
/-- ways lead to stretches, people were told at stretches -/
def gx_V (J : Nat → Int → Int) : Prop := (∀ w : Int, 0 ≤ w → w < J 1 1 → J 4 w < J 1 0 ∧ J 5 w < J 1 0) ∧ ∀ q : Int, 0 ≤ q → q < J 1 2 → 0 ≤ J 10 q ∧ J 10 q < J 1 0
def gx_i (I : Nat → Int → Int) : Prop := gx_V (gx_K I) ∧ ∃ (g : Int → Int) (G : List rr_H), (gp_J (gx_K I) g ∧ mi_H (gx_K I) G) ∧ gc_T (bk_c 64 I) g G ∧ gr_T (I 92) (gx_K I) g G (I 97)
/-- one text -/
def gx_t (C : Nat → Int → Int) (T : Int → Int) (k : Nat) : Prop := ∃ (F : Int → Int) (n : Int) (D : List Int), cs_F F n tx_g0 C k D ∧ C (7 * k) 1 ≤ 300 ∧ rs_X F n T (705 * k) D ∧ ∀ b ∈ D, cs_w F n b = 26 → 0 ≤ cs_v F n b ∧ cs_v F n b ≤ 9
def gx_C (I : Nat → Int → Int) : Nat → Int → Int := fun c => I (35 + c)
def gx_x (I : Nat → Int → Int) (o : Option Nat) : Prop := (0 ≤ I 0 11 ∧ I 0 11 ≤ 4) ∧ (∀ k : Nat, (k : Int) < I 0 11 → gx_t (gx_C I) (I 98) k) ∧ (-1 ≤ I 0 12 ∧ I 0 12 < I 0 11) ∧ o = (if 0 ≤ I 0 12 then some (I 0 12).toNat else none) ∧ (0 ≤ I 78 3 ∧ I 78 3 ≤ I 0 11) ∧ (-1 ≤ I 78 4 ∧ I 78 4 < I 78 3)
/-- sights -/
def gx_s (n0 c : Int) (S M A : Int → Int) : Prop := (c = A 10 ∧ 0 ≤ c ∧ c ≤ 6) ∧ ∀ k : Int, 0 ≤ k → k < c → (S k = A (162 + 2 * k) ∧ M k = A (162 + 2 * k + 1)) ∧ (0 ≤ S k ∧ S k < n0) ∧ 0 ≤ M k ∧ M k ≤ 60
def gx_1 (I : Nat → Int → Int) : Prop := ∃ (f : Int → Int) (H : List rr_H), gf_T I f H ∧ gc_T I f H ∧ gr_T (I 28) I f H (I 96)
def gx_2 (I : Nat → Int → Int) : Prop := (0 ≤ I 78 0 ∧ I 78 0 ≤ I 1 0) ∧ (0 ≤ I 78 1 ∧ I 78 1 ≤ I 1 1) ∧ 0 ≤ I 78 2 ∧ I 78 2 ≤ I 1 2
def gx_7 (I : Nat → Int → Int) : Prop := gx_s (I 1 0) (I 25 2) (I 26) (I 27) (I 96)
def gx_8 (I : Nat → Int → Int) : Prop := gx_s (I 78 0) (I 89 2) (I 90) (I 91) (I 97)
def gx_9 (I : Nat → Int → Int) : Prop := zq_9 I
/-- what no call of land, stand, steps touches -/
def gx_D (I : Nat → Int → Int) (o : Option Nat) : Prop := gx_2 I ∧ gx_i I ∧ gx_x I o ∧ tp_A I ∧ tr_A I ∧ gx_7 I ∧ gx_8 I ∧ gx_9 I
def gx_A (I : Nat → Int → Int) (P : Nat → Option Nat) : Prop := gx_1 I ∧ gx_D I (P 3)
/-! each of these speaks of some cells alone -/
theorem gr_Tc (hW : mn_W J) (hH : mi_H J H) (es : ∀ w : Int, 0 ≤ w → w < 16 → sw w = sv w) (e : ∀ i : Int, 0 ≤ i → i < 1538 → B i = A i) (h : gr_T sv J f H A) : gr_T sw J f H B := by
  obtain ⟨w0, w1, w2, _⟩ := hW
  obtain ⟨⟨l0, l1, l2, l3, l4, l5⟩, ⟨s1, s2, s3, s4, s5, s6⟩, ⟨h1, h2⟩, m1, m2⟩ := h
  have hl := hH.1
  refine ⟨⟨(e 0 (by decide) (by decide)).trans l0, (e 1 (by decide) (by decide)).trans l1, (e 2 (by decide) (by decide)).trans l2, fun q q0 q1 => ?_, fun q q0 q1 => ?_, fun q q0 q1 => ?_⟩, ⟨(e 3 (by decide) (by decide)).trans s1, (e 6 (by decide) (by decide)).trans s2, fun b b0 b1 => ⟨(e _ (by omega) (by omega)).trans (s3 b b0 b1).1, fun q => ⟨(e _ (by omega) (by omega)).trans ((s3 b b0 b1).2 q).1, (e _ (by omega) (by omega)).trans ((s3 b b0 b1).2 q).2⟩⟩, fun p p0 p1 => ⟨(e _ (by omega) (by omega)).trans (s4 p p0 p1).1, (e _ (by omega) (by omega)).trans (s4 p p0 p1).2⟩, fun s s0 s1 => (e _ (by omega) (by omega)).trans (s5 s s0 s1), fun w x0 x1 => (e _ (by omega) (by omega)).trans (s6 w x0 x1)⟩, ⟨(e 9 (by decide) (by decide)).trans h1, rr_hsC H (fun h hh => Int.le_trans (hH.2 h hh).2.1.2 w1.2) (fun i i0 i1 => e i (by omega) (by omega)) h2⟩, fun w x0 x1 => ?_, fun w x0 x1 => ?_⟩
  · exact ⟨(e _ (by omega) (by omega)).trans (l3 q q0 q1).1, (e _ (by omega) (by omega)).trans (l3 q q0 q1).2⟩
  · exact ⟨(e _ (by omega) (by omega)).trans (l4 q q0 q1).1, (e _ (by omega) (by omega)).trans (l4 q q0 q1).2.1, (e _ (by omega) (by omega)).trans (l4 q q0 q1).2.2⟩
  · exact ⟨(e _ (by omega) (by omega)).trans (l5 q q0 q1).1, (e _ (by omega) (by omega)).trans (l5 q q0 q1).2.1, (e _ (by omega) (by omega)).trans (l5 q q0 q1).2.2.1, (e _ (by omega) (by omega)).trans (l5 q q0 q1).2.2.2⟩
  · have m := m1 w x0 x1
    unfold gr_1 at m ⊢
    rw [e (174 + 5 * w) (by omega) (by omega), e (174 + 5 * w + 1) (by omega) (by omega), e (174 + 5 * w + 2) (by omega) (by omega), e (174 + 5 * w + 3) (by omega) (by omega), e (174 + 5 * w + 4) (by omega) (by omega), es w x0 (by omega)]
    exact m
  · exact (es w (by omega) x1).trans (m2 w x0 x1)
/-- the land's first three numbers alone matter to stand and steps -/
theorem gj_P3 (e0 : K 1 0 = J 1 0) (e1 : K 1 1 = J 1 1) (e2 : K 1 2 = J 1 2) (h : gp_J J f) : gp_J K f := by
  obtain ⟨h1, h2, h3⟩ := h
  exact ⟨gp_Iu h1 e0 e2, by rw [e0, e1]; exact h2, h3⟩
theorem gj_H3 (e0 : K 1 0 = J 1 0) (e1 : K 1 1 = J 1 1) (e2 : K 1 2 = J 1 2) (h : mi_H J H) : mi_H K H := mi_Hg h (by omega) (by omega) (by omega)
/-- the reference's half, for a land whose told rows are the same -/
theorem gr_L3 (e : ∀ c : Nat, 2 ≤ c → c ≤ 10 → K c = J c) (e0 : K 1 0 = J 1 0) (e1 : K 1 1 = J 1 1) (e2 : K 1 2 = J 1 2) (h : gr_T sv J f H A) : gr_T sv K f H A := by
  obtain ⟨h1, h2, h3, h4⟩ := h
  refine ⟨?_, by rw [e1, e2]; exact h2, h3, by rw [e1]; exact h4⟩
  unfold rr_L at h1 ⊢
  rw [e0, e1, e2, e 2 (by decide) (by decide), e 3 (by decide) (by decide), e 4 (by decide) (by decide), e 5 (by decide) (by decide), e 6 (by decide) (by decide), e 7 (by decide) (by decide), e 8 (by decide) (by decide), e 9 (by decide) (by decide), e 10 (by decide) (by decide)]
  exact h1
theorem gx_1c (e : ∀ c : Nat, ((1 ≤ c ∧ c < 14) ∨ (15 ≤ c ∧ c < 25) ∨ c = 28 ∨ c = 96) → I' c = I c) (h : gx_1 I) : gx_1 I' := by
  obtain ⟨f, H, h1, h2, h3⟩ := h
  have g : gj_e I I' := fun c c0 c1 => e c (by omega)
  exact ⟨f, H, gf_Te g h1, gc_Te (fun c c0 c1 => e c (by omega)) h2, by rw [e 28 (by omega), e 96 (by omega)]; exact gr_Te g h3⟩
theorem gx_2c (e1 : I' 1 = I 1) (e78 : I' 78 = I 78) (h : gx_2 I) : gx_2 I' := by
  unfold gx_2 at *
  rw [e1, e78]
  exact h
theorem gx_ic (e : ∀ c : Nat, ((2 ≤ c ∧ c < 14) ∨ (78 ≤ c ∧ c < 95) ∨ c = 97) → I' c = I c) (h : gx_i I) : gx_i I' := by
  have e1 : gx_K I' 1 = gx_K I 1 := by rw [gx_K1, gx_K1]; exact e 78 (by omega)
  have g : gj_e (gx_K I) (gx_K I') := fun c c0 c1 => by
    by_cases y : c = 1
    · rw [y]; exact e1
    · rw [gx_Kc y, gx_Kc y]; exact e c (by omega)
  obtain ⟨hv, f, H, ⟨h1, h2⟩, h3, h4⟩ := h
  refine ⟨?_, f, H, ⟨gj_P e1 h1, gj_H e1 h2⟩, gc_Te (fun c c0 c1 => e (c + 64) (by omega)) h3, ?_⟩
  · unfold gx_V at hv ⊢
    rw [e1, g 4 (by decide) (by decide), g 5 (by decide) (by decide), g 10 (by decide) (by decide)]
    exact hv
  · rw [e 92 (by omega), e 97 (by omega)]
    exact gr_Te g h4
theorem cs_FC {k : Nat} (e : ∀ c : Nat, 7 * k ≤ c → c ≤ 7 * k + 6 → C' c = C c) (h : cs_F F n g C k D) : cs_F F n g C' k D := by
  unfold cs_F cs_L at *
  rw [e (7 * k) (by omega) (by omega), e (7 * k + 1) (by omega) (by omega), e (2 + 7 * k) (by omega) (by omega), e (3 + 7 * k) (by omega) (by omega), e (4 + 7 * k) (by omega) (by omega), e (5 + 7 * k) (by omega) (by omega), e (6 + 7 * k) (by omega) (by omega)]
  exact h
theorem ln_ouR {y : Int} : ∀ o : List (Int × Int), (∀ i : Int, y ≤ i → i < y + 2 * o.length → B i = A i) → ln_ou A y o → ln_ou B y o := by
  intro o
  induction o with
  | nil => intro _ _; trivial
  | cons q o ih =>
    intro e h
    rw [List.length_cons] at e
    obtain ⟨h1, h2, h3⟩ := h
    exact ⟨(e _ (by omega) (by omega)).trans h1, (e _ (by omega) (by omega)).trans h2, ih (fun i i0 i1 => e i i0 (by omega)) h3⟩
theorem rs_XC {k : Nat} (e : ∀ i : Int, 705 * (k : Int) ≤ i → i < 705 * (k : Int) + 705 → T' i = T i) (h : rs_X F n T (705 * (k : Int)) D) : rs_X F n T' (705 * (k : Int)) D := by
  obtain ⟨o, h1, h2, h3, h4⟩ := h
  refine ⟨o, ln_ouR o (fun i i0 i1 => e i (by omega) (by omega)) h1, ⟨(e _ (by omega) (by omega)).trans h2.1, fun i b hb => ?_⟩, h3, h4⟩
  have hi := cs_lt hb
  obtain ⟨g1, g2, g3⟩ := h2.2 i b hb
  refine ⟨(e _ (by omega) (by omega)).trans g1, fun y => ⟨(e _ (by omega) (by omega)).trans (g2 y).1, fun y2 => (e _ (by omega) (by omega)).trans ((g2 y).2 y2)⟩, fun y => ?_⟩
  obtain ⟨m, o2, q1, q2, q3, q4⟩ := g3 y
  exact ⟨m, o2, (e _ (by omega) (by omega)).trans q1, (e _ (by omega) (by omega)).trans q2, q3, q4⟩
theorem gx_tc {k : Nat} (e : ∀ c : Nat, 7 * k ≤ c → c ≤ 7 * k + 6 → C' c = C c) (eT : ∀ i : Int, 705 * (k : Int) ≤ i → i < 705 * (k : Int) + 705 → T' i = T i) (h : gx_t C T k) : gx_t C' T' k := by
  obtain ⟨F, n, D, h1, h2, h3, h4⟩ := h
  exact ⟨F, n, D, cs_FC e h1, by rw [e (7 * k) (by omega) (by omega)]; exact h2, rs_XC eT h3, h4⟩
theorem gx_xc (e : ∀ c : Nat, (c = 0 ∨ (35 ≤ c ∧ c < 63) ∨ c = 78 ∨ c = 98) → I' c = I c) (h : gx_x I o) : gx_x I' o := by
  obtain ⟨h1, h2, h3⟩ := h
  unfold gx_x
  rw [e 0 (by omega), e 78 (by omega), e 98 (by omega)]
  refine ⟨h1, fun k hk => gx_tc (fun c c0 c1 => e (35 + c) (by omega)) (fun _ _ _ => rfl) (h2 k hk), h3⟩
theorem tp_Ac (e : ∀ c : Nat, (c = 0 ∨ c = 31 ∨ c = 32 ∨ c = 78 ∨ c = 97 ∨ c = 99) → I' c = I c) (e95 : ∀ i : Int, 4 ≤ i → i ≤ 6 → I' 95 i = I 95 i) (e7 : I' 96 7 = I 96 7) (e8 : I' 96 8 = I 96 8) (h : tp_A I) : tp_A I' := by
  unfold tp_A
  rw [e 0 (by omega), e 31 (by omega), e 32 (by omega), e 78 (by omega), e 97 (by omega), e 99 (by omega), e95 4 (by decide) (by decide), e95 5 (by decide) (by decide), e95 6 (by decide) (by decide), e7, e8]
  exact h
theorem tr_Ac (e : ∀ c : Nat, (c = 29 ∨ c = 30 ∨ c = 93 ∨ c = 94 ∨ c = 97) → I' c = I c) (e0 : ∀ i : Int, fr_g 0 i → I' 96 i = I 96 i) (h : tr_A I) : tr_A I' := by
  refine ⟨?_, ?_⟩
  · rw [e 29 (by omega), e 30 (by omega)]
    exact tr_Tc h.1 (fun j _ _ => ⟨rfl, rfl⟩) e0
  · rw [e 93 (by omega), e 94 (by omega), e 97 (by omega)]
    exact h.2
theorem gx_sc (e0 : n0 ≤ n1) (e : ∀ i : Int, fr_g 1 i → B i = A i) {S M : Int → Int} (h : gx_s n0 c S M A) : gx_s n1 c S M B := by
  obtain ⟨⟨h1, h2, h3⟩, h4⟩ := h
  refine ⟨⟨h1.trans (e 10 (Or.inl rfl)).symm, h2, h3⟩, fun k k0 k1 => ?_⟩
  obtain ⟨⟨g1, g2⟩, ⟨g3, g4⟩, g5⟩ := h4 k k0 k1
  exact ⟨⟨g1.trans (e _ (Or.inr ⟨by omega, by omega⟩)).symm, g2.trans (e _ (Or.inr ⟨by omega, by omega⟩)).symm⟩, ⟨g3, by omega⟩, g5⟩
theorem gx_7c (e : ∀ c : Nat, (c = 25 ∨ c = 26 ∨ c = 27) → I' c = I c) (e0 : I 1 0 ≤ I' 1 0) (e1 : ∀ i : Int, fr_g 1 i → I' 96 i = I 96 i) (h : gx_7 I) : gx_7 I' := by
  unfold gx_7 at *
  rw [e 25 (by omega), e 26 (by omega), e 27 (by omega)]
  exact gx_sc e0 e1 h
theorem gx_8c (e : ∀ c : Nat, (c = 78 ∨ (89 ≤ c ∧ c ≤ 91) ∨ c = 97) → I' c = I c) (h : gx_8 I) : gx_8 I' := by
  unfold gx_8 at *
  rw [e 78 (by omega), e 89 (by omega), e 90 (by omega), e 91 (by omega), e 97 (by omega)]
  exact h
theorem gx_9c (e : I' 95 = I 95) (h : gx_9 I) : gx_9 I' := by
  unfold gx_9 zq_9 at *
  rw [e]
  exact h
/-! calls that are asked alone -/
def gx_fr (c : Nat) : Bool := c == 14 || (Nat.ble 63 c && Nat.blt c 78) || (Nat.ble 100 c && Nat.blt c 1000)
theorem gx_nf {c : Nat} (hl : l.all gx_fr = true) (hc : gx_fr c = false) : l.contains c = false := by
  cases q : l.contains c with
  | false => rfl
  | true =>
    have m : c ∈ l := by simpa using q
    have := (List.all_eq_true.mp hl) c m
    rw [hc] at this
    exact absurd this (by decide)
theorem gx_f0 {c : Nat} (h : c ≠ 14 ∧ (c < 63 ∨ 78 ≤ c) ∧ (c < 100 ∨ 1000 ≤ c)) : gx_fr c = false := by
  unfold gx_fr
  have h1 : (c == 14) = false := beq_eq_false_iff_ne.mpr h.1
  rw [h1]
  have h2 : (Nat.ble 63 c && Nat.blt c 78) = false := by
    cases y : Nat.ble 63 c with
    | false => rfl
    | true =>
      have y1 := Nat.le_of_ble_eq_true y
      cases z : Nat.blt c 78 with
      | false => rfl
      | true =>
        have z1 : c + 1 ≤ 78 := Nat.le_of_ble_eq_true z
        omega
  have h3 : (Nat.ble 100 c && Nat.blt c 1000) = false := by
    cases y : Nat.ble 100 c with
    | false => rfl
    | true =>
      have y1 := Nat.le_of_ble_eq_true y
      cases z : Nat.blt c 1000 with
      | false => rfl
      | true =>
        have z1 : c + 1 ≤ 1000 := Nat.le_of_ble_eq_true z
        omega
  rw [h2, h3]
  rfl
theorem gx_q (e : ∀ c : Nat, gx_fr c = false → c ≠ 95 → I' c = I c) (e95 : ∀ i : Int, 4 ≤ i → i ≤ 6 → I' 95 i = I 95 i) (e9 : gx_9 I') (h : gx_A I P) (hP : P' 3 = P 3) : gx_A I' P' := by
  have g : ∀ c : Nat, c ≠ 14 ∧ c ≠ 95 ∧ (c < 63 ∨ 78 ≤ c) ∧ c < 100 → I' c = I c := fun c hc => e c (gx_f0 ⟨hc.1, hc.2.2.1, Or.inl hc.2.2.2⟩) hc.2.1
  obtain ⟨h1, h2, h3, h4, h5, h6, h7, h8, h9⟩ := h
  exact ⟨gx_1c (fun c hc => g c (by omega)) h1, gx_2c (g 1 (by omega)) (g 78 (by omega)) h2, gx_ic (fun c hc => g c (by omega)) h3, by rw [hP]; exact gx_xc (fun c hc => g c (by omega)) h4, tp_Ac (fun c hc => g c (by omega)) e95 (by rw [g 96 (by omega)]) (by rw [g 96 (by omega)]) h5, tr_Ac (fun c hc => g c (by omega)) (fun i _ => by rw [g 96 (by omega)]) h6, gx_7c (fun c hc => g c (by omega)) (by rw [g 1 (by omega)]; exact Int.le_refl _) (fun i _ => by rw [g 96 (by omega)]) h7, gx_8c (fun c hc => g c (by omega)) h8, e9⟩
theorem gx_fq (h : gx_A I P) (q : lf_fq l w true I P I' P') (hl : l.all gx_fr = true) : gx_A I' P' := gx_q (fun c hc _ => q.1 c (gx_nf hl hc)) (fun i _ _ => by rw [q.1 95 (gx_nf hl rfl)]) (gx_9c (q.1 95 (gx_nf hl rfl)) h.2.2.2.2.2.2.2.2) h (by rw [q.2.2.1 rfl])
/-- stopped and home of the reference -/
theorem gx_sq (h : gx_A I P) (q : lf_fq [95, 104, 107, 111, 112] w true I P I' P') (m : (∀ i : Int, 4 ≤ i → i ≤ 6 → I' 95 i = I 95 i) ∧ zq_9 I') : gx_A I' P' := by
  refine gx_q (fun c hc c5 => q.1 c ?_) m.1 m.2 h (by rw [q.2.2.1 rfl])
  cases y : ([95, 104, 107, 111, 112] : List Nat).contains c with
  | false => rfl
  | true =>
    have m : c ∈ ([95, 104, 107, 111, 112] : List Nat) := by simpa using y
    rcases List.mem_cons.mp m with e | m
    · exact absurd e c5
    · have : ∀ x ∈ ([104, 107, 111, 112] : List Nat), gx_fr x = true := by decide
      rw [this c m] at hc
      exact Bool.noConfusion hc
/-! the law that rules -/
theorem gx_X (hx : gx_x s.1 (s.2.2 3)) (h8 : s.1 0 12 = s.1 96 8) (h9 : gx_9 s.1) : ∃ X : mn_X, gx_XB X ∧ gx_Xc X s.1 s ∧ gx_Xr X (s.1 98) s := by
  obtain ⟨h1, h2, h3, h4, _⟩ := hx
  have hr : rm_0 (s.1 98) s := ⟨rfl, h9.1, h9.2.1, h9.2.2.1, h9.2.2.2⟩
  by_cases y : 0 ≤ s.1 0 12
  · obtain ⟨F, n, D, t1, t2, t3, _⟩ := h2 (s.1 0 12).toNat (by omega)
    rw [if_pos y] at h4
    have e : ((s.1 0 12).toNat : Int) = s.1 96 8 := by omega
    rw [e] at t3
    exact ⟨lw_X F n D, lw_XB, ⟨xc_of (k := (s.1 0 12).toNat) (by omega) h4 t2 t1, fun _ _ _ => rfl⟩, xr_of (by omega) t3, hr⟩
  · rw [if_neg y] at h4
    exact ⟨lw_X0, lw_XB0, ⟨xc_of0 h4, fun _ _ _ => rfl⟩, xr_of0 (by omega), hr⟩
end GX
/-! image and back of both sides -/
section IB
variable {J K M : Nat → Int → Int} {s t u : lf_Z} {f f' g A B sv sw : Int → Int} {H H' G : List rr_H} {F V : Nat → Int → Int} {I I' : Nat → Int → Int} {P P' : Nat → Option Nat} {o : Option Nat} {a b c d r j n w : Int} {x y : Nat}
theorem ib_V' {x y c : Nat} {sp dp m : Int} (h : c ≠ y) : lf_cp F x y sp dp m c j = F c j := congrFun (bk_r h) j
theorem gj_We (e : ∀ c : Nat, 1 ≤ c → c < 14 → K c = J c) (h : mn_W J) : mn_W K := mn_Wr h (e 4 (by decide) (by decide)) (e 5 (by decide) (by decide)) (e 11 (by decide) (by decide)) (e 12 (by decide) (by decide)) (e 13 (by decide) (by decide)) (by rw [e 1 (by decide) (by decide)]) (by rw [e 1 (by decide) (by decide)]) (by rw [e 1 (by decide) (by decide)]; exact h.2.2.1)
/-- the stand's cells at x are copied to y -/
def ib_f (x y : Nat) (F : Nat → Int → Int) : Nat → Int → Int := lf_cp (lf_cp (lf_cp (lf_cp (lf_cp (lf_cp F (x + 1) (y + 1) 0 0 4) (x + 2) (y + 2) 0 0 4) (x + 3) (y + 3) 0 0 4) (x + 4) (y + 4) 0 0 6) (x + 5) (y + 5) 0 0 6) (x + 6) (y + 6) 0 0 12
def ib_F (x y : Nat) (F : Nat → Int → Int) : Nat → Int → Int := lf_up (lf_up (lf_up (ib_f x y F) y 6 (ib_f x y F x 6)) y 7 (ib_f x y F x 7)) y 8 (ib_f x y F x 8)
theorem ib_fo {k : Nat} (h : k < y + 1 ∨ y + 6 < k) : ib_f x y F k = F k := (bk_r (by omega)).trans ((bk_r (by omega)).trans ((bk_r (by omega)).trans ((bk_r (by omega)).trans ((bk_r (by omega)).trans (bk_r (by omega))))))
theorem ib_Fo {k : Nat} (h : k < y ∨ y + 6 < k) : ib_F x y F k = F k := (lf_up_row (by omega)).trans ((lf_up_row (by omega)).trans ((lf_up_row (by omega)).trans (ib_fo (by omega))))
theorem ib_FS (h : x + 6 < y ∨ y + 6 < x) : bk_S (ib_F x y F) F y x := by
  have ro : ∀ k : Nat, k ≠ y → ib_F x y F k = ib_f x y F k := fun k hk => (lf_up_row hk).trans ((lf_up_row hk).trans (lf_up_row hk))
  have xo : ib_f x y F x = F x := ib_fo (by omega)
  have v1 : ∀ j : Int, 0 ≤ j → j < 4 → ib_f x y F (y + 1) j = F (x + 1) j := fun j j0 j1 => by
    unfold ib_f
    rw [bk_r (by omega), bk_r (by omega), bk_r (by omega), bk_r (by omega), bk_r (by omega)]
    exact bk_s j0 j1
  have v2 : ∀ j : Int, 0 ≤ j → j < 4 → ib_f x y F (y + 2) j = F (x + 2) j := fun j j0 j1 => by
    unfold ib_f
    rw [bk_r (by omega), bk_r (by omega), bk_r (by omega), bk_r (by omega)]
    exact (bk_s j0 j1).trans (ib_V' (by omega))
  have v3 : ∀ j : Int, 0 ≤ j → j < 4 → ib_f x y F (y + 3) j = F (x + 3) j := fun j j0 j1 => by
    unfold ib_f
    rw [bk_r (by omega), bk_r (by omega), bk_r (by omega)]
    exact (bk_s j0 j1).trans ((ib_V' (by omega)).trans (ib_V' (by omega)))
  have v4 : ∀ j : Int, 0 ≤ j → j < 6 → ib_f x y F (y + 4) j = F (x + 4) j := fun j j0 j1 => by
    unfold ib_f
    rw [bk_r (by omega), bk_r (by omega)]
    exact (bk_s j0 j1).trans ((ib_V' (by omega)).trans ((ib_V' (by omega)).trans (ib_V' (by omega))))
  have v5 : ∀ j : Int, 0 ≤ j → j < 6 → ib_f x y F (y + 5) j = F (x + 5) j := fun j j0 j1 => by
    unfold ib_f
    rw [bk_r (by omega)]
    exact (bk_s j0 j1).trans ((ib_V' (by omega)).trans ((ib_V' (by omega)).trans ((ib_V' (by omega)).trans (ib_V' (by omega)))))
  have v6 : ∀ j : Int, 0 ≤ j → j < 12 → ib_f x y F (y + 6) j = F (x + 6) j := fun j j0 j1 => (bk_s j0 j1).trans ((ib_V' (by omega)).trans ((ib_V' (by omega)).trans ((ib_V' (by omega)).trans ((ib_V' (by omega)).trans (ib_V' (by omega))))))
  refine ⟨fun j j0 j1 => ⟨?_, ?_, ?_⟩, fun j j0 j1 => ⟨?_, ?_⟩, fun j j0 j1 => ?_, ?_, ?_, ?_⟩
  · rw [ro (y + 1) (by omega)]; exact v1 j j0 j1
  · rw [ro (y + 2) (by omega)]; exact v2 j j0 j1
  · rw [ro (y + 3) (by omega)]; exact v3 j j0 j1
  · rw [ro (y + 4) (by omega)]; exact v4 j j0 j1
  · rw [ro (y + 5) (by omega)]; exact v5 j j0 j1
  · rw [ro (y + 6) (by omega)]; exact v6 j j0 j1
  · unfold ib_F
    rw [lf_up_i (by decide), lf_up_i (by decide), lf_up_s, xo]
  · unfold ib_F
    rw [lf_up_i (by decide), lf_up_s, xo]
  · unfold ib_F
    rw [lf_up_s, xo]
theorem ib_Fi (h : x + 6 < y ∨ y + 6 < x) {i : Int} (hi : i ≠ 6 ∧ i ≠ 7 ∧ i ≠ 8) : ib_F x y F y i = F y i := by
  unfold ib_F
  rw [lf_up_i hi.2.2, lf_up_i hi.2.1, lf_up_i hi.1, ib_fo (by omega)]
/-- the steps' cells -/
def ib_g (x y : Nat) (F : Nat → Int → Int) : Nat → Int → Int := lf_cp (lf_cp F (x + 1) (y + 1) 0 0 1170) (x + 2) (y + 2) 0 0 30
def ib_G (x y : Nat) (F : Nat → Int → Int) : Nat → Int → Int := lf_up (lf_up (ib_g x y F) y 2 (ib_g x y F x 2)) y 3 (ib_g x y F x 3)
theorem ib_go {k : Nat} (h : k < y + 1 ∨ y + 2 < k) : ib_g x y F k = F k := (bk_r (by omega)).trans (bk_r (by omega))
theorem ib_Go {k : Nat} (h : k < y ∨ y + 2 < k) : ib_G x y F k = F k := (lf_up_row (by omega)).trans ((lf_up_row (by omega)).trans (ib_go (by omega)))
theorem ib_GS (h : x + 2 < y ∨ y + 2 < x) : bk_T (ib_G x y F) F y x := by
  have ro : ∀ k : Nat, k ≠ y → ib_G x y F k = ib_g x y F k := fun k hk => (lf_up_row hk).trans (lf_up_row hk)
  have xo : ib_g x y F x = F x := ib_go (by omega)
  refine ⟨fun j j0 j1 => ?_, fun j j0 j1 => ?_, ?_, ?_⟩
  · rw [ro (y + 1) (by omega)]
    unfold ib_g
    rw [bk_r (by omega)]
    exact bk_s j0 j1
  · rw [ro (y + 2) (by omega)]
    exact (bk_s j0 j1).trans (ib_V' (by omega))
  · unfold ib_G
    rw [lf_up_i (by decide), lf_up_s, xo]
  · unfold ib_G
    rw [lf_up_s, xo]
/-- the notes' cells -/
def ib_h (x y : Nat) (F : Nat → Int → Int) : Nat → Int → Int := lf_cp (lf_cp (lf_cp (lf_cp (lf_cp F (x + 1) (y + 1) 0 0 6) (x + 2) (y + 2) 0 0 6) (x + 3) (y + 3) 0 0 16) (x + 4) (y + 4) 0 0 4) (x + 5) (y + 5) 0 0 4
def ib_H (x y : Nat) (F : Nat → Int → Int) : Nat → Int → Int := lf_up (ib_h x y F) y 2 (ib_h x y F x 2)
def ib_N (F G : Nat → Int → Int) (x y : Nat) : Prop := (∀ j : Int, 0 ≤ j → j < 6 → F (x + 1) j = G (y + 1) j ∧ F (x + 2) j = G (y + 2) j) ∧ (∀ j : Int, 0 ≤ j → j < 16 → F (x + 3) j = G (y + 3) j) ∧ (∀ j : Int, 0 ≤ j → j < 4 → F (x + 4) j = G (y + 4) j ∧ F (x + 5) j = G (y + 5) j) ∧ F x 2 = G y 2
theorem ib_ho {k : Nat} (h : k < y + 1 ∨ y + 5 < k) : ib_h x y F k = F k := (bk_r (by omega)).trans ((bk_r (by omega)).trans ((bk_r (by omega)).trans ((bk_r (by omega)).trans (bk_r (by omega)))))
theorem ib_Ho {k : Nat} (h : k < y ∨ y + 5 < k) : ib_H x y F k = F k := (lf_up_row (by omega)).trans (ib_ho (by omega))
theorem ib_HS (h : x + 5 < y ∨ y + 5 < x) : ib_N (ib_H x y F) F y x := by
  have ro : ∀ k : Nat, k ≠ y → ib_H x y F k = ib_h x y F k := fun k hk => lf_up_row hk
  have xo : ib_h x y F x = F x := ib_ho (by omega)
  refine ⟨fun j j0 j1 => ⟨?_, ?_⟩, fun j j0 j1 => ?_, fun j j0 j1 => ⟨?_, ?_⟩, ?_⟩
  · rw [ro (y + 1) (by omega)]
    unfold ib_h
    rw [bk_r (by omega), bk_r (by omega), bk_r (by omega), bk_r (by omega)]
    exact bk_s j0 j1
  · rw [ro (y + 2) (by omega)]
    unfold ib_h
    rw [bk_r (by omega), bk_r (by omega), bk_r (by omega)]
    exact (bk_s j0 j1).trans (ib_V' (by omega))
  · rw [ro (y + 3) (by omega)]
    unfold ib_h
    rw [bk_r (by omega), bk_r (by omega)]
    exact (bk_s j0 j1).trans ((ib_V' (by omega)).trans (ib_V' (by omega)))
  · rw [ro (y + 4) (by omega)]
    unfold ib_h
    rw [bk_r (by omega)]
    exact (bk_s j0 j1).trans ((ib_V' (by omega)).trans ((ib_V' (by omega)).trans (ib_V' (by omega))))
  · rw [ro (y + 5) (by omega)]
    exact (bk_s j0 j1).trans ((ib_V' (by omega)).trans ((ib_V' (by omega)).trans ((ib_V' (by omega)).trans (ib_V' (by omega)))))
  · unfold ib_H
    rw [lf_up_s, xo]
/-- all three -/
theorem bk_Sc {F' G' : Nat → Int → Int} (e : ∀ k : Nat, x ≤ k → k ≤ x + 6 → F' k = F k) (e2 : ∀ k : Nat, y ≤ k → k ≤ y + 6 → G' k = V k) (h : bk_S F V x y) : bk_S F' G' x y := by
  unfold bk_S at *
  rw [e x (by omega) (by omega), e (x + 1) (by omega) (by omega), e (x + 2) (by omega) (by omega), e (x + 3) (by omega) (by omega), e (x + 4) (by omega) (by omega), e (x + 5) (by omega) (by omega), e (x + 6) (by omega) (by omega), e2 y (by omega) (by omega), e2 (y + 1) (by omega) (by omega), e2 (y + 2) (by omega) (by omega), e2 (y + 3) (by omega) (by omega), e2 (y + 4) (by omega) (by omega), e2 (y + 5) (by omega) (by omega), e2 (y + 6) (by omega) (by omega)]
  exact h
theorem bk_Tc {F' G' : Nat → Int → Int} (e : ∀ k : Nat, x ≤ k → k ≤ x + 2 → F' k = F k) (e2 : ∀ k : Nat, y ≤ k → k ≤ y + 2 → G' k = V k) (h : bk_T F V x y) : bk_T F' G' x y := by
  unfold bk_T at *
  rw [e x (by omega) (by omega), e (x + 1) (by omega) (by omega), e (x + 2) (by omega) (by omega), e2 y (by omega) (by omega), e2 (y + 1) (by omega) (by omega), e2 (y + 2) (by omega) (by omega)]
  exact h
theorem ib_Nc {F' G' : Nat → Int → Int} (e : ∀ k : Nat, x ≤ k → k ≤ x + 5 → F' k = F k) (e2 : ∀ k : Nat, y ≤ k → k ≤ y + 5 → G' k = V k) (h : ib_N F V x y) : ib_N F' G' x y := by
  unfold ib_N at *
  rw [e x (by omega) (by omega), e (x + 1) (by omega) (by omega), e (x + 2) (by omega) (by omega), e (x + 3) (by omega) (by omega), e (x + 4) (by omega) (by omega), e (x + 5) (by omega) (by omega), e2 y (by omega) (by omega), e2 (y + 1) (by omega) (by omega), e2 (y + 2) (by omega) (by omega), e2 (y + 3) (by omega) (by omega), e2 (y + 4) (by omega) (by omega), e2 (y + 5) (by omega) (by omega)]
  exact h
/-- image of the class -/
theorem ib_173 {Q : Int → lf_Z → Prop} (k : ∀ t : lf_Z, (t.1 78 0 = s.1 1 0 ∧ t.1 78 1 = s.1 1 1 ∧ t.1 78 2 = s.1 1 2 ∧ t.1 78 3 = s.1 0 11 ∧ t.1 78 4 = s.1 0 12) → bk_S t.1 s.1 79 15 → bk_T t.1 s.1 86 22 → ib_N t.1 s.1 89 25 → Q (s.1 15 7) t) : fw_173 Q s := by
  unfold fw_173
  obtain ⟨U, hU⟩ : ∃ U : Nat → Int → Int, U = lf_up (lf_up (lf_up (lf_up (lf_up s.1 78 0 (s.1 1 0)) 78 1 (s.1 1 1)) 78 2 (s.1 1 2)) 78 3 (s.1 0 11)) 78 4 (s.1 0 12) := ⟨_, rfl⟩
  have uc : ∀ c : Nat, c ≠ 78 → U c = s.1 c := fun c hc => by rw [hU]; exact (lf_up_row hc).trans ((lf_up_row hc).trans ((lf_up_row hc).trans ((lf_up_row hc).trans (lf_up_row hc))))
  have ud : U 78 0 = s.1 1 0 ∧ U 78 1 = s.1 1 1 ∧ U 78 2 = s.1 1 2 ∧ U 78 3 = s.1 0 11 ∧ U 78 4 = s.1 0 12 := by
    rw [hU]
    exact ⟨(lf_up_i (by decide)).trans ((lf_up_i (by decide)).trans ((lf_up_i (by decide)).trans ((lf_up_i (by decide)).trans lf_up_s))), (lf_up_i (by decide)).trans ((lf_up_i (by decide)).trans ((lf_up_i (by decide)).trans lf_up_s)), (lf_up_i (by decide)).trans ((lf_up_i (by decide)).trans lf_up_s), (lf_up_i (by decide)).trans lf_up_s, lf_up_s⟩
  show fw_174 _ (lf_up (lf_up (lf_up (lf_up (lf_up s.1 78 0 (s.1 1 0)) 78 1 (s.1 1 1)) 78 2 (s.1 1 2)) 78 3 (s.1 0 11)) 78 4 (s.1 0 12), s.2.1, s.2.2)
  rw [← hU]
  show fw_175 _ (ib_F 15 79 U, s.2.1, s.2.2)
  show fw_176 _ (ib_G 22 86 (ib_F 15 79 U), s.2.1, s.2.2)
  show Q ((ib_H 25 89 (ib_G 22 86 (ib_F 15 79 U))) 15 7) (ib_H 25 89 (ib_G 22 86 (ib_F 15 79 U)), s.2.1, s.2.2)
  have w15 : (ib_H 25 89 (ib_G 22 86 (ib_F 15 79 U))) 15 = s.1 15 := (ib_Ho (by decide)).trans ((ib_Go (by decide)).trans ((ib_Fo (by decide)).trans (uc 15 (by decide))))
  have w78 : (ib_H 25 89 (ib_G 22 86 (ib_F 15 79 U))) 78 = U 78 := (ib_Ho (by decide)).trans ((ib_Go (by decide)).trans (ib_Fo (by decide)))
  rw [w15]
  refine k _ ?_ ?_ ?_ ?_
  · show (ib_H 25 89 (ib_G 22 86 (ib_F 15 79 U))) 78 0 = _ ∧ (ib_H 25 89 (ib_G 22 86 (ib_F 15 79 U))) 78 1 = _ ∧ (ib_H 25 89 (ib_G 22 86 (ib_F 15 79 U))) 78 2 = _ ∧ (ib_H 25 89 (ib_G 22 86 (ib_F 15 79 U))) 78 3 = _ ∧ (ib_H 25 89 (ib_G 22 86 (ib_F 15 79 U))) 78 4 = _
    rw [w78]
    exact ud
  · exact bk_Sc (fun q q0 q1 => (ib_Ho (by omega)).trans (ib_Go (by omega))) (fun q q0 q1 => (uc q (by omega)).symm) (ib_FS (F := U) (x := 15) (y := 79) (by decide))
  · exact bk_Tc (fun q q0 q1 => ib_Ho (by omega)) (fun q q0 q1 => ((ib_Fo (by omega)).trans (uc q (by omega))).symm) (ib_GS (F := ib_F 15 79 U) (x := 22) (y := 86) (by decide))
  · exact ib_Nc (fun q q0 q1 => rfl) (fun q q0 q1 => ((ib_Go (by omega)).trans ((ib_Fo (by omega)).trans (uc q (by omega)))).symm) (ib_HS (F := ib_G 22 86 (ib_F 15 79 U)) (x := 25) (y := 89) (by decide))
/-- which script a text is -/
theorem ib_62 {Q : Option Nat → lf_Z → Prop} (n4 : s.1 0 11 ≤ 4) (h : Q (if 0 ≤ a ∧ a < s.1 0 11 then some a.toNat else none) s) : fw_62 a Q s := by
  unfold fw_62
  refine fl_15 ⟨fun q => ?_, fun q _ => ⟨fun q2 => ?_, fun q2 _ t e => ?_⟩⟩
  · unfold fw_62_p28
    rw [if_neg (fun y => by rw [decide_eq_true y.1, decide_eq_true (show a ≤ s.1 0 11 - 1 by omega)] at q; cases q)] at h
    exact h
  · exfalso
    rw [Bool.and_eq_true, decide_eq_true_eq, decide_eq_true_eq] at q
    omega
  · rw [Bool.and_eq_true, decide_eq_true_eq, decide_eq_true_eq] at q
    rw [if_pos ⟨q.1, by omega⟩] at h
    rw [e]
    exact h
theorem ib_61 {Q : lf_Z → Prop} (n4 : s.1 0 11 ≤ 4) (h : Q (lf_up s.1 0 12 a, s.2.1, lf_ur s.2.2 3 (if 0 ≤ a ∧ a < s.1 0 11 then some a.toNat else none))) : fw_61 a Q s := by
  unfold fw_61
  have e : (lf_up s.1 0 12 a) 0 11 = s.1 0 11 := lf_up_i (by decide)
  refine ib_62 (show (lf_up s.1 0 12 a) 0 11 ≤ 4 by rw [e]; exact n4) ?_
  show (((if 0 ≤ a ∧ a < (lf_up s.1 0 12 a) 0 11 then some a.toNat else none) = none → _) ∧ ∀ t22 : Nat, (if 0 ≤ a ∧ a < (lf_up s.1 0 12 a) 0 11 then some a.toNat else none) = some t22 → t22 < 4 → _)
  rw [e]
  refine ⟨fun q => ?_, fun t q _ => ?_⟩
  · rw [q] at h; exact h
  · rw [q] at h; exact h
/-- back of the class -/
theorem ib_177 {Q : Int → lf_Z → Prop} (hW : mn_W s.1) (n3 : 0 ≤ s.1 78 3 ∧ s.1 78 3 ≤ 4) (h0 : 0 ≤ s.1 78 0 ∧ s.1 78 0 ≤ s.1 1 0) (h1 : 0 ≤ s.1 78 1 ∧ s.1 78 1 ≤ s.1 1 1) (h2 : 0 ≤ s.1 78 2 ∧ s.1 78 2 ≤ s.1 1 2) (hw : ∀ w : Int, 0 ≤ w → w < s.1 78 1 → s.1 4 w < s.1 78 0 ∧ s.1 5 w < s.1 78 0)
    (k : ∀ t : lf_Z, (t.1 1 0 = s.1 78 0 ∧ t.1 1 1 = s.1 78 1 ∧ t.1 1 2 = s.1 78 2) → (t.1 0 11 = s.1 78 3 ∧ t.1 0 12 = s.1 78 4) → t.2.2 3 = (if 0 ≤ s.1 78 4 ∧ s.1 78 4 < s.1 78 3 then some (s.1 78 4).toNat else none) → mn_W t.1 → bk_S t.1 s.1 15 79 → bk_T t.1 s.1 22 86 → ib_N t.1 s.1 25 89 → Q (s.1 79 7) t) : fw_177 Q s := by
  unfold fw_177
  refine fl_178 hW h0 h1 h2 hw (fun t tc t2 tn tW => ?_)
  have e78 : t.1 78 = s.1 78 := tc 78 (by decide) (by decide) (by decide) (by decide)
  obtain ⟨U, hU⟩ : ∃ U : Nat → Int → Int, U = lf_up t.1 0 11 (t.1 78 3) := ⟨_, rfl⟩
  have u0 : U 0 11 = s.1 78 3 := by rw [hU, lf_up_s, e78]
  have uc : ∀ c : Nat, c ≠ 0 → U c = t.1 c := fun c hc => by rw [hU]; exact lf_up_row hc
  have e4 : t.1 78 4 = s.1 78 4 := by rw [e78]
  rw [← hU, e4]
  refine ib_61 (s := (U, t.2.1, t.2.2)) (show U 0 11 ≤ 4 by rw [u0]; exact n3.2) ?_
  obtain ⟨W, hW2⟩ : ∃ W : Nat → Int → Int, W = lf_up U 0 12 (s.1 78 4) := ⟨_, rfl⟩
  obtain ⟨R, hR⟩ : ∃ R : Nat → Option Nat, R = lf_ur t.2.2 3 (if 0 ≤ s.1 78 4 ∧ s.1 78 4 < U 0 11 then some (s.1 78 4).toNat else none) := ⟨_, rfl⟩
  show fw_174b _ (lf_up U 0 12 (s.1 78 4), t.2.1, lf_ur t.2.2 3 (if 0 ≤ s.1 78 4 ∧ s.1 78 4 < U 0 11 then some (s.1 78 4).toNat else none))
  rw [← hW2, ← hR]
  have wc : ∀ c : Nat, c ≠ 0 → W c = t.1 c := fun c hc => by rw [hW2]; exact (lf_up_row hc).trans (uc c hc)
  show fw_175b _ (ib_F 79 15 W, t.2.1, R)
  show fw_176b _ (ib_G 86 22 (ib_F 79 15 W), t.2.1, R)
  show Q ((ib_H 89 25 (ib_G 86 22 (ib_F 79 15 W))) 15 7) (ib_H 89 25 (ib_G 86 22 (ib_F 79 15 W)), t.2.1, R)
  have w15 : (ib_H 89 25 (ib_G 86 22 (ib_F 79 15 W))) 15 = (ib_F 79 15 W) 15 := (ib_Ho (by decide)).trans (ib_Go (by decide))
  have lo : ∀ c : Nat, c < 15 → (ib_H 89 25 (ib_G 86 22 (ib_F 79 15 W))) c = W c := fun c hc => (ib_Ho (by omega)).trans ((ib_Go (by omega)).trans (ib_Fo (by omega)))
  have hS := ib_FS (F := W) (x := 79) (y := 15) (by decide)
  have hi : ∀ c : Nat, 78 ≤ c → c < 95 → W c = s.1 c := fun c c0 c1 => (wc c (by omega)).trans (tc c (by omega) (by omega) (by omega) (by omega))
  have e7 : (ib_F 79 15 W) 15 7 = s.1 79 7 := by rw [hS.2.2.2.2.1, hi 79 (by decide) (by decide)]
  rw [w15, e7]
  refine k _ ?_ ?_ ?_ ?_ ?_ ?_ ?_
  · show (ib_H 89 25 (ib_G 86 22 (ib_F 79 15 W))) 1 0 = _ ∧ (ib_H 89 25 (ib_G 86 22 (ib_F 79 15 W))) 1 1 = _ ∧ (ib_H 89 25 (ib_G 86 22 (ib_F 79 15 W))) 1 2 = _
    rw [lo 1 (by decide), wc 1 (by decide)]
    exact tn
  · show (ib_H 89 25 (ib_G 86 22 (ib_F 79 15 W))) 0 11 = _ ∧ (ib_H 89 25 (ib_G 86 22 (ib_F 79 15 W))) 0 12 = _
    rw [lo 0 (by decide), hW2]
    exact ⟨(lf_up_i (by decide)).trans u0, lf_up_s⟩
  · show R 3 = _
    rw [hR, u0]
    exact if_pos rfl
  · exact gj_We (fun c c0 c1 => (lo c (by omega)).trans (wc c (by omega))) tW
  · exact bk_Sc (fun q q0 q1 => (ib_Ho (by omega)).trans (ib_Go (by omega))) (fun q q0 q1 => (hi q (by omega) (by omega)).symm) hS
  · exact bk_Tc (fun q q0 q1 => ib_Ho (by omega)) (fun q q0 q1 => ((ib_Fo (by omega)).trans (hi q (by omega) (by omega))).symm) (ib_GS (F := ib_F 79 15 W) (x := 86) (y := 22) (by decide))
  · exact ib_Nc (fun q q0 q1 => rfl) (fun q q0 q1 => ((ib_Go (by omega)).trans ((ib_Fo (by omega)).trans (hi q (by omega) (by omega)))).symm) (ib_HS (F := ib_G 86 22 (ib_F 79 15 W)) (x := 89) (y := 25) (by decide))
end IB
/-! the calls of land, stand and steps within the law: between the class's and the reference's, and behind both -/
section GM
variable {J K M : Nat → Int → Int} {s t u : lf_Z} {f f' g A B sv sw : Int → Int} {H H' G : List rr_H} {X : mn_X} {I I' : Nat → Int → Int} {P P' : Nat → Option Nat} {o : Option Nat} {a b c d r j n w : Int} {l : List Nat} {bb : Bool} {p : Int → Prop}
abbrev gx_O : Type := mn_X → (Nat → Int → Int) → (Int → Int) → List rr_H → (Nat → Int → Int) → (Int → Int) → List rr_H → Int → Prop
/-- between the two: the class has done it, the reference not yet -/
def gx_M (rel : gx_O) (r : Int) (I : Nat → Int → Int) (P : Nat → Option Nat) : Prop := (∃ (X : mn_X) (J : Nat → Int → Int) (f : Int → Int) (H : List rr_H) (f' : Int → Int) (H' : List rr_H), gx_XB X ∧ xr_X X (I 98) (I 96 8) ∧ rel X J f H I f' H' r ∧ gf_T J f H ∧ gr_T (I 28) J f H (I 96) ∧ gf_T I f' H' ∧ gc_T I f' H') ∧ gx_D I (P 3)
def gx_MP (R : Int → (Nat → Int → Int) → (Nat → Option Nat) → Prop) (p : Int → Prop) (I : Nat → Int → Int) (P : Nat → Option Nat) : Prop := ∃ r, p r ∧ R r I P
theorem gx_in {R : Int → (Nat → Int → Int) → (Nat → Option Nat) → Prop} (h : p r) (k : R r I P) : gx_MP R p I P := ⟨r, h, k⟩
def gx_p (p : Int → Prop) (r : Int) : Prop := p r
theorem gx_pe {y : Int} (h : gx_p (fun q => q = y) r) : y = r := h.symm
/-- the land grows: what was told stays -/
def gw_T (J K : Nat → Int → Int) : Prop := (J 1 0 ≤ K 1 0 ∧ J 1 1 ≤ K 1 1 ∧ J 1 2 ≤ K 1 2) ∧ (∀ q : Int, q < J 1 0 → K 2 q = J 2 q ∧ K 3 q = J 3 q) ∧ (∀ w : Int, w < J 1 1 → K 4 w = J 4 w ∧ K 5 w = J 5 w ∧ K 6 w = J 6 w) ∧ ∀ q : Int, q < J 1 2 → K 7 q = J 7 q ∧ K 8 q = J 8 q ∧ K 9 q = J 9 q ∧ K 10 q = J 10 q
theorem gw_r : gw_T J J := ⟨⟨Int.le_refl _, Int.le_refl _, Int.le_refl _⟩, fun _ _ => ⟨rfl, rfl⟩, fun _ _ => ⟨rfl, rfl, rfl⟩, fun _ _ => ⟨rfl, rfl, rfl, rfl⟩⟩
theorem gw_t (h : gw_T J K) (k : gw_T K M) : gw_T J M := by
  obtain ⟨⟨h1, h2, h3⟩, h4, h5, h6⟩ := h
  obtain ⟨⟨k1, k2, k3⟩, k4, k5, k6⟩ := k
  refine ⟨⟨by omega, by omega, by omega⟩, fun q hq => ?_, fun q hq => ?_, fun q hq => ?_⟩
  · have a := h4 q hq
    have b := k4 q (by omega)
    exact ⟨b.1.trans a.1, b.2.trans a.2⟩
  · have a := h5 q hq
    have b := k5 q (by omega)
    exact ⟨b.1.trans a.1, b.2.1.trans a.2.1, b.2.2.trans a.2.2⟩
  · have a := h6 q hq
    have b := k6 q (by omega)
    exact ⟨b.1.trans a.1, b.2.1.trans a.2.1, b.2.2.1.trans a.2.2.1, b.2.2.2.trans a.2.2.2⟩
theorem gw_e (e : gj_e J K) : gw_T J K := by
  have e1 : K 1 = J 1 := e 1 (by decide) (by decide)
  refine ⟨⟨by rw [e1]; exact Int.le_refl _, by rw [e1]; exact Int.le_refl _, by rw [e1]; exact Int.le_refl _⟩, fun _ _ => ?_, fun _ _ => ?_, fun _ _ => ?_⟩
  · rw [e 2 (by decide) (by decide), e 3 (by decide) (by decide)]; exact ⟨rfl, rfl⟩
  · rw [e 4 (by decide) (by decide), e 5 (by decide) (by decide), e 6 (by decide) (by decide)]; exact ⟨rfl, rfl, rfl⟩
  · rw [e 7 (by decide) (by decide), e 8 (by decide) (by decide), e 9 (by decide) (by decide), e 10 (by decide) (by decide)]; exact ⟨rfl, rfl, rfl, rfl⟩
theorem gw_o {ok : Prop} {ro rn : Int} {f1 : Int → Int} {H1 : List rr_H} (h : gq_o ok ro rn f1 H1 J f H K f' H' r) : gw_T J K := gw_e h.1
theorem gw_14 (h : gt_14 a b J f H K f' H' r) : gw_T J K := by
  rcases h with ⟨_, e, _⟩ | ⟨_, hR, _⟩
  · exact gw_e e
  · obtain ⟨r1, ⟨r2, r3, r4⟩, r5⟩ := hR
    refine ⟨⟨by omega, by omega, by omega⟩, fun q hq => ?_, fun q hq => ?_, fun q hq => ?_⟩
    · rw [(r5 q).1, (r5 q).2, if_neg (by omega), if_neg (by omega)]; exact ⟨rfl, rfl⟩
    · rw [r1 4 (by decide) (by decide) (by decide), r1 5 (by decide) (by decide) (by decide), r1 6 (by decide) (by decide) (by decide)]; exact ⟨rfl, rfl, rfl⟩
    · rw [r1 7 (by decide) (by decide) (by decide), r1 8 (by decide) (by decide) (by decide), r1 9 (by decide) (by decide) (by decide), r1 10 (by decide) (by decide) (by decide)]; exact ⟨rfl, rfl, rfl, rfl⟩
theorem gw_17 (h : gt_17 a b c J f H K f' H' r) : gw_T J K := by
  rcases h with ⟨_, e, _⟩ | ⟨_, hR, _⟩
  · exact gw_e e
  · obtain ⟨r1, ⟨r2, r3, r4⟩, r5, _⟩ := hR
    have e : ∀ q : Nat, (q = 2 ∨ q = 3 ∨ q = 7 ∨ q = 8 ∨ q = 9 ∨ q = 10) → K q = J q := fun q hq => r1 q (by omega) (by omega) (by omega) (by omega) (by omega) (by omega) (by omega)
    refine ⟨⟨by omega, by omega, by omega⟩, fun q hq => ?_, fun q hq => ?_, fun q hq => ?_⟩
    · rw [e 2 (by decide), e 3 (by decide)]; exact ⟨rfl, rfl⟩
    · rw [(r5 q).1, (r5 q).2.1, (r5 q).2.2, if_neg (by omega), if_neg (by omega), if_neg (by omega)]; exact ⟨rfl, rfl, rfl⟩
    · rw [e 7 (by decide), e 8 (by decide), e 9 (by decide), e 10 (by decide)]; exact ⟨rfl, rfl, rfl, rfl⟩
theorem gw_23 (h : gt_23 a b c d J f H K f' H' r) : gw_T J K := by
  rcases h with ⟨_, e, _⟩ | ⟨_, hR, _⟩
  · exact gw_e e
  · obtain ⟨r1, ⟨r2, r3, r4⟩, r5⟩ := hR
    have e : ∀ q : Nat, (q = 2 ∨ q = 3 ∨ q = 4 ∨ q = 5 ∨ q = 6) → K q = J q := fun q hq => r1 q (by omega) (by omega) (by omega) (by omega) (by omega) (by omega) (by omega)
    refine ⟨⟨by omega, by omega, by omega⟩, fun q hq => ?_, fun q hq => ?_, fun q hq => ?_⟩
    · rw [e 2 (by decide), e 3 (by decide)]; exact ⟨rfl, rfl⟩
    · rw [e 4 (by decide), e 5 (by decide), e 6 (by decide)]; exact ⟨rfl, rfl, rfl⟩
    · rw [(r5 q).1, (r5 q).2.1, (r5 q).2.2.1, (r5 q).2.2.2.1, if_neg (by omega), if_neg (by omega), if_neg (by omega), if_neg (by omega)]; exact ⟨rfl, rfl, rfl, rfl⟩
theorem gw_dd {v x : Int} {z : Bool} (h : dd_T X w v x J f H K f' H' z) : gw_T J K := by
  obtain ⟨d0, d1, d2, d3, d4, d5, d6, d7, d8, d9, d10⟩ := h
  by_cases c0 : w < 23 ∨ 32 < w
  · rw [(d0 c0).1]; exact gw_r
  · by_cases c1 : w = 23
    · obtain ⟨r, h, _⟩ := d1 c1; exact gw_14 h
    · by_cases c2 : w = 24
      · obtain ⟨r, h, _⟩ := d2 c2; exact gw_17 h
      · by_cases c3 : w = 25
        · obtain ⟨r, h, _⟩ := d3 c3; exact gw_17 h
        · by_cases c4 : w = 26
          · obtain ⟨r, h, _⟩ := d4 c4; exact gw_23 h
          · by_cases c5 : w = 27
            · obtain ⟨r, h, _⟩ := d5 c5; exact gw_o h
            · by_cases c6 : w = 28
              · exact gw_o (d6 c6)
              · by_cases c7 : w = 29
                · exact gw_o (d7 c7)
                · by_cases c8 : w = 30
                  · exact gw_o (d8 c8)
                  · by_cases c9 : w = 31
                    · obtain ⟨r, h, _⟩ := d9 c9; exact gw_o h
                    · exact gw_e (d10 (by omega)).1
theorem gw_pl : ∀ (L : List (Int × Int × Int)) (i : Int) (J : Nat → Int → Int) (f : Int → Int) (H : List rr_H), pl_T X L i J f H K f' H' r → gw_T J K := by
  intro L
  induction L with
  | nil => intro i J f H h; rw [h.1]; exact gw_r
  | cons q L ih =>
    intro i J f H h
    obtain ⟨K1, f1, H1, z, h1, _, h3⟩ := h
    rcases h3 with ⟨_, h3⟩ | ⟨_, h3, _⟩
    · exact gw_t (gw_dd h1) (ih _ _ _ _ h3)
    · rw [h3]; exact gw_dd h1
/-! what stays of the relation -/
theorem gr_Tw (hw : gw_T J K) {J' : Nat → Int → Int} (n0 : J' 1 0 ≤ J 1 0) (n1 : J' 1 1 ≤ J 1 1) (n2 : J' 1 2 ≤ J 1 2) (ej : ∀ c : Nat, 2 ≤ c → c ≤ 10 → J' c = J c) {K' : Nat → Int → Int} (e1 : K' 1 = J' 1) (ek : ∀ c : Nat, 2 ≤ c → c ≤ 10 → K' c = K c) (h : gr_T sv J' f H A) : gr_T sv K' f H A := by
  obtain ⟨⟨h1, h2, h3, h4, h5, h6⟩, hS, hH, hM⟩ := h
  obtain ⟨_, w2, w3, w4⟩ := hw
  refine ⟨⟨by rw [e1]; exact h1, by rw [e1]; exact h2, by rw [e1]; exact h3, fun q q0 q1 => ?_, fun q q0 q1 => ?_, fun q q0 q1 => ?_⟩, by rw [e1]; exact hS, hH, by rw [e1]; exact hM⟩
  · rw [e1] at q1
    rw [ek 2 (by decide) (by decide), ek 3 (by decide) (by decide), (w2 q (by omega)).1, (w2 q (by omega)).2, ← ej 2 (by decide) (by decide), ← ej 3 (by decide) (by decide)]
    exact h4 q q0 q1
  · rw [e1] at q1
    rw [ek 4 (by decide) (by decide), ek 5 (by decide) (by decide), ek 6 (by decide) (by decide), (w3 q (by omega)).1, (w3 q (by omega)).2.1, (w3 q (by omega)).2.2, ← ej 4 (by decide) (by decide), ← ej 5 (by decide) (by decide), ← ej 6 (by decide) (by decide)]
    exact h5 q q0 q1
  · rw [e1] at q1
    rw [ek 7 (by decide) (by decide), ek 8 (by decide) (by decide), ek 9 (by decide) (by decide), ek 10 (by decide) (by decide), (w4 q (by omega)).1, (w4 q (by omega)).2.1, (w4 q (by omega)).2.2.1, (w4 q (by omega)).2.2.2, ← ej 7 (by decide) (by decide), ← ej 8 (by decide) (by decide), ← ej 9 (by decide) (by decide), ← ej 10 (by decide) (by decide)]
    exact h6 q q0 q1
theorem gx_iw (hw : gw_T I I') (h2 : gx_2 I) (e : ∀ c : Nat, ((78 ≤ c ∧ c < 95) ∨ c = 97) → I' c = I c) (h : gx_i I) : gx_i I' := by
  have e78 : I' 78 = I 78 := e 78 (by omega)
  have e1 : gx_K I' 1 = gx_K I 1 := by rw [gx_K1, gx_K1]; exact e78
  obtain ⟨n0, n1, n2⟩ := h2
  obtain ⟨⟨v1, v2⟩, g, G, ⟨h1, h2⟩, h3, h4⟩ := h
  obtain ⟨w1, w2, w3, w4⟩ := hw
  refine ⟨⟨fun w x0 x1 => ?_, fun q q0 q1 => ?_⟩, g, G, ⟨gj_P e1 h1, gj_H e1 h2⟩, gc_Te (fun c c0 c1 => e (c + 64) (by omega)) h3, ?_⟩
  · rw [e1] at x1 ⊢
    have v := v1 w x0 x1
    rw [gx_K1] at x1
    rw [gx_Kc (I := I') (c := 4) (by decide), gx_Kc (I := I') (c := 5) (by decide), (w3 w (by omega)).1, (w3 w (by omega)).2.1]
    rw [gx_Kc (I := I) (c := 4) (by decide), gx_Kc (I := I) (c := 5) (by decide)] at v
    exact v
  · rw [e1] at q1 ⊢
    have v := v2 q q0 q1
    rw [gx_K1] at q1
    rw [gx_Kc (I := I') (c := 10) (by decide), (w4 q (by omega)).2.2.2]
    rw [gx_Kc (I := I) (c := 10) (by decide)] at v
    exact v
  · rw [e 92 (by omega), e 97 (by omega)]
    exact gr_Tw (J := I) (K := I') ⟨w1, w2, w3, w4⟩ (by rw [gx_K1]; exact n0.2) (by rw [gx_K1]; exact n1.2) (by rw [gx_K1]; exact n2.2) (fun c c0 c1 => gx_Kc (by omega)) e1 (fun c c0 c1 => gx_Kc (by omega)) h4
theorem gx_D1 (hD : gx_D s.1 o) (hc : gc_F s t) (hw : gw_T s.1 t.1) : gx_D t.1 o := by
  obtain ⟨h2, h3, h4, h5, h6, h7, h8, h9⟩ := hD
  have e : ∀ c : Nat, (c = 0 ∨ (24 < c ∧ (c < 63 ∨ 66 < c))) → t.1 c = s.1 c := fun c h => hc.1 c (by omega)
  have e78 := e 78 (by omega)
  refine ⟨?_, gx_iw hw h2 (fun c h => e c (by omega)) h3, gx_xc (fun c h => e c (by omega)) h4, tp_Ac (fun c h => e c (by omega)) (fun i _ _ => by rw [e 95 (by omega)]) (by rw [e 96 (by omega)]) (by rw [e 96 (by omega)]) h5, tr_Ac (fun c h => e c (by omega)) (fun i _ => by rw [e 96 (by omega)]) h6, gx_7c (fun c h => e c (by omega)) hw.1.1 (fun i _ => by rw [e 96 (by omega)]) h7, gx_8c (fun c h => e c (by omega)) h8, gx_9c (e 95 (by omega)) h9⟩
  unfold gx_2 at *
  rw [e78]
  have w1 := hw.1
  omega
/-- behind the reference -/
theorem gx_m2 (hF : gf_T s.1 f H) (hC : gc_T s.1 f H) (hD : gx_D s.1 (s.2.2 3)) (hg : gr_F s t) (hR : gr_T (s.1 28) s.1 f H (t.1 96)) (q : lf_fq l w bb s.1 s.2.2 t.1 t.2.2) (hl : (l.contains 1000 || l.contains 1001 || l.contains 1003) = false) : gx_A t.1 t.2.2 := by
  simp only [Bool.or_eq_false_iff] at hl
  obtain ⟨⟨q0, q1⟩, q3⟩ := hl
  have e : ∀ c : Nat, c < 96 ∨ (96 < c ∧ c < 104) → t.1 c = s.1 c := fun c h => hg.1 c (by omega) (by omega) (by omega) (by omega)
  have g : gj_e s.1 t.1 := fun c c0 c1 => e c (by omega)
  have f0 := q.2.2.2 0 q0
  have f1 := q.2.2.2 1 q1
  have f3 := q.2.2.2 3 q3
  obtain ⟨h2, h3, h4, h5, h6, h7, h8, h9⟩ := hD
  refine ⟨⟨f, H, gf_Te g hF, gc_Te (fun c c0 c1 => e c (by omega)) hC, ?_⟩, gx_2c (e 1 (by omega)) (e 78 (by omega)) h2, gx_ic (fun c h => e c (by omega)) h3, by rw [hg.2.2]; exact gx_xc (fun c h => e c (by omega)) h4, tp_Ac (fun c h => e c (by omega)) (fun i _ _ => by rw [e 95 (by omega)]) (f3 7 (Or.inl rfl)) (f3 8 (Or.inr rfl)) h5, tr_Ac (fun c h => e c (by omega)) f0 h6, gx_7c (fun c h => e c (by omega)) (by rw [e 1 (by omega)]; exact Int.le_refl _) f1 h7, gx_8c (fun c h => e c (by omega)) h8, gx_9c (e 95 (by omega)) h9⟩
  rw [e 28 (by omega)]
  exact gr_Te g hR
/-- behind the class -/
theorem gx_m1 {rel : gx_O} (hB : gx_XB X) (hXr : gx_Xr X (s.1 98) s) (hF : gf_T s.1 f H) (hR : gr_T (s.1 28) s.1 f H (s.1 96)) (hD : gx_D s.1 (s.2.2 3)) (hT : rel X s.1 f H t.1 f' H' r) (hF' : gf_T t.1 f' H') (hC' : gc_T t.1 f' H') (hc : gc_F s t) (hw : gw_T s.1 t.1) : gx_M rel r t.1 t.2.2 := by
  refine ⟨⟨X, s.1, f, H, f', H', hB, ?_, hT, hF, ?_, hF', hC'⟩, ?_⟩
  · rw [hc.1 98 (by decide), hc.1 96 (by decide)]; exact hXr.1
  · rw [hc.1 28 (by decide), hc.1 96 (by decide)]; exact hR
  · rw [hc.2]; exact gx_D1 hD hc hw
theorem gq_oz {ok : Prop} {f1 : Int → Int} {H1 : List rr_H} (h : gq_o ok 1 0 f1 H1 J f H K f' H' r) : ∃ z : Bool, r = lf_b z := by
  rcases h.2 with ⟨_, _, _, e⟩ | ⟨_, _, _, e⟩
  · exact ⟨false, e⟩
  · exact ⟨true, e⟩
def gx_r14 (a1 : Int) (a2 : Int) : gx_O := fun _ => gt_14 a1 a2
def gx_S14 (a1 : Int) (a2 : Int) (r : Int) (I : Nat → Int → Int) (P : Nat → Option Nat) : Prop := gx_M (gx_r14 a1 a2) r I P
def gx_R14 (a1 : Int) (a2 : Int) (p : Int → Prop) (I : Nat → Int → Int) (P : Nat → Option Nat) : Prop := gx_MP (gx_S14 a1 a2) p I P
theorem gx_14 {a1 a2 : Int} {Q : Int → lf_Z → Prop} {s : lf_Z} (hI : iv_A s.1 s.2.2) (ba1 : (-2147483648) ≤ a1 ∧ a1 ≤ 2147483647) (ba2 : (-2147483648) ≤ a2 ∧ a2 ≤ 2147483647) (hA : gx_A s.1 s.2.2) (hQ : ∀ (r : Int) (s' : lf_Z), iv_A s'.1 s'.2.2 → lf_fq [1, 2, 3] 1000000 true s.1 s.2.2 s'.1 s'.2.2 → gx_S14 a1 a2 r s'.1 s'.2.2 → ((-1) ≤ r ∧ r ≤ 11) → Q r s') : fm_14 a1 a2 Q s := by
  refine cj_14 (Q1 := fun r s' => iv_A s'.1 s'.2.2 ∧ lf_fq [1, 2, 3] 1000000 true s.1 s.2.2 s'.1 s'.2.2 ∧ ((-1) ≤ r ∧ r ≤ 11)) (Q2 := fun r s' => gx_S14 a1 a2 r s'.1 s'.2.2) (fun r s' h1 h2 => hQ r s' h1.1 h1.2.1 h2 h1.2.2) (sm_14 hI ba1 ba2 (fun r s' h1 h2 h3 => ⟨h1, h2, h3⟩)) ?_
  obtain ⟨⟨f, H, hF, hC, hR⟩, hD⟩ := hA
  obtain ⟨X, hB, hX, hXr⟩ := gx_X hD.2.2.1 hD.2.2.2.1.2.2.2.1 hD.2.2.2.2.2.2.2
  exact gc_14 hF hC (fun r t f' H' h1 h2 h3 h4 => gx_m1 (rel := gx_r14 a1 a2) hB hXr hF hR hD h1 h2 h3 h4 (gw_14 h1))
theorem gx_182 {a1 a2 : Int} {Q : Int → lf_Z → Prop} {s : lf_Z} (hI : iv_A s.1 s.2.2) (ba1 : (-2147483648) ≤ a1 ∧ a1 ≤ 2147483647) (ba2 : (-2147483648) ≤ a2 ∧ a2 ≤ 2147483647) (hM : gx_R14 a1 a2 p s.1 s.2.2) (hQ : ∀ (r : Int) (s' : lf_Z), iv_A s'.1 s'.2.2 → lf_fq [96, 1004, 1006] 0 true s.1 s.2.2 s'.1 s'.2.2 → (gx_p p r ∧ gx_A s'.1 s'.2.2) → ((-1) ≤ r ∧ r ≤ 11) → Q r s') : fm_182 a1 a2 Q s := by
  obtain ⟨r0, hp, ⟨X, J, f, H, f', H', hB, hX, hT, hF, hR, hF', hC'⟩, hD⟩ := hM
  refine cj_182 (Q1 := fun r s' => iv_A s'.1 s'.2.2 ∧ lf_fq [96, 1004, 1006] 0 true s.1 s.2.2 s'.1 s'.2.2 ∧ ((-1) ≤ r ∧ r ≤ 11)) (Q2 := fun r t => gr_F s t ∧ gr_T (s.1 28) s.1 f' H' (t.1 96) ∧ r = r0) (fun r s' h1 h2 => hQ r s' h1.1 h1.2.1 ⟨h2.2.2 ▸ hp, gx_m2 hF' hC' hD h2.1 h2.2.1 h1.2.1 rfl⟩ h1.2.2) (sm_182 hI ba1 ba2 (fun r s' h1 h2 h3 => ⟨h1, h2, h3⟩)) ?_
  exact gr_182 hF hR hT (fun t h1 h2 => ⟨h1, h2, rfl⟩)
def gx_r17 (a1 : Int) (a2 : Int) (a3 : Int) : gx_O := fun _ => gt_17 a1 a2 a3
def gx_S17 (a1 : Int) (a2 : Int) (a3 : Int) (r : Int) (I : Nat → Int → Int) (P : Nat → Option Nat) : Prop := gx_M (gx_r17 a1 a2 a3) r I P
def gx_R17 (a1 : Int) (a2 : Int) (a3 : Int) (p : Int → Prop) (I : Nat → Int → Int) (P : Nat → Option Nat) : Prop := gx_MP (gx_S17 a1 a2 a3) p I P
theorem gx_17 {a1 a2 a3 : Int} {Q : Int → lf_Z → Prop} {s : lf_Z} (hI : iv_A s.1 s.2.2) (ba1 : (-2147483648) ≤ a1 ∧ a1 ≤ 2147483647) (ba2 : (-2147483648) ≤ a2 ∧ a2 ≤ 2147483647) (ba3 : 0 ≤ a3 ∧ a3 ≤ 1) (hA : gx_A s.1 s.2.2) (hQ : ∀ (r : Int) (s' : lf_Z), iv_A s'.1 s'.2.2 → lf_fq [1, 4, 5, 6, 11, 12, 13] 1000000 true s.1 s.2.2 s'.1 s'.2.2 → gx_S17 a1 a2 a3 r s'.1 s'.2.2 → ((-1) ≤ r ∧ r ≤ 15) → Q r s') : fm_17 a1 a2 a3 Q s := by
  refine cj_17 (Q1 := fun r s' => iv_A s'.1 s'.2.2 ∧ lf_fq [1, 4, 5, 6, 11, 12, 13] 1000000 true s.1 s.2.2 s'.1 s'.2.2 ∧ ((-1) ≤ r ∧ r ≤ 15)) (Q2 := fun r s' => gx_S17 a1 a2 a3 r s'.1 s'.2.2) (fun r s' h1 h2 => hQ r s' h1.1 h1.2.1 h2 h1.2.2) (sm_17 hI ba1 ba2 ba3 (fun r s' h1 h2 h3 => ⟨h1, h2, h3⟩)) ?_
  obtain ⟨⟨f, H, hF, hC, hR⟩, hD⟩ := hA
  obtain ⟨X, hB, hX, hXr⟩ := gx_X hD.2.2.1 hD.2.2.2.1.2.2.2.1 hD.2.2.2.2.2.2.2
  exact gc_17 hF hC (fun r t f' H' h1 h2 h3 h4 => gx_m1 (rel := gx_r17 a1 a2 a3) hB hXr hF hR hD h1 h2 h3 h4 (gw_17 h1))
theorem gx_184 {a1 a2 a3 : Int} {Q : Int → lf_Z → Prop} {s : lf_Z} (hI : iv_A s.1 s.2.2) (ba1 : (-2147483648) ≤ a1 ∧ a1 ≤ 2147483647) (ba2 : (-2147483648) ≤ a2 ∧ a2 ≤ 2147483647) (ba3 : 0 ≤ a3 ∧ a3 ≤ 1) (hM : gx_R17 a1 a2 a3 p s.1 s.2.2) (hQ : ∀ (r : Int) (s' : lf_Z), iv_A s'.1 s'.2.2 → lf_fq [96, 1002, 1004, 1006] 1 true s.1 s.2.2 s'.1 s'.2.2 → (gx_p p r ∧ gx_A s'.1 s'.2.2) → ((-1) ≤ r ∧ r ≤ 15) → Q r s') : fm_184 a1 a2 a3 Q s := by
  obtain ⟨r0, hp, ⟨X, J, f, H, f', H', hB, hX, hT, hF, hR, hF', hC'⟩, hD⟩ := hM
  refine cj_184 (Q1 := fun r s' => iv_A s'.1 s'.2.2 ∧ lf_fq [96, 1002, 1004, 1006] 1 true s.1 s.2.2 s'.1 s'.2.2 ∧ ((-1) ≤ r ∧ r ≤ 15)) (Q2 := fun r t => gr_F s t ∧ gr_T (s.1 28) s.1 f' H' (t.1 96) ∧ r = r0) (fun r s' h1 h2 => hQ r s' h1.1 h1.2.1 ⟨h2.2.2 ▸ hp, gx_m2 hF' hC' hD h2.1 h2.2.1 h1.2.1 rfl⟩ h1.2.2) (sm_184 hI ba1 ba2 ba3 (fun r s' h1 h2 h3 => ⟨h1, h2, h3⟩)) ?_
  exact gr_184 (show a3 = 0 ∨ a3 = 1 by omega) hF hR hT (fun t h1 h2 => ⟨h1, h2, rfl⟩)
def gx_r23 (a1 : Int) (a2 : Int) (a3 : Int) (a4 : Int) : gx_O := fun _ => gt_23 a1 a2 a3 a4
def gx_S23 (a1 : Int) (a2 : Int) (a3 : Int) (a4 : Int) (r : Int) (I : Nat → Int → Int) (P : Nat → Option Nat) : Prop := gx_M (gx_r23 a1 a2 a3 a4) r I P
def gx_R23 (a1 : Int) (a2 : Int) (a3 : Int) (a4 : Int) (p : Int → Prop) (I : Nat → Int → Int) (P : Nat → Option Nat) : Prop := gx_MP (gx_S23 a1 a2 a3 a4) p I P
theorem gx_23 {a1 a2 a3 a4 : Int} {Q : Int → lf_Z → Prop} {s : lf_Z} (hI : iv_A s.1 s.2.2) (ba1 : (-2147483648) ≤ a1 ∧ a1 ≤ 2147483647) (ba2 : 0 ≤ a2 ∧ a2 ≤ 1) (ba3 : 0 ≤ a3 ∧ a3 ≤ 1) (ba4 : (-2147483648) ≤ a4 ∧ a4 ≤ 2147483647) (hA : gx_A s.1 s.2.2) (hQ : ∀ (r : Int) (s' : lf_Z), iv_A s'.1 s'.2.2 → lf_fq [1, 7, 8, 9, 10, 19, 20] 1000000 true s.1 s.2.2 s'.1 s'.2.2 → gx_S23 a1 a2 a3 a4 r s'.1 s'.2.2 → ((-1) ≤ r ∧ r ≤ 5) → Q r s') : fm_23 a1 a2 a3 a4 Q s := by
  refine cj_23 (Q1 := fun r s' => iv_A s'.1 s'.2.2 ∧ lf_fq [1, 7, 8, 9, 10, 19, 20] 1000000 true s.1 s.2.2 s'.1 s'.2.2 ∧ ((-1) ≤ r ∧ r ≤ 5)) (Q2 := fun r s' => gx_S23 a1 a2 a3 a4 r s'.1 s'.2.2) (fun r s' h1 h2 => hQ r s' h1.1 h1.2.1 h2 h1.2.2) (sm_23 hI ba1 ba2 ba3 ba4 (fun r s' h1 h2 h3 => ⟨h1, h2, h3⟩)) ?_
  obtain ⟨⟨f, H, hF, hC, hR⟩, hD⟩ := hA
  obtain ⟨X, hB, hX, hXr⟩ := gx_X hD.2.2.1 hD.2.2.2.1.2.2.2.1 hD.2.2.2.2.2.2.2
  exact gc_23 hF hC (fun r t f' H' h1 h2 h3 h4 => gx_m1 (rel := gx_r23 a1 a2 a3 a4) hB hXr hF hR hD h1 h2 h3 h4 (gw_23 h1))
theorem gx_189 {a1 a2 a3 a4 : Int} {Q : Int → lf_Z → Prop} {s : lf_Z} (hI : iv_A s.1 s.2.2) (ba1 : (-2147483648) ≤ a1 ∧ a1 ≤ 2147483647) (ba2 : 0 ≤ a2 ∧ a2 ≤ 1) (ba3 : 0 ≤ a3 ∧ a3 ≤ 1) (ba4 : (-2147483648) ≤ a4 ∧ a4 ≤ 2147483647) (hM : gx_R23 a1 a2 a3 a4 p s.1 s.2.2) (hQ : ∀ (r : Int) (s' : lf_Z), iv_A s'.1 s'.2.2 → lf_fq [96, 1004, 1006] 2 true s.1 s.2.2 s'.1 s'.2.2 → (gx_p p r ∧ gx_A s'.1 s'.2.2) → ((-1) ≤ r ∧ r ≤ 5) → Q r s') : fm_189 a1 a2 a3 a4 Q s := by
  obtain ⟨r0, hp, ⟨X, J, f, H, f', H', hB, hX, hT, hF, hR, hF', hC'⟩, hD⟩ := hM
  refine cj_189 (Q1 := fun r s' => iv_A s'.1 s'.2.2 ∧ lf_fq [96, 1004, 1006] 2 true s.1 s.2.2 s'.1 s'.2.2 ∧ ((-1) ≤ r ∧ r ≤ 5)) (Q2 := fun r t => gr_F s t ∧ gr_T (s.1 28) s.1 f' H' (t.1 96) ∧ r = r0) (fun r s' h1 h2 => hQ r s' h1.1 h1.2.1 ⟨h2.2.2 ▸ hp, gx_m2 hF' hC' hD h2.1 h2.2.1 h1.2.1 rfl⟩ h1.2.2) (sm_189 hI ba1 ba2 ba3 ba4 (fun r s' h1 h2 h3 => ⟨h1, h2, h3⟩)) ?_
  exact gr_189 (show a2 = 0 ∨ a2 = 1 by omega) (show a3 = 0 ∨ a3 = 1 by omega) hF hR hT (fun t h1 h2 => ⟨h1, h2, rfl⟩)
def gx_r63 (a1 : Int) (a2 : Int) : gx_O := fun _ => gt_63 a1 a2
def gx_S63 (a1 : Int) (a2 : Int) (r : Int) (I : Nat → Int → Int) (P : Nat → Option Nat) : Prop := gx_M (gx_r63 a1 a2) r I P
def gx_R63 (a1 : Int) (a2 : Int) (p : Int → Prop) (I : Nat → Int → Int) (P : Nat → Option Nat) : Prop := gx_MP (gx_S63 a1 a2) p I P
theorem gx_63 {a1 a2 : Int} {Q : Int → lf_Z → Prop} {s : lf_Z} (hI : iv_A s.1 s.2.2) (ba1 : (-2147483648) ≤ a1 ∧ a1 ≤ 2147483647) (ba2 : (-2147483648) ≤ a2 ∧ a2 ≤ 2147483647) (hA : gx_A s.1 s.2.2) (hQ : ∀ (r : Int) (s' : lf_Z), iv_A s'.1 s'.2.2 → lf_fq [16, 17, 18, 22, 23, 24] 1000000 true s.1 s.2.2 s'.1 s'.2.2 → gx_S63 a1 a2 r s'.1 s'.2.2 → ((-1) ≤ r ∧ r ≤ 3) → Q r s') : fm_63 a1 a2 Q s := by
  refine cj_63 (Q1 := fun r s' => iv_A s'.1 s'.2.2 ∧ lf_fq [16, 17, 18, 22, 23, 24] 1000000 true s.1 s.2.2 s'.1 s'.2.2 ∧ ((-1) ≤ r ∧ r ≤ 3)) (Q2 := fun r s' => gx_S63 a1 a2 r s'.1 s'.2.2) (fun r s' h1 h2 => hQ r s' h1.1 h1.2.1 h2 h1.2.2) (sm_63 hI ba1 ba2 (fun r s' h1 h2 h3 => ⟨h1, h2, h3⟩)) ?_
  obtain ⟨⟨f, H, hF, hC, hR⟩, hD⟩ := hA
  obtain ⟨X, hB, hX, hXr⟩ := gx_X hD.2.2.1 hD.2.2.2.1.2.2.2.1 hD.2.2.2.2.2.2.2
  exact gc_63 hF hC (fun r t f' H' h1 h2 h3 h4 => gx_m1 (rel := gx_r63 a1 a2) hB hXr hF hR hD h1 h2 h3 h4 (gw_o h1))
theorem gx_240 {a1 a2 : Int} {Q : Int → lf_Z → Prop} {s : lf_Z} (hI : iv_A s.1 s.2.2) (ba1 : (-2147483648) ≤ a1 ∧ a1 ≤ 2147483647) (ba2 : (-2147483648) ≤ a2 ∧ a2 ≤ 2147483647) (hM : gx_R63 a1 a2 p s.1 s.2.2) (hQ : ∀ (r : Int) (s' : lf_Z), iv_A s'.1 s'.2.2 → lf_fq [96, 1005, 1006] 9 true s.1 s.2.2 s'.1 s'.2.2 → (gx_p p r ∧ gx_A s'.1 s'.2.2) → ((-1) ≤ r ∧ r ≤ 3) → Q r s') : fm_240 a1 a2 Q s := by
  obtain ⟨r0, hp, ⟨X, J, f, H, f', H', hB, hX, hT, hF, hR, hF', hC'⟩, hD⟩ := hM
  refine cj_240 (Q1 := fun r s' => iv_A s'.1 s'.2.2 ∧ lf_fq [96, 1005, 1006] 9 true s.1 s.2.2 s'.1 s'.2.2 ∧ ((-1) ≤ r ∧ r ≤ 3)) (Q2 := fun r t => gr_F s t ∧ gr_T (s.1 28) s.1 f' H' (t.1 96) ∧ r = r0) (fun r s' h1 h2 => hQ r s' h1.1 h1.2.1 ⟨h2.2.2 ▸ hp, gx_m2 hF' hC' hD h2.1 h2.2.1 h1.2.1 rfl⟩ h1.2.2) (sm_240 hI ba1 ba2 (fun r s' h1 h2 h3 => ⟨h1, h2, h3⟩)) ?_
  exact gr_240 hF hR hT (fun t h1 h2 => ⟨h1, h2, rfl⟩)
def gx_r70 (a1 : Int) : gx_O := fun X => gt_70 X a1
def gx_S70 (a1 : Int) (r : Int) (I : Nat → Int → Int) (P : Nat → Option Nat) : Prop := gx_M (gx_r70 a1) r I P
def gx_R70 (a1 : Int) (p : Int → Prop) (I : Nat → Int → Int) (P : Nat → Option Nat) : Prop := gx_MP (gx_S70 a1) p I P
theorem gx_70 {a1 : Int} {Q : Int → lf_Z → Prop} {s : lf_Z} (hI : iv_A s.1 s.2.2) (ba1 : (-2147483648) ≤ a1 ∧ a1 ≤ 2147483647) (hA : gx_A s.1 s.2.2) (hQ : ∀ (r : Int) (s' : lf_Z), iv_A s'.1 s'.2.2 → lf_fq [15, 16, 17, 18, 19, 21, 22, 23, 24, 63, 64, 65, 66] 1000000 true s.1 s.2.2 s'.1 s'.2.2 → gx_S70 a1 r s'.1 s'.2.2 → ((-2147483648) ≤ r ∧ r ≤ 2147483647) → Q r s') : fm_70 a1 Q s := by
  refine cj_70 (Q1 := fun r s' => iv_A s'.1 s'.2.2 ∧ lf_fq [15, 16, 17, 18, 19, 21, 22, 23, 24, 63, 64, 65, 66] 1000000 true s.1 s.2.2 s'.1 s'.2.2 ∧ ((-2147483648) ≤ r ∧ r ≤ 2147483647)) (Q2 := fun r s' => gx_S70 a1 r s'.1 s'.2.2) (fun r s' h1 h2 => hQ r s' h1.1 h1.2.1 h2 h1.2.2) (sm_70 hI ba1 (fun r s' h1 h2 h3 => ⟨h1, h2, h3⟩)) ?_
  obtain ⟨⟨f, H, hF, hC, hR⟩, hD⟩ := hA
  obtain ⟨X, hB, hX, hXr⟩ := gx_X hD.2.2.1 hD.2.2.2.1.2.2.2.1 hD.2.2.2.2.2.2.2
  exact gc_70 hF hC hX hB (fun r t f' H' h1 h2 h3 h4 => gx_m1 (rel := gx_r70 a1) hB hXr hF hR hD h1 h2 h3 h4 (gw_o h1))
theorem gx_257 {a1 : Int} {Q : Int → lf_Z → Prop} {s : lf_Z} (hI : iv_A s.1 s.2.2) (ba1 : (-2147483648) ≤ a1 ∧ a1 ≤ 2147483647) (hM : gx_R70 a1 p s.1 s.2.2) (hQ : ∀ (r : Int) (s' : lf_Z), iv_A s'.1 s'.2.2 → lf_fq [96, 104, 107, 108, 1005, 1006] 3 true s.1 s.2.2 s'.1 s'.2.2 → (gx_p p r ∧ gx_A s'.1 s'.2.2) → ((-2147483648) ≤ r ∧ r ≤ 2147483647) → Q r s') : fm_257 a1 Q s := by
  obtain ⟨r0, hp, ⟨X, J, f, H, f', H', hB, hX, hT, hF, hR, hF', hC'⟩, hD⟩ := hM
  refine cj_257 (Q1 := fun r s' => iv_A s'.1 s'.2.2 ∧ lf_fq [96, 104, 107, 108, 1005, 1006] 3 true s.1 s.2.2 s'.1 s'.2.2 ∧ ((-2147483648) ≤ r ∧ r ≤ 2147483647)) (Q2 := fun r t => gr_F s t ∧ gr_T (s.1 28) s.1 f' H' (t.1 96) ∧ r = r0) (fun r s' h1 h2 => hQ r s' h1.1 h1.2.1 ⟨h2.2.2 ▸ hp, gx_m2 hF' hC' hD h2.1 h2.2.1 h1.2.1 rfl⟩ h1.2.2) (sm_257 hI ba1 (fun r s' h1 h2 h3 => ⟨h1, h2, h3⟩)) ?_
  exact gr_257 hF hR ⟨hX, rfl, hD.2.2.2.2.2.2.2.1, hD.2.2.2.2.2.2.2.2.1, hD.2.2.2.2.2.2.2.2.2.1, hD.2.2.2.2.2.2.2.2.2.2⟩ hB hT (fun t h1 h2 => ⟨h1, h2, rfl⟩)
def gx_r98 (a1 : Int) (a2 : Int) : gx_O := fun _ => gt_98 a1 a2
def gx_S98 (a1 : Int) (a2 : Int) (r : Int) (I : Nat → Int → Int) (P : Nat → Option Nat) : Prop := gx_M (gx_r98 a1 a2) r I P
def gx_R98 (a1 : Int) (a2 : Int) (p : Int → Prop) (I : Nat → Int → Int) (P : Nat → Option Nat) : Prop := gx_MP (gx_S98 a1 a2) p I P
theorem gx_98 {a1 a2 : Int} {Q : Bool → lf_Z → Prop} {s : lf_Z} (hI : iv_A s.1 s.2.2) (ba1 : (-2147483648) ≤ a1 ∧ a1 ≤ 2147483647) (ba2 : (-2147483648) ≤ a2 ∧ a2 ≤ 2147483647) (hA : gx_A s.1 s.2.2) (hQ : ∀ (z : Bool) (s' : lf_Z), iv_A s'.1 s'.2.2 → lf_fq [20, 22, 23, 24] 1000000 true s.1 s.2.2 s'.1 s'.2.2 → gx_S98 a1 a2 (lf_b z) s'.1 s'.2.2 → Q z s') : fm_98 a1 a2 Q s := by
  refine cj_98 (Q1 := fun z s' => iv_A s'.1 s'.2.2 ∧ lf_fq [20, 22, 23, 24] 1000000 true s.1 s.2.2 s'.1 s'.2.2) (Q2 := fun z s' => gx_S98 a1 a2 (lf_b z) s'.1 s'.2.2) (fun z s' h1 h2 => hQ z s' h1.1 h1.2 h2) (sm_98 hI ba1 ba2 (fun z s' h1 h2 => ⟨h1, h2⟩)) ?_
  obtain ⟨⟨f, H, hF, hC, hR⟩, hD⟩ := hA
  obtain ⟨X, hB, hX, hXr⟩ := gx_X hD.2.2.1 hD.2.2.2.1.2.2.2.1 hD.2.2.2.2.2.2.2
  exact gc_98 hF hC (fun z t f' H' h1 h2 h3 h4 => gx_m1 (rel := gx_r98 a1 a2) hB hXr hF hR hD h1 h2 h3 h4 (gw_o h1))
theorem gx_248 {a1 a2 : Int} {Q : Bool → lf_Z → Prop} {s : lf_Z} (hI : iv_A s.1 s.2.2) (ba1 : (-2147483648) ≤ a1 ∧ a1 ≤ 2147483647) (ba2 : (-2147483648) ≤ a2 ∧ a2 ≤ 2147483647) (hM : gx_R98 a1 a2 p s.1 s.2.2) (hQ : ∀ (z : Bool) (s' : lf_Z), iv_A s'.1 s'.2.2 → lf_fq [96, 1005, 1006] 9 true s.1 s.2.2 s'.1 s'.2.2 → (gx_p p (lf_b z) ∧ gx_A s'.1 s'.2.2) → Q z s') : fm_248 a1 a2 Q s := by
  obtain ⟨r0, hp, ⟨X, J, f, H, f', H', hB, hX, hT, hF, hR, hF', hC'⟩, hD⟩ := hM
  obtain ⟨z0, hz⟩ := gq_oz hT
  subst hz
  refine cj_248 (Q1 := fun z s' => iv_A s'.1 s'.2.2 ∧ lf_fq [96, 1005, 1006] 9 true s.1 s.2.2 s'.1 s'.2.2) (Q2 := fun z t => gr_F s t ∧ gr_T (s.1 28) s.1 f' H' (t.1 96) ∧ (lf_b z) = lf_b z0) (fun z s' h1 h2 => hQ z s' h1.1 h1.2 ⟨h2.2.2 ▸ hp, gx_m2 hF' hC' hD h2.1 h2.2.1 h1.2 rfl⟩) (sm_248 hI ba1 ba2 (fun z s' h1 h2 => ⟨h1, h2⟩)) ?_
  exact gr_248 hF hR hT (fun t h1 h2 => ⟨h1, h2, rfl⟩)
def gx_r100 (a1 : Int) (a2 : Int) : gx_O := fun _ => gt_100 a1 a2
def gx_S100 (a1 : Int) (a2 : Int) (r : Int) (I : Nat → Int → Int) (P : Nat → Option Nat) : Prop := gx_M (gx_r100 a1 a2) r I P
def gx_R100 (a1 : Int) (a2 : Int) (p : Int → Prop) (I : Nat → Int → Int) (P : Nat → Option Nat) : Prop := gx_MP (gx_S100 a1 a2) p I P
theorem gx_100 {a1 a2 : Int} {Q : Bool → lf_Z → Prop} {s : lf_Z} (hI : iv_A s.1 s.2.2) (ba1 : (-2147483648) ≤ a1 ∧ a1 ≤ 2147483647) (ba2 : 0 ≤ a2 ∧ a2 ≤ 1) (hA : gx_A s.1 s.2.2) (hQ : ∀ (z : Bool) (s' : lf_Z), iv_A s'.1 s'.2.2 → lf_fq [15, 22, 23, 24] 1000000 true s.1 s.2.2 s'.1 s'.2.2 → gx_S100 a1 a2 (lf_b z) s'.1 s'.2.2 → Q z s') : fm_100 a1 a2 Q s := by
  refine cj_100 (Q1 := fun z s' => iv_A s'.1 s'.2.2 ∧ lf_fq [15, 22, 23, 24] 1000000 true s.1 s.2.2 s'.1 s'.2.2) (Q2 := fun z s' => gx_S100 a1 a2 (lf_b z) s'.1 s'.2.2) (fun z s' h1 h2 => hQ z s' h1.1 h1.2 h2) (sm_100 hI ba1 ba2 (fun z s' h1 h2 => ⟨h1, h2⟩)) ?_
  obtain ⟨⟨f, H, hF, hC, hR⟩, hD⟩ := hA
  obtain ⟨X, hB, hX, hXr⟩ := gx_X hD.2.2.1 hD.2.2.2.1.2.2.2.1 hD.2.2.2.2.2.2.2
  exact gc_100 hF hC (fun z t f' H' h1 h2 h3 h4 => gx_m1 (rel := gx_r100 a1 a2) hB hXr hF hR hD h1 h2 h3 h4 (gw_o h1))
theorem gx_250 {a1 a2 : Int} {Q : Bool → lf_Z → Prop} {s : lf_Z} (hI : iv_A s.1 s.2.2) (ba1 : (-2147483648) ≤ a1 ∧ a1 ≤ 2147483647) (ba2 : 0 ≤ a2 ∧ a2 ≤ 1) (hM : gx_R100 a1 a2 p s.1 s.2.2) (hQ : ∀ (z : Bool) (s' : lf_Z), iv_A s'.1 s'.2.2 → lf_fq [96, 1004, 1005, 1006] 9 true s.1 s.2.2 s'.1 s'.2.2 → (gx_p p (lf_b z) ∧ gx_A s'.1 s'.2.2) → Q z s') : fm_250 a1 a2 Q s := by
  obtain ⟨r0, hp, ⟨X, J, f, H, f', H', hB, hX, hT, hF, hR, hF', hC'⟩, hD⟩ := hM
  obtain ⟨z0, hz⟩ := gq_oz hT
  subst hz
  refine cj_250 (Q1 := fun z s' => iv_A s'.1 s'.2.2 ∧ lf_fq [96, 1004, 1005, 1006] 9 true s.1 s.2.2 s'.1 s'.2.2) (Q2 := fun z t => gr_F s t ∧ gr_T (s.1 28) s.1 f' H' (t.1 96) ∧ (lf_b z) = lf_b z0) (fun z s' h1 h2 => hQ z s' h1.1 h1.2 ⟨h2.2.2 ▸ hp, gx_m2 hF' hC' hD h2.1 h2.2.1 h1.2 rfl⟩) (sm_250 hI ba1 ba2 (fun z s' h1 h2 => ⟨h1, h2⟩)) ?_
  exact gr_250 (show a2 = 0 ∨ a2 = 1 by omega) hF hR hT (fun t h1 h2 => ⟨h1, h2, rfl⟩)
def gx_r102 (a1 : Int) (a2 : Int) : gx_O := fun _ => gt_102 a1 a2
def gx_S102 (a1 : Int) (a2 : Int) (r : Int) (I : Nat → Int → Int) (P : Nat → Option Nat) : Prop := gx_M (gx_r102 a1 a2) r I P
def gx_R102 (a1 : Int) (a2 : Int) (p : Int → Prop) (I : Nat → Int → Int) (P : Nat → Option Nat) : Prop := gx_MP (gx_S102 a1 a2) p I P
theorem gx_102 {a1 a2 : Int} {Q : Int → lf_Z → Prop} {s : lf_Z} (hI : iv_A s.1 s.2.2) (ba1 : (-2147483648) ≤ a1 ∧ a1 ≤ 2147483647) (ba2 : (-2147483648) ≤ a2 ∧ a2 ≤ 2147483647) (hA : gx_A s.1 s.2.2) (hQ : ∀ (r : Int) (s' : lf_Z), iv_A s'.1 s'.2.2 → lf_fq [16, 17, 18, 22, 23, 24] 1000000 true s.1 s.2.2 s'.1 s'.2.2 → gx_S102 a1 a2 r s'.1 s'.2.2 → ((-1) ≤ r ∧ r ≤ 3) → Q r s') : fm_102 a1 a2 Q s := by
  refine cj_102 (Q1 := fun r s' => iv_A s'.1 s'.2.2 ∧ lf_fq [16, 17, 18, 22, 23, 24] 1000000 true s.1 s.2.2 s'.1 s'.2.2 ∧ ((-1) ≤ r ∧ r ≤ 3)) (Q2 := fun r s' => gx_S102 a1 a2 r s'.1 s'.2.2) (fun r s' h1 h2 => hQ r s' h1.1 h1.2.1 h2 h1.2.2) (sm_102 hI ba1 ba2 (fun r s' h1 h2 h3 => ⟨h1, h2, h3⟩)) ?_
  obtain ⟨⟨f, H, hF, hC, hR⟩, hD⟩ := hA
  obtain ⟨X, hB, hX, hXr⟩ := gx_X hD.2.2.1 hD.2.2.2.1.2.2.2.1 hD.2.2.2.2.2.2.2
  exact gc_102 hF hC (fun r t f' H' h1 h2 h3 h4 => gx_m1 (rel := gx_r102 a1 a2) hB hXr hF hR hD h1 h2 h3 h4 (gw_o h1))
theorem gx_253 {a1 a2 : Int} {Q : Int → lf_Z → Prop} {s : lf_Z} (hI : iv_A s.1 s.2.2) (ba1 : (-2147483648) ≤ a1 ∧ a1 ≤ 2147483647) (ba2 : (-2147483648) ≤ a2 ∧ a2 ≤ 2147483647) (hM : gx_R102 a1 a2 p s.1 s.2.2) (hQ : ∀ (r : Int) (s' : lf_Z), iv_A s'.1 s'.2.2 → lf_fq [96, 1005, 1006] 9 true s.1 s.2.2 s'.1 s'.2.2 → (gx_p p r ∧ gx_A s'.1 s'.2.2) → ((-1) ≤ r ∧ r ≤ 3) → Q r s') : fm_253 a1 a2 Q s := by
  obtain ⟨r0, hp, ⟨X, J, f, H, f', H', hB, hX, hT, hF, hR, hF', hC'⟩, hD⟩ := hM
  refine cj_253 (Q1 := fun r s' => iv_A s'.1 s'.2.2 ∧ lf_fq [96, 1005, 1006] 9 true s.1 s.2.2 s'.1 s'.2.2 ∧ ((-1) ≤ r ∧ r ≤ 3)) (Q2 := fun r t => gr_F s t ∧ gr_T (s.1 28) s.1 f' H' (t.1 96) ∧ r = r0) (fun r s' h1 h2 => hQ r s' h1.1 h1.2.1 ⟨h2.2.2 ▸ hp, gx_m2 hF' hC' hD h2.1 h2.2.1 h1.2.1 rfl⟩ h1.2.2) (sm_253 hI ba1 ba2 (fun r s' h1 h2 h3 => ⟨h1, h2, h3⟩)) ?_
  exact gr_253 hF hR hT (fun t h1 h2 => ⟨h1, h2, rfl⟩)
def gx_r105 (a1 : Int) (a2 : Int) : gx_O := fun X => gt_105 X a1 a2
def gx_S105 (a1 : Int) (a2 : Int) (r : Int) (I : Nat → Int → Int) (P : Nat → Option Nat) : Prop := gx_M (gx_r105 a1 a2) r I P
def gx_R105 (a1 : Int) (a2 : Int) (p : Int → Prop) (I : Nat → Int → Int) (P : Nat → Option Nat) : Prop := gx_MP (gx_S105 a1 a2) p I P
theorem gx_105 {a1 a2 : Int} {Q : Int → lf_Z → Prop} {s : lf_Z} (hI : iv_A s.1 s.2.2) (ba1 : (-2147483648) ≤ a1 ∧ a1 ≤ 2147483647) (ba2 : (-2147483648) ≤ a2 ∧ a2 ≤ 2147483647) (hA : gx_A s.1 s.2.2) (hQ : ∀ (r : Int) (s' : lf_Z), iv_A s'.1 s'.2.2 → lf_fq [15, 16, 17, 18, 19, 20, 21, 22, 23, 24, 63, 64, 65, 66] 1000000 true s.1 s.2.2 s'.1 s'.2.2 → gx_S105 a1 a2 r s'.1 s'.2.2 → ((-2147483648) ≤ r ∧ r ≤ 2147483647) → Q r s') : fm_105 a1 a2 Q s := by
  refine cj_105 (Q1 := fun r s' => iv_A s'.1 s'.2.2 ∧ lf_fq [15, 16, 17, 18, 19, 20, 21, 22, 23, 24, 63, 64, 65, 66] 1000000 true s.1 s.2.2 s'.1 s'.2.2 ∧ ((-2147483648) ≤ r ∧ r ≤ 2147483647)) (Q2 := fun r s' => gx_S105 a1 a2 r s'.1 s'.2.2) (fun r s' h1 h2 => hQ r s' h1.1 h1.2.1 h2 h1.2.2) (sm_105 hI ba1 ba2 (fun r s' h1 h2 h3 => ⟨h1, h2, h3⟩)) ?_
  obtain ⟨⟨f, H, hF, hC, hR⟩, hD⟩ := hA
  obtain ⟨X, hB, hX, hXr⟩ := gx_X hD.2.2.1 hD.2.2.2.1.2.2.2.1 hD.2.2.2.2.2.2.2
  exact gc_105 hF hC hX hB (fun r t f' H' h1 h2 h3 h4 => gx_m1 (rel := gx_r105 a1 a2) hB hXr hF hR hD h1 h2 h3 h4 (gw_o h1))
theorem gx_282 {a1 a2 : Int} {Q : Int → lf_Z → Prop} {s : lf_Z} (hI : iv_A s.1 s.2.2) (ba1 : (-2147483648) ≤ a1 ∧ a1 ≤ 2147483647) (ba2 : (-2147483648) ≤ a2 ∧ a2 ≤ 2147483647) (hM : gx_R105 a1 a2 p s.1 s.2.2) (hQ : ∀ (r : Int) (s' : lf_Z), iv_A s'.1 s'.2.2 → lf_fq [96, 104, 107, 108, 1005, 1006] 3 true s.1 s.2.2 s'.1 s'.2.2 → (gx_p p r ∧ gx_A s'.1 s'.2.2) → ((-2147483648) ≤ r ∧ r ≤ 2147483647) → Q r s') : fm_282 a1 a2 Q s := by
  obtain ⟨r0, hp, ⟨X, J, f, H, f', H', hB, hX, hT, hF, hR, hF', hC'⟩, hD⟩ := hM
  refine cj_282 (Q1 := fun r s' => iv_A s'.1 s'.2.2 ∧ lf_fq [96, 104, 107, 108, 1005, 1006] 3 true s.1 s.2.2 s'.1 s'.2.2 ∧ ((-2147483648) ≤ r ∧ r ≤ 2147483647)) (Q2 := fun r t => gr_F s t ∧ gr_T (s.1 28) s.1 f' H' (t.1 96) ∧ r = r0) (fun r s' h1 h2 => hQ r s' h1.1 h1.2.1 ⟨h2.2.2 ▸ hp, gx_m2 hF' hC' hD h2.1 h2.2.1 h1.2.1 rfl⟩ h1.2.2) (sm_282 hI ba1 ba2 (fun r s' h1 h2 h3 => ⟨h1, h2, h3⟩)) ?_
  exact gr_282 hF hR ⟨hX, rfl, hD.2.2.2.2.2.2.2.1, hD.2.2.2.2.2.2.2.2.1, hD.2.2.2.2.2.2.2.2.2.1, hD.2.2.2.2.2.2.2.2.2.2⟩ hB hT (fun t h1 h2 => ⟨h1, h2, rfl⟩)
def gx_r107 : gx_O := fun _ => gt_107
def gx_S107 (r : Int) (I : Nat → Int → Int) (P : Nat → Option Nat) : Prop := gx_M (gx_r107) r I P
def gx_R107 (p : Int → Prop) (I : Nat → Int → Int) (P : Nat → Option Nat) : Prop := gx_MP (gx_S107) p I P
theorem gx_107 {Q : Int → lf_Z → Prop} {s : lf_Z} (hI : iv_A s.1 s.2.2) (hA : gx_A s.1 s.2.2) (hQ : ∀ (r : Int) (s' : lf_Z), iv_A s'.1 s'.2.2 → lf_fq [15, 16, 17, 18, 19, 20, 21, 22] 1000000 true s.1 s.2.2 s'.1 s'.2.2 → gx_S107 r s'.1 s'.2.2 → ((-1) ≤ r ∧ r ≤ 30) → Q r s') : fm_107 Q s := by
  refine cj_107 (Q1 := fun r s' => iv_A s'.1 s'.2.2 ∧ lf_fq [15, 16, 17, 18, 19, 20, 21, 22] 1000000 true s.1 s.2.2 s'.1 s'.2.2 ∧ ((-1) ≤ r ∧ r ≤ 30)) (Q2 := fun r s' => gx_S107 r s'.1 s'.2.2) (fun r s' h1 h2 => hQ r s' h1.1 h1.2.1 h2 h1.2.2) (sm_107 hI (fun r s' h1 h2 h3 => ⟨h1, h2, h3⟩)) ?_
  obtain ⟨⟨f, H, hF, hC, hR⟩, hD⟩ := hA
  obtain ⟨X, hB, hX, hXr⟩ := gx_X hD.2.2.1 hD.2.2.2.1.2.2.2.1 hD.2.2.2.2.2.2.2
  exact gc_107 hF hC (fun r t f' H' h1 h2 h3 h4 => gx_m1 (rel := gx_r107) hB hXr hF hR hD h1 h2 h3 h4 (gw_o h1))
theorem gx_238 {Q : Int → lf_Z → Prop} {s : lf_Z} (hI : iv_A s.1 s.2.2) (hM : gx_R107 p s.1 s.2.2) (hQ : ∀ (r : Int) (s' : lf_Z), iv_A s'.1 s'.2.2 → lf_fq [96, 1004, 1005, 1006] 3 true s.1 s.2.2 s'.1 s'.2.2 → (gx_p p r ∧ gx_A s'.1 s'.2.2) → ((-1) ≤ r ∧ r ≤ 29) → Q r s') : fm_238 Q s := by
  obtain ⟨r0, hp, ⟨X, J, f, H, f', H', hB, hX, hT, hF, hR, hF', hC'⟩, hD⟩ := hM
  refine cj_238 (Q1 := fun r s' => iv_A s'.1 s'.2.2 ∧ lf_fq [96, 1004, 1005, 1006] 3 true s.1 s.2.2 s'.1 s'.2.2 ∧ ((-1) ≤ r ∧ r ≤ 29)) (Q2 := fun r t => gr_F s t ∧ gr_T (s.1 28) s.1 f' H' (t.1 96) ∧ r = r0) (fun r s' h1 h2 => hQ r s' h1.1 h1.2.1 ⟨h2.2.2 ▸ hp, gx_m2 hF' hC' hD h2.1 h2.2.1 h1.2.1 rfl⟩ h1.2.2) (sm_238 hI (fun r s' h1 h2 h3 => ⟨h1, h2, h3⟩)) ?_
  exact gr_238 hF hR hT (fun t h1 h2 => ⟨h1, h2, rfl⟩)
end GM
