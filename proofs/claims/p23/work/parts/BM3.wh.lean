/-! where: the reference -/
section WH
variable {J : Nat → Int → Int} {s t u : lf_Z} {f F D A M sv : Int → Int} {X : mn_X} {I : Nat → Int → Int} {H : List rr_H} {a b c p x d z v N i y x1 x2 x3 x4 x5 x7 : Int} {n m : Nat}
theorem ww_br (h : t.1 = s.1) (h2 : t.2.2 = s.2.2) : wj_r s t := ⟨fun c _ _ _ _ => congrFun h c, h2⟩
def ww_n4 (J : Nat → Int → Int) (X : mn_X) (f : Int → Int) (z : Int) (s : lf_Z) (p c : Int) (T : ww_T) (x4 x6 : Int) (t : lf_Z) : Prop := wj_r s t ∧ t.2.1 109 = s.2.1 109 ∧ ∃ (w : Nat) (T' : ww_T), x6 = w ∧ w ≤ (J 1 1).toNat ∧ x4 = T'.1 ∧ ww_q (t.2.1 110) T'.2 ∧ ww_go J (fun w => wj_ch J X f z 0 0 0 w p c) p (J 1 1).toNat 0 T = ww_go J (fun w => wj_ch J X f z 0 0 0 w p c) p ((J 1 1).toNat - w) w T'
theorem fl_290 {Q : lf_Z → Prop} (hF : wj_F J X z v) (hB : wj_B J X f 0 v 0 M s) (x0 : 0 ≤ x) (x1 : x < 13 * J 1 0) (hD : s.2.1 109 x = d) (hq : ww_q (s.2.1 110) A)
    (k : ∀ t : lf_Z, wj_r s t → t.2.1 109 = s.2.1 109 → ww_q (t.2.1 110) (ww_fr J (ww_c J X f z 0) x d A) → Q t) : fw_290 z x Q s := by
  have hW := hF.1
  have n0 := hW.1
  have n1 := hW.2.1
  obtain ⟨p, hp⟩ : ∃ p : Int, p = x.tdiv 13 := ⟨_, rfl⟩
  obtain ⟨c, hc⟩ : ∃ c : Int, c = x.tmod 13 - 1 := ⟨_, rfl⟩
  obtain ⟨T, hT⟩ : ∃ T : ww_T, T = (lf_wl (lf_wl d * 10000), A) := ⟨_, rfl⟩
  have p0 : 0 ≤ p ∧ p < J 1 0 := by rw [hp]; exact ww_p0 x0 x1
  have kk : ∀ t : lf_Z, wj_r s t → t.2.1 109 = s.2.1 109 → ww_q (t.2.1 110) (ww_en x (ww_go J (fun w => wj_ch J X f z 0 0 0 w p c) p (J 1 1).toNat 0 T)) → Q t := by
    rw [hp, hc, hT]
    exact k
  have hC : ∀ w : Nat, mn_at J p w = false → wj_ch J X f z 0 0 0 w p c = 0 := fun w hw => if_pos (Or.inl (by rw [Int.toNat_natCast]; exact hw))
  unfold fw_290
  intro _ _
  rw [hD, ← hp]
  refine ⟨ww_n4 J X f z s p c T, ?_, ⟨wj_rr, rfl, 0, T, rfl, Nat.zero_le _, congrArg Prod.fst hT.symm, by rw [hT]; exact hq, rfl⟩⟩
  intro x4 x6 t ⟨te, t9, w, T', ew, wW, ex, tq, eg⟩
  subst ew
  subst ex
  have tB := wj_Be hB te
  have e1 : t.1 96 1 = J 1 1 := tB.1.2.1
  unfold fw_290_p20
  rw [e1]
  intro _ _
  refine ⟨fun y _ => ?_, fun y _ => ?_⟩
  · refine kk _ ⟨fun c a b d e => te.1 c a b d e, te.2⟩ ((ww_lr (by decide)).trans t9) ?_
    rw [ww_ls, eg, show (J 1 1).toNat - w = 0 by omega, tq x x0 (by omega)]
    exact ww_qu tq
  · have un : ww_go J (fun w => wj_ch J X f z 0 0 0 w p c) p ((J 1 1).toNat - w) w T' = ww_go J (fun w => wj_ch J X f z 0 0 0 w p c) p ((J 1 1).toNat - (w + 1)) (w + 1) (ww_pu J (fun w => wj_ch J X f z 0 0 0 w p c) p w T') := by
      rw [show (J 1 1).toNat - w = ((J 1 1).toNat - (w + 1)) + 1 by omega]
      rfl
    have eg2 := eg.trans un
    rw [← hc]
    refine fl_273w hF tB.1 tB.2.1 tB.2.2.1 tB.2.2.2.1 tB.2.2.2.2 p0 (by omega) (by omega) (fun r rf => ?_)
    rw [wj_ch0 (v := v)]
    have re := wj_fr' rf
    have rB := wj_Be tB re
    have r9 : r.2.1 109 = t.2.1 109 := rf.2.2 109 (by decide) (by decide)
    have r10 : r.2.1 110 = t.2.1 110 := rf.2.2 110 (by decide) (by decide)
    have fin : ∀ (u : lf_Z) (T2 : ww_T), wj_r r u → u.2.1 109 = r.2.1 109 → ww_q (u.2.1 110) T2.2 → T2 = ww_pu J (fun w => wj_ch J X f z 0 0 0 w p c) p w T' → fw_290_p98 (ww_n4 J X f z s p c T) Q z x p T2.1 w u := fun u T2 ue u9 uq e2 => by
      unfold fw_290_p98
      exact ⟨wj_rt te (wj_rt re ue), (u9.trans r9).trans t9, w + 1, T2, by omega, by omega, rfl, uq, by rw [eg2, e2]⟩
    intro _
    refine ⟨fun y3 => fl_187 rB.1 (by omega) (by omega) ?_, fun y3 => fin r T' wj_rr rfl (by rw [r10]; exact tq) ?_⟩
    · have hat : mn_at J p w = true := by
        cases q : mn_at J p w with
        | true => rfl
        | false => exact absurd (hC w q) y3
      have ac := mn_acB hW (show (w : Int) < J 1 1 by omega) hat
      have ei : 13 * mn_ac J (w : Int) p + p + 1 = wj_i J w p := by unfold wj_i; omega
      have iB : 0 ≤ wj_i J w p ∧ wj_i J w p < 13 * J 1 0 := by rw [← ei]; omega
      rw [ei, r10, tq _ iB.1 (by omega)]
      intro _
      obtain ⟨T2, hT2⟩ : ∃ T2 : ww_T, T2 = (lf_wl (lf_wl T'.1 - ww_tk T'.1 (wj_ch J X f z 0 0 0 w p c)), ds_u1 T'.2 (wj_i J w p) (lf_wl (lf_wl (T'.2 (wj_i J w p)) + ww_tk T'.1 (wj_ch J X f z 0 0 0 w p c)))) := ⟨_, rfl⟩
      have e21 : T2.1 = lf_wl (lf_wl T'.1 - lf_wl ((lf_wl ((lf_wl T'.1).tdiv 10)) * wj_ch J X f z 0 0 0 w p c)) := by rw [hT2]; rfl
      rw [← e21]
      refine fin _ T2 (ww_br rfl rfl) (ww_lr (by decide)) ?_ ?_
      · rw [ww_ls, hT2, r10]
        exact ww_qu tq
      · rw [hT2]
        exact (show ww_pu J (fun w => wj_ch J X f z 0 0 0 w p c) p w T' = _ from if_neg y3).symm
    · exact (ww_pu0 (F := fun w => wj_ch J X f z 0 0 0 w p c) (Classical.not_not.mp y3)).symm
theorem fl_289c {X82 : Int → Int → lf_Z → Prop} {Q : Int → lf_Z → Prop} (hq : ww_q (s.2.1 110) A) (hA : ∀ y, lf_wl (A y) = A y) (k : ∀ t : lf_Z, t.1 = s.1 → t.2.2 = s.2.2 → ww_q (t.2.1 109) A → X82 (lf_wl (lf_wl x5 * 10000)) (x7 + 1) t) : fw_289_p156L X82 Q x1 x2 x3 x4 x5 x7 0 s := by
  refine ⟨fun y t => t.1 = s.1 ∧ t.2.2 = s.2.2 ∧ t.2.1 110 = s.2.1 110 ∧ 0 ≤ y ∧ ∀ j : Int, 0 ≤ j → j < y → t.2.1 109 j = A j, ?_, ⟨rfl, rfl, rfl, Int.le_refl 0, fun j h1 h2 => by omega⟩⟩
  intro y t ⟨t1, t2, t3, y0, ty⟩
  unfold fw_289_p156
  intro _
  refine ⟨fun q => k t t1 t2 (fun j j0 j1 => ty j j0 (by omega)), fun q _ => ⟨t1, t2, (ww_lr (by decide)).trans t3, by omega, fun j j0 j1 => ?_⟩⟩
  rw [ww_ls]
  by_cases e : j = y
  · rw [e, ww_us, t3, hq y y0 (by omega)]; exact hA y
  · rw [ww_ui e]; exact ty j j0 (by omega)
theorem fl_289z {X82 : Int → Int → lf_Z → Prop} {Q : Int → lf_Z → Prop} (k : ∀ t : lf_Z, t.1 = s.1 → t.2.2 = s.2.2 → t.2.1 109 = s.2.1 109 → ww_q (t.2.1 110) (fun _ => 0) → fw_289_p116L X82 Q x1 x2 x3 x4 x5 x7 0 t) : fw_289_p91L X82 Q x1 x2 x3 x4 x5 x7 0 s := by
  refine ⟨fun y t => t.1 = s.1 ∧ t.2.2 = s.2.2 ∧ t.2.1 109 = s.2.1 109 ∧ 0 ≤ y ∧ ∀ j : Int, 0 ≤ j → j < y → t.2.1 110 j = 0, ?_, ⟨rfl, rfl, rfl, Int.le_refl 0, fun j h1 h2 => by omega⟩⟩
  intro y t ⟨t1, t2, t3, y0, ty⟩
  unfold fw_289_p91
  intro _
  refine ⟨fun q => k t t1 t2 t3 (fun j j0 j1 => ty j j0 (by omega)), fun q _ => ⟨t1, t2, (ww_lr (by decide)).trans t3, by omega, fun j j0 j1 => ?_⟩⟩
  rw [ww_ls]
  by_cases e : j = y
  · rw [e, ww_us]
  · rw [ww_ui e]; exact ty j j0 (by omega)
theorem fl_289m {X82 : Int → Int → lf_Z → Prop} {Q : Int → lf_Z → Prop} (hF : wj_F J X z v) (hB : wj_B J X f 0 v 0 M s) (hz : z = f (3 * a)) (a0 : 0 ≤ a) (a1 : a < 4) (hq : ww_q (s.2.1 109) D) (hG : ww_G (J 1 0) D N) (hN : N ≤ 10000000000000000) (h0 : ww_q (s.2.1 110) (fun _ => 0))
    (k : ∀ t : lf_Z, wj_r s t → ww_q (t.2.1 110) (ww_mv J (ww_c J X f z 0) D 156 0 (fun _ => 0)) → fw_289_p156L X82 Q a x2 x3 x4 x5 x7 0 t) : fw_289_p116L X82 Q a x2 x3 x4 x5 x7 0 s := by
  have n0 := hF.1.1
  refine ⟨fun y t => wj_r s t ∧ t.2.1 109 = s.2.1 109 ∧ ∃ (i : Nat) (A' : Int → Int), y = i ∧ i ≤ 156 ∧ ww_q (t.2.1 110) A' ∧ ww_mv J (ww_c J X f z 0) D 156 0 (fun _ => 0) = ww_mv J (ww_c J X f z 0) D (156 - i) i A', ?_, ⟨wj_rr, rfl, 0, fun _ => 0, rfl, by omega, h0, rfl⟩⟩
  intro y t ⟨te, t9, i, A', ey, i1, tq, eg⟩
  subst ey
  have tB := wj_Be hB te
  unfold fw_289_p116
  intro _
  refine ⟨fun y => ?_, fun y _ => ?_⟩
  · refine k t te ?_
    rw [eg, show 156 - i = 0 by omega]
    exact tq
  · have Di : t.2.1 109 i = D i := (congrFun t9 i).trans (hq i (by omega) (by omega))
    have b := ww_GB n0.2 hG (i : Int)
    have un : ww_mv J (ww_c J X f z 0) D (156 - i) i A' = ww_mv J (ww_c J X f z 0) D (156 - (i + 1)) (i + 1) (if lf_wl (D i) ≤ 0 then A' else ww_fr J (ww_c J X f z 0) i (D i) A') := by
      rw [show 156 - i = (156 - (i + 1)) + 1 by omega]
      rfl
    rw [Di]
    refine ⟨fun y2 => ?_, fun y2 => fl_242 ?_⟩
    · unfold fw_289_p147
      exact ⟨te, t9, i + 1, A', by omega, by omega, tq, by rw [eg, un, if_pos y2]⟩
    · have y3 := y2
      rw [lf_wlR (a := D i) (by omega)] at y3
      have r := hG.2.1 (i : Int) (by omega)
      rw [(tB.2.1.2.2.1 a a0 a1).1, ← hz]
      refine fl_290 hF tB r.1 r.2 Di tq (fun u ue u9 uq => ?_)
      unfold fw_289_p147
      exact ⟨wj_rt te ue, u9.trans t9, i + 1, _, by omega, by omega, uq, by rw [eg, un, if_neg y2]⟩
theorem fl_292 {Q : Int → lf_Z → Prop} {A B : Nat} (hA : A ≤ 10000000000000000) (hB : B ≤ 10000000000000000) (k : Q (lf_wl ((Nat.gcd A B : Nat) : Int)) s) : fw_292 (A : Int) (B : Int) Q s := by
  unfold fw_292
  refine ⟨fun x4 x6 t => t = s ∧ ∃ a b : Nat, x4 = a ∧ x6 = b ∧ a ≤ 10000000000000000 ∧ b ≤ 10000000000000000 ∧ Nat.gcd a b = Nat.gcd A B, ?_, ⟨rfl, A, B, rfl, rfl, hA, hB, rfl⟩⟩
  intro x4 x6 t ⟨et, a, b, e4, e6, a1, b1, eg⟩
  subst e4
  subst e6
  rw [et]
  have eb : lf_wl (b : Int) = b := lf_wlR (by omega)
  unfold fw_292_p6
  refine ⟨fun q => ?_, fun q _ => ?_⟩
  · have b0 : b = 0 := by rw [eb] at q; omega
    rw [b0, Nat.gcd_zero_right] at eg
    rw [← eg] at k
    exact k
  · have b0 : 0 < b := by rw [eb] at q; omega
    exact ⟨rfl, b, a % b, rfl, ww_mo a1 b0 b1, b1, by have := Nat.mod_lt a b0; omega, ww_e2.trans eg⟩
theorem fl_291 {Q : Int → lf_Z → Prop} {A B : Nat} {low : Int} (hA : A ≤ B) (hB : B ≤ 10000000000000000) (B1 : 1 ≤ B) (k : Q (lf_wl ((lf_wl (if low = 0 then (A : Int) else B)).tdiv (lf_wl ((Nat.gcd A B : Nat) : Int)))) s) : fw_291 (A : Int) (B : Int) low Q s := by
  have g1 : Nat.gcd A B ≤ B := Nat.gcd_le_right A (by omega)
  have p10 : ∀ y : Int, y = (if low = 0 then (A : Int) else B) → fw_291_p10 Q (A : Int) (B : Int) y s := fun y hy => by
    unfold fw_291_p10
    rw [lf_wlR (a := (A : Int)) (by omega), lf_wlR (a := (B : Int)) (by omega)]
    refine fl_292 (by omega) hB (fun _ => ?_)
    have e : lf_wl (lf_wl ((Nat.gcd A B : Nat) : Int)) = lf_wl ((Nat.gcd A B : Nat) : Int) := congrArg lf_wl (lf_wlR (by omega))
    rw [e, hy]
    exact k
  unfold fw_291
  intro _
  exact ⟨fun q => p10 _ (if_pos q).symm, fun q => p10 _ (if_neg q).symm⟩
theorem fl_289s {Q : Int → lf_Z → Prop} (hq : ww_q (s.2.1 109) D) (b0 : 0 ≤ b) (b1 : b < 12) (k : fw_291 (lf_wl (ww_su D b 13 0 0)) (lf_wl x5) x4 (fun r t => Q (lf_wl r) t) s) : fw_289_p204L Q b x4 x5 0 0 s := by
  refine ⟨fun x7 x9 t => t = s ∧ ∃ i : Nat, x9 = i ∧ i ≤ 13 ∧ ww_su D b 13 0 0 = ww_su D b (13 - i) i x7, ?_, ⟨rfl, 0, rfl, by omega, rfl⟩⟩
  intro x7 x9 t ⟨et, i, ei, i1, eg⟩
  subst ei
  rw [et]
  unfold fw_289_p204
  intro _
  refine ⟨fun y => ?_, fun y _ => ?_⟩
  · rw [eg, show 13 - i = 0 by omega] at k
    exact k
  · rw [show 13 * b + (i : Int) = b * 13 + i by omega, hq _ (by omega) (by omega)]
    refine ⟨rfl, i + 1, by omega, by omega, ?_⟩
    rw [eg, show 13 - i = (13 - (i + 1)) + 1 by omega]
    rfl
def ww_n3 (J : Nat → Int → Int) (X : mn_X) (f : Int → Int) (z : Int) (s : lf_Z) (x : Int) (n : Nat) (x5 x7 : Int) (y : lf_Z) : Prop := wj_r s y ∧ ∃ (i : Nat) (D : Int → Int) (N : Int), x7 = i ∧ i ≤ n ∧ ww_q (y.2.1 109) D ∧ ww_G (J 1 0) D N ∧ 1 ≤ N ∧ ww_b (n - i) N ∧ ww_ms J (ww_c J X f z 0) n (ww_0 x) = ww_ms J (ww_c J X f z 0) (n - i) D ∧ ww_lo n 1 = ww_lo (n - i) x5
theorem fl_289g {Q : Int → lf_Z → Prop} {low : Int} (hF : wj_F J X z v) (hB : wj_B J X f 0 v 0 M s) (hz : z = f (3 * a)) (a0 : 0 ≤ a) (a1 : a < 4) (hn : f (3 * a) ≠ 0) (at_ : (0 ≤ f (3 * a + 1) ∧ f (3 * a + 1) < J 1 0) ∧ -1 ≤ f (3 * a + 2) ∧ f (3 * a + 2) < J 1 0) (n4 : n ≤ 4) (b0 : 0 ≤ b) (b1 : b < J 1 0)
    (k : ∀ t : lf_Z, fw_291 (lf_wl (ww_up J X f z (f (3 * a + 1) * 13 + f (3 * a + 2) + 1) n b)) (lf_wl (ww_lo n 1)) low (fun r t => Q (lf_wl r) t) t) : fw_289_p32L Q a (n : Int) b low 0 s := by
  have hW := hF.1
  have n0 := hW.1
  obtain ⟨x, hx⟩ : ∃ x : Int, x = f (3 * a + 1) * 13 + f (3 * a + 2) + 1 := ⟨_, rfl⟩
  rw [← hx] at k
  have hC := ww_cC (f := f) (z := z) (v := 0) hW hF.2.2.2.1
  refine ⟨fun y t => t.1 = s.1 ∧ t.2.2 = s.2.2 ∧ 0 ≤ y ∧ ∀ j : Int, 0 ≤ j → j < y → t.2.1 109 j = 0, ?_, ⟨rfl, rfl, Int.le_refl 0, fun j h1 h2 => by omega⟩⟩
  intro y t ⟨t1, t2, y0, ty⟩
  have te : wj_r s t := ww_br t1 t2
  have tB := wj_Be hB te
  obtain ⟨c1, c2⟩ : t.1 96 (114 + 3 * a + 1) = f (3 * a + 1) ∧ t.1 96 (114 + 3 * a + 2) = f (3 * a + 2) := (tB.2.1.2.2.1 a a0 a1).2 hn
  unfold fw_289_p32
  intro _
  refine ⟨fun y1 => fl_255 (fl_256 ?_), fun y1 _ => ⟨t1, t2, by omega, fun j j0 j1 => ?_⟩⟩
  · rw [c1, c2, show 13 * f (3 * a + 1) + f (3 * a + 2) + 1 = x by omega]
    intro _
    refine ⟨ww_n3 J X f z s x n, ?_, ⟨wj_rt te (ww_br rfl rfl), 0, ww_0 x, 1, rfl, Nat.zero_le _, ?_, ww_G1 n0.2 (by omega) (by omega), Int.le_refl 1, ww_b4 n n4, rfl, rfl⟩⟩
    · intro x5 x7 y ⟨ye, i, D, N, ei, i1, yq, yG, N1, yb, eg, el⟩
      subst ei
      have yB := wj_Be hB ye
      unfold fw_289_p82
      intro _ _
      refine ⟨fun q => ?_, fun q => ?_⟩
      · refine fl_289s yq b0 (by omega) ?_
        have h := k y
        unfold ww_up at h
        rw [eg, el, show n - i = 0 by omega] at h
        exact h
      · rw [show n - i = (n - (i + 1)) + 1 by omega] at yb eg el
        have hN := ww_bN (n - (i + 1)) (10000 * N) (by omega) yb
        have mG := ww_mvG hC n0.2 yG hN 156 0 _ rfl ww_Gy
        refine fl_289z (fun u u1 u2 u3 u4 => fl_289m hF (wj_Be yB (ww_br u1 u2)) hz a0 a1 (by rw [u3]; exact yq) yG (by omega) u4 (fun w we wq => fl_289c wq (fun j => ?_) (fun r r1 r2 rq => ⟨wj_rt ye (wj_rt (ww_br u1 u2) (wj_rt we (ww_br r1 r2))), i + 1, _, 10000 * N, by omega, by omega, rq, mG, by omega, yb, eg, el⟩)))
        have bb := ww_GB n0.2 mG j
        exact lf_wlR (by omega)
    · rw [ww_ls]
      exact ww_qu (fun j j0 j1 => ty j j0 (by omega))
  · rw [ww_ls]
    by_cases e : j = y
    · rw [e, ww_us]
    · rw [ww_ui e]; exact ty j j0 (by omega)
theorem gq_289 {Q : Int → lf_Z → Prop} {low : Int} (hB : gx_XB X) (hF : gf_T J f H) (hR : gr_T sv J f H (s.1 96)) (hX : gx_Xr X M s) (h : ∀ t : lf_Z, Q (qb_116 a c b low X J f) t) : fw_289 a c b low Q s := by
  have no : ¬ (((0 ≤ a ∧ a ≤ 3) ∧ 0 < f (3 * a)) ∧ (0 ≤ c ∧ c ≤ 4) ∧ 0 ≤ b ∧ b < J 1 0) → fw_289_p25 Q s := fun hn => by
    unfold fw_289_p25
    exact qu_to (h s) (if_neg hn)
  unfold fw_289 fw_254
  refine fl_183 ⟨fun q => ⟨fun _ => no (fun y => bd_f q y.1.1), (fun q' => by cases q')⟩, fun q => fl_242 ?_⟩
  have qa := bd_t q
  obtain ⟨c0, c12⟩ := hR.2.1.2.2.1 a qa.1 (by omega)
  rw [c0]
  intro _
  refine ⟨fun q2 => ⟨fun _ => no (fun y => by have := y.1.2; omega), (fun q' => by cases q')⟩, fun q2 => ⟨(fun q' => by cases q'), fun _ => fl_183 ⟨fun q3 => no (fun y => bd_f q3 y.2.1), fun q3 => ?_⟩⟩⟩
  unfold fw_185
  rw [hR.1.1]
  refine fl_183 ⟨fun q4 => ?_, fun q4 => no (fun y => bd_f q4 ⟨y.2.2.1, by have := y.2.2.2; omega⟩)⟩
  have hz : 0 < f (3 * a) := by omega
  have qc := bd_t q3
  have qb := bd_t q4
  have gI := hF.2.1.1
  have sz := gp_sz gI qa.1 (show a < 4 by omega)
  have at_ := gp_at gI qa.1 (show a < 4 by omega) hz
  have hW := hF.1.1
  have n0 := hW.1
  obtain ⟨hT, h29, h31, h30, h30'⟩ := hX.2
  obtain ⟨n, hn⟩ := Int.eq_ofNat_of_zero_le qc.1
  have hn : c = (n : Int) := hn
  subst hn
  have fin := ww_fin (x := f (3 * a + 1) * 13 + f (3 * a + 2) + 1) (ww_cC (f := f) (z := f (3 * a)) (v := 0) hW hB) n0.2 (by omega) (by omega) (show n ≤ 4 by omega) qb.1 (show b < 12 by omega)
  refine fl_289g ⟨hF.1.1, hF.1.2.1, hF.1.2.2.1, hB, by unfold cm_sm; omega, h30, h30'⟩ ⟨hR.1, hR.2.1, hX.1, hT, h29, rfl, h31⟩ rfl qa.1 (by omega) (by omega) at_ (by omega) qb.1 (by omega) (fun t => ?_)
  have hh := h t
  unfold qb_116 at hh
  rw [if_pos ⟨⟨⟨qa.1, by omega⟩, hz⟩, qc, qb.1, by omega⟩, Int.toNat_natCast] at hh
  unfold ww_an at hh
  have fin : (0 ≤ ww_up J X f (f (3 * a)) (f (3 * a + 1) * 13 + f (3 * a + 2) + 1) n b ∧ ww_up J X f (f (3 * a)) (f (3 * a + 1) * 13 + f (3 * a + 2) + 1) n b ≤ ww_lo n 1) ∧ 1 ≤ ww_lo n 1 ∧ ww_lo n 1 ≤ 10000000000000000 := fin
  generalize ww_up J X f (f (3 * a)) (f (3 * a + 1) * 13 + f (3 * a + 2) + 1) n b = U at hh fin ⊢
  generalize ww_lo n 1 = L at hh fin ⊢
  rw [lf_wlR (a := U) (by omega), lf_wlR (a := L) (by omega)]
  obtain ⟨A, eA⟩ := Int.eq_ofNat_of_zero_le fin.1.1
  obtain ⟨B, eB⟩ := Int.eq_ofNat_of_zero_le (show 0 ≤ L by omega)
  have eA : U = (A : Int) := eA
  have eB : L = (B : Int) := eB
  subst eA
  subst eB
  refine fl_291 (by omega) (by omega) (by omega) ?_
  rw [Int.toNat_natCast, Int.toNat_natCast] at hh
  exact hh
end WH
