/-! where: the class -/
section WH
variable {J : Nat → Int → Int} {s t u : lf_Z} {f F D A : Int → Int} {X : mn_X} {I : Nat → Int → Int} {H : List rr_H} {a b c p x d z v N i y : Int} {n m : Nat}
theorem ww_xc {P P' : Nat → Option Nat} (h : xc_X X I P) (e : P' 3 = P 3) : xc_X X I P' := by
  unfold xc_X at h ⊢
  rw [e]
  exact h
theorem ww_Al {G B : Int} (h : wj_A J X f z G v B I s) (e1 : t.1 = s.1) (e3 : t.2.2 3 = s.2.2 3) : wj_A J X f z G v B I t := by
  obtain ⟨hJ, hS, ⟨h1, h2⟩, hK⟩ := h
  exact ⟨fun c hc => (congrFun e1 c).trans (hJ c hc), by rw [e1]; exact hS, ⟨ww_xc h1 e3, fun c a b => (congrFun e1 c).trans (h2 c a b)⟩, by rw [e1]; exact hK⟩
/-- the same where odds lie -/
def ww_q (F A : Int → Int) : Prop := ∀ y : Int, 0 ≤ y → y < 156 → F y = A y
theorem ww_qu (h : ww_q F A) : ww_q (ds_u1 F i v) (ds_u1 A i v) := fun y a b => by
  by_cases q : y = i
  · rw [q, ww_us, ww_us]
  · rw [ww_ui q, ww_ui q]; exact h y a b
theorem ww_lr {E : Nat → Int → Int} {P : Nat → Option Nat} {a n : Nat} (h : a ≠ n) : ((I, lf_up E n i v, P) : lf_Z).2.1 a = E a := by
  show lf_up E n i v a = E a
  exact lf_up_row h
theorem ww_ls {E : Nat → Int → Int} {P : Nat → Option Nat} {n : Nat} : ((I, lf_up E n i v, P) : lf_Z).2.1 n = ds_u1 (E n) i v := by
  show lf_up E n i v n = ds_u1 (E n) i v
  exact tp_row
theorem ww_so {o : Option Nat} (h : o = some n) (k : o = some m) : m = n := Option.some.inj (k.symm.trans h)
theorem fl_119 {Q : lf_Z → Prop} (k : ∀ t : lf_Z, t.1 = s.1 → t.2.2 = s.2.2 → (∀ c : Nat, c ≠ n → t.2.1 c = s.2.1 c) → ww_q (t.2.1 n) (fun _ => 0) → Q t) : fw_119 n 0 Q s := by
  unfold fw_119
  refine ⟨fun x3 t => t.1 = s.1 ∧ t.2.2 = s.2.2 ∧ (∀ c : Nat, c ≠ n → t.2.1 c = s.2.1 c) ∧ 0 ≤ x3 ∧ ∀ y : Int, 0 ≤ y → y < x3 → t.2.1 n y = 0, ?_, ⟨rfl, rfl, fun _ _ => rfl, Int.le_refl 0, fun y a b => by omega⟩⟩
  intro x3 t ⟨t1, t2, t3, x0, tz⟩
  unfold fw_119_p6
  intro _ _
  refine ⟨fun q => k t t1 t2 t3 (fun y a b => tz y a (by omega)), fun q _ => ⟨t1, t2, fun c hc => (ww_lr hc).trans (t3 c hc), by omega, fun y a b => ?_⟩⟩
  rw [ww_ls]
  by_cases e : y = x3
  · rw [e, ww_us]; exact lf_wlR (by decide)
  · rw [ww_ui e]; exact tz y a (by omega)
abbrev ww_c (J : Nat → Int → Int) (X : mn_X) (f : Int → Int) (z v : Int) : Int → Int → Int → Int := fun w p c => wj_ch J X f z 0 v 0 w p c
theorem ww_cC (hW : mn_W J) (hB : gx_XB X) : ww_C J (ww_c J X f z v) := by
  have n0 := hW.1
  refine ⟨fun w p c => wj_chB hB, fun w p c w1 p0 p1 ne => ?_⟩
  have hat : mn_at J p w = true := by
    cases q : mn_at J p w with
    | true => rfl
    | false => exact absurd (show wj_ch J X f z 0 v 0 w p c = 0 from if_pos (Or.inl (by rw [Int.toNat_natCast]; exact q))) ne
  have ac := mn_acB hW w1 hat
  unfold wj_i
  omega
/-- the loop over the ways of a stretch -/
def ww_n9 (J : Nat → Int → Int) (X : mn_X) (f : Int → Int) (z v : Int) (I : Nat → Int → Int) (s : lf_Z) (n m : Nat) (p c : Int) (T : ww_T) (x3 x5 : Int) (t : lf_Z) : Prop := wj_A J X f z 0 v 0 I t ∧ t.2.2 = s.2.2 ∧ t.2.1 n = s.2.1 n ∧ ∃ (w : Nat) (T' : ww_T), w ≤ (J 1 1).toNat ∧ x5 = (dm_cn (mn_at J p) w : Nat) ∧ x3 = T'.1 ∧ ww_q (t.2.1 m) T'.2 ∧ ww_go J (fun w => wj_ch J X f z 0 v 0 w p c) p (J 1 1).toNat 0 T = ww_go J (fun w => wj_ch J X f z 0 v 0 w p c) p ((J 1 1).toNat - w) w T'
theorem fl_122 {Q : lf_Z → Prop} (hF : wj_F J X z v) (hA : wj_A J X f z 0 v 0 I s) (x0 : 0 ≤ x) (x1 : x < 13 * J 1 0) (hn : s.2.2 0 = some n) (hm : s.2.2 1 = some m) (nm : n ≠ m) (hD : s.2.1 n x = d) (hq : ww_q (s.2.1 m) A)
    (k : ∀ t : lf_Z, wj_A J X f z 0 v 0 I t → t.2.2 = s.2.2 → t.2.1 n = s.2.1 n → ww_q (t.2.1 m) (ww_fr J (ww_c J X f z v) x d A) → Q t) : fw_122 x Q s := by
  have hW := hF.1
  have n0 := hW.1
  have n1 := hW.2.1
  obtain ⟨p, hp⟩ : ∃ p : Int, p = x.tdiv 13 := ⟨_, rfl⟩
  obtain ⟨c, hc⟩ : ∃ c : Int, c = x.tmod 13 - 1 := ⟨_, rfl⟩
  obtain ⟨T, hT⟩ : ∃ T : ww_T, T = (lf_wl (lf_wl d * 10000), A) := ⟨_, rfl⟩
  have p0 : 0 ≤ p ∧ p < J 1 0 := by rw [hp]; exact ww_p0 x0 x1
  have kk : ∀ t : lf_Z, wj_A J X f z 0 v 0 I t → t.2.2 = s.2.2 → t.2.1 n = s.2.1 n → ww_q (t.2.1 m) (ww_en x (ww_go J (fun w => wj_ch J X f z 0 v 0 w p c) p (J 1 1).toNat 0 T)) → Q t := by
    rw [hp, hc, hT]
    exact k
  have hC : ∀ w : Nat, mn_at J p w = false → wj_ch J X f z 0 v 0 w p c = 0 := fun w hw => if_pos (Or.inl (by rw [Int.toNat_natCast]; exact hw))
  unfold fw_122
  intro _ w22 e22 _ _
  have ew := ww_so hn e22
  rw [ew, hD, ← hp]
  refine ⟨ww_n9 J X f z v I s n m p c T, ?_, ⟨hA, rfl, rfl, 0, T, Nat.zero_le _, rfl, congrArg Prod.fst hT.symm, by rw [hT]; exact hq, rfl⟩⟩
  intro x3 x5 t ⟨tA, tP, tn, w, T', wW, ex5, ex3, tq, eg⟩
  subst ex5
  subst ex3
  have tm : t.2.2 1 = some m := (congrFun tP 1).trans hm
  have e1 : t.1 1 = J 1 := tA.1 1 (by omega)
  have e11 : t.1 11 = J 11 := tA.1 11 (by omega)
  have e12 : t.1 12 = J 12 := tA.1 12 (by omega)
  obtain ⟨m1, m2, m3⟩ := hW.2.2.2.2.1 p p0.1 (by omega)
  have mono := dm_cnW (P := mn_at J p) (J 1 1).toNat w wW
  unfold fw_122_p19
  refine fl_76 ?_
  rw [e1, if_pos p0, e12]
  intro _ _
  refine ⟨fun y w28 e28 _ _ => ?_, fun y => ?_⟩
  · have e2 : dm_cn (mn_at J p) w = dm_cn (mn_at J p) (J 1 1).toNat := by omega
    have e3 := ww_goN (J := J) (F := fun w => wj_ch J X f z 0 v 0 w p c) (P := mn_at J p) (p := p) hC T' ((J 1 1).toNat - w) w (fun y y0 y1 => dm_cnZ e2 y y0 (by omega))
    rw [ww_so tm e28]
    refine kk _ (ww_Al tA rfl rfl) tP ((ww_lr nm).trans tn) ?_
    rw [ww_ls, eg, e3, tq x x0 (by omega)]
    exact ww_qu tq
  · obtain ⟨w2, g1, g2, g3⟩ := dm_cnS (P := mn_at J p) (J 1 1).toNat (dm_cn (mn_at J p) w) (by omega)
    have gw := m3 w2 (by omega) g2
    rw [g3] at gw
    have wle : w ≤ w2 := by
      by_cases q : w ≤ w2
      · exact q
      · have q1 := dm_cnT g2
        have q2 := dm_cnW (P := mn_at J p) w (w2 + 1) (by omega)
        omega
    have skip := ww_goS (J := J) (F := fun w => wj_ch J X f z 0 v 0 w p c) (P := mn_at J p) (p := p) hC T' ((J 1 1).toNat - w2) (w2 - w) w (fun y y0 y1 => dm_cnZ g3.symm y y0 (by omega))
    rw [show w2 - w + ((J 1 1).toNat - w2) = (J 1 1).toNat - w by omega, show w + (w2 - w) = w2 by omega, show (J 1 1).toNat - w2 = ((J 1 1).toNat - (w2 + 1)) + 1 by omega] at skip
    have un : ww_go J (fun w => wj_ch J X f z 0 v 0 w p c) p (((J 1 1).toNat - (w2 + 1)) + 1) w2 T' = ww_go J (fun w => wj_ch J X f z 0 v 0 w p c) p ((J 1 1).toNat - (w2 + 1)) (w2 + 1) (ww_pu J (fun w => wj_ch J X f z 0 v 0 w p c) p w2 T') := rfl
    have eg2 := eg.trans (skip.trans un)
    have ac := mn_acB hW (show (w2 : Int) < J 1 1 by omega) g2
    have cB : 0 ≤ wj_ch J X f z 0 v 0 w2 p c ∧ wj_ch J X f z 0 v 0 w2 p c ≤ 10 := wj_chB hF.2.2.2.1
    refine fl_77 (by rw [e1]; exact p0) (by omega) (by rw [e12]; omega) ?_
    rw [e11, gw]
    intro _
    rw [← hc]
    refine fl_123 hF tA p0 (by omega) (by omega) (fun r rf rK => ?_)
    have rA := wj_Ae tA (wj_fe rf) rK
    have r2 : r.2 = t.2 := rf.2
    have rm : r.2.2 1 = some m := by rw [r2]; exact tm
    have r1 : r.1 1 = J 1 := rA.1 1 (by omega)
    have fin : ∀ (u : lf_Z) (T2 : ww_T), wj_A J X f z 0 v 0 I u → u.2.2 = r.2.2 → u.2.1 n = r.2.1 n → ww_q (u.2.1 m) T2.2 → T2 = ww_pu J (fun w => wj_ch J X f z 0 v 0 w p c) p w2 T' → fw_122_p107 (ww_n9 J X f z v I s n m p c T) Q x p T2.1 (dm_cn (mn_at J p) w : Nat) u := fun u T2 uA uP un' uq e2 => by
      unfold fw_122_p107
      refine ⟨uA, ?_, ?_, w2 + 1, T2, by omega, ?_, rfl, uq, ?_⟩
      · rw [uP, r2]; exact tP
      · rw [un', r2]; exact tn
      · have q1 := dm_cnT g2
        omega
      · rw [eg2, e2]
    intro _
    refine ⟨fun y2 => fin r T' rA rfl rfl (by rw [r2]; exact tq) ?_, fun y2 w36 e36 _ => fl_78 ?_⟩
    · exact (ww_pu0 (F := fun w => wj_ch J X f z 0 v 0 w p c) (show wj_ch J X f z 0 v 0 w2 p c = 0 by omega)).symm
    · rw [r1, if_pos ⟨by omega, by omega⟩, mn_acJ rA.1, ww_so rm e36]
      intro _
      have ei : mn_ac J (w2 : Int) p * 13 + p + 1 = wj_i J w2 p := rfl
      have iB : 0 ≤ wj_i J w2 p ∧ wj_i J w2 p < 13 * J 1 0 := by rw [← ei]; omega
      rw [ei, r2, tq _ iB.1 (by omega)]
      have ne : wj_ch J X f z 0 v 0 w2 p c ≠ 0 := by omega
      obtain ⟨T2, hT2⟩ : ∃ T2 : ww_T, T2 = (lf_wl (lf_wl T'.1 - ww_tk T'.1 (wj_ch J X f z 0 v 0 w2 p c)), ds_u1 T'.2 (wj_i J w2 p) (lf_wl (lf_wl (T'.2 (wj_i J w2 p)) + ww_tk T'.1 (wj_ch J X f z 0 v 0 w2 p c)))) := ⟨_, rfl⟩
      have e21 : T2.1 = lf_wl (lf_wl T'.1 - lf_wl ((lf_wl ((lf_wl T'.1).tdiv 10)) * wj_ch J X f z 0 v 0 w2 p c)) := by rw [hT2]; rfl
      rw [← e21]
      have r22 : t.2.2 = r.2.2 := congrArg Prod.snd r2.symm
      refine fin _ T2 (ww_Al rA rfl (congrFun r22 3)) r22 ?_ ?_ ?_
      · rw [r2]; exact ww_lr nm
      · rw [ww_ls, hT2]
        exact ww_qu tq
      · rw [hT2]
        exact (show ww_pu J (fun w => wj_ch J X f z 0 v 0 w p c) p w2 T' = _ from if_neg ne).symm
theorem fl_121 {Q : lf_Z → Prop} (hF : wj_F J X z v) (hA : wj_A J X f z 0 v 0 I s) (hn : s.2.2 0 = some n) (hm : s.2.2 1 = some m) (nm : n ≠ m) (hq : ww_q (s.2.1 n) D) (hG : ww_G (J 1 0) D N) (hN : N ≤ 10000000000000000)
    (k : ∀ t : lf_Z, wj_A J X f z 0 v 0 I t → t.2.2 0 = some m → t.2.2 1 = some n → ww_q (t.2.1 m) (ww_mv J (ww_c J X f z v) D 156 0 (fun _ => 0)) → Q t) : fw_121 Q s := by
  have n0 := hF.1.1
  unfold fw_121
  intro w21 e21 _
  rw [ww_so hm e21]
  refine fl_119 (fun s1 a1 a2 a3 a4 => ?_)
  refine ⟨fun x1 t => wj_A J X f z 0 v 0 I t ∧ t.2.2 = s.2.2 ∧ t.2.1 n = s.2.1 n ∧ ∃ (i : Nat) (A' : Int → Int), x1 = i ∧ i ≤ 156 ∧ ww_q (t.2.1 m) A' ∧ ww_mv J (ww_c J X f z v) D 156 0 (fun _ => 0) = ww_mv J (ww_c J X f z v) D (156 - i) i A', ?_, ⟨ww_Al hA a1 (by rw [a2]), a2, a3 n nm, 0, fun _ => 0, rfl, by omega, a4, rfl⟩⟩
  intro x1 t ⟨tA, tP, tn, i, A', ex, i1, tq, eg⟩
  subst ex
  have P0 : t.2.2 0 = some n := (congrFun tP 0).trans hn
  have P1 : t.2.2 1 = some m := (congrFun tP 1).trans hm
  unfold fw_121_p10
  intro _
  refine ⟨fun y w24 e24 _ w25 e25 _ => ?_, fun y w26 e26 _ _ => ?_⟩
  · rw [ww_so P0 e24, ww_so P1 e25]
    refine k _ (ww_Al tA rfl ?_) ?_ ?_ ?_
    · exact (show lf_ur (lf_ur t.2.2 0 (some m)) 1 (some n) 3 = lf_ur t.2.2 0 (some m) 3 from if_neg (by decide)).trans (if_neg (by decide))
    · exact (show lf_ur (lf_ur t.2.2 0 (some m)) 1 (some n) 0 = lf_ur t.2.2 0 (some m) 0 from if_neg (by decide)).trans (if_pos rfl)
    · exact (show lf_ur (lf_ur t.2.2 0 (some m)) 1 (some n) 1 = some n from if_pos rfl)
    · rw [eg, show 156 - i = 0 by omega]; exact tq
  · have Di : t.2.1 n i = D i := (congrFun tn i).trans (hq i (by omega) (by omega))
    have b := ww_GB n0.2 hG (i : Int)
    have un : ww_mv J (ww_c J X f z v) D (156 - i) i A' = ww_mv J (ww_c J X f z v) D (156 - (i + 1)) (i + 1) (if lf_wl (D i) ≤ 0 then A' else ww_fr J (ww_c J X f z v) i (D i) A') := by
      rw [show 156 - i = (156 - (i + 1)) + 1 by omega]
      rfl
    rw [ww_so P0 e26, Di]
    refine ⟨fun y2 => ?_, fun y2 => ?_⟩
    · unfold fw_121_p33
      exact ⟨tA, tP, tn, i + 1, A', by omega, by omega, tq, by rw [eg, un, if_pos y2]⟩
    · have y3 := y2
      rw [lf_wlR (a := D i) (by omega)] at y3
      have r := hG.2.1 (i : Int) (by omega)
      refine fl_122 hF tA r.1 r.2 P0 P1 nm Di tq (fun u uA uP un' uq => ?_)
      unfold fw_121_p33
      exact ⟨uA, uP.trans tP, un'.trans tn, i + 1, _, by omega, by omega, uq, by rw [eg, un, if_neg y2]⟩
theorem fl_117s {Q : Int → lf_Z → Prop} (hn : s.2.2 0 = some n) (hq : ww_q (s.2.1 n) D) (b0 : 0 ≤ b) (b1 : b < 12) (k : Q (lf_wl (ww_su D b 13 0 0)) s) : fw_117_p50L Q b 0 0 s := by
  refine ⟨fun x4 x6 t => t = s ∧ ∃ i : Nat, x6 = i ∧ i ≤ 13 ∧ ww_su D b 13 0 0 = ww_su D b (13 - i) i x4, ?_, ⟨rfl, 0, rfl, by omega, rfl⟩⟩
  intro x4 x6 t ⟨et, i, ei, i1, eg⟩
  subst ei
  rw [et]
  unfold fw_117_p50
  intro _
  refine ⟨fun y => ?_, fun y w31 e31 _ _ => ?_⟩
  · rw [eg, show 13 - i = 0 by omega] at k
    exact k
  · rw [ww_so hn e31, hq _ (by omega) (by omega)]
    refine ⟨rfl, i + 1, by omega, by omega, ?_⟩
    rw [eg, show 13 - i = (13 - (i + 1)) + 1 by omega]
    rfl
theorem fl_124 {Q : Int → lf_Z → Prop} (ha : a = (n : Int)) (k : Q (lf_wl (ww_lo n 1)) s) : fw_124 a Q s := by
  rw [ha]
  unfold fw_124
  refine ⟨fun x2 x4 t => t = s ∧ ∃ i : Nat, x4 = i ∧ i ≤ n ∧ ww_lo n 1 = ww_lo (n - i) x2, ?_, ⟨rfl, 0, rfl, Nat.zero_le _, rfl⟩⟩
  intro x2 x4 t ⟨et, i, ei, i1, eg⟩
  subst ei
  rw [et]
  unfold fw_124_p5
  intro _ _
  refine ⟨fun y => ?_, fun y => ⟨rfl, i + 1, by omega, by omega, ?_⟩⟩
  · rw [eg, show n - i = 0 by omega] at k
    exact k
  · rw [eg, show n - i = (n - (i + 1)) + 1 by omega]
    rfl
theorem ww_mo {a b : Nat} (ha : a ≤ 10000000000000000) (hb : 0 < b) (hb2 : b ≤ 10000000000000000) : lf_wl (lf_wl (a : Int) |>.tmod (lf_wl (b : Int))) = ((a % b : Nat) : Int) := by
  have h := Nat.mod_lt a hb
  rw [lf_wlR (a := (a : Int)) (by omega), lf_wlR (a := (b : Int)) (by omega)]
  show lf_wl ((a % b : Nat) : Int) = _
  exact lf_wlR (by omega)
theorem fl_125 {Q : Int → lf_Z → Prop} {A B : Nat} {low : Int} (hA : A ≤ B) (hB : B ≤ 10000000000000000) (B1 : 1 ≤ B) (k : Q (lf_wl ((lf_wl (if low = 0 then (A : Int) else B)).tdiv (lf_wl ((Nat.gcd A B : Nat) : Int)))) s) : fw_125 (A : Int) (B : Int) low Q s := by
  unfold fw_125
  refine ⟨fun x5 x7 x9 t => t = s ∧ ∃ a b k : Nat, x5 = a ∧ x7 = b ∧ (0 ≤ x9 ∧ x9 + k ≤ 1000) ∧ b ≤ a ∧ a ≤ B ∧ 1 ≤ a ∧ a * b < 2 ^ k ∧ Nat.gcd a b = Nat.gcd A B, ?_, ⟨rfl, B, A, 128, rfl, rfl, ⟨by decide, by decide⟩, hA, Nat.le_refl B, B1, ?_, Nat.gcd_comm B A⟩⟩
  · intro x5 x7 x9 t ⟨et, a, b, k', e5, e7, ⟨e90, e91⟩, ba, aB, a1, ab, eg⟩
    subst e5
    subst e7
    rw [et]
    have ea : lf_wl (a : Int) = a := lf_wlR (by omega)
    have eb : lf_wl (b : Int) = b := lf_wlR (by omega)
    have end_ : b = 0 → fw_125_p45 Q (A : Int) (B : Int) low (a : Int) s := fun hb => by
      rw [hb, Nat.gcd_zero_right] at eg
      rw [← eg] at k
      have p55 : ∀ y : Int, y = (if low = 0 then (A : Int) else B) → fw_125_p55 Q (a : Int) y s := fun y hy => by
        unfold fw_125_p55
        refine ⟨fun _ _ => ?_, fun q => absurd (show lf_wl (a : Int) ≠ 0 by rw [ea]; omega) q⟩
        rw [hy]
        exact k
      unfold fw_125_p45
      intro _
      exact ⟨fun q => p55 _ (if_pos q).symm, fun q => p55 _ (if_neg q).symm⟩
    unfold fw_125_p9
    intro _
    refine ⟨fun q => end_ ?_, fun q => ⟨fun q2 => end_ ?_, fun q2 _ => ?_⟩⟩
    · have : k' = 0 := by omega
      rw [this, Nat.pow_zero] at ab
      have z0 : a * b = 0 := by omega
      rcases Nat.mul_eq_zero.mp z0 with z | z
      · omega
      · exact z
    · rw [eb] at q2; omega
    · have b0 : 0 < b := by
        rw [eb] at q2; omega
      cases k' with
      | zero =>
        exfalso
        have := Nat.mul_pos (show 0 < a by omega) b0
        rw [Nat.pow_zero] at ab
        omega
      | succ k2 =>
        refine ⟨rfl, b, a % b, k2, rfl, ww_mo (by omega) b0 (by omega), ⟨by omega, by omega⟩, Nat.le_of_lt (Nat.mod_lt a b0), by omega, b0, ww_e1 ba b0 ab, ww_e2.trans eg⟩
  · exact Nat.lt_of_le_of_lt (Nat.mul_le_mul hB (Nat.le_trans hA hB)) (by decide)
/-- the two rows of odds -/
def pd_2 (n m : Nat) : Prop := (n = 72 ∧ m = 73) ∨ (n = 73 ∧ m = 72)
def pd_P (P : Nat → Option Nat) : Prop := ∃ n m : Nat, pd_2 n m ∧ P 0 = some n ∧ P 1 = some m
theorem pd_s (h : pd_2 n m) : pd_2 m n := h.elim (fun q => Or.inr ⟨q.2, q.1⟩) (fun q => Or.inl ⟨q.2, q.1⟩)
theorem pd_n (h : pd_2 n m) : n ≠ m := by unfold pd_2 at h; omega
/-- how many of all are there -/
def ww_up (J : Nat → Int → Int) (X : mn_X) (f : Int → Int) (z x : Int) (n : Nat) (b : Int) : Int := ww_su (ww_ms J (ww_c J X f z 0) n (ww_0 x)) b 13 0 0
def qb_116 (a n b low : Int) : qb_T := fun X J f => if ((0 ≤ a ∧ a ≤ 3) ∧ 0 < f (3 * a)) ∧ (0 ≤ n ∧ n ≤ 4) ∧ 0 ≤ b ∧ b < J 1 0 then ww_an (ww_up J X f (f (3 * a)) (f (3 * a + 1) * 13 + f (3 * a + 2) + 1) n.toNat b) (ww_lo n.toNat 1) low else -1
def ww_n8 (J : Nat → Int → Int) (X : mn_X) (f : Int → Int) (z : Int) (I : Nat → Int → Int) (x : Int) (n : Nat) (x4 : Int) (y : lf_Z) : Prop := wj_A J X f z 0 0 0 I y ∧ ∃ (i n' m' : Nat) (D : Int → Int) (N : Int), x4 = i ∧ i ≤ n ∧ pd_2 n' m' ∧ (y.2.2 0 = some n' ∧ y.2.2 1 = some m') ∧ ww_q (y.2.1 n') D ∧ ww_G (J 1 0) D N ∧ 1 ≤ N ∧ ww_b (n - i) N ∧ ww_ms J (ww_c J X f z 0) n (ww_0 x) = ww_ms J (ww_c J X f z 0) (n - i) D
theorem fl_117 {Q : Int → lf_Z → Prop} (hF : wj_F J X (f (3 * a)) 0) (h118 : ∀ Q' : lf_Z → Prop, (∀ t : lf_Z, wj_A J X f (f (3 * a)) 0 0 0 I t → t.2 = s.2 → Q' t) → fw_118 a 0 Q' s) (at_ : (0 ≤ f (3 * a + 1) ∧ f (3 * a + 1) < J 1 0) ∧ -1 ≤ f (3 * a + 2) ∧ f (3 * a + 2) < J 1 0) (a0 : 0 ≤ a) (a1 : a < 4) (n4 : n ≤ 4) (b0 : 0 ≤ b) (b1 : b < J 1 0) (hP : pd_P s.2.2)
    (k : ∀ t : lf_Z, pd_P t.2.2 → Q (lf_wl (ww_up J X f (f (3 * a)) (f (3 * a + 1) * 13 + f (3 * a + 2) + 1) n b)) t) : fw_117 a (n : Int) b Q s := by
  have hW := hF.1
  have n0 := hW.1
  obtain ⟨x, hx⟩ : ∃ x : Int, x = f (3 * a + 1) * 13 + f (3 * a + 2) + 1 := ⟨_, rfl⟩
  rw [← hx] at k
  obtain ⟨n1, m1, pd, P0, P1⟩ := hP
  have hC := ww_cC (f := f) (z := f (3 * a)) (v := 0) hW hF.2.2.2.1
  unfold fw_117
  refine h118 _ (fun t tA t2 w22 e22 _ => ?_)
  have tP0 : t.2.2 0 = some n1 := by rw [t2]; exact P0
  have tP1 : t.2.2 1 = some m1 := by rw [t2]; exact P1
  rw [ww_so tP0 e22]
  refine fl_119 (fun t1 c1 c2 c3 c4 w24 e24 _ => ?_)
  have uA := ww_Al (t := t1) tA c1 (by rw [c2])
  have uP0 : t1.2.2 0 = some n1 := by rw [c2]; exact tP0
  have uP1 : t1.2.2 1 = some m1 := by rw [c2]; exact tP1
  obtain ⟨d0, d1, d2⟩ := uA.2.1.1 a a0 a1
  rw [ww_so uP0 e24]
  refine fl_120 ?_
  rw [d1, d2, ← hx]
  intro _
  refine ⟨ww_n8 J X f (f (3 * a)) I x n, ?_, ⟨ww_Al uA rfl rfl, 0, n1, m1, ww_0 x, 1, rfl, Nat.zero_le _, pd, ⟨uP0, uP1⟩, ?_, ww_G1 n0.2 (by omega) (by omega), Int.le_refl 1, ww_b4 n n4, rfl⟩⟩
  · intro x4 y ⟨yA, i, n', m', D, N, ei, i1, pd', ⟨yP0, yP1⟩, yq, yG, N1, yb, eg⟩
    subst ei
    unfold fw_117_p28
    intro _ _
    refine ⟨fun q => ?_, fun q => ?_⟩
    · refine fl_117s yP0 yq b0 (by omega) ?_
      have h := k y ⟨n', m', pd', yP0, yP1⟩
      unfold ww_up at h
      rw [eg, show n - i = 0 by omega] at h
      exact h
    · rw [show n - i = (n - (i + 1)) + 1 by omega] at yb eg
      have hN := ww_bN (n - (i + 1)) (10000 * N) (by omega) yb
      exact fl_121 hF yA yP0 yP1 (pd_n pd') yq yG (by omega) (fun u uA' uP0' uP1' uq => ⟨uA', i + 1, m', n', _, 10000 * N, by omega, by omega, pd_s pd', ⟨uP0', uP1'⟩, uq, ww_mvG hC n0.2 yG hN 156 0 _ rfl ww_Gy, by omega, yb, eg⟩)
  · rw [ww_ls]
    exact ww_qu c4
theorem gq_116 {Q : Int → lf_Z → Prop} {low : Int} (hB : gx_XB X) (hF : gf_T s.1 f H) (hC : gc_T s.1 f H) (hX : gx_Xc X I s) (hP : pd_P s.2.2) (h : ∀ t : lf_Z, pd_P t.2.2 → Q (qb_116 a c b low X s.1 f) t) : fw_116 a c b low Q s := by
  have no : ¬ (((0 ≤ a ∧ a ≤ 3) ∧ 0 < f (3 * a)) ∧ (0 ≤ c ∧ c ≤ 4) ∧ 0 ≤ b ∧ b < s.1 1 0) → fw_116_p31 Q s := fun hn => by
    unfold fw_116_p31
    exact qu_to (h s hP) (if_neg hn)
  unfold fw_116
  refine fl_80 ⟨fun q => no ?_, fun q => fl_15 ⟨fun q2 => no (fun y => bd_f q2 y.2.1), fun q2 => fl_18 ⟨fun q3 => ?_, fun q3 => no (fun y => bd_f q3 y.2.2)⟩⟩⟩
  · intro y
    have c := (hC.1.1 a y.1.1.1 (by have := y.1.1.2; omega)).1
    rw [decide_eq_true y.1.1.1, decide_eq_true (show a < 4 by have := y.1.1.2; omega), decide_eq_true (show 0 < s.1 16 a by rw [c]; exact y.1.2)] at q
    cases q
  · rw [Bool.and_eq_true, decide_eq_true_eq] at q
    have qa := bd_t q.1
    have qc := bd_t q2
    have qb := bd_t q3
    have c0 := (hC.1.1 a qa.1 qa.2).1
    have hz : 0 < f (3 * a) := by have := q.2; omega
    have gI := hF.2.1.1
    have sz := gp_sz gI qa.1 qa.2
    have at_ := gp_at gI qa.1 qa.2 hz
    have hW := hF.1.1
    have n0 := hW.1
    obtain ⟨n, hn⟩ := Int.eq_ofNat_of_zero_le qc.1
    have hn : c = (n : Int) := hn
    subst hn
    have F : wj_F s.1 X (f (3 * a)) 0 := ⟨hF.1.1, hF.1.2.1, hF.1.2.2.1, hB, by unfold cm_sm; omega, by decide⟩
    have fin := ww_fin (x := f (3 * a + 1) * 13 + f (3 * a + 2) + 1) (ww_cC (f := f) (z := f (3 * a)) (v := 0) hW hB) n0.2 (by omega) (by omega) (show n ≤ 4 by omega) qb.1 (show b < 12 by omega)
    refine fl_117 (I := I) F (fun Q' hQ' => ?_) at_ qa.1 qa.2 (by omega) qb.1 qb.2 hP (fun t tP => ?_)
    · have g := fl_118 (Q := fun t => t.2 = s.2 → Q' t) (J := s.1) (v := 0) (fun _ _ => rfl) hF.1.1 hC.1 hX qa.1 qa.2 (fun t tA t2 => hQ' t tA t2)
      unfold fw_118 at g ⊢
      exact fun y => g y rfl
    · have hh := h t tP
      unfold qb_116 at hh
      rw [if_pos ⟨⟨⟨qa.1, by omega⟩, hz⟩, qc, qb⟩, Int.toNat_natCast] at hh
      unfold ww_an at hh
      have fin : (0 ≤ ww_up s.1 X f (f (3 * a)) (f (3 * a + 1) * 13 + f (3 * a + 2) + 1) n b ∧ ww_up s.1 X f (f (3 * a)) (f (3 * a + 1) * 13 + f (3 * a + 2) + 1) n b ≤ ww_lo n 1) ∧ 1 ≤ ww_lo n 1 ∧ ww_lo n 1 ≤ 10000000000000000 := fin
      generalize ww_up s.1 X f (f (3 * a)) (f (3 * a + 1) * 13 + f (3 * a + 2) + 1) n b = U at hh fin ⊢
      refine fl_124 (n := n) rfl ?_
      generalize ww_lo n 1 = L at hh fin ⊢
      rw [lf_wlR (a := U) (by omega), lf_wlR (a := U) (by omega), lf_wlR (a := L) (by omega), lf_wlR (a := L) (by omega)]
      obtain ⟨A, eA⟩ := Int.eq_ofNat_of_zero_le fin.1.1
      obtain ⟨B, eB⟩ := Int.eq_ofNat_of_zero_le (show 0 ≤ L by omega)
      have eA : U = (A : Int) := eA
      have eB : L = (B : Int) := eB
      subst eA
      subst eB
      refine fl_125 (by omega) (by omega) (by omega) ?_
      rw [Int.toNat_natCast, Int.toNat_natCast] at hh
      exact hh
end WH
