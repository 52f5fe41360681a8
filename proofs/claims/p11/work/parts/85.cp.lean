/-! the pass of a minute: the class -/
section CP
variable {J : Nat → Int → Int} {s t u : lf_Z} {f g : Int → Int} {X : mn_X} {I : Nat → Int → Int} {a b p x : Int}
theorem fl_80 {Q : Bool → lf_Z → Prop} (h : Q (decide (0 ≤ a) && decide (a < 4) && decide (0 < s.1 16 a)) s) : fw_80 a Q s := by
  unfold fw_80
  intro _
  refine ⟨fun c => ?_, fun c => ⟨fun d => ?_, fun d _ _ => ⟨fun e => ?_, fun e => ?_⟩⟩⟩
  · rw [decide_eq_false (show ¬ 0 ≤ a by omega)] at h; exact h
  · rw [decide_eq_false (show ¬ a < 4 by omega), Bool.and_false] at h; exact h
  · rw [decide_eq_false (show ¬ 0 < s.1 16 a by omega), Bool.and_false] at h; exact h
  · rw [decide_eq_true (show 0 ≤ a by omega), decide_eq_true (show a < 4 by omega), decide_eq_true (show 0 < s.1 16 a by omega)] at h; exact h
/-- pace -/
theorem fl_81 {Q : Int → lf_Z → Prop} (hJ : gc_J J s) (hW : mn_W J) (hS : rc_S s.1 f) (hX : xc_X X I s.2.2) (hI : ∀ c : Nat, 35 ≤ c → c < 63 → s.1 c = I c) (b0 : 0 ≤ b) (b1 : b < 4) (hz : 0 < f (3 * b)) (hp : 0 ≤ f (3 * b + 1) ∧ f (3 * b + 1) < J 1 0) (hc : -1 ≤ f (3 * b + 2)) (hNm : cm_nm (mn_np J f b))
    (k : ∀ (v : Int) (t : lf_Z), tk_f s t → v = X.1 (mn_np J f b) → Q v t) : fw_81 b Q s := by
  obtain ⟨d1, d2, d3⟩ := hS.1 b b0 b1
  unfold fw_81
  refine ⟨fun d => k 1 s tk_fr ((hX.1 d (mn_np J f b)).1).symm, fun k1 hk1 hk14 => ⟨fun d => trivial, fun k2 hk2 hk24 => ?_⟩⟩
  obtain ⟨_, x1, x2, x3, x4⟩ := hX.2 k2 hk2
  have e37 : s.1 (37 + 7 * k2) = I (37 + 7 * k2) := hI _ (by omega) (by omega)
  refine fl_40 (t0 := k2) ⟨fun z => ?_, fun z => fl_80 ⟨fun _ _ => ?_, fun z2 => ?_⟩⟩
  · have z : decide (s.1 (37 + 7 * k2) 0 ≠ -1) = false := z
    have z := Classical.not_not.mp (of_decide_eq_false z)
    rw [e37] at z
    exact k 1 s tk_fr (x1 z _).symm
  · have z : decide (s.1 (37 + 7 * k2) 0 ≠ -1) = true := z
    have z := of_decide_eq_true z
    rw [e37] at z
    obtain ⟨m, mA, mN⟩ := x3 z
    rw [d1, d2]
    refine fl_82 hJ hW hS hp (fun t tf t0 t1 t2 t3 ti => ?_)
    rw [Int.add_zero] at t3
    have t18 : t.1 18 = s.1 18 := tf.1 18 (by decide) (by decide) (by decide) (by decide)
    rw [t18, d3]
    have p89 : ∀ y : Int, y = (if f (3 * b + 2) < 0 then 0 else mn_he J f (f (3 * b + 2)) (J 1 2).toNat) → fw_81_p89 Q 4 y t := by
      intro y hy
      unfold fw_81_p89
      intro _
      obtain ⟨u, hu⟩ : ∃ u : lf_Z, u = (lf_up t.1 64 4 y, t.2.1, t.2.2) := ⟨_, rfl⟩
      rw [← hu]
      have uf : tk_f s u := by rw [hu]; exact tk_64 tf
      have ui : ∀ i : Int, i ≠ 4 → u.1 64 i = t.1 64 i := fun i hi => by rw [hu]; exact zu_i hi
      have u4 : u.1 64 4 = y := by rw [hu]; exact zu_s
      have nn : xc_n0 (mn_np J f b) (u.1 64) := by
        intro i i0 i1
        rcases (show i = 0 ∨ i = 1 ∨ i = 2 ∨ i = 3 ∨ i = 4 by omega) with e | e | e | e | e
        · subst e; exact (ui 0 (by decide)).trans t0
        · subst e; exact (ui 1 (by decide)).trans t1
        · subst e; exact (ui 2 (by decide)).trans t2
        · subst e; exact (ui 3 (by decide)).trans t3
        · subst e; exact u4.trans hy
      have t2' : t.2.2 3 = some k2 := by rw [tf.2]; exact hk2
      refine ⟨fun d => (by rw [t2'] at d; cases d), fun k3 hk3 hk34 => ?_⟩
      rw [t2'] at hk3
      have hk3 := Option.some.inj hk3
      subst hk3
      refine xc_Ac mA (fun c hc => hI c (by omega) (by omega)) uf hk24 nn hNm (fun v z zf hv => fl_55 (k _ z zf ?_))
      rw [mN, hv]
    intro _
    refine ⟨fun c => fl_83 (gc_Jk hJ tf) hW (rc_Sk hS tf) (p89 _ (by rw [if_neg (by omega)])), fun c => p89 0 (by rw [if_pos (by omega)])⟩
  · rw [decide_eq_true b0, decide_eq_true b1, d1, decide_eq_true hz] at z2; cases z2
theorem rc_21 {v : Int} (hS : rc_S s.1 f) (a0 : 0 ≤ a) (a1 : a < 12) : rc_S (lf_up s.1 21 a v) (ds_u1 f (24 + a) v) := by
  obtain ⟨s1, s2, s3, s4, s5, s6⟩ := hS
  have e : ∀ j : Int, j ≠ 24 + a → ds_u1 f (24 + a) v j = f j := fun j hj => if_neg hj
  refine ⟨fun b b0 b1 => ?_, fun q q0 q1 => ?_, fun q q0 q1 => ?_, ?_, ?_, ?_⟩
  · rw [lf_up_c (by decide), lf_up_c (by decide), lf_up_c (by decide), e (3 * b) (by omega), e (3 * b + 1) (by omega), e (3 * b + 2) (by omega)]; exact s1 b b0 b1
  · rw [lf_up_c (by decide), lf_up_c (by decide), e (12 + 2 * q) (by omega), e (12 + 2 * q + 1) (by omega)]; exact s2 q q0 q1
  · by_cases y : q = a
    · rw [y, lf_up_s]; exact (if_pos rfl).symm
    · rw [lf_up_i y, e (24 + q) (by omega)]; exact s3 q q0 q1
  · rw [lf_up_c (by decide), e 36 (by omega)]; exact s4
  · rw [lf_up_c (by decide), e 37 (by omega)]; exact s5
  · rw [lf_up_c (by decide), e 38 (by omega)]; exact s6
theorem lf_ww {c d : Int} : lf_w (c + lf_w d) = lf_w (c + d) := by
  show (Int32.ofInt (c + lf_w d)).toInt = (Int32.ofInt (c + d)).toInt
  rw [Int32.ofInt_add, lf_wE, ← Int32.ofInt_add]
/-- harm -/
theorem fl_95 {Q : lf_Z → Prop} (hJ : gc_J J s) (hW : mn_W J) (hS : rc_S s.1 f) (hI : gp_I J f) (k : ∀ t : lf_Z, mv_f s t → rc_S t.1 (mn_hb J 4 0 f) → gp_I J (mn_hb J 4 0 f) → Q t) : fw_95 Q s := by
  have w0 := hW.1
  unfold fw_95
  refine ⟨fun i u => ∃ (n : Nat) (g : Int → Int), i = n ∧ n ≤ 4 ∧ mv_f s u ∧ rc_S u.1 g ∧ gp_I J g ∧ mn_hb J (4 - n) n g = mn_hb J 4 0 f, ?_, ⟨0, f, rfl, by decide, mv_fr, hS, hI, rfl⟩⟩
  intro i u ⟨n, g, ei, n4, uf, uS, uI, ge⟩
  subst ei
  unfold fw_95_p2
  intro _
  refine ⟨fun c => ?_, fun c => fl_80 ?_⟩
  · have : n = 4 := by omega
    subst this
    have ge : g = mn_hb J 4 0 f := ge
    rw [ge] at uS uI
    exact k u uf uS uI
  · obtain ⟨d1, d2, d3⟩ := uS.1 n (by omega) (by omega)
    rw [show 4 - n = (4 - (n + 1)) + 1 by omega] at ge
    have ge : mn_hb J (4 - (n + 1)) ((n : Int) + 1) (if g (3 * (n : Int)) ≤ 0 then g else ds_u1 g (24 + g (3 * (n : Int) + 1)) (lf_w (g (24 + g (3 * (n : Int) + 1)) + g (3 * (n : Int)) * J 3 (g (3 * (n : Int) + 1))))) = mn_hb J 4 0 f := ge
    rw [d1, decide_eq_true (show (0 : Int) ≤ n by omega), decide_eq_true (show (n : Int) < 4 by omega)]
    refine ⟨fun z => ?_, fun z _ _ => ?_⟩
    · have z : decide (0 < g (3 * (n : Int))) = false := z
      have z := of_decide_eq_false z
      unfold fw_95_p59
      rw [if_pos (by omega)] at ge
      exact ⟨n + 1, g, by omega, by omega, uf, uS, uI, ge⟩
    · have z : decide (0 < g (3 * (n : Int))) = true := z
      have z := of_decide_eq_true z
      have at_ := gp_at uI (b := n) (by omega) (by omega) z
      rw [if_neg (by omega)] at ge
      have uJ := gc_Jm hJ uf
      unfold fw_95_p59
      rw [d2, uS.2.2.1 _ at_.1.1 (by omega), uJ 3 (by omega), lf_ww]
      refine ⟨n + 1, _, by omega, by omega, mv_ft uf (mv_g (rc_gu rc_gr (by omega))), rc_21 uS at_.1.1 (by omega), ?_, ge⟩
      refine gp_e hW uI (fun j _ j1 => if_neg (by omega)) ?_
      rw [show ∀ v : Int, ds_u1 g (24 + g (3 * (n : Int) + 1)) v 38 = g 38 from fun v => if_neg (by omega)]
      exact uI.2.2.2
theorem rc_j1 {c v : Int} (hS : rc_S s.1 f) (b0 : 0 ≤ b) (bc : b < c) (c4 : c < 4) (hv : v = f (3 * b) + f (3 * c)) : rc_S (lf_up (lf_up (lf_up (lf_up s.1 16 b v) 16 c 0) 17 c (-1)) 18 c (-1)) (mn_j1 b c f) := by
  obtain ⟨s1, s2, s3, s4, s5, s6⟩ := hS
  have o : ∀ j : Int, j ≠ 3 * b → j ≠ 3 * c → j ≠ 3 * c + 1 → j ≠ 3 * c + 2 → mn_j1 b c f j = f j := fun j x1 x2 x3 x4 => (if_neg x4).trans ((if_neg x3).trans ((if_neg x2).trans (if_neg x1)))
  have eb : mn_j1 b c f (3 * b) = f (3 * b) + f (3 * c) := (if_neg (by omega)).trans ((if_neg (by omega)).trans ((if_neg (by omega)).trans (if_pos rfl)))
  have ec : mn_j1 b c f (3 * c) = 0 := (if_neg (by omega)).trans ((if_neg (by omega)).trans (if_pos rfl))
  have ec1 : mn_j1 b c f (3 * c + 1) = -1 := (if_neg (by omega)).trans (if_pos rfl)
  have ec2 : mn_j1 b c f (3 * c + 2) = -1 := if_pos rfl
  have x : ∀ (q : Nat) (j : Int), q ≠ 16 → q ≠ 17 → q ≠ 18 → (lf_up (lf_up (lf_up (lf_up s.1 16 b v) 16 c 0) 17 c (-1)) 18 c (-1)) q j = s.1 q j := fun q j h1 h2 h3 => (lf_up_c h3).trans ((lf_up_c h2).trans ((lf_up_c h1).trans (lf_up_c h1)))
  have x16 : ∀ j : Int, (lf_up (lf_up (lf_up (lf_up s.1 16 b v) 16 c 0) 17 c (-1)) 18 c (-1)) 16 j = (lf_up (lf_up s.1 16 b v) 16 c 0) 16 j := fun j => (lf_up_c (by decide)).trans (lf_up_c (by decide))
  have x17 : ∀ j : Int, j ≠ c → (lf_up (lf_up (lf_up (lf_up s.1 16 b v) 16 c 0) 17 c (-1)) 18 c (-1)) 17 j = s.1 17 j := fun j hj => (lf_up_c (by decide)).trans ((lf_up_i hj).trans ((lf_up_c (by decide)).trans (lf_up_c (by decide))))
  have x18 : ∀ j : Int, j ≠ c → (lf_up (lf_up (lf_up (lf_up s.1 16 b v) 16 c 0) 17 c (-1)) 18 c (-1)) 18 j = s.1 18 j := fun j hj => (lf_up_i hj).trans ((lf_up_c (by decide)).trans ((lf_up_c (by decide)).trans (lf_up_c (by decide))))
  refine ⟨fun q q0 q1 => ?_, fun q q0 q1 => ?_, fun q q0 q1 => ?_, ?_, ?_, ?_⟩
  · by_cases y : q = c
    · subst y
      rw [ec, ec1, ec2]
      exact ⟨(x16 _).trans lf_up_s, (lf_up_c (by decide)).trans lf_up_s, lf_up_s⟩
    · rw [x17 _ y, x18 _ y, x16, o (3 * q + 1) (by omega) (by omega) (by omega) (by omega), o (3 * q + 2) (by omega) (by omega) (by omega) (by omega)]
      refine ⟨?_, (s1 q q0 q1).2⟩
      rw [lf_up_i y]
      by_cases y2 : q = b
      · subst y2
        rw [lf_up_s, eb]; exact hv
      · rw [lf_up_i y2, o (3 * q) (by omega) (by omega) (by omega) (by omega)]; exact (s1 q q0 q1).1
  · rw [x 19 _ (by decide) (by decide) (by decide), x 20 _ (by decide) (by decide) (by decide), o (12 + 2 * q) (by omega) (by omega) (by omega) (by omega), o (12 + 2 * q + 1) (by omega) (by omega) (by omega) (by omega)]; exact s2 q q0 q1
  · rw [x 21 _ (by decide) (by decide) (by decide), o (24 + q) (by omega) (by omega) (by omega) (by omega)]; exact s3 q q0 q1
  · rw [x 15 _ (by decide) (by decide) (by decide), o 36 (by omega) (by omega) (by omega) (by omega)]; exact s4
  · rw [x 15 _ (by decide) (by decide) (by decide), o 37 (by omega) (by omega) (by omega) (by omega)]; exact s5
  · rw [x 15 _ (by decide) (by decide) (by decide), o 38 (by omega) (by omega) (by omega) (by omega)]; exact s6
theorem mn_jcZ : ∀ (k : Nat) (c : Int) (f : Int → Int), f (3 * b) ≤ 0 → mn_jc b k c f = f := by
  intro k
  induction k with
  | zero => intro c f _; rfl
  | succ k ih =>
    intro c f h
    show mn_jc b k (c + 1) (if f (3 * b) ≤ 0 ∨ f (3 * c) ≤ 0 ∨ f (3 * c + 1) ≠ f (3 * b + 1) then f else mn_j1 b c f) = f
    rw [if_pos (Or.inl h)]
    exact ih (c + 1) f h
theorem fl_96 {Q : lf_Z → Prop} (hS : rc_S s.1 f) (hI : gp_I J f) (k : ∀ t : lf_Z, mv_f s t → rc_S t.1 (mn_jb 4 0 f) → Q t) : fw_96 Q s := by
  unfold fw_96
  refine ⟨fun i u => ∃ (n : Nat) (g : Int → Int), i = n ∧ n ≤ 4 ∧ mv_f s u ∧ rc_S u.1 g ∧ gp_I J g ∧ mn_jb (4 - n) n g = mn_jb 4 0 f, ?_, ⟨0, f, rfl, by decide, mv_fr, hS, hI, rfl⟩⟩
  intro i u ⟨n, g, ei, n4, uf, uS, uI, ge⟩
  subst ei
  unfold fw_96_p2
  intro _
  refine ⟨fun c => ?_, fun c => ?_⟩
  · have : n = 4 := by omega
    subst this
    have ge : g = mn_jb 4 0 f := ge
    rw [ge] at uS
    exact k u uf uS
  · rw [show 4 - n = (4 - (n + 1)) + 1 by omega] at ge
    have ge : mn_jb (4 - (n + 1)) ((n : Int) + 1) (mn_jc n (3 - (n : Int)).toNat ((n : Int) + 1) g) = mn_jb 4 0 f := ge
    refine ⟨fun c y => ∃ h : Int → Int, (n : Int) < c ∧ c ≤ 4 ∧ mv_f s y ∧ rc_S y.1 h ∧ gp_I J h ∧ mn_jc n (4 - c).toNat c h = mn_jc n (3 - (n : Int)).toNat ((n : Int) + 1) g, ?_, ⟨g, by omega, by omega, uf, uS, uI, by rw [show (4 - ((n : Int) + 1)).toNat = (3 - (n : Int)).toNat by omega]⟩⟩
    intro c y ⟨h, c0, c1, yf, yS, yI, he⟩
    have next : h = mn_jc n (3 - (n : Int)).toNat ((n : Int) + 1) g → (fun (i : Int) (u : lf_Z) => ∃ (n : Nat) (g : Int → Int), i = n ∧ n ≤ 4 ∧ mv_f s u ∧ rc_S u.1 g ∧ gp_I J g ∧ mn_jb (4 - n) n g = mn_jb 4 0 f) ((n : Int) + 1) y := fun q => by
      rw [← q] at ge
      exact ⟨n + 1, h, by omega, by omega, yf, yS, yI, ge⟩
    unfold fw_96_p11
    intro _
    refine ⟨fun d => ?_, fun d => fl_80 ?_⟩
    · have : c = 4 := by omega
      subst this
      unfold fw_96_p97
      exact next he
    · obtain ⟨d1, d2, _⟩ := yS.1 n (by omega) (by omega)
      obtain ⟨d3, d4, _⟩ := yS.1 c (by omega) (by omega)
      have zb := gp_sz yI (b := n) (by omega) (by omega)
      have zc := gp_sz yI (b := c) (by omega) (by omega)
      rw [d1, decide_eq_true (show (0 : Int) ≤ n by omega), decide_eq_true (show (n : Int) < 4 by omega)]
      refine ⟨fun z => ?_, fun z => fl_80 ?_⟩
      · have z : decide (0 < h (3 * (n : Int))) = false := z
        have z := of_decide_eq_false z
        rw [mn_jcZ _ _ _ (by omega)] at he
        unfold fw_96_p97
        exact next he
      · have z : decide (0 < h (3 * (n : Int))) = true := z
        have z := of_decide_eq_true z
        rw [show (4 - c).toNat = (4 - (c + 1)).toNat + 1 by omega] at he
        have he : mn_jc n (4 - (c + 1)).toNat (c + 1) (if h (3 * (n : Int)) ≤ 0 ∨ h (3 * c) ≤ 0 ∨ h (3 * c + 1) ≠ h (3 * (n : Int) + 1) then h else mn_j1 n c h) = mn_jc n (3 - (n : Int)).toNat ((n : Int) + 1) g := he
        have keep : (h (3 * (n : Int)) ≤ 0 ∨ h (3 * c) ≤ 0 ∨ h (3 * c + 1) ≠ h (3 * (n : Int) + 1)) → (fun c y => ∃ h : Int → Int, (n : Int) < c ∧ c ≤ 4 ∧ mv_f s y ∧ rc_S y.1 h ∧ gp_I J h ∧ mn_jc n (4 - c).toNat c h = mn_jc n (3 - (n : Int)).toNat ((n : Int) + 1) g) (c + 1) y := fun q => by
          rw [if_pos q] at he
          exact ⟨h, by omega, by omega, yf, yS, yI, he⟩
        rw [d3, decide_eq_true (show (0 : Int) ≤ c by omega), decide_eq_true (show c < 4 by omega)]
        refine ⟨fun z2 => ?_, fun z2 _ _ => ?_⟩
        · have z2 : decide (0 < h (3 * c)) = false := z2
          have z2 := of_decide_eq_false z2
          unfold fw_96_p91
          exact keep (Or.inr (Or.inl (by omega)))
        · have z2 : decide (0 < h (3 * c)) = true := z2
          have z2 := of_decide_eq_true z2
          rw [d4, d2, d1]
          intro _ _
          refine ⟨fun e3 => ?_, fun e3 => fl_69 ?_⟩
          · unfold fw_96_p91
            exact keep (Or.inr (Or.inr e3))
          · rw [if_neg (fun q => by rcases q with q | q | q; omega; omega; exact e3 q)] at he
            unfold fw_96_p91
            refine ⟨mn_j1 n c h, by omega, by omega, mv_ft yf (mv_g (rc_gu (rc_gu (rc_gu (rc_gu rc_gr (by omega)) (by omega)) (by omega)) (by omega))), ?_, gp_j1 yI (by omega) c0 (by omega) (by omega), he⟩
            exact rc_j1 yS (by omega) c0 (by omega) (tr_w (by omega))
theorem rc_37 {v : Int} (hS : rc_S s.1 f) : rc_S (lf_up s.1 15 7 v) (ds_u1 f 37 v) := by
  obtain ⟨s1, s2, s3, s4, s5, s6⟩ := hS
  have e : ∀ j : Int, j ≠ 37 → ds_u1 f 37 v j = f j := fun j hj => if_neg hj
  refine ⟨fun b b0 b1 => ?_, fun q q0 q1 => ?_, fun q q0 q1 => ?_, ?_, ?_, ?_⟩
  · rw [lf_up_c (by decide), lf_up_c (by decide), lf_up_c (by decide), e (3 * b) (by omega), e (3 * b + 1) (by omega), e (3 * b + 2) (by omega)]; exact s1 b b0 b1
  · rw [lf_up_c (by decide), lf_up_c (by decide), e (12 + 2 * q) (by omega), e (12 + 2 * q + 1) (by omega)]; exact s2 q q0 q1
  · rw [lf_up_c (by decide), e (24 + q) (by omega)]; exact s3 q q0 q1
  · rw [lf_up_i (by decide), e 36 (by decide)]; exact s4
  · rw [lf_up_s]; exact (if_pos rfl).symm
  · rw [lf_up_i (by decide), e 38 (by decide)]; exact s6
/-- all bunches go, harm, one -/
theorem fl_72b {Q : lf_Z → Prop} (hJ : gc_J J s) (hW : mn_W J) (hB : mn_B J) (hV : mn_V J) (hS : rc_S s.1 f) (hG : gp_I J f) (hX : xc_X X I s.2.2) (hXB : ∀ N, 0 ≤ X.2 N ∧ X.2 N ≤ 10) (hX1 : ∀ N, 0 ≤ X.1 N ∧ X.1 N ≤ 2) (hI : ∀ c : Nat, 35 ≤ c → c < 63 → s.1 c = I c)
    (k : ∀ t : lf_Z, mv_f s t → rc_S t.1 (ds_u1 (mn_jb 4 0 (mn_hb J 4 0 (mn_bb J X 4 0 f))) 37 (lf_w (mn_jb 4 0 (mn_hb J 4 0 (mn_bb J X 4 0 f)) 37 + 1))) → Q t) : fw_72_p43L Q 0 s := by
  refine ⟨fun i u => ∃ (n : Nat) (g : Int → Int), i = n ∧ n ≤ 4 ∧ mv_f s u ∧ rc_S u.1 g ∧ gp_I J g ∧ mn_bb J X (4 - n) n g = mn_bb J X 4 0 f, ?_, ⟨0, f, rfl, by decide, mv_fr, hS, hG, rfl⟩⟩
  intro i u ⟨n, g, ei, n4, uf, uS, uI, ge⟩
  subst ei
  have uX : xc_X X I u.2.2 := by rw [uf.2.2]; exact hX
  have uH : ∀ c : Nat, 35 ≤ c → c < 63 → u.1 c = I c := fun c x y => (uf.1 c (by omega)).trans (hI c x y)
  unfold fw_72_p43
  intro _
  refine ⟨fun c => ?_, fun c => fl_80 ?_⟩
  · have : n = 4 := by omega
    subst this
    have ge : g = mn_bb J X 4 0 f := ge
    rw [ge] at uS uI
    refine fl_95 (gc_Jm hJ uf) hW uS uI (fun t tf tS tI => fl_96 tS tI (fun y yf yS => ?_))
    refine k _ (mv_ft (mv_ft uf (mv_ft tf yf)) (mv_g (rc_g15 rc_gr (by omega)))) ?_
    rw [yS.2.2.2.2.1]
    exact rc_37 yS
  · obtain ⟨d1, d2, d3⟩ := uS.1 n (by omega) (by omega)
    rw [show 4 - n = (4 - (n + 1)) + 1 by omega] at ge
    have ge : mn_bb J X (4 - (n + 1)) ((n : Int) + 1) (if g (3 * (n : Int)) ≤ 0 then g else mn_rp (mn_m1 J X n) (X.1 (mn_np J g n)).toNat g) = mn_bb J X 4 0 f := ge
    -- so many moves
    have run : ∀ (v : Int) (y : lf_Z), 0 ≤ v → (0 < v → 0 < g (3 * (n : Int))) → mv_f s y → rc_S y.1 g → mn_bb J X (4 - (n + 1)) ((n : Int) + 1) (mn_rp (mn_m1 J X n) v.toNat g) = mn_bb J X 4 0 f → fw_72_p71 (fun i u => ∃ (n : Nat) (g : Int → Int), i = n ∧ n ≤ 4 ∧ mv_f s u ∧ rc_S u.1 g ∧ gp_I J g ∧ mn_bb J X (4 - n) n g = mn_bb J X 4 0 f) Q n v y := by
      intro v y v0 vz yf yS hv
      unfold fw_72_p71
      refine ⟨fun j q => ∃ (m : Nat) (h : Int → Int), j = m ∧ (m : Int) ≤ v ∧ mv_f s q ∧ rc_S q.1 h ∧ gp_I J h ∧ (0 < v → 0 < h (3 * (n : Int))) ∧ mn_rp (mn_m1 J X n) (v.toNat - m) h = mn_rp (mn_m1 J X n) v.toNat g, ?_, ⟨0, g, rfl, v0, yf, yS, uI, vz, rfl⟩⟩
      intro j q ⟨m, h, ej, m1, qf, qS, qI, qz, he⟩
      subst ej
      unfold fw_72_p74
      intro _ _
      refine ⟨fun d => ?_, fun d => ?_⟩
      · rw [show v.toNat - m = 0 by omega] at he
        have he : h = mn_rp (mn_m1 J X n) v.toNat g := he
        rw [← he] at hv
        exact ⟨n + 1, h, by omega, by omega, qf, qS, qI, hv⟩
      · rw [show v.toNat - m = (v.toNat - (m + 1)) + 1 by omega] at he
        have he : mn_rp (mn_m1 J X n) (v.toNat - (m + 1)) (mn_m1 J X n h) = mn_rp (mn_m1 J X n) v.toNat g := he
        have qz := qz (by omega)
        have hat := gp_at qI (b := n) (by omega) (by omega) qz
        have r := gp_m1 (X := X) hW qI (b := n) (by omega) (by omega) qz
        refine fl_88 (gc_Jm hJ qf) hW hB hV qS (by rw [qf.2.2]; exact hX) hXB (fun c x y => (qf.1 c (by omega)).trans (hI c x y)) (by omega) (by omega) (gp_sz qI (by omega) (by omega)) hat.1 qI.2.2.2 (fun t tf tS => ?_)
        exact ⟨m + 1, _, by omega, by omega, mv_ft qf tf, tS, r.1, fun _ => by rw [r.2 (3 * (n : Int)) (by omega) (by omega) (by omega)]; exact qz, he⟩
    rw [d1, decide_eq_true (show (0 : Int) ≤ n by omega), decide_eq_true (show (n : Int) < 4 by omega)]
    refine ⟨fun z => ?_, fun z => ?_⟩
    · have z : decide (0 < g (3 * (n : Int))) = false := z
      have z := of_decide_eq_false z
      rw [if_pos (by omega)] at ge
      exact run 0 u (Int.le_refl 0) (fun q => absurd q (by decide)) uf uS ge
    · have z : decide (0 < g (3 * (n : Int))) = true := z
      have z := of_decide_eq_true z
      have at_ := gp_at uI (b := n) (by omega) (by omega) z
      rw [if_neg (by omega)] at ge
      refine fl_81 (gc_Jm hJ uf) hW uS uX uH (by omega) (by omega) z at_.1 at_.2.1 (np_S hW hV (gp_sz uI (by omega) (by omega)) at_.1) (fun v y yf hv => ?_)
      have vB := hX1 (mn_np J g n)
      rw [← hv] at ge vB
      exact run v y vB.1 (fun _ => z) (mv_ft uf (mv_k yf)) (rc_Sk uS yf) ge
/-- pass -/
theorem fl_72 {Q : lf_Z → Prop} (hJ : gc_J J s) (hW : mn_W J) (hB : mn_B J) (hV : mn_V J) (hS : rc_S s.1 f) (hG : gp_I J f) (hX : xc_X X I s.2.2) (hXB : ∀ N, 0 ≤ X.2 N ∧ X.2 N ≤ 10) (hX1 : ∀ N, 0 ≤ X.1 N ∧ X.1 N ≤ 2) (hI : ∀ c : Nat, 35 ≤ c → c < 63 → s.1 c = I c)
    (k : ∀ t : lf_Z, mv_f s t → rc_S t.1 (mn_min J X f) → Q t) : fw_72 Q s := by
  have w2 := hW.2.2.1
  unfold fw_72
  refine ⟨fun i u => ∃ (n : Nat) (g : Int → Int), i = n ∧ (n : Int) ≤ J 1 2 ∧ mv_f s u ∧ rc_S u.1 g ∧ gp_I J g ∧ mn_pp J ((J 1 2).toNat - n) n g = mn_pp J (J 1 2).toNat 0 f, ?_, ⟨0, f, rfl, w2.1, mv_fr, hS, hG, rfl⟩⟩
  intro i u ⟨n, g, ei, n4, uf, uS, uI, ge⟩
  subst ei
  have uJ := gc_Jm hJ uf
  unfold fw_72_p2
  rw [uJ 1 (by omega)]
  intro _ _
  refine ⟨fun c => ?_, fun c => ?_⟩
  · rw [show (J 1 2).toNat - n = 0 by omega] at ge
    have ge : g = mn_pp J (J 1 2).toNat 0 f := ge
    rw [ge] at uS uI
    exact fl_72b uJ hW hB hV uS uI (by rw [uf.2.2]; exact hX) hXB hX1 (fun c x y => (uf.1 c (by omega)).trans (hI c x y)) (fun t tf tS => k t (mv_ft uf tf) tS)
  · rw [show (J 1 2).toNat - n = ((J 1 2).toNat - (n + 1)) + 1 by omega] at ge
    have ge : mn_pp J ((J 1 2).toNat - (n + 1)) ((n : Int) + 1) (if J 8 (n : Int) = 0 then mn_go J n g else mn_go J n (mn_go J n g)) = mn_pp J (J 1 2).toNat 0 f := ge
    refine fl_73 uJ hW uS uI.1 (by omega) (by omega) (fun t tf tS => ?_)
    have tF := mv_ft uf (mv_g tf)
    have tJ := gc_Jm hJ tF
    have tI := gp_go hW uI (p := n) (by omega) (by omega)
    rw [tJ 8 (by omega)]
    intro _ _
    refine ⟨fun e => ?_, fun e => ?_⟩
    · unfold fw_72_p35
      rw [if_pos e] at ge
      exact ⟨n + 1, _, by omega, by omega, tF, tS, tI, ge⟩
    · refine fl_73 tJ hW tS tI.1 (by omega) (by omega) (fun y yf yS => ?_)
      unfold fw_72_p35
      rw [if_neg e] at ge
      exact ⟨n + 1, _, by omega, by omega, mv_ft tF (mv_g yf), yS, gp_go hW tI (by omega) (by omega), ge⟩
end CP
