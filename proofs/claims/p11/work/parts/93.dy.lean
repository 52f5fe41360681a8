/-! day: both sides -/
section DY
variable {J K : Nat → Int → Int} {s t u : lf_Z} {f g T A B : Int → Int} {X : mn_X} {I : Nat → Int → Int} {a b c p x j n1 n2 : Int} {H : List rr_H}
/-- what a draw does -/
def dy_o (J : Nat → Int → Int) (X : mn_X) (f : Int → Int) : Int → Int :=
  if (f 38).tmod 5 = 0 then (if J 6 ((f 38).tmod (J 1 1)) = 0 then gt_f f ((f 38).tmod (J 1 1)) else f)
  else if (f 38).tmod 5 = 1 then (if J 1 2 = 0 then f else ds_u1 f (12 + 2 * (f 38).tmod (J 1 2) + 1) ((f 38).tmod (J 1 0)))
  else if 999 ≤ f 37 then f else mn_min J X f
def dy_n (J : Nat → Int → Int) (X : mn_X) (f : Int → Int) : Int → Int := ds_u1 (dy_o J X f) 38 (mn_an (dy_o J X f 38))
def dy_r (J : Nat → Int → Int) (X : mn_X) : Nat → (Int → Int) → Int → Int
  | 0, f => f
  | k + 1, f => dy_r J X k (dy_n J X f)
theorem dy_rS : ∀ (m : Nat) (f : Int → Int), dy_r J X (m + 1) f = dy_n J X (dy_r J X m f) := by
  intro m
  induction m with
  | zero => intro f; rfl
  | succ m ih => intro f; exact ih (dy_n J X f)
theorem dy_m {v n : Int} (h : 0 ≤ v) (hn : 0 < n) : 0 ≤ v.tmod n ∧ v.tmod n < n := by
  rw [Int.tmod_eq_emod_of_nonneg h]
  exact ⟨Int.emod_nonneg _ (by omega), Int.emod_lt_of_pos _ hn⟩
theorem dy_oJ (hW : mn_W J) (hn : J 1 1 ≠ 0) (h : gp_J J f) : gp_J J (dy_o J X f) := by
  have w1 := hW.2.1
  have w2 := hW.2.2.1
  have x0 := h.1.2.2.2.1
  unfold dy_o
  by_cases c0 : (f 38).tmod 5 = 0
  · rw [if_pos c0]
    by_cases c1 : J 6 ((f 38).tmod (J 1 1)) = 0
    · rw [if_pos c1]
      have m := dy_m x0 (show 0 < J 1 1 by omega)
      exact gt_J (b := 1 - lf_b (!(bt_t (f 36) ((f 38).tmod (J 1 1))))) hW h ⟨m, c1, by omega⟩
    · rw [if_neg c1]; exact h
  · rw [if_neg c0]
    by_cases c1 : (f 38).tmod 5 = 1
    · rw [if_pos c1]
      by_cases c2 : J 1 2 = 0
      · rw [if_pos c2]; exact h
      · rw [if_neg c2]
        have m := dy_m x0 (show 0 < J 1 2 by omega)
        have p := h.1.1 0 (Int.le_refl 0) (by omega)
        have m0 := dy_m x0 (show 0 < J 1 0 by omega)
        by_cases e : f (12 + 2 * (f 38).tmod (J 1 2) + 1) = (f 38).tmod (J 1 0)
        · have : ds_u1 f (12 + 2 * (f 38).tmod (J 1 2) + 1) ((f 38).tmod (J 1 0)) = f := by
            funext j
            unfold ds_u1
            by_cases y : j = 12 + 2 * (f 38).tmod (J 1 2) + 1
            · rw [if_pos y, y, e]
            · rw [if_neg y]
          rw [this]; exact h
        · exact sd_J hW h ⟨m, ⟨by omega, m0.2⟩, e⟩
    · rw [if_neg c1]
      by_cases c2 : 999 ≤ f 37
      · rw [if_pos c2]; exact h
      · rw [if_neg c2]; exact (gp_Jm hW h (by omega)).1
theorem gp_J38 {v : Int} (hW : mn_W J) (h : gp_J J f) (hv : 0 ≤ v ∧ v < 30203) : gp_J J (ds_u1 f 38 v) := by
  have w0 := hW.1
  obtain ⟨h1, h5, h6⟩ := h
  have e : ∀ j : Int, j ≠ 38 → ds_u1 f 38 v j = f j := fun j hj => if_neg hj
  refine ⟨gp_e hW h1 (fun j _ j1 => e j (by omega)) (by rw [show ds_u1 f 38 v 38 = v from if_pos rfl]; exact hv), ⟨fun q q0 q1 => ?_, fun q q0 q1 => ?_⟩, ?_⟩
  · rw [e (24 + q) (by omega)]; exact h5.1 q q0 q1
  · rw [e 36 (by decide)]; exact h5.2 q q0 q1
  · rw [e 37 (by decide)]; exact h6
theorem dy_nJ (hW : mn_W J) (hn : J 1 1 ≠ 0) (h : gp_J J f) : gp_J J (dy_n J X f) := by
  have g := dy_oJ (X := X) hW hn h
  exact gp_J38 hW g (mn_anB g.1.2.2.2.1)
/-- one draw of the class -/
theorem fl_106 {Q : lf_Z → Prop} (hJ : gc_J J s) (hW : mn_W J) (hB : mn_B J) (hV : mn_V J) (hn : J 1 1 ≠ 0) (hS : rc_S s.1 f) (hG : gp_J J f) (hX : xc_X X I s.2.2) (hXB : ∀ N, 0 ≤ X.2 N ∧ X.2 N ≤ 10) (hX1 : ∀ N, 0 ≤ X.1 N ∧ X.1 N ≤ 2) (hI : ∀ c : Nat, 35 ≤ c → c < 63 → s.1 c = I c)
    (k : ∀ t : lf_Z, mv_f s t → rc_S t.1 (dy_o J X f) → Q t) : fw_106 Q s := by
  have w1 := hW.2.1
  have w2 := hW.2.2.1
  have x0 := hG.1.2.2.2.1
  have e1 : s.1 1 = J 1 := hJ 1 (by omega)
  unfold dy_o at k
  unfold fw_106
  rw [hS.2.2.2.2.2, e1]
  intro _ _
  refine ⟨fun c0 => ⟨fun c1 _ => ?_, fun c1 _ => ?_⟩, fun c0 _ => ⟨fun _ _ => ?_, fun c1 => absurd hn c1⟩⟩
  · rw [if_neg c0, if_neg c1] at k
    rw [hS.2.2.2.2.1]
    refine ⟨fun d => ?_, fun d => ?_⟩
    · rw [if_pos d] at k
      exact k s mv_fr hS
    · rw [if_neg d] at k
      exact fl_72 hJ hW hB hV hS hG.1 hX hXB hX1 hI k
  · have c1 := Classical.not_not.mp c1
    rw [if_neg c0, if_pos c1] at k
    refine ⟨fun d _ => ?_, fun d => ?_⟩
    · rw [if_neg d] at k
      have m := dy_m x0 (show 0 < J 1 2 by omega)
      have p := hG.1.1 0 (Int.le_refl 0) (by omega)
      unfold fw_106_p100
      refine fl_99 ⟨fun z => ?_, fun z => ?_⟩
      · rw [e1, decide_eq_true m.1, decide_eq_true m.2] at z; cases z
      · rw [e1, hS.2.2.2.2.2]
        intro _
        refine ⟨fun q => absurd q (by omega), fun q _ _ _ => ?_⟩
        exact k _ (mv_g (rc_gu rc_gr (by omega))) (rc_20 hS m.1 (by omega))
    · have d := Classical.not_not.mp d
      rw [if_pos d] at k
      unfold fw_106_p100
      refine fl_99 ⟨fun z => k s mv_fr hS, fun z => ?_⟩
      rw [decide_eq_false (show ¬ (0 : Int) ≤ -1 by decide)] at z; cases z
  · have c0 := Classical.not_not.mp c0
    rw [if_pos c0] at k
    have m := dy_m x0 (show 0 < J 1 1 by omega)
    unfold fw_106_p43
    refine fl_89 ⟨fun z => ?_, fun z => ?_⟩
    · rw [e1, hJ 6 (by omega), decide_eq_true m.1, decide_eq_true m.2] at z
      have z : decide (J 6 ((f 38).tmod (J 1 1)) = 0) = false := z
      rw [if_neg (of_decide_eq_false z)] at k
      exact k s mv_fr hS
    · rw [e1, hJ 6 (by omega), decide_eq_true m.1, decide_eq_true m.2] at z
      have z : decide (J 6 ((f 38).tmod (J 1 1)) = 0) = true := z
      rw [if_pos (of_decide_eq_true z)] at k
      unfold fw_101
      exact k _ (mv_g (rc_g15 rc_gr (by omega))) (rc_36 hS)
def dy_ok (J : Nat → Int → Int) (a b : Int) : Prop := (0 ≤ a ∧ a ≤ 9999) ∧ (1 ≤ b ∧ b ≤ 30) ∧ J 1 1 ≠ 0
def dy_s (f : Int → Int) (a : Int) : Int → Int := ds_u1 f 38 (a * 3 + 41)
/-- day of the class -/
theorem fl_105 {Q : Int → lf_Z → Prop} (hJ : gc_J J s) (hW : mn_W J) (hB : mn_B J) (hV : mn_V J) (hS : rc_S s.1 f) (hG : gp_J J f) (hH : rc_H s.1 H) (hX : xc_X X I s.2.2) (hXB : ∀ N, 0 ≤ X.2 N ∧ X.2 N ≤ 10) (hX1 : ∀ N, 0 ≤ X.1 N ∧ X.1 N ≤ 2) (hI : ∀ c : Nat, 35 ≤ c → c < 63 → s.1 c = I c)
    (k0 : ¬ dy_ok J a b → Q (-1) s) (k : dy_ok J a b → ∀ t : lf_Z, mc_f s t → rc_S t.1 (dy_r J X b.toNat (dy_s f a)) → rc_H t.1 (rr_K (J 1 2, J 1 1, f) H) → gp_J J (dy_r J X b.toNat (dy_s f a)) → Q (mi_al (dy_r J X b.toNat (dy_s f a)) 12) t) : fw_105 a b Q s := by
  unfold fw_105
  refine fl_15 ⟨fun z => k0 (fun q => ?_), fun z => fl_15 ⟨fun z2 => k0 (fun q => ?_), fun z2 => ?_⟩⟩
  · rw [decide_eq_true q.1.1, decide_eq_true q.1.2] at z; cases z
  · rw [decide_eq_true q.2.1.1, decide_eq_true q.2.1.2] at z2; cases z2
  · rw [Bool.and_eq_true, decide_eq_true_eq, decide_eq_true_eq] at z z2
    rw [hJ 1 (by omega)]
    intro _
    refine ⟨fun c => ?_, fun c => k0 (fun q => c q.2.2)⟩
    have ok : dy_ok J a b := ⟨z, z2, c⟩
    refine fl_67 (w := J 1 1) hS hH (fun t tf tH => ?_)
    have tS := rc_Sf hS tf
    have tF := mc_k tf
    have S0 : rc_S (lf_up t.1 15 8 (a * 3 + 41)) (dy_s f a) := rc_15 tS
    have f0 := mv_g (s := t) (rc_g15 (i := 8) (v := a * 3 + 41) rc_gr (by omega))
    have G0 : gp_J J (dy_s f a) := gp_J38 hW hG (by omega)
    refine ⟨fun i u => ∃ m : Nat, i = m ∧ (m : Int) ≤ b ∧ mv_f t u ∧ rc_S u.1 (dy_r J X m (dy_s f a)) ∧ gp_J J (dy_r J X m (dy_s f a)), ?_, ⟨0, rfl, by omega, f0, S0, G0⟩⟩
    intro i u ⟨m, ei, m1, uf, uS, uG⟩
    subst ei
    have uF := mc_ft tF (mc_v uf)
    unfold fw_105_p66
    intro _ _
    refine ⟨fun d => ?_, fun d => ?_⟩
    · have : m = b.toNat := by omega
      rw [this] at uS uG
      exact fl_97 uS (k ok u uF uS (rc_Hv tH uf) uG)
    · refine fl_106 (gc_Jc hJ uF) hW hB hV c uS uG (by rw [uF.2.2.2]; exact hX) hXB hX1 (fun c x y => (uF.1 c (by omega)).trans (hI c x y)) (fun y yf yS => ?_)
      have g := dy_oJ (X := X) hW c uG
      refine fl_94 yS g.1.2.2.2 (fun w wf wS => ⟨m + 1, by omega, by omega, mv_ft uf (mv_ft yf wf), ?_, ?_⟩)
      · rw [dy_rS]; exact wS
      · rw [dy_rS]; exact dy_nJ hW c uG
/-! the reference: stand with gates -/
def rg_p (i : Int) : Prop := rm_p i ∨ (50 ≤ i ∧ i < 114 ∧ (i - 50) % 4 = 3)
def rg_f (s t : lf_Z) : Prop := (∀ c : Nat, c ≠ 96 → c ≠ 104 → c ≠ 107 → c ≠ 108 → t.1 c = s.1 c) ∧ (∀ i : Int, ¬ rg_p i → t.1 96 i = s.1 96 i) ∧ t.2.2 = s.2.2
theorem rg_fr : rg_f s s := ⟨fun _ _ _ _ _ => rfl, fun _ _ => rfl, rfl⟩
theorem rg_ft (h : rg_f s t) (g : rg_f t u) : rg_f s u := ⟨fun c a b d e => (g.1 c a b d e).trans (h.1 c a b d e), fun i hi => (g.2.1 i hi).trans (h.2.1 i hi), g.2.2.trans h.2.2⟩
theorem rg_m (h : rm_f s t) : rg_f s t := ⟨h.1, fun i hi => h.2.1 i (fun q => hi (Or.inl q)), h.2.2⟩
theorem rg_u {i v : Int} (hi : rg_p i) : rg_f s (lf_up s.1 96 i v, s.2.1, s.2.2) := ⟨fun c a _ _ _ => zu_r a, fun j hj => zu_i (fun q => hj (by rw [q]; exact hi)), rfl⟩
theorem rg_L (hL : rr_L J (s.1 96)) (hW : mn_W J) (h : rg_f s t) : rr_L J (t.1 96) := by
  obtain ⟨w0, w1, w2, _⟩ := hW
  obtain ⟨l0, l1, l2, l3, l4, l5⟩ := hL
  have g : ∀ j : Int, ¬ rg_p j → t.1 96 j = s.1 96 j := h.2.1
  refine ⟨(g 0 (by unfold rg_p rm_p; omega)).trans l0, (g 1 (by unfold rg_p rm_p; omega)).trans l1, (g 2 (by unfold rg_p rm_p; omega)).trans l2, fun q q0 q1 => ?_, fun w x0 x1 => ?_, fun q q0 q1 => ?_⟩
  · rw [g (14 + 3 * q) (by unfold rg_p rm_p; omega), g (14 + 3 * q + 1) (by unfold rg_p rm_p; omega)]; exact l3 q q0 q1
  · rw [g (50 + 4 * w) (by unfold rg_p rm_p; omega), g (50 + 4 * w + 1) (by unfold rg_p rm_p; omega), g (50 + 4 * w + 2) (by unfold rg_p rm_p; omega)]; exact l4 w x0 x1
  · rw [g (126 + 6 * q + 0) (by unfold rg_p rm_p; omega), g (126 + 6 * q + 1) (by unfold rg_p rm_p; omega), g (126 + 6 * q + 2) (by unfold rg_p rm_p; omega), g (126 + 6 * q + 5) (by unfold rg_p rm_p; omega)]; exact l5 q q0 q1
theorem rm_0g (h : rm_0 T s) (g : rg_f s t) : rm_0 T t := by
  unfold rm_0 at h ⊢
  rw [g.1 98 (by decide) (by decide) (by decide) (by decide), g.1 95 (by decide) (by decide) (by decide) (by decide)]
  exact h
theorem xr_Xg (hX : xr_X X T (s.1 96 8)) (g : rg_f s t) : xr_X X T (t.1 96 8) := by
  rw [g.2.1 8 (by unfold rg_p rm_p; omega)]; exact hX
theorem rh_Hg (hh : mi_H J H) (hW : mn_W J) (h : rh_H (s.1 96) H) (g : rg_f s t) : rh_H (t.1 96) H := rh_Hr hh hW h (g.2.1 9 (by unfold rg_p rm_p; omega)) (fun i i0 => g.2.1 i (by unfold rg_p rm_p; omega))
/-- one draw of the reference -/
theorem fl_283 {Q : lf_Z → Prop} (hL : rr_L J (s.1 96)) (hW : mn_W J) (hB : mn_B J) (hV : mn_V J) (hn : J 1 1 ≠ 0) (hS : rr_S (J 1 1) (J 1 2) f (s.1 96)) (hG : gp_J J f) (hX : xr_X X T (s.1 96 8)) (h0 : rm_0 T s) (hX1 : ∀ N, 0 ≤ X.1 N ∧ X.1 N ≤ 2)
    (k : ∀ t : lf_Z, rg_f s t → rr_S (J 1 1) (J 1 2) (dy_o J X f) (t.1 96) → Q t) : fw_283 Q s := by
  have w1 := hW.2.1
  have w2 := hW.2.2.1
  have x0 := hG.1.2.2.2.1
  unfold dy_o at k
  unfold fw_283
  rw [hS.2.1, hL.2.1, hL.2.2.1, hL.1, hS.1]
  intro _ _ _ _
  refine ⟨fun c _ => ⟨fun d => ?_, fun d => ?_⟩, fun c => ?_, fun c _ => ⟨fun d => ?_, fun d _ _ _ => fl_191e ?_⟩⟩
  · rw [if_neg c.1, if_neg c.2, if_pos d] at k
    exact k s rg_fr hS
  · rw [if_neg c.1, if_neg c.2, if_neg d] at k
    exact fl_260 hL hW hB hV hS hG.1 hX h0 hX1 (fun t tf tS => k t (rg_m tf) tS)
  · rw [if_pos c] at k
    have m := dy_m x0 (show 0 < J 1 1 by omega)
    have b6 := hB.1 ((f 38).tmod (J 1 1))
    generalize (f 38).tmod (J 1 1) = w at *
    refine fl_252 hL m.1 m.2 ⟨fun z => ?_, fun z _ => ?_⟩
    · have z := of_decide_eq_true z
      rw [if_neg (by omega)] at k
      exact k s rg_fr hS
    · have z := of_decide_eq_false z
      rw [if_pos (by omega)] at k
      refine k _ (rg_u (Or.inr ⟨by omega, by omega, by omega⟩)) (gt_S (v := 0) hS w1.2 w2.2 m.1 m.2 (fun j hj => zu_i hj) (zu_s.trans ?_))
      rw [hS.2.2.2.2.2 w m.1 m.2]
      unfold rr_op
      cases bt_t (f 36) w with
      | true => rfl
      | false => rfl
  · rw [if_neg (by omega), if_pos c, if_pos (by omega)] at k
    exact k s rg_fr hS
  · rw [if_neg (by omega), if_pos c, if_neg (by omega)] at k
    have m := dy_m x0 (show 0 < J 1 2 by omega)
    exact k _ (rg_u (Or.inl (Or.inr (Or.inr (Or.inr (Or.inl ⟨by omega, by omega, by omega⟩)))))) (gr_se hS m.1 m.2 w1.2 w2.2 (fun j hj => zu_i hj) zu_s)
theorem fl_282 {Q : Int → lf_Z → Prop} (hL : rr_L J (s.1 96)) (hW : mn_W J) (hB : mn_B J) (hV : mn_V J) (hS : rr_S (J 1 1) (J 1 2) f (s.1 96)) (hG : gp_J J f) (hH : rh_H (s.1 96) H) (hh : mi_H J H) (hX : xr_X X T (s.1 96 8)) (h0 : rm_0 T s) (hX1 : ∀ N, 0 ≤ X.1 N ∧ X.1 N ≤ 2)
    (k0 : ¬ dy_ok J a b → Q (-1) s) (k : dy_ok J a b → ∀ t : lf_Z, (∀ c : Nat, c ≠ 96 → c ≠ 104 → c ≠ 107 → c ≠ 108 → t.1 c = s.1 c) → t.2.2 = s.2.2 → (∀ i : Int, ¬ rg_p i → i ≠ 9 → i < 278 → t.1 96 i = s.1 96 i) → rr_L J (t.1 96) → rr_S (J 1 1) (J 1 2) (dy_r J X b.toNat (dy_s f a)) (t.1 96) → rh_H (t.1 96) (rr_K (J 1 2, J 1 1, f) H) → Q (mi_al (dy_r J X b.toNat (dy_s f a)) 12) t) : fw_282 a b Q s := by
  have w1 := hW.2.1
  have w2 := hW.2.2.1
  unfold fw_282
  refine fl_183 ⟨fun z => k0 (fun q => ?_), fun z => fl_183 ⟨fun z2 => k0 (fun q => ?_), fun z2 => ?_⟩⟩
  · rw [decide_eq_true q.1.1, decide_eq_true q.1.2] at z; cases z
  · rw [decide_eq_true q.2.1.1, decide_eq_true q.2.1.2] at z2; cases z2
  · rw [Bool.and_eq_true, decide_eq_true_eq, decide_eq_true_eq] at z z2
    rw [hL.2.1]
    intro _
    refine ⟨fun c => ?_, fun c => k0 (fun q => c q.2.2)⟩
    have ok : dy_ok J a b := ⟨z, z2, c⟩
    refine fl_244j hL hW hS hH hh (fun t tf tr tS tH te => ?_)
    have tL := mr_L hL hW tf
    have hh' := mi_K hW hG hh
    have S0 : rr_S (J 1 1) (J 1 2) (dy_s f a) (((lf_up t.1 96 6 (a * 3 + 41), t.2.1, t.2.2) : lf_Z).1 96) := rm_38 tS w1.2 w2.2 (fun j hj => zu_i hj) zu_s
    have f0 : rg_f t (lf_up t.1 96 6 (a * 3 + 41), t.2.1, t.2.2) := rg_m (rm_u (Or.inr (Or.inl rfl)))
    have G0 : gp_J J (dy_s f a) := gp_J38 hW hG (by omega)
    refine ⟨fun i u => ∃ m : Nat, i = m ∧ (m : Int) ≤ b ∧ rg_f t u ∧ rr_S (J 1 1) (J 1 2) (dy_r J X m (dy_s f a)) (u.1 96) ∧ gp_J J (dy_r J X m (dy_s f a)), ?_, ⟨0, rfl, by omega, f0, S0, G0⟩⟩
    intro i u ⟨m, ei, m1, uf, uS, uG⟩
    subst ei
    have uL := rg_L tL hW uf
    unfold fw_282_p51
    intro _ _
    refine ⟨fun d => ?_, fun d => ?_⟩
    · have : m = b.toNat := by omega
      rw [this] at uS uG
      refine fl_279 uL hW uS ?_
      rw [mi_alE hW uG]
      refine k ok u (fun c a b d e => (uf.1 c a b d e).trans (tf.1 c a b d e)) (uf.2.2.trans tf.2.2) (fun i h1 h2 h3 => (uf.2.1 i h1).trans (te i h2 h3)) uL uS (rh_Hg hh' hW tH uf)
    · refine fl_283 uL hW hB hV c uS uG (xr_Xg (xr_Xm hX tf) uf) (rm_0g (rm_0m h0 tf) uf) hX1 (fun y yf yS => ?_)
      have g := dy_oJ (X := X) hW c uG
      unfold fw_276
      rw [yS.2.1]
      intro _
      refine ⟨m + 1, by omega, by omega, rg_ft uf (rg_ft yf (rg_m (rm_u (Or.inr (Or.inl rfl))))), ?_, ?_⟩
      · rw [dy_rS]
        exact rm_38 yS w1.2 w2.2 (fun j hj => zu_i hj) zu_s
      · rw [dy_rS]; exact dy_nJ hW c uG
end DY
