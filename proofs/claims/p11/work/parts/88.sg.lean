/-! stray, send, gate, split: both sides -/
section SG
variable {J K : Nat → Int → Int} {s t u : lf_Z} {f g T A B : Int → Int} {X : mn_X} {I : Nat → Int → Int} {a b c p x j n1 n2 : Int} {H : List rr_H}
theorem mn_leB {P : Int → Bool} : ∀ (k : Nat) (v : Int), mn_le P k v = -1 ∨ (v ≤ mn_le P k v ∧ mn_le P k v < v + k ∧ P (mn_le P k v) = true) := by
  intro k
  induction k with
  | zero => intro v; exact Or.inl rfl
  | succ k ih =>
    intro v
    have e : mn_le P (k + 1) v = if P v = true then v else mn_le P k (v + 1) := rfl
    rw [e]
    by_cases h : P v = true
    · rw [if_pos h]; exact Or.inr ⟨Int.le_refl v, by omega, h⟩
    · rw [if_neg h]
      rcases ih (v + 1) with q | ⟨q1, q2, q3⟩
      · exact Or.inl q
      · exact Or.inr ⟨by omega, by omega, q3⟩
/-- the lowest bunch that isn't there -/
def sg_b (f : Int → Int) : Int := mn_le (fun b => decide (f (3 * b) = 0)) 4 0
theorem sg_bB : sg_b f = -1 ∨ (0 ≤ sg_b f ∧ sg_b f < 4 ∧ f (3 * sg_b f) = 0) := by
  rcases mn_leB (P := fun b => decide (f (3 * b) = 0)) 4 0 with q | ⟨q1, q2, q3⟩
  · exact Or.inl q
  · exact Or.inr ⟨q1, q2, of_decide_eq_true q3⟩
theorem fl_66 {Q : Int → lf_Z → Prop} (hS : rc_S s.1 f) (h : Q (sg_b f) s) : fw_66 Q s := by
  unfold fw_66
  refine ⟨fun i u => u = s ∧ 0 ≤ i ∧ i ≤ 4 ∧ mn_le (fun b => decide (f (3 * b) = 0)) (4 - i).toNat i = sg_b f, ?_, ⟨rfl, Int.le_refl 0, by decide, rfl⟩⟩
  intro i u ⟨eu, i0, i4, e⟩
  rw [eu]
  unfold fw_66_p2
  intro _
  refine ⟨fun d => ?_, fun d _ _ => ?_⟩
  · have : i = 4 := by omega
    subst this
    have e : -1 = sg_b f := e
    rw [e]; exact h
  · rw [show (4 - i).toNat = (4 - (i + 1)).toNat + 1 by omega] at e
    have e : (if decide (f (3 * i) = 0) = true then i else mn_le (fun b => decide (f (3 * b) = 0)) (4 - (i + 1)).toNat (i + 1)) = sg_b f := e
    rw [(hS.1 i i0 (by omega)).1]
    refine ⟨fun q => ?_, fun q => ?_⟩
    · rw [if_neg (fun w => q (of_decide_eq_true w))] at e
      exact ⟨rfl, by omega, by omega, e⟩
    · rw [if_pos (decide_eq_true (Classical.not_not.mp q))] at e
      rw [e]; exact h
theorem fl_241 {Q : Int → lf_Z → Prop} (hS : rr_S n1 n2 f (s.1 96)) (h : Q (sg_b f) s) : fw_241 Q s := by
  unfold fw_241
  refine ⟨fun i u => u = s ∧ 0 ≤ i ∧ i ≤ 4 ∧ mn_le (fun b => decide (f (3 * b) = 0)) (4 - i).toNat i = sg_b f, ?_, ⟨rfl, Int.le_refl 0, by decide, rfl⟩⟩
  intro i u ⟨eu, i0, i4, e⟩
  rw [eu]
  unfold fw_241_p2
  intro _
  refine ⟨fun d => ?_, fun d => fl_242 ?_⟩
  · have : i = 4 := by omega
    subst this
    have e : -1 = sg_b f := e
    rw [e]; exact h
  · rw [show (4 - i).toNat = (4 - (i + 1)).toNat + 1 by omega] at e
    have e : (if decide (f (3 * i) = 0) = true then i else mn_le (fun b => decide (f (3 * b) = 0)) (4 - (i + 1)).toNat (i + 1)) = sg_b f := e
    rw [(hS.2.2.1 i i0 (by omega)).1]
    intro _
    refine ⟨fun q => ?_, fun q => ?_⟩
    · rw [if_neg (fun w => q (of_decide_eq_true w))] at e
      exact ⟨rfl, by omega, by omega, e⟩
    · rw [if_pos (decide_eq_true (Classical.not_not.mp q))] at e
      rw [e]; exact h
/-- how many in all -/
def sg_n (f : Int → Int) : Nat → Int
  | 0 => 0
  | k + 1 => sg_n f k + f (3 * (k : Int))
theorem sg_n4 : sg_n f 4 = f 0 + f 3 + f 6 + f 9 := by
  show 0 + f 0 + f 3 + f 6 + f 9 = _
  omega
theorem sg_nB (h : gp_I J f) : ∀ k : Nat, k ≤ 4 → 0 ≤ sg_n f k ∧ sg_n f k ≤ 24 * k := by
  intro k
  induction k with
  | zero => intro _; exact ⟨Int.le_refl 0, Int.le_refl 0⟩
  | succ k ih =>
    intro hk
    have i := ih (by omega)
    have z := gp_sz h (b := k) (by omega) (by omega)
    show 0 ≤ sg_n f k + f (3 * (k : Int)) ∧ sg_n f k + f (3 * (k : Int)) ≤ 24 * ((k + 1 : Nat) : Int)
    omega
theorem fl_64 {Q : Int → lf_Z → Prop} (hS : rc_S s.1 f) (hG : gp_I J f) (h : Q (sg_n f 4) s) : fw_64 Q s := by
  unfold fw_64 fw_65
  refine ⟨fun x i u => u = s ∧ ∃ n : Nat, i = n ∧ n ≤ 4 ∧ x = sg_n f n, ?_, ⟨rfl, 0, rfl, by decide, rfl⟩⟩
  intro x i u ⟨eu, n, ei, n1, ex⟩
  subst ei
  rw [eu, ex]
  unfold fw_65_p10
  intro _ _
  refine ⟨fun c => ?_, fun c _ => ⟨rfl, n + 1, by omega, by omega, ?_⟩⟩
  · have : n = 4 := by omega
    rw [this]; exact h
  · have B := sg_nB hG n n1
    have z := gp_sz hG (b := n) (by omega) (by omega)
    rw [(hS.1 n (by omega) (by omega)).1, tr_w (by omega)]; rfl
theorem fl_243 {Q : Int → lf_Z → Prop} (hS : rr_S n1 n2 f (s.1 96)) (h : Q (sg_n f 4) s) : fw_243 Q s := by
  unfold fw_243
  refine ⟨fun x i u => u = s ∧ ∃ n : Nat, i = n ∧ n ≤ 4 ∧ x = sg_n f n, ?_, ⟨rfl, 0, rfl, by decide, rfl⟩⟩
  intro x i u ⟨eu, n, ei, n1, ex⟩
  subst ei
  rw [eu, ex]
  unfold fw_243_p4
  intro _
  refine ⟨fun c => ?_, fun c => fl_242 ⟨rfl, n + 1, by omega, by omega, ?_⟩⟩
  · have : n = 4 := by omega
    rw [this]; exact h
  · rw [(hS.2.2.1 n (by omega) (by omega)).1]; rfl
/-- a bunch's three cells -/
def rm_b (f : Int → Int) (b z v w : Int) : Int → Int := ds_u1 (ds_u1 (ds_u1 f (3 * b) z) (3 * b + 1) v) (3 * b + 2) w
theorem rm_bo {z v w : Int} (h : j < 3 * b ∨ 3 * b + 2 < j) : rm_b f b z v w j = f j := (if_neg (by omega)).trans ((if_neg (by omega)).trans (if_neg (by omega)))
theorem rm_b0 {z v w : Int} : rm_b f b z v w (3 * b) = z := (if_neg (by omega)).trans ((if_neg (by omega)).trans (if_pos rfl))
theorem rm_b1 {z v w : Int} : rm_b f b z v w (3 * b + 1) = v := (if_neg (by omega)).trans (if_pos rfl)
theorem rm_b2 {z v w : Int} : rm_b f b z v w (3 * b + 2) = w := if_pos rfl
theorem rc_b {z v w : Int} (hS : rc_S s.1 f) (b0 : 0 ≤ b) (b1 : b < 4) : rc_S (lf_up (lf_up (lf_up s.1 16 b z) 17 b v) 18 b w) (rm_b f b z v w) := by
  obtain ⟨s1, s2, s3, s4, s5, s6⟩ := hS
  have x : ∀ (q : Nat) (j : Int), q ≠ 16 → q ≠ 17 → q ≠ 18 → (lf_up (lf_up (lf_up s.1 16 b z) 17 b v) 18 b w) q j = s.1 q j := fun q j h1 h2 h3 => (lf_up_c h3).trans ((lf_up_c h2).trans (lf_up_c h1))
  refine ⟨fun q q0 q1 => ?_, fun q q0 q1 => ?_, fun q q0 q1 => ?_, ?_, ?_, ?_⟩
  · by_cases y : q = b
    · subst y
      rw [rm_b0, rm_b1, rm_b2]
      exact ⟨(lf_up_c (by decide)).trans ((lf_up_c (by decide)).trans lf_up_s), (lf_up_c (by decide)).trans lf_up_s, lf_up_s⟩
    · rw [rm_bo (by omega), rm_bo (by omega), rm_bo (by omega), lf_up_i y, lf_up_c (show 18 ≠ 17 by decide), lf_up_c (show 18 ≠ 16 by decide), lf_up_c (show 17 ≠ 18 by decide), lf_up_i y, lf_up_c (show 17 ≠ 16 by decide), lf_up_c (show 16 ≠ 18 by decide), lf_up_c (show 16 ≠ 17 by decide), lf_up_i y]
      exact s1 q q0 q1
  · rw [x 19 _ (by decide) (by decide) (by decide), x 20 _ (by decide) (by decide) (by decide), rm_bo (by omega), rm_bo (by omega)]; exact s2 q q0 q1
  · rw [x 21 _ (by decide) (by decide) (by decide), rm_bo (by omega)]; exact s3 q q0 q1
  · rw [x 15 _ (by decide) (by decide) (by decide), rm_bo (by omega)]; exact s4
  · rw [x 15 _ (by decide) (by decide) (by decide), rm_bo (by omega)]; exact s5
  · rw [x 15 _ (by decide) (by decide) (by decide), rm_bo (by omega)]; exact s6
/-- the facts of a row with a bunch told anew -/
theorem gp_bn {z v w : Int} (hW : mn_W J) (h : gp_J J f) (b0 : 0 ≤ b) (b1 : b < 4) (hz : 0 ≤ z) (hs : f 0 + f 3 + f 6 + f 9 - f (3 * b) + z ≤ 24) (hv : 0 < z → (0 ≤ v ∧ v < J 1 0) ∧ -1 ≤ w ∧ w < J 1 0) : gp_J J (rm_b f b z v w) := by
  have w0 := hW.1
  have w2 := hW.2.2.1
  obtain ⟨⟨h1, h2, h3, h4⟩, h5, h6⟩ := h
  refine ⟨⟨fun q q0 q1 => ?_, fun q q0 q1 => ?_, ?_, ?_⟩, ⟨fun q q0 q1 => ?_, fun q q0 q1 => ?_⟩, ?_⟩
  · rw [rm_bo (by omega), rm_bo (by omega)]; exact h1 q q0 q1
  · unfold gp_b
    by_cases y : q = b
    · subst y
      rw [rm_b0, rm_b1, rm_b2]; exact hv
    · rw [rm_bo (by omega), rm_bo (by omega), rm_bo (by omega)]; exact h2 q q0 q1
  · rcases (show b = 0 ∨ b = 1 ∨ b = 2 ∨ b = 3 by omega) with e | e | e | e
    · subst e
      have hs : f 0 + f 3 + f 6 + f 9 - f 0 + z ≤ 24 := hs
      rw [show rm_b f 0 z v w 0 = z from rm_b0 (b := 0), rm_bo (by decide), rm_bo (by decide), rm_bo (by decide)]; omega
    · subst e
      have hs : f 0 + f 3 + f 6 + f 9 - f 3 + z ≤ 24 := hs
      rw [show rm_b f 1 z v w 3 = z from rm_b0 (b := 1), rm_bo (j := 0) (by decide), rm_bo (j := 6) (by decide), rm_bo (j := 9) (by decide)]; omega
    · subst e
      have hs : f 0 + f 3 + f 6 + f 9 - f 6 + z ≤ 24 := hs
      rw [show rm_b f 2 z v w 6 = z from rm_b0 (b := 2), rm_bo (j := 0) (by decide), rm_bo (j := 3) (by decide), rm_bo (j := 9) (by decide)]; omega
    · subst e
      have hs : f 0 + f 3 + f 6 + f 9 - f 9 + z ≤ 24 := hs
      rw [show rm_b f 3 z v w 9 = z from rm_b0 (b := 3), rm_bo (j := 0) (by decide), rm_bo (j := 3) (by decide), rm_bo (j := 6) (by decide)]; omega
  · rw [rm_bo (by omega)]; exact h4
  · rw [rm_bo (by omega)]; exact h5.1 q q0 q1
  · rw [rm_bo (by omega)]; exact h5.2 q q0 q1
  · rw [rm_bo (by omega)]; exact h6
/-- stray -/
def sy_ok (J : Nat → Int → Int) (f : Int → Int) (a b : Int) : Prop := (1 ≤ a ∧ a ≤ 24 - sg_n f 4) ∧ (0 ≤ b ∧ b < J 1 0) ∧ sg_b f ≠ -1
theorem fl_63 {Q : Int → lf_Z → Prop} (hJ : gc_J J s) (hS : rc_S s.1 f) (hG : gp_J J f) (hH : rc_H s.1 H)
    (k0 : ¬ sy_ok J f a b → Q (-1) s) (k : sy_ok J f a b → ∀ t : lf_Z, mc_f s t → rc_S t.1 (rm_b f (sg_b f) a b (-1)) → rc_H t.1 (rr_K (J 1 2, J 1 1, f) H) → Q (sg_b f) t) : fw_63 a b Q s := by
  have B := sg_nB hG.1 4 (Nat.le_refl 4)
  unfold fw_63
  refine fl_64 hS hG.1 ?_
  rw [tr_w (by omega)]
  refine fl_15 ⟨fun z => k0 (fun q => ?_), fun z => fl_18 ⟨fun z2 => fl_66 hS ?_, fun z2 => k0 (fun q => ?_)⟩⟩
  · rw [decide_eq_true q.1.1, decide_eq_true q.1.2] at z; cases z
  · rw [Bool.and_eq_true, decide_eq_true_eq, decide_eq_true_eq] at z
    rw [Bool.and_eq_true, decide_eq_true_eq, decide_eq_true_eq, hJ 1 (by omega)] at z2
    intro _
    refine ⟨fun c => ?_, fun c => ?_⟩
    · rw [c]; exact k0 (fun q => q.2.2 c)
    · have sB := sg_bB.resolve_left c
      rw [hJ 1 (by omega)]
      refine fl_67 (w := J 1 1) hS hH (fun t tf tH => fl_69 ?_)
      have tS := rc_Sf hS tf
      refine k ⟨z, z2, c⟩ _ (mc_ft (mc_k tf) (mc_g (rc_gu (rc_gu (rc_gu rc_gr (by omega)) (by omega)) (by omega)))) (rc_b tS sB.1 sB.2.1) ?_
      exact rc_Hv tH (mv_g (rc_gu (rc_gu (rc_gu rc_gr (by omega)) (by omega)) (by omega)))
  · rw [hJ 1 (by omega), decide_eq_true q.2.1.1, decide_eq_true q.2.1.2] at z2; cases z2
/-- the reference: a step is kept -/
theorem fl_244j {Q : lf_Z → Prop} (hL : rr_L J (s.1 96)) (hW : mn_W J) (hS : rr_S (J 1 1) (J 1 2) f (s.1 96)) (hH : rh_H (s.1 96) H) (hh : mi_H J H)
    (k : ∀ t : lf_Z, mr_f s t → rr_f s t → rr_S (J 1 1) (J 1 2) f (t.1 96) → rh_H (t.1 96) (rr_K (J 1 2, J 1 1, f) H) → (∀ i : Int, i ≠ 9 → i < 278 → t.1 96 i = s.1 96 i) → Q t) : fw_244 Q s := by
  have w1 := hW.2.1
  have w2 := hW.2.2.1
  refine fl_244 (H := H) (f := f) (by rw [hL.2.1, hL.2.2.1]; exact hS) hH.1 hh.1 hH.2 (mi_w hW hh) (by rw [hL.2.1]; exact w1.2) (by rw [hL.2.1]; exact w1.1) (by rw [hL.2.2.1]; exact w2.2) (fun t tf te t9 tH tS => ?_)
  rw [hL.2.1, hL.2.2.1] at t9 tH tS
  exact k t (mr_k tf te) tf tS ⟨t9, tH⟩ te
theorem rh_Hr (hh : mi_H J H) (hW : mn_W J) (h : rh_H (s.1 96) H) (e9 : t.1 96 9 = s.1 96 9) (e : ∀ i : Int, 278 ≤ i → t.1 96 i = s.1 96 i) : rh_H (t.1 96) H := ⟨e9.trans h.1, rr_hsC H (mi_w hW hh) (fun i i0 _ => e i i0) h.2⟩
theorem mr_b {v w z : Int} (b0 : 0 ≤ b) (b1 : b < 4) (tc : ∀ c : Nat, c ≠ 96 → t.1 c = s.1 c) (t2 : t.2 = s.2) (tj : ∀ j : Int, ¬ (114 + 3 * b ≤ j ∧ j ≤ 114 + 3 * b + 2) → t.1 96 j = s.1 96 j) : rm_f s t := ⟨fun c a _ _ _ => tc c a, fun i hi => tj i (fun q => hi (Or.inr (Or.inr (Or.inl ⟨by omega, by omega⟩)))), by rw [t2]⟩
theorem fl_240 {Q : Int → lf_Z → Prop} (hL : rr_L J (s.1 96)) (hW : mn_W J) (hS : rr_S (J 1 1) (J 1 2) f (s.1 96)) (hG : gp_J J f) (hH : rh_H (s.1 96) H) (hh : mi_H J H)
    (k0 : ¬ sy_ok J f a b → Q (-1) s) (k : sy_ok J f a b → ∀ t : lf_Z, mr_f s t → rr_S (J 1 1) (J 1 2) (rm_b f (sg_b f) a b (-1)) (t.1 96) → rh_H (t.1 96) (rr_K (J 1 2, J 1 1, f) H) → Q (sg_b f) t) : fw_240 a b Q s := by
  have w1 := hW.2.1
  have w2 := hW.2.2.1
  have B := sg_nB hG.1 4 (Nat.le_refl 4)
  unfold fw_240
  refine fl_241 hS (fl_183 ⟨fun z => k0 (fun q => ?_), fun z => ?_⟩)
  · have := q.1
    rw [decide_eq_true this.1, decide_eq_true (show a ≤ 24 by omega)] at z; cases z
  · rw [Bool.and_eq_true, decide_eq_true_eq, decide_eq_true_eq] at z
    unfold fw_185
    rw [hL.1]
    refine fl_183 ⟨fun z2 => k0 (fun q => ?_), fun z2 => fl_243 hS ?_⟩
    · have := q.2.1
      rw [decide_eq_true this.1, decide_eq_true (show b ≤ J 1 0 - 1 by omega)] at z2; cases z2
    · rw [Bool.and_eq_true, decide_eq_true_eq, decide_eq_true_eq] at z2
      intro _
      refine ⟨fun c => k0 (fun q => by have := q.1; omega), fun c _ => ⟨fun d => ?_, fun d => k0 (fun q => ?_)⟩⟩
      · have d' : sg_b f ≠ -1 := by omega
        have sB := sg_bB.resolve_left d'
        refine fl_244j hL hW hS hH hh (fun t tf tr tS tH te => fl_247 (fun y yc y2 yj y0 y1 y3 => ?_))
        have yf := mr_b (v := 0) (w := 0) (z := 0) sB.1 sB.2.1 yc y2 yj
        refine k ⟨⟨z.1, by omega⟩, ⟨z2.1, by omega⟩, d'⟩ y (mr_ft tf (mr_m yf)) ?_ (rh_Hr (mi_K hW hG hh) hW tH (yj 9 (by omega)) (fun i i0 => yj i (by omega)))
        exact rm_S tS w1.2 w2.2 sB.1 sB.2.1 (fun j hj => rm_bo (by omega)) yj (y0.trans rm_b0.symm) (fun _ => ⟨y1.trans rm_b1.symm, y3.trans rm_b2.symm⟩)
      · rcases sg_bB (f := f) with e | e
        · exact q.2.2 e
        · omega
theorem sy_J (hW : mn_W J) (h : gp_J J f) (ok : sy_ok J f a b) : gp_J J (rm_b f (sg_b f) a b (-1)) := by
  have sB := sg_bB.resolve_left ok.2.2
  have z := ok.1
  rw [sg_n4] at z
  have w0 := hW.1
  exact gp_bn hW h sB.1 sB.2.1 (by omega) (by rw [sB.2.2]; omega) (fun _ => ⟨ok.2.1, by omega, by omega⟩)
/-! send -/
def sd_ok (J : Nat → Int → Int) (f : Int → Int) (a b : Int) : Prop := (0 ≤ a ∧ a < J 1 2) ∧ (-1 ≤ b ∧ b < J 1 0) ∧ f (12 + 2 * a + 1) ≠ b
theorem rc_20 {v : Int} (hS : rc_S s.1 f) (p0 : 0 ≤ p) (p6 : p < 6) : rc_S (lf_up s.1 20 p v) (ds_u1 f (12 + 2 * p + 1) v) := by
  obtain ⟨s1, s2, s3, s4, s5, s6⟩ := hS
  have e : ∀ j : Int, j ≠ 12 + 2 * p + 1 → ds_u1 f (12 + 2 * p + 1) v j = f j := fun j hj => if_neg hj
  refine ⟨fun b b0 b1 => ?_, fun q q0 q1 => ⟨?_, ?_⟩, fun q q0 q1 => ?_, ?_, ?_, ?_⟩
  · rw [lf_up_c (by decide), lf_up_c (by decide), lf_up_c (by decide), e (3 * b) (by omega), e (3 * b + 1) (by omega), e (3 * b + 2) (by omega)]
    exact s1 b b0 b1
  · rw [lf_up_c (by decide), e (12 + 2 * q) (by omega)]; exact (s2 q q0 q1).1
  · by_cases y : q = p
    · rw [y, lf_up_s]; exact (if_pos rfl).symm
    · rw [lf_up_i y, e (12 + 2 * q + 1) (by omega)]; exact (s2 q q0 q1).2
  · rw [lf_up_c (by decide), e (24 + q) (by omega)]; exact s3 q q0 q1
  · rw [lf_up_c (by decide), e 36 (by omega)]; exact s4
  · rw [lf_up_c (by decide), e 37 (by omega)]; exact s5
  · rw [lf_up_c (by decide), e 38 (by omega)]; exact s6
theorem fl_98 {Q : Bool → lf_Z → Prop} (hJ : gc_J J s) (hW : mn_W J) (hS : rc_S s.1 f) (hH : rc_H s.1 H)
    (k0 : ¬ sd_ok J f a b → Q false s) (k : sd_ok J f a b → ∀ t : lf_Z, mc_f s t → rc_S t.1 (ds_u1 f (12 + 2 * a + 1) b) → rc_H t.1 (rr_K (J 1 2, J 1 1, f) H) → Q true t) : fw_98 a b Q s := by
  have w2 := hW.2.2.1
  unfold fw_98
  refine fl_99 ⟨fun z => k0 (fun q => ?_), fun z => fl_15 ⟨fun z2 => k0 (fun q => ?_), fun z2 _ => ?_⟩⟩
  · rw [hJ 1 (by omega), decide_eq_true q.1.1, decide_eq_true q.1.2] at z; cases z
  · have := q.2.1
    rw [hJ 1 (by omega), decide_eq_true this.1, decide_eq_true (show b ≤ J 1 0 - 1 by omega)] at z2; cases z2
  · rw [Bool.and_eq_true, decide_eq_true_eq, decide_eq_true_eq, hJ 1 (by omega)] at z
    rw [Bool.and_eq_true, decide_eq_true_eq, decide_eq_true_eq, hJ 1 (by omega)] at z2
    rw [(hS.2.1 a z.1 (by omega)).2, hJ 1 (by omega)]
    intro _ _
    refine ⟨fun c => ?_, fun c => k0 (fun q => c q.2.2)⟩
    refine fl_67 (w := J 1 1) hS hH (fun t tf tH => ?_)
    exact k ⟨z, ⟨z2.1, by omega⟩, c⟩ _ (mc_ft (mc_k tf) (mc_g (rc_gu rc_gr (by omega)))) (rc_20 (rc_Sf hS tf) z.1 (by omega)) (rc_Hv tH (mv_g (rc_gu rc_gr (by omega))))
theorem gr_se {v : Int} (hS : rr_S n1 (J 1 2) f A) (p0 : 0 ≤ p) (p1 : p < J 1 2) (h16 : n1 ≤ 16) (h6 : J 1 2 ≤ 6) (eB : ∀ j : Int, j ≠ 126 + 6 * p + 4 → B j = A j) (e4 : B (126 + 6 * p + 4) = v) : rr_S n1 (J 1 2) (ds_u1 f (12 + 2 * p + 1) v) B := by
  obtain ⟨s1, s2, s3, s4, s5, s6⟩ := hS
  have e : ∀ j : Int, j ≠ 12 + 2 * p + 1 → ds_u1 f (12 + 2 * p + 1) v j = f j := fun j hj => if_neg hj
  refine ⟨?_, ?_, fun b b0 b1 => ?_, fun q q0 q1 => ⟨?_, ?_⟩, fun q q0 q1 => ?_, fun w w0 w1 => ?_⟩
  · rw [eB 3 (by omega), e 37 (by omega)]; exact s1
  · rw [eB 6 (by omega), e 38 (by omega)]; exact s2
  · rw [eB (114 + 3 * b) (by omega), eB (114 + 3 * b + 1) (by omega), eB (114 + 3 * b + 2) (by omega), e (3 * b) (by omega), e (3 * b + 1) (by omega), e (3 * b + 2) (by omega)]; exact s3 b b0 b1
  · rw [eB (126 + 6 * q + 3) (by omega), e (12 + 2 * q) (by omega)]; exact (s4 q q0 q1).1
  · by_cases y : q = p
    · rw [y]; exact e4.trans (if_pos rfl).symm
    · rw [eB (126 + 6 * q + 4) (by omega), e (12 + 2 * q + 1) (by omega)]; exact (s4 q q0 q1).2
  · rw [eB (14 + 3 * q + 2) (by omega), e (24 + q) (by omega)]; exact s5 q q0 q1
  · rw [eB (50 + 4 * w + 3) (by omega), e 36 (by omega)]; exact s6 w w0 w1
theorem fl_248 {Q : Bool → lf_Z → Prop} (hL : rr_L J (s.1 96)) (hW : mn_W J) (hS : rr_S (J 1 1) (J 1 2) f (s.1 96)) (hG : gp_J J f) (hH : rh_H (s.1 96) H) (hh : mi_H J H)
    (k0 : ¬ sd_ok J f a b → Q false s) (k : sd_ok J f a b → ∀ t : lf_Z, mr_f s t → rr_S (J 1 1) (J 1 2) (ds_u1 f (12 + 2 * a + 1) b) (t.1 96) → rh_H (t.1 96) (rr_K (J 1 2, J 1 1, f) H) → Q true t) : fw_248 a b Q s := by
  have w0 := hW.1
  have w1 := hW.2.1
  have w2 := hW.2.2.1
  unfold fw_248 fw_249
  rw [hL.2.2.1]
  have p21 : (0 ≤ a ∧ a < J 1 2) → (-1 ≤ b ∧ b < J 1 0) → fw_248_p21 Q a b s := by
    intro ha hb
    unfold fw_248_p21
    refine fl_239b ?_
    rw [(hS.2.2.2.1 a ha.1 ha.2).2]
    intro _ _
    refine ⟨fun c => ?_, fun c => k0 (fun q => c q.2.2)⟩
    refine fl_244j hL hW hS hH hh (fun t tf tr tS tH te => fl_191e ?_)
    have e : ∀ j : Int, j ≠ 126 + 6 * a + 4 → ((lf_up t.1 96 (126 + 6 * a + 4) b, t.2.1, t.2.2) : lf_Z).1 96 j = t.1 96 j := fun j hj => zu_i hj
    refine k ⟨ha, hb, c⟩ _ (mr_ft tf (mr_m (rm_u (Or.inr (Or.inr (Or.inr (Or.inl ⟨by omega, by omega, by omega⟩))))))) (gr_se tS ha.1 ha.2 w1.2 w2.2 e zu_s) (rh_Hr (mi_K hW hG hh) hW tH (e 9 (by omega)) (fun i i0 => e i (by omega)))
  refine fl_183 ⟨fun z => k0 (fun q => ?_), fun z _ => ?_⟩
  · have := q.1
    rw [decide_eq_true this.1, decide_eq_true (show a ≤ J 1 2 - 1 by omega)] at z; cases z
  · rw [Bool.and_eq_true, decide_eq_true_eq, decide_eq_true_eq] at z
    refine ⟨fun c => p21 ⟨z.1, by omega⟩ (by omega), fun c => ?_⟩
    unfold fw_185
    rw [hL.1]
    refine fl_183 ⟨fun z2 => k0 (fun q => ?_), fun z2 => ?_⟩
    · have := q.2.1
      rw [decide_eq_true (show 0 ≤ b by omega), decide_eq_true (show b ≤ J 1 0 - 1 by omega)] at z2; cases z2
    · rw [Bool.and_eq_true, decide_eq_true_eq, decide_eq_true_eq] at z2
      exact p21 ⟨z.1, by omega⟩ (by omega)
theorem sd_J (hW : mn_W J) (h : gp_J J f) (ok : sd_ok J f a b) : gp_J J (ds_u1 f (12 + 2 * a + 1) b) := by
  have w2 := hW.2.2.1
  obtain ⟨⟨h1, h2, h3, h4⟩, h5, h6⟩ := h
  obtain ⟨ha, hb, _⟩ := ok
  have e : ∀ j : Int, j ≠ 12 + 2 * a + 1 → ds_u1 f (12 + 2 * a + 1) b j = f j := fun j hj => if_neg hj
  have e1 : ds_u1 f (12 + 2 * a + 1) b (12 + 2 * a + 1) = b := if_pos rfl
  generalize ds_u1 f (12 + 2 * a + 1) b = g at *
  refine ⟨⟨fun q q0 q1 => ?_, fun q q0 q1 => ?_, ?_, ?_⟩, ⟨fun q q0 q1 => ?_, fun q q0 q1 => ?_⟩, ?_⟩
  · rw [e (12 + 2 * q) (by omega)]
    refine ⟨(h1 q q0 q1).1, ?_⟩
    by_cases y : q = a
    · rw [y, e1]; exact hb
    · rw [e (12 + 2 * q + 1) (by omega)]; exact (h1 q q0 q1).2
  · unfold gp_b
    rw [e (3 * q) (by omega), e (3 * q + 1) (by omega), e (3 * q + 2) (by omega)]; exact h2 q q0 q1
  · rw [e 0 (by omega), e 3 (by omega), e 6 (by omega), e 9 (by omega)]; exact h3
  · rw [e 38 (by omega)]; exact h4
  · rw [e (24 + q) (by omega)]; exact h5.1 q q0 q1
  · rw [e 36 (by omega)]; exact h5.2 q q0 q1
  · rw [e 37 (by omega)]; exact h6
end SG
