/-! people go on: the class -/
section GC
variable {J : Nat → Int → Int} {s t : lf_Z} {f : Int → Int} {a b p : Int}
/-- the land's cells are J's -/
def gc_J (J : Nat → Int → Int) (s : lf_Z) : Prop := ∀ c : Nat, (1 ≤ c ∧ c < 14) → s.1 c = J c
theorem gc_Jg (h : gc_J J s) (g : rc_g s t) : gc_J J t := fun c hc => (g.1 c (Or.inl (by omega))).trans (h c hc)
theorem fl_18 {Q : Bool → lf_Z → Prop} (h : Q (decide (0 ≤ a) && decide (a < s.1 1 0)) s) : fw_18 a Q s := by
  unfold fw_18
  intro _
  refine ⟨fun c => ?_, fun c _ => ⟨fun d => ?_, fun d => ?_⟩⟩
  · rw [decide_eq_false (show ¬ 0 ≤ a by omega)] at h; exact h
  · rw [decide_eq_false (show ¬ a < s.1 1 0 by omega), Bool.and_false] at h; exact h
  · rw [decide_eq_true (show 0 ≤ a by omega), decide_eq_true (show a < s.1 1 0 by omega)] at h; exact h
theorem fl_79 {Q : Bool → lf_Z → Prop} (h : Q (decide (0 ≤ a) && decide (a < s.1 1 1)) s) : fw_79 a Q s := by
  unfold fw_79
  intro _
  refine ⟨fun c => ?_, fun c _ => ⟨fun d => ?_, fun d => ?_⟩⟩
  · rw [decide_eq_false (show ¬ 0 ≤ a by omega)] at h; exact h
  · rw [decide_eq_false (show ¬ a < s.1 1 1 by omega), Bool.and_false] at h; exact h
  · rw [decide_eq_true (show 0 ≤ a by omega), decide_eq_true (show a < s.1 1 1 by omega)] at h; exact h
theorem fl_99 {Q : Bool → lf_Z → Prop} (h : Q (decide (0 ≤ a) && decide (a < s.1 1 2)) s) : fw_99 a Q s := by
  unfold fw_99
  intro _
  refine ⟨fun c => ?_, fun c _ => ⟨fun d => ?_, fun d => ?_⟩⟩
  · rw [decide_eq_false (show ¬ 0 ≤ a by omega)] at h; exact h
  · rw [decide_eq_false (show ¬ a < s.1 1 2 by omega), Bool.and_false] at h; exact h
  · rw [decide_eq_true (show 0 ≤ a by omega), decide_eq_true (show a < s.1 1 2 by omega)] at h; exact h
theorem fl_89 {Q : Bool → lf_Z → Prop} (h : Q (decide (0 ≤ a) && decide (a < s.1 1 1) && decide (s.1 6 a = 0)) s) : fw_89 a Q s := by
  unfold fw_89
  intro _
  refine ⟨fun c => ?_, fun c _ => ⟨fun d => ?_, fun d _ _ => ⟨fun e => ?_, fun e => ?_⟩⟩⟩
  · rw [decide_eq_false (show ¬ 0 ≤ a by omega)] at h; exact h
  · rw [decide_eq_false (show ¬ a < s.1 1 1 by omega), Bool.and_false] at h; exact h
  · rw [decide_eq_false e, Bool.and_false] at h; exact h
  · rw [decide_eq_true (show 0 ≤ a by omega), decide_eq_true (show a < s.1 1 1 by omega), decide_eq_true (Classical.not_not.mp e)] at h; exact h
/-- the other side -/
theorem fl_78 {Q : Int → lf_Z → Prop} (h : Q (if 0 ≤ a ∧ a < s.1 1 1 then mn_ac s.1 a b else -1) s) : fw_78 a b Q s := by
  unfold fw_78
  refine fl_79 ⟨fun z _ _ _ => ⟨fun c _ => ⟨fun d => ?_, fun d => ?_⟩, fun c => ?_⟩, fun z => ?_⟩
  · rw [Bool.and_eq_true, decide_eq_true_eq, decide_eq_true_eq] at z
    rw [if_pos z] at h
    unfold mn_ac at h
    rw [if_neg c, if_neg d] at h; exact h
  · rw [Bool.and_eq_true, decide_eq_true_eq, decide_eq_true_eq] at z
    rw [if_pos z] at h
    unfold mn_ac at h
    rw [if_neg c, if_pos (Classical.not_not.mp d)] at h; exact h
  · rw [Bool.and_eq_true, decide_eq_true_eq, decide_eq_true_eq] at z
    rw [if_pos z] at h
    unfold mn_ac at h
    rw [if_pos (Classical.not_not.mp c)] at h; exact h
  · rw [if_neg (fun w => by rw [decide_eq_true w.1, decide_eq_true w.2] at z; cases z)] at h
    exact h
theorem mn_acJ (hJ : gc_J J s) : mn_ac s.1 a b = mn_ac J a b := by
  unfold mn_ac
  rw [hJ 4 (by omega), hJ 5 (by omega)]
theorem fl_76 {Q : Int → lf_Z → Prop} (h : Q (if 0 ≤ a ∧ a < s.1 1 0 then s.1 12 a else 0) s) : fw_76 a Q s := by
  unfold fw_76
  refine fl_18 ⟨fun z => ?_, fun z _ => ?_⟩
  · rw [if_neg (fun w => by rw [decide_eq_true w.1, decide_eq_true w.2] at z; cases z)] at h
    exact h
  · rw [Bool.and_eq_true, decide_eq_true_eq, decide_eq_true_eq] at z
    rw [if_pos z] at h; exact h
theorem fl_77 {Q : Int → lf_Z → Prop} (ha : 0 ≤ a ∧ a < s.1 1 0) (hb : 0 ≤ b) (h : b < s.1 12 a) (k : Q (s.1 11 (a * 4 + b)) s) : fw_77 a b Q s := by
  unfold fw_77
  refine fl_18 ⟨fun z => ?_, fun z _ => ⟨fun c => by omega, fun _ _ _ => ⟨fun _ _ => k, fun c => absurd h c⟩⟩⟩
  rw [decide_eq_true ha.1, decide_eq_true ha.2] at z; cases z
theorem fl_75 {Q : Int → lf_Z → Prop} (ha : 0 ≤ a ∧ a < s.1 1 0) (hb : 0 ≤ b ∧ b < s.1 1 0) (h : Q (s.1 13 (a * 12 + b)) s) : fw_75 a b Q s := by
  unfold fw_75
  refine fl_18 ⟨fun z => ?_, fun _ => fl_18 ⟨fun z => ?_, fun _ _ => h⟩⟩
  · rw [decide_eq_true ha.1, decide_eq_true ha.2] at z; cases z
  · rw [decide_eq_true hb.1, decide_eq_true hb.2] at z; cases z
/-- each place in the count is one way's -/
theorem dm_cnS {P : Nat → Bool} : ∀ (n i : Nat), i < dm_cn P n → ∃ w : Nat, w < n ∧ P w = true ∧ dm_cn P w = i := by
  intro n
  induction n with
  | zero => intro i h; exact absurd h (Nat.not_lt_zero _)
  | succ n ih =>
    intro i h
    have h : i < dm_cn P n + (if P n = true then 1 else 0) := h
    by_cases c : i < dm_cn P n
    · obtain ⟨w, h1, h2, h3⟩ := ih i c
      exact ⟨w, by omega, h2, h3⟩
    · by_cases d : P n = true
      · rw [if_pos d] at h
        exact ⟨n, by omega, d, by omega⟩
      · rw [if_neg d] at h; omega
theorem dm_cnG {P : Nat → Bool} {w n : Nat} (h : w < n) (hP : P w = true) : dm_cn P w < dm_cn P n := by
  induction n with
  | zero => omega
  | succ n ih =>
    show dm_cn P w < dm_cn P n + (if P n = true then 1 else 0)
    by_cases e : w = n
    · subst e; rw [if_pos hP]; omega
    · have := ih (by omega)
      omega
theorem mn_leN {P : Int → Bool} : ∀ (k : Nat) (v : Int), (∀ z, v ≤ z → z < v + k → P z = false) → mn_le P k v = -1 := by
  intro k
  induction k with
  | zero => intro v _; rfl
  | succ k ih =>
    intro v h
    show (if P v = true then v else mn_le P k (v + 1)) = -1
    rw [h v (Int.le_refl v) (by omega), if_neg (by decide)]
    exact ih (v + 1) (fun z h1 h2 => h z (by omega) (by omega))
theorem mn_nxN {x y : Int} (h : ∀ z, mn_P J x y z = false) : mn_nx J x y = -1 := mn_leN 12 0 (fun z _ _ => h z)
/-- towards a stretch -/
theorem fl_74 {Q : Int → lf_Z → Prop} (hJ : gc_J J s) (hW : mn_W J) (ha : 0 ≤ a ∧ a < J 1 0) (hb : 0 ≤ b ∧ b < J 1 0) (k : Q (if 1000 ≤ mn_d J 13 a b then -1 else mn_nx J a b) s) : fw_74 a b Q s := by
  have hW' := hW
  obtain ⟨w0, w1, _, w4, w5, w6, _⟩ := hW
  have e1 : s.1 1 = J 1 := hJ 1 (by omega)
  have e11 : s.1 11 = J 11 := hJ 11 (by omega)
  have e12 : s.1 12 = J 12 := hJ 12 (by omega)
  have e13 : s.1 13 = J 13 := hJ 13 (by omega)
  obtain ⟨c1, c2, c3⟩ := w5 a ha.1 (by omega)
  unfold fw_74
  refine fl_75 (by rw [e1]; exact ha) (by rw [e1]; exact hb) ?_
  rw [e13]
  have hd : J 13 (a * 12 + b) = mn_d J 13 a b := rfl
  rw [hd]
  refine ⟨fun x i u => u = s ∧ 0 ≤ i ∧ (1000 ≤ mn_d J 13 a b → x = -1) ∧ (x = -1 → ∀ w : Nat, (w : Int) < J 1 1 → mn_at J a w = true → (dm_cn (mn_at J a) w : Int) < i → mn_d J 13 (mn_ac J w a) b ≠ mn_d J 13 a b - 1) ∧ (x ≠ -1 → mn_P J a b x = true ∧ ∀ w : Nat, (w : Int) < J 1 1 → mn_at J a w = true → (dm_cn (mn_at J a) w : Int) < i → mn_d J 13 (mn_ac J w a) b = mn_d J 13 a b - 1 → x ≤ mn_ac J w a), ?_, ⟨rfl, Int.le_refl 0, fun _ => rfl, fun _ w _ _ h => by omega, fun h => absurd rfl h⟩⟩
  intro x i u ⟨eu, i0, x0, xN, xY⟩
  rw [eu]
  unfold fw_74_p13
  refine fl_76 ?_
  rw [e1, e12, if_pos ha]
  intro _ _
  refine ⟨fun c => ?_, fun c _ => ⟨fun d => ?_, fun d => ?_⟩⟩
  · by_cases q : 1000 ≤ mn_d J 13 a b
    · rw [if_pos q] at k
      rw [x0 q]; exact k
    · rw [if_neg q] at k
      have all : ∀ w : Nat, (w : Int) < J 1 1 → mn_at J a w = true → (dm_cn (mn_at J a) w : Int) < i := fun w h1 h2 => by
        have := dm_cnG (P := mn_at J a) (w := w) (n := (J 1 1).toNat) (by omega) h2
        omega
      by_cases y : x = -1
      · have : mn_nx J a b = -1 := mn_nxN (fun z => by
          cases hz : mn_P J a b z with
          | false => rfl
          | true =>
            obtain ⟨w, g1, g2, g3, g4⟩ := (mn_PI hW').mp hz
            exact absurd (by rw [g3]; exact g4) (xN y w g1 g2 (all w g1 g2)))
        rw [y, ← this]; exact k
      · obtain ⟨y1, y2⟩ := xY y
        have : mn_nx J a b = x := mn_nxU hW' y1 (fun z hz => by
          obtain ⟨w, g1, g2, g3, g4⟩ := (mn_PI hW').mp hz
          rw [← g3]
          exact y2 w g1 g2 (all w g1 g2) (by rw [g3]; exact g4))
        rw [← this]; exact k
  · rw [if_pos d] at k
    rw [x0 d]; exact k
  · obtain ⟨n, hn⟩ := Int.eq_ofNat_of_zero_le i0
    obtain ⟨w, g1, g2, g3⟩ := dm_cnS (P := mn_at J a) (J 1 1).toNat n (by omega)
    have gw := c3 w (by omega) g2
    rw [g3, ← hn] at gw
    have B := mn_acB hW' (show (w : Int) < J 1 1 by omega) g2
    refine fl_77 (by rw [e1]; exact ha) i0 (by rw [e12]; omega) (fl_78 ?_)
    rw [e11, gw, e1, if_pos ⟨by omega, by omega⟩, mn_acJ hJ]
    refine fl_75 (by rw [e1]; exact ⟨B.1, B.2.1⟩) (by rw [e1]; exact hb) ?_
    rw [e13]
    have hd2 : J 13 (mn_ac J (w : Int) a * 12 + b) = mn_d J 13 (mn_ac J w a) b := rfl
    rw [hd2]
    -- what the next place knows
    have step : ∀ x' : Int, (x' = -1 → x = -1 ∧ mn_d J 13 (mn_ac J w a) b ≠ mn_d J 13 a b - 1) → (x' ≠ -1 → mn_P J a b x' = true ∧ (x ≠ -1 → x' ≤ x) ∧ (mn_d J 13 (mn_ac J w a) b = mn_d J 13 a b - 1 → x' ≤ mn_ac J w a)) → (fun x i u => u = s ∧ 0 ≤ i ∧ (1000 ≤ mn_d J 13 a b → x = -1) ∧ (x = -1 → ∀ w : Nat, (w : Int) < J 1 1 → mn_at J a w = true → (dm_cn (mn_at J a) w : Int) < i → mn_d J 13 (mn_ac J w a) b ≠ mn_d J 13 a b - 1) ∧ (x ≠ -1 → mn_P J a b x = true ∧ ∀ w : Nat, (w : Int) < J 1 1 → mn_at J a w = true → (dm_cn (mn_at J a) w : Int) < i → mn_d J 13 (mn_ac J w a) b = mn_d J 13 a b - 1 → x ≤ mn_ac J w a)) x' (i + 1) s := by
      intro x' h1 h2
      have only : ∀ v : Nat, (v : Int) < J 1 1 → mn_at J a v = true → (dm_cn (mn_at J a) v : Int) < i + 1 → (dm_cn (mn_at J a) v : Int) < i ∨ v = w := by
        intro v v1 v2 v3
        by_cases q : (dm_cn (mn_at J a) v : Int) < i
        · exact Or.inl q
        · right
          have e := c3 v v1 v2
          rw [show (dm_cn (mn_at J a) v : Int) = i by omega, gw] at e
          omega
      refine ⟨rfl, by omega, fun q => absurd q d, fun q v v1 v2 v3 => ?_, fun q => ⟨(h2 q).1, fun v v1 v2 v3 v4 => ?_⟩⟩
      · rcases only v v1 v2 v3 with y | y
        · exact xN (h1 q).1 v v1 v2 y
        · rw [y]; exact (h1 q).2
      · rcases only v v1 v2 v3 with y | y
        · by_cases xx : x = -1
          · exact absurd v4 (xN xx v v1 v2 y)
          · have := (xY xx).2 v v1 v2 y v4
            have := (h2 q).2.1 xx
            omega
        · rw [y] at v4 ⊢
          exact (h2 q).2.2 v4
    intro _ _
    refine ⟨fun y => ?_, fun y _ => ⟨fun z => ?_, fun z _ => ⟨fun z2 => ?_, fun z2 => ?_⟩⟩⟩
    · unfold fw_74_p73
      exact step x (fun q => ⟨q, y⟩) (fun q => ⟨(xY q).1, fun _ => Int.le_refl x, fun v => absurd v y⟩)
    · have y := Classical.not_not.mp y
      unfold fw_74_p70 fw_74_p73
      exact step _ (fun q => by omega) (fun _ => ⟨(mn_PI hW').mpr ⟨w, by omega, g2, rfl, y⟩, fun q => absurd z q, fun _ => Int.le_refl _⟩)
    · unfold fw_74_p73
      exact step x (fun q => absurd q z) (fun _ => ⟨(xY z).1, fun _ => Int.le_refl x, fun _ => z2⟩)
    · have y := Classical.not_not.mp y
      unfold fw_74_p70 fw_74_p73
      exact step _ (fun q => by omega) (fun _ => ⟨(mn_PI hW').mpr ⟨w, by omega, g2, rfl, y⟩, fun _ => by omega, fun _ => Int.le_refl _⟩)
/-- places of people -/
def gc_P (J : Nat → Int → Int) (f : Int → Int) : Prop := ∀ q : Int, 0 ≤ q → q < J 1 2 → (0 ≤ f (12 + 2 * q) ∧ f (12 + 2 * q) < J 1 0) ∧ -1 ≤ f (12 + 2 * q + 1) ∧ f (12 + 2 * q + 1) < J 1 0
theorem gc_19 {v : Int} (hS : rc_S s.1 f) (p0 : 0 ≤ p) (p6 : p < 6) : rc_S (lf_up s.1 19 p v) (ds_u1 f (12 + 2 * p) v) := by
  obtain ⟨s1, s2, s3, s4, s5, s6⟩ := hS
  have e : ∀ j : Int, j ≠ 12 + 2 * p → ds_u1 f (12 + 2 * p) v j = f j := fun j hj => if_neg hj
  refine ⟨fun b b0 b1 => ?_, fun q q0 q1 => ⟨?_, ?_⟩, fun q q0 q1 => ?_, ?_, ?_, ?_⟩
  · rw [lf_up_c (by decide), lf_up_c (by decide), lf_up_c (by decide), e _ (by omega), e _ (by omega), e _ (by omega)]
    exact s1 b b0 b1
  · by_cases y : q = p
    · rw [y, lf_up_s]; exact (if_pos rfl).symm
    · rw [lf_up_i y, e _ (by omega)]; exact (s2 q q0 q1).1
  · rw [lf_up_c (by decide), e _ (by omega)]; exact (s2 q q0 q1).2
  · rw [lf_up_c (by decide), e _ (by omega)]; exact s3 q q0 q1
  · rw [lf_up_c (by decide), e _ (by omega)]; exact s4
  · rw [lf_up_c (by decide), e _ (by omega)]; exact s5
  · rw [lf_up_c (by decide), e _ (by omega)]; exact s6
theorem mn_nxB (hW : mn_W J) {x y : Int} (x0 : 0 ≤ x) (x1 : x < J 1 0) (y0 : 0 ≤ y) (y1 : y < J 1 0) (ne : x ≠ y) (hf : mn_d J 13 x y < 1000) : 0 ≤ mn_nx J x y ∧ mn_nx J x y < J 1 0 := by
  obtain ⟨v, hv⟩ := mn_Pex hW x0 x1 y0 y1 ne hf
  have B : ∀ z, mn_P J x y z = true → 0 ≤ z ∧ z < J 1 0 := fun z hz => by
    obtain ⟨w, g1, g2, g3, _⟩ := (mn_PI hW).mp hz
    have := mn_acB hW g1 g2
    omega
  have key : ∀ (k : Nat) (u : Int), 0 ≤ u → (∃ z, mn_P J x y z = true ∧ u ≤ z ∧ z < u + k) → mn_P J x y (mn_le (mn_P J x y) k u) = true := by
    intro k
    induction k with
    | zero => intro u _ ⟨z, _, h1, h2⟩; omega
    | succ k ih =>
      intro u u0 ⟨z, hz, h1, h2⟩
      show mn_P J x y (if mn_P J x y u = true then u else mn_le (mn_P J x y) k (u + 1)) = true
      by_cases c : mn_P J x y u = true
      · rw [if_pos c]; exact c
      · rw [if_neg c]
        have : u ≠ z := fun q => c (by rw [q]; exact hz)
        exact ih (u + 1) (by omega) ⟨z, hz, by omega, by omega⟩
  have h0 := hW.1
  have bv := B v hv
  exact B _ (key 12 0 (Int.le_refl 0) ⟨v, hv, by omega, by omega⟩)
theorem gc_Pg (hW : mn_W J) (hP : gc_P J f) (p0 : 0 ≤ p) (p1 : p < J 1 2) : gc_P J (mn_go J p f) := by
  unfold mn_go
  by_cases c : f (12 + 2 * p + 1) = -1 ∨ f (12 + 2 * p) = f (12 + 2 * p + 1) ∨ 1000 ≤ mn_d J 13 (f (12 + 2 * p)) (f (12 + 2 * p + 1))
  · rw [if_pos c]; exact hP
  · rw [if_neg c]
    intro q q0 q1
    have h := hP q q0 q1
    have hp := hP p p0 p1
    have e : ∀ j : Int, j ≠ 12 + 2 * p → ds_u1 f (12 + 2 * p) (mn_nx J (f (12 + 2 * p)) (f (12 + 2 * p + 1))) j = f j := fun j hj => if_neg hj
    rw [e (12 + 2 * q + 1) (by omega)]
    refine ⟨?_, h.2⟩
    by_cases y : q = p
    · subst y
      rw [show ds_u1 f (12 + 2 * q) (mn_nx J (f (12 + 2 * q)) (f (12 + 2 * q + 1))) (12 + 2 * q) = mn_nx J (f (12 + 2 * q)) (f (12 + 2 * q + 1)) from if_pos rfl]
      exact mn_nxB hW hp.1.1 hp.1.2 (by omega) hp.2.2 (fun w => c (Or.inr (Or.inl w))) (by omega)
    · rw [e _ (by omega)]; exact h.1
theorem fl_73 {Q : lf_Z → Prop} (hJ : gc_J J s) (hW : mn_W J) (hS : rc_S s.1 f) (hP : gc_P J f) (p0 : 0 ≤ p) (p1 : p < J 1 2) (k : ∀ t : lf_Z, rc_g s t → rc_S t.1 (mn_go J p f) → Q t) : fw_73 p Q s := by
  have h2 := hW.2.2.1
  have a2 := hS.2.1 p p0 (by omega)
  have hp := hP p p0 p1
  unfold fw_73
  rw [a2.1, a2.2]
  unfold mn_go at k
  intro _ _
  refine ⟨fun c => ?_, fun c _ => ⟨fun d => fl_74 hJ hW hp.1 ⟨by omega, hp.2.2⟩ ?_, fun d => ?_⟩⟩
  · rw [if_pos (Or.inl c)] at k
    exact k s rc_gr hS
  · intro _
    by_cases q : 1000 ≤ mn_d J 13 (f (12 + 2 * p)) (f (12 + 2 * p + 1))
    · rw [if_pos q]
      rw [if_pos (Or.inr (Or.inr q))] at k
      exact ⟨fun _ => k s rc_gr hS, fun w => absurd rfl w⟩
    · rw [if_neg q]
      have B := mn_nxB hW hp.1.1 hp.1.2 (show 0 ≤ f (12 + 2 * p + 1) by omega) hp.2.2 (fun w => d w.symm) (by omega)
      rw [if_neg (fun w => by rcases w with w | w | w; exact c w; exact d w.symm; exact q w)] at k
      exact ⟨fun w => by omega, fun _ => k _ (rc_gu rc_gr (by omega)) (gc_19 hS p0 (by omega))⟩
  · rw [if_pos (Or.inr (Or.inl (Classical.not_not.mp d).symm))] at k
    exact k s rc_gr hS
end GC
