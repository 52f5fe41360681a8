/-! people go on: the reference -/
section GR
variable {J : Nat → Int → Int} {s t : lf_Z} {f A B : Int → Int} {a b p x : Int}
def rr_L (J : Nat → Int → Int) (A : Int → Int) : Prop :=
  A 0 = J 1 0 ∧ A 1 = J 1 1 ∧ A 2 = J 1 2 ∧ (∀ q : Int, 0 ≤ q → q < J 1 0 → A (14 + 3 * q) = J 2 q ∧ A (14 + 3 * q + 1) = J 3 q)
  ∧ (∀ w : Int, 0 ≤ w → w < J 1 1 → A (50 + 4 * w) = J 4 w ∧ A (50 + 4 * w + 1) = J 5 w ∧ A (50 + 4 * w + 2) = J 6 w)
  ∧ (∀ q : Int, 0 ≤ q → q < J 1 2 → A (126 + 6 * q + 0) = J 7 q ∧ A (126 + 6 * q + 1) = J 8 q ∧ A (126 + 6 * q + 2) = J 9 q ∧ A (126 + 6 * q + 5) = J 10 q)
/-- yes or no -/
def mn_B (J : Nat → Int → Int) : Prop := (∀ w : Int, J 6 w = 0 ∨ J 6 w = 1) ∧ ∀ q : Int, (J 8 q = 0 ∨ J 8 q = 1) ∧ (J 9 q = 0 ∨ J 9 q = 1)
theorem fl_187 {Q : Int → lf_Z → Prop} (hL : rr_L J (s.1 96)) (a0 : 0 ≤ a) (a1 : a < J 1 1) (h : Q (mn_ac J a b) s) : fw_187 a b Q s := by
  obtain ⟨w1, w2, _⟩ := hL.2.2.2.2.1 a a0 a1
  unfold mn_ac at h
  unfold fw_187
  rw [w1, w2]
  intro _ _ _ _
  refine ⟨fun c _ => ⟨fun d => ?_, fun d => ?_⟩, fun c => ?_⟩
  · rw [if_neg c, if_neg d] at h; exact h
  · rw [if_neg c, if_pos (Classical.not_not.mp d)] at h; exact h
  · rw [if_pos (Classical.not_not.mp c)] at h; exact h
theorem fl_252 {Q : Bool → lf_Z → Prop} (hL : rr_L J (s.1 96)) (a0 : 0 ≤ a) (a1 : a < J 1 1) (h : Q (decide (J 6 a = 1)) s) : fw_252 a Q s := by
  have w3 := (hL.2.2.2.2.1 a a0 a1).2.2
  unfold fw_252
  rw [w3]
  intro _ _
  refine ⟨fun c => ?_, fun c => ?_⟩
  · rw [decide_eq_false c] at h; exact h
  · rw [decide_eq_true (Classical.not_not.mp c)] at h; exact h
def gr_I (n0 : Int) (D : Int → Int) (k : Int) (F : Int → Int) : Prop := ∀ q : Int, 0 ≤ q → q < n0 → D q ≤ F q ∧ F q ≤ 1000 ∧ (D q ≤ k → D q < 1000 → F q = D q)
def gr_V (J : Nat → Int → Int) (ok : Int → Bool) (D : Int → Int) (k w : Int) (F : Int → Int) : Prop := ∀ v : Int, 0 ≤ v → v < w → ok v = true → (D (J 4 v) = k → D (J 5 v) = k + 1 → F (J 5 v) = k + 1) ∧ (D (J 5 v) = k → D (J 4 v) = k + 1 → F (J 4 v) = k + 1)
/-- only less, not below the distance: what is exact stays -/
theorem gr_Id {n0 : Int} {D F G : Int → Int} {k : Int} (h : gr_I n0 D k F) (e : ∀ q : Int, 0 ≤ q → q < n0 → D q ≤ G q ∧ G q ≤ F q) : gr_I n0 D k G := fun q q0 q1 => by
  have a := h q q0 q1
  have b := e q q0 q1
  refine ⟨b.1, by omega, fun c d => ?_⟩
  have := a.2.2 c d
  omega
/-- findFar -/
theorem fl_261 {d : Int → Int → Int} {ok : Int → Bool} {Q : lf_Z → Prop} (hL : rr_L J (s.1 96)) (hW : mn_W J) (hB : mn_B J) (hok : ∀ w : Int, ok w = (decide (b ≠ 0) || decide (J 6 w = 0))) (hM : dm_M (J 1 0) (mn_E J ok (J 1 1)) d) (a0 : 0 ≤ a) (a1 : a < J 1 0)
    (kk : ∀ t : lf_Z, (∀ c : Nat, c ≠ 108 → t.1 c = s.1 c) → t.2 = s.2 → (∀ q : Int, 0 ≤ q → q < J 1 0 → t.1 108 q = d q a) → Q t) : fw_261 a b Q s := by
  obtain ⟨w0, w1, w2, w4, _⟩ := hW
  have hM' := hM
  obtain ⟨m1, m2, m3, m4, m5, m6⟩ := hM
  have wE : ∀ w : Int, 0 ≤ w → w < J 1 1 → ok w = true → d (J 4 w) a ≤ d (J 5 w) a + 1 ∧ d (J 5 w) a ≤ d (J 4 w) a + 1 := by
    intro w x0 x1 x2
    have q := w4 w x0 x1
    have e1 := m5 (J 4 w) (J 5 w) ⟨w, x0, x1, x2, Or.inl ⟨rfl, rfl⟩⟩
    have e2 := m5 (J 5 w) (J 4 w) ⟨w, x0, x1, x2, Or.inr ⟨rfl, rfl⟩⟩
    have t1 := m4 (J 4 w) (J 5 w) a q.1.1 q.1.2 q.2.1.1 q.2.1.2 a0 a1
    have t2 := m4 (J 5 w) (J 4 w) a q.2.1.1 q.2.1.2 q.1.1 q.1.2 a0 a1
    omega
  have p34 : ∀ t : lf_Z, (∀ c : Nat, c ≠ 108 → t.1 c = s.1 c) → t.2 = s.2 → gr_I (J 1 0) (fun q => d q a) 0 (t.1 108) → fw_261_p34L Q b 0 t := by
    intro t tc t2 tI
    refine ⟨fun k t => 0 ≤ k ∧ k ≤ J 1 0 ∧ (∀ c : Nat, c ≠ 108 → t.1 c = s.1 c) ∧ t.2 = s.2 ∧ gr_I (J 1 0) (fun q => d q a) k (t.1 108), ?_, ⟨Int.le_refl 0, w0.1, tc, t2, tI⟩⟩
    intro k t ⟨k0, k1, tc, t2, tI⟩
    have e96 : t.1 96 = s.1 96 := tc 96 (by decide)
    unfold fw_261_p34
    rw [e96, hL.1]
    intro _ _
    refine ⟨fun c => kk t tc t2 (fun q q0 q1 => ?_), fun c => ?_⟩
    · have i := tI q q0 q1
      have b := m2 q a q0 q1 a0 a1
      by_cases f : d q a = 1000
      · have i1 : d q a ≤ t.1 108 q := i.1
        have i2 := i.2.1
        omega
      · have := dm_fin hM' q0 q1 a0 a1 f
        exact i.2.2 (by show d q a ≤ k; omega) (by show d q a < 1000; omega)
    · refine ⟨fun w t => 0 ≤ w ∧ w ≤ J 1 1 ∧ (∀ c : Nat, c ≠ 108 → t.1 c = s.1 c) ∧ t.2 = s.2 ∧ gr_I (J 1 0) (fun q => d q a) k (t.1 108) ∧ gr_V J ok (fun q => d q a) k w (t.1 108), ?_, ⟨Int.le_refl 0, w1.1, tc, t2, tI, fun v v0 v1 => by omega⟩⟩
      intro w t ⟨v0, v1, tc, t2, tI, tV⟩
      have e96 : t.1 96 = s.1 96 := tc 96 (by decide)
      have hL' : rr_L J (t.1 96) := by rw [e96]; exact hL
      unfold fw_261_p47
      rw [e96, hL.2.1]
      intro _ _
      refine ⟨fun c => ⟨by omega, by omega, tc, t2, fun q q0 q1 => ?_⟩, fun c => fl_252 hL' v0 (by omega) ?_⟩
      · have i := tI q q0 q1
        refine ⟨i.1, i.2.1, fun c1 c2 => ?_⟩
        by_cases y : d q a ≤ k
        · exact i.2.2 y c2
        · have c1 : d q a ≤ k + 1 := c1
          have c2 : d q a < 1000 := c2
          have ne : q ≠ a := fun w => by
            subst w
            have := m1 q q0 q1
            omega
          rcases m6 q a q0 q1 a0 a1 ne with w | ⟨u, ⟨g, g0, g1, g2, g3⟩, hu⟩
          · omega
          · have V := tV g g0 (by omega) g2
            show t.1 108 q = d q a
            rcases g3 with ⟨h4, h5⟩ | ⟨h4, h5⟩
            · have := V.2 (by show d (J 5 g) a = k; rw [h5]; omega) (by show d (J 4 g) a = k + 1; rw [h4]; omega)
              rw [h4] at this; omega
            · have := V.1 (by show d (J 4 g) a = k; rw [h4]; omega) (by show d (J 5 g) a = k + 1; rw [h5]; omega)
              rw [h5] at this; omega
      · -- one way
        have skip : ok w = false → (fun w t => 0 ≤ w ∧ w ≤ J 1 1 ∧ (∀ c : Nat, c ≠ 108 → t.1 c = s.1 c) ∧ t.2 = s.2 ∧ gr_I (J 1 0) (fun q => d q a) k (t.1 108) ∧ gr_V J ok (fun q => d q a) k w (t.1 108)) (w + 1) t := fun ho => by
          refine ⟨by omega, by omega, tc, t2, tI, fun v x0 x1 x2 => ?_⟩
          by_cases y : v = w
          · rw [y, ho] at x2; cases x2
          · exact tV v x0 (by omega) x2
        have relax : ok w = true → fw_261_p74 (fun k t => 0 ≤ k ∧ k ≤ J 1 0 ∧ (∀ c : Nat, c ≠ 108 → t.1 c = s.1 c) ∧ t.2 = s.2 ∧ gr_I (J 1 0) (fun q => d q a) k (t.1 108)) (fun w t => 0 ≤ w ∧ w ≤ J 1 1 ∧ (∀ c : Nat, c ≠ 108 → t.1 c = s.1 c) ∧ t.2 = s.2 ∧ gr_I (J 1 0) (fun q => d q a) k (t.1 108) ∧ gr_V J ok (fun q => d q a) k w (t.1 108)) Q b k w t := by
          intro ho
          obtain ⟨y1, y2, _⟩ := hL.2.2.2.2.1 w v0 (by omega)
          have q := w4 w v0 (by omega)
          have E := wE w v0 (by omega) ho
          have iu := tI (J 4 w) q.1.1 q.1.2
          have iv := tI (J 5 w) q.2.1.1 q.2.1.2
          unfold fw_261_p74
          rw [e96, y1, y2]
          intro _ _ _ _ _ _
          -- the second half, from any state in which the first is done
          have half : ∀ u : lf_Z, (∀ c : Nat, c ≠ 108 → u.1 c = s.1 c) → u.2 = s.2 → (∀ q : Int, 0 ≤ q → q < J 1 0 → d q a ≤ u.1 108 q ∧ u.1 108 q ≤ t.1 108 q) → u.1 108 (J 5 w) ≤ t.1 108 (J 4 w) + 1 → fw_261_p139 (fun k t => 0 ≤ k ∧ k ≤ J 1 0 ∧ (∀ c : Nat, c ≠ 108 → t.1 c = s.1 c) ∧ t.2 = s.2 ∧ gr_I (J 1 0) (fun q => d q a) k (t.1 108)) (fun w t => 0 ≤ w ∧ w ≤ J 1 1 ∧ (∀ c : Nat, c ≠ 108 → t.1 c = s.1 c) ∧ t.2 = s.2 ∧ gr_I (J 1 0) (fun q => d q a) k (t.1 108) ∧ gr_V J ok (fun q => d q a) k w (t.1 108)) Q b k w (J 4 w) (J 5 w) u := by
            intro u uc u2 ue u5
            have uI := gr_Id tI ue
            have ju := ue (J 4 w) q.1.1 q.1.2
            have jv := ue (J 5 w) q.2.1.1 q.2.1.2
            have fin : ∀ y : lf_Z, (∀ c : Nat, c ≠ 108 → y.1 c = s.1 c) → y.2 = s.2 → (∀ q : Int, 0 ≤ q → q < J 1 0 → d q a ≤ y.1 108 q ∧ y.1 108 q ≤ u.1 108 q) → y.1 108 (J 4 w) ≤ u.1 108 (J 5 w) + 1 → (fun w t => 0 ≤ w ∧ w ≤ J 1 1 ∧ (∀ c : Nat, c ≠ 108 → t.1 c = s.1 c) ∧ t.2 = s.2 ∧ gr_I (J 1 0) (fun q => d q a) k (t.1 108) ∧ gr_V J ok (fun q => d q a) k w (t.1 108)) (w + 1) y := by
              intro y yc y2 ye y4
              have yI := gr_Id uI ye
              refine ⟨by omega, by omega, yc, y2, yI, fun v x0 x1 x2 => ?_⟩
              have zu := ye (J 4 w) q.1.1 q.1.2
              have zv := ye (J 5 w) q.2.1.1 q.2.1.2
              by_cases e : v = w
              · rw [e]
                refine ⟨fun c1 c2 => ?_, fun c1 c2 => ?_⟩
                · have c1 : d (J 4 w) a = k := c1
                  have c2 : d (J 5 w) a = k + 1 := c2
                  have := iu.2.2 (by show d (J 4 w) a ≤ k; omega) (by show d (J 4 w) a < 1000; omega)
                  have this : t.1 108 (J 4 w) = d (J 4 w) a := this
                  omega
                · have c1 : d (J 5 w) a = k := c1
                  have c2 : d (J 4 w) a = k + 1 := c2
                  have := (uI (J 5 w) q.2.1.1 q.2.1.2).2.2 (by show d (J 5 w) a ≤ k; omega) (by show d (J 5 w) a < 1000; omega)
                  have this : u.1 108 (J 5 w) = d (J 5 w) a := this
                  omega
              · have V := tV v x0 (by omega) x2
                have q' := w4 v x0 (by omega)
                have a4 := ue (J 4 v) q'.1.1 q'.1.2
                have a5 := ue (J 5 v) q'.2.1.1 q'.2.1.2
                have b4 := ye (J 4 v) q'.1.1 q'.1.2
                have b5 := ye (J 5 v) q'.2.1.1 q'.2.1.2
                refine ⟨fun c1 c2 => ?_, fun c1 c2 => ?_⟩
                · have := V.1 c1 c2
                  have c2 : d (J 5 v) a = k + 1 := c2
                  omega
                · have := V.2 c1 c2
                  have c2 : d (J 4 v) a = k + 1 := c2
                  omega
            unfold fw_261_p139
            intro _ _ _ _
            refine ⟨fun c => ?_, fun c => ?_⟩
            · unfold fw_261_p174
              exact fin u uc u2 (fun q q0 q1 => ⟨(ue q q0 q1).1, Int.le_refl _⟩) c
            · unfold fw_261_p174
              refine fin _ (fun c hc => (zu_r hc).trans (uc c hc)) u2 (fun q q0 q1 => ?_) ?_
              · by_cases e : q = J 4 w
                · rw [e]
                  have : ((lf_up u.1 108 (J 4 w) (u.1 108 (J 5 w) + 1), u.2.1, u.2.2) : lf_Z).1 108 (J 4 w) = u.1 108 (J 5 w) + 1 := zu_s
                  rw [this]; omega
                · have : ((lf_up u.1 108 (J 4 w) (u.1 108 (J 5 w) + 1), u.2.1, u.2.2) : lf_Z).1 108 q = u.1 108 q := zu_i e
                  rw [this]
                  exact ⟨(ue q q0 q1).1, Int.le_refl _⟩
              · have : ((lf_up u.1 108 (J 4 w) (u.1 108 (J 5 w) + 1), u.2.1, u.2.2) : lf_Z).1 108 (J 4 w) = u.1 108 (J 5 w) + 1 := zu_s
                rw [this]; exact Int.le_refl _
          refine ⟨fun c => half t tc t2 (fun q q0 q1 => ⟨(tI q q0 q1).1, Int.le_refl _⟩) c, fun c => half _ (fun c hc => (zu_r hc).trans (tc c hc)) t2 (fun q q0 q1 => ?_) ?_⟩
          · by_cases e : q = J 5 w
            · rw [e]
              have : ((lf_up t.1 108 (J 5 w) (t.1 108 (J 4 w) + 1), t.2.1, t.2.2) : lf_Z).1 108 (J 5 w) = t.1 108 (J 4 w) + 1 := zu_s
              have iu1 : d (J 4 w) a ≤ t.1 108 (J 4 w) := iu.1
              rw [this]; omega
            · have : ((lf_up t.1 108 (J 5 w) (t.1 108 (J 4 w) + 1), t.2.1, t.2.2) : lf_Z).1 108 q = t.1 108 q := zu_i e
              rw [this]
              exact ⟨(tI q q0 q1).1, Int.le_refl _⟩
          · have : ((lf_up t.1 108 (J 5 w) (t.1 108 (J 4 w) + 1), t.2.1, t.2.2) : lf_Z).1 108 (J 5 w) = t.1 108 (J 4 w) + 1 := zu_s
            rw [this]; exact Int.le_refl _
        have B6 := hB.1 w
        refine ⟨fun z => relax ?_, fun z _ => ⟨fun z2 => relax ?_, fun z2 => ?_⟩⟩
        · rw [hok w]
          have z := of_decide_eq_false z
          rw [decide_eq_true (show J 6 w = 0 by omega), Bool.or_true]
        · rw [hok w, decide_eq_true z2, Bool.true_or]
        · unfold fw_261_p174
          refine skip ?_
          have z := of_decide_eq_true z
          rw [hok w, decide_eq_false z2, decide_eq_false (show ¬ J 6 w = 0 by omega)]; rfl
  unfold fw_261
  refine ⟨fun k t => 0 ≤ k ∧ k ≤ 12 ∧ (∀ c : Nat, c ≠ 108 → t.1 c = s.1 c) ∧ t.2 = s.2 ∧ ∀ q : Int, 0 ≤ q → q < k → t.1 108 q = if q = a then 0 else 1000, ?_, ⟨Int.le_refl 0, by decide, fun _ _ => rfl, rfl, fun q x y => by omega⟩⟩
  intro k t ⟨k0, k1, tc, t2, tq⟩
  unfold fw_261_p2
  intro _
  have fin : ∀ v : Int, v = (if k = a then 0 else 1000) → k < 12 → fw_261_p25 (fun k t => 0 ≤ k ∧ k ≤ 12 ∧ (∀ c : Nat, c ≠ 108 → t.1 c = s.1 c) ∧ t.2 = s.2 ∧ ∀ q : Int, 0 ≤ q → q < k → t.1 108 q = if q = a then 0 else 1000) Q a b k k v t := by
    intro v hv lt
    unfold fw_261_p25
    intro _
    refine ⟨by omega, by omega, fun c hc => (zu_r hc).trans (tc c hc), t2, fun q q0 q1 => ?_⟩
    by_cases y : q = k
    · rw [y]; exact zu_s.trans hv
    · exact (zu_i y).trans (tq q q0 (by omega))
  refine ⟨fun c => p34 t tc t2 (fun q q0 q1 => ?_), fun c _ => ⟨fun d => fin 1000 (by rw [if_neg d]) (by omega), fun d => fin 0 (by rw [if_pos (Classical.not_not.mp d)]) (by omega)⟩⟩
  rw [tq q q0 (by omega)]
  have b := m2 q a q0 q1 a0 a1
  show d q a ≤ (if q = a then 0 else 1000) ∧ (if q = a then (0 : Int) else 1000) ≤ 1000 ∧ (d q a ≤ 0 → d q a < 1000 → (if q = a then 0 else 1000) = d q a)
  by_cases y : q = a
  · rw [if_pos y, y, m1 a a0 a1]
    exact ⟨Int.le_refl 0, by decide, fun _ _ => rfl⟩
  · rw [if_neg y]
    have := b.2.2 y
    exact ⟨b.2.1, Int.le_refl _, fun c _ => by omega⟩
/-- a stand's cell of a person is told anew -/
theorem gr_at {n1 v : Int} (hS : rr_S n1 (J 1 2) f A) (p0 : 0 ≤ p) (p1 : p < J 1 2) (h16 : n1 ≤ 16) (h6 : J 1 2 ≤ 6) : rr_S n1 (J 1 2) (ds_u1 f (12 + 2 * p) v) (ds_u1 A (126 + 6 * p + 3) v) := by
  obtain ⟨s1, s2, s3, s4, s5, s6⟩ := hS
  have e : ∀ j : Int, j ≠ 12 + 2 * p → ds_u1 f (12 + 2 * p) v j = f j := fun j hj => if_neg hj
  have g : ∀ j : Int, j ≠ 126 + 6 * p + 3 → ds_u1 A (126 + 6 * p + 3) v j = A j := fun j hj => if_neg hj
  refine ⟨?_, ?_, fun b b0 b1 => ?_, fun q q0 q1 => ⟨?_, ?_⟩, fun q q0 q1 => ?_, fun w w0 w1 => ?_⟩
  · rw [g 3 (by omega), e 37 (by omega)]; exact s1
  · rw [g 6 (by omega), e 38 (by omega)]; exact s2
  · rw [g _ (by omega), g _ (by omega), g _ (by omega), e _ (by omega), e _ (by omega), e _ (by omega)]; exact s3 b b0 b1
  · by_cases y : q = p
    · rw [y]; exact (if_pos rfl).trans (if_pos rfl).symm
    · rw [g _ (by omega), e _ (by omega)]; exact (s4 q q0 q1).1
  · rw [g _ (by omega), e _ (by omega)]; exact (s4 q q0 q1).2
  · rw [g _ (by omega), e _ (by omega)]; exact s5 q q0 q1
  · rw [g _ (by omega), e _ (by omega)]; exact s6 w w0 w1
theorem gr_L {i v : Int} (hL : rr_L J A) (hW : mn_W J) (hi : (126 ≤ i ∧ i < 162 ∧ ((i - 126) % 6 = 3 ∨ (i - 126) % 6 = 4)) ∨ (114 ≤ i ∧ i < 126) ∨ i = 3 ∨ i = 6 ∨ (14 ≤ i ∧ i < 50 ∧ (i - 14) % 3 = 2) ∨ (50 ≤ i ∧ i < 114 ∧ (i - 50) % 4 = 3)) : rr_L J (ds_u1 A i v) := by
  obtain ⟨w0, w1, w2, _⟩ := hW
  obtain ⟨l0, l1, l2, l3, l4, l5⟩ := hL
  have g : ∀ j : Int, j ≠ i → ds_u1 A i v j = A j := fun j hj => if_neg hj
  refine ⟨(g 0 (by omega)).trans l0, (g 1 (by omega)).trans l1, (g 2 (by omega)).trans l2, fun q q0 q1 => ?_, fun w x0 x1 => ?_, fun q q0 q1 => ?_⟩
  · rw [g _ (by omega), g _ (by omega)]; exact l3 q q0 q1
  · rw [g _ (by omega), g _ (by omega), g _ (by omega)]; exact l4 w x0 x1
  · rw [g _ (by omega), g _ (by omega), g _ (by omega), g _ (by omega)]; exact l5 q q0 q1
/-- goOn: cells but row 96 are the same -/
theorem fl_262 {n1 : Int} {Q : lf_Z → Prop} (hL : rr_L J (s.1 96)) (hW : mn_W J) (hP : gc_P J f) (hS : rr_S n1 (J 1 2) f (s.1 96)) (h16 : n1 ≤ 16) (p0 : 0 ≤ p) (p1 : p < J 1 2) (hn : f (12 + 2 * p + 1) ≠ -1) (hF : ∀ q : Int, 0 ≤ q → q < J 1 0 → s.1 108 q = mn_d J 13 q (f (12 + 2 * p + 1)))
    (k : ∀ t : lf_Z, rr_f s t → (∀ i : Int, i ≠ 126 + 6 * p + 3 → t.1 96 i = s.1 96 i) → rr_L J (t.1 96) → rr_S n1 (J 1 2) (mn_go J p f) (t.1 96) → Q t) : fw_262 p Q s := by
  have hW' := hW
  obtain ⟨w0, w1, w2, w4, _⟩ := hW
  have hp := hP p p0 p1
  obtain ⟨a3, a4⟩ := hS.2.2.2.1 p p0 p1
  unfold fw_262
  refine fl_239 (fl_239b ?_)
  rw [a3, a4]
  unfold mn_go at k
  intro _ _
  refine ⟨fun c => ?_, fun c _ _ => ?_⟩
  · rw [if_pos (Or.inr (Or.inl c))] at k
    exact k s rr_fr (fun _ _ => rfl) hL hS
  · rw [hF _ hp.1.1 hp.1.2]
    refine ⟨fun d => ?_, fun d => ?_⟩
    rotate_left
    · rw [if_pos (Or.inr (Or.inr (by omega)))] at k
      exact k s rr_fr (fun _ _ => rfl) hL hS
    rw [if_neg (fun w => by rcases w with w | w | w; exact hn w; exact c w; omega)] at k
    generalize hx : f (12 + 2 * p) = x at *
    generalize ht : f (12 + 2 * p + 1) = y at *
    have ne : x ≠ y := c
    obtain ⟨v, hv⟩ := mn_Pex hW' hp.1.1 hp.1.2 (by omega) hp.2.2 ne d
    refine ⟨fun z w u => u = s ∧ 0 ≤ w ∧ w ≤ J 1 1 ∧ (z = 12 → ∀ g : Nat, (g : Int) < w → mn_at J x g = true → mn_d J 13 (mn_ac J g x) y ≠ mn_d J 13 x y - 1) ∧ (z ≠ 12 → mn_P J x y z = true ∧ ∀ g : Nat, (g : Int) < w → mn_at J x g = true → mn_d J 13 (mn_ac J g x) y = mn_d J 13 x y - 1 → z ≤ mn_ac J g x) ∧ z ≤ 12, ?_, ⟨rfl, Int.le_refl 0, w1.1, fun _ g h => by omega, fun h => absurd rfl h, Int.le_refl 12⟩⟩
    intro z w u ⟨eu, g0, g1, zN, zY, z12⟩
    rw [eu]
    unfold fw_262_p36
    rw [hL.2.1]
    intro _ _
    refine ⟨fun e => ?_, fun e => fl_187 hL g0 (by omega) ?_⟩
    · have hw : w = J 1 1 := by omega
      subst hw
      have zz : z = mn_nx J x y := by
        by_cases q : z = 12
        · obtain ⟨g, h1, h2, h3, h4⟩ := (mn_PI hW').mp hv
          exact absurd (by rw [h3]; exact h4) (zN q g h1 h2)
        · obtain ⟨z1, z2⟩ := zY q
          exact (mn_nxU hW' z1 (fun r hr => by
            obtain ⟨g, h1, h2, h3, h4⟩ := (mn_PI hW').mp hr
            rw [← h3]
            exact z2 g h1 h2 (by rw [h3]; exact h4))).symm
      refine fl_191d (k _ (rr_fu rr_fr) (fun i hi => zu_i hi) ?_ ?_)
      · have : ((lf_up s.1 96 (126 + 6 * p + 3) z, s.2.1, s.2.2) : lf_Z).1 96 = ds_u1 (s.1 96) (126 + 6 * p + 3) z := (tp_row : lf_up s.1 96 (126 + 6 * p + 3) z 96 = ds_u1 (s.1 96) (126 + 6 * p + 3) z)
        rw [this]
        exact gr_L hL hW' (Or.inl ⟨by omega, by omega, by omega⟩)
      · have : ((lf_up s.1 96 (126 + 6 * p + 3) z, s.2.1, s.2.2) : lf_Z).1 96 = ds_u1 (s.1 96) (126 + 6 * p + 3) z := (tp_row : lf_up s.1 96 (126 + 6 * p + 3) z 96 = ds_u1 (s.1 96) (126 + 6 * p + 3) z)
        rw [this, ← zz]
        exact gr_at hS p0 p1 h16 w2.2
    · obtain ⟨g, rfl⟩ := Int.eq_ofNat_of_zero_le g0
      have q4 := w4 g (by omega) (by omega)
      have only : ∀ r : Nat, (r : Int) < (g : Int) + 1 → (r : Int) < g ∨ r = g := fun r hr => by omega
      have atI : mn_at J x g = true ↔ 0 ≤ mn_ac J g x := by
        rw [mn_atE]
        unfold mn_ac
        (repeat' split) <;> omega
      intro _
      have keep : ∀ z' : Int, z' = z → (mn_at J x g = true → mn_d J 13 (mn_ac J g x) y = mn_d J 13 x y - 1 → z ≠ 12 ∧ z ≤ mn_ac J g x) → (fun z w u => u = s ∧ 0 ≤ w ∧ w ≤ J 1 1 ∧ (z = 12 → ∀ g : Nat, (g : Int) < w → mn_at J x g = true → mn_d J 13 (mn_ac J g x) y ≠ mn_d J 13 x y - 1) ∧ (z ≠ 12 → mn_P J x y z = true ∧ ∀ g : Nat, (g : Int) < w → mn_at J x g = true → mn_d J 13 (mn_ac J g x) y = mn_d J 13 x y - 1 → z ≤ mn_ac J g x) ∧ z ≤ 12) z' ((g : Int) + 1) s := by
        intro z' ez hz
        rw [ez]
        refine ⟨rfl, by omega, by omega, fun q r r1 r2 r3 => ?_, fun q => ⟨(zY q).1, fun r r1 r2 r3 => ?_⟩, z12⟩
        · rcases only r r1 with y1 | y1
          · exact zN q r y1 r2 r3
          · rw [y1] at r2 r3
            exact (hz r2 r3).1 q
        · rcases only r r1 with y1 | y1
          · exact (zY q).2 r y1 r2 r3
          · rw [y1] at r2 r3 ⊢
            exact (hz r2 r3).2
      refine ⟨fun e1 => ?_, fun e1 _ _ => ?_⟩
      · unfold fw_262_p88
        exact keep z rfl (fun h1 _ => by have := atI.mp h1; omega)
      · have ha := atI.mpr (by omega)
        have B := mn_acB hW' (show (g : Int) < J 1 1 by omega) ha
        rw [hF _ B.1 B.2.1, hF _ hp.1.1 hp.1.2]
        intro _ _
        refine ⟨fun e2 => ?_, fun e2 _ => ⟨fun e3 => ?_, fun e3 => ?_⟩⟩
        · unfold fw_262_p88
          exact keep z rfl (fun _ h2 => absurd h2 e2)
        · unfold fw_262_p88
          exact keep z rfl (fun _ _ => ⟨fun q => by omega, e3⟩)
        · have e2 := Classical.not_not.mp e2
          unfold fw_262_p88
          refine ⟨rfl, by omega, by omega, fun q => by omega, fun _ => ⟨(mn_PI hW').mpr ⟨g, by omega, ha, rfl, e2⟩, fun r r1 r2 r3 => ?_⟩, by omega⟩
          rcases only r r1 with y1 | y1
          · by_cases q : z = 12
            · exact absurd r3 (zN q r y1 r2)
            · have := (zY q).2 r y1 r2 r3
              omega
          · rw [y1]; exact Int.le_refl _
end GR
