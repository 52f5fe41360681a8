/-! a move, pace: the reference -/
section RM
variable {J : Nat → Int → Int} {s t u : lf_Z} {f g T A B : Int → Int} {X : mn_X} {a b p x n1 n2 : Int}
theorem fl_242 {Q : Int → lf_Z → Prop} (h : Q (s.1 96 (114 + 3 * a)) s) : fw_242 a Q s := by unfold fw_242; exact fun _ => h
theorem fl_255 {Q : Int → lf_Z → Prop} (h : Q (s.1 96 (114 + 3 * a + 1)) s) : fw_255 a Q s := by unfold fw_255; exact fun _ => h
theorem fl_256 {Q : Int → lf_Z → Prop} (h : Q (s.1 96 (114 + 3 * a + 2)) s) : fw_256 a Q s := by unfold fw_256; exact fun _ => h
theorem fl_277 {Q : Int → lf_Z → Prop} (h : Q (s.1 96 (14 + 3 * a + 1)) s) : fw_277 a Q s := by unfold fw_277; exact fun _ => h
theorem fl_239d {Q : Int → lf_Z → Prop} (h : Q (s.1 96 (126 + 6 * a + 1)) s) : fw_239d a Q s := by unfold fw_239d; exact fun _ => h
/-- where the row has the stand -/
def rm_p (i : Int) : Prop := i = 3 ∨ i = 6 ∨ (114 ≤ i ∧ i < 126) ∨ (126 ≤ i ∧ i < 162 ∧ ((i - 126) % 6 = 3 ∨ (i - 126) % 6 = 4)) ∨ (14 ≤ i ∧ i < 50 ∧ (i - 14) % 3 = 2)
/-- nothing but the stand and the laws' scratch -/
def rm_f (s t : lf_Z) : Prop := (∀ c : Nat, c ≠ 96 → c ≠ 104 → c ≠ 107 → c ≠ 108 → t.1 c = s.1 c) ∧ (∀ i : Int, ¬ rm_p i → t.1 96 i = s.1 96 i) ∧ t.2.2 = s.2.2
theorem rm_fr : rm_f s s := ⟨fun _ _ _ _ _ => rfl, fun _ _ => rfl, rfl⟩
theorem rm_ft (h : rm_f s t) (g : rm_f t u) : rm_f s u := ⟨fun c a b d e => (g.1 c a b d e).trans (h.1 c a b d e), fun i hi => (g.2.1 i hi).trans (h.2.1 i hi), g.2.2.trans h.2.2⟩
theorem rm_k (h : tr_f s t) : rm_f s t := ⟨fun c _ b d _ => h.1 c b d, fun i _ => by rw [h.1 96 (by decide) (by decide)], h.2.1⟩
theorem rm_u {i v : Int} (hi : rm_p i) : rm_f s (lf_up s.1 96 i v, s.2.1, s.2.2) := ⟨fun c a _ _ _ => zu_r a, fun j hj => zu_i (fun q => hj (by rw [q]; exact hi)), rfl⟩
theorem rm_L (hL : rr_L J (s.1 96)) (hW : mn_W J) (h : rm_f s t) : rr_L J (t.1 96) := by
  obtain ⟨w0, w1, w2, _⟩ := hW
  obtain ⟨l0, l1, l2, l3, l4, l5⟩ := hL
  have g : ∀ j : Int, ¬ rm_p j → t.1 96 j = s.1 96 j := h.2.1
  refine ⟨(g 0 (by unfold rm_p; omega)).trans l0, (g 1 (by unfold rm_p; omega)).trans l1, (g 2 (by unfold rm_p; omega)).trans l2, fun q q0 q1 => ?_, fun w x0 x1 => ?_, fun q q0 q1 => ?_⟩
  · rw [g (14 + 3 * q) (by unfold rm_p; omega), g (14 + 3 * q + 1) (by unfold rm_p; omega)]; exact l3 q q0 q1
  · rw [g (50 + 4 * w) (by unfold rm_p; omega), g (50 + 4 * w + 1) (by unfold rm_p; omega), g (50 + 4 * w + 2) (by unfold rm_p; omega)]; exact l4 w x0 x1
  · rw [g (126 + 6 * q + 0) (by unfold rm_p; omega), g (126 + 6 * q + 1) (by unfold rm_p; omega), g (126 + 6 * q + 2) (by unfold rm_p; omega), g (126 + 6 * q + 5) (by unfold rm_p; omega)]; exact l5 q q0 q1
/-- a bunch's cells are told anew -/
theorem rm_S (hS : rr_S n1 n2 f A) (h16 : n1 ≤ 16) (h6 : n2 ≤ 6) (b0 : 0 ≤ b) (b1 : b < 4) (eg : ∀ j : Int, ¬ (3 * b ≤ j ∧ j ≤ 3 * b + 2) → g j = f j) (eB : ∀ j : Int, ¬ (114 + 3 * b ≤ j ∧ j ≤ 114 + 3 * b + 2) → B j = A j) (h0 : B (114 + 3 * b) = g (3 * b)) (h1 : g (3 * b) ≠ 0 → B (114 + 3 * b + 1) = g (3 * b + 1) ∧ B (114 + 3 * b + 2) = g (3 * b + 2)) : rr_S n1 n2 g B := by
  obtain ⟨s1, s2, s3, s4, s5, s6⟩ := hS
  refine ⟨?_, ?_, fun q q0 q1 => ?_, fun q q0 q1 => ?_, fun q q0 q1 => ?_, fun w w0 w1 => ?_⟩
  · rw [eB 3 (by omega), eg 37 (by omega)]; exact s1
  · rw [eB 6 (by omega), eg 38 (by omega)]; exact s2
  · by_cases y : q = b
    · rw [y]; exact ⟨h0, h1⟩
    · rw [eB (114 + 3 * q) (by omega), eB (114 + 3 * q + 1) (by omega), eB (114 + 3 * q + 2) (by omega), eg (3 * q) (by omega), eg (3 * q + 1) (by omega), eg (3 * q + 2) (by omega)]; exact s3 q q0 q1
  · rw [eB (126 + 6 * q + 3) (by omega), eB (126 + 6 * q + 4) (by omega), eg (12 + 2 * q) (by omega), eg (12 + 2 * q + 1) (by omega)]; exact s4 q q0 q1
  · rw [eB (14 + 3 * q + 2) (by omega), eg (24 + q) (by omega)]; exact s5 q q0 q1
  · rw [eB (50 + 4 * w + 3) (by omega), eg 36 (by omega)]; exact s6 w w0 w1
/-- X, the minute -/
theorem rm_38 {v : Int} (hS : rr_S n1 n2 f A) (h16 : n1 ≤ 16) (h6 : n2 ≤ 6) (eB : ∀ j : Int, j ≠ 6 → B j = A j) (h : B 6 = v) : rr_S n1 n2 (ds_u1 f 38 v) B := by
  obtain ⟨s1, s2, s3, s4, s5, s6⟩ := hS
  have eg : ∀ j : Int, j ≠ 38 → ds_u1 f 38 v j = f j := fun j hj => if_neg hj
  refine ⟨?_, ?_, fun q q0 q1 => ?_, fun q q0 q1 => ?_, fun q q0 q1 => ?_, fun w w0 w1 => ?_⟩
  · rw [eB 3 (by omega), eg 37 (by omega)]; exact s1
  · exact h.trans (if_pos rfl).symm
  · rw [eB (114 + 3 * q) (by omega), eB (114 + 3 * q + 1) (by omega), eB (114 + 3 * q + 2) (by omega), eg (3 * q) (by omega), eg (3 * q + 1) (by omega), eg (3 * q + 2) (by omega)]; exact s3 q q0 q1
  · rw [eB (126 + 6 * q + 3) (by omega), eB (126 + 6 * q + 4) (by omega), eg (12 + 2 * q) (by omega), eg (12 + 2 * q + 1) (by omega)]; exact s4 q q0 q1
  · rw [eB (14 + 3 * q + 2) (by omega), eg (24 + q) (by omega)]; exact s5 q q0 q1
  · rw [eB (50 + 4 * w + 3) (by omega), eg 36 (by omega)]; exact s6 w w0 w1
theorem rm_37 {v : Int} (hS : rr_S n1 n2 f A) (h16 : n1 ≤ 16) (h6 : n2 ≤ 6) (eB : ∀ j : Int, j ≠ 3 → B j = A j) (h : B 3 = v) : rr_S n1 n2 (ds_u1 f 37 v) B := by
  obtain ⟨s1, s2, s3, s4, s5, s6⟩ := hS
  have eg : ∀ j : Int, j ≠ 37 → ds_u1 f 37 v j = f j := fun j hj => if_neg hj
  refine ⟨?_, ?_, fun q q0 q1 => ?_, fun q q0 q1 => ?_, fun q q0 q1 => ?_, fun w w0 w1 => ?_⟩
  · exact h.trans (if_pos rfl).symm
  · rw [eB 6 (by omega), eg 38 (by omega)]; exact s2
  · rw [eB (114 + 3 * q) (by omega), eB (114 + 3 * q + 1) (by omega), eB (114 + 3 * q + 2) (by omega), eg (3 * q) (by omega), eg (3 * q + 1) (by omega), eg (3 * q + 2) (by omega)]; exact s3 q q0 q1
  · rw [eB (126 + 6 * q + 3) (by omega), eB (126 + 6 * q + 4) (by omega), eg (12 + 2 * q) (by omega), eg (12 + 2 * q + 1) (by omega)]; exact s4 q q0 q1
  · rw [eB (14 + 3 * q + 2) (by omega), eg (24 + q) (by omega)]; exact s5 q q0 q1
  · rw [eB (50 + 4 * w + 3) (by omega), eg 36 (by omega)]; exact s6 w w0 w1
/-- harm done at a stretch -/
theorem rm_24 {v : Int} (hS : rr_S n1 n2 f A) (h16 : n1 ≤ 16) (h6 : n2 ≤ 6) (a0 : 0 ≤ a) (a1 : a < 12) (eB : ∀ j : Int, j ≠ 14 + 3 * a + 2 → B j = A j) (h : B (14 + 3 * a + 2) = v) : rr_S n1 n2 (ds_u1 f (24 + a) v) B := by
  obtain ⟨s1, s2, s3, s4, s5, s6⟩ := hS
  have eg : ∀ j : Int, j ≠ 24 + a → ds_u1 f (24 + a) v j = f j := fun j hj => if_neg hj
  refine ⟨?_, ?_, fun q q0 q1 => ?_, fun q q0 q1 => ?_, fun q q0 q1 => ?_, fun w w0 w1 => ?_⟩
  · rw [eB 3 (by omega), eg 37 (by omega)]; exact s1
  · rw [eB 6 (by omega), eg 38 (by omega)]; exact s2
  · rw [eB (114 + 3 * q) (by omega), eB (114 + 3 * q + 1) (by omega), eB (114 + 3 * q + 2) (by omega), eg (3 * q) (by omega), eg (3 * q + 1) (by omega), eg (3 * q + 2) (by omega)]; exact s3 q q0 q1
  · rw [eB (126 + 6 * q + 3) (by omega), eB (126 + 6 * q + 4) (by omega), eg (12 + 2 * q) (by omega), eg (12 + 2 * q + 1) (by omega)]; exact s4 q q0 q1
  · by_cases y : q = a
    · rw [y]; exact h.trans (if_pos rfl).symm
    · rw [eB (14 + 3 * q + 2) (by omega), eg (24 + q) (by omega)]; exact s5 q q0 q1
  · rw [eB (50 + 4 * w + 3) (by omega), eg 36 (by omega)]; exact s6 w w0 w1
theorem fl_275 {Q : Int → lf_Z → Prop} (hS : rr_S n1 n2 f (s.1 96)) (h16 : n1 ≤ 16) (h6 : n2 ≤ 6) (k : ∀ t : lf_Z, rm_f s t → rr_S n1 n2 (ds_u1 f 38 (mn_an (f 38))) (t.1 96) → Q ((f 38).tmod 10) t) : fw_275 10 Q s := by
  unfold fw_275 fw_276
  rw [hS.2.1]
  intro _ _ _ _
  exact k _ (rm_u (Or.inr (Or.inl rfl))) (rm_38 hS h16 h6 (fun j hj => zu_i hj) zu_s)
theorem fl_247 {z v w : Int} {Q : lf_Z → Prop} (k : ∀ t : lf_Z, (∀ c : Nat, c ≠ 96 → t.1 c = s.1 c) → t.2 = s.2 → (∀ j : Int, ¬ (114 + 3 * a ≤ j ∧ j ≤ 114 + 3 * a + 2) → t.1 96 j = s.1 96 j) → t.1 96 (114 + 3 * a) = z → t.1 96 (114 + 3 * a + 1) = v → t.1 96 (114 + 3 * a + 2) = w → Q t) : fw_247 a z v w Q s := by
  unfold fw_247
  intro _ _ _
  exact k _ (fun c hc => (zu_r hc).trans ((lf_up_row hc).trans (lf_up_row hc))) rfl (fun j hj => (zu_i (by omega)).trans ((lf_up_i (by omega)).trans (lf_up_i (by omega)))) ((zu_i (by omega)).trans ((lf_up_i (by omega)).trans lf_up_s)) ((zu_i (by omega)).trans lf_up_s) zu_s
/-- the reference's scratch for laws that are asked about is off -/
def rm_0 (T : Int → Int) (s : lf_Z) : Prop := s.1 98 = T ∧ s.1 95 29 = 0 ∧ s.1 95 31 = 0 ∧ 0 ≤ s.1 95 30 ∧ s.1 95 30 ≤ 9
theorem rm_0k (h : rm_0 T s) (g : rm_f s t) : rm_0 T t := by
  unfold rm_0 at h ⊢
  rw [g.1 98 (by decide) (by decide) (by decide) (by decide), g.1 95 (by decide) (by decide) (by decide) (by decide)]
  exact h
theorem xr_Xk (hX : xr_X X T (s.1 96 8)) (g : rm_f s t) : xr_X X T (t.1 96 8) := by
  rw [g.2.1 8 (by unfold rm_p; omega)]; exact hX
/-- a move -/
theorem fl_272 {Q : lf_Z → Prop} (hL : rr_L J (s.1 96)) (hW : mn_W J) (hB : mn_B J) (hV : mn_V J) (hS : rr_S (J 1 1) (J 1 2) f (s.1 96)) (hX : xr_X X T (s.1 96 8)) (h0 : rm_0 T s) (b0 : 0 ≤ b) (b1 : b < 4) (hz : f (3 * b) ≠ 0) (hzz : 0 ≤ f (3 * b) ∧ f (3 * b) ≤ 24) (hp : 0 ≤ f (3 * b + 1) ∧ f (3 * b + 1) < J 1 0)
    (k : ∀ t : lf_Z, rm_f s t → rr_S (J 1 1) (J 1 2) (mn_m1 J X b f) (t.1 96) → Q t) : fw_272 b Q s := by
  have w1 := hW.2.1
  have w2 := hW.2.2.1
  unfold fw_272
  refine fl_255 ?_
  rw [((hS.2.2.1 b b0 b1).2 hz).1]
  unfold mn_m1 at k
  generalize hs : f (3 * b + 1) = s0 at *
  refine ⟨fun w u => ∃ (n : Nat) (g : Int → Int), w = n ∧ rm_f s u ∧ rr_S (J 1 1) (J 1 2) g (u.1 96) ∧ (n : Int) ≤ J 1 1 ∧ g (3 * b) = f (3 * b) ∧ mn_mv J X b s0 ((J 1 1).toNat - n) n g = mn_mv J X b s0 (J 1 1).toNat 0 f, ?_, ⟨0, f, rfl, rm_fr, hS, w1.1, rfl, rfl⟩⟩
  intro w u ⟨n, g, ew, uf, uS, un, g0, ge⟩
  subst ew
  have uL := rm_L hL hW uf
  have u0 := rm_0k h0 uf
  unfold fw_272_p8
  rw [uL.2.1]
  intro _ _
  refine ⟨fun c => ?_, fun c => fl_242 (fl_256 ?_)⟩
  · rw [show (J 1 1).toNat - n = 0 by omega] at ge
    have ge : g = mn_mv J X b s0 (J 1 1).toNat 0 f := ge
    rw [ge] at uS
    exact k u uf uS
  · rw [show (J 1 1).toNat - n = ((J 1 1).toNat - (n + 1)) + 1 by omega] at ge
    have ge : (if mn_tk J X g (g (3 * b)) s0 (g (3 * b + 2)) n = 0 then mn_mv J X b s0 ((J 1 1).toNat - (n + 1)) (n + 1) g
        else if 10 ≤ mn_tk J X g (g (3 * b)) s0 (g (3 * b + 2)) n then ds_u1 (ds_u1 g (3 * b + 1) (mn_ac J n s0)) (3 * b + 2) s0
        else if (g 38).tmod 10 < mn_tk J X g (g (3 * b)) s0 (g (3 * b + 2)) n then ds_u1 (ds_u1 (ds_u1 g 38 (mn_an (g 38))) (3 * b + 1) (mn_ac J n s0)) (3 * b + 2) s0
        else mn_mv J X b s0 ((J 1 1).toNat - (n + 1)) (n + 1) (ds_u1 g 38 (mn_an (g 38)))) = mn_mv J X b s0 (J 1 1).toNat 0 f := ge
    obtain ⟨d1, d2⟩ := uS.2.2.1 b b0 b1
    have d2 := d2 (by rw [g0]; exact hz)
    rw [d1, d2.2]
    refine fl_273 (f := g) (X := X) (T := T) uL hW hB hV uS (xr_Xk hX uf) u0.1 hp (by omega) (by omega) ⟨u0.2.2.2.1, u0.2.2.2.2⟩ (ng_S hW hB hV hp (by omega) (by omega) (by unfold cm_sm; omega) (by unfold cm_sm; split <;> omega) (by split <;> omega) (by have := u0.2.2.2; split <;> omega)) (fun v y yf hv => ?_)
    have tkE : v = mn_tk J X g (g (3 * b)) s0 (g (3 * b + 2)) n := by
      rw [hv, u0.2.1, u0.2.2.1, bt_t0, bt_t0, bt_t0, if_neg (show ¬ (false = true) by decide), if_neg (show ¬ (false = true) by decide), mn_ngt, show ((n : Int)).toNat = n by omega]
      unfold mn_tk
      by_cases c2 : mn_at J s0 n = false ∨ J 6 (n : Int) ≠ 0 ∨ bt_t (g 36) (n : Int) = true
      · rw [if_pos c2, if_pos (by rcases c2 with q | q | q; exact Or.inl q; exact Or.inr (Or.inl q); exact Or.inr (Or.inr (Or.inl q)))]
      · rw [if_neg c2, if_neg (fun q => by rcases q with q | q | q | q; exact c2 (Or.inl q); exact c2 (Or.inr (Or.inl q)); exact c2 (Or.inr (Or.inr q)); cases q)]
    have yF := rm_ft uf (rm_k yf)
    have yS : rr_S (J 1 1) (J 1 2) g (y.1 96) := by rw [yf.1 96 (by decide) (by decide)]; exact uS
    have take : ∀ (h : Int → Int) (q : lf_Z), rm_f s q → rr_S (J 1 1) (J 1 2) h (q.1 96) → ds_u1 (ds_u1 h (3 * b + 1) (mn_ac J n s0)) (3 * b + 2) s0 = mn_mv J X b s0 (J 1 1).toNat 0 f → fw_272_p62 Q b s0 n q := by
      intro h q qf qS he
      unfold fw_272_p62
      refine fl_242 (fl_187 (rm_L hL hW qf) (by omega) (by omega) (fl_247 (fun t tc t2 tj t0 t1 t2' => ?_)))
      refine k t (rm_ft qf ⟨fun c a _ _ _ => tc c a, fun i hi => tj i (fun q => hi (Or.inr (Or.inr (Or.inl ⟨by omega, by omega⟩)))), by rw [t2]⟩) ?_
      rw [← he]
      exact rm_S qS w1.2 w2.2 b0 b1 (fun j hj => (if_neg (by omega)).trans (if_neg (by omega))) tj (t0.trans ((qS.2.2.1 b b0 b1).1.trans ((if_neg (by omega)).trans (if_neg (by omega))).symm)) (fun _ => ⟨t1.trans ((if_neg (by omega)).trans (if_pos rfl)).symm, t2'.trans (if_pos rfl).symm⟩)
    rw [← tkE] at ge
    intro _
    refine ⟨fun e => ?_, fun e => ⟨fun e2 => ?_, fun e2 => ?_⟩⟩
    · unfold fw_272_p80
      rw [if_pos e] at ge
      exact ⟨n + 1, g, by omega, yF, yS, by omega, g0, ge⟩
    · rw [if_neg e, if_pos e2] at ge
      exact take g y yF yS ge
    · rw [if_neg e, if_neg e2] at ge
      refine fl_275 yS w1.2 w2.2 (fun q qf qS => ?_)
      have qF := rm_ft yF qf
      intro _
      refine ⟨fun e3 => ?_, fun e3 => ?_⟩
      · rw [if_pos e3] at ge
        exact take _ q qF qS ge
      · rw [if_neg e3] at ge
        unfold fw_272_p80
        exact ⟨n + 1, _, by omega, qF, qS, by omega, (if_neg (by omega)).trans g0, ge⟩
/-- pace -/
theorem fl_263 {Q : Int → lf_Z → Prop} (hL : rr_L J (s.1 96)) (hW : mn_W J) (hS : rr_S (J 1 1) (J 1 2) f (s.1 96)) (hX : xr_X X T (s.1 96 8)) (h0 : rm_0 T s) (b0 : 0 ≤ b) (b1 : b < 4) (hz : f (3 * b) ≠ 0) (hp : 0 ≤ f (3 * b + 1) ∧ f (3 * b + 1) < J 1 0) (hc : -1 ≤ f (3 * b + 2) ∧ f (3 * b + 2) < J 1 0) (hNm : cm_nm (mn_np J f b))
    (k : ∀ (v : Int) (t : lf_Z), tr_f s t → v = X.1 (mn_np J f b) → Q v t) : fw_263 b Q s := by
  have w0 := hW.1
  obtain ⟨d1, d2⟩ := hS.2.2.1 b b0 b1
  have d2 := d2 hz
  unfold fw_263
  refine fl_242 (fl_255 ?_)
  rw [d1, d2.1]
  refine fl_264 (n1 := J 1 1) (f := f) hL hW hS hp (fun t tf t2 e0 e1 e2 e3 ei => fl_256 ?_)
  have t96 : t.1 96 = s.1 96 := tf.1 96 (by decide) (by decide)
  have t95 : t.1 95 = s.1 95 := tf.1 95 (by decide) (by decide)
  rw [h0.2.1, bt_t0, if_neg (by decide), Int.add_zero] at e3
  rw [t96, d2.2]
  have p40 : ∀ y : Int, y = (if f (3 * b + 2) < 0 then 0 else mn_he J f (f (3 * b + 2)) (J 1 2).toNat) → fw_263_p40 Q 4 y t := by
    intro y hy
    unfold fw_263_p40
    intro _
    rw [t96]
    obtain ⟨u, hu⟩ : ∃ u : lf_Z, u = (lf_up t.1 104 4 y, t.2.1, t.2.2) := ⟨_, rfl⟩
    rw [← hu]
    have uf : tr_f s u := by rw [hu]; exact tr_104 tf
    have ui : ∀ i : Int, i ≠ 4 → u.1 104 i = t.1 104 i := fun i hi => by rw [hu]; exact zu_i hi
    have u4 : u.1 104 4 = y := by rw [hu]; exact zu_s
    refine hX.1 u _ (mn_np J f b) ((uf.1 98 (by decide) (by decide)).trans h0.1) (fun i i0 i1 => ?_) hNm (fun v w wf hv => k v w (tr_ft uf wf) hv)
    rcases (show i = 0 ∨ i = 1 ∨ i = 2 ∨ i = 3 ∨ i = 4 by omega) with e | e | e | e | e
    · subst e; exact (ui 0 (by decide)).trans e0
    · subst e; exact (ui 1 (by decide)).trans e1
    · subst e; exact (ui 2 (by decide)).trans e2
    · subst e; exact (ui 3 (by decide)).trans e3
    · subst e; exact u4.trans hy
  intro _
  refine ⟨fun c => fl_256 ?_, fun c => p40 0 (by rw [if_pos (by omega)])⟩
  rw [t96, d2.2]
  refine fl_266 (n1 := J 1 1) (f := f) (by rw [t96]; exact hL) hW (by rw [t96]; exact hS) c (by omega) ?_
  rw [t95, h0.2.1, bt_t0, if_neg (by decide), Int.add_zero]
  exact p40 _ (by rw [if_neg (by omega)])
end RM
