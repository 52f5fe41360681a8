/-! image and back: the class -/
section BK
variable {J K : Nat → Int → Int} {F G : Nat → Int → Int} {s t u : lf_Z} {f : Int → Int} {H : List rr_H} {a b i j n : Int}
theorem bk_r {x y c : Nat} {sp dp m : Int} (h : c ≠ y) : lf_cp F x y sp dp m c = F c := by
  funext j
  unfold lf_cp
  rw [if_neg (fun q => h q.1)]
theorem bk_s {x y : Nat} {m : Int} (j0 : 0 ≤ j) (j1 : j < m) : lf_cp F x y 0 0 m y j = F x j := by
  unfold lf_cp
  rw [if_pos ⟨rfl, j0, by omega⟩, show (0 : Int) + (j - 0) = j by omega]
/-- a copy of the stand: cells a .. a + 6 of F are those of b .. b + 6 of G -/
def bk_S (F G : Nat → Int → Int) (x y : Nat) : Prop := (∀ j : Int, 0 ≤ j → j < 4 → F (x + 1) j = G (y + 1) j ∧ F (x + 2) j = G (y + 2) j ∧ F (x + 3) j = G (y + 3) j) ∧ (∀ j : Int, 0 ≤ j → j < 6 → F (x + 4) j = G (y + 4) j ∧ F (x + 5) j = G (y + 5) j) ∧ (∀ j : Int, 0 ≤ j → j < 12 → F (x + 6) j = G (y + 6) j) ∧ F x 6 = G y 6 ∧ F x 7 = G y 7 ∧ F x 8 = G y 8
def bk_T (F G : Nat → Int → Int) (x y : Nat) : Prop := (∀ j : Int, 0 ≤ j → j < 1170 → F (x + 1) j = G (y + 1) j) ∧ (∀ j : Int, 0 ≤ j → j < 30 → F (x + 2) j = G (y + 2) j) ∧ F x 2 = G y 2 ∧ F x 3 = G y 3
/-- the stand and the steps at k cells further -/
def bk_c (k : Nat) (I : Nat → Int → Int) : Nat → Int → Int := fun c => I (c + k)
theorem bk_rS {k m : Nat} (h : rc_S (bk_c m G) f) (e : bk_S F G (15 + k) (15 + m)) : rc_S (bk_c k F) f := by
  obtain ⟨h1, h2, h3, h4, h5, h6⟩ := h
  obtain ⟨e1, e2, e3, e4, e5, e6⟩ := e
  unfold bk_c at *
  refine ⟨fun b b0 b1 => ?_, fun p p0 p1 => ?_, fun q q0 q1 => ?_, ?_, ?_, ?_⟩
  · dsimp only
    have := e1 b b0 b1
    rw [show 15 + k + 1 = 16 + k by omega, show 15 + k + 2 = 17 + k by omega, show 15 + k + 3 = 18 + k by omega, show 15 + m + 1 = 16 + m by omega, show 15 + m + 2 = 17 + m by omega, show 15 + m + 3 = 18 + m by omega] at this
    rw [this.1, this.2.1, this.2.2]; exact h1 b b0 b1
  · dsimp only
    have := e2 p p0 p1
    rw [show 15 + k + 4 = 19 + k by omega, show 15 + k + 5 = 20 + k by omega, show 15 + m + 4 = 19 + m by omega, show 15 + m + 5 = 20 + m by omega] at this
    rw [this.1, this.2]; exact h2 p p0 p1
  · dsimp only
    have := e3 q q0 q1
    rw [show 15 + k + 6 = 21 + k by omega, show 15 + m + 6 = 21 + m by omega] at this
    rw [this]; exact h3 q q0 q1
  · exact e4.trans h4
  · exact e5.trans h5
  · exact e6.trans h6
theorem bk_hs {R R' P P' : Int → Int} {lt : Int} (l0 : 0 ≤ lt) (l1 : lt < 30) (e1 : ∀ j : Int, 0 ≤ j → j < 1170 → R' j = R j) (e2 : ∀ j : Int, 0 ≤ j → j < 30 → P' j = P j) : ∀ (H : List rr_H) (k : Int), 0 ≤ k → k + H.length ≤ 30 → rc_hs R P lt H k → rc_hs R' P' lt H k := by
  intro H
  induction H with
  | nil => intro _ _ _ _; trivial
  | cons h H ih =>
    intro k k0 k1 hh
    rw [List.length_cons] at k1
    have pB : 0 ≤ rc_p lt k ∧ rc_p lt k < 30 := by unfold rc_p; split <;> omega
    refine ⟨⟨(e2 _ pB.1 pB.2).trans hh.1.1, fun j j0 j1 => (e1 _ (by omega) (by omega)).trans (hh.1.2 j j0 j1)⟩, ih (k + 1) (by omega) (by omega) hh.2⟩
theorem bk_rH {k m : Nat} (h : rc_H (bk_c m G) H) (e : bk_T F G (22 + k) (22 + m)) : rc_H (bk_c k F) H := by
  obtain ⟨h1, h2, h3, h4, h5⟩ := h
  obtain ⟨e1, e2, e3, e4⟩ := e
  unfold bk_c at *
  rw [show 22 + k + 1 = 23 + k by omega, show 22 + m + 1 = 23 + m by omega] at e1
  rw [show 22 + k + 2 = 24 + k by omega, show 22 + m + 2 = 24 + m by omega] at e2
  refine ⟨e4.trans h1, h2, by show 0 ≤ F (22 + k) 2; rw [e3]; exact h3, by show F (22 + k) 2 < 30; rw [e3]; exact h4, ?_⟩
  show rc_hs (F (23 + k)) (F (24 + k)) (F (22 + k) 2) H 0
  rw [e3]
  exact bk_hs h3 h4 e1 e2 H 0 (Int.le_refl 0) (by omega) h5
/-- image -/
theorem fl_173 {Q : Int → lf_Z → Prop} (k : ∀ t : lf_Z, (∀ c : Nat, c < 78 → t.1 c = s.1 c) → t.2 = s.2 → (t.1 78 0 = s.1 1 0 ∧ t.1 78 1 = s.1 1 1 ∧ t.1 78 2 = s.1 1 2 ∧ t.1 78 3 = s.1 0 11 ∧ t.1 78 4 = s.1 0 12) → bk_S t.1 s.1 79 15 → bk_T t.1 s.1 86 22 → Q (s.1 15 7) t) : fw_173 Q s := by
  unfold fw_173
  obtain ⟨u, hu⟩ : ∃ u : lf_Z, u = (lf_up (lf_up (lf_up (lf_up (lf_up s.1 78 0 (s.1 1 0)) 78 1 (s.1 1 1)) 78 2 (s.1 1 2)) 78 3 (s.1 0 11)) 78 4 (s.1 0 12), s.2.1, s.2.2) := ⟨_, rfl⟩
  have e1 : ∀ v : Int, (lf_up s.1 78 0 v) 1 1 = s.1 1 1 := fun v => lf_up_c (by decide)
  have uc : ∀ c : Nat, c ≠ 78 → u.1 c = s.1 c := fun c hc => by rw [hu]; exact (zu_r hc).trans ((lf_up_row hc).trans ((lf_up_row hc).trans ((lf_up_row hc).trans (lf_up_row hc))))
  have u0 : u.1 78 0 = s.1 1 0 := by rw [hu]; exact (zu_i (by decide)).trans ((lf_up_i (by decide)).trans ((lf_up_i (by decide)).trans ((lf_up_i (by decide)).trans lf_up_s)))
  have u1 : u.1 78 1 = s.1 1 1 := by rw [hu]; exact (zu_i (by decide)).trans ((lf_up_i (by decide)).trans ((lf_up_i (by decide)).trans lf_up_s))
  have u2 : u.1 78 2 = s.1 1 2 := by rw [hu]; exact (zu_i (by decide)).trans ((lf_up_i (by decide)).trans lf_up_s)
  have u3 : u.1 78 3 = s.1 0 11 := by rw [hu]; exact (zu_i (by decide)).trans lf_up_s
  have u4 : u.1 78 4 = s.1 0 12 := by rw [hu]; exact zu_s
  have uP : u.2 = s.2 := by rw [hu]
  show fw_174 _ (lf_up (lf_up (lf_up (lf_up (lf_up s.1 78 0 (s.1 1 0)) 78 1 (s.1 1 1)) 78 2 (s.1 1 2)) 78 3 (s.1 0 11)) 78 4 (s.1 0 12), s.2.1, s.2.2)
  rw [← hu]
  unfold fw_174
  generalize hV : lf_cp (lf_cp (lf_cp (lf_cp (lf_cp (lf_cp u.1 16 80 0 0 4) 17 81 0 0 4) 18 82 0 0 4) 19 83 0 0 6) 20 84 0 0 6) 21 85 0 0 12 = V
  have vc : ∀ c : Nat, c < 80 ∨ 85 < c → V c = u.1 c := fun c hc => by rw [← hV]; exact (bk_r (by omega)).trans ((bk_r (by omega)).trans ((bk_r (by omega)).trans ((bk_r (by omega)).trans ((bk_r (by omega)).trans (bk_r (by omega))))))
  have v80 : ∀ j : Int, 0 ≤ j → j < 4 → V 80 j = u.1 16 j := fun j j0 j1 => by rw [← hV, bk_r (by decide), bk_r (by decide), bk_r (by decide), bk_r (by decide), bk_r (by decide)]; exact bk_s j0 j1
  have v81 : ∀ j : Int, 0 ≤ j → j < 4 → V 81 j = u.1 17 j := fun j j0 j1 => by rw [← hV, bk_r (by decide), bk_r (by decide), bk_r (by decide), bk_r (by decide)]; exact (bk_s j0 j1).trans (by rw [bk_r (by decide)])
  have v82 : ∀ j : Int, 0 ≤ j → j < 4 → V 82 j = u.1 18 j := fun j j0 j1 => by rw [← hV, bk_r (by decide), bk_r (by decide), bk_r (by decide)]; exact (bk_s j0 j1).trans (by rw [bk_r (by decide), bk_r (by decide)])
  have v83 : ∀ j : Int, 0 ≤ j → j < 6 → V 83 j = u.1 19 j := fun j j0 j1 => by rw [← hV, bk_r (by decide), bk_r (by decide)]; exact (bk_s j0 j1).trans (by rw [bk_r (by decide), bk_r (by decide), bk_r (by decide)])
  have v84 : ∀ j : Int, 0 ≤ j → j < 6 → V 84 j = u.1 20 j := fun j j0 j1 => by rw [← hV, bk_r (by decide)]; exact (bk_s j0 j1).trans (by rw [bk_r (by decide), bk_r (by decide), bk_r (by decide), bk_r (by decide)])
  have v85 : ∀ j : Int, 0 ≤ j → j < 12 → V 85 j = u.1 21 j := fun j j0 j1 => by rw [← hV]; exact (bk_s j0 j1).trans (by rw [bk_r (by decide), bk_r (by decide), bk_r (by decide), bk_r (by decide), bk_r (by decide)])
  unfold fw_175
  dsimp only
  obtain ⟨W, hW⟩ : ∃ W, W = lf_up (lf_up (lf_up V 79 6 (V 15 6)) 79 7 (V 15 7)) 79 8 (V 15 8) := ⟨_, rfl⟩
  have wc : ∀ c : Nat, c ≠ 79 → W c = V c := fun c hc => by rw [hW]; exact (lf_up_row hc).trans ((lf_up_row hc).trans (lf_up_row hc))
  have w6 : W 79 6 = u.1 15 6 := by rw [hW]; exact (lf_up_i (by decide)).trans ((lf_up_i (by decide)).trans (lf_up_s.trans (by rw [vc 15 (by omega)])))
  have w7 : W 79 7 = u.1 15 7 := by rw [hW]; exact (lf_up_i (by decide)).trans (lf_up_s.trans (by rw [vc 15 (by omega)]))
  have w8 : W 79 8 = u.1 15 8 := by rw [hW]; exact lf_up_s.trans (by rw [vc 15 (by omega)])
  rw [← hW]
  generalize hX : lf_cp (lf_cp W 23 87 0 0 1170) 24 88 0 0 30 = X
  have xc : ∀ c : Nat, c ≠ 87 → c ≠ 88 → X c = W c := fun c c1 c2 => by rw [← hX]; exact (bk_r c2).trans (bk_r c1)
  have x87 : ∀ j : Int, 0 ≤ j → j < 1170 → X 87 j = u.1 23 j := fun j j0 j1 => by rw [← hX, bk_r (by decide)]; exact (bk_s j0 j1).trans (by rw [wc 23 (by decide), vc 23 (by omega)])
  have x88 : ∀ j : Int, 0 ≤ j → j < 30 → X 88 j = u.1 24 j := fun j j0 j1 => by rw [← hX]; exact (bk_s j0 j1).trans (by rw [bk_r (by decide), wc 24 (by decide), vc 24 (by omega)])
  unfold fw_176
  dsimp only
  obtain ⟨Y, hY⟩ : ∃ Y, Y = lf_up (lf_up X 86 2 (X 22 2)) 86 3 (X 22 3) := ⟨_, rfl⟩
  have yc : ∀ c : Nat, c ≠ 86 → Y c = X c := fun c hc => by rw [hY]; exact (lf_up_row hc).trans (lf_up_row hc)
  have y2 : Y 86 2 = u.1 22 2 := by rw [hY]; exact (lf_up_i (by decide)).trans (lf_up_s.trans (by rw [xc 22 (by decide) (by decide), wc 22 (by decide), vc 22 (by omega)]))
  have y3 : Y 86 3 = u.1 22 3 := by rw [hY]; exact lf_up_s.trans (by rw [xc 22 (by decide) (by decide), wc 22 (by decide), vc 22 (by omega)])
  rw [← hY]
  generalize hZ : lf_cp (lf_cp (lf_cp (lf_cp (lf_cp Y 26 90 0 0 6) 27 91 0 0 6) 28 92 0 0 16) 29 93 0 0 4) 30 94 0 0 4 = Z
  have zc : ∀ c : Nat, c < 90 → Z c = Y c := fun c hc => by rw [← hZ]; exact (bk_r (by omega)).trans ((bk_r (by omega)).trans ((bk_r (by omega)).trans ((bk_r (by omega)).trans (bk_r (by omega)))))
  have fc : ∀ c : Nat, c < 89 → (lf_up Z 89 2 (Z 25 2)) c = Y c := fun c hc => (lf_up_row (by omega)).trans (zc c (by omega))
  have ec : ∀ c : Nat, c < 78 → (lf_up Z 89 2 (Z 25 2)) c = s.1 c := fun c hc => by rw [fc c (by omega), yc c (by omega), xc c (by omega) (by omega), wc c (by omega), vc c (by omega), uc c (by omega)]
  have e15 : (lf_up Z 89 2 (Z 25 2)) 15 7 = s.1 15 7 := by rw [ec 15 (by omega)]
  have R : ∀ c : Nat, 79 < c → c < 86 → (lf_up Z 89 2 (Z 25 2)) c = V c := fun c c1 c2 => by rw [fc c (by omega), yc c (by omega), xc c (by omega) (by omega), wc c (by omega)]
  rw [e15]
  refine k _ ec uP ?_ ⟨fun j j0 j1 => ⟨?_, ?_, ?_⟩, fun j j0 j1 => ⟨?_, ?_⟩, fun j j0 j1 => ?_, ?_, ?_, ?_⟩ ⟨fun j j0 j1 => ?_, fun j j0 j1 => ?_, ?_, ?_⟩
  · have e : (lf_up Z 89 2 (Z 25 2)) 78 = u.1 78 := by rw [fc 78 (by omega), yc 78 (by omega), xc 78 (by omega) (by omega), wc 78 (by omega), vc 78 (by omega)]
    show (lf_up Z 89 2 (Z 25 2)) 78 0 = _ ∧ (lf_up Z 89 2 (Z 25 2)) 78 1 = _ ∧ (lf_up Z 89 2 (Z 25 2)) 78 2 = _ ∧ (lf_up Z 89 2 (Z 25 2)) 78 3 = _ ∧ (lf_up Z 89 2 (Z 25 2)) 78 4 = _
    rw [e]
    exact ⟨u0, u1, u2, u3, u4⟩
  · exact (congrFun (R 80 (by omega) (by omega)) j).trans ((v80 j j0 j1).trans (by rw [uc 16 (by decide)]))
  · exact (congrFun (R 81 (by omega) (by omega)) j).trans ((v81 j j0 j1).trans (by rw [uc 17 (by decide)]))
  · exact (congrFun (R 82 (by omega) (by omega)) j).trans ((v82 j j0 j1).trans (by rw [uc 18 (by decide)]))
  · exact (congrFun (R 83 (by omega) (by omega)) j).trans ((v83 j j0 j1).trans (by rw [uc 19 (by decide)]))
  · exact (congrFun (R 84 (by omega) (by omega)) j).trans ((v84 j j0 j1).trans (by rw [uc 20 (by decide)]))
  · exact (congrFun (R 85 (by omega) (by omega)) j).trans ((v85 j j0 j1).trans (by rw [uc 21 (by decide)]))
  · show (lf_up Z 89 2 (Z 25 2)) 79 6 = _
    rw [fc 79 (by omega), yc 79 (by omega), xc 79 (by omega) (by omega), w6, uc 15 (by decide)]
  · show (lf_up Z 89 2 (Z 25 2)) 79 7 = _
    rw [fc 79 (by omega), yc 79 (by omega), xc 79 (by omega) (by omega), w7, uc 15 (by decide)]
  · show (lf_up Z 89 2 (Z 25 2)) 79 8 = _
    rw [fc 79 (by omega), yc 79 (by omega), xc 79 (by omega) (by omega), w8, uc 15 (by decide)]
  · show (lf_up Z 89 2 (Z 25 2)) 87 j = _
    rw [fc 87 (by omega), yc 87 (by omega), x87 j j0 j1, uc 23 (by decide)]
  · show (lf_up Z 89 2 (Z 25 2)) 88 j = _
    rw [fc 88 (by omega), yc 88 (by omega), x88 j j0 j1, uc 24 (by decide)]
  · show (lf_up Z 89 2 (Z 25 2)) 86 2 = _
    rw [fc 86 (by omega), y2, uc 22 (by decide)]
  · show (lf_up Z 89 2 (Z 25 2)) 86 3 = _
    rw [fc 86 (by omega), y3, uc 22 (by decide)]
/-- the image is the stand -/
theorem fl_181 {Q : lf_Z → Prop} (k : ∀ t : lf_Z, (∀ c : Nat, c ≠ 97 → t.1 c = s.1 c) → t.2 = s.2 → (∀ i : Int, 0 ≤ i → i < 1538 → t.1 97 i = s.1 96 i) → Q t) : fw_181 Q s := by
  unfold fw_181
  refine ⟨fun x t => 0 ≤ x ∧ (∀ c : Nat, c ≠ 97 → t.1 c = s.1 c) ∧ t.2 = s.2 ∧ (∀ i : Int, 0 ≤ i → i < x → t.1 97 i = s.1 96 i), ?_, ⟨Int.le_refl 0, fun _ _ => rfl, rfl, fun i i0 i1 => by omega⟩⟩
  intro x t ⟨x0, tc, t2, ti⟩
  unfold fw_181_p2
  intro _
  refine ⟨fun c => k t tc t2 (fun i i0 i1 => ti i i0 (by omega)), fun c _ => ⟨by omega, fun c hc => (zu_r hc).trans (tc c hc), t2, fun i i0 i1 => ?_⟩⟩
  by_cases e : i = x
  · rw [e]
    refine zu_s.trans ?_
    rw [tc 96 (by decide)]
  · exact (zu_i e).trans (ti i i0 (by omega))
theorem fl_181b {Q : lf_Z → Prop} (k : ∀ t : lf_Z, (∀ c : Nat, c ≠ 96 → t.1 c = s.1 c) → t.2 = s.2 → (∀ i : Int, 0 ≤ i → i < 1538 → t.1 96 i = s.1 97 i) → Q t) : fw_181b Q s := by
  unfold fw_181b
  refine ⟨fun x t => 0 ≤ x ∧ (∀ c : Nat, c ≠ 96 → t.1 c = s.1 c) ∧ t.2 = s.2 ∧ (∀ i : Int, 0 ≤ i → i < x → t.1 96 i = s.1 97 i), ?_, ⟨Int.le_refl 0, fun _ _ => rfl, rfl, fun i i0 i1 => by omega⟩⟩
  intro x t ⟨x0, tc, t2, ti⟩
  unfold fw_181b_p2
  intro _
  refine ⟨fun c => k t tc t2 (fun i i0 i1 => ti i i0 (by omega)), fun c _ => ⟨by omega, fun c hc => (zu_r hc).trans (tc c hc), t2, fun i i0 i1 => ?_⟩⟩
  by_cases e : i = x
  · rw [e]
    refine zu_s.trans ?_
    rw [tc 97 (by decide)]
  · exact (zu_i e).trans (ti i i0 (by omega))
/-- a way is put into the lists; J: the land without it -/
theorem fl_20 {Q : lf_Z → Prop} (hW : mn_W J) (ok : wy_ok J a b) (hn : J 1 1 = n) (n0 : 0 ≤ n) (e1 : s.1 1 0 = J 1 0) (e4 : s.1 4 n = a) (e5 : s.1 5 n = b) (e11 : s.1 11 = J 11) (e12 : s.1 12 = J 12) (e13 : s.1 13 = J 13)
    (k : ∀ t : lf_Z, (∀ c : Nat, c ≠ 11 → c ≠ 12 → c ≠ 13 → t.1 c = s.1 c) → t.2 = s.2 → (∀ q : Int, t.1 12 q = if q = b then J 12 b + 1 else if q = a then J 12 a + 1 else J 12 q) → (∀ i : Int, t.1 11 i = if i = b * 4 + J 12 b then n else if i = a * 4 + J 12 a then n else J 11 i)
      → (∀ i j : Int, 0 ≤ i → i < J 1 0 → 0 ≤ j → j < J 1 0 → t.1 13 (i * 12 + j) = dm_nw (mn_d J 13) a b i j) → (∀ i j : Int, 0 ≤ i → i < 12 → 0 ≤ j → j < 12 → (J 1 0 ≤ i ∨ J 1 0 ≤ j) → t.1 13 (i * 12 + j) = J 13 (i * 12 + j)) → Q t) : fw_20 n Q s := by
  obtain ⟨h0, h1, h2, h3, h4, h5, h6⟩ := hW
  obtain ⟨z, z2, ne, o1, o2, o3⟩ := ok
  unfold fw_20
  intro _
  rw [e4]
  refine fl_21 z.1 (by omega) (by rw [e12]; omega) ?_
  rw [e12]
  obtain ⟨v, hv⟩ : ∃ v : lf_Z, v = (lf_up (lf_up s.1 11 (a * 4 + J 12 a) n) 12 a (J 12 a + 1), s.2.1, s.2.2) := ⟨_, rfl⟩
  rw [← hv]
  have vo : ∀ q : Nat, q ≠ 11 → q ≠ 12 → v.1 q = s.1 q := fun q q1 q2 => by rw [hv]; exact (zu_r q2).trans (lf_up_row q1)
  have v12 : ∀ q : Int, v.1 12 q = if q = a then J 12 a + 1 else J 12 q := fun q => by
    rw [hv]
    by_cases y : q = a
    · rw [y, if_pos rfl]; exact zu_s
    · rw [if_neg y]; exact (zu_i y).trans ((lf_up_c (by decide)).trans (by rw [e12]))
  have v11 : ∀ i : Int, v.1 11 i = if i = a * 4 + J 12 a then n else J 11 i := fun i => by
    rw [hv]
    refine (zu_c (by decide)).trans ?_
    by_cases y : i = a * 4 + J 12 a
    · rw [y, if_pos rfl]; exact lf_up_s
    · rw [if_neg y]; exact (lf_up_i y).trans (by rw [e11])
  have v2 : v.2 = s.2 := by rw [hv]
  have vb : v.1 12 b = J 12 b := by rw [v12, if_neg (by omega)]
  rw [vo 5 (by decide) (by decide), e5]
  refine fl_21 z2.1 (by omega) (by rw [vb]; exact o3) ?_
  rw [vb]
  obtain ⟨y, hy⟩ : ∃ y : lf_Z, y = (lf_up (lf_up v.1 11 (b * 4 + J 12 b) n) 12 b (J 12 b + 1), v.2.1, v.2.2) := ⟨_, rfl⟩
  rw [← hy]
  have yo : ∀ q : Nat, q ≠ 11 → q ≠ 12 → y.1 q = s.1 q := fun q q1 q2 => by rw [hy]; exact ((zu_r q2).trans (lf_up_row q1)).trans (vo q q1 q2)
  have y12 : ∀ q : Int, y.1 12 q = if q = b then J 12 b + 1 else if q = a then J 12 a + 1 else J 12 q := fun q => by
    rw [hy]
    by_cases e : q = b
    · rw [e, if_pos rfl]; exact zu_s
    · rw [if_neg e]; exact (zu_i e).trans ((lf_up_c (by decide)).trans (v12 q))
  have y11 : ∀ i : Int, y.1 11 i = if i = b * 4 + J 12 b then n else if i = a * 4 + J 12 a then n else J 11 i := fun i => by
    rw [hy]
    refine (zu_c (by decide)).trans ?_
    by_cases e : i = b * 4 + J 12 b
    · rw [e, if_pos rfl]; exact lf_up_s
    · rw [if_neg e]; exact (lf_up_i e).trans (v11 i)
  have y2 : y.2 = s.2 := by rw [hy]; exact v2
  have y13 : y.1 13 = J 13 := (yo 13 (by decide) (by decide)).trans e13
  rw [yo 4 (by decide) (by decide), yo 5 (by decide) (by decide), e4, e5]
  have y10 : y.1 1 0 = J 1 0 := by rw [yo 1 (by decide) (by decide)]; exact e1
  refine fl_22 (d := mn_d J 13) h5 y10 h0.1 h0.2 (fun i j _ _ _ _ => by rw [y13]; rfl) z.1 z.2 z2.1 z2.2 (fun t tc t2 td tf => ?_)
  exact k t (fun c c1 c2 c3 => (tc c c3).trans (yo c c1 c2)) (t2.trans y2) (fun q => by rw [tc 12 (by decide)]; exact y12 q) (fun i => by rw [tc 11 (by decide)]; exact y11 i) td (fun i j i0 i1 j0 j1 e => by rw [tf i j i0 i1 j0 j1 e, y13])
/-- the land K is s with k ways of it alone -/
def bk_J (I : Nat → Int → Int) (k : Int) : Nat → Int → Int := fun c => if c = 1 then (fun i => if i = 1 then k else I 1 i) else I c
theorem bk_J1 {I : Nat → Int → Int} {k : Int} : bk_J I k 1 1 = k ∧ bk_J I k 1 0 = I 1 0 ∧ bk_J I k 1 2 = I 1 2 := ⟨rfl, rfl, rfl⟩
theorem bk_Jc {I : Nat → Int → Int} {k : Int} {c : Nat} (h : c ≠ 1) : bk_J I k c = I c := if_neg h
theorem fl_2b {Q : lf_Z → Prop} (k : ∀ t : lf_Z, (∀ c : Nat, c ≠ 13 → t.1 c = s.1 c) → t.2 = s.2 → (∀ i j : Int, 0 ≤ i → i < 12 → 0 ≤ j → j < 12 → t.1 13 (i * 12 + j) = if i = j then 0 else 1000) → Q t) : fw_2b Q s := by
  unfold fw_2b
  have f0 : ∀ i : Int, 0 ≤ i → i < 144 → (lf_fl s.1 13 144 1000) 13 i = 1000 := fun i i0 i1 => by unfold lf_fl; rw [if_pos ⟨rfl, i0, i1⟩]
  refine ⟨fun x t => 0 ≤ x ∧ (∀ c : Nat, c ≠ 13 → t.1 c = s.1 c) ∧ t.2 = s.2 ∧ (∀ i j : Int, 0 ≤ i → i < 12 → 0 ≤ j → j < 12 → t.1 13 (i * 12 + j) = if i = j ∧ i < x then 0 else 1000), ?_, ⟨Int.le_refl 0, fun c hc => funext fun j => lf_fl_c hc, rfl, fun i j i0 i1 j0 j1 => ?_⟩⟩
  rotate_left
  · rw [if_neg (by omega)]; exact f0 _ (by omega) (by omega)
  intro x t ⟨x0, tc, t2, ti⟩
  unfold fw_2b_p9
  intro _
  refine ⟨fun c => k t tc t2 (fun i j i0 i1 j0 j1 => ?_), fun c _ => ⟨by omega, fun c hc => (zu_r hc).trans (tc c hc), t2, fun i j i0 i1 j0 j1 => ?_⟩⟩
  · rw [ti i j i0 i1 j0 j1]
    by_cases e : i = j
    · rw [if_pos e, if_pos ⟨e, by omega⟩]
    · rw [if_neg e, if_neg (fun q => e q.1)]
  · by_cases e : i * 12 + j = x * 12 + x
    · rw [e, if_pos (by omega)]; exact zu_s
    · refine (zu_i e).trans ((ti i j i0 i1 j0 j1).trans ?_)
      by_cases q : i = j ∧ i < x
      · rw [if_pos q, if_pos (by omega)]
      · rw [if_neg q, if_neg (by omega)]
/-- the land is cut back; J: the land as it was -/
theorem fl_178 {Q : lf_Z → Prop} {i0 i1 i2 : Int} (hW : mn_W s.1) (h0 : 0 ≤ i0 ∧ i0 ≤ s.1 1 0) (h1 : 0 ≤ i1 ∧ i1 ≤ s.1 1 1) (h2 : 0 ≤ i2 ∧ i2 ≤ s.1 1 2) (hw : ∀ w : Int, 0 ≤ w → w < i1 → s.1 4 w < i0 ∧ s.1 5 w < i0)
    (k : ∀ t : lf_Z, (∀ c : Nat, c ≠ 1 → c ≠ 11 → c ≠ 12 → c ≠ 13 → t.1 c = s.1 c) → t.2 = s.2 → (t.1 1 0 = i0 ∧ t.1 1 1 = i1 ∧ t.1 1 2 = i2) → mn_W t.1 → Q t) : fw_178 i0 i1 i2 Q s := by
  obtain ⟨g0, g1, g2, g3, g4, _, _⟩ := hW
  unfold fw_178
  obtain ⟨u, hu⟩ : ∃ u : lf_Z, u = (lf_fl (lf_up (lf_up (lf_up s.1 1 0 i0) 1 1 i1) 1 2 i2) 12 12 0, s.2.1, s.2.2) := ⟨_, rfl⟩
  rw [← hu]
  have uc : ∀ c : Nat, c ≠ 1 → c ≠ 12 → u.1 c = s.1 c := fun c c1 c2 => by rw [hu]; exact funext fun j => (lf_fl_c c2).trans ((lf_up_c c1).trans ((lf_up_c c1).trans (lf_up_c c1)))
  have u10 : u.1 1 0 = i0 := by rw [hu]; show (lf_fl (lf_up (lf_up (lf_up s.1 1 0 i0) 1 1 i1) 1 2 i2) 12 12 0) 1 0 = i0; exact (lf_fl_c (by decide)).trans ((lf_up_i (by decide)).trans ((lf_up_i (by decide)).trans lf_up_s))
  have u11 : u.1 1 1 = i1 := by rw [hu]; show (lf_fl (lf_up (lf_up (lf_up s.1 1 0 i0) 1 1 i1) 1 2 i2) 12 12 0) 1 1 = i1; exact (lf_fl_c (by decide)).trans ((lf_up_i (by decide)).trans lf_up_s)
  have u12 : u.1 1 2 = i2 := by rw [hu]; show (lf_fl (lf_up (lf_up (lf_up s.1 1 0 i0) 1 1 i1) 1 2 i2) 12 12 0) 1 2 = i2; exact (lf_fl_c (by decide)).trans lf_up_s
  have u12z : ∀ q : Int, 0 ≤ q → q < 12 → u.1 12 q = 0 := fun q q0 q1 => by rw [hu]; show lf_fl _ 12 12 0 12 q = 0; unfold lf_fl; rw [if_pos ⟨rfl, q0, q1⟩]
  have u2 : u.2 = s.2 := by rw [hu]
  refine fl_2b (fun v vc v2 vd => ?_)
  have start : mn_W (bk_J v.1 0) := by
    unfold mn_W
    rw [bk_J1.1, bk_J1.2.1, bk_J1.2.2, bk_Jc (show (12 : Nat) ≠ 1 by decide)]
    rw [vc 1 (by decide), vc 12 (by decide), u10, u12]
    refine ⟨by omega, ⟨by decide, by decide⟩, by omega, fun w w0 w1 => by omega, fun q q0 q1 => ⟨u12z q q0 q1, by rw [u12z q q0 q1]; decide, fun w w1 => by omega⟩, ?_, fun i j i0' i1' j0' j1' _ => ?_⟩
    · refine dm_C (dm_0 (m := i0)) (fun i j a1 a2 a3 a4 => ?_) (fun i j => ⟨fun ⟨w, w0, w1, _⟩ => by omega, fun h => h.elim⟩)
      unfold mn_d
      rw [bk_Jc (show (13 : Nat) ≠ 1 by decide)]
      exact vd i j a1 (by omega) a3 (by omega)
    · unfold mn_d
      rw [bk_Jc (show (13 : Nat) ≠ 1 by decide)]
      exact vd i j i0' i1' j0' j1'
  refine ⟨fun x t => 0 ≤ x ∧ x ≤ i1 ∧ (∀ c : Nat, c ≠ 11 → c ≠ 12 → c ≠ 13 → t.1 c = v.1 c) ∧ t.2 = v.2 ∧ mn_W (bk_J t.1 x), ?_, ⟨Int.le_refl 0, h1.1, fun _ _ _ _ => rfl, rfl, start⟩⟩
  intro x t ⟨x0, x1, tc, t2, tW⟩
  have t1 : t.1 1 = u.1 1 := by rw [tc 1 (by decide) (by decide) (by decide), vc 1 (by decide)]
  have t4 : t.1 4 = s.1 4 := by rw [tc 4 (by decide) (by decide) (by decide), vc 4 (by decide), uc 4 (by decide) (by decide)]
  have t5 : t.1 5 = s.1 5 := by rw [tc 5 (by decide) (by decide) (by decide), vc 5 (by decide), uc 5 (by decide) (by decide)]
  unfold fw_178_p33
  rw [t1, u11]
  intro _ _
  refine ⟨fun c => ?_, fun c => ?_⟩
  · have ex : x = i1 := by omega
    refine k t (fun c c1 c2 c3 c4 => by rw [tc c c2 c3 c4, vc c c4, uc c c1 c3]) (t2.trans (v2.trans u2)) (by rw [t1]; exact ⟨u10, u11, u12⟩) ?_
    have e : bk_J t.1 x = t.1 := by
      funext c
      unfold bk_J
      by_cases q : c = 1
      · rw [if_pos q, q]
        funext i
        by_cases w : i = 1
        · rw [if_pos w, w, t1, u11, ex]
        · rw [if_neg w]
      · rw [if_neg q]
    rw [← e]; exact tW
  · have w3 := g3 x x0 (by omega)
    have w4 := hw x x0 (by omega)
    have atE : ∀ q : Int, mn_at (bk_J t.1 x) q = mn_at s.1 q := fun q => congrFun (mn_atR ((bk_Jc (by decide)).trans t4) ((bk_Jc (by decide)).trans t5)) q
    have deg : ∀ q : Int, 0 ≤ q → q < 12 → (s.1 4 x = q ∨ s.1 5 x = q) → bk_J t.1 x 12 q < 4 := by
      intro q q0 q1 hq
      obtain ⟨d1, _⟩ := tW.2.2.2.2.1 q q0 q1
      obtain ⟨d2, d3, _⟩ := g4 q q0 q1
      rw [d1, atE, bk_J1.1]
      have a1 : mn_at s.1 q x.toNat = true := by
        unfold mn_at
        rw [show ((x.toNat : Nat) : Int) = x by omega]
        rcases hq with e | e
        · rw [decide_eq_true e, Bool.true_or]
        · rw [decide_eq_true e, Bool.or_true]
      have lt := dm_cnG (P := mn_at s.1 q) (w := x.toNat) (n := (s.1 1 1).toNat) (by omega) a1
      omega
    have ok : wy_ok (bk_J t.1 x) (s.1 4 x) (s.1 5 x) := by
      refine ⟨⟨w3.1.1, ?_⟩, ⟨w3.2.1.1, ?_⟩, w3.2.2, ?_, deg _ w3.1.1 (by omega) (Or.inl rfl), deg _ w3.2.1.1 (by omega) (Or.inr rfl)⟩
      · rw [bk_J1.2.1, t1, u10]; exact w4.1
      · rw [bk_J1.2.1, t1, u10]; exact w4.2
      · rw [bk_J1.1]; omega
    refine fl_20 (J := bk_J t.1 x) (a := s.1 4 x) (b := s.1 5 x) tW ok bk_J1.1 x0 bk_J1.2.1.symm (by rw [t4]) (by rw [t5]) (bk_Jc (by decide)).symm (bk_Jc (by decide)).symm (bk_Jc (by decide)).symm (fun y yc y2 y12 y11 y13 y13o => ?_)
    refine ⟨by omega, by omega, fun c c1 c2 c3 => (yc c c1 c2 c3).trans (tc c c1 c2 c3), y2.trans t2, ?_⟩
    have hR : wy_R (bk_J t.1 x) (bk_J y.1 (x + 1)) (s.1 4 x) (s.1 5 x) (s.1 6 x) := by
      have r : ∀ c : Nat, c ≠ 1 → bk_J y.1 (x + 1) c = y.1 c := fun c hc => bk_Jc hc
      have r' : ∀ c : Nat, c ≠ 1 → bk_J t.1 x c = t.1 c := fun c hc => bk_Jc hc
      have y1 : y.1 1 = t.1 1 := yc 1 (by decide) (by decide) (by decide)
      have t6 : t.1 6 = s.1 6 := by rw [tc 6 (by decide) (by decide) (by decide), vc 6 (by decide), uc 6 (by decide) (by decide)]
      refine ⟨fun q q1 q4 q5 q6 q11 q12 q13 => by rw [r q q1, r' q q1]; exact yc q q11 q12 q13, ⟨by rw [bk_J1.2.1, bk_J1.2.1, y1], by rw [bk_J1.1, bk_J1.1], by rw [bk_J1.2.2, bk_J1.2.2, y1]⟩, fun w => ?_, fun q => by rw [r 12 (by decide)]; exact y12 q, fun i => ?_, fun i j a1 a2 a3 a4 => by rw [r 13 (by decide)]; exact y13 i j a1 a2 a3 a4, fun i j a1 a2 a3 a4 e => by rw [r 13 (by decide)]; exact y13o i j a1 a2 a3 a4 e⟩
      · rw [r 4 (by decide), r 5 (by decide), r 6 (by decide), r' 4 (by decide), r' 5 (by decide), r' 6 (by decide), yc 4 (by decide) (by decide) (by decide), yc 5 (by decide) (by decide) (by decide), yc 6 (by decide) (by decide) (by decide), bk_J1.1]
        by_cases e : w = x
        · rw [if_pos e, if_pos e, if_pos e, e, t4, t5, t6]; exact ⟨rfl, rfl, rfl⟩
        · rw [if_neg e, if_neg e, if_neg e]; exact ⟨rfl, rfl, rfl⟩
      · rw [r 11 (by decide), bk_J1.1]; exact y11 i
    exact wy_W tW ok hR
end BK
