/-! way: both sides -/
section WY
variable {J K : Nat → Int → Int} {s t u : lf_Z} {f g T A B : Int → Int} {a b c p x j n1 n2 m : Int} {H : List rr_H} {P P' : Nat → Bool}
theorem dm_cnK {n : Nat} (h : ∀ w : Nat, w < n → P w = P' w) : dm_cn P n = dm_cn P' n := by
  induction n with
  | zero => rfl
  | succ n ih =>
    show dm_cn P n + (if P n = true then 1 else 0) = dm_cn P' n + (if P' n = true then 1 else 0)
    rw [ih (fun w hw => h w (by omega)), h n (by omega)]
def wy_ok (J : Nat → Int → Int) (a b : Int) : Prop := (0 ≤ a ∧ a < J 1 0) ∧ (0 ≤ b ∧ b < J 1 0) ∧ a ≠ b ∧ J 1 1 < 16 ∧ J 12 a < 4 ∧ J 12 b < 4
/-- the land K: J with a way more -/
def wy_R (J K : Nat → Int → Int) (a b c : Int) : Prop :=
  (∀ q : Nat, q ≠ 1 → q ≠ 4 → q ≠ 5 → q ≠ 6 → q ≠ 11 → q ≠ 12 → q ≠ 13 → K q = J q) ∧ (K 1 0 = J 1 0 ∧ K 1 1 = J 1 1 + 1 ∧ K 1 2 = J 1 2)
  ∧ (∀ w : Int, K 4 w = (if w = J 1 1 then a else J 4 w) ∧ K 5 w = (if w = J 1 1 then b else J 5 w) ∧ K 6 w = (if w = J 1 1 then c else J 6 w))
  ∧ (∀ q : Int, K 12 q = if q = b then J 12 b + 1 else if q = a then J 12 a + 1 else J 12 q)
  ∧ (∀ i : Int, K 11 i = if i = b * 4 + J 12 b then J 1 1 else if i = a * 4 + J 12 a then J 1 1 else J 11 i)
  ∧ (∀ i j : Int, 0 ≤ i → i < J 1 0 → 0 ≤ j → j < J 1 0 → K 13 (i * 12 + j) = dm_nw (mn_d J 13) a b i j)
  ∧ (∀ i j : Int, 0 ≤ i → i < 12 → 0 ≤ j → j < 12 → (J 1 0 ≤ i ∨ J 1 0 ≤ j) → K 13 (i * 12 + j) = J 13 (i * 12 + j))
theorem wy_W (hW : mn_W J) (ok : wy_ok J a b) (hR : wy_R J K a b c) : mn_W K := by
  obtain ⟨oa, ob, oab, o16, o4, o5⟩ := ok
  obtain ⟨r0, ⟨r10, r11, r12⟩, rw_, rl, ri, rd, rf⟩ := hR
  obtain ⟨h0, h1, h2, h3, h4, h5, h6⟩ := hW
  have atE : ∀ (q : Int) (w : Nat), (w : Int) < J 1 1 → mn_at K q w = mn_at J q w := by
    intro q w hw
    unfold mn_at
    rw [(rw_ w).1, (rw_ w).2.1, if_neg (by omega), if_neg (by omega)]
  have atN : ∀ q : Int, mn_at K q (J 1 1).toNat = (decide (a = q) || decide (b = q)) := by
    intro q
    unfold mn_at
    rw [show ((J 1 1).toNat : Int) = J 1 1 by omega, (rw_ _).1, (rw_ _).2.1, if_pos rfl, if_pos rfl]
  have cnE : ∀ (q : Int) (w : Nat), (w : Int) ≤ J 1 1 → dm_cn (mn_at K q) w = dm_cn (mn_at J q) w := fun q w hw => dm_cnK (fun v hv => atE q v (by omega))
  unfold mn_W
  rw [r10, r11, r12]
  refine ⟨h0, ⟨by omega, by omega⟩, h2, fun w w0 w1 => ?_, fun q q0 q1 => ?_, ?_, fun i j i0 i1 j0 j1 e => ?_⟩
  · rw [(rw_ w).1, (rw_ w).2.1]
    by_cases y : w = J 1 1
    · rw [if_pos y, if_pos y]; exact ⟨oa, ob, oab⟩
    · rw [if_neg y, if_neg y]; exact h3 w w0 (by omega)
  · obtain ⟨k1, k2, k3⟩ := h4 q q0 q1
    have ca := (h4 a oa.1 (by omega)).1
    have cb := (h4 b ob.1 (by omega)).1
    have new : dm_cn (mn_at K q) (J 1 1 + 1).toNat = dm_cn (mn_at J q) (J 1 1).toNat + (if mn_at K q (J 1 1).toNat = true then 1 else 0) := by
      rw [show (J 1 1 + 1).toNat = (J 1 1).toNat + 1 by omega]
      show dm_cn (mn_at K q) (J 1 1).toNat + _ = _
      rw [cnE q _ (by omega)]
    have k12 : K 12 q = dm_cn (mn_at K q) (J 1 1 + 1).toNat := by
      rw [new, atN, rl]
      by_cases yb : q = b
      · rw [if_pos yb, if_pos (by rw [decide_eq_true yb.symm, Bool.or_true]), ← yb]; omega
      · rw [if_neg yb]
        by_cases ya : q = a
        · rw [if_pos ya, if_pos (by rw [decide_eq_true ya.symm, Bool.true_or]), ← ya]; omega
        · rw [if_neg ya, if_neg (by rw [decide_eq_false (fun e => ya e.symm), decide_eq_false (fun e => yb e.symm)]; decide)]; omega
    refine ⟨k12, ?_, fun w hw hat => ?_⟩
    · rw [rl]
      by_cases yb : q = b
      · rw [if_pos yb]; omega
      · rw [if_neg yb]
        by_cases ya : q = a
        · rw [if_pos ya]; omega
        · rw [if_neg ya]; exact k2
    · by_cases y : (w : Int) = J 1 1
      · have ew : w = (J 1 1).toNat := by omega
        rw [cnE q w (by omega), ew, ← show J 12 q = (dm_cn (mn_at J q) (J 1 1).toNat : Int) from k1, ri]
        rw [ew, atN, Bool.or_eq_true, decide_eq_true_eq, decide_eq_true_eq] at hat
        rcases hat with e | e
        · rw [← e]
          rw [if_neg (by rw [← e] at k2; omega), if_pos rfl]; omega
        · rw [← e, if_pos rfl]; omega
      · have hw' : (w : Int) < J 1 1 := by omega
        rw [atE q w hw'] at hat
        have old := k3 w hw' hat
        have lt := dm_cnG (P := mn_at J q) (w := w) (n := (J 1 1).toNat) (by omega) hat
        rw [cnE q w (by omega), ri, if_neg ?_, if_neg ?_]
        · exact old
        · by_cases e : q = a
          · subst e; omega
          · omega
        · by_cases e : q = b
          · subst e; omega
          · omega
  · refine dm_C (dm_add h5 oa.1 oa.2 ob.1 ob.2 oab) (fun i j i0 i1 j0 j1 => rd i j i0 i1 j0 j1) (fun i j => ⟨fun ⟨w, w0, w1, wt, h⟩ => ?_, fun h => ?_⟩)
    · rw [(rw_ w).1, (rw_ w).2.1] at h
      by_cases y : w = J 1 1
      · rw [if_pos y, if_pos y] at h
        rcases h with ⟨e1, e2⟩ | ⟨e1, e2⟩
        · exact Or.inr (Or.inl ⟨e1.symm, e2.symm⟩)
        · exact Or.inr (Or.inr ⟨e2.symm, e1.symm⟩)
      · rw [if_neg y, if_neg y] at h
        exact Or.inl ⟨w, w0, by omega, wt, h⟩
    · rcases h with ⟨w, w0, w1, wt, h⟩ | ⟨e1, e2⟩ | ⟨e1, e2⟩
      · refine ⟨w, w0, by omega, wt, ?_⟩
        rw [(rw_ w).1, (rw_ w).2.1, if_neg (by omega), if_neg (by omega)]; exact h
      · refine ⟨J 1 1, h1.1, by omega, rfl, ?_⟩
        rw [(rw_ _).1, (rw_ _).2.1, if_pos rfl, if_pos rfl]; exact Or.inl ⟨e1.symm, e2.symm⟩
      · refine ⟨J 1 1, h1.1, by omega, rfl, ?_⟩
        rw [(rw_ _).1, (rw_ _).2.1, if_pos rfl, if_pos rfl]; exact Or.inr ⟨e2.symm, e1.symm⟩
  · exact (rf i j i0 i1 j0 j1 e).trans (h6 i j i0 i1 j0 j1 e)
theorem fl_21 {w : Int} {Q : lf_Z → Prop} (a0 : 0 ≤ a) (a1 : a < 12) (h4 : s.1 12 a < 4) (h : Q (lf_up (lf_up s.1 11 (a * 4 + s.1 12 a) w) 12 a (s.1 12 a + 1), s.2.1, s.2.2)) : fw_21 a w Q s := by
  unfold fw_21
  exact fun _ _ => ⟨fun c => absurd c (by omega), fun _ _ => h⟩
/-- way of the class -/
theorem fl_17 {Q : Int → lf_Z → Prop} (hW : mn_W s.1) (k0 : ¬ wy_ok s.1 a b → Q (-1) s) (k : wy_ok s.1 a b → (c = 0 ∨ c = 1) → ∀ t : lf_Z, wy_R s.1 t.1 a b c → t.2 = s.2 → Q (s.1 1 1) t) : fw_17 a b c Q s := by
  have hW' := hW
  obtain ⟨h0, h1, h2, h3, h4, h5, h6⟩ := hW
  unfold fw_17
  refine fl_18 ⟨fun z => k0 (fun q => ?_), fun z => fl_18 ⟨fun z2 => k0 (fun q => ?_), fun z2 _ _ => ⟨fun ne => ?_, fun e => k0 (fun q => e q.2.2.1)⟩⟩⟩
  · rw [decide_eq_true q.1.1, decide_eq_true q.1.2] at z; cases z
  · rw [decide_eq_true q.2.1.1, decide_eq_true q.2.1.2] at z2; cases z2
  · rw [Bool.and_eq_true, decide_eq_true_eq, decide_eq_true_eq] at z z2
    unfold fw_19
    intro _
    refine ⟨fun d => k0 (fun q => by have := q.2.2.2.1; omega), fun d _ _ => ⟨fun e => k0 (fun q => by have := q.2.2.2.2.1; omega), fun e _ _ => ⟨fun e2 _ hc => ?_, fun e2 => k0 (fun q => e2 q.2.2.2.2.2)⟩⟩⟩
    have ok : wy_ok s.1 a b := ⟨z, z2, ne, by omega, by omega, e2⟩
    have K := k ok hc
    generalize hn : s.1 1 1 = n at *
    obtain ⟨u, hu⟩ : ∃ u : lf_Z, u = (lf_up (lf_up (lf_up (lf_up s.1 4 n a) 5 n b) 6 n c) 1 1 (n + 1), s.2.1, s.2.2) := ⟨_, rfl⟩
    rw [← hu, show n + 1 - 1 = n by omega]
    have uo : ∀ q : Nat, q ≠ 1 → q ≠ 4 → q ≠ 5 → q ≠ 6 → u.1 q = s.1 q := fun q q1 q4 q5 q6 => by rw [hu]; exact (zu_r q1).trans ((lf_up_row q6).trans ((lf_up_row q5).trans (lf_up_row q4)))
    have u1 : ∀ i : Int, u.1 1 i = if i = 1 then n + 1 else s.1 1 i := fun i => by
      rw [hu]
      by_cases y : i = 1
      · rw [y, if_pos rfl]; exact zu_s
      · rw [if_neg y]; exact (zu_i y).trans ((lf_up_c (by decide)).trans ((lf_up_c (by decide)).trans (lf_up_c (by decide))))
    have u4 : ∀ i : Int, u.1 4 i = if i = n then a else s.1 4 i := fun i => by
      rw [hu]
      refine (zu_c (by decide)).trans ((lf_up_c (by decide)).trans ((lf_up_c (by decide)).trans ?_))
      by_cases y : i = n
      · rw [y, if_pos rfl]; exact lf_up_s
      · rw [if_neg y]; exact lf_up_i y
    have u5 : ∀ i : Int, u.1 5 i = if i = n then b else s.1 5 i := fun i => by
      rw [hu]
      refine (zu_c (by decide)).trans ((lf_up_c (by decide)).trans ?_)
      by_cases y : i = n
      · rw [y, if_pos rfl]; exact lf_up_s
      · rw [if_neg y]; exact (lf_up_i y).trans (lf_up_c (by decide))
    have u6 : ∀ i : Int, u.1 6 i = if i = n then c else s.1 6 i := fun i => by
      rw [hu]
      refine (zu_c (by decide)).trans ?_
      by_cases y : i = n
      · rw [y, if_pos rfl]; exact lf_up_s
      · rw [if_neg y]; exact (lf_up_i y).trans ((lf_up_c (by decide)).trans (lf_up_c (by decide)))
    have u2 : u.2 = s.2 := by rw [hu]
    unfold fw_20
    intro _
    rw [u4 n, if_pos rfl]
    refine fl_21 z.1 (by omega) (by rw [uo 12 (by decide) (by decide) (by decide) (by decide)]; omega) ?_
    rw [uo 12 (by decide) (by decide) (by decide) (by decide)]
    obtain ⟨v, hv⟩ : ∃ v : lf_Z, v = (lf_up (lf_up u.1 11 (a * 4 + s.1 12 a) n) 12 a (s.1 12 a + 1), u.2.1, u.2.2) := ⟨_, rfl⟩
    rw [← hv]
    have vo : ∀ q : Nat, q ≠ 11 → q ≠ 12 → v.1 q = u.1 q := fun q q1 q2 => by rw [hv]; exact (zu_r q2).trans (lf_up_row q1)
    have v12 : ∀ q : Int, v.1 12 q = if q = a then s.1 12 a + 1 else s.1 12 q := fun q => by
      rw [hv]
      by_cases y : q = a
      · rw [y, if_pos rfl]; exact zu_s
      · rw [if_neg y]; exact (zu_i y).trans ((lf_up_c (by decide)).trans (by rw [uo 12 (by decide) (by decide) (by decide) (by decide)]))
    have v11 : ∀ i : Int, v.1 11 i = if i = a * 4 + s.1 12 a then n else s.1 11 i := fun i => by
      rw [hv]
      refine (zu_c (by decide)).trans ?_
      by_cases y : i = a * 4 + s.1 12 a
      · rw [y, if_pos rfl]; exact lf_up_s
      · rw [if_neg y]; exact (lf_up_i y).trans (by rw [uo 11 (by decide) (by decide) (by decide) (by decide)])
    have v2 : v.2 = s.2 := by rw [hv]; exact u2
    have vb : v.1 12 b = s.1 12 b := by rw [v12, if_neg (by omega)]
    rw [vo 5 (by decide) (by decide), u5 n, if_pos rfl]
    refine fl_21 z2.1 (by omega) (by rw [vb]; exact e2) ?_
    rw [vb]
    obtain ⟨y, hy⟩ : ∃ y : lf_Z, y = (lf_up (lf_up v.1 11 (b * 4 + s.1 12 b) n) 12 b (s.1 12 b + 1), v.2.1, v.2.2) := ⟨_, rfl⟩
    rw [← hy]
    have yo : ∀ q : Nat, q ≠ 11 → q ≠ 12 → y.1 q = u.1 q := fun q q1 q2 => by rw [hy]; exact ((zu_r q2).trans (lf_up_row q1)).trans (vo q q1 q2)
    have y12 : ∀ q : Int, y.1 12 q = if q = b then s.1 12 b + 1 else if q = a then s.1 12 a + 1 else s.1 12 q := fun q => by
      rw [hy]
      by_cases e : q = b
      · rw [e, if_pos rfl]; exact zu_s
      · rw [if_neg e]; exact (zu_i e).trans ((lf_up_c (by decide)).trans (v12 q))
    have y11 : ∀ i : Int, y.1 11 i = if i = b * 4 + s.1 12 b then n else if i = a * 4 + s.1 12 a then n else s.1 11 i := fun i => by
      rw [hy]
      refine (zu_c (by decide)).trans ?_
      by_cases e : i = b * 4 + s.1 12 b
      · rw [e, if_pos rfl]; exact lf_up_s
      · rw [if_neg e]; exact (lf_up_i e).trans (v11 i)
    have y2 : y.2 = s.2 := by rw [hy]; exact v2
    have y13 : y.1 13 = s.1 13 := (yo 13 (by decide) (by decide)).trans (uo 13 (by decide) (by decide) (by decide) (by decide))
    rw [yo 4 (by decide) (by decide), yo 5 (by decide) (by decide), u4 n, u5 n, if_pos rfl, if_pos rfl]
    have y10 : y.1 1 0 = s.1 1 0 := by rw [yo 1 (by decide) (by decide), u1, if_neg (by decide)]
    refine fl_22 (d := mn_d s.1 13) h5 y10 h0.1 h0.2 (fun i j _ _ _ _ => by rw [y13]; rfl) z.1 z.2 z2.1 z2.2 (fun t tc t2 td tf => ?_)
    have t1 : ∀ i : Int, t.1 1 i = if i = 1 then n + 1 else s.1 1 i := fun i => by rw [tc 1 (by decide), yo 1 (by decide) (by decide)]; exact u1 i
    show Q (t.1 1 1 - 1) t
    rw [t1 1, if_pos rfl, show n + 1 - 1 = n by omega]
    refine K t ⟨fun q q1 q4 q5 q6 q11 q12 q13 => by rw [tc q q13, yo q q11 q12]; exact uo q q1 q4 q5 q6, ⟨by rw [t1, if_neg (by decide)], by rw [t1, if_pos rfl, hn], by rw [t1, if_neg (by decide)]⟩, fun w => ?_, fun q => by rw [tc 12 (by decide)]; exact y12 q, fun i => by rw [tc 11 (by decide), hn]; exact y11 i, td, fun i j i0 i1 j0 j1 e => by rw [tf i j i0 i1 j0 j1 e, y13]⟩ (t2.trans y2)
    rw [tc 4 (by decide), tc 5 (by decide), tc 6 (by decide), yo 4 (by decide) (by decide), yo 5 (by decide) (by decide), yo 6 (by decide) (by decide), hn]
    exact ⟨u4 w, u5 w, u6 w⟩
/-! the reference -/
theorem fl_186 {Q : Int → lf_Z → Prop} (hL : rr_L J (s.1 96)) (hW : mn_W J) (h : ∀ x : Int, (∀ w : Int, 0 ≤ w → w < 16 → bt_t x w = (decide (w < J 1 1) && mn_at J a w.toNat)) → Q x s) : fw_186 a Q s := by
  have h1 := hW.2.1
  unfold fw_186
  refine ⟨fun x i u => u = s ∧ 0 ≤ i ∧ i ≤ J 1 1 ∧ ∀ w : Int, 0 ≤ w → w < 16 → bt_t x w = (decide (w < i) && mn_at J a w.toNat), ?_, ⟨rfl, Int.le_refl 0, h1.1, fun w w0 _ => by rw [bt_t0, decide_eq_false (by omega), Bool.false_and]⟩⟩
  intro x i u ⟨eu, i0, i1, hx⟩
  rw [eu]
  unfold fw_186_p4
  rw [hL.2.1]
  intro _ _
  refine ⟨fun d => h x (fun w w0 w1 => by rw [hx w w0 w1, show i = J 1 1 by omega]), fun d => fl_187 hL i0 (by omega) ?_⟩
  have q4 := hW.2.2.2.1 i i0 (by omega)
  have atI : mn_at J a i.toNat = true ↔ 0 ≤ mn_ac J i a := by
    rw [mn_atE, show ((i.toNat : Nat) : Int) = i by omega]
    unfold mn_ac
    (repeat' split) <;> omega
  intro _
  refine ⟨fun e => ?_, fun e => ?_⟩
  · unfold fw_186_p31
    refine ⟨rfl, by omega, by omega, fun w w0 w1 => ?_⟩
    rw [bt_To0, hx w w0 w1]
    by_cases y : w = i
    · have hf : mn_at J a i.toNat = false := by cases q : mn_at J a i.toNat with
        | false => rfl
        | true => have := atI.mp q; omega
      rw [y, hf, Bool.and_false, Bool.and_false]
    · by_cases y2 : w < i
      · rw [decide_eq_true y2, decide_eq_true (by omega)]
      · rw [decide_eq_false y2, decide_eq_false (by omega)]
  · unfold fw_186_p31
    refine ⟨rfl, by omega, by omega, fun w w0 w1 => ?_⟩
    rw [bt_Tor w0 (by omega) i0 (by omega), hx w w0 w1]
    by_cases y : w = i
    · rw [y, atI.mpr (by omega), decide_eq_true rfl, decide_eq_true (show i < i + 1 by omega), Bool.or_true, Bool.and_true]
    · rw [decide_eq_false y, Bool.or_false]
      by_cases y2 : w < i
      · rw [decide_eq_true y2, decide_eq_true (by omega)]
      · rw [decide_eq_false y2, decide_eq_false (by omega)]
theorem fl_188 {Q : Int → lf_Z → Prop} (h : Q (dm_cn (fun w => bt_t x w) 16) s) : fw_188 x Q s := by
  unfold fw_188
  refine ⟨fun y i u => u = s ∧ ∃ n : Nat, i = n ∧ n ≤ 16 ∧ y = dm_cn (fun w => bt_t x w) n, ?_, ⟨rfl, 0, rfl, by decide, rfl⟩⟩
  intro y i u ⟨eu, n, ei, n1, ey⟩
  subst ei
  rw [eu, ey]
  unfold fw_188_p4
  intro _
  refine ⟨fun d => ?_, fun d => ⟨rfl, n + 1, by omega, by omega, ?_⟩⟩
  · have : n = 16 := by omega
    rw [this]; exact h
  · rw [bt_T (by omega) (by omega)]
    have e : dm_cn (fun w : Nat => bt_t x w) (n + 1) = dm_cn (fun w : Nat => bt_t x w) n + (if bt_t x (n : Int) = true then 1 else 0) := rfl
    rw [e]
    split <;> omega
theorem wy_cn (hW : mn_W J) (a0 : 0 ≤ a) (a1 : a < 12) (hx : ∀ w : Int, 0 ≤ w → w < 16 → bt_t x w = (decide (w < J 1 1) && mn_at J a w.toNat)) : (dm_cn (fun w : Nat => bt_t x w) 16 : Int) = J 12 a := by
  have h1 := hW.2.1
  rw [(hW.2.2.2.2.1 a a0 a1).1]
  have e1 : dm_cn (fun w : Nat => bt_t x w) 16 = dm_cn (fun w : Nat => bt_t x w) (J 1 1).toNat := dm_cnE (fun v v0 v1 => by rw [hx v (by omega) (by omega), decide_eq_false (by omega), Bool.false_and]) (by omega)
  rw [e1, dm_cnK (P' := mn_at J a) (fun w hw => by rw [hx w (by omega) (by omega), decide_eq_true (by omega), Bool.true_and, show ((w : Int)).toNat = w by omega])]
theorem fl_184 {Q : Int → lf_Z → Prop} (hL : rr_L J (s.1 96)) (hW : mn_W J) (hc : c = 0 ∨ c = 1) (k0 : ¬ wy_ok J a b → Q (-1) s)
    (k : wy_ok J a b → ∀ t : lf_Z, rr_f s t → t.1 96 1 = J 1 1 + 1 → t.1 96 (50 + 4 * J 1 1) = a → t.1 96 (50 + 4 * J 1 1 + 1) = b → t.1 96 (50 + 4 * J 1 1 + 2) = c → t.1 96 (50 + 4 * J 1 1 + 3) = 1 → t.1 96 (174 + 5 * J 1 1) = 0 → (∀ i : Int, i ≠ 1 → ¬ (50 + 4 * J 1 1 ≤ i ∧ i ≤ 50 + 4 * J 1 1 + 3) → i ≠ 174 + 5 * J 1 1 → t.1 96 i = s.1 96 i) → Q (J 1 1) t) : fw_184 a b c Q s := by
  have h0 := hW.1
  have h1 := hW.2.1
  unfold fw_184 fw_185
  rw [hL.1]
  refine fl_183 ⟨fun z => k0 (fun q => ?_), fun z => ?_⟩
  · have := q.1
    rw [decide_eq_true this.1, decide_eq_true (show a ≤ J 1 0 - 1 by omega)] at z; cases z
  rw [Bool.and_eq_true, decide_eq_true_eq, decide_eq_true_eq] at z
  rw [hL.1]
  refine fl_183 ⟨fun z2 => k0 (fun q => ?_), fun z2 _ _ => ⟨fun e => k0 (fun q => q.2.2.1 e), fun ne => ?_⟩⟩
  · have := q.2.1
    rw [decide_eq_true this.1, decide_eq_true (show b ≤ J 1 0 - 1 by omega)] at z2; cases z2
  rw [Bool.and_eq_true, decide_eq_true_eq, decide_eq_true_eq] at z2
  refine fl_186 hL hW (fun x hx => fl_188 ?_)
  rw [wy_cn hW z.1 (by omega) hx]
  have ca := (hW.2.2.2.2.1 a z.1 (by omega)).2.1
  have cb := (hW.2.2.2.2.1 b z2.1 (by omega)).2.1
  intro _
  refine ⟨fun e => k0 (fun q => by have := q.2.2.2.2.1; omega), fun e => ?_⟩
  refine fl_186 hL hW (fun x hx => fl_188 ?_)
  rw [wy_cn hW z2.1 (by omega) hx]
  intro _
  refine ⟨fun e2 => k0 (fun q => by have := q.2.2.2.2.2; omega), fun e2 => ?_⟩
  rw [hL.2.1]
  intro _
  refine ⟨fun e3 _ _ _ => ?_, fun e3 => k0 (fun q => by have := q.2.2.2.1; omega)⟩
  have ok : wy_ok J a b := ⟨⟨z.1, by omega⟩, ⟨z2.1, by omega⟩, ne, by omega, by omega, by omega⟩
  have K := k ok
  have A1 := hL.2.1
  generalize hn : J 1 1 = n at *
  obtain ⟨u, hu⟩ : ∃ u : lf_Z, u = (lf_up (lf_up s.1 96 (50 + 4 * n) a) 96 (50 + 4 * n + 1) b, s.2.1, s.2.2) := ⟨_, rfl⟩
  rw [← hu]
  have uc : ∀ q : Nat, q ≠ 96 → u.1 q = s.1 q := fun q hq => by rw [hu]; exact (zu_r hq).trans (lf_up_row hq)
  have u2 : u.2 = s.2 := by rw [hu]
  have ua : u.1 96 (50 + 4 * n) = a := by rw [hu]; exact (zu_i (by omega)).trans lf_up_s
  have ub : u.1 96 (50 + 4 * n + 1) = b := by rw [hu]; exact zu_s
  have uo : ∀ i : Int, i ≠ 50 + 4 * n → i ≠ 50 + 4 * n + 1 → u.1 96 i = s.1 96 i := fun i i0 i1 => by rw [hu]; exact (zu_i i1).trans (lf_up_i i0)
  have p106 : ∀ v : Int, v = c → fw_184_p106 Q (50 + 4 * n) (50 + 4 * n + 2) v u := by
    intro v hv
    unfold fw_184_p106
    obtain ⟨G, hG⟩ : ∃ G : Nat → Int → Int, G = lf_up (lf_up u.1 96 (50 + 4 * n + 2) v) 96 (50 + 4 * n + 3) 1 := ⟨_, rfl⟩
    rw [← hG]
    have g1 : G 96 1 = n := by rw [hG]; exact (lf_up_i (by omega)).trans ((lf_up_i (by omega)).trans ((uo 1 (by omega) (by omega)).trans A1))
    rw [g1]
    intro _ _ _
    obtain ⟨F, hF⟩ : ∃ F : Nat → Int → Int, F = lf_up G 96 (174 + 5 * n) 0 := ⟨_, rfl⟩
    rw [← hF]
    have f1 : F 96 1 = n := by rw [hF]; exact (lf_up_i (by omega)).trans g1
    rw [f1, show n + 1 - 1 = n by omega]
    have Fi : ∀ i : Int, i ≠ 174 + 5 * n → F 96 i = G 96 i := fun i hi => by rw [hF]; exact lf_up_i hi
    have gc : G 96 (50 + 4 * n + 2) = v := by rw [hG]; exact (lf_up_i (by omega)).trans lf_up_s
    have gd : G 96 (50 + 4 * n + 3) = 1 := by rw [hG]; exact lf_up_s
    have go : ∀ i : Int, i ≠ 50 + 4 * n + 2 → i ≠ 50 + 4 * n + 3 → G 96 i = u.1 96 i := fun i i0 i1 => by rw [hG]; exact (lf_up_i i1).trans (lf_up_i i0)
    refine K _ ⟨fun q hq => (zu_r hq).trans ?_, u2⟩ zu_s ((zu_i (by omega)).trans ((Fi _ (by omega)).trans ((go _ (by omega) (by omega)).trans ua))) ((zu_i (by omega)).trans ((Fi _ (by omega)).trans ((go _ (by omega) (by omega)).trans ub))) ((zu_i (by omega)).trans ((Fi _ (by omega)).trans (gc.trans hv))) ((zu_i (by omega)).trans ((Fi _ (by omega)).trans gd)) ((zu_i (by omega)).trans (by rw [hF]; exact lf_up_s)) (fun i i0 i1 i2 => (zu_i i0).trans ((Fi i i2).trans ((go i (by omega) (by omega)).trans (uo i (by omega) (by omega)))))
    rw [hF, hG]
    exact (lf_up_row hq).trans ((lf_up_row hq).trans ((lf_up_row hq).trans (uc q hq)))
  exact ⟨fun d => p106 0 d.symm, fun d => p106 1 (by omega)⟩
/-- land, stand with a way more -/
theorem wy_L (hL : rr_L J A) (hW : mn_W J) (ok : wy_ok J a b) (hR : wy_R J K a b c) (b1 : B 1 = J 1 1 + 1) (ba : B (50 + 4 * J 1 1) = a) (bb : B (50 + 4 * J 1 1 + 1) = b) (bc : B (50 + 4 * J 1 1 + 2) = c) (bo : ∀ i : Int, i ≠ 1 → ¬ (50 + 4 * J 1 1 ≤ i ∧ i ≤ 50 + 4 * J 1 1 + 3) → i ≠ 174 + 5 * J 1 1 → B i = A i) : rr_L K B := by
  obtain ⟨r0, ⟨r10, r11, r12⟩, rw_, _⟩ := hR
  obtain ⟨w0, w1, w2, _⟩ := hW
  have o16 := ok.2.2.2.1
  obtain ⟨l0, l1, l2, l3, l4, l5⟩ := hL
  refine ⟨(bo 0 (by omega) (by omega) (by omega)).trans (l0.trans r10.symm), b1.trans r11.symm, (bo 2 (by omega) (by omega) (by omega)).trans (l2.trans r12.symm), fun q q0 q1 => ?_, fun w x0 x1 => ?_, fun q q0 q1 => ?_⟩
  · rw [r0 2 (by decide) (by decide) (by decide) (by decide) (by decide) (by decide) (by decide), r0 3 (by decide) (by decide) (by decide) (by decide) (by decide) (by decide) (by decide), bo (14 + 3 * q) (by omega) (by omega) (by omega), bo (14 + 3 * q + 1) (by omega) (by omega) (by omega)]
    exact l3 q q0 (by omega)
  · rw [(rw_ w).1, (rw_ w).2.1, (rw_ w).2.2]
    by_cases y : w = J 1 1
    · rw [y, if_pos rfl, if_pos rfl, if_pos rfl]; exact ⟨ba, bb, bc⟩
    · rw [if_neg y, if_neg y, if_neg y, bo (50 + 4 * w) (by omega) (by omega) (by omega), bo (50 + 4 * w + 1) (by omega) (by omega) (by omega), bo (50 + 4 * w + 2) (by omega) (by omega) (by omega)]
      exact l4 w x0 (by omega)
  · rw [r0 7 (by decide) (by decide) (by decide) (by decide) (by decide) (by decide) (by decide), r0 8 (by decide) (by decide) (by decide) (by decide) (by decide) (by decide) (by decide), r0 9 (by decide) (by decide) (by decide) (by decide) (by decide) (by decide) (by decide), r0 10 (by decide) (by decide) (by decide) (by decide) (by decide) (by decide) (by decide), bo (126 + 6 * q + 0) (by omega) (by omega) (by omega), bo (126 + 6 * q + 1) (by omega) (by omega) (by omega), bo (126 + 6 * q + 2) (by omega) (by omega) (by omega), bo (126 + 6 * q + 5) (by omega) (by omega) (by omega)]
    exact l5 q q0 (by omega)
theorem wy_S (hS : rr_S (J 1 1) n2 f A) (hW : mn_W J) (ok : wy_ok J a b) (h6 : n2 ≤ 6) (hw : rr_W n1 (J 1 1) f) (bd : B (50 + 4 * J 1 1 + 3) = 1) (bo : ∀ i : Int, i ≠ 1 → ¬ (50 + 4 * J 1 1 ≤ i ∧ i ≤ 50 + 4 * J 1 1 + 3) → i ≠ 174 + 5 * J 1 1 → B i = A i) : rr_S (J 1 1 + 1) n2 f B := by
  have w1 := hW.2.1
  have o16 := ok.2.2.2.1
  obtain ⟨s1, s2, s3, s4, s5, s6⟩ := hS
  refine ⟨?_, ?_, fun q q0 q1 => ?_, fun q q0 q1 => ?_, fun q q0 q1 => ?_, fun w w0 w1 => ?_⟩
  · rw [bo 3 (by omega) (by omega) (by omega)]; exact s1
  · rw [bo 6 (by omega) (by omega) (by omega)]; exact s2
  · rw [bo (114 + 3 * q) (by omega) (by omega) (by omega), bo (114 + 3 * q + 1) (by omega) (by omega) (by omega), bo (114 + 3 * q + 2) (by omega) (by omega) (by omega)]; exact s3 q q0 q1
  · rw [bo (126 + 6 * q + 3) (by omega) (by omega) (by omega), bo (126 + 6 * q + 4) (by omega) (by omega) (by omega)]; exact s4 q q0 q1
  · rw [bo (14 + 3 * q + 2) (by omega) (by omega) (by omega)]; exact s5 q q0 q1
  · by_cases y : w = J 1 1
    · rw [y, bd]
      unfold rr_op
      rw [hw.2 (J 1 1) (Int.le_refl _) o16, if_neg (by decide)]
    · rw [bo (50 + 4 * w + 3) (by omega) (by omega) (by omega)]; exact s6 w w0 (by omega)
end WY
