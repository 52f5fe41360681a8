/-! what takes and pace say: the reference -/
section TRR
variable {J : Nat → Int → Int} {s t u : lf_Z} {f T : Int → Int} {X : mn_X} {a b p x r : Int}
def xr_n0 (N M : Int → Int) : Prop := ∀ i : Int, 0 ≤ i → i ≤ 4 → M i = N i
def xr_n1 (N M : Int → Int) : Prop := ∀ i : Int, 0 ≤ i → i ≤ 9 → i ≠ 4 → M i = N i
/-- nothing but the laws' scratch -/
def tr_f (s t : lf_Z) : Prop := (∀ c : Nat, c ≠ 104 → c ≠ 107 → t.1 c = s.1 c) ∧ t.2.2 = s.2.2 ∧ ∀ c : Nat, c ≠ 105 → c ≠ 106 → t.2.1 c = s.2.1 c
theorem tr_l6 {I F : Nat → Int → Int} {P : Nat → Option Nat} {i v : Int} : ∀ c : Nat, c ≠ 105 → c ≠ 106 → ((I, lf_up F 106 i v, P) : lf_Z).2.1 c = F c := fun c _ c2 => by show lf_up F 106 i v c = F c; exact lf_up_row c2
theorem tr_l5 {I F : Nat → Int → Int} {P : Nat → Option Nat} {i v : Int} : ∀ c : Nat, c ≠ 105 → c ≠ 106 → ((I, lf_up F 105 i v, P) : lf_Z).2.1 c = F c := fun c c1 _ => by show lf_up F 105 i v c = F c; exact lf_up_row c1
theorem tr_fr : tr_f s s := ⟨fun _ _ _ => rfl, rfl, fun _ _ _ => rfl⟩
theorem tr_ft (h : tr_f s t) (g : tr_f t u) : tr_f s u := ⟨fun c a b => (g.1 c a b).trans (h.1 c a b), g.2.1.trans h.2.1, fun c a b => (g.2.2 c a b).trans (h.2.2 c a b)⟩
theorem tr_104 {i v : Int} (h : tr_f s t) : tr_f s (lf_up t.1 104 i v, t.2.1, t.2.2) := ⟨fun c a b => (zu_r a).trans (h.1 c a b), h.2⟩
/-- the law that rules, in the reference: texts T, the text r -/
def xr_X (X : mn_X) (T : Int → Int) (r : Int) : Prop :=
  (∀ (u : lf_Z) (Q : Int → lf_Z → Prop) (N : Int → Int), u.1 98 = T → xr_n0 N (u.1 104) → cm_nm N → (∀ (v : Int) (w : lf_Z), tr_f u w → v = X.1 N → Q v w) → fw_267 r 0 1 2 Q u)
  ∧ ∀ (u : lf_Z) (Q : Int → lf_Z → Prop) (N : Int → Int) (d : Int), u.1 98 = T → xr_n1 N (u.1 104) → cm_nm N → d = (if 0 < N 6 then 0 else 5) → (∀ (v : Int) (w : lf_Z), tr_f u w → v = X.2 N → Q v w) → fw_267 r 1 d 10 Q u
theorem fl_265 {Q : Int → lf_Z → Prop} (hL : rr_L J (s.1 96)) (a0 : 0 ≤ a) (a1 : a < J 1 0) (h : Q (J 2 a) s) : fw_265 a Q s := by
  unfold fw_265
  rw [(hL.2.2.2.1 a a0 a1).1]
  exact fun _ => h
theorem fl_266 {n1 : Int} {Q : Int → lf_Z → Prop} (hL : rr_L J (s.1 96)) (hW : mn_W J) (hS : rr_S n1 (J 1 2) f (s.1 96)) (a0 : 0 ≤ a) (a1 : a < 31) (h : Q (mn_he J f a (J 1 2).toNat + (if bt_t (s.1 95 29) a = true then 1 else 0)) s) : fw_266 a Q s := by
  have w2 := hW.2.2.1
  have p16 : ∀ y : Int, y = (if bt_t (s.1 95 29) a = true then 1 else 0) → fw_266_p16 Q a y s := by
    intro y hy
    have yB : 0 ≤ y ∧ y ≤ 1 := by rw [hy]; split <;> omega
    unfold fw_266_p16
    refine ⟨fun x k u => u = s ∧ ∃ n : Nat, k = n ∧ k ≤ J 1 2 ∧ x = mn_he J f a n + y, ?_, ⟨rfl, 0, rfl, w2.1, (Int.zero_add y).symm⟩⟩
    intro x k u ⟨eu, n, ek, k1, ex⟩
    rw [eu]
    unfold fw_266_p19
    rw [hL.2.2.1]
    intro _ _
    have hB := mn_heB (J := J) (f := f) (x := a) n
    refine ⟨fun c => ?_, fun c => fl_239 ?_⟩
    · have : n = (J 1 2).toNat := by omega
      rw [ex, this, hy]; exact h
    · rw [(hS.2.2.2.1 k (by omega) (by omega)).1]
      intro _ _
      have e : mn_he J f a (n + 1) = mn_he J f a n + (if f (12 + 2 * (n : Int)) = a then 1 else 0) := rfl
      rw [← ek] at e
      refine ⟨fun d => ?_, fun d => ?_⟩
      · unfold fw_266_p45
        rw [if_neg d] at e
        rw [tr_w (by omega)]
        exact ⟨rfl, n + 1, by omega, by omega, by omega⟩
      · unfold fw_266_p45
        rw [if_pos (Classical.not_not.mp d)] at e
        rw [tr_w (by omega)]
        exact ⟨rfl, n + 1, by omega, by omega, by omega⟩
  unfold fw_266
  refine fl_210 a0 a1 ⟨fun z => p16 0 (by rw [z]; rfl), fun z => p16 1 (by rw [z]; rfl)⟩
/-- nerves, buckets -/
theorem fl_274 {n1 c : Int} {g : Int → Int} {Q : Int → lf_Z → Prop} (hL : rr_L J (s.1 96)) (hW : mn_W J) (hS : rr_S n1 (J 1 2) f (s.1 96)) (a0 : 0 ≤ a) (a1 : a < 31) (hg : ∀ q : Int, 0 ≤ g q ∧ g q ≤ 9) (hc : c = 0 ∨ c = 2) (hq : ∀ q : Int, 0 ≤ q → q < J 1 2 → s.1 96 (126 + 6 * q + c) = g q) (h30 : 0 ≤ s.1 95 30 ∧ s.1 95 30 ≤ 9) (h : Q ((if bt_t (s.1 95 29) a = true ∧ c = 0 then s.1 95 30 else 0) + mn_su g f a (J 1 2).toNat) s) : fw_274 a c Q s := by
  have w2 := hW.2.2.1
  have p23 : ∀ y : Int, y = (if bt_t (s.1 95 29) a = true ∧ c = 0 then s.1 95 30 else 0) → fw_274_p23 Q a c y s := by
    intro y hy
    have yB : 0 ≤ y ∧ y ≤ 9 := by rw [hy]; split <;> omega
    unfold fw_274_p23
    refine ⟨fun x k u => u = s ∧ ∃ n : Nat, k = n ∧ k ≤ J 1 2 ∧ x = y + mn_su g f a n, ?_, ⟨rfl, 0, rfl, w2.1, (Int.add_zero y).symm⟩⟩
    intro x k u ⟨eu, n, ek, k1, ex⟩
    rw [eu]
    have sB := mn_suB (f := f) (x := a) hg n
    unfold fw_274_p27
    rw [hL.2.2.1]
    intro _ _
    refine ⟨fun d => ?_, fun d => fl_239 ?_⟩
    · have : n = (J 1 2).toNat := by omega
      rw [ex, this, hy]; exact h
    · rw [(hS.2.2.2.1 k (by omega) (by omega)).1]
      have e : mn_su g f a (n + 1) = mn_su g f a n + (if f (12 + 2 * (n : Int)) = a then g n else 0) := rfl
      rw [← ek] at e
      have gk := hg k
      intro _ _
      refine ⟨fun q => ?_, fun q => ?_⟩
      · unfold fw_274_p61
        rw [if_neg q] at e
        rw [tr_w (by omega)]
        exact ⟨rfl, n + 1, by omega, by omega, by omega⟩
      · rw [if_pos (Classical.not_not.mp q)] at e
        unfold fw_239c
        intro _
        unfold fw_274_p61
        rw [hq k (by omega) (by omega), tr_w (by omega)]
        exact ⟨rfl, n + 1, by omega, by omega, by omega⟩
  unfold fw_274
  refine fl_210 a0 a1 ⟨fun z => ?_, fun z _ => ⟨fun d => ?_, fun d => ?_⟩⟩
  · unfold fw_274_p22
    exact p23 0 (by rw [z, if_neg (fun q => by cases q.1)])
  · unfold fw_274_p22
    exact p23 0 (by rw [if_neg (fun q => d q.2)])
  · exact p23 _ (by rw [if_pos ⟨z, Classical.not_not.mp d⟩])
/-- the names in all -/
theorem fl_264 {n1 : Int} {Q : lf_Z → Prop} (hL : rr_L J (s.1 96)) (hW : mn_W J) (hS : rr_S n1 (J 1 2) f (s.1 96)) (hb : 0 ≤ b ∧ b < J 1 0) (k : ∀ t : lf_Z, tr_f s t → t.2 = s.2 → t.1 104 0 = a → t.1 104 1 = b → t.1 104 2 = J 2 b → t.1 104 3 = mn_he J f b (J 1 2).toNat + (if bt_t (s.1 95 29) b = true then 1 else 0) → (∀ i : Int, 4 ≤ i → t.1 104 i = s.1 104 i) → Q t) : fw_264 a b Q s := by
  have w0 := hW.1
  unfold fw_264
  obtain ⟨u, hu⟩ : ∃ u : lf_Z, u = (lf_up (lf_up s.1 104 0 a) 104 1 b, s.2.1, s.2.2) := ⟨_, rfl⟩
  rw [← hu]
  have uc : ∀ c : Nat, c ≠ 104 → u.1 c = s.1 c := fun c hc => by rw [hu]; exact (zu_r hc).trans (lf_up_row hc)
  have u0 : u.1 104 0 = a := by rw [hu]; exact (zu_i (by decide)).trans lf_up_s
  have u1 : u.1 104 1 = b := by rw [hu]; exact zu_s
  have ui : ∀ i : Int, 2 ≤ i → u.1 104 i = s.1 104 i := fun i hi => by rw [hu]; exact (zu_i (by omega)).trans (lf_up_i (by omega))
  have u2 : u.2 = s.2 := by rw [hu]
  refine fl_265 (by rw [uc 96 (by decide)]; exact hL) hb.1 hb.2 ?_
  obtain ⟨v, hv⟩ : ∃ v : lf_Z, v = (lf_up u.1 104 2 (J 2 b), u.2.1, u.2.2) := ⟨_, rfl⟩
  rw [← hv]
  have vc : ∀ c : Nat, c ≠ 104 → v.1 c = s.1 c := fun c hc => by rw [hv]; exact (zu_r hc).trans (uc c hc)
  have vi : ∀ i : Int, i ≠ 2 → v.1 104 i = u.1 104 i := fun i hi => by rw [hv]; exact zu_i hi
  have v2 : v.1 104 2 = J 2 b := by rw [hv]; exact zu_s
  have vJ : v.2 = s.2 := by rw [hv]; exact u2
  refine fl_266 (n1 := n1) (f := f) (by rw [vc 96 (by decide)]; exact hL) hW (by rw [vc 96 (by decide)]; exact hS) hb.1 (by omega) ?_
  rw [vc 95 (by decide)]
  exact k _ ⟨fun c h1 h2 => (zu_r h1).trans (vc c h1), by show v.2.2 = s.2.2; rw [vJ], fun c _ _ => by show v.2.1 c = s.2.1 c; rw [vJ]⟩ vJ ((zu_i (by decide)).trans ((vi 0 (by decide)).trans u0)) ((zu_i (by decide)).trans ((vi 1 (by decide)).trans u1)) ((zu_i (by decide)).trans v2) zu_s (fun i hi => (zu_i (by omega)).trans ((vi i (by omega)).trans (ui i (by omega))))
/-- takesOf -/
theorem fl_273 {size s0 came w : Int} {Q : Int → lf_Z → Prop} (hL : rr_L J (s.1 96)) (hW : mn_W J) (hB : mn_B J) (hV : mn_V J) (hS : rr_S (J 1 1) (J 1 2) f (s.1 96)) (hX : xr_X X T (s.1 96 8)) (hT : s.1 98 = T) (hs : 0 ≤ s0 ∧ s0 < J 1 0) (w0 : 0 ≤ w) (w1 : w < J 1 1) (h30 : 0 ≤ s.1 95 30 ∧ s.1 95 30 ≤ 9) (hNm : cm_nm (mn_ng J f size s0 w (if mn_ac J w s0 = came then 1 else 0) (if bt_t (s.1 95 29) s0 = true then 1 else 0) (if bt_t (s.1 95 29) (mn_ac J w s0) = true then s.1 95 30 else 0)))
    (k : ∀ (v : Int) (t : lf_Z), tr_f s t → v = (if mn_at J s0 w.toNat = false ∨ J 6 w ≠ 0 ∨ bt_t (f 36) w = true ∨ bt_t (s.1 95 31) w = true then 0 else X.2 (mn_ng J f size s0 w (if mn_ac J w s0 = came then 1 else 0) (if bt_t (s.1 95 29) s0 = true then 1 else 0) (if bt_t (s.1 95 29) (mn_ac J w s0) = true then s.1 95 30 else 0))) → Q v t) : fw_273 size s0 came w Q s := by
  have n0 := hW.1
  have n1 := hW.2.1
  have q4 := hW.2.2.2.1 w w0 w1
  have ewn : ((w.toNat : Nat) : Int) = w := by omega
  have atI : mn_at J s0 w.toNat = true ↔ 0 ≤ mn_ac J w s0 := by
    rw [mn_atE, ewn]
    unfold mn_ac
    (repeat' split) <;> omega
  unfold fw_273
  refine fl_187 hL w0 w1 ?_
  intro _
  refine ⟨fun c => k 0 s tr_fr ?_, fun c => fl_252 hL w0 w1 ⟨fun z => k 0 s tr_fr ?_, fun z => fl_245 ⟨fun z2 => k 0 s tr_fr ?_, fun z2 => fl_210 w0 (by omega) ⟨fun z3 => ?_, fun z3 => k 0 s tr_fr ?_⟩⟩⟩⟩
  · rw [if_pos]
    cases h : mn_at J s0 w.toNat with
    | false => exact Or.inl rfl
    | true => exact absurd (atI.mp h) (by omega)
  · have z := of_decide_eq_true z
    rw [if_pos (Or.inr (Or.inl (by omega)))]
  · have z2 := of_decide_eq_false z2
    rw [hS.2.2.2.2.2 w w0 w1] at z2
    rw [if_pos (Or.inr (Or.inr (Or.inl ?_)))]
    unfold rr_op at z2
    cases h : bt_t (f 36) w with
    | true => rfl
    | false => rw [h] at z2; exact absurd rfl z2
  · have hat := atI.mpr (by omega)
    have z := of_decide_eq_false z
    have b6 := hB.1 w
    have z2 := of_decide_eq_true z2
    rw [hS.2.2.2.2.2 w w0 w1] at z2
    have sh : bt_t (f 36) w = false := by
      unfold rr_op at z2
      cases h : bt_t (f 36) w with
      | false => rfl
      | true => rw [h] at z2; cases z2
    rw [if_neg (fun q => by
      rcases q with q | q | q | q
      · rw [hat] at q; cases q
      · omega
      · rw [sh] at q; cases q
      · rw [z3] at q; cases q)] at k
    have acB : mn_ac J w s0 < J 1 0 := by
      unfold mn_ac at c ⊢
      (repeat' split) <;> omega
    generalize hto : mn_ac J w s0 = to at *
    refine fl_264 (n1 := J 1 1) (f := f) hL hW hS hs (fun t tf t2 a0 a1 a2 a3 ai => ?_)
    have tL : rr_L J (t.1 96) := by rw [tf.1 96 (by decide) (by decide)]; exact hL
    refine fl_265 tL (by omega) acB ?_
    obtain ⟨u, hu⟩ : ∃ u : lf_Z, u = (lf_up t.1 104 5 (J 2 to), t.2.1, t.2.2) := ⟨_, rfl⟩
    rw [← hu]
    have uf : tr_f s u := by rw [hu]; exact tr_104 tf
    have ui : ∀ i : Int, i ≠ 5 → u.1 104 i = t.1 104 i := fun i hi => by rw [hu]; exact zu_i hi
    have u5 : u.1 104 5 = J 2 to := by rw [hu]; exact zu_s
    have u96 : u.1 96 = s.1 96 := uf.1 96 (by decide) (by decide)
    have u95 : u.1 95 = s.1 95 := uf.1 95 (by decide) (by decide)
    refine fl_274 (n1 := J 1 1) (f := f) (g := J 7) (by rw [u96]; exact hL) hW (by rw [u96]; exact hS) (by omega) (by omega) (fun q => (hV q).1) (Or.inl rfl) (fun q q0 q1 => by rw [u96]; exact (hL.2.2.2.2.2 q q0 q1).1) (by rw [u95]; exact h30) ?_
    rw [u95]
    obtain ⟨v, hv⟩ : ∃ v : lf_Z, v = (lf_up u.1 104 6 ((if bt_t (s.1 95 29) to = true ∧ (0 : Int) = 0 then s.1 95 30 else 0) + mn_su (J 7) f to (J 1 2).toNat), u.2.1, u.2.2) := ⟨_, rfl⟩
    rw [← hv]
    have vf : tr_f s v := by rw [hv]; exact tr_104 uf
    have vi : ∀ i : Int, i ≠ 6 → v.1 104 i = u.1 104 i := fun i hi => by rw [hv]; exact zu_i hi
    have v6 : v.1 104 6 = (if bt_t (s.1 95 29) to = true then s.1 95 30 else 0) + mn_su (J 7) f to (J 1 2).toNat := by
      rw [hv]
      refine zu_s.trans ?_
      by_cases y : bt_t (s.1 95 29) to = true
      · rw [if_pos y, if_pos ⟨y, rfl⟩]
      · rw [if_neg y, if_neg (fun q => y q.1)]
    have v96 : v.1 96 = s.1 96 := vf.1 96 (by decide) (by decide)
    have v95 : v.1 95 = s.1 95 := vf.1 95 (by decide) (by decide)
    refine fl_274 (n1 := J 1 1) (f := f) (g := J 9) (by rw [v96]; exact hL) hW (by rw [v96]; exact hS) (by omega) (by omega) (fun q => by have := (hB.2 q).2; omega) (Or.inr rfl) (fun q q0 q1 => by rw [v96]; exact (hL.2.2.2.2.2 q q0 q1).2.2.1) (by rw [v95]; exact h30) ?_
    rw [if_neg (fun q => absurd q.2 (by decide)), Int.zero_add]
    intro _
    obtain ⟨y, hy⟩ : ∃ y : lf_Z, y = (lf_up v.1 104 7 (mn_su (J 9) f to (J 1 2).toNat), v.2.1, v.2.2) := ⟨_, rfl⟩
    rw [← hy]
    have yf : tr_f s y := by rw [hy]; exact tr_104 vf
    have yi : ∀ i : Int, i ≠ 7 → y.1 104 i = v.1 104 i := fun i hi => by rw [hy]; exact zu_i hi
    have y7 : y.1 104 7 = mn_su (J 9) f to (J 1 2).toNat := by rw [hy]; exact zu_s
    have p109 : ∀ back : Int, back = (if to = came then 1 else 0) → fw_273_p109 Q w 8 back y := by
      intro back hb
      unfold fw_273_p109
      have y6 : (lf_up y.1 104 8 back) 104 6 = (if bt_t (s.1 95 29) to = true then s.1 95 30 else 0) + mn_su (J 7) f to (J 1 2).toNat := (lf_up_i (by decide)).trans ((yi 6 (by decide)).trans v6)
      rw [y6]
      have y8 : y.1 96 8 = s.1 96 8 := by rw [yf.1 96 (by decide) (by decide)]
      rw [y8]
      intro _ _
      obtain ⟨g, hg⟩ : ∃ g : lf_Z, g = (lf_up (lf_up y.1 104 8 back) 104 9 w, y.2.1, y.2.2) := ⟨_, rfl⟩
      rw [← hg]
      have gf : tr_f s g := by
        rw [hg]
        exact tr_ft yf ⟨fun c a b => (zu_r a).trans (lf_up_row a), rfl, fun _ _ _ => rfl⟩
      have gi : ∀ i : Int, i ≠ 8 → i ≠ 9 → g.1 104 i = y.1 104 i := fun i h1 h2 => by rw [hg]; exact (zu_i h2).trans (lf_up_i h1)
      have g8 : g.1 104 8 = back := by rw [hg]; exact (zu_i (by decide)).trans lf_up_s
      have g9 : g.1 104 9 = w := by rw [hg]; exact zu_s
      have gT : g.1 98 = T := (gf.1 98 (by decide) (by decide)).trans hT
      have lo : ∀ i : Int, 0 ≤ i → i ≤ 3 → g.1 104 i = t.1 104 i := fun i i0 i1 => (gi i (by omega) (by omega)).trans ((yi i (by omega)).trans ((vi i (by omega)).trans (ui i (by omega))))
      have nn : xr_n1 (mn_ng J f size s0 w (if to = came then 1 else 0) (if bt_t (s.1 95 29) s0 = true then 1 else 0) (if bt_t (s.1 95 29) to = true then s.1 95 30 else 0)) (g.1 104) := by
        intro i i0 i1 i4
        rcases (show i = 0 ∨ i = 1 ∨ i = 2 ∨ i = 3 ∨ i = 5 ∨ i = 6 ∨ i = 7 ∨ i = 8 ∨ i = 9 by omega) with e | e | e | e | e | e | e | e | e
        · subst e; exact (lo 0 (by decide) (by decide)).trans a0
        · subst e; exact (lo 1 (by decide) (by decide)).trans a1
        · subst e; exact (lo 2 (by decide) (by decide)).trans a2
        · subst e; exact (lo 3 (by decide) (by decide)).trans a3
        · subst e
          show g.1 104 5 = J 2 (mn_ac J w s0)
          rw [hto]
          exact (gi 5 (by decide) (by decide)).trans ((yi 5 (by decide)).trans ((vi 5 (by decide)).trans u5))
        · subst e
          show g.1 104 6 = _ + mn_su (J 7) f (mn_ac J w s0) (J 1 2).toNat
          rw [hto]
          exact (gi 6 (by decide) (by decide)).trans ((yi 6 (by decide)).trans v6)
        · subst e
          show g.1 104 7 = mn_su (J 9) f (mn_ac J w s0) (J 1 2).toNat
          rw [hto]
          exact (gi 7 (by decide) (by decide)).trans y7
        · subst e; exact g8.trans hb
        · subst e; exact g9
      have n6 : (mn_ng J f size s0 w (if to = came then 1 else 0) (if bt_t (s.1 95 29) s0 = true then 1 else 0) (if bt_t (s.1 95 29) to = true then s.1 95 30 else 0)) 6 = (if bt_t (s.1 95 29) to = true then s.1 95 30 else 0) + mn_su (J 7) f to (J 1 2).toNat := by
        show _ + mn_su (J 7) f (mn_ac J w s0) (J 1 2).toNat = _
        rw [hto]
      refine ⟨fun d => ?_, fun d => ?_⟩
      · unfold fw_273_p143
        exact hX.2 g _ _ 5 gT nn hNm (by rw [n6, if_neg (by omega)]) (fun v w wf hv => k v w (tr_ft gf wf) hv)
      · unfold fw_273_p143
        exact hX.2 g _ _ 0 gT nn hNm (by rw [n6, if_pos (by omega)]) (fun v w wf hv => k v w (tr_ft gf wf) hv)
    exact ⟨fun q => p109 0 (by rw [if_neg q]), fun q => p109 1 (by rw [if_pos (Classical.not_not.mp q)])⟩
  · rw [if_pos (Or.inr (Or.inr (Or.inr z3)))]
end TRR
