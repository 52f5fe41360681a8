/-! after: both sides -/
section AV
variable {J K : Nat → Int → Int} {s t u : lf_Z} {f g sv M : Int → Int} {H : List rr_H} {X : mn_X} {I : Nat → Int → Int} {a c i x y z : Int}
theorem en_uE {S : Type} {Inv : S → Prop} {g : Nat → S → S} {m e0 : Nat} (h : ∀ e, e < m → ∀ st, Inv st → Inv (g e st)) (h0 : ∀ st, Inv (g e0 st)) : ∀ (k a : Nat) (st : S), a + k ≤ m → a ≤ e0 → e0 < a + k → Inv (en_u g k a st) := by
  intro k
  induction k with
  | zero => intro a st _ h1 h2; omega
  | succ k ih =>
    intro a st ha h1 h2
    show Inv (en_u g k (a + 1) (g a st))
    by_cases q : a = e0
    · rw [q]
      exact (en_uC (S := S) (Inv := Inv) (g := g) (g' := g) (m := m) (fun e he st hi => ⟨rfl, h e he st hi⟩) k (e0 + 1) (g e0 st) (by omega) (h0 st)).2
    · exact ih (a + 1) (g a st) (by omega) (by omega) (by omega)
theorem en_AE {S : Type} {Inv : S → Prop} {m : Nat} : ∀ (n : Nat) (F : List Nat → S → S) (r0 : List Nat) (st : S), r0.length = n → (∀ y ∈ r0, y < m) → (∀ r : List Nat, r.length = n → (∀ y ∈ r, y < m) → ∀ st, Inv st → Inv (F r st)) → (∀ st, Inv (F r0 st)) → Inv (en_A m n F st) := by
  intro n
  induction n with
  | zero =>
    intro F r0 st hr _ _ h0
    have e : r0 = [] := List.eq_nil_of_length_eq_zero hr
    rw [e] at h0
    exact h0 st
  | succ n ih =>
    intro F r0 st hr hy h h0
    cases r0 with
    | nil => cases hr
    | cons e0 r0 =>
      have he := hy e0 (List.mem_cons.mpr (Or.inl rfl))
      have hl : r0.length = n := by rw [List.length_cons] at hr; omega
      have rows : ∀ e : Nat, e < m → ∀ r : List Nat, r.length = n → (∀ y ∈ r, y < m) → ∀ st, Inv st → Inv (F (e :: r) st) := fun e he r hr hy st hi => h (e :: r) (by rw [List.length_cons, hr]) (fun y hm => by
        rcases List.mem_cons.mp hm with q | q
        · rw [q]; exact he
        · exact hy y q) st hi
      exact en_uE (S := S) (Inv := Inv) (g := fun e => en_A m n (fun r => F (e :: r))) (m := m) (e0 := e0) (fun e he st hi => (en_AC (S := S) (Inv := Inv) (m := m) n (fun r => F (e :: r)) (fun r => F (e :: r)) st (fun r hr hy st hi => ⟨rfl, rows e he r hr hy st hi⟩) hi).2) (fun st => ih (fun r => F (e0 :: r)) r0 st hl (fun y hm => hy y (List.mem_cons_of_mem _ hm)) (rows e0 he) h0) m 0 st (by omega) (Nat.zero_le _) (by omega)
theorem af_eA : af_R J f a = en_A (ag_n f) (ag_n f) (fun r => en_l (af_st J f a) af_v (ag_l f) r 0 ([], f (12 + 2 * a), 0, 0) []) (-1, []) := en_DL (P := af_P f) (m := 4) (l := ag_l f) (fun i w p hp => if_neg (fun q => by rw [hp] at q; cases q.1)) (fun p hp hP => en_selE hp hP) (ag_n f) 0 ([], f (12 + 2 * a), 0, 0) [] (-1, [])
theorem af_eY (hW : mn_W J) (hpl : ∀ e : Nat, e < ag_n f → 0 ≤ af_at f e ∧ af_at f e < J 1 0) (hb : ∀ e : Nat, e < ag_n f → 0 ≤ af_h J f (ag_l f e)) (pa : 0 ≤ f (12 + 2 * a) ∧ f (12 + 2 * a) < J 1 0) (hx : ∀ e : Nat, e < ag_n f → wm_t J a (f (12 + 2 * a)) (af_at f e) ≠ -1) : af_R J f a = en_A (ag_n f) (ag_n f) (af_lf J f a) (-1, []) := by
  rw [af_eA]
  refine (en_AC (S := en_S) (Inv := fun _ => True) (m := ag_n f) (ag_n f) _ (af_lf J f a) (-1, []) (fun r hr hy st _ => ⟨?_, True.intro⟩) True.intro).1
  exact af_lE hW hpl (fun e e' he he' => wm_tT hW (hpl e he) pa (hpl e' he') (wm_tS hW pa (hpl e he) (hx e he)) (hx e' he')) hb r 0 [] (f (12 + 2 * a)) 0 0 [] st hy (fun y hm => by cases hm) pa hx (Int.le_refl 0)
theorem af_eN (hW : mn_W J) (hpl : ∀ e : Nat, e < ag_n f → 0 ≤ af_at f e ∧ af_at f e < J 1 0) (pa : 0 ≤ f (12 + 2 * a) ∧ f (12 + 2 * a) < J 1 0) {k : Nat} (hk : k < ag_n f) (hN : wm_t J a (f (12 + 2 * a)) (af_at f k) = -1) : (af_R J f a).1 = -1 := by
  have e : af_R J f a = en_A (ag_n f) (ag_n f) (fun _ st => st) (-1, []) := by
    rw [af_eA]
    refine (en_AC (S := en_S) (Inv := fun _ => True) (m := ag_n f) (ag_n f) _ (fun _ st => st) (-1, []) (fun r hr hy st _ => ⟨?_, True.intro⟩) True.intro).1
    cases q : en_d [] r with
    | true =>
      refine af_lN hW hpl pa hk hN r 0 [] (f (12 + 2 * a)) 0 0 [] st hy (en_dP hr hy q hk) pa (fun z => ?_)
      have z := (wm_tN hW pa pa).mp z
      have zz := hW.2.2.2.2.2.1.1 (f (12 + 2 * a)) pa.1 pa.2
      omega
    | false => exact af_lD r 0 [] (f (12 + 2 * a), 0, 0) [] st hy (fun y hm => by cases hm) q
  rw [e, en_AI (ag_n f) (fun _ st => st) (-1, []) (fun _ => rfl)]
theorem en_dr : ∀ n : Nat, n ≤ 4 → en_d [] (List.range n) = true := by decide +kernel
theorem gq_311 {Q : Int → lf_Z → Prop} (h3 : ∀ q : Int, 0 ≤ q → q < J 1 0 → 0 ≤ J 3 q ∧ J 3 q ≤ 99) (hF : gf_T J f H) (hR : gr_T sv J f H (s.1 96)) (h : ∀ t : lf_Z, Q (qb_154 a i X J f) t) : fw_311 a i Q s := by
  have hW := hF.1.1
  have hB := hF.1.2.1
  have gI := hF.2.1.1
  have e2 : s.1 96 2 = J 1 2 := hR.1.2.2.1
  have n4 : ag_n f ≤ 4 := dm_cnB (P := af_P f) 4
  have no : ¬ ((0 ≤ a ∧ a < J 1 2) ∧ -1 ≤ i ∧ ag_n f ≠ 0 ∧ (af_R J f a).1 ≠ -1 ∧ i < ag_n f) → ∀ t : lf_Z, Q (-1) t := fun q t => qu_to (h t) (if_neg q)
  unfold fw_311 fw_249
  refine fl_183 ⟨fun q => no (fun y => bd_f q ⟨y.1.1, by have := y.1.2; omega⟩) s, fun q _ => ⟨fun y => ?_, fun y => no (fun v => y v.2.1) s⟩⟩
  have q := bd_t q
  have ha : 0 ≤ a ∧ a < J 1 2 := ⟨q.1, by omega⟩
  have pa := (hF.2.1.1.1 a ha.1 ha.2).1
  have hpl' : ∀ p : Nat, af_P f p = true → (0 ≤ f (3 * (p : Int) + 1) ∧ f (3 * (p : Int) + 1) < J 1 0) ∧ 0 ≤ f (3 * (p : Int)) ∧ f (3 * (p : Int)) ≤ 24 := fun p hp => by
    unfold af_P at hp
    have hp := bd_t hp
    exact ⟨(gp_at gI (b := (p : Int)) (by omega) (by omega) hp.2).1, gp_sz gI (by omega) (by omega)⟩
  have hpl : ∀ e : Nat, e < ag_n f → 0 ≤ af_at f e ∧ af_at f e < J 1 0 := fun e he => (hpl' _ (af_lI he).1).1
  have hb : ∀ e : Nat, e < ag_n f → 0 ≤ af_h J f (ag_l f e) := fun e he => (af_hB h3 (hpl' _ (af_lI he).1).1 (hpl' _ (af_lI he).1).2.1 (hpl' _ (af_lI he).1).2.2).1
  have hv0 : ∀ r : List Nat, (∀ y ∈ r, y < ag_n f) → 0 ≤ af_hv J f a r (f (12 + 2 * a)) 0 0 := fun r hy => af_hvB hW hpl hb r (f (12 + 2 * a)) 0 0 hy pa (Int.le_refl 0) (Int.le_refl 0)
  refine fl_312 hW hB hR.1 hR.2.1 ha pa (fun b b0 b1 => (gp_sz gI b0 b1).1) hpl' (fun t tc t2 t118 tb => ?_)
  intro _
  refine ⟨fun n0 => no (fun v => by have := v.2.2.1; omega) t, fun n0 => ⟨fun il => ?_, fun il => no (fun v => il v.2.2.2.2) t⟩⟩
  have n0 : ag_n f ≠ 0 := by omega
  have t96 : t.1 96 = s.1 96 := tc 96 (by decide) (by decide) (by decide)
  have tE : af_E J f a t := by
    refine ⟨t118, tb, fun e he => ?_⟩
    obtain ⟨q1, q2, _⟩ := af_lI he
    have q1' := q1
    unfold af_P at q1'
    have z := (bd_t q1').2
    have pe := hpl e he
    rw [t96]
    obtain ⟨c0, c1⟩ := hR.2.1.2.2.1 (ag_l f e : Nat) (by omega) (by omega)
    exact ⟨c0, (c1 (by omega)).1, (hR.1.2.2.2.1 (af_at f e) pe.1 pe.2).2⟩
  refine ⟨fun x4 t' => t' = t ∧ ∃ m : Nat, x4 = m ∧ m ≤ ag_n f ∧ ∀ e : Nat, e < m → wm_t J a (f (12 + 2 * a)) (af_at f e) ≠ -1, ?_, ⟨rfl, 0, rfl, Nat.zero_le _, fun e he => absurd he (Nat.not_lt_zero _)⟩⟩
  intro x4 t' ⟨et, m, e4, m1, hm⟩
  rw [et]
  unfold fw_311_p35
  rw [e4]
  intro _ _
  refine ⟨fun y2 => ?_, fun y2 _ => ?_⟩
  · have em : m = ag_n f := by omega
    rw [em] at hm
    have eY := af_eY hW hpl hb pa hm
    have rR : (af_R J f a).1 ≠ -1 := by
      rw [eY]
      refine en_AE (S := en_S) (Inv := fun st => st.1 ≠ -1) (m := ag_n f) (ag_n f) (af_lf J f a) (List.range (ag_n f)) (-1, []) List.length_range (fun y hy => List.mem_range.mp hy) (fun r hr hy st hi => ?_) (fun st => ?_)
      · unfold af_lf
        split
        · unfold en_up
          split
          · have := hv0 r hy
            show af_hv J f a r (f (12 + 2 * a)) 0 0 ≠ -1
            omega
          · exact hi
        · exact hi
      · unfold af_lf
        rw [if_pos (en_dr (ag_n f) n4)]
        unfold en_up
        by_cases w : st.1 = -1 ∨ af_hv J f a (List.range (ag_n f)) (f (12 + 2 * a)) 0 0 < st.1
        · rw [if_pos w]
          have := hv0 (List.range (ag_n f)) (fun y hy => List.mem_range.mp hy)
          show af_hv J f a (List.range (ag_n f)) (f (12 + 2 * a)) 0 0 ≠ -1
          omega
        · rw [if_neg w]
          exact fun z => w (Or.inl z)
    have e : qb_154 a i X J f = (if i = -1 then (af_R J f a).1 else (((af_R J f a).2.getD i.toNat 0 : Nat) : Int)) := if_pos ⟨ha, y, n0, rR, il⟩
    refine ⟨fun x t' => wr_f t t' ∧ 0 ≤ x ∧ ∀ j : Int, 0 ≤ j → j < x → t'.1 116 j = 0, ?_, ⟨⟨fun _ _ _ => rfl, rfl⟩, Int.le_refl 0, fun j h1 h2 => by omega⟩⟩
    intro x t' ⟨tf, x0, tz⟩
    unfold fw_311_p71
    intro _ _
    refine ⟨fun y3 => ?_, fun y3 _ => ⟨⟨fun c h1 h2 => (zu_r h1).trans (tf.1 c h1 h2), tf.2⟩, by omega, fun j h1 h2 => ?_⟩⟩
    · refine fl_311l (J := J) (f := f) (a := a) (T := en_A (ag_n f) (ag_n f) (af_lf J f a) (-1, [])) (by omega) (af_Ef tE tf) hv0 ⟨⟨fun _ _ _ => rfl, rfl⟩, (-1, []), ⟨rfl, Or.inl rfl⟩, Or.inr ⟨rfl, List.replicate (ag_n f) 0, List.length_replicate, fun y hy => by rw [List.eq_of_mem_replicate hy]; omega, fun j p hj => ?_, en_FA (by omega) (ag_n f) (af_lf J f a) (-1, [])⟩⟩ (fun x u uf us => ?_)
      · have jl := wm_lt hj
        rw [List.length_replicate] at jl
        rw [List.getElem?_replicate, if_pos jl] at hj
        have p0 : p = 0 := (Option.some.inj hj).symm
        rw [tz j (by omega) (by omega), p0]
        rfl
      · rw [← eY] at us
        obtain ⟨ux, uD⟩ := us
        obtain ⟨D, hD, hDb, eD, cD⟩ : ∃ D : List Nat, D.length = ag_n f ∧ (∀ y ∈ D, y < ag_n f) ∧ (af_R J f a).2 = D.map (ag_l f) ∧ en_h (u.1 117) D := by
          rcases uD with w | w
          · exact absurd w rR
          · exact w.2
        refine ⟨fun i1 _ _ => ?_, fun i1 => qu_to (h u) ?_⟩
        · have il' : i.toNat < D.length := by omega
          have cm := cD i.toNat D[i.toNat] (List.getElem?_eq_getElem il')
          rw [show ((i.toNat : Nat) : Int) = i by omega] at cm
          have Db := hDb D[i.toNat] (List.getElem_mem il')
          have uE := af_Ef (af_Ef tE tf) uf
          rw [cm, uE.1 D[i.toNat] Db]
          refine qu_to (h u) ?_
          rw [e, if_neg i1, eD]
          simp only [List.getD_eq_getElem?_getD, List.getElem?_map, List.getElem?_eq_getElem il', Option.map_some, Option.getD_some]
        · rw [e, if_pos (Classical.not_not.mp i1), ux]
    · by_cases q : j = x
      · rw [q]; exact zu_s
      · exact (zu_i q).trans (tz j h1 (by omega))
  · have ml : m < ag_n f := by omega
    have pm := hpl m ml
    have tB := wm_tB (a := a) hW pa pm
    rw [tb.2 m ml]
    intro _
    refine ⟨fun y3 => ⟨rfl, m + 1, by omega, by omega, fun e he => ?_⟩, fun y3 => no (fun v => v.2.2.2.1 (af_eN hW hpl pa ml ?_)) t⟩
    · by_cases q : e = m
      · rw [q]
        intro z
        unfold wm_r at y3
        rw [if_pos z] at y3
        omega
      · exact hm e (by omega)
    · by_cases z : wm_t J a (f (12 + 2 * a)) (af_at f m) = -1
      · exact z
      · unfold wm_r at y3
        rw [if_neg z] at y3
        omega
end AV
/-! within the law -/
section QM
variable {s : lf_Z} {a1 a2 : Int} {Q : Int → lf_Z → Prop} {p : Int → Prop}
def gx_S154 (a1 a2 : Int) (r : Int) (I : Nat → Int → Int) (P : Nat → Option Nat) : Prop := gx_B (qb_154 a1 a2) r I P
def gx_R154 (a1 a2 : Int) (p : Int → Prop) (I : Nat → Int → Int) (P : Nat → Option Nat) : Prop := gx_MP (gx_S154 a1 a2) p I P
theorem gx_154 (hI : iv_A s.1 s.2.2) (ba1 : (-2147483648) ≤ a1 ∧ a1 ≤ 2147483647) (ba2 : (-2147483648) ≤ a2 ∧ a2 ≤ 2147483647) (hA : gx_A s.1 s.2.2) (hQ : ∀ (r : Int) (s' : lf_Z), iv_A s'.1 s'.2.2 → lf_fq [74, 76, 77] 1000000 true s.1 s.2.2 s'.1 s'.2.2 → gx_S154 a1 a2 r s'.1 s'.2.2 → ((-2147483648) ≤ r ∧ r ≤ 2147483647) → Q r s') : fm_154 a1 a2 Q s := by
  have hA' := hA
  obtain ⟨⟨f, H, hF, hC, hR⟩, hD⟩ := hA'
  obtain ⟨X, hB, hX, hXr⟩ := gx_X hD.2.2.1 hD.2.2.2.1.2.2.2.1 hD.2.2.2.2.2.2.2
  refine cj_154 (Q1 := fun r s' => iv_A s'.1 s'.2.2 ∧ lf_fq [74, 76, 77] 1000000 true s.1 s.2.2 s'.1 s'.2.2 ∧ ((-2147483648) ≤ r ∧ r ≤ 2147483647)) (Q2 := fun r t => r = qb_154 a1 a2 X s.1 f) (fun r s' h1 h2 => hQ r s' h1.1 h1.2.1 ⟨⟨X, s.1, f, H, hB, ?_, hF, ?_, h2⟩, gx_fq hA h1.2.1 rfl⟩ h1.2.2) (sm_154 hI ba1 ba2 (fun r s' h1 h2 h3 => ⟨h1, h2, h3⟩)) (gq_154 (fun q _ _ => hI.1 3 q) hF hC (fun _ => rfl))
  · rw [h1.2.1.1 98 rfl, h1.2.1.1 96 rfl]; exact hXr.1
  · rw [h1.2.1.1 28 rfl, h1.2.1.1 96 rfl]; exact hR
theorem gx_311 (hI : iv_A s.1 s.2.2) (ba1 : (-2147483648) ≤ a1 ∧ a1 ≤ 2147483647) (ba2 : (-2147483648) ≤ a2 ∧ a2 ≤ 2147483647) (hM : gx_R154 a1 a2 p s.1 s.2.2) (hQ : ∀ (r : Int) (s' : lf_Z), iv_A s'.1 s'.2.2 → lf_fq [108, 116, 117, 118, 119] 1000000 true s.1 s.2.2 s'.1 s'.2.2 → (gx_p p r ∧ gx_A s'.1 s'.2.2) → ((-1) ≤ r ∧ r ≤ 38016000) → Q r s') : fm_311 a1 a2 Q s := by
  obtain ⟨r0, hp, ⟨X, J, f, H, hB, hXr, hF, hR, e⟩, hA⟩ := hM
  have n0 := hF.1.1.1
  have h3 : ∀ q : Int, 0 ≤ q → q < J 1 0 → 0 ≤ J 3 q ∧ J 3 q ≤ 99 := fun q q0 q1 => by
    have b := hI.1 96 (14 + 3 * q + 1)
    have b : (iv_a (14 + 3 * q + 1)).1 ≤ s.1 96 (14 + 3 * q + 1) ∧ s.1 96 (14 + 3 * q + 1) ≤ (iv_a (14 + 3 * q + 1)).2 := b
    have ei : iv_a (14 + 3 * q + 1) = (0, 99) := by
      unfold iv_a
      rw [if_neg (by omega), if_pos (by omega), if_neg (by omega), if_pos (by omega)]
    rw [ei] at b
    rw [← (hR.1.2.2.2.1 q q0 q1).2]
    exact b
  exact cj_311 (Q1 := fun r s' => iv_A s'.1 s'.2.2 ∧ lf_fq [108, 116, 117, 118, 119] 1000000 true s.1 s.2.2 s'.1 s'.2.2 ∧ ((-1) ≤ r ∧ r ≤ 38016000)) (Q2 := fun r t => r = r0) (fun r s' h1 h2 => hQ r s' h1.1 h1.2.1 ⟨h2 ▸ hp, gx_fq hA h1.2.1 rfl⟩ h1.2.2) (sm_311 hI ba1 ba2 (fun r s' h1 h2 h3 => ⟨h1, h2, h3⟩)) (gq_311 (X := X) h3 hF hR (fun _ => e.symm))
end QM
