/-! after: the reference -/
section AR
variable {J K : Nat → Int → Int} {s t u : lf_Z} {f g sv M : Int → Int} {H : List rr_H} {X : mn_X} {I : Nat → Int → Int} {a c x y : Int}
/-- the e-th bunch -/
def ag_l (f : Int → Int) (e : Nat) : Nat := en_sel (af_P f) 4 e
theorem af_lI {e : Nat} (h : e < ag_n f) : af_P f (ag_l f e) = true ∧ ag_l f e < 4 ∧ dm_cn (af_P f) (ag_l f e) = e := en_selI 4 e h
def af_at (f : Int → Int) (e : Nat) : Int := f (3 * ((ag_l f e : Nat) : Int) + 1)
/-- the table of the reference: from bunch e, or from where the person is (4), to bunch k -/
def af_tb (J : Nat → Int → Int) (f : Int → Int) (a : Int) (c : Int → Int) : Prop := (∀ e k : Nat, e < ag_n f → k < ag_n f → c (4 * (e : Int) + k) = wm_r J a (af_at f e) (af_at f k)) ∧ ∀ k : Nat, k < ag_n f → c (16 + k) = wm_r J a (f (12 + 2 * a)) (af_at f k)
theorem fl_312 {Q : Int → lf_Z → Prop} (hW : mn_W J) (hB : mn_B J) (hL : rr_L J (s.1 96)) (hS : rr_S (J 1 1) (J 1 2) f (s.1 96)) (ha : 0 ≤ a ∧ a < J 1 2) (pa : 0 ≤ f (12 + 2 * a) ∧ f (12 + 2 * a) < J 1 0) (hz : ∀ b : Int, 0 ≤ b → b < 4 → 0 ≤ f (3 * b)) (hpl : ∀ p : Nat, af_P f p = true → (0 ≤ f (3 * (p : Int) + 1) ∧ f (3 * (p : Int) + 1) < J 1 0) ∧ 0 ≤ f (3 * (p : Int)) ∧ f (3 * (p : Int)) ≤ 24)
    (k : ∀ t : lf_Z, (∀ c : Nat, c ≠ 108 → c ≠ 118 → c ≠ 119 → t.1 c = s.1 c) → t.2 = s.2 → (∀ e : Nat, e < ag_n f → t.1 118 e = (ag_l f e : Nat)) → af_tb J f a (t.1 119) → Q (ag_n f : Nat) t) : fw_312 a Q s := by
  have n4 : ag_n f ≤ 4 := dm_cnB (P := af_P f) 4
  unfold fw_312
  refine ⟨fun x2 x3 t => (∀ c : Nat, c ≠ 118 → t.1 c = s.1 c) ∧ t.2 = s.2 ∧ ∃ m : Nat, x3 = m ∧ m ≤ 4 ∧ x2 = (dm_cn (af_P f) m : Nat) ∧ ∀ e : Nat, e < dm_cn (af_P f) m → t.1 118 e = (en_sel (af_P f) m e : Nat), ?_, ⟨fun _ _ => rfl, rfl, 0, rfl, by decide, rfl, fun e he => absurd he (Nat.not_lt_zero _)⟩⟩
  intro x2 x3 t ⟨tc, t2, m, e3, m1, e2, te⟩
  have t96 : t.1 96 = s.1 96 := tc 96 (by decide)
  have st1 : dm_cn (af_P f) (m + 1) = dm_cn (af_P f) m + (if af_P f m = true then 1 else 0) := rfl
  have st2 : ∀ e : Nat, en_sel (af_P f) (m + 1) e = if af_P f m = true ∧ e = dm_cn (af_P f) m then m else en_sel (af_P f) m e := fun e => rfl
  unfold fw_312_p4
  rw [e3, e2]
  intro _
  refine ⟨fun y => ?_, fun y => fl_242 ?_⟩
  · have em : m = 4 := by omega
    subst em
    have en : dm_cn (af_P f) 4 = ag_n f := rfl
    rw [en]
    have pl : ∀ e : Nat, e < ag_n f → 0 ≤ af_at f e ∧ af_at f e < J 1 0 := fun e he => (hpl _ (af_lI he).1).1
    have at_ : ∀ (v : lf_Z) (e : Nat), v.1 96 = s.1 96 → e < ag_n f → v.1 96 (114 + 3 * ((ag_l f e : Nat) : Int) + 1) = af_at f e := fun v e hv he => by
      obtain ⟨q1, q2, _⟩ := af_lI he
      have q1' := q1
      unfold af_P at q1'
      have z := (bd_t q1').2
      rw [hv]
      exact ((hS.2.2.1 (ag_l f e : Nat) (by omega) (by omega)).2 (by omega)).1
    refine ⟨fun x3 v => (∀ c : Nat, c ≠ 108 → c ≠ 119 → v.1 c = t.1 c) ∧ v.2 = t.2 ∧ ∃ k : Nat, x3 = k ∧ k ≤ ag_n f ∧ (∀ e i : Nat, e < ag_n f → i < k → v.1 119 (4 * (e : Int) + i) = wm_r J a (af_at f e) (af_at f i)) ∧ ∀ i : Nat, i < k → v.1 119 (16 + i) = wm_r J a (f (12 + 2 * a)) (af_at f i), ?_, ⟨fun _ _ _ => rfl, rfl, 0, rfl, Nat.zero_le _, fun e i _ hi => absurd hi (Nat.not_lt_zero _), fun i hi => absurd hi (Nat.not_lt_zero _)⟩⟩
    intro x3 v ⟨vc, v2, k', e3', k1, v1, v16⟩
    have v96 : v.1 96 = s.1 96 := (vc 96 (by decide) (by decide)).trans t96
    have v118 : ∀ e : Nat, e < ag_n f → v.1 118 e = (ag_l f e : Nat) := fun e he => by rw [vc 118 (by decide) (by decide)]; exact te e he
    unfold fw_312_p38
    rw [e3']
    intro _ _
    refine ⟨fun y2 => ?_, fun y2 _ => fl_255 ?_⟩
    · have ek : k' = ag_n f := by omega
      rw [ek] at v1 v16
      exact k v (fun c h1 h2 h3 => (vc c h1 h3).trans (tc c h2)) (v2.trans t2) v118 ⟨fun e i he hi => v1 e i he hi, fun i hi => v16 i hi⟩
    · have kl : k' < ag_n f := by omega
      rw [v118 k' kl, at_ v k' v96 kl]
      have gk := pl k' kl
      refine fl_261 (J := J) (ok := fun _ => true) (d := mn_d J 13) (by rw [v96]; exact hL) hW hB (fun _ => rfl) hW.2.2.2.2.2.1 gk.1 gk.2 (fun w wc w2 wd => ?_)
      have w96 : w.1 96 = s.1 96 := (wc 96 (by decide)).trans v96
      refine ⟨fun x4 z => (∀ c : Nat, c ≠ 119 → z.1 c = w.1 c) ∧ z.2 = w.2 ∧ ∃ m : Nat, x4 = m ∧ m ≤ ag_n f ∧ (∀ e i : Nat, e < ag_n f → i < k' → z.1 119 (4 * (e : Int) + i) = wm_r J a (af_at f e) (af_at f i)) ∧ (∀ i : Nat, i < k' → z.1 119 (16 + i) = wm_r J a (f (12 + 2 * a)) (af_at f i)) ∧ ∀ e : Nat, e < m → z.1 119 (4 * (e : Int) + k') = wm_r J a (af_at f e) (af_at f k'), ?_, ⟨fun _ _ => rfl, rfl, 0, rfl, Nat.zero_le _, fun e i he hi => by rw [wc 119 (by decide)]; exact v1 e i he hi, fun i hi => by rw [wc 119 (by decide)]; exact v16 i hi, fun e he => absurd he (Nat.not_lt_zero _)⟩⟩
      intro x4 z ⟨zc, z2, m, e4, m1, z1, z16, zm⟩
      have z96 : z.1 96 = s.1 96 := (zc 96 (by decide)).trans w96
      have zL : rr_L J (z.1 96) := by rw [z96]; exact hL
      have z108 : ∀ q : Int, 0 ≤ q → q < J 1 0 → z.1 108 q = mn_d J 13 q (af_at f k') := fun q q0 q1 => by rw [zc 108 (by decide)]; exact wd q q0 q1
      unfold fw_312_p61
      rw [e4]
      intro _ _
      refine ⟨fun y3 => fl_239 ?_, fun y3 _ => fl_255 ?_⟩
      · have em : m = ag_n f := by omega
        rw [z96, (hS.2.2.2.1 a ha.1 ha.2).1]
        refine fl_299 (y := af_at f k') zL hW hB ha pa gk (z108 _ pa.1 pa.2) ?_
        intro _
        refine ⟨fun c h1 h2 => (zu_r h2).trans ((zc c h2).trans ((wc c h1).trans (vc c h1 h2))), z2.trans (w2.trans v2), k' + 1, by omega, by omega, fun e i he hi => ?_, fun i hi => ?_⟩
        · refine (zu_i (by omega)).trans ?_
          by_cases q : i < k'
          · exact z1 e i he q
          · rw [show i = k' by omega]
            exact zm e (by omega)
        · by_cases q : i = k'
          · rw [q]; exact zu_s
          · exact (zu_i (by omega)).trans (z16 i (by omega))
      · have ml : m < ag_n f := by omega
        have e118 : z.1 118 m = (ag_l f m : Nat) := by rw [zc 118 (by decide), wc 118 (by decide)]; exact v118 m ml
        rw [e118, at_ z m z96 ml]
        have pm := pl m ml
        refine fl_299 (y := af_at f k') zL hW hB ha pm gk (z108 _ pm.1 pm.2) ?_
        intro _
        refine ⟨fun c hc => (zu_r hc).trans (zc c hc), z2, m + 1, by omega, by omega, fun e i he hi => ?_, fun i hi => ?_, fun e he => ?_⟩
        · exact (zu_i (by omega)).trans (z1 e i he hi)
        · exact (zu_i (by omega)).trans (z16 i hi)
        · by_cases q : e = m
          · rw [q]; exact zu_s
          · exact (zu_i (by omega)).trans (zm e (by omega))
  · have c0 := (hS.2.2.1 m (by omega) (by omega)).1
    have z0 := hz m (by omega) (by omega)
    rw [t96, c0]
    intro _
    refine ⟨fun y2 _ => ?_, fun y2 => ?_⟩
    · have z : af_P f m = true := by
        unfold af_P
        rw [decide_eq_true (show m < 4 by omega), decide_eq_true (show 0 < f (3 * (m : Int)) by omega)]; rfl
      unfold fw_312_p30
      refine ⟨fun c hc => (zu_r hc).trans (tc c hc), t2, m + 1, by omega, by omega, ?_, fun e he => ?_⟩
      · rw [st1, if_pos z]; omega
      · rw [st1, if_pos z] at he
        rw [st2]
        by_cases y4 : e = dm_cn (af_P f) m
        · rw [if_pos ⟨z, y4⟩, y4]; exact zu_s
        · rw [if_neg (fun y5 => y4 y5.2)]
          exact (zu_i (by omega)).trans (te e (by omega))
    · have z : af_P f m = false := by
        unfold af_P
        rw [decide_eq_false (show ¬ 0 < f (3 * (m : Int)) by omega), Bool.and_false]
      unfold fw_312_p30
      refine ⟨tc, t2, m + 1, by omega, by omega, ?_, fun e he => ?_⟩
      · rw [st1, if_neg (by rw [z]; decide), Nat.add_zero]
      · rw [st1, if_neg (by rw [z]; decide), Nat.add_zero] at he
        rw [st2, if_neg (fun y5 => by rw [z] at y5; cases y5.1)]
        exact te e he
end AR
