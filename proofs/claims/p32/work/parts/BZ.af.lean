/-! after: the class's answer -/
section AG
variable {J K : Nat → Int → Int} {s t u : lf_Z} {f g sv M : Int → Int} {H : List rr_H} {X : mn_X} {I : Nat → Int → Int} {a c x y : Int}
def ag_n (f : Int → Int) : Nat := dm_cn (af_P f) 4
def af_R (J : Nat → Int → Int) (f : Int → Int) (a : Int) : en_S := en_D (af_st J f a) af_v (fun e => e) 4 (ag_n f) 0 ([], f (12 + 2 * a), 0, 0) [] (-1, [])
theorem fl_155 {Q : Int → lf_Z → Prop} (hW : mn_W J) (h3 : ∀ q : Int, 0 ≤ q → q < J 1 0 → 0 ≤ J 3 q ∧ J 3 q ≤ 99) (hJ : gc_J J s) (hS : rc_S s.1 f) (hwho : 0 ≤ a ∧ a < J 1 2) (hpl : ∀ p : Nat, af_P f p = true → (0 ≤ f (3 * (p : Int) + 1) ∧ f (3 * (p : Int) + 1) < J 1 0) ∧ 0 ≤ f (3 * (p : Int)) ∧ f (3 * (p : Int)) ≤ 24) (pa : 0 ≤ f (12 + 2 * a) ∧ f (12 + 2 * a) < J 1 0)
    (k0 : ag_n f = 0 → ∀ t : lf_Z, t.1 74 6 = -1 → Q (-1) t) (k : ag_n f ≠ 0 → ∀ t : lf_Z, t.1 74 5 = ag_n f → wm_s (ag_n f) (af_R J f a) t.1 → Q (af_R J f a).1 t) : fw_155 a Q s := by
  have w2 := hW.2.2.1
  obtain ⟨s0, hs0⟩ : ∃ s0 : lf_Z, s0 = (lf_up (lf_up (lf_up s.1 74 6 (-1)) 74 5 0) 74 7 a, s.2.1, s.2.2) := ⟨_, rfl⟩
  have r0 : ∀ c : Nat, c ≠ 74 → s0.1 c = s.1 c := fun c hc => by rw [hs0]; exact (zu_r hc).trans ((lf_up_row hc).trans (lf_up_row hc))
  have s7 : s0.1 74 7 = a := by rw [hs0]; exact zu_s
  have s5 : s0.1 74 5 = 0 := by rw [hs0]; exact (zu_i (by decide)).trans lf_up_s
  have s6 : s0.1 74 6 = -1 := by rw [hs0]; exact (zu_i (by decide)).trans ((lf_up_i (by decide)).trans lf_up_s)
  unfold fw_155
  rw [← hs0]
  refine ⟨fun x2 x3 t => (∀ c : Nat, c ≠ 74 → t.1 c = s.1 c) ∧ t.1 74 6 = -1 ∧ t.1 74 7 = a ∧ ∃ m : Nat, x3 = m ∧ m ≤ 4 ∧ t.1 74 5 = (dm_cn (af_P f) m : Nat) ∧ wj_m (af_P f) m x2, ?_, ⟨r0, s6, s7, 0, rfl, Nat.zero_le _, s5, wj_m0⟩⟩
  intro x2 x3 t ⟨tc, t6, t7, m, e3, m1, t5, hm⟩
  have tJ : gc_J J t := fun c hc => (tc c (by omega)).trans (hJ c hc)
  have tS : rc_S t.1 f := by
    unfold rc_S at hS ⊢
    rw [tc 16 (by decide), tc 17 (by decide), tc 18 (by decide), tc 19 (by decide), tc 20 (by decide), tc 21 (by decide), tc 15 (by decide)]
    exact hS
  unfold fw_155_p19
  rw [e3]
  intro _
  refine ⟨fun y => ?_, fun y => fl_80 ?_⟩
  · have em : m = 4 := by omega
    subst em
    have en : dm_cn (af_P f) 4 = ag_n f := rfl
    intro _
    refine ⟨fun y2 => ?_, fun y2 _ => ?_⟩
    · rw [t6]
      exact k0 (by omega) t t6
    · have n4 : ag_n f ≤ 4 := dm_cnB (P := af_P f) 4
      rw [(tS.2.1 a hwho.1 (by omega)).1]
      show fv_156T 200 ((0 : Nat) : Int) x2 (f (12 + 2 * a)) 0 0 _ t
      refine fl_156 (cnt := ag_n f) hW h3 n4 hwho hpl 200 (ag_n f) 0 ([], f (12 + 2 * a), 0, 0) [] (-1, []) x2 t _ (by omega) ⟨tJ, tS, t7, t5⟩ ⟨t6, fun q => absurd rfl q⟩ ⟨rfl, fun j p h => absurd h (by simp)⟩ (fun q hq => ?_) ⟨pa, ⟨Int.le_refl 0, (show (0 : Int) ≤ 1000 * ((0 : Nat) : Int) by decide)⟩, Int.le_refl 0, (show (0 : Int) ≤ 9504000 * ((0 : Nat) : Int) by decide)⟩ (fun u uf _ us => ?_)
      · have e : bt_t x2 (q : Int) = (decide (q < 4) && af_P f q) := hm.2 q (by omega)
        rw [e]
        constructor
        · intro h
          rw [Bool.and_eq_true] at h
          exact ⟨h.2, fun y => by cases y⟩
        · intro h
          have h1 := h.1
          unfold af_P at h1
          rw [Bool.and_eq_true] at h1
          rw [h1.1, h.1]; rfl
      · rw [us.1]
        exact k (by omega) u ((uf.2.1 5 (by decide)).trans t5) us
  · have r16 := (tS.1 m (by omega) (by omega)).1
    have st1 : dm_cn (af_P f) (m + 1) = dm_cn (af_P f) m + (if af_P f m = true then 1 else 0) := rfl
    have e : (decide (0 ≤ (m : Int)) && decide ((m : Int) < 4) && decide (0 < t.1 16 m)) = af_P f m := by
      unfold af_P
      rw [r16, decide_eq_true (show 0 ≤ (m : Int) by omega), decide_eq_true (show (m : Int) < 4 by omega), decide_eq_true (show m < 4 by omega)]
      rfl
    rw [e]
    refine ⟨fun z => ?_, fun z => ?_⟩
    · unfold fw_155_p51
      refine ⟨tc, t6, t7, m + 1, by omega, by omega, ?_, wj_mF hm z⟩
      rw [st1, if_neg (by rw [z]; decide), Nat.add_zero]; exact t5
    · unfold fw_155_p51
      refine ⟨fun c hc => (zu_r hc).trans (tc c hc), (zu_i (by decide)).trans t6, (zu_i (by decide)).trans t7, m + 1, by omega, by omega, ?_, wj_mT hm (by omega) z⟩
      refine zu_s.trans ?_
      rw [st1, if_pos z, t5]
      omega
def qb_154 (a i : Int) : qb_T := fun _ J f => if (0 ≤ a ∧ a < J 1 2) ∧ -1 ≤ i ∧ ag_n f ≠ 0 ∧ (af_R J f a).1 ≠ -1 ∧ i < ag_n f then (if i = -1 then (af_R J f a).1 else (((af_R J f a).2.getD i.toNat 0 : Nat) : Int)) else -1
theorem gq_154 {Q : Int → lf_Z → Prop} {i : Int} (h3 : ∀ q : Int, 0 ≤ q → q < s.1 1 0 → 0 ≤ s.1 3 q ∧ s.1 3 q ≤ 99) (hF : gf_T s.1 f H) (hC : gc_T s.1 f H) (h : ∀ t : lf_Z, Q (qb_154 a i X s.1 f) t) : fw_154 a i Q s := by
  have gI := hF.2.1.1
  have w2 := hF.1.1.2.2.1
  unfold fw_154
  refine fl_99 ⟨fun q => qu_to (h s) (if_neg (fun y => bd_f q y.1)), fun q _ => ⟨fun y => ?_, fun y => qu_to (h s) (if_neg (fun z => y z.2.1))⟩⟩
  have qa := bd_t q
  have pa := (hF.2.1.1.1 a qa.1 qa.2).1
  have hpl : ∀ p : Nat, af_P f p = true → (0 ≤ f (3 * (p : Int) + 1) ∧ f (3 * (p : Int) + 1) < s.1 1 0) ∧ 0 ≤ f (3 * (p : Int)) ∧ f (3 * (p : Int)) ≤ 24 := fun p hp => by
    unfold af_P at hp
    have hp := bd_t hp
    exact ⟨(gp_at gI (b := (p : Int)) (by omega) (by omega) hp.2).1, gp_sz gI (by omega) (by omega)⟩
  refine fl_155 (J := s.1) hF.1.1 h3 (fun _ _ => rfl) hC.1 qa hpl pa (fun n0 t t6 => ?_) (fun n0 t t5 ts => ?_)
  · have e : ∀ u : lf_Z, Q (-1) u := fun u => qu_to (h u) (if_neg (fun z => z.2.2.1 n0))
    refine ⟨fun _ => ?_, fun _ => e t⟩
    unfold fw_157
    rw [t6]
    intro _
    exact ⟨fun _ => e t, fun z => absurd rfl z⟩
  · refine ⟨fun y2 => ?_, fun y2 => qu_to (h t) ?_⟩
    · unfold fw_157
      rw [ts.1]
      intro _
      refine ⟨fun z => qu_to (h t) (if_neg (fun v => v.2.2.2.1 z)), fun z => fl_15 ⟨fun q2 => qu_to (h t) (if_neg (fun v => bd_f q2 ⟨by omega, by rw [t5]; omega⟩)), fun q2 _ => ?_⟩⟩
      have q2 := bd_t q2
      rw [t5] at q2
      obtain ⟨len, val⟩ := ts.2 z
      have hl : i.toNat < (af_R s.1 f a).2.length := by omega
      have v := val i.toNat (af_R s.1 f a).2[i.toNat] (List.getElem?_eq_getElem hl)
      rw [show ((i.toNat : Nat) : Int) = i by omega] at v
      refine qu_to (h t) ?_
      have e : qb_154 a i X s.1 f = (if i = -1 then (af_R s.1 f a).1 else (((af_R s.1 f a).2.getD i.toNat 0 : Nat) : Int)) := if_pos ⟨qa, y, n0, z, by omega⟩
      rw [e, if_neg y2, v]
      simp only [List.getD_eq_getElem?_getD, List.getElem?_eq_getElem hl, Option.getD_some]
    · have y2 := Classical.not_not.mp y2
      by_cases z : (af_R s.1 f a).1 = -1
      · rw [z]
        exact if_neg (fun v => v.2.2.2.1 z)
      · have e : qb_154 a i X s.1 f = (if i = -1 then (af_R s.1 f a).1 else (((af_R s.1 f a).2.getD i.toNat 0 : Nat) : Int)) := if_pos ⟨qa, y, n0, z, by omega⟩
        rw [e, if_pos y2]
end AG
