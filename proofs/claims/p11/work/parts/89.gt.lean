/-! gate, split: both sides -/
section GT
variable {J K : Nat → Int → Int} {s t u : lf_Z} {f g T A B : Int → Int} {X : mn_X} {I : Nat → Int → Int} {a b c p x j n1 n2 : Int} {H : List rr_H}
def gt_ok (J : Nat → Int → Int) (f : Int → Int) (a b : Int) : Prop := (0 ≤ a ∧ a < J 1 1) ∧ J 6 a = 0 ∧ lf_b (!(bt_t (f 36) a)) ≠ b
def gt_f (f : Int → Int) (a : Int) : Int → Int := ds_u1 f 36 (lf_xor (f 36) (lf_shl 1 a))
theorem gt_o (h : j ≠ 36) : gt_f f a j = f j := if_neg h
theorem gt_36 : gt_f f a 36 = lf_xor (f 36) (lf_shl 1 a) := by unfold gt_f ds_u1; rw [if_pos rfl]
theorem rc_36 (hS : rc_S s.1 f) : rc_S (lf_up s.1 15 6 (lf_xor (s.1 15 6) (lf_shl 1 a))) (gt_f f a) := by
  obtain ⟨s1, s2, s3, s4, s5, s6⟩ := hS
  refine ⟨fun b b0 b1 => ?_, fun q q0 q1 => ?_, fun q q0 q1 => ?_, ?_, ?_, ?_⟩
  · rw [lf_up_c (by decide), lf_up_c (by decide), lf_up_c (by decide), gt_o (by omega), gt_o (by omega), gt_o (by omega)]; exact s1 b b0 b1
  · rw [lf_up_c (by decide), lf_up_c (by decide), gt_o (by omega), gt_o (by omega)]; exact s2 q q0 q1
  · rw [lf_up_c (by decide), gt_o (by omega)]; exact s3 q q0 q1
  · rw [lf_up_s, gt_36, s4]
  · rw [lf_up_i (by decide), gt_o (by decide)]; exact s5
  · rw [lf_up_i (by decide), gt_o (by decide)]; exact s6
theorem fl_100 {Q : Bool → lf_Z → Prop} (hJ : gc_J J s) (hW : mn_W J) (hS : rc_S s.1 f) (hH : rc_H s.1 H)
    (k0 : ¬ gt_ok J f a b → Q false s) (k : gt_ok J f a b → ∀ t : lf_Z, mc_f s t → rc_S t.1 (gt_f f a) → rc_H t.1 (rr_K (J 1 2, J 1 1, f) H) → Q true t) : fw_100 a b Q s := by
  have w1 := hW.2.1
  unfold fw_100
  refine fl_89 ⟨fun z => k0 (fun q => ?_), fun z => ?_⟩
  · rw [hJ 1 (by omega), hJ 6 (by omega), decide_eq_true q.1.1, decide_eq_true q.1.2, decide_eq_true q.2.1] at z; cases z
  · rw [hJ 1 (by omega), hJ 6 (by omega), Bool.and_eq_true, Bool.and_eq_true, decide_eq_true_eq, decide_eq_true_eq, decide_eq_true_eq] at z
    refine fl_90 z.1.1 (by omega) ?_
    rw [hS.2.2.2.1]
    intro _
    refine ⟨fun c => ?_, fun c => k0 (fun q => c q.2.2)⟩
    rw [hJ 1 (by omega)]
    refine fl_67 (w := J 1 1) hS hH (fun t tf tH => ?_)
    unfold fw_101
    exact k ⟨z.1, z.2, c⟩ _ (mc_ft (mc_k tf) (mc_g (rc_g15 rc_gr (by omega)))) (rc_36 (rc_Sf hS tf)) (rc_Hv tH (mv_g (rc_g15 rc_gr (by omega))))
theorem gt_S {v : Int} (hS : rr_S n1 n2 f A) (h16 : n1 ≤ 16) (h6 : n2 ≤ 6) (a0 : 0 ≤ a) (a1 : a < n1) (eB : ∀ j : Int, j ≠ 50 + 4 * a + 3 → B j = A j) (h : B (50 + 4 * a + 3) = (if bt_t (f 36) a = true then 1 else 0)) : rr_S n1 n2 (gt_f f a) B := by
  obtain ⟨s1, s2, s3, s4, s5, s6⟩ := hS
  refine ⟨?_, ?_, fun q q0 q1 => ?_, fun q q0 q1 => ?_, fun q q0 q1 => ?_, fun w w0 w1 => ?_⟩
  · rw [eB 3 (by omega), gt_o (by omega)]; exact s1
  · rw [eB 6 (by omega), gt_o (by omega)]; exact s2
  · rw [eB (114 + 3 * q) (by omega), eB (114 + 3 * q + 1) (by omega), eB (114 + 3 * q + 2) (by omega), gt_o (by omega), gt_o (by omega), gt_o (by omega)]; exact s3 q q0 q1
  · rw [eB (126 + 6 * q + 3) (by omega), eB (126 + 6 * q + 4) (by omega), gt_o (by omega), gt_o (by omega)]; exact s4 q q0 q1
  · rw [eB (14 + 3 * q + 2) (by omega), gt_o (by omega)]; exact s5 q q0 q1
  · unfold rr_op
    rw [gt_36, bt_Txor w0 (by omega) a0 (by omega)]
    by_cases y : w = a
    · rw [y, h, decide_eq_true rfl]
      cases bt_t (f 36) a with
      | true => rfl
      | false => rfl
    · rw [eB (50 + 4 * w + 3) (by omega), decide_eq_false y, Bool.xor_false]
      exact s6 w w0 w1
theorem fl_250 {Q : Bool → lf_Z → Prop} (hL : rr_L J (s.1 96)) (hW : mn_W J) (hB : mn_B J) (hS : rr_S (J 1 1) (J 1 2) f (s.1 96)) (hG : gp_J J f) (hH : rh_H (s.1 96) H) (hh : mi_H J H) (hb : b = 0 ∨ b = 1)
    (k0 : ¬ gt_ok J f a b → Q false s) (k : gt_ok J f a b → ∀ t : lf_Z, (∀ c : Nat, c ≠ 96 → t.1 c = s.1 c) → t.2 = s.2 → (∀ i : Int, i ≠ 50 + 4 * a + 3 → i ≠ 9 → i < 278 → t.1 96 i = s.1 96 i) → rr_S (J 1 1) (J 1 2) (gt_f f a) (t.1 96) → rh_H (t.1 96) (rr_K (J 1 2, J 1 1, f) H) → Q true t) : fw_250 a b Q s := by
  have w1 := hW.2.1
  have w2 := hW.2.2.1
  unfold fw_250 fw_251
  rw [hL.2.1]
  refine fl_183 ⟨fun z => k0 (fun q => ?_), fun z => ?_⟩
  · have := q.1
    rw [decide_eq_true this.1, decide_eq_true (show a ≤ J 1 1 - 1 by omega)] at z; cases z
  · rw [Bool.and_eq_true, decide_eq_true_eq, decide_eq_true_eq] at z
    have b6 := hB.1 a
    refine fl_252 hL z.1 (by omega) ⟨fun z2 => k0 (fun q => ?_), fun z2 => fl_245 ?_⟩
    · have z2 := of_decide_eq_true z2
      have := q.2.1
      omega
    · have z2 := of_decide_eq_false z2
      rw [hS.2.2.2.2.2 a z.1 (by omega)]
      have eo : decide (rr_op (f 36) a = 1) = !(bt_t (f 36) a) := by
        unfold rr_op
        cases bt_t (f 36) a with
        | true => rfl
        | false => rfl
      rw [eo]
      intro _
      refine ⟨fun c => ?_, fun c => k0 (fun q => c q.2.2)⟩
      have ok : gt_ok J f a b := ⟨⟨z.1, by omega⟩, by omega, c⟩
      refine fl_244j hL hW hS hH hh (fun t tf tr tS tH te => ?_)
      have fin : ∀ v : Int, v = (if bt_t (f 36) a = true then 1 else 0) → fw_250_p52 Q (50 + 4 * a + 3) v t := by
        intro v hv
        unfold fw_250_p52
        intro _
        have e : ∀ j : Int, j ≠ 50 + 4 * a + 3 → ((lf_up t.1 96 (50 + 4 * a + 3) v, t.2.1, t.2.2) : lf_Z).1 96 j = t.1 96 j := fun j hj => zu_i hj
        exact k ok _ (fun c hc => (zu_r hc).trans (tr.1 c hc)) tr.2 (fun i h1 h2 h3 => (e i h1).trans (te i h2 h3)) (gt_S (v := v) tS w1.2 w2.2 z.1 (by omega) e (zu_s.trans hv)) (rh_Hr (mi_K hW hG hh) hW tH (e 9 (by omega)) (fun i i0 => e i (by omega)))
      refine ⟨fun d => fin 0 ?_, fun d => fin 1 ?_⟩
      · rw [d] at c
        cases h : bt_t (f 36) a with
        | true => rw [h] at c; exact absurd rfl c
        | false => rfl
      · have d : b = 1 := by omega
        rw [d] at c
        cases h : bt_t (f 36) a with
        | true => rfl
        | false => rw [h] at c; exact absurd rfl c
theorem gt_J (hW : mn_W J) (h : gp_J J f) (ok : gt_ok J f a b) : gp_J J (gt_f f a) := by
  have w1 := hW.2.1
  have w2 := hW.2.2.1
  obtain ⟨h1, h5, h6⟩ := h
  refine ⟨gp_e hW h1 (fun j j0 j1 => gt_o (by omega)) (by rw [gt_o (by decide)]; exact h1.2.2.2), ⟨fun q q0 q1 => ?_, fun q q0 q1 => ?_⟩, ?_⟩
  · rw [gt_o (by omega)]; exact h5.1 q q0 q1
  · have := ok.1
    rw [gt_36, bt_Txor (by omega) (by omega) this.1 (by omega), decide_eq_false (by omega), Bool.xor_false]
    exact h5.2 q q0 q1
  · rw [gt_o (by decide)]; exact h6
/-! split -/
def sp_ok (f : Int → Int) (a b : Int) : Prop := (0 ≤ a ∧ a < 4) ∧ (1 ≤ b ∧ b ≤ f (3 * a) - 1) ∧ sg_b f ≠ -1
def sp_f (f : Int → Int) (a b : Int) : Int → Int := rm_b (ds_u1 f (3 * a) (f (3 * a) - b)) (sg_b f) b (f (3 * a + 1)) (f (3 * a + 2))
theorem rc_16z {v : Int} (hS : rc_S s.1 f) (a0 : 0 ≤ a) (a1 : a < 4) : rc_S (lf_up s.1 16 a v) (ds_u1 f (3 * a) v) := by
  obtain ⟨s1, s2, s3, s4, s5, s6⟩ := hS
  have e : ∀ j : Int, j ≠ 3 * a → ds_u1 f (3 * a) v j = f j := fun j hj => if_neg hj
  refine ⟨fun q q0 q1 => ?_, fun q q0 q1 => ?_, fun q q0 q1 => ?_, ?_, ?_, ?_⟩
  · rw [lf_up_c (show 17 ≠ 16 by decide), lf_up_c (show 18 ≠ 16 by decide), e (3 * q + 1) (by omega), e (3 * q + 2) (by omega)]
    refine ⟨?_, (s1 q q0 q1).2⟩
    by_cases y : q = a
    · rw [y, lf_up_s]; exact (if_pos rfl).symm
    · rw [lf_up_i y, e (3 * q) (by omega)]; exact (s1 q q0 q1).1
  · rw [lf_up_c (by decide), lf_up_c (by decide), e (12 + 2 * q) (by omega), e (12 + 2 * q + 1) (by omega)]; exact s2 q q0 q1
  · rw [lf_up_c (by decide), e (24 + q) (by omega)]; exact s3 q q0 q1
  · rw [lf_up_c (by decide), e 36 (by omega)]; exact s4
  · rw [lf_up_c (by decide), e 37 (by omega)]; exact s5
  · rw [lf_up_c (by decide), e 38 (by omega)]; exact s6
theorem fl_102 {Q : Int → lf_Z → Prop} (hJ : gc_J J s) (hS : rc_S s.1 f) (hG : gp_J J f) (hH : rc_H s.1 H)
    (k0 : ¬ sp_ok f a b → Q (-1) s) (k : sp_ok f a b → ∀ t : lf_Z, mc_f s t → rc_S t.1 (sp_f f a b) → rc_H t.1 (rr_K (J 1 2, J 1 1, f) H) → Q (sg_b f) t) : fw_102 a b Q s := by
  unfold fw_102
  refine fl_80 ⟨fun z => k0 (fun q => ?_), fun z _ => ?_⟩
  · have := q.2.1
    rw [(hS.1 a q.1.1 q.1.2).1, decide_eq_true q.1.1, decide_eq_true q.1.2, decide_eq_true (show 0 < f (3 * a) by omega)] at z; cases z
  · rw [Bool.and_eq_true, Bool.and_eq_true, decide_eq_true_eq, decide_eq_true_eq] at z
    obtain ⟨d1, d2, d3⟩ := hS.1 a z.1.1 z.1.2
    rw [d1]
    refine fl_15 ⟨fun z2 => fl_66 hS ?_, fun z2 => k0 (fun q => ?_)⟩
    · rw [Bool.and_eq_true, decide_eq_true_eq, decide_eq_true_eq] at z2
      intro _
      refine ⟨fun c => ?_, fun c => ?_⟩
      · rw [c]; exact k0 (fun q => q.2.2 c)
      · have sB := sg_bB.resolve_left c
        rw [hJ 1 (by omega)]
        refine fl_67 (w := J 1 1) hS hH (fun t tf tH => fl_69 ?_)
        have tS := rc_Sf hS tf
        obtain ⟨e1, e2, e3⟩ := tS.1 a z.1.1 z.1.2
        rw [e1, e2, e3]
        have S1 := rc_16z (v := f (3 * a) - b) tS z.1.1 z.1.2
        have S2 := rc_b (s := (lf_up t.1 16 a (f (3 * a) - b), t.2.1, t.2.2)) (z := b) (v := f (3 * a + 1)) (w := f (3 * a + 2)) S1 sB.1 sB.2.1
        exact k ⟨z.1, z2, c⟩ _ (mc_ft (mc_k tf) (mc_g (rc_gu (rc_gu (rc_gu (rc_gu rc_gr (by omega)) (by omega)) (by omega)) (by omega)))) S2 (rc_Hv tH (mv_g (rc_gu (rc_gu (rc_gu (rc_gu rc_gr (by omega)) (by omega)) (by omega)) (by omega))))
    · rw [decide_eq_true q.2.1.1, decide_eq_true q.2.1.2] at z2; cases z2
theorem fl_253 {Q : Int → lf_Z → Prop} (hL : rr_L J (s.1 96)) (hW : mn_W J) (hS : rr_S (J 1 1) (J 1 2) f (s.1 96)) (hG : gp_J J f) (hH : rh_H (s.1 96) H) (hh : mi_H J H)
    (k0 : ¬ sp_ok f a b → Q (-1) s) (k : sp_ok f a b → ∀ t : lf_Z, mr_f s t → rr_S (J 1 1) (J 1 2) (sp_f f a b) (t.1 96) → rh_H (t.1 96) (rr_K (J 1 2, J 1 1, f) H) → Q (sg_b f) t) : fw_253 a b Q s := by
  have w1 := hW.2.1
  have w2 := hW.2.2.1
  unfold fw_253
  refine fl_241 hS ?_
  unfold fw_254
  refine fl_183 ⟨fun z => ⟨fun _ => k0 (fun q => ?_), fun q => (by cases q)⟩, fun z => fl_242 ?_⟩
  · rw [decide_eq_true q.1.1, decide_eq_true (show a ≤ 3 by have := q.1; omega)] at z; cases z
  · rw [Bool.and_eq_true, decide_eq_true_eq, decide_eq_true_eq] at z
    obtain ⟨d1, d2⟩ := hS.2.2.1 a z.1 (by omega)
    rw [d1]
    intro _
    refine ⟨fun c => ⟨fun _ => k0 (fun q => by have := q.2.1; omega), fun q => (by cases q)⟩, fun c => ⟨fun q => (by cases q), fun _ => fl_242 ?_⟩⟩
    have d2 := d2 (by omega)
    rw [d1]
    refine fl_183 ⟨fun z2 => k0 (fun q => ?_), fun z2 _ => ⟨fun d => ?_, fun d => k0 (fun q => ?_)⟩⟩
    · rw [decide_eq_true q.2.1.1, decide_eq_true q.2.1.2] at z2; cases z2
    · rw [Bool.and_eq_true, decide_eq_true_eq, decide_eq_true_eq] at z2
      have d' : sg_b f ≠ -1 := by omega
      have sB := sg_bB.resolve_left d'
      have ne : sg_b f ≠ a := fun q => by
        rw [q] at sB
        omega
      refine fl_244j hL hW hS hH hh (fun t tf tr tS tH te => ?_)
      intro _
      refine fl_255 (fl_256 ?_)
      obtain ⟨e1, e2⟩ := tS.2.2.1 a z.1 (by omega)
      have e2 := e2 (by omega)
      obtain ⟨u, hu⟩ : ∃ u : lf_Z, u = (lf_up t.1 96 (114 + 3 * a) (t.1 96 (114 + 3 * a) - b), t.2.1, t.2.2) := ⟨_, rfl⟩
      rw [← hu]
      have ui : ∀ i : Int, i ≠ 114 + 3 * a → u.1 96 i = t.1 96 i := fun i hi => by rw [hu]; exact zu_i hi
      have us : u.1 96 (114 + 3 * a) = f (3 * a) - b := by rw [hu]; refine zu_s.trans ?_; rw [e1]
      have uf : rm_f t u := by rw [hu]; exact rm_u (Or.inr (Or.inr (Or.inl ⟨by omega, by omega⟩)))
      have g : ∀ j : Int, j ≠ 3 * a → ds_u1 f (3 * a) (f (3 * a) - b) j = f j := fun j hj => if_neg hj
      have uS : rr_S (J 1 1) (J 1 2) (ds_u1 f (3 * a) (f (3 * a) - b)) (u.1 96) := rm_S tS w1.2 w2.2 z.1 (by omega) (fun j hj => g j (by omega)) (fun j hj => ui j (by omega)) (us.trans (if_pos rfl).symm) (fun _ => ⟨by rw [ui _ (by omega), g _ (by omega)]; exact e2.1, by rw [ui _ (by omega), g _ (by omega)]; exact e2.2⟩)
      rw [ui (114 + 3 * a + 1) (by omega), ui (114 + 3 * a + 2) (by omega), e2.1, e2.2]
      refine fl_247 (fun y yc y2 yj y0 y1 y3 => ?_)
      have yf := mr_b (v := 0) (w := 0) (z := 0) sB.1 sB.2.1 yc y2 yj
      refine k ⟨⟨z.1, by omega⟩, z2, d'⟩ y (mr_ft tf (mr_m (rm_ft uf yf))) ?_ (rh_Hr (mi_K hW hG hh) hW tH ((yj 9 (by omega)).trans (ui 9 (by omega))) (fun i i0 => (yj i (by omega)).trans (ui i (by omega))))
      exact rm_S uS w1.2 w2.2 sB.1 sB.2.1 (fun j hj => rm_bo (by omega)) yj (y0.trans rm_b0.symm) (fun _ => ⟨y1.trans rm_b1.symm, y3.trans rm_b2.symm⟩)
    · rcases sg_bB (f := f) with e | e
      · exact q.2.2 e
      · omega
theorem rm_be {z : Int} : rm_b f a z (f (3 * a + 1)) (f (3 * a + 2)) = ds_u1 f (3 * a) z := by
  funext j
  unfold rm_b ds_u1
  by_cases h2 : j = 3 * a + 2
  · rw [if_pos h2, if_neg (by omega), h2]
  · rw [if_neg h2]
    by_cases h1 : j = 3 * a + 1
    · rw [if_pos h1, if_neg (by omega), h1]
    · rw [if_neg h1]
theorem sp_J (hW : mn_W J) (h : gp_J J f) (ok : sp_ok f a b) : gp_J J (sp_f f a b) := by
  have sB := sg_bB.resolve_left ok.2.2
  obtain ⟨oa, ob, _⟩ := ok
  have ne : sg_b f ≠ a := fun q => by
    rw [q] at sB
    omega
  have z := h.1.2.2.1
  have at_ := gp_at h.1 oa.1 oa.2 (by omega)
  have g1 := gp_bn (z := f (3 * a) - b) (v := f (3 * a + 1)) (w := f (3 * a + 2)) hW h oa.1 oa.2 (by omega) (by omega) (fun _ => at_)
  rw [rm_be] at g1
  have e : ∀ j : Int, j ≠ 3 * a → ds_u1 f (3 * a) (f (3 * a) - b) j = f j := fun j hj => if_neg hj
  refine gp_bn hW g1 sB.1 sB.2.1 (by omega) ?_ (fun _ => at_)
  rw [e (3 * sg_b f) (by omega), sB.2.2]
  rcases (show a = 0 ∨ a = 1 ∨ a = 2 ∨ a = 3 by omega) with q | q | q | q
  · subst q
    rw [e 3 (by decide), e 6 (by decide), e 9 (by decide), show ds_u1 f (3 * 0) (f (3 * 0) - b) 0 = f 0 - b from if_pos rfl]; omega
  · subst q
    rw [e 0 (by decide), e 6 (by decide), e 9 (by decide), show ds_u1 f (3 * 1) (f (3 * 1) - b) 3 = f 3 - b from if_pos rfl]; omega
  · subst q
    rw [e 0 (by decide), e 3 (by decide), e 9 (by decide), show ds_u1 f (3 * 2) (f (3 * 2) - b) 6 = f 6 - b from if_pos rfl]; omega
  · subst q
    rw [e 0 (by decide), e 3 (by decide), e 6 (by decide), show ds_u1 f (3 * 3) (f (3 * 3) - b) 9 = f 9 - b from if_pos rfl]; omega
end GT
