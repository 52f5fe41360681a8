/-! the reference does its orders as rv says -/
section EV
variable {M N T : Int → Int} {a a0 a1 a2 b c r i x x3 x4 x5 x6 x7 y : Int} {o w : List (Int × Int)} {m : Nat} {s t u z : lf_Z} {R : rq_R}
theorem fl_270 {Q : Int → lf_Z → Prop} (h : -9000000000000000000 ≤ a ∧ a ≤ 9000000000000000000) (k : Q (cm_cut a) s) : fw_270 a Q s := by
  have key : ∀ v : Int, v = cm_cut a → Q v s := fun v e => by rw [e]; exact k
  unfold fw_270
  rw [lf_wlR (a := a) (by omega)]
  refine ⟨fun c => ⟨fun d => key _ ?_, fun d => key _ ?_⟩, fun c => key _ ?_⟩ <;> unfold cm_cut <;> omega
theorem fl_269 {Q : Int → lf_Z → Prop} (h1 : cm_sm a1) (h2 : cm_sm a2) (ha : a0 < 10) (k : Q (cm_ar (a0 + 6) a1 a2) s) : fw_269 a0 a1 a2 Q s := by
  have key : ∀ v : Int, v = cm_ar (a0 + 6) a1 a2 → Q v s := fun v e => by rw [e]; exact k
  have m := cm_mul h1 h2
  have dv := cm_dv (b := a2) h1
  have ct : ∀ v : Int, cm_sm (cm_cut v) := fun v => cm_cutS
  have wc : ∀ v : Int, lf_wl (cm_cut v) = cm_cut v := fun v => lf_wlR (by have := ct v; unfold cm_sm at this; omega)
  unfold cm_sm at h1 h2 dv
  unfold fw_269
  rw [lf_wlR (a := a1) (by omega), lf_wlR (a := a2) (by omega)]
  intro _
  refine ⟨fun q => ⟨fun c _ => ?_, fun c => key _ ?_⟩, fun q => ?_, fun q => ?_, fun q => ?_⟩
  · rw [lf_wlR (a := a1.tdiv a2) (by omega)]
    refine fl_270 (by omega) (key _ ?_)
    rw [wc]
    unfold cm_ar
    rw [if_neg (by omega), if_neg (by omega), if_neg (by omega), if_neg c]
    unfold cm_cut; omega
  · unfold cm_ar
    rw [if_neg (by omega), if_neg (by omega), if_neg (by omega), if_pos (Classical.not_not.mp c)]
  · rw [lf_wlR (a := a1 + a2) (by omega)]
    refine fl_270 (by omega) (key _ ?_)
    rw [wc]
    unfold cm_ar
    rw [if_pos (by omega)]
  · rw [lf_wlR (a := a1 - a2) (by omega)]
    refine fl_270 (by omega) (key _ ?_)
    rw [wc]
    unfold cm_ar
    rw [if_neg (by omega), if_pos (by omega)]
  · rw [lf_wlR (a := a1 * a2) (by omega)]
    refine fl_270 (by omega) (key _ ?_)
    rw [wc]
    unfold cm_ar
    rw [if_neg (by omega), if_neg (by omega), if_pos (by omega)]
theorem fl_271 {Q : Bool → lf_Z → Prop} (h1 : cm_sm a1) (h2 : cm_sm a2) (ha : 10 ≤ a0) (k : Q (cm_cp (a0 - 6) a1 a2) s) : fw_271 a0 a1 a2 Q s := by
  have key : ∀ v : Bool, v = cm_cp (a0 - 6) a1 a2 → Q v s := fun v e => by rw [e]; exact k
  unfold cm_sm at h1 h2
  unfold fw_271
  rw [lf_wlR (a := a1) (by omega), lf_wlR (a := a2) (by omega)]
  intro _
  refine ⟨fun c10 => ⟨fun c11 => ⟨fun c12 => ⟨fun c13 => ⟨fun c14 => ⟨fun h => key _ ?_, fun h => key _ ?_⟩, fun c14 => ⟨fun h => key _ ?_, fun h => key _ ?_⟩⟩, fun c13 => ⟨fun h => key _ ?_, fun h => key _ ?_⟩⟩, fun c12 => ⟨fun h => key _ ?_, fun h => key _ ?_⟩⟩, fun c11 => ⟨fun h => key _ ?_, fun h => key _ ?_⟩⟩, fun c10 => ⟨fun h => key _ ?_, fun h => key _ ?_⟩⟩ <;> unfold cm_cp <;> (repeat' split) <;> first | omega | exact (decide_eq_false (by omega)).symm | exact (decide_eq_true (by omega)).symm
/-- numbers, truths and lets, as they lie -/
def ev_A (s : lf_Z) (x5 x6 : Int) (R : rq_R) : Prop := x5 = R.1.length ∧ x6 = R.2.1.length ∧ cm_k (s.2.1 106) R.1 ∧ cm_k (s.1 107) R.2.1 ∧ s.2.1 105 = R.2.2
theorem ln_ouS {F : Int → Int} : ∀ w : List (Int × Int), ln_ou F a (w ++ o) → ln_ou F a o := by
  intro w
  induction w with
  | nil => intro h; exact h
  | cons e w ih => intro h; exact ih h.2.2
theorem rq_okL {L0 : Int → Int} : ∀ w : List (Int × Int), m ≤ o.length → rq_ok M N L0 m (w ++ o) → rq_ok M N L0 m o := by
  intro w
  induction w with
  | nil => intro _ h; exact h
  | cons e w ih =>
    intro hm h
    rcases h with h | h
    · exfalso
      have : (w ++ o).length + 1 = m := h
      rw [List.length_append] at this
      omega
    · exact ih hm h.1
theorem ev_up {F : Int → Int} {v : Int} {st : List Int} (h : cm_k F st) : cm_k (ds_u1 F (st.length : Int) v) (v :: st) := ⟨if_pos rfl, cm_kU st (Int.le_refl _) h⟩
theorem fl_268 {Q : Int → lf_Z → Prop} {v : Int} (hM : s.1 104 = M) (h1 : s.1 98 (((705 * r) + 1) + (4 * i) + 1) = m) (h2 : s.1 98 (((705 * r) + 1) + (4 * i) + 2) = o.length) (ho : ln_ou (s.1 98) (705 * r + 97) o) (hok : ∀ L0 : Int → Int, rq_ok M N L0 m o) (hv : ∀ L0 : Int → Int, (rv N L0 m o).1 = [v]) (k : ∀ t : lf_Z, tr_f s t → t.1 104 = M → Q v t) : fw_268 r i Q s := by
  unfold fw_268
  intro _
  rw [h1]
  have hml := rq_len o (hok (s.2.1 105))
  refine ⟨fun x5 x6 x7 t => tr_f s t ∧ t.1 104 = M ∧ ∃ w oi : List (Int × Int), o = w ++ oi ∧ x7 = oi.length ∧ m ≤ oi.length ∧ ev_A t x5 x6 (rv N (s.2.1 105) m oi), ?_, ⟨tr_fr, hM, o.take (o.length - m), o.drop (o.length - m), (List.take_append_drop _ _).symm, by rw [List.length_drop]; omega, by rw [List.length_drop]; omega, ?_⟩⟩
  rotate_left
  · rw [(rv_0 (N := N) (L0 := s.2.1 105) M (show (o.drop (o.length - m)).length = m by rw [List.length_drop]; omega)).1]
    exact ⟨rfl, rfl, trivial, trivial, rfl⟩
  intro x5 x6 x7 t ⟨tf, tM, w, oi, ow, x7e, mi, tA⟩
  have t98 : t.1 98 = s.1 98 := tf.1 98 (by decide) (by decide)
  unfold fw_268_p38
  rw [t98, h2]
  have okI := rq_okL w mi (by rw [← ow]; exact hok (s.2.1 105))
  have sm := rq_okS _ okI
  intro _ _ _
  refine ⟨fun q => ?_, fun q _ _ => ?_⟩
  · have hw : w = [] := by
      cases w with
      | nil => rfl
      | cons e w => rw [ow, List.length_append, List.length_cons] at q; omega
    rw [hw, List.nil_append] at ow
    rw [← ow] at tA sm
    obtain ⟨_, _, c3, _, _⟩ := tA
    unfold rq_sm at sm
    rw [hv] at c3
    have sm := sm.1
    rw [hv] at sm
    have e0 : t.2.1 106 0 = v := c3.1
    have sv := sm v List.mem_cons_self
    unfold cm_sm at sv
    rw [e0, lf_wlR (a := v) (by omega), tr_w (a := v) (by omega)]
    exact k t tf tM
  · -- the next order
    have hw : w ≠ [] := by
      intro e
      rw [e, List.nil_append] at ow
      rw [ow] at q; omega
    obtain ⟨w', e, ew⟩ : ∃ w' e, w = w' ++ [e] := ⟨w.dropLast, w.getLast hw, (List.dropLast_concat_getLast hw).symm⟩
    have ow2 : o = w' ++ (e :: oi) := by rw [ow, ew, List.append_assoc]; rfl
    have ho2 := ln_ouS w' (by rw [← ow2]; exact ho)
    obtain ⟨c1, c2, _⟩ := ho2
    have okE := rq_okL w' (show m ≤ (e :: oi).length by rw [List.length_cons]; omega) (by rw [← ow2]; exact hok (s.2.1 105))
    have pr : rq_pr M N e (rv N (s.2.1 105) m oi) := by
      rcases okE with h | h
      · omega
      · exact h.2
    have rvE := rv_c (e := e) okI
    rw [x7e, c1, c2]
    have fin : ∀ (x5' x6' : Int) (u : lf_Z), tr_f t u → u.1 104 = M → ev_A u x5' x6' (rq_st N e (rv N (s.2.1 105) m oi)) → fw_268_p437 (fun x5 x6 x7 t => tr_f s t ∧ t.1 104 = M ∧ ∃ w oi : List (Int × Int), o = w ++ oi ∧ x7 = oi.length ∧ m ≤ oi.length ∧ ev_A t x5 x6 (rv N (s.2.1 105) m oi)) Q (705 * r + 1 + 4 * i) (705 * r + 97) x5' x6' (oi.length : Int) u := by
      intro x5' x6' u uf uM uA
      unfold fw_268_p437
      exact ⟨tr_ft tf uf, uM, w', e :: oi, ow2, by rw [List.length_cons]; omega, by rw [List.length_cons]; omega, by rw [rvE]; exact uA⟩
    generalize rv N (s.2.1 105) m oi = R at tA sm pr fin
    obtain ⟨ns, ts, ls⟩ := R
    obtain ⟨d5, d6, k1, k2, k3⟩ := tA
    obtain ⟨p1, p2, p3, p4⟩ := pr
    obtain ⟨sm1, sm2⟩ := sm
    have d5 : x5 = (ns.length : Int) := d5
    have d6 : x6 = (ts.length : Int) := d6
    have k1 : cm_k (t.2.1 106) ns := k1
    have k2 : cm_k (t.1 107) ts := k2
    have k3 : t.2.1 105 = ls := k3
    have sm1 : ∀ x ∈ ns, cm_sm x := sm1
    have sm2 : ∀ x ∈ ts, x = 0 ∨ x = 1 := sm2
    have p3 : e.1 < 0 ∨ e.1 = 31 → cm_sm (ls e.2) := p3
    have p4 : e.1 = 2 → ns ≠ [] := p4
    subst d5
    subst d6
    -- a number is put down
    have num : ∀ (v y1 : Int) (st : List Int) (x6' : Int), cm_sm v → y1 = st.length → cm_k (t.2.1 106) st → x6' = ts.length → rq_st N e (ns, ts, ls) = (v :: st, ts, ls) → fw_268_p437 (fun x5 x6 x7 t => tr_f s t ∧ t.1 104 = M ∧ ∃ w oi : List (Int × Int), o = w ++ oi ∧ x7 = oi.length ∧ m ≤ oi.length ∧ ev_A t x5 x6 (rv N (s.2.1 105) m oi)) Q (705 * r + 1 + 4 * i) (705 * r + 97) (y1 + 1) x6' (oi.length : Int) (t.1, lf_up t.2.1 106 y1 v, t.2.2) := by
      intro v y1 st x6' sv hy hk h6 hR
      refine fin _ _ _ ⟨fun _ _ _ => rfl, rfl, tr_l6⟩ tM ?_
      rw [hR]
      refine ⟨by dsimp only; rw [List.length_cons]; omega, h6, ?_, k2, ?_⟩
      rotate_left
      · show lf_up t.2.1 106 y1 v 105 = ls
        rw [lf_up_row (show (105 : Nat) ≠ 106 by decide)]; exact k3
      have : lf_up t.2.1 106 y1 v 106 = ds_u1 (t.2.1 106) y1 v := tp_row
      show cm_k (lf_up t.2.1 106 y1 v 106) (v :: st)
      rw [this, hy]
      exact ev_up hk
    -- a truth is put down
    have tru : ∀ (v y1 x6' : Int) (st : List Int), y1 = st.length → cm_k (t.1 107) st → x6' = y1 + 1 → rq_st N e (ns, ts, ls) = (ns, v :: st, ls) → fw_268_p437 (fun x5 x6 x7 t => tr_f s t ∧ t.1 104 = M ∧ ∃ w oi : List (Int × Int), o = w ++ oi ∧ x7 = oi.length ∧ m ≤ oi.length ∧ ev_A t x5 x6 (rv N (s.2.1 105) m oi)) Q (705 * r + 1 + 4 * i) (705 * r + 97) (ns.length : Int) x6' (oi.length : Int) (lf_up t.1 107 y1 v, t.2.1, t.2.2) := by
      intro v y1 x6' st hy hk h6 hR
      refine fin _ _ _ ⟨fun c _ c2 => lf_up_row c2, rfl, fun _ _ _ => rfl⟩ ((zu_r (show (104 : Nat) ≠ 107 by decide)).trans tM) ?_
      rw [hR]
      refine ⟨rfl, by dsimp only; rw [List.length_cons]; omega, k1, ?_, k3⟩
      have : lf_up t.1 107 y1 v 107 = ds_u1 (t.1 107) y1 v := tp_row
      show cm_k (lf_up t.1 107 y1 v 107) (v :: st)
      rw [this, hy]
      exact ev_up hk
    have sml : ∀ v : Int, cm_sm v → lf_wl v = v := fun v hv => lf_wlR (by unfold cm_sm at hv; omega)
    have p94 : (e.1 ≤ 1 ∨ e.1 = 31) → fw_268_p94 (fun x5 x6 x7 t => tr_f s t ∧ t.1 104 = M ∧ ∃ w oi : List (Int × Int), o = w ++ oi ∧ x7 = oi.length ∧ m ≤ oi.length ∧ ev_A t x5 x6 (rv N (s.2.1 105) m oi)) Q (705 * r + 1 + 4 * i) (705 * r + 97) (ns.length : Int) (ts.length : Int) (oi.length : Int) e.1 e.2 t := by
      intro he
      unfold fw_268_p94 fw_268_p135
      intro _
      refine ⟨fun q0 => ⟨fun q1 _ _ => ?_, fun q1 _ _ _ => ?_⟩, fun q0 _ _ => ?_⟩
      · have sv := p3 (by omega)
        rw [k3, sml _ sv, sml _ sv]
        refine num _ _ _ _ sv rfl k1 rfl ?_
        unfold rq_st
        rw [if_neg q0, if_neg q1, if_pos he]
      · have q1 := Classical.not_not.mp q1
        obtain ⟨sv, me⟩ := p2 q1
        rw [tM, me, sml _ sv]
        refine num _ _ _ _ sv rfl k1 rfl ?_
        unfold rq_st
        rw [if_neg q0, if_pos q1]
      · have q0 := Classical.not_not.mp q0
        rw [sml _ (p1 q0)]
        refine num _ _ _ _ (p1 q0) rfl k1 rfl ?_
        unfold rq_st
        rw [if_pos q0]
    have hd : ∀ {x : Int} {l : List Int} {F : Int → Int}, cm_k F (x :: l) → F l.length = x := fun h => h.1
    intro _
    refine ⟨fun g1 => p94 (Or.inl g1), fun g1 => ⟨fun g31 => ⟨fun g2 => ⟨fun g30 => ⟨fun g3 => ⟨fun g10 => ⟨fun g20 => ⟨fun n20 => ⟨fun n21 b1 => ?_, fun n21 b1 => ?_⟩, fun n20 b1 => ?_⟩, fun g20 b1 b2 => ?_⟩, fun g10 b1 b2 => ?_⟩, fun g3 b1 => ?_⟩, fun g30 b1 b2 => ?_⟩, fun g2 b1 => ?_⟩, fun g31 => p94 (Or.inr (Classical.not_not.mp g31))⟩⟩
    · -- or
      rcases ts with _ | ⟨t1, _ | ⟨t2, st⟩⟩
      · exfalso; rw [List.length_nil] at b1; omega
      · exfalso; rw [List.length_cons, List.length_nil] at b1; omega
      · have e2 : ((t1 :: t2 :: st).length : Int) + -1 - 1 = st.length := by rw [List.length_cons, List.length_cons]; omega
        have e1 : ((t1 :: t2 :: st).length : Int) + -1 = (st.length : Int) + 1 := by rw [List.length_cons, List.length_cons]; omega
        have f1 : t.1 107 ((st.length : Int) + 1) = t1 := by have := k2.1; rw [List.length_cons] at this; rw [← this]; congr 1
        have f2 : t.1 107 (st.length : Int) = t2 := k2.2.1
        have v1 := sm2 t1 List.mem_cons_self
        have v2 := sm2 t2 (List.mem_cons_of_mem _ List.mem_cons_self)
        have R1 : ∀ v : Int, v = cm_2 46 t2 t1 → rq_st N e (ns, t1 :: t2 :: st, ls) = (ns, v :: st, ls) := fun v hv => by
          unfold rq_st
          rw [if_neg (by omega), if_neg (by omega), if_neg (by omega), if_neg g2, if_neg g30, if_neg g3, if_neg (by omega), if_neg (by omega), if_neg n20, if_neg n21, hv]
          rfl
        rw [e2, e1, f1, f2]
        unfold fw_268_p431 fw_268_p436
        intro _
        refine ⟨fun q _ _ => tru 1 _ _ st rfl k2.2.2 rfl (R1 _ ?_), fun q _ _ => ⟨fun q1 _ _ => tru 0 _ _ st rfl k2.2.2 rfl (R1 _ ?_), fun q1 _ _ => tru 1 _ _ st rfl k2.2.2 rfl (R1 _ ?_)⟩⟩
        · rcases v1 with v1 | v1 <;> rcases v2 with v2 | v2 <;> subst v1 <;> subst v2 <;> first | exact absurd rfl q | decide
        · rcases v1 with v1 | v1 <;> rcases v2 with v2 | v2 <;> subst v1 <;> subst v2 <;> first | (exfalso; omega) | decide
        · rcases v1 with v1 | v1 <;> rcases v2 with v2 | v2 <;> subst v1 <;> subst v2 <;> first | (exfalso; omega) | decide
    · -- and
      have n21 := Classical.not_not.mp n21
      rcases ts with _ | ⟨t1, _ | ⟨t2, st⟩⟩
      · exfalso; rw [List.length_nil] at b1; omega
      · exfalso; rw [List.length_cons, List.length_nil] at b1; omega
      · have e2 : ((t1 :: t2 :: st).length : Int) + -1 - 1 = st.length := by rw [List.length_cons, List.length_cons]; omega
        have e1 : ((t1 :: t2 :: st).length : Int) + -1 = (st.length : Int) + 1 := by rw [List.length_cons, List.length_cons]; omega
        have f1 : t.1 107 ((st.length : Int) + 1) = t1 := by have := k2.1; rw [List.length_cons] at this; rw [← this]; congr 1
        have f2 : t.1 107 (st.length : Int) = t2 := k2.2.1
        have v1 := sm2 t1 List.mem_cons_self
        have v2 := sm2 t2 (List.mem_cons_of_mem _ List.mem_cons_self)
        have R1 : ∀ v : Int, v = cm_2 45 t2 t1 → rq_st N e (ns, t1 :: t2 :: st, ls) = (ns, v :: st, ls) := fun v hv => by
          unfold rq_st
          rw [if_neg (by omega), if_neg (by omega), if_neg (by omega), if_neg g2, if_neg g30, if_neg g3, if_neg (by omega), if_neg (by omega), if_neg n20, if_pos n21, hv]
          rfl
        rw [e2, e1, f1, f2]
        unfold fw_268_p405 fw_268_p436
        intro _
        refine ⟨fun q _ _ => tru 0 _ _ st rfl k2.2.2 rfl (R1 _ ?_), fun q _ _ => ⟨fun q1 _ _ => tru 0 _ _ st rfl k2.2.2 rfl (R1 _ ?_), fun q1 _ _ => tru 1 _ _ st rfl k2.2.2 rfl (R1 _ ?_)⟩⟩
        · rcases v1 with v1 | v1 <;> rcases v2 with v2 | v2 <;> subst v1 <;> subst v2 <;> first | (exfalso; omega) | decide
        · rcases v1 with v1 | v1 <;> rcases v2 with v2 | v2 <;> subst v1 <;> subst v2 <;> first | (exfalso; omega) | decide
        · rcases v1 with v1 | v1 <;> rcases v2 with v2 | v2 <;> subst v1 <;> subst v2 <;> first | (exfalso; omega) | decide
    · -- not
      have n20 := Classical.not_not.mp n20
      rcases ts with _ | ⟨t1, st⟩
      · exfalso; rw [List.length_nil] at b1; omega
      · have e1 : ((t1 :: st).length : Int) - 1 = st.length := by rw [List.length_cons]; omega
        have f1 : t.1 107 (st.length : Int) = t1 := k2.1
        have v1 := sm2 t1 List.mem_cons_self
        have R1 : ∀ v : Int, v = 1 - t1 → rq_st N e (ns, t1 :: st, ls) = (ns, v :: st, ls) := fun v hv => by
          unfold rq_st
          rw [if_neg (by omega), if_neg (by omega), if_neg (by omega), if_neg g2, if_neg g30, if_neg g3, if_neg (by omega), if_neg (by omega), if_pos n20, hv]
          rfl
        rw [e1, f1]
        unfold fw_268_p357
        intro _
        refine ⟨fun q _ _ => tru 0 _ _ st rfl k2.2 (by rw [List.length_cons]; omega) (R1 _ (by omega)), fun q _ _ => tru 1 _ _ st rfl k2.2 (by rw [List.length_cons]; omega) (R1 _ (by omega))⟩
    · -- compare
      rcases ns with _ | ⟨n1, _ | ⟨n2, st⟩⟩
      · exfalso; rw [List.length_nil] at b1; omega
      · exfalso; rw [List.length_cons, List.length_nil] at b1; omega
      · have e2 : ((n1 :: n2 :: st).length : Int) + -2 = st.length := by rw [List.length_cons, List.length_cons]; omega
        have f1 : t.2.1 106 ((st.length : Int) + 1) = n1 := by have := k1.1; rw [List.length_cons] at this; rw [← this]; congr 1
        have f2 : t.2.1 106 (st.length : Int) = n2 := k1.2.1
        have s1 := sm1 n1 List.mem_cons_self
        have s2 := sm1 n2 (List.mem_cons_of_mem _ List.mem_cons_self)
        rw [e2, f1, f2, sml _ s1, sml _ s2]
        refine fl_271 s2 s1 g10 ?_
        intro _ _
        refine fin _ _ _ ⟨fun c _ c2 => lf_up_row c2, rfl, fun _ _ _ => rfl⟩ ((zu_r (show (104 : Nat) ≠ 107 by decide)).trans tM) ?_
        have R1 : rq_st N e (n1 :: n2 :: st, ts, ls) = (st, lf_b (cm_cp (e.1 - 6) n2 n1) :: ts, ls) := by
          unfold rq_st
          rw [if_neg (by omega), if_neg (by omega), if_neg (by omega), if_neg g2, if_neg g30, if_neg g3, if_neg (by omega), if_pos (by omega)]
          rfl
        rw [R1]
        refine ⟨rfl, by dsimp only; rw [List.length_cons]; omega, k1.2.2, ?_, k3⟩
        have : lf_up t.1 107 (ts.length : Int) (lf_b (cm_cp (e.1 - 6) n2 n1)) 107 = ds_u1 (t.1 107) (ts.length : Int) (lf_b (cm_cp (e.1 - 6) n2 n1)) := tp_row
        show cm_k (lf_up t.1 107 (ts.length : Int) (lf_b (cm_cp (e.1 - 6) n2 n1)) 107) (_ :: ts)
        rw [this]
        exact ev_up k2
    · -- arithmetic
      rcases ns with _ | ⟨n1, _ | ⟨n2, st⟩⟩
      · exfalso; rw [List.length_nil] at b1; omega
      · exfalso; rw [List.length_cons, List.length_nil] at b1; omega
      · have e2 : ((n1 :: n2 :: st).length : Int) + -1 - 1 = st.length := by rw [List.length_cons, List.length_cons]; omega
        have e1 : ((n1 :: n2 :: st).length : Int) + -1 = (st.length : Int) + 1 := by rw [List.length_cons, List.length_cons]; omega
        have f1 : t.2.1 106 ((st.length : Int) + 1) = n1 := by have := k1.1; rw [List.length_cons] at this; rw [← this]; congr 1
        have f2 : t.2.1 106 (st.length : Int) = n2 := k1.2.1
        have s1 := sm1 n1 List.mem_cons_self
        have s2 := sm1 n2 (List.mem_cons_of_mem _ List.mem_cons_self)
        rw [e2, e1, f1, f2, sml _ s1, sml _ s2]
        refine fl_269 s2 s1 (by omega) ?_
        have sa : cm_sm (cm_ar (e.1 + 6) n2 n1) := cm_arS s2
        rw [sml _ sa]
        refine num _ _ st _ sa rfl k1.2.2 rfl ?_
        unfold rq_st
        rw [if_neg (by omega), if_neg (by omega), if_neg (by omega), if_neg g2, if_neg g30, if_neg g3, if_pos (by omega)]
        rfl
    · -- minus
      have g3 := Classical.not_not.mp g3
      rcases ns with _ | ⟨n1, st⟩
      · exfalso; rw [List.length_nil] at b1; omega
      · have e1 : ((n1 :: st).length : Int) - 1 = st.length := by rw [List.length_cons]; omega
        have e2 : ((n1 :: st).length : Int) = (st.length : Int) + 1 := by rw [List.length_cons]; omega
        have f1 : t.2.1 106 (st.length : Int) = n1 := k1.1
        have s1 := sm1 n1 List.mem_cons_self
        have sn : cm_sm (-n1) := by unfold cm_sm at *; omega
        rw [e1, f1, sml _ s1, sml _ sn, e2]
        refine num _ _ st _ sn rfl k1.2 rfl ?_
        unfold rq_st
        rw [if_neg (by omega), if_neg (by omega), if_neg (by omega), if_neg g2, if_neg g30, if_pos g3]
        rfl
    · -- let
      have g30 := Classical.not_not.mp g30
      rcases ns with _ | ⟨n1, st⟩
      · exfalso; rw [List.length_nil] at b1; omega
      · have e1 : ((n1 :: st).length : Int) + -1 = st.length := by rw [List.length_cons]; omega
        have f1 : t.2.1 106 (st.length : Int) = n1 := k1.1
        have s1 := sm1 n1 List.mem_cons_self
        rw [e1, f1, sml _ s1]
        refine fin _ _ _ ⟨fun _ _ _ => rfl, rfl, tr_l5⟩ tM ?_
        have R1 : rq_st N e (n1 :: st, ts, ls) = (st, ts, ds_u1 ls e.2 n1) := by
          unfold rq_st
          rw [if_neg (by omega), if_neg (by omega), if_neg (by omega), if_neg g2, if_pos g30]
          rfl
        rw [R1]
        refine ⟨rfl, rfl, ?_, k2, ?_⟩
        · show cm_k (lf_up t.2.1 105 e.2 n1 106) st
          rw [lf_up_row (show (106 : Nat) ≠ 105 by decide)]; exact k1.2
        · show lf_up t.2.1 105 e.2 n1 105 = ds_u1 ls e.2 n1
          rw [tp_row, k3]
    · -- choose
      have g2 := Classical.not_not.mp g2
      rcases ts with _ | ⟨t1, ts'⟩
      · exfalso; rw [List.length_nil] at b1; omega
      · have e1 : ((t1 :: ts').length : Int) + -1 = ts'.length := by rw [List.length_cons]; omega
        have f1 : t.1 107 (ts'.length : Int) = t1 := k2.1
        rw [e1, f1]
        intro _
        have R1 : rq_st N e (ns, t1 :: ts', ls) = ((if t1 ≠ 0 then ns.tail else rq_hd ns :: ns.tail.tail), ts', ls) := by
          unfold rq_st
          rw [if_neg (by omega), if_neg (by omega), if_neg (by omega), if_pos g2]
          rfl
        refine ⟨fun q => ?_, fun q b3 b4 => ?_⟩
        · rcases ns with _ | ⟨n1, st⟩
          · exact absurd rfl (p4 g2)
          · rw [show ((n1 :: st).length : Int) + -1 = st.length by rw [List.length_cons]; omega]
            refine fin _ _ _ ⟨fun _ _ _ => rfl, rfl, fun _ _ _ => rfl⟩ tM ?_
            rw [R1, if_pos q]
            exact ⟨rfl, rfl, k1.2, k2.2, k3⟩
        · rcases ns with _ | ⟨n1, _ | ⟨n2, st⟩⟩
          · exfalso; rw [List.length_nil] at b4; omega
          · exfalso; rw [List.length_cons, List.length_nil] at b4; omega
          · have e3 : ((n1 :: n2 :: st).length : Int) + -1 - 1 = st.length := by rw [List.length_cons, List.length_cons]; omega
            have e4 : ((n1 :: n2 :: st).length : Int) + -1 = (st.length : Int) + 1 := by rw [List.length_cons, List.length_cons]; omega
            have f3 : t.2.1 106 ((st.length : Int) + 1) = n1 := by have := k1.1; rw [List.length_cons] at this; rw [← this]; congr 1
            have s1 := sm1 n1 List.mem_cons_self
            rw [e3, e4, f3, sml _ s1]
            refine fin _ _ _ ⟨fun _ _ _ => rfl, rfl, tr_l6⟩ tM ?_
            rw [R1, if_neg (fun w => w (Classical.not_not.mp q))]
            refine ⟨by show (st.length : Int) + 1 = ((n1 :: st).length : Int); rw [List.length_cons]; omega, rfl, ?_, k2.2, ?_⟩
            rotate_left
            · show lf_up t.2.1 106 (st.length : Int) n1 105 = ls
              rw [lf_up_row (show (105 : Nat) ≠ 106 by decide)]; exact k3
            have : lf_up t.2.1 106 (st.length : Int) n1 106 = ds_u1 (t.2.1 106) (st.length : Int) n1 := tp_row
            show cm_k (lf_up t.2.1 106 (st.length : Int) n1 106) (n1 :: st)
            rw [this]
            exact ev_up k1.2.2
end EV
