/-! one, with what is written -/
section D1
variable {f g : Int → Int} {n law : Int} {s t u z : lf_Z} {r : Int × Int} {W : cy_W} {b d : Int}
/-- a letter: fw_46 -/
theorem fy_let {Q : lf_Z → Prop} (hb : cl_tp f n) (hg : cy_gB g) (h : cy_S z W f n g law s r) (c : r.1 = 0) (d3 : lx_T f n r.2 = 3) (k : ∀ (t : lf_Z), cy_S z (cy_A law n r.2 (ds_ad f n r.2) d g (fun _ e => e (lx_V f n r.2)) W) f n g law t (if g (lx_V f n r.2) ≠ -1 then (0, ds_ad f n r.2) else (5, r.2)) → Q t) : fw_46 Q s := by
  have e := cy_tok h c
  have v := cy_val h c (Or.inr (e.trans d3))
  have vb := lx_V3 d3
  unfold fw_46
  refine fl_15 ?_
  rw [v, decide_eq_true vb.1, decide_eq_true vb.2]
  refine ⟨(fun z => by cases z), fun _ _ => ?_⟩
  rw [h.2.2.1]
  unfold fw_46_p26
  intro _
  refine ⟨fun q => ⟨fun _ => trivial, fun t0 hu h4 => fy_45 h4 h hu (fun w u _ hu2 => fy_adv hb hu2 (fun t ht => k t ?_))⟩, fun q => fy_fail (W' := cy_A law n r.2 (ds_ad f n r.2) d g (fun _ e => e (lx_V f n r.2)) W) (by decide) h (fun t ht => k t ?_)⟩
  · rw [if_pos q]
    rw [ds_bd0 c] at ht
    have b8 := (hg (lx_V f n r.2) vb.1 (by omega)).resolve_left q
    refine cy_m ht (fun o C _ hC => cy_A1 (by rw [d3]; decide) (by decide) ⟨b8.1, by omega⟩ (fun N M e L hN hL => ?_) hC)
    have l := hL (lx_V f n r.2) vb.1 (by omega) q
    exact ⟨l.2.2, Or.inr (Or.inl ⟨rfl, l.1.2.2, l.2.1⟩)⟩
  · rw [if_neg q]
    rw [ds_bd0 c] at ht
    exact ht
/-- a name: fw_56 -/
theorem fy_name {Q : lf_Z → Prop} (hb : cl_tp f n) (h : cy_S z W f n g law s r) (k : ∀ (t : lf_Z), cy_S z (cy_A law n r.2 (ds_ad f n r.2) d g (fun N _ => N (la_nm (lx_T f n r.2))) W) f n g law t (ds_bd r (ds_name f n law)) → Q t) : fw_56 Q s := by
  have el : s.1 31 6 = law := h.2.2.2.1
  have p53 : ∀ x : Int, r.1 = 0 → (lx_T f n r.2 = 24 ∨ (47 ≤ lx_T f n r.2 ∧ lx_T f n r.2 ≤ 56)) → x = cc_ix (lx_T f n r.2) → (∀ t : lf_Z, cy_S z (cy_A law n r.2 (ds_ad f n r.2) d g (fun N _ => N (la_nm (lx_T f n r.2))) W) f n g law t (if ds_nm law x = true then (0, ds_ad f n r.2) else (5, r.2)) → Q t) → fw_56_p53 Q x s := by
    intro x c hT hx kx
    have xB : 0 ≤ x ∧ x < 11 := by rw [hx]; unfold cc_ix; split <;> omega
    unfold fw_56_p53
    intro _
    rw [el]
    refine ⟨fun q => ⟨fun _ => trivial, fun t0 hu h4 => fy_45 h4 h hu (fun w u _ hu2 => fy_adv hb hu2 (fun t ht => kx t ?_))⟩, fun q => fy_fail (W' := cy_A law n r.2 (ds_ad f n r.2) d g (fun N _ => N (la_nm (lx_T f n r.2))) W) (by decide) h (fun t ht => kx t ?_)⟩
    · have qd : ds_nm law x = true := by unfold ds_nm; exact decide_eq_true q
      rw [if_pos qd]
      rw [ds_bd0 c] at ht
      refine cy_m ht (fun o C _ hC => cy_A1 (fun z => by omega) (by decide) ⟨xB.1, by omega⟩ (fun N M e L hN hL => ?_) hC)
      rw [hx] at qd xB ⊢
      have l := hN _ hT qd
      exact ⟨l.2, Or.inr (Or.inr ⟨rfl, xB.2, l.1⟩)⟩
    · have qd : ¬ ds_nm law x = true := by unfold ds_nm; rw [decide_eq_true_eq]; exact q
      rw [if_neg qd]
      rw [ds_bd0 c] at ht
      exact ht
  unfold fw_56
  intro _
  by_cases c : r.1 = 0
  · have e := cy_tok h c
    rw [e]
    rw [ds_bd0 c] at k
    unfold ds_name at k
    refine ⟨fun dq => ?_, fun dq => ?_⟩
    · rw [if_neg dq] at k
      unfold fw_56_p21
      intro _
      rw [e]
      refine ⟨fun q => absurd q dq, fun _ => fl_15 ⟨fun z => ?_, fun z => ?_⟩⟩
      · rw [Bool.and_eq_true, decide_eq_true_eq, decide_eq_true_eq] at z
        rw [if_pos z] at k
        exact p53 _ c (Or.inr z) (by unfold cc_ix; rw [if_neg dq]) k
      · rw [Bool.and_eq_false_iff, decide_eq_false_iff_not, decide_eq_false_iff_not] at z
        rw [if_neg (fun q => by omega)] at k
        refine fy_fail (W' := cy_A law n r.2 (ds_ad f n r.2) d g (fun N _ => N (la_nm (lx_T f n r.2))) W) (by decide) h (fun t ht => k t ?_)
        rw [ds_bd0 c] at ht; exact ht
    · have dq := Classical.not_not.mp dq
      rw [if_pos dq] at k
      unfold fw_56_p21
      intro _
      rw [e]
      exact ⟨fun _ => p53 10 c (Or.inl dq) (by unfold cc_ix; rw [if_pos dq]) k, fun q => absurd dq q⟩
  · have e := cy_bad h c
    rw [e]
    refine ⟨fun _ => ?_, fun d => absurd (by decide) d⟩
    unfold fw_56_p21
    intro _
    rw [e]
    refine ⟨(fun q => by cases q), fun _ => fl_15 ⟨(fun z => by cases z), fun z => ?_⟩⟩
    refine fy_fail (W' := cy_A law n r.2 (ds_ad f n r.2) d g (fun N _ => N (la_nm (lx_T f n r.2))) W) (by decide) h (fun t ht => k t ?_)
    rw [ds_bdF c] at ht ⊢
    exact ht
end D1
