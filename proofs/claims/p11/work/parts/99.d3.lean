/-! ask, with what is written -/
section D3
variable {f g : Int → Int} {n law : Int} {s t u z : lf_Z} {r : Int × Int} {W : cy_W} {b d w : Int}
theorem cm_2c {k a b : Int} (h : 4 ≤ k ∧ k ≤ 9) : cm_2 k a b = lf_b (cm_cp k a b) := by
  unfold cm_2
  rw [if_neg (by omega), if_neg (by omega), if_neg (by omega)]
theorem fy_52 {R41 R52 : Int → (lf_Z → Prop) → lf_Z → Prop} {S A : ds_D} {VS VA : cy_D} (hb : cl_tp f n) (hS : cy_G z f n law R41 S VS) (hA : cy_G z f n law R52 A VA) (hAb : ∀ N d g e b, VA N d g e b = 0 ∨ VA N d g e b = 1) : cy_G z f n law (fw_52 R41 R52) (ds_ask f n S A) (fun N => dv_ask f n S (VS N) (VA N)) := by
  intro W d g s r Q hg h k
  unfold fw_52
  intro _
  by_cases c : r.1 = 0
  · have e := cy_tok h c
    rw [e]
    rw [ds_bd0 c] at k
    refine ⟨fun d44 => ?_, fun d44 => ?_⟩
    · have E : ds_ask f n S A d g r.2 = ds_bd (ds_bd (S d g r.2) (fun b => if 4 ≤ lx_T f n b ∧ lx_T f n b ≤ 9 then (0, ds_ad f n b) else (1, b))) (S d g) := if_neg d44
      have EV : ∀ N e, dv_ask f n S (VS N) (VA N) d g e r.2 = lf_b (cm_cp (lx_T f n (S d g r.2).2) (VS N d g e r.2) (VS N d g e (ds_ad f n (S d g r.2).2))) := fun N e => if_neg d44
      have EV2 : (fun N e => dv_ask f n S (VS N) (VA N) d g e r.2) = fun N e => lf_b (cm_cp (lx_T f n (S d g r.2).2) (VS N d g e r.2) (VS N d g e (ds_ad f n (S d g r.2).2))) := funext fun N => funext fun e => EV N e
      rw [E, EV2] at k
      refine hS W d g s r _ hg h (fun a ha => ?_)
      rw [ds_bd0 c] at ha
      by_cases c1 : (S d g r.2).1 = 0
      · have e1 := cy_tok ha c1
        refine fl_15 ?_
        rw [e1]
        by_cases z : 4 ≤ lx_T f n (S d g r.2).2 ∧ lx_T f n (S d g r.2).2 ≤ 9
        · rw [decide_eq_true z.1, decide_eq_true z.2]
          refine ⟨fun _ => ?_, (fun q => by cases q)⟩
          rw [ds_bd0 c1, if_pos z, ds_bd0 (r := (0, ds_ad f n (S d g r.2).2)) rfl] at k
          refine fy_adv hb ha (fun x hx => ?_)
          rw [ds_bd0 c1] at hx
          refine hS _ d g x _ _ hg hx (fun y hy => ⟨fun _ => trivial, fun t0 hu h4 => fy_45 h4 hy hu (fun v q _ hq => k q ?_)⟩)
          rw [ds_bd0 (r := (0, ds_ad f n (S d g r.2).2)) rfl] at hq
          refine cy_m hq (fun o C _ hC => ?_)
          have w := cy_A2 (k := lx_T f n (S d g r.2).2) (Or.inl ⟨z.1, by omega⟩) (fun q => by omega) (fun q => by omega) hC
          have ew : (fun N e => cm_2 (lx_T f n (S d g r.2).2) (VS N d g e r.2) (VS N d g e (ds_ad f n (S d g r.2).2))) = fun N e => lf_b (cm_cp (lx_T f n (S d g r.2).2) (VS N d g e r.2) (VS N d g e (ds_ad f n (S d g r.2).2))) := funext fun N => funext fun e => cm_2c z
          rw [ew] at w
          exact w
        · have zf : (decide (4 ≤ lx_T f n (S d g r.2).2) && decide (lx_T f n (S d g r.2).2 ≤ 9)) = false := by
            cases q : (decide (4 ≤ lx_T f n (S d g r.2).2) && decide (lx_T f n (S d g r.2).2 ≤ 9)) with
            | false => rfl
            | true =>
              rw [Bool.and_eq_true, decide_eq_true_eq, decide_eq_true_eq] at q
              exact absurd q z
          rw [zf]
          refine ⟨(fun q => by cases q), fun _ => fy_fail (W' := W) (by decide) ha (fun x hx => k x ?_)⟩
          rw [ds_bd0 c1] at hx
          rw [ds_bd0 c1, if_neg z, ds_bdF (show (1 : Int) ≠ 0 by decide)]
          exact cy_F hx (show (1 : Int) ≠ 0 by decide)
      · have e1 := cy_bad ha c1
        refine fl_15 ?_
        rw [e1]
        refine ⟨(fun q => by cases q), fun _ => fy_fail (W' := W) (by decide) ha (fun x hx => k x ?_)⟩
        rw [ds_bdF c1] at hx
        rw [ds_bdF c1, ds_bdF c1]
        exact cy_F hx c1
    · have d44 := Classical.not_not.mp d44
      have E : ds_ask f n S A d g r.2 = ds_en f n d (A (d + 1) g) r.2 := if_pos d44
      have EV2 : (fun N e => dv_ask f n S (VS N) (VA N) d g e r.2) = fun N e => 1 - VA N (d + 1) g e (ds_ad f n r.2) := funext fun N => funext fun e => if_pos d44
      rw [E, EV2] at k
      refine fy_en hb h c (fun t ht hd ku => ?_) k
      refine hA _ (d + 1) g t _ _ ⟨by have := hg.1; omega, hg.2⟩ ht (fun u hu => ⟨fun _ => trivial, fun t0 hu0 h4 => fy_45 h4 hu hu0 (fun w y _ hy => ku y ?_)⟩)
      rw [ds_bd0 (r := (0, ds_ad f n r.2)) rfl] at hy
      refine cy_m hy (fun o C hz hC => ?_)
      have := cy_Ag (k := 44) (V2 := fun N e => 1 - VA N (d + 1) g e (ds_ad f n r.2)) (by rw [d44]; decide) (Or.inr rfl) (fun N e => (if_neg (by decide)).symm) (fun N e _ => by rcases hAb N (d + 1) g e (ds_ad f n r.2) with q | q <;> rw [q] <;> exact ⟨by decide, by decide⟩) hC
      have en : (ds_en f n d (A (d + 1) g) r.2).2 = (A (d + 1) g (ds_ad f n r.2)).2 := by unfold ds_en; rw [if_pos hd]
      rw [en]; exact this
  · have e := cy_bad h c
    rw [e]
    rw [ds_bdF c] at k
    refine ⟨fun _ => hS W d g s r _ hg h (fun a ha => ?_), fun q => absurd (by decide) q⟩
    rw [ds_bdF c] at ha
    refine fl_15 ?_
    rw [cy_bad ha c]
    refine ⟨(fun q => by cases q), fun _ => fy_fail (W' := W) (by decide) ha (fun x hx => k x ?_)⟩
    rw [ds_bdF c] at hx
    exact cy_F hx c
end D3
