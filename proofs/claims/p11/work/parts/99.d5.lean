/-! let, with what is written -/
section D5
variable {f g : Int → Int} {n law : Int} {s t u z : lf_Z} {r : Int × Int} {W : cy_W} {b d w : Int}
theorem cy_S_g {v y : Int} (h : cy_S z W f n g law s r) : cy_S z W f n (ds_u1 g y v) law (lf_up s.1 33 y v, s.2.1, s.2.2) r := by
  obtain ⟨h1, h2, h3, h4, h5, h6, h7, h8⟩ := h
  have e31 : (lf_up s.1 33 y v) 31 = s.1 31 := lf_up_row (by decide)
  have e32 : (lf_up s.1 33 y v) 32 = s.1 32 := lf_up_row (by decide)
  have e33 : (lf_up s.1 33 y v) 33 = ds_u1 g y v := by
    funext j
    unfold ds_u1
    by_cases hj : j = y
    · rw [if_pos hj, hj]; exact lf_up_s
    · rw [if_neg hj, ← h3]; exact lf_up_i hj
  refine ⟨e32.trans h1, ?_, e33, ?_, fun c => ?_, fun c => ?_, fun c => cy_Wc (h7 c) rfl (fun c hc => lf_up_row (by omega)), cy_Ke h8 rfl (fun c hc => lf_up_row (by omega))⟩
  · show (lf_up s.1 33 y v) 31 1 = n; rw [e31]; exact h2
  · show (lf_up s.1 33 y v) 31 6 = law; rw [e31]; exact h4
  · have := h5 c
    unfold rd_at at this ⊢
    show ((lf_up s.1 33 y v) 31 9 = r.2 ∧ (lf_up s.1 33 y v) 31 8 = lx_T ((lf_up s.1 33 y v) 32) ((lf_up s.1 33 y v) 31 1) r.2 ∧ (lf_up s.1 33 y v) 31 7 = lx_E ((lf_up s.1 33 y v) 32) ((lf_up s.1 33 y v) 31 1) r.2 ∧ (((lf_up s.1 33 y v) 31 8 = 2 ∨ (lf_up s.1 33 y v) 31 8 = 3) → (lf_up s.1 33 y v) 31 10 = lx_V ((lf_up s.1 33 y v) 32) ((lf_up s.1 33 y v) 31 1) r.2)) ∧ (lf_up s.1 33 y v) 31 2 = 0 ∧ 0 ≤ r.2 ∧ 0 ≤ (lf_up s.1 33 y v) 31 7 ∧ (lf_up s.1 33 y v) 31 3 = -1
    rw [e31, e32]; exact this
  · show (lf_up s.1 33 y v) 31 2 = r.1 ∧ (lf_up s.1 33 y v) 31 3 = r.2 ∧ (lf_up s.1 33 y v) 31 8 = 1
    rw [e31]; exact h6 c
theorem fy_54p {R41 : Int → (lf_Z → Prop) → lf_Z → Prop} {S : ds_D} {VS : cy_D} {y : Int} {Q : lf_Z → Prop} (hb : cl_tp f n) (hS : cy_G z f n law R41 S VS) (hg : 0 ≤ d ∧ cy_gB g) (hsl : 0 ≤ ds_sl d ∧ ds_sl d < 8) (h : cy_S z W f n g law s r)
    (k : ∀ (v : Int) (t : lf_Z), cy_S z (cy_A law n (ds_bd (ds_bd (ds_bd (ds_bd r (ds_ex f n 3)) (ds_ex f n 42)) (S d g)) (ds_ex f n 43)).2 (S d (ds_u1 g y (ds_sl d)) (ds_bd (ds_bd (ds_bd (ds_bd r (ds_ex f n 3)) (ds_ex f n 42)) (S d g)) (ds_ex f n 43)).2).2 d (ds_u1 g y (ds_sl d)) (fun N e => VS N d (ds_u1 g y (ds_sl d)) e (ds_bd (ds_bd (ds_bd (ds_bd r (ds_ex f n 3)) (ds_ex f n 42)) (S d g)) (ds_ex f n 43)).2) (cy_O (43 * 10000 + ds_sl d) v (cy_A law n (ds_bd (ds_bd r (ds_ex f n 3)) (ds_ex f n 42)).2 (S d g (ds_bd (ds_bd r (ds_ex f n 3)) (ds_ex f n 42)).2).2 d g (fun N e => VS N d g e (ds_bd (ds_bd r (ds_ex f n 3)) (ds_ex f n 42)).2) W))) f n g law t (ds_bd (ds_bd (ds_bd (ds_bd (ds_bd (ds_bd r (ds_ex f n 3)) (ds_ex f n 42)) (S d g)) (ds_ex f n 43)) (S d (ds_u1 g y (ds_sl d)))) (ds_ex f n 40)) → Q t) : fw_54_p29 R41 Q d y s := by
  unfold fw_54_p29
  refine fl_55 (fy_ex (by decide) hb h (fun a ha => fy_ex (by decide) hb ha (fun b hB => hS _ d g b _ _ hg hB (fun c hc => fy_ex (by decide) hb hc (fun e he => ⟨fun _ => trivial, fun t1 u1 h1 => fy_45 h1 he u1 (fun v i _ hi hy => ?_)⟩)))))
  have eg : i.1 33 y = g y := by rw [hi.2.2.1]
  rw [eg]
  refine hS _ d _ _ _ _ ⟨hg.1, fun x x0 x1 => ?_⟩ (cy_S_g (v := ds_sl d) hi) (fun j hj => fy_ex (by decide) hb (s := (lf_up j.1 33 y (g y), j.2.1, j.2.2)) (g := g) ?_ (k v))
  · unfold ds_u1
    by_cases hx : x = y
    · rw [if_pos hx]; exact Or.inr hsl
    · rw [if_neg hx]; exact hg.2 x x0 x1
  · have := cy_S_g (y := y) (v := g y) hj
    rw [ds_u1u] at this
    exact this
theorem fy_54 {R41 : Int → (lf_Z → Prop) → lf_Z → Prop} {S : ds_D} {VS : cy_D} (hb : cl_tp f n) (hS : cy_G z f n law R41 S VS) : cy_GL z f n law (fw_54 R41) (ds_let f n S) (fun N => dv_let f n S (VS N)) := by
  intro W d g s r Q hg hd h k
  have sl : ds_sl (d + 1) = d := by have := hg.1; unfold ds_sl; omega
  have hsl : 0 ≤ ds_sl (d + 1) ∧ ds_sl (d + 1) < 8 := by rw [sl]; exact ⟨hg.1, hd⟩
  have hg1 : 0 ≤ d + 1 ∧ cy_gB g := ⟨by have := hg.1; omega, hg.2⟩
  unfold fw_54
  intro _
  by_cases c : r.1 = 0
  · have e := cy_tok h c
    rw [ds_bd0 c] at k
    have bad : lx_T f n r.2 ≠ 3 → fw_54_p28 R41 Q (d + 1) s := by
      intro q
      unfold fw_54_p28
      refine fy_54p hb hS hg1 hsl h (fun v t ht => k t ?_)
      unfold ds_let
      have x : ds_ex f n 3 r.2 = (1, r.2) := by unfold ds_ex; rw [if_neg q]
      have n1 : (1 : Int) ≠ 0 := by decide
      rw [ds_bd0 c, x, ds_bdF (r := ((1 : Int), r.2)) n1, ds_bdF (r := ((1 : Int), r.2)) n1, ds_bdF (r := ((1 : Int), r.2)) n1, ds_bdF (r := ((1 : Int), r.2)) n1, ds_bdF (r := ((1 : Int), r.2)) n1] at ht
      rw [x, ds_bdF (r := ((1 : Int), r.2)) n1, ds_bdF (r := ((1 : Int), r.2)) n1, ds_bdF (r := ((1 : Int), r.2)) n1, ds_bdF (r := ((1 : Int), r.2)) n1, ds_bdF (r := ((1 : Int), r.2)) n1]
      exact cy_F ht n1
    refine ⟨fun q => bad (by rw [← e]; exact q), fun q => ?_⟩
    have q := Classical.not_not.mp q
    have q3 : lx_T f n r.2 = 3 := e.symm.trans q
    have v := cy_val h c (Or.inr q)
    have vb := lx_V3 q3
    refine fl_15 ?_
    rw [v, decide_eq_true vb.1, decide_eq_true vb.2]
    refine ⟨(fun z => by cases z), fun _ => fy_54p hb hS hg1 hsl h (fun v t hp => k t ?_)⟩
    have E : ds_let f n S (d + 1) g r.2 = ds_bd (ds_bd (ds_bd (ds_bd (ds_bd (ds_ex f n 3 r.2) (ds_ex f n 42)) (S (d + 1) g)) (ds_ex f n 43)) (S (d + 1) (ds_u1 g (lx_V f n r.2) (ds_sl (d + 1))))) (ds_ex f n 40) := rfl
    have x0 : ds_ex f n 3 r.2 = (0, ds_ad f n r.2) := by unfold ds_ex; rw [if_pos q3]
    rw [ds_bd0 c, x0, ds_bd0 (r := (0, ds_ad f n r.2)) rfl] at hp
    rw [x0, ds_bd0 (r := (0, ds_ad f n r.2)) rfl] at E
    by_cases z : (ds_let f n S (d + 1) g r.2).1 = 0
    · have z' := z
      rw [E] at z
      obtain ⟨z4, x3⟩ := ds_bdZ z
      obtain ⟨z3, y2⟩ := ds_bdZ z4
      obtain ⟨z2, x2⟩ := ds_bdZ z3
      obtain ⟨z1, y1⟩ := ds_bdZ z2
      obtain ⟨T1, q1⟩ := ds_exZ z1
      dsimp only at T1 q1
      rw [q1] at hp E z2 z3 z4 x2 x3 y1 y2
      rw [ds_bd0 (r := (0, ds_ad f n (ds_ad f n r.2))) rfl] at hp E z2 z3 z4 x2 x3 y2
      rw [ds_bd0 z2] at hp E z3 z4 x3 y2
      obtain ⟨T2, q2⟩ := ds_exZ x2
      dsimp only at q2 T2
      rw [q2] at hp E z4 x3 y2
      rw [ds_bd0 (r := (0, ds_ad f n (S (d + 1) g (ds_ad f n (ds_ad f n r.2))).2)) rfl] at hp E z4 x3
      rw [ds_bd0 z4] at hp E
      obtain ⟨T3, q3'⟩ := ds_exZ x3
      dsimp only at q3' T3
      rw [q3'] at hp E
      rw [E]
      obtain ⟨t1, t2⟩ := cz_ad (f := f) (n := n) (b := r.2) (by rw [q3]; decide)
      obtain ⟨t3, t4⟩ := cz_ad (f := f) (n := n) (b := ds_ad f n r.2) (by rw [T1]; decide)
      rw [sl] at hp T3 ⊢
      refine cy_m hp (fun o C _ hC => ?_)
      have := cy_Al (b := r.2) (by omega) (by rw [T2]; decide) (by rw [T3]; decide) (fun _ => t4) hg.1 hd hC
      have ev : (fun N e => dv_let f n S (VS N) (d + 1) g e r.2) = fun N e => VS N (d + 1) (ds_u1 g (lx_V f n r.2) d) (ds_u1 e (lx_V f n r.2) (VS N (d + 1) g e (ds_ad f n (ds_ad f n r.2)))) (ds_ad f n (S (d + 1) g (ds_ad f n (ds_ad f n r.2))).2) := by
        funext N e
        unfold dv_let
        rw [sl]
      rw [ev]
      exact this
    · rw [E] at z ⊢
      exact cy_F hp z
  · have e := cy_bad h c
    rw [e]
    refine ⟨fun _ => ?_, fun q => absurd (by decide) q⟩
    unfold fw_54_p28
    refine fy_54p hb hS hg1 hsl h (fun v t ht => k t ?_)
    rw [ds_bdF c, ds_bdF c, ds_bdF c, ds_bdF c, ds_bdF c, ds_bdF c] at ht
    rw [ds_bdF c]
    exact cy_F ht c
end D5
