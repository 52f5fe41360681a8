/-! clauses, texts: what the class's text writes -/
section D9
variable {f g : Int → Int} {n law : Int} {s t u z : lf_Z} {r : Int × Int} {W : cy_W} {b d w : Int} {t0 : Nat} {D : List Int}
theorem fy_c6 {l : Int} (h : cy_S z W f n g law s r) : cy_S z W f n g l (lf_up s.1 31 6 l, s.2.1, s.2.2) r := by
  obtain ⟨h1, h2, h3, h4, h5, h6, h7, h8⟩ := h
  have o : ∀ c : Nat, c ≠ 31 → (lf_up s.1 31 6 l) c = s.1 c := fun c hc => lf_up_row hc
  have i : ∀ j : Int, j ≠ 6 → (lf_up s.1 31 6 l) 31 j = s.1 31 j := fun j hj => lf_up_i hj
  refine ⟨(o 32 (by decide)).trans h1, (i 1 (by decide)).trans h2, (o 33 (by decide)).trans h3, zu_s, fun c => ?_, fun c => ?_, fun c => cy_Wc (h7 c) rfl (fun c hc => o c (by omega)), cy_Ke h8 rfl (fun c hc => o c (by omega))⟩
  · have q := h5 c
    unfold rd_at at q ⊢
    show ((lf_up s.1 31 6 l) 31 9 = r.2 ∧ (lf_up s.1 31 6 l) 31 8 = lx_T ((lf_up s.1 31 6 l) 32) ((lf_up s.1 31 6 l) 31 1) r.2 ∧ (lf_up s.1 31 6 l) 31 7 = lx_E ((lf_up s.1 31 6 l) 32) ((lf_up s.1 31 6 l) 31 1) r.2 ∧ (((lf_up s.1 31 6 l) 31 8 = 2 ∨ (lf_up s.1 31 6 l) 31 8 = 3) → (lf_up s.1 31 6 l) 31 10 = lx_V ((lf_up s.1 31 6 l) 32) ((lf_up s.1 31 6 l) 31 1) r.2)) ∧ (lf_up s.1 31 6 l) 31 2 = 0 ∧ 0 ≤ r.2 ∧ 0 ≤ (lf_up s.1 31 6 l) 31 7 ∧ (lf_up s.1 31 6 l) 31 3 = -1
    rw [i 3 (by decide), i 9 (by decide), i 8 (by decide), i 7 (by decide), i 10 (by decide), i 2 (by decide), i 1 (by decide), o 32 (by decide)]
    exact q
  · show (lf_up s.1 31 6 l) 31 2 = r.1 ∧ (lf_up s.1 31 6 l) 31 3 = r.2 ∧ (lf_up s.1 31 6 l) 31 8 = 1
    rw [i 2 (by decide), i 3 (by decide), i 8 (by decide)]
    exact h6 c
theorem ds_numZ {lo hi : Int} (q : (ds_num f n lo hi b).1 = 0) : lx_T f n b = 2 ∧ (ds_num f n lo hi b).2 = ds_ad f n b := by
  unfold ds_num at q ⊢
  split at q
  · split at q
    · rename_i a1 a2; rw [if_pos a1, if_pos a2]; exact ⟨a1, rfl⟩
    · exact absurd q (show (2 : Int) ≠ 0 by decide)
  · exact absurd q (show (1 : Int) ≠ 0 by decide)
theorem ds_deedZ (h : (ds_deed f n w b).1 = 0) : b ≤ (ds_deed f n w b).2 := by
  unfold ds_deed at h ⊢
  split at h
  · rename_i c
    rw [if_pos c]
    obtain ⟨a1, a2⟩ := ds_numZ h
    have := (cz_ad (f := f) (n := n) (b := b) (by omega)).1
    omega
  · rename_i c
    rw [if_neg c]
    obtain ⟨h1, h2⟩ := ds_bdZ h
    obtain ⟨h3, h4⟩ := ds_bdZ h1
    obtain ⟨a1, a2⟩ := ds_numZ h3
    obtain ⟨b1, b2⟩ := ds_exZ h4
    rw [ds_bd0 h1]
    rw [ds_bd0 h3, b2] at h2 ⊢
    obtain ⟨c1, c2⟩ := ds_numZ h2
    rw [c2]
    have x1 := (cz_ad (f := f) (n := n) (b := b) (by omega)).1
    have x2 := lm_ad0 (f := f) (n := n) (b := (ds_num f n (tx_sh ((w - 23) * 5)) (tx_sh ((w - 23) * 5 + 1)) b).2)
    have x3 := lm_ad0 (f := f) (n := n) (b := ds_ad f n (ds_num f n (tx_sh ((w - 23) * 5)) (tx_sh ((w - 23) * 5 + 1)) b).2)
    dsimp only at x2 x3 ⊢
    omega
/-- a clause: fw_38 -/
theorem fy_38 {Q : lf_Z → Prop} (hb : cl_tp f n) (hg : cy_gB g) (h : cy_S z (cs_W f n g t0 D b) f n g law s (0, b)) (k : ∀ (t : lf_Z) (law' : Int) (r' : Int × Int), cy_S z (cs_W f n g t0 (D ++ [b]) r'.2) f n g law' t r' → (r'.1 = 0 → r' = ds_cl f n g b) → Q t) : fw_38 Q s := by
  have e : s.1 31 8 = lx_T f n b := cy_tok h rfl
  obtain ⟨w1, w2, ⟨⟨w3, w4⟩, w5, w6⟩, w7, w8, w9⟩ := h.2.2.2.2.2.2.1 rfl
  have w3 : s.1 (35 + 7 * t0) 7 = (D.length : Int) := w3
  have no : ∀ v : Int, v ≠ 0 → fw_39 v Q s := fun v hv => fy_fail (W' := cs_W f n g t0 D b) hv h (fun t ht => k t law (v, b) (cy_F ht hv) (fun c => absurd c hv))
  unfold fw_38
  refine fl_15 ?_
  rw [e]
  refine ⟨fun q => ⟨fun _ => trivial, fun t1 e1 _ => ?_⟩, fun q => no 1 (by decide)⟩
  rw [Bool.and_eq_true, decide_eq_true_eq, decide_eq_true_eq] at q
  have E1 : t0 = t1 := Option.some.inj (w1.symm.trans e1)
  subst E1
  refine fl_40 ⟨fun c => ⟨fun _ => trivial, fun t2 e2 _ => ?_⟩, fun c => no 4 (by decide)⟩
  have E2 : t0 = t2 := Option.some.inj (w1.symm.trans e2)
  subst E2
  rw [w3]
  intro _
  refine ⟨fun hm => fy_adv hb h (fun a ha => ?_), fun hm => no 6 (by decide)⟩
  rw [ds_bd0 rfl] at ha
  have aP : a.2.2 2 = some t0 := by rw [cy_P ha, ← cy_P h]; exact w1
  obtain ⟨t1, t1n⟩ := cz_ad (f := f) (n := n) (b := b) (by omega)
  intro _
  refine ⟨fun c2 => ?_, fun c2 => ⟨fun _ => trivial, fun t3 e3 _ => ⟨fun _ => trivial, fun t4 e4 _ _ => ?_⟩⟩⟩
  · refine fy_58 (by omega) hb ha (fun y x hx hy => ?_)
    have hx := hx rfl
    unfold fw_38_p146
    refine fy_ex (by decide) hb hy (fun u hu => k u law (ds_bd (ds_bd (0, ds_ad f n b) (ds_deed f n (lx_T f n b))) (ds_ex f n 16)) ?_ (fun _ => ?_))
    · by_cases c3 : (ds_bd (ds_bd (0, ds_ad f n b) (ds_deed f n (lx_T f n b))) (ds_ex f n 16)).1 = 0
      · refine cy_m hu (fun o C _ hC => cs_dd c2 (by omega) (hx.trans ?_) ?_ ?_ hC)
        · unfold cs_x
          by_cases c4 : tx_sh ((lx_T f n b - 23) * 5 + 2) ≠ 0
          · rw [if_pos c4, if_pos ⟨c2, c4⟩]
          · rw [if_neg c4, if_neg (fun q => c4 q.2)]
        · obtain ⟨z1, z2⟩ := ds_bdZ c3
          obtain ⟨z3, z4⟩ := ds_exZ z2
          rw [ds_bd0 z1, z4]
          rw [ds_bd0 (r := (0, ds_ad f n b)) rfl] at z1 ⊢
          have x1 := ds_deedZ z1
          have x2 := lm_ad0 (f := f) (n := n) (b := (ds_deed f n (lx_T f n b) (ds_ad f n b)).2)
          dsimp only at x1 ⊢
          omega
        · obtain ⟨z1, z2⟩ := ds_bdZ c3
          obtain ⟨z3, z4⟩ := ds_exZ z2
          rw [ds_bd0 z1, z4]
          exact (cz_ad (by rw [z3]; decide)).2
      · exact cy_F hu c3
    · show ds_bd (ds_bd (0, ds_ad f n b) (ds_deed f n (lx_T f n b))) (ds_ex f n 16) = _
      rw [ds_bd0 (r := (0, ds_ad f n b)) rfl]; unfold ds_cl; rw [if_pos c2]
  · have E3 : t0 = t3 := Option.some.inj (aP.symm.trans e3)
    subst E3
    have E4 : t0 = t4 := Option.some.inj (aP.symm.trans e4)
    subst E4
    have hV := fy_E (k := 2) (l := lx_T f n b - 20) (Or.inl rfl) w2 (fy_c6 (l := lx_T f n b - 20) ha) (show (lf_up a.1 31 6 (lx_T f n b - 20), a.2.1, a.2.2).2.2 2 = some t0 from aP)
    rw [show 35 + (2 + 7 * t0) = 37 + 7 * t0 by omega] at hV
    refine fy_sum hb hg hV (fun w hw => ⟨fun _ => trivial, fun t5 e5 _ => ⟨fun _ => trivial, fun t6 e6 _ _ => ⟨fun _ => trivial, fun t7 e7 _ => ?_⟩⟩⟩)
    have wP : w.2.2 2 = some t0 := by rw [cy_P hw, ← cy_P h]; exact w1
    have E5 : t0 = t5 := Option.some.inj (wP.symm.trans e5)
    subst E5
    have E6 : t0 = t6 := Option.some.inj (wP.symm.trans e6)
    subst E6
    have E7 : t0 = t7 := Option.some.inj (wP.symm.trans e7)
    subst E7
    have w6' : w.1 31 6 = lx_T f n b - 20 := hw.2.2.2.1
    rw [w6']
    have hY := fy_E (k := 3) (l := lx_T f n b - 20) (Or.inr rfl) w2 hw wP
    rw [show 35 + (3 + 7 * t0) = 38 + 7 * t0 by omega] at hY
    refine fy_57 w2 hY wP (fun y _ hy => ?_)
    unfold fw_38_p146
    refine fy_ex (by decide) hb hy (fun u hu => k u (lx_T f n b - 20) (ds_bd (ds_bd (0, ds_ad f n b) ((ds_T f n (lx_T f n b - 20) 200).1 0 g)) (ds_ex f n 16)) ?_ (fun _ => ?_))
    · by_cases c3 : (ds_bd (ds_bd (0, ds_ad f n b) ((ds_T f n (lx_T f n b - 20) 200).1 0 g)) (ds_ex f n 16)).1 = 0
      · refine cy_m hu (fun o C _ hC => cs_lw (l := lx_T f n b - 20) (by omega) rfl (by omega) ?_ ?_ (fun y hy hyT => ?_) hC)
        · obtain ⟨z1, z2⟩ := ds_bdZ c3
          obtain ⟨z3, z4⟩ := ds_exZ z2
          rw [ds_bd0 z1, z4, ds_bd0 (r := (0, ds_ad f n b)) rfl]
          exact lm_ad0
        · obtain ⟨z1, z2⟩ := ds_bdZ c3
          obtain ⟨z3, z4⟩ := ds_exZ z2
          rw [ds_bd0 z1, z4]
          exact (cz_ad (by rw [z3]; decide)).2
        · have c := c
          have x := ((w6 (lx_T f n b - 20) (by omega) (by omega)).2 y hy hyT).1.1
          have x : 0 ≤ s.1 (35 + (2 + 7 * t0)) (lx_T f n b - 20) := x
          rw [show 35 + (2 + 7 * t0) = 37 + 7 * t0 by omega] at x
          rw [decide_eq_true (show 0 ≤ lx_T f n b - 20 by omega), decide_eq_true (show lx_T f n b - 20 < 3 by omega), decide_eq_true (show s.1 (37 + 7 * t0) (lx_T f n b - 20) ≠ -1 by omega)] at c
          cases c
      · exact cy_F hu c3
    · rw [ds_bd0 (r := (0, ds_ad f n b)) rfl]; unfold ds_cl; rw [if_neg c2]
/-- the loop over clauses -/
theorem fy_29l {Q : Bool → lf_Z → Prop} (hb : cl_tp f n) (hg : cy_gB g) (h : cy_S z (cs_W f n g t0 [] b) f n g law s (0, b)) (k : ∀ (zz : Bool) (t : lf_Z), cy_K z t → (zz = true → cs_F f n g (fun c => t.1 (35 + c)) t0 (tx_ps f n g 301 b) ∧ t.1 (35 + 7 * t0) 1 ≤ 300) → Q zz t) : fw_29_p41L Q 0 s := by
  refine ⟨fun x2 t => 0 ≤ x2 ∧ x2 ≤ 301 ∧ ∃ (law : Int) (r : Int × Int) (D : List Int), cy_S z (cs_W f n g t0 D r.2) f n g law t r ∧ (r.1 = 0 → D ++ tx_ps f n g (301 - x2).toNat r.2 = tx_ps f n g 301 b), ?_, ⟨Int.le_refl _, by decide, law, _, [], h, fun _ => rfl⟩⟩
  intro x2 t ⟨x0, x3, law, r, D, hr, h0⟩
  have hK : cy_K z (lf_up t.1 31 1 0, t.2.1, t.2.2) := cy_Ke hr.2.2.2.2.2.2.2 rfl (fun c hc => lf_up_row (by omega))
  have fin : (r.1 = 0 → tx_ps f n g (301 - x2).toNat r.2 = []) → fw_29_p72 Q t := by
    intro e
    unfold fw_29_p72
    intro _
    by_cases c : r.1 = 0
    · obtain ⟨a1, a2, a3, a4, a5⟩ := hr.2.2.2.2.1 c
      refine ⟨fun d => absurd a2 d, fun _ => k true _ hK (fun _ => ?_)⟩
      have := h0 c
      rw [e c, List.append_nil] at this
      rw [← this]
      obtain ⟨_, _, q, q2, q3, q4⟩ := hr.2.2.2.2.2.2.1 c
      have q2 : t.1 (35 + 7 * t0) 1 ≤ r.2 := q2
      refine ⟨?_, by show (lf_up t.1 31 1 0) (35 + 7 * t0) 1 ≤ 300; rw [lf_up_row (show 35 + 7 * t0 ≠ 31 by omega)]; omega⟩
      have er : (fun c : Nat => (lf_up t.1 31 1 0) (35 + c)) = fun c : Nat => t.1 (35 + c) := funext fun c => lf_up_row (by omega)
      show cs_F f n g (fun c : Nat => (lf_up t.1 31 1 0) (35 + c)) t0 D
      rw [er]; exact q
    · obtain ⟨a1, a2, a3⟩ := hr.2.2.2.2.2.1 c
      exact ⟨fun _ => k false _ hK (fun d => by cases d), fun d => absurd (by rw [a1]; exact c) d⟩
  have eqr : r.1 = 0 → r = (0, r.2) := by
    intro c
    obtain ⟨a, b⟩ := r
    have c : a = 0 := c
    rw [c]
  unfold fw_29_p41
  intro _
  by_cases c : r.1 = 0
  · have hl := h0 c
    have e := cy_tok hr c
    have a2 := (hr.2.2.2.2.1 c).2.1
    refine ⟨fun d => fin (fun _ => ?_), fun d _ => ⟨fun q => fin (fun _ => ?_), fun q _ => ⟨fun w => absurd a2 w, fun _ => ?_⟩⟩⟩
    · rw [show (301 - x2).toNat = 0 by omega]; rfl
    · rw [show (301 - x2).toNat = (300 - x2).toNat + 1 by omega]
      exact if_pos (by rw [← e]; exact q)
    · rw [show (301 - x2).toNat = (301 - (x2 + 1)).toNat + 1 by omega] at hl
      have step : tx_ps f n g ((301 - (x2 + 1)).toNat + 1) r.2 = r.2 :: tx_ps f n g (301 - (x2 + 1)).toNat (ds_cl f n g r.2).2 := if_neg (by rw [← e]; exact q)
      rw [step] at hl
      have hr2 : cy_S z (cs_W f n g t0 D r.2) f n g law t (0, r.2) := by rw [← eqr c]; exact hr
      refine fy_38 hb hg hr2 (fun u law' r' hu k2 => ⟨by omega, by omega, law', r', D ++ [r.2], hu, fun z => ?_⟩)
      rw [k2 z, List.append_assoc]
      exact hl
  · have e := cy_bad hr c
    have a1 := (hr.2.2.2.2.2.1 c).1
    refine ⟨fun _ => fin (fun q => absurd q c), fun _ _ => ⟨fun q => ?_, fun _ _ => ⟨fun _ => fin (fun q => absurd q c), fun w => absurd (by rw [a1]; exact c) w⟩⟩⟩
    rw [e] at q; cases q
/-- text of the class: what it writes into the rows of the scripts -/
theorem fy_28 {Q : Int → lf_Z → Prop} (hb : cl_tp (s.1 32) (s.1 31 1)) (h300 : 0 ≤ s.1 31 1 ∧ s.1 31 1 ≤ 300) (kN : ¬ s.1 0 11 < 4 → Q (-1) s) (k : s.1 0 11 < 4 → 0 ≤ s.1 0 11 → ∀ (zz : Bool) (t : lf_Z) (v : Int), (∀ c : Nat, 35 ≤ c → (c < 35 + 7 * (s.1 0 11).toNat ∨ 42 + 7 * (s.1 0 11).toNat ≤ c) → t.1 c = s.1 c) → t.2.2 = lf_ur s.2.2 2 (some (s.1 0 11).toNat) → (zz = true → v = s.1 0 11 ∧ cs_F (s.1 32) (s.1 31 1) tx_g0 (fun c => t.1 (35 + c)) (s.1 0 11).toNat (tx_ps (s.1 32) (s.1 31 1) tx_g0 301 (lx_sk (s.1 32) (s.1 31 1) 0)) ∧ t.1 (35 + 7 * (s.1 0 11).toNat) 1 ≤ 300) → (zz = false → v = -1) → Q v t) : fw_28 Q s := by
  unfold fw_28
  intro _
  refine ⟨fun c c' t0 e0 => ?_, kN⟩
  unfold fw_29
  refine ⟨fun _ => trivial, fun t1 e1 h4 => ?_⟩
  have E1 : t0 = t1 := by
    rw [lf_ur2v] at e1
    exact Option.some.inj e1
  subst E1
  unfold fw_30
  dsimp only
  generalize hV : lf_up (lf_fl (lf_up (lf_up (lf_fl (lf_up (lf_up s.1 (35 + 7 * t0) 1 0) (35 + 7 * t0) 7 0) (37 + 7 * t0) 3 (-1)) 31 2 0) 31 3 (-1)) 33 26 (-1)) 31 7 0 = V
  have vc : ∀ c : Nat, c ≠ 31 → c ≠ 33 → c ≠ 35 + 7 * t0 → c ≠ 37 + 7 * t0 → V c = s.1 c := by
    intro c c1 c2 c3 c4
    funext j
    rw [← hV]
    exact (lf_up_c c1).trans ((lf_fl_c c2).trans ((lf_up_c c1).trans ((lf_up_c c1).trans ((lf_fl_c c4).trans ((lf_up_c c3).trans (lf_up_c c3))))))
  have v7 : V 31 7 = 0 := by rw [← hV]; exact lf_up_s
  have v2 : V 31 2 = 0 := by rw [← hV]; exact (lf_up_i (by decide)).trans ((lf_fl_c (by decide)).trans ((lf_up_i (by decide)).trans lf_up_s))
  have v3 : V 31 3 = -1 := by rw [← hV]; exact (lf_up_i (by decide)).trans ((lf_fl_c (by decide)).trans lf_up_s)
  have v1 : V 31 1 = s.1 31 1 := by rw [← hV]; exact (lf_up_i (by decide)).trans ((lf_fl_c (by decide)).trans ((lf_up_i (by decide)).trans ((lf_up_i (by decide)).trans ((lf_fl_c (by omega)).trans ((lf_up_c (by omega)).trans (lf_up_c (by omega)))))))
  have vg : ∀ l : Int, 0 ≤ l → l < 26 → V 33 l = -1 := by
    intro l l0 l1
    rw [← hV]
    refine (lf_up_c (by decide)).trans ?_
    unfold lf_fl
    rw [if_pos ⟨rfl, l0, l1⟩]
  have vl : ∀ l : Int, 0 ≤ l → l < 3 → V (37 + 7 * t0) l = -1 := by
    intro l l0 l1
    rw [← hV]
    refine (lf_up_c (by omega)).trans ((lf_fl_c (by omega)).trans ((lf_up_c (by omega)).trans ((lf_up_c (by omega)).trans ?_)))
    unfold lf_fl
    rw [if_pos ⟨rfl, l0, l1⟩]
  have vm : V (35 + 7 * t0) 7 = 0 := by
    rw [← hV]
    exact (lf_up_c (by omega)).trans ((lf_fl_c (by omega)).trans ((lf_up_c (by omega)).trans ((lf_up_c (by omega)).trans ((lf_fl_c (by omega)).trans lf_up_s))))
  have vn : V (35 + 7 * t0) 1 = 0 := by
    rw [← hV]
    exact (lf_up_c (by omega)).trans ((lf_fl_c (by omega)).trans ((lf_up_c (by omega)).trans ((lf_up_c (by omega)).trans ((lf_fl_c (by omega)).trans ((lf_up_i (by decide)).trans lf_up_s)))))
  have v32 : V 32 = s.1 32 := vc 32 (by omega) (by omega) (by omega) (by omega)
  have v0 : V 0 = s.1 0 := vc 0 (by omega) (by omega) (by omega) (by omega)
  have hVb : ∀ i, 0 ≤ i → i < V 31 1 → 0 ≤ V 32 i ∧ V 32 i ≤ 255 := by rw [v1, v32]; exact hb
  refine fl_31 (s := (V, s.2.1, lf_ur s.2.2 2 (some t0))) v2 (by show 0 ≤ V 31 7; rw [v7]; exact Int.le_refl _) hVb (fun t hF hA => ?_)
  have hA2 : rd_at t (lx_sk (V 32) (V 31 1) (V 31 7)) := hA
  rw [v32, v1, v7] at hA2
  have t32 : t.1 32 = s.1 32 := (hF.1 32 (by decide)).trans v32
  have t1' : t.1 31 1 = s.1 31 1 := (hF.2.1 1 (by decide) (by decide) (by decide) (by decide)).trans v1
  have t0' : t.1 0 = s.1 0 := (hF.1 0 (by decide)).trans v0
  have tP : t.2.2 = lf_ur s.2.2 2 (some t0) := congrArg (·.2) hF.2.2
  have g0 : lg_a (V 33) tx_g0 := fun j j0 j1 => vg j j0 j1
  have rowT : ∀ c : Nat, 35 ≤ c → t.1 c = V c := fun c hc => hF.1 c (by omega)
  have tS : cy_S t (cs_W (s.1 32) (s.1 31 1) (V 33) t0 [] (lx_sk (s.1 32) (s.1 31 1) 0)) (s.1 32) (s.1 31 1) (V 33) (t.1 31 6) t (0, lx_sk (s.1 32) (s.1 31 1) 0) := by
    refine ⟨t32, t1', hF.1 33 (by decide), rfl, fun _ => ⟨hA2, (hF.2.1 2 (by decide) (by decide) (by decide) (by decide)).trans v2, lx_runB, ?_, (hF.2.1 3 (by decide) (by decide) (by decide) (by decide)).trans v3⟩, fun d => absurd rfl d, fun _ => ?_, cy_Kr⟩
    · rw [hA2.2.2.1]
      exact cl_E0 lx_runB
    · have n0 : (fun c : Nat => t.1 (35 + c)) (7 * t0) = V (35 + 7 * t0) := rowT _ (by omega)
      have n2 : (fun c : Nat => t.1 (35 + c)) (2 + 7 * t0) = V (37 + 7 * t0) := (rowT _ (by omega)).trans (by rw [show 35 + (2 + 7 * t0) = 37 + 7 * t0 by omega])
      have nb : 0 ≤ lx_sk (s.1 32) (s.1 31 1) 0 := lx_runB
      refine ⟨by rw [tP]; rfl, h4, ⟨⟨?_, ?_⟩, fun i y hy => (by cases hy), fun l l0 l1 => ⟨fun _ => ?_, fun y hy => (by cases hy)⟩⟩, ?_, ?_, h300.2⟩
      · rw [n0]; exact vm
      · rw [n0, vn]; exact Int.le_refl _
      · rw [n2]; exact vl l l0 l1
      · rw [n0, vn]; exact nb
      · exact lx_runN h300.1
  refine fy_29l (by intro i a b; exact hb i a b) (fun x x0 x1 => Or.inl (vg x x0 x1)) tS (fun zz u uK uF => ?_)
  have c0 : 0 ≤ s.1 0 11 := c'.1
  have frame : ∀ c : Nat, 35 ≤ c → (c < 35 + 7 * t0 ∨ 42 + 7 * t0 ≤ c) → u.1 c = s.1 c := fun c c1 c2 => (uK.2.2 t0 (by rw [tP]; rfl) c c1 c2).trans ((rowT c c1).trans (vc c (by omega) (by omega) (by omega) (by omega)))
  have uP : u.2.2 = lf_ur s.2.2 2 (some t0) := uK.1.trans tP
  have u0 : u.1 0 11 = s.1 0 11 := by rw [uK.2.1, t0']
  rw [← e0] at k
  refine ⟨fun d => ?_, fun d => ?_⟩
  · refine k c c0 true _ _ (fun c c1 c2 => (lf_up_row (by omega)).trans (frame c c1 c2)) uP (fun _ => ⟨by rw [u0]; omega, ?_, by show (lf_up u.1 0 11 (u.1 0 11 + 1)) (35 + 7 * t0) 1 ≤ 300; rw [lf_up_row (show 35 + 7 * t0 ≠ 0 by omega)]; exact (uF d).2⟩) (fun q => by cases q)
    have er : (fun c : Nat => (lf_up u.1 0 11 (u.1 0 11 + 1)) (35 + c)) = fun c : Nat => u.1 (35 + c) := funext fun c => lf_up_row (by omega)
    show cs_F _ _ _ (fun c : Nat => (lf_up u.1 0 11 (u.1 0 11 + 1)) (35 + c)) t0 _
    rw [er, ← lg_ps g0]
    exact cs_Fg g0 (uF d).1
  · exact k c c0 false _ _ frame uP (fun q => by cases q) (fun _ => rfl)
end D9
