/-! the reference's clauses and texts: what they write -/
section RY
variable {f : Int → Int} {n law a b b' c k i x : Int} {P : ln_P} {o : List (Int × Int)} {s t z u : lf_Z} {r : Int × Int} {D : List Int} {F G : Int → Int}
/-- the text at a holds the clauses D -/
def rs_F (f : Int → Int) (n : Int) (F : Int → Int) (a : Int) (o : List (Int × Int)) (D : List Int) : Prop := F a = (D.length : Int) ∧ ∀ (i : Nat) (b : Int), D[i]? = some b → F (a + 1 + 4 * i) = lx_T f n b - 20
  ∧ (22 < lx_T f n b → F (a + 1 + 4 * i + 1) = cs_v f n b ∧ (tx_sh ((lx_T f n b - 23) * 5 + 2) ≠ 0 → F (a + 1 + 4 * i + 2) = cs_x f n b))
  ∧ (lx_T f n b ≤ 22 → ∃ (m : Nat) (o2 : List (Int × Int)), F (a + 1 + 4 * i + 1) = m ∧ F (a + 1 + 4 * i + 2) = o2.length ∧ (∃ w, o = w ++ o2) ∧ rs_V f n (lx_T f n b - 20) (ds_ad f n b) m o2)
def rs_W (f : Int → Int) (n a : Int) (D : List Int) (b : Int) : tz_T := fun F o => rs_F f n F a o D ∧ D.length ≤ 24 ∧ (o.length : Int) ≤ b ∧ b ≤ n
theorem rs_add {m : Int} (hx : x = lx_T f n b - 20) (x0 : 0 ≤ x) (hm : m = D.length) (m24 : m < 24) (hT : lx_T f n b' = 16) (hb : 2 < x → ds_ad f n b ≤ b') (h : tz_1 a (m + 1) (tz_c f n x a (a + 1 + 4 * m) (ds_ad f n b) b' (tz_1 (a + 1 + 4 * m) x (rs_W f n a D b))) F o) : rs_W f n a (D ++ [b]) (ds_ad f n b') F o := by
  obtain ⟨F1, ⟨hs, hd⟩, eF⟩ := h
  have t' := (cz_ad (f := f) (n := n) (b := b') (by omega))
  have tb := lm_ad0 (f := f) (n := n) (b := b)
  have len : ((D ++ [b]).length : Int) = m + 1 := by rw [List.length_append, List.length_singleton]; omega
  have fa : F a = m + 1 := by rw [eF]; exact if_pos rfl
  have fo : ∀ j : Int, j ≠ a → F j = F1 j := fun j hj => by rw [eF]; exact if_neg hj
  -- what came before, and the new clause
  have key : ∀ (G0 : Int → Int) (o1 : List (Int × Int)), rs_W f n a D b G0 o1 → (∃ w, o = w ++ o1) → (∀ j : Int, a < j → j < a + 97 → j ≠ a + 1 + 4 * m → j ≠ a + 1 + 4 * m + 1 → j ≠ a + 1 + 4 * m + 2 → F1 j = G0 j) → F1 (a + 1 + 4 * m) = x → (o.length : Int) ≤ b'
      → (22 < lx_T f n b → F1 (a + 1 + 4 * m + 1) = cs_v f n b ∧ (tx_sh ((lx_T f n b - 23) * 5 + 2) ≠ 0 → F1 (a + 1 + 4 * m + 2) = cs_x f n b))
      → (lx_T f n b ≤ 22 → ∃ (mm : Nat) (o2 : List (Int × Int)), F1 (a + 1 + 4 * m + 1) = mm ∧ F1 (a + 1 + 4 * m + 2) = o2.length ∧ (∃ w, o = w ++ o2) ∧ rs_V f n (lx_T f n b - 20) (ds_ad f n b) mm o2) → rs_W f n a (D ++ [b]) (ds_ad f n b') F o := by
    intro G0 o1 ⟨⟨g1, g2⟩, g3, g4, g5⟩ ⟨w, hw⟩ same fx fl n1 n2
    refine ⟨⟨by rw [fa, len], fun i y hy => ?_⟩, by omega, by omega, t'.2⟩
    rw [fo _ (by omega), fo _ (by omega), fo _ (by omega)]
    rcases cs_at hy with q | ⟨q, ey⟩
    · have il := cs_lt q
      rw [same _ (by omega) (by omega) (by omega) (by omega) (by omega), same _ (by omega) (by omega) (by omega) (by omega) (by omega), same _ (by omega) (by omega) (by omega) (by omega) (by omega)]
      obtain ⟨y1, y2, y3⟩ := g2 i y q
      refine ⟨y1, y2, fun y22 => ?_⟩
      obtain ⟨mm, o2, z1, z2, ⟨w2, z3⟩, z4⟩ := y3 y22
      exact ⟨mm, o2, z1, z2, ⟨w ++ w2, by rw [hw, z3, List.append_assoc]⟩, z4⟩
    · rw [show a + 1 + 4 * (i : Int) = a + 1 + 4 * m by omega, ey]
      exact ⟨by rw [fx]; exact hx, n1, n2⟩
  by_cases q : x ≤ 2
  · obtain ⟨G, o1, ⟨G0, hW, eG⟩, s1, s2, s3, s4⟩ := hs q
    obtain ⟨hw, hl, hV⟩ := s4 hT
    have lo := hW.2.2.1
    refine key G0 o1 hW hw (fun j j0 j1 j2 j3 j4 => ?_) ?_ (by omega) (fun w => by omega) (fun _ => ⟨o1.length, o, s1, s2, ⟨[], rfl⟩, by rw [← hx]; exact hV⟩)
    · rw [s3 j j1 j3 j4, eG]; exact if_neg j2
    · rw [s3 _ (by omega) (by omega) (by omega), eG]; exact if_pos rfl
  · obtain ⟨G, ⟨G0, hW, eG⟩, s1, s2, s3⟩ := hd (by omega)
    have lo := hW.2.2.1
    have hb := hb (by omega)
    refine key G0 o hW ⟨[], rfl⟩ (fun j j0 j1 j2 j3 j4 => ?_) ?_ (by omega) (fun w => ⟨?_, fun w2 => ?_⟩) (fun w => by omega)
    · rw [s1 j j3 j4, eG]; exact if_neg j2
    · rw [s1 _ (by omega) (by omega), eG]; exact if_pos rfl
    · rw [s2]; unfold cs_v; rw [if_pos w]
    · rw [s3 (by rw [show (20 : Int) + x - 23 = lx_T f n b - 23 by omega]; exact w2)]; unfold cs_x; rw [if_pos ⟨w, w2⟩]
theorem tz_ca {m : Int} (hm : m = D.length) (m24 : m < 24) (m0 : 0 ≤ m) (h : tz_c f n x a (a + 1 + 4 * m) c b' (tz_1 (a + 1 + 4 * m) k (rs_W f n a D b)) F o) : F a = m := by
  by_cases q : x ≤ 2
  · obtain ⟨G, o1, ⟨G0, hW, eG⟩, s1, s2, s3, s4⟩ := h.1 q
    rw [s3 a (by omega) (by omega) (by omega), eG]
    exact (if_neg (by omega)).trans (hW.1.1.trans hm.symm)
  · obtain ⟨G, ⟨G0, hW, eG⟩, s1, s2, s3⟩ := h.2 (by omega)
    rw [s1 a (by omega) (by omega), eG]
    exact (if_neg (by omega)).trans (hW.1.1.trans hm.symm)
theorem tz_202 {Q : Int → lf_Z → Prop} (h : tz_S z a (rs_W f n a D b) f n b s) (hn : n ≤ 300) (kk : ∀ (r : Int × Int) (t : lf_Z), tz_Q z a (rs_W f n a (D ++ [b]) r.2) f n r t → (r.1 = 0 → r = ds_cl f n tx_g0 b) → Q r.1 t) : fw_202 Q s := by
  have bad : ∀ w : Int, w ≠ 0 → Q w s := fun w hw => kk (w, b) s ⟨h.1, fun q => absurd q hw⟩ (fun q => absurd q hw)
  have x12 : s.1 95 12 = a := h.2.2.1
  obtain ⟨o0, _, _, hW0⟩ := h.2.2.2
  have x98 : s.1 98 a = (D.length : Int) := hW0.1.1
  have p65 : ∀ (x : Int) (u : lf_Z), tz_S z a (rs_W f n a D b) f n b u → (D.length : Int) < 24 → x = lx_T f n b - 20 → 0 ≤ x → x ≤ 12 → fw_202_p65 Q x (D.length : Int) u := by
    intro x u hu m24 ex e0 e1
    have ecl : ds_cl f n tx_g0 b = ds_bd (tn_bd f n x (ds_ad f n b)) (ds_ex f n 16) := by
      unfold ds_cl tn_bd
      by_cases q : 2 < x
      · rw [if_pos q, if_pos (by omega), show (20 : Int) + x = lx_T f n b by omega]
      · rw [if_neg q, if_neg (by omega), ex]; rfl
    unfold fw_202_p65
    refine tz_nx (tz_95 (v := x) hu (Or.inl rfl)) (fun t ht t95 tq => ?_)
    rw [ht.2.2.1]
    intro _
    have h4 := tz_98 (v := x) ht (show a ≤ a + 1 + 4 * (D.length : Int) by omega) (by omega)
    have l4 : ((lf_up t.1 98 (a + 1 + 4 * (D.length : Int)) x, t.2.1, t.2.2) : lf_Z).1 95 14 = x := (zu_c (by decide)).trans ((t95 14 (by omega)).trans zu_s)
    refine tz_211 h4 hn l4 e0 e1 (by omega) (by omega) (fun y hy => ?_)
    obtain ⟨yL, yS⟩ := hy
    intro _
    refine ⟨fun q _ _ => ?_, fun q => ?_⟩
    · have yS := yS q
      have KT := la_Bk yS.2.1
      unfold la_kt at KT
      have y12 : y.1 95 12 = a := yS.2.2.1
      have ya : y.1 98 a = (D.length : Int) := by
        obtain ⟨o', _, _, hc⟩ := yS.2.2.2
        exact tz_ca rfl m24 (by omega) hc
      rw [y12, ya]
      have hy2 := tz_98 (i := a) (v := (D.length : Int) + 1) yS (Int.le_refl a) (by omega)
      refine ⟨fun w => tz_nx hy2 (fun g hg _ _ => ?_), fun w => ?_⟩
      · have T16 : lx_T f n (tn_bd f n x (ds_ad f n b)).2 = 16 := by omega
        have cl : ds_cl f n tx_g0 b = (0, ds_ad f n (tn_bd f n x (ds_ad f n b)).2) := by
          rw [ecl, ds_bd0 q]
          exact if_pos T16
        refine kk (0, ds_ad f n (tn_bd f n x (ds_ad f n b)).2) g ⟨hg.1, fun _ => tz_m hg (fun F o hF _ => rs_add ex e0 rfl m24 T16 (fun x2 => ?_) hF)⟩ (fun _ => cl.symm)
        have e : tn_bd f n x (ds_ad f n b) = ds_deed f n (20 + x) (ds_ad f n b) := if_pos x2
        rw [e] at q ⊢
        exact ds_deedZ q
      · exact kk (1, b) _ ⟨hy2.1, fun c => absurd c (show (1 : Int) ≠ 0 by decide)⟩ (fun c => absurd c (show (1 : Int) ≠ 0 by decide))
    · exact kk ((tn_bd f n x (ds_ad f n b)).1, b) y ⟨yL, fun c => absurd c q⟩ (fun c => absurd c q)
  have p29 : ∀ x : Int, x = lx_T f n b - 20 → 0 ≤ x → x ≤ 12 → fw_202_p29 Q x s := by
    intro x ex e0 e1
    unfold fw_202_p29
    rw [x12, x98]
    intro _ _
    have l24 := hW0.2.1
    exact ⟨fun q _ => ⟨fun q2 => p65 x s h (by omega) ex e0 e1, fun q2 => p65 x _ (tz_95 h (Or.inr rfl)) (by omega) ex e0 e1⟩, fun q => bad 6 (by decide)⟩
  unfold fw_202
  refine fl_203 h.2.1 (fun x hx => ?_)
  intro _
  by_cases c : 20 ≤ lx_T f n b ∧ lx_T f n b ≤ 32
  · rw [if_pos c] at hx
    refine ⟨fun _ => ⟨fun q => p29 x hx (by omega) (by omega), fun q => ?_⟩, fun q => by omega⟩
    unfold fw_210
    exact ⟨fun y => ⟨fun _ => p29 x hx (by omega) (by omega), fun g => (by cases g)⟩, fun y => ⟨fun g => (by cases g), fun _ => bad 4 (by decide)⟩⟩
  · rw [if_neg c] at hx
    exact ⟨fun q => by omega, fun _ => bad 1 (by decide)⟩
/-- a text that the reference holds at a -/
def rs_X (f : Int → Int) (n : Int) (F : Int → Int) (a : Int) (D : List Int) : Prop := ∃ o : List (Int × Int), ln_ou F (a + 97) o ∧ rs_F f n F a o D ∧ D.length ≤ 24 ∧ (o.length : Int) ≤ 300
theorem tz_196 {Q : Int → lf_Z → Prop} {a : Int} (ea : a = 705 * s.1 96 7) (h0 : 0 ≤ s.1 95 4) (hn : s.1 95 4 ≤ 300) (hb : cl_tp (s.1 99) (s.1 95 4)) (kk : ∀ (v : Int) (t : lf_Z), tz_L s a t → (v = 0 → rs_X (s.1 99) (s.1 95 4) (t.1 98) a (tx_ps (s.1 99) (s.1 95 4) tx_g0 301 (lx_sk (s.1 99) (s.1 95 4) 0))) → Q v t) : fw_196 Q s := by
  unfold fw_196
  intro _
  generalize hf : s.1 99 = f at hb kk
  generalize hnn : s.1 95 4 = n at h0 hn hb kk
  rw [← ea]
  obtain ⟨u, hu⟩ : ∃ u : lf_Z, u = (lf_up (lf_up (lf_up (lf_up (lf_up s.1 95 12 a) 98 a 0) 95 13 0) 95 24 0) 95 7 0, s.2.1, s.2.2) := ⟨_, rfl⟩
  rw [← hu]
  have u95 : ∀ i : Int, i ≠ 7 → i ≠ 12 → i ≠ 13 → i ≠ 24 → u.1 95 i = s.1 95 i := fun i h7 h12 h13 h24 => by rw [hu]; exact (zu_i h7).trans ((lf_up_i h24).trans ((lf_up_i h13).trans ((lf_up_c (by decide)).trans (lf_up_i h12))))
  have uq : ∀ q : Nat, q ≠ 95 → q ≠ 98 → u.1 q = s.1 q := fun q h1 h2 => by rw [hu]; exact (zu_r h1).trans ((lf_up_row h1).trans ((lf_up_row h1).trans ((lf_up_row h2).trans (lf_up_row h1))))
  have u7 : u.1 95 7 = 0 := by rw [hu]; exact zu_s
  have u12 : u.1 95 12 = a := by rw [hu]; exact (zu_i (by decide)).trans ((lf_up_i (by decide)).trans ((lf_up_i (by decide)).trans ((lf_up_c (by decide)).trans lf_up_s)))
  have u13 : u.1 95 13 = 0 := by rw [hu]; exact (zu_i (by decide)).trans ((lf_up_i (by decide)).trans lf_up_s)
  have u98 : ∀ j : Int, u.1 98 j = if j = a then 0 else s.1 98 j := fun j => by
    rw [hu]
    refine (zu_c (by decide)).trans ((lf_up_c (by decide)).trans ((lf_up_c (by decide)).trans ?_))
    by_cases q : j = a
    · rw [if_pos q, q]; exact lf_up_s
    · rw [if_neg q]; exact (lf_up_i q).trans (lf_up_c (by decide))
  have uP : u.2.2 = s.2.2 := by rw [hu]
  have uf : u.1 99 = f := (uq 99 (by decide) (by decide)).trans hf
  have un : u.1 95 4 = n := (u95 4 (by decide) (by decide) (by decide) (by decide)).trans hnn
  have uF : tn_F s u := ⟨fun q a1 a2 _ _ _ _ => uq q a1 a2, fun i c d => u95 i (by omega) (by omega) (by omega) (by omega), uP⟩
  refine fl_197 (by rw [u7]; exact Int.le_refl 0) (by rw [uf, un]; exact hb) (fun t tF tA => ?_)
  obtain ⟨f1, f2, f3⟩ := tF
  rw [uf, un, u7] at tA
  have t95 : ∀ i : Int, ¬ (7 ≤ i ∧ i ≤ 10) → t.1 95 i = u.1 95 i := fun i hi => f2 i (by omega) (by omega) (by omega) (by omega)
  have e98 : t.1 98 = u.1 98 := f1 98 (by decide)
  have tL : tz_L s a t := ⟨tn_Ft uF ⟨fun q a1 _ _ _ _ _ => f1 q a1, fun i c d => t95 i (by omega), f3⟩, fun j hj => by rw [e98, u98]; exact if_neg (by omega)⟩
  have tS : tz_S s a (rs_W f n a [] (lx_sk f n 0)) f n (lx_sk f n 0) t := ⟨tL, ⟨(f1 99 (by decide)).trans uf, (t95 4 (by omega)).trans un, tA, lx_runB, hb⟩, (t95 12 (by omega)).trans u12, [], (t95 13 (by omega)).trans u13, trivial, ⟨by rw [e98, u98]; exact if_pos rfl, fun i y hy => by cases hy⟩, by decide, lx_runB, lx_runN h0⟩
  refine ⟨fun t => ∃ (b : Int) (D : List Int), tz_S s a (rs_W f n a D b) f n b t ∧ D ++ tx_ps f n tx_g0 (301 - D.length) b = tx_ps f n tx_g0 301 (lx_sk f n 0), ?_, ⟨_, [], tS, rfl⟩⟩
  intro t ⟨b, D, tS, hl⟩
  have KT := la_Bk tS.2.1
  unfold la_kt at KT
  obtain ⟨o, _, ho, hW⟩ := tS.2.2.2
  have l24 := hW.2.1
  rw [show 301 - D.length = (300 - D.length) + 1 by omega] at hl
  unfold fw_196_p44
  intro _
  refine ⟨fun q => ?_, fun q => ?_⟩
  · have e : tx_ps f n tx_g0 ((300 - D.length) + 1) b = [] := if_pos (by omega)
    rw [e, List.append_nil] at hl
    rw [← hl] at kk
    exact kk 0 t tS.1 (fun _ => ⟨o, ho, hW.1, l24, by have := hW.2.2; omega⟩)
  · have e : tx_ps f n tx_g0 ((300 - D.length) + 1) b = b :: tx_ps f n tx_g0 (300 - D.length) (ds_cl f n tx_g0 b).2 := if_neg (by omega)
    rw [e] at hl
    refine tz_202 tS hn (fun r w hw hr => ?_)
    intro _
    refine ⟨fun y => ⟨r.2, D ++ [b], hw.2 y, ?_⟩, fun y => kk _ w hw.1 (fun c => absurd c y)⟩
    rw [hr y, List.length_append, List.length_singleton, show 301 - (D.length + 1) = 300 - D.length by omega, List.append_assoc]
    exact hl
theorem tz_195 {Q : Int → lf_Z → Prop} (h0 : 0 ≤ s.1 95 4) (hn : s.1 95 4 ≤ 300) (hb : cl_tp (s.1 99) (s.1 95 4)) (k4 : s.1 96 7 = 4 → Q (-1) s) (kk : s.1 96 7 ≠ 4 → ∀ (w : Int) (t : lf_Z), (∀ j : Int, j < 705 * s.1 96 7 → t.1 98 j = s.1 98 j) → (w ≠ -1 → w = s.1 96 7 ∧ rs_X (s.1 99) (s.1 95 4) (t.1 98) (705 * s.1 96 7) (tx_ps (s.1 99) (s.1 95 4) tx_g0 301 (lx_sk (s.1 99) (s.1 95 4) 0))) → Q w t) : fw_195 Q s := by
  unfold fw_195
  intro _
  refine ⟨fun c => tz_196 rfl h0 hn hb (fun v t tL tX => ?_), fun c => k4 (Classical.not_not.mp c)⟩
  have kk := kk c
  have t96 : t.1 96 = s.1 96 := tL.1.1 96 (by decide) (by decide) (by decide) (by decide) (by decide) (by decide)
  intro _
  have e5 : ∀ {x : Int}, ((lf_up t.1 95 5 x, t.2.1, t.2.2) : lf_Z).1 95 5 = x := zu_s
  have e96 : ∀ {x : Int}, ((lf_up t.1 95 5 x, t.2.1, t.2.2) : lf_Z).1 96 = t.1 96 := zu_r (by decide)
  refine ⟨fun y => ?_, fun y => ?_⟩
  · unfold fw_195_p37
    rw [e5]
    intro _
    refine ⟨fun w => absurd w y, fun _ => kk _ _ (fun j hj => ?_) (fun w => absurd rfl w)⟩
    exact (zu_c (by decide)).trans ((lf_up_c (by decide)).trans ((zu_c (by decide)).trans (tL.2 j hj)))
  · have y := Classical.not_not.mp y
    unfold fw_195_p37
    rw [e5, e96, t96]
    intro _
    refine ⟨fun _ => kk _ _ (fun j hj => ?_) (fun _ => ⟨by omega, ?_⟩), fun w => absurd y w⟩
    · exact (zu_c (by decide)).trans ((lf_up_c (by decide)).trans ((lf_up_c (by decide)).trans ((zu_c (by decide)).trans (tL.2 j hj))))
    · have e : ∀ x y z w : Int, ((lf_up (lf_up (lf_up (lf_up t.1 95 5 x) 95 6 y) 95 4 z) 96 7 w) : Nat → Int → Int) 98 = t.1 98 := fun x y z w => (lf_up_row (by decide)).trans ((lf_up_row (by decide)).trans ((lf_up_row (by decide)).trans (lf_up_row (by decide))))
      have X := tX y
      rw [← e v (-1) 0 (s.1 96 7 + 1)] at X
      exact X
end RY
