/-! where a bunch can come: both sides -/
section WJ
variable {J K : Nat → Int → Int} {s t u : lf_Z} {f g sv M : Int → Int} {H : List rr_H} {X : mn_X} {I : Nat → Int → Int} {a b c w p z G v B n1 x : Int}
theorem fl_120 {Q : Int → lf_Z → Prop} (h : Q (s.1 17 a * 13 + s.1 18 a + 1) s) : fw_120 a Q s := by
  unfold fw_120
  exact fun _ => h
theorem wj_p0 (x0 : 0 ≤ x) (x1 : x < 13 * n1) : 0 ≤ x.tdiv 13 ∧ x.tdiv 13 < n1 := by
  rw [Int.tdiv_eq_ediv_of_nonneg x0]
  omega
theorem wj_Q0 {cq cm : Int → Int} (x0 : 0 ≤ x) (x1 : x < 13 * n1) (n12 : n1 ≤ 12) (e1 : cq 0 = x) (e2 : ∀ y : Int, 0 ≤ y → y < 156 → cm y = if y = x then 1 else 0) : wj_Q n1 cq cm (wj_0 x) := by
  refine ⟨fun j j0 j1 => ?_, fun y y0 y1 => e2 y y0 y1, ?_⟩
  · have j1 : j < ((1 : Nat) : Int) := j1
    have e : j = 0 := by omega
    rw [e]
    exact ⟨e1, x0, x1⟩
  · show 1 = dm_cn (fun m => decide (ds_u1 (fun _ => 0) x 1 (m : Int) ≠ 0)) 156
    have e := dm_cnA (P := fun _ => false) (P' := fun m => decide (ds_u1 (fun _ => 0) x 1 (m : Int) ≠ 0)) (m := x.toNat) rfl (by show decide (ds_u1 (fun _ => 0) x 1 ((x.toNat : Nat) : Int) ≠ 0) = true; rw [show ((x.toNat : Nat) : Int) = x by omega, show ds_u1 (fun _ => 0) x 1 x = 1 from if_pos rfl]; rfl) (fun y hy => by show decide (ds_u1 (fun _ => 0) x 1 (y : Int) ≠ 0) = false; rw [show ds_u1 (fun _ => 0) x 1 (y : Int) = 0 from if_neg (by omega)]; rfl) 156
    rw [e, dm_cn0, if_pos (by omega)]
/-- the loop over what is to be looked at -/
def wj_n8 (J : Nat → Int → Int) (X : mn_X) (f : Int → Int) (z G v B : Int) (I : Nat → Int → Int) (s : lf_Z) (x x2 x3 x4 : Int) (t : lf_Z) : Prop := wj_e s t ∧ wj_A J X f z G v B I t ∧ ∃ (i : Nat) (T : wj_T), x4 = i ∧ x2 = T.2.2 ∧ i ≤ 156 ∧ wj_Q (J 1 0) (t.1 70) (t.1 71) T ∧ wj_re J X f z G v B x = wj_sp J (fun w p c => wj_ch J X f z G v B w p c) (200 - i) i x3 T
theorem wj_spE {i : Nat} {x3 : Int} {T : wj_T} (i1 : i < 200) : wj_sp J (fun w p c => wj_ch J X f z G v B w p c) (200 - i) i x3 T = if i < T.2.2 then wj_sp J (fun w p c => wj_ch J X f z G v B w p c) (200 - (i + 1)) (i + 1) (lf_or x3 (lf_shl 1 ((T.1 i).tdiv 13))) (wj_go J (fun w => wj_ch J X f z G v B w ((T.1 i).tdiv 13) ((T.1 i).tmod 13 - 1)) ((T.1 i).tdiv 13) (J 1 1).toNat 0 T) else x3 := by
  rw [show 200 - i = (200 - (i + 1)) + 1 by omega]
  rfl
theorem fl_128 {Q : Int → lf_Z → Prop} (hF : wj_F J X z v) (hA : wj_A J X f z G v B I s) (at_ : (0 ≤ f (3 * b + 1) ∧ f (3 * b + 1) < J 1 0) ∧ -1 ≤ f (3 * b + 2) ∧ f (3 * b + 2) < J 1 0) (b0 : 0 ≤ b) (b1 : b < 4) (k : ∀ t : lf_Z, wj_e s t → wj_A J X f z G v B I t → Q (wj_re J X f z G v B (f (3 * b + 1) * 13 + f (3 * b + 2) + 1)) t) : fw_128 b Q s := by
  have hW := hF.1
  have n0 := hW.1
  obtain ⟨c0, c1, c2⟩ := hA.2.1.1 b b0 b1
  obtain ⟨x, hx⟩ : ∃ x : Int, x = f (3 * b + 1) * 13 + f (3 * b + 2) + 1 := ⟨_, rfl⟩
  rw [← hx] at k
  obtain ⟨s0, hs0⟩ : ∃ s0 : lf_Z, s0 = (lf_fl s.1 71 156 0, s.2.1, s.2.2) := ⟨_, rfl⟩
  have r0 : ∀ c : Nat, c ≠ 71 → s0.1 c = s.1 c := fun c hc => by
    funext j
    rw [hs0]
    exact lf_fl_c hc
  have r71 : ∀ y : Int, 0 ≤ y → y < 156 → s0.1 71 y = 0 := fun y y0 y1 => by
    rw [hs0]
    show lf_fl s.1 71 156 0 71 y = 0
    unfold lf_fl
    rw [if_pos ⟨rfl, y0, y1⟩]
  have e2 : s0.2 = s.2 := by rw [hs0]
  unfold fw_128
  rw [← hs0]
  refine fl_120 ?_
  rw [r0 17 (by decide), r0 18 (by decide), c1, c2, ← hx]
  intro _
  obtain ⟨s1, hs1⟩ : ∃ s1 : lf_Z, s1 = (lf_up (lf_up s0.1 70 0 x) 71 x 1, s0.2.1, s0.2.2) := ⟨_, rfl⟩
  rw [← hs1]
  have r1 : ∀ c : Nat, c ≠ 70 → c ≠ 71 → s1.1 c = s.1 c := fun c h1 h2 => by
    rw [hs1]
    exact (zu_r h2).trans ((lf_up_row h1).trans (r0 c h2))
  have se : wj_e s s1 := ⟨fun c _ _ _ _ _ h1 h2 => r1 c h1 h2, by rw [hs1]; exact e2⟩
  have sK : wj_K J X f z G v B s1.1 := by
    have q := hA.2.2.2
    unfold wj_K wj_C at q ⊢
    rw [r1 68 (by decide) (by decide), r1 69 (by decide) (by decide)]
    exact q
  have sQ : wj_Q (J 1 0) (s1.1 70) (s1.1 71) (wj_0 x) := by
    refine wj_Q0 (by omega) (by omega) n0.2 ?_ (fun y y0 y1 => ?_)
    · rw [hs1]; exact (zu_c (by decide)).trans lf_up_s
    · by_cases q : y = x
      · rw [hs1, q, if_pos rfl]; exact zu_s
      · rw [if_neg q, hs1]; exact (zu_i q).trans ((lf_up_c (by decide)).trans (r71 y y0 y1))
  refine ⟨wj_n8 J X f z G v B I s x, ?_, ⟨se, wj_Ae hA se sK, 0, wj_0 x, rfl, rfl, by omega, sQ, rfl⟩⟩
  intro x2 x3 x4 t ⟨te, tA, i, T, ei, e2, i1, tQ, eg⟩
  have sp := wj_spE (J := J) (X := X) (f := f) (z := z) (G := G) (v := v) (B := B) (i := i) (x3 := x3) (T := T) (by omega)
  have QL := wj_QL tQ
  unfold fw_128_p38
  intro _ _
  refine ⟨fun y => ?_, fun y => ⟨fun y2 => by omega, fun y2 _ _ => ?_⟩⟩
  · have h := k t te tA
    rw [eg, sp, if_neg (by omega)] at h
    exact h
  · have q := tQ.1 i (by omega) (by omega)
    rw [ei, q.1]
    refine fl_129 hF tA rfl rfl (wj_p0 q.2.1 q.2.2) e2 tQ (fun T' u eT ue uA uQ => ⟨wj_et te ue, uA, i + 1, T', by omega, rfl, by omega, uQ, ?_⟩)
    rw [eg, sp, if_pos (by omega), eT]
/-- frame of the reference, what it holds -/
def wj_r (s t : lf_Z) : Prop := (∀ c : Nat, c ≠ 104 → c ≠ 107 → c ≠ 111 → c ≠ 112 → t.1 c = s.1 c) ∧ t.2.2 = s.2.2
theorem wj_rr : wj_r s s := ⟨fun _ _ _ _ _ => rfl, rfl⟩
theorem wj_rt (h : wj_r s t) (g : wj_r t u) : wj_r s u := ⟨fun c a b d e => (g.1 c a b d e).trans (h.1 c a b d e), g.2.trans h.2⟩
theorem wj_fr' (h : tr_f s t) : wj_r s t := ⟨fun c a b _ _ => h.1 c a b, h.2.1⟩
def wj_B (J : Nat → Int → Int) (X : mn_X) (f : Int → Int) (G v B : Int) (M : Int → Int) (s : lf_Z) : Prop := rr_L J (s.1 96) ∧ rr_S (J 1 1) (J 1 2) f (s.1 96) ∧ xr_X X M (s.1 96 8) ∧ s.1 98 = M ∧ s.1 95 29 = G ∧ s.1 95 30 = v ∧ s.1 95 31 = B
theorem wj_Be (h : wj_B J X f G v B M s) (e : wj_r s t) : wj_B J X f G v B M t := by
  unfold wj_B at h ⊢
  rw [e.1 96 (by decide) (by decide) (by decide) (by decide), e.1 98 (by decide) (by decide) (by decide) (by decide), e.1 95 (by decide) (by decide) (by decide) (by decide)]
  exact h
def wj_n4 (J : Nat → Int → Int) (X : mn_X) (f : Int → Int) (z G v B : Int) (s : lf_Z) (p c : Int) (i : Nat) (T : wj_T) (x2 x6 x7 : Int) (t : lf_Z) : Prop := wj_r s t ∧ ∃ (w : Nat) (T' : wj_T), x7 = w ∧ w ≤ (J 1 1).toNat ∧ x2 = T'.2.2 ∧ wj_Q (J 1 0) (t.1 112) (t.1 111) T' ∧ (T'.1 i = T.1 i ∧ i < T'.2.2) ∧ (x6 < 10 → wj_go J (fun w => wj_ch J X f z G v B w p c) p (J 1 1).toNat 0 T = wj_go J (fun w => wj_ch J X f z G v B w p c) p ((J 1 1).toNat - w) w T') ∧ (10 ≤ x6 → wj_go J (fun w => wj_ch J X f z G v B w p c) p (J 1 1).toNat 0 T = T')
theorem fl_294a {Q : Int → lf_Z → Prop} {X63 : Int → Int → Int → lf_Z → Prop} {T : wj_T} {i : Nat} {x3 x4 : Int} (hF : wj_F J X z v) (hB : wj_B J X f G v B M s) (hz : z = f (3 * b)) (b0 : 0 ≤ b) (b1 : b < 4) (hi : i < T.2.2) (hx4 : x4 = i) (hp : (T.1 i).tdiv 13 = p) (hc : (T.1 i).tmod 13 - 1 = c) (hQ : wj_Q (J 1 0) (s.1 112) (s.1 111) T)
    (k : ∀ (T' : wj_T) (t : lf_Z), T' = wj_go J (fun w => wj_ch J X f z G v B w p c) p (J 1 1).toNat 0 T → wj_r s t → wj_Q (J 1 0) (t.1 112) (t.1 111) T' → X63 T'.2.2 x3 (x4 + 1) t) : fw_294_p94L X63 Q b T.2.2 x3 x4 p 0 0 s := by
  have hW := hF.1
  have n0 := hW.1
  have n1 := hW.2.1
  have hC : ∀ w : Nat, mn_at J p w = false → wj_ch J X f z G v B w p c = 0 := fun w hw => if_pos (Or.inl (by rw [Int.toNat_natCast]; exact hw))
  have q0 := hQ.1 i (by omega) (by omega)
  have p0 : 0 ≤ p ∧ p < J 1 0 := by rw [← hp]; exact wj_p0 q0.2.1 q0.2.2
  refine ⟨wj_n4 J X f z G v B s p c i T, ?_, ⟨wj_rr, 0, T, rfl, Nat.zero_le _, rfl, hQ, ⟨rfl, hi⟩, fun _ => rfl, fun y => absurd y (by decide)⟩⟩
  intro x2 x6 x7 t ⟨te, w, T', ew, wW, e2, tQ, ⟨ti, ti2⟩, g1, g2⟩
  have tB := wj_Be hB te
  have e1 : t.1 96 1 = J 1 1 := tB.1.2.1
  have esz : t.1 96 (114 + 3 * b) = z := by rw [hz]; exact (tB.2.1.2.2.1 b b0 b1).1
  have e112 : t.1 112 x4 = T.1 i := by
    rw [hx4, ← ti]
    exact (tQ.1 i (by omega) (by omega)).1
  have stop : T' = wj_go J (fun w => wj_ch J X f z G v B w p c) p (J 1 1).toNat 0 T → fw_294_p203 X63 Q b x2 x3 x4 t := fun e => by
    unfold fw_294_p203
    rw [e2]
    exact k T' t e te tQ
  unfold fw_294_p94
  rw [e1]
  intro _ _
  refine ⟨fun y => stop ?_, fun y _ => ⟨fun y2 => stop (g2 y2).symm, fun y2 => fl_242 ?_⟩⟩
  · by_cases y2 : x6 < 10
    · have e := g1 y2
      rw [show (J 1 1).toNat - w = 0 by omega] at e
      exact e.symm
    · exact (g2 (by omega)).symm
  · have g1 := g1 (by omega)
    rw [esz]
    intro _
    rw [e112, hc]
    intro _
    have cB : 0 ≤ wj_ch J X f z G v B w p c ∧ wj_ch J X f z G v B w p c ≤ 10 := wj_chB hF.2.2.2.1
    rw [show (J 1 1).toNat - w = ((J 1 1).toNat - (w + 1)) + 1 by omega] at g1
    have un : wj_go J (fun w => wj_ch J X f z G v B w p c) p (((J 1 1).toNat - (w + 1)) + 1) w T' = if 10 ≤ wj_ch J X f z G v B w p c then wj_pu J (fun w => wj_ch J X f z G v B w p c) p w T' else wj_go J (fun w => wj_ch J X f z G v B w p c) p ((J 1 1).toNat - (w + 1)) (w + 1) (wj_pu J (fun w => wj_ch J X f z G v B w p c) p w T') := rfl
    have eg2 := g1.trans un
    rw [ew]
    refine fl_273w hF tB.1 tB.2.1 tB.2.2.1 tB.2.2.2.1 tB.2.2.2.2 p0 (by omega) (by omega) (fun r rf => ?_)
    have re := wj_fr' rf
    have rB := wj_Be tB re
    have r111 : r.1 111 = t.1 111 := rf.1 111 (by decide) (by decide)
    have r112 : r.1 112 = t.1 112 := rf.1 112 (by decide) (by decide)
    have rQ : wj_Q (J 1 0) (r.1 112) (r.1 111) T' := wj_Qe tQ r112 r111
    have fin : ∀ (u : lf_Z) (T2 : wj_T), wj_r t u → wj_Q (J 1 0) (u.1 112) (u.1 111) T2 → (T2.1 i = T'.1 i ∧ T'.2.2 ≤ T2.2.2) → T2 = wj_pu J (fun w => wj_ch J X f z G v B w p c) p w T' → fw_294_p197 X63 (wj_n4 J X f z G v B s p c i T) Q b T2.2.2 x3 x4 p (wj_ch J X f z G v B w p c) w u := fun u T2 ue uQ ui eT => by
      unfold fw_294_p197
      refine ⟨wj_rt te ue, w + 1, T2, rfl, by omega, rfl, uQ, ⟨ui.1.trans ti, by omega⟩, fun y3 => ?_, fun y3 => ?_⟩
      · rw [eg2, if_neg (by omega), eT]
      · rw [eg2, if_pos y3, eT]
    rw [e2]
    intro _
    refine ⟨fun y3 => fl_187 rB.1 (by omega) (by omega) ?_, fun y3 => fin r T' re rQ ⟨rfl, Nat.le_refl _⟩ (wj_pu0 (C := fun w => wj_ch J X f z G v B w p c) (Classical.not_not.mp y3)).symm⟩
    have hat : mn_at J p w = true := by
      cases q : mn_at J p w with
      | true => rfl
      | false => exact absurd (hC w q) y3
    have ac := mn_acB hW (show (w : Int) < J 1 1 by omega) hat
    have ei : 13 * mn_ac J (w : Int) p + p + 1 = wj_i J w p := by unfold wj_i; omega
    have iB : 0 ≤ wj_i J w p ∧ wj_i J w p < 13 * J 1 0 := by rw [← ei]; omega
    rw [ei]
    intro _ _
    rw [r111, tQ.2.1 _ iB.1 (by omega)]
    refine ⟨fun y4 _ => ?_, fun y4 => fin r T' re rQ ⟨rfl, Nat.le_refl _⟩ (wj_pu1 (C := fun w => wj_ch J X f z G v B w p c) y4).symm⟩
    have ep := (wj_pu2 (J := J) (p := p) (w := w) (T := T') (C := fun w => wj_ch J X f z G v B w p c) y3 y4).symm
    obtain ⟨u, hu⟩ : ∃ u : lf_Z, u = (lf_up (lf_up r.1 111 (wj_i J w p) 1) 112 T'.2.2 (wj_i J w p), r.2.1, r.2.2) := ⟨_, rfl⟩
    rw [← hu]
    have ue : wj_r t u := wj_rt re (by rw [hu]; exact ⟨fun c _ _ c1 c2 => (zu_r c2).trans (lf_up_row c1), rfl⟩)
    refine fin u (ds_u1 T'.1 T'.2.2 (wj_i J w p), ds_u1 T'.2.1 (wj_i J w p) 1, T'.2.2 + 1) ue ?_ ⟨if_neg (by omega), Nat.le_succ _⟩ ep
    refine wj_Qp rQ n0.2 iB.1 iB.2 y4 ?_ (fun j hj => ?_) ?_ (fun y hy => ?_)
    · rw [hu]; exact zu_s
    · rw [hu]; exact (zu_i hj).trans (lf_up_c (by decide))
    · rw [hu]; exact (zu_c (by decide)).trans lf_up_s
    · rw [hu]; exact (zu_c (by decide)).trans (lf_up_i hy)
def wj_n3 (J : Nat → Int → Int) (X : mn_X) (f : Int → Int) (z G v B : Int) (s : lf_Z) (x x2 x3 x4 : Int) (t : lf_Z) : Prop := wj_r s t ∧ ∃ (i : Nat) (T : wj_T), x4 = i ∧ x2 = T.2.2 ∧ i ≤ 156 ∧ wj_Q (J 1 0) (t.1 112) (t.1 111) T ∧ wj_re J X f z G v B x = wj_sp J (fun w p c => wj_ch J X f z G v B w p c) (200 - i) i x3 T
theorem fl_294 {Q : Int → lf_Z → Prop} (hF : wj_F J X z v) (hB : wj_B J X f G v B M s) (hz : z = f (3 * b)) (b0 : 0 ≤ b) (b1 : b < 4) (hn : f (3 * b) ≠ 0) (at_ : (0 ≤ f (3 * b + 1) ∧ f (3 * b + 1) < J 1 0) ∧ -1 ≤ f (3 * b + 2) ∧ f (3 * b + 2) < J 1 0) (k : ∀ t : lf_Z, wj_r s t → Q (wj_re J X f z G v B (f (3 * b + 1) * 13 + f (3 * b + 2) + 1)) t) : fw_294 b Q s := by
  have hW := hF.1
  have n0 := hW.1
  obtain ⟨x, hx⟩ : ∃ x : Int, x = f (3 * b + 1) * 13 + f (3 * b + 2) + 1 := ⟨_, rfl⟩
  rw [← hx] at k
  unfold fw_294
  refine ⟨fun y t => wj_r s t ∧ 0 ≤ y ∧ ∀ j : Int, 0 ≤ j → j < y → t.1 111 j = 0, ?_, ⟨wj_rr, Int.le_refl 0, fun j h1 h2 => by omega⟩⟩
  intro y t ⟨te, y0, hy⟩
  have tB := wj_Be hB te
  obtain ⟨_, c1, c2⟩ : s.1 96 0 = s.1 96 0 ∧ t.1 96 (114 + 3 * b + 1) = f (3 * b + 1) ∧ t.1 96 (114 + 3 * b + 2) = f (3 * b + 2) := ⟨rfl, (tB.2.1.2.2.1 b b0 b1).2 hn⟩
  unfold fw_294_p2
  intro _
  refine ⟨fun y1 => fl_255 (fl_256 ?_), fun y1 _ => ⟨?_, by omega, fun j j0 j1 => ?_⟩⟩
  · rw [c1, c2, show 13 * f (3 * b + 1) + f (3 * b + 2) + 1 = x by omega]
    intro _
    obtain ⟨s1, hs1⟩ : ∃ s1 : lf_Z, s1 = (lf_up (lf_up t.1 112 0 x) 111 x 1, t.2.1, t.2.2) := ⟨_, rfl⟩
    rw [← hs1]
    have se : wj_r s s1 := wj_rt te (by rw [hs1]; exact ⟨fun c _ _ h1 h2 => (zu_r h1).trans (lf_up_row h2), rfl⟩)
    have sQ : wj_Q (J 1 0) (s1.1 112) (s1.1 111) (wj_0 x) := by
      refine wj_Q0 (by omega) (by omega) n0.2 ?_ (fun j j0 j1 => ?_)
      · rw [hs1]; exact (zu_c (by decide)).trans lf_up_s
      · by_cases q : j = x
        · rw [hs1, q, if_pos rfl]; exact zu_s
        · rw [if_neg q, hs1]; exact (zu_i q).trans ((lf_up_c (by decide)).trans (hy j j0 (by omega)))
    refine ⟨wj_n3 J X f z G v B s x, ?_, ⟨se, 0, wj_0 x, rfl, rfl, by omega, sQ, rfl⟩⟩
    intro x2 x3 x4 t ⟨te, i, T, ei, e2, i1, tQ, eg⟩
    have tB := wj_Be hB te
    have sp := wj_spE (J := J) (X := X) (f := f) (z := z) (G := G) (v := v) (B := B) (i := i) (x3 := x3) (T := T) (by omega)
    have QL := wj_QL tQ
    unfold fw_294_p63
    intro _ _
    refine ⟨fun y => ?_, fun y _ _ => ?_⟩
    · have h := k t te
      rw [eg, sp, if_neg (by omega)] at h
      exact h
    · have q := tQ.1 i (by omega) (by omega)
      rw [show t.1 112 x4 = T.1 i by rw [ei]; exact q.1, e2]
      refine fl_294a hF tB hz b0 b1 (show i < T.2.2 by omega) ei rfl rfl tQ (fun T' u eT ue uQ => ⟨wj_rt te ue, i + 1, T', by omega, rfl, by omega, uQ, ?_⟩)
      rw [eg, sp, if_pos (by omega), eT]
  · exact wj_rt te ⟨fun c _ _ h1 _ => zu_r h1, rfl⟩
  · by_cases q : j = y
    · rw [q]; exact zu_s
    · exact (zu_i q).trans (hy j j0 (by omega))
/-! canCome -/
theorem wj_ch0 : wj_ch J X f z 0 v B w p c = wj_ch J X f z 0 0 B w p c := by
  unfold wj_ch
  have e : ∀ q : Int, ¬ bt_t 0 q = true := fun q => by rw [bt_t0]; decide
  rw [if_neg (e (mn_ac J w p)), if_neg (e (mn_ac J w p))]
theorem wj_re0 : wj_re J X f z 0 v B x = wj_re J X f z 0 0 B x := by
  unfold wj_re
  have e : (fun w p c => wj_ch J X f z 0 v B w p c) = (fun w p c => wj_ch J X f z 0 0 B w p c) := by
    funext w p c
    exact wj_ch0
  rw [e]
theorem fl_118 {Q : lf_Z → Prop} (hJ : gc_J J s) (hW : mn_W J) (hS : rc_S s.1 f) (hX : gx_Xc X I s) (b0 : 0 ≤ b) (b1 : b < 4) (k : ∀ t : lf_Z, wj_A J X f (f (3 * b)) 0 v 0 I t → Q t) : fw_118 b v Q s := by
  have n1 := hW.2.1
  obtain ⟨c0, c1, c2⟩ := hS.1 b b0 b1
  unfold fw_118
  intro _
  obtain ⟨t, ht⟩ : ∃ t : lf_Z, t = (lf_up (lf_up (lf_up (lf_up (lf_fl s.1 69 256 (-1)) 68 8 ((lf_fl s.1 69 256 (-1)) 16 b)) 68 11 v) 68 9 0) 68 10 0, s.2.1, s.2.2) := ⟨_, rfl⟩
  rw [← ht]
  have r : ∀ c : Nat, c ≠ 68 → c ≠ 69 → t.1 c = s.1 c := fun c h1 h2 => by
    rw [ht]
    refine (zu_r h1).trans ((lf_up_row h1).trans ((lf_up_row h1).trans ((lf_up_row h1).trans ?_)))
    funext j
    exact lf_fl_c h2
  refine k t ⟨fun c hc => (r c (by omega) (by omega)).trans (hJ c hc), ?_, ⟨?_, fun c h1 h2 => (r c (by omega) (by omega)).trans (hX.2 c h1 h2)⟩, ⟨?_, ?_, ?_, ?_⟩, ?_⟩
  · unfold rc_S at hS ⊢
    rw [r 16 (by decide) (by decide), r 17 (by decide) (by decide), r 18 (by decide) (by decide), r 19 (by decide) (by decide), r 20 (by decide) (by decide), r 21 (by decide) (by decide), r 15 (by decide) (by decide)]
    exact hS
  · rw [ht]; exact hX.1
  · rw [ht]
    refine (zu_i (by decide)).trans ((lf_up_i (by decide)).trans ((lf_up_i (by decide)).trans (lf_up_s.trans ((lf_fl_c (by decide)).trans c0))))
  · rw [ht]
    exact (zu_i (by decide)).trans lf_up_s
  · rw [ht]
    exact zu_s
  · rw [ht]
    exact (zu_i (by decide)).trans ((lf_up_i (by decide)).trans lf_up_s)
  · intro w sd bk mh mt h1 h2 h3 h4 h5
    refine Or.inl ?_
    rw [ht]
    refine (zu_c (by decide)).trans ((lf_up_c (by decide)).trans ((lf_up_c (by decide)).trans ((lf_up_c (by decide)).trans ?_)))
    unfold lf_fl
    rw [if_pos ⟨rfl, by omega, by omega⟩]
def qb_126 (a : Int) : qb_T := fun X J f => if (0 ≤ a ∧ a ≤ 3) ∧ 0 < f (3 * a) then wj_re J X f (f (3 * a)) 0 0 0 (f (3 * a + 1) * 13 + f (3 * a + 2) + 1) else -1
theorem gq_126 {Q : Int → lf_Z → Prop} (hB : gx_XB X) (hF : gf_T s.1 f H) (hC : gc_T s.1 f H) (hX : gx_Xc X I s) (h : ∀ t : lf_Z, Q (qb_126 a X s.1 f) t) : fw_126 a Q s := by
  unfold fw_126
  refine fl_80 ⟨fun q => qu_to (h s) ?_, fun q => ?_⟩
  · refine if_neg (fun y => ?_)
    have c := (hC.1.1 a y.1.1 (by have := y.1.2; omega)).1
    rw [decide_eq_true y.1.1, decide_eq_true (show a < 4 by have := y.1.2; omega), decide_eq_true (show 0 < s.1 16 a by rw [c]; exact y.2)] at q
    cases q
  · rw [Bool.and_eq_true, decide_eq_true_eq] at q
    have qa := bd_t q.1
    have c := (hC.1.1 a qa.1 qa.2).1
    have hz : 0 < f (3 * a) := by have := q.2; omega
    have gI := hF.2.1.1
    have sz := gp_sz gI qa.1 qa.2
    have at_ := gp_at gI qa.1 qa.2 hz
    unfold fw_127
    refine fl_118 (J := s.1) (fun _ _ => rfl) hF.1.1 hC.1 hX qa.1 qa.2 (fun t tA => fl_128 ⟨hF.1.1, hF.1.2.1, hF.1.2.2.1, hB, by unfold cm_sm; omega, by decide⟩ tA at_ qa.1 qa.2 (fun u _ _ => qu_to (h u) ?_))
    exact if_pos ⟨⟨qa.1, by omega⟩, hz⟩
theorem gq_293 {Q : Int → lf_Z → Prop} (hB : gx_XB X) (hF : gf_T J f H) (hR : gr_T sv J f H (s.1 96)) (hX : gx_Xr X M s) (h : ∀ t : lf_Z, Q (qb_126 a X J f) t) : fw_293 a Q s := by
  unfold fw_293 fw_254
  refine fl_183 ⟨fun q => ⟨fun _ => qu_to (h s) (if_neg (fun y => bd_f q y.1)), (fun q' => by cases q')⟩, fun q => fl_242 ?_⟩
  have qa := bd_t q
  obtain ⟨c0, c12⟩ := hR.2.1.2.2.1 a qa.1 (by omega)
  rw [c0]
  intro _
  refine ⟨fun q2 => ⟨fun _ => qu_to (h s) (if_neg (fun y => by have := y.2; omega)), (fun q' => by cases q')⟩, fun q2 => ⟨(fun q' => by cases q'), fun _ => ?_⟩⟩
  have hz : 0 < f (3 * a) := by omega
  have gI := hF.2.1.1
  have sz := gp_sz gI qa.1 (show a < 4 by omega)
  have at_ := gp_at gI qa.1 (show a < 4 by omega) hz
  obtain ⟨hT, h29, h31, h30, h30'⟩ := hX.2
  refine fl_294 ⟨hF.1.1, hF.1.2.1, hF.1.2.2.1, hB, by unfold cm_sm; omega, h30, h30'⟩ ⟨hR.1, hR.2.1, hX.1, hT, h29, rfl, h31⟩ rfl qa.1 (by omega) (by omega) at_ (fun t _ => qu_to (h t) ?_)
  rw [wj_re0]
  exact if_pos ⟨⟨qa.1, by omega⟩, hz⟩
end WJ
/-! within the law -/
section QM
variable {s : lf_Z} {a1 a2 : Int} {Q : Int → lf_Z → Prop} {p : Int → Prop}
def gx_S126 (a1 : Int) (r : Int) (I : Nat → Int → Int) (P : Nat → Option Nat) : Prop := gx_B (qb_126 a1) r I P
def gx_R126 (a1 : Int) (p : Int → Prop) (I : Nat → Int → Int) (P : Nat → Option Nat) : Prop := gx_MP (gx_S126 a1) p I P
theorem gx_126 (hI : iv_A s.1 s.2.2) (ba1 : (-2147483648) ≤ a1 ∧ a1 ≤ 2147483647) (hA : gx_A s.1 s.2.2) (hQ : ∀ (r : Int) (s' : lf_Z), iv_A s'.1 s'.2.2 → lf_fq [63, 64, 65, 66, 68, 69, 70, 71] 1000000 true s.1 s.2.2 s'.1 s'.2.2 → gx_S126 a1 r s'.1 s'.2.2 → ((-2147483648) ≤ r ∧ r ≤ 2147483647) → Q r s') : fm_126 a1 Q s := by
  have hA' := hA
  obtain ⟨⟨f, H, hF, hC, hR⟩, hD⟩ := hA'
  obtain ⟨X, hB, hX, hXr⟩ := gx_X hD.2.2.1 hD.2.2.2.1.2.2.2.1 hD.2.2.2.2.2.2.2
  refine cj_126 (Q1 := fun r s' => iv_A s'.1 s'.2.2 ∧ lf_fq [63, 64, 65, 66, 68, 69, 70, 71] 1000000 true s.1 s.2.2 s'.1 s'.2.2 ∧ ((-2147483648) ≤ r ∧ r ≤ 2147483647)) (Q2 := fun r t => r = qb_126 a1 X s.1 f) (fun r s' h1 h2 => hQ r s' h1.1 h1.2.1 ⟨⟨X, s.1, f, H, hB, ?_, hF, ?_, h2⟩, gx_fq hA h1.2.1 rfl⟩ h1.2.2) (sm_126 hI ba1 (fun r s' h1 h2 h3 => ⟨h1, h2, h3⟩)) (gq_126 hB hF hC hX (fun _ => rfl))
  · rw [h1.2.1.1 98 rfl, h1.2.1.1 96 rfl]; exact hXr.1
  · rw [h1.2.1.1 28 rfl, h1.2.1.1 96 rfl]; exact hR
theorem gx_293 (hI : iv_A s.1 s.2.2) (ba1 : (-2147483648) ≤ a1 ∧ a1 ≤ 2147483647) (hM : gx_R126 a1 p s.1 s.2.2) (hQ : ∀ (r : Int) (s' : lf_Z), iv_A s'.1 s'.2.2 → lf_fq [104, 107, 111, 112] 1000000 true s.1 s.2.2 s'.1 s'.2.2 → (gx_p p r ∧ gx_A s'.1 s'.2.2) → ((-2147483648) ≤ r ∧ r ≤ 2147483647) → Q r s') : fm_293 a1 Q s := by
  obtain ⟨r0, hp, ⟨X, J, f, H, hB, hXr, hF, hR, e⟩, hA⟩ := hM
  have h9 := hA.2.2.2.2.2.2.2.2
  exact cj_293 (Q1 := fun r s' => iv_A s'.1 s'.2.2 ∧ lf_fq [104, 107, 111, 112] 1000000 true s.1 s.2.2 s'.1 s'.2.2 ∧ ((-2147483648) ≤ r ∧ r ≤ 2147483647)) (Q2 := fun r t => r = r0) (fun r s' h1 h2 => hQ r s' h1.1 h1.2.1 ⟨h2 ▸ hp, gx_fq hA h1.2.1 rfl⟩ h1.2.2) (sm_293 hI ba1 (fun r s' h1 h2 h3 => ⟨h1, h2, h3⟩)) (gq_293 hB hF hR ⟨hXr, rfl, h9.1, h9.2.1, h9.2.2.1, h9.2.2.2⟩ (fun _ => e.symm))
end QM
