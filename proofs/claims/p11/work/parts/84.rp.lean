/-! the pass of a minute: the reference -/
section RP
variable {J : Nat → Int → Int} {s t u : lf_Z} {f g T A B : Int → Int} {X : mn_X} {a b p x n1 n2 : Int}
theorem rp_j1 {c : Int} {h B : Int → Int} (hS : rr_S n1 n2 h A) (h16 : n1 ≤ 16) (h6 : n2 ≤ 6) (b0 : 0 ≤ b) (bc : b < c) (c4 : c < 4) (hb : h (3 * b) ≠ 0) (e0 : B (114 + 3 * b) = h (3 * b) + h (3 * c)) (e1 : B (114 + 3 * c) = 0) (eB : ∀ j : Int, j ≠ 114 + 3 * b → j ≠ 114 + 3 * c → B j = A j) : rr_S n1 n2 (mn_j1 b c h) B := by
  have d := (hS.2.2.1 b b0 (by omega)).2 hb
  have S1 : rr_S n1 n2 (ds_u1 h (3 * b) (h (3 * b) + h (3 * c))) (ds_u1 A (114 + 3 * b) (h (3 * b) + h (3 * c))) := by
    refine rm_S hS h16 h6 b0 (by omega) (fun j hj => if_neg (by omega)) (fun j hj => if_neg (by omega)) ((if_pos rfl).trans (if_pos rfl).symm) (fun _ => ⟨?_, ?_⟩)
    · rw [show ds_u1 A (114 + 3 * b) (h (3 * b) + h (3 * c)) (114 + 3 * b + 1) = A (114 + 3 * b + 1) from if_neg (by omega), show ds_u1 h (3 * b) (h (3 * b) + h (3 * c)) (3 * b + 1) = h (3 * b + 1) from if_neg (by omega)]; exact d.1
    · rw [show ds_u1 A (114 + 3 * b) (h (3 * b) + h (3 * c)) (114 + 3 * b + 2) = A (114 + 3 * b + 2) from if_neg (by omega), show ds_u1 h (3 * b) (h (3 * b) + h (3 * c)) (3 * b + 2) = h (3 * b + 2) from if_neg (by omega)]; exact d.2
  have z : mn_j1 b c h (3 * c) = 0 := (if_neg (by omega)).trans ((if_neg (by omega)).trans (if_pos rfl))
  refine rm_S S1 h16 h6 (by omega) c4 (fun j hj => ?_) (fun j hj => ?_) (e1.trans z.symm) (fun q => absurd z q)
  · exact (if_neg (by omega)).trans ((if_neg (by omega)).trans (if_neg (by omega)))
  · by_cases y : j = 114 + 3 * b
    · rw [y, e0]; exact (if_pos rfl).symm
    · exact (eB j y (by omega)).trans (if_neg y).symm
/-- bunches at one stretch are one -/
theorem fl_278 {Q : lf_Z → Prop} (hW : mn_W J) (hS : rr_S (J 1 1) (J 1 2) f (s.1 96)) (hI : gp_I J f) (k : ∀ t : lf_Z, rm_f s t → rr_S (J 1 1) (J 1 2) (mn_jb 4 0 f) (t.1 96) → Q t) : fw_278 Q s := by
  have w1 := hW.2.1
  have w2 := hW.2.2.1
  unfold fw_278
  refine ⟨fun i u => ∃ (n : Nat) (g : Int → Int), i = n ∧ n ≤ 4 ∧ rm_f s u ∧ rr_S (J 1 1) (J 1 2) g (u.1 96) ∧ gp_I J g ∧ mn_jb (4 - n) n g = mn_jb 4 0 f, ?_, ⟨0, f, rfl, by decide, rm_fr, hS, hI, rfl⟩⟩
  intro i u ⟨n, g, ei, n4, uf, uS, uI, ge⟩
  subst ei
  unfold fw_278_p2
  intro _
  refine ⟨fun c => ?_, fun c => ?_⟩
  · have : n = 4 := by omega
    subst this
    have ge : g = mn_jb 4 0 f := ge
    rw [ge] at uS
    exact k u uf uS
  · rw [show 4 - n = (4 - (n + 1)) + 1 by omega] at ge
    have ge : mn_jb (4 - (n + 1)) ((n : Int) + 1) (mn_jc n (3 - (n : Int)).toNat ((n : Int) + 1) g) = mn_jb 4 0 f := ge
    refine ⟨fun c y => ∃ h : Int → Int, (n : Int) < c ∧ c ≤ 4 ∧ rm_f s y ∧ rr_S (J 1 1) (J 1 2) h (y.1 96) ∧ gp_I J h ∧ mn_jc n (4 - c).toNat c h = mn_jc n (3 - (n : Int)).toNat ((n : Int) + 1) g, ?_, ⟨g, by omega, by omega, uf, uS, uI, by rw [show (4 - ((n : Int) + 1)).toNat = (3 - (n : Int)).toNat by omega]⟩⟩
    intro c y ⟨h, c0, c1, yf, yS, yI, he⟩
    unfold fw_278_p11
    intro _
    refine ⟨fun d => ?_, fun d => fl_242 ?_⟩
    · have : c = 4 := by omega
      subst this
      have he : h = mn_jc n (3 - (n : Int)).toNat ((n : Int) + 1) g := he
      rw [← he] at ge
      exact ⟨n + 1, h, by omega, by omega, yf, yS, yI, ge⟩
    · obtain ⟨d1, d2⟩ := yS.2.2.1 n (by omega) (by omega)
      obtain ⟨d3, d4⟩ := yS.2.2.1 c (by omega) (by omega)
      have zb := gp_sz yI (b := n) (by omega) (by omega)
      have zc := gp_sz yI (b := c) (by omega) (by omega)
      rw [show (4 - c).toNat = (4 - (c + 1)).toNat + 1 by omega] at he
      have he : mn_jc n (4 - (c + 1)).toNat (c + 1) (if h (3 * (n : Int)) ≤ 0 ∨ h (3 * c) ≤ 0 ∨ h (3 * c + 1) ≠ h (3 * (n : Int) + 1) then h else mn_j1 n c h) = mn_jc n (3 - (n : Int)).toNat ((n : Int) + 1) g := he
      rw [d1]
      intro _
      have keep : (h (3 * (n : Int)) ≤ 0 ∨ h (3 * c) ≤ 0 ∨ h (3 * c + 1) ≠ h (3 * (n : Int) + 1)) → (fun c y => ∃ h : Int → Int, (n : Int) < c ∧ c ≤ 4 ∧ rm_f s y ∧ rr_S (J 1 1) (J 1 2) h (y.1 96) ∧ gp_I J h ∧ mn_jc n (4 - c).toNat c h = mn_jc n (3 - (n : Int)).toNat ((n : Int) + 1) g) (c + 1) y := fun q => by
        rw [if_pos q] at he
        exact ⟨h, by omega, by omega, yf, yS, yI, he⟩
      refine ⟨fun e => ?_, fun e => fl_242 ?_⟩
      · unfold fw_278_p79
        exact keep (Or.inl (by omega))
      · rw [d3]
        intro _
        refine ⟨fun e2 => ?_, fun e2 => fl_255 (fl_255 ?_)⟩
        · unfold fw_278_p79
          exact keep (Or.inr (Or.inl (by omega)))
        · rw [(d2 e).1, (d4 e2).1]
          intro _ _
          refine ⟨fun e3 _ => fl_242 (fun _ => ?_), fun e3 => ?_⟩
          · rw [if_neg (fun q => by rcases q with q | q | q; omega; omega; exact q e3.symm)] at he
            unfold fw_278_p79
            rw [d1, d3]
            refine ⟨mn_j1 n c h, by omega, by omega, rm_ft yf ⟨fun q a _ _ _ => (zu_r a).trans (lf_up_row a), fun i hi => (zu_i (fun q => hi (Or.inr (Or.inr (Or.inl ⟨by omega, by omega⟩))))).trans (lf_up_i (fun q => hi (Or.inr (Or.inr (Or.inl ⟨by omega, by omega⟩))))), rfl⟩, ?_, gp_j1 yI (by omega) c0 (by omega) (by omega), he⟩
            exact rp_j1 yS w1.2 w2.2 (by omega) c0 (by omega) e ((zu_i (by omega)).trans lf_up_s) zu_s (fun j j1 j2 => (zu_i j2).trans (lf_up_i j1))
          · unfold fw_278_p79
            exact keep (Or.inr (Or.inr (fun q => e3 q.symm)))
/-- harm, then one, then the minute's number -/
theorem fl_260c {Q : lf_Z → Prop} (hL : rr_L J (s.1 96)) (hW : mn_W J) (hS : rr_S (J 1 1) (J 1 2) f (s.1 96)) (hI : gp_I J f)
    (k : ∀ t : lf_Z, rm_f s t → rr_S (J 1 1) (J 1 2) (ds_u1 (mn_jb 4 0 (mn_hb J 4 0 f)) 37 (lf_w (mn_jb 4 0 (mn_hb J 4 0 f) 37 + 1))) (t.1 96) → Q t) : fw_260_p115L Q 0 s := by
  have w0 := hW.1
  have w1 := hW.2.1
  have w2 := hW.2.2.1
  refine ⟨fun i u => ∃ (n : Nat) (g : Int → Int), i = n ∧ n ≤ 4 ∧ rm_f s u ∧ rr_S (J 1 1) (J 1 2) g (u.1 96) ∧ gp_I J g ∧ mn_hb J (4 - n) n g = mn_hb J 4 0 f, ?_, ⟨0, f, rfl, by decide, rm_fr, hS, hI, rfl⟩⟩
  intro i u ⟨n, g, ei, n4, uf, uS, uI, ge⟩
  subst ei
  unfold fw_260_p115
  intro _
  refine ⟨fun c => ?_, fun c => fl_242 ?_⟩
  · have : n = 4 := by omega
    subst this
    have ge : g = mn_hb J 4 0 f := ge
    rw [ge] at uS uI
    refine fl_278 hW uS uI (fun t tf tS => ?_)
    refine k _ (rm_ft (rm_ft uf tf) (rm_u (Or.inl rfl))) (rm_37 tS w1.2 w2.2 (fun j hj => zu_i hj) ?_)
    rw [tS.1]; exact zu_s
  · obtain ⟨d1, d2⟩ := uS.2.2.1 n (by omega) (by omega)
    rw [show 4 - n = (4 - (n + 1)) + 1 by omega] at ge
    have ge : mn_hb J (4 - (n + 1)) ((n : Int) + 1) (if g (3 * (n : Int)) ≤ 0 then g else ds_u1 g (24 + g (3 * (n : Int) + 1)) (lf_w (g (24 + g (3 * (n : Int) + 1)) + g (3 * (n : Int)) * J 3 (g (3 * (n : Int) + 1))))) = mn_hb J 4 0 f := ge
    rw [d1]
    intro _
    refine ⟨fun e => ?_, fun e => fl_255 ?_⟩
    · unfold fw_260_p163
      rw [if_pos e] at ge
      exact ⟨n + 1, g, by omega, by omega, uf, uS, uI, ge⟩
    · have d2 := d2 (by omega)
      have at_ := gp_at uI (b := n) (by omega) (by omega) (by omega)
      rw [if_neg e] at ge
      rw [d2.1]
      intro _
      refine fl_242 (fl_255 (fl_277 ?_))
      rw [d1, d2.1]
      have uL := rm_L hL hW uf
      rw [(uL.2.2.2.1 _ at_.1.1 at_.1.2).2, uS.2.2.2.2.1 _ at_.1.1 (by omega)]
      unfold fw_260_p163
      refine ⟨n + 1, _, by omega, by omega, rm_ft uf (rm_u (Or.inr (Or.inr (Or.inr (Or.inr ⟨by omega, by omega, by omega⟩))))), rm_24 uS w1.2 w2.2 at_.1.1 (by omega) (fun j hj => zu_i hj) zu_s, ?_, ge⟩
      refine gp_e hW uI (fun j _ j1 => if_neg (by omega)) ?_
      rw [show ∀ v : Int, ds_u1 g (24 + g (3 * (n : Int) + 1)) v 38 = g 38 from fun v => if_neg (by omega)]
      exact uI.2.2.2
/-- all bunches go -/
theorem fl_260b {Q : lf_Z → Prop} (hL : rr_L J (s.1 96)) (hW : mn_W J) (hB : mn_B J) (hV : mn_V J) (hS : rr_S (J 1 1) (J 1 2) f (s.1 96)) (hI : gp_I J f) (hX : xr_X X T (s.1 96 8)) (h0 : rm_0 T s) (hX1 : ∀ N, 0 ≤ X.1 N ∧ X.1 N ≤ 2)
    (k : ∀ t : lf_Z, rm_f s t → rr_S (J 1 1) (J 1 2) (mn_bb J X 4 0 f) (t.1 96) → gp_I J (mn_bb J X 4 0 f) → fw_260_p115L Q 0 t) : fw_260_p67L Q 0 s := by
  refine ⟨fun i u => ∃ (n : Nat) (g : Int → Int), i = n ∧ n ≤ 4 ∧ rm_f s u ∧ rr_S (J 1 1) (J 1 2) g (u.1 96) ∧ gp_I J g ∧ mn_bb J X (4 - n) n g = mn_bb J X 4 0 f, ?_, ⟨0, f, rfl, by decide, rm_fr, hS, hI, rfl⟩⟩
  intro i u ⟨n, g, ei, n4, uf, uS, uI, ge⟩
  subst ei
  unfold fw_260_p67
  intro _
  refine ⟨fun c => ?_, fun c => fl_242 ?_⟩
  · have : n = 4 := by omega
    subst this
    have ge : g = mn_bb J X 4 0 f := ge
    rw [ge] at uS uI
    exact k u uf uS uI
  · obtain ⟨d1, d2⟩ := uS.2.2.1 n (by omega) (by omega)
    have zb := gp_sz uI (b := n) (by omega) (by omega)
    rw [show 4 - n = (4 - (n + 1)) + 1 by omega] at ge
    have ge : mn_bb J X (4 - (n + 1)) ((n : Int) + 1) (if g (3 * (n : Int)) ≤ 0 then g else mn_rp (mn_m1 J X n) (X.1 (mn_np J g n)).toNat g) = mn_bb J X 4 0 f := ge
    rw [d1]
    intro _
    refine ⟨fun e => ?_, fun e => ?_⟩
    · have at_ := gp_at uI (b := n) (by omega) (by omega) (by omega)
      refine fl_263 (f := g) (rm_L hL hW uf) hW uS (xr_Xk hX uf) (rm_0k h0 uf) (by omega) (by omega) e at_.1 at_.2 (np_S hW hV (gp_sz uI (by omega) (by omega)) at_.1) (fun v y yf hv => ?_)
      have yF := rm_ft uf (rm_k yf)
      have yS : rr_S (J 1 1) (J 1 2) g (y.1 96) := by rw [yf.1 96 (by decide) (by decide)]; exact uS
      rw [if_neg (by omega), ← hv] at ge
      have vB := hX1 (mn_np J g n)
      rw [← hv] at vB
      refine ⟨fun j q => ∃ (m : Nat) (h : Int → Int), j = m ∧ (m : Int) ≤ v ∧ rm_f s q ∧ rr_S (J 1 1) (J 1 2) h (q.1 96) ∧ gp_I J h ∧ 0 < h (3 * (n : Int)) ∧ mn_rp (mn_m1 J X n) (v.toNat - m) h = mn_rp (mn_m1 J X n) v.toNat g, ?_, ⟨0, g, rfl, vB.1, yF, yS, uI, by omega, rfl⟩⟩
      intro j q ⟨m, h, ej, m1, qf, qS, qI, qz, he⟩
      subst ej
      unfold fw_260_p91
      intro _ _
      refine ⟨fun d => ?_, fun d => ?_⟩
      · rw [show v.toNat - m = 0 by omega] at he
        have he : h = mn_rp (mn_m1 J X n) v.toNat g := he
        rw [← he] at ge
        unfold fw_260_p107
        exact ⟨n + 1, h, by omega, by omega, qf, qS, qI, ge⟩
      · rw [show v.toNat - m = (v.toNat - (m + 1)) + 1 by omega] at he
        have he : mn_rp (mn_m1 J X n) (v.toNat - (m + 1)) (mn_m1 J X n h) = mn_rp (mn_m1 J X n) v.toNat g := he
        have hat := gp_at qI (b := n) (by omega) (by omega) qz
        have r := gp_m1 (X := X) hW qI (b := n) (by omega) (by omega) qz
        refine fl_272 (f := h) (rm_L hL hW qf) hW hB hV qS (xr_Xk hX qf) (rm_0k h0 qf) (by omega) (by omega) (by omega) (gp_sz qI (by omega) (by omega)) hat.1 (fun t tf tS => ?_)
        exact ⟨m + 1, _, by omega, by omega, rm_ft qf tf, tS, r.1, by rw [r.2 (3 * (n : Int)) (by omega) (by omega) (by omega)]; exact qz, he⟩
    · unfold fw_260_p107
      rw [if_pos (by omega)] at ge
      exact ⟨n + 1, g, by omega, by omega, uf, uS, uI, ge⟩
theorem rm_g (h : rr_f s t) (e : ∀ i : Int, i ≠ 126 + 6 * p + 3 → t.1 96 i = s.1 96 i) (p0 : 0 ≤ p) (p6 : p < 6) : rm_f s t := ⟨fun c a _ _ _ => h.1 c a, fun i hi => e i (fun q => hi (Or.inr (Or.inr (Or.inr (Or.inl ⟨by omega, by omega, by omega⟩))))), by rw [h.2]⟩
/-- pass: people, bunches, harm -/
theorem fl_260 {Q : lf_Z → Prop} (hL : rr_L J (s.1 96)) (hW : mn_W J) (hB : mn_B J) (hV : mn_V J) (hS : rr_S (J 1 1) (J 1 2) f (s.1 96)) (hI : gp_I J f) (hX : xr_X X T (s.1 96 8)) (h0 : rm_0 T s) (hX1 : ∀ N, 0 ≤ X.1 N ∧ X.1 N ≤ 2)
    (k : ∀ t : lf_Z, rm_f s t → rr_S (J 1 1) (J 1 2) (mn_min J X f) (t.1 96) → Q t) : fw_260 Q s := by
  have w1 := hW.2.1
  have w2 := hW.2.2.1
  unfold fw_260
  refine ⟨fun i u => ∃ (n : Nat) (g : Int → Int), i = n ∧ (n : Int) ≤ J 1 2 ∧ rm_f s u ∧ rr_S (J 1 1) (J 1 2) g (u.1 96) ∧ gp_I J g ∧ mn_pp J ((J 1 2).toNat - n) n g = mn_pp J (J 1 2).toNat 0 f, ?_, ⟨0, f, rfl, w2.1, rm_fr, hS, hI, rfl⟩⟩
  intro i u ⟨n, g, ei, n4, uf, uS, uI, ge⟩
  subst ei
  have uL := rm_L hL hW uf
  unfold fw_260_p2
  rw [uL.2.2.1]
  intro _ _
  refine ⟨fun c => ?_, fun c => fl_239b ?_⟩
  · rw [show (J 1 2).toNat - n = 0 by omega] at ge
    have ge : g = mn_pp J (J 1 2).toNat 0 f := ge
    rw [ge] at uS uI
    refine fl_260b uL hW hB hV uS uI (xr_Xk hX uf) (rm_0k h0 uf) hX1 (fun t tf tS tI => ?_)
    have tF := rm_ft uf tf
    exact fl_260c (rm_L hL hW tF) hW tS tI (fun y yf yS => k y (rm_ft tF yf) yS)
  · obtain ⟨d1, d2⟩ := uS.2.2.2.1 n (by omega) (by omega)
    rw [show (J 1 2).toNat - n = ((J 1 2).toNat - (n + 1)) + 1 by omega] at ge
    have ge : mn_pp J ((J 1 2).toNat - (n + 1)) ((n : Int) + 1) (if J 8 (n : Int) = 0 then mn_go J n g else mn_go J n (mn_go J n g)) = mn_pp J (J 1 2).toNat 0 f := ge
    rw [d2]
    intro _
    refine ⟨fun e => fl_239b ?_, fun e => ?_⟩
    · rw [d2]
      have pb := uI.1 n (by omega) (by omega)
      have b8 := (hB.2 n).1
      refine fl_261 (d := mn_d J 13) (ok := fun _ => true) uL hW hB (fun w => by rw [decide_eq_true (show (1 : Int) ≠ 0 by decide), Bool.true_or]) hW.2.2.2.2.2.1 (by omega) pb.2.2 (fun y yc y2 yF => ?_)
      have yf : rm_f s y := rm_ft uf ⟨fun c _ _ _ a => yc c a, fun i _ => by rw [yc 96 (by decide)], by rw [y2]⟩
      have yS : rr_S (J 1 1) (J 1 2) g (y.1 96) := by rw [yc 96 (by decide)]; exact uS
      refine ⟨fun j q => ∃ h : Int → Int, rm_f s q ∧ rr_S (J 1 1) (J 1 2) h (q.1 96) ∧ gp_I J h ∧ (∀ r : Int, 0 ≤ r → r < J 1 0 → q.1 108 r = mn_d J 13 r (g (12 + 2 * (n : Int) + 1))) ∧ h (12 + 2 * (n : Int) + 1) = g (12 + 2 * (n : Int) + 1) ∧ ((j = 0 ∧ h = g) ∨ (j = 1 ∧ h = mn_go J n g) ∨ (j = 2 ∧ J 8 (n : Int) ≠ 0 ∧ h = mn_go J n (mn_go J n g))), ?_, ⟨g, yf, yS, uI, yF, rfl, Or.inl ⟨rfl, rfl⟩⟩⟩
      intro j q ⟨h, qf, qS, qI, qF, ht, hj⟩
      have qL := rm_L hL hW qf
      unfold fw_260_p38
      refine fl_239d ?_
      rw [(qL.2.2.2.2.2 n (by omega) (by omega)).2.1]
      intro _ _
      refine ⟨fun d => ?_, fun d => ?_⟩
      · unfold fw_260_p59
        refine ⟨n + 1, h, by omega, by omega, qf, qS, qI, ?_⟩
        rcases hj with ⟨j0, _⟩ | ⟨j1, hh⟩ | ⟨j2, hz, hh⟩
        · omega
        · rw [if_pos (by omega), ← hh] at ge; exact ge
        · rw [if_neg hz, ← hh] at ge; exact ge
      · refine fl_262 (f := h) qL hW qI.1 qS w1.2 (by omega) (by omega) (by rw [ht]; exact e) (fun r r0 r1 => by rw [ht]; exact qF r r0 r1) (fun t tf te tL tS => ?_)
        refine ⟨mn_go J n h, rm_ft qf (rm_g tf te (by omega) (by omega)), tS, gp_go hW qI (by omega) (by omega), fun r r0 r1 => by rw [tf.1 108 (by decide)]; exact qF r r0 r1, (mn_go_o (by omega)).trans ht, ?_⟩
        rcases hj with ⟨j0, hh⟩ | ⟨j1, hh⟩ | ⟨j2, _, _⟩
        · exact Or.inr (Or.inl ⟨by omega, by rw [hh]⟩)
        · exact Or.inr (Or.inr ⟨by omega, by omega, by rw [hh]⟩)
        · omega
    · have e := Classical.not_not.mp e
      have g1 : mn_go J n g = g := if_pos (Or.inl e)
      rw [g1, g1, show (if J 8 (n : Int) = 0 then g else g) = g by split <;> rfl] at ge
      unfold fw_260_p59
      exact ⟨n + 1, g, by omega, by omega, uf, uS, uI, ge⟩
end RP
