/-! behind one; a sum -/
section LD
variable {f : Int → Int} {n law b c m d k : Int} {P : ln_P} {o : List (Int × Int)} {s t z : lf_Z}
theorem lm_btB (t : Int) (P : lm_P) : lm_bt t P = -1 ∨ (4 ≤ lm_bt t P ∧ lm_bt t P ≤ 22 ∧ lm_bt t P ≠ 20) := by
  unfold lm_bt
  (repeat' split) <;> omega
theorem fl_223 {Q : Int → lf_Z → Prop} (h : la_B f n b s) (kk : Q (if 4 ≤ lx_T f n b ∧ lx_T f n b ≤ 9 then 6 + lx_T f n b else -1) s) : fw_223 Q s := by
  have KT := la_Bk h
  unfold la_kt at KT
  have key : ∀ v : Int, v = (if 4 ≤ lx_T f n b ∧ lx_T f n b ≤ 9 then 6 + lx_T f n b else -1) → Q v s := fun v e => by rw [e]; exact kk
  unfold fw_223
  intro _
  refine ⟨fun c1 => ⟨fun c2 => ⟨fun c3 => ⟨fun c4 => ⟨fun c5 => ⟨fun c6 => ?_, fun c6 => ?_⟩, fun c5 => ?_⟩, fun c4 => ?_⟩, fun c3 => ?_⟩, fun c2 => ?_⟩, fun c1 => ?_⟩ <;>
    (refine key _ ?_; split <;> omega)
theorem fl_218 {Q : Int → lf_Z → Prop} (h : ln_C z f n b P c o s) (kk : ∀ v : Int, v = lm_bt (lx_T f n b) (ln_e P) → Q v s) : fw_218 Q s := by
  have KT := la_Bk h.2.1
  unfold la_kt at KT
  unfold fw_218
  intro _
  refine ⟨fun c1 => ⟨fun c2 => ⟨fun c3 => ⟨fun c4 => fl_219 h.2.2.2.1 h.2.2.1 ?_, fun c4 => ?_⟩, fun c3 => ?_⟩, fun c2 => ?_⟩, fun c1 => ?_⟩
  · intro _
    refine ⟨fun q => fl_221 h.2.2.2.1 h.2.2.1 ⟨fun y => ?_, fun y => ?_⟩, fun q => kk _ ?_⟩
    · refine fl_205 (fl_207 h.2.1 25 (by decide) (by decide +kernel) ⟨fun z25 => ?_, fun z25 => ?_⟩)
      · have z25 := of_decide_eq_false z25
        refine fl_206 (fl_207 h.2.1 26 (by decide) (by decide +kernel) ⟨fun z26 => ?_, fun z26 => ?_⟩)
        · have z26 := of_decide_eq_false z26
          refine kk _ ?_
          unfold lm_bt
          rw [if_neg (by omega), if_neg (by omega), if_neg (by omega), if_neg (by omega), if_neg (fun w => w q), if_neg (by rw [y]; decide), if_neg (by omega), if_neg (by omega)]
        · have z26 := of_decide_eq_true z26
          refine kk _ ?_
          unfold lm_bt
          rw [if_neg (by omega), if_neg (by omega), if_neg (by omega), if_neg (by omega), if_neg (fun w => w q), if_neg (by rw [y]; decide), if_neg (by omega), if_pos (by omega)]
      · have z25 := of_decide_eq_true z25
        refine kk _ ?_
        unfold lm_bt
        rw [if_neg (by omega), if_neg (by omega), if_neg (by omega), if_neg (by omega), if_neg (fun w => w q), if_neg (by rw [y]; decide), if_pos (by omega)]
    · refine fl_223 h.2.1 (kk _ (Eq.symm ?_))
      unfold lm_bt
      rw [if_neg (by omega), if_neg (by omega), if_neg (by omega), if_neg (by omega), if_neg (fun w => w q), if_pos y]
    · unfold lm_bt
      rw [if_neg (by omega), if_neg (by omega), if_neg (by omega), if_neg (by omega), if_pos q]
  · refine kk _ ?_
    unfold lm_bt
    rw [if_neg (by omega), if_neg (by omega), if_neg (by omega), if_pos (by omega)]
  · refine kk _ ?_
    unfold lm_bt
    rw [if_neg (by omega), if_neg (by omega), if_pos (by omega)]
  · refine kk _ ?_
    unfold lm_bt
    rw [if_neg (by omega), if_pos (by omega)]
  · refine kk _ ?_
    unfold lm_bt
    rw [if_pos (by omega)]
theorem fl_226 {x : Int} {Q : Int → lf_Z → Prop} (h : ln_C z f n b P c o s) (hx : x = lm_op (ln_e P)) (kk : ∀ v : Int, v = lm_pt (lx_T f n b) (ln_e P) → Q v s) : fw_226 x Q s := by
  have KT := la_Bk h.2.1
  unfold la_kt at KT
  have B := ln_opB (ln_e P)
  rw [← hx] at B
  unfold lm_pt at kk
  rw [← hx] at kk
  unfold fw_226
  intro _
  refine ⟨fun q => ?_, fun q => ?_, fun q => ?_, fun q => ?_, fun q => ?_, fun q => ?_⟩
  · rw [if_neg q.2.1, if_neg q.2.2.1, if_neg q.2.2.2.1, if_neg q.2.2.2.2, if_neg (by omega)] at kk
    refine fl_205 (fl_207 h.2.1 20 (by decide) (by decide +kernel) ⟨fun y => kk _ ?_, fun y => kk _ ?_⟩)
    · have y := of_decide_eq_false y
      rw [if_neg (by omega)]
    · have y := of_decide_eq_true y
      rw [if_pos (by omega)]
  · rw [if_neg (by omega), if_neg (by omega), if_neg (by omega), if_neg (by omega), if_pos (by omega)] at kk
    exact kk _ rfl
  · rw [if_pos q] at kk
    intro _
    refine ⟨fun y => kk _ ?_, fun y => kk _ ?_⟩
    · rw [if_neg (by omega)]
    · rw [if_pos (by omega)]
  · rw [if_neg (by omega), if_pos q] at kk
    refine fl_204 (fl_207 h.2.1 18 (by decide) (by decide +kernel) ⟨fun y => kk _ ?_, fun y => fl_221 h.2.2.2.1 h.2.2.1 ⟨fun w => kk _ ?_, fun w => kk _ ?_⟩⟩)
    · have y := of_decide_eq_false y
      rw [if_neg (fun g => by omega)]
    · rw [if_neg (fun g => by rw [w] at g; exact absurd g.2 (by decide))]
    · have y := of_decide_eq_true y
      rw [if_pos ⟨by omega, w⟩]
  · rw [if_neg (by omega), if_neg (by omega), if_pos q] at kk
    refine fl_204 (fl_207 h.2.1 19 (by decide) (by decide +kernel) ⟨fun y => kk _ ?_, fun y => kk _ ?_⟩)
    · have y := of_decide_eq_false y
      rw [if_neg (by omega)]
    · have y := of_decide_eq_true y
      rw [if_pos (by omega)]
  · rw [if_neg (by omega), if_neg (by omega), if_neg (by omega), if_pos q] at kk
    refine fl_206 (fl_207 h.2.1 23 (by decide) (by decide +kernel) ⟨fun y => kk _ ?_, fun y => kk _ ?_⟩)
    · have y := of_decide_eq_false y
      rw [if_neg (by omega)]
    · have y := of_decide_eq_true y
      rw [if_pos (by omega)]
theorem lm_ptB (t : Int) (P : lm_P) : lm_pt t P = -1 ∨ (lm_pt t P = 0 ∧ (lm_op P = 40 ∨ (40 ≤ lm_op P ∧ lm_op P ≠ 41 ∧ lm_op P ≠ 42 ∧ lm_op P ≠ 44))) ∨ (lm_pt t P = 42 ∧ lm_op P = 41) ∨ (lm_pt t P = 43 ∧ lm_op P = 42) ∨ (lm_pt t P = 45 ∧ lm_op P = 44) := by
  have B := ln_opB P
  unfold lm_pt
  (repeat' split) <;> omega
theorem ln_dpO {e : Int × Int × Int} (h : 40 ≤ e.1) : lm_dp (ln_e (e :: P)) = 1 + lm_dp (ln_e P) := by
  show (if 40 ≤ e.1 ∨ e.1 = 3 ∨ e.1 = 20 then 1 else 0) + lm_dp (ln_e P) = _
  rw [if_pos (Or.inl h)]
/-- shut -/
theorem fl_228 {e : Int × Int × Int} {Q : lf_Z → Prop} (h : ln_C z f n b (e :: P) c o s) (h40 : 40 ≤ e.1) (h44 : e.1 ≠ 44) (kk : ∀ t : lf_Z, ln_C z f n b P c (if e.1 = 43 then (2, 0) :: o else o) t → t.1 95 23 = s.1 95 23 → Q t) : fw_228 e.1 Q s := by
  have e19 : s.1 95 19 = (P.length : Int) + 1 := h.2.2.1.trans ln_len
  have e20 : s.1 95 20 = 1 + lm_dp (ln_e P) := h.2.2.2.2.1.trans (ln_dpO h40)
  have a1 : ln_S z f n b (e :: P) P.length (lm_dp (ln_e P)) (ln_nl (e :: P)) c o (lf_up (lf_up s.1 95 19 (s.1 95 19 - 1)) 95 20 (s.1 95 20 - 1), s.2.1, s.2.2) := by
    rw [e19, e20, show (P.length : Int) + 1 - 1 = P.length by omega, show 1 + lm_dp (ln_e P) - 1 = lm_dp (ln_e P) by omega]
    exact ln_20 (ln_19 h)
  have a23 : ((lf_up (lf_up s.1 95 19 (s.1 95 19 - 1)) 95 20 (s.1 95 20 - 1), s.2.1, s.2.2) : lf_Z).1 95 23 = s.1 95 23 := (zu_i (by decide)).trans (lf_up_i (by decide))
  unfold fw_228
  intro _
  generalize ((lf_up (lf_up s.1 95 19 (s.1 95 19 - 1)) 95 20 (s.1 95 20 - 1), s.2.1, s.2.2) : lf_Z) = y at a1 a23 ⊢
  have p32 : ∀ (u : lf_Z) (o' : List (Int × Int)), ln_S z f n b (e :: P) P.length (lm_dp (ln_e P)) (ln_nl (e :: P)) c o' u → u.1 95 23 = s.1 95 23 → (∀ t : lf_Z, ln_C z f n b P c o' t → t.1 95 23 = s.1 95 23 → Q t) → fw_228_p32 Q e.1 u := by
    intro u o' hu u23 k2
    unfold fw_228_p32
    intro _
    refine ⟨fun q => k2 u (ln_cl (ln_tail hu q).1 rfl rfl (ln_nlN h44 q)) u23, fun q _ _ => k2 _ ?_ ?_⟩
    · have q := Classical.not_not.mp q
      have e21 : u.1 95 21 - 1 = ln_nl P := by rw [hu.2.2.2.2.2.1, ln_nlL (Or.inr q)]; omega
      rw [e21]
      have a2 := ln_21 (v := ln_nl P) hu
      have a3 := ln_unb a2 q
      rw [show ((lf_up u.1 95 21 (ln_nl P), u.2.1, u.2.2) : lf_Z).1 101 = u.1 101 from zu_r (by decide), show ((lf_up u.1 95 21 (ln_nl P), u.2.1, u.2.2) : lf_Z).1 102 = u.1 102 from zu_r (by decide)] at a3
      exact a3
    · exact (zu_c (by decide)).trans ((lf_up_i (by decide)).trans u23)
  refine ⟨fun q => p32 _ o a1 a23 (fun t ht t23 => kk t ?_ t23), fun q => fl_225 a1 (fun u hu u95 _ => p32 u _ hu ((u95 23 (by decide)).trans a23) (fun t ht t23 => kk t ?_ t23))⟩
  · rw [if_neg q]; exact ht
  · rw [if_pos (Classical.not_not.mp q)]; exact ht
/-- a let's letter is what was summed -/
theorem fl_227 {v : Int} {Q : lf_Z → Prop} (h : ln_S z f n b P m d (ln_nl P + 1) c o s) (hv : s.1 100 P.length = 45) (hL : s.1 101 (ln_nl P) = v) (h0 : 0 ≤ v) (h1 : v < 26) (kk : ∀ t : lf_Z, ln_S z f n b ((45, v, c) :: P) m d (ln_nl P + 1) (c + 1) ((30, c) :: o) t → t.1 95 23 = s.1 95 23 → Q t) : fw_227 Q s := by
  have e21 : s.1 95 21 - 1 = ln_nl P := by rw [h.2.2.2.2.2.1]; omega
  have e22 : s.1 95 22 = c := h.2.2.2.2.2.2.2.2.1
  have hc : 0 ≤ c := h.2.2.2.2.2.2.2.2.2.2.2
  unfold fw_227
  rw [e21, hL, e22]
  intro _ _
  have a := ln_bnd h hv hL h0 h1 hc
  refine fl_225 a (fun u hu u95 uq => ?_)
  have w : u.1 95 22 = c := hu.2.2.2.2.2.2.2.2.1
  rw [w]
  refine kk _ (ln_22 hu (by omega)) ?_
  exact (zu_i (by decide)).trans ((u95 23 (by decide)).trans ((zu_c (by decide)).trans (lf_up_c (by decide))))
/-- goes on behind one -/
theorem fl_217 {Q : Bool → lf_Z → Prop} (h : ln_C z f n b P c o s) (hd : lm_dp (ln_e P) ≤ 8) (h23 : s.1 95 23 = 1) (k1 : ∀ (y : ln_T) (t : lf_Z), lo_bh f n P o c b = .inr y → ln_C z f n y.2.2.2.2 y.1 y.2.2.1 y.2.1 t → t.1 95 23 = (if y.2.2.2.1 = true then 1 else 0) → lm_dp (ln_e y.1) ≤ 8 → Q true t) (k0 : ¬ 0 ≤ lm_bt (lx_T f n b) (ln_e P) → ¬ 0 ≤ lm_pt (lx_T f n b) (ln_e P) → Q false s) : fw_217 Q s := by
  have B := lm_btB (lx_T f n b) (ln_e P)
  have PB := lm_ptB (lx_T f n b) (ln_e P)
  unfold lo_bh at k1
  unfold fw_217
  refine fl_218 h (fun v hv => ?_)
  rw [← hv] at B k0 k1
  intro _
  refine ⟨fun q => fl_219 h.2.2.2.1 h.2.2.1 (fl_226 h rfl (fun w hw => ?_)), fun q => fl_222 (fl_224 (lm_rkp (by omega)) h (fun t ht t23 => ?_))⟩
  · rw [if_neg (by omega)] at k1
    rw [← hw] at k0 k1 PB
    intro _
    refine ⟨fun q0 => fl_224 (Int.le_refl 1) h (fun t ht t23 => ?_), fun q0 => k0 (by omega) q0⟩
    obtain ⟨e, P', E, e40, eO⟩ := ln_st1 P (by omega)
    rw [E] at ht k1
    have hdE := ln_dpst (k := 1) P
    rw [E, ln_dpO e40] at hdE
    refine ⟨fun q1 => ?_, fun q1 => ?_⟩
    · -- it is shut
      have w0 : w = 0 := by omega
      rw [if_neg (by omega), if_pos w0, ← eO] at k1
      rw [← eO]
      refine fl_228 ht e40 (by omega) (fun u hu u23 => ln_nx hu (fun x hx x95 _ => ?_))
      have h2 : ln_C z f n (ds_ad f n b) P' c (if e.1 = 43 then (2, 0) :: ln_so 1 P o else ln_so 1 P o) x := hx
      refine fl_224 (by decide) h2 (fun y hy y23 => k1 _ y rfl hy ?_ ?_)
      · exact y23.trans ((x95 23 (by omega)).trans (u23.trans (t23.trans h23)))
      · exact Int.le_trans (ln_dpst (k := 7) P') (by omega)
    · -- the next part
      rw [if_pos (by omega)] at k1
      refine fl_220 ht.2.2.2.1 ht.2.2.1 ?_
      rw [show ln_oa (e :: P') = P'.length from if_pos e40]
      intro _
      refine ⟨fun q45 => ?_, fun q45 => ?_⟩
      · rw [if_neg q45] at k1
        obtain ⟨hT, hv⟩ := ln_tail ht (by omega)
        have a1 := ln_S100 (i := P'.length) (v := w) hT (Int.le_refl _)
        have a2 := ln_w (v := 0) a1
        unfold fw_217_p99
        refine ln_nx a2 (fun x hx x95 xq => k1 _ x rfl (ln_cl (ln_cons hx (e := (w, e.2.1, 0)) (show w ≠ 44 by omega) q45 ?_) (by rfl) ?_ ?_) ?_ ?_)
        · rw [xq 100 (by decide)]; exact (zu_c (by decide)).trans lf_up_s
        · show lm_dp (ln_e (e :: P')) = lm_dp (ln_e ((w, e.2.1, 0) :: P'))
          rw [ln_dpO e40, ln_dpO (e := (w, e.2.1, 0)) (show 40 ≤ w by omega)]
        · show ln_nl (e :: P') = ln_nl ((w, e.2.1, 0) :: P')
          rw [ln_nlN (by omega) (by omega), ln_nlN (e := (w, e.2.1, 0)) (show w ≠ 44 by omega) q45]
        · exact (x95 23 (by omega)).trans zu_s
        · show lm_dp (ln_e ((w, e.2.1, 0) :: P')) ≤ 8
          rw [ln_dpO (e := (w, e.2.1, 0)) (show 40 ≤ w by omega)]; omega
      · have q45 := Classical.not_not.mp q45
        rw [if_pos q45] at k1
        obtain ⟨hT, hv⟩ := ln_tail ht (by omega)
        obtain ⟨l1, l2, l3⟩ := ht.2.2.2.2.2.2.1.1 (Or.inl (by omega))
        have nE : ln_nl (e :: P') = ln_nl P' + 1 := by rw [ln_nlL (Or.inl (by omega))]; omega
        rw [nE] at hT
        have a1 := ln_S100 (i := P'.length) (v := w) hT (Int.le_refl _)
        have a2 := ln_w (v := 0) a1
        refine fl_227 (v := e.2.1) a2 ?_ ?_ l2 l3 (fun u hu u23 => ?_)
        · exact ((zu_c (by decide)).trans lf_up_s).trans q45
        · exact ((zu_c (by decide)).trans (lf_up_c (by decide))).trans l1
        · unfold fw_217_p99
          refine ln_nx hu (fun x hx x95 xq => k1 _ x rfl (ln_cl hx (by rfl) ?_ ?_) ?_ ?_)
          · rw [ln_dpO e40]; exact (ln_dpO (e := (45, e.2.1, c)) (show (40 : Int) ≤ 45 by decide)).symm
          · have := ln_nlL (P := P') (e := (45, e.2.1, c)) (Or.inr rfl)
            show ln_nl P' + 1 = ln_nl ((45, e.2.1, c) :: P')
            omega
          · exact ((x95 23 (by omega)).trans u23).trans zu_s
          · show lm_dp (ln_e ((45, e.2.1, c) :: P')) ≤ 8
            rw [ln_dpO (e := (45, e.2.1, c)) (show (40 : Int) ≤ 45 by decide)]; omega
  · rw [if_pos (by omega)] at k1
    have e19 : t.1 95 19 = (ln_st (lm_rk v) P).length := ht.2.2.1
    intro _
    rw [e19]
    have a1 := ln_S100 (i := (ln_st (lm_rk v) P).length) (v := v) ht (Int.le_refl _)
    have a2 := ln_19 (v := (ln_st (lm_rk v) P).length + 1) a1
    have a3 := ln_w (v := 0) a2
    have dE : lm_dp (ln_e ((v, 0, 0) :: ln_st (lm_rk v) P)) = lm_dp (ln_e (ln_st (lm_rk v) P)) := by rw [ln_dpc, if_neg (by omega)]; omega
    refine ln_nx a3 (fun x hx x95 xq => k1 _ x rfl (ln_cl (ln_cons hx (e := (v, 0, 0)) (show v ≠ 44 by omega) (show v ≠ 45 by omega) ?_) ln_len.symm dE.symm (ln_nlN (show v ≠ 44 by omega) (show v ≠ 45 by omega)).symm) ?_ ?_)
    · rw [xq 100 (by decide)]; exact (zu_c (by decide)).trans ((lf_up_c (by decide)).trans lf_up_s)
    · exact (x95 23 (by omega)).trans zu_s
    · show lm_dp (ln_e ((v, 0, 0) :: ln_st (lm_rk v) P)) ≤ 8
      have := ln_dpst (k := lm_rk v) P
      rw [dE]; omega
/-- a sum -/
theorem fl_216 {Q : Int → lf_Z → Prop} {I : ln_T → Prop} (hB : la_B f n b s) (h13 : s.1 95 13 = o.length) (ho : ln_ou (s.1 98) (s.1 95 12 + 97) o) (hl : s.1 95 14 = law) (h0 : 0 ≤ law) (h2 : law ≤ 2) (hI : I ([], o, 0, false, b))
    (hs : ∀ x y : ln_T, I x → (∀ j : Int, ln_g x.1 j ≠ -1 ↔ lm_g (ln_e x.1) j ≠ -1) → lo_sp f n law x = .inr y → I y)
    (kk : ∀ (x : ln_T) (V : Int × Int) (t : lf_Z), I x → (∀ j : Int, ln_g x.1 j ≠ -1 ↔ lm_g (ln_e x.1) j ≠ -1) → lo_sp f n law x = .inl V → la_B f n V.2 t → ln_F s t → (V.1 = 0 → ln_C s f n V.2 (ln_st 1 x.1) x.2.2.1 (ln_so 1 x.1 x.2.1) t) → Q V.1 t) : fw_216 Q s := by
  have p46 : ∀ t : lf_Z, ln_C s f n b [] 0 o t → t.1 95 23 = 0 → fw_216_p46L Q t := by
    intro t hC t23
    refine ⟨fun t => ∃ x : ln_T, I x ∧ ln_C s f n x.2.2.2.2 x.1 x.2.2.1 x.2.1 t ∧ t.1 95 23 = (if x.2.2.2.1 = true then 1 else 0) ∧ lm_dp (ln_e x.1) ≤ 8, ?_, ⟨([], o, 0, false, b), hI, hC, t23, (show (0 : Int) ≤ 8 by decide)⟩⟩
    intro t ⟨⟨P, o, c, w, b⟩, hx, hC, h23, hd⟩
    have hC : ln_C s f n b P c o t := hC
    have hd : lm_dp (ln_e P) ≤ 8 := hd
    have gE : ∀ j : Int, ln_g P j ≠ -1 ↔ lm_g (ln_e P) j ≠ -1 := ln_gE P hC.2.2.2.2.2.2.1
    have tl : t.1 95 14 = law := (hC.1.2.1 14 (by omega) (by decide) (by omega)).trans hl
    unfold fw_216_p46
    intro _
    cases w with
    | false =>
      have h23 : t.1 95 23 = 0 := h23
      refine ⟨fun _ => fl_229 hC hd h23 tl h0 h2 (fun v u hv => ?_), fun q => absurd h23 q⟩
      intro _
      have st : lo_sp f n law (P, o, c, false, b) = lo_be f n law P o c b := rfl
      generalize lo_be f n law P o c b = r at st hv
      cases r with
      | inl V =>
        obtain ⟨v1, v2, v3, v4⟩ := hv
        refine ⟨fun q => absurd (v1.symm.trans q) v2, fun _ => ?_⟩
        rw [v1]
        exact kk _ V u hx gE st v3 v4 (fun q => absurd q v2)
      | inr y =>
        obtain ⟨v1, v2, v3, v4⟩ := hv
        exact ⟨fun _ => ⟨y, hs _ y hx gE st, v2, v3, v4⟩, fun q => absurd v1 q⟩
    | true =>
      have h23 : t.1 95 23 = 1 := h23
      have st : lo_sp f n law (P, o, c, true, b) = lo_bh f n P o c b := rfl
      refine ⟨fun q => absurd (h23.symm.trans q) (by decide), fun _ => fl_217 (P := P) (o := o) (c := c) (b := b) hC hd h23 (fun y u hy hu u23 ud => ⟨fun q => (by cases q), fun _ => ⟨y, hs _ y hx gE (st.trans hy), hu, u23, ud⟩⟩) (fun n1 n2 => ⟨fun _ => fl_219 (P := P) hC.2.2.2.1 hC.2.2.1 ?_, fun q => (by cases q)⟩)⟩
      intro _
      have e : lo_bh f n P o c b = if 0 ≤ lm_op (ln_e P) then .inl (1, b) else .inl (0, b) := by
        unfold lo_bh
        rw [if_neg n1, if_neg (by omega), if_neg (by omega)]
      refine ⟨fun q => fl_224 (Int.le_refl 1) hC (fun u hu _ => ?_), fun q => ?_⟩
      · rw [if_neg (by omega)] at e
        exact kk _ (0, b) u hx gE (st.trans e) hu.2.1 hu.1 (fun _ => hu)
      · rw [if_pos (by omega)] at e
        exact kk _ (1, b) t hx gE (st.trans e) hC.2.1 hC.1 (fun q => absurd q (show ¬ (1 : Int) = 0 by decide))
  unfold fw_216
  refine ⟨fun x t => 0 ≤ x ∧ x ≤ 26 ∧ t.2 = s.2 ∧ (∀ q : Nat, q ≠ 95 → q ≠ 103 → t.1 q = s.1 q) ∧ (∀ i : Int, ¬ (19 ≤ i ∧ i ≤ 22) → t.1 95 i = s.1 95 i) ∧ t.1 95 19 = 0 ∧ t.1 95 20 = 0 ∧ t.1 95 21 = 0 ∧ t.1 95 22 = 0 ∧ ∀ j : Int, 0 ≤ j → j < x → t.1 103 j = -1, ?_, ?_⟩
  · intro x t ⟨x0, x1, eJ, eq, e95, e19, e20, e21, e22, ej⟩
    unfold fw_216_p22
    intro _
    refine ⟨fun c => p46 _ ?_ zu_s, fun c _ => ?_⟩
    · obtain ⟨u, hu⟩ : ∃ u : lf_Z, u = (lf_up t.1 95 23 0, t.2.1, t.2.2) := ⟨_, rfl⟩
      rw [← hu]
      have w95 : ∀ i : Int, ¬ (19 ≤ i ∧ i ≤ 23) → u.1 95 i = s.1 95 i := fun i hi => by rw [hu]; exact (zu_i (by omega)).trans (e95 i (by omega))
      have wq : ∀ q : Nat, q ≠ 95 → q ≠ 103 → u.1 q = s.1 q := fun q a b => by rw [hu]; exact (zu_r a).trans (eq q a b)
      have wi : ∀ i : Int, i ≠ 23 → u.1 95 i = t.1 95 i := fun i hi => by rw [hu]; exact zu_i hi
      have w2 : u.2 = s.2 := by rw [hu]; exact eJ
      refine ⟨⟨fun q a1 a2 a3 a4 a5 a6 => wq q a1 a6, fun i a1 a2 a3 => w95 i a3, fun i hi => by rw [wq 98 (by decide) (by decide)], by rw [w2]⟩, la_Bx hB (wq 99 (by decide) (by decide)) (fun i hi => w95 i (by omega)) (by rw [w2]), (wi 19 (by decide)).trans e19, trivial, (wi 20 (by decide)).trans e20, (wi 21 (by decide)).trans e21, trivial, fun j j0 j1 => ?_, (wi 22 (by decide)).trans e22, (w95 13 (by omega)).trans h13, (by rw [wq 98 (by decide) (by decide)]; exact ho), Int.le_refl 0⟩
      rw [hu]
      exact (zu_c (by decide)).trans (ej j j0 (by omega))
    · refine ⟨by omega, by omega, eJ, fun q a b => (zu_r b).trans (eq q a b), fun i hi => (zu_c (by decide)).trans (e95 i hi), (zu_c (by decide)).trans e19, (zu_c (by decide)).trans e20, (zu_c (by decide)).trans e21, (zu_c (by decide)).trans e22, fun j j0 j1 => ?_⟩
      by_cases y : j = x
      · rw [y]; exact zu_s
      · exact (zu_i y).trans (ej j j0 (by omega))
  · refine ⟨Int.le_refl 0, by decide, rfl, fun q a _ => (zu_r a).trans ((lf_up_row a).trans ((lf_up_row a).trans (lf_up_row a))), fun i hi => (zu_i (by omega)).trans ((lf_up_i (by omega)).trans ((lf_up_i (by omega)).trans (lf_up_i (by omega)))), (zu_i (by decide)).trans ((lf_up_i (by decide)).trans ((lf_up_i (by decide)).trans lf_up_s)), (zu_i (by decide)).trans ((lf_up_i (by decide)).trans lf_up_s), (zu_i (by decide)).trans lf_up_s, zu_s, fun j j0 j1 => by omega⟩
/-! the machine without what it writes -/
def ln_pr (x : ln_T) : lm_S := (ln_e x.1, x.2.2.2.1, x.2.2.2.2)
def ln_pj (r : (Int × Int) ⊕ ln_T) : (Int × Int) ⊕ lm_S := match r with | .inl v => .inl v | .inr y => .inr (ln_pr y)
theorem ln_pjpu {F : Int → (Int × Int) ⊕ ln_T} {G : Int → (Int × Int) ⊕ lm_S} {x : Int} (e : ∀ q, ln_pj (F q) = G q) : ln_pj (lo_pu f n P b F) = lm_pu f n x (ln_e P) b G := by
  unfold lo_pu lm_pu
  split
  · exact e _
  · rfl
theorem ln_pjone {e : Int × Int} : ln_pj (lo_one f n P o c b e) = .inr (lm_st 7 (ln_e P), true, ds_ad f n b) := by
  show (Sum.inr (ln_e (ln_st 7 P), true, ds_ad f n b) : (Int × Int) ⊕ lm_S) = _
  rw [ln_est]
theorem ln_pjbe (hg : ∀ j : Int, ln_g P j ≠ -1 ↔ lm_g (ln_e P) j ≠ -1) : ln_pj (lo_be f n law P o c b) = lm_be f n law (ln_e P) b := by
  unfold lo_be lm_be
  by_cases c2 : lx_T f n b = 2
  · rw [if_pos c2, if_pos c2]
    by_cases v : lx_V f n b ≤ 9999
    · rw [if_pos v, if_pos v]; exact ln_pjone
    · rw [if_neg v, if_neg v]; rfl
  rw [if_neg c2, if_neg c2]
  by_cases c3 : lx_T f n b = 3
  · rw [if_pos c3, if_pos c3]
    by_cases v : ln_g P (lx_V f n b) ≠ -1
    · rw [if_pos v, if_pos ((hg _).mp v)]; exact ln_pjone
    · rw [if_neg v, if_neg (fun q => v ((hg _).mpr q))]; rfl
  rw [if_neg c3, if_neg c3]
  by_cases c11 : lx_T f n b = 11
  · rw [if_pos c11, if_pos c11]; exact ln_pjpu (fun _ => rfl)
  rw [if_neg c11, if_neg c11]
  by_cases c14 : lx_T f n b = 14
  · rw [if_pos c14, if_pos c14]; exact ln_pjpu (fun _ => rfl)
  rw [if_neg c14, if_neg c14]
  by_cases c37 : lx_T f n b = 37
  · rw [if_pos c37, if_pos c37]; exact ln_pjpu (fun _ => rfl)
  rw [if_neg c37, if_neg c37]
  by_cases c41 : lx_T f n b = 41
  · rw [if_pos c41, if_pos c41]
    refine ln_pjpu (fun q => ?_)
    unfold lo_lt
    split
    · split <;> rfl
    · rfl
  rw [if_neg c41, if_neg c41]
  by_cases c44 : lx_T f n b = 44 ∧ lm_ah (ln_e P) = true
  · rw [if_pos c44, if_pos c44]; exact ln_pjpu (fun _ => rfl)
  rw [if_neg c44, if_neg c44]
  by_cases v : (ds_name f n law b).1 = 0
  · rw [if_pos v, if_pos v]; exact ln_pjone
  · rw [if_neg v, if_neg v]; rfl
theorem ln_hdE : lm_hd (ln_e P) = lo_hd P := by cases P <;> rfl
theorem ln_tlE : (ln_e P).tail = ln_e P.tail := by cases P <;> rfl
theorem ln_pjbh : ln_pj (lo_bh f n P o c b) = lm_bh f n (ln_e P) b := by
  unfold lo_bh lm_bh
  by_cases q : 0 ≤ lm_bt (lx_T f n b) (ln_e P)
  · rw [if_pos q, if_pos q, ← ln_est]; rfl
  rw [if_neg q, if_neg q]
  by_cases q2 : 0 < lm_pt (lx_T f n b) (ln_e P)
  · rw [if_pos q2, if_pos q2, ← ln_est, ln_hdE, ln_tlE]
    by_cases y : lm_pt (lx_T f n b) (ln_e P) = 45
    · rw [if_pos y, y]; rfl
    · rw [if_neg y]; rfl
  rw [if_neg q2, if_neg q2]
  by_cases q3 : lm_pt (lx_T f n b) (ln_e P) = 0
  · rw [if_pos q3, if_pos q3, ← ln_est, ln_tlE, ← ln_est]; rfl
  rw [if_neg q3, if_neg q3]
  split <;> rfl
theorem ln_pjsp {x : ln_T} (hg : ∀ j : Int, ln_g x.1 j ≠ -1 ↔ lm_g (ln_e x.1) j ≠ -1) : ln_pj (lo_sp f n law x) = lm_sp f n law (ln_pr x) := by
  obtain ⟨P, o, c, w, b⟩ := x
  cases w with
  | true => exact ln_pjbh
  | false => exact ln_pjbe hg
/-- a sum: its verdict -/
theorem fl_216R {V : Int × Int} {Q : Int → lf_Z → Prop} (hR : lm_R f n law ([], false, b) V) (hB : la_B f n b s) (h13 : s.1 95 13 = o.length) (ho : ln_ou (s.1 98) (s.1 95 12 + 97) o) (hl : s.1 95 14 = law) (h0 : 0 ≤ law) (h2 : law ≤ 2) (kk : ∀ t : lf_Z, la_B f n V.2 t → ln_F s t → (V.1 = 0 → ∃ o' : List (Int × Int), t.1 95 13 = o'.length ∧ ln_ou (t.1 98) (s.1 95 12 + 97) o') → Q V.1 t) : fw_216 Q s := by
  refine fl_216 (I := fun x => lm_R f n law (ln_pr x) V) hB h13 ho hl h0 h2 hR (fun x y hx hg e => ?_) (fun x V' t hx hg e tB tF tC => ?_)
  · have p := ln_pjsp (f := f) (n := n) (law := law) hg
    rw [e] at p
    obtain ⟨k, hk⟩ := hx
    cases k with
    | zero => cases hk
    | succ k =>
      have hk : (match lm_sp f n law (ln_pr x) with | .inl v => some v | .inr t => lm_mr f n law k t) = some V := hk
      rw [← p] at hk
      exact ⟨k, hk⟩
  · have p := ln_pjsp (f := f) (n := n) (law := law) hg
    rw [e] at p
    obtain ⟨k, hk⟩ := hx
    have eV : V' = V := by
      cases k with
      | zero => cases hk
      | succ k =>
        have hk : (match lm_sp f n law (ln_pr x) with | .inl v => some v | .inr t => lm_mr f n law k t) = some V := hk
        rw [← p] at hk
        exact Option.some.inj hk
    subst eV
    exact kk t tB tF (fun q => ⟨_, (tC q).2.2.2.2.2.2.2.2.2.1, (tC q).2.2.2.2.2.2.2.2.2.2.1⟩)
end LD
