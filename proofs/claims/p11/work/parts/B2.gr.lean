/-! the calls of the reference -/
section GR
variable {J K M : Nat → Int → Int} {s t u : lf_Z} {f f' g A B sv : Int → Int} {H H' : List rr_H} {X : mn_X} {I : Nat → Int → Int} {a b c d r j n1 n2 : Int} {T : Int → Int}
theorem lf_bi {z y : Bool} (h : lf_b z = lf_b y) : z = y := by
  cases z <;> cases y <;> first | rfl | (exact absurd h (by decide))
theorem gr_ob {ok : Prop} {f1 : Int → Int} {H1 : List rr_H} {z : Bool} {Q : Bool → lf_Z → Prop} (hF : gf_T J f H) (hR : gr_T sv J f H (s.1 96)) (hT : gq_o ok 1 0 f1 H1 J f H K f' H' (lf_b z))
    (k : ∀ t : lf_Z, gr_F s t → gr_T sv K f' H' (t.1 96) → Q z t) : (¬ ok → Q false s) ∧ (ok → ∀ t : lf_Z, gr_q s t → rr_S (J 1 1) (J 1 2) f1 (t.1 96) → rh_H (t.1 96) H1 → Q true t) := by
  have g := gr_o (Q := fun r t => ∀ y : Bool, r = lf_b y → Q y t) hF hR hT (fun t h1 h2 y e => by rw [← lf_bi e]; exact k t h1 h2)
  exact ⟨fun q => g.1 q false rfl, fun q t m h1 h2 => g.2 q t m h1 h2 true rfl⟩
theorem gr_182 {Q : Int → lf_Z → Prop} (hF : gf_T J f H) (hR : gr_T sv J f H (s.1 96)) 
    (hT : gt_14 a b J f H K f' H' r) (k : ∀ t : lf_Z, gr_F s t → gr_T sv K f' H' (t.1 96) → Q r t) : fw_182 a b Q s := by
  obtain ⟨hL, hS, hH, hM⟩ := hR
  have e0 : s.1 96 0 = J 1 0 := hL.1
  have w2 := hF.1.1.2.2.1
  have w1 := hF.1.1.2.1
  refine fl_182 (by rw [e0]; exact hF.1.1.1) (fun q => ?_) (fun q t tf t0 ta tb tc tn => ?_)
  · rw [e0] at q
    rcases hT with ⟨_, e, rfl, rfl, rfl⟩ | ⟨q', _⟩
    · exact k s gr_Fr (gr_Te e ⟨hL, hS, hH, hM⟩)
    · exact absurd q' q
  · rw [e0] at q t0 ta tb tc tn ⊢
    rcases hT with ⟨q', _⟩ | ⟨_, hR, rfl, rfl, rfl⟩
    · exact absurd q q'
    · have h12 : J 1 0 < 12 := q.2.2
      have h0 : 0 ≤ J 1 0 := hF.1.1.1.1
      obtain ⟨r1, ⟨r2, r3, r4⟩, r5⟩ := hR
      refine k t ⟨fun c hc _ _ _ => tf.1 c hc, tn 8 (by decide) (by omega), by rw [tf.2]⟩ ⟨st_L hL hF.1.1 h12 r2 r3 r4 (fun x x0 x1 => ?_) ?_ ?_ (fun c c0 c1 => r1 c (by omega) (by omega) (by omega)) t0 ta tb tn, ?_, rh_Hr hF.2.2 hF.1.1 hH (tn 9 (by decide) (by omega)) (fun i i0 => tn i (by omega) (by omega)), ?_⟩
      · exact ⟨by rw [(r5 x).1, if_neg (by omega)], by rw [(r5 x).2, if_neg (by omega)]⟩
      · rw [(r5 (J 1 0)).1, if_pos rfl]
      · rw [(r5 (J 1 0)).2, if_pos rfl]
      · rw [r3, r4]
        exact st_S hS hF.1.1 h12 w1.2 w2.2 hF.2.1.2.1 tc tn
      · rw [r3]
        exact gr_me w1.2 (fun i i0 i1 => tn i (by omega) (by omega)) hM
theorem gr_184 {Q : Int → lf_Z → Prop} (hc : c = 0 ∨ c = 1) (hF : gf_T J f H) (hR : gr_T sv J f H (s.1 96)) 
    (hT : gt_17 a b c J f H K f' H' r) (k : ∀ t : lf_Z, gr_F s t → gr_T sv K f' H' (t.1 96) → Q r t) : fw_184 a b c Q s := by
  obtain ⟨hL, hS, hH, hM⟩ := hR
  have w2 := hF.1.1.2.2.1
  have w1 := hF.1.1.2.1
  refine fl_184 hL hF.1.1 hc (fun q => ?_) (fun q t tf t1 ta tb tc td tm tn => ?_)
  · rcases hT with ⟨_, e, rfl, rfl, rfl⟩ | ⟨q', _⟩
    · exact k s gr_Fr (gr_Te e ⟨hL, hS, hH, hM⟩)
    · exact absurd q' q
  · rcases hT with ⟨q', _⟩ | ⟨_, hR, rfl, rfl, rfl⟩
    · exact absurd q q'
    · have h16 : J 1 1 < 16 := q.2.2.2.1
      obtain ⟨r2, r3, r4⟩ := hR.2.1
      refine k t ⟨fun c hc _ _ _ => tf.1 c hc, tn 8 (by decide) (by omega) (by omega), by rw [tf.2]⟩ ⟨wy_L hL hF.1.1 q hR t1 ta tb tc tn, ?_, rh_Hr hF.2.2 hF.1.1 hH (tn 9 (by decide) (by omega) (by omega)) (fun i i0 => tn i (by omega) (by omega) (by omega)), ?_⟩
      · rw [r3, r4]
        exact wy_S hS hF.1.1 q w2.2 hF.2.1.2.1 td tn
      · rw [r3]
        refine ⟨fun w x0 x1 => ?_, fun w x0 x1 => hM.2 w (by omega) x1⟩
        by_cases y : w = J 1 1
        · exact Or.inl ⟨by rw [y]; exact tm, hM.2 w (by omega) (by omega)⟩
        · exact gr_1e (fun i i0 i1 => tn i (by omega) (by omega) (by omega)) (hM.1 w x0 (by omega))
theorem gr_pn (hF : gf_T J f H) (hR : gr_T sv J f H (s.1 96)) (ok : pn_ok J a d) (hK : pn_R J K a b c d) (tf : rr_f s t) (hB : pn_B (s.1 96) (t.1 96) (J 1 2) a b c d) : gr_F s t ∧ gr_T sv K (pn_f f (J 1 2) d) H (t.1 96) := by
  obtain ⟨hL, hS, hH, hM⟩ := hR
  have w2 := hF.1.1.2.2.1
  have w1 := hF.1.1.2.1
  have n6 : J 1 2 < 6 := ok.2.2
  obtain ⟨r2, r3, r4⟩ := hK.2.1
  have tn : ∀ i : Int, i ≠ 2 → ¬ (126 + 6 * J 1 2 ≤ i ∧ i ≤ 126 + 6 * J 1 2 + 5) → t.1 96 i = s.1 96 i := hB.2.2.2.2.2.2.2
  refine ⟨⟨fun c hc _ _ _ => tf.1 c hc, tn 8 (by decide) (by omega), by rw [tf.2]⟩, pn_L hL hF.1.1 n6 hK hB, ?_, rh_Hr hF.2.2 hF.1.1 hH (tn 9 (by decide) (by omega)) (fun i i0 => tn i (by omega) (by omega)), ?_⟩
  · rw [r3, r4]
    exact pn_S hS w2.1 n6 w1.2 hB
  · rw [r3]
    exact gr_me w1.2 (fun i i0 i1 => tn i (by omega) (by omega)) hM
theorem gr_189 {Q : Int → lf_Z → Prop} (hb : b = 0 ∨ b = 1) (hc : c = 0 ∨ c = 1) (hF : gf_T J f H) (hR : gr_T sv J f H (s.1 96)) 
    (hT : gt_23 a b c d J f H K f' H' r) (k : ∀ t : lf_Z, gr_F s t → gr_T sv K f' H' (t.1 96) → Q r t) : fw_189 a b c d Q s := by
  refine fl_189 hR.1 hF.1.1 hb hc (fun q => ?_) (fun q t tf hB => ?_)
  · rcases hT with ⟨_, e, rfl, rfl, rfl⟩ | ⟨q', _⟩
    · exact k s gr_Fr (gr_Te e hR)
    · exact absurd q' q
  · rcases hT with ⟨q', _⟩ | ⟨_, hK, rfl, rfl, rfl⟩
    · exact absurd q q'
    · have g := gr_pn hF hR q hK tf hB
      exact k t g.1 g.2
theorem gr_190 {Q : Int → lf_Z → Prop} (ha : 0 ≤ a ∧ a ≤ 9) (hF : gf_T J f H) (hR : gr_T sv J f H (s.1 96)) 
    (hT : gt_23 a b c d J f H K f' H' r) (k : ∀ t : lf_Z, gr_F s t → gr_T sv K f' H' (t.1 96) → Q r t) : fw_190 a b c d Q s := by
  refine fl_190 hR.1 hF.1.1 (fun q => ?_) (fun q1 q2 t tf hB => ?_)
  · rcases hT with ⟨_, e, rfl, rfl, rfl⟩ | ⟨q', _⟩
    · exact k s gr_Fr (gr_Te e hR)
    · exact absurd q'.2 q
  · rcases hT with ⟨q', _⟩ | ⟨q, hK, rfl, rfl, rfl⟩
    · exact absurd ⟨ha, q1, q2⟩ q'
    · have g := gr_pn hF hR q hK tf hB
      exact k t g.1 g.2
theorem gr_240 {Q : Int → lf_Z → Prop} (hF : gf_T J f H) (hR : gr_T sv J f H (s.1 96)) 
    (hT : gt_63 a b J f H K f' H' r) (k : ∀ t : lf_Z, gr_F s t → gr_T sv K f' H' (t.1 96) → Q r t) : fw_240 a b Q s := by
  have g := gr_o (ok := sy_ok J f a b) (ro := sg_b f) (rn := -1) (f1 := rm_b f (sg_b f) a b (-1)) (H1 := rr_K (J 1 2, J 1 1, f) H) hF hR hT k
  exact fl_240 hR.1 hF.1.1 hR.2.1 hF.2.1 hR.2.2.1 hF.2.2 g.1 (fun q t m => g.2 q t (gr_qm m))
theorem gr_257 {Q : Int → lf_Z → Prop} (hF : gf_T J f H) (hR : gr_T sv J f H (s.1 96)) (hX : gx_Xr X T s) (hB : gx_XB X) 
    (hT : gt_70 X a J f H K f' H' r) (k : ∀ t : lf_Z, gr_F s t → gr_T sv K f' H' (t.1 96) → Q r t) : fw_257 a Q s := by
  have g := gr_o (ok := mi_ok f a) (ro := mi_al (mi_r J X a.toNat (f, H)).1 12) (rn := -1) (f1 := (mi_r J X a.toNat (f, H)).1) (H1 := (mi_r J X a.toNat (f, H)).2) hF hR hT k
  exact fl_257 hR.1 hF.1.1 hF.1.2.1 hF.1.2.2.1 hR.2.1 hF.2.1 hR.2.2.1 hF.2.2 hX.1 hX.2 hB.1 g.1 (fun q t m h1 h2 _ _ => g.2 q t (gr_qm m) h1 h2)
theorem gr_258 {Q : Bool → lf_Z → Prop} (hF : gf_T J f H) (hR : gr_T sv J f H (s.1 96)) (hX : gx_Xr X T s) (hB : gx_XB X) 
    {z : Bool} (hT : gt_71 X a J f H K f' H' (lf_b z)) (k : ∀ t : lf_Z, gr_F s t → gr_T sv K f' H' (t.1 96) → Q z t) : fw_258 a Q s := by
  obtain ⟨e, m0, m1, m2, rfl, rfl, hz⟩ := hT
  refine fl_258 hR.1 hF.1.1 hF.1.2.1 hF.1.2.2.1 hR.2.1 hF.2.1 hR.2.2.1 hF.2.2 hX.1 hX.2 hB.1 (fun m t n1 n2 mf hS hH _ _ => ?_)
  have key : m = m0 → gr_F s t ∧ gr_T sv K (mi_r J X m0 (f, H)).1 (mi_r J X m0 (f, H)).2 (t.1 96) := by
    intro y
    subst y
    have q := gr_qm mf
    exact ⟨⟨q.1, q.2.1 8 (by unfold rg_p rm_p; omega) (by omega) (by omega), q.2.2⟩, gr_Te e ⟨gr_qL hR.1 hF.1.1 q, hS, hH, gr_me hF.1.1.2.1.2 (fun i i0 i1 => q.2.1 i (by unfold rg_p rm_p; omega) (by omega) (by omega)) hR.2.2.2⟩⟩
  refine ⟨fun q => ?_, fun q q2 => ?_⟩
  · rcases hz with ⟨z1, z2⟩ | ⟨z1, z2, z3⟩
    · have z4 : z = true := lf_bi z2
      subst z4
      have y := key (by omega)
      exact k t y.1 y.2
    · exfalso; omega
  · rcases hz with ⟨z1, z2⟩ | ⟨z1, z2, z3⟩
    · exfalso; omega
    · have z4 : z = false := lf_bi z3
      subst z4
      have y := key (by omega)
      exact k t y.1 y.2
theorem gr_248 {Q : Bool → lf_Z → Prop} (hF : gf_T J f H) (hR : gr_T sv J f H (s.1 96)) 
    {z : Bool} (hT : gt_98 a b J f H K f' H' (lf_b z)) (k : ∀ t : lf_Z, gr_F s t → gr_T sv K f' H' (t.1 96) → Q z t) : fw_248 a b Q s := by
  have g := gr_ob (ok := sd_ok J f a b) (f1 := ds_u1 f (12 + 2 * a + 1) b) (H1 := rr_K (J 1 2, J 1 1, f) H) hF hR hT k
  exact fl_248 hR.1 hF.1.1 hR.2.1 hF.2.1 hR.2.2.1 hF.2.2 g.1 (fun q t m => g.2 q t (gr_qm m))
theorem gr_250 {Q : Bool → lf_Z → Prop} (hb : b = 0 ∨ b = 1) (hF : gf_T J f H) (hR : gr_T sv J f H (s.1 96)) 
    {z : Bool} (hT : gt_100 a b J f H K f' H' (lf_b z)) (k : ∀ t : lf_Z, gr_F s t → gr_T sv K f' H' (t.1 96) → Q z t) : fw_250 a b Q s := by
  have g := gr_ob (ok := gt_ok J f a b) (f1 := gt_f f a) (H1 := rr_K (J 1 2, J 1 1, f) H) hF hR hT k
  have w1 := hF.1.1.2.1
  refine fl_250 hR.1 hF.1.1 hF.1.2.1 hR.2.1 hF.2.1 hR.2.2.1 hF.2.2 hb g.1 (fun q t tc t2 tn => g.2 q t ⟨fun c hc _ _ _ => tc c hc, fun i i0 i1 i2 => tn i (fun y => i0 ?_) i1 i2, by rw [t2]⟩)
  have q1 := q.1
  unfold rg_p rm_p
  omega
theorem gr_253 {Q : Int → lf_Z → Prop} (hF : gf_T J f H) (hR : gr_T sv J f H (s.1 96)) 
    (hT : gt_102 a b J f H K f' H' r) (k : ∀ t : lf_Z, gr_F s t → gr_T sv K f' H' (t.1 96) → Q r t) : fw_253 a b Q s := by
  have g := gr_o (ok := sp_ok f a b) (ro := sg_b f) (rn := -1) (f1 := sp_f f a b) (H1 := rr_K (J 1 2, J 1 1, f) H) hF hR hT k
  exact fl_253 hR.1 hF.1.1 hR.2.1 hF.2.1 hR.2.2.1 hF.2.2 g.1 (fun q t m => g.2 q t (gr_qm m))
theorem gr_282 {Q : Int → lf_Z → Prop} (hF : gf_T J f H) (hR : gr_T sv J f H (s.1 96)) (hX : gx_Xr X T s) (hB : gx_XB X) 
    (hT : gt_105 X a b J f H K f' H' r) (k : ∀ t : lf_Z, gr_F s t → gr_T sv K f' H' (t.1 96) → Q r t) : fw_282 a b Q s := by
  have g := gr_o (ok := dy_ok J a b) (ro := mi_al (dy_r J X b.toNat (dy_s f a)) 12) (rn := -1) (f1 := dy_r J X b.toNat (dy_s f a)) (H1 := rr_K (J 1 2, J 1 1, f) H) hF hR hT k
  exact fl_282 hR.1 hF.1.1 hF.1.2.1 hF.1.2.2.1 hR.2.1 hF.2.1 hR.2.2.1 hF.2.2 hX.1 hX.2 hB.1 g.1 (fun q t tc t2 tn _ h1 h2 => g.2 q t ⟨tc, tn, t2⟩ h1 h2)
theorem gr_238 {Q : Int → lf_Z → Prop} (hF : gf_T J f H) (hR : gr_T sv J f H (s.1 96)) 
    (hT : gt_107 J f H K f' H' r) (k : ∀ t : lf_Z, gr_F s t → gr_T sv K f' H' (t.1 96) → Q r t) : fw_238 Q s := by
  obtain ⟨hL, hS, hH, hM⟩ := hR
  obtain ⟨e, hT⟩ := hT
  have e0 : s.1 96 0 = J 1 0 := hL.1
  have e1 : s.1 96 1 = J 1 1 := hL.2.1
  have e2 : s.1 96 2 = J 1 2 := hL.2.2.1
  refine fl_238 (f := f) (H := H) (tl := J 10) (by rw [e0]; exact hF.1.1.1) (by rw [e1]; exact hF.1.1.2.1) (by rw [e2]; exact hF.1.1.2.2.1) (by rw [e1, e2]; exact hS) (by rw [e0, e1]; exact hF.2.1.2.1) hH.1 hH.2 (fun h hh => ?_) (fun q q0 q1 => (hL.2.2.2.2.2 q q0 (by omega)).2.2.2) (fun y => ?_) (fun h S t y tf tD t9 tH tS => ?_)
  · rw [e0, e1]
    have m := hF.2.2.2 h hh
    exact ⟨m.2.2.1, m.2.1.2⟩
  · rcases hT with ⟨_, rfl, rfl, rfl⟩ | ⟨q', _⟩
    · exact k s gr_Fr (gr_Te e ⟨hL, hS, hH, hM⟩)
    · exact absurd y q'
  · rcases hT with ⟨q', _⟩ | ⟨_, rfl, rfl, rfl⟩
    · exact absurd (by rw [y]; exact List.cons_ne_nil h S) q'
    · subst y
      have tn : ∀ i : Int, ¬ rg_p i → i ≠ 9 → i < 278 → t.1 96 i = s.1 96 i := fun i i0 i1 _ => (lf_up_i i1).symm.trans (tD i (fun y => i0 (by unfold rg_p rm_p; omega)))
      have m : gr_q s t := ⟨fun c hc _ _ _ => tf.1 c hc, tn, by rw [tf.2]⟩
      rw [e1, e2] at tS
      exact k t ⟨m.1, tn 8 (by unfold rg_p rm_p; omega) (by omega) (by omega), m.2.2⟩ (gr_Te e ⟨gr_qL hL hF.1.1 m, tS, ⟨t9, tH⟩, gr_me hF.1.1.2.1.2 (fun i i0 i1 => tn i (by unfold rg_p rm_p; omega) (by omega) (by omega)) hM⟩)
end GR
