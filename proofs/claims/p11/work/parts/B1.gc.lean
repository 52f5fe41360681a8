/-! the calls of the class -/
section GC
variable {J K M : Nat → Int → Int} {s t u : lf_Z} {f f' g A B sv : Int → Int} {H H' : List rr_H} {X : mn_X} {I : Nat → Int → Int} {a b c d r j n1 n2 : Int} {T : Int → Int}
theorem dy_rJ (hW : mn_W J) (hn : J 1 1 ≠ 0) (h : gp_J J f) : ∀ m : Nat, gp_J J (dy_r J X m f) := by
  intro m
  induction m with
  | zero => exact h
  | succ m ih => rw [dy_rS]; exact dy_nJ hW hn ih
theorem gc_ob {ok : Prop} {f1 : Int → Int} {H1 : List rr_H} {Q : Bool → lf_Z → Prop} (hF : gf_T s.1 f H) (hC : gc_T s.1 f H) (hG : ok → gp_J s.1 f1 ∧ mi_H s.1 H1)
    (k : ∀ (z : Bool) (t : lf_Z) (f' : Int → Int) (H' : List rr_H), gq_o ok 1 0 f1 H1 s.1 f H t.1 f' H' (lf_b z) → gf_T t.1 f' H' → gc_T t.1 f' H' → gc_F s t → Q z t) : (¬ ok → Q false s) ∧ (ok → ∀ t : lf_Z, mc_f s t → rc_S t.1 f1 → rc_H t.1 H1 → Q true t) := by
  have g := gc_o (Q := fun r t => ∀ z : Bool, r = lf_b z → Q z t) (ro := 1) (rn := 0) hF hC hG (fun r t f' H' h1 h2 h3 h4 z e => k z t f' H' (e ▸ h1) h2 h3 h4)
  exact ⟨fun q => g.1 q false rfl, fun q t m h1 h2 => g.2 q t m h1 h2 true rfl⟩
theorem gc_14 {Q : Int → lf_Z → Prop} (hF : gf_T s.1 f H) (hC : gc_T s.1 f H)
    (k : ∀ (r : Int) (t : lf_Z) (f' : Int → Int) (H' : List rr_H), gt_14 a b s.1 f H t.1 f' H' r → gf_T t.1 f' H' → gc_T t.1 f' H' → gc_F s t → Q r t) : fw_14 a b Q s := by
  refine fl_14 (fun q => k (-1) s f H (Or.inl ⟨q, gj_r, rfl, rfl, rfl⟩) hF hC gc_Fr) (fun q => ?_)
  have hR : st_R s.1 (lf_up (lf_up (lf_up s.1 2 (s.1 1 0) a) 3 (s.1 1 0) b) 1 0 (s.1 1 0 + 1)) a b := by
    refine ⟨fun q q1 q2 q3 => (lf_up_row q1).trans ((lf_up_row q3).trans (lf_up_row q2)), ⟨lf_up_s, (lf_up_i (by decide)).trans ((lf_up_c (by decide)).trans (lf_up_c (by decide))), (lf_up_i (by decide)).trans ((lf_up_c (by decide)).trans (lf_up_c (by decide)))⟩, fun q => ⟨?_, ?_⟩⟩
    · refine (lf_up_c (by decide)).trans ((lf_up_c (by decide)).trans ?_)
      by_cases e : q = s.1 1 0
      · rw [e, if_pos rfl]; exact lf_up_s
      · rw [if_neg e]; exact lf_up_i e
    · refine (lf_up_c (by decide)).trans ?_
      by_cases e : q = s.1 1 0
      · rw [e, if_pos rfl]; exact lf_up_s
      · rw [if_neg e]; exact (lf_up_i e).trans (lf_up_c (by decide))
  exact k (s.1 1 0) _ f H (Or.inr ⟨q, hR, rfl, rfl, rfl⟩) (st_F hF q hR) (gc_Te (fun c c0 c1 => hR.1 c (by omega) (by omega) (by omega)) hC) ⟨fun c hc => hR.1 c (by omega) (by omega) (by omega), rfl⟩
theorem gc_17 {Q : Int → lf_Z → Prop} (hF : gf_T s.1 f H) (hC : gc_T s.1 f H)
    (k : ∀ (r : Int) (t : lf_Z) (f' : Int → Int) (H' : List rr_H), gt_17 a b c s.1 f H t.1 f' H' r → gf_T t.1 f' H' → gc_T t.1 f' H' → gc_F s t → Q r t) : fw_17 a b c Q s := by
  refine fl_17 hF.1.1 (fun q => k (-1) s f H (Or.inl ⟨q, gj_r, rfl, rfl, rfl⟩) hF hC gc_Fr) (fun q hc t hR t2 => ?_)
  have e : ∀ x : Nat, (x = 0 ∨ 13 < x) → t.1 x = s.1 x := fun x h => hR.1 x (by omega) (by omega) (by omega) (by omega) (by omega) (by omega) (by omega)
  exact k _ t f H (Or.inr ⟨q, hR, rfl, rfl, rfl⟩) (wy_F hF q hc hR) (gc_Te (fun x x0 x1 => e x (by omega)) hC) ⟨fun x hx => e x (by omega), t2⟩
theorem gc_23 {Q : Int → lf_Z → Prop} (hF : gf_T s.1 f H) (hC : gc_T s.1 f H)
    (k : ∀ (r : Int) (t : lf_Z) (f' : Int → Int) (H' : List rr_H), gt_23 a b c d s.1 f H t.1 f' H' r → gf_T t.1 f' H' → gc_T t.1 f' H' → gc_F s t → Q r t) : fw_23 a b c d Q s := by
  refine fl_23 hF.1.1.2.2.1 (fun q => k (-1) s f H (Or.inl ⟨q, gj_r, rfl, rfl, rfl⟩) hF hC gc_Fr) (fun q hb hc t hR t2 => ?_)
  have e : ∀ x : Nat, (x = 0 ∨ (10 < x ∧ x ≠ 19 ∧ x ≠ 20)) → t.1 x = s.1 x := fun x h => hR.1 x (by omega) (by omega) (by omega) (by omega) (by omega) (by omega) (by omega)
  refine k _ t (pn_f f (s.1 1 2) d) H (Or.inr ⟨q, hR, rfl, rfl, rfl⟩) (pn_F hF q hb hc hR) ⟨pn_C hC.1 hF.1.1.2.2.1.1 q.2.2 hR, ?_⟩ ⟨fun x hx => e x (by omega), t2⟩
  have h2 := hC.2
  unfold rc_H at h2 ⊢
  rw [e 22 (by decide), e 23 (by decide), e 24 (by decide)]
  exact h2
theorem gc_63 {Q : Int → lf_Z → Prop} (hF : gf_T s.1 f H) (hC : gc_T s.1 f H)
    (k : ∀ (r : Int) (t : lf_Z) (f' : Int → Int) (H' : List rr_H), gt_63 a b s.1 f H t.1 f' H' r → gf_T t.1 f' H' → gc_T t.1 f' H' → gc_F s t → Q r t) : fw_63 a b Q s := by
  have g := gc_o (ok := sy_ok s.1 f a b) (ro := sg_b f) (rn := -1) (f1 := rm_b f (sg_b f) a b (-1)) (H1 := rr_K (s.1 1 2, s.1 1 1, f) H) hF hC (fun q => ⟨sy_J hF.1.1 hF.2.1 q, mi_K hF.1.1 hF.2.1 hF.2.2⟩) k
  exact fl_63 (J := s.1) (fun _ _ => rfl) hC.1 hF.2.1 hC.2 g.1 g.2
theorem gc_70 {Q : Int → lf_Z → Prop} (hF : gf_T s.1 f H) (hC : gc_T s.1 f H) (hX : gx_Xc X I s) (hB : gx_XB X) 
    (k : ∀ (r : Int) (t : lf_Z) (f' : Int → Int) (H' : List rr_H), gt_70 X a s.1 f H t.1 f' H' r → gf_T t.1 f' H' → gc_T t.1 f' H' → gc_F s t → Q r t) : fw_70 a Q s := by
  have g := gc_o (ok := mi_ok f a) (ro := mi_al (mi_r s.1 X a.toNat (f, H)).1 12) (rn := -1) (f1 := (mi_r s.1 X a.toNat (f, H)).1) (H1 := (mi_r s.1 X a.toNat (f, H)).2) hF hC (fun q => by
    have m := mi_rJ (X := X) hF.1.1 hF.2.1 hF.2.2 a.toNat (by have q1 := q.1; have q2 := q.2.2; omega)
    exact ⟨m.1, m.2.1⟩) k
  exact fl_70 (J := s.1) (fun _ _ => rfl) hF.1.1 hF.1.2.1 hF.1.2.2.1 hC.1 hF.2.1 hC.2 hX.1 hB.2 hB.1 hX.2 g.1 (fun q t m h1 h2 _ => g.2 q t m h1 h2)
theorem gc_71 {Q : Bool → lf_Z → Prop} (hF : gf_T s.1 f H) (hC : gc_T s.1 f H) (hX : gx_Xc X I s) (hB : gx_XB X) 
    (k : ∀ (z : Bool) (t : lf_Z) (f' : Int → Int) (H' : List rr_H), gt_71 X a s.1 f H t.1 f' H' (lf_b z) → gf_T t.1 f' H' → gc_T t.1 f' H' → gc_F s t → Q z t) : fw_71 a Q s := by
  refine fl_71 (J := s.1) (fun _ _ => rfl) hF.1.1 hF.1.2.1 hF.1.2.2.1 hC.1 hF.2.1 hC.2 hX.1 hB.2 hB.1 hX.2 (fun m t m1 m2 mf hS hH hG => ?_)
  have e : gj_e s.1 t.1 := fun c c0 c1 => mf.1 c (Or.inl (by omega))
  have g := mi_rJ (X := X) hF.1.1 hF.2.1 hF.2.2 m m2
  have w : gc_F s t := ⟨fun c hc => mf.1 c (by omega), mf.2.2.2⟩
  have y := gf_Te e ⟨hF.1, g.1, g.2.1⟩
  exact ⟨fun q => k true t _ _ ⟨e, m, m1, m2, rfl, rfl, Or.inl ⟨q, rfl⟩⟩ y ⟨hS, hH⟩ w, fun q q2 => k false t _ _ ⟨e, m, m1, m2, rfl, rfl, Or.inr ⟨q, q2, rfl⟩⟩ y ⟨hS, hH⟩ w⟩
theorem gc_98 {Q : Bool → lf_Z → Prop} (hF : gf_T s.1 f H) (hC : gc_T s.1 f H)
    (k : ∀ (z : Bool) (t : lf_Z) (f' : Int → Int) (H' : List rr_H), gt_98 a b s.1 f H t.1 f' H' (lf_b z) → gf_T t.1 f' H' → gc_T t.1 f' H' → gc_F s t → Q z t) : fw_98 a b Q s := by
  have g := gc_ob (ok := sd_ok s.1 f a b) (f1 := ds_u1 f (12 + 2 * a + 1) b) (H1 := rr_K (s.1 1 2, s.1 1 1, f) H) hF hC (fun q => ⟨sd_J hF.1.1 hF.2.1 q, mi_K hF.1.1 hF.2.1 hF.2.2⟩) k
  exact fl_98 (J := s.1) (fun _ _ => rfl) hF.1.1 hC.1 hC.2 g.1 g.2
theorem gc_100 {Q : Bool → lf_Z → Prop} (hF : gf_T s.1 f H) (hC : gc_T s.1 f H)
    (k : ∀ (z : Bool) (t : lf_Z) (f' : Int → Int) (H' : List rr_H), gt_100 a b s.1 f H t.1 f' H' (lf_b z) → gf_T t.1 f' H' → gc_T t.1 f' H' → gc_F s t → Q z t) : fw_100 a b Q s := by
  have g := gc_ob (ok := gt_ok s.1 f a b) (f1 := gt_f f a) (H1 := rr_K (s.1 1 2, s.1 1 1, f) H) hF hC (fun q => ⟨gt_J hF.1.1 hF.2.1 q, mi_K hF.1.1 hF.2.1 hF.2.2⟩) k
  exact fl_100 (J := s.1) (fun _ _ => rfl) hF.1.1 hC.1 hC.2 g.1 g.2
theorem gc_102 {Q : Int → lf_Z → Prop} (hF : gf_T s.1 f H) (hC : gc_T s.1 f H)
    (k : ∀ (r : Int) (t : lf_Z) (f' : Int → Int) (H' : List rr_H), gt_102 a b s.1 f H t.1 f' H' r → gf_T t.1 f' H' → gc_T t.1 f' H' → gc_F s t → Q r t) : fw_102 a b Q s := by
  have g := gc_o (ok := sp_ok f a b) (ro := sg_b f) (rn := -1) (f1 := sp_f f a b) (H1 := rr_K (s.1 1 2, s.1 1 1, f) H) hF hC (fun q => ⟨sp_J hF.1.1 hF.2.1 q, mi_K hF.1.1 hF.2.1 hF.2.2⟩) k
  exact fl_102 (J := s.1) (fun _ _ => rfl) hC.1 hF.2.1 hC.2 g.1 g.2
theorem gc_105 {Q : Int → lf_Z → Prop} (hF : gf_T s.1 f H) (hC : gc_T s.1 f H) (hX : gx_Xc X I s) (hB : gx_XB X) 
    (k : ∀ (r : Int) (t : lf_Z) (f' : Int → Int) (H' : List rr_H), gt_105 X a b s.1 f H t.1 f' H' r → gf_T t.1 f' H' → gc_T t.1 f' H' → gc_F s t → Q r t) : fw_105 a b Q s := by
  have hP : dy_ok s.1 a b → gp_J s.1 (dy_r s.1 X b.toNat (dy_s f a)) := fun q => dy_rJ hF.1.1 q.2.2 (gp_J38 hF.1.1 hF.2.1 (by have q1 := q.1; omega)) _
  have g := gc_o (ok := dy_ok s.1 a b) (ro := mi_al (dy_r s.1 X b.toNat (dy_s f a)) 12) (rn := -1) (f1 := dy_r s.1 X b.toNat (dy_s f a)) (H1 := rr_K (s.1 1 2, s.1 1 1, f) H) hF hC (fun q => ⟨hP q, mi_K hF.1.1 hF.2.1 hF.2.2⟩) k
  exact fl_105 (J := s.1) (fun _ _ => rfl) hF.1.1 hF.1.2.1 hF.1.2.2.1 hC.1 hF.2.1 hC.2 hX.1 hB.2 hB.1 hX.2 g.1 (fun q t m h1 h2 _ => g.2 q t m h1 h2)
theorem gc_107 {Q : Int → lf_Z → Prop} (hF : gf_T s.1 f H) (hC : gc_T s.1 f H)
    (k : ∀ (r : Int) (t : lf_Z) (f' : Int → Int) (H' : List rr_H), gt_107 s.1 f H t.1 f' H' r → gf_T t.1 f' H' → gc_T t.1 f' H' → gc_F s t → Q r t) : fw_107 Q s := by
  refine fl_107 hC.2 hF.1.1.2.2.1 (fun h hh => (hF.2.2.2 h hh).1) (fun e => k (-1) s f H ⟨gj_r, Or.inl ⟨fun q => q e, rfl, rfl, rfl⟩⟩ hF hC gc_Fr) (fun h T t e lo hi t2 hS hH => ?_)
  subst e
  have g : gj_e s.1 t.1 := fun c c0 c1 => lo c (by omega)
  have uj := un_J hF (List.cons_ne_nil h T)
  refine k T.length t _ T ⟨g, Or.inr ⟨List.cons_ne_nil h T, rfl, rfl, rfl⟩⟩ (gf_Te g ⟨hF.1, uj.1, uj.2⟩) ⟨hS, hH⟩ ⟨fun c hc => ?_, t2⟩
  by_cases y : c < 15
  · exact lo c y
  · exact hi c (by omega)
end GC
