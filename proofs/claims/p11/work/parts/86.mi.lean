/-! minutes: both sides -/
section MI
variable {J K : Nat → Int → Int} {s t u : lf_Z} {f g T A B : Int → Int} {X : mn_X} {I : Nat → Int → Int} {a b p x j : Int} {H : List rr_H}
theorem mk_pp (hj : 24 ≤ j) : ∀ (k : Nat) (p : Int) (f : Int → Int), 0 ≤ p → p + k ≤ 6 → mn_pp J k p f j = f j := by
  intro k
  induction k with
  | zero => intro p f _ _; rfl
  | succ k ih =>
    intro p f p0 p1
    show mn_pp J k (p + 1) (if J 8 p = 0 then mn_go J p f else mn_go J p (mn_go J p f)) j = f j
    rw [ih (p + 1) _ (by omega) (by omega)]
    split
    · exact mn_go_o (by omega)
    · exact (mn_go_o (by omega)).trans (mn_go_o (by omega))
theorem mk_rp (hW : mn_W J) (hj : 24 ≤ j) (h38 : j ≠ 38) (b0 : 0 ≤ b) (b1 : b < 4) : ∀ (k : Nat) (f : Int → Int), gp_I J f → 0 < f (3 * b) → mn_rp (mn_m1 J X b) k f j = f j := by
  intro k
  induction k with
  | zero => intro f _ _; rfl
  | succ k ih =>
    intro f h hz
    have r := gp_m1 (X := X) hW h b0 b1 hz
    show mn_rp (mn_m1 J X b) k (mn_m1 J X b f) j = f j
    rw [ih _ r.1 (by rw [r.2 (3 * b) (by omega) (by omega) (by omega)]; exact hz)]
    exact r.2 j h38 (by omega) (by omega)
theorem mk_bb (hW : mn_W J) (hj : 24 ≤ j) (h38 : j ≠ 38) : ∀ (k : Nat) (b : Int) (f : Int → Int), gp_I J f → 0 ≤ b → b + k ≤ 4 → mn_bb J X k b f j = f j := by
  intro k
  induction k with
  | zero => intro b f _ _ _; rfl
  | succ k ih =>
    intro b f h b0 b1
    have h1 := gp_bb (X := X) hW 1 b f h b0 (by omega)
    have h1 : gp_I J (if f (3 * b) ≤ 0 then f else mn_rp (mn_m1 J X b) (X.1 (mn_np J f b)).toNat f) := h1
    show mn_bb J X k (b + 1) (if f (3 * b) ≤ 0 then f else mn_rp (mn_m1 J X b) (X.1 (mn_np J f b)).toNat f) j = f j
    rw [ih (b + 1) _ h1 (by omega) (by omega)]
    by_cases c : f (3 * b) ≤ 0
    · rw [if_pos c]
    · rw [if_neg c]
      exact mk_rp hW hj h38 b0 (by omega) _ f h (by omega)
theorem mk_hb (hW : mn_W J) (hj : 24 + J 1 0 ≤ j) : ∀ (k : Nat) (b : Int) (f : Int → Int), gp_I J f → 0 ≤ b → b + k ≤ 4 → mn_hb J k b f j = f j := by
  intro k
  induction k with
  | zero => intro b f _ _ _; rfl
  | succ k ih =>
    intro b f h b0 b1
    have h1 := gp_hb hW 1 b f h b0 (by omega)
    have h1 : gp_I J (if f (3 * b) ≤ 0 then f else ds_u1 f (24 + f (3 * b + 1)) (lf_w (f (24 + f (3 * b + 1)) + f (3 * b) * J 3 (f (3 * b + 1))))) := h1
    show mn_hb J k (b + 1) (if f (3 * b) ≤ 0 then f else ds_u1 f (24 + f (3 * b + 1)) (lf_w (f (24 + f (3 * b + 1)) + f (3 * b) * J 3 (f (3 * b + 1))))) j = f j
    rw [ih (b + 1) _ h1 (by omega) (by omega)]
    by_cases c : f (3 * b) ≤ 0
    · rw [if_pos c]
    · rw [if_neg c]
      have a := gp_at h b0 (by omega) (by omega)
      exact if_neg (by omega)
theorem mk_j1 {c : Int} (hj : 24 ≤ j) (b0 : 0 ≤ b) (bc : b < c) (c4 : c < 4) : mn_j1 b c f j = f j := (if_neg (by omega)).trans ((if_neg (by omega)).trans ((if_neg (by omega)).trans (if_neg (by omega))))
theorem mk_jc (hj : 24 ≤ j) (b0 : 0 ≤ b) : ∀ (k : Nat) (c : Int) (f : Int → Int), b < c → c + k ≤ 4 → mn_jc b k c f j = f j := by
  intro k
  induction k with
  | zero => intro c f _ _; rfl
  | succ k ih =>
    intro c f hc c1
    show mn_jc b k (c + 1) (if f (3 * b) ≤ 0 ∨ f (3 * c) ≤ 0 ∨ f (3 * c + 1) ≠ f (3 * b + 1) then f else mn_j1 b c f) j = f j
    rw [ih (c + 1) _ (by omega) (by omega)]
    split
    · rfl
    · exact mk_j1 hj b0 hc (by omega)
theorem mk_jb (hj : 24 ≤ j) : ∀ (k : Nat) (b : Int) (f : Int → Int), 0 ≤ b → b + k ≤ 4 → mn_jb k b f j = f j := by
  intro k
  induction k with
  | zero => intro b f _ _; rfl
  | succ k ih =>
    intro b f b0 b1
    show mn_jb k (b + 1) (mn_jc b (3 - b).toNat (b + 1) f) j = f j
    rw [ih (b + 1) _ (by omega) (by omega), mk_jc hj b0 _ _ _ (by omega) (by omega)]
theorem mk_in (hW : mn_W J) (h : gp_I J f) (hj : 24 + J 1 0 ≤ j) (h38 : j ≠ 38) : mn_jb 4 0 (mn_hb J 4 0 (mn_bb J X 4 0 (mn_pp J (J 1 2).toNat 0 f))) j = f j := by
  have w0 := hW.1
  have w2 := hW.2.2.1
  have i1 := gp_pp hW (J 1 2).toNat 0 f h (Int.le_refl 0) (by omega)
  have i2 := gp_bb (X := X) hW 4 0 _ i1 (Int.le_refl 0) (by decide)
  rw [mk_jb (by omega) 4 0 _ (Int.le_refl 0) (by decide), mk_hb hW hj 4 0 _ i2 (Int.le_refl 0) (by decide), mk_bb hW (by omega) h38 4 0 _ i1 (Int.le_refl 0) (by decide), mk_pp (by omega) _ 0 _ (Int.le_refl 0) (by omega)]
theorem mk_min (hW : mn_W J) (h : gp_I J f) (hj : 24 + J 1 0 ≤ j) (h37 : j ≠ 37) (h38 : j ≠ 38) : mn_min J X f j = f j := (if_neg h37).trans (mk_in hW h hj h38)
theorem mk_37 (hW : mn_W J) (h : gp_I J f) : mn_min J X f 37 = lf_w (f 37 + 1) := by
  have w0 := hW.1
  have e : mn_min J X f 37 = lf_w (mn_jb 4 0 (mn_hb J 4 0 (mn_bb J X 4 0 (mn_pp J (J 1 2).toNat 0 f))) 37 + 1) := by unfold mn_min; dsimp only [ds_u1]; rw [if_pos rfl]
  rw [e, mk_in hW h (by omega) (by decide)]
/-- all that is true of a stand -/
def gp_J (J : Nat → Int → Int) (f : Int → Int) : Prop := gp_I J f ∧ rr_W (J 1 0) (J 1 1) f ∧ 0 ≤ f 37 ∧ f 37 ≤ 999
theorem gp_Jm (hW : mn_W J) (h : gp_J J f) (h9 : f 37 < 999) : gp_J J (mn_min J X f) ∧ mn_min J X f 37 = f 37 + 1 := by
  have w0 := hW.1
  obtain ⟨h1, h2, h3⟩ := h
  have e : mn_min J X f 37 = f 37 + 1 := by rw [mk_37 hW h1, tr_w (by omega)]
  refine ⟨⟨gp_min hW h1, ⟨fun q q0 q1 => ?_, fun w x0 x1 => ?_⟩, by omega, by omega⟩, e⟩
  · rw [mk_min hW h1 (by omega) (by omega) (by omega)]; exact h2.1 q q0 q1
  · rw [mk_min hW h1 (by omega) (by decide) (by decide)]; exact h2.2 w x0 x1
/-- all that is true of the steps -/
def mi_h (J : Nat → Int → Int) (h : rr_H) : Prop := (0 ≤ h.1 ∧ h.1 ≤ J 1 2) ∧ (0 ≤ h.2.1 ∧ h.2.1 ≤ J 1 1) ∧ rr_W (J 1 0) h.2.1 h.2.2 ∧ gp_I (lf_up J 1 2 h.1) h.2.2 ∧ 0 ≤ h.2.2 37 ∧ h.2.2 37 ≤ 999
def mi_H (J : Nat → Int → Int) (H : List rr_H) : Prop := H.length ≤ 30 ∧ ∀ h ∈ H, mi_h J h
theorem gp_Iu (h : gp_I J f) (e0 : K 1 0 = J 1 0) (e2 : K 1 2 = J 1 2) : gp_I K f := by
  unfold gp_I gc_P gp_b at h ⊢
  rw [e0, e2]; exact h
theorem mi_K (hW : mn_W J) (h : gp_J J f) (hH : mi_H J H) : mi_H J (rr_K (J 1 2, J 1 1, f) H) := by
  have w1 := hW.2.1
  have w2 := hW.2.2.1
  have new : mi_h J (J 1 2, J 1 1, f) := ⟨⟨w2.1, Int.le_refl _⟩, ⟨w1.1, Int.le_refl _⟩, h.2.1, gp_Iu h.1 (lf_up_i (by decide)) lf_up_s, h.2.2⟩
  unfold rr_K
  by_cases c : H.length = 30
  · rw [if_pos c]
    refine ⟨by rw [List.length_cons, List.length_dropLast, c]; decide, fun g hg => ?_⟩
    rcases List.mem_cons.mp hg with e | e
    · rw [e]; exact new
    · exact hH.2 g (List.dropLast_subset _ e)
  · rw [if_neg c]
    have := hH.1
    refine ⟨by rw [List.length_cons]; omega, fun g hg => ?_⟩
    rcases List.mem_cons.mp hg with e | e
    · rw [e]; exact new
    · exact hH.2 g e
/-- so many minutes -/
abbrev mi_T : Type := (Int → Int) × List rr_H
def mi_r (J : Nat → Int → Int) (X : mn_X) : Nat → mi_T → mi_T
  | 0, z => z
  | k + 1, z => mi_r J X k (mn_min J X z.1, rr_K (J 1 2, J 1 1, z.1) z.2)
/-- the class: stand, ring and the laws' scratch alone -/
def mc_f (s t : lf_Z) : Prop := (∀ c : Nat, c < 15 ∨ (24 < c ∧ (c < 63 ∨ 66 < c)) → t.1 c = s.1 c) ∧ (∀ i : Int, i ≠ 6 → i ≠ 7 → i ≠ 8 → t.1 15 i = s.1 15 i) ∧ (∀ i : Int, i ≠ 2 → i ≠ 3 → t.1 22 i = s.1 22 i) ∧ t.2 = s.2
theorem mc_fr : mc_f s s := ⟨fun _ _ => rfl, fun _ _ _ _ => rfl, fun _ _ _ => rfl, rfl⟩
theorem mc_ft (h : mc_f s t) (g : mc_f t u) : mc_f s u := ⟨fun c hc => (g.1 c hc).trans (h.1 c hc), fun i a b c => (g.2.1 i a b c).trans (h.2.1 i a b c), fun i a b => (g.2.2.1 i a b).trans (h.2.2.1 i a b), g.2.2.2.trans h.2.2.2⟩
theorem mc_v (h : mv_f s t) : mc_f s t := ⟨fun c hc => h.1 c (by omega), h.2.1, fun i _ _ => by rw [h.1 22 (by omega)], h.2.2⟩
theorem mc_g (h : rc_g s t) : mc_f s t := mc_v (mv_g h)
theorem mc_k (h : rc_f s t) : mc_f s t := ⟨fun c hc => h.1 c (by omega) (by omega) (by omega), fun i _ _ _ => by rw [h.1 15 (by decide) (by decide) (by decide)], h.2.1, h.2.2⟩
theorem gc_Jc (h : gc_J J s) (g : mc_f s t) : gc_J J t := fun c hc => (g.1 c (Or.inl (by omega))).trans (h c hc)
theorem rc_Sf (h : rc_S s.1 f) (g : rc_f s t) : rc_S t.1 f := by
  unfold rc_S at h ⊢
  rw [g.1 15 (by decide) (by decide) (by decide), g.1 16 (by decide) (by decide) (by decide), g.1 17 (by decide) (by decide) (by decide), g.1 18 (by decide) (by decide) (by decide), g.1 19 (by decide) (by decide) (by decide), g.1 20 (by decide) (by decide) (by decide), g.1 21 (by decide) (by decide) (by decide)]
  exact h
theorem rc_Hv (h : rc_H s.1 H) (g : mv_f s t) : rc_H t.1 H := by
  unfold rc_H at h ⊢
  rw [g.1 22 (by omega), g.1 23 (by omega), g.1 24 (by omega)]
  exact h
/-- minutes of the class -/
theorem fl_71 {Q : Bool → lf_Z → Prop} (hJ : gc_J J s) (hW : mn_W J) (hB : mn_B J) (hV : mn_V J) (hS : rc_S s.1 f) (hG : gp_J J f) (hH : rc_H s.1 H) (hX : xc_X X I s.2.2) (hXB : ∀ N, 0 ≤ X.2 N ∧ X.2 N ≤ 10) (hX1 : ∀ N, 0 ≤ X.1 N ∧ X.1 N ≤ 2) (hI : ∀ c : Nat, 35 ≤ c → c < 63 → s.1 c = I c)
    (k : ∀ (m : Nat) (t : lf_Z), (m : Int) ≤ max 0 a → (f 37 + m ≤ 999) → mc_f s t → rc_S t.1 (mi_r J X m (f, H)).1 → rc_H t.1 (mi_r J X m (f, H)).2 → gp_J J (mi_r J X m (f, H)).1 → ((m : Int) = max 0 a → Q true t) ∧ ((m : Int) < a → f 37 + m = 999 → Q false t)) : fw_71 a Q s := by
  unfold fw_71
  have go : ∀ (m : Nat) (z : mi_T), mi_r J X (m + 1) z = (mn_min J X (mi_r J X m z).1, rr_K (J 1 2, J 1 1, (mi_r J X m z).1) (mi_r J X m z).2) := by
    intro m
    induction m with
    | zero => intro z; rfl
    | succ m ih => intro z; exact ih (mn_min J X z.1, rr_K (J 1 2, J 1 1, z.1) z.2)
  refine ⟨fun i u => ∃ m : Nat, i = m ∧ (m : Int) ≤ max 0 a ∧ f 37 + m ≤ 999 ∧ mc_f s u ∧ rc_S u.1 (mi_r J X m (f, H)).1 ∧ rc_H u.1 (mi_r J X m (f, H)).2 ∧ gp_J J (mi_r J X m (f, H)).1 ∧ (mi_r J X m (f, H)).1 37 = f 37 + m, ?_, ⟨0, rfl, by omega, by have := hG.2.2.2; omega, mc_fr, hS, hH, hG, (Int.add_zero _).symm⟩⟩
  intro i u ⟨m, ei, m1, m9, uf, uS, uH, uG, u37⟩
  subst ei
  have K := k m u m1 m9 uf uS uH uG
  have uJ := gc_Jc hJ uf
  unfold fw_71_p2
  intro _ _
  refine ⟨fun c => K.1 (by omega), fun c _ => ?_⟩
  rw [uS.2.2.2.2.1, u37]
  refine ⟨fun d => ?_, fun d => K.2 (by omega) (by omega)⟩
  rw [uJ 1 (by omega)]
  refine fl_67 (w := J 1 1) uS uH (fun t tf tH => ?_)
  have tF := mc_ft uf (mc_k tf)
  have tS := rc_Sf uS tf
  refine fl_72 (I := I) (gc_Jc hJ tF) hW hB hV tS uG.1 (by rw [tF.2.2.2]; exact hX) hXB hX1 (fun c x y => (tF.1 c (by omega)).trans (hI c x y)) (fun y yf yS => ?_)
  have r := gp_Jm (X := X) hW uG (by omega)
  refine ⟨m + 1, by omega, by omega, by omega, mc_ft tF (mc_v yf), ?_, ?_, ?_, ?_⟩
  · rw [go]; exact yS
  · rw [go]; exact rc_Hv tH yf
  · rw [go]; exact r.1
  · rw [go]
    show mn_min J X (mi_r J X m (f, H)).1 37 = _
    rw [r.2, u37]; omega
end MI
