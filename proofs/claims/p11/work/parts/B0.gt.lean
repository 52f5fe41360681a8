/-! land, stand and steps together: what every call that changes them does, as a relation of both sides -/
section GT
variable {J K M : Nat → Int → Int} {s t u : lf_Z} {f f' g A B sv : Int → Int} {H H' : List rr_H} {X : mn_X} {I : Nat → Int → Int} {a b c d r j n1 n2 : Int} {T : Int → Int}
/-- the land is the same -/
def gj_e (J K : Nat → Int → Int) : Prop := ∀ c : Nat, 1 ≤ c → c < 14 → K c = J c
theorem gj_r : gj_e J J := fun _ _ _ => rfl
theorem gj_t (h : gj_e J K) (k : gj_e K M) : gj_e J M := fun c a b => (k c a b).trans (h c a b)
theorem gj_s (h : gj_e J K) : gj_e K J := fun c a b => (h c a b).symm
/-- what is true of the land -/
def gj_F (J : Nat → Int → Int) : Prop := mn_W J ∧ mn_B J ∧ mn_V J ∧ ∀ q : Int, 0 ≤ q → q < J 1 2 → 0 ≤ J 10 q ∧ J 10 q < J 1 0
theorem gj_Fe (e : gj_e J K) (h : gj_F J) : gj_F K := by
  obtain ⟨hW, ⟨hB1, hB2⟩, hV, hT⟩ := h
  have e1 : K 1 = J 1 := e 1 (by decide) (by decide)
  refine ⟨mn_Wr hW (e 4 (by decide) (by decide)) (e 5 (by decide) (by decide)) (e 11 (by decide) (by decide)) (e 12 (by decide) (by decide)) (e 13 (by decide) (by decide)) (by rw [e1]) (by rw [e1]) (by rw [e1]; exact hW.2.2.1), ⟨fun w => ?_, fun q => ?_⟩, fun q => ?_, fun q => ?_⟩
  · rw [e 6 (by decide) (by decide)]; exact hB1 w
  · rw [e 8 (by decide) (by decide), e 9 (by decide) (by decide)]; exact hB2 q
  · rw [e 7 (by decide) (by decide), e 2 (by decide) (by decide)]; exact hV q
  · rw [e1, e 10 (by decide) (by decide)]; exact hT q
theorem gj_L (e : gj_e J K) (h : rr_L J A) : rr_L K A := by
  unfold rr_L at h ⊢
  rw [e 1 (by decide) (by decide), e 2 (by decide) (by decide), e 3 (by decide) (by decide), e 4 (by decide) (by decide), e 5 (by decide) (by decide), e 6 (by decide) (by decide), e 7 (by decide) (by decide), e 8 (by decide) (by decide), e 9 (by decide) (by decide), e 10 (by decide) (by decide)]
  exact h
theorem gj_P (e1 : K 1 = J 1) (h : gp_J J f) : gp_J K f := by
  obtain ⟨h1, h2, h3⟩ := h
  exact ⟨gp_Iu h1 (by rw [e1]) (by rw [e1]), by rw [e1]; exact h2, h3⟩
theorem gj_H (e1 : K 1 = J 1) (h : mi_H J H) : mi_H K H := mi_Hg h (by rw [e1]; exact Int.le_refl _) (by rw [e1]; exact Int.le_refl _) (by rw [e1]; exact Int.le_refl _)
def gf_T (J : Nat → Int → Int) (f : Int → Int) (H : List rr_H) : Prop := gj_F J ∧ gp_J J f ∧ mi_H J H
theorem gf_Te (e : gj_e J K) (h : gf_T J f H) : gf_T K f H := ⟨gj_Fe e h.1, gj_P (e 1 (by decide) (by decide)) h.2.1, gj_H (e 1 (by decide) (by decide)) h.2.2⟩
/-- the class holds stand and steps -/
def gc_T (I : Nat → Int → Int) (f : Int → Int) (H : List rr_H) : Prop := rc_S I f ∧ rc_H I H
theorem gc_Te (e : ∀ c : Nat, 15 ≤ c → c < 25 → K c = J c) (h : gc_T J f H) : gc_T K f H := by
  unfold gc_T rc_S rc_H at *
  rw [e 15 (by decide) (by decide), e 16 (by decide) (by decide), e 17 (by decide) (by decide), e 18 (by decide) (by decide), e 19 (by decide) (by decide), e 20 (by decide) (by decide), e 21 (by decide) (by decide), e 22 (by decide) (by decide), e 23 (by decide) (by decide), e 24 (by decide) (by decide)]
  exact h
/-- mending: sv what is saved, as the class keeps it -/
def gr_1 (sv A : Int → Int) (w : Int) : Prop := (A (174 + 5 * w) = 0 ∧ sv w = -10000) ∨ (A (174 + 5 * w) = 1 ∧ (0 ≤ A (174 + 5 * w + 1) ∧ A (174 + 5 * w + 1) ≤ 10) ∧ (0 ≤ A (174 + 5 * w + 2) ∧ A (174 + 5 * w + 2) ≤ 999) ∧ (0 ≤ A (174 + 5 * w + 3) ∧ A (174 + 5 * w + 3) ≤ 999) ∧ (1 ≤ A (174 + 5 * w + 4) ∧ A (174 + 5 * w + 4) ≤ 99) ∧ sv w = (A (174 + 5 * w + 3) * A (174 + 5 * w + 1) * A (174 + 5 * w + 4)).tdiv 10 - A (174 + 5 * w + 2))
def gr_m (n1 : Int) (sv A : Int → Int) : Prop := (∀ w : Int, 0 ≤ w → w < n1 → gr_1 sv A w) ∧ ∀ w : Int, n1 ≤ w → w < 16 → sv w = -10000
theorem gr_1e (e : ∀ i : Int, 174 + 5 * j ≤ i → i ≤ 174 + 5 * j + 4 → B i = A i) (h : gr_1 sv A j) : gr_1 sv B j := by
  unfold gr_1 at *
  rw [e (174 + 5 * j) (by omega) (by omega), e (174 + 5 * j + 1) (by omega) (by omega), e (174 + 5 * j + 2) (by omega) (by omega), e (174 + 5 * j + 3) (by omega) (by omega), e (174 + 5 * j + 4) (by omega) (by omega)]
  exact h
theorem gr_me (h16 : n1 ≤ 16) (e : ∀ i : Int, 174 ≤ i → i < 254 → B i = A i) (h : gr_m n1 sv A) : gr_m n1 sv B := ⟨fun w w0 w1 => gr_1e (fun i i0 i1 => e i (by omega) (by omega)) (h.1 w w0 w1), h.2⟩
/-- the reference holds land, stand, steps, mending -/
def gr_T (sv : Int → Int) (J : Nat → Int → Int) (f : Int → Int) (H : List rr_H) (A : Int → Int) : Prop := rr_L J A ∧ rr_S (J 1 1) (J 1 2) f A ∧ rh_H A H ∧ gr_m (J 1 1) sv A
theorem gr_Te (e : gj_e J K) (h : gr_T sv J f H A) : gr_T sv K f H A := by
  obtain ⟨h1, h2, h3, h4⟩ := h
  have e1 : K 1 = J 1 := e 1 (by decide) (by decide)
  refine ⟨gj_L e h1, ?_, h3, ?_⟩
  · rw [e1]; exact h2
  · rw [e1]; exact h4
/-- what the calls leave as it is: the class -/
def gc_F (s t : lf_Z) : Prop := (∀ c : Nat, (c = 0 ∨ c = 14 ∨ (24 < c ∧ (c < 63 ∨ 66 < c))) → t.1 c = s.1 c) ∧ t.2 = s.2
theorem gc_Fr : gc_F s s := ⟨fun _ _ => rfl, rfl⟩
theorem gc_Ft (h : gc_F s t) (k : gc_F t u) : gc_F s u := ⟨fun c hc => (k.1 c hc).trans (h.1 c hc), k.2.trans h.2⟩
/-- the reference -/
def gr_F (s t : lf_Z) : Prop := (∀ c : Nat, c ≠ 96 → c ≠ 104 → c ≠ 107 → c ≠ 108 → t.1 c = s.1 c) ∧ t.1 96 8 = s.1 96 8 ∧ t.2.2 = s.2.2
theorem gr_Fr : gr_F s s := ⟨fun _ _ _ _ _ => rfl, rfl, rfl⟩
theorem gr_Ft (h : gr_F s t) (k : gr_F t u) : gr_F s u := ⟨fun c c1 c2 c3 c4 => (k.1 c c1 c2 c3 c4).trans (h.1 c c1 c2 c3 c4), k.2.1.trans h.2.1, k.2.2.trans h.2.2⟩
/-- the law that rules -/
def gx_XB (X : mn_X) : Prop := (∀ N, 0 ≤ X.1 N ∧ X.1 N ≤ 2) ∧ ∀ N, 0 ≤ X.2 N ∧ X.2 N ≤ 10
def gx_Xc (X : mn_X) (I : Nat → Int → Int) (s : lf_Z) : Prop := xc_X X I s.2.2 ∧ ∀ c : Nat, 35 ≤ c → c < 63 → s.1 c = I c
def gx_Xr (X : mn_X) (T : Int → Int) (s : lf_Z) : Prop := xr_X X T (s.1 96 8) ∧ rm_0 T s
theorem gx_XcF (h : gx_Xc X I s) (k : gc_F s t) : gx_Xc X I t := ⟨by rw [k.2]; exact h.1, fun c c0 c1 => (k.1 c (by omega)).trans (h.2 c c0 c1)⟩
theorem gx_XrF (h : gx_Xr X T s) (k : gr_F s t) : gx_Xr X T t := by
  refine ⟨by rw [k.2.1]; exact h.1, ?_⟩
  have h2 := h.2
  unfold rm_0 at h2 ⊢
  rw [k.1 98 (by decide) (by decide) (by decide) (by decide), k.1 95 (by decide) (by decide) (by decide) (by decide)]
  exact h2
/-- a call that leaves the land: if ok, stand and steps are f1 and H1 behind it and it answers ro; else nothing is done, and it answers rn -/
def gq_o (ok : Prop) (ro rn : Int) (f1 : Int → Int) (H1 : List rr_H) (J : Nat → Int → Int) (f : Int → Int) (H : List rr_H) (K : Nat → Int → Int) (f' : Int → Int) (H' : List rr_H) (r : Int) : Prop := gj_e J K ∧ ((¬ ok ∧ f' = f ∧ H' = H ∧ r = rn) ∨ (ok ∧ f' = f1 ∧ H' = H1 ∧ r = ro))
theorem gc_o {ok : Prop} {ro rn : Int} {f1 : Int → Int} {H1 : List rr_H} {Q : Int → lf_Z → Prop} (hF : gf_T s.1 f H) (hC : gc_T s.1 f H) (hG : ok → gp_J s.1 f1 ∧ mi_H s.1 H1)
    (k : ∀ (r : Int) (t : lf_Z) (f' : Int → Int) (H' : List rr_H), gq_o ok ro rn f1 H1 s.1 f H t.1 f' H' r → gf_T t.1 f' H' → gc_T t.1 f' H' → gc_F s t → Q r t) : (¬ ok → Q rn s) ∧ (ok → ∀ t : lf_Z, mc_f s t → rc_S t.1 f1 → rc_H t.1 H1 → Q ro t) := by
  refine ⟨fun q => k rn s f H ⟨gj_r, Or.inl ⟨q, rfl, rfl, rfl⟩⟩ hF hC gc_Fr, fun q t m hS hH => ?_⟩
  have e : gj_e s.1 t.1 := fun c c0 c1 => m.1 c (Or.inl (by omega))
  refine k ro t f1 H1 ⟨e, Or.inr ⟨q, rfl, rfl, rfl⟩⟩ (gf_Te e ⟨hF.1, (hG q).1, (hG q).2⟩) ⟨hS, hH⟩ ⟨fun c hc => m.1 c ?_, m.2.2.2⟩
  rcases hc with h | h | ⟨h, h2⟩
  · exact Or.inl (by omega)
  · exact Or.inl (by omega)
  · exact Or.inr ⟨h, h2⟩
/-- nothing but the stand, the steps and scratch -/
def gr_q (s t : lf_Z) : Prop := (∀ c : Nat, c ≠ 96 → c ≠ 104 → c ≠ 107 → c ≠ 108 → t.1 c = s.1 c) ∧ (∀ i : Int, ¬ rg_p i → i ≠ 9 → i < 278 → t.1 96 i = s.1 96 i) ∧ t.2.2 = s.2.2
theorem gr_qm (h : mr_f s t) : gr_q s t := ⟨h.1, fun i a b c => h.2.1 i (fun q => a (Or.inl q)) b c, h.2.2⟩
theorem gr_qL (hL : rr_L J (s.1 96)) (hW : mn_W J) (h : gr_q s t) : rr_L J (t.1 96) := by
  obtain ⟨w0, w1, w2, _⟩ := hW
  obtain ⟨l0, l1, l2, l3, l4, l5⟩ := hL
  have g : ∀ j : Int, ¬ rg_p j → j ≠ 9 → j < 278 → t.1 96 j = s.1 96 j := h.2.1
  refine ⟨(g 0 (by unfold rg_p rm_p; omega) (by omega) (by omega)).trans l0, (g 1 (by unfold rg_p rm_p; omega) (by omega) (by omega)).trans l1, (g 2 (by unfold rg_p rm_p; omega) (by omega) (by omega)).trans l2, fun q q0 q1 => ?_, fun w x0 x1 => ?_, fun q q0 q1 => ?_⟩
  · rw [g (14 + 3 * q) (by unfold rg_p rm_p; omega) (by omega) (by omega), g (14 + 3 * q + 1) (by unfold rg_p rm_p; omega) (by omega) (by omega)]; exact l3 q q0 q1
  · rw [g (50 + 4 * w) (by unfold rg_p rm_p; omega) (by omega) (by omega), g (50 + 4 * w + 1) (by unfold rg_p rm_p; omega) (by omega) (by omega), g (50 + 4 * w + 2) (by unfold rg_p rm_p; omega) (by omega) (by omega)]; exact l4 w x0 x1
  · rw [g (126 + 6 * q + 0) (by unfold rg_p rm_p; omega) (by omega) (by omega), g (126 + 6 * q + 1) (by unfold rg_p rm_p; omega) (by omega) (by omega), g (126 + 6 * q + 2) (by unfold rg_p rm_p; omega) (by omega) (by omega), g (126 + 6 * q + 5) (by unfold rg_p rm_p; omega) (by omega) (by omega)]; exact l5 q q0 q1
theorem gr_o {ok : Prop} {ro rn : Int} {f1 : Int → Int} {H1 : List rr_H} {Q : Int → lf_Z → Prop} (hF : gf_T J f H) (hR : gr_T sv J f H (s.1 96)) (hT : gq_o ok ro rn f1 H1 J f H K f' H' r)
    (k : ∀ t : lf_Z, gr_F s t → gr_T sv K f' H' (t.1 96) → Q r t) : (¬ ok → Q rn s) ∧ (ok → ∀ t : lf_Z, gr_q s t → rr_S (J 1 1) (J 1 2) f1 (t.1 96) → rh_H (t.1 96) H1 → Q ro t) := by
  obtain ⟨e, hT⟩ := hT
  refine ⟨fun q => ?_, fun q t m hS hH => ?_⟩
  · rcases hT with ⟨_, rfl, rfl, rfl⟩ | ⟨q', _⟩
    · exact k s gr_Fr (gr_Te e hR)
    · exact absurd q' q
  · rcases hT with ⟨q', _⟩ | ⟨_, rfl, rfl, rfl⟩
    · exact absurd q q'
    · obtain ⟨h1, h2, h3, h4⟩ := hR
      refine k t ⟨m.1, m.2.1 8 (by unfold rg_p rm_p; omega) (by omega) (by omega), m.2.2⟩ (gr_Te e ⟨gr_qL h1 hF.1.1 m, hS, hH, gr_me hF.1.1.2.1.2 (fun i i0 i1 => m.2.1 i (by unfold rg_p rm_p; omega) (by omega) (by omega)) h4⟩)
/-! the relations -/
/-- the land K: J with a stretch more -/
def st_R (J K : Nat → Int → Int) (a b : Int) : Prop := (∀ q : Nat, q ≠ 1 → q ≠ 2 → q ≠ 3 → K q = J q) ∧ (K 1 0 = J 1 0 + 1 ∧ K 1 1 = J 1 1 ∧ K 1 2 = J 1 2) ∧ ∀ q : Int, K 2 q = (if q = J 1 0 then a else J 2 q) ∧ K 3 q = (if q = J 1 0 then b else J 3 q)
def gt_14 (a b : Int) (J : Nat → Int → Int) (f : Int → Int) (H : List rr_H) (K : Nat → Int → Int) (f' : Int → Int) (H' : List rr_H) (r : Int) : Prop := (¬ st_ok (J 1 0) a b ∧ gj_e J K ∧ f' = f ∧ H' = H ∧ r = -1) ∨ (st_ok (J 1 0) a b ∧ st_R J K a b ∧ f' = f ∧ H' = H ∧ r = J 1 0)
def gt_17 (a b c : Int) (J : Nat → Int → Int) (f : Int → Int) (H : List rr_H) (K : Nat → Int → Int) (f' : Int → Int) (H' : List rr_H) (r : Int) : Prop := (¬ wy_ok J a b ∧ gj_e J K ∧ f' = f ∧ H' = H ∧ r = -1) ∨ (wy_ok J a b ∧ wy_R J K a b c ∧ f' = f ∧ H' = H ∧ r = J 1 1)
def gt_23 (a b c d : Int) (J : Nat → Int → Int) (f : Int → Int) (H : List rr_H) (K : Nat → Int → Int) (f' : Int → Int) (H' : List rr_H) (r : Int) : Prop := (¬ pn_ok J a d ∧ gj_e J K ∧ f' = f ∧ H' = H ∧ r = -1) ∨ (pn_ok J a d ∧ pn_R J K a b c d ∧ f' = pn_f f (J 1 2) d ∧ H' = H ∧ r = J 1 2)
def gt_63 (a b : Int) (J : Nat → Int → Int) (f : Int → Int) (H : List rr_H) : (Nat → Int → Int) → (Int → Int) → List rr_H → Int → Prop := gq_o (sy_ok J f a b) (sg_b f) (-1) (rm_b f (sg_b f) a b (-1)) (rr_K (J 1 2, J 1 1, f) H) J f H
def gt_70 (X : mn_X) (a : Int) (J : Nat → Int → Int) (f : Int → Int) (H : List rr_H) : (Nat → Int → Int) → (Int → Int) → List rr_H → Int → Prop := gq_o (mi_ok f a) (mi_al (mi_r J X a.toNat (f, H)).1 12) (-1) (mi_r J X a.toNat (f, H)).1 (mi_r J X a.toNat (f, H)).2 J f H
/-- so many minutes as can be, at most a -/
def gt_71 (X : mn_X) (a : Int) (J : Nat → Int → Int) (f : Int → Int) (H : List rr_H) (K : Nat → Int → Int) (f' : Int → Int) (H' : List rr_H) (r : Int) : Prop := gj_e J K ∧ ∃ m : Nat, (m : Int) ≤ max 0 a ∧ f 37 + m ≤ 999 ∧ f' = (mi_r J X m (f, H)).1 ∧ H' = (mi_r J X m (f, H)).2 ∧ (((m : Int) = max 0 a ∧ r = 1) ∨ ((m : Int) < a ∧ f 37 + m = 999 ∧ r = 0))
def gt_98 (a b : Int) (J : Nat → Int → Int) (f : Int → Int) (H : List rr_H) : (Nat → Int → Int) → (Int → Int) → List rr_H → Int → Prop := gq_o (sd_ok J f a b) 1 0 (ds_u1 f (12 + 2 * a + 1) b) (rr_K (J 1 2, J 1 1, f) H) J f H
def gt_100 (a b : Int) (J : Nat → Int → Int) (f : Int → Int) (H : List rr_H) : (Nat → Int → Int) → (Int → Int) → List rr_H → Int → Prop := gq_o (gt_ok J f a b) 1 0 (gt_f f a) (rr_K (J 1 2, J 1 1, f) H) J f H
def gt_102 (a b : Int) (J : Nat → Int → Int) (f : Int → Int) (H : List rr_H) : (Nat → Int → Int) → (Int → Int) → List rr_H → Int → Prop := gq_o (sp_ok f a b) (sg_b f) (-1) (sp_f f a b) (rr_K (J 1 2, J 1 1, f) H) J f H
def gt_105 (X : mn_X) (a b : Int) (J : Nat → Int → Int) (f : Int → Int) (H : List rr_H) : (Nat → Int → Int) → (Int → Int) → List rr_H → Int → Prop := gq_o (dy_ok J a b) (mi_al (dy_r J X b.toNat (dy_s f a)) 12) (-1) (dy_r J X b.toNat (dy_s f a)) (rr_K (J 1 2, J 1 1, f) H) J f H
/-- the stand behind undo -/
def un_f (J : Nat → Int → Int) (f : Int → Int) : List rr_H → Int → Int
  | [] => f
  | h :: _ => rr_un h.1 (J 1 2) (J 10) h.2.2
def gt_107 (J : Nat → Int → Int) (f : Int → Int) (H : List rr_H) : (Nat → Int → Int) → (Int → Int) → List rr_H → Int → Prop := gq_o (H ≠ []) H.tail.length (-1) (un_f J f H) H.tail J f H
/-! facts of what comes behind -/
theorem st_F (hF : gf_T J f H) (ok : st_ok (J 1 0) a b) (hR : st_R J K a b) : gf_T K f H := by
  obtain ⟨⟨hW, ⟨hB1, hB2⟩, hV, hT⟩, hP, hH⟩ := hF
  obtain ⟨r1, ⟨r2, r3, r4⟩, r5⟩ := hR
  have h12 : J 1 0 < 12 := ok.2.2
  refine ⟨⟨mn_Ws hW h12 (r1 4 (by decide) (by decide) (by decide)) (r1 5 (by decide) (by decide) (by decide)) (r1 11 (by decide) (by decide) (by decide)) (r1 12 (by decide) (by decide) (by decide)) (r1 13 (by decide) (by decide) (by decide)) r2 r3 r4, ⟨fun w => ?_, fun q => ?_⟩, fun q => ?_, fun q q0 q1 => ?_⟩, ⟨gp_Ig hP.1 (by omega) r4, ?_, hP.2.2⟩, mi_Hg hH (by omega) (by omega) (by omega)⟩
  · rw [r1 6 (by decide) (by decide) (by decide)]; exact hB1 w
  · rw [r1 8 (by decide) (by decide) (by decide), r1 9 (by decide) (by decide) (by decide)]; exact hB2 q
  · rw [r1 7 (by decide) (by decide) (by decide)]
    refine ⟨(hV q).1, ?_⟩
    rw [(r5 q).1]
    have ok1 := ok.1
    split
    · omega
    · exact (hV q).2
  · rw [r1 10 (by decide) (by decide) (by decide), r2]
    have := hT q q0 (by omega)
    omega
  · rw [r2, r3]; exact rr_Wg hP.2.1 (by omega) (by omega)
theorem wy_F (hF : gf_T J f H) (ok : wy_ok J a b) (hc : c = 0 ∨ c = 1) (hR : wy_R J K a b c) : gf_T K f H := by
  have hW2 := wy_W hF.1.1 ok hR
  obtain ⟨⟨hW, ⟨hB1, hB2⟩, hV, hT⟩, hP, hH⟩ := hF
  obtain ⟨r1, ⟨r2, r3, r4⟩, r5, _⟩ := hR
  have e : ∀ q : Nat, q = 2 ∨ q = 7 ∨ q = 8 ∨ q = 9 ∨ q = 10 → K q = J q := fun q hq => r1 q (by omega) (by omega) (by omega) (by omega) (by omega) (by omega) (by omega)
  refine ⟨⟨hW2, ⟨fun w => ?_, fun q => ?_⟩, fun q => ?_, fun q q0 q1 => ?_⟩, ⟨gp_Ig hP.1 (by omega) r4, ?_, hP.2.2⟩, mi_Hg hH (by omega) (by omega) (by omega)⟩
  · rw [(r5 w).2.2]
    split
    · exact hc
    · exact hB1 w
  · rw [e 8 (by decide), e 9 (by decide)]; exact hB2 q
  · rw [e 7 (by decide), e 2 (by decide)]; exact hV q
  · rw [e 10 (by decide), r2]
    exact hT q q0 (by omega)
  · rw [r2, r3]; exact rr_Wg hP.2.1 (by omega) (by omega)
theorem pn_F (hF : gf_T J f H) (ok : pn_ok J a d) (hb : b = 0 ∨ b = 1) (hc : c = 0 ∨ c = 1) (hR : pn_R J K a b c d) : gf_T K (pn_f f (J 1 2) d) H := by
  obtain ⟨⟨hW, ⟨hB1, hB2⟩, hV, hT⟩, hP, hH⟩ := hF
  have hW2 := pn_W hW ok.2.2 hR
  have hP2 := pn_J hW hP ok hR
  obtain ⟨r1, ⟨r2, r3, r4⟩, r5⟩ := hR
  have e : ∀ q : Nat, q = 2 ∨ q = 6 → K q = J q := fun q hq => r1 q (by omega) (by omega) (by omega) (by omega) (by omega) (by omega) (by omega)
  refine ⟨⟨hW2, ⟨fun w => ?_, fun q => ⟨?_, ?_⟩⟩, fun q => ⟨?_, ?_⟩, fun q q0 q1 => ?_⟩, hP2, mi_Hg hH (by omega) (by omega) (by omega)⟩
  · rw [e 6 (by decide)]; exact hB1 w
  · rw [(r5 q).2.1]
    split
    · exact hb
    · exact (hB2 q).1
  · rw [(r5 q).2.2.1]
    split
    · exact hc
    · exact (hB2 q).2
  · rw [(r5 q).1]
    have ok1 := ok.1
    split
    · exact ok1
    · exact (hV q).1
  · rw [e 2 (by decide)]; exact (hV q).2
  · rw [(r5 q).2.2.2.1, r2]
    have ok2 := ok.2.1
    split
    · exact ok2
    · exact hT q q0 (by omega)
theorem mi_rJ (hW : mn_W J) (hP : gp_J J f) (hH : mi_H J H) : ∀ m : Nat, f 37 + m ≤ 999 → gp_J J (mi_r J X m (f, H)).1 ∧ mi_H J (mi_r J X m (f, H)).2 ∧ (mi_r J X m (f, H)).1 37 = f 37 + m := by
  intro m
  induction m with
  | zero => intro _; exact ⟨hP, hH, by show f 37 = f 37 + ((0 : Nat) : Int); omega⟩
  | succ m ih =>
    intro h
    obtain ⟨i1, i2, i3⟩ := ih (by omega)
    rw [mi_rS]
    have h9 : (mi_r J X m (f, H)).1 37 < 999 := by omega
    obtain ⟨j1, j2⟩ := gp_Jm (X := X) hW i1 h9
    exact ⟨j1, mi_K hW i1 i2, by show mn_min J X (mi_r J X m (f, H)).1 37 = _; rw [j2, i3]; omega⟩
theorem un_J (hF : gf_T J f H) (ne : H ≠ []) : gp_J J (un_f J f H) ∧ mi_H J H.tail := by
  obtain ⟨⟨hW, hB, hV, hT⟩, hP, hH⟩ := hF
  cases H with
  | nil => exact absurd rfl ne
  | cons h T =>
    obtain ⟨h1, h2, h3, ⟨g1, g2, g3, g4⟩, h5, h6⟩ := hH.2 h List.mem_cons_self
    have w2 := hW.2.2.1
    have w0 := hW.1
    have hl : (h :: T).length ≤ 30 := hH.1
    rw [List.length_cons] at hl
    refine ⟨⟨⟨fun q q0 q1 => ?_, fun b b0 b1 => ?_, ?_, ?_⟩, ⟨fun q q0 q1 => ?_, fun w w0 w1 => ?_⟩, ?_, ?_⟩, ⟨by show T.length ≤ 30; omega, fun x hx => hH.2 x (List.mem_cons_of_mem _ hx)⟩⟩
    · by_cases y : h.1 ≤ q
      · obtain ⟨y1, y2⟩ := rr_unY (g := h.2.2) (tl := J 10) y q0 (by omega) q1
        show (0 ≤ rr_un h.1 (J 1 2) (J 10) h.2.2 (12 + 2 * q) ∧ rr_un h.1 (J 1 2) (J 10) h.2.2 (12 + 2 * q) < J 1 0) ∧ -1 ≤ rr_un h.1 (J 1 2) (J 10) h.2.2 (12 + 2 * q + 1) ∧ rr_un h.1 (J 1 2) (J 10) h.2.2 (12 + 2 * q + 1) < J 1 0
        rw [y1, y2]
        have := hT q q0 q1
        omega
      · obtain ⟨y1, y2⟩ := rr_unO (g := h.2.2) (tl := J 10) (n2 := J 1 2) (show q < h.1 by omega) q0 (by omega)
        show (0 ≤ rr_un h.1 (J 1 2) (J 10) h.2.2 (12 + 2 * q) ∧ rr_un h.1 (J 1 2) (J 10) h.2.2 (12 + 2 * q) < J 1 0) ∧ -1 ≤ rr_un h.1 (J 1 2) (J 10) h.2.2 (12 + 2 * q + 1) ∧ rr_un h.1 (J 1 2) (J 10) h.2.2 (12 + 2 * q + 1) < J 1 0
        rw [y1, y2]
        have := g1 q q0 (show q < (lf_up J 1 2 h.1) 1 2 by rw [lf_up_s]; omega)
        rw [lf_up_i (show (0 : Int) ≠ 2 by decide)] at this
        exact this
    · have := g2 b b0 b1
      unfold gp_b at this ⊢
      rw [lf_up_i (show (0 : Int) ≠ 2 by decide)] at this
      show 0 < rr_un h.1 (J 1 2) (J 10) h.2.2 (3 * b) → (0 ≤ rr_un h.1 (J 1 2) (J 10) h.2.2 (3 * b + 1) ∧ rr_un h.1 (J 1 2) (J 10) h.2.2 (3 * b + 1) < J 1 0) ∧ -1 ≤ rr_un h.1 (J 1 2) (J 10) h.2.2 (3 * b + 2) ∧ rr_un h.1 (J 1 2) (J 10) h.2.2 (3 * b + 2) < J 1 0
      rw [rr_unN (by omega), rr_unN (by omega), rr_unN (by omega)]
      exact this
    · show 0 ≤ rr_un h.1 (J 1 2) (J 10) h.2.2 0 ∧ 0 ≤ rr_un h.1 (J 1 2) (J 10) h.2.2 3 ∧ 0 ≤ rr_un h.1 (J 1 2) (J 10) h.2.2 6 ∧ 0 ≤ rr_un h.1 (J 1 2) (J 10) h.2.2 9 ∧ rr_un h.1 (J 1 2) (J 10) h.2.2 0 + rr_un h.1 (J 1 2) (J 10) h.2.2 3 + rr_un h.1 (J 1 2) (J 10) h.2.2 6 + rr_un h.1 (J 1 2) (J 10) h.2.2 9 ≤ 24
      rw [rr_unN (x := 0) (by decide), rr_unN (x := 3) (by decide), rr_unN (x := 6) (by decide), rr_unN (x := 9) (by decide)]
      exact g3
    · show 0 ≤ rr_un h.1 (J 1 2) (J 10) h.2.2 38 ∧ rr_un h.1 (J 1 2) (J 10) h.2.2 38 < 30203
      rw [rr_unN (x := 38) (by decide)]
      exact g4
    · show rr_un h.1 (J 1 2) (J 10) h.2.2 (24 + q) = 0
      rw [rr_unN (by omega)]
      exact h3.1 q q0 q1
    · show bt_t (rr_un h.1 (J 1 2) (J 10) h.2.2 36) w = false
      rw [rr_unN (x := 36) (by decide)]
      exact h3.2 w (by omega) w1
    · show 0 ≤ rr_un h.1 (J 1 2) (J 10) h.2.2 37
      rw [rr_unN (x := 37) (by decide)]
      exact h5
    · show rr_un h.1 (J 1 2) (J 10) h.2.2 37 ≤ 999
      rw [rr_unN (x := 37) (by decide)]
      exact h6
end GT
