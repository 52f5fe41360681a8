/-! after: the reference's search -/
section AT
variable {J K : Nat → Int → Int} {s t u : lf_Z} {f g sv M : Int → Int} {H : List rr_H} {X : mn_X} {I : Nat → Int → Int} {a c x y z : Int}
/-- what the reference reads: its bunches, their sizes, places and harms, the table -/
def af_E (J : Nat → Int → Int) (f : Int → Int) (a : Int) (s : lf_Z) : Prop := (∀ e : Nat, e < ag_n f → s.1 118 e = (ag_l f e : Nat)) ∧ af_tb J f a (s.1 119) ∧ (∀ e : Nat, e < ag_n f → s.1 96 (114 + 3 * ((ag_l f e : Nat) : Int)) = f (3 * ((ag_l f e : Nat) : Int)) ∧ s.1 96 (114 + 3 * ((ag_l f e : Nat) : Int) + 1) = af_at f e ∧ s.1 96 (14 + 3 * af_at f e + 1) = J 3 (af_at f e))
theorem fl_313 {Q : Int → lf_Z → Prop} {r : List Nat} (hE : af_E J f a s) (hr : r.length = ag_n f) (hy : ∀ y ∈ r, y < ag_n f) (h : en_h (s.1 116) r) (k : Q (af_hv J f a r (f (12 + 2 * a)) 0 0) s) : fw_313 (ag_n f : Nat) Q s := by
  have n4 : ag_n f ≤ 4 := dm_cnB (P := af_P f) 4
  obtain ⟨h118, ⟨tb1, tb2⟩, h96⟩ := hE
  unfold fw_313
  refine ⟨fun x2 x3 x4 x5 t => t = s ∧ ∃ (m : Nat) (R : List Nat) (xx : Int), x5 = m ∧ m + R.length = ag_n f ∧ (∀ j p : Nat, R[j]? = some p → r[m + j]? = some p) ∧ af_hv J f a r (f (12 + 2 * a)) 0 0 = af_hv J f a R xx x3 x2 ∧ ((x4 = 4 ∧ xx = f (12 + 2 * a)) ∨ ∃ e : Nat, e < ag_n f ∧ x4 = e ∧ xx = af_at f e), ?_, ⟨rfl, 0, r, f (12 + 2 * a), rfl, by omega, fun j p hj => by rw [Nat.zero_add]; exact hj, rfl, Or.inl ⟨rfl, rfl⟩⟩⟩
  intro x2 x3 x4 x5 t ⟨et, m, R, xx, e5, hl, hR, em, hx⟩
  rw [et]
  unfold fw_313_p10
  rw [e5]
  intro _ _
  refine ⟨fun y2 => ?_, fun y2 _ => ?_⟩
  · have eR : R = [] := List.eq_nil_of_length_eq_zero (by omega)
    rw [eR] at em
    refine qu_to k ?_
    rw [em]
    rfl
  · cases R with
    | nil => have hl : m + 0 = ag_n f := hl; omega
    | cons d R =>
      have hd := hR 0 d rfl
      have cd : s.1 116 m = d := h m d hd
      have db : d < ag_n f := hy d (List.mem_of_getElem? hd)
      rw [List.length_cons] at hl
      have leg : s.1 119 (4 * x4 + (d : Int)) = wm_r J a xx (af_at f d) := by
        rcases hx with ⟨q1, q2⟩ | ⟨e, e1, q1, q2⟩
        · rw [q1, q2]
          exact tb2 d db
        · rw [q1, q2]
          exact tb1 e d e1 db
      obtain ⟨z1, z2, z3⟩ := h96 d db
      rw [cd, h118 d db, leg]
      intro _ _
      refine fl_242 (fl_255 (fl_277 ?_))
      rw [z1, z2, z3]
      have st : af_hv J f a (d :: R) xx x3 x2 = af_hv J f a R (af_at f d) (x3 + wm_r J a xx (af_at f d)) (x2 + af_h J f (ag_l f d) * (x3 + wm_r J a xx (af_at f d))) := rfl
      refine ⟨rfl, m + 1, R, af_at f d, by omega, by omega, fun j p hj => ?_, em.trans st, Or.inr ⟨d, db, rfl, rfl⟩⟩
      rw [show m + 1 + j = m + (j + 1) by omega]
      exact hR (j + 1) p hj
theorem af_hvB (hW : mn_W J) (hpl : ∀ e : Nat, e < ag_n f → 0 ≤ af_at f e ∧ af_at f e < J 1 0) (hb : ∀ e : Nat, e < ag_n f → 0 ≤ af_h J f (ag_l f e)) : ∀ (r : List Nat) (x m h : Int), (∀ y ∈ r, y < ag_n f) → (0 ≤ x ∧ x < J 1 0) → 0 ≤ m → 0 ≤ h → 0 ≤ af_hv J f a r x m h := by
  intro r
  induction r with
  | nil => intro x m h _ _ _ h0; exact h0
  | cons e r ih =>
    intro x m h hr x0 m0 h0
    have en := hr e (List.mem_cons.mpr (Or.inl rfl))
    have he := hb e en
    have w0 : 0 ≤ wm_r J a x (af_at f e) := by
      have := (wm_tB (a := a) hW x0 (hpl e en)).1
      unfold wm_r
      split <;> omega
    have p := Int.mul_nonneg he (show 0 ≤ m + wm_r J a x (af_at f e) by omega)
    exact ih _ _ _ (fun y hy => hr y (List.mem_cons_of_mem _ hy)) (hpl e en) (by omega) (by omega)
def af_lf (J : Nat → Int → Int) (f : Int → Int) (a : Int) (r : List Nat) (st : en_S) : en_S := if en_d [] r = true then en_up (af_hv J f a r (f (12 + 2 * a)) 0 0) (r.map (ag_l f)) st else st
def af_s (f : Int → Int) (st : en_S) (x : Int) (c : Int → Int) : Prop := x = st.1 ∧ (st.1 = -1 ∨ (0 ≤ st.1 ∧ ∃ D : List Nat, D.length = ag_n f ∧ (∀ y ∈ D, y < ag_n f) ∧ st.2 = D.map (ag_l f) ∧ en_h c D))
def af_3 (J : Nat → Int → Int) (f : Int → Int) (a : Int) (s : lf_Z) (T : en_S) (x4 x5 : Int) (t : lf_Z) : Prop := wr_f s t ∧ ∃ st : en_S, af_s f st x4 (t.1 117) ∧ ((x5 = 0 ∧ st = T) ∨ (x5 = 1 ∧ ∃ r : List Nat, r.length = ag_n f ∧ (∀ y ∈ r, y < ag_n f) ∧ en_h (t.1 116) r ∧ en_F (ag_n f) r (af_lf J f a) st = T))
theorem af_Ef (h : af_E J f a s) (e : wr_f s t) : af_E J f a t := by
  unfold af_E at h ⊢
  rw [e.1 118 (by decide) (by decide), e.1 119 (by decide) (by decide), e.1 96 (by decide) (by decide)]
  exact h
theorem fl_311l {Q : Int → lf_Z → Prop} {T : en_S} {i x4 : Int} (n0 : 0 < ag_n f) (hE : af_E J f a s) (hv : ∀ r : List Nat, (∀ y ∈ r, y < ag_n f) → 0 ≤ af_hv J f a r (f (12 + 2 * a)) 0 0) (h0 : af_3 J f a s T x4 1 s)
    (k : ∀ (x : Int) (t : lf_Z), wr_f s t → af_s f T x (t.1 117) → (i ≠ -1 → (0 ≤ i ∧ i < 6) → (0 ≤ t.1 117 i ∧ t.1 117 i < 4) → Q (t.1 118 (t.1 117 i)) t) ∧ (¬ i ≠ -1 → Q x t)) : fw_311_p94L Q i (ag_n f : Nat) x4 1 s := by
  have n4 : ag_n f ≤ 4 := dm_cnB (P := af_P f) 4
  refine ⟨af_3 J f a s T, ?_, h0⟩
  intro x4 x5 t ⟨tf, st, ts, tr⟩
  unfold fw_311_p94
  intro _
  refine ⟨fun y _ => ?_, fun y => ?_⟩
  · rcases tr with ⟨_, q⟩ | ⟨q, _⟩
    · rw [q] at ts
      exact k x4 t tf ts
    · omega
  obtain ⟨_, r, hr, hrb, h116, hT⟩ : x5 = 1 ∧ ∃ r : List Nat, r.length = ag_n f ∧ (∀ y ∈ r, y < ag_n f) ∧ en_h (t.1 116) r ∧ en_F (ag_n f) r (af_lf J f a) st = T := by
    rcases tr with ⟨q, _⟩ | q
    · exact absurd q y
    · exact q
  have tE := af_Ef hE tf
  obtain ⟨st', hst'⟩ : ∃ st' : en_S, st' = af_lf J f a r st := ⟨_, rfl⟩
  have eF := en_Fn (b := ag_n f) r (af_lf J f a) st
  rw [hT, ← hst'] at eF
  have e3 := ts.1
  have fin : ∀ (z : Int) (u : lf_Z), wr_f t u → u.1 116 = t.1 116 → af_s f st' z (u.1 117) → fw_311_p168 (af_3 J f a s T) Q i (ag_n f : Nat) z u := fun z u uf u116 us => by
    unfold fw_311_p168
    refine fl_304 (r := r) (by omega) hrb (by rw [u116]; exact h116) (fun v vc v2 => ⟨fun r' er hv => ?_, fun er => ?_⟩)
    · refine ⟨⟨fun c h1 h2 => (vc c h1).trans ((uf.1 c h1 h2).trans (tf.1 c h1 h2)), v2.trans (uf.2.trans tf.2)⟩, st', by rw [vc 117 (by decide)]; exact us, Or.inr ⟨rfl, r', (en_nL r r' er).trans hr, en_nB n0 r r' hrb er, hv, ?_⟩⟩
      rw [er] at eF
      exact eF.symm
    · refine ⟨⟨fun c h1 h2 => (vc c h1).trans ((uf.1 c h1 h2).trans (tf.1 c h1 h2)), v2.trans (uf.2.trans tf.2)⟩, st', by rw [vc 117 (by decide)]; exact us, Or.inl ⟨rfl, ?_⟩⟩
      rw [er] at eF
      exact eF.symm
  have tr0 : wr_f t t := ⟨fun _ _ _ => rfl, rfl⟩
  have copy : ∀ v : Int, 0 ≤ v → st' = (v, r.map (ag_l f)) → fw_311_p135 (af_3 J f a s T) Q i (ag_n f : Nat) v t := fun v v0 ev => by
    unfold fw_311_p135
    refine ⟨fun x u => wr_f t u ∧ u.1 116 = t.1 116 ∧ 0 ≤ x ∧ ∀ j p : Nat, (j : Int) < x → r[j]? = some p → u.1 117 j = p, ?_, ⟨tr0, rfl, Int.le_refl 0, fun j p h1 _ => by omega⟩⟩
    intro x u ⟨uf, u116, ux, uy⟩
    unfold fw_311_p142
    intro _ _
    refine ⟨fun z => fin v u uf u116 ?_, fun z _ => ⟨⟨fun c h1 h2 => (zu_r h2).trans (uf.1 c h1 h2), uf.2⟩, (zu_r (by decide)).trans u116, by omega, fun j p hj hp => ?_⟩⟩
    · rw [ev]
      exact ⟨rfl, Or.inr ⟨v0, r, hr, hrb, rfl, fun j p hj => uy j p (by have := wm_lt hj; omega) hj⟩⟩
    · by_cases q : (j : Int) = x
      · rw [q]
        refine zu_s.trans ?_
        rw [u116, ← q]
        exact h116 j p hp
      · exact (zu_i q).trans (uy j p (by omega) hp)
  refine fl_303 (r := r) (by omega) (fun y hy => by have := hrb y hy; omega) h116 (fun q => ⟨(fun z => by cases z), fun _ => fl_313 tE hr hrb h116 ?_⟩) (fun q => ⟨fun _ => ?_, (fun z => by cases z)⟩)
  · have v0 := hv r hrb
    have eL : st' = en_up (af_hv J f a r (f (12 + 2 * a)) 0 0) (r.map (ag_l f)) st := by rw [hst']; exact if_pos q
    unfold fw_311_p116
    intro _
    refine ⟨fun z => by omega, fun z _ => ⟨fun z2 => copy _ v0 ?_, fun z2 => ⟨fun z3 => fin x4 t tr0 rfl ?_, fun z3 => copy _ v0 ?_⟩⟩⟩
    · rw [eL]
      refine if_pos (Or.inl ?_)
      rcases ts.2 with w | w
      · exact w
      · omega
    · have e : st' = st := by
        rw [eL]
        refine if_neg (fun w => ?_)
        rcases w with w | w
        · omega
        · omega
      rw [e]; exact ts
    · rw [eL]
      exact if_pos (Or.inr (by omega))
  · have e : st' = st := by
      rw [hst']
      exact if_neg (by rw [q]; decide)
    unfold fw_311_p116
    intro _
    refine ⟨fun _ => fin x4 t tr0 rfl (by rw [e]; exact ts), fun z => absurd (by decide) z⟩
end AT
