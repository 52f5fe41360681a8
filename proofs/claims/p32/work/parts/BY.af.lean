/-! after: the class -/
section AF
variable {J K : Nat → Int → Int} {s t u : lf_Z} {f g sv M : Int → Int} {H : List rr_H} {X : mn_X} {I : Nat → Int → Int} {a x y who : Int} {cnt : Nat}
/-- which bunches are done, where the person is, since how many minutes, the harm so far -/
abbrev af_W : Type := List Nat × Int × Int × Int
def af_v (w : af_W) : Int := w.2.2.2
def af_P (f : Int → Int) (p : Nat) : Bool := decide (p < 4) && decide (0 < f (3 * (p : Int)))
def af_h (J : Nat → Int → Int) (f : Int → Int) (p : Nat) : Int := f (3 * (p : Int)) * J 3 (f (3 * (p : Int) + 1))
def af_st (J : Nat → Int → Int) (f : Int → Int) (who : Int) (_ : Nat) (w : af_W) (p : Nat) : Option af_W := if af_P f p = true ∧ ¬ p ∈ w.1 ∧ wm_t J who w.2.1 (f (3 * (p : Int) + 1)) ≠ -1 ∧ 0 ≤ af_h J f p * (w.2.2.1 + wm_t J who w.2.1 (f (3 * (p : Int) + 1))) then some (p :: w.1, f (3 * (p : Int) + 1), w.2.2.1 + wm_t J who w.2.1 (f (3 * (p : Int) + 1)), w.2.2.2 + af_h J f p * (w.2.2.1 + wm_t J who w.2.1 (f (3 * (p : Int) + 1)))) else none
/-- what holds of such a way -/
def af_G (J : Nat → Int → Int) (i : Nat) (w : af_W) : Prop := (0 ≤ w.2.1 ∧ w.2.1 < J 1 0) ∧ (0 ≤ w.2.2.1 ∧ w.2.2.1 ≤ 1000 * i) ∧ 0 ≤ w.2.2.2 ∧ w.2.2.2 ≤ 9504000 * i
theorem af_hB (h3 : ∀ q : Int, 0 ≤ q → q < J 1 0 → 0 ≤ J 3 q ∧ J 3 q ≤ 99) {p : Nat} (pl : 0 ≤ f (3 * (p : Int) + 1) ∧ f (3 * (p : Int) + 1) < J 1 0) (z0 : 0 ≤ f (3 * (p : Int))) (z1 : f (3 * (p : Int)) ≤ 24) : 0 ≤ af_h J f p ∧ af_h J f p ≤ 2376 := by
  have q := h3 (f (3 * (p : Int) + 1)) pl.1 pl.2
  unfold af_h
  refine ⟨Int.mul_nonneg z0 q.1, ?_⟩
  exact Int.le_trans (Int.mul_le_mul_of_nonneg_left q.2 z0) (by omega)
theorem af_mB {h m : Int} (h0 : 0 ≤ h) (h1 : h ≤ 2376) (m0 : 0 ≤ m) (m1 : m ≤ 4000) : 0 ≤ h * m ∧ h * m ≤ 9504000 := by
  refine ⟨Int.mul_nonneg h0 m0, ?_⟩
  exact Int.le_trans (Int.mul_le_mul_of_nonneg_left m1 h0) (by omega)
/-- one on -/
theorem af_on (hW : mn_W J) (h3 : ∀ q : Int, 0 ≤ q → q < J 1 0 → 0 ≤ J 3 q ∧ J 3 q ≤ 99) {i p : Nat} {w : af_W} (hG : af_G J i w) (i4 : i < 4) (z0 : 0 ≤ f (3 * (p : Int))) (z1 : f (3 * (p : Int)) ≤ 24) (pl : 0 ≤ f (3 * (p : Int) + 1) ∧ f (3 * (p : Int) + 1) < J 1 0) (ht : wm_t J who w.2.1 (f (3 * (p : Int) + 1)) ≠ -1) : af_G J (i + 1) (p :: w.1, f (3 * (p : Int) + 1), w.2.2.1 + wm_t J who w.2.1 (f (3 * (p : Int) + 1)), w.2.2.2 + af_h J f p * (w.2.2.1 + wm_t J who w.2.1 (f (3 * (p : Int) + 1)))) ∧ 0 ≤ af_h J f p * (w.2.2.1 + wm_t J who w.2.1 (f (3 * (p : Int) + 1))) ∧ af_h J f p * (w.2.2.1 + wm_t J who w.2.1 (f (3 * (p : Int) + 1))) ≤ 9504000 := by
  obtain ⟨g1, g2, g3⟩ := hG
  have tB := wm_tB (a := who) hW g1 pl
  have hB := af_hB (J := J) (f := f) h3 pl z0 z1
  have mB := af_mB (m := w.2.2.1 + wm_t J who w.2.1 (f (3 * (p : Int) + 1))) hB.1 hB.2 (by omega) (by omega)
  refine ⟨⟨pl, ?_, ?_⟩, mB⟩
  · show 0 ≤ w.2.2.1 + wm_t J who w.2.1 (f (3 * (p : Int) + 1)) ∧ w.2.2.1 + wm_t J who w.2.1 (f (3 * (p : Int) + 1)) ≤ 1000 * ((i + 1 : Nat) : Int)
    omega
  · show 0 ≤ w.2.2.2 + af_h J f p * (w.2.2.1 + wm_t J who w.2.1 (f (3 * (p : Int) + 1))) ∧ w.2.2.2 + af_h J f p * (w.2.2.1 + wm_t J who w.2.1 (f (3 * (p : Int) + 1))) ≤ 9504000 * ((i + 1 : Nat) : Int)
    omega
theorem af_mo : ∀ (i : Nat) (w : af_W) (e : Nat) (w' : af_W), af_st J f who i w e = some w' → af_v w ≤ af_v w' := by
  intro i w e w' h
  unfold af_st at h
  by_cases c : af_P f e = true ∧ ¬ e ∈ w.1 ∧ wm_t J who w.2.1 (f (3 * (e : Int) + 1)) ≠ -1 ∧ 0 ≤ af_h J f e * (w.2.2.1 + wm_t J who w.2.1 (f (3 * (e : Int) + 1)))
  · rw [if_pos c] at h
    have q := Option.some.inj h
    have c4 := c.2.2.2
    rw [← q]
    show w.2.2.2 ≤ w.2.2.2 + af_h J f e * (w.2.2.1 + wm_t J who w.2.1 (f (3 * (e : Int) + 1)))
    omega
  · rw [if_neg c] at h; cases h
def af_c (J : Nat → Int → Int) (f : Int → Int) (who : Int) (cnt : Nat) (s : lf_Z) : Prop := gc_J J s ∧ rc_S s.1 f ∧ s.1 74 7 = who ∧ s.1 74 5 = cnt
theorem af_cf (h : af_c J f who cnt s) (e : wm_f s t) : af_c J f who cnt t := by
  obtain ⟨h1, h2, h3, h4⟩ := h
  refine ⟨fun c hc => (e.1 c (by omega) (by omega) (by omega)).trans (h1 c hc), ?_, (e.2.1 7 (by decide)).trans h3, (e.2.1 5 (by decide)).trans h4⟩
  unfold rc_S at h2 ⊢
  rw [e.1 16 (by decide) (by decide) (by decide), e.1 17 (by decide) (by decide) (by decide), e.1 18 (by decide) (by decide) (by decide), e.1 19 (by decide) (by decide) (by decide), e.1 20 (by decide) (by decide) (by decide), e.1 21 (by decide) (by decide) (by decide), e.1 15 (by decide) (by decide) (by decide)]
  exact h2
theorem fl_156 (hW : mn_W J) (h3 : ∀ q : Int, 0 ≤ q → q < J 1 0 → 0 ≤ J 3 q ∧ J 3 q ≤ 99) (hcnt : cnt ≤ 4) (hwho : 0 ≤ who ∧ who < J 1 2) (hpl : ∀ p : Nat, af_P f p = true → (0 ≤ f (3 * (p : Int) + 1) ∧ f (3 * (p : Int) + 1) < J 1 0) ∧ 0 ≤ f (3 * (p : Int)) ∧ f (3 * (p : Int)) ≤ 24) : ∀ (n k i : Nat) (w : af_W) (ch : List Nat) (st : en_S) (fr : Int) (s : lf_Z) (Q : lf_Z → Prop), i + k = cnt → af_c J f who cnt s → wm_s cnt st s.1 → wm_h i ch s.1 → (∀ q : Nat, q < 6 → (bt_t fr (q : Int) = true ↔ af_P f q = true ∧ ¬ q ∈ w.1)) → af_G J i w → (∀ t : lf_Z, wm_f s t → (∀ j : Int, j < i → t.1 76 j = s.1 76 j) → wm_s cnt (en_D (af_st J f who) af_v (fun e => e) 4 k i w ch st) t.1 → Q t) → fv_156T n i fr w.2.1 w.2.2.1 w.2.2.2 Q s := by
  intro n
  induction n with
  | zero =>
    intro k i w ch st fr s Q _ _ _ _ _ _ _
    exact True.intro
  | succ n ih =>
    intro k i w ch st fr s Q hik hc hs hh hf hG hk
    have p18 : (st.1 = -1 ∨ w.2.2.2 < st.1) → fw_156_p18 (fv_156T n) Q i fr w.2.1 w.2.2.1 w.2.2.2 s := fun hp => by
      unfold fw_156_p18
      rw [hc.2.2.2]
      intro _ _
      refine ⟨fun y => ?_, fun y => ?_⟩
      · obtain ⟨k', rfl⟩ : ∃ k', k = k' + 1 := ⟨k - 1, by omega⟩
        rw [en_DS] at hk
        obtain ⟨G, hG'⟩ : ∃ G, G = en_g (af_st J f who) af_v (fun e => e) 4 k' i w ch := ⟨_, rfl⟩
        rw [← hG'] at hk
        refine ⟨fun p t => wm_f s t ∧ (∀ j : Int, j < i → t.1 76 j = s.1 76 j) ∧ ∃ (m : Nat) (st1 : en_S), p = m ∧ m ≤ 4 ∧ wm_s cnt st1 t.1 ∧ en_u G 4 0 st = en_u G (4 - m) m st1, ?_, ⟨wm_fr, fun _ _ => rfl, 0, st, rfl, Nat.zero_le _, hs, rfl⟩⟩
        intro p t ⟨tf, th, m, st1, ep, m1, ts, eg⟩
        have tc := af_cf hc tf
        have c5 : t.1 74 5 = cnt := tc.2.2.2
        unfold fw_156_p36
        rw [ep]
        intro _
        refine ⟨fun y2 => ?_, fun y2 => ?_⟩
        · have e : m = 4 := by omega
          rw [e, Nat.sub_self] at eg
          exact hk t tf th (by rw [eg]; exact ts)
        · have stp : en_u G (4 - m) m st1 = en_u G (4 - (m + 1)) (m + 1) (G m st1) := by
            rw [show 4 - m = (4 - (m + 1)) + 1 by omega]
            rfl
          have nx : ∀ (u : lf_Z) (st2 : en_S), wm_f s u → (∀ j : Int, j < i → u.1 76 j = s.1 76 j) → wm_s cnt st2 u.1 → G m st1 = st2 → fw_156_p167 (fv_156T n) (fun p t => wm_f s t ∧ (∀ j : Int, j < i → t.1 76 j = s.1 76 j) ∧ ∃ (m : Nat) (st1 : en_S), p = m ∧ m ≤ 4 ∧ wm_s cnt st1 t.1 ∧ en_u G 4 0 st = en_u G (4 - m) m st1) Q i fr w.2.1 w.2.2.1 w.2.2.2 m u := fun u st2 uf uh us e2 => by
            unfold fw_156_p167
            refine ⟨uf, uh, m + 1, st2, by omega, by omega, us, ?_⟩
            rw [eg, stp, e2]
          have no : af_st J f who i w m = none → G m st1 = st1 := fun e => by
            rw [hG']
            exact en_g0 (l := fun e => e) e
          rw [bt_T (by omega) (by omega)]
          refine ⟨fun y3 => ?_, fun y3 _ => ?_⟩
          · unfold fw_156_p78
            intro _
            refine ⟨fun _ => nx t st1 tf th ts (no (if_neg (fun q => ?_))), fun y4 => absurd rfl y4⟩
            rw [if_pos ((hf m (by omega)).mpr ⟨q.1, q.2.1⟩)] at y3
            exact y3 rfl
          · have bt : bt_t fr (m : Int) = true := by
              cases q : bt_t fr (m : Int) with
              | true => rfl
              | false => rw [q] at y3; exact absurd (show (if false = true then (1 : Int) else 0) ≠ 1 by decide) y3
            obtain ⟨hPm, hUm⟩ := (hf m (by omega)).mp bt
            obtain ⟨pl, z0, z1⟩ := hpl m hPm
            obtain ⟨r16, r17, _⟩ := tc.2.1.1 m (by omega) (by omega)
            have r3 : t.1 3 = J 3 := tc.1 3 (by omega)
            rw [r17, tc.2.2.1]
            refine fl_135 tc.1 hG.1 pl hwho ?_
            unfold fw_156_p78
            rw [r17, r16, r3]
            intro _
            refine ⟨fun y4 => nx t st1 tf th ts (no (if_neg (fun q => q.2.2.1 y4))), fun y4 _ _ _ => ?_⟩
            obtain ⟨on1, on2, on3⟩ := af_on (who := who) hW h3 hG (by omega) z0 z1 pl y4
            have hB := af_hB (J := J) (f := f) h3 pl z0 z1
            have tB := wm_tB (a := who) hW hG.1 pl
            have g2 := hG.2.1
            have g3 := hG.2.2
            have w1 : lf_w (w.2.2.1 + wm_t J who w.2.1 (f (3 * (m : Int) + 1))) = w.2.2.1 + wm_t J who w.2.1 (f (3 * (m : Int) + 1)) := tr_w (by omega)
            have w2 : lf_w (f (3 * (m : Int)) * J 3 (f (3 * (m : Int) + 1))) = af_h J f m := tr_w (by show -2147483648 ≤ af_h J f m ∧ af_h J f m ≤ 2147483647; omega)
            have w3 : lf_w (af_h J f m * (w.2.2.1 + wm_t J who w.2.1 (f (3 * (m : Int) + 1)))) = af_h J f m * (w.2.2.1 + wm_t J who w.2.1 (f (3 * (m : Int) + 1))) := tr_w (by omega)
            have w4 : lf_w (w.2.2.2 + af_h J f m * (w.2.2.1 + wm_t J who w.2.1 (f (3 * (m : Int) + 1)))) = w.2.2.2 + af_h J f m * (w.2.2.1 + wm_t J who w.2.1 (f (3 * (m : Int) + 1))) := tr_w (by omega)
            rw [w1, w2, w3, w4]
            have sp : af_st J f who i w m = some (m :: w.1, f (3 * (m : Int) + 1), w.2.2.1 + wm_t J who w.2.1 (f (3 * (m : Int) + 1)), w.2.2.2 + af_h J f m * (w.2.2.1 + wm_t J who w.2.1 (f (3 * (m : Int) + 1)))) := if_pos ⟨hPm, hUm, y4, on2⟩
            obtain ⟨u, hu⟩ : ∃ u : lf_Z, u = (lf_up t.1 76 i m, t.2.1, t.2.2) := ⟨_, rfl⟩
            rw [← hu, show (i : Int) + 1 = ((i + 1 : Nat) : Int) by omega]
            have u76 : ∀ j : Int, j < i → u.1 76 j = s.1 76 j := fun j hj => by
              rw [hu]
              exact (zu_i (by omega)).trans (th j hj)
            have uf : wm_f t u := by
              rw [hu]
              exact ⟨fun c _ h2 _ => zu_r h2, fun _ _ => zu_c (by decide), rfl⟩
            have us : wm_s cnt st1 u.1 := by
              refine ⟨(by rw [hu]; exact (zu_c (by decide)).trans ts.1), fun q => ⟨(ts.2 q).1, fun j p hp => ?_⟩⟩
              rw [hu]
              exact (zu_c (by decide)).trans ((ts.2 q).2 j p hp)
            have uh : wm_h (i + 1) (ch ++ [m]) u.1 := by
              refine ⟨by rw [List.length_append, hh.1]; rfl, fun j p hp => ?_⟩
              rcases wm_get hp with q | ⟨q1, q2⟩
              · have jl := wm_lt q
                have hl0 := hh.1
                rw [u76 j (by omega)]
                exact hh.2 j p q
              · rw [q1, q2, hh.1, hu]
                exact zu_s
            have go := ih k' (i + 1) (m :: w.1, f (3 * (m : Int) + 1), w.2.2.1 + wm_t J who w.2.1 (f (3 * (m : Int) + 1)), w.2.2.2 + af_h J f m * (w.2.2.1 + wm_t J who w.2.1 (f (3 * (m : Int) + 1)))) (ch ++ [m]) st1 (lf_and fr (lf_xor (lf_shl 1 (m : Int)) (-1))) u (fun s29 => fw_156_p167 (fv_156T n) (fun p t => wm_f s t ∧ (∀ j : Int, j < i → t.1 76 j = s.1 76 j) ∧ ∃ (m : Nat) (st1 : en_S), p = m ∧ m ≤ 4 ∧ wm_s cnt st1 t.1 ∧ en_u G 4 0 st = en_u G (4 - m) m st1) Q i fr w.2.1 w.2.2.1 w.2.2.2 m s29) (by omega) (af_cf tc uf) us uh (fun q hq => ?_) on1 (fun t2 t2f t2h t2s => ?_)
            · exact go
            · rw [bt_rm (by omega) (by omega), Bool.and_eq_true, hf q hq]
              constructor
              · intro ⟨⟨q1, q2⟩, q3⟩
                refine ⟨q1, fun q4 => ?_⟩
                rcases List.mem_cons.mp q4 with e | e
                · rw [decide_eq_true e] at q3; cases q3
                · exact q2 e
              · intro ⟨q1, q2⟩
                refine ⟨⟨q1, fun e => q2 (List.mem_cons_of_mem _ e)⟩, ?_⟩
                rw [decide_eq_false (fun e => q2 (List.mem_cons.mpr (Or.inl e)))]; rfl
            · refine nx t2 _ (wm_ft tf (wm_ft uf t2f)) (fun j hj => (t2h j (by omega)).trans (u76 j hj)) t2s ?_
              rw [hG']
              exact en_g1 (l := fun e => e) sp
      · have k0 : k = 0 := by omega
        subst k0
        unfold fw_140
        obtain ⟨u, hu⟩ : ∃ u : lf_Z, u = (lf_cp (lf_up s.1 74 6 w.2.2.2) 76 77 0 0 6, s.2.1, s.2.2) := ⟨_, rfl⟩
        rw [← hu]
        have u1 : u.1 = lf_cp (lf_up s.1 74 6 w.2.2.2) 76 77 0 0 6 := by rw [hu]
        have u2 : u.2 = s.2 := by rw [hu]
        refine hk u ⟨fun c h1 h2 h3 => by rw [u1]; exact (lf_cp_row h3).trans (lf_up_row h1), fun j hj => by rw [u1]; exact (lf_cp_c (by decide)).trans (lf_up_i hj), u2⟩ (fun j _ => by rw [u1]; exact (lf_cp_c (by decide)).trans (lf_up_c (by decide))) ?_
        have e : en_D (af_st J f who) af_v (fun e => e) 4 0 i w ch st = (w.2.2.2, ch) := if_pos hp
        rw [e, u1]
        refine ⟨(lf_cp_c (by decide)).trans lf_up_s, fun _ => ⟨by show ch.length = cnt; rw [hh.1]; omega, fun j p hp => ?_⟩⟩
        have hp : ch[j]? = some p := hp
        have jl := wm_lt hp
        refine (lf_cp_s (by omega) (by rw [hh.1] at jl; omega)).trans ?_
        rw [show (0 : Int) + ((j : Int) - 0) = j by omega]
        exact (lf_up_c (by decide)).trans (hh.2 j p hp)
    show fw_156 (fv_156T n) i fr w.2.1 w.2.2.1 w.2.2.2 Q s
    unfold fw_156
    rw [hs.1]
    intro _
    refine ⟨fun y => p18 (Or.inl y), fun y _ => ⟨fun y2 => p18 (Or.inr y2), fun y2 => hk s wm_fr (fun _ _ => rfl) ?_⟩⟩
    rw [en_DP af_mo y (by show st.1 ≤ w.2.2.2; omega)]
    exact hs
end AF
