/-! clauses and texts of the reference: the verdict -/
section LE
variable {f : Int → Int} {n law b a m v : Int} {o : Int → Bool} {s t z : lf_Z}
def tn_F (z t : lf_Z) : Prop := (∀ c : Nat, c ≠ 95 → c ≠ 98 → c ≠ 100 → c ≠ 101 → c ≠ 102 → c ≠ 103 → t.1 c = z.1 c) ∧ (∀ i : Int, ¬ (7 ≤ i ∧ i ≤ 14) → ¬ (19 ≤ i ∧ i ≤ 24) → t.1 95 i = z.1 95 i) ∧ t.2.2 = z.2.2
theorem tn_Fl (h : ln_F z t) : tn_F z t := ⟨h.1, fun i a b => h.2.1 i (by omega) (by omega) (by omega), h.2.2.2⟩
theorem tn_Ft (h : tn_F z s) (g : tn_F s t) : tn_F z t := ⟨fun c a1 a2 a3 a4 a5 a6 => (g.1 c a1 a2 a3 a4 a5 a6).trans (h.1 c a1 a2 a3 a4 a5 a6), fun i a b => (g.2.1 i a b).trans (h.2.1 i a b), g.2.2.trans h.2.2⟩
/-- where the text's row begins, how many clauses, which laws; what is written -/
def tn_X (a m v : Int) (s : lf_Z) : Prop := s.1 95 12 = a ∧ s.1 98 a = m ∧ s.1 95 24 = v ∧ ∃ o : List (Int × Int), s.1 95 13 = o.length ∧ ln_ou (s.1 98) (a + 97) o
def tn_S (z : lf_Z) (f : Int → Int) (n a m v b : Int) (s : lf_Z) : Prop := tn_F z s ∧ la_B f n b s ∧ tn_X a m v s
def tn_Q (z : lf_Z) (f : Int → Int) (n a m v : Int) (r : Int × Int) (t : lf_Z) : Prop := tn_F z t ∧ la_B f n r.2 t ∧ (r.1 = 0 → tn_X a m v t)
theorem tn_nx {Q : lf_Z → Prop} (h : tn_S z f n a m v b s) (kk : ∀ t : lf_Z, tn_S z f n a m v (ds_ad f n b) t → (∀ i : Int, ¬ (7 ≤ i ∧ i ≤ 10) → t.1 95 i = s.1 95 i) → (∀ q : Nat, q ≠ 95 → t.1 q = s.1 q) → Q t) : fw_197 Q s := by
  have h7 := la_0 h.2.1
  obtain ⟨hF, ⟨b1, b2, b3, b4, b5⟩, x1, x2, x3, x4⟩ := h
  refine fl_197 h7 (by rw [b1, b2]; exact b5) (fun t tF tA => ?_)
  obtain ⟨f1, f2, f3⟩ := tF
  have r7 : s.1 95 7 = lx_E f n b := by rw [← b1, ← b2]; exact b3.2.2.1
  rw [b1, b2, r7] at tA
  have u95 : ∀ i : Int, ¬ (7 ≤ i ∧ i ≤ 10) → t.1 95 i = s.1 95 i := fun i hi => f2 i (by omega) (by omega) (by omega) (by omega)
  refine kk t ⟨tn_Ft hF ⟨fun q a1 _ _ _ _ _ => f1 q a1, fun i c d => u95 i (by omega), f3⟩, ⟨(f1 99 (by decide)).trans b1, (u95 4 (by omega)).trans b2, tA, cl_ad0 b4, b5⟩, (u95 12 (by omega)).trans x1, (by rw [f1 98 (by decide)]; exact x2), (u95 24 (by omega)).trans x3, ?_⟩ u95 f1
  rw [u95 13 (by omega), f1 98 (by decide)]; exact x4
theorem tn_98 {i w : Int} (h : tn_S z f n a m v b s) (i0 : a < i) (i1 : i < a + 97) : tn_S z f n a m v b (lf_up s.1 98 i w, s.2.1, s.2.2) := by
  obtain ⟨hF, hB, x1, x2, x3, o, x4, x5⟩ := h
  obtain ⟨t, ht⟩ : ∃ t : lf_Z, t = (lf_up s.1 98 i w, s.2.1, s.2.2) := ⟨_, rfl⟩
  rw [← ht]
  have e : ∀ q : Nat, q ≠ 98 → t.1 q = s.1 q := fun q hq => by rw [ht]; exact zu_r hq
  have e3 : ∀ j : Int, j ≠ i → t.1 98 j = s.1 98 j := fun j hj => by rw [ht]; exact zu_i hj
  have eJ : t.2 = s.2 := by rw [ht]
  have e95 := e 95 (by decide)
  have key : ∀ o : List (Int × Int), ln_ou (s.1 98) (a + 97) o → ln_ou (t.1 98) (a + 97) o := by
    intro o
    induction o with
    | nil => intro _; trivial
    | cons x o ih =>
      intro h
      exact ⟨(e3 _ (by omega)).trans h.1, (e3 _ (by omega)).trans h.2.1, ih h.2.2⟩
  exact ⟨tn_Ft hF ⟨fun q _ a2 _ _ _ _ => e q a2, fun i _ _ => by rw [e95], by rw [eJ]⟩, la_Bx hB (e 99 (by decide)) (fun i _ => by rw [e95]) (by rw [eJ]), (by rw [e95]; exact x1), (e3 a (by omega)).trans x2, (by rw [e95]; exact x3), o, (by rw [e95]; exact x4), key o x5⟩
theorem tn_95 {m' v' : Int} (h : tn_S z f n a m v b s) (eJ : t.2 = s.2) (e : ∀ q : Nat, q ≠ 95 → q ≠ 98 → t.1 q = s.1 q) (e2 : ∀ i : Int, i ≠ 14 → i ≠ 24 → t.1 95 i = s.1 95 i) (e3 : ∀ j : Int, j ≠ a → t.1 98 j = s.1 98 j) (e4 : t.1 98 a = m') (e5 : t.1 95 24 = v') : tn_S z f n a m' v' b t := by
  obtain ⟨hF, hB, x1, x2, x3, o, x4, x5⟩ := h
  have key : ∀ o : List (Int × Int), ln_ou (s.1 98) (a + 97) o → ln_ou (t.1 98) (a + 97) o := by
    intro o
    induction o with
    | nil => intro _; trivial
    | cons x o ih =>
      intro h
      exact ⟨(e3 _ (by omega)).trans h.1, (e3 _ (by omega)).trans h.2.1, ih h.2.2⟩
  exact ⟨tn_Ft hF ⟨fun q a1 a2 _ _ _ _ => e q a1 a2, fun i c d => e2 i (by omega) (by omega), by rw [eJ]⟩, la_Bx hB (e 99 (by decide) (by decide)) (fun i hi => e2 i (by omega) (by omega)) (by rw [eJ]), (e2 12 (by decide) (by decide)).trans x1, e4, e5, o, (e2 13 (by decide) (by decide)).trans x4, key o x5⟩
theorem la_10 (h : la_B f n b s) : s.1 95 9 = 1 → 0 ≤ s.1 95 10 ∧ min 10000 (s.1 95 10) = lx_V f n b := by
  obtain ⟨b1, b2, b3, _⟩ := h
  have := b3.2.2.2.1
  rw [b1, b2] at this
  exact this
/-- a number -/
theorem fl_213 {i lo hi : Int} {Q : Int → lf_Z → Prop} (h : tn_S z f n a m v b s) (h9 : hi ≤ 9999) (i0 : a < i) (i1 : i < a + 97) (kk : ∀ t : lf_Z, tn_S z f n a m v (ds_num f n lo hi b).2 t → Q (ds_num f n lo hi b).1 t) : fw_213 i lo hi Q s := by
  have KT := la_Bk h.2.1
  unfold la_kt at KT
  have r10 := la_10 h.2.1
  unfold ds_num at kk
  unfold fw_213
  intro _
  refine ⟨fun q => fl_183 ⟨fun y _ => ?_, fun y => ?_⟩, fun q => ?_⟩
  · have r := r10 q
    rw [Bool.and_eq_true, decide_eq_true_eq, decide_eq_true_eq] at y
    rw [if_pos (by omega), if_pos (by omega)] at kk
    exact tn_nx (tn_98 h i0 i1) (fun t ht _ _ => kk t ht)
  · have r := r10 q
    rw [Bool.and_eq_false_iff, decide_eq_false_iff_not, decide_eq_false_iff_not] at y
    rw [if_pos (by omega), if_neg (by omega)] at kk
    exact kk s h
  · rw [if_neg (by omega)] at kk
    exact kk s h
theorem fl_214 {w i lo hi : Int} {Q : Int → lf_Z → Prop} (j : Nat) (hj : j < 37) (hw : lf_wl w = lx_pkr (la_r j)) (h : tn_S z f n a m v b s) (h9 : hi ≤ 9999) (i0 : a < i) (i1 : i < a + 97) (kk : ∀ t : lf_Z, tn_S z f n a m v (ds_bd (ds_ex f n (20 + j) b) (ds_num f n lo hi)).2 t → Q (ds_bd (ds_ex f n (20 + j) b) (ds_num f n lo hi)).1 t) : fw_214 w i lo hi Q s := by
  unfold ds_ex at kk
  unfold fw_214
  refine fl_207 h.2.1 j hj (by rw [lf_wlI]; exact hw) ⟨fun y => ?_, fun y => ?_⟩
  · rw [if_pos (of_decide_eq_true y)] at kk
    exact tn_nx h (fun t ht _ _ => fl_213 ht h9 i0 i1 kk)
  · rw [if_neg (of_decide_eq_false y)] at kk
    exact kk s h
theorem fl_212 {i lo hi w lo2 hi2 : Int} {Q : Int → lf_Z → Prop} (j : Nat) (hj : j < 37) (hw : lf_wl w = lx_pkr (la_r j)) (h : tn_S z f n a m v b s) (h9 : hi ≤ 9999) (h92 : hi2 ≤ 9999) (i0 : a ≤ i) (i1 : i + 2 < a + 97) (kk : ∀ t : lf_Z, tn_S z f n a m v (ds_bd (ds_bd (ds_num f n lo hi b) (ds_ex f n (20 + j))) (ds_num f n lo2 hi2)).2 t → Q (ds_bd (ds_bd (ds_num f n lo hi b) (ds_ex f n (20 + j))) (ds_num f n lo2 hi2)).1 t) : fw_212 i lo hi w lo2 hi2 Q s := by
  unfold fw_212
  refine fl_213 h h9 (by omega) (by omega) (fun t ht => ?_)
  intro _
  refine ⟨fun y => ?_, fun y => ?_⟩
  · rw [ds_bd0 y] at kk
    exact fl_214 j hj (by rw [lf_wlI]; exact hw) ht h92 (by omega) (by omega) kk
  · rw [ds_bdF y, ds_bdF y] at kk
    exact kk t ht
theorem tn_deed {w A B C D E : Int} (h0 : tx_sh ((w - 23) * 5) = A) (h1 : tx_sh ((w - 23) * 5 + 1) = B) (h2 : tx_sh ((w - 23) * 5 + 2) = C) (h3 : tx_sh ((w - 23) * 5 + 3) = D) (h4 : tx_sh ((w - 23) * 5 + 4) = E) : ds_deed f n w b = if C = 0 then ds_num f n A B b else ds_bd (ds_bd (ds_num f n A B b) (ds_ex f n C)) (ds_num f n D E) := by
  unfold ds_deed
  rw [h0, h1, h2, h3, h4]
/-- the law's sum -/
theorem fl_215 {i : Int} {Q : Int → lf_Z → Prop} (h : tn_S z f n a m v b s) (hn : n ≤ 300) (hl : s.1 95 14 = law) (l0 : 0 ≤ law) (l2 : law ≤ 2) (i0 : a ≤ i) (i1 : i + 2 < a + 97) (kk : ∀ t : lf_Z, tn_Q z f n a m v ((ds_T f n law 200).1 0 (fun _ => -1) b) t → Q ((ds_T f n law 200).1 0 (fun _ => -1) b).1 t) : fw_215 i Q s := by
  have b0 := h.2.1.2.2.2.1
  have R := lm_topS (f := f) (law := law) hn b0
  generalize (ds_T f n law 200).1 0 (fun _ => -1) b = V at R kk
  unfold fw_215
  intro _
  have h1 := tn_98 (w := s.1 95 13) h (show a < i + 1 by omega) (by omega)
  have hl1 : ((lf_up s.1 98 (i + 1) (s.1 95 13), s.2.1, s.2.2) : lf_Z).1 95 14 = law := (zu_c (by decide)).trans hl
  generalize ((lf_up s.1 98 (i + 1) (s.1 95 13), s.2.1, s.2.2) : lf_Z) = y at h1 hl1 ⊢
  obtain ⟨hF, hB, x1, x2, x3, o, x4, x5⟩ := h1
  refine fl_216R (o := o) R hB x4 (by rw [x1]; exact x5) hl1 l0 l2 (fun u uB uF uO => ?_)
  intro _
  have u12 : u.1 95 12 = a := (uF.2.1 12 (by omega) (by decide) (by omega)).trans x1
  have u98 : u.1 98 a = m := (uF.2.2.1 a (by omega)).trans x2
  have u24 : u.1 95 24 = v := (uF.2.1 24 (by omega) (by decide) (by omega)).trans x3
  have zF : tn_F z u := tn_Ft hF (tn_Fl uF)
  obtain ⟨t, ht⟩ : ∃ t : lf_Z, t = (lf_up u.1 98 (i + 2) (u.1 95 13), u.2.1, u.2.2) := ⟨_, rfl⟩
  rw [← ht]
  have e : ∀ q : Nat, q ≠ 98 → t.1 q = u.1 q := fun q hq => by rw [ht]; exact zu_r hq
  have eJ : t.2 = u.2 := by rw [ht]
  refine kk t ⟨tn_Ft zF ⟨fun q _ a2 _ _ _ _ => e q a2, fun i _ _ => by rw [e 95 (by decide)], by rw [eJ]⟩, la_Bx uB (e 99 (by decide)) (fun i _ => by rw [e 95 (by decide)]) (by rw [eJ]), fun q => ?_⟩
  obtain ⟨o', o1, o2⟩ := uO q
  rw [x1] at o2
  rw [ht]
  exact (tn_98 (z := z) (w := u.1 95 13) ⟨zF, uB, u12, u98, u24, o', o1, o2⟩ (show a < i + 2 by omega) (by omega)).2.2
/-- what a clause says behind its first word -/
def tn_bd (f : Int → Int) (n x b : Int) : Int × Int := if 2 < x then ds_deed f n (20 + x) b else (ds_T f n x 200).1 0 (fun _ => -1) b
theorem fl_211 {x i : Int} {Q : Int → lf_Z → Prop} (h : tn_S z f n a m v b s) (hn : n ≤ 300) (hl : s.1 95 14 = x) (x0 : 0 ≤ x) (x1 : x ≤ 12) (i0 : a ≤ i) (i1 : i + 2 < a + 97) (kk : ∀ t : lf_Z, tn_Q z f n a m v (tn_bd f n x b) t → Q (tn_bd f n x b).1 t) : fw_211 x i Q s := by
  have D : ∀ r : Int × Int, r = tn_bd f n x b → ∀ t : lf_Z, tn_S z f n a m v r.2 t → Q r.1 t := fun r e t ht => by
    rw [e]; rw [e] at ht
    exact kk t ⟨ht.1, ht.2.1, fun _ => ht.2.2⟩
  have P : ∀ {A B C E F : Int}, 2 < x → C ≠ 0 → tx_sh ((20 + x - 23) * 5) = A → tx_sh ((20 + x - 23) * 5 + 1) = B → tx_sh ((20 + x - 23) * 5 + 2) = C → tx_sh ((20 + x - 23) * 5 + 3) = E → tx_sh ((20 + x - 23) * 5 + 4) = F → ds_bd (ds_bd (ds_num f n A B b) (ds_ex f n C)) (ds_num f n E F) = tn_bd f n x b := by
    intro A B C E F g g0 h0 h1 h2 h3 h4
    unfold tn_bd
    rw [if_pos g, tn_deed h0 h1 h2 h3 h4, if_neg g0]
  have P0 : ∀ {A B E F : Int}, 2 < x → tx_sh ((20 + x - 23) * 5) = A → tx_sh ((20 + x - 23) * 5 + 1) = B → tx_sh ((20 + x - 23) * 5 + 2) = 0 → tx_sh ((20 + x - 23) * 5 + 3) = E → tx_sh ((20 + x - 23) * 5 + 4) = F → ds_num f n A B b = tn_bd f n x b := by
    intro A B E F g h0 h1 h2 h3 h4
    unfold tn_bd
    rw [if_pos g, tn_deed h0 h1 h2 h3 h4, if_pos rfl]
  unfold fw_211
  intro _
  refine ⟨fun q => ?_, fun q => ?_, fun q => ?_, fun q => ?_, fun q => ?_, fun q => ?_, fun q => ?_, fun q => ?_, fun q => ?_, fun q => ?_, fun q => ?_⟩
  · refine fl_215 h hn hl x0 (by omega) i0 i1 (fun t ht => ?_)
    have e : tn_bd f n x b = (ds_T f n x 200).1 0 (fun _ => -1) b := if_neg (by omega)
    rw [e] at kk
    exact kk t ht
  · subst q
    exact fl_204 (fl_212 13 (by decide) (by rw [lf_wlI]; decide +kernel) h (by decide) (by decide) i0 i1 (D _ (P (by decide) (by decide) (by decide +kernel) (by decide +kernel) (by decide +kernel) (by decide +kernel) (by decide +kernel))))
  · subst q
    exact fl_206 (fl_212 14 (by decide) (by rw [lf_wlI]; decide +kernel) h (by decide) (by decide) i0 i1 (D _ (P (by decide) (by decide) (by decide +kernel) (by decide +kernel) (by decide +kernel) (by decide +kernel) (by decide +kernel))))
  · subst q
    exact fl_206 (fl_212 14 (by decide) (by rw [lf_wlI]; decide +kernel) h (by decide) (by decide) i0 i1 (D _ (P (by decide) (by decide) (by decide +kernel) (by decide +kernel) (by decide +kernel) (by decide +kernel) (by decide +kernel))))
  · subst q
    exact fl_206 (fl_212 15 (by decide) (by rw [lf_wlI]; decide +kernel) h (by decide) (by decide) i0 i1 (D _ (P (by decide) (by decide) (by decide +kernel) (by decide +kernel) (by decide +kernel) (by decide +kernel) (by decide +kernel))))
  · subst q
    exact fl_206 (fl_212 15 (by decide) (by rw [lf_wlI]; decide +kernel) h (by decide) (by decide) i0 i1 (D _ (P (by decide) (by decide) (by decide +kernel) (by decide +kernel) (by decide +kernel) (by decide +kernel) (by decide +kernel))))
  · subst q
    exact fl_206 (fl_212 14 (by decide) (by rw [lf_wlI]; decide +kernel) h (by decide) (by decide) i0 i1 (D _ (P (by decide) (by decide) (by decide +kernel) (by decide +kernel) (by decide +kernel) (by decide +kernel) (by decide +kernel))))
  · subst q
    exact fl_213 h (by decide) (by omega) (by omega) (D _ (P0 (by decide) (by decide +kernel) (by decide +kernel) (by decide +kernel) rfl rfl))
  · subst q
    exact fl_213 h (by decide) (by omega) (by omega) (D _ (P0 (by decide) (by decide +kernel) (by decide +kernel) (by decide +kernel) rfl rfl))
  · subst q
    exact fl_206 (fl_212 16 (by decide) (by rw [lf_wlI]; decide +kernel) h (by decide) (by decide) i0 i1 (D _ (P (by decide) (by decide) (by decide +kernel) (by decide +kernel) (by decide +kernel) (by decide +kernel) (by decide +kernel))))
  · subst q
    exact fl_213 h (by decide) (by omega) (by omega) (D _ (P0 (by decide) (by decide +kernel) (by decide +kernel) (by decide +kernel) rfl rfl))
/-! which laws have been told -/
def tn_v3 (x y w : Bool) : Int := (if x = true then 1 else 0) + (if y = true then 2 else 0) + (if w = true then 4 else 0)
def tn_v (o : Int → Bool) : Int := tn_v3 (o 0) (o 1) (o 2)
theorem tn_vD : ∀ x y w : Bool, (lf_and (lf_shr (tn_v3 x y w) 0) 1 = if x = true then 1 else 0) ∧ (lf_and (lf_shr (tn_v3 x y w) 1) 1 = if y = true then 1 else 0) ∧ (lf_and (lf_shr (tn_v3 x y w) 2) 1 = if w = true then 1 else 0) ∧ lf_or (tn_v3 x y w) (lf_shl 1 0) = tn_v3 true y w ∧ lf_or (tn_v3 x y w) (lf_shl 1 1) = tn_v3 x true w ∧ lf_or (tn_v3 x y w) (lf_shl 1 2) = tn_v3 x y true := by decide +kernel
theorem tn_vb {l : Int} (h0 : 0 ≤ l) (h2 : l ≤ 2) : (lf_and (lf_shr (tn_v o) l) 1 = if o l = true then 1 else 0) ∧ lf_or (tn_v o) (lf_shl 1 l) = tn_v (fun j => o j || decide (l = j)) := by
  obtain ⟨d1, d2, d3, d4, d5, d6⟩ := tn_vD (o 0) (o 1) (o 2)
  rcases (show l = 0 ∨ l = 1 ∨ l = 2 by omega) with e | e | e
  · subst e
    refine ⟨d1, d4.trans ?_⟩
    show _ = tn_v3 (o 0 || true) (o 1 || false) (o 2 || false)
    rw [Bool.or_true, Bool.or_false, Bool.or_false]
  · subst e
    refine ⟨d2, d5.trans ?_⟩
    show _ = tn_v3 (o 0 || false) (o 1 || true) (o 2 || false)
    rw [Bool.or_true, Bool.or_false, Bool.or_false]
  · subst e
    refine ⟨d3, d6.trans ?_⟩
    show _ = tn_v3 (o 0 || false) (o 1 || false) (o 2 || true)
    rw [Bool.or_true, Bool.or_false, Bool.or_false]
/-- a clause -/
theorem fl_202 {Q : Int → lf_Z → Prop} (h : tn_S z f n a m (tn_v o) b s) (hn : n ≤ 300) (m0 : 0 ≤ m) (m1 : m ≤ 24) (kk : ∀ (r : Int × Int) (t : lf_Z), r = (if tx_ok f n m o b ≠ 0 then (tx_ok f n m o b, b) else ds_cl f n (fun _ => -1) b) → tn_Q z f n a (m + 1) (tn_v (tx_o f n o b)) r t → Q r.1 t) : fw_202 Q s := by
  have bad : ∀ w : Int, w ≠ 0 → tx_ok f n m o b = w → Q w s := fun w hw e => by
    refine kk (w, b) s ?_ ⟨h.1, h.2.1, fun q => absurd q hw⟩
    rw [e, if_pos hw]
  have x12 : s.1 95 12 = a := h.2.2.1
  have x98 : s.1 98 a = m := h.2.2.2.1
  have x24 : s.1 95 24 = tn_v o := h.2.2.2.2.1
  have p65 : ∀ (x : Int) (u : lf_Z), tn_S z f n a m (tn_v (tx_o f n o b)) b u → tx_ok f n m o b = 0 → m < 24 → x = lx_T f n b - 20 → 0 ≤ x → x ≤ 12 → fw_202_p65 Q x m u := by
    intro x u hu ok m24 ex e0 e1
    rw [ok, if_neg (fun q => q rfl)] at kk
    have ecl : ds_cl f n (fun _ => -1) b = ds_bd (tn_bd f n x (ds_ad f n b)) (ds_ex f n 16) := by
      unfold ds_cl tn_bd
      by_cases q : 2 < x
      · rw [if_pos q, if_pos (by omega), show (20 : Int) + x = lx_T f n b by omega]
      · rw [if_neg q, if_neg (by omega), ex]
    rw [ecl] at kk
    unfold fw_202_p65
    have hu2 : tn_S z f n a m (tn_v (tx_o f n o b)) b (lf_up u.1 95 14 x, u.2.1, u.2.2) := tn_95 hu rfl (fun q hq _ => zu_r hq) (fun i hi _ => zu_i hi) (fun j _ => zu_c (by decide)) ((zu_c (by decide)).trans hu.2.2.2.1) ((zu_i (by decide)).trans hu.2.2.2.2.1)
    refine tn_nx hu2 (fun t ht t95 tq => ?_)
    rw [ht.2.2.1]
    intro _
    have h4 := tn_98 (w := x) ht (show a < a + 1 + 4 * m by omega) (by omega)
    have l4 : ((lf_up t.1 98 (a + 1 + 4 * m) x, t.2.1, t.2.2) : lf_Z).1 95 14 = x := (zu_c (by decide)).trans ((t95 14 (by omega)).trans zu_s)
    refine fl_211 h4 hn l4 e0 e1 (by omega) (by omega) (fun y hy => ?_)
    obtain ⟨yF, yB, yX⟩ := hy
    intro _
    refine ⟨fun q _ _ => ?_, fun q => ?_⟩
    · have yX := yX q
      rw [ds_bd0 q] at kk
      unfold ds_ex at kk
      have KT := la_Bk yB
      unfold la_kt at KT
      have y12 : y.1 95 12 = a := yX.1
      rw [y12, yX.2.1]
      have hy2 : tn_S z f n a (m + 1) (tn_v (tx_o f n o b)) (tn_bd f n x (ds_ad f n b)).2 (lf_up y.1 98 a (m + 1), y.2.1, y.2.2) := tn_95 ⟨yF, yB, yX⟩ rfl (fun q _ hq => zu_r hq) (fun i _ _ => zu_c (by decide)) (fun j hj => zu_i hj) zu_s ((zu_c (by decide)).trans yX.2.2.1)
      refine ⟨fun w => tn_nx hy2 (fun g hg _ _ => ?_), fun w => ?_⟩
      · rw [if_pos (by omega)] at kk
        exact kk _ g rfl ⟨hg.1, hg.2.1, fun _ => hg.2.2⟩
      · rw [if_neg (by omega)] at kk
        exact kk _ _ rfl ⟨hy2.1, hy2.2.1, fun c => absurd c (show ¬ (1 : Int) = 0 by decide)⟩
    · rw [ds_bdF q] at kk
      exact kk _ y rfl ⟨yF, yB, fun c => absurd c q⟩
  have p29 : ∀ x : Int, x = lx_T f n b - 20 → 0 ≤ x → x ≤ 12 → (x ≤ 2 → o x = false) → fw_202_p29 Q x s := by
    intro x ex e0 e1 e2
    unfold fw_202_p29
    rw [x12, x98]
    intro _ _
    have okE : tx_ok f n m o b = if 24 ≤ m then 6 else 0 := by
      unfold tx_ok
      rw [if_neg (fun q => q ⟨by omega, by omega⟩), if_neg (fun q => ?_)]
      have := e2 (by omega)
      rw [← ex, this] at q
      cases q.2
    refine ⟨fun q _ => ⟨fun q2 => p65 x s ?_ ?_ (by omega) ex e0 e1, fun q2 => p65 x _ ?_ ?_ (by omega) ex e0 e1⟩, fun q => bad 6 (by decide) ?_⟩
    · have : tn_v (tx_o f n o b) = tn_v o := by
        show tn_v3 (o 0 || decide (lx_T f n b - 20 = 0)) (o 1 || decide (lx_T f n b - 20 = 1)) (o 2 || decide (lx_T f n b - 20 = 2)) = tn_v3 (o 0) (o 1) (o 2)
        rw [decide_eq_false (by omega), decide_eq_false (by omega), decide_eq_false (by omega), Bool.or_false, Bool.or_false, Bool.or_false]
      rw [this]; exact h
    · rw [okE, if_neg (by omega)]
    · have w := (tn_vb (o := o) e0 (by omega)).2
      rw [x24, w]
      have e9 : tn_v (fun j => o j || decide (x = j)) = tn_v (tx_o f n o b) := by rw [ex]; rfl
      rw [e9]
      exact tn_95 h rfl (fun q hq _ => zu_r hq) (fun i _ hi => zu_i hi) (fun j _ => zu_c (by decide)) ((zu_c (by decide)).trans x98) zu_s
    · rw [okE, if_neg (by omega)]
    · rw [okE, if_pos (by omega)]
  unfold fw_202
  refine fl_203 h.2.1 (fun x hx => ?_)
  intro _
  by_cases c : 20 ≤ lx_T f n b ∧ lx_T f n b ≤ 32
  · rw [if_pos c] at hx
    refine ⟨fun _ => ⟨fun q => p29 x hx (by omega) (by omega) (fun w => by omega), fun q => ?_⟩, fun q => by omega⟩
    have w := (tn_vb (o := o) (l := x) (by omega) (by omega)).1
    unfold fw_210
    rw [x24, w]
    refine ⟨fun y => ⟨fun _ => p29 x hx (by omega) (by omega) (fun _ => ?_), fun g => (by cases g)⟩, fun y => ⟨fun g => (by cases g), fun _ => bad 4 (by decide) ?_⟩⟩
    · cases g : o x with
      | false => rfl
      | true => rw [g] at y; exact absurd rfl y
    · have g : o x = true := by
        cases g : o x with
        | true => rfl
        | false => rw [g] at y; exact absurd (show (if false = true then (1 : Int) else 0) ≠ 1 by decide) y
      unfold tx_ok
      rw [if_neg (fun q => q c), if_pos ⟨by omega, by rw [← hx]; exact g⟩]
  · rw [if_neg c] at hx
    refine ⟨fun q => by omega, fun _ => bad 1 (by decide) ?_⟩
    unfold tx_ok
    rw [if_pos c]
/-- a text -/
theorem fl_196 {Q : Int → lf_Z → Prop} (hn : s.1 95 4 ≤ 300) (hb : cl_tp (s.1 99) (s.1 95 4)) (kk : ∀ t : lf_Z, tn_F s t → t.1 95 8 = (tx_v (s.1 99) (s.1 95 4) (fun _ => -1)).2 → Q (tx_v (s.1 99) (s.1 95 4) (fun _ => -1)).1 t) : fw_196 Q s := by
  unfold fw_196
  intro _
  generalize hf : s.1 99 = f at hb kk
  generalize hnn : s.1 95 4 = n at hn hb kk
  generalize 705 * s.1 96 7 = a
  obtain ⟨u, hu⟩ : ∃ u : lf_Z, u = (lf_up (lf_up (lf_up (lf_up (lf_up s.1 95 12 a) 98 a 0) 95 13 0) 95 24 0) 95 7 0, s.2.1, s.2.2) := ⟨_, rfl⟩
  rw [← hu]
  have u95 : ∀ i : Int, i ≠ 7 → i ≠ 12 → i ≠ 13 → i ≠ 24 → u.1 95 i = s.1 95 i := fun i h7 h12 h13 h24 => by rw [hu]; exact (zu_i h7).trans ((lf_up_i h24).trans ((lf_up_i h13).trans ((lf_up_c (by decide)).trans (lf_up_i h12))))
  have uq : ∀ q : Nat, q ≠ 95 → q ≠ 98 → u.1 q = s.1 q := fun q h1 h2 => by rw [hu]; exact (zu_r h1).trans ((lf_up_row h1).trans ((lf_up_row h1).trans ((lf_up_row h2).trans (lf_up_row h1))))
  have u7 : u.1 95 7 = 0 := by rw [hu]; exact zu_s
  have u12 : u.1 95 12 = a := by rw [hu]; exact (zu_i (by decide)).trans ((lf_up_i (by decide)).trans ((lf_up_i (by decide)).trans ((lf_up_c (by decide)).trans lf_up_s)))
  have u13 : u.1 95 13 = 0 := by rw [hu]; exact (zu_i (by decide)).trans ((lf_up_i (by decide)).trans lf_up_s)
  have u24 : u.1 95 24 = 0 := by rw [hu]; exact (zu_i (by decide)).trans lf_up_s
  have u98 : u.1 98 a = 0 := by rw [hu]; exact (zu_c (by decide)).trans ((lf_up_c (by decide)).trans ((lf_up_c (by decide)).trans lf_up_s))
  have uP : u.2.2 = s.2.2 := by rw [hu]
  have uf : u.1 99 = f := (uq 99 (by decide) (by decide)).trans hf
  have un : u.1 95 4 = n := (u95 4 (by decide) (by decide) (by decide) (by decide)).trans hnn
  have uF : tn_F s u := ⟨fun q a1 a2 _ _ _ _ => uq q a1 a2, fun i c d => u95 i (by omega) (by omega) (by omega) (by omega), uP⟩
  refine fl_197 (by rw [u7]; exact Int.le_refl 0) (by rw [uf, un]; exact hb) (fun t tF tA => ?_)
  obtain ⟨f1, f2, f3⟩ := tF
  rw [uf, un, u7] at tA
  have t95 : ∀ i : Int, ¬ (7 ≤ i ∧ i ≤ 10) → t.1 95 i = u.1 95 i := fun i hi => f2 i (by omega) (by omega) (by omega) (by omega)
  have tF : tn_F s t := tn_Ft uF ⟨fun q a1 _ _ _ _ _ => f1 q a1, fun i c d => t95 i (by omega), f3⟩
  have tS : tn_S s f n a 0 (tn_v (fun _ => false)) (lx_sk f n 0) t := ⟨tF, ⟨(f1 99 (by decide)).trans uf, (t95 4 (by omega)).trans un, tA, lx_runB, hb⟩, (t95 12 (by omega)).trans u12, (by rw [f1 98 (by decide)]; exact u98), (t95 24 (by omega)).trans u24, [], (t95 13 (by omega)).trans u13, trivial⟩
  refine ⟨fun t => ∃ (b m : Int) (o : Int → Bool), tn_S s f n a m (tn_v o) b t ∧ 0 ≤ m ∧ m ≤ 24 ∧ tx_lp f n (fun _ => -1) (301 - m).toNat m o b = tx_v f n (fun _ => -1), ?_, ⟨_, 0, _, tS, Int.le_refl 0, by decide, rfl⟩⟩
  intro t ⟨b, m, o, tS, m0, m1, hl⟩
  have KT := la_Bk tS.2.1
  unfold la_kt at KT
  rw [show (301 - m).toNat = (300 - m).toNat + 1 by omega] at hl
  have hl : (if lx_T f n b = 0 then (0, b) else if tx_ok f n m o b ≠ 0 then (tx_ok f n m o b, b) else ds_bd (ds_cl f n (fun _ => -1) b) (tx_lp f n (fun _ => -1) (300 - m).toNat (m + 1) (tx_o f n o b))) = tx_v f n (fun _ => -1) := hl
  have t8 : ∀ {r : Int} {w : lf_Z}, la_B f n r w → w.1 95 8 = r := fun h => h.2.2.1.1
  unfold fw_196_p44
  intro _
  refine ⟨fun q => ?_, fun q => ?_⟩
  · rw [if_pos (by omega)] at hl
    rw [← hl] at kk
    exact kk t tS.1 (t8 tS.2.1)
  · rw [if_neg (by omega)] at hl
    refine fl_202 tS hn m0 m1 (fun r w hr hw => ?_)
    obtain ⟨wF, wB, wX⟩ := hw
    intro _
    by_cases k : tx_ok f n m o b ≠ 0
    · rw [if_pos k] at hl hr
      rw [hr] at wB ⊢
      refine ⟨fun y => absurd y k, fun _ => ?_⟩
      rw [← hl] at kk
      exact kk w wF (t8 wB)
    · rw [if_neg k] at hl hr
      rw [← hr] at hl
      refine ⟨fun y => ⟨r.2, m + 1, tx_o f n o b, ⟨wF, wB, wX y⟩, by omega, ?_, ?_⟩, fun y => ?_⟩
      · unfold tx_ok at k
        by_cases g : 24 ≤ m
        · exfalso
          apply k
          (repeat' split) <;> first | decide | omega
        · omega
      · rw [ds_bd0 y] at hl
        rw [show (301 - (m + 1)).toNat = (300 - m).toNat by omega]
        exact hl
      · rw [ds_bdF y] at hl
        rw [← hl] at kk
        exact kk w wF (t8 wB)
/-- text of the reference -/
theorem fl_195 {Q : Int → lf_Z → Prop} (hn : s.1 95 4 ≤ 300) (hb : cl_tp (s.1 99) (s.1 95 4)) (k4 : s.1 96 7 = 4 → Q (-1) s) (kk : s.1 96 7 ≠ 4 → ∀ (w : Int) (t : lf_Z), t.1 99 = s.1 99 → t.1 95 4 = 0 → t.1 95 5 = (tx_v (s.1 99) (s.1 95 4) (fun _ => -1)).1 → ((tx_v (s.1 99) (s.1 95 4) (fun _ => -1)).1 = 0 → t.1 95 6 = -1 ∧ w = s.1 96 7 ∧ t.1 96 7 = s.1 96 7 + 1 ∧ ∀ i : Int, i ≠ 7 → t.1 96 i = s.1 96 i) → ((tx_v (s.1 99) (s.1 95 4) (fun _ => -1)).1 ≠ 0 → t.1 95 6 = (tx_v (s.1 99) (s.1 95 4) (fun _ => -1)).2 ∧ w = -1 ∧ t.1 96 = s.1 96) → Q w t) : fw_195 Q s := by
  unfold fw_195
  intro _
  refine ⟨fun c => fl_196 hn hb (fun t tF t8 => ?_), fun c => k4 (Classical.not_not.mp c)⟩
  have kk := kk c
  generalize tx_v (s.1 99) (s.1 95 4) (fun _ => -1) = V at kk t8 ⊢
  have t99 : t.1 99 = s.1 99 := tF.1 99 (by decide) (by decide) (by decide) (by decide) (by decide) (by decide)
  have t96 : t.1 96 = s.1 96 := tF.1 96 (by decide) (by decide) (by decide) (by decide) (by decide) (by decide)
  intro _
  have e5 : ∀ {x : Int}, ((lf_up t.1 95 5 x, t.2.1, t.2.2) : lf_Z).1 95 5 = x := zu_s
  have e96 : ∀ {x : Int}, ((lf_up t.1 95 5 x, t.2.1, t.2.2) : lf_Z).1 96 = t.1 96 := zu_r (by decide)
  refine ⟨fun y => ?_, fun y => ?_⟩
  · unfold fw_195_p37
    rw [e5]
    intro _
    refine ⟨fun w => absurd w y, fun _ => kk _ _ ?_ ?_ ?_ (fun w => absurd w y) (fun _ => ⟨?_, rfl, ?_⟩)⟩
    · exact (zu_r (by decide)).trans ((lf_up_row (by decide)).trans ((zu_r (by decide)).trans t99))
    · exact zu_s
    · exact (zu_i (by decide)).trans ((lf_up_i (by decide)).trans zu_s)
    · exact (zu_i (by decide)).trans (lf_up_s.trans t8)
    · exact (zu_r (by decide)).trans ((lf_up_row (by decide)).trans ((zu_r (by decide)).trans t96))
  · have y := Classical.not_not.mp y
    unfold fw_195_p37
    rw [e5, e96, t96]
    intro _
    refine ⟨fun _ => kk _ _ ?_ ?_ ?_ (fun _ => ⟨?_, ?_, ?_, fun i hi => ?_⟩) (fun w => absurd y w), fun w => absurd y w⟩
    · exact (zu_r (by decide)).trans ((lf_up_row (by decide)).trans ((lf_up_row (by decide)).trans ((zu_r (by decide)).trans t99)))
    · exact (zu_c (by decide)).trans lf_up_s
    · exact (zu_c (by decide)).trans ((lf_up_i (by decide)).trans ((lf_up_i (by decide)).trans zu_s))
    · exact (zu_c (by decide)).trans ((lf_up_i (by decide)).trans lf_up_s)
    · omega
    · exact zu_s
    · exact (zu_i hi).trans ((lf_up_c (by decide)).trans ((lf_up_c (by decide)).trans ((zu_c (by decide)).trans (congrFun t96 i))))
end LE
