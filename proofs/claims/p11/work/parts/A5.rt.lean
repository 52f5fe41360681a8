/-! the reference's text: what it writes -/
section RT
variable {f : Int → Int} {n law a b c k i : Int} {P : ln_P} {o : List (Int × Int)} {s t z u : lf_Z} {r : Int × Int} {D : List Int} {F G : Int → Int}
abbrev tz_T : Type := (Int → Int) → List (Int × Int) → Prop
variable {W W' : tz_T}
/-- the texts before a are as they were -/
def tz_L (z : lf_Z) (a : Int) (t : lf_Z) : Prop := tn_F z t ∧ ∀ j : Int, j < a → t.1 98 j = z.1 98 j
def tz_S (z : lf_Z) (a : Int) (W : tz_T) (f : Int → Int) (n b : Int) (s : lf_Z) : Prop := tz_L z a s ∧ la_B f n b s ∧ s.1 95 12 = a ∧ ∃ o : List (Int × Int), s.1 95 13 = o.length ∧ ln_ou (s.1 98) (a + 97) o ∧ W (s.1 98) o
def tz_Q (z : lf_Z) (a : Int) (W : tz_T) (f : Int → Int) (n : Int) (r : Int × Int) (t : lf_Z) : Prop := tz_L z a t ∧ (r.1 = 0 → tz_S z a W f n r.2 t)
theorem tz_nx {Q : lf_Z → Prop} (h : tz_S z a W f n b s) (kk : ∀ t : lf_Z, tz_S z a W f n (ds_ad f n b) t → (∀ i : Int, ¬ (7 ≤ i ∧ i ≤ 10) → t.1 95 i = s.1 95 i) → (∀ q : Nat, q ≠ 95 → t.1 q = s.1 q) → Q t) : fw_197 Q s := by
  have h7 := la_0 h.2.1
  obtain ⟨⟨hF, hL⟩, ⟨b1, b2, b3, b4, b5⟩, x1, o, x2, x3, x4⟩ := h
  refine fl_197 h7 (by rw [b1, b2]; exact b5) (fun t tF tA => ?_)
  obtain ⟨f1, f2, f3⟩ := tF
  have r7 : s.1 95 7 = lx_E f n b := by rw [← b1, ← b2]; exact b3.2.2.1
  rw [b1, b2, r7] at tA
  have u95 : ∀ i : Int, ¬ (7 ≤ i ∧ i ≤ 10) → t.1 95 i = s.1 95 i := fun i hi => f2 i (by omega) (by omega) (by omega) (by omega)
  have e98 : t.1 98 = s.1 98 := f1 98 (by decide)
  refine kk t ⟨⟨tn_Ft hF ⟨fun q a1 _ _ _ _ _ => f1 q a1, fun i c d => u95 i (by omega), f3⟩, fun j hj => by rw [e98]; exact hL j hj⟩, ⟨(f1 99 (by decide)).trans b1, (u95 4 (by omega)).trans b2, tA, cl_ad0 b4, b5⟩, (u95 12 (by omega)).trans x1, o, (u95 13 (by omega)).trans x2, by rw [e98]; exact x3, by rw [e98]; exact x4⟩ u95 f1
/-- a cell is written -/
def tz_1 (i v : Int) (W : tz_T) : tz_T := fun F o => ∃ G : Int → Int, W G o ∧ F = ds_u1 G i v
theorem ln_ouX {F G : Int → Int} : ∀ o : List (Int × Int), (∀ j : Int, a ≤ j → F j = G j) → ln_ou G a o → ln_ou F a o := by
  intro o
  induction o with
  | nil => intro _ _; trivial
  | cons x o ih => intro e h; exact ⟨(e _ (by omega)).trans h.1, (e _ (by omega)).trans h.2.1, ih e h.2.2⟩
theorem tz_98 {v : Int} (h : tz_S z a W f n b s) (i0 : a ≤ i) (i1 : i < a + 97) : tz_S z a (tz_1 i v W) f n b (lf_up s.1 98 i v, s.2.1, s.2.2) := by
  obtain ⟨⟨hF, hL⟩, hB, x1, o, x2, x3, x4⟩ := h
  obtain ⟨t, ht⟩ : ∃ t : lf_Z, t = (lf_up s.1 98 i v, s.2.1, s.2.2) := ⟨_, rfl⟩
  rw [← ht]
  have e : ∀ q : Nat, q ≠ 98 → t.1 q = s.1 q := fun q hq => by rw [ht]; exact zu_r hq
  have e3 : t.1 98 = ds_u1 (s.1 98) i v := by rw [ht]; exact (tp_row : lf_up s.1 98 i v 98 = ds_u1 (s.1 98) i v)
  have eJ : t.2 = s.2 := by rw [ht]
  have e95 := e 95 (by decide)
  refine ⟨⟨tn_Ft hF ⟨fun q _ a2 _ _ _ _ => e q a2, fun i _ _ => by rw [e95], by rw [eJ]⟩, fun j hj => ?_⟩, la_Bx hB (e 99 (by decide)) (fun i _ => by rw [e95]) (by rw [eJ]), by rw [e95]; exact x1, o, by rw [e95]; exact x2, ?_, s.1 98, x4, e3⟩
  · rw [e3]; exact (if_neg (by omega)).trans (hL j hj)
  · rw [e3]; exact ln_ouX o (fun j hj => if_neg (by omega)) x3
theorem tz_95 (h : tz_S z a W f n b s) {v : Int} (hk : k = 14 ∨ k = 24) : tz_S z a W f n b (lf_up s.1 95 k v, s.2.1, s.2.2) := by
  obtain ⟨⟨hF, hL⟩, hB, x1, o, x2, x3, x4⟩ := h
  have e : ∀ q : Nat, q ≠ 95 → (lf_up s.1 95 k v) q = s.1 q := fun q hq => lf_up_row hq
  have e2 : ∀ i : Int, i ≠ k → (lf_up s.1 95 k v) 95 i = s.1 95 i := fun i hi => lf_up_i hi
  refine ⟨⟨tn_Ft hF ⟨fun q a1 _ _ _ _ _ => e q a1, fun i c d => e2 i (by omega), rfl⟩, fun j hj => ?_⟩, la_Bx hB (e 99 (by decide)) (fun i hi => e2 i (by omega)) rfl, (e2 12 (by omega)).trans x1, o, (e2 13 (by omega)).trans x2, ?_, ?_⟩
  · exact (congrFun (e 98 (by decide)) j).trans (hL j hj)
  · show ln_ou ((lf_up s.1 95 k v) 98) _ _
    rw [e 98 (by decide)]; exact x3
  · show W ((lf_up s.1 95 k v) 98) o
    rw [e 98 (by decide)]; exact x4
theorem tz_m (h : tz_S z a W f n b s) (m : ∀ F o, W F o → ln_ou F (a + 97) o → W' F o) : tz_S z a W' f n b s := by
  obtain ⟨h1, h2, h3, o, h4, h5, h6⟩ := h
  exact ⟨h1, h2, h3, o, h4, h5, m _ _ h6 h5⟩
/-- a number -/
theorem tz_213 {lo hi : Int} {Q : Int → lf_Z → Prop} (h : tz_S z a W f n b s) (h9 : hi ≤ 9999) (i0 : a ≤ i) (i1 : i < a + 97) (kk : ∀ t : lf_Z, tz_Q z a (tz_1 i (lx_V f n b) W) f n (ds_num f n lo hi b) t → Q (ds_num f n lo hi b).1 t) : fw_213 i lo hi Q s := by
  have KT := la_Bk h.2.1
  unfold la_kt at KT
  have r10 := la_10 h.2.1
  unfold ds_num at kk
  unfold fw_213
  intro _
  refine ⟨fun q => fl_183 ⟨fun y _ => ?_, fun y => ?_⟩, fun q => ?_⟩
  · have r := r10 q
    rw [Bool.and_eq_true, decide_eq_true_eq, decide_eq_true_eq] at y
    rw [if_pos (by omega), if_pos (by omega)] at kk
    rw [show s.1 95 10 = lx_V f n b by omega]
    exact tz_nx (tz_98 h i0 i1) (fun t ht _ _ => kk t ⟨ht.1, fun _ => ht⟩)
  · have r := r10 q
    rw [Bool.and_eq_false_iff, decide_eq_false_iff_not, decide_eq_false_iff_not] at y
    rw [if_pos (by omega), if_neg (by omega)] at kk
    exact kk s ⟨h.1, fun c => absurd c (show (2 : Int) ≠ 0 by decide)⟩
  · rw [if_neg (by omega)] at kk
    exact kk s ⟨h.1, fun c => absurd c (show (1 : Int) ≠ 0 by decide)⟩
theorem tz_214 {w lo hi : Int} {Q : Int → lf_Z → Prop} (j : Nat) (hj : j < 37) (hw : lf_wl w = lx_pkr (la_r j)) (h : tz_S z a W f n b s) (h9 : hi ≤ 9999) (i0 : a ≤ i) (i1 : i < a + 97) (kk : ∀ t : lf_Z, tz_Q z a (tz_1 i (lx_V f n (ds_ad f n b)) W) f n (ds_bd (ds_ex f n (20 + j) b) (ds_num f n lo hi)) t → Q (ds_bd (ds_ex f n (20 + j) b) (ds_num f n lo hi)).1 t) : fw_214 w i lo hi Q s := by
  unfold ds_ex at kk
  unfold fw_214
  refine fl_207 h.2.1 j hj (by rw [lf_wlI]; exact hw) ⟨fun y => ?_, fun y => ?_⟩
  · rw [if_pos (of_decide_eq_true y)] at kk
    exact tz_nx h (fun t ht _ _ => tz_213 ht h9 i0 i1 kk)
  · rw [if_neg (of_decide_eq_false y)] at kk
    exact kk s ⟨h.1, fun c => absurd c (show (1 : Int) ≠ 0 by decide)⟩
theorem tz_212 {lo hi w lo2 hi2 : Int} {Q : Int → lf_Z → Prop} (j : Nat) (hj : j < 37) (hw : lf_wl w = lx_pkr (la_r j)) (h : tz_S z a W f n b s) (h9 : hi ≤ 9999) (h92 : hi2 ≤ 9999) (i0 : a ≤ i) (i1 : i + 2 < a + 97) (kk : ∀ t : lf_Z, tz_Q z a (tz_1 (i + 2) (lx_V f n (ds_ad f n (ds_ad f n b))) (tz_1 (i + 1) (lx_V f n b) W)) f n (ds_bd (ds_bd (ds_num f n lo hi b) (ds_ex f n (20 + j))) (ds_num f n lo2 hi2)) t → Q (ds_bd (ds_bd (ds_num f n lo hi b) (ds_ex f n (20 + j))) (ds_num f n lo2 hi2)).1 t) : fw_212 i lo hi w lo2 hi2 Q s := by
  unfold fw_212
  refine tz_213 h h9 (by omega) (by omega) (fun t ht => ?_)
  intro _
  refine ⟨fun y => ?_, fun y => ?_⟩
  · rw [ds_bd0 y] at kk
    rw [← (ds_numZ y).2] at kk
    exact tz_214 j hj (by rw [lf_wlI]; exact hw) (ht.2 y) h92 (by omega) (by omega) kk
  · rw [ds_bdF y, ds_bdF y] at kk
    exact kk t ⟨ht.1, fun c => absurd c y⟩
/-- a sum is written -/
def tz_s (f : Int → Int) (n law a i b b' : Int) (W : tz_T) : tz_T := fun F o' => ∃ (G : Int → Int) (o : List (Int × Int)), W G o ∧ F (i + 1) = o.length ∧ F (i + 2) = o'.length ∧ (∀ j : Int, j < a + 97 → j ≠ i + 1 → j ≠ i + 2 → F j = G j) ∧ (lx_T f n b' = 16 → (∃ w, o' = w ++ o) ∧ (o'.length : Int) + b ≤ o.length + b' ∧ rs_V f n law b o.length o')
theorem tz_215 {Q : Int → lf_Z → Prop} {r : Int × Int} (hr : (ds_T f n law 200).1 0 tx_g0 b = r) (h : tz_S z a W f n b s) (hn : n ≤ 300) (hl : s.1 95 14 = law) (l0 : 0 ≤ law) (l2 : law ≤ 2) (i0 : a ≤ i) (i1 : i + 2 < a + 97) (kk : ∀ t : lf_Z, tz_Q z a (tz_s f n law a i b r.2 W) f n r t → Q r.1 t) : fw_215 i Q s := by
  unfold fw_215
  intro _
  obtain ⟨⟨yF, yL⟩, yB, y12, o, y13, yO, G, hW, yE⟩ := tz_98 (v := s.1 95 13) h (show a ≤ i + 1 by omega) (by omega)
  have yl : ((lf_up s.1 98 (i + 1) (s.1 95 13), s.2.1, s.2.2) : lf_Z).1 95 14 = law := (zu_c (by decide)).trans hl
  have y13' : s.1 95 13 = o.length := y13
  generalize ((lf_up s.1 98 (i + 1) (s.1 95 13), s.2.1, s.2.2) : lf_Z) = y at yF yL yB y12 y13 yO yE yl ⊢
  refine fy_216 (o := o) hr hn yB y13 (by rw [y12]; exact yO) yl l0 l2 (fun u uB uF uO => ?_)
  intro _
  rw [y12] at uO
  have u12 : u.1 95 12 = a := (uF.2.1 12 (by omega) (by decide) (by omega)).trans y12
  have low : ∀ j : Int, j < a + 97 → u.1 98 j = y.1 98 j := fun j hj => uF.2.2.1 j (by rw [y12]; exact hj)
  obtain ⟨t, ht⟩ : ∃ t : lf_Z, t = (lf_up u.1 98 (i + 2) (u.1 95 13), u.2.1, u.2.2) := ⟨_, rfl⟩
  rw [← ht]
  have e : ∀ q : Nat, q ≠ 98 → t.1 q = u.1 q := fun q hq => by rw [ht]; exact zu_r hq
  have e98 : t.1 98 = ds_u1 (u.1 98) (i + 2) (u.1 95 13) := by rw [ht]; exact (tp_row : lf_up u.1 98 (i + 2) (u.1 95 13) 98 = ds_u1 (u.1 98) (i + 2) (u.1 95 13))
  have eJ : t.2 = u.2 := by rw [ht]
  have tL : tz_L z a t := ⟨tn_Ft (tn_Ft yF (tn_Fl uF)) ⟨fun q _ a2 _ _ _ _ => e q a2, fun i _ _ => by rw [e 95 (by decide)], by rw [eJ]⟩, fun j hj => by rw [e98]; exact (if_neg (by omega)).trans ((low j (by omega)).trans (yL j hj))⟩
  refine kk t ⟨tL, fun q => ?_⟩
  obtain ⟨o', o1, o2, o3⟩ := uO q
  refine ⟨tL, la_Bx uB (e 99 (by decide)) (fun i _ => by rw [e 95 (by decide)]) (by rw [eJ]), by rw [e 95 (by decide)]; exact u12, o', by rw [e 95 (by decide)]; exact o1, ?_, G, o, hW, ?_, ?_, fun j hj j1 j2 => ?_, o3⟩
  · rw [e98]; exact ln_ouX o' (fun j hj => if_neg (by omega)) o2
  · rw [e98]
    refine (if_neg (by omega)).trans ?_
    rw [low _ (by omega), yE, ← y13']
    exact if_pos rfl
  · rw [e98, ← o1]
    exact if_pos rfl
  · rw [e98]
    refine (if_neg j2).trans ?_
    rw [low j hj, yE]
    exact if_neg j1
/-- a clause behind its first word: its two cells -/
def tz_c (f : Int → Int) (n x a i b b' : Int) (W : tz_T) : tz_T := fun F o' => (x ≤ 2 → tz_s f n x a i b b' W F o') ∧ (2 < x → ∃ G : Int → Int, W G o' ∧ (∀ j : Int, j ≠ i + 1 → j ≠ i + 2 → F j = G j) ∧ F (i + 1) = lx_V f n b ∧ (tx_sh ((20 + x - 23) * 5 + 2) ≠ 0 → F (i + 2) = lx_V f n (ds_ad f n (ds_ad f n b))))
theorem tz_211 {x : Int} {Q : Int → lf_Z → Prop} (h : tz_S z a W f n b s) (hn : n ≤ 300) (hl : s.1 95 14 = x) (x0 : 0 ≤ x) (x1 : x ≤ 12) (i0 : a ≤ i) (i1 : i + 2 < a + 97) (kk : ∀ t : lf_Z, tz_Q z a (tz_c f n x a i b (tn_bd f n x b).2 W) f n (tn_bd f n x b) t → Q (tn_bd f n x b).1 t) : fw_211 x i Q s := by
  have P : ∀ {A B C E F : Int}, 2 < x → C ≠ 0 → tx_sh ((20 + x - 23) * 5) = A → tx_sh ((20 + x - 23) * 5 + 1) = B → tx_sh ((20 + x - 23) * 5 + 2) = C → tx_sh ((20 + x - 23) * 5 + 3) = E → tx_sh ((20 + x - 23) * 5 + 4) = F → ∀ t : lf_Z, tz_Q z a (tz_1 (i + 2) (lx_V f n (ds_ad f n (ds_ad f n b))) (tz_1 (i + 1) (lx_V f n b) W)) f n (ds_bd (ds_bd (ds_num f n A B b) (ds_ex f n C)) (ds_num f n E F)) t → Q (ds_bd (ds_bd (ds_num f n A B b) (ds_ex f n C)) (ds_num f n E F)).1 t := by
    intro A B C E F g g0 h0 h1 h2 h3 h4 t ht
    have eb : ds_bd (ds_bd (ds_num f n A B b) (ds_ex f n C)) (ds_num f n E F) = tn_bd f n x b := by
      unfold tn_bd
      rw [if_pos g, tn_deed h0 h1 h2 h3 h4, if_neg g0]
    rw [eb] at ht ⊢
    refine kk t ⟨ht.1, fun q => tz_m (ht.2 q) (fun F o hF _ => ⟨fun w => absurd w (by omega), fun _ => ?_⟩)⟩
    obtain ⟨G1, ⟨G, hG, e1⟩, e2⟩ := hF
    refine ⟨G, hG, fun j j1 j2 => ?_, ?_, fun _ => ?_⟩
    · rw [e2, e1]; exact (if_neg j2).trans (if_neg j1)
    · rw [e2, e1]; exact (if_neg (by omega)).trans (if_pos rfl)
    · rw [e2]; exact if_pos rfl
  have P0 : ∀ {A B E F : Int}, 2 < x → tx_sh ((20 + x - 23) * 5) = A → tx_sh ((20 + x - 23) * 5 + 1) = B → tx_sh ((20 + x - 23) * 5 + 2) = 0 → tx_sh ((20 + x - 23) * 5 + 3) = E → tx_sh ((20 + x - 23) * 5 + 4) = F → ∀ t : lf_Z, tz_Q z a (tz_1 (i + 1) (lx_V f n b) W) f n (ds_num f n A B b) t → Q (ds_num f n A B b).1 t := by
    intro A B E F g h0 h1 h2 h3 h4 t ht
    have eb : ds_num f n A B b = tn_bd f n x b := by
      unfold tn_bd
      rw [if_pos g, tn_deed h0 h1 h2 h3 h4, if_pos rfl]
    rw [eb] at ht ⊢
    refine kk t ⟨ht.1, fun q => tz_m (ht.2 q) (fun F o hF _ => ⟨fun w => absurd w (by omega), fun _ => ?_⟩)⟩
    obtain ⟨G, hG, e1⟩ := hF
    refine ⟨G, hG, fun j j1 j2 => ?_, ?_, fun w => absurd h2 w⟩
    · rw [e1]; exact if_neg j1
    · rw [e1]; exact if_pos rfl
  unfold fw_211
  intro _
  refine ⟨fun q => ?_, fun q => ?_, fun q => ?_, fun q => ?_, fun q => ?_, fun q => ?_, fun q => ?_, fun q => ?_, fun q => ?_, fun q => ?_, fun q => ?_⟩
  · have e : tn_bd f n x b = (ds_T f n x 200).1 0 tx_g0 b := if_neg (by omega)
    rw [e] at kk
    refine tz_215 rfl h hn hl x0 (by omega) i0 i1 (fun t ht => kk t ⟨ht.1, fun q => tz_m (ht.2 q) (fun F o hF _ => ⟨fun _ => hF, fun w => absurd w (by omega)⟩)⟩)
  · subst q
    exact fl_204 (tz_212 13 (by decide) (by rw [lf_wlI]; decide +kernel) h (by decide) (by decide) i0 i1 (P (by decide) (by decide) (by decide +kernel) (by decide +kernel) (by decide +kernel) (by decide +kernel) (by decide +kernel)))
  · subst q
    exact fl_206 (tz_212 14 (by decide) (by rw [lf_wlI]; decide +kernel) h (by decide) (by decide) i0 i1 (P (by decide) (by decide) (by decide +kernel) (by decide +kernel) (by decide +kernel) (by decide +kernel) (by decide +kernel)))
  · subst q
    exact fl_206 (tz_212 14 (by decide) (by rw [lf_wlI]; decide +kernel) h (by decide) (by decide) i0 i1 (P (by decide) (by decide) (by decide +kernel) (by decide +kernel) (by decide +kernel) (by decide +kernel) (by decide +kernel)))
  · subst q
    exact fl_206 (tz_212 15 (by decide) (by rw [lf_wlI]; decide +kernel) h (by decide) (by decide) i0 i1 (P (by decide) (by decide) (by decide +kernel) (by decide +kernel) (by decide +kernel) (by decide +kernel) (by decide +kernel)))
  · subst q
    exact fl_206 (tz_212 15 (by decide) (by rw [lf_wlI]; decide +kernel) h (by decide) (by decide) i0 i1 (P (by decide) (by decide) (by decide +kernel) (by decide +kernel) (by decide +kernel) (by decide +kernel) (by decide +kernel)))
  · subst q
    exact fl_206 (tz_212 14 (by decide) (by rw [lf_wlI]; decide +kernel) h (by decide) (by decide) i0 i1 (P (by decide) (by decide) (by decide +kernel) (by decide +kernel) (by decide +kernel) (by decide +kernel) (by decide +kernel)))
  · subst q
    exact tz_213 h (by decide) (by omega) (by omega) (P0 (by decide) (by decide +kernel) (by decide +kernel) (by decide +kernel) rfl rfl)
  · subst q
    exact tz_213 h (by decide) (by omega) (by omega) (P0 (by decide) (by decide +kernel) (by decide +kernel) (by decide +kernel) rfl rfl)
  · subst q
    exact fl_206 (tz_212 16 (by decide) (by rw [lf_wlI]; decide +kernel) h (by decide) (by decide) i0 i1 (P (by decide) (by decide) (by decide +kernel) (by decide +kernel) (by decide +kernel) (by decide +kernel) (by decide +kernel)))
  · subst q
    exact tz_213 h (by decide) (by omega) (by omega) (P0 (by decide) (by decide +kernel) (by decide +kernel) (by decide +kernel) rfl rfl)
end RT
