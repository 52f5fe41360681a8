/-! the descent over tokens: fault and place, or 0 and where the next token begins -/
section DS
def ds_ad (f : Int → Int) (n b : Int) : Int := lx_sk f n (lx_E f n b)
def ds_ex (f : Int → Int) (n w b : Int) : Int × Int := if lx_T f n b = w then (0, ds_ad f n b) else (1, b)
def ds_bd (r : Int × Int) (g : Int → Int × Int) : Int × Int := if r.1 = 0 then g r.2 else r
def ds_lp (f : Int → Int) (n : Int) (ok : Int → Bool) (g : Int → Int × Int) : Nat → Int → Int × Int
  | 0, b => (0, b)
  | k + 1, b => if ok (lx_T f n b) = true then ds_bd (g (ds_ad f n b)) (ds_lp f n ok g k) else (0, b)
abbrev ds_D : Type := Int → (Int → Int) → Int → Int × Int
def ds_pm (t : Int) : Bool := decide (t = 10) || decide (t = 11)
def ds_td (t : Int) : Bool := decide (t = 12) || decide (t = 13)
def ds_is (w t : Int) : Bool := decide (t = w)
def ds_u1 (g : Int → Int) (i v : Int) : Int → Int := fun j => if j = i then v else g j
/-- whether a name (by its number) stands in the clause of a law -/
def ds_nm (law x : Int) : Bool := decide (lf_and (lf_shr ((px_lw x.toNat).toInt) law) 1 ≠ 0)
def ds_en (f : Int → Int) (n d : Int) (g : Int → Int × Int) (b : Int) : Int × Int := if d < 8 then g (ds_ad f n b) else (3, b)
def ds_name (f : Int → Int) (n law b : Int) : Int × Int :=
  if lx_T f n b = 24 then (if ds_nm law 10 = true then (0, ds_ad f n b) else (5, b))
  else if 47 ≤ lx_T f n b ∧ lx_T f n b ≤ 56 then (if ds_nm law (lx_T f n b - 47) = true then (0, ds_ad f n b) else (5, b))
  else (1, b)
def ds_one (f : Int → Int) (n law : Int) (S O I L : ds_D) (d : Int) (g : Int → Int) (b : Int) : Int × Int :=
  if lx_T f n b = 2 then (if lx_V f n b ≤ 9999 then (0, ds_ad f n b) else (2, b))
  else if lx_T f n b = 3 then (if g (lx_V f n b) ≠ -1 then (0, ds_ad f n b) else (5, b))
  else if lx_T f n b = 11 then ds_en f n d (O (d + 1) g) b
  else if lx_T f n b = 14 then ds_en f n d (fun b => ds_bd (S (d + 1) g b) (ds_ex f n 15)) b
  else if lx_T f n b = 37 then ds_en f n d (I (d + 1) g) b
  else if lx_T f n b = 41 then ds_en f n d (L (d + 1) g) b
  else ds_name f n law b
def ds_if (f : Int → Int) (n : Int) (S E : ds_D) (d : Int) (g : Int → Int) (b : Int) : Int × Int :=
  ds_bd (ds_bd (ds_bd (ds_bd (ds_bd (E d g b) (ds_ex f n 38)) (S d g)) (ds_ex f n 39)) (S d g)) (ds_ex f n 40)
def ds_sl (d : Int) : Int := max 0 (min 7 (d - 1))
def ds_let (f : Int → Int) (n : Int) (S : ds_D) (d : Int) (g : Int → Int) (b : Int) : Int × Int :=
  ds_bd (ds_bd (ds_bd (ds_bd (ds_bd (ds_ex f n 3 b) (ds_ex f n 42)) (S d g)) (ds_ex f n 43)) (S d (ds_u1 g (lx_V f n b) (ds_sl d)))) (ds_ex f n 40)
def ds_ask (f : Int → Int) (n : Int) (S A : ds_D) (d : Int) (g : Int → Int) (b : Int) : Int × Int :=
  if lx_T f n b = 44 then ds_en f n d (A (d + 1) g) b
  else ds_bd (ds_bd (S d g b) (fun b => if 4 ≤ lx_T f n b ∧ lx_T f n b ≤ 9 then (0, ds_ad f n b) else (1, b))) (S d g)
/-- sum, product, one, if, let, either, both, ask -/
def ds_T (f : Int → Int) (n law : Int) : Nat → ds_D × ds_D × ds_D × ds_D × ds_D × ds_D × ds_D × ds_D
  | 0 => (fun _ _ b => (9, b), fun _ _ b => (9, b), fun _ _ b => (9, b), fun _ _ b => (9, b), fun _ _ b => (9, b), fun _ _ b => (9, b), fun _ _ b => (9, b), fun _ _ b => (9, b))
  | k + 1 => (fun d g b => ds_bd ((ds_T f n law k).2.1 d g b) (ds_lp f n ds_pm ((ds_T f n law k).2.1 d g) 300),
    fun d g b => ds_bd ((ds_T f n law k).2.2.1 d g b) (ds_lp f n ds_td ((ds_T f n law k).2.2.1 d g) 300),
    ds_one f n law (ds_T f n law k).1 (ds_T f n law k).2.2.1 (ds_T f n law k).2.2.2.1 (ds_T f n law k).2.2.2.2.1,
    ds_if f n (ds_T f n law k).1 (ds_T f n law k).2.2.2.2.2.1,
    ds_let f n (ds_T f n law k).1,
    fun d g b => ds_bd ((ds_T f n law k).2.2.2.2.2.2.1 d g b) (ds_lp f n (ds_is 46) ((ds_T f n law k).2.2.2.2.2.2.1 d g) 300),
    fun d g b => ds_bd ((ds_T f n law k).2.2.2.2.2.2.2 d g b) (ds_lp f n (ds_is 45) ((ds_T f n law k).2.2.2.2.2.2.2 d g) 300),
    ds_ask f n (ds_T f n law k).1 (ds_T f n law k).2.2.2.2.2.2.2)
theorem ds_bd0 {r : Int × Int} {g : Int → Int × Int} (h : r.1 = 0) : ds_bd r g = g r.2 := if_pos h
theorem ds_bdF {r : Int × Int} {g : Int → Int × Int} (h : r.1 ≠ 0) : ds_bd r g = r := if_neg h
theorem ds_bdA {r : Int × Int} {g h : Int → Int × Int} : ds_bd (ds_bd r g) h = ds_bd r (fun b => ds_bd (g b) h) := by
  by_cases c : r.1 = 0
  · rw [ds_bd0 c, ds_bd0 c]
  · rw [ds_bdF c, ds_bdF c, ds_bdF c]
/-! the class's reader: where it stands -/
variable {f g : Int → Int} {n law : Int} {s t z : lf_Z} {r : Int × Int}
/-- what the sums of a text leave of it: where laws begin, how many clauses -/
def cl_K (z t : lf_Z) : Prop := t.2.2 = z.2.2 ∧ t.1 0 = z.1 0 ∧ ∀ u : Nat, u < 4 → t.1 (37 + 7 * u) = z.1 (37 + 7 * u) ∧ t.1 (35 + 7 * u) 7 = z.1 (35 + 7 * u) 7 ∧ (0 ≤ z.1 (35 + 7 * u) 1 → 0 ≤ t.1 (35 + 7 * u) 1)
theorem cl_Kr : cl_K z z := ⟨rfl, rfl, fun _ _ => ⟨rfl, rfl, fun h => h⟩⟩
theorem cl_Ke (h : cl_K z s) (e : t.2.2 = s.2.2) (h2 : ∀ c : Nat, c = 0 ∨ 35 ≤ c → t.1 c = s.1 c) : cl_K z t := ⟨e.trans h.1, (h2 0 (Or.inl rfl)).trans h.2.1, fun u hu => by rw [h2 (37 + 7 * u) (by omega), h2 (35 + 7 * u) (by omega)]; exact h.2.2 u hu⟩
def cl_S (z : lf_Z) (f : Int → Int) (n : Int) (g : Int → Int) (law : Int) (t : lf_Z) (r : Int × Int) : Prop := t.1 32 = f ∧ t.1 31 1 = n ∧ t.1 33 = g ∧ t.1 31 6 = law ∧ (r.1 = 0 → rd_at t r.2 ∧ t.1 31 2 = 0 ∧ 0 ≤ r.2 ∧ 0 ≤ t.1 31 7 ∧ t.1 31 3 = -1) ∧ (r.1 ≠ 0 → t.1 31 2 = r.1 ∧ t.1 31 3 = r.2 ∧ t.1 31 8 = 1) ∧ cl_K z t
def cl_tp (f : Int → Int) (n : Int) : Prop := ∀ i : Int, 0 ≤ i → i < n → 0 ≤ f i ∧ f i ≤ 255
theorem cl_E0 {b : Int} (h : 0 ≤ b) : 0 ≤ lx_E f n b := by
  have a := lx_runB (P := lx_dg) (f := f) (n := n) (p := b)
  have c := lx_runB (P := lx_lt) (f := f) (n := n) (p := b)
  unfold lx_E
  (repeat' split) <;> omega
theorem cl_ad0 {b : Int} (h : 0 ≤ b) : 0 ≤ ds_ad f n b := Int.le_trans (cl_E0 h) (lx_runB (P := lx_bl))
/-- changes elsewhere don't matter -/
theorem cl_S_c (h : cl_S z f n g law s r) (e : t.1 31 = s.1 31) (e2 : t.1 32 = s.1 32) (e3 : t.1 33 = s.1 33) (eK : cl_K z s → cl_K z t) : cl_S z f n g law t r := by
  obtain ⟨h1, h2, h3, h4, h5, h6, h7⟩ := h
  refine ⟨e2.trans h1, ?_, e3.trans h3, ?_, fun c => ?_, fun c => ?_, eK h7⟩
  · rw [e]; exact h2
  · rw [e]; exact h4
  · unfold rd_at; rw [e, e2]; exact h5 c
  · rw [e]; exact h6 c
/-- the token at hand -/
theorem cl_tok (h : cl_S z f n g law s r) (c : r.1 = 0) : s.1 31 8 = lx_T f n r.2 := by
  have := (h.2.2.2.2.1 c).1.2.1
  rw [h.1, h.2.1] at this
  exact this
theorem cl_val (h : cl_S z f n g law s r) (c : r.1 = 0) (q : s.1 31 8 = 2 ∨ s.1 31 8 = 3) : s.1 31 10 = lx_V f n r.2 := by
  have := (h.2.2.2.2.1 c).1.2.2.2 q
  rw [h.1, h.2.1] at this
  exact this
theorem cl_bad (h : cl_S z f n g law s r) (c : r.1 ≠ 0) : s.1 31 8 = 1 := (h.2.2.2.2.2.1 c).2.2
/-- on: fw_31 -/
theorem fl_adv {Q : lf_Z → Prop} (hb : cl_tp f n) (h : cl_S z f n g law s r) (k : ∀ t : lf_Z, cl_S z f n g law t (ds_bd r (fun b => (0, ds_ad f n b))) → Q t) : fw_31 Q s := by
  by_cases c : r.1 = 0
  · obtain ⟨h1, h2, h3, h4, h5, _, h7⟩ := h
    obtain ⟨a1, a2, a3, a4, a5⟩ := h5 c
    refine fl_31 a2 a4 (by rw [h1, h2]; exact hb) (fun t hF hA => k t ?_)
    rw [ds_bd0 c]
    have e1 : t.1 31 1 = n := (hF.2.1 1 (by decide) (by decide) (by decide) (by decide)).trans h2
    have e32 : t.1 32 = f := (hF.1 32 (by decide)).trans h1
    have e7 : s.1 31 7 = lx_E f n r.2 := by rw [← h1, ← h2]; exact a1.2.2.1
    rw [h1, h2, e7] at hA
    refine ⟨e32, e1, (hF.1 33 (by decide)).trans h3, (hF.2.1 6 (by decide) (by decide) (by decide) (by decide)).trans h4, fun _ => ⟨hA, (hF.2.1 2 (by decide) (by decide) (by decide) (by decide)).trans a2, cl_ad0 a3, ?_, (hF.2.1 3 (by decide) (by decide) (by decide) (by decide)).trans a5⟩, fun d => absurd rfl d, cl_Ke h7 (congrArg (·.2) hF.2.2) (fun c hc => hF.1 c (by omega))⟩
    rw [hA.2.2.1]
    exact cl_E0 (cl_ad0 a3)
  · refine fl_31f ?_ (k s ?_)
    · rw [(h.2.2.2.2.2.1 c).1]; exact c
    · rw [ds_bdF c]; exact h
/-- a fault: fw_39 -/
theorem fl_fail {k9 : Int} {Q : lf_Z → Prop} (hk : k9 ≠ 0) (h : cl_S z f n g law s r) (k : ∀ t : lf_Z, cl_S z f n g law t (ds_bd r (fun b => (k9, b))) → Q t) : fw_39 k9 Q s := by
  obtain ⟨h1, h2, h3, h4, h5, h6, h7⟩ := h
  unfold fw_39
  intro _
  by_cases c : r.1 = 0
  · obtain ⟨a1, a2, a3, a4⟩ := h5 c
    refine ⟨fun d => absurd a2 d, fun _ => ?_⟩
    unfold fw_39_p20
    refine k _ ?_
    rw [ds_bd0 c]
    have w : ∀ i : Int, i ≠ 2 → i ≠ 3 → i ≠ 8 → (lf_up (lf_up (lf_up s.1 31 2 k9) 31 3 (s.1 31 9)) 31 8 1) 31 i = s.1 31 i := fun i x y z => (lf_up_i z).trans ((lf_up_i y).trans (lf_up_i x))
    have w2 : ∀ c : Nat, c ≠ 31 → (lf_up (lf_up (lf_up s.1 31 2 k9) 31 3 (s.1 31 9)) 31 8 1) c = s.1 c := fun c x => (lf_up_row x).trans ((lf_up_row x).trans (lf_up_row x))
    refine ⟨(w2 32 (by decide)).trans h1, (w 1 (by decide) (by decide) (by decide)).trans h2, (w2 33 (by decide)).trans h3, (w 6 (by decide) (by decide) (by decide)).trans h4, fun d => absurd d hk, fun _ => ⟨?_, ?_, zu_s⟩, cl_Ke h7 rfl (fun c hc => w2 c (by omega))⟩
    · show (lf_up (lf_up (lf_up s.1 31 2 k9) 31 3 (s.1 31 9)) 31 8 1) 31 2 = k9
      exact (lf_up_i (by decide)).trans ((lf_up_i (by decide)).trans lf_up_s)
    · show (lf_up (lf_up (lf_up s.1 31 2 k9) 31 3 (s.1 31 9)) 31 8 1) 31 3 = r.2
      exact ((lf_up_i (by decide)).trans lf_up_s).trans a1.1
  · obtain ⟨a1, a2, a3⟩ := h6 c
    refine ⟨fun _ => ?_, fun d => absurd (by rw [a1]; exact c) d⟩
    unfold fw_39_p20
    refine k _ ?_
    rw [ds_bdF c]
    have w : ∀ i : Int, i ≠ 8 → (lf_up s.1 31 8 1) 31 i = s.1 31 i := fun i x => lf_up_i x
    have w2 : ∀ c : Nat, c ≠ 31 → (lf_up s.1 31 8 1) c = s.1 c := fun c x => lf_up_row x
    exact ⟨(w2 32 (by decide)).trans h1, (w 1 (by decide)).trans h2, (w2 33 (by decide)).trans h3, (w 6 (by decide)).trans h4, fun d => absurd d c, fun _ => ⟨(w 2 (by decide)).trans a1, (w 3 (by decide)).trans a2, zu_s⟩, cl_Ke h7 rfl (fun c hc => w2 c (by omega))⟩
/-- what is wanted, or a fault: fw_48 -/
theorem fl_ex {w : Int} {Q : lf_Z → Prop} (hw : w ≠ 1) (hb : cl_tp f n) (h : cl_S z f n g law s r) (k : ∀ t : lf_Z, cl_S z f n g law t (ds_bd r (ds_ex f n w)) → Q t) : fw_48 w Q s := by
  unfold fw_48
  intro _ _
  by_cases c : r.1 = 0
  · have e := cl_tok h c
    refine ⟨fun d => fl_fail (by decide) h (fun t ht => k t ?_), fun d => fl_adv hb h (fun t ht => k t ?_)⟩
    · rw [ds_bd0 c] at ht ⊢
      unfold ds_ex
      rw [if_neg (by rw [← e]; exact d)]; exact ht
    · rw [ds_bd0 c] at ht ⊢
      unfold ds_ex
      rw [if_pos (by rw [← e]; exact Classical.not_not.mp d)]; exact ht
  · have e := cl_bad h c
    refine ⟨fun d => fl_fail (by decide) h (fun t ht => k t ?_), fun d => absurd (by rw [e]; exact fun q => hw q.symm) d⟩
    rw [ds_bdF c] at ht ⊢
    exact ht
theorem fl_15 {a0 a1 a2 : Int} {Q : Bool → lf_Z → Prop} (h : Q (decide (a1 ≤ a0) && decide (a0 ≤ a2)) s) : fw_15 a0 a1 a2 Q s := by
  unfold fw_15
  intro _ _
  refine ⟨fun c => ?_, fun c _ => ⟨fun d => ?_, fun d => ?_⟩⟩
  · rw [decide_eq_false (show ¬ a1 ≤ a0 by omega)] at h; exact h
  · rw [decide_eq_false (show ¬ a0 ≤ a2 by omega), Bool.and_false] at h; exact h
  · rw [decide_eq_true (show a1 ≤ a0 by omega), decide_eq_true (show a0 ≤ a2 by omega)] at h; exact h
/-- an order more: fw_45 -/
theorem fl_45 {t0 : Nat} {a1 a2 : Int} {Q : Int → lf_Z → Prop} (ht : t0 < 4) (h : cl_S z f n g law s r) (k : ∀ (v : Int) (t : lf_Z), t.2 = s.2 → cl_S z f n g law t r → Q v t) : fw_45 t0 a1 a2 Q s := by
  unfold fw_45
  intro _
  refine ⟨fun _ _ => k _ _ (by rfl) (cl_S_c h ?_ ?_ ?_ (fun hK => ⟨hK.1, ((zu_r (by omega)).trans (lf_up_row (by omega))).trans hK.2.1, fun u hu => ?_⟩)), fun _ => k _ _ (by rfl) h⟩
  · exact (zu_r (by omega)).trans (lf_up_row (by omega))
  · exact (zu_r (by omega)).trans (lf_up_row (by omega))
  · exact (zu_r (by omega)).trans (lf_up_row (by omega))
  · obtain ⟨k1, k2, k3⟩ := hK.2.2 u hu
    refine ⟨((zu_r (by omega)).trans (lf_up_row (by omega))).trans k1, ?_, fun h0 => ?_⟩
    · refine Eq.trans ?_ k2
      by_cases e : u = t0
      · subst e; exact (zu_i (by decide)).trans (lf_up_c (by omega))
      · exact (zu_c (by omega)).trans (lf_up_c (by omega))
    · have k4 := k3 h0
      by_cases e : u = t0
      · subst e
        refine Int.le_trans ?_ (Int.le_of_eq (zu_s).symm)
        rw [lf_up_c (by omega)]; omega
      · refine Int.le_trans k4 (Int.le_of_eq ?_)
        exact ((zu_c (by omega)).trans (lf_up_c (by omega))).symm
/-- a leap's end: fw_53 -/
theorem fl_53 {t0 : Nat} {a1 : Int} {Q : lf_Z → Prop} (ht : t0 < 4) (h : cl_S z f n g law s r) (k : ∀ (t : lf_Z), t.2 = s.2 → cl_S z f n g law t r → Q t) : fw_53 t0 a1 Q s := by
  unfold fw_53
  intro _
  refine ⟨fun _ => k _ (by rfl) h, fun _ _ => ⟨fun _ => k _ (by rfl) h, fun _ _ => k _ (by rfl) (cl_S_c h ?_ ?_ ?_ (fun hK => ⟨hK.1, (zu_r (by omega)).trans hK.2.1, fun u hu => ?_⟩))⟩⟩
  · exact zu_r (by omega)
  · exact zu_r (by omega)
  · exact zu_r (by omega)
  · obtain ⟨k1, k2, k3⟩ := hK.2.2 u hu
    refine ⟨(zu_r (by omega)).trans k1, (zu_c (by omega)).trans k2, fun h0 => Int.le_trans (k3 h0) (Int.le_of_eq (zu_c (by omega)).symm)⟩
/-- one deeper: fw_47 -/
theorem fl_47 {d : Int} {Q : Bool → lf_Z → Prop} (hb : cl_tp f n) (h : cl_S z f n g law s r) (k1 : d < 8 → ∀ t : lf_Z, cl_S z f n g law t (ds_bd r (fun b => (0, ds_ad f n b))) → Q true t) (k2 : ¬ d < 8 → ∀ t : lf_Z, cl_S z f n g law t (ds_bd r (fun b => (3, b))) → Q false t) : fw_47 d Q s := by
  unfold fw_47
  intro _
  exact ⟨fun c => fl_adv hb h (k1 c), fun c => fl_fail (by decide) h (k2 c)⟩
end DS
