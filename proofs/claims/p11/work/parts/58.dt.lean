/-! the class's reader does the descent -/
section DT
variable {f g : Int → Int} {n law : Int} {s t z : lf_Z} {r : Int × Int}
theorem ds_bdI {r : Int × Int} : ds_bd r (fun b => (0, b)) = r := by
  by_cases c : r.1 = 0
  · rw [ds_bd0 c]
    obtain ⟨a, b⟩ := r
    have c : a = 0 := c
    rw [c]
  · rw [ds_bdF c]
theorem ds_lpN {ok : Int → Bool} {G : Int → Int × Int} {k : Nat} {b : Int} (h : ok (lx_T f n b) = false) : ds_lp f n ok G k b = (0, b) := by
  cases k with
  | zero => rfl
  | succ k =>
    show (if ok (lx_T f n b) = true then _ else (0, b)) = _
    rw [h]; rfl
theorem ds_lpY {ok : Int → Bool} {G : Int → Int × Int} {k : Nat} {b : Int} (h : ok (lx_T f n b) = true) : ds_lp f n ok G (k + 1) b = ds_bd (G (ds_ad f n b)) (ds_lp f n ok G k) := if_pos h
theorem lx_T2 {b : Int} (h : lx_T f n b = 2) : b < n ∧ lx_dg (f b) = true := by
  by_cases c : n ≤ b
  · rw [(lx_Tz c).1] at h; cases h
  · cases d : lx_dg (f b) with
    | true => exact ⟨by omega, rfl⟩
    | false =>
      cases l : lx_lt (f b) with
      | false => rw [(lx_Ts (by omega) d l).1] at h; exact absurd h lx_sgB.1
      | true =>
        rw [(lx_Tl (by omega) d l).1] at h
        by_cases q : lx_run lx_lt f n b = b + 1 ∧ 97 ≤ f b
        · rw [if_pos q] at h; cases h
        · rw [if_neg q] at h
          rcases lx_WB (f := f) (b := b) (e := lx_run lx_lt f n b) with z | z <;> omega
theorem lx_T3 {b : Int} (h : lx_T f n b = 3) : b < n ∧ lx_dg (f b) = false ∧ 97 ≤ f b ∧ f b ≤ 122 ∧ lx_run lx_lt f n b = b + 1 := by
  by_cases c : n ≤ b
  · rw [(lx_Tz c).1] at h; cases h
  · cases d : lx_dg (f b) with
    | true => rw [(lx_Td (by omega) d).1] at h; cases h
    | false =>
      cases l : lx_lt (f b) with
      | false => rw [(lx_Ts (by omega) d l).1] at h; exact absurd h lx_sgB.2.1
      | true =>
        rw [(lx_Tl (by omega) d l).1] at h
        by_cases q : lx_run lx_lt f n b = b + 1 ∧ 97 ≤ f b
        · refine ⟨by omega, rfl, q.2, ?_, q.1⟩
          unfold lx_lt at l
          rw [Bool.or_eq_true, Bool.and_eq_true, Bool.and_eq_true, decide_eq_true_eq, decide_eq_true_eq, decide_eq_true_eq, decide_eq_true_eq] at l
          omega
        · rw [if_neg q] at h
          rcases lx_WB (f := f) (b := b) (e := lx_run lx_lt f n b) with z | z <;> omega
theorem lx_nn0 : ∀ (k : Nat) (p v : Int), 0 ≤ v → 0 ≤ lx_nn f n k p v := by
  intro k
  induction k with
  | zero => exact fun p v h => h
  | succ k ih =>
    intro p v h
    show 0 ≤ (if p < n ∧ lx_dg (f p) = true then lx_nn f n k (p + 1) (min 10000 (v * 10 + f p - 48)) else v)
    by_cases c : p < n ∧ lx_dg (f p) = true
    · rw [if_pos c]
      have d := c.2
      unfold lx_dg at d
      rw [Bool.and_eq_true, decide_eq_true_eq] at d
      exact ih _ _ (by omega)
    · rw [if_neg c]; exact h
theorem lx_V2 {b : Int} (h : lx_T f n b = 2) : 0 ≤ lx_V f n b := by
  have := lx_T2 h
  rw [(lx_Td this.1 this.2).2.2]
  exact lx_nn0 _ _ _ (Int.le_refl _)
theorem lx_V3 {b : Int} (h : lx_T f n b = 3) : 0 ≤ lx_V f n b ∧ lx_V f n b ≤ 25 := by
  have := lx_T3 h
  unfold lx_V
  rw [this.2.1, if_neg (by decide)]
  omega
def ds_num (f : Int → Int) (n lo hi b : Int) : Int × Int := if lx_T f n b = 2 then (if lo ≤ lx_V f n b ∧ lx_V f n b ≤ hi then (0, ds_ad f n b) else (2, b)) else (1, b)
/-- a number: fw_44 -/
theorem fl_num {lo hi : Int} {Q : Int → lf_Z → Prop} (hb : cl_tp f n) (h : cl_S z f n g law s r) (k : ∀ (v : Int) (t : lf_Z), cl_S z f n g law t (ds_bd r (ds_num f n lo hi)) → Q v t) : fw_44 lo hi Q s := by
  unfold fw_44
  intro _
  by_cases c : r.1 = 0
  · have e := cl_tok h c
    refine ⟨fun d => ?_, fun d => fl_fail (by decide) h (fun t ht => k _ t ?_)⟩
    · have v := cl_val h c (Or.inl d)
      refine fl_15 ⟨fun z => fl_adv hb h (fun t ht => k _ t ?_), fun z => fl_fail (by decide) h (fun t ht => k _ t ?_)⟩
      · rw [Bool.and_eq_true, decide_eq_true_eq, decide_eq_true_eq, v] at z
        rw [ds_bd0 c] at ht ⊢
        unfold ds_num
        rw [if_pos (by rw [← e]; exact d), if_pos z]; exact ht
      · rw [Bool.and_eq_false_iff, decide_eq_false_iff_not, decide_eq_false_iff_not, v] at z
        rw [ds_bd0 c] at ht ⊢
        unfold ds_num
        rw [if_pos (by rw [← e]; exact d), if_neg (fun q => by omega)]; exact ht
    · rw [ds_bd0 c] at ht ⊢
      unfold ds_num
      rw [if_neg (by rw [← e]; exact d)]; exact ht
  · have e := cl_bad h c
    refine ⟨(fun d => by rw [e] at d; cases d), fun d => fl_fail (by decide) h (fun t ht => k _ t ?_)⟩
    rw [ds_bdF c] at ht ⊢
    exact ht
/-- a letter: fw_46 -/
theorem fl_let {Q : lf_Z → Prop} (hb : cl_tp f n) (h : cl_S z f n g law s r) (c : r.1 = 0) (d : lx_T f n r.2 = 3) (k : ∀ (t : lf_Z), cl_S z f n g law t (if g (lx_V f n r.2) ≠ -1 then (0, ds_ad f n r.2) else (5, r.2)) → Q t) : fw_46 Q s := by
  have e := cl_tok h c
  have v := cl_val h c (Or.inr (e.trans d))
  have vb := lx_V3 d
  unfold fw_46
  refine fl_15 ?_
  rw [v, decide_eq_true vb.1, decide_eq_true vb.2]
  refine ⟨(fun z => by cases z), fun _ _ => ?_⟩
  rw [h.2.2.1]
  unfold fw_46_p26
  intro _
  refine ⟨fun q => ⟨fun _ => trivial, fun t0 _ h4 => fl_45 h4 h (fun w u _ hu => fl_adv hb hu (fun t ht => k t ?_))⟩, fun q => fl_fail (by decide) h (fun t ht => k t ?_)⟩
  · rw [if_pos q]; rw [ds_bd0 c] at ht; exact ht
  · rw [if_neg q]; rw [ds_bd0 c] at ht; exact ht
/-- a name: fw_56 -/
theorem fl_name {Q : lf_Z → Prop} (hb : cl_tp f n) (h : cl_S z f n g law s r) (k : ∀ (t : lf_Z), cl_S z f n g law t (ds_bd r (ds_name f n law)) → Q t) : fw_56 Q s := by
  have el : s.1 31 6 = law := h.2.2.2.1
  have p53 : ∀ x : Int, r.1 = 0 → (∀ t : lf_Z, cl_S z f n g law t (if ds_nm law x = true then (0, ds_ad f n r.2) else (5, r.2)) → Q t) → fw_56_p53 Q x s := by
    intro x c kx
    unfold fw_56_p53
    intro _
    rw [el]
    refine ⟨fun q => ⟨fun _ => trivial, fun t0 _ h4 => fl_45 h4 h (fun w u _ hu => fl_adv hb hu (fun t ht => kx t ?_))⟩, fun q => fl_fail (by decide) h (fun t ht => kx t ?_)⟩
    · unfold ds_nm; rw [if_pos (decide_eq_true q)]; rw [ds_bd0 c] at ht; exact ht
    · unfold ds_nm; rw [if_neg (by rw [decide_eq_true_eq]; exact q)]; rw [ds_bd0 c] at ht; exact ht
  unfold fw_56
  intro _
  by_cases c : r.1 = 0
  · have e := cl_tok h c
    rw [e]
    rw [ds_bd0 c] at k
    unfold ds_name at k
    refine ⟨fun d => ?_, fun d => ?_⟩
    · rw [if_neg d] at k
      unfold fw_56_p21
      intro _
      rw [e]
      refine ⟨fun q => absurd q d, fun _ => fl_15 ⟨fun z => ?_, fun z => ?_⟩⟩
      · rw [Bool.and_eq_true, decide_eq_true_eq, decide_eq_true_eq] at z
        rw [if_pos z] at k
        exact p53 _ c k
      · rw [Bool.and_eq_false_iff, decide_eq_false_iff_not, decide_eq_false_iff_not] at z
        rw [if_neg (fun q => by omega)] at k
        refine fl_fail (by decide) h (fun t ht => k t ?_)
        rw [ds_bd0 c] at ht; exact ht
    · have d := Classical.not_not.mp d
      rw [if_pos d] at k
      unfold fw_56_p21
      intro _
      rw [e]
      exact ⟨fun _ => p53 10 c k, fun q => absurd d q⟩
  · have e := cl_bad h c
    rw [e]
    refine ⟨fun _ => ?_, fun d => absurd (by decide) d⟩
    unfold fw_56_p21
    intro _
    rw [e]
    refine ⟨(fun q => by cases q), fun _ => fl_15 ⟨(fun z => by cases z), fun z => ?_⟩⟩
    refine fl_fail (by decide) h (fun t ht => k t ?_)
    rw [ds_bdF c] at ht ⊢
    exact ht
def cl_G (z : lf_Z) (f : Int → Int) (n law : Int) (F : Int → (lf_Z → Prop) → lf_Z → Prop) (D : ds_D) : Prop := ∀ (d : Int) (g : Int → Int) (s : lf_Z) (r : Int × Int) (Q : lf_Z → Prop), cl_S z f n g law s r → (∀ t : lf_Z, cl_S z f n g law t (ds_bd r (D d g)) → Q t) → F d Q s
theorem fl_41 {R42 : Int → (lf_Z → Prop) → lf_Z → Prop} {P : ds_D} (hb : cl_tp f n) (ih : cl_G z f n law R42 P) : cl_G z f n law (fw_41 R42) (fun d g b => ds_bd (P d g b) (ds_lp f n ds_pm (P d g) 300)) := by
  intro d g s r Q h k
  unfold fw_41
  refine ih d g s r _ h (fun t ht => ?_)
  refine ⟨fun x2 t => 0 ≤ x2 ∧ x2 ≤ 300 ∧ ∃ r' : Int × Int, cl_S z f n g law t r' ∧ ds_bd r' (ds_lp f n ds_pm (P d g) (300 - x2).toNat) = ds_bd r (fun b => ds_bd (P d g b) (ds_lp f n ds_pm (P d g) 300)), ?_, ⟨Int.le_refl _, by decide, _, ht, ds_bdA⟩⟩
  intro x2 t ⟨x0, x3, r', hr, he⟩
  have stop : (r'.1 = 0 → ds_pm (lx_T f n r'.2) = false) → Q t := by
    intro hs
    refine k t ?_
    rw [← he]
    by_cases c : r'.1 = 0
    · rw [ds_bd0 c, ds_lpN (hs c), show (0, r'.2) = r' from by obtain ⟨a, b⟩ := r'; have c : a = 0 := c; rw [c]]
      exact hr
    · rw [ds_bdF c]; exact hr
  have more : x2 < 300 → ds_pm (t.1 31 8) = true → fw_41_p32 R42 (fun x2 t => 0 ≤ x2 ∧ x2 ≤ 300 ∧ ∃ r' : Int × Int, cl_S z f n g law t r' ∧ ds_bd r' (ds_lp f n ds_pm (P d g) (300 - x2).toNat) = ds_bd r (fun b => ds_bd (P d g b) (ds_lp f n ds_pm (P d g) 300))) Q d x2 t := by
    intro hx ho
    have c : r'.1 = 0 := by
      by_cases c : r'.1 = 0
      · exact c
      · rw [cl_bad hr c] at ho; cases ho
    have e := cl_tok hr c
    rw [e] at ho
    rw [show (300 - x2).toNat = (300 - (x2 + 1)).toNat + 1 by omega, ds_bd0 c, ds_lpY ho] at he
    unfold fw_41_p32
    refine fl_adv hb hr (fun u hu => ih d g u _ _ hu (fun w hw => ⟨fun _ => trivial, fun t0 _ h4 => fl_45 h4 hw (fun v y _ hy => ⟨by omega, by omega, _, hy, ?_⟩)⟩))
    rw [← he, ds_bd0 c]
    rfl
  have fin : ¬ x2 < 300 → Q t := by
    intro hx
    refine k t ?_
    rw [show (300 - x2).toNat = 0 by omega] at he
    rw [← he]
    have : ds_bd r' (ds_lp f n ds_pm (P d g) 0) = r' := ds_bdI
    rw [this]; exact hr
  unfold fw_41_p7
  intro _
  refine ⟨fun c => fin (by omega), fun c _ => ⟨fun e => more (by omega) (by rw [e]; rfl), fun e => ⟨fun e2 => stop (fun c => ?_), fun e2 => more (by omega) (by rw [Classical.not_not.mp e2]; rfl)⟩⟩⟩
  rw [← cl_tok hr c]
  show (decide (t.1 31 8 = 10) || decide (t.1 31 8 = 11)) = false
  rw [decide_eq_false e, decide_eq_false e2]; rfl
theorem fl_42 {R43 : Int → (lf_Z → Prop) → lf_Z → Prop} {P : ds_D} (hb : cl_tp f n) (ih : cl_G z f n law R43 P) : cl_G z f n law (fw_42 R43) (fun d g b => ds_bd (P d g b) (ds_lp f n ds_td (P d g) 300)) := by
  intro d g s r Q h k
  unfold fw_42
  refine ih d g s r _ h (fun t ht => ?_)
  refine ⟨fun x2 t => 0 ≤ x2 ∧ x2 ≤ 300 ∧ ∃ r' : Int × Int, cl_S z f n g law t r' ∧ ds_bd r' (ds_lp f n ds_td (P d g) (300 - x2).toNat) = ds_bd r (fun b => ds_bd (P d g b) (ds_lp f n ds_td (P d g) 300)), ?_, ⟨Int.le_refl _, by decide, _, ht, ds_bdA⟩⟩
  intro x2 t ⟨x0, x3, r', hr, he⟩
  have stop : (r'.1 = 0 → ds_td (lx_T f n r'.2) = false) → Q t := by
    intro hs
    refine k t ?_
    rw [← he]
    by_cases c : r'.1 = 0
    · rw [ds_bd0 c, ds_lpN (hs c), show (0, r'.2) = r' from by obtain ⟨a, b⟩ := r'; have c : a = 0 := c; rw [c]]
      exact hr
    · rw [ds_bdF c]; exact hr
  have more : x2 < 300 → ds_td (t.1 31 8) = true → fw_42_p32 R43 (fun x2 t => 0 ≤ x2 ∧ x2 ≤ 300 ∧ ∃ r' : Int × Int, cl_S z f n g law t r' ∧ ds_bd r' (ds_lp f n ds_td (P d g) (300 - x2).toNat) = ds_bd r (fun b => ds_bd (P d g b) (ds_lp f n ds_td (P d g) 300))) Q d x2 t := by
    intro hx ho
    have c : r'.1 = 0 := by
      by_cases c : r'.1 = 0
      · exact c
      · rw [cl_bad hr c] at ho; cases ho
    have e := cl_tok hr c
    rw [e] at ho
    rw [show (300 - x2).toNat = (300 - (x2 + 1)).toNat + 1 by omega, ds_bd0 c, ds_lpY ho] at he
    unfold fw_42_p32
    refine fl_adv hb hr (fun u hu => ih d g u _ _ hu (fun w hw => ⟨fun _ => trivial, fun t0 _ h4 => fl_45 h4 hw (fun v y _ hy => ⟨by omega, by omega, _, hy, ?_⟩)⟩))
    rw [← he, ds_bd0 c]
    rfl
  have fin : ¬ x2 < 300 → Q t := by
    intro hx
    refine k t ?_
    rw [show (300 - x2).toNat = 0 by omega] at he
    rw [← he]
    have : ds_bd r' (ds_lp f n ds_td (P d g) 0) = r' := ds_bdI
    rw [this]; exact hr
  unfold fw_42_p7
  intro _
  refine ⟨fun c => fin (by omega), fun c _ => ⟨fun e => more (by omega) (by rw [e]; rfl), fun e => ⟨fun e2 => stop (fun c => ?_), fun e2 => more (by omega) (by rw [Classical.not_not.mp e2]; rfl)⟩⟩⟩
  rw [← cl_tok hr c]
  show (decide (t.1 31 8 = 12) || decide (t.1 31 8 = 13)) = false
  rw [decide_eq_false e, decide_eq_false e2]; rfl
theorem fl_50 {R51 : Int → (lf_Z → Prop) → lf_Z → Prop} {P : ds_D} (hb : cl_tp f n) (ih : cl_G z f n law R51 P) : cl_G z f n law (fw_50 R51) (fun d g b => ds_bd (P d g b) (ds_lp f n (ds_is 46) (P d g) 300)) := by
  intro d g s r Q h k
  unfold fw_50
  refine ih d g s r _ h (fun t ht => ?_)
  refine ⟨fun x2 t => 0 ≤ x2 ∧ x2 ≤ 300 ∧ ∃ r' : Int × Int, cl_S z f n g law t r' ∧ ds_bd r' (ds_lp f n (ds_is 46) (P d g) (300 - x2).toNat) = ds_bd r (fun b => ds_bd (P d g b) (ds_lp f n (ds_is 46) (P d g) 300)), ?_, ⟨Int.le_refl _, by decide, _, ht, ds_bdA⟩⟩
  intro x2 t ⟨x0, x3, r', hr, he⟩
  have stop : (r'.1 = 0 → (ds_is 46) (lx_T f n r'.2) = false) → Q t := by
    intro hs
    refine k t ?_
    rw [← he]
    by_cases c : r'.1 = 0
    · rw [ds_bd0 c, ds_lpN (hs c), show (0, r'.2) = r' from by obtain ⟨a, b⟩ := r'; have c : a = 0 := c; rw [c]]
      exact hr
    · rw [ds_bdF c]; exact hr
  have more : x2 < 300 → (ds_is 46) (t.1 31 8) = true → fw_31 (fun s24 => (R51 d (fun s25 => ((s25.2.2 2 = none → (True)) ∧ (∀ t26 : Nat, s25.2.2 2 = some t26 → t26 < 4 → (fw_45 t26 46 0 (fun r28 s27 => ((fun x2 t => 0 ≤ x2 ∧ x2 ≤ 300 ∧ ∃ r' : Int × Int, cl_S z f n g law t r' ∧ ds_bd r' (ds_lp f n (ds_is 46) (P d g) (300 - x2).toNat) = ds_bd r (fun b => ds_bd (P d g b) (ds_lp f n (ds_is 46) (P d g) 300))) (x2 + 1) s27)) s25)))) s24)) t := by
    intro hx ho
    have c : r'.1 = 0 := by
      by_cases c : r'.1 = 0
      · exact c
      · rw [cl_bad hr c] at ho; cases ho
    have e := cl_tok hr c
    rw [e] at ho
    rw [show (300 - x2).toNat = (300 - (x2 + 1)).toNat + 1 by omega, ds_bd0 c, ds_lpY ho] at he
    refine fl_adv hb hr (fun u hu => ih d g u _ _ hu (fun w hw => ⟨fun _ => trivial, fun t0 _ h4 => fl_45 h4 hw (fun v y _ hy => ⟨by omega, by omega, _, hy, ?_⟩)⟩))
    rw [← he, ds_bd0 c]
    rfl
  have fin : ¬ x2 < 300 → Q t := by
    intro hx
    refine k t ?_
    rw [show (300 - x2).toNat = 0 by omega] at he
    rw [← he]
    have : ds_bd r' (ds_lp f n (ds_is 46) (P d g) 0) = r' := ds_bdI
    rw [this]; exact hr
  unfold fw_50_p7
  intro _
  refine ⟨fun c => fin (by omega), fun c _ => ⟨fun e => stop (fun c => ?_), fun e => more (by omega) (by rw [Classical.not_not.mp e]; rfl)⟩⟩
  rw [← cl_tok hr c]
  show decide (t.1 31 8 = 46) = false
  exact decide_eq_false e
theorem fl_51 {R52 : Int → (lf_Z → Prop) → lf_Z → Prop} {P : ds_D} (hb : cl_tp f n) (ih : cl_G z f n law R52 P) : cl_G z f n law (fw_51 R52) (fun d g b => ds_bd (P d g b) (ds_lp f n (ds_is 45) (P d g) 300)) := by
  intro d g s r Q h k
  unfold fw_51
  refine ih d g s r _ h (fun t ht => ?_)
  refine ⟨fun x2 t => 0 ≤ x2 ∧ x2 ≤ 300 ∧ ∃ r' : Int × Int, cl_S z f n g law t r' ∧ ds_bd r' (ds_lp f n (ds_is 45) (P d g) (300 - x2).toNat) = ds_bd r (fun b => ds_bd (P d g b) (ds_lp f n (ds_is 45) (P d g) 300)), ?_, ⟨Int.le_refl _, by decide, _, ht, ds_bdA⟩⟩
  intro x2 t ⟨x0, x3, r', hr, he⟩
  have stop : (r'.1 = 0 → (ds_is 45) (lx_T f n r'.2) = false) → Q t := by
    intro hs
    refine k t ?_
    rw [← he]
    by_cases c : r'.1 = 0
    · rw [ds_bd0 c, ds_lpN (hs c), show (0, r'.2) = r' from by obtain ⟨a, b⟩ := r'; have c : a = 0 := c; rw [c]]
      exact hr
    · rw [ds_bdF c]; exact hr
  have more : x2 < 300 → (ds_is 45) (t.1 31 8) = true → fw_31 (fun s24 => (R52 d (fun s25 => ((s25.2.2 2 = none → (True)) ∧ (∀ t26 : Nat, s25.2.2 2 = some t26 → t26 < 4 → (fw_45 t26 45 0 (fun r28 s27 => ((fun x2 t => 0 ≤ x2 ∧ x2 ≤ 300 ∧ ∃ r' : Int × Int, cl_S z f n g law t r' ∧ ds_bd r' (ds_lp f n (ds_is 45) (P d g) (300 - x2).toNat) = ds_bd r (fun b => ds_bd (P d g b) (ds_lp f n (ds_is 45) (P d g) 300))) (x2 + 1) s27)) s25)))) s24)) t := by
    intro hx ho
    have c : r'.1 = 0 := by
      by_cases c : r'.1 = 0
      · exact c
      · rw [cl_bad hr c] at ho; cases ho
    have e := cl_tok hr c
    rw [e] at ho
    rw [show (300 - x2).toNat = (300 - (x2 + 1)).toNat + 1 by omega, ds_bd0 c, ds_lpY ho] at he
    refine fl_adv hb hr (fun u hu => ih d g u _ _ hu (fun w hw => ⟨fun _ => trivial, fun t0 _ h4 => fl_45 h4 hw (fun v y _ hy => ⟨by omega, by omega, _, hy, ?_⟩)⟩))
    rw [← he, ds_bd0 c]
    rfl
  have fin : ¬ x2 < 300 → Q t := by
    intro hx
    refine k t ?_
    rw [show (300 - x2).toNat = 0 by omega] at he
    rw [← he]
    have : ds_bd r' (ds_lp f n (ds_is 45) (P d g) 0) = r' := ds_bdI
    rw [this]; exact hr
  unfold fw_51_p7
  intro _
  refine ⟨fun c => fin (by omega), fun c _ => ⟨fun e => stop (fun c => ?_), fun e => more (by omega) (by rw [Classical.not_not.mp e]; rfl)⟩⟩
  rw [← cl_tok hr c]
  show decide (t.1 31 8 = 45) = false
  exact decide_eq_false e
theorem fl_en {d : Int} {Q : lf_Z → Prop} {G : Int → Int × Int} {K : lf_Z → Prop} (hb : cl_tp f n) (h : cl_S z f n g law s r) (c : r.1 = 0) (hK : ∀ t : lf_Z, cl_S z f n g law t (0, ds_ad f n r.2) → d < 8 → (∀ u : lf_Z, cl_S z f n g law u (G (ds_ad f n r.2)) → Q u) → K t) (k : ∀ t : lf_Z, cl_S z f n g law t (ds_en f n d G r.2) → Q t) : fw_47 d (fun z t => (z = false → Q t) ∧ (z = true → K t)) s := by
  refine fl_47 hb h (fun hd t ht => ⟨(fun z => by cases z), fun _ => hK t ?_ hd (fun u hu => k u ?_)⟩) (fun hd t ht => ⟨fun _ => k t ?_, fun z => by cases z⟩)
  · rw [ds_bd0 c] at ht; exact ht
  · unfold ds_en; rw [if_pos hd]; exact hu
  · unfold ds_en; rw [if_neg hd]; rw [ds_bd0 c] at ht; exact ht
theorem fl_43 {R41 R43 R49 R54 : Int → (lf_Z → Prop) → lf_Z → Prop} {S O I L : ds_D} (hb : cl_tp f n) (hS : cl_G z f n law R41 S) (hO : cl_G z f n law R43 O) (hI : cl_G z f n law R49 I) (hL : cl_G z f n law R54 L) : cl_G z f n law (fw_43 R41 R43 R49 R54) (ds_one f n law S O I L) := by
  intro d g s r Q h k
  unfold fw_43
  intro _
  by_cases c : r.1 = 0
  · have e := cl_tok h c
    rw [ds_bd0 c] at k
    rw [e]
    unfold ds_one at k
    refine ⟨fun q => ?_, fun q => ?_, fun q => ?_, fun q => ?_, fun q => ?_, fun q => ?_, fun q => ?_⟩
    · rw [if_neg q.1, if_neg q.2.1, if_neg q.2.2.1, if_neg q.2.2.2.1, if_neg q.2.2.2.2.1, if_neg q.2.2.2.2.2] at k
      refine fl_name hb h (fun t ht => k t ?_)
      rw [ds_bd0 c] at ht; exact ht
    · rw [if_pos q] at k
      have v := lx_V2 q
      refine ⟨fun _ => fl_num hb h (fun _ _ _ => trivial), fun t0 _ h4 => fl_num hb h (fun w u hu => fl_45 h4 hu (fun w2 y _ hy => k y ?_))⟩
      rw [ds_bd0 c] at hy
      unfold ds_num at hy
      rw [if_pos q] at hy
      by_cases z : lx_V f n r.2 ≤ 9999
      · rw [if_pos ⟨v, z⟩] at hy; rw [if_pos z]; exact hy
      · rw [if_neg (fun y => z y.2)] at hy; rw [if_neg z]; exact hy
    · rw [if_neg (by rw [q]; decide), if_pos q] at k
      exact fl_let hb h c q k
    · rw [if_neg (by rw [q]; decide), if_neg (by rw [q]; decide), if_pos q] at k
      refine fl_en hb h c (fun t ht hd ku => ?_) k
      refine hO (d + 1) g t _ _ ht (fun u hu => ⟨fun _ => trivial, fun t0 _ h4 => fl_45 h4 hu (fun w y _ hy => ku y ?_)⟩)
      rw [ds_bd0 rfl] at hy; exact hy
    · rw [if_neg (by rw [q]; decide), if_neg (by rw [q]; decide), if_neg (by rw [q]; decide), if_pos q] at k
      refine fl_en hb h c (fun t ht hd ku => ?_) k
      refine hS (d + 1) g t _ _ ht (fun u hu => fl_ex (by decide) hb hu (fun y hy => ku y ?_))
      rw [ds_bd0 (r := (0, ds_ad f n r.2)) rfl] at hy; exact hy
    · rw [if_neg (by rw [q]; decide), if_neg (by rw [q]; decide), if_neg (by rw [q]; decide), if_neg (by rw [q]; decide), if_pos q] at k
      refine fl_en hb h c (fun t ht hd ku => ?_) k
      refine hI (d + 1) g t _ _ ht (fun y hy => ku y ?_)
      rw [ds_bd0 rfl] at hy; exact hy
    · rw [if_neg (by rw [q]; decide), if_neg (by rw [q]; decide), if_neg (by rw [q]; decide), if_neg (by rw [q]; decide), if_neg (by rw [q]; decide), if_pos q] at k
      refine fl_en hb h c (fun t ht hd ku => ?_) k
      refine hL (d + 1) g t _ _ ht (fun y hy => ku y ?_)
      rw [ds_bd0 rfl] at hy; exact hy
  · have e := cl_bad h c
    rw [e]
    refine ⟨fun q => ?_, (fun q => by cases q), (fun q => by cases q), (fun q => by cases q), (fun q => by cases q), (fun q => by cases q), fun q => by cases q⟩
    refine fl_name hb h (fun t ht => k t ?_)
    rw [ds_bdF c] at ht ⊢; exact ht
theorem fl_49 {R41 R50 : Int → (lf_Z → Prop) → lf_Z → Prop} {S E : ds_D} (hb : cl_tp f n) (hS : cl_G z f n law R41 S) (hE : cl_G z f n law R50 E) : cl_G z f n law (fw_49 R41 R50) (ds_if f n S E) := by
  intro d g s r Q h k
  unfold fw_49
  refine hE d g s r _ h (fun a ha => fl_ex (by decide) hb ha (fun b hB => ⟨fun _ => trivial, fun t1 _ h1 => fl_45 h1 hB (fun v1 c _ hc => hS d g c _ _ hc (fun e he => fl_ex (by decide) hb he (fun i hi => ⟨fun _ => trivial, fun t2 _ h2 => fl_45 h2 hi (fun v2 j _ hj => ⟨fun _ => trivial, fun t3 _ h3 => fl_53 h3 hj (fun l _ hl => hS d g l _ _ hl (fun m hm => ⟨fun _ => trivial, fun t4 _ h4 => fl_53 h4 hm (fun o _ ho => fl_ex (by decide) hb ho (fun p hp => k p ?_))⟩))⟩)⟩)))⟩))
  have e : ds_bd r (ds_if f n S E d g) = ds_bd (ds_bd (ds_bd (ds_bd (ds_bd (ds_bd r (E d g)) (ds_ex f n 38)) (S d g)) (ds_ex f n 39)) (S d g)) (ds_ex f n 40) := by
    by_cases c : r.1 = 0
    · rw [ds_bd0 c, ds_bd0 c]; rfl
    · rw [ds_bdF c, ds_bdF c, ds_bdF c, ds_bdF c, ds_bdF c, ds_bdF c, ds_bdF c]
  rw [e]; exact hp
theorem cl_S_g {v y : Int} (h : cl_S z f n g law s r) : cl_S z f n (ds_u1 g y v) law (lf_up s.1 33 y v, s.2.1, s.2.2) r := by
  obtain ⟨h1, h2, h3, h4, h5, h6, h7⟩ := h
  have e31 : (lf_up s.1 33 y v) 31 = s.1 31 := lf_up_row (by decide)
  have e32 : (lf_up s.1 33 y v) 32 = s.1 32 := lf_up_row (by decide)
  have e33 : (lf_up s.1 33 y v) 33 = ds_u1 g y v := by
    funext j
    unfold ds_u1
    by_cases hj : j = y
    · rw [if_pos hj, hj]; exact lf_up_s
    · rw [if_neg hj, ← h3]; exact lf_up_i hj
  refine ⟨e32.trans h1, ?_, e33, ?_, fun c => ?_, fun c => ?_, cl_Ke h7 rfl (fun c hc => lf_up_row (by omega))⟩
  · show (lf_up s.1 33 y v) 31 1 = n; rw [e31]; exact h2
  · show (lf_up s.1 33 y v) 31 6 = law; rw [e31]; exact h4
  · have := h5 c
    unfold rd_at at this ⊢
    show ((lf_up s.1 33 y v) 31 9 = r.2 ∧ (lf_up s.1 33 y v) 31 8 = lx_T ((lf_up s.1 33 y v) 32) ((lf_up s.1 33 y v) 31 1) r.2 ∧ (lf_up s.1 33 y v) 31 7 = lx_E ((lf_up s.1 33 y v) 32) ((lf_up s.1 33 y v) 31 1) r.2 ∧ (((lf_up s.1 33 y v) 31 8 = 2 ∨ (lf_up s.1 33 y v) 31 8 = 3) → (lf_up s.1 33 y v) 31 10 = lx_V ((lf_up s.1 33 y v) 32) ((lf_up s.1 33 y v) 31 1) r.2)) ∧ (lf_up s.1 33 y v) 31 2 = 0 ∧ 0 ≤ r.2 ∧ 0 ≤ (lf_up s.1 33 y v) 31 7 ∧ (lf_up s.1 33 y v) 31 3 = -1
    rw [e31, e32]; exact this
  · show (lf_up s.1 33 y v) 31 2 = r.1 ∧ (lf_up s.1 33 y v) 31 3 = r.2 ∧ (lf_up s.1 33 y v) 31 8 = 1
    rw [e31]; exact h6 c
theorem ds_u1u {y v : Int} : ds_u1 (ds_u1 g y v) y (g y) = g := by
  funext j
  unfold ds_u1
  by_cases hj : j = y
  · rw [if_pos hj, hj]
  · rw [if_neg hj, if_neg hj]
theorem fl_55 {a b c : Int} {Q : Int → lf_Z → Prop} (h : Q (max b (min c a)) s) : fw_55 a b c Q s := by
  unfold fw_55
  intro _ _ _ _
  exact h
theorem fl_54p {R41 : Int → (lf_Z → Prop) → lf_Z → Prop} {S : ds_D} {d y : Int} {Q : lf_Z → Prop} (hb : cl_tp f n) (hS : cl_G z f n law R41 S) (h : cl_S z f n g law s r) (k : ∀ t : lf_Z, cl_S z f n g law t (ds_bd (ds_bd (ds_bd (ds_bd (ds_bd (ds_bd r (ds_ex f n 3)) (ds_ex f n 42)) (S d g)) (ds_ex f n 43)) (S d (ds_u1 g y (ds_sl d)))) (ds_ex f n 40)) → Q t) : fw_54_p29 R41 Q d y s := by
  unfold fw_54_p29
  refine fl_55 (fl_ex (by decide) hb h (fun a ha => fl_ex (by decide) hb ha (fun b hB => hS d g b _ _ hB (fun c hc => fl_ex (by decide) hb hc (fun e he => ⟨fun _ => trivial, fun t1 _ h1 => fl_45 h1 he (fun v i _ hi hy => ?_)⟩)))))
  have eg : i.1 33 y = g y := by rw [hi.2.2.1]
  rw [eg]
  refine hS d _ _ _ _ (cl_S_g (v := ds_sl d) hi) (fun j hj => fl_ex (by decide) hb (s := (lf_up j.1 33 y (g y), j.2.1, j.2.2)) (g := g) ?_ k)
  have := cl_S_g (y := y) (v := g y) hj
  rw [ds_u1u] at this
  exact this
theorem fl_54 {R41 : Int → (lf_Z → Prop) → lf_Z → Prop} {S : ds_D} (hb : cl_tp f n) (hS : cl_G z f n law R41 S) : cl_G z f n law (fw_54 R41) (ds_let f n S) := by
  intro d g s r Q h k
  unfold fw_54
  intro _
  by_cases c : r.1 = 0
  · have e := cl_tok h c
    rw [ds_bd0 c] at k
    unfold ds_let at k
    have bad : lx_T f n r.2 ≠ 3 → fw_54_p28 R41 Q d s := by
      intro q
      unfold fw_54_p28
      refine fl_54p hb hS h (fun t ht => k t ?_)
      have x : ds_ex f n 3 r.2 = (1, r.2) := by unfold ds_ex; rw [if_neg q]
      rw [ds_bd0 c, x] at ht
      rw [x]
      rw [ds_bdF (r := ((1 : Int), r.2)) (show (1 : Int) ≠ 0 by decide), ds_bdF (r := ((1 : Int), r.2)) (show (1 : Int) ≠ 0 by decide), ds_bdF (r := ((1 : Int), r.2)) (show (1 : Int) ≠ 0 by decide), ds_bdF (r := ((1 : Int), r.2)) (show (1 : Int) ≠ 0 by decide), ds_bdF (r := ((1 : Int), r.2)) (show (1 : Int) ≠ 0 by decide)] at ht ⊢
      exact ht
    refine ⟨fun q => bad (by rw [← e]; exact q), fun q => ?_⟩
    have q := Classical.not_not.mp q
    have q3 : lx_T f n r.2 = 3 := e.symm.trans q
    have v := cl_val h c (Or.inr q)
    have vb := lx_V3 q3
    refine fl_15 ?_
    rw [v, decide_eq_true vb.1, decide_eq_true vb.2]
    refine ⟨(fun z => by cases z), fun _ => fl_54p hb hS h (fun t ht => k t ?_)⟩
    rw [ds_bd0 c] at ht
    exact ht
  · have e := cl_bad h c
    rw [e]
    refine ⟨fun _ => ?_, fun q => absurd (by decide) q⟩
    unfold fw_54_p28
    refine fl_54p hb hS h (fun t ht => k t ?_)
    rw [ds_bdF c, ds_bdF c, ds_bdF c, ds_bdF c, ds_bdF c, ds_bdF c] at ht
    rw [ds_bdF c]
    exact ht
theorem fl_52 {R41 R52 : Int → (lf_Z → Prop) → lf_Z → Prop} {S A : ds_D} (hb : cl_tp f n) (hS : cl_G z f n law R41 S) (hA : cl_G z f n law R52 A) : cl_G z f n law (fw_52 R41 R52) (ds_ask f n S A) := by
  intro d g s r Q h k
  have sum : (∀ t : lf_Z, cl_S z f n g law t (ds_bd (ds_bd (ds_bd r (S d g)) (fun b => if 4 ≤ lx_T f n b ∧ lx_T f n b ≤ 9 then (0, ds_ad f n b) else (1, b))) (S d g)) → Q t) → R41 d (fun s22 => (fw_15 (s22.1 31 8) 4 9 (fun z24 s23 => ((z24 = true → (fw_31 (fun s25 => (R41 d (fun s26 => ((s26.2.2 2 = none → (True)) ∧ (∀ t27 : Nat, s26.2.2 2 = some t27 → t27 < 4 → (fw_45 t27 (s22.1 31 8) 0 (fun r29 s28 => (Q s28)) s26)))) s25)) s23)) ∧ (z24 = false → (fw_39 1 (fun s30 => (Q s30)) s23)))) s22)) s := by
    intro kk
    refine hS d g s r _ h (fun t ht => fl_15 ?_)
    generalize ds_bd r (S d g) = r1 at ht kk
    by_cases c : r1.1 = 0
    · have e := cl_tok ht c
      rw [ds_bd0 c] at kk
      refine ⟨fun z => ?_, fun z => ?_⟩
      · rw [Bool.and_eq_true, decide_eq_true_eq, decide_eq_true_eq, e] at z
        rw [if_pos z] at kk
        refine fl_adv hb ht (fun u hu => hS d g u _ _ hu (fun w hw => ⟨fun _ => trivial, fun t0 _ h4 => fl_45 h4 hw (fun v y _ hy => kk y ?_)⟩))
        rw [ds_bd0 c] at hy; exact hy
      · rw [Bool.and_eq_false_iff, decide_eq_false_iff_not, decide_eq_false_iff_not, e] at z
        rw [if_neg (fun q => by omega), ds_bdF (r := ((1 : Int), r1.2)) (show (1 : Int) ≠ 0 by decide)] at kk
        refine fl_fail (by decide) ht (fun u hu => kk u ?_)
        rw [ds_bd0 c] at hu; exact hu
    · have e := cl_bad ht c
      rw [ds_bdF c, ds_bdF c] at kk
      rw [e]
      refine ⟨(fun z => by cases z), fun z => fl_fail (by decide) ht (fun u hu => kk u ?_)⟩
      rw [ds_bdF c] at hu; exact hu
  unfold fw_52
  intro _
  by_cases c : r.1 = 0
  · have e := cl_tok h c
    rw [ds_bd0 c] at k
    unfold ds_ask at k
    rw [ds_bd0 c] at sum
    refine ⟨fun q => ?_, fun q => ?_⟩
    · rw [if_neg (by rw [← e]; exact q)] at k
      exact sum k
    · rw [if_pos (by rw [← e]; exact Classical.not_not.mp q)] at k
      refine fl_en hb h c (fun t ht hd ku => ?_) k
      refine hA (d + 1) g t _ _ ht (fun u hu => ⟨fun _ => trivial, fun t0 _ h4 => fl_45 h4 hu (fun w y _ hy => ku y ?_)⟩)
      rw [ds_bd0 rfl] at hy; exact hy
  · have e := cl_bad h c
    refine ⟨fun q => sum (fun t ht => k t ?_), fun q => absurd (by rw [e]; decide) q⟩
    rw [ds_bdF c, ds_bdF c, ds_bdF c] at ht
    rw [ds_bdF c]; exact ht
/-- all of them, to each depth of calls -/
theorem fl_rec (hb : cl_tp f n) : ∀ m : Nat, cl_G z f n law (fv_41T m).1 (ds_T f n law m).1 ∧ cl_G z f n law (fv_41T m).2.1 (ds_T f n law m).2.1 ∧ cl_G z f n law (fv_41T m).2.2.1 (ds_T f n law m).2.2.1 ∧ cl_G z f n law (fv_41T m).2.2.2.1 (ds_T f n law m).2.2.2.1 ∧ cl_G z f n law (fv_41T m).2.2.2.2.1 (ds_T f n law m).2.2.2.2.1 ∧ cl_G z f n law (fv_41T m).2.2.2.2.2.1 (ds_T f n law m).2.2.2.2.2.1 ∧ cl_G z f n law (fv_41T m).2.2.2.2.2.2.1 (ds_T f n law m).2.2.2.2.2.2.1 ∧ cl_G z f n law (fv_41T m).2.2.2.2.2.2.2 (ds_T f n law m).2.2.2.2.2.2.2 := by
  intro m
  induction m with
  | zero => exact ⟨fun _ _ _ _ _ _ _ => trivial, fun _ _ _ _ _ _ _ => trivial, fun _ _ _ _ _ _ _ => trivial, fun _ _ _ _ _ _ _ => trivial, fun _ _ _ _ _ _ _ => trivial, fun _ _ _ _ _ _ _ => trivial, fun _ _ _ _ _ _ _ => trivial, fun _ _ _ _ _ _ _ => trivial⟩
  | succ m ih =>
    obtain ⟨hS, hP, hO, hI, hL, hE, hB, hA⟩ := ih
    exact ⟨fl_41 hb hP, fl_42 hb hO, fl_43 hb hS hO hI hL, fl_49 hb hS hE, fl_54 hb hS, fl_50 hb hB, fl_51 hb hA, fl_52 hb hS hA⟩
/-- a sum of a clause: readSum(0) -/
theorem fl_sum {Q : lf_Z → Prop} (hb : cl_tp f n) (h : cl_S z f n g law s r) (k : ∀ t : lf_Z, cl_S z f n g law t (ds_bd r ((ds_T f n law 200).1 0 g)) → Q t) : fv_41 0 Q s := (fl_rec hb 200).1 0 g s r Q h k
end DT
