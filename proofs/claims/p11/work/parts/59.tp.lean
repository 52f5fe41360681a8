/-! the tape, texts and faults: the law's relation -/
section TP
variable {f g g' : Int → Int} {n law : Int} {I I' : Nat → Int → Int} {P P' : Nat → Option Nat} {l : List Nat} {w : Int} {bb : Bool} {s t : lf_Z}
/-! letters are asked from a to z alone -/
def lg_a (g g' : Int → Int) : Prop := ∀ j : Int, 0 ≤ j → j < 26 → g j = g' j
theorem lg_u {i v : Int} (h : lg_a g g') : lg_a (ds_u1 g i v) (ds_u1 g' i v) := fun j a b => by
  unfold ds_u1
  split
  · rfl
  · exact h j a b
theorem lg_T : ∀ (k : Nat) (g g' : Int → Int), lg_a g g' → (∀ d, (ds_T f n law k).1 d g = (ds_T f n law k).1 d g') ∧ (∀ d, (ds_T f n law k).2.1 d g = (ds_T f n law k).2.1 d g') ∧ (∀ d, (ds_T f n law k).2.2.1 d g = (ds_T f n law k).2.2.1 d g') ∧ (∀ d, (ds_T f n law k).2.2.2.1 d g = (ds_T f n law k).2.2.2.1 d g') ∧ (∀ d, (ds_T f n law k).2.2.2.2.1 d g = (ds_T f n law k).2.2.2.2.1 d g') ∧ (∀ d, (ds_T f n law k).2.2.2.2.2.1 d g = (ds_T f n law k).2.2.2.2.2.1 d g') ∧ (∀ d, (ds_T f n law k).2.2.2.2.2.2.1 d g = (ds_T f n law k).2.2.2.2.2.2.1 d g') ∧ (∀ d, (ds_T f n law k).2.2.2.2.2.2.2 d g = (ds_T f n law k).2.2.2.2.2.2.2 d g') := by
  intro k
  induction k with
  | zero => intro g g' _; exact ⟨fun _ => rfl, fun _ => rfl, fun _ => rfl, fun _ => rfl, fun _ => rfl, fun _ => rfl, fun _ => rfl, fun _ => rfl⟩
  | succ k ih =>
    intro g g' h
    obtain ⟨i1, i2, i3, i4, i5, i6, i7, i8⟩ := ih g g' h
    refine ⟨fun d => funext fun b => ?_, fun d => funext fun b => ?_, fun d => funext fun b => ?_, fun d => funext fun b => ?_, fun d => funext fun b => ?_, fun d => funext fun b => ?_, fun d => funext fun b => ?_, fun d => funext fun b => ?_⟩
    · show ds_bd ((ds_T f n law k).2.1 d g b) (ds_lp f n ds_pm ((ds_T f n law k).2.1 d g) 300) = ds_bd ((ds_T f n law k).2.1 d g' b) (ds_lp f n ds_pm ((ds_T f n law k).2.1 d g') 300)
      rw [i2 d]
    · show ds_bd ((ds_T f n law k).2.2.1 d g b) (ds_lp f n ds_td ((ds_T f n law k).2.2.1 d g) 300) = ds_bd ((ds_T f n law k).2.2.1 d g' b) (ds_lp f n ds_td ((ds_T f n law k).2.2.1 d g') 300)
      rw [i3 d]
    · show ds_one f n law (ds_T f n law k).1 (ds_T f n law k).2.2.1 (ds_T f n law k).2.2.2.1 (ds_T f n law k).2.2.2.2.1 d g b = ds_one f n law (ds_T f n law k).1 (ds_T f n law k).2.2.1 (ds_T f n law k).2.2.2.1 (ds_T f n law k).2.2.2.2.1 d g' b
      unfold ds_one
      rw [i3 (d + 1), i1 (d + 1), i4 (d + 1), i5 (d + 1)]
      by_cases c : lx_T f n b = 3
      · rw [h _ (la_V3 c).1 (la_V3 c).2]
      · rw [if_neg c, if_neg c]
    · show ds_if f n (ds_T f n law k).1 (ds_T f n law k).2.2.2.2.2.1 d g b = ds_if f n (ds_T f n law k).1 (ds_T f n law k).2.2.2.2.2.1 d g' b
      unfold ds_if
      rw [i6 d, i1 d]
    · show ds_let f n (ds_T f n law k).1 d g b = ds_let f n (ds_T f n law k).1 d g' b
      unfold ds_let
      rw [i1 d, (ih _ _ (lg_u (i := lx_V f n b) (v := ds_sl d) h)).1 d]
    · show ds_bd ((ds_T f n law k).2.2.2.2.2.2.1 d g b) (ds_lp f n (ds_is 46) ((ds_T f n law k).2.2.2.2.2.2.1 d g) 300) = ds_bd ((ds_T f n law k).2.2.2.2.2.2.1 d g' b) (ds_lp f n (ds_is 46) ((ds_T f n law k).2.2.2.2.2.2.1 d g') 300)
      rw [i7 d]
    · show ds_bd ((ds_T f n law k).2.2.2.2.2.2.2 d g b) (ds_lp f n (ds_is 45) ((ds_T f n law k).2.2.2.2.2.2.2 d g) 300) = ds_bd ((ds_T f n law k).2.2.2.2.2.2.2 d g' b) (ds_lp f n (ds_is 45) ((ds_T f n law k).2.2.2.2.2.2.2 d g') 300)
      rw [i8 d]
    · show ds_ask f n (ds_T f n law k).1 (ds_T f n law k).2.2.2.2.2.2.2 d g b = ds_ask f n (ds_T f n law k).1 (ds_T f n law k).2.2.2.2.2.2.2 d g' b
      unfold ds_ask
      rw [i1 d, i8 (d + 1)]
theorem lg_c {b : Int} (h : lg_a g g') : ds_cl f n g b = ds_cl f n g' b := by
  unfold ds_cl
  rw [(lg_T 200 g g' h).1 0]
theorem lg_l (h : lg_a g g') : ∀ (k : Nat) (m : Int) (o : Int → Bool) (b : Int), tx_lp f n g k m o b = tx_lp f n g' k m o b := by
  intro k
  induction k with
  | zero => intro m o b; rfl
  | succ k ih =>
    intro m o b
    show (if lx_T f n b = 0 then (0, b) else if tx_ok f n m o b ≠ 0 then (tx_ok f n m o b, b) else ds_bd (ds_cl f n g b) (tx_lp f n g k (m + 1) (tx_o f n o b))) = (if lx_T f n b = 0 then (0, b) else if tx_ok f n m o b ≠ 0 then (tx_ok f n m o b, b) else ds_bd (ds_cl f n g' b) (tx_lp f n g' k (m + 1) (tx_o f n o b)))
    have e : tx_lp f n g k (m + 1) (tx_o f n o b) = tx_lp f n g' k (m + 1) (tx_o f n o b) := funext (fun b' => ih _ _ b')
    rw [lg_c h, e]
theorem lg_v (h : lg_a g g') : tx_v f n g = tx_v f n g' := lg_l h _ _ _ _
/-! bytes -/
theorem tp_bv (x : BitVec 32) (k : Nat) (h : k ≤ 24) : (x >>> k) &&& 255#32 = (x.sshiftRight k) &&& 255#32 := by
  apply BitVec.eq_of_getLsbD_eq
  intro i hi
  have t : ∀ i, i < 32 → (255#32).getLsbD i = decide (i < 8) := by decide
  rw [BitVec.getLsbD_and, BitVec.getLsbD_and, BitVec.getLsbD_ushiftRight, BitVec.getLsbD_sshiftRight, t i hi]
  by_cases c : i < 8
  · have c1 : k + i < 32 := by omega
    have c2 : ¬ 32 ≤ i := by omega
    simp [c, c1, c2]
  · simp [c]
theorem tp_sh {a x : Int} (hx : x = 24 ∨ x = 16 ∨ x = 8 ∨ x = 0) : lf_and (lf_ushr a x) 255 = lf_and (lf_shr a x) 255 := by
  unfold lf_and lf_ushr lf_shr
  rw [Int32.ofInt_toInt, Int32.ofInt_toInt]
  rcases hx with e | e | e | e
  · subst e; exact congrArg Int32.toInt (Int32.toBitVec_inj.mp (tp_bv (Int32.ofInt a).toBitVec 24 (by decide)))
  · subst e; exact congrArg Int32.toInt (Int32.toBitVec_inj.mp (tp_bv (Int32.ofInt a).toBitVec 16 (by decide)))
  · subst e; exact congrArg Int32.toInt (Int32.toBitVec_inj.mp (tp_bv (Int32.ofInt a).toBitVec 8 (by decide)))
  · subst e; exact congrArg Int32.toInt (Int32.toBitVec_inj.mp (tp_bv (Int32.ofInt a).toBitVec 0 (by decide)))
def tp_W (F : Int → Int) (n a : Int) : Nat → Int → Int
  | 0 => F
  | k + 1 => ds_u1 (tp_W F n a k) (n + k) (lf_and (lf_shr a (24 - 8 * k)) 255)
theorem tp_row {F : Nat → Int → Int} {c : Nat} {i v : Int} : lf_up F c i v c = ds_u1 (F c) i v := by
  funext j
  unfold ds_u1
  by_cases h : j = i
  · rw [h, if_pos rfl]; exact lf_up_s
  · rw [if_neg h]; exact lf_up_i h
theorem fl_26 {a : Int} {Q : lf_Z → Prop} (h4 : s.1 31 1 + 4 ≤ 300) (kk : ∀ t : lf_Z, t.1 31 1 = s.1 31 1 + 4 → t.1 32 = tp_W (s.1 32) (s.1 31 1) a 4 → (∀ i : Int, i ≠ 1 → t.1 31 i = s.1 31 i) → Q t) : fw_26 a Q s := by
  unfold fw_26
  refine ⟨fun x t => ∃ k : Nat, k ≤ 4 ∧ x = 24 - 8 * k ∧ t.1 31 1 = s.1 31 1 + k ∧ t.1 32 = tp_W (s.1 32) (s.1 31 1) a k ∧ ∀ i : Int, i ≠ 1 → t.1 31 i = s.1 31 i, ?_, ⟨0, by decide, by decide, by omega, rfl, fun _ _ => rfl⟩⟩
  intro x t ⟨k, k4, hx, h1, h2, h3⟩
  unfold fw_26_p3
  intro _
  refine ⟨fun c => ?_, fun c _ => ⟨fun d => by omega, fun _ _ => ?_⟩⟩
  · have e : k = 4 := by omega
    subst e
    exact kk t h1 h2 h3
  · rw [h1]
    refine ⟨k + 1, by omega, by omega, ?_, ?_, fun i hi => (zu_i hi).trans ((lf_up_c (by decide)).trans (h3 i hi))⟩
    · refine zu_s.trans ?_
      omega
    · refine (zu_r (by decide)).trans (tp_row.trans ?_)
      rw [h2, tp_sh (by omega), hx]; rfl
theorem fl_193 {a : Int} {Q : lf_Z → Prop} (kk : ∀ t : lf_Z, t.1 95 4 = s.1 95 4 + 4 → t.1 99 = tp_W (s.1 99) (s.1 95 4) a 4 → (∀ i : Int, i ≠ 4 → t.1 95 i = s.1 95 i) → Q t) : fw_193 a Q s := by
  unfold fw_193
  refine ⟨fun x t => ∃ k : Nat, k ≤ 4 ∧ x = 24 - 8 * k ∧ t.1 95 4 = s.1 95 4 + k ∧ t.1 99 = tp_W (s.1 99) (s.1 95 4) a k ∧ ∀ i : Int, i ≠ 4 → t.1 95 i = s.1 95 i, ?_, ⟨0, by decide, by decide, by omega, rfl, fun _ _ => rfl⟩⟩
  intro x t ⟨k, k4, hx, h1, h2, h3⟩
  unfold fw_193_p3
  intro _
  refine ⟨fun c => ?_, fun c _ => ?_⟩
  · have e : k = 4 := by omega
    subst e
    exact kk t h1 h2 h3
  · rw [h1]
    refine ⟨k + 1, by omega, by omega, ?_, ?_, fun i hi => (zu_i hi).trans ((lf_up_c (by decide)).trans (h3 i hi))⟩
    · refine zu_s.trans ?_
      omega
    · refine (zu_r (by decide)).trans (tp_row.trans ?_)
      rw [h2, hx]; rfl
def tp_W5 (F : Int → Int) (n a b c d e : Int) : Int → Int := tp_W (tp_W (tp_W (tp_W (tp_W F n a 4) (n + 4) b 4) (n + 4 + 4) c 4) (n + 4 + 4 + 4) d 4) (n + 4 + 4 + 4 + 4) e 4
/-- feed: what becomes of the tape -/
def tp_fd (a b c d e : Int) (F : Int → Int) (n : Int) (F' : Int → Int) (n' r : Int) : Prop := (n + 20 ≤ 300 ∧ F' = tp_W5 F n a b c d e ∧ n' = n + 20 ∧ r = n + 20) ∨ (¬ n + 20 ≤ 300 ∧ F' = F ∧ n' = n ∧ r = -1)
theorem tp_25 {a b c d e : Int} {Q : Int → lf_Z → Prop} (hI : iv_A s.1 s.2.2) (ba1 : (-2147483648) ≤ a ∧ a ≤ 2147483647) (ba2 : (-2147483648) ≤ b ∧ b ≤ 2147483647) (ba3 : (-2147483648) ≤ c ∧ c ≤ 2147483647) (ba4 : (-2147483648) ≤ d ∧ d ≤ 2147483647) (ba5 : (-2147483648) ≤ e ∧ e ≤ 2147483647) (hQ : ∀ (r : Int) (s' : lf_Z), iv_A s'.1 s'.2.2 → lf_fq [31, 32] 1000000 true s.1 s.2.2 s'.1 s'.2.2 → (tp_fd a b c d e (s.1 32) (s.1 31 1) (s'.1 32) (s'.1 31 1) r ∧ ∀ i : Int, i ≠ 1 → s'.1 31 i = s.1 31 i) → ((-1) ≤ r ∧ r ≤ 300) → Q r s') : fm_25 a b c d e Q s := by
  refine cj_25 (Q1 := fun r s' => iv_A s'.1 s'.2.2 ∧ lf_fq [31, 32] 1000000 true s.1 s.2.2 s'.1 s'.2.2 ∧ ((-1) ≤ r ∧ r ≤ 300)) (Q2 := fun r s' => tp_fd a b c d e (s.1 32) (s.1 31 1) (s'.1 32) (s'.1 31 1) r ∧ ∀ i : Int, i ≠ 1 → s'.1 31 i = s.1 31 i) (fun r s' h1 h2 => hQ r s' h1.1 h1.2.1 h2 h1.2.2) (sm_25 hI ba1 ba2 ba3 ba4 ba5 (fun r s' h1 h2 h3 => ⟨h1, h2, h3⟩)) ?_
  unfold fw_25
  intro _
  refine ⟨fun q => ?_, fun q => ⟨Or.inr ⟨q, rfl, rfl, rfl⟩, fun _ _ => rfl⟩⟩
  refine fl_26 (by omega) (fun t1 n1 r1 o1 => fl_26 (by omega) (fun t2 n2 r2 o2 => fl_26 (by omega) (fun t3 n3 r3 o3 => fl_26 (by omega) (fun t4 n4 r4 o4 => fl_26 (by omega) (fun t5 n5 r5 o5 => ?_)))))
  refine ⟨Or.inl ⟨q, ?_, by omega, by omega⟩, fun i hi => (o5 i hi).trans ((o4 i hi).trans ((o3 i hi).trans ((o2 i hi).trans (o1 i hi))))⟩
  rw [r5, r4, r3, r2, r1, n4, n3, n2, n1]; rfl
theorem tp_192 {a b c d e : Int} {Q : Int → lf_Z → Prop} (hI : iv_A s.1 s.2.2) (ba1 : (-2147483648) ≤ a ∧ a ≤ 2147483647) (ba2 : (-2147483648) ≤ b ∧ b ≤ 2147483647) (ba3 : (-2147483648) ≤ c ∧ c ≤ 2147483647) (ba4 : (-2147483648) ≤ d ∧ d ≤ 2147483647) (ba5 : (-2147483648) ≤ e ∧ e ≤ 2147483647) (hQ : ∀ (r : Int) (s' : lf_Z), iv_A s'.1 s'.2.2 → lf_fq [95, 99] 1000000 true s.1 s.2.2 s'.1 s'.2.2 → (tp_fd a b c d e (s.1 99) (s.1 95 4) (s'.1 99) (s'.1 95 4) r ∧ ∀ i : Int, i ≠ 4 → s'.1 95 i = s.1 95 i) → ((-1) ≤ r ∧ r ≤ 300) → Q r s') : fm_192 a b c d e Q s := by
  refine cj_192 (Q1 := fun r s' => iv_A s'.1 s'.2.2 ∧ lf_fq [95, 99] 1000000 true s.1 s.2.2 s'.1 s'.2.2 ∧ ((-1) ≤ r ∧ r ≤ 300)) (Q2 := fun r s' => tp_fd a b c d e (s.1 99) (s.1 95 4) (s'.1 99) (s'.1 95 4) r ∧ ∀ i : Int, i ≠ 4 → s'.1 95 i = s.1 95 i) (fun r s' h1 h2 => hQ r s' h1.1 h1.2.1 h2 h1.2.2) (sm_192 hI ba1 ba2 ba3 ba4 ba5 (fun r s' h1 h2 h3 => ⟨h1, h2, h3⟩)) ?_
  unfold fw_192
  intro _
  refine ⟨fun q => ?_, fun q => ⟨Or.inr ⟨q, rfl, rfl, rfl⟩, fun _ _ => rfl⟩⟩
  refine fl_193 (fun t1 n1 r1 o1 => fl_193 (fun t2 n2 r2 o2 => fl_193 (fun t3 n3 r3 o3 => fl_193 (fun t4 n4 r4 o4 => fl_193 (fun t5 n5 r5 o5 => ?_)))))
  refine ⟨Or.inl ⟨q, ?_, by omega, by omega⟩, fun i hi => (o5 i hi).trans ((o4 i hi).trans ((o3 i hi).trans ((o2 i hi).trans (o1 i hi))))⟩
  rw [r5, r4, r3, r2, r1, n4, n3, n2, n1]; rfl
/-- end -/
def tp_en (a n n' r : Int) : Prop := ((0 ≤ a ∧ a ≤ n) ∧ n' = a ∧ r = a) ∨ (¬ (0 ≤ a ∧ a ≤ n) ∧ n' = n ∧ r = -1)
theorem tp_27 {a : Int} {Q : Int → lf_Z → Prop} (hI : iv_A s.1 s.2.2) (ba1 : (-2147483648) ≤ a ∧ a ≤ 2147483647) (hQ : ∀ (r : Int) (s' : lf_Z), iv_A s'.1 s'.2.2 → lf_fq [31] 1000000 true s.1 s.2.2 s'.1 s'.2.2 → (tp_en a (s.1 31 1) (s'.1 31 1) r ∧ ∀ i : Int, i ≠ 1 → s'.1 31 i = s.1 31 i) → ((-1) ≤ r ∧ r ≤ 300) → Q r s') : fm_27 a Q s := by
  refine cj_27 (Q1 := fun r s' => iv_A s'.1 s'.2.2 ∧ lf_fq [31] 1000000 true s.1 s.2.2 s'.1 s'.2.2 ∧ ((-1) ≤ r ∧ r ≤ 300)) (Q2 := fun r s' => tp_en a (s.1 31 1) (s'.1 31 1) r ∧ ∀ i : Int, i ≠ 1 → s'.1 31 i = s.1 31 i) (fun r s' h1 h2 => hQ r s' h1.1 h1.2.1 h2 h1.2.2) (sm_27 hI ba1 (fun r s' h1 h2 h3 => ⟨h1, h2, h3⟩)) ?_
  unfold fw_27
  refine fl_15 ⟨fun q => ?_, fun q => ?_⟩
  · rw [Bool.and_eq_true, decide_eq_true_eq, decide_eq_true_eq] at q
    exact ⟨Or.inl ⟨q, zu_s, rfl⟩, fun i hi => zu_i hi⟩
  · refine ⟨Or.inr ⟨fun w => ?_, rfl, rfl⟩, fun _ _ => rfl⟩
    rw [decide_eq_true w.1, decide_eq_true w.2] at q; cases q
theorem tp_194 {a : Int} {Q : Int → lf_Z → Prop} (hI : iv_A s.1 s.2.2) (ba1 : (-2147483648) ≤ a ∧ a ≤ 2147483647) (hQ : ∀ (r : Int) (s' : lf_Z), iv_A s'.1 s'.2.2 → lf_fq [95] 1000000 true s.1 s.2.2 s'.1 s'.2.2 → (tp_en a (s.1 95 4) (s'.1 95 4) r ∧ ∀ i : Int, i ≠ 4 → s'.1 95 i = s.1 95 i) → ((-1) ≤ r ∧ r ≤ 300) → Q r s') : fm_194 a Q s := by
  refine cj_194 (Q1 := fun r s' => iv_A s'.1 s'.2.2 ∧ lf_fq [95] 1000000 true s.1 s.2.2 s'.1 s'.2.2 ∧ ((-1) ≤ r ∧ r ≤ 300)) (Q2 := fun r s' => tp_en a (s.1 95 4) (s'.1 95 4) r ∧ ∀ i : Int, i ≠ 4 → s'.1 95 i = s.1 95 i) (fun r s' h1 h2 => hQ r s' h1.1 h1.2.1 h2 h1.2.2) (sm_194 hI ba1 (fun r s' h1 h2 h3 => ⟨h1, h2, h3⟩)) ?_
  unfold fw_194
  refine fl_183 ⟨fun q => ?_, fun q => ?_⟩
  · rw [Bool.and_eq_true, decide_eq_true_eq, decide_eq_true_eq] at q
    exact ⟨Or.inl ⟨q, zu_s, rfl⟩, fun i hi => zu_i hi⟩
  · refine ⟨Or.inr ⟨fun w => ?_, rfl, rfl⟩, fun _ _ => rfl⟩
    rw [decide_eq_true w.1, decide_eq_true w.2] at q; cases q
/-- text -/
def tp_tx (V : Int × Int) (T n' k' p' T' r : Int) (n k p : Int) : Prop := (T < 4 ∧ n' = 0 ∧ k' = V.1 ∧ (V.1 = 0 → p' = -1 ∧ r = T ∧ T' = T + 1) ∧ (V.1 ≠ 0 → p' = V.2 ∧ r = -1 ∧ T' = T)) ∨ (¬ T < 4 ∧ n' = n ∧ k' = k ∧ p' = p ∧ T' = T ∧ r = -1)
theorem tp_28 {Q : Int → lf_Z → Prop} (hI : iv_A s.1 s.2.2) (hQ : ∀ (r : Int) (s' : lf_Z), iv_A s'.1 s'.2.2 → lf_fq [0, 31, 33, 35, 36, 37, 38, 39, 40, 41, 42, 43, 44, 45, 46, 47, 48, 49, 50, 51, 52, 53, 54, 55, 56, 57, 58, 59, 60, 61, 62] 1000000 false s.1 s.2.2 s'.1 s'.2.2 → (tp_tx (tx_v (s.1 32) (s.1 31 1) (fun _ => -1)) (s.1 0 11) (s'.1 31 1) (s'.1 31 2) (s'.1 31 3) (s'.1 0 11) r (s.1 31 1) (s.1 31 2) (s.1 31 3) ∧ s'.1 0 12 = s.1 0 12) → ((-1) ≤ r ∧ r ≤ 3) → Q r s') : fm_28 Q s := by
  refine cj_28 (Q1 := fun r s' => iv_A s'.1 s'.2.2 ∧ lf_fq [0, 31, 33, 35, 36, 37, 38, 39, 40, 41, 42, 43, 44, 45, 46, 47, 48, 49, 50, 51, 52, 53, 54, 55, 56, 57, 58, 59, 60, 61, 62] 1000000 false s.1 s.2.2 s'.1 s'.2.2 ∧ ((-1) ≤ r ∧ r ≤ 3)) (Q2 := fun r s' => tp_tx (tx_v (s.1 32) (s.1 31 1) (fun _ => -1)) (s.1 0 11) (s'.1 31 1) (s'.1 31 2) (s'.1 31 3) (s'.1 0 11) r (s.1 31 1) (s.1 31 2) (s.1 31 3) ∧ s'.1 0 12 = s.1 0 12) (fun r s' h1 h2 => hQ r s' h1.1 h1.2.1 h2 h1.2.2) (sm_28 hI (fun r s' h1 h2 h3 => ⟨h1, h2, h3⟩)) ?_
  refine fl_28 (fun i _ _ => iv_r32 hI i) (fun q => ⟨Or.inr ⟨q, rfl, rfl, rfl, rfl, rfl⟩, rfl⟩) (fun q g t v hg h1 h2 h0 h3 h4 h5 => ?_)
  have e : tx_v (s.1 32) (s.1 31 1) g = tx_v (s.1 32) (s.1 31 1) (fun _ => -1) := lg_v (fun j a b => hg j a b)
  rw [e] at h3 h4 h5
  exact ⟨Or.inl ⟨q, h2, h3, h4, h5⟩, h0 12 (by decide)⟩
theorem tp_195 {Q : Int → lf_Z → Prop} (hI : iv_A s.1 s.2.2) (hQ : ∀ (r : Int) (s' : lf_Z), iv_A s'.1 s'.2.2 → lf_fq [95, 96, 98, 100, 101, 102, 103, 1003] 7 true s.1 s.2.2 s'.1 s'.2.2 → (tp_tx (tx_v (s.1 99) (s.1 95 4) (fun _ => -1)) (s.1 96 7) (s'.1 95 4) (s'.1 95 5) (s'.1 95 6) (s'.1 96 7) r (s.1 95 4) (s.1 95 5) (s.1 95 6) ∧ s'.1 96 8 = s.1 96 8) → ((-1) ≤ r ∧ r ≤ 4) → Q r s') : fm_195 Q s := by
  refine cj_195 (Q1 := fun r s' => iv_A s'.1 s'.2.2 ∧ lf_fq [95, 96, 98, 100, 101, 102, 103, 1003] 7 true s.1 s.2.2 s'.1 s'.2.2 ∧ ((-1) ≤ r ∧ r ≤ 4)) (Q2 := fun r s' => tp_tx (tx_v (s.1 99) (s.1 95 4) (fun _ => -1)) (s.1 96 7) (s'.1 95 4) (s'.1 95 5) (s'.1 95 6) (s'.1 96 7) r (s.1 95 4) (s.1 95 5) (s.1 95 6) ∧ s'.1 96 8 = s.1 96 8) (fun r s' h1 h2 => hQ r s' h1.1 h1.2.1 h2 h1.2.2) (sm_195 hI (fun r s' h1 h2 h3 => ⟨h1, h2, h3⟩)) ?_
  have b7 : 0 ≤ s.1 96 7 ∧ s.1 96 7 ≤ 4 := iv_rd96 hI (iv_ffb272d5f (by omega))
  have b4 : 0 ≤ s.1 95 4 ∧ s.1 95 4 ≤ 300 := iv_r95_4 hI
  refine fl_195 b4.2 (fun i _ _ => iv_r99 hI i) (fun q => ⟨Or.inr ⟨by omega, rfl, rfl, rfl, rfl, rfl⟩, rfl⟩) (fun q w t h99 h4 h5 h6 h7 => ?_)
  refine ⟨Or.inl ⟨by omega, h4, h5, fun y => ?_, fun y => ?_⟩, ?_⟩
  · obtain ⟨a1, a2, a3, _⟩ := h6 y
    exact ⟨a1, a2, a3⟩
  · obtain ⟨a1, a2, a3⟩ := h7 y
    exact ⟨a1, a2, congrFun a3 7⟩
  · by_cases y : (tx_v (s.1 99) (s.1 95 4) (fun _ => -1)).1 = 0
    · exact (h6 y).2.2.2 8 (by decide)
    · exact congrFun (h7 y).2.2 8
/-- fault -/
def tp_fv (f : Int → Int) (a : Int) : Int := if a = 0 then f 5 else if a = 1 then f 6 else -1
/-- by -/
def tp_by (a T u u' : Int) (z : Bool) : Prop := ((-1 ≤ a ∧ a ≤ T - 1) ∧ u' = a ∧ z = true) ∨ (¬ (-1 ≤ a ∧ a ≤ T - 1) ∧ u' = u ∧ z = false)
theorem fl_62 {a : Int} {Q : Option Nat → lf_Z → Prop} (h : ∀ o, Q o s) : fw_62 a Q s := by
  unfold fw_62
  refine fl_15 ⟨fun _ => ?_, fun _ _ => ⟨fun _ => ?_, fun _ _ t _ => h _⟩⟩
  · unfold fw_62_p28; exact h _
  · unfold fw_62_p28; exact h _
theorem fl_61 {a : Int} {Q : lf_Z → Prop} (h : ∀ p, Q (lf_up s.1 0 12 a, s.2.1, p)) : fw_61 a Q s := by
  unfold fw_61
  exact fl_62 (fun o => ⟨fun _ => h _, fun t _ _ => h _⟩)
theorem tp_60 {a : Int} {Q : Bool → lf_Z → Prop} (hI : iv_A s.1 s.2.2) (ba1 : (-2147483648) ≤ a ∧ a ≤ 2147483647) (hQ : ∀ (z : Bool) (s' : lf_Z), iv_A s'.1 s'.2.2 → lf_fq [0] 1000000 false s.1 s.2.2 s'.1 s'.2.2 → (tp_by a (s.1 0 11) (s.1 0 12) (s'.1 0 12) z ∧ s'.1 0 11 = s.1 0 11) → Q z s') : fm_60 a Q s := by
  refine cj_60 (Q1 := fun z s' => iv_A s'.1 s'.2.2 ∧ lf_fq [0] 1000000 false s.1 s.2.2 s'.1 s'.2.2) (Q2 := fun z s' => tp_by a (s.1 0 11) (s.1 0 12) (s'.1 0 12) z ∧ s'.1 0 11 = s.1 0 11) (fun z s' h1 h2 => hQ z s' h1.1 h1.2 h2) (sm_60 hI ba1 (fun z s' h1 h2 => ⟨h1, h2⟩)) ?_
  unfold fw_60
  refine fl_15 ⟨fun q => fl_61 (fun p => ?_), fun q => ?_⟩
  · rw [Bool.and_eq_true, decide_eq_true_eq, decide_eq_true_eq] at q
    exact ⟨Or.inl ⟨q, zu_s, rfl⟩, zu_i (by decide)⟩
  · refine ⟨Or.inr ⟨fun w => ?_, rfl, rfl⟩, rfl⟩
    rw [decide_eq_true w.1, decide_eq_true w.2] at q; cases q
theorem tp_237 {a : Int} {Q : Bool → lf_Z → Prop} (hI : iv_A s.1 s.2.2) (ba1 : (-2147483648) ≤ a ∧ a ≤ 2147483647) (hQ : ∀ (z : Bool) (s' : lf_Z), iv_A s'.1 s'.2.2 → lf_fq [96, 1003] 8 true s.1 s.2.2 s'.1 s'.2.2 → (tp_by a (s.1 96 7) (s.1 96 8) (s'.1 96 8) z ∧ s'.1 96 7 = s.1 96 7) → Q z s') : fm_237 a Q s := by
  refine cj_237 (Q1 := fun z s' => iv_A s'.1 s'.2.2 ∧ lf_fq [96, 1003] 8 true s.1 s.2.2 s'.1 s'.2.2) (Q2 := fun z s' => tp_by a (s.1 96 7) (s.1 96 8) (s'.1 96 8) z ∧ s'.1 96 7 = s.1 96 7) (fun z s' h1 h2 => hQ z s' h1.1 h1.2 h2) (sm_237 hI ba1 (fun z s' h1 h2 => ⟨h1, h2⟩)) ?_
  unfold fw_237
  refine fl_183 ⟨fun q => ?_, fun q => ?_⟩
  · rw [Bool.and_eq_true, decide_eq_true_eq, decide_eq_true_eq] at q
    exact ⟨Or.inl ⟨q, zu_s, rfl⟩, zu_i (by decide)⟩
  · refine ⟨Or.inr ⟨fun w => ?_, rfl, rfl⟩, rfl⟩
    rw [decide_eq_true w.1, decide_eq_true w.2] at q; cases q
theorem tp_61 {a1 : Int} {Q : lf_Z → Prop} {s : lf_Z} (hI : iv_A s.1 s.2.2) (ba1 : (-1) ≤ a1 ∧ a1 ≤ 3) (hQ : ∀  (s' : lf_Z), iv_A s'.1 s'.2.2 → lf_fq [0] 1000000 false s.1 s.2.2 s'.1 s'.2.2 → (s'.1 0 11 = s.1 0 11 ∧ s'.1 0 12 = a1) → Q  s') : fm_61 a1 Q s := by
  refine cj_61 (Q1 := fun s' => iv_A s'.1 s'.2.2 ∧ lf_fq [0] 1000000 false s.1 s.2.2 s'.1 s'.2.2) (Q2 := fun s' => s'.1 0 11 = s.1 0 11 ∧ s'.1 0 12 = a1) (fun s' h1 h2 => hQ s' h1.1 h1.2 h2) (sm_61 hI ba1 (fun s' h1 h2 => ⟨h1, h2⟩)) ?_
  exact fl_61 (fun p => ⟨zu_i (by decide), zu_s⟩)
theorem tp_173 {Q : Int → lf_Z → Prop} {s : lf_Z} (hI : iv_A s.1 s.2.2) (hQ : ∀ (r : Int) (s' : lf_Z), iv_A s'.1 s'.2.2 → lf_fq [78, 79, 80, 81, 82, 83, 84, 85, 86, 87, 88, 89, 90, 91, 92, 93, 94] 1000000 true s.1 s.2.2 s'.1 s'.2.2 → (s'.1 78 3 = s.1 0 11 ∧ s'.1 78 4 = s.1 0 12) → ((-2147483648) ≤ r ∧ r ≤ 2147483647) → Q r s') : fm_173 Q s := by
  unfold fm_173
  have b1 : 0 ≤ s.1 1 0 ∧ s.1 1 0 ≤ 12 := iv_r1_0 hI
  have hI2 : iv_A (lf_up s.1 78 0 (s.1 1 0)) s.2.2 := iv_w78_0 hI (by omega)
  have fr3 : lf_fq [78, 79, 80, 81, 82, 83, 84, 85, 86, 87, 88, 89, 90, 91, 92, 93, 94] 1000000 true s.1 s.2.2 (lf_up s.1 78 0 (s.1 1 0)) s.2.2 := lf_fq_up (lf_fq_rf) rfl (fun h => absurd h (by decide))
  have b4 : 0 ≤ s.1 1 1 ∧ s.1 1 1 ≤ 16 := (show 0 ≤ (lf_up s.1 78 0 (s.1 1 0)) 1 1 ∧ (lf_up s.1 78 0 (s.1 1 0)) 1 1 ≤ 16 from iv_r1_1 hI2)
  have hI5 : iv_A (lf_up (lf_up s.1 78 0 (s.1 1 0)) 78 1 (s.1 1 1)) s.2.2 := iv_w78_1 hI2 (by omega)
  have fr6 : lf_fq [78, 79, 80, 81, 82, 83, 84, 85, 86, 87, 88, 89, 90, 91, 92, 93, 94] 1000000 true s.1 s.2.2 (lf_up (lf_up s.1 78 0 (s.1 1 0)) 78 1 (s.1 1 1)) s.2.2 := lf_fq_up fr3 rfl (fun h => absurd h (by decide))
  have b7 : 0 ≤ s.1 1 2 ∧ s.1 1 2 ≤ 6 := (show 0 ≤ (lf_up (lf_up s.1 78 0 (s.1 1 0)) 78 1 (s.1 1 1)) 1 2 ∧ (lf_up (lf_up s.1 78 0 (s.1 1 0)) 78 1 (s.1 1 1)) 1 2 ≤ 6 from iv_r1_2 hI5)
  have hI8 : iv_A (lf_up (lf_up (lf_up s.1 78 0 (s.1 1 0)) 78 1 (s.1 1 1)) 78 2 (s.1 1 2)) s.2.2 := iv_w78_2 hI5 (by omega)
  have fr9 : lf_fq [78, 79, 80, 81, 82, 83, 84, 85, 86, 87, 88, 89, 90, 91, 92, 93, 94] 1000000 true s.1 s.2.2 (lf_up (lf_up (lf_up s.1 78 0 (s.1 1 0)) 78 1 (s.1 1 1)) 78 2 (s.1 1 2)) s.2.2 := lf_fq_up fr6 rfl (fun h => absurd h (by decide))
  have b10 : 0 ≤ s.1 0 11 ∧ s.1 0 11 ≤ 4 := (show 0 ≤ (lf_up (lf_up (lf_up s.1 78 0 (s.1 1 0)) 78 1 (s.1 1 1)) 78 2 (s.1 1 2)) 0 11 ∧ (lf_up (lf_up (lf_up s.1 78 0 (s.1 1 0)) 78 1 (s.1 1 1)) 78 2 (s.1 1 2)) 0 11 ≤ 4 from iv_r0_11 hI8)
  have hI11 : iv_A (lf_up (lf_up (lf_up (lf_up s.1 78 0 (s.1 1 0)) 78 1 (s.1 1 1)) 78 2 (s.1 1 2)) 78 3 (s.1 0 11)) s.2.2 := iv_w78_3 hI8 (by omega)
  have fr12 : lf_fq [78, 79, 80, 81, 82, 83, 84, 85, 86, 87, 88, 89, 90, 91, 92, 93, 94] 1000000 true s.1 s.2.2 (lf_up (lf_up (lf_up (lf_up s.1 78 0 (s.1 1 0)) 78 1 (s.1 1 1)) 78 2 (s.1 1 2)) 78 3 (s.1 0 11)) s.2.2 := lf_fq_up fr9 rfl (fun h => absurd h (by decide))
  have b13 : (-1) ≤ s.1 0 12 ∧ s.1 0 12 ≤ 3 := (show (-1) ≤ (lf_up (lf_up (lf_up (lf_up s.1 78 0 (s.1 1 0)) 78 1 (s.1 1 1)) 78 2 (s.1 1 2)) 78 3 (s.1 0 11)) 0 12 ∧ (lf_up (lf_up (lf_up (lf_up s.1 78 0 (s.1 1 0)) 78 1 (s.1 1 1)) 78 2 (s.1 1 2)) 78 3 (s.1 0 11)) 0 12 ≤ 3 from iv_r0_12 hI11)
  have hI14 : iv_A (lf_up (lf_up (lf_up (lf_up (lf_up s.1 78 0 (s.1 1 0)) 78 1 (s.1 1 1)) 78 2 (s.1 1 2)) 78 3 (s.1 0 11)) 78 4 (s.1 0 12)) s.2.2 := iv_w78_4 hI11 (by omega)
  have fr15 : lf_fq [78, 79, 80, 81, 82, 83, 84, 85, 86, 87, 88, 89, 90, 91, 92, 93, 94] 1000000 true s.1 s.2.2 (lf_up (lf_up (lf_up (lf_up (lf_up s.1 78 0 (s.1 1 0)) 78 1 (s.1 1 1)) 78 2 (s.1 1 2)) 78 3 (s.1 0 11)) 78 4 (s.1 0 12)) s.2.2 := lf_fq_up fr12 rfl (fun h => absurd h (by decide))
  refine sm_174 hI14 (fun s21 hI17 fr16 => ?_)
  have fr19 : lf_fq [78, 79, 80, 81, 82, 83, 84, 85, 86, 87, 88, 89, 90, 91, 92, 93, 94] 1000000 true s.1 s.2.2 s21.1 s21.2.2 := lf_fq_tr fr15 (lf_fq_wk fr16 rfl (by decide) (by decide))
  refine sm_175 hI17 (fun s22 hI21 fr20 => ?_)
  have fr23 : lf_fq [78, 79, 80, 81, 82, 83, 84, 85, 86, 87, 88, 89, 90, 91, 92, 93, 94] 1000000 true s.1 s.2.2 s22.1 s22.2.2 := lf_fq_tr fr19 (lf_fq_wk fr20 rfl (by decide) (by decide))
  refine sm_176 hI21 (fun s23 hI25 fr24 => ?_)
  have fr27 : lf_fq [78, 79, 80, 81, 82, 83, 84, 85, 86, 87, 88, 89, 90, 91, 92, 93, 94] 1000000 true s.1 s.2.2 s23.1 s23.2.2 := lf_fq_tr fr23 (lf_fq_wk fr24 rfl (by decide) (by decide))
  have b28 : (-2147483648) ≤ s23.1 15 7 ∧ s23.1 15 7 ≤ 2147483647 := iv_full hI25
  have b29 : s23.1 15 7 = s22.1 15 7 := congrFun (fr24.1 15 rfl) _
  have b30 : s22.1 15 7 = s21.1 15 7 := congrFun (fr20.1 15 rfl) _
  have b31 : s21.1 15 7 = s.1 15 7 := congrFun (fr16.1 15 rfl) _
  exact hQ (s23.1 15 7) s23 hI25 fr27 (by rw [fr24.1 78 rfl, fr20.1 78 rfl, fr16.1 78 rfl]; first | exact ⟨(lf_up_i (by decide)).trans lf_up_s, lf_up_s⟩ | exact ⟨(zu_i (by decide)).trans lf_up_s, zu_s⟩) (show (-2147483648 : Int) ≤ s23.1 15 7 ∧ s23.1 15 7 ≤ (2147483647 : Int) from by omega)
theorem tp_177 {Q : Int → lf_Z → Prop} {s : lf_Z} (hI : iv_A s.1 s.2.2) (hQ : ∀ (r : Int) (s' : lf_Z), iv_A s'.1 s'.2.2 → lf_fq [0, 1, 11, 12, 13, 15, 16, 17, 18, 19, 20, 21, 22, 23, 24, 25, 26, 27, 28, 29, 30] 1000000 false s.1 s.2.2 s'.1 s'.2.2 → (s'.1 0 11 = s.1 78 3 ∧ s'.1 0 12 = s.1 78 4) → ((-2147483648) ≤ r ∧ r ≤ 2147483647) → Q r s') : fm_177 Q s := by
  unfold fm_177
  have b1 : 0 ≤ s.1 78 0 ∧ s.1 78 0 ≤ 12 := iv_r78_0 hI
  have b2 : 0 ≤ s.1 78 1 ∧ s.1 78 1 ≤ 16 := iv_r78_1 hI
  have b3 : 0 ≤ s.1 78 2 ∧ s.1 78 2 ≤ 6 := iv_r78_2 hI
  refine sm_178 hI (show (0 : Int) ≤ s.1 78 0 ∧ s.1 78 0 ≤ (12 : Int) from by omega) (show (0 : Int) ≤ s.1 78 1 ∧ s.1 78 1 ≤ (16 : Int) from by omega) (show (0 : Int) ≤ s.1 78 2 ∧ s.1 78 2 ≤ (6 : Int) from by omega) (fun s21 hI5 fr4 => ?_)
  have fr7 : lf_fq [0, 1, 11, 12, 13, 15, 16, 17, 18, 19, 20, 21, 22, 23, 24, 25, 26, 27, 28, 29, 30] 1000000 false s.1 s.2.2 s21.1 s21.2.2 := lf_fq_tr (lf_fq_rf) (lf_fq_wk fr4 rfl (by decide) (by decide))
  have b8 : 0 ≤ s21.1 78 3 ∧ s21.1 78 3 ≤ 4 := iv_r78_3 hI5
  have b9 : s21.1 78 3 = s.1 78 3 := congrFun (fr4.1 78 rfl) _
  have hI10 : iv_A (lf_up s21.1 0 11 (s21.1 78 3)) s21.2.2 := iv_w0_11 hI5 (by omega)
  have fr11 : lf_fq [0, 1, 11, 12, 13, 15, 16, 17, 18, 19, 20, 21, 22, 23, 24, 25, 26, 27, 28, 29, 30] 1000000 false s.1 s.2.2 (lf_up s21.1 0 11 (s21.1 78 3)) s21.2.2 := lf_fq_up fr7 rfl (fun h => absurd h (by decide))
  have b12 : (-1) ≤ s21.1 78 4 ∧ s21.1 78 4 ≤ 3 := (show (-1) ≤ (lf_up s21.1 0 11 (s21.1 78 3)) 78 4 ∧ (lf_up s21.1 0 11 (s21.1 78 3)) 78 4 ≤ 3 from iv_r78_4 hI10)
  have b13 : s21.1 78 4 = s.1 78 4 := congrFun (fr4.1 78 rfl) _
  refine tp_61 hI10 (show (-1 : Int) ≤ s21.1 78 4 ∧ s21.1 78 4 ≤ (3 : Int) from by omega) (fun s22 hI15 fr14 ps9 => ?_)
  have fr17 : lf_fq [0, 1, 11, 12, 13, 15, 16, 17, 18, 19, 20, 21, 22, 23, 24, 25, 26, 27, 28, 29, 30] 1000000 false s.1 s.2.2 s22.1 s22.2.2 := lf_fq_tr fr11 (lf_fq_wk fr14 rfl (by decide) (by decide))
  refine sm_174b hI15 (fun s23 hI19 fr18 => ?_)
  have fr21 : lf_fq [0, 1, 11, 12, 13, 15, 16, 17, 18, 19, 20, 21, 22, 23, 24, 25, 26, 27, 28, 29, 30] 1000000 false s.1 s.2.2 s23.1 s23.2.2 := lf_fq_tr fr17 (lf_fq_wk fr18 rfl (by decide) (by decide))
  refine sm_175b hI19 (fun s24 hI23 fr22 => ?_)
  have fr25 : lf_fq [0, 1, 11, 12, 13, 15, 16, 17, 18, 19, 20, 21, 22, 23, 24, 25, 26, 27, 28, 29, 30] 1000000 false s.1 s.2.2 s24.1 s24.2.2 := lf_fq_tr fr21 (lf_fq_wk fr22 rfl (by decide) (by decide))
  refine sm_176b hI23 (fun s25 hI27 fr26 => ?_)
  have fr29 : lf_fq [0, 1, 11, 12, 13, 15, 16, 17, 18, 19, 20, 21, 22, 23, 24, 25, 26, 27, 28, 29, 30] 1000000 false s.1 s.2.2 s25.1 s25.2.2 := lf_fq_tr fr25 (lf_fq_wk fr26 rfl (by decide) (by decide))
  have b30 : (-2147483648) ≤ s25.1 15 7 ∧ s25.1 15 7 ≤ 2147483647 := iv_full hI27
  have b31 : s25.1 15 7 = s24.1 15 7 := congrFun (fr26.1 15 rfl) _
  have b32 : s24.1 15 7 = s23.1 15 7 := congrFun (fr22.1 15 rfl) _
  exact hQ (s25.1 15 7) s25 hI27 fr29 (by rw [fr26.1 0 rfl, fr22.1 0 rfl, fr18.1 0 rfl, ps9.1, ps9.2]; first | exact ⟨lf_up_s.trans b9, b13⟩ | exact ⟨zu_s.trans b9, b13⟩) (show (-2147483648 : Int) ≤ s25.1 15 7 ∧ s25.1 15 7 ≤ (2147483647 : Int) from by omega)
/-! the relation -/
def tp_A (I : Nat → Int → Int) : Prop := I 31 1 = I 95 4 ∧ I 32 = I 99 ∧ I 0 11 = I 96 7 ∧ I 0 12 = I 96 8 ∧ I 31 2 = I 95 5 ∧ I 31 3 = I 95 6 ∧ I 78 3 = I 97 7 ∧ I 78 4 = I 97 8
theorem tp_fq (h : tp_A I) (q : lf_fq l w bb I P I' P') (hl : (l.contains 0 || l.contains 31 || l.contains 32 || l.contains 78 || l.contains 95 || l.contains 97 || l.contains 99 || l.contains 1003) = false) : tp_A I' := by
  simp only [Bool.or_eq_false_iff] at hl
  obtain ⟨⟨⟨⟨⟨⟨⟨a1, a2⟩, a3⟩, a4⟩, a5⟩, a6⟩, a7⟩, a8⟩ := hl
  unfold tp_A
  rw [q.1 0 a1, q.1 31 a2, q.1 32 a3, q.1 78 a4, q.1 95 a5, q.1 97 a6, q.1 99 a7, q.2.2.2 3 a8 7 (Or.inl rfl), q.2.2.2 3 a8 8 (Or.inr rfl)]
  exact h
/-- stopped and home of the reference -/
theorem tp_sq (h : tp_A I) (q : lf_fq [95, 104, 107, 111, 112] w bb I P I' P') (m : ∀ i : Int, 4 ≤ i → i ≤ 6 → I' 95 i = I 95 i) : tp_A I' := by
  unfold tp_A
  rw [q.1 0 rfl, q.1 31 rfl, q.1 32 rfl, q.1 78 rfl, q.1 97 rfl, q.1 99 rfl, q.1 96 rfl, m 4 (by decide) (by decide), m 5 (by decide) (by decide), m 6 (by decide) (by decide)]
  exact h
/-- between feed of the class and of the reference -/
def tp_FM (a b c d e r : Int) (I : Nat → Int → Int) : Prop := tp_fd a b c d e (I 99) (I 95 4) (I 32) (I 31 1) r ∧ I 0 11 = I 96 7 ∧ I 0 12 = I 96 8 ∧ I 31 2 = I 95 5 ∧ I 31 3 = I 95 6 ∧ I 78 3 = I 97 7 ∧ I 78 4 = I 97 8
theorem tp_f1 {a b c d e r : Int} (h : tp_A I) (q : lf_fq [31, 32] w bb I P I' P') (p : tp_fd a b c d e (I 32) (I 31 1) (I' 32) (I' 31 1) r ∧ ∀ i : Int, i ≠ 1 → I' 31 i = I 31 i) : tp_FM a b c d e r I' := by
  obtain ⟨h1, h2, h3⟩ := h
  obtain ⟨p1, p2⟩ := p
  unfold tp_FM
  rw [q.1 0 rfl, q.1 96 rfl, q.1 95 rfl, q.1 99 rfl, q.1 78 rfl, q.1 97 rfl, p2 2 (by decide), p2 3 (by decide), ← h1, ← h2]
  exact ⟨p1, h3⟩
theorem tp_f2 {a b c d e r r' : Int} (h : tp_FM a b c d e r I) (q : lf_fq [95, 99] w bb I P I' P') (p : tp_fd a b c d e (I 99) (I 95 4) (I' 99) (I' 95 4) r' ∧ ∀ i : Int, i ≠ 4 → I' 95 i = I 95 i) : r = r' ∧ tp_A I' := by
  obtain ⟨h1, h3⟩ := h
  obtain ⟨p1, p2⟩ := p
  have key : r = r' ∧ I 31 1 = I' 95 4 ∧ I 32 = I' 99 := by
    rcases h1 with ⟨a1, a2, a3, a4⟩ | ⟨a1, a2, a3, a4⟩
    · rcases p1 with ⟨b1, b2, b3, b4⟩ | ⟨b1, _⟩
      · exact ⟨by omega, by omega, by rw [a2, b2]⟩
      · exact absurd a1 b1
    · rcases p1 with ⟨b1, _⟩ | ⟨b1, b2, b3, b4⟩
      · exact absurd b1 a1
      · exact ⟨by omega, by omega, by rw [a2, b2]⟩
  refine ⟨key.1, ?_⟩
  unfold tp_A
  rw [q.1 0 rfl, q.1 96 rfl, q.1 31 rfl, q.1 32 rfl, q.1 78 rfl, q.1 97 rfl, p2 5 (by decide), p2 6 (by decide)]
  exact ⟨key.2.1, key.2.2, h3⟩
def tp_EM (a r : Int) (I : Nat → Int → Int) : Prop := tp_en a (I 95 4) (I 31 1) r ∧ I 32 = I 99 ∧ I 0 11 = I 96 7 ∧ I 0 12 = I 96 8 ∧ I 31 2 = I 95 5 ∧ I 31 3 = I 95 6 ∧ I 78 3 = I 97 7 ∧ I 78 4 = I 97 8
theorem tp_e1 {a r : Int} (h : tp_A I) (q : lf_fq [31] w bb I P I' P') (p : tp_en a (I 31 1) (I' 31 1) r ∧ ∀ i : Int, i ≠ 1 → I' 31 i = I 31 i) : tp_EM a r I' := by
  obtain ⟨h1, h2, h3⟩ := h
  obtain ⟨p1, p2⟩ := p
  unfold tp_EM
  rw [q.1 0 rfl, q.1 96 rfl, q.1 95 rfl, q.1 99 rfl, q.1 32 rfl, q.1 78 rfl, q.1 97 rfl, p2 2 (by decide), p2 3 (by decide), ← h1, ← h2]
  exact ⟨p1, rfl, h3⟩
theorem tp_e2 {a r r' : Int} (h : tp_EM a r I) (q : lf_fq [95] w bb I P I' P') (p : tp_en a (I 95 4) (I' 95 4) r' ∧ ∀ i : Int, i ≠ 4 → I' 95 i = I 95 i) : r = r' ∧ tp_A I' := by
  obtain ⟨h1, h2, h3⟩ := h
  obtain ⟨p1, p2⟩ := p
  have key : r = r' ∧ I 31 1 = I' 95 4 := by
    unfold tp_en at h1 p1
    omega
  refine ⟨key.1, ?_⟩
  unfold tp_A
  rw [q.1 0 rfl, q.1 96 rfl, q.1 31 rfl, q.1 32 rfl, q.1 78 rfl, q.1 97 rfl, q.1 99 rfl, p2 5 (by decide), p2 6 (by decide)]
  exact ⟨key.2, h2, h3⟩
def tp_TM (r : Int) (I : Nat → Int → Int) : Prop := tp_tx (tx_v (I 99) (I 95 4) (fun _ => -1)) (I 96 7) (I 31 1) (I 31 2) (I 31 3) (I 0 11) r (I 95 4) (I 95 5) (I 95 6) ∧ I 32 = I 99 ∧ I 0 12 = I 96 8 ∧ I 78 3 = I 97 7 ∧ I 78 4 = I 97 8
theorem tp_t1 {r : Int} (h : tp_A I) (q : lf_fq [0, 31, 33, 35, 36, 37, 38, 39, 40, 41, 42, 43, 44, 45, 46, 47, 48, 49, 50, 51, 52, 53, 54, 55, 56, 57, 58, 59, 60, 61, 62] w bb I P I' P') (p : tp_tx (tx_v (I 32) (I 31 1) (fun _ => -1)) (I 0 11) (I' 31 1) (I' 31 2) (I' 31 3) (I' 0 11) r (I 31 1) (I 31 2) (I 31 3) ∧ I' 0 12 = I 0 12) : tp_TM r I' := by
  obtain ⟨h1, h2, h3, h4, h5, h6, h7⟩ := h
  obtain ⟨p1, p2⟩ := p
  rw [h1, h2, h3, h5, h6] at p1
  unfold tp_TM
  rw [q.1 96 rfl, q.1 95 rfl, q.1 99 rfl, q.1 32 rfl, q.1 78 rfl, q.1 97 rfl, p2]
  exact ⟨p1, h2, h4, h7⟩
theorem tp_t2 {r r' : Int} (h : tp_TM r I) (q : lf_fq [95, 96, 98, 100, 101, 102, 103, 1003] w bb I P I' P') (p : tp_tx (tx_v (I 99) (I 95 4) (fun _ => -1)) (I 96 7) (I' 95 4) (I' 95 5) (I' 95 6) (I' 96 7) r' (I 95 4) (I 95 5) (I 95 6) ∧ I' 96 8 = I 96 8) : r = r' ∧ tp_A I' := by
  obtain ⟨h1, h2, h3, h4⟩ := h
  obtain ⟨p1, p2⟩ := p
  have key : r = r' ∧ I 31 1 = I' 95 4 ∧ I 0 11 = I' 96 7 ∧ I 31 2 = I' 95 5 ∧ I 31 3 = I' 95 6 := by
    generalize tx_v (I 99) (I 95 4) (fun _ => -1) = V at h1 p1
    rcases h1 with ⟨a1, a2, a3, a4, a5⟩ | ⟨a1, a2, a3, a4, a5, a6⟩
    · rcases p1 with ⟨b1, b2, b3, b4, b5⟩ | ⟨b1, _⟩
      · by_cases y : V.1 = 0
        · have := a4 y; have := b4 y; omega
        · have := a5 y; have := b5 y; omega
      · exact absurd a1 b1
    · rcases p1 with ⟨b1, _⟩ | ⟨b1, b2, b3, b4, b5, b6⟩
      · exact absurd b1 a1
      · omega
  refine ⟨key.1, ?_⟩
  unfold tp_A
  rw [q.1 0 rfl, q.1 31 rfl, q.1 32 rfl, q.1 78 rfl, q.1 97 rfl, q.1 99 rfl, p2]
  exact ⟨key.2.1, h2, key.2.2.1, h3, key.2.2.2.1, key.2.2.2.2, h4⟩
def tp_BM (a : Int) (z : Bool) (I : Nat → Int → Int) : Prop := tp_by a (I 96 7) (I 96 8) (I 0 12) z ∧ I 31 1 = I 95 4 ∧ I 32 = I 99 ∧ I 0 11 = I 96 7 ∧ I 31 2 = I 95 5 ∧ I 31 3 = I 95 6 ∧ I 78 3 = I 97 7 ∧ I 78 4 = I 97 8
theorem tp_b1 {a : Int} {z : Bool} (h : tp_A I) (q : lf_fq [0] w bb I P I' P') (p : tp_by a (I 0 11) (I 0 12) (I' 0 12) z ∧ I' 0 11 = I 0 11) : tp_BM a z I' := by
  obtain ⟨h1, h2, h3, h4, h5⟩ := h
  obtain ⟨p1, p2⟩ := p
  rw [h3, h4] at p1
  unfold tp_BM
  rw [q.1 31 rfl, q.1 32 rfl, q.1 96 rfl, q.1 95 rfl, q.1 99 rfl, q.1 78 rfl, q.1 97 rfl, p2]
  exact ⟨p1, h1, h2, h3, h5⟩
theorem tp_b2 {a : Int} {z z' : Bool} (h : tp_BM a z I) (q : lf_fq [96, 1003] w bb I P I' P') (p : tp_by a (I 96 7) (I 96 8) (I' 96 8) z' ∧ I' 96 7 = I 96 7) : z = z' ∧ tp_A I' := by
  obtain ⟨h1, h2, h3, h4, h5⟩ := h
  obtain ⟨p1, p2⟩ := p
  have key : z = z' ∧ I 0 12 = I' 96 8 := by
    rcases h1 with ⟨a1, a2, a3⟩ | ⟨a1, a2, a3⟩
    · rcases p1 with ⟨b1, b2, b3⟩ | ⟨b1, _⟩
      · exact ⟨a3.trans b3.symm, a2.trans b2.symm⟩
      · exact absurd a1 b1
    · rcases p1 with ⟨b1, _⟩ | ⟨b1, b2, b3⟩
      · exact absurd b1 a1
      · exact ⟨a3.trans b3.symm, a2.trans b2.symm⟩
  refine ⟨key.1, ?_⟩
  unfold tp_A
  rw [q.1 0 rfl, q.1 31 rfl, q.1 32 rfl, q.1 78 rfl, q.1 95 rfl, q.1 97 rfl, q.1 99 rfl, p2]
  exact ⟨h2, h3, h4, key.2, h5⟩
theorem tp_f3 {a b c d e r' : Int} (h : ∃ r, tp_FM a b c d e r I) (q : lf_fq [95, 99] w bb I P I' P') (p : tp_fd a b c d e (I 99) (I 95 4) (I' 99) (I' 95 4) r' ∧ ∀ i : Int, i ≠ 4 → I' 95 i = I 95 i) : tp_A I' := h.elim (fun _ h => (tp_f2 h q p).2)
theorem tp_e3 {a r' : Int} (h : ∃ r, tp_EM a r I) (q : lf_fq [95] w bb I P I' P') (p : tp_en a (I 95 4) (I' 95 4) r' ∧ ∀ i : Int, i ≠ 4 → I' 95 i = I 95 i) : tp_A I' := h.elim (fun _ h => (tp_e2 h q p).2)
theorem tp_t3 {r' : Int} (h : ∃ r, tp_TM r I) (q : lf_fq [95, 96, 98, 100, 101, 102, 103, 1003] w bb I P I' P') (p : tp_tx (tx_v (I 99) (I 95 4) (fun _ => -1)) (I 96 7) (I' 95 4) (I' 95 5) (I' 95 6) (I' 96 7) r' (I 95 4) (I 95 5) (I 95 6) ∧ I' 96 8 = I 96 8) : tp_A I' := h.elim (fun _ h => (tp_t2 h q p).2)
theorem tp_b3 {a : Int} {z' : Bool} (h : ∃ r, tp_BM a r I) (q : lf_fq [96, 1003] w bb I P I' P') (p : tp_by a (I 96 7) (I 96 8) (I' 96 8) z' ∧ I' 96 7 = I 96 7) : tp_A I' := h.elim (fun _ h => (tp_b2 h q p).2)
theorem tp_b4 {a r : Int} {z' : Bool} (h : ∃ z, r = lf_b z ∧ tp_BM a z I) (q : lf_fq [96, 1003] w bb I P I' P') (p : tp_by a (I 96 7) (I 96 8) (I' 96 8) z' ∧ I' 96 7 = I 96 7) : r = lf_b z' ∧ tp_A I' := h.elim (fun z h => ⟨h.1.trans (congrArg lf_b (tp_b2 h.2 q p).1), (tp_b2 h.2 q p).2⟩)
theorem tp_59 {a1 : Int} {Q : Int → lf_Z → Prop} (hI : iv_A s.1 s.2.2) (ba1 : (-2147483648) ≤ a1 ∧ a1 ≤ 2147483647) (hT : tp_A s.1) (hQ : ∀ (r : Int), r = tp_fv (s.1 95) a1 → ((-2147483648) ≤ r ∧ r ≤ 2147483647) → Q r s) : fm_59 a1 Q s := by
  obtain ⟨_, _, _, _, h5, h6, _⟩ := hT
  unfold fm_59
  refine ⟨lf_Rof (by omega), fun c => ⟨fun d => hQ _ ?_ (by decide), fun d => hQ _ ?_ (iv_full hI)⟩, fun c => hQ _ ?_ (iv_full hI)⟩
  · unfold tp_fv; rw [if_neg c, if_neg d]
  · unfold tp_fv; rw [if_neg c, if_pos (Classical.not_not.mp d)]; exact h6
  · unfold tp_fv; rw [if_pos (Classical.not_not.mp c)]; exact h5
theorem tp_236 {a1 : Int} {Q : Int → lf_Z → Prop} (hI : iv_A s.1 s.2.2) (ba1 : (-2147483648) ≤ a1 ∧ a1 ≤ 2147483647) (hQ : ∀ (r : Int), r = tp_fv (s.1 95) a1 → ((-2147483648) ≤ r ∧ r ≤ 2147483647) → Q r s) : fm_236 a1 Q s := by
  unfold fm_236
  refine ⟨lf_Rof (by omega), fun c => ⟨fun d => hQ _ ?_ (by decide), fun d => hQ _ ?_ (iv_full hI)⟩, fun c => hQ _ ?_ (iv_full hI)⟩
  · unfold tp_fv; rw [if_neg c, if_neg d]
  · unfold tp_fv; rw [if_neg c, if_pos (Classical.not_not.mp d)]
  · unfold tp_fv; rw [if_pos (Classical.not_not.mp c)]
/-! image, back -/
def tp_IM (I : Nat → Int → Int) : Prop := I 31 1 = I 95 4 ∧ I 32 = I 99 ∧ I 0 11 = I 96 7 ∧ I 0 12 = I 96 8 ∧ I 31 2 = I 95 5 ∧ I 31 3 = I 95 6 ∧ I 78 3 = I 0 11 ∧ I 78 4 = I 0 12
theorem tp_i1 (h : tp_A I) (q : lf_fq [78, 79, 80, 81, 82, 83, 84, 85, 86, 87, 88, 89, 90, 91, 92, 93, 94] w bb I P I' P') (m : I' 78 3 = I 0 11 ∧ I' 78 4 = I 0 12) : tp_IM I' := by
  obtain ⟨h1, h2, h3, h4, h5, h6, h7⟩ := h
  unfold tp_IM
  rw [q.1 31 rfl, q.1 95 rfl, q.1 32 rfl, q.1 99 rfl, q.1 0 rfl, q.1 96 rfl]
  exact ⟨h1, h2, h3, h4, h5, h6, m.1, m.2⟩
theorem tp_i2 (h : tp_IM I) (q : lf_fq [97] w bb I P I' P') (m : ∀ j : Int, 0 ≤ j → j < 1538 → I' 97 j = I 96 j) : tp_A I' := by
  obtain ⟨h1, h2, h3, h4, h5, h6, h7, h8⟩ := h
  unfold tp_A
  rw [q.1 31 rfl, q.1 95 rfl, q.1 32 rfl, q.1 99 rfl, q.1 0 rfl, q.1 96 rfl, q.1 78 rfl, m 7 (by decide) (by decide), m 8 (by decide) (by decide)]
  exact ⟨h1, h2, h3, h4, h5, h6, h7.trans h3, h8.trans h4⟩
def tp_KM (I : Nat → Int → Int) : Prop := I 31 1 = I 95 4 ∧ I 32 = I 99 ∧ I 31 2 = I 95 5 ∧ I 31 3 = I 95 6 ∧ I 78 3 = I 97 7 ∧ I 78 4 = I 97 8 ∧ I 0 11 = I 78 3 ∧ I 0 12 = I 78 4
theorem tp_k1 (h : tp_A I) (q : lf_fq [0, 1, 11, 12, 13, 15, 16, 17, 18, 19, 20, 21, 22, 23, 24, 25, 26, 27, 28, 29, 30] w bb I P I' P') (m : I' 0 11 = I 78 3 ∧ I' 0 12 = I 78 4) : tp_KM I' := by
  obtain ⟨h1, h2, h3, h4, h5, h6, h7, h8⟩ := h
  unfold tp_KM
  rw [q.1 31 rfl, q.1 95 rfl, q.1 32 rfl, q.1 99 rfl, q.1 78 rfl, q.1 97 rfl]
  exact ⟨h1, h2, h5, h6, h7, h8, m.1, m.2⟩
theorem tp_k2 (h : tp_KM I) (q : lf_fq [96, 1000, 1001, 1002, 1003, 1004, 1005, 1006] w bb I P I' P') (m : ∀ j : Int, 0 ≤ j → j < 1538 → I' 96 j = I 97 j) : tp_A I' := by
  obtain ⟨h1, h2, h3, h4, h5, h6, h7, h8⟩ := h
  unfold tp_A
  rw [q.1 31 rfl, q.1 95 rfl, q.1 32 rfl, q.1 99 rfl, q.1 0 rfl, q.1 97 rfl, q.1 78 rfl, m 7 (by decide) (by decide), m 8 (by decide) (by decide)]
  exact ⟨h1, h2, h7.trans h5, h8.trans h6, h3, h4, h5, h6⟩
end TP
