/-! clauses and texts: the verdict -/
section DU
variable {f g : Int → Int} {n law m : Int} {o : Int → Bool} {t0 : Nat} {s t z : lf_Z} {r : Int × Int}
def tx_sh (k : Int) : Int := (px_sh k.toNat).toInt
def ds_deed (f : Int → Int) (n w b : Int) : Int × Int :=
  if tx_sh ((w - 23) * 5 + 2) = 0 then ds_num f n (tx_sh ((w - 23) * 5)) (tx_sh ((w - 23) * 5 + 1)) b
  else ds_bd (ds_bd (ds_num f n (tx_sh ((w - 23) * 5)) (tx_sh ((w - 23) * 5 + 1)) b) (ds_ex f n (tx_sh ((w - 23) * 5 + 2)))) (ds_num f n (tx_sh ((w - 23) * 5 + 3)) (tx_sh ((w - 23) * 5 + 4)))
/-- a clause that can begin: its verdict -/
def ds_cl (f : Int → Int) (n : Int) (g : Int → Int) (b : Int) : Int × Int :=
  ds_bd (if 22 < lx_T f n b then ds_deed f n (lx_T f n b) (ds_ad f n b) else (ds_T f n (lx_T f n b - 20) 200).1 0 g (ds_ad f n b)) (ds_ex f n 16)
def tx_ok (f : Int → Int) (n m : Int) (o : Int → Bool) (b : Int) : Int :=
  if ¬ (20 ≤ lx_T f n b ∧ lx_T f n b ≤ 32) then 1 else if lx_T f n b ≤ 22 ∧ o (lx_T f n b - 20) = true then 4 else if 24 ≤ m then 6 else 0
def tx_o (f : Int → Int) (n : Int) (o : Int → Bool) (b : Int) : Int → Bool := fun l => o l || decide (lx_T f n b - 20 = l)
def tx_lp (f : Int → Int) (n : Int) (g : Int → Int) : Nat → Int → (Int → Bool) → Int → Int × Int
  | 0, _, _, b => (0, b)
  | k + 1, m, o, b => if lx_T f n b = 0 then (0, b) else if tx_ok f n m o b ≠ 0 then (tx_ok f n m o b, b) else ds_bd (ds_cl f n g b) (tx_lp f n g k (m + 1) (tx_o f n o b))
def tx_X (t0 : Nat) (m : Int) (o : Int → Bool) (t : lf_Z) : Prop := t.2.2 2 = some t0 ∧ t0 < 4 ∧ t.1 (35 + 7 * t0) 7 = m ∧ (∀ l : Int, 0 ≤ l → l < 3 → (o l = true ↔ t.1 (37 + 7 * t0) l ≠ -1)) ∧ 0 ≤ t.1 (35 + 7 * t0) 1
/-- from here on -/
theorem cl_Sz (h : cl_S z f n g law s r) : cl_S s f n g law s r := ⟨h.1, h.2.1, h.2.2.1, h.2.2.2.1, h.2.2.2.2.1, h.2.2.2.2.2.1, cl_Kr⟩
theorem tx_Xk (h : tx_X t0 m o z) (hK : cl_K z t) : tx_X t0 m o t := by
  obtain ⟨h1, h2, h3, h4, h5⟩ := h
  obtain ⟨k1, k2, k3⟩ := hK.2.2 t0 h2
  exact ⟨by rw [hK.1]; exact h1, h2, k2.trans h3, by rw [k1]; exact h4, k3 h5⟩
theorem tx_ref {u : Nat} (h : tx_X t0 m o t) (e : t.2.2 2 = some u) : u = t0 := by
  rw [h.1] at e
  cases e
  rfl
theorem fl_40 {a1 : Int} {Q : Bool → lf_Z → Prop} (h : Q (decide (0 ≤ a1) && decide (a1 < 3) && decide (s.1 (37 + 7 * t0) a1 ≠ -1)) s) : fw_40 t0 a1 Q s := by
  unfold fw_40
  intro _
  refine ⟨fun c => ?_, fun c => ⟨fun d => ?_, fun d _ _ => ⟨fun e => ?_, fun e => ?_⟩⟩⟩
  · rw [decide_eq_false (show ¬ 0 ≤ a1 by omega)] at h; exact h
  · rw [decide_eq_false (show ¬ a1 < 3 by omega), Bool.and_false] at h; exact h
  · rw [decide_eq_false (show ¬ s.1 (37 + 7 * t0) a1 ≠ -1 from fun q => q e), Bool.and_false] at h; exact h
  · rw [decide_eq_true (show 0 ≤ a1 by omega), decide_eq_true (show a1 < 3 by omega), decide_eq_true e] at h; exact h
/-- a clause is kept -/
theorem fl_57 {a1 a2 a3 : Int} {Q : lf_Z → Prop} (h : cl_S z f n g law s r) (hX : tx_X t0 m o s) (hm : m < 24) (k : ∀ t : lf_Z, t.1 0 = s.1 0 → cl_S t f n g law t r → tx_X t0 (m + 1) o t → Q t) : fw_57 t0 a1 a2 a3 Q s := by
  obtain ⟨x1, x2, x3, x4, x5⟩ := hX
  unfold fw_57
  intro _
  refine ⟨fun c => by omega, fun _ _ _ _ => ?_⟩
  have w1 : ∀ {a b c : Int}, ∀ q : Nat, q ≠ 39 + 7 * t0 → q ≠ 40 + 7 * t0 → q ≠ 41 + 7 * t0 → (lf_up (lf_up (lf_up s.1 (39 + 7 * t0) (s.1 (35 + 7 * t0) 7) a1) (40 + 7 * t0) b a2) (41 + 7 * t0) c a3) q = s.1 q := fun q h1 h2 h3 => (lf_up_row h3).trans ((lf_up_row h2).trans (lf_up_row h1))
  generalize hu : lf_up (lf_up (lf_up s.1 (39 + 7 * t0) (s.1 (35 + 7 * t0) 7) a1) (40 + 7 * t0) ((lf_up s.1 (39 + 7 * t0) (s.1 (35 + 7 * t0) 7) a1) (35 + 7 * t0) 7) a2) (41 + 7 * t0) ((lf_up (lf_up s.1 (39 + 7 * t0) (s.1 (35 + 7 * t0) 7) a1) (40 + 7 * t0) ((lf_up s.1 (39 + 7 * t0) (s.1 (35 + 7 * t0) 7) a1) (35 + 7 * t0) 7) a2) (35 + 7 * t0) 7) a3 = U
  have wU : ∀ q : Nat, q ≠ 39 + 7 * t0 → q ≠ 40 + 7 * t0 → q ≠ 41 + 7 * t0 → U q = s.1 q := fun q h1 h2 h3 => by rw [← hu]; exact w1 (a := 0) q h1 h2 h3
  have e7 : U (35 + 7 * t0) 7 = m := by rw [wU _ (by omega) (by omega) (by omega)]; exact x3
  have wV : ∀ q : Nat, q ≠ 35 + 7 * t0 → q ≠ 39 + 7 * t0 → q ≠ 40 + 7 * t0 → q ≠ 41 + 7 * t0 → (lf_up U (35 + 7 * t0) 7 (U (35 + 7 * t0) 7 + 1)) q = s.1 q := fun q h0 h1 h2 h3 => (lf_up_row h0).trans (wU q h1 h2 h3)
  have hS : cl_S (lf_up U (35 + 7 * t0) 7 (U (35 + 7 * t0) 7 + 1), s.2.1, s.2.2) f n g law (lf_up U (35 + 7 * t0) 7 (U (35 + 7 * t0) 7 + 1), s.2.1, s.2.2) r := by
    refine ⟨?_, ?_, ?_, ?_, ?_, ?_, cl_Kr⟩
    · exact (wV 32 (by omega) (by omega) (by omega) (by omega)).trans h.1
    · exact (congrFun (wV 31 (by omega) (by omega) (by omega) (by omega)) 1).trans h.2.1
    · exact (wV 33 (by omega) (by omega) (by omega) (by omega)).trans h.2.2.1
    · exact (congrFun (wV 31 (by omega) (by omega) (by omega) (by omega)) 6).trans h.2.2.2.1
    · intro c
      have q := h.2.2.2.2.1 c
      unfold rd_at at q ⊢
      show ((lf_up U (35 + 7 * t0) 7 (U (35 + 7 * t0) 7 + 1)) 31 9 = r.2 ∧ (lf_up U (35 + 7 * t0) 7 (U (35 + 7 * t0) 7 + 1)) 31 8 = lx_T ((lf_up U (35 + 7 * t0) 7 (U (35 + 7 * t0) 7 + 1)) 32) ((lf_up U (35 + 7 * t0) 7 (U (35 + 7 * t0) 7 + 1)) 31 1) r.2 ∧ (lf_up U (35 + 7 * t0) 7 (U (35 + 7 * t0) 7 + 1)) 31 7 = lx_E ((lf_up U (35 + 7 * t0) 7 (U (35 + 7 * t0) 7 + 1)) 32) ((lf_up U (35 + 7 * t0) 7 (U (35 + 7 * t0) 7 + 1)) 31 1) r.2 ∧ (((lf_up U (35 + 7 * t0) 7 (U (35 + 7 * t0) 7 + 1)) 31 8 = 2 ∨ (lf_up U (35 + 7 * t0) 7 (U (35 + 7 * t0) 7 + 1)) 31 8 = 3) → (lf_up U (35 + 7 * t0) 7 (U (35 + 7 * t0) 7 + 1)) 31 10 = lx_V ((lf_up U (35 + 7 * t0) 7 (U (35 + 7 * t0) 7 + 1)) 32) ((lf_up U (35 + 7 * t0) 7 (U (35 + 7 * t0) 7 + 1)) 31 1) r.2)) ∧ (lf_up U (35 + 7 * t0) 7 (U (35 + 7 * t0) 7 + 1)) 31 2 = 0 ∧ 0 ≤ r.2 ∧ 0 ≤ (lf_up U (35 + 7 * t0) 7 (U (35 + 7 * t0) 7 + 1)) 31 7 ∧ (lf_up U (35 + 7 * t0) 7 (U (35 + 7 * t0) 7 + 1)) 31 3 = -1
      rw [wV 31 (by omega) (by omega) (by omega) (by omega), wV 32 (by omega) (by omega) (by omega) (by omega)]
      exact q
    · intro c
      have q := h.2.2.2.2.2.1 c
      show (lf_up U (35 + 7 * t0) 7 (U (35 + 7 * t0) 7 + 1)) 31 2 = r.1 ∧ (lf_up U (35 + 7 * t0) 7 (U (35 + 7 * t0) 7 + 1)) 31 3 = r.2 ∧ (lf_up U (35 + 7 * t0) 7 (U (35 + 7 * t0) 7 + 1)) 31 8 = 1
      rw [wV 31 (by omega) (by omega) (by omega) (by omega)]
      exact q
  refine k _ (wV 0 (by omega) (by omega) (by omega) (by omega)) hS ⟨x1, x2, ?_, ?_, ?_⟩
  · show (lf_up U (35 + 7 * t0) 7 (U (35 + 7 * t0) 7 + 1)) (35 + 7 * t0) 7 = m + 1
    rw [lf_up_s, e7]
  · show ∀ l : Int, 0 ≤ l → l < 3 → (o l = true ↔ (lf_up U (35 + 7 * t0) 7 (U (35 + 7 * t0) 7 + 1)) (37 + 7 * t0) l ≠ -1)
    rw [wV (37 + 7 * t0) (by omega) (by omega) (by omega) (by omega)]
    exact x4
  · show 0 ≤ (lf_up U (35 + 7 * t0) 7 (U (35 + 7 * t0) 7 + 1)) (35 + 7 * t0) 1
    rw [lf_up_i (by decide), wU _ (by omega) (by omega) (by omega)]
    exact x5
theorem fl_58 {w : Int} {Q : lf_Z → Prop} (hw : 23 ≤ w ∧ w ≤ 32) (hb : cl_tp f n) (h : cl_S s f n g law s r) (hX : tx_X t0 m o s) (hm : m < 24) (k : ∀ t : lf_Z, t.1 0 = s.1 0 → cl_S t f n g law t (ds_bd r (ds_deed f n w)) → tx_X t0 (m + 1) o t → Q t) : fw_58 w Q s := by
  have e0 : ds_bd r (ds_deed f n w) = if tx_sh ((w - 23) * 5 + 2) = 0 then ds_bd r (ds_num f n (tx_sh ((w - 23) * 5)) (tx_sh ((w - 23) * 5 + 1))) else ds_bd (ds_bd (ds_bd r (ds_num f n (tx_sh ((w - 23) * 5)) (tx_sh ((w - 23) * 5 + 1)))) (ds_ex f n (tx_sh ((w - 23) * 5 + 2)))) (ds_num f n (tx_sh ((w - 23) * 5 + 3)) (tx_sh ((w - 23) * 5 + 4))) := by
    by_cases c : r.1 = 0
    · rw [ds_bd0 c, ds_bd0 c]
      unfold ds_deed
      by_cases q : tx_sh ((w - 23) * 5 + 2) = 0
      · rw [if_pos q]
      · rw [if_neg q]
    · rw [ds_bdF c, ds_bdF c, ds_bdF c, ds_bdF c]
      (split) <;> rfl
  rw [e0] at k
  have p68 : ∀ (v u : Int) (t : lf_Z) (r' : Int × Int), cl_S s f n g law t r' → (∀ y : lf_Z, y.1 0 = s.1 0 → cl_S y f n g law y r' → tx_X t0 (m + 1) o y → Q y) → fw_58_p68 Q w v u t := by
    intro v u t r' ht kk
    have tX := tx_Xk hX ht.2.2.2.2.2.2
    unfold fw_58_p68
    refine ⟨fun _ => trivial, fun t1 e1 _ => ?_⟩
    have := tx_ref tX e1
    subst this
    exact fl_57 ht tX hm (fun y e0 hy yX => kk y (e0.trans ht.2.2.2.2.2.2.2.1) hy yX)
  unfold fw_58
  intro _ _
  refine fl_num hb h (fun v t ht => ?_)
  intro _
  refine ⟨fun q => ?_, fun q => ?_⟩
  · rw [if_pos (show tx_sh ((w - 23) * 5 + 2) = 0 from q)] at k
    exact p68 _ _ t _ ht k
  · rw [if_neg (show ¬ tx_sh ((w - 23) * 5 + 2) = 0 from q)] at k
    refine fl_ex ?_ hb ht (fun u hu _ _ => fl_num hb hu (fun v2 y hy => p68 _ _ y _ hy k))
    have key : ∀ j : Nat, j < 10 → (px_sh (j * 5 + 2)).toInt ≠ 1 := by decide +kernel
    have := key (w - 23).toNat (by omega)
    rw [show ((w - 23) * 5 + 2).toNat = (w - 23).toNat * 5 + 2 by omega]
    exact this
/-- a clause: fw_38 -/
theorem fl_38 {b : Int} {Q : lf_Z → Prop} (hb : cl_tp f n) (h : cl_S s f n g law s (0, b)) (hX : tx_X t0 m o s) (k : ∀ (t : lf_Z) (law' : Int) (r' : Int × Int), t.1 0 = s.1 0 → cl_S t f n g law' t r' → (tx_ok f n m o b ≠ 0 → r' = (tx_ok f n m o b, b)) → (tx_ok f n m o b = 0 → r' = ds_cl f n g b) → (r'.1 = 0 → tx_X t0 (m + 1) (tx_o f n o b) t) → Q t) : fw_38 Q s := by
  have e : s.1 31 8 = lx_T f n b := cl_tok h rfl
  obtain ⟨x1, x2, x3, x4, x5⟩ := hX
  have hX : tx_X t0 m o s := ⟨x1, x2, x3, x4, x5⟩
  have no : ∀ v : Int, v ≠ 0 → tx_ok f n m o b = v → fw_39 v Q s := by
    intro v hv hq
    refine fl_fail hv h (fun t ht => k t law _ ht.2.2.2.2.2.2.2.1 (cl_Sz ht) (fun _ => ?_) (fun c => absurd (hq.symm.trans c) hv) (fun c => ?_))
    · rw [hq]; rfl
    · exact absurd c hv
  unfold fw_38
  refine fl_15 ?_
  rw [e]
  refine ⟨fun q => ⟨fun _ => trivial, fun t1 e1 _ => ?_⟩, fun q => no 1 (by decide) ?_⟩
  · rw [Bool.and_eq_true, decide_eq_true_eq, decide_eq_true_eq] at q
    have := tx_ref hX e1
    subst this
    refine fl_40 ⟨fun c => ⟨fun _ => trivial, fun t2 e2 _ => ?_⟩, fun c => no 4 (by decide) ?_⟩
    · have := tx_ref hX e2
      subst this
      rw [x3]
      have free : ¬ (lx_T f n b ≤ 22 ∧ o (lx_T f n b - 20) = true) := by
        intro d
        have := (x4 (lx_T f n b - 20) (by omega) (by omega)).mp d.2
        rw [decide_eq_true (show 0 ≤ lx_T f n b - 20 by omega), decide_eq_true (show lx_T f n b - 20 < 3 by omega), decide_eq_true this] at c
        cases c
      intro _
      refine ⟨fun hm => fl_adv hb (cl_Sz h) (fun a ha => ?_), fun hm => no 6 (by decide) ?_⟩
      · have ok : tx_ok f n m o b = 0 := by
          unfold tx_ok
          rw [if_neg (fun d => d ⟨q.1, q.2⟩), if_neg free, if_neg (by omega)]
        have aX := tx_Xk hX ha.2.2.2.2.2.2
        intro _
        rw [ds_bd0 rfl] at ha
        refine ⟨fun c2 => ?_, fun c2 => ⟨fun _ => trivial, fun t3 e3 _ => ⟨fun _ => trivial, fun t4 e4 _ _ => ?_⟩⟩⟩
        · refine fl_58 (by omega) hb (cl_Sz ha) aX hm (fun y ye hy yX => ?_)
          unfold fw_38_p146
          refine fl_ex (by decide) hb hy (fun u hu => k u law _ ((hu.2.2.2.2.2.2.2.1.trans ye).trans ha.2.2.2.2.2.2.2.1) (cl_Sz hu) (fun c => absurd ok c) (fun _ => ?_) (fun _ => ?_))
          · show ds_bd (ds_bd (0, ds_ad f n b) (ds_deed f n (lx_T f n b))) (ds_ex f n 16) = _
            rw [ds_bd0 (r := (0, ds_ad f n b)) rfl]; unfold ds_cl; rw [if_pos c2]
          · have uX := tx_Xk yX hu.2.2.2.2.2.2
            refine ⟨uX.1, uX.2.1, uX.2.2.1, fun l l0 l1 => ?_, uX.2.2.2.2⟩
            unfold tx_o
            rw [decide_eq_false (show ¬ lx_T f n b - 20 = l by omega), Bool.or_false]
            exact uX.2.2.2.1 l l0 l1
        · have := tx_ref aX e3
          subst this
          have := tx_ref aX e4
          subst this
          generalize hv : lf_up (lf_up a.1 31 6 (lx_T f n b - 20)) (37 + 7 * t4) (lx_T f n b - 20) ((lf_up a.1 31 6 (lx_T f n b - 20)) (35 + 7 * t4) 1) = V
          have v31 : ∀ i : Int, i ≠ 6 → V 31 i = a.1 31 i := fun i hi => by rw [← hv]; exact (lf_up_c (by omega)).trans (lf_up_i hi)
          have v6 : V 31 6 = lx_T f n b - 20 := by rw [← hv]; exact (lf_up_c (by omega)).trans lf_up_s
          have vc : ∀ c : Nat, c ≠ 31 → c ≠ 37 + 7 * t4 → V c = a.1 c := fun c c1 c3 => by rw [← hv]; exact (lf_up_row c3).trans (lf_up_row c1)
          have hVS : cl_S (V, a.2.1, a.2.2) f n g (lx_T f n b - 20) (V, a.2.1, a.2.2) (0, ds_ad f n b) := by
            obtain ⟨h1, h2, h3, h4, h5, h6, h7⟩ := ha
            refine ⟨(vc 32 (by omega) (by omega)).trans h1, (v31 1 (by decide)).trans h2, (vc 33 (by omega) (by omega)).trans h3, v6, fun c => ?_, fun c => absurd rfl c, cl_Kr⟩
            have q := h5 rfl
            unfold rd_at at q ⊢
            show (V 31 9 = ds_ad f n b ∧ V 31 8 = lx_T (V 32) (V 31 1) (ds_ad f n b) ∧ V 31 7 = lx_E (V 32) (V 31 1) (ds_ad f n b) ∧ ((V 31 8 = 2 ∨ V 31 8 = 3) → V 31 10 = lx_V (V 32) (V 31 1) (ds_ad f n b))) ∧ V 31 2 = 0 ∧ 0 ≤ ds_ad f n b ∧ 0 ≤ V 31 7 ∧ V 31 3 = -1
            rw [v31 3 (by decide), v31 9 (by decide), v31 8 (by decide), v31 7 (by decide), v31 10 (by decide), v31 2 (by decide), v31 1 (by decide), vc 32 (by omega) (by omega)]
            exact q
          have vl : 0 ≤ V (35 + 7 * t4) 1 := by rw [vc _ (by omega) (by omega)]; exact aX.2.2.2.2
          have vo : ∀ l : Int, V (37 + 7 * t4) l = if l = lx_T f n b - 20 then a.1 (35 + 7 * t4) 1 else a.1 (37 + 7 * t4) l := by
            intro l
            rw [← hv]
            by_cases hl : l = lx_T f n b - 20
            · rw [if_pos hl, hl, lf_up_s]; exact lf_up_c (by omega)
            · rw [if_neg hl, lf_up_i hl]; exact lf_up_c (by omega)
          have hVX : tx_X t4 m (tx_o f n o b) (V, a.2.1, a.2.2) := by
            refine ⟨aX.1, x2, ?_, fun l l0 l1 => ?_, vl⟩
            · show V (35 + 7 * t4) 7 = m
              rw [vc _ (by omega) (by omega)]; exact aX.2.2.1
            · show tx_o f n o b l = true ↔ V (37 + 7 * t4) l ≠ -1
              rw [vo l]
              unfold tx_o
              by_cases hl : l = lx_T f n b - 20
              · rw [if_pos hl, decide_eq_true hl.symm, Bool.or_true]
                have := aX.2.2.2.2
                exact ⟨fun _ => by omega, fun _ => rfl⟩
              · rw [if_neg hl, decide_eq_false (show ¬ lx_T f n b - 20 = l from fun q => hl q.symm), Bool.or_false]
                exact aX.2.2.2.1 l l0 l1
          refine fl_sum hb hVS (fun w hw => ⟨fun _ => trivial, fun t5 e5 _ => ⟨fun _ => trivial, fun t6 e6 _ _ => ⟨fun _ => trivial, fun t7 e7 _ => ?_⟩⟩⟩)
          have wX := tx_Xk hVX hw.2.2.2.2.2.2
          have := tx_ref wX e5
          subst this
          have := tx_ref wX e6
          subst this
          have := tx_ref wX e7
          subst this
          have w6 : w.1 31 6 = lx_T f n b - 20 := hw.2.2.2.1
          rw [w6]
          have y38 : ∀ c : Nat, c ≠ 38 + 7 * t7 → (lf_up w.1 (38 + 7 * t7) (lx_T f n b - 20) (w.1 (35 + 7 * t7) 1)) c = w.1 c := fun c hc => lf_up_row hc
          have hY : cl_S w f n g (lx_T f n b - 20) (lf_up w.1 (38 + 7 * t7) (lx_T f n b - 20) (w.1 (35 + 7 * t7) 1), w.2.1, w.2.2) (ds_bd (0, ds_ad f n b) ((ds_T f n (lx_T f n b - 20) 200).1 0 g)) := by
            refine cl_S_c (cl_Sz hw) (y38 31 (by omega)) (y38 32 (by omega)) (y38 33 (by omega)) (fun hK => ⟨rfl, y38 0 (by omega), fun u hu => ?_⟩)
            show (lf_up w.1 (38 + 7 * t7) (lx_T f n b - 20) (w.1 (35 + 7 * t7) 1)) (37 + 7 * u) = _ ∧ (lf_up w.1 (38 + 7 * t7) (lx_T f n b - 20) (w.1 (35 + 7 * t7) 1)) (35 + 7 * u) 7 = _ ∧ (_ → 0 ≤ (lf_up w.1 (38 + 7 * t7) (lx_T f n b - 20) (w.1 (35 + 7 * t7) 1)) (35 + 7 * u) 1)
            rw [y38 _ (by omega), y38 _ (by omega)]
            exact ⟨rfl, rfl, fun q => q⟩
          have yX := tx_Xk wX hY.2.2.2.2.2.2
          refine fl_57 hY yX hm (fun y ye hy yX2 => ?_)
          unfold fw_38_p146
          refine fl_ex (by decide) hb hy (fun u hu => k u _ _ ((((hu.2.2.2.2.2.2.2.1.trans ye).trans (y38 0 (by omega))).trans hw.2.2.2.2.2.2.2.1).trans ((vc 0 (by omega) (by omega)).trans ha.2.2.2.2.2.2.2.1)) (cl_Sz hu) (fun c => absurd ok c) (fun _ => ?_) (fun _ => tx_Xk yX2 hu.2.2.2.2.2.2))
          rw [ds_bd0 (r := (0, ds_ad f n b)) rfl]
          unfold ds_cl
          rw [if_neg c2]
      · unfold tx_ok
        rw [if_neg (fun d => d ⟨q.1, q.2⟩), if_neg free, if_pos (by omega)]
    · rw [Bool.and_eq_true, Bool.and_eq_true, decide_eq_true_eq, decide_eq_true_eq, decide_eq_true_eq] at c
      unfold tx_ok
      rw [if_neg (fun d => d ⟨q.1, q.2⟩), if_pos ⟨by omega, (x4 _ c.1.1 c.1.2).mpr c.2⟩]
  · rw [Bool.and_eq_false_iff, decide_eq_false_iff_not, decide_eq_false_iff_not] at q
    unfold tx_ok
    rw [if_pos (fun d => by omega)]
/-- the loop over clauses -/
theorem fl_29l {b m x : Int} {o : Int → Bool} {Q : Bool → lf_Z → Prop} (hb : cl_tp f n) (h : cl_S s f n g law s (0, b)) (hX : tx_X t0 0 (fun _ => false) s) (k : ∀ (z : Bool) (t : lf_Z), t.1 0 = s.1 0 → t.1 32 = f → (tx_lp f n g 301 0 (fun _ => false) b).1 = t.1 31 2 → ((tx_lp f n g 301 0 (fun _ => false) b).1 = 0 → t.1 31 3 = -1) → ((tx_lp f n g 301 0 (fun _ => false) b).1 ≠ 0 → t.1 31 3 = (tx_lp f n g 301 0 (fun _ => false) b).2) → t.1 31 1 = 0 → (z = true ↔ (tx_lp f n g 301 0 (fun _ => false) b).1 = 0) → Q z t) : fw_29_p41L Q 0 s := by
  generalize hv : tx_lp f n g 301 0 (fun _ => false) b = v at k
  refine ⟨fun x2 t => 0 ≤ x2 ∧ x2 ≤ 301 ∧ t.1 0 = s.1 0 ∧ ∃ (law : Int) (r : Int × Int) (m : Int) (o : Int → Bool), cl_S t f n g law t r ∧ (r.1 = 0 → tx_X t0 m o t ∧ tx_lp f n g (301 - x2).toNat m o r.2 = v) ∧ (r.1 ≠ 0 → r = v), ?_, ⟨Int.le_refl _, by decide, rfl, law, _, 0, _, h, fun _ => ⟨hX, hv⟩, fun c => absurd rfl c⟩⟩
  intro x2 t ⟨x0, x3, te, law, r, m, o, hr, h0, h1⟩
  have fin : r = v → fw_29_p72 Q t := by
    intro e
    have g1 : ∀ i : Int, i ≠ 1 → (lf_up t.1 31 1 0) 31 i = t.1 31 i := fun i hi => lf_up_i hi
    have g0 : (lf_up t.1 31 1 0) 0 = s.1 0 := (lf_up_row (by decide)).trans te
    have g32 : (lf_up t.1 31 1 0) 32 = f := (lf_up_row (by decide)).trans hr.1
    unfold fw_29_p72
    intro _
    by_cases c : r.1 = 0
    · obtain ⟨a1, a2, a3, a4, a5⟩ := hr.2.2.2.2.1 c
      refine ⟨fun d => absurd a2 d, fun _ => k true _ g0 g32 ?_ (fun _ => (g1 3 (by decide)).trans a5) (fun d => absurd (by rw [← e]; exact c) d) zu_s ⟨fun _ => by rw [← e]; exact c, fun _ => rfl⟩⟩
      exact (e ▸ c).trans ((g1 2 (by decide)).trans a2).symm
    · obtain ⟨a1, a2, a3⟩ := hr.2.2.2.2.2.1 c
      refine ⟨fun _ => k false _ g0 g32 ?_ (fun d => absurd (by rw [e]; exact d) c) (fun _ => ((g1 3 (by decide)).trans a2).trans (by rw [e])) zu_s ⟨fun d => (by cases d), fun d => absurd (by rw [e]; exact d) c⟩, fun d => absurd (by rw [a1]; exact c) d⟩
      rw [← e]
      exact ((g1 2 (by decide)).trans a1).symm
  have eqr : r.1 = 0 → r = (0, r.2) := by
    intro c
    obtain ⟨a, b⟩ := r
    have c : a = 0 := c
    rw [c]
  unfold fw_29_p41
  intro _
  by_cases c : r.1 = 0
  · obtain ⟨hX2, hl⟩ := h0 c
    have e := cl_tok hr c
    have a2 := (hr.2.2.2.2.1 c).2.1
    refine ⟨fun d => fin ?_, fun d _ => ⟨fun q => fin ?_, fun q _ => ⟨fun w => absurd a2 w, fun _ => ?_⟩⟩⟩
    · rw [show (301 - x2).toNat = 0 by omega] at hl
      rw [← hl]; exact eqr c
    · rw [show (301 - x2).toNat = (300 - x2).toNat + 1 by omega] at hl
      have : tx_lp f n g ((300 - x2).toNat + 1) m o r.2 = (0, r.2) := if_pos (by rw [← e]; exact q)
      rw [this] at hl
      rw [← hl]; exact eqr c
    · rw [show (301 - x2).toNat = (301 - (x2 + 1)).toNat + 1 by omega] at hl
      have hl2 : (if tx_ok f n m o r.2 ≠ 0 then (tx_ok f n m o r.2, r.2) else ds_bd (ds_cl f n g r.2) (tx_lp f n g (301 - (x2 + 1)).toNat (m + 1) (tx_o f n o r.2))) = v := by
        rw [← hl]
        exact (if_neg (by rw [← e]; exact q)).symm
      have hr2 : cl_S t f n g law t (0, r.2) := by rw [← eqr c]; exact hr
      refine fl_38 hb hr2 hX2 (fun u law' r' ue hu k1 k2 k3 => ⟨by omega, by omega, ue.trans te, law', r', m + 1, tx_o f n o r.2, hu, fun z => ?_, fun z => ?_⟩)
      · refine ⟨k3 z, ?_⟩
        by_cases y : tx_ok f n m o r.2 = 0
        · rw [if_neg (fun w => w y), ← k2 y, ds_bd0 z] at hl2
          exact hl2
        · have := k1 y
          rw [this] at z
          exact absurd z y
      · by_cases y : tx_ok f n m o r.2 = 0
        · rw [if_neg (fun w => w y), ← k2 y, ds_bdF z] at hl2
          exact hl2
        · rw [if_pos y] at hl2
          rw [k1 y]; exact hl2
  · have e := cl_bad hr c
    have a1 := (hr.2.2.2.2.2.1 c).1
    refine ⟨fun _ => fin (h1 c), fun _ _ => ⟨fun q => ?_, fun _ _ => ⟨fun _ => fin (h1 c), fun w => absurd (by rw [a1]; exact c) w⟩⟩⟩
    rw [e] at q; cases q
theorem lf_ur2v {P : Nat → Option Nat} {v : Option Nat} : (lf_ur P 2 v) 2 = v := rfl
/-- the fault and the place that a tape has: 0 and -1 without -/
def tx_v (f : Int → Int) (n : Int) (g : Int → Int) : Int × Int := tx_lp f n g 301 0 (fun _ => false) (lx_sk f n 0)
/-- text of the class: fw_28 -/
theorem fl_28 {Q : Int → lf_Z → Prop} (hb : cl_tp (s.1 32) (s.1 31 1)) (kN : ¬ s.1 0 11 < 4 → Q (-1) s) (k : s.1 0 11 < 4 → ∀ (g : Int → Int) (t : lf_Z) (v : Int), (∀ l : Int, 0 ≤ l → l < 26 → g l = -1) → t.1 32 = s.1 32 → t.1 31 1 = 0 → (∀ i : Int, i ≠ 11 → t.1 0 i = s.1 0 i) → t.1 31 2 = (tx_v (s.1 32) (s.1 31 1) g).1 → ((tx_v (s.1 32) (s.1 31 1) g).1 = 0 → t.1 31 3 = -1 ∧ v = s.1 0 11 ∧ t.1 0 11 = s.1 0 11 + 1) → ((tx_v (s.1 32) (s.1 31 1) g).1 ≠ 0 → t.1 31 3 = (tx_v (s.1 32) (s.1 31 1) g).2 ∧ v = -1 ∧ t.1 0 11 = s.1 0 11) → Q v t) : fw_28 Q s := by
  unfold fw_28
  intro _
  refine ⟨fun c _ t0 e0 => ?_, kN⟩
  unfold fw_29
  refine ⟨fun _ => trivial, fun t1 e1 h4 => ?_⟩
  unfold fw_30
  dsimp only
  generalize hV : lf_up (lf_fl (lf_up (lf_up (lf_fl (lf_up (lf_up s.1 (35 + 7 * t1) 1 0) (35 + 7 * t1) 7 0) (37 + 7 * t1) 3 (-1)) 31 2 0) 31 3 (-1)) 33 26 (-1)) 31 7 0 = V
  have vc : ∀ c : Nat, c ≠ 31 → c ≠ 33 → c ≠ 35 + 7 * t1 → c ≠ 37 + 7 * t1 → V c = s.1 c := by
    intro c c1 c2 c3 c4
    funext j
    rw [← hV]
    exact (lf_up_c c1).trans ((lf_fl_c c2).trans ((lf_up_c c1).trans ((lf_up_c c1).trans ((lf_fl_c c4).trans ((lf_up_c c3).trans (lf_up_c c3))))))
  have v7 : V 31 7 = 0 := by rw [← hV]; exact lf_up_s
  have v2 : V 31 2 = 0 := by rw [← hV]; exact (lf_up_i (by decide)).trans ((lf_fl_c (by decide)).trans ((lf_up_i (by decide)).trans lf_up_s))
  have v3 : V 31 3 = -1 := by rw [← hV]; exact (lf_up_i (by decide)).trans ((lf_fl_c (by decide)).trans lf_up_s)
  have v1 : V 31 1 = s.1 31 1 := by rw [← hV]; exact (lf_up_i (by decide)).trans ((lf_fl_c (by decide)).trans ((lf_up_i (by decide)).trans ((lf_up_i (by decide)).trans ((lf_fl_c (by omega)).trans ((lf_up_c (by omega)).trans (lf_up_c (by omega)))))))
  have vg : ∀ l : Int, 0 ≤ l → l < 26 → V 33 l = -1 := by
    intro l l0 l1
    rw [← hV]
    refine (lf_up_c (by decide)).trans ?_
    unfold lf_fl
    rw [if_pos ⟨rfl, l0, l1⟩]
  have vl : ∀ l : Int, 0 ≤ l → l < 3 → V (37 + 7 * t1) l = -1 := by
    intro l l0 l1
    rw [← hV]
    refine (lf_up_c (by omega)).trans ((lf_fl_c (by omega)).trans ((lf_up_c (by omega)).trans ((lf_up_c (by omega)).trans ?_)))
    unfold lf_fl
    rw [if_pos ⟨rfl, l0, l1⟩]
  have vm : V (35 + 7 * t1) 7 = 0 := by
    rw [← hV]
    exact (lf_up_c (by omega)).trans ((lf_fl_c (by omega)).trans ((lf_up_c (by omega)).trans ((lf_up_c (by omega)).trans ((lf_fl_c (by omega)).trans lf_up_s))))
  have vn : V (35 + 7 * t1) 1 = 0 := by
    rw [← hV]
    exact (lf_up_c (by omega)).trans ((lf_fl_c (by omega)).trans ((lf_up_c (by omega)).trans ((lf_up_c (by omega)).trans ((lf_fl_c (by omega)).trans ((lf_up_i (by decide)).trans lf_up_s)))))
  have v32 : V 32 = s.1 32 := vc 32 (by omega) (by omega) (by omega) (by omega)
  have v0 : V 0 = s.1 0 := vc 0 (by omega) (by omega) (by omega) (by omega)
  have hVb : ∀ i, 0 ≤ i → i < V 31 1 → 0 ≤ V 32 i ∧ V 32 i ≤ 255 := by rw [v1, v32]; exact hb
  refine fl_31 (s := (V, s.2.1, lf_ur s.2.2 2 (some t0))) v2 (by show 0 ≤ V 31 7; rw [v7]; exact Int.le_refl _) hVb (fun t hF hA => ?_)
  have hA2 : rd_at t (lx_sk (V 32) (V 31 1) (V 31 7)) := hA
  rw [v32, v1, v7] at hA2
  have e1' : t1 = t0 := by
    rw [lf_ur2v] at e1
    cases e1
    rfl
  subst e1'
  have t32 : t.1 32 = s.1 32 := (hF.1 32 (by decide)).trans v32
  have t1' : t.1 31 1 = s.1 31 1 := (hF.2.1 1 (by decide) (by decide) (by decide) (by decide)).trans v1
  have t0' : t.1 0 = s.1 0 := (hF.1 0 (by decide)).trans v0
  have tP : t.2.2 = lf_ur s.2.2 2 (some t1) := congrArg (·.2) hF.2.2
  have tS : cl_S t (s.1 32) (s.1 31 1) (V 33) (t.1 31 6) t (0, lx_sk (s.1 32) (s.1 31 1) 0) := by
    refine ⟨t32, t1', hF.1 33 (by decide), rfl, fun _ => ⟨hA2, (hF.2.1 2 (by decide) (by decide) (by decide) (by decide)).trans v2, lx_runB, ?_, (hF.2.1 3 (by decide) (by decide) (by decide) (by decide)).trans v3⟩, fun d => absurd rfl d, cl_Kr⟩
    rw [hA2.2.2.1]
    exact cl_E0 lx_runB
  have tX : tx_X t1 0 (fun _ => false) t := by
    refine ⟨by rw [tP]; rfl, h4, ?_, fun l l0 l1 => ?_, ?_⟩
    · rw [hF.1 _ (by omega)]; exact vm
    · rw [hF.1 _ (by omega)]
      exact ⟨fun d => (by cases d), fun d => absurd (vl l l0 l1) d⟩
    · rw [hF.1 _ (by omega)]
      exact Int.le_of_eq vn.symm
  refine fl_29l (m := 0) (x := 0) (o := fun _ => false) (by intro i a b; exact hb i a b) tS tX (fun zz u u0 u32 u2 u3 u4 u1 uz => ?_)
  refine ⟨fun d => ?_, fun d => ?_⟩
  · have hz := uz.mp d
    have w0 : u.1 0 11 = s.1 0 11 := by rw [u0, t0']
    refine k c (V 33) _ _ vg ((zu_r (by decide)).trans u32) ((zu_c (by decide)).trans u1) (fun i hi => (zu_i hi).trans (by rw [u0, t0'])) ((zu_c (by decide)).trans u2.symm) (fun _ => ⟨(zu_c (by decide)).trans (u3 hz), by rw [w0]; omega, ?_⟩) (fun q => absurd hz q)
    exact (zu_s).trans (by rw [w0])
  · have hz : (tx_v (s.1 32) (s.1 31 1) (V 33)).1 ≠ 0 := fun q => by rw [uz.mpr q] at d; cases d
    exact k c (V 33) _ _ vg u32 u1 (fun i _ => by rw [u0, t0']) u2.symm (fun q => absurd q hz) (fun _ => ⟨u4 hz, rfl, by rw [u0, t0']⟩)
end DU
