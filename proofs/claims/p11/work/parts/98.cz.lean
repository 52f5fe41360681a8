/-! sums, products, either, both: with what is written -/
section CZ
variable {f g : Int → Int} {n law : Int} {s t u z : lf_Z} {r : Int × Int} {W : cy_W} {b b1 b2 b3 d : Int} {V V1 V2 : cc_V}
/-- a token is consumed inside the text -/
theorem cz_ad (h : lx_T f n b ≠ 0) : b + 1 ≤ ds_ad f n b ∧ ds_ad f n b ≤ n := by
  obtain ⟨h1, h2⟩ := lm_adv h
  refine ⟨h2, ?_⟩
  have run : ∀ (P : Int → Bool) (p : Int), p ≤ n → lx_run P f n p ≤ n := fun P p hp => lx_runN hp
  unfold ds_ad
  refine run _ _ ?_
  unfold lx_E
  rw [if_neg (by omega)]
  split
  · exact run _ _ (by omega)
  · split
    · exact run _ _ (by omega)
    · split
      · rename_i h5
        unfold lx_two at h5
        simp only [Bool.and_eq_true, decide_eq_true_eq] at h5
        omega
      · omega
/-- two readings with a sign between, then the order that binds -/
theorem cy_A2 {k v : Int} (hk : (4 ≤ k ∧ k ≤ 13) ∨ k = 45 ∨ k = 46) (hb : k = 45 ∨ k = 46 → ∀ N e, (V1 N e = 0 ∨ V1 N e = 1) ∧ (V2 N e = 0 ∨ V2 N e = 1)) (hT : lx_T f n b1 ≠ 0) {o : Option Nat} {C : Nat → Int → Int}
    (h : cy_O (k * 10000 + 0) v (cy_A law n (ds_ad f n b1) b2 d g V2 (cy_A law n b b1 d g V1 W)) o C) : cy_A law n b b2 d g (fun N e => cm_2 k (V1 N e) (V2 N e)) W o C := by
  obtain ⟨D, u, ⟨B, u2, ⟨A, u3, hW, e1, l1, h1⟩, e2, l2, h2⟩, e3, l3, h3⟩ := h
  have q2 : u2 = u := by rw [e2] at e3; exact Option.some.inj e3
  have q3 : u3 = u := by rw [e1] at e3; exact Option.some.inj e3
  subst q2
  subst q3
  obtain ⟨t1, t2⟩ := cz_ad hT
  refine ⟨A, u3, hW, e1, l1, fun p0 pb bn n3 => ?_⟩
  obtain ⟨⟨x1, x2⟩, ⟨x3, x4⟩, x5, x6, x7, x8⟩ := h1 p0 pb bn n3
  obtain ⟨⟨y1, y2⟩, ⟨y3, y4⟩, y5, y6, y7, y8⟩ := h2 (by omega) (by omega) t2 n3
  obtain ⟨_, z2, z3, z4, z5⟩ := h3 (by omega)
  refine ⟨⟨by omega, y2⟩, ⟨by omega, by omega⟩, fun i hi => ?_, fun i hi => (z4 i hi).trans ((y6 i hi).trans (x6 i hi)), fun c c1 c2 => (z5 c c1 c2).trans ((y7 c c1 c2).trans (x7 c c1 c2)), ?_⟩
  · rw [z3]
    exact (if_neg (by omega)).trans ((y5 i (by omega)).trans (x5 i hi))
  · rw [z2, z3]
    refine cc_2 (cc_R (cc_R x8 (fun i i0 i1 => y5 i i1)) (fun i i0 i1 => if_neg (by omega))) (cc_R y8 (fun i i0 i1 => if_neg (by omega))) ?_ hk hb
    exact (if_pos rfl).trans (Int.add_zero _)
theorem cm_2b {k v w : Int} (hk : k = 45 ∨ k = 46) (hv : v = 0 ∨ v = 1) (hw : w = 0 ∨ w = 1) : cm_2 k w v = 0 ∨ cm_2 k w v = 1 := by
  unfold cm_2
  rcases hk with e | e
  · rw [if_pos e]
    rcases hv with h1 | h1 <;> rcases hw with h2 | h2 <;> subst h1 <;> subst h2 <;> decide
  · rw [if_neg (by omega), if_pos e]
    rcases hv with h1 | h1 <;> rcases hw with h2 | h2 <;> subst h1 <;> subst h2 <;> decide
theorem dv_lpN {ok : Int → Bool} {G : Int → Int × Int} {VV : Int → Int} {op : Int → Int → Int → Int} {K : Nat} {v : Int} (h : ok (lx_T f n b) = false) : dv_lp f n ok G VV op K b v = v := by
  cases K with
  | zero => rfl
  | succ K =>
    show (if ok (lx_T f n b) = true then _ else v) = v
    rw [h]; rfl
/-- whether truths are bound -/
def cz_T (ok : Int → Bool) : Prop := ok 45 = true ∨ ok 46 = true
/-- a loop that binds -/
theorem cz_lp {P : ds_D} {VP : cy_D} {ok : Int → Bool} {R : Int → (lf_Z → Prop) → lf_Z → Prop} (hb : cl_tp f n) (ih : cy_G z f n law R P VP) (hok : ∀ x : Int, ok x = true → (4 ≤ x ∧ x ≤ 13) ∨ x = 45 ∨ x = 46) (h1 : ok 1 = false) (h0 : ok 0 = false)
    (hB : cz_T ok → ∀ N d g e b, VP N d g e b = 0 ∨ VP N d g e b = 1) (hB2 : cz_T ok → ∀ x : Int, ok x = true → x = 45 ∨ x = 46)
    (L : Int → (Int → lf_Z → Prop) → (lf_Z → Prop) → Int → lf_Z → Prop)
    (hL : ∀ (d : Int) (X : Int → lf_Z → Prop) (Q : lf_Z → Prop) (x2 : Int) (t : lf_Z), (300 ≤ x2 → Q t) → (¬ 300 ≤ x2 → (ok (t.1 31 8) = true → fw_31 (fun a => R d (fun c => (c.2.2 2 = none → True) ∧ ∀ t0 : Nat, c.2.2 2 = some t0 → t0 < 4 → fw_45 t0 (t.1 31 8) 0 (fun _ y => X (x2 + 1) y) c) a) t) ∧ (ok (t.1 31 8) = false → Q t)) → L d X Q x2 t) :
    cy_G z f n law (fun d Q s => R d (fun t => ∃ X : Int → lf_Z → Prop, (∀ (x2 : Int) (t : lf_Z), X x2 t → L d X Q x2 t) ∧ X 0 t) s) (fun d g b => ds_bd (P d g b) (ds_lp f n ok (P d g) 300)) (fun N d g e b => dv_lp f n ok (P d g) (VP N d g e) cm_2 300 (P d g b).2 (VP N d g e b)) := by
  intro W d g s r Q hg h k
  refine ih W d g s r _ hg h (fun t ht => ?_)
  have ht' : cy_S z (cy_A law n r.2 (ds_bd r (P d g)).2 d g (fun N e => VP N d g e r.2) W) f n g law t (ds_bd r (P d g)) := by
    by_cases c : r.1 = 0
    · rw [ds_bd0 c] at ht ⊢; exact ht
    · exact cy_F ht (by rw [ds_bdF c]; exact c)
  refine ⟨fun x2 t => 0 ≤ x2 ∧ x2 ≤ 300 ∧ ∃ (r' : Int × Int) (V' : cc_V), cy_S z (cy_A law n r.2 r'.2 d g V' W) f n g law t r' ∧ ds_bd r' (ds_lp f n ok (P d g) (300 - x2).toNat) = ds_bd r (fun b => ds_bd (P d g b) (ds_lp f n ok (P d g) 300)) ∧ (r'.1 = 0 → r.1 = 0 ∧ ∀ N e, dv_lp f n ok (P d g) (VP N d g e) cm_2 (300 - x2).toNat r'.2 (V' N e) = dv_lp f n ok (P d g) (VP N d g e) cm_2 300 (P d g r.2).2 (VP N d g e r.2)) ∧ (cz_T ok → ∀ N e, V' N e = 0 ∨ V' N e = 1), ?_, ⟨Int.le_refl _, by decide, _, _, ht', ds_bdA, fun c => ?_, fun q N e => hB q N d g e r.2⟩⟩
  rotate_left
  · have c0 : r.1 = 0 := by
      by_cases q : r.1 = 0
      · exact q
      · rw [ds_bdF q] at c; exact c
    refine ⟨c0, fun N e => ?_⟩
    rw [ds_bd0 c0]; rfl
  intro x2 t ⟨x0, x3, r', V', hr, he, hv, hT⟩
  -- at the end
  have fin : (r'.1 = 0 → (300 - x2).toNat = 0 ∨ ok (lx_T f n r'.2) = false) → Q t := by
    intro hs
    refine k t ?_
    rw [← he]
    by_cases c : r'.1 = 0
    · obtain ⟨c0, hv⟩ := hv c
      have e1 : ds_bd r' (ds_lp f n ok (P d g) (300 - x2).toNat) = r' := by
        rcases hs c with z | z
        · rw [z]; exact ds_bdI
        · rw [ds_bd0 c, ds_lpN z]
          obtain ⟨a, b⟩ := r'
          have c : a = 0 := c
          rw [c]
      have e2 : ∀ N e, V' N e = dv_lp f n ok (P d g) (VP N d g e) cm_2 300 (P d g r.2).2 (VP N d g e r.2) := fun N e => by
        rw [← hv N e]
        rcases hs c with z | z
        · rw [z]; rfl
        · exact (dv_lpN z).symm
      dsimp only
      rw [e1]
      rw [e1, ds_bd0 c0] at he
      rw [← he]
      have eV : V' = fun N e => dv_lp f n ok (P d g) (VP N d g e) cm_2 300 (P d g r.2).2 (VP N d g e r.2) := funext fun N => funext fun e => e2 N e
      rw [eV] at hr
      exact hr
    · rw [ds_bdF c]; exact cy_F hr c
  refine hL d _ Q x2 t (fun q => fin (fun _ => Or.inl (by omega))) (fun q => ⟨fun ho => ?_, fun ho => fin (fun c => Or.inr (by rw [← cy_tok hr c]; exact ho))⟩)
  have c : r'.1 = 0 := by
    by_cases c : r'.1 = 0
    · exact c
    · rw [cy_bad hr c, h1] at ho; cases ho
  have e := cy_tok hr c
  rw [e] at ho ⊢
  obtain ⟨c0, hv⟩ := hv c
  rw [show (300 - x2).toNat = (300 - (x2 + 1)).toNat + 1 by omega, ds_bd0 c, ds_lpY ho] at he
  have hv' : ∀ N e, dv_lp f n ok (P d g) (VP N d g e) cm_2 (300 - (x2 + 1)).toNat (P d g (ds_ad f n r'.2)).2 (cm_2 (lx_T f n r'.2) (V' N e) (VP N d g e (ds_ad f n r'.2))) = dv_lp f n ok (P d g) (VP N d g e) cm_2 300 (P d g r.2).2 (VP N d g e r.2) := fun N e => by
    rw [← hv N e, show (300 - x2).toNat = (300 - (x2 + 1)).toNat + 1 by omega]
    show _ = (if ok (lx_T f n r'.2) = true then _ else _)
    rw [if_pos ho]
  have hT0 : lx_T f n r'.2 ≠ 0 := fun q => by rw [q, h0] at ho; cases ho
  refine fy_adv hb hr (fun a ha => ?_)
  rw [ds_bd0 c] at ha
  refine ih _ d g a _ _ hg ha (fun w hw => ⟨fun _ => trivial, fun t0 hu h4 => fy_45 h4 hw hu (fun v y _ hy => ?_)⟩)
  rw [ds_bd0 (r := (0, ds_ad f n r'.2)) rfl] at hy
  refine ⟨by omega, by omega, P d g (ds_ad f n r'.2), fun N e => cm_2 (lx_T f n r'.2) (V' N e) (VP N d g e (ds_ad f n r'.2)), cy_m hy (fun o C _ hC => ?_), he, fun _ => ⟨c0, hv'⟩, fun q N e => cm_2b (hB2 q _ ho) (hB q N d g e _) (hT q N e)⟩
  refine cy_A2 (hok _ ho) (fun q N e => ?_) hT0 hC
  have qT : cz_T ok := by
    rcases q with q | q
    · exact Or.inl (by rw [q] at ho; exact ho)
    · exact Or.inr (by rw [q] at ho; exact ho)
  exact ⟨hT qT N e, hB qT N d g e _⟩
theorem fy_41 {R42 : Int → (lf_Z → Prop) → lf_Z → Prop} {P : ds_D} {VP : cy_D} (hb : cl_tp f n) (ih : cy_G z f n law R42 P VP) : cy_G z f n law (fw_41 R42) (fun d g b => ds_bd (P d g b) (ds_lp f n ds_pm (P d g) 300)) (fun N d g e b => dv_lp f n ds_pm (P d g) (VP N d g e) cm_2 300 (P d g b).2 (VP N d g e b)) := by
  have nT : ¬ cz_T ds_pm := fun q => by rcases q with q | q <;> cases q
  refine cz_lp hb ih (fun x hx => by rcases lm_pmc hx with q | q <;> omega) rfl rfl (fun q => absurd q nT) (fun q => absurd q nT) (fun d X Q x2 t => fw_41_p7 R42 Q d X x2 t) (fun d X Q x2 t e0 e1 => ?_)
  unfold fw_41_p7 fw_41_p32
  intro _
  refine ⟨e0, fun c _ => ⟨fun e => (e1 c).1 (by rw [e]; rfl), fun e => ⟨fun e2 => (e1 c).2 ?_, fun e2 => (e1 c).1 (by rw [Classical.not_not.mp e2]; rfl)⟩⟩⟩
  unfold ds_pm
  rw [decide_eq_false e, decide_eq_false e2]; rfl
theorem fy_42 {R43 : Int → (lf_Z → Prop) → lf_Z → Prop} {P : ds_D} {VP : cy_D} (hb : cl_tp f n) (ih : cy_G z f n law R43 P VP) : cy_G z f n law (fw_42 R43) (fun d g b => ds_bd (P d g b) (ds_lp f n ds_td (P d g) 300)) (fun N d g e b => dv_lp f n ds_td (P d g) (VP N d g e) cm_2 300 (P d g b).2 (VP N d g e b)) := by
  have nT : ¬ cz_T ds_td := fun q => by rcases q with q | q <;> cases q
  refine cz_lp hb ih (fun x hx => by rcases lm_tdc hx with q | q <;> omega) rfl rfl (fun q => absurd q nT) (fun q => absurd q nT) (fun d X Q x2 t => fw_42_p7 R43 Q d X x2 t) (fun d X Q x2 t e0 e1 => ?_)
  unfold fw_42_p7 fw_42_p32
  intro _
  refine ⟨e0, fun c _ => ⟨fun e => (e1 c).1 (by rw [e]; rfl), fun e => ⟨fun e2 => (e1 c).2 ?_, fun e2 => (e1 c).1 (by rw [Classical.not_not.mp e2]; rfl)⟩⟩⟩
  unfold ds_td
  rw [decide_eq_false e, decide_eq_false e2]; rfl
theorem fy_50 {R51 : Int → (lf_Z → Prop) → lf_Z → Prop} {P : ds_D} {VP : cy_D} (hb : cl_tp f n) (ih : cy_G z f n law R51 P VP) (hB : ∀ N d g e b, VP N d g e b = 0 ∨ VP N d g e b = 1) : cy_G z f n law (fw_50 R51) (fun d g b => ds_bd (P d g b) (ds_lp f n (ds_is 46) (P d g) 300)) (fun N d g e b => dv_lp f n (ds_is 46) (P d g) (VP N d g e) cm_2 300 (P d g b).2 (VP N d g e b)) := by
  refine cz_lp hb ih (fun x hx => Or.inr (Or.inr (of_decide_eq_true hx))) rfl rfl (fun _ => hB) (fun _ x hx => Or.inr (of_decide_eq_true hx)) (fun d X Q x2 t => fw_50_p7 R51 Q d X x2 t) (fun d X Q x2 t e0 e1 => ?_)
  unfold fw_50_p7
  intro _
  refine ⟨e0, fun c _ => ⟨fun e => (e1 c).2 (decide_eq_false e), fun e => ?_⟩⟩
  have e := Classical.not_not.mp e
  have := (e1 c).1 (decide_eq_true e)
  rw [e] at this
  exact this
theorem fy_51 {R52 : Int → (lf_Z → Prop) → lf_Z → Prop} {P : ds_D} {VP : cy_D} (hb : cl_tp f n) (ih : cy_G z f n law R52 P VP) (hB : ∀ N d g e b, VP N d g e b = 0 ∨ VP N d g e b = 1) : cy_G z f n law (fw_51 R52) (fun d g b => ds_bd (P d g b) (ds_lp f n (ds_is 45) (P d g) 300)) (fun N d g e b => dv_lp f n (ds_is 45) (P d g) (VP N d g e) cm_2 300 (P d g b).2 (VP N d g e b)) := by
  refine cz_lp hb ih (fun x hx => Or.inr (Or.inl (of_decide_eq_true hx))) rfl rfl (fun _ => hB) (fun _ x hx => Or.inl (of_decide_eq_true hx)) (fun d X Q x2 t => fw_51_p7 R52 Q d X x2 t) (fun d X Q x2 t e0 e1 => ?_)
  unfold fw_51_p7
  intro _
  refine ⟨e0, fun c _ => ⟨fun e => (e1 c).2 (decide_eq_false e), fun e => ?_⟩⟩
  have e := Classical.not_not.mp e
  have := (e1 c).1 (decide_eq_true e)
  rw [e] at this
  exact this
end CZ
