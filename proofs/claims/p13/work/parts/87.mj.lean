/-! minutes of the reference; the harm in all; both calls -/
section MJ
variable {J K : Nat → Int → Int} {s t u : lf_Z} {f g T A B : Int → Int} {X : mn_X} {I : Nat → Int → Int} {a b p x j : Int} {H : List rr_H}
theorem mi_rS : ∀ (m : Nat) (z : mi_T), mi_r J X (m + 1) z = (mn_min J X (mi_r J X m z).1, rr_K (J 1 2, J 1 1, (mi_r J X m z).1) (mi_r J X m z).2) := by
  intro m
  induction m with
  | zero => intro z; rfl
  | succ m ih => intro z; exact ih (mn_min J X z.1, rr_K (J 1 2, J 1 1, z.1) z.2)
/-- the reference: row (steps, stand) and the laws' scratch alone -/
def mr_f (s t : lf_Z) : Prop := (∀ c : Nat, c ≠ 96 → c ≠ 104 → c ≠ 107 → c ≠ 108 → t.1 c = s.1 c) ∧ (∀ i : Int, ¬ rm_p i → i ≠ 9 → i < 278 → t.1 96 i = s.1 96 i) ∧ t.2.2 = s.2.2
theorem mr_fr : mr_f s s := ⟨fun _ _ _ _ _ => rfl, fun _ _ _ _ => rfl, rfl⟩
theorem mr_ft (h : mr_f s t) (g : mr_f t u) : mr_f s u := ⟨fun c a b d e => (g.1 c a b d e).trans (h.1 c a b d e), fun i p q r => (g.2.1 i p q r).trans (h.2.1 i p q r), g.2.2.trans h.2.2⟩
theorem mr_m (h : rm_f s t) : mr_f s t := ⟨h.1, fun i p _ _ => h.2.1 i p, h.2.2⟩
theorem mr_k (h : rr_f s t) (e : ∀ i : Int, i ≠ 9 → i < 278 → t.1 96 i = s.1 96 i) : mr_f s t := ⟨fun c a _ _ _ => h.1 c a, fun i _ q r => e i q r, by rw [h.2]⟩
theorem mr_L (hL : rr_L J (s.1 96)) (hW : mn_W J) (h : mr_f s t) : rr_L J (t.1 96) := by
  obtain ⟨w0, w1, w2, _⟩ := hW
  obtain ⟨l0, l1, l2, l3, l4, l5⟩ := hL
  have g : ∀ j : Int, ¬ rm_p j → j ≠ 9 → j < 278 → t.1 96 j = s.1 96 j := h.2.1
  refine ⟨(g 0 (by unfold rm_p; omega) (by omega) (by omega)).trans l0, (g 1 (by unfold rm_p; omega) (by omega) (by omega)).trans l1, (g 2 (by unfold rm_p; omega) (by omega) (by omega)).trans l2, fun q q0 q1 => ?_, fun w x0 x1 => ?_, fun q q0 q1 => ?_⟩
  · rw [g (14 + 3 * q) (by unfold rm_p; omega) (by omega) (by omega), g (14 + 3 * q + 1) (by unfold rm_p; omega) (by omega) (by omega)]; exact l3 q q0 q1
  · rw [g (50 + 4 * w) (by unfold rm_p; omega) (by omega) (by omega), g (50 + 4 * w + 1) (by unfold rm_p; omega) (by omega) (by omega), g (50 + 4 * w + 2) (by unfold rm_p; omega) (by omega) (by omega)]; exact l4 w x0 x1
  · rw [g (126 + 6 * q + 0) (by unfold rm_p; omega) (by omega) (by omega), g (126 + 6 * q + 1) (by unfold rm_p; omega) (by omega) (by omega), g (126 + 6 * q + 2) (by unfold rm_p; omega) (by omega) (by omega), g (126 + 6 * q + 5) (by unfold rm_p; omega) (by omega) (by omega)]; exact l5 q q0 q1
theorem rm_0m (h : rm_0 T s) (g : mr_f s t) : rm_0 T t := by
  unfold rm_0 at h ⊢
  rw [g.1 98 (by decide) (by decide) (by decide) (by decide), g.1 95 (by decide) (by decide) (by decide) (by decide)]
  exact h
theorem xr_Xm (hX : xr_X X T (s.1 96 8)) (g : mr_f s t) : xr_X X T (t.1 96 8) := by
  rw [g.2.1 8 (by unfold rm_p; omega) (by omega) (by omega)]; exact hX
/-- the steps of the reference -/
def rh_H (A : Int → Int) (H : List rr_H) : Prop := A 9 = H.length ∧ rr_hs A H
theorem rh_Hm (hh : mi_H J H) (hW : mn_W J) (h : rh_H (s.1 96) H) (g : rm_f s t) : rh_H (t.1 96) H := by
  have w1 := hW.2.1
  refine ⟨(g.2.1 9 (by unfold rm_p; omega)).trans h.1, rr_hsC H (fun x hx => ?_) (fun i i0 _ => g.2.1 i (by unfold rm_p; omega)) h.2⟩
  have := (hh.2 x hx).2.1
  omega
theorem mi_w (hW : mn_W J) (hh : mi_H J H) : rr_w H := fun x hx => by
  have w1 := hW.2.1
  have := (hh.2 x hx).2.1
  omega
theorem fl_259 {Q : Bool → lf_Z → Prop} (hL : rr_L J (s.1 96)) (hW : mn_W J) (hB : mn_B J) (hV : mn_V J) (hS : rr_S (J 1 1) (J 1 2) f (s.1 96)) (hG : gp_J J f) (hH : rh_H (s.1 96) H) (hh : mi_H J H) (hX : xr_X X T (s.1 96 8)) (h0 : rm_0 T s) (hX1 : ∀ N, 0 ≤ X.1 N ∧ X.1 N ≤ 2)
    (k : f 37 ≠ 999 → ∀ t : lf_Z, mr_f s t → rr_S (J 1 1) (J 1 2) (mn_min J X f) (t.1 96) → rh_H (t.1 96) (rr_K (J 1 2, J 1 1, f) H) → Q true t) (k0 : f 37 = 999 → Q false s) : fw_259 Q s := by
  have w1 := hW.2.1
  have w2 := hW.2.2.1
  unfold fw_259
  rw [hS.1]
  intro _
  refine ⟨fun c => ?_, fun c => k0 (Classical.not_not.mp c)⟩
  refine fl_244 (H := H) (f := f) (by rw [hL.2.1, hL.2.2.1]; exact hS) hH.1 hh.1 hH.2 (mi_w hW hh) (by rw [hL.2.1]; exact w1.2) (by rw [hL.2.1]; exact w1.1) (by rw [hL.2.2.1]; exact w2.2) (fun t tf te t9 tH tS => ?_)
  rw [hL.2.1, hL.2.2.1] at t9 tH tS
  have tF := mr_k tf te
  refine fl_260 (mr_L hL hW tF) hW hB hV tS hG.1 (xr_Xm hX tF) (rm_0m h0 tF) hX1 (fun y yf yS => ?_)
  exact k c y (mr_ft tF (mr_m yf)) yS (rh_Hm (mi_K hW hG hh) hW ⟨t9, tH⟩ yf)
/-- minutes of the reference -/
theorem fl_258 {Q : Bool → lf_Z → Prop} (hL : rr_L J (s.1 96)) (hW : mn_W J) (hB : mn_B J) (hV : mn_V J) (hS : rr_S (J 1 1) (J 1 2) f (s.1 96)) (hG : gp_J J f) (hH : rh_H (s.1 96) H) (hh : mi_H J H) (hX : xr_X X T (s.1 96 8)) (h0 : rm_0 T s) (hX1 : ∀ N, 0 ≤ X.1 N ∧ X.1 N ≤ 2)
    (k : ∀ (m : Nat) (t : lf_Z), (m : Int) ≤ max 0 a → (f 37 + m ≤ 999) → mr_f s t → rr_S (J 1 1) (J 1 2) (mi_r J X m (f, H)).1 (t.1 96) → rh_H (t.1 96) (mi_r J X m (f, H)).2 → gp_J J (mi_r J X m (f, H)).1 → mi_H J (mi_r J X m (f, H)).2 → ((m : Int) = max 0 a → Q true t) ∧ ((m : Int) < a → f 37 + m = 999 → Q false t)) : fw_258 a Q s := by
  unfold fw_258
  refine ⟨fun i u => ∃ m : Nat, i = m ∧ (m : Int) ≤ max 0 a ∧ f 37 + m ≤ 999 ∧ mr_f s u ∧ rr_S (J 1 1) (J 1 2) (mi_r J X m (f, H)).1 (u.1 96) ∧ rh_H (u.1 96) (mi_r J X m (f, H)).2 ∧ gp_J J (mi_r J X m (f, H)).1 ∧ mi_H J (mi_r J X m (f, H)).2 ∧ (mi_r J X m (f, H)).1 37 = f 37 + m, ?_, ⟨0, rfl, by omega, by have := hG.2.2.2; omega, mr_fr, hS, hH, hG, hh, (Int.add_zero _).symm⟩⟩
  intro i u ⟨m, ei, m1, m9, uf, uS, uH, uG, uh, u37⟩
  subst ei
  have K := k m u m1 m9 uf uS uH uG uh
  unfold fw_258_p2
  intro _ _
  refine ⟨fun c => K.1 (by omega), fun c => ?_⟩
  refine fl_259 (mr_L hL hW uf) hW hB hV uS uG uH uh (xr_Xm hX uf) (rm_0m h0 uf) hX1 (fun d t tf tS tH => ⟨fun _ => ?_, fun q => (by cases q)⟩) (fun d => ⟨fun q => (by cases q), fun _ => K.2 (by omega) (by omega)⟩)
  have r := gp_Jm (X := X) hW uG (by omega)
  refine ⟨m + 1, by omega, by omega, by omega, mr_ft uf tf, ?_, ?_, ?_, ?_, ?_⟩
  · rw [mi_rS]; exact tS
  · rw [mi_rS]; exact tH
  · rw [mi_rS]; exact r.1
  · rw [mi_rS]; exact mi_K hW uG uh
  · rw [mi_rS]
    show mn_min J X (mi_r J X m (f, H)).1 37 = _
    rw [r.2, u37]; omega
/-- the harm at the first k stretches -/
def mi_al (f : Int → Int) : Nat → Int
  | 0 => 0
  | k + 1 => lf_w (mi_al f k + f (24 + (k : Int)))
theorem mi_al0 : ∀ (k n : Nat), n ≤ k → (∀ i : Int, n ≤ i → i < k → f (24 + i) = 0) → mi_al f k = mi_al f n := by
  intro k
  induction k with
  | zero => intro n h _; have : n = 0 := by omega
            rw [this]
  | succ k ih =>
    intro n h z
    by_cases e : n = k + 1
    · rw [e]
    · show lf_w (mi_al f k + f (24 + (k : Int))) = _
      rw [z k (by omega) (by omega), Int.add_zero, ih n (by omega) (fun i i0 i1 => z i i0 (by omega))]
      have rng : ∀ n : Nat, lf_w (mi_al f n) = mi_al f n := by
        intro n
        cases n with
        | zero => rfl
        | succ n =>
          show lf_w (lf_w (mi_al f n + f (24 + (n : Int)))) = _
          have := lf_ww (c := 0) (d := mi_al f n + f (24 + (n : Int)))
          rw [Int.zero_add, Int.zero_add] at this
          exact this
      exact rng n
theorem fl_97 {Q : Int → lf_Z → Prop} (hS : rc_S s.1 f) (h : Q (mi_al f 12) s) : fw_97 Q s := by
  unfold fw_97 fw_65b
  refine ⟨fun x i u => u = s ∧ ∃ n : Nat, i = n ∧ n ≤ 12 ∧ x = mi_al f n, ?_, ⟨rfl, 0, rfl, by decide, rfl⟩⟩
  intro x i u ⟨eu, n, ei, n1, ex⟩
  subst ei
  rw [eu, ex]
  unfold fw_65b_p10
  intro _ _
  refine ⟨fun c => ?_, fun c _ => ⟨rfl, n + 1, by omega, by omega, ?_⟩⟩
  · have : n = 12 := by omega
    rw [this]; exact h
  · rw [hS.2.2.1 n (by omega) (by omega)]; rfl
theorem fl_279 {n1 n2 : Int} {Q : Int → lf_Z → Prop} (hL : rr_L J (s.1 96)) (hW : mn_W J) (hS : rr_S n1 n2 f (s.1 96)) (h : Q (mi_al f (J 1 0).toNat) s) : fw_279 Q s := by
  have w0 := hW.1
  unfold fw_279
  refine ⟨fun x i u => u = s ∧ ∃ n : Nat, i = n ∧ (n : Int) ≤ J 1 0 ∧ x = mi_al f n, ?_, ⟨rfl, 0, rfl, w0.1, rfl⟩⟩
  intro x i u ⟨eu, n, ei, n1, ex⟩
  subst ei
  rw [eu, ex]
  unfold fw_279_p4
  rw [hL.1]
  intro _ _
  refine ⟨fun c => ?_, fun c => fl_246 ⟨rfl, n + 1, by omega, by omega, ?_⟩⟩
  · have : n = (J 1 0).toNat := by omega
    rw [← this] at h; exact h
  · rw [hS.2.2.2.2.1 n (by omega) (by omega)]; rfl
/-- the harm in all, of both -/
theorem mi_alE (hW : mn_W J) (hG : gp_J J f) : mi_al f (J 1 0).toNat = mi_al f 12 := by
  have w0 := hW.1
  exact (mi_al0 12 (J 1 0).toNat (by omega) (fun i i0 i1 => hG.2.1.1 i (by omega) i1)).symm
/-- what minute does, and answers -/
def mi_ok (f : Int → Int) (a : Int) : Prop := 1 ≤ a ∧ a ≤ 60 ∧ f 37 + a ≤ 999
/-- minute of the class -/
theorem fl_70 {Q : Int → lf_Z → Prop} (hJ : gc_J J s) (hW : mn_W J) (hB : mn_B J) (hV : mn_V J) (hS : rc_S s.1 f) (hG : gp_J J f) (hH : rc_H s.1 H) (hX : xc_X X I s.2.2) (hXB : ∀ N, 0 ≤ X.2 N ∧ X.2 N ≤ 10) (hX1 : ∀ N, 0 ≤ X.1 N ∧ X.1 N ≤ 2) (hI : ∀ c : Nat, 35 ≤ c → c < 63 → s.1 c = I c)
    (k0 : ¬ mi_ok f a → Q (-1) s) (k : mi_ok f a → ∀ t : lf_Z, mc_f s t → rc_S t.1 (mi_r J X a.toNat (f, H)).1 → rc_H t.1 (mi_r J X a.toNat (f, H)).2 → gp_J J (mi_r J X a.toNat (f, H)).1 → Q (mi_al (mi_r J X a.toNat (f, H)).1 12) t) : fw_70 a Q s := by
  have g := hG.2.2
  unfold fw_70
  refine fl_15 ⟨fun z => k0 (fun q => ?_), fun z => ?_⟩
  · rw [decide_eq_true q.1, decide_eq_true q.2.1] at z; cases z
  · rw [Bool.and_eq_true, decide_eq_true_eq, decide_eq_true_eq] at z
    rw [hS.2.2.2.2.1, tr_w (by omega)]
    refine ⟨fun c => ?_, fun c => k0 (fun q => c q.2.2)⟩
    have ok : mi_ok f a := ⟨z.1, z.2, c⟩
    refine fl_71 hJ hW hB hV hS hG hH hX hXB hX1 hI (fun m t m1 m9 tf tS tH tG => ⟨fun e => ?_, fun e1 e2 => by omega⟩)
    have em : m = a.toNat := by omega
    rw [em] at tS tH tG
    exact fl_97 tS (k ok t tf tS tH tG)
/-- minute of the reference -/
theorem fl_257 {Q : Int → lf_Z → Prop} (hL : rr_L J (s.1 96)) (hW : mn_W J) (hB : mn_B J) (hV : mn_V J) (hS : rr_S (J 1 1) (J 1 2) f (s.1 96)) (hG : gp_J J f) (hH : rh_H (s.1 96) H) (hh : mi_H J H) (hX : xr_X X T (s.1 96 8)) (h0 : rm_0 T s) (hX1 : ∀ N, 0 ≤ X.1 N ∧ X.1 N ≤ 2)
    (k0 : ¬ mi_ok f a → Q (-1) s) (k : mi_ok f a → ∀ t : lf_Z, mr_f s t → rr_S (J 1 1) (J 1 2) (mi_r J X a.toNat (f, H)).1 (t.1 96) → rh_H (t.1 96) (mi_r J X a.toNat (f, H)).2 → gp_J J (mi_r J X a.toNat (f, H)).1 → mi_H J (mi_r J X a.toNat (f, H)).2 → Q (mi_al (mi_r J X a.toNat (f, H)).1 12) t) : fw_257 a Q s := by
  have g := hG.2.2
  unfold fw_257
  refine fl_183 ⟨fun z => k0 (fun q => ?_), fun z => ?_⟩
  · rw [decide_eq_true q.1, decide_eq_true q.2.1] at z; cases z
  · rw [Bool.and_eq_true, decide_eq_true_eq, decide_eq_true_eq] at z
    rw [hS.1, tr_w (by omega)]
    refine ⟨fun c => k0 (fun q => by have := q.2.2; omega), fun c => ?_⟩
    have ok : mi_ok f a := ⟨z.1, z.2, by omega⟩
    refine fl_258 hL hW hB hV hS hG hH hh hX h0 hX1 (fun m t m1 m9 tf tS tH tG th => ⟨fun e => ⟨fun q => (by cases q), fun _ => ?_⟩, fun e1 e2 => by omega⟩)
    have em : m = a.toNat := by omega
    rw [em] at tS tH tG th
    refine fl_279 (mr_L hL hW tf) hW tS ?_
    rw [mi_alE hW tG]
    exact k ok t tf tS tH tG th
end MJ
/-! stray, send, gate, split: both sides -/
section SG
variable {J K : Nat → Int → Int} {s t u : lf_Z} {f g T A B : Int → Int} {X : mn_X} {I : Nat → Int → Int} {a b c p x j n1 n2 : Int} {H : List rr_H}
theorem mn_leB {P : Int → Bool} : ∀ (k : Nat) (v : Int), mn_le P k v = -1 ∨ (v ≤ mn_le P k v ∧ mn_le P k v < v + k ∧ P (mn_le P k v) = true) := by
  intro k
  induction k with
  | zero => intro v; exact Or.inl rfl
  | succ k ih =>
    intro v
    have e : mn_le P (k + 1) v = if P v = true then v else mn_le P k (v + 1) := rfl
    rw [e]
    by_cases h : P v = true
    · rw [if_pos h]; exact Or.inr ⟨Int.le_refl v, by omega, h⟩
    · rw [if_neg h]
      rcases ih (v + 1) with q | ⟨q1, q2, q3⟩
      · exact Or.inl q
      · exact Or.inr ⟨by omega, by omega, q3⟩
/-- the lowest bunch that isn't there -/
def sg_b (f : Int → Int) : Int := mn_le (fun b => decide (f (3 * b) = 0)) 4 0
theorem sg_bB : sg_b f = -1 ∨ (0 ≤ sg_b f ∧ sg_b f < 4 ∧ f (3 * sg_b f) = 0) := by
  rcases mn_leB (P := fun b => decide (f (3 * b) = 0)) 4 0 with q | ⟨q1, q2, q3⟩
  · exact Or.inl q
  · exact Or.inr ⟨q1, q2, of_decide_eq_true q3⟩
theorem fl_66 {Q : Int → lf_Z → Prop} (hS : rc_S s.1 f) (h : Q (sg_b f) s) : fw_66 Q s := by
  unfold fw_66
  refine ⟨fun i u => u = s ∧ 0 ≤ i ∧ i ≤ 4 ∧ mn_le (fun b => decide (f (3 * b) = 0)) (4 - i).toNat i = sg_b f, ?_, ⟨rfl, Int.le_refl 0, by decide, rfl⟩⟩
  intro i u ⟨eu, i0, i4, e⟩
  rw [eu]
  unfold fw_66_p2
  intro _
  refine ⟨fun d => ?_, fun d _ _ => ?_⟩
  · have : i = 4 := by omega
    subst this
    have e : -1 = sg_b f := e
    rw [e]; exact h
  · rw [show (4 - i).toNat = (4 - (i + 1)).toNat + 1 by omega] at e
    have e : (if decide (f (3 * i) = 0) = true then i else mn_le (fun b => decide (f (3 * b) = 0)) (4 - (i + 1)).toNat (i + 1)) = sg_b f := e
    rw [(hS.1 i i0 (by omega)).1]
    refine ⟨fun q => ?_, fun q => ?_⟩
    · rw [if_neg (fun w => q (of_decide_eq_true w))] at e
      exact ⟨rfl, by omega, by omega, e⟩
    · rw [if_pos (decide_eq_true (Classical.not_not.mp q))] at e
      rw [e]; exact h
theorem fl_241 {Q : Int → lf_Z → Prop} (hS : rr_S n1 n2 f (s.1 96)) (h : Q (sg_b f) s) : fw_241 Q s := by
  unfold fw_241
  refine ⟨fun i u => u = s ∧ 0 ≤ i ∧ i ≤ 4 ∧ mn_le (fun b => decide (f (3 * b) = 0)) (4 - i).toNat i = sg_b f, ?_, ⟨rfl, Int.le_refl 0, by decide, rfl⟩⟩
  intro i u ⟨eu, i0, i4, e⟩
  rw [eu]
  unfold fw_241_p2
  intro _
  refine ⟨fun d => ?_, fun d => fl_242 ?_⟩
  · have : i = 4 := by omega
    subst this
    have e : -1 = sg_b f := e
    rw [e]; exact h
  · rw [show (4 - i).toNat = (4 - (i + 1)).toNat + 1 by omega] at e
    have e : (if decide (f (3 * i) = 0) = true then i else mn_le (fun b => decide (f (3 * b) = 0)) (4 - (i + 1)).toNat (i + 1)) = sg_b f := e
    rw [(hS.2.2.1 i i0 (by omega)).1]
    intro _
    refine ⟨fun q => ?_, fun q => ?_⟩
    · rw [if_neg (fun w => q (of_decide_eq_true w))] at e
      exact ⟨rfl, by omega, by omega, e⟩
    · rw [if_pos (decide_eq_true (Classical.not_not.mp q))] at e
      rw [e]; exact h
/-- how many in all -/
def sg_n (f : Int → Int) : Nat → Int
  | 0 => 0
  | k + 1 => sg_n f k + f (3 * (k : Int))
theorem sg_n4 : sg_n f 4 = f 0 + f 3 + f 6 + f 9 := by
  show 0 + f 0 + f 3 + f 6 + f 9 = _
  omega
theorem sg_nB (h : gp_I J f) : ∀ k : Nat, k ≤ 4 → 0 ≤ sg_n f k ∧ sg_n f k ≤ 24 * k := by
  intro k
  induction k with
  | zero => intro _; exact ⟨Int.le_refl 0, Int.le_refl 0⟩
  | succ k ih =>
    intro hk
    have i := ih (by omega)
    have z := gp_sz h (b := k) (by omega) (by omega)
    show 0 ≤ sg_n f k + f (3 * (k : Int)) ∧ sg_n f k + f (3 * (k : Int)) ≤ 24 * ((k + 1 : Nat) : Int)
    omega
theorem fl_64 {Q : Int → lf_Z → Prop} (hS : rc_S s.1 f) (hG : gp_I J f) (h : Q (sg_n f 4) s) : fw_64 Q s := by
  unfold fw_64 fw_65
  refine ⟨fun x i u => u = s ∧ ∃ n : Nat, i = n ∧ n ≤ 4 ∧ x = sg_n f n, ?_, ⟨rfl, 0, rfl, by decide, rfl⟩⟩
  intro x i u ⟨eu, n, ei, n1, ex⟩
  subst ei
  rw [eu, ex]
  unfold fw_65_p10
  intro _ _
  refine ⟨fun c => ?_, fun c _ => ⟨rfl, n + 1, by omega, by omega, ?_⟩⟩
  · have : n = 4 := by omega
    rw [this]; exact h
  · have B := sg_nB hG n n1
    have z := gp_sz hG (b := n) (by omega) (by omega)
    rw [(hS.1 n (by omega) (by omega)).1, tr_w (by omega)]; rfl
theorem fl_243 {Q : Int → lf_Z → Prop} (hS : rr_S n1 n2 f (s.1 96)) (h : Q (sg_n f 4) s) : fw_243 Q s := by
  unfold fw_243
  refine ⟨fun x i u => u = s ∧ ∃ n : Nat, i = n ∧ n ≤ 4 ∧ x = sg_n f n, ?_, ⟨rfl, 0, rfl, by decide, rfl⟩⟩
  intro x i u ⟨eu, n, ei, n1, ex⟩
  subst ei
  rw [eu, ex]
  unfold fw_243_p4
  intro _
  refine ⟨fun c => ?_, fun c => fl_242 ⟨rfl, n + 1, by omega, by omega, ?_⟩⟩
  · have : n = 4 := by omega
    rw [this]; exact h
  · rw [(hS.2.2.1 n (by omega) (by omega)).1]; rfl
/-- a bunch's three cells -/
def rm_b (f : Int → Int) (b z v w : Int) : Int → Int := ds_u1 (ds_u1 (ds_u1 f (3 * b) z) (3 * b + 1) v) (3 * b + 2) w
theorem rm_bo {z v w : Int} (h : j < 3 * b ∨ 3 * b + 2 < j) : rm_b f b z v w j = f j := (if_neg (by omega)).trans ((if_neg (by omega)).trans (if_neg (by omega)))
theorem rm_b0 {z v w : Int} : rm_b f b z v w (3 * b) = z := (if_neg (by omega)).trans ((if_neg (by omega)).trans (if_pos rfl))
theorem rm_b1 {z v w : Int} : rm_b f b z v w (3 * b + 1) = v := (if_neg (by omega)).trans (if_pos rfl)
theorem rm_b2 {z v w : Int} : rm_b f b z v w (3 * b + 2) = w := if_pos rfl
theorem rc_b {z v w : Int} (hS : rc_S s.1 f) (b0 : 0 ≤ b) (b1 : b < 4) : rc_S (lf_up (lf_up (lf_up s.1 16 b z) 17 b v) 18 b w) (rm_b f b z v w) := by
  obtain ⟨s1, s2, s3, s4, s5, s6⟩ := hS
  have x : ∀ (q : Nat) (j : Int), q ≠ 16 → q ≠ 17 → q ≠ 18 → (lf_up (lf_up (lf_up s.1 16 b z) 17 b v) 18 b w) q j = s.1 q j := fun q j h1 h2 h3 => (lf_up_c h3).trans ((lf_up_c h2).trans (lf_up_c h1))
  refine ⟨fun q q0 q1 => ?_, fun q q0 q1 => ?_, fun q q0 q1 => ?_, ?_, ?_, ?_⟩
  · by_cases y : q = b
    · subst y
      rw [rm_b0, rm_b1, rm_b2]
      exact ⟨(lf_up_c (by decide)).trans ((lf_up_c (by decide)).trans lf_up_s), (lf_up_c (by decide)).trans lf_up_s, lf_up_s⟩
    · rw [rm_bo (by omega), rm_bo (by omega), rm_bo (by omega), lf_up_i y, lf_up_c (show 18 ≠ 17 by decide), lf_up_c (show 18 ≠ 16 by decide), lf_up_c (show 17 ≠ 18 by decide), lf_up_i y, lf_up_c (show 17 ≠ 16 by decide), lf_up_c (show 16 ≠ 18 by decide), lf_up_c (show 16 ≠ 17 by decide), lf_up_i y]
      exact s1 q q0 q1
  · rw [x 19 _ (by decide) (by decide) (by decide), x 20 _ (by decide) (by decide) (by decide), rm_bo (by omega), rm_bo (by omega)]; exact s2 q q0 q1
  · rw [x 21 _ (by decide) (by decide) (by decide), rm_bo (by omega)]; exact s3 q q0 q1
  · rw [x 15 _ (by decide) (by decide) (by decide), rm_bo (by omega)]; exact s4
  · rw [x 15 _ (by decide) (by decide) (by decide), rm_bo (by omega)]; exact s5
  · rw [x 15 _ (by decide) (by decide) (by decide), rm_bo (by omega)]; exact s6
/-- the facts of a row with a bunch told anew -/
theorem gp_bn {z v w : Int} (hW : mn_W J) (h : gp_J J f) (b0 : 0 ≤ b) (b1 : b < 4) (hz : 0 ≤ z) (hs : f 0 + f 3 + f 6 + f 9 - f (3 * b) + z ≤ 24) (hv : 0 < z → (0 ≤ v ∧ v < J 1 0) ∧ -1 ≤ w ∧ w < J 1 0) : gp_J J (rm_b f b z v w) := by
  have w0 := hW.1
  have w2 := hW.2.2.1
  obtain ⟨⟨h1, h2, h3, h4⟩, h5, h6⟩ := h
  refine ⟨⟨fun q q0 q1 => ?_, fun q q0 q1 => ?_, ?_, ?_⟩, ⟨fun q q0 q1 => ?_, fun q q0 q1 => ?_⟩, ?_⟩
  · rw [rm_bo (by omega), rm_bo (by omega)]; exact h1 q q0 q1
  · unfold gp_b
    by_cases y : q = b
    · subst y
      rw [rm_b0, rm_b1, rm_b2]; exact hv
    · rw [rm_bo (by omega), rm_bo (by omega), rm_bo (by omega)]; exact h2 q q0 q1
  · rcases (show b = 0 ∨ b = 1 ∨ b = 2 ∨ b = 3 by omega) with e | e | e | e
    · subst e
      have hs : f 0 + f 3 + f 6 + f 9 - f 0 + z ≤ 24 := hs
      rw [show rm_b f 0 z v w 0 = z from rm_b0 (b := 0), rm_bo (by decide), rm_bo (by decide), rm_bo (by decide)]; omega
    · subst e
      have hs : f 0 + f 3 + f 6 + f 9 - f 3 + z ≤ 24 := hs
      rw [show rm_b f 1 z v w 3 = z from rm_b0 (b := 1), rm_bo (j := 0) (by decide), rm_bo (j := 6) (by decide), rm_bo (j := 9) (by decide)]; omega
    · subst e
      have hs : f 0 + f 3 + f 6 + f 9 - f 6 + z ≤ 24 := hs
      rw [show rm_b f 2 z v w 6 = z from rm_b0 (b := 2), rm_bo (j := 0) (by decide), rm_bo (j := 3) (by decide), rm_bo (j := 9) (by decide)]; omega
    · subst e
      have hs : f 0 + f 3 + f 6 + f 9 - f 9 + z ≤ 24 := hs
      rw [show rm_b f 3 z v w 9 = z from rm_b0 (b := 3), rm_bo (j := 0) (by decide), rm_bo (j := 3) (by decide), rm_bo (j := 6) (by decide)]; omega
  · rw [rm_bo (by omega)]; exact h4
  · rw [rm_bo (by omega)]; exact h5.1 q q0 q1
  · rw [rm_bo (by omega)]; exact h5.2 q q0 q1
  · rw [rm_bo (by omega)]; exact h6
/-- stray -/
def sy_ok (J : Nat → Int → Int) (f : Int → Int) (a b : Int) : Prop := (1 ≤ a ∧ a ≤ 24 - sg_n f 4) ∧ (0 ≤ b ∧ b < J 1 0) ∧ sg_b f ≠ -1
theorem fl_63 {Q : Int → lf_Z → Prop} (hJ : gc_J J s) (hS : rc_S s.1 f) (hG : gp_J J f) (hH : rc_H s.1 H)
    (k0 : ¬ sy_ok J f a b → Q (-1) s) (k : sy_ok J f a b → ∀ t : lf_Z, mc_f s t → rc_S t.1 (rm_b f (sg_b f) a b (-1)) → rc_H t.1 (rr_K (J 1 2, J 1 1, f) H) → Q (sg_b f) t) : fw_63 a b Q s := by
  have B := sg_nB hG.1 4 (Nat.le_refl 4)
  unfold fw_63
  refine fl_64 hS hG.1 ?_
  rw [tr_w (by omega)]
  refine fl_15 ⟨fun z => k0 (fun q => ?_), fun z => fl_18 ⟨fun z2 => fl_66 hS ?_, fun z2 => k0 (fun q => ?_)⟩⟩
  · rw [decide_eq_true q.1.1, decide_eq_true q.1.2] at z; cases z
  · rw [Bool.and_eq_true, decide_eq_true_eq, decide_eq_true_eq] at z
    rw [Bool.and_eq_true, decide_eq_true_eq, decide_eq_true_eq, hJ 1 (by omega)] at z2
    intro _
    refine ⟨fun c => ?_, fun c => ?_⟩
    · rw [c]; exact k0 (fun q => q.2.2 c)
    · have sB := sg_bB.resolve_left c
      rw [hJ 1 (by omega)]
      refine fl_67 (w := J 1 1) hS hH (fun t tf tH => fl_69 ?_)
      have tS := rc_Sf hS tf
      refine k ⟨z, z2, c⟩ _ (mc_ft (mc_k tf) (mc_g (rc_gu (rc_gu (rc_gu rc_gr (by omega)) (by omega)) (by omega)))) (rc_b tS sB.1 sB.2.1) ?_
      exact rc_Hv tH (mv_g (rc_gu (rc_gu (rc_gu rc_gr (by omega)) (by omega)) (by omega)))
  · rw [hJ 1 (by omega), decide_eq_true q.2.1.1, decide_eq_true q.2.1.2] at z2; cases z2
/-- the reference: a step is kept -/
theorem fl_244j {Q : lf_Z → Prop} (hL : rr_L J (s.1 96)) (hW : mn_W J) (hS : rr_S (J 1 1) (J 1 2) f (s.1 96)) (hH : rh_H (s.1 96) H) (hh : mi_H J H)
    (k : ∀ t : lf_Z, mr_f s t → rr_f s t → rr_S (J 1 1) (J 1 2) f (t.1 96) → rh_H (t.1 96) (rr_K (J 1 2, J 1 1, f) H) → (∀ i : Int, i ≠ 9 → i < 278 → t.1 96 i = s.1 96 i) → Q t) : fw_244 Q s := by
  have w1 := hW.2.1
  have w2 := hW.2.2.1
  refine fl_244 (H := H) (f := f) (by rw [hL.2.1, hL.2.2.1]; exact hS) hH.1 hh.1 hH.2 (mi_w hW hh) (by rw [hL.2.1]; exact w1.2) (by rw [hL.2.1]; exact w1.1) (by rw [hL.2.2.1]; exact w2.2) (fun t tf te t9 tH tS => ?_)
  rw [hL.2.1, hL.2.2.1] at t9 tH tS
  exact k t (mr_k tf te) tf tS ⟨t9, tH⟩ te
theorem rh_Hr (hh : mi_H J H) (hW : mn_W J) (h : rh_H (s.1 96) H) (e9 : t.1 96 9 = s.1 96 9) (e : ∀ i : Int, 278 ≤ i → t.1 96 i = s.1 96 i) : rh_H (t.1 96) H := ⟨e9.trans h.1, rr_hsC H (mi_w hW hh) (fun i i0 _ => e i i0) h.2⟩
theorem mr_b {v w z : Int} (b0 : 0 ≤ b) (b1 : b < 4) (tc : ∀ c : Nat, c ≠ 96 → t.1 c = s.1 c) (t2 : t.2 = s.2) (tj : ∀ j : Int, ¬ (114 + 3 * b ≤ j ∧ j ≤ 114 + 3 * b + 2) → t.1 96 j = s.1 96 j) : rm_f s t := ⟨fun c a _ _ _ => tc c a, fun i hi => tj i (fun q => hi (Or.inr (Or.inr (Or.inl ⟨by omega, by omega⟩)))), by rw [t2]⟩
theorem fl_240 {Q : Int → lf_Z → Prop} (hL : rr_L J (s.1 96)) (hW : mn_W J) (hS : rr_S (J 1 1) (J 1 2) f (s.1 96)) (hG : gp_J J f) (hH : rh_H (s.1 96) H) (hh : mi_H J H)
    (k0 : ¬ sy_ok J f a b → Q (-1) s) (k : sy_ok J f a b → ∀ t : lf_Z, mr_f s t → rr_S (J 1 1) (J 1 2) (rm_b f (sg_b f) a b (-1)) (t.1 96) → rh_H (t.1 96) (rr_K (J 1 2, J 1 1, f) H) → Q (sg_b f) t) : fw_240 a b Q s := by
  have w1 := hW.2.1
  have w2 := hW.2.2.1
  have B := sg_nB hG.1 4 (Nat.le_refl 4)
  unfold fw_240
  refine fl_241 hS (fl_183 ⟨fun z => k0 (fun q => ?_), fun z => ?_⟩)
  · have := q.1
    rw [decide_eq_true this.1, decide_eq_true (show a ≤ 24 by omega)] at z; cases z
  · rw [Bool.and_eq_true, decide_eq_true_eq, decide_eq_true_eq] at z
    unfold fw_185
    rw [hL.1]
    refine fl_183 ⟨fun z2 => k0 (fun q => ?_), fun z2 => fl_243 hS ?_⟩
    · have := q.2.1
      rw [decide_eq_true this.1, decide_eq_true (show b ≤ J 1 0 - 1 by omega)] at z2; cases z2
    · rw [Bool.and_eq_true, decide_eq_true_eq, decide_eq_true_eq] at z2
      intro _
      refine ⟨fun c => k0 (fun q => by have := q.1; omega), fun c _ => ⟨fun d => ?_, fun d => k0 (fun q => ?_)⟩⟩
      · have d' : sg_b f ≠ -1 := by omega
        have sB := sg_bB.resolve_left d'
        refine fl_244j hL hW hS hH hh (fun t tf tr tS tH te => fl_247 (fun y yc y2 yj y0 y1 y3 => ?_))
        have yf := mr_b (v := 0) (w := 0) (z := 0) sB.1 sB.2.1 yc y2 yj
        refine k ⟨⟨z.1, by omega⟩, ⟨z2.1, by omega⟩, d'⟩ y (mr_ft tf (mr_m yf)) ?_ (rh_Hr (mi_K hW hG hh) hW tH (yj 9 (by omega)) (fun i i0 => yj i (by omega)))
        exact rm_S tS w1.2 w2.2 sB.1 sB.2.1 (fun j hj => rm_bo (by omega)) yj (y0.trans rm_b0.symm) (fun _ => ⟨y1.trans rm_b1.symm, y3.trans rm_b2.symm⟩)
      · rcases sg_bB (f := f) with e | e
        · exact q.2.2 e
        · omega
theorem sy_J (hW : mn_W J) (h : gp_J J f) (ok : sy_ok J f a b) : gp_J J (rm_b f (sg_b f) a b (-1)) := by
  have sB := sg_bB.resolve_left ok.2.2
  have z := ok.1
  rw [sg_n4] at z
  have w0 := hW.1
  exact gp_bn hW h sB.1 sB.2.1 (by omega) (by rw [sB.2.2]; omega) (fun _ => ⟨ok.2.1, by omega, by omega⟩)
/-! send -/
def sd_ok (J : Nat → Int → Int) (f : Int → Int) (a b : Int) : Prop := (0 ≤ a ∧ a < J 1 2) ∧ (-1 ≤ b ∧ b < J 1 0) ∧ f (12 + 2 * a + 1) ≠ b
theorem rc_20 {v : Int} (hS : rc_S s.1 f) (p0 : 0 ≤ p) (p6 : p < 6) : rc_S (lf_up s.1 20 p v) (ds_u1 f (12 + 2 * p + 1) v) := by
  obtain ⟨s1, s2, s3, s4, s5, s6⟩ := hS
  have e : ∀ j : Int, j ≠ 12 + 2 * p + 1 → ds_u1 f (12 + 2 * p + 1) v j = f j := fun j hj => if_neg hj
  refine ⟨fun b b0 b1 => ?_, fun q q0 q1 => ⟨?_, ?_⟩, fun q q0 q1 => ?_, ?_, ?_, ?_⟩
  · rw [lf_up_c (by decide), lf_up_c (by decide), lf_up_c (by decide), e (3 * b) (by omega), e (3 * b + 1) (by omega), e (3 * b + 2) (by omega)]
    exact s1 b b0 b1
  · rw [lf_up_c (by decide), e (12 + 2 * q) (by omega)]; exact (s2 q q0 q1).1
  · by_cases y : q = p
    · rw [y, lf_up_s]; exact (if_pos rfl).symm
    · rw [lf_up_i y, e (12 + 2 * q + 1) (by omega)]; exact (s2 q q0 q1).2
  · rw [lf_up_c (by decide), e (24 + q) (by omega)]; exact s3 q q0 q1
  · rw [lf_up_c (by decide), e 36 (by omega)]; exact s4
  · rw [lf_up_c (by decide), e 37 (by omega)]; exact s5
  · rw [lf_up_c (by decide), e 38 (by omega)]; exact s6
theorem fl_98 {Q : Bool → lf_Z → Prop} (hJ : gc_J J s) (hW : mn_W J) (hS : rc_S s.1 f) (hH : rc_H s.1 H)
    (k0 : ¬ sd_ok J f a b → Q false s) (k : sd_ok J f a b → ∀ t : lf_Z, mc_f s t → rc_S t.1 (ds_u1 f (12 + 2 * a + 1) b) → rc_H t.1 (rr_K (J 1 2, J 1 1, f) H) → Q true t) : fw_98 a b Q s := by
  have w2 := hW.2.2.1
  unfold fw_98
  refine fl_99 ⟨fun z => k0 (fun q => ?_), fun z => fl_15 ⟨fun z2 => k0 (fun q => ?_), fun z2 _ => ?_⟩⟩
  · rw [hJ 1 (by omega), decide_eq_true q.1.1, decide_eq_true q.1.2] at z; cases z
  · have := q.2.1
    rw [hJ 1 (by omega), decide_eq_true this.1, decide_eq_true (show b ≤ J 1 0 - 1 by omega)] at z2; cases z2
  · rw [Bool.and_eq_true, decide_eq_true_eq, decide_eq_true_eq, hJ 1 (by omega)] at z
    rw [Bool.and_eq_true, decide_eq_true_eq, decide_eq_true_eq, hJ 1 (by omega)] at z2
    rw [(hS.2.1 a z.1 (by omega)).2, hJ 1 (by omega)]
    intro _ _
    refine ⟨fun c => ?_, fun c => k0 (fun q => c q.2.2)⟩
    refine fl_67 (w := J 1 1) hS hH (fun t tf tH => ?_)
    exact k ⟨z, ⟨z2.1, by omega⟩, c⟩ _ (mc_ft (mc_k tf) (mc_g (rc_gu rc_gr (by omega)))) (rc_20 (rc_Sf hS tf) z.1 (by omega)) (rc_Hv tH (mv_g (rc_gu rc_gr (by omega))))
theorem gr_se {v : Int} (hS : rr_S n1 (J 1 2) f A) (p0 : 0 ≤ p) (p1 : p < J 1 2) (h16 : n1 ≤ 16) (h6 : J 1 2 ≤ 6) (eB : ∀ j : Int, j ≠ 126 + 6 * p + 4 → B j = A j) (e4 : B (126 + 6 * p + 4) = v) : rr_S n1 (J 1 2) (ds_u1 f (12 + 2 * p + 1) v) B := by
  obtain ⟨s1, s2, s3, s4, s5, s6⟩ := hS
  have e : ∀ j : Int, j ≠ 12 + 2 * p + 1 → ds_u1 f (12 + 2 * p + 1) v j = f j := fun j hj => if_neg hj
  refine ⟨?_, ?_, fun b b0 b1 => ?_, fun q q0 q1 => ⟨?_, ?_⟩, fun q q0 q1 => ?_, fun w w0 w1 => ?_⟩
  · rw [eB 3 (by omega), e 37 (by omega)]; exact s1
  · rw [eB 6 (by omega), e 38 (by omega)]; exact s2
  · rw [eB (114 + 3 * b) (by omega), eB (114 + 3 * b + 1) (by omega), eB (114 + 3 * b + 2) (by omega), e (3 * b) (by omega), e (3 * b + 1) (by omega), e (3 * b + 2) (by omega)]; exact s3 b b0 b1
  · rw [eB (126 + 6 * q + 3) (by omega), e (12 + 2 * q) (by omega)]; exact (s4 q q0 q1).1
  · by_cases y : q = p
    · rw [y]; exact e4.trans (if_pos rfl).symm
    · rw [eB (126 + 6 * q + 4) (by omega), e (12 + 2 * q + 1) (by omega)]; exact (s4 q q0 q1).2
  · rw [eB (14 + 3 * q + 2) (by omega), e (24 + q) (by omega)]; exact s5 q q0 q1
  · rw [eB (50 + 4 * w + 3) (by omega), e 36 (by omega)]; exact s6 w w0 w1
theorem fl_248 {Q : Bool → lf_Z → Prop} (hL : rr_L J (s.1 96)) (hW : mn_W J) (hS : rr_S (J 1 1) (J 1 2) f (s.1 96)) (hG : gp_J J f) (hH : rh_H (s.1 96) H) (hh : mi_H J H)
    (k0 : ¬ sd_ok J f a b → Q false s) (k : sd_ok J f a b → ∀ t : lf_Z, mr_f s t → rr_S (J 1 1) (J 1 2) (ds_u1 f (12 + 2 * a + 1) b) (t.1 96) → rh_H (t.1 96) (rr_K (J 1 2, J 1 1, f) H) → Q true t) : fw_248 a b Q s := by
  have w0 := hW.1
  have w1 := hW.2.1
  have w2 := hW.2.2.1
  unfold fw_248 fw_249
  rw [hL.2.2.1]
  have p21 : (0 ≤ a ∧ a < J 1 2) → (-1 ≤ b ∧ b < J 1 0) → fw_248_p21 Q a b s := by
    intro ha hb
    unfold fw_248_p21
    refine fl_239b ?_
    rw [(hS.2.2.2.1 a ha.1 ha.2).2]
    intro _ _
    refine ⟨fun c => ?_, fun c => k0 (fun q => c q.2.2)⟩
    refine fl_244j hL hW hS hH hh (fun t tf tr tS tH te => fl_191e ?_)
    have e : ∀ j : Int, j ≠ 126 + 6 * a + 4 → ((lf_up t.1 96 (126 + 6 * a + 4) b, t.2.1, t.2.2) : lf_Z).1 96 j = t.1 96 j := fun j hj => zu_i hj
    refine k ⟨ha, hb, c⟩ _ (mr_ft tf (mr_m (rm_u (Or.inr (Or.inr (Or.inr (Or.inl ⟨by omega, by omega, by omega⟩))))))) (gr_se tS ha.1 ha.2 w1.2 w2.2 e zu_s) (rh_Hr (mi_K hW hG hh) hW tH (e 9 (by omega)) (fun i i0 => e i (by omega)))
  refine fl_183 ⟨fun z => k0 (fun q => ?_), fun z _ => ?_⟩
  · have := q.1
    rw [decide_eq_true this.1, decide_eq_true (show a ≤ J 1 2 - 1 by omega)] at z; cases z
  · rw [Bool.and_eq_true, decide_eq_true_eq, decide_eq_true_eq] at z
    refine ⟨fun c => p21 ⟨z.1, by omega⟩ (by omega), fun c => ?_⟩
    unfold fw_185
    rw [hL.1]
    refine fl_183 ⟨fun z2 => k0 (fun q => ?_), fun z2 => ?_⟩
    · have := q.2.1
      rw [decide_eq_true (show 0 ≤ b by omega), decide_eq_true (show b ≤ J 1 0 - 1 by omega)] at z2; cases z2
    · rw [Bool.and_eq_true, decide_eq_true_eq, decide_eq_true_eq] at z2
      exact p21 ⟨z.1, by omega⟩ (by omega)
theorem sd_J (hW : mn_W J) (h : gp_J J f) (ok : sd_ok J f a b) : gp_J J (ds_u1 f (12 + 2 * a + 1) b) := by
  have w2 := hW.2.2.1
  obtain ⟨⟨h1, h2, h3, h4⟩, h5, h6⟩ := h
  obtain ⟨ha, hb, _⟩ := ok
  have e : ∀ j : Int, j ≠ 12 + 2 * a + 1 → ds_u1 f (12 + 2 * a + 1) b j = f j := fun j hj => if_neg hj
  have e1 : ds_u1 f (12 + 2 * a + 1) b (12 + 2 * a + 1) = b := if_pos rfl
  generalize ds_u1 f (12 + 2 * a + 1) b = g at *
  refine ⟨⟨fun q q0 q1 => ?_, fun q q0 q1 => ?_, ?_, ?_⟩, ⟨fun q q0 q1 => ?_, fun q q0 q1 => ?_⟩, ?_⟩
  · rw [e (12 + 2 * q) (by omega)]
    refine ⟨(h1 q q0 q1).1, ?_⟩
    by_cases y : q = a
    · rw [y, e1]; exact hb
    · rw [e (12 + 2 * q + 1) (by omega)]; exact (h1 q q0 q1).2
  · unfold gp_b
    rw [e (3 * q) (by omega), e (3 * q + 1) (by omega), e (3 * q + 2) (by omega)]; exact h2 q q0 q1
  · rw [e 0 (by omega), e 3 (by omega), e 6 (by omega), e 9 (by omega)]; exact h3
  · rw [e 38 (by omega)]; exact h4
  · rw [e (24 + q) (by omega)]; exact h5.1 q q0 q1
  · rw [e 36 (by omega)]; exact h5.2 q q0 q1
  · rw [e 37 (by omega)]; exact h6
end SG
/-! gate, split: both sides -/
section GT
variable {J K : Nat → Int → Int} {s t u : lf_Z} {f g T A B : Int → Int} {X : mn_X} {I : Nat → Int → Int} {a b c p x j n1 n2 : Int} {H : List rr_H}
def gt_ok (J : Nat → Int → Int) (f : Int → Int) (a b : Int) : Prop := (0 ≤ a ∧ a < J 1 1) ∧ J 6 a = 0 ∧ lf_b (!(bt_t (f 36) a)) ≠ b
def gt_f (f : Int → Int) (a : Int) : Int → Int := ds_u1 f 36 (lf_xor (f 36) (lf_shl 1 a))
theorem gt_o (h : j ≠ 36) : gt_f f a j = f j := if_neg h
theorem gt_36 : gt_f f a 36 = lf_xor (f 36) (lf_shl 1 a) := by unfold gt_f ds_u1; rw [if_pos rfl]
theorem rc_36 (hS : rc_S s.1 f) : rc_S (lf_up s.1 15 6 (lf_xor (s.1 15 6) (lf_shl 1 a))) (gt_f f a) := by
  obtain ⟨s1, s2, s3, s4, s5, s6⟩ := hS
  refine ⟨fun b b0 b1 => ?_, fun q q0 q1 => ?_, fun q q0 q1 => ?_, ?_, ?_, ?_⟩
  · rw [lf_up_c (by decide), lf_up_c (by decide), lf_up_c (by decide), gt_o (by omega), gt_o (by omega), gt_o (by omega)]; exact s1 b b0 b1
  · rw [lf_up_c (by decide), lf_up_c (by decide), gt_o (by omega), gt_o (by omega)]; exact s2 q q0 q1
  · rw [lf_up_c (by decide), gt_o (by omega)]; exact s3 q q0 q1
  · rw [lf_up_s, gt_36, s4]
  · rw [lf_up_i (by decide), gt_o (by decide)]; exact s5
  · rw [lf_up_i (by decide), gt_o (by decide)]; exact s6
theorem fl_100 {Q : Bool → lf_Z → Prop} (hJ : gc_J J s) (hW : mn_W J) (hS : rc_S s.1 f) (hH : rc_H s.1 H)
    (k0 : ¬ gt_ok J f a b → Q false s) (k : gt_ok J f a b → ∀ t : lf_Z, mc_f s t → rc_S t.1 (gt_f f a) → rc_H t.1 (rr_K (J 1 2, J 1 1, f) H) → Q true t) : fw_100 a b Q s := by
  have w1 := hW.2.1
  unfold fw_100
  refine fl_89 ⟨fun z => k0 (fun q => ?_), fun z => ?_⟩
  · rw [hJ 1 (by omega), hJ 6 (by omega), decide_eq_true q.1.1, decide_eq_true q.1.2, decide_eq_true q.2.1] at z; cases z
  · rw [hJ 1 (by omega), hJ 6 (by omega), Bool.and_eq_true, Bool.and_eq_true, decide_eq_true_eq, decide_eq_true_eq, decide_eq_true_eq] at z
    refine fl_90 z.1.1 (by omega) ?_
    rw [hS.2.2.2.1]
    intro _
    refine ⟨fun c => ?_, fun c => k0 (fun q => c q.2.2)⟩
    rw [hJ 1 (by omega)]
    refine fl_67 (w := J 1 1) hS hH (fun t tf tH => ?_)
    unfold fw_101
    exact k ⟨z.1, z.2, c⟩ _ (mc_ft (mc_k tf) (mc_g (rc_g15 rc_gr (by omega)))) (rc_36 (rc_Sf hS tf)) (rc_Hv tH (mv_g (rc_g15 rc_gr (by omega))))
theorem gt_S {v : Int} (hS : rr_S n1 n2 f A) (h16 : n1 ≤ 16) (h6 : n2 ≤ 6) (a0 : 0 ≤ a) (a1 : a < n1) (eB : ∀ j : Int, j ≠ 50 + 4 * a + 3 → B j = A j) (h : B (50 + 4 * a + 3) = (if bt_t (f 36) a = true then 1 else 0)) : rr_S n1 n2 (gt_f f a) B := by
  obtain ⟨s1, s2, s3, s4, s5, s6⟩ := hS
  refine ⟨?_, ?_, fun q q0 q1 => ?_, fun q q0 q1 => ?_, fun q q0 q1 => ?_, fun w w0 w1 => ?_⟩
  · rw [eB 3 (by omega), gt_o (by omega)]; exact s1
  · rw [eB 6 (by omega), gt_o (by omega)]; exact s2
  · rw [eB (114 + 3 * q) (by omega), eB (114 + 3 * q + 1) (by omega), eB (114 + 3 * q + 2) (by omega), gt_o (by omega), gt_o (by omega), gt_o (by omega)]; exact s3 q q0 q1
  · rw [eB (126 + 6 * q + 3) (by omega), eB (126 + 6 * q + 4) (by omega), gt_o (by omega), gt_o (by omega)]; exact s4 q q0 q1
  · rw [eB (14 + 3 * q + 2) (by omega), gt_o (by omega)]; exact s5 q q0 q1
  · unfold rr_op
    rw [gt_36, bt_Txor w0 (by omega) a0 (by omega)]
    by_cases y : w = a
    · rw [y, h, decide_eq_true rfl]
      cases bt_t (f 36) a with
      | true => rfl
      | false => rfl
    · rw [eB (50 + 4 * w + 3) (by omega), decide_eq_false y, Bool.xor_false]
      exact s6 w w0 w1
theorem fl_250 {Q : Bool → lf_Z → Prop} (hL : rr_L J (s.1 96)) (hW : mn_W J) (hB : mn_B J) (hS : rr_S (J 1 1) (J 1 2) f (s.1 96)) (hG : gp_J J f) (hH : rh_H (s.1 96) H) (hh : mi_H J H) (hb : b = 0 ∨ b = 1)
    (k0 : ¬ gt_ok J f a b → Q false s) (k : gt_ok J f a b → ∀ t : lf_Z, (∀ c : Nat, c ≠ 96 → t.1 c = s.1 c) → t.2 = s.2 → (∀ i : Int, i ≠ 50 + 4 * a + 3 → i ≠ 9 → i < 278 → t.1 96 i = s.1 96 i) → rr_S (J 1 1) (J 1 2) (gt_f f a) (t.1 96) → rh_H (t.1 96) (rr_K (J 1 2, J 1 1, f) H) → Q true t) : fw_250 a b Q s := by
  have w1 := hW.2.1
  have w2 := hW.2.2.1
  unfold fw_250 fw_251
  rw [hL.2.1]
  refine fl_183 ⟨fun z => k0 (fun q => ?_), fun z => ?_⟩
  · have := q.1
    rw [decide_eq_true this.1, decide_eq_true (show a ≤ J 1 1 - 1 by omega)] at z; cases z
  · rw [Bool.and_eq_true, decide_eq_true_eq, decide_eq_true_eq] at z
    have b6 := hB.1 a
    refine fl_252 hL z.1 (by omega) ⟨fun z2 => k0 (fun q => ?_), fun z2 => fl_245 ?_⟩
    · have z2 := of_decide_eq_true z2
      have := q.2.1
      omega
    · have z2 := of_decide_eq_false z2
      rw [hS.2.2.2.2.2 a z.1 (by omega)]
      have eo : decide (rr_op (f 36) a = 1) = !(bt_t (f 36) a) := by
        unfold rr_op
        cases bt_t (f 36) a with
        | true => rfl
        | false => rfl
      rw [eo]
      intro _
      refine ⟨fun c => ?_, fun c => k0 (fun q => c q.2.2)⟩
      have ok : gt_ok J f a b := ⟨⟨z.1, by omega⟩, by omega, c⟩
      refine fl_244j hL hW hS hH hh (fun t tf tr tS tH te => ?_)
      have fin : ∀ v : Int, v = (if bt_t (f 36) a = true then 1 else 0) → fw_250_p52 Q (50 + 4 * a + 3) v t := by
        intro v hv
        unfold fw_250_p52
        intro _
        have e : ∀ j : Int, j ≠ 50 + 4 * a + 3 → ((lf_up t.1 96 (50 + 4 * a + 3) v, t.2.1, t.2.2) : lf_Z).1 96 j = t.1 96 j := fun j hj => zu_i hj
        exact k ok _ (fun c hc => (zu_r hc).trans (tr.1 c hc)) tr.2 (fun i h1 h2 h3 => (e i h1).trans (te i h2 h3)) (gt_S (v := v) tS w1.2 w2.2 z.1 (by omega) e (zu_s.trans hv)) (rh_Hr (mi_K hW hG hh) hW tH (e 9 (by omega)) (fun i i0 => e i (by omega)))
      refine ⟨fun d => fin 0 ?_, fun d => fin 1 ?_⟩
      · rw [d] at c
        cases h : bt_t (f 36) a with
        | true => rw [h] at c; exact absurd rfl c
        | false => rfl
      · have d : b = 1 := by omega
        rw [d] at c
        cases h : bt_t (f 36) a with
        | true => rfl
        | false => rw [h] at c; exact absurd rfl c
theorem gt_J (hW : mn_W J) (h : gp_J J f) (ok : gt_ok J f a b) : gp_J J (gt_f f a) := by
  have w1 := hW.2.1
  have w2 := hW.2.2.1
  obtain ⟨h1, h5, h6⟩ := h
  refine ⟨gp_e hW h1 (fun j j0 j1 => gt_o (by omega)) (by rw [gt_o (by decide)]; exact h1.2.2.2), ⟨fun q q0 q1 => ?_, fun q q0 q1 => ?_⟩, ?_⟩
  · rw [gt_o (by omega)]; exact h5.1 q q0 q1
  · have := ok.1
    rw [gt_36, bt_Txor (by omega) (by omega) this.1 (by omega), decide_eq_false (by omega), Bool.xor_false]
    exact h5.2 q q0 q1
  · rw [gt_o (by decide)]; exact h6
/-! split -/
def sp_ok (f : Int → Int) (a b : Int) : Prop := (0 ≤ a ∧ a < 4) ∧ (1 ≤ b ∧ b ≤ f (3 * a) - 1) ∧ sg_b f ≠ -1
def sp_f (f : Int → Int) (a b : Int) : Int → Int := rm_b (ds_u1 f (3 * a) (f (3 * a) - b)) (sg_b f) b (f (3 * a + 1)) (f (3 * a + 2))
theorem rc_16z {v : Int} (hS : rc_S s.1 f) (a0 : 0 ≤ a) (a1 : a < 4) : rc_S (lf_up s.1 16 a v) (ds_u1 f (3 * a) v) := by
  obtain ⟨s1, s2, s3, s4, s5, s6⟩ := hS
  have e : ∀ j : Int, j ≠ 3 * a → ds_u1 f (3 * a) v j = f j := fun j hj => if_neg hj
  refine ⟨fun q q0 q1 => ?_, fun q q0 q1 => ?_, fun q q0 q1 => ?_, ?_, ?_, ?_⟩
  · rw [lf_up_c (show 17 ≠ 16 by decide), lf_up_c (show 18 ≠ 16 by decide), e (3 * q + 1) (by omega), e (3 * q + 2) (by omega)]
    refine ⟨?_, (s1 q q0 q1).2⟩
    by_cases y : q = a
    · rw [y, lf_up_s]; exact (if_pos rfl).symm
    · rw [lf_up_i y, e (3 * q) (by omega)]; exact (s1 q q0 q1).1
  · rw [lf_up_c (by decide), lf_up_c (by decide), e (12 + 2 * q) (by omega), e (12 + 2 * q + 1) (by omega)]; exact s2 q q0 q1
  · rw [lf_up_c (by decide), e (24 + q) (by omega)]; exact s3 q q0 q1
  · rw [lf_up_c (by decide), e 36 (by omega)]; exact s4
  · rw [lf_up_c (by decide), e 37 (by omega)]; exact s5
  · rw [lf_up_c (by decide), e 38 (by omega)]; exact s6
theorem fl_102 {Q : Int → lf_Z → Prop} (hJ : gc_J J s) (hS : rc_S s.1 f) (hG : gp_J J f) (hH : rc_H s.1 H)
    (k0 : ¬ sp_ok f a b → Q (-1) s) (k : sp_ok f a b → ∀ t : lf_Z, mc_f s t → rc_S t.1 (sp_f f a b) → rc_H t.1 (rr_K (J 1 2, J 1 1, f) H) → Q (sg_b f) t) : fw_102 a b Q s := by
  unfold fw_102
  refine fl_80 ⟨fun z => k0 (fun q => ?_), fun z _ => ?_⟩
  · have := q.2.1
    rw [(hS.1 a q.1.1 q.1.2).1, decide_eq_true q.1.1, decide_eq_true q.1.2, decide_eq_true (show 0 < f (3 * a) by omega)] at z; cases z
  · rw [Bool.and_eq_true, Bool.and_eq_true, decide_eq_true_eq, decide_eq_true_eq] at z
    obtain ⟨d1, d2, d3⟩ := hS.1 a z.1.1 z.1.2
    rw [d1]
    refine fl_15 ⟨fun z2 => fl_66 hS ?_, fun z2 => k0 (fun q => ?_)⟩
    · rw [Bool.and_eq_true, decide_eq_true_eq, decide_eq_true_eq] at z2
      intro _
      refine ⟨fun c => ?_, fun c => ?_⟩
      · rw [c]; exact k0 (fun q => q.2.2 c)
      · have sB := sg_bB.resolve_left c
        rw [hJ 1 (by omega)]
        refine fl_67 (w := J 1 1) hS hH (fun t tf tH => fl_69 ?_)
        have tS := rc_Sf hS tf
        obtain ⟨e1, e2, e3⟩ := tS.1 a z.1.1 z.1.2
        rw [e1, e2, e3]
        have S1 := rc_16z (v := f (3 * a) - b) tS z.1.1 z.1.2
        have S2 := rc_b (s := (lf_up t.1 16 a (f (3 * a) - b), t.2.1, t.2.2)) (z := b) (v := f (3 * a + 1)) (w := f (3 * a + 2)) S1 sB.1 sB.2.1
        exact k ⟨z.1, z2, c⟩ _ (mc_ft (mc_k tf) (mc_g (rc_gu (rc_gu (rc_gu (rc_gu rc_gr (by omega)) (by omega)) (by omega)) (by omega)))) S2 (rc_Hv tH (mv_g (rc_gu (rc_gu (rc_gu (rc_gu rc_gr (by omega)) (by omega)) (by omega)) (by omega))))
    · rw [decide_eq_true q.2.1.1, decide_eq_true q.2.1.2] at z2; cases z2
theorem fl_253 {Q : Int → lf_Z → Prop} (hL : rr_L J (s.1 96)) (hW : mn_W J) (hS : rr_S (J 1 1) (J 1 2) f (s.1 96)) (hG : gp_J J f) (hH : rh_H (s.1 96) H) (hh : mi_H J H)
    (k0 : ¬ sp_ok f a b → Q (-1) s) (k : sp_ok f a b → ∀ t : lf_Z, mr_f s t → rr_S (J 1 1) (J 1 2) (sp_f f a b) (t.1 96) → rh_H (t.1 96) (rr_K (J 1 2, J 1 1, f) H) → Q (sg_b f) t) : fw_253 a b Q s := by
  have w1 := hW.2.1
  have w2 := hW.2.2.1
  unfold fw_253
  refine fl_241 hS ?_
  unfold fw_254
  refine fl_183 ⟨fun z => ⟨fun _ => k0 (fun q => ?_), fun q => (by cases q)⟩, fun z => fl_242 ?_⟩
  · rw [decide_eq_true q.1.1, decide_eq_true (show a ≤ 3 by have := q.1; omega)] at z; cases z
  · rw [Bool.and_eq_true, decide_eq_true_eq, decide_eq_true_eq] at z
    obtain ⟨d1, d2⟩ := hS.2.2.1 a z.1 (by omega)
    rw [d1]
    intro _
    refine ⟨fun c => ⟨fun _ => k0 (fun q => by have := q.2.1; omega), fun q => (by cases q)⟩, fun c => ⟨fun q => (by cases q), fun _ => fl_242 ?_⟩⟩
    have d2 := d2 (by omega)
    rw [d1]
    refine fl_183 ⟨fun z2 => k0 (fun q => ?_), fun z2 _ => ⟨fun d => ?_, fun d => k0 (fun q => ?_)⟩⟩
    · rw [decide_eq_true q.2.1.1, decide_eq_true q.2.1.2] at z2; cases z2
    · rw [Bool.and_eq_true, decide_eq_true_eq, decide_eq_true_eq] at z2
      have d' : sg_b f ≠ -1 := by omega
      have sB := sg_bB.resolve_left d'
      have ne : sg_b f ≠ a := fun q => by
        rw [q] at sB
        omega
      refine fl_244j hL hW hS hH hh (fun t tf tr tS tH te => ?_)
      intro _
      refine fl_255 (fl_256 ?_)
      obtain ⟨e1, e2⟩ := tS.2.2.1 a z.1 (by omega)
      have e2 := e2 (by omega)
      obtain ⟨u, hu⟩ : ∃ u : lf_Z, u = (lf_up t.1 96 (114 + 3 * a) (t.1 96 (114 + 3 * a) - b), t.2.1, t.2.2) := ⟨_, rfl⟩
      rw [← hu]
      have ui : ∀ i : Int, i ≠ 114 + 3 * a → u.1 96 i = t.1 96 i := fun i hi => by rw [hu]; exact zu_i hi
      have us : u.1 96 (114 + 3 * a) = f (3 * a) - b := by rw [hu]; refine zu_s.trans ?_; rw [e1]
      have uf : rm_f t u := by rw [hu]; exact rm_u (Or.inr (Or.inr (Or.inl ⟨by omega, by omega⟩)))
      have g : ∀ j : Int, j ≠ 3 * a → ds_u1 f (3 * a) (f (3 * a) - b) j = f j := fun j hj => if_neg hj
      have uS : rr_S (J 1 1) (J 1 2) (ds_u1 f (3 * a) (f (3 * a) - b)) (u.1 96) := rm_S tS w1.2 w2.2 z.1 (by omega) (fun j hj => g j (by omega)) (fun j hj => ui j (by omega)) (us.trans (if_pos rfl).symm) (fun _ => ⟨by rw [ui _ (by omega), g _ (by omega)]; exact e2.1, by rw [ui _ (by omega), g _ (by omega)]; exact e2.2⟩)
      rw [ui (114 + 3 * a + 1) (by omega), ui (114 + 3 * a + 2) (by omega), e2.1, e2.2]
      refine fl_247 (fun y yc y2 yj y0 y1 y3 => ?_)
      have yf := mr_b (v := 0) (w := 0) (z := 0) sB.1 sB.2.1 yc y2 yj
      refine k ⟨⟨z.1, by omega⟩, z2, d'⟩ y (mr_ft tf (mr_m (rm_ft uf yf))) ?_ (rh_Hr (mi_K hW hG hh) hW tH ((yj 9 (by omega)).trans (ui 9 (by omega))) (fun i i0 => (yj i (by omega)).trans (ui i (by omega))))
      exact rm_S uS w1.2 w2.2 sB.1 sB.2.1 (fun j hj => rm_bo (by omega)) yj (y0.trans rm_b0.symm) (fun _ => ⟨y1.trans rm_b1.symm, y3.trans rm_b2.symm⟩)
    · rcases sg_bB (f := f) with e | e
      · exact q.2.2 e
      · omega
theorem rm_be {z : Int} : rm_b f a z (f (3 * a + 1)) (f (3 * a + 2)) = ds_u1 f (3 * a) z := by
  funext j
  unfold rm_b ds_u1
  by_cases h2 : j = 3 * a + 2
  · rw [if_pos h2, if_neg (by omega), h2]
  · rw [if_neg h2]
    by_cases h1 : j = 3 * a + 1
    · rw [if_pos h1, if_neg (by omega), h1]
    · rw [if_neg h1]
theorem sp_J (hW : mn_W J) (h : gp_J J f) (ok : sp_ok f a b) : gp_J J (sp_f f a b) := by
  have sB := sg_bB.resolve_left ok.2.2
  obtain ⟨oa, ob, _⟩ := ok
  have ne : sg_b f ≠ a := fun q => by
    rw [q] at sB
    omega
  have z := h.1.2.2.1
  have at_ := gp_at h.1 oa.1 oa.2 (by omega)
  have g1 := gp_bn (z := f (3 * a) - b) (v := f (3 * a + 1)) (w := f (3 * a + 2)) hW h oa.1 oa.2 (by omega) (by omega) (fun _ => at_)
  rw [rm_be] at g1
  have e : ∀ j : Int, j ≠ 3 * a → ds_u1 f (3 * a) (f (3 * a) - b) j = f j := fun j hj => if_neg hj
  refine gp_bn hW g1 sB.1 sB.2.1 (by omega) ?_ (fun _ => at_)
  rw [e (3 * sg_b f) (by omega), sB.2.2]
  rcases (show a = 0 ∨ a = 1 ∨ a = 2 ∨ a = 3 by omega) with q | q | q | q
  · subst q
    rw [e 3 (by decide), e 6 (by decide), e 9 (by decide), show ds_u1 f (3 * 0) (f (3 * 0) - b) 0 = f 0 - b from if_pos rfl]; omega
  · subst q
    rw [e 0 (by decide), e 6 (by decide), e 9 (by decide), show ds_u1 f (3 * 1) (f (3 * 1) - b) 3 = f 3 - b from if_pos rfl]; omega
  · subst q
    rw [e 0 (by decide), e 3 (by decide), e 9 (by decide), show ds_u1 f (3 * 2) (f (3 * 2) - b) 6 = f 6 - b from if_pos rfl]; omega
  · subst q
    rw [e 0 (by decide), e 3 (by decide), e 6 (by decide), show ds_u1 f (3 * 3) (f (3 * 3) - b) 9 = f 9 - b from if_pos rfl]; omega
end GT
/-! the land grows: stretch and person, both sides; the class's way -/
section LD
variable {J K : Nat → Int → Int} {s t u : lf_Z} {f g T A B : Int → Int} {a b c p x j n1 n2 m : Int} {H : List rr_H} {E E' : Int → Int → Prop} {d d' : Int → Int → Int}
theorem dm_C (h : dm_M m E d) (e : ∀ i j, 0 ≤ i → i < m → 0 ≤ j → j < m → d' i j = d i j) (hE : ∀ i j, E' i j ↔ E i j) : dm_M m E' d' := by
  obtain ⟨h1, h2, h3, h4, h5, h6⟩ := h
  refine ⟨fun i i0 i1 => ?_, fun i j i0 i1 j0 j1 => ?_, fun i j i0 i1 j0 j1 => ?_, fun i j k i0 i1 j0 j1 k0 k1 => ?_, fun i j he => ?_, fun i j i0 i1 j0 j1 ne => ?_⟩
  · rw [e i i i0 i1 i0 i1]; exact h1 i i0 i1
  · rw [e i j i0 i1 j0 j1]; exact h2 i j i0 i1 j0 j1
  · rw [e i j i0 i1 j0 j1, e j i j0 j1 i0 i1]; exact h3 i j i0 i1 j0 j1
  · rw [e i j i0 i1 j0 j1, e j k j0 j1 k0 k1, e i k i0 i1 k0 k1]; exact h4 i j k i0 i1 j0 j1 k0 k1
  · obtain ⟨q1, q2, q3, q4, q5⟩ := h5 i j ((hE i j).mp he)
    exact ⟨q1, q2, q3, q4, by rw [e i j q1 q2 q3 q4]; exact q5⟩
  · rw [e i j i0 i1 j0 j1]
    rcases h6 i j i0 i1 j0 j1 ne with q | ⟨v, hv, hd⟩
    · exact Or.inl q
    · obtain ⟨_, _, q3, q4, _⟩ := h5 i v hv
      exact Or.inr ⟨v, (hE i v).mpr hv, by rw [e v j q3 q4 j0 j1]; exact hd⟩
theorem mn_atR (e4 : K 4 = J 4) (e5 : K 5 = J 5) : mn_at K = mn_at J := by
  funext q w
  unfold mn_at
  rw [e4, e5]
theorem mn_ER {ok : Int → Bool} (e4 : K 4 = J 4) (e5 : K 5 = J 5) : mn_E K ok m = mn_E J ok m := by
  funext i j
  unfold mn_E
  rw [e4, e5]
theorem mn_dR (e : K 13 = J 13) : mn_d K 13 = mn_d J 13 := by
  funext i j
  unfold mn_d
  rw [e]
/-- ways and distances are the same -/
theorem mn_Wr (h : mn_W J) (e4 : K 4 = J 4) (e5 : K 5 = J 5) (e11 : K 11 = J 11) (e12 : K 12 = J 12) (e13 : K 13 = J 13) (e0 : K 1 0 = J 1 0) (e1 : K 1 1 = J 1 1) (e2 : 0 ≤ K 1 2 ∧ K 1 2 ≤ 6) : mn_W K := by
  unfold mn_W at h ⊢
  rw [mn_atR e4 e5, mn_ER e4 e5, mn_dR e13, e4, e5, e11, e12, e0, e1]
  exact ⟨h.1, h.2.1, e2, h.2.2.2⟩
/-- one stretch more -/
theorem mn_Ws (h : mn_W J) (h12 : J 1 0 < 12) (e4 : K 4 = J 4) (e5 : K 5 = J 5) (e11 : K 11 = J 11) (e12 : K 12 = J 12) (e13 : K 13 = J 13) (e0 : K 1 0 = J 1 0 + 1) (e1 : K 1 1 = J 1 1) (e2 : K 1 2 = J 1 2) : mn_W K := by
  obtain ⟨h0, h1, h2, h3, h4, h5, h6⟩ := h
  unfold mn_W
  rw [mn_atR e4 e5, mn_ER e4 e5, mn_dR e13, e4, e5, e11, e12, e0, e1, e2]
  refine ⟨⟨by omega, by omega⟩, h1, h2, fun w w0 w1 => ?_, h4, dm_ext h5 h0.1 ?_ (fun i i0 i1 => ⟨?_, ?_⟩), fun i j i0 i1 j0 j1 q => h6 i j i0 i1 j0 j1 (by omega)⟩
  · have := h3 w w0 w1
    exact ⟨⟨this.1.1, by omega⟩, ⟨this.2.1.1, by omega⟩, this.2.2⟩
  · rw [h6 _ _ h0.1 h12 h0.1 h12 (Or.inl (Int.le_refl _)), if_pos rfl]
  · rw [h6 i _ i0 (by omega) h0.1 h12 (Or.inr (Int.le_refl _)), if_neg (by omega)]
  · rw [h6 _ i h0.1 h12 i0 (by omega) (Or.inl (Int.le_refl _)), if_neg (by omega)]
/-- facts that stay when the land grows -/
theorem gp_Ig (h : gp_I J f) (e0 : J 1 0 ≤ K 1 0) (e2 : K 1 2 = J 1 2) : gp_I K f := by
  obtain ⟨h1, h2, h3⟩ := h
  refine ⟨fun q q0 q1 => ?_, fun b b0 b1 z => ?_, h3⟩
  · have := h1 q q0 (by omega)
    omega
  · have := h2 b b0 b1 z
    omega
theorem rr_Wg {m1 m2 : Int} (h : rr_W n1 n2 f) (e0 : n1 ≤ m1) (e1 : n2 ≤ m2) : rr_W m1 m2 f := ⟨fun s s0 s1 => h.1 s (by omega) s1, fun w w0 w1 => h.2 w (by omega) w1⟩
theorem mi_hg {h : rr_H} (hh : mi_h J h) (e0 : J 1 0 ≤ K 1 0) (e1 : J 1 1 ≤ K 1 1) (e2 : J 1 2 ≤ K 1 2) : mi_h K h := by
  obtain ⟨h1, h2, h3, h4, h5⟩ := hh
  refine ⟨⟨h1.1, by omega⟩, ⟨h2.1, by omega⟩, rr_Wg h3 e0 (Int.le_refl _), ?_, h5⟩
  refine gp_Ig h4 ?_ ?_
  · rw [show (lf_up J 1 2 h.1) 1 0 = J 1 0 from lf_up_i (by decide), show (lf_up K 1 2 h.1) 1 0 = K 1 0 from lf_up_i (by decide)]; exact e0
  · rw [show (lf_up J 1 2 h.1) 1 2 = h.1 from lf_up_s, show (lf_up K 1 2 h.1) 1 2 = h.1 from lf_up_s]
theorem mi_Hg (hH : mi_H J H) (e0 : J 1 0 ≤ K 1 0) (e1 : J 1 1 ≤ K 1 1) (e2 : J 1 2 ≤ K 1 2) : mi_H K H := ⟨hH.1, fun h hh => mi_hg (hH.2 h hh) e0 e1 e2⟩
/-! stretch -/
def st_ok (n a b : Int) : Prop := (0 ≤ a ∧ a ≤ 3) ∧ (0 ≤ b ∧ b ≤ 99) ∧ n < 12
theorem fl_14 {Q : Int → lf_Z → Prop} (k0 : ¬ st_ok (s.1 1 0) a b → Q (-1) s) (k : st_ok (s.1 1 0) a b → Q (s.1 1 0) (lf_up (lf_up (lf_up s.1 2 (s.1 1 0) a) 3 (s.1 1 0) b) 1 0 (s.1 1 0 + 1), s.2.1, s.2.2)) : fw_14 a b Q s := by
  unfold fw_14
  refine fl_15 ⟨fun z => k0 (fun q => ?_), fun z => fl_15 ⟨fun z2 => ?_, fun z2 => k0 (fun q => ?_)⟩⟩
  · rw [decide_eq_true q.1.1, decide_eq_true q.1.2] at z; cases z
  · rw [Bool.and_eq_true, decide_eq_true_eq, decide_eq_true_eq] at z z2
    unfold fw_16
    intro _
    refine ⟨fun c _ => ?_, fun c => k0 (fun q => c q.2.2)⟩
    have := k ⟨z, z2, c⟩
    rw [show s.1 1 0 + 1 - 1 = s.1 1 0 by omega]
    exact this
  · rw [decide_eq_true q.2.1.1, decide_eq_true q.2.1.2] at z2; cases z2
theorem fl_182 {Q : Int → lf_Z → Prop} (h0 : 0 ≤ s.1 96 0 ∧ s.1 96 0 ≤ 12) (k0 : ¬ st_ok (s.1 96 0) a b → Q (-1) s)
    (k : st_ok (s.1 96 0) a b → ∀ t : lf_Z, rr_f s t → t.1 96 0 = s.1 96 0 + 1 → t.1 96 (14 + 3 * s.1 96 0) = a → t.1 96 (14 + 3 * s.1 96 0 + 1) = b → t.1 96 (14 + 3 * s.1 96 0 + 2) = 0 → (∀ i : Int, i ≠ 0 → ¬ (14 + 3 * s.1 96 0 ≤ i ∧ i ≤ 14 + 3 * s.1 96 0 + 2) → t.1 96 i = s.1 96 i) → Q (s.1 96 0) t) : fw_182 a b Q s := by
  unfold fw_182
  refine fl_183 ⟨fun z => k0 (fun q => ?_), fun z => fl_183 ⟨fun z2 => k0 (fun q => ?_), fun z2 _ => ⟨fun c _ _ _ => ?_, fun c => k0 (fun q => ?_)⟩⟩⟩
  · rw [decide_eq_true q.1.1, decide_eq_true q.1.2] at z; cases z
  · rw [decide_eq_true q.2.1.1, decide_eq_true q.2.1.2] at z2; cases z2
  · rw [Bool.and_eq_true, decide_eq_true_eq, decide_eq_true_eq] at z z2
    generalize hn : s.1 96 0 = n at *
    obtain ⟨G, hG⟩ : ∃ G : Nat → Int → Int, G = lf_up (lf_up (lf_up s.1 96 (14 + 3 * n) a) 96 (14 + 3 * n + 1) b) 96 (14 + 3 * n + 2) 0 := ⟨_, rfl⟩
    rw [← hG]
    have g0 : G 96 0 = n := by rw [hG]; exact (lf_up_i (by omega)).trans ((lf_up_i (by omega)).trans ((lf_up_i (by omega)).trans hn))
    have ga : G 96 (14 + 3 * n) = a := by rw [hG]; exact (lf_up_i (by omega)).trans ((lf_up_i (by omega)).trans lf_up_s)
    have gb : G 96 (14 + 3 * n + 1) = b := by rw [hG]; exact (lf_up_i (by omega)).trans lf_up_s
    have gc : G 96 (14 + 3 * n + 2) = 0 := by rw [hG]; exact lf_up_s
    have go : ∀ i : Int, ¬ (14 + 3 * n ≤ i ∧ i ≤ 14 + 3 * n + 2) → G 96 i = s.1 96 i := fun i hi => by rw [hG]; exact (lf_up_i (by omega)).trans ((lf_up_i (by omega)).trans (lf_up_i (by omega)))
    have gr : ∀ c : Nat, c ≠ 96 → G c = s.1 c := fun c hc => by rw [hG]; exact (lf_up_row hc).trans ((lf_up_row hc).trans (lf_up_row hc))
    rw [g0, show n + 1 - 1 = n by omega]
    exact k ⟨z, z2, by omega⟩ _ ⟨fun c hc => (zu_r hc).trans (gr c hc), rfl⟩ zu_s ((zu_i (by omega)).trans ga) ((zu_i (by omega)).trans gb) ((zu_i (by omega)).trans gc) (fun i i0 i1 => (zu_i i0).trans (go i i1))
  · have := q.2.2
    have := Classical.not_not.mp c
    omega
/-- the reference's land with a stretch more -/
theorem st_L (hL : rr_L J A) (hW : mn_W J) (h12 : J 1 0 < 12) (e0 : K 1 0 = J 1 0 + 1) (e1 : K 1 1 = J 1 1) (e2 : K 1 2 = J 1 2) (eo : ∀ q : Int, 0 ≤ q → q < J 1 0 → K 2 q = J 2 q ∧ K 3 q = J 3 q) (ea : K 2 (J 1 0) = a) (eb : K 3 (J 1 0) = b) (er : ∀ c : Nat, 4 ≤ c → c ≤ 10 → K c = J c)
    (b0 : B 0 = J 1 0 + 1) (ba : B (14 + 3 * J 1 0) = a) (bb : B (14 + 3 * J 1 0 + 1) = b) (bo : ∀ i : Int, i ≠ 0 → ¬ (14 + 3 * J 1 0 ≤ i ∧ i ≤ 14 + 3 * J 1 0 + 2) → B i = A i) : rr_L K B := by
  obtain ⟨w0, w1, w2, _⟩ := hW
  obtain ⟨l0, l1, l2, l3, l4, l5⟩ := hL
  refine ⟨b0.trans e0.symm, (bo 1 (by omega) (by omega)).trans (l1.trans e1.symm), (bo 2 (by omega) (by omega)).trans (l2.trans e2.symm), fun q q0 q1 => ?_, fun w x0 x1 => ?_, fun q q0 q1 => ?_⟩
  · by_cases y : q = J 1 0
    · rw [y]; exact ⟨ba.trans ea.symm, bb.trans eb.symm⟩
    · have o := eo q q0 (by omega)
      rw [o.1, o.2, bo (14 + 3 * q) (by omega) (by omega), bo (14 + 3 * q + 1) (by omega) (by omega)]
      exact l3 q q0 (by omega)
  · rw [er 4 (by decide) (by decide), er 5 (by decide) (by decide), er 6 (by decide) (by decide), bo (50 + 4 * w) (by omega) (by omega), bo (50 + 4 * w + 1) (by omega) (by omega), bo (50 + 4 * w + 2) (by omega) (by omega)]
    exact l4 w x0 (by omega)
  · rw [er 7 (by decide) (by decide), er 8 (by decide) (by decide), er 9 (by decide) (by decide), er 10 (by decide) (by decide), bo (126 + 6 * q + 0) (by omega) (by omega), bo (126 + 6 * q + 1) (by omega) (by omega), bo (126 + 6 * q + 2) (by omega) (by omega), bo (126 + 6 * q + 5) (by omega) (by omega)]
    exact l5 q q0 (by omega)
theorem st_S (hS : rr_S n1 n2 f A) (hW : mn_W J) (h12 : J 1 0 < 12) (h16 : n1 ≤ 16) (h6 : n2 ≤ 6) (hw : rr_W (J 1 0) n1 f) (bc : B (14 + 3 * J 1 0 + 2) = 0) (bo : ∀ i : Int, i ≠ 0 → ¬ (14 + 3 * J 1 0 ≤ i ∧ i ≤ 14 + 3 * J 1 0 + 2) → B i = A i) : rr_S n1 n2 f B := by
  have w0 := hW.1
  obtain ⟨s1, s2, s3, s4, s5, s6⟩ := hS
  refine ⟨?_, ?_, fun q q0 q1 => ?_, fun q q0 q1 => ?_, fun q q0 q1 => ?_, fun w w0 w1 => ?_⟩
  · rw [bo 3 (by omega) (by omega)]; exact s1
  · rw [bo 6 (by omega) (by omega)]; exact s2
  · rw [bo (114 + 3 * q) (by omega) (by omega), bo (114 + 3 * q + 1) (by omega) (by omega), bo (114 + 3 * q + 2) (by omega) (by omega)]; exact s3 q q0 q1
  · rw [bo (126 + 6 * q + 3) (by omega) (by omega), bo (126 + 6 * q + 4) (by omega) (by omega)]; exact s4 q q0 q1
  · by_cases y : q = J 1 0
    · rw [y, bc]; exact (hw.1 (J 1 0) (Int.le_refl _) h12).symm
    · rw [bo (14 + 3 * q + 2) (by omega) (by omega)]; exact s5 q q0 q1
  · rw [bo (50 + 4 * w + 3) (by omega) (by omega)]; exact s6 w w0 w1
/-! the class's distances with a way more -/
theorem fl_22 {Q : lf_Z → Prop} (hd : dm_M m E d) (hm : s.1 1 0 = m) (m0 : 0 ≤ m) (m12 : m ≤ 12) (hc : ∀ i j : Int, 0 ≤ i → i < m → 0 ≤ j → j < m → s.1 13 (i * 12 + j) = d i j) (a0 : 0 ≤ a) (a1 : a < m) (b0 : 0 ≤ b) (b1 : b < m)
    (k : ∀ t : lf_Z, (∀ c : Nat, c ≠ 13 → t.1 c = s.1 c) → t.2 = s.2 → (∀ i j : Int, 0 ≤ i → i < m → 0 ≤ j → j < m → t.1 13 (i * 12 + j) = dm_nw d a b i j) → (∀ i j : Int, 0 ≤ i → i < 12 → 0 ≤ j → j < 12 → (m ≤ i ∨ m ≤ j) → t.1 13 (i * 12 + j) = s.1 13 (i * 12 + j)) → Q t) : fw_22 a b Q s := by
  unfold fw_22
  refine ⟨fun i t => 0 ≤ i ∧ i ≤ m ∧ (∀ c : Nat, c ≠ 13 → t.1 c = s.1 c) ∧ t.2 = s.2 ∧ (∀ p q : Int, 0 ≤ p → p < m → 0 ≤ q → q < m → t.1 13 (p * 12 + q) = if p < i then dm_nw d a b p q else d p q) ∧ (∀ p q : Int, 0 ≤ p → p < 12 → 0 ≤ q → q < 12 → (m ≤ p ∨ m ≤ q) → t.1 13 (p * 12 + q) = s.1 13 (p * 12 + q)), ?_, ⟨Int.le_refl 0, m0, fun _ _ => rfl, rfl, fun p q p0 p1 q0 q1 => by rw [if_neg (by omega)]; exact hc p q p0 p1 q0 q1, fun _ _ _ _ _ _ _ => rfl⟩⟩
  intro i t ⟨i0, i1, tc, t2, tv, to⟩
  unfold fw_22_p3
  rw [tc 1 (by decide), hm]
  intro _ _
  refine ⟨fun c => k t tc t2 (fun p q p0 p1 q0 q1 => by rw [tv p q p0 p1 q0 q1, if_pos (by omega)]) to, fun c => ?_⟩
  refine ⟨fun j u => 0 ≤ j ∧ j ≤ m ∧ (∀ c : Nat, c ≠ 13 → u.1 c = s.1 c) ∧ u.2 = s.2 ∧ (∀ p q : Int, 0 ≤ p → p < m → 0 ≤ q → q < m → u.1 13 (p * 12 + q) = if p < i ∨ (p = i ∧ q < j) then dm_nw d a b p q else d p q) ∧ (∀ p q : Int, 0 ≤ p → p < 12 → 0 ≤ q → q < 12 → (m ≤ p ∨ m ≤ q) → u.1 13 (p * 12 + q) = s.1 13 (p * 12 + q)), ?_, ⟨Int.le_refl 0, m0, tc, t2, fun p q p0 p1 q0 q1 => ?_, to⟩⟩
  · intro j u ⟨j0, j1, uc, u2, uv, uo⟩
    unfold fw_22_p22
    rw [uc 1 (by decide), hm]
    intro _ _
    refine ⟨fun e => ⟨by omega, by omega, uc, u2, fun p q p0 p1 q0 q1 => ?_, uo⟩, fun e _ _ _ _ _ _ _ _ _ => ?_⟩
    · rw [uv p q p0 p1 q0 q1]
      by_cases y : p < i + 1
      · rw [if_pos (by omega), if_pos y]
      · rw [if_neg (by omega), if_neg y]
    · have on : ∀ p q : Int, 0 ≤ p → p < m → 0 ≤ q → q < m → dm_on d a b p q (u.1 13 (p * 12 + q)) := fun p q p0 p1 q0 q1 => by
        rw [uv p q p0 p1 q0 q1]
        unfold dm_on
        split
        · exact Or.inr rfl
        · exact Or.inl rfl
      have old : u.1 13 (i * 12 + j) = d i j := by
        rw [uv i j i0 (by omega) j0 (by omega), if_neg (by omega)]
      have new := dm_st hd a0 a1 b0 b1 i0 (by omega) j0 (by omega) (on i a i0 (by omega) a0 a1) (on i b i0 (by omega) b0 b1) (on a j a0 a1 j0 (by omega)) (on b j b0 b1 j0 (by omega))
      rw [old, new]
      have ne : ∀ p q : Int, 0 ≤ p → p < 12 → 0 ≤ q → q < 12 → ¬ (p = i ∧ q = j) → p * 12 + q ≠ i * 12 + j := fun p q p0 p1 q0 q1 h e => h (by omega)
      refine ⟨by omega, by omega, fun c hc => (zu_r hc).trans (uc c hc), u2, fun p q p0 p1 q0 q1 => ?_, fun p q p0 p1 q0 q1 h => (zu_i (ne p q p0 p1 q0 q1 (by omega))).trans (uo p q p0 p1 q0 q1 h)⟩
      by_cases y : p = i ∧ q = j
      · rw [y.1, y.2, if_pos (by omega)]; exact zu_s
      · refine (zu_i (ne p q p0 (by omega) q0 (by omega) y)).trans ?_
        rw [uv p q p0 p1 q0 q1]
        by_cases z : p < i ∨ (p = i ∧ q < j)
        · rw [if_pos z, if_pos (by omega)]
        · rw [if_neg z, if_neg (by omega)]
  · rw [tv p q p0 p1 q0 q1]
    by_cases y : p < i
    · rw [if_pos y, if_pos (by omega)]
    · rw [if_neg y, if_neg (by omega)]
end LD
/-! way: both sides -/
section WY
variable {J K : Nat → Int → Int} {s t u : lf_Z} {f g T A B : Int → Int} {a b c p x j n1 n2 m : Int} {H : List rr_H} {P P' : Nat → Bool}
theorem dm_cnK {n : Nat} (h : ∀ w : Nat, w < n → P w = P' w) : dm_cn P n = dm_cn P' n := by
  induction n with
  | zero => rfl
  | succ n ih =>
    show dm_cn P n + (if P n = true then 1 else 0) = dm_cn P' n + (if P' n = true then 1 else 0)
    rw [ih (fun w hw => h w (by omega)), h n (by omega)]
def wy_ok (J : Nat → Int → Int) (a b : Int) : Prop := (0 ≤ a ∧ a < J 1 0) ∧ (0 ≤ b ∧ b < J 1 0) ∧ a ≠ b ∧ J 1 1 < 16 ∧ J 12 a < 4 ∧ J 12 b < 4
/-- the land K: J with a way more -/
def wy_R (J K : Nat → Int → Int) (a b c : Int) : Prop :=
  (∀ q : Nat, q ≠ 1 → q ≠ 4 → q ≠ 5 → q ≠ 6 → q ≠ 11 → q ≠ 12 → q ≠ 13 → K q = J q) ∧ (K 1 0 = J 1 0 ∧ K 1 1 = J 1 1 + 1 ∧ K 1 2 = J 1 2)
  ∧ (∀ w : Int, K 4 w = (if w = J 1 1 then a else J 4 w) ∧ K 5 w = (if w = J 1 1 then b else J 5 w) ∧ K 6 w = (if w = J 1 1 then c else J 6 w))
  ∧ (∀ q : Int, K 12 q = if q = b then J 12 b + 1 else if q = a then J 12 a + 1 else J 12 q)
  ∧ (∀ i : Int, K 11 i = if i = b * 4 + J 12 b then J 1 1 else if i = a * 4 + J 12 a then J 1 1 else J 11 i)
  ∧ (∀ i j : Int, 0 ≤ i → i < J 1 0 → 0 ≤ j → j < J 1 0 → K 13 (i * 12 + j) = dm_nw (mn_d J 13) a b i j)
  ∧ (∀ i j : Int, 0 ≤ i → i < 12 → 0 ≤ j → j < 12 → (J 1 0 ≤ i ∨ J 1 0 ≤ j) → K 13 (i * 12 + j) = J 13 (i * 12 + j))
theorem wy_W (hW : mn_W J) (ok : wy_ok J a b) (hR : wy_R J K a b c) : mn_W K := by
  obtain ⟨oa, ob, oab, o16, o4, o5⟩ := ok
  obtain ⟨r0, ⟨r10, r11, r12⟩, rw_, rl, ri, rd, rf⟩ := hR
  obtain ⟨h0, h1, h2, h3, h4, h5, h6⟩ := hW
  have atE : ∀ (q : Int) (w : Nat), (w : Int) < J 1 1 → mn_at K q w = mn_at J q w := by
    intro q w hw
    unfold mn_at
    rw [(rw_ w).1, (rw_ w).2.1, if_neg (by omega), if_neg (by omega)]
  have atN : ∀ q : Int, mn_at K q (J 1 1).toNat = (decide (a = q) || decide (b = q)) := by
    intro q
    unfold mn_at
    rw [show ((J 1 1).toNat : Int) = J 1 1 by omega, (rw_ _).1, (rw_ _).2.1, if_pos rfl, if_pos rfl]
  have cnE : ∀ (q : Int) (w : Nat), (w : Int) ≤ J 1 1 → dm_cn (mn_at K q) w = dm_cn (mn_at J q) w := fun q w hw => dm_cnK (fun v hv => atE q v (by omega))
  unfold mn_W
  rw [r10, r11, r12]
  refine ⟨h0, ⟨by omega, by omega⟩, h2, fun w w0 w1 => ?_, fun q q0 q1 => ?_, ?_, fun i j i0 i1 j0 j1 e => ?_⟩
  · rw [(rw_ w).1, (rw_ w).2.1]
    by_cases y : w = J 1 1
    · rw [if_pos y, if_pos y]; exact ⟨oa, ob, oab⟩
    · rw [if_neg y, if_neg y]; exact h3 w w0 (by omega)
  · obtain ⟨k1, k2, k3⟩ := h4 q q0 q1
    have ca := (h4 a oa.1 (by omega)).1
    have cb := (h4 b ob.1 (by omega)).1
    have new : dm_cn (mn_at K q) (J 1 1 + 1).toNat = dm_cn (mn_at J q) (J 1 1).toNat + (if mn_at K q (J 1 1).toNat = true then 1 else 0) := by
      rw [show (J 1 1 + 1).toNat = (J 1 1).toNat + 1 by omega]
      show dm_cn (mn_at K q) (J 1 1).toNat + _ = _
      rw [cnE q _ (by omega)]
    have k12 : K 12 q = dm_cn (mn_at K q) (J 1 1 + 1).toNat := by
      rw [new, atN, rl]
      by_cases yb : q = b
      · rw [if_pos yb, if_pos (by rw [decide_eq_true yb.symm, Bool.or_true]), ← yb]; omega
      · rw [if_neg yb]
        by_cases ya : q = a
        · rw [if_pos ya, if_pos (by rw [decide_eq_true ya.symm, Bool.true_or]), ← ya]; omega
        · rw [if_neg ya, if_neg (by rw [decide_eq_false (fun e => ya e.symm), decide_eq_false (fun e => yb e.symm)]; decide)]; omega
    refine ⟨k12, ?_, fun w hw hat => ?_⟩
    · rw [rl]
      by_cases yb : q = b
      · rw [if_pos yb]; omega
      · rw [if_neg yb]
        by_cases ya : q = a
        · rw [if_pos ya]; omega
        · rw [if_neg ya]; exact k2
    · by_cases y : (w : Int) = J 1 1
      · have ew : w = (J 1 1).toNat := by omega
        rw [cnE q w (by omega), ew, ← show J 12 q = (dm_cn (mn_at J q) (J 1 1).toNat : Int) from k1, ri]
        rw [ew, atN, Bool.or_eq_true, decide_eq_true_eq, decide_eq_true_eq] at hat
        rcases hat with e | e
        · rw [← e]
          rw [if_neg (by rw [← e] at k2; omega), if_pos rfl]; omega
        · rw [← e, if_pos rfl]; omega
      · have hw' : (w : Int) < J 1 1 := by omega
        rw [atE q w hw'] at hat
        have old := k3 w hw' hat
        have lt := dm_cnG (P := mn_at J q) (w := w) (n := (J 1 1).toNat) (by omega) hat
        rw [cnE q w (by omega), ri, if_neg ?_, if_neg ?_]
        · exact old
        · by_cases e : q = a
          · subst e; omega
          · omega
        · by_cases e : q = b
          · subst e; omega
          · omega
  · refine dm_C (dm_add h5 oa.1 oa.2 ob.1 ob.2 oab) (fun i j i0 i1 j0 j1 => rd i j i0 i1 j0 j1) (fun i j => ⟨fun ⟨w, w0, w1, wt, h⟩ => ?_, fun h => ?_⟩)
    · rw [(rw_ w).1, (rw_ w).2.1] at h
      by_cases y : w = J 1 1
      · rw [if_pos y, if_pos y] at h
        rcases h with ⟨e1, e2⟩ | ⟨e1, e2⟩
        · exact Or.inr (Or.inl ⟨e1.symm, e2.symm⟩)
        · exact Or.inr (Or.inr ⟨e2.symm, e1.symm⟩)
      · rw [if_neg y, if_neg y] at h
        exact Or.inl ⟨w, w0, by omega, wt, h⟩
    · rcases h with ⟨w, w0, w1, wt, h⟩ | ⟨e1, e2⟩ | ⟨e1, e2⟩
      · refine ⟨w, w0, by omega, wt, ?_⟩
        rw [(rw_ w).1, (rw_ w).2.1, if_neg (by omega), if_neg (by omega)]; exact h
      · refine ⟨J 1 1, h1.1, by omega, rfl, ?_⟩
        rw [(rw_ _).1, (rw_ _).2.1, if_pos rfl, if_pos rfl]; exact Or.inl ⟨e1.symm, e2.symm⟩
      · refine ⟨J 1 1, h1.1, by omega, rfl, ?_⟩
        rw [(rw_ _).1, (rw_ _).2.1, if_pos rfl, if_pos rfl]; exact Or.inr ⟨e2.symm, e1.symm⟩
  · exact (rf i j i0 i1 j0 j1 e).trans (h6 i j i0 i1 j0 j1 e)
theorem fl_21 {w : Int} {Q : lf_Z → Prop} (a0 : 0 ≤ a) (a1 : a < 12) (h4 : s.1 12 a < 4) (h : Q (lf_up (lf_up s.1 11 (a * 4 + s.1 12 a) w) 12 a (s.1 12 a + 1), s.2.1, s.2.2)) : fw_21 a w Q s := by
  unfold fw_21
  exact fun _ _ => ⟨fun c => absurd c (by omega), fun _ _ => h⟩
/-- way of the class -/
theorem fl_17 {Q : Int → lf_Z → Prop} (hW : mn_W s.1) (k0 : ¬ wy_ok s.1 a b → Q (-1) s) (k : wy_ok s.1 a b → (c = 0 ∨ c = 1) → ∀ t : lf_Z, wy_R s.1 t.1 a b c → t.2 = s.2 → Q (s.1 1 1) t) : fw_17 a b c Q s := by
  have hW' := hW
  obtain ⟨h0, h1, h2, h3, h4, h5, h6⟩ := hW
  unfold fw_17
  refine fl_18 ⟨fun z => k0 (fun q => ?_), fun z => fl_18 ⟨fun z2 => k0 (fun q => ?_), fun z2 _ _ => ⟨fun ne => ?_, fun e => k0 (fun q => e q.2.2.1)⟩⟩⟩
  · rw [decide_eq_true q.1.1, decide_eq_true q.1.2] at z; cases z
  · rw [decide_eq_true q.2.1.1, decide_eq_true q.2.1.2] at z2; cases z2
  · rw [Bool.and_eq_true, decide_eq_true_eq, decide_eq_true_eq] at z z2
    unfold fw_19
    intro _
    refine ⟨fun d => k0 (fun q => by have := q.2.2.2.1; omega), fun d _ _ => ⟨fun e => k0 (fun q => by have := q.2.2.2.2.1; omega), fun e _ _ => ⟨fun e2 _ hc => ?_, fun e2 => k0 (fun q => e2 q.2.2.2.2.2)⟩⟩⟩
    have ok : wy_ok s.1 a b := ⟨z, z2, ne, by omega, by omega, e2⟩
    have K := k ok hc
    generalize hn : s.1 1 1 = n at *
    obtain ⟨u, hu⟩ : ∃ u : lf_Z, u = (lf_up (lf_up (lf_up (lf_up s.1 4 n a) 5 n b) 6 n c) 1 1 (n + 1), s.2.1, s.2.2) := ⟨_, rfl⟩
    rw [← hu, show n + 1 - 1 = n by omega]
    have uo : ∀ q : Nat, q ≠ 1 → q ≠ 4 → q ≠ 5 → q ≠ 6 → u.1 q = s.1 q := fun q q1 q4 q5 q6 => by rw [hu]; exact (zu_r q1).trans ((lf_up_row q6).trans ((lf_up_row q5).trans (lf_up_row q4)))
    have u1 : ∀ i : Int, u.1 1 i = if i = 1 then n + 1 else s.1 1 i := fun i => by
      rw [hu]
      by_cases y : i = 1
      · rw [y, if_pos rfl]; exact zu_s
      · rw [if_neg y]; exact (zu_i y).trans ((lf_up_c (by decide)).trans ((lf_up_c (by decide)).trans (lf_up_c (by decide))))
    have u4 : ∀ i : Int, u.1 4 i = if i = n then a else s.1 4 i := fun i => by
      rw [hu]
      refine (zu_c (by decide)).trans ((lf_up_c (by decide)).trans ((lf_up_c (by decide)).trans ?_))
      by_cases y : i = n
      · rw [y, if_pos rfl]; exact lf_up_s
      · rw [if_neg y]; exact lf_up_i y
    have u5 : ∀ i : Int, u.1 5 i = if i = n then b else s.1 5 i := fun i => by
      rw [hu]
      refine (zu_c (by decide)).trans ((lf_up_c (by decide)).trans ?_)
      by_cases y : i = n
      · rw [y, if_pos rfl]; exact lf_up_s
      · rw [if_neg y]; exact (lf_up_i y).trans (lf_up_c (by decide))
    have u6 : ∀ i : Int, u.1 6 i = if i = n then c else s.1 6 i := fun i => by
      rw [hu]
      refine (zu_c (by decide)).trans ?_
      by_cases y : i = n
      · rw [y, if_pos rfl]; exact lf_up_s
      · rw [if_neg y]; exact (lf_up_i y).trans ((lf_up_c (by decide)).trans (lf_up_c (by decide)))
    have u2 : u.2 = s.2 := by rw [hu]
    unfold fw_20
    intro _
    rw [u4 n, if_pos rfl]
    refine fl_21 z.1 (by omega) (by rw [uo 12 (by decide) (by decide) (by decide) (by decide)]; omega) ?_
    rw [uo 12 (by decide) (by decide) (by decide) (by decide)]
    obtain ⟨v, hv⟩ : ∃ v : lf_Z, v = (lf_up (lf_up u.1 11 (a * 4 + s.1 12 a) n) 12 a (s.1 12 a + 1), u.2.1, u.2.2) := ⟨_, rfl⟩
    rw [← hv]
    have vo : ∀ q : Nat, q ≠ 11 → q ≠ 12 → v.1 q = u.1 q := fun q q1 q2 => by rw [hv]; exact (zu_r q2).trans (lf_up_row q1)
    have v12 : ∀ q : Int, v.1 12 q = if q = a then s.1 12 a + 1 else s.1 12 q := fun q => by
      rw [hv]
      by_cases y : q = a
      · rw [y, if_pos rfl]; exact zu_s
      · rw [if_neg y]; exact (zu_i y).trans ((lf_up_c (by decide)).trans (by rw [uo 12 (by decide) (by decide) (by decide) (by decide)]))
    have v11 : ∀ i : Int, v.1 11 i = if i = a * 4 + s.1 12 a then n else s.1 11 i := fun i => by
      rw [hv]
      refine (zu_c (by decide)).trans ?_
      by_cases y : i = a * 4 + s.1 12 a
      · rw [y, if_pos rfl]; exact lf_up_s
      · rw [if_neg y]; exact (lf_up_i y).trans (by rw [uo 11 (by decide) (by decide) (by decide) (by decide)])
    have v2 : v.2 = s.2 := by rw [hv]; exact u2
    have vb : v.1 12 b = s.1 12 b := by rw [v12, if_neg (by omega)]
    rw [vo 5 (by decide) (by decide), u5 n, if_pos rfl]
    refine fl_21 z2.1 (by omega) (by rw [vb]; exact e2) ?_
    rw [vb]
    obtain ⟨y, hy⟩ : ∃ y : lf_Z, y = (lf_up (lf_up v.1 11 (b * 4 + s.1 12 b) n) 12 b (s.1 12 b + 1), v.2.1, v.2.2) := ⟨_, rfl⟩
    rw [← hy]
    have yo : ∀ q : Nat, q ≠ 11 → q ≠ 12 → y.1 q = u.1 q := fun q q1 q2 => by rw [hy]; exact ((zu_r q2).trans (lf_up_row q1)).trans (vo q q1 q2)
    have y12 : ∀ q : Int, y.1 12 q = if q = b then s.1 12 b + 1 else if q = a then s.1 12 a + 1 else s.1 12 q := fun q => by
      rw [hy]
      by_cases e : q = b
      · rw [e, if_pos rfl]; exact zu_s
      · rw [if_neg e]; exact (zu_i e).trans ((lf_up_c (by decide)).trans (v12 q))
    have y11 : ∀ i : Int, y.1 11 i = if i = b * 4 + s.1 12 b then n else if i = a * 4 + s.1 12 a then n else s.1 11 i := fun i => by
      rw [hy]
      refine (zu_c (by decide)).trans ?_
      by_cases e : i = b * 4 + s.1 12 b
      · rw [e, if_pos rfl]; exact lf_up_s
      · rw [if_neg e]; exact (lf_up_i e).trans (v11 i)
    have y2 : y.2 = s.2 := by rw [hy]; exact v2
    have y13 : y.1 13 = s.1 13 := (yo 13 (by decide) (by decide)).trans (uo 13 (by decide) (by decide) (by decide) (by decide))
    rw [yo 4 (by decide) (by decide), yo 5 (by decide) (by decide), u4 n, u5 n, if_pos rfl, if_pos rfl]
    have y10 : y.1 1 0 = s.1 1 0 := by rw [yo 1 (by decide) (by decide), u1, if_neg (by decide)]
    refine fl_22 (d := mn_d s.1 13) h5 y10 h0.1 h0.2 (fun i j _ _ _ _ => by rw [y13]; rfl) z.1 z.2 z2.1 z2.2 (fun t tc t2 td tf => ?_)
    have t1 : ∀ i : Int, t.1 1 i = if i = 1 then n + 1 else s.1 1 i := fun i => by rw [tc 1 (by decide), yo 1 (by decide) (by decide)]; exact u1 i
    show Q (t.1 1 1 - 1) t
    rw [t1 1, if_pos rfl, show n + 1 - 1 = n by omega]
    refine K t ⟨fun q q1 q4 q5 q6 q11 q12 q13 => by rw [tc q q13, yo q q11 q12]; exact uo q q1 q4 q5 q6, ⟨by rw [t1, if_neg (by decide)], by rw [t1, if_pos rfl, hn], by rw [t1, if_neg (by decide)]⟩, fun w => ?_, fun q => by rw [tc 12 (by decide)]; exact y12 q, fun i => by rw [tc 11 (by decide), hn]; exact y11 i, td, fun i j i0 i1 j0 j1 e => by rw [tf i j i0 i1 j0 j1 e, y13]⟩ (t2.trans y2)
    rw [tc 4 (by decide), tc 5 (by decide), tc 6 (by decide), yo 4 (by decide) (by decide), yo 5 (by decide) (by decide), yo 6 (by decide) (by decide), hn]
    exact ⟨u4 w, u5 w, u6 w⟩
/-! the reference -/
theorem fl_186 {Q : Int → lf_Z → Prop} (hL : rr_L J (s.1 96)) (hW : mn_W J) (h : ∀ x : Int, (∀ w : Int, 0 ≤ w → w < 16 → bt_t x w = (decide (w < J 1 1) && mn_at J a w.toNat)) → Q x s) : fw_186 a Q s := by
  have h1 := hW.2.1
  unfold fw_186
  refine ⟨fun x i u => u = s ∧ 0 ≤ i ∧ i ≤ J 1 1 ∧ ∀ w : Int, 0 ≤ w → w < 16 → bt_t x w = (decide (w < i) && mn_at J a w.toNat), ?_, ⟨rfl, Int.le_refl 0, h1.1, fun w w0 _ => by rw [bt_t0, decide_eq_false (by omega), Bool.false_and]⟩⟩
  intro x i u ⟨eu, i0, i1, hx⟩
  rw [eu]
  unfold fw_186_p4
  rw [hL.2.1]
  intro _ _
  refine ⟨fun d => h x (fun w w0 w1 => by rw [hx w w0 w1, show i = J 1 1 by omega]), fun d => fl_187 hL i0 (by omega) ?_⟩
  have q4 := hW.2.2.2.1 i i0 (by omega)
  have atI : mn_at J a i.toNat = true ↔ 0 ≤ mn_ac J i a := by
    rw [mn_atE, show ((i.toNat : Nat) : Int) = i by omega]
    unfold mn_ac
    (repeat' split) <;> omega
  intro _
  refine ⟨fun e => ?_, fun e => ?_⟩
  · unfold fw_186_p31
    refine ⟨rfl, by omega, by omega, fun w w0 w1 => ?_⟩
    rw [bt_To0, hx w w0 w1]
    by_cases y : w = i
    · have hf : mn_at J a i.toNat = false := by cases q : mn_at J a i.toNat with
        | false => rfl
        | true => have := atI.mp q; omega
      rw [y, hf, Bool.and_false, Bool.and_false]
    · by_cases y2 : w < i
      · rw [decide_eq_true y2, decide_eq_true (by omega)]
      · rw [decide_eq_false y2, decide_eq_false (by omega)]
  · unfold fw_186_p31
    refine ⟨rfl, by omega, by omega, fun w w0 w1 => ?_⟩
    rw [bt_Tor w0 (by omega) i0 (by omega), hx w w0 w1]
    by_cases y : w = i
    · rw [y, atI.mpr (by omega), decide_eq_true rfl, decide_eq_true (show i < i + 1 by omega), Bool.or_true, Bool.and_true]
    · rw [decide_eq_false y, Bool.or_false]
      by_cases y2 : w < i
      · rw [decide_eq_true y2, decide_eq_true (by omega)]
      · rw [decide_eq_false y2, decide_eq_false (by omega)]
theorem fl_188 {Q : Int → lf_Z → Prop} (h : Q (dm_cn (fun w => bt_t x w) 16) s) : fw_188 x Q s := by
  unfold fw_188
  refine ⟨fun y i u => u = s ∧ ∃ n : Nat, i = n ∧ n ≤ 16 ∧ y = dm_cn (fun w => bt_t x w) n, ?_, ⟨rfl, 0, rfl, by decide, rfl⟩⟩
  intro y i u ⟨eu, n, ei, n1, ey⟩
  subst ei
  rw [eu, ey]
  unfold fw_188_p4
  intro _
  refine ⟨fun d => ?_, fun d => ⟨rfl, n + 1, by omega, by omega, ?_⟩⟩
  · have : n = 16 := by omega
    rw [this]; exact h
  · rw [bt_T (by omega) (by omega)]
    have e : dm_cn (fun w : Nat => bt_t x w) (n + 1) = dm_cn (fun w : Nat => bt_t x w) n + (if bt_t x (n : Int) = true then 1 else 0) := rfl
    rw [e]
    split <;> omega
theorem wy_cn (hW : mn_W J) (a0 : 0 ≤ a) (a1 : a < 12) (hx : ∀ w : Int, 0 ≤ w → w < 16 → bt_t x w = (decide (w < J 1 1) && mn_at J a w.toNat)) : (dm_cn (fun w : Nat => bt_t x w) 16 : Int) = J 12 a := by
  have h1 := hW.2.1
  rw [(hW.2.2.2.2.1 a a0 a1).1]
  have e1 : dm_cn (fun w : Nat => bt_t x w) 16 = dm_cn (fun w : Nat => bt_t x w) (J 1 1).toNat := dm_cnE (fun v v0 v1 => by rw [hx v (by omega) (by omega), decide_eq_false (by omega), Bool.false_and]) (by omega)
  rw [e1, dm_cnK (P' := mn_at J a) (fun w hw => by rw [hx w (by omega) (by omega), decide_eq_true (by omega), Bool.true_and, show ((w : Int)).toNat = w by omega])]
theorem fl_184 {Q : Int → lf_Z → Prop} (hL : rr_L J (s.1 96)) (hW : mn_W J) (hc : c = 0 ∨ c = 1) (k0 : ¬ wy_ok J a b → Q (-1) s)
    (k : wy_ok J a b → ∀ t : lf_Z, rr_f s t → t.1 96 1 = J 1 1 + 1 → t.1 96 (50 + 4 * J 1 1) = a → t.1 96 (50 + 4 * J 1 1 + 1) = b → t.1 96 (50 + 4 * J 1 1 + 2) = c → t.1 96 (50 + 4 * J 1 1 + 3) = 1 → t.1 96 (174 + 5 * J 1 1) = 0 → (∀ i : Int, i ≠ 1 → ¬ (50 + 4 * J 1 1 ≤ i ∧ i ≤ 50 + 4 * J 1 1 + 3) → i ≠ 174 + 5 * J 1 1 → t.1 96 i = s.1 96 i) → Q (J 1 1) t) : fw_184 a b c Q s := by
  have h0 := hW.1
  have h1 := hW.2.1
  unfold fw_184 fw_185
  rw [hL.1]
  refine fl_183 ⟨fun z => k0 (fun q => ?_), fun z => ?_⟩
  · have := q.1
    rw [decide_eq_true this.1, decide_eq_true (show a ≤ J 1 0 - 1 by omega)] at z; cases z
  rw [Bool.and_eq_true, decide_eq_true_eq, decide_eq_true_eq] at z
  rw [hL.1]
  refine fl_183 ⟨fun z2 => k0 (fun q => ?_), fun z2 _ _ => ⟨fun e => k0 (fun q => q.2.2.1 e), fun ne => ?_⟩⟩
  · have := q.2.1
    rw [decide_eq_true this.1, decide_eq_true (show b ≤ J 1 0 - 1 by omega)] at z2; cases z2
  rw [Bool.and_eq_true, decide_eq_true_eq, decide_eq_true_eq] at z2
  refine fl_186 hL hW (fun x hx => fl_188 ?_)
  rw [wy_cn hW z.1 (by omega) hx]
  have ca := (hW.2.2.2.2.1 a z.1 (by omega)).2.1
  have cb := (hW.2.2.2.2.1 b z2.1 (by omega)).2.1
  intro _
  refine ⟨fun e => k0 (fun q => by have := q.2.2.2.2.1; omega), fun e => ?_⟩
  refine fl_186 hL hW (fun x hx => fl_188 ?_)
  rw [wy_cn hW z2.1 (by omega) hx]
  intro _
  refine ⟨fun e2 => k0 (fun q => by have := q.2.2.2.2.2; omega), fun e2 => ?_⟩
  rw [hL.2.1]
  intro _
  refine ⟨fun e3 _ _ _ => ?_, fun e3 => k0 (fun q => by have := q.2.2.2.1; omega)⟩
  have ok : wy_ok J a b := ⟨⟨z.1, by omega⟩, ⟨z2.1, by omega⟩, ne, by omega, by omega, by omega⟩
  have K := k ok
  have A1 := hL.2.1
  generalize hn : J 1 1 = n at *
  obtain ⟨u, hu⟩ : ∃ u : lf_Z, u = (lf_up (lf_up s.1 96 (50 + 4 * n) a) 96 (50 + 4 * n + 1) b, s.2.1, s.2.2) := ⟨_, rfl⟩
  rw [← hu]
  have uc : ∀ q : Nat, q ≠ 96 → u.1 q = s.1 q := fun q hq => by rw [hu]; exact (zu_r hq).trans (lf_up_row hq)
  have u2 : u.2 = s.2 := by rw [hu]
  have ua : u.1 96 (50 + 4 * n) = a := by rw [hu]; exact (zu_i (by omega)).trans lf_up_s
  have ub : u.1 96 (50 + 4 * n + 1) = b := by rw [hu]; exact zu_s
  have uo : ∀ i : Int, i ≠ 50 + 4 * n → i ≠ 50 + 4 * n + 1 → u.1 96 i = s.1 96 i := fun i i0 i1 => by rw [hu]; exact (zu_i i1).trans (lf_up_i i0)
  have p106 : ∀ v : Int, v = c → fw_184_p106 Q (50 + 4 * n) (50 + 4 * n + 2) v u := by
    intro v hv
    unfold fw_184_p106
    obtain ⟨G, hG⟩ : ∃ G : Nat → Int → Int, G = lf_up (lf_up u.1 96 (50 + 4 * n + 2) v) 96 (50 + 4 * n + 3) 1 := ⟨_, rfl⟩
    rw [← hG]
    have g1 : G 96 1 = n := by rw [hG]; exact (lf_up_i (by omega)).trans ((lf_up_i (by omega)).trans ((uo 1 (by omega) (by omega)).trans A1))
    rw [g1]
    intro _ _ _
    obtain ⟨F, hF⟩ : ∃ F : Nat → Int → Int, F = lf_up G 96 (174 + 5 * n) 0 := ⟨_, rfl⟩
    rw [← hF]
    have f1 : F 96 1 = n := by rw [hF]; exact (lf_up_i (by omega)).trans g1
    rw [f1, show n + 1 - 1 = n by omega]
    have Fi : ∀ i : Int, i ≠ 174 + 5 * n → F 96 i = G 96 i := fun i hi => by rw [hF]; exact lf_up_i hi
    have gc : G 96 (50 + 4 * n + 2) = v := by rw [hG]; exact (lf_up_i (by omega)).trans lf_up_s
    have gd : G 96 (50 + 4 * n + 3) = 1 := by rw [hG]; exact lf_up_s
    have go : ∀ i : Int, i ≠ 50 + 4 * n + 2 → i ≠ 50 + 4 * n + 3 → G 96 i = u.1 96 i := fun i i0 i1 => by rw [hG]; exact (lf_up_i i1).trans (lf_up_i i0)
    refine K _ ⟨fun q hq => (zu_r hq).trans ?_, u2⟩ zu_s ((zu_i (by omega)).trans ((Fi _ (by omega)).trans ((go _ (by omega) (by omega)).trans ua))) ((zu_i (by omega)).trans ((Fi _ (by omega)).trans ((go _ (by omega) (by omega)).trans ub))) ((zu_i (by omega)).trans ((Fi _ (by omega)).trans (gc.trans hv))) ((zu_i (by omega)).trans ((Fi _ (by omega)).trans gd)) ((zu_i (by omega)).trans (by rw [hF]; exact lf_up_s)) (fun i i0 i1 i2 => (zu_i i0).trans ((Fi i i2).trans ((go i (by omega) (by omega)).trans (uo i (by omega) (by omega)))))
    rw [hF, hG]
    exact (lf_up_row hq).trans ((lf_up_row hq).trans ((lf_up_row hq).trans (uc q hq)))
  exact ⟨fun d => p106 0 d.symm, fun d => p106 1 (by omega)⟩
/-- land, stand with a way more -/
theorem wy_L (hL : rr_L J A) (hW : mn_W J) (ok : wy_ok J a b) (hR : wy_R J K a b c) (b1 : B 1 = J 1 1 + 1) (ba : B (50 + 4 * J 1 1) = a) (bb : B (50 + 4 * J 1 1 + 1) = b) (bc : B (50 + 4 * J 1 1 + 2) = c) (bo : ∀ i : Int, i ≠ 1 → ¬ (50 + 4 * J 1 1 ≤ i ∧ i ≤ 50 + 4 * J 1 1 + 3) → i ≠ 174 + 5 * J 1 1 → B i = A i) : rr_L K B := by
  obtain ⟨r0, ⟨r10, r11, r12⟩, rw_, _⟩ := hR
  obtain ⟨w0, w1, w2, _⟩ := hW
  have o16 := ok.2.2.2.1
  obtain ⟨l0, l1, l2, l3, l4, l5⟩ := hL
  refine ⟨(bo 0 (by omega) (by omega) (by omega)).trans (l0.trans r10.symm), b1.trans r11.symm, (bo 2 (by omega) (by omega) (by omega)).trans (l2.trans r12.symm), fun q q0 q1 => ?_, fun w x0 x1 => ?_, fun q q0 q1 => ?_⟩
  · rw [r0 2 (by decide) (by decide) (by decide) (by decide) (by decide) (by decide) (by decide), r0 3 (by decide) (by decide) (by decide) (by decide) (by decide) (by decide) (by decide), bo (14 + 3 * q) (by omega) (by omega) (by omega), bo (14 + 3 * q + 1) (by omega) (by omega) (by omega)]
    exact l3 q q0 (by omega)
  · rw [(rw_ w).1, (rw_ w).2.1, (rw_ w).2.2]
    by_cases y : w = J 1 1
    · rw [y, if_pos rfl, if_pos rfl, if_pos rfl]; exact ⟨ba, bb, bc⟩
    · rw [if_neg y, if_neg y, if_neg y, bo (50 + 4 * w) (by omega) (by omega) (by omega), bo (50 + 4 * w + 1) (by omega) (by omega) (by omega), bo (50 + 4 * w + 2) (by omega) (by omega) (by omega)]
      exact l4 w x0 (by omega)
  · rw [r0 7 (by decide) (by decide) (by decide) (by decide) (by decide) (by decide) (by decide), r0 8 (by decide) (by decide) (by decide) (by decide) (by decide) (by decide) (by decide), r0 9 (by decide) (by decide) (by decide) (by decide) (by decide) (by decide) (by decide), r0 10 (by decide) (by decide) (by decide) (by decide) (by decide) (by decide) (by decide), bo (126 + 6 * q + 0) (by omega) (by omega) (by omega), bo (126 + 6 * q + 1) (by omega) (by omega) (by omega), bo (126 + 6 * q + 2) (by omega) (by omega) (by omega), bo (126 + 6 * q + 5) (by omega) (by omega) (by omega)]
    exact l5 q q0 (by omega)
theorem wy_S (hS : rr_S (J 1 1) n2 f A) (hW : mn_W J) (ok : wy_ok J a b) (h6 : n2 ≤ 6) (hw : rr_W n1 (J 1 1) f) (bd : B (50 + 4 * J 1 1 + 3) = 1) (bo : ∀ i : Int, i ≠ 1 → ¬ (50 + 4 * J 1 1 ≤ i ∧ i ≤ 50 + 4 * J 1 1 + 3) → i ≠ 174 + 5 * J 1 1 → B i = A i) : rr_S (J 1 1 + 1) n2 f B := by
  have w1 := hW.2.1
  have o16 := ok.2.2.2.1
  obtain ⟨s1, s2, s3, s4, s5, s6⟩ := hS
  refine ⟨?_, ?_, fun q q0 q1 => ?_, fun q q0 q1 => ?_, fun q q0 q1 => ?_, fun w w0 w1 => ?_⟩
  · rw [bo 3 (by omega) (by omega) (by omega)]; exact s1
  · rw [bo 6 (by omega) (by omega) (by omega)]; exact s2
  · rw [bo (114 + 3 * q) (by omega) (by omega) (by omega), bo (114 + 3 * q + 1) (by omega) (by omega) (by omega), bo (114 + 3 * q + 2) (by omega) (by omega) (by omega)]; exact s3 q q0 q1
  · rw [bo (126 + 6 * q + 3) (by omega) (by omega) (by omega), bo (126 + 6 * q + 4) (by omega) (by omega) (by omega)]; exact s4 q q0 q1
  · rw [bo (14 + 3 * q + 2) (by omega) (by omega) (by omega)]; exact s5 q q0 q1
  · by_cases y : w = J 1 1
    · rw [y, bd]
      unfold rr_op
      rw [hw.2 (J 1 1) (Int.le_refl _) o16, if_neg (by decide)]
    · rw [bo (50 + 4 * w + 3) (by omega) (by omega) (by omega)]; exact s6 w w0 (by omega)
end WY
/-! person: both sides -/
section PN
variable {J K : Nat → Int → Int} {s t u : lf_Z} {f g T A B : Int → Int} {a b c d p x j n1 n2 m : Int} {H : List rr_H}
def pn_ok (J : Nat → Int → Int) (a d : Int) : Prop := (0 ≤ a ∧ a ≤ 9) ∧ (0 ≤ d ∧ d < J 1 0) ∧ J 1 2 < 6
/-- the land, the stand K: one person more -/
def pn_R (J K : Nat → Int → Int) (a b c d : Int) : Prop :=
  (∀ q : Nat, q ≠ 1 → q ≠ 7 → q ≠ 8 → q ≠ 9 → q ≠ 10 → q ≠ 19 → q ≠ 20 → K q = J q) ∧ (K 1 0 = J 1 0 ∧ K 1 1 = J 1 1 ∧ K 1 2 = J 1 2 + 1)
  ∧ ∀ q : Int, K 7 q = (if q = J 1 2 then a else J 7 q) ∧ K 8 q = (if q = J 1 2 then b else J 8 q) ∧ K 9 q = (if q = J 1 2 then c else J 9 q) ∧ K 10 q = (if q = J 1 2 then d else J 10 q) ∧ K 19 q = (if q = J 1 2 then d else J 19 q) ∧ K 20 q = (if q = J 1 2 then -1 else J 20 q)
def pn_f (f : Int → Int) (n d : Int) : Int → Int := ds_u1 (ds_u1 f (12 + 2 * n) d) (12 + 2 * n + 1) (-1)
theorem pn_fo {n : Int} (h1 : j ≠ 12 + 2 * n) (h2 : j ≠ 12 + 2 * n + 1) : pn_f f n d j = f j := (if_neg h2).trans (if_neg h1)
theorem pn_f0 {n : Int} : pn_f f n d (12 + 2 * n) = d := (if_neg (by omega)).trans (if_pos rfl)
theorem pn_f1 {n : Int} : pn_f f n d (12 + 2 * n + 1) = -1 := if_pos rfl
theorem fl_23 {Q : Int → lf_Z → Prop} (h2 : 0 ≤ s.1 1 2 ∧ s.1 1 2 ≤ 6) (k0 : ¬ pn_ok s.1 a d → Q (-1) s) (k : pn_ok s.1 a d → (b = 0 ∨ b = 1) → (c = 0 ∨ c = 1) → ∀ t : lf_Z, pn_R s.1 t.1 a b c d → t.2 = s.2 → Q (s.1 1 2) t) : fw_23 a b c d Q s := by
  unfold fw_23
  refine fl_15 ⟨fun z => k0 (fun q => ?_), fun z => fl_18 ⟨fun z2 => ?_, fun z2 => k0 (fun q => ?_)⟩⟩
  · rw [decide_eq_true q.1.1, decide_eq_true q.1.2] at z; cases z
  · rw [Bool.and_eq_true, decide_eq_true_eq, decide_eq_true_eq] at z z2
    unfold fw_24
    intro _
    refine ⟨fun e _ hb hc => ?_, fun e _ => ⟨fun _ => k0 (fun q => e q.2.2), fun e2 => absurd rfl e2⟩⟩
    have K := k ⟨z, z2, e⟩ hb hc
    generalize hn : s.1 1 2 = n at *
    rw [show n + 1 - 1 = n by omega]
    intro _
    refine ⟨fun e2 => absurd e2 (by omega), fun _ _ => ?_⟩
    refine K _ ⟨fun q q1 q7 q8 q9 q10 q19 q20 => ?_, ⟨?_, ?_, ?_⟩, fun q => ⟨?_, ?_, ?_, ?_, ?_, ?_⟩⟩ rfl
    · exact (zu_r q20).trans ((lf_up_row q19).trans ((lf_up_row q1).trans ((lf_up_row q10).trans ((lf_up_row q9).trans ((lf_up_row q8).trans (lf_up_row q7))))))
    · exact (zu_c (by decide)).trans ((lf_up_c (by decide)).trans ((zu_i (by decide)).trans ((lf_up_c (by decide)).trans ((lf_up_c (by decide)).trans ((lf_up_c (by decide)).trans (lf_up_c (by decide)))))))
    · exact (zu_c (by decide)).trans ((lf_up_c (by decide)).trans ((zu_i (by decide)).trans ((lf_up_c (by decide)).trans ((lf_up_c (by decide)).trans ((lf_up_c (by decide)).trans (lf_up_c (by decide)))))))
    · rw [hn]; exact (zu_c (by decide)).trans ((lf_up_c (by decide)).trans zu_s)
    · rw [hn]
      refine (zu_c (by decide)).trans ((lf_up_c (by decide)).trans ((zu_c (by decide)).trans ((lf_up_c (by decide)).trans ((lf_up_c (by decide)).trans ((lf_up_c (by decide)).trans ?_)))))
      by_cases y : q = n
      · rw [y, if_pos rfl]; exact lf_up_s
      · rw [if_neg y]; exact lf_up_i y
    · rw [hn]
      refine (zu_c (by decide)).trans ((lf_up_c (by decide)).trans ((zu_c (by decide)).trans ((lf_up_c (by decide)).trans ((lf_up_c (by decide)).trans ?_))))
      by_cases y : q = n
      · rw [y, if_pos rfl]; exact lf_up_s
      · rw [if_neg y]; exact (lf_up_i y).trans (lf_up_c (by decide))
    · rw [hn]
      refine (zu_c (by decide)).trans ((lf_up_c (by decide)).trans ((zu_c (by decide)).trans ((lf_up_c (by decide)).trans ?_)))
      by_cases y : q = n
      · rw [y, if_pos rfl]; exact lf_up_s
      · rw [if_neg y]; exact (lf_up_i y).trans ((lf_up_c (by decide)).trans (lf_up_c (by decide)))
    · rw [hn]
      refine (zu_c (by decide)).trans ((lf_up_c (by decide)).trans ((zu_c (by decide)).trans ?_))
      by_cases y : q = n
      · rw [y, if_pos rfl]; exact lf_up_s
      · rw [if_neg y]; exact (lf_up_i y).trans ((lf_up_c (by decide)).trans ((lf_up_c (by decide)).trans (lf_up_c (by decide))))
    · rw [hn]
      refine (zu_c (by decide)).trans ?_
      by_cases y : q = n
      · rw [y, if_pos rfl]; exact lf_up_s
      · rw [if_neg y]; exact (lf_up_i y).trans ((zu_c (by decide)).trans ((lf_up_c (by decide)).trans ((lf_up_c (by decide)).trans ((lf_up_c (by decide)).trans (lf_up_c (by decide))))))
    · rw [hn]
      by_cases y : q = n
      · rw [y, if_pos rfl]; exact zu_s
      · rw [if_neg y]; exact (zu_i y).trans ((lf_up_c (by decide)).trans ((zu_c (by decide)).trans ((lf_up_c (by decide)).trans ((lf_up_c (by decide)).trans ((lf_up_c (by decide)).trans (lf_up_c (by decide)))))))
  · rw [decide_eq_true q.2.1.1, decide_eq_true q.2.1.2] at z2; cases z2
theorem fl_191 {v : Int} {Q : lf_Z → Prop} (h : Q (lf_up s.1 96 (126 + 6 * a + 0) v, s.2.1, s.2.2)) : fw_191 a v Q s := by unfold fw_191; exact fun _ => h
theorem fl_191b {v : Int} {Q : lf_Z → Prop} (h : Q (lf_up s.1 96 (126 + 6 * a + 1) v, s.2.1, s.2.2)) : fw_191b a v Q s := by unfold fw_191b; exact fun _ => h
theorem fl_191c {v : Int} {Q : lf_Z → Prop} (h : Q (lf_up s.1 96 (126 + 6 * a + 2) v, s.2.1, s.2.2)) : fw_191c a v Q s := by unfold fw_191c; exact fun _ => h
theorem fl_191f {v : Int} {Q : lf_Z → Prop} (h : Q (lf_up s.1 96 (126 + 6 * a + 5) v, s.2.1, s.2.2)) : fw_191f a v Q s := by unfold fw_191f; exact fun _ => h
/-- the row A with a person more is B -/
def pn_B (A B : Int → Int) (n a b c d : Int) : Prop := B 2 = n + 1 ∧ B (126 + 6 * n + 0) = a ∧ B (126 + 6 * n + 1) = b ∧ B (126 + 6 * n + 2) = c ∧ B (126 + 6 * n + 3) = d ∧ B (126 + 6 * n + 4) = -1 ∧ B (126 + 6 * n + 5) = d ∧ ∀ i : Int, i ≠ 2 → ¬ (126 + 6 * n ≤ i ∧ i ≤ 126 + 6 * n + 5) → B i = A i
theorem fl_190 {Q : Int → lf_Z → Prop} (hL : rr_L J (s.1 96)) (hW : mn_W J) (k0 : ¬ ((0 ≤ d ∧ d < J 1 0) ∧ J 1 2 < 6) → Q (-1) s) (k : (0 ≤ d ∧ d < J 1 0) → J 1 2 < 6 → ∀ t : lf_Z, rr_f s t → pn_B (s.1 96) (t.1 96) (J 1 2) a b c d → Q (J 1 2) t) : fw_190 a b c d Q s := by
  have h2 := hW.2.2.1
  unfold fw_190 fw_185
  rw [hL.1]
  refine fl_183 ⟨fun z => k0 (fun q => ?_), fun z => ?_⟩
  · have := q.1
    rw [decide_eq_true this.1, decide_eq_true (show d ≤ J 1 0 - 1 by omega)] at z; cases z
  · rw [Bool.and_eq_true, decide_eq_true_eq, decide_eq_true_eq] at z
    have A2 := hL.2.2.1
    rw [A2]
    intro _
    refine ⟨fun e => ?_, fun e => k0 (fun q => by have := q.2; omega)⟩
    have K := k ⟨z.1, by omega⟩ (by omega)
    generalize hn : J 1 2 = n at *
    refine fl_191 (fl_191b (fl_191c (fl_191d (fl_191e (fl_191f ?_)))))
    obtain ⟨u, hu⟩ : ∃ u : lf_Z, u = (lf_up (lf_up (lf_up (lf_up (lf_up (lf_up s.1 96 (126 + 6 * n + 0) a) 96 (126 + 6 * n + 1) b) 96 (126 + 6 * n + 2) c) 96 (126 + 6 * n + 3) d) 96 (126 + 6 * n + 4) (-1)) 96 (126 + 6 * n + 5) d, s.2.1, s.2.2) := ⟨_, rfl⟩
    rw [← hu]
    have uo : ∀ i : Int, ¬ (126 + 6 * n ≤ i ∧ i ≤ 126 + 6 * n + 5) → u.1 96 i = s.1 96 i := fun i hi => by rw [hu]; exact (zu_i (by omega)).trans ((lf_up_i (by omega)).trans ((lf_up_i (by omega)).trans ((lf_up_i (by omega)).trans ((lf_up_i (by omega)).trans (lf_up_i (by omega))))))
    have u2 : u.1 96 2 = n := (uo 2 (by omega)).trans A2
    rw [u2]
    refine K _ ⟨fun q hq => (zu_r hq).trans ?_, ?_⟩ ⟨zu_s, (zu_i (by omega)).trans ?_, (zu_i (by omega)).trans ?_, (zu_i (by omega)).trans ?_, (zu_i (by omega)).trans ?_, (zu_i (by omega)).trans ?_, (zu_i (by omega)).trans ?_, fun i i0 i1 => (zu_i i0).trans (uo i i1)⟩
    · rw [hu]; exact (zu_r hq).trans ((lf_up_row hq).trans ((lf_up_row hq).trans ((lf_up_row hq).trans ((lf_up_row hq).trans (lf_up_row hq)))))
    · rw [hu]
    · rw [hu]; exact (zu_i (by omega)).trans ((lf_up_i (by omega)).trans ((lf_up_i (by omega)).trans ((lf_up_i (by omega)).trans ((lf_up_i (by omega)).trans lf_up_s))))
    · rw [hu]; exact (zu_i (by omega)).trans ((lf_up_i (by omega)).trans ((lf_up_i (by omega)).trans ((lf_up_i (by omega)).trans lf_up_s)))
    · rw [hu]; exact (zu_i (by omega)).trans ((lf_up_i (by omega)).trans ((lf_up_i (by omega)).trans lf_up_s))
    · rw [hu]; exact (zu_i (by omega)).trans ((lf_up_i (by omega)).trans lf_up_s)
    · rw [hu]; exact (zu_i (by omega)).trans lf_up_s
    · rw [hu]; exact zu_s
theorem fl_189 {Q : Int → lf_Z → Prop} (hL : rr_L J (s.1 96)) (hW : mn_W J) (hb : b = 0 ∨ b = 1) (hc : c = 0 ∨ c = 1) (k0 : ¬ pn_ok J a d → Q (-1) s) (k : pn_ok J a d → ∀ t : lf_Z, rr_f s t → pn_B (s.1 96) (t.1 96) (J 1 2) a b c d → Q (J 1 2) t) : fw_189 a b c d Q s := by
  unfold fw_189
  refine fl_183 ⟨fun z => k0 (fun q => ?_), fun z _ => ?_⟩
  · rw [decide_eq_true q.1.1, decide_eq_true q.1.2] at z; cases z
  · rw [Bool.and_eq_true, decide_eq_true_eq, decide_eq_true_eq] at z
    have go : ∀ b' c' : Int, b' = b → c' = c → fw_190 a b' c' d (fun r s => Q r s) s := fun b' c' eb ec => by
      rw [eb, ec]
      exact fl_190 hL hW (fun h => k0 (fun q => h ⟨q.2.1, q.2.2⟩)) (fun h1 h2 => k ⟨z, h1, h2⟩)
    have p21 : ∀ b' : Int, b' = b → fw_189_p21 Q c d a b' s := fun b' eb => by
      unfold fw_189_p21 fw_189_p30
      intro _
      exact ⟨fun e => go b' 0 eb e.symm, fun e => go b' 1 eb (by omega)⟩
    exact ⟨fun e => p21 0 e.symm, fun e => p21 1 (by omega)⟩
theorem pn_L (hL : rr_L J A) (hW : mn_W J) (ok : J 1 2 < 6) (hR : pn_R J K a b c d) (hB : pn_B A B (J 1 2) a b c d) : rr_L K B := by
  obtain ⟨w0, w1, w2, _⟩ := hW
  obtain ⟨r0, ⟨r10, r11, r12⟩, rq⟩ := hR
  obtain ⟨b2, c0, c1, c2, c3, c4, c5, bo⟩ := hB
  obtain ⟨l0, l1, l2, l3, l4, l5⟩ := hL
  have R : ∀ q : Nat, 2 ≤ q → q ≤ 6 → K q = J q := fun q q0 q1 => r0 q (by omega) (by omega) (by omega) (by omega) (by omega) (by omega) (by omega)
  refine ⟨(bo 0 (by omega) (by omega)).trans (l0.trans r10.symm), (bo 1 (by omega) (by omega)).trans (l1.trans r11.symm), b2.trans r12.symm, fun q q0 q1 => ?_, fun w x0 x1 => ?_, fun q q0 q1 => ?_⟩
  · rw [R 2 (by decide) (by decide), R 3 (by decide) (by decide), bo (14 + 3 * q) (by omega) (by omega), bo (14 + 3 * q + 1) (by omega) (by omega)]
    exact l3 q q0 (by omega)
  · rw [R 4 (by decide) (by decide), R 5 (by decide) (by decide), R 6 (by decide) (by decide), bo (50 + 4 * w) (by omega) (by omega), bo (50 + 4 * w + 1) (by omega) (by omega), bo (50 + 4 * w + 2) (by omega) (by omega)]
    exact l4 w x0 (by omega)
  · obtain ⟨k7, k8, k9, k10, _, _⟩ := rq q
    rw [k7, k8, k9, k10]
    by_cases y : q = J 1 2
    · rw [y, if_pos rfl, if_pos rfl, if_pos rfl, if_pos rfl]; exact ⟨c0, c1, c2, c5⟩
    · rw [if_neg y, if_neg y, if_neg y, if_neg y, bo (126 + 6 * q + 0) (by omega) (by omega), bo (126 + 6 * q + 1) (by omega) (by omega), bo (126 + 6 * q + 2) (by omega) (by omega), bo (126 + 6 * q + 5) (by omega) (by omega)]
      exact l5 q q0 (by omega)
theorem pn_S {n : Int} (hS : rr_S n1 n f A) (n0 : 0 ≤ n) (n6 : n < 6) (h16 : n1 ≤ 16) (hB : pn_B A B n a b c d) : rr_S n1 (n + 1) (pn_f f n d) B := by
  obtain ⟨b2, c0, c1, c2, c3, c4, c5, bo⟩ := hB
  obtain ⟨s1, s2, s3, s4, s5, s6⟩ := hS
  refine ⟨?_, ?_, fun q q0 q1 => ?_, fun q q0 q1 => ?_, fun q q0 q1 => ?_, fun w w0 w1 => ?_⟩
  · rw [bo 3 (by omega) (by omega), pn_fo (by omega) (by omega)]; exact s1
  · rw [bo 6 (by omega) (by omega), pn_fo (by omega) (by omega)]; exact s2
  · rw [bo (114 + 3 * q) (by omega) (by omega), bo (114 + 3 * q + 1) (by omega) (by omega), bo (114 + 3 * q + 2) (by omega) (by omega), pn_fo (by omega) (by omega), pn_fo (by omega) (by omega), pn_fo (by omega) (by omega)]; exact s3 q q0 q1
  · by_cases y : q = n
    · rw [y, pn_f0, pn_f1]; exact ⟨c3, c4⟩
    · rw [bo (126 + 6 * q + 3) (by omega) (by omega), bo (126 + 6 * q + 4) (by omega) (by omega), pn_fo (by omega) (by omega), pn_fo (by omega) (by omega)]; exact s4 q q0 (by omega)
  · rw [bo (14 + 3 * q + 2) (by omega) (by omega), pn_fo (by omega) (by omega)]; exact s5 q q0 q1
  · rw [bo (50 + 4 * w + 3) (by omega) (by omega), pn_fo (by omega) (by omega)]; exact s6 w w0 w1
theorem pn_C (hS : rc_S J f) (h2 : 0 ≤ J 1 2) (ok : J 1 2 < 6) (hR : pn_R J K a b c d) : rc_S K (pn_f f (J 1 2) d) := by
  obtain ⟨r0, _, rq⟩ := hR
  obtain ⟨s1, s2, s3, s4, s5, s6⟩ := hS
  have R : ∀ q : Nat, 11 ≤ q → q ≤ 18 ∨ q = 21 → K q = J q := fun q q0 q1 => r0 q (by omega) (by omega) (by omega) (by omega) (by omega) (by omega) (by omega)
  refine ⟨fun q q0 q1 => ?_, fun q q0 q1 => ?_, fun q q0 q1 => ?_, ?_, ?_, ?_⟩
  · rw [R 16 (by decide) (by decide), R 17 (by decide) (by decide), R 18 (by decide) (by decide), pn_fo (by omega) (by omega), pn_fo (by omega) (by omega), pn_fo (by omega) (by omega)]; exact s1 q q0 q1
  · obtain ⟨_, _, _, _, k19, k20⟩ := rq q
    rw [k19, k20]
    by_cases y : q = J 1 2
    · rw [y, if_pos rfl, if_pos rfl, pn_f0, pn_f1]; exact ⟨rfl, rfl⟩
    · rw [if_neg y, if_neg y, pn_fo (by omega) (by omega), pn_fo (by omega) (by omega)]; exact s2 q q0 q1
  · rw [R 21 (by decide) (by decide), pn_fo (by omega) (by omega)]; exact s3 q q0 q1
  · rw [R 15 (by decide) (by decide), pn_fo (by omega) (by omega)]; exact s4
  · rw [R 15 (by decide) (by decide), pn_fo (by omega) (by omega)]; exact s5
  · rw [R 15 (by decide) (by decide), pn_fo (by omega) (by omega)]; exact s6
theorem pn_W (hW : mn_W J) (ok : J 1 2 < 6) (hR : pn_R J K a b c d) : mn_W K := by
  have w2 := hW.2.2.1
  obtain ⟨r0, ⟨r10, r11, r12⟩, _⟩ := hR
  have R : ∀ q : Nat, 2 ≤ q → q ≤ 6 ∨ (11 ≤ q ∧ q ≤ 13) → K q = J q := fun q q0 q1 => r0 q (by omega) (by omega) (by omega) (by omega) (by omega) (by omega) (by omega)
  exact mn_Wr hW (R 4 (by decide) (by decide)) (R 5 (by decide) (by decide)) (R 11 (by decide) (by decide)) (R 12 (by decide) (by decide)) (R 13 (by decide) (by decide)) r10 r11 (by omega)
theorem pn_J (hW : mn_W J) (h : gp_J J f) (ok : pn_ok J a d) (hR : pn_R J K a b c d) : gp_J K (pn_f f (J 1 2) d) := by
  have w2 := hW.2.2.1
  obtain ⟨r0, ⟨r10, r11, r12⟩, _⟩ := hR
  obtain ⟨⟨h1, h2, h3, h4⟩, h5, h6⟩ := h
  obtain ⟨oa, od, o6⟩ := ok
  refine ⟨⟨fun q q0 q1 => ?_, fun q q0 q1 => ?_, ?_, ?_⟩, ⟨fun q q0 q1 => ?_, fun q q0 q1 => ?_⟩, ?_⟩
  · rw [r10]
    by_cases y : q = J 1 2
    · rw [y, pn_f0, pn_f1]; omega
    · rw [pn_fo (by omega) (by omega), pn_fo (by omega) (by omega)]; exact h1 q q0 (by omega)
  · unfold gp_b
    rw [r10, pn_fo (by omega) (by omega), pn_fo (by omega) (by omega), pn_fo (by omega) (by omega)]; exact h2 q q0 q1
  · rw [pn_fo (by omega) (by omega), pn_fo (by omega) (by omega), pn_fo (by omega) (by omega), pn_fo (by omega) (by omega)]; exact h3
  · rw [pn_fo (by omega) (by omega)]; exact h4
  · rw [pn_fo (by omega) (by omega)]; exact h5.1 q (by omega) q1
  · rw [pn_fo (by omega) (by omega)]; exact h5.2 q (by omega) q1
  · rw [pn_fo (by omega) (by omega)]; exact h6
end PN
/-! day: both sides -/
section DY
variable {J K : Nat → Int → Int} {s t u : lf_Z} {f g T A B : Int → Int} {X : mn_X} {I : Nat → Int → Int} {a b c p x j n1 n2 : Int} {H : List rr_H}
/-- what a draw does -/
def dy_o (J : Nat → Int → Int) (X : mn_X) (f : Int → Int) : Int → Int :=
  if (f 38).tmod 5 = 0 then (if J 6 ((f 38).tmod (J 1 1)) = 0 then gt_f f ((f 38).tmod (J 1 1)) else f)
  else if (f 38).tmod 5 = 1 then (if J 1 2 = 0 then f else ds_u1 f (12 + 2 * (f 38).tmod (J 1 2) + 1) ((f 38).tmod (J 1 0)))
  else if 999 ≤ f 37 then f else mn_min J X f
def dy_n (J : Nat → Int → Int) (X : mn_X) (f : Int → Int) : Int → Int := ds_u1 (dy_o J X f) 38 (mn_an (dy_o J X f 38))
def dy_r (J : Nat → Int → Int) (X : mn_X) : Nat → (Int → Int) → Int → Int
  | 0, f => f
  | k + 1, f => dy_r J X k (dy_n J X f)
theorem dy_rS : ∀ (m : Nat) (f : Int → Int), dy_r J X (m + 1) f = dy_n J X (dy_r J X m f) := by
  intro m
  induction m with
  | zero => intro f; rfl
  | succ m ih => intro f; exact ih (dy_n J X f)
theorem dy_m {v n : Int} (h : 0 ≤ v) (hn : 0 < n) : 0 ≤ v.tmod n ∧ v.tmod n < n := by
  rw [Int.tmod_eq_emod_of_nonneg h]
  exact ⟨Int.emod_nonneg _ (by omega), Int.emod_lt_of_pos _ hn⟩
theorem dy_oJ (hW : mn_W J) (hn : J 1 1 ≠ 0) (h : gp_J J f) : gp_J J (dy_o J X f) := by
  have w1 := hW.2.1
  have w2 := hW.2.2.1
  have x0 := h.1.2.2.2.1
  unfold dy_o
  by_cases c0 : (f 38).tmod 5 = 0
  · rw [if_pos c0]
    by_cases c1 : J 6 ((f 38).tmod (J 1 1)) = 0
    · rw [if_pos c1]
      have m := dy_m x0 (show 0 < J 1 1 by omega)
      exact gt_J (b := 1 - lf_b (!(bt_t (f 36) ((f 38).tmod (J 1 1))))) hW h ⟨m, c1, by omega⟩
    · rw [if_neg c1]; exact h
  · rw [if_neg c0]
    by_cases c1 : (f 38).tmod 5 = 1
    · rw [if_pos c1]
      by_cases c2 : J 1 2 = 0
      · rw [if_pos c2]; exact h
      · rw [if_neg c2]
        have m := dy_m x0 (show 0 < J 1 2 by omega)
        have p := h.1.1 0 (Int.le_refl 0) (by omega)
        have m0 := dy_m x0 (show 0 < J 1 0 by omega)
        by_cases e : f (12 + 2 * (f 38).tmod (J 1 2) + 1) = (f 38).tmod (J 1 0)
        · have : ds_u1 f (12 + 2 * (f 38).tmod (J 1 2) + 1) ((f 38).tmod (J 1 0)) = f := by
            funext j
            unfold ds_u1
            by_cases y : j = 12 + 2 * (f 38).tmod (J 1 2) + 1
            · rw [if_pos y, y, e]
            · rw [if_neg y]
          rw [this]; exact h
        · exact sd_J hW h ⟨m, ⟨by omega, m0.2⟩, e⟩
    · rw [if_neg c1]
      by_cases c2 : 999 ≤ f 37
      · rw [if_pos c2]; exact h
      · rw [if_neg c2]; exact (gp_Jm hW h (by omega)).1
theorem gp_J38 {v : Int} (hW : mn_W J) (h : gp_J J f) (hv : 0 ≤ v ∧ v < 30203) : gp_J J (ds_u1 f 38 v) := by
  have w0 := hW.1
  obtain ⟨h1, h5, h6⟩ := h
  have e : ∀ j : Int, j ≠ 38 → ds_u1 f 38 v j = f j := fun j hj => if_neg hj
  refine ⟨gp_e hW h1 (fun j _ j1 => e j (by omega)) (by rw [show ds_u1 f 38 v 38 = v from if_pos rfl]; exact hv), ⟨fun q q0 q1 => ?_, fun q q0 q1 => ?_⟩, ?_⟩
  · rw [e (24 + q) (by omega)]; exact h5.1 q q0 q1
  · rw [e 36 (by decide)]; exact h5.2 q q0 q1
  · rw [e 37 (by decide)]; exact h6
theorem dy_nJ (hW : mn_W J) (hn : J 1 1 ≠ 0) (h : gp_J J f) : gp_J J (dy_n J X f) := by
  have g := dy_oJ (X := X) hW hn h
  exact gp_J38 hW g (mn_anB g.1.2.2.2.1)
/-- one draw of the class -/
theorem fl_106 {Q : lf_Z → Prop} (hJ : gc_J J s) (hW : mn_W J) (hB : mn_B J) (hV : mn_V J) (hn : J 1 1 ≠ 0) (hS : rc_S s.1 f) (hG : gp_J J f) (hX : xc_X X I s.2.2) (hXB : ∀ N, 0 ≤ X.2 N ∧ X.2 N ≤ 10) (hX1 : ∀ N, 0 ≤ X.1 N ∧ X.1 N ≤ 2) (hI : ∀ c : Nat, 35 ≤ c → c < 63 → s.1 c = I c)
    (k : ∀ t : lf_Z, mv_f s t → rc_S t.1 (dy_o J X f) → Q t) : fw_106 Q s := by
  have w1 := hW.2.1
  have w2 := hW.2.2.1
  have x0 := hG.1.2.2.2.1
  have e1 : s.1 1 = J 1 := hJ 1 (by omega)
  unfold dy_o at k
  unfold fw_106
  rw [hS.2.2.2.2.2, e1]
  intro _ _
  refine ⟨fun c0 => ⟨fun c1 _ => ?_, fun c1 _ => ?_⟩, fun c0 _ => ⟨fun _ _ => ?_, fun c1 => absurd hn c1⟩⟩
  · rw [if_neg c0, if_neg c1] at k
    rw [hS.2.2.2.2.1]
    refine ⟨fun d => ?_, fun d => ?_⟩
    · rw [if_pos d] at k
      exact k s mv_fr hS
    · rw [if_neg d] at k
      exact fl_72 hJ hW hB hV hS hG.1 hX hXB hX1 hI k
  · have c1 := Classical.not_not.mp c1
    rw [if_neg c0, if_pos c1] at k
    refine ⟨fun d _ => ?_, fun d => ?_⟩
    · rw [if_neg d] at k
      have m := dy_m x0 (show 0 < J 1 2 by omega)
      have p := hG.1.1 0 (Int.le_refl 0) (by omega)
      unfold fw_106_p100
      refine fl_99 ⟨fun z => ?_, fun z => ?_⟩
      · rw [e1, decide_eq_true m.1, decide_eq_true m.2] at z; cases z
      · rw [e1, hS.2.2.2.2.2]
        intro _
        refine ⟨fun q => absurd q (by omega), fun q _ _ _ => ?_⟩
        exact k _ (mv_g (rc_gu rc_gr (by omega))) (rc_20 hS m.1 (by omega))
    · have d := Classical.not_not.mp d
      rw [if_pos d] at k
      unfold fw_106_p100
      refine fl_99 ⟨fun z => k s mv_fr hS, fun z => ?_⟩
      rw [decide_eq_false (show ¬ (0 : Int) ≤ -1 by decide)] at z; cases z
  · have c0 := Classical.not_not.mp c0
    rw [if_pos c0] at k
    have m := dy_m x0 (show 0 < J 1 1 by omega)
    unfold fw_106_p43
    refine fl_89 ⟨fun z => ?_, fun z => ?_⟩
    · rw [e1, hJ 6 (by omega), decide_eq_true m.1, decide_eq_true m.2] at z
      have z : decide (J 6 ((f 38).tmod (J 1 1)) = 0) = false := z
      rw [if_neg (of_decide_eq_false z)] at k
      exact k s mv_fr hS
    · rw [e1, hJ 6 (by omega), decide_eq_true m.1, decide_eq_true m.2] at z
      have z : decide (J 6 ((f 38).tmod (J 1 1)) = 0) = true := z
      rw [if_pos (of_decide_eq_true z)] at k
      unfold fw_101
      exact k _ (mv_g (rc_g15 rc_gr (by omega))) (rc_36 hS)
def dy_ok (J : Nat → Int → Int) (a b : Int) : Prop := (0 ≤ a ∧ a ≤ 9999) ∧ (1 ≤ b ∧ b ≤ 30) ∧ J 1 1 ≠ 0
def dy_s (f : Int → Int) (a : Int) : Int → Int := ds_u1 f 38 (a * 3 + 41)
/-- day of the class -/
theorem fl_105 {Q : Int → lf_Z → Prop} (hJ : gc_J J s) (hW : mn_W J) (hB : mn_B J) (hV : mn_V J) (hS : rc_S s.1 f) (hG : gp_J J f) (hH : rc_H s.1 H) (hX : xc_X X I s.2.2) (hXB : ∀ N, 0 ≤ X.2 N ∧ X.2 N ≤ 10) (hX1 : ∀ N, 0 ≤ X.1 N ∧ X.1 N ≤ 2) (hI : ∀ c : Nat, 35 ≤ c → c < 63 → s.1 c = I c)
    (k0 : ¬ dy_ok J a b → Q (-1) s) (k : dy_ok J a b → ∀ t : lf_Z, mc_f s t → rc_S t.1 (dy_r J X b.toNat (dy_s f a)) → rc_H t.1 (rr_K (J 1 2, J 1 1, f) H) → gp_J J (dy_r J X b.toNat (dy_s f a)) → Q (mi_al (dy_r J X b.toNat (dy_s f a)) 12) t) : fw_105 a b Q s := by
  unfold fw_105
  refine fl_15 ⟨fun z => k0 (fun q => ?_), fun z => fl_15 ⟨fun z2 => k0 (fun q => ?_), fun z2 => ?_⟩⟩
  · rw [decide_eq_true q.1.1, decide_eq_true q.1.2] at z; cases z
  · rw [decide_eq_true q.2.1.1, decide_eq_true q.2.1.2] at z2; cases z2
  · rw [Bool.and_eq_true, decide_eq_true_eq, decide_eq_true_eq] at z z2
    rw [hJ 1 (by omega)]
    intro _
    refine ⟨fun c => ?_, fun c => k0 (fun q => c q.2.2)⟩
    have ok : dy_ok J a b := ⟨z, z2, c⟩
    refine fl_67 (w := J 1 1) hS hH (fun t tf tH => ?_)
    have tS := rc_Sf hS tf
    have tF := mc_k tf
    have S0 : rc_S (lf_up t.1 15 8 (a * 3 + 41)) (dy_s f a) := rc_15 tS
    have f0 := mv_g (s := t) (rc_g15 (i := 8) (v := a * 3 + 41) rc_gr (by omega))
    have G0 : gp_J J (dy_s f a) := gp_J38 hW hG (by omega)
    refine ⟨fun i u => ∃ m : Nat, i = m ∧ (m : Int) ≤ b ∧ mv_f t u ∧ rc_S u.1 (dy_r J X m (dy_s f a)) ∧ gp_J J (dy_r J X m (dy_s f a)), ?_, ⟨0, rfl, by omega, f0, S0, G0⟩⟩
    intro i u ⟨m, ei, m1, uf, uS, uG⟩
    subst ei
    have uF := mc_ft tF (mc_v uf)
    unfold fw_105_p66
    intro _ _
    refine ⟨fun d => ?_, fun d => ?_⟩
    · have : m = b.toNat := by omega
      rw [this] at uS uG
      exact fl_97 uS (k ok u uF uS (rc_Hv tH uf) uG)
    · refine fl_106 (gc_Jc hJ uF) hW hB hV c uS uG (by rw [uF.2.2.2]; exact hX) hXB hX1 (fun c x y => (uF.1 c (by omega)).trans (hI c x y)) (fun y yf yS => ?_)
      have g := dy_oJ (X := X) hW c uG
      refine fl_94 yS g.1.2.2.2 (fun w wf wS => ⟨m + 1, by omega, by omega, mv_ft uf (mv_ft yf wf), ?_, ?_⟩)
      · rw [dy_rS]; exact wS
      · rw [dy_rS]; exact dy_nJ hW c uG
/-! the reference: stand with gates -/
def rg_p (i : Int) : Prop := rm_p i ∨ (50 ≤ i ∧ i < 114 ∧ (i - 50) % 4 = 3)
def rg_f (s t : lf_Z) : Prop := (∀ c : Nat, c ≠ 96 → c ≠ 104 → c ≠ 107 → c ≠ 108 → t.1 c = s.1 c) ∧ (∀ i : Int, ¬ rg_p i → t.1 96 i = s.1 96 i) ∧ t.2.2 = s.2.2
theorem rg_fr : rg_f s s := ⟨fun _ _ _ _ _ => rfl, fun _ _ => rfl, rfl⟩
theorem rg_ft (h : rg_f s t) (g : rg_f t u) : rg_f s u := ⟨fun c a b d e => (g.1 c a b d e).trans (h.1 c a b d e), fun i hi => (g.2.1 i hi).trans (h.2.1 i hi), g.2.2.trans h.2.2⟩
theorem rg_m (h : rm_f s t) : rg_f s t := ⟨h.1, fun i hi => h.2.1 i (fun q => hi (Or.inl q)), h.2.2⟩
theorem rg_u {i v : Int} (hi : rg_p i) : rg_f s (lf_up s.1 96 i v, s.2.1, s.2.2) := ⟨fun c a _ _ _ => zu_r a, fun j hj => zu_i (fun q => hj (by rw [q]; exact hi)), rfl⟩
theorem rg_L (hL : rr_L J (s.1 96)) (hW : mn_W J) (h : rg_f s t) : rr_L J (t.1 96) := by
  obtain ⟨w0, w1, w2, _⟩ := hW
  obtain ⟨l0, l1, l2, l3, l4, l5⟩ := hL
  have g : ∀ j : Int, ¬ rg_p j → t.1 96 j = s.1 96 j := h.2.1
  refine ⟨(g 0 (by unfold rg_p rm_p; omega)).trans l0, (g 1 (by unfold rg_p rm_p; omega)).trans l1, (g 2 (by unfold rg_p rm_p; omega)).trans l2, fun q q0 q1 => ?_, fun w x0 x1 => ?_, fun q q0 q1 => ?_⟩
  · rw [g (14 + 3 * q) (by unfold rg_p rm_p; omega), g (14 + 3 * q + 1) (by unfold rg_p rm_p; omega)]; exact l3 q q0 q1
  · rw [g (50 + 4 * w) (by unfold rg_p rm_p; omega), g (50 + 4 * w + 1) (by unfold rg_p rm_p; omega), g (50 + 4 * w + 2) (by unfold rg_p rm_p; omega)]; exact l4 w x0 x1
  · rw [g (126 + 6 * q + 0) (by unfold rg_p rm_p; omega), g (126 + 6 * q + 1) (by unfold rg_p rm_p; omega), g (126 + 6 * q + 2) (by unfold rg_p rm_p; omega), g (126 + 6 * q + 5) (by unfold rg_p rm_p; omega)]; exact l5 q q0 q1
theorem rm_0g (h : rm_0 T s) (g : rg_f s t) : rm_0 T t := by
  unfold rm_0 at h ⊢
  rw [g.1 98 (by decide) (by decide) (by decide) (by decide), g.1 95 (by decide) (by decide) (by decide) (by decide)]
  exact h
theorem xr_Xg (hX : xr_X X T (s.1 96 8)) (g : rg_f s t) : xr_X X T (t.1 96 8) := by
  rw [g.2.1 8 (by unfold rg_p rm_p; omega)]; exact hX
theorem rh_Hg (hh : mi_H J H) (hW : mn_W J) (h : rh_H (s.1 96) H) (g : rg_f s t) : rh_H (t.1 96) H := rh_Hr hh hW h (g.2.1 9 (by unfold rg_p rm_p; omega)) (fun i i0 => g.2.1 i (by unfold rg_p rm_p; omega))
/-- one draw of the reference -/
theorem fl_283 {Q : lf_Z → Prop} (hL : rr_L J (s.1 96)) (hW : mn_W J) (hB : mn_B J) (hV : mn_V J) (hn : J 1 1 ≠ 0) (hS : rr_S (J 1 1) (J 1 2) f (s.1 96)) (hG : gp_J J f) (hX : xr_X X T (s.1 96 8)) (h0 : rm_0 T s) (hX1 : ∀ N, 0 ≤ X.1 N ∧ X.1 N ≤ 2)
    (k : ∀ t : lf_Z, rg_f s t → rr_S (J 1 1) (J 1 2) (dy_o J X f) (t.1 96) → Q t) : fw_283 Q s := by
  have w1 := hW.2.1
  have w2 := hW.2.2.1
  have x0 := hG.1.2.2.2.1
  unfold dy_o at k
  unfold fw_283
  rw [hS.2.1, hL.2.1, hL.2.2.1, hL.1, hS.1]
  intro _ _ _ _
  refine ⟨fun c _ => ⟨fun d => ?_, fun d => ?_⟩, fun c => ?_, fun c _ => ⟨fun d => ?_, fun d _ _ _ => fl_191e ?_⟩⟩
  · rw [if_neg c.1, if_neg c.2, if_pos d] at k
    exact k s rg_fr hS
  · rw [if_neg c.1, if_neg c.2, if_neg d] at k
    exact fl_260 hL hW hB hV hS hG.1 hX h0 hX1 (fun t tf tS => k t (rg_m tf) tS)
  · rw [if_pos c] at k
    have m := dy_m x0 (show 0 < J 1 1 by omega)
    have b6 := hB.1 ((f 38).tmod (J 1 1))
    generalize (f 38).tmod (J 1 1) = w at *
    refine fl_252 hL m.1 m.2 ⟨fun z => ?_, fun z _ => ?_⟩
    · have z := of_decide_eq_true z
      rw [if_neg (by omega)] at k
      exact k s rg_fr hS
    · have z := of_decide_eq_false z
      rw [if_pos (by omega)] at k
      refine k _ (rg_u (Or.inr ⟨by omega, by omega, by omega⟩)) (gt_S (v := 0) hS w1.2 w2.2 m.1 m.2 (fun j hj => zu_i hj) (zu_s.trans ?_))
      rw [hS.2.2.2.2.2 w m.1 m.2]
      unfold rr_op
      cases bt_t (f 36) w with
      | true => rfl
      | false => rfl
  · rw [if_neg (by omega), if_pos c, if_pos (by omega)] at k
    exact k s rg_fr hS
  · rw [if_neg (by omega), if_pos c, if_neg (by omega)] at k
    have m := dy_m x0 (show 0 < J 1 2 by omega)
    exact k _ (rg_u (Or.inl (Or.inr (Or.inr (Or.inr (Or.inl ⟨by omega, by omega, by omega⟩)))))) (gr_se hS m.1 m.2 w1.2 w2.2 (fun j hj => zu_i hj) zu_s)
theorem fl_282 {Q : Int → lf_Z → Prop} (hL : rr_L J (s.1 96)) (hW : mn_W J) (hB : mn_B J) (hV : mn_V J) (hS : rr_S (J 1 1) (J 1 2) f (s.1 96)) (hG : gp_J J f) (hH : rh_H (s.1 96) H) (hh : mi_H J H) (hX : xr_X X T (s.1 96 8)) (h0 : rm_0 T s) (hX1 : ∀ N, 0 ≤ X.1 N ∧ X.1 N ≤ 2)
    (k0 : ¬ dy_ok J a b → Q (-1) s) (k : dy_ok J a b → ∀ t : lf_Z, (∀ c : Nat, c ≠ 96 → c ≠ 104 → c ≠ 107 → c ≠ 108 → t.1 c = s.1 c) → t.2.2 = s.2.2 → (∀ i : Int, ¬ rg_p i → i ≠ 9 → i < 278 → t.1 96 i = s.1 96 i) → rr_L J (t.1 96) → rr_S (J 1 1) (J 1 2) (dy_r J X b.toNat (dy_s f a)) (t.1 96) → rh_H (t.1 96) (rr_K (J 1 2, J 1 1, f) H) → Q (mi_al (dy_r J X b.toNat (dy_s f a)) 12) t) : fw_282 a b Q s := by
  have w1 := hW.2.1
  have w2 := hW.2.2.1
  unfold fw_282
  refine fl_183 ⟨fun z => k0 (fun q => ?_), fun z => fl_183 ⟨fun z2 => k0 (fun q => ?_), fun z2 => ?_⟩⟩
  · rw [decide_eq_true q.1.1, decide_eq_true q.1.2] at z; cases z
  · rw [decide_eq_true q.2.1.1, decide_eq_true q.2.1.2] at z2; cases z2
  · rw [Bool.and_eq_true, decide_eq_true_eq, decide_eq_true_eq] at z z2
    rw [hL.2.1]
    intro _
    refine ⟨fun c => ?_, fun c => k0 (fun q => c q.2.2)⟩
    have ok : dy_ok J a b := ⟨z, z2, c⟩
    refine fl_244j hL hW hS hH hh (fun t tf tr tS tH te => ?_)
    have tL := mr_L hL hW tf
    have hh' := mi_K hW hG hh
    have S0 : rr_S (J 1 1) (J 1 2) (dy_s f a) (((lf_up t.1 96 6 (a * 3 + 41), t.2.1, t.2.2) : lf_Z).1 96) := rm_38 tS w1.2 w2.2 (fun j hj => zu_i hj) zu_s
    have f0 : rg_f t (lf_up t.1 96 6 (a * 3 + 41), t.2.1, t.2.2) := rg_m (rm_u (Or.inr (Or.inl rfl)))
    have G0 : gp_J J (dy_s f a) := gp_J38 hW hG (by omega)
    refine ⟨fun i u => ∃ m : Nat, i = m ∧ (m : Int) ≤ b ∧ rg_f t u ∧ rr_S (J 1 1) (J 1 2) (dy_r J X m (dy_s f a)) (u.1 96) ∧ gp_J J (dy_r J X m (dy_s f a)), ?_, ⟨0, rfl, by omega, f0, S0, G0⟩⟩
    intro i u ⟨m, ei, m1, uf, uS, uG⟩
    subst ei
    have uL := rg_L tL hW uf
    unfold fw_282_p51
    intro _ _
    refine ⟨fun d => ?_, fun d => ?_⟩
    · have : m = b.toNat := by omega
      rw [this] at uS uG
      refine fl_279 uL hW uS ?_
      rw [mi_alE hW uG]
      refine k ok u (fun c a b d e => (uf.1 c a b d e).trans (tf.1 c a b d e)) (uf.2.2.trans tf.2.2) (fun i h1 h2 h3 => (uf.2.1 i h1).trans (te i h2 h3)) uL uS (rh_Hg hh' hW tH uf)
    · refine fl_283 uL hW hB hV c uS uG (xr_Xg (xr_Xm hX tf) uf) (rm_0g (rm_0m h0 tf) uf) hX1 (fun y yf yS => ?_)
      have g := dy_oJ (X := X) hW c uG
      unfold fw_276
      rw [yS.2.1]
      intro _
      refine ⟨m + 1, by omega, by omega, rg_ft uf (rg_ft yf (rg_m (rm_u (Or.inr (Or.inl rfl))))), ?_, ?_⟩
      · rw [dy_rS]
        exact rm_38 yS w1.2 w2.2 (fun j hj => zu_i hj) zu_s
      · rw [dy_rS]; exact dy_nJ hW c uG
end DY
/-! the class's orders are done as the machine does them -/
section CX
variable {s t u : lf_Z} {R N L : Int → Int} {a b c p x lo hi : Int} {st : List Int}
def cw_f (s t : lf_Z) : Prop := (∀ c : Nat, c ≠ 63 → c ≠ 65 → c ≠ 66 → t.1 c = s.1 c) ∧ t.2 = s.2
theorem cw_fr : cw_f s s := ⟨fun _ _ _ _ => rfl, rfl⟩
theorem cw_ft (h : cw_f s t) (g : cw_f t u) : cw_f s u := ⟨fun c a b d => (g.1 c a b d).trans (h.1 c a b d), g.2.trans h.2⟩
/-- pile and lets -/
def cm_A (s : lf_Z) (st : List Int) (L : Int → Int) : Prop := s.1 63 6 = st.length ∧ cm_k (s.1 66) st ∧ s.1 65 = L
theorem fl_85 {v : Int} {Q : lf_Z → Prop} (h : cm_A s st L) (h3 : st.length < 300) (k : ∀ t : lf_Z, cw_f s t → cm_A t (v :: st) L → Q t) : fw_85 v Q s := by
  obtain ⟨h1, h2, h4⟩ := h
  unfold fw_85
  rw [h1]
  intro _
  refine ⟨fun c => absurd c (by omega), fun _ _ => k _ ⟨fun c c1 _ c3 => (zu_r c1).trans (lf_up_row c3), rfl⟩ ⟨?_, ?_, ?_⟩⟩
  · refine zu_s.trans ?_
    rw [List.length_cons]; omega
  · have e : ((lf_up (lf_up s.1 66 (st.length : Int) v) 63 6 ((st.length : Int) + 1), s.2.1, s.2.2) : lf_Z).1 66 = ds_u1 (s.1 66) (st.length : Int) v := (zu_r (by decide)).trans tp_row
    rw [e]
    exact ⟨if_pos rfl, cm_kU st (Int.le_refl _) h2⟩
  · exact (zu_r (by decide)).trans ((lf_up_row (by decide)).trans h4)
theorem fl_86 {v : Int} {Q : Int → lf_Z → Prop} (h : cm_A s (v :: st) L) (k : ∀ t : lf_Z, cw_f s t → cm_A t st L → Q v t) : fw_86 Q s := by
  obtain ⟨h1, h2, h4⟩ := h
  rw [List.length_cons] at h1
  unfold fw_86
  rw [h1]
  intro _
  refine ⟨fun _ _ => ?_, fun c => by omega⟩
  have e1 : ((st.length + 1 : Nat) : Int) - 1 = st.length := by omega
  rw [e1, h2.1]
  refine k _ ⟨fun c c1 _ _ => zu_r c1, rfl⟩ ⟨zu_s, ?_, ?_⟩
  · have e : ((lf_up s.1 63 6 (st.length : Int), s.2.1, s.2.2) : lf_Z).1 66 = s.1 66 := zu_r (by decide)
    rw [e]; exact h2.2
  · exact (zu_r (by decide)).trans h4
theorem fl_84b {w : Nat} {l v : Int} {k : Nat} {L' : Int → Int} {Q : Int → lf_Z → Prop} (hw : w < 4) (hp : 0 ≤ s.1 (37 + 7 * w) l) (he : s.1 (38 + 7 * w) l ≤ 300) (hk : k < 300)
    (go : cm_go (s.1 (36 + 7 * w)) (s.1 64) (s.1 (37 + 7 * w) l) (s.1 (38 + 7 * w) l) k (s.1 (37 + 7 * w) l, [], s.1 65) (s.1 (38 + 7 * w) l, [v], L')) (h : ∀ t : lf_Z, cw_f s t → Q v t) : fw_84b w l Q s := by
  unfold fw_84b
  intro _ _
  have e38 : (lf_up s.1 63 6 0) (38 + 7 * w) l = s.1 (38 + 7 * w) l := lf_up_c (by omega)
  have e37 : (lf_up s.1 63 6 0) (37 + 7 * w) l = s.1 (37 + 7 * w) l := lf_up_c (by omega)
  rw [e38, e37]
  generalize hR : s.1 (36 + 7 * w) = R at go
  generalize hN : s.1 64 = N at go
  generalize s.1 (37 + 7 * w) l = p at *
  generalize s.1 (38 + 7 * w) l = e at *
  have pe : p < e := by
    cases k with
    | zero => have : ((p, [], s.1 65) : cm_T) = (e, [v], L') := go
              have := congrArg (fun x => x.2.1) this
              cases this
    | succ k => exact go.1.1.2
  rw [show min e 300 = e by omega]
  refine ⟨fun x4 x5 t => ∃ (j : Nat) (st : List Int) (L : Int → Int), x5 + j = k ∧ 0 ≤ x5 ∧ cw_f s t ∧ cm_A t st L ∧ (st.length : Int) ≤ x5 ∧ cm_go R N p e j (x4, st, L) (e, [v], L'), ?_, ⟨k, [], s.1 65, by omega, Int.le_refl 0, ⟨fun c c1 _ _ => zu_r c1, rfl⟩, ⟨zu_s, trivial, zu_r (by decide)⟩, Int.le_refl 0, go⟩⟩
  intro x4 x5 t ⟨j, st, L, hj, x0, tf, tA, hl, tg⟩
  have tR : t.1 (36 + 7 * w) = R := (tf.1 _ (by omega) (by omega) (by omega)).trans hR
  have tN : t.1 64 = N := (tf.1 64 (by decide) (by decide) (by decide)).trans hN
  unfold fw_84b_p29
  intro _
  refine ⟨fun c => by omega, fun _ _ => ⟨fun c => ?_, fun c _ => ⟨fun c2 => ?_, fun c2 _ => ?_⟩⟩⟩
  · exfalso
    cases j with
    | zero => have := congrArg (fun x => x.1) (show ((x4, st, L) : cm_T) = (e, [v], L') from tg)
              have : x4 = e := this
              omega
    | succ j => have := tg.1.1.1
                have : p ≤ x4 := this
                omega
  · cases j with
    | zero =>
      have q := (show ((x4, st, L) : cm_T) = (e, [v], L') from tg)
      have q2 : st = [v] := congrArg (fun x => x.2.1) q
      subst q2
      unfold fw_84b_p311
      exact fl_86 tA (fun y yf _ => h y (cw_ft tf yf))
    | succ j => exfalso
                have := tg.1.1.2
                have : x4 < e := this
                omega
  · cases j with
    | zero => exfalso
              have := congrArg (fun x => x.1) (show ((x4, st, L) : cm_T) = (e, [v], L') from tg)
              have : x4 = e := this
              omega
    | succ j =>
      obtain ⟨ok, go'⟩ := tg
      rw [tR]
      unfold cm_or at ok
      unfold cm_st at go'
      dsimp only at ok go'
      have a0 : 0 ≤ (R x4).tmod 10000 ∧ (R x4).tmod 10000 < 10000 := dy_m ok.2.1 (by decide)
      obtain ⟨_, _, _, ok⟩ := ok
      generalize (R x4).tdiv 10000 = c at ok go' ⊢
      generalize (R x4).tmod 10000 = a at ok go' a0 ⊢
      have hl3 : st.length < 300 := by omega
      -- on
      have next : ∀ (q : Int) (st2 : List Int) (L2 : Int → Int) (y : lf_Z), cw_f s y → cm_A y st2 L2 → (st2.length : Int) ≤ x5 + 1 → cm_go R N p e j (q, st2, L2) (e, [v], L') → (fun (x4 x5 : Int) (t : lf_Z) => ∃ (j : Nat) (st : List Int) (L : Int → Int), x5 + j = k ∧ 0 ≤ x5 ∧ cw_f s t ∧ cm_A t st L ∧ (st.length : Int) ≤ x5 ∧ cm_go R N p e j (x4, st, L) (e, [v], L')) q (x5 + 1) y := fun q st2 L2 y yf yA yl yg => ⟨j, st2, L2, by omega, by omega, yf, yA, yl, yg⟩
      intro _ _
      refine ⟨fun hc => ?_, fun hc => ?_, fun hc _ => ?_, fun hc _ => ?_, fun hc => ?_, fun hc => ?_, fun hc => ?_, fun hc _ => ?_, fun hc => ?_⟩
      · rw [if_neg hc.1, if_neg hc.2.1, if_neg hc.2.2.1, if_neg hc.2.2.2.2.2.1] at go'
        obtain ⟨ht, v1, v2, st2, est, s1, s2⟩ : ((4 ≤ c ∧ c ≤ 13) ∨ c = 45 ∨ c = 46) ∧ ∃ v w st', st = v :: w :: st' ∧ cm_sm v ∧ cm_sm w := by
          rcases ok with q | q | q | q | q | q
          · exact absurd q hc.1
          · exact absurd q.1 hc.2.1
          · exact absurd q.1 hc.2.2.1
          · exact absurd q hc.2.2.2.2.2.1
          · exfalso
            rcases q.1 with r | r | r | r
            · exact hc.2.2.2.1 r
            · exact hc.2.2.2.2.1 r
            · exact hc.2.2.2.2.2.2.1 r.1
            · exact hc.2.2.2.2.2.2.2 r
          · exact q
        subst est
        dsimp only at go'
        rw [if_neg hc.2.2.2.1, if_neg hc.2.2.2.2.1, if_neg hc.2.2.2.2.2.2.1, if_neg hc.2.2.2.2.2.2.2] at go'
        rw [List.length_cons, List.length_cons] at hl
        refine fl_86 tA (fun y yf yA => fl_86 yA (fun z zf zA => fl_87 ht s2 s1 (fl_85 zA (by omega) (fun g gf gA => ?_))))
        unfold fw_84b_p305
        exact next _ _ _ g (cw_ft tf (cw_ft yf (cw_ft zf gf))) gA (by rw [List.length_cons]; omega) go'
      · rw [if_pos hc] at go'
        refine fl_85 tA hl3 (fun g gf gA => ?_)
        unfold fw_84b_p305
        exact next _ _ _ g (cw_ft tf gf) gA (by rw [List.length_cons]; omega) go'
      · rw [if_neg (by omega), if_pos hc] at go'
        have a8 : a < 8 := by
          rcases ok with q | q | q | q | q | q
          · omega
          · exact q.2
          · omega
          · omega
          · omega
          · omega
        refine ⟨fun d => by omega, fun _ _ => ?_⟩
        unfold fw_84b_p208
        rw [tA.2.2]
        refine fl_85 tA hl3 (fun g gf gA => ?_)
        unfold fw_84b_p305
        exact next _ _ _ g (cw_ft tf gf) gA (by rw [List.length_cons]; omega) go'
      · rw [if_neg (by omega), if_neg (by omega), if_pos hc] at go'
        have a8 : a < 11 := by
          rcases ok with q | q | q | q | q | q
          · omega
          · omega
          · exact q.2
          · omega
          · omega
          · omega
        refine ⟨fun d => by omega, fun _ _ => ?_⟩
        unfold fw_84b_p183
        rw [tN]
        refine fl_85 tA hl3 (fun g gf gA => ?_)
        unfold fw_84b_p305
        exact next _ _ _ g (cw_ft tf gf) gA (by rw [List.length_cons]; omega) go'
      · obtain ⟨v1, st2, est, s1⟩ : ∃ v st', st = v :: st' ∧ cm_sm v := by
          rcases ok with q | q | q | q | q | q
          · omega
          · omega
          · omega
          · omega
          · exact q.2
          · omega
        subst est
        rw [if_neg (by omega), if_neg (by omega), if_neg (by omega), if_neg (by omega)] at go'
        dsimp only at go'
        rw [if_pos hc] at go'
        rw [List.length_cons] at hl
        refine fl_86 tA (fun y yf yA => ?_)
        unfold cm_sm at s1
        rw [tr_w (a := -v1) (by omega)]
        refine fl_85 yA (by omega) (fun g gf gA => ?_)
        unfold fw_84b_p305
        exact next _ _ _ g (cw_ft tf (cw_ft yf gf)) gA (by rw [List.length_cons]; omega) go'
      · obtain ⟨v1, st2, est, s1⟩ : ∃ v st', st = v :: st' ∧ cm_sm v := by
          rcases ok with q | q | q | q | q | q
          · omega
          · omega
          · omega
          · omega
          · exact q.2
          · omega
        subst est
        rw [if_neg (by omega), if_neg (by omega), if_neg (by omega), if_neg (by omega)] at go'
        dsimp only at go'
        rw [if_neg (by omega), if_pos hc] at go'
        rw [List.length_cons] at hl
        refine fl_86 tA (fun y yf yA => ?_)
        intro _
        refine ⟨fun d => ?_, fun d => ?_⟩
        · rw [if_pos d] at go'
          unfold fw_84b_p247 fw_84b_p305
          exact next _ _ _ y (cw_ft tf yf) yA (by omega) go'
        · rw [if_neg d] at go'
          unfold fw_84b_p247 fw_84b_p305
          exact next _ _ _ y (cw_ft tf yf) yA (by omega) go'
      · rw [if_neg (by omega), if_neg (by omega), if_neg (by omega), if_pos hc] at go'
        unfold fw_84b_p305
        exact next _ _ _ t tf tA (by omega) go'
      · obtain ⟨a8, v1, st2, est, s1⟩ : a < 8 ∧ ∃ v st', st = v :: st' ∧ cm_sm v := by
          rcases ok with q | q | q | q | q | q
          · omega
          · omega
          · omega
          · omega
          · refine ⟨?_, q.2⟩
            rcases q.1 with r | r | r | r
            · omega
            · omega
            · exact r.2
            · omega
          · omega
        subst est
        rw [if_neg (by omega), if_neg (by omega), if_neg (by omega), if_neg (by omega)] at go'
        dsimp only at go'
        rw [if_neg (by omega), if_neg (by omega), if_pos hc] at go'
        rw [List.length_cons] at hl
        refine fl_86 tA (fun y yf yA => ?_)
        rw [show min a 7 = a by omega]
        intro _
        unfold fw_84b_p305
        refine next _ _ _ _ (cw_ft tf (cw_ft yf ⟨fun c _ c2 _ => zu_r c2, rfl⟩)) ⟨(zu_c (by decide)).trans yA.1, ?_, ?_⟩ (by omega) go'
        · have e : ((lf_up y.1 65 a v1, y.2.1, y.2.2) : lf_Z).1 66 = y.1 66 := zu_r (by decide)
          rw [e]; exact yA.2.1
        · have e : ((lf_up y.1 65 a v1, y.2.1, y.2.2) : lf_Z).1 65 = ds_u1 (y.1 65) a v1 := (tp_row : lf_up y.1 65 a v1 65 = ds_u1 (y.1 65) a v1)
          rw [e, yA.2.2]
      · obtain ⟨v1, st2, est, s1⟩ : ∃ v st', st = v :: st' ∧ cm_sm v := by
          rcases ok with q | q | q | q | q | q
          · omega
          · omega
          · omega
          · omega
          · exact q.2
          · omega
        subst est
        rw [if_neg (by omega), if_neg (by omega), if_neg (by omega), if_neg (by omega)] at go'
        dsimp only at go'
        rw [if_neg (by omega), if_neg (by omega), if_neg (by omega), if_pos hc] at go'
        rw [List.length_cons] at hl
        refine fl_86 tA (fun y yf yA => ?_)
        unfold cm_sm at s1
        rw [tr_w (a := 1 - v1) (by omega)]
        refine fl_85 yA (by omega) (fun g gf gA => ?_)
        unfold fw_84b_p305
        exact next _ _ _ g (cw_ft tf (cw_ft yf gf)) gA (by rw [List.length_cons]; omega) go'
end CX
/-! what a law's sum is worth, along the descent; orders that say so -/
section DV
variable {f R R' N M L : Int → Int} {n law a b c p q r x d : Int} {st : List Int}
/-- depth, letters, what letters are worth, place: worth -/
abbrev dv_D : Type := Int → (Int → Int) → (Int → Int) → Int → Int
def dv_lp (f : Int → Int) (n : Int) (ok : Int → Bool) (G : Int → Int × Int) (V : Int → Int) (op : Int → Int → Int → Int) : Nat → Int → Int → Int
  | 0, _, v => v
  | k + 1, b, v => if ok (lx_T f n b) = true then dv_lp f n ok G V op k (G (ds_ad f n b)).2 (op (lx_T f n b) v (V (ds_ad f n b))) else v
def dv_one (f : Int → Int) (n : Int) (N : Int → Int) (S O I L : dv_D) (d : Int) (g e : Int → Int) (b : Int) : Int :=
  if lx_T f n b = 2 then lx_V f n b else if lx_T f n b = 3 then e (lx_V f n b)
  else if lx_T f n b = 11 then -(O (d + 1) g e (ds_ad f n b)) else if lx_T f n b = 14 then S (d + 1) g e (ds_ad f n b)
  else if lx_T f n b = 37 then I (d + 1) g e (ds_ad f n b) else if lx_T f n b = 41 then L (d + 1) g e (ds_ad f n b) else N (la_nm (lx_T f n b))
def dv_if (f : Int → Int) (n : Int) (S E : ds_D) (VS VE : dv_D) (d : Int) (g e : Int → Int) (b : Int) : Int :=
  if VE d g e b ≠ 0 then VS d g e (ds_ad f n (E d g b).2) else VS d g e (ds_ad f n (S d g (ds_ad f n (E d g b).2)).2)
def dv_let (f : Int → Int) (n : Int) (S : ds_D) (VS : dv_D) (d : Int) (g e : Int → Int) (b : Int) : Int :=
  VS d (ds_u1 g (lx_V f n b) (ds_sl d)) (ds_u1 e (lx_V f n b) (VS d g e (ds_ad f n (ds_ad f n b)))) (ds_ad f n (S d g (ds_ad f n (ds_ad f n b))).2)
def dv_ask (f : Int → Int) (n : Int) (S : ds_D) (VS VA : dv_D) (d : Int) (g e : Int → Int) (b : Int) : Int :=
  if lx_T f n b = 44 then 1 - VA (d + 1) g e (ds_ad f n b)
  else lf_b (cm_cp (lx_T f n (S d g b).2) (VS d g e b) (VS d g e (ds_ad f n (S d g b).2)))
/-- sum, product, one, if, let, either, both, ask -/
def dv_T (f : Int → Int) (n law : Int) (N : Int → Int) : Nat → dv_D × dv_D × dv_D × dv_D × dv_D × dv_D × dv_D × dv_D
  | 0 => (fun _ _ _ _ => 0, fun _ _ _ _ => 0, fun _ _ _ _ => 0, fun _ _ _ _ => 0, fun _ _ _ _ => 0, fun _ _ _ _ => 0, fun _ _ _ _ => 0, fun _ _ _ _ => 0)
  | k + 1 => (fun d g e b => dv_lp f n ds_pm ((ds_T f n law k).2.1 d g) ((dv_T f n law N k).2.1 d g e) cm_2 300 ((ds_T f n law k).2.1 d g b).2 ((dv_T f n law N k).2.1 d g e b),
    fun d g e b => dv_lp f n ds_td ((ds_T f n law k).2.2.1 d g) ((dv_T f n law N k).2.2.1 d g e) cm_2 300 ((ds_T f n law k).2.2.1 d g b).2 ((dv_T f n law N k).2.2.1 d g e b),
    dv_one f n N (dv_T f n law N k).1 (dv_T f n law N k).2.2.1 (dv_T f n law N k).2.2.2.1 (dv_T f n law N k).2.2.2.2.1,
    dv_if f n (ds_T f n law k).1 (ds_T f n law k).2.2.2.2.2.1 (dv_T f n law N k).1 (dv_T f n law N k).2.2.2.2.2.1,
    dv_let f n (ds_T f n law k).1 (dv_T f n law N k).1,
    fun d g e b => dv_lp f n (ds_is 46) ((ds_T f n law k).2.2.2.2.2.2.1 d g) ((dv_T f n law N k).2.2.2.2.2.2.1 d g e) cm_2 300 ((ds_T f n law k).2.2.2.2.2.2.1 d g b).2 ((dv_T f n law N k).2.2.2.2.2.2.1 d g e b),
    fun d g e b => dv_lp f n (ds_is 45) ((ds_T f n law k).2.2.2.2.2.2.2 d g) ((dv_T f n law N k).2.2.2.2.2.2.2 d g e) cm_2 300 ((ds_T f n law k).2.2.2.2.2.2.2 d g b).2 ((dv_T f n law N k).2.2.2.2.2.2.2 d g e b),
    dv_ask f n (ds_T f n law k).1 (dv_T f n law N k).1 (dv_T f n law N k).2.2.2.2.2.2.2)
/-! orders -/
/-- the number of a name with the class -/
def cc_ix (t : Int) : Int := if t = 24 then 10 else t - 47
/-- the names of both -/
def cc_N (law : Int) (N M : Int → Int) : Prop := ∀ t : Int, (t = 24 ∨ (47 ≤ t ∧ t ≤ 56)) → ds_nm law (cc_ix t) = true → M (cc_ix t) = N (la_nm t) ∧ cm_sm (N (la_nm t))
/-- letters: where they lie, what they are worth -/
def cc_L (d : Int) (g e L : Int → Int) : Prop := ∀ x : Int, 0 ≤ x → x < 26 → g x ≠ -1 → (0 ≤ g x ∧ g x < d ∧ g x < 8) ∧ L (g x) = e x ∧ cm_sm (e x)
abbrev cc_V : Type := (Int → Int) → (Int → Int) → Int
/-- from p to q stand orders that say V -/
def cc (law : Int) (R : Int → Int) (p q d : Int) (g : Int → Int) (V : cc_V) : Prop :=
  p ≤ q ∧ ∀ (N M e L : Int → Int) (st : List Int), cc_N law N M → cc_L d g e L → cm_sm (V N e) ∧ ∃ (k : Nat) (L' : Int → Int), (k : Int) ≤ q - p ∧ cm_go R M p q k (p, st, L) (q, V N e :: st, L') ∧ ∀ i : Int, i < d → L' i = L i
variable {g : Int → Int} {V V1 V2 V3 : cc_V}
theorem cc_R (h : cc law R p q d g V) (e : ∀ i : Int, p ≤ i → i < q → R' i = R i) : cc law R' p q d g V := ⟨h.1, fun N M ev L st hN hL => by
  obtain ⟨s, k, L', h1, h2, h3⟩ := h.2 N M ev L st hN hL
  exact ⟨s, k, L', h1, cm_goR e k _ h2, h3⟩⟩
theorem cc_Lk {e L' : Int → Int} (h : cc_L d g e L) (k : ∀ i : Int, i < d → L' i = L i) : cc_L d g e L' := fun x x0 x1 hx => by
  have := h x x0 x1 hx
  exact ⟨this.1, (k _ this.1.2.1).trans this.2.1, this.2.2⟩
/-- deeper read, here used -/
theorem cc_w (h : cc law R p q (d + 1) g V) : cc law R p q d g V := ⟨h.1, fun N M e L st hN hL => by
  obtain ⟨s, k, L', h1, h2, h3⟩ := h.2 N M e L st hN (fun x x0 x1 hx => by
    have := hL x x0 x1 hx
    exact ⟨⟨this.1.1, by omega, this.1.2.2⟩, this.2⟩)
  exact ⟨s, k, L', h1, h2, fun i hi => h3 i (by omega)⟩⟩
/-- what an order is -/
theorem cm_dm {k v : Int} (hk : 0 ≤ k) (hv : 0 ≤ v ∧ v < 10000) : (k * 10000 + v).tdiv 10000 = k ∧ (k * 10000 + v).tmod 10000 = v := by
  rw [Int.tmod_eq_emod_of_nonneg (by omega), Int.tdiv_eq_ediv_of_nonneg (by omega)]
  omega
/-- one order that pushes -/
theorem cc_p1 {k v : Int} (hR : R p = k * 10000 + v) (hk : 0 ≤ k ∧ k < 50) (hv : 0 ≤ v ∧ v < 10000) (h : ∀ (N M e L : Int → Int), cc_N law N M → cc_L d g e L → cm_sm (V N e) ∧ ((k = 2 ∧ v = V N e) ∨ (k = 3 ∧ v < 8 ∧ L v = V N e) ∨ (k = 17 ∧ v < 11 ∧ M v = V N e))) : cc law R p (p + 1) d g V := by
  refine ⟨by omega, fun N M e L st hN hL => ?_⟩
  obtain ⟨s, h⟩ := h N M e L hN hL
  obtain ⟨e1, e2⟩ := cm_dm hk.1 hv
  refine ⟨s, 1, L, by omega, ⟨⟨⟨Int.le_refl p, by show p < p + 1; omega⟩, by show 0 ≤ R p; rw [hR]; omega, by show R p < 1000000; rw [hR]; omega, ?_⟩, ?_⟩, fun i _ => rfl⟩
  · show (R p).tdiv 10000 = 2 ∨ _
    rw [hR, e1, e2]
    rcases h with h | h | h
    · exact Or.inl h.1
    · exact Or.inr (Or.inl ⟨h.1, h.2.1⟩)
    · exact Or.inr (Or.inr (Or.inl ⟨h.1, h.2.1⟩))
  · show cm_st R M (p, st, L) = (p + 1, V N e :: st, L)
    unfold cm_st
    dsimp only
    rw [hR, e1, e2]
    rcases h with h | h | h
    · rw [if_pos h.1, h.2]
    · rw [if_neg (by omega), if_pos h.1, h.2.2]
    · rw [if_neg (by omega), if_neg (by omega), if_pos h.1, h.2.2]
/-- one order on what is on top -/
theorem cc_p2 {k : Int} (hR : R q = k * 10000) (hk : k = 18 ∨ k = 44) (h : cc law R p q d g V) (hV : ∀ N e, V2 N e = if k = 18 then -(V N e) else 1 - V N e) (hs : ∀ N e, cm_sm (V N e) → cm_sm (V2 N e)) : cc law R p (q + 1) d g V2 := by
  have pq := h.1
  refine ⟨by omega, fun N M e L st hN hL => ?_⟩
  obtain ⟨s, j, L', h1, h2, h3⟩ := h.2 N M e L st hN hL
  obtain ⟨e1, e2⟩ := cm_dm (k := k) (v := 0) (by omega) (by omega)
  rw [Int.add_zero] at e1 e2
  refine ⟨hs N e s, j + 1, L', by omega, cm_goA j 1 _ (cm_goW (Int.le_refl p) (by omega) j _ h2) ⟨⟨⟨pq, by show q < q + 1; omega⟩, by show 0 ≤ R q; rw [hR]; omega, by show R q < 1000000; rw [hR]; omega, ?_⟩, ?_⟩, h3⟩
  · show (R q).tdiv 10000 = 2 ∨ _
    rw [hR, e1]
    refine Or.inr (Or.inr (Or.inr (Or.inr (Or.inl ⟨?_, _, st, rfl, s⟩))))
    rcases hk with hk | hk
    · exact Or.inl hk
    · exact Or.inr (Or.inr (Or.inr hk))
  · show cm_st R M (q, V N e :: st, L') = (q + 1, V2 N e :: st, L')
    unfold cm_st
    dsimp only
    rw [hR, e1, if_neg (by omega), if_neg (by omega), if_neg (by omega), if_neg (by omega), hV N e]
    rcases hk with hk | hk
    · rw [if_pos hk, if_pos hk]
    · rw [if_neg (by omega), if_neg (by omega), if_neg (by omega), if_pos hk, if_neg (by omega)]
theorem cm_2S {k v w : Int} (hw : cm_sm w) (hb : k = 45 ∨ k = 46 → (w = 0 ∨ w = 1) ∧ (v = 0 ∨ v = 1)) : cm_sm (cm_2 k w v) := by
  unfold cm_2
  by_cases c1 : k = 45
  · rw [if_pos c1]
    obtain ⟨h1, h2⟩ := hb (Or.inl c1)
    rcases h1 with h1 | h1 <;> rcases h2 with h2 | h2 <;> subst h1 <;> subst h2 <;> exact ⟨by decide, by decide⟩
  · rw [if_neg c1]
    by_cases c2 : k = 46
    · rw [if_pos c2]
      obtain ⟨h1, h2⟩ := hb (Or.inr c2)
      rcases h1 with h1 | h1 <;> rcases h2 with h2 | h2 <;> subst h1 <;> subst h2 <;> exact ⟨by decide, by decide⟩
    · rw [if_neg c2]
      split
      · exact cm_arS hw
      · cases cm_cp k w v <;> exact ⟨by decide, by decide⟩
/-- two, and what binds them -/
theorem cc_2 {k : Int} (h1 : cc law R p q d g V1) (h2 : cc law R q r d g V2) (hR : R r = k * 10000) (hk : (4 ≤ k ∧ k ≤ 13) ∨ k = 45 ∨ k = 46) (hb : k = 45 ∨ k = 46 → ∀ N e, (V1 N e = 0 ∨ V1 N e = 1) ∧ (V2 N e = 0 ∨ V2 N e = 1)) : cc law R p (r + 1) d g (fun N e => cm_2 k (V1 N e) (V2 N e)) := by
  have pq := h1.1
  have qr := h2.1
  refine ⟨by omega, fun N M e L st hN hL => ?_⟩
  obtain ⟨s1, j1, L1, a1, a2, a3⟩ := h1.2 N M e L st hN hL
  obtain ⟨s2, j2, L2, b1, b2, b3⟩ := h2.2 N M e L1 (V1 N e :: st) hN (cc_Lk hL a3)
  obtain ⟨e1, e2⟩ := cm_dm (k := k) (v := 0) (by omega) (by omega)
  rw [Int.add_zero] at e1 e2
  refine ⟨cm_2S s1 (fun q => hb q N e), j1 + j2 + 1, L2, by omega, cm_goA (j1 + j2) 1 _ (cm_goA j1 j2 _ (cm_goW (Int.le_refl p) (by omega) j1 _ a2) (cm_goW pq (by omega) j2 _ b2)) ⟨⟨⟨by show p ≤ r; omega, by show r < r + 1; omega⟩, by show 0 ≤ R r; rw [hR]; omega, by show R r < 1000000; rw [hR]; omega, ?_⟩, ?_⟩, fun i hi => (b3 i hi).trans (a3 i hi)⟩
  · show (R r).tdiv 10000 = 2 ∨ _
    rw [hR, e1]
    exact Or.inr (Or.inr (Or.inr (Or.inr (Or.inr ⟨hk, _, _, st, rfl, s2, s1⟩))))
  · show cm_st R M (r, V2 N e :: V1 N e :: st, L2) = (r + 1, cm_2 k (V1 N e) (V2 N e) :: st, L2)
    unfold cm_st
    dsimp only
    rw [hR, e1, if_neg (by omega), if_neg (by omega), if_neg (by omega), if_neg (by omega), if_neg (by omega), if_neg (by omega), if_neg (by omega), if_neg (by omega)]
/-- if -/
theorem cc_if {w : Int} (h1 : cc law R p q d g V1) (hR1 : R q = 38 * 10000 + (r + 1)) (h2 : cc law R (q + 1) r d g V2) (hR2 : R r = 39 * 10000 + w) (h3 : cc law R (r + 1) w d g V3) (w3 : w ≤ 300) (p0 : 0 ≤ p) : cc law R p w d g (fun N e => if V1 N e ≠ 0 then V2 N e else V3 N e) := by
  have pq := h1.1
  have qr := h2.1
  have rw_ := h3.1
  refine ⟨by omega, fun N M e L st hN hL => ?_⟩
  obtain ⟨s1, j1, L1, a1, a2, a3⟩ := h1.2 N M e L st hN hL
  have hL1 := cc_Lk hL a3
  obtain ⟨e1, e2⟩ := cm_dm (k := 38) (v := r + 1) (by decide) (by omega)
  obtain ⟨e3, e4⟩ := cm_dm (k := 39) (v := w) (by decide) (by omega)
  have stp : cm_st R M (q, V1 N e :: st, L1) = (if V1 N e ≠ 0 then q + 1 else r + 1, st, L1) := by
    unfold cm_st
    dsimp only
    rw [hR1, e1, e2, if_neg (by omega), if_neg (by omega), if_neg (by omega), if_neg (by omega), if_neg (by omega), if_pos rfl]
  have ok : cm_or R M p w (q, V1 N e :: st, L1) := by
    refine ⟨⟨pq, by show q < w; omega⟩, by show 0 ≤ R q; rw [hR1]; omega, by show R q < 1000000; rw [hR1]; omega, ?_⟩
    show (R q).tdiv 10000 = 2 ∨ _
    rw [hR1, e1]
    exact Or.inr (Or.inr (Or.inr (Or.inr (Or.inl ⟨Or.inr (Or.inl rfl), _, st, rfl, s1⟩))))
  by_cases c : V1 N e ≠ 0
  · obtain ⟨s2, j2, L2, b1, b2, b3⟩ := h2.2 N M e L1 st hN hL1
    rw [if_pos c] at stp
    have last : cm_go R M p w 1 (r, V2 N e :: st, L2) (w, V2 N e :: st, L2) := by
      refine ⟨⟨⟨by show p ≤ r; omega, by show r < w; omega⟩, by show 0 ≤ R r; rw [hR2]; omega, by show R r < 1000000; rw [hR2]; omega, ?_⟩, ?_⟩
      · show (R r).tdiv 10000 = 2 ∨ _
        rw [hR2, e3]
        exact Or.inr (Or.inr (Or.inr (Or.inl rfl)))
      · show cm_st R M (r, V2 N e :: st, L2) = (w, V2 N e :: st, L2)
        unfold cm_st
        dsimp only
        rw [hR2, e3, e4, if_neg (by omega), if_neg (by omega), if_neg (by omega), if_pos rfl]
    refine ⟨by dsimp only; rw [if_pos c]; exact s2, j1 + (1 + (j2 + 1)), L2, by omega, ?_, fun i hi => (b3 i hi).trans (a3 i hi)⟩
    dsimp only
    rw [if_pos c]
    refine cm_goA j1 _ _ (cm_goW (Int.le_refl p) (by omega) j1 _ a2) (cm_goA 1 _ _ ⟨ok, ?_⟩ (cm_goA j2 1 _ (cm_goW (by omega) (by omega) j2 _ b2) last))
    exact stp
  · obtain ⟨s2, j2, L2, b1, b2, b3⟩ := h3.2 N M e L1 st hN hL1
    rw [if_neg c] at stp
    refine ⟨by dsimp only; rw [if_neg c]; exact s2, j1 + (1 + j2), L2, by omega, ?_, fun i hi => (b3 i hi).trans (a3 i hi)⟩
    dsimp only
    rw [if_neg c]
    exact cm_goA j1 _ _ (cm_goW (Int.le_refl p) (by omega) j1 _ a2) (cm_goA 1 j2 _ ⟨ok, stp⟩ (cm_goW (by omega) (by omega) j2 _ b2))
/-- let: the slot is d, read one deeper -/
theorem cc_let (h1 : cc law R p q (d + 1) g V1) (hR : R q = 43 * 10000 + d) (d0 : 0 ≤ d) (d8 : d < 8) (h2 : cc law R (q + 1) r (d + 1) (ds_u1 g x d) V2) : cc law R p r d g (fun N e => V2 N (ds_u1 e x (V1 N e))) := by
  have pq := h1.1
  have qr := h2.1
  refine ⟨by omega, fun N M e L st hN hL => ?_⟩
  have hL' : cc_L (d + 1) g e L := fun y y0 y1 hy => by
    have := hL y y0 y1 hy
    exact ⟨⟨this.1.1, by omega, this.1.2.2⟩, this.2⟩
  obtain ⟨s1, j1, L1, a1, a2, a3⟩ := h1.2 N M e L st hN hL'
  obtain ⟨e1, e2⟩ := cm_dm (k := 43) (v := d) (by decide) (by omega)
  have stp : cm_st R M (q, V1 N e :: st, L1) = (q + 1, st, ds_u1 L1 d (V1 N e)) := by
    unfold cm_st
    dsimp only
    rw [hR, e1, e2, if_neg (by omega), if_neg (by omega), if_neg (by omega), if_neg (by omega), if_neg (by omega), if_neg (by omega), if_pos rfl]
  have ok : cm_or R M p r (q, V1 N e :: st, L1) := by
    refine ⟨⟨pq, by show q < r; omega⟩, by show 0 ≤ R q; rw [hR]; omega, by show R q < 1000000; rw [hR]; omega, ?_⟩
    show (R q).tdiv 10000 = 2 ∨ _
    rw [hR, e1, e2]
    exact Or.inr (Or.inr (Or.inr (Or.inr (Or.inl ⟨Or.inr (Or.inr (Or.inl ⟨rfl, d8⟩)), _, st, rfl, s1⟩))))
  have hL2 : cc_L (d + 1) (ds_u1 g x d) (ds_u1 e x (V1 N e)) (ds_u1 L1 d (V1 N e)) := fun y y0 y1 hy => by
    unfold ds_u1 at hy ⊢
    by_cases c : y = x
    · rw [if_pos c, if_pos c, if_pos rfl]
      exact ⟨⟨d0, by omega, d8⟩, rfl, s1⟩
    · rw [if_neg c] at hy
      have := hL y y0 y1 hy
      rw [if_neg c, if_neg c, if_neg (by omega)]
      exact ⟨⟨this.1.1, by omega, this.1.2.2⟩, (a3 _ (by omega)).trans this.2.1, this.2.2⟩
  obtain ⟨s2, j2, L2, b1, b2, b3⟩ := h2.2 N M (ds_u1 e x (V1 N e)) _ st hN hL2
  refine ⟨s2, j1 + (1 + j2), L2, by omega, cm_goA j1 _ _ (cm_goW (Int.le_refl p) (by omega) j1 _ a2) (cm_goA 1 j2 _ ⟨ok, stp⟩ (cm_goW (by omega) (by omega) j2 _ b2)), fun i hi => ?_⟩
  exact (b3 i (by omega)).trans ((if_neg (by omega)).trans (a3 i (by omega)))
end DV
/-! the class's reader again, with what it writes: W is what is known of the scripts' rows -/
section CY
variable {f g : Int → Int} {n law : Int} {s t u z : lf_Z} {r : Int × Int}
abbrev cy_W : Type := Option Nat → (Nat → Int → Int) → Prop
variable {W : cy_W}
/-- what the reading leaves as it was: all but the rows of the script that is read -/
def cy_K (z t : lf_Z) : Prop := t.2.2 = z.2.2 ∧ t.1 0 = z.1 0 ∧ ∀ u : Nat, z.2.2 2 = some u → ∀ c : Nat, 35 ≤ c → (c < 35 + 7 * u ∨ 42 + 7 * u ≤ c) → t.1 c = z.1 c
theorem cy_Kr : cy_K z z := ⟨rfl, rfl, fun _ _ _ _ _ => rfl⟩
theorem cy_Ke (h : cy_K z s) (e : t.2.2 = s.2.2) (h2 : ∀ c : Nat, c = 0 ∨ 35 ≤ c → t.1 c = s.1 c) : cy_K z t := ⟨e.trans h.1, (h2 0 (Or.inl rfl)).trans h.2.1, fun u hu c c1 c2 => (h2 c (Or.inr c1)).trans (h.2.2 u hu c c1 c2)⟩
theorem cy_Ku {t0 : Nat} (h : cy_K z s) (e : t.2.2 = s.2.2) (hu : s.2.2 2 = some t0) (h2 : ∀ c : Nat, c = 0 ∨ (35 ≤ c ∧ (c < 35 + 7 * t0 ∨ 42 + 7 * t0 ≤ c)) → t.1 c = s.1 c) : cy_K z t := ⟨e.trans h.1, (h2 0 (Or.inl rfl)).trans h.2.1, fun u hu2 c c1 c2 => by
  have : t0 = u := by rw [h.1, hu2] at hu; exact (Option.some.inj hu).symm
  subst this
  exact (h2 c (Or.inr ⟨c1, c2⟩)).trans (h.2.2 _ hu2 c c1 c2)⟩
def cy_S (z : lf_Z) (W : cy_W) (f : Int → Int) (n : Int) (g : Int → Int) (law : Int) (t : lf_Z) (r : Int × Int) : Prop := t.1 32 = f ∧ t.1 31 1 = n ∧ t.1 33 = g ∧ t.1 31 6 = law ∧ (r.1 = 0 → rd_at t r.2 ∧ t.1 31 2 = 0 ∧ 0 ≤ r.2 ∧ 0 ≤ t.1 31 7 ∧ t.1 31 3 = -1) ∧ (r.1 ≠ 0 → t.1 31 2 = r.1 ∧ t.1 31 3 = r.2 ∧ t.1 31 8 = 1) ∧ (r.1 = 0 → W (t.2.2 2) (fun c => t.1 (35 + c))) ∧ cy_K z t
theorem cy_P (h : cy_S z W f n g law t r) : t.2.2 = z.2.2 := h.2.2.2.2.2.2.2.1
theorem cy_Wc (h : W (s.2.2 2) (fun c => s.1 (35 + c))) (e : t.2.2 = s.2.2) (h2 : ∀ c : Nat, 35 ≤ c → t.1 c = s.1 c) : W (t.2.2 2) (fun c => t.1 (35 + c)) := by
  have e2 : (fun c : Nat => t.1 (35 + c)) = (fun c : Nat => s.1 (35 + c)) := funext fun c => h2 _ (by omega)
  rw [e, e2]; exact h
theorem cy_S_c {W' : cy_W} (h : cy_S z W f n g law s r) (e : t.1 31 = s.1 31) (e2 : t.1 32 = s.1 32) (e3 : t.1 33 = s.1 33) (eK : r.1 = 0 → W' (t.2.2 2) (fun c => t.1 (35 + c))) (eZ : cy_K z s → cy_K z t) : cy_S z W' f n g law t r := by
  obtain ⟨h1, h2, h3, h4, h5, h6, _, h8⟩ := h
  refine ⟨e2.trans h1, ?_, e3.trans h3, ?_, fun c => ?_, fun c => ?_, eK, eZ h8⟩
  · rw [e]; exact h2
  · rw [e]; exact h4
  · unfold rd_at; rw [e, e2]; exact h5 c
  · rw [e]; exact h6 c
theorem cy_tok (h : cy_S z W f n g law s r) (c : r.1 = 0) : s.1 31 8 = lx_T f n r.2 := by
  have := (h.2.2.2.2.1 c).1.2.1
  rw [h.1, h.2.1] at this
  exact this
theorem cy_val (h : cy_S z W f n g law s r) (c : r.1 = 0) (q : s.1 31 8 = 2 ∨ s.1 31 8 = 3) : s.1 31 10 = lx_V f n r.2 := by
  have := (h.2.2.2.2.1 c).1.2.2.2 q
  rw [h.1, h.2.1] at this
  exact this
theorem cy_bad (h : cy_S z W f n g law s r) (c : r.1 ≠ 0) : s.1 31 8 = 1 := (h.2.2.2.2.2.1 c).2.2
/-- on: fw_31 -/
theorem fy_adv {Q : lf_Z → Prop} (hb : cl_tp f n) (h : cy_S z W f n g law s r) (k : ∀ t : lf_Z, cy_S z W f n g law t (ds_bd r (fun b => (0, ds_ad f n b))) → Q t) : fw_31 Q s := by
  by_cases c : r.1 = 0
  · obtain ⟨h1, h2, h3, h4, h5, _, h7, h8⟩ := h
    obtain ⟨a1, a2, a3, a4, a5⟩ := h5 c
    refine fl_31 a2 a4 (by rw [h1, h2]; exact hb) (fun t hF hA => k t ?_)
    rw [ds_bd0 c]
    have e1 : t.1 31 1 = n := (hF.2.1 1 (by decide) (by decide) (by decide) (by decide)).trans h2
    have e32 : t.1 32 = f := (hF.1 32 (by decide)).trans h1
    have e7 : s.1 31 7 = lx_E f n r.2 := by rw [← h1, ← h2]; exact a1.2.2.1
    rw [h1, h2, e7] at hA
    refine ⟨e32, e1, (hF.1 33 (by decide)).trans h3, (hF.2.1 6 (by decide) (by decide) (by decide) (by decide)).trans h4, fun _ => ⟨hA, (hF.2.1 2 (by decide) (by decide) (by decide) (by decide)).trans a2, cl_ad0 a3, ?_, (hF.2.1 3 (by decide) (by decide) (by decide) (by decide)).trans a5⟩, fun d => absurd rfl d, fun _ => cy_Wc (h7 c) (congrArg (·.2) hF.2.2) (fun c hc => hF.1 c (by omega)), cy_Ke h8 (congrArg (·.2) hF.2.2) (fun c hc => hF.1 c (by omega))⟩
    rw [hA.2.2.1]
    exact cl_E0 (cl_ad0 a3)
  · refine fl_31f ?_ (k s ?_)
    · rw [(h.2.2.2.2.2.1 c).1]; exact c
    · rw [ds_bdF c]; exact h
/-- a fault: fw_39 -/
theorem fy_fail {W' : cy_W} {k9 : Int} {Q : lf_Z → Prop} (hk : k9 ≠ 0) (h : cy_S z W f n g law s r) (k : ∀ t : lf_Z, cy_S z W' f n g law t (ds_bd r (fun b => (k9, b))) → Q t) : fw_39 k9 Q s := by
  obtain ⟨h1, h2, h3, h4, h5, h6, h7, h8⟩ := h
  unfold fw_39
  intro _
  by_cases c : r.1 = 0
  · obtain ⟨a1, a2, a3, a4⟩ := h5 c
    refine ⟨fun d => absurd a2 d, fun _ => ?_⟩
    unfold fw_39_p20
    refine k _ ?_
    rw [ds_bd0 c]
    have w : ∀ i : Int, i ≠ 2 → i ≠ 3 → i ≠ 8 → (lf_up (lf_up (lf_up s.1 31 2 k9) 31 3 (s.1 31 9)) 31 8 1) 31 i = s.1 31 i := fun i x y z => (lf_up_i z).trans ((lf_up_i y).trans (lf_up_i x))
    have w2 : ∀ c : Nat, c ≠ 31 → (lf_up (lf_up (lf_up s.1 31 2 k9) 31 3 (s.1 31 9)) 31 8 1) c = s.1 c := fun c x => (lf_up_row x).trans ((lf_up_row x).trans (lf_up_row x))
    refine ⟨(w2 32 (by decide)).trans h1, (w 1 (by decide) (by decide) (by decide)).trans h2, (w2 33 (by decide)).trans h3, (w 6 (by decide) (by decide) (by decide)).trans h4, fun d => absurd d hk, fun _ => ⟨?_, ?_, zu_s⟩, fun d => absurd d hk, cy_Ke h8 rfl (fun c hc => w2 c (by omega))⟩
    · show (lf_up (lf_up (lf_up s.1 31 2 k9) 31 3 (s.1 31 9)) 31 8 1) 31 2 = k9
      exact (lf_up_i (by decide)).trans ((lf_up_i (by decide)).trans lf_up_s)
    · show (lf_up (lf_up (lf_up s.1 31 2 k9) 31 3 (s.1 31 9)) 31 8 1) 31 3 = r.2
      exact ((lf_up_i (by decide)).trans lf_up_s).trans a1.1
  · obtain ⟨a1, a2, a3⟩ := h6 c
    refine ⟨fun _ => ?_, fun d => absurd (by rw [a1]; exact c) d⟩
    unfold fw_39_p20
    refine k _ ?_
    rw [ds_bdF c]
    have w : ∀ i : Int, i ≠ 8 → (lf_up s.1 31 8 1) 31 i = s.1 31 i := fun i x => lf_up_i x
    have w2 : ∀ c : Nat, c ≠ 31 → (lf_up s.1 31 8 1) c = s.1 c := fun c x => lf_up_row x
    exact ⟨(w2 32 (by decide)).trans h1, (w 1 (by decide)).trans h2, (w2 33 (by decide)).trans h3, (w 6 (by decide)).trans h4, fun d => absurd d c, fun _ => ⟨(w 2 (by decide)).trans a1, (w 3 (by decide)).trans a2, zu_s⟩, fun d => absurd d c, cy_Ke h8 rfl (fun c hc => w2 c (by omega))⟩
/-- in a fault nothing is known of the rows -/
theorem cy_F {W' : cy_W} (h : cy_S z W f n g law s r) (c : r.1 ≠ 0) : cy_S z W' f n g law s r := ⟨h.1, h.2.1, h.2.2.1, h.2.2.2.1, h.2.2.2.2.1, h.2.2.2.2.2.1, fun d => absurd d c, h.2.2.2.2.2.2.2⟩
theorem cy_m {W' : cy_W} (h : cy_S z W f n g law s r) (m : ∀ o C, r.1 = 0 → W o C → W' o C) : cy_S z W' f n g law s r := ⟨h.1, h.2.1, h.2.2.1, h.2.2.2.1, h.2.2.2.2.1, h.2.2.2.2.2.1, fun d => m _ _ d (h.2.2.2.2.2.2.1 d), h.2.2.2.2.2.2.2⟩
/-- what is wanted, or a fault: fw_48 -/
theorem fy_ex {w : Int} {Q : lf_Z → Prop} (hw : w ≠ 1) (hb : cl_tp f n) (h : cy_S z W f n g law s r) (k : ∀ t : lf_Z, cy_S z W f n g law t (ds_bd r (ds_ex f n w)) → Q t) : fw_48 w Q s := by
  unfold fw_48
  intro _ _
  by_cases c : r.1 = 0
  · have e := cy_tok h c
    refine ⟨fun d => fy_fail (W' := W) (by decide) h (fun t ht => k t ?_), fun d => fy_adv hb h (fun t ht => k t ?_)⟩
    · rw [ds_bd0 c] at ht ⊢
      unfold ds_ex
      rw [if_neg (by rw [← e]; exact d)]; exact ht
    · rw [ds_bd0 c] at ht ⊢
      unfold ds_ex
      rw [if_pos (by rw [← e]; exact Classical.not_not.mp d)]; exact ht
  · have e := cy_bad h c
    refine ⟨fun d => fy_fail (W' := W) (by decide) h (fun t ht => k t ?_), fun d => absurd (by rw [e]; exact fun q => hw q.symm) d⟩
    rw [ds_bdF c] at ht ⊢
    exact ht
/-- an order a more, at v -/
def cy_O (a v : Int) (W : cy_W) : cy_W := fun o C => ∃ (D : Nat → Int → Int) (u : Nat), W o D ∧ o = some u ∧ u < 4 ∧ (D (7 * u) 1 < 300 → v = D (7 * u) 1 ∧ C (7 * u) 1 = D (7 * u) 1 + 1 ∧ C (7 * u + 1) = ds_u1 (D (7 * u + 1)) (D (7 * u) 1) a ∧ (∀ i : Int, i ≠ 1 → C (7 * u) i = D (7 * u) i) ∧ ∀ c : Nat, c ≠ 7 * u → c ≠ 7 * u + 1 → C c = D c)
theorem fy_45 {t0 : Nat} {a1 a2 : Int} {Q : Int → lf_Z → Prop} (ht : t0 < 4) (h : cy_S z W f n g law s r) (hu : s.2.2 2 = some t0) (k : ∀ (v : Int) (t : lf_Z), t.2 = s.2 → cy_S z (cy_O (a1 * 10000 + a2) v W) f n g law t r → Q v t) : fw_45 t0 a1 a2 Q s := by
  unfold fw_45
  have e1 : (lf_up s.1 (36 + 7 * t0) (s.1 (35 + 7 * t0) 1) (a1 * 10000 + a2)) (35 + 7 * t0) 1 = s.1 (35 + 7 * t0) 1 := lf_up_c (by omega)
  rw [e1, lf_up_s]
  intro _
  refine ⟨fun c _ => ?_, fun c => k _ _ rfl (cy_S_c h rfl rfl rfl (fun hr => ⟨fun c => s.1 (35 + c), t0, h.2.2.2.2.2.2.1 hr, hu, ht, fun q => absurd q c⟩) (fun hK => hK))⟩
  rw [show s.1 (35 + 7 * t0) 1 + 1 - 1 = s.1 (35 + 7 * t0) 1 by omega]
  refine k _ _ rfl (cy_S_c h ((zu_r (by omega)).trans (lf_up_row (by omega))) ((zu_r (by omega)).trans (lf_up_row (by omega))) ((zu_r (by omega)).trans (lf_up_row (by omega))) (fun hr => ?_) (fun hK => cy_Ku hK rfl hu (fun c hc => (zu_r (by omega)).trans (lf_up_row (by omega)))))
  refine ⟨fun c => s.1 (35 + c), t0, h.2.2.2.2.2.2.1 hr, hu, ht, fun _ => ⟨rfl, zu_s, ?_, fun i hi => (zu_i hi).trans (lf_up_c (by omega)), fun c c1 c2 => (zu_r (by omega)).trans (lf_up_row (by omega))⟩⟩
  show (lf_up (lf_up s.1 (36 + 7 * t0) (s.1 (35 + 7 * t0) 1) (a1 * 10000 + a2)) (35 + 7 * t0) 1 (s.1 (35 + 7 * t0) 1 + 1)) (35 + (7 * t0 + 1)) = ds_u1 (s.1 (35 + (7 * t0 + 1))) (s.1 (35 + 7 * t0) 1) (a1 * 10000 + a2)
  rw [show 35 + (7 * t0 + 1) = 36 + 7 * t0 by omega]
  exact (lf_up_row (by omega)).trans tp_row
/-- a leap's end is known -/
def cy_B (v : Int) (W : cy_W) : cy_W := fun o C => ∃ (D : Nat → Int → Int) (u : Nat), W o D ∧ o = some u ∧ u < 4 ∧ (0 ≤ v → v < D (7 * u) 1 → C (7 * u + 1) = ds_u1 (D (7 * u + 1)) v (lf_w (D (7 * u + 1) v + D (7 * u) 1)) ∧ ∀ c : Nat, c ≠ 7 * u + 1 → C c = D c)
theorem fy_53 {t0 : Nat} {a1 : Int} {Q : lf_Z → Prop} (ht : t0 < 4) (h : cy_S z W f n g law s r) (hu : s.2.2 2 = some t0) (k : ∀ (t : lf_Z), t.2 = s.2 → cy_S z (cy_B a1 W) f n g law t r → Q t) : fw_53 t0 a1 Q s := by
  unfold fw_53
  have same : ¬ (0 ≤ a1 ∧ a1 < s.1 (35 + 7 * t0) 1) → Q s := fun q => k s rfl (cy_S_c h rfl rfl rfl (fun hr => ⟨fun c => s.1 (35 + c), t0, h.2.2.2.2.2.2.1 hr, hu, ht, fun q1 q2 => absurd ⟨q1, q2⟩ q⟩) (fun hK => hK))
  intro _
  refine ⟨fun c => same (by omega), fun c _ => ⟨fun d => same (by omega), fun d _ => ?_⟩⟩
  refine k _ rfl (cy_S_c h (zu_r (by omega)) (zu_r (by omega)) (zu_r (by omega)) (fun hr => ?_) (fun hK => cy_Ku hK rfl hu (fun c hc => zu_r (by omega))))
  refine ⟨fun c => s.1 (35 + c), t0, h.2.2.2.2.2.2.1 hr, hu, ht, fun _ _ => ⟨?_, fun c c1 => zu_r (by omega)⟩⟩
  show (lf_up s.1 (36 + 7 * t0) a1 (lf_w (s.1 (36 + 7 * t0) a1 + s.1 (35 + 7 * t0) 1))) (35 + (7 * t0 + 1)) = ds_u1 (s.1 (35 + (7 * t0 + 1))) a1 (lf_w (s.1 (35 + (7 * t0 + 1)) a1 + s.1 (35 + 7 * t0) 1))
  rw [show 35 + (7 * t0 + 1) = 36 + 7 * t0 by omega]
  exact tp_row
/-- a number: fw_44 -/
theorem fy_num {lo hi : Int} {Q : Int → lf_Z → Prop} (hb : cl_tp f n) (h : cy_S z W f n g law s r) (k : ∀ (v : Int) (t : lf_Z), cy_S z W f n g law t (ds_bd r (ds_num f n lo hi)) → ((ds_bd r (ds_num f n lo hi)).1 = 0 → v = lx_V f n r.2) → Q v t) : fw_44 lo hi Q s := by
  unfold fw_44
  intro _
  by_cases c : r.1 = 0
  · have e := cy_tok h c
    rw [ds_bd0 c] at k
    refine ⟨fun d => ?_, fun d => fy_fail (W' := W) (by decide) h (fun t ht => ?_)⟩
    · have v := cy_val h c (Or.inl d)
      refine fl_15 ⟨fun z => ?_, fun z => fy_fail (W' := W) (by decide) h (fun t ht => ?_)⟩
      · rw [Bool.and_eq_true, decide_eq_true_eq, decide_eq_true_eq, v] at z
        have E : ds_num f n lo hi r.2 = (0, ds_ad f n r.2) := by unfold ds_num; rw [if_pos (by rw [← e]; exact d), if_pos z]
        rw [E] at k
        refine fy_adv hb h (fun t ht => ?_)
        rw [ds_bd0 c] at ht
        exact k _ t ht (fun _ => v)
      · rw [Bool.and_eq_false_iff, decide_eq_false_iff_not, decide_eq_false_iff_not, v] at z
        have E : ds_num f n lo hi r.2 = (2, r.2) := by unfold ds_num; rw [if_pos (by rw [← e]; exact d), if_neg (fun q => by omega)]
        rw [E] at k
        rw [ds_bd0 c] at ht
        exact k _ t ht (fun q => absurd q (show (2 : Int) ≠ 0 by decide))
    · have E : ds_num f n lo hi r.2 = (1, r.2) := by unfold ds_num; rw [if_neg (by rw [← e]; exact d)]
      rw [E] at k
      rw [ds_bd0 c] at ht
      exact k _ t ht (fun q => absurd q (show (1 : Int) ≠ 0 by decide))
  · have e := cy_bad h c
    rw [ds_bdF c] at k
    refine ⟨(fun d => by rw [e] at d; cases d), fun d => fy_fail (W' := W) (by decide) h (fun t ht => ?_)⟩
    rw [ds_bdF c] at ht
    exact k _ t ht (fun q => absurd q c)
/-- one deeper: fw_47 -/
theorem fy_47 {d : Int} {Q : Bool → lf_Z → Prop} (hb : cl_tp f n) (h : cy_S z W f n g law s r) (k1 : d < 8 → ∀ t : lf_Z, cy_S z W f n g law t (ds_bd r (fun b => (0, ds_ad f n b))) → Q true t) (k2 : ¬ d < 8 → ∀ t : lf_Z, cy_S z W f n g law t (ds_bd r (fun b => (3, b))) → Q false t) : fw_47 d Q s := by
  unfold fw_47
  intro _
  exact ⟨fun c => fy_adv hb h (k1 c), fun c => fy_fail (by decide) h (k2 c)⟩
theorem fy_en {W' : cy_W} {d : Int} {Q : lf_Z → Prop} {G : Int → Int × Int} {K : lf_Z → Prop} (hb : cl_tp f n) (h : cy_S z W f n g law s r) (c : r.1 = 0) (hK : ∀ t : lf_Z, cy_S z W f n g law t (0, ds_ad f n r.2) → d < 8 → (∀ u : lf_Z, cy_S z W' f n g law u (G (ds_ad f n r.2)) → Q u) → K t) (k : ∀ t : lf_Z, cy_S z W' f n g law t (ds_en f n d G r.2) → Q t) : fw_47 d (fun z t => (z = false → Q t) ∧ (z = true → K t)) s := by
  refine fy_47 hb h (fun hd t ht => ⟨(fun z => by cases z), fun _ => hK t ?_ hd (fun u hu => k u ?_)⟩) (fun hd t ht => ⟨fun _ => k t ?_, fun z => by cases z⟩)
  · rw [ds_bd0 c] at ht; exact ht
  · unfold ds_en; rw [if_pos hd]; exact hu
  · unfold ds_en
    rw [if_neg hd]
    rw [ds_bd0 c] at ht
    exact cy_F ht (show (3 : Int) ≠ 0 by decide)
/-- what a reading has written: from place b to b', in rows B before, C now -/
def cy_A (law n b b' d : Int) (g : Int → Int) (V : cc_V) (W : cy_W) : cy_W := fun o C => ∃ (B : Nat → Int → Int) (u : Nat), W o B ∧ o = some u ∧ u < 4 ∧
  (0 ≤ B (7 * u) 1 → B (7 * u) 1 ≤ b → b ≤ n → n ≤ 300 → (b ≤ b' ∧ b' ≤ n) ∧ (B (7 * u) 1 ≤ C (7 * u) 1 ∧ C (7 * u) 1 - B (7 * u) 1 ≤ b' - b) ∧ (∀ i : Int, i < B (7 * u) 1 → C (7 * u + 1) i = B (7 * u + 1) i)
    ∧ (∀ i : Int, i ≠ 1 → C (7 * u) i = B (7 * u) i) ∧ (∀ c : Nat, c ≠ 7 * u → c ≠ 7 * u + 1 → C c = B c) ∧ cc law (C (7 * u + 1)) (B (7 * u) 1) (C (7 * u) 1) d g V)
abbrev cy_D : Type := (Int → Int) → dv_D
def cy_gB (g : Int → Int) : Prop := ∀ x : Int, 0 ≤ x → x < 26 → g x = -1 ∨ (0 ≤ g x ∧ g x < 8)
def cy_G (z : lf_Z) (f : Int → Int) (n law : Int) (F : Int → (lf_Z → Prop) → lf_Z → Prop) (D : ds_D) (V : cy_D) : Prop := ∀ (W : cy_W) (d : Int) (g : Int → Int) (s : lf_Z) (r : Int × Int) (Q : lf_Z → Prop), (0 ≤ d ∧ cy_gB g) → cy_S z W f n g law s r → (∀ t : lf_Z, cy_S z (cy_A law n r.2 (D d g r.2).2 d g (fun N e => V N d g e r.2) W) f n g law t (ds_bd r (D d g)) → Q t) → F d Q s
end CY
/-! sums, products, either, both: with what is written -/
section CZ
variable {f g : Int → Int} {n law : Int} {s t u z : lf_Z} {r : Int × Int} {W : cy_W} {b b1 b2 b3 d : Int} {V V1 V2 : cc_V}
/-- a token is consumed inside the text -/
theorem cz_ad (h : lx_T f n b ≠ 0) : b + 1 ≤ ds_ad f n b ∧ ds_ad f n b ≤ n := by
  obtain ⟨h1, h2⟩ := lm_adv h
  refine ⟨h2, ?_⟩
  have run : ∀ (P : Int → Bool) (p : Int), p ≤ n → lx_run P f n p ≤ n := fun P p hp => lx_runN hp
  unfold ds_ad
  refine run _ _ ?_
  unfold lx_E
  rw [if_neg (by omega)]
  split
  · exact run _ _ (by omega)
  · split
    · exact run _ _ (by omega)
    · split
      · rename_i h5
        unfold lx_two at h5
        simp only [Bool.and_eq_true, decide_eq_true_eq] at h5
        omega
      · omega
/-- two readings with a sign between, then the order that binds -/
theorem cy_A2 {k v : Int} (hk : (4 ≤ k ∧ k ≤ 13) ∨ k = 45 ∨ k = 46) (hb : k = 45 ∨ k = 46 → ∀ N e, (V1 N e = 0 ∨ V1 N e = 1) ∧ (V2 N e = 0 ∨ V2 N e = 1)) (hT : lx_T f n b1 ≠ 0) {o : Option Nat} {C : Nat → Int → Int}
    (h : cy_O (k * 10000 + 0) v (cy_A law n (ds_ad f n b1) b2 d g V2 (cy_A law n b b1 d g V1 W)) o C) : cy_A law n b b2 d g (fun N e => cm_2 k (V1 N e) (V2 N e)) W o C := by
  obtain ⟨D, u, ⟨B, u2, ⟨A, u3, hW, e1, l1, h1⟩, e2, l2, h2⟩, e3, l3, h3⟩ := h
  have q2 : u2 = u := by rw [e2] at e3; exact Option.some.inj e3
  have q3 : u3 = u := by rw [e1] at e3; exact Option.some.inj e3
  subst q2
  subst q3
  obtain ⟨t1, t2⟩ := cz_ad hT
  refine ⟨A, u3, hW, e1, l1, fun p0 pb bn n3 => ?_⟩
  obtain ⟨⟨x1, x2⟩, ⟨x3, x4⟩, x5, x6, x7, x8⟩ := h1 p0 pb bn n3
  obtain ⟨⟨y1, y2⟩, ⟨y3, y4⟩, y5, y6, y7, y8⟩ := h2 (by omega) (by omega) t2 n3
  obtain ⟨_, z2, z3, z4, z5⟩ := h3 (by omega)
  refine ⟨⟨by omega, y2⟩, ⟨by omega, by omega⟩, fun i hi => ?_, fun i hi => (z4 i hi).trans ((y6 i hi).trans (x6 i hi)), fun c c1 c2 => (z5 c c1 c2).trans ((y7 c c1 c2).trans (x7 c c1 c2)), ?_⟩
  · rw [z3]
    exact (if_neg (by omega)).trans ((y5 i (by omega)).trans (x5 i hi))
  · rw [z2, z3]
    refine cc_2 (cc_R (cc_R x8 (fun i i0 i1 => y5 i i1)) (fun i i0 i1 => if_neg (by omega))) (cc_R y8 (fun i i0 i1 => if_neg (by omega))) ?_ hk hb
    exact (if_pos rfl).trans (Int.add_zero _)
theorem cm_2b {k v w : Int} (hk : k = 45 ∨ k = 46) (hv : v = 0 ∨ v = 1) (hw : w = 0 ∨ w = 1) : cm_2 k w v = 0 ∨ cm_2 k w v = 1 := by
  unfold cm_2
  rcases hk with e | e
  · rw [if_pos e]
    rcases hv with h1 | h1 <;> rcases hw with h2 | h2 <;> subst h1 <;> subst h2 <;> decide
  · rw [if_neg (by omega), if_pos e]
    rcases hv with h1 | h1 <;> rcases hw with h2 | h2 <;> subst h1 <;> subst h2 <;> decide
theorem dv_lpN {ok : Int → Bool} {G : Int → Int × Int} {VV : Int → Int} {op : Int → Int → Int → Int} {K : Nat} {v : Int} (h : ok (lx_T f n b) = false) : dv_lp f n ok G VV op K b v = v := by
  cases K with
  | zero => rfl
  | succ K =>
    show (if ok (lx_T f n b) = true then _ else v) = v
    rw [h]; rfl
/-- whether truths are bound -/
def cz_T (ok : Int → Bool) : Prop := ok 45 = true ∨ ok 46 = true
/-- a loop that binds -/
theorem cz_lp {P : ds_D} {VP : cy_D} {ok : Int → Bool} {R : Int → (lf_Z → Prop) → lf_Z → Prop} (hb : cl_tp f n) (ih : cy_G z f n law R P VP) (hok : ∀ x : Int, ok x = true → (4 ≤ x ∧ x ≤ 13) ∨ x = 45 ∨ x = 46) (h1 : ok 1 = false) (h0 : ok 0 = false)
    (hB : cz_T ok → ∀ N d g e b, VP N d g e b = 0 ∨ VP N d g e b = 1) (hB2 : cz_T ok → ∀ x : Int, ok x = true → x = 45 ∨ x = 46)
    (L : Int → (Int → lf_Z → Prop) → (lf_Z → Prop) → Int → lf_Z → Prop)
    (hL : ∀ (d : Int) (X : Int → lf_Z → Prop) (Q : lf_Z → Prop) (x2 : Int) (t : lf_Z), (300 ≤ x2 → Q t) → (¬ 300 ≤ x2 → (ok (t.1 31 8) = true → fw_31 (fun a => R d (fun c => (c.2.2 2 = none → True) ∧ ∀ t0 : Nat, c.2.2 2 = some t0 → t0 < 4 → fw_45 t0 (t.1 31 8) 0 (fun _ y => X (x2 + 1) y) c) a) t) ∧ (ok (t.1 31 8) = false → Q t)) → L d X Q x2 t) :
    cy_G z f n law (fun d Q s => R d (fun t => ∃ X : Int → lf_Z → Prop, (∀ (x2 : Int) (t : lf_Z), X x2 t → L d X Q x2 t) ∧ X 0 t) s) (fun d g b => ds_bd (P d g b) (ds_lp f n ok (P d g) 300)) (fun N d g e b => dv_lp f n ok (P d g) (VP N d g e) cm_2 300 (P d g b).2 (VP N d g e b)) := by
  intro W d g s r Q hg h k
  refine ih W d g s r _ hg h (fun t ht => ?_)
  have ht' : cy_S z (cy_A law n r.2 (ds_bd r (P d g)).2 d g (fun N e => VP N d g e r.2) W) f n g law t (ds_bd r (P d g)) := by
    by_cases c : r.1 = 0
    · rw [ds_bd0 c] at ht ⊢; exact ht
    · exact cy_F ht (by rw [ds_bdF c]; exact c)
  refine ⟨fun x2 t => 0 ≤ x2 ∧ x2 ≤ 300 ∧ ∃ (r' : Int × Int) (V' : cc_V), cy_S z (cy_A law n r.2 r'.2 d g V' W) f n g law t r' ∧ ds_bd r' (ds_lp f n ok (P d g) (300 - x2).toNat) = ds_bd r (fun b => ds_bd (P d g b) (ds_lp f n ok (P d g) 300)) ∧ (r'.1 = 0 → r.1 = 0 ∧ ∀ N e, dv_lp f n ok (P d g) (VP N d g e) cm_2 (300 - x2).toNat r'.2 (V' N e) = dv_lp f n ok (P d g) (VP N d g e) cm_2 300 (P d g r.2).2 (VP N d g e r.2)) ∧ (cz_T ok → ∀ N e, V' N e = 0 ∨ V' N e = 1), ?_, ⟨Int.le_refl _, by decide, _, _, ht', ds_bdA, fun c => ?_, fun q N e => hB q N d g e r.2⟩⟩
  rotate_left
  · have c0 : r.1 = 0 := by
      by_cases q : r.1 = 0
      · exact q
      · rw [ds_bdF q] at c; exact c
    refine ⟨c0, fun N e => ?_⟩
    rw [ds_bd0 c0]; rfl
  intro x2 t ⟨x0, x3, r', V', hr, he, hv, hT⟩
  -- at the end
  have fin : (r'.1 = 0 → (300 - x2).toNat = 0 ∨ ok (lx_T f n r'.2) = false) → Q t := by
    intro hs
    refine k t ?_
    rw [← he]
    by_cases c : r'.1 = 0
    · obtain ⟨c0, hv⟩ := hv c
      have e1 : ds_bd r' (ds_lp f n ok (P d g) (300 - x2).toNat) = r' := by
        rcases hs c with z | z
        · rw [z]; exact ds_bdI
        · rw [ds_bd0 c, ds_lpN z]
          obtain ⟨a, b⟩ := r'
          have c : a = 0 := c
          rw [c]
      have e2 : ∀ N e, V' N e = dv_lp f n ok (P d g) (VP N d g e) cm_2 300 (P d g r.2).2 (VP N d g e r.2) := fun N e => by
        rw [← hv N e]
        rcases hs c with z | z
        · rw [z]; rfl
        · exact (dv_lpN z).symm
      dsimp only
      rw [e1]
      rw [e1, ds_bd0 c0] at he
      rw [← he]
      have eV : V' = fun N e => dv_lp f n ok (P d g) (VP N d g e) cm_2 300 (P d g r.2).2 (VP N d g e r.2) := funext fun N => funext fun e => e2 N e
      rw [eV] at hr
      exact hr
    · rw [ds_bdF c]; exact cy_F hr c
  refine hL d _ Q x2 t (fun q => fin (fun _ => Or.inl (by omega))) (fun q => ⟨fun ho => ?_, fun ho => fin (fun c => Or.inr (by rw [← cy_tok hr c]; exact ho))⟩)
  have c : r'.1 = 0 := by
    by_cases c : r'.1 = 0
    · exact c
    · rw [cy_bad hr c, h1] at ho; cases ho
  have e := cy_tok hr c
  rw [e] at ho ⊢
  obtain ⟨c0, hv⟩ := hv c
  rw [show (300 - x2).toNat = (300 - (x2 + 1)).toNat + 1 by omega, ds_bd0 c, ds_lpY ho] at he
  have hv' : ∀ N e, dv_lp f n ok (P d g) (VP N d g e) cm_2 (300 - (x2 + 1)).toNat (P d g (ds_ad f n r'.2)).2 (cm_2 (lx_T f n r'.2) (V' N e) (VP N d g e (ds_ad f n r'.2))) = dv_lp f n ok (P d g) (VP N d g e) cm_2 300 (P d g r.2).2 (VP N d g e r.2) := fun N e => by
    rw [← hv N e, show (300 - x2).toNat = (300 - (x2 + 1)).toNat + 1 by omega]
    show _ = (if ok (lx_T f n r'.2) = true then _ else _)
    rw [if_pos ho]
  have hT0 : lx_T f n r'.2 ≠ 0 := fun q => by rw [q, h0] at ho; cases ho
  refine fy_adv hb hr (fun a ha => ?_)
  rw [ds_bd0 c] at ha
  refine ih _ d g a _ _ hg ha (fun w hw => ⟨fun _ => trivial, fun t0 hu h4 => fy_45 h4 hw hu (fun v y _ hy => ?_)⟩)
  rw [ds_bd0 (r := (0, ds_ad f n r'.2)) rfl] at hy
  refine ⟨by omega, by omega, P d g (ds_ad f n r'.2), fun N e => cm_2 (lx_T f n r'.2) (V' N e) (VP N d g e (ds_ad f n r'.2)), cy_m hy (fun o C _ hC => ?_), he, fun _ => ⟨c0, hv'⟩, fun q N e => cm_2b (hB2 q _ ho) (hB q N d g e _) (hT q N e)⟩
  refine cy_A2 (hok _ ho) (fun q N e => ?_) hT0 hC
  have qT : cz_T ok := by
    rcases q with q | q
    · exact Or.inl (by rw [q] at ho; exact ho)
    · exact Or.inr (by rw [q] at ho; exact ho)
  exact ⟨hT qT N e, hB qT N d g e _⟩
theorem fy_41 {R42 : Int → (lf_Z → Prop) → lf_Z → Prop} {P : ds_D} {VP : cy_D} (hb : cl_tp f n) (ih : cy_G z f n law R42 P VP) : cy_G z f n law (fw_41 R42) (fun d g b => ds_bd (P d g b) (ds_lp f n ds_pm (P d g) 300)) (fun N d g e b => dv_lp f n ds_pm (P d g) (VP N d g e) cm_2 300 (P d g b).2 (VP N d g e b)) := by
  have nT : ¬ cz_T ds_pm := fun q => by rcases q with q | q <;> cases q
  refine cz_lp hb ih (fun x hx => by rcases lm_pmc hx with q | q <;> omega) rfl rfl (fun q => absurd q nT) (fun q => absurd q nT) (fun d X Q x2 t => fw_41_p7 R42 Q d X x2 t) (fun d X Q x2 t e0 e1 => ?_)
  unfold fw_41_p7 fw_41_p32
  intro _
  refine ⟨e0, fun c _ => ⟨fun e => (e1 c).1 (by rw [e]; rfl), fun e => ⟨fun e2 => (e1 c).2 ?_, fun e2 => (e1 c).1 (by rw [Classical.not_not.mp e2]; rfl)⟩⟩⟩
  unfold ds_pm
  rw [decide_eq_false e, decide_eq_false e2]; rfl
theorem fy_42 {R43 : Int → (lf_Z → Prop) → lf_Z → Prop} {P : ds_D} {VP : cy_D} (hb : cl_tp f n) (ih : cy_G z f n law R43 P VP) : cy_G z f n law (fw_42 R43) (fun d g b => ds_bd (P d g b) (ds_lp f n ds_td (P d g) 300)) (fun N d g e b => dv_lp f n ds_td (P d g) (VP N d g e) cm_2 300 (P d g b).2 (VP N d g e b)) := by
  have nT : ¬ cz_T ds_td := fun q => by rcases q with q | q <;> cases q
  refine cz_lp hb ih (fun x hx => by rcases lm_tdc hx with q | q <;> omega) rfl rfl (fun q => absurd q nT) (fun q => absurd q nT) (fun d X Q x2 t => fw_42_p7 R43 Q d X x2 t) (fun d X Q x2 t e0 e1 => ?_)
  unfold fw_42_p7 fw_42_p32
  intro _
  refine ⟨e0, fun c _ => ⟨fun e => (e1 c).1 (by rw [e]; rfl), fun e => ⟨fun e2 => (e1 c).2 ?_, fun e2 => (e1 c).1 (by rw [Classical.not_not.mp e2]; rfl)⟩⟩⟩
  unfold ds_td
  rw [decide_eq_false e, decide_eq_false e2]; rfl
theorem fy_50 {R51 : Int → (lf_Z → Prop) → lf_Z → Prop} {P : ds_D} {VP : cy_D} (hb : cl_tp f n) (ih : cy_G z f n law R51 P VP) (hB : ∀ N d g e b, VP N d g e b = 0 ∨ VP N d g e b = 1) : cy_G z f n law (fw_50 R51) (fun d g b => ds_bd (P d g b) (ds_lp f n (ds_is 46) (P d g) 300)) (fun N d g e b => dv_lp f n (ds_is 46) (P d g) (VP N d g e) cm_2 300 (P d g b).2 (VP N d g e b)) := by
  refine cz_lp hb ih (fun x hx => Or.inr (Or.inr (of_decide_eq_true hx))) rfl rfl (fun _ => hB) (fun _ x hx => Or.inr (of_decide_eq_true hx)) (fun d X Q x2 t => fw_50_p7 R51 Q d X x2 t) (fun d X Q x2 t e0 e1 => ?_)
  unfold fw_50_p7
  intro _
  refine ⟨e0, fun c _ => ⟨fun e => (e1 c).2 (decide_eq_false e), fun e => ?_⟩⟩
  have e := Classical.not_not.mp e
  have := (e1 c).1 (decide_eq_true e)
  rw [e] at this
  exact this
theorem fy_51 {R52 : Int → (lf_Z → Prop) → lf_Z → Prop} {P : ds_D} {VP : cy_D} (hb : cl_tp f n) (ih : cy_G z f n law R52 P VP) (hB : ∀ N d g e b, VP N d g e b = 0 ∨ VP N d g e b = 1) : cy_G z f n law (fw_51 R52) (fun d g b => ds_bd (P d g b) (ds_lp f n (ds_is 45) (P d g) 300)) (fun N d g e b => dv_lp f n (ds_is 45) (P d g) (VP N d g e) cm_2 300 (P d g b).2 (VP N d g e b)) := by
  refine cz_lp hb ih (fun x hx => Or.inr (Or.inl (of_decide_eq_true hx))) rfl rfl (fun _ => hB) (fun _ x hx => Or.inl (of_decide_eq_true hx)) (fun d X Q x2 t => fw_51_p7 R52 Q d X x2 t) (fun d X Q x2 t e0 e1 => ?_)
  unfold fw_51_p7
  intro _
  refine ⟨e0, fun c _ => ⟨fun e => (e1 c).2 (decide_eq_false e), fun e => ?_⟩⟩
  have e := Classical.not_not.mp e
  have := (e1 c).1 (decide_eq_true e)
  rw [e] at this
  exact this
end CZ
/-! what readings have written, put together -/
section CW2
variable {f g : Int → Int} {n law : Int} {W : cy_W} {b b1 b2 b3 b4 d : Int} {V V1 V2 V3 : cc_V} {o : Option Nat} {C : Nat → Int → Int}
/-- one order that pushes, for one token -/
theorem cy_A1 {k v w : Int} (hT : lx_T f n b ≠ 0) (hk : 0 ≤ k ∧ k < 50) (hv : 0 ≤ v ∧ v < 10000) (hV : ∀ (N M e L : Int → Int), cc_N law N M → cc_L d g e L → cm_sm (V N e) ∧ ((k = 2 ∧ v = V N e) ∨ (k = 3 ∧ v < 8 ∧ L v = V N e) ∨ (k = 17 ∧ v < 11 ∧ M v = V N e)))
    (h : cy_O (k * 10000 + v) w W o C) : cy_A law n b (ds_ad f n b) d g V W o C := by
  obtain ⟨D, u, hW, e, l, h3⟩ := h
  obtain ⟨t1, t2⟩ := cz_ad hT
  refine ⟨D, u, hW, e, l, fun p0 pb bn n3 => ?_⟩
  obtain ⟨_, z2, z3, z4, z5⟩ := h3 (by have := (lm_adv hT).1; omega)
  refine ⟨⟨by omega, t2⟩, ⟨by omega, by omega⟩, fun i hi => by rw [z3]; exact if_neg (by omega), z4, z5, ?_⟩
  rw [z2]
  exact cc_p1 (by rw [z3]; exact if_pos rfl) hk hv hV
/-- an order on what a deeper reading has left -/
theorem cy_Ag {k v : Int} (hT : lx_T f n b ≠ 0) (hk : k = 18 ∨ k = 44) (hV : ∀ N e, V2 N e = if k = 18 then -(V N e) else 1 - V N e) (hs : ∀ N e, cm_sm (V N e) → cm_sm (V2 N e))
    (h : cy_O (k * 10000 + 0) v (cy_A law n (ds_ad f n b) b2 (d + 1) g V W) o C) : cy_A law n b b2 d g V2 W o C := by
  obtain ⟨D, u, ⟨B, u2, hW, e1, l1, h1⟩, e2, l2, h3⟩ := h
  have q2 : u2 = u := by rw [e1] at e2; exact Option.some.inj e2
  subst q2
  obtain ⟨t1, t2⟩ := cz_ad hT
  refine ⟨B, u2, hW, e1, l1, fun p0 pb bn n3 => ?_⟩
  obtain ⟨⟨y1, y2⟩, ⟨y3, y4⟩, y5, y6, y7, y8⟩ := h1 p0 (by omega) t2 n3
  obtain ⟨_, z2, z3, z4, z5⟩ := h3 (by omega)
  refine ⟨⟨by omega, y2⟩, ⟨by omega, by omega⟩, fun i hi => ?_, fun i hi => (z4 i hi).trans (y6 i hi), fun c c1 c2 => (z5 c c1 c2).trans (y7 c c1 c2), ?_⟩
  · rw [z3]; exact (if_neg (by omega)).trans (y5 i hi)
  · rw [z2, z3]
    exact cc_p2 ((if_pos rfl).trans (Int.add_zero _)) hk (cc_w (cc_R y8 (fun i i0 i1 => if_neg (by omega)))) hV hs
/-- tokens on both sides of a deeper reading -/
theorem cy_Aw (h1 : b ≤ b1) (h2 : b ≤ n → b1 ≤ n) (h3 : b2 ≤ b3) (h4 : b2 ≤ n → b3 ≤ n) (h : cy_A law n b1 b2 (d + 1) g V W o C) : cy_A law n b b3 d g V W o C := by
  obtain ⟨B, u, hW, e, l, h⟩ := h
  refine ⟨B, u, hW, e, l, fun p0 pb bn n3 => ?_⟩
  obtain ⟨⟨y1, y2⟩, ⟨y3, y4⟩, y5, y6, y7, y8⟩ := h p0 (by omega) (h2 bn) n3
  exact ⟨⟨by omega, h4 y2⟩, ⟨y3, by omega⟩, y5, y6, y7, cc_w y8⟩
theorem cy_Ae (h3 : b2 ≤ b3) (h4 : b2 ≤ n → b3 ≤ n) (h : cy_A law n b b2 d g V W o C) : cy_A law n b b3 d g V W o C := by
  obtain ⟨B, u, hW, e, l, h⟩ := h
  refine ⟨B, u, hW, e, l, fun p0 pb bn n3 => ?_⟩
  obtain ⟨⟨y1, y2⟩, ⟨y3, y4⟩, y5, y6, y7, y8⟩ := h p0 pb bn n3
  exact ⟨⟨by omega, h4 y2⟩, ⟨y3, by omega⟩, y5, y6, y7, y8⟩
/-- if: b .. b1 asked, then, .. b2, else, .. b3, end -/
theorem cy_Ai {v1 v2 : Int} (hT1 : lx_T f n b1 ≠ 0) (hT2 : lx_T f n b2 ≠ 0) (hT3 : lx_T f n b3 ≠ 0)
    (h : cy_B v2 (cy_A law n (ds_ad f n b2) b3 d g V3 (cy_B v1 (cy_O (39 * 10000 + 0) v2 (cy_A law n (ds_ad f n b1) b2 d g V2 (cy_O (38 * 10000 + 0) v1 (cy_A law n b b1 d g V1 W)))))) o C) : cy_A law n b (ds_ad f n b3) d g (fun N e => if V1 N e ≠ 0 then V2 N e else V3 N e) W o C := by
  obtain ⟨E6, u6, ⟨E5, u5, ⟨E4, u4, ⟨E3, u3, ⟨E2, u2, ⟨E1, u1, ⟨E0, u0, hW, e0, l0, h0⟩, e1, l1, h1⟩, e2, l2, h2⟩, e3, l3, h3⟩, e4, l4, h4⟩, e5, l5, h5⟩, e6, l6, h6⟩ := h
  have r1 : u1 = u0 := Option.some.inj (e1.symm.trans e0)
  have r2 : u2 = u0 := Option.some.inj (e2.symm.trans e0)
  have r3 : u3 = u0 := Option.some.inj (e3.symm.trans e0)
  have r4 : u4 = u0 := Option.some.inj (e4.symm.trans e0)
  have r5 : u5 = u0 := Option.some.inj (e5.symm.trans e0)
  have r6 : u6 = u0 := Option.some.inj (e6.symm.trans e0)
  rw [r1] at h1
  rw [r2] at h2
  rw [r3] at h3
  rw [r4] at h4
  rw [r5] at h5
  rw [r6] at h6
  obtain ⟨t1, t1n⟩ := cz_ad hT1
  obtain ⟨t2, t2n⟩ := cz_ad hT2
  obtain ⟨t3, t3n⟩ := cz_ad hT3
  have g1 := (lm_adv hT1).1
  have g2 := (lm_adv hT2).1
  refine ⟨E0, u0, hW, e0, l0, fun p0 pb bn n3 => ?_⟩
  obtain ⟨⟨a1, a2⟩, ⟨a3, a4⟩, a5, a6, a7, a8⟩ := h0 p0 pb bn n3
  obtain ⟨b1', b2', b3', b4', b5'⟩ := h1 (by omega)
  obtain ⟨⟨c1, c2⟩, ⟨c3, c4⟩, c5, c6, c7, c8⟩ := h2 (by omega) (by omega) t1n n3
  obtain ⟨d1, d2, d3, d4, d5⟩ := h3 (by omega)
  obtain ⟨x1, x2⟩ := h4 (by omega) (by omega)
  have x7 : E5 (7 * u0) = E4 (7 * u0) := x2 (7 * u0) (by omega)
  obtain ⟨⟨y1, y2⟩, ⟨y3, y4⟩, y5, y6, y7, y8⟩ := h5 (by rw [x7]; omega) (by rw [x7]; omega) t2n n3
  rw [x7] at y3 y4 y5 y6 y8
  obtain ⟨z1, z2⟩ := h6 (by omega) (by omega)
  have z7 : C (7 * u0) = E6 (7 * u0) := z2 (7 * u0) (by omega)
  generalize hp : E0 (7 * u0) 1 = p at *
  generalize hq : E1 (7 * u0) 1 = q at *
  generalize hr : E3 (7 * u0) 1 = r at *
  generalize hw : E6 (7 * u0) 1 = w at *
  rw [b2'] at c3 c4 c5 c8
  rw [d2] at y3 y4 y5 y8 x1
  rw [b1'] at x1
  rw [d1] at z1
  have hw3 : w ≤ 300 := by omega
  have E2i : ∀ i : Int, i ≠ q → E2 (7 * u0 + 1) i = E1 (7 * u0 + 1) i := fun i hi => by rw [b3']; exact if_neg hi
  have E2q : E2 (7 * u0 + 1) q = 38 * 10000 + 0 := by rw [b3']; exact if_pos rfl
  have E4i : ∀ i : Int, i ≠ r → E4 (7 * u0 + 1) i = E3 (7 * u0 + 1) i := fun i hi => by rw [d3]; exact if_neg hi
  have E4r : E4 (7 * u0 + 1) r = 39 * 10000 + 0 := by rw [d3]; exact if_pos rfl
  have E5i : ∀ i : Int, i ≠ q → E5 (7 * u0 + 1) i = E4 (7 * u0 + 1) i := fun i hi => by rw [x1]; exact if_neg hi
  have E5q : E5 (7 * u0 + 1) q = 38 * 10000 + (r + 1) := by
    rw [x1]
    refine (if_pos rfl).trans ?_
    rw [E4i q (by omega), c5 q (by omega), E2q, tr_w (by omega)]; omega
  have Ci : ∀ i : Int, i ≠ r → C (7 * u0 + 1) i = E6 (7 * u0 + 1) i := fun i hi => by rw [z1]; exact if_neg hi
  have Cr : C (7 * u0 + 1) r = 39 * 10000 + w := by
    rw [z1]
    refine (if_pos rfl).trans ?_
    rw [y5 r (by omega), E5i r (by omega), E4r, tr_w (by omega)]; omega
  have low : ∀ i : Int, i < q → C (7 * u0 + 1) i = E1 (7 * u0 + 1) i := fun i hi => by
    rw [Ci i (by omega), y5 i (by omega), E5i i (by omega), E4i i (by omega), c5 i (by omega), E2i i (by omega)]
  refine ⟨⟨by omega, t3n⟩, ⟨by rw [z7, hw]; omega, by rw [z7, hw]; omega⟩, fun i hi => (low i (by omega)).trans (a5 i hi), fun i hi => ?_, fun c k1 k2 => ?_, ?_⟩
  · rw [z7]
    exact (y6 i hi).trans ((d4 i hi).trans ((c6 i hi).trans ((b4' i hi).trans (a6 i hi))))
  · exact (z2 c k2).trans ((y7 c k1 k2).trans ((x2 c k2).trans ((d5 c k1 k2).trans ((c7 c k1 k2).trans ((b5' c k1 k2).trans (a7 c k1 k2))))))
  · rw [z7, hw]
    refine cc_if (q := q) (r := r) (cc_R a8 (fun i i0 i1 => low i i1)) ?_ (cc_R c8 (fun i i0 i1 => ?_)) Cr (cc_R y8 (fun i i0 i1 => Ci i (by omega))) hw3 p0
    · rw [Ci q (by omega), y5 q (by omega)]; exact E5q
    · rw [Ci i (by omega), y5 i (by omega), E5i i (by omega), E4i i (by omega)]
/-- let: worth .. b1, in, .. b2, end; read one deeper -/
theorem cy_Al {v x : Int} (hb : b ≤ b3) (hT1 : lx_T f n b1 ≠ 0) (hT2 : lx_T f n b2 ≠ 0) (hbn : b ≤ n → b3 ≤ n) (d0 : 0 ≤ d) (d8 : d < 8)
    (h : cy_A law n (ds_ad f n b1) b2 (d + 1) (ds_u1 g x d) V2 (cy_O (43 * 10000 + d) v (cy_A law n b3 b1 (d + 1) g V1 W)) o C) : cy_A law n b (ds_ad f n b2) d g (fun N e => V2 N (ds_u1 e x (V1 N e))) W o C := by
  obtain ⟨E2, u2, ⟨E1, u1, ⟨E0, u0, hW, e0, l0, h0⟩, e1, l1, h1⟩, e2, l2, h2⟩ := h
  have r1 : u1 = u0 := Option.some.inj (e1.symm.trans e0)
  have r2 : u2 = u0 := Option.some.inj (e2.symm.trans e0)
  rw [r1] at h1
  rw [r2] at h2
  obtain ⟨t1, t1n⟩ := cz_ad hT1
  obtain ⟨t2, t2n⟩ := cz_ad hT2
  have g1 := (lm_adv hT1).1
  refine ⟨E0, u0, hW, e0, l0, fun p0 pb bn n3 => ?_⟩
  obtain ⟨⟨a1, a2⟩, ⟨a3, a4⟩, a5, a6, a7, a8⟩ := h0 p0 (by omega) (hbn bn) n3
  obtain ⟨_, z2, z3, z4, z5⟩ := h1 (by omega)
  obtain ⟨⟨c1, c2⟩, ⟨c3, c4⟩, c5, c6, c7, c8⟩ := h2 (by omega) (by omega) t1n n3
  rw [z2] at c3 c4 c5 c8
  refine ⟨⟨by omega, t2n⟩, ⟨by omega, by omega⟩, fun i hi => ?_, fun i hi => (c6 i hi).trans ((z4 i hi).trans (a6 i hi)), fun c k1 k2 => (c7 c k1 k2).trans ((z5 c k1 k2).trans (a7 c k1 k2)), ?_⟩
  · rw [c5 i (by omega), z3]
    exact (if_neg (by omega)).trans (a5 i hi)
  · refine cc_let (cc_R a8 (fun i i0 i1 => ?_)) ?_ d0 d8 c8
    · rw [c5 i (by omega), z3]; exact if_neg (by omega)
    · rw [c5 _ (by omega), z3]; exact if_pos rfl
end CW2
/-! one, with what is written -/
section D1
variable {f g : Int → Int} {n law : Int} {s t u z : lf_Z} {r : Int × Int} {W : cy_W} {b d : Int}
/-- a letter: fw_46 -/
theorem fy_let {Q : lf_Z → Prop} (hb : cl_tp f n) (hg : cy_gB g) (h : cy_S z W f n g law s r) (c : r.1 = 0) (d3 : lx_T f n r.2 = 3) (k : ∀ (t : lf_Z), cy_S z (cy_A law n r.2 (ds_ad f n r.2) d g (fun _ e => e (lx_V f n r.2)) W) f n g law t (if g (lx_V f n r.2) ≠ -1 then (0, ds_ad f n r.2) else (5, r.2)) → Q t) : fw_46 Q s := by
  have e := cy_tok h c
  have v := cy_val h c (Or.inr (e.trans d3))
  have vb := lx_V3 d3
  unfold fw_46
  refine fl_15 ?_
  rw [v, decide_eq_true vb.1, decide_eq_true vb.2]
  refine ⟨(fun z => by cases z), fun _ _ => ?_⟩
  rw [h.2.2.1]
  unfold fw_46_p26
  intro _
  refine ⟨fun q => ⟨fun _ => trivial, fun t0 hu h4 => fy_45 h4 h hu (fun w u _ hu2 => fy_adv hb hu2 (fun t ht => k t ?_))⟩, fun q => fy_fail (W' := cy_A law n r.2 (ds_ad f n r.2) d g (fun _ e => e (lx_V f n r.2)) W) (by decide) h (fun t ht => k t ?_)⟩
  · rw [if_pos q]
    rw [ds_bd0 c] at ht
    have b8 := (hg (lx_V f n r.2) vb.1 (by omega)).resolve_left q
    refine cy_m ht (fun o C _ hC => cy_A1 (by rw [d3]; decide) (by decide) ⟨b8.1, by omega⟩ (fun N M e L hN hL => ?_) hC)
    have l := hL (lx_V f n r.2) vb.1 (by omega) q
    exact ⟨l.2.2, Or.inr (Or.inl ⟨rfl, l.1.2.2, l.2.1⟩)⟩
  · rw [if_neg q]
    rw [ds_bd0 c] at ht
    exact ht
/-- a name: fw_56 -/
theorem fy_name {Q : lf_Z → Prop} (hb : cl_tp f n) (h : cy_S z W f n g law s r) (k : ∀ (t : lf_Z), cy_S z (cy_A law n r.2 (ds_ad f n r.2) d g (fun N _ => N (la_nm (lx_T f n r.2))) W) f n g law t (ds_bd r (ds_name f n law)) → Q t) : fw_56 Q s := by
  have el : s.1 31 6 = law := h.2.2.2.1
  have p53 : ∀ x : Int, r.1 = 0 → (lx_T f n r.2 = 24 ∨ (47 ≤ lx_T f n r.2 ∧ lx_T f n r.2 ≤ 56)) → x = cc_ix (lx_T f n r.2) → (∀ t : lf_Z, cy_S z (cy_A law n r.2 (ds_ad f n r.2) d g (fun N _ => N (la_nm (lx_T f n r.2))) W) f n g law t (if ds_nm law x = true then (0, ds_ad f n r.2) else (5, r.2)) → Q t) → fw_56_p53 Q x s := by
    intro x c hT hx kx
    have xB : 0 ≤ x ∧ x < 11 := by rw [hx]; unfold cc_ix; split <;> omega
    unfold fw_56_p53
    intro _
    rw [el]
    refine ⟨fun q => ⟨fun _ => trivial, fun t0 hu h4 => fy_45 h4 h hu (fun w u _ hu2 => fy_adv hb hu2 (fun t ht => kx t ?_))⟩, fun q => fy_fail (W' := cy_A law n r.2 (ds_ad f n r.2) d g (fun N _ => N (la_nm (lx_T f n r.2))) W) (by decide) h (fun t ht => kx t ?_)⟩
    · have qd : ds_nm law x = true := by unfold ds_nm; exact decide_eq_true q
      rw [if_pos qd]
      rw [ds_bd0 c] at ht
      refine cy_m ht (fun o C _ hC => cy_A1 (fun z => by omega) (by decide) ⟨xB.1, by omega⟩ (fun N M e L hN hL => ?_) hC)
      rw [hx] at qd xB ⊢
      have l := hN _ hT qd
      exact ⟨l.2, Or.inr (Or.inr ⟨rfl, xB.2, l.1⟩)⟩
    · have qd : ¬ ds_nm law x = true := by unfold ds_nm; rw [decide_eq_true_eq]; exact q
      rw [if_neg qd]
      rw [ds_bd0 c] at ht
      exact ht
  unfold fw_56
  intro _
  by_cases c : r.1 = 0
  · have e := cy_tok h c
    rw [e]
    rw [ds_bd0 c] at k
    unfold ds_name at k
    refine ⟨fun dq => ?_, fun dq => ?_⟩
    · rw [if_neg dq] at k
      unfold fw_56_p21
      intro _
      rw [e]
      refine ⟨fun q => absurd q dq, fun _ => fl_15 ⟨fun z => ?_, fun z => ?_⟩⟩
      · rw [Bool.and_eq_true, decide_eq_true_eq, decide_eq_true_eq] at z
        rw [if_pos z] at k
        exact p53 _ c (Or.inr z) (by unfold cc_ix; rw [if_neg dq]) k
      · rw [Bool.and_eq_false_iff, decide_eq_false_iff_not, decide_eq_false_iff_not] at z
        rw [if_neg (fun q => by omega)] at k
        refine fy_fail (W' := cy_A law n r.2 (ds_ad f n r.2) d g (fun N _ => N (la_nm (lx_T f n r.2))) W) (by decide) h (fun t ht => k t ?_)
        rw [ds_bd0 c] at ht; exact ht
    · have dq := Classical.not_not.mp dq
      rw [if_pos dq] at k
      unfold fw_56_p21
      intro _
      rw [e]
      exact ⟨fun _ => p53 10 c (Or.inl dq) (by unfold cc_ix; rw [if_pos dq]) k, fun q => absurd dq q⟩
  · have e := cy_bad h c
    rw [e]
    refine ⟨fun _ => ?_, fun d => absurd (by decide) d⟩
    unfold fw_56_p21
    intro _
    rw [e]
    refine ⟨(fun q => by cases q), fun _ => fl_15 ⟨(fun z => by cases z), fun z => ?_⟩⟩
    refine fy_fail (W' := cy_A law n r.2 (ds_ad f n r.2) d g (fun N _ => N (la_nm (lx_T f n r.2))) W) (by decide) h (fun t ht => k t ?_)
    rw [ds_bdF c] at ht ⊢
    exact ht
end D1
/-! if, with what is written -/
section D2
variable {f g : Int → Int} {n law : Int} {s t u z : lf_Z} {r : Int × Int} {W : cy_W} {b d w : Int}
theorem ds_bdZ {G : Int → Int × Int} (h : (ds_bd r G).1 = 0) : r.1 = 0 ∧ (G r.2).1 = 0 := by
  by_cases c : r.1 = 0
  · rw [ds_bd0 c] at h; exact ⟨c, h⟩
  · rw [ds_bdF c] at h; exact absurd h c
theorem ds_exZ (h : (ds_ex f n w b).1 = 0) : lx_T f n b = w ∧ ds_ex f n w b = (0, ds_ad f n b) := by
  by_cases c : lx_T f n b = w
  · exact ⟨c, if_pos c⟩
  · have : ds_ex f n w b = (1, b) := if_neg c
    rw [this] at h
    exact absurd h (show (1 : Int) ≠ 0 by decide)
theorem fy_49 {R41 R50 : Int → (lf_Z → Prop) → lf_Z → Prop} {S E : ds_D} {VS VE : cy_D} (hb : cl_tp f n) (hS : cy_G z f n law R41 S VS) (hE : cy_G z f n law R50 E VE) : cy_G z f n law (fw_49 R41 R50) (ds_if f n S E) (fun N => dv_if f n S E (VS N) (VE N)) := by
  intro W d g s r Q hg h k
  unfold fw_49
  refine hE W d g s r _ hg h (fun a ha => fy_ex (by decide) hb ha (fun b hB => ⟨fun _ => trivial, fun t1 u1 h1 => fy_45 h1 hB u1 (fun v1 c _ hc => hS _ d g c _ _ hg hc (fun e he => fy_ex (by decide) hb he (fun i hi => ⟨fun _ => trivial, fun t2 u2 h2 => fy_45 h2 hi u2 (fun v2 j _ hj => ⟨fun _ => trivial, fun t3 u3 h3 => fy_53 h3 hj u3 (fun l _ hl => hS _ d g l _ _ hg hl (fun m hm => ⟨fun _ => trivial, fun t4 u4 h4 => fy_53 h4 hm u4 (fun o _ ho => fy_ex (by decide) hb ho (fun p hp => k p ?_))⟩))⟩)⟩)))⟩))
  have e : ds_bd r (ds_if f n S E d g) = ds_bd (ds_bd (ds_bd (ds_bd (ds_bd (ds_bd r (E d g)) (ds_ex f n 38)) (S d g)) (ds_ex f n 39)) (S d g)) (ds_ex f n 40) := by
    by_cases c : r.1 = 0
    · rw [ds_bd0 c, ds_bd0 c]; rfl
    · rw [ds_bdF c, ds_bdF c, ds_bdF c, ds_bdF c, ds_bdF c, ds_bdF c, ds_bdF c]
  by_cases z : (ds_bd r (ds_if f n S E d g)).1 = 0
  · have z' := z
    rw [e] at z
    obtain ⟨z5, x3⟩ := ds_bdZ z
    obtain ⟨z4, y5⟩ := ds_bdZ z5
    obtain ⟨z3, x2⟩ := ds_bdZ z4
    obtain ⟨z2, y3⟩ := ds_bdZ z3
    obtain ⟨z1, x1⟩ := ds_bdZ z2
    obtain ⟨z0, y1⟩ := ds_bdZ z1
    rw [ds_bd0 z0] at hp e z' ⊢
    rw [ds_bd0 z0] at e
    rw [ds_bd0 z0] at z1 z2 z3 z4 z5 x1 x2 x3 y3 y5
    rw [ds_bd0 z1] at hp e z2 z3 z4 z5 x2 x3 y3 y5
    obtain ⟨T1, q1⟩ := ds_exZ x1
    rw [q1] at hp e z2 z3 z4 z5 x2 x3 y3 y5
    rw [ds_bd0 (r := (0, ds_ad f n (E d g r.2).2)) rfl] at hp e z3 z4 z5 x2 x3 y5
    rw [ds_bd0 z3] at hp e z4 z5 x3 y5
    obtain ⟨T2, q2⟩ := ds_exZ x2
    dsimp only at q2 T2
    rw [q2] at hp e z4 z5 x3 y5
    rw [ds_bd0 (r := (0, ds_ad f n (S d g (ds_ad f n (E d g r.2).2)).2)) rfl] at hp e z5 x3
    rw [ds_bd0 z5] at hp e
    obtain ⟨T3, q3⟩ := ds_exZ x3
    dsimp only at q3 T3
    rw [q3] at hp e
    rw [e]
    exact cy_m hp (fun o C _ hC => cy_Ai (by rw [T1]; decide) (by rw [T2]; decide) (by rw [T3]; decide) hC)
  · rw [e] at z ⊢
    exact cy_F hp z
end D2
/-! ask, with what is written -/
section D3
variable {f g : Int → Int} {n law : Int} {s t u z : lf_Z} {r : Int × Int} {W : cy_W} {b d w : Int}
theorem cm_2c {k a b : Int} (h : 4 ≤ k ∧ k ≤ 9) : cm_2 k a b = lf_b (cm_cp k a b) := by
  unfold cm_2
  rw [if_neg (by omega), if_neg (by omega), if_neg (by omega)]
theorem fy_52 {R41 R52 : Int → (lf_Z → Prop) → lf_Z → Prop} {S A : ds_D} {VS VA : cy_D} (hb : cl_tp f n) (hS : cy_G z f n law R41 S VS) (hA : cy_G z f n law R52 A VA) (hAb : ∀ N d g e b, VA N d g e b = 0 ∨ VA N d g e b = 1) : cy_G z f n law (fw_52 R41 R52) (ds_ask f n S A) (fun N => dv_ask f n S (VS N) (VA N)) := by
  intro W d g s r Q hg h k
  unfold fw_52
  intro _
  by_cases c : r.1 = 0
  · have e := cy_tok h c
    rw [e]
    rw [ds_bd0 c] at k
    refine ⟨fun d44 => ?_, fun d44 => ?_⟩
    · have E : ds_ask f n S A d g r.2 = ds_bd (ds_bd (S d g r.2) (fun b => if 4 ≤ lx_T f n b ∧ lx_T f n b ≤ 9 then (0, ds_ad f n b) else (1, b))) (S d g) := if_neg d44
      have EV : ∀ N e, dv_ask f n S (VS N) (VA N) d g e r.2 = lf_b (cm_cp (lx_T f n (S d g r.2).2) (VS N d g e r.2) (VS N d g e (ds_ad f n (S d g r.2).2))) := fun N e => if_neg d44
      have EV2 : (fun N e => dv_ask f n S (VS N) (VA N) d g e r.2) = fun N e => lf_b (cm_cp (lx_T f n (S d g r.2).2) (VS N d g e r.2) (VS N d g e (ds_ad f n (S d g r.2).2))) := funext fun N => funext fun e => EV N e
      rw [E, EV2] at k
      refine hS W d g s r _ hg h (fun a ha => ?_)
      rw [ds_bd0 c] at ha
      by_cases c1 : (S d g r.2).1 = 0
      · have e1 := cy_tok ha c1
        refine fl_15 ?_
        rw [e1]
        by_cases z : 4 ≤ lx_T f n (S d g r.2).2 ∧ lx_T f n (S d g r.2).2 ≤ 9
        · rw [decide_eq_true z.1, decide_eq_true z.2]
          refine ⟨fun _ => ?_, (fun q => by cases q)⟩
          rw [ds_bd0 c1, if_pos z, ds_bd0 (r := (0, ds_ad f n (S d g r.2).2)) rfl] at k
          refine fy_adv hb ha (fun x hx => ?_)
          rw [ds_bd0 c1] at hx
          refine hS _ d g x _ _ hg hx (fun y hy => ⟨fun _ => trivial, fun t0 hu h4 => fy_45 h4 hy hu (fun v q _ hq => k q ?_)⟩)
          rw [ds_bd0 (r := (0, ds_ad f n (S d g r.2).2)) rfl] at hq
          refine cy_m hq (fun o C _ hC => ?_)
          have w := cy_A2 (k := lx_T f n (S d g r.2).2) (Or.inl ⟨z.1, by omega⟩) (fun q => by omega) (fun q => by omega) hC
          have ew : (fun N e => cm_2 (lx_T f n (S d g r.2).2) (VS N d g e r.2) (VS N d g e (ds_ad f n (S d g r.2).2))) = fun N e => lf_b (cm_cp (lx_T f n (S d g r.2).2) (VS N d g e r.2) (VS N d g e (ds_ad f n (S d g r.2).2))) := funext fun N => funext fun e => cm_2c z
          rw [ew] at w
          exact w
        · have zf : (decide (4 ≤ lx_T f n (S d g r.2).2) && decide (lx_T f n (S d g r.2).2 ≤ 9)) = false := by
            cases q : (decide (4 ≤ lx_T f n (S d g r.2).2) && decide (lx_T f n (S d g r.2).2 ≤ 9)) with
            | false => rfl
            | true =>
              rw [Bool.and_eq_true, decide_eq_true_eq, decide_eq_true_eq] at q
              exact absurd q z
          rw [zf]
          refine ⟨(fun q => by cases q), fun _ => fy_fail (W' := W) (by decide) ha (fun x hx => k x ?_)⟩
          rw [ds_bd0 c1] at hx
          rw [ds_bd0 c1, if_neg z, ds_bdF (show (1 : Int) ≠ 0 by decide)]
          exact cy_F hx (show (1 : Int) ≠ 0 by decide)
      · have e1 := cy_bad ha c1
        refine fl_15 ?_
        rw [e1]
        refine ⟨(fun q => by cases q), fun _ => fy_fail (W' := W) (by decide) ha (fun x hx => k x ?_)⟩
        rw [ds_bdF c1] at hx
        rw [ds_bdF c1, ds_bdF c1]
        exact cy_F hx c1
    · have d44 := Classical.not_not.mp d44
      have E : ds_ask f n S A d g r.2 = ds_en f n d (A (d + 1) g) r.2 := if_pos d44
      have EV2 : (fun N e => dv_ask f n S (VS N) (VA N) d g e r.2) = fun N e => 1 - VA N (d + 1) g e (ds_ad f n r.2) := funext fun N => funext fun e => if_pos d44
      rw [E, EV2] at k
      refine fy_en hb h c (fun t ht hd ku => ?_) k
      refine hA _ (d + 1) g t _ _ ⟨by have := hg.1; omega, hg.2⟩ ht (fun u hu => ⟨fun _ => trivial, fun t0 hu0 h4 => fy_45 h4 hu hu0 (fun w y _ hy => ku y ?_)⟩)
      rw [ds_bd0 (r := (0, ds_ad f n r.2)) rfl] at hy
      refine cy_m hy (fun o C hz hC => ?_)
      have := cy_Ag (k := 44) (V2 := fun N e => 1 - VA N (d + 1) g e (ds_ad f n r.2)) (by rw [d44]; decide) (Or.inr rfl) (fun N e => (if_neg (by decide)).symm) (fun N e _ => by rcases hAb N (d + 1) g e (ds_ad f n r.2) with q | q <;> rw [q] <;> exact ⟨by decide, by decide⟩) hC
      have en : (ds_en f n d (A (d + 1) g) r.2).2 = (A (d + 1) g (ds_ad f n r.2)).2 := by unfold ds_en; rw [if_pos hd]
      rw [en]; exact this
  · have e := cy_bad h c
    rw [e]
    rw [ds_bdF c] at k
    refine ⟨fun _ => hS W d g s r _ hg h (fun a ha => ?_), fun q => absurd (by decide) q⟩
    rw [ds_bdF c] at ha
    refine fl_15 ?_
    rw [cy_bad ha c]
    refine ⟨(fun q => by cases q), fun _ => fy_fail (W' := W) (by decide) ha (fun x hx => k x ?_)⟩
    rw [ds_bdF c] at hx
    exact cy_F hx c
end D3
/-! one, let: with what is written -/
section D4
variable {f g : Int → Int} {n law : Int} {s t u z : lf_Z} {r : Int × Int} {W : cy_W} {b d w : Int}
/-- let is read one deeper, and keeps what lies below that -/
def cy_GL (z : lf_Z) (f : Int → Int) (n law : Int) (F : Int → (lf_Z → Prop) → lf_Z → Prop) (D : ds_D) (V : cy_D) : Prop := ∀ (W : cy_W) (d : Int) (g : Int → Int) (s : lf_Z) (r : Int × Int) (Q : lf_Z → Prop), (0 ≤ d ∧ cy_gB g) → d < 8 → cy_S z W f n g law s r → (∀ t : lf_Z, cy_S z (cy_A law n r.2 (D (d + 1) g r.2).2 d g (fun N e => V N (d + 1) g e r.2) W) f n g law t (ds_bd r (D (d + 1) g)) → Q t) → F (d + 1) Q s
theorem fy_43 {R41 R43 R49 R54 : Int → (lf_Z → Prop) → lf_Z → Prop} {S O I L : ds_D} {VS VO VI VL : cy_D} (hb : cl_tp f n) (hS : cy_G z f n law R41 S VS) (hO : cy_G z f n law R43 O VO) (hI : cy_G z f n law R49 I VI) (hL : cy_GL z f n law R54 L VL) : cy_G z f n law (fw_43 R41 R43 R49 R54) (ds_one f n law S O I L) (fun N => dv_one f n N (VS N) (VO N) (VI N) (VL N)) := by
  intro W d g s r Q hg h k
  have hg1 : 0 ≤ d + 1 ∧ cy_gB g := ⟨by have := hg.1; omega, hg.2⟩
  unfold fw_43
  intro _
  by_cases c : r.1 = 0
  · have e := cy_tok h c
    rw [ds_bd0 c] at k
    rw [e]
    unfold ds_one at k
    refine ⟨fun q => ?_, fun q => ?_, fun q => ?_, fun q => ?_, fun q => ?_, fun q => ?_, fun q => ?_⟩
    · have EV : (fun N e => dv_one f n N (VS N) (VO N) (VI N) (VL N) d g e r.2) = fun N _ => N (la_nm (lx_T f n r.2)) := funext fun N => funext fun e => by unfold dv_one; rw [if_neg q.1, if_neg q.2.1, if_neg q.2.2.1, if_neg q.2.2.2.1, if_neg q.2.2.2.2.1, if_neg q.2.2.2.2.2]
      rw [EV, if_neg q.1, if_neg q.2.1, if_neg q.2.2.1, if_neg q.2.2.2.1, if_neg q.2.2.2.2.1, if_neg q.2.2.2.2.2] at k
      refine fy_name (d := d) hb h (fun t ht => k t ?_)
      rw [ds_bd0 c] at ht
      by_cases z : (ds_name f n law r.2).1 = 0
      · have : (ds_name f n law r.2).2 = ds_ad f n r.2 := by
          have e := lm_name (f := f) (n := n) (law := law) (b := r.2)
          rw [e]; exact if_pos z
        rw [this]; exact ht
      · exact cy_F ht z
    · have v := lx_V2 q
      have EV : (fun N e => dv_one f n N (VS N) (VO N) (VI N) (VL N) d g e r.2) = fun _ _ => lx_V f n r.2 := funext fun N => funext fun e => if_pos q
      rw [EV, if_pos q] at k
      refine ⟨fun _ => fy_num hb h (fun _ _ _ _ => trivial), fun t0 hu h4 => fy_num hb h (fun w u hu3 hw => ?_)⟩
      rw [ds_bd0 c] at hu3 hw
      have hu9 : u.2.2 2 = some t0 := by rw [cy_P hu3, ← cy_P h]; exact hu
      by_cases z : lx_V f n r.2 ≤ 9999
      · have E : ds_num f n 0 9999 r.2 = (0, ds_ad f n r.2) := by unfold ds_num; rw [if_pos q, if_pos ⟨v, z⟩]
        rw [E] at hu3 hw
        rw [if_pos z] at k
        have hw := hw rfl
        refine fy_45 h4 hu3 hu9 (fun w2 y _ hy => k y (cy_m hy (fun o C _ hC => ?_)))
        rw [hw] at hC
        exact cy_A1 (by rw [q]; decide) (by decide) ⟨v, by omega⟩ (fun N M e L _ _ => ⟨⟨by omega, by omega⟩, Or.inl ⟨rfl, rfl⟩⟩) hC
      · have E : ds_num f n 0 9999 r.2 = (2, r.2) := by unfold ds_num; rw [if_pos q, if_neg (fun y => z y.2)]
        rw [E] at hu3 hw
        rw [if_neg z] at k
        exact fy_45 h4 hu3 hu9 (fun w2 y _ hy => k y (cy_F hy (show (2 : Int) ≠ 0 by decide)))
    · have EV : (fun N e => dv_one f n N (VS N) (VO N) (VI N) (VL N) d g e r.2) = fun _ e => e (lx_V f n r.2) := funext fun N => funext fun e => by unfold dv_one; rw [if_neg (by omega), if_pos q]
      rw [EV, if_neg (by omega), if_pos q] at k
      refine fy_let (d := d) hb hg.2 h c q (fun t ht => k t ?_)
      by_cases z : g (lx_V f n r.2) ≠ -1
      · rw [if_pos z] at ht ⊢; exact ht
      · rw [if_neg z] at ht ⊢; exact cy_F ht (show (5 : Int) ≠ 0 by decide)
    · have EV : (fun N e => dv_one f n N (VS N) (VO N) (VI N) (VL N) d g e r.2) = fun N e => -(VO N (d + 1) g e (ds_ad f n r.2)) := funext fun N => funext fun e => by unfold dv_one; rw [if_neg (by omega), if_neg (by omega), if_pos q]
      rw [EV, if_neg (by omega), if_neg (by omega), if_pos q] at k
      refine fy_en hb h c (fun t ht hd ku => ?_) k
      refine hO _ (d + 1) g t _ _ hg1 ht (fun u hu => ⟨fun _ => trivial, fun t0 hu0 h4 => fy_45 h4 hu hu0 (fun w y _ hy => ku y ?_)⟩)
      rw [ds_bd0 (r := (0, ds_ad f n r.2)) rfl] at hy
      have en : (ds_en f n d (O (d + 1) g) r.2).2 = (O (d + 1) g (ds_ad f n r.2)).2 := by unfold ds_en; rw [if_pos hd]
      rw [en]
      exact cy_m hy (fun o C hz hC => cy_Ag (k := 18) (by rw [q]; decide) (Or.inl rfl) (fun N e => (if_pos rfl).symm) (fun N e hs => by unfold cm_sm at *; omega) hC)
    · have EV : (fun N e => dv_one f n N (VS N) (VO N) (VI N) (VL N) d g e r.2) = fun N e => VS N (d + 1) g e (ds_ad f n r.2) := funext fun N => funext fun e => by unfold dv_one; rw [if_neg (by omega), if_neg (by omega), if_neg (by omega), if_pos q]
      rw [EV, if_neg (by omega), if_neg (by omega), if_neg (by omega), if_pos q] at k
      refine fy_en hb h c (fun t ht hd ku => ?_) k
      refine hS _ (d + 1) g t _ _ hg1 ht (fun u hu => fy_ex (by decide) hb hu (fun y hy => ku y ?_))
      rw [ds_bd0 (r := (0, ds_ad f n r.2)) rfl] at hy
      have en : (ds_en f n d (fun b => ds_bd (S (d + 1) g b) (ds_ex f n 15)) r.2) = ds_bd (S (d + 1) g (ds_ad f n r.2)) (ds_ex f n 15) := by unfold ds_en; rw [if_pos hd]
      rw [en]
      by_cases z : (ds_bd (S (d + 1) g (ds_ad f n r.2)) (ds_ex f n 15)).1 = 0
      · obtain ⟨z1, z2⟩ := ds_bdZ z
        obtain ⟨T1, q1⟩ := ds_exZ z2
        rw [ds_bd0 z1, q1] at hy ⊢
        obtain ⟨t1, t2⟩ := cz_ad (f := f) (n := n) (b := r.2) (by rw [q]; decide)
        obtain ⟨t3, t4⟩ := cz_ad (f := f) (n := n) (b := (S (d + 1) g (ds_ad f n r.2)).2) (by rw [T1]; decide)
        exact cy_m hy (fun o C _ hC => cy_Aw (by omega) (fun _ => t2) (by dsimp only; omega) (fun _ => t4) hC)
      · exact cy_F hy z
    · have EV : (fun N e => dv_one f n N (VS N) (VO N) (VI N) (VL N) d g e r.2) = fun N e => VI N (d + 1) g e (ds_ad f n r.2) := funext fun N => funext fun e => by unfold dv_one; rw [if_neg (by omega), if_neg (by omega), if_neg (by omega), if_neg (by omega), if_pos q]
      rw [EV, if_neg (by omega), if_neg (by omega), if_neg (by omega), if_neg (by omega), if_pos q] at k
      refine fy_en hb h c (fun t ht hd ku => ?_) k
      refine hI _ (d + 1) g t _ _ hg1 ht (fun y hy => ku y ?_)
      rw [ds_bd0 (r := (0, ds_ad f n r.2)) rfl] at hy
      have en : (ds_en f n d (I (d + 1) g) r.2).2 = (I (d + 1) g (ds_ad f n r.2)).2 := by unfold ds_en; rw [if_pos hd]
      rw [en]
      obtain ⟨t1, t2⟩ := cz_ad (f := f) (n := n) (b := r.2) (by rw [q]; decide)
      exact cy_m hy (fun o C _ hC => cy_Aw (by omega) (fun _ => t2) (Int.le_refl _) (fun z => z) hC)
    · have EV : (fun N e => dv_one f n N (VS N) (VO N) (VI N) (VL N) d g e r.2) = fun N e => VL N (d + 1) g e (ds_ad f n r.2) := funext fun N => funext fun e => by unfold dv_one; rw [if_neg (by omega), if_neg (by omega), if_neg (by omega), if_neg (by omega), if_neg (by omega), if_pos q]
      rw [EV, if_neg (by omega), if_neg (by omega), if_neg (by omega), if_neg (by omega), if_neg (by omega), if_pos q] at k
      refine fy_en hb h c (fun t ht hd ku => ?_) k
      refine hL _ d g t _ _ hg hd ht (fun y hy => ku y ?_)
      rw [ds_bd0 (r := (0, ds_ad f n r.2)) rfl] at hy
      have en : (ds_en f n d (L (d + 1) g) r.2).2 = (L (d + 1) g (ds_ad f n r.2)).2 := by unfold ds_en; rw [if_pos hd]
      rw [en]
      obtain ⟨t1, t2⟩ := cz_ad (f := f) (n := n) (b := r.2) (by rw [q]; decide)
      refine cy_m hy (fun o C _ hC => ?_)
      obtain ⟨B, u, hW, e', l, h'⟩ := hC
      refine ⟨B, u, hW, e', l, fun p0 pb bn n3 => ?_⟩
      obtain ⟨⟨y1, y2⟩, ⟨y3, y4⟩, y5, y6, y7, y8⟩ := h' p0 (by dsimp only; omega) t2 n3
      dsimp only at y1 y2 y3 y4
      exact ⟨⟨by omega, y2⟩, ⟨y3, by omega⟩, y5, y6, y7, y8⟩
  · have e := cy_bad h c
    rw [e]
    refine ⟨fun q => ?_, (fun q => by cases q), (fun q => by cases q), (fun q => by cases q), (fun q => by cases q), (fun q => by cases q), fun q => by cases q⟩
    refine fy_name (d := d) hb h (fun t ht => k t ?_)
    rw [ds_bdF c] at ht ⊢
    exact cy_F ht c
end D4
/-! let, with what is written -/
section D5
variable {f g : Int → Int} {n law : Int} {s t u z : lf_Z} {r : Int × Int} {W : cy_W} {b d w : Int}
theorem cy_S_g {v y : Int} (h : cy_S z W f n g law s r) : cy_S z W f n (ds_u1 g y v) law (lf_up s.1 33 y v, s.2.1, s.2.2) r := by
  obtain ⟨h1, h2, h3, h4, h5, h6, h7, h8⟩ := h
  have e31 : (lf_up s.1 33 y v) 31 = s.1 31 := lf_up_row (by decide)
  have e32 : (lf_up s.1 33 y v) 32 = s.1 32 := lf_up_row (by decide)
  have e33 : (lf_up s.1 33 y v) 33 = ds_u1 g y v := by
    funext j
    unfold ds_u1
    by_cases hj : j = y
    · rw [if_pos hj, hj]; exact lf_up_s
    · rw [if_neg hj, ← h3]; exact lf_up_i hj
  refine ⟨e32.trans h1, ?_, e33, ?_, fun c => ?_, fun c => ?_, fun c => cy_Wc (h7 c) rfl (fun c hc => lf_up_row (by omega)), cy_Ke h8 rfl (fun c hc => lf_up_row (by omega))⟩
  · show (lf_up s.1 33 y v) 31 1 = n; rw [e31]; exact h2
  · show (lf_up s.1 33 y v) 31 6 = law; rw [e31]; exact h4
  · have := h5 c
    unfold rd_at at this ⊢
    show ((lf_up s.1 33 y v) 31 9 = r.2 ∧ (lf_up s.1 33 y v) 31 8 = lx_T ((lf_up s.1 33 y v) 32) ((lf_up s.1 33 y v) 31 1) r.2 ∧ (lf_up s.1 33 y v) 31 7 = lx_E ((lf_up s.1 33 y v) 32) ((lf_up s.1 33 y v) 31 1) r.2 ∧ (((lf_up s.1 33 y v) 31 8 = 2 ∨ (lf_up s.1 33 y v) 31 8 = 3) → (lf_up s.1 33 y v) 31 10 = lx_V ((lf_up s.1 33 y v) 32) ((lf_up s.1 33 y v) 31 1) r.2)) ∧ (lf_up s.1 33 y v) 31 2 = 0 ∧ 0 ≤ r.2 ∧ 0 ≤ (lf_up s.1 33 y v) 31 7 ∧ (lf_up s.1 33 y v) 31 3 = -1
    rw [e31, e32]; exact this
  · show (lf_up s.1 33 y v) 31 2 = r.1 ∧ (lf_up s.1 33 y v) 31 3 = r.2 ∧ (lf_up s.1 33 y v) 31 8 = 1
    rw [e31]; exact h6 c
theorem fy_54p {R41 : Int → (lf_Z → Prop) → lf_Z → Prop} {S : ds_D} {VS : cy_D} {y : Int} {Q : lf_Z → Prop} (hb : cl_tp f n) (hS : cy_G z f n law R41 S VS) (hg : 0 ≤ d ∧ cy_gB g) (hsl : 0 ≤ ds_sl d ∧ ds_sl d < 8) (h : cy_S z W f n g law s r)
    (k : ∀ (v : Int) (t : lf_Z), cy_S z (cy_A law n (ds_bd (ds_bd (ds_bd (ds_bd r (ds_ex f n 3)) (ds_ex f n 42)) (S d g)) (ds_ex f n 43)).2 (S d (ds_u1 g y (ds_sl d)) (ds_bd (ds_bd (ds_bd (ds_bd r (ds_ex f n 3)) (ds_ex f n 42)) (S d g)) (ds_ex f n 43)).2).2 d (ds_u1 g y (ds_sl d)) (fun N e => VS N d (ds_u1 g y (ds_sl d)) e (ds_bd (ds_bd (ds_bd (ds_bd r (ds_ex f n 3)) (ds_ex f n 42)) (S d g)) (ds_ex f n 43)).2) (cy_O (43 * 10000 + ds_sl d) v (cy_A law n (ds_bd (ds_bd r (ds_ex f n 3)) (ds_ex f n 42)).2 (S d g (ds_bd (ds_bd r (ds_ex f n 3)) (ds_ex f n 42)).2).2 d g (fun N e => VS N d g e (ds_bd (ds_bd r (ds_ex f n 3)) (ds_ex f n 42)).2) W))) f n g law t (ds_bd (ds_bd (ds_bd (ds_bd (ds_bd (ds_bd r (ds_ex f n 3)) (ds_ex f n 42)) (S d g)) (ds_ex f n 43)) (S d (ds_u1 g y (ds_sl d)))) (ds_ex f n 40)) → Q t) : fw_54_p29 R41 Q d y s := by
  unfold fw_54_p29
  refine fl_55 (fy_ex (by decide) hb h (fun a ha => fy_ex (by decide) hb ha (fun b hB => hS _ d g b _ _ hg hB (fun c hc => fy_ex (by decide) hb hc (fun e he => ⟨fun _ => trivial, fun t1 u1 h1 => fy_45 h1 he u1 (fun v i _ hi hy => ?_)⟩)))))
  have eg : i.1 33 y = g y := by rw [hi.2.2.1]
  rw [eg]
  refine hS _ d _ _ _ _ ⟨hg.1, fun x x0 x1 => ?_⟩ (cy_S_g (v := ds_sl d) hi) (fun j hj => fy_ex (by decide) hb (s := (lf_up j.1 33 y (g y), j.2.1, j.2.2)) (g := g) ?_ (k v))
  · unfold ds_u1
    by_cases hx : x = y
    · rw [if_pos hx]; exact Or.inr hsl
    · rw [if_neg hx]; exact hg.2 x x0 x1
  · have := cy_S_g (y := y) (v := g y) hj
    rw [ds_u1u] at this
    exact this
theorem fy_54 {R41 : Int → (lf_Z → Prop) → lf_Z → Prop} {S : ds_D} {VS : cy_D} (hb : cl_tp f n) (hS : cy_G z f n law R41 S VS) : cy_GL z f n law (fw_54 R41) (ds_let f n S) (fun N => dv_let f n S (VS N)) := by
  intro W d g s r Q hg hd h k
  have sl : ds_sl (d + 1) = d := by have := hg.1; unfold ds_sl; omega
  have hsl : 0 ≤ ds_sl (d + 1) ∧ ds_sl (d + 1) < 8 := by rw [sl]; exact ⟨hg.1, hd⟩
  have hg1 : 0 ≤ d + 1 ∧ cy_gB g := ⟨by have := hg.1; omega, hg.2⟩
  unfold fw_54
  intro _
  by_cases c : r.1 = 0
  · have e := cy_tok h c
    rw [ds_bd0 c] at k
    have bad : lx_T f n r.2 ≠ 3 → fw_54_p28 R41 Q (d + 1) s := by
      intro q
      unfold fw_54_p28
      refine fy_54p hb hS hg1 hsl h (fun v t ht => k t ?_)
      unfold ds_let
      have x : ds_ex f n 3 r.2 = (1, r.2) := by unfold ds_ex; rw [if_neg q]
      have n1 : (1 : Int) ≠ 0 := by decide
      rw [ds_bd0 c, x, ds_bdF (r := ((1 : Int), r.2)) n1, ds_bdF (r := ((1 : Int), r.2)) n1, ds_bdF (r := ((1 : Int), r.2)) n1, ds_bdF (r := ((1 : Int), r.2)) n1, ds_bdF (r := ((1 : Int), r.2)) n1] at ht
      rw [x, ds_bdF (r := ((1 : Int), r.2)) n1, ds_bdF (r := ((1 : Int), r.2)) n1, ds_bdF (r := ((1 : Int), r.2)) n1, ds_bdF (r := ((1 : Int), r.2)) n1, ds_bdF (r := ((1 : Int), r.2)) n1]
      exact cy_F ht n1
    refine ⟨fun q => bad (by rw [← e]; exact q), fun q => ?_⟩
    have q := Classical.not_not.mp q
    have q3 : lx_T f n r.2 = 3 := e.symm.trans q
    have v := cy_val h c (Or.inr q)
    have vb := lx_V3 q3
    refine fl_15 ?_
    rw [v, decide_eq_true vb.1, decide_eq_true vb.2]
    refine ⟨(fun z => by cases z), fun _ => fy_54p hb hS hg1 hsl h (fun v t hp => k t ?_)⟩
    have E : ds_let f n S (d + 1) g r.2 = ds_bd (ds_bd (ds_bd (ds_bd (ds_bd (ds_ex f n 3 r.2) (ds_ex f n 42)) (S (d + 1) g)) (ds_ex f n 43)) (S (d + 1) (ds_u1 g (lx_V f n r.2) (ds_sl (d + 1))))) (ds_ex f n 40) := rfl
    have x0 : ds_ex f n 3 r.2 = (0, ds_ad f n r.2) := by unfold ds_ex; rw [if_pos q3]
    rw [ds_bd0 c, x0, ds_bd0 (r := (0, ds_ad f n r.2)) rfl] at hp
    rw [x0, ds_bd0 (r := (0, ds_ad f n r.2)) rfl] at E
    by_cases z : (ds_let f n S (d + 1) g r.2).1 = 0
    · have z' := z
      rw [E] at z
      obtain ⟨z4, x3⟩ := ds_bdZ z
      obtain ⟨z3, y2⟩ := ds_bdZ z4
      obtain ⟨z2, x2⟩ := ds_bdZ z3
      obtain ⟨z1, y1⟩ := ds_bdZ z2
      obtain ⟨T1, q1⟩ := ds_exZ z1
      dsimp only at T1 q1
      rw [q1] at hp E z2 z3 z4 x2 x3 y1 y2
      rw [ds_bd0 (r := (0, ds_ad f n (ds_ad f n r.2))) rfl] at hp E z2 z3 z4 x2 x3 y2
      rw [ds_bd0 z2] at hp E z3 z4 x3 y2
      obtain ⟨T2, q2⟩ := ds_exZ x2
      dsimp only at q2 T2
      rw [q2] at hp E z4 x3 y2
      rw [ds_bd0 (r := (0, ds_ad f n (S (d + 1) g (ds_ad f n (ds_ad f n r.2))).2)) rfl] at hp E z4 x3
      rw [ds_bd0 z4] at hp E
      obtain ⟨T3, q3'⟩ := ds_exZ x3
      dsimp only at q3' T3
      rw [q3'] at hp E
      rw [E]
      obtain ⟨t1, t2⟩ := cz_ad (f := f) (n := n) (b := r.2) (by rw [q3]; decide)
      obtain ⟨t3, t4⟩ := cz_ad (f := f) (n := n) (b := ds_ad f n r.2) (by rw [T1]; decide)
      rw [sl] at hp T3 ⊢
      refine cy_m hp (fun o C _ hC => ?_)
      have := cy_Al (b := r.2) (by omega) (by rw [T2]; decide) (by rw [T3]; decide) (fun _ => t4) hg.1 hd hC
      have ev : (fun N e => dv_let f n S (VS N) (d + 1) g e r.2) = fun N e => VS N (d + 1) (ds_u1 g (lx_V f n r.2) d) (ds_u1 e (lx_V f n r.2) (VS N (d + 1) g e (ds_ad f n (ds_ad f n r.2)))) (ds_ad f n (S (d + 1) g (ds_ad f n (ds_ad f n r.2))).2) := by
        funext N e
        unfold dv_let
        rw [sl]
      rw [ev]
      exact this
    · rw [E] at z ⊢
      exact cy_F hp z
  · have e := cy_bad h c
    rw [e]
    refine ⟨fun _ => ?_, fun q => absurd (by decide) q⟩
    unfold fw_54_p28
    refine fy_54p hb hS hg1 hsl h (fun v t ht => k t ?_)
    rw [ds_bdF c, ds_bdF c, ds_bdF c, ds_bdF c, ds_bdF c, ds_bdF c] at ht
    rw [ds_bdF c]
    exact cy_F ht c
end D5
/-! asks are worth 0 or 1; all of the reader -/
section D6
variable {f g : Int → Int} {n law : Int} {s t u z : lf_Z} {r : Int × Int} {W : cy_W}
theorem dv_lp01 {ok : Int → Bool} {G : Int → Int × Int} {V : Int → Int} (hV : ∀ b, V b = 0 ∨ V b = 1) (hok : ∀ x : Int, ok x = true → x = 45 ∨ x = 46) : ∀ (K : Nat) (b v : Int), (v = 0 ∨ v = 1) → dv_lp f n ok G V cm_2 K b v = 0 ∨ dv_lp f n ok G V cm_2 K b v = 1
  | 0, _, _, hv => hv
  | K + 1, b, v, hv => by
    show (if ok (lx_T f n b) = true then dv_lp f n ok G V cm_2 K (G (ds_ad f n b)).2 (cm_2 (lx_T f n b) v (V (ds_ad f n b))) else v) = 0 ∨ (if ok (lx_T f n b) = true then dv_lp f n ok G V cm_2 K (G (ds_ad f n b)).2 (cm_2 (lx_T f n b) v (V (ds_ad f n b))) else v) = 1
    by_cases c : ok (lx_T f n b) = true
    · rw [if_pos c]
      exact dv_lp01 hV hok K _ _ (cm_2b (hok _ c) (hV _) hv)
    · rw [if_neg c]; exact hv
theorem dv_B : ∀ m : Nat, (∀ N d g e b, (dv_T f n law N m).2.2.2.2.2.1 d g e b = 0 ∨ (dv_T f n law N m).2.2.2.2.2.1 d g e b = 1) ∧ (∀ N d g e b, (dv_T f n law N m).2.2.2.2.2.2.1 d g e b = 0 ∨ (dv_T f n law N m).2.2.2.2.2.2.1 d g e b = 1) ∧ (∀ N d g e b, (dv_T f n law N m).2.2.2.2.2.2.2 d g e b = 0 ∨ (dv_T f n law N m).2.2.2.2.2.2.2 d g e b = 1)
  | 0 => ⟨fun _ _ _ _ _ => Or.inl rfl, fun _ _ _ _ _ => Or.inl rfl, fun _ _ _ _ _ => Or.inl rfl⟩
  | m + 1 => by
    obtain ⟨_, h7, h8⟩ := dv_B m
    have is1 : ∀ w : Int, (w = 45 ∨ w = 46) → ∀ x : Int, ds_is w x = true → x = 45 ∨ x = 46 := fun w hw x hx => by
      unfold ds_is at hx
      have := of_decide_eq_true hx
      omega
    refine ⟨fun N d g e b => ?_, fun N d g e b => ?_, fun N d g e b => ?_⟩
    · exact dv_lp01 (h7 N d g e) (is1 46 (Or.inr rfl)) 300 _ _ (h7 N d g e b)
    · exact dv_lp01 (h8 N d g e) (is1 45 (Or.inl rfl)) 300 _ _ (h8 N d g e b)
    · show dv_ask f n (ds_T f n law m).1 (dv_T f n law N m).1 (dv_T f n law N m).2.2.2.2.2.2.2 d g e b = 0 ∨ dv_ask f n (ds_T f n law m).1 (dv_T f n law N m).1 (dv_T f n law N m).2.2.2.2.2.2.2 d g e b = 1
      unfold dv_ask
      split
      · have := h8 N (d + 1) g e (ds_ad f n b)
        omega
      · unfold lf_b
        split
        · exact Or.inr rfl
        · exact Or.inl rfl
theorem fy_rec (hb : cl_tp f n) : ∀ m : Nat, cy_G z f n law (fv_41T m).1 (ds_T f n law m).1 (fun N => (dv_T f n law N m).1) ∧ cy_G z f n law (fv_41T m).2.1 (ds_T f n law m).2.1 (fun N => (dv_T f n law N m).2.1) ∧ cy_G z f n law (fv_41T m).2.2.1 (ds_T f n law m).2.2.1 (fun N => (dv_T f n law N m).2.2.1) ∧ cy_G z f n law (fv_41T m).2.2.2.1 (ds_T f n law m).2.2.2.1 (fun N => (dv_T f n law N m).2.2.2.1) ∧ cy_GL z f n law (fv_41T m).2.2.2.2.1 (ds_T f n law m).2.2.2.2.1 (fun N => (dv_T f n law N m).2.2.2.2.1) ∧ cy_G z f n law (fv_41T m).2.2.2.2.2.1 (ds_T f n law m).2.2.2.2.2.1 (fun N => (dv_T f n law N m).2.2.2.2.2.1) ∧ cy_G z f n law (fv_41T m).2.2.2.2.2.2.1 (ds_T f n law m).2.2.2.2.2.2.1 (fun N => (dv_T f n law N m).2.2.2.2.2.2.1) ∧ cy_G z f n law (fv_41T m).2.2.2.2.2.2.2 (ds_T f n law m).2.2.2.2.2.2.2 (fun N => (dv_T f n law N m).2.2.2.2.2.2.2) := by
  intro m
  induction m with
  | zero => exact ⟨fun _ _ _ _ _ _ _ _ _ => trivial, fun _ _ _ _ _ _ _ _ _ => trivial, fun _ _ _ _ _ _ _ _ _ => trivial, fun _ _ _ _ _ _ _ _ _ => trivial, fun _ _ _ _ _ _ _ _ _ _ => trivial, fun _ _ _ _ _ _ _ _ _ => trivial, fun _ _ _ _ _ _ _ _ _ => trivial, fun _ _ _ _ _ _ _ _ _ => trivial⟩
  | succ m ih =>
    obtain ⟨hS, hP, hO, hI, hL, hE, hB, hA⟩ := ih
    have hv := dv_B (f := f) (n := n) (law := law) m
    exact ⟨fy_41 hb hP, fy_42 hb hO, fy_43 hb hS hO hI hL, fy_49 hb hS hE, fy_54 hb hS, fy_50 hb hB hv.2.1, fy_51 hb hA hv.2.2, fy_52 hb hS hA hv.2.2⟩
/-- a sum of a clause: readSum(0), with what it writes -/
theorem fy_sum {Q : lf_Z → Prop} (hb : cl_tp f n) (hg : cy_gB g) (h : cy_S z W f n g law s r) (k : ∀ t : lf_Z, cy_S z (cy_A law n r.2 ((ds_T f n law 200).1 0 g r.2).2 0 g (fun N e => (dv_T f n law N 200).1 0 g e r.2) W) f n g law t (ds_bd r ((ds_T f n law 200).1 0 g)) → Q t) : fv_41 0 Q s := (fy_rec hb 200).1 W 0 g s r Q ⟨Int.le_refl _, hg⟩ h k
end D6
/-! clauses and texts, with what they write -/
section D7
variable {f g : Int → Int} {n law : Int} {s t u z : lf_Z} {r : Int × Int} {W : cy_W} {b d w : Int} {t0 : Nat} {D : List Int} {C0 C B : Nat → Int → Int}
/-- a clause: its word, its numbers -/
def cs_w (f : Int → Int) (n b : Int) : Int := lx_T f n b
def cs_v (f : Int → Int) (n b : Int) : Int := if 22 < lx_T f n b then lx_V f n (ds_ad f n b) else 0
def cs_x (f : Int → Int) (n b : Int) : Int := if 22 < lx_T f n b ∧ tx_sh ((lx_T f n b - 23) * 5 + 2) ≠ 0 then lx_V f n (ds_ad f n (ds_ad f n (ds_ad f n b))) else 0
/-- the law l of the script u is the clause at b -/
def cs_L (f : Int → Int) (n : Int) (g : Int → Int) (C : Nat → Int → Int) (u : Nat) (l b : Int) : Prop := (0 ≤ C (2 + 7 * u) l ∧ C (2 + 7 * u) l ≤ C (3 + 7 * u) l ∧ C (3 + 7 * u) l ≤ C (7 * u) 1 ∧ C (3 + 7 * u) l - C (2 + 7 * u) l ≤ 299) ∧ cc l (C (7 * u + 1)) (C (2 + 7 * u) l) (C (3 + 7 * u) l) 0 g (fun N e => (dv_T f n l N 200).1 0 g e (ds_ad f n b))
/-- the script u holds the clauses D -/
def cs_F (f : Int → Int) (n : Int) (g : Int → Int) (C : Nat → Int → Int) (u : Nat) (D : List Int) : Prop := (C (7 * u) 7 = (D.length : Int) ∧ 0 ≤ C (7 * u) 1)
  ∧ (∀ (i : Nat) (b : Int), D[i]? = some b → C (4 + 7 * u) i = cs_w f n b ∧ C (5 + 7 * u) i = cs_v f n b ∧ C (6 + 7 * u) i = cs_x f n b)
  ∧ ∀ l : Int, 0 ≤ l → l < 3 → ((∀ b ∈ D, lx_T f n b ≠ l + 20) → C (2 + 7 * u) l = -1) ∧ ∀ b ∈ D, lx_T f n b = l + 20 → cs_L f n g C u l b
/-- the rows while a text is read -/
def cs_W (f : Int → Int) (n : Int) (g : Int → Int) (t0 : Nat) (D : List Int) (b : Int) : cy_W := fun o C => o = some t0 ∧ t0 < 4 ∧ cs_F f n g C t0 D ∧ C (7 * t0) 1 ≤ b ∧ b ≤ n ∧ n ≤ 300
/-- the row of entries, of ends, at law l -/
def cs_E (k : Nat) (l : Int) (W : cy_W) : cy_W := fun o C => ∃ (B : Nat → Int → Int) (u : Nat), W o B ∧ o = some u ∧ u < 4 ∧ C (k + 7 * u) = ds_u1 (B (k + 7 * u)) l (B (7 * u) 1) ∧ ∀ c : Nat, c ≠ k + 7 * u → C c = B c
/-- a clause more -/
def cs_K (a1 a2 a3 : Int) (W : cy_W) : cy_W := fun o C => ∃ (B : Nat → Int → Int) (u : Nat), W o B ∧ o = some u ∧ u < 4 ∧ (B (7 * u) 7 < 24 → C (7 * u) 7 = B (7 * u) 7 + 1 ∧ C (4 + 7 * u) = ds_u1 (B (4 + 7 * u)) (B (7 * u) 7) a1 ∧ C (5 + 7 * u) = ds_u1 (B (5 + 7 * u)) (B (7 * u) 7) a2 ∧ C (6 + 7 * u) = ds_u1 (B (6 + 7 * u)) (B (7 * u) 7) a3
  ∧ (∀ i : Int, i ≠ 7 → C (7 * u) i = B (7 * u) i) ∧ ∀ c : Nat, c ≠ 7 * u → c ≠ 4 + 7 * u → c ≠ 5 + 7 * u → c ≠ 6 + 7 * u → C c = B c)
/-- rows of the entries: what is written there -/
theorem fy_E {k : Nat} {l : Int} (hk : k = 2 ∨ k = 3) (h4 : t0 < 4) (h : cy_S z W f n g law s r) (hu : s.2.2 2 = some t0) : cy_S z (cs_E k l W) f n g law (lf_up s.1 (35 + (k + 7 * t0)) l (s.1 (35 + 7 * t0) 1), s.2.1, s.2.2) r := by
  refine cy_S_c h (lf_up_row (by omega)) (lf_up_row (by omega)) (lf_up_row (by omega)) (fun hr => ⟨fun c => s.1 (35 + c), t0, h.2.2.2.2.2.2.1 hr, hu, h4, ?_, fun c hc => lf_up_row (by omega)⟩) (fun hK => cy_Ku hK rfl hu (fun c hc => lf_up_row (by omega)))
  exact (tp_row : lf_up s.1 (35 + (k + 7 * t0)) l (s.1 (35 + 7 * t0) 1) (35 + (k + 7 * t0)) = _)
theorem fy_57 {a1 a2 a3 : Int} {Q : lf_Z → Prop} (h4 : t0 < 4) (h : cy_S z W f n g law s r) (hu : s.2.2 2 = some t0) (k : ∀ t : lf_Z, t.2 = s.2 → cy_S z (cs_K a1 a2 a3 W) f n g law t r → Q t) : fw_57 t0 a1 a2 a3 Q s := by
  unfold fw_57
  intro _
  refine ⟨fun c => k s rfl (cy_S_c h rfl rfl rfl (fun hr => ⟨fun c => s.1 (35 + c), t0, h.2.2.2.2.2.2.1 hr, hu, h4, fun q => ?_⟩) (fun hK => hK)), fun c _ _ _ => ?_⟩
  · have q : s.1 (35 + 7 * t0) 7 < 24 := q
    omega
  have e1 : (lf_up s.1 (39 + 7 * t0) (s.1 (35 + 7 * t0) 7) a1) (35 + 7 * t0) 7 = s.1 (35 + 7 * t0) 7 := lf_up_c (by omega)
  rw [e1]
  have e2 : (lf_up (lf_up s.1 (39 + 7 * t0) (s.1 (35 + 7 * t0) 7) a1) (40 + 7 * t0) (s.1 (35 + 7 * t0) 7) a2) (35 + 7 * t0) 7 = s.1 (35 + 7 * t0) 7 := (lf_up_c (by omega)).trans e1
  rw [e2]
  have e3 : (lf_up (lf_up (lf_up s.1 (39 + 7 * t0) (s.1 (35 + 7 * t0) 7) a1) (40 + 7 * t0) (s.1 (35 + 7 * t0) 7) a2) (41 + 7 * t0) (s.1 (35 + 7 * t0) 7) a3) (35 + 7 * t0) 7 = s.1 (35 + 7 * t0) 7 := (lf_up_c (by omega)).trans e2
  rw [e3]
  have oth : ∀ c : Nat, c ≠ 35 + 7 * t0 → c ≠ 39 + 7 * t0 → c ≠ 40 + 7 * t0 → c ≠ 41 + 7 * t0 → (lf_up (lf_up (lf_up (lf_up s.1 (39 + 7 * t0) (s.1 (35 + 7 * t0) 7) a1) (40 + 7 * t0) (s.1 (35 + 7 * t0) 7) a2) (41 + 7 * t0) (s.1 (35 + 7 * t0) 7) a3) (35 + 7 * t0) 7 (s.1 (35 + 7 * t0) 7 + 1)) c = s.1 c := fun c c0 c1 c2 c3 => (lf_up_row c0).trans ((lf_up_row c3).trans ((lf_up_row c2).trans (lf_up_row c1)))
  refine k _ rfl (cy_S_c h (oth 31 (by omega) (by omega) (by omega) (by omega)) (oth 32 (by omega) (by omega) (by omega) (by omega)) (oth 33 (by omega) (by omega) (by omega) (by omega)) (fun hr => ⟨fun c => s.1 (35 + c), t0, h.2.2.2.2.2.2.1 hr, hu, h4, fun _ => ⟨lf_up_s, ?_, ?_, ?_, fun i hi => ?_, fun c c0 c1 c2 c3 => oth _ (by omega) (by omega) (by omega) (by omega)⟩⟩) (fun hK => cy_Ku hK rfl hu (fun c hc => oth c (by omega) (by omega) (by omega) (by omega))))
  · show (lf_up (lf_up (lf_up (lf_up s.1 (39 + 7 * t0) (s.1 (35 + 7 * t0) 7) a1) (40 + 7 * t0) (s.1 (35 + 7 * t0) 7) a2) (41 + 7 * t0) (s.1 (35 + 7 * t0) 7) a3) (35 + 7 * t0) 7 (s.1 (35 + 7 * t0) 7 + 1)) (35 + (4 + 7 * t0)) = ds_u1 (s.1 (35 + (4 + 7 * t0))) (s.1 (35 + 7 * t0) 7) a1
    rw [show 35 + (4 + 7 * t0) = 39 + 7 * t0 by omega]
    exact (lf_up_row (by omega)).trans ((lf_up_row (by omega)).trans ((lf_up_row (by omega)).trans tp_row))
  · show (lf_up (lf_up (lf_up (lf_up s.1 (39 + 7 * t0) (s.1 (35 + 7 * t0) 7) a1) (40 + 7 * t0) (s.1 (35 + 7 * t0) 7) a2) (41 + 7 * t0) (s.1 (35 + 7 * t0) 7) a3) (35 + 7 * t0) 7 (s.1 (35 + 7 * t0) 7 + 1)) (35 + (5 + 7 * t0)) = ds_u1 (s.1 (35 + (5 + 7 * t0))) (s.1 (35 + 7 * t0) 7) a2
    rw [show 35 + (5 + 7 * t0) = 40 + 7 * t0 by omega]
    refine (lf_up_row (by omega)).trans ((lf_up_row (by omega)).trans ?_)
    rw [tp_row, lf_up_row (show 40 + 7 * t0 ≠ 39 + 7 * t0 by omega)]
  · show (lf_up (lf_up (lf_up (lf_up s.1 (39 + 7 * t0) (s.1 (35 + 7 * t0) 7) a1) (40 + 7 * t0) (s.1 (35 + 7 * t0) 7) a2) (41 + 7 * t0) (s.1 (35 + 7 * t0) 7) a3) (35 + 7 * t0) 7 (s.1 (35 + 7 * t0) 7 + 1)) (35 + (6 + 7 * t0)) = ds_u1 (s.1 (35 + (6 + 7 * t0))) (s.1 (35 + 7 * t0) 7) a3
    rw [show 35 + (6 + 7 * t0) = 41 + 7 * t0 by omega]
    refine (lf_up_row (by omega)).trans ?_
    rw [tp_row, lf_up_row (show 41 + 7 * t0 ≠ 40 + 7 * t0 by omega), lf_up_row (show 41 + 7 * t0 ≠ 39 + 7 * t0 by omega)]
  · exact (lf_up_i hi).trans ((lf_up_c (by omega)).trans ((lf_up_c (by omega)).trans (lf_up_c (by omega))))
/-- a deed: fw_58 -/
theorem fy_58 {Q : lf_Z → Prop} (hw : 23 ≤ w ∧ w ≤ 32) (hb : cl_tp f n) (h : cy_S z W f n g law s r) (k : ∀ (t : lf_Z) (x : Int), (r.1 = 0 → x = if tx_sh ((w - 23) * 5 + 2) ≠ 0 then lx_V f n (ds_ad f n (ds_ad f n r.2)) else 0) → cy_S z (cs_K w (lx_V f n r.2) x W) f n g law t (ds_bd r (ds_deed f n w)) → Q t) : fw_58 w Q s := by
  have e0 : ds_bd r (ds_deed f n w) = if tx_sh ((w - 23) * 5 + 2) = 0 then ds_bd r (ds_num f n (tx_sh ((w - 23) * 5)) (tx_sh ((w - 23) * 5 + 1))) else ds_bd (ds_bd (ds_bd r (ds_num f n (tx_sh ((w - 23) * 5)) (tx_sh ((w - 23) * 5 + 1)))) (ds_ex f n (tx_sh ((w - 23) * 5 + 2)))) (ds_num f n (tx_sh ((w - 23) * 5 + 3)) (tx_sh ((w - 23) * 5 + 4))) := by
    by_cases c : r.1 = 0
    · rw [ds_bd0 c, ds_bd0 c]
      unfold ds_deed
      by_cases q : tx_sh ((w - 23) * 5 + 2) = 0
      · rw [if_pos q]
      · rw [if_neg q]
    · rw [ds_bdF c, ds_bdF c, ds_bdF c, ds_bdF c]
      (split) <;> rfl
  rw [e0] at k
  have p68 : ∀ (v u : Int) (t : lf_Z) (r' : Int × Int), cy_S z W f n g law t r' → (∀ y : lf_Z, cy_S z (cs_K w v u W) f n g law y r' → Q y) → fw_58_p68 Q w v u t := by
    intro v u t r' ht kk
    unfold fw_58_p68
    exact ⟨fun _ => trivial, fun t1 e1 h1 => fy_57 h1 ht e1 (fun y _ hy => kk y hy)⟩
  have nm : ∀ {lo hi b : Int}, (ds_num f n lo hi b).1 = 0 → (ds_num f n lo hi b).2 = ds_ad f n b := by
    intro lo hi b q
    unfold ds_num at q ⊢
    split at q
    · split at q
      · rename_i a1 a2; rw [if_pos a1, if_pos a2]
      · exact absurd q (show (2 : Int) ≠ 0 by decide)
    · exact absurd q (show (1 : Int) ≠ 0 by decide)
  unfold fw_58
  intro _ _
  refine fy_num hb h (fun v t ht hv => ?_)
  intro _
  refine ⟨fun q => ?_, fun q => ?_⟩
  · have q' : tx_sh ((w - 23) * 5 + 2) = 0 := q
    rw [if_pos q'] at k
    refine p68 _ _ t _ ht (fun y hy => k y 0 (fun _ => by rw [if_neg (fun e => e q')]) ?_)
    by_cases c : (ds_bd r (ds_num f n (tx_sh ((w - 23) * 5)) (tx_sh ((w - 23) * 5 + 1)))).1 = 0
    · rw [hv c] at hy; exact hy
    · exact cy_F hy c
  · have q' : ¬ tx_sh ((w - 23) * 5 + 2) = 0 := q
    rw [if_neg q'] at k
    have key : ∀ j : Nat, j < 10 → (px_sh (j * 5 + 2)).toInt ≠ 1 := by decide +kernel
    have kw := key (w - 23).toNat (by omega)
    rw [← show ((w - 23) * 5 + 2).toNat = (w - 23).toNat * 5 + 2 by omega] at kw
    refine fy_ex kw hb ht (fun u hu _ _ => fy_num hb hu (fun v2 y hy hv2 => p68 _ _ y _ hy (fun i hi => ?_)))
    refine k i (if tx_sh ((w - 23) * 5 + 2) ≠ 0 then lx_V f n (ds_ad f n (ds_ad f n r.2)) else 0) (fun _ => rfl) ?_
    by_cases c : (ds_bd (ds_bd (ds_bd r (ds_num f n (tx_sh ((w - 23) * 5)) (tx_sh ((w - 23) * 5 + 1)))) (ds_ex f n (tx_sh ((w - 23) * 5 + 2)))) (ds_num f n (tx_sh ((w - 23) * 5 + 3)) (tx_sh ((w - 23) * 5 + 4)))).1 = 0
    · obtain ⟨c2, _⟩ := ds_bdZ c
      obtain ⟨c1, c3⟩ := ds_bdZ c2
      obtain ⟨c0, c4⟩ := ds_bdZ c1
      have x1 := hv c1
      have x2 := hv2 c
      obtain ⟨_, x4⟩ := ds_exZ c3
      have x5 : (ds_bd (ds_bd r (ds_num f n (tx_sh ((w - 23) * 5)) (tx_sh ((w - 23) * 5 + 1)))) (ds_ex f n (tx_sh ((w - 23) * 5 + 2)))).2 = ds_ad f n (ds_ad f n r.2) := by
        rw [ds_bd0 c1, x4]
        show ds_ad f n (ds_bd r (ds_num f n (tx_sh ((w - 23) * 5)) (tx_sh ((w - 23) * 5 + 1)))).2 = _
        rw [ds_bd0 c0, nm c4]
      rw [if_pos q']
      rw [x1, x2] at hi
      have x6 : (ds_bd (ds_bd r (ds_num f n (tx_sh ((w - 23) * 5)) (tx_sh ((w - 23) * 5 + 1)))) (ds_ex f n (tx_sh ((w - 23) * 5 + 2)))).2 = ds_ad f n (ds_ad f n r.2) := x5
      rw [← x6]
      exact hi
    · exact cy_F hi c
end D7
/-! what sums are worth asks letters from a to z alone -/
section D8
variable {f g g' N : Int → Int} {n law : Int} {s t u z : lf_Z} {r : Int × Int} {W : cy_W} {b b' d w l : Int} {t0 : Nat} {D : List Int} {C0 C B : Nat → Int → Int} {o : Option Nat}
theorem lg_V : ∀ (k : Nat) (g g' : Int → Int), lg_a g g' → (∀ d e, (dv_T f n law N k).1 d g e = (dv_T f n law N k).1 d g' e) ∧ (∀ d e, (dv_T f n law N k).2.1 d g e = (dv_T f n law N k).2.1 d g' e) ∧ (∀ d e, (dv_T f n law N k).2.2.1 d g e = (dv_T f n law N k).2.2.1 d g' e) ∧ (∀ d e, (dv_T f n law N k).2.2.2.1 d g e = (dv_T f n law N k).2.2.2.1 d g' e) ∧ (∀ d e, (dv_T f n law N k).2.2.2.2.1 d g e = (dv_T f n law N k).2.2.2.2.1 d g' e) ∧ (∀ d e, (dv_T f n law N k).2.2.2.2.2.1 d g e = (dv_T f n law N k).2.2.2.2.2.1 d g' e) ∧ (∀ d e, (dv_T f n law N k).2.2.2.2.2.2.1 d g e = (dv_T f n law N k).2.2.2.2.2.2.1 d g' e) ∧ (∀ d e, (dv_T f n law N k).2.2.2.2.2.2.2 d g e = (dv_T f n law N k).2.2.2.2.2.2.2 d g' e) := by
  intro k
  induction k with
  | zero => intro g g' _; exact ⟨fun _ _ => rfl, fun _ _ => rfl, fun _ _ => rfl, fun _ _ => rfl, fun _ _ => rfl, fun _ _ => rfl, fun _ _ => rfl, fun _ _ => rfl⟩
  | succ k ih =>
    intro g g' h
    obtain ⟨i1, i2, i3, i4, i5, i6, i7, i8⟩ := ih g g' h
    obtain ⟨j1, j2, j3, j4, j5, j6, j7, j8⟩ := lg_T (f := f) (n := n) (law := law) k g g' h
    refine ⟨fun d e => funext fun b => ?_, fun d e => funext fun b => ?_, fun d e => funext fun b => ?_, fun d e => funext fun b => ?_, fun d e => funext fun b => ?_, fun d e => funext fun b => ?_, fun d e => funext fun b => ?_, fun d e => funext fun b => ?_⟩
    · show dv_lp f n ds_pm ((ds_T f n law k).2.1 d g) ((dv_T f n law N k).2.1 d g e) cm_2 300 ((ds_T f n law k).2.1 d g b).2 ((dv_T f n law N k).2.1 d g e b) = dv_lp f n ds_pm ((ds_T f n law k).2.1 d g') ((dv_T f n law N k).2.1 d g' e) cm_2 300 ((ds_T f n law k).2.1 d g' b).2 ((dv_T f n law N k).2.1 d g' e b)
      rw [i2 d e, j2 d]
    · show dv_lp f n ds_td ((ds_T f n law k).2.2.1 d g) ((dv_T f n law N k).2.2.1 d g e) cm_2 300 ((ds_T f n law k).2.2.1 d g b).2 ((dv_T f n law N k).2.2.1 d g e b) = dv_lp f n ds_td ((ds_T f n law k).2.2.1 d g') ((dv_T f n law N k).2.2.1 d g' e) cm_2 300 ((ds_T f n law k).2.2.1 d g' b).2 ((dv_T f n law N k).2.2.1 d g' e b)
      rw [i3 d e, j3 d]
    · show dv_one f n N (dv_T f n law N k).1 (dv_T f n law N k).2.2.1 (dv_T f n law N k).2.2.2.1 (dv_T f n law N k).2.2.2.2.1 d g e b = dv_one f n N (dv_T f n law N k).1 (dv_T f n law N k).2.2.1 (dv_T f n law N k).2.2.2.1 (dv_T f n law N k).2.2.2.2.1 d g' e b
      unfold dv_one
      rw [i3 (d + 1) e, i1 (d + 1) e, i4 (d + 1) e, i5 (d + 1) e]
    · show dv_if f n (ds_T f n law k).1 (ds_T f n law k).2.2.2.2.2.1 (dv_T f n law N k).1 (dv_T f n law N k).2.2.2.2.2.1 d g e b = dv_if f n (ds_T f n law k).1 (ds_T f n law k).2.2.2.2.2.1 (dv_T f n law N k).1 (dv_T f n law N k).2.2.2.2.2.1 d g' e b
      unfold dv_if
      rw [i6 d e, i1 d e, j6 d, j1 d]
    · show dv_let f n (ds_T f n law k).1 (dv_T f n law N k).1 d g e b = dv_let f n (ds_T f n law k).1 (dv_T f n law N k).1 d g' e b
      unfold dv_let
      rw [i1 d e, j1 d, (ih _ _ (lg_u (i := lx_V f n b) (v := ds_sl d) h)).1 d]
    · show dv_lp f n (ds_is 46) ((ds_T f n law k).2.2.2.2.2.2.1 d g) ((dv_T f n law N k).2.2.2.2.2.2.1 d g e) cm_2 300 ((ds_T f n law k).2.2.2.2.2.2.1 d g b).2 ((dv_T f n law N k).2.2.2.2.2.2.1 d g e b) = dv_lp f n (ds_is 46) ((ds_T f n law k).2.2.2.2.2.2.1 d g') ((dv_T f n law N k).2.2.2.2.2.2.1 d g' e) cm_2 300 ((ds_T f n law k).2.2.2.2.2.2.1 d g' b).2 ((dv_T f n law N k).2.2.2.2.2.2.1 d g' e b)
      rw [i7 d e, j7 d]
    · show dv_lp f n (ds_is 45) ((ds_T f n law k).2.2.2.2.2.2.2 d g) ((dv_T f n law N k).2.2.2.2.2.2.2 d g e) cm_2 300 ((ds_T f n law k).2.2.2.2.2.2.2 d g b).2 ((dv_T f n law N k).2.2.2.2.2.2.2 d g e b) = dv_lp f n (ds_is 45) ((ds_T f n law k).2.2.2.2.2.2.2 d g') ((dv_T f n law N k).2.2.2.2.2.2.2 d g' e) cm_2 300 ((ds_T f n law k).2.2.2.2.2.2.2 d g' b).2 ((dv_T f n law N k).2.2.2.2.2.2.2 d g' e b)
      rw [i8 d e, j8 d]
    · show dv_ask f n (ds_T f n law k).1 (dv_T f n law N k).1 (dv_T f n law N k).2.2.2.2.2.2.2 d g e b = dv_ask f n (ds_T f n law k).1 (dv_T f n law N k).1 (dv_T f n law N k).2.2.2.2.2.2.2 d g' e b
      unfold dv_ask
      rw [i1 d e, i8 (d + 1) e, j1 d]
/-- the places of a text's clauses -/
def tx_ps (f : Int → Int) (n : Int) (g : Int → Int) : Nat → Int → List Int
  | 0, _ => []
  | k + 1, b => if lx_T f n b = 0 then [] else b :: tx_ps f n g k (ds_cl f n g b).2
theorem lg_ps (h : lg_a g g') : ∀ (k : Nat) (b : Int), tx_ps f n g k b = tx_ps f n g' k b := by
  intro k
  induction k with
  | zero => intro b; rfl
  | succ k ih =>
    intro b
    show (if lx_T f n b = 0 then [] else b :: tx_ps f n g k (ds_cl f n g b).2) = (if lx_T f n b = 0 then [] else b :: tx_ps f n g' k (ds_cl f n g' b).2)
    rw [lg_c h, ih]
/-- without letters -/
def tx_g0 : Int → Int := fun _ => -1
theorem cs_Fg (h : lg_a g tx_g0) (hF : cs_F f n g C t0 D) : cs_F f n tx_g0 C t0 D := by
  obtain ⟨h1, h2, h3⟩ := hF
  refine ⟨h1, h2, fun l l0 l1 => ⟨(h3 l l0 l1).1, fun b hb hT => ?_⟩⟩
  obtain ⟨a1, a2⟩ := (h3 l l0 l1).2 b hb hT
  refine ⟨a1, a2.1, fun N M e L st hN hL => ?_⟩
  have := a2.2 N M e L st hN (fun x x0 x1 hx => absurd (h x x0 x1) hx)
  dsimp only at this ⊢
  rw [(lg_V (f := f) (n := n) (law := l) (N := N) 200 g tx_g0 h).1 0 e] at this
  exact this
/-- a place in a list with one more at its end -/
theorem cs_at {x : Int} {i : Nat} (h : (D ++ [b])[i]? = some x) : (D[i]? = some x) ∨ (i = D.length ∧ x = b) := by
  by_cases c : i < D.length
  · rw [List.getElem?_append_left c] at h; exact Or.inl h
  · rw [List.getElem?_append_right (by omega)] at h
    by_cases e : i - D.length = 0
    · rw [e] at h
      exact Or.inr ⟨by omega, (Option.some.inj h).symm⟩
    · obtain ⟨j, hj⟩ : ∃ j, i - D.length = j + 1 := ⟨i - D.length - 1, by omega⟩
      rw [hj] at h
      cases h
theorem cs_lt {x : Int} {i : Nat} (h : D[i]? = some x) : i < D.length := by
  by_cases c : i < D.length
  · exact c
  · rw [List.getElem?_eq_none (by omega)] at h; cases h
/-- the clause rows with one more -/
theorem cs_rows {F : Int → Int} {q : Int → Int} {v : Int} (h : ∀ (i : Nat) (x : Int), D[i]? = some x → F i = q x) (hv : v = q b) : ∀ (i : Nat) (x : Int), (D ++ [b])[i]? = some x → ds_u1 F (D.length : Int) v i = q x := by
  intro i x hx
  unfold ds_u1
  rcases cs_at hx with c | ⟨c, e⟩
  · have := cs_lt c
    rw [if_neg (by omega)]; exact h i x c
  · rw [if_pos (by omega), hv, e]
/-- a deed is kept -/
theorem cs_dd {x : Int} (hT : 22 < lx_T f n b) (h24 : (D.length : Int) < 24) (hx : x = cs_x f n b) (hb : b ≤ b') (hn : b' ≤ n) (h : cs_K (lx_T f n b) (lx_V f n (ds_ad f n b)) x (cs_W f n g t0 D b) o C) : cs_W f n g t0 (D ++ [b]) b' o C := by
  obtain ⟨B, u, ⟨w1, w2, ⟨⟨w3, w4⟩, w5, w6⟩, w7, w8, w9⟩, e1, u4, h3⟩ := h
  have eu : u = t0 := Option.some.inj (e1.symm.trans w1)
  subst eu
  obtain ⟨k1, k2, k3, k4, k5, k6⟩ := h3 (by omega)
  rw [w3] at k2 k3 k4
  have r1 : C (7 * u + 1) = B (7 * u + 1) := k6 _ (by omega) (by omega) (by omega) (by omega)
  have r2 : C (2 + 7 * u) = B (2 + 7 * u) := k6 _ (by omega) (by omega) (by omega) (by omega)
  have r3 : C (3 + 7 * u) = B (3 + 7 * u) := k6 _ (by omega) (by omega) (by omega) (by omega)
  have rn : C (7 * u) 1 = B (7 * u) 1 := k5 1 (by decide)
  refine ⟨w1, w2, ⟨⟨?_, by rw [rn]; exact w4⟩, ?_, fun l l0 l1 => ⟨fun q => ?_, fun y hy hyT => ?_⟩⟩, by rw [rn]; omega, hn, w9⟩
  · rw [k1, w3, List.length_append, List.length_singleton]; omega
  · intro i y hy
    rw [k2, k3, k4]
    exact ⟨cs_rows (q := cs_w f n) (fun i x hx => (w5 i x hx).1) rfl i y hy, cs_rows (q := cs_v f n) (fun i x hx => (w5 i x hx).2.1) (by unfold cs_v; rw [if_pos hT]) i y hy, cs_rows (q := cs_x f n) (fun i x hx => (w5 i x hx).2.2) hx i y hy⟩
  · rw [r2]
    exact (w6 l l0 l1).1 (fun y hy => q y (List.mem_append_left _ hy))
  · rcases List.mem_append.mp hy with c | c
    · have := (w6 l l0 l1).2 y c hyT
      unfold cs_L at this ⊢
      rw [r1, r2, r3, rn]; exact this
    · rw [List.mem_singleton.mp c] at hyT
      omega
/-- a law is kept -/
theorem cs_lw {b2 : Int} (hT : 20 ≤ lx_T f n b ∧ lx_T f n b ≤ 22) (hl : l = lx_T f n b - 20) (h24 : (D.length : Int) < 24) (hb : b2 ≤ b') (hn : b' ≤ n) (free : ∀ y ∈ D, lx_T f n y ≠ l + 20)
    (h : cs_K (lx_T f n b) 0 0 (cs_E 3 l (cy_A l n (ds_ad f n b) b2 0 g (fun N e => (dv_T f n l N 200).1 0 g e (ds_ad f n b)) (cs_E 2 l (cs_W f n g t0 D b)))) o C) : cs_W f n g t0 (D ++ [b]) b' o C := by
  obtain ⟨B4, u4, ⟨B3, u3, ⟨B2, u2, ⟨B1, u1, ⟨w1, w2, ⟨⟨w3, w4⟩, w5, w6⟩, w7, w8, w9⟩, e1, l1, a1, a2⟩, e2, l2, h2⟩, e3, l3, c1, c2⟩, e4, l4, h4⟩ := h
  have r1 : u1 = t0 := Option.some.inj (e1.symm.trans w1)
  have r2 : u2 = t0 := Option.some.inj (e2.symm.trans w1)
  have r3 : u3 = t0 := Option.some.inj (e3.symm.trans w1)
  have r4 : u4 = t0 := Option.some.inj (e4.symm.trans w1)
  rw [r1] at a1 a2
  rw [r2] at h2
  rw [r3] at c1 c2
  rw [r4] at h4
  obtain ⟨t1, t1n⟩ := cz_ad (f := f) (n := n) (b := b) (by omega)
  have b20 : B2 (7 * t0) = B1 (7 * t0) := a2 _ (by omega)
  have b21 : B2 (7 * t0 + 1) = B1 (7 * t0 + 1) := a2 _ (by omega)
  obtain ⟨⟨y1, y2⟩, ⟨y3, y4⟩, y5, y6, y7, y8⟩ := h2 (by rw [b20]; exact w4) (by rw [b20]; omega) t1n w9
  rw [b20] at y3 y4 y5 y6 y8
  rw [b21] at y5
  have b47 : B4 (7 * t0) = B3 (7 * t0) := c2 _ (by omega)
  have n7 : B4 (7 * t0) 7 = (D.length : Int) := by rw [b47, y6 7 (by decide)]; exact w3
  obtain ⟨k1, k2, k3, k4, k5, k6⟩ := h4 (by omega)
  rw [n7] at k2 k3 k4
  -- rows at the end
  have R1 : C (7 * t0 + 1) = B3 (7 * t0 + 1) := (k6 _ (by omega) (by omega) (by omega) (by omega)).trans (c2 _ (by omega))
  have Rn : C (7 * t0) 1 = B3 (7 * t0) 1 := by rw [k5 1 (by decide), b47]
  have R2 : C (2 + 7 * t0) = ds_u1 (B1 (2 + 7 * t0)) l (B1 (7 * t0) 1) := (k6 _ (by omega) (by omega) (by omega) (by omega)).trans ((c2 _ (by omega)).trans ((y7 _ (by omega) (by omega)).trans a1))
  have R3 : C (3 + 7 * t0) = ds_u1 (B1 (3 + 7 * t0)) l (B3 (7 * t0) 1) := by
    rw [k6 _ (by omega) (by omega) (by omega) (by omega), c1, y7 _ (by omega) (by omega), a2 _ (by omega)]
  have row : ∀ k : Nat, k = 4 ∨ k = 5 ∨ k = 6 → B4 (k + 7 * t0) = B1 (k + 7 * t0) := fun k hk => (c2 _ (by omega)).trans ((y7 _ (by omega) (by omega)).trans (a2 _ (by omega)))
  rw [row 4 (by decide)] at k2
  rw [row 5 (by decide)] at k3
  rw [row 6 (by decide)] at k4
  refine ⟨w1, w2, ⟨⟨?_, by rw [Rn]; omega⟩, ?_, fun l' l0' l1' => ⟨fun q => ?_, fun y hy hyT => ?_⟩⟩, by rw [Rn]; omega, hn, w9⟩
  · rw [k1, n7, List.length_append, List.length_singleton]; omega
  · intro i y hy
    rw [k2, k3, k4]
    exact ⟨cs_rows (q := cs_w f n) (fun i x hx => (w5 i x hx).1) rfl i y hy, cs_rows (q := cs_v f n) (fun i x hx => (w5 i x hx).2.1) (by unfold cs_v; rw [if_neg (by omega)]) i y hy, cs_rows (q := cs_x f n) (fun i x hx => (w5 i x hx).2.2) (by unfold cs_x; rw [if_neg (fun q => by omega)]) i y hy⟩
  · have nl : l' ≠ l := fun e => q b (List.mem_append_right _ (List.mem_singleton.mpr rfl)) (by omega)
    rw [R2]
    exact (if_neg nl).trans ((w6 l' l0' l1').1 (fun y hy => q y (List.mem_append_left _ hy)))
  · rcases List.mem_append.mp hy with c | c
    · have nl : l' ≠ l := fun e => free y c (by omega)
      obtain ⟨⟨q1, q2, q3, q5⟩, q4⟩ := (w6 l' l0' l1').2 y c hyT
      unfold cs_L
      have E2 : C (2 + 7 * t0) l' = B1 (2 + 7 * t0) l' := by rw [R2]; exact if_neg nl
      have E3 : C (3 + 7 * t0) l' = B1 (3 + 7 * t0) l' := by rw [R3]; exact if_neg nl
      rw [E2, E3, Rn, R1]
      exact ⟨⟨q1, q2, by omega, q5⟩, cc_R q4 (fun i i0 i1 => y5 i (by omega))⟩
    · have ey := List.mem_singleton.mp c
      rw [ey] at hyT ⊢
      have el : l' = l := by omega
      rw [el]
      unfold cs_L
      have E2 : C (2 + 7 * t0) l = B1 (7 * t0) 1 := by rw [R2]; exact if_pos rfl
      have E3 : C (3 + 7 * t0) l = B3 (7 * t0) 1 := by rw [R3]; exact if_pos rfl
      rw [E2, E3, Rn, R1]
      exact ⟨⟨w4, by omega, Int.le_refl _, by omega⟩, y8⟩
end D8
/-! clauses, texts: what the class's text writes -/
section D9
variable {f g : Int → Int} {n law : Int} {s t u z : lf_Z} {r : Int × Int} {W : cy_W} {b d w : Int} {t0 : Nat} {D : List Int}
theorem fy_c6 {l : Int} (h : cy_S z W f n g law s r) : cy_S z W f n g l (lf_up s.1 31 6 l, s.2.1, s.2.2) r := by
  obtain ⟨h1, h2, h3, h4, h5, h6, h7, h8⟩ := h
  have o : ∀ c : Nat, c ≠ 31 → (lf_up s.1 31 6 l) c = s.1 c := fun c hc => lf_up_row hc
  have i : ∀ j : Int, j ≠ 6 → (lf_up s.1 31 6 l) 31 j = s.1 31 j := fun j hj => lf_up_i hj
  refine ⟨(o 32 (by decide)).trans h1, (i 1 (by decide)).trans h2, (o 33 (by decide)).trans h3, zu_s, fun c => ?_, fun c => ?_, fun c => cy_Wc (h7 c) rfl (fun c hc => o c (by omega)), cy_Ke h8 rfl (fun c hc => o c (by omega))⟩
  · have q := h5 c
    unfold rd_at at q ⊢
    show ((lf_up s.1 31 6 l) 31 9 = r.2 ∧ (lf_up s.1 31 6 l) 31 8 = lx_T ((lf_up s.1 31 6 l) 32) ((lf_up s.1 31 6 l) 31 1) r.2 ∧ (lf_up s.1 31 6 l) 31 7 = lx_E ((lf_up s.1 31 6 l) 32) ((lf_up s.1 31 6 l) 31 1) r.2 ∧ (((lf_up s.1 31 6 l) 31 8 = 2 ∨ (lf_up s.1 31 6 l) 31 8 = 3) → (lf_up s.1 31 6 l) 31 10 = lx_V ((lf_up s.1 31 6 l) 32) ((lf_up s.1 31 6 l) 31 1) r.2)) ∧ (lf_up s.1 31 6 l) 31 2 = 0 ∧ 0 ≤ r.2 ∧ 0 ≤ (lf_up s.1 31 6 l) 31 7 ∧ (lf_up s.1 31 6 l) 31 3 = -1
    rw [i 3 (by decide), i 9 (by decide), i 8 (by decide), i 7 (by decide), i 10 (by decide), i 2 (by decide), i 1 (by decide), o 32 (by decide)]
    exact q
  · show (lf_up s.1 31 6 l) 31 2 = r.1 ∧ (lf_up s.1 31 6 l) 31 3 = r.2 ∧ (lf_up s.1 31 6 l) 31 8 = 1
    rw [i 2 (by decide), i 3 (by decide), i 8 (by decide)]
    exact h6 c
theorem ds_numZ {lo hi : Int} (q : (ds_num f n lo hi b).1 = 0) : lx_T f n b = 2 ∧ (ds_num f n lo hi b).2 = ds_ad f n b := by
  unfold ds_num at q ⊢
  split at q
  · split at q
    · rename_i a1 a2; rw [if_pos a1, if_pos a2]; exact ⟨a1, rfl⟩
    · exact absurd q (show (2 : Int) ≠ 0 by decide)
  · exact absurd q (show (1 : Int) ≠ 0 by decide)
theorem ds_deedZ (h : (ds_deed f n w b).1 = 0) : b ≤ (ds_deed f n w b).2 := by
  unfold ds_deed at h ⊢
  split at h
  · rename_i c
    rw [if_pos c]
    obtain ⟨a1, a2⟩ := ds_numZ h
    have := (cz_ad (f := f) (n := n) (b := b) (by omega)).1
    omega
  · rename_i c
    rw [if_neg c]
    obtain ⟨h1, h2⟩ := ds_bdZ h
    obtain ⟨h3, h4⟩ := ds_bdZ h1
    obtain ⟨a1, a2⟩ := ds_numZ h3
    obtain ⟨b1, b2⟩ := ds_exZ h4
    rw [ds_bd0 h1]
    rw [ds_bd0 h3, b2] at h2 ⊢
    obtain ⟨c1, c2⟩ := ds_numZ h2
    rw [c2]
    have x1 := (cz_ad (f := f) (n := n) (b := b) (by omega)).1
    have x2 := lm_ad0 (f := f) (n := n) (b := (ds_num f n (tx_sh ((w - 23) * 5)) (tx_sh ((w - 23) * 5 + 1)) b).2)
    have x3 := lm_ad0 (f := f) (n := n) (b := ds_ad f n (ds_num f n (tx_sh ((w - 23) * 5)) (tx_sh ((w - 23) * 5 + 1)) b).2)
    dsimp only at x2 x3 ⊢
    omega
/-- a clause: fw_38 -/
theorem fy_38 {Q : lf_Z → Prop} (hb : cl_tp f n) (hg : cy_gB g) (h : cy_S z (cs_W f n g t0 D b) f n g law s (0, b)) (k : ∀ (t : lf_Z) (law' : Int) (r' : Int × Int), cy_S z (cs_W f n g t0 (D ++ [b]) r'.2) f n g law' t r' → (r'.1 = 0 → r' = ds_cl f n g b) → Q t) : fw_38 Q s := by
  have e : s.1 31 8 = lx_T f n b := cy_tok h rfl
  obtain ⟨w1, w2, ⟨⟨w3, w4⟩, w5, w6⟩, w7, w8, w9⟩ := h.2.2.2.2.2.2.1 rfl
  have w3 : s.1 (35 + 7 * t0) 7 = (D.length : Int) := w3
  have no : ∀ v : Int, v ≠ 0 → fw_39 v Q s := fun v hv => fy_fail (W' := cs_W f n g t0 D b) hv h (fun t ht => k t law (v, b) (cy_F ht hv) (fun c => absurd c hv))
  unfold fw_38
  refine fl_15 ?_
  rw [e]
  refine ⟨fun q => ⟨fun _ => trivial, fun t1 e1 _ => ?_⟩, fun q => no 1 (by decide)⟩
  rw [Bool.and_eq_true, decide_eq_true_eq, decide_eq_true_eq] at q
  have E1 : t0 = t1 := Option.some.inj (w1.symm.trans e1)
  subst E1
  refine fl_40 ⟨fun c => ⟨fun _ => trivial, fun t2 e2 _ => ?_⟩, fun c => no 4 (by decide)⟩
  have E2 : t0 = t2 := Option.some.inj (w1.symm.trans e2)
  subst E2
  rw [w3]
  intro _
  refine ⟨fun hm => fy_adv hb h (fun a ha => ?_), fun hm => no 6 (by decide)⟩
  rw [ds_bd0 rfl] at ha
  have aP : a.2.2 2 = some t0 := by rw [cy_P ha, ← cy_P h]; exact w1
  obtain ⟨t1, t1n⟩ := cz_ad (f := f) (n := n) (b := b) (by omega)
  intro _
  refine ⟨fun c2 => ?_, fun c2 => ⟨fun _ => trivial, fun t3 e3 _ => ⟨fun _ => trivial, fun t4 e4 _ _ => ?_⟩⟩⟩
  · refine fy_58 (by omega) hb ha (fun y x hx hy => ?_)
    have hx := hx rfl
    unfold fw_38_p146
    refine fy_ex (by decide) hb hy (fun u hu => k u law (ds_bd (ds_bd (0, ds_ad f n b) (ds_deed f n (lx_T f n b))) (ds_ex f n 16)) ?_ (fun _ => ?_))
    · by_cases c3 : (ds_bd (ds_bd (0, ds_ad f n b) (ds_deed f n (lx_T f n b))) (ds_ex f n 16)).1 = 0
      · refine cy_m hu (fun o C _ hC => cs_dd c2 (by omega) (hx.trans ?_) ?_ ?_ hC)
        · unfold cs_x
          by_cases c4 : tx_sh ((lx_T f n b - 23) * 5 + 2) ≠ 0
          · rw [if_pos c4, if_pos ⟨c2, c4⟩]
          · rw [if_neg c4, if_neg (fun q => c4 q.2)]
        · obtain ⟨z1, z2⟩ := ds_bdZ c3
          obtain ⟨z3, z4⟩ := ds_exZ z2
          rw [ds_bd0 z1, z4]
          rw [ds_bd0 (r := (0, ds_ad f n b)) rfl] at z1 ⊢
          have x1 := ds_deedZ z1
          have x2 := lm_ad0 (f := f) (n := n) (b := (ds_deed f n (lx_T f n b) (ds_ad f n b)).2)
          dsimp only at x1 ⊢
          omega
        · obtain ⟨z1, z2⟩ := ds_bdZ c3
          obtain ⟨z3, z4⟩ := ds_exZ z2
          rw [ds_bd0 z1, z4]
          exact (cz_ad (by rw [z3]; decide)).2
      · exact cy_F hu c3
    · show ds_bd (ds_bd (0, ds_ad f n b) (ds_deed f n (lx_T f n b))) (ds_ex f n 16) = _
      rw [ds_bd0 (r := (0, ds_ad f n b)) rfl]; unfold ds_cl; rw [if_pos c2]
  · have E3 : t0 = t3 := Option.some.inj (aP.symm.trans e3)
    subst E3
    have E4 : t0 = t4 := Option.some.inj (aP.symm.trans e4)
    subst E4
    have hV := fy_E (k := 2) (l := lx_T f n b - 20) (Or.inl rfl) w2 (fy_c6 (l := lx_T f n b - 20) ha) (show (lf_up a.1 31 6 (lx_T f n b - 20), a.2.1, a.2.2).2.2 2 = some t0 from aP)
    rw [show 35 + (2 + 7 * t0) = 37 + 7 * t0 by omega] at hV
    refine fy_sum hb hg hV (fun w hw => ⟨fun _ => trivial, fun t5 e5 _ => ⟨fun _ => trivial, fun t6 e6 _ _ => ⟨fun _ => trivial, fun t7 e7 _ => ?_⟩⟩⟩)
    have wP : w.2.2 2 = some t0 := by rw [cy_P hw, ← cy_P h]; exact w1
    have E5 : t0 = t5 := Option.some.inj (wP.symm.trans e5)
    subst E5
    have E6 : t0 = t6 := Option.some.inj (wP.symm.trans e6)
    subst E6
    have E7 : t0 = t7 := Option.some.inj (wP.symm.trans e7)
    subst E7
    have w6' : w.1 31 6 = lx_T f n b - 20 := hw.2.2.2.1
    rw [w6']
    have hY := fy_E (k := 3) (l := lx_T f n b - 20) (Or.inr rfl) w2 hw wP
    rw [show 35 + (3 + 7 * t0) = 38 + 7 * t0 by omega] at hY
    refine fy_57 w2 hY wP (fun y _ hy => ?_)
    unfold fw_38_p146
    refine fy_ex (by decide) hb hy (fun u hu => k u (lx_T f n b - 20) (ds_bd (ds_bd (0, ds_ad f n b) ((ds_T f n (lx_T f n b - 20) 200).1 0 g)) (ds_ex f n 16)) ?_ (fun _ => ?_))
    · by_cases c3 : (ds_bd (ds_bd (0, ds_ad f n b) ((ds_T f n (lx_T f n b - 20) 200).1 0 g)) (ds_ex f n 16)).1 = 0
      · refine cy_m hu (fun o C _ hC => cs_lw (l := lx_T f n b - 20) (by omega) rfl (by omega) ?_ ?_ (fun y hy hyT => ?_) hC)
        · obtain ⟨z1, z2⟩ := ds_bdZ c3
          obtain ⟨z3, z4⟩ := ds_exZ z2
          rw [ds_bd0 z1, z4, ds_bd0 (r := (0, ds_ad f n b)) rfl]
          exact lm_ad0
        · obtain ⟨z1, z2⟩ := ds_bdZ c3
          obtain ⟨z3, z4⟩ := ds_exZ z2
          rw [ds_bd0 z1, z4]
          exact (cz_ad (by rw [z3]; decide)).2
        · have c := c
          have x := ((w6 (lx_T f n b - 20) (by omega) (by omega)).2 y hy hyT).1.1
          have x : 0 ≤ s.1 (35 + (2 + 7 * t0)) (lx_T f n b - 20) := x
          rw [show 35 + (2 + 7 * t0) = 37 + 7 * t0 by omega] at x
          rw [decide_eq_true (show 0 ≤ lx_T f n b - 20 by omega), decide_eq_true (show lx_T f n b - 20 < 3 by omega), decide_eq_true (show s.1 (37 + 7 * t0) (lx_T f n b - 20) ≠ -1 by omega)] at c
          cases c
      · exact cy_F hu c3
    · rw [ds_bd0 (r := (0, ds_ad f n b)) rfl]; unfold ds_cl; rw [if_neg c2]
/-- the loop over clauses -/
theorem fy_29l {Q : Bool → lf_Z → Prop} (hb : cl_tp f n) (hg : cy_gB g) (h : cy_S z (cs_W f n g t0 [] b) f n g law s (0, b)) (k : ∀ (zz : Bool) (t : lf_Z), cy_K z t → (zz = true → cs_F f n g (fun c => t.1 (35 + c)) t0 (tx_ps f n g 301 b) ∧ t.1 (35 + 7 * t0) 1 ≤ 300) → Q zz t) : fw_29_p41L Q 0 s := by
  refine ⟨fun x2 t => 0 ≤ x2 ∧ x2 ≤ 301 ∧ ∃ (law : Int) (r : Int × Int) (D : List Int), cy_S z (cs_W f n g t0 D r.2) f n g law t r ∧ (r.1 = 0 → D ++ tx_ps f n g (301 - x2).toNat r.2 = tx_ps f n g 301 b), ?_, ⟨Int.le_refl _, by decide, law, _, [], h, fun _ => rfl⟩⟩
  intro x2 t ⟨x0, x3, law, r, D, hr, h0⟩
  have hK : cy_K z (lf_up t.1 31 1 0, t.2.1, t.2.2) := cy_Ke hr.2.2.2.2.2.2.2 rfl (fun c hc => lf_up_row (by omega))
  have fin : (r.1 = 0 → tx_ps f n g (301 - x2).toNat r.2 = []) → fw_29_p72 Q t := by
    intro e
    unfold fw_29_p72
    intro _
    by_cases c : r.1 = 0
    · obtain ⟨a1, a2, a3, a4, a5⟩ := hr.2.2.2.2.1 c
      refine ⟨fun d => absurd a2 d, fun _ => k true _ hK (fun _ => ?_)⟩
      have := h0 c
      rw [e c, List.append_nil] at this
      rw [← this]
      obtain ⟨_, _, q, q2, q3, q4⟩ := hr.2.2.2.2.2.2.1 c
      have q2 : t.1 (35 + 7 * t0) 1 ≤ r.2 := q2
      refine ⟨?_, by show (lf_up t.1 31 1 0) (35 + 7 * t0) 1 ≤ 300; rw [lf_up_row (show 35 + 7 * t0 ≠ 31 by omega)]; omega⟩
      have er : (fun c : Nat => (lf_up t.1 31 1 0) (35 + c)) = fun c : Nat => t.1 (35 + c) := funext fun c => lf_up_row (by omega)
      show cs_F f n g (fun c : Nat => (lf_up t.1 31 1 0) (35 + c)) t0 D
      rw [er]; exact q
    · obtain ⟨a1, a2, a3⟩ := hr.2.2.2.2.2.1 c
      exact ⟨fun _ => k false _ hK (fun d => by cases d), fun d => absurd (by rw [a1]; exact c) d⟩
  have eqr : r.1 = 0 → r = (0, r.2) := by
    intro c
    obtain ⟨a, b⟩ := r
    have c : a = 0 := c
    rw [c]
  unfold fw_29_p41
  intro _
  by_cases c : r.1 = 0
  · have hl := h0 c
    have e := cy_tok hr c
    have a2 := (hr.2.2.2.2.1 c).2.1
    refine ⟨fun d => fin (fun _ => ?_), fun d _ => ⟨fun q => fin (fun _ => ?_), fun q _ => ⟨fun w => absurd a2 w, fun _ => ?_⟩⟩⟩
    · rw [show (301 - x2).toNat = 0 by omega]; rfl
    · rw [show (301 - x2).toNat = (300 - x2).toNat + 1 by omega]
      exact if_pos (by rw [← e]; exact q)
    · rw [show (301 - x2).toNat = (301 - (x2 + 1)).toNat + 1 by omega] at hl
      have step : tx_ps f n g ((301 - (x2 + 1)).toNat + 1) r.2 = r.2 :: tx_ps f n g (301 - (x2 + 1)).toNat (ds_cl f n g r.2).2 := if_neg (by rw [← e]; exact q)
      rw [step] at hl
      have hr2 : cy_S z (cs_W f n g t0 D r.2) f n g law t (0, r.2) := by rw [← eqr c]; exact hr
      refine fy_38 hb hg hr2 (fun u law' r' hu k2 => ⟨by omega, by omega, law', r', D ++ [r.2], hu, fun z => ?_⟩)
      rw [k2 z, List.append_assoc]
      exact hl
  · have e := cy_bad hr c
    have a1 := (hr.2.2.2.2.2.1 c).1
    refine ⟨fun _ => fin (fun q => absurd q c), fun _ _ => ⟨fun q => ?_, fun _ _ => ⟨fun _ => fin (fun q => absurd q c), fun w => absurd (by rw [a1]; exact c) w⟩⟩⟩
    rw [e] at q; cases q
/-- text of the class: what it writes into the rows of the scripts -/
theorem fy_28 {Q : Int → lf_Z → Prop} (hb : cl_tp (s.1 32) (s.1 31 1)) (h300 : 0 ≤ s.1 31 1 ∧ s.1 31 1 ≤ 300) (kN : ¬ s.1 0 11 < 4 → Q (-1) s) (k : s.1 0 11 < 4 → 0 ≤ s.1 0 11 → ∀ (zz : Bool) (t : lf_Z) (v : Int), (∀ c : Nat, 35 ≤ c → (c < 35 + 7 * (s.1 0 11).toNat ∨ 42 + 7 * (s.1 0 11).toNat ≤ c) → t.1 c = s.1 c) → t.2.2 = lf_ur s.2.2 2 (some (s.1 0 11).toNat) → (zz = true → v = s.1 0 11 ∧ cs_F (s.1 32) (s.1 31 1) tx_g0 (fun c => t.1 (35 + c)) (s.1 0 11).toNat (tx_ps (s.1 32) (s.1 31 1) tx_g0 301 (lx_sk (s.1 32) (s.1 31 1) 0)) ∧ t.1 (35 + 7 * (s.1 0 11).toNat) 1 ≤ 300) → (zz = false → v = -1) → Q v t) : fw_28 Q s := by
  unfold fw_28
  intro _
  refine ⟨fun c c' t0 e0 => ?_, kN⟩
  unfold fw_29
  refine ⟨fun _ => trivial, fun t1 e1 h4 => ?_⟩
  have E1 : t0 = t1 := by
    rw [lf_ur2v] at e1
    exact Option.some.inj e1
  subst E1
  unfold fw_30
  dsimp only
  generalize hV : lf_up (lf_fl (lf_up (lf_up (lf_fl (lf_up (lf_up s.1 (35 + 7 * t0) 1 0) (35 + 7 * t0) 7 0) (37 + 7 * t0) 3 (-1)) 31 2 0) 31 3 (-1)) 33 26 (-1)) 31 7 0 = V
  have vc : ∀ c : Nat, c ≠ 31 → c ≠ 33 → c ≠ 35 + 7 * t0 → c ≠ 37 + 7 * t0 → V c = s.1 c := by
    intro c c1 c2 c3 c4
    funext j
    rw [← hV]
    exact (lf_up_c c1).trans ((lf_fl_c c2).trans ((lf_up_c c1).trans ((lf_up_c c1).trans ((lf_fl_c c4).trans ((lf_up_c c3).trans (lf_up_c c3))))))
  have v7 : V 31 7 = 0 := by rw [← hV]; exact lf_up_s
  have v2 : V 31 2 = 0 := by rw [← hV]; exact (lf_up_i (by decide)).trans ((lf_fl_c (by decide)).trans ((lf_up_i (by decide)).trans lf_up_s))
  have v3 : V 31 3 = -1 := by rw [← hV]; exact (lf_up_i (by decide)).trans ((lf_fl_c (by decide)).trans lf_up_s)
  have v1 : V 31 1 = s.1 31 1 := by rw [← hV]; exact (lf_up_i (by decide)).trans ((lf_fl_c (by decide)).trans ((lf_up_i (by decide)).trans ((lf_up_i (by decide)).trans ((lf_fl_c (by omega)).trans ((lf_up_c (by omega)).trans (lf_up_c (by omega)))))))
  have vg : ∀ l : Int, 0 ≤ l → l < 26 → V 33 l = -1 := by
    intro l l0 l1
    rw [← hV]
    refine (lf_up_c (by decide)).trans ?_
    unfold lf_fl
    rw [if_pos ⟨rfl, l0, l1⟩]
  have vl : ∀ l : Int, 0 ≤ l → l < 3 → V (37 + 7 * t0) l = -1 := by
    intro l l0 l1
    rw [← hV]
    refine (lf_up_c (by omega)).trans ((lf_fl_c (by omega)).trans ((lf_up_c (by omega)).trans ((lf_up_c (by omega)).trans ?_)))
    unfold lf_fl
    rw [if_pos ⟨rfl, l0, l1⟩]
  have vm : V (35 + 7 * t0) 7 = 0 := by
    rw [← hV]
    exact (lf_up_c (by omega)).trans ((lf_fl_c (by omega)).trans ((lf_up_c (by omega)).trans ((lf_up_c (by omega)).trans ((lf_fl_c (by omega)).trans lf_up_s))))
  have vn : V (35 + 7 * t0) 1 = 0 := by
    rw [← hV]
    exact (lf_up_c (by omega)).trans ((lf_fl_c (by omega)).trans ((lf_up_c (by omega)).trans ((lf_up_c (by omega)).trans ((lf_fl_c (by omega)).trans ((lf_up_i (by decide)).trans lf_up_s)))))
  have v32 : V 32 = s.1 32 := vc 32 (by omega) (by omega) (by omega) (by omega)
  have v0 : V 0 = s.1 0 := vc 0 (by omega) (by omega) (by omega) (by omega)
  have hVb : ∀ i, 0 ≤ i → i < V 31 1 → 0 ≤ V 32 i ∧ V 32 i ≤ 255 := by rw [v1, v32]; exact hb
  refine fl_31 (s := (V, s.2.1, lf_ur s.2.2 2 (some t0))) v2 (by show 0 ≤ V 31 7; rw [v7]; exact Int.le_refl _) hVb (fun t hF hA => ?_)
  have hA2 : rd_at t (lx_sk (V 32) (V 31 1) (V 31 7)) := hA
  rw [v32, v1, v7] at hA2
  have t32 : t.1 32 = s.1 32 := (hF.1 32 (by decide)).trans v32
  have t1' : t.1 31 1 = s.1 31 1 := (hF.2.1 1 (by decide) (by decide) (by decide) (by decide)).trans v1
  have t0' : t.1 0 = s.1 0 := (hF.1 0 (by decide)).trans v0
  have tP : t.2.2 = lf_ur s.2.2 2 (some t0) := congrArg (·.2) hF.2.2
  have g0 : lg_a (V 33) tx_g0 := fun j j0 j1 => vg j j0 j1
  have rowT : ∀ c : Nat, 35 ≤ c → t.1 c = V c := fun c hc => hF.1 c (by omega)
  have tS : cy_S t (cs_W (s.1 32) (s.1 31 1) (V 33) t0 [] (lx_sk (s.1 32) (s.1 31 1) 0)) (s.1 32) (s.1 31 1) (V 33) (t.1 31 6) t (0, lx_sk (s.1 32) (s.1 31 1) 0) := by
    refine ⟨t32, t1', hF.1 33 (by decide), rfl, fun _ => ⟨hA2, (hF.2.1 2 (by decide) (by decide) (by decide) (by decide)).trans v2, lx_runB, ?_, (hF.2.1 3 (by decide) (by decide) (by decide) (by decide)).trans v3⟩, fun d => absurd rfl d, fun _ => ?_, cy_Kr⟩
    · rw [hA2.2.2.1]
      exact cl_E0 lx_runB
    · have n0 : (fun c : Nat => t.1 (35 + c)) (7 * t0) = V (35 + 7 * t0) := rowT _ (by omega)
      have n2 : (fun c : Nat => t.1 (35 + c)) (2 + 7 * t0) = V (37 + 7 * t0) := (rowT _ (by omega)).trans (by rw [show 35 + (2 + 7 * t0) = 37 + 7 * t0 by omega])
      have nb : 0 ≤ lx_sk (s.1 32) (s.1 31 1) 0 := lx_runB
      refine ⟨by rw [tP]; rfl, h4, ⟨⟨?_, ?_⟩, fun i y hy => (by cases hy), fun l l0 l1 => ⟨fun _ => ?_, fun y hy => (by cases hy)⟩⟩, ?_, ?_, h300.2⟩
      · rw [n0]; exact vm
      · rw [n0, vn]; exact Int.le_refl _
      · rw [n2]; exact vl l l0 l1
      · rw [n0, vn]; exact nb
      · exact lx_runN h300.1
  refine fy_29l (by intro i a b; exact hb i a b) (fun x x0 x1 => Or.inl (vg x x0 x1)) tS (fun zz u uK uF => ?_)
  have c0 : 0 ≤ s.1 0 11 := c'.1
  have frame : ∀ c : Nat, 35 ≤ c → (c < 35 + 7 * t0 ∨ 42 + 7 * t0 ≤ c) → u.1 c = s.1 c := fun c c1 c2 => (uK.2.2 t0 (by rw [tP]; rfl) c c1 c2).trans ((rowT c c1).trans (vc c (by omega) (by omega) (by omega) (by omega)))
  have uP : u.2.2 = lf_ur s.2.2 2 (some t0) := uK.1.trans tP
  have u0 : u.1 0 11 = s.1 0 11 := by rw [uK.2.1, t0']
  rw [← e0] at k
  refine ⟨fun d => ?_, fun d => ?_⟩
  · refine k c c0 true _ _ (fun c c1 c2 => (lf_up_row (by omega)).trans (frame c c1 c2)) uP (fun _ => ⟨by rw [u0]; omega, ?_, by show (lf_up u.1 0 11 (u.1 0 11 + 1)) (35 + 7 * t0) 1 ≤ 300; rw [lf_up_row (show 35 + 7 * t0 ≠ 0 by omega)]; exact (uF d).2⟩) (fun q => by cases q)
    have er : (fun c : Nat => (lf_up u.1 0 11 (u.1 0 11 + 1)) (35 + c)) = fun c : Nat => u.1 (35 + c) := funext fun c => lf_up_row (by omega)
    show cs_F _ _ _ (fun c : Nat => (lf_up u.1 0 11 (u.1 0 11 + 1)) (35 + c)) t0 _
    rw [er, ← lg_ps g0]
    exact cs_Fg g0 (uF d).1
  · exact k c c0 false _ _ frame uP (fun q => by cases q) (fun _ => rfl)
end D9
/-! what the reference's orders are worth -/
section RV
variable {f : Int → Int} {n law b c k j : Int} {P P2 : ln_P} {o : List (Int × Int)} {M N L0 : Int → Int}
abbrev rq_R : Type := List Int × List Int × (Int → Int)
def rq_hd : List Int → Int
  | [] => 0
  | x :: _ => x
/-- one order -/
def rq_st (N : Int → Int) (e : Int × Int) (R : rq_R) : rq_R :=
  if e.1 = 0 then (e.2 :: R.1, R.2)
  else if e.1 = 1 then (N e.2 :: R.1, R.2)
  else if e.1 ≤ 1 ∨ e.1 = 31 then (R.2.2 e.2 :: R.1, R.2)
  else if e.1 = 2 then ((if rq_hd R.2.1 ≠ 0 then R.1.tail else rq_hd R.1 :: R.1.tail.tail), R.2.1.tail, R.2.2)
  else if e.1 = 30 then (R.1.tail, R.2.1, ds_u1 R.2.2 e.2 (rq_hd R.1))
  else if e.1 = 3 then (-(rq_hd R.1) :: R.1.tail, R.2)
  else if e.1 < 10 then (cm_ar (e.1 + 6) (rq_hd R.1.tail) (rq_hd R.1) :: R.1.tail.tail, R.2)
  else if e.1 < 20 then (R.1.tail.tail, lf_b (cm_cp (e.1 - 6) (rq_hd R.1.tail) (rq_hd R.1)) :: R.2.1, R.2.2)
  else if e.1 = 20 then (R.1, (1 - rq_hd R.2.1) :: R.2.1.tail, R.2.2)
  else if e.1 = 21 then (R.1, cm_2 45 (rq_hd R.2.1.tail) (rq_hd R.2.1) :: R.2.1.tail.tail, R.2.2)
  else (R.1, cm_2 46 (rq_hd R.2.1.tail) (rq_hd R.2.1) :: R.2.1.tail.tail, R.2.2)
/-- all orders but the first m -/
def rv (N L0 : Int → Int) (m : Nat) : List (Int × Int) → rq_R
  | [] => ([], [], L0)
  | e :: o => if o.length < m then ([], [], L0) else rq_st N e (rv N L0 m o)
def rq_pr (M N : Int → Int) (e : Int × Int) (R : rq_R) : Prop := (e.1 = 0 → cm_sm e.2) ∧ (e.1 = 1 → cm_sm (N e.2) ∧ M e.2 = N e.2) ∧ (e.1 < 0 ∨ e.1 = 31 → cm_sm (R.2.2 e.2)) ∧ (e.1 = 2 → R.1 ≠ [])
def rq_ok (M N L0 : Int → Int) (m : Nat) : List (Int × Int) → Prop
  | [] => m = 0
  | e :: o => o.length + 1 = m ∨ (rq_ok M N L0 m o ∧ rq_pr M N e (rv N L0 m o))
variable {m : Nat}
theorem rq_len : ∀ o : List (Int × Int), rq_ok M N L0 m o → m ≤ o.length := by
  intro o
  induction o with
  | nil => intro h; have h : m = 0 := h; omega
  | cons e o ih =>
    intro h
    rw [List.length_cons]
    rcases h with h | h
    · omega
    · have := ih h.1; omega
theorem rv_c {e : Int × Int} (h : rq_ok M N L0 m o) : rv N L0 m (e :: o) = rq_st N e (rv N L0 m o) := if_neg (by have := rq_len o h; omega)
theorem rq_c {e : Int × Int} (h : rq_ok M N L0 m o) (p : rq_pr M N e (rv N L0 m o)) : rq_ok M N L0 m (e :: o) := Or.inr ⟨h, p⟩
theorem rv_0 (M : Int → Int) (h : o.length = m) : rv N L0 m o = ([], [], L0) ∧ rq_ok M N L0 m o := by
  cases o with
  | nil => exact ⟨rfl, h.symm⟩
  | cons e o =>
    rw [List.length_cons] at h
    exact ⟨if_pos (by omega), Or.inl h⟩
/-- the pile's signs, from rank k on, are written -/
def rq_fl (N : Int → Int) (k : Int) : ln_P → rq_R → rq_R
  | [], R => R
  | e :: P, R => if k ≤ lm_rk e.1 then rq_fl N k P (rq_st N (e.1, 0) R) else R
/-- a pile's entries -/
def rq_P (c : Int) (P : ln_P) : Prop := ∀ e ∈ P, (3 ≤ e.1 ∧ e.1 ≠ 30 ∧ e.1 ≠ 31) ∧ (e.1 = 45 → 0 ≤ e.2.2 ∧ e.2.2 < c)
theorem rq_Pc {e : Int × Int × Int} (h : rq_P c P) (h1 : 3 ≤ e.1 ∧ e.1 ≠ 30 ∧ e.1 ≠ 31) (h2 : e.1 = 45 → 0 ≤ e.2.2 ∧ e.2.2 < c) : rq_P c (e :: P) := fun x hx => by
  rcases List.mem_cons.mp hx with q | q
  · rw [q]; exact ⟨h1, h2⟩
  · exact h x q
theorem rq_Pt {e : Int × Int × Int} (h : rq_P c (e :: P)) : rq_P c P := fun x hx => h x (List.mem_cons_of_mem _ hx)
theorem rq_Pw {c' : Int} (h : rq_P c P) (hc : c ≤ c') : rq_P c' P := fun x hx => ⟨(h x hx).1, fun q => ⟨((h x hx).2 q).1, by have := ((h x hx).2 q).2; omega⟩⟩
theorem rq_Ps : ∀ {P : ln_P}, rq_P c P → rq_P c (ln_st k P) := by
  intro P
  induction P with
  | nil => intro h; exact h
  | cons e P ih =>
    intro h
    show rq_P c (if k ≤ lm_rk e.1 then ln_st k P else e :: P)
    split
    · exact ih (rq_Pt h)
    · exact h
theorem rv_so (hk : 1 ≤ k) : ∀ (P : ln_P) (o : List (Int × Int)), rq_P c P → rq_ok M N L0 m o → rq_ok M N L0 m (ln_so k P o) ∧ rv N L0 m (ln_so k P o) = rq_fl N k P (rv N L0 m o) := by
  intro P
  induction P with
  | nil => intro o _ h; exact ⟨h, rfl⟩
  | cons e P ih =>
    intro o hP h
    show rq_ok M N L0 m (if k ≤ lm_rk e.1 then ln_so k P ((e.1, 0) :: o) else o) ∧ rv N L0 m (if k ≤ lm_rk e.1 then ln_so k P ((e.1, 0) :: o) else o) = (if k ≤ lm_rk e.1 then rq_fl N k P (rq_st N (e.1, 0) (rv N L0 m o)) else rv N L0 m o)
    by_cases q : k ≤ lm_rk e.1
    · rw [if_pos q, if_pos q]
      have he := (hP e List.mem_cons_self).1
      have p : rq_pr M N (e.1, 0) (rv N L0 m o) := ⟨fun w => by have w : e.1 = 0 := w; omega, fun w => by have w : e.1 = 1 := w; omega, fun w => by have w : e.1 < 0 ∨ e.1 = 31 := w; omega, fun w => by have w : e.1 = 2 := w; omega⟩
      have := ih ((e.1, 0) :: o) (rq_Pt hP) (rq_c h p)
      rw [rv_c h] at this
      exact this
    · rw [if_neg q, if_neg q]; exact ⟨h, rfl⟩
/-- flushing in two steps -/
theorem rq_flfl {j : Int} (h : k ≤ j) : ∀ (P : ln_P) (R : rq_R), rq_fl N k P R = rq_fl N k (ln_st j P) (rq_fl N j P R) := by
  intro P
  induction P with
  | nil => intro R; rfl
  | cons e P ih =>
    intro R
    show (if k ≤ lm_rk e.1 then rq_fl N k P (rq_st N (e.1, 0) R) else R) = rq_fl N k (if j ≤ lm_rk e.1 then ln_st j P else e :: P) (if j ≤ lm_rk e.1 then rq_fl N j P (rq_st N (e.1, 0) R) else R)
    by_cases q : j ≤ lm_rk e.1
    · rw [if_pos q, if_pos q, if_pos (by omega)]; exact ih _
    · rw [if_neg q, if_neg q]; rfl
theorem ln_stst {j : Int} (h : k ≤ j) : ∀ P : ln_P, ln_st k (ln_st j P) = ln_st k P := by
  intro P
  induction P with
  | nil => rfl
  | cons e P ih =>
    show ln_st k (if j ≤ lm_rk e.1 then ln_st j P else e :: P) = (if k ≤ lm_rk e.1 then ln_st k P else e :: P)
    by_cases q : j ≤ lm_rk e.1
    · rw [if_pos q, if_pos (show k ≤ lm_rk e.1 by omega)]; exact ih
    · rw [if_neg q]; rfl
theorem ln_stL : ∀ P : ln_P, (ln_st k P).length ≤ P.length := by
  intro P
  induction P with
  | nil => exact Nat.le_refl _
  | cons e P ih =>
    show (if k ≤ lm_rk e.1 then ln_st k P else e :: P).length ≤ (e :: P).length
    split
    · exact Nat.le_succ_of_le ih
    · exact Nat.le_refl _
/-- nothing to flush -/
theorem ln_st0 (h : ln_st k P = P) : P = [] ∨ ∃ e Q, P = e :: Q ∧ ¬ k ≤ lm_rk e.1 := by
  cases P with
  | nil => exact Or.inl rfl
  | cons e Q =>
    refine Or.inr ⟨e, Q, rfl, fun q => ?_⟩
    have : (if k ≤ lm_rk e.1 then ln_st k Q else e :: Q) = e :: Q := h
    rw [if_pos q] at this
    have l := ln_stL (k := k) Q
    rw [this, List.length_cons] at l
    omega
theorem ln_stj {j : Int} (h : k ≤ j) (e : ln_st k P = P) : ln_st j P = P := by
  rcases ln_st0 e with q | ⟨x, Q, q, nk⟩
  · rw [q]; rfl
  · rw [q]; exact if_neg (by omega)
theorem rq_fl0 (h : ln_st k P = P) (R : rq_R) : rq_fl N k P R = R := by
  rcases ln_st0 h with q | ⟨x, Q, q, nk⟩
  · rw [q]; rfl
  · rw [q]; exact if_neg nk
theorem ln_eS : ln_e (ln_st k P) = lm_st k (ln_e P) := by
  induction P with
  | nil => rfl
  | cons e P ih =>
    show ln_e (if k ≤ lm_rk e.1 then ln_st k P else e :: P) = (if k ≤ lm_rk e.1 then lm_st k (ln_e P) else ln_e (e :: P))
    split
    · exact ih
    · rfl
/-- alike, below c lets -/
def rq_E (c : Int) (R R' : rq_R) : Prop := R'.1 = R.1 ∧ R'.2.1 = R.2.1 ∧ ∀ i : Int, i < c → R'.2.2 i = R.2.2 i
theorem rq_Er {R : rq_R} : rq_E c R R := ⟨rfl, rfl, fun _ _ => rfl⟩
theorem rq_Et {R S T : rq_R} (h : rq_E c R S) (g : rq_E c S T) : rq_E c R T := ⟨g.1.trans h.1, g.2.1.trans h.2.1, fun i hi => (g.2.2 i hi).trans (h.2.2 i hi)⟩
theorem rq_Ew {c' : Int} {R S : rq_R} (h : rq_E c' R S) (hc : c ≤ c') : rq_E c R S := ⟨h.1, h.2.1, fun i hi => h.2.2 i (by omega)⟩
theorem rq_Est {x y : Int} {R S : rq_R} (h : rq_E c R S) (hx : 3 ≤ x ∧ x ≠ 30 ∧ x ≠ 31) : rq_E c (rq_st N (x, y) R) (rq_st N (x, y) S) := by
  obtain ⟨h1, h2, h3⟩ := h
  unfold rq_st
  dsimp only
  rw [h1, h2]
  rw [if_neg (show ¬ x = 0 by omega), if_neg (show ¬ x = 1 by omega), if_neg (show ¬ (x ≤ 1 ∨ x = 31) by omega), if_neg (show ¬ x = 2 by omega), if_neg (show ¬ x = 30 by omega)]
  rw [if_neg (show ¬ x = 0 by omega), if_neg (show ¬ x = 1 by omega), if_neg (show ¬ (x ≤ 1 ∨ x = 31) by omega), if_neg (show ¬ x = 2 by omega), if_neg (show ¬ x = 30 by omega)]
  by_cases c3 : x = 3
  · rw [if_pos c3, if_pos c3]; exact ⟨rfl, h2, h3⟩
  rw [if_neg c3, if_neg c3]
  by_cases c4 : x < 10
  · rw [if_pos c4, if_pos c4]; exact ⟨rfl, h2, h3⟩
  rw [if_neg c4, if_neg c4]
  by_cases c5 : x < 20
  · rw [if_pos c5, if_pos c5]; exact ⟨rfl, rfl, h3⟩
  rw [if_neg c5, if_neg c5]
  by_cases c6 : x = 20
  · rw [if_pos c6, if_pos c6]; exact ⟨rfl, rfl, h3⟩
  rw [if_neg c6, if_neg c6]
  by_cases c7 : x = 21
  · rw [if_pos c7, if_pos c7]; exact ⟨rfl, rfl, h3⟩
  · rw [if_neg c7, if_neg c7]; exact ⟨rfl, rfl, h3⟩
theorem rq_Efl (k : Int) : ∀ (P : ln_P) (R S : rq_R), rq_P j P → rq_E c R S → rq_E c (rq_fl N k P R) (rq_fl N k P S) := by
  intro P
  induction P with
  | nil => intro R S _ h; exact h
  | cons e P ih =>
    intro R S hP h
    show rq_E c (if k ≤ lm_rk e.1 then rq_fl N k P (rq_st N (e.1, 0) R) else R) (if k ≤ lm_rk e.1 then rq_fl N k P (rq_st N (e.1, 0) S) else S)
    split
    · exact ih _ _ (rq_Pt hP) (rq_Est h (hP e List.mem_cons_self).1)
    · exact h
/-- numbers are small, truths 0 or 1 -/
def rq_sm (R : rq_R) : Prop := (∀ x ∈ R.1, cm_sm x) ∧ ∀ x ∈ R.2.1, x = 0 ∨ x = 1
theorem rq_hdS {l : List Int} (h : ∀ x ∈ l, cm_sm x) : cm_sm (rq_hd l) := by
  cases l with
  | nil => exact ⟨by decide, by decide⟩
  | cons x l => exact h x List.mem_cons_self
theorem rq_hdT {l : List Int} (h : ∀ x ∈ l, x = 0 ∨ x = 1) : rq_hd l = 0 ∨ rq_hd l = 1 := by
  cases l with
  | nil => exact Or.inl rfl
  | cons x l => exact h x List.mem_cons_self
theorem rq_tl {α : Type} {p : α → Prop} {l : List α} (h : ∀ x ∈ l, p x) : ∀ x ∈ l.tail, p x := fun x hx => h x (List.mem_of_mem_tail hx)
theorem rq_cn {α : Type} {p : α → Prop} {l : List α} {y : α} (hy : p y) (h : ∀ x ∈ l, p x) : ∀ x ∈ y :: l, p x := fun x hx => by
  rcases List.mem_cons.mp hx with q | q
  · rw [q]; exact hy
  · exact h x q
theorem rq_smS {e : Int × Int} {R : rq_R} (h : rq_sm R) (p : rq_pr M N e R) : rq_sm (rq_st N e R) := by
  obtain ⟨h1, h2⟩ := h
  obtain ⟨p1, p2, p3, _⟩ := p
  unfold rq_st
  by_cases c0 : e.1 = 0
  · rw [if_pos c0]; exact ⟨rq_cn (p1 c0) h1, h2⟩
  rw [if_neg c0]
  by_cases c1 : e.1 = 1
  · rw [if_pos c1]; exact ⟨rq_cn (p2 c1).1 h1, h2⟩
  rw [if_neg c1]
  by_cases c2 : e.1 ≤ 1 ∨ e.1 = 31
  · rw [if_pos c2]; exact ⟨rq_cn (p3 (by omega)) h1, h2⟩
  rw [if_neg c2]
  by_cases c3 : e.1 = 2
  · rw [if_pos c3]
    refine ⟨?_, rq_tl h2⟩
    dsimp only
    split
    · exact rq_tl h1
    · exact rq_cn (rq_hdS h1) (rq_tl (rq_tl h1))
  rw [if_neg c3]
  by_cases c4 : e.1 = 30
  · rw [if_pos c4]; exact ⟨rq_tl h1, h2⟩
  rw [if_neg c4]
  by_cases c5 : e.1 = 3
  · rw [if_pos c5]
    refine ⟨rq_cn ?_ (rq_tl h1), h2⟩
    have := rq_hdS h1
    unfold cm_sm at *; omega
  rw [if_neg c5]
  by_cases c6 : e.1 < 10
  · rw [if_pos c6]; exact ⟨rq_cn (cm_arS (rq_hdS (rq_tl h1))) (rq_tl (rq_tl h1)), h2⟩
  rw [if_neg c6]
  by_cases c7 : e.1 < 20
  · rw [if_pos c7]
    refine ⟨rq_tl (rq_tl h1), rq_cn ?_ h2⟩
    unfold lf_b
    split
    · exact Or.inr rfl
    · exact Or.inl rfl
  rw [if_neg c7]
  have t1 := rq_hdT h2
  have t2 := rq_hdT (rq_tl h2)
  by_cases c8 : e.1 = 20
  · rw [if_pos c8]; exact ⟨h1, rq_cn (by omega) (rq_tl h2)⟩
  rw [if_neg c8]
  by_cases c9 : e.1 = 21
  · rw [if_pos c9]; exact ⟨h1, rq_cn (cm_2b (Or.inl rfl) t1 t2) (rq_tl (rq_tl h2))⟩
  · rw [if_neg c9]; exact ⟨h1, rq_cn (cm_2b (Or.inr rfl) t1 t2) (rq_tl (rq_tl h2))⟩
theorem rq_okS : ∀ o : List (Int × Int), rq_ok M N L0 m o → rq_sm (rv N L0 m o) := by
  intro o
  induction o with
  | nil => intro _; exact ⟨fun x hx => (by cases hx), fun x hx => (by cases hx)⟩
  | cons e o ih =>
    intro h
    rcases h with h | h
    · have : rv N L0 m (e :: o) = ([], [], L0) := if_pos (by omega)
      rw [this]
      exact ⟨fun x hx => (by cases hx), fun x hx => (by cases hx)⟩
    · rw [rv_c h.1]
      exact rq_smS (ih h.1) h.2
end RV
/-! the list machine's readings, with what they are worth -/
section LQ
variable {f g : Int → Int} {n law b c c2 c3 k j x : Int} {P P2 P3 Q : ln_P} {o o2 o3 o5 : List (Int × Int)} {M N L0 e : Int → Int} {m : Nat} {s t u : ln_T} {R R1 R5 : rq_R}
def lo_go (f : Int → Int) (n law : Int) : Nat → ln_T → ln_T → Prop
  | 0, s, t => s = t
  | k + 1, s, t => ∃ u : ln_T, lo_sp f n law s = .inr u ∧ lo_go f n law k u t
def lq_R (f : Int → Int) (n law : Int) (s t : ln_T) : Prop := ∃ k : Nat, lo_go f n law k s t
theorem lq_Rr : lq_R f n law s s := ⟨0, rfl⟩
theorem lq_R1 (h : lo_sp f n law s = .inr t) (g : lq_R f n law t u) : lq_R f n law s u := by
  obtain ⟨k, hk⟩ := g
  exact ⟨k + 1, t, h, hk⟩
theorem lo_goA : ∀ (a d : Nat) (s : ln_T), lo_go f n law a s t → lo_go f n law d t u → lo_go f n law (a + d) s u := by
  intro a
  induction a with
  | zero => intro d s h g; have h : s = t := h; rw [h, Nat.zero_add]; exact g
  | succ a ih =>
    intro d s h g
    obtain ⟨y, h1, h2⟩ := h
    rw [show a + 1 + d = (a + d) + 1 by omega]
    exact ⟨y, h1, ih d y h2 g⟩
theorem lq_Rt (h : lq_R f n law s t) (g : lq_R f n law t u) : lq_R f n law s u := by
  obtain ⟨a, ha⟩ := h
  obtain ⟨d, hd⟩ := g
  exact ⟨a + d, lo_goA a d s ha hd⟩
/-- two runs that have ended are one -/
theorem lo_det {v w : Int × Int} : ∀ (a d : Nat) (s : ln_T), lo_go f n law a s t → lo_sp f n law t = .inl v → lo_go f n law d s u → lo_sp f n law u = .inl w → t = u := by
  intro a
  induction a with
  | zero =>
    intro d s h ht g hu
    have h : s = t := h
    cases d with
    | zero => have g : s = u := g; rw [← h, ← g]
    | succ d => obtain ⟨y, g1, _⟩ := g; rw [h, ht] at g1; cases g1
  | succ a ih =>
    intro d s h ht g hu
    obtain ⟨y, h1, h2⟩ := h
    cases d with
    | zero => have g : s = u := g; rw [g, hu] at h1; cases h1
    | succ d =>
      obtain ⟨z, g1, g2⟩ := g
      rw [h1] at g1
      have e : y = z := by injection g1
      subst e
      exact ih d y h2 ht g2 hu
/-- a reading that has no fault: what stands behind it -/
def lq_L (f : Int → Int) (n law : Int) (C : ln_P → List (Int × Int) → Int → Prop) (s : ln_T) (r : Int × Int) : Prop := r.1 = 0 → ∃ (P2 : ln_P) (o2 : List (Int × Int)) (c2 : Int), C P2 o2 c2 ∧ lq_R f n law s (P2, o2, c2, true, r.2)
variable {C C' : ln_P → List (Int × Int) → Int → Prop} {r : Int × Int}
theorem lq_Lw (h : lq_L f n law C s r) (w : ∀ P2 o2 c2, C P2 o2 c2 → C' P2 o2 c2) : lq_L f n law C' s r := fun z => by
  obtain ⟨P2, o2, c2, a, d⟩ := h z
  exact ⟨P2, o2, c2, w _ _ _ a, d⟩
theorem lq_L1 (h : lo_sp f n law s = .inr t) (a : lq_L f n law C t r) : lq_L f n law C s r := fun z => by
  obtain ⟨P2, o2, c2, a1, a2⟩ := a z
  exact ⟨P2, o2, c2, a1, lq_R1 h a2⟩
theorem lq_Lbd {g : Int → Int × Int} (a : lq_L f n law C s r) (k : ∀ P2 o2 c2, C P2 o2 c2 → lq_L f n law C' (P2, o2, c2, true, r.2) (g r.2)) : lq_L f n law C' s (ds_bd r g) := fun z => by
  obtain ⟨z1, z2⟩ := ds_bdZ z
  obtain ⟨P2, o2, c2, a1, a2⟩ := a z1
  obtain ⟨P3, o3, c3, d1, d2⟩ := k P2 o2 c2 a1 z2
  refine ⟨P3, o3, c3, d1, ?_⟩
  rw [ds_bd0 z1]
  exact lq_Rt a2 d2
/-- what must stand when a reading begins: letters are worth e -/
def lq_i (M N L0 : Int → Int) (m : Nat) (P : ln_P) (o : List (Int × Int)) (c : Int) (e : Int → Int) : Prop := rq_P c P ∧ rq_ok M N L0 m o ∧ 0 ≤ c ∧ ∀ x : Int, 0 ≤ x → x < 26 → ln_g P x ≠ -1 → (0 ≤ ln_g P x ∧ ln_g P x < c) ∧ (rv N L0 m o).2.2 (ln_g P x) = e x ∧ cm_sm (e x)
/-- what stands behind it: R, but that signs wait from rank k on -/
def lq_C (M N L0 : Int → Int) (m : Nat) (k : Int) (P : ln_P) (c : Int) (R : rq_R) (P2 : ln_P) (o2 : List (Int × Int)) (c2 : Int) : Prop := ln_st k P2 = ln_st k P ∧ c ≤ c2 ∧ rq_ok M N L0 m o2 ∧ rq_P c2 P2 ∧ rq_E c (rq_fl N k P R) (rq_fl N k P2 (rv N L0 m o2))
abbrev rq_n (v : Int) (R : rq_R) : rq_R := (v :: R.1, R.2)
abbrev rq_t (v : Int) (R : rq_R) : rq_R := (R.1, v :: R.2.1, R.2.2)
theorem rq_nE {v : Int} {S : rq_R} (h : rq_E c R S) : rq_E c (rq_n v R) (rq_n v S) := ⟨by show v :: S.1 = v :: R.1; rw [h.1], h.2⟩
theorem rq_tE {v : Int} {S : rq_R} (h : rq_E c R S) : rq_E c (rq_t v R) (rq_t v S) := ⟨h.1, by show v :: S.2.1 = v :: R.2.1; rw [h.2.1], h.2.2⟩
theorem lq_CC (hjk : j ≤ k) (hP : rq_P c P) (h : lq_C M N L0 m k P c R P2 o2 c2) : lq_C M N L0 m j P c R P2 o2 c2 := by
  obtain ⟨h1, h2, h3, h4, h5⟩ := h
  refine ⟨?_, h2, h3, h4, ?_⟩
  · rw [← ln_stst hjk P2, ← ln_stst hjk P, h1]
  · rw [rq_flfl hjk P, rq_flfl hjk P2, h1]
    exact rq_Efl j _ _ _ (rq_Ps hP) h5
/-- the pile of the machine without output -/
theorem lq_lm (h : ln_st k P2 = ln_st k P) : lm_C k (ln_e P) (ln_e P2) := by
  unfold lm_C
  rw [← ln_eS, ← ln_eS, h]
theorem lq_hg : ∀ {P : ln_P}, rq_P c P → (ln_g P x ≠ -1 ↔ lm_g (ln_e P) x ≠ -1) := by
  intro P
  induction P with
  | nil => intro _; exact Iff.rfl
  | cons y P ih =>
    intro h
    have i := ih (rq_Pt h)
    show (if y.1 = 45 then ds_u1 (ln_g P) y.2.1 y.2.2 else ln_g P) x ≠ -1 ↔ (if y.1 = 45 then ds_u1 (lm_g (ln_e P)) y.2.1 (ds_sl (1 + lm_dp (ln_e P))) else lm_g (ln_e P)) x ≠ -1
    by_cases q : y.1 = 45
    · rw [if_pos q, if_pos q]
      unfold ds_u1
      by_cases w : x = y.2.1
      · rw [if_pos w, if_pos w]
        have := (h y List.mem_cons_self).2 q
        have s0 : 0 ≤ ds_sl (1 + lm_dp (ln_e P)) := by unfold ds_sl; omega
        exact ⟨fun _ => by omega, fun _ => by omega⟩
      · rw [if_neg w, if_neg w]; exact i
    · rw [if_neg q, if_neg q]; exact i
/-- written, nothing waits from rank 7 on -/
theorem lq_fin (hQ : rq_P c2 Q) (h : rq_ok M N L0 m o5) (hc : c ≤ c2) (hE : rq_E c R5 (rv N L0 m o5)) : lq_C M N L0 m 7 Q c R5 (ln_st 7 Q) (ln_so 7 Q o5) c2 := by
  obtain ⟨a1, a2⟩ := rv_so (k := 7) (by decide) Q o5 hQ h
  refine ⟨ln_stst (Int.le_refl 7) Q, hc, a1, rq_Ps hQ, ?_⟩
  rw [rq_fl0 (ln_stst (Int.le_refl 7) Q), a2]
  exact rq_Efl 7 _ _ _ hQ hE
/-- a sign x has been put down; then a reading -/
theorem lq_op {F : rq_R → rq_R} {S : rq_R} (hkj : k ≤ j) (hx : k ≤ lm_rk x) (hxo : 3 ≤ x ∧ x ≠ 30 ∧ x ≠ 31) (hx45 : x ≠ 45) (hP : rq_P c P) (hc : c ≤ c2) (hF : rq_E c (F R1) (F S)) (h3 : lq_C M N L0 m j ((x, 0, 0) :: P) c2 (F S) P3 o3 c3) (hR : R = rq_st N (x, 0) (F R1)) : lq_C M N L0 m k P c R P3 o3 c3 := by
  obtain ⟨h1, h2, h4, h5, h6⟩ := h3
  have hP' : rq_P c2 ((x, 0, 0) :: P) := rq_Pc (rq_Pw hP hc) hxo (fun q => absurd q hx45)
  have top : ∀ S : rq_R, rq_fl N k ((x, 0, 0) :: P) S = rq_fl N k P (rq_st N (x, 0) S) := fun S => if_pos hx
  refine ⟨?_, by omega, h4, h5, ?_⟩
  · rw [← ln_stst hkj P3, h1, ln_stst hkj]
    exact if_pos hx
  · have a := rq_Ew (rq_Efl (N := N) k _ _ _ (rq_Ps (k := j) hP') h6) hc
    rw [← h1, ← rq_flfl hkj, h1, ← rq_flfl hkj, top] at a
    rw [hR]
    exact rq_Et (rq_Efl k _ _ _ hP (rq_Est hF hxo)) a
/-- what waits is written ahead of a sign of rank k -/
theorem lq_so (hk : 1 ≤ k) (hP : ln_st k P = P) (h : lq_C M N L0 m k P c R P2 o2 c2) : ln_st k P2 = P ∧ rq_ok M N L0 m (ln_so k P2 o2) ∧ rq_E c R (rv N L0 m (ln_so k P2 o2)) := by
  obtain ⟨h1, h2, h3, h4, h5⟩ := h
  obtain ⟨a1, a2⟩ := rv_so (M := M) (N := N) (L0 := L0) (m := m) hk P2 o2 h4 h3
  rw [rq_fl0 hP] at h5
  exact ⟨h1.trans hP, a1, by rw [a2]; exact h5⟩
theorem lq_iw {P' : ln_P} {o' : List (Int × Int)} (h : lq_i M N L0 m P o c e) (hc : c ≤ c2) (h1 : rq_ok M N L0 m o') (h2 : rq_P c2 P') (h3 : ln_g P' = ln_g P) (h4 : ∀ i : Int, i < c → (rv N L0 m o').2.2 i = (rv N L0 m o).2.2 i) : lq_i M N L0 m P' o' c2 e := by
  obtain ⟨a1, a2, a3, a4⟩ := h
  refine ⟨h2, h1, by omega, fun x x0 x1 hx => ?_⟩
  rw [h3] at hx ⊢
  obtain ⟨b1, b2, b3⟩ := a4 x x0 x1 hx
  exact ⟨⟨b1.1, by omega⟩, (h4 _ b1.2).trans b2, b3⟩
/-- a loop over what binds -/
theorem lq_lp {ok : Int → Bool} {G : Int → Int × Int} {VG : Int → Int} {D : Int → ln_P → List (Int × Int) → Int → Prop}
    (hO : ∀ (v : Int) (P2 : ln_P) (o2 : List (Int × Int)) (c2 b : Int), D v P2 o2 c2 → ok (lx_T f n b) = true → lq_L f n law (D (cm_2 (lx_T f n b) v (VG (ds_ad f n b)))) (P2, o2, c2, true, b) (G (ds_ad f n b))) :
    ∀ (K : Nat) (b v : Int) (P2 : ln_P) (o2 : List (Int × Int)) (c2 : Int), D v P2 o2 c2 → lq_L f n law (D (dv_lp f n ok G VG cm_2 K b v)) (P2, o2, c2, true, b) (ds_lp f n ok G K b) := by
  intro K
  induction K with
  | zero => intro b v P2 o2 c2 h _; exact ⟨P2, o2, c2, h, lq_Rr⟩
  | succ K ih =>
    intro b v P2 o2 c2 h
    show lq_L f n law (D (if ok (lx_T f n b) = true then dv_lp f n ok G VG cm_2 K (G (ds_ad f n b)).2 (cm_2 (lx_T f n b) v (VG (ds_ad f n b))) else v)) (P2, o2, c2, true, b) (if ok (lx_T f n b) = true then ds_bd (G (ds_ad f n b)) (ds_lp f n ok G K) else (0, b))
    by_cases q : ok (lx_T f n b) = true
    · rw [if_pos q, if_pos q]
      exact lq_Lbd (hO v P2 o2 c2 b h q) (fun P3 o3 c3 h3 => ih _ _ P3 o3 c3 h3)
    · rw [if_neg q, if_neg q]
      exact fun _ => ⟨P2, o2, c2, h, lq_Rr⟩
/-- behind one, a sign between two -/
theorem lq_bt {t : Int} (h : lm_bt (lx_T f n b) (ln_e P2) = t) (h0 : 0 ≤ t) : lo_sp f n law (P2, o2, c2, true, b) = .inr ((t, 0, 0) :: ln_st (lm_rk t) P2, ln_so (lm_rk t) P2 o2, c2, false, ds_ad f n b) := by
  show lo_bh f n P2 o2 c2 b = _
  unfold lo_bh
  rw [h, if_pos h0]
abbrev lq_M1 (f : Int → Int) (n law : Int) (M N L0 : Int → Int) (m : Nat) (O : ds_D) (V : dv_D) : Prop := ∀ (P : ln_P) (o : List (Int × Int)) (c b : Int) (e : Int → Int), lq_i M N L0 m P o c e → (lx_T f n b ≠ 44 ∨ lm_ah (ln_e P) = false) → lq_L f n law (lq_C M N L0 m 7 P c (rq_n (V (lm_dp (ln_e P)) (lm_g (ln_e P)) e b) (rv N L0 m o))) (P, o, c, false, b) (O (lm_dp (ln_e P)) (lm_g (ln_e P)) b)
abbrev lq_M2 (f : Int → Int) (n law : Int) (M N L0 : Int → Int) (m : Nat) (O : ds_D) (V : dv_D) : Prop := ∀ (P : ln_P) (o : List (Int × Int)) (c b : Int) (e : Int → Int), lq_i M N L0 m P o c e → ln_st 6 P = P → (lx_T f n b ≠ 44 ∨ lm_ah (ln_e P) = false) → lq_L f n law (lq_C M N L0 m 6 P c (rq_n (V (lm_dp (ln_e P)) (lm_g (ln_e P)) e b) (rv N L0 m o))) (P, o, c, false, b) (O (lm_dp (ln_e P)) (lm_g (ln_e P)) b)
abbrev lq_M3 (f : Int → Int) (n law : Int) (M N L0 : Int → Int) (m : Nat) (O : ds_D) (V : dv_D) : Prop := ∀ (P : ln_P) (o : List (Int × Int)) (c b : Int) (e : Int → Int), lq_i M N L0 m P o c e → ln_st 5 P = P → (lx_T f n b ≠ 44 ∨ lm_ah (ln_e P) = false) → lq_L f n law (lq_C M N L0 m 5 P c (rq_n (V (lm_dp (ln_e P)) (lm_g (ln_e P)) e b) (rv N L0 m o))) (P, o, c, false, b) (O (lm_dp (ln_e P)) (lm_g (ln_e P)) b)
theorem lq_sgd {x v w : Int} (h : ¬ 40 ≤ x) (h3 : x ≠ 3) (h20 : x ≠ 20) : lm_dp (ln_e ((x, v, w) :: P)) = lm_dp (ln_e P) ∧ lm_g (ln_e ((x, v, w) :: P)) = lm_g (ln_e P) ∧ lm_op (ln_e ((x, v, w) :: P)) = lm_op (ln_e P) ∧ ln_g ((x, v, w) :: P) = ln_g P := by
  obtain ⟨a1, a2, a3⟩ := lm_sgd (P := ln_e P) (v := v) h h3 h20
  exact ⟨a1, a2, a3, if_neg (show ¬ x = 45 by omega)⟩
theorem rq_ar {t v w : Int} (h : 10 ≤ t ∧ t ≤ 13) : rq_n (cm_2 t v w) R = rq_st N (t - 6, 0) (rq_n w (rq_n v R)) := by
  unfold rq_st cm_2
  dsimp only
  rw [if_neg (show ¬ t - 6 = 0 by omega), if_neg (show ¬ t - 6 = 1 by omega), if_neg (show ¬ (t - 6 ≤ 1 ∨ t - 6 = 31) by omega), if_neg (show ¬ t - 6 = 2 by omega), if_neg (show ¬ t - 6 = 30 by omega), if_neg (show ¬ t - 6 = 3 by omega), if_pos (show t - 6 < 10 by omega), if_neg (show ¬ t = 45 by omega), if_neg (show ¬ t = 46 by omega), if_pos h.1, show t - 6 + 6 = t by omega]
  rfl
theorem rq_cmp {t v w : Int} (h : 4 ≤ t ∧ t ≤ 9) : rq_t (lf_b (cm_cp t v w)) R = rq_st N (6 + t, 0) (rq_n w (rq_n v R)) := by
  unfold rq_st
  dsimp only
  rw [if_neg (show ¬ 6 + t = 0 by omega), if_neg (show ¬ 6 + t = 1 by omega), if_neg (show ¬ (6 + t ≤ 1 ∨ 6 + t = 31) by omega), if_neg (show ¬ 6 + t = 2 by omega), if_neg (show ¬ 6 + t = 30 by omega), if_neg (show ¬ 6 + t = 3 by omega), if_neg (show ¬ 6 + t < 10 by omega), if_pos (show 6 + t < 20 by omega), show 6 + t - 6 = t by omega]
  rfl
theorem rq_bo {x t v w : Int} (h : x = 21 ∧ t = 45 ∨ x = 22 ∧ t = 46) : rq_t (cm_2 t v w) R = rq_st N (x, 0) (rq_t w (rq_t v R)) := by
  rcases h with ⟨h, g⟩ | ⟨h, g⟩ <;> subst h <;> subst g <;> rfl
/-- a loop of numbers at rank k -/
theorem lq_num {O : ds_D} {V : dv_D} {ok : Int → Bool} {K : Nat} (hk : 1 ≤ k) (hkj : k ≤ j) (hok : ∀ t : Int, ok t = true → (10 ≤ t ∧ t ≤ 13) ∧ lm_rk (t - 6) = k) (hi : lq_i M N L0 m P o c e) (hP : ln_st k P = P)
    (h1 : lq_L f n law (lq_C M N L0 m j P c (rq_n (V (lm_dp (ln_e P)) (lm_g (ln_e P)) e b) (rv N L0 m o))) (P, o, c, false, b) (O (lm_dp (ln_e P)) (lm_g (ln_e P)) b))
    (h2 : ∀ (x : Int) (o' : List (Int × Int)) (c2 b : Int), lm_rk x = k → 4 ≤ x → x ≤ 7 → lq_i M N L0 m ((x, 0, 0) :: P) o' c2 e → lq_L f n law (lq_C M N L0 m j ((x, 0, 0) :: P) c2 (rq_n (V (lm_dp (ln_e P)) (lm_g (ln_e P)) e b) (rv N L0 m o'))) ((x, 0, 0) :: P, o', c2, false, b) (O (lm_dp (ln_e P)) (lm_g (ln_e P)) b)) :
    lq_L f n law (lq_C M N L0 m k P c (rq_n (dv_lp f n ok (O (lm_dp (ln_e P)) (lm_g (ln_e P))) (V (lm_dp (ln_e P)) (lm_g (ln_e P)) e) cm_2 K (O (lm_dp (ln_e P)) (lm_g (ln_e P)) b).2 (V (lm_dp (ln_e P)) (lm_g (ln_e P)) e b)) (rv N L0 m o))) (P, o, c, false, b) (ds_bd (O (lm_dp (ln_e P)) (lm_g (ln_e P)) b) (ds_lp f n ok (O (lm_dp (ln_e P)) (lm_g (ln_e P))) K)) := by
  refine lq_Lbd (lq_Lw h1 (fun P2 o2 c2 a => lq_CC hkj hi.1 a)) (fun P2 o2 c2 hC => lq_lp (D := fun v => lq_C M N L0 m k P c (rq_n v (rv N L0 m o))) (fun v P2 o2 c2 b' hD ht => ?_) K _ _ P2 o2 c2 hC)
  obtain ⟨t1, t2⟩ := hok _ ht
  obtain ⟨s1, s2, s3⟩ := lq_so hk hP hD
  have hbt : lm_bt (lx_T f n b') (ln_e P2) = lx_T f n b' - 6 := by
    unfold lm_bt
    rcases (show lx_T f n b' = 10 ∨ lx_T f n b' = 11 ∨ lx_T f n b' = 12 ∨ lx_T f n b' = 13 by omega) with q | q | q | q <;> rw [q] <;> rfl
  refine lq_L1 (lq_bt hbt (by omega)) ?_
  rw [t2, s1]
  obtain ⟨d1, d2, d3, d4⟩ := lq_sgd (P := P) (x := lx_T f n b' - 6) (v := 0) (w := 0) (by omega) (by omega) (by omega)
  have inner := h2 (lx_T f n b' - 6) (ln_so k P2 o2) c2 (ds_ad f n b') t2 (by omega) (by omega) (lq_iw hi hD.2.1 s2 (rq_Pc (rq_Pw hi.1 hD.2.1) (by dsimp only; omega) (fun q => by dsimp only at q; omega)) d4 (fun i hi => s3.2.2 i hi))
  exact lq_Lw inner (fun P3 o3 c3 h3 => lq_op (F := rq_n (V (lm_dp (ln_e P)) (lm_g (ln_e P)) e (ds_ad f n b'))) hkj (by omega) (by omega) (by omega) hi.1 hD.2.1 (rq_nE s3) h3 (rq_ar t1))
theorem lq_p2 {O : ds_D} {V : dv_D} (h1 : lq_M1 f n law M N L0 m O V) : lq_M2 f n law M N L0 m (fun d g b => ds_bd (O d g b) (ds_lp f n ds_td (O d g) 300)) (fun d g e b => dv_lp f n ds_td (O d g) (V d g e) cm_2 300 (O d g b).2 (V d g e b)) := fun P o c b e hi hP hs => by
  refine lq_num (k := 6) (j := 7) (by decide) (by decide) (fun t ht => ?_) hi hP (h1 P o c b e hi hs) (fun x o' c2 b hx h4 h7 hi' => ?_)
  · rcases lm_tdc ht with h | h <;> subst h <;> decide
  · obtain ⟨d1, d2, _⟩ := lq_sgd (P := P) (x := x) (v := 0) (w := 0) (by omega) (by omega) (by omega)
    have a := h1 ((x, 0, 0) :: P) o' c2 b e hi' (Or.inr (lm_ahs (Or.inr (by show 4 ≤ lm_rk x; omega))))
    rw [d1, d2] at a
    exact a
theorem lq_p3 {O : ds_D} {V : dv_D} (h1 : lq_M2 f n law M N L0 m O V) : lq_M3 f n law M N L0 m (fun d g b => ds_bd (O d g b) (ds_lp f n ds_pm (O d g) 300)) (fun d g e b => dv_lp f n ds_pm (O d g) (V d g e) cm_2 300 (O d g b).2 (V d g e b)) := fun P o c b e hi hP hs => by
  refine lq_num (k := 5) (j := 6) (by decide) (by decide) (fun t ht => ?_) hi hP (h1 P o c b e hi (ln_stj (k := 5) (by decide) hP) hs) (fun x o' c2 b hx h4 h7 hi' => ?_)
  · rcases lm_pmc ht with h | h <;> subst h <;> decide
  · obtain ⟨d1, d2, _⟩ := lq_sgd (P := P) (x := x) (v := 0) (w := 0) (by omega) (by omega) (by omega)
    have a := h1 ((x, 0, 0) :: P) o' c2 b e hi' (if_neg (by dsimp only; omega)) (Or.inr (lm_ahs (Or.inr (by show 4 ≤ lm_rk x; omega))))
    rw [d1, d2] at a
    exact a
/-! asks -/
def lq_A (M N L0 : Int → Int) (m : Nat) (k : Int) (P : ln_P) (c : Int) (R : rq_R) (P2 : ln_P) (o2 : List (Int × Int)) (c2 : Int) : Prop := lq_C M N L0 m k P c R P2 o2 c2 ∧ lm_cp (ln_e P2) = true
abbrev lq_M4 (f : Int → Int) (n law : Int) (M N L0 : Int → Int) (m : Nat) (O : ds_D) (V : dv_D) : Prop := ∀ (P : ln_P) (o : List (Int × Int)) (c b : Int) (e : Int → Int), lq_i M N L0 m P o c e → lm_ah (ln_e P) = true → lq_L f n law (lq_A M N L0 m 3 P c (rq_t (V (lm_dp (ln_e P)) (lm_g (ln_e P)) e b) (rv N L0 m o))) (P, o, c, false, b) (O (lm_dp (ln_e P)) (lm_g (ln_e P)) b)
abbrev lq_M5 (f : Int → Int) (n law : Int) (M N L0 : Int → Int) (m : Nat) (O : ds_D) (V : dv_D) : Prop := ∀ (P : ln_P) (o : List (Int × Int)) (c b : Int) (e : Int → Int), lq_i M N L0 m P o c e → ln_st 2 P = P → lm_op (ln_e P) = 41 → lq_L f n law (lq_A M N L0 m 2 P c (rq_t (V (lm_dp (ln_e P)) (lm_g (ln_e P)) e b) (rv N L0 m o))) (P, o, c, false, b) (O (lm_dp (ln_e P)) (lm_g (ln_e P)) b)
abbrev lq_M6 (f : Int → Int) (n law : Int) (M N L0 : Int → Int) (m : Nat) (O : ds_D) (V : dv_D) : Prop := ∀ (P : ln_P) (o : List (Int × Int)) (c b : Int) (e : Int → Int), lq_i M N L0 m P o c e → ln_st 1 P = P → lm_op (ln_e P) = 41 → lq_L f n law (lq_A M N L0 m 1 P c (rq_t (V (lm_dp (ln_e P)) (lm_g (ln_e P)) e b) (rv N L0 m o))) (P, o, c, false, b) (O (lm_dp (ln_e P)) (lm_g (ln_e P)) b)
theorem lq_stE (h : ln_st k P = P) : lm_st k (ln_e P) = ln_e P := by rw [← ln_eS, h]
/-- a loop of truths at rank k -/
theorem lq_tru {O : ds_D} {V : dv_D} {w : Int} {K : Nat} (hk : 1 ≤ k) (hkj : k ≤ j) (hw : x = 21 ∧ w = 45 ∨ x = 22 ∧ w = 46) (hx : lm_rk x = k) (hi : lq_i M N L0 m P o c e) (hP : ln_st k P = P) (ho : lm_op (ln_e P) = 41)
    (h1 : lq_L f n law (lq_A M N L0 m j P c (rq_t (V (lm_dp (ln_e P)) (lm_g (ln_e P)) e b) (rv N L0 m o))) (P, o, c, false, b) (O (lm_dp (ln_e P)) (lm_g (ln_e P)) b))
    (h2 : ∀ (o' : List (Int × Int)) (c2 b : Int), lq_i M N L0 m ((x, 0, 0) :: P) o' c2 e → lq_L f n law (lq_A M N L0 m j ((x, 0, 0) :: P) c2 (rq_t (V (lm_dp (ln_e P)) (lm_g (ln_e P)) e b) (rv N L0 m o'))) ((x, 0, 0) :: P, o', c2, false, b) (O (lm_dp (ln_e P)) (lm_g (ln_e P)) b)) :
    lq_L f n law (lq_A M N L0 m k P c (rq_t (dv_lp f n (ds_is w) (O (lm_dp (ln_e P)) (lm_g (ln_e P))) (V (lm_dp (ln_e P)) (lm_g (ln_e P)) e) cm_2 K (O (lm_dp (ln_e P)) (lm_g (ln_e P)) b).2 (V (lm_dp (ln_e P)) (lm_g (ln_e P)) e b)) (rv N L0 m o))) (P, o, c, false, b) (ds_bd (O (lm_dp (ln_e P)) (lm_g (ln_e P)) b) (ds_lp f n (ds_is w) (O (lm_dp (ln_e P)) (lm_g (ln_e P))) K)) := by
  refine lq_Lbd (lq_Lw h1 (fun P2 o2 c2 a => (⟨lq_CC hkj hi.1 a.1, a.2⟩ : lq_A M N L0 m k P c _ P2 o2 c2))) (fun P2 o2 c2 hC => lq_lp (D := fun v => lq_A M N L0 m k P c (rq_t v (rv N L0 m o))) (fun v P2 o2 c2 b' hD ht => ?_) K _ _ P2 o2 c2 hC)
  have t1 := lm_isc ht
  obtain ⟨hD, hcp⟩ := hD
  obtain ⟨s1, s2, s3⟩ := lq_so hk hP hD
  have op2 : lm_op (ln_e P2) = 41 := (lm_Cop hk (lq_lm hD.1)).trans ho
  have hbt : lm_bt (lx_T f n b') (ln_e P2) = x := by
    rw [t1]
    unfold lm_bt
    rcases hw with ⟨q1, q2⟩ | ⟨q1, q2⟩ <;> subst q1 <;> subst q2 <;> rw [op2, hcp] <;> rfl
  refine lq_L1 (lq_bt hbt (by omega)) ?_
  rw [hx, s1]
  obtain ⟨d1, d2, d3, d4⟩ := lq_sgd (P := P) (x := x) (v := 0) (w := 0) (by omega) (by omega) (by omega)
  have inner := h2 (ln_so k P2 o2) c2 (ds_ad f n b') (lq_iw hi hD.2.1 s2 (rq_Pc (rq_Pw hi.1 hD.2.1) (by dsimp only; omega) (fun q => by dsimp only at q; omega)) d4 (fun i hi => s3.2.2 i hi))
  rw [t1]
  exact lq_Lw inner (fun P3 o3 c3 h3 => ⟨lq_op (F := rq_t (V (lm_dp (ln_e P)) (lm_g (ln_e P)) e (ds_ad f n b'))) hkj (by omega) (by omega) (by omega) hi.1 hD.2.1 (rq_tE s3) h3.1 (rq_bo hw), h3.2⟩)
theorem lq_p5 {O : ds_D} {V : dv_D} (h1 : lq_M4 f n law M N L0 m O V) : lq_M5 f n law M N L0 m (fun d g b => ds_bd (O d g b) (ds_lp f n (ds_is 45) (O d g) 300)) (fun d g e b => dv_lp f n (ds_is 45) (O d g) (V d g e) cm_2 300 (O d g b).2 (V d g e b)) := fun P o c b e hi hP ho => by
  refine lq_tru (k := 2) (j := 3) (x := 21) (by decide) (by decide) (Or.inl ⟨rfl, rfl⟩) (by decide) hi hP ho (h1 P o c b e hi (lm_ahm (k := 2) (by decide) (lq_stE hP) ho)) (fun o' c2 b hi' => ?_)
  obtain ⟨d1, d2, d3, _⟩ := lq_sgd (P := P) (x := 21) (v := 0) (w := 0) (by decide) (by decide) (by decide)
  have a := h1 ((21, 0, 0) :: P) o' c2 b e hi' (lm_ahm (k := 3) (by decide) (lq_stE (if_neg (by decide))) (d3.trans ho))
  rw [d1, d2] at a
  exact a
theorem lq_p6 {O : ds_D} {V : dv_D} (h1 : lq_M5 f n law M N L0 m O V) : lq_M6 f n law M N L0 m (fun d g b => ds_bd (O d g b) (ds_lp f n (ds_is 46) (O d g) 300)) (fun d g e b => dv_lp f n (ds_is 46) (O d g) (V d g e) cm_2 300 (O d g b).2 (V d g e b)) := fun P o c b e hi hP ho => by
  refine lq_tru (k := 1) (j := 2) (x := 22) (by decide) (by decide) (Or.inr ⟨rfl, rfl⟩) (by decide) hi hP ho (h1 P o c b e hi (ln_stj (k := 1) (by decide) hP) ho) (fun o' c2 b hi' => ?_)
  obtain ⟨d1, d2, d3, _⟩ := lq_sgd (P := P) (x := 22) (v := 0) (w := 0) (by decide) (by decide) (by decide)
  have a := h1 ((22, 0, 0) :: P) o' c2 b e hi' (if_neg (by decide)) (d3.trans ho)
  rw [d1, d2] at a
  exact a
theorem lq_en {K : Int → (Int × Int) ⊕ ln_T} {g : Int → Int × Int} (hs : lo_sp f n law (P, o, c, false, b) = lo_pu f n P b K) (hk : lm_dp (ln_e P) < 8 → lo_sp f n law (P, o, c, false, b) = K (ds_ad f n b) → lq_L f n law C (P, o, c, false, b) (g (ds_ad f n b))) : lq_L f n law C (P, o, c, false, b) (ds_en f n (lm_dp (ln_e P)) g b) := by
  unfold ds_en
  unfold lo_pu at hs
  by_cases q : lm_dp (ln_e P) < 8
  · rw [if_pos q] at hs ⊢; exact hk q hs
  · rw [if_neg q]; exact fun z => absurd z (show (3 : Int) ≠ 0 by decide)
theorem lq_ahst (h : lm_ah (ln_e P) = true) : ln_st 4 P = P := by
  obtain ⟨_, q⟩ := lm_ahtp h
  cases P with
  | nil => rfl
  | cons e P =>
    have : lm_rk e.1 ≤ 3 := by
      rcases q with q | q
      · have : e.1 = 41 := q
        rw [this]; decide
      · exact q.2
    exact if_neg (by omega)
theorem lq_ex {w : Int} {g : Int → Int × Int} (h : lx_T f n b = w → lq_L f n law C s (g (ds_ad f n b))) : lq_L f n law C s (ds_bd (ds_ex f n w b) g) := fun z => by
  obtain ⟨z1, z2⟩ := ds_bdZ z
  obtain ⟨a1, a2⟩ := ds_exZ z1
  rw [ds_bd0 z1, a2] at z ⊢
  exact h a1 z
theorem lq_p4 {S A : ds_D} {VS VA : dv_D} (hS : lq_M3 f n law M N L0 m S VS) (hA : lq_M4 f n law M N L0 m A VA) : lq_M4 f n law M N L0 m (ds_ask f n S A) (dv_ask f n S VS VA) := by
  intro P o c b e hi ha
  obtain ⟨ho, _⟩ := lm_ahtp ha
  have h4 := lq_ahst ha
  unfold ds_ask dv_ask
  by_cases q : lx_T f n b = 44
  · rw [if_pos q, if_pos q]
    have hs : lo_sp f n law (P, o, c, false, b) = lo_pu f n P b (fun q => .inr ((20, 0, 0) :: P, o, c, false, q)) := by
      show lo_be f n law P o c b = _
      unfold lo_be
      rw [if_neg (by omega), if_neg (by omega), if_neg (by omega), if_neg (by omega), if_neg (by omega), if_neg (by omega), if_pos ⟨q, ha⟩]
    refine lq_en hs (fun _ st => lq_L1 st ?_)
    have hi' : lq_i M N L0 m ((20, 0, 0) :: P) o c e := lq_iw hi (Int.le_refl c) hi.2.1 (rq_Pc hi.1 (by decide) (fun q => by cases q)) (if_neg (by decide)) (fun _ _ => rfl)
    have a := hA ((20, 0, 0) :: P) o c (ds_ad f n b) e hi' (lm_ahm (k := 4) (by decide) (lq_stE (P := (20, 0, 0) :: P) (if_neg (by decide))) ((if_neg (by decide)).trans ho))
    rw [show lm_dp (ln_e ((20, 0, 0) :: P)) = lm_dp (ln_e P) + 1 from lm_opn (by decide), show lm_g (ln_e ((20, 0, 0) :: P)) = lm_g (ln_e P) from if_neg (by decide)] at a
    exact lq_Lw a (fun P3 o3 c3 h3 => ⟨lq_op (F := rq_t (VA (lm_dp (ln_e P) + 1) (lm_g (ln_e P)) e (ds_ad f n b))) (R1 := rv N L0 m o) (Int.le_refl 3) (by decide) (by decide) (by decide) hi.1 (Int.le_refl c) rq_Er h3.1 rfl, h3.2⟩)
  · rw [if_neg q, if_neg q, ds_bdA]
    refine lq_Lbd (hS P o c b e hi (ln_stj (k := 4) (by decide) h4) (Or.inl q)) (fun P2 o2 c2 hC => ?_)
    generalize hb2 : (S (lm_dp (ln_e P)) (lm_g (ln_e P)) b).2 = b2
    have hC4 := lq_CC (j := 4) (by decide) hi.1 hC
    obtain ⟨s1, s2, s3⟩ := lq_so (by decide) h4 hC4
    have o2' : lm_op (ln_e P2) = 41 := (lm_Cop (by decide) (lq_lm hC.1)).trans ho
    have q2 : lm_cp (ln_e P2) = false := (lm_Ccp (by decide) (lq_lm hC.1)).trans (lm_ahcp ha)
    by_cases ct : 4 ≤ lx_T f n b2 ∧ lx_T f n b2 ≤ 9
    · rw [if_pos ct, ds_bd0 (r := ((0 : Int), ds_ad f n b2)) rfl]
      have hbt : lm_bt (lx_T f n b2) (ln_e P2) = 6 + lx_T f n b2 := by
        unfold lm_bt
        rw [if_neg (by omega), if_neg (by omega), if_neg (by omega), if_neg (by omega), if_neg (by rw [o2']; decide), if_pos q2, if_pos ct]
      have rk4 : lm_rk (6 + lx_T f n b2) = 4 := by
        unfold lm_rk
        rw [if_neg (by omega), if_neg (by omega), if_neg (by omega), if_neg (by omega), if_pos (by omega)]
      refine lq_L1 (lq_bt hbt (by omega)) ?_
      rw [rk4, s1]
      obtain ⟨d1, d2, _, d4⟩ := lq_sgd (P := P) (x := 6 + lx_T f n b2) (v := 0) (w := 0) (by omega) (by omega) (by omega)
      have hi' : lq_i M N L0 m ((6 + lx_T f n b2, 0, 0) :: P) (ln_so 4 P2 o2) c2 e := lq_iw hi hC.2.1 s2 (rq_Pc (rq_Pw hi.1 hC.2.1) (by dsimp only; omega) (fun q => by dsimp only at q; omega)) d4 (fun i hi => s3.2.2 i hi)
      have a := hS ((6 + lx_T f n b2, 0, 0) :: P) (ln_so 4 P2 o2) c2 (ds_ad f n b2) e hi' (if_neg (by dsimp only; omega)) (Or.inr (lm_ahs (Or.inr (by show 4 ≤ lm_rk (6 + lx_T f n b2); omega))))
      rw [d1, d2] at a
      refine lq_Lw a (fun P3 o3 c3 h3 => ⟨lq_op (F := rq_n (VS (lm_dp (ln_e P)) (lm_g (ln_e P)) e (ds_ad f n b2))) (by decide) (by omega) (by omega) (by omega) hi.1 hC.2.1 (rq_nE s3) h3 (rq_cmp ct), (lm_Ccp (by decide) (lq_lm h3.1)).trans ?_⟩)
      show (if 4 < lm_rk (6 + lx_T f n b2) then lm_cp (ln_e P) else decide (lm_rk (6 + lx_T f n b2) = 4)) = true
      rw [rk4]; rfl
    · rw [if_neg ct, ds_bdF (r := ((1 : Int), b2)) (show (1 : Int) ≠ 0 by decide)]
      exact fun z => absurd z (show (1 : Int) ≠ 0 by decide)
end LQ
