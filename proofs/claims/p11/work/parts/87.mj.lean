/-! minutes of the reference; the harm in all; both calls -/
section MJ
variable {J K : Nat → Int → Int} {s t u : lf_Z} {f g T A B : Int → Int} {X : mn_X} {I : Nat → Int → Int} {a b p x j : Int} {H : List rr_H}
theorem mi_rS : ∀ (m : Nat) (z : mi_T), mi_r J X (m + 1) z = (mn_min J X (mi_r J X m z).1, rr_K (J 1 2, J 1 1, (mi_r J X m z).1) (mi_r J X m z).2) := by
  intro m
  induction m with
  | zero => intro z; rfl
  | succ m ih => intro z; exact ih (mn_min J X z.1, rr_K (J 1 2, J 1 1, z.1) z.2)
/-- the reference: row (steps, stand) and the laws' scratch alone -/
def mr_f (s t : lf_Z) : Prop := (∀ c : Nat, c ≠ 96 → c ≠ 104 → c ≠ 107 → c ≠ 108 → t.1 c = s.1 c) ∧ (∀ i : Int, ¬ rm_p i → i ≠ 9 → i < 278 → t.1 96 i = s.1 96 i) ∧ t.2.2 = s.2.2
theorem mr_fr : mr_f s s := ⟨fun _ _ _ _ _ => rfl, fun _ _ _ _ => rfl, rfl⟩
theorem mr_ft (h : mr_f s t) (g : mr_f t u) : mr_f s u := ⟨fun c a b d e => (g.1 c a b d e).trans (h.1 c a b d e), fun i p q r => (g.2.1 i p q r).trans (h.2.1 i p q r), g.2.2.trans h.2.2⟩
theorem mr_m (h : rm_f s t) : mr_f s t := ⟨h.1, fun i p _ _ => h.2.1 i p, h.2.2⟩
theorem mr_k (h : rr_f s t) (e : ∀ i : Int, i ≠ 9 → i < 278 → t.1 96 i = s.1 96 i) : mr_f s t := ⟨fun c a _ _ _ => h.1 c a, fun i _ q r => e i q r, by rw [h.2]⟩
theorem mr_L (hL : rr_L J (s.1 96)) (hW : mn_W J) (h : mr_f s t) : rr_L J (t.1 96) := by
  obtain ⟨w0, w1, w2, _⟩ := hW
  obtain ⟨l0, l1, l2, l3, l4, l5⟩ := hL
  have g : ∀ j : Int, ¬ rm_p j → j ≠ 9 → j < 278 → t.1 96 j = s.1 96 j := h.2.1
  refine ⟨(g 0 (by unfold rm_p; omega) (by omega) (by omega)).trans l0, (g 1 (by unfold rm_p; omega) (by omega) (by omega)).trans l1, (g 2 (by unfold rm_p; omega) (by omega) (by omega)).trans l2, fun q q0 q1 => ?_, fun w x0 x1 => ?_, fun q q0 q1 => ?_⟩
  · rw [g (14 + 3 * q) (by unfold rm_p; omega) (by omega) (by omega), g (14 + 3 * q + 1) (by unfold rm_p; omega) (by omega) (by omega)]; exact l3 q q0 q1
  · rw [g (50 + 4 * w) (by unfold rm_p; omega) (by omega) (by omega), g (50 + 4 * w + 1) (by unfold rm_p; omega) (by omega) (by omega), g (50 + 4 * w + 2) (by unfold rm_p; omega) (by omega) (by omega)]; exact l4 w x0 x1
  · rw [g (126 + 6 * q + 0) (by unfold rm_p; omega) (by omega) (by omega), g (126 + 6 * q + 1) (by unfold rm_p; omega) (by omega) (by omega), g (126 + 6 * q + 2) (by unfold rm_p; omega) (by omega) (by omega), g (126 + 6 * q + 5) (by unfold rm_p; omega) (by omega) (by omega)]; exact l5 q q0 q1
theorem rm_0m (h : rm_0 T s) (g : mr_f s t) : rm_0 T t := by
  unfold rm_0 at h ⊢
  rw [g.1 98 (by decide) (by decide) (by decide) (by decide), g.1 95 (by decide) (by decide) (by decide) (by decide)]
  exact h
theorem xr_Xm (hX : xr_X X T (s.1 96 8)) (g : mr_f s t) : xr_X X T (t.1 96 8) := by
  rw [g.2.1 8 (by unfold rm_p; omega) (by omega) (by omega)]; exact hX
/-- the steps of the reference -/
def rh_H (A : Int → Int) (H : List rr_H) : Prop := A 9 = H.length ∧ rr_hs A H
theorem rh_Hm (hh : mi_H J H) (hW : mn_W J) (h : rh_H (s.1 96) H) (g : rm_f s t) : rh_H (t.1 96) H := by
  have w1 := hW.2.1
  refine ⟨(g.2.1 9 (by unfold rm_p; omega)).trans h.1, rr_hsC H (fun x hx => ?_) (fun i i0 _ => g.2.1 i (by unfold rm_p; omega)) h.2⟩
  have := (hh.2 x hx).2.1
  omega
theorem mi_w (hW : mn_W J) (hh : mi_H J H) : rr_w H := fun x hx => by
  have w1 := hW.2.1
  have := (hh.2 x hx).2.1
  omega
theorem fl_259 {Q : Bool → lf_Z → Prop} (hL : rr_L J (s.1 96)) (hW : mn_W J) (hB : mn_B J) (hV : mn_V J) (hS : rr_S (J 1 1) (J 1 2) f (s.1 96)) (hG : gp_J J f) (hH : rh_H (s.1 96) H) (hh : mi_H J H) (hX : xr_X X T (s.1 96 8)) (h0 : rm_0 T s) (hX1 : ∀ N, 0 ≤ X.1 N ∧ X.1 N ≤ 2)
    (k : f 37 ≠ 999 → ∀ t : lf_Z, mr_f s t → rr_S (J 1 1) (J 1 2) (mn_min J X f) (t.1 96) → rh_H (t.1 96) (rr_K (J 1 2, J 1 1, f) H) → Q true t) (k0 : f 37 = 999 → Q false s) : fw_259 Q s := by
  have w1 := hW.2.1
  have w2 := hW.2.2.1
  unfold fw_259
  rw [hS.1]
  intro _
  refine ⟨fun c => ?_, fun c => k0 (Classical.not_not.mp c)⟩
  refine fl_244 (H := H) (f := f) (by rw [hL.2.1, hL.2.2.1]; exact hS) hH.1 hh.1 hH.2 (mi_w hW hh) (by rw [hL.2.1]; exact w1.2) (by rw [hL.2.1]; exact w1.1) (by rw [hL.2.2.1]; exact w2.2) (fun t tf te t9 tH tS => ?_)
  rw [hL.2.1, hL.2.2.1] at t9 tH tS
  have tF := mr_k tf te
  refine fl_260 (mr_L hL hW tF) hW hB hV tS hG.1 (xr_Xm hX tF) (rm_0m h0 tF) hX1 (fun y yf yS => ?_)
  exact k c y (mr_ft tF (mr_m yf)) yS (rh_Hm (mi_K hW hG hh) hW ⟨t9, tH⟩ yf)
/-- minutes of the reference -/
theorem fl_258 {Q : Bool → lf_Z → Prop} (hL : rr_L J (s.1 96)) (hW : mn_W J) (hB : mn_B J) (hV : mn_V J) (hS : rr_S (J 1 1) (J 1 2) f (s.1 96)) (hG : gp_J J f) (hH : rh_H (s.1 96) H) (hh : mi_H J H) (hX : xr_X X T (s.1 96 8)) (h0 : rm_0 T s) (hX1 : ∀ N, 0 ≤ X.1 N ∧ X.1 N ≤ 2)
    (k : ∀ (m : Nat) (t : lf_Z), (m : Int) ≤ max 0 a → (f 37 + m ≤ 999) → mr_f s t → rr_S (J 1 1) (J 1 2) (mi_r J X m (f, H)).1 (t.1 96) → rh_H (t.1 96) (mi_r J X m (f, H)).2 → gp_J J (mi_r J X m (f, H)).1 → mi_H J (mi_r J X m (f, H)).2 → ((m : Int) = max 0 a → Q true t) ∧ ((m : Int) < a → f 37 + m = 999 → Q false t)) : fw_258 a Q s := by
  unfold fw_258
  refine ⟨fun i u => ∃ m : Nat, i = m ∧ (m : Int) ≤ max 0 a ∧ f 37 + m ≤ 999 ∧ mr_f s u ∧ rr_S (J 1 1) (J 1 2) (mi_r J X m (f, H)).1 (u.1 96) ∧ rh_H (u.1 96) (mi_r J X m (f, H)).2 ∧ gp_J J (mi_r J X m (f, H)).1 ∧ mi_H J (mi_r J X m (f, H)).2 ∧ (mi_r J X m (f, H)).1 37 = f 37 + m, ?_, ⟨0, rfl, by omega, by have := hG.2.2.2; omega, mr_fr, hS, hH, hG, hh, (Int.add_zero _).symm⟩⟩
  intro i u ⟨m, ei, m1, m9, uf, uS, uH, uG, uh, u37⟩
  subst ei
  have K := k m u m1 m9 uf uS uH uG uh
  unfold fw_258_p2
  intro _ _
  refine ⟨fun c => K.1 (by omega), fun c => ?_⟩
  refine fl_259 (mr_L hL hW uf) hW hB hV uS uG uH uh (xr_Xm hX uf) (rm_0m h0 uf) hX1 (fun d t tf tS tH => ⟨fun _ => ?_, fun q => (by cases q)⟩) (fun d => ⟨fun q => (by cases q), fun _ => K.2 (by omega) (by omega)⟩)
  have r := gp_Jm (X := X) hW uG (by omega)
  refine ⟨m + 1, by omega, by omega, by omega, mr_ft uf tf, ?_, ?_, ?_, ?_, ?_⟩
  · rw [mi_rS]; exact tS
  · rw [mi_rS]; exact tH
  · rw [mi_rS]; exact r.1
  · rw [mi_rS]; exact mi_K hW uG uh
  · rw [mi_rS]
    show mn_min J X (mi_r J X m (f, H)).1 37 = _
    rw [r.2, u37]; omega
/-- the harm at the first k stretches -/
def mi_al (f : Int → Int) : Nat → Int
  | 0 => 0
  | k + 1 => lf_w (mi_al f k + f (24 + (k : Int)))
theorem mi_al0 : ∀ (k n : Nat), n ≤ k → (∀ i : Int, n ≤ i → i < k → f (24 + i) = 0) → mi_al f k = mi_al f n := by
  intro k
  induction k with
  | zero => intro n h _; have : n = 0 := by omega
            rw [this]
  | succ k ih =>
    intro n h z
    by_cases e : n = k + 1
    · rw [e]
    · show lf_w (mi_al f k + f (24 + (k : Int))) = _
      rw [z k (by omega) (by omega), Int.add_zero, ih n (by omega) (fun i i0 i1 => z i i0 (by omega))]
      have rng : ∀ n : Nat, lf_w (mi_al f n) = mi_al f n := by
        intro n
        cases n with
        | zero => rfl
        | succ n =>
          show lf_w (lf_w (mi_al f n + f (24 + (n : Int)))) = _
          have := lf_ww (c := 0) (d := mi_al f n + f (24 + (n : Int)))
          rw [Int.zero_add, Int.zero_add] at this
          exact this
      exact rng n
theorem fl_97 {Q : Int → lf_Z → Prop} (hS : rc_S s.1 f) (h : Q (mi_al f 12) s) : fw_97 Q s := by
  unfold fw_97 fw_65b
  refine ⟨fun x i u => u = s ∧ ∃ n : Nat, i = n ∧ n ≤ 12 ∧ x = mi_al f n, ?_, ⟨rfl, 0, rfl, by decide, rfl⟩⟩
  intro x i u ⟨eu, n, ei, n1, ex⟩
  subst ei
  rw [eu, ex]
  unfold fw_65b_p10
  intro _ _
  refine ⟨fun c => ?_, fun c _ => ⟨rfl, n + 1, by omega, by omega, ?_⟩⟩
  · have : n = 12 := by omega
    rw [this]; exact h
  · rw [hS.2.2.1 n (by omega) (by omega)]; rfl
theorem fl_279 {n1 n2 : Int} {Q : Int → lf_Z → Prop} (hL : rr_L J (s.1 96)) (hW : mn_W J) (hS : rr_S n1 n2 f (s.1 96)) (h : Q (mi_al f (J 1 0).toNat) s) : fw_279 Q s := by
  have w0 := hW.1
  unfold fw_279
  refine ⟨fun x i u => u = s ∧ ∃ n : Nat, i = n ∧ (n : Int) ≤ J 1 0 ∧ x = mi_al f n, ?_, ⟨rfl, 0, rfl, w0.1, rfl⟩⟩
  intro x i u ⟨eu, n, ei, n1, ex⟩
  subst ei
  rw [eu, ex]
  unfold fw_279_p4
  rw [hL.1]
  intro _ _
  refine ⟨fun c => ?_, fun c => fl_246 ⟨rfl, n + 1, by omega, by omega, ?_⟩⟩
  · have : n = (J 1 0).toNat := by omega
    rw [← this] at h; exact h
  · rw [hS.2.2.2.2.1 n (by omega) (by omega)]; rfl
/-- the harm in all, of both -/
theorem mi_alE (hW : mn_W J) (hG : gp_J J f) : mi_al f (J 1 0).toNat = mi_al f 12 := by
  have w0 := hW.1
  exact (mi_al0 12 (J 1 0).toNat (by omega) (fun i i0 i1 => hG.2.1.1 i (by omega) i1)).symm
/-- what minute does, and answers -/
def mi_ok (f : Int → Int) (a : Int) : Prop := 1 ≤ a ∧ a ≤ 60 ∧ f 37 + a ≤ 999
/-- minute of the class -/
theorem fl_70 {Q : Int → lf_Z → Prop} (hJ : gc_J J s) (hW : mn_W J) (hB : mn_B J) (hV : mn_V J) (hS : rc_S s.1 f) (hG : gp_J J f) (hH : rc_H s.1 H) (hX : xc_X X I s.2.2) (hXB : ∀ N, 0 ≤ X.2 N ∧ X.2 N ≤ 10) (hX1 : ∀ N, 0 ≤ X.1 N ∧ X.1 N ≤ 2) (hI : ∀ c : Nat, 35 ≤ c → c < 63 → s.1 c = I c)
    (k0 : ¬ mi_ok f a → Q (-1) s) (k : mi_ok f a → ∀ t : lf_Z, mc_f s t → rc_S t.1 (mi_r J X a.toNat (f, H)).1 → rc_H t.1 (mi_r J X a.toNat (f, H)).2 → gp_J J (mi_r J X a.toNat (f, H)).1 → Q (mi_al (mi_r J X a.toNat (f, H)).1 12) t) : fw_70 a Q s := by
  have g := hG.2.2
  unfold fw_70
  refine fl_15 ⟨fun z => k0 (fun q => ?_), fun z => ?_⟩
  · rw [decide_eq_true q.1, decide_eq_true q.2.1] at z; cases z
  · rw [Bool.and_eq_true, decide_eq_true_eq, decide_eq_true_eq] at z
    rw [hS.2.2.2.2.1, tr_w (by omega)]
    refine ⟨fun c => ?_, fun c => k0 (fun q => c q.2.2)⟩
    have ok : mi_ok f a := ⟨z.1, z.2, c⟩
    refine fl_71 hJ hW hB hV hS hG hH hX hXB hX1 hI (fun m t m1 m9 tf tS tH tG => ⟨fun e => ?_, fun e1 e2 => by omega⟩)
    have em : m = a.toNat := by omega
    rw [em] at tS tH tG
    exact fl_97 tS (k ok t tf tS tH tG)
/-- minute of the reference -/
theorem fl_257 {Q : Int → lf_Z → Prop} (hL : rr_L J (s.1 96)) (hW : mn_W J) (hB : mn_B J) (hV : mn_V J) (hS : rr_S (J 1 1) (J 1 2) f (s.1 96)) (hG : gp_J J f) (hH : rh_H (s.1 96) H) (hh : mi_H J H) (hX : xr_X X T (s.1 96 8)) (h0 : rm_0 T s) (hX1 : ∀ N, 0 ≤ X.1 N ∧ X.1 N ≤ 2)
    (k0 : ¬ mi_ok f a → Q (-1) s) (k : mi_ok f a → ∀ t : lf_Z, mr_f s t → rr_S (J 1 1) (J 1 2) (mi_r J X a.toNat (f, H)).1 (t.1 96) → rh_H (t.1 96) (mi_r J X a.toNat (f, H)).2 → gp_J J (mi_r J X a.toNat (f, H)).1 → mi_H J (mi_r J X a.toNat (f, H)).2 → Q (mi_al (mi_r J X a.toNat (f, H)).1 12) t) : fw_257 a Q s := by
  have g := hG.2.2
  unfold fw_257
  refine fl_183 ⟨fun z => k0 (fun q => ?_), fun z => ?_⟩
  · rw [decide_eq_true q.1, decide_eq_true q.2.1] at z; cases z
  · rw [Bool.and_eq_true, decide_eq_true_eq, decide_eq_true_eq] at z
    rw [hS.1, tr_w (by omega)]
    refine ⟨fun c => k0 (fun q => by have := q.2.2; omega), fun c => ?_⟩
    have ok : mi_ok f a := ⟨z.1, z.2, by omega⟩
    refine fl_258 hL hW hB hV hS hG hH hh hX h0 hX1 (fun m t m1 m9 tf tS tH tG th => ⟨fun e => ⟨fun q => (by cases q), fun _ => ?_⟩, fun e1 e2 => by omega⟩)
    have em : m = a.toNat := by omega
    rw [em] at tS tH tG th
    refine fl_279 (mr_L hL hW tf) hW tS ?_
    rw [mi_alE hW tG]
    exact k ok t tf tS tH tG th
end MJ
