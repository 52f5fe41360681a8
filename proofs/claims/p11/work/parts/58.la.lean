/-! the reference's words and signs, by the tokens -/
section LA
variable {f : Int → Int} {n b : Int} {s t : lf_Z}
theorem la_mlU : ∀ (w v : List Int) (p : Int), w.length = v.length → lx_ml f w p = true → lx_ml f v p = true → w = v := by
  intro w
  induction w with
  | nil =>
    intro v p h _ _
    cases v with
    | nil => rfl
    | cons d v => cases h
  | cons c w ih =>
    intro v p h a b
    cases v with
    | nil => cases h
    | cons d v =>
      have a : (decide (f p = c) && lx_ml f w (p + 1)) = true := a
      have b : (decide (f p = d) && lx_ml f v (p + 1)) = true := b
      rw [Bool.and_eq_true, decide_eq_true_eq] at a b
      rw [List.length_cons, List.length_cons] at h
      rw [← a.1, ← b.1, ih v (p + 1) (by omega) a.2 b.2]
theorem la_mU {p e : Int} {w v : List Int} (a : lx_m f p e w = true) (c : lx_m f p e v = true) : w = v := by
  unfold lx_m at a c
  rw [Bool.and_eq_true, decide_eq_true_eq] at a c
  exact la_mlU w v p (by omega) a.2 c.2
theorem la_wfB {p e : Int} : ∀ (ws : List (List Int)) (k : Int), lx_wf f p e ws k = 1 ∨ k ≤ lx_wf f p e ws k := by
  intro ws
  induction ws with
  | nil => intro k; exact Or.inl rfl
  | cons w ws ih =>
    intro k
    show (if lx_m f p e w = true then k else lx_wf f p e ws (k + 1)) = 1 ∨ k ≤ (if lx_m f p e w = true then k else lx_wf f p e ws (k + 1))
    by_cases hm : lx_m f p e w = true
    · rw [if_pos hm]; exact Or.inr (Int.le_refl _)
    · rw [if_neg hm]
      rcases ih (k + 1) with q | q
      · exact Or.inl q
      · exact Or.inr (by omega)
theorem la_wf {p e : Int} {w : List Int} : ∀ (ws : List (List Int)) (k : Int) (i : Nat), 2 ≤ k → ws[i]? = some w → (∀ j, j < i → ws[j]? ≠ some w) → (lx_wf f p e ws k = k + i ↔ lx_m f p e w = true) := by
  intro ws
  induction ws with
  | nil => intro k i _ h _; simp at h
  | cons v ws ih =>
    intro k i hk h hn
    show (if lx_m f p e v = true then k else lx_wf f p e ws (k + 1)) = k + i ↔ _
    cases i with
    | zero =>
      have h : v = w := by simpa using h
      subst h
      by_cases c : lx_m f p e v = true
      · rw [if_pos c]; exact ⟨fun _ => c, fun _ => by omega⟩
      · rw [if_neg c]
        refine ⟨fun q => ?_, fun q => absurd q c⟩
        rcases la_wfB (f := f) (p := p) (e := e) ws (k + 1) with z | z <;> omega
    | succ i =>
      have h : ws[i]? = some w := by simpa using h
      have hv : v ≠ w := fun q => hn 0 (Nat.succ_pos i) (by rw [q]; rfl)
      by_cases c : lx_m f p e v = true
      · rw [if_pos c]
        exact ⟨fun q => by omega, fun q => absurd (la_mU c q) hv⟩
      · rw [if_neg c]
        have := ih (k + 1) i (by omega) h (fun j hj => by have := hn (j + 1) (by omega); simpa using this)
        rw [show k + ((i + 1 : Nat) : Int) = k + 1 + (i : Nat) by omega]
        exact this
/-! signs -/
def la_kt (t k : Int) : Prop := (t = 0 ∧ k = 0) ∨ (t = 2 ∧ k = 1) ∨ (k = 2 ∧ (t = 1 ∨ t = 3 ∨ 20 ≤ t)) ∨ (t = 4 ∧ k = 60) ∨ (t = 5 ∧ k = 4) ∨ (t = 6 ∧ k = 62) ∨ (t = 7 ∧ k = 5) ∨ (t = 8 ∧ k = 61) ∨ (t = 9 ∧ k = 35) ∨ (t = 10 ∧ k = 43) ∨ (t = 11 ∧ k = 45) ∨ (t = 12 ∧ k = 42) ∨ (t = 13 ∧ k = 47) ∨ (t = 14 ∧ k = 40) ∨ (t = 15 ∧ k = 41) ∨ (t = 16 ∧ k = 59) ∨ (t = 1 ∧ k = 3)
theorem la_sg {c : Int} : la_kt (lx_sg c 0) (if lx_si c = true then c else 3) := by
  by_cases h1 : c = 35
  · subst h1; unfold la_kt; decide
  by_cases h2 : c = 40
  · subst h2; unfold la_kt; decide
  by_cases h3 : c = 41
  · subst h3; unfold la_kt; decide
  by_cases h4 : c = 42
  · subst h4; unfold la_kt; decide
  by_cases h5 : c = 43
  · subst h5; unfold la_kt; decide
  by_cases h6 : c = 45
  · subst h6; unfold la_kt; decide
  by_cases h7 : c = 47
  · subst h7; unfold la_kt; decide
  by_cases h8 : c = 59
  · subst h8; unfold la_kt; decide
  by_cases h9 : c = 60
  · subst h9; unfold la_kt; decide
  by_cases h10 : c = 61
  · subst h10; unfold la_kt; decide
  by_cases h11 : c = 62
  · subst h11; unfold la_kt; decide
  have e1 : lx_si c = false := by
    unfold lx_si
    rw [decide_eq_false h1, decide_eq_false h2, decide_eq_false h3, decide_eq_false h4, decide_eq_false h5, decide_eq_false h6, decide_eq_false h7, decide_eq_false h8, decide_eq_false h9, decide_eq_false h10, decide_eq_false h11]; rfl
  have e2 : lx_sg c 0 = 1 := by
    unfold lx_sg
    rw [if_neg h9, if_neg h11, if_neg h10, if_neg h1, if_neg h5, if_neg h6, if_neg h4, if_neg h7, if_neg h2, if_neg h3, if_neg h8]
  rw [e1, e2, if_neg (by decide)]
  unfold la_kt; decide
theorem la_KT : la_kt (lx_T f n b) (lx_K f n b) := by
  by_cases c : n ≤ b
  · rw [(lx_Tz c).1, show lx_K f n b = 0 from if_pos c]
    unfold la_kt; decide
  · cases d : lx_dg (f b) with
    | true =>
      rw [(lx_Td (by omega) d).1, show lx_K f n b = 1 by unfold lx_K; rw [if_neg c, if_pos d]]
      unfold la_kt; decide
    | false =>
      have d' : ¬ lx_dg (f b) = true := by rw [d]; decide
      cases l : lx_lt (f b) with
      | true =>
        rw [show lx_K f n b = 2 by unfold lx_K; rw [if_neg c, if_neg d', if_pos l]]
        have : lx_T f n b = 1 ∨ lx_T f n b = 3 ∨ 20 ≤ lx_T f n b := by
          rw [(lx_Tl (by omega) d l).1]
          by_cases q : lx_run lx_lt f n b = b + 1 ∧ 97 ≤ f b
          · rw [if_pos q]; exact Or.inr (Or.inl rfl)
          · rw [if_neg q]
            rcases lx_WB (f := f) (b := b) (e := lx_run lx_lt f n b) with z | z
            · exact Or.inl z
            · exact Or.inr (Or.inr z)
        exact Or.inr (Or.inr (Or.inl ⟨rfl, this⟩))
      | false =>
        have l' : ¬ lx_lt (f b) = true := by rw [l]; decide
        rw [(lx_Ts (by omega) d l).1]
        cases w : lx_two f n b with
        | true =>
          rw [show lx_K f n b = (if f b = 60 then 4 else 5) by unfold lx_K; rw [if_neg c, if_neg d', if_neg l', if_pos w]]
          have : f b = 60 ∨ f b = 62 := by
            unfold lx_two at w
            rw [Bool.and_eq_true, Bool.or_eq_true, decide_eq_true_eq, decide_eq_true_eq] at w
            exact w.2
          rcases this with q | q <;> rw [q] <;> unfold la_kt <;> decide
        | false =>
          rw [show lx_K f n b = (if lx_si (f b) = true then f b else 3) by unfold lx_K; rw [if_neg c, if_neg d', if_neg l', w]; rfl]
          exact la_sg
/-! words -/
theorem la_K2 (h : lx_K f n b = 2) : b < n ∧ lx_dg (f b) = false ∧ lx_lt (f b) = true := by
  unfold lx_K at h
  by_cases c : n ≤ b
  · rw [if_pos c] at h; cases h
  · rw [if_neg c] at h
    cases d : lx_dg (f b) with
    | true => rw [d] at h; cases h
    | false =>
      rw [d] at h
      cases l : lx_lt (f b) with
      | true => exact ⟨by omega, rfl, rfl⟩
      | false =>
        exfalso
        rw [l] at h
        cases w : lx_two f n b with
        | true =>
          rw [w] at h
          by_cases q : f b = 60
          · rw [if_neg (by decide), if_neg (by decide), if_pos rfl, if_pos q] at h; cases h
          · rw [if_neg (by decide), if_neg (by decide), if_pos rfl, if_neg q] at h; cases h
        | false =>
          rw [w, if_neg (by decide), if_neg (by decide), if_neg (by decide)] at h
          by_cases q : lx_si (f b) = true
          · rw [if_pos q] at h
            rw [h] at q; revert q; decide
          · rw [if_neg q] at h; cases h
theorem la_rnA {P : Int → Bool} : ∀ (k : Nat) (p j : Int), p ≤ j → j < lx_rn P f n k p → j < n ∧ P (f j) = true := by
  intro k
  induction k with
  | zero =>
    intro p j h1 h2
    have h2 : j < p := h2
    omega
  | succ k ih =>
    intro p j h1 h2
    have h2 : j < (if p < n ∧ P (f p) = true then lx_rn P f n k (p + 1) else p) := h2
    by_cases c : p < n ∧ P (f p) = true
    · rw [if_pos c] at h2
      by_cases e : j = p
      · rw [e]; exact c
      · exact ih (p + 1) j (by omega) h2
    · rw [if_neg c] at h2; omega
theorem la_runA {P : Int → Bool} {p j : Int} (h1 : p ≤ j) (h2 : j < lx_run P f n p) : j < n ∧ P (f j) = true := la_rnA _ p j h1 h2
def la_r (i : Nat) : List Int := (lx_WL.getD i []).reverse
theorem la_okA : ∀ i, i < 37 → lx_WL[i]? = some (la_r i).reverse ∧ (∀ j, j < i → lx_WL[j]? ≠ some (la_r i).reverse) ∧ (∀ c ∈ la_r i, 1 ≤ c ∧ c ≤ 255) ∧ 2 ≤ (la_r i).length ∧ (la_r i).length ≤ 7 := by decide +kernel
/-- the reference stands at b -/
def la_B (f : Int → Int) (n b : Int) (s : lf_Z) : Prop := s.1 99 = f ∧ s.1 95 4 = n ∧ rt_at s b ∧ 0 ≤ b ∧ cl_tp f n
theorem la_Bk (h : la_B f n b s) : la_kt (lx_T f n b) (s.1 95 9) := by
  obtain ⟨h1, h2, h3, _⟩ := h
  rw [h3.2.1, h1, h2]; exact la_KT
theorem la_w (h : la_B f n b s) {i : Nat} (hi : i < 37) : (s.1 95 9 = 2 ∧ lf_wl (s.2.1 95 11) = lx_pkr (la_r i)) ↔ lx_T f n b = 20 + i := by
  have KT := la_Bk h
  obtain ⟨h1, h2, ⟨r8, r9, r7, r10, r11⟩, h0, hb⟩ := h
  rw [h1, h2] at r9 r7 r10 r11
  obtain ⟨o1, o2, o3, o4, o5⟩ := la_okA i hi
  by_cases k2 : s.1 95 9 = 2
  · obtain ⟨a1, a2, a3⟩ := la_K2 (r9.symm.trans k2)
    have r11 := r11 k2
    obtain ⟨t1, t2, _⟩ := lx_Tl a1 a2 a3
    rw [t2] at r11
    have hrun := lx_runB (P := lx_lt) (f := f) (n := n) (p := b)
    have hby : lx_by (lx_rv f b (lx_run lx_lt f n b - b).toNat) := lx_byR hb _ h0 (fun j hj => la_runA (p := b) (j := b + j) (by omega) (by omega))
    have W := lx_wvM (f := f) (p := b) (m := (lx_run lx_lt f n b - b).toNat) (l := la_r i) hby o3 o5
    have WF := la_wf (f := f) (p := b) (e := lx_run lx_lt f n b) lx_WL 20 i (by decide) o1 o2
    have M : lx_m f b (lx_run lx_lt f n b) (la_r i).reverse = true ↔ ((lx_run lx_lt f n b - b).toNat = (la_r i).length ∧ lx_ml f (la_r i).reverse b = true) := by
      unfold lx_m
      rw [Bool.and_eq_true, decide_eq_true_eq, List.length_reverse]
      exact ⟨fun q => ⟨by have := q.1; omega, q.2⟩, fun q => ⟨by have := q.1; omega, q.2⟩⟩
    rw [t1]
    refine ⟨fun q => ?_, fun q => ⟨k2, ?_⟩⟩
    · have q2 := W.mp (r11.symm.trans q.2)
      rw [if_neg (by omega)]
      exact WF.mpr (M.mpr q2)
    · by_cases c : lx_run lx_lt f n b = b + 1 ∧ 97 ≤ f b
      · rw [if_pos c] at q; omega
      · rw [if_neg c] at q
        exact r11.trans (W.mpr (M.mp (WF.mp q)))
  · refine ⟨fun q => absurd q.1 k2, fun q => ?_⟩
    rw [q] at KT
    unfold la_kt at KT
    omega
def la_2 (a b : Int) : Int := lf_lor (lf_lshl a 8) b
def la_3 (a b c : Int) : Int := lf_lor (lf_lshl (lf_wl (la_2 a b)) 8) c
def la_4 (a b c d : Int) : Int := lf_lor (lf_lshl (lf_wl (la_3 a b c)) 8) d
def la_5 (a b c d e : Int) : Int := lf_lor (lf_lshl (lf_wl (la_4 a b c d)) 8) e
def la_6 (a b c d e g : Int) : Int := lf_lor (lf_lshl (lf_wl (la_5 a b c d e)) 8) g
section RU
variable {a1 a2 a3 a4 a5 a6 : Int} {Q : Int → lf_Z → Prop}
theorem fl_206 (h : Q (la_2 a1 a2) s) : fw_206 a1 a2 Q s := by unfold fw_206; exact fun _ _ => h
theorem fl_205 (h : Q (la_3 a1 a2 a3) s) : fw_205 a1 a2 a3 Q s := by unfold fw_205; exact fl_206 (fun _ => h)
theorem fl_204 (h : Q (la_4 a1 a2 a3 a4) s) : fw_204 a1 a2 a3 a4 Q s := by unfold fw_204; exact fl_205 (fun _ => h)
theorem fl_208 (h : Q (la_5 a1 a2 a3 a4 a5) s) : fw_208 a1 a2 a3 a4 a5 Q s := by unfold fw_208; exact fl_204 (fun _ => h)
theorem fl_209 (h : Q (la_6 a1 a2 a3 a4 a5 a6) s) : fw_209 a1 a2 a3 a4 a5 a6 Q s := by unfold fw_209; exact fl_208 (fun _ => h)
end RU
theorem fl_183 {a0 a1 a2 : Int} {Q : Bool → lf_Z → Prop} (h : Q (decide (a1 ≤ a0) && decide (a0 ≤ a2)) s) : fw_183 a0 a1 a2 Q s := by
  unfold fw_183
  intro _ _
  refine ⟨fun c => ?_, fun c _ => ⟨fun d => ?_, fun d => ?_⟩⟩
  · rw [decide_eq_false (show ¬ a1 ≤ a0 by omega)] at h; exact h
  · rw [decide_eq_false (show ¬ a0 ≤ a2 by omega), Bool.and_false] at h; exact h
  · rw [decide_eq_true (show a1 ≤ a0 by omega), decide_eq_true (show a0 ≤ a2 by omega)] at h; exact h
/-- whether the word at hand is the i-th -/
theorem fl_207 {a : Int} {Q : Bool → lf_Z → Prop} (h : la_B f n b s) (i : Nat) (hi : i < 37) (ha : lf_wl a = lx_pkr (la_r i)) (k : Q (decide (lx_T f n b = 20 + (i : Int))) s) : fw_207 a Q s := by
  have W := la_w h hi
  unfold fw_207
  intro _
  rw [ha]
  refine ⟨fun c => ?_, fun c => ⟨fun d => ?_, fun d => ?_⟩⟩
  · rw [decide_eq_false (fun q => c (W.mpr q).1)] at k; exact k
  · rw [decide_eq_false (fun q => d (W.mpr q).2)] at k; exact k
  · rw [decide_eq_true (W.mp ⟨Classical.not_not.mp c, Classical.not_not.mp d⟩)] at k; exact k
theorem la_ne (h : la_B f n b s) (k2 : s.1 95 9 = 2) {a : Int} (i : Nat) (hi : i < 37) (ha : lf_wl a = lx_pkr (la_r i)) : lf_wl (s.2.1 95 11) ≠ lf_wl a ↔ ¬ lx_T f n b = 20 + (i : Int) := by
  have W := la_w h hi
  rw [ha]
  exact ⟨fun c q => c (W.mpr q).2, fun c q => c (W.mp ⟨k2, q⟩)⟩
/-- the letter that stands alone -/
theorem la_T3 (h : lx_T f n b = 3) : b < n ∧ lx_dg (f b) = false ∧ lx_lt (f b) = true ∧ lx_run lx_lt f n b = b + 1 ∧ 97 ≤ f b ∧ f b ≤ 122 := by
  by_cases c : n ≤ b
  · rw [(lx_Tz c).1] at h; cases h
  · cases d : lx_dg (f b) with
    | true => rw [(lx_Td (by omega) d).1] at h; cases h
    | false =>
      cases l : lx_lt (f b) with
      | false => rw [(lx_Ts (by omega) d l).1] at h; exact absurd h lx_sgB.2.1
      | true =>
        rw [(lx_Tl (by omega) d l).1] at h
        by_cases q : lx_run lx_lt f n b = b + 1 ∧ 97 ≤ f b
        · refine ⟨by omega, rfl, rfl, q.1, q.2, ?_⟩
          unfold lx_lt at l
          rw [Bool.or_eq_true, Bool.and_eq_true, Bool.and_eq_true, decide_eq_true_eq, decide_eq_true_eq, decide_eq_true_eq, decide_eq_true_eq] at l
          omega
        · rw [if_neg q] at h
          rcases lx_WB (f := f) (b := b) (e := lx_run lx_lt f n b) with z | z <;> omega
theorem la_V3 (h : lx_T f n b = 3) : 0 ≤ lx_V f n b ∧ lx_V f n b < 26 := by
  obtain ⟨_, d, _, _, h1, h2⟩ := la_T3 h
  unfold lx_V
  rw [if_neg (by rw [d]; decide)]
  omega
theorem fl_232 {Q : Int → lf_Z → Prop} (h : la_B f n b s) (k : ∀ v : Int, v = (if lx_T f n b = 3 then lx_V f n b else -1) → Q v s) : fw_232 Q s := by
  have KT := la_Bk h
  have h' := h
  obtain ⟨h1, h2, ⟨r8, r9, r7, r10, r11⟩, h0, hb⟩ := h'
  rw [h1, h2] at r9 r7
  unfold fw_232
  intro _
  refine ⟨fun c => k _ ?_, fun c _ => ?_⟩
  · rw [if_neg (fun q => ?_)]
    rw [q] at KT
    unfold la_kt at KT
    omega
  · obtain ⟨a1, a2, a3⟩ := la_K2 (r9.symm.trans (Classical.not_not.mp c))
    obtain ⟨t1, t2, t3⟩ := lx_Tl a1 a2 a3
    rw [t2] at r7
    refine ⟨fun d => k _ ?_, fun d => fl_198 ?_⟩
    · rw [if_neg (fun q => ?_)]
      have := (la_T3 q).2.2.2.1
      omega
    · rw [h1, h2, r8, if_neg (by omega)]
      refine fl_183 ⟨fun e => k _ ?_, fun e => fl_198 ?_⟩
      · rw [if_neg (fun q => ?_)]
        have := la_T3 q
        rw [decide_eq_true this.2.2.2.2.1, decide_eq_true this.2.2.2.2.2] at e
        cases e
      · rw [h1, h2, r8, if_neg (by omega)]
        rw [Bool.and_eq_true, decide_eq_true_eq, decide_eq_true_eq] at e
        refine k _ ?_
        rw [t1, if_pos (show lx_run lx_lt f n b = b + 1 ∧ 97 ≤ f b from ⟨by omega, e.1⟩), if_pos rfl, t3]
/-- the sort of a clause -/
theorem fl_203 {Q : Int → lf_Z → Prop} (h : la_B f n b s) (k : ∀ v : Int, v = (if 20 ≤ lx_T f n b ∧ lx_T f n b ≤ 32 then lx_T f n b - 20 else -1) → Q v s) : fw_203 Q s := by
  unfold fw_203
  refine fl_204 (fl_207 h 0 (by decide) (by decide +kernel) ⟨fun z0 => ?_, fun z => k _ ?_⟩)
  rotate_left
  · have z := of_decide_eq_true z
    rw [if_pos (by omega)]; omega
  have z0 := of_decide_eq_false z0
  refine fl_208 (fl_207 h 1 (by decide) (by decide +kernel) ⟨fun z1 => ?_, fun z => k _ ?_⟩)
  rotate_left
  · have z := of_decide_eq_true z
    rw [if_pos (by omega)]; omega
  have z1 := of_decide_eq_false z1
  refine fl_204 (fl_207 h 2 (by decide) (by decide +kernel) ⟨fun z2 => ?_, fun z => k _ ?_⟩)
  rotate_left
  · have z := of_decide_eq_true z
    rw [if_pos (by omega)]; omega
  have z2 := of_decide_eq_false z2
  refine fl_205 (fl_204 (fl_207 h 3 (by decide) (by decide +kernel) ⟨fun z3 => ?_, fun z => k _ ?_⟩))
  rotate_left
  · have z := of_decide_eq_true z
    rw [if_pos (by omega)]; omega
  have z3 := of_decide_eq_false z3
  refine fl_205 (fl_207 h 4 (by decide) (by decide +kernel) ⟨fun z4 => ?_, fun z => k _ ?_⟩)
  rotate_left
  · have z := of_decide_eq_true z
    rw [if_pos (by omega)]; omega
  have z4 := of_decide_eq_false z4
  refine fl_204 (fl_207 h 5 (by decide) (by decide +kernel) ⟨fun z5 => ?_, fun z => k _ ?_⟩)
  rotate_left
  · have z := of_decide_eq_true z
    rw [if_pos (by omega)]; omega
  have z5 := of_decide_eq_false z5
  refine fl_205 (fl_207 h 6 (by decide) (by decide +kernel) ⟨fun z6 => ?_, fun z => k _ ?_⟩)
  rotate_left
  · have z := of_decide_eq_true z
    rw [if_pos (by omega)]; omega
  have z6 := of_decide_eq_false z6
  refine fl_208 (fl_207 h 7 (by decide) (by decide +kernel) ⟨fun z7 => ?_, fun z => k _ ?_⟩)
  rotate_left
  · have z := of_decide_eq_true z
    rw [if_pos (by omega)]; omega
  have z7 := of_decide_eq_false z7
  refine fl_204 (fl_207 h 8 (by decide) (by decide +kernel) ⟨fun z8 => ?_, fun z => k _ ?_⟩)
  rotate_left
  · have z := of_decide_eq_true z
    rw [if_pos (by omega)]; omega
  have z8 := of_decide_eq_false z8
  refine fl_204 (fl_207 h 9 (by decide) (by decide +kernel) ⟨fun z9 => ?_, fun z => k _ ?_⟩)
  rotate_left
  · have z := of_decide_eq_true z
    rw [if_pos (by omega)]; omega
  have z9 := of_decide_eq_false z9
  refine fl_204 (fl_207 h 10 (by decide) (by decide +kernel) ⟨fun z10 => ?_, fun z => k _ ?_⟩)
  rotate_left
  · have z := of_decide_eq_true z
    rw [if_pos (by omega)]; omega
  have z10 := of_decide_eq_false z10
  refine fl_208 (fl_207 h 11 (by decide) (by decide +kernel) ⟨fun z11 => ?_, fun z => k _ ?_⟩)
  rotate_left
  · have z := of_decide_eq_true z
    rw [if_pos (by omega)]; omega
  have z11 := of_decide_eq_false z11
  refine fl_209 (fl_207 h 12 (by decide) (by decide +kernel) ⟨fun z12 => ?_, fun z => k _ ?_⟩)
  rotate_left
  · have z := of_decide_eq_true z
    rw [if_pos (by omega)]; omega
  have z12 := of_decide_eq_false z12
  refine k _ ?_
  rw [if_neg (by omega)]
/-- the name -/
def la_nm (t : Int) : Int := if t = 24 then 9 else if t = 56 then 10 else if 47 ≤ t ∧ t ≤ 55 then t - 47 else -1
theorem fl_230 {Q : Int → lf_Z → Prop} (h : la_B f n b s) (k : ∀ v : Int, v = la_nm (lx_T f n b) → Q v s) : fw_230 Q s := by
  have KT := la_Bk h
  unfold fw_230
  intro _
  refine ⟨fun k2 => ?_, fun k2 => k _ ?_⟩
  rotate_left
  · unfold la_kt at KT
    unfold la_nm
    (repeat' split) <;> omega
  refine fl_204 ⟨fun z27 => ?_, fun z => k _ ?_⟩
  rotate_left
  · have z := Classical.not_not.mp (fun q => z ((la_ne h k2 27 (by decide) (by decide +kernel)).mpr q))
    unfold la_nm
    (repeat' split) <;> omega
  have z27 := (la_ne h k2 27 (by decide) (by decide +kernel)).mp z27
  refine fl_208 ⟨fun z28 => ?_, fun z => k _ ?_⟩
  rotate_left
  · have z := Classical.not_not.mp (fun q => z ((la_ne h k2 28 (by decide) (by decide +kernel)).mpr q))
    unfold la_nm
    (repeat' split) <;> omega
  have z28 := (la_ne h k2 28 (by decide) (by decide +kernel)).mp z28
  refine fl_204 ⟨fun z29 => ?_, fun z => k _ ?_⟩
  rotate_left
  · have z := Classical.not_not.mp (fun q => z ((la_ne h k2 29 (by decide) (by decide +kernel)).mpr q))
    unfold la_nm
    (repeat' split) <;> omega
  have z29 := (la_ne h k2 29 (by decide) (by decide +kernel)).mp z29
  refine fl_204 ⟨fun z30 => ?_, fun z => k _ ?_⟩
  rotate_left
  · have z := Classical.not_not.mp (fun q => z ((la_ne h k2 30 (by decide) (by decide +kernel)).mpr q))
    unfold la_nm
    (repeat' split) <;> omega
  have z30 := (la_ne h k2 30 (by decide) (by decide +kernel)).mp z30
  refine fl_209 ⟨fun z31 => ?_, fun z => k _ ?_⟩
  rotate_left
  · have z := Classical.not_not.mp (fun q => z ((la_ne h k2 31 (by decide) (by decide +kernel)).mpr q))
    unfold la_nm
    (repeat' split) <;> omega
  have z31 := (la_ne h k2 31 (by decide) (by decide +kernel)).mp z31
  refine fl_208 ⟨fun z32 => ?_, fun z => k _ ?_⟩
  rotate_left
  · have z := Classical.not_not.mp (fun q => z ((la_ne h k2 32 (by decide) (by decide +kernel)).mpr q))
    unfold la_nm
    (repeat' split) <;> omega
  have z32 := (la_ne h k2 32 (by decide) (by decide +kernel)).mp z32
  refine fl_208 ⟨fun z33 => ?_, fun z => k _ ?_⟩
  rotate_left
  · have z := Classical.not_not.mp (fun q => z ((la_ne h k2 33 (by decide) (by decide +kernel)).mpr q))
    unfold la_nm
    (repeat' split) <;> omega
  have z33 := (la_ne h k2 33 (by decide) (by decide +kernel)).mp z33
  refine fl_209 ⟨fun z34 => ?_, fun z => k _ ?_⟩
  rotate_left
  · have z := Classical.not_not.mp (fun q => z ((la_ne h k2 34 (by decide) (by decide +kernel)).mpr q))
    unfold la_nm
    (repeat' split) <;> omega
  have z34 := (la_ne h k2 34 (by decide) (by decide +kernel)).mp z34
  refine fl_204 ⟨fun z35 => ?_, fun z => k _ ?_⟩
  rotate_left
  · have z := Classical.not_not.mp (fun q => z ((la_ne h k2 35 (by decide) (by decide +kernel)).mpr q))
    unfold la_nm
    (repeat' split) <;> omega
  have z35 := (la_ne h k2 35 (by decide) (by decide +kernel)).mp z35
  refine fl_205 ⟨fun z4 => ?_, fun z => k _ ?_⟩
  rotate_left
  · have z := Classical.not_not.mp (fun q => z ((la_ne h k2 4 (by decide) (by decide +kernel)).mpr q))
    unfold la_nm
    (repeat' split) <;> omega
  have z4 := (la_ne h k2 4 (by decide) (by decide +kernel)).mp z4
  refine fl_204 ⟨fun z36 => ?_, fun z => k _ ?_⟩
  rotate_left
  · have z := Classical.not_not.mp (fun q => z ((la_ne h k2 36 (by decide) (by decide +kernel)).mpr q))
    unfold la_nm
    (repeat' split) <;> omega
  have z36 := (la_ne h k2 36 (by decide) (by decide +kernel)).mp z36
  refine k _ ?_
  unfold la_nm
  (repeat' split) <;> omega
end LA
