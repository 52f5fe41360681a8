/-! words packed into a long, as the reference holds them -/
section LY
variable {f : Int → Int} {n p : Int}
def lx_pkr : List Int → Int
  | [] => 0
  | c :: r => lx_pkr r * 256 + c
def lx_by (l : List Int) : Prop := ∀ c ∈ l, 1 ≤ c ∧ c ≤ 255
theorem lx_byc {c : Int} {r : List Int} (h : lx_by (c :: r)) : (1 ≤ c ∧ c ≤ 255) ∧ lx_by r := ⟨h c List.mem_cons_self, fun d hd => h d (List.mem_cons_of_mem _ hd)⟩
theorem lx_pk0 : ∀ l : List Int, lx_by l → 0 ≤ lx_pkr l := by
  intro l
  induction l with
  | nil => intro _; exact Int.le_refl _
  | cons c r ih =>
    intro h
    have h := lx_byc h
    have := ih h.2
    show 0 ≤ lx_pkr r * 256 + c
    omega
theorem lx_pkI : ∀ a b : List Int, lx_by a → lx_by b → lx_pkr a = lx_pkr b → a = b := by
  intro a
  induction a with
  | nil =>
    intro b _ hb e
    cases b with
    | nil => rfl
    | cons d q =>
      have hb := lx_byc hb
      have := lx_pk0 q hb.2
      have e : 0 = lx_pkr q * 256 + d := e
      omega
  | cons c r ih =>
    intro b ha hb e
    have ha := lx_byc ha
    have := lx_pk0 r ha.2
    cases b with
    | nil =>
      have e : lx_pkr r * 256 + c = 0 := e
      omega
    | cons d q =>
      have hb := lx_byc hb
      have e : lx_pkr r * 256 + c = lx_pkr q * 256 + d := e
      have e1 : lx_pkr r = lx_pkr q := by omega
      have e2 : c = d := by omega
      rw [e2, ih q ha.2 hb.2 e1]
def lx_P : Nat → Int
  | 0 => 1
  | k + 1 => lx_P k * 256
theorem lx_P1 : ∀ k, 1 ≤ lx_P k := by
  intro k
  induction k with
  | zero => decide
  | succ k ih => show 1 ≤ lx_P k * 256; omega
theorem lx_pkB : ∀ l : List Int, lx_by l → lx_pkr l < lx_P l.length := by
  intro l
  induction l with
  | nil => intro _; decide
  | cons c r ih =>
    intro h
    have h := lx_byc h
    have := ih h.2
    show lx_pkr r * 256 + c < lx_P r.length * 256
    omega
theorem lx_pkL : ∀ (c : Int) (r : List Int), lx_by (c :: r) → lx_P r.length ≤ lx_pkr (c :: r) := by
  intro c r
  induction r generalizing c with
  | nil =>
    intro h
    have h := lx_byc h
    show (1 : Int) ≤ 0 * 256 + c
    omega
  | cons d q ih =>
    intro h
    have h := lx_byc h
    have := ih d h.2
    show lx_P q.length * 256 ≤ lx_pkr (d :: q) * 256 + c
    omega
/-- the letters from p on, the last one first -/
def lx_rv (f : Int → Int) (p : Int) : Nat → List Int
  | 0 => []
  | k + 1 => f (p + k) :: lx_rv f p k
theorem lx_rvL : ∀ k, (lx_rv f p k).length = k := by
  intro k
  induction k with
  | zero => rfl
  | succ k ih => show (lx_rv f p k).length + 1 = k + 1; rw [ih]
theorem lx_mlA {c : Int} : ∀ (w : List Int) (p : Int), lx_ml f (w ++ [c]) p = (lx_ml f w p && decide (f (p + w.length) = c)) := by
  intro w
  induction w with
  | nil =>
    intro p
    show (decide (f p = c) && true) = (true && decide (f (p + ((0 : Nat) : Int)) = c))
    rw [show p + ((0 : Nat) : Int) = p by omega, Bool.and_true, Bool.true_and]
  | cons d w ih =>
    intro p
    show (decide (f p = d) && lx_ml f (w ++ [c]) (p + 1)) = ((decide (f p = d) && lx_ml f w (p + 1)) && decide (f (p + ((w.length + 1 : Nat) : Int)) = c))
    rw [ih (p + 1), show p + ((w.length + 1 : Nat) : Int) = p + 1 + w.length by omega, Bool.and_assoc]
theorem lx_mlR : ∀ l : List Int, lx_ml f l.reverse p = decide (lx_rv f p l.length = l) := by
  intro l
  induction l with
  | nil => rfl
  | cons c r ih =>
    rw [List.reverse_cons, lx_mlA, ih, List.length_reverse]
    show (decide (lx_rv f p r.length = r) && decide (f (p + r.length) = c)) = decide (f (p + (r.length : Nat)) :: lx_rv f p r.length = c :: r)
    by_cases h1 : lx_rv f p r.length = r
    · by_cases h2 : f (p + r.length) = c
      · rw [decide_eq_true h1, decide_eq_true h2, decide_eq_true (by rw [h1, h2])]; rfl
      · rw [decide_eq_false h2, Bool.and_false, decide_eq_false (fun e => h2 (List.cons.inj e).1)]
    · rw [decide_eq_false h1, Bool.false_and, decide_eq_false (fun e => h1 (List.cons.inj e).2)]
/-- the word of m letters -/
def lx_wv (f : Int → Int) (p : Int) (m : Nat) : Int := if m ≤ 7 then lx_pkr (lx_rv f p m) else 1152921504606846976
theorem lx_wvS {m : Nat} (h : lx_by (lx_rv f p m)) (hc : 1 ≤ f (p + m) ∧ f (p + m) ≤ 255) : (lx_wv f p m < 281474976710656 ↔ m ≤ 6) ∧ 0 ≤ lx_wv f p m ∧ (m ≤ 6 → lx_wv f p (m + 1) = lx_wv f p m * 256 + f (p + m)) ∧ (¬ m ≤ 6 → lx_wv f p (m + 1) = 1152921504606846976) := by
  have h0 := lx_pk0 _ h
  have hB := lx_pkB _ h
  rw [lx_rvL] at hB
  have mono : ∀ k, k ≤ 6 → lx_P k ≤ 281474976710656 := by decide
  refine ⟨⟨fun q => ?_, fun q => ?_⟩, ?_, fun q => ?_, fun q => ?_⟩
  · unfold lx_wv at q
    by_cases c : m ≤ 7
    · rw [if_pos c] at q
      by_cases d : m ≤ 6
      · exact d
      · have e : m = 6 + 1 := by omega
        subst e
        have h9 : lx_by (f (p + (6 : Nat)) :: lx_rv f p 6) := h
        have := lx_pkL _ _ h9
        rw [lx_rvL] at this
        have this : (281474976710656 : Int) ≤ lx_pkr (lx_rv f p (6 + 1)) := this
        omega
    · rw [if_neg c] at q; omega
  · unfold lx_wv
    rw [if_pos (by omega)]
    have := mono m q
    omega
  · unfold lx_wv
    by_cases c : m ≤ 7
    · rw [if_pos c]; exact h0
    · rw [if_neg c]; decide
  · unfold lx_wv
    rw [if_pos (by omega), if_pos (by omega)]
    rfl
  · unfold lx_wv
    rw [if_neg (by omega)]
/-- the word is this one -/
theorem lx_wvM {m : Nat} {l : List Int} (h : lx_by (lx_rv f p m)) (hl : lx_by l) (h7 : l.length ≤ 7) : lx_wv f p m = lx_pkr l ↔ (m = l.length ∧ lx_ml f l.reverse p = true) := by
  rw [lx_mlR, decide_eq_true_eq]
  have hB := lx_pkB l hl
  have big : ∀ k, k ≤ 7 → lx_P k ≤ 72057594037927936 := by decide
  have := big _ h7
  constructor
  · intro e
    unfold lx_wv at e
    by_cases c : m ≤ 7
    · rw [if_pos c] at e
      have := lx_pkI _ _ h hl e
      have e2 : m = l.length := by rw [← this, lx_rvL]
      exact ⟨e2, by rw [← e2]; exact this⟩
    · rw [if_neg c] at e; omega
  · intro ⟨e, e2⟩
    unfold lx_wv
    rw [if_pos (by omega), e, e2]
end LY
