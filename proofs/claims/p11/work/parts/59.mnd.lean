/-! many, as the law wants it: both sides answer the same, whatever the heap is -/
def mn_R (L : Nat) (xs : Nat → Int32) (a b c e r : Int) : Prop := ∀ (d : Nat) (s : lf_Z), lf_M (px_ro L xs) (d + 8) 152 [.ref 0, .int (Int32.ofInt a), .int (Int32.ofInt b), .int (Int32.ofInt c), .int (Int32.ofInt e)] s (lf_ql (fun v s1 => v = r ∧ s1 = s)) ∧ lf_M (px_ro L xs) (d + 8) 308 [.ref 95, .int (Int32.ofInt a), .int (Int32.ofInt b), .int (Int32.ofInt c), .int (Int32.ofInt e)] s (lf_ql (fun v s1 => v = r ∧ s1 = s))
theorem mn_ex {L : Nat} {xs : Nat → Int32} (a b c e : Int) (he : e = 0 ∨ e = 1) : ∃ r : Int, mn_R L xs a b c e r := by
  have fe : Int32.ofInt e = 0 ∨ Int32.ofInt e = 1 := by
    rcases he with rfl | rfl
    · exact Or.inl rfl
    · exact Or.inr rfl
  obtain ⟨v, hv⟩ := mh_case (ro := px_ro L xs) (Int32.ofInt a) (Int32.ofInt b) (Int32.ofInt c) (Int32.ofInt e) fe
  refine ⟨v.toInt, fun d s => ⟨?_, ?_⟩⟩
  · exact ⟨some (.long v), s, (hv d).1 (lf_H s), v.toInt, by rw [Int64.ofInt_toInt], rfl, rfl⟩
  · exact ⟨some (.long v), s, (hv d).2 (lf_H s), v.toInt, by rw [Int64.ofInt_toInt], rfl, rfl⟩
theorem mn_c {L : Nat} {xs : Nat → Int32} {a b c e r a' b' c' e' : Int} (h : mn_R L xs a b c e r) (h1 : a' = a) (h2 : b' = b) (h3 : c' = c) (h4 : e' = e) : mn_R L xs a' b' c' e' r := by
  subst h1 h2 h3 h4
  exact h
theorem lf_mn1 {L : Nat} {xs : Nat → Int32} {a b c e r : Int} {d : Nat} {s : lf_Z} (h : mn_R L xs a b c e r) : lf_M (px_ro L xs) (d + 8) 152 [.ref 0, .int (Int32.ofInt a), .int (Int32.ofInt b), .int (Int32.ofInt c), .int (Int32.ofInt e)] s (lf_ql (fun v s1 => v = r ∧ s1 = s)) := (h d s).1
theorem lf_mn2 {L : Nat} {xs : Nat → Int32} {a b c e r : Int} {d : Nat} {s : lf_Z} (h : mn_R L xs a b c e r) : lf_M (px_ro L xs) (d + 8) 308 [.ref 95, .int (Int32.ofInt a), .int (Int32.ofInt b), .int (Int32.ofInt c), .int (Int32.ofInt e)] s (lf_ql (fun v s1 => v = r ∧ s1 = s)) := (h d s).2
