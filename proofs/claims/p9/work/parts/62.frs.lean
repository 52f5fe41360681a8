/-! the fresh heap keeps the ranges -/
section FRS
def fr_K (p : Int × Int) : Prop := p.1 ≤ 0 ∧ 0 ≤ p.2
theorem fr_it {P : Prop} [Decidable P] {a b : Int × Int} (h1 : fr_K a) (h2 : fr_K b) : fr_K (if P then a else b) := by
  by_cases h : P
  · rw [if_pos h]; exact h1
  · rw [if_neg h]; exact h2
theorem fr_a (i : Int) : fr_K (iv_a i) := by
  unfold iv_a
  repeat' refine fr_it ?_ ?_
  all_goals exact ⟨by decide, by decide⟩
theorem fr_s (i : Int) : fr_K (iv_s i) := by
  unfold iv_s
  repeat' refine fr_it ?_ ?_
  all_goals exact ⟨by decide, by decide⟩
theorem fr_xx (i : Int) : fr_K (iv_x i) := by
  unfold iv_x
  repeat' refine fr_it ?_ ?_
  all_goals exact ⟨by decide, by decide⟩
theorem fr_T : ∀ f ∈ iv_T, ∀ i : Int, fr_K (f i) := by
  unfold iv_T
  repeat' refine List.forall_mem_cons.mpr ⟨?_, ?_⟩
  all_goals first | (intro f hf; cases hf; done) | exact fr_a | exact fr_s | exact fr_xx | (intro i; unfold iv_F; exact ⟨by decide, by decide⟩) | (intro i; dsimp only; exact ⟨by decide, by decide⟩) | (intro i; dsimp only; repeat' refine fr_it ?_ ?_) <;> exact ⟨by decide, by decide⟩
theorem fr_B (c : Nat) (i : Int) : (iv_B c i).1 ≤ 0 ∧ 0 ≤ (iv_B c i).2 := by
  unfold iv_B
  rw [List.getD_eq_getElem?_getD]
  cases h : iv_T[c]? with
  | none => show (-2147483648 : Int) ≤ 0 ∧ (0 : Int) ≤ 2147483647; exact ⟨by decide, by decide⟩
  | some f => exact fr_T f (List.mem_of_getElem? h) i
def fr_I (c : Nat) (i : Int) : Int := if i < 0 then 0 else (px_IX c i.toNat).toInt
def fr_s0 : lf_Z := (fr_I, fun _ _ => 0, fun q => bif Nat.beq q 0 then some 72 else bif Nat.beq q 1 then some 73 else none)
end FRS
section FRT
theorem fr_get {α : Type} {P : α → Prop} : ∀ t : Lean.RArray α, (∀ n, P (t.get n)) → ∀ n, P (t.get n) := fun _ h n => h n
def fr_Q (q : Nat × (Nat → Int32)) : Prop := ∀ b : Nat, q.2 b = 0 ∨ ((iv_B q.1 b).1 ≤ (q.2 b).toInt ∧ (q.2 b).toInt ≤ (iv_B q.1 b).2)
theorem fr_br {P : (Nat × (Nat → Int32)) → Prop} {p n : Nat} {l r : Lean.RArray (Nat × (Nat → Int32))} (h1 : P (l.get n)) (h2 : P (r.get n)) : P ((Lean.RArray.branch p l r).get n) := by
  show P (Bool.rec (motive := fun _ => Nat × (Nat → Int32)) (l.get n) (r.get n) (Nat.ble p n))
  cases Nat.ble p n with
  | false => exact h1
  | true => exact h2
theorem fr_lf {P : (Nat × (Nat → Int32)) → Prop} {n : Nat} {q : Nat × (Nat → Int32)} (h : P q) : P ((Lean.RArray.leaf q).get n) := h
theorem fr_e {k : Nat} {f : Nat → Int32} {j : Nat} {v : Int32} (hf : ∀ b, f b = bif Nat.beq b j then v else 0) (hv : (iv_B k j).1 ≤ v.toInt ∧ v.toInt ≤ (iv_B k j).2) : fr_Q (k, f) := by
  intro b
  show f b = 0 ∨ ((iv_B k b).1 ≤ (f b).toInt ∧ (f b).toInt ≤ (iv_B k b).2)
  rw [hf b]
  cases hb : Nat.beq b j with
  | false => exact Or.inl rfl
  | true =>
    have e := Nat.eq_of_beq_eq_true hb
    subst e
    exact Or.inr hv
theorem fr_l {k : Nat} {f : Nat → Int32} {j : Nat} {v : Int32} (hf : ∀ b, f b = bif Nat.blt b j then v else 0) (hv : ∀ b : Nat, (iv_B k b).1 ≤ v.toInt ∧ v.toInt ≤ (iv_B k b).2) : fr_Q (k, f) := by
  intro b
  show f b = 0 ∨ ((iv_B k b).1 ≤ (f b).toInt ∧ (f b).toInt ≤ (iv_B k b).2)
  rw [hf b]
  cases hb : Nat.blt b j with
  | false => exact Or.inl rfl
  | true => exact Or.inr (hv b)
theorem fr_e2 {k : Nat} {f : Nat → Int32} {j i : Nat} {v w : Int32} (hf : ∀ b, f b = bif Nat.beq b j then v else bif Nat.beq b i then w else 0) (hv : (iv_B k j).1 ≤ v.toInt ∧ v.toInt ≤ (iv_B k j).2) (hw : (iv_B k i).1 ≤ w.toInt ∧ w.toInt ≤ (iv_B k i).2) : fr_Q (k, f) := by
  intro b
  show f b = 0 ∨ ((iv_B k b).1 ≤ (f b).toInt ∧ (f b).toInt ≤ (iv_B k b).2)
  rw [hf b]
  cases hb : Nat.beq b j with
  | false =>
    cases hc : Nat.beq b i with
    | false => exact Or.inl rfl
    | true =>
      have e := Nat.eq_of_beq_eq_true hc
      subst e
      exact Or.inr hw
  | true =>
    have e := Nat.eq_of_beq_eq_true hb
    subst e
    exact Or.inr hv
theorem fr_13 : fr_Q (13, px_i13) := by
  intro b
  show px_i13 b = 0 ∨ ((0 : Int) ≤ (px_i13 b).toInt ∧ (px_i13 b).toInt ≤ (1000 : Int))
  unfold px_i13
  cases Nat.blt b 144 with
  | false => exact Or.inl rfl
  | true =>
    cases Nat.beq (b % 13) 0 with
    | true => exact Or.inl rfl
    | false => exact Or.inr (by decide)
theorem fr_all (n : Nat) : fr_Q (px_IT.get n) := by
  unfold px_IT
  repeat' refine fr_br ?_ ?_
  all_goals refine fr_lf ?_
  · exact fr_e (j := 12) (v := -1) (fun _ => rfl) (by decide)
  · exact fr_13
  · exact fr_e (j := 8) (v := 41) (fun _ => rfl) (by decide)
  · exact fr_l (j := 4) (v := -1) (fun _ => rfl) (fun b => show (-1 : Int) ≤ _ ∧ _ ≤ (11 : Int) from by decide)
  · exact fr_l (j := 4) (v := -1) (fun _ => rfl) (fun b => show (-1 : Int) ≤ _ ∧ _ ≤ (11 : Int) from by decide)
  · exact fr_l (j := 6) (v := -1) (fun _ => rfl) (fun b => show (-2147483648 : Int) ≤ _ ∧ _ ≤ (2147483647 : Int) from by decide)
  · exact fr_l (j := 16) (v := -10000) (fun _ => rfl) (fun b => show (-2147483648 : Int) ≤ _ ∧ _ ≤ (2147483647 : Int) from by decide)
  · exact fr_e2 (j := 2) (i := 3) (v := -1) (w := -1) (fun _ => rfl) (by decide) (by decide)
  · exact fr_e (j := 4) (v := -1) (fun _ => rfl) (by decide)
  · exact fr_e (j := 8) (v := 41) (fun _ => rfl) (by decide)
  · exact fr_l (j := 4) (v := -1) (fun _ => rfl) (fun b => show (-1 : Int) ≤ _ ∧ _ ≤ (11 : Int) from by decide)
  · exact fr_l (j := 4) (v := -1) (fun _ => rfl) (fun b => show (-1 : Int) ≤ _ ∧ _ ≤ (11 : Int) from by decide)
  · exact fr_l (j := 6) (v := -1) (fun _ => rfl) (fun b => show (-2147483648 : Int) ≤ _ ∧ _ ≤ (2147483647 : Int) from by decide)
  · exact fr_l (j := 16) (v := -10000) (fun _ => rfl) (fun b => show (-2147483648 : Int) ≤ _ ∧ _ ≤ (2147483647 : Int) from by decide)
  · exact fr_e2 (j := 5) (i := 6) (v := -1) (w := -1) (fun _ => rfl) (by decide) (by decide)
  · exact fr_e2 (j := 6) (i := 8) (v := 41) (w := -1) (fun _ => rfl) (by decide) (by decide)
  · exact fr_e2 (j := 6) (i := 8) (v := 41) (w := -1) (fun _ => rfl) (by decide) (by decide)
theorem fr_iv : iv_I fr_I := by
  intro c i
  unfold fr_I
  by_cases hi : i < 0
  · rw [if_pos hi]; exact fr_B c i
  · rw [if_neg hi]
    obtain ⟨b, rfl⟩ := Int.eq_ofNat_of_zero_le (show 0 ≤ i by omega)
    rw [Int.toNat_natCast]
    have hq := fr_all c b
    unfold px_IX
    dsimp only
    cases hb : Nat.beq (px_IT.get c).1 c with
    | false => exact fr_B c b
    | true =>
      have e := Nat.eq_of_beq_eq_true hb
      rcases hq with hq | hq
      · show (iv_B c b).1 ≤ ((px_IT.get c).2 b).toInt ∧ ((px_IT.get c).2 b).toInt ≤ (iv_B c b).2
        rw [hq]; exact fr_B c b
      · rw [e] at hq; exact hq
theorem fr_0 {c : Nat} (h : ∀ b : Nat, px_IX c b = 0) (i : Int) : fr_I c i = 0 := by
  unfold fr_I
  by_cases hi : i < 0
  · rw [if_pos hi]
  · rw [if_neg hi, h]; rfl
theorem fr_l96 (c : Nat) (h1 : fr_I c 1 = 0) (h2 : fr_I c 2 = 0) (h9 : fr_I c 9 = 0) (hs : iv_s4 (fr_I c) 114) : iv_l fr_I c :=
  ⟨fun h => by omega, fun w h0 h1' h2' => by omega, hs, fun r h0 h1' => by omega⟩
theorem fr_A : iv_A fr_s0.1 fr_s0.2.2 := by
  refine ⟨fr_iv, ⟨⟨72, rfl, Or.inl rfl⟩, ⟨73, rfl, Or.inr rfl⟩, (fun t (e : (none : Option Nat) = some t) => by cases e), (fun t (e : (none : Option Nat) = some t) => by cases e)⟩, ⟨?_, ?_, ?_, ?_, ?_⟩, ?_, ?_⟩
  · intro j h0 h1; exact Or.inl (Int.le_of_eq (fr_0 (c := 16) (fun _ => rfl) j))
  · intro j h0 h1; exact Or.inl (Int.le_of_eq (fr_0 (c := 80) (fun _ => rfl) j))
  · intro r j h0 h1; exact Or.inl (Int.le_of_eq (fr_0 (c := 23) (fun _ => rfl) _))
  · intro r j h0 h1; exact Or.inl (Int.le_of_eq (fr_0 (c := 87) (fun _ => rfl) _))
  · intro t k h0 h1 k0 k1
    have : fr_I 98 (705 * t) = 0 := fr_0 (c := 98) (fun _ => rfl) _
    have k1 : k < fr_I 98 (705 * t) := k1
    omega
  · exact fr_l96 96 rfl rfl rfl (show fr_I 96 114 + fr_I 96 (114 + 3) + fr_I 96 (114 + 6) + fr_I 96 (114 + 9) ≤ 24 from by decide +kernel)
  · exact fr_l96 97 rfl rfl rfl (show fr_I 97 114 + fr_I 97 (114 + 3) + fr_I 97 (114 + 6) + fr_I 97 (114 + 9) ≤ 24 from by decide +kernel)
theorem fr_H : lf_H fr_s0 = px_hX := by
  have e1 : (fun (c i : Nat) => Int32.ofInt (fr_s0.1 c i)) = px_IX := by
    funext c i
    show Int32.ofInt (fr_I c i) = px_IX c i
    unfold fr_I
    rw [if_neg (by omega), Int.toNat_natCast, Int32.ofInt_toInt]
  have e2 : (fun (c i : Nat) => Int64.ofInt (fr_s0.2.1 c i)) = px_JX := rfl
  have e3 : lf_P fr_s0.2.2 = px_PX := by
    funext c f
    unfold lf_P
    cases h1 : (Nat.beq c 68 && Nat.beq f 6) with
    | true =>
      rw [Bool.and_eq_true] at h1
      have a := Nat.eq_of_beq_eq_true h1.1
      have b := Nat.eq_of_beq_eq_true h1.2
      subst a b
      rfl
    | false =>
      cases h2 : (Nat.beq c 68 && Nat.beq f 7) with
      | true =>
        rw [Bool.and_eq_true] at h2
        have a := Nat.eq_of_beq_eq_true h2.1
        have b := Nat.eq_of_beq_eq_true h2.2
        subst a b
        rfl
      | false =>
        cases h3 : (Nat.beq c 31 && Nat.beq f 5) with
        | true =>
          rw [Bool.and_eq_true] at h3
          have a := Nat.eq_of_beq_eq_true h3.1
          have b := Nat.eq_of_beq_eq_true h3.2
          subst a b
          rfl
        | false =>
          cases h4 : (Nat.beq c 63 && Nat.beq f 2) with
          | true =>
            rw [Bool.and_eq_true] at h4
            have a := Nat.eq_of_beq_eq_true h4.1
            have b := Nat.eq_of_beq_eq_true h4.2
            subst a b
            rfl
          | false => rfl
  show (px_shX, (fun (c i : Nat) => Int32.ofInt (fr_s0.1 c i)), (fun (c i : Nat) => Int64.ofInt (fr_s0.2.1 c i)), lf_P fr_s0.2.2) = px_hX
  rw [e1, e2, e3]
  rfl
theorem fr_tp : tp_A fr_s0.1 := by
  have z : ∀ {c : Nat}, (∀ b : Nat, px_IX c b = 0) → ∀ i : Int, fr_s0.1 c i = 0 := fun h i => fr_0 h i
  exact ⟨rfl, funext fun i => (z (c := 32) (fun _ => rfl) i).trans (z (c := 99) (fun _ => rfl) i).symm, rfl, rfl, rfl, rfl, rfl, rfl⟩
end FRT
