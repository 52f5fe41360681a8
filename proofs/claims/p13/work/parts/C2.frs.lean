/-! the fresh heap keeps the ranges -/
section FRS
def fr_K (p : Int × Int) : Prop := p.1 ≤ 0 ∧ 0 ≤ p.2
theorem fr_it {P : Prop} [Decidable P] {a b : Int × Int} (h1 : fr_K a) (h2 : fr_K b) : fr_K (if P then a else b) := by
  by_cases h : P
  · rw [if_pos h]; exact h1
  · rw [if_neg h]; exact h2
theorem fr_a (i : Int) : fr_K (iv_a i) := by
  unfold iv_a
  repeat' refine fr_it ?_ ?_
  all_goals exact ⟨by decide, by decide⟩
theorem fr_s (i : Int) : fr_K (iv_s i) := by
  unfold iv_s
  repeat' refine fr_it ?_ ?_
  all_goals exact ⟨by decide, by decide⟩
theorem fr_xx (i : Int) : fr_K (iv_x i) := by
  unfold iv_x
  repeat' refine fr_it ?_ ?_
  all_goals exact ⟨by decide, by decide⟩
theorem fr_T : ∀ f ∈ iv_T, ∀ i : Int, fr_K (f i) := by
  unfold iv_T
  repeat' refine List.forall_mem_cons.mpr ⟨?_, ?_⟩
  all_goals first | (intro f hf; cases hf; done) | exact fr_a | exact fr_s | exact fr_xx | (intro i; unfold iv_F; exact ⟨by decide, by decide⟩) | (intro i; dsimp only; exact ⟨by decide, by decide⟩) | (intro i; dsimp only; repeat' refine fr_it ?_ ?_) <;> exact ⟨by decide, by decide⟩
theorem fr_B (c : Nat) (i : Int) : (iv_B c i).1 ≤ 0 ∧ 0 ≤ (iv_B c i).2 := by
  unfold iv_B
  rw [List.getD_eq_getElem?_getD]
  cases h : iv_T[c]? with
  | none => show (-2147483648 : Int) ≤ 0 ∧ (0 : Int) ≤ 2147483647; exact ⟨by decide, by decide⟩
  | some f => exact fr_T f (List.mem_of_getElem? h) i
def fr_I (c : Nat) (i : Int) : Int := if i < 0 then 0 else (px_IX c i.toNat).toInt
def fr_s0 : lf_Z := (fr_I, fun _ _ => 0, fun q => bif Nat.beq q 0 then some 72 else bif Nat.beq q 1 then some 73 else none)
end FRS
section FRT
theorem fr_get {α : Type} {P : α → Prop} : ∀ t : Lean.RArray α, (∀ n, P (t.get n)) → ∀ n, P (t.get n) := fun _ h n => h n
def fr_Q (q : Nat × (Nat → Int32)) : Prop := ∀ b : Nat, q.2 b = 0 ∨ ((iv_B q.1 b).1 ≤ (q.2 b).toInt ∧ (q.2 b).toInt ≤ (iv_B q.1 b).2)
theorem fr_br {P : (Nat × (Nat → Int32)) → Prop} {p n : Nat} {l r : Lean.RArray (Nat × (Nat → Int32))} (h1 : P (l.get n)) (h2 : P (r.get n)) : P ((Lean.RArray.branch p l r).get n) := by
  show P (Bool.rec (motive := fun _ => Nat × (Nat → Int32)) (l.get n) (r.get n) (Nat.ble p n))
  cases Nat.ble p n with
  | false => exact h1
  | true => exact h2
theorem fr_lf {P : (Nat × (Nat → Int32)) → Prop} {n : Nat} {q : Nat × (Nat → Int32)} (h : P q) : P ((Lean.RArray.leaf q).get n) := h
theorem fr_e {k : Nat} {f : Nat → Int32} {j : Nat} {v : Int32} (hf : ∀ b, f b = bif Nat.beq b j then v else 0) (hv : (iv_B k j).1 ≤ v.toInt ∧ v.toInt ≤ (iv_B k j).2) : fr_Q (k, f) := by
  intro b
  show f b = 0 ∨ ((iv_B k b).1 ≤ (f b).toInt ∧ (f b).toInt ≤ (iv_B k b).2)
  rw [hf b]
  cases hb : Nat.beq b j with
  | false => exact Or.inl rfl
  | true =>
    have e := Nat.eq_of_beq_eq_true hb
    subst e
    exact Or.inr hv
theorem fr_l {k : Nat} {f : Nat → Int32} {j : Nat} {v : Int32} (hf : ∀ b, f b = bif Nat.blt b j then v else 0) (hv : ∀ b : Nat, (iv_B k b).1 ≤ v.toInt ∧ v.toInt ≤ (iv_B k b).2) : fr_Q (k, f) := by
  intro b
  show f b = 0 ∨ ((iv_B k b).1 ≤ (f b).toInt ∧ (f b).toInt ≤ (iv_B k b).2)
  rw [hf b]
  cases hb : Nat.blt b j with
  | false => exact Or.inl rfl
  | true => exact Or.inr (hv b)
theorem fr_e2 {k : Nat} {f : Nat → Int32} {j i : Nat} {v w : Int32} (hf : ∀ b, f b = bif Nat.beq b j then v else bif Nat.beq b i then w else 0) (hv : (iv_B k j).1 ≤ v.toInt ∧ v.toInt ≤ (iv_B k j).2) (hw : (iv_B k i).1 ≤ w.toInt ∧ w.toInt ≤ (iv_B k i).2) : fr_Q (k, f) := by
  intro b
  show f b = 0 ∨ ((iv_B k b).1 ≤ (f b).toInt ∧ (f b).toInt ≤ (iv_B k b).2)
  rw [hf b]
  cases hb : Nat.beq b j with
  | false =>
    cases hc : Nat.beq b i with
    | false => exact Or.inl rfl
    | true =>
      have e := Nat.eq_of_beq_eq_true hc
      subst e
      exact Or.inr hw
  | true =>
    have e := Nat.eq_of_beq_eq_true hb
    subst e
    exact Or.inr hv
theorem fr_13 : fr_Q (13, px_i13) := by
  intro b
  show px_i13 b = 0 ∨ ((0 : Int) ≤ (px_i13 b).toInt ∧ (px_i13 b).toInt ≤ (1000 : Int))
  unfold px_i13
  cases Nat.blt b 144 with
  | false => exact Or.inl rfl
  | true =>
    cases Nat.beq (b % 13) 0 with
    | true => exact Or.inl rfl
    | false => exact Or.inr (by decide)
theorem fr_all (n : Nat) : fr_Q (px_IT.get n) := by
  unfold px_IT
  repeat' refine fr_br ?_ ?_
  all_goals refine fr_lf ?_
  · exact fr_e (j := 12) (v := -1) (fun _ => rfl) (by decide)
  · exact fr_13
  · exact fr_e (j := 8) (v := 41) (fun _ => rfl) (by decide)
  · exact fr_l (j := 4) (v := -1) (fun _ => rfl) (fun b => show (-1 : Int) ≤ _ ∧ _ ≤ (11 : Int) from by decide)
  · exact fr_l (j := 4) (v := -1) (fun _ => rfl) (fun b => show (-1 : Int) ≤ _ ∧ _ ≤ (11 : Int) from by decide)
  · exact fr_l (j := 6) (v := -1) (fun _ => rfl) (fun b => show (-2147483648 : Int) ≤ _ ∧ _ ≤ (2147483647 : Int) from by decide)
  · exact fr_l (j := 16) (v := -10000) (fun _ => rfl) (fun b => show (-2147483648 : Int) ≤ _ ∧ _ ≤ (2147483647 : Int) from by decide)
  · exact fr_e2 (j := 2) (i := 3) (v := -1) (w := -1) (fun _ => rfl) (by decide) (by decide)
  · exact fr_e (j := 4) (v := -1) (fun _ => rfl) (by decide)
  · exact fr_e (j := 8) (v := 41) (fun _ => rfl) (by decide)
  · exact fr_l (j := 4) (v := -1) (fun _ => rfl) (fun b => show (-1 : Int) ≤ _ ∧ _ ≤ (11 : Int) from by decide)
  · exact fr_l (j := 4) (v := -1) (fun _ => rfl) (fun b => show (-1 : Int) ≤ _ ∧ _ ≤ (11 : Int) from by decide)
  · exact fr_l (j := 6) (v := -1) (fun _ => rfl) (fun b => show (-2147483648 : Int) ≤ _ ∧ _ ≤ (2147483647 : Int) from by decide)
  · exact fr_l (j := 16) (v := -10000) (fun _ => rfl) (fun b => show (-2147483648 : Int) ≤ _ ∧ _ ≤ (2147483647 : Int) from by decide)
  · exact fr_e2 (j := 5) (i := 6) (v := -1) (w := -1) (fun _ => rfl) (by decide) (by decide)
  · exact fr_e2 (j := 6) (i := 8) (v := 41) (w := -1) (fun _ => rfl) (by decide) (by decide)
  · exact fr_e2 (j := 6) (i := 8) (v := 41) (w := -1) (fun _ => rfl) (by decide) (by decide)
theorem fr_iv : iv_I fr_I := by
  intro c i
  unfold fr_I
  by_cases hi : i < 0
  · rw [if_pos hi]; exact fr_B c i
  · rw [if_neg hi]
    obtain ⟨b, rfl⟩ := Int.eq_ofNat_of_zero_le (show 0 ≤ i by omega)
    rw [Int.toNat_natCast]
    have hq := fr_all c b
    unfold px_IX
    dsimp only
    cases hb : Nat.beq (px_IT.get c).1 c with
    | false => exact fr_B c b
    | true =>
      have e := Nat.eq_of_beq_eq_true hb
      rcases hq with hq | hq
      · show (iv_B c b).1 ≤ ((px_IT.get c).2 b).toInt ∧ ((px_IT.get c).2 b).toInt ≤ (iv_B c b).2
        rw [hq]; exact fr_B c b
      · rw [e] at hq; exact hq
theorem fr_0 {c : Nat} (h : ∀ b : Nat, px_IX c b = 0) (i : Int) : fr_I c i = 0 := by
  unfold fr_I
  by_cases hi : i < 0
  · rw [if_pos hi]
  · rw [if_neg hi, h]; rfl
theorem fr_l96 (c : Nat) (h1 : fr_I c 1 = 0) (h2 : fr_I c 2 = 0) (h9 : fr_I c 9 = 0) (hs : iv_s4 (fr_I c) 114) : iv_l fr_I c :=
  ⟨fun h => by omega, fun w h0 h1' h2' => by omega, hs, fun r h0 h1' => by omega⟩
theorem fr_A : iv_A fr_s0.1 fr_s0.2.2 := by
  refine ⟨fr_iv, ⟨⟨72, rfl, Or.inl rfl⟩, ⟨73, rfl, Or.inr rfl⟩, (fun t (e : (none : Option Nat) = some t) => by cases e), (fun t (e : (none : Option Nat) = some t) => by cases e)⟩, ⟨?_, ?_, ?_, ?_, ?_⟩, ?_, ?_⟩
  · intro j h0 h1; exact Or.inl (Int.le_of_eq (fr_0 (c := 16) (fun _ => rfl) j))
  · intro j h0 h1; exact Or.inl (Int.le_of_eq (fr_0 (c := 80) (fun _ => rfl) j))
  · intro r j h0 h1; exact Or.inl (Int.le_of_eq (fr_0 (c := 23) (fun _ => rfl) _))
  · intro r j h0 h1; exact Or.inl (Int.le_of_eq (fr_0 (c := 87) (fun _ => rfl) _))
  · intro t k h0 h1 k0 k1
    have : fr_I 98 (705 * t) = 0 := fr_0 (c := 98) (fun _ => rfl) _
    have k1 : k < fr_I 98 (705 * t) := k1
    omega
  · exact fr_l96 96 rfl rfl rfl (show fr_I 96 114 + fr_I 96 (114 + 3) + fr_I 96 (114 + 6) + fr_I 96 (114 + 9) ≤ 24 from by decide +kernel)
  · exact fr_l96 97 rfl rfl rfl (show fr_I 97 114 + fr_I 97 (114 + 3) + fr_I 97 (114 + 6) + fr_I 97 (114 + 9) ≤ 24 from by decide +kernel)
theorem fr_H : lf_H fr_s0 = px_hX := by
  have e1 : (fun (c i : Nat) => Int32.ofInt (fr_s0.1 c i)) = px_IX := by
    funext c i
    show Int32.ofInt (fr_I c i) = px_IX c i
    unfold fr_I
    rw [if_neg (by omega), Int.toNat_natCast, Int32.ofInt_toInt]
  have e2 : (fun (c i : Nat) => Int64.ofInt (fr_s0.2.1 c i)) = px_JX := rfl
  have e3 : lf_P fr_s0.2.2 = px_PX := by
    funext c f
    unfold lf_P
    cases h1 : (Nat.beq c 68 && Nat.beq f 6) with
    | true =>
      rw [Bool.and_eq_true] at h1
      have a := Nat.eq_of_beq_eq_true h1.1
      have b := Nat.eq_of_beq_eq_true h1.2
      subst a b
      rfl
    | false =>
      cases h2 : (Nat.beq c 68 && Nat.beq f 7) with
      | true =>
        rw [Bool.and_eq_true] at h2
        have a := Nat.eq_of_beq_eq_true h2.1
        have b := Nat.eq_of_beq_eq_true h2.2
        subst a b
        rfl
      | false =>
        cases h3 : (Nat.beq c 31 && Nat.beq f 5) with
        | true =>
          rw [Bool.and_eq_true] at h3
          have a := Nat.eq_of_beq_eq_true h3.1
          have b := Nat.eq_of_beq_eq_true h3.2
          subst a b
          rfl
        | false =>
          cases h4 : (Nat.beq c 63 && Nat.beq f 2) with
          | true =>
            rw [Bool.and_eq_true] at h4
            have a := Nat.eq_of_beq_eq_true h4.1
            have b := Nat.eq_of_beq_eq_true h4.2
            subst a b
            rfl
          | false => rfl
  show (px_shX, (fun (c i : Nat) => Int32.ofInt (fr_s0.1 c i)), (fun (c i : Nat) => Int64.ofInt (fr_s0.2.1 c i)), lf_P fr_s0.2.2) = px_hX
  rw [e1, e2, e3]
  rfl
theorem fr_tr : tr_A fr_s0.1 := by
  have z : ∀ {c : Nat}, (∀ b : Nat, px_IX c b = 0) → ∀ i : Int, fr_s0.1 c i = 0 := fun h i => fr_0 h i
  have e11 : fr_s0.1 96 11 = 0 := rfl
  have e12 : fr_s0.1 97 11 = 0 := rfl
  refine ⟨?_, ?_⟩
  · unfold tr_T
    rw [e11]
    exact ⟨Int.le_refl _, by decide, fun j a b => by omega, fun h _ _ => ⟨(z (c := 29) (fun _ => rfl) h).trans lf_tm0.symm, (z (c := 30) (fun _ => rfl) h).trans lf_tm0.symm⟩⟩
  · unfold tr_T
    rw [e12]
    exact ⟨Int.le_refl _, by decide, fun j a b => by omega, fun h _ _ => ⟨(z (c := 93) (fun _ => rfl) h).trans lf_tm0.symm, (z (c := 94) (fun _ => rfl) h).trans lf_tm0.symm⟩⟩
end FRT
section FRG
theorem fr_tp : tp_A fr_s0.1 := by
  have z : ∀ {c : Nat}, (∀ b : Nat, px_IX c b = 0) → ∀ i : Int, fr_s0.1 c i = 0 := fun h i => fr_0 h i
  exact ⟨rfl, funext fun i => (z (c := 32) (fun _ => rfl) i).trans (z (c := 99) (fun _ => rfl) i).symm, rfl, rfl, rfl, rfl, rfl, rfl⟩
def fr_f (j : Int) : Int := if j < 12 then (if j % 3 = 0 then 0 else -1) else if j < 24 then (if j % 2 = 0 then 0 else -1) else if j = 38 then 41 else 0
theorem fr_q4 {b : Int} (h0 : 0 ≤ b) (h1 : b < 4) : b = 0 ∨ b = 1 ∨ b = 2 ∨ b = 3 := by omega
theorem fr_q6 {b : Int} (h0 : 0 ≤ b) (h1 : b < 6) : b = 0 ∨ b = 1 ∨ b = 2 ∨ b = 3 ∨ b = 4 ∨ b = 5 := by omega
theorem fr_f24 {s : Int} (h0 : 0 ≤ s) (h1 : s < 14) : fr_f (24 + s) = 0 := by
  unfold fr_f
  rw [if_neg (by omega), if_neg (by omega), if_neg (by omega)]
theorem fr_rS : rc_S fr_I fr_f := by
  refine ⟨fun b b0 b1 => ?_, fun p p0 p1 => ?_, fun s s0 s1 => (fr_0 (c := 21) (fun _ => rfl) s).trans (fr_f24 s0 (by omega)).symm, rfl, rfl, rfl⟩
  · rcases fr_q4 b0 b1 with rfl | rfl | rfl | rfl <;> decide +kernel
  · rcases fr_q6 p0 p1 with rfl | rfl | rfl | rfl | rfl | rfl <;> decide +kernel
theorem fr_rSk : rc_S (bk_c 64 fr_I) fr_f := by
  refine ⟨fun b b0 b1 => ?_, fun p p0 p1 => ?_, fun s s0 s1 => (fr_0 (c := 85) (fun _ => rfl) s).trans (fr_f24 s0 (by omega)).symm, rfl, rfl, rfl⟩
  · rcases fr_q4 b0 b1 with rfl | rfl | rfl | rfl <;> decide +kernel
  · rcases fr_q6 p0 p1 with rfl | rfl | rfl | rfl | rfl | rfl <;> decide +kernel
theorem fr_rH : rc_H fr_I [] := ⟨rfl, by decide, by decide +kernel, by decide +kernel, trivial⟩
theorem fr_rHk : rc_H (bk_c 64 fr_I) [] := ⟨rfl, by decide, by decide +kernel, by decide +kernel, trivial⟩
theorem fr_gP {J : Nat → Int → Int} (e0 : J 1 0 = 0) (e1 : J 1 1 = 0) (e2 : J 1 2 = 0) : gp_J J fr_f ∧ mi_H J [] := by
  refine ⟨⟨⟨fun q q0 q1 => by omega, fun b b0 b1 => ?_, by decide, by decide⟩, ⟨fun s s0 s1 => fr_f24 (by omega) (by omega), fun w w0 w1 => ?_⟩, by decide, by decide⟩, ⟨by decide, fun h hh => by cases hh⟩⟩
  · rcases fr_q4 b0 b1 with rfl | rfl | rfl | rfl <;> exact fun h => absurd h (by decide)
  · show bt_t 0 w = false
    exact bt_t0
theorem fr_row {b : Nat} (h : b < 16) : px_i28 b = -10000 := by
  unfold px_i28
  have : Nat.blt b 16 = true := Nat.ble_eq_true_of_le h
  rw [this]; rfl
theorem fr_rowk {b : Nat} (h : b < 16) : px_i92 b = -10000 := by
  unfold px_i92
  have : Nat.blt b 16 = true := Nat.ble_eq_true_of_le h
  rw [this]; rfl
theorem fr_gm : gr_m 0 (fr_I 28) (fr_I 96) := ⟨fun w w0 w1 => by omega, fun w w0 w1 => by
  have h : fr_I 28 w = (px_i28 w.toNat).toInt := if_neg (by omega)
  rw [h, fr_row (by omega)]; rfl⟩
theorem fr_gmk : gr_m 0 (fr_I 92) (fr_I 97) := ⟨fun w w0 w1 => by omega, fun w w0 w1 => by
  have h : fr_I 92 w = (px_i92 w.toNat).toInt := if_neg (by omega)
  rw [h, fr_rowk (by omega)]; rfl⟩
theorem fr_z96 {i : Int} (h : i ≠ 6) (h8 : i ≠ 8) (h0 : 0 ≤ i) : fr_I 96 i = 0 := by
  have e : fr_I 96 i = (px_i96 i.toNat).toInt := if_neg (by omega)
  rw [e]
  unfold px_i96
  have e1 : Nat.beq i.toNat 6 = false := by
    cases q : Nat.beq i.toNat 6 with
    | false => rfl
    | true => have := Nat.eq_of_beq_eq_true q; omega
  have e2 : Nat.beq i.toNat 8 = false := by
    cases q : Nat.beq i.toNat 8 with
    | false => rfl
    | true => have := Nat.eq_of_beq_eq_true q; omega
  rw [e1, e2]; rfl
theorem fr_z97 {i : Int} (h : i ≠ 6) (h8 : i ≠ 8) (h0 : 0 ≤ i) : fr_I 97 i = 0 := by
  have e : fr_I 97 i = (px_i97 i.toNat).toInt := if_neg (by omega)
  rw [e]
  unfold px_i97
  have e1 : Nat.beq i.toNat 6 = false := by
    cases q : Nat.beq i.toNat 6 with
    | false => rfl
    | true => have := Nat.eq_of_beq_eq_true q; omega
  have e2 : Nat.beq i.toNat 8 = false := by
    cases q : Nat.beq i.toNat 8 with
    | false => rfl
    | true => have := Nat.eq_of_beq_eq_true q; omega
  rw [e1, e2]; rfl
theorem fr_gT {J : Nat → Int → Int} {A sv : Int → Int} (e0 : J 1 0 = 0) (e1 : J 1 1 = 0) (e2 : J 1 2 = 0) (z : ∀ i : Int, i ≠ 6 → i ≠ 8 → 0 ≤ i → A i = 0) (z6 : A 6 = 41) (hm : gr_m 0 sv A) : gr_T sv J fr_f [] A := by
  refine ⟨⟨by rw [e0]; exact z 0 (by decide) (by decide) (by decide), by rw [e1]; exact z 1 (by decide) (by decide) (by decide), by rw [e2]; exact z 2 (by decide) (by decide) (by decide), fun q q0 q1 => by omega, fun q q0 q1 => by omega, fun q q0 q1 => by omega⟩, ⟨z 3 (by decide) (by decide) (by decide), z6, fun b b0 b1 => ⟨?_, fun h => ?_⟩, fun p p0 p1 => by omega, fun s s0 s1 => (z _ (by omega) (by omega) (by omega)).trans (fr_f24 s0 (by omega)).symm, fun w w0 w1 => by omega⟩, ⟨z 9 (by decide) (by decide) (by decide), trivial⟩, by rw [e1]; exact hm⟩
  · rw [z _ (by omega) (by omega) (by omega)]
    rcases fr_q4 b0 b1 with rfl | rfl | rfl | rfl <;> rfl
  · exfalso
    rcases fr_q4 b0 b1 with rfl | rfl | rfl | rfl <;> exact h rfl
theorem fr_i13 : ∀ i : Fin 12, ∀ j : Fin 12, (px_i13 (i.val * 12 + j.val)).toInt = if i = j then 0 else 1000 := by decide +kernel
theorem fr_gF : gj_F fr_I := by
  have e0 : fr_I 1 0 = 0 := rfl
  have e1 : fr_I 1 1 = 0 := rfl
  have e2 : fr_I 1 2 = 0 := rfl
  have z : ∀ {c : Nat}, (∀ b : Nat, px_IX c b = 0) → ∀ i : Int, fr_I c i = 0 := fun h i => fr_0 h i
  refine ⟨⟨by rw [e0]; decide, by rw [e1]; decide, by rw [e2]; decide, fun w w0 w1 => by omega, fun s s0 s1 => ⟨?_, ?_, fun w w1 => by omega⟩, ?_, fun i j i0 i1 j0 j1 _ => ?_⟩, ⟨fun w => Or.inl (z (c := 6) (fun _ => rfl) w), fun q => ⟨Or.inl (z (c := 8) (fun _ => rfl) q), Or.inl (z (c := 9) (fun _ => rfl) q)⟩⟩, fun q => ⟨?_, ?_⟩, fun q q0 q1 => by omega⟩
  · rw [e1, z (c := 12) (fun _ => rfl) s]; rfl
  · rw [z (c := 12) (fun _ => rfl) s]; decide
  · rw [e0]
    exact dm_C (dm_0 (m := 0)) (fun i j a1 a2 a3 a4 => by omega) (fun i j => ⟨fun ⟨w, w0, w1, _⟩ => by rw [e1] at w1; omega, fun h => h.elim⟩)
  · unfold mn_d
    have e : fr_I 13 (i * 12 + j) = (px_i13 (i * 12 + j).toNat).toInt := if_neg (by omega)
    have g := fr_i13 ⟨i.toNat, by omega⟩ ⟨j.toNat, by omega⟩
    rw [e, show (i * 12 + j).toNat = i.toNat * 12 + j.toNat by omega]
    refine g.trans ?_
    by_cases y : i = j
    · rw [if_pos y, if_pos (Fin.ext (by show i.toNat = j.toNat; omega))]
    · rw [if_neg y, if_neg (fun q => y (by have := Fin.mk.inj q; omega))]
  · rw [z (c := 7) (fun _ => rfl) q]; decide
  · rw [z (c := 2) (fun _ => rfl) q]; decide
theorem fr_gx : gx_A fr_s0.1 fr_s0.2.2 := by
  have e0 : fr_I 1 0 = 0 := rfl
  have e1 : fr_I 1 1 = 0 := rfl
  have e2 : fr_I 1 2 = 0 := rfl
  have k0 : gx_K fr_I 1 0 = 0 := rfl
  have k1 : gx_K fr_I 1 1 = 0 := rfl
  have k2 : gx_K fr_I 1 2 = 0 := rfl
  have gp := fr_gP e0 e1 e2
  show gx_A fr_I fr_s0.2.2
  refine ⟨⟨fr_f, [], ⟨fr_gF, gp.1, gp.2⟩, ⟨fr_rS, fr_rH⟩, fr_gT e0 e1 e2 (fun i a b c => fr_z96 a b c) rfl fr_gm⟩, ?_, ⟨⟨fun w w0 w1 => by omega, fun q q0 q1 => by omega⟩, fr_f, [], fr_gP k0 k1 k2, ⟨fr_rSk, fr_rHk⟩, fr_gT k0 k1 k2 (fun i a b c => fr_z97 a b c) rfl fr_gmk⟩, ?_, fr_tp, fr_tr, ?_, ?_, ?_⟩
  · exact ⟨⟨by decide +kernel, by decide +kernel⟩, ⟨by decide +kernel, by decide +kernel⟩, by decide +kernel, by decide +kernel⟩
  · refine ⟨by decide +kernel, fun k hk => ?_, by decide +kernel, ?_, by decide +kernel, by decide +kernel⟩
    · have : fr_I 0 11 = 0 := rfl
      omega
    · have : fr_I 0 12 = -1 := rfl
      rw [this]; rfl
  · have : fr_I 25 2 = 0 := rfl
    unfold gx_7
    rw [this]
    exact ⟨by decide +kernel, fun k a b => by omega⟩
  · have : fr_I 89 2 = 0 := rfl
    unfold gx_8
    rw [this]
    exact ⟨by decide +kernel, fun k a b => by omega⟩
  · exact ⟨rfl, rfl, by decide +kernel, by decide +kernel⟩
end FRG
