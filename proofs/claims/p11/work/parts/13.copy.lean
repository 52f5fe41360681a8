-- the reference's copy, Arrays.fill
def px_kCopy : Nat := 181
theorem px_copy_loop {ro : px_RO} {d a b na nb : Nat} {sh : List px_Sh} {I : Nat → Nat → Int32} {J : Nat → Nat → Int64} {P : Nat → Nat → Option Nat} (ha : sh[a]? = some (.inl (0, na))) (hb : sh[b]? = some (.inl (0, nb))) (hna : 1538 ≤ na) (hnb : 1538 ≤ nb) (hna2 : na < 2 ^ 31) (hnb2 : nb < 2 ^ 31) (hab : a ≠ b) (hsa : Nat.ble px_SC a = false) (hsb : Nat.blt b px_SC = true) :
    ∀ (m i : Nat), i + m = 1538 → px_E ro (d + 1) 181 (2, [(2, .int (nI i)), (0, .ref a), (1, .ref b)], [], (sh, px_rw I b (fun j => bif Nat.blt j i then I a j else I b j), J, P)) none (sh, px_rw I b (fun j => bif Nat.blt j 1538 then I a j else I b j), J, P) := by
  intro m
  induction m with
  | zero =>
    intro i hi
    have e : i = 1538 := by omega
    subst e
    refine px_E_seg 3 (σ' := (21, [(2, .int 1538), (0, .ref a), (1, .ref b)], [], (sh, px_rw I b (fun j => bif Nat.blt j 1538 then I a j else I b j), J, P))) rfl ?_
    exact px_E_ret rfl rfl
  | succ m ih =>
    intro i hi
    refine px_E_seg 2 (σ' := (6, [(2, .int (nI i)), (0, .ref a), (1, .ref b)], [.int 1538, .int (nI i)], (sh, px_rw I b (fun j => bif Nat.blt j i then I a j else I b j), J, P))) rfl ?_
    refine px_E_icmp (t := 21) rfl rfl (fun c => ?_) (fun c => ?_)
    · exact absurd c (nI_ge (a := i) (b := 1538) (by omega) (by decide))
    · refine px_E_seg 4 (σ' := (13, [(2, .int (nI i)), (0, .ref a), (1, .ref b)], [.int (nI i), .ref a, .int (nI i), .ref b], (sh, px_rw I b (fun j => bif Nat.blt j i then I a j else I b j), J, P))) rfl ?_
      refine px_E_iald (n := na) (j := i) rfl ha hsa rfl (by omega) hna2 ?_
      refine px_E_iast (n := nb) (j := i) rfl hb hsb rfl (by omega) hnb2 ?_
      have e : px_up (px_rw I b (fun j => bif Nat.blt j i then I a j else I b j)) b i (px_rw I b (fun j => bif Nat.blt j i then I a j else I b j) a i) = px_rw I b (fun j => bif Nat.blt j (i + 1) then I a j else I b j) := by
        rw [px_rw_ne hab]
        funext x y
        unfold px_up px_rw
        by_cases hx : x = b
        · subst hx
          rw [show Nat.beq x x = true from Nat.beq_refl x]
          dsimp only [cond_true]
          by_cases hy : y = i
          · subst hy
            rw [show Nat.beq y y = true from Nat.beq_refl y, show Nat.blt y (y + 1) = true from Nat.ble_eq_true_of_le (Nat.le_refl _)]
            rfl
          · rw [px_beqN hy]
            dsimp only [cond_false]
            rcases Nat.lt_or_ge y i with q | q
            · rw [show Nat.blt y i = true from Nat.ble_eq_true_of_le q, show Nat.blt y (i + 1) = true from Nat.ble_eq_true_of_le (by omega)]
            · have q1 : Nat.blt y i = false := by
                cases hz : Nat.blt y i with
                | false => rfl
                | true => exact absurd (px_bltT hz) (by omega)
              have q2 : Nat.blt y (i + 1) = false := by
                cases hz : Nat.blt y (i + 1) with
                | false => rfl
                | true => exact absurd (px_bltT hz) (by omega)
              rw [q1, q2]
        · rw [px_beqN hx]
          rfl
      dsimp only
      rw [e]
      refine px_E_seg 2 (σ' := (2, [(2, .int (nI i + 1)), (0, .ref a), (1, .ref b)], [], (sh, px_rw I b (fun j => bif Nat.blt j (i + 1) then I a j else I b j), J, P))) rfl ?_
      rw [nI_1]
      exact ih (i + 1) (by omega)
