/-- what is known of the reference's row while minutes go by on a fresh object -/
def px_kr (I : Nat → Nat → Int32) (i t : Nat) (a b : Nat) : Int32 := bif Nat.beq a 96 then (bif Nat.blt b 3 then 0 else bif Nat.beq b 3 then nI i else bif Nat.beq b 9 then nI t else bif Nat.beq b 114 then 0 else bif Nat.beq b 117 then 0 else bif Nat.beq b 120 then 0 else bif Nat.beq b 123 then 0 else I 96 b) else I a b
theorem px_kr_eq {I : Nat → Nat → Int32} {i t : Nat} (h0 : ∀ b, b < 3 → I 96 b = 0) (h3 : I 96 3 = nI i) (h9 : I 96 9 = nI t) (h1 : I 96 114 = 0) (h2 : I 96 117 = 0) (h4 : I 96 120 = 0) (h5 : I 96 123 = 0) : px_kr I i t = I := by
  funext a b
  unfold px_kr
  by_cases ha : a = 96
  · subst ha
    show (bif Nat.blt b 3 then 0 else bif Nat.beq b 3 then nI i else bif Nat.beq b 9 then nI t else bif Nat.beq b 114 then 0 else bif Nat.beq b 117 then 0 else bif Nat.beq b 120 then 0 else bif Nat.beq b 123 then 0 else I 96 b) = I 96 b
    rcases Nat.lt_or_ge b 3 with q | q
    · rw [px_bltY q]; exact (h0 b q).symm
    · rw [px_bltF q]
      dsimp only [cond_false]
      by_cases e3 : b = 3
      · subst e3; exact h3.symm
      by_cases e9 : b = 9
      · subst e9; exact h9.symm
      by_cases f1 : b = 114
      · subst f1; exact h1.symm
      by_cases f2 : b = 117
      · subst f2; exact h2.symm
      by_cases f3 : b = 120
      · subst f3; exact h4.symm
      by_cases f4 : b = 123
      · subst f4; exact h5.symm
      rw [px_beqN e3, px_beqN e9, px_beqN f1, px_beqN f2, px_beqN f3, px_beqN f4]
      rfl
  · rw [px_beqN ha]; rfl
theorem px_kr_hi {I : Nat → Nat → Int32} {i t j : Nat} {v : Int32} (hj : 278 ≤ j) : px_up (px_kr I i t) 96 j v = px_kr (px_up I 96 j v) i t := by
  funext a b
  by_cases ha : a = 96
  · subst ha
    by_cases hb : b = j
    · subst hb
      rw [px_up_in]
      unfold px_kr
      rw [px_up_in, px_bltF (by omega), px_beqN (show b ≠ 3 by omega), px_beqN (show b ≠ 9 by omega), px_beqN (show b ≠ 114 by omega), px_beqN (show b ≠ 117 by omega), px_beqN (show b ≠ 120 by omega), px_beqN (show b ≠ 123 by omega)]
      rfl
    · rw [px_up_out (fun _ => hb)]
      unfold px_kr
      rw [px_up_out (fun _ => hb)]
  · rw [px_up_ne ha]
    unfold px_kr
    rw [px_beqN ha, px_up_ne ha]
    rfl
theorem px_kr_9 {I : Nat → Nat → Int32} {i t t' : Nat} {v : Int32} (hv : v = nI t') : px_up (px_kr I i t) 96 9 v = px_kr I i t' := by
  subst hv
  funext a b
  by_cases ha : a = 96
  · subst ha
    by_cases hb : b = 9
    · subst hb; rw [px_up_in]; rfl
    · rw [px_up_out (fun _ => hb)]
      unfold px_kr
      rw [px_beqN hb]
      rfl
  · rw [px_up_ne ha]
    unfold px_kr
    rw [px_beqN ha]
    rfl
theorem px_kr_3 {I : Nat → Nat → Int32} {i i' t : Nat} {v : Int32} (hv : v = nI i') : px_up (px_kr I i t) 96 3 v = px_kr I i' t := by
  subst hv
  funext a b
  by_cases ha : a = 96
  · subst ha
    by_cases hb : b = 3
    · subst hb; rw [px_up_in]; rfl
    · rw [px_up_out (fun _ => hb)]
      unfold px_kr
      rw [px_beqN hb]
      rfl
  · rw [px_up_ne ha]
    unfold px_kr
    rw [px_beqN ha]
    rfl
theorem px_X_hi {ro : px_RO} {d k pc j i t : Nat} {lv : px_L} {st : List Value} {x v : Int32} {I : Nat → Nat → Int32} {J : Nat → Nat → Int64} {P : Nat → Nat → Option Nat} {r : Option Value} {F : (Nat → Nat → Int32) → px_H} (hf : px_fetch k pc = some (.iastore, 1)) (hx : x = nI j) (h1 : 278 ≤ j) (h2 : j < 1538) (kk : ∀ I, ∃ I', px_E ro (d + 1) k (pc + 1, lv, st, (px_shX, px_kr I i t, J, P)) r (F I')) : ∃ I', px_E ro (d + 1) k (pc, lv, .int v :: .int x :: .ref 96 :: st, (px_shX, px_kr I i t, J, P)) r (F I') := by
  obtain ⟨I', h⟩ := kk (px_up I 96 j v)
  rw [← px_kr_hi h1] at h
  exact ⟨I', px_E_iast (n := 1538) (j := j) hf rfl rfl hx h2 (by decide) h⟩
set_option maxRecDepth 100000 in
set_option maxHeartbeats 4000000 in
theorem px_passR {ro : px_RO} {d : Nat} (I : Nat → Nat → Int32) (i t : Nat) {Jc : Nat → Nat → Int64} {Pc : Nat → Nat → Option Nat} : px_M ro (d + 4) 260 [.ref 95] (px_shX, (px_kr I i t), (px_mJ Jc), (px_mP Pc)) none (px_shX, (px_up (px_kr I i t) 96 3 ((nI i) + 1)), (px_mJ Jc), (px_mP Pc)) := by
  show px_E ro (d + 4) 260 (0, _, [], _) _ _
  refine px_E_seg 6 (σ' := (8, [(1, .int 0), (0, .ref 95)], [.int 2, .ref 96, .int 0], (px_shX, (px_kr I i t), (px_mJ Jc), (px_mP Pc)))) rfl ?_
  refine px_E_seg 6 (σ' := (69, [(1, .int 0), (0, .ref 95)], [.int 4, .int 0], (px_shX, (px_kr I i t), (px_mJ Jc), (px_mP Pc)))) rfl ?_
  refine px_E_seg 3 (σ' := (74, [(1, .int 0), (0, .ref 95)], [.int 0, .ref 95], (px_shX, (px_kr I i t), (px_mJ Jc), (px_mP Pc)))) rfl ?_
  refine px_E_call (j := 242) (as := [.ref 95, .int 0]) (rest := []) (v := some (.int 0)) (h1 := (px_shX, (px_kr I i t), (px_mJ Jc), (px_mP Pc))) rfl rfl rfl (by
    refine px_E_seg 5 (σ' := (8, [(0, .ref 95), (1, .int 0)], [.int 0, .int 3, .int 114, .ref 96], (px_shX, (px_kr I i t), (px_mJ Jc), (px_mP Pc)))) rfl ?_
    refine px_E_seg 1 (σ' := (9, [(0, .ref 95), (1, .int 0)], [.int 0, .int 114, .ref 96], (px_shX, (px_kr I i t), (px_mJ Jc), (px_mP Pc)))) rfl ?_
    refine px_E_seg 2 (σ' := (11, [(0, .ref 95), (1, .int 0)], [.int 0], (px_shX, (px_kr I i t), (px_mJ Jc), (px_mP Pc)))) rfl ?_
    exact px_E_ret rfl rfl) ?_
  refine px_E_seg 6 (σ' := (69, [(1, .int 1), (0, .ref 95)], [.int 4, .int 1], (px_shX, (px_kr I i t), (px_mJ Jc), (px_mP Pc)))) rfl ?_
  refine px_E_seg 3 (σ' := (74, [(1, .int 1), (0, .ref 95)], [.int 1, .ref 95], (px_shX, (px_kr I i t), (px_mJ Jc), (px_mP Pc)))) rfl ?_
  refine px_E_call (j := 242) (as := [.ref 95, .int 1]) (rest := []) (v := some (.int 0)) (h1 := (px_shX, (px_kr I i t), (px_mJ Jc), (px_mP Pc))) rfl rfl rfl (by
    refine px_E_seg 5 (σ' := (8, [(0, .ref 95), (1, .int 1)], [.int 1, .int 3, .int 114, .ref 96], (px_shX, (px_kr I i t), (px_mJ Jc), (px_mP Pc)))) rfl ?_
    refine px_E_seg 1 (σ' := (9, [(0, .ref 95), (1, .int 1)], [.int 3, .int 114, .ref 96], (px_shX, (px_kr I i t), (px_mJ Jc), (px_mP Pc)))) rfl ?_
    refine px_E_seg 2 (σ' := (11, [(0, .ref 95), (1, .int 1)], [.int 0], (px_shX, (px_kr I i t), (px_mJ Jc), (px_mP Pc)))) rfl ?_
    exact px_E_ret rfl rfl) ?_
  refine px_E_seg 6 (σ' := (69, [(1, .int 2), (0, .ref 95)], [.int 4, .int 2], (px_shX, (px_kr I i t), (px_mJ Jc), (px_mP Pc)))) rfl ?_
  refine px_E_seg 3 (σ' := (74, [(1, .int 2), (0, .ref 95)], [.int 2, .ref 95], (px_shX, (px_kr I i t), (px_mJ Jc), (px_mP Pc)))) rfl ?_
  refine px_E_call (j := 242) (as := [.ref 95, .int 2]) (rest := []) (v := some (.int 0)) (h1 := (px_shX, (px_kr I i t), (px_mJ Jc), (px_mP Pc))) rfl rfl rfl (by
    refine px_E_seg 5 (σ' := (8, [(0, .ref 95), (1, .int 2)], [.int 2, .int 3, .int 114, .ref 96], (px_shX, (px_kr I i t), (px_mJ Jc), (px_mP Pc)))) rfl ?_
    refine px_E_seg 1 (σ' := (9, [(0, .ref 95), (1, .int 2)], [.int 6, .int 114, .ref 96], (px_shX, (px_kr I i t), (px_mJ Jc), (px_mP Pc)))) rfl ?_
    refine px_E_seg 2 (σ' := (11, [(0, .ref 95), (1, .int 2)], [.int 0], (px_shX, (px_kr I i t), (px_mJ Jc), (px_mP Pc)))) rfl ?_
    exact px_E_ret rfl rfl) ?_
  refine px_E_seg 6 (σ' := (69, [(1, .int 3), (0, .ref 95)], [.int 4, .int 3], (px_shX, (px_kr I i t), (px_mJ Jc), (px_mP Pc)))) rfl ?_
  refine px_E_seg 3 (σ' := (74, [(1, .int 3), (0, .ref 95)], [.int 3, .ref 95], (px_shX, (px_kr I i t), (px_mJ Jc), (px_mP Pc)))) rfl ?_
  refine px_E_call (j := 242) (as := [.ref 95, .int 3]) (rest := []) (v := some (.int 0)) (h1 := (px_shX, (px_kr I i t), (px_mJ Jc), (px_mP Pc))) rfl rfl rfl (by
    refine px_E_seg 5 (σ' := (8, [(0, .ref 95), (1, .int 3)], [.int 3, .int 3, .int 114, .ref 96], (px_shX, (px_kr I i t), (px_mJ Jc), (px_mP Pc)))) rfl ?_
    refine px_E_seg 1 (σ' := (9, [(0, .ref 95), (1, .int 3)], [.int 9, .int 114, .ref 96], (px_shX, (px_kr I i t), (px_mJ Jc), (px_mP Pc)))) rfl ?_
    refine px_E_seg 2 (σ' := (11, [(0, .ref 95), (1, .int 3)], [.int 0], (px_shX, (px_kr I i t), (px_mJ Jc), (px_mP Pc)))) rfl ?_
    exact px_E_ret rfl rfl) ?_
  refine px_E_seg 6 (σ' := (69, [(1, .int 4), (0, .ref 95)], [.int 4, .int 4], (px_shX, (px_kr I i t), (px_mJ Jc), (px_mP Pc)))) rfl ?_
  refine px_E_seg 6 (σ' := (120, [(1, .int 0), (0, .ref 95)], [], (px_shX, (px_kr I i t), (px_mJ Jc), (px_mP Pc)))) rfl ?_
  refine px_E_seg 2 (σ' := (122, [(1, .int 0), (0, .ref 95)], [.int 0, .ref 95], (px_shX, (px_kr I i t), (px_mJ Jc), (px_mP Pc)))) rfl ?_
  refine px_E_call (j := 242) (as := [.ref 95, .int 0]) (rest := []) (v := some (.int 0)) (h1 := (px_shX, (px_kr I i t), (px_mJ Jc), (px_mP Pc))) rfl rfl rfl (by
    refine px_E_seg 5 (σ' := (8, [(0, .ref 95), (1, .int 0)], [.int 0, .int 3, .int 114, .ref 96], (px_shX, (px_kr I i t), (px_mJ Jc), (px_mP Pc)))) rfl ?_
    refine px_E_seg 1 (σ' := (9, [(0, .ref 95), (1, .int 0)], [.int 0, .int 114, .ref 96], (px_shX, (px_kr I i t), (px_mJ Jc), (px_mP Pc)))) rfl ?_
    refine px_E_seg 2 (σ' := (11, [(0, .ref 95), (1, .int 0)], [.int 0], (px_shX, (px_kr I i t), (px_mJ Jc), (px_mP Pc)))) rfl ?_
    exact px_E_ret rfl rfl) ?_
  refine px_E_seg 6 (σ' := (120, [(1, .int 1), (0, .ref 95)], [], (px_shX, (px_kr I i t), (px_mJ Jc), (px_mP Pc)))) rfl ?_
  refine px_E_seg 2 (σ' := (122, [(1, .int 1), (0, .ref 95)], [.int 1, .ref 95], (px_shX, (px_kr I i t), (px_mJ Jc), (px_mP Pc)))) rfl ?_
  refine px_E_call (j := 242) (as := [.ref 95, .int 1]) (rest := []) (v := some (.int 0)) (h1 := (px_shX, (px_kr I i t), (px_mJ Jc), (px_mP Pc))) rfl rfl rfl (by
    refine px_E_seg 5 (σ' := (8, [(0, .ref 95), (1, .int 1)], [.int 1, .int 3, .int 114, .ref 96], (px_shX, (px_kr I i t), (px_mJ Jc), (px_mP Pc)))) rfl ?_
    refine px_E_seg 1 (σ' := (9, [(0, .ref 95), (1, .int 1)], [.int 3, .int 114, .ref 96], (px_shX, (px_kr I i t), (px_mJ Jc), (px_mP Pc)))) rfl ?_
    refine px_E_seg 2 (σ' := (11, [(0, .ref 95), (1, .int 1)], [.int 0], (px_shX, (px_kr I i t), (px_mJ Jc), (px_mP Pc)))) rfl ?_
    exact px_E_ret rfl rfl) ?_
  refine px_E_seg 6 (σ' := (120, [(1, .int 2), (0, .ref 95)], [], (px_shX, (px_kr I i t), (px_mJ Jc), (px_mP Pc)))) rfl ?_
  refine px_E_seg 2 (σ' := (122, [(1, .int 2), (0, .ref 95)], [.int 2, .ref 95], (px_shX, (px_kr I i t), (px_mJ Jc), (px_mP Pc)))) rfl ?_
  refine px_E_call (j := 242) (as := [.ref 95, .int 2]) (rest := []) (v := some (.int 0)) (h1 := (px_shX, (px_kr I i t), (px_mJ Jc), (px_mP Pc))) rfl rfl rfl (by
    refine px_E_seg 5 (σ' := (8, [(0, .ref 95), (1, .int 2)], [.int 2, .int 3, .int 114, .ref 96], (px_shX, (px_kr I i t), (px_mJ Jc), (px_mP Pc)))) rfl ?_
    refine px_E_seg 1 (σ' := (9, [(0, .ref 95), (1, .int 2)], [.int 6, .int 114, .ref 96], (px_shX, (px_kr I i t), (px_mJ Jc), (px_mP Pc)))) rfl ?_
    refine px_E_seg 2 (σ' := (11, [(0, .ref 95), (1, .int 2)], [.int 0], (px_shX, (px_kr I i t), (px_mJ Jc), (px_mP Pc)))) rfl ?_
    exact px_E_ret rfl rfl) ?_
  refine px_E_seg 6 (σ' := (120, [(1, .int 3), (0, .ref 95)], [], (px_shX, (px_kr I i t), (px_mJ Jc), (px_mP Pc)))) rfl ?_
  refine px_E_seg 2 (σ' := (122, [(1, .int 3), (0, .ref 95)], [.int 3, .ref 95], (px_shX, (px_kr I i t), (px_mJ Jc), (px_mP Pc)))) rfl ?_
  refine px_E_call (j := 242) (as := [.ref 95, .int 3]) (rest := []) (v := some (.int 0)) (h1 := (px_shX, (px_kr I i t), (px_mJ Jc), (px_mP Pc))) rfl rfl rfl (by
    refine px_E_seg 5 (σ' := (8, [(0, .ref 95), (1, .int 3)], [.int 3, .int 3, .int 114, .ref 96], (px_shX, (px_kr I i t), (px_mJ Jc), (px_mP Pc)))) rfl ?_
    refine px_E_seg 1 (σ' := (9, [(0, .ref 95), (1, .int 3)], [.int 9, .int 114, .ref 96], (px_shX, (px_kr I i t), (px_mJ Jc), (px_mP Pc)))) rfl ?_
    refine px_E_seg 2 (σ' := (11, [(0, .ref 95), (1, .int 3)], [.int 0], (px_shX, (px_kr I i t), (px_mJ Jc), (px_mP Pc)))) rfl ?_
    exact px_E_ret rfl rfl) ?_
  refine px_E_seg 6 (σ' := (169, [(1, .int 4), (0, .ref 95)], [], (px_shX, (px_kr I i t), (px_mJ Jc), (px_mP Pc)))) rfl ?_
  refine px_E_seg 1 (σ' := (170, [(1, .int 4), (0, .ref 95)], [.ref 95], (px_shX, (px_kr I i t), (px_mJ Jc), (px_mP Pc)))) rfl ?_
  refine px_E_call (j := 278) (as := [.ref 95]) (rest := []) (v := none) (h1 := (px_shX, (px_kr I i t), (px_mJ Jc), (px_mP Pc))) rfl rfl rfl (by
    refine px_E_seg 6 (σ' := (8, [(1, .int 0), (0, .ref 95)], [.int 0], (px_shX, (px_kr I i t), (px_mJ Jc), (px_mP Pc)))) rfl ?_
    refine px_E_seg 1 (σ' := (9, [(1, .int 0), (0, .ref 95)], [.int 1, .int 0], (px_shX, (px_kr I i t), (px_mJ Jc), (px_mP Pc)))) rfl ?_
    refine px_E_seg 6 (σ' := (17, [(2, .int 1), (1, .int 0), (0, .ref 95)], [.ref 95], (px_shX, (px_kr I i t), (px_mJ Jc), (px_mP Pc)))) rfl ?_
    refine px_E_seg 1 (σ' := (18, [(2, .int 1), (1, .int 0), (0, .ref 95)], [.int 0, .ref 95], (px_shX, (px_kr I i t), (px_mJ Jc), (px_mP Pc)))) rfl ?_
    refine px_E_call (j := 242) (as := [.ref 95, .int 0]) (rest := []) (v := some (.int 0)) (h1 := (px_shX, (px_kr I i t), (px_mJ Jc), (px_mP Pc))) rfl rfl rfl (by
      refine px_E_seg 5 (σ' := (8, [(0, .ref 95), (1, .int 0)], [.int 0, .int 3, .int 114, .ref 96], (px_shX, (px_kr I i t), (px_mJ Jc), (px_mP Pc)))) rfl ?_
      refine px_E_seg 1 (σ' := (9, [(0, .ref 95), (1, .int 0)], [.int 0, .int 114, .ref 96], (px_shX, (px_kr I i t), (px_mJ Jc), (px_mP Pc)))) rfl ?_
      refine px_E_seg 2 (σ' := (11, [(0, .ref 95), (1, .int 0)], [.int 0], (px_shX, (px_kr I i t), (px_mJ Jc), (px_mP Pc)))) rfl ?_
      exact px_E_ret rfl rfl) ?_
    refine px_E_seg 6 (σ' := (16, [(2, .int 2), (1, .int 0), (0, .ref 95)], [], (px_shX, (px_kr I i t), (px_mJ Jc), (px_mP Pc)))) rfl ?_
    refine px_E_seg 2 (σ' := (18, [(2, .int 2), (1, .int 0), (0, .ref 95)], [.int 0, .ref 95], (px_shX, (px_kr I i t), (px_mJ Jc), (px_mP Pc)))) rfl ?_
    refine px_E_call (j := 242) (as := [.ref 95, .int 0]) (rest := []) (v := some (.int 0)) (h1 := (px_shX, (px_kr I i t), (px_mJ Jc), (px_mP Pc))) rfl rfl rfl (by
      refine px_E_seg 5 (σ' := (8, [(0, .ref 95), (1, .int 0)], [.int 0, .int 3, .int 114, .ref 96], (px_shX, (px_kr I i t), (px_mJ Jc), (px_mP Pc)))) rfl ?_
      refine px_E_seg 1 (σ' := (9, [(0, .ref 95), (1, .int 0)], [.int 0, .int 114, .ref 96], (px_shX, (px_kr I i t), (px_mJ Jc), (px_mP Pc)))) rfl ?_
      refine px_E_seg 2 (σ' := (11, [(0, .ref 95), (1, .int 0)], [.int 0], (px_shX, (px_kr I i t), (px_mJ Jc), (px_mP Pc)))) rfl ?_
      exact px_E_ret rfl rfl) ?_
    refine px_E_seg 6 (σ' := (16, [(2, .int 3), (1, .int 0), (0, .ref 95)], [], (px_shX, (px_kr I i t), (px_mJ Jc), (px_mP Pc)))) rfl ?_
    refine px_E_seg 2 (σ' := (18, [(2, .int 3), (1, .int 0), (0, .ref 95)], [.int 0, .ref 95], (px_shX, (px_kr I i t), (px_mJ Jc), (px_mP Pc)))) rfl ?_
    refine px_E_call (j := 242) (as := [.ref 95, .int 0]) (rest := []) (v := some (.int 0)) (h1 := (px_shX, (px_kr I i t), (px_mJ Jc), (px_mP Pc))) rfl rfl rfl (by
      refine px_E_seg 5 (σ' := (8, [(0, .ref 95), (1, .int 0)], [.int 0, .int 3, .int 114, .ref 96], (px_shX, (px_kr I i t), (px_mJ Jc), (px_mP Pc)))) rfl ?_
      refine px_E_seg 1 (σ' := (9, [(0, .ref 95), (1, .int 0)], [.int 0, .int 114, .ref 96], (px_shX, (px_kr I i t), (px_mJ Jc), (px_mP Pc)))) rfl ?_
      refine px_E_seg 2 (σ' := (11, [(0, .ref 95), (1, .int 0)], [.int 0], (px_shX, (px_kr I i t), (px_mJ Jc), (px_mP Pc)))) rfl ?_
      exact px_E_ret rfl rfl) ?_
    refine px_E_seg 6 (σ' := (85, [(2, .int 4), (1, .int 0), (0, .ref 95)], [], (px_shX, (px_kr I i t), (px_mJ Jc), (px_mP Pc)))) rfl ?_
    refine px_E_seg 6 (σ' := (8, [(1, .int 1), (2, .int 4), (0, .ref 95)], [.int 1], (px_shX, (px_kr I i t), (px_mJ Jc), (px_mP Pc)))) rfl ?_
    refine px_E_seg 1 (σ' := (9, [(1, .int 1), (2, .int 4), (0, .ref 95)], [.int 1, .int 1], (px_shX, (px_kr I i t), (px_mJ Jc), (px_mP Pc)))) rfl ?_
    refine px_E_seg 6 (σ' := (17, [(2, .int 2), (1, .int 1), (0, .ref 95)], [.ref 95], (px_shX, (px_kr I i t), (px_mJ Jc), (px_mP Pc)))) rfl ?_
    refine px_E_seg 1 (σ' := (18, [(2, .int 2), (1, .int 1), (0, .ref 95)], [.int 1, .ref 95], (px_shX, (px_kr I i t), (px_mJ Jc), (px_mP Pc)))) rfl ?_
    refine px_E_call (j := 242) (as := [.ref 95, .int 1]) (rest := []) (v := some (.int 0)) (h1 := (px_shX, (px_kr I i t), (px_mJ Jc), (px_mP Pc))) rfl rfl rfl (by
      refine px_E_seg 5 (σ' := (8, [(0, .ref 95), (1, .int 1)], [.int 1, .int 3, .int 114, .ref 96], (px_shX, (px_kr I i t), (px_mJ Jc), (px_mP Pc)))) rfl ?_
      refine px_E_seg 1 (σ' := (9, [(0, .ref 95), (1, .int 1)], [.int 3, .int 114, .ref 96], (px_shX, (px_kr I i t), (px_mJ Jc), (px_mP Pc)))) rfl ?_
      refine px_E_seg 2 (σ' := (11, [(0, .ref 95), (1, .int 1)], [.int 0], (px_shX, (px_kr I i t), (px_mJ Jc), (px_mP Pc)))) rfl ?_
      exact px_E_ret rfl rfl) ?_
    refine px_E_seg 6 (σ' := (16, [(2, .int 3), (1, .int 1), (0, .ref 95)], [], (px_shX, (px_kr I i t), (px_mJ Jc), (px_mP Pc)))) rfl ?_
    refine px_E_seg 2 (σ' := (18, [(2, .int 3), (1, .int 1), (0, .ref 95)], [.int 1, .ref 95], (px_shX, (px_kr I i t), (px_mJ Jc), (px_mP Pc)))) rfl ?_
    refine px_E_call (j := 242) (as := [.ref 95, .int 1]) (rest := []) (v := some (.int 0)) (h1 := (px_shX, (px_kr I i t), (px_mJ Jc), (px_mP Pc))) rfl rfl rfl (by
      refine px_E_seg 5 (σ' := (8, [(0, .ref 95), (1, .int 1)], [.int 1, .int 3, .int 114, .ref 96], (px_shX, (px_kr I i t), (px_mJ Jc), (px_mP Pc)))) rfl ?_
      refine px_E_seg 1 (σ' := (9, [(0, .ref 95), (1, .int 1)], [.int 3, .int 114, .ref 96], (px_shX, (px_kr I i t), (px_mJ Jc), (px_mP Pc)))) rfl ?_
      refine px_E_seg 2 (σ' := (11, [(0, .ref 95), (1, .int 1)], [.int 0], (px_shX, (px_kr I i t), (px_mJ Jc), (px_mP Pc)))) rfl ?_
      exact px_E_ret rfl rfl) ?_
    refine px_E_seg 6 (σ' := (85, [(2, .int 4), (1, .int 1), (0, .ref 95)], [], (px_shX, (px_kr I i t), (px_mJ Jc), (px_mP Pc)))) rfl ?_
    refine px_E_seg 6 (σ' := (8, [(1, .int 2), (2, .int 4), (0, .ref 95)], [.int 2], (px_shX, (px_kr I i t), (px_mJ Jc), (px_mP Pc)))) rfl ?_
    refine px_E_seg 1 (σ' := (9, [(1, .int 2), (2, .int 4), (0, .ref 95)], [.int 1, .int 2], (px_shX, (px_kr I i t), (px_mJ Jc), (px_mP Pc)))) rfl ?_
    refine px_E_seg 6 (σ' := (17, [(2, .int 3), (1, .int 2), (0, .ref 95)], [.ref 95], (px_shX, (px_kr I i t), (px_mJ Jc), (px_mP Pc)))) rfl ?_
    refine px_E_seg 1 (σ' := (18, [(2, .int 3), (1, .int 2), (0, .ref 95)], [.int 2, .ref 95], (px_shX, (px_kr I i t), (px_mJ Jc), (px_mP Pc)))) rfl ?_
    refine px_E_call (j := 242) (as := [.ref 95, .int 2]) (rest := []) (v := some (.int 0)) (h1 := (px_shX, (px_kr I i t), (px_mJ Jc), (px_mP Pc))) rfl rfl rfl (by
      refine px_E_seg 5 (σ' := (8, [(0, .ref 95), (1, .int 2)], [.int 2, .int 3, .int 114, .ref 96], (px_shX, (px_kr I i t), (px_mJ Jc), (px_mP Pc)))) rfl ?_
      refine px_E_seg 1 (σ' := (9, [(0, .ref 95), (1, .int 2)], [.int 6, .int 114, .ref 96], (px_shX, (px_kr I i t), (px_mJ Jc), (px_mP Pc)))) rfl ?_
      refine px_E_seg 2 (σ' := (11, [(0, .ref 95), (1, .int 2)], [.int 0], (px_shX, (px_kr I i t), (px_mJ Jc), (px_mP Pc)))) rfl ?_
      exact px_E_ret rfl rfl) ?_
    refine px_E_seg 6 (σ' := (85, [(2, .int 4), (1, .int 2), (0, .ref 95)], [], (px_shX, (px_kr I i t), (px_mJ Jc), (px_mP Pc)))) rfl ?_
    refine px_E_seg 6 (σ' := (8, [(1, .int 3), (2, .int 4), (0, .ref 95)], [.int 3], (px_shX, (px_kr I i t), (px_mJ Jc), (px_mP Pc)))) rfl ?_
    refine px_E_seg 1 (σ' := (9, [(1, .int 3), (2, .int 4), (0, .ref 95)], [.int 1, .int 3], (px_shX, (px_kr I i t), (px_mJ Jc), (px_mP Pc)))) rfl ?_
    refine px_E_seg 6 (σ' := (88, [(1, .int 4), (2, .int 4), (0, .ref 95)], [], (px_shX, (px_kr I i t), (px_mJ Jc), (px_mP Pc)))) rfl ?_
    refine px_E_seg 4 (σ' := (91, [(1, .int 4), (2, .int 4), (0, .ref 95)], [], (px_shX, (px_kr I i t), (px_mJ Jc), (px_mP Pc)))) rfl ?_
    exact px_E_ret rfl rfl) ?_
  refine px_E_seg 6 (σ' := (181, [(1, .int 4), (0, .ref 95)], [.int 1, .int (nI i), .int 3, .ref 96], (px_shX, (px_kr I i t), (px_mJ Jc), (px_mP Pc)))) rfl ?_
  refine px_E_seg 2 (σ' := (183, [(1, .int 4), (0, .ref 95)], [], (px_shX, (px_up (px_kr I i t) 96 3 ((nI i) + 1)), (px_mJ Jc), (px_mP Pc)))) rfl ?_
  exact px_E_ret rfl rfl
set_option maxRecDepth 100000 in
set_option maxHeartbeats 4000000 in
theorem px_doneR {ro : px_RO} {d : Nat} (I : Nat → Nat → Int32) (i t : Nat) {Jc : Nat → Nat → Int64} {Pc : Nat → Nat → Option Nat} : px_M ro (d + 4) 279 [.ref 95] (px_shX, (px_kr I i t), (px_mJ Jc), (px_mP Pc)) (some (.int 0)) (px_shX, (px_kr I i t), (px_mJ Jc), (px_mP Pc)) := by
  show px_E ro (d + 4) 279 (0, _, [], _) _ _
  refine px_E_seg 6 (σ' := (6, [(2, .int 0), (1, .int 0), (0, .ref 95)], [.ref 95, .int 0], (px_shX, (px_kr I i t), (px_mJ Jc), (px_mP Pc)))) rfl ?_
  refine px_E_seg 5 (σ' := (29, [(2, .int 0), (1, .int 0), (0, .ref 95)], [.int 0], (px_shX, (px_kr I i t), (px_mJ Jc), (px_mP Pc)))) rfl ?_
  exact px_E_ret rfl rfl
set_option maxRecDepth 100000 in
set_option maxHeartbeats 4000000 in
theorem px_getR_0_3 {ro : px_RO} {d : Nat} (I : Nat → Nat → Int32) (i t : Nat) {Jc : Nat → Nat → Int64} {Pc : Nat → Nat → Option Nat} : px_M ro (d + 1) 239 [.ref 95, .int 0, .int 3] (px_shX, (px_kr I i t), (px_mJ Jc), (px_mP Pc)) (some (.int (I 96 129))) (px_shX, (px_kr I i t), (px_mJ Jc), (px_mP Pc)) := by
  show px_E ro (d + 1) 239 (0, _, [], _) _ _
  refine px_E_seg 5 (σ' := (9, [(0, .ref 95), (1, .int 0), (2, .int 3)], [.int 0, .int 6, .int 126, .ref 96], (px_shX, (px_kr I i t), (px_mJ Jc), (px_mP Pc)))) rfl ?_
  refine px_E_seg 1 (σ' := (10, [(0, .ref 95), (1, .int 0), (2, .int 3)], [.int 0, .int 126, .ref 96], (px_shX, (px_kr I i t), (px_mJ Jc), (px_mP Pc)))) rfl ?_
  refine px_E_seg 2 (σ' := (12, [(0, .ref 95), (1, .int 0), (2, .int 3)], [.int 3, .int 126, .ref 96], (px_shX, (px_kr I i t), (px_mJ Jc), (px_mP Pc)))) rfl ?_
  refine px_E_seg 2 (σ' := (14, [(0, .ref 95), (1, .int 0), (2, .int 3)], [.int (I 96 129)], (px_shX, (px_kr I i t), (px_mJ Jc), (px_mP Pc)))) rfl ?_
  exact px_E_ret rfl rfl
set_option maxRecDepth 100000 in
set_option maxHeartbeats 4000000 in
theorem px_getR_0_4 {ro : px_RO} {d : Nat} (I : Nat → Nat → Int32) (i t : Nat) {Jc : Nat → Nat → Int64} {Pc : Nat → Nat → Option Nat} : px_M ro (d + 1) 239 [.ref 95, .int 0, .int 4] (px_shX, (px_kr I i t), (px_mJ Jc), (px_mP Pc)) (some (.int (I 96 130))) (px_shX, (px_kr I i t), (px_mJ Jc), (px_mP Pc)) := by
  show px_E ro (d + 1) 239 (0, _, [], _) _ _
  refine px_E_seg 5 (σ' := (9, [(0, .ref 95), (1, .int 0), (2, .int 4)], [.int 0, .int 6, .int 126, .ref 96], (px_shX, (px_kr I i t), (px_mJ Jc), (px_mP Pc)))) rfl ?_
  refine px_E_seg 1 (σ' := (10, [(0, .ref 95), (1, .int 0), (2, .int 4)], [.int 0, .int 126, .ref 96], (px_shX, (px_kr I i t), (px_mJ Jc), (px_mP Pc)))) rfl ?_
  refine px_E_seg 2 (σ' := (12, [(0, .ref 95), (1, .int 0), (2, .int 4)], [.int 4, .int 126, .ref 96], (px_shX, (px_kr I i t), (px_mJ Jc), (px_mP Pc)))) rfl ?_
  refine px_E_seg 2 (σ' := (14, [(0, .ref 95), (1, .int 0), (2, .int 4)], [.int (I 96 130)], (px_shX, (px_kr I i t), (px_mJ Jc), (px_mP Pc)))) rfl ?_
  exact px_E_ret rfl rfl
set_option maxRecDepth 100000 in
set_option maxHeartbeats 4000000 in
theorem px_getR_1_3 {ro : px_RO} {d : Nat} (I : Nat → Nat → Int32) (i t : Nat) {Jc : Nat → Nat → Int64} {Pc : Nat → Nat → Option Nat} : px_M ro (d + 1) 239 [.ref 95, .int 1, .int 3] (px_shX, (px_kr I i t), (px_mJ Jc), (px_mP Pc)) (some (.int (I 96 135))) (px_shX, (px_kr I i t), (px_mJ Jc), (px_mP Pc)) := by
  show px_E ro (d + 1) 239 (0, _, [], _) _ _
  refine px_E_seg 5 (σ' := (9, [(0, .ref 95), (1, .int 1), (2, .int 3)], [.int 1, .int 6, .int 126, .ref 96], (px_shX, (px_kr I i t), (px_mJ Jc), (px_mP Pc)))) rfl ?_
  refine px_E_seg 1 (σ' := (10, [(0, .ref 95), (1, .int 1), (2, .int 3)], [.int 6, .int 126, .ref 96], (px_shX, (px_kr I i t), (px_mJ Jc), (px_mP Pc)))) rfl ?_
  refine px_E_seg 2 (σ' := (12, [(0, .ref 95), (1, .int 1), (2, .int 3)], [.int 3, .int 132, .ref 96], (px_shX, (px_kr I i t), (px_mJ Jc), (px_mP Pc)))) rfl ?_
  refine px_E_seg 2 (σ' := (14, [(0, .ref 95), (1, .int 1), (2, .int 3)], [.int (I 96 135)], (px_shX, (px_kr I i t), (px_mJ Jc), (px_mP Pc)))) rfl ?_
  exact px_E_ret rfl rfl
set_option maxRecDepth 100000 in
set_option maxHeartbeats 4000000 in
theorem px_getR_1_4 {ro : px_RO} {d : Nat} (I : Nat → Nat → Int32) (i t : Nat) {Jc : Nat → Nat → Int64} {Pc : Nat → Nat → Option Nat} : px_M ro (d + 1) 239 [.ref 95, .int 1, .int 4] (px_shX, (px_kr I i t), (px_mJ Jc), (px_mP Pc)) (some (.int (I 96 136))) (px_shX, (px_kr I i t), (px_mJ Jc), (px_mP Pc)) := by
  show px_E ro (d + 1) 239 (0, _, [], _) _ _
  refine px_E_seg 5 (σ' := (9, [(0, .ref 95), (1, .int 1), (2, .int 4)], [.int 1, .int 6, .int 126, .ref 96], (px_shX, (px_kr I i t), (px_mJ Jc), (px_mP Pc)))) rfl ?_
  refine px_E_seg 1 (σ' := (10, [(0, .ref 95), (1, .int 1), (2, .int 4)], [.int 6, .int 126, .ref 96], (px_shX, (px_kr I i t), (px_mJ Jc), (px_mP Pc)))) rfl ?_
  refine px_E_seg 2 (σ' := (12, [(0, .ref 95), (1, .int 1), (2, .int 4)], [.int 4, .int 132, .ref 96], (px_shX, (px_kr I i t), (px_mJ Jc), (px_mP Pc)))) rfl ?_
  refine px_E_seg 2 (σ' := (14, [(0, .ref 95), (1, .int 1), (2, .int 4)], [.int (I 96 136)], (px_shX, (px_kr I i t), (px_mJ Jc), (px_mP Pc)))) rfl ?_
  exact px_E_ret rfl rfl
set_option maxRecDepth 100000 in
set_option maxHeartbeats 4000000 in
theorem px_getR_2_3 {ro : px_RO} {d : Nat} (I : Nat → Nat → Int32) (i t : Nat) {Jc : Nat → Nat → Int64} {Pc : Nat → Nat → Option Nat} : px_M ro (d + 1) 239 [.ref 95, .int 2, .int 3] (px_shX, (px_kr I i t), (px_mJ Jc), (px_mP Pc)) (some (.int (I 96 141))) (px_shX, (px_kr I i t), (px_mJ Jc), (px_mP Pc)) := by
  show px_E ro (d + 1) 239 (0, _, [], _) _ _
  refine px_E_seg 5 (σ' := (9, [(0, .ref 95), (1, .int 2), (2, .int 3)], [.int 2, .int 6, .int 126, .ref 96], (px_shX, (px_kr I i t), (px_mJ Jc), (px_mP Pc)))) rfl ?_
  refine px_E_seg 1 (σ' := (10, [(0, .ref 95), (1, .int 2), (2, .int 3)], [.int 12, .int 126, .ref 96], (px_shX, (px_kr I i t), (px_mJ Jc), (px_mP Pc)))) rfl ?_
  refine px_E_seg 2 (σ' := (12, [(0, .ref 95), (1, .int 2), (2, .int 3)], [.int 3, .int 138, .ref 96], (px_shX, (px_kr I i t), (px_mJ Jc), (px_mP Pc)))) rfl ?_
  refine px_E_seg 2 (σ' := (14, [(0, .ref 95), (1, .int 2), (2, .int 3)], [.int (I 96 141)], (px_shX, (px_kr I i t), (px_mJ Jc), (px_mP Pc)))) rfl ?_
  exact px_E_ret rfl rfl
set_option maxRecDepth 100000 in
set_option maxHeartbeats 4000000 in
theorem px_getR_2_4 {ro : px_RO} {d : Nat} (I : Nat → Nat → Int32) (i t : Nat) {Jc : Nat → Nat → Int64} {Pc : Nat → Nat → Option Nat} : px_M ro (d + 1) 239 [.ref 95, .int 2, .int 4] (px_shX, (px_kr I i t), (px_mJ Jc), (px_mP Pc)) (some (.int (I 96 142))) (px_shX, (px_kr I i t), (px_mJ Jc), (px_mP Pc)) := by
  show px_E ro (d + 1) 239 (0, _, [], _) _ _
  refine px_E_seg 5 (σ' := (9, [(0, .ref 95), (1, .int 2), (2, .int 4)], [.int 2, .int 6, .int 126, .ref 96], (px_shX, (px_kr I i t), (px_mJ Jc), (px_mP Pc)))) rfl ?_
  refine px_E_seg 1 (σ' := (10, [(0, .ref 95), (1, .int 2), (2, .int 4)], [.int 12, .int 126, .ref 96], (px_shX, (px_kr I i t), (px_mJ Jc), (px_mP Pc)))) rfl ?_
  refine px_E_seg 2 (σ' := (12, [(0, .ref 95), (1, .int 2), (2, .int 4)], [.int 4, .int 138, .ref 96], (px_shX, (px_kr I i t), (px_mJ Jc), (px_mP Pc)))) rfl ?_
  refine px_E_seg 2 (σ' := (14, [(0, .ref 95), (1, .int 2), (2, .int 4)], [.int (I 96 142)], (px_shX, (px_kr I i t), (px_mJ Jc), (px_mP Pc)))) rfl ?_
  exact px_E_ret rfl rfl
set_option maxRecDepth 100000 in
set_option maxHeartbeats 4000000 in
theorem px_getR_3_3 {ro : px_RO} {d : Nat} (I : Nat → Nat → Int32) (i t : Nat) {Jc : Nat → Nat → Int64} {Pc : Nat → Nat → Option Nat} : px_M ro (d + 1) 239 [.ref 95, .int 3, .int 3] (px_shX, (px_kr I i t), (px_mJ Jc), (px_mP Pc)) (some (.int (I 96 147))) (px_shX, (px_kr I i t), (px_mJ Jc), (px_mP Pc)) := by
  show px_E ro (d + 1) 239 (0, _, [], _) _ _
  refine px_E_seg 5 (σ' := (9, [(0, .ref 95), (1, .int 3), (2, .int 3)], [.int 3, .int 6, .int 126, .ref 96], (px_shX, (px_kr I i t), (px_mJ Jc), (px_mP Pc)))) rfl ?_
  refine px_E_seg 1 (σ' := (10, [(0, .ref 95), (1, .int 3), (2, .int 3)], [.int 18, .int 126, .ref 96], (px_shX, (px_kr I i t), (px_mJ Jc), (px_mP Pc)))) rfl ?_
  refine px_E_seg 2 (σ' := (12, [(0, .ref 95), (1, .int 3), (2, .int 3)], [.int 3, .int 144, .ref 96], (px_shX, (px_kr I i t), (px_mJ Jc), (px_mP Pc)))) rfl ?_
  refine px_E_seg 2 (σ' := (14, [(0, .ref 95), (1, .int 3), (2, .int 3)], [.int (I 96 147)], (px_shX, (px_kr I i t), (px_mJ Jc), (px_mP Pc)))) rfl ?_
  exact px_E_ret rfl rfl
set_option maxRecDepth 100000 in
set_option maxHeartbeats 4000000 in
theorem px_getR_3_4 {ro : px_RO} {d : Nat} (I : Nat → Nat → Int32) (i t : Nat) {Jc : Nat → Nat → Int64} {Pc : Nat → Nat → Option Nat} : px_M ro (d + 1) 239 [.ref 95, .int 3, .int 4] (px_shX, (px_kr I i t), (px_mJ Jc), (px_mP Pc)) (some (.int (I 96 148))) (px_shX, (px_kr I i t), (px_mJ Jc), (px_mP Pc)) := by
  show px_E ro (d + 1) 239 (0, _, [], _) _ _
  refine px_E_seg 5 (σ' := (9, [(0, .ref 95), (1, .int 3), (2, .int 4)], [.int 3, .int 6, .int 126, .ref 96], (px_shX, (px_kr I i t), (px_mJ Jc), (px_mP Pc)))) rfl ?_
  refine px_E_seg 1 (σ' := (10, [(0, .ref 95), (1, .int 3), (2, .int 4)], [.int 18, .int 126, .ref 96], (px_shX, (px_kr I i t), (px_mJ Jc), (px_mP Pc)))) rfl ?_
  refine px_E_seg 2 (σ' := (12, [(0, .ref 95), (1, .int 3), (2, .int 4)], [.int 4, .int 144, .ref 96], (px_shX, (px_kr I i t), (px_mJ Jc), (px_mP Pc)))) rfl ?_
  refine px_E_seg 2 (σ' := (14, [(0, .ref 95), (1, .int 3), (2, .int 4)], [.int (I 96 148)], (px_shX, (px_kr I i t), (px_mJ Jc), (px_mP Pc)))) rfl ?_
  exact px_E_ret rfl rfl
set_option maxRecDepth 100000 in
set_option maxHeartbeats 4000000 in
theorem px_getR_4_3 {ro : px_RO} {d : Nat} (I : Nat → Nat → Int32) (i t : Nat) {Jc : Nat → Nat → Int64} {Pc : Nat → Nat → Option Nat} : px_M ro (d + 1) 239 [.ref 95, .int 4, .int 3] (px_shX, (px_kr I i t), (px_mJ Jc), (px_mP Pc)) (some (.int (I 96 153))) (px_shX, (px_kr I i t), (px_mJ Jc), (px_mP Pc)) := by
  show px_E ro (d + 1) 239 (0, _, [], _) _ _
  refine px_E_seg 5 (σ' := (9, [(0, .ref 95), (1, .int 4), (2, .int 3)], [.int 4, .int 6, .int 126, .ref 96], (px_shX, (px_kr I i t), (px_mJ Jc), (px_mP Pc)))) rfl ?_
  refine px_E_seg 1 (σ' := (10, [(0, .ref 95), (1, .int 4), (2, .int 3)], [.int 24, .int 126, .ref 96], (px_shX, (px_kr I i t), (px_mJ Jc), (px_mP Pc)))) rfl ?_
  refine px_E_seg 2 (σ' := (12, [(0, .ref 95), (1, .int 4), (2, .int 3)], [.int 3, .int 150, .ref 96], (px_shX, (px_kr I i t), (px_mJ Jc), (px_mP Pc)))) rfl ?_
  refine px_E_seg 2 (σ' := (14, [(0, .ref 95), (1, .int 4), (2, .int 3)], [.int (I 96 153)], (px_shX, (px_kr I i t), (px_mJ Jc), (px_mP Pc)))) rfl ?_
  exact px_E_ret rfl rfl
set_option maxRecDepth 100000 in
set_option maxHeartbeats 4000000 in
theorem px_getR_4_4 {ro : px_RO} {d : Nat} (I : Nat → Nat → Int32) (i t : Nat) {Jc : Nat → Nat → Int64} {Pc : Nat → Nat → Option Nat} : px_M ro (d + 1) 239 [.ref 95, .int 4, .int 4] (px_shX, (px_kr I i t), (px_mJ Jc), (px_mP Pc)) (some (.int (I 96 154))) (px_shX, (px_kr I i t), (px_mJ Jc), (px_mP Pc)) := by
  show px_E ro (d + 1) 239 (0, _, [], _) _ _
  refine px_E_seg 5 (σ' := (9, [(0, .ref 95), (1, .int 4), (2, .int 4)], [.int 4, .int 6, .int 126, .ref 96], (px_shX, (px_kr I i t), (px_mJ Jc), (px_mP Pc)))) rfl ?_
  refine px_E_seg 1 (σ' := (10, [(0, .ref 95), (1, .int 4), (2, .int 4)], [.int 24, .int 126, .ref 96], (px_shX, (px_kr I i t), (px_mJ Jc), (px_mP Pc)))) rfl ?_
  refine px_E_seg 2 (σ' := (12, [(0, .ref 95), (1, .int 4), (2, .int 4)], [.int 4, .int 150, .ref 96], (px_shX, (px_kr I i t), (px_mJ Jc), (px_mP Pc)))) rfl ?_
  refine px_E_seg 2 (σ' := (14, [(0, .ref 95), (1, .int 4), (2, .int 4)], [.int (I 96 154)], (px_shX, (px_kr I i t), (px_mJ Jc), (px_mP Pc)))) rfl ?_
  exact px_E_ret rfl rfl
set_option maxRecDepth 100000 in
set_option maxHeartbeats 4000000 in
theorem px_getR_5_3 {ro : px_RO} {d : Nat} (I : Nat → Nat → Int32) (i t : Nat) {Jc : Nat → Nat → Int64} {Pc : Nat → Nat → Option Nat} : px_M ro (d + 1) 239 [.ref 95, .int 5, .int 3] (px_shX, (px_kr I i t), (px_mJ Jc), (px_mP Pc)) (some (.int (I 96 159))) (px_shX, (px_kr I i t), (px_mJ Jc), (px_mP Pc)) := by
  show px_E ro (d + 1) 239 (0, _, [], _) _ _
  refine px_E_seg 5 (σ' := (9, [(0, .ref 95), (1, .int 5), (2, .int 3)], [.int 5, .int 6, .int 126, .ref 96], (px_shX, (px_kr I i t), (px_mJ Jc), (px_mP Pc)))) rfl ?_
  refine px_E_seg 1 (σ' := (10, [(0, .ref 95), (1, .int 5), (2, .int 3)], [.int 30, .int 126, .ref 96], (px_shX, (px_kr I i t), (px_mJ Jc), (px_mP Pc)))) rfl ?_
  refine px_E_seg 2 (σ' := (12, [(0, .ref 95), (1, .int 5), (2, .int 3)], [.int 3, .int 156, .ref 96], (px_shX, (px_kr I i t), (px_mJ Jc), (px_mP Pc)))) rfl ?_
  refine px_E_seg 2 (σ' := (14, [(0, .ref 95), (1, .int 5), (2, .int 3)], [.int (I 96 159)], (px_shX, (px_kr I i t), (px_mJ Jc), (px_mP Pc)))) rfl ?_
  exact px_E_ret rfl rfl
set_option maxRecDepth 100000 in
set_option maxHeartbeats 4000000 in
theorem px_getR_5_4 {ro : px_RO} {d : Nat} (I : Nat → Nat → Int32) (i t : Nat) {Jc : Nat → Nat → Int64} {Pc : Nat → Nat → Option Nat} : px_M ro (d + 1) 239 [.ref 95, .int 5, .int 4] (px_shX, (px_kr I i t), (px_mJ Jc), (px_mP Pc)) (some (.int (I 96 160))) (px_shX, (px_kr I i t), (px_mJ Jc), (px_mP Pc)) := by
  show px_E ro (d + 1) 239 (0, _, [], _) _ _
  refine px_E_seg 5 (σ' := (9, [(0, .ref 95), (1, .int 5), (2, .int 4)], [.int 5, .int 6, .int 126, .ref 96], (px_shX, (px_kr I i t), (px_mJ Jc), (px_mP Pc)))) rfl ?_
  refine px_E_seg 1 (σ' := (10, [(0, .ref 95), (1, .int 5), (2, .int 4)], [.int 30, .int 126, .ref 96], (px_shX, (px_kr I i t), (px_mJ Jc), (px_mP Pc)))) rfl ?_
  refine px_E_seg 2 (σ' := (12, [(0, .ref 95), (1, .int 5), (2, .int 4)], [.int 4, .int 156, .ref 96], (px_shX, (px_kr I i t), (px_mJ Jc), (px_mP Pc)))) rfl ?_
  refine px_E_seg 2 (σ' := (14, [(0, .ref 95), (1, .int 5), (2, .int 4)], [.int (I 96 160)], (px_shX, (px_kr I i t), (px_mJ Jc), (px_mP Pc)))) rfl ?_
  exact px_E_ret rfl rfl
set_option maxRecDepth 100000 in
set_option maxHeartbeats 4000000 in
theorem px_daR_0 {ro : px_RO} {d : Nat} (I : Nat → Nat → Int32) (i t : Nat) {Jc : Nat → Nat → Int64} {Pc : Nat → Nat → Option Nat} : px_M ro (d + 1) 246 [.ref 95, .int 0] (px_shX, (px_kr I i t), (px_mJ Jc), (px_mP Pc)) (some (.int (I 96 16))) (px_shX, (px_kr I i t), (px_mJ Jc), (px_mP Pc)) := by
  show px_E ro (d + 1) 246 (0, _, [], _) _ _
  refine px_E_seg 5 (σ' := (8, [(0, .ref 95), (1, .int 0)], [.int 0, .int 3, .int 14, .ref 96], (px_shX, (px_kr I i t), (px_mJ Jc), (px_mP Pc)))) rfl ?_
  refine px_E_seg 1 (σ' := (9, [(0, .ref 95), (1, .int 0)], [.int 0, .int 14, .ref 96], (px_shX, (px_kr I i t), (px_mJ Jc), (px_mP Pc)))) rfl ?_
  refine px_E_seg 2 (σ' := (11, [(0, .ref 95), (1, .int 0)], [.int 2, .int 14, .ref 96], (px_shX, (px_kr I i t), (px_mJ Jc), (px_mP Pc)))) rfl ?_
  refine px_E_seg 2 (σ' := (13, [(0, .ref 95), (1, .int 0)], [.int (I 96 16)], (px_shX, (px_kr I i t), (px_mJ Jc), (px_mP Pc)))) rfl ?_
  exact px_E_ret rfl rfl
set_option maxRecDepth 100000 in
set_option maxHeartbeats 4000000 in
theorem px_daR_1 {ro : px_RO} {d : Nat} (I : Nat → Nat → Int32) (i t : Nat) {Jc : Nat → Nat → Int64} {Pc : Nat → Nat → Option Nat} : px_M ro (d + 1) 246 [.ref 95, .int 1] (px_shX, (px_kr I i t), (px_mJ Jc), (px_mP Pc)) (some (.int (I 96 19))) (px_shX, (px_kr I i t), (px_mJ Jc), (px_mP Pc)) := by
  show px_E ro (d + 1) 246 (0, _, [], _) _ _
  refine px_E_seg 5 (σ' := (8, [(0, .ref 95), (1, .int 1)], [.int 1, .int 3, .int 14, .ref 96], (px_shX, (px_kr I i t), (px_mJ Jc), (px_mP Pc)))) rfl ?_
  refine px_E_seg 1 (σ' := (9, [(0, .ref 95), (1, .int 1)], [.int 3, .int 14, .ref 96], (px_shX, (px_kr I i t), (px_mJ Jc), (px_mP Pc)))) rfl ?_
  refine px_E_seg 2 (σ' := (11, [(0, .ref 95), (1, .int 1)], [.int 2, .int 17, .ref 96], (px_shX, (px_kr I i t), (px_mJ Jc), (px_mP Pc)))) rfl ?_
  refine px_E_seg 2 (σ' := (13, [(0, .ref 95), (1, .int 1)], [.int (I 96 19)], (px_shX, (px_kr I i t), (px_mJ Jc), (px_mP Pc)))) rfl ?_
  exact px_E_ret rfl rfl
set_option maxRecDepth 100000 in
set_option maxHeartbeats 4000000 in
theorem px_daR_2 {ro : px_RO} {d : Nat} (I : Nat → Nat → Int32) (i t : Nat) {Jc : Nat → Nat → Int64} {Pc : Nat → Nat → Option Nat} : px_M ro (d + 1) 246 [.ref 95, .int 2] (px_shX, (px_kr I i t), (px_mJ Jc), (px_mP Pc)) (some (.int (I 96 22))) (px_shX, (px_kr I i t), (px_mJ Jc), (px_mP Pc)) := by
  show px_E ro (d + 1) 246 (0, _, [], _) _ _
  refine px_E_seg 5 (σ' := (8, [(0, .ref 95), (1, .int 2)], [.int 2, .int 3, .int 14, .ref 96], (px_shX, (px_kr I i t), (px_mJ Jc), (px_mP Pc)))) rfl ?_
  refine px_E_seg 1 (σ' := (9, [(0, .ref 95), (1, .int 2)], [.int 6, .int 14, .ref 96], (px_shX, (px_kr I i t), (px_mJ Jc), (px_mP Pc)))) rfl ?_
  refine px_E_seg 2 (σ' := (11, [(0, .ref 95), (1, .int 2)], [.int 2, .int 20, .ref 96], (px_shX, (px_kr I i t), (px_mJ Jc), (px_mP Pc)))) rfl ?_
  refine px_E_seg 2 (σ' := (13, [(0, .ref 95), (1, .int 2)], [.int (I 96 22)], (px_shX, (px_kr I i t), (px_mJ Jc), (px_mP Pc)))) rfl ?_
  exact px_E_ret rfl rfl
set_option maxRecDepth 100000 in
set_option maxHeartbeats 4000000 in
theorem px_daR_3 {ro : px_RO} {d : Nat} (I : Nat → Nat → Int32) (i t : Nat) {Jc : Nat → Nat → Int64} {Pc : Nat → Nat → Option Nat} : px_M ro (d + 1) 246 [.ref 95, .int 3] (px_shX, (px_kr I i t), (px_mJ Jc), (px_mP Pc)) (some (.int (I 96 25))) (px_shX, (px_kr I i t), (px_mJ Jc), (px_mP Pc)) := by
  show px_E ro (d + 1) 246 (0, _, [], _) _ _
  refine px_E_seg 5 (σ' := (8, [(0, .ref 95), (1, .int 3)], [.int 3, .int 3, .int 14, .ref 96], (px_shX, (px_kr I i t), (px_mJ Jc), (px_mP Pc)))) rfl ?_
  refine px_E_seg 1 (σ' := (9, [(0, .ref 95), (1, .int 3)], [.int 9, .int 14, .ref 96], (px_shX, (px_kr I i t), (px_mJ Jc), (px_mP Pc)))) rfl ?_
  refine px_E_seg 2 (σ' := (11, [(0, .ref 95), (1, .int 3)], [.int 2, .int 23, .ref 96], (px_shX, (px_kr I i t), (px_mJ Jc), (px_mP Pc)))) rfl ?_
  refine px_E_seg 2 (σ' := (13, [(0, .ref 95), (1, .int 3)], [.int (I 96 25)], (px_shX, (px_kr I i t), (px_mJ Jc), (px_mP Pc)))) rfl ?_
  exact px_E_ret rfl rfl
set_option maxRecDepth 100000 in
set_option maxHeartbeats 4000000 in
theorem px_daR_4 {ro : px_RO} {d : Nat} (I : Nat → Nat → Int32) (i t : Nat) {Jc : Nat → Nat → Int64} {Pc : Nat → Nat → Option Nat} : px_M ro (d + 1) 246 [.ref 95, .int 4] (px_shX, (px_kr I i t), (px_mJ Jc), (px_mP Pc)) (some (.int (I 96 28))) (px_shX, (px_kr I i t), (px_mJ Jc), (px_mP Pc)) := by
  show px_E ro (d + 1) 246 (0, _, [], _) _ _
  refine px_E_seg 5 (σ' := (8, [(0, .ref 95), (1, .int 4)], [.int 4, .int 3, .int 14, .ref 96], (px_shX, (px_kr I i t), (px_mJ Jc), (px_mP Pc)))) rfl ?_
  refine px_E_seg 1 (σ' := (9, [(0, .ref 95), (1, .int 4)], [.int 12, .int 14, .ref 96], (px_shX, (px_kr I i t), (px_mJ Jc), (px_mP Pc)))) rfl ?_
  refine px_E_seg 2 (σ' := (11, [(0, .ref 95), (1, .int 4)], [.int 2, .int 26, .ref 96], (px_shX, (px_kr I i t), (px_mJ Jc), (px_mP Pc)))) rfl ?_
  refine px_E_seg 2 (σ' := (13, [(0, .ref 95), (1, .int 4)], [.int (I 96 28)], (px_shX, (px_kr I i t), (px_mJ Jc), (px_mP Pc)))) rfl ?_
  exact px_E_ret rfl rfl
set_option maxRecDepth 100000 in
set_option maxHeartbeats 4000000 in
theorem px_daR_5 {ro : px_RO} {d : Nat} (I : Nat → Nat → Int32) (i t : Nat) {Jc : Nat → Nat → Int64} {Pc : Nat → Nat → Option Nat} : px_M ro (d + 1) 246 [.ref 95, .int 5] (px_shX, (px_kr I i t), (px_mJ Jc), (px_mP Pc)) (some (.int (I 96 31))) (px_shX, (px_kr I i t), (px_mJ Jc), (px_mP Pc)) := by
  show px_E ro (d + 1) 246 (0, _, [], _) _ _
  refine px_E_seg 5 (σ' := (8, [(0, .ref 95), (1, .int 5)], [.int 5, .int 3, .int 14, .ref 96], (px_shX, (px_kr I i t), (px_mJ Jc), (px_mP Pc)))) rfl ?_
  refine px_E_seg 1 (σ' := (9, [(0, .ref 95), (1, .int 5)], [.int 15, .int 14, .ref 96], (px_shX, (px_kr I i t), (px_mJ Jc), (px_mP Pc)))) rfl ?_
  refine px_E_seg 2 (σ' := (11, [(0, .ref 95), (1, .int 5)], [.int 2, .int 29, .ref 96], (px_shX, (px_kr I i t), (px_mJ Jc), (px_mP Pc)))) rfl ?_
  refine px_E_seg 2 (σ' := (13, [(0, .ref 95), (1, .int 5)], [.int (I 96 31)], (px_shX, (px_kr I i t), (px_mJ Jc), (px_mP Pc)))) rfl ?_
  exact px_E_ret rfl rfl
set_option maxRecDepth 100000 in
set_option maxHeartbeats 4000000 in
theorem px_daR_6 {ro : px_RO} {d : Nat} (I : Nat → Nat → Int32) (i t : Nat) {Jc : Nat → Nat → Int64} {Pc : Nat → Nat → Option Nat} : px_M ro (d + 1) 246 [.ref 95, .int 6] (px_shX, (px_kr I i t), (px_mJ Jc), (px_mP Pc)) (some (.int (I 96 34))) (px_shX, (px_kr I i t), (px_mJ Jc), (px_mP Pc)) := by
  show px_E ro (d + 1) 246 (0, _, [], _) _ _
  refine px_E_seg 5 (σ' := (8, [(0, .ref 95), (1, .int 6)], [.int 6, .int 3, .int 14, .ref 96], (px_shX, (px_kr I i t), (px_mJ Jc), (px_mP Pc)))) rfl ?_
  refine px_E_seg 1 (σ' := (9, [(0, .ref 95), (1, .int 6)], [.int 18, .int 14, .ref 96], (px_shX, (px_kr I i t), (px_mJ Jc), (px_mP Pc)))) rfl ?_
  refine px_E_seg 2 (σ' := (11, [(0, .ref 95), (1, .int 6)], [.int 2, .int 32, .ref 96], (px_shX, (px_kr I i t), (px_mJ Jc), (px_mP Pc)))) rfl ?_
  refine px_E_seg 2 (σ' := (13, [(0, .ref 95), (1, .int 6)], [.int (I 96 34)], (px_shX, (px_kr I i t), (px_mJ Jc), (px_mP Pc)))) rfl ?_
  exact px_E_ret rfl rfl
set_option maxRecDepth 100000 in
set_option maxHeartbeats 4000000 in
theorem px_daR_7 {ro : px_RO} {d : Nat} (I : Nat → Nat → Int32) (i t : Nat) {Jc : Nat → Nat → Int64} {Pc : Nat → Nat → Option Nat} : px_M ro (d + 1) 246 [.ref 95, .int 7] (px_shX, (px_kr I i t), (px_mJ Jc), (px_mP Pc)) (some (.int (I 96 37))) (px_shX, (px_kr I i t), (px_mJ Jc), (px_mP Pc)) := by
  show px_E ro (d + 1) 246 (0, _, [], _) _ _
  refine px_E_seg 5 (σ' := (8, [(0, .ref 95), (1, .int 7)], [.int 7, .int 3, .int 14, .ref 96], (px_shX, (px_kr I i t), (px_mJ Jc), (px_mP Pc)))) rfl ?_
  refine px_E_seg 1 (σ' := (9, [(0, .ref 95), (1, .int 7)], [.int 21, .int 14, .ref 96], (px_shX, (px_kr I i t), (px_mJ Jc), (px_mP Pc)))) rfl ?_
  refine px_E_seg 2 (σ' := (11, [(0, .ref 95), (1, .int 7)], [.int 2, .int 35, .ref 96], (px_shX, (px_kr I i t), (px_mJ Jc), (px_mP Pc)))) rfl ?_
  refine px_E_seg 2 (σ' := (13, [(0, .ref 95), (1, .int 7)], [.int (I 96 37)], (px_shX, (px_kr I i t), (px_mJ Jc), (px_mP Pc)))) rfl ?_
  exact px_E_ret rfl rfl
set_option maxRecDepth 100000 in
set_option maxHeartbeats 4000000 in
theorem px_daR_8 {ro : px_RO} {d : Nat} (I : Nat → Nat → Int32) (i t : Nat) {Jc : Nat → Nat → Int64} {Pc : Nat → Nat → Option Nat} : px_M ro (d + 1) 246 [.ref 95, .int 8] (px_shX, (px_kr I i t), (px_mJ Jc), (px_mP Pc)) (some (.int (I 96 40))) (px_shX, (px_kr I i t), (px_mJ Jc), (px_mP Pc)) := by
  show px_E ro (d + 1) 246 (0, _, [], _) _ _
  refine px_E_seg 5 (σ' := (8, [(0, .ref 95), (1, .int 8)], [.int 8, .int 3, .int 14, .ref 96], (px_shX, (px_kr I i t), (px_mJ Jc), (px_mP Pc)))) rfl ?_
  refine px_E_seg 1 (σ' := (9, [(0, .ref 95), (1, .int 8)], [.int 24, .int 14, .ref 96], (px_shX, (px_kr I i t), (px_mJ Jc), (px_mP Pc)))) rfl ?_
  refine px_E_seg 2 (σ' := (11, [(0, .ref 95), (1, .int 8)], [.int 2, .int 38, .ref 96], (px_shX, (px_kr I i t), (px_mJ Jc), (px_mP Pc)))) rfl ?_
  refine px_E_seg 2 (σ' := (13, [(0, .ref 95), (1, .int 8)], [.int (I 96 40)], (px_shX, (px_kr I i t), (px_mJ Jc), (px_mP Pc)))) rfl ?_
  exact px_E_ret rfl rfl
set_option maxRecDepth 100000 in
set_option maxHeartbeats 4000000 in
theorem px_daR_9 {ro : px_RO} {d : Nat} (I : Nat → Nat → Int32) (i t : Nat) {Jc : Nat → Nat → Int64} {Pc : Nat → Nat → Option Nat} : px_M ro (d + 1) 246 [.ref 95, .int 9] (px_shX, (px_kr I i t), (px_mJ Jc), (px_mP Pc)) (some (.int (I 96 43))) (px_shX, (px_kr I i t), (px_mJ Jc), (px_mP Pc)) := by
  show px_E ro (d + 1) 246 (0, _, [], _) _ _
  refine px_E_seg 5 (σ' := (8, [(0, .ref 95), (1, .int 9)], [.int 9, .int 3, .int 14, .ref 96], (px_shX, (px_kr I i t), (px_mJ Jc), (px_mP Pc)))) rfl ?_
  refine px_E_seg 1 (σ' := (9, [(0, .ref 95), (1, .int 9)], [.int 27, .int 14, .ref 96], (px_shX, (px_kr I i t), (px_mJ Jc), (px_mP Pc)))) rfl ?_
  refine px_E_seg 2 (σ' := (11, [(0, .ref 95), (1, .int 9)], [.int 2, .int 41, .ref 96], (px_shX, (px_kr I i t), (px_mJ Jc), (px_mP Pc)))) rfl ?_
  refine px_E_seg 2 (σ' := (13, [(0, .ref 95), (1, .int 9)], [.int (I 96 43)], (px_shX, (px_kr I i t), (px_mJ Jc), (px_mP Pc)))) rfl ?_
  exact px_E_ret rfl rfl
set_option maxRecDepth 100000 in
set_option maxHeartbeats 4000000 in
theorem px_daR_10 {ro : px_RO} {d : Nat} (I : Nat → Nat → Int32) (i t : Nat) {Jc : Nat → Nat → Int64} {Pc : Nat → Nat → Option Nat} : px_M ro (d + 1) 246 [.ref 95, .int 10] (px_shX, (px_kr I i t), (px_mJ Jc), (px_mP Pc)) (some (.int (I 96 46))) (px_shX, (px_kr I i t), (px_mJ Jc), (px_mP Pc)) := by
  show px_E ro (d + 1) 246 (0, _, [], _) _ _
  refine px_E_seg 5 (σ' := (8, [(0, .ref 95), (1, .int 10)], [.int 10, .int 3, .int 14, .ref 96], (px_shX, (px_kr I i t), (px_mJ Jc), (px_mP Pc)))) rfl ?_
  refine px_E_seg 1 (σ' := (9, [(0, .ref 95), (1, .int 10)], [.int 30, .int 14, .ref 96], (px_shX, (px_kr I i t), (px_mJ Jc), (px_mP Pc)))) rfl ?_
  refine px_E_seg 2 (σ' := (11, [(0, .ref 95), (1, .int 10)], [.int 2, .int 44, .ref 96], (px_shX, (px_kr I i t), (px_mJ Jc), (px_mP Pc)))) rfl ?_
  refine px_E_seg 2 (σ' := (13, [(0, .ref 95), (1, .int 10)], [.int (I 96 46)], (px_shX, (px_kr I i t), (px_mJ Jc), (px_mP Pc)))) rfl ?_
  exact px_E_ret rfl rfl
set_option maxRecDepth 100000 in
set_option maxHeartbeats 4000000 in
theorem px_daR_11 {ro : px_RO} {d : Nat} (I : Nat → Nat → Int32) (i t : Nat) {Jc : Nat → Nat → Int64} {Pc : Nat → Nat → Option Nat} : px_M ro (d + 1) 246 [.ref 95, .int 11] (px_shX, (px_kr I i t), (px_mJ Jc), (px_mP Pc)) (some (.int (I 96 49))) (px_shX, (px_kr I i t), (px_mJ Jc), (px_mP Pc)) := by
  show px_E ro (d + 1) 246 (0, _, [], _) _ _
  refine px_E_seg 5 (σ' := (8, [(0, .ref 95), (1, .int 11)], [.int 11, .int 3, .int 14, .ref 96], (px_shX, (px_kr I i t), (px_mJ Jc), (px_mP Pc)))) rfl ?_
  refine px_E_seg 1 (σ' := (9, [(0, .ref 95), (1, .int 11)], [.int 33, .int 14, .ref 96], (px_shX, (px_kr I i t), (px_mJ Jc), (px_mP Pc)))) rfl ?_
  refine px_E_seg 2 (σ' := (11, [(0, .ref 95), (1, .int 11)], [.int 2, .int 47, .ref 96], (px_shX, (px_kr I i t), (px_mJ Jc), (px_mP Pc)))) rfl ?_
  refine px_E_seg 2 (σ' := (13, [(0, .ref 95), (1, .int 11)], [.int (I 96 49)], (px_shX, (px_kr I i t), (px_mJ Jc), (px_mP Pc)))) rfl ?_
  exact px_E_ret rfl rfl
set_option maxRecDepth 100000 in
set_option maxHeartbeats 4000000 in
theorem px_keepR_b {ro : px_RO} {d i t X : Nat} {Jc : Nat → Nat → Int64} {Pc : Nat → Nat → Option Nat} (ht : t ≤ 29) (hX : X = 278 + 42 * t) (I : Nat → Nat → Int32) : ∃ I', px_E ro (d + 2) 244 (73, [(1, .int (nI X)), (0, .ref 95)], [], (px_shX, px_kr I i t, px_mJ Jc, px_mP Pc)) none (px_shX, px_kr I' i (t + 1), px_mJ Jc, px_mP Pc) := by
  refine px_ex (fun _ hh => px_E_seg 7 (σ' := (84, [(1, .int (nI X)), (0, .ref 95)], [.int 0, .int (nI X), .ref 96], (px_shX, px_kr I i t, px_mJ Jc, px_mP Pc))) rfl hh) ?_
  refine px_X_hi (j := X) rfl rfl (by omega) (by omega) (fun I => ?_)
  refine px_ex (fun _ hh => px_E_seg 5 (σ' := (92, [(1, .int (nI X)), (0, .ref 95)], [.int (nI X + 1), .ref 96], (px_shX, px_kr I i t, px_mJ Jc, px_mP Pc))) rfl hh) ?_
  refine px_ex (fun _ hh => px_E_seg 4 (σ' := (98, [(1, .int (nI X)), (0, .ref 95)], [.int 0, .int (nI X + 1), .ref 96], (px_shX, px_kr I i t, px_mJ Jc, px_mP Pc))) rfl hh) ?_
  refine px_X_hi (j := (X + 1)) rfl (by show (nI X + nI 1) = nI (X + 1); simp only [nI_add]) (by omega) (by omega) (fun I => ?_)
  refine px_ex (fun _ hh => px_E_seg 5 (σ' := (106, [(1, .int (nI X)), (0, .ref 95)], [.int (nI X + 2), .ref 96], (px_shX, px_kr I i t, px_mJ Jc, px_mP Pc))) rfl hh) ?_
  refine px_ex (fun _ hh => px_E_seg 1 (σ' := (107, [(1, .int (nI X)), (0, .ref 95)], [.int 0, .int (nI X + 2), .ref 96], (px_shX, px_kr I i t, px_mJ Jc, px_mP Pc))) rfl hh) ?_
  refine px_X_hi (j := (X + 2)) rfl (by show (nI X + nI 2) = nI (X + 2); simp only [nI_add]) (by omega) (by omega) (fun I => ?_)
  refine px_ex (fun _ hh => px_E_seg 2 (σ' := (110, [(2, .int 0), (1, .int (nI X)), (0, .ref 95)], [], (px_shX, px_kr I i t, px_mJ Jc, px_mP Pc))) rfl hh) ?_
  refine px_ex (fun _ hh => px_E_seg 5 (σ' := (117, [(2, .int 0), (1, .int (nI X)), (0, .ref 95)], [.int 0, .int 0], (px_shX, px_kr I i t, px_mJ Jc, px_mP Pc))) rfl hh) ?_
  refine px_ex (fun _ hh => px_E_seg 1 (σ' := (152, [(2, .int 0), (1, .int (nI X)), (0, .ref 95)], [], (px_shX, px_kr I i t, px_mJ Jc, px_mP Pc))) rfl hh) ?_
  refine px_ex (fun _ hh => px_E_seg 5 (σ' := (159, [(2, .int 0), (1, .int (nI X)), (0, .ref 95)], [.int (nI X + 3), .ref 96], (px_shX, px_kr I i t, px_mJ Jc, px_mP Pc))) rfl hh) ?_
  refine px_ex (fun _ hh => px_E_seg 4 (σ' := (165, [(2, .int 0), (1, .int (nI X)), (0, .ref 95)], [.int (nI i), .int (nI X + 3), .ref 96], (px_shX, px_kr I i t, px_mJ Jc, px_mP Pc))) rfl hh) ?_
  refine px_X_hi (j := (X + 3)) rfl (by show (nI X + nI 3) = nI (X + 3); simp only [nI_add]) (by omega) (by omega) (fun I => ?_)
  refine px_ex (fun _ hh => px_E_seg 5 (σ' := (173, [(2, .int 0), (1, .int (nI X)), (0, .ref 95)], [.int (nI X + 4), .ref 96], (px_shX, px_kr I i t, px_mJ Jc, px_mP Pc))) rfl hh) ?_
  refine px_ex (fun _ hh => px_E_seg 4 (σ' := (180, [(2, .int 0), (1, .int (nI X)), (0, .ref 95)], [.int (I 96 6), .int (nI X + 4), .ref 96], (px_shX, px_kr I i t, px_mJ Jc, px_mP Pc))) rfl hh) ?_
  refine px_X_hi (j := (X + 4)) rfl (by show (nI X + nI 4) = nI (X + 4); simp only [nI_add]) (by omega) (by omega) (fun I => ?_)
  refine px_ex (fun _ hh => px_E_seg 2 (σ' := (183, [(2, .int 0), (1, .int (nI X)), (0, .ref 95)], [], (px_shX, px_kr I i t, px_mJ Jc, px_mP Pc))) rfl hh) ?_
  refine px_ex (fun _ hh => px_E_seg 3 (σ' := (189, [(2, .int 0), (1, .int (nI X)), (0, .ref 95)], [], (px_shX, px_kr I i t, px_mJ Jc, px_mP Pc))) rfl hh) ?_
  refine px_ex (fun _ hh => px_E_seg 5 (σ' := (196, [(2, .int 0), (1, .int (nI X)), (0, .ref 95)], [.int (nI X + 5), .ref 96], (px_shX, px_kr I i t, px_mJ Jc, px_mP Pc))) rfl hh) ?_
  refine px_ex (fun _ hh => px_E_seg 2 (σ' := (198, [(2, .int 0), (1, .int (nI X)), (0, .ref 95)], [.int (nI X + 5 + 0), .ref 96], (px_shX, px_kr I i t, px_mJ Jc, px_mP Pc))) rfl hh) ?_
  refine px_ex (fun _ hh => px_E_seg 4 (σ' := (205, [(2, .int 0), (1, .int (nI X)), (0, .ref 95)], [.int 0, .int 114, .ref 96, .int (nI X + 5 + 0), .ref 96], (px_shX, px_kr I i t, px_mJ Jc, px_mP Pc))) rfl hh) ?_
  refine px_ex (fun _ hh => px_E_seg 1 (σ' := (206, [(2, .int 0), (1, .int (nI X)), (0, .ref 95)], [.int 114, .ref 96, .int (nI X + 5 + 0), .ref 96], (px_shX, px_kr I i t, px_mJ Jc, px_mP Pc))) rfl hh) ?_
  refine px_ex (fun _ hh => px_E_seg 1 (σ' := (207, [(2, .int 0), (1, .int (nI X)), (0, .ref 95)], [.int 0, .int (nI X + 5 + 0), .ref 96], (px_shX, px_kr I i t, px_mJ Jc, px_mP Pc))) rfl hh) ?_
  refine px_X_hi (j := (X + 5 + 0)) rfl (by show (nI X + nI 5 + nI 0) = nI (X + 5 + 0); simp only [nI_add]) (by omega) (by omega) (fun I => ?_)
  refine px_ex (fun _ hh => px_E_seg 2 (σ' := (183, [(2, .int 1), (1, .int (nI X)), (0, .ref 95)], [], (px_shX, px_kr I i t, px_mJ Jc, px_mP Pc))) rfl hh) ?_
  refine px_ex (fun _ hh => px_E_seg 3 (σ' := (189, [(2, .int 1), (1, .int (nI X)), (0, .ref 95)], [], (px_shX, px_kr I i t, px_mJ Jc, px_mP Pc))) rfl hh) ?_
  refine px_ex (fun _ hh => px_E_seg 5 (σ' := (196, [(2, .int 1), (1, .int (nI X)), (0, .ref 95)], [.int (nI X + 5), .ref 96], (px_shX, px_kr I i t, px_mJ Jc, px_mP Pc))) rfl hh) ?_
  refine px_ex (fun _ hh => px_E_seg 2 (σ' := (198, [(2, .int 1), (1, .int (nI X)), (0, .ref 95)], [.int (nI X + 5 + 1), .ref 96], (px_shX, px_kr I i t, px_mJ Jc, px_mP Pc))) rfl hh) ?_
  refine px_ex (fun _ hh => px_E_seg 4 (σ' := (205, [(2, .int 1), (1, .int (nI X)), (0, .ref 95)], [.int 1, .int 114, .ref 96, .int (nI X + 5 + 1), .ref 96], (px_shX, px_kr I i t, px_mJ Jc, px_mP Pc))) rfl hh) ?_
  refine px_ex (fun _ hh => px_E_seg 1 (σ' := (206, [(2, .int 1), (1, .int (nI X)), (0, .ref 95)], [.int 115, .ref 96, .int (nI X + 5 + 1), .ref 96], (px_shX, px_kr I i t, px_mJ Jc, px_mP Pc))) rfl hh) ?_
  refine px_ex (fun _ hh => px_E_seg 1 (σ' := (207, [(2, .int 1), (1, .int (nI X)), (0, .ref 95)], [.int (I 96 115), .int (nI X + 5 + 1), .ref 96], (px_shX, px_kr I i t, px_mJ Jc, px_mP Pc))) rfl hh) ?_
  refine px_X_hi (j := (X + 5 + 1)) rfl (by show (nI X + nI 5 + nI 1) = nI (X + 5 + 1); simp only [nI_add]) (by omega) (by omega) (fun I => ?_)
  refine px_ex (fun _ hh => px_E_seg 2 (σ' := (183, [(2, .int 2), (1, .int (nI X)), (0, .ref 95)], [], (px_shX, px_kr I i t, px_mJ Jc, px_mP Pc))) rfl hh) ?_
  refine px_ex (fun _ hh => px_E_seg 3 (σ' := (189, [(2, .int 2), (1, .int (nI X)), (0, .ref 95)], [], (px_shX, px_kr I i t, px_mJ Jc, px_mP Pc))) rfl hh) ?_
  refine px_ex (fun _ hh => px_E_seg 5 (σ' := (196, [(2, .int 2), (1, .int (nI X)), (0, .ref 95)], [.int (nI X + 5), .ref 96], (px_shX, px_kr I i t, px_mJ Jc, px_mP Pc))) rfl hh) ?_
  refine px_ex (fun _ hh => px_E_seg 2 (σ' := (198, [(2, .int 2), (1, .int (nI X)), (0, .ref 95)], [.int (nI X + 5 + 2), .ref 96], (px_shX, px_kr I i t, px_mJ Jc, px_mP Pc))) rfl hh) ?_
  refine px_ex (fun _ hh => px_E_seg 4 (σ' := (205, [(2, .int 2), (1, .int (nI X)), (0, .ref 95)], [.int 2, .int 114, .ref 96, .int (nI X + 5 + 2), .ref 96], (px_shX, px_kr I i t, px_mJ Jc, px_mP Pc))) rfl hh) ?_
  refine px_ex (fun _ hh => px_E_seg 1 (σ' := (206, [(2, .int 2), (1, .int (nI X)), (0, .ref 95)], [.int 116, .ref 96, .int (nI X + 5 + 2), .ref 96], (px_shX, px_kr I i t, px_mJ Jc, px_mP Pc))) rfl hh) ?_
  refine px_ex (fun _ hh => px_E_seg 1 (σ' := (207, [(2, .int 2), (1, .int (nI X)), (0, .ref 95)], [.int (I 96 116), .int (nI X + 5 + 2), .ref 96], (px_shX, px_kr I i t, px_mJ Jc, px_mP Pc))) rfl hh) ?_
  refine px_X_hi (j := (X + 5 + 2)) rfl (by show (nI X + nI 5 + nI 2) = nI (X + 5 + 2); simp only [nI_add]) (by omega) (by omega) (fun I => ?_)
  refine px_ex (fun _ hh => px_E_seg 2 (σ' := (183, [(2, .int 3), (1, .int (nI X)), (0, .ref 95)], [], (px_shX, px_kr I i t, px_mJ Jc, px_mP Pc))) rfl hh) ?_
  refine px_ex (fun _ hh => px_E_seg 3 (σ' := (189, [(2, .int 3), (1, .int (nI X)), (0, .ref 95)], [], (px_shX, px_kr I i t, px_mJ Jc, px_mP Pc))) rfl hh) ?_
  refine px_ex (fun _ hh => px_E_seg 5 (σ' := (196, [(2, .int 3), (1, .int (nI X)), (0, .ref 95)], [.int (nI X + 5), .ref 96], (px_shX, px_kr I i t, px_mJ Jc, px_mP Pc))) rfl hh) ?_
  refine px_ex (fun _ hh => px_E_seg 2 (σ' := (198, [(2, .int 3), (1, .int (nI X)), (0, .ref 95)], [.int (nI X + 5 + 3), .ref 96], (px_shX, px_kr I i t, px_mJ Jc, px_mP Pc))) rfl hh) ?_
  refine px_ex (fun _ hh => px_E_seg 4 (σ' := (205, [(2, .int 3), (1, .int (nI X)), (0, .ref 95)], [.int 3, .int 114, .ref 96, .int (nI X + 5 + 3), .ref 96], (px_shX, px_kr I i t, px_mJ Jc, px_mP Pc))) rfl hh) ?_
  refine px_ex (fun _ hh => px_E_seg 1 (σ' := (206, [(2, .int 3), (1, .int (nI X)), (0, .ref 95)], [.int 117, .ref 96, .int (nI X + 5 + 3), .ref 96], (px_shX, px_kr I i t, px_mJ Jc, px_mP Pc))) rfl hh) ?_
  refine px_ex (fun _ hh => px_E_seg 1 (σ' := (207, [(2, .int 3), (1, .int (nI X)), (0, .ref 95)], [.int 0, .int (nI X + 5 + 3), .ref 96], (px_shX, px_kr I i t, px_mJ Jc, px_mP Pc))) rfl hh) ?_
  refine px_X_hi (j := (X + 5 + 3)) rfl (by show (nI X + nI 5 + nI 3) = nI (X + 5 + 3); simp only [nI_add]) (by omega) (by omega) (fun I => ?_)
  refine px_ex (fun _ hh => px_E_seg 2 (σ' := (183, [(2, .int 4), (1, .int (nI X)), (0, .ref 95)], [], (px_shX, px_kr I i t, px_mJ Jc, px_mP Pc))) rfl hh) ?_
  refine px_ex (fun _ hh => px_E_seg 3 (σ' := (189, [(2, .int 4), (1, .int (nI X)), (0, .ref 95)], [], (px_shX, px_kr I i t, px_mJ Jc, px_mP Pc))) rfl hh) ?_
  refine px_ex (fun _ hh => px_E_seg 5 (σ' := (196, [(2, .int 4), (1, .int (nI X)), (0, .ref 95)], [.int (nI X + 5), .ref 96], (px_shX, px_kr I i t, px_mJ Jc, px_mP Pc))) rfl hh) ?_
  refine px_ex (fun _ hh => px_E_seg 2 (σ' := (198, [(2, .int 4), (1, .int (nI X)), (0, .ref 95)], [.int (nI X + 5 + 4), .ref 96], (px_shX, px_kr I i t, px_mJ Jc, px_mP Pc))) rfl hh) ?_
  refine px_ex (fun _ hh => px_E_seg 4 (σ' := (205, [(2, .int 4), (1, .int (nI X)), (0, .ref 95)], [.int 4, .int 114, .ref 96, .int (nI X + 5 + 4), .ref 96], (px_shX, px_kr I i t, px_mJ Jc, px_mP Pc))) rfl hh) ?_
  refine px_ex (fun _ hh => px_E_seg 1 (σ' := (206, [(2, .int 4), (1, .int (nI X)), (0, .ref 95)], [.int 118, .ref 96, .int (nI X + 5 + 4), .ref 96], (px_shX, px_kr I i t, px_mJ Jc, px_mP Pc))) rfl hh) ?_
  refine px_ex (fun _ hh => px_E_seg 1 (σ' := (207, [(2, .int 4), (1, .int (nI X)), (0, .ref 95)], [.int (I 96 118), .int (nI X + 5 + 4), .ref 96], (px_shX, px_kr I i t, px_mJ Jc, px_mP Pc))) rfl hh) ?_
  refine px_X_hi (j := (X + 5 + 4)) rfl (by show (nI X + nI 5 + nI 4) = nI (X + 5 + 4); simp only [nI_add]) (by omega) (by omega) (fun I => ?_)
  refine px_ex (fun _ hh => px_E_seg 2 (σ' := (183, [(2, .int 5), (1, .int (nI X)), (0, .ref 95)], [], (px_shX, px_kr I i t, px_mJ Jc, px_mP Pc))) rfl hh) ?_
  refine px_ex (fun _ hh => px_E_seg 3 (σ' := (189, [(2, .int 5), (1, .int (nI X)), (0, .ref 95)], [], (px_shX, px_kr I i t, px_mJ Jc, px_mP Pc))) rfl hh) ?_
  refine px_ex (fun _ hh => px_E_seg 5 (σ' := (196, [(2, .int 5), (1, .int (nI X)), (0, .ref 95)], [.int (nI X + 5), .ref 96], (px_shX, px_kr I i t, px_mJ Jc, px_mP Pc))) rfl hh) ?_
  refine px_ex (fun _ hh => px_E_seg 2 (σ' := (198, [(2, .int 5), (1, .int (nI X)), (0, .ref 95)], [.int (nI X + 5 + 5), .ref 96], (px_shX, px_kr I i t, px_mJ Jc, px_mP Pc))) rfl hh) ?_
  refine px_ex (fun _ hh => px_E_seg 4 (σ' := (205, [(2, .int 5), (1, .int (nI X)), (0, .ref 95)], [.int 5, .int 114, .ref 96, .int (nI X + 5 + 5), .ref 96], (px_shX, px_kr I i t, px_mJ Jc, px_mP Pc))) rfl hh) ?_
  refine px_ex (fun _ hh => px_E_seg 1 (σ' := (206, [(2, .int 5), (1, .int (nI X)), (0, .ref 95)], [.int 119, .ref 96, .int (nI X + 5 + 5), .ref 96], (px_shX, px_kr I i t, px_mJ Jc, px_mP Pc))) rfl hh) ?_
  refine px_ex (fun _ hh => px_E_seg 1 (σ' := (207, [(2, .int 5), (1, .int (nI X)), (0, .ref 95)], [.int (I 96 119), .int (nI X + 5 + 5), .ref 96], (px_shX, px_kr I i t, px_mJ Jc, px_mP Pc))) rfl hh) ?_
  refine px_X_hi (j := (X + 5 + 5)) rfl (by show (nI X + nI 5 + nI 5) = nI (X + 5 + 5); simp only [nI_add]) (by omega) (by omega) (fun I => ?_)
  refine px_ex (fun _ hh => px_E_seg 2 (σ' := (183, [(2, .int 6), (1, .int (nI X)), (0, .ref 95)], [], (px_shX, px_kr I i t, px_mJ Jc, px_mP Pc))) rfl hh) ?_
  refine px_ex (fun _ hh => px_E_seg 3 (σ' := (189, [(2, .int 6), (1, .int (nI X)), (0, .ref 95)], [], (px_shX, px_kr I i t, px_mJ Jc, px_mP Pc))) rfl hh) ?_
  refine px_ex (fun _ hh => px_E_seg 5 (σ' := (196, [(2, .int 6), (1, .int (nI X)), (0, .ref 95)], [.int (nI X + 5), .ref 96], (px_shX, px_kr I i t, px_mJ Jc, px_mP Pc))) rfl hh) ?_
  refine px_ex (fun _ hh => px_E_seg 2 (σ' := (198, [(2, .int 6), (1, .int (nI X)), (0, .ref 95)], [.int (nI X + 5 + 6), .ref 96], (px_shX, px_kr I i t, px_mJ Jc, px_mP Pc))) rfl hh) ?_
  refine px_ex (fun _ hh => px_E_seg 4 (σ' := (205, [(2, .int 6), (1, .int (nI X)), (0, .ref 95)], [.int 6, .int 114, .ref 96, .int (nI X + 5 + 6), .ref 96], (px_shX, px_kr I i t, px_mJ Jc, px_mP Pc))) rfl hh) ?_
  refine px_ex (fun _ hh => px_E_seg 1 (σ' := (206, [(2, .int 6), (1, .int (nI X)), (0, .ref 95)], [.int 120, .ref 96, .int (nI X + 5 + 6), .ref 96], (px_shX, px_kr I i t, px_mJ Jc, px_mP Pc))) rfl hh) ?_
  refine px_ex (fun _ hh => px_E_seg 1 (σ' := (207, [(2, .int 6), (1, .int (nI X)), (0, .ref 95)], [.int 0, .int (nI X + 5 + 6), .ref 96], (px_shX, px_kr I i t, px_mJ Jc, px_mP Pc))) rfl hh) ?_
  refine px_X_hi (j := (X + 5 + 6)) rfl (by show (nI X + nI 5 + nI 6) = nI (X + 5 + 6); simp only [nI_add]) (by omega) (by omega) (fun I => ?_)
  refine px_ex (fun _ hh => px_E_seg 2 (σ' := (183, [(2, .int 7), (1, .int (nI X)), (0, .ref 95)], [], (px_shX, px_kr I i t, px_mJ Jc, px_mP Pc))) rfl hh) ?_
  refine px_ex (fun _ hh => px_E_seg 3 (σ' := (189, [(2, .int 7), (1, .int (nI X)), (0, .ref 95)], [], (px_shX, px_kr I i t, px_mJ Jc, px_mP Pc))) rfl hh) ?_
  refine px_ex (fun _ hh => px_E_seg 5 (σ' := (196, [(2, .int 7), (1, .int (nI X)), (0, .ref 95)], [.int (nI X + 5), .ref 96], (px_shX, px_kr I i t, px_mJ Jc, px_mP Pc))) rfl hh) ?_
  refine px_ex (fun _ hh => px_E_seg 2 (σ' := (198, [(2, .int 7), (1, .int (nI X)), (0, .ref 95)], [.int (nI X + 5 + 7), .ref 96], (px_shX, px_kr I i t, px_mJ Jc, px_mP Pc))) rfl hh) ?_
  refine px_ex (fun _ hh => px_E_seg 4 (σ' := (205, [(2, .int 7), (1, .int (nI X)), (0, .ref 95)], [.int 7, .int 114, .ref 96, .int (nI X + 5 + 7), .ref 96], (px_shX, px_kr I i t, px_mJ Jc, px_mP Pc))) rfl hh) ?_
  refine px_ex (fun _ hh => px_E_seg 1 (σ' := (206, [(2, .int 7), (1, .int (nI X)), (0, .ref 95)], [.int 121, .ref 96, .int (nI X + 5 + 7), .ref 96], (px_shX, px_kr I i t, px_mJ Jc, px_mP Pc))) rfl hh) ?_
  refine px_ex (fun _ hh => px_E_seg 1 (σ' := (207, [(2, .int 7), (1, .int (nI X)), (0, .ref 95)], [.int (I 96 121), .int (nI X + 5 + 7), .ref 96], (px_shX, px_kr I i t, px_mJ Jc, px_mP Pc))) rfl hh) ?_
  refine px_X_hi (j := (X + 5 + 7)) rfl (by show (nI X + nI 5 + nI 7) = nI (X + 5 + 7); simp only [nI_add]) (by omega) (by omega) (fun I => ?_)
  refine px_ex (fun _ hh => px_E_seg 2 (σ' := (183, [(2, .int 8), (1, .int (nI X)), (0, .ref 95)], [], (px_shX, px_kr I i t, px_mJ Jc, px_mP Pc))) rfl hh) ?_
  refine px_ex (fun _ hh => px_E_seg 3 (σ' := (189, [(2, .int 8), (1, .int (nI X)), (0, .ref 95)], [], (px_shX, px_kr I i t, px_mJ Jc, px_mP Pc))) rfl hh) ?_
  refine px_ex (fun _ hh => px_E_seg 5 (σ' := (196, [(2, .int 8), (1, .int (nI X)), (0, .ref 95)], [.int (nI X + 5), .ref 96], (px_shX, px_kr I i t, px_mJ Jc, px_mP Pc))) rfl hh) ?_
  refine px_ex (fun _ hh => px_E_seg 2 (σ' := (198, [(2, .int 8), (1, .int (nI X)), (0, .ref 95)], [.int (nI X + 5 + 8), .ref 96], (px_shX, px_kr I i t, px_mJ Jc, px_mP Pc))) rfl hh) ?_
  refine px_ex (fun _ hh => px_E_seg 4 (σ' := (205, [(2, .int 8), (1, .int (nI X)), (0, .ref 95)], [.int 8, .int 114, .ref 96, .int (nI X + 5 + 8), .ref 96], (px_shX, px_kr I i t, px_mJ Jc, px_mP Pc))) rfl hh) ?_
  refine px_ex (fun _ hh => px_E_seg 1 (σ' := (206, [(2, .int 8), (1, .int (nI X)), (0, .ref 95)], [.int 122, .ref 96, .int (nI X + 5 + 8), .ref 96], (px_shX, px_kr I i t, px_mJ Jc, px_mP Pc))) rfl hh) ?_
  refine px_ex (fun _ hh => px_E_seg 1 (σ' := (207, [(2, .int 8), (1, .int (nI X)), (0, .ref 95)], [.int (I 96 122), .int (nI X + 5 + 8), .ref 96], (px_shX, px_kr I i t, px_mJ Jc, px_mP Pc))) rfl hh) ?_
  refine px_X_hi (j := (X + 5 + 8)) rfl (by show (nI X + nI 5 + nI 8) = nI (X + 5 + 8); simp only [nI_add]) (by omega) (by omega) (fun I => ?_)
  refine px_ex (fun _ hh => px_E_seg 2 (σ' := (183, [(2, .int 9), (1, .int (nI X)), (0, .ref 95)], [], (px_shX, px_kr I i t, px_mJ Jc, px_mP Pc))) rfl hh) ?_
  refine px_ex (fun _ hh => px_E_seg 3 (σ' := (189, [(2, .int 9), (1, .int (nI X)), (0, .ref 95)], [], (px_shX, px_kr I i t, px_mJ Jc, px_mP Pc))) rfl hh) ?_
  refine px_ex (fun _ hh => px_E_seg 5 (σ' := (196, [(2, .int 9), (1, .int (nI X)), (0, .ref 95)], [.int (nI X + 5), .ref 96], (px_shX, px_kr I i t, px_mJ Jc, px_mP Pc))) rfl hh) ?_
  refine px_ex (fun _ hh => px_E_seg 2 (σ' := (198, [(2, .int 9), (1, .int (nI X)), (0, .ref 95)], [.int (nI X + 5 + 9), .ref 96], (px_shX, px_kr I i t, px_mJ Jc, px_mP Pc))) rfl hh) ?_
  refine px_ex (fun _ hh => px_E_seg 4 (σ' := (205, [(2, .int 9), (1, .int (nI X)), (0, .ref 95)], [.int 9, .int 114, .ref 96, .int (nI X + 5 + 9), .ref 96], (px_shX, px_kr I i t, px_mJ Jc, px_mP Pc))) rfl hh) ?_
  refine px_ex (fun _ hh => px_E_seg 1 (σ' := (206, [(2, .int 9), (1, .int (nI X)), (0, .ref 95)], [.int 123, .ref 96, .int (nI X + 5 + 9), .ref 96], (px_shX, px_kr I i t, px_mJ Jc, px_mP Pc))) rfl hh) ?_
  refine px_ex (fun _ hh => px_E_seg 1 (σ' := (207, [(2, .int 9), (1, .int (nI X)), (0, .ref 95)], [.int 0, .int (nI X + 5 + 9), .ref 96], (px_shX, px_kr I i t, px_mJ Jc, px_mP Pc))) rfl hh) ?_
  refine px_X_hi (j := (X + 5 + 9)) rfl (by show (nI X + nI 5 + nI 9) = nI (X + 5 + 9); simp only [nI_add]) (by omega) (by omega) (fun I => ?_)
  refine px_ex (fun _ hh => px_E_seg 2 (σ' := (183, [(2, .int 10), (1, .int (nI X)), (0, .ref 95)], [], (px_shX, px_kr I i t, px_mJ Jc, px_mP Pc))) rfl hh) ?_
  refine px_ex (fun _ hh => px_E_seg 3 (σ' := (189, [(2, .int 10), (1, .int (nI X)), (0, .ref 95)], [], (px_shX, px_kr I i t, px_mJ Jc, px_mP Pc))) rfl hh) ?_
  refine px_ex (fun _ hh => px_E_seg 5 (σ' := (196, [(2, .int 10), (1, .int (nI X)), (0, .ref 95)], [.int (nI X + 5), .ref 96], (px_shX, px_kr I i t, px_mJ Jc, px_mP Pc))) rfl hh) ?_
  refine px_ex (fun _ hh => px_E_seg 2 (σ' := (198, [(2, .int 10), (1, .int (nI X)), (0, .ref 95)], [.int (nI X + 5 + 10), .ref 96], (px_shX, px_kr I i t, px_mJ Jc, px_mP Pc))) rfl hh) ?_
  refine px_ex (fun _ hh => px_E_seg 4 (σ' := (205, [(2, .int 10), (1, .int (nI X)), (0, .ref 95)], [.int 10, .int 114, .ref 96, .int (nI X + 5 + 10), .ref 96], (px_shX, px_kr I i t, px_mJ Jc, px_mP Pc))) rfl hh) ?_
  refine px_ex (fun _ hh => px_E_seg 1 (σ' := (206, [(2, .int 10), (1, .int (nI X)), (0, .ref 95)], [.int 124, .ref 96, .int (nI X + 5 + 10), .ref 96], (px_shX, px_kr I i t, px_mJ Jc, px_mP Pc))) rfl hh) ?_
  refine px_ex (fun _ hh => px_E_seg 1 (σ' := (207, [(2, .int 10), (1, .int (nI X)), (0, .ref 95)], [.int (I 96 124), .int (nI X + 5 + 10), .ref 96], (px_shX, px_kr I i t, px_mJ Jc, px_mP Pc))) rfl hh) ?_
  refine px_X_hi (j := (X + 5 + 10)) rfl (by show (nI X + nI 5 + nI 10) = nI (X + 5 + 10); simp only [nI_add]) (by omega) (by omega) (fun I => ?_)
  refine px_ex (fun _ hh => px_E_seg 2 (σ' := (183, [(2, .int 11), (1, .int (nI X)), (0, .ref 95)], [], (px_shX, px_kr I i t, px_mJ Jc, px_mP Pc))) rfl hh) ?_
  refine px_ex (fun _ hh => px_E_seg 3 (σ' := (189, [(2, .int 11), (1, .int (nI X)), (0, .ref 95)], [], (px_shX, px_kr I i t, px_mJ Jc, px_mP Pc))) rfl hh) ?_
  refine px_ex (fun _ hh => px_E_seg 5 (σ' := (196, [(2, .int 11), (1, .int (nI X)), (0, .ref 95)], [.int (nI X + 5), .ref 96], (px_shX, px_kr I i t, px_mJ Jc, px_mP Pc))) rfl hh) ?_
  refine px_ex (fun _ hh => px_E_seg 2 (σ' := (198, [(2, .int 11), (1, .int (nI X)), (0, .ref 95)], [.int (nI X + 5 + 11), .ref 96], (px_shX, px_kr I i t, px_mJ Jc, px_mP Pc))) rfl hh) ?_
  refine px_ex (fun _ hh => px_E_seg 4 (σ' := (205, [(2, .int 11), (1, .int (nI X)), (0, .ref 95)], [.int 11, .int 114, .ref 96, .int (nI X + 5 + 11), .ref 96], (px_shX, px_kr I i t, px_mJ Jc, px_mP Pc))) rfl hh) ?_
  refine px_ex (fun _ hh => px_E_seg 1 (σ' := (206, [(2, .int 11), (1, .int (nI X)), (0, .ref 95)], [.int 125, .ref 96, .int (nI X + 5 + 11), .ref 96], (px_shX, px_kr I i t, px_mJ Jc, px_mP Pc))) rfl hh) ?_
  refine px_ex (fun _ hh => px_E_seg 1 (σ' := (207, [(2, .int 11), (1, .int (nI X)), (0, .ref 95)], [.int (I 96 125), .int (nI X + 5 + 11), .ref 96], (px_shX, px_kr I i t, px_mJ Jc, px_mP Pc))) rfl hh) ?_
  refine px_X_hi (j := (X + 5 + 11)) rfl (by show (nI X + nI 5 + nI 11) = nI (X + 5 + 11); simp only [nI_add]) (by omega) (by omega) (fun I => ?_)
  refine px_ex (fun _ hh => px_E_seg 2 (σ' := (183, [(2, .int 12), (1, .int (nI X)), (0, .ref 95)], [], (px_shX, px_kr I i t, px_mJ Jc, px_mP Pc))) rfl hh) ?_
  refine px_ex (fun _ hh => px_E_seg 3 (σ' := (214, [(2, .int 12), (1, .int (nI X)), (0, .ref 95)], [], (px_shX, px_kr I i t, px_mJ Jc, px_mP Pc))) rfl hh) ?_
  refine px_ex (fun _ hh => px_E_seg 2 (σ' := (216, [(2, .int 0), (1, .int (nI X)), (0, .ref 95)], [], (px_shX, px_kr I i t, px_mJ Jc, px_mP Pc))) rfl hh) ?_
  refine px_ex (fun _ hh => px_E_seg 3 (σ' := (222, [(2, .int 0), (1, .int (nI X)), (0, .ref 95)], [], (px_shX, px_kr I i t, px_mJ Jc, px_mP Pc))) rfl hh) ?_
  refine px_ex (fun _ hh => px_E_seg 5 (σ' := (230, [(2, .int 0), (1, .int (nI X)), (0, .ref 95)], [.int (nI X + 17), .ref 96], (px_shX, px_kr I i t, px_mJ Jc, px_mP Pc))) rfl hh) ?_
  refine px_ex (fun _ hh => px_E_seg 3 (σ' := (233, [(2, .int 0), (1, .int (nI X)), (0, .ref 95)], [.int 0, .int (nI X + 17), .ref 96], (px_shX, px_kr I i t, px_mJ Jc, px_mP Pc))) rfl hh) ?_
  refine px_ex (fun _ hh => px_E_seg 1 (σ' := (234, [(2, .int 0), (1, .int (nI X)), (0, .ref 95)], [.int (nI X + 17 + 0), .ref 96], (px_shX, px_kr I i t, px_mJ Jc, px_mP Pc))) rfl hh) ?_
  refine px_ex (fun _ hh => px_E_seg 3 (σ' := (237, [(2, .int 0), (1, .int (nI X)), (0, .ref 95)], [.int 3, .int 0, .ref 95, .int (nI X + 17 + 0), .ref 96], (px_shX, px_kr I i t, px_mJ Jc, px_mP Pc))) rfl hh) ?_
  refine px_ex (fun _ hh => px_E_call (j := 239) (as := [.ref 95, .int 0, .int 3]) (rest := [.int (nI X + 17 + 0), .ref 96]) (v := some (.int (I 96 129))) (h1 := (px_shX, px_kr I i t, px_mJ Jc, px_mP Pc)) rfl rfl rfl (px_getR_0_3 I i t) hh) ?_
  refine px_X_hi (j := (X + 17 + 0)) rfl (by show (nI X + nI 17 + nI 0) = nI (X + 17 + 0); simp only [nI_add]) (by omega) (by omega) (fun I => ?_)
  refine px_ex (fun _ hh => px_E_seg 5 (σ' := (249, [(2, .int 0), (1, .int (nI X)), (0, .ref 95)], [.int (nI X + 18), .ref 96], (px_shX, px_kr I i t, px_mJ Jc, px_mP Pc))) rfl hh) ?_
  refine px_ex (fun _ hh => px_E_seg 3 (σ' := (252, [(2, .int 0), (1, .int (nI X)), (0, .ref 95)], [.int 0, .int (nI X + 18), .ref 96], (px_shX, px_kr I i t, px_mJ Jc, px_mP Pc))) rfl hh) ?_
  refine px_ex (fun _ hh => px_E_seg 1 (σ' := (253, [(2, .int 0), (1, .int (nI X)), (0, .ref 95)], [.int (nI X + 18 + 0), .ref 96], (px_shX, px_kr I i t, px_mJ Jc, px_mP Pc))) rfl hh) ?_
  refine px_ex (fun _ hh => px_E_seg 3 (σ' := (256, [(2, .int 0), (1, .int (nI X)), (0, .ref 95)], [.int 4, .int 0, .ref 95, .int (nI X + 18 + 0), .ref 96], (px_shX, px_kr I i t, px_mJ Jc, px_mP Pc))) rfl hh) ?_
  refine px_ex (fun _ hh => px_E_call (j := 239) (as := [.ref 95, .int 0, .int 4]) (rest := [.int (nI X + 18 + 0), .ref 96]) (v := some (.int (I 96 130))) (h1 := (px_shX, px_kr I i t, px_mJ Jc, px_mP Pc)) rfl rfl rfl (px_getR_0_4 I i t) hh) ?_
  refine px_X_hi (j := (X + 18 + 0)) rfl (by show (nI X + nI 18 + nI 0) = nI (X + 18 + 0); simp only [nI_add]) (by omega) (by omega) (fun I => ?_)
  refine px_ex (fun _ hh => px_E_seg 2 (σ' := (216, [(2, .int 1), (1, .int (nI X)), (0, .ref 95)], [], (px_shX, px_kr I i t, px_mJ Jc, px_mP Pc))) rfl hh) ?_
  refine px_ex (fun _ hh => px_E_seg 3 (σ' := (222, [(2, .int 1), (1, .int (nI X)), (0, .ref 95)], [], (px_shX, px_kr I i t, px_mJ Jc, px_mP Pc))) rfl hh) ?_
  refine px_ex (fun _ hh => px_E_seg 5 (σ' := (230, [(2, .int 1), (1, .int (nI X)), (0, .ref 95)], [.int (nI X + 17), .ref 96], (px_shX, px_kr I i t, px_mJ Jc, px_mP Pc))) rfl hh) ?_
  refine px_ex (fun _ hh => px_E_seg 3 (σ' := (233, [(2, .int 1), (1, .int (nI X)), (0, .ref 95)], [.int 2, .int (nI X + 17), .ref 96], (px_shX, px_kr I i t, px_mJ Jc, px_mP Pc))) rfl hh) ?_
  refine px_ex (fun _ hh => px_E_seg 1 (σ' := (234, [(2, .int 1), (1, .int (nI X)), (0, .ref 95)], [.int (nI X + 17 + 2), .ref 96], (px_shX, px_kr I i t, px_mJ Jc, px_mP Pc))) rfl hh) ?_
  refine px_ex (fun _ hh => px_E_seg 3 (σ' := (237, [(2, .int 1), (1, .int (nI X)), (0, .ref 95)], [.int 3, .int 1, .ref 95, .int (nI X + 17 + 2), .ref 96], (px_shX, px_kr I i t, px_mJ Jc, px_mP Pc))) rfl hh) ?_
  refine px_ex (fun _ hh => px_E_call (j := 239) (as := [.ref 95, .int 1, .int 3]) (rest := [.int (nI X + 17 + 2), .ref 96]) (v := some (.int (I 96 135))) (h1 := (px_shX, px_kr I i t, px_mJ Jc, px_mP Pc)) rfl rfl rfl (px_getR_1_3 I i t) hh) ?_
  refine px_X_hi (j := (X + 17 + 2)) rfl (by show (nI X + nI 17 + nI 2) = nI (X + 17 + 2); simp only [nI_add]) (by omega) (by omega) (fun I => ?_)
  refine px_ex (fun _ hh => px_E_seg 5 (σ' := (249, [(2, .int 1), (1, .int (nI X)), (0, .ref 95)], [.int (nI X + 18), .ref 96], (px_shX, px_kr I i t, px_mJ Jc, px_mP Pc))) rfl hh) ?_
  refine px_ex (fun _ hh => px_E_seg 3 (σ' := (252, [(2, .int 1), (1, .int (nI X)), (0, .ref 95)], [.int 2, .int (nI X + 18), .ref 96], (px_shX, px_kr I i t, px_mJ Jc, px_mP Pc))) rfl hh) ?_
  refine px_ex (fun _ hh => px_E_seg 1 (σ' := (253, [(2, .int 1), (1, .int (nI X)), (0, .ref 95)], [.int (nI X + 18 + 2), .ref 96], (px_shX, px_kr I i t, px_mJ Jc, px_mP Pc))) rfl hh) ?_
  refine px_ex (fun _ hh => px_E_seg 3 (σ' := (256, [(2, .int 1), (1, .int (nI X)), (0, .ref 95)], [.int 4, .int 1, .ref 95, .int (nI X + 18 + 2), .ref 96], (px_shX, px_kr I i t, px_mJ Jc, px_mP Pc))) rfl hh) ?_
  refine px_ex (fun _ hh => px_E_call (j := 239) (as := [.ref 95, .int 1, .int 4]) (rest := [.int (nI X + 18 + 2), .ref 96]) (v := some (.int (I 96 136))) (h1 := (px_shX, px_kr I i t, px_mJ Jc, px_mP Pc)) rfl rfl rfl (px_getR_1_4 I i t) hh) ?_
  refine px_X_hi (j := (X + 18 + 2)) rfl (by show (nI X + nI 18 + nI 2) = nI (X + 18 + 2); simp only [nI_add]) (by omega) (by omega) (fun I => ?_)
  refine px_ex (fun _ hh => px_E_seg 2 (σ' := (216, [(2, .int 2), (1, .int (nI X)), (0, .ref 95)], [], (px_shX, px_kr I i t, px_mJ Jc, px_mP Pc))) rfl hh) ?_
  refine px_ex (fun _ hh => px_E_seg 3 (σ' := (222, [(2, .int 2), (1, .int (nI X)), (0, .ref 95)], [], (px_shX, px_kr I i t, px_mJ Jc, px_mP Pc))) rfl hh) ?_
  refine px_ex (fun _ hh => px_E_seg 5 (σ' := (230, [(2, .int 2), (1, .int (nI X)), (0, .ref 95)], [.int (nI X + 17), .ref 96], (px_shX, px_kr I i t, px_mJ Jc, px_mP Pc))) rfl hh) ?_
  refine px_ex (fun _ hh => px_E_seg 3 (σ' := (233, [(2, .int 2), (1, .int (nI X)), (0, .ref 95)], [.int 4, .int (nI X + 17), .ref 96], (px_shX, px_kr I i t, px_mJ Jc, px_mP Pc))) rfl hh) ?_
  refine px_ex (fun _ hh => px_E_seg 1 (σ' := (234, [(2, .int 2), (1, .int (nI X)), (0, .ref 95)], [.int (nI X + 17 + 4), .ref 96], (px_shX, px_kr I i t, px_mJ Jc, px_mP Pc))) rfl hh) ?_
  refine px_ex (fun _ hh => px_E_seg 3 (σ' := (237, [(2, .int 2), (1, .int (nI X)), (0, .ref 95)], [.int 3, .int 2, .ref 95, .int (nI X + 17 + 4), .ref 96], (px_shX, px_kr I i t, px_mJ Jc, px_mP Pc))) rfl hh) ?_
  refine px_ex (fun _ hh => px_E_call (j := 239) (as := [.ref 95, .int 2, .int 3]) (rest := [.int (nI X + 17 + 4), .ref 96]) (v := some (.int (I 96 141))) (h1 := (px_shX, px_kr I i t, px_mJ Jc, px_mP Pc)) rfl rfl rfl (px_getR_2_3 I i t) hh) ?_
  refine px_X_hi (j := (X + 17 + 4)) rfl (by show (nI X + nI 17 + nI 4) = nI (X + 17 + 4); simp only [nI_add]) (by omega) (by omega) (fun I => ?_)
  refine px_ex (fun _ hh => px_E_seg 5 (σ' := (249, [(2, .int 2), (1, .int (nI X)), (0, .ref 95)], [.int (nI X + 18), .ref 96], (px_shX, px_kr I i t, px_mJ Jc, px_mP Pc))) rfl hh) ?_
  refine px_ex (fun _ hh => px_E_seg 3 (σ' := (252, [(2, .int 2), (1, .int (nI X)), (0, .ref 95)], [.int 4, .int (nI X + 18), .ref 96], (px_shX, px_kr I i t, px_mJ Jc, px_mP Pc))) rfl hh) ?_
  refine px_ex (fun _ hh => px_E_seg 1 (σ' := (253, [(2, .int 2), (1, .int (nI X)), (0, .ref 95)], [.int (nI X + 18 + 4), .ref 96], (px_shX, px_kr I i t, px_mJ Jc, px_mP Pc))) rfl hh) ?_
  refine px_ex (fun _ hh => px_E_seg 3 (σ' := (256, [(2, .int 2), (1, .int (nI X)), (0, .ref 95)], [.int 4, .int 2, .ref 95, .int (nI X + 18 + 4), .ref 96], (px_shX, px_kr I i t, px_mJ Jc, px_mP Pc))) rfl hh) ?_
  refine px_ex (fun _ hh => px_E_call (j := 239) (as := [.ref 95, .int 2, .int 4]) (rest := [.int (nI X + 18 + 4), .ref 96]) (v := some (.int (I 96 142))) (h1 := (px_shX, px_kr I i t, px_mJ Jc, px_mP Pc)) rfl rfl rfl (px_getR_2_4 I i t) hh) ?_
  refine px_X_hi (j := (X + 18 + 4)) rfl (by show (nI X + nI 18 + nI 4) = nI (X + 18 + 4); simp only [nI_add]) (by omega) (by omega) (fun I => ?_)
  refine px_ex (fun _ hh => px_E_seg 2 (σ' := (216, [(2, .int 3), (1, .int (nI X)), (0, .ref 95)], [], (px_shX, px_kr I i t, px_mJ Jc, px_mP Pc))) rfl hh) ?_
  refine px_ex (fun _ hh => px_E_seg 3 (σ' := (222, [(2, .int 3), (1, .int (nI X)), (0, .ref 95)], [], (px_shX, px_kr I i t, px_mJ Jc, px_mP Pc))) rfl hh) ?_
  refine px_ex (fun _ hh => px_E_seg 5 (σ' := (230, [(2, .int 3), (1, .int (nI X)), (0, .ref 95)], [.int (nI X + 17), .ref 96], (px_shX, px_kr I i t, px_mJ Jc, px_mP Pc))) rfl hh) ?_
  refine px_ex (fun _ hh => px_E_seg 3 (σ' := (233, [(2, .int 3), (1, .int (nI X)), (0, .ref 95)], [.int 6, .int (nI X + 17), .ref 96], (px_shX, px_kr I i t, px_mJ Jc, px_mP Pc))) rfl hh) ?_
  refine px_ex (fun _ hh => px_E_seg 1 (σ' := (234, [(2, .int 3), (1, .int (nI X)), (0, .ref 95)], [.int (nI X + 17 + 6), .ref 96], (px_shX, px_kr I i t, px_mJ Jc, px_mP Pc))) rfl hh) ?_
  refine px_ex (fun _ hh => px_E_seg 3 (σ' := (237, [(2, .int 3), (1, .int (nI X)), (0, .ref 95)], [.int 3, .int 3, .ref 95, .int (nI X + 17 + 6), .ref 96], (px_shX, px_kr I i t, px_mJ Jc, px_mP Pc))) rfl hh) ?_
  refine px_ex (fun _ hh => px_E_call (j := 239) (as := [.ref 95, .int 3, .int 3]) (rest := [.int (nI X + 17 + 6), .ref 96]) (v := some (.int (I 96 147))) (h1 := (px_shX, px_kr I i t, px_mJ Jc, px_mP Pc)) rfl rfl rfl (px_getR_3_3 I i t) hh) ?_
  refine px_X_hi (j := (X + 17 + 6)) rfl (by show (nI X + nI 17 + nI 6) = nI (X + 17 + 6); simp only [nI_add]) (by omega) (by omega) (fun I => ?_)
  refine px_ex (fun _ hh => px_E_seg 5 (σ' := (249, [(2, .int 3), (1, .int (nI X)), (0, .ref 95)], [.int (nI X + 18), .ref 96], (px_shX, px_kr I i t, px_mJ Jc, px_mP Pc))) rfl hh) ?_
  refine px_ex (fun _ hh => px_E_seg 3 (σ' := (252, [(2, .int 3), (1, .int (nI X)), (0, .ref 95)], [.int 6, .int (nI X + 18), .ref 96], (px_shX, px_kr I i t, px_mJ Jc, px_mP Pc))) rfl hh) ?_
  refine px_ex (fun _ hh => px_E_seg 1 (σ' := (253, [(2, .int 3), (1, .int (nI X)), (0, .ref 95)], [.int (nI X + 18 + 6), .ref 96], (px_shX, px_kr I i t, px_mJ Jc, px_mP Pc))) rfl hh) ?_
  refine px_ex (fun _ hh => px_E_seg 3 (σ' := (256, [(2, .int 3), (1, .int (nI X)), (0, .ref 95)], [.int 4, .int 3, .ref 95, .int (nI X + 18 + 6), .ref 96], (px_shX, px_kr I i t, px_mJ Jc, px_mP Pc))) rfl hh) ?_
  refine px_ex (fun _ hh => px_E_call (j := 239) (as := [.ref 95, .int 3, .int 4]) (rest := [.int (nI X + 18 + 6), .ref 96]) (v := some (.int (I 96 148))) (h1 := (px_shX, px_kr I i t, px_mJ Jc, px_mP Pc)) rfl rfl rfl (px_getR_3_4 I i t) hh) ?_
  refine px_X_hi (j := (X + 18 + 6)) rfl (by show (nI X + nI 18 + nI 6) = nI (X + 18 + 6); simp only [nI_add]) (by omega) (by omega) (fun I => ?_)
  refine px_ex (fun _ hh => px_E_seg 2 (σ' := (216, [(2, .int 4), (1, .int (nI X)), (0, .ref 95)], [], (px_shX, px_kr I i t, px_mJ Jc, px_mP Pc))) rfl hh) ?_
  refine px_ex (fun _ hh => px_E_seg 3 (σ' := (222, [(2, .int 4), (1, .int (nI X)), (0, .ref 95)], [], (px_shX, px_kr I i t, px_mJ Jc, px_mP Pc))) rfl hh) ?_
  refine px_ex (fun _ hh => px_E_seg 5 (σ' := (230, [(2, .int 4), (1, .int (nI X)), (0, .ref 95)], [.int (nI X + 17), .ref 96], (px_shX, px_kr I i t, px_mJ Jc, px_mP Pc))) rfl hh) ?_
  refine px_ex (fun _ hh => px_E_seg 3 (σ' := (233, [(2, .int 4), (1, .int (nI X)), (0, .ref 95)], [.int 8, .int (nI X + 17), .ref 96], (px_shX, px_kr I i t, px_mJ Jc, px_mP Pc))) rfl hh) ?_
  refine px_ex (fun _ hh => px_E_seg 1 (σ' := (234, [(2, .int 4), (1, .int (nI X)), (0, .ref 95)], [.int (nI X + 17 + 8), .ref 96], (px_shX, px_kr I i t, px_mJ Jc, px_mP Pc))) rfl hh) ?_
  refine px_ex (fun _ hh => px_E_seg 3 (σ' := (237, [(2, .int 4), (1, .int (nI X)), (0, .ref 95)], [.int 3, .int 4, .ref 95, .int (nI X + 17 + 8), .ref 96], (px_shX, px_kr I i t, px_mJ Jc, px_mP Pc))) rfl hh) ?_
  refine px_ex (fun _ hh => px_E_call (j := 239) (as := [.ref 95, .int 4, .int 3]) (rest := [.int (nI X + 17 + 8), .ref 96]) (v := some (.int (I 96 153))) (h1 := (px_shX, px_kr I i t, px_mJ Jc, px_mP Pc)) rfl rfl rfl (px_getR_4_3 I i t) hh) ?_
  refine px_X_hi (j := (X + 17 + 8)) rfl (by show (nI X + nI 17 + nI 8) = nI (X + 17 + 8); simp only [nI_add]) (by omega) (by omega) (fun I => ?_)
  refine px_ex (fun _ hh => px_E_seg 5 (σ' := (249, [(2, .int 4), (1, .int (nI X)), (0, .ref 95)], [.int (nI X + 18), .ref 96], (px_shX, px_kr I i t, px_mJ Jc, px_mP Pc))) rfl hh) ?_
  refine px_ex (fun _ hh => px_E_seg 3 (σ' := (252, [(2, .int 4), (1, .int (nI X)), (0, .ref 95)], [.int 8, .int (nI X + 18), .ref 96], (px_shX, px_kr I i t, px_mJ Jc, px_mP Pc))) rfl hh) ?_
  refine px_ex (fun _ hh => px_E_seg 1 (σ' := (253, [(2, .int 4), (1, .int (nI X)), (0, .ref 95)], [.int (nI X + 18 + 8), .ref 96], (px_shX, px_kr I i t, px_mJ Jc, px_mP Pc))) rfl hh) ?_
  refine px_ex (fun _ hh => px_E_seg 3 (σ' := (256, [(2, .int 4), (1, .int (nI X)), (0, .ref 95)], [.int 4, .int 4, .ref 95, .int (nI X + 18 + 8), .ref 96], (px_shX, px_kr I i t, px_mJ Jc, px_mP Pc))) rfl hh) ?_
  refine px_ex (fun _ hh => px_E_call (j := 239) (as := [.ref 95, .int 4, .int 4]) (rest := [.int (nI X + 18 + 8), .ref 96]) (v := some (.int (I 96 154))) (h1 := (px_shX, px_kr I i t, px_mJ Jc, px_mP Pc)) rfl rfl rfl (px_getR_4_4 I i t) hh) ?_
  refine px_X_hi (j := (X + 18 + 8)) rfl (by show (nI X + nI 18 + nI 8) = nI (X + 18 + 8); simp only [nI_add]) (by omega) (by omega) (fun I => ?_)
  refine px_ex (fun _ hh => px_E_seg 2 (σ' := (216, [(2, .int 5), (1, .int (nI X)), (0, .ref 95)], [], (px_shX, px_kr I i t, px_mJ Jc, px_mP Pc))) rfl hh) ?_
  refine px_ex (fun _ hh => px_E_seg 3 (σ' := (222, [(2, .int 5), (1, .int (nI X)), (0, .ref 95)], [], (px_shX, px_kr I i t, px_mJ Jc, px_mP Pc))) rfl hh) ?_
  refine px_ex (fun _ hh => px_E_seg 5 (σ' := (230, [(2, .int 5), (1, .int (nI X)), (0, .ref 95)], [.int (nI X + 17), .ref 96], (px_shX, px_kr I i t, px_mJ Jc, px_mP Pc))) rfl hh) ?_
  refine px_ex (fun _ hh => px_E_seg 3 (σ' := (233, [(2, .int 5), (1, .int (nI X)), (0, .ref 95)], [.int 10, .int (nI X + 17), .ref 96], (px_shX, px_kr I i t, px_mJ Jc, px_mP Pc))) rfl hh) ?_
  refine px_ex (fun _ hh => px_E_seg 1 (σ' := (234, [(2, .int 5), (1, .int (nI X)), (0, .ref 95)], [.int (nI X + 17 + 10), .ref 96], (px_shX, px_kr I i t, px_mJ Jc, px_mP Pc))) rfl hh) ?_
  refine px_ex (fun _ hh => px_E_seg 3 (σ' := (237, [(2, .int 5), (1, .int (nI X)), (0, .ref 95)], [.int 3, .int 5, .ref 95, .int (nI X + 17 + 10), .ref 96], (px_shX, px_kr I i t, px_mJ Jc, px_mP Pc))) rfl hh) ?_
  refine px_ex (fun _ hh => px_E_call (j := 239) (as := [.ref 95, .int 5, .int 3]) (rest := [.int (nI X + 17 + 10), .ref 96]) (v := some (.int (I 96 159))) (h1 := (px_shX, px_kr I i t, px_mJ Jc, px_mP Pc)) rfl rfl rfl (px_getR_5_3 I i t) hh) ?_
  refine px_X_hi (j := (X + 17 + 10)) rfl (by show (nI X + nI 17 + nI 10) = nI (X + 17 + 10); simp only [nI_add]) (by omega) (by omega) (fun I => ?_)
  refine px_ex (fun _ hh => px_E_seg 5 (σ' := (249, [(2, .int 5), (1, .int (nI X)), (0, .ref 95)], [.int (nI X + 18), .ref 96], (px_shX, px_kr I i t, px_mJ Jc, px_mP Pc))) rfl hh) ?_
  refine px_ex (fun _ hh => px_E_seg 3 (σ' := (252, [(2, .int 5), (1, .int (nI X)), (0, .ref 95)], [.int 10, .int (nI X + 18), .ref 96], (px_shX, px_kr I i t, px_mJ Jc, px_mP Pc))) rfl hh) ?_
  refine px_ex (fun _ hh => px_E_seg 1 (σ' := (253, [(2, .int 5), (1, .int (nI X)), (0, .ref 95)], [.int (nI X + 18 + 10), .ref 96], (px_shX, px_kr I i t, px_mJ Jc, px_mP Pc))) rfl hh) ?_
  refine px_ex (fun _ hh => px_E_seg 3 (σ' := (256, [(2, .int 5), (1, .int (nI X)), (0, .ref 95)], [.int 4, .int 5, .ref 95, .int (nI X + 18 + 10), .ref 96], (px_shX, px_kr I i t, px_mJ Jc, px_mP Pc))) rfl hh) ?_
  refine px_ex (fun _ hh => px_E_call (j := 239) (as := [.ref 95, .int 5, .int 4]) (rest := [.int (nI X + 18 + 10), .ref 96]) (v := some (.int (I 96 160))) (h1 := (px_shX, px_kr I i t, px_mJ Jc, px_mP Pc)) rfl rfl rfl (px_getR_5_4 I i t) hh) ?_
  refine px_X_hi (j := (X + 18 + 10)) rfl (by show (nI X + nI 18 + nI 10) = nI (X + 18 + 10); simp only [nI_add]) (by omega) (by omega) (fun I => ?_)
  refine px_ex (fun _ hh => px_E_seg 2 (σ' := (216, [(2, .int 6), (1, .int (nI X)), (0, .ref 95)], [], (px_shX, px_kr I i t, px_mJ Jc, px_mP Pc))) rfl hh) ?_
  refine px_ex (fun _ hh => px_E_seg 3 (σ' := (266, [(2, .int 6), (1, .int (nI X)), (0, .ref 95)], [], (px_shX, px_kr I i t, px_mJ Jc, px_mP Pc))) rfl hh) ?_
  refine px_ex (fun _ hh => px_E_seg 2 (σ' := (268, [(2, .int 0), (1, .int (nI X)), (0, .ref 95)], [], (px_shX, px_kr I i t, px_mJ Jc, px_mP Pc))) rfl hh) ?_
  refine px_ex (fun _ hh => px_E_seg 3 (σ' := (274, [(2, .int 0), (1, .int (nI X)), (0, .ref 95)], [], (px_shX, px_kr I i t, px_mJ Jc, px_mP Pc))) rfl hh) ?_
  refine px_ex (fun _ hh => px_E_seg 5 (σ' := (282, [(2, .int 0), (1, .int (nI X)), (0, .ref 95)], [.int (nI X + 29), .ref 96], (px_shX, px_kr I i t, px_mJ Jc, px_mP Pc))) rfl hh) ?_
  refine px_ex (fun _ hh => px_E_seg 2 (σ' := (284, [(2, .int 0), (1, .int (nI X)), (0, .ref 95)], [.int (nI X + 29 + 0), .ref 96], (px_shX, px_kr I i t, px_mJ Jc, px_mP Pc))) rfl hh) ?_
  refine px_ex (fun _ hh => px_E_seg 2 (σ' := (286, [(2, .int 0), (1, .int (nI X)), (0, .ref 95)], [.int 0, .ref 95, .int (nI X + 29 + 0), .ref 96], (px_shX, px_kr I i t, px_mJ Jc, px_mP Pc))) rfl hh) ?_
  refine px_ex (fun _ hh => px_E_call (j := 246) (as := [.ref 95, .int 0]) (rest := [.int (nI X + 29 + 0), .ref 96]) (v := some (.int (I 96 16))) (h1 := (px_shX, px_kr I i t, px_mJ Jc, px_mP Pc)) rfl rfl rfl (px_daR_0 I i t) hh) ?_
  refine px_X_hi (j := (X + 29 + 0)) rfl (by show (nI X + nI 29 + nI 0) = nI (X + 29 + 0); simp only [nI_add]) (by omega) (by omega) (fun I => ?_)
  refine px_ex (fun _ hh => px_E_seg 2 (σ' := (268, [(2, .int 1), (1, .int (nI X)), (0, .ref 95)], [], (px_shX, px_kr I i t, px_mJ Jc, px_mP Pc))) rfl hh) ?_
  refine px_ex (fun _ hh => px_E_seg 3 (σ' := (274, [(2, .int 1), (1, .int (nI X)), (0, .ref 95)], [], (px_shX, px_kr I i t, px_mJ Jc, px_mP Pc))) rfl hh) ?_
  refine px_ex (fun _ hh => px_E_seg 5 (σ' := (282, [(2, .int 1), (1, .int (nI X)), (0, .ref 95)], [.int (nI X + 29), .ref 96], (px_shX, px_kr I i t, px_mJ Jc, px_mP Pc))) rfl hh) ?_
  refine px_ex (fun _ hh => px_E_seg 2 (σ' := (284, [(2, .int 1), (1, .int (nI X)), (0, .ref 95)], [.int (nI X + 29 + 1), .ref 96], (px_shX, px_kr I i t, px_mJ Jc, px_mP Pc))) rfl hh) ?_
  refine px_ex (fun _ hh => px_E_seg 2 (σ' := (286, [(2, .int 1), (1, .int (nI X)), (0, .ref 95)], [.int 1, .ref 95, .int (nI X + 29 + 1), .ref 96], (px_shX, px_kr I i t, px_mJ Jc, px_mP Pc))) rfl hh) ?_
  refine px_ex (fun _ hh => px_E_call (j := 246) (as := [.ref 95, .int 1]) (rest := [.int (nI X + 29 + 1), .ref 96]) (v := some (.int (I 96 19))) (h1 := (px_shX, px_kr I i t, px_mJ Jc, px_mP Pc)) rfl rfl rfl (px_daR_1 I i t) hh) ?_
  refine px_X_hi (j := (X + 29 + 1)) rfl (by show (nI X + nI 29 + nI 1) = nI (X + 29 + 1); simp only [nI_add]) (by omega) (by omega) (fun I => ?_)
  refine px_ex (fun _ hh => px_E_seg 2 (σ' := (268, [(2, .int 2), (1, .int (nI X)), (0, .ref 95)], [], (px_shX, px_kr I i t, px_mJ Jc, px_mP Pc))) rfl hh) ?_
  refine px_ex (fun _ hh => px_E_seg 3 (σ' := (274, [(2, .int 2), (1, .int (nI X)), (0, .ref 95)], [], (px_shX, px_kr I i t, px_mJ Jc, px_mP Pc))) rfl hh) ?_
  refine px_ex (fun _ hh => px_E_seg 5 (σ' := (282, [(2, .int 2), (1, .int (nI X)), (0, .ref 95)], [.int (nI X + 29), .ref 96], (px_shX, px_kr I i t, px_mJ Jc, px_mP Pc))) rfl hh) ?_
  refine px_ex (fun _ hh => px_E_seg 2 (σ' := (284, [(2, .int 2), (1, .int (nI X)), (0, .ref 95)], [.int (nI X + 29 + 2), .ref 96], (px_shX, px_kr I i t, px_mJ Jc, px_mP Pc))) rfl hh) ?_
  refine px_ex (fun _ hh => px_E_seg 2 (σ' := (286, [(2, .int 2), (1, .int (nI X)), (0, .ref 95)], [.int 2, .ref 95, .int (nI X + 29 + 2), .ref 96], (px_shX, px_kr I i t, px_mJ Jc, px_mP Pc))) rfl hh) ?_
  refine px_ex (fun _ hh => px_E_call (j := 246) (as := [.ref 95, .int 2]) (rest := [.int (nI X + 29 + 2), .ref 96]) (v := some (.int (I 96 22))) (h1 := (px_shX, px_kr I i t, px_mJ Jc, px_mP Pc)) rfl rfl rfl (px_daR_2 I i t) hh) ?_
  refine px_X_hi (j := (X + 29 + 2)) rfl (by show (nI X + nI 29 + nI 2) = nI (X + 29 + 2); simp only [nI_add]) (by omega) (by omega) (fun I => ?_)
  refine px_ex (fun _ hh => px_E_seg 2 (σ' := (268, [(2, .int 3), (1, .int (nI X)), (0, .ref 95)], [], (px_shX, px_kr I i t, px_mJ Jc, px_mP Pc))) rfl hh) ?_
  refine px_ex (fun _ hh => px_E_seg 3 (σ' := (274, [(2, .int 3), (1, .int (nI X)), (0, .ref 95)], [], (px_shX, px_kr I i t, px_mJ Jc, px_mP Pc))) rfl hh) ?_
  refine px_ex (fun _ hh => px_E_seg 5 (σ' := (282, [(2, .int 3), (1, .int (nI X)), (0, .ref 95)], [.int (nI X + 29), .ref 96], (px_shX, px_kr I i t, px_mJ Jc, px_mP Pc))) rfl hh) ?_
  refine px_ex (fun _ hh => px_E_seg 2 (σ' := (284, [(2, .int 3), (1, .int (nI X)), (0, .ref 95)], [.int (nI X + 29 + 3), .ref 96], (px_shX, px_kr I i t, px_mJ Jc, px_mP Pc))) rfl hh) ?_
  refine px_ex (fun _ hh => px_E_seg 2 (σ' := (286, [(2, .int 3), (1, .int (nI X)), (0, .ref 95)], [.int 3, .ref 95, .int (nI X + 29 + 3), .ref 96], (px_shX, px_kr I i t, px_mJ Jc, px_mP Pc))) rfl hh) ?_
  refine px_ex (fun _ hh => px_E_call (j := 246) (as := [.ref 95, .int 3]) (rest := [.int (nI X + 29 + 3), .ref 96]) (v := some (.int (I 96 25))) (h1 := (px_shX, px_kr I i t, px_mJ Jc, px_mP Pc)) rfl rfl rfl (px_daR_3 I i t) hh) ?_
  refine px_X_hi (j := (X + 29 + 3)) rfl (by show (nI X + nI 29 + nI 3) = nI (X + 29 + 3); simp only [nI_add]) (by omega) (by omega) (fun I => ?_)
  refine px_ex (fun _ hh => px_E_seg 2 (σ' := (268, [(2, .int 4), (1, .int (nI X)), (0, .ref 95)], [], (px_shX, px_kr I i t, px_mJ Jc, px_mP Pc))) rfl hh) ?_
  refine px_ex (fun _ hh => px_E_seg 3 (σ' := (274, [(2, .int 4), (1, .int (nI X)), (0, .ref 95)], [], (px_shX, px_kr I i t, px_mJ Jc, px_mP Pc))) rfl hh) ?_
  refine px_ex (fun _ hh => px_E_seg 5 (σ' := (282, [(2, .int 4), (1, .int (nI X)), (0, .ref 95)], [.int (nI X + 29), .ref 96], (px_shX, px_kr I i t, px_mJ Jc, px_mP Pc))) rfl hh) ?_
  refine px_ex (fun _ hh => px_E_seg 2 (σ' := (284, [(2, .int 4), (1, .int (nI X)), (0, .ref 95)], [.int (nI X + 29 + 4), .ref 96], (px_shX, px_kr I i t, px_mJ Jc, px_mP Pc))) rfl hh) ?_
  refine px_ex (fun _ hh => px_E_seg 2 (σ' := (286, [(2, .int 4), (1, .int (nI X)), (0, .ref 95)], [.int 4, .ref 95, .int (nI X + 29 + 4), .ref 96], (px_shX, px_kr I i t, px_mJ Jc, px_mP Pc))) rfl hh) ?_
  refine px_ex (fun _ hh => px_E_call (j := 246) (as := [.ref 95, .int 4]) (rest := [.int (nI X + 29 + 4), .ref 96]) (v := some (.int (I 96 28))) (h1 := (px_shX, px_kr I i t, px_mJ Jc, px_mP Pc)) rfl rfl rfl (px_daR_4 I i t) hh) ?_
  refine px_X_hi (j := (X + 29 + 4)) rfl (by show (nI X + nI 29 + nI 4) = nI (X + 29 + 4); simp only [nI_add]) (by omega) (by omega) (fun I => ?_)
  refine px_ex (fun _ hh => px_E_seg 2 (σ' := (268, [(2, .int 5), (1, .int (nI X)), (0, .ref 95)], [], (px_shX, px_kr I i t, px_mJ Jc, px_mP Pc))) rfl hh) ?_
  refine px_ex (fun _ hh => px_E_seg 3 (σ' := (274, [(2, .int 5), (1, .int (nI X)), (0, .ref 95)], [], (px_shX, px_kr I i t, px_mJ Jc, px_mP Pc))) rfl hh) ?_
  refine px_ex (fun _ hh => px_E_seg 5 (σ' := (282, [(2, .int 5), (1, .int (nI X)), (0, .ref 95)], [.int (nI X + 29), .ref 96], (px_shX, px_kr I i t, px_mJ Jc, px_mP Pc))) rfl hh) ?_
  refine px_ex (fun _ hh => px_E_seg 2 (σ' := (284, [(2, .int 5), (1, .int (nI X)), (0, .ref 95)], [.int (nI X + 29 + 5), .ref 96], (px_shX, px_kr I i t, px_mJ Jc, px_mP Pc))) rfl hh) ?_
  refine px_ex (fun _ hh => px_E_seg 2 (σ' := (286, [(2, .int 5), (1, .int (nI X)), (0, .ref 95)], [.int 5, .ref 95, .int (nI X + 29 + 5), .ref 96], (px_shX, px_kr I i t, px_mJ Jc, px_mP Pc))) rfl hh) ?_
  refine px_ex (fun _ hh => px_E_call (j := 246) (as := [.ref 95, .int 5]) (rest := [.int (nI X + 29 + 5), .ref 96]) (v := some (.int (I 96 31))) (h1 := (px_shX, px_kr I i t, px_mJ Jc, px_mP Pc)) rfl rfl rfl (px_daR_5 I i t) hh) ?_
  refine px_X_hi (j := (X + 29 + 5)) rfl (by show (nI X + nI 29 + nI 5) = nI (X + 29 + 5); simp only [nI_add]) (by omega) (by omega) (fun I => ?_)
  refine px_ex (fun _ hh => px_E_seg 2 (σ' := (268, [(2, .int 6), (1, .int (nI X)), (0, .ref 95)], [], (px_shX, px_kr I i t, px_mJ Jc, px_mP Pc))) rfl hh) ?_
  refine px_ex (fun _ hh => px_E_seg 3 (σ' := (274, [(2, .int 6), (1, .int (nI X)), (0, .ref 95)], [], (px_shX, px_kr I i t, px_mJ Jc, px_mP Pc))) rfl hh) ?_
  refine px_ex (fun _ hh => px_E_seg 5 (σ' := (282, [(2, .int 6), (1, .int (nI X)), (0, .ref 95)], [.int (nI X + 29), .ref 96], (px_shX, px_kr I i t, px_mJ Jc, px_mP Pc))) rfl hh) ?_
  refine px_ex (fun _ hh => px_E_seg 2 (σ' := (284, [(2, .int 6), (1, .int (nI X)), (0, .ref 95)], [.int (nI X + 29 + 6), .ref 96], (px_shX, px_kr I i t, px_mJ Jc, px_mP Pc))) rfl hh) ?_
  refine px_ex (fun _ hh => px_E_seg 2 (σ' := (286, [(2, .int 6), (1, .int (nI X)), (0, .ref 95)], [.int 6, .ref 95, .int (nI X + 29 + 6), .ref 96], (px_shX, px_kr I i t, px_mJ Jc, px_mP Pc))) rfl hh) ?_
  refine px_ex (fun _ hh => px_E_call (j := 246) (as := [.ref 95, .int 6]) (rest := [.int (nI X + 29 + 6), .ref 96]) (v := some (.int (I 96 34))) (h1 := (px_shX, px_kr I i t, px_mJ Jc, px_mP Pc)) rfl rfl rfl (px_daR_6 I i t) hh) ?_
  refine px_X_hi (j := (X + 29 + 6)) rfl (by show (nI X + nI 29 + nI 6) = nI (X + 29 + 6); simp only [nI_add]) (by omega) (by omega) (fun I => ?_)
  refine px_ex (fun _ hh => px_E_seg 2 (σ' := (268, [(2, .int 7), (1, .int (nI X)), (0, .ref 95)], [], (px_shX, px_kr I i t, px_mJ Jc, px_mP Pc))) rfl hh) ?_
  refine px_ex (fun _ hh => px_E_seg 3 (σ' := (274, [(2, .int 7), (1, .int (nI X)), (0, .ref 95)], [], (px_shX, px_kr I i t, px_mJ Jc, px_mP Pc))) rfl hh) ?_
  refine px_ex (fun _ hh => px_E_seg 5 (σ' := (282, [(2, .int 7), (1, .int (nI X)), (0, .ref 95)], [.int (nI X + 29), .ref 96], (px_shX, px_kr I i t, px_mJ Jc, px_mP Pc))) rfl hh) ?_
  refine px_ex (fun _ hh => px_E_seg 2 (σ' := (284, [(2, .int 7), (1, .int (nI X)), (0, .ref 95)], [.int (nI X + 29 + 7), .ref 96], (px_shX, px_kr I i t, px_mJ Jc, px_mP Pc))) rfl hh) ?_
  refine px_ex (fun _ hh => px_E_seg 2 (σ' := (286, [(2, .int 7), (1, .int (nI X)), (0, .ref 95)], [.int 7, .ref 95, .int (nI X + 29 + 7), .ref 96], (px_shX, px_kr I i t, px_mJ Jc, px_mP Pc))) rfl hh) ?_
  refine px_ex (fun _ hh => px_E_call (j := 246) (as := [.ref 95, .int 7]) (rest := [.int (nI X + 29 + 7), .ref 96]) (v := some (.int (I 96 37))) (h1 := (px_shX, px_kr I i t, px_mJ Jc, px_mP Pc)) rfl rfl rfl (px_daR_7 I i t) hh) ?_
  refine px_X_hi (j := (X + 29 + 7)) rfl (by show (nI X + nI 29 + nI 7) = nI (X + 29 + 7); simp only [nI_add]) (by omega) (by omega) (fun I => ?_)
  refine px_ex (fun _ hh => px_E_seg 2 (σ' := (268, [(2, .int 8), (1, .int (nI X)), (0, .ref 95)], [], (px_shX, px_kr I i t, px_mJ Jc, px_mP Pc))) rfl hh) ?_
  refine px_ex (fun _ hh => px_E_seg 3 (σ' := (274, [(2, .int 8), (1, .int (nI X)), (0, .ref 95)], [], (px_shX, px_kr I i t, px_mJ Jc, px_mP Pc))) rfl hh) ?_
  refine px_ex (fun _ hh => px_E_seg 5 (σ' := (282, [(2, .int 8), (1, .int (nI X)), (0, .ref 95)], [.int (nI X + 29), .ref 96], (px_shX, px_kr I i t, px_mJ Jc, px_mP Pc))) rfl hh) ?_
  refine px_ex (fun _ hh => px_E_seg 2 (σ' := (284, [(2, .int 8), (1, .int (nI X)), (0, .ref 95)], [.int (nI X + 29 + 8), .ref 96], (px_shX, px_kr I i t, px_mJ Jc, px_mP Pc))) rfl hh) ?_
  refine px_ex (fun _ hh => px_E_seg 2 (σ' := (286, [(2, .int 8), (1, .int (nI X)), (0, .ref 95)], [.int 8, .ref 95, .int (nI X + 29 + 8), .ref 96], (px_shX, px_kr I i t, px_mJ Jc, px_mP Pc))) rfl hh) ?_
  refine px_ex (fun _ hh => px_E_call (j := 246) (as := [.ref 95, .int 8]) (rest := [.int (nI X + 29 + 8), .ref 96]) (v := some (.int (I 96 40))) (h1 := (px_shX, px_kr I i t, px_mJ Jc, px_mP Pc)) rfl rfl rfl (px_daR_8 I i t) hh) ?_
  refine px_X_hi (j := (X + 29 + 8)) rfl (by show (nI X + nI 29 + nI 8) = nI (X + 29 + 8); simp only [nI_add]) (by omega) (by omega) (fun I => ?_)
  refine px_ex (fun _ hh => px_E_seg 2 (σ' := (268, [(2, .int 9), (1, .int (nI X)), (0, .ref 95)], [], (px_shX, px_kr I i t, px_mJ Jc, px_mP Pc))) rfl hh) ?_
  refine px_ex (fun _ hh => px_E_seg 3 (σ' := (274, [(2, .int 9), (1, .int (nI X)), (0, .ref 95)], [], (px_shX, px_kr I i t, px_mJ Jc, px_mP Pc))) rfl hh) ?_
  refine px_ex (fun _ hh => px_E_seg 5 (σ' := (282, [(2, .int 9), (1, .int (nI X)), (0, .ref 95)], [.int (nI X + 29), .ref 96], (px_shX, px_kr I i t, px_mJ Jc, px_mP Pc))) rfl hh) ?_
  refine px_ex (fun _ hh => px_E_seg 2 (σ' := (284, [(2, .int 9), (1, .int (nI X)), (0, .ref 95)], [.int (nI X + 29 + 9), .ref 96], (px_shX, px_kr I i t, px_mJ Jc, px_mP Pc))) rfl hh) ?_
  refine px_ex (fun _ hh => px_E_seg 2 (σ' := (286, [(2, .int 9), (1, .int (nI X)), (0, .ref 95)], [.int 9, .ref 95, .int (nI X + 29 + 9), .ref 96], (px_shX, px_kr I i t, px_mJ Jc, px_mP Pc))) rfl hh) ?_
  refine px_ex (fun _ hh => px_E_call (j := 246) (as := [.ref 95, .int 9]) (rest := [.int (nI X + 29 + 9), .ref 96]) (v := some (.int (I 96 43))) (h1 := (px_shX, px_kr I i t, px_mJ Jc, px_mP Pc)) rfl rfl rfl (px_daR_9 I i t) hh) ?_
  refine px_X_hi (j := (X + 29 + 9)) rfl (by show (nI X + nI 29 + nI 9) = nI (X + 29 + 9); simp only [nI_add]) (by omega) (by omega) (fun I => ?_)
  refine px_ex (fun _ hh => px_E_seg 2 (σ' := (268, [(2, .int 10), (1, .int (nI X)), (0, .ref 95)], [], (px_shX, px_kr I i t, px_mJ Jc, px_mP Pc))) rfl hh) ?_
  refine px_ex (fun _ hh => px_E_seg 3 (σ' := (274, [(2, .int 10), (1, .int (nI X)), (0, .ref 95)], [], (px_shX, px_kr I i t, px_mJ Jc, px_mP Pc))) rfl hh) ?_
  refine px_ex (fun _ hh => px_E_seg 5 (σ' := (282, [(2, .int 10), (1, .int (nI X)), (0, .ref 95)], [.int (nI X + 29), .ref 96], (px_shX, px_kr I i t, px_mJ Jc, px_mP Pc))) rfl hh) ?_
  refine px_ex (fun _ hh => px_E_seg 2 (σ' := (284, [(2, .int 10), (1, .int (nI X)), (0, .ref 95)], [.int (nI X + 29 + 10), .ref 96], (px_shX, px_kr I i t, px_mJ Jc, px_mP Pc))) rfl hh) ?_
  refine px_ex (fun _ hh => px_E_seg 2 (σ' := (286, [(2, .int 10), (1, .int (nI X)), (0, .ref 95)], [.int 10, .ref 95, .int (nI X + 29 + 10), .ref 96], (px_shX, px_kr I i t, px_mJ Jc, px_mP Pc))) rfl hh) ?_
  refine px_ex (fun _ hh => px_E_call (j := 246) (as := [.ref 95, .int 10]) (rest := [.int (nI X + 29 + 10), .ref 96]) (v := some (.int (I 96 46))) (h1 := (px_shX, px_kr I i t, px_mJ Jc, px_mP Pc)) rfl rfl rfl (px_daR_10 I i t) hh) ?_
  refine px_X_hi (j := (X + 29 + 10)) rfl (by show (nI X + nI 29 + nI 10) = nI (X + 29 + 10); simp only [nI_add]) (by omega) (by omega) (fun I => ?_)
  refine px_ex (fun _ hh => px_E_seg 2 (σ' := (268, [(2, .int 11), (1, .int (nI X)), (0, .ref 95)], [], (px_shX, px_kr I i t, px_mJ Jc, px_mP Pc))) rfl hh) ?_
  refine px_ex (fun _ hh => px_E_seg 3 (σ' := (274, [(2, .int 11), (1, .int (nI X)), (0, .ref 95)], [], (px_shX, px_kr I i t, px_mJ Jc, px_mP Pc))) rfl hh) ?_
  refine px_ex (fun _ hh => px_E_seg 5 (σ' := (282, [(2, .int 11), (1, .int (nI X)), (0, .ref 95)], [.int (nI X + 29), .ref 96], (px_shX, px_kr I i t, px_mJ Jc, px_mP Pc))) rfl hh) ?_
  refine px_ex (fun _ hh => px_E_seg 2 (σ' := (284, [(2, .int 11), (1, .int (nI X)), (0, .ref 95)], [.int (nI X + 29 + 11), .ref 96], (px_shX, px_kr I i t, px_mJ Jc, px_mP Pc))) rfl hh) ?_
  refine px_ex (fun _ hh => px_E_seg 2 (σ' := (286, [(2, .int 11), (1, .int (nI X)), (0, .ref 95)], [.int 11, .ref 95, .int (nI X + 29 + 11), .ref 96], (px_shX, px_kr I i t, px_mJ Jc, px_mP Pc))) rfl hh) ?_
  refine px_ex (fun _ hh => px_E_call (j := 246) (as := [.ref 95, .int 11]) (rest := [.int (nI X + 29 + 11), .ref 96]) (v := some (.int (I 96 49))) (h1 := (px_shX, px_kr I i t, px_mJ Jc, px_mP Pc)) rfl rfl rfl (px_daR_11 I i t) hh) ?_
  refine px_X_hi (j := (X + 29 + 11)) rfl (by show (nI X + nI 29 + nI 11) = nI (X + 29 + 11); simp only [nI_add]) (by omega) (by omega) (fun I => ?_)
  refine px_ex (fun _ hh => px_E_seg 2 (σ' := (268, [(2, .int 12), (1, .int (nI X)), (0, .ref 95)], [], (px_shX, px_kr I i t, px_mJ Jc, px_mP Pc))) rfl hh) ?_
  refine px_ex (fun _ hh => px_E_seg 3 (σ' := (296, [(2, .int 12), (1, .int (nI X)), (0, .ref 95)], [], (px_shX, px_kr I i t, px_mJ Jc, px_mP Pc))) rfl hh) ?_
  refine px_ex (fun _ hh => px_E_seg 6 (σ' := (305, [(2, .int 12), (1, .int (nI X)), (0, .ref 95)], [.int 1, .int (nI t), .int 9, .ref 96], (px_shX, px_kr I i t, px_mJ Jc, px_mP Pc))) rfl hh) ?_
  refine px_ex (fun _ hh => px_E_seg 1 (σ' := (306, [(2, .int 12), (1, .int (nI X)), (0, .ref 95)], [.int (nI t + 1), .int 9, .ref 96], (px_shX, px_kr I i t, px_mJ Jc, px_mP Pc))) rfl hh) ?_
  refine ⟨I, px_E_one (σ' := (307, [(2, .int 12), (1, .int (nI X)), (0, .ref 95)], [], (px_shX, px_up (px_kr I i t) 96 9 (nI t + 1), px_mJ Jc, px_mP Pc))) rfl ?_⟩
  rw [px_kr_9 (nI_1 t)]
  exact px_E_ret rfl rfl
set_option maxRecDepth 100000 in
set_option maxHeartbeats 4000000 in
theorem px_keepR_a {ro : px_RO} {d i t : Nat} {Jc : Nat → Nat → Int64} {Pc : Nat → Nat → Option Nat} {lv : px_L} (hlv : lv = [(0, .ref 95)] ∨ lv = [(1, .int 1218), (0, .ref 95)]) (ht : t ≤ 29) (I : Nat → Nat → Int32) : ∃ I', px_E ro (d + 2) 244 (58, lv, [], (px_shX, px_kr I i t, px_mJ Jc, px_mP Pc)) none (px_shX, px_kr I' i (t + 1), px_mJ Jc, px_mP Pc) := by
  have e : (278 : Int32) + 42 * nI t = nI (278 + 42 * t) := by
    show nI 278 + nI 42 * nI t = _
    rw [pk_mul, nI_add]
  rcases hlv with rfl | rfl
  · refine px_ex (fun _ hh => px_E_seg 6 (σ' := (70, [(0, .ref 95)], [.int (nI t), .int 42, .int 278], (px_shX, px_kr I i t, px_mJ Jc, px_mP Pc))) rfl hh) ?_
    refine px_ex (fun _ hh => px_E_seg 2 (σ' := (72, [(0, .ref 95)], [.int (278 + 42 * nI t)], (px_shX, px_kr I i t, px_mJ Jc, px_mP Pc))) rfl hh) ?_
    rw [e]
    refine px_ex (fun _ hh => px_E_seg 1 (σ' := (73, [(1, .int (nI (278 + 42 * t))), (0, .ref 95)], [], (px_shX, px_kr I i t, px_mJ Jc, px_mP Pc))) rfl hh) ?_
    exact px_keepR_b ht rfl I
  · refine px_ex (fun _ hh => px_E_seg 6 (σ' := (70, [(1, .int 1218), (0, .ref 95)], [.int (nI t), .int 42, .int 278], (px_shX, px_kr I i t, px_mJ Jc, px_mP Pc))) rfl hh) ?_
    refine px_ex (fun _ hh => px_E_seg 2 (σ' := (72, [(1, .int 1218), (0, .ref 95)], [.int (278 + 42 * nI t)], (px_shX, px_kr I i t, px_mJ Jc, px_mP Pc))) rfl hh) ?_
    rw [e]
    refine px_ex (fun _ hh => px_E_seg 1 (σ' := (73, [(1, .int (nI (278 + 42 * t))), (0, .ref 95)], [], (px_shX, px_kr I i t, px_mJ Jc, px_mP Pc))) rfl hh) ?_
    exact px_keepR_b ht rfl I
set_option maxRecDepth 100000 in
set_option maxHeartbeats 4000000 in
theorem px_keepR_l {ro : px_RO} {d i : Nat} {Jc : Nat → Nat → Int64} {Pc : Nat → Nat → Option Nat} : ∀ (m k : Nat) (I : Nat → Nat → Int32), k + m = 1218 → ∃ I', px_E ro (d + 2) 244 (14, [(1, .int (nI k)), (0, .ref 95)], [], (px_shX, px_kr I i 30, px_mJ Jc, px_mP Pc)) none (px_shX, px_kr I' i 30, px_mJ Jc, px_mP Pc) := by
  intro m
  induction m with
  | zero =>
    intro k I hk
    have e : k = 1218 := by omega
    subst e
    refine px_ex (fun _ hh => px_E_seg 3 (σ' := (47, [(1, .int 1218), (0, .ref 95)], [], (px_shX, px_kr I i 30, px_mJ Jc, px_mP Pc))) rfl hh) ?_
    refine px_ex (fun _ hh => px_E_seg 5 (σ' := (55, [(1, .int 1218), (0, .ref 95)], [.int 30, .int 9, .ref 96], (px_shX, px_kr I i 30, px_mJ Jc, px_mP Pc))) rfl hh) ?_
    refine px_ex (fun _ hh => px_E_seg 2 (σ' := (57, [(1, .int 1218), (0, .ref 95)], [.int 29, .int 9, .ref 96], (px_shX, px_kr I i 30, px_mJ Jc, px_mP Pc))) rfl hh) ?_
    refine px_ex (fun _ hh => px_E_one (σ' := (58, [(1, .int 1218), (0, .ref 95)], [], (px_shX, px_up (px_kr I i 30) 96 9 29, px_mJ Jc, px_mP Pc))) rfl hh) ?_
    rw [px_kr_9 (v := 29) (t' := 29) rfl]
    exact px_keepR_a (t := 29) (Or.inr rfl) (by decide) I
  | succ m ih =>
    intro k I hk
    refine px_ex (fun _ hh => px_E_seg 2 (σ' := (18, [(1, .int (nI k)), (0, .ref 95)], [.int 1218, .int (nI k)], (px_shX, px_kr I i 30, px_mJ Jc, px_mP Pc))) rfl hh) ?_
    refine px_ex (fun _ hh => px_E_icmp (t := 47) rfl rfl (fun c9 => absurd c9 (show ¬ nI 1218 ≤ nI k from nI_ge (by omega) (by decide))) (fun _ => hh)) ?_
    refine px_ex (fun _ hh => px_E_seg 4 (σ' := (29, [(1, .int (nI k)), (0, .ref 95)], [.int (nI k), .int 278, .ref 96], (px_shX, px_kr I i 30, px_mJ Jc, px_mP Pc))) rfl hh) ?_
    refine px_ex (fun _ hh => px_E_seg 1 (σ' := (30, [(1, .int (nI k)), (0, .ref 95)], [.int (278 + nI k), .ref 96], (px_shX, px_kr I i 30, px_mJ Jc, px_mP Pc))) rfl hh) ?_
    refine px_ex (fun _ hh => px_E_seg 4 (σ' := (38, [(1, .int (nI k)), (0, .ref 95)], [.int (nI k), .int 320, .ref 96, .int (278 + nI k), .ref 96], (px_shX, px_kr I i 30, px_mJ Jc, px_mP Pc))) rfl hh) ?_
    refine px_ex (fun _ hh => px_E_seg 1 (σ' := (39, [(1, .int (nI k)), (0, .ref 95)], [.int (320 + nI k), .ref 96, .int (278 + nI k), .ref 96], (px_shX, px_kr I i 30, px_mJ Jc, px_mP Pc))) rfl hh) ?_
    refine px_ex (fun _ hh => px_E_iald (n := 1538) (j := 320 + k) rfl rfl rfl (show nI 320 + nI k = _ from nI_add _ _) (by omega) (by decide) hh) ?_
    refine px_X_hi (j := 278 + k) rfl (show nI 278 + nI k = _ from nI_add _ _) (by omega) (by omega) (fun I => ?_)
    refine px_ex (fun _ hh => px_E_seg 2 (σ' := (14, [(1, .int (nI k + 1)), (0, .ref 95)], [], (px_shX, px_kr I i 30, px_mJ Jc, px_mP Pc))) rfl hh) ?_
    rw [nI_1]
    exact ih (k + 1) I (by omega)
set_option maxRecDepth 100000 in
set_option maxHeartbeats 4000000 in
theorem px_keepR {ro : px_RO} {d i t : Nat} {Jc : Nat → Nat → Int64} {Pc : Nat → Nat → Option Nat} (ht : t ≤ 30) (I : Nat → Nat → Int32) : ∃ I' t', px_M ro (d + 2) 244 [.ref 95] (px_shX, px_kr I i t, px_mJ Jc, px_mP Pc) none (px_shX, px_kr I' i t', px_mJ Jc, px_mP Pc) ∧ t' ≤ 30 := by
  rcases Nat.lt_or_ge t 30 with q | q
  · obtain ⟨I', h⟩ := px_keepR_a (ro := ro) (d := d) (i := i) (t := t) (Jc := Jc) (Pc := Pc) (Or.inl rfl) (by omega) I
    refine ⟨I', t + 1, ?_, by omega⟩
    show px_E ro (d + 2) 244 (0, [(0, .ref 95)], [], (px_shX, px_kr I i t, px_mJ Jc, px_mP Pc)) _ _
    refine px_E_seg 5 (σ' := (9, [(0, .ref 95)], [.int 30, .int (nI t)], (px_shX, px_kr I i t, px_mJ Jc, px_mP Pc))) rfl ?_
    exact px_E_icmp (t := 58) rfl rfl (fun _ => h) (fun n9 => absurd (fun e9 => Nat.ne_of_lt q ((nI_eq (by omega) (by decide)).mp (show nI t = nI 30 from e9))) n9)
  · have e : t = 30 := by omega
    subst e
    obtain ⟨I', h⟩ := px_keepR_l (ro := ro) (d := d) (i := i) (Jc := Jc) (Pc := Pc) 1218 0 I (by omega)
    refine ⟨I', 30, ?_, by omega⟩
    show px_E ro (d + 2) 244 (0, [(0, .ref 95)], [], (px_shX, px_kr I i 30, px_mJ Jc, px_mP Pc)) _ _
    refine px_E_seg 6 (σ' := (12, [(0, .ref 95)], [], (px_shX, px_kr I i 30, px_mJ Jc, px_mP Pc))) rfl ?_
    refine px_E_seg 2 (σ' := (14, [(1, .int (nI 0)), (0, .ref 95)], [], (px_shX, px_kr I i 30, px_mJ Jc, px_mP Pc))) rfl ?_
    exact h
set_option maxRecDepth 100000 in
set_option maxHeartbeats 4000000 in
theorem px_stepR {ro : px_RO} {d i t : Nat} {Jc : Nat → Nat → Int64} {Pc : Nat → Nat → Option Nat} (hi : i < 999) (ht : t ≤ 30) (I : Nat → Nat → Int32) : ∃ I' t', px_M ro (d + 5) 259 [.ref 95] (px_shX, px_kr I i t, px_mJ Jc, px_mP Pc) (some (.int 1)) (px_shX, px_kr I' (i + 1) t', px_mJ Jc, px_mP Pc) ∧ t' ≤ 30 := by
  obtain ⟨I1, t1, hM, ht1⟩ := px_keepR (ro := ro) (d := d + 2) (i := i) (Jc := Jc) (Pc := Pc) ht I
  have hP := px_passR (ro := ro) (d := d) I1 i t1 (Jc := Jc) (Pc := Pc)
  rw [px_kr_3 (nI_1 i)] at hP
  refine ⟨I1, t1, ?_, ht1⟩
  show px_E ro (d + 5) 259 (0, [(0, .ref 95)], [], (px_shX, px_kr I i t, px_mJ Jc, px_mP Pc)) _ _
  refine px_E_seg 5 (σ' := (9, [(0, .ref 95)], [.int 999, .int (nI i)], (px_shX, px_kr I i t, px_mJ Jc, px_mP Pc))) rfl ?_
  refine px_E_icmp (t := 14) rfl rfl (fun _ => ?_) (fun n9 => absurd (fun e9 => Nat.ne_of_lt hi ((nI_eq (by omega) (by decide)).mp (show nI i = nI 999 from e9))) n9)
  refine px_E_seg 1 (σ' := (15, [(0, .ref 95)], [.ref 95], (px_shX, px_kr I i t, px_mJ Jc, px_mP Pc))) rfl ?_
  refine px_E_call (j := 244) (as := [.ref 95]) (rest := []) (v := none) (h1 := (px_shX, px_kr I1 i t1, px_mJ Jc, px_mP Pc)) rfl rfl rfl hM ?_
  refine px_E_seg 1 (σ' := (19, [(0, .ref 95)], [.ref 95], (px_shX, px_kr I1 i t1, px_mJ Jc, px_mP Pc))) rfl ?_
  refine px_E_call (j := 260) (as := [.ref 95]) (rest := []) (v := none) (h1 := (px_shX, px_kr I1 (i + 1) t1, px_mJ Jc, px_mP Pc)) rfl rfl rfl hP ?_
  refine px_E_seg 1 (σ' := (23, [(0, .ref 95)], [.int 1], (px_shX, px_kr I1 (i + 1) t1, px_mJ Jc, px_mP Pc))) rfl ?_
  exact px_E_ret rfl rfl
set_option maxRecDepth 100000 in
set_option maxHeartbeats 4000000 in
theorem px_areR {ro : px_RO} {d n : Nat} {Jc : Nat → Nat → Int64} {Pc : Nat → Nat → Option Nat} (hn : n ≤ 60) : ∀ (m i t : Nat) (I : Nat → Nat → Int32), i + m = n → t ≤ 30 → ∃ I' t', px_E ro (d + 6) 258 (2, [(2, .int (nI i)), (0, .ref 95), (1, .int (nI n))], [], (px_shX, px_kr I i t, px_mJ Jc, px_mP Pc)) (some (.int 1)) (px_shX, px_kr I' n t', px_mJ Jc, px_mP Pc) := by
  intro m
  induction m with
  | zero =>
    intro i t I hi ht
    have e : i = n := by omega
    subst e
    refine ⟨I, t, ?_⟩
    refine px_E_seg 2 (σ' := (4, [(2, .int (nI i)), (0, .ref 95), (1, .int (nI i))], [.int (nI i), .int (nI i)], (px_shX, px_kr I i t, px_mJ Jc, px_mP Pc))) rfl ?_
    refine px_E_icmp (t := 22) rfl rfl (fun _ => ?_) (fun n9 => absurd (Int32.le_refl _) n9)
    refine px_E_seg 1 (σ' := (23, [(2, .int (nI i)), (0, .ref 95), (1, .int (nI i))], [.int 1], (px_shX, px_kr I i t, px_mJ Jc, px_mP Pc))) rfl ?_
    exact px_E_ret rfl rfl
  | succ m ih =>
    intro i t I hi ht
    obtain ⟨I1, t1, hM, ht1⟩ := px_stepR (ro := ro) (d := d) (i := i) (t := t) (Jc := Jc) (Pc := Pc) (by omega) ht I
    obtain ⟨I', t', hE⟩ := ih (i + 1) t1 I1 (by omega) ht1
    refine ⟨I', t', ?_⟩
    refine px_E_seg 2 (σ' := (4, [(2, .int (nI i)), (0, .ref 95), (1, .int (nI n))], [.int (nI n), .int (nI i)], (px_shX, px_kr I i t, px_mJ Jc, px_mP Pc))) rfl ?_
    refine px_E_icmp (t := 22) rfl rfl (fun c9 => absurd c9 (nI_ge (by omega) (by omega))) (fun _ => ?_)
    refine px_E_seg 1 (σ' := (8, [(2, .int (nI i)), (0, .ref 95), (1, .int (nI n))], [.ref 95], (px_shX, px_kr I i t, px_mJ Jc, px_mP Pc))) rfl ?_
    refine px_E_call (j := 259) (as := [.ref 95]) (rest := []) (v := some (.int 1)) (h1 := (px_shX, px_kr I1 (i + 1) t1, px_mJ Jc, px_mP Pc)) rfl rfl rfl hM ?_
    refine px_E_seg 1 (σ' := (16, [(2, .int (nI i)), (0, .ref 95), (1, .int (nI n))], [], (px_shX, px_kr I1 (i + 1) t1, px_mJ Jc, px_mP Pc))) rfl ?_
    refine px_E_seg 2 (σ' := (2, [(2, .int (nI i + 1)), (0, .ref 95), (1, .int (nI n))], [], (px_shX, px_kr I1 (i + 1) t1, px_mJ Jc, px_mP Pc))) rfl ?_
    rw [nI_1]
    exact hE
set_option maxRecDepth 100000 in
set_option maxHeartbeats 4000000 in
theorem px_r9_in {ro : px_RO} {dd n : Nat} (h1 : 1 ≤ n) (h2 : n ≤ 60) : px_RX ro (dd + 8) 257 [.ref 95, .int (nI n)] (.int 0) := by
  intro Ic Jc Pc
  have en : (nI n).toInt = (n : Int) := nI_toInt (by omega)
  have ek : px_kr (px_mI Ic) 0 0 = px_mI Ic := px_kr_eq (fun b hb => by
    match b, hb with
    | 0, _ => rfl
    | 1, _ => rfl
    | 2, _ => rfl) rfl rfl rfl rfl rfl rfl
  obtain ⟨I', t', hE⟩ := px_areR (ro := ro) (d := dd + 1) (n := n) (Jc := Jc) (Pc := Pc) h2 n 0 0 (px_mI Ic) (by omega) (by omega)
  rw [ek] at hE
  have hd := px_doneR (ro := ro) (d := dd + 3) I' n t' (Jc := Jc) (Pc := Pc)
  refine ⟨(px_shX, px_kr I' n t', px_mJ Jc, px_mP Pc), ?_, rfl⟩
  show px_E ro (dd + 8) 257 (0, _, [], _) _ _
  refine px_E_seg 3 (σ' := (4, [(0, .ref 95), (1, .int (nI n))], [.int 60, .int 1, .int (nI n)], (px_shX, (px_mI Ic), (px_mJ Jc), (px_mP Pc)))) rfl ?_
  refine px_E_call (j := 183) (as := [.int (nI n), .int 1, .int 60]) (rest := []) (v := some (.int 1)) (h1 := (px_shX, (px_mI Ic), (px_mJ Jc), (px_mP Pc))) rfl rfl rfl (by
    refine px_E_seg 2 (σ' := (2, [(0, .int (nI n)), (1, .int 1), (2, .int 60)], [.int 1, .int (nI n)], (px_shX, (px_mI Ic), (px_mJ Jc), (px_mP Pc)))) rfl ?_
    refine px_E_icF (t := 14) rfl rfl (show (1 : Int) ≤ (nI n).toInt by omega) ?_
    refine px_E_seg 2 (σ' := (7, [(0, .int (nI n)), (1, .int 1), (2, .int 60)], [.int 60, .int (nI n)], (px_shX, (px_mI Ic), (px_mJ Jc), (px_mP Pc)))) rfl ?_
    refine px_E_icF (t := 14) rfl rfl (show (nI n).toInt ≤ (60 : Int) by omega) ?_
    refine px_E_seg 2 (σ' := (15, [(0, .int (nI n)), (1, .int 1), (2, .int 60)], [.int 1], (px_shX, (px_mI Ic), (px_mJ Jc), (px_mP Pc)))) rfl ?_
    exact px_E_ret rfl rfl) ?_
  refine px_E_seg 1 (σ' := (10, [(0, .ref 95), (1, .int (nI n))], [], (px_shX, (px_mI Ic), (px_mJ Jc), (px_mP Pc)))) rfl ?_
  refine px_E_seg 5 (σ' := (17, [(0, .ref 95), (1, .int (nI n))], [.int (nI n), .int 0], (px_shX, px_mI Ic, px_mJ Jc, px_mP Pc))) rfl ?_
  refine px_E_seg 1 (σ' := (18, [(0, .ref 95), (1, .int (nI n))], [.int (0 + nI n)], (px_shX, px_mI Ic, px_mJ Jc, px_mP Pc))) rfl ?_
  rw [show (0 : Int32) + nI n = nI n from by rw [← nI_0, nI_add, Nat.zero_add]]
  refine px_E_seg 1 (σ' := (21, [(0, .ref 95), (1, .int (nI n))], [.int 999, .int (nI n)], (px_shX, px_mI Ic, px_mJ Jc, px_mP Pc))) rfl ?_
  refine px_E_icmp (t := 39) rfl rfl (fun c9 => absurd c9 (show ¬ nI 999 < nI n from nI_nlt (by omega) (by decide))) (fun _ => ?_)
  refine px_E_seg 2 (σ' := (26, [(0, .ref 95), (1, .int (nI n))], [.int (nI n), .ref 95], (px_shX, px_mI Ic, px_mJ Jc, px_mP Pc))) rfl ?_
  refine px_E_call (j := 258) (as := [.ref 95, .int (nI n)]) (rest := []) (v := some (.int 1)) (h1 := (px_shX, px_kr I' n t', px_mJ Jc, px_mP Pc)) rfl rfl rfl (by
    show px_E ro (dd + 7) 258 (0, [(0, .ref 95), (1, .int (nI n))], [], (px_shX, px_mI Ic, px_mJ Jc, px_mP Pc)) _ _
    refine px_E_seg 2 (σ' := (2, [(2, .int (nI 0)), (0, .ref 95), (1, .int (nI n))], [], (px_shX, px_mI Ic, px_mJ Jc, px_mP Pc))) rfl ?_
    exact hE) ?_
  refine px_E_seg 2 (σ' := (33, [(0, .ref 95), (1, .int (nI n))], [.ref 95], (px_shX, px_kr I' n t', px_mJ Jc, px_mP Pc))) rfl ?_
  refine px_E_call (j := 279) (as := [.ref 95]) (rest := []) (v := some (.int 0)) (h1 := (px_shX, px_kr I' n t', px_mJ Jc, px_mP Pc)) rfl rfl rfl hd ?_
  refine px_E_seg 1 (σ' := (40, [(0, .ref 95), (1, .int (nI n))], [.int 0], (px_shX, px_kr I' n t', px_mJ Jc, px_mP Pc))) rfl ?_
  exact px_E_ret rfl rfl
set_option maxRecDepth 100000 in
set_option maxHeartbeats 4000000 in
theorem px_x9_0 {ro : px_RO} {dd : Nat} (a1 : Int32) (ha1 : (-2147483648) ≤ a1.toInt ∧ a1.toInt ≤ 0) : px_CX ro (dd + 8) 70 [.ref 0, .int a1] (.int (-1)) := by
  refine ⟨px_IX, px_PX, ?_, px_fr_0, px_frP_0⟩
  show px_E ro (dd + 8) 70 (0, _, [], _) _ _
  refine px_E_seg 3 (σ' := (4, [(0, .ref 0), (1, .int a1)], [.int 60, .int 1, .int a1], (px_shX, px_IX, px_JX, px_PX))) rfl ?_
  refine px_E_call (j := 15) (as := [.int a1, .int 1, .int 60]) (rest := []) (v := some (.int 0)) (h1 := (px_shX, px_IX, px_JX, px_PX)) rfl rfl rfl (by
    refine px_E_seg 2 (σ' := (2, [(0, .int a1), (1, .int 1), (2, .int 60)], [.int 1, .int a1], (px_shX, px_IX, px_JX, px_PX))) rfl ?_
    refine px_E_icT (t := 14) rfl rfl (show a1.toInt < (1 : Int) by omega) ?_
    refine px_E_seg 1 (σ' := (15, [(0, .int a1), (1, .int 1), (2, .int 60)], [.int 0], (px_shX, px_IX, px_JX, px_PX))) rfl ?_
    exact px_E_ret rfl rfl) ?_
  refine px_E_seg 2 (σ' := (26, [(0, .ref 0), (1, .int a1)], [.int (-1)], (px_shX, px_IX, px_JX, px_PX))) rfl ?_
  exact px_E_ret rfl rfl
set_option maxRecDepth 100000 in
set_option maxHeartbeats 4000000 in
theorem px_r9_0 {ro : px_RO} {dd : Nat} (a1 : Int32) (ha1 : (-2147483648) ≤ a1.toInt ∧ a1.toInt ≤ 0) : px_RX ro (dd + 8) 257 [.ref 95, .int a1] (.int (-1)) := by
  intro Ic Jc Pc
  refine ⟨(px_shX, (px_mI Ic), (px_mJ Jc), (px_mP Pc)), ?_, rfl⟩
  show px_E ro (dd + 8) 257 (0, _, [], _) _ _
  refine px_E_seg 3 (σ' := (4, [(0, .ref 95), (1, .int a1)], [.int 60, .int 1, .int a1], (px_shX, (px_mI Ic), (px_mJ Jc), (px_mP Pc)))) rfl ?_
  refine px_E_call (j := 183) (as := [.int a1, .int 1, .int 60]) (rest := []) (v := some (.int 0)) (h1 := (px_shX, (px_mI Ic), (px_mJ Jc), (px_mP Pc))) rfl rfl rfl (by
    refine px_E_seg 2 (σ' := (2, [(0, .int a1), (1, .int 1), (2, .int 60)], [.int 1, .int a1], (px_shX, (px_mI Ic), (px_mJ Jc), (px_mP Pc)))) rfl ?_
    refine px_E_icT (t := 14) rfl rfl (show a1.toInt < (1 : Int) by omega) ?_
    refine px_E_seg 1 (σ' := (15, [(0, .int a1), (1, .int 1), (2, .int 60)], [.int 0], (px_shX, (px_mI Ic), (px_mJ Jc), (px_mP Pc)))) rfl ?_
    exact px_E_ret rfl rfl) ?_
  refine px_E_seg 2 (σ' := (40, [(0, .ref 95), (1, .int a1)], [.int (-1)], (px_shX, (px_mI Ic), (px_mJ Jc), (px_mP Pc)))) rfl ?_
  exact px_E_ret rfl rfl
set_option maxRecDepth 100000 in
set_option maxHeartbeats 4000000 in
theorem px_x9_1 {ro : px_RO} {dd : Nat} (a1 : Int32) (ha1 : 61 ≤ a1.toInt ∧ a1.toInt ≤ 2147483647) : px_CX ro (dd + 8) 70 [.ref 0, .int a1] (.int (-1)) := by
  refine ⟨px_IX, px_PX, ?_, px_fr_0, px_frP_0⟩
  show px_E ro (dd + 8) 70 (0, _, [], _) _ _
  refine px_E_seg 3 (σ' := (4, [(0, .ref 0), (1, .int a1)], [.int 60, .int 1, .int a1], (px_shX, px_IX, px_JX, px_PX))) rfl ?_
  refine px_E_call (j := 15) (as := [.int a1, .int 1, .int 60]) (rest := []) (v := some (.int 0)) (h1 := (px_shX, px_IX, px_JX, px_PX)) rfl rfl rfl (by
    refine px_E_seg 2 (σ' := (2, [(0, .int a1), (1, .int 1), (2, .int 60)], [.int 1, .int a1], (px_shX, px_IX, px_JX, px_PX))) rfl ?_
    refine px_E_icF (t := 14) rfl rfl (show (1 : Int) ≤ a1.toInt by omega) ?_
    refine px_E_seg 2 (σ' := (7, [(0, .int a1), (1, .int 1), (2, .int 60)], [.int 60, .int a1], (px_shX, px_IX, px_JX, px_PX))) rfl ?_
    refine px_E_icT (t := 14) rfl rfl (show (60 : Int) < a1.toInt by omega) ?_
    refine px_E_seg 1 (σ' := (15, [(0, .int a1), (1, .int 1), (2, .int 60)], [.int 0], (px_shX, px_IX, px_JX, px_PX))) rfl ?_
    exact px_E_ret rfl rfl) ?_
  refine px_E_seg 2 (σ' := (26, [(0, .ref 0), (1, .int a1)], [.int (-1)], (px_shX, px_IX, px_JX, px_PX))) rfl ?_
  exact px_E_ret rfl rfl
set_option maxRecDepth 100000 in
set_option maxHeartbeats 4000000 in
theorem px_r9_1 {ro : px_RO} {dd : Nat} (a1 : Int32) (ha1 : 61 ≤ a1.toInt ∧ a1.toInt ≤ 2147483647) : px_RX ro (dd + 8) 257 [.ref 95, .int a1] (.int (-1)) := by
  intro Ic Jc Pc
  refine ⟨(px_shX, (px_mI Ic), (px_mJ Jc), (px_mP Pc)), ?_, rfl⟩
  show px_E ro (dd + 8) 257 (0, _, [], _) _ _
  refine px_E_seg 3 (σ' := (4, [(0, .ref 95), (1, .int a1)], [.int 60, .int 1, .int a1], (px_shX, (px_mI Ic), (px_mJ Jc), (px_mP Pc)))) rfl ?_
  refine px_E_call (j := 183) (as := [.int a1, .int 1, .int 60]) (rest := []) (v := some (.int 0)) (h1 := (px_shX, (px_mI Ic), (px_mJ Jc), (px_mP Pc))) rfl rfl rfl (by
    refine px_E_seg 2 (σ' := (2, [(0, .int a1), (1, .int 1), (2, .int 60)], [.int 1, .int a1], (px_shX, (px_mI Ic), (px_mJ Jc), (px_mP Pc)))) rfl ?_
    refine px_E_icF (t := 14) rfl rfl (show (1 : Int) ≤ a1.toInt by omega) ?_
    refine px_E_seg 2 (σ' := (7, [(0, .int a1), (1, .int 1), (2, .int 60)], [.int 60, .int a1], (px_shX, (px_mI Ic), (px_mJ Jc), (px_mP Pc)))) rfl ?_
    refine px_E_icT (t := 14) rfl rfl (show (60 : Int) < a1.toInt by omega) ?_
    refine px_E_seg 1 (σ' := (15, [(0, .int a1), (1, .int 1), (2, .int 60)], [.int 0], (px_shX, (px_mI Ic), (px_mJ Jc), (px_mP Pc)))) rfl ?_
    exact px_E_ret rfl rfl) ?_
  refine px_E_seg 2 (σ' := (40, [(0, .ref 95), (1, .int a1)], [.int (-1)], (px_shX, (px_mI Ic), (px_mJ Jc), (px_mP Pc)))) rfl ?_
  exact px_E_ret rfl rfl
theorem px_case_9 {ro : px_RO} {dd : Nat} (a1 : Int32) : ∃ v : Int32, px_Same ro (dd + 8) 70 257 [.int a1] (.int v) := by
  have q : -2147483648 ≤ a1.toInt ∧ a1.toInt ≤ 2147483647 := ⟨a1.le_toInt, by have := a1.toInt_lt; omega⟩
  rcases (show (-2147483648 ≤ a1.toInt ∧ a1.toInt ≤ 0) ∨ (1 ≤ a1.toInt ∧ a1.toInt ≤ 60) ∨ (61 ≤ a1.toInt ∧ a1.toInt ≤ 2147483647) by omega) with p | p | p
  · exact ⟨_, px_same (px_x9_0 a1 p) (px_r9_0 a1 p)⟩
  · obtain ⟨n, hn, rfl⟩ := px_nat (n := 60) ⟨by omega, p.2⟩ (by decide)
    have en : (nI n).toInt = (n : Int) := nI_toInt (by omega)
    exact ⟨_, px_same (px_x9_in (by omega) hn) (px_r9_in (by omega) hn)⟩
  · exact ⟨_, px_same (px_x9_1 a1 p) (px_r9_1 a1 p)⟩
