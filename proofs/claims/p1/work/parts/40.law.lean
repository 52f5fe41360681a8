def px_lvL (i : Int32) : px_L := [(3, .int i), (2, .ref 95), (1, .ref 0), (0, .ref px_SC)]
set_option maxRecDepth 100000 in
theorem px_law_tail {xs : Nat → Int32} {d : Nat} {h : px_H} : px_E [(6, xs)] (d + 1) 328 (1605, [(3, .int 0), (2, .ref 95), (1, .ref 0), (0, .ref px_SC)], [], h) (some (.int 1)) h := by
  refine px_E_seg 1 (σ' := (1608, [(3, .int 6), (2, .ref 95), (1, .ref 0), (0, .ref px_SC)], [], h)) rfl ?_
  refine px_E_seg 5 (σ' := (23, [(3, .int 6), (2, .ref 95), (1, .ref 0), (0, .ref px_SC)], [.int 6, .int 6, .int 6], h)) rfl ?_
  refine px_E_seg 1 (σ' := (24, [(3, .int 6), (2, .ref 95), (1, .ref 0), (0, .ref px_SC)], [.int 0, .int 6], h)) rfl ?_
  refine px_E_seg 2 (σ' := (1612, [(3, .int 6), (2, .ref 95), (1, .ref 0), (0, .ref px_SC)], [.int 1], h)) rfl ?_
  exact px_E_ret rfl rfl
set_option maxRecDepth 100000 in
theorem px_law_0 {xs : Nat → Int32} {dd : Nat} : ∃ hF, px_E [(6, xs)] (dd + 9) 328 (212, [(3, .int 0), (2, .ref 95), (1, .ref 0), (0, .ref px_SC)], [], px_hX) (some (.int 1)) hF ∧ hF.1 = px_shX := by
  obtain ⟨v, I, P, h', m1, m2, hs⟩ := px_case_0 (ro := [(6, xs)]) (dd := dd) (xs 1) (xs 2) 
  refine ⟨h', ?_, hs⟩
  refine px_E_seg 6 (σ' := (218, [(3, .int 0), (2, .ref 95), (1, .ref 0), (0, .ref px_SC)], [.int (xs 1), .ref 0], px_hX)) rfl ?_
  refine px_E_seg 5 (σ' := (223, [(3, .int 0), (2, .ref 95), (1, .ref 0), (0, .ref px_SC)], [.int (xs 2), .int (xs 1), .ref 0], px_hX)) rfl ?_
  refine px_E_call (j := 14) (as := [.ref 0, .int (xs 1), .int (xs 2)]) (rest := []) (v := some (.int v)) (h1 := (px_shX, I, px_JX, P)) rfl rfl rfl m1 ?_
  refine px_E_seg 6 (σ' := (232, [(3, .int 0), (2, .ref 95), (1, .ref 0), (0, .ref px_SC)], [.int (xs 1), .ref 95, .int v], (px_shX, I, px_JX, P))) rfl ?_
  refine px_E_seg 5 (σ' := (237, [(3, .int 0), (2, .ref 95), (1, .ref 0), (0, .ref px_SC)], [.int (xs 2), .int (xs 1), .ref 95, .int v], (px_shX, I, px_JX, P))) rfl ?_
  refine px_E_call (j := 182) (as := [.ref 95, .int (xs 1), .int (xs 2)]) (rest := [.int v]) (v := some (.int v)) (h1 := h') rfl rfl rfl m2 ?_
  refine px_E_icmp (t := 1605) rfl rfl (fun _ => ?_) (fun n9 => absurd rfl n9)
  exact px_law_tail
set_option maxRecDepth 100000 in
theorem px_law_1 {xs : Nat → Int32} {dd : Nat} : ∃ hF, px_E [(6, xs)] (dd + 9) 328 (245, [(3, .int 0), (2, .ref 95), (1, .ref 0), (0, .ref px_SC)], [], px_hX) (some (.int 1)) hF ∧ hF.1 = px_shX := by
  by_cases z3 : xs 3 = 0
  · obtain ⟨v, I, P, h', m1, m2, hs⟩ := px_case_1 (ro := [(6, xs)]) (dd := dd) (xs 1) (xs 2) 0 (Or.inl rfl)
    refine ⟨h', ?_, hs⟩
    refine px_E_seg 6 (σ' := (251, [(3, .int 0), (2, .ref 95), (1, .ref 0), (0, .ref px_SC)], [.int (xs 1), .ref 0], px_hX)) rfl ?_
    refine px_E_seg 5 (σ' := (256, [(3, .int 0), (2, .ref 95), (1, .ref 0), (0, .ref px_SC)], [.int (xs 2), .int (xs 1), .ref 0], px_hX)) rfl ?_
    refine px_E_seg 5 (σ' := (261, [(3, .int 0), (2, .ref 95), (1, .ref 0), (0, .ref px_SC)], [.int (xs 3), .int (xs 2), .int (xs 1), .ref 0], px_hX)) rfl ?_
    refine px_E_ifT (t := 268) rfl rfl (show (xs 3).toInt = 0 by rw [z3]; rfl) ?_
    refine px_E_seg 1 (σ' := (269, [(3, .int 0), (2, .ref 95), (1, .ref 0), (0, .ref px_SC)], [.int 0, .int (xs 2), .int (xs 1), .ref 0], px_hX)) rfl ?_
    refine px_E_call (j := 17) (as := [.ref 0, .int (xs 1), .int (xs 2), .int 0]) (rest := []) (v := some (.int v)) (h1 := (px_shX, I, px_JX, P)) rfl rfl rfl m1 ?_
    refine px_E_seg 6 (σ' := (278, [(3, .int 0), (2, .ref 95), (1, .ref 0), (0, .ref px_SC)], [.int (xs 1), .ref 95, .int v], (px_shX, I, px_JX, P))) rfl ?_
    refine px_E_seg 5 (σ' := (283, [(3, .int 0), (2, .ref 95), (1, .ref 0), (0, .ref px_SC)], [.int (xs 2), .int (xs 1), .ref 95, .int v], (px_shX, I, px_JX, P))) rfl ?_
    refine px_E_seg 5 (σ' := (288, [(3, .int 0), (2, .ref 95), (1, .ref 0), (0, .ref px_SC)], [.int (xs 3), .int (xs 2), .int (xs 1), .ref 95, .int v], (px_shX, I, px_JX, P))) rfl ?_
    refine px_E_ifT (t := 295) rfl rfl (show (xs 3).toInt = 0 by rw [z3]; rfl) ?_
    refine px_E_seg 1 (σ' := (296, [(3, .int 0), (2, .ref 95), (1, .ref 0), (0, .ref px_SC)], [.int 0, .int (xs 2), .int (xs 1), .ref 95, .int v], (px_shX, I, px_JX, P))) rfl ?_
    refine px_E_call (j := 184) (as := [.ref 95, .int (xs 1), .int (xs 2), .int 0]) (rest := [.int v]) (v := some (.int v)) (h1 := h') rfl rfl rfl m2 ?_
    refine px_E_icmp (t := 1605) rfl rfl (fun _ => ?_) (fun n9 => absurd rfl n9)
    exact px_law_tail
  · obtain ⟨v, I, P, h', m1, m2, hs⟩ := px_case_1 (ro := [(6, xs)]) (dd := dd) (xs 1) (xs 2) 1 (Or.inr rfl)
    refine ⟨h', ?_, hs⟩
    refine px_E_seg 6 (σ' := (251, [(3, .int 0), (2, .ref 95), (1, .ref 0), (0, .ref px_SC)], [.int (xs 1), .ref 0], px_hX)) rfl ?_
    refine px_E_seg 5 (σ' := (256, [(3, .int 0), (2, .ref 95), (1, .ref 0), (0, .ref px_SC)], [.int (xs 2), .int (xs 1), .ref 0], px_hX)) rfl ?_
    refine px_E_seg 5 (σ' := (261, [(3, .int 0), (2, .ref 95), (1, .ref 0), (0, .ref px_SC)], [.int (xs 3), .int (xs 2), .int (xs 1), .ref 0], px_hX)) rfl ?_
    refine px_E_ifF (t := 268) rfl rfl (show (xs 3).toInt ≠ 0 from fun e9 => z3 (Int32.toInt_inj.mp e9)) ?_
    refine px_E_seg 2 (σ' := (269, [(3, .int 0), (2, .ref 95), (1, .ref 0), (0, .ref px_SC)], [.int 1, .int (xs 2), .int (xs 1), .ref 0], px_hX)) rfl ?_
    refine px_E_call (j := 17) (as := [.ref 0, .int (xs 1), .int (xs 2), .int 1]) (rest := []) (v := some (.int v)) (h1 := (px_shX, I, px_JX, P)) rfl rfl rfl m1 ?_
    refine px_E_seg 6 (σ' := (278, [(3, .int 0), (2, .ref 95), (1, .ref 0), (0, .ref px_SC)], [.int (xs 1), .ref 95, .int v], (px_shX, I, px_JX, P))) rfl ?_
    refine px_E_seg 5 (σ' := (283, [(3, .int 0), (2, .ref 95), (1, .ref 0), (0, .ref px_SC)], [.int (xs 2), .int (xs 1), .ref 95, .int v], (px_shX, I, px_JX, P))) rfl ?_
    refine px_E_seg 5 (σ' := (288, [(3, .int 0), (2, .ref 95), (1, .ref 0), (0, .ref px_SC)], [.int (xs 3), .int (xs 2), .int (xs 1), .ref 95, .int v], (px_shX, I, px_JX, P))) rfl ?_
    refine px_E_ifF (t := 295) rfl rfl (show (xs 3).toInt ≠ 0 from fun e9 => z3 (Int32.toInt_inj.mp e9)) ?_
    refine px_E_seg 2 (σ' := (296, [(3, .int 0), (2, .ref 95), (1, .ref 0), (0, .ref px_SC)], [.int 1, .int (xs 2), .int (xs 1), .ref 95, .int v], (px_shX, I, px_JX, P))) rfl ?_
    refine px_E_call (j := 184) (as := [.ref 95, .int (xs 1), .int (xs 2), .int 1]) (rest := [.int v]) (v := some (.int v)) (h1 := h') rfl rfl rfl m2 ?_
    refine px_E_icmp (t := 1605) rfl rfl (fun _ => ?_) (fun n9 => absurd rfl n9)
    exact px_law_tail
set_option maxRecDepth 100000 in
theorem px_law_2 {xs : Nat → Int32} {dd : Nat} : ∃ hF, px_E [(6, xs)] (dd + 9) 328 (304, [(3, .int 0), (2, .ref 95), (1, .ref 0), (0, .ref px_SC)], [], px_hX) (some (.int 1)) hF ∧ hF.1 = px_shX := by
  by_cases z2 : xs 2 = 0
  · by_cases z3 : xs 3 = 0
    · obtain ⟨v, I, P, h', m1, m2, hs⟩ := px_case_2 (ro := [(6, xs)]) (dd := dd) (xs 1) 0 0 (xs 4) (Or.inl rfl) (Or.inl rfl)
      refine ⟨h', ?_, hs⟩
      refine px_E_seg 6 (σ' := (310, [(3, .int 0), (2, .ref 95), (1, .ref 0), (0, .ref px_SC)], [.int (xs 1), .ref 0], px_hX)) rfl ?_
      refine px_E_seg 5 (σ' := (315, [(3, .int 0), (2, .ref 95), (1, .ref 0), (0, .ref px_SC)], [.int (xs 2), .int (xs 1), .ref 0], px_hX)) rfl ?_
      refine px_E_ifT (t := 322) rfl rfl (show (xs 2).toInt = 0 by rw [z2]; rfl) ?_
      refine px_E_seg 6 (σ' := (328, [(3, .int 0), (2, .ref 95), (1, .ref 0), (0, .ref px_SC)], [.int (xs 3), .int 0, .int (xs 1), .ref 0], px_hX)) rfl ?_
      refine px_E_ifT (t := 335) rfl rfl (show (xs 3).toInt = 0 by rw [z3]; rfl) ?_
      refine px_E_seg 6 (σ' := (341, [(3, .int 0), (2, .ref 95), (1, .ref 0), (0, .ref px_SC)], [.int (xs 4), .int 0, .int 0, .int (xs 1), .ref 0], px_hX)) rfl ?_
      refine px_E_call (j := 23) (as := [.ref 0, .int (xs 1), .int 0, .int 0, .int (xs 4)]) (rest := []) (v := some (.int v)) (h1 := (px_shX, I, px_JX, P)) rfl rfl rfl m1 ?_
      refine px_E_seg 6 (σ' := (350, [(3, .int 0), (2, .ref 95), (1, .ref 0), (0, .ref px_SC)], [.int (xs 1), .ref 95, .int v], (px_shX, I, px_JX, P))) rfl ?_
      refine px_E_seg 5 (σ' := (355, [(3, .int 0), (2, .ref 95), (1, .ref 0), (0, .ref px_SC)], [.int (xs 2), .int (xs 1), .ref 95, .int v], (px_shX, I, px_JX, P))) rfl ?_
      refine px_E_ifT (t := 362) rfl rfl (show (xs 2).toInt = 0 by rw [z2]; rfl) ?_
      refine px_E_seg 6 (σ' := (368, [(3, .int 0), (2, .ref 95), (1, .ref 0), (0, .ref px_SC)], [.int (xs 3), .int 0, .int (xs 1), .ref 95, .int v], (px_shX, I, px_JX, P))) rfl ?_
      refine px_E_ifT (t := 375) rfl rfl (show (xs 3).toInt = 0 by rw [z3]; rfl) ?_
      refine px_E_seg 6 (σ' := (381, [(3, .int 0), (2, .ref 95), (1, .ref 0), (0, .ref px_SC)], [.int (xs 4), .int 0, .int 0, .int (xs 1), .ref 95, .int v], (px_shX, I, px_JX, P))) rfl ?_
      refine px_E_call (j := 189) (as := [.ref 95, .int (xs 1), .int 0, .int 0, .int (xs 4)]) (rest := [.int v]) (v := some (.int v)) (h1 := h') rfl rfl rfl m2 ?_
      refine px_E_icmp (t := 1605) rfl rfl (fun _ => ?_) (fun n9 => absurd rfl n9)
      exact px_law_tail
    · obtain ⟨v, I, P, h', m1, m2, hs⟩ := px_case_2 (ro := [(6, xs)]) (dd := dd) (xs 1) 0 1 (xs 4) (Or.inl rfl) (Or.inr rfl)
      refine ⟨h', ?_, hs⟩
      refine px_E_seg 6 (σ' := (310, [(3, .int 0), (2, .ref 95), (1, .ref 0), (0, .ref px_SC)], [.int (xs 1), .ref 0], px_hX)) rfl ?_
      refine px_E_seg 5 (σ' := (315, [(3, .int 0), (2, .ref 95), (1, .ref 0), (0, .ref px_SC)], [.int (xs 2), .int (xs 1), .ref 0], px_hX)) rfl ?_
      refine px_E_ifT (t := 322) rfl rfl (show (xs 2).toInt = 0 by rw [z2]; rfl) ?_
      refine px_E_seg 6 (σ' := (328, [(3, .int 0), (2, .ref 95), (1, .ref 0), (0, .ref px_SC)], [.int (xs 3), .int 0, .int (xs 1), .ref 0], px_hX)) rfl ?_
      refine px_E_ifF (t := 335) rfl rfl (show (xs 3).toInt ≠ 0 from fun e9 => z3 (Int32.toInt_inj.mp e9)) ?_
      refine px_E_seg 7 (σ' := (341, [(3, .int 0), (2, .ref 95), (1, .ref 0), (0, .ref px_SC)], [.int (xs 4), .int 1, .int 0, .int (xs 1), .ref 0], px_hX)) rfl ?_
      refine px_E_call (j := 23) (as := [.ref 0, .int (xs 1), .int 0, .int 1, .int (xs 4)]) (rest := []) (v := some (.int v)) (h1 := (px_shX, I, px_JX, P)) rfl rfl rfl m1 ?_
      refine px_E_seg 6 (σ' := (350, [(3, .int 0), (2, .ref 95), (1, .ref 0), (0, .ref px_SC)], [.int (xs 1), .ref 95, .int v], (px_shX, I, px_JX, P))) rfl ?_
      refine px_E_seg 5 (σ' := (355, [(3, .int 0), (2, .ref 95), (1, .ref 0), (0, .ref px_SC)], [.int (xs 2), .int (xs 1), .ref 95, .int v], (px_shX, I, px_JX, P))) rfl ?_
      refine px_E_ifT (t := 362) rfl rfl (show (xs 2).toInt = 0 by rw [z2]; rfl) ?_
      refine px_E_seg 6 (σ' := (368, [(3, .int 0), (2, .ref 95), (1, .ref 0), (0, .ref px_SC)], [.int (xs 3), .int 0, .int (xs 1), .ref 95, .int v], (px_shX, I, px_JX, P))) rfl ?_
      refine px_E_ifF (t := 375) rfl rfl (show (xs 3).toInt ≠ 0 from fun e9 => z3 (Int32.toInt_inj.mp e9)) ?_
      refine px_E_seg 7 (σ' := (381, [(3, .int 0), (2, .ref 95), (1, .ref 0), (0, .ref px_SC)], [.int (xs 4), .int 1, .int 0, .int (xs 1), .ref 95, .int v], (px_shX, I, px_JX, P))) rfl ?_
      refine px_E_call (j := 189) (as := [.ref 95, .int (xs 1), .int 0, .int 1, .int (xs 4)]) (rest := [.int v]) (v := some (.int v)) (h1 := h') rfl rfl rfl m2 ?_
      refine px_E_icmp (t := 1605) rfl rfl (fun _ => ?_) (fun n9 => absurd rfl n9)
      exact px_law_tail
  · by_cases z3 : xs 3 = 0
    · obtain ⟨v, I, P, h', m1, m2, hs⟩ := px_case_2 (ro := [(6, xs)]) (dd := dd) (xs 1) 1 0 (xs 4) (Or.inr rfl) (Or.inl rfl)
      refine ⟨h', ?_, hs⟩
      refine px_E_seg 6 (σ' := (310, [(3, .int 0), (2, .ref 95), (1, .ref 0), (0, .ref px_SC)], [.int (xs 1), .ref 0], px_hX)) rfl ?_
      refine px_E_seg 5 (σ' := (315, [(3, .int 0), (2, .ref 95), (1, .ref 0), (0, .ref px_SC)], [.int (xs 2), .int (xs 1), .ref 0], px_hX)) rfl ?_
      refine px_E_ifF (t := 322) rfl rfl (show (xs 2).toInt ≠ 0 from fun e9 => z2 (Int32.toInt_inj.mp e9)) ?_
      refine px_E_seg 7 (σ' := (328, [(3, .int 0), (2, .ref 95), (1, .ref 0), (0, .ref px_SC)], [.int (xs 3), .int 1, .int (xs 1), .ref 0], px_hX)) rfl ?_
      refine px_E_ifT (t := 335) rfl rfl (show (xs 3).toInt = 0 by rw [z3]; rfl) ?_
      refine px_E_seg 6 (σ' := (341, [(3, .int 0), (2, .ref 95), (1, .ref 0), (0, .ref px_SC)], [.int (xs 4), .int 0, .int 1, .int (xs 1), .ref 0], px_hX)) rfl ?_
      refine px_E_call (j := 23) (as := [.ref 0, .int (xs 1), .int 1, .int 0, .int (xs 4)]) (rest := []) (v := some (.int v)) (h1 := (px_shX, I, px_JX, P)) rfl rfl rfl m1 ?_
      refine px_E_seg 6 (σ' := (350, [(3, .int 0), (2, .ref 95), (1, .ref 0), (0, .ref px_SC)], [.int (xs 1), .ref 95, .int v], (px_shX, I, px_JX, P))) rfl ?_
      refine px_E_seg 5 (σ' := (355, [(3, .int 0), (2, .ref 95), (1, .ref 0), (0, .ref px_SC)], [.int (xs 2), .int (xs 1), .ref 95, .int v], (px_shX, I, px_JX, P))) rfl ?_
      refine px_E_ifF (t := 362) rfl rfl (show (xs 2).toInt ≠ 0 from fun e9 => z2 (Int32.toInt_inj.mp e9)) ?_
      refine px_E_seg 7 (σ' := (368, [(3, .int 0), (2, .ref 95), (1, .ref 0), (0, .ref px_SC)], [.int (xs 3), .int 1, .int (xs 1), .ref 95, .int v], (px_shX, I, px_JX, P))) rfl ?_
      refine px_E_ifT (t := 375) rfl rfl (show (xs 3).toInt = 0 by rw [z3]; rfl) ?_
      refine px_E_seg 6 (σ' := (381, [(3, .int 0), (2, .ref 95), (1, .ref 0), (0, .ref px_SC)], [.int (xs 4), .int 0, .int 1, .int (xs 1), .ref 95, .int v], (px_shX, I, px_JX, P))) rfl ?_
      refine px_E_call (j := 189) (as := [.ref 95, .int (xs 1), .int 1, .int 0, .int (xs 4)]) (rest := [.int v]) (v := some (.int v)) (h1 := h') rfl rfl rfl m2 ?_
      refine px_E_icmp (t := 1605) rfl rfl (fun _ => ?_) (fun n9 => absurd rfl n9)
      exact px_law_tail
    · obtain ⟨v, I, P, h', m1, m2, hs⟩ := px_case_2 (ro := [(6, xs)]) (dd := dd) (xs 1) 1 1 (xs 4) (Or.inr rfl) (Or.inr rfl)
      refine ⟨h', ?_, hs⟩
      refine px_E_seg 6 (σ' := (310, [(3, .int 0), (2, .ref 95), (1, .ref 0), (0, .ref px_SC)], [.int (xs 1), .ref 0], px_hX)) rfl ?_
      refine px_E_seg 5 (σ' := (315, [(3, .int 0), (2, .ref 95), (1, .ref 0), (0, .ref px_SC)], [.int (xs 2), .int (xs 1), .ref 0], px_hX)) rfl ?_
      refine px_E_ifF (t := 322) rfl rfl (show (xs 2).toInt ≠ 0 from fun e9 => z2 (Int32.toInt_inj.mp e9)) ?_
      refine px_E_seg 7 (σ' := (328, [(3, .int 0), (2, .ref 95), (1, .ref 0), (0, .ref px_SC)], [.int (xs 3), .int 1, .int (xs 1), .ref 0], px_hX)) rfl ?_
      refine px_E_ifF (t := 335) rfl rfl (show (xs 3).toInt ≠ 0 from fun e9 => z3 (Int32.toInt_inj.mp e9)) ?_
      refine px_E_seg 7 (σ' := (341, [(3, .int 0), (2, .ref 95), (1, .ref 0), (0, .ref px_SC)], [.int (xs 4), .int 1, .int 1, .int (xs 1), .ref 0], px_hX)) rfl ?_
      refine px_E_call (j := 23) (as := [.ref 0, .int (xs 1), .int 1, .int 1, .int (xs 4)]) (rest := []) (v := some (.int v)) (h1 := (px_shX, I, px_JX, P)) rfl rfl rfl m1 ?_
      refine px_E_seg 6 (σ' := (350, [(3, .int 0), (2, .ref 95), (1, .ref 0), (0, .ref px_SC)], [.int (xs 1), .ref 95, .int v], (px_shX, I, px_JX, P))) rfl ?_
      refine px_E_seg 5 (σ' := (355, [(3, .int 0), (2, .ref 95), (1, .ref 0), (0, .ref px_SC)], [.int (xs 2), .int (xs 1), .ref 95, .int v], (px_shX, I, px_JX, P))) rfl ?_
      refine px_E_ifF (t := 362) rfl rfl (show (xs 2).toInt ≠ 0 from fun e9 => z2 (Int32.toInt_inj.mp e9)) ?_
      refine px_E_seg 7 (σ' := (368, [(3, .int 0), (2, .ref 95), (1, .ref 0), (0, .ref px_SC)], [.int (xs 3), .int 1, .int (xs 1), .ref 95, .int v], (px_shX, I, px_JX, P))) rfl ?_
      refine px_E_ifF (t := 375) rfl rfl (show (xs 3).toInt ≠ 0 from fun e9 => z3 (Int32.toInt_inj.mp e9)) ?_
      refine px_E_seg 7 (σ' := (381, [(3, .int 0), (2, .ref 95), (1, .ref 0), (0, .ref px_SC)], [.int (xs 4), .int 1, .int 1, .int (xs 1), .ref 95, .int v], (px_shX, I, px_JX, P))) rfl ?_
      refine px_E_call (j := 189) (as := [.ref 95, .int (xs 1), .int 1, .int 1, .int (xs 4)]) (rest := [.int v]) (v := some (.int v)) (h1 := h') rfl rfl rfl m2 ?_
      refine px_E_icmp (t := 1605) rfl rfl (fun _ => ?_) (fun n9 => absurd rfl n9)
      exact px_law_tail
set_option maxRecDepth 100000 in
theorem px_law_3 {xs : Nat → Int32} {dd : Nat} : ∃ hF, px_E [(6, xs)] (dd + 9) 328 (389, [(3, .int 0), (2, .ref 95), (1, .ref 0), (0, .ref px_SC)], [], px_hX) (some (.int 1)) hF ∧ hF.1 = px_shX := by
  obtain ⟨v, I, P, h', m1, m2, hs⟩ := px_case_3 (ro := [(6, xs)]) (dd := dd) (xs 1) (xs 2) (xs 3) (xs 4) (xs 5) 
  refine ⟨h', ?_, hs⟩
  refine px_E_seg 6 (σ' := (395, [(3, .int 0), (2, .ref 95), (1, .ref 0), (0, .ref px_SC)], [.int (xs 1), .ref 0], px_hX)) rfl ?_
  refine px_E_seg 5 (σ' := (400, [(3, .int 0), (2, .ref 95), (1, .ref 0), (0, .ref px_SC)], [.int (xs 2), .int (xs 1), .ref 0], px_hX)) rfl ?_
  refine px_E_seg 5 (σ' := (405, [(3, .int 0), (2, .ref 95), (1, .ref 0), (0, .ref px_SC)], [.int (xs 3), .int (xs 2), .int (xs 1), .ref 0], px_hX)) rfl ?_
  refine px_E_seg 5 (σ' := (410, [(3, .int 0), (2, .ref 95), (1, .ref 0), (0, .ref px_SC)], [.int (xs 4), .int (xs 3), .int (xs 2), .int (xs 1), .ref 0], px_hX)) rfl ?_
  refine px_E_seg 5 (σ' := (415, [(3, .int 0), (2, .ref 95), (1, .ref 0), (0, .ref px_SC)], [.int (xs 5), .int (xs 4), .int (xs 3), .int (xs 2), .int (xs 1), .ref 0], px_hX)) rfl ?_
  refine px_E_call (j := 25) (as := [.ref 0, .int (xs 1), .int (xs 2), .int (xs 3), .int (xs 4), .int (xs 5)]) (rest := []) (v := some (.int v)) (h1 := (px_shX, I, px_JX, P)) rfl rfl rfl m1 ?_
  refine px_E_seg 6 (σ' := (424, [(3, .int 0), (2, .ref 95), (1, .ref 0), (0, .ref px_SC)], [.int (xs 1), .ref 95, .int v], (px_shX, I, px_JX, P))) rfl ?_
  refine px_E_seg 5 (σ' := (429, [(3, .int 0), (2, .ref 95), (1, .ref 0), (0, .ref px_SC)], [.int (xs 2), .int (xs 1), .ref 95, .int v], (px_shX, I, px_JX, P))) rfl ?_
  refine px_E_seg 5 (σ' := (434, [(3, .int 0), (2, .ref 95), (1, .ref 0), (0, .ref px_SC)], [.int (xs 3), .int (xs 2), .int (xs 1), .ref 95, .int v], (px_shX, I, px_JX, P))) rfl ?_
  refine px_E_seg 5 (σ' := (439, [(3, .int 0), (2, .ref 95), (1, .ref 0), (0, .ref px_SC)], [.int (xs 4), .int (xs 3), .int (xs 2), .int (xs 1), .ref 95, .int v], (px_shX, I, px_JX, P))) rfl ?_
  refine px_E_seg 5 (σ' := (444, [(3, .int 0), (2, .ref 95), (1, .ref 0), (0, .ref px_SC)], [.int (xs 5), .int (xs 4), .int (xs 3), .int (xs 2), .int (xs 1), .ref 95, .int v], (px_shX, I, px_JX, P))) rfl ?_
  refine px_E_call (j := 192) (as := [.ref 95, .int (xs 1), .int (xs 2), .int (xs 3), .int (xs 4), .int (xs 5)]) (rest := [.int v]) (v := some (.int v)) (h1 := h') rfl rfl rfl m2 ?_
  refine px_E_icmp (t := 1605) rfl rfl (fun _ => ?_) (fun n9 => absurd rfl n9)
  exact px_law_tail
set_option maxRecDepth 100000 in
theorem px_law_4 {xs : Nat → Int32} {dd : Nat} : ∃ hF, px_E [(6, xs)] (dd + 9) 328 (452, [(3, .int 0), (2, .ref 95), (1, .ref 0), (0, .ref px_SC)], [], px_hX) (some (.int 1)) hF ∧ hF.1 = px_shX := by
  obtain ⟨v, I, P, h', m1, m2, hs⟩ := px_case_4 (ro := [(6, xs)]) (dd := dd) (xs 1) 
  refine ⟨h', ?_, hs⟩
  refine px_E_seg 6 (σ' := (458, [(3, .int 0), (2, .ref 95), (1, .ref 0), (0, .ref px_SC)], [.int (xs 1), .ref 0], px_hX)) rfl ?_
  refine px_E_call (j := 27) (as := [.ref 0, .int (xs 1)]) (rest := []) (v := some (.int v)) (h1 := (px_shX, I, px_JX, P)) rfl rfl rfl m1 ?_
  refine px_E_seg 6 (σ' := (467, [(3, .int 0), (2, .ref 95), (1, .ref 0), (0, .ref px_SC)], [.int (xs 1), .ref 95, .int v], (px_shX, I, px_JX, P))) rfl ?_
  refine px_E_call (j := 194) (as := [.ref 95, .int (xs 1)]) (rest := [.int v]) (v := some (.int v)) (h1 := h') rfl rfl rfl m2 ?_
  refine px_E_icmp (t := 1605) rfl rfl (fun _ => ?_) (fun n9 => absurd rfl n9)
  exact px_law_tail
set_option maxRecDepth 100000 in
theorem px_law_5 {xs : Nat → Int32} {dd : Nat} : ∃ hF, px_E [(6, xs)] (dd + 9) 328 (475, [(3, .int 0), (2, .ref 95), (1, .ref 0), (0, .ref px_SC)], [], px_hX) (some (.int 1)) hF ∧ hF.1 = px_shX := by
  obtain ⟨v, I, P, h', m1, m2, hs⟩ := px_case_5 (ro := [(6, xs)]) (dd := dd)  
  refine ⟨h', ?_, hs⟩
  refine px_E_seg 1 (σ' := (476, [(3, .int 0), (2, .ref 95), (1, .ref 0), (0, .ref px_SC)], [.ref 0], px_hX)) rfl ?_
  refine px_E_call (j := 28) (as := [.ref 0]) (rest := []) (v := some (.int v)) (h1 := (px_shX, I, px_JX, P)) rfl rfl rfl m1 ?_
  refine px_E_seg 1 (σ' := (480, [(3, .int 0), (2, .ref 95), (1, .ref 0), (0, .ref px_SC)], [.ref 95, .int v], (px_shX, I, px_JX, P))) rfl ?_
  refine px_E_call (j := 195) (as := [.ref 95]) (rest := [.int v]) (v := some (.int v)) (h1 := h') rfl rfl rfl m2 ?_
  refine px_E_icmp (t := 1605) rfl rfl (fun _ => ?_) (fun n9 => absurd rfl n9)
  exact px_law_tail
set_option maxRecDepth 100000 in
theorem px_law_6 {xs : Nat → Int32} {dd : Nat} : ∃ hF, px_E [(6, xs)] (dd + 9) 328 (488, [(3, .int 0), (2, .ref 95), (1, .ref 0), (0, .ref px_SC)], [], px_hX) (some (.int 1)) hF ∧ hF.1 = px_shX := by
  obtain ⟨v, I, P, h', m1, m2, hs⟩ := px_case_6 (ro := [(6, xs)]) (dd := dd) (xs 1) 
  refine ⟨h', ?_, hs⟩
  refine px_E_seg 6 (σ' := (494, [(3, .int 0), (2, .ref 95), (1, .ref 0), (0, .ref px_SC)], [.int (xs 1), .ref 0], px_hX)) rfl ?_
  refine px_E_call (j := 59) (as := [.ref 0, .int (xs 1)]) (rest := []) (v := some (.int v)) (h1 := (px_shX, I, px_JX, P)) rfl rfl rfl m1 ?_
  refine px_E_seg 6 (σ' := (503, [(3, .int 0), (2, .ref 95), (1, .ref 0), (0, .ref px_SC)], [.int (xs 1), .ref 95, .int v], (px_shX, I, px_JX, P))) rfl ?_
  refine px_E_call (j := 236) (as := [.ref 95, .int (xs 1)]) (rest := [.int v]) (v := some (.int v)) (h1 := h') rfl rfl rfl m2 ?_
  refine px_E_icmp (t := 1605) rfl rfl (fun _ => ?_) (fun n9 => absurd rfl n9)
  exact px_law_tail
set_option maxRecDepth 100000 in
theorem px_law_7 {xs : Nat → Int32} {dd : Nat} : ∃ hF, px_E [(6, xs)] (dd + 9) 328 (511, [(3, .int 0), (2, .ref 95), (1, .ref 0), (0, .ref px_SC)], [], px_hX) (some (.int 1)) hF ∧ hF.1 = px_shX := by
  obtain ⟨v, I, P, h', m1, m2, hs⟩ := px_case_7 (ro := [(6, xs)]) (dd := dd) (xs 1) 
  refine ⟨h', ?_, hs⟩
  refine px_E_seg 6 (σ' := (517, [(3, .int 0), (2, .ref 95), (1, .ref 0), (0, .ref px_SC)], [.int (xs 1), .ref 0], px_hX)) rfl ?_
  refine px_E_call (j := 60) (as := [.ref 0, .int (xs 1)]) (rest := []) (v := some (.int v)) (h1 := (px_shX, I, px_JX, P)) rfl rfl rfl m1 ?_
  refine px_E_seg 6 (σ' := (526, [(3, .int 0), (2, .ref 95), (1, .ref 0), (0, .ref px_SC)], [.int (xs 1), .ref 95, .int v], (px_shX, I, px_JX, P))) rfl ?_
  refine px_E_call (j := 237) (as := [.ref 95, .int (xs 1)]) (rest := [.int v]) (v := some (.int v)) (h1 := h') rfl rfl rfl m2 ?_
  refine px_E_icmp (t := 1605) rfl rfl (fun _ => ?_) (fun n9 => absurd rfl n9)
  exact px_law_tail
set_option maxRecDepth 100000 in
theorem px_law_8 {xs : Nat → Int32} {dd : Nat} : ∃ hF, px_E [(6, xs)] (dd + 9) 328 (534, [(3, .int 0), (2, .ref 95), (1, .ref 0), (0, .ref px_SC)], [], px_hX) (some (.int 1)) hF ∧ hF.1 = px_shX := by
  obtain ⟨v, I, P, h', m1, m2, hs⟩ := px_case_8 (ro := [(6, xs)]) (dd := dd) (xs 1) (xs 2) 
  refine ⟨h', ?_, hs⟩
  refine px_E_seg 6 (σ' := (540, [(3, .int 0), (2, .ref 95), (1, .ref 0), (0, .ref px_SC)], [.int (xs 1), .ref 0], px_hX)) rfl ?_
  refine px_E_seg 5 (σ' := (545, [(3, .int 0), (2, .ref 95), (1, .ref 0), (0, .ref px_SC)], [.int (xs 2), .int (xs 1), .ref 0], px_hX)) rfl ?_
  refine px_E_call (j := 63) (as := [.ref 0, .int (xs 1), .int (xs 2)]) (rest := []) (v := some (.int v)) (h1 := (px_shX, I, px_JX, P)) rfl rfl rfl m1 ?_
  refine px_E_seg 6 (σ' := (554, [(3, .int 0), (2, .ref 95), (1, .ref 0), (0, .ref px_SC)], [.int (xs 1), .ref 95, .int v], (px_shX, I, px_JX, P))) rfl ?_
  refine px_E_seg 5 (σ' := (559, [(3, .int 0), (2, .ref 95), (1, .ref 0), (0, .ref px_SC)], [.int (xs 2), .int (xs 1), .ref 95, .int v], (px_shX, I, px_JX, P))) rfl ?_
  refine px_E_call (j := 240) (as := [.ref 95, .int (xs 1), .int (xs 2)]) (rest := [.int v]) (v := some (.int v)) (h1 := h') rfl rfl rfl m2 ?_
  refine px_E_icmp (t := 1605) rfl rfl (fun _ => ?_) (fun n9 => absurd rfl n9)
  exact px_law_tail
set_option maxRecDepth 100000 in
theorem px_law_9 {xs : Nat → Int32} {dd : Nat} : ∃ hF, px_E [(6, xs)] (dd + 9) 328 (567, [(3, .int 0), (2, .ref 95), (1, .ref 0), (0, .ref px_SC)], [], px_hX) (some (.int 1)) hF ∧ hF.1 = px_shX := by
  obtain ⟨v, I, P, h', m1, m2, hs⟩ := px_case_9 (ro := [(6, xs)]) (dd := dd) (xs 1) 
  refine ⟨h', ?_, hs⟩
  refine px_E_seg 6 (σ' := (573, [(3, .int 0), (2, .ref 95), (1, .ref 0), (0, .ref px_SC)], [.int (xs 1), .ref 0], px_hX)) rfl ?_
  refine px_E_call (j := 70) (as := [.ref 0, .int (xs 1)]) (rest := []) (v := some (.int v)) (h1 := (px_shX, I, px_JX, P)) rfl rfl rfl m1 ?_
  refine px_E_seg 6 (σ' := (582, [(3, .int 0), (2, .ref 95), (1, .ref 0), (0, .ref px_SC)], [.int (xs 1), .ref 95, .int v], (px_shX, I, px_JX, P))) rfl ?_
  refine px_E_call (j := 257) (as := [.ref 95, .int (xs 1)]) (rest := [.int v]) (v := some (.int v)) (h1 := h') rfl rfl rfl m2 ?_
  refine px_E_icmp (t := 1605) rfl rfl (fun _ => ?_) (fun n9 => absurd rfl n9)
  exact px_law_tail
set_option maxRecDepth 100000 in
theorem px_law_10 {xs : Nat → Int32} {dd : Nat} : ∃ hF, px_E [(6, xs)] (dd + 9) 328 (590, [(3, .int 0), (2, .ref 95), (1, .ref 0), (0, .ref px_SC)], [], px_hX) (some (.int 1)) hF ∧ hF.1 = px_shX := by
  obtain ⟨v, I, P, h', m1, m2, hs⟩ := px_case_10 (ro := [(6, xs)]) (dd := dd) (xs 1) (xs 2) 
  refine ⟨h', ?_, hs⟩
  refine px_E_seg 6 (σ' := (596, [(3, .int 0), (2, .ref 95), (1, .ref 0), (0, .ref px_SC)], [.int (xs 1), .ref 0], px_hX)) rfl ?_
  refine px_E_seg 5 (σ' := (601, [(3, .int 0), (2, .ref 95), (1, .ref 0), (0, .ref px_SC)], [.int (xs 2), .int (xs 1), .ref 0], px_hX)) rfl ?_
  refine px_E_call (j := 98) (as := [.ref 0, .int (xs 1), .int (xs 2)]) (rest := []) (v := some (.int v)) (h1 := (px_shX, I, px_JX, P)) rfl rfl rfl m1 ?_
  refine px_E_seg 6 (σ' := (610, [(3, .int 0), (2, .ref 95), (1, .ref 0), (0, .ref px_SC)], [.int (xs 1), .ref 95, .int v], (px_shX, I, px_JX, P))) rfl ?_
  refine px_E_seg 5 (σ' := (615, [(3, .int 0), (2, .ref 95), (1, .ref 0), (0, .ref px_SC)], [.int (xs 2), .int (xs 1), .ref 95, .int v], (px_shX, I, px_JX, P))) rfl ?_
  refine px_E_call (j := 248) (as := [.ref 95, .int (xs 1), .int (xs 2)]) (rest := [.int v]) (v := some (.int v)) (h1 := h') rfl rfl rfl m2 ?_
  refine px_E_icmp (t := 1605) rfl rfl (fun _ => ?_) (fun n9 => absurd rfl n9)
  exact px_law_tail
set_option maxRecDepth 100000 in
theorem px_law_11 {xs : Nat → Int32} {dd : Nat} : ∃ hF, px_E [(6, xs)] (dd + 9) 328 (623, [(3, .int 0), (2, .ref 95), (1, .ref 0), (0, .ref px_SC)], [], px_hX) (some (.int 1)) hF ∧ hF.1 = px_shX := by
  by_cases z2 : xs 2 = 0
  · obtain ⟨v, I, P, h', m1, m2, hs⟩ := px_case_11 (ro := [(6, xs)]) (dd := dd) (xs 1) 0 (Or.inl rfl)
    refine ⟨h', ?_, hs⟩
    refine px_E_seg 6 (σ' := (629, [(3, .int 0), (2, .ref 95), (1, .ref 0), (0, .ref px_SC)], [.int (xs 1), .ref 0], px_hX)) rfl ?_
    refine px_E_seg 5 (σ' := (634, [(3, .int 0), (2, .ref 95), (1, .ref 0), (0, .ref px_SC)], [.int (xs 2), .int (xs 1), .ref 0], px_hX)) rfl ?_
    refine px_E_ifT (t := 641) rfl rfl (show (xs 2).toInt = 0 by rw [z2]; rfl) ?_
    refine px_E_seg 1 (σ' := (642, [(3, .int 0), (2, .ref 95), (1, .ref 0), (0, .ref px_SC)], [.int 0, .int (xs 1), .ref 0], px_hX)) rfl ?_
    refine px_E_call (j := 100) (as := [.ref 0, .int (xs 1), .int 0]) (rest := []) (v := some (.int v)) (h1 := (px_shX, I, px_JX, P)) rfl rfl rfl m1 ?_
    refine px_E_seg 6 (σ' := (651, [(3, .int 0), (2, .ref 95), (1, .ref 0), (0, .ref px_SC)], [.int (xs 1), .ref 95, .int v], (px_shX, I, px_JX, P))) rfl ?_
    refine px_E_seg 5 (σ' := (656, [(3, .int 0), (2, .ref 95), (1, .ref 0), (0, .ref px_SC)], [.int (xs 2), .int (xs 1), .ref 95, .int v], (px_shX, I, px_JX, P))) rfl ?_
    refine px_E_ifT (t := 663) rfl rfl (show (xs 2).toInt = 0 by rw [z2]; rfl) ?_
    refine px_E_seg 1 (σ' := (664, [(3, .int 0), (2, .ref 95), (1, .ref 0), (0, .ref px_SC)], [.int 0, .int (xs 1), .ref 95, .int v], (px_shX, I, px_JX, P))) rfl ?_
    refine px_E_call (j := 250) (as := [.ref 95, .int (xs 1), .int 0]) (rest := [.int v]) (v := some (.int v)) (h1 := h') rfl rfl rfl m2 ?_
    refine px_E_icmp (t := 1605) rfl rfl (fun _ => ?_) (fun n9 => absurd rfl n9)
    exact px_law_tail
  · obtain ⟨v, I, P, h', m1, m2, hs⟩ := px_case_11 (ro := [(6, xs)]) (dd := dd) (xs 1) 1 (Or.inr rfl)
    refine ⟨h', ?_, hs⟩
    refine px_E_seg 6 (σ' := (629, [(3, .int 0), (2, .ref 95), (1, .ref 0), (0, .ref px_SC)], [.int (xs 1), .ref 0], px_hX)) rfl ?_
    refine px_E_seg 5 (σ' := (634, [(3, .int 0), (2, .ref 95), (1, .ref 0), (0, .ref px_SC)], [.int (xs 2), .int (xs 1), .ref 0], px_hX)) rfl ?_
    refine px_E_ifF (t := 641) rfl rfl (show (xs 2).toInt ≠ 0 from fun e9 => z2 (Int32.toInt_inj.mp e9)) ?_
    refine px_E_seg 2 (σ' := (642, [(3, .int 0), (2, .ref 95), (1, .ref 0), (0, .ref px_SC)], [.int 1, .int (xs 1), .ref 0], px_hX)) rfl ?_
    refine px_E_call (j := 100) (as := [.ref 0, .int (xs 1), .int 1]) (rest := []) (v := some (.int v)) (h1 := (px_shX, I, px_JX, P)) rfl rfl rfl m1 ?_
    refine px_E_seg 6 (σ' := (651, [(3, .int 0), (2, .ref 95), (1, .ref 0), (0, .ref px_SC)], [.int (xs 1), .ref 95, .int v], (px_shX, I, px_JX, P))) rfl ?_
    refine px_E_seg 5 (σ' := (656, [(3, .int 0), (2, .ref 95), (1, .ref 0), (0, .ref px_SC)], [.int (xs 2), .int (xs 1), .ref 95, .int v], (px_shX, I, px_JX, P))) rfl ?_
    refine px_E_ifF (t := 663) rfl rfl (show (xs 2).toInt ≠ 0 from fun e9 => z2 (Int32.toInt_inj.mp e9)) ?_
    refine px_E_seg 2 (σ' := (664, [(3, .int 0), (2, .ref 95), (1, .ref 0), (0, .ref px_SC)], [.int 1, .int (xs 1), .ref 95, .int v], (px_shX, I, px_JX, P))) rfl ?_
    refine px_E_call (j := 250) (as := [.ref 95, .int (xs 1), .int 1]) (rest := [.int v]) (v := some (.int v)) (h1 := h') rfl rfl rfl m2 ?_
    refine px_E_icmp (t := 1605) rfl rfl (fun _ => ?_) (fun n9 => absurd rfl n9)
    exact px_law_tail
set_option maxRecDepth 100000 in
theorem px_law_12 {xs : Nat → Int32} {dd : Nat} : ∃ hF, px_E [(6, xs)] (dd + 9) 328 (672, [(3, .int 0), (2, .ref 95), (1, .ref 0), (0, .ref px_SC)], [], px_hX) (some (.int 1)) hF ∧ hF.1 = px_shX := by
  obtain ⟨v, I, P, h', m1, m2, hs⟩ := px_case_12 (ro := [(6, xs)]) (dd := dd) (xs 1) (xs 2) 
  refine ⟨h', ?_, hs⟩
  refine px_E_seg 6 (σ' := (678, [(3, .int 0), (2, .ref 95), (1, .ref 0), (0, .ref px_SC)], [.int (xs 1), .ref 0], px_hX)) rfl ?_
  refine px_E_seg 5 (σ' := (683, [(3, .int 0), (2, .ref 95), (1, .ref 0), (0, .ref px_SC)], [.int (xs 2), .int (xs 1), .ref 0], px_hX)) rfl ?_
  refine px_E_call (j := 102) (as := [.ref 0, .int (xs 1), .int (xs 2)]) (rest := []) (v := some (.int v)) (h1 := (px_shX, I, px_JX, P)) rfl rfl rfl m1 ?_
  refine px_E_seg 6 (σ' := (692, [(3, .int 0), (2, .ref 95), (1, .ref 0), (0, .ref px_SC)], [.int (xs 1), .ref 95, .int v], (px_shX, I, px_JX, P))) rfl ?_
  refine px_E_seg 5 (σ' := (697, [(3, .int 0), (2, .ref 95), (1, .ref 0), (0, .ref px_SC)], [.int (xs 2), .int (xs 1), .ref 95, .int v], (px_shX, I, px_JX, P))) rfl ?_
  refine px_E_call (j := 253) (as := [.ref 95, .int (xs 1), .int (xs 2)]) (rest := [.int v]) (v := some (.int v)) (h1 := h') rfl rfl rfl m2 ?_
  refine px_E_icmp (t := 1605) rfl rfl (fun _ => ?_) (fun n9 => absurd rfl n9)
  exact px_law_tail
set_option maxRecDepth 100000 in
theorem px_law_13 {xs : Nat → Int32} {dd : Nat} : ∃ hF, px_E [(6, xs)] (dd + 9) 328 (705, [(3, .int 0), (2, .ref 95), (1, .ref 0), (0, .ref px_SC)], [], px_hX) (some (.int 1)) hF ∧ hF.1 = px_shX := by
  obtain ⟨v, I, P, h', m1, m2, hs⟩ := px_case_13 (ro := [(6, xs)]) (dd := dd) (xs 1) 
  refine ⟨h', ?_, hs⟩
  refine px_E_seg 6 (σ' := (711, [(3, .int 0), (2, .ref 95), (1, .ref 0), (0, .ref px_SC)], [.int (xs 1), .ref 0], px_hX)) rfl ?_
  refine px_E_call (j := 103) (as := [.ref 0, .int (xs 1)]) (rest := []) (v := some (.int v)) (h1 := (px_shX, I, px_JX, P)) rfl rfl rfl m1 ?_
  refine px_E_seg 6 (σ' := (720, [(3, .int 0), (2, .ref 95), (1, .ref 0), (0, .ref px_SC)], [.int (xs 1), .ref 95, .int v], (px_shX, I, px_JX, P))) rfl ?_
  refine px_E_call (j := 280) (as := [.ref 95, .int (xs 1)]) (rest := [.int v]) (v := some (.int v)) (h1 := h') rfl rfl rfl m2 ?_
  refine px_E_icmp (t := 1605) rfl rfl (fun _ => ?_) (fun n9 => absurd rfl n9)
  exact px_law_tail
set_option maxRecDepth 100000 in
theorem px_law_14 {xs : Nat → Int32} {dd : Nat} : ∃ hF, px_E [(6, xs)] (dd + 9) 328 (728, [(3, .int 0), (2, .ref 95), (1, .ref 0), (0, .ref px_SC)], [], px_hX) (some (.int 1)) hF ∧ hF.1 = px_shX := by
  obtain ⟨v, I, P, h', m1, m2, hs⟩ := px_case_14 (ro := [(6, xs)]) (dd := dd) (xs 1) (xs 2) 
  refine ⟨h', ?_, hs⟩
  refine px_E_seg 6 (σ' := (734, [(3, .int 0), (2, .ref 95), (1, .ref 0), (0, .ref px_SC)], [.int (xs 1), .ref 0], px_hX)) rfl ?_
  refine px_E_seg 5 (σ' := (739, [(3, .int 0), (2, .ref 95), (1, .ref 0), (0, .ref px_SC)], [.int (xs 2), .int (xs 1), .ref 0], px_hX)) rfl ?_
  refine px_E_call (j := 105) (as := [.ref 0, .int (xs 1), .int (xs 2)]) (rest := []) (v := some (.int v)) (h1 := (px_shX, I, px_JX, P)) rfl rfl rfl m1 ?_
  refine px_E_seg 6 (σ' := (748, [(3, .int 0), (2, .ref 95), (1, .ref 0), (0, .ref px_SC)], [.int (xs 1), .ref 95, .int v], (px_shX, I, px_JX, P))) rfl ?_
  refine px_E_seg 5 (σ' := (753, [(3, .int 0), (2, .ref 95), (1, .ref 0), (0, .ref px_SC)], [.int (xs 2), .int (xs 1), .ref 95, .int v], (px_shX, I, px_JX, P))) rfl ?_
  refine px_E_call (j := 282) (as := [.ref 95, .int (xs 1), .int (xs 2)]) (rest := [.int v]) (v := some (.int v)) (h1 := h') rfl rfl rfl m2 ?_
  refine px_E_icmp (t := 1605) rfl rfl (fun _ => ?_) (fun n9 => absurd rfl n9)
  exact px_law_tail
set_option maxRecDepth 100000 in
theorem px_law_15 {xs : Nat → Int32} {dd : Nat} : ∃ hF, px_E [(6, xs)] (dd + 9) 328 (761, [(3, .int 0), (2, .ref 95), (1, .ref 0), (0, .ref px_SC)], [], px_hX) (some (.int 1)) hF ∧ hF.1 = px_shX := by
  obtain ⟨v, I, P, h', m1, m2, hs⟩ := px_case_15 (ro := [(6, xs)]) (dd := dd)  
  refine ⟨h', ?_, hs⟩
  refine px_E_seg 1 (σ' := (762, [(3, .int 0), (2, .ref 95), (1, .ref 0), (0, .ref px_SC)], [.ref 0], px_hX)) rfl ?_
  refine px_E_call (j := 107) (as := [.ref 0]) (rest := []) (v := some (.int v)) (h1 := (px_shX, I, px_JX, P)) rfl rfl rfl m1 ?_
  refine px_E_seg 1 (σ' := (766, [(3, .int 0), (2, .ref 95), (1, .ref 0), (0, .ref px_SC)], [.ref 95, .int v], (px_shX, I, px_JX, P))) rfl ?_
  refine px_E_call (j := 238) (as := [.ref 95]) (rest := [.int v]) (v := some (.int v)) (h1 := h') rfl rfl rfl m2 ?_
  refine px_E_icmp (t := 1605) rfl rfl (fun _ => ?_) (fun n9 => absurd rfl n9)
  exact px_law_tail
set_option maxRecDepth 100000 in
theorem px_law_16 {xs : Nat → Int32} {dd : Nat} : ∃ hF, px_E [(6, xs)] (dd + 9) 328 (774, [(3, .int 0), (2, .ref 95), (1, .ref 0), (0, .ref px_SC)], [], px_hX) (some (.int 1)) hF ∧ hF.1 = px_shX := by
  obtain ⟨v, I, P, h', m1, m2, hs⟩ := px_case_16 (ro := [(6, xs)]) (dd := dd) (xs 1) (xs 2) 
  refine ⟨h', ?_, hs⟩
  refine px_E_seg 6 (σ' := (780, [(3, .int 0), (2, .ref 95), (1, .ref 0), (0, .ref px_SC)], [.int (xs 1), .ref 0], px_hX)) rfl ?_
  refine px_E_seg 5 (σ' := (785, [(3, .int 0), (2, .ref 95), (1, .ref 0), (0, .ref px_SC)], [.int (xs 2), .int (xs 1), .ref 0], px_hX)) rfl ?_
  refine px_E_call (j := 110) (as := [.ref 0, .int (xs 1), .int (xs 2)]) (rest := []) (v := some (.int v)) (h1 := (px_shX, I, px_JX, P)) rfl rfl rfl m1 ?_
  refine px_E_seg 6 (σ' := (794, [(3, .int 0), (2, .ref 95), (1, .ref 0), (0, .ref px_SC)], [.int (xs 1), .ref 95, .int v], (px_shX, I, px_JX, P))) rfl ?_
  refine px_E_seg 5 (σ' := (799, [(3, .int 0), (2, .ref 95), (1, .ref 0), (0, .ref px_SC)], [.int (xs 2), .int (xs 1), .ref 95, .int v], (px_shX, I, px_JX, P))) rfl ?_
  refine px_E_call (j := 284) (as := [.ref 95, .int (xs 1), .int (xs 2)]) (rest := [.int v]) (v := some (.int v)) (h1 := h') rfl rfl rfl m2 ?_
  refine px_E_icmp (t := 1605) rfl rfl (fun _ => ?_) (fun n9 => absurd rfl n9)
  exact px_law_tail
set_option maxRecDepth 100000 in
theorem px_law_17 {xs : Nat → Int32} {dd : Nat} : ∃ hF, px_E [(6, xs)] (dd + 9) 328 (807, [(3, .int 0), (2, .ref 95), (1, .ref 0), (0, .ref px_SC)], [], px_hX) (some (.int 1)) hF ∧ hF.1 = px_shX := by
  obtain ⟨v, I, P, h', m1, m2, hs⟩ := px_case_17 (ro := [(6, xs)]) (dd := dd) (xs 1) (xs 2) 
  refine ⟨h', ?_, hs⟩
  refine px_E_seg 6 (σ' := (813, [(3, .int 0), (2, .ref 95), (1, .ref 0), (0, .ref px_SC)], [.int (xs 1), .ref 0], px_hX)) rfl ?_
  refine px_E_seg 5 (σ' := (818, [(3, .int 0), (2, .ref 95), (1, .ref 0), (0, .ref px_SC)], [.int (xs 2), .int (xs 1), .ref 0], px_hX)) rfl ?_
  refine px_E_call (j := 111) (as := [.ref 0, .int (xs 1), .int (xs 2)]) (rest := []) (v := some (.int v)) (h1 := (px_shX, I, px_JX, P)) rfl rfl rfl m1 ?_
  refine px_E_seg 6 (σ' := (827, [(3, .int 0), (2, .ref 95), (1, .ref 0), (0, .ref px_SC)], [.int (xs 1), .ref 95, .int v], (px_shX, I, px_JX, P))) rfl ?_
  refine px_E_seg 5 (σ' := (832, [(3, .int 0), (2, .ref 95), (1, .ref 0), (0, .ref px_SC)], [.int (xs 2), .int (xs 1), .ref 95, .int v], (px_shX, I, px_JX, P))) rfl ?_
  refine px_E_call (j := 285) (as := [.ref 95, .int (xs 1), .int (xs 2)]) (rest := [.int v]) (v := some (.int v)) (h1 := h') rfl rfl rfl m2 ?_
  refine px_E_icmp (t := 1605) rfl rfl (fun _ => ?_) (fun n9 => absurd rfl n9)
  exact px_law_tail
set_option maxRecDepth 100000 in
theorem px_law_18 {xs : Nat → Int32} {dd : Nat} : ∃ hF, px_E [(6, xs)] (dd + 9) 328 (840, [(3, .int 0), (2, .ref 95), (1, .ref 0), (0, .ref px_SC)], [], px_hX) (some (.int 1)) hF ∧ hF.1 = px_shX := by
  obtain ⟨v, I, P, h', m1, m2, hs⟩ := px_case_18 (ro := [(6, xs)]) (dd := dd) (xs 1) (xs 2) 
  refine ⟨h', ?_, hs⟩
  refine px_E_seg 6 (σ' := (846, [(3, .int 0), (2, .ref 95), (1, .ref 0), (0, .ref px_SC)], [.int (xs 1), .ref 0], px_hX)) rfl ?_
  refine px_E_seg 5 (σ' := (851, [(3, .int 0), (2, .ref 95), (1, .ref 0), (0, .ref px_SC)], [.int (xs 2), .int (xs 1), .ref 0], px_hX)) rfl ?_
  refine px_E_call (j := 112) (as := [.ref 0, .int (xs 1), .int (xs 2)]) (rest := []) (v := some (.int v)) (h1 := (px_shX, I, px_JX, P)) rfl rfl rfl m1 ?_
  refine px_E_seg 6 (σ' := (860, [(3, .int 0), (2, .ref 95), (1, .ref 0), (0, .ref px_SC)], [.int (xs 1), .ref 95, .int v], (px_shX, I, px_JX, P))) rfl ?_
  refine px_E_seg 5 (σ' := (865, [(3, .int 0), (2, .ref 95), (1, .ref 0), (0, .ref px_SC)], [.int (xs 2), .int (xs 1), .ref 95, .int v], (px_shX, I, px_JX, P))) rfl ?_
  refine px_E_call (j := 286) (as := [.ref 95, .int (xs 1), .int (xs 2)]) (rest := [.int v]) (v := some (.int v)) (h1 := h') rfl rfl rfl m2 ?_
  refine px_E_icmp (t := 1605) rfl rfl (fun _ => ?_) (fun n9 => absurd rfl n9)
  exact px_law_tail
set_option maxRecDepth 100000 in
theorem px_law_19 {xs : Nat → Int32} {dd : Nat} : ∃ hF, px_E [(6, xs)] (dd + 9) 328 (873, [(3, .int 0), (2, .ref 95), (1, .ref 0), (0, .ref px_SC)], [], px_hX) (some (.int 1)) hF ∧ hF.1 = px_shX := by
  obtain ⟨v, I, P, h', m1, m2, hs⟩ := px_case_19 (ro := [(6, xs)]) (dd := dd) (xs 1) (xs 2) 
  refine ⟨h', ?_, hs⟩
  refine px_E_seg 6 (σ' := (879, [(3, .int 0), (2, .ref 95), (1, .ref 0), (0, .ref px_SC)], [.int (xs 1), .ref 0], px_hX)) rfl ?_
  refine px_E_seg 5 (σ' := (884, [(3, .int 0), (2, .ref 95), (1, .ref 0), (0, .ref px_SC)], [.int (xs 2), .int (xs 1), .ref 0], px_hX)) rfl ?_
  refine px_E_call (j := 114) (as := [.ref 0, .int (xs 1), .int (xs 2)]) (rest := []) (v := some (.int v)) (h1 := (px_shX, I, px_JX, P)) rfl rfl rfl m1 ?_
  refine px_E_seg 6 (σ' := (893, [(3, .int 0), (2, .ref 95), (1, .ref 0), (0, .ref px_SC)], [.int (xs 1), .ref 95, .int v], (px_shX, I, px_JX, P))) rfl ?_
  refine px_E_seg 5 (σ' := (898, [(3, .int 0), (2, .ref 95), (1, .ref 0), (0, .ref px_SC)], [.int (xs 2), .int (xs 1), .ref 95, .int v], (px_shX, I, px_JX, P))) rfl ?_
  refine px_E_call (j := 287) (as := [.ref 95, .int (xs 1), .int (xs 2)]) (rest := [.int v]) (v := some (.int v)) (h1 := h') rfl rfl rfl m2 ?_
  refine px_E_icmp (t := 1605) rfl rfl (fun _ => ?_) (fun n9 => absurd rfl n9)
  exact px_law_tail
set_option maxRecDepth 100000 in
theorem px_law_20 {xs : Nat → Int32} {dd : Nat} : ∃ hF, px_E [(6, xs)] (dd + 9) 328 (906, [(3, .int 0), (2, .ref 95), (1, .ref 0), (0, .ref px_SC)], [], px_hX) (some (.int 1)) hF ∧ hF.1 = px_shX := by
  obtain ⟨v, I, P, h', m1, m2, hs⟩ := px_case_20 (ro := [(6, xs)]) (dd := dd) (xs 1) (xs 2) 
  refine ⟨h', ?_, hs⟩
  refine px_E_seg 6 (σ' := (912, [(3, .int 0), (2, .ref 95), (1, .ref 0), (0, .ref px_SC)], [.int (xs 1), .ref 0], px_hX)) rfl ?_
  refine px_E_seg 5 (σ' := (917, [(3, .int 0), (2, .ref 95), (1, .ref 0), (0, .ref px_SC)], [.int (xs 2), .int (xs 1), .ref 0], px_hX)) rfl ?_
  refine px_E_call (j := 115) (as := [.ref 0, .int (xs 1), .int (xs 2)]) (rest := []) (v := some (.int v)) (h1 := (px_shX, I, px_JX, P)) rfl rfl rfl m1 ?_
  refine px_E_seg 6 (σ' := (926, [(3, .int 0), (2, .ref 95), (1, .ref 0), (0, .ref px_SC)], [.int (xs 1), .ref 95, .int v], (px_shX, I, px_JX, P))) rfl ?_
  refine px_E_seg 5 (σ' := (931, [(3, .int 0), (2, .ref 95), (1, .ref 0), (0, .ref px_SC)], [.int (xs 2), .int (xs 1), .ref 95, .int v], (px_shX, I, px_JX, P))) rfl ?_
  refine px_E_call (j := 288) (as := [.ref 95, .int (xs 1), .int (xs 2)]) (rest := [.int v]) (v := some (.int v)) (h1 := h') rfl rfl rfl m2 ?_
  refine px_E_icmp (t := 1605) rfl rfl (fun _ => ?_) (fun n9 => absurd rfl n9)
  exact px_law_tail
set_option maxRecDepth 100000 in
theorem px_law_21 {xs : Nat → Int32} {dd : Nat} : ∃ hF, px_E [(6, xs)] (dd + 9) 328 (939, [(3, .int 0), (2, .ref 95), (1, .ref 0), (0, .ref px_SC)], [], px_hX) (some (.int 1)) hF ∧ hF.1 = px_shX := by
  by_cases z4 : xs 4 = 0
  · obtain ⟨v, I, P, h', m1, m2, hs⟩ := px_case_21 (ro := [(6, xs)]) (dd := dd) (xs 1) (xs 2) (xs 3) 0 (Or.inl rfl)
    refine ⟨h', ?_, hs⟩
    refine px_E_seg 6 (σ' := (945, [(3, .int 0), (2, .ref 95), (1, .ref 0), (0, .ref px_SC)], [.int (xs 1), .ref 0], px_hX)) rfl ?_
    refine px_E_seg 5 (σ' := (950, [(3, .int 0), (2, .ref 95), (1, .ref 0), (0, .ref px_SC)], [.int (xs 2), .int (xs 1), .ref 0], px_hX)) rfl ?_
    refine px_E_seg 5 (σ' := (955, [(3, .int 0), (2, .ref 95), (1, .ref 0), (0, .ref px_SC)], [.int (xs 3), .int (xs 2), .int (xs 1), .ref 0], px_hX)) rfl ?_
    refine px_E_seg 5 (σ' := (960, [(3, .int 0), (2, .ref 95), (1, .ref 0), (0, .ref px_SC)], [.int (xs 4), .int (xs 3), .int (xs 2), .int (xs 1), .ref 0], px_hX)) rfl ?_
    refine px_E_ifT (t := 967) rfl rfl (show (xs 4).toInt = 0 by rw [z4]; rfl) ?_
    refine px_E_seg 1 (σ' := (968, [(3, .int 0), (2, .ref 95), (1, .ref 0), (0, .ref px_SC)], [.int 0, .int (xs 3), .int (xs 2), .int (xs 1), .ref 0], px_hX)) rfl ?_
    refine px_E_call (j := 116) (as := [.ref 0, .int (xs 1), .int (xs 2), .int (xs 3), .int 0]) (rest := []) (v := some (.long v)) (h1 := (px_shX, I, px_JX, P)) rfl rfl rfl m1 ?_
    refine px_E_seg 6 (σ' := (977, [(3, .int 0), (2, .ref 95), (1, .ref 0), (0, .ref px_SC)], [.int (xs 1), .ref 95, .long v], (px_shX, I, px_JX, P))) rfl ?_
    refine px_E_seg 5 (σ' := (982, [(3, .int 0), (2, .ref 95), (1, .ref 0), (0, .ref px_SC)], [.int (xs 2), .int (xs 1), .ref 95, .long v], (px_shX, I, px_JX, P))) rfl ?_
    refine px_E_seg 5 (σ' := (987, [(3, .int 0), (2, .ref 95), (1, .ref 0), (0, .ref px_SC)], [.int (xs 3), .int (xs 2), .int (xs 1), .ref 95, .long v], (px_shX, I, px_JX, P))) rfl ?_
    refine px_E_seg 5 (σ' := (992, [(3, .int 0), (2, .ref 95), (1, .ref 0), (0, .ref px_SC)], [.int (xs 4), .int (xs 3), .int (xs 2), .int (xs 1), .ref 95, .long v], (px_shX, I, px_JX, P))) rfl ?_
    refine px_E_ifT (t := 999) rfl rfl (show (xs 4).toInt = 0 by rw [z4]; rfl) ?_
    refine px_E_seg 1 (σ' := (1000, [(3, .int 0), (2, .ref 95), (1, .ref 0), (0, .ref px_SC)], [.int 0, .int (xs 3), .int (xs 2), .int (xs 1), .ref 95, .long v], (px_shX, I, px_JX, P))) rfl ?_
    refine px_E_call (j := 289) (as := [.ref 95, .int (xs 1), .int (xs 2), .int (xs 3), .int 0]) (rest := [.long v]) (v := some (.long v)) (h1 := h') rfl rfl rfl m2 ?_
    refine px_E_one (σ' := (1004, [(3, .int 0), (2, .ref 95), (1, .ref 0), (0, .ref px_SC)], [.int (lg_cmp v v)], h')) rfl ?_
    refine px_E_if (t := 1605) rfl rfl (fun _ => ?_) (fun n9 => absurd (show lg_cmp v v = 0 by unfold lg_cmp; rw [if_neg (show ¬ (v > v) from fun q9 => Int64.lt_irrefl q9), if_pos rfl]) n9)
    exact px_law_tail
  · obtain ⟨v, I, P, h', m1, m2, hs⟩ := px_case_21 (ro := [(6, xs)]) (dd := dd) (xs 1) (xs 2) (xs 3) 1 (Or.inr rfl)
    refine ⟨h', ?_, hs⟩
    refine px_E_seg 6 (σ' := (945, [(3, .int 0), (2, .ref 95), (1, .ref 0), (0, .ref px_SC)], [.int (xs 1), .ref 0], px_hX)) rfl ?_
    refine px_E_seg 5 (σ' := (950, [(3, .int 0), (2, .ref 95), (1, .ref 0), (0, .ref px_SC)], [.int (xs 2), .int (xs 1), .ref 0], px_hX)) rfl ?_
    refine px_E_seg 5 (σ' := (955, [(3, .int 0), (2, .ref 95), (1, .ref 0), (0, .ref px_SC)], [.int (xs 3), .int (xs 2), .int (xs 1), .ref 0], px_hX)) rfl ?_
    refine px_E_seg 5 (σ' := (960, [(3, .int 0), (2, .ref 95), (1, .ref 0), (0, .ref px_SC)], [.int (xs 4), .int (xs 3), .int (xs 2), .int (xs 1), .ref 0], px_hX)) rfl ?_
    refine px_E_ifF (t := 967) rfl rfl (show (xs 4).toInt ≠ 0 from fun e9 => z4 (Int32.toInt_inj.mp e9)) ?_
    refine px_E_seg 2 (σ' := (968, [(3, .int 0), (2, .ref 95), (1, .ref 0), (0, .ref px_SC)], [.int 1, .int (xs 3), .int (xs 2), .int (xs 1), .ref 0], px_hX)) rfl ?_
    refine px_E_call (j := 116) (as := [.ref 0, .int (xs 1), .int (xs 2), .int (xs 3), .int 1]) (rest := []) (v := some (.long v)) (h1 := (px_shX, I, px_JX, P)) rfl rfl rfl m1 ?_
    refine px_E_seg 6 (σ' := (977, [(3, .int 0), (2, .ref 95), (1, .ref 0), (0, .ref px_SC)], [.int (xs 1), .ref 95, .long v], (px_shX, I, px_JX, P))) rfl ?_
    refine px_E_seg 5 (σ' := (982, [(3, .int 0), (2, .ref 95), (1, .ref 0), (0, .ref px_SC)], [.int (xs 2), .int (xs 1), .ref 95, .long v], (px_shX, I, px_JX, P))) rfl ?_
    refine px_E_seg 5 (σ' := (987, [(3, .int 0), (2, .ref 95), (1, .ref 0), (0, .ref px_SC)], [.int (xs 3), .int (xs 2), .int (xs 1), .ref 95, .long v], (px_shX, I, px_JX, P))) rfl ?_
    refine px_E_seg 5 (σ' := (992, [(3, .int 0), (2, .ref 95), (1, .ref 0), (0, .ref px_SC)], [.int (xs 4), .int (xs 3), .int (xs 2), .int (xs 1), .ref 95, .long v], (px_shX, I, px_JX, P))) rfl ?_
    refine px_E_ifF (t := 999) rfl rfl (show (xs 4).toInt ≠ 0 from fun e9 => z4 (Int32.toInt_inj.mp e9)) ?_
    refine px_E_seg 2 (σ' := (1000, [(3, .int 0), (2, .ref 95), (1, .ref 0), (0, .ref px_SC)], [.int 1, .int (xs 3), .int (xs 2), .int (xs 1), .ref 95, .long v], (px_shX, I, px_JX, P))) rfl ?_
    refine px_E_call (j := 289) (as := [.ref 95, .int (xs 1), .int (xs 2), .int (xs 3), .int 1]) (rest := [.long v]) (v := some (.long v)) (h1 := h') rfl rfl rfl m2 ?_
    refine px_E_one (σ' := (1004, [(3, .int 0), (2, .ref 95), (1, .ref 0), (0, .ref px_SC)], [.int (lg_cmp v v)], h')) rfl ?_
    refine px_E_if (t := 1605) rfl rfl (fun _ => ?_) (fun n9 => absurd (show lg_cmp v v = 0 by unfold lg_cmp; rw [if_neg (show ¬ (v > v) from fun q9 => Int64.lt_irrefl q9), if_pos rfl]) n9)
    exact px_law_tail
set_option maxRecDepth 100000 in
theorem px_law_22 {xs : Nat → Int32} {dd : Nat} : ∃ hF, px_E [(6, xs)] (dd + 9) 328 (1009, [(3, .int 0), (2, .ref 95), (1, .ref 0), (0, .ref px_SC)], [], px_hX) (some (.int 1)) hF ∧ hF.1 = px_shX := by
  obtain ⟨v, I, P, h', m1, m2, hs⟩ := px_case_22 (ro := [(6, xs)]) (dd := dd) (xs 1) 
  refine ⟨h', ?_, hs⟩
  refine px_E_seg 6 (σ' := (1015, [(3, .int 0), (2, .ref 95), (1, .ref 0), (0, .ref px_SC)], [.int (xs 1), .ref 0], px_hX)) rfl ?_
  refine px_E_call (j := 126) (as := [.ref 0, .int (xs 1)]) (rest := []) (v := some (.int v)) (h1 := (px_shX, I, px_JX, P)) rfl rfl rfl m1 ?_
  refine px_E_seg 6 (σ' := (1024, [(3, .int 0), (2, .ref 95), (1, .ref 0), (0, .ref px_SC)], [.int (xs 1), .ref 95, .int v], (px_shX, I, px_JX, P))) rfl ?_
  refine px_E_call (j := 293) (as := [.ref 95, .int (xs 1)]) (rest := [.int v]) (v := some (.int v)) (h1 := h') rfl rfl rfl m2 ?_
  refine px_E_icmp (t := 1605) rfl rfl (fun _ => ?_) (fun n9 => absurd rfl n9)
  exact px_law_tail
set_option maxRecDepth 100000 in
theorem px_law_23 {xs : Nat → Int32} {dd : Nat} : ∃ hF, px_E [(6, xs)] (dd + 9) 328 (1032, [(3, .int 0), (2, .ref 95), (1, .ref 0), (0, .ref px_SC)], [], px_hX) (some (.int 1)) hF ∧ hF.1 = px_shX := by
  obtain ⟨v, I, P, h', m1, m2, hs⟩ := px_case_23 (ro := [(6, xs)]) (dd := dd) (xs 1) (xs 2) 
  refine ⟨h', ?_, hs⟩
  refine px_E_seg 6 (σ' := (1038, [(3, .int 0), (2, .ref 95), (1, .ref 0), (0, .ref px_SC)], [.int (xs 1), .ref 0], px_hX)) rfl ?_
  refine px_E_seg 5 (σ' := (1043, [(3, .int 0), (2, .ref 95), (1, .ref 0), (0, .ref px_SC)], [.int (xs 2), .int (xs 1), .ref 0], px_hX)) rfl ?_
  refine px_E_call (j := 130) (as := [.ref 0, .int (xs 1), .int (xs 2)]) (rest := []) (v := some (.int v)) (h1 := (px_shX, I, px_JX, P)) rfl rfl rfl m1 ?_
  refine px_E_seg 6 (σ' := (1052, [(3, .int 0), (2, .ref 95), (1, .ref 0), (0, .ref px_SC)], [.int (xs 1), .ref 95, .int v], (px_shX, I, px_JX, P))) rfl ?_
  refine px_E_seg 5 (σ' := (1057, [(3, .int 0), (2, .ref 95), (1, .ref 0), (0, .ref px_SC)], [.int (xs 2), .int (xs 1), .ref 95, .int v], (px_shX, I, px_JX, P))) rfl ?_
  refine px_E_call (j := 295) (as := [.ref 95, .int (xs 1), .int (xs 2)]) (rest := [.int v]) (v := some (.int v)) (h1 := h') rfl rfl rfl m2 ?_
  refine px_E_icmp (t := 1605) rfl rfl (fun _ => ?_) (fun n9 => absurd rfl n9)
  exact px_law_tail
set_option maxRecDepth 100000 in
theorem px_law_24 {xs : Nat → Int32} {dd : Nat} : ∃ hF, px_E [(6, xs)] (dd + 9) 328 (1065, [(3, .int 0), (2, .ref 95), (1, .ref 0), (0, .ref px_SC)], [], px_hX) (some (.int 1)) hF ∧ hF.1 = px_shX := by
  obtain ⟨v, I, P, h', m1, m2, hs⟩ := px_case_24 (ro := [(6, xs)]) (dd := dd) (xs 1) (xs 2) 
  refine ⟨h', ?_, hs⟩
  refine px_E_seg 6 (σ' := (1071, [(3, .int 0), (2, .ref 95), (1, .ref 0), (0, .ref px_SC)], [.int (xs 1), .ref 0], px_hX)) rfl ?_
  refine px_E_seg 5 (σ' := (1076, [(3, .int 0), (2, .ref 95), (1, .ref 0), (0, .ref px_SC)], [.int (xs 2), .int (xs 1), .ref 0], px_hX)) rfl ?_
  refine px_E_call (j := 134) (as := [.ref 0, .int (xs 1), .int (xs 2)]) (rest := []) (v := some (.int v)) (h1 := (px_shX, I, px_JX, P)) rfl rfl rfl m1 ?_
  refine px_E_seg 6 (σ' := (1085, [(3, .int 0), (2, .ref 95), (1, .ref 0), (0, .ref px_SC)], [.int (xs 1), .ref 95, .int v], (px_shX, I, px_JX, P))) rfl ?_
  refine px_E_seg 5 (σ' := (1090, [(3, .int 0), (2, .ref 95), (1, .ref 0), (0, .ref px_SC)], [.int (xs 2), .int (xs 1), .ref 95, .int v], (px_shX, I, px_JX, P))) rfl ?_
  refine px_E_call (j := 298) (as := [.ref 95, .int (xs 1), .int (xs 2)]) (rest := [.int v]) (v := some (.int v)) (h1 := h') rfl rfl rfl m2 ?_
  refine px_E_icmp (t := 1605) rfl rfl (fun _ => ?_) (fun n9 => absurd rfl n9)
  exact px_law_tail
set_option maxRecDepth 100000 in
theorem px_law_25 {xs : Nat → Int32} {dd : Nat} : ∃ hF, px_E [(6, xs)] (dd + 9) 328 (1098, [(3, .int 0), (2, .ref 95), (1, .ref 0), (0, .ref px_SC)], [], px_hX) (some (.int 1)) hF ∧ hF.1 = px_shX := by
  obtain ⟨v, I, P, h', m1, m2, hs⟩ := px_case_25 (ro := [(6, xs)]) (dd := dd) (xs 1) (xs 2) (xs 3) 
  refine ⟨h', ?_, hs⟩
  refine px_E_seg 6 (σ' := (1104, [(3, .int 0), (2, .ref 95), (1, .ref 0), (0, .ref px_SC)], [.int (xs 1), .ref 0], px_hX)) rfl ?_
  refine px_E_seg 5 (σ' := (1109, [(3, .int 0), (2, .ref 95), (1, .ref 0), (0, .ref px_SC)], [.int (xs 2), .int (xs 1), .ref 0], px_hX)) rfl ?_
  refine px_E_seg 5 (σ' := (1114, [(3, .int 0), (2, .ref 95), (1, .ref 0), (0, .ref px_SC)], [.int (xs 3), .int (xs 2), .int (xs 1), .ref 0], px_hX)) rfl ?_
  refine px_E_call (j := 136) (as := [.ref 0, .int (xs 1), .int (xs 2), .int (xs 3)]) (rest := []) (v := some (.int v)) (h1 := (px_shX, I, px_JX, P)) rfl rfl rfl m1 ?_
  refine px_E_seg 6 (σ' := (1123, [(3, .int 0), (2, .ref 95), (1, .ref 0), (0, .ref px_SC)], [.int (xs 1), .ref 95, .int v], (px_shX, I, px_JX, P))) rfl ?_
  refine px_E_seg 5 (σ' := (1128, [(3, .int 0), (2, .ref 95), (1, .ref 0), (0, .ref px_SC)], [.int (xs 2), .int (xs 1), .ref 95, .int v], (px_shX, I, px_JX, P))) rfl ?_
  refine px_E_seg 5 (σ' := (1133, [(3, .int 0), (2, .ref 95), (1, .ref 0), (0, .ref px_SC)], [.int (xs 3), .int (xs 2), .int (xs 1), .ref 95, .int v], (px_shX, I, px_JX, P))) rfl ?_
  refine px_E_call (j := 300) (as := [.ref 95, .int (xs 1), .int (xs 2), .int (xs 3)]) (rest := [.int v]) (v := some (.int v)) (h1 := h') rfl rfl rfl m2 ?_
  refine px_E_icmp (t := 1605) rfl rfl (fun _ => ?_) (fun n9 => absurd rfl n9)
  exact px_law_tail
set_option maxRecDepth 100000 in
theorem px_law_26 {xs : Nat → Int32} {dd : Nat} : ∃ hF, px_E [(6, xs)] (dd + 9) 328 (1141, [(3, .int 0), (2, .ref 95), (1, .ref 0), (0, .ref px_SC)], [], px_hX) (some (.int 1)) hF ∧ hF.1 = px_shX := by
  obtain ⟨v, I, P, h', m1, m2, hs⟩ := px_case_26 (ro := [(6, xs)]) (dd := dd) (xs 1) 
  refine ⟨h', ?_, hs⟩
  refine px_E_seg 6 (σ' := (1147, [(3, .int 0), (2, .ref 95), (1, .ref 0), (0, .ref px_SC)], [.int (xs 1), .ref 0], px_hX)) rfl ?_
  refine px_E_call (j := 142) (as := [.ref 0, .int (xs 1)]) (rest := []) (v := some (.int v)) (h1 := (px_shX, I, px_JX, P)) rfl rfl rfl m1 ?_
  refine px_E_seg 6 (σ' := (1156, [(3, .int 0), (2, .ref 95), (1, .ref 0), (0, .ref px_SC)], [.int (xs 1), .ref 95, .int v], (px_shX, I, px_JX, P))) rfl ?_
  refine px_E_call (j := 297) (as := [.ref 95, .int (xs 1)]) (rest := [.int v]) (v := some (.int v)) (h1 := h') rfl rfl rfl m2 ?_
  refine px_E_icmp (t := 1605) rfl rfl (fun _ => ?_) (fun n9 => absurd rfl n9)
  exact px_law_tail
set_option maxRecDepth 100000 in
theorem px_law_27 {xs : Nat → Int32} {dd : Nat} : ∃ hF, px_E [(6, xs)] (dd + 9) 328 (1164, [(3, .int 0), (2, .ref 95), (1, .ref 0), (0, .ref px_SC)], [], px_hX) (some (.int 1)) hF ∧ hF.1 = px_shX := by
  obtain ⟨v, I, P, h', m1, m2, hs⟩ := px_case_27 (ro := [(6, xs)]) (dd := dd) (xs 1) (xs 2) 
  refine ⟨h', ?_, hs⟩
  refine px_E_seg 6 (σ' := (1170, [(3, .int 0), (2, .ref 95), (1, .ref 0), (0, .ref px_SC)], [.int (xs 1), .ref 0], px_hX)) rfl ?_
  refine px_E_seg 5 (σ' := (1175, [(3, .int 0), (2, .ref 95), (1, .ref 0), (0, .ref px_SC)], [.int (xs 2), .int (xs 1), .ref 0], px_hX)) rfl ?_
  refine px_E_call (j := 145) (as := [.ref 0, .int (xs 1), .int (xs 2)]) (rest := []) (v := some (.int v)) (h1 := (px_shX, I, px_JX, P)) rfl rfl rfl m1 ?_
  refine px_E_seg 6 (σ' := (1184, [(3, .int 0), (2, .ref 95), (1, .ref 0), (0, .ref px_SC)], [.int (xs 1), .ref 95, .int v], (px_shX, I, px_JX, P))) rfl ?_
  refine px_E_seg 5 (σ' := (1189, [(3, .int 0), (2, .ref 95), (1, .ref 0), (0, .ref px_SC)], [.int (xs 2), .int (xs 1), .ref 95, .int v], (px_shX, I, px_JX, P))) rfl ?_
  refine px_E_call (j := 305) (as := [.ref 95, .int (xs 1), .int (xs 2)]) (rest := [.int v]) (v := some (.int v)) (h1 := h') rfl rfl rfl m2 ?_
  refine px_E_icmp (t := 1605) rfl rfl (fun _ => ?_) (fun n9 => absurd rfl n9)
  exact px_law_tail
set_option maxRecDepth 100000 in
theorem px_law_28 {xs : Nat → Int32} {dd : Nat} : ∃ hF, px_E [(6, xs)] (dd + 9) 328 (1197, [(3, .int 0), (2, .ref 95), (1, .ref 0), (0, .ref px_SC)], [], px_hX) (some (.int 1)) hF ∧ hF.1 = px_shX := by
  obtain ⟨v, I, P, h', m1, m2, hs⟩ := px_case_28 (ro := [(6, xs)]) (dd := dd)  
  refine ⟨h', ?_, hs⟩
  refine px_E_seg 1 (σ' := (1198, [(3, .int 0), (2, .ref 95), (1, .ref 0), (0, .ref px_SC)], [.ref 0], px_hX)) rfl ?_
  refine px_E_call (j := 147) (as := [.ref 0]) (rest := []) (v := some (.int v)) (h1 := (px_shX, I, px_JX, P)) rfl rfl rfl m1 ?_
  refine px_E_seg 1 (σ' := (1202, [(3, .int 0), (2, .ref 95), (1, .ref 0), (0, .ref px_SC)], [.ref 95, .int v], (px_shX, I, px_JX, P))) rfl ?_
  refine px_E_call (j := 306) (as := [.ref 95]) (rest := [.int v]) (v := some (.int v)) (h1 := h') rfl rfl rfl m2 ?_
  refine px_E_icmp (t := 1605) rfl rfl (fun _ => ?_) (fun n9 => absurd rfl n9)
  exact px_law_tail
set_option maxRecDepth 100000 in
theorem px_law_29 {xs : Nat → Int32} {dd : Nat} : ∃ hF, px_E [(6, xs)] (dd + 9) 328 (1210, [(3, .int 0), (2, .ref 95), (1, .ref 0), (0, .ref px_SC)], [], px_hX) (some (.int 1)) hF ∧ hF.1 = px_shX := by
  by_cases z4 : xs 4 = 0
  · obtain ⟨v, I, P, h', m1, m2, hs⟩ := px_case_29 (ro := [(6, xs)]) (dd := dd) (xs 1) (xs 2) (xs 3) 0 (Or.inl rfl)
    refine ⟨h', ?_, hs⟩
    refine px_E_seg 6 (σ' := (1216, [(3, .int 0), (2, .ref 95), (1, .ref 0), (0, .ref px_SC)], [.int (xs 1), .ref 0], px_hX)) rfl ?_
    refine px_E_seg 5 (σ' := (1221, [(3, .int 0), (2, .ref 95), (1, .ref 0), (0, .ref px_SC)], [.int (xs 2), .int (xs 1), .ref 0], px_hX)) rfl ?_
    refine px_E_seg 5 (σ' := (1226, [(3, .int 0), (2, .ref 95), (1, .ref 0), (0, .ref px_SC)], [.int (xs 3), .int (xs 2), .int (xs 1), .ref 0], px_hX)) rfl ?_
    refine px_E_seg 5 (σ' := (1231, [(3, .int 0), (2, .ref 95), (1, .ref 0), (0, .ref px_SC)], [.int (xs 4), .int (xs 3), .int (xs 2), .int (xs 1), .ref 0], px_hX)) rfl ?_
    refine px_E_ifT (t := 1238) rfl rfl (show (xs 4).toInt = 0 by rw [z4]; rfl) ?_
    refine px_E_seg 1 (σ' := (1239, [(3, .int 0), (2, .ref 95), (1, .ref 0), (0, .ref px_SC)], [.int 0, .int (xs 3), .int (xs 2), .int (xs 1), .ref 0], px_hX)) rfl ?_
    refine px_E_call (j := 152) (as := [.ref 0, .int (xs 1), .int (xs 2), .int (xs 3), .int 0]) (rest := []) (v := some (.long v)) (h1 := (px_shX, I, px_JX, P)) rfl rfl rfl m1 ?_
    refine px_E_seg 6 (σ' := (1248, [(3, .int 0), (2, .ref 95), (1, .ref 0), (0, .ref px_SC)], [.int (xs 1), .ref 95, .long v], (px_shX, I, px_JX, P))) rfl ?_
    refine px_E_seg 5 (σ' := (1253, [(3, .int 0), (2, .ref 95), (1, .ref 0), (0, .ref px_SC)], [.int (xs 2), .int (xs 1), .ref 95, .long v], (px_shX, I, px_JX, P))) rfl ?_
    refine px_E_seg 5 (σ' := (1258, [(3, .int 0), (2, .ref 95), (1, .ref 0), (0, .ref px_SC)], [.int (xs 3), .int (xs 2), .int (xs 1), .ref 95, .long v], (px_shX, I, px_JX, P))) rfl ?_
    refine px_E_seg 5 (σ' := (1263, [(3, .int 0), (2, .ref 95), (1, .ref 0), (0, .ref px_SC)], [.int (xs 4), .int (xs 3), .int (xs 2), .int (xs 1), .ref 95, .long v], (px_shX, I, px_JX, P))) rfl ?_
    refine px_E_ifT (t := 1270) rfl rfl (show (xs 4).toInt = 0 by rw [z4]; rfl) ?_
    refine px_E_seg 1 (σ' := (1271, [(3, .int 0), (2, .ref 95), (1, .ref 0), (0, .ref px_SC)], [.int 0, .int (xs 3), .int (xs 2), .int (xs 1), .ref 95, .long v], (px_shX, I, px_JX, P))) rfl ?_
    refine px_E_call (j := 308) (as := [.ref 95, .int (xs 1), .int (xs 2), .int (xs 3), .int 0]) (rest := [.long v]) (v := some (.long v)) (h1 := h') rfl rfl rfl m2 ?_
    refine px_E_one (σ' := (1275, [(3, .int 0), (2, .ref 95), (1, .ref 0), (0, .ref px_SC)], [.int (lg_cmp v v)], h')) rfl ?_
    refine px_E_if (t := 1605) rfl rfl (fun _ => ?_) (fun n9 => absurd (show lg_cmp v v = 0 by unfold lg_cmp; rw [if_neg (show ¬ (v > v) from fun q9 => Int64.lt_irrefl q9), if_pos rfl]) n9)
    exact px_law_tail
  · obtain ⟨v, I, P, h', m1, m2, hs⟩ := px_case_29 (ro := [(6, xs)]) (dd := dd) (xs 1) (xs 2) (xs 3) 1 (Or.inr rfl)
    refine ⟨h', ?_, hs⟩
    refine px_E_seg 6 (σ' := (1216, [(3, .int 0), (2, .ref 95), (1, .ref 0), (0, .ref px_SC)], [.int (xs 1), .ref 0], px_hX)) rfl ?_
    refine px_E_seg 5 (σ' := (1221, [(3, .int 0), (2, .ref 95), (1, .ref 0), (0, .ref px_SC)], [.int (xs 2), .int (xs 1), .ref 0], px_hX)) rfl ?_
    refine px_E_seg 5 (σ' := (1226, [(3, .int 0), (2, .ref 95), (1, .ref 0), (0, .ref px_SC)], [.int (xs 3), .int (xs 2), .int (xs 1), .ref 0], px_hX)) rfl ?_
    refine px_E_seg 5 (σ' := (1231, [(3, .int 0), (2, .ref 95), (1, .ref 0), (0, .ref px_SC)], [.int (xs 4), .int (xs 3), .int (xs 2), .int (xs 1), .ref 0], px_hX)) rfl ?_
    refine px_E_ifF (t := 1238) rfl rfl (show (xs 4).toInt ≠ 0 from fun e9 => z4 (Int32.toInt_inj.mp e9)) ?_
    refine px_E_seg 2 (σ' := (1239, [(3, .int 0), (2, .ref 95), (1, .ref 0), (0, .ref px_SC)], [.int 1, .int (xs 3), .int (xs 2), .int (xs 1), .ref 0], px_hX)) rfl ?_
    refine px_E_call (j := 152) (as := [.ref 0, .int (xs 1), .int (xs 2), .int (xs 3), .int 1]) (rest := []) (v := some (.long v)) (h1 := (px_shX, I, px_JX, P)) rfl rfl rfl m1 ?_
    refine px_E_seg 6 (σ' := (1248, [(3, .int 0), (2, .ref 95), (1, .ref 0), (0, .ref px_SC)], [.int (xs 1), .ref 95, .long v], (px_shX, I, px_JX, P))) rfl ?_
    refine px_E_seg 5 (σ' := (1253, [(3, .int 0), (2, .ref 95), (1, .ref 0), (0, .ref px_SC)], [.int (xs 2), .int (xs 1), .ref 95, .long v], (px_shX, I, px_JX, P))) rfl ?_
    refine px_E_seg 5 (σ' := (1258, [(3, .int 0), (2, .ref 95), (1, .ref 0), (0, .ref px_SC)], [.int (xs 3), .int (xs 2), .int (xs 1), .ref 95, .long v], (px_shX, I, px_JX, P))) rfl ?_
    refine px_E_seg 5 (σ' := (1263, [(3, .int 0), (2, .ref 95), (1, .ref 0), (0, .ref px_SC)], [.int (xs 4), .int (xs 3), .int (xs 2), .int (xs 1), .ref 95, .long v], (px_shX, I, px_JX, P))) rfl ?_
    refine px_E_ifF (t := 1270) rfl rfl (show (xs 4).toInt ≠ 0 from fun e9 => z4 (Int32.toInt_inj.mp e9)) ?_
    refine px_E_seg 2 (σ' := (1271, [(3, .int 0), (2, .ref 95), (1, .ref 0), (0, .ref px_SC)], [.int 1, .int (xs 3), .int (xs 2), .int (xs 1), .ref 95, .long v], (px_shX, I, px_JX, P))) rfl ?_
    refine px_E_call (j := 308) (as := [.ref 95, .int (xs 1), .int (xs 2), .int (xs 3), .int 1]) (rest := [.long v]) (v := some (.long v)) (h1 := h') rfl rfl rfl m2 ?_
    refine px_E_one (σ' := (1275, [(3, .int 0), (2, .ref 95), (1, .ref 0), (0, .ref px_SC)], [.int (lg_cmp v v)], h')) rfl ?_
    refine px_E_if (t := 1605) rfl rfl (fun _ => ?_) (fun n9 => absurd (show lg_cmp v v = 0 by unfold lg_cmp; rw [if_neg (show ¬ (v > v) from fun q9 => Int64.lt_irrefl q9), if_pos rfl]) n9)
    exact px_law_tail
set_option maxRecDepth 100000 in
theorem px_law_30 {xs : Nat → Int32} {dd : Nat} : ∃ hF, px_E [(6, xs)] (dd + 9) 328 (1280, [(3, .int 0), (2, .ref 95), (1, .ref 0), (0, .ref px_SC)], [], px_hX) (some (.int 1)) hF ∧ hF.1 = px_shX := by
  obtain ⟨v, I, P, h', m1, m2, hs⟩ := px_case_30 (ro := [(6, xs)]) (dd := dd) (xs 1) (xs 2) 
  refine ⟨h', ?_, hs⟩
  refine px_E_seg 6 (σ' := (1286, [(3, .int 0), (2, .ref 95), (1, .ref 0), (0, .ref px_SC)], [.int (xs 1), .ref 0], px_hX)) rfl ?_
  refine px_E_seg 5 (σ' := (1291, [(3, .int 0), (2, .ref 95), (1, .ref 0), (0, .ref px_SC)], [.int (xs 2), .int (xs 1), .ref 0], px_hX)) rfl ?_
  refine px_E_call (j := 154) (as := [.ref 0, .int (xs 1), .int (xs 2)]) (rest := []) (v := some (.int v)) (h1 := (px_shX, I, px_JX, P)) rfl rfl rfl m1 ?_
  refine px_E_seg 6 (σ' := (1300, [(3, .int 0), (2, .ref 95), (1, .ref 0), (0, .ref px_SC)], [.int (xs 1), .ref 95, .int v], (px_shX, I, px_JX, P))) rfl ?_
  refine px_E_seg 5 (σ' := (1305, [(3, .int 0), (2, .ref 95), (1, .ref 0), (0, .ref px_SC)], [.int (xs 2), .int (xs 1), .ref 95, .int v], (px_shX, I, px_JX, P))) rfl ?_
  refine px_E_call (j := 311) (as := [.ref 95, .int (xs 1), .int (xs 2)]) (rest := [.int v]) (v := some (.int v)) (h1 := h') rfl rfl rfl m2 ?_
  refine px_E_icmp (t := 1605) rfl rfl (fun _ => ?_) (fun n9 => absurd rfl n9)
  exact px_law_tail
set_option maxRecDepth 100000 in
theorem px_law_31 {xs : Nat → Int32} {dd : Nat} : ∃ hF, px_E [(6, xs)] (dd + 9) 328 (1313, [(3, .int 0), (2, .ref 95), (1, .ref 0), (0, .ref px_SC)], [], px_hX) (some (.int 1)) hF ∧ hF.1 = px_shX := by
  obtain ⟨v, I, P, h', m1, m2, hs⟩ := px_case_31 (ro := [(6, xs)]) (dd := dd) (xs 1) (xs 2) 
  refine ⟨h', ?_, hs⟩
  refine px_E_seg 6 (σ' := (1319, [(3, .int 0), (2, .ref 95), (1, .ref 0), (0, .ref px_SC)], [.int (xs 1), .ref 0], px_hX)) rfl ?_
  refine px_E_seg 5 (σ' := (1324, [(3, .int 0), (2, .ref 95), (1, .ref 0), (0, .ref px_SC)], [.int (xs 2), .int (xs 1), .ref 0], px_hX)) rfl ?_
  refine px_E_call (j := 158) (as := [.ref 0, .int (xs 1), .int (xs 2)]) (rest := []) (v := some (.int v)) (h1 := (px_shX, I, px_JX, P)) rfl rfl rfl m1 ?_
  refine px_E_seg 6 (σ' := (1333, [(3, .int 0), (2, .ref 95), (1, .ref 0), (0, .ref px_SC)], [.int (xs 1), .ref 95, .int v], (px_shX, I, px_JX, P))) rfl ?_
  refine px_E_seg 5 (σ' := (1338, [(3, .int 0), (2, .ref 95), (1, .ref 0), (0, .ref px_SC)], [.int (xs 2), .int (xs 1), .ref 95, .int v], (px_shX, I, px_JX, P))) rfl ?_
  refine px_E_call (j := 314) (as := [.ref 95, .int (xs 1), .int (xs 2)]) (rest := [.int v]) (v := some (.int v)) (h1 := h') rfl rfl rfl m2 ?_
  refine px_E_icmp (t := 1605) rfl rfl (fun _ => ?_) (fun n9 => absurd rfl n9)
  exact px_law_tail
set_option maxRecDepth 100000 in
theorem px_law_32 {xs : Nat → Int32} {dd : Nat} : ∃ hF, px_E [(6, xs)] (dd + 9) 328 (1346, [(3, .int 0), (2, .ref 95), (1, .ref 0), (0, .ref px_SC)], [], px_hX) (some (.int 1)) hF ∧ hF.1 = px_shX := by
  obtain ⟨v, I, P, h', m1, m2, hs⟩ := px_case_32 (ro := [(6, xs)]) (dd := dd)  
  refine ⟨h', ?_, hs⟩
  refine px_E_seg 1 (σ' := (1347, [(3, .int 0), (2, .ref 95), (1, .ref 0), (0, .ref px_SC)], [.ref 0], px_hX)) rfl ?_
  refine px_E_call (j := 161) (as := [.ref 0]) (rest := []) (v := some (.int v)) (h1 := (px_shX, I, px_JX, P)) rfl rfl rfl m1 ?_
  refine px_E_seg 1 (σ' := (1351, [(3, .int 0), (2, .ref 95), (1, .ref 0), (0, .ref px_SC)], [.ref 95, .int v], (px_shX, I, px_JX, P))) rfl ?_
  refine px_E_call (j := 316) (as := [.ref 95]) (rest := [.int v]) (v := some (.int v)) (h1 := h') rfl rfl rfl m2 ?_
  refine px_E_icmp (t := 1605) rfl rfl (fun _ => ?_) (fun n9 => absurd rfl n9)
  exact px_law_tail
set_option maxRecDepth 100000 in
theorem px_law_33 {xs : Nat → Int32} {dd : Nat} : ∃ hF, px_E [(6, xs)] (dd + 9) 328 (1359, [(3, .int 0), (2, .ref 95), (1, .ref 0), (0, .ref px_SC)], [], px_hX) (some (.int 1)) hF ∧ hF.1 = px_shX := by
  obtain ⟨v, I, P, h', m1, m2, hs⟩ := px_case_33 (ro := [(6, xs)]) (dd := dd) (xs 1) (xs 2) (xs 3) (xs 4) (xs 5) 
  refine ⟨h', ?_, hs⟩
  refine px_E_seg 6 (σ' := (1365, [(3, .int 0), (2, .ref 95), (1, .ref 0), (0, .ref px_SC)], [.int (xs 1), .ref 0], px_hX)) rfl ?_
  refine px_E_seg 5 (σ' := (1370, [(3, .int 0), (2, .ref 95), (1, .ref 0), (0, .ref px_SC)], [.int (xs 2), .int (xs 1), .ref 0], px_hX)) rfl ?_
  refine px_E_seg 5 (σ' := (1375, [(3, .int 0), (2, .ref 95), (1, .ref 0), (0, .ref px_SC)], [.int (xs 3), .int (xs 2), .int (xs 1), .ref 0], px_hX)) rfl ?_
  refine px_E_seg 5 (σ' := (1380, [(3, .int 0), (2, .ref 95), (1, .ref 0), (0, .ref px_SC)], [.int (xs 4), .int (xs 3), .int (xs 2), .int (xs 1), .ref 0], px_hX)) rfl ?_
  refine px_E_seg 5 (σ' := (1385, [(3, .int 0), (2, .ref 95), (1, .ref 0), (0, .ref px_SC)], [.int (xs 5), .int (xs 4), .int (xs 3), .int (xs 2), .int (xs 1), .ref 0], px_hX)) rfl ?_
  refine px_E_call (j := 163) (as := [.ref 0, .int (xs 1), .int (xs 2), .int (xs 3), .int (xs 4), .int (xs 5)]) (rest := []) (v := some (.int v)) (h1 := (px_shX, I, px_JX, P)) rfl rfl rfl m1 ?_
  refine px_E_seg 6 (σ' := (1394, [(3, .int 0), (2, .ref 95), (1, .ref 0), (0, .ref px_SC)], [.int (xs 1), .ref 95, .int v], (px_shX, I, px_JX, P))) rfl ?_
  refine px_E_seg 5 (σ' := (1399, [(3, .int 0), (2, .ref 95), (1, .ref 0), (0, .ref px_SC)], [.int (xs 2), .int (xs 1), .ref 95, .int v], (px_shX, I, px_JX, P))) rfl ?_
  refine px_E_seg 5 (σ' := (1404, [(3, .int 0), (2, .ref 95), (1, .ref 0), (0, .ref px_SC)], [.int (xs 3), .int (xs 2), .int (xs 1), .ref 95, .int v], (px_shX, I, px_JX, P))) rfl ?_
  refine px_E_seg 5 (σ' := (1409, [(3, .int 0), (2, .ref 95), (1, .ref 0), (0, .ref px_SC)], [.int (xs 4), .int (xs 3), .int (xs 2), .int (xs 1), .ref 95, .int v], (px_shX, I, px_JX, P))) rfl ?_
  refine px_E_seg 5 (σ' := (1414, [(3, .int 0), (2, .ref 95), (1, .ref 0), (0, .ref px_SC)], [.int (xs 5), .int (xs 4), .int (xs 3), .int (xs 2), .int (xs 1), .ref 95, .int v], (px_shX, I, px_JX, P))) rfl ?_
  refine px_E_call (j := 318) (as := [.ref 95, .int (xs 1), .int (xs 2), .int (xs 3), .int (xs 4), .int (xs 5)]) (rest := [.int v]) (v := some (.int v)) (h1 := h') rfl rfl rfl m2 ?_
  refine px_E_icmp (t := 1605) rfl rfl (fun _ => ?_) (fun n9 => absurd rfl n9)
  exact px_law_tail
set_option maxRecDepth 100000 in
theorem px_law_34 {xs : Nat → Int32} {dd : Nat} : ∃ hF, px_E [(6, xs)] (dd + 9) 328 (1422, [(3, .int 0), (2, .ref 95), (1, .ref 0), (0, .ref px_SC)], [], px_hX) (some (.int 1)) hF ∧ hF.1 = px_shX := by
  obtain ⟨v, I, P, h', m1, m2, hs⟩ := px_case_34 (ro := [(6, xs)]) (dd := dd) (xs 1) 
  refine ⟨h', ?_, hs⟩
  refine px_E_seg 6 (σ' := (1428, [(3, .int 0), (2, .ref 95), (1, .ref 0), (0, .ref px_SC)], [.int (xs 1), .ref 0], px_hX)) rfl ?_
  refine px_E_call (j := 164) (as := [.ref 0, .int (xs 1)]) (rest := []) (v := some (.int v)) (h1 := (px_shX, I, px_JX, P)) rfl rfl rfl m1 ?_
  refine px_E_seg 6 (σ' := (1437, [(3, .int 0), (2, .ref 95), (1, .ref 0), (0, .ref px_SC)], [.int (xs 1), .ref 95, .int v], (px_shX, I, px_JX, P))) rfl ?_
  refine px_E_call (j := 319) (as := [.ref 95, .int (xs 1)]) (rest := [.int v]) (v := some (.int v)) (h1 := h') rfl rfl rfl m2 ?_
  refine px_E_icmp (t := 1605) rfl rfl (fun _ => ?_) (fun n9 => absurd rfl n9)
  exact px_law_tail
set_option maxRecDepth 100000 in
theorem px_law_35 {xs : Nat → Int32} {dd : Nat} : ∃ hF, px_E [(6, xs)] (dd + 9) 328 (1445, [(3, .int 0), (2, .ref 95), (1, .ref 0), (0, .ref px_SC)], [], px_hX) (some (.int 1)) hF ∧ hF.1 = px_shX := by
  by_cases z2 : xs 2 = 0
  · obtain ⟨v, I, P, h', m1, m2, hs⟩ := px_case_35 (ro := [(6, xs)]) (dd := dd) (xs 1) 0 (Or.inl rfl)
    refine ⟨h', ?_, hs⟩
    refine px_E_seg 6 (σ' := (1451, [(3, .int 0), (2, .ref 95), (1, .ref 0), (0, .ref px_SC)], [.int (xs 1), .ref 0], px_hX)) rfl ?_
    refine px_E_seg 5 (σ' := (1456, [(3, .int 0), (2, .ref 95), (1, .ref 0), (0, .ref px_SC)], [.int (xs 2), .int (xs 1), .ref 0], px_hX)) rfl ?_
    refine px_E_ifT (t := 1463) rfl rfl (show (xs 2).toInt = 0 by rw [z2]; rfl) ?_
    refine px_E_seg 1 (σ' := (1464, [(3, .int 0), (2, .ref 95), (1, .ref 0), (0, .ref px_SC)], [.int 0, .int (xs 1), .ref 0], px_hX)) rfl ?_
    refine px_E_call (j := 166) (as := [.ref 0, .int (xs 1), .int 0]) (rest := []) (v := some (.int v)) (h1 := (px_shX, I, px_JX, P)) rfl rfl rfl m1 ?_
    refine px_E_seg 6 (σ' := (1473, [(3, .int 0), (2, .ref 95), (1, .ref 0), (0, .ref px_SC)], [.int (xs 1), .ref 95, .int v], (px_shX, I, px_JX, P))) rfl ?_
    refine px_E_seg 5 (σ' := (1478, [(3, .int 0), (2, .ref 95), (1, .ref 0), (0, .ref px_SC)], [.int (xs 2), .int (xs 1), .ref 95, .int v], (px_shX, I, px_JX, P))) rfl ?_
    refine px_E_ifT (t := 1485) rfl rfl (show (xs 2).toInt = 0 by rw [z2]; rfl) ?_
    refine px_E_seg 1 (σ' := (1486, [(3, .int 0), (2, .ref 95), (1, .ref 0), (0, .ref px_SC)], [.int 0, .int (xs 1), .ref 95, .int v], (px_shX, I, px_JX, P))) rfl ?_
    refine px_E_call (j := 321) (as := [.ref 95, .int (xs 1), .int 0]) (rest := [.int v]) (v := some (.int v)) (h1 := h') rfl rfl rfl m2 ?_
    refine px_E_icmp (t := 1605) rfl rfl (fun _ => ?_) (fun n9 => absurd rfl n9)
    exact px_law_tail
  · obtain ⟨v, I, P, h', m1, m2, hs⟩ := px_case_35 (ro := [(6, xs)]) (dd := dd) (xs 1) 1 (Or.inr rfl)
    refine ⟨h', ?_, hs⟩
    refine px_E_seg 6 (σ' := (1451, [(3, .int 0), (2, .ref 95), (1, .ref 0), (0, .ref px_SC)], [.int (xs 1), .ref 0], px_hX)) rfl ?_
    refine px_E_seg 5 (σ' := (1456, [(3, .int 0), (2, .ref 95), (1, .ref 0), (0, .ref px_SC)], [.int (xs 2), .int (xs 1), .ref 0], px_hX)) rfl ?_
    refine px_E_ifF (t := 1463) rfl rfl (show (xs 2).toInt ≠ 0 from fun e9 => z2 (Int32.toInt_inj.mp e9)) ?_
    refine px_E_seg 2 (σ' := (1464, [(3, .int 0), (2, .ref 95), (1, .ref 0), (0, .ref px_SC)], [.int 1, .int (xs 1), .ref 0], px_hX)) rfl ?_
    refine px_E_call (j := 166) (as := [.ref 0, .int (xs 1), .int 1]) (rest := []) (v := some (.int v)) (h1 := (px_shX, I, px_JX, P)) rfl rfl rfl m1 ?_
    refine px_E_seg 6 (σ' := (1473, [(3, .int 0), (2, .ref 95), (1, .ref 0), (0, .ref px_SC)], [.int (xs 1), .ref 95, .int v], (px_shX, I, px_JX, P))) rfl ?_
    refine px_E_seg 5 (σ' := (1478, [(3, .int 0), (2, .ref 95), (1, .ref 0), (0, .ref px_SC)], [.int (xs 2), .int (xs 1), .ref 95, .int v], (px_shX, I, px_JX, P))) rfl ?_
    refine px_E_ifF (t := 1485) rfl rfl (show (xs 2).toInt ≠ 0 from fun e9 => z2 (Int32.toInt_inj.mp e9)) ?_
    refine px_E_seg 2 (σ' := (1486, [(3, .int 0), (2, .ref 95), (1, .ref 0), (0, .ref px_SC)], [.int 1, .int (xs 1), .ref 95, .int v], (px_shX, I, px_JX, P))) rfl ?_
    refine px_E_call (j := 321) (as := [.ref 95, .int (xs 1), .int 1]) (rest := [.int v]) (v := some (.int v)) (h1 := h') rfl rfl rfl m2 ?_
    refine px_E_icmp (t := 1605) rfl rfl (fun _ => ?_) (fun n9 => absurd rfl n9)
    exact px_law_tail
set_option maxRecDepth 100000 in
theorem px_law_36 {xs : Nat → Int32} {dd : Nat} : ∃ hF, px_E [(6, xs)] (dd + 9) 328 (1494, [(3, .int 0), (2, .ref 95), (1, .ref 0), (0, .ref px_SC)], [], px_hX) (some (.int 1)) hF ∧ hF.1 = px_shX := by
  by_cases z2 : xs 2 = 0
  · obtain ⟨v, I, P, h', m1, m2, hs⟩ := px_case_36 (ro := [(6, xs)]) (dd := dd) (xs 1) 0 (Or.inl rfl)
    refine ⟨h', ?_, hs⟩
    refine px_E_seg 6 (σ' := (1500, [(3, .int 0), (2, .ref 95), (1, .ref 0), (0, .ref px_SC)], [.int (xs 1), .ref 0], px_hX)) rfl ?_
    refine px_E_seg 5 (σ' := (1505, [(3, .int 0), (2, .ref 95), (1, .ref 0), (0, .ref px_SC)], [.int (xs 2), .int (xs 1), .ref 0], px_hX)) rfl ?_
    refine px_E_ifT (t := 1512) rfl rfl (show (xs 2).toInt = 0 by rw [z2]; rfl) ?_
    refine px_E_seg 1 (σ' := (1513, [(3, .int 0), (2, .ref 95), (1, .ref 0), (0, .ref px_SC)], [.int 0, .int (xs 1), .ref 0], px_hX)) rfl ?_
    refine px_E_call (j := 169) (as := [.ref 0, .int (xs 1), .int 0]) (rest := []) (v := some (.int v)) (h1 := (px_shX, I, px_JX, P)) rfl rfl rfl m1 ?_
    refine px_E_seg 6 (σ' := (1522, [(3, .int 0), (2, .ref 95), (1, .ref 0), (0, .ref px_SC)], [.int (xs 1), .ref 95, .int v], (px_shX, I, px_JX, P))) rfl ?_
    refine px_E_seg 5 (σ' := (1527, [(3, .int 0), (2, .ref 95), (1, .ref 0), (0, .ref px_SC)], [.int (xs 2), .int (xs 1), .ref 95, .int v], (px_shX, I, px_JX, P))) rfl ?_
    refine px_E_ifT (t := 1534) rfl rfl (show (xs 2).toInt = 0 by rw [z2]; rfl) ?_
    refine px_E_seg 1 (σ' := (1535, [(3, .int 0), (2, .ref 95), (1, .ref 0), (0, .ref px_SC)], [.int 0, .int (xs 1), .ref 95, .int v], (px_shX, I, px_JX, P))) rfl ?_
    refine px_E_call (j := 322) (as := [.ref 95, .int (xs 1), .int 0]) (rest := [.int v]) (v := some (.int v)) (h1 := h') rfl rfl rfl m2 ?_
    refine px_E_icmp (t := 1605) rfl rfl (fun _ => ?_) (fun n9 => absurd rfl n9)
    exact px_law_tail
  · obtain ⟨v, I, P, h', m1, m2, hs⟩ := px_case_36 (ro := [(6, xs)]) (dd := dd) (xs 1) 1 (Or.inr rfl)
    refine ⟨h', ?_, hs⟩
    refine px_E_seg 6 (σ' := (1500, [(3, .int 0), (2, .ref 95), (1, .ref 0), (0, .ref px_SC)], [.int (xs 1), .ref 0], px_hX)) rfl ?_
    refine px_E_seg 5 (σ' := (1505, [(3, .int 0), (2, .ref 95), (1, .ref 0), (0, .ref px_SC)], [.int (xs 2), .int (xs 1), .ref 0], px_hX)) rfl ?_
    refine px_E_ifF (t := 1512) rfl rfl (show (xs 2).toInt ≠ 0 from fun e9 => z2 (Int32.toInt_inj.mp e9)) ?_
    refine px_E_seg 2 (σ' := (1513, [(3, .int 0), (2, .ref 95), (1, .ref 0), (0, .ref px_SC)], [.int 1, .int (xs 1), .ref 0], px_hX)) rfl ?_
    refine px_E_call (j := 169) (as := [.ref 0, .int (xs 1), .int 1]) (rest := []) (v := some (.int v)) (h1 := (px_shX, I, px_JX, P)) rfl rfl rfl m1 ?_
    refine px_E_seg 6 (σ' := (1522, [(3, .int 0), (2, .ref 95), (1, .ref 0), (0, .ref px_SC)], [.int (xs 1), .ref 95, .int v], (px_shX, I, px_JX, P))) rfl ?_
    refine px_E_seg 5 (σ' := (1527, [(3, .int 0), (2, .ref 95), (1, .ref 0), (0, .ref px_SC)], [.int (xs 2), .int (xs 1), .ref 95, .int v], (px_shX, I, px_JX, P))) rfl ?_
    refine px_E_ifF (t := 1534) rfl rfl (show (xs 2).toInt ≠ 0 from fun e9 => z2 (Int32.toInt_inj.mp e9)) ?_
    refine px_E_seg 2 (σ' := (1535, [(3, .int 0), (2, .ref 95), (1, .ref 0), (0, .ref px_SC)], [.int 1, .int (xs 1), .ref 95, .int v], (px_shX, I, px_JX, P))) rfl ?_
    refine px_E_call (j := 322) (as := [.ref 95, .int (xs 1), .int 1]) (rest := [.int v]) (v := some (.int v)) (h1 := h') rfl rfl rfl m2 ?_
    refine px_E_icmp (t := 1605) rfl rfl (fun _ => ?_) (fun n9 => absurd rfl n9)
    exact px_law_tail
set_option maxRecDepth 100000 in
theorem px_law_37 {xs : Nat → Int32} {dd : Nat} : ∃ hF, px_E [(6, xs)] (dd + 9) 328 (1543, [(3, .int 0), (2, .ref 95), (1, .ref 0), (0, .ref px_SC)], [], px_hX) (some (.int 1)) hF ∧ hF.1 = px_shX := by
  obtain ⟨v, I, P, h', m1, m2, hs⟩ := px_case_37 (ro := [(6, xs)]) (dd := dd)  
  refine ⟨h', ?_, hs⟩
  refine px_E_seg 1 (σ' := (1544, [(3, .int 0), (2, .ref 95), (1, .ref 0), (0, .ref px_SC)], [.ref 0], px_hX)) rfl ?_
  refine px_E_call (j := 170) (as := [.ref 0]) (rest := []) (v := some (.int v)) (h1 := (px_shX, I, px_JX, P)) rfl rfl rfl m1 ?_
  refine px_E_seg 1 (σ' := (1548, [(3, .int 0), (2, .ref 95), (1, .ref 0), (0, .ref px_SC)], [.ref 95, .int v], (px_shX, I, px_JX, P))) rfl ?_
  refine px_E_call (j := 324) (as := [.ref 95]) (rest := [.int v]) (v := some (.int v)) (h1 := h') rfl rfl rfl m2 ?_
  refine px_E_icmp (t := 1605) rfl rfl (fun _ => ?_) (fun n9 => absurd rfl n9)
  exact px_law_tail
set_option maxRecDepth 100000 in
theorem px_law_38 {xs : Nat → Int32} {dd : Nat} : ∃ hF, px_E [(6, xs)] (dd + 9) 328 (1556, [(3, .int 0), (2, .ref 95), (1, .ref 0), (0, .ref px_SC)], [], px_hX) (some (.int 1)) hF ∧ hF.1 = px_shX := by
  obtain ⟨v, I, P, h', m1, m2, hs⟩ := px_case_38 (ro := [(6, xs)]) (dd := dd)  
  refine ⟨h', ?_, hs⟩
  refine px_E_seg 1 (σ' := (1557, [(3, .int 0), (2, .ref 95), (1, .ref 0), (0, .ref px_SC)], [.ref 0], px_hX)) rfl ?_
  refine px_E_call (j := 173) (as := [.ref 0]) (rest := []) (v := some (.int v)) (h1 := (px_shX, I, px_JX, P)) rfl rfl rfl m1 ?_
  refine px_E_seg 1 (σ' := (1561, [(3, .int 0), (2, .ref 95), (1, .ref 0), (0, .ref px_SC)], [.ref 95, .int v], (px_shX, I, px_JX, P))) rfl ?_
  refine px_E_call (j := 325) (as := [.ref 95]) (rest := [.int v]) (v := some (.int v)) (h1 := h') rfl rfl rfl m2 ?_
  refine px_E_icmp (t := 1605) rfl rfl (fun _ => ?_) (fun n9 => absurd rfl n9)
  exact px_law_tail
set_option maxRecDepth 100000 in
theorem px_law_39 {xs : Nat → Int32} {dd : Nat} : ∃ hF, px_E [(6, xs)] (dd + 9) 328 (1569, [(3, .int 0), (2, .ref 95), (1, .ref 0), (0, .ref px_SC)], [], px_hX) (some (.int 1)) hF ∧ hF.1 = px_shX := by
  obtain ⟨v, I, P, h', m1, m2, hs⟩ := px_case_39 (ro := [(6, xs)]) (dd := dd)  
  refine ⟨h', ?_, hs⟩
  refine px_E_seg 1 (σ' := (1570, [(3, .int 0), (2, .ref 95), (1, .ref 0), (0, .ref px_SC)], [.ref 0], px_hX)) rfl ?_
  refine px_E_call (j := 177) (as := [.ref 0]) (rest := []) (v := some (.int v)) (h1 := (px_shX, I, px_JX, P)) rfl rfl rfl m1 ?_
  refine px_E_seg 1 (σ' := (1574, [(3, .int 0), (2, .ref 95), (1, .ref 0), (0, .ref px_SC)], [.ref 95, .int v], (px_shX, I, px_JX, P))) rfl ?_
  refine px_E_call (j := 326) (as := [.ref 95]) (rest := [.int v]) (v := some (.int v)) (h1 := h') rfl rfl rfl m2 ?_
  refine px_E_icmp (t := 1605) rfl rfl (fun _ => ?_) (fun n9 => absurd rfl n9)
  exact px_law_tail
set_option maxRecDepth 100000 in
theorem px_law_40 {xs : Nat → Int32} {dd : Nat} : ∃ hF, px_E [(6, xs)] (dd + 9) 328 (1582, [(3, .int 0), (2, .ref 95), (1, .ref 0), (0, .ref px_SC)], [], px_hX) (some (.int 1)) hF ∧ hF.1 = px_shX := by
  obtain ⟨v, I, P, h', m1, m2, hs⟩ := px_case_40 (ro := [(6, xs)]) (dd := dd) (xs 1) 
  refine ⟨h', ?_, hs⟩
  refine px_E_seg 6 (σ' := (1588, [(3, .int 0), (2, .ref 95), (1, .ref 0), (0, .ref px_SC)], [.int (xs 1), .ref 0], px_hX)) rfl ?_
  refine px_E_call (j := 179) (as := [.ref 0, .int (xs 1)]) (rest := []) (v := some (.int v)) (h1 := (px_shX, I, px_JX, P)) rfl rfl rfl m1 ?_
  refine px_E_seg 6 (σ' := (1597, [(3, .int 0), (2, .ref 95), (1, .ref 0), (0, .ref px_SC)], [.int (xs 1), .ref 95, .int v], (px_shX, I, px_JX, P))) rfl ?_
  refine px_E_call (j := 327) (as := [.ref 95, .int (xs 1)]) (rest := [.int v]) (v := some (.int v)) (h1 := h') rfl rfl rfl m2 ?_
  refine px_E_icmp (t := 1605) rfl rfl (fun _ => ?_) (fun n9 => absurd rfl n9)
  exact px_law_tail
set_option maxRecDepth 100000 in
theorem px_law6 {xs : Nat → Int32} : ∃ hF, px_E [(6, xs)] 999 328 (18, [(3, .int 0), (2, .ref 95), (1, .ref 0), (0, .ref px_SC)], [], px_hX) (some (.int 1)) hF ∧ hF.1 = px_shX := by
  obtain ⟨j, hj, e⟩ := pk_andE (xs 0) (m := 63) 6 (by decide)
  have go : ∀ {pc : Nat} {s : px_S}, px_seg [(6, xs)] 328 1 (33, [(3, .int 0), (2, .ref 95), (1, .ref 0), (0, .ref px_SC)], [.int (nI j)], px_hX) = some (pc, [(3, .int 0), (2, .ref 95), (1, .ref 0), (0, .ref px_SC)], [], px_hX) → (∃ hF, px_E [(6, xs)] 999 328 (pc, [(3, .int 0), (2, .ref 95), (1, .ref 0), (0, .ref px_SC)], [], px_hX) (some (.int 1)) hF ∧ hF.1 = px_shX) → ∃ hF, px_E [(6, xs)] 999 328 (18, [(3, .int 0), (2, .ref 95), (1, .ref 0), (0, .ref px_SC)], [], px_hX) (some (.int 1)) hF ∧ hF.1 = px_shX := by
    intro pc s h1 h2
    obtain ⟨hF, h2, hs⟩ := h2
    refine ⟨hF, ?_, hs⟩
    refine px_E_seg 4 (σ' := (23, [(3, .int 0), (2, .ref 95), (1, .ref 0), (0, .ref px_SC)], [.int 6, .int 6, .int 0], px_hX)) rfl ?_
    refine px_E_seg 2 (σ' := (27, [(3, .int 0), (2, .ref 95), (1, .ref 0), (0, .ref px_SC)], [], px_hX)) rfl ?_
    refine px_E_seg 4 (σ' := (32, [(3, .int 0), (2, .ref 95), (1, .ref 0), (0, .ref px_SC)], [.int 63, .int (xs 0)], px_hX)) rfl ?_
    refine px_E_seg 1 (σ' := (33, [(3, .int 0), (2, .ref 95), (1, .ref 0), (0, .ref px_SC)], [.int (xs 0 &&& 63)], px_hX)) rfl ?_
    rw [e]
    exact px_E_seg 1 h1 h2
  match j, hj, @go with
  | 0, _, go => exact go (s := (0, [], [], px_hX)) rfl (px_law_0 (dd := 990))
  | 1, _, go => exact go (s := (0, [], [], px_hX)) rfl (px_law_1 (dd := 990))
  | 2, _, go => exact go (s := (0, [], [], px_hX)) rfl (px_law_2 (dd := 990))
  | 3, _, go => exact go (s := (0, [], [], px_hX)) rfl (px_law_3 (dd := 990))
  | 4, _, go => exact go (s := (0, [], [], px_hX)) rfl (px_law_4 (dd := 990))
  | 5, _, go => exact go (s := (0, [], [], px_hX)) rfl (px_law_5 (dd := 990))
  | 6, _, go => exact go (s := (0, [], [], px_hX)) rfl (px_law_6 (dd := 990))
  | 7, _, go => exact go (s := (0, [], [], px_hX)) rfl (px_law_7 (dd := 990))
  | 8, _, go => exact go (s := (0, [], [], px_hX)) rfl (px_law_8 (dd := 990))
  | 9, _, go => exact go (s := (0, [], [], px_hX)) rfl (px_law_9 (dd := 990))
  | 10, _, go => exact go (s := (0, [], [], px_hX)) rfl (px_law_10 (dd := 990))
  | 11, _, go => exact go (s := (0, [], [], px_hX)) rfl (px_law_11 (dd := 990))
  | 12, _, go => exact go (s := (0, [], [], px_hX)) rfl (px_law_12 (dd := 990))
  | 13, _, go => exact go (s := (0, [], [], px_hX)) rfl (px_law_13 (dd := 990))
  | 14, _, go => exact go (s := (0, [], [], px_hX)) rfl (px_law_14 (dd := 990))
  | 15, _, go => exact go (s := (0, [], [], px_hX)) rfl (px_law_15 (dd := 990))
  | 16, _, go => exact go (s := (0, [], [], px_hX)) rfl (px_law_16 (dd := 990))
  | 17, _, go => exact go (s := (0, [], [], px_hX)) rfl (px_law_17 (dd := 990))
  | 18, _, go => exact go (s := (0, [], [], px_hX)) rfl (px_law_18 (dd := 990))
  | 19, _, go => exact go (s := (0, [], [], px_hX)) rfl (px_law_19 (dd := 990))
  | 20, _, go => exact go (s := (0, [], [], px_hX)) rfl (px_law_20 (dd := 990))
  | 21, _, go => exact go (s := (0, [], [], px_hX)) rfl (px_law_21 (dd := 990))
  | 22, _, go => exact go (s := (0, [], [], px_hX)) rfl (px_law_22 (dd := 990))
  | 23, _, go => exact go (s := (0, [], [], px_hX)) rfl (px_law_23 (dd := 990))
  | 24, _, go => exact go (s := (0, [], [], px_hX)) rfl (px_law_24 (dd := 990))
  | 25, _, go => exact go (s := (0, [], [], px_hX)) rfl (px_law_25 (dd := 990))
  | 26, _, go => exact go (s := (0, [], [], px_hX)) rfl (px_law_26 (dd := 990))
  | 27, _, go => exact go (s := (0, [], [], px_hX)) rfl (px_law_27 (dd := 990))
  | 28, _, go => exact go (s := (0, [], [], px_hX)) rfl (px_law_28 (dd := 990))
  | 29, _, go => exact go (s := (0, [], [], px_hX)) rfl (px_law_29 (dd := 990))
  | 30, _, go => exact go (s := (0, [], [], px_hX)) rfl (px_law_30 (dd := 990))
  | 31, _, go => exact go (s := (0, [], [], px_hX)) rfl (px_law_31 (dd := 990))
  | 32, _, go => exact go (s := (0, [], [], px_hX)) rfl (px_law_32 (dd := 990))
  | 33, _, go => exact go (s := (0, [], [], px_hX)) rfl (px_law_33 (dd := 990))
  | 34, _, go => exact go (s := (0, [], [], px_hX)) rfl (px_law_34 (dd := 990))
  | 35, _, go => exact go (s := (0, [], [], px_hX)) rfl (px_law_35 (dd := 990))
  | 36, _, go => exact go (s := (0, [], [], px_hX)) rfl (px_law_36 (dd := 990))
  | 37, _, go => exact go (s := (0, [], [], px_hX)) rfl (px_law_37 (dd := 990))
  | 38, _, go => exact go (s := (0, [], [], px_hX)) rfl (px_law_38 (dd := 990))
  | 39, _, go => exact go (s := (0, [], [], px_hX)) rfl (px_law_39 (dd := 990))
  | 40, _, go => exact go (s := (0, [], [], px_hX)) rfl (px_law_40 (dd := 990))
  | 41, _, go => exact go (s := (0, [], [], px_hX)) rfl ⟨px_hX, px_law_tail, rfl⟩
  | 42, _, go => exact go (s := (0, [], [], px_hX)) rfl ⟨px_hX, px_law_tail, rfl⟩
  | 43, _, go => exact go (s := (0, [], [], px_hX)) rfl ⟨px_hX, px_law_tail, rfl⟩
  | 44, _, go => exact go (s := (0, [], [], px_hX)) rfl ⟨px_hX, px_law_tail, rfl⟩
  | 45, _, go => exact go (s := (0, [], [], px_hX)) rfl ⟨px_hX, px_law_tail, rfl⟩
  | 46, _, go => exact go (s := (0, [], [], px_hX)) rfl ⟨px_hX, px_law_tail, rfl⟩
  | 47, _, go => exact go (s := (0, [], [], px_hX)) rfl ⟨px_hX, px_law_tail, rfl⟩
  | 48, _, go => exact go (s := (0, [], [], px_hX)) rfl ⟨px_hX, px_law_tail, rfl⟩
  | 49, _, go => exact go (s := (0, [], [], px_hX)) rfl ⟨px_hX, px_law_tail, rfl⟩
  | 50, _, go => exact go (s := (0, [], [], px_hX)) rfl ⟨px_hX, px_law_tail, rfl⟩
  | 51, _, go => exact go (s := (0, [], [], px_hX)) rfl ⟨px_hX, px_law_tail, rfl⟩
  | 52, _, go => exact go (s := (0, [], [], px_hX)) rfl ⟨px_hX, px_law_tail, rfl⟩
  | 53, _, go => exact go (s := (0, [], [], px_hX)) rfl ⟨px_hX, px_law_tail, rfl⟩
  | 54, _, go => exact go (s := (0, [], [], px_hX)) rfl ⟨px_hX, px_law_tail, rfl⟩
  | 55, _, go => exact go (s := (0, [], [], px_hX)) rfl ⟨px_hX, px_law_tail, rfl⟩
  | 56, _, go => exact go (s := (0, [], [], px_hX)) rfl ⟨px_hX, px_law_tail, rfl⟩
  | 57, _, go => exact go (s := (0, [], [], px_hX)) rfl ⟨px_hX, px_law_tail, rfl⟩
  | 58, _, go => exact go (s := (0, [], [], px_hX)) rfl ⟨px_hX, px_law_tail, rfl⟩
  | 59, _, go => exact go (s := (0, [], [], px_hX)) rfl ⟨px_hX, px_law_tail, rfl⟩
  | 60, _, go => exact go (s := (0, [], [], px_hX)) rfl ⟨px_hX, px_law_tail, rfl⟩
  | 61, _, go => exact go (s := (0, [], [], px_hX)) rfl ⟨px_hX, px_law_tail, rfl⟩
  | 62, _, go => exact go (s := (0, [], [], px_hX)) rfl ⟨px_hX, px_law_tail, rfl⟩
  | 63, _, go => exact go (s := (0, [], [], px_hX)) rfl ⟨px_hX, px_law_tail, rfl⟩
  | n + 64, hj, _ => exact absurd hj (by omega)
set_option maxRecDepth 100000 in
theorem px_lawR {L : Nat} {xs : Nat → Int32} (hL : L ≤ 6) : ∃ hF, px_E [(L, xs)] 999 328 (0, [(0, .ref px_SC)], [], px_h0) (some (.int 1)) hF ∧ hF.1 = px_shX := by
  have start : ∀ {hF : px_H}, px_E [(L, xs)] 999 328 (18, [(3, .int 0), (2, .ref 95), (1, .ref 0), (0, .ref px_SC)], [], px_hX) (some (.int 1)) hF → px_E [(L, xs)] 999 328 (0, [(0, .ref px_SC)], [], px_h0) (some (.int 1)) hF := by
    intro hF h
    refine px_E_seg 2 (σ' := (4, [(0, .ref px_SC)], [.ref 0, .ref 0], px_new px_h0 (.inr 11))) rfl ?_
    refine px_E_call (j := 0) (as := [.ref 0]) (rest := [.ref 0]) (v := none) (h1 := px_hC) rfl rfl rfl (px_ctorC (d := 978)) ?_
    refine px_E_seg 3 (σ' := (12, [(1, .ref 0), (0, .ref px_SC)], [.ref 95, .ref 95], px_new px_hC (.inr 12))) rfl ?_
    refine px_E_call (j := 180) (as := [.ref 95]) (rest := [.ref 95]) (v := none) (h1 := px_hX) rfl rfl rfl (px_ctorM (d := 978)) ?_
    refine px_E_seg 3 (σ' := (18, [(3, .int 0), (2, .ref 95), (1, .ref 0), (0, .ref px_SC)], [], px_hX)) rfl ?_
    exact h
  rcases Nat.lt_or_ge L 6 with q | q
  · refine ⟨px_hX, start ?_, rfl⟩
    refine px_E_seg 4 (σ' := (23, [(3, .int 0), (2, .ref 95), (1, .ref 0), (0, .ref px_SC)], [.int 6, .int (nI L), .int 0], px_hX)) rfl ?_
    refine px_E_seg 1 (σ' := (24, [(3, .int 0), (2, .ref 95), (1, .ref 0), (0, .ref px_SC)], [.int (nI L - 6), .int 0], px_hX)) rfl ?_
    refine px_E_icmp (t := 1611) rfl rfl (fun _ => ?_) (fun n9 => absurd (show nI L - nI 6 < 0 from pk_sneg (by decide) q) n9)
    refine px_E_seg 1 (σ' := (1612, [(3, .int 0), (2, .ref 95), (1, .ref 0), (0, .ref px_SC)], [.int 1], px_hX)) rfl ?_
    exact px_E_ret rfl rfl
  · have e : L = 6 := by omega
    subst e
    obtain ⟨hF, h, hs⟩ := px_law6 (xs := xs)
    exact ⟨hF, start h, hs⟩
theorem whole_start {p : Program} {e : Env} {s : State} {m : MethodId} {below : List Frame} {meth : Method} {c : Code} (l : Launch) (hflags : l.flags = flags0) {b L : Nat} {xs : Nat → Int32} (hL : L ≤ 6) (C0 : lw_At p s m meth c b L xs) : W p l e room_1 s m #[Value.ref b] below meth c s.heap [] 0 0 (lw_Z below #[Value.ref b] s) (entryFrame m ([Value.ref b] : List Value).toArray 4) := by
  obtain ⟨hF, ⟨n, h⟩, hs⟩ := px_lawR (L := L) (xs := xs) hL
  exact px_law_go l C0 (px_ev_mono _ _ _ _ _ _ h n 1000 (Nat.le_refl _) (by omega)) (by rw [hs]; decide) (by rw [hs]; decide)
-- ===== YOUR PART ENDS =====
set_option maxHeartbeats 4000000 in
theorem lw_walk (l : Launch) (hflags : l.flags = flags0) (b : Addr) (xs : List Int32) : MetFree l x (headSpec (Jvm.Cond.code x code maxLocals ret :: tables_1) room_1) (lw_P b xs) (fun _ _ _ _ _ => True) lw_Q := by
  refine MetFree.of_bodyS (code := code) (maxLocals := maxLocals) (ret := ret) (by decide) ?_ ?_
  · intro args s m h hn
    obtain ⟨meth, c, h1, h2, h3, h4, h5, h6, -, -⟩ := Cond.code_spec hn (atoms_spec (ws := Jvm.Cond.code x code maxLocals ret :: tables_1) h _ List.mem_cons_self)
    exact ⟨meth, c, h1, h2, h3, h4, h5, h6⟩
  · intro p e s m args below meth c s₁ B hml0 hP _
    obtain ⟨rfl, hx, hbd, hgv⟩ := hP
    obtain ⟨scr, harrAt, hlist, hof, hsmall⟩ := hx
    obtain ⟨hcb, hkn, -, -⟩ := State.arrayAt?_spec harrAt
    have hown : s.vm.findClass R_law = some m.cls := findClass_of_methodNamed B.named
    have hts0 : ∀ c ∈ (Jvm.Cond.code x code maxLocals ret :: tables_1), c.before #[Value.ref b] s = true := atoms_spec (ws := Jvm.Cond.code x code maxLocals ret :: tables_1) B.pre
    have hts : ∀ w ∈ lw_tbl, w.before #[Value.ref b] s = true := k2_hts_sels lw_privs (fun w hw => hts0 w (List.mem_cons_of_mem _ hw)) lw_privs_ok
    have hml : c.maxLocals = 4 := B.maxLocals_eq (hts0 _ List.mem_cons_self)
    have X₀ : Stand p l e room_1 s m #[Value.ref b] below meth c s₁ [] 0 0 := Stand.of_body B
    have hh0 : s₁.heap = s.heap := by rw [B.state]; rfl
    have hsz : scr.slots.size = xs.length := by rw [← Array.length_toList, hlist, List.length_map]
    have hval : ∀ j : Nat, j < xs.length → scr.slots[j]? = some (.int (xs.getD j 0)) := fun j hj => by
      rw [← Array.getElem?_toList, hlist]
      simp [hj]
    have hbl : b < s.heap.size := (Array.getElem?_eq_some_iff.mp hcb).1
    have hX : va_X b xs.length (fun j => xs.getD j 0) s s.heap := ⟨scr, hcb, hof, hkn, hsz, hval⟩
    have K : W p l e room_1 s m #[Value.ref b] below meth c s₁.heap [] 0 0 (lw_Z below #[Value.ref b] s) (entryFrame m ([Value.ref b] : List Value).toArray 4) := by
      rw [hh0]
      exact whole_start l hflags hbd ⟨B.exec, B.bytes, B.returns, hml, hown, hts, hX, hbl, B.notSynchronized, hgv⟩
    obtain ⟨t, a1, o, b1, b2, b3⟩ := K s₁ rfl X₀
    exact ⟨t, o, a1, b1, b2, b3⟩
theorem lw_pre_spec {args : Array Value} {s : State} (h : (Jvm.Cond.and given_1 narrow_1).before args s = true) (hr : rest_1_c.before args s = true) : ∃ (b : Addr) (xs : List Int32), lw_P b xs args s := by
  have hs := flat_of_before _ h
  have hq := flat_of_before _ hr
  have hc : (Cond.count 1).before args s = true := hs _ (by decide +kernel)
  have harr : (Cond.arrayOf (.arg 0) .int).before args s = true := hs _ (by decide +kernel)
  have hle : (Cond.le (.length (.arg 0)) (.int 6)).before args s = true := hs _ (by decide +kernel)
  have hlen : (Cond.isInt (.length (.arg 0))).before args s = true := hq _ (by decide +kernel)
  have hall : (Cond.all (.arg 0) (.isInt (.elem (.arg 0) (.index 0)))).before args s = true := hq _ (by decide +kernel)
  obtain ⟨b, xs, hb, hx⟩ := State.ints_of_pre rfl harr hlen hall
  have hsm : xs.length < 2 ^ 31 := hx.choose_spec.2.2.2
  have hev : (Term.length (.arg 0)).eval args s none [] s = some (.int xs.length.toInt32) := hx.length_eval hb
  have hv := Cond.le_ints hev (show (Term.int 6).eval args s none [] s = some (.int 6) from rfl)
  have hd : xs.length.toInt32 ≤ 6 := by
    simpa [Cond.before, Cond.holds, hv] using hle
  have hN : xs.length ≤ 6 := (Int32.ofNat_le_ofNat hsm (by decide)).mp (show Int32.ofNat xs.length ≤ Int32.ofNat 6 from hd)
  exact ⟨b, xs, Cond.one_arg hc (show args[0]? = some (.ref b) from hb), hx, hN, h⟩
theorem lw_comes (l : Launch) (hflags : l.flags = flags0) : Comes l x (Jvm.Cond.code x code maxLocals ret :: tables_1) room_1 (fun tb e args s => Calls_1 tb e args s ∧ rest_1 tb e args s ∧ Pre_1 tb e args s)
    (fun _ _ args s o t => lw_Q args s o t) := by
  intro p e ha hc hk s m args below hf hfit hheap happ hpre
  obtain ⟨b, xs, hP⟩ := lw_pre_spec hpre.2.2 hpre.2.1
  obtain ⟨k, o, h1, h2, h3, hQ⟩ := lw_walk l hflags b xs p e ha hc hk s m args below hf ((Spec.applies_iff_loose hf).mp happ).1 hP trivial
  exact ⟨k, o, h1, h2, h3, hQ⟩
theorem lw_frame {s t : State} {o : Outcome} {args : Array Value} (h : Framed s o t [] 600000 7302250) :
    Framed s o t (fieldLocs frame_1_writes args s ++ arrayLocs frame_1_arrays args s ++ staticLocs frame_1_statics s) 600000 7302250 := h
theorem lw_limb (L : Cond) (hL : ∀ (args : Array Value) (s t : State), L.after args s (.returned (some (.int 1))) t = true) :
    ArmFor flags0 classFile x code maxLocals ret World_1 tables_1 room_1 Calls_1 rest_1 Pre_1
      (fun tb e a s o t => postC L tb e a s o t ∧ Framed s o t (fieldLocs frame_1_writes a s ++ arrayLocs frame_1_arrays a s ++ staticLocs frame_1_statics s) 600000 7302250) := by
  intro l hflags _ _ p e ha hc hk s m args below hf hfit hheap happ hpre
  obtain ⟨k, o, h1, h2, h3, rfl, hF⟩ := lw_comes l hflags p e ha hc hk s m args below hf hfit hheap happ hpre
  exact ⟨k, _, h1, h2, h3, hL args s _, lw_frame hF⟩
theorem i_vc : Claimed_1_1 ∧ Claimed_1_2 := ⟨lw_limb limb_1_1 (fun args s t => by simp [limb_1_1, Cond.after, Cond.holds, Cond.value]), lw_limb limb_1_2 (fun args s t => Cond.after_iff.mpr (by
  first | (rw [show limb_1_2 = Cond.eq .result (.int 1) from rfl, Cond.eq_ints (x := 1) (y := 1) rfl rfl]; simp; done) | (simp [limb_1_2, Cond.value, Term.eval]; done)))⟩
