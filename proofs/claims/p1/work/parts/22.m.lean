set_option maxRecDepth 100000 in
set_option maxHeartbeats 4000000 in
theorem px_r21_5 {ro : px_RO} {dd : Nat} (a1 a2 a3 a4 : Int32) (ha1 : 4 ≤ a1.toInt ∧ a1.toInt ≤ 2147483647) (ha2 : (-2147483648) ≤ a2.toInt ∧ a2.toInt ≤ 2147483647) (ha3 : (-2147483648) ≤ a3.toInt ∧ a3.toInt ≤ 2147483647) (ha4 : 0 ≤ a4.toInt ∧ a4.toInt ≤ 1) : px_RX ro (dd + 8) 289 [.ref 95, .int a1, .int a2, .int a3, .int a4] (.long (-1)) := by
  intro Ic Jc Pc
  refine ⟨(px_shX, (px_mI Ic), (px_mJ Jc), (px_mP Pc)), ?_, rfl⟩
  show px_E ro (dd + 8) 289 (0, _, [], _) _ _
  refine px_E_seg 2 (σ' := (2, [(0, .ref 95), (1, .int a1), (2, .int a2), (3, .int a3), (4, .int a4)], [.int a1, .ref 95], (px_shX, (px_mI Ic), (px_mJ Jc), (px_mP Pc)))) rfl ?_
  refine px_E_call (j := 254) (as := [.ref 95, .int a1]) (rest := []) (v := some (.int 0)) (h1 := (px_shX, (px_mI Ic), (px_mJ Jc), (px_mP Pc))) rfl rfl rfl (by
    refine px_E_seg 3 (σ' := (3, [(0, .ref 95), (1, .int a1)], [.int 3, .int 0, .int a1], (px_shX, (px_mI Ic), (px_mJ Jc), (px_mP Pc)))) rfl ?_
    refine px_E_call (j := 183) (as := [.int a1, .int 0, .int 3]) (rest := []) (v := some (.int 0)) (h1 := (px_shX, (px_mI Ic), (px_mJ Jc), (px_mP Pc))) rfl rfl rfl (by
      refine px_E_seg 2 (σ' := (2, [(0, .int a1), (1, .int 0), (2, .int 3)], [.int 0, .int a1], (px_shX, (px_mI Ic), (px_mJ Jc), (px_mP Pc)))) rfl ?_
      refine px_E_icF (t := 14) rfl rfl (show (0 : Int) ≤ a1.toInt by omega) ?_
      refine px_E_seg 2 (σ' := (7, [(0, .int a1), (1, .int 0), (2, .int 3)], [.int 3, .int a1], (px_shX, (px_mI Ic), (px_mJ Jc), (px_mP Pc)))) rfl ?_
      refine px_E_icT (t := 14) rfl rfl (show (3 : Int) < a1.toInt by omega) ?_
      refine px_E_seg 1 (σ' := (15, [(0, .int a1), (1, .int 0), (2, .int 3)], [.int 0], (px_shX, (px_mI Ic), (px_mJ Jc), (px_mP Pc)))) rfl ?_
      exact px_E_ret rfl rfl) ?_
    refine px_E_seg 2 (σ' := (22, [(0, .ref 95), (1, .int a1)], [.int 0], (px_shX, (px_mI Ic), (px_mJ Jc), (px_mP Pc)))) rfl ?_
    exact px_E_ret rfl rfl) ?_
  refine px_E_seg 2 (σ' := (28, [(0, .ref 95), (1, .int a1), (2, .int a2), (3, .int a3), (4, .int a4)], [.long (-1)], (px_shX, (px_mI Ic), (px_mJ Jc), (px_mP Pc)))) rfl ?_
  exact px_E_ret rfl rfl
set_option maxRecDepth 100000 in
set_option maxHeartbeats 4000000 in
theorem px_x22_0 {ro : px_RO} {dd : Nat} (a1 : Int32) (ha1 : (-2147483648) ≤ a1.toInt ∧ a1.toInt ≤ (-1)) : px_CX ro (dd + 8) 126 [.ref 0, .int a1] (.int (-1)) := by
  refine ⟨px_IX, px_PX, ?_, px_fr_0, px_frP_0⟩
  show px_E ro (dd + 8) 126 (0, _, [], _) _ _
  refine px_E_seg 3 (σ' := (5, [(0, .ref 0), (1, .int a1)], [.int a1, .ref 15], (px_shX, px_IX, px_JX, px_PX))) rfl ?_
  refine px_E_call (j := 80) (as := [.ref 15, .int a1]) (rest := []) (v := some (.int 0)) (h1 := (px_shX, px_IX, px_JX, px_PX)) rfl rfl rfl (by
    refine px_E_seg 1 (σ' := (1, [(0, .ref 15), (1, .int a1)], [.int a1], (px_shX, px_IX, px_JX, px_PX))) rfl ?_
    refine px_E_ifT (t := 22) rfl rfl (show a1.toInt < (0 : Int) by omega) ?_
    refine px_E_seg 1 (σ' := (23, [(0, .ref 15), (1, .int a1)], [.int 0], (px_shX, px_IX, px_JX, px_PX))) rfl ?_
    exact px_E_ret rfl rfl) ?_
  refine px_E_seg 2 (σ' := (23, [(0, .ref 0), (1, .int a1)], [.int (-1)], (px_shX, px_IX, px_JX, px_PX))) rfl ?_
  exact px_E_ret rfl rfl
set_option maxRecDepth 100000 in
set_option maxHeartbeats 4000000 in
theorem px_r22_0 {ro : px_RO} {dd : Nat} (a1 : Int32) (ha1 : (-2147483648) ≤ a1.toInt ∧ a1.toInt ≤ (-1)) : px_RX ro (dd + 8) 293 [.ref 95, .int a1] (.int (-1)) := by
  intro Ic Jc Pc
  refine ⟨(px_shX, (px_mI Ic), (px_mJ Jc), (px_mP Pc)), ?_, rfl⟩
  show px_E ro (dd + 8) 293 (0, _, [], _) _ _
  refine px_E_seg 2 (σ' := (2, [(0, .ref 95), (1, .int a1)], [.int a1, .ref 95], (px_shX, (px_mI Ic), (px_mJ Jc), (px_mP Pc)))) rfl ?_
  refine px_E_call (j := 254) (as := [.ref 95, .int a1]) (rest := []) (v := some (.int 0)) (h1 := (px_shX, (px_mI Ic), (px_mJ Jc), (px_mP Pc))) rfl rfl rfl (by
    refine px_E_seg 3 (σ' := (3, [(0, .ref 95), (1, .int a1)], [.int 3, .int 0, .int a1], (px_shX, (px_mI Ic), (px_mJ Jc), (px_mP Pc)))) rfl ?_
    refine px_E_call (j := 183) (as := [.int a1, .int 0, .int 3]) (rest := []) (v := some (.int 0)) (h1 := (px_shX, (px_mI Ic), (px_mJ Jc), (px_mP Pc))) rfl rfl rfl (by
      refine px_E_seg 2 (σ' := (2, [(0, .int a1), (1, .int 0), (2, .int 3)], [.int 0, .int a1], (px_shX, (px_mI Ic), (px_mJ Jc), (px_mP Pc)))) rfl ?_
      refine px_E_icT (t := 14) rfl rfl (show a1.toInt < (0 : Int) by omega) ?_
      refine px_E_seg 1 (σ' := (15, [(0, .int a1), (1, .int 0), (2, .int 3)], [.int 0], (px_shX, (px_mI Ic), (px_mJ Jc), (px_mP Pc)))) rfl ?_
      exact px_E_ret rfl rfl) ?_
    refine px_E_seg 2 (σ' := (22, [(0, .ref 95), (1, .int a1)], [.int 0], (px_shX, (px_mI Ic), (px_mJ Jc), (px_mP Pc)))) rfl ?_
    exact px_E_ret rfl rfl) ?_
  refine px_E_seg 2 (σ' := (17, [(0, .ref 95), (1, .int a1)], [.int (-1)], (px_shX, (px_mI Ic), (px_mJ Jc), (px_mP Pc)))) rfl ?_
  exact px_E_ret rfl rfl
set_option maxRecDepth 100000 in
set_option maxHeartbeats 4000000 in
theorem px_x22_1 {ro : px_RO} {dd : Nat}  : px_CX ro (dd + 8) 126 [.ref 0, .int 0] (.int (-1)) := by
  refine ⟨px_IX, px_PX, ?_, px_fr_0, px_frP_0⟩
  show px_E ro (dd + 8) 126 (0, _, [], _) _ _
  refine px_E_seg 3 (σ' := (5, [(0, .ref 0), (1, .int 0)], [.int 0, .ref 15], (px_shX, px_IX, px_JX, px_PX))) rfl ?_
  refine px_E_call (j := 80) (as := [.ref 15, .int 0]) (rest := []) (v := some (.int 0)) (h1 := (px_shX, px_IX, px_JX, px_PX)) rfl rfl rfl (by
    refine px_E_seg 6 (σ' := (10, [(0, .ref 15), (1, .int 0)], [.ref 15], (px_shX, px_IX, px_JX, px_PX))) rfl ?_
    refine px_E_seg 5 (σ' := (23, [(0, .ref 15), (1, .int 0)], [.int 0], (px_shX, px_IX, px_JX, px_PX))) rfl ?_
    exact px_E_ret rfl rfl) ?_
  refine px_E_seg 2 (σ' := (23, [(0, .ref 0), (1, .int 0)], [.int (-1)], (px_shX, px_IX, px_JX, px_PX))) rfl ?_
  exact px_E_ret rfl rfl
set_option maxRecDepth 100000 in
set_option maxHeartbeats 4000000 in
theorem px_r22_1 {ro : px_RO} {dd : Nat}  : px_RX ro (dd + 8) 293 [.ref 95, .int 0] (.int (-1)) := by
  intro Ic Jc Pc
  refine ⟨(px_shX, (px_mI Ic), (px_mJ Jc), (px_mP Pc)), ?_, rfl⟩
  show px_E ro (dd + 8) 293 (0, _, [], _) _ _
  refine px_E_seg 2 (σ' := (2, [(0, .ref 95), (1, .int 0)], [.int 0, .ref 95], (px_shX, (px_mI Ic), (px_mJ Jc), (px_mP Pc)))) rfl ?_
  refine px_E_call (j := 254) (as := [.ref 95, .int 0]) (rest := []) (v := some (.int 0)) (h1 := (px_shX, (px_mI Ic), (px_mJ Jc), (px_mP Pc))) rfl rfl rfl (by
    refine px_E_seg 3 (σ' := (3, [(0, .ref 95), (1, .int 0)], [.int 3, .int 0, .int 0], (px_shX, (px_mI Ic), (px_mJ Jc), (px_mP Pc)))) rfl ?_
    refine px_E_call (j := 183) (as := [.int 0, .int 0, .int 3]) (rest := []) (v := some (.int 1)) (h1 := (px_shX, (px_mI Ic), (px_mJ Jc), (px_mP Pc))) rfl rfl rfl (by
      refine px_E_seg 6 (σ' := (10, [(0, .int 0), (1, .int 0), (2, .int 3)], [], (px_shX, (px_mI Ic), (px_mJ Jc), (px_mP Pc)))) rfl ?_
      refine px_E_seg 2 (σ' := (15, [(0, .int 0), (1, .int 0), (2, .int 3)], [.int 1], (px_shX, (px_mI Ic), (px_mJ Jc), (px_mP Pc)))) rfl ?_
      exact px_E_ret rfl rfl) ?_
    refine px_E_seg 3 (σ' := (11, [(0, .ref 95), (1, .int 0)], [.int 0, .ref 95], (px_shX, (px_mI Ic), (px_mJ Jc), (px_mP Pc)))) rfl ?_
    refine px_E_call (j := 242) (as := [.ref 95, .int 0]) (rest := []) (v := some (.int 0)) (h1 := (px_shX, (px_mI Ic), (px_mJ Jc), (px_mP Pc))) rfl rfl rfl (by
      refine px_E_seg 5 (σ' := (8, [(0, .ref 95), (1, .int 0)], [.int 0, .int 3, .int 114, .ref 96], (px_shX, (px_mI Ic), (px_mJ Jc), (px_mP Pc)))) rfl ?_
      refine px_E_seg 1 (σ' := (9, [(0, .ref 95), (1, .int 0)], [.int 0, .int 114, .ref 96], (px_shX, (px_mI Ic), (px_mJ Jc), (px_mP Pc)))) rfl ?_
      refine px_E_seg 2 (σ' := (11, [(0, .ref 95), (1, .int 0)], [.int 0], (px_shX, (px_mI Ic), (px_mJ Jc), (px_mP Pc)))) rfl ?_
      exact px_E_ret rfl rfl) ?_
    refine px_E_seg 2 (σ' := (22, [(0, .ref 95), (1, .int 0)], [.int 0], (px_shX, (px_mI Ic), (px_mJ Jc), (px_mP Pc)))) rfl ?_
    exact px_E_ret rfl rfl) ?_
  refine px_E_seg 2 (σ' := (17, [(0, .ref 95), (1, .int 0)], [.int (-1)], (px_shX, (px_mI Ic), (px_mJ Jc), (px_mP Pc)))) rfl ?_
  exact px_E_ret rfl rfl
set_option maxRecDepth 100000 in
set_option maxHeartbeats 4000000 in
theorem px_x22_2 {ro : px_RO} {dd : Nat}  : px_CX ro (dd + 8) 126 [.ref 0, .int 1] (.int (-1)) := by
  refine ⟨px_IX, px_PX, ?_, px_fr_0, px_frP_0⟩
  show px_E ro (dd + 8) 126 (0, _, [], _) _ _
  refine px_E_seg 3 (σ' := (5, [(0, .ref 0), (1, .int 1)], [.int 1, .ref 15], (px_shX, px_IX, px_JX, px_PX))) rfl ?_
  refine px_E_call (j := 80) (as := [.ref 15, .int 1]) (rest := []) (v := some (.int 0)) (h1 := (px_shX, px_IX, px_JX, px_PX)) rfl rfl rfl (by
    refine px_E_seg 6 (σ' := (10, [(0, .ref 15), (1, .int 1)], [.ref 15], (px_shX, px_IX, px_JX, px_PX))) rfl ?_
    refine px_E_seg 5 (σ' := (23, [(0, .ref 15), (1, .int 1)], [.int 0], (px_shX, px_IX, px_JX, px_PX))) rfl ?_
    exact px_E_ret rfl rfl) ?_
  refine px_E_seg 2 (σ' := (23, [(0, .ref 0), (1, .int 1)], [.int (-1)], (px_shX, px_IX, px_JX, px_PX))) rfl ?_
  exact px_E_ret rfl rfl
set_option maxRecDepth 100000 in
set_option maxHeartbeats 4000000 in
theorem px_r22_2 {ro : px_RO} {dd : Nat}  : px_RX ro (dd + 8) 293 [.ref 95, .int 1] (.int (-1)) := by
  intro Ic Jc Pc
  refine ⟨(px_shX, (px_mI Ic), (px_mJ Jc), (px_mP Pc)), ?_, rfl⟩
  show px_E ro (dd + 8) 293 (0, _, [], _) _ _
  refine px_E_seg 2 (σ' := (2, [(0, .ref 95), (1, .int 1)], [.int 1, .ref 95], (px_shX, (px_mI Ic), (px_mJ Jc), (px_mP Pc)))) rfl ?_
  refine px_E_call (j := 254) (as := [.ref 95, .int 1]) (rest := []) (v := some (.int 0)) (h1 := (px_shX, (px_mI Ic), (px_mJ Jc), (px_mP Pc))) rfl rfl rfl (by
    refine px_E_seg 3 (σ' := (3, [(0, .ref 95), (1, .int 1)], [.int 3, .int 0, .int 1], (px_shX, (px_mI Ic), (px_mJ Jc), (px_mP Pc)))) rfl ?_
    refine px_E_call (j := 183) (as := [.int 1, .int 0, .int 3]) (rest := []) (v := some (.int 1)) (h1 := (px_shX, (px_mI Ic), (px_mJ Jc), (px_mP Pc))) rfl rfl rfl (by
      refine px_E_seg 6 (σ' := (10, [(0, .int 1), (1, .int 0), (2, .int 3)], [], (px_shX, (px_mI Ic), (px_mJ Jc), (px_mP Pc)))) rfl ?_
      refine px_E_seg 2 (σ' := (15, [(0, .int 1), (1, .int 0), (2, .int 3)], [.int 1], (px_shX, (px_mI Ic), (px_mJ Jc), (px_mP Pc)))) rfl ?_
      exact px_E_ret rfl rfl) ?_
    refine px_E_seg 3 (σ' := (11, [(0, .ref 95), (1, .int 1)], [.int 1, .ref 95], (px_shX, (px_mI Ic), (px_mJ Jc), (px_mP Pc)))) rfl ?_
    refine px_E_call (j := 242) (as := [.ref 95, .int 1]) (rest := []) (v := some (.int 0)) (h1 := (px_shX, (px_mI Ic), (px_mJ Jc), (px_mP Pc))) rfl rfl rfl (by
      refine px_E_seg 5 (σ' := (8, [(0, .ref 95), (1, .int 1)], [.int 1, .int 3, .int 114, .ref 96], (px_shX, (px_mI Ic), (px_mJ Jc), (px_mP Pc)))) rfl ?_
      refine px_E_seg 1 (σ' := (9, [(0, .ref 95), (1, .int 1)], [.int 3, .int 114, .ref 96], (px_shX, (px_mI Ic), (px_mJ Jc), (px_mP Pc)))) rfl ?_
      refine px_E_seg 2 (σ' := (11, [(0, .ref 95), (1, .int 1)], [.int 0], (px_shX, (px_mI Ic), (px_mJ Jc), (px_mP Pc)))) rfl ?_
      exact px_E_ret rfl rfl) ?_
    refine px_E_seg 2 (σ' := (22, [(0, .ref 95), (1, .int 1)], [.int 0], (px_shX, (px_mI Ic), (px_mJ Jc), (px_mP Pc)))) rfl ?_
    exact px_E_ret rfl rfl) ?_
  refine px_E_seg 2 (σ' := (17, [(0, .ref 95), (1, .int 1)], [.int (-1)], (px_shX, (px_mI Ic), (px_mJ Jc), (px_mP Pc)))) rfl ?_
  exact px_E_ret rfl rfl
set_option maxRecDepth 100000 in
set_option maxHeartbeats 4000000 in
theorem px_x22_3 {ro : px_RO} {dd : Nat}  : px_CX ro (dd + 8) 126 [.ref 0, .int 2] (.int (-1)) := by
  refine ⟨px_IX, px_PX, ?_, px_fr_0, px_frP_0⟩
  show px_E ro (dd + 8) 126 (0, _, [], _) _ _
  refine px_E_seg 3 (σ' := (5, [(0, .ref 0), (1, .int 2)], [.int 2, .ref 15], (px_shX, px_IX, px_JX, px_PX))) rfl ?_
  refine px_E_call (j := 80) (as := [.ref 15, .int 2]) (rest := []) (v := some (.int 0)) (h1 := (px_shX, px_IX, px_JX, px_PX)) rfl rfl rfl (by
    refine px_E_seg 6 (σ' := (10, [(0, .ref 15), (1, .int 2)], [.ref 15], (px_shX, px_IX, px_JX, px_PX))) rfl ?_
    refine px_E_seg 5 (σ' := (23, [(0, .ref 15), (1, .int 2)], [.int 0], (px_shX, px_IX, px_JX, px_PX))) rfl ?_
    exact px_E_ret rfl rfl) ?_
  refine px_E_seg 2 (σ' := (23, [(0, .ref 0), (1, .int 2)], [.int (-1)], (px_shX, px_IX, px_JX, px_PX))) rfl ?_
  exact px_E_ret rfl rfl
set_option maxRecDepth 100000 in
set_option maxHeartbeats 4000000 in
theorem px_r22_3 {ro : px_RO} {dd : Nat}  : px_RX ro (dd + 8) 293 [.ref 95, .int 2] (.int (-1)) := by
  intro Ic Jc Pc
  refine ⟨(px_shX, (px_mI Ic), (px_mJ Jc), (px_mP Pc)), ?_, rfl⟩
  show px_E ro (dd + 8) 293 (0, _, [], _) _ _
  refine px_E_seg 2 (σ' := (2, [(0, .ref 95), (1, .int 2)], [.int 2, .ref 95], (px_shX, (px_mI Ic), (px_mJ Jc), (px_mP Pc)))) rfl ?_
  refine px_E_call (j := 254) (as := [.ref 95, .int 2]) (rest := []) (v := some (.int 0)) (h1 := (px_shX, (px_mI Ic), (px_mJ Jc), (px_mP Pc))) rfl rfl rfl (by
    refine px_E_seg 3 (σ' := (3, [(0, .ref 95), (1, .int 2)], [.int 3, .int 0, .int 2], (px_shX, (px_mI Ic), (px_mJ Jc), (px_mP Pc)))) rfl ?_
    refine px_E_call (j := 183) (as := [.int 2, .int 0, .int 3]) (rest := []) (v := some (.int 1)) (h1 := (px_shX, (px_mI Ic), (px_mJ Jc), (px_mP Pc))) rfl rfl rfl (by
      refine px_E_seg 6 (σ' := (10, [(0, .int 2), (1, .int 0), (2, .int 3)], [], (px_shX, (px_mI Ic), (px_mJ Jc), (px_mP Pc)))) rfl ?_
      refine px_E_seg 2 (σ' := (15, [(0, .int 2), (1, .int 0), (2, .int 3)], [.int 1], (px_shX, (px_mI Ic), (px_mJ Jc), (px_mP Pc)))) rfl ?_
      exact px_E_ret rfl rfl) ?_
    refine px_E_seg 3 (σ' := (11, [(0, .ref 95), (1, .int 2)], [.int 2, .ref 95], (px_shX, (px_mI Ic), (px_mJ Jc), (px_mP Pc)))) rfl ?_
    refine px_E_call (j := 242) (as := [.ref 95, .int 2]) (rest := []) (v := some (.int 0)) (h1 := (px_shX, (px_mI Ic), (px_mJ Jc), (px_mP Pc))) rfl rfl rfl (by
      refine px_E_seg 5 (σ' := (8, [(0, .ref 95), (1, .int 2)], [.int 2, .int 3, .int 114, .ref 96], (px_shX, (px_mI Ic), (px_mJ Jc), (px_mP Pc)))) rfl ?_
      refine px_E_seg 1 (σ' := (9, [(0, .ref 95), (1, .int 2)], [.int 6, .int 114, .ref 96], (px_shX, (px_mI Ic), (px_mJ Jc), (px_mP Pc)))) rfl ?_
      refine px_E_seg 2 (σ' := (11, [(0, .ref 95), (1, .int 2)], [.int 0], (px_shX, (px_mI Ic), (px_mJ Jc), (px_mP Pc)))) rfl ?_
      exact px_E_ret rfl rfl) ?_
    refine px_E_seg 2 (σ' := (22, [(0, .ref 95), (1, .int 2)], [.int 0], (px_shX, (px_mI Ic), (px_mJ Jc), (px_mP Pc)))) rfl ?_
    exact px_E_ret rfl rfl) ?_
  refine px_E_seg 2 (σ' := (17, [(0, .ref 95), (1, .int 2)], [.int (-1)], (px_shX, (px_mI Ic), (px_mJ Jc), (px_mP Pc)))) rfl ?_
  exact px_E_ret rfl rfl
set_option maxRecDepth 100000 in
set_option maxHeartbeats 4000000 in
theorem px_x22_4 {ro : px_RO} {dd : Nat}  : px_CX ro (dd + 8) 126 [.ref 0, .int 3] (.int (-1)) := by
  refine ⟨px_IX, px_PX, ?_, px_fr_0, px_frP_0⟩
  show px_E ro (dd + 8) 126 (0, _, [], _) _ _
  refine px_E_seg 3 (σ' := (5, [(0, .ref 0), (1, .int 3)], [.int 3, .ref 15], (px_shX, px_IX, px_JX, px_PX))) rfl ?_
  refine px_E_call (j := 80) (as := [.ref 15, .int 3]) (rest := []) (v := some (.int 0)) (h1 := (px_shX, px_IX, px_JX, px_PX)) rfl rfl rfl (by
    refine px_E_seg 6 (σ' := (10, [(0, .ref 15), (1, .int 3)], [.ref 15], (px_shX, px_IX, px_JX, px_PX))) rfl ?_
    refine px_E_seg 5 (σ' := (23, [(0, .ref 15), (1, .int 3)], [.int 0], (px_shX, px_IX, px_JX, px_PX))) rfl ?_
    exact px_E_ret rfl rfl) ?_
  refine px_E_seg 2 (σ' := (23, [(0, .ref 0), (1, .int 3)], [.int (-1)], (px_shX, px_IX, px_JX, px_PX))) rfl ?_
  exact px_E_ret rfl rfl
set_option maxRecDepth 100000 in
set_option maxHeartbeats 4000000 in
theorem px_r22_4 {ro : px_RO} {dd : Nat}  : px_RX ro (dd + 8) 293 [.ref 95, .int 3] (.int (-1)) := by
  intro Ic Jc Pc
  refine ⟨(px_shX, (px_mI Ic), (px_mJ Jc), (px_mP Pc)), ?_, rfl⟩
  show px_E ro (dd + 8) 293 (0, _, [], _) _ _
  refine px_E_seg 2 (σ' := (2, [(0, .ref 95), (1, .int 3)], [.int 3, .ref 95], (px_shX, (px_mI Ic), (px_mJ Jc), (px_mP Pc)))) rfl ?_
  refine px_E_call (j := 254) (as := [.ref 95, .int 3]) (rest := []) (v := some (.int 0)) (h1 := (px_shX, (px_mI Ic), (px_mJ Jc), (px_mP Pc))) rfl rfl rfl (by
    refine px_E_seg 3 (σ' := (3, [(0, .ref 95), (1, .int 3)], [.int 3, .int 0, .int 3], (px_shX, (px_mI Ic), (px_mJ Jc), (px_mP Pc)))) rfl ?_
    refine px_E_call (j := 183) (as := [.int 3, .int 0, .int 3]) (rest := []) (v := some (.int 1)) (h1 := (px_shX, (px_mI Ic), (px_mJ Jc), (px_mP Pc))) rfl rfl rfl (by
      refine px_E_seg 6 (σ' := (10, [(0, .int 3), (1, .int 0), (2, .int 3)], [], (px_shX, (px_mI Ic), (px_mJ Jc), (px_mP Pc)))) rfl ?_
      refine px_E_seg 2 (σ' := (15, [(0, .int 3), (1, .int 0), (2, .int 3)], [.int 1], (px_shX, (px_mI Ic), (px_mJ Jc), (px_mP Pc)))) rfl ?_
      exact px_E_ret rfl rfl) ?_
    refine px_E_seg 3 (σ' := (11, [(0, .ref 95), (1, .int 3)], [.int 3, .ref 95], (px_shX, (px_mI Ic), (px_mJ Jc), (px_mP Pc)))) rfl ?_
    refine px_E_call (j := 242) (as := [.ref 95, .int 3]) (rest := []) (v := some (.int 0)) (h1 := (px_shX, (px_mI Ic), (px_mJ Jc), (px_mP Pc))) rfl rfl rfl (by
      refine px_E_seg 5 (σ' := (8, [(0, .ref 95), (1, .int 3)], [.int 3, .int 3, .int 114, .ref 96], (px_shX, (px_mI Ic), (px_mJ Jc), (px_mP Pc)))) rfl ?_
      refine px_E_seg 1 (σ' := (9, [(0, .ref 95), (1, .int 3)], [.int 9, .int 114, .ref 96], (px_shX, (px_mI Ic), (px_mJ Jc), (px_mP Pc)))) rfl ?_
      refine px_E_seg 2 (σ' := (11, [(0, .ref 95), (1, .int 3)], [.int 0], (px_shX, (px_mI Ic), (px_mJ Jc), (px_mP Pc)))) rfl ?_
      exact px_E_ret rfl rfl) ?_
    refine px_E_seg 2 (σ' := (22, [(0, .ref 95), (1, .int 3)], [.int 0], (px_shX, (px_mI Ic), (px_mJ Jc), (px_mP Pc)))) rfl ?_
    exact px_E_ret rfl rfl) ?_
  refine px_E_seg 2 (σ' := (17, [(0, .ref 95), (1, .int 3)], [.int (-1)], (px_shX, (px_mI Ic), (px_mJ Jc), (px_mP Pc)))) rfl ?_
  exact px_E_ret rfl rfl
set_option maxRecDepth 100000 in
set_option maxHeartbeats 4000000 in
theorem px_x22_5 {ro : px_RO} {dd : Nat} (a1 : Int32) (ha1 : 4 ≤ a1.toInt ∧ a1.toInt ≤ 2147483647) : px_CX ro (dd + 8) 126 [.ref 0, .int a1] (.int (-1)) := by
  refine ⟨px_IX, px_PX, ?_, px_fr_0, px_frP_0⟩
  show px_E ro (dd + 8) 126 (0, _, [], _) _ _
  refine px_E_seg 3 (σ' := (5, [(0, .ref 0), (1, .int a1)], [.int a1, .ref 15], (px_shX, px_IX, px_JX, px_PX))) rfl ?_
  refine px_E_call (j := 80) (as := [.ref 15, .int a1]) (rest := []) (v := some (.int 0)) (h1 := (px_shX, px_IX, px_JX, px_PX)) rfl rfl rfl (by
    refine px_E_seg 1 (σ' := (1, [(0, .ref 15), (1, .int a1)], [.int a1], (px_shX, px_IX, px_JX, px_PX))) rfl ?_
    refine px_E_ifF (t := 22) rfl rfl (show (0 : Int) ≤ a1.toInt by omega) ?_
    refine px_E_seg 2 (σ' := (6, [(0, .ref 15), (1, .int a1)], [.int 4, .int a1], (px_shX, px_IX, px_JX, px_PX))) rfl ?_
    refine px_E_icT (t := 22) rfl rfl (show (4 : Int) ≤ a1.toInt by omega) ?_
    refine px_E_seg 1 (σ' := (23, [(0, .ref 15), (1, .int a1)], [.int 0], (px_shX, px_IX, px_JX, px_PX))) rfl ?_
    exact px_E_ret rfl rfl) ?_
  refine px_E_seg 2 (σ' := (23, [(0, .ref 0), (1, .int a1)], [.int (-1)], (px_shX, px_IX, px_JX, px_PX))) rfl ?_
  exact px_E_ret rfl rfl
set_option maxRecDepth 100000 in
set_option maxHeartbeats 4000000 in
theorem px_r22_5 {ro : px_RO} {dd : Nat} (a1 : Int32) (ha1 : 4 ≤ a1.toInt ∧ a1.toInt ≤ 2147483647) : px_RX ro (dd + 8) 293 [.ref 95, .int a1] (.int (-1)) := by
  intro Ic Jc Pc
  refine ⟨(px_shX, (px_mI Ic), (px_mJ Jc), (px_mP Pc)), ?_, rfl⟩
  show px_E ro (dd + 8) 293 (0, _, [], _) _ _
  refine px_E_seg 2 (σ' := (2, [(0, .ref 95), (1, .int a1)], [.int a1, .ref 95], (px_shX, (px_mI Ic), (px_mJ Jc), (px_mP Pc)))) rfl ?_
  refine px_E_call (j := 254) (as := [.ref 95, .int a1]) (rest := []) (v := some (.int 0)) (h1 := (px_shX, (px_mI Ic), (px_mJ Jc), (px_mP Pc))) rfl rfl rfl (by
    refine px_E_seg 3 (σ' := (3, [(0, .ref 95), (1, .int a1)], [.int 3, .int 0, .int a1], (px_shX, (px_mI Ic), (px_mJ Jc), (px_mP Pc)))) rfl ?_
    refine px_E_call (j := 183) (as := [.int a1, .int 0, .int 3]) (rest := []) (v := some (.int 0)) (h1 := (px_shX, (px_mI Ic), (px_mJ Jc), (px_mP Pc))) rfl rfl rfl (by
      refine px_E_seg 2 (σ' := (2, [(0, .int a1), (1, .int 0), (2, .int 3)], [.int 0, .int a1], (px_shX, (px_mI Ic), (px_mJ Jc), (px_mP Pc)))) rfl ?_
      refine px_E_icF (t := 14) rfl rfl (show (0 : Int) ≤ a1.toInt by omega) ?_
      refine px_E_seg 2 (σ' := (7, [(0, .int a1), (1, .int 0), (2, .int 3)], [.int 3, .int a1], (px_shX, (px_mI Ic), (px_mJ Jc), (px_mP Pc)))) rfl ?_
      refine px_E_icT (t := 14) rfl rfl (show (3 : Int) < a1.toInt by omega) ?_
      refine px_E_seg 1 (σ' := (15, [(0, .int a1), (1, .int 0), (2, .int 3)], [.int 0], (px_shX, (px_mI Ic), (px_mJ Jc), (px_mP Pc)))) rfl ?_
      exact px_E_ret rfl rfl) ?_
    refine px_E_seg 2 (σ' := (22, [(0, .ref 95), (1, .int a1)], [.int 0], (px_shX, (px_mI Ic), (px_mJ Jc), (px_mP Pc)))) rfl ?_
    exact px_E_ret rfl rfl) ?_
  refine px_E_seg 2 (σ' := (17, [(0, .ref 95), (1, .int a1)], [.int (-1)], (px_shX, (px_mI Ic), (px_mJ Jc), (px_mP Pc)))) rfl ?_
  exact px_E_ret rfl rfl
set_option maxRecDepth 100000 in
set_option maxHeartbeats 4000000 in
theorem px_x23_0 {ro : px_RO} {dd : Nat} (a1 a2 : Int32) (ha1 : (-2147483648) ≤ a1.toInt ∧ a1.toInt ≤ (-1)) (ha2 : (-2147483648) ≤ a2.toInt ∧ a2.toInt ≤ 2147483647) : px_CX ro (dd + 8) 130 [.ref 0, .int a1, .int a2] (.int (-1)) := by
  refine ⟨px_IX, px_PX, ?_, px_fr_0, px_frP_0⟩
  show px_E ro (dd + 8) 130 (0, _, [], _) _ _
  refine px_E_seg 3 (σ' := (5, [(0, .ref 0), (1, .int a1), (2, .int a2)], [.int a1, .ref 15], (px_shX, px_IX, px_JX, px_PX))) rfl ?_
  refine px_E_call (j := 80) (as := [.ref 15, .int a1]) (rest := []) (v := some (.int 0)) (h1 := (px_shX, px_IX, px_JX, px_PX)) rfl rfl rfl (by
    refine px_E_seg 1 (σ' := (1, [(0, .ref 15), (1, .int a1)], [.int a1], (px_shX, px_IX, px_JX, px_PX))) rfl ?_
    refine px_E_ifT (t := 22) rfl rfl (show a1.toInt < (0 : Int) by omega) ?_
    refine px_E_seg 1 (σ' := (23, [(0, .ref 15), (1, .int a1)], [.int 0], (px_shX, px_IX, px_JX, px_PX))) rfl ?_
    exact px_E_ret rfl rfl) ?_
  refine px_E_seg 2 (σ' := (22, [(0, .ref 0), (1, .int a1), (2, .int a2)], [.int (-1)], (px_shX, px_IX, px_JX, px_PX))) rfl ?_
  exact px_E_ret rfl rfl
set_option maxRecDepth 100000 in
set_option maxHeartbeats 4000000 in
theorem px_r23_0 {ro : px_RO} {dd : Nat} (a1 a2 : Int32) (ha1 : (-2147483648) ≤ a1.toInt ∧ a1.toInt ≤ (-1)) (ha2 : (-2147483648) ≤ a2.toInt ∧ a2.toInt ≤ 2147483647) : px_RX ro (dd + 8) 295 [.ref 95, .int a1, .int a2] (.int (-1)) := by
  intro Ic Jc Pc
  refine ⟨(px_shX, (px_mI Ic), (px_mJ Jc), (px_mP Pc)), ?_, rfl⟩
  show px_E ro (dd + 8) 295 (0, _, [], _) _ _
  refine px_E_seg 2 (σ' := (2, [(0, .ref 95), (1, .int a1), (2, .int a2)], [.int a1, .ref 95], (px_shX, (px_mI Ic), (px_mJ Jc), (px_mP Pc)))) rfl ?_
  refine px_E_call (j := 254) (as := [.ref 95, .int a1]) (rest := []) (v := some (.int 0)) (h1 := (px_shX, (px_mI Ic), (px_mJ Jc), (px_mP Pc))) rfl rfl rfl (by
    refine px_E_seg 3 (σ' := (3, [(0, .ref 95), (1, .int a1)], [.int 3, .int 0, .int a1], (px_shX, (px_mI Ic), (px_mJ Jc), (px_mP Pc)))) rfl ?_
    refine px_E_call (j := 183) (as := [.int a1, .int 0, .int 3]) (rest := []) (v := some (.int 0)) (h1 := (px_shX, (px_mI Ic), (px_mJ Jc), (px_mP Pc))) rfl rfl rfl (by
      refine px_E_seg 2 (σ' := (2, [(0, .int a1), (1, .int 0), (2, .int 3)], [.int 0, .int a1], (px_shX, (px_mI Ic), (px_mJ Jc), (px_mP Pc)))) rfl ?_
      refine px_E_icT (t := 14) rfl rfl (show a1.toInt < (0 : Int) by omega) ?_
      refine px_E_seg 1 (σ' := (15, [(0, .int a1), (1, .int 0), (2, .int 3)], [.int 0], (px_shX, (px_mI Ic), (px_mJ Jc), (px_mP Pc)))) rfl ?_
      exact px_E_ret rfl rfl) ?_
    refine px_E_seg 2 (σ' := (22, [(0, .ref 95), (1, .int a1)], [.int 0], (px_shX, (px_mI Ic), (px_mJ Jc), (px_mP Pc)))) rfl ?_
    exact px_E_ret rfl rfl) ?_
  refine px_E_seg 2 (σ' := (19, [(0, .ref 95), (1, .int a1), (2, .int a2)], [.int (-1)], (px_shX, (px_mI Ic), (px_mJ Jc), (px_mP Pc)))) rfl ?_
  exact px_E_ret rfl rfl
set_option maxRecDepth 100000 in
set_option maxHeartbeats 4000000 in
theorem px_x23_1 {ro : px_RO} {dd : Nat} (a2 : Int32) (ha2 : (-2147483648) ≤ a2.toInt ∧ a2.toInt ≤ 2147483647) : px_CX ro (dd + 8) 130 [.ref 0, .int 0, .int a2] (.int (-1)) := by
  refine ⟨px_IX, px_PX, ?_, px_fr_0, px_frP_0⟩
  show px_E ro (dd + 8) 130 (0, _, [], _) _ _
  refine px_E_seg 3 (σ' := (5, [(0, .ref 0), (1, .int 0), (2, .int a2)], [.int 0, .ref 15], (px_shX, px_IX, px_JX, px_PX))) rfl ?_
  refine px_E_call (j := 80) (as := [.ref 15, .int 0]) (rest := []) (v := some (.int 0)) (h1 := (px_shX, px_IX, px_JX, px_PX)) rfl rfl rfl (by
    refine px_E_seg 6 (σ' := (10, [(0, .ref 15), (1, .int 0)], [.ref 15], (px_shX, px_IX, px_JX, px_PX))) rfl ?_
    refine px_E_seg 5 (σ' := (23, [(0, .ref 15), (1, .int 0)], [.int 0], (px_shX, px_IX, px_JX, px_PX))) rfl ?_
    exact px_E_ret rfl rfl) ?_
  refine px_E_seg 2 (σ' := (22, [(0, .ref 0), (1, .int 0), (2, .int a2)], [.int (-1)], (px_shX, px_IX, px_JX, px_PX))) rfl ?_
  exact px_E_ret rfl rfl
set_option maxRecDepth 100000 in
set_option maxHeartbeats 4000000 in
theorem px_r23_1 {ro : px_RO} {dd : Nat} (a2 : Int32) (ha2 : (-2147483648) ≤ a2.toInt ∧ a2.toInt ≤ 2147483647) : px_RX ro (dd + 8) 295 [.ref 95, .int 0, .int a2] (.int (-1)) := by
  intro Ic Jc Pc
  refine ⟨(px_shX, (px_mI Ic), (px_mJ Jc), (px_mP Pc)), ?_, rfl⟩
  show px_E ro (dd + 8) 295 (0, _, [], _) _ _
  refine px_E_seg 2 (σ' := (2, [(0, .ref 95), (1, .int 0), (2, .int a2)], [.int 0, .ref 95], (px_shX, (px_mI Ic), (px_mJ Jc), (px_mP Pc)))) rfl ?_
  refine px_E_call (j := 254) (as := [.ref 95, .int 0]) (rest := []) (v := some (.int 0)) (h1 := (px_shX, (px_mI Ic), (px_mJ Jc), (px_mP Pc))) rfl rfl rfl (by
    refine px_E_seg 3 (σ' := (3, [(0, .ref 95), (1, .int 0)], [.int 3, .int 0, .int 0], (px_shX, (px_mI Ic), (px_mJ Jc), (px_mP Pc)))) rfl ?_
    refine px_E_call (j := 183) (as := [.int 0, .int 0, .int 3]) (rest := []) (v := some (.int 1)) (h1 := (px_shX, (px_mI Ic), (px_mJ Jc), (px_mP Pc))) rfl rfl rfl (by
      refine px_E_seg 6 (σ' := (10, [(0, .int 0), (1, .int 0), (2, .int 3)], [], (px_shX, (px_mI Ic), (px_mJ Jc), (px_mP Pc)))) rfl ?_
      refine px_E_seg 2 (σ' := (15, [(0, .int 0), (1, .int 0), (2, .int 3)], [.int 1], (px_shX, (px_mI Ic), (px_mJ Jc), (px_mP Pc)))) rfl ?_
      exact px_E_ret rfl rfl) ?_
    refine px_E_seg 3 (σ' := (11, [(0, .ref 95), (1, .int 0)], [.int 0, .ref 95], (px_shX, (px_mI Ic), (px_mJ Jc), (px_mP Pc)))) rfl ?_
    refine px_E_call (j := 242) (as := [.ref 95, .int 0]) (rest := []) (v := some (.int 0)) (h1 := (px_shX, (px_mI Ic), (px_mJ Jc), (px_mP Pc))) rfl rfl rfl (by
      refine px_E_seg 5 (σ' := (8, [(0, .ref 95), (1, .int 0)], [.int 0, .int 3, .int 114, .ref 96], (px_shX, (px_mI Ic), (px_mJ Jc), (px_mP Pc)))) rfl ?_
      refine px_E_seg 1 (σ' := (9, [(0, .ref 95), (1, .int 0)], [.int 0, .int 114, .ref 96], (px_shX, (px_mI Ic), (px_mJ Jc), (px_mP Pc)))) rfl ?_
      refine px_E_seg 2 (σ' := (11, [(0, .ref 95), (1, .int 0)], [.int 0], (px_shX, (px_mI Ic), (px_mJ Jc), (px_mP Pc)))) rfl ?_
      exact px_E_ret rfl rfl) ?_
    refine px_E_seg 2 (σ' := (22, [(0, .ref 95), (1, .int 0)], [.int 0], (px_shX, (px_mI Ic), (px_mJ Jc), (px_mP Pc)))) rfl ?_
    exact px_E_ret rfl rfl) ?_
  refine px_E_seg 2 (σ' := (19, [(0, .ref 95), (1, .int 0), (2, .int a2)], [.int (-1)], (px_shX, (px_mI Ic), (px_mJ Jc), (px_mP Pc)))) rfl ?_
  exact px_E_ret rfl rfl
set_option maxRecDepth 100000 in
set_option maxHeartbeats 4000000 in
theorem px_x23_2 {ro : px_RO} {dd : Nat} (a2 : Int32) (ha2 : (-2147483648) ≤ a2.toInt ∧ a2.toInt ≤ 2147483647) : px_CX ro (dd + 8) 130 [.ref 0, .int 1, .int a2] (.int (-1)) := by
  refine ⟨px_IX, px_PX, ?_, px_fr_0, px_frP_0⟩
  show px_E ro (dd + 8) 130 (0, _, [], _) _ _
  refine px_E_seg 3 (σ' := (5, [(0, .ref 0), (1, .int 1), (2, .int a2)], [.int 1, .ref 15], (px_shX, px_IX, px_JX, px_PX))) rfl ?_
  refine px_E_call (j := 80) (as := [.ref 15, .int 1]) (rest := []) (v := some (.int 0)) (h1 := (px_shX, px_IX, px_JX, px_PX)) rfl rfl rfl (by
    refine px_E_seg 6 (σ' := (10, [(0, .ref 15), (1, .int 1)], [.ref 15], (px_shX, px_IX, px_JX, px_PX))) rfl ?_
    refine px_E_seg 5 (σ' := (23, [(0, .ref 15), (1, .int 1)], [.int 0], (px_shX, px_IX, px_JX, px_PX))) rfl ?_
    exact px_E_ret rfl rfl) ?_
  refine px_E_seg 2 (σ' := (22, [(0, .ref 0), (1, .int 1), (2, .int a2)], [.int (-1)], (px_shX, px_IX, px_JX, px_PX))) rfl ?_
  exact px_E_ret rfl rfl
set_option maxRecDepth 100000 in
set_option maxHeartbeats 4000000 in
theorem px_r23_2 {ro : px_RO} {dd : Nat} (a2 : Int32) (ha2 : (-2147483648) ≤ a2.toInt ∧ a2.toInt ≤ 2147483647) : px_RX ro (dd + 8) 295 [.ref 95, .int 1, .int a2] (.int (-1)) := by
  intro Ic Jc Pc
  refine ⟨(px_shX, (px_mI Ic), (px_mJ Jc), (px_mP Pc)), ?_, rfl⟩
  show px_E ro (dd + 8) 295 (0, _, [], _) _ _
  refine px_E_seg 2 (σ' := (2, [(0, .ref 95), (1, .int 1), (2, .int a2)], [.int 1, .ref 95], (px_shX, (px_mI Ic), (px_mJ Jc), (px_mP Pc)))) rfl ?_
  refine px_E_call (j := 254) (as := [.ref 95, .int 1]) (rest := []) (v := some (.int 0)) (h1 := (px_shX, (px_mI Ic), (px_mJ Jc), (px_mP Pc))) rfl rfl rfl (by
    refine px_E_seg 3 (σ' := (3, [(0, .ref 95), (1, .int 1)], [.int 3, .int 0, .int 1], (px_shX, (px_mI Ic), (px_mJ Jc), (px_mP Pc)))) rfl ?_
    refine px_E_call (j := 183) (as := [.int 1, .int 0, .int 3]) (rest := []) (v := some (.int 1)) (h1 := (px_shX, (px_mI Ic), (px_mJ Jc), (px_mP Pc))) rfl rfl rfl (by
      refine px_E_seg 6 (σ' := (10, [(0, .int 1), (1, .int 0), (2, .int 3)], [], (px_shX, (px_mI Ic), (px_mJ Jc), (px_mP Pc)))) rfl ?_
      refine px_E_seg 2 (σ' := (15, [(0, .int 1), (1, .int 0), (2, .int 3)], [.int 1], (px_shX, (px_mI Ic), (px_mJ Jc), (px_mP Pc)))) rfl ?_
      exact px_E_ret rfl rfl) ?_
    refine px_E_seg 3 (σ' := (11, [(0, .ref 95), (1, .int 1)], [.int 1, .ref 95], (px_shX, (px_mI Ic), (px_mJ Jc), (px_mP Pc)))) rfl ?_
    refine px_E_call (j := 242) (as := [.ref 95, .int 1]) (rest := []) (v := some (.int 0)) (h1 := (px_shX, (px_mI Ic), (px_mJ Jc), (px_mP Pc))) rfl rfl rfl (by
      refine px_E_seg 5 (σ' := (8, [(0, .ref 95), (1, .int 1)], [.int 1, .int 3, .int 114, .ref 96], (px_shX, (px_mI Ic), (px_mJ Jc), (px_mP Pc)))) rfl ?_
      refine px_E_seg 1 (σ' := (9, [(0, .ref 95), (1, .int 1)], [.int 3, .int 114, .ref 96], (px_shX, (px_mI Ic), (px_mJ Jc), (px_mP Pc)))) rfl ?_
      refine px_E_seg 2 (σ' := (11, [(0, .ref 95), (1, .int 1)], [.int 0], (px_shX, (px_mI Ic), (px_mJ Jc), (px_mP Pc)))) rfl ?_
      exact px_E_ret rfl rfl) ?_
    refine px_E_seg 2 (σ' := (22, [(0, .ref 95), (1, .int 1)], [.int 0], (px_shX, (px_mI Ic), (px_mJ Jc), (px_mP Pc)))) rfl ?_
    exact px_E_ret rfl rfl) ?_
  refine px_E_seg 2 (σ' := (19, [(0, .ref 95), (1, .int 1), (2, .int a2)], [.int (-1)], (px_shX, (px_mI Ic), (px_mJ Jc), (px_mP Pc)))) rfl ?_
  exact px_E_ret rfl rfl
set_option maxRecDepth 100000 in
set_option maxHeartbeats 4000000 in
theorem px_x23_3 {ro : px_RO} {dd : Nat} (a2 : Int32) (ha2 : (-2147483648) ≤ a2.toInt ∧ a2.toInt ≤ 2147483647) : px_CX ro (dd + 8) 130 [.ref 0, .int 2, .int a2] (.int (-1)) := by
  refine ⟨px_IX, px_PX, ?_, px_fr_0, px_frP_0⟩
  show px_E ro (dd + 8) 130 (0, _, [], _) _ _
  refine px_E_seg 3 (σ' := (5, [(0, .ref 0), (1, .int 2), (2, .int a2)], [.int 2, .ref 15], (px_shX, px_IX, px_JX, px_PX))) rfl ?_
  refine px_E_call (j := 80) (as := [.ref 15, .int 2]) (rest := []) (v := some (.int 0)) (h1 := (px_shX, px_IX, px_JX, px_PX)) rfl rfl rfl (by
    refine px_E_seg 6 (σ' := (10, [(0, .ref 15), (1, .int 2)], [.ref 15], (px_shX, px_IX, px_JX, px_PX))) rfl ?_
    refine px_E_seg 5 (σ' := (23, [(0, .ref 15), (1, .int 2)], [.int 0], (px_shX, px_IX, px_JX, px_PX))) rfl ?_
    exact px_E_ret rfl rfl) ?_
  refine px_E_seg 2 (σ' := (22, [(0, .ref 0), (1, .int 2), (2, .int a2)], [.int (-1)], (px_shX, px_IX, px_JX, px_PX))) rfl ?_
  exact px_E_ret rfl rfl
set_option maxRecDepth 100000 in
set_option maxHeartbeats 4000000 in
theorem px_r23_3 {ro : px_RO} {dd : Nat} (a2 : Int32) (ha2 : (-2147483648) ≤ a2.toInt ∧ a2.toInt ≤ 2147483647) : px_RX ro (dd + 8) 295 [.ref 95, .int 2, .int a2] (.int (-1)) := by
  intro Ic Jc Pc
  refine ⟨(px_shX, (px_mI Ic), (px_mJ Jc), (px_mP Pc)), ?_, rfl⟩
  show px_E ro (dd + 8) 295 (0, _, [], _) _ _
  refine px_E_seg 2 (σ' := (2, [(0, .ref 95), (1, .int 2), (2, .int a2)], [.int 2, .ref 95], (px_shX, (px_mI Ic), (px_mJ Jc), (px_mP Pc)))) rfl ?_
  refine px_E_call (j := 254) (as := [.ref 95, .int 2]) (rest := []) (v := some (.int 0)) (h1 := (px_shX, (px_mI Ic), (px_mJ Jc), (px_mP Pc))) rfl rfl rfl (by
    refine px_E_seg 3 (σ' := (3, [(0, .ref 95), (1, .int 2)], [.int 3, .int 0, .int 2], (px_shX, (px_mI Ic), (px_mJ Jc), (px_mP Pc)))) rfl ?_
    refine px_E_call (j := 183) (as := [.int 2, .int 0, .int 3]) (rest := []) (v := some (.int 1)) (h1 := (px_shX, (px_mI Ic), (px_mJ Jc), (px_mP Pc))) rfl rfl rfl (by
      refine px_E_seg 6 (σ' := (10, [(0, .int 2), (1, .int 0), (2, .int 3)], [], (px_shX, (px_mI Ic), (px_mJ Jc), (px_mP Pc)))) rfl ?_
      refine px_E_seg 2 (σ' := (15, [(0, .int 2), (1, .int 0), (2, .int 3)], [.int 1], (px_shX, (px_mI Ic), (px_mJ Jc), (px_mP Pc)))) rfl ?_
      exact px_E_ret rfl rfl) ?_
    refine px_E_seg 3 (σ' := (11, [(0, .ref 95), (1, .int 2)], [.int 2, .ref 95], (px_shX, (px_mI Ic), (px_mJ Jc), (px_mP Pc)))) rfl ?_
    refine px_E_call (j := 242) (as := [.ref 95, .int 2]) (rest := []) (v := some (.int 0)) (h1 := (px_shX, (px_mI Ic), (px_mJ Jc), (px_mP Pc))) rfl rfl rfl (by
      refine px_E_seg 5 (σ' := (8, [(0, .ref 95), (1, .int 2)], [.int 2, .int 3, .int 114, .ref 96], (px_shX, (px_mI Ic), (px_mJ Jc), (px_mP Pc)))) rfl ?_
      refine px_E_seg 1 (σ' := (9, [(0, .ref 95), (1, .int 2)], [.int 6, .int 114, .ref 96], (px_shX, (px_mI Ic), (px_mJ Jc), (px_mP Pc)))) rfl ?_
      refine px_E_seg 2 (σ' := (11, [(0, .ref 95), (1, .int 2)], [.int 0], (px_shX, (px_mI Ic), (px_mJ Jc), (px_mP Pc)))) rfl ?_
      exact px_E_ret rfl rfl) ?_
    refine px_E_seg 2 (σ' := (22, [(0, .ref 95), (1, .int 2)], [.int 0], (px_shX, (px_mI Ic), (px_mJ Jc), (px_mP Pc)))) rfl ?_
    exact px_E_ret rfl rfl) ?_
  refine px_E_seg 2 (σ' := (19, [(0, .ref 95), (1, .int 2), (2, .int a2)], [.int (-1)], (px_shX, (px_mI Ic), (px_mJ Jc), (px_mP Pc)))) rfl ?_
  exact px_E_ret rfl rfl
set_option maxRecDepth 100000 in
set_option maxHeartbeats 4000000 in
theorem px_x23_4 {ro : px_RO} {dd : Nat} (a2 : Int32) (ha2 : (-2147483648) ≤ a2.toInt ∧ a2.toInt ≤ 2147483647) : px_CX ro (dd + 8) 130 [.ref 0, .int 3, .int a2] (.int (-1)) := by
  refine ⟨px_IX, px_PX, ?_, px_fr_0, px_frP_0⟩
  show px_E ro (dd + 8) 130 (0, _, [], _) _ _
  refine px_E_seg 3 (σ' := (5, [(0, .ref 0), (1, .int 3), (2, .int a2)], [.int 3, .ref 15], (px_shX, px_IX, px_JX, px_PX))) rfl ?_
  refine px_E_call (j := 80) (as := [.ref 15, .int 3]) (rest := []) (v := some (.int 0)) (h1 := (px_shX, px_IX, px_JX, px_PX)) rfl rfl rfl (by
    refine px_E_seg 6 (σ' := (10, [(0, .ref 15), (1, .int 3)], [.ref 15], (px_shX, px_IX, px_JX, px_PX))) rfl ?_
    refine px_E_seg 5 (σ' := (23, [(0, .ref 15), (1, .int 3)], [.int 0], (px_shX, px_IX, px_JX, px_PX))) rfl ?_
    exact px_E_ret rfl rfl) ?_
  refine px_E_seg 2 (σ' := (22, [(0, .ref 0), (1, .int 3), (2, .int a2)], [.int (-1)], (px_shX, px_IX, px_JX, px_PX))) rfl ?_
  exact px_E_ret rfl rfl
set_option maxRecDepth 100000 in
set_option maxHeartbeats 4000000 in
theorem px_r23_4 {ro : px_RO} {dd : Nat} (a2 : Int32) (ha2 : (-2147483648) ≤ a2.toInt ∧ a2.toInt ≤ 2147483647) : px_RX ro (dd + 8) 295 [.ref 95, .int 3, .int a2] (.int (-1)) := by
  intro Ic Jc Pc
  refine ⟨(px_shX, (px_mI Ic), (px_mJ Jc), (px_mP Pc)), ?_, rfl⟩
  show px_E ro (dd + 8) 295 (0, _, [], _) _ _
  refine px_E_seg 2 (σ' := (2, [(0, .ref 95), (1, .int 3), (2, .int a2)], [.int 3, .ref 95], (px_shX, (px_mI Ic), (px_mJ Jc), (px_mP Pc)))) rfl ?_
  refine px_E_call (j := 254) (as := [.ref 95, .int 3]) (rest := []) (v := some (.int 0)) (h1 := (px_shX, (px_mI Ic), (px_mJ Jc), (px_mP Pc))) rfl rfl rfl (by
    refine px_E_seg 3 (σ' := (3, [(0, .ref 95), (1, .int 3)], [.int 3, .int 0, .int 3], (px_shX, (px_mI Ic), (px_mJ Jc), (px_mP Pc)))) rfl ?_
    refine px_E_call (j := 183) (as := [.int 3, .int 0, .int 3]) (rest := []) (v := some (.int 1)) (h1 := (px_shX, (px_mI Ic), (px_mJ Jc), (px_mP Pc))) rfl rfl rfl (by
      refine px_E_seg 6 (σ' := (10, [(0, .int 3), (1, .int 0), (2, .int 3)], [], (px_shX, (px_mI Ic), (px_mJ Jc), (px_mP Pc)))) rfl ?_
      refine px_E_seg 2 (σ' := (15, [(0, .int 3), (1, .int 0), (2, .int 3)], [.int 1], (px_shX, (px_mI Ic), (px_mJ Jc), (px_mP Pc)))) rfl ?_
      exact px_E_ret rfl rfl) ?_
    refine px_E_seg 3 (σ' := (11, [(0, .ref 95), (1, .int 3)], [.int 3, .ref 95], (px_shX, (px_mI Ic), (px_mJ Jc), (px_mP Pc)))) rfl ?_
    refine px_E_call (j := 242) (as := [.ref 95, .int 3]) (rest := []) (v := some (.int 0)) (h1 := (px_shX, (px_mI Ic), (px_mJ Jc), (px_mP Pc))) rfl rfl rfl (by
      refine px_E_seg 5 (σ' := (8, [(0, .ref 95), (1, .int 3)], [.int 3, .int 3, .int 114, .ref 96], (px_shX, (px_mI Ic), (px_mJ Jc), (px_mP Pc)))) rfl ?_
      refine px_E_seg 1 (σ' := (9, [(0, .ref 95), (1, .int 3)], [.int 9, .int 114, .ref 96], (px_shX, (px_mI Ic), (px_mJ Jc), (px_mP Pc)))) rfl ?_
      refine px_E_seg 2 (σ' := (11, [(0, .ref 95), (1, .int 3)], [.int 0], (px_shX, (px_mI Ic), (px_mJ Jc), (px_mP Pc)))) rfl ?_
      exact px_E_ret rfl rfl) ?_
    refine px_E_seg 2 (σ' := (22, [(0, .ref 95), (1, .int 3)], [.int 0], (px_shX, (px_mI Ic), (px_mJ Jc), (px_mP Pc)))) rfl ?_
    exact px_E_ret rfl rfl) ?_
  refine px_E_seg 2 (σ' := (19, [(0, .ref 95), (1, .int 3), (2, .int a2)], [.int (-1)], (px_shX, (px_mI Ic), (px_mJ Jc), (px_mP Pc)))) rfl ?_
  exact px_E_ret rfl rfl
set_option maxRecDepth 100000 in
set_option maxHeartbeats 4000000 in
theorem px_x23_5 {ro : px_RO} {dd : Nat} (a1 a2 : Int32) (ha1 : 4 ≤ a1.toInt ∧ a1.toInt ≤ 2147483647) (ha2 : (-2147483648) ≤ a2.toInt ∧ a2.toInt ≤ 2147483647) : px_CX ro (dd + 8) 130 [.ref 0, .int a1, .int a2] (.int (-1)) := by
  refine ⟨px_IX, px_PX, ?_, px_fr_0, px_frP_0⟩
  show px_E ro (dd + 8) 130 (0, _, [], _) _ _
  refine px_E_seg 3 (σ' := (5, [(0, .ref 0), (1, .int a1), (2, .int a2)], [.int a1, .ref 15], (px_shX, px_IX, px_JX, px_PX))) rfl ?_
  refine px_E_call (j := 80) (as := [.ref 15, .int a1]) (rest := []) (v := some (.int 0)) (h1 := (px_shX, px_IX, px_JX, px_PX)) rfl rfl rfl (by
    refine px_E_seg 1 (σ' := (1, [(0, .ref 15), (1, .int a1)], [.int a1], (px_shX, px_IX, px_JX, px_PX))) rfl ?_
    refine px_E_ifF (t := 22) rfl rfl (show (0 : Int) ≤ a1.toInt by omega) ?_
    refine px_E_seg 2 (σ' := (6, [(0, .ref 15), (1, .int a1)], [.int 4, .int a1], (px_shX, px_IX, px_JX, px_PX))) rfl ?_
    refine px_E_icT (t := 22) rfl rfl (show (4 : Int) ≤ a1.toInt by omega) ?_
    refine px_E_seg 1 (σ' := (23, [(0, .ref 15), (1, .int a1)], [.int 0], (px_shX, px_IX, px_JX, px_PX))) rfl ?_
    exact px_E_ret rfl rfl) ?_
  refine px_E_seg 2 (σ' := (22, [(0, .ref 0), (1, .int a1), (2, .int a2)], [.int (-1)], (px_shX, px_IX, px_JX, px_PX))) rfl ?_
  exact px_E_ret rfl rfl
set_option maxRecDepth 100000 in
set_option maxHeartbeats 4000000 in
theorem px_r23_5 {ro : px_RO} {dd : Nat} (a1 a2 : Int32) (ha1 : 4 ≤ a1.toInt ∧ a1.toInt ≤ 2147483647) (ha2 : (-2147483648) ≤ a2.toInt ∧ a2.toInt ≤ 2147483647) : px_RX ro (dd + 8) 295 [.ref 95, .int a1, .int a2] (.int (-1)) := by
  intro Ic Jc Pc
  refine ⟨(px_shX, (px_mI Ic), (px_mJ Jc), (px_mP Pc)), ?_, rfl⟩
  show px_E ro (dd + 8) 295 (0, _, [], _) _ _
  refine px_E_seg 2 (σ' := (2, [(0, .ref 95), (1, .int a1), (2, .int a2)], [.int a1, .ref 95], (px_shX, (px_mI Ic), (px_mJ Jc), (px_mP Pc)))) rfl ?_
  refine px_E_call (j := 254) (as := [.ref 95, .int a1]) (rest := []) (v := some (.int 0)) (h1 := (px_shX, (px_mI Ic), (px_mJ Jc), (px_mP Pc))) rfl rfl rfl (by
    refine px_E_seg 3 (σ' := (3, [(0, .ref 95), (1, .int a1)], [.int 3, .int 0, .int a1], (px_shX, (px_mI Ic), (px_mJ Jc), (px_mP Pc)))) rfl ?_
    refine px_E_call (j := 183) (as := [.int a1, .int 0, .int 3]) (rest := []) (v := some (.int 0)) (h1 := (px_shX, (px_mI Ic), (px_mJ Jc), (px_mP Pc))) rfl rfl rfl (by
      refine px_E_seg 2 (σ' := (2, [(0, .int a1), (1, .int 0), (2, .int 3)], [.int 0, .int a1], (px_shX, (px_mI Ic), (px_mJ Jc), (px_mP Pc)))) rfl ?_
      refine px_E_icF (t := 14) rfl rfl (show (0 : Int) ≤ a1.toInt by omega) ?_
      refine px_E_seg 2 (σ' := (7, [(0, .int a1), (1, .int 0), (2, .int 3)], [.int 3, .int a1], (px_shX, (px_mI Ic), (px_mJ Jc), (px_mP Pc)))) rfl ?_
      refine px_E_icT (t := 14) rfl rfl (show (3 : Int) < a1.toInt by omega) ?_
      refine px_E_seg 1 (σ' := (15, [(0, .int a1), (1, .int 0), (2, .int 3)], [.int 0], (px_shX, (px_mI Ic), (px_mJ Jc), (px_mP Pc)))) rfl ?_
      exact px_E_ret rfl rfl) ?_
    refine px_E_seg 2 (σ' := (22, [(0, .ref 95), (1, .int a1)], [.int 0], (px_shX, (px_mI Ic), (px_mJ Jc), (px_mP Pc)))) rfl ?_
    exact px_E_ret rfl rfl) ?_
  refine px_E_seg 2 (σ' := (19, [(0, .ref 95), (1, .int a1), (2, .int a2)], [.int (-1)], (px_shX, (px_mI Ic), (px_mJ Jc), (px_mP Pc)))) rfl ?_
  exact px_E_ret rfl rfl
set_option maxRecDepth 100000 in
set_option maxHeartbeats 4000000 in
theorem px_x24_0 {ro : px_RO} {dd : Nat} (a1 a2 : Int32) (ha1 : (-2147483648) ≤ a1.toInt ∧ a1.toInt ≤ (-1)) (ha2 : (-2147483648) ≤ a2.toInt ∧ a2.toInt ≤ 2147483647) : px_CX ro (dd + 8) 134 [.ref 0, .int a1, .int a2] (.int (-1)) := by
  refine ⟨px_IX, px_PX, ?_, px_fr_0, px_frP_0⟩
  show px_E ro (dd + 8) 134 (0, _, [], _) _ _
  refine px_E_seg 3 (σ' := (5, [(0, .ref 0), (1, .int a1), (2, .int a2)], [.int a1, .ref 1], (px_shX, px_IX, px_JX, px_PX))) rfl ?_
  refine px_E_call (j := 99) (as := [.ref 1, .int a1]) (rest := []) (v := some (.int 0)) (h1 := (px_shX, px_IX, px_JX, px_PX)) rfl rfl rfl (by
    refine px_E_seg 1 (σ' := (1, [(0, .ref 1), (1, .int a1)], [.int a1], (px_shX, px_IX, px_JX, px_PX))) rfl ?_
    refine px_E_ifT (t := 16) rfl rfl (show a1.toInt < (0 : Int) by omega) ?_
    refine px_E_seg 1 (σ' := (17, [(0, .ref 1), (1, .int a1)], [.int 0], (px_shX, px_IX, px_JX, px_PX))) rfl ?_
    exact px_E_ret rfl rfl) ?_
  refine px_E_seg 2 (σ' := (23, [(0, .ref 0), (1, .int a1), (2, .int a2)], [.int (-1)], (px_shX, px_IX, px_JX, px_PX))) rfl ?_
  exact px_E_ret rfl rfl
set_option maxRecDepth 100000 in
set_option maxHeartbeats 4000000 in
theorem px_r24_0 {ro : px_RO} {dd : Nat} (a1 a2 : Int32) (ha1 : (-2147483648) ≤ a1.toInt ∧ a1.toInt ≤ (-1)) (ha2 : (-2147483648) ≤ a2.toInt ∧ a2.toInt ≤ 2147483647) : px_RX ro (dd + 8) 298 [.ref 95, .int a1, .int a2] (.int (-1)) := by
  intro Ic Jc Pc
  refine ⟨(px_shX, (px_mI Ic), (px_mJ Jc), (px_mP Pc)), ?_, rfl⟩
  show px_E ro (dd + 8) 298 (0, _, [], _) _ _
  refine px_E_seg 2 (σ' := (2, [(0, .ref 95), (1, .int a1), (2, .int a2)], [.int a1, .ref 95], (px_shX, (px_mI Ic), (px_mJ Jc), (px_mP Pc)))) rfl ?_
  refine px_E_call (j := 249) (as := [.ref 95, .int a1]) (rest := []) (v := some (.int 0)) (h1 := (px_shX, (px_mI Ic), (px_mJ Jc), (px_mP Pc))) rfl rfl rfl (by
    refine px_E_seg 6 (σ' := (8, [(0, .ref 95), (1, .int a1)], [.int 0, .int 0, .int a1], (px_shX, (px_mI Ic), (px_mJ Jc), (px_mP Pc)))) rfl ?_
    refine px_E_seg 1 (σ' := (9, [(0, .ref 95), (1, .int a1)], [.int 1, .int 0, .int 0, .int a1], (px_shX, (px_mI Ic), (px_mJ Jc), (px_mP Pc)))) rfl ?_
    refine px_E_seg 1 (σ' := (10, [(0, .ref 95), (1, .int a1)], [.int (-1), .int 0, .int a1], (px_shX, (px_mI Ic), (px_mJ Jc), (px_mP Pc)))) rfl ?_
    refine px_E_call (j := 183) (as := [.int a1, .int 0, .int (-1)]) (rest := []) (v := some (.int 0)) (h1 := (px_shX, (px_mI Ic), (px_mJ Jc), (px_mP Pc))) rfl rfl rfl (by
      refine px_E_seg 2 (σ' := (2, [(0, .int a1), (1, .int 0), (2, .int (-1))], [.int 0, .int a1], (px_shX, (px_mI Ic), (px_mJ Jc), (px_mP Pc)))) rfl ?_
      refine px_E_icT (t := 14) rfl rfl (show a1.toInt < (0 : Int) by omega) ?_
      refine px_E_seg 1 (σ' := (15, [(0, .int a1), (1, .int 0), (2, .int (-1))], [.int 0], (px_shX, (px_mI Ic), (px_mJ Jc), (px_mP Pc)))) rfl ?_
      exact px_E_ret rfl rfl) ?_
    exact px_E_ret rfl rfl) ?_
  refine px_E_seg 2 (σ' := (17, [(0, .ref 95), (1, .int a1), (2, .int a2)], [.int (-1)], (px_shX, (px_mI Ic), (px_mJ Jc), (px_mP Pc)))) rfl ?_
  exact px_E_ret rfl rfl
set_option maxRecDepth 100000 in
set_option maxHeartbeats 4000000 in
theorem px_x24_1 {ro : px_RO} {dd : Nat} (a1 a2 : Int32) (ha1 : 0 ≤ a1.toInt ∧ a1.toInt ≤ 2147483647) (ha2 : (-2147483648) ≤ a2.toInt ∧ a2.toInt ≤ 2147483647) : px_CX ro (dd + 8) 134 [.ref 0, .int a1, .int a2] (.int (-1)) := by
  refine ⟨px_IX, px_PX, ?_, px_fr_0, px_frP_0⟩
  show px_E ro (dd + 8) 134 (0, _, [], _) _ _
  refine px_E_seg 3 (σ' := (5, [(0, .ref 0), (1, .int a1), (2, .int a2)], [.int a1, .ref 1], (px_shX, px_IX, px_JX, px_PX))) rfl ?_
  refine px_E_call (j := 99) (as := [.ref 1, .int a1]) (rest := []) (v := some (.int 0)) (h1 := (px_shX, px_IX, px_JX, px_PX)) rfl rfl rfl (by
    refine px_E_seg 1 (σ' := (1, [(0, .ref 1), (1, .int a1)], [.int a1], (px_shX, px_IX, px_JX, px_PX))) rfl ?_
    refine px_E_ifF (t := 16) rfl rfl (show (0 : Int) ≤ a1.toInt by omega) ?_
    refine px_E_seg 3 (σ' := (9, [(0, .ref 1), (1, .int a1)], [.int 0, .int a1], (px_shX, px_IX, px_JX, px_PX))) rfl ?_
    refine px_E_icT (t := 16) rfl rfl (show (0 : Int) ≤ a1.toInt by omega) ?_
    refine px_E_seg 1 (σ' := (17, [(0, .ref 1), (1, .int a1)], [.int 0], (px_shX, px_IX, px_JX, px_PX))) rfl ?_
    exact px_E_ret rfl rfl) ?_
  refine px_E_seg 2 (σ' := (23, [(0, .ref 0), (1, .int a1), (2, .int a2)], [.int (-1)], (px_shX, px_IX, px_JX, px_PX))) rfl ?_
  exact px_E_ret rfl rfl
set_option maxRecDepth 100000 in
set_option maxHeartbeats 4000000 in
theorem px_r24_1 {ro : px_RO} {dd : Nat} (a1 a2 : Int32) (ha1 : 0 ≤ a1.toInt ∧ a1.toInt ≤ 2147483647) (ha2 : (-2147483648) ≤ a2.toInt ∧ a2.toInt ≤ 2147483647) : px_RX ro (dd + 8) 298 [.ref 95, .int a1, .int a2] (.int (-1)) := by
  intro Ic Jc Pc
  refine ⟨(px_shX, (px_mI Ic), (px_mJ Jc), (px_mP Pc)), ?_, rfl⟩
  show px_E ro (dd + 8) 298 (0, _, [], _) _ _
  refine px_E_seg 2 (σ' := (2, [(0, .ref 95), (1, .int a1), (2, .int a2)], [.int a1, .ref 95], (px_shX, (px_mI Ic), (px_mJ Jc), (px_mP Pc)))) rfl ?_
  refine px_E_call (j := 249) (as := [.ref 95, .int a1]) (rest := []) (v := some (.int 0)) (h1 := (px_shX, (px_mI Ic), (px_mJ Jc), (px_mP Pc))) rfl rfl rfl (by
    refine px_E_seg 6 (σ' := (8, [(0, .ref 95), (1, .int a1)], [.int 0, .int 0, .int a1], (px_shX, (px_mI Ic), (px_mJ Jc), (px_mP Pc)))) rfl ?_
    refine px_E_seg 1 (σ' := (9, [(0, .ref 95), (1, .int a1)], [.int 1, .int 0, .int 0, .int a1], (px_shX, (px_mI Ic), (px_mJ Jc), (px_mP Pc)))) rfl ?_
    refine px_E_seg 1 (σ' := (10, [(0, .ref 95), (1, .int a1)], [.int (-1), .int 0, .int a1], (px_shX, (px_mI Ic), (px_mJ Jc), (px_mP Pc)))) rfl ?_
    refine px_E_call (j := 183) (as := [.int a1, .int 0, .int (-1)]) (rest := []) (v := some (.int 0)) (h1 := (px_shX, (px_mI Ic), (px_mJ Jc), (px_mP Pc))) rfl rfl rfl (by
      refine px_E_seg 2 (σ' := (2, [(0, .int a1), (1, .int 0), (2, .int (-1))], [.int 0, .int a1], (px_shX, (px_mI Ic), (px_mJ Jc), (px_mP Pc)))) rfl ?_
      refine px_E_icF (t := 14) rfl rfl (show (0 : Int) ≤ a1.toInt by omega) ?_
      refine px_E_seg 2 (σ' := (7, [(0, .int a1), (1, .int 0), (2, .int (-1))], [.int (-1), .int a1], (px_shX, (px_mI Ic), (px_mJ Jc), (px_mP Pc)))) rfl ?_
      refine px_E_icT (t := 14) rfl rfl (show (-1 : Int) < a1.toInt by omega) ?_
      refine px_E_seg 1 (σ' := (15, [(0, .int a1), (1, .int 0), (2, .int (-1))], [.int 0], (px_shX, (px_mI Ic), (px_mJ Jc), (px_mP Pc)))) rfl ?_
      exact px_E_ret rfl rfl) ?_
    exact px_E_ret rfl rfl) ?_
  refine px_E_seg 2 (σ' := (17, [(0, .ref 95), (1, .int a1), (2, .int a2)], [.int (-1)], (px_shX, (px_mI Ic), (px_mJ Jc), (px_mP Pc)))) rfl ?_
  exact px_E_ret rfl rfl
set_option maxRecDepth 100000 in
set_option maxHeartbeats 4000000 in
theorem px_x25_0 {ro : px_RO} {dd : Nat} (a1 a2 a3 : Int32) (ha1 : (-2147483648) ≤ a1.toInt ∧ a1.toInt ≤ (-1)) (ha2 : (-2147483648) ≤ a2.toInt ∧ a2.toInt ≤ 2147483647) (ha3 : (-2147483648) ≤ a3.toInt ∧ a3.toInt ≤ 2147483647) : px_CX ro (dd + 8) 136 [.ref 0, .int a1, .int a2, .int a3] (.int (-1)) := by
  refine ⟨px_IX, px_PX, ?_, px_fr_0, px_frP_0⟩
  show px_E ro (dd + 8) 136 (0, _, [], _) _ _
  refine px_E_seg 6 (σ' := (10, [(0, .ref 0), (1, .int a1), (2, .int a2), (3, .int a3)], [.int 0, .int 1, .int 0, .int a1], (px_shX, px_IX, px_JX, px_PX))) rfl ?_
  refine px_E_seg 2 (σ' := (12, [(0, .ref 0), (1, .int a1), (2, .int a2), (3, .int a3)], [.int 1, .int 1, .int 0, .int a1], (px_shX, px_IX, px_JX, px_PX))) rfl ?_
  refine px_E_seg 1 (σ' := (13, [(0, .ref 0), (1, .int a1), (2, .int a2), (3, .int a3)], [.int 0, .int 0, .int a1], (px_shX, px_IX, px_JX, px_PX))) rfl ?_
  refine px_E_call (j := 15) (as := [.int a1, .int 0, .int 0]) (rest := []) (v := some (.int 0)) (h1 := (px_shX, px_IX, px_JX, px_PX)) rfl rfl rfl (by
    refine px_E_seg 2 (σ' := (2, [(0, .int a1), (1, .int 0), (2, .int 0)], [.int 0, .int a1], (px_shX, px_IX, px_JX, px_PX))) rfl ?_
    refine px_E_icT (t := 14) rfl rfl (show a1.toInt < (0 : Int) by omega) ?_
    refine px_E_seg 1 (σ' := (15, [(0, .int a1), (1, .int 0), (2, .int 0)], [.int 0], (px_shX, px_IX, px_JX, px_PX))) rfl ?_
    exact px_E_ret rfl rfl) ?_
  refine px_E_seg 2 (σ' := (39, [(0, .ref 0), (1, .int a1), (2, .int a2), (3, .int a3)], [.int (-1)], (px_shX, px_IX, px_JX, px_PX))) rfl ?_
  exact px_E_ret rfl rfl
set_option maxRecDepth 100000 in
set_option maxHeartbeats 4000000 in
theorem px_r25_0 {ro : px_RO} {dd : Nat} (a1 a2 a3 : Int32) (ha1 : (-2147483648) ≤ a1.toInt ∧ a1.toInt ≤ (-1)) (ha2 : (-2147483648) ≤ a2.toInt ∧ a2.toInt ≤ 2147483647) (ha3 : (-2147483648) ≤ a3.toInt ∧ a3.toInt ≤ 2147483647) : px_RX ro (dd + 8) 300 [.ref 95, .int a1, .int a2, .int a3] (.int (-1)) := by
  intro Ic Jc Pc
  refine ⟨(px_shX, (px_mI Ic), (px_mJ Jc), (px_mP Pc)), ?_, rfl⟩
  show px_E ro (dd + 8) 300 (0, _, [], _) _ _
  refine px_E_seg 6 (σ' := (8, [(0, .ref 95), (1, .int a1), (2, .int a2), (3, .int a3)], [.int 2, .ref 96, .int 1, .int 1, .int a1], (px_shX, (px_mI Ic), (px_mJ Jc), (px_mP Pc)))) rfl ?_
  refine px_E_seg 1 (σ' := (9, [(0, .ref 95), (1, .int a1), (2, .int a2), (3, .int a3)], [.int 0, .int 1, .int 1, .int a1], (px_shX, (px_mI Ic), (px_mJ Jc), (px_mP Pc)))) rfl ?_
  refine px_E_seg 2 (σ' := (11, [(0, .ref 95), (1, .int a1), (2, .int a2), (3, .int a3)], [.int 1, .int 1, .int 1, .int a1], (px_shX, (px_mI Ic), (px_mJ Jc), (px_mP Pc)))) rfl ?_
  refine px_E_seg 1 (σ' := (12, [(0, .ref 95), (1, .int a1), (2, .int a2), (3, .int a3)], [.int 0, .int 1, .int a1], (px_shX, (px_mI Ic), (px_mJ Jc), (px_mP Pc)))) rfl ?_
  refine px_E_call (j := 183) (as := [.int a1, .int 1, .int 0]) (rest := []) (v := some (.int 0)) (h1 := (px_shX, (px_mI Ic), (px_mJ Jc), (px_mP Pc))) rfl rfl rfl (by
    refine px_E_seg 2 (σ' := (2, [(0, .int a1), (1, .int 1), (2, .int 0)], [.int 1, .int a1], (px_shX, (px_mI Ic), (px_mJ Jc), (px_mP Pc)))) rfl ?_
    refine px_E_icT (t := 14) rfl rfl (show a1.toInt < (1 : Int) by omega) ?_
    refine px_E_seg 1 (σ' := (15, [(0, .int a1), (1, .int 1), (2, .int 0)], [.int 0], (px_shX, (px_mI Ic), (px_mJ Jc), (px_mP Pc)))) rfl ?_
    exact px_E_ret rfl rfl) ?_
  refine px_E_seg 2 (σ' := (48, [(0, .ref 95), (1, .int a1), (2, .int a2), (3, .int a3)], [.int (-1)], (px_shX, (px_mI Ic), (px_mJ Jc), (px_mP Pc)))) rfl ?_
  exact px_E_ret rfl rfl
set_option maxRecDepth 100000 in
set_option maxHeartbeats 4000000 in
theorem px_x25_1 {ro : px_RO} {dd : Nat} (a2 a3 : Int32) (ha2 : (-2147483648) ≤ a2.toInt ∧ a2.toInt ≤ 0) (ha3 : (-2147483648) ≤ a3.toInt ∧ a3.toInt ≤ 2147483647) : px_CX ro (dd + 8) 136 [.ref 0, .int 0, .int a2, .int a3] (.int (-1)) := by
  refine ⟨px_IX, px_PX, ?_, px_fr_0, px_frP_0⟩
  show px_E ro (dd + 8) 136 (0, _, [], _) _ _
  refine px_E_seg 6 (σ' := (10, [(0, .ref 0), (1, .int 0), (2, .int a2), (3, .int a3)], [.int 0, .int 1, .int 0, .int 0], (px_shX, px_IX, px_JX, px_PX))) rfl ?_
  refine px_E_seg 2 (σ' := (12, [(0, .ref 0), (1, .int 0), (2, .int a2), (3, .int a3)], [.int 1, .int 1, .int 0, .int 0], (px_shX, px_IX, px_JX, px_PX))) rfl ?_
  refine px_E_seg 1 (σ' := (13, [(0, .ref 0), (1, .int 0), (2, .int a2), (3, .int a3)], [.int 0, .int 0, .int 0], (px_shX, px_IX, px_JX, px_PX))) rfl ?_
  refine px_E_call (j := 15) (as := [.int 0, .int 0, .int 0]) (rest := []) (v := some (.int 1)) (h1 := (px_shX, px_IX, px_JX, px_PX)) rfl rfl rfl (by
    refine px_E_seg 6 (σ' := (10, [(0, .int 0), (1, .int 0), (2, .int 0)], [], (px_shX, px_IX, px_JX, px_PX))) rfl ?_
    refine px_E_seg 2 (σ' := (15, [(0, .int 0), (1, .int 0), (2, .int 0)], [.int 1], (px_shX, px_IX, px_JX, px_PX))) rfl ?_
    exact px_E_ret rfl rfl) ?_
  refine px_E_seg 6 (σ' := (26, [(0, .ref 0), (1, .int 0), (2, .int a2), (3, .int a3)], [.ref 1, .int 1, .int 1, .int a2], (px_shX, px_IX, px_JX, px_PX))) rfl ?_
  refine px_E_seg 1 (σ' := (29, [(0, .ref 0), (1, .int 0), (2, .int a2), (3, .int a3)], [.int 0, .int 1, .int 1, .int a2], (px_shX, px_IX, px_JX, px_PX))) rfl ?_
  refine px_E_seg 2 (σ' := (31, [(0, .ref 0), (1, .int 0), (2, .int a2), (3, .int a3)], [.int 1, .int 1, .int 1, .int a2], (px_shX, px_IX, px_JX, px_PX))) rfl ?_
  refine px_E_seg 1 (σ' := (32, [(0, .ref 0), (1, .int 0), (2, .int a2), (3, .int a3)], [.int 0, .int 1, .int a2], (px_shX, px_IX, px_JX, px_PX))) rfl ?_
  refine px_E_call (j := 15) (as := [.int a2, .int 1, .int 0]) (rest := []) (v := some (.int 0)) (h1 := (px_shX, px_IX, px_JX, px_PX)) rfl rfl rfl (by
    refine px_E_seg 2 (σ' := (2, [(0, .int a2), (1, .int 1), (2, .int 0)], [.int 1, .int a2], (px_shX, px_IX, px_JX, px_PX))) rfl ?_
    refine px_E_icT (t := 14) rfl rfl (show a2.toInt < (1 : Int) by omega) ?_
    refine px_E_seg 1 (σ' := (15, [(0, .int a2), (1, .int 1), (2, .int 0)], [.int 0], (px_shX, px_IX, px_JX, px_PX))) rfl ?_
    exact px_E_ret rfl rfl) ?_
  refine px_E_seg 2 (σ' := (39, [(0, .ref 0), (1, .int 0), (2, .int a2), (3, .int a3)], [.int (-1)], (px_shX, px_IX, px_JX, px_PX))) rfl ?_
  exact px_E_ret rfl rfl
set_option maxRecDepth 100000 in
set_option maxHeartbeats 4000000 in
theorem px_r25_1 {ro : px_RO} {dd : Nat} (a2 a3 : Int32) (ha2 : (-2147483648) ≤ a2.toInt ∧ a2.toInt ≤ 0) (ha3 : (-2147483648) ≤ a3.toInt ∧ a3.toInt ≤ 2147483647) : px_RX ro (dd + 8) 300 [.ref 95, .int 0, .int a2, .int a3] (.int (-1)) := by
  intro Ic Jc Pc
  refine ⟨(px_shX, (px_mI Ic), (px_mJ Jc), (px_mP Pc)), ?_, rfl⟩
  show px_E ro (dd + 8) 300 (0, _, [], _) _ _
  refine px_E_seg 6 (σ' := (8, [(0, .ref 95), (1, .int 0), (2, .int a2), (3, .int a3)], [.int 2, .ref 96, .int 1, .int 1, .int 0], (px_shX, (px_mI Ic), (px_mJ Jc), (px_mP Pc)))) rfl ?_
  refine px_E_seg 1 (σ' := (9, [(0, .ref 95), (1, .int 0), (2, .int a2), (3, .int a3)], [.int 0, .int 1, .int 1, .int 0], (px_shX, (px_mI Ic), (px_mJ Jc), (px_mP Pc)))) rfl ?_
  refine px_E_seg 2 (σ' := (11, [(0, .ref 95), (1, .int 0), (2, .int a2), (3, .int a3)], [.int 1, .int 1, .int 1, .int 0], (px_shX, (px_mI Ic), (px_mJ Jc), (px_mP Pc)))) rfl ?_
  refine px_E_seg 1 (σ' := (12, [(0, .ref 95), (1, .int 0), (2, .int a2), (3, .int a3)], [.int 0, .int 1, .int 0], (px_shX, (px_mI Ic), (px_mJ Jc), (px_mP Pc)))) rfl ?_
  refine px_E_call (j := 183) (as := [.int 0, .int 1, .int 0]) (rest := []) (v := some (.int 0)) (h1 := (px_shX, (px_mI Ic), (px_mJ Jc), (px_mP Pc))) rfl rfl rfl (by
    refine px_E_seg 4 (σ' := (15, [(0, .int 0), (1, .int 1), (2, .int 0)], [.int 0], (px_shX, (px_mI Ic), (px_mJ Jc), (px_mP Pc)))) rfl ?_
    exact px_E_ret rfl rfl) ?_
  refine px_E_seg 2 (σ' := (48, [(0, .ref 95), (1, .int 0), (2, .int a2), (3, .int a3)], [.int (-1)], (px_shX, (px_mI Ic), (px_mJ Jc), (px_mP Pc)))) rfl ?_
  exact px_E_ret rfl rfl
set_option maxRecDepth 100000 in
set_option maxHeartbeats 4000000 in
theorem px_x25_2 {ro : px_RO} {dd : Nat} (a2 a3 : Int32) (ha2 : 1 ≤ a2.toInt ∧ a2.toInt ≤ 2147483647) (ha3 : (-2147483648) ≤ a3.toInt ∧ a3.toInt ≤ 2147483647) : px_CX ro (dd + 8) 136 [.ref 0, .int 0, .int a2, .int a3] (.int (-1)) := by
  refine ⟨px_IX, px_PX, ?_, px_fr_0, px_frP_0⟩
  show px_E ro (dd + 8) 136 (0, _, [], _) _ _
  refine px_E_seg 6 (σ' := (10, [(0, .ref 0), (1, .int 0), (2, .int a2), (3, .int a3)], [.int 0, .int 1, .int 0, .int 0], (px_shX, px_IX, px_JX, px_PX))) rfl ?_
  refine px_E_seg 2 (σ' := (12, [(0, .ref 0), (1, .int 0), (2, .int a2), (3, .int a3)], [.int 1, .int 1, .int 0, .int 0], (px_shX, px_IX, px_JX, px_PX))) rfl ?_
  refine px_E_seg 1 (σ' := (13, [(0, .ref 0), (1, .int 0), (2, .int a2), (3, .int a3)], [.int 0, .int 0, .int 0], (px_shX, px_IX, px_JX, px_PX))) rfl ?_
  refine px_E_call (j := 15) (as := [.int 0, .int 0, .int 0]) (rest := []) (v := some (.int 1)) (h1 := (px_shX, px_IX, px_JX, px_PX)) rfl rfl rfl (by
    refine px_E_seg 6 (σ' := (10, [(0, .int 0), (1, .int 0), (2, .int 0)], [], (px_shX, px_IX, px_JX, px_PX))) rfl ?_
    refine px_E_seg 2 (σ' := (15, [(0, .int 0), (1, .int 0), (2, .int 0)], [.int 1], (px_shX, px_IX, px_JX, px_PX))) rfl ?_
    exact px_E_ret rfl rfl) ?_
  refine px_E_seg 6 (σ' := (26, [(0, .ref 0), (1, .int 0), (2, .int a2), (3, .int a3)], [.ref 1, .int 1, .int 1, .int a2], (px_shX, px_IX, px_JX, px_PX))) rfl ?_
  refine px_E_seg 1 (σ' := (29, [(0, .ref 0), (1, .int 0), (2, .int a2), (3, .int a3)], [.int 0, .int 1, .int 1, .int a2], (px_shX, px_IX, px_JX, px_PX))) rfl ?_
  refine px_E_seg 2 (σ' := (31, [(0, .ref 0), (1, .int 0), (2, .int a2), (3, .int a3)], [.int 1, .int 1, .int 1, .int a2], (px_shX, px_IX, px_JX, px_PX))) rfl ?_
  refine px_E_seg 1 (σ' := (32, [(0, .ref 0), (1, .int 0), (2, .int a2), (3, .int a3)], [.int 0, .int 1, .int a2], (px_shX, px_IX, px_JX, px_PX))) rfl ?_
  refine px_E_call (j := 15) (as := [.int a2, .int 1, .int 0]) (rest := []) (v := some (.int 0)) (h1 := (px_shX, px_IX, px_JX, px_PX)) rfl rfl rfl (by
    refine px_E_seg 2 (σ' := (2, [(0, .int a2), (1, .int 1), (2, .int 0)], [.int 1, .int a2], (px_shX, px_IX, px_JX, px_PX))) rfl ?_
    refine px_E_icF (t := 14) rfl rfl (show (1 : Int) ≤ a2.toInt by omega) ?_
    refine px_E_seg 2 (σ' := (7, [(0, .int a2), (1, .int 1), (2, .int 0)], [.int 0, .int a2], (px_shX, px_IX, px_JX, px_PX))) rfl ?_
    refine px_E_icT (t := 14) rfl rfl (show (0 : Int) < a2.toInt by omega) ?_
    refine px_E_seg 1 (σ' := (15, [(0, .int a2), (1, .int 1), (2, .int 0)], [.int 0], (px_shX, px_IX, px_JX, px_PX))) rfl ?_
    exact px_E_ret rfl rfl) ?_
  refine px_E_seg 2 (σ' := (39, [(0, .ref 0), (1, .int 0), (2, .int a2), (3, .int a3)], [.int (-1)], (px_shX, px_IX, px_JX, px_PX))) rfl ?_
  exact px_E_ret rfl rfl
set_option maxRecDepth 100000 in
set_option maxHeartbeats 4000000 in
theorem px_r25_2 {ro : px_RO} {dd : Nat} (a2 a3 : Int32) (ha2 : 1 ≤ a2.toInt ∧ a2.toInt ≤ 2147483647) (ha3 : (-2147483648) ≤ a3.toInt ∧ a3.toInt ≤ 2147483647) : px_RX ro (dd + 8) 300 [.ref 95, .int 0, .int a2, .int a3] (.int (-1)) := by
  intro Ic Jc Pc
  refine ⟨(px_shX, (px_mI Ic), (px_mJ Jc), (px_mP Pc)), ?_, rfl⟩
  show px_E ro (dd + 8) 300 (0, _, [], _) _ _
  refine px_E_seg 6 (σ' := (8, [(0, .ref 95), (1, .int 0), (2, .int a2), (3, .int a3)], [.int 2, .ref 96, .int 1, .int 1, .int 0], (px_shX, (px_mI Ic), (px_mJ Jc), (px_mP Pc)))) rfl ?_
  refine px_E_seg 1 (σ' := (9, [(0, .ref 95), (1, .int 0), (2, .int a2), (3, .int a3)], [.int 0, .int 1, .int 1, .int 0], (px_shX, (px_mI Ic), (px_mJ Jc), (px_mP Pc)))) rfl ?_
  refine px_E_seg 2 (σ' := (11, [(0, .ref 95), (1, .int 0), (2, .int a2), (3, .int a3)], [.int 1, .int 1, .int 1, .int 0], (px_shX, (px_mI Ic), (px_mJ Jc), (px_mP Pc)))) rfl ?_
  refine px_E_seg 1 (σ' := (12, [(0, .ref 95), (1, .int 0), (2, .int a2), (3, .int a3)], [.int 0, .int 1, .int 0], (px_shX, (px_mI Ic), (px_mJ Jc), (px_mP Pc)))) rfl ?_
  refine px_E_call (j := 183) (as := [.int 0, .int 1, .int 0]) (rest := []) (v := some (.int 0)) (h1 := (px_shX, (px_mI Ic), (px_mJ Jc), (px_mP Pc))) rfl rfl rfl (by
    refine px_E_seg 4 (σ' := (15, [(0, .int 0), (1, .int 1), (2, .int 0)], [.int 0], (px_shX, (px_mI Ic), (px_mJ Jc), (px_mP Pc)))) rfl ?_
    exact px_E_ret rfl rfl) ?_
  refine px_E_seg 2 (σ' := (48, [(0, .ref 95), (1, .int 0), (2, .int a2), (3, .int a3)], [.int (-1)], (px_shX, (px_mI Ic), (px_mJ Jc), (px_mP Pc)))) rfl ?_
  exact px_E_ret rfl rfl
set_option maxRecDepth 100000 in
set_option maxHeartbeats 4000000 in
theorem px_x25_3 {ro : px_RO} {dd : Nat} (a1 a2 a3 : Int32) (ha1 : 1 ≤ a1.toInt ∧ a1.toInt ≤ 2147483647) (ha2 : (-2147483648) ≤ a2.toInt ∧ a2.toInt ≤ 2147483647) (ha3 : (-2147483648) ≤ a3.toInt ∧ a3.toInt ≤ 2147483647) : px_CX ro (dd + 8) 136 [.ref 0, .int a1, .int a2, .int a3] (.int (-1)) := by
  refine ⟨px_IX, px_PX, ?_, px_fr_0, px_frP_0⟩
  show px_E ro (dd + 8) 136 (0, _, [], _) _ _
  refine px_E_seg 6 (σ' := (10, [(0, .ref 0), (1, .int a1), (2, .int a2), (3, .int a3)], [.int 0, .int 1, .int 0, .int a1], (px_shX, px_IX, px_JX, px_PX))) rfl ?_
  refine px_E_seg 2 (σ' := (12, [(0, .ref 0), (1, .int a1), (2, .int a2), (3, .int a3)], [.int 1, .int 1, .int 0, .int a1], (px_shX, px_IX, px_JX, px_PX))) rfl ?_
  refine px_E_seg 1 (σ' := (13, [(0, .ref 0), (1, .int a1), (2, .int a2), (3, .int a3)], [.int 0, .int 0, .int a1], (px_shX, px_IX, px_JX, px_PX))) rfl ?_
  refine px_E_call (j := 15) (as := [.int a1, .int 0, .int 0]) (rest := []) (v := some (.int 0)) (h1 := (px_shX, px_IX, px_JX, px_PX)) rfl rfl rfl (by
    refine px_E_seg 2 (σ' := (2, [(0, .int a1), (1, .int 0), (2, .int 0)], [.int 0, .int a1], (px_shX, px_IX, px_JX, px_PX))) rfl ?_
    refine px_E_icF (t := 14) rfl rfl (show (0 : Int) ≤ a1.toInt by omega) ?_
    refine px_E_seg 2 (σ' := (7, [(0, .int a1), (1, .int 0), (2, .int 0)], [.int 0, .int a1], (px_shX, px_IX, px_JX, px_PX))) rfl ?_
    refine px_E_icT (t := 14) rfl rfl (show (0 : Int) < a1.toInt by omega) ?_
    refine px_E_seg 1 (σ' := (15, [(0, .int a1), (1, .int 0), (2, .int 0)], [.int 0], (px_shX, px_IX, px_JX, px_PX))) rfl ?_
    exact px_E_ret rfl rfl) ?_
  refine px_E_seg 2 (σ' := (39, [(0, .ref 0), (1, .int a1), (2, .int a2), (3, .int a3)], [.int (-1)], (px_shX, px_IX, px_JX, px_PX))) rfl ?_
  exact px_E_ret rfl rfl
set_option maxRecDepth 100000 in
set_option maxHeartbeats 4000000 in
theorem px_r25_3 {ro : px_RO} {dd : Nat} (a1 a2 a3 : Int32) (ha1 : 1 ≤ a1.toInt ∧ a1.toInt ≤ 2147483647) (ha2 : (-2147483648) ≤ a2.toInt ∧ a2.toInt ≤ 2147483647) (ha3 : (-2147483648) ≤ a3.toInt ∧ a3.toInt ≤ 2147483647) : px_RX ro (dd + 8) 300 [.ref 95, .int a1, .int a2, .int a3] (.int (-1)) := by
  intro Ic Jc Pc
  refine ⟨(px_shX, (px_mI Ic), (px_mJ Jc), (px_mP Pc)), ?_, rfl⟩
  show px_E ro (dd + 8) 300 (0, _, [], _) _ _
  refine px_E_seg 6 (σ' := (8, [(0, .ref 95), (1, .int a1), (2, .int a2), (3, .int a3)], [.int 2, .ref 96, .int 1, .int 1, .int a1], (px_shX, (px_mI Ic), (px_mJ Jc), (px_mP Pc)))) rfl ?_
  refine px_E_seg 1 (σ' := (9, [(0, .ref 95), (1, .int a1), (2, .int a2), (3, .int a3)], [.int 0, .int 1, .int 1, .int a1], (px_shX, (px_mI Ic), (px_mJ Jc), (px_mP Pc)))) rfl ?_
  refine px_E_seg 2 (σ' := (11, [(0, .ref 95), (1, .int a1), (2, .int a2), (3, .int a3)], [.int 1, .int 1, .int 1, .int a1], (px_shX, (px_mI Ic), (px_mJ Jc), (px_mP Pc)))) rfl ?_
  refine px_E_seg 1 (σ' := (12, [(0, .ref 95), (1, .int a1), (2, .int a2), (3, .int a3)], [.int 0, .int 1, .int a1], (px_shX, (px_mI Ic), (px_mJ Jc), (px_mP Pc)))) rfl ?_
  refine px_E_call (j := 183) (as := [.int a1, .int 1, .int 0]) (rest := []) (v := some (.int 0)) (h1 := (px_shX, (px_mI Ic), (px_mJ Jc), (px_mP Pc))) rfl rfl rfl (by
    refine px_E_seg 2 (σ' := (2, [(0, .int a1), (1, .int 1), (2, .int 0)], [.int 1, .int a1], (px_shX, (px_mI Ic), (px_mJ Jc), (px_mP Pc)))) rfl ?_
    refine px_E_icF (t := 14) rfl rfl (show (1 : Int) ≤ a1.toInt by omega) ?_
    refine px_E_seg 2 (σ' := (7, [(0, .int a1), (1, .int 1), (2, .int 0)], [.int 0, .int a1], (px_shX, (px_mI Ic), (px_mJ Jc), (px_mP Pc)))) rfl ?_
    refine px_E_icT (t := 14) rfl rfl (show (0 : Int) < a1.toInt by omega) ?_
    refine px_E_seg 1 (σ' := (15, [(0, .int a1), (1, .int 1), (2, .int 0)], [.int 0], (px_shX, (px_mI Ic), (px_mJ Jc), (px_mP Pc)))) rfl ?_
    exact px_E_ret rfl rfl) ?_
  refine px_E_seg 2 (σ' := (48, [(0, .ref 95), (1, .int a1), (2, .int a2), (3, .int a3)], [.int (-1)], (px_shX, (px_mI Ic), (px_mJ Jc), (px_mP Pc)))) rfl ?_
  exact px_E_ret rfl rfl
set_option maxRecDepth 100000 in
set_option maxHeartbeats 4000000 in
theorem px_x26_0 {ro : px_RO} {dd : Nat} (a1 : Int32) (ha1 : (-2147483648) ≤ a1.toInt ∧ a1.toInt ≤ (-1)) : px_CX ro (dd + 8) 142 [.ref 0, .int a1] (.int (-1)) := by
  refine ⟨px_IX, px_PX, ?_, px_fr_0, px_frP_0⟩
  show px_E ro (dd + 8) 142 (0, _, [], _) _ _
  refine px_E_seg 3 (σ' := (5, [(0, .ref 0), (1, .int a1)], [.int a1, .ref 15], (px_shX, px_IX, px_JX, px_PX))) rfl ?_
  refine px_E_call (j := 80) (as := [.ref 15, .int a1]) (rest := []) (v := some (.int 0)) (h1 := (px_shX, px_IX, px_JX, px_PX)) rfl rfl rfl (by
    refine px_E_seg 1 (σ' := (1, [(0, .ref 15), (1, .int a1)], [.int a1], (px_shX, px_IX, px_JX, px_PX))) rfl ?_
    refine px_E_ifT (t := 22) rfl rfl (show a1.toInt < (0 : Int) by omega) ?_
    refine px_E_seg 1 (σ' := (23, [(0, .ref 15), (1, .int a1)], [.int 0], (px_shX, px_IX, px_JX, px_PX))) rfl ?_
    exact px_E_ret rfl rfl) ?_
  refine px_E_seg 2 (σ' := (23, [(0, .ref 0), (1, .int a1)], [.int (-1)], (px_shX, px_IX, px_JX, px_PX))) rfl ?_
  exact px_E_ret rfl rfl
set_option maxRecDepth 100000 in
set_option maxHeartbeats 4000000 in
theorem px_r26_0 {ro : px_RO} {dd : Nat} (a1 : Int32) (ha1 : (-2147483648) ≤ a1.toInt ∧ a1.toInt ≤ (-1)) : px_RX ro (dd + 8) 297 [.ref 95, .int a1] (.int (-1)) := by
  intro Ic Jc Pc
  refine ⟨(px_shX, (px_mI Ic), (px_mJ Jc), (px_mP Pc)), ?_, rfl⟩
  show px_E ro (dd + 8) 297 (0, _, [], _) _ _
  refine px_E_seg 2 (σ' := (2, [(0, .ref 95), (1, .int a1)], [.int a1, .ref 95], (px_shX, (px_mI Ic), (px_mJ Jc), (px_mP Pc)))) rfl ?_
  refine px_E_call (j := 254) (as := [.ref 95, .int a1]) (rest := []) (v := some (.int 0)) (h1 := (px_shX, (px_mI Ic), (px_mJ Jc), (px_mP Pc))) rfl rfl rfl (by
    refine px_E_seg 3 (σ' := (3, [(0, .ref 95), (1, .int a1)], [.int 3, .int 0, .int a1], (px_shX, (px_mI Ic), (px_mJ Jc), (px_mP Pc)))) rfl ?_
    refine px_E_call (j := 183) (as := [.int a1, .int 0, .int 3]) (rest := []) (v := some (.int 0)) (h1 := (px_shX, (px_mI Ic), (px_mJ Jc), (px_mP Pc))) rfl rfl rfl (by
      refine px_E_seg 2 (σ' := (2, [(0, .int a1), (1, .int 0), (2, .int 3)], [.int 0, .int a1], (px_shX, (px_mI Ic), (px_mJ Jc), (px_mP Pc)))) rfl ?_
      refine px_E_icT (t := 14) rfl rfl (show a1.toInt < (0 : Int) by omega) ?_
      refine px_E_seg 1 (σ' := (15, [(0, .int a1), (1, .int 0), (2, .int 3)], [.int 0], (px_shX, (px_mI Ic), (px_mJ Jc), (px_mP Pc)))) rfl ?_
      exact px_E_ret rfl rfl) ?_
    refine px_E_seg 2 (σ' := (22, [(0, .ref 95), (1, .int a1)], [.int 0], (px_shX, (px_mI Ic), (px_mJ Jc), (px_mP Pc)))) rfl ?_
    exact px_E_ret rfl rfl) ?_
  refine px_E_seg 2 (σ' := (9, [(0, .ref 95), (1, .int a1)], [.int (-1)], (px_shX, (px_mI Ic), (px_mJ Jc), (px_mP Pc)))) rfl ?_
  exact px_E_ret rfl rfl
set_option maxRecDepth 100000 in
set_option maxHeartbeats 4000000 in
theorem px_x26_1 {ro : px_RO} {dd : Nat}  : px_CX ro (dd + 8) 142 [.ref 0, .int 0] (.int (-1)) := by
  refine ⟨px_IX, px_PX, ?_, px_fr_0, px_frP_0⟩
  show px_E ro (dd + 8) 142 (0, _, [], _) _ _
  refine px_E_seg 3 (σ' := (5, [(0, .ref 0), (1, .int 0)], [.int 0, .ref 15], (px_shX, px_IX, px_JX, px_PX))) rfl ?_
  refine px_E_call (j := 80) (as := [.ref 15, .int 0]) (rest := []) (v := some (.int 0)) (h1 := (px_shX, px_IX, px_JX, px_PX)) rfl rfl rfl (by
    refine px_E_seg 6 (σ' := (10, [(0, .ref 15), (1, .int 0)], [.ref 15], (px_shX, px_IX, px_JX, px_PX))) rfl ?_
    refine px_E_seg 5 (σ' := (23, [(0, .ref 15), (1, .int 0)], [.int 0], (px_shX, px_IX, px_JX, px_PX))) rfl ?_
    exact px_E_ret rfl rfl) ?_
  refine px_E_seg 2 (σ' := (23, [(0, .ref 0), (1, .int 0)], [.int (-1)], (px_shX, px_IX, px_JX, px_PX))) rfl ?_
  exact px_E_ret rfl rfl
set_option maxRecDepth 100000 in
set_option maxHeartbeats 4000000 in
theorem px_r26_1 {ro : px_RO} {dd : Nat}  : px_RX ro (dd + 8) 297 [.ref 95, .int 0] (.int (-1)) := by
  intro Ic Jc Pc
  refine ⟨(px_shX, (px_mI Ic), (px_mJ Jc), (px_mP Pc)), ?_, rfl⟩
  show px_E ro (dd + 8) 297 (0, _, [], _) _ _
  refine px_E_seg 2 (σ' := (2, [(0, .ref 95), (1, .int 0)], [.int 0, .ref 95], (px_shX, (px_mI Ic), (px_mJ Jc), (px_mP Pc)))) rfl ?_
  refine px_E_call (j := 254) (as := [.ref 95, .int 0]) (rest := []) (v := some (.int 0)) (h1 := (px_shX, (px_mI Ic), (px_mJ Jc), (px_mP Pc))) rfl rfl rfl (by
    refine px_E_seg 3 (σ' := (3, [(0, .ref 95), (1, .int 0)], [.int 3, .int 0, .int 0], (px_shX, (px_mI Ic), (px_mJ Jc), (px_mP Pc)))) rfl ?_
    refine px_E_call (j := 183) (as := [.int 0, .int 0, .int 3]) (rest := []) (v := some (.int 1)) (h1 := (px_shX, (px_mI Ic), (px_mJ Jc), (px_mP Pc))) rfl rfl rfl (by
      refine px_E_seg 6 (σ' := (10, [(0, .int 0), (1, .int 0), (2, .int 3)], [], (px_shX, (px_mI Ic), (px_mJ Jc), (px_mP Pc)))) rfl ?_
      refine px_E_seg 2 (σ' := (15, [(0, .int 0), (1, .int 0), (2, .int 3)], [.int 1], (px_shX, (px_mI Ic), (px_mJ Jc), (px_mP Pc)))) rfl ?_
      exact px_E_ret rfl rfl) ?_
    refine px_E_seg 3 (σ' := (11, [(0, .ref 95), (1, .int 0)], [.int 0, .ref 95], (px_shX, (px_mI Ic), (px_mJ Jc), (px_mP Pc)))) rfl ?_
    refine px_E_call (j := 242) (as := [.ref 95, .int 0]) (rest := []) (v := some (.int 0)) (h1 := (px_shX, (px_mI Ic), (px_mJ Jc), (px_mP Pc))) rfl rfl rfl (by
      refine px_E_seg 5 (σ' := (8, [(0, .ref 95), (1, .int 0)], [.int 0, .int 3, .int 114, .ref 96], (px_shX, (px_mI Ic), (px_mJ Jc), (px_mP Pc)))) rfl ?_
      refine px_E_seg 1 (σ' := (9, [(0, .ref 95), (1, .int 0)], [.int 0, .int 114, .ref 96], (px_shX, (px_mI Ic), (px_mJ Jc), (px_mP Pc)))) rfl ?_
      refine px_E_seg 2 (σ' := (11, [(0, .ref 95), (1, .int 0)], [.int 0], (px_shX, (px_mI Ic), (px_mJ Jc), (px_mP Pc)))) rfl ?_
      exact px_E_ret rfl rfl) ?_
    refine px_E_seg 2 (σ' := (22, [(0, .ref 95), (1, .int 0)], [.int 0], (px_shX, (px_mI Ic), (px_mJ Jc), (px_mP Pc)))) rfl ?_
    exact px_E_ret rfl rfl) ?_
  refine px_E_seg 2 (σ' := (9, [(0, .ref 95), (1, .int 0)], [.int (-1)], (px_shX, (px_mI Ic), (px_mJ Jc), (px_mP Pc)))) rfl ?_
  exact px_E_ret rfl rfl
set_option maxRecDepth 100000 in
set_option maxHeartbeats 4000000 in
theorem px_x26_2 {ro : px_RO} {dd : Nat}  : px_CX ro (dd + 8) 142 [.ref 0, .int 1] (.int (-1)) := by
  refine ⟨px_IX, px_PX, ?_, px_fr_0, px_frP_0⟩
  show px_E ro (dd + 8) 142 (0, _, [], _) _ _
  refine px_E_seg 3 (σ' := (5, [(0, .ref 0), (1, .int 1)], [.int 1, .ref 15], (px_shX, px_IX, px_JX, px_PX))) rfl ?_
  refine px_E_call (j := 80) (as := [.ref 15, .int 1]) (rest := []) (v := some (.int 0)) (h1 := (px_shX, px_IX, px_JX, px_PX)) rfl rfl rfl (by
    refine px_E_seg 6 (σ' := (10, [(0, .ref 15), (1, .int 1)], [.ref 15], (px_shX, px_IX, px_JX, px_PX))) rfl ?_
    refine px_E_seg 5 (σ' := (23, [(0, .ref 15), (1, .int 1)], [.int 0], (px_shX, px_IX, px_JX, px_PX))) rfl ?_
    exact px_E_ret rfl rfl) ?_
  refine px_E_seg 2 (σ' := (23, [(0, .ref 0), (1, .int 1)], [.int (-1)], (px_shX, px_IX, px_JX, px_PX))) rfl ?_
  exact px_E_ret rfl rfl
set_option maxRecDepth 100000 in
set_option maxHeartbeats 4000000 in
theorem px_r26_2 {ro : px_RO} {dd : Nat}  : px_RX ro (dd + 8) 297 [.ref 95, .int 1] (.int (-1)) := by
  intro Ic Jc Pc
  refine ⟨(px_shX, (px_mI Ic), (px_mJ Jc), (px_mP Pc)), ?_, rfl⟩
  show px_E ro (dd + 8) 297 (0, _, [], _) _ _
  refine px_E_seg 2 (σ' := (2, [(0, .ref 95), (1, .int 1)], [.int 1, .ref 95], (px_shX, (px_mI Ic), (px_mJ Jc), (px_mP Pc)))) rfl ?_
  refine px_E_call (j := 254) (as := [.ref 95, .int 1]) (rest := []) (v := some (.int 0)) (h1 := (px_shX, (px_mI Ic), (px_mJ Jc), (px_mP Pc))) rfl rfl rfl (by
    refine px_E_seg 3 (σ' := (3, [(0, .ref 95), (1, .int 1)], [.int 3, .int 0, .int 1], (px_shX, (px_mI Ic), (px_mJ Jc), (px_mP Pc)))) rfl ?_
    refine px_E_call (j := 183) (as := [.int 1, .int 0, .int 3]) (rest := []) (v := some (.int 1)) (h1 := (px_shX, (px_mI Ic), (px_mJ Jc), (px_mP Pc))) rfl rfl rfl (by
      refine px_E_seg 6 (σ' := (10, [(0, .int 1), (1, .int 0), (2, .int 3)], [], (px_shX, (px_mI Ic), (px_mJ Jc), (px_mP Pc)))) rfl ?_
      refine px_E_seg 2 (σ' := (15, [(0, .int 1), (1, .int 0), (2, .int 3)], [.int 1], (px_shX, (px_mI Ic), (px_mJ Jc), (px_mP Pc)))) rfl ?_
      exact px_E_ret rfl rfl) ?_
    refine px_E_seg 3 (σ' := (11, [(0, .ref 95), (1, .int 1)], [.int 1, .ref 95], (px_shX, (px_mI Ic), (px_mJ Jc), (px_mP Pc)))) rfl ?_
    refine px_E_call (j := 242) (as := [.ref 95, .int 1]) (rest := []) (v := some (.int 0)) (h1 := (px_shX, (px_mI Ic), (px_mJ Jc), (px_mP Pc))) rfl rfl rfl (by
      refine px_E_seg 5 (σ' := (8, [(0, .ref 95), (1, .int 1)], [.int 1, .int 3, .int 114, .ref 96], (px_shX, (px_mI Ic), (px_mJ Jc), (px_mP Pc)))) rfl ?_
      refine px_E_seg 1 (σ' := (9, [(0, .ref 95), (1, .int 1)], [.int 3, .int 114, .ref 96], (px_shX, (px_mI Ic), (px_mJ Jc), (px_mP Pc)))) rfl ?_
      refine px_E_seg 2 (σ' := (11, [(0, .ref 95), (1, .int 1)], [.int 0], (px_shX, (px_mI Ic), (px_mJ Jc), (px_mP Pc)))) rfl ?_
      exact px_E_ret rfl rfl) ?_
    refine px_E_seg 2 (σ' := (22, [(0, .ref 95), (1, .int 1)], [.int 0], (px_shX, (px_mI Ic), (px_mJ Jc), (px_mP Pc)))) rfl ?_
    exact px_E_ret rfl rfl) ?_
  refine px_E_seg 2 (σ' := (9, [(0, .ref 95), (1, .int 1)], [.int (-1)], (px_shX, (px_mI Ic), (px_mJ Jc), (px_mP Pc)))) rfl ?_
  exact px_E_ret rfl rfl
set_option maxRecDepth 100000 in
set_option maxHeartbeats 4000000 in
theorem px_x26_3 {ro : px_RO} {dd : Nat}  : px_CX ro (dd + 8) 142 [.ref 0, .int 2] (.int (-1)) := by
  refine ⟨px_IX, px_PX, ?_, px_fr_0, px_frP_0⟩
  show px_E ro (dd + 8) 142 (0, _, [], _) _ _
  refine px_E_seg 3 (σ' := (5, [(0, .ref 0), (1, .int 2)], [.int 2, .ref 15], (px_shX, px_IX, px_JX, px_PX))) rfl ?_
  refine px_E_call (j := 80) (as := [.ref 15, .int 2]) (rest := []) (v := some (.int 0)) (h1 := (px_shX, px_IX, px_JX, px_PX)) rfl rfl rfl (by
    refine px_E_seg 6 (σ' := (10, [(0, .ref 15), (1, .int 2)], [.ref 15], (px_shX, px_IX, px_JX, px_PX))) rfl ?_
    refine px_E_seg 5 (σ' := (23, [(0, .ref 15), (1, .int 2)], [.int 0], (px_shX, px_IX, px_JX, px_PX))) rfl ?_
    exact px_E_ret rfl rfl) ?_
  refine px_E_seg 2 (σ' := (23, [(0, .ref 0), (1, .int 2)], [.int (-1)], (px_shX, px_IX, px_JX, px_PX))) rfl ?_
  exact px_E_ret rfl rfl
set_option maxRecDepth 100000 in
set_option maxHeartbeats 4000000 in
theorem px_r26_3 {ro : px_RO} {dd : Nat}  : px_RX ro (dd + 8) 297 [.ref 95, .int 2] (.int (-1)) := by
  intro Ic Jc Pc
  refine ⟨(px_shX, (px_mI Ic), (px_mJ Jc), (px_mP Pc)), ?_, rfl⟩
  show px_E ro (dd + 8) 297 (0, _, [], _) _ _
  refine px_E_seg 2 (σ' := (2, [(0, .ref 95), (1, .int 2)], [.int 2, .ref 95], (px_shX, (px_mI Ic), (px_mJ Jc), (px_mP Pc)))) rfl ?_
  refine px_E_call (j := 254) (as := [.ref 95, .int 2]) (rest := []) (v := some (.int 0)) (h1 := (px_shX, (px_mI Ic), (px_mJ Jc), (px_mP Pc))) rfl rfl rfl (by
    refine px_E_seg 3 (σ' := (3, [(0, .ref 95), (1, .int 2)], [.int 3, .int 0, .int 2], (px_shX, (px_mI Ic), (px_mJ Jc), (px_mP Pc)))) rfl ?_
    refine px_E_call (j := 183) (as := [.int 2, .int 0, .int 3]) (rest := []) (v := some (.int 1)) (h1 := (px_shX, (px_mI Ic), (px_mJ Jc), (px_mP Pc))) rfl rfl rfl (by
      refine px_E_seg 6 (σ' := (10, [(0, .int 2), (1, .int 0), (2, .int 3)], [], (px_shX, (px_mI Ic), (px_mJ Jc), (px_mP Pc)))) rfl ?_
      refine px_E_seg 2 (σ' := (15, [(0, .int 2), (1, .int 0), (2, .int 3)], [.int 1], (px_shX, (px_mI Ic), (px_mJ Jc), (px_mP Pc)))) rfl ?_
      exact px_E_ret rfl rfl) ?_
    refine px_E_seg 3 (σ' := (11, [(0, .ref 95), (1, .int 2)], [.int 2, .ref 95], (px_shX, (px_mI Ic), (px_mJ Jc), (px_mP Pc)))) rfl ?_
    refine px_E_call (j := 242) (as := [.ref 95, .int 2]) (rest := []) (v := some (.int 0)) (h1 := (px_shX, (px_mI Ic), (px_mJ Jc), (px_mP Pc))) rfl rfl rfl (by
      refine px_E_seg 5 (σ' := (8, [(0, .ref 95), (1, .int 2)], [.int 2, .int 3, .int 114, .ref 96], (px_shX, (px_mI Ic), (px_mJ Jc), (px_mP Pc)))) rfl ?_
      refine px_E_seg 1 (σ' := (9, [(0, .ref 95), (1, .int 2)], [.int 6, .int 114, .ref 96], (px_shX, (px_mI Ic), (px_mJ Jc), (px_mP Pc)))) rfl ?_
      refine px_E_seg 2 (σ' := (11, [(0, .ref 95), (1, .int 2)], [.int 0], (px_shX, (px_mI Ic), (px_mJ Jc), (px_mP Pc)))) rfl ?_
      exact px_E_ret rfl rfl) ?_
    refine px_E_seg 2 (σ' := (22, [(0, .ref 95), (1, .int 2)], [.int 0], (px_shX, (px_mI Ic), (px_mJ Jc), (px_mP Pc)))) rfl ?_
    exact px_E_ret rfl rfl) ?_
  refine px_E_seg 2 (σ' := (9, [(0, .ref 95), (1, .int 2)], [.int (-1)], (px_shX, (px_mI Ic), (px_mJ Jc), (px_mP Pc)))) rfl ?_
  exact px_E_ret rfl rfl
set_option maxRecDepth 100000 in
set_option maxHeartbeats 4000000 in
theorem px_x26_4 {ro : px_RO} {dd : Nat}  : px_CX ro (dd + 8) 142 [.ref 0, .int 3] (.int (-1)) := by
  refine ⟨px_IX, px_PX, ?_, px_fr_0, px_frP_0⟩
  show px_E ro (dd + 8) 142 (0, _, [], _) _ _
  refine px_E_seg 3 (σ' := (5, [(0, .ref 0), (1, .int 3)], [.int 3, .ref 15], (px_shX, px_IX, px_JX, px_PX))) rfl ?_
  refine px_E_call (j := 80) (as := [.ref 15, .int 3]) (rest := []) (v := some (.int 0)) (h1 := (px_shX, px_IX, px_JX, px_PX)) rfl rfl rfl (by
    refine px_E_seg 6 (σ' := (10, [(0, .ref 15), (1, .int 3)], [.ref 15], (px_shX, px_IX, px_JX, px_PX))) rfl ?_
    refine px_E_seg 5 (σ' := (23, [(0, .ref 15), (1, .int 3)], [.int 0], (px_shX, px_IX, px_JX, px_PX))) rfl ?_
    exact px_E_ret rfl rfl) ?_
  refine px_E_seg 2 (σ' := (23, [(0, .ref 0), (1, .int 3)], [.int (-1)], (px_shX, px_IX, px_JX, px_PX))) rfl ?_
  exact px_E_ret rfl rfl
set_option maxRecDepth 100000 in
set_option maxHeartbeats 4000000 in
theorem px_r26_4 {ro : px_RO} {dd : Nat}  : px_RX ro (dd + 8) 297 [.ref 95, .int 3] (.int (-1)) := by
  intro Ic Jc Pc
  refine ⟨(px_shX, (px_mI Ic), (px_mJ Jc), (px_mP Pc)), ?_, rfl⟩
  show px_E ro (dd + 8) 297 (0, _, [], _) _ _
  refine px_E_seg 2 (σ' := (2, [(0, .ref 95), (1, .int 3)], [.int 3, .ref 95], (px_shX, (px_mI Ic), (px_mJ Jc), (px_mP Pc)))) rfl ?_
  refine px_E_call (j := 254) (as := [.ref 95, .int 3]) (rest := []) (v := some (.int 0)) (h1 := (px_shX, (px_mI Ic), (px_mJ Jc), (px_mP Pc))) rfl rfl rfl (by
    refine px_E_seg 3 (σ' := (3, [(0, .ref 95), (1, .int 3)], [.int 3, .int 0, .int 3], (px_shX, (px_mI Ic), (px_mJ Jc), (px_mP Pc)))) rfl ?_
    refine px_E_call (j := 183) (as := [.int 3, .int 0, .int 3]) (rest := []) (v := some (.int 1)) (h1 := (px_shX, (px_mI Ic), (px_mJ Jc), (px_mP Pc))) rfl rfl rfl (by
      refine px_E_seg 6 (σ' := (10, [(0, .int 3), (1, .int 0), (2, .int 3)], [], (px_shX, (px_mI Ic), (px_mJ Jc), (px_mP Pc)))) rfl ?_
      refine px_E_seg 2 (σ' := (15, [(0, .int 3), (1, .int 0), (2, .int 3)], [.int 1], (px_shX, (px_mI Ic), (px_mJ Jc), (px_mP Pc)))) rfl ?_
      exact px_E_ret rfl rfl) ?_
    refine px_E_seg 3 (σ' := (11, [(0, .ref 95), (1, .int 3)], [.int 3, .ref 95], (px_shX, (px_mI Ic), (px_mJ Jc), (px_mP Pc)))) rfl ?_
    refine px_E_call (j := 242) (as := [.ref 95, .int 3]) (rest := []) (v := some (.int 0)) (h1 := (px_shX, (px_mI Ic), (px_mJ Jc), (px_mP Pc))) rfl rfl rfl (by
      refine px_E_seg 5 (σ' := (8, [(0, .ref 95), (1, .int 3)], [.int 3, .int 3, .int 114, .ref 96], (px_shX, (px_mI Ic), (px_mJ Jc), (px_mP Pc)))) rfl ?_
      refine px_E_seg 1 (σ' := (9, [(0, .ref 95), (1, .int 3)], [.int 9, .int 114, .ref 96], (px_shX, (px_mI Ic), (px_mJ Jc), (px_mP Pc)))) rfl ?_
      refine px_E_seg 2 (σ' := (11, [(0, .ref 95), (1, .int 3)], [.int 0], (px_shX, (px_mI Ic), (px_mJ Jc), (px_mP Pc)))) rfl ?_
      exact px_E_ret rfl rfl) ?_
    refine px_E_seg 2 (σ' := (22, [(0, .ref 95), (1, .int 3)], [.int 0], (px_shX, (px_mI Ic), (px_mJ Jc), (px_mP Pc)))) rfl ?_
    exact px_E_ret rfl rfl) ?_
  refine px_E_seg 2 (σ' := (9, [(0, .ref 95), (1, .int 3)], [.int (-1)], (px_shX, (px_mI Ic), (px_mJ Jc), (px_mP Pc)))) rfl ?_
  exact px_E_ret rfl rfl
set_option maxRecDepth 100000 in
set_option maxHeartbeats 4000000 in
theorem px_x26_5 {ro : px_RO} {dd : Nat} (a1 : Int32) (ha1 : 4 ≤ a1.toInt ∧ a1.toInt ≤ 2147483647) : px_CX ro (dd + 8) 142 [.ref 0, .int a1] (.int (-1)) := by
  refine ⟨px_IX, px_PX, ?_, px_fr_0, px_frP_0⟩
  show px_E ro (dd + 8) 142 (0, _, [], _) _ _
  refine px_E_seg 3 (σ' := (5, [(0, .ref 0), (1, .int a1)], [.int a1, .ref 15], (px_shX, px_IX, px_JX, px_PX))) rfl ?_
  refine px_E_call (j := 80) (as := [.ref 15, .int a1]) (rest := []) (v := some (.int 0)) (h1 := (px_shX, px_IX, px_JX, px_PX)) rfl rfl rfl (by
    refine px_E_seg 1 (σ' := (1, [(0, .ref 15), (1, .int a1)], [.int a1], (px_shX, px_IX, px_JX, px_PX))) rfl ?_
    refine px_E_ifF (t := 22) rfl rfl (show (0 : Int) ≤ a1.toInt by omega) ?_
    refine px_E_seg 2 (σ' := (6, [(0, .ref 15), (1, .int a1)], [.int 4, .int a1], (px_shX, px_IX, px_JX, px_PX))) rfl ?_
    refine px_E_icT (t := 22) rfl rfl (show (4 : Int) ≤ a1.toInt by omega) ?_
    refine px_E_seg 1 (σ' := (23, [(0, .ref 15), (1, .int a1)], [.int 0], (px_shX, px_IX, px_JX, px_PX))) rfl ?_
    exact px_E_ret rfl rfl) ?_
  refine px_E_seg 2 (σ' := (23, [(0, .ref 0), (1, .int a1)], [.int (-1)], (px_shX, px_IX, px_JX, px_PX))) rfl ?_
  exact px_E_ret rfl rfl
set_option maxRecDepth 100000 in
set_option maxHeartbeats 4000000 in
theorem px_r26_5 {ro : px_RO} {dd : Nat} (a1 : Int32) (ha1 : 4 ≤ a1.toInt ∧ a1.toInt ≤ 2147483647) : px_RX ro (dd + 8) 297 [.ref 95, .int a1] (.int (-1)) := by
  intro Ic Jc Pc
  refine ⟨(px_shX, (px_mI Ic), (px_mJ Jc), (px_mP Pc)), ?_, rfl⟩
  show px_E ro (dd + 8) 297 (0, _, [], _) _ _
  refine px_E_seg 2 (σ' := (2, [(0, .ref 95), (1, .int a1)], [.int a1, .ref 95], (px_shX, (px_mI Ic), (px_mJ Jc), (px_mP Pc)))) rfl ?_
  refine px_E_call (j := 254) (as := [.ref 95, .int a1]) (rest := []) (v := some (.int 0)) (h1 := (px_shX, (px_mI Ic), (px_mJ Jc), (px_mP Pc))) rfl rfl rfl (by
    refine px_E_seg 3 (σ' := (3, [(0, .ref 95), (1, .int a1)], [.int 3, .int 0, .int a1], (px_shX, (px_mI Ic), (px_mJ Jc), (px_mP Pc)))) rfl ?_
    refine px_E_call (j := 183) (as := [.int a1, .int 0, .int 3]) (rest := []) (v := some (.int 0)) (h1 := (px_shX, (px_mI Ic), (px_mJ Jc), (px_mP Pc))) rfl rfl rfl (by
      refine px_E_seg 2 (σ' := (2, [(0, .int a1), (1, .int 0), (2, .int 3)], [.int 0, .int a1], (px_shX, (px_mI Ic), (px_mJ Jc), (px_mP Pc)))) rfl ?_
      refine px_E_icF (t := 14) rfl rfl (show (0 : Int) ≤ a1.toInt by omega) ?_
      refine px_E_seg 2 (σ' := (7, [(0, .int a1), (1, .int 0), (2, .int 3)], [.int 3, .int a1], (px_shX, (px_mI Ic), (px_mJ Jc), (px_mP Pc)))) rfl ?_
      refine px_E_icT (t := 14) rfl rfl (show (3 : Int) < a1.toInt by omega) ?_
      refine px_E_seg 1 (σ' := (15, [(0, .int a1), (1, .int 0), (2, .int 3)], [.int 0], (px_shX, (px_mI Ic), (px_mJ Jc), (px_mP Pc)))) rfl ?_
      exact px_E_ret rfl rfl) ?_
    refine px_E_seg 2 (σ' := (22, [(0, .ref 95), (1, .int a1)], [.int 0], (px_shX, (px_mI Ic), (px_mJ Jc), (px_mP Pc)))) rfl ?_
    exact px_E_ret rfl rfl) ?_
  refine px_E_seg 2 (σ' := (9, [(0, .ref 95), (1, .int a1)], [.int (-1)], (px_shX, (px_mI Ic), (px_mJ Jc), (px_mP Pc)))) rfl ?_
  exact px_E_ret rfl rfl
set_option maxRecDepth 100000 in
set_option maxHeartbeats 4000000 in
theorem px_x27_0 {ro : px_RO} {dd : Nat} (a1 a2 : Int32) (ha1 : (-2147483648) ≤ a1.toInt ∧ a1.toInt ≤ (-2)) (ha2 : (-2147483648) ≤ a2.toInt ∧ a2.toInt ≤ 2147483647) : px_CX ro (dd + 8) 145 [.ref 0, .int a1, .int a2] (.int (-2)) := by
  refine ⟨px_IX, px_PX, ?_, px_fr_0, px_frP_0⟩
  show px_E ro (dd + 8) 145 (0, _, [], _) _ _
  refine px_E_seg 2 (σ' := (2, [(0, .ref 0), (1, .int a1), (2, .int a2)], [.int (-1), .int a1], (px_shX, px_IX, px_JX, px_PX))) rfl ?_
  refine px_E_icT (t := 15) rfl rfl (show a1.toInt ≠ (-1 : Int) by omega) ?_
  refine px_E_seg 3 (σ' := (20, [(0, .ref 0), (1, .int a1), (2, .int a2)], [.int a1, .ref 1], (px_shX, px_IX, px_JX, px_PX))) rfl ?_
  refine px_E_call (j := 18) (as := [.ref 1, .int a1]) (rest := []) (v := some (.int 0)) (h1 := (px_shX, px_IX, px_JX, px_PX)) rfl rfl rfl (by
    refine px_E_seg 1 (σ' := (1, [(0, .ref 1), (1, .int a1)], [.int a1], (px_shX, px_IX, px_JX, px_PX))) rfl ?_
    refine px_E_ifT (t := 16) rfl rfl (show a1.toInt < (0 : Int) by omega) ?_
    refine px_E_seg 1 (σ' := (17, [(0, .ref 1), (1, .int a1)], [.int 0], (px_shX, px_IX, px_JX, px_PX))) rfl ?_
    exact px_E_ret rfl rfl) ?_
  refine px_E_seg 2 (σ' := (38, [(0, .ref 0), (1, .int a1), (2, .int a2)], [.int (-2)], (px_shX, px_IX, px_JX, px_PX))) rfl ?_
  exact px_E_ret rfl rfl
set_option maxRecDepth 100000 in
set_option maxHeartbeats 4000000 in
theorem px_r27_0 {ro : px_RO} {dd : Nat} (a1 a2 : Int32) (ha1 : (-2147483648) ≤ a1.toInt ∧ a1.toInt ≤ (-2)) (ha2 : (-2147483648) ≤ a2.toInt ∧ a2.toInt ≤ 2147483647) : px_RX ro (dd + 8) 305 [.ref 95, .int a1, .int a2] (.int (-2)) := by
  intro Ic Jc Pc
  refine ⟨(px_shX, (px_mI Ic), (px_mJ Jc), (px_mP Pc)), ?_, rfl⟩
  show px_E ro (dd + 8) 305 (0, _, [], _) _ _
  refine px_E_seg 2 (σ' := (2, [(0, .ref 95), (1, .int a1), (2, .int a2)], [.int (-1), .int a1], (px_shX, (px_mI Ic), (px_mJ Jc), (px_mP Pc)))) rfl ?_
  refine px_E_icT (t := 15) rfl rfl (show a1.toInt ≠ (-1 : Int) by omega) ?_
  refine px_E_seg 2 (σ' := (17, [(0, .ref 95), (1, .int a1), (2, .int a2)], [.int a1, .ref 95], (px_shX, (px_mI Ic), (px_mJ Jc), (px_mP Pc)))) rfl ?_
  refine px_E_call (j := 185) (as := [.ref 95, .int a1]) (rest := []) (v := some (.int 0)) (h1 := (px_shX, (px_mI Ic), (px_mJ Jc), (px_mP Pc))) rfl rfl rfl (by
    refine px_E_seg 6 (σ' := (8, [(0, .ref 95), (1, .int a1)], [.int 0, .int 0, .int a1], (px_shX, (px_mI Ic), (px_mJ Jc), (px_mP Pc)))) rfl ?_
    refine px_E_seg 1 (σ' := (9, [(0, .ref 95), (1, .int a1)], [.int 1, .int 0, .int 0, .int a1], (px_shX, (px_mI Ic), (px_mJ Jc), (px_mP Pc)))) rfl ?_
    refine px_E_seg 1 (σ' := (10, [(0, .ref 95), (1, .int a1)], [.int (-1), .int 0, .int a1], (px_shX, (px_mI Ic), (px_mJ Jc), (px_mP Pc)))) rfl ?_
    refine px_E_call (j := 183) (as := [.int a1, .int 0, .int (-1)]) (rest := []) (v := some (.int 0)) (h1 := (px_shX, (px_mI Ic), (px_mJ Jc), (px_mP Pc))) rfl rfl rfl (by
      refine px_E_seg 2 (σ' := (2, [(0, .int a1), (1, .int 0), (2, .int (-1))], [.int 0, .int a1], (px_shX, (px_mI Ic), (px_mJ Jc), (px_mP Pc)))) rfl ?_
      refine px_E_icT (t := 14) rfl rfl (show a1.toInt < (0 : Int) by omega) ?_
      refine px_E_seg 1 (σ' := (15, [(0, .int a1), (1, .int 0), (2, .int (-1))], [.int 0], (px_shX, (px_mI Ic), (px_mJ Jc), (px_mP Pc)))) rfl ?_
      exact px_E_ret rfl rfl) ?_
    exact px_E_ret rfl rfl) ?_
  refine px_E_seg 2 (σ' := (47, [(0, .ref 95), (1, .int a1), (2, .int a2)], [.int (-2)], (px_shX, (px_mI Ic), (px_mJ Jc), (px_mP Pc)))) rfl ?_
  exact px_E_ret rfl rfl
set_option maxRecDepth 100000 in
set_option maxHeartbeats 4000000 in
theorem px_x27_1 {ro : px_RO} {dd : Nat} (a2 : Int32) (ha2 : (-2147483648) ≤ a2.toInt ∧ a2.toInt ≤ 2147483647) : px_CX ro (dd + 8) 145 [.ref 0, .int (-1), .int a2] (.int 0) := by
  refine ⟨(px_up px_IX 25 2 0), px_PX, ?_, (px_fr_up (Nat.le_of_ble_eq_true rfl) px_fr_0), px_frP_0⟩
  show px_E ro (dd + 8) 145 (0, _, [], _) _ _
  refine px_E_seg 6 (σ' := (10, [(0, .ref 0), (1, .int (-1)), (2, .int a2)], [.int 0, .ref 25], (px_shX, px_IX, px_JX, px_PX))) rfl ?_
  refine px_E_seg 2 (σ' := (14, [(0, .ref 0), (1, .int (-1)), (2, .int a2)], [.int 0], (px_shX, (px_up px_IX 25 2 0), px_JX, px_PX))) rfl ?_
  exact px_E_ret rfl rfl
set_option maxRecDepth 100000 in
set_option maxHeartbeats 4000000 in
theorem px_r27_1 {ro : px_RO} {dd : Nat} (a2 : Int32) (ha2 : (-2147483648) ≤ a2.toInt ∧ a2.toInt ≤ 2147483647) : px_RX ro (dd + 8) 305 [.ref 95, .int (-1), .int a2] (.int 0) := by
  intro Ic Jc Pc
  refine ⟨(px_shX, (px_up (px_mI Ic) 96 10 0), (px_mJ Jc), (px_mP Pc)), ?_, rfl⟩
  show px_E ro (dd + 8) 305 (0, _, [], _) _ _
  refine px_E_seg 6 (σ' := (11, [(0, .ref 95), (1, .int (-1)), (2, .int a2)], [.int 10, .ref 96], (px_shX, (px_mI Ic), (px_mJ Jc), (px_mP Pc)))) rfl ?_
  refine px_E_seg 3 (σ' := (14, [(0, .ref 95), (1, .int (-1)), (2, .int a2)], [.int 0], (px_shX, (px_up (px_mI Ic) 96 10 0), (px_mJ Jc), (px_mP Pc)))) rfl ?_
  exact px_E_ret rfl rfl
set_option maxRecDepth 100000 in
set_option maxHeartbeats 4000000 in
theorem px_x27_2 {ro : px_RO} {dd : Nat} (a1 a2 : Int32) (ha1 : 0 ≤ a1.toInt ∧ a1.toInt ≤ 2147483647) (ha2 : (-2147483648) ≤ a2.toInt ∧ a2.toInt ≤ 2147483647) : px_CX ro (dd + 8) 145 [.ref 0, .int a1, .int a2] (.int (-2)) := by
  refine ⟨px_IX, px_PX, ?_, px_fr_0, px_frP_0⟩
  show px_E ro (dd + 8) 145 (0, _, [], _) _ _
  refine px_E_seg 2 (σ' := (2, [(0, .ref 0), (1, .int a1), (2, .int a2)], [.int (-1), .int a1], (px_shX, px_IX, px_JX, px_PX))) rfl ?_
  refine px_E_icT (t := 15) rfl rfl (show a1.toInt ≠ (-1 : Int) by omega) ?_
  refine px_E_seg 3 (σ' := (20, [(0, .ref 0), (1, .int a1), (2, .int a2)], [.int a1, .ref 1], (px_shX, px_IX, px_JX, px_PX))) rfl ?_
  refine px_E_call (j := 18) (as := [.ref 1, .int a1]) (rest := []) (v := some (.int 0)) (h1 := (px_shX, px_IX, px_JX, px_PX)) rfl rfl rfl (by
    refine px_E_seg 1 (σ' := (1, [(0, .ref 1), (1, .int a1)], [.int a1], (px_shX, px_IX, px_JX, px_PX))) rfl ?_
    refine px_E_ifF (t := 16) rfl rfl (show (0 : Int) ≤ a1.toInt by omega) ?_
    refine px_E_seg 3 (σ' := (9, [(0, .ref 1), (1, .int a1)], [.int 0, .int a1], (px_shX, px_IX, px_JX, px_PX))) rfl ?_
    refine px_E_icT (t := 16) rfl rfl (show (0 : Int) ≤ a1.toInt by omega) ?_
    refine px_E_seg 1 (σ' := (17, [(0, .ref 1), (1, .int a1)], [.int 0], (px_shX, px_IX, px_JX, px_PX))) rfl ?_
    exact px_E_ret rfl rfl) ?_
  refine px_E_seg 2 (σ' := (38, [(0, .ref 0), (1, .int a1), (2, .int a2)], [.int (-2)], (px_shX, px_IX, px_JX, px_PX))) rfl ?_
  exact px_E_ret rfl rfl
set_option maxRecDepth 100000 in
set_option maxHeartbeats 4000000 in
theorem px_r27_2 {ro : px_RO} {dd : Nat} (a1 a2 : Int32) (ha1 : 0 ≤ a1.toInt ∧ a1.toInt ≤ 2147483647) (ha2 : (-2147483648) ≤ a2.toInt ∧ a2.toInt ≤ 2147483647) : px_RX ro (dd + 8) 305 [.ref 95, .int a1, .int a2] (.int (-2)) := by
  intro Ic Jc Pc
  refine ⟨(px_shX, (px_mI Ic), (px_mJ Jc), (px_mP Pc)), ?_, rfl⟩
  show px_E ro (dd + 8) 305 (0, _, [], _) _ _
  refine px_E_seg 2 (σ' := (2, [(0, .ref 95), (1, .int a1), (2, .int a2)], [.int (-1), .int a1], (px_shX, (px_mI Ic), (px_mJ Jc), (px_mP Pc)))) rfl ?_
  refine px_E_icT (t := 15) rfl rfl (show a1.toInt ≠ (-1 : Int) by omega) ?_
  refine px_E_seg 2 (σ' := (17, [(0, .ref 95), (1, .int a1), (2, .int a2)], [.int a1, .ref 95], (px_shX, (px_mI Ic), (px_mJ Jc), (px_mP Pc)))) rfl ?_
  refine px_E_call (j := 185) (as := [.ref 95, .int a1]) (rest := []) (v := some (.int 0)) (h1 := (px_shX, (px_mI Ic), (px_mJ Jc), (px_mP Pc))) rfl rfl rfl (by
    refine px_E_seg 6 (σ' := (8, [(0, .ref 95), (1, .int a1)], [.int 0, .int 0, .int a1], (px_shX, (px_mI Ic), (px_mJ Jc), (px_mP Pc)))) rfl ?_
    refine px_E_seg 1 (σ' := (9, [(0, .ref 95), (1, .int a1)], [.int 1, .int 0, .int 0, .int a1], (px_shX, (px_mI Ic), (px_mJ Jc), (px_mP Pc)))) rfl ?_
    refine px_E_seg 1 (σ' := (10, [(0, .ref 95), (1, .int a1)], [.int (-1), .int 0, .int a1], (px_shX, (px_mI Ic), (px_mJ Jc), (px_mP Pc)))) rfl ?_
    refine px_E_call (j := 183) (as := [.int a1, .int 0, .int (-1)]) (rest := []) (v := some (.int 0)) (h1 := (px_shX, (px_mI Ic), (px_mJ Jc), (px_mP Pc))) rfl rfl rfl (by
      refine px_E_seg 2 (σ' := (2, [(0, .int a1), (1, .int 0), (2, .int (-1))], [.int 0, .int a1], (px_shX, (px_mI Ic), (px_mJ Jc), (px_mP Pc)))) rfl ?_
      refine px_E_icF (t := 14) rfl rfl (show (0 : Int) ≤ a1.toInt by omega) ?_
      refine px_E_seg 2 (σ' := (7, [(0, .int a1), (1, .int 0), (2, .int (-1))], [.int (-1), .int a1], (px_shX, (px_mI Ic), (px_mJ Jc), (px_mP Pc)))) rfl ?_
      refine px_E_icT (t := 14) rfl rfl (show (-1 : Int) < a1.toInt by omega) ?_
      refine px_E_seg 1 (σ' := (15, [(0, .int a1), (1, .int 0), (2, .int (-1))], [.int 0], (px_shX, (px_mI Ic), (px_mJ Jc), (px_mP Pc)))) rfl ?_
      exact px_E_ret rfl rfl) ?_
    exact px_E_ret rfl rfl) ?_
  refine px_E_seg 2 (σ' := (47, [(0, .ref 95), (1, .int a1), (2, .int a2)], [.int (-2)], (px_shX, (px_mI Ic), (px_mJ Jc), (px_mP Pc)))) rfl ?_
  exact px_E_ret rfl rfl
set_option maxRecDepth 100000 in
set_option maxHeartbeats 4000000 in
theorem px_x28_0 {ro : px_RO} {dd : Nat}  : px_CX ro (dd + 8) 147 [.ref 0] (.int 0) := by
  refine ⟨(px_up (px_up (px_up (px_up (px_up (px_up (px_up (px_up (px_up (px_up (px_up (px_up (px_fl px_IX 14 144 1000) 14 0 0) 14 13 0) 14 26 0) 14 39 0) 14 52 0) 14 65 0) 14 78 0) 14 91 0) 14 104 0) 14 117 0) 14 130 0) 14 143 0), px_PX, ?_, (px_fr_up (Nat.le_of_ble_eq_true rfl) (px_fr_up (Nat.le_of_ble_eq_true rfl) (px_fr_up (Nat.le_of_ble_eq_true rfl) (px_fr_up (Nat.le_of_ble_eq_true rfl) (px_fr_up (Nat.le_of_ble_eq_true rfl) (px_fr_up (Nat.le_of_ble_eq_true rfl) (px_fr_up (Nat.le_of_ble_eq_true rfl) (px_fr_up (Nat.le_of_ble_eq_true rfl) (px_fr_up (Nat.le_of_ble_eq_true rfl) (px_fr_up (Nat.le_of_ble_eq_true rfl) (px_fr_up (Nat.le_of_ble_eq_true rfl) (px_fr_up (Nat.le_of_ble_eq_true rfl) (px_fr_fl (Nat.le_of_ble_eq_true rfl) px_fr_0))))))))))))), px_frP_0⟩
  show px_E ro (dd + 8) 147 (0, _, [], _) _ _
  refine px_E_seg 2 (σ' := (4, [(0, .ref 0)], [.ref 1], (px_shX, px_IX, px_JX, px_PX))) rfl ?_
  refine px_E_call (j := 148) (as := [.ref 1]) (rest := []) (v := none) (h1 := (px_shX, (px_up (px_up (px_up (px_up (px_up (px_up (px_up (px_up (px_up (px_up (px_up (px_up (px_fl px_IX 14 144 1000) 14 0 0) 14 13 0) 14 26 0) 14 39 0) 14 52 0) 14 65 0) 14 78 0) 14 91 0) 14 104 0) 14 117 0) 14 130 0) 14 143 0), px_JX, px_PX)) rfl rfl rfl (by
    refine px_E_seg 2 (σ' := (4, [(0, .ref 1)], [.ref 14], (px_shX, px_IX, px_JX, px_PX))) rfl ?_
    refine px_E_call (j := 2) (as := [.ref 14]) (rest := []) (v := none) (h1 := (px_shX, (px_up (px_up (px_up (px_up (px_up (px_up (px_up (px_up (px_up (px_up (px_up (px_up (px_fl px_IX 14 144 1000) 14 0 0) 14 13 0) 14 26 0) 14 39 0) 14 52 0) 14 65 0) 14 78 0) 14 91 0) 14 104 0) 14 117 0) 14 130 0) 14 143 0), px_JX, px_PX)) rfl rfl rfl (by
      refine px_E_seg 2 (σ' := (4, [(0, .ref 14)], [.int 1000, .ref 14], (px_shX, px_IX, px_JX, px_PX))) rfl ?_
      refine px_E_call (j := 3) (as := [.ref 14, .int 1000]) (rest := []) (v := none) (h1 := (px_shX, (px_fl px_IX 14 144 1000), px_JX, px_PX)) rfl rfl rfl (px_fill 14 144 rfl (by decide) rfl rfl) ?_
      refine px_E_seg 6 (σ' := (16, [(1, .int 0), (0, .ref 14)], [.ref 14], (px_shX, (px_fl px_IX 14 144 1000), px_JX, px_PX))) rfl ?_
      refine px_E_seg 2 (σ' := (19, [(1, .int 0), (0, .ref 14)], [.int 12, .int 0, .ref 14], (px_shX, (px_fl px_IX 14 144 1000), px_JX, px_PX))) rfl ?_
      refine px_E_seg 2 (σ' := (21, [(1, .int 0), (0, .ref 14)], [.int 0, .int 0, .ref 14], (px_shX, (px_fl px_IX 14 144 1000), px_JX, px_PX))) rfl ?_
      refine px_E_seg 6 (σ' := (10, [(1, .int 1), (0, .ref 14)], [.int 1], (px_shX, (px_up (px_fl px_IX 14 144 1000) 14 0 0), px_JX, px_PX))) rfl ?_
      refine px_E_seg 5 (σ' := (19, [(1, .int 1), (0, .ref 14)], [.int 12, .int 1, .ref 14], (px_shX, (px_up (px_fl px_IX 14 144 1000) 14 0 0), px_JX, px_PX))) rfl ?_
      refine px_E_seg 2 (σ' := (21, [(1, .int 1), (0, .ref 14)], [.int 1, .int 12, .ref 14], (px_shX, (px_up (px_fl px_IX 14 144 1000) 14 0 0), px_JX, px_PX))) rfl ?_
      refine px_E_seg 6 (σ' := (10, [(1, .int 2), (0, .ref 14)], [.int 2], (px_shX, (px_up (px_up (px_fl px_IX 14 144 1000) 14 0 0) 14 13 0), px_JX, px_PX))) rfl ?_
      refine px_E_seg 5 (σ' := (19, [(1, .int 2), (0, .ref 14)], [.int 12, .int 2, .ref 14], (px_shX, (px_up (px_up (px_fl px_IX 14 144 1000) 14 0 0) 14 13 0), px_JX, px_PX))) rfl ?_
      refine px_E_seg 2 (σ' := (21, [(1, .int 2), (0, .ref 14)], [.int 2, .int 24, .ref 14], (px_shX, (px_up (px_up (px_fl px_IX 14 144 1000) 14 0 0) 14 13 0), px_JX, px_PX))) rfl ?_
      refine px_E_seg 6 (σ' := (10, [(1, .int 3), (0, .ref 14)], [.int 3], (px_shX, (px_up (px_up (px_up (px_fl px_IX 14 144 1000) 14 0 0) 14 13 0) 14 26 0), px_JX, px_PX))) rfl ?_
      refine px_E_seg 5 (σ' := (19, [(1, .int 3), (0, .ref 14)], [.int 12, .int 3, .ref 14], (px_shX, (px_up (px_up (px_up (px_fl px_IX 14 144 1000) 14 0 0) 14 13 0) 14 26 0), px_JX, px_PX))) rfl ?_
      refine px_E_seg 2 (σ' := (21, [(1, .int 3), (0, .ref 14)], [.int 3, .int 36, .ref 14], (px_shX, (px_up (px_up (px_up (px_fl px_IX 14 144 1000) 14 0 0) 14 13 0) 14 26 0), px_JX, px_PX))) rfl ?_
      refine px_E_seg 6 (σ' := (10, [(1, .int 4), (0, .ref 14)], [.int 4], (px_shX, (px_up (px_up (px_up (px_up (px_fl px_IX 14 144 1000) 14 0 0) 14 13 0) 14 26 0) 14 39 0), px_JX, px_PX))) rfl ?_
      refine px_E_seg 5 (σ' := (19, [(1, .int 4), (0, .ref 14)], [.int 12, .int 4, .ref 14], (px_shX, (px_up (px_up (px_up (px_up (px_fl px_IX 14 144 1000) 14 0 0) 14 13 0) 14 26 0) 14 39 0), px_JX, px_PX))) rfl ?_
      refine px_E_seg 2 (σ' := (21, [(1, .int 4), (0, .ref 14)], [.int 4, .int 48, .ref 14], (px_shX, (px_up (px_up (px_up (px_up (px_fl px_IX 14 144 1000) 14 0 0) 14 13 0) 14 26 0) 14 39 0), px_JX, px_PX))) rfl ?_
      refine px_E_seg 6 (σ' := (10, [(1, .int 5), (0, .ref 14)], [.int 5], (px_shX, (px_up (px_up (px_up (px_up (px_up (px_fl px_IX 14 144 1000) 14 0 0) 14 13 0) 14 26 0) 14 39 0) 14 52 0), px_JX, px_PX))) rfl ?_
      refine px_E_seg 5 (σ' := (19, [(1, .int 5), (0, .ref 14)], [.int 12, .int 5, .ref 14], (px_shX, (px_up (px_up (px_up (px_up (px_up (px_fl px_IX 14 144 1000) 14 0 0) 14 13 0) 14 26 0) 14 39 0) 14 52 0), px_JX, px_PX))) rfl ?_
      refine px_E_seg 2 (σ' := (21, [(1, .int 5), (0, .ref 14)], [.int 5, .int 60, .ref 14], (px_shX, (px_up (px_up (px_up (px_up (px_up (px_fl px_IX 14 144 1000) 14 0 0) 14 13 0) 14 26 0) 14 39 0) 14 52 0), px_JX, px_PX))) rfl ?_
      refine px_E_seg 6 (σ' := (10, [(1, .int 6), (0, .ref 14)], [.int 6], (px_shX, (px_up (px_up (px_up (px_up (px_up (px_up (px_fl px_IX 14 144 1000) 14 0 0) 14 13 0) 14 26 0) 14 39 0) 14 52 0) 14 65 0), px_JX, px_PX))) rfl ?_
      refine px_E_seg 5 (σ' := (19, [(1, .int 6), (0, .ref 14)], [.int 12, .int 6, .ref 14], (px_shX, (px_up (px_up (px_up (px_up (px_up (px_up (px_fl px_IX 14 144 1000) 14 0 0) 14 13 0) 14 26 0) 14 39 0) 14 52 0) 14 65 0), px_JX, px_PX))) rfl ?_
      refine px_E_seg 2 (σ' := (21, [(1, .int 6), (0, .ref 14)], [.int 6, .int 72, .ref 14], (px_shX, (px_up (px_up (px_up (px_up (px_up (px_up (px_fl px_IX 14 144 1000) 14 0 0) 14 13 0) 14 26 0) 14 39 0) 14 52 0) 14 65 0), px_JX, px_PX))) rfl ?_
      refine px_E_seg 6 (σ' := (10, [(1, .int 7), (0, .ref 14)], [.int 7], (px_shX, (px_up (px_up (px_up (px_up (px_up (px_up (px_up (px_fl px_IX 14 144 1000) 14 0 0) 14 13 0) 14 26 0) 14 39 0) 14 52 0) 14 65 0) 14 78 0), px_JX, px_PX))) rfl ?_
      refine px_E_seg 5 (σ' := (19, [(1, .int 7), (0, .ref 14)], [.int 12, .int 7, .ref 14], (px_shX, (px_up (px_up (px_up (px_up (px_up (px_up (px_up (px_fl px_IX 14 144 1000) 14 0 0) 14 13 0) 14 26 0) 14 39 0) 14 52 0) 14 65 0) 14 78 0), px_JX, px_PX))) rfl ?_
      refine px_E_seg 2 (σ' := (21, [(1, .int 7), (0, .ref 14)], [.int 7, .int 84, .ref 14], (px_shX, (px_up (px_up (px_up (px_up (px_up (px_up (px_up (px_fl px_IX 14 144 1000) 14 0 0) 14 13 0) 14 26 0) 14 39 0) 14 52 0) 14 65 0) 14 78 0), px_JX, px_PX))) rfl ?_
      refine px_E_seg 6 (σ' := (10, [(1, .int 8), (0, .ref 14)], [.int 8], (px_shX, (px_up (px_up (px_up (px_up (px_up (px_up (px_up (px_up (px_fl px_IX 14 144 1000) 14 0 0) 14 13 0) 14 26 0) 14 39 0) 14 52 0) 14 65 0) 14 78 0) 14 91 0), px_JX, px_PX))) rfl ?_
      refine px_E_seg 5 (σ' := (19, [(1, .int 8), (0, .ref 14)], [.int 12, .int 8, .ref 14], (px_shX, (px_up (px_up (px_up (px_up (px_up (px_up (px_up (px_up (px_fl px_IX 14 144 1000) 14 0 0) 14 13 0) 14 26 0) 14 39 0) 14 52 0) 14 65 0) 14 78 0) 14 91 0), px_JX, px_PX))) rfl ?_
      refine px_E_seg 2 (σ' := (21, [(1, .int 8), (0, .ref 14)], [.int 8, .int 96, .ref 14], (px_shX, (px_up (px_up (px_up (px_up (px_up (px_up (px_up (px_up (px_fl px_IX 14 144 1000) 14 0 0) 14 13 0) 14 26 0) 14 39 0) 14 52 0) 14 65 0) 14 78 0) 14 91 0), px_JX, px_PX))) rfl ?_
      refine px_E_seg 6 (σ' := (10, [(1, .int 9), (0, .ref 14)], [.int 9], (px_shX, (px_up (px_up (px_up (px_up (px_up (px_up (px_up (px_up (px_up (px_fl px_IX 14 144 1000) 14 0 0) 14 13 0) 14 26 0) 14 39 0) 14 52 0) 14 65 0) 14 78 0) 14 91 0) 14 104 0), px_JX, px_PX))) rfl ?_
      refine px_E_seg 5 (σ' := (19, [(1, .int 9), (0, .ref 14)], [.int 12, .int 9, .ref 14], (px_shX, (px_up (px_up (px_up (px_up (px_up (px_up (px_up (px_up (px_up (px_fl px_IX 14 144 1000) 14 0 0) 14 13 0) 14 26 0) 14 39 0) 14 52 0) 14 65 0) 14 78 0) 14 91 0) 14 104 0), px_JX, px_PX))) rfl ?_
      refine px_E_seg 2 (σ' := (21, [(1, .int 9), (0, .ref 14)], [.int 9, .int 108, .ref 14], (px_shX, (px_up (px_up (px_up (px_up (px_up (px_up (px_up (px_up (px_up (px_fl px_IX 14 144 1000) 14 0 0) 14 13 0) 14 26 0) 14 39 0) 14 52 0) 14 65 0) 14 78 0) 14 91 0) 14 104 0), px_JX, px_PX))) rfl ?_
      refine px_E_seg 6 (σ' := (10, [(1, .int 10), (0, .ref 14)], [.int 10], (px_shX, (px_up (px_up (px_up (px_up (px_up (px_up (px_up (px_up (px_up (px_up (px_fl px_IX 14 144 1000) 14 0 0) 14 13 0) 14 26 0) 14 39 0) 14 52 0) 14 65 0) 14 78 0) 14 91 0) 14 104 0) 14 117 0), px_JX, px_PX))) rfl ?_
      refine px_E_seg 5 (σ' := (19, [(1, .int 10), (0, .ref 14)], [.int 12, .int 10, .ref 14], (px_shX, (px_up (px_up (px_up (px_up (px_up (px_up (px_up (px_up (px_up (px_up (px_fl px_IX 14 144 1000) 14 0 0) 14 13 0) 14 26 0) 14 39 0) 14 52 0) 14 65 0) 14 78 0) 14 91 0) 14 104 0) 14 117 0), px_JX, px_PX))) rfl ?_
      refine px_E_seg 2 (σ' := (21, [(1, .int 10), (0, .ref 14)], [.int 10, .int 120, .ref 14], (px_shX, (px_up (px_up (px_up (px_up (px_up (px_up (px_up (px_up (px_up (px_up (px_fl px_IX 14 144 1000) 14 0 0) 14 13 0) 14 26 0) 14 39 0) 14 52 0) 14 65 0) 14 78 0) 14 91 0) 14 104 0) 14 117 0), px_JX, px_PX))) rfl ?_
      refine px_E_seg 6 (σ' := (10, [(1, .int 11), (0, .ref 14)], [.int 11], (px_shX, (px_up (px_up (px_up (px_up (px_up (px_up (px_up (px_up (px_up (px_up (px_up (px_fl px_IX 14 144 1000) 14 0 0) 14 13 0) 14 26 0) 14 39 0) 14 52 0) 14 65 0) 14 78 0) 14 91 0) 14 104 0) 14 117 0) 14 130 0), px_JX, px_PX))) rfl ?_
      refine px_E_seg 5 (σ' := (19, [(1, .int 11), (0, .ref 14)], [.int 12, .int 11, .ref 14], (px_shX, (px_up (px_up (px_up (px_up (px_up (px_up (px_up (px_up (px_up (px_up (px_up (px_fl px_IX 14 144 1000) 14 0 0) 14 13 0) 14 26 0) 14 39 0) 14 52 0) 14 65 0) 14 78 0) 14 91 0) 14 104 0) 14 117 0) 14 130 0), px_JX, px_PX))) rfl ?_
      refine px_E_seg 2 (σ' := (21, [(1, .int 11), (0, .ref 14)], [.int 11, .int 132, .ref 14], (px_shX, (px_up (px_up (px_up (px_up (px_up (px_up (px_up (px_up (px_up (px_up (px_up (px_fl px_IX 14 144 1000) 14 0 0) 14 13 0) 14 26 0) 14 39 0) 14 52 0) 14 65 0) 14 78 0) 14 91 0) 14 104 0) 14 117 0) 14 130 0), px_JX, px_PX))) rfl ?_
      refine px_E_seg 6 (σ' := (10, [(1, .int 12), (0, .ref 14)], [.int 12], (px_shX, (px_up (px_up (px_up (px_up (px_up (px_up (px_up (px_up (px_up (px_up (px_up (px_up (px_fl px_IX 14 144 1000) 14 0 0) 14 13 0) 14 26 0) 14 39 0) 14 52 0) 14 65 0) 14 78 0) 14 91 0) 14 104 0) 14 117 0) 14 130 0) 14 143 0), px_JX, px_PX))) rfl ?_
      refine px_E_seg 2 (σ' := (30, [(1, .int 12), (0, .ref 14)], [], (px_shX, (px_up (px_up (px_up (px_up (px_up (px_up (px_up (px_up (px_up (px_up (px_up (px_up (px_fl px_IX 14 144 1000) 14 0 0) 14 13 0) 14 26 0) 14 39 0) 14 52 0) 14 65 0) 14 78 0) 14 91 0) 14 104 0) 14 117 0) 14 130 0) 14 143 0), px_JX, px_PX))) rfl ?_
      exact px_E_ret rfl rfl) ?_
    refine px_E_seg 6 (σ' := (52, [(1, .int 0), (0, .ref 1)], [], (px_shX, (px_up (px_up (px_up (px_up (px_up (px_up (px_up (px_up (px_up (px_up (px_up (px_up (px_fl px_IX 14 144 1000) 14 0 0) 14 13 0) 14 26 0) 14 39 0) 14 52 0) 14 65 0) 14 78 0) 14 91 0) 14 104 0) 14 117 0) 14 130 0) 14 143 0), px_JX, px_PX))) rfl ?_
    exact px_E_ret rfl rfl) ?_
  refine px_E_seg 6 (σ' := (13, [(2, .int 0), (1, .int 0), (0, .ref 0)], [.ref 0, .int 0], (px_shX, (px_up (px_up (px_up (px_up (px_up (px_up (px_up (px_up (px_up (px_up (px_up (px_up (px_fl px_IX 14 144 1000) 14 0 0) 14 13 0) 14 26 0) 14 39 0) 14 52 0) 14 65 0) 14 78 0) 14 91 0) 14 104 0) 14 117 0) 14 130 0) 14 143 0), px_JX, px_PX))) rfl ?_
  refine px_E_seg 4 (σ' := (64, [(2, .int 0), (1, .int 0), (0, .ref 0)], [.int 0], (px_shX, (px_up (px_up (px_up (px_up (px_up (px_up (px_up (px_up (px_up (px_up (px_up (px_up (px_fl px_IX 14 144 1000) 14 0 0) 14 13 0) 14 26 0) 14 39 0) 14 52 0) 14 65 0) 14 78 0) 14 91 0) 14 104 0) 14 117 0) 14 130 0) 14 143 0), px_JX, px_PX))) rfl ?_
  exact px_E_ret rfl rfl
set_option maxRecDepth 100000 in
set_option maxHeartbeats 4000000 in
theorem px_r28_0 {ro : px_RO} {dd : Nat}  : px_RX ro (dd + 8) 306 [.ref 95] (.int 0) := by
  intro Ic Jc Pc
  refine ⟨(px_shX, (px_mI Ic), (px_mJ Jc), (px_mP Pc)), ?_, rfl⟩
  show px_E ro (dd + 8) 306 (0, _, [], _) _ _
  refine px_E_seg 6 (σ' := (6, [(2, .int 0), (1, .int 0), (0, .ref 95)], [.ref 95, .int 0], (px_shX, (px_mI Ic), (px_mJ Jc), (px_mP Pc)))) rfl ?_
  refine px_E_seg 5 (σ' := (123, [(2, .int 0), (1, .int 0), (0, .ref 95)], [.int 0], (px_shX, (px_mI Ic), (px_mJ Jc), (px_mP Pc)))) rfl ?_
  exact px_E_ret rfl rfl
set_option maxRecDepth 100000 in
set_option maxHeartbeats 4000000 in
theorem px_x30_0 {ro : px_RO} {dd : Nat} (a1 a2 : Int32) (ha1 : (-2147483648) ≤ a1.toInt ∧ a1.toInt ≤ (-1)) (ha2 : (-2147483648) ≤ a2.toInt ∧ a2.toInt ≤ 2147483647) : px_CX ro (dd + 8) 154 [.ref 0, .int a1, .int a2] (.int (-1)) := by
  refine ⟨px_IX, px_PX, ?_, px_fr_0, px_frP_0⟩
  show px_E ro (dd + 8) 154 (0, _, [], _) _ _
  refine px_E_seg 3 (σ' := (5, [(0, .ref 0), (1, .int a1), (2, .int a2)], [.int a1, .ref 1], (px_shX, px_IX, px_JX, px_PX))) rfl ?_
  refine px_E_call (j := 99) (as := [.ref 1, .int a1]) (rest := []) (v := some (.int 0)) (h1 := (px_shX, px_IX, px_JX, px_PX)) rfl rfl rfl (by
    refine px_E_seg 1 (σ' := (1, [(0, .ref 1), (1, .int a1)], [.int a1], (px_shX, px_IX, px_JX, px_PX))) rfl ?_
    refine px_E_ifT (t := 16) rfl rfl (show a1.toInt < (0 : Int) by omega) ?_
    refine px_E_seg 1 (σ' := (17, [(0, .ref 1), (1, .int a1)], [.int 0], (px_shX, px_IX, px_JX, px_PX))) rfl ?_
    exact px_E_ret rfl rfl) ?_
  refine px_E_seg 2 (σ' := (17, [(0, .ref 0), (1, .int a1), (2, .int a2)], [.int (-1)], (px_shX, px_IX, px_JX, px_PX))) rfl ?_
  exact px_E_ret rfl rfl
set_option maxRecDepth 100000 in
set_option maxHeartbeats 4000000 in
theorem px_r30_0 {ro : px_RO} {dd : Nat} (a1 a2 : Int32) (ha1 : (-2147483648) ≤ a1.toInt ∧ a1.toInt ≤ (-1)) (ha2 : (-2147483648) ≤ a2.toInt ∧ a2.toInt ≤ 2147483647) : px_RX ro (dd + 8) 311 [.ref 95, .int a1, .int a2] (.int (-1)) := by
  intro Ic Jc Pc
  refine ⟨(px_shX, (px_mI Ic), (px_mJ Jc), (px_mP Pc)), ?_, rfl⟩
  show px_E ro (dd + 8) 311 (0, _, [], _) _ _
  refine px_E_seg 2 (σ' := (2, [(0, .ref 95), (1, .int a1), (2, .int a2)], [.int a1, .ref 95], (px_shX, (px_mI Ic), (px_mJ Jc), (px_mP Pc)))) rfl ?_
  refine px_E_call (j := 249) (as := [.ref 95, .int a1]) (rest := []) (v := some (.int 0)) (h1 := (px_shX, (px_mI Ic), (px_mJ Jc), (px_mP Pc))) rfl rfl rfl (by
    refine px_E_seg 6 (σ' := (8, [(0, .ref 95), (1, .int a1)], [.int 0, .int 0, .int a1], (px_shX, (px_mI Ic), (px_mJ Jc), (px_mP Pc)))) rfl ?_
    refine px_E_seg 1 (σ' := (9, [(0, .ref 95), (1, .int a1)], [.int 1, .int 0, .int 0, .int a1], (px_shX, (px_mI Ic), (px_mJ Jc), (px_mP Pc)))) rfl ?_
    refine px_E_seg 1 (σ' := (10, [(0, .ref 95), (1, .int a1)], [.int (-1), .int 0, .int a1], (px_shX, (px_mI Ic), (px_mJ Jc), (px_mP Pc)))) rfl ?_
    refine px_E_call (j := 183) (as := [.int a1, .int 0, .int (-1)]) (rest := []) (v := some (.int 0)) (h1 := (px_shX, (px_mI Ic), (px_mJ Jc), (px_mP Pc))) rfl rfl rfl (by
      refine px_E_seg 2 (σ' := (2, [(0, .int a1), (1, .int 0), (2, .int (-1))], [.int 0, .int a1], (px_shX, (px_mI Ic), (px_mJ Jc), (px_mP Pc)))) rfl ?_
      refine px_E_icT (t := 14) rfl rfl (show a1.toInt < (0 : Int) by omega) ?_
      refine px_E_seg 1 (σ' := (15, [(0, .int a1), (1, .int 0), (2, .int (-1))], [.int 0], (px_shX, (px_mI Ic), (px_mJ Jc), (px_mP Pc)))) rfl ?_
      exact px_E_ret rfl rfl) ?_
    exact px_E_ret rfl rfl) ?_
  refine px_E_seg 2 (σ' := (14, [(0, .ref 95), (1, .int a1), (2, .int a2)], [.int (-1)], (px_shX, (px_mI Ic), (px_mJ Jc), (px_mP Pc)))) rfl ?_
  exact px_E_ret rfl rfl
set_option maxRecDepth 100000 in
set_option maxHeartbeats 4000000 in
theorem px_x30_1 {ro : px_RO} {dd : Nat} (a1 a2 : Int32) (ha1 : 0 ≤ a1.toInt ∧ a1.toInt ≤ 2147483647) (ha2 : (-2147483648) ≤ a2.toInt ∧ a2.toInt ≤ 2147483647) : px_CX ro (dd + 8) 154 [.ref 0, .int a1, .int a2] (.int (-1)) := by
  refine ⟨px_IX, px_PX, ?_, px_fr_0, px_frP_0⟩
  show px_E ro (dd + 8) 154 (0, _, [], _) _ _
  refine px_E_seg 3 (σ' := (5, [(0, .ref 0), (1, .int a1), (2, .int a2)], [.int a1, .ref 1], (px_shX, px_IX, px_JX, px_PX))) rfl ?_
  refine px_E_call (j := 99) (as := [.ref 1, .int a1]) (rest := []) (v := some (.int 0)) (h1 := (px_shX, px_IX, px_JX, px_PX)) rfl rfl rfl (by
    refine px_E_seg 1 (σ' := (1, [(0, .ref 1), (1, .int a1)], [.int a1], (px_shX, px_IX, px_JX, px_PX))) rfl ?_
    refine px_E_ifF (t := 16) rfl rfl (show (0 : Int) ≤ a1.toInt by omega) ?_
    refine px_E_seg 3 (σ' := (9, [(0, .ref 1), (1, .int a1)], [.int 0, .int a1], (px_shX, px_IX, px_JX, px_PX))) rfl ?_
    refine px_E_icT (t := 16) rfl rfl (show (0 : Int) ≤ a1.toInt by omega) ?_
    refine px_E_seg 1 (σ' := (17, [(0, .ref 1), (1, .int a1)], [.int 0], (px_shX, px_IX, px_JX, px_PX))) rfl ?_
    exact px_E_ret rfl rfl) ?_
  refine px_E_seg 2 (σ' := (17, [(0, .ref 0), (1, .int a1), (2, .int a2)], [.int (-1)], (px_shX, px_IX, px_JX, px_PX))) rfl ?_
  exact px_E_ret rfl rfl
set_option maxRecDepth 100000 in
set_option maxHeartbeats 4000000 in
theorem px_r30_1 {ro : px_RO} {dd : Nat} (a1 a2 : Int32) (ha1 : 0 ≤ a1.toInt ∧ a1.toInt ≤ 2147483647) (ha2 : (-2147483648) ≤ a2.toInt ∧ a2.toInt ≤ 2147483647) : px_RX ro (dd + 8) 311 [.ref 95, .int a1, .int a2] (.int (-1)) := by
  intro Ic Jc Pc
  refine ⟨(px_shX, (px_mI Ic), (px_mJ Jc), (px_mP Pc)), ?_, rfl⟩
  show px_E ro (dd + 8) 311 (0, _, [], _) _ _
  refine px_E_seg 2 (σ' := (2, [(0, .ref 95), (1, .int a1), (2, .int a2)], [.int a1, .ref 95], (px_shX, (px_mI Ic), (px_mJ Jc), (px_mP Pc)))) rfl ?_
  refine px_E_call (j := 249) (as := [.ref 95, .int a1]) (rest := []) (v := some (.int 0)) (h1 := (px_shX, (px_mI Ic), (px_mJ Jc), (px_mP Pc))) rfl rfl rfl (by
    refine px_E_seg 6 (σ' := (8, [(0, .ref 95), (1, .int a1)], [.int 0, .int 0, .int a1], (px_shX, (px_mI Ic), (px_mJ Jc), (px_mP Pc)))) rfl ?_
    refine px_E_seg 1 (σ' := (9, [(0, .ref 95), (1, .int a1)], [.int 1, .int 0, .int 0, .int a1], (px_shX, (px_mI Ic), (px_mJ Jc), (px_mP Pc)))) rfl ?_
    refine px_E_seg 1 (σ' := (10, [(0, .ref 95), (1, .int a1)], [.int (-1), .int 0, .int a1], (px_shX, (px_mI Ic), (px_mJ Jc), (px_mP Pc)))) rfl ?_
    refine px_E_call (j := 183) (as := [.int a1, .int 0, .int (-1)]) (rest := []) (v := some (.int 0)) (h1 := (px_shX, (px_mI Ic), (px_mJ Jc), (px_mP Pc))) rfl rfl rfl (by
      refine px_E_seg 2 (σ' := (2, [(0, .int a1), (1, .int 0), (2, .int (-1))], [.int 0, .int a1], (px_shX, (px_mI Ic), (px_mJ Jc), (px_mP Pc)))) rfl ?_
      refine px_E_icF (t := 14) rfl rfl (show (0 : Int) ≤ a1.toInt by omega) ?_
      refine px_E_seg 2 (σ' := (7, [(0, .int a1), (1, .int 0), (2, .int (-1))], [.int (-1), .int a1], (px_shX, (px_mI Ic), (px_mJ Jc), (px_mP Pc)))) rfl ?_
      refine px_E_icT (t := 14) rfl rfl (show (-1 : Int) < a1.toInt by omega) ?_
      refine px_E_seg 1 (σ' := (15, [(0, .int a1), (1, .int 0), (2, .int (-1))], [.int 0], (px_shX, (px_mI Ic), (px_mJ Jc), (px_mP Pc)))) rfl ?_
      exact px_E_ret rfl rfl) ?_
    exact px_E_ret rfl rfl) ?_
  refine px_E_seg 2 (σ' := (14, [(0, .ref 95), (1, .int a1), (2, .int a2)], [.int (-1)], (px_shX, (px_mI Ic), (px_mJ Jc), (px_mP Pc)))) rfl ?_
  exact px_E_ret rfl rfl
set_option maxRecDepth 100000 in
set_option maxHeartbeats 4000000 in
theorem px_x31_0 {ro : px_RO} {dd : Nat} (a1 a2 : Int32) (ha1 : (-2147483648) ≤ a1.toInt ∧ a1.toInt ≤ (-1)) (ha2 : (-2147483648) ≤ a2.toInt ∧ a2.toInt ≤ 2147483647) : px_CX ro (dd + 8) 158 [.ref 0, .int a1, .int a2] (.int (-1)) := by
  refine ⟨px_IX, px_PX, ?_, px_fr_0, px_frP_0⟩
  show px_E ro (dd + 8) 158 (0, _, [], _) _ _
  refine px_E_seg 3 (σ' := (5, [(0, .ref 0), (1, .int a1), (2, .int a2)], [.int a1, .ref 1], (px_shX, px_IX, px_JX, px_PX))) rfl ?_
  refine px_E_call (j := 18) (as := [.ref 1, .int a1]) (rest := []) (v := some (.int 0)) (h1 := (px_shX, px_IX, px_JX, px_PX)) rfl rfl rfl (by
    refine px_E_seg 1 (σ' := (1, [(0, .ref 1), (1, .int a1)], [.int a1], (px_shX, px_IX, px_JX, px_PX))) rfl ?_
    refine px_E_ifT (t := 16) rfl rfl (show a1.toInt < (0 : Int) by omega) ?_
    refine px_E_seg 1 (σ' := (17, [(0, .ref 1), (1, .int a1)], [.int 0], (px_shX, px_IX, px_JX, px_PX))) rfl ?_
    exact px_E_ret rfl rfl) ?_
  refine px_E_seg 2 (σ' := (26, [(0, .ref 0), (1, .int a1), (2, .int a2)], [.int (-1)], (px_shX, px_IX, px_JX, px_PX))) rfl ?_
  exact px_E_ret rfl rfl
set_option maxRecDepth 100000 in
set_option maxHeartbeats 4000000 in
theorem px_r31_0 {ro : px_RO} {dd : Nat} (a1 a2 : Int32) (ha1 : (-2147483648) ≤ a1.toInt ∧ a1.toInt ≤ (-1)) (ha2 : (-2147483648) ≤ a2.toInt ∧ a2.toInt ≤ 2147483647) : px_RX ro (dd + 8) 314 [.ref 95, .int a1, .int a2] (.int (-1)) := by
  intro Ic Jc Pc
  refine ⟨(px_shX, (px_mI Ic), (px_mJ Jc), (px_mP Pc)), ?_, rfl⟩
  show px_E ro (dd + 8) 314 (0, _, [], _) _ _
  refine px_E_seg 2 (σ' := (2, [(0, .ref 95), (1, .int a1), (2, .int a2)], [.int a1, .ref 95], (px_shX, (px_mI Ic), (px_mJ Jc), (px_mP Pc)))) rfl ?_
  refine px_E_call (j := 185) (as := [.ref 95, .int a1]) (rest := []) (v := some (.int 0)) (h1 := (px_shX, (px_mI Ic), (px_mJ Jc), (px_mP Pc))) rfl rfl rfl (by
    refine px_E_seg 6 (σ' := (8, [(0, .ref 95), (1, .int a1)], [.int 0, .int 0, .int a1], (px_shX, (px_mI Ic), (px_mJ Jc), (px_mP Pc)))) rfl ?_
    refine px_E_seg 1 (σ' := (9, [(0, .ref 95), (1, .int a1)], [.int 1, .int 0, .int 0, .int a1], (px_shX, (px_mI Ic), (px_mJ Jc), (px_mP Pc)))) rfl ?_
    refine px_E_seg 1 (σ' := (10, [(0, .ref 95), (1, .int a1)], [.int (-1), .int 0, .int a1], (px_shX, (px_mI Ic), (px_mJ Jc), (px_mP Pc)))) rfl ?_
    refine px_E_call (j := 183) (as := [.int a1, .int 0, .int (-1)]) (rest := []) (v := some (.int 0)) (h1 := (px_shX, (px_mI Ic), (px_mJ Jc), (px_mP Pc))) rfl rfl rfl (by
      refine px_E_seg 2 (σ' := (2, [(0, .int a1), (1, .int 0), (2, .int (-1))], [.int 0, .int a1], (px_shX, (px_mI Ic), (px_mJ Jc), (px_mP Pc)))) rfl ?_
      refine px_E_icT (t := 14) rfl rfl (show a1.toInt < (0 : Int) by omega) ?_
      refine px_E_seg 1 (σ' := (15, [(0, .int a1), (1, .int 0), (2, .int (-1))], [.int 0], (px_shX, (px_mI Ic), (px_mJ Jc), (px_mP Pc)))) rfl ?_
      exact px_E_ret rfl rfl) ?_
    exact px_E_ret rfl rfl) ?_
  refine px_E_seg 2 (σ' := (35, [(0, .ref 95), (1, .int a1), (2, .int a2)], [.int (-1)], (px_shX, (px_mI Ic), (px_mJ Jc), (px_mP Pc)))) rfl ?_
  exact px_E_ret rfl rfl
set_option maxRecDepth 100000 in
set_option maxHeartbeats 4000000 in
theorem px_x31_1 {ro : px_RO} {dd : Nat} (a1 a2 : Int32) (ha1 : 0 ≤ a1.toInt ∧ a1.toInt ≤ 2147483647) (ha2 : (-2147483648) ≤ a2.toInt ∧ a2.toInt ≤ 2147483647) : px_CX ro (dd + 8) 158 [.ref 0, .int a1, .int a2] (.int (-1)) := by
  refine ⟨px_IX, px_PX, ?_, px_fr_0, px_frP_0⟩
  show px_E ro (dd + 8) 158 (0, _, [], _) _ _
  refine px_E_seg 3 (σ' := (5, [(0, .ref 0), (1, .int a1), (2, .int a2)], [.int a1, .ref 1], (px_shX, px_IX, px_JX, px_PX))) rfl ?_
  refine px_E_call (j := 18) (as := [.ref 1, .int a1]) (rest := []) (v := some (.int 0)) (h1 := (px_shX, px_IX, px_JX, px_PX)) rfl rfl rfl (by
    refine px_E_seg 1 (σ' := (1, [(0, .ref 1), (1, .int a1)], [.int a1], (px_shX, px_IX, px_JX, px_PX))) rfl ?_
    refine px_E_ifF (t := 16) rfl rfl (show (0 : Int) ≤ a1.toInt by omega) ?_
    refine px_E_seg 3 (σ' := (9, [(0, .ref 1), (1, .int a1)], [.int 0, .int a1], (px_shX, px_IX, px_JX, px_PX))) rfl ?_
    refine px_E_icT (t := 16) rfl rfl (show (0 : Int) ≤ a1.toInt by omega) ?_
    refine px_E_seg 1 (σ' := (17, [(0, .ref 1), (1, .int a1)], [.int 0], (px_shX, px_IX, px_JX, px_PX))) rfl ?_
    exact px_E_ret rfl rfl) ?_
  refine px_E_seg 2 (σ' := (26, [(0, .ref 0), (1, .int a1), (2, .int a2)], [.int (-1)], (px_shX, px_IX, px_JX, px_PX))) rfl ?_
  exact px_E_ret rfl rfl
set_option maxRecDepth 100000 in
set_option maxHeartbeats 4000000 in
theorem px_r31_1 {ro : px_RO} {dd : Nat} (a1 a2 : Int32) (ha1 : 0 ≤ a1.toInt ∧ a1.toInt ≤ 2147483647) (ha2 : (-2147483648) ≤ a2.toInt ∧ a2.toInt ≤ 2147483647) : px_RX ro (dd + 8) 314 [.ref 95, .int a1, .int a2] (.int (-1)) := by
  intro Ic Jc Pc
  refine ⟨(px_shX, (px_mI Ic), (px_mJ Jc), (px_mP Pc)), ?_, rfl⟩
  show px_E ro (dd + 8) 314 (0, _, [], _) _ _
  refine px_E_seg 2 (σ' := (2, [(0, .ref 95), (1, .int a1), (2, .int a2)], [.int a1, .ref 95], (px_shX, (px_mI Ic), (px_mJ Jc), (px_mP Pc)))) rfl ?_
  refine px_E_call (j := 185) (as := [.ref 95, .int a1]) (rest := []) (v := some (.int 0)) (h1 := (px_shX, (px_mI Ic), (px_mJ Jc), (px_mP Pc))) rfl rfl rfl (by
    refine px_E_seg 6 (σ' := (8, [(0, .ref 95), (1, .int a1)], [.int 0, .int 0, .int a1], (px_shX, (px_mI Ic), (px_mJ Jc), (px_mP Pc)))) rfl ?_
    refine px_E_seg 1 (σ' := (9, [(0, .ref 95), (1, .int a1)], [.int 1, .int 0, .int 0, .int a1], (px_shX, (px_mI Ic), (px_mJ Jc), (px_mP Pc)))) rfl ?_
    refine px_E_seg 1 (σ' := (10, [(0, .ref 95), (1, .int a1)], [.int (-1), .int 0, .int a1], (px_shX, (px_mI Ic), (px_mJ Jc), (px_mP Pc)))) rfl ?_
    refine px_E_call (j := 183) (as := [.int a1, .int 0, .int (-1)]) (rest := []) (v := some (.int 0)) (h1 := (px_shX, (px_mI Ic), (px_mJ Jc), (px_mP Pc))) rfl rfl rfl (by
      refine px_E_seg 2 (σ' := (2, [(0, .int a1), (1, .int 0), (2, .int (-1))], [.int 0, .int a1], (px_shX, (px_mI Ic), (px_mJ Jc), (px_mP Pc)))) rfl ?_
      refine px_E_icF (t := 14) rfl rfl (show (0 : Int) ≤ a1.toInt by omega) ?_
      refine px_E_seg 2 (σ' := (7, [(0, .int a1), (1, .int 0), (2, .int (-1))], [.int (-1), .int a1], (px_shX, (px_mI Ic), (px_mJ Jc), (px_mP Pc)))) rfl ?_
      refine px_E_icT (t := 14) rfl rfl (show (-1 : Int) < a1.toInt by omega) ?_
      refine px_E_seg 1 (σ' := (15, [(0, .int a1), (1, .int 0), (2, .int (-1))], [.int 0], (px_shX, (px_mI Ic), (px_mJ Jc), (px_mP Pc)))) rfl ?_
      exact px_E_ret rfl rfl) ?_
    exact px_E_ret rfl rfl) ?_
  refine px_E_seg 2 (σ' := (35, [(0, .ref 95), (1, .int a1), (2, .int a2)], [.int (-1)], (px_shX, (px_mI Ic), (px_mJ Jc), (px_mP Pc)))) rfl ?_
  exact px_E_ret rfl rfl
set_option maxRecDepth 100000 in
set_option maxHeartbeats 4000000 in
theorem px_x32_0 {ro : px_RO} {dd : Nat}  : px_CX ro (dd + 8) 161 [.ref 0] (.int (-1)) := by
  refine ⟨px_IX, px_PX, ?_, px_fr_0, px_frP_0⟩
  show px_E ro (dd + 8) 161 (0, _, [], _) _ _
  refine px_E_seg 4 (σ' := (4, [(1, .int (-1)), (0, .ref 0)], [.int (-1), .ref 0], (px_shX, px_IX, px_JX, px_PX))) rfl ?_
  refine px_E_call (j := 162) (as := [.ref 0, .int (-1)]) (rest := []) (v := some (.int 0)) (h1 := (px_shX, px_IX, px_JX, px_PX)) rfl rfl rfl (by
    refine px_E_seg 6 (σ' := (6, [(3, .int 0), (2, .int 0), (0, .ref 0), (1, .int (-1))], [.ref 0, .int 0], (px_shX, px_IX, px_JX, px_PX))) rfl ?_
    refine px_E_seg 4 (σ' := (48, [(3, .int 0), (2, .int 0), (0, .ref 0), (1, .int (-1))], [.int 0], (px_shX, px_IX, px_JX, px_PX))) rfl ?_
    exact px_E_ret rfl rfl) ?_
  refine px_E_seg 6 (σ' := (15, [(3, .int 0), (2, .int 0), (1, .int (-1)), (0, .ref 0)], [.int 0, .int 0], (px_shX, px_IX, px_JX, px_PX))) rfl ?_
  refine px_E_seg 2 (σ' := (43, [(3, .int 0), (2, .int 0), (1, .int (-1)), (0, .ref 0)], [.int (-1)], (px_shX, px_IX, px_JX, px_PX))) rfl ?_
  exact px_E_ret rfl rfl
set_option maxRecDepth 100000 in
set_option maxHeartbeats 4000000 in
theorem px_r32_0 {ro : px_RO} {dd : Nat}  : px_RX ro (dd + 8) 316 [.ref 95] (.int (-1)) := by
  intro Ic Jc Pc
  refine ⟨(px_shX, (px_mI Ic), (px_mJ Jc), (px_mP Pc)), ?_, rfl⟩
  show px_E ro (dd + 8) 316 (0, _, [], _) _ _
  refine px_E_seg 6 (σ' := (6, [(2, .int 0), (1, .int (-1)), (0, .ref 95)], [.ref 95, .int 0], (px_shX, (px_mI Ic), (px_mJ Jc), (px_mP Pc)))) rfl ?_
  refine px_E_seg 5 (σ' := (37, [(2, .int 0), (1, .int (-1)), (0, .ref 95)], [.int (-1)], (px_shX, (px_mI Ic), (px_mJ Jc), (px_mP Pc)))) rfl ?_
  exact px_E_ret rfl rfl
set_option maxRecDepth 100000 in
set_option maxHeartbeats 4000000 in
theorem px_x33_0 {ro : px_RO} {dd : Nat} (a1 a2 a3 a4 a5 : Int32) (ha1 : (-2147483648) ≤ a1.toInt ∧ a1.toInt ≤ (-1)) (ha2 : (-2147483648) ≤ a2.toInt ∧ a2.toInt ≤ 2147483647) (ha3 : (-2147483648) ≤ a3.toInt ∧ a3.toInt ≤ 2147483647) (ha4 : (-2147483648) ≤ a4.toInt ∧ a4.toInt ≤ 2147483647) (ha5 : (-2147483648) ≤ a5.toInt ∧ a5.toInt ≤ 2147483647) : px_CX ro (dd + 8) 163 [.ref 0, .int a1, .int a2, .int a3, .int a4, .int a5] (.int 0) := by
  refine ⟨px_IX, px_PX, ?_, px_fr_0, px_frP_0⟩
  show px_E ro (dd + 8) 163 (0, _, [], _) _ _
  refine px_E_seg 3 (σ' := (5, [(0, .ref 0), (1, .int a1), (2, .int a2), (3, .int a3), (4, .int a4), (5, .int a5)], [.int a1, .ref 1], (px_shX, px_IX, px_JX, px_PX))) rfl ?_
  refine px_E_call (j := 89) (as := [.ref 1, .int a1]) (rest := []) (v := some (.int 0)) (h1 := (px_shX, px_IX, px_JX, px_PX)) rfl rfl rfl (by
    refine px_E_seg 1 (σ' := (1, [(0, .ref 1), (1, .int a1)], [.int a1], (px_shX, px_IX, px_JX, px_PX))) rfl ?_
    refine px_E_ifT (t := 25) rfl rfl (show a1.toInt < (0 : Int) by omega) ?_
    refine px_E_seg 1 (σ' := (26, [(0, .ref 1), (1, .int a1)], [.int 0], (px_shX, px_IX, px_JX, px_PX))) rfl ?_
    exact px_E_ret rfl rfl) ?_
  refine px_E_seg 6 (σ' := (72, [(6, .int 0), (0, .ref 0), (1, .int a1), (2, .int a2), (3, .int a3), (4, .int a4), (5, .int a5)], [.int 0], (px_shX, px_IX, px_JX, px_PX))) rfl ?_
  refine px_E_seg 4 (σ' := (102, [(6, .int 0), (0, .ref 0), (1, .int a1), (2, .int a2), (3, .int a3), (4, .int a4), (5, .int a5)], [.int 0], (px_shX, px_IX, px_JX, px_PX))) rfl ?_
  exact px_E_ret rfl rfl
set_option maxRecDepth 100000 in
set_option maxHeartbeats 4000000 in
theorem px_r33_0 {ro : px_RO} {dd : Nat} (a1 a2 a3 a4 a5 : Int32) (ha1 : (-2147483648) ≤ a1.toInt ∧ a1.toInt ≤ (-1)) (ha2 : (-2147483648) ≤ a2.toInt ∧ a2.toInt ≤ 2147483647) (ha3 : (-2147483648) ≤ a3.toInt ∧ a3.toInt ≤ 2147483647) (ha4 : (-2147483648) ≤ a4.toInt ∧ a4.toInt ≤ 2147483647) (ha5 : (-2147483648) ≤ a5.toInt ∧ a5.toInt ≤ 2147483647) : px_RX ro (dd + 8) 318 [.ref 95, .int a1, .int a2, .int a3, .int a4, .int a5] (.int 0) := by
  intro Ic Jc Pc
  refine ⟨(px_shX, (px_mI Ic), (px_mJ Jc), (px_mP Pc)), ?_, rfl⟩
  show px_E ro (dd + 8) 318 (0, _, [], _) _ _
  refine px_E_seg 2 (σ' := (2, [(0, .ref 95), (1, .int a1), (2, .int a2), (3, .int a3), (4, .int a4), (5, .int a5)], [.int a1, .ref 95], (px_shX, (px_mI Ic), (px_mJ Jc), (px_mP Pc)))) rfl ?_
  refine px_E_call (j := 251) (as := [.ref 95, .int a1]) (rest := []) (v := some (.int 0)) (h1 := (px_shX, (px_mI Ic), (px_mJ Jc), (px_mP Pc))) rfl rfl rfl (by
    refine px_E_seg 6 (σ' := (8, [(0, .ref 95), (1, .int a1)], [.int 0, .int 0, .int a1], (px_shX, (px_mI Ic), (px_mJ Jc), (px_mP Pc)))) rfl ?_
    refine px_E_seg 1 (σ' := (9, [(0, .ref 95), (1, .int a1)], [.int 1, .int 0, .int 0, .int a1], (px_shX, (px_mI Ic), (px_mJ Jc), (px_mP Pc)))) rfl ?_
    refine px_E_seg 1 (σ' := (10, [(0, .ref 95), (1, .int a1)], [.int (-1), .int 0, .int a1], (px_shX, (px_mI Ic), (px_mJ Jc), (px_mP Pc)))) rfl ?_
    refine px_E_call (j := 183) (as := [.int a1, .int 0, .int (-1)]) (rest := []) (v := some (.int 0)) (h1 := (px_shX, (px_mI Ic), (px_mJ Jc), (px_mP Pc))) rfl rfl rfl (by
      refine px_E_seg 2 (σ' := (2, [(0, .int a1), (1, .int 0), (2, .int (-1))], [.int 0, .int a1], (px_shX, (px_mI Ic), (px_mJ Jc), (px_mP Pc)))) rfl ?_
      refine px_E_icT (t := 14) rfl rfl (show a1.toInt < (0 : Int) by omega) ?_
      refine px_E_seg 1 (σ' := (15, [(0, .int a1), (1, .int 0), (2, .int (-1))], [.int 0], (px_shX, (px_mI Ic), (px_mJ Jc), (px_mP Pc)))) rfl ?_
      exact px_E_ret rfl rfl) ?_
    exact px_E_ret rfl rfl) ?_
  refine px_E_seg 2 (σ' := (61, [(0, .ref 95), (1, .int a1), (2, .int a2), (3, .int a3), (4, .int a4), (5, .int a5)], [.int 0], (px_shX, (px_mI Ic), (px_mJ Jc), (px_mP Pc)))) rfl ?_
  exact px_E_ret rfl rfl
set_option maxRecDepth 100000 in
set_option maxHeartbeats 4000000 in
theorem px_x33_1 {ro : px_RO} {dd : Nat} (a1 a2 a3 a4 a5 : Int32) (ha1 : 0 ≤ a1.toInt ∧ a1.toInt ≤ 2147483647) (ha2 : (-2147483648) ≤ a2.toInt ∧ a2.toInt ≤ 2147483647) (ha3 : (-2147483648) ≤ a3.toInt ∧ a3.toInt ≤ 2147483647) (ha4 : (-2147483648) ≤ a4.toInt ∧ a4.toInt ≤ 2147483647) (ha5 : (-2147483648) ≤ a5.toInt ∧ a5.toInt ≤ 2147483647) : px_CX ro (dd + 8) 163 [.ref 0, .int a1, .int a2, .int a3, .int a4, .int a5] (.int 0) := by
  refine ⟨px_IX, px_PX, ?_, px_fr_0, px_frP_0⟩
  show px_E ro (dd + 8) 163 (0, _, [], _) _ _
  refine px_E_seg 3 (σ' := (5, [(0, .ref 0), (1, .int a1), (2, .int a2), (3, .int a3), (4, .int a4), (5, .int a5)], [.int a1, .ref 1], (px_shX, px_IX, px_JX, px_PX))) rfl ?_
  refine px_E_call (j := 89) (as := [.ref 1, .int a1]) (rest := []) (v := some (.int 0)) (h1 := (px_shX, px_IX, px_JX, px_PX)) rfl rfl rfl (by
    refine px_E_seg 1 (σ' := (1, [(0, .ref 1), (1, .int a1)], [.int a1], (px_shX, px_IX, px_JX, px_PX))) rfl ?_
    refine px_E_ifF (t := 25) rfl rfl (show (0 : Int) ≤ a1.toInt by omega) ?_
    refine px_E_seg 3 (σ' := (9, [(0, .ref 1), (1, .int a1)], [.int 0, .int a1], (px_shX, px_IX, px_JX, px_PX))) rfl ?_
    refine px_E_icT (t := 25) rfl rfl (show (0 : Int) ≤ a1.toInt by omega) ?_
    refine px_E_seg 1 (σ' := (26, [(0, .ref 1), (1, .int a1)], [.int 0], (px_shX, px_IX, px_JX, px_PX))) rfl ?_
    exact px_E_ret rfl rfl) ?_
  refine px_E_seg 6 (σ' := (72, [(6, .int 0), (0, .ref 0), (1, .int a1), (2, .int a2), (3, .int a3), (4, .int a4), (5, .int a5)], [.int 0], (px_shX, px_IX, px_JX, px_PX))) rfl ?_
  refine px_E_seg 4 (σ' := (102, [(6, .int 0), (0, .ref 0), (1, .int a1), (2, .int a2), (3, .int a3), (4, .int a4), (5, .int a5)], [.int 0], (px_shX, px_IX, px_JX, px_PX))) rfl ?_
  exact px_E_ret rfl rfl
set_option maxRecDepth 100000 in
set_option maxHeartbeats 4000000 in
theorem px_r33_1 {ro : px_RO} {dd : Nat} (a1 a2 a3 a4 a5 : Int32) (ha1 : 0 ≤ a1.toInt ∧ a1.toInt ≤ 2147483647) (ha2 : (-2147483648) ≤ a2.toInt ∧ a2.toInt ≤ 2147483647) (ha3 : (-2147483648) ≤ a3.toInt ∧ a3.toInt ≤ 2147483647) (ha4 : (-2147483648) ≤ a4.toInt ∧ a4.toInt ≤ 2147483647) (ha5 : (-2147483648) ≤ a5.toInt ∧ a5.toInt ≤ 2147483647) : px_RX ro (dd + 8) 318 [.ref 95, .int a1, .int a2, .int a3, .int a4, .int a5] (.int 0) := by
  intro Ic Jc Pc
  refine ⟨(px_shX, (px_mI Ic), (px_mJ Jc), (px_mP Pc)), ?_, rfl⟩
  show px_E ro (dd + 8) 318 (0, _, [], _) _ _
  refine px_E_seg 2 (σ' := (2, [(0, .ref 95), (1, .int a1), (2, .int a2), (3, .int a3), (4, .int a4), (5, .int a5)], [.int a1, .ref 95], (px_shX, (px_mI Ic), (px_mJ Jc), (px_mP Pc)))) rfl ?_
  refine px_E_call (j := 251) (as := [.ref 95, .int a1]) (rest := []) (v := some (.int 0)) (h1 := (px_shX, (px_mI Ic), (px_mJ Jc), (px_mP Pc))) rfl rfl rfl (by
    refine px_E_seg 6 (σ' := (8, [(0, .ref 95), (1, .int a1)], [.int 0, .int 0, .int a1], (px_shX, (px_mI Ic), (px_mJ Jc), (px_mP Pc)))) rfl ?_
    refine px_E_seg 1 (σ' := (9, [(0, .ref 95), (1, .int a1)], [.int 1, .int 0, .int 0, .int a1], (px_shX, (px_mI Ic), (px_mJ Jc), (px_mP Pc)))) rfl ?_
    refine px_E_seg 1 (σ' := (10, [(0, .ref 95), (1, .int a1)], [.int (-1), .int 0, .int a1], (px_shX, (px_mI Ic), (px_mJ Jc), (px_mP Pc)))) rfl ?_
    refine px_E_call (j := 183) (as := [.int a1, .int 0, .int (-1)]) (rest := []) (v := some (.int 0)) (h1 := (px_shX, (px_mI Ic), (px_mJ Jc), (px_mP Pc))) rfl rfl rfl (by
      refine px_E_seg 2 (σ' := (2, [(0, .int a1), (1, .int 0), (2, .int (-1))], [.int 0, .int a1], (px_shX, (px_mI Ic), (px_mJ Jc), (px_mP Pc)))) rfl ?_
      refine px_E_icF (t := 14) rfl rfl (show (0 : Int) ≤ a1.toInt by omega) ?_
      refine px_E_seg 2 (σ' := (7, [(0, .int a1), (1, .int 0), (2, .int (-1))], [.int (-1), .int a1], (px_shX, (px_mI Ic), (px_mJ Jc), (px_mP Pc)))) rfl ?_
      refine px_E_icT (t := 14) rfl rfl (show (-1 : Int) < a1.toInt by omega) ?_
      refine px_E_seg 1 (σ' := (15, [(0, .int a1), (1, .int 0), (2, .int (-1))], [.int 0], (px_shX, (px_mI Ic), (px_mJ Jc), (px_mP Pc)))) rfl ?_
      exact px_E_ret rfl rfl) ?_
    exact px_E_ret rfl rfl) ?_
  refine px_E_seg 2 (σ' := (61, [(0, .ref 95), (1, .int a1), (2, .int a2), (3, .int a3), (4, .int a4), (5, .int a5)], [.int 0], (px_shX, (px_mI Ic), (px_mJ Jc), (px_mP Pc)))) rfl ?_
  exact px_E_ret rfl rfl
set_option maxRecDepth 100000 in
set_option maxHeartbeats 4000000 in
theorem px_x34_0 {ro : px_RO} {dd : Nat} (a1 : Int32) (ha1 : (-2147483648) ≤ a1.toInt ∧ a1.toInt ≤ (-2)) : px_CX ro (dd + 8) 164 [.ref 0, .int a1] (.int (-10000)) := by
  refine ⟨px_IX, px_PX, ?_, px_fr_0, px_frP_0⟩
  show px_E ro (dd + 8) 164 (0, _, [], _) _ _
  refine px_E_seg 2 (σ' := (2, [(0, .ref 0), (1, .int a1)], [.int (-1), .int a1], (px_shX, px_IX, px_JX, px_PX))) rfl ?_
  refine px_E_icT (t := 13) rfl rfl (show a1.toInt ≠ (-1 : Int) by omega) ?_
  refine px_E_seg 3 (σ' := (18, [(0, .ref 0), (1, .int a1)], [.int a1, .ref 1], (px_shX, px_IX, px_JX, px_PX))) rfl ?_
  refine px_E_call (j := 79) (as := [.ref 1, .int a1]) (rest := []) (v := some (.int 0)) (h1 := (px_shX, px_IX, px_JX, px_PX)) rfl rfl rfl (by
    refine px_E_seg 1 (σ' := (1, [(0, .ref 1), (1, .int a1)], [.int a1], (px_shX, px_IX, px_JX, px_PX))) rfl ?_
    refine px_E_ifT (t := 16) rfl rfl (show a1.toInt < (0 : Int) by omega) ?_
    refine px_E_seg 1 (σ' := (17, [(0, .ref 1), (1, .int a1)], [.int 0], (px_shX, px_IX, px_JX, px_PX))) rfl ?_
    exact px_E_ret rfl rfl) ?_
  refine px_E_seg 2 (σ' := (39, [(0, .ref 0), (1, .int a1)], [.int (-10000)], (px_shX, px_IX, px_JX, px_PX))) rfl ?_
  exact px_E_ret rfl rfl
set_option maxRecDepth 100000 in
set_option maxHeartbeats 4000000 in
theorem px_r34_0 {ro : px_RO} {dd : Nat} (a1 : Int32) (ha1 : (-2147483648) ≤ a1.toInt ∧ a1.toInt ≤ (-2)) : px_RX ro (dd + 8) 319 [.ref 95, .int a1] (.int (-10000)) := by
  intro Ic Jc Pc
  refine ⟨(px_shX, (px_mI Ic), (px_mJ Jc), (px_mP Pc)), ?_, rfl⟩
  show px_E ro (dd + 8) 319 (0, _, [], _) _ _
  refine px_E_seg 2 (σ' := (2, [(0, .ref 95), (1, .int a1)], [.int (-1), .int a1], (px_shX, (px_mI Ic), (px_mJ Jc), (px_mP Pc)))) rfl ?_
  refine px_E_icF (t := 41) rfl rfl (show a1.toInt ≠ (-1 : Int) by omega) ?_
  refine px_E_seg 2 (σ' := (7, [(0, .ref 95), (1, .int a1)], [.int a1, .ref 95], (px_shX, (px_mI Ic), (px_mJ Jc), (px_mP Pc)))) rfl ?_
  refine px_E_call (j := 251) (as := [.ref 95, .int a1]) (rest := []) (v := some (.int 0)) (h1 := (px_shX, (px_mI Ic), (px_mJ Jc), (px_mP Pc))) rfl rfl rfl (by
    refine px_E_seg 6 (σ' := (8, [(0, .ref 95), (1, .int a1)], [.int 0, .int 0, .int a1], (px_shX, (px_mI Ic), (px_mJ Jc), (px_mP Pc)))) rfl ?_
    refine px_E_seg 1 (σ' := (9, [(0, .ref 95), (1, .int a1)], [.int 1, .int 0, .int 0, .int a1], (px_shX, (px_mI Ic), (px_mJ Jc), (px_mP Pc)))) rfl ?_
    refine px_E_seg 1 (σ' := (10, [(0, .ref 95), (1, .int a1)], [.int (-1), .int 0, .int a1], (px_shX, (px_mI Ic), (px_mJ Jc), (px_mP Pc)))) rfl ?_
    refine px_E_call (j := 183) (as := [.int a1, .int 0, .int (-1)]) (rest := []) (v := some (.int 0)) (h1 := (px_shX, (px_mI Ic), (px_mJ Jc), (px_mP Pc))) rfl rfl rfl (by
      refine px_E_seg 2 (σ' := (2, [(0, .int a1), (1, .int 0), (2, .int (-1))], [.int 0, .int a1], (px_shX, (px_mI Ic), (px_mJ Jc), (px_mP Pc)))) rfl ?_
      refine px_E_icT (t := 14) rfl rfl (show a1.toInt < (0 : Int) by omega) ?_
      refine px_E_seg 1 (σ' := (15, [(0, .int a1), (1, .int 0), (2, .int (-1))], [.int 0], (px_shX, (px_mI Ic), (px_mJ Jc), (px_mP Pc)))) rfl ?_
      exact px_E_ret rfl rfl) ?_
    exact px_E_ret rfl rfl) ?_
  refine px_E_seg 2 (σ' := (40, [(0, .ref 95), (1, .int a1)], [.int (-10000)], (px_shX, (px_mI Ic), (px_mJ Jc), (px_mP Pc)))) rfl ?_
  exact px_E_ret rfl rfl
set_option maxRecDepth 100000 in
set_option maxHeartbeats 4000000 in
theorem px_x34_1 {ro : px_RO} {dd : Nat}  : px_CX ro (dd + 8) 164 [.ref 0, .int (-1)] (.int (-1)) := by
  refine ⟨px_IX, px_PX, ?_, px_fr_0, px_frP_0⟩
  show px_E ro (dd + 8) 164 (0, _, [], _) _ _
  refine px_E_seg 5 (σ' := (9, [(0, .ref 0), (1, .int (-1))], [.ref 25], (px_shX, px_IX, px_JX, px_PX))) rfl ?_
  refine px_E_call (j := 165) (as := [.ref 25]) (rest := []) (v := some (.int (-1))) (h1 := (px_shX, px_IX, px_JX, px_PX)) rfl rfl rfl (by
    refine px_E_seg 6 (σ' := (6, [(3, .int 0), (2, .int 0), (1, .int (-1)), (0, .ref 25)], [], (px_shX, px_IX, px_JX, px_PX))) rfl ?_
    refine px_E_seg 6 (σ' := (17, [(3, .int 0), (2, .int 0), (1, .int (-1)), (0, .ref 25)], [.int 0, .ref 28], (px_shX, px_IX, px_JX, px_PX))) rfl ?_
    refine px_E_seg 6 (σ' := (7, [(3, .int 1), (2, .int 0), (1, .int (-1)), (0, .ref 25)], [.int 1], (px_shX, px_IX, px_JX, px_PX))) rfl ?_
    refine px_E_seg 6 (σ' := (18, [(3, .int 1), (2, .int 0), (1, .int (-1)), (0, .ref 25)], [.int (-10000)], (px_shX, px_IX, px_JX, px_PX))) rfl ?_
    refine px_E_seg 6 (σ' := (9, [(3, .int 2), (2, .int 0), (1, .int (-1)), (0, .ref 25)], [.int 16, .int 2], (px_shX, px_IX, px_JX, px_PX))) rfl ?_
    refine px_E_seg 6 (σ' := (19, [(3, .int 2), (2, .int 0), (1, .int (-1)), (0, .ref 25)], [.int 0, .int (-10000)], (px_shX, px_IX, px_JX, px_PX))) rfl ?_
    refine px_E_seg 6 (σ' := (12, [(3, .int 3), (2, .int 0), (1, .int (-1)), (0, .ref 25)], [], (px_shX, px_IX, px_JX, px_PX))) rfl ?_
    refine px_E_seg 6 (σ' := (31, [(3, .int 3), (2, .int 0), (1, .int (-1)), (0, .ref 25)], [], (px_shX, px_IX, px_JX, px_PX))) rfl ?_
    refine px_E_seg 6 (σ' := (13, [(3, .int 4), (2, .int 0), (1, .int (-1)), (0, .ref 25)], [.ref 25], (px_shX, px_IX, px_JX, px_PX))) rfl ?_
    refine px_E_seg 6 (σ' := (34, [(3, .int 5), (2, .int 0), (1, .int (-1)), (0, .ref 25)], [], (px_shX, px_IX, px_JX, px_PX))) rfl ?_
    refine px_E_seg 6 (σ' := (16, [(3, .int 5), (2, .int 0), (1, .int (-1)), (0, .ref 25)], [.ref 28], (px_shX, px_IX, px_JX, px_PX))) rfl ?_
    refine px_E_seg 6 (σ' := (6, [(3, .int 6), (2, .int 0), (1, .int (-1)), (0, .ref 25)], [], (px_shX, px_IX, px_JX, px_PX))) rfl ?_
    refine px_E_seg 6 (σ' := (17, [(3, .int 6), (2, .int 0), (1, .int (-1)), (0, .ref 25)], [.int 6, .ref 28], (px_shX, px_IX, px_JX, px_PX))) rfl ?_
    refine px_E_seg 6 (σ' := (7, [(3, .int 7), (2, .int 0), (1, .int (-1)), (0, .ref 25)], [.int 7], (px_shX, px_IX, px_JX, px_PX))) rfl ?_
    refine px_E_seg 6 (σ' := (18, [(3, .int 7), (2, .int 0), (1, .int (-1)), (0, .ref 25)], [.int (-10000)], (px_shX, px_IX, px_JX, px_PX))) rfl ?_
    refine px_E_seg 6 (σ' := (9, [(3, .int 8), (2, .int 0), (1, .int (-1)), (0, .ref 25)], [.int 16, .int 8], (px_shX, px_IX, px_JX, px_PX))) rfl ?_
    refine px_E_seg 6 (σ' := (19, [(3, .int 8), (2, .int 0), (1, .int (-1)), (0, .ref 25)], [.int 0, .int (-10000)], (px_shX, px_IX, px_JX, px_PX))) rfl ?_
    refine px_E_seg 6 (σ' := (12, [(3, .int 9), (2, .int 0), (1, .int (-1)), (0, .ref 25)], [], (px_shX, px_IX, px_JX, px_PX))) rfl ?_
    refine px_E_seg 6 (σ' := (31, [(3, .int 9), (2, .int 0), (1, .int (-1)), (0, .ref 25)], [], (px_shX, px_IX, px_JX, px_PX))) rfl ?_
    refine px_E_seg 6 (σ' := (13, [(3, .int 10), (2, .int 0), (1, .int (-1)), (0, .ref 25)], [.ref 25], (px_shX, px_IX, px_JX, px_PX))) rfl ?_
    refine px_E_seg 6 (σ' := (34, [(3, .int 11), (2, .int 0), (1, .int (-1)), (0, .ref 25)], [], (px_shX, px_IX, px_JX, px_PX))) rfl ?_
    refine px_E_seg 6 (σ' := (16, [(3, .int 11), (2, .int 0), (1, .int (-1)), (0, .ref 25)], [.ref 28], (px_shX, px_IX, px_JX, px_PX))) rfl ?_
    refine px_E_seg 6 (σ' := (6, [(3, .int 12), (2, .int 0), (1, .int (-1)), (0, .ref 25)], [], (px_shX, px_IX, px_JX, px_PX))) rfl ?_
    refine px_E_seg 6 (σ' := (17, [(3, .int 12), (2, .int 0), (1, .int (-1)), (0, .ref 25)], [.int 12, .ref 28], (px_shX, px_IX, px_JX, px_PX))) rfl ?_
    refine px_E_seg 6 (σ' := (7, [(3, .int 13), (2, .int 0), (1, .int (-1)), (0, .ref 25)], [.int 13], (px_shX, px_IX, px_JX, px_PX))) rfl ?_
    refine px_E_seg 6 (σ' := (18, [(3, .int 13), (2, .int 0), (1, .int (-1)), (0, .ref 25)], [.int (-10000)], (px_shX, px_IX, px_JX, px_PX))) rfl ?_
    refine px_E_seg 6 (σ' := (9, [(3, .int 14), (2, .int 0), (1, .int (-1)), (0, .ref 25)], [.int 16, .int 14], (px_shX, px_IX, px_JX, px_PX))) rfl ?_
    refine px_E_seg 6 (σ' := (19, [(3, .int 14), (2, .int 0), (1, .int (-1)), (0, .ref 25)], [.int 0, .int (-10000)], (px_shX, px_IX, px_JX, px_PX))) rfl ?_
    refine px_E_seg 6 (σ' := (12, [(3, .int 15), (2, .int 0), (1, .int (-1)), (0, .ref 25)], [], (px_shX, px_IX, px_JX, px_PX))) rfl ?_
    refine px_E_seg 6 (σ' := (31, [(3, .int 15), (2, .int 0), (1, .int (-1)), (0, .ref 25)], [], (px_shX, px_IX, px_JX, px_PX))) rfl ?_
    refine px_E_seg 6 (σ' := (38, [(3, .int 16), (2, .int 0), (1, .int (-1)), (0, .ref 25)], [.int (-1)], (px_shX, px_IX, px_JX, px_PX))) rfl ?_
    exact px_E_ret rfl rfl) ?_
  exact px_E_ret rfl rfl
set_option maxRecDepth 100000 in
set_option maxHeartbeats 4000000 in
theorem px_r34_1 {ro : px_RO} {dd : Nat}  : px_RX ro (dd + 8) 319 [.ref 95, .int (-1)] (.int (-1)) := by
  intro Ic Jc Pc
  refine ⟨(px_shX, (px_mI Ic), (px_mJ Jc), (px_mP Pc)), ?_, rfl⟩
  show px_E ro (dd + 8) 319 (0, _, [], _) _ _
  refine px_E_seg 6 (σ' := (44, [(2, .int (-1)), (0, .ref 95), (1, .int (-1))], [.int 0], (px_shX, (px_mI Ic), (px_mJ Jc), (px_mP Pc)))) rfl ?_
  refine px_E_seg 6 (σ' := (54, [(4, .int 0), (3, .int 0), (2, .int (-1)), (0, .ref 95), (1, .int (-1))], [.ref 96, .int 0], (px_shX, (px_mI Ic), (px_mJ Jc), (px_mP Pc)))) rfl ?_
  refine px_E_seg 4 (σ' := (105, [(4, .int 0), (3, .int 0), (2, .int (-1)), (0, .ref 95), (1, .int (-1))], [.int (-1)], (px_shX, (px_mI Ic), (px_mJ Jc), (px_mP Pc)))) rfl ?_
  exact px_E_ret rfl rfl
set_option maxRecDepth 100000 in
set_option maxHeartbeats 4000000 in
theorem px_x34_2 {ro : px_RO} {dd : Nat} (a1 : Int32) (ha1 : 0 ≤ a1.toInt ∧ a1.toInt ≤ 2147483647) : px_CX ro (dd + 8) 164 [.ref 0, .int a1] (.int (-10000)) := by
  refine ⟨px_IX, px_PX, ?_, px_fr_0, px_frP_0⟩
  show px_E ro (dd + 8) 164 (0, _, [], _) _ _
  refine px_E_seg 2 (σ' := (2, [(0, .ref 0), (1, .int a1)], [.int (-1), .int a1], (px_shX, px_IX, px_JX, px_PX))) rfl ?_
  refine px_E_icT (t := 13) rfl rfl (show a1.toInt ≠ (-1 : Int) by omega) ?_
  refine px_E_seg 3 (σ' := (18, [(0, .ref 0), (1, .int a1)], [.int a1, .ref 1], (px_shX, px_IX, px_JX, px_PX))) rfl ?_
  refine px_E_call (j := 79) (as := [.ref 1, .int a1]) (rest := []) (v := some (.int 0)) (h1 := (px_shX, px_IX, px_JX, px_PX)) rfl rfl rfl (by
    refine px_E_seg 1 (σ' := (1, [(0, .ref 1), (1, .int a1)], [.int a1], (px_shX, px_IX, px_JX, px_PX))) rfl ?_
    refine px_E_ifF (t := 16) rfl rfl (show (0 : Int) ≤ a1.toInt by omega) ?_
    refine px_E_seg 3 (σ' := (9, [(0, .ref 1), (1, .int a1)], [.int 0, .int a1], (px_shX, px_IX, px_JX, px_PX))) rfl ?_
    refine px_E_icT (t := 16) rfl rfl (show (0 : Int) ≤ a1.toInt by omega) ?_
    refine px_E_seg 1 (σ' := (17, [(0, .ref 1), (1, .int a1)], [.int 0], (px_shX, px_IX, px_JX, px_PX))) rfl ?_
    exact px_E_ret rfl rfl) ?_
  refine px_E_seg 2 (σ' := (39, [(0, .ref 0), (1, .int a1)], [.int (-10000)], (px_shX, px_IX, px_JX, px_PX))) rfl ?_
  exact px_E_ret rfl rfl
set_option maxRecDepth 100000 in
set_option maxHeartbeats 4000000 in
theorem px_r34_2 {ro : px_RO} {dd : Nat} (a1 : Int32) (ha1 : 0 ≤ a1.toInt ∧ a1.toInt ≤ 2147483647) : px_RX ro (dd + 8) 319 [.ref 95, .int a1] (.int (-10000)) := by
  intro Ic Jc Pc
  refine ⟨(px_shX, (px_mI Ic), (px_mJ Jc), (px_mP Pc)), ?_, rfl⟩
  show px_E ro (dd + 8) 319 (0, _, [], _) _ _
  refine px_E_seg 2 (σ' := (2, [(0, .ref 95), (1, .int a1)], [.int (-1), .int a1], (px_shX, (px_mI Ic), (px_mJ Jc), (px_mP Pc)))) rfl ?_
  refine px_E_icF (t := 41) rfl rfl (show a1.toInt ≠ (-1 : Int) by omega) ?_
  refine px_E_seg 2 (σ' := (7, [(0, .ref 95), (1, .int a1)], [.int a1, .ref 95], (px_shX, (px_mI Ic), (px_mJ Jc), (px_mP Pc)))) rfl ?_
  refine px_E_call (j := 251) (as := [.ref 95, .int a1]) (rest := []) (v := some (.int 0)) (h1 := (px_shX, (px_mI Ic), (px_mJ Jc), (px_mP Pc))) rfl rfl rfl (by
    refine px_E_seg 6 (σ' := (8, [(0, .ref 95), (1, .int a1)], [.int 0, .int 0, .int a1], (px_shX, (px_mI Ic), (px_mJ Jc), (px_mP Pc)))) rfl ?_
    refine px_E_seg 1 (σ' := (9, [(0, .ref 95), (1, .int a1)], [.int 1, .int 0, .int 0, .int a1], (px_shX, (px_mI Ic), (px_mJ Jc), (px_mP Pc)))) rfl ?_
    refine px_E_seg 1 (σ' := (10, [(0, .ref 95), (1, .int a1)], [.int (-1), .int 0, .int a1], (px_shX, (px_mI Ic), (px_mJ Jc), (px_mP Pc)))) rfl ?_
    refine px_E_call (j := 183) (as := [.int a1, .int 0, .int (-1)]) (rest := []) (v := some (.int 0)) (h1 := (px_shX, (px_mI Ic), (px_mJ Jc), (px_mP Pc))) rfl rfl rfl (by
      refine px_E_seg 2 (σ' := (2, [(0, .int a1), (1, .int 0), (2, .int (-1))], [.int 0, .int a1], (px_shX, (px_mI Ic), (px_mJ Jc), (px_mP Pc)))) rfl ?_
      refine px_E_icF (t := 14) rfl rfl (show (0 : Int) ≤ a1.toInt by omega) ?_
      refine px_E_seg 2 (σ' := (7, [(0, .int a1), (1, .int 0), (2, .int (-1))], [.int (-1), .int a1], (px_shX, (px_mI Ic), (px_mJ Jc), (px_mP Pc)))) rfl ?_
      refine px_E_icT (t := 14) rfl rfl (show (-1 : Int) < a1.toInt by omega) ?_
      refine px_E_seg 1 (σ' := (15, [(0, .int a1), (1, .int 0), (2, .int (-1))], [.int 0], (px_shX, (px_mI Ic), (px_mJ Jc), (px_mP Pc)))) rfl ?_
      exact px_E_ret rfl rfl) ?_
    exact px_E_ret rfl rfl) ?_
  refine px_E_seg 2 (σ' := (40, [(0, .ref 95), (1, .int a1)], [.int (-10000)], (px_shX, (px_mI Ic), (px_mJ Jc), (px_mP Pc)))) rfl ?_
  exact px_E_ret rfl rfl
set_option maxRecDepth 100000 in
set_option maxHeartbeats 4000000 in
theorem px_x35_0 {ro : px_RO} {dd : Nat} (a1 a2 : Int32) (ha1 : (-2147483648) ≤ a1.toInt ∧ a1.toInt ≤ (-2)) (ha2 : 0 ≤ a2.toInt ∧ a2.toInt ≤ 1) : px_CX ro (dd + 8) 166 [.ref 0, .int a1, .int a2] (.int (-2)) := by
  refine ⟨px_IX, px_PX, ?_, px_fr_0, px_frP_0⟩
  show px_E ro (dd + 8) 166 (0, _, [], _) _ _
  refine px_E_seg 2 (σ' := (2, [(0, .ref 0), (1, .int a1), (2, .int a2)], [.int (-1), .int a1], (px_shX, px_IX, px_JX, px_PX))) rfl ?_
  refine px_E_icT (t := 14) rfl rfl (show a1.toInt ≠ (-1 : Int) by omega) ?_
  refine px_E_seg 3 (σ' := (17, [(0, .ref 0), (1, .int a1), (2, .int a2)], [.int 3, .int 0, .int a1], (px_shX, px_IX, px_JX, px_PX))) rfl ?_
  refine px_E_call (j := 15) (as := [.int a1, .int 0, .int 3]) (rest := []) (v := some (.int 0)) (h1 := (px_shX, px_IX, px_JX, px_PX)) rfl rfl rfl (by
    refine px_E_seg 2 (σ' := (2, [(0, .int a1), (1, .int 0), (2, .int 3)], [.int 0, .int a1], (px_shX, px_IX, px_JX, px_PX))) rfl ?_
    refine px_E_icT (t := 14) rfl rfl (show a1.toInt < (0 : Int) by omega) ?_
    refine px_E_seg 1 (σ' := (15, [(0, .int a1), (1, .int 0), (2, .int 3)], [.int 0], (px_shX, px_IX, px_JX, px_PX))) rfl ?_
    exact px_E_ret rfl rfl) ?_
  refine px_E_seg 2 (σ' := (37, [(0, .ref 0), (1, .int a1), (2, .int a2)], [.int (-2)], (px_shX, px_IX, px_JX, px_PX))) rfl ?_
  exact px_E_ret rfl rfl
set_option maxRecDepth 100000 in
set_option maxHeartbeats 4000000 in
theorem px_r35_0 {ro : px_RO} {dd : Nat} (a1 a2 : Int32) (ha1 : (-2147483648) ≤ a1.toInt ∧ a1.toInt ≤ (-2)) (ha2 : 0 ≤ a2.toInt ∧ a2.toInt ≤ 1) : px_RX ro (dd + 8) 321 [.ref 95, .int a1, .int a2] (.int (-2)) := by
  intro Ic Jc Pc
  refine ⟨(px_shX, (px_mI Ic), (px_mJ Jc), (px_mP Pc)), ?_, rfl⟩
  show px_E ro (dd + 8) 321 (0, _, [], _) _ _
  refine px_E_seg 2 (σ' := (2, [(0, .ref 95), (1, .int a1), (2, .int a2)], [.int (-1), .int a1], (px_shX, (px_mI Ic), (px_mJ Jc), (px_mP Pc)))) rfl ?_
  refine px_E_icT (t := 15) rfl rfl (show a1.toInt ≠ (-1 : Int) by omega) ?_
  refine px_E_seg 3 (σ' := (18, [(0, .ref 95), (1, .int a1), (2, .int a2)], [.int 3, .int 0, .int a1], (px_shX, (px_mI Ic), (px_mJ Jc), (px_mP Pc)))) rfl ?_
  refine px_E_call (j := 183) (as := [.int a1, .int 0, .int 3]) (rest := []) (v := some (.int 0)) (h1 := (px_shX, (px_mI Ic), (px_mJ Jc), (px_mP Pc))) rfl rfl rfl (by
    refine px_E_seg 2 (σ' := (2, [(0, .int a1), (1, .int 0), (2, .int 3)], [.int 0, .int a1], (px_shX, (px_mI Ic), (px_mJ Jc), (px_mP Pc)))) rfl ?_
    refine px_E_icT (t := 14) rfl rfl (show a1.toInt < (0 : Int) by omega) ?_
    refine px_E_seg 1 (σ' := (15, [(0, .int a1), (1, .int 0), (2, .int 3)], [.int 0], (px_shX, (px_mI Ic), (px_mJ Jc), (px_mP Pc)))) rfl ?_
    exact px_E_ret rfl rfl) ?_
  refine px_E_seg 2 (σ' := (38, [(0, .ref 95), (1, .int a1), (2, .int a2)], [.int (-2)], (px_shX, (px_mI Ic), (px_mJ Jc), (px_mP Pc)))) rfl ?_
  exact px_E_ret rfl rfl
set_option maxRecDepth 100000 in
set_option maxHeartbeats 4000000 in
theorem px_x35_1 {ro : px_RO} {dd : Nat} (a2 : Int32) (ha2 : 0 ≤ a2.toInt ∧ a2.toInt ≤ 1) : px_CX ro (dd + 8) 166 [.ref 0, .int (-1), .int a2] (.int 0) := by
  refine ⟨(px_fl (px_fl px_IX 29 4 0) 30 4 0), px_PX, ?_, (px_fr_fl (Nat.le_of_ble_eq_true rfl) (px_fr_fl (Nat.le_of_ble_eq_true rfl) px_fr_0)), px_frP_0⟩
  show px_E ro (dd + 8) 166 (0, _, [], _) _ _
  refine px_E_seg 5 (σ' := (9, [(0, .ref 0), (1, .int (-1)), (2, .int a2)], [.ref 25], (px_shX, px_IX, px_JX, px_PX))) rfl ?_
  refine px_E_call (j := 167) (as := [.ref 25]) (rest := []) (v := none) (h1 := (px_shX, (px_fl (px_fl px_IX 29 4 0) 30 4 0), px_JX, px_PX)) rfl rfl rfl (by
    refine px_E_seg 3 (σ' := (5, [(0, .ref 25)], [.int 0, .ref 29], (px_shX, px_IX, px_JX, px_PX))) rfl ?_
    refine px_E_call (j := 3) (as := [.ref 29, .int 0]) (rest := []) (v := none) (h1 := (px_shX, (px_fl px_IX 29 4 0), px_JX, px_PX)) rfl rfl rfl (px_fill 29 4 rfl (by decide) rfl rfl) ?_
    refine px_E_seg 3 (σ' := (13, [(0, .ref 25)], [.int 0, .ref 30], (px_shX, (px_fl px_IX 29 4 0), px_JX, px_PX))) rfl ?_
    refine px_E_call (j := 3) (as := [.ref 30, .int 0]) (rest := []) (v := none) (h1 := (px_shX, (px_fl (px_fl px_IX 29 4 0) 30 4 0), px_JX, px_PX)) rfl rfl rfl (px_fill 30 4 rfl (by decide) rfl rfl) ?_
    exact px_E_ret rfl rfl) ?_
  refine px_E_seg 1 (σ' := (13, [(0, .ref 0), (1, .int (-1)), (2, .int a2)], [.int 0], (px_shX, (px_fl (px_fl px_IX 29 4 0) 30 4 0), px_JX, px_PX))) rfl ?_
  exact px_E_ret rfl rfl
set_option maxRecDepth 100000 in
set_option maxHeartbeats 4000000 in
theorem px_r35_1 {ro : px_RO} {dd : Nat} (a2 : Int32) (ha2 : 0 ≤ a2.toInt ∧ a2.toInt ≤ 1) : px_RX ro (dd + 8) 321 [.ref 95, .int (-1), .int a2] (.int 0) := by
  intro Ic Jc Pc
  refine ⟨(px_shX, (px_up (px_mI Ic) 96 11 0), (px_mJ Jc), (px_mP Pc)), ?_, rfl⟩
  show px_E ro (dd + 8) 321 (0, _, [], _) _ _
  refine px_E_seg 6 (σ' := (11, [(0, .ref 95), (1, .int (-1)), (2, .int a2)], [.int 11, .ref 96], (px_shX, (px_mI Ic), (px_mJ Jc), (px_mP Pc)))) rfl ?_
  refine px_E_seg 3 (σ' := (14, [(0, .ref 95), (1, .int (-1)), (2, .int a2)], [.int 0], (px_shX, (px_up (px_mI Ic) 96 11 0), (px_mJ Jc), (px_mP Pc)))) rfl ?_
  exact px_E_ret rfl rfl
set_option maxRecDepth 100000 in
set_option maxHeartbeats 4000000 in
theorem px_x35_2 {ro : px_RO} {dd : Nat}  : px_CX ro (dd + 8) 166 [.ref 0, .int 0, .int 0] (.int 1) := by
  refine ⟨(px_up (px_up px_IX 29 0 1) 30 0 0), px_PX, ?_, (px_fr_up (Nat.le_of_ble_eq_true rfl) (px_fr_up (Nat.le_of_ble_eq_true rfl) px_fr_0)), px_frP_0⟩
  show px_E ro (dd + 8) 166 (0, _, [], _) _ _
  refine px_E_seg 6 (σ' := (17, [(0, .ref 0), (1, .int 0), (2, .int 0)], [.int 3, .int 0, .int 0], (px_shX, px_IX, px_JX, px_PX))) rfl ?_
  refine px_E_call (j := 15) (as := [.int 0, .int 0, .int 3]) (rest := []) (v := some (.int 1)) (h1 := (px_shX, px_IX, px_JX, px_PX)) rfl rfl rfl (by
    refine px_E_seg 6 (σ' := (10, [(0, .int 0), (1, .int 0), (2, .int 3)], [], (px_shX, px_IX, px_JX, px_PX))) rfl ?_
    refine px_E_seg 2 (σ' := (15, [(0, .int 0), (1, .int 0), (2, .int 3)], [.int 1], (px_shX, px_IX, px_JX, px_PX))) rfl ?_
    exact px_E_ret rfl rfl) ?_
  refine px_E_seg 3 (σ' := (27, [(0, .ref 0), (1, .int 0), (2, .int 0)], [.ref 25], (px_shX, px_IX, px_JX, px_PX))) rfl ?_
  refine px_E_call (j := 168) (as := [.ref 25]) (rest := []) (v := some (.int 0)) (h1 := (px_shX, px_IX, px_JX, px_PX)) rfl rfl rfl (by
    refine px_E_seg 2 (σ' := (4, [(0, .ref 25)], [.ref 29], (px_shX, px_IX, px_JX, px_PX))) rfl ?_
    refine px_E_call (j := 65) (as := [.ref 29]) (rest := []) (v := some (.int 0)) (h1 := (px_shX, px_IX, px_JX, px_PX)) rfl rfl rfl (by
      refine px_E_seg 6 (σ' := (6, [(2, .ref 29), (1, .int 0), (0, .ref 29)], [.int 4], (px_shX, px_IX, px_JX, px_PX))) rfl ?_
      refine px_E_seg 6 (σ' := (16, [(4, .int 0), (3, .int 4), (2, .ref 29), (1, .int 0), (0, .ref 29)], [], (px_shX, px_IX, px_JX, px_PX))) rfl ?_
      refine px_E_seg 6 (σ' := (25, [(5, .int 0), (4, .int 0), (3, .int 4), (2, .ref 29), (1, .int 0), (0, .ref 29)], [.int 0, .int 0], (px_shX, px_IX, px_JX, px_PX))) rfl ?_
      refine px_E_seg 6 (σ' := (13, [(4, .int 1), (1, .int 0), (5, .int 0), (3, .int 4), (2, .ref 29), (0, .ref 29)], [.int 4, .int 1], (px_shX, px_IX, px_JX, px_PX))) rfl ?_
      refine px_E_seg 6 (σ' := (23, [(5, .int 0), (4, .int 1), (1, .int 0), (3, .int 4), (2, .ref 29), (0, .ref 29)], [.int 0], (px_shX, px_IX, px_JX, px_PX))) rfl ?_
      refine px_E_seg 1 (σ' := (25, [(5, .int 0), (4, .int 1), (1, .int 0), (3, .int 4), (2, .ref 29), (0, .ref 29)], [.int 0, .int 0], (px_shX, px_IX, px_JX, px_PX))) rfl ?_
      refine px_E_seg 6 (σ' := (13, [(4, .int 2), (1, .int 0), (5, .int 0), (3, .int 4), (2, .ref 29), (0, .ref 29)], [.int 4, .int 2], (px_shX, px_IX, px_JX, px_PX))) rfl ?_
      refine px_E_seg 6 (σ' := (23, [(5, .int 0), (4, .int 2), (1, .int 0), (3, .int 4), (2, .ref 29), (0, .ref 29)], [.int 0], (px_shX, px_IX, px_JX, px_PX))) rfl ?_
      refine px_E_seg 1 (σ' := (25, [(5, .int 0), (4, .int 2), (1, .int 0), (3, .int 4), (2, .ref 29), (0, .ref 29)], [.int 0, .int 0], (px_shX, px_IX, px_JX, px_PX))) rfl ?_
      refine px_E_seg 6 (σ' := (13, [(4, .int 3), (1, .int 0), (5, .int 0), (3, .int 4), (2, .ref 29), (0, .ref 29)], [.int 4, .int 3], (px_shX, px_IX, px_JX, px_PX))) rfl ?_
      refine px_E_seg 6 (σ' := (23, [(5, .int 0), (4, .int 3), (1, .int 0), (3, .int 4), (2, .ref 29), (0, .ref 29)], [.int 0], (px_shX, px_IX, px_JX, px_PX))) rfl ?_
      refine px_E_seg 1 (σ' := (25, [(5, .int 0), (4, .int 3), (1, .int 0), (3, .int 4), (2, .ref 29), (0, .ref 29)], [.int 0, .int 0], (px_shX, px_IX, px_JX, px_PX))) rfl ?_
      refine px_E_seg 6 (σ' := (13, [(4, .int 4), (1, .int 0), (5, .int 0), (3, .int 4), (2, .ref 29), (0, .ref 29)], [.int 4, .int 4], (px_shX, px_IX, px_JX, px_PX))) rfl ?_
      refine px_E_seg 2 (σ' := (34, [(4, .int 4), (1, .int 0), (5, .int 0), (3, .int 4), (2, .ref 29), (0, .ref 29)], [.int 0], (px_shX, px_IX, px_JX, px_PX))) rfl ?_
      exact px_E_ret rfl rfl) ?_
    exact px_E_ret rfl rfl) ?_
  refine px_E_seg 6 (σ' := (46, [(0, .ref 0), (1, .int 0), (2, .int 0)], [.int 0, .ref 29], (px_shX, px_IX, px_JX, px_PX))) rfl ?_
  refine px_E_seg 3 (σ' := (49, [(0, .ref 0), (1, .int 0), (2, .int 0)], [.int 1, .int 0, .int 0, .ref 29], (px_shX, px_IX, px_JX, px_PX))) rfl ?_
  refine px_E_seg 6 (σ' := (59, [(0, .ref 0), (1, .int 0), (2, .int 0)], [.int 0, .ref 30], (px_shX, (px_up px_IX 29 0 1), px_JX, px_PX))) rfl ?_
  refine px_E_seg 5 (σ' := (70, [(0, .ref 0), (1, .int 0), (2, .int 0)], [.int 0, .int 0, .int 0, .ref 30], (px_shX, (px_up px_IX 29 0 1), px_JX, px_PX))) rfl ?_
  refine px_E_seg 4 (σ' := (76, [(0, .ref 0), (1, .int 0), (2, .int 0)], [.ref 25], (px_shX, (px_up (px_up px_IX 29 0 1) 30 0 0), px_JX, px_PX))) rfl ?_
  refine px_E_call (j := 168) (as := [.ref 25]) (rest := []) (v := some (.int 1)) (h1 := (px_shX, (px_up (px_up px_IX 29 0 1) 30 0 0), px_JX, px_PX)) rfl rfl rfl (by
    refine px_E_seg 2 (σ' := (4, [(0, .ref 25)], [.ref 29], (px_shX, (px_up (px_up px_IX 29 0 1) 30 0 0), px_JX, px_PX))) rfl ?_
    refine px_E_call (j := 65) (as := [.ref 29]) (rest := []) (v := some (.int 1)) (h1 := (px_shX, (px_up (px_up px_IX 29 0 1) 30 0 0), px_JX, px_PX)) rfl rfl rfl (by
      refine px_E_seg 6 (σ' := (6, [(2, .ref 29), (1, .int 0), (0, .ref 29)], [.int 4], (px_shX, (px_up (px_up px_IX 29 0 1) 30 0 0), px_JX, px_PX))) rfl ?_
      refine px_E_seg 6 (σ' := (16, [(4, .int 0), (3, .int 4), (2, .ref 29), (1, .int 0), (0, .ref 29)], [], (px_shX, (px_up (px_up px_IX 29 0 1) 30 0 0), px_JX, px_PX))) rfl ?_
      refine px_E_seg 6 (σ' := (25, [(5, .int 1), (4, .int 0), (3, .int 4), (2, .ref 29), (1, .int 0), (0, .ref 29)], [.int 1, .int 0], (px_shX, (px_up (px_up px_IX 29 0 1) 30 0 0), px_JX, px_PX))) rfl ?_
      refine px_E_seg 6 (σ' := (13, [(4, .int 1), (1, .int 1), (5, .int 1), (3, .int 4), (2, .ref 29), (0, .ref 29)], [.int 4, .int 1], (px_shX, (px_up (px_up px_IX 29 0 1) 30 0 0), px_JX, px_PX))) rfl ?_
      refine px_E_seg 6 (σ' := (23, [(5, .int 0), (4, .int 1), (1, .int 1), (3, .int 4), (2, .ref 29), (0, .ref 29)], [.int 1], (px_shX, (px_up (px_up px_IX 29 0 1) 30 0 0), px_JX, px_PX))) rfl ?_
      refine px_E_seg 1 (σ' := (25, [(5, .int 0), (4, .int 1), (1, .int 1), (3, .int 4), (2, .ref 29), (0, .ref 29)], [.int 0, .int 1], (px_shX, (px_up (px_up px_IX 29 0 1) 30 0 0), px_JX, px_PX))) rfl ?_
      refine px_E_seg 6 (σ' := (13, [(4, .int 2), (1, .int 1), (5, .int 0), (3, .int 4), (2, .ref 29), (0, .ref 29)], [.int 4, .int 2], (px_shX, (px_up (px_up px_IX 29 0 1) 30 0 0), px_JX, px_PX))) rfl ?_
      refine px_E_seg 6 (σ' := (23, [(5, .int 0), (4, .int 2), (1, .int 1), (3, .int 4), (2, .ref 29), (0, .ref 29)], [.int 1], (px_shX, (px_up (px_up px_IX 29 0 1) 30 0 0), px_JX, px_PX))) rfl ?_
      refine px_E_seg 1 (σ' := (25, [(5, .int 0), (4, .int 2), (1, .int 1), (3, .int 4), (2, .ref 29), (0, .ref 29)], [.int 0, .int 1], (px_shX, (px_up (px_up px_IX 29 0 1) 30 0 0), px_JX, px_PX))) rfl ?_
      refine px_E_seg 6 (σ' := (13, [(4, .int 3), (1, .int 1), (5, .int 0), (3, .int 4), (2, .ref 29), (0, .ref 29)], [.int 4, .int 3], (px_shX, (px_up (px_up px_IX 29 0 1) 30 0 0), px_JX, px_PX))) rfl ?_
      refine px_E_seg 6 (σ' := (23, [(5, .int 0), (4, .int 3), (1, .int 1), (3, .int 4), (2, .ref 29), (0, .ref 29)], [.int 1], (px_shX, (px_up (px_up px_IX 29 0 1) 30 0 0), px_JX, px_PX))) rfl ?_
      refine px_E_seg 1 (σ' := (25, [(5, .int 0), (4, .int 3), (1, .int 1), (3, .int 4), (2, .ref 29), (0, .ref 29)], [.int 0, .int 1], (px_shX, (px_up (px_up px_IX 29 0 1) 30 0 0), px_JX, px_PX))) rfl ?_
      refine px_E_seg 6 (σ' := (13, [(4, .int 4), (1, .int 1), (5, .int 0), (3, .int 4), (2, .ref 29), (0, .ref 29)], [.int 4, .int 4], (px_shX, (px_up (px_up px_IX 29 0 1) 30 0 0), px_JX, px_PX))) rfl ?_
      refine px_E_seg 2 (σ' := (34, [(4, .int 4), (1, .int 1), (5, .int 0), (3, .int 4), (2, .ref 29), (0, .ref 29)], [.int 1], (px_shX, (px_up (px_up px_IX 29 0 1) 30 0 0), px_JX, px_PX))) rfl ?_
      exact px_E_ret rfl rfl) ?_
    exact px_E_ret rfl rfl) ?_
  exact px_E_ret rfl rfl
set_option maxRecDepth 100000 in
set_option maxHeartbeats 4000000 in
theorem px_r35_2 {ro : px_RO} {dd : Nat}  : px_RX ro (dd + 8) 321 [.ref 95, .int 0, .int 0] (.int 1) := by
  intro Ic Jc Pc
  refine ⟨(px_shX, (px_up (px_up (px_up (px_mI Ic) 96 254 0) 96 255 0) 96 11 1), (px_mJ Jc), (px_mP Pc)), ?_, rfl⟩
  show px_E ro (dd + 8) 321 (0, _, [], _) _ _
  refine px_E_seg 6 (σ' := (18, [(0, .ref 95), (1, .int 0), (2, .int 0)], [.int 3, .int 0, .int 0], (px_shX, (px_mI Ic), (px_mJ Jc), (px_mP Pc)))) rfl ?_
  refine px_E_call (j := 183) (as := [.int 0, .int 0, .int 3]) (rest := []) (v := some (.int 1)) (h1 := (px_shX, (px_mI Ic), (px_mJ Jc), (px_mP Pc))) rfl rfl rfl (by
    refine px_E_seg 6 (σ' := (10, [(0, .int 0), (1, .int 0), (2, .int 3)], [], (px_shX, (px_mI Ic), (px_mJ Jc), (px_mP Pc)))) rfl ?_
    refine px_E_seg 2 (σ' := (15, [(0, .int 0), (1, .int 0), (2, .int 3)], [.int 1], (px_shX, (px_mI Ic), (px_mJ Jc), (px_mP Pc)))) rfl ?_
    exact px_E_ret rfl rfl) ?_
  refine px_E_seg 6 (σ' := (33, [(0, .ref 95), (1, .int 0), (2, .int 0)], [.int 12, .int 0], (px_shX, (px_mI Ic), (px_mJ Jc), (px_mP Pc)))) rfl ?_
  refine px_E_seg 6 (σ' := (48, [(0, .ref 95), (1, .int 0), (2, .int 0)], [.ref 95, .int 2, .int 254, .ref 96], (px_shX, (px_mI Ic), (px_mJ Jc), (px_mP Pc)))) rfl ?_
  refine px_E_seg 3 (σ' := (54, [(0, .ref 95), (1, .int 0), (2, .int 0)], [.int 0, .int 2, .int 254, .ref 96], (px_shX, (px_mI Ic), (px_mJ Jc), (px_mP Pc)))) rfl ?_
  refine px_E_seg 1 (σ' := (55, [(0, .ref 95), (1, .int 0), (2, .int 0)], [.int 0, .int 254, .ref 96], (px_shX, (px_mI Ic), (px_mJ Jc), (px_mP Pc)))) rfl ?_
  refine px_E_seg 6 (σ' := (65, [(0, .ref 95), (1, .int 0), (2, .int 0)], [.int 254, .ref 96], (px_shX, (px_up (px_mI Ic) 96 254 0), (px_mJ Jc), (px_mP Pc)))) rfl ?_
  refine px_E_seg 5 (σ' := (73, [(0, .ref 95), (1, .int 0), (2, .int 0)], [.int 0, .int 2, .int 254, .ref 96], (px_shX, (px_up (px_mI Ic) 96 254 0), (px_mJ Jc), (px_mP Pc)))) rfl ?_
  refine px_E_seg 1 (σ' := (74, [(0, .ref 95), (1, .int 0), (2, .int 0)], [.int 0, .int 254, .ref 96], (px_shX, (px_up (px_mI Ic) 96 254 0), (px_mJ Jc), (px_mP Pc)))) rfl ?_
  refine px_E_seg 2 (σ' := (76, [(0, .ref 95), (1, .int 0), (2, .int 0)], [.int 1, .int 254, .ref 96], (px_shX, (px_up (px_mI Ic) 96 254 0), (px_mJ Jc), (px_mP Pc)))) rfl ?_
  refine px_E_seg 6 (σ' := (88, [(0, .ref 95), (1, .int 0), (2, .int 0)], [.ref 95], (px_shX, (px_up (px_up (px_mI Ic) 96 254 0) 96 255 0), (px_mJ Jc), (px_mP Pc)))) rfl ?_
  refine px_E_seg 5 (σ' := (96, [(0, .ref 95), (1, .int 0), (2, .int 0)], [.int 1, .int 0, .int 11, .ref 96], (px_shX, (px_up (px_up (px_mI Ic) 96 254 0) 96 255 0), (px_mJ Jc), (px_mP Pc)))) rfl ?_
  refine px_E_seg 6 (σ' := (105, [(0, .ref 95), (1, .int 0), (2, .int 0)], [.int 1], (px_shX, (px_up (px_up (px_up (px_mI Ic) 96 254 0) 96 255 0) 96 11 1), (px_mJ Jc), (px_mP Pc)))) rfl ?_
  exact px_E_ret rfl rfl
set_option maxRecDepth 100000 in
set_option maxHeartbeats 4000000 in
theorem px_x35_3 {ro : px_RO} {dd : Nat}  : px_CX ro (dd + 8) 166 [.ref 0, .int 0, .int 1] (.int 1) := by
  refine ⟨(px_up (px_up px_IX 29 0 1) 30 0 1), px_PX, ?_, (px_fr_up (Nat.le_of_ble_eq_true rfl) (px_fr_up (Nat.le_of_ble_eq_true rfl) px_fr_0)), px_frP_0⟩
  show px_E ro (dd + 8) 166 (0, _, [], _) _ _
  refine px_E_seg 6 (σ' := (17, [(0, .ref 0), (1, .int 0), (2, .int 1)], [.int 3, .int 0, .int 0], (px_shX, px_IX, px_JX, px_PX))) rfl ?_
  refine px_E_call (j := 15) (as := [.int 0, .int 0, .int 3]) (rest := []) (v := some (.int 1)) (h1 := (px_shX, px_IX, px_JX, px_PX)) rfl rfl rfl (by
    refine px_E_seg 6 (σ' := (10, [(0, .int 0), (1, .int 0), (2, .int 3)], [], (px_shX, px_IX, px_JX, px_PX))) rfl ?_
    refine px_E_seg 2 (σ' := (15, [(0, .int 0), (1, .int 0), (2, .int 3)], [.int 1], (px_shX, px_IX, px_JX, px_PX))) rfl ?_
    exact px_E_ret rfl rfl) ?_
  refine px_E_seg 3 (σ' := (27, [(0, .ref 0), (1, .int 0), (2, .int 1)], [.ref 25], (px_shX, px_IX, px_JX, px_PX))) rfl ?_
  refine px_E_call (j := 168) (as := [.ref 25]) (rest := []) (v := some (.int 0)) (h1 := (px_shX, px_IX, px_JX, px_PX)) rfl rfl rfl (by
    refine px_E_seg 2 (σ' := (4, [(0, .ref 25)], [.ref 29], (px_shX, px_IX, px_JX, px_PX))) rfl ?_
    refine px_E_call (j := 65) (as := [.ref 29]) (rest := []) (v := some (.int 0)) (h1 := (px_shX, px_IX, px_JX, px_PX)) rfl rfl rfl (by
      refine px_E_seg 6 (σ' := (6, [(2, .ref 29), (1, .int 0), (0, .ref 29)], [.int 4], (px_shX, px_IX, px_JX, px_PX))) rfl ?_
      refine px_E_seg 6 (σ' := (16, [(4, .int 0), (3, .int 4), (2, .ref 29), (1, .int 0), (0, .ref 29)], [], (px_shX, px_IX, px_JX, px_PX))) rfl ?_
      refine px_E_seg 6 (σ' := (25, [(5, .int 0), (4, .int 0), (3, .int 4), (2, .ref 29), (1, .int 0), (0, .ref 29)], [.int 0, .int 0], (px_shX, px_IX, px_JX, px_PX))) rfl ?_
      refine px_E_seg 6 (σ' := (13, [(4, .int 1), (1, .int 0), (5, .int 0), (3, .int 4), (2, .ref 29), (0, .ref 29)], [.int 4, .int 1], (px_shX, px_IX, px_JX, px_PX))) rfl ?_
      refine px_E_seg 6 (σ' := (23, [(5, .int 0), (4, .int 1), (1, .int 0), (3, .int 4), (2, .ref 29), (0, .ref 29)], [.int 0], (px_shX, px_IX, px_JX, px_PX))) rfl ?_
      refine px_E_seg 1 (σ' := (25, [(5, .int 0), (4, .int 1), (1, .int 0), (3, .int 4), (2, .ref 29), (0, .ref 29)], [.int 0, .int 0], (px_shX, px_IX, px_JX, px_PX))) rfl ?_
      refine px_E_seg 6 (σ' := (13, [(4, .int 2), (1, .int 0), (5, .int 0), (3, .int 4), (2, .ref 29), (0, .ref 29)], [.int 4, .int 2], (px_shX, px_IX, px_JX, px_PX))) rfl ?_
      refine px_E_seg 6 (σ' := (23, [(5, .int 0), (4, .int 2), (1, .int 0), (3, .int 4), (2, .ref 29), (0, .ref 29)], [.int 0], (px_shX, px_IX, px_JX, px_PX))) rfl ?_
      refine px_E_seg 1 (σ' := (25, [(5, .int 0), (4, .int 2), (1, .int 0), (3, .int 4), (2, .ref 29), (0, .ref 29)], [.int 0, .int 0], (px_shX, px_IX, px_JX, px_PX))) rfl ?_
      refine px_E_seg 6 (σ' := (13, [(4, .int 3), (1, .int 0), (5, .int 0), (3, .int 4), (2, .ref 29), (0, .ref 29)], [.int 4, .int 3], (px_shX, px_IX, px_JX, px_PX))) rfl ?_
      refine px_E_seg 6 (σ' := (23, [(5, .int 0), (4, .int 3), (1, .int 0), (3, .int 4), (2, .ref 29), (0, .ref 29)], [.int 0], (px_shX, px_IX, px_JX, px_PX))) rfl ?_
      refine px_E_seg 1 (σ' := (25, [(5, .int 0), (4, .int 3), (1, .int 0), (3, .int 4), (2, .ref 29), (0, .ref 29)], [.int 0, .int 0], (px_shX, px_IX, px_JX, px_PX))) rfl ?_
      refine px_E_seg 6 (σ' := (13, [(4, .int 4), (1, .int 0), (5, .int 0), (3, .int 4), (2, .ref 29), (0, .ref 29)], [.int 4, .int 4], (px_shX, px_IX, px_JX, px_PX))) rfl ?_
      refine px_E_seg 2 (σ' := (34, [(4, .int 4), (1, .int 0), (5, .int 0), (3, .int 4), (2, .ref 29), (0, .ref 29)], [.int 0], (px_shX, px_IX, px_JX, px_PX))) rfl ?_
      exact px_E_ret rfl rfl) ?_
    exact px_E_ret rfl rfl) ?_
  refine px_E_seg 6 (σ' := (46, [(0, .ref 0), (1, .int 0), (2, .int 1)], [.int 0, .ref 29], (px_shX, px_IX, px_JX, px_PX))) rfl ?_
  refine px_E_seg 3 (σ' := (49, [(0, .ref 0), (1, .int 0), (2, .int 1)], [.int 1, .int 0, .int 0, .ref 29], (px_shX, px_IX, px_JX, px_PX))) rfl ?_
  refine px_E_seg 6 (σ' := (59, [(0, .ref 0), (1, .int 0), (2, .int 1)], [.int 0, .ref 30], (px_shX, (px_up px_IX 29 0 1), px_JX, px_PX))) rfl ?_
  refine px_E_seg 6 (σ' := (70, [(0, .ref 0), (1, .int 0), (2, .int 1)], [.int 1, .int 0, .int 0, .ref 30], (px_shX, (px_up px_IX 29 0 1), px_JX, px_PX))) rfl ?_
  refine px_E_seg 4 (σ' := (76, [(0, .ref 0), (1, .int 0), (2, .int 1)], [.ref 25], (px_shX, (px_up (px_up px_IX 29 0 1) 30 0 1), px_JX, px_PX))) rfl ?_
  refine px_E_call (j := 168) (as := [.ref 25]) (rest := []) (v := some (.int 1)) (h1 := (px_shX, (px_up (px_up px_IX 29 0 1) 30 0 1), px_JX, px_PX)) rfl rfl rfl (by
    refine px_E_seg 2 (σ' := (4, [(0, .ref 25)], [.ref 29], (px_shX, (px_up (px_up px_IX 29 0 1) 30 0 1), px_JX, px_PX))) rfl ?_
    refine px_E_call (j := 65) (as := [.ref 29]) (rest := []) (v := some (.int 1)) (h1 := (px_shX, (px_up (px_up px_IX 29 0 1) 30 0 1), px_JX, px_PX)) rfl rfl rfl (by
      refine px_E_seg 6 (σ' := (6, [(2, .ref 29), (1, .int 0), (0, .ref 29)], [.int 4], (px_shX, (px_up (px_up px_IX 29 0 1) 30 0 1), px_JX, px_PX))) rfl ?_
      refine px_E_seg 6 (σ' := (16, [(4, .int 0), (3, .int 4), (2, .ref 29), (1, .int 0), (0, .ref 29)], [], (px_shX, (px_up (px_up px_IX 29 0 1) 30 0 1), px_JX, px_PX))) rfl ?_
      refine px_E_seg 6 (σ' := (25, [(5, .int 1), (4, .int 0), (3, .int 4), (2, .ref 29), (1, .int 0), (0, .ref 29)], [.int 1, .int 0], (px_shX, (px_up (px_up px_IX 29 0 1) 30 0 1), px_JX, px_PX))) rfl ?_
      refine px_E_seg 6 (σ' := (13, [(4, .int 1), (1, .int 1), (5, .int 1), (3, .int 4), (2, .ref 29), (0, .ref 29)], [.int 4, .int 1], (px_shX, (px_up (px_up px_IX 29 0 1) 30 0 1), px_JX, px_PX))) rfl ?_
      refine px_E_seg 6 (σ' := (23, [(5, .int 0), (4, .int 1), (1, .int 1), (3, .int 4), (2, .ref 29), (0, .ref 29)], [.int 1], (px_shX, (px_up (px_up px_IX 29 0 1) 30 0 1), px_JX, px_PX))) rfl ?_
      refine px_E_seg 1 (σ' := (25, [(5, .int 0), (4, .int 1), (1, .int 1), (3, .int 4), (2, .ref 29), (0, .ref 29)], [.int 0, .int 1], (px_shX, (px_up (px_up px_IX 29 0 1) 30 0 1), px_JX, px_PX))) rfl ?_
      refine px_E_seg 6 (σ' := (13, [(4, .int 2), (1, .int 1), (5, .int 0), (3, .int 4), (2, .ref 29), (0, .ref 29)], [.int 4, .int 2], (px_shX, (px_up (px_up px_IX 29 0 1) 30 0 1), px_JX, px_PX))) rfl ?_
      refine px_E_seg 6 (σ' := (23, [(5, .int 0), (4, .int 2), (1, .int 1), (3, .int 4), (2, .ref 29), (0, .ref 29)], [.int 1], (px_shX, (px_up (px_up px_IX 29 0 1) 30 0 1), px_JX, px_PX))) rfl ?_
      refine px_E_seg 1 (σ' := (25, [(5, .int 0), (4, .int 2), (1, .int 1), (3, .int 4), (2, .ref 29), (0, .ref 29)], [.int 0, .int 1], (px_shX, (px_up (px_up px_IX 29 0 1) 30 0 1), px_JX, px_PX))) rfl ?_
      refine px_E_seg 6 (σ' := (13, [(4, .int 3), (1, .int 1), (5, .int 0), (3, .int 4), (2, .ref 29), (0, .ref 29)], [.int 4, .int 3], (px_shX, (px_up (px_up px_IX 29 0 1) 30 0 1), px_JX, px_PX))) rfl ?_
      refine px_E_seg 6 (σ' := (23, [(5, .int 0), (4, .int 3), (1, .int 1), (3, .int 4), (2, .ref 29), (0, .ref 29)], [.int 1], (px_shX, (px_up (px_up px_IX 29 0 1) 30 0 1), px_JX, px_PX))) rfl ?_
      refine px_E_seg 1 (σ' := (25, [(5, .int 0), (4, .int 3), (1, .int 1), (3, .int 4), (2, .ref 29), (0, .ref 29)], [.int 0, .int 1], (px_shX, (px_up (px_up px_IX 29 0 1) 30 0 1), px_JX, px_PX))) rfl ?_
      refine px_E_seg 6 (σ' := (13, [(4, .int 4), (1, .int 1), (5, .int 0), (3, .int 4), (2, .ref 29), (0, .ref 29)], [.int 4, .int 4], (px_shX, (px_up (px_up px_IX 29 0 1) 30 0 1), px_JX, px_PX))) rfl ?_
      refine px_E_seg 2 (σ' := (34, [(4, .int 4), (1, .int 1), (5, .int 0), (3, .int 4), (2, .ref 29), (0, .ref 29)], [.int 1], (px_shX, (px_up (px_up px_IX 29 0 1) 30 0 1), px_JX, px_PX))) rfl ?_
      exact px_E_ret rfl rfl) ?_
    exact px_E_ret rfl rfl) ?_
  exact px_E_ret rfl rfl
set_option maxRecDepth 100000 in
set_option maxHeartbeats 4000000 in
theorem px_r35_3 {ro : px_RO} {dd : Nat}  : px_RX ro (dd + 8) 321 [.ref 95, .int 0, .int 1] (.int 1) := by
  intro Ic Jc Pc
  refine ⟨(px_shX, (px_up (px_up (px_up (px_mI Ic) 96 254 0) 96 255 1) 96 11 1), (px_mJ Jc), (px_mP Pc)), ?_, rfl⟩
  show px_E ro (dd + 8) 321 (0, _, [], _) _ _
  refine px_E_seg 6 (σ' := (18, [(0, .ref 95), (1, .int 0), (2, .int 1)], [.int 3, .int 0, .int 0], (px_shX, (px_mI Ic), (px_mJ Jc), (px_mP Pc)))) rfl ?_
  refine px_E_call (j := 183) (as := [.int 0, .int 0, .int 3]) (rest := []) (v := some (.int 1)) (h1 := (px_shX, (px_mI Ic), (px_mJ Jc), (px_mP Pc))) rfl rfl rfl (by
    refine px_E_seg 6 (σ' := (10, [(0, .int 0), (1, .int 0), (2, .int 3)], [], (px_shX, (px_mI Ic), (px_mJ Jc), (px_mP Pc)))) rfl ?_
    refine px_E_seg 2 (σ' := (15, [(0, .int 0), (1, .int 0), (2, .int 3)], [.int 1], (px_shX, (px_mI Ic), (px_mJ Jc), (px_mP Pc)))) rfl ?_
    exact px_E_ret rfl rfl) ?_
  refine px_E_seg 6 (σ' := (33, [(0, .ref 95), (1, .int 0), (2, .int 1)], [.int 12, .int 0], (px_shX, (px_mI Ic), (px_mJ Jc), (px_mP Pc)))) rfl ?_
  refine px_E_seg 6 (σ' := (48, [(0, .ref 95), (1, .int 0), (2, .int 1)], [.ref 95, .int 2, .int 254, .ref 96], (px_shX, (px_mI Ic), (px_mJ Jc), (px_mP Pc)))) rfl ?_
  refine px_E_seg 3 (σ' := (54, [(0, .ref 95), (1, .int 0), (2, .int 1)], [.int 0, .int 2, .int 254, .ref 96], (px_shX, (px_mI Ic), (px_mJ Jc), (px_mP Pc)))) rfl ?_
  refine px_E_seg 1 (σ' := (55, [(0, .ref 95), (1, .int 0), (2, .int 1)], [.int 0, .int 254, .ref 96], (px_shX, (px_mI Ic), (px_mJ Jc), (px_mP Pc)))) rfl ?_
  refine px_E_seg 6 (σ' := (65, [(0, .ref 95), (1, .int 0), (2, .int 1)], [.int 254, .ref 96], (px_shX, (px_up (px_mI Ic) 96 254 0), (px_mJ Jc), (px_mP Pc)))) rfl ?_
  refine px_E_seg 5 (σ' := (73, [(0, .ref 95), (1, .int 0), (2, .int 1)], [.int 0, .int 2, .int 254, .ref 96], (px_shX, (px_up (px_mI Ic) 96 254 0), (px_mJ Jc), (px_mP Pc)))) rfl ?_
  refine px_E_seg 1 (σ' := (74, [(0, .ref 95), (1, .int 0), (2, .int 1)], [.int 0, .int 254, .ref 96], (px_shX, (px_up (px_mI Ic) 96 254 0), (px_mJ Jc), (px_mP Pc)))) rfl ?_
  refine px_E_seg 2 (σ' := (76, [(0, .ref 95), (1, .int 0), (2, .int 1)], [.int 1, .int 254, .ref 96], (px_shX, (px_up (px_mI Ic) 96 254 0), (px_mJ Jc), (px_mP Pc)))) rfl ?_
  refine px_E_seg 6 (σ' := (87, [(0, .ref 95), (1, .int 0), (2, .int 1)], [], (px_shX, (px_up (px_up (px_mI Ic) 96 254 0) 96 255 1), (px_mJ Jc), (px_mP Pc)))) rfl ?_
  refine px_E_seg 6 (σ' := (96, [(0, .ref 95), (1, .int 0), (2, .int 1)], [.int 1, .int 0, .int 11, .ref 96], (px_shX, (px_up (px_up (px_mI Ic) 96 254 0) 96 255 1), (px_mJ Jc), (px_mP Pc)))) rfl ?_
  refine px_E_seg 6 (σ' := (105, [(0, .ref 95), (1, .int 0), (2, .int 1)], [.int 1], (px_shX, (px_up (px_up (px_up (px_mI Ic) 96 254 0) 96 255 1) 96 11 1), (px_mJ Jc), (px_mP Pc)))) rfl ?_
  exact px_E_ret rfl rfl
set_option maxRecDepth 100000 in
set_option maxHeartbeats 4000000 in
theorem px_x35_4 {ro : px_RO} {dd : Nat}  : px_CX ro (dd + 8) 166 [.ref 0, .int 1, .int 0] (.int 1) := by
  refine ⟨(px_up (px_up px_IX 29 1 1) 30 1 0), px_PX, ?_, (px_fr_up (Nat.le_of_ble_eq_true rfl) (px_fr_up (Nat.le_of_ble_eq_true rfl) px_fr_0)), px_frP_0⟩
  show px_E ro (dd + 8) 166 (0, _, [], _) _ _
  refine px_E_seg 6 (σ' := (17, [(0, .ref 0), (1, .int 1), (2, .int 0)], [.int 3, .int 0, .int 1], (px_shX, px_IX, px_JX, px_PX))) rfl ?_
  refine px_E_call (j := 15) (as := [.int 1, .int 0, .int 3]) (rest := []) (v := some (.int 1)) (h1 := (px_shX, px_IX, px_JX, px_PX)) rfl rfl rfl (by
    refine px_E_seg 6 (σ' := (10, [(0, .int 1), (1, .int 0), (2, .int 3)], [], (px_shX, px_IX, px_JX, px_PX))) rfl ?_
    refine px_E_seg 2 (σ' := (15, [(0, .int 1), (1, .int 0), (2, .int 3)], [.int 1], (px_shX, px_IX, px_JX, px_PX))) rfl ?_
    exact px_E_ret rfl rfl) ?_
  refine px_E_seg 3 (σ' := (27, [(0, .ref 0), (1, .int 1), (2, .int 0)], [.ref 25], (px_shX, px_IX, px_JX, px_PX))) rfl ?_
  refine px_E_call (j := 168) (as := [.ref 25]) (rest := []) (v := some (.int 0)) (h1 := (px_shX, px_IX, px_JX, px_PX)) rfl rfl rfl (by
    refine px_E_seg 2 (σ' := (4, [(0, .ref 25)], [.ref 29], (px_shX, px_IX, px_JX, px_PX))) rfl ?_
    refine px_E_call (j := 65) (as := [.ref 29]) (rest := []) (v := some (.int 0)) (h1 := (px_shX, px_IX, px_JX, px_PX)) rfl rfl rfl (by
      refine px_E_seg 6 (σ' := (6, [(2, .ref 29), (1, .int 0), (0, .ref 29)], [.int 4], (px_shX, px_IX, px_JX, px_PX))) rfl ?_
      refine px_E_seg 6 (σ' := (16, [(4, .int 0), (3, .int 4), (2, .ref 29), (1, .int 0), (0, .ref 29)], [], (px_shX, px_IX, px_JX, px_PX))) rfl ?_
      refine px_E_seg 6 (σ' := (25, [(5, .int 0), (4, .int 0), (3, .int 4), (2, .ref 29), (1, .int 0), (0, .ref 29)], [.int 0, .int 0], (px_shX, px_IX, px_JX, px_PX))) rfl ?_
      refine px_E_seg 6 (σ' := (13, [(4, .int 1), (1, .int 0), (5, .int 0), (3, .int 4), (2, .ref 29), (0, .ref 29)], [.int 4, .int 1], (px_shX, px_IX, px_JX, px_PX))) rfl ?_
      refine px_E_seg 6 (σ' := (23, [(5, .int 0), (4, .int 1), (1, .int 0), (3, .int 4), (2, .ref 29), (0, .ref 29)], [.int 0], (px_shX, px_IX, px_JX, px_PX))) rfl ?_
      refine px_E_seg 1 (σ' := (25, [(5, .int 0), (4, .int 1), (1, .int 0), (3, .int 4), (2, .ref 29), (0, .ref 29)], [.int 0, .int 0], (px_shX, px_IX, px_JX, px_PX))) rfl ?_
      refine px_E_seg 6 (σ' := (13, [(4, .int 2), (1, .int 0), (5, .int 0), (3, .int 4), (2, .ref 29), (0, .ref 29)], [.int 4, .int 2], (px_shX, px_IX, px_JX, px_PX))) rfl ?_
      refine px_E_seg 6 (σ' := (23, [(5, .int 0), (4, .int 2), (1, .int 0), (3, .int 4), (2, .ref 29), (0, .ref 29)], [.int 0], (px_shX, px_IX, px_JX, px_PX))) rfl ?_
      refine px_E_seg 1 (σ' := (25, [(5, .int 0), (4, .int 2), (1, .int 0), (3, .int 4), (2, .ref 29), (0, .ref 29)], [.int 0, .int 0], (px_shX, px_IX, px_JX, px_PX))) rfl ?_
      refine px_E_seg 6 (σ' := (13, [(4, .int 3), (1, .int 0), (5, .int 0), (3, .int 4), (2, .ref 29), (0, .ref 29)], [.int 4, .int 3], (px_shX, px_IX, px_JX, px_PX))) rfl ?_
      refine px_E_seg 6 (σ' := (23, [(5, .int 0), (4, .int 3), (1, .int 0), (3, .int 4), (2, .ref 29), (0, .ref 29)], [.int 0], (px_shX, px_IX, px_JX, px_PX))) rfl ?_
      refine px_E_seg 1 (σ' := (25, [(5, .int 0), (4, .int 3), (1, .int 0), (3, .int 4), (2, .ref 29), (0, .ref 29)], [.int 0, .int 0], (px_shX, px_IX, px_JX, px_PX))) rfl ?_
      refine px_E_seg 6 (σ' := (13, [(4, .int 4), (1, .int 0), (5, .int 0), (3, .int 4), (2, .ref 29), (0, .ref 29)], [.int 4, .int 4], (px_shX, px_IX, px_JX, px_PX))) rfl ?_
      refine px_E_seg 2 (σ' := (34, [(4, .int 4), (1, .int 0), (5, .int 0), (3, .int 4), (2, .ref 29), (0, .ref 29)], [.int 0], (px_shX, px_IX, px_JX, px_PX))) rfl ?_
      exact px_E_ret rfl rfl) ?_
    exact px_E_ret rfl rfl) ?_
  refine px_E_seg 6 (σ' := (46, [(0, .ref 0), (1, .int 1), (2, .int 0)], [.int 1, .ref 29], (px_shX, px_IX, px_JX, px_PX))) rfl ?_
  refine px_E_seg 3 (σ' := (49, [(0, .ref 0), (1, .int 1), (2, .int 0)], [.int 1, .int 0, .int 1, .ref 29], (px_shX, px_IX, px_JX, px_PX))) rfl ?_
  refine px_E_seg 6 (σ' := (59, [(0, .ref 0), (1, .int 1), (2, .int 0)], [.int 1, .ref 30], (px_shX, (px_up px_IX 29 1 1), px_JX, px_PX))) rfl ?_
  refine px_E_seg 5 (σ' := (70, [(0, .ref 0), (1, .int 1), (2, .int 0)], [.int 0, .int 0, .int 1, .ref 30], (px_shX, (px_up px_IX 29 1 1), px_JX, px_PX))) rfl ?_
  refine px_E_seg 4 (σ' := (76, [(0, .ref 0), (1, .int 1), (2, .int 0)], [.ref 25], (px_shX, (px_up (px_up px_IX 29 1 1) 30 1 0), px_JX, px_PX))) rfl ?_
  refine px_E_call (j := 168) (as := [.ref 25]) (rest := []) (v := some (.int 1)) (h1 := (px_shX, (px_up (px_up px_IX 29 1 1) 30 1 0), px_JX, px_PX)) rfl rfl rfl (by
    refine px_E_seg 2 (σ' := (4, [(0, .ref 25)], [.ref 29], (px_shX, (px_up (px_up px_IX 29 1 1) 30 1 0), px_JX, px_PX))) rfl ?_
    refine px_E_call (j := 65) (as := [.ref 29]) (rest := []) (v := some (.int 1)) (h1 := (px_shX, (px_up (px_up px_IX 29 1 1) 30 1 0), px_JX, px_PX)) rfl rfl rfl (by
      refine px_E_seg 6 (σ' := (6, [(2, .ref 29), (1, .int 0), (0, .ref 29)], [.int 4], (px_shX, (px_up (px_up px_IX 29 1 1) 30 1 0), px_JX, px_PX))) rfl ?_
      refine px_E_seg 6 (σ' := (16, [(4, .int 0), (3, .int 4), (2, .ref 29), (1, .int 0), (0, .ref 29)], [], (px_shX, (px_up (px_up px_IX 29 1 1) 30 1 0), px_JX, px_PX))) rfl ?_
      refine px_E_seg 6 (σ' := (25, [(5, .int 0), (4, .int 0), (3, .int 4), (2, .ref 29), (1, .int 0), (0, .ref 29)], [.int 0, .int 0], (px_shX, (px_up (px_up px_IX 29 1 1) 30 1 0), px_JX, px_PX))) rfl ?_
      refine px_E_seg 6 (σ' := (13, [(4, .int 1), (1, .int 0), (5, .int 0), (3, .int 4), (2, .ref 29), (0, .ref 29)], [.int 4, .int 1], (px_shX, (px_up (px_up px_IX 29 1 1) 30 1 0), px_JX, px_PX))) rfl ?_
      refine px_E_seg 6 (σ' := (23, [(5, .int 1), (4, .int 1), (1, .int 0), (3, .int 4), (2, .ref 29), (0, .ref 29)], [.int 0], (px_shX, (px_up (px_up px_IX 29 1 1) 30 1 0), px_JX, px_PX))) rfl ?_
      refine px_E_seg 1 (σ' := (25, [(5, .int 1), (4, .int 1), (1, .int 0), (3, .int 4), (2, .ref 29), (0, .ref 29)], [.int 1, .int 0], (px_shX, (px_up (px_up px_IX 29 1 1) 30 1 0), px_JX, px_PX))) rfl ?_
      refine px_E_seg 6 (σ' := (13, [(4, .int 2), (1, .int 1), (5, .int 1), (3, .int 4), (2, .ref 29), (0, .ref 29)], [.int 4, .int 2], (px_shX, (px_up (px_up px_IX 29 1 1) 30 1 0), px_JX, px_PX))) rfl ?_
      refine px_E_seg 6 (σ' := (23, [(5, .int 0), (4, .int 2), (1, .int 1), (3, .int 4), (2, .ref 29), (0, .ref 29)], [.int 1], (px_shX, (px_up (px_up px_IX 29 1 1) 30 1 0), px_JX, px_PX))) rfl ?_
      refine px_E_seg 1 (σ' := (25, [(5, .int 0), (4, .int 2), (1, .int 1), (3, .int 4), (2, .ref 29), (0, .ref 29)], [.int 0, .int 1], (px_shX, (px_up (px_up px_IX 29 1 1) 30 1 0), px_JX, px_PX))) rfl ?_
      refine px_E_seg 6 (σ' := (13, [(4, .int 3), (1, .int 1), (5, .int 0), (3, .int 4), (2, .ref 29), (0, .ref 29)], [.int 4, .int 3], (px_shX, (px_up (px_up px_IX 29 1 1) 30 1 0), px_JX, px_PX))) rfl ?_
      refine px_E_seg 6 (σ' := (23, [(5, .int 0), (4, .int 3), (1, .int 1), (3, .int 4), (2, .ref 29), (0, .ref 29)], [.int 1], (px_shX, (px_up (px_up px_IX 29 1 1) 30 1 0), px_JX, px_PX))) rfl ?_
      refine px_E_seg 1 (σ' := (25, [(5, .int 0), (4, .int 3), (1, .int 1), (3, .int 4), (2, .ref 29), (0, .ref 29)], [.int 0, .int 1], (px_shX, (px_up (px_up px_IX 29 1 1) 30 1 0), px_JX, px_PX))) rfl ?_
      refine px_E_seg 6 (σ' := (13, [(4, .int 4), (1, .int 1), (5, .int 0), (3, .int 4), (2, .ref 29), (0, .ref 29)], [.int 4, .int 4], (px_shX, (px_up (px_up px_IX 29 1 1) 30 1 0), px_JX, px_PX))) rfl ?_
      refine px_E_seg 2 (σ' := (34, [(4, .int 4), (1, .int 1), (5, .int 0), (3, .int 4), (2, .ref 29), (0, .ref 29)], [.int 1], (px_shX, (px_up (px_up px_IX 29 1 1) 30 1 0), px_JX, px_PX))) rfl ?_
      exact px_E_ret rfl rfl) ?_
    exact px_E_ret rfl rfl) ?_
  exact px_E_ret rfl rfl
set_option maxRecDepth 100000 in
set_option maxHeartbeats 4000000 in
theorem px_r35_4 {ro : px_RO} {dd : Nat}  : px_RX ro (dd + 8) 321 [.ref 95, .int 1, .int 0] (.int 1) := by
  intro Ic Jc Pc
  refine ⟨(px_shX, (px_up (px_up (px_up (px_mI Ic) 96 254 1) 96 255 0) 96 11 1), (px_mJ Jc), (px_mP Pc)), ?_, rfl⟩
  show px_E ro (dd + 8) 321 (0, _, [], _) _ _
  refine px_E_seg 6 (σ' := (18, [(0, .ref 95), (1, .int 1), (2, .int 0)], [.int 3, .int 0, .int 1], (px_shX, (px_mI Ic), (px_mJ Jc), (px_mP Pc)))) rfl ?_
  refine px_E_call (j := 183) (as := [.int 1, .int 0, .int 3]) (rest := []) (v := some (.int 1)) (h1 := (px_shX, (px_mI Ic), (px_mJ Jc), (px_mP Pc))) rfl rfl rfl (by
    refine px_E_seg 6 (σ' := (10, [(0, .int 1), (1, .int 0), (2, .int 3)], [], (px_shX, (px_mI Ic), (px_mJ Jc), (px_mP Pc)))) rfl ?_
    refine px_E_seg 2 (σ' := (15, [(0, .int 1), (1, .int 0), (2, .int 3)], [.int 1], (px_shX, (px_mI Ic), (px_mJ Jc), (px_mP Pc)))) rfl ?_
    exact px_E_ret rfl rfl) ?_
  refine px_E_seg 6 (σ' := (33, [(0, .ref 95), (1, .int 1), (2, .int 0)], [.int 12, .int 0], (px_shX, (px_mI Ic), (px_mJ Jc), (px_mP Pc)))) rfl ?_
  refine px_E_seg 6 (σ' := (48, [(0, .ref 95), (1, .int 1), (2, .int 0)], [.ref 95, .int 2, .int 254, .ref 96], (px_shX, (px_mI Ic), (px_mJ Jc), (px_mP Pc)))) rfl ?_
  refine px_E_seg 3 (σ' := (54, [(0, .ref 95), (1, .int 1), (2, .int 0)], [.int 0, .int 2, .int 254, .ref 96], (px_shX, (px_mI Ic), (px_mJ Jc), (px_mP Pc)))) rfl ?_
  refine px_E_seg 1 (σ' := (55, [(0, .ref 95), (1, .int 1), (2, .int 0)], [.int 0, .int 254, .ref 96], (px_shX, (px_mI Ic), (px_mJ Jc), (px_mP Pc)))) rfl ?_
  refine px_E_seg 6 (σ' := (65, [(0, .ref 95), (1, .int 1), (2, .int 0)], [.int 254, .ref 96], (px_shX, (px_up (px_mI Ic) 96 254 1), (px_mJ Jc), (px_mP Pc)))) rfl ?_
  refine px_E_seg 5 (σ' := (73, [(0, .ref 95), (1, .int 1), (2, .int 0)], [.int 0, .int 2, .int 254, .ref 96], (px_shX, (px_up (px_mI Ic) 96 254 1), (px_mJ Jc), (px_mP Pc)))) rfl ?_
  refine px_E_seg 1 (σ' := (74, [(0, .ref 95), (1, .int 1), (2, .int 0)], [.int 0, .int 254, .ref 96], (px_shX, (px_up (px_mI Ic) 96 254 1), (px_mJ Jc), (px_mP Pc)))) rfl ?_
  refine px_E_seg 2 (σ' := (76, [(0, .ref 95), (1, .int 1), (2, .int 0)], [.int 1, .int 254, .ref 96], (px_shX, (px_up (px_mI Ic) 96 254 1), (px_mJ Jc), (px_mP Pc)))) rfl ?_
  refine px_E_seg 6 (σ' := (88, [(0, .ref 95), (1, .int 1), (2, .int 0)], [.ref 95], (px_shX, (px_up (px_up (px_mI Ic) 96 254 1) 96 255 0), (px_mJ Jc), (px_mP Pc)))) rfl ?_
  refine px_E_seg 5 (σ' := (96, [(0, .ref 95), (1, .int 1), (2, .int 0)], [.int 1, .int 0, .int 11, .ref 96], (px_shX, (px_up (px_up (px_mI Ic) 96 254 1) 96 255 0), (px_mJ Jc), (px_mP Pc)))) rfl ?_
  refine px_E_seg 6 (σ' := (105, [(0, .ref 95), (1, .int 1), (2, .int 0)], [.int 1], (px_shX, (px_up (px_up (px_up (px_mI Ic) 96 254 1) 96 255 0) 96 11 1), (px_mJ Jc), (px_mP Pc)))) rfl ?_
  exact px_E_ret rfl rfl
set_option maxRecDepth 100000 in
set_option maxHeartbeats 4000000 in
theorem px_x35_5 {ro : px_RO} {dd : Nat}  : px_CX ro (dd + 8) 166 [.ref 0, .int 1, .int 1] (.int 1) := by
  refine ⟨(px_up (px_up px_IX 29 1 1) 30 1 1), px_PX, ?_, (px_fr_up (Nat.le_of_ble_eq_true rfl) (px_fr_up (Nat.le_of_ble_eq_true rfl) px_fr_0)), px_frP_0⟩
  show px_E ro (dd + 8) 166 (0, _, [], _) _ _
  refine px_E_seg 6 (σ' := (17, [(0, .ref 0), (1, .int 1), (2, .int 1)], [.int 3, .int 0, .int 1], (px_shX, px_IX, px_JX, px_PX))) rfl ?_
  refine px_E_call (j := 15) (as := [.int 1, .int 0, .int 3]) (rest := []) (v := some (.int 1)) (h1 := (px_shX, px_IX, px_JX, px_PX)) rfl rfl rfl (by
    refine px_E_seg 6 (σ' := (10, [(0, .int 1), (1, .int 0), (2, .int 3)], [], (px_shX, px_IX, px_JX, px_PX))) rfl ?_
    refine px_E_seg 2 (σ' := (15, [(0, .int 1), (1, .int 0), (2, .int 3)], [.int 1], (px_shX, px_IX, px_JX, px_PX))) rfl ?_
    exact px_E_ret rfl rfl) ?_
  refine px_E_seg 3 (σ' := (27, [(0, .ref 0), (1, .int 1), (2, .int 1)], [.ref 25], (px_shX, px_IX, px_JX, px_PX))) rfl ?_
  refine px_E_call (j := 168) (as := [.ref 25]) (rest := []) (v := some (.int 0)) (h1 := (px_shX, px_IX, px_JX, px_PX)) rfl rfl rfl (by
    refine px_E_seg 2 (σ' := (4, [(0, .ref 25)], [.ref 29], (px_shX, px_IX, px_JX, px_PX))) rfl ?_
    refine px_E_call (j := 65) (as := [.ref 29]) (rest := []) (v := some (.int 0)) (h1 := (px_shX, px_IX, px_JX, px_PX)) rfl rfl rfl (by
      refine px_E_seg 6 (σ' := (6, [(2, .ref 29), (1, .int 0), (0, .ref 29)], [.int 4], (px_shX, px_IX, px_JX, px_PX))) rfl ?_
      refine px_E_seg 6 (σ' := (16, [(4, .int 0), (3, .int 4), (2, .ref 29), (1, .int 0), (0, .ref 29)], [], (px_shX, px_IX, px_JX, px_PX))) rfl ?_
      refine px_E_seg 6 (σ' := (25, [(5, .int 0), (4, .int 0), (3, .int 4), (2, .ref 29), (1, .int 0), (0, .ref 29)], [.int 0, .int 0], (px_shX, px_IX, px_JX, px_PX))) rfl ?_
      refine px_E_seg 6 (σ' := (13, [(4, .int 1), (1, .int 0), (5, .int 0), (3, .int 4), (2, .ref 29), (0, .ref 29)], [.int 4, .int 1], (px_shX, px_IX, px_JX, px_PX))) rfl ?_
      refine px_E_seg 6 (σ' := (23, [(5, .int 0), (4, .int 1), (1, .int 0), (3, .int 4), (2, .ref 29), (0, .ref 29)], [.int 0], (px_shX, px_IX, px_JX, px_PX))) rfl ?_
      refine px_E_seg 1 (σ' := (25, [(5, .int 0), (4, .int 1), (1, .int 0), (3, .int 4), (2, .ref 29), (0, .ref 29)], [.int 0, .int 0], (px_shX, px_IX, px_JX, px_PX))) rfl ?_
      refine px_E_seg 6 (σ' := (13, [(4, .int 2), (1, .int 0), (5, .int 0), (3, .int 4), (2, .ref 29), (0, .ref 29)], [.int 4, .int 2], (px_shX, px_IX, px_JX, px_PX))) rfl ?_
      refine px_E_seg 6 (σ' := (23, [(5, .int 0), (4, .int 2), (1, .int 0), (3, .int 4), (2, .ref 29), (0, .ref 29)], [.int 0], (px_shX, px_IX, px_JX, px_PX))) rfl ?_
      refine px_E_seg 1 (σ' := (25, [(5, .int 0), (4, .int 2), (1, .int 0), (3, .int 4), (2, .ref 29), (0, .ref 29)], [.int 0, .int 0], (px_shX, px_IX, px_JX, px_PX))) rfl ?_
      refine px_E_seg 6 (σ' := (13, [(4, .int 3), (1, .int 0), (5, .int 0), (3, .int 4), (2, .ref 29), (0, .ref 29)], [.int 4, .int 3], (px_shX, px_IX, px_JX, px_PX))) rfl ?_
      refine px_E_seg 6 (σ' := (23, [(5, .int 0), (4, .int 3), (1, .int 0), (3, .int 4), (2, .ref 29), (0, .ref 29)], [.int 0], (px_shX, px_IX, px_JX, px_PX))) rfl ?_
      refine px_E_seg 1 (σ' := (25, [(5, .int 0), (4, .int 3), (1, .int 0), (3, .int 4), (2, .ref 29), (0, .ref 29)], [.int 0, .int 0], (px_shX, px_IX, px_JX, px_PX))) rfl ?_
      refine px_E_seg 6 (σ' := (13, [(4, .int 4), (1, .int 0), (5, .int 0), (3, .int 4), (2, .ref 29), (0, .ref 29)], [.int 4, .int 4], (px_shX, px_IX, px_JX, px_PX))) rfl ?_
      refine px_E_seg 2 (σ' := (34, [(4, .int 4), (1, .int 0), (5, .int 0), (3, .int 4), (2, .ref 29), (0, .ref 29)], [.int 0], (px_shX, px_IX, px_JX, px_PX))) rfl ?_
      exact px_E_ret rfl rfl) ?_
    exact px_E_ret rfl rfl) ?_
  refine px_E_seg 6 (σ' := (46, [(0, .ref 0), (1, .int 1), (2, .int 1)], [.int 1, .ref 29], (px_shX, px_IX, px_JX, px_PX))) rfl ?_
  refine px_E_seg 3 (σ' := (49, [(0, .ref 0), (1, .int 1), (2, .int 1)], [.int 1, .int 0, .int 1, .ref 29], (px_shX, px_IX, px_JX, px_PX))) rfl ?_
  refine px_E_seg 6 (σ' := (59, [(0, .ref 0), (1, .int 1), (2, .int 1)], [.int 1, .ref 30], (px_shX, (px_up px_IX 29 1 1), px_JX, px_PX))) rfl ?_
  refine px_E_seg 6 (σ' := (70, [(0, .ref 0), (1, .int 1), (2, .int 1)], [.int 1, .int 0, .int 1, .ref 30], (px_shX, (px_up px_IX 29 1 1), px_JX, px_PX))) rfl ?_
  refine px_E_seg 4 (σ' := (76, [(0, .ref 0), (1, .int 1), (2, .int 1)], [.ref 25], (px_shX, (px_up (px_up px_IX 29 1 1) 30 1 1), px_JX, px_PX))) rfl ?_
  refine px_E_call (j := 168) (as := [.ref 25]) (rest := []) (v := some (.int 1)) (h1 := (px_shX, (px_up (px_up px_IX 29 1 1) 30 1 1), px_JX, px_PX)) rfl rfl rfl (by
    refine px_E_seg 2 (σ' := (4, [(0, .ref 25)], [.ref 29], (px_shX, (px_up (px_up px_IX 29 1 1) 30 1 1), px_JX, px_PX))) rfl ?_
    refine px_E_call (j := 65) (as := [.ref 29]) (rest := []) (v := some (.int 1)) (h1 := (px_shX, (px_up (px_up px_IX 29 1 1) 30 1 1), px_JX, px_PX)) rfl rfl rfl (by
      refine px_E_seg 6 (σ' := (6, [(2, .ref 29), (1, .int 0), (0, .ref 29)], [.int 4], (px_shX, (px_up (px_up px_IX 29 1 1) 30 1 1), px_JX, px_PX))) rfl ?_
      refine px_E_seg 6 (σ' := (16, [(4, .int 0), (3, .int 4), (2, .ref 29), (1, .int 0), (0, .ref 29)], [], (px_shX, (px_up (px_up px_IX 29 1 1) 30 1 1), px_JX, px_PX))) rfl ?_
      refine px_E_seg 6 (σ' := (25, [(5, .int 0), (4, .int 0), (3, .int 4), (2, .ref 29), (1, .int 0), (0, .ref 29)], [.int 0, .int 0], (px_shX, (px_up (px_up px_IX 29 1 1) 30 1 1), px_JX, px_PX))) rfl ?_
      refine px_E_seg 6 (σ' := (13, [(4, .int 1), (1, .int 0), (5, .int 0), (3, .int 4), (2, .ref 29), (0, .ref 29)], [.int 4, .int 1], (px_shX, (px_up (px_up px_IX 29 1 1) 30 1 1), px_JX, px_PX))) rfl ?_
      refine px_E_seg 6 (σ' := (23, [(5, .int 1), (4, .int 1), (1, .int 0), (3, .int 4), (2, .ref 29), (0, .ref 29)], [.int 0], (px_shX, (px_up (px_up px_IX 29 1 1) 30 1 1), px_JX, px_PX))) rfl ?_
      refine px_E_seg 1 (σ' := (25, [(5, .int 1), (4, .int 1), (1, .int 0), (3, .int 4), (2, .ref 29), (0, .ref 29)], [.int 1, .int 0], (px_shX, (px_up (px_up px_IX 29 1 1) 30 1 1), px_JX, px_PX))) rfl ?_
      refine px_E_seg 6 (σ' := (13, [(4, .int 2), (1, .int 1), (5, .int 1), (3, .int 4), (2, .ref 29), (0, .ref 29)], [.int 4, .int 2], (px_shX, (px_up (px_up px_IX 29 1 1) 30 1 1), px_JX, px_PX))) rfl ?_
      refine px_E_seg 6 (σ' := (23, [(5, .int 0), (4, .int 2), (1, .int 1), (3, .int 4), (2, .ref 29), (0, .ref 29)], [.int 1], (px_shX, (px_up (px_up px_IX 29 1 1) 30 1 1), px_JX, px_PX))) rfl ?_
      refine px_E_seg 1 (σ' := (25, [(5, .int 0), (4, .int 2), (1, .int 1), (3, .int 4), (2, .ref 29), (0, .ref 29)], [.int 0, .int 1], (px_shX, (px_up (px_up px_IX 29 1 1) 30 1 1), px_JX, px_PX))) rfl ?_
      refine px_E_seg 6 (σ' := (13, [(4, .int 3), (1, .int 1), (5, .int 0), (3, .int 4), (2, .ref 29), (0, .ref 29)], [.int 4, .int 3], (px_shX, (px_up (px_up px_IX 29 1 1) 30 1 1), px_JX, px_PX))) rfl ?_
      refine px_E_seg 6 (σ' := (23, [(5, .int 0), (4, .int 3), (1, .int 1), (3, .int 4), (2, .ref 29), (0, .ref 29)], [.int 1], (px_shX, (px_up (px_up px_IX 29 1 1) 30 1 1), px_JX, px_PX))) rfl ?_
      refine px_E_seg 1 (σ' := (25, [(5, .int 0), (4, .int 3), (1, .int 1), (3, .int 4), (2, .ref 29), (0, .ref 29)], [.int 0, .int 1], (px_shX, (px_up (px_up px_IX 29 1 1) 30 1 1), px_JX, px_PX))) rfl ?_
      refine px_E_seg 6 (σ' := (13, [(4, .int 4), (1, .int 1), (5, .int 0), (3, .int 4), (2, .ref 29), (0, .ref 29)], [.int 4, .int 4], (px_shX, (px_up (px_up px_IX 29 1 1) 30 1 1), px_JX, px_PX))) rfl ?_
      refine px_E_seg 2 (σ' := (34, [(4, .int 4), (1, .int 1), (5, .int 0), (3, .int 4), (2, .ref 29), (0, .ref 29)], [.int 1], (px_shX, (px_up (px_up px_IX 29 1 1) 30 1 1), px_JX, px_PX))) rfl ?_
      exact px_E_ret rfl rfl) ?_
    exact px_E_ret rfl rfl) ?_
  exact px_E_ret rfl rfl
set_option maxRecDepth 100000 in
set_option maxHeartbeats 4000000 in
theorem px_r35_5 {ro : px_RO} {dd : Nat}  : px_RX ro (dd + 8) 321 [.ref 95, .int 1, .int 1] (.int 1) := by
  intro Ic Jc Pc
  refine ⟨(px_shX, (px_up (px_up (px_up (px_mI Ic) 96 254 1) 96 255 1) 96 11 1), (px_mJ Jc), (px_mP Pc)), ?_, rfl⟩
  show px_E ro (dd + 8) 321 (0, _, [], _) _ _
  refine px_E_seg 6 (σ' := (18, [(0, .ref 95), (1, .int 1), (2, .int 1)], [.int 3, .int 0, .int 1], (px_shX, (px_mI Ic), (px_mJ Jc), (px_mP Pc)))) rfl ?_
  refine px_E_call (j := 183) (as := [.int 1, .int 0, .int 3]) (rest := []) (v := some (.int 1)) (h1 := (px_shX, (px_mI Ic), (px_mJ Jc), (px_mP Pc))) rfl rfl rfl (by
    refine px_E_seg 6 (σ' := (10, [(0, .int 1), (1, .int 0), (2, .int 3)], [], (px_shX, (px_mI Ic), (px_mJ Jc), (px_mP Pc)))) rfl ?_
    refine px_E_seg 2 (σ' := (15, [(0, .int 1), (1, .int 0), (2, .int 3)], [.int 1], (px_shX, (px_mI Ic), (px_mJ Jc), (px_mP Pc)))) rfl ?_
    exact px_E_ret rfl rfl) ?_
  refine px_E_seg 6 (σ' := (33, [(0, .ref 95), (1, .int 1), (2, .int 1)], [.int 12, .int 0], (px_shX, (px_mI Ic), (px_mJ Jc), (px_mP Pc)))) rfl ?_
  refine px_E_seg 6 (σ' := (48, [(0, .ref 95), (1, .int 1), (2, .int 1)], [.ref 95, .int 2, .int 254, .ref 96], (px_shX, (px_mI Ic), (px_mJ Jc), (px_mP Pc)))) rfl ?_
  refine px_E_seg 3 (σ' := (54, [(0, .ref 95), (1, .int 1), (2, .int 1)], [.int 0, .int 2, .int 254, .ref 96], (px_shX, (px_mI Ic), (px_mJ Jc), (px_mP Pc)))) rfl ?_
  refine px_E_seg 1 (σ' := (55, [(0, .ref 95), (1, .int 1), (2, .int 1)], [.int 0, .int 254, .ref 96], (px_shX, (px_mI Ic), (px_mJ Jc), (px_mP Pc)))) rfl ?_
  refine px_E_seg 6 (σ' := (65, [(0, .ref 95), (1, .int 1), (2, .int 1)], [.int 254, .ref 96], (px_shX, (px_up (px_mI Ic) 96 254 1), (px_mJ Jc), (px_mP Pc)))) rfl ?_
  refine px_E_seg 5 (σ' := (73, [(0, .ref 95), (1, .int 1), (2, .int 1)], [.int 0, .int 2, .int 254, .ref 96], (px_shX, (px_up (px_mI Ic) 96 254 1), (px_mJ Jc), (px_mP Pc)))) rfl ?_
  refine px_E_seg 1 (σ' := (74, [(0, .ref 95), (1, .int 1), (2, .int 1)], [.int 0, .int 254, .ref 96], (px_shX, (px_up (px_mI Ic) 96 254 1), (px_mJ Jc), (px_mP Pc)))) rfl ?_
  refine px_E_seg 2 (σ' := (76, [(0, .ref 95), (1, .int 1), (2, .int 1)], [.int 1, .int 254, .ref 96], (px_shX, (px_up (px_mI Ic) 96 254 1), (px_mJ Jc), (px_mP Pc)))) rfl ?_
  refine px_E_seg 6 (σ' := (87, [(0, .ref 95), (1, .int 1), (2, .int 1)], [], (px_shX, (px_up (px_up (px_mI Ic) 96 254 1) 96 255 1), (px_mJ Jc), (px_mP Pc)))) rfl ?_
  refine px_E_seg 6 (σ' := (96, [(0, .ref 95), (1, .int 1), (2, .int 1)], [.int 1, .int 0, .int 11, .ref 96], (px_shX, (px_up (px_up (px_mI Ic) 96 254 1) 96 255 1), (px_mJ Jc), (px_mP Pc)))) rfl ?_
  refine px_E_seg 6 (σ' := (105, [(0, .ref 95), (1, .int 1), (2, .int 1)], [.int 1], (px_shX, (px_up (px_up (px_up (px_mI Ic) 96 254 1) 96 255 1) 96 11 1), (px_mJ Jc), (px_mP Pc)))) rfl ?_
  exact px_E_ret rfl rfl
set_option maxRecDepth 100000 in
set_option maxHeartbeats 4000000 in
theorem px_x35_6 {ro : px_RO} {dd : Nat}  : px_CX ro (dd + 8) 166 [.ref 0, .int 2, .int 0] (.int 1) := by
  refine ⟨(px_up (px_up px_IX 29 2 1) 30 2 0), px_PX, ?_, (px_fr_up (Nat.le_of_ble_eq_true rfl) (px_fr_up (Nat.le_of_ble_eq_true rfl) px_fr_0)), px_frP_0⟩
  show px_E ro (dd + 8) 166 (0, _, [], _) _ _
  refine px_E_seg 6 (σ' := (17, [(0, .ref 0), (1, .int 2), (2, .int 0)], [.int 3, .int 0, .int 2], (px_shX, px_IX, px_JX, px_PX))) rfl ?_
  refine px_E_call (j := 15) (as := [.int 2, .int 0, .int 3]) (rest := []) (v := some (.int 1)) (h1 := (px_shX, px_IX, px_JX, px_PX)) rfl rfl rfl (by
    refine px_E_seg 6 (σ' := (10, [(0, .int 2), (1, .int 0), (2, .int 3)], [], (px_shX, px_IX, px_JX, px_PX))) rfl ?_
    refine px_E_seg 2 (σ' := (15, [(0, .int 2), (1, .int 0), (2, .int 3)], [.int 1], (px_shX, px_IX, px_JX, px_PX))) rfl ?_
    exact px_E_ret rfl rfl) ?_
  refine px_E_seg 3 (σ' := (27, [(0, .ref 0), (1, .int 2), (2, .int 0)], [.ref 25], (px_shX, px_IX, px_JX, px_PX))) rfl ?_
  refine px_E_call (j := 168) (as := [.ref 25]) (rest := []) (v := some (.int 0)) (h1 := (px_shX, px_IX, px_JX, px_PX)) rfl rfl rfl (by
    refine px_E_seg 2 (σ' := (4, [(0, .ref 25)], [.ref 29], (px_shX, px_IX, px_JX, px_PX))) rfl ?_
    refine px_E_call (j := 65) (as := [.ref 29]) (rest := []) (v := some (.int 0)) (h1 := (px_shX, px_IX, px_JX, px_PX)) rfl rfl rfl (by
      refine px_E_seg 6 (σ' := (6, [(2, .ref 29), (1, .int 0), (0, .ref 29)], [.int 4], (px_shX, px_IX, px_JX, px_PX))) rfl ?_
      refine px_E_seg 6 (σ' := (16, [(4, .int 0), (3, .int 4), (2, .ref 29), (1, .int 0), (0, .ref 29)], [], (px_shX, px_IX, px_JX, px_PX))) rfl ?_
      refine px_E_seg 6 (σ' := (25, [(5, .int 0), (4, .int 0), (3, .int 4), (2, .ref 29), (1, .int 0), (0, .ref 29)], [.int 0, .int 0], (px_shX, px_IX, px_JX, px_PX))) rfl ?_
      refine px_E_seg 6 (σ' := (13, [(4, .int 1), (1, .int 0), (5, .int 0), (3, .int 4), (2, .ref 29), (0, .ref 29)], [.int 4, .int 1], (px_shX, px_IX, px_JX, px_PX))) rfl ?_
      refine px_E_seg 6 (σ' := (23, [(5, .int 0), (4, .int 1), (1, .int 0), (3, .int 4), (2, .ref 29), (0, .ref 29)], [.int 0], (px_shX, px_IX, px_JX, px_PX))) rfl ?_
      refine px_E_seg 1 (σ' := (25, [(5, .int 0), (4, .int 1), (1, .int 0), (3, .int 4), (2, .ref 29), (0, .ref 29)], [.int 0, .int 0], (px_shX, px_IX, px_JX, px_PX))) rfl ?_
      refine px_E_seg 6 (σ' := (13, [(4, .int 2), (1, .int 0), (5, .int 0), (3, .int 4), (2, .ref 29), (0, .ref 29)], [.int 4, .int 2], (px_shX, px_IX, px_JX, px_PX))) rfl ?_
      refine px_E_seg 6 (σ' := (23, [(5, .int 0), (4, .int 2), (1, .int 0), (3, .int 4), (2, .ref 29), (0, .ref 29)], [.int 0], (px_shX, px_IX, px_JX, px_PX))) rfl ?_
      refine px_E_seg 1 (σ' := (25, [(5, .int 0), (4, .int 2), (1, .int 0), (3, .int 4), (2, .ref 29), (0, .ref 29)], [.int 0, .int 0], (px_shX, px_IX, px_JX, px_PX))) rfl ?_
      refine px_E_seg 6 (σ' := (13, [(4, .int 3), (1, .int 0), (5, .int 0), (3, .int 4), (2, .ref 29), (0, .ref 29)], [.int 4, .int 3], (px_shX, px_IX, px_JX, px_PX))) rfl ?_
      refine px_E_seg 6 (σ' := (23, [(5, .int 0), (4, .int 3), (1, .int 0), (3, .int 4), (2, .ref 29), (0, .ref 29)], [.int 0], (px_shX, px_IX, px_JX, px_PX))) rfl ?_
      refine px_E_seg 1 (σ' := (25, [(5, .int 0), (4, .int 3), (1, .int 0), (3, .int 4), (2, .ref 29), (0, .ref 29)], [.int 0, .int 0], (px_shX, px_IX, px_JX, px_PX))) rfl ?_
      refine px_E_seg 6 (σ' := (13, [(4, .int 4), (1, .int 0), (5, .int 0), (3, .int 4), (2, .ref 29), (0, .ref 29)], [.int 4, .int 4], (px_shX, px_IX, px_JX, px_PX))) rfl ?_
      refine px_E_seg 2 (σ' := (34, [(4, .int 4), (1, .int 0), (5, .int 0), (3, .int 4), (2, .ref 29), (0, .ref 29)], [.int 0], (px_shX, px_IX, px_JX, px_PX))) rfl ?_
      exact px_E_ret rfl rfl) ?_
    exact px_E_ret rfl rfl) ?_
  refine px_E_seg 6 (σ' := (46, [(0, .ref 0), (1, .int 2), (2, .int 0)], [.int 2, .ref 29], (px_shX, px_IX, px_JX, px_PX))) rfl ?_
  refine px_E_seg 3 (σ' := (49, [(0, .ref 0), (1, .int 2), (2, .int 0)], [.int 1, .int 0, .int 2, .ref 29], (px_shX, px_IX, px_JX, px_PX))) rfl ?_
  refine px_E_seg 6 (σ' := (59, [(0, .ref 0), (1, .int 2), (2, .int 0)], [.int 2, .ref 30], (px_shX, (px_up px_IX 29 2 1), px_JX, px_PX))) rfl ?_
  refine px_E_seg 5 (σ' := (70, [(0, .ref 0), (1, .int 2), (2, .int 0)], [.int 0, .int 0, .int 2, .ref 30], (px_shX, (px_up px_IX 29 2 1), px_JX, px_PX))) rfl ?_
  refine px_E_seg 4 (σ' := (76, [(0, .ref 0), (1, .int 2), (2, .int 0)], [.ref 25], (px_shX, (px_up (px_up px_IX 29 2 1) 30 2 0), px_JX, px_PX))) rfl ?_
  refine px_E_call (j := 168) (as := [.ref 25]) (rest := []) (v := some (.int 1)) (h1 := (px_shX, (px_up (px_up px_IX 29 2 1) 30 2 0), px_JX, px_PX)) rfl rfl rfl (by
    refine px_E_seg 2 (σ' := (4, [(0, .ref 25)], [.ref 29], (px_shX, (px_up (px_up px_IX 29 2 1) 30 2 0), px_JX, px_PX))) rfl ?_
    refine px_E_call (j := 65) (as := [.ref 29]) (rest := []) (v := some (.int 1)) (h1 := (px_shX, (px_up (px_up px_IX 29 2 1) 30 2 0), px_JX, px_PX)) rfl rfl rfl (by
      refine px_E_seg 6 (σ' := (6, [(2, .ref 29), (1, .int 0), (0, .ref 29)], [.int 4], (px_shX, (px_up (px_up px_IX 29 2 1) 30 2 0), px_JX, px_PX))) rfl ?_
      refine px_E_seg 6 (σ' := (16, [(4, .int 0), (3, .int 4), (2, .ref 29), (1, .int 0), (0, .ref 29)], [], (px_shX, (px_up (px_up px_IX 29 2 1) 30 2 0), px_JX, px_PX))) rfl ?_
      refine px_E_seg 6 (σ' := (25, [(5, .int 0), (4, .int 0), (3, .int 4), (2, .ref 29), (1, .int 0), (0, .ref 29)], [.int 0, .int 0], (px_shX, (px_up (px_up px_IX 29 2 1) 30 2 0), px_JX, px_PX))) rfl ?_
      refine px_E_seg 6 (σ' := (13, [(4, .int 1), (1, .int 0), (5, .int 0), (3, .int 4), (2, .ref 29), (0, .ref 29)], [.int 4, .int 1], (px_shX, (px_up (px_up px_IX 29 2 1) 30 2 0), px_JX, px_PX))) rfl ?_
      refine px_E_seg 6 (σ' := (23, [(5, .int 0), (4, .int 1), (1, .int 0), (3, .int 4), (2, .ref 29), (0, .ref 29)], [.int 0], (px_shX, (px_up (px_up px_IX 29 2 1) 30 2 0), px_JX, px_PX))) rfl ?_
      refine px_E_seg 1 (σ' := (25, [(5, .int 0), (4, .int 1), (1, .int 0), (3, .int 4), (2, .ref 29), (0, .ref 29)], [.int 0, .int 0], (px_shX, (px_up (px_up px_IX 29 2 1) 30 2 0), px_JX, px_PX))) rfl ?_
      refine px_E_seg 6 (σ' := (13, [(4, .int 2), (1, .int 0), (5, .int 0), (3, .int 4), (2, .ref 29), (0, .ref 29)], [.int 4, .int 2], (px_shX, (px_up (px_up px_IX 29 2 1) 30 2 0), px_JX, px_PX))) rfl ?_
      refine px_E_seg 6 (σ' := (23, [(5, .int 1), (4, .int 2), (1, .int 0), (3, .int 4), (2, .ref 29), (0, .ref 29)], [.int 0], (px_shX, (px_up (px_up px_IX 29 2 1) 30 2 0), px_JX, px_PX))) rfl ?_
      refine px_E_seg 1 (σ' := (25, [(5, .int 1), (4, .int 2), (1, .int 0), (3, .int 4), (2, .ref 29), (0, .ref 29)], [.int 1, .int 0], (px_shX, (px_up (px_up px_IX 29 2 1) 30 2 0), px_JX, px_PX))) rfl ?_
      refine px_E_seg 6 (σ' := (13, [(4, .int 3), (1, .int 1), (5, .int 1), (3, .int 4), (2, .ref 29), (0, .ref 29)], [.int 4, .int 3], (px_shX, (px_up (px_up px_IX 29 2 1) 30 2 0), px_JX, px_PX))) rfl ?_
      refine px_E_seg 6 (σ' := (23, [(5, .int 0), (4, .int 3), (1, .int 1), (3, .int 4), (2, .ref 29), (0, .ref 29)], [.int 1], (px_shX, (px_up (px_up px_IX 29 2 1) 30 2 0), px_JX, px_PX))) rfl ?_
      refine px_E_seg 1 (σ' := (25, [(5, .int 0), (4, .int 3), (1, .int 1), (3, .int 4), (2, .ref 29), (0, .ref 29)], [.int 0, .int 1], (px_shX, (px_up (px_up px_IX 29 2 1) 30 2 0), px_JX, px_PX))) rfl ?_
      refine px_E_seg 6 (σ' := (13, [(4, .int 4), (1, .int 1), (5, .int 0), (3, .int 4), (2, .ref 29), (0, .ref 29)], [.int 4, .int 4], (px_shX, (px_up (px_up px_IX 29 2 1) 30 2 0), px_JX, px_PX))) rfl ?_
      refine px_E_seg 2 (σ' := (34, [(4, .int 4), (1, .int 1), (5, .int 0), (3, .int 4), (2, .ref 29), (0, .ref 29)], [.int 1], (px_shX, (px_up (px_up px_IX 29 2 1) 30 2 0), px_JX, px_PX))) rfl ?_
      exact px_E_ret rfl rfl) ?_
    exact px_E_ret rfl rfl) ?_
  exact px_E_ret rfl rfl
set_option maxRecDepth 100000 in
set_option maxHeartbeats 4000000 in
theorem px_r35_6 {ro : px_RO} {dd : Nat}  : px_RX ro (dd + 8) 321 [.ref 95, .int 2, .int 0] (.int 1) := by
  intro Ic Jc Pc
  refine ⟨(px_shX, (px_up (px_up (px_up (px_mI Ic) 96 254 2) 96 255 0) 96 11 1), (px_mJ Jc), (px_mP Pc)), ?_, rfl⟩
  show px_E ro (dd + 8) 321 (0, _, [], _) _ _
  refine px_E_seg 6 (σ' := (18, [(0, .ref 95), (1, .int 2), (2, .int 0)], [.int 3, .int 0, .int 2], (px_shX, (px_mI Ic), (px_mJ Jc), (px_mP Pc)))) rfl ?_
  refine px_E_call (j := 183) (as := [.int 2, .int 0, .int 3]) (rest := []) (v := some (.int 1)) (h1 := (px_shX, (px_mI Ic), (px_mJ Jc), (px_mP Pc))) rfl rfl rfl (by
    refine px_E_seg 6 (σ' := (10, [(0, .int 2), (1, .int 0), (2, .int 3)], [], (px_shX, (px_mI Ic), (px_mJ Jc), (px_mP Pc)))) rfl ?_
    refine px_E_seg 2 (σ' := (15, [(0, .int 2), (1, .int 0), (2, .int 3)], [.int 1], (px_shX, (px_mI Ic), (px_mJ Jc), (px_mP Pc)))) rfl ?_
    exact px_E_ret rfl rfl) ?_
  refine px_E_seg 6 (σ' := (33, [(0, .ref 95), (1, .int 2), (2, .int 0)], [.int 12, .int 0], (px_shX, (px_mI Ic), (px_mJ Jc), (px_mP Pc)))) rfl ?_
  refine px_E_seg 6 (σ' := (48, [(0, .ref 95), (1, .int 2), (2, .int 0)], [.ref 95, .int 2, .int 254, .ref 96], (px_shX, (px_mI Ic), (px_mJ Jc), (px_mP Pc)))) rfl ?_
  refine px_E_seg 3 (σ' := (54, [(0, .ref 95), (1, .int 2), (2, .int 0)], [.int 0, .int 2, .int 254, .ref 96], (px_shX, (px_mI Ic), (px_mJ Jc), (px_mP Pc)))) rfl ?_
  refine px_E_seg 1 (σ' := (55, [(0, .ref 95), (1, .int 2), (2, .int 0)], [.int 0, .int 254, .ref 96], (px_shX, (px_mI Ic), (px_mJ Jc), (px_mP Pc)))) rfl ?_
  refine px_E_seg 6 (σ' := (65, [(0, .ref 95), (1, .int 2), (2, .int 0)], [.int 254, .ref 96], (px_shX, (px_up (px_mI Ic) 96 254 2), (px_mJ Jc), (px_mP Pc)))) rfl ?_
  refine px_E_seg 5 (σ' := (73, [(0, .ref 95), (1, .int 2), (2, .int 0)], [.int 0, .int 2, .int 254, .ref 96], (px_shX, (px_up (px_mI Ic) 96 254 2), (px_mJ Jc), (px_mP Pc)))) rfl ?_
  refine px_E_seg 1 (σ' := (74, [(0, .ref 95), (1, .int 2), (2, .int 0)], [.int 0, .int 254, .ref 96], (px_shX, (px_up (px_mI Ic) 96 254 2), (px_mJ Jc), (px_mP Pc)))) rfl ?_
  refine px_E_seg 2 (σ' := (76, [(0, .ref 95), (1, .int 2), (2, .int 0)], [.int 1, .int 254, .ref 96], (px_shX, (px_up (px_mI Ic) 96 254 2), (px_mJ Jc), (px_mP Pc)))) rfl ?_
  refine px_E_seg 6 (σ' := (88, [(0, .ref 95), (1, .int 2), (2, .int 0)], [.ref 95], (px_shX, (px_up (px_up (px_mI Ic) 96 254 2) 96 255 0), (px_mJ Jc), (px_mP Pc)))) rfl ?_
  refine px_E_seg 5 (σ' := (96, [(0, .ref 95), (1, .int 2), (2, .int 0)], [.int 1, .int 0, .int 11, .ref 96], (px_shX, (px_up (px_up (px_mI Ic) 96 254 2) 96 255 0), (px_mJ Jc), (px_mP Pc)))) rfl ?_
  refine px_E_seg 6 (σ' := (105, [(0, .ref 95), (1, .int 2), (2, .int 0)], [.int 1], (px_shX, (px_up (px_up (px_up (px_mI Ic) 96 254 2) 96 255 0) 96 11 1), (px_mJ Jc), (px_mP Pc)))) rfl ?_
  exact px_E_ret rfl rfl
set_option maxRecDepth 100000 in
set_option maxHeartbeats 4000000 in
theorem px_x35_7 {ro : px_RO} {dd : Nat}  : px_CX ro (dd + 8) 166 [.ref 0, .int 2, .int 1] (.int 1) := by
  refine ⟨(px_up (px_up px_IX 29 2 1) 30 2 1), px_PX, ?_, (px_fr_up (Nat.le_of_ble_eq_true rfl) (px_fr_up (Nat.le_of_ble_eq_true rfl) px_fr_0)), px_frP_0⟩
  show px_E ro (dd + 8) 166 (0, _, [], _) _ _
  refine px_E_seg 6 (σ' := (17, [(0, .ref 0), (1, .int 2), (2, .int 1)], [.int 3, .int 0, .int 2], (px_shX, px_IX, px_JX, px_PX))) rfl ?_
  refine px_E_call (j := 15) (as := [.int 2, .int 0, .int 3]) (rest := []) (v := some (.int 1)) (h1 := (px_shX, px_IX, px_JX, px_PX)) rfl rfl rfl (by
    refine px_E_seg 6 (σ' := (10, [(0, .int 2), (1, .int 0), (2, .int 3)], [], (px_shX, px_IX, px_JX, px_PX))) rfl ?_
    refine px_E_seg 2 (σ' := (15, [(0, .int 2), (1, .int 0), (2, .int 3)], [.int 1], (px_shX, px_IX, px_JX, px_PX))) rfl ?_
    exact px_E_ret rfl rfl) ?_
  refine px_E_seg 3 (σ' := (27, [(0, .ref 0), (1, .int 2), (2, .int 1)], [.ref 25], (px_shX, px_IX, px_JX, px_PX))) rfl ?_
  refine px_E_call (j := 168) (as := [.ref 25]) (rest := []) (v := some (.int 0)) (h1 := (px_shX, px_IX, px_JX, px_PX)) rfl rfl rfl (by
    refine px_E_seg 2 (σ' := (4, [(0, .ref 25)], [.ref 29], (px_shX, px_IX, px_JX, px_PX))) rfl ?_
    refine px_E_call (j := 65) (as := [.ref 29]) (rest := []) (v := some (.int 0)) (h1 := (px_shX, px_IX, px_JX, px_PX)) rfl rfl rfl (by
      refine px_E_seg 6 (σ' := (6, [(2, .ref 29), (1, .int 0), (0, .ref 29)], [.int 4], (px_shX, px_IX, px_JX, px_PX))) rfl ?_
      refine px_E_seg 6 (σ' := (16, [(4, .int 0), (3, .int 4), (2, .ref 29), (1, .int 0), (0, .ref 29)], [], (px_shX, px_IX, px_JX, px_PX))) rfl ?_
      refine px_E_seg 6 (σ' := (25, [(5, .int 0), (4, .int 0), (3, .int 4), (2, .ref 29), (1, .int 0), (0, .ref 29)], [.int 0, .int 0], (px_shX, px_IX, px_JX, px_PX))) rfl ?_
      refine px_E_seg 6 (σ' := (13, [(4, .int 1), (1, .int 0), (5, .int 0), (3, .int 4), (2, .ref 29), (0, .ref 29)], [.int 4, .int 1], (px_shX, px_IX, px_JX, px_PX))) rfl ?_
      refine px_E_seg 6 (σ' := (23, [(5, .int 0), (4, .int 1), (1, .int 0), (3, .int 4), (2, .ref 29), (0, .ref 29)], [.int 0], (px_shX, px_IX, px_JX, px_PX))) rfl ?_
      refine px_E_seg 1 (σ' := (25, [(5, .int 0), (4, .int 1), (1, .int 0), (3, .int 4), (2, .ref 29), (0, .ref 29)], [.int 0, .int 0], (px_shX, px_IX, px_JX, px_PX))) rfl ?_
      refine px_E_seg 6 (σ' := (13, [(4, .int 2), (1, .int 0), (5, .int 0), (3, .int 4), (2, .ref 29), (0, .ref 29)], [.int 4, .int 2], (px_shX, px_IX, px_JX, px_PX))) rfl ?_
      refine px_E_seg 6 (σ' := (23, [(5, .int 0), (4, .int 2), (1, .int 0), (3, .int 4), (2, .ref 29), (0, .ref 29)], [.int 0], (px_shX, px_IX, px_JX, px_PX))) rfl ?_
      refine px_E_seg 1 (σ' := (25, [(5, .int 0), (4, .int 2), (1, .int 0), (3, .int 4), (2, .ref 29), (0, .ref 29)], [.int 0, .int 0], (px_shX, px_IX, px_JX, px_PX))) rfl ?_
      refine px_E_seg 6 (σ' := (13, [(4, .int 3), (1, .int 0), (5, .int 0), (3, .int 4), (2, .ref 29), (0, .ref 29)], [.int 4, .int 3], (px_shX, px_IX, px_JX, px_PX))) rfl ?_
      refine px_E_seg 6 (σ' := (23, [(5, .int 0), (4, .int 3), (1, .int 0), (3, .int 4), (2, .ref 29), (0, .ref 29)], [.int 0], (px_shX, px_IX, px_JX, px_PX))) rfl ?_
      refine px_E_seg 1 (σ' := (25, [(5, .int 0), (4, .int 3), (1, .int 0), (3, .int 4), (2, .ref 29), (0, .ref 29)], [.int 0, .int 0], (px_shX, px_IX, px_JX, px_PX))) rfl ?_
      refine px_E_seg 6 (σ' := (13, [(4, .int 4), (1, .int 0), (5, .int 0), (3, .int 4), (2, .ref 29), (0, .ref 29)], [.int 4, .int 4], (px_shX, px_IX, px_JX, px_PX))) rfl ?_
      refine px_E_seg 2 (σ' := (34, [(4, .int 4), (1, .int 0), (5, .int 0), (3, .int 4), (2, .ref 29), (0, .ref 29)], [.int 0], (px_shX, px_IX, px_JX, px_PX))) rfl ?_
      exact px_E_ret rfl rfl) ?_
    exact px_E_ret rfl rfl) ?_
  refine px_E_seg 6 (σ' := (46, [(0, .ref 0), (1, .int 2), (2, .int 1)], [.int 2, .ref 29], (px_shX, px_IX, px_JX, px_PX))) rfl ?_
  refine px_E_seg 3 (σ' := (49, [(0, .ref 0), (1, .int 2), (2, .int 1)], [.int 1, .int 0, .int 2, .ref 29], (px_shX, px_IX, px_JX, px_PX))) rfl ?_
  refine px_E_seg 6 (σ' := (59, [(0, .ref 0), (1, .int 2), (2, .int 1)], [.int 2, .ref 30], (px_shX, (px_up px_IX 29 2 1), px_JX, px_PX))) rfl ?_
  refine px_E_seg 6 (σ' := (70, [(0, .ref 0), (1, .int 2), (2, .int 1)], [.int 1, .int 0, .int 2, .ref 30], (px_shX, (px_up px_IX 29 2 1), px_JX, px_PX))) rfl ?_
  refine px_E_seg 4 (σ' := (76, [(0, .ref 0), (1, .int 2), (2, .int 1)], [.ref 25], (px_shX, (px_up (px_up px_IX 29 2 1) 30 2 1), px_JX, px_PX))) rfl ?_
  refine px_E_call (j := 168) (as := [.ref 25]) (rest := []) (v := some (.int 1)) (h1 := (px_shX, (px_up (px_up px_IX 29 2 1) 30 2 1), px_JX, px_PX)) rfl rfl rfl (by
    refine px_E_seg 2 (σ' := (4, [(0, .ref 25)], [.ref 29], (px_shX, (px_up (px_up px_IX 29 2 1) 30 2 1), px_JX, px_PX))) rfl ?_
    refine px_E_call (j := 65) (as := [.ref 29]) (rest := []) (v := some (.int 1)) (h1 := (px_shX, (px_up (px_up px_IX 29 2 1) 30 2 1), px_JX, px_PX)) rfl rfl rfl (by
      refine px_E_seg 6 (σ' := (6, [(2, .ref 29), (1, .int 0), (0, .ref 29)], [.int 4], (px_shX, (px_up (px_up px_IX 29 2 1) 30 2 1), px_JX, px_PX))) rfl ?_
      refine px_E_seg 6 (σ' := (16, [(4, .int 0), (3, .int 4), (2, .ref 29), (1, .int 0), (0, .ref 29)], [], (px_shX, (px_up (px_up px_IX 29 2 1) 30 2 1), px_JX, px_PX))) rfl ?_
      refine px_E_seg 6 (σ' := (25, [(5, .int 0), (4, .int 0), (3, .int 4), (2, .ref 29), (1, .int 0), (0, .ref 29)], [.int 0, .int 0], (px_shX, (px_up (px_up px_IX 29 2 1) 30 2 1), px_JX, px_PX))) rfl ?_
      refine px_E_seg 6 (σ' := (13, [(4, .int 1), (1, .int 0), (5, .int 0), (3, .int 4), (2, .ref 29), (0, .ref 29)], [.int 4, .int 1], (px_shX, (px_up (px_up px_IX 29 2 1) 30 2 1), px_JX, px_PX))) rfl ?_
      refine px_E_seg 6 (σ' := (23, [(5, .int 0), (4, .int 1), (1, .int 0), (3, .int 4), (2, .ref 29), (0, .ref 29)], [.int 0], (px_shX, (px_up (px_up px_IX 29 2 1) 30 2 1), px_JX, px_PX))) rfl ?_
      refine px_E_seg 1 (σ' := (25, [(5, .int 0), (4, .int 1), (1, .int 0), (3, .int 4), (2, .ref 29), (0, .ref 29)], [.int 0, .int 0], (px_shX, (px_up (px_up px_IX 29 2 1) 30 2 1), px_JX, px_PX))) rfl ?_
      refine px_E_seg 6 (σ' := (13, [(4, .int 2), (1, .int 0), (5, .int 0), (3, .int 4), (2, .ref 29), (0, .ref 29)], [.int 4, .int 2], (px_shX, (px_up (px_up px_IX 29 2 1) 30 2 1), px_JX, px_PX))) rfl ?_
      refine px_E_seg 6 (σ' := (23, [(5, .int 1), (4, .int 2), (1, .int 0), (3, .int 4), (2, .ref 29), (0, .ref 29)], [.int 0], (px_shX, (px_up (px_up px_IX 29 2 1) 30 2 1), px_JX, px_PX))) rfl ?_
      refine px_E_seg 1 (σ' := (25, [(5, .int 1), (4, .int 2), (1, .int 0), (3, .int 4), (2, .ref 29), (0, .ref 29)], [.int 1, .int 0], (px_shX, (px_up (px_up px_IX 29 2 1) 30 2 1), px_JX, px_PX))) rfl ?_
      refine px_E_seg 6 (σ' := (13, [(4, .int 3), (1, .int 1), (5, .int 1), (3, .int 4), (2, .ref 29), (0, .ref 29)], [.int 4, .int 3], (px_shX, (px_up (px_up px_IX 29 2 1) 30 2 1), px_JX, px_PX))) rfl ?_
      refine px_E_seg 6 (σ' := (23, [(5, .int 0), (4, .int 3), (1, .int 1), (3, .int 4), (2, .ref 29), (0, .ref 29)], [.int 1], (px_shX, (px_up (px_up px_IX 29 2 1) 30 2 1), px_JX, px_PX))) rfl ?_
      refine px_E_seg 1 (σ' := (25, [(5, .int 0), (4, .int 3), (1, .int 1), (3, .int 4), (2, .ref 29), (0, .ref 29)], [.int 0, .int 1], (px_shX, (px_up (px_up px_IX 29 2 1) 30 2 1), px_JX, px_PX))) rfl ?_
      refine px_E_seg 6 (σ' := (13, [(4, .int 4), (1, .int 1), (5, .int 0), (3, .int 4), (2, .ref 29), (0, .ref 29)], [.int 4, .int 4], (px_shX, (px_up (px_up px_IX 29 2 1) 30 2 1), px_JX, px_PX))) rfl ?_
      refine px_E_seg 2 (σ' := (34, [(4, .int 4), (1, .int 1), (5, .int 0), (3, .int 4), (2, .ref 29), (0, .ref 29)], [.int 1], (px_shX, (px_up (px_up px_IX 29 2 1) 30 2 1), px_JX, px_PX))) rfl ?_
      exact px_E_ret rfl rfl) ?_
    exact px_E_ret rfl rfl) ?_
  exact px_E_ret rfl rfl
set_option maxRecDepth 100000 in
set_option maxHeartbeats 4000000 in
theorem px_r35_7 {ro : px_RO} {dd : Nat}  : px_RX ro (dd + 8) 321 [.ref 95, .int 2, .int 1] (.int 1) := by
  intro Ic Jc Pc
  refine ⟨(px_shX, (px_up (px_up (px_up (px_mI Ic) 96 254 2) 96 255 1) 96 11 1), (px_mJ Jc), (px_mP Pc)), ?_, rfl⟩
  show px_E ro (dd + 8) 321 (0, _, [], _) _ _
  refine px_E_seg 6 (σ' := (18, [(0, .ref 95), (1, .int 2), (2, .int 1)], [.int 3, .int 0, .int 2], (px_shX, (px_mI Ic), (px_mJ Jc), (px_mP Pc)))) rfl ?_
  refine px_E_call (j := 183) (as := [.int 2, .int 0, .int 3]) (rest := []) (v := some (.int 1)) (h1 := (px_shX, (px_mI Ic), (px_mJ Jc), (px_mP Pc))) rfl rfl rfl (by
    refine px_E_seg 6 (σ' := (10, [(0, .int 2), (1, .int 0), (2, .int 3)], [], (px_shX, (px_mI Ic), (px_mJ Jc), (px_mP Pc)))) rfl ?_
    refine px_E_seg 2 (σ' := (15, [(0, .int 2), (1, .int 0), (2, .int 3)], [.int 1], (px_shX, (px_mI Ic), (px_mJ Jc), (px_mP Pc)))) rfl ?_
    exact px_E_ret rfl rfl) ?_
  refine px_E_seg 6 (σ' := (33, [(0, .ref 95), (1, .int 2), (2, .int 1)], [.int 12, .int 0], (px_shX, (px_mI Ic), (px_mJ Jc), (px_mP Pc)))) rfl ?_
  refine px_E_seg 6 (σ' := (48, [(0, .ref 95), (1, .int 2), (2, .int 1)], [.ref 95, .int 2, .int 254, .ref 96], (px_shX, (px_mI Ic), (px_mJ Jc), (px_mP Pc)))) rfl ?_
  refine px_E_seg 3 (σ' := (54, [(0, .ref 95), (1, .int 2), (2, .int 1)], [.int 0, .int 2, .int 254, .ref 96], (px_shX, (px_mI Ic), (px_mJ Jc), (px_mP Pc)))) rfl ?_
  refine px_E_seg 1 (σ' := (55, [(0, .ref 95), (1, .int 2), (2, .int 1)], [.int 0, .int 254, .ref 96], (px_shX, (px_mI Ic), (px_mJ Jc), (px_mP Pc)))) rfl ?_
  refine px_E_seg 6 (σ' := (65, [(0, .ref 95), (1, .int 2), (2, .int 1)], [.int 254, .ref 96], (px_shX, (px_up (px_mI Ic) 96 254 2), (px_mJ Jc), (px_mP Pc)))) rfl ?_
  refine px_E_seg 5 (σ' := (73, [(0, .ref 95), (1, .int 2), (2, .int 1)], [.int 0, .int 2, .int 254, .ref 96], (px_shX, (px_up (px_mI Ic) 96 254 2), (px_mJ Jc), (px_mP Pc)))) rfl ?_
  refine px_E_seg 1 (σ' := (74, [(0, .ref 95), (1, .int 2), (2, .int 1)], [.int 0, .int 254, .ref 96], (px_shX, (px_up (px_mI Ic) 96 254 2), (px_mJ Jc), (px_mP Pc)))) rfl ?_
  refine px_E_seg 2 (σ' := (76, [(0, .ref 95), (1, .int 2), (2, .int 1)], [.int 1, .int 254, .ref 96], (px_shX, (px_up (px_mI Ic) 96 254 2), (px_mJ Jc), (px_mP Pc)))) rfl ?_
  refine px_E_seg 6 (σ' := (87, [(0, .ref 95), (1, .int 2), (2, .int 1)], [], (px_shX, (px_up (px_up (px_mI Ic) 96 254 2) 96 255 1), (px_mJ Jc), (px_mP Pc)))) rfl ?_
  refine px_E_seg 6 (σ' := (96, [(0, .ref 95), (1, .int 2), (2, .int 1)], [.int 1, .int 0, .int 11, .ref 96], (px_shX, (px_up (px_up (px_mI Ic) 96 254 2) 96 255 1), (px_mJ Jc), (px_mP Pc)))) rfl ?_
  refine px_E_seg 6 (σ' := (105, [(0, .ref 95), (1, .int 2), (2, .int 1)], [.int 1], (px_shX, (px_up (px_up (px_up (px_mI Ic) 96 254 2) 96 255 1) 96 11 1), (px_mJ Jc), (px_mP Pc)))) rfl ?_
  exact px_E_ret rfl rfl
set_option maxRecDepth 100000 in
set_option maxHeartbeats 4000000 in
theorem px_x35_8 {ro : px_RO} {dd : Nat}  : px_CX ro (dd + 8) 166 [.ref 0, .int 3, .int 0] (.int 1) := by
  refine ⟨(px_up (px_up px_IX 29 3 1) 30 3 0), px_PX, ?_, (px_fr_up (Nat.le_of_ble_eq_true rfl) (px_fr_up (Nat.le_of_ble_eq_true rfl) px_fr_0)), px_frP_0⟩
  show px_E ro (dd + 8) 166 (0, _, [], _) _ _
  refine px_E_seg 6 (σ' := (17, [(0, .ref 0), (1, .int 3), (2, .int 0)], [.int 3, .int 0, .int 3], (px_shX, px_IX, px_JX, px_PX))) rfl ?_
  refine px_E_call (j := 15) (as := [.int 3, .int 0, .int 3]) (rest := []) (v := some (.int 1)) (h1 := (px_shX, px_IX, px_JX, px_PX)) rfl rfl rfl (by
    refine px_E_seg 6 (σ' := (10, [(0, .int 3), (1, .int 0), (2, .int 3)], [], (px_shX, px_IX, px_JX, px_PX))) rfl ?_
    refine px_E_seg 2 (σ' := (15, [(0, .int 3), (1, .int 0), (2, .int 3)], [.int 1], (px_shX, px_IX, px_JX, px_PX))) rfl ?_
    exact px_E_ret rfl rfl) ?_
  refine px_E_seg 3 (σ' := (27, [(0, .ref 0), (1, .int 3), (2, .int 0)], [.ref 25], (px_shX, px_IX, px_JX, px_PX))) rfl ?_
  refine px_E_call (j := 168) (as := [.ref 25]) (rest := []) (v := some (.int 0)) (h1 := (px_shX, px_IX, px_JX, px_PX)) rfl rfl rfl (by
    refine px_E_seg 2 (σ' := (4, [(0, .ref 25)], [.ref 29], (px_shX, px_IX, px_JX, px_PX))) rfl ?_
    refine px_E_call (j := 65) (as := [.ref 29]) (rest := []) (v := some (.int 0)) (h1 := (px_shX, px_IX, px_JX, px_PX)) rfl rfl rfl (by
      refine px_E_seg 6 (σ' := (6, [(2, .ref 29), (1, .int 0), (0, .ref 29)], [.int 4], (px_shX, px_IX, px_JX, px_PX))) rfl ?_
      refine px_E_seg 6 (σ' := (16, [(4, .int 0), (3, .int 4), (2, .ref 29), (1, .int 0), (0, .ref 29)], [], (px_shX, px_IX, px_JX, px_PX))) rfl ?_
      refine px_E_seg 6 (σ' := (25, [(5, .int 0), (4, .int 0), (3, .int 4), (2, .ref 29), (1, .int 0), (0, .ref 29)], [.int 0, .int 0], (px_shX, px_IX, px_JX, px_PX))) rfl ?_
      refine px_E_seg 6 (σ' := (13, [(4, .int 1), (1, .int 0), (5, .int 0), (3, .int 4), (2, .ref 29), (0, .ref 29)], [.int 4, .int 1], (px_shX, px_IX, px_JX, px_PX))) rfl ?_
      refine px_E_seg 6 (σ' := (23, [(5, .int 0), (4, .int 1), (1, .int 0), (3, .int 4), (2, .ref 29), (0, .ref 29)], [.int 0], (px_shX, px_IX, px_JX, px_PX))) rfl ?_
      refine px_E_seg 1 (σ' := (25, [(5, .int 0), (4, .int 1), (1, .int 0), (3, .int 4), (2, .ref 29), (0, .ref 29)], [.int 0, .int 0], (px_shX, px_IX, px_JX, px_PX))) rfl ?_
      refine px_E_seg 6 (σ' := (13, [(4, .int 2), (1, .int 0), (5, .int 0), (3, .int 4), (2, .ref 29), (0, .ref 29)], [.int 4, .int 2], (px_shX, px_IX, px_JX, px_PX))) rfl ?_
      refine px_E_seg 6 (σ' := (23, [(5, .int 0), (4, .int 2), (1, .int 0), (3, .int 4), (2, .ref 29), (0, .ref 29)], [.int 0], (px_shX, px_IX, px_JX, px_PX))) rfl ?_
      refine px_E_seg 1 (σ' := (25, [(5, .int 0), (4, .int 2), (1, .int 0), (3, .int 4), (2, .ref 29), (0, .ref 29)], [.int 0, .int 0], (px_shX, px_IX, px_JX, px_PX))) rfl ?_
      refine px_E_seg 6 (σ' := (13, [(4, .int 3), (1, .int 0), (5, .int 0), (3, .int 4), (2, .ref 29), (0, .ref 29)], [.int 4, .int 3], (px_shX, px_IX, px_JX, px_PX))) rfl ?_
      refine px_E_seg 6 (σ' := (23, [(5, .int 0), (4, .int 3), (1, .int 0), (3, .int 4), (2, .ref 29), (0, .ref 29)], [.int 0], (px_shX, px_IX, px_JX, px_PX))) rfl ?_
      refine px_E_seg 1 (σ' := (25, [(5, .int 0), (4, .int 3), (1, .int 0), (3, .int 4), (2, .ref 29), (0, .ref 29)], [.int 0, .int 0], (px_shX, px_IX, px_JX, px_PX))) rfl ?_
      refine px_E_seg 6 (σ' := (13, [(4, .int 4), (1, .int 0), (5, .int 0), (3, .int 4), (2, .ref 29), (0, .ref 29)], [.int 4, .int 4], (px_shX, px_IX, px_JX, px_PX))) rfl ?_
      refine px_E_seg 2 (σ' := (34, [(4, .int 4), (1, .int 0), (5, .int 0), (3, .int 4), (2, .ref 29), (0, .ref 29)], [.int 0], (px_shX, px_IX, px_JX, px_PX))) rfl ?_
      exact px_E_ret rfl rfl) ?_
    exact px_E_ret rfl rfl) ?_
  refine px_E_seg 6 (σ' := (46, [(0, .ref 0), (1, .int 3), (2, .int 0)], [.int 3, .ref 29], (px_shX, px_IX, px_JX, px_PX))) rfl ?_
  refine px_E_seg 3 (σ' := (49, [(0, .ref 0), (1, .int 3), (2, .int 0)], [.int 1, .int 0, .int 3, .ref 29], (px_shX, px_IX, px_JX, px_PX))) rfl ?_
  refine px_E_seg 6 (σ' := (59, [(0, .ref 0), (1, .int 3), (2, .int 0)], [.int 3, .ref 30], (px_shX, (px_up px_IX 29 3 1), px_JX, px_PX))) rfl ?_
  refine px_E_seg 5 (σ' := (70, [(0, .ref 0), (1, .int 3), (2, .int 0)], [.int 0, .int 0, .int 3, .ref 30], (px_shX, (px_up px_IX 29 3 1), px_JX, px_PX))) rfl ?_
  refine px_E_seg 4 (σ' := (76, [(0, .ref 0), (1, .int 3), (2, .int 0)], [.ref 25], (px_shX, (px_up (px_up px_IX 29 3 1) 30 3 0), px_JX, px_PX))) rfl ?_
  refine px_E_call (j := 168) (as := [.ref 25]) (rest := []) (v := some (.int 1)) (h1 := (px_shX, (px_up (px_up px_IX 29 3 1) 30 3 0), px_JX, px_PX)) rfl rfl rfl (by
    refine px_E_seg 2 (σ' := (4, [(0, .ref 25)], [.ref 29], (px_shX, (px_up (px_up px_IX 29 3 1) 30 3 0), px_JX, px_PX))) rfl ?_
    refine px_E_call (j := 65) (as := [.ref 29]) (rest := []) (v := some (.int 1)) (h1 := (px_shX, (px_up (px_up px_IX 29 3 1) 30 3 0), px_JX, px_PX)) rfl rfl rfl (by
      refine px_E_seg 6 (σ' := (6, [(2, .ref 29), (1, .int 0), (0, .ref 29)], [.int 4], (px_shX, (px_up (px_up px_IX 29 3 1) 30 3 0), px_JX, px_PX))) rfl ?_
      refine px_E_seg 6 (σ' := (16, [(4, .int 0), (3, .int 4), (2, .ref 29), (1, .int 0), (0, .ref 29)], [], (px_shX, (px_up (px_up px_IX 29 3 1) 30 3 0), px_JX, px_PX))) rfl ?_
      refine px_E_seg 6 (σ' := (25, [(5, .int 0), (4, .int 0), (3, .int 4), (2, .ref 29), (1, .int 0), (0, .ref 29)], [.int 0, .int 0], (px_shX, (px_up (px_up px_IX 29 3 1) 30 3 0), px_JX, px_PX))) rfl ?_
      refine px_E_seg 6 (σ' := (13, [(4, .int 1), (1, .int 0), (5, .int 0), (3, .int 4), (2, .ref 29), (0, .ref 29)], [.int 4, .int 1], (px_shX, (px_up (px_up px_IX 29 3 1) 30 3 0), px_JX, px_PX))) rfl ?_
      refine px_E_seg 6 (σ' := (23, [(5, .int 0), (4, .int 1), (1, .int 0), (3, .int 4), (2, .ref 29), (0, .ref 29)], [.int 0], (px_shX, (px_up (px_up px_IX 29 3 1) 30 3 0), px_JX, px_PX))) rfl ?_
      refine px_E_seg 1 (σ' := (25, [(5, .int 0), (4, .int 1), (1, .int 0), (3, .int 4), (2, .ref 29), (0, .ref 29)], [.int 0, .int 0], (px_shX, (px_up (px_up px_IX 29 3 1) 30 3 0), px_JX, px_PX))) rfl ?_
      refine px_E_seg 6 (σ' := (13, [(4, .int 2), (1, .int 0), (5, .int 0), (3, .int 4), (2, .ref 29), (0, .ref 29)], [.int 4, .int 2], (px_shX, (px_up (px_up px_IX 29 3 1) 30 3 0), px_JX, px_PX))) rfl ?_
      refine px_E_seg 6 (σ' := (23, [(5, .int 0), (4, .int 2), (1, .int 0), (3, .int 4), (2, .ref 29), (0, .ref 29)], [.int 0], (px_shX, (px_up (px_up px_IX 29 3 1) 30 3 0), px_JX, px_PX))) rfl ?_
      refine px_E_seg 1 (σ' := (25, [(5, .int 0), (4, .int 2), (1, .int 0), (3, .int 4), (2, .ref 29), (0, .ref 29)], [.int 0, .int 0], (px_shX, (px_up (px_up px_IX 29 3 1) 30 3 0), px_JX, px_PX))) rfl ?_
      refine px_E_seg 6 (σ' := (13, [(4, .int 3), (1, .int 0), (5, .int 0), (3, .int 4), (2, .ref 29), (0, .ref 29)], [.int 4, .int 3], (px_shX, (px_up (px_up px_IX 29 3 1) 30 3 0), px_JX, px_PX))) rfl ?_
      refine px_E_seg 6 (σ' := (23, [(5, .int 1), (4, .int 3), (1, .int 0), (3, .int 4), (2, .ref 29), (0, .ref 29)], [.int 0], (px_shX, (px_up (px_up px_IX 29 3 1) 30 3 0), px_JX, px_PX))) rfl ?_
      refine px_E_seg 1 (σ' := (25, [(5, .int 1), (4, .int 3), (1, .int 0), (3, .int 4), (2, .ref 29), (0, .ref 29)], [.int 1, .int 0], (px_shX, (px_up (px_up px_IX 29 3 1) 30 3 0), px_JX, px_PX))) rfl ?_
      refine px_E_seg 6 (σ' := (13, [(4, .int 4), (1, .int 1), (5, .int 1), (3, .int 4), (2, .ref 29), (0, .ref 29)], [.int 4, .int 4], (px_shX, (px_up (px_up px_IX 29 3 1) 30 3 0), px_JX, px_PX))) rfl ?_
      refine px_E_seg 2 (σ' := (34, [(4, .int 4), (1, .int 1), (5, .int 1), (3, .int 4), (2, .ref 29), (0, .ref 29)], [.int 1], (px_shX, (px_up (px_up px_IX 29 3 1) 30 3 0), px_JX, px_PX))) rfl ?_
      exact px_E_ret rfl rfl) ?_
    exact px_E_ret rfl rfl) ?_
  exact px_E_ret rfl rfl
set_option maxRecDepth 100000 in
set_option maxHeartbeats 4000000 in
theorem px_r35_8 {ro : px_RO} {dd : Nat}  : px_RX ro (dd + 8) 321 [.ref 95, .int 3, .int 0] (.int 1) := by
  intro Ic Jc Pc
  refine ⟨(px_shX, (px_up (px_up (px_up (px_mI Ic) 96 254 3) 96 255 0) 96 11 1), (px_mJ Jc), (px_mP Pc)), ?_, rfl⟩
  show px_E ro (dd + 8) 321 (0, _, [], _) _ _
  refine px_E_seg 6 (σ' := (18, [(0, .ref 95), (1, .int 3), (2, .int 0)], [.int 3, .int 0, .int 3], (px_shX, (px_mI Ic), (px_mJ Jc), (px_mP Pc)))) rfl ?_
  refine px_E_call (j := 183) (as := [.int 3, .int 0, .int 3]) (rest := []) (v := some (.int 1)) (h1 := (px_shX, (px_mI Ic), (px_mJ Jc), (px_mP Pc))) rfl rfl rfl (by
    refine px_E_seg 6 (σ' := (10, [(0, .int 3), (1, .int 0), (2, .int 3)], [], (px_shX, (px_mI Ic), (px_mJ Jc), (px_mP Pc)))) rfl ?_
    refine px_E_seg 2 (σ' := (15, [(0, .int 3), (1, .int 0), (2, .int 3)], [.int 1], (px_shX, (px_mI Ic), (px_mJ Jc), (px_mP Pc)))) rfl ?_
    exact px_E_ret rfl rfl) ?_
  refine px_E_seg 6 (σ' := (33, [(0, .ref 95), (1, .int 3), (2, .int 0)], [.int 12, .int 0], (px_shX, (px_mI Ic), (px_mJ Jc), (px_mP Pc)))) rfl ?_
  refine px_E_seg 6 (σ' := (48, [(0, .ref 95), (1, .int 3), (2, .int 0)], [.ref 95, .int 2, .int 254, .ref 96], (px_shX, (px_mI Ic), (px_mJ Jc), (px_mP Pc)))) rfl ?_
  refine px_E_seg 3 (σ' := (54, [(0, .ref 95), (1, .int 3), (2, .int 0)], [.int 0, .int 2, .int 254, .ref 96], (px_shX, (px_mI Ic), (px_mJ Jc), (px_mP Pc)))) rfl ?_
  refine px_E_seg 1 (σ' := (55, [(0, .ref 95), (1, .int 3), (2, .int 0)], [.int 0, .int 254, .ref 96], (px_shX, (px_mI Ic), (px_mJ Jc), (px_mP Pc)))) rfl ?_
  refine px_E_seg 6 (σ' := (65, [(0, .ref 95), (1, .int 3), (2, .int 0)], [.int 254, .ref 96], (px_shX, (px_up (px_mI Ic) 96 254 3), (px_mJ Jc), (px_mP Pc)))) rfl ?_
  refine px_E_seg 5 (σ' := (73, [(0, .ref 95), (1, .int 3), (2, .int 0)], [.int 0, .int 2, .int 254, .ref 96], (px_shX, (px_up (px_mI Ic) 96 254 3), (px_mJ Jc), (px_mP Pc)))) rfl ?_
  refine px_E_seg 1 (σ' := (74, [(0, .ref 95), (1, .int 3), (2, .int 0)], [.int 0, .int 254, .ref 96], (px_shX, (px_up (px_mI Ic) 96 254 3), (px_mJ Jc), (px_mP Pc)))) rfl ?_
  refine px_E_seg 2 (σ' := (76, [(0, .ref 95), (1, .int 3), (2, .int 0)], [.int 1, .int 254, .ref 96], (px_shX, (px_up (px_mI Ic) 96 254 3), (px_mJ Jc), (px_mP Pc)))) rfl ?_
  refine px_E_seg 6 (σ' := (88, [(0, .ref 95), (1, .int 3), (2, .int 0)], [.ref 95], (px_shX, (px_up (px_up (px_mI Ic) 96 254 3) 96 255 0), (px_mJ Jc), (px_mP Pc)))) rfl ?_
  refine px_E_seg 5 (σ' := (96, [(0, .ref 95), (1, .int 3), (2, .int 0)], [.int 1, .int 0, .int 11, .ref 96], (px_shX, (px_up (px_up (px_mI Ic) 96 254 3) 96 255 0), (px_mJ Jc), (px_mP Pc)))) rfl ?_
  refine px_E_seg 6 (σ' := (105, [(0, .ref 95), (1, .int 3), (2, .int 0)], [.int 1], (px_shX, (px_up (px_up (px_up (px_mI Ic) 96 254 3) 96 255 0) 96 11 1), (px_mJ Jc), (px_mP Pc)))) rfl ?_
  exact px_E_ret rfl rfl
set_option maxRecDepth 100000 in
set_option maxHeartbeats 4000000 in
theorem px_x35_9 {ro : px_RO} {dd : Nat}  : px_CX ro (dd + 8) 166 [.ref 0, .int 3, .int 1] (.int 1) := by
  refine ⟨(px_up (px_up px_IX 29 3 1) 30 3 1), px_PX, ?_, (px_fr_up (Nat.le_of_ble_eq_true rfl) (px_fr_up (Nat.le_of_ble_eq_true rfl) px_fr_0)), px_frP_0⟩
  show px_E ro (dd + 8) 166 (0, _, [], _) _ _
  refine px_E_seg 6 (σ' := (17, [(0, .ref 0), (1, .int 3), (2, .int 1)], [.int 3, .int 0, .int 3], (px_shX, px_IX, px_JX, px_PX))) rfl ?_
  refine px_E_call (j := 15) (as := [.int 3, .int 0, .int 3]) (rest := []) (v := some (.int 1)) (h1 := (px_shX, px_IX, px_JX, px_PX)) rfl rfl rfl (by
    refine px_E_seg 6 (σ' := (10, [(0, .int 3), (1, .int 0), (2, .int 3)], [], (px_shX, px_IX, px_JX, px_PX))) rfl ?_
    refine px_E_seg 2 (σ' := (15, [(0, .int 3), (1, .int 0), (2, .int 3)], [.int 1], (px_shX, px_IX, px_JX, px_PX))) rfl ?_
    exact px_E_ret rfl rfl) ?_
  refine px_E_seg 3 (σ' := (27, [(0, .ref 0), (1, .int 3), (2, .int 1)], [.ref 25], (px_shX, px_IX, px_JX, px_PX))) rfl ?_
  refine px_E_call (j := 168) (as := [.ref 25]) (rest := []) (v := some (.int 0)) (h1 := (px_shX, px_IX, px_JX, px_PX)) rfl rfl rfl (by
    refine px_E_seg 2 (σ' := (4, [(0, .ref 25)], [.ref 29], (px_shX, px_IX, px_JX, px_PX))) rfl ?_
    refine px_E_call (j := 65) (as := [.ref 29]) (rest := []) (v := some (.int 0)) (h1 := (px_shX, px_IX, px_JX, px_PX)) rfl rfl rfl (by
      refine px_E_seg 6 (σ' := (6, [(2, .ref 29), (1, .int 0), (0, .ref 29)], [.int 4], (px_shX, px_IX, px_JX, px_PX))) rfl ?_
      refine px_E_seg 6 (σ' := (16, [(4, .int 0), (3, .int 4), (2, .ref 29), (1, .int 0), (0, .ref 29)], [], (px_shX, px_IX, px_JX, px_PX))) rfl ?_
      refine px_E_seg 6 (σ' := (25, [(5, .int 0), (4, .int 0), (3, .int 4), (2, .ref 29), (1, .int 0), (0, .ref 29)], [.int 0, .int 0], (px_shX, px_IX, px_JX, px_PX))) rfl ?_
      refine px_E_seg 6 (σ' := (13, [(4, .int 1), (1, .int 0), (5, .int 0), (3, .int 4), (2, .ref 29), (0, .ref 29)], [.int 4, .int 1], (px_shX, px_IX, px_JX, px_PX))) rfl ?_
      refine px_E_seg 6 (σ' := (23, [(5, .int 0), (4, .int 1), (1, .int 0), (3, .int 4), (2, .ref 29), (0, .ref 29)], [.int 0], (px_shX, px_IX, px_JX, px_PX))) rfl ?_
      refine px_E_seg 1 (σ' := (25, [(5, .int 0), (4, .int 1), (1, .int 0), (3, .int 4), (2, .ref 29), (0, .ref 29)], [.int 0, .int 0], (px_shX, px_IX, px_JX, px_PX))) rfl ?_
      refine px_E_seg 6 (σ' := (13, [(4, .int 2), (1, .int 0), (5, .int 0), (3, .int 4), (2, .ref 29), (0, .ref 29)], [.int 4, .int 2], (px_shX, px_IX, px_JX, px_PX))) rfl ?_
      refine px_E_seg 6 (σ' := (23, [(5, .int 0), (4, .int 2), (1, .int 0), (3, .int 4), (2, .ref 29), (0, .ref 29)], [.int 0], (px_shX, px_IX, px_JX, px_PX))) rfl ?_
      refine px_E_seg 1 (σ' := (25, [(5, .int 0), (4, .int 2), (1, .int 0), (3, .int 4), (2, .ref 29), (0, .ref 29)], [.int 0, .int 0], (px_shX, px_IX, px_JX, px_PX))) rfl ?_
      refine px_E_seg 6 (σ' := (13, [(4, .int 3), (1, .int 0), (5, .int 0), (3, .int 4), (2, .ref 29), (0, .ref 29)], [.int 4, .int 3], (px_shX, px_IX, px_JX, px_PX))) rfl ?_
      refine px_E_seg 6 (σ' := (23, [(5, .int 0), (4, .int 3), (1, .int 0), (3, .int 4), (2, .ref 29), (0, .ref 29)], [.int 0], (px_shX, px_IX, px_JX, px_PX))) rfl ?_
      refine px_E_seg 1 (σ' := (25, [(5, .int 0), (4, .int 3), (1, .int 0), (3, .int 4), (2, .ref 29), (0, .ref 29)], [.int 0, .int 0], (px_shX, px_IX, px_JX, px_PX))) rfl ?_
      refine px_E_seg 6 (σ' := (13, [(4, .int 4), (1, .int 0), (5, .int 0), (3, .int 4), (2, .ref 29), (0, .ref 29)], [.int 4, .int 4], (px_shX, px_IX, px_JX, px_PX))) rfl ?_
      refine px_E_seg 2 (σ' := (34, [(4, .int 4), (1, .int 0), (5, .int 0), (3, .int 4), (2, .ref 29), (0, .ref 29)], [.int 0], (px_shX, px_IX, px_JX, px_PX))) rfl ?_
      exact px_E_ret rfl rfl) ?_
    exact px_E_ret rfl rfl) ?_
  refine px_E_seg 6 (σ' := (46, [(0, .ref 0), (1, .int 3), (2, .int 1)], [.int 3, .ref 29], (px_shX, px_IX, px_JX, px_PX))) rfl ?_
  refine px_E_seg 3 (σ' := (49, [(0, .ref 0), (1, .int 3), (2, .int 1)], [.int 1, .int 0, .int 3, .ref 29], (px_shX, px_IX, px_JX, px_PX))) rfl ?_
  refine px_E_seg 6 (σ' := (59, [(0, .ref 0), (1, .int 3), (2, .int 1)], [.int 3, .ref 30], (px_shX, (px_up px_IX 29 3 1), px_JX, px_PX))) rfl ?_
  refine px_E_seg 6 (σ' := (70, [(0, .ref 0), (1, .int 3), (2, .int 1)], [.int 1, .int 0, .int 3, .ref 30], (px_shX, (px_up px_IX 29 3 1), px_JX, px_PX))) rfl ?_
  refine px_E_seg 4 (σ' := (76, [(0, .ref 0), (1, .int 3), (2, .int 1)], [.ref 25], (px_shX, (px_up (px_up px_IX 29 3 1) 30 3 1), px_JX, px_PX))) rfl ?_
  refine px_E_call (j := 168) (as := [.ref 25]) (rest := []) (v := some (.int 1)) (h1 := (px_shX, (px_up (px_up px_IX 29 3 1) 30 3 1), px_JX, px_PX)) rfl rfl rfl (by
    refine px_E_seg 2 (σ' := (4, [(0, .ref 25)], [.ref 29], (px_shX, (px_up (px_up px_IX 29 3 1) 30 3 1), px_JX, px_PX))) rfl ?_
    refine px_E_call (j := 65) (as := [.ref 29]) (rest := []) (v := some (.int 1)) (h1 := (px_shX, (px_up (px_up px_IX 29 3 1) 30 3 1), px_JX, px_PX)) rfl rfl rfl (by
      refine px_E_seg 6 (σ' := (6, [(2, .ref 29), (1, .int 0), (0, .ref 29)], [.int 4], (px_shX, (px_up (px_up px_IX 29 3 1) 30 3 1), px_JX, px_PX))) rfl ?_
      refine px_E_seg 6 (σ' := (16, [(4, .int 0), (3, .int 4), (2, .ref 29), (1, .int 0), (0, .ref 29)], [], (px_shX, (px_up (px_up px_IX 29 3 1) 30 3 1), px_JX, px_PX))) rfl ?_
      refine px_E_seg 6 (σ' := (25, [(5, .int 0), (4, .int 0), (3, .int 4), (2, .ref 29), (1, .int 0), (0, .ref 29)], [.int 0, .int 0], (px_shX, (px_up (px_up px_IX 29 3 1) 30 3 1), px_JX, px_PX))) rfl ?_
      refine px_E_seg 6 (σ' := (13, [(4, .int 1), (1, .int 0), (5, .int 0), (3, .int 4), (2, .ref 29), (0, .ref 29)], [.int 4, .int 1], (px_shX, (px_up (px_up px_IX 29 3 1) 30 3 1), px_JX, px_PX))) rfl ?_
      refine px_E_seg 6 (σ' := (23, [(5, .int 0), (4, .int 1), (1, .int 0), (3, .int 4), (2, .ref 29), (0, .ref 29)], [.int 0], (px_shX, (px_up (px_up px_IX 29 3 1) 30 3 1), px_JX, px_PX))) rfl ?_
      refine px_E_seg 1 (σ' := (25, [(5, .int 0), (4, .int 1), (1, .int 0), (3, .int 4), (2, .ref 29), (0, .ref 29)], [.int 0, .int 0], (px_shX, (px_up (px_up px_IX 29 3 1) 30 3 1), px_JX, px_PX))) rfl ?_
      refine px_E_seg 6 (σ' := (13, [(4, .int 2), (1, .int 0), (5, .int 0), (3, .int 4), (2, .ref 29), (0, .ref 29)], [.int 4, .int 2], (px_shX, (px_up (px_up px_IX 29 3 1) 30 3 1), px_JX, px_PX))) rfl ?_
      refine px_E_seg 6 (σ' := (23, [(5, .int 0), (4, .int 2), (1, .int 0), (3, .int 4), (2, .ref 29), (0, .ref 29)], [.int 0], (px_shX, (px_up (px_up px_IX 29 3 1) 30 3 1), px_JX, px_PX))) rfl ?_
      refine px_E_seg 1 (σ' := (25, [(5, .int 0), (4, .int 2), (1, .int 0), (3, .int 4), (2, .ref 29), (0, .ref 29)], [.int 0, .int 0], (px_shX, (px_up (px_up px_IX 29 3 1) 30 3 1), px_JX, px_PX))) rfl ?_
      refine px_E_seg 6 (σ' := (13, [(4, .int 3), (1, .int 0), (5, .int 0), (3, .int 4), (2, .ref 29), (0, .ref 29)], [.int 4, .int 3], (px_shX, (px_up (px_up px_IX 29 3 1) 30 3 1), px_JX, px_PX))) rfl ?_
      refine px_E_seg 6 (σ' := (23, [(5, .int 1), (4, .int 3), (1, .int 0), (3, .int 4), (2, .ref 29), (0, .ref 29)], [.int 0], (px_shX, (px_up (px_up px_IX 29 3 1) 30 3 1), px_JX, px_PX))) rfl ?_
      refine px_E_seg 1 (σ' := (25, [(5, .int 1), (4, .int 3), (1, .int 0), (3, .int 4), (2, .ref 29), (0, .ref 29)], [.int 1, .int 0], (px_shX, (px_up (px_up px_IX 29 3 1) 30 3 1), px_JX, px_PX))) rfl ?_
      refine px_E_seg 6 (σ' := (13, [(4, .int 4), (1, .int 1), (5, .int 1), (3, .int 4), (2, .ref 29), (0, .ref 29)], [.int 4, .int 4], (px_shX, (px_up (px_up px_IX 29 3 1) 30 3 1), px_JX, px_PX))) rfl ?_
      refine px_E_seg 2 (σ' := (34, [(4, .int 4), (1, .int 1), (5, .int 1), (3, .int 4), (2, .ref 29), (0, .ref 29)], [.int 1], (px_shX, (px_up (px_up px_IX 29 3 1) 30 3 1), px_JX, px_PX))) rfl ?_
      exact px_E_ret rfl rfl) ?_
    exact px_E_ret rfl rfl) ?_
  exact px_E_ret rfl rfl
set_option maxRecDepth 100000 in
set_option maxHeartbeats 4000000 in
theorem px_r35_9 {ro : px_RO} {dd : Nat}  : px_RX ro (dd + 8) 321 [.ref 95, .int 3, .int 1] (.int 1) := by
  intro Ic Jc Pc
  refine ⟨(px_shX, (px_up (px_up (px_up (px_mI Ic) 96 254 3) 96 255 1) 96 11 1), (px_mJ Jc), (px_mP Pc)), ?_, rfl⟩
  show px_E ro (dd + 8) 321 (0, _, [], _) _ _
  refine px_E_seg 6 (σ' := (18, [(0, .ref 95), (1, .int 3), (2, .int 1)], [.int 3, .int 0, .int 3], (px_shX, (px_mI Ic), (px_mJ Jc), (px_mP Pc)))) rfl ?_
  refine px_E_call (j := 183) (as := [.int 3, .int 0, .int 3]) (rest := []) (v := some (.int 1)) (h1 := (px_shX, (px_mI Ic), (px_mJ Jc), (px_mP Pc))) rfl rfl rfl (by
    refine px_E_seg 6 (σ' := (10, [(0, .int 3), (1, .int 0), (2, .int 3)], [], (px_shX, (px_mI Ic), (px_mJ Jc), (px_mP Pc)))) rfl ?_
    refine px_E_seg 2 (σ' := (15, [(0, .int 3), (1, .int 0), (2, .int 3)], [.int 1], (px_shX, (px_mI Ic), (px_mJ Jc), (px_mP Pc)))) rfl ?_
    exact px_E_ret rfl rfl) ?_
  refine px_E_seg 6 (σ' := (33, [(0, .ref 95), (1, .int 3), (2, .int 1)], [.int 12, .int 0], (px_shX, (px_mI Ic), (px_mJ Jc), (px_mP Pc)))) rfl ?_
  refine px_E_seg 6 (σ' := (48, [(0, .ref 95), (1, .int 3), (2, .int 1)], [.ref 95, .int 2, .int 254, .ref 96], (px_shX, (px_mI Ic), (px_mJ Jc), (px_mP Pc)))) rfl ?_
  refine px_E_seg 3 (σ' := (54, [(0, .ref 95), (1, .int 3), (2, .int 1)], [.int 0, .int 2, .int 254, .ref 96], (px_shX, (px_mI Ic), (px_mJ Jc), (px_mP Pc)))) rfl ?_
  refine px_E_seg 1 (σ' := (55, [(0, .ref 95), (1, .int 3), (2, .int 1)], [.int 0, .int 254, .ref 96], (px_shX, (px_mI Ic), (px_mJ Jc), (px_mP Pc)))) rfl ?_
  refine px_E_seg 6 (σ' := (65, [(0, .ref 95), (1, .int 3), (2, .int 1)], [.int 254, .ref 96], (px_shX, (px_up (px_mI Ic) 96 254 3), (px_mJ Jc), (px_mP Pc)))) rfl ?_
  refine px_E_seg 5 (σ' := (73, [(0, .ref 95), (1, .int 3), (2, .int 1)], [.int 0, .int 2, .int 254, .ref 96], (px_shX, (px_up (px_mI Ic) 96 254 3), (px_mJ Jc), (px_mP Pc)))) rfl ?_
  refine px_E_seg 1 (σ' := (74, [(0, .ref 95), (1, .int 3), (2, .int 1)], [.int 0, .int 254, .ref 96], (px_shX, (px_up (px_mI Ic) 96 254 3), (px_mJ Jc), (px_mP Pc)))) rfl ?_
  refine px_E_seg 2 (σ' := (76, [(0, .ref 95), (1, .int 3), (2, .int 1)], [.int 1, .int 254, .ref 96], (px_shX, (px_up (px_mI Ic) 96 254 3), (px_mJ Jc), (px_mP Pc)))) rfl ?_
  refine px_E_seg 6 (σ' := (87, [(0, .ref 95), (1, .int 3), (2, .int 1)], [], (px_shX, (px_up (px_up (px_mI Ic) 96 254 3) 96 255 1), (px_mJ Jc), (px_mP Pc)))) rfl ?_
  refine px_E_seg 6 (σ' := (96, [(0, .ref 95), (1, .int 3), (2, .int 1)], [.int 1, .int 0, .int 11, .ref 96], (px_shX, (px_up (px_up (px_mI Ic) 96 254 3) 96 255 1), (px_mJ Jc), (px_mP Pc)))) rfl ?_
  refine px_E_seg 6 (σ' := (105, [(0, .ref 95), (1, .int 3), (2, .int 1)], [.int 1], (px_shX, (px_up (px_up (px_up (px_mI Ic) 96 254 3) 96 255 1) 96 11 1), (px_mJ Jc), (px_mP Pc)))) rfl ?_
  exact px_E_ret rfl rfl
set_option maxRecDepth 100000 in
set_option maxHeartbeats 4000000 in
theorem px_x35_10 {ro : px_RO} {dd : Nat} (a1 a2 : Int32) (ha1 : 4 ≤ a1.toInt ∧ a1.toInt ≤ 2147483647) (ha2 : 0 ≤ a2.toInt ∧ a2.toInt ≤ 1) : px_CX ro (dd + 8) 166 [.ref 0, .int a1, .int a2] (.int (-2)) := by
  refine ⟨px_IX, px_PX, ?_, px_fr_0, px_frP_0⟩
  show px_E ro (dd + 8) 166 (0, _, [], _) _ _
  refine px_E_seg 2 (σ' := (2, [(0, .ref 0), (1, .int a1), (2, .int a2)], [.int (-1), .int a1], (px_shX, px_IX, px_JX, px_PX))) rfl ?_
  refine px_E_icT (t := 14) rfl rfl (show a1.toInt ≠ (-1 : Int) by omega) ?_
  refine px_E_seg 3 (σ' := (17, [(0, .ref 0), (1, .int a1), (2, .int a2)], [.int 3, .int 0, .int a1], (px_shX, px_IX, px_JX, px_PX))) rfl ?_
  refine px_E_call (j := 15) (as := [.int a1, .int 0, .int 3]) (rest := []) (v := some (.int 0)) (h1 := (px_shX, px_IX, px_JX, px_PX)) rfl rfl rfl (by
    refine px_E_seg 2 (σ' := (2, [(0, .int a1), (1, .int 0), (2, .int 3)], [.int 0, .int a1], (px_shX, px_IX, px_JX, px_PX))) rfl ?_
    refine px_E_icF (t := 14) rfl rfl (show (0 : Int) ≤ a1.toInt by omega) ?_
    refine px_E_seg 2 (σ' := (7, [(0, .int a1), (1, .int 0), (2, .int 3)], [.int 3, .int a1], (px_shX, px_IX, px_JX, px_PX))) rfl ?_
    refine px_E_icT (t := 14) rfl rfl (show (3 : Int) < a1.toInt by omega) ?_
    refine px_E_seg 1 (σ' := (15, [(0, .int a1), (1, .int 0), (2, .int 3)], [.int 0], (px_shX, px_IX, px_JX, px_PX))) rfl ?_
    exact px_E_ret rfl rfl) ?_
  refine px_E_seg 2 (σ' := (37, [(0, .ref 0), (1, .int a1), (2, .int a2)], [.int (-2)], (px_shX, px_IX, px_JX, px_PX))) rfl ?_
  exact px_E_ret rfl rfl
set_option maxRecDepth 100000 in
set_option maxHeartbeats 4000000 in
theorem px_r35_10 {ro : px_RO} {dd : Nat} (a1 a2 : Int32) (ha1 : 4 ≤ a1.toInt ∧ a1.toInt ≤ 2147483647) (ha2 : 0 ≤ a2.toInt ∧ a2.toInt ≤ 1) : px_RX ro (dd + 8) 321 [.ref 95, .int a1, .int a2] (.int (-2)) := by
  intro Ic Jc Pc
  refine ⟨(px_shX, (px_mI Ic), (px_mJ Jc), (px_mP Pc)), ?_, rfl⟩
  show px_E ro (dd + 8) 321 (0, _, [], _) _ _
  refine px_E_seg 2 (σ' := (2, [(0, .ref 95), (1, .int a1), (2, .int a2)], [.int (-1), .int a1], (px_shX, (px_mI Ic), (px_mJ Jc), (px_mP Pc)))) rfl ?_
  refine px_E_icT (t := 15) rfl rfl (show a1.toInt ≠ (-1 : Int) by omega) ?_
  refine px_E_seg 3 (σ' := (18, [(0, .ref 95), (1, .int a1), (2, .int a2)], [.int 3, .int 0, .int a1], (px_shX, (px_mI Ic), (px_mJ Jc), (px_mP Pc)))) rfl ?_
  refine px_E_call (j := 183) (as := [.int a1, .int 0, .int 3]) (rest := []) (v := some (.int 0)) (h1 := (px_shX, (px_mI Ic), (px_mJ Jc), (px_mP Pc))) rfl rfl rfl (by
    refine px_E_seg 2 (σ' := (2, [(0, .int a1), (1, .int 0), (2, .int 3)], [.int 0, .int a1], (px_shX, (px_mI Ic), (px_mJ Jc), (px_mP Pc)))) rfl ?_
    refine px_E_icF (t := 14) rfl rfl (show (0 : Int) ≤ a1.toInt by omega) ?_
    refine px_E_seg 2 (σ' := (7, [(0, .int a1), (1, .int 0), (2, .int 3)], [.int 3, .int a1], (px_shX, (px_mI Ic), (px_mJ Jc), (px_mP Pc)))) rfl ?_
    refine px_E_icT (t := 14) rfl rfl (show (3 : Int) < a1.toInt by omega) ?_
    refine px_E_seg 1 (σ' := (15, [(0, .int a1), (1, .int 0), (2, .int 3)], [.int 0], (px_shX, (px_mI Ic), (px_mJ Jc), (px_mP Pc)))) rfl ?_
    exact px_E_ret rfl rfl) ?_
  refine px_E_seg 2 (σ' := (38, [(0, .ref 95), (1, .int a1), (2, .int a2)], [.int (-2)], (px_shX, (px_mI Ic), (px_mJ Jc), (px_mP Pc)))) rfl ?_
  exact px_E_ret rfl rfl
set_option maxRecDepth 100000 in
set_option maxHeartbeats 4000000 in
theorem px_x36_0 {ro : px_RO} {dd : Nat} (a1 a2 : Int32) (ha1 : (-2147483648) ≤ a1.toInt ∧ a1.toInt ≤ (-1)) (ha2 : 0 ≤ a2.toInt ∧ a2.toInt ≤ 1) : px_CX ro (dd + 8) 169 [.ref 0, .int a1, .int a2] (.int (-1)) := by
  refine ⟨px_IX, px_PX, ?_, px_fr_0, px_frP_0⟩
  show px_E ro (dd + 8) 169 (0, _, [], _) _ _
  refine px_E_seg 3 (σ' := (3, [(0, .ref 0), (1, .int a1), (2, .int a2)], [.int 3, .int 0, .int a1], (px_shX, px_IX, px_JX, px_PX))) rfl ?_
  refine px_E_call (j := 15) (as := [.int a1, .int 0, .int 3]) (rest := []) (v := some (.int 0)) (h1 := (px_shX, px_IX, px_JX, px_PX)) rfl rfl rfl (by
    refine px_E_seg 2 (σ' := (2, [(0, .int a1), (1, .int 0), (2, .int 3)], [.int 0, .int a1], (px_shX, px_IX, px_JX, px_PX))) rfl ?_
    refine px_E_icT (t := 14) rfl rfl (show a1.toInt < (0 : Int) by omega) ?_
    refine px_E_seg 1 (σ' := (15, [(0, .int a1), (1, .int 0), (2, .int 3)], [.int 0], (px_shX, px_IX, px_JX, px_PX))) rfl ?_
    exact px_E_ret rfl rfl) ?_
  refine px_E_seg 2 (σ' := (22, [(0, .ref 0), (1, .int a1), (2, .int a2)], [.int (-1)], (px_shX, px_IX, px_JX, px_PX))) rfl ?_
  exact px_E_ret rfl rfl
set_option maxRecDepth 100000 in
set_option maxHeartbeats 4000000 in
theorem px_r36_0 {ro : px_RO} {dd : Nat} (a1 a2 : Int32) (ha1 : (-2147483648) ≤ a1.toInt ∧ a1.toInt ≤ (-1)) (ha2 : 0 ≤ a2.toInt ∧ a2.toInt ≤ 1) : px_RX ro (dd + 8) 322 [.ref 95, .int a1, .int a2] (.int (-1)) := by
  intro Ic Jc Pc
  refine ⟨(px_shX, (px_mI Ic), (px_mJ Jc), (px_mP Pc)), ?_, rfl⟩
  show px_E ro (dd + 8) 322 (0, _, [], _) _ _
  refine px_E_seg 3 (σ' := (3, [(0, .ref 95), (1, .int a1), (2, .int a2)], [.int 3, .int 0, .int a1], (px_shX, (px_mI Ic), (px_mJ Jc), (px_mP Pc)))) rfl ?_
  refine px_E_call (j := 183) (as := [.int a1, .int 0, .int 3]) (rest := []) (v := some (.int 0)) (h1 := (px_shX, (px_mI Ic), (px_mJ Jc), (px_mP Pc))) rfl rfl rfl (by
    refine px_E_seg 2 (σ' := (2, [(0, .int a1), (1, .int 0), (2, .int 3)], [.int 0, .int a1], (px_shX, (px_mI Ic), (px_mJ Jc), (px_mP Pc)))) rfl ?_
    refine px_E_icT (t := 14) rfl rfl (show a1.toInt < (0 : Int) by omega) ?_
    refine px_E_seg 1 (σ' := (15, [(0, .int a1), (1, .int 0), (2, .int 3)], [.int 0], (px_shX, (px_mI Ic), (px_mJ Jc), (px_mP Pc)))) rfl ?_
    exact px_E_ret rfl rfl) ?_
  refine px_E_seg 2 (σ' := (19, [(0, .ref 95), (1, .int a1), (2, .int a2)], [.int (-1)], (px_shX, (px_mI Ic), (px_mJ Jc), (px_mP Pc)))) rfl ?_
  exact px_E_ret rfl rfl
set_option maxRecDepth 100000 in
set_option maxHeartbeats 4000000 in
theorem px_x36_1 {ro : px_RO} {dd : Nat} (a2 : Int32) (ha2 : 0 ≤ a2.toInt ∧ a2.toInt ≤ 1) : px_CX ro (dd + 8) 169 [.ref 0, .int 0, .int a2] (.int (-1)) := by
  refine ⟨px_IX, px_PX, ?_, px_fr_0, px_frP_0⟩
  show px_E ro (dd + 8) 169 (0, _, [], _) _ _
  refine px_E_seg 3 (σ' := (3, [(0, .ref 0), (1, .int 0), (2, .int a2)], [.int 3, .int 0, .int 0], (px_shX, px_IX, px_JX, px_PX))) rfl ?_
  refine px_E_call (j := 15) (as := [.int 0, .int 0, .int 3]) (rest := []) (v := some (.int 1)) (h1 := (px_shX, px_IX, px_JX, px_PX)) rfl rfl rfl (by
    refine px_E_seg 6 (σ' := (10, [(0, .int 0), (1, .int 0), (2, .int 3)], [], (px_shX, px_IX, px_JX, px_PX))) rfl ?_
    refine px_E_seg 2 (σ' := (15, [(0, .int 0), (1, .int 0), (2, .int 3)], [.int 1], (px_shX, px_IX, px_JX, px_PX))) rfl ?_
    exact px_E_ret rfl rfl) ?_
  refine px_E_seg 6 (σ' := (18, [(0, .ref 0), (1, .int 0), (2, .int a2)], [.int 0], (px_shX, px_IX, px_JX, px_PX))) rfl ?_
  refine px_E_seg 2 (σ' := (22, [(0, .ref 0), (1, .int 0), (2, .int a2)], [.int (-1)], (px_shX, px_IX, px_JX, px_PX))) rfl ?_
  exact px_E_ret rfl rfl
set_option maxRecDepth 100000 in
set_option maxHeartbeats 4000000 in
theorem px_r36_1 {ro : px_RO} {dd : Nat} (a2 : Int32) (ha2 : 0 ≤ a2.toInt ∧ a2.toInt ≤ 1) : px_RX ro (dd + 8) 322 [.ref 95, .int 0, .int a2] (.int (-1)) := by
  intro Ic Jc Pc
  refine ⟨(px_shX, (px_mI Ic), (px_mJ Jc), (px_mP Pc)), ?_, rfl⟩
  show px_E ro (dd + 8) 322 (0, _, [], _) _ _
  refine px_E_seg 3 (σ' := (3, [(0, .ref 95), (1, .int 0), (2, .int a2)], [.int 3, .int 0, .int 0], (px_shX, (px_mI Ic), (px_mJ Jc), (px_mP Pc)))) rfl ?_
  refine px_E_call (j := 183) (as := [.int 0, .int 0, .int 3]) (rest := []) (v := some (.int 1)) (h1 := (px_shX, (px_mI Ic), (px_mJ Jc), (px_mP Pc))) rfl rfl rfl (by
    refine px_E_seg 6 (σ' := (10, [(0, .int 0), (1, .int 0), (2, .int 3)], [], (px_shX, (px_mI Ic), (px_mJ Jc), (px_mP Pc)))) rfl ?_
    refine px_E_seg 2 (σ' := (15, [(0, .int 0), (1, .int 0), (2, .int 3)], [.int 1], (px_shX, (px_mI Ic), (px_mJ Jc), (px_mP Pc)))) rfl ?_
    exact px_E_ret rfl rfl) ?_
  refine px_E_seg 4 (σ' := (12, [(0, .ref 95), (1, .int 0), (2, .int a2)], [.int 0, .int 0, .ref 95], (px_shX, (px_mI Ic), (px_mJ Jc), (px_mP Pc)))) rfl ?_
  refine px_E_call (j := 323) (as := [.ref 95, .int 0, .int 0]) (rest := []) (v := some (.int 0)) (h1 := (px_shX, (px_mI Ic), (px_mJ Jc), (px_mP Pc))) rfl rfl rfl (by
    refine px_E_seg 6 (σ' := (8, [(4, .int 0), (3, .int 0), (0, .ref 95), (1, .int 0), (2, .int 0)], [.ref 95, .int 0], (px_shX, (px_mI Ic), (px_mJ Jc), (px_mP Pc)))) rfl ?_
    refine px_E_seg 5 (σ' := (72, [(4, .int 0), (3, .int 0), (0, .ref 95), (1, .int 0), (2, .int 0)], [.int 0], (px_shX, (px_mI Ic), (px_mJ Jc), (px_mP Pc)))) rfl ?_
    exact px_E_ret rfl rfl) ?_
  refine px_E_seg 2 (σ' := (19, [(0, .ref 95), (1, .int 0), (2, .int a2)], [.int (-1)], (px_shX, (px_mI Ic), (px_mJ Jc), (px_mP Pc)))) rfl ?_
  exact px_E_ret rfl rfl
set_option maxRecDepth 100000 in
set_option maxHeartbeats 4000000 in
theorem px_x36_2 {ro : px_RO} {dd : Nat} (a2 : Int32) (ha2 : 0 ≤ a2.toInt ∧ a2.toInt ≤ 1) : px_CX ro (dd + 8) 169 [.ref 0, .int 1, .int a2] (.int (-1)) := by
  refine ⟨px_IX, px_PX, ?_, px_fr_0, px_frP_0⟩
  show px_E ro (dd + 8) 169 (0, _, [], _) _ _
  refine px_E_seg 3 (σ' := (3, [(0, .ref 0), (1, .int 1), (2, .int a2)], [.int 3, .int 0, .int 1], (px_shX, px_IX, px_JX, px_PX))) rfl ?_
  refine px_E_call (j := 15) (as := [.int 1, .int 0, .int 3]) (rest := []) (v := some (.int 1)) (h1 := (px_shX, px_IX, px_JX, px_PX)) rfl rfl rfl (by
    refine px_E_seg 6 (σ' := (10, [(0, .int 1), (1, .int 0), (2, .int 3)], [], (px_shX, px_IX, px_JX, px_PX))) rfl ?_
    refine px_E_seg 2 (σ' := (15, [(0, .int 1), (1, .int 0), (2, .int 3)], [.int 1], (px_shX, px_IX, px_JX, px_PX))) rfl ?_
    exact px_E_ret rfl rfl) ?_
  refine px_E_seg 6 (σ' := (18, [(0, .ref 0), (1, .int 1), (2, .int a2)], [.int 0], (px_shX, px_IX, px_JX, px_PX))) rfl ?_
  refine px_E_seg 2 (σ' := (22, [(0, .ref 0), (1, .int 1), (2, .int a2)], [.int (-1)], (px_shX, px_IX, px_JX, px_PX))) rfl ?_
  exact px_E_ret rfl rfl
set_option maxRecDepth 100000 in
set_option maxHeartbeats 4000000 in
theorem px_r36_2 {ro : px_RO} {dd : Nat} (a2 : Int32) (ha2 : 0 ≤ a2.toInt ∧ a2.toInt ≤ 1) : px_RX ro (dd + 8) 322 [.ref 95, .int 1, .int a2] (.int (-1)) := by
  intro Ic Jc Pc
  refine ⟨(px_shX, (px_mI Ic), (px_mJ Jc), (px_mP Pc)), ?_, rfl⟩
  show px_E ro (dd + 8) 322 (0, _, [], _) _ _
  refine px_E_seg 3 (σ' := (3, [(0, .ref 95), (1, .int 1), (2, .int a2)], [.int 3, .int 0, .int 1], (px_shX, (px_mI Ic), (px_mJ Jc), (px_mP Pc)))) rfl ?_
  refine px_E_call (j := 183) (as := [.int 1, .int 0, .int 3]) (rest := []) (v := some (.int 1)) (h1 := (px_shX, (px_mI Ic), (px_mJ Jc), (px_mP Pc))) rfl rfl rfl (by
    refine px_E_seg 6 (σ' := (10, [(0, .int 1), (1, .int 0), (2, .int 3)], [], (px_shX, (px_mI Ic), (px_mJ Jc), (px_mP Pc)))) rfl ?_
    refine px_E_seg 2 (σ' := (15, [(0, .int 1), (1, .int 0), (2, .int 3)], [.int 1], (px_shX, (px_mI Ic), (px_mJ Jc), (px_mP Pc)))) rfl ?_
    exact px_E_ret rfl rfl) ?_
  refine px_E_seg 4 (σ' := (12, [(0, .ref 95), (1, .int 1), (2, .int a2)], [.int 0, .int 1, .ref 95], (px_shX, (px_mI Ic), (px_mJ Jc), (px_mP Pc)))) rfl ?_
  refine px_E_call (j := 323) (as := [.ref 95, .int 1, .int 0]) (rest := []) (v := some (.int 0)) (h1 := (px_shX, (px_mI Ic), (px_mJ Jc), (px_mP Pc))) rfl rfl rfl (by
    refine px_E_seg 6 (σ' := (8, [(4, .int 0), (3, .int 0), (0, .ref 95), (1, .int 1), (2, .int 0)], [.ref 95, .int 0], (px_shX, (px_mI Ic), (px_mJ Jc), (px_mP Pc)))) rfl ?_
    refine px_E_seg 5 (σ' := (72, [(4, .int 0), (3, .int 0), (0, .ref 95), (1, .int 1), (2, .int 0)], [.int 0], (px_shX, (px_mI Ic), (px_mJ Jc), (px_mP Pc)))) rfl ?_
    exact px_E_ret rfl rfl) ?_
  refine px_E_seg 2 (σ' := (19, [(0, .ref 95), (1, .int 1), (2, .int a2)], [.int (-1)], (px_shX, (px_mI Ic), (px_mJ Jc), (px_mP Pc)))) rfl ?_
  exact px_E_ret rfl rfl
set_option maxRecDepth 100000 in
set_option maxHeartbeats 4000000 in
theorem px_x36_3 {ro : px_RO} {dd : Nat} (a2 : Int32) (ha2 : 0 ≤ a2.toInt ∧ a2.toInt ≤ 1) : px_CX ro (dd + 8) 169 [.ref 0, .int 2, .int a2] (.int (-1)) := by
  refine ⟨px_IX, px_PX, ?_, px_fr_0, px_frP_0⟩
  show px_E ro (dd + 8) 169 (0, _, [], _) _ _
  refine px_E_seg 3 (σ' := (3, [(0, .ref 0), (1, .int 2), (2, .int a2)], [.int 3, .int 0, .int 2], (px_shX, px_IX, px_JX, px_PX))) rfl ?_
  refine px_E_call (j := 15) (as := [.int 2, .int 0, .int 3]) (rest := []) (v := some (.int 1)) (h1 := (px_shX, px_IX, px_JX, px_PX)) rfl rfl rfl (by
    refine px_E_seg 6 (σ' := (10, [(0, .int 2), (1, .int 0), (2, .int 3)], [], (px_shX, px_IX, px_JX, px_PX))) rfl ?_
    refine px_E_seg 2 (σ' := (15, [(0, .int 2), (1, .int 0), (2, .int 3)], [.int 1], (px_shX, px_IX, px_JX, px_PX))) rfl ?_
    exact px_E_ret rfl rfl) ?_
  refine px_E_seg 6 (σ' := (18, [(0, .ref 0), (1, .int 2), (2, .int a2)], [.int 0], (px_shX, px_IX, px_JX, px_PX))) rfl ?_
  refine px_E_seg 2 (σ' := (22, [(0, .ref 0), (1, .int 2), (2, .int a2)], [.int (-1)], (px_shX, px_IX, px_JX, px_PX))) rfl ?_
  exact px_E_ret rfl rfl
set_option maxRecDepth 100000 in
set_option maxHeartbeats 4000000 in
theorem px_r36_3 {ro : px_RO} {dd : Nat} (a2 : Int32) (ha2 : 0 ≤ a2.toInt ∧ a2.toInt ≤ 1) : px_RX ro (dd + 8) 322 [.ref 95, .int 2, .int a2] (.int (-1)) := by
  intro Ic Jc Pc
  refine ⟨(px_shX, (px_mI Ic), (px_mJ Jc), (px_mP Pc)), ?_, rfl⟩
  show px_E ro (dd + 8) 322 (0, _, [], _) _ _
  refine px_E_seg 3 (σ' := (3, [(0, .ref 95), (1, .int 2), (2, .int a2)], [.int 3, .int 0, .int 2], (px_shX, (px_mI Ic), (px_mJ Jc), (px_mP Pc)))) rfl ?_
  refine px_E_call (j := 183) (as := [.int 2, .int 0, .int 3]) (rest := []) (v := some (.int 1)) (h1 := (px_shX, (px_mI Ic), (px_mJ Jc), (px_mP Pc))) rfl rfl rfl (by
    refine px_E_seg 6 (σ' := (10, [(0, .int 2), (1, .int 0), (2, .int 3)], [], (px_shX, (px_mI Ic), (px_mJ Jc), (px_mP Pc)))) rfl ?_
    refine px_E_seg 2 (σ' := (15, [(0, .int 2), (1, .int 0), (2, .int 3)], [.int 1], (px_shX, (px_mI Ic), (px_mJ Jc), (px_mP Pc)))) rfl ?_
    exact px_E_ret rfl rfl) ?_
  refine px_E_seg 4 (σ' := (12, [(0, .ref 95), (1, .int 2), (2, .int a2)], [.int 0, .int 2, .ref 95], (px_shX, (px_mI Ic), (px_mJ Jc), (px_mP Pc)))) rfl ?_
  refine px_E_call (j := 323) (as := [.ref 95, .int 2, .int 0]) (rest := []) (v := some (.int 0)) (h1 := (px_shX, (px_mI Ic), (px_mJ Jc), (px_mP Pc))) rfl rfl rfl (by
    refine px_E_seg 6 (σ' := (8, [(4, .int 0), (3, .int 0), (0, .ref 95), (1, .int 2), (2, .int 0)], [.ref 95, .int 0], (px_shX, (px_mI Ic), (px_mJ Jc), (px_mP Pc)))) rfl ?_
    refine px_E_seg 5 (σ' := (72, [(4, .int 0), (3, .int 0), (0, .ref 95), (1, .int 2), (2, .int 0)], [.int 0], (px_shX, (px_mI Ic), (px_mJ Jc), (px_mP Pc)))) rfl ?_
    exact px_E_ret rfl rfl) ?_
  refine px_E_seg 2 (σ' := (19, [(0, .ref 95), (1, .int 2), (2, .int a2)], [.int (-1)], (px_shX, (px_mI Ic), (px_mJ Jc), (px_mP Pc)))) rfl ?_
  exact px_E_ret rfl rfl
set_option maxRecDepth 100000 in
set_option maxHeartbeats 4000000 in
theorem px_x36_4 {ro : px_RO} {dd : Nat} (a2 : Int32) (ha2 : 0 ≤ a2.toInt ∧ a2.toInt ≤ 1) : px_CX ro (dd + 8) 169 [.ref 0, .int 3, .int a2] (.int (-1)) := by
  refine ⟨px_IX, px_PX, ?_, px_fr_0, px_frP_0⟩
  show px_E ro (dd + 8) 169 (0, _, [], _) _ _
  refine px_E_seg 3 (σ' := (3, [(0, .ref 0), (1, .int 3), (2, .int a2)], [.int 3, .int 0, .int 3], (px_shX, px_IX, px_JX, px_PX))) rfl ?_
  refine px_E_call (j := 15) (as := [.int 3, .int 0, .int 3]) (rest := []) (v := some (.int 1)) (h1 := (px_shX, px_IX, px_JX, px_PX)) rfl rfl rfl (by
    refine px_E_seg 6 (σ' := (10, [(0, .int 3), (1, .int 0), (2, .int 3)], [], (px_shX, px_IX, px_JX, px_PX))) rfl ?_
    refine px_E_seg 2 (σ' := (15, [(0, .int 3), (1, .int 0), (2, .int 3)], [.int 1], (px_shX, px_IX, px_JX, px_PX))) rfl ?_
    exact px_E_ret rfl rfl) ?_
  refine px_E_seg 6 (σ' := (18, [(0, .ref 0), (1, .int 3), (2, .int a2)], [.int 0], (px_shX, px_IX, px_JX, px_PX))) rfl ?_
  refine px_E_seg 2 (σ' := (22, [(0, .ref 0), (1, .int 3), (2, .int a2)], [.int (-1)], (px_shX, px_IX, px_JX, px_PX))) rfl ?_
  exact px_E_ret rfl rfl
set_option maxRecDepth 100000 in
set_option maxHeartbeats 4000000 in
theorem px_r36_4 {ro : px_RO} {dd : Nat} (a2 : Int32) (ha2 : 0 ≤ a2.toInt ∧ a2.toInt ≤ 1) : px_RX ro (dd + 8) 322 [.ref 95, .int 3, .int a2] (.int (-1)) := by
  intro Ic Jc Pc
  refine ⟨(px_shX, (px_mI Ic), (px_mJ Jc), (px_mP Pc)), ?_, rfl⟩
  show px_E ro (dd + 8) 322 (0, _, [], _) _ _
  refine px_E_seg 3 (σ' := (3, [(0, .ref 95), (1, .int 3), (2, .int a2)], [.int 3, .int 0, .int 3], (px_shX, (px_mI Ic), (px_mJ Jc), (px_mP Pc)))) rfl ?_
  refine px_E_call (j := 183) (as := [.int 3, .int 0, .int 3]) (rest := []) (v := some (.int 1)) (h1 := (px_shX, (px_mI Ic), (px_mJ Jc), (px_mP Pc))) rfl rfl rfl (by
    refine px_E_seg 6 (σ' := (10, [(0, .int 3), (1, .int 0), (2, .int 3)], [], (px_shX, (px_mI Ic), (px_mJ Jc), (px_mP Pc)))) rfl ?_
    refine px_E_seg 2 (σ' := (15, [(0, .int 3), (1, .int 0), (2, .int 3)], [.int 1], (px_shX, (px_mI Ic), (px_mJ Jc), (px_mP Pc)))) rfl ?_
    exact px_E_ret rfl rfl) ?_
  refine px_E_seg 4 (σ' := (12, [(0, .ref 95), (1, .int 3), (2, .int a2)], [.int 0, .int 3, .ref 95], (px_shX, (px_mI Ic), (px_mJ Jc), (px_mP Pc)))) rfl ?_
  refine px_E_call (j := 323) (as := [.ref 95, .int 3, .int 0]) (rest := []) (v := some (.int 0)) (h1 := (px_shX, (px_mI Ic), (px_mJ Jc), (px_mP Pc))) rfl rfl rfl (by
    refine px_E_seg 6 (σ' := (8, [(4, .int 0), (3, .int 0), (0, .ref 95), (1, .int 3), (2, .int 0)], [.ref 95, .int 0], (px_shX, (px_mI Ic), (px_mJ Jc), (px_mP Pc)))) rfl ?_
    refine px_E_seg 5 (σ' := (72, [(4, .int 0), (3, .int 0), (0, .ref 95), (1, .int 3), (2, .int 0)], [.int 0], (px_shX, (px_mI Ic), (px_mJ Jc), (px_mP Pc)))) rfl ?_
    exact px_E_ret rfl rfl) ?_
  refine px_E_seg 2 (σ' := (19, [(0, .ref 95), (1, .int 3), (2, .int a2)], [.int (-1)], (px_shX, (px_mI Ic), (px_mJ Jc), (px_mP Pc)))) rfl ?_
  exact px_E_ret rfl rfl
