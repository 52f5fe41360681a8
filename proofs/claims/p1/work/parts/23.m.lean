set_option maxRecDepth 100000 in
set_option maxHeartbeats 4000000 in
theorem px_x36_5 {ro : px_RO} {dd : Nat} (a1 a2 : Int32) (ha1 : 4 ≤ a1.toInt ∧ a1.toInt ≤ 2147483647) (ha2 : 0 ≤ a2.toInt ∧ a2.toInt ≤ 1) : px_CX ro (dd + 8) 169 [.ref 0, .int a1, .int a2] (.int (-1)) := by
  refine ⟨px_IX, px_PX, ?_, px_fr_0, px_frP_0⟩
  show px_E ro (dd + 8) 169 (0, _, [], _) _ _
  refine px_E_seg 3 (σ' := (3, [(0, .ref 0), (1, .int a1), (2, .int a2)], [.int 3, .int 0, .int a1], (px_shX, px_IX, px_JX, px_PX))) rfl ?_
  refine px_E_call (j := 15) (as := [.int a1, .int 0, .int 3]) (rest := []) (v := some (.int 0)) (h1 := (px_shX, px_IX, px_JX, px_PX)) rfl rfl rfl (by
    refine px_E_seg 2 (σ' := (2, [(0, .int a1), (1, .int 0), (2, .int 3)], [.int 0, .int a1], (px_shX, px_IX, px_JX, px_PX))) rfl ?_
    refine px_E_icF (t := 14) rfl rfl (show (0 : Int) ≤ a1.toInt by omega) ?_
    refine px_E_seg 2 (σ' := (7, [(0, .int a1), (1, .int 0), (2, .int 3)], [.int 3, .int a1], (px_shX, px_IX, px_JX, px_PX))) rfl ?_
    refine px_E_icT (t := 14) rfl rfl (show (3 : Int) < a1.toInt by omega) ?_
    refine px_E_seg 1 (σ' := (15, [(0, .int a1), (1, .int 0), (2, .int 3)], [.int 0], (px_shX, px_IX, px_JX, px_PX))) rfl ?_
    exact px_E_ret rfl rfl) ?_
  refine px_E_seg 2 (σ' := (22, [(0, .ref 0), (1, .int a1), (2, .int a2)], [.int (-1)], (px_shX, px_IX, px_JX, px_PX))) rfl ?_
  exact px_E_ret rfl rfl
set_option maxRecDepth 100000 in
set_option maxHeartbeats 4000000 in
theorem px_r36_5 {ro : px_RO} {dd : Nat} (a1 a2 : Int32) (ha1 : 4 ≤ a1.toInt ∧ a1.toInt ≤ 2147483647) (ha2 : 0 ≤ a2.toInt ∧ a2.toInt ≤ 1) : px_RX ro (dd + 8) 322 [.ref 95, .int a1, .int a2] (.int (-1)) := by
  intro Ic Jc Pc
  refine ⟨(px_shX, (px_mI Ic), (px_mJ Jc), (px_mP Pc)), ?_, rfl⟩
  show px_E ro (dd + 8) 322 (0, _, [], _) _ _
  refine px_E_seg 3 (σ' := (3, [(0, .ref 95), (1, .int a1), (2, .int a2)], [.int 3, .int 0, .int a1], (px_shX, (px_mI Ic), (px_mJ Jc), (px_mP Pc)))) rfl ?_
  refine px_E_call (j := 183) (as := [.int a1, .int 0, .int 3]) (rest := []) (v := some (.int 0)) (h1 := (px_shX, (px_mI Ic), (px_mJ Jc), (px_mP Pc))) rfl rfl rfl (by
    refine px_E_seg 2 (σ' := (2, [(0, .int a1), (1, .int 0), (2, .int 3)], [.int 0, .int a1], (px_shX, (px_mI Ic), (px_mJ Jc), (px_mP Pc)))) rfl ?_
    refine px_E_icF (t := 14) rfl rfl (show (0 : Int) ≤ a1.toInt by omega) ?_
    refine px_E_seg 2 (σ' := (7, [(0, .int a1), (1, .int 0), (2, .int 3)], [.int 3, .int a1], (px_shX, (px_mI Ic), (px_mJ Jc), (px_mP Pc)))) rfl ?_
    refine px_E_icT (t := 14) rfl rfl (show (3 : Int) < a1.toInt by omega) ?_
    refine px_E_seg 1 (σ' := (15, [(0, .int a1), (1, .int 0), (2, .int 3)], [.int 0], (px_shX, (px_mI Ic), (px_mJ Jc), (px_mP Pc)))) rfl ?_
    exact px_E_ret rfl rfl) ?_
  refine px_E_seg 2 (σ' := (19, [(0, .ref 95), (1, .int a1), (2, .int a2)], [.int (-1)], (px_shX, (px_mI Ic), (px_mJ Jc), (px_mP Pc)))) rfl ?_
  exact px_E_ret rfl rfl
set_option maxRecDepth 100000 in
set_option maxHeartbeats 4000000 in
theorem px_x37_0 {ro : px_RO} {dd : Nat}  : px_CX ro (dd + 8) 170 [.ref 0] (.int (-1)) := by
  refine ⟨px_IX, px_PX, ?_, px_fr_0, px_frP_0⟩
  show px_E ro (dd + 8) 170 (0, _, [], _) _ _
  refine px_E_seg 2 (σ' := (4, [(0, .ref 0)], [.ref 25], (px_shX, px_IX, px_JX, px_PX))) rfl ?_
  refine px_E_call (j := 171) (as := [.ref 25]) (rest := []) (v := some (.int (-1))) (h1 := (px_shX, px_IX, px_JX, px_PX)) rfl rfl rfl (by
    refine px_E_seg 6 (σ' := (6, [(2, .int 0), (1, .int (-1)), (0, .ref 25)], [.int 4, .int 0], (px_shX, px_IX, px_JX, px_PX))) rfl ?_
    refine px_E_seg 6 (σ' := (34, [(2, .int 0), (1, .int (-1)), (0, .ref 25)], [], (px_shX, px_IX, px_JX, px_PX))) rfl ?_
    refine px_E_seg 6 (σ' := (10, [(2, .int 1), (1, .int (-1)), (0, .ref 25)], [.ref 25], (px_shX, px_IX, px_JX, px_PX))) rfl ?_
    refine px_E_seg 6 (σ' := (4, [(2, .int 2), (1, .int (-1)), (0, .ref 25)], [], (px_shX, px_IX, px_JX, px_PX))) rfl ?_
    refine px_E_seg 6 (σ' := (14, [(2, .int 2), (1, .int (-1)), (0, .ref 25)], [.int 2, .ref 29], (px_shX, px_IX, px_JX, px_PX))) rfl ?_
    refine px_E_seg 6 (σ' := (6, [(2, .int 3), (1, .int (-1)), (0, .ref 25)], [.int 4, .int 3], (px_shX, px_IX, px_JX, px_PX))) rfl ?_
    refine px_E_seg 6 (σ' := (34, [(2, .int 3), (1, .int (-1)), (0, .ref 25)], [], (px_shX, px_IX, px_JX, px_PX))) rfl ?_
    refine px_E_seg 6 (σ' := (41, [(2, .int 4), (1, .int (-1)), (0, .ref 25)], [.int (-1)], (px_shX, px_IX, px_JX, px_PX))) rfl ?_
    exact px_E_ret rfl rfl) ?_
  exact px_E_ret rfl rfl
set_option maxRecDepth 100000 in
set_option maxHeartbeats 4000000 in
theorem px_r37_0 {ro : px_RO} {dd : Nat}  : px_RX ro (dd + 8) 324 [.ref 95] (.int (-1)) := by
  intro Ic Jc Pc
  refine ⟨(px_shX, (px_mI Ic), (px_mJ Jc), (px_mP Pc)), ?_, rfl⟩
  show px_E ro (dd + 8) 324 (0, _, [], _) _ _
  refine px_E_seg 6 (σ' := (6, [(2, .int 0), (1, .int (-1)), (0, .ref 95)], [.int 4, .int 0], (px_shX, (px_mI Ic), (px_mJ Jc), (px_mP Pc)))) rfl ?_
  refine px_E_seg 4 (σ' := (12, [(2, .int 0), (1, .int (-1)), (0, .ref 95)], [.int 0, .int 0, .ref 95], (px_shX, (px_mI Ic), (px_mJ Jc), (px_mP Pc)))) rfl ?_
  refine px_E_call (j := 323) (as := [.ref 95, .int 0, .int 0]) (rest := []) (v := some (.int 0)) (h1 := (px_shX, (px_mI Ic), (px_mJ Jc), (px_mP Pc))) rfl rfl rfl (by
    refine px_E_seg 6 (σ' := (8, [(4, .int 0), (3, .int 0), (0, .ref 95), (1, .int 0), (2, .int 0)], [.ref 95, .int 0], (px_shX, (px_mI Ic), (px_mJ Jc), (px_mP Pc)))) rfl ?_
    refine px_E_seg 5 (σ' := (72, [(4, .int 0), (3, .int 0), (0, .ref 95), (1, .int 0), (2, .int 0)], [.int 0], (px_shX, (px_mI Ic), (px_mJ Jc), (px_mP Pc)))) rfl ?_
    exact px_E_ret rfl rfl) ?_
  refine px_E_seg 6 (σ' := (4, [(2, .int 1), (3, .int 0), (1, .int (-1)), (0, .ref 95)], [], (px_shX, (px_mI Ic), (px_mJ Jc), (px_mP Pc)))) rfl ?_
  refine px_E_seg 6 (σ' := (12, [(2, .int 1), (3, .int 0), (1, .int (-1)), (0, .ref 95)], [.int 0, .int 1, .ref 95], (px_shX, (px_mI Ic), (px_mJ Jc), (px_mP Pc)))) rfl ?_
  refine px_E_call (j := 323) (as := [.ref 95, .int 1, .int 0]) (rest := []) (v := some (.int 0)) (h1 := (px_shX, (px_mI Ic), (px_mJ Jc), (px_mP Pc))) rfl rfl rfl (by
    refine px_E_seg 6 (σ' := (8, [(4, .int 0), (3, .int 0), (0, .ref 95), (1, .int 1), (2, .int 0)], [.ref 95, .int 0], (px_shX, (px_mI Ic), (px_mJ Jc), (px_mP Pc)))) rfl ?_
    refine px_E_seg 5 (σ' := (72, [(4, .int 0), (3, .int 0), (0, .ref 95), (1, .int 1), (2, .int 0)], [.int 0], (px_shX, (px_mI Ic), (px_mJ Jc), (px_mP Pc)))) rfl ?_
    exact px_E_ret rfl rfl) ?_
  refine px_E_seg 6 (σ' := (4, [(2, .int 2), (3, .int 0), (1, .int (-1)), (0, .ref 95)], [], (px_shX, (px_mI Ic), (px_mJ Jc), (px_mP Pc)))) rfl ?_
  refine px_E_seg 6 (σ' := (12, [(2, .int 2), (3, .int 0), (1, .int (-1)), (0, .ref 95)], [.int 0, .int 2, .ref 95], (px_shX, (px_mI Ic), (px_mJ Jc), (px_mP Pc)))) rfl ?_
  refine px_E_call (j := 323) (as := [.ref 95, .int 2, .int 0]) (rest := []) (v := some (.int 0)) (h1 := (px_shX, (px_mI Ic), (px_mJ Jc), (px_mP Pc))) rfl rfl rfl (by
    refine px_E_seg 6 (σ' := (8, [(4, .int 0), (3, .int 0), (0, .ref 95), (1, .int 2), (2, .int 0)], [.ref 95, .int 0], (px_shX, (px_mI Ic), (px_mJ Jc), (px_mP Pc)))) rfl ?_
    refine px_E_seg 5 (σ' := (72, [(4, .int 0), (3, .int 0), (0, .ref 95), (1, .int 2), (2, .int 0)], [.int 0], (px_shX, (px_mI Ic), (px_mJ Jc), (px_mP Pc)))) rfl ?_
    exact px_E_ret rfl rfl) ?_
  refine px_E_seg 6 (σ' := (4, [(2, .int 3), (3, .int 0), (1, .int (-1)), (0, .ref 95)], [], (px_shX, (px_mI Ic), (px_mJ Jc), (px_mP Pc)))) rfl ?_
  refine px_E_seg 6 (σ' := (12, [(2, .int 3), (3, .int 0), (1, .int (-1)), (0, .ref 95)], [.int 0, .int 3, .ref 95], (px_shX, (px_mI Ic), (px_mJ Jc), (px_mP Pc)))) rfl ?_
  refine px_E_call (j := 323) (as := [.ref 95, .int 3, .int 0]) (rest := []) (v := some (.int 0)) (h1 := (px_shX, (px_mI Ic), (px_mJ Jc), (px_mP Pc))) rfl rfl rfl (by
    refine px_E_seg 6 (σ' := (8, [(4, .int 0), (3, .int 0), (0, .ref 95), (1, .int 3), (2, .int 0)], [.ref 95, .int 0], (px_shX, (px_mI Ic), (px_mJ Jc), (px_mP Pc)))) rfl ?_
    refine px_E_seg 5 (σ' := (72, [(4, .int 0), (3, .int 0), (0, .ref 95), (1, .int 3), (2, .int 0)], [.int 0], (px_shX, (px_mI Ic), (px_mJ Jc), (px_mP Pc)))) rfl ?_
    exact px_E_ret rfl rfl) ?_
  refine px_E_seg 6 (σ' := (4, [(2, .int 4), (3, .int 0), (1, .int (-1)), (0, .ref 95)], [], (px_shX, (px_mI Ic), (px_mJ Jc), (px_mP Pc)))) rfl ?_
  refine px_E_seg 4 (σ' := (84, [(2, .int 4), (3, .int 0), (1, .int (-1)), (0, .ref 95)], [.int (-1)], (px_shX, (px_mI Ic), (px_mJ Jc), (px_mP Pc)))) rfl ?_
  exact px_E_ret rfl rfl
set_option maxRecDepth 100000 in
set_option maxHeartbeats 4000000 in
theorem px_x38_0 {ro : px_RO} {dd : Nat}  : px_CX ro (dd + 8) 173 [.ref 0] (.int 0) := by
  refine ⟨(px_up (px_cy (px_cy (px_cy (px_cy (px_cy (px_up (px_up (px_cy (px_cy (px_up (px_up (px_up (px_cy (px_cy (px_cy (px_cy (px_cy (px_cy (px_up (px_up (px_up (px_up (px_up px_IX 78 0 0) 78 1 0) 78 2 0) 78 3 0) 78 4 (-1)) 16 80 0 0 4) 17 81 0 0 4) 18 82 0 0 4) 19 83 0 0 6) 20 84 0 0 6) 21 85 0 0 12) 79 6 0) 79 7 0) 79 8 41) 23 87 0 0 1170) 24 88 0 0 30) 86 2 0) 86 3 0) 26 90 0 0 6) 27 91 0 0 6) 28 92 0 0 16) 29 93 0 0 4) 30 94 0 0 4) 89 2 0), px_PX, ?_, (px_fr_up (Nat.le_of_ble_eq_true rfl) (px_fr_cy (Nat.le_of_ble_eq_true rfl) (px_fr_cy (Nat.le_of_ble_eq_true rfl) (px_fr_cy (Nat.le_of_ble_eq_true rfl) (px_fr_cy (Nat.le_of_ble_eq_true rfl) (px_fr_cy (Nat.le_of_ble_eq_true rfl) (px_fr_up (Nat.le_of_ble_eq_true rfl) (px_fr_up (Nat.le_of_ble_eq_true rfl) (px_fr_cy (Nat.le_of_ble_eq_true rfl) (px_fr_cy (Nat.le_of_ble_eq_true rfl) (px_fr_up (Nat.le_of_ble_eq_true rfl) (px_fr_up (Nat.le_of_ble_eq_true rfl) (px_fr_up (Nat.le_of_ble_eq_true rfl) (px_fr_cy (Nat.le_of_ble_eq_true rfl) (px_fr_cy (Nat.le_of_ble_eq_true rfl) (px_fr_cy (Nat.le_of_ble_eq_true rfl) (px_fr_cy (Nat.le_of_ble_eq_true rfl) (px_fr_cy (Nat.le_of_ble_eq_true rfl) (px_fr_cy (Nat.le_of_ble_eq_true rfl) (px_fr_up (Nat.le_of_ble_eq_true rfl) (px_fr_up (Nat.le_of_ble_eq_true rfl) (px_fr_up (Nat.le_of_ble_eq_true rfl) (px_fr_up (Nat.le_of_ble_eq_true rfl) (px_fr_up (Nat.le_of_ble_eq_true rfl) px_fr_0)))))))))))))))))))))))), px_frP_0⟩
  show px_E ro (dd + 8) 173 (0, _, [], _) _ _
  refine px_E_seg 6 (σ' := (14, [(0, .ref 0)], [], (px_shX, (px_up px_IX 78 0 0), px_JX, px_PX))) rfl ?_
  refine px_E_seg 6 (σ' := (28, [(0, .ref 0)], [], (px_shX, (px_up (px_up px_IX 78 0 0) 78 1 0), px_JX, px_PX))) rfl ?_
  refine px_E_seg 6 (σ' := (42, [(0, .ref 0)], [], (px_shX, (px_up (px_up (px_up px_IX 78 0 0) 78 1 0) 78 2 0), px_JX, px_PX))) rfl ?_
  refine px_E_seg 6 (σ' := (54, [(0, .ref 0)], [.ref 0], (px_shX, (px_up (px_up (px_up (px_up px_IX 78 0 0) 78 1 0) 78 2 0) 78 3 0), px_JX, px_PX))) rfl ?_
  refine px_E_seg 6 (σ' := (68, [(0, .ref 0)], [.ref 78], (px_shX, (px_up (px_up (px_up (px_up (px_up px_IX 78 0 0) 78 1 0) 78 2 0) 78 3 0) 78 4 (-1)), px_JX, px_PX))) rfl ?_
  refine px_E_seg 3 (σ' := (75, [(0, .ref 0)], [.ref 15, .ref 79], (px_shX, (px_up (px_up (px_up (px_up (px_up px_IX 78 0 0) 78 1 0) 78 2 0) 78 3 0) 78 4 (-1)), px_JX, px_PX))) rfl ?_
  refine px_E_call (j := 174) (as := [.ref 79, .ref 15]) (rest := []) (v := none) (h1 := (px_shX, (px_up (px_up (px_up (px_cy (px_cy (px_cy (px_cy (px_cy (px_cy (px_up (px_up (px_up (px_up (px_up px_IX 78 0 0) 78 1 0) 78 2 0) 78 3 0) 78 4 (-1)) 16 80 0 0 4) 17 81 0 0 4) 18 82 0 0 4) 19 83 0 0 6) 20 84 0 0 6) 21 85 0 0 12) 79 6 0) 79 7 0) 79 8 41), px_JX, px_PX)) rfl rfl rfl (by
    refine px_E_seg 6 (σ' := (10, [(0, .ref 79), (1, .ref 15)], [.int 0, .ref 80, .int 0, .ref 16], (px_shX, (px_up (px_up (px_up (px_up (px_up px_IX 78 0 0) 78 1 0) 78 2 0) 78 3 0) 78 4 (-1)), px_JX, px_PX))) rfl ?_
    refine px_E_seg 6 (σ' := (20, [(0, .ref 79), (1, .ref 15)], [.ref 79, .int 0, .ref 17], (px_shX, (px_cy (px_up (px_up (px_up (px_up (px_up px_IX 78 0 0) 78 1 0) 78 2 0) 78 3 0) 78 4 (-1)) 16 80 0 0 4), px_JX, px_PX))) rfl ?_
    refine px_E_seg 6 (σ' := (32, [(0, .ref 79), (1, .ref 15)], [.ref 18], (px_shX, (px_cy (px_cy (px_up (px_up (px_up (px_up (px_up px_IX 78 0 0) 78 1 0) 78 2 0) 78 3 0) 78 4 (-1)) 16 80 0 0 4) 17 81 0 0 4), px_JX, px_PX))) rfl ?_
    refine px_E_seg 6 (σ' := (42, [(0, .ref 79), (1, .ref 15)], [], (px_shX, (px_cy (px_cy (px_cy (px_up (px_up (px_up (px_up (px_up px_IX 78 0 0) 78 1 0) 78 2 0) 78 3 0) 78 4 (-1)) 16 80 0 0 4) 17 81 0 0 4) 18 82 0 0 4), px_JX, px_PX))) rfl ?_
    refine px_E_seg 6 (σ' := (52, [(0, .ref 79), (1, .ref 15)], [.int 0, .ref 83, .int 0, .ref 19], (px_shX, (px_cy (px_cy (px_cy (px_up (px_up (px_up (px_up (px_up px_IX 78 0 0) 78 1 0) 78 2 0) 78 3 0) 78 4 (-1)) 16 80 0 0 4) 17 81 0 0 4) 18 82 0 0 4), px_JX, px_PX))) rfl ?_
    refine px_E_seg 6 (σ' := (63, [(0, .ref 79), (1, .ref 15)], [.ref 79, .int 0, .ref 20], (px_shX, (px_cy (px_cy (px_cy (px_cy (px_up (px_up (px_up (px_up (px_up px_IX 78 0 0) 78 1 0) 78 2 0) 78 3 0) 78 4 (-1)) 16 80 0 0 4) 17 81 0 0 4) 18 82 0 0 4) 19 83 0 0 6), px_JX, px_PX))) rfl ?_
    refine px_E_seg 6 (σ' := (76, [(0, .ref 79), (1, .ref 15)], [.ref 21], (px_shX, (px_cy (px_cy (px_cy (px_cy (px_cy (px_up (px_up (px_up (px_up (px_up px_IX 78 0 0) 78 1 0) 78 2 0) 78 3 0) 78 4 (-1)) 16 80 0 0 4) 17 81 0 0 4) 18 82 0 0 4) 19 83 0 0 6) 20 84 0 0 6), px_JX, px_PX))) rfl ?_
    refine px_E_seg 6 (σ' := (87, [(0, .ref 79), (1, .ref 15)], [], (px_shX, (px_cy (px_cy (px_cy (px_cy (px_cy (px_cy (px_up (px_up (px_up (px_up (px_up px_IX 78 0 0) 78 1 0) 78 2 0) 78 3 0) 78 4 (-1)) 16 80 0 0 4) 17 81 0 0 4) 18 82 0 0 4) 19 83 0 0 6) 20 84 0 0 6) 21 85 0 0 12), px_JX, px_PX))) rfl ?_
    refine px_E_seg 6 (σ' := (97, [(0, .ref 79), (1, .ref 15)], [.ref 15, .ref 79], (px_shX, (px_up (px_cy (px_cy (px_cy (px_cy (px_cy (px_cy (px_up (px_up (px_up (px_up (px_up px_IX 78 0 0) 78 1 0) 78 2 0) 78 3 0) 78 4 (-1)) 16 80 0 0 4) 17 81 0 0 4) 18 82 0 0 4) 19 83 0 0 6) 20 84 0 0 6) 21 85 0 0 12) 79 6 0), px_JX, px_PX))) rfl ?_
    refine px_E_seg 6 (σ' := (111, [(0, .ref 79), (1, .ref 15)], [], (px_shX, (px_up (px_up (px_up (px_cy (px_cy (px_cy (px_cy (px_cy (px_cy (px_up (px_up (px_up (px_up (px_up px_IX 78 0 0) 78 1 0) 78 2 0) 78 3 0) 78 4 (-1)) 16 80 0 0 4) 17 81 0 0 4) 18 82 0 0 4) 19 83 0 0 6) 20 84 0 0 6) 21 85 0 0 12) 79 6 0) 79 7 0) 79 8 41), px_JX, px_PX))) rfl ?_
    exact px_E_ret rfl rfl) ?_
  refine px_E_seg 5 (σ' := (89, [(0, .ref 0)], [.ref 22, .ref 86], (px_shX, (px_up (px_up (px_up (px_cy (px_cy (px_cy (px_cy (px_cy (px_cy (px_up (px_up (px_up (px_up (px_up px_IX 78 0 0) 78 1 0) 78 2 0) 78 3 0) 78 4 (-1)) 16 80 0 0 4) 17 81 0 0 4) 18 82 0 0 4) 19 83 0 0 6) 20 84 0 0 6) 21 85 0 0 12) 79 6 0) 79 7 0) 79 8 41), px_JX, px_PX))) rfl ?_
  refine px_E_call (j := 175) (as := [.ref 86, .ref 22]) (rest := []) (v := none) (h1 := (px_shX, (px_up (px_up (px_cy (px_cy (px_up (px_up (px_up (px_cy (px_cy (px_cy (px_cy (px_cy (px_cy (px_up (px_up (px_up (px_up (px_up px_IX 78 0 0) 78 1 0) 78 2 0) 78 3 0) 78 4 (-1)) 16 80 0 0 4) 17 81 0 0 4) 18 82 0 0 4) 19 83 0 0 6) 20 84 0 0 6) 21 85 0 0 12) 79 6 0) 79 7 0) 79 8 41) 23 87 0 0 1170) 24 88 0 0 30) 86 2 0) 86 3 0), px_JX, px_PX)) rfl rfl rfl (by
    refine px_E_seg 6 (σ' := (10, [(0, .ref 86), (1, .ref 22)], [.int 0, .ref 87, .int 0, .ref 23], (px_shX, (px_up (px_up (px_up (px_cy (px_cy (px_cy (px_cy (px_cy (px_cy (px_up (px_up (px_up (px_up (px_up px_IX 78 0 0) 78 1 0) 78 2 0) 78 3 0) 78 4 (-1)) 16 80 0 0 4) 17 81 0 0 4) 18 82 0 0 4) 19 83 0 0 6) 20 84 0 0 6) 21 85 0 0 12) 79 6 0) 79 7 0) 79 8 41), px_JX, px_PX))) rfl ?_
    refine px_E_seg 6 (σ' := (22, [(0, .ref 86), (1, .ref 22)], [.ref 24], (px_shX, (px_cy (px_up (px_up (px_up (px_cy (px_cy (px_cy (px_cy (px_cy (px_cy (px_up (px_up (px_up (px_up (px_up px_IX 78 0 0) 78 1 0) 78 2 0) 78 3 0) 78 4 (-1)) 16 80 0 0 4) 17 81 0 0 4) 18 82 0 0 4) 19 83 0 0 6) 20 84 0 0 6) 21 85 0 0 12) 79 6 0) 79 7 0) 79 8 41) 23 87 0 0 1170), px_JX, px_PX))) rfl ?_
    refine px_E_seg 6 (σ' := (33, [(0, .ref 86), (1, .ref 22)], [], (px_shX, (px_cy (px_cy (px_up (px_up (px_up (px_cy (px_cy (px_cy (px_cy (px_cy (px_cy (px_up (px_up (px_up (px_up (px_up px_IX 78 0 0) 78 1 0) 78 2 0) 78 3 0) 78 4 (-1)) 16 80 0 0 4) 17 81 0 0 4) 18 82 0 0 4) 19 83 0 0 6) 20 84 0 0 6) 21 85 0 0 12) 79 6 0) 79 7 0) 79 8 41) 23 87 0 0 1170) 24 88 0 0 30), px_JX, px_PX))) rfl ?_
    refine px_E_seg 6 (σ' := (43, [(0, .ref 86), (1, .ref 22)], [.ref 22, .ref 86], (px_shX, (px_up (px_cy (px_cy (px_up (px_up (px_up (px_cy (px_cy (px_cy (px_cy (px_cy (px_cy (px_up (px_up (px_up (px_up (px_up px_IX 78 0 0) 78 1 0) 78 2 0) 78 3 0) 78 4 (-1)) 16 80 0 0 4) 17 81 0 0 4) 18 82 0 0 4) 19 83 0 0 6) 20 84 0 0 6) 21 85 0 0 12) 79 6 0) 79 7 0) 79 8 41) 23 87 0 0 1170) 24 88 0 0 30) 86 2 0), px_JX, px_PX))) rfl ?_
    refine px_E_seg 2 (σ' := (49, [(0, .ref 86), (1, .ref 22)], [], (px_shX, (px_up (px_up (px_cy (px_cy (px_up (px_up (px_up (px_cy (px_cy (px_cy (px_cy (px_cy (px_cy (px_up (px_up (px_up (px_up (px_up px_IX 78 0 0) 78 1 0) 78 2 0) 78 3 0) 78 4 (-1)) 16 80 0 0 4) 17 81 0 0 4) 18 82 0 0 4) 19 83 0 0 6) 20 84 0 0 6) 21 85 0 0 12) 79 6 0) 79 7 0) 79 8 41) 23 87 0 0 1170) 24 88 0 0 30) 86 2 0) 86 3 0), px_JX, px_PX))) rfl ?_
    exact px_E_ret rfl rfl) ?_
  refine px_E_seg 5 (σ' := (103, [(0, .ref 0)], [.ref 25, .ref 89], (px_shX, (px_up (px_up (px_cy (px_cy (px_up (px_up (px_up (px_cy (px_cy (px_cy (px_cy (px_cy (px_cy (px_up (px_up (px_up (px_up (px_up px_IX 78 0 0) 78 1 0) 78 2 0) 78 3 0) 78 4 (-1)) 16 80 0 0 4) 17 81 0 0 4) 18 82 0 0 4) 19 83 0 0 6) 20 84 0 0 6) 21 85 0 0 12) 79 6 0) 79 7 0) 79 8 41) 23 87 0 0 1170) 24 88 0 0 30) 86 2 0) 86 3 0), px_JX, px_PX))) rfl ?_
  refine px_E_call (j := 176) (as := [.ref 89, .ref 25]) (rest := []) (v := none) (h1 := (px_shX, (px_up (px_cy (px_cy (px_cy (px_cy (px_cy (px_up (px_up (px_cy (px_cy (px_up (px_up (px_up (px_cy (px_cy (px_cy (px_cy (px_cy (px_cy (px_up (px_up (px_up (px_up (px_up px_IX 78 0 0) 78 1 0) 78 2 0) 78 3 0) 78 4 (-1)) 16 80 0 0 4) 17 81 0 0 4) 18 82 0 0 4) 19 83 0 0 6) 20 84 0 0 6) 21 85 0 0 12) 79 6 0) 79 7 0) 79 8 41) 23 87 0 0 1170) 24 88 0 0 30) 86 2 0) 86 3 0) 26 90 0 0 6) 27 91 0 0 6) 28 92 0 0 16) 29 93 0 0 4) 30 94 0 0 4) 89 2 0), px_JX, px_PX)) rfl rfl rfl (by
    refine px_E_seg 6 (σ' := (10, [(0, .ref 89), (1, .ref 25)], [.int 0, .ref 90, .int 0, .ref 26], (px_shX, (px_up (px_up (px_cy (px_cy (px_up (px_up (px_up (px_cy (px_cy (px_cy (px_cy (px_cy (px_cy (px_up (px_up (px_up (px_up (px_up px_IX 78 0 0) 78 1 0) 78 2 0) 78 3 0) 78 4 (-1)) 16 80 0 0 4) 17 81 0 0 4) 18 82 0 0 4) 19 83 0 0 6) 20 84 0 0 6) 21 85 0 0 12) 79 6 0) 79 7 0) 79 8 41) 23 87 0 0 1170) 24 88 0 0 30) 86 2 0) 86 3 0), px_JX, px_PX))) rfl ?_
    refine px_E_seg 6 (σ' := (21, [(0, .ref 89), (1, .ref 25)], [.ref 89, .int 0, .ref 27], (px_shX, (px_cy (px_up (px_up (px_cy (px_cy (px_up (px_up (px_up (px_cy (px_cy (px_cy (px_cy (px_cy (px_cy (px_up (px_up (px_up (px_up (px_up px_IX 78 0 0) 78 1 0) 78 2 0) 78 3 0) 78 4 (-1)) 16 80 0 0 4) 17 81 0 0 4) 18 82 0 0 4) 19 83 0 0 6) 20 84 0 0 6) 21 85 0 0 12) 79 6 0) 79 7 0) 79 8 41) 23 87 0 0 1170) 24 88 0 0 30) 86 2 0) 86 3 0) 26 90 0 0 6), px_JX, px_PX))) rfl ?_
    refine px_E_seg 6 (σ' := (34, [(0, .ref 89), (1, .ref 25)], [.ref 28], (px_shX, (px_cy (px_cy (px_up (px_up (px_cy (px_cy (px_up (px_up (px_up (px_cy (px_cy (px_cy (px_cy (px_cy (px_cy (px_up (px_up (px_up (px_up (px_up px_IX 78 0 0) 78 1 0) 78 2 0) 78 3 0) 78 4 (-1)) 16 80 0 0 4) 17 81 0 0 4) 18 82 0 0 4) 19 83 0 0 6) 20 84 0 0 6) 21 85 0 0 12) 79 6 0) 79 7 0) 79 8 41) 23 87 0 0 1170) 24 88 0 0 30) 86 2 0) 86 3 0) 26 90 0 0 6) 27 91 0 0 6), px_JX, px_PX))) rfl ?_
    refine px_E_seg 6 (σ' := (45, [(0, .ref 89), (1, .ref 25)], [], (px_shX, (px_cy (px_cy (px_cy (px_up (px_up (px_cy (px_cy (px_up (px_up (px_up (px_cy (px_cy (px_cy (px_cy (px_cy (px_cy (px_up (px_up (px_up (px_up (px_up px_IX 78 0 0) 78 1 0) 78 2 0) 78 3 0) 78 4 (-1)) 16 80 0 0 4) 17 81 0 0 4) 18 82 0 0 4) 19 83 0 0 6) 20 84 0 0 6) 21 85 0 0 12) 79 6 0) 79 7 0) 79 8 41) 23 87 0 0 1170) 24 88 0 0 30) 86 2 0) 86 3 0) 26 90 0 0 6) 27 91 0 0 6) 28 92 0 0 16), px_JX, px_PX))) rfl ?_
    refine px_E_seg 6 (σ' := (55, [(0, .ref 89), (1, .ref 25)], [.int 0, .ref 93, .int 0, .ref 29], (px_shX, (px_cy (px_cy (px_cy (px_up (px_up (px_cy (px_cy (px_up (px_up (px_up (px_cy (px_cy (px_cy (px_cy (px_cy (px_cy (px_up (px_up (px_up (px_up (px_up px_IX 78 0 0) 78 1 0) 78 2 0) 78 3 0) 78 4 (-1)) 16 80 0 0 4) 17 81 0 0 4) 18 82 0 0 4) 19 83 0 0 6) 20 84 0 0 6) 21 85 0 0 12) 79 6 0) 79 7 0) 79 8 41) 23 87 0 0 1170) 24 88 0 0 30) 86 2 0) 86 3 0) 26 90 0 0 6) 27 91 0 0 6) 28 92 0 0 16), px_JX, px_PX))) rfl ?_
    refine px_E_seg 6 (σ' := (65, [(0, .ref 89), (1, .ref 25)], [.ref 89, .int 0, .ref 30], (px_shX, (px_cy (px_cy (px_cy (px_cy (px_up (px_up (px_cy (px_cy (px_up (px_up (px_up (px_cy (px_cy (px_cy (px_cy (px_cy (px_cy (px_up (px_up (px_up (px_up (px_up px_IX 78 0 0) 78 1 0) 78 2 0) 78 3 0) 78 4 (-1)) 16 80 0 0 4) 17 81 0 0 4) 18 82 0 0 4) 19 83 0 0 6) 20 84 0 0 6) 21 85 0 0 12) 79 6 0) 79 7 0) 79 8 41) 23 87 0 0 1170) 24 88 0 0 30) 86 2 0) 86 3 0) 26 90 0 0 6) 27 91 0 0 6) 28 92 0 0 16) 29 93 0 0 4), px_JX, px_PX))) rfl ?_
    refine px_E_seg 6 (σ' := (75, [(0, .ref 89), (1, .ref 25)], [.ref 25, .ref 89], (px_shX, (px_cy (px_cy (px_cy (px_cy (px_cy (px_up (px_up (px_cy (px_cy (px_up (px_up (px_up (px_cy (px_cy (px_cy (px_cy (px_cy (px_cy (px_up (px_up (px_up (px_up (px_up px_IX 78 0 0) 78 1 0) 78 2 0) 78 3 0) 78 4 (-1)) 16 80 0 0 4) 17 81 0 0 4) 18 82 0 0 4) 19 83 0 0 6) 20 84 0 0 6) 21 85 0 0 12) 79 6 0) 79 7 0) 79 8 41) 23 87 0 0 1170) 24 88 0 0 30) 86 2 0) 86 3 0) 26 90 0 0 6) 27 91 0 0 6) 28 92 0 0 16) 29 93 0 0 4) 30 94 0 0 4), px_JX, px_PX))) rfl ?_
    refine px_E_seg 2 (σ' := (81, [(0, .ref 89), (1, .ref 25)], [], (px_shX, (px_up (px_cy (px_cy (px_cy (px_cy (px_cy (px_up (px_up (px_cy (px_cy (px_up (px_up (px_up (px_cy (px_cy (px_cy (px_cy (px_cy (px_cy (px_up (px_up (px_up (px_up (px_up px_IX 78 0 0) 78 1 0) 78 2 0) 78 3 0) 78 4 (-1)) 16 80 0 0 4) 17 81 0 0 4) 18 82 0 0 4) 19 83 0 0 6) 20 84 0 0 6) 21 85 0 0 12) 79 6 0) 79 7 0) 79 8 41) 23 87 0 0 1170) 24 88 0 0 30) 86 2 0) 86 3 0) 26 90 0 0 6) 27 91 0 0 6) 28 92 0 0 16) 29 93 0 0 4) 30 94 0 0 4) 89 2 0), px_JX, px_PX))) rfl ?_
    exact px_E_ret rfl rfl) ?_
  refine px_E_seg 3 (σ' := (113, [(0, .ref 0)], [.int 0], (px_shX, (px_up (px_cy (px_cy (px_cy (px_cy (px_cy (px_up (px_up (px_cy (px_cy (px_up (px_up (px_up (px_cy (px_cy (px_cy (px_cy (px_cy (px_cy (px_up (px_up (px_up (px_up (px_up px_IX 78 0 0) 78 1 0) 78 2 0) 78 3 0) 78 4 (-1)) 16 80 0 0 4) 17 81 0 0 4) 18 82 0 0 4) 19 83 0 0 6) 20 84 0 0 6) 21 85 0 0 12) 79 6 0) 79 7 0) 79 8 41) 23 87 0 0 1170) 24 88 0 0 30) 86 2 0) 86 3 0) 26 90 0 0 6) 27 91 0 0 6) 28 92 0 0 16) 29 93 0 0 4) 30 94 0 0 4) 89 2 0), px_JX, px_PX))) rfl ?_
  exact px_E_ret rfl rfl
set_option maxRecDepth 100000 in
set_option maxHeartbeats 4000000 in
theorem px_r38_0 {ro : px_RO} {dd : Nat}  : px_RX ro (dd + 8) 325 [.ref 95] (.int 0) := by
  intro Ic Jc Pc
  refine ⟨(px_shX, (px_cpR (px_mI Ic) 96 97), (px_mJ Jc), (px_mP Pc)), ?_, rfl⟩
  show px_E ro (dd + 8) 325 (0, _, [], _) _ _
  refine px_E_seg 4 (σ' := (8, [(0, .ref 95)], [.ref 97, .ref 96], (px_shX, (px_mI Ic), (px_mJ Jc), (px_mP Pc)))) rfl ?_
  refine px_E_call (j := 181) (as := [.ref 96, .ref 97]) (rest := []) (v := none) (h1 := (px_shX, (px_cpR (px_mI Ic) 96 97), (px_mJ Jc), (px_mP Pc))) rfl rfl rfl (px_copy (na := 1538) (nb := 1538) rfl rfl (by decide) (by decide) (by decide) (by decide) (by decide) rfl rfl) ?_
  refine px_E_seg 4 (σ' := (17, [(0, .ref 95)], [.int 0], (px_shX, (px_cpR (px_mI Ic) 96 97), (px_mJ Jc), (px_mP Pc)))) rfl ?_
  exact px_E_ret rfl rfl
set_option maxRecDepth 100000 in
set_option maxHeartbeats 4000000 in
theorem px_x39_0 {ro : px_RO} {dd : Nat}  : px_CX ro (dd + 8) 177 [.ref 0] (.int 0) := by
  refine ⟨(px_up (px_cy (px_cy (px_cy (px_cy (px_cy (px_up (px_up (px_cy (px_cy (px_up (px_up (px_up (px_cy (px_cy (px_cy (px_cy (px_cy (px_cy (px_up (px_up (px_up (px_up (px_up (px_up (px_up (px_up (px_up (px_up (px_up (px_up (px_up (px_up (px_fl (px_fl (px_up (px_up (px_up px_IX 1 0 0) 1 1 0) 1 2 0) 12 12 0) 13 144 1000) 13 0 0) 13 13 0) 13 26 0) 13 39 0) 13 52 0) 13 65 0) 13 78 0) 13 91 0) 13 104 0) 13 117 0) 13 130 0) 13 143 0) 0 11 0) 0 12 (-1)) 80 16 0 0 4) 81 17 0 0 4) 82 18 0 0 4) 83 19 0 0 6) 84 20 0 0 6) 85 21 0 0 12) 15 6 0) 15 7 0) 15 8 41) 87 23 0 0 1170) 88 24 0 0 30) 22 2 0) 22 3 0) 90 26 0 0 6) 91 27 0 0 6) 92 28 0 0 16) 93 29 0 0 4) 94 30 0 0 4) 25 2 0), (px_up px_PX 63 2 none), ?_, (px_fr_up (Nat.le_of_ble_eq_true rfl) (px_fr_cy (Nat.le_of_ble_eq_true rfl) (px_fr_cy (Nat.le_of_ble_eq_true rfl) (px_fr_cy (Nat.le_of_ble_eq_true rfl) (px_fr_cy (Nat.le_of_ble_eq_true rfl) (px_fr_cy (Nat.le_of_ble_eq_true rfl) (px_fr_up (Nat.le_of_ble_eq_true rfl) (px_fr_up (Nat.le_of_ble_eq_true rfl) (px_fr_cy (Nat.le_of_ble_eq_true rfl) (px_fr_cy (Nat.le_of_ble_eq_true rfl) (px_fr_up (Nat.le_of_ble_eq_true rfl) (px_fr_up (Nat.le_of_ble_eq_true rfl) (px_fr_up (Nat.le_of_ble_eq_true rfl) (px_fr_cy (Nat.le_of_ble_eq_true rfl) (px_fr_cy (Nat.le_of_ble_eq_true rfl) (px_fr_cy (Nat.le_of_ble_eq_true rfl) (px_fr_cy (Nat.le_of_ble_eq_true rfl) (px_fr_cy (Nat.le_of_ble_eq_true rfl) (px_fr_cy (Nat.le_of_ble_eq_true rfl) (px_fr_up (Nat.le_of_ble_eq_true rfl) (px_fr_up (Nat.le_of_ble_eq_true rfl) (px_fr_up (Nat.le_of_ble_eq_true rfl) (px_fr_up (Nat.le_of_ble_eq_true rfl) (px_fr_up (Nat.le_of_ble_eq_true rfl) (px_fr_up (Nat.le_of_ble_eq_true rfl) (px_fr_up (Nat.le_of_ble_eq_true rfl) (px_fr_up (Nat.le_of_ble_eq_true rfl) (px_fr_up (Nat.le_of_ble_eq_true rfl) (px_fr_up (Nat.le_of_ble_eq_true rfl) (px_fr_up (Nat.le_of_ble_eq_true rfl) (px_fr_up (Nat.le_of_ble_eq_true rfl) (px_fr_up (Nat.le_of_ble_eq_true rfl) (px_fr_up (Nat.le_of_ble_eq_true rfl) (px_fr_fl (Nat.le_of_ble_eq_true rfl) (px_fr_fl (Nat.le_of_ble_eq_true rfl) (px_fr_up (Nat.le_of_ble_eq_true rfl) (px_fr_up (Nat.le_of_ble_eq_true rfl) (px_fr_up (Nat.le_of_ble_eq_true rfl) px_fr_0)))))))))))))))))))))))))))))))))))))), (px_frP_up (Nat.le_of_ble_eq_true rfl) px_frP_0)⟩
  show px_E ro (dd + 8) 177 (0, _, [], _) _ _
  refine px_E_seg 6 (σ' := (12, [(0, .ref 0)], [.ref 0, .int 0, .ref 1], (px_shX, px_IX, px_JX, px_PX))) rfl ?_
  refine px_E_seg 5 (σ' := (25, [(0, .ref 0)], [.int 0, .int 0, .int 0, .ref 1], (px_shX, px_IX, px_JX, px_PX))) rfl ?_
  refine px_E_call (j := 178) (as := [.ref 1, .int 0, .int 0, .int 0]) (rest := []) (v := none) (h1 := (px_shX, (px_up (px_up (px_up (px_up (px_up (px_up (px_up (px_up (px_up (px_up (px_up (px_up (px_fl (px_fl (px_up (px_up (px_up px_IX 1 0 0) 1 1 0) 1 2 0) 12 12 0) 13 144 1000) 13 0 0) 13 13 0) 13 26 0) 13 39 0) 13 52 0) 13 65 0) 13 78 0) 13 91 0) 13 104 0) 13 117 0) 13 130 0) 13 143 0), px_JX, px_PX)) rfl rfl rfl (by
    refine px_E_seg 6 (σ' := (10, [(0, .ref 1), (1, .int 0), (2, .int 0), (3, .int 0)], [], (px_shX, (px_up (px_up px_IX 1 0 0) 1 1 0), px_JX, px_PX))) rfl ?_
    refine px_E_seg 6 (σ' := (20, [(0, .ref 1), (1, .int 0), (2, .int 0), (3, .int 0)], [.int 0, .ref 12], (px_shX, (px_up (px_up (px_up px_IX 1 0 0) 1 1 0) 1 2 0), px_JX, px_PX))) rfl ?_
    refine px_E_call (j := 3) (as := [.ref 12, .int 0]) (rest := []) (v := none) (h1 := (px_shX, (px_fl (px_up (px_up (px_up px_IX 1 0 0) 1 1 0) 1 2 0) 12 12 0), px_JX, px_PX)) rfl rfl rfl (px_fill 12 12 rfl (by decide) rfl rfl) ?_
    refine px_E_seg 2 (σ' := (27, [(0, .ref 1), (1, .int 0), (2, .int 0), (3, .int 0)], [.ref 13], (px_shX, (px_fl (px_up (px_up (px_up px_IX 1 0 0) 1 1 0) 1 2 0) 12 12 0), px_JX, px_PX))) rfl ?_
    refine px_E_call (j := 2) (as := [.ref 13]) (rest := []) (v := none) (h1 := (px_shX, (px_up (px_up (px_up (px_up (px_up (px_up (px_up (px_up (px_up (px_up (px_up (px_up (px_fl (px_fl (px_up (px_up (px_up px_IX 1 0 0) 1 1 0) 1 2 0) 12 12 0) 13 144 1000) 13 0 0) 13 13 0) 13 26 0) 13 39 0) 13 52 0) 13 65 0) 13 78 0) 13 91 0) 13 104 0) 13 117 0) 13 130 0) 13 143 0), px_JX, px_PX)) rfl rfl rfl (by
      refine px_E_seg 2 (σ' := (4, [(0, .ref 13)], [.int 1000, .ref 13], (px_shX, (px_fl (px_up (px_up (px_up px_IX 1 0 0) 1 1 0) 1 2 0) 12 12 0), px_JX, px_PX))) rfl ?_
      refine px_E_call (j := 3) (as := [.ref 13, .int 1000]) (rest := []) (v := none) (h1 := (px_shX, (px_fl (px_fl (px_up (px_up (px_up px_IX 1 0 0) 1 1 0) 1 2 0) 12 12 0) 13 144 1000), px_JX, px_PX)) rfl rfl rfl (px_fill 13 144 rfl (by decide) rfl rfl) ?_
      refine px_E_seg 6 (σ' := (16, [(1, .int 0), (0, .ref 13)], [.ref 13], (px_shX, (px_fl (px_fl (px_up (px_up (px_up px_IX 1 0 0) 1 1 0) 1 2 0) 12 12 0) 13 144 1000), px_JX, px_PX))) rfl ?_
      refine px_E_seg 2 (σ' := (19, [(1, .int 0), (0, .ref 13)], [.int 12, .int 0, .ref 13], (px_shX, (px_fl (px_fl (px_up (px_up (px_up px_IX 1 0 0) 1 1 0) 1 2 0) 12 12 0) 13 144 1000), px_JX, px_PX))) rfl ?_
      refine px_E_seg 2 (σ' := (21, [(1, .int 0), (0, .ref 13)], [.int 0, .int 0, .ref 13], (px_shX, (px_fl (px_fl (px_up (px_up (px_up px_IX 1 0 0) 1 1 0) 1 2 0) 12 12 0) 13 144 1000), px_JX, px_PX))) rfl ?_
      refine px_E_seg 6 (σ' := (10, [(1, .int 1), (0, .ref 13)], [.int 1], (px_shX, (px_up (px_fl (px_fl (px_up (px_up (px_up px_IX 1 0 0) 1 1 0) 1 2 0) 12 12 0) 13 144 1000) 13 0 0), px_JX, px_PX))) rfl ?_
      refine px_E_seg 5 (σ' := (19, [(1, .int 1), (0, .ref 13)], [.int 12, .int 1, .ref 13], (px_shX, (px_up (px_fl (px_fl (px_up (px_up (px_up px_IX 1 0 0) 1 1 0) 1 2 0) 12 12 0) 13 144 1000) 13 0 0), px_JX, px_PX))) rfl ?_
      refine px_E_seg 2 (σ' := (21, [(1, .int 1), (0, .ref 13)], [.int 1, .int 12, .ref 13], (px_shX, (px_up (px_fl (px_fl (px_up (px_up (px_up px_IX 1 0 0) 1 1 0) 1 2 0) 12 12 0) 13 144 1000) 13 0 0), px_JX, px_PX))) rfl ?_
      refine px_E_seg 6 (σ' := (10, [(1, .int 2), (0, .ref 13)], [.int 2], (px_shX, (px_up (px_up (px_fl (px_fl (px_up (px_up (px_up px_IX 1 0 0) 1 1 0) 1 2 0) 12 12 0) 13 144 1000) 13 0 0) 13 13 0), px_JX, px_PX))) rfl ?_
      refine px_E_seg 5 (σ' := (19, [(1, .int 2), (0, .ref 13)], [.int 12, .int 2, .ref 13], (px_shX, (px_up (px_up (px_fl (px_fl (px_up (px_up (px_up px_IX 1 0 0) 1 1 0) 1 2 0) 12 12 0) 13 144 1000) 13 0 0) 13 13 0), px_JX, px_PX))) rfl ?_
      refine px_E_seg 2 (σ' := (21, [(1, .int 2), (0, .ref 13)], [.int 2, .int 24, .ref 13], (px_shX, (px_up (px_up (px_fl (px_fl (px_up (px_up (px_up px_IX 1 0 0) 1 1 0) 1 2 0) 12 12 0) 13 144 1000) 13 0 0) 13 13 0), px_JX, px_PX))) rfl ?_
      refine px_E_seg 6 (σ' := (10, [(1, .int 3), (0, .ref 13)], [.int 3], (px_shX, (px_up (px_up (px_up (px_fl (px_fl (px_up (px_up (px_up px_IX 1 0 0) 1 1 0) 1 2 0) 12 12 0) 13 144 1000) 13 0 0) 13 13 0) 13 26 0), px_JX, px_PX))) rfl ?_
      refine px_E_seg 5 (σ' := (19, [(1, .int 3), (0, .ref 13)], [.int 12, .int 3, .ref 13], (px_shX, (px_up (px_up (px_up (px_fl (px_fl (px_up (px_up (px_up px_IX 1 0 0) 1 1 0) 1 2 0) 12 12 0) 13 144 1000) 13 0 0) 13 13 0) 13 26 0), px_JX, px_PX))) rfl ?_
      refine px_E_seg 2 (σ' := (21, [(1, .int 3), (0, .ref 13)], [.int 3, .int 36, .ref 13], (px_shX, (px_up (px_up (px_up (px_fl (px_fl (px_up (px_up (px_up px_IX 1 0 0) 1 1 0) 1 2 0) 12 12 0) 13 144 1000) 13 0 0) 13 13 0) 13 26 0), px_JX, px_PX))) rfl ?_
      refine px_E_seg 6 (σ' := (10, [(1, .int 4), (0, .ref 13)], [.int 4], (px_shX, (px_up (px_up (px_up (px_up (px_fl (px_fl (px_up (px_up (px_up px_IX 1 0 0) 1 1 0) 1 2 0) 12 12 0) 13 144 1000) 13 0 0) 13 13 0) 13 26 0) 13 39 0), px_JX, px_PX))) rfl ?_
      refine px_E_seg 5 (σ' := (19, [(1, .int 4), (0, .ref 13)], [.int 12, .int 4, .ref 13], (px_shX, (px_up (px_up (px_up (px_up (px_fl (px_fl (px_up (px_up (px_up px_IX 1 0 0) 1 1 0) 1 2 0) 12 12 0) 13 144 1000) 13 0 0) 13 13 0) 13 26 0) 13 39 0), px_JX, px_PX))) rfl ?_
      refine px_E_seg 2 (σ' := (21, [(1, .int 4), (0, .ref 13)], [.int 4, .int 48, .ref 13], (px_shX, (px_up (px_up (px_up (px_up (px_fl (px_fl (px_up (px_up (px_up px_IX 1 0 0) 1 1 0) 1 2 0) 12 12 0) 13 144 1000) 13 0 0) 13 13 0) 13 26 0) 13 39 0), px_JX, px_PX))) rfl ?_
      refine px_E_seg 6 (σ' := (10, [(1, .int 5), (0, .ref 13)], [.int 5], (px_shX, (px_up (px_up (px_up (px_up (px_up (px_fl (px_fl (px_up (px_up (px_up px_IX 1 0 0) 1 1 0) 1 2 0) 12 12 0) 13 144 1000) 13 0 0) 13 13 0) 13 26 0) 13 39 0) 13 52 0), px_JX, px_PX))) rfl ?_
      refine px_E_seg 5 (σ' := (19, [(1, .int 5), (0, .ref 13)], [.int 12, .int 5, .ref 13], (px_shX, (px_up (px_up (px_up (px_up (px_up (px_fl (px_fl (px_up (px_up (px_up px_IX 1 0 0) 1 1 0) 1 2 0) 12 12 0) 13 144 1000) 13 0 0) 13 13 0) 13 26 0) 13 39 0) 13 52 0), px_JX, px_PX))) rfl ?_
      refine px_E_seg 2 (σ' := (21, [(1, .int 5), (0, .ref 13)], [.int 5, .int 60, .ref 13], (px_shX, (px_up (px_up (px_up (px_up (px_up (px_fl (px_fl (px_up (px_up (px_up px_IX 1 0 0) 1 1 0) 1 2 0) 12 12 0) 13 144 1000) 13 0 0) 13 13 0) 13 26 0) 13 39 0) 13 52 0), px_JX, px_PX))) rfl ?_
      refine px_E_seg 6 (σ' := (10, [(1, .int 6), (0, .ref 13)], [.int 6], (px_shX, (px_up (px_up (px_up (px_up (px_up (px_up (px_fl (px_fl (px_up (px_up (px_up px_IX 1 0 0) 1 1 0) 1 2 0) 12 12 0) 13 144 1000) 13 0 0) 13 13 0) 13 26 0) 13 39 0) 13 52 0) 13 65 0), px_JX, px_PX))) rfl ?_
      refine px_E_seg 5 (σ' := (19, [(1, .int 6), (0, .ref 13)], [.int 12, .int 6, .ref 13], (px_shX, (px_up (px_up (px_up (px_up (px_up (px_up (px_fl (px_fl (px_up (px_up (px_up px_IX 1 0 0) 1 1 0) 1 2 0) 12 12 0) 13 144 1000) 13 0 0) 13 13 0) 13 26 0) 13 39 0) 13 52 0) 13 65 0), px_JX, px_PX))) rfl ?_
      refine px_E_seg 2 (σ' := (21, [(1, .int 6), (0, .ref 13)], [.int 6, .int 72, .ref 13], (px_shX, (px_up (px_up (px_up (px_up (px_up (px_up (px_fl (px_fl (px_up (px_up (px_up px_IX 1 0 0) 1 1 0) 1 2 0) 12 12 0) 13 144 1000) 13 0 0) 13 13 0) 13 26 0) 13 39 0) 13 52 0) 13 65 0), px_JX, px_PX))) rfl ?_
      refine px_E_seg 6 (σ' := (10, [(1, .int 7), (0, .ref 13)], [.int 7], (px_shX, (px_up (px_up (px_up (px_up (px_up (px_up (px_up (px_fl (px_fl (px_up (px_up (px_up px_IX 1 0 0) 1 1 0) 1 2 0) 12 12 0) 13 144 1000) 13 0 0) 13 13 0) 13 26 0) 13 39 0) 13 52 0) 13 65 0) 13 78 0), px_JX, px_PX))) rfl ?_
      refine px_E_seg 5 (σ' := (19, [(1, .int 7), (0, .ref 13)], [.int 12, .int 7, .ref 13], (px_shX, (px_up (px_up (px_up (px_up (px_up (px_up (px_up (px_fl (px_fl (px_up (px_up (px_up px_IX 1 0 0) 1 1 0) 1 2 0) 12 12 0) 13 144 1000) 13 0 0) 13 13 0) 13 26 0) 13 39 0) 13 52 0) 13 65 0) 13 78 0), px_JX, px_PX))) rfl ?_
      refine px_E_seg 2 (σ' := (21, [(1, .int 7), (0, .ref 13)], [.int 7, .int 84, .ref 13], (px_shX, (px_up (px_up (px_up (px_up (px_up (px_up (px_up (px_fl (px_fl (px_up (px_up (px_up px_IX 1 0 0) 1 1 0) 1 2 0) 12 12 0) 13 144 1000) 13 0 0) 13 13 0) 13 26 0) 13 39 0) 13 52 0) 13 65 0) 13 78 0), px_JX, px_PX))) rfl ?_
      refine px_E_seg 6 (σ' := (10, [(1, .int 8), (0, .ref 13)], [.int 8], (px_shX, (px_up (px_up (px_up (px_up (px_up (px_up (px_up (px_up (px_fl (px_fl (px_up (px_up (px_up px_IX 1 0 0) 1 1 0) 1 2 0) 12 12 0) 13 144 1000) 13 0 0) 13 13 0) 13 26 0) 13 39 0) 13 52 0) 13 65 0) 13 78 0) 13 91 0), px_JX, px_PX))) rfl ?_
      refine px_E_seg 5 (σ' := (19, [(1, .int 8), (0, .ref 13)], [.int 12, .int 8, .ref 13], (px_shX, (px_up (px_up (px_up (px_up (px_up (px_up (px_up (px_up (px_fl (px_fl (px_up (px_up (px_up px_IX 1 0 0) 1 1 0) 1 2 0) 12 12 0) 13 144 1000) 13 0 0) 13 13 0) 13 26 0) 13 39 0) 13 52 0) 13 65 0) 13 78 0) 13 91 0), px_JX, px_PX))) rfl ?_
      refine px_E_seg 2 (σ' := (21, [(1, .int 8), (0, .ref 13)], [.int 8, .int 96, .ref 13], (px_shX, (px_up (px_up (px_up (px_up (px_up (px_up (px_up (px_up (px_fl (px_fl (px_up (px_up (px_up px_IX 1 0 0) 1 1 0) 1 2 0) 12 12 0) 13 144 1000) 13 0 0) 13 13 0) 13 26 0) 13 39 0) 13 52 0) 13 65 0) 13 78 0) 13 91 0), px_JX, px_PX))) rfl ?_
      refine px_E_seg 6 (σ' := (10, [(1, .int 9), (0, .ref 13)], [.int 9], (px_shX, (px_up (px_up (px_up (px_up (px_up (px_up (px_up (px_up (px_up (px_fl (px_fl (px_up (px_up (px_up px_IX 1 0 0) 1 1 0) 1 2 0) 12 12 0) 13 144 1000) 13 0 0) 13 13 0) 13 26 0) 13 39 0) 13 52 0) 13 65 0) 13 78 0) 13 91 0) 13 104 0), px_JX, px_PX))) rfl ?_
      refine px_E_seg 5 (σ' := (19, [(1, .int 9), (0, .ref 13)], [.int 12, .int 9, .ref 13], (px_shX, (px_up (px_up (px_up (px_up (px_up (px_up (px_up (px_up (px_up (px_fl (px_fl (px_up (px_up (px_up px_IX 1 0 0) 1 1 0) 1 2 0) 12 12 0) 13 144 1000) 13 0 0) 13 13 0) 13 26 0) 13 39 0) 13 52 0) 13 65 0) 13 78 0) 13 91 0) 13 104 0), px_JX, px_PX))) rfl ?_
      refine px_E_seg 2 (σ' := (21, [(1, .int 9), (0, .ref 13)], [.int 9, .int 108, .ref 13], (px_shX, (px_up (px_up (px_up (px_up (px_up (px_up (px_up (px_up (px_up (px_fl (px_fl (px_up (px_up (px_up px_IX 1 0 0) 1 1 0) 1 2 0) 12 12 0) 13 144 1000) 13 0 0) 13 13 0) 13 26 0) 13 39 0) 13 52 0) 13 65 0) 13 78 0) 13 91 0) 13 104 0), px_JX, px_PX))) rfl ?_
      refine px_E_seg 6 (σ' := (10, [(1, .int 10), (0, .ref 13)], [.int 10], (px_shX, (px_up (px_up (px_up (px_up (px_up (px_up (px_up (px_up (px_up (px_up (px_fl (px_fl (px_up (px_up (px_up px_IX 1 0 0) 1 1 0) 1 2 0) 12 12 0) 13 144 1000) 13 0 0) 13 13 0) 13 26 0) 13 39 0) 13 52 0) 13 65 0) 13 78 0) 13 91 0) 13 104 0) 13 117 0), px_JX, px_PX))) rfl ?_
      refine px_E_seg 5 (σ' := (19, [(1, .int 10), (0, .ref 13)], [.int 12, .int 10, .ref 13], (px_shX, (px_up (px_up (px_up (px_up (px_up (px_up (px_up (px_up (px_up (px_up (px_fl (px_fl (px_up (px_up (px_up px_IX 1 0 0) 1 1 0) 1 2 0) 12 12 0) 13 144 1000) 13 0 0) 13 13 0) 13 26 0) 13 39 0) 13 52 0) 13 65 0) 13 78 0) 13 91 0) 13 104 0) 13 117 0), px_JX, px_PX))) rfl ?_
      refine px_E_seg 2 (σ' := (21, [(1, .int 10), (0, .ref 13)], [.int 10, .int 120, .ref 13], (px_shX, (px_up (px_up (px_up (px_up (px_up (px_up (px_up (px_up (px_up (px_up (px_fl (px_fl (px_up (px_up (px_up px_IX 1 0 0) 1 1 0) 1 2 0) 12 12 0) 13 144 1000) 13 0 0) 13 13 0) 13 26 0) 13 39 0) 13 52 0) 13 65 0) 13 78 0) 13 91 0) 13 104 0) 13 117 0), px_JX, px_PX))) rfl ?_
      refine px_E_seg 6 (σ' := (10, [(1, .int 11), (0, .ref 13)], [.int 11], (px_shX, (px_up (px_up (px_up (px_up (px_up (px_up (px_up (px_up (px_up (px_up (px_up (px_fl (px_fl (px_up (px_up (px_up px_IX 1 0 0) 1 1 0) 1 2 0) 12 12 0) 13 144 1000) 13 0 0) 13 13 0) 13 26 0) 13 39 0) 13 52 0) 13 65 0) 13 78 0) 13 91 0) 13 104 0) 13 117 0) 13 130 0), px_JX, px_PX))) rfl ?_
      refine px_E_seg 5 (σ' := (19, [(1, .int 11), (0, .ref 13)], [.int 12, .int 11, .ref 13], (px_shX, (px_up (px_up (px_up (px_up (px_up (px_up (px_up (px_up (px_up (px_up (px_up (px_fl (px_fl (px_up (px_up (px_up px_IX 1 0 0) 1 1 0) 1 2 0) 12 12 0) 13 144 1000) 13 0 0) 13 13 0) 13 26 0) 13 39 0) 13 52 0) 13 65 0) 13 78 0) 13 91 0) 13 104 0) 13 117 0) 13 130 0), px_JX, px_PX))) rfl ?_
      refine px_E_seg 2 (σ' := (21, [(1, .int 11), (0, .ref 13)], [.int 11, .int 132, .ref 13], (px_shX, (px_up (px_up (px_up (px_up (px_up (px_up (px_up (px_up (px_up (px_up (px_up (px_fl (px_fl (px_up (px_up (px_up px_IX 1 0 0) 1 1 0) 1 2 0) 12 12 0) 13 144 1000) 13 0 0) 13 13 0) 13 26 0) 13 39 0) 13 52 0) 13 65 0) 13 78 0) 13 91 0) 13 104 0) 13 117 0) 13 130 0), px_JX, px_PX))) rfl ?_
      refine px_E_seg 6 (σ' := (10, [(1, .int 12), (0, .ref 13)], [.int 12], (px_shX, (px_up (px_up (px_up (px_up (px_up (px_up (px_up (px_up (px_up (px_up (px_up (px_up (px_fl (px_fl (px_up (px_up (px_up px_IX 1 0 0) 1 1 0) 1 2 0) 12 12 0) 13 144 1000) 13 0 0) 13 13 0) 13 26 0) 13 39 0) 13 52 0) 13 65 0) 13 78 0) 13 91 0) 13 104 0) 13 117 0) 13 130 0) 13 143 0), px_JX, px_PX))) rfl ?_
      refine px_E_seg 2 (σ' := (30, [(1, .int 12), (0, .ref 13)], [], (px_shX, (px_up (px_up (px_up (px_up (px_up (px_up (px_up (px_up (px_up (px_up (px_up (px_up (px_fl (px_fl (px_up (px_up (px_up px_IX 1 0 0) 1 1 0) 1 2 0) 12 12 0) 13 144 1000) 13 0 0) 13 13 0) 13 26 0) 13 39 0) 13 52 0) 13 65 0) 13 78 0) 13 91 0) 13 104 0) 13 117 0) 13 130 0) 13 143 0), px_JX, px_PX))) rfl ?_
      exact px_E_ret rfl rfl) ?_
    refine px_E_seg 6 (σ' := (54, [(4, .int 0), (0, .ref 1), (1, .int 0), (2, .int 0), (3, .int 0)], [], (px_shX, (px_up (px_up (px_up (px_up (px_up (px_up (px_up (px_up (px_up (px_up (px_up (px_up (px_fl (px_fl (px_up (px_up (px_up px_IX 1 0 0) 1 1 0) 1 2 0) 12 12 0) 13 144 1000) 13 0 0) 13 13 0) 13 26 0) 13 39 0) 13 52 0) 13 65 0) 13 78 0) 13 91 0) 13 104 0) 13 117 0) 13 130 0) 13 143 0), px_JX, px_PX))) rfl ?_
    exact px_E_ret rfl rfl) ?_
  refine px_E_seg 6 (σ' := (40, [(0, .ref 0)], [.ref 0], (px_shX, (px_up (px_up (px_up (px_up (px_up (px_up (px_up (px_up (px_up (px_up (px_up (px_up (px_up (px_fl (px_fl (px_up (px_up (px_up px_IX 1 0 0) 1 1 0) 1 2 0) 12 12 0) 13 144 1000) 13 0 0) 13 13 0) 13 26 0) 13 39 0) 13 52 0) 13 65 0) 13 78 0) 13 91 0) 13 104 0) 13 117 0) 13 130 0) 13 143 0) 0 11 0), px_JX, px_PX))) rfl ?_
  refine px_E_seg 3 (σ' := (47, [(0, .ref 0)], [.int (-1), .ref 0], (px_shX, (px_up (px_up (px_up (px_up (px_up (px_up (px_up (px_up (px_up (px_up (px_up (px_up (px_up (px_fl (px_fl (px_up (px_up (px_up px_IX 1 0 0) 1 1 0) 1 2 0) 12 12 0) 13 144 1000) 13 0 0) 13 13 0) 13 26 0) 13 39 0) 13 52 0) 13 65 0) 13 78 0) 13 91 0) 13 104 0) 13 117 0) 13 130 0) 13 143 0) 0 11 0), px_JX, px_PX))) rfl ?_
  refine px_E_call (j := 61) (as := [.ref 0, .int (-1)]) (rest := []) (v := none) (h1 := (px_shX, (px_up (px_up (px_up (px_up (px_up (px_up (px_up (px_up (px_up (px_up (px_up (px_up (px_up (px_up (px_fl (px_fl (px_up (px_up (px_up px_IX 1 0 0) 1 1 0) 1 2 0) 12 12 0) 13 144 1000) 13 0 0) 13 13 0) 13 26 0) 13 39 0) 13 52 0) 13 65 0) 13 78 0) 13 91 0) 13 104 0) 13 117 0) 13 130 0) 13 143 0) 0 11 0) 0 12 (-1)), px_JX, (px_up px_PX 63 2 none))) rfl rfl rfl (by
    refine px_E_seg 6 (σ' := (10, [(0, .ref 0), (1, .int (-1))], [.ref 0, .ref 63], (px_shX, (px_up (px_up (px_up (px_up (px_up (px_up (px_up (px_up (px_up (px_up (px_up (px_up (px_up (px_up (px_fl (px_fl (px_up (px_up (px_up px_IX 1 0 0) 1 1 0) 1 2 0) 12 12 0) 13 144 1000) 13 0 0) 13 13 0) 13 26 0) 13 39 0) 13 52 0) 13 65 0) 13 78 0) 13 91 0) 13 104 0) 13 117 0) 13 130 0) 13 143 0) 0 11 0) 0 12 (-1)), px_JX, px_PX))) rfl ?_
    refine px_E_seg 1 (σ' := (11, [(0, .ref 0), (1, .int (-1))], [.int (-1), .ref 0, .ref 63], (px_shX, (px_up (px_up (px_up (px_up (px_up (px_up (px_up (px_up (px_up (px_up (px_up (px_up (px_up (px_up (px_fl (px_fl (px_up (px_up (px_up px_IX 1 0 0) 1 1 0) 1 2 0) 12 12 0) 13 144 1000) 13 0 0) 13 13 0) 13 26 0) 13 39 0) 13 52 0) 13 65 0) 13 78 0) 13 91 0) 13 104 0) 13 117 0) 13 130 0) 13 143 0) 0 11 0) 0 12 (-1)), px_JX, px_PX))) rfl ?_
    refine px_E_call (j := 62) (as := [.ref 0, .int (-1)]) (rest := [.ref 63]) (v := some (.null)) (h1 := (px_shX, (px_up (px_up (px_up (px_up (px_up (px_up (px_up (px_up (px_up (px_up (px_up (px_up (px_up (px_up (px_fl (px_fl (px_up (px_up (px_up px_IX 1 0 0) 1 1 0) 1 2 0) 12 12 0) 13 144 1000) 13 0 0) 13 13 0) 13 26 0) 13 39 0) 13 52 0) 13 65 0) 13 78 0) 13 91 0) 13 104 0) 13 117 0) 13 130 0) 13 143 0) 0 11 0) 0 12 (-1)), px_JX, px_PX)) rfl rfl rfl (by
      refine px_E_seg 5 (σ' := (7, [(0, .ref 0), (1, .int (-1))], [.int 1, .int 0, .int 0, .int (-1)], (px_shX, (px_up (px_up (px_up (px_up (px_up (px_up (px_up (px_up (px_up (px_up (px_up (px_up (px_up (px_up (px_fl (px_fl (px_up (px_up (px_up px_IX 1 0 0) 1 1 0) 1 2 0) 12 12 0) 13 144 1000) 13 0 0) 13 13 0) 13 26 0) 13 39 0) 13 52 0) 13 65 0) 13 78 0) 13 91 0) 13 104 0) 13 117 0) 13 130 0) 13 143 0) 0 11 0) 0 12 (-1)), px_JX, px_PX))) rfl ?_
      refine px_E_seg 1 (σ' := (8, [(0, .ref 0), (1, .int (-1))], [.int (-1), .int 0, .int (-1)], (px_shX, (px_up (px_up (px_up (px_up (px_up (px_up (px_up (px_up (px_up (px_up (px_up (px_up (px_up (px_up (px_fl (px_fl (px_up (px_up (px_up px_IX 1 0 0) 1 1 0) 1 2 0) 12 12 0) 13 144 1000) 13 0 0) 13 13 0) 13 26 0) 13 39 0) 13 52 0) 13 65 0) 13 78 0) 13 91 0) 13 104 0) 13 117 0) 13 130 0) 13 143 0) 0 11 0) 0 12 (-1)), px_JX, px_PX))) rfl ?_
      refine px_E_call (j := 15) (as := [.int (-1), .int 0, .int (-1)]) (rest := []) (v := some (.int 0)) (h1 := (px_shX, (px_up (px_up (px_up (px_up (px_up (px_up (px_up (px_up (px_up (px_up (px_up (px_up (px_up (px_up (px_fl (px_fl (px_up (px_up (px_up px_IX 1 0 0) 1 1 0) 1 2 0) 12 12 0) 13 144 1000) 13 0 0) 13 13 0) 13 26 0) 13 39 0) 13 52 0) 13 65 0) 13 78 0) 13 91 0) 13 104 0) 13 117 0) 13 130 0) 13 143 0) 0 11 0) 0 12 (-1)), px_JX, px_PX)) rfl rfl rfl (by
        refine px_E_seg 4 (σ' := (15, [(0, .int (-1)), (1, .int 0), (2, .int (-1))], [.int 0], (px_shX, (px_up (px_up (px_up (px_up (px_up (px_up (px_up (px_up (px_up (px_up (px_up (px_up (px_up (px_up (px_fl (px_fl (px_up (px_up (px_up px_IX 1 0 0) 1 1 0) 1 2 0) 12 12 0) 13 144 1000) 13 0 0) 13 13 0) 13 26 0) 13 39 0) 13 52 0) 13 65 0) 13 78 0) 13 91 0) 13 104 0) 13 117 0) 13 130 0) 13 143 0) 0 11 0) 0 12 (-1)), px_JX, px_PX))) rfl ?_
        exact px_E_ret rfl rfl) ?_
      refine px_E_seg 2 (σ' := (29, [(0, .ref 0), (1, .int (-1))], [.null], (px_shX, (px_up (px_up (px_up (px_up (px_up (px_up (px_up (px_up (px_up (px_up (px_up (px_up (px_up (px_up (px_fl (px_fl (px_up (px_up (px_up px_IX 1 0 0) 1 1 0) 1 2 0) 12 12 0) 13 144 1000) 13 0 0) 13 13 0) 13 26 0) 13 39 0) 13 52 0) 13 65 0) 13 78 0) 13 91 0) 13 104 0) 13 117 0) 13 130 0) 13 143 0) 0 11 0) 0 12 (-1)), px_JX, px_PX))) rfl ?_
      exact px_E_ret rfl rfl) ?_
    refine px_E_seg 1 (σ' := (17, [(0, .ref 0), (1, .int (-1))], [], (px_shX, (px_up (px_up (px_up (px_up (px_up (px_up (px_up (px_up (px_up (px_up (px_up (px_up (px_up (px_up (px_fl (px_fl (px_up (px_up (px_up px_IX 1 0 0) 1 1 0) 1 2 0) 12 12 0) 13 144 1000) 13 0 0) 13 13 0) 13 26 0) 13 39 0) 13 52 0) 13 65 0) 13 78 0) 13 91 0) 13 104 0) 13 117 0) 13 130 0) 13 143 0) 0 11 0) 0 12 (-1)), px_JX, (px_up px_PX 63 2 none)))) rfl ?_
    exact px_E_ret rfl rfl) ?_
  refine px_E_seg 5 (σ' := (61, [(0, .ref 0)], [.ref 79, .ref 15], (px_shX, (px_up (px_up (px_up (px_up (px_up (px_up (px_up (px_up (px_up (px_up (px_up (px_up (px_up (px_up (px_fl (px_fl (px_up (px_up (px_up px_IX 1 0 0) 1 1 0) 1 2 0) 12 12 0) 13 144 1000) 13 0 0) 13 13 0) 13 26 0) 13 39 0) 13 52 0) 13 65 0) 13 78 0) 13 91 0) 13 104 0) 13 117 0) 13 130 0) 13 143 0) 0 11 0) 0 12 (-1)), px_JX, (px_up px_PX 63 2 none)))) rfl ?_
  refine px_E_call (j := 174) (as := [.ref 15, .ref 79]) (rest := []) (v := none) (h1 := (px_shX, (px_up (px_up (px_up (px_cy (px_cy (px_cy (px_cy (px_cy (px_cy (px_up (px_up (px_up (px_up (px_up (px_up (px_up (px_up (px_up (px_up (px_up (px_up (px_up (px_up (px_fl (px_fl (px_up (px_up (px_up px_IX 1 0 0) 1 1 0) 1 2 0) 12 12 0) 13 144 1000) 13 0 0) 13 13 0) 13 26 0) 13 39 0) 13 52 0) 13 65 0) 13 78 0) 13 91 0) 13 104 0) 13 117 0) 13 130 0) 13 143 0) 0 11 0) 0 12 (-1)) 80 16 0 0 4) 81 17 0 0 4) 82 18 0 0 4) 83 19 0 0 6) 84 20 0 0 6) 85 21 0 0 12) 15 6 0) 15 7 0) 15 8 41), px_JX, (px_up px_PX 63 2 none))) rfl rfl rfl (by
    refine px_E_seg 6 (σ' := (10, [(0, .ref 15), (1, .ref 79)], [.int 0, .ref 16, .int 0, .ref 80], (px_shX, (px_up (px_up (px_up (px_up (px_up (px_up (px_up (px_up (px_up (px_up (px_up (px_up (px_up (px_up (px_fl (px_fl (px_up (px_up (px_up px_IX 1 0 0) 1 1 0) 1 2 0) 12 12 0) 13 144 1000) 13 0 0) 13 13 0) 13 26 0) 13 39 0) 13 52 0) 13 65 0) 13 78 0) 13 91 0) 13 104 0) 13 117 0) 13 130 0) 13 143 0) 0 11 0) 0 12 (-1)), px_JX, (px_up px_PX 63 2 none)))) rfl ?_
    refine px_E_seg 6 (σ' := (20, [(0, .ref 15), (1, .ref 79)], [.ref 15, .int 0, .ref 81], (px_shX, (px_cy (px_up (px_up (px_up (px_up (px_up (px_up (px_up (px_up (px_up (px_up (px_up (px_up (px_up (px_up (px_fl (px_fl (px_up (px_up (px_up px_IX 1 0 0) 1 1 0) 1 2 0) 12 12 0) 13 144 1000) 13 0 0) 13 13 0) 13 26 0) 13 39 0) 13 52 0) 13 65 0) 13 78 0) 13 91 0) 13 104 0) 13 117 0) 13 130 0) 13 143 0) 0 11 0) 0 12 (-1)) 80 16 0 0 4), px_JX, (px_up px_PX 63 2 none)))) rfl ?_
    refine px_E_seg 6 (σ' := (32, [(0, .ref 15), (1, .ref 79)], [.ref 82], (px_shX, (px_cy (px_cy (px_up (px_up (px_up (px_up (px_up (px_up (px_up (px_up (px_up (px_up (px_up (px_up (px_up (px_up (px_fl (px_fl (px_up (px_up (px_up px_IX 1 0 0) 1 1 0) 1 2 0) 12 12 0) 13 144 1000) 13 0 0) 13 13 0) 13 26 0) 13 39 0) 13 52 0) 13 65 0) 13 78 0) 13 91 0) 13 104 0) 13 117 0) 13 130 0) 13 143 0) 0 11 0) 0 12 (-1)) 80 16 0 0 4) 81 17 0 0 4), px_JX, (px_up px_PX 63 2 none)))) rfl ?_
    refine px_E_seg 6 (σ' := (42, [(0, .ref 15), (1, .ref 79)], [], (px_shX, (px_cy (px_cy (px_cy (px_up (px_up (px_up (px_up (px_up (px_up (px_up (px_up (px_up (px_up (px_up (px_up (px_up (px_up (px_fl (px_fl (px_up (px_up (px_up px_IX 1 0 0) 1 1 0) 1 2 0) 12 12 0) 13 144 1000) 13 0 0) 13 13 0) 13 26 0) 13 39 0) 13 52 0) 13 65 0) 13 78 0) 13 91 0) 13 104 0) 13 117 0) 13 130 0) 13 143 0) 0 11 0) 0 12 (-1)) 80 16 0 0 4) 81 17 0 0 4) 82 18 0 0 4), px_JX, (px_up px_PX 63 2 none)))) rfl ?_
    refine px_E_seg 6 (σ' := (52, [(0, .ref 15), (1, .ref 79)], [.int 0, .ref 19, .int 0, .ref 83], (px_shX, (px_cy (px_cy (px_cy (px_up (px_up (px_up (px_up (px_up (px_up (px_up (px_up (px_up (px_up (px_up (px_up (px_up (px_up (px_fl (px_fl (px_up (px_up (px_up px_IX 1 0 0) 1 1 0) 1 2 0) 12 12 0) 13 144 1000) 13 0 0) 13 13 0) 13 26 0) 13 39 0) 13 52 0) 13 65 0) 13 78 0) 13 91 0) 13 104 0) 13 117 0) 13 130 0) 13 143 0) 0 11 0) 0 12 (-1)) 80 16 0 0 4) 81 17 0 0 4) 82 18 0 0 4), px_JX, (px_up px_PX 63 2 none)))) rfl ?_
    refine px_E_seg 6 (σ' := (63, [(0, .ref 15), (1, .ref 79)], [.ref 15, .int 0, .ref 84], (px_shX, (px_cy (px_cy (px_cy (px_cy (px_up (px_up (px_up (px_up (px_up (px_up (px_up (px_up (px_up (px_up (px_up (px_up (px_up (px_up (px_fl (px_fl (px_up (px_up (px_up px_IX 1 0 0) 1 1 0) 1 2 0) 12 12 0) 13 144 1000) 13 0 0) 13 13 0) 13 26 0) 13 39 0) 13 52 0) 13 65 0) 13 78 0) 13 91 0) 13 104 0) 13 117 0) 13 130 0) 13 143 0) 0 11 0) 0 12 (-1)) 80 16 0 0 4) 81 17 0 0 4) 82 18 0 0 4) 83 19 0 0 6), px_JX, (px_up px_PX 63 2 none)))) rfl ?_
    refine px_E_seg 6 (σ' := (76, [(0, .ref 15), (1, .ref 79)], [.ref 85], (px_shX, (px_cy (px_cy (px_cy (px_cy (px_cy (px_up (px_up (px_up (px_up (px_up (px_up (px_up (px_up (px_up (px_up (px_up (px_up (px_up (px_up (px_fl (px_fl (px_up (px_up (px_up px_IX 1 0 0) 1 1 0) 1 2 0) 12 12 0) 13 144 1000) 13 0 0) 13 13 0) 13 26 0) 13 39 0) 13 52 0) 13 65 0) 13 78 0) 13 91 0) 13 104 0) 13 117 0) 13 130 0) 13 143 0) 0 11 0) 0 12 (-1)) 80 16 0 0 4) 81 17 0 0 4) 82 18 0 0 4) 83 19 0 0 6) 84 20 0 0 6), px_JX, (px_up px_PX 63 2 none)))) rfl ?_
    refine px_E_seg 6 (σ' := (87, [(0, .ref 15), (1, .ref 79)], [], (px_shX, (px_cy (px_cy (px_cy (px_cy (px_cy (px_cy (px_up (px_up (px_up (px_up (px_up (px_up (px_up (px_up (px_up (px_up (px_up (px_up (px_up (px_up (px_fl (px_fl (px_up (px_up (px_up px_IX 1 0 0) 1 1 0) 1 2 0) 12 12 0) 13 144 1000) 13 0 0) 13 13 0) 13 26 0) 13 39 0) 13 52 0) 13 65 0) 13 78 0) 13 91 0) 13 104 0) 13 117 0) 13 130 0) 13 143 0) 0 11 0) 0 12 (-1)) 80 16 0 0 4) 81 17 0 0 4) 82 18 0 0 4) 83 19 0 0 6) 84 20 0 0 6) 85 21 0 0 12), px_JX, (px_up px_PX 63 2 none)))) rfl ?_
    refine px_E_seg 6 (σ' := (97, [(0, .ref 15), (1, .ref 79)], [.ref 79, .ref 15], (px_shX, (px_up (px_cy (px_cy (px_cy (px_cy (px_cy (px_cy (px_up (px_up (px_up (px_up (px_up (px_up (px_up (px_up (px_up (px_up (px_up (px_up (px_up (px_up (px_fl (px_fl (px_up (px_up (px_up px_IX 1 0 0) 1 1 0) 1 2 0) 12 12 0) 13 144 1000) 13 0 0) 13 13 0) 13 26 0) 13 39 0) 13 52 0) 13 65 0) 13 78 0) 13 91 0) 13 104 0) 13 117 0) 13 130 0) 13 143 0) 0 11 0) 0 12 (-1)) 80 16 0 0 4) 81 17 0 0 4) 82 18 0 0 4) 83 19 0 0 6) 84 20 0 0 6) 85 21 0 0 12) 15 6 0), px_JX, (px_up px_PX 63 2 none)))) rfl ?_
    refine px_E_seg 6 (σ' := (111, [(0, .ref 15), (1, .ref 79)], [], (px_shX, (px_up (px_up (px_up (px_cy (px_cy (px_cy (px_cy (px_cy (px_cy (px_up (px_up (px_up (px_up (px_up (px_up (px_up (px_up (px_up (px_up (px_up (px_up (px_up (px_up (px_fl (px_fl (px_up (px_up (px_up px_IX 1 0 0) 1 1 0) 1 2 0) 12 12 0) 13 144 1000) 13 0 0) 13 13 0) 13 26 0) 13 39 0) 13 52 0) 13 65 0) 13 78 0) 13 91 0) 13 104 0) 13 117 0) 13 130 0) 13 143 0) 0 11 0) 0 12 (-1)) 80 16 0 0 4) 81 17 0 0 4) 82 18 0 0 4) 83 19 0 0 6) 84 20 0 0 6) 85 21 0 0 12) 15 6 0) 15 7 0) 15 8 41), px_JX, (px_up px_PX 63 2 none)))) rfl ?_
    exact px_E_ret rfl rfl) ?_
  refine px_E_seg 5 (σ' := (75, [(0, .ref 0)], [.ref 86, .ref 22], (px_shX, (px_up (px_up (px_up (px_cy (px_cy (px_cy (px_cy (px_cy (px_cy (px_up (px_up (px_up (px_up (px_up (px_up (px_up (px_up (px_up (px_up (px_up (px_up (px_up (px_up (px_fl (px_fl (px_up (px_up (px_up px_IX 1 0 0) 1 1 0) 1 2 0) 12 12 0) 13 144 1000) 13 0 0) 13 13 0) 13 26 0) 13 39 0) 13 52 0) 13 65 0) 13 78 0) 13 91 0) 13 104 0) 13 117 0) 13 130 0) 13 143 0) 0 11 0) 0 12 (-1)) 80 16 0 0 4) 81 17 0 0 4) 82 18 0 0 4) 83 19 0 0 6) 84 20 0 0 6) 85 21 0 0 12) 15 6 0) 15 7 0) 15 8 41), px_JX, (px_up px_PX 63 2 none)))) rfl ?_
  refine px_E_call (j := 175) (as := [.ref 22, .ref 86]) (rest := []) (v := none) (h1 := (px_shX, (px_up (px_up (px_cy (px_cy (px_up (px_up (px_up (px_cy (px_cy (px_cy (px_cy (px_cy (px_cy (px_up (px_up (px_up (px_up (px_up (px_up (px_up (px_up (px_up (px_up (px_up (px_up (px_up (px_up (px_fl (px_fl (px_up (px_up (px_up px_IX 1 0 0) 1 1 0) 1 2 0) 12 12 0) 13 144 1000) 13 0 0) 13 13 0) 13 26 0) 13 39 0) 13 52 0) 13 65 0) 13 78 0) 13 91 0) 13 104 0) 13 117 0) 13 130 0) 13 143 0) 0 11 0) 0 12 (-1)) 80 16 0 0 4) 81 17 0 0 4) 82 18 0 0 4) 83 19 0 0 6) 84 20 0 0 6) 85 21 0 0 12) 15 6 0) 15 7 0) 15 8 41) 87 23 0 0 1170) 88 24 0 0 30) 22 2 0) 22 3 0), px_JX, (px_up px_PX 63 2 none))) rfl rfl rfl (by
    refine px_E_seg 6 (σ' := (10, [(0, .ref 22), (1, .ref 86)], [.int 0, .ref 23, .int 0, .ref 87], (px_shX, (px_up (px_up (px_up (px_cy (px_cy (px_cy (px_cy (px_cy (px_cy (px_up (px_up (px_up (px_up (px_up (px_up (px_up (px_up (px_up (px_up (px_up (px_up (px_up (px_up (px_fl (px_fl (px_up (px_up (px_up px_IX 1 0 0) 1 1 0) 1 2 0) 12 12 0) 13 144 1000) 13 0 0) 13 13 0) 13 26 0) 13 39 0) 13 52 0) 13 65 0) 13 78 0) 13 91 0) 13 104 0) 13 117 0) 13 130 0) 13 143 0) 0 11 0) 0 12 (-1)) 80 16 0 0 4) 81 17 0 0 4) 82 18 0 0 4) 83 19 0 0 6) 84 20 0 0 6) 85 21 0 0 12) 15 6 0) 15 7 0) 15 8 41), px_JX, (px_up px_PX 63 2 none)))) rfl ?_
    refine px_E_seg 6 (σ' := (22, [(0, .ref 22), (1, .ref 86)], [.ref 88], (px_shX, (px_cy (px_up (px_up (px_up (px_cy (px_cy (px_cy (px_cy (px_cy (px_cy (px_up (px_up (px_up (px_up (px_up (px_up (px_up (px_up (px_up (px_up (px_up (px_up (px_up (px_up (px_fl (px_fl (px_up (px_up (px_up px_IX 1 0 0) 1 1 0) 1 2 0) 12 12 0) 13 144 1000) 13 0 0) 13 13 0) 13 26 0) 13 39 0) 13 52 0) 13 65 0) 13 78 0) 13 91 0) 13 104 0) 13 117 0) 13 130 0) 13 143 0) 0 11 0) 0 12 (-1)) 80 16 0 0 4) 81 17 0 0 4) 82 18 0 0 4) 83 19 0 0 6) 84 20 0 0 6) 85 21 0 0 12) 15 6 0) 15 7 0) 15 8 41) 87 23 0 0 1170), px_JX, (px_up px_PX 63 2 none)))) rfl ?_
    refine px_E_seg 6 (σ' := (33, [(0, .ref 22), (1, .ref 86)], [], (px_shX, (px_cy (px_cy (px_up (px_up (px_up (px_cy (px_cy (px_cy (px_cy (px_cy (px_cy (px_up (px_up (px_up (px_up (px_up (px_up (px_up (px_up (px_up (px_up (px_up (px_up (px_up (px_up (px_fl (px_fl (px_up (px_up (px_up px_IX 1 0 0) 1 1 0) 1 2 0) 12 12 0) 13 144 1000) 13 0 0) 13 13 0) 13 26 0) 13 39 0) 13 52 0) 13 65 0) 13 78 0) 13 91 0) 13 104 0) 13 117 0) 13 130 0) 13 143 0) 0 11 0) 0 12 (-1)) 80 16 0 0 4) 81 17 0 0 4) 82 18 0 0 4) 83 19 0 0 6) 84 20 0 0 6) 85 21 0 0 12) 15 6 0) 15 7 0) 15 8 41) 87 23 0 0 1170) 88 24 0 0 30), px_JX, (px_up px_PX 63 2 none)))) rfl ?_
    refine px_E_seg 6 (σ' := (43, [(0, .ref 22), (1, .ref 86)], [.ref 86, .ref 22], (px_shX, (px_up (px_cy (px_cy (px_up (px_up (px_up (px_cy (px_cy (px_cy (px_cy (px_cy (px_cy (px_up (px_up (px_up (px_up (px_up (px_up (px_up (px_up (px_up (px_up (px_up (px_up (px_up (px_up (px_fl (px_fl (px_up (px_up (px_up px_IX 1 0 0) 1 1 0) 1 2 0) 12 12 0) 13 144 1000) 13 0 0) 13 13 0) 13 26 0) 13 39 0) 13 52 0) 13 65 0) 13 78 0) 13 91 0) 13 104 0) 13 117 0) 13 130 0) 13 143 0) 0 11 0) 0 12 (-1)) 80 16 0 0 4) 81 17 0 0 4) 82 18 0 0 4) 83 19 0 0 6) 84 20 0 0 6) 85 21 0 0 12) 15 6 0) 15 7 0) 15 8 41) 87 23 0 0 1170) 88 24 0 0 30) 22 2 0), px_JX, (px_up px_PX 63 2 none)))) rfl ?_
    refine px_E_seg 2 (σ' := (49, [(0, .ref 22), (1, .ref 86)], [], (px_shX, (px_up (px_up (px_cy (px_cy (px_up (px_up (px_up (px_cy (px_cy (px_cy (px_cy (px_cy (px_cy (px_up (px_up (px_up (px_up (px_up (px_up (px_up (px_up (px_up (px_up (px_up (px_up (px_up (px_up (px_fl (px_fl (px_up (px_up (px_up px_IX 1 0 0) 1 1 0) 1 2 0) 12 12 0) 13 144 1000) 13 0 0) 13 13 0) 13 26 0) 13 39 0) 13 52 0) 13 65 0) 13 78 0) 13 91 0) 13 104 0) 13 117 0) 13 130 0) 13 143 0) 0 11 0) 0 12 (-1)) 80 16 0 0 4) 81 17 0 0 4) 82 18 0 0 4) 83 19 0 0 6) 84 20 0 0 6) 85 21 0 0 12) 15 6 0) 15 7 0) 15 8 41) 87 23 0 0 1170) 88 24 0 0 30) 22 2 0) 22 3 0), px_JX, (px_up px_PX 63 2 none)))) rfl ?_
    exact px_E_ret rfl rfl) ?_
  refine px_E_seg 5 (σ' := (89, [(0, .ref 0)], [.ref 89, .ref 25], (px_shX, (px_up (px_up (px_cy (px_cy (px_up (px_up (px_up (px_cy (px_cy (px_cy (px_cy (px_cy (px_cy (px_up (px_up (px_up (px_up (px_up (px_up (px_up (px_up (px_up (px_up (px_up (px_up (px_up (px_up (px_fl (px_fl (px_up (px_up (px_up px_IX 1 0 0) 1 1 0) 1 2 0) 12 12 0) 13 144 1000) 13 0 0) 13 13 0) 13 26 0) 13 39 0) 13 52 0) 13 65 0) 13 78 0) 13 91 0) 13 104 0) 13 117 0) 13 130 0) 13 143 0) 0 11 0) 0 12 (-1)) 80 16 0 0 4) 81 17 0 0 4) 82 18 0 0 4) 83 19 0 0 6) 84 20 0 0 6) 85 21 0 0 12) 15 6 0) 15 7 0) 15 8 41) 87 23 0 0 1170) 88 24 0 0 30) 22 2 0) 22 3 0), px_JX, (px_up px_PX 63 2 none)))) rfl ?_
  refine px_E_call (j := 176) (as := [.ref 25, .ref 89]) (rest := []) (v := none) (h1 := (px_shX, (px_up (px_cy (px_cy (px_cy (px_cy (px_cy (px_up (px_up (px_cy (px_cy (px_up (px_up (px_up (px_cy (px_cy (px_cy (px_cy (px_cy (px_cy (px_up (px_up (px_up (px_up (px_up (px_up (px_up (px_up (px_up (px_up (px_up (px_up (px_up (px_up (px_fl (px_fl (px_up (px_up (px_up px_IX 1 0 0) 1 1 0) 1 2 0) 12 12 0) 13 144 1000) 13 0 0) 13 13 0) 13 26 0) 13 39 0) 13 52 0) 13 65 0) 13 78 0) 13 91 0) 13 104 0) 13 117 0) 13 130 0) 13 143 0) 0 11 0) 0 12 (-1)) 80 16 0 0 4) 81 17 0 0 4) 82 18 0 0 4) 83 19 0 0 6) 84 20 0 0 6) 85 21 0 0 12) 15 6 0) 15 7 0) 15 8 41) 87 23 0 0 1170) 88 24 0 0 30) 22 2 0) 22 3 0) 90 26 0 0 6) 91 27 0 0 6) 92 28 0 0 16) 93 29 0 0 4) 94 30 0 0 4) 25 2 0), px_JX, (px_up px_PX 63 2 none))) rfl rfl rfl (by
    refine px_E_seg 6 (σ' := (10, [(0, .ref 25), (1, .ref 89)], [.int 0, .ref 26, .int 0, .ref 90], (px_shX, (px_up (px_up (px_cy (px_cy (px_up (px_up (px_up (px_cy (px_cy (px_cy (px_cy (px_cy (px_cy (px_up (px_up (px_up (px_up (px_up (px_up (px_up (px_up (px_up (px_up (px_up (px_up (px_up (px_up (px_fl (px_fl (px_up (px_up (px_up px_IX 1 0 0) 1 1 0) 1 2 0) 12 12 0) 13 144 1000) 13 0 0) 13 13 0) 13 26 0) 13 39 0) 13 52 0) 13 65 0) 13 78 0) 13 91 0) 13 104 0) 13 117 0) 13 130 0) 13 143 0) 0 11 0) 0 12 (-1)) 80 16 0 0 4) 81 17 0 0 4) 82 18 0 0 4) 83 19 0 0 6) 84 20 0 0 6) 85 21 0 0 12) 15 6 0) 15 7 0) 15 8 41) 87 23 0 0 1170) 88 24 0 0 30) 22 2 0) 22 3 0), px_JX, (px_up px_PX 63 2 none)))) rfl ?_
    refine px_E_seg 6 (σ' := (21, [(0, .ref 25), (1, .ref 89)], [.ref 25, .int 0, .ref 91], (px_shX, (px_cy (px_up (px_up (px_cy (px_cy (px_up (px_up (px_up (px_cy (px_cy (px_cy (px_cy (px_cy (px_cy (px_up (px_up (px_up (px_up (px_up (px_up (px_up (px_up (px_up (px_up (px_up (px_up (px_up (px_up (px_fl (px_fl (px_up (px_up (px_up px_IX 1 0 0) 1 1 0) 1 2 0) 12 12 0) 13 144 1000) 13 0 0) 13 13 0) 13 26 0) 13 39 0) 13 52 0) 13 65 0) 13 78 0) 13 91 0) 13 104 0) 13 117 0) 13 130 0) 13 143 0) 0 11 0) 0 12 (-1)) 80 16 0 0 4) 81 17 0 0 4) 82 18 0 0 4) 83 19 0 0 6) 84 20 0 0 6) 85 21 0 0 12) 15 6 0) 15 7 0) 15 8 41) 87 23 0 0 1170) 88 24 0 0 30) 22 2 0) 22 3 0) 90 26 0 0 6), px_JX, (px_up px_PX 63 2 none)))) rfl ?_
    refine px_E_seg 6 (σ' := (34, [(0, .ref 25), (1, .ref 89)], [.ref 92], (px_shX, (px_cy (px_cy (px_up (px_up (px_cy (px_cy (px_up (px_up (px_up (px_cy (px_cy (px_cy (px_cy (px_cy (px_cy (px_up (px_up (px_up (px_up (px_up (px_up (px_up (px_up (px_up (px_up (px_up (px_up (px_up (px_up (px_fl (px_fl (px_up (px_up (px_up px_IX 1 0 0) 1 1 0) 1 2 0) 12 12 0) 13 144 1000) 13 0 0) 13 13 0) 13 26 0) 13 39 0) 13 52 0) 13 65 0) 13 78 0) 13 91 0) 13 104 0) 13 117 0) 13 130 0) 13 143 0) 0 11 0) 0 12 (-1)) 80 16 0 0 4) 81 17 0 0 4) 82 18 0 0 4) 83 19 0 0 6) 84 20 0 0 6) 85 21 0 0 12) 15 6 0) 15 7 0) 15 8 41) 87 23 0 0 1170) 88 24 0 0 30) 22 2 0) 22 3 0) 90 26 0 0 6) 91 27 0 0 6), px_JX, (px_up px_PX 63 2 none)))) rfl ?_
    refine px_E_seg 6 (σ' := (45, [(0, .ref 25), (1, .ref 89)], [], (px_shX, (px_cy (px_cy (px_cy (px_up (px_up (px_cy (px_cy (px_up (px_up (px_up (px_cy (px_cy (px_cy (px_cy (px_cy (px_cy (px_up (px_up (px_up (px_up (px_up (px_up (px_up (px_up (px_up (px_up (px_up (px_up (px_up (px_up (px_fl (px_fl (px_up (px_up (px_up px_IX 1 0 0) 1 1 0) 1 2 0) 12 12 0) 13 144 1000) 13 0 0) 13 13 0) 13 26 0) 13 39 0) 13 52 0) 13 65 0) 13 78 0) 13 91 0) 13 104 0) 13 117 0) 13 130 0) 13 143 0) 0 11 0) 0 12 (-1)) 80 16 0 0 4) 81 17 0 0 4) 82 18 0 0 4) 83 19 0 0 6) 84 20 0 0 6) 85 21 0 0 12) 15 6 0) 15 7 0) 15 8 41) 87 23 0 0 1170) 88 24 0 0 30) 22 2 0) 22 3 0) 90 26 0 0 6) 91 27 0 0 6) 92 28 0 0 16), px_JX, (px_up px_PX 63 2 none)))) rfl ?_
    refine px_E_seg 6 (σ' := (55, [(0, .ref 25), (1, .ref 89)], [.int 0, .ref 29, .int 0, .ref 93], (px_shX, (px_cy (px_cy (px_cy (px_up (px_up (px_cy (px_cy (px_up (px_up (px_up (px_cy (px_cy (px_cy (px_cy (px_cy (px_cy (px_up (px_up (px_up (px_up (px_up (px_up (px_up (px_up (px_up (px_up (px_up (px_up (px_up (px_up (px_fl (px_fl (px_up (px_up (px_up px_IX 1 0 0) 1 1 0) 1 2 0) 12 12 0) 13 144 1000) 13 0 0) 13 13 0) 13 26 0) 13 39 0) 13 52 0) 13 65 0) 13 78 0) 13 91 0) 13 104 0) 13 117 0) 13 130 0) 13 143 0) 0 11 0) 0 12 (-1)) 80 16 0 0 4) 81 17 0 0 4) 82 18 0 0 4) 83 19 0 0 6) 84 20 0 0 6) 85 21 0 0 12) 15 6 0) 15 7 0) 15 8 41) 87 23 0 0 1170) 88 24 0 0 30) 22 2 0) 22 3 0) 90 26 0 0 6) 91 27 0 0 6) 92 28 0 0 16), px_JX, (px_up px_PX 63 2 none)))) rfl ?_
    refine px_E_seg 6 (σ' := (65, [(0, .ref 25), (1, .ref 89)], [.ref 25, .int 0, .ref 94], (px_shX, (px_cy (px_cy (px_cy (px_cy (px_up (px_up (px_cy (px_cy (px_up (px_up (px_up (px_cy (px_cy (px_cy (px_cy (px_cy (px_cy (px_up (px_up (px_up (px_up (px_up (px_up (px_up (px_up (px_up (px_up (px_up (px_up (px_up (px_up (px_fl (px_fl (px_up (px_up (px_up px_IX 1 0 0) 1 1 0) 1 2 0) 12 12 0) 13 144 1000) 13 0 0) 13 13 0) 13 26 0) 13 39 0) 13 52 0) 13 65 0) 13 78 0) 13 91 0) 13 104 0) 13 117 0) 13 130 0) 13 143 0) 0 11 0) 0 12 (-1)) 80 16 0 0 4) 81 17 0 0 4) 82 18 0 0 4) 83 19 0 0 6) 84 20 0 0 6) 85 21 0 0 12) 15 6 0) 15 7 0) 15 8 41) 87 23 0 0 1170) 88 24 0 0 30) 22 2 0) 22 3 0) 90 26 0 0 6) 91 27 0 0 6) 92 28 0 0 16) 93 29 0 0 4), px_JX, (px_up px_PX 63 2 none)))) rfl ?_
    refine px_E_seg 6 (σ' := (75, [(0, .ref 25), (1, .ref 89)], [.ref 89, .ref 25], (px_shX, (px_cy (px_cy (px_cy (px_cy (px_cy (px_up (px_up (px_cy (px_cy (px_up (px_up (px_up (px_cy (px_cy (px_cy (px_cy (px_cy (px_cy (px_up (px_up (px_up (px_up (px_up (px_up (px_up (px_up (px_up (px_up (px_up (px_up (px_up (px_up (px_fl (px_fl (px_up (px_up (px_up px_IX 1 0 0) 1 1 0) 1 2 0) 12 12 0) 13 144 1000) 13 0 0) 13 13 0) 13 26 0) 13 39 0) 13 52 0) 13 65 0) 13 78 0) 13 91 0) 13 104 0) 13 117 0) 13 130 0) 13 143 0) 0 11 0) 0 12 (-1)) 80 16 0 0 4) 81 17 0 0 4) 82 18 0 0 4) 83 19 0 0 6) 84 20 0 0 6) 85 21 0 0 12) 15 6 0) 15 7 0) 15 8 41) 87 23 0 0 1170) 88 24 0 0 30) 22 2 0) 22 3 0) 90 26 0 0 6) 91 27 0 0 6) 92 28 0 0 16) 93 29 0 0 4) 94 30 0 0 4), px_JX, (px_up px_PX 63 2 none)))) rfl ?_
    refine px_E_seg 2 (σ' := (81, [(0, .ref 25), (1, .ref 89)], [], (px_shX, (px_up (px_cy (px_cy (px_cy (px_cy (px_cy (px_up (px_up (px_cy (px_cy (px_up (px_up (px_up (px_cy (px_cy (px_cy (px_cy (px_cy (px_cy (px_up (px_up (px_up (px_up (px_up (px_up (px_up (px_up (px_up (px_up (px_up (px_up (px_up (px_up (px_fl (px_fl (px_up (px_up (px_up px_IX 1 0 0) 1 1 0) 1 2 0) 12 12 0) 13 144 1000) 13 0 0) 13 13 0) 13 26 0) 13 39 0) 13 52 0) 13 65 0) 13 78 0) 13 91 0) 13 104 0) 13 117 0) 13 130 0) 13 143 0) 0 11 0) 0 12 (-1)) 80 16 0 0 4) 81 17 0 0 4) 82 18 0 0 4) 83 19 0 0 6) 84 20 0 0 6) 85 21 0 0 12) 15 6 0) 15 7 0) 15 8 41) 87 23 0 0 1170) 88 24 0 0 30) 22 2 0) 22 3 0) 90 26 0 0 6) 91 27 0 0 6) 92 28 0 0 16) 93 29 0 0 4) 94 30 0 0 4) 25 2 0), px_JX, (px_up px_PX 63 2 none)))) rfl ?_
    exact px_E_ret rfl rfl) ?_
  refine px_E_seg 3 (σ' := (99, [(0, .ref 0)], [.int 0], (px_shX, (px_up (px_cy (px_cy (px_cy (px_cy (px_cy (px_up (px_up (px_cy (px_cy (px_up (px_up (px_up (px_cy (px_cy (px_cy (px_cy (px_cy (px_cy (px_up (px_up (px_up (px_up (px_up (px_up (px_up (px_up (px_up (px_up (px_up (px_up (px_up (px_up (px_fl (px_fl (px_up (px_up (px_up px_IX 1 0 0) 1 1 0) 1 2 0) 12 12 0) 13 144 1000) 13 0 0) 13 13 0) 13 26 0) 13 39 0) 13 52 0) 13 65 0) 13 78 0) 13 91 0) 13 104 0) 13 117 0) 13 130 0) 13 143 0) 0 11 0) 0 12 (-1)) 80 16 0 0 4) 81 17 0 0 4) 82 18 0 0 4) 83 19 0 0 6) 84 20 0 0 6) 85 21 0 0 12) 15 6 0) 15 7 0) 15 8 41) 87 23 0 0 1170) 88 24 0 0 30) 22 2 0) 22 3 0) 90 26 0 0 6) 91 27 0 0 6) 92 28 0 0 16) 93 29 0 0 4) 94 30 0 0 4) 25 2 0), px_JX, (px_up px_PX 63 2 none)))) rfl ?_
  exact px_E_ret rfl rfl
set_option maxRecDepth 100000 in
set_option maxHeartbeats 4000000 in
theorem px_r39_0 {ro : px_RO} {dd : Nat}  : px_RX ro (dd + 8) 326 [.ref 95] (.int 0) := by
  intro Ic Jc Pc
  refine ⟨(px_shX, (px_cpR (px_mI Ic) 97 96), (px_mJ Jc), (px_mP Pc)), ?_, rfl⟩
  show px_E ro (dd + 8) 326 (0, _, [], _) _ _
  refine px_E_seg 4 (σ' := (8, [(0, .ref 95)], [.ref 96, .ref 97], (px_shX, (px_mI Ic), (px_mJ Jc), (px_mP Pc)))) rfl ?_
  refine px_E_call (j := 181) (as := [.ref 97, .ref 96]) (rest := []) (v := none) (h1 := (px_shX, (px_cpR (px_mI Ic) 97 96), (px_mJ Jc), (px_mP Pc))) rfl rfl rfl (px_copy (na := 1538) (nb := 1538) rfl rfl (by decide) (by decide) (by decide) (by decide) (by decide) rfl rfl) ?_
  refine px_E_seg 4 (σ' := (17, [(0, .ref 95)], [.int 0], (px_shX, (px_cpR (px_mI Ic) 97 96), (px_mJ Jc), (px_mP Pc)))) rfl ?_
  exact px_E_ret rfl rfl
set_option maxRecDepth 100000 in
set_option maxHeartbeats 4000000 in
theorem px_x40_0 {ro : px_RO} {dd : Nat} (a1 : Int32) (ha1 : (-2147483648) ≤ a1.toInt ∧ a1.toInt ≤ (-1)) : px_CX ro (dd + 8) 179 [.ref 0, .int a1] (.int (-2)) := by
  refine ⟨px_IX, px_PX, ?_, px_fr_0, px_frP_0⟩
  show px_E ro (dd + 8) 179 (0, _, [], _) _ _
  refine px_E_seg 1 (σ' := (1, [(0, .ref 0), (1, .int a1)], [.int a1], (px_shX, px_IX, px_JX, px_PX))) rfl ?_
  refine px_E_tabO (t := 166) rfl rfl (by omega) ?_
  refine px_E_seg 1 (σ' := (168, [(0, .ref 0), (1, .int a1)], [.int (-2)], (px_shX, px_IX, px_JX, px_PX))) rfl ?_
  exact px_E_ret rfl rfl
set_option maxRecDepth 100000 in
set_option maxHeartbeats 4000000 in
theorem px_r40_0 {ro : px_RO} {dd : Nat} (a1 : Int32) (ha1 : (-2147483648) ≤ a1.toInt ∧ a1.toInt ≤ (-1)) : px_RX ro (dd + 8) 327 [.ref 95, .int a1] (.int (-2)) := by
  intro Ic Jc Pc
  refine ⟨(px_shX, (px_mI Ic), (px_mJ Jc), (px_mP Pc)), ?_, rfl⟩
  show px_E ro (dd + 8) 327 (0, _, [], _) _ _
  refine px_E_seg 2 (σ' := (2, [(0, .ref 95), (1, .int a1)], [.int 4, .int a1], (px_shX, (px_mI Ic), (px_mJ Jc), (px_mP Pc)))) rfl ?_
  refine px_E_icT (t := 10) rfl rfl (show a1.toInt ≠ (4 : Int) by omega) ?_
  refine px_E_seg 2 (σ' := (12, [(0, .ref 95), (1, .int a1)], [.int 5, .int a1], (px_shX, (px_mI Ic), (px_mJ Jc), (px_mP Pc)))) rfl ?_
  refine px_E_icT (t := 20) rfl rfl (show a1.toInt ≠ (5 : Int) by omega) ?_
  refine px_E_seg 3 (σ' := (24, [(0, .ref 95), (1, .int a1)], [.int 11, .int 0, .int a1], (px_shX, (px_mI Ic), (px_mJ Jc), (px_mP Pc)))) rfl ?_
  refine px_E_call (j := 183) (as := [.int a1, .int 0, .int 11]) (rest := []) (v := some (.int 0)) (h1 := (px_shX, (px_mI Ic), (px_mJ Jc), (px_mP Pc))) rfl rfl rfl (by
    refine px_E_seg 2 (σ' := (2, [(0, .int a1), (1, .int 0), (2, .int 11)], [.int 0, .int a1], (px_shX, (px_mI Ic), (px_mJ Jc), (px_mP Pc)))) rfl ?_
    refine px_E_icT (t := 14) rfl rfl (show a1.toInt < (0 : Int) by omega) ?_
    refine px_E_seg 1 (σ' := (15, [(0, .int a1), (1, .int 0), (2, .int 11)], [.int 0], (px_shX, (px_mI Ic), (px_mJ Jc), (px_mP Pc)))) rfl ?_
    exact px_E_ret rfl rfl) ?_
  refine px_E_seg 3 (σ' := (42, [(0, .ref 95), (1, .int a1)], [.int 12, .int a1], (px_shX, (px_mI Ic), (px_mJ Jc), (px_mP Pc)))) rfl ?_
  refine px_E_icT (t := 52) rfl rfl (show a1.toInt ≠ (12 : Int) by omega) ?_
  refine px_E_seg 1 (σ' := (54, [(0, .ref 95), (1, .int a1)], [.int (-2)], (px_shX, (px_mI Ic), (px_mJ Jc), (px_mP Pc)))) rfl ?_
  exact px_E_ret rfl rfl
set_option maxRecDepth 100000 in
set_option maxHeartbeats 4000000 in
theorem px_x40_1 {ro : px_RO} {dd : Nat}  : px_CX ro (dd + 8) 179 [.ref 0, .int 0] (.int 0) := by
  refine ⟨px_IX, px_PX, ?_, px_fr_0, px_frP_0⟩
  show px_E ro (dd + 8) 179 (0, _, [], _) _ _
  refine px_E_seg 5 (σ' := (75, [(0, .ref 0), (1, .int 0)], [.int 0], (px_shX, px_IX, px_JX, px_PX))) rfl ?_
  exact px_E_ret rfl rfl
set_option maxRecDepth 100000 in
set_option maxHeartbeats 4000000 in
theorem px_r40_1 {ro : px_RO} {dd : Nat}  : px_RX ro (dd + 8) 327 [.ref 95, .int 0] (.int 0) := by
  intro Ic Jc Pc
  refine ⟨(px_shX, (px_mI Ic), (px_mJ Jc), (px_mP Pc)), ?_, rfl⟩
  show px_E ro (dd + 8) 327 (0, _, [], _) _ _
  refine px_E_seg 6 (σ' := (20, [(0, .ref 95), (1, .int 0)], [], (px_shX, (px_mI Ic), (px_mJ Jc), (px_mP Pc)))) rfl ?_
  refine px_E_seg 3 (σ' := (24, [(0, .ref 95), (1, .int 0)], [.int 11, .int 0, .int 0], (px_shX, (px_mI Ic), (px_mJ Jc), (px_mP Pc)))) rfl ?_
  refine px_E_call (j := 183) (as := [.int 0, .int 0, .int 11]) (rest := []) (v := some (.int 1)) (h1 := (px_shX, (px_mI Ic), (px_mJ Jc), (px_mP Pc))) rfl rfl rfl (by
    refine px_E_seg 6 (σ' := (10, [(0, .int 0), (1, .int 0), (2, .int 11)], [], (px_shX, (px_mI Ic), (px_mJ Jc), (px_mP Pc)))) rfl ?_
    refine px_E_seg 2 (σ' := (15, [(0, .int 0), (1, .int 0), (2, .int 11)], [.int 1], (px_shX, (px_mI Ic), (px_mJ Jc), (px_mP Pc)))) rfl ?_
    exact px_E_ret rfl rfl) ?_
  refine px_E_seg 6 (σ' := (54, [(0, .ref 95), (1, .int 0)], [.int 0], (px_shX, (px_mI Ic), (px_mJ Jc), (px_mP Pc)))) rfl ?_
  exact px_E_ret rfl rfl
set_option maxRecDepth 100000 in
set_option maxHeartbeats 4000000 in
theorem px_x40_2 {ro : px_RO} {dd : Nat}  : px_CX ro (dd + 8) 179 [.ref 0, .int 1] (.int 0) := by
  refine ⟨px_IX, px_PX, ?_, px_fr_0, px_frP_0⟩
  show px_E ro (dd + 8) 179 (0, _, [], _) _ _
  refine px_E_seg 5 (σ' := (83, [(0, .ref 0), (1, .int 1)], [.int 0], (px_shX, px_IX, px_JX, px_PX))) rfl ?_
  exact px_E_ret rfl rfl
set_option maxRecDepth 100000 in
set_option maxHeartbeats 4000000 in
theorem px_r40_2 {ro : px_RO} {dd : Nat}  : px_RX ro (dd + 8) 327 [.ref 95, .int 1] (.int 0) := by
  intro Ic Jc Pc
  refine ⟨(px_shX, (px_mI Ic), (px_mJ Jc), (px_mP Pc)), ?_, rfl⟩
  show px_E ro (dd + 8) 327 (0, _, [], _) _ _
  refine px_E_seg 6 (σ' := (20, [(0, .ref 95), (1, .int 1)], [], (px_shX, (px_mI Ic), (px_mJ Jc), (px_mP Pc)))) rfl ?_
  refine px_E_seg 3 (σ' := (24, [(0, .ref 95), (1, .int 1)], [.int 11, .int 0, .int 1], (px_shX, (px_mI Ic), (px_mJ Jc), (px_mP Pc)))) rfl ?_
  refine px_E_call (j := 183) (as := [.int 1, .int 0, .int 11]) (rest := []) (v := some (.int 1)) (h1 := (px_shX, (px_mI Ic), (px_mJ Jc), (px_mP Pc))) rfl rfl rfl (by
    refine px_E_seg 6 (σ' := (10, [(0, .int 1), (1, .int 0), (2, .int 11)], [], (px_shX, (px_mI Ic), (px_mJ Jc), (px_mP Pc)))) rfl ?_
    refine px_E_seg 2 (σ' := (15, [(0, .int 1), (1, .int 0), (2, .int 11)], [.int 1], (px_shX, (px_mI Ic), (px_mJ Jc), (px_mP Pc)))) rfl ?_
    exact px_E_ret rfl rfl) ?_
  refine px_E_seg 6 (σ' := (54, [(0, .ref 95), (1, .int 1)], [.int 0], (px_shX, (px_mI Ic), (px_mJ Jc), (px_mP Pc)))) rfl ?_
  exact px_E_ret rfl rfl
set_option maxRecDepth 100000 in
set_option maxHeartbeats 4000000 in
theorem px_x40_3 {ro : px_RO} {dd : Nat}  : px_CX ro (dd + 8) 179 [.ref 0, .int 2] (.int 0) := by
  refine ⟨px_IX, px_PX, ?_, px_fr_0, px_frP_0⟩
  show px_E ro (dd + 8) 179 (0, _, [], _) _ _
  refine px_E_seg 5 (σ' := (91, [(0, .ref 0), (1, .int 2)], [.int 0], (px_shX, px_IX, px_JX, px_PX))) rfl ?_
  exact px_E_ret rfl rfl
set_option maxRecDepth 100000 in
set_option maxHeartbeats 4000000 in
theorem px_r40_3 {ro : px_RO} {dd : Nat}  : px_RX ro (dd + 8) 327 [.ref 95, .int 2] (.int 0) := by
  intro Ic Jc Pc
  refine ⟨(px_shX, (px_mI Ic), (px_mJ Jc), (px_mP Pc)), ?_, rfl⟩
  show px_E ro (dd + 8) 327 (0, _, [], _) _ _
  refine px_E_seg 6 (σ' := (20, [(0, .ref 95), (1, .int 2)], [], (px_shX, (px_mI Ic), (px_mJ Jc), (px_mP Pc)))) rfl ?_
  refine px_E_seg 3 (σ' := (24, [(0, .ref 95), (1, .int 2)], [.int 11, .int 0, .int 2], (px_shX, (px_mI Ic), (px_mJ Jc), (px_mP Pc)))) rfl ?_
  refine px_E_call (j := 183) (as := [.int 2, .int 0, .int 11]) (rest := []) (v := some (.int 1)) (h1 := (px_shX, (px_mI Ic), (px_mJ Jc), (px_mP Pc))) rfl rfl rfl (by
    refine px_E_seg 6 (σ' := (10, [(0, .int 2), (1, .int 0), (2, .int 11)], [], (px_shX, (px_mI Ic), (px_mJ Jc), (px_mP Pc)))) rfl ?_
    refine px_E_seg 2 (σ' := (15, [(0, .int 2), (1, .int 0), (2, .int 11)], [.int 1], (px_shX, (px_mI Ic), (px_mJ Jc), (px_mP Pc)))) rfl ?_
    exact px_E_ret rfl rfl) ?_
  refine px_E_seg 6 (σ' := (54, [(0, .ref 95), (1, .int 2)], [.int 0], (px_shX, (px_mI Ic), (px_mJ Jc), (px_mP Pc)))) rfl ?_
  exact px_E_ret rfl rfl
set_option maxRecDepth 100000 in
set_option maxHeartbeats 4000000 in
theorem px_x40_4 {ro : px_RO} {dd : Nat}  : px_CX ro (dd + 8) 179 [.ref 0, .int 3] (.int 0) := by
  refine ⟨px_IX, px_PX, ?_, px_fr_0, px_frP_0⟩
  show px_E ro (dd + 8) 179 (0, _, [], _) _ _
  refine px_E_seg 5 (σ' := (99, [(0, .ref 0), (1, .int 3)], [.int 0], (px_shX, px_IX, px_JX, px_PX))) rfl ?_
  exact px_E_ret rfl rfl
set_option maxRecDepth 100000 in
set_option maxHeartbeats 4000000 in
theorem px_r40_4 {ro : px_RO} {dd : Nat}  : px_RX ro (dd + 8) 327 [.ref 95, .int 3] (.int 0) := by
  intro Ic Jc Pc
  refine ⟨(px_shX, (px_mI Ic), (px_mJ Jc), (px_mP Pc)), ?_, rfl⟩
  show px_E ro (dd + 8) 327 (0, _, [], _) _ _
  refine px_E_seg 6 (σ' := (20, [(0, .ref 95), (1, .int 3)], [], (px_shX, (px_mI Ic), (px_mJ Jc), (px_mP Pc)))) rfl ?_
  refine px_E_seg 3 (σ' := (24, [(0, .ref 95), (1, .int 3)], [.int 11, .int 0, .int 3], (px_shX, (px_mI Ic), (px_mJ Jc), (px_mP Pc)))) rfl ?_
  refine px_E_call (j := 183) (as := [.int 3, .int 0, .int 11]) (rest := []) (v := some (.int 1)) (h1 := (px_shX, (px_mI Ic), (px_mJ Jc), (px_mP Pc))) rfl rfl rfl (by
    refine px_E_seg 6 (σ' := (10, [(0, .int 3), (1, .int 0), (2, .int 11)], [], (px_shX, (px_mI Ic), (px_mJ Jc), (px_mP Pc)))) rfl ?_
    refine px_E_seg 2 (σ' := (15, [(0, .int 3), (1, .int 0), (2, .int 11)], [.int 1], (px_shX, (px_mI Ic), (px_mJ Jc), (px_mP Pc)))) rfl ?_
    exact px_E_ret rfl rfl) ?_
  refine px_E_seg 6 (σ' := (54, [(0, .ref 95), (1, .int 3)], [.int 0], (px_shX, (px_mI Ic), (px_mJ Jc), (px_mP Pc)))) rfl ?_
  exact px_E_ret rfl rfl
set_option maxRecDepth 100000 in
set_option maxHeartbeats 4000000 in
theorem px_x40_5 {ro : px_RO} {dd : Nat}  : px_CX ro (dd + 8) 179 [.ref 0, .int 4] (.int 0) := by
  refine ⟨px_IX, px_PX, ?_, px_fr_0, px_frP_0⟩
  show px_E ro (dd + 8) 179 (0, _, [], _) _ _
  refine px_E_seg 4 (σ' := (104, [(0, .ref 0), (1, .int 4)], [.ref 15], (px_shX, px_IX, px_JX, px_PX))) rfl ?_
  refine px_E_call (j := 64) (as := [.ref 15]) (rest := []) (v := some (.int 0)) (h1 := (px_shX, px_IX, px_JX, px_PX)) rfl rfl rfl (by
    refine px_E_seg 2 (σ' := (4, [(0, .ref 15)], [.ref 16], (px_shX, px_IX, px_JX, px_PX))) rfl ?_
    refine px_E_call (j := 65) (as := [.ref 16]) (rest := []) (v := some (.int 0)) (h1 := (px_shX, px_IX, px_JX, px_PX)) rfl rfl rfl (by
      refine px_E_seg 6 (σ' := (6, [(2, .ref 16), (1, .int 0), (0, .ref 16)], [.int 4], (px_shX, px_IX, px_JX, px_PX))) rfl ?_
      refine px_E_seg 6 (σ' := (16, [(4, .int 0), (3, .int 4), (2, .ref 16), (1, .int 0), (0, .ref 16)], [], (px_shX, px_IX, px_JX, px_PX))) rfl ?_
      refine px_E_seg 6 (σ' := (25, [(5, .int 0), (4, .int 0), (3, .int 4), (2, .ref 16), (1, .int 0), (0, .ref 16)], [.int 0, .int 0], (px_shX, px_IX, px_JX, px_PX))) rfl ?_
      refine px_E_seg 6 (σ' := (13, [(4, .int 1), (1, .int 0), (5, .int 0), (3, .int 4), (2, .ref 16), (0, .ref 16)], [.int 4, .int 1], (px_shX, px_IX, px_JX, px_PX))) rfl ?_
      refine px_E_seg 6 (σ' := (23, [(5, .int 0), (4, .int 1), (1, .int 0), (3, .int 4), (2, .ref 16), (0, .ref 16)], [.int 0], (px_shX, px_IX, px_JX, px_PX))) rfl ?_
      refine px_E_seg 1 (σ' := (25, [(5, .int 0), (4, .int 1), (1, .int 0), (3, .int 4), (2, .ref 16), (0, .ref 16)], [.int 0, .int 0], (px_shX, px_IX, px_JX, px_PX))) rfl ?_
      refine px_E_seg 6 (σ' := (13, [(4, .int 2), (1, .int 0), (5, .int 0), (3, .int 4), (2, .ref 16), (0, .ref 16)], [.int 4, .int 2], (px_shX, px_IX, px_JX, px_PX))) rfl ?_
      refine px_E_seg 6 (σ' := (23, [(5, .int 0), (4, .int 2), (1, .int 0), (3, .int 4), (2, .ref 16), (0, .ref 16)], [.int 0], (px_shX, px_IX, px_JX, px_PX))) rfl ?_
      refine px_E_seg 1 (σ' := (25, [(5, .int 0), (4, .int 2), (1, .int 0), (3, .int 4), (2, .ref 16), (0, .ref 16)], [.int 0, .int 0], (px_shX, px_IX, px_JX, px_PX))) rfl ?_
      refine px_E_seg 6 (σ' := (13, [(4, .int 3), (1, .int 0), (5, .int 0), (3, .int 4), (2, .ref 16), (0, .ref 16)], [.int 4, .int 3], (px_shX, px_IX, px_JX, px_PX))) rfl ?_
      refine px_E_seg 6 (σ' := (23, [(5, .int 0), (4, .int 3), (1, .int 0), (3, .int 4), (2, .ref 16), (0, .ref 16)], [.int 0], (px_shX, px_IX, px_JX, px_PX))) rfl ?_
      refine px_E_seg 1 (σ' := (25, [(5, .int 0), (4, .int 3), (1, .int 0), (3, .int 4), (2, .ref 16), (0, .ref 16)], [.int 0, .int 0], (px_shX, px_IX, px_JX, px_PX))) rfl ?_
      refine px_E_seg 6 (σ' := (13, [(4, .int 4), (1, .int 0), (5, .int 0), (3, .int 4), (2, .ref 16), (0, .ref 16)], [.int 4, .int 4], (px_shX, px_IX, px_JX, px_PX))) rfl ?_
      refine px_E_seg 2 (σ' := (34, [(4, .int 4), (1, .int 0), (5, .int 0), (3, .int 4), (2, .ref 16), (0, .ref 16)], [.int 0], (px_shX, px_IX, px_JX, px_PX))) rfl ?_
      exact px_E_ret rfl rfl) ?_
    exact px_E_ret rfl rfl) ?_
  exact px_E_ret rfl rfl
set_option maxRecDepth 100000 in
set_option maxHeartbeats 4000000 in
theorem px_r40_5 {ro : px_RO} {dd : Nat}  : px_RX ro (dd + 8) 327 [.ref 95, .int 4] (.int 0) := by
  intro Ic Jc Pc
  refine ⟨(px_shX, (px_mI Ic), (px_mJ Jc), (px_mP Pc)), ?_, rfl⟩
  show px_E ro (dd + 8) 327 (0, _, [], _) _ _
  refine px_E_seg 4 (σ' := (6, [(0, .ref 95), (1, .int 4)], [.ref 95], (px_shX, (px_mI Ic), (px_mJ Jc), (px_mP Pc)))) rfl ?_
  refine px_E_call (j := 243) (as := [.ref 95]) (rest := []) (v := some (.int 0)) (h1 := (px_shX, (px_mI Ic), (px_mJ Jc), (px_mP Pc))) rfl rfl rfl (by
    refine px_E_seg 6 (σ' := (6, [(2, .int 0), (1, .int 0), (0, .ref 95)], [.int 4, .int 0], (px_shX, (px_mI Ic), (px_mJ Jc), (px_mP Pc)))) rfl ?_
    refine px_E_seg 4 (σ' := (12, [(2, .int 0), (1, .int 0), (0, .ref 95)], [.int 0, .ref 95, .int 0], (px_shX, (px_mI Ic), (px_mJ Jc), (px_mP Pc)))) rfl ?_
    refine px_E_call (j := 242) (as := [.ref 95, .int 0]) (rest := [.int 0]) (v := some (.int 0)) (h1 := (px_shX, (px_mI Ic), (px_mJ Jc), (px_mP Pc))) rfl rfl rfl (by
      refine px_E_seg 5 (σ' := (8, [(0, .ref 95), (1, .int 0)], [.int 0, .int 3, .int 114, .ref 96], (px_shX, (px_mI Ic), (px_mJ Jc), (px_mP Pc)))) rfl ?_
      refine px_E_seg 1 (σ' := (9, [(0, .ref 95), (1, .int 0)], [.int 0, .int 114, .ref 96], (px_shX, (px_mI Ic), (px_mJ Jc), (px_mP Pc)))) rfl ?_
      refine px_E_seg 2 (σ' := (11, [(0, .ref 95), (1, .int 0)], [.int 0], (px_shX, (px_mI Ic), (px_mJ Jc), (px_mP Pc)))) rfl ?_
      exact px_E_ret rfl rfl) ?_
    refine px_E_seg 6 (σ' := (6, [(2, .int 1), (1, .int 0), (0, .ref 95)], [.int 4, .int 1], (px_shX, (px_mI Ic), (px_mJ Jc), (px_mP Pc)))) rfl ?_
    refine px_E_seg 4 (σ' := (12, [(2, .int 1), (1, .int 0), (0, .ref 95)], [.int 1, .ref 95, .int 0], (px_shX, (px_mI Ic), (px_mJ Jc), (px_mP Pc)))) rfl ?_
    refine px_E_call (j := 242) (as := [.ref 95, .int 1]) (rest := [.int 0]) (v := some (.int 0)) (h1 := (px_shX, (px_mI Ic), (px_mJ Jc), (px_mP Pc))) rfl rfl rfl (by
      refine px_E_seg 5 (σ' := (8, [(0, .ref 95), (1, .int 1)], [.int 1, .int 3, .int 114, .ref 96], (px_shX, (px_mI Ic), (px_mJ Jc), (px_mP Pc)))) rfl ?_
      refine px_E_seg 1 (σ' := (9, [(0, .ref 95), (1, .int 1)], [.int 3, .int 114, .ref 96], (px_shX, (px_mI Ic), (px_mJ Jc), (px_mP Pc)))) rfl ?_
      refine px_E_seg 2 (σ' := (11, [(0, .ref 95), (1, .int 1)], [.int 0], (px_shX, (px_mI Ic), (px_mJ Jc), (px_mP Pc)))) rfl ?_
      exact px_E_ret rfl rfl) ?_
    refine px_E_seg 6 (σ' := (6, [(2, .int 2), (1, .int 0), (0, .ref 95)], [.int 4, .int 2], (px_shX, (px_mI Ic), (px_mJ Jc), (px_mP Pc)))) rfl ?_
    refine px_E_seg 4 (σ' := (12, [(2, .int 2), (1, .int 0), (0, .ref 95)], [.int 2, .ref 95, .int 0], (px_shX, (px_mI Ic), (px_mJ Jc), (px_mP Pc)))) rfl ?_
    refine px_E_call (j := 242) (as := [.ref 95, .int 2]) (rest := [.int 0]) (v := some (.int 0)) (h1 := (px_shX, (px_mI Ic), (px_mJ Jc), (px_mP Pc))) rfl rfl rfl (by
      refine px_E_seg 5 (σ' := (8, [(0, .ref 95), (1, .int 2)], [.int 2, .int 3, .int 114, .ref 96], (px_shX, (px_mI Ic), (px_mJ Jc), (px_mP Pc)))) rfl ?_
      refine px_E_seg 1 (σ' := (9, [(0, .ref 95), (1, .int 2)], [.int 6, .int 114, .ref 96], (px_shX, (px_mI Ic), (px_mJ Jc), (px_mP Pc)))) rfl ?_
      refine px_E_seg 2 (σ' := (11, [(0, .ref 95), (1, .int 2)], [.int 0], (px_shX, (px_mI Ic), (px_mJ Jc), (px_mP Pc)))) rfl ?_
      exact px_E_ret rfl rfl) ?_
    refine px_E_seg 6 (σ' := (6, [(2, .int 3), (1, .int 0), (0, .ref 95)], [.int 4, .int 3], (px_shX, (px_mI Ic), (px_mJ Jc), (px_mP Pc)))) rfl ?_
    refine px_E_seg 4 (σ' := (12, [(2, .int 3), (1, .int 0), (0, .ref 95)], [.int 3, .ref 95, .int 0], (px_shX, (px_mI Ic), (px_mJ Jc), (px_mP Pc)))) rfl ?_
    refine px_E_call (j := 242) (as := [.ref 95, .int 3]) (rest := [.int 0]) (v := some (.int 0)) (h1 := (px_shX, (px_mI Ic), (px_mJ Jc), (px_mP Pc))) rfl rfl rfl (by
      refine px_E_seg 5 (σ' := (8, [(0, .ref 95), (1, .int 3)], [.int 3, .int 3, .int 114, .ref 96], (px_shX, (px_mI Ic), (px_mJ Jc), (px_mP Pc)))) rfl ?_
      refine px_E_seg 1 (σ' := (9, [(0, .ref 95), (1, .int 3)], [.int 9, .int 114, .ref 96], (px_shX, (px_mI Ic), (px_mJ Jc), (px_mP Pc)))) rfl ?_
      refine px_E_seg 2 (σ' := (11, [(0, .ref 95), (1, .int 3)], [.int 0], (px_shX, (px_mI Ic), (px_mJ Jc), (px_mP Pc)))) rfl ?_
      exact px_E_ret rfl rfl) ?_
    refine px_E_seg 6 (σ' := (6, [(2, .int 4), (1, .int 0), (0, .ref 95)], [.int 4, .int 4], (px_shX, (px_mI Ic), (px_mJ Jc), (px_mP Pc)))) rfl ?_
    refine px_E_seg 2 (σ' := (24, [(2, .int 4), (1, .int 0), (0, .ref 95)], [.int 0], (px_shX, (px_mI Ic), (px_mJ Jc), (px_mP Pc)))) rfl ?_
    exact px_E_ret rfl rfl) ?_
  exact px_E_ret rfl rfl
set_option maxRecDepth 100000 in
set_option maxHeartbeats 4000000 in
theorem px_x40_6 {ro : px_RO} {dd : Nat}  : px_CX ro (dd + 8) 179 [.ref 0, .int 5] (.int 0) := by
  refine ⟨px_IX, px_PX, ?_, px_fr_0, px_frP_0⟩
  show px_E ro (dd + 8) 179 (0, _, [], _) _ _
  refine px_E_seg 4 (σ' := (112, [(0, .ref 0), (1, .int 5)], [.ref 15], (px_shX, px_IX, px_JX, px_PX))) rfl ?_
  refine px_E_call (j := 97) (as := [.ref 15]) (rest := []) (v := some (.int 0)) (h1 := (px_shX, px_IX, px_JX, px_PX)) rfl rfl rfl (by
    refine px_E_seg 2 (σ' := (4, [(0, .ref 15)], [.ref 21], (px_shX, px_IX, px_JX, px_PX))) rfl ?_
    refine px_E_call (j := 65) (as := [.ref 21]) (rest := []) (v := some (.int 0)) (h1 := (px_shX, px_IX, px_JX, px_PX)) rfl rfl rfl (by
      refine px_E_seg 6 (σ' := (6, [(2, .ref 21), (1, .int 0), (0, .ref 21)], [.int 12], (px_shX, px_IX, px_JX, px_PX))) rfl ?_
      refine px_E_seg 6 (σ' := (16, [(4, .int 0), (3, .int 12), (2, .ref 21), (1, .int 0), (0, .ref 21)], [], (px_shX, px_IX, px_JX, px_PX))) rfl ?_
      refine px_E_seg 6 (σ' := (25, [(5, .int 0), (4, .int 0), (3, .int 12), (2, .ref 21), (1, .int 0), (0, .ref 21)], [.int 0, .int 0], (px_shX, px_IX, px_JX, px_PX))) rfl ?_
      refine px_E_seg 6 (σ' := (13, [(4, .int 1), (1, .int 0), (5, .int 0), (3, .int 12), (2, .ref 21), (0, .ref 21)], [.int 12, .int 1], (px_shX, px_IX, px_JX, px_PX))) rfl ?_
      refine px_E_seg 6 (σ' := (23, [(5, .int 0), (4, .int 1), (1, .int 0), (3, .int 12), (2, .ref 21), (0, .ref 21)], [.int 0], (px_shX, px_IX, px_JX, px_PX))) rfl ?_
      refine px_E_seg 1 (σ' := (25, [(5, .int 0), (4, .int 1), (1, .int 0), (3, .int 12), (2, .ref 21), (0, .ref 21)], [.int 0, .int 0], (px_shX, px_IX, px_JX, px_PX))) rfl ?_
      refine px_E_seg 6 (σ' := (13, [(4, .int 2), (1, .int 0), (5, .int 0), (3, .int 12), (2, .ref 21), (0, .ref 21)], [.int 12, .int 2], (px_shX, px_IX, px_JX, px_PX))) rfl ?_
      refine px_E_seg 6 (σ' := (23, [(5, .int 0), (4, .int 2), (1, .int 0), (3, .int 12), (2, .ref 21), (0, .ref 21)], [.int 0], (px_shX, px_IX, px_JX, px_PX))) rfl ?_
      refine px_E_seg 1 (σ' := (25, [(5, .int 0), (4, .int 2), (1, .int 0), (3, .int 12), (2, .ref 21), (0, .ref 21)], [.int 0, .int 0], (px_shX, px_IX, px_JX, px_PX))) rfl ?_
      refine px_E_seg 6 (σ' := (13, [(4, .int 3), (1, .int 0), (5, .int 0), (3, .int 12), (2, .ref 21), (0, .ref 21)], [.int 12, .int 3], (px_shX, px_IX, px_JX, px_PX))) rfl ?_
      refine px_E_seg 6 (σ' := (23, [(5, .int 0), (4, .int 3), (1, .int 0), (3, .int 12), (2, .ref 21), (0, .ref 21)], [.int 0], (px_shX, px_IX, px_JX, px_PX))) rfl ?_
      refine px_E_seg 1 (σ' := (25, [(5, .int 0), (4, .int 3), (1, .int 0), (3, .int 12), (2, .ref 21), (0, .ref 21)], [.int 0, .int 0], (px_shX, px_IX, px_JX, px_PX))) rfl ?_
      refine px_E_seg 6 (σ' := (13, [(4, .int 4), (1, .int 0), (5, .int 0), (3, .int 12), (2, .ref 21), (0, .ref 21)], [.int 12, .int 4], (px_shX, px_IX, px_JX, px_PX))) rfl ?_
      refine px_E_seg 6 (σ' := (23, [(5, .int 0), (4, .int 4), (1, .int 0), (3, .int 12), (2, .ref 21), (0, .ref 21)], [.int 0], (px_shX, px_IX, px_JX, px_PX))) rfl ?_
      refine px_E_seg 1 (σ' := (25, [(5, .int 0), (4, .int 4), (1, .int 0), (3, .int 12), (2, .ref 21), (0, .ref 21)], [.int 0, .int 0], (px_shX, px_IX, px_JX, px_PX))) rfl ?_
      refine px_E_seg 6 (σ' := (13, [(4, .int 5), (1, .int 0), (5, .int 0), (3, .int 12), (2, .ref 21), (0, .ref 21)], [.int 12, .int 5], (px_shX, px_IX, px_JX, px_PX))) rfl ?_
      refine px_E_seg 6 (σ' := (23, [(5, .int 0), (4, .int 5), (1, .int 0), (3, .int 12), (2, .ref 21), (0, .ref 21)], [.int 0], (px_shX, px_IX, px_JX, px_PX))) rfl ?_
      refine px_E_seg 1 (σ' := (25, [(5, .int 0), (4, .int 5), (1, .int 0), (3, .int 12), (2, .ref 21), (0, .ref 21)], [.int 0, .int 0], (px_shX, px_IX, px_JX, px_PX))) rfl ?_
      refine px_E_seg 6 (σ' := (13, [(4, .int 6), (1, .int 0), (5, .int 0), (3, .int 12), (2, .ref 21), (0, .ref 21)], [.int 12, .int 6], (px_shX, px_IX, px_JX, px_PX))) rfl ?_
      refine px_E_seg 6 (σ' := (23, [(5, .int 0), (4, .int 6), (1, .int 0), (3, .int 12), (2, .ref 21), (0, .ref 21)], [.int 0], (px_shX, px_IX, px_JX, px_PX))) rfl ?_
      refine px_E_seg 1 (σ' := (25, [(5, .int 0), (4, .int 6), (1, .int 0), (3, .int 12), (2, .ref 21), (0, .ref 21)], [.int 0, .int 0], (px_shX, px_IX, px_JX, px_PX))) rfl ?_
      refine px_E_seg 6 (σ' := (13, [(4, .int 7), (1, .int 0), (5, .int 0), (3, .int 12), (2, .ref 21), (0, .ref 21)], [.int 12, .int 7], (px_shX, px_IX, px_JX, px_PX))) rfl ?_
      refine px_E_seg 6 (σ' := (23, [(5, .int 0), (4, .int 7), (1, .int 0), (3, .int 12), (2, .ref 21), (0, .ref 21)], [.int 0], (px_shX, px_IX, px_JX, px_PX))) rfl ?_
      refine px_E_seg 1 (σ' := (25, [(5, .int 0), (4, .int 7), (1, .int 0), (3, .int 12), (2, .ref 21), (0, .ref 21)], [.int 0, .int 0], (px_shX, px_IX, px_JX, px_PX))) rfl ?_
      refine px_E_seg 6 (σ' := (13, [(4, .int 8), (1, .int 0), (5, .int 0), (3, .int 12), (2, .ref 21), (0, .ref 21)], [.int 12, .int 8], (px_shX, px_IX, px_JX, px_PX))) rfl ?_
      refine px_E_seg 6 (σ' := (23, [(5, .int 0), (4, .int 8), (1, .int 0), (3, .int 12), (2, .ref 21), (0, .ref 21)], [.int 0], (px_shX, px_IX, px_JX, px_PX))) rfl ?_
      refine px_E_seg 1 (σ' := (25, [(5, .int 0), (4, .int 8), (1, .int 0), (3, .int 12), (2, .ref 21), (0, .ref 21)], [.int 0, .int 0], (px_shX, px_IX, px_JX, px_PX))) rfl ?_
      refine px_E_seg 6 (σ' := (13, [(4, .int 9), (1, .int 0), (5, .int 0), (3, .int 12), (2, .ref 21), (0, .ref 21)], [.int 12, .int 9], (px_shX, px_IX, px_JX, px_PX))) rfl ?_
      refine px_E_seg 6 (σ' := (23, [(5, .int 0), (4, .int 9), (1, .int 0), (3, .int 12), (2, .ref 21), (0, .ref 21)], [.int 0], (px_shX, px_IX, px_JX, px_PX))) rfl ?_
      refine px_E_seg 1 (σ' := (25, [(5, .int 0), (4, .int 9), (1, .int 0), (3, .int 12), (2, .ref 21), (0, .ref 21)], [.int 0, .int 0], (px_shX, px_IX, px_JX, px_PX))) rfl ?_
      refine px_E_seg 6 (σ' := (13, [(4, .int 10), (1, .int 0), (5, .int 0), (3, .int 12), (2, .ref 21), (0, .ref 21)], [.int 12, .int 10], (px_shX, px_IX, px_JX, px_PX))) rfl ?_
      refine px_E_seg 6 (σ' := (23, [(5, .int 0), (4, .int 10), (1, .int 0), (3, .int 12), (2, .ref 21), (0, .ref 21)], [.int 0], (px_shX, px_IX, px_JX, px_PX))) rfl ?_
      refine px_E_seg 1 (σ' := (25, [(5, .int 0), (4, .int 10), (1, .int 0), (3, .int 12), (2, .ref 21), (0, .ref 21)], [.int 0, .int 0], (px_shX, px_IX, px_JX, px_PX))) rfl ?_
      refine px_E_seg 6 (σ' := (13, [(4, .int 11), (1, .int 0), (5, .int 0), (3, .int 12), (2, .ref 21), (0, .ref 21)], [.int 12, .int 11], (px_shX, px_IX, px_JX, px_PX))) rfl ?_
      refine px_E_seg 6 (σ' := (23, [(5, .int 0), (4, .int 11), (1, .int 0), (3, .int 12), (2, .ref 21), (0, .ref 21)], [.int 0], (px_shX, px_IX, px_JX, px_PX))) rfl ?_
      refine px_E_seg 1 (σ' := (25, [(5, .int 0), (4, .int 11), (1, .int 0), (3, .int 12), (2, .ref 21), (0, .ref 21)], [.int 0, .int 0], (px_shX, px_IX, px_JX, px_PX))) rfl ?_
      refine px_E_seg 6 (σ' := (13, [(4, .int 12), (1, .int 0), (5, .int 0), (3, .int 12), (2, .ref 21), (0, .ref 21)], [.int 12, .int 12], (px_shX, px_IX, px_JX, px_PX))) rfl ?_
      refine px_E_seg 2 (σ' := (34, [(4, .int 12), (1, .int 0), (5, .int 0), (3, .int 12), (2, .ref 21), (0, .ref 21)], [.int 0], (px_shX, px_IX, px_JX, px_PX))) rfl ?_
      exact px_E_ret rfl rfl) ?_
    exact px_E_ret rfl rfl) ?_
  exact px_E_ret rfl rfl
set_option maxRecDepth 100000 in
set_option maxHeartbeats 4000000 in
theorem px_r40_6 {ro : px_RO} {dd : Nat}  : px_RX ro (dd + 8) 327 [.ref 95, .int 5] (.int 0) := by
  intro Ic Jc Pc
  refine ⟨(px_shX, (px_mI Ic), (px_mJ Jc), (px_mP Pc)), ?_, rfl⟩
  show px_E ro (dd + 8) 327 (0, _, [], _) _ _
  refine px_E_seg 6 (σ' := (15, [(0, .ref 95), (1, .int 5)], [], (px_shX, (px_mI Ic), (px_mJ Jc), (px_mP Pc)))) rfl ?_
  refine px_E_seg 1 (σ' := (16, [(0, .ref 95), (1, .int 5)], [.ref 95], (px_shX, (px_mI Ic), (px_mJ Jc), (px_mP Pc)))) rfl ?_
  refine px_E_call (j := 279) (as := [.ref 95]) (rest := []) (v := some (.int 0)) (h1 := (px_shX, (px_mI Ic), (px_mJ Jc), (px_mP Pc))) rfl rfl rfl (by
    refine px_E_seg 6 (σ' := (6, [(2, .int 0), (1, .int 0), (0, .ref 95)], [.ref 95, .int 0], (px_shX, (px_mI Ic), (px_mJ Jc), (px_mP Pc)))) rfl ?_
    refine px_E_seg 5 (σ' := (29, [(2, .int 0), (1, .int 0), (0, .ref 95)], [.int 0], (px_shX, (px_mI Ic), (px_mJ Jc), (px_mP Pc)))) rfl ?_
    exact px_E_ret rfl rfl) ?_
  exact px_E_ret rfl rfl
set_option maxRecDepth 100000 in
set_option maxHeartbeats 4000000 in
theorem px_x40_7 {ro : px_RO} {dd : Nat}  : px_CX ro (dd + 8) 179 [.ref 0, .int 6] (.int 41) := by
  refine ⟨px_IX, px_PX, ?_, px_fr_0, px_frP_0⟩
  show px_E ro (dd + 8) 179 (0, _, [], _) _ _
  refine px_E_seg 5 (σ' := (123, [(0, .ref 0), (1, .int 6)], [.int 41], (px_shX, px_IX, px_JX, px_PX))) rfl ?_
  exact px_E_ret rfl rfl
set_option maxRecDepth 100000 in
set_option maxHeartbeats 4000000 in
theorem px_r40_7 {ro : px_RO} {dd : Nat}  : px_RX ro (dd + 8) 327 [.ref 95, .int 6] (.int 41) := by
  intro Ic Jc Pc
  refine ⟨(px_shX, (px_mI Ic), (px_mJ Jc), (px_mP Pc)), ?_, rfl⟩
  show px_E ro (dd + 8) 327 (0, _, [], _) _ _
  refine px_E_seg 6 (σ' := (20, [(0, .ref 95), (1, .int 6)], [], (px_shX, (px_mI Ic), (px_mJ Jc), (px_mP Pc)))) rfl ?_
  refine px_E_seg 3 (σ' := (24, [(0, .ref 95), (1, .int 6)], [.int 11, .int 0, .int 6], (px_shX, (px_mI Ic), (px_mJ Jc), (px_mP Pc)))) rfl ?_
  refine px_E_call (j := 183) (as := [.int 6, .int 0, .int 11]) (rest := []) (v := some (.int 1)) (h1 := (px_shX, (px_mI Ic), (px_mJ Jc), (px_mP Pc))) rfl rfl rfl (by
    refine px_E_seg 6 (σ' := (10, [(0, .int 6), (1, .int 0), (2, .int 11)], [], (px_shX, (px_mI Ic), (px_mJ Jc), (px_mP Pc)))) rfl ?_
    refine px_E_seg 2 (σ' := (15, [(0, .int 6), (1, .int 0), (2, .int 11)], [.int 1], (px_shX, (px_mI Ic), (px_mJ Jc), (px_mP Pc)))) rfl ?_
    exact px_E_ret rfl rfl) ?_
  refine px_E_seg 6 (σ' := (54, [(0, .ref 95), (1, .int 6)], [.int 41], (px_shX, (px_mI Ic), (px_mJ Jc), (px_mP Pc)))) rfl ?_
  exact px_E_ret rfl rfl
set_option maxRecDepth 100000 in
set_option maxHeartbeats 4000000 in
theorem px_x40_8 {ro : px_RO} {dd : Nat}  : px_CX ro (dd + 8) 179 [.ref 0, .int 7] (.int 0) := by
  refine ⟨px_IX, px_PX, ?_, px_fr_0, px_frP_0⟩
  show px_E ro (dd + 8) 179 (0, _, [], _) _ _
  refine px_E_seg 4 (σ' := (128, [(0, .ref 0), (1, .int 7)], [.int 0], (px_shX, px_IX, px_JX, px_PX))) rfl ?_
  exact px_E_ret rfl rfl
set_option maxRecDepth 100000 in
set_option maxHeartbeats 4000000 in
theorem px_r40_8 {ro : px_RO} {dd : Nat}  : px_RX ro (dd + 8) 327 [.ref 95, .int 7] (.int 0) := by
  intro Ic Jc Pc
  refine ⟨(px_shX, (px_mI Ic), (px_mJ Jc), (px_mP Pc)), ?_, rfl⟩
  show px_E ro (dd + 8) 327 (0, _, [], _) _ _
  refine px_E_seg 6 (σ' := (20, [(0, .ref 95), (1, .int 7)], [], (px_shX, (px_mI Ic), (px_mJ Jc), (px_mP Pc)))) rfl ?_
  refine px_E_seg 3 (σ' := (24, [(0, .ref 95), (1, .int 7)], [.int 11, .int 0, .int 7], (px_shX, (px_mI Ic), (px_mJ Jc), (px_mP Pc)))) rfl ?_
  refine px_E_call (j := 183) (as := [.int 7, .int 0, .int 11]) (rest := []) (v := some (.int 1)) (h1 := (px_shX, (px_mI Ic), (px_mJ Jc), (px_mP Pc))) rfl rfl rfl (by
    refine px_E_seg 6 (σ' := (10, [(0, .int 7), (1, .int 0), (2, .int 11)], [], (px_shX, (px_mI Ic), (px_mJ Jc), (px_mP Pc)))) rfl ?_
    refine px_E_seg 2 (σ' := (15, [(0, .int 7), (1, .int 0), (2, .int 11)], [.int 1], (px_shX, (px_mI Ic), (px_mJ Jc), (px_mP Pc)))) rfl ?_
    exact px_E_ret rfl rfl) ?_
  refine px_E_seg 6 (σ' := (54, [(0, .ref 95), (1, .int 7)], [.int 0], (px_shX, (px_mI Ic), (px_mJ Jc), (px_mP Pc)))) rfl ?_
  exact px_E_ret rfl rfl
set_option maxRecDepth 100000 in
set_option maxHeartbeats 4000000 in
theorem px_x40_9 {ro : px_RO} {dd : Nat}  : px_CX ro (dd + 8) 179 [.ref 0, .int 8] (.int (-1)) := by
  refine ⟨px_IX, px_PX, ?_, px_fr_0, px_frP_0⟩
  show px_E ro (dd + 8) 179 (0, _, [], _) _ _
  refine px_E_seg 4 (σ' := (133, [(0, .ref 0), (1, .int 8)], [.int (-1)], (px_shX, px_IX, px_JX, px_PX))) rfl ?_
  exact px_E_ret rfl rfl
set_option maxRecDepth 100000 in
set_option maxHeartbeats 4000000 in
theorem px_r40_9 {ro : px_RO} {dd : Nat}  : px_RX ro (dd + 8) 327 [.ref 95, .int 8] (.int (-1)) := by
  intro Ic Jc Pc
  refine ⟨(px_shX, (px_mI Ic), (px_mJ Jc), (px_mP Pc)), ?_, rfl⟩
  show px_E ro (dd + 8) 327 (0, _, [], _) _ _
  refine px_E_seg 6 (σ' := (20, [(0, .ref 95), (1, .int 8)], [], (px_shX, (px_mI Ic), (px_mJ Jc), (px_mP Pc)))) rfl ?_
  refine px_E_seg 3 (σ' := (24, [(0, .ref 95), (1, .int 8)], [.int 11, .int 0, .int 8], (px_shX, (px_mI Ic), (px_mJ Jc), (px_mP Pc)))) rfl ?_
  refine px_E_call (j := 183) (as := [.int 8, .int 0, .int 11]) (rest := []) (v := some (.int 1)) (h1 := (px_shX, (px_mI Ic), (px_mJ Jc), (px_mP Pc))) rfl rfl rfl (by
    refine px_E_seg 6 (σ' := (10, [(0, .int 8), (1, .int 0), (2, .int 11)], [], (px_shX, (px_mI Ic), (px_mJ Jc), (px_mP Pc)))) rfl ?_
    refine px_E_seg 2 (σ' := (15, [(0, .int 8), (1, .int 0), (2, .int 11)], [.int 1], (px_shX, (px_mI Ic), (px_mJ Jc), (px_mP Pc)))) rfl ?_
    exact px_E_ret rfl rfl) ?_
  refine px_E_seg 6 (σ' := (54, [(0, .ref 95), (1, .int 8)], [.int (-1)], (px_shX, (px_mI Ic), (px_mJ Jc), (px_mP Pc)))) rfl ?_
  exact px_E_ret rfl rfl
set_option maxRecDepth 100000 in
set_option maxHeartbeats 4000000 in
theorem px_x40_10 {ro : px_RO} {dd : Nat}  : px_CX ro (dd + 8) 179 [.ref 0, .int 9] (.int 0) := by
  refine ⟨px_IX, px_PX, ?_, px_fr_0, px_frP_0⟩
  show px_E ro (dd + 8) 179 (0, _, [], _) _ _
  refine px_E_seg 5 (σ' := (141, [(0, .ref 0), (1, .int 9)], [.int 0], (px_shX, px_IX, px_JX, px_PX))) rfl ?_
  exact px_E_ret rfl rfl
set_option maxRecDepth 100000 in
set_option maxHeartbeats 4000000 in
theorem px_r40_10 {ro : px_RO} {dd : Nat}  : px_RX ro (dd + 8) 327 [.ref 95, .int 9] (.int 0) := by
  intro Ic Jc Pc
  refine ⟨(px_shX, (px_mI Ic), (px_mJ Jc), (px_mP Pc)), ?_, rfl⟩
  show px_E ro (dd + 8) 327 (0, _, [], _) _ _
  refine px_E_seg 6 (σ' := (20, [(0, .ref 95), (1, .int 9)], [], (px_shX, (px_mI Ic), (px_mJ Jc), (px_mP Pc)))) rfl ?_
  refine px_E_seg 3 (σ' := (24, [(0, .ref 95), (1, .int 9)], [.int 11, .int 0, .int 9], (px_shX, (px_mI Ic), (px_mJ Jc), (px_mP Pc)))) rfl ?_
  refine px_E_call (j := 183) (as := [.int 9, .int 0, .int 11]) (rest := []) (v := some (.int 1)) (h1 := (px_shX, (px_mI Ic), (px_mJ Jc), (px_mP Pc))) rfl rfl rfl (by
    refine px_E_seg 6 (σ' := (10, [(0, .int 9), (1, .int 0), (2, .int 11)], [], (px_shX, (px_mI Ic), (px_mJ Jc), (px_mP Pc)))) rfl ?_
    refine px_E_seg 2 (σ' := (15, [(0, .int 9), (1, .int 0), (2, .int 11)], [.int 1], (px_shX, (px_mI Ic), (px_mJ Jc), (px_mP Pc)))) rfl ?_
    exact px_E_ret rfl rfl) ?_
  refine px_E_seg 6 (σ' := (54, [(0, .ref 95), (1, .int 9)], [.int 0], (px_shX, (px_mI Ic), (px_mJ Jc), (px_mP Pc)))) rfl ?_
  exact px_E_ret rfl rfl
set_option maxRecDepth 100000 in
set_option maxHeartbeats 4000000 in
theorem px_x40_11 {ro : px_RO} {dd : Nat}  : px_CX ro (dd + 8) 179 [.ref 0, .int 10] (.int 0) := by
  refine ⟨px_IX, px_PX, ?_, px_fr_0, px_frP_0⟩
  show px_E ro (dd + 8) 179 (0, _, [], _) _ _
  refine px_E_seg 5 (σ' := (149, [(0, .ref 0), (1, .int 10)], [.int 0], (px_shX, px_IX, px_JX, px_PX))) rfl ?_
  exact px_E_ret rfl rfl
set_option maxRecDepth 100000 in
set_option maxHeartbeats 4000000 in
theorem px_r40_11 {ro : px_RO} {dd : Nat}  : px_RX ro (dd + 8) 327 [.ref 95, .int 10] (.int 0) := by
  intro Ic Jc Pc
  refine ⟨(px_shX, (px_mI Ic), (px_mJ Jc), (px_mP Pc)), ?_, rfl⟩
  show px_E ro (dd + 8) 327 (0, _, [], _) _ _
  refine px_E_seg 6 (σ' := (20, [(0, .ref 95), (1, .int 10)], [], (px_shX, (px_mI Ic), (px_mJ Jc), (px_mP Pc)))) rfl ?_
  refine px_E_seg 3 (σ' := (24, [(0, .ref 95), (1, .int 10)], [.int 11, .int 0, .int 10], (px_shX, (px_mI Ic), (px_mJ Jc), (px_mP Pc)))) rfl ?_
  refine px_E_call (j := 183) (as := [.int 10, .int 0, .int 11]) (rest := []) (v := some (.int 1)) (h1 := (px_shX, (px_mI Ic), (px_mJ Jc), (px_mP Pc))) rfl rfl rfl (by
    refine px_E_seg 6 (σ' := (10, [(0, .int 10), (1, .int 0), (2, .int 11)], [], (px_shX, (px_mI Ic), (px_mJ Jc), (px_mP Pc)))) rfl ?_
    refine px_E_seg 2 (σ' := (15, [(0, .int 10), (1, .int 0), (2, .int 11)], [.int 1], (px_shX, (px_mI Ic), (px_mJ Jc), (px_mP Pc)))) rfl ?_
    exact px_E_ret rfl rfl) ?_
  refine px_E_seg 6 (σ' := (54, [(0, .ref 95), (1, .int 10)], [.int 0], (px_shX, (px_mI Ic), (px_mJ Jc), (px_mP Pc)))) rfl ?_
  exact px_E_ret rfl rfl
set_option maxRecDepth 100000 in
set_option maxHeartbeats 4000000 in
theorem px_x40_12 {ro : px_RO} {dd : Nat}  : px_CX ro (dd + 8) 179 [.ref 0, .int 11] (.int 0) := by
  refine ⟨px_IX, px_PX, ?_, px_fr_0, px_frP_0⟩
  show px_E ro (dd + 8) 179 (0, _, [], _) _ _
  refine px_E_seg 4 (σ' := (154, [(0, .ref 0), (1, .int 11)], [.ref 25], (px_shX, px_IX, px_JX, px_PX))) rfl ?_
  refine px_E_call (j := 168) (as := [.ref 25]) (rest := []) (v := some (.int 0)) (h1 := (px_shX, px_IX, px_JX, px_PX)) rfl rfl rfl (by
    refine px_E_seg 2 (σ' := (4, [(0, .ref 25)], [.ref 29], (px_shX, px_IX, px_JX, px_PX))) rfl ?_
    refine px_E_call (j := 65) (as := [.ref 29]) (rest := []) (v := some (.int 0)) (h1 := (px_shX, px_IX, px_JX, px_PX)) rfl rfl rfl (by
      refine px_E_seg 6 (σ' := (6, [(2, .ref 29), (1, .int 0), (0, .ref 29)], [.int 4], (px_shX, px_IX, px_JX, px_PX))) rfl ?_
      refine px_E_seg 6 (σ' := (16, [(4, .int 0), (3, .int 4), (2, .ref 29), (1, .int 0), (0, .ref 29)], [], (px_shX, px_IX, px_JX, px_PX))) rfl ?_
      refine px_E_seg 6 (σ' := (25, [(5, .int 0), (4, .int 0), (3, .int 4), (2, .ref 29), (1, .int 0), (0, .ref 29)], [.int 0, .int 0], (px_shX, px_IX, px_JX, px_PX))) rfl ?_
      refine px_E_seg 6 (σ' := (13, [(4, .int 1), (1, .int 0), (5, .int 0), (3, .int 4), (2, .ref 29), (0, .ref 29)], [.int 4, .int 1], (px_shX, px_IX, px_JX, px_PX))) rfl ?_
      refine px_E_seg 6 (σ' := (23, [(5, .int 0), (4, .int 1), (1, .int 0), (3, .int 4), (2, .ref 29), (0, .ref 29)], [.int 0], (px_shX, px_IX, px_JX, px_PX))) rfl ?_
      refine px_E_seg 1 (σ' := (25, [(5, .int 0), (4, .int 1), (1, .int 0), (3, .int 4), (2, .ref 29), (0, .ref 29)], [.int 0, .int 0], (px_shX, px_IX, px_JX, px_PX))) rfl ?_
      refine px_E_seg 6 (σ' := (13, [(4, .int 2), (1, .int 0), (5, .int 0), (3, .int 4), (2, .ref 29), (0, .ref 29)], [.int 4, .int 2], (px_shX, px_IX, px_JX, px_PX))) rfl ?_
      refine px_E_seg 6 (σ' := (23, [(5, .int 0), (4, .int 2), (1, .int 0), (3, .int 4), (2, .ref 29), (0, .ref 29)], [.int 0], (px_shX, px_IX, px_JX, px_PX))) rfl ?_
      refine px_E_seg 1 (σ' := (25, [(5, .int 0), (4, .int 2), (1, .int 0), (3, .int 4), (2, .ref 29), (0, .ref 29)], [.int 0, .int 0], (px_shX, px_IX, px_JX, px_PX))) rfl ?_
      refine px_E_seg 6 (σ' := (13, [(4, .int 3), (1, .int 0), (5, .int 0), (3, .int 4), (2, .ref 29), (0, .ref 29)], [.int 4, .int 3], (px_shX, px_IX, px_JX, px_PX))) rfl ?_
      refine px_E_seg 6 (σ' := (23, [(5, .int 0), (4, .int 3), (1, .int 0), (3, .int 4), (2, .ref 29), (0, .ref 29)], [.int 0], (px_shX, px_IX, px_JX, px_PX))) rfl ?_
      refine px_E_seg 1 (σ' := (25, [(5, .int 0), (4, .int 3), (1, .int 0), (3, .int 4), (2, .ref 29), (0, .ref 29)], [.int 0, .int 0], (px_shX, px_IX, px_JX, px_PX))) rfl ?_
      refine px_E_seg 6 (σ' := (13, [(4, .int 4), (1, .int 0), (5, .int 0), (3, .int 4), (2, .ref 29), (0, .ref 29)], [.int 4, .int 4], (px_shX, px_IX, px_JX, px_PX))) rfl ?_
      refine px_E_seg 2 (σ' := (34, [(4, .int 4), (1, .int 0), (5, .int 0), (3, .int 4), (2, .ref 29), (0, .ref 29)], [.int 0], (px_shX, px_IX, px_JX, px_PX))) rfl ?_
      exact px_E_ret rfl rfl) ?_
    exact px_E_ret rfl rfl) ?_
  exact px_E_ret rfl rfl
set_option maxRecDepth 100000 in
set_option maxHeartbeats 4000000 in
theorem px_r40_12 {ro : px_RO} {dd : Nat}  : px_RX ro (dd + 8) 327 [.ref 95, .int 11] (.int 0) := by
  intro Ic Jc Pc
  refine ⟨(px_shX, (px_mI Ic), (px_mJ Jc), (px_mP Pc)), ?_, rfl⟩
  show px_E ro (dd + 8) 327 (0, _, [], _) _ _
  refine px_E_seg 6 (σ' := (20, [(0, .ref 95), (1, .int 11)], [], (px_shX, (px_mI Ic), (px_mJ Jc), (px_mP Pc)))) rfl ?_
  refine px_E_seg 3 (σ' := (24, [(0, .ref 95), (1, .int 11)], [.int 11, .int 0, .int 11], (px_shX, (px_mI Ic), (px_mJ Jc), (px_mP Pc)))) rfl ?_
  refine px_E_call (j := 183) (as := [.int 11, .int 0, .int 11]) (rest := []) (v := some (.int 1)) (h1 := (px_shX, (px_mI Ic), (px_mJ Jc), (px_mP Pc))) rfl rfl rfl (by
    refine px_E_seg 6 (σ' := (10, [(0, .int 11), (1, .int 0), (2, .int 11)], [], (px_shX, (px_mI Ic), (px_mJ Jc), (px_mP Pc)))) rfl ?_
    refine px_E_seg 2 (σ' := (15, [(0, .int 11), (1, .int 0), (2, .int 11)], [.int 1], (px_shX, (px_mI Ic), (px_mJ Jc), (px_mP Pc)))) rfl ?_
    exact px_E_ret rfl rfl) ?_
  refine px_E_seg 6 (σ' := (54, [(0, .ref 95), (1, .int 11)], [.int 0], (px_shX, (px_mI Ic), (px_mJ Jc), (px_mP Pc)))) rfl ?_
  exact px_E_ret rfl rfl
set_option maxRecDepth 100000 in
set_option maxHeartbeats 4000000 in
theorem px_x40_13 {ro : px_RO} {dd : Nat}  : px_CX ro (dd + 8) 179 [.ref 0, .int 12] (.int 0) := by
  refine ⟨px_IX, px_PX, ?_, px_fr_0, px_frP_0⟩
  show px_E ro (dd + 8) 179 (0, _, [], _) _ _
  refine px_E_seg 5 (σ' := (165, [(0, .ref 0), (1, .int 12)], [.int 0], (px_shX, px_IX, px_JX, px_PX))) rfl ?_
  exact px_E_ret rfl rfl
set_option maxRecDepth 100000 in
set_option maxHeartbeats 4000000 in
theorem px_r40_13 {ro : px_RO} {dd : Nat}  : px_RX ro (dd + 8) 327 [.ref 95, .int 12] (.int 0) := by
  intro Ic Jc Pc
  refine ⟨(px_shX, (px_mI Ic), (px_mJ Jc), (px_mP Pc)), ?_, rfl⟩
  show px_E ro (dd + 8) 327 (0, _, [], _) _ _
  refine px_E_seg 6 (σ' := (20, [(0, .ref 95), (1, .int 12)], [], (px_shX, (px_mI Ic), (px_mJ Jc), (px_mP Pc)))) rfl ?_
  refine px_E_seg 3 (σ' := (24, [(0, .ref 95), (1, .int 12)], [.int 11, .int 0, .int 12], (px_shX, (px_mI Ic), (px_mJ Jc), (px_mP Pc)))) rfl ?_
  refine px_E_call (j := 183) (as := [.int 12, .int 0, .int 11]) (rest := []) (v := some (.int 0)) (h1 := (px_shX, (px_mI Ic), (px_mJ Jc), (px_mP Pc))) rfl rfl rfl (by
    refine px_E_seg 6 (σ' := (14, [(0, .int 12), (1, .int 0), (2, .int 11)], [], (px_shX, (px_mI Ic), (px_mJ Jc), (px_mP Pc)))) rfl ?_
    refine px_E_seg 1 (σ' := (15, [(0, .int 12), (1, .int 0), (2, .int 11)], [.int 0], (px_shX, (px_mI Ic), (px_mJ Jc), (px_mP Pc)))) rfl ?_
    exact px_E_ret rfl rfl) ?_
  refine px_E_seg 6 (σ' := (49, [(0, .ref 95), (1, .int 12)], [.int 0], (px_shX, (px_mI Ic), (px_mJ Jc), (px_mP Pc)))) rfl ?_
  refine px_E_seg 1 (σ' := (54, [(0, .ref 95), (1, .int 12)], [.int 0], (px_shX, (px_mI Ic), (px_mJ Jc), (px_mP Pc)))) rfl ?_
  exact px_E_ret rfl rfl
set_option maxRecDepth 100000 in
set_option maxHeartbeats 4000000 in
theorem px_x40_14 {ro : px_RO} {dd : Nat} (a1 : Int32) (ha1 : 13 ≤ a1.toInt ∧ a1.toInt ≤ 2147483647) : px_CX ro (dd + 8) 179 [.ref 0, .int a1] (.int (-2)) := by
  refine ⟨px_IX, px_PX, ?_, px_fr_0, px_frP_0⟩
  show px_E ro (dd + 8) 179 (0, _, [], _) _ _
  refine px_E_seg 1 (σ' := (1, [(0, .ref 0), (1, .int a1)], [.int a1], (px_shX, px_IX, px_JX, px_PX))) rfl ?_
  refine px_E_tabO (t := 166) rfl rfl (by omega) ?_
  refine px_E_seg 1 (σ' := (168, [(0, .ref 0), (1, .int a1)], [.int (-2)], (px_shX, px_IX, px_JX, px_PX))) rfl ?_
  exact px_E_ret rfl rfl
set_option maxRecDepth 100000 in
set_option maxHeartbeats 4000000 in
theorem px_r40_14 {ro : px_RO} {dd : Nat} (a1 : Int32) (ha1 : 13 ≤ a1.toInt ∧ a1.toInt ≤ 2147483647) : px_RX ro (dd + 8) 327 [.ref 95, .int a1] (.int (-2)) := by
  intro Ic Jc Pc
  refine ⟨(px_shX, (px_mI Ic), (px_mJ Jc), (px_mP Pc)), ?_, rfl⟩
  show px_E ro (dd + 8) 327 (0, _, [], _) _ _
  refine px_E_seg 2 (σ' := (2, [(0, .ref 95), (1, .int a1)], [.int 4, .int a1], (px_shX, (px_mI Ic), (px_mJ Jc), (px_mP Pc)))) rfl ?_
  refine px_E_icT (t := 10) rfl rfl (show a1.toInt ≠ (4 : Int) by omega) ?_
  refine px_E_seg 2 (σ' := (12, [(0, .ref 95), (1, .int a1)], [.int 5, .int a1], (px_shX, (px_mI Ic), (px_mJ Jc), (px_mP Pc)))) rfl ?_
  refine px_E_icT (t := 20) rfl rfl (show a1.toInt ≠ (5 : Int) by omega) ?_
  refine px_E_seg 3 (σ' := (24, [(0, .ref 95), (1, .int a1)], [.int 11, .int 0, .int a1], (px_shX, (px_mI Ic), (px_mJ Jc), (px_mP Pc)))) rfl ?_
  refine px_E_call (j := 183) (as := [.int a1, .int 0, .int 11]) (rest := []) (v := some (.int 0)) (h1 := (px_shX, (px_mI Ic), (px_mJ Jc), (px_mP Pc))) rfl rfl rfl (by
    refine px_E_seg 2 (σ' := (2, [(0, .int a1), (1, .int 0), (2, .int 11)], [.int 0, .int a1], (px_shX, (px_mI Ic), (px_mJ Jc), (px_mP Pc)))) rfl ?_
    refine px_E_icF (t := 14) rfl rfl (show (0 : Int) ≤ a1.toInt by omega) ?_
    refine px_E_seg 2 (σ' := (7, [(0, .int a1), (1, .int 0), (2, .int 11)], [.int 11, .int a1], (px_shX, (px_mI Ic), (px_mJ Jc), (px_mP Pc)))) rfl ?_
    refine px_E_icT (t := 14) rfl rfl (show (11 : Int) < a1.toInt by omega) ?_
    refine px_E_seg 1 (σ' := (15, [(0, .int a1), (1, .int 0), (2, .int 11)], [.int 0], (px_shX, (px_mI Ic), (px_mJ Jc), (px_mP Pc)))) rfl ?_
    exact px_E_ret rfl rfl) ?_
  refine px_E_seg 3 (σ' := (42, [(0, .ref 95), (1, .int a1)], [.int 12, .int a1], (px_shX, (px_mI Ic), (px_mJ Jc), (px_mP Pc)))) rfl ?_
  refine px_E_icT (t := 52) rfl rfl (show a1.toInt ≠ (12 : Int) by omega) ?_
  refine px_E_seg 1 (σ' := (54, [(0, .ref 95), (1, .int a1)], [.int (-2)], (px_shX, (px_mI Ic), (px_mJ Jc), (px_mP Pc)))) rfl ?_
  exact px_E_ret rfl rfl
