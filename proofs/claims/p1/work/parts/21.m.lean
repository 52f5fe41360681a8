set_option maxRecDepth 100000 in
set_option maxHeartbeats 4000000 in
theorem px_x4_0 {ro : px_RO} {dd : Nat} (a1 : Int32) (ha1 : (-2147483648) ≤ a1.toInt ∧ a1.toInt ≤ (-1)) : px_CX ro (dd + 8) 27 [.ref 0, .int a1] (.int (-1)) := by
  refine ⟨px_IX, px_PX, ?_, px_fr_0, px_frP_0⟩
  show px_E ro (dd + 8) 27 (0, _, [], _) _ _
  refine px_E_seg 5 (σ' := (9, [(0, .ref 0), (1, .int a1)], [.int 0, .int 0, .int a1], (px_shX, px_IX, px_JX, px_PX))) rfl ?_
  refine px_E_call (j := 15) (as := [.int a1, .int 0, .int 0]) (rest := []) (v := some (.int 0)) (h1 := (px_shX, px_IX, px_JX, px_PX)) rfl rfl rfl (by
    refine px_E_seg 2 (σ' := (2, [(0, .int a1), (1, .int 0), (2, .int 0)], [.int 0, .int a1], (px_shX, px_IX, px_JX, px_PX))) rfl ?_
    refine px_E_icT (t := 14) rfl rfl (show a1.toInt < (0 : Int) by omega) ?_
    refine px_E_seg 1 (σ' := (15, [(0, .int a1), (1, .int 0), (2, .int 0)], [.int 0], (px_shX, px_IX, px_JX, px_PX))) rfl ?_
    exact px_E_ret rfl rfl) ?_
  refine px_E_seg 2 (σ' := (16, [(0, .ref 0), (1, .int a1)], [.int (-1)], (px_shX, px_IX, px_JX, px_PX))) rfl ?_
  exact px_E_ret rfl rfl
set_option maxRecDepth 100000 in
set_option maxHeartbeats 4000000 in
theorem px_r4_0 {ro : px_RO} {dd : Nat} (a1 : Int32) (ha1 : (-2147483648) ≤ a1.toInt ∧ a1.toInt ≤ (-1)) : px_RX ro (dd + 8) 194 [.ref 95, .int a1] (.int (-1)) := by
  intro Ic Jc Pc
  refine ⟨(px_shX, (px_mI Ic), (px_mJ Jc), (px_mP Pc)), ?_, rfl⟩
  show px_E ro (dd + 8) 194 (0, _, [], _) _ _
  refine px_E_seg 4 (σ' := (6, [(0, .ref 95), (1, .int a1)], [.int 0, .int 0, .int a1], (px_shX, (px_mI Ic), (px_mJ Jc), (px_mP Pc)))) rfl ?_
  refine px_E_call (j := 183) (as := [.int a1, .int 0, .int 0]) (rest := []) (v := some (.int 0)) (h1 := (px_shX, (px_mI Ic), (px_mJ Jc), (px_mP Pc))) rfl rfl rfl (by
    refine px_E_seg 2 (σ' := (2, [(0, .int a1), (1, .int 0), (2, .int 0)], [.int 0, .int a1], (px_shX, (px_mI Ic), (px_mJ Jc), (px_mP Pc)))) rfl ?_
    refine px_E_icT (t := 14) rfl rfl (show a1.toInt < (0 : Int) by omega) ?_
    refine px_E_seg 1 (σ' := (15, [(0, .int a1), (1, .int 0), (2, .int 0)], [.int 0], (px_shX, (px_mI Ic), (px_mJ Jc), (px_mP Pc)))) rfl ?_
    exact px_E_ret rfl rfl) ?_
  refine px_E_seg 2 (σ' := (13, [(0, .ref 95), (1, .int a1)], [.int (-1)], (px_shX, (px_mI Ic), (px_mJ Jc), (px_mP Pc)))) rfl ?_
  exact px_E_ret rfl rfl
set_option maxRecDepth 100000 in
set_option maxHeartbeats 4000000 in
theorem px_x4_1 {ro : px_RO} {dd : Nat}  : px_CX ro (dd + 8) 27 [.ref 0, .int 0] (.int 0) := by
  refine ⟨(px_up px_IX 31 1 0), px_PX, ?_, (px_fr_up (Nat.le_of_ble_eq_true rfl) px_fr_0), px_frP_0⟩
  show px_E ro (dd + 8) 27 (0, _, [], _) _ _
  refine px_E_seg 5 (σ' := (9, [(0, .ref 0), (1, .int 0)], [.int 0, .int 0, .int 0], (px_shX, px_IX, px_JX, px_PX))) rfl ?_
  refine px_E_call (j := 15) (as := [.int 0, .int 0, .int 0]) (rest := []) (v := some (.int 1)) (h1 := (px_shX, px_IX, px_JX, px_PX)) rfl rfl rfl (by
    refine px_E_seg 6 (σ' := (10, [(0, .int 0), (1, .int 0), (2, .int 0)], [], (px_shX, px_IX, px_JX, px_PX))) rfl ?_
    refine px_E_seg 2 (σ' := (15, [(0, .int 0), (1, .int 0), (2, .int 0)], [.int 1], (px_shX, px_IX, px_JX, px_PX))) rfl ?_
    exact px_E_ret rfl rfl) ?_
  refine px_E_seg 6 (σ' := (26, [(0, .ref 0), (1, .int 0)], [.int 0], (px_shX, (px_up px_IX 31 1 0), px_JX, px_PX))) rfl ?_
  exact px_E_ret rfl rfl
set_option maxRecDepth 100000 in
set_option maxHeartbeats 4000000 in
theorem px_r4_1 {ro : px_RO} {dd : Nat}  : px_RX ro (dd + 8) 194 [.ref 95, .int 0] (.int 0) := by
  intro Ic Jc Pc
  refine ⟨(px_shX, (px_up (px_mI Ic) 95 4 0), (px_mJ Jc), (px_mP Pc)), ?_, rfl⟩
  show px_E ro (dd + 8) 194 (0, _, [], _) _ _
  refine px_E_seg 4 (σ' := (6, [(0, .ref 95), (1, .int 0)], [.int 0, .int 0, .int 0], (px_shX, (px_mI Ic), (px_mJ Jc), (px_mP Pc)))) rfl ?_
  refine px_E_call (j := 183) (as := [.int 0, .int 0, .int 0]) (rest := []) (v := some (.int 1)) (h1 := (px_shX, (px_mI Ic), (px_mJ Jc), (px_mP Pc))) rfl rfl rfl (by
    refine px_E_seg 6 (σ' := (10, [(0, .int 0), (1, .int 0), (2, .int 0)], [], (px_shX, (px_mI Ic), (px_mJ Jc), (px_mP Pc)))) rfl ?_
    refine px_E_seg 2 (σ' := (15, [(0, .int 0), (1, .int 0), (2, .int 0)], [.int 1], (px_shX, (px_mI Ic), (px_mJ Jc), (px_mP Pc)))) rfl ?_
    exact px_E_ret rfl rfl) ?_
  refine px_E_seg 5 (σ' := (20, [(0, .ref 95), (1, .int 0)], [.int 0], (px_shX, (px_up (px_mI Ic) 95 4 0), (px_mJ Jc), (px_mP Pc)))) rfl ?_
  exact px_E_ret rfl rfl
set_option maxRecDepth 100000 in
set_option maxHeartbeats 4000000 in
theorem px_x4_2 {ro : px_RO} {dd : Nat} (a1 : Int32) (ha1 : 1 ≤ a1.toInt ∧ a1.toInt ≤ 2147483647) : px_CX ro (dd + 8) 27 [.ref 0, .int a1] (.int (-1)) := by
  refine ⟨px_IX, px_PX, ?_, px_fr_0, px_frP_0⟩
  show px_E ro (dd + 8) 27 (0, _, [], _) _ _
  refine px_E_seg 5 (σ' := (9, [(0, .ref 0), (1, .int a1)], [.int 0, .int 0, .int a1], (px_shX, px_IX, px_JX, px_PX))) rfl ?_
  refine px_E_call (j := 15) (as := [.int a1, .int 0, .int 0]) (rest := []) (v := some (.int 0)) (h1 := (px_shX, px_IX, px_JX, px_PX)) rfl rfl rfl (by
    refine px_E_seg 2 (σ' := (2, [(0, .int a1), (1, .int 0), (2, .int 0)], [.int 0, .int a1], (px_shX, px_IX, px_JX, px_PX))) rfl ?_
    refine px_E_icF (t := 14) rfl rfl (show (0 : Int) ≤ a1.toInt by omega) ?_
    refine px_E_seg 2 (σ' := (7, [(0, .int a1), (1, .int 0), (2, .int 0)], [.int 0, .int a1], (px_shX, px_IX, px_JX, px_PX))) rfl ?_
    refine px_E_icT (t := 14) rfl rfl (show (0 : Int) < a1.toInt by omega) ?_
    refine px_E_seg 1 (σ' := (15, [(0, .int a1), (1, .int 0), (2, .int 0)], [.int 0], (px_shX, px_IX, px_JX, px_PX))) rfl ?_
    exact px_E_ret rfl rfl) ?_
  refine px_E_seg 2 (σ' := (16, [(0, .ref 0), (1, .int a1)], [.int (-1)], (px_shX, px_IX, px_JX, px_PX))) rfl ?_
  exact px_E_ret rfl rfl
set_option maxRecDepth 100000 in
set_option maxHeartbeats 4000000 in
theorem px_r4_2 {ro : px_RO} {dd : Nat} (a1 : Int32) (ha1 : 1 ≤ a1.toInt ∧ a1.toInt ≤ 2147483647) : px_RX ro (dd + 8) 194 [.ref 95, .int a1] (.int (-1)) := by
  intro Ic Jc Pc
  refine ⟨(px_shX, (px_mI Ic), (px_mJ Jc), (px_mP Pc)), ?_, rfl⟩
  show px_E ro (dd + 8) 194 (0, _, [], _) _ _
  refine px_E_seg 4 (σ' := (6, [(0, .ref 95), (1, .int a1)], [.int 0, .int 0, .int a1], (px_shX, (px_mI Ic), (px_mJ Jc), (px_mP Pc)))) rfl ?_
  refine px_E_call (j := 183) (as := [.int a1, .int 0, .int 0]) (rest := []) (v := some (.int 0)) (h1 := (px_shX, (px_mI Ic), (px_mJ Jc), (px_mP Pc))) rfl rfl rfl (by
    refine px_E_seg 2 (σ' := (2, [(0, .int a1), (1, .int 0), (2, .int 0)], [.int 0, .int a1], (px_shX, (px_mI Ic), (px_mJ Jc), (px_mP Pc)))) rfl ?_
    refine px_E_icF (t := 14) rfl rfl (show (0 : Int) ≤ a1.toInt by omega) ?_
    refine px_E_seg 2 (σ' := (7, [(0, .int a1), (1, .int 0), (2, .int 0)], [.int 0, .int a1], (px_shX, (px_mI Ic), (px_mJ Jc), (px_mP Pc)))) rfl ?_
    refine px_E_icT (t := 14) rfl rfl (show (0 : Int) < a1.toInt by omega) ?_
    refine px_E_seg 1 (σ' := (15, [(0, .int a1), (1, .int 0), (2, .int 0)], [.int 0], (px_shX, (px_mI Ic), (px_mJ Jc), (px_mP Pc)))) rfl ?_
    exact px_E_ret rfl rfl) ?_
  refine px_E_seg 2 (σ' := (13, [(0, .ref 95), (1, .int a1)], [.int (-1)], (px_shX, (px_mI Ic), (px_mJ Jc), (px_mP Pc)))) rfl ?_
  exact px_E_ret rfl rfl
set_option maxRecDepth 100000 in
set_option maxHeartbeats 4000000 in
theorem px_x5_0 {ro : px_RO} {dd : Nat}  : px_CX ro (dd + 8) 28 [.ref 0] (.int 0) := by
  refine ⟨(px_up (px_up (px_up (px_up (px_up (px_fl (px_up (px_up (px_fl (px_up (px_up px_IX 35 1 0) 35 7 0) 37 3 (-1)) 31 2 0) 31 3 (-1)) 33 26 (-1)) 31 7 0) 31 9 0) 31 8 0) 31 1 0) 0 11 1), (px_up px_PX 31 5 (some 35)), ?_, (px_fr_up (Nat.le_of_ble_eq_true rfl) (px_fr_up (Nat.le_of_ble_eq_true rfl) (px_fr_up (Nat.le_of_ble_eq_true rfl) (px_fr_up (Nat.le_of_ble_eq_true rfl) (px_fr_up (Nat.le_of_ble_eq_true rfl) (px_fr_fl (Nat.le_of_ble_eq_true rfl) (px_fr_up (Nat.le_of_ble_eq_true rfl) (px_fr_up (Nat.le_of_ble_eq_true rfl) (px_fr_fl (Nat.le_of_ble_eq_true rfl) (px_fr_up (Nat.le_of_ble_eq_true rfl) (px_fr_up (Nat.le_of_ble_eq_true rfl) px_fr_0))))))))))), (px_frP_up (Nat.le_of_ble_eq_true rfl) px_frP_0)⟩
  show px_E ro (dd + 8) 28 (0, _, [], _) _ _
  refine px_E_seg 6 (σ' := (14, [(0, .ref 0)], [.ref 31], (px_shX, px_IX, px_JX, px_PX))) rfl ?_
  refine px_E_seg 5 (σ' := (23, [(0, .ref 0)], [.ref 35, .ref 31], (px_shX, px_IX, px_JX, px_PX))) rfl ?_
  refine px_E_call (j := 29) (as := [.ref 31, .ref 35]) (rest := []) (v := some (.int 1)) (h1 := (px_shX, (px_up (px_up (px_up (px_up (px_fl (px_up (px_up (px_fl (px_up (px_up px_IX 35 1 0) 35 7 0) 37 3 (-1)) 31 2 0) 31 3 (-1)) 33 26 (-1)) 31 7 0) 31 9 0) 31 8 0) 31 1 0), px_JX, (px_up px_PX 31 5 (some 35)))) rfl rfl rfl (by
    refine px_E_seg 5 (σ' := (9, [(0, .ref 31), (1, .ref 35)], [.ref 35], (px_shX, px_IX, px_JX, (px_up px_PX 31 5 (some 35))))) rfl ?_
    refine px_E_call (j := 30) (as := [.ref 35]) (rest := []) (v := none) (h1 := (px_shX, (px_fl (px_up (px_up px_IX 35 1 0) 35 7 0) 37 3 (-1)), px_JX, (px_up px_PX 31 5 (some 35)))) rfl rfl rfl (by
      refine px_E_seg 6 (σ' := (10, [(0, .ref 35)], [], (px_shX, (px_up (px_up px_IX 35 1 0) 35 7 0), px_JX, (px_up px_PX 31 5 (some 35))))) rfl ?_
      refine px_E_seg 3 (σ' := (15, [(0, .ref 35)], [.int (-1), .ref 37], (px_shX, (px_up (px_up px_IX 35 1 0) 35 7 0), px_JX, (px_up px_PX 31 5 (some 35))))) rfl ?_
      refine px_E_call (j := 3) (as := [.ref 37, .int (-1)]) (rest := []) (v := none) (h1 := (px_shX, (px_fl (px_up (px_up px_IX 35 1 0) 35 7 0) 37 3 (-1)), px_JX, (px_up px_PX 31 5 (some 35)))) rfl rfl rfl (px_fill 37 3 rfl (by decide) rfl rfl) ?_
      exact px_E_ret rfl rfl) ?_
    refine px_E_seg 6 (σ' := (22, [(0, .ref 31), (1, .ref 35)], [], (px_shX, (px_up (px_up (px_fl (px_up (px_up px_IX 35 1 0) 35 7 0) 37 3 (-1)) 31 2 0) 31 3 (-1)), px_JX, (px_up px_PX 31 5 (some 35))))) rfl ?_
    refine px_E_seg 3 (σ' := (27, [(0, .ref 31), (1, .ref 35)], [.int (-1), .ref 33], (px_shX, (px_up (px_up (px_fl (px_up (px_up px_IX 35 1 0) 35 7 0) 37 3 (-1)) 31 2 0) 31 3 (-1)), px_JX, (px_up px_PX 31 5 (some 35))))) rfl ?_
    refine px_E_call (j := 3) (as := [.ref 33, .int (-1)]) (rest := []) (v := none) (h1 := (px_shX, (px_fl (px_up (px_up (px_fl (px_up (px_up px_IX 35 1 0) 35 7 0) 37 3 (-1)) 31 2 0) 31 3 (-1)) 33 26 (-1)), px_JX, (px_up px_PX 31 5 (some 35)))) rfl rfl rfl (px_fill 33 26 rfl (by decide) rfl rfl) ?_
    refine px_E_seg 4 (σ' := (36, [(0, .ref 31), (1, .ref 35)], [.ref 31], (px_shX, (px_up (px_fl (px_up (px_up (px_fl (px_up (px_up px_IX 35 1 0) 35 7 0) 37 3 (-1)) 31 2 0) 31 3 (-1)) 33 26 (-1)) 31 7 0), px_JX, (px_up px_PX 31 5 (some 35))))) rfl ?_
    refine px_E_call (j := 31) (as := [.ref 31]) (rest := []) (v := none) (h1 := (px_shX, (px_up (px_up (px_up (px_fl (px_up (px_up (px_fl (px_up (px_up px_IX 35 1 0) 35 7 0) 37 3 (-1)) 31 2 0) 31 3 (-1)) 33 26 (-1)) 31 7 0) 31 9 0) 31 8 0), px_JX, (px_up px_PX 31 5 (some 35)))) rfl rfl rfl (by
      refine px_E_seg 6 (σ' := (13, [(0, .ref 31)], [.ref 31, .int 0], (px_shX, (px_up (px_fl (px_up (px_up (px_fl (px_up (px_up px_IX 35 1 0) 35 7 0) 37 3 (-1)) 31 2 0) 31 3 (-1)) 33 26 (-1)) 31 7 0), px_JX, (px_up px_PX 31 5 (some 35))))) rfl ?_
      refine px_E_seg 6 (σ' := (68, [(0, .ref 31)], [], (px_shX, (px_up (px_up (px_fl (px_up (px_up (px_fl (px_up (px_up px_IX 35 1 0) 35 7 0) 37 3 (-1)) 31 2 0) 31 3 (-1)) 33 26 (-1)) 31 7 0) 31 9 0), px_JX, (px_up px_PX 31 5 (some 35))))) rfl ?_
      refine px_E_seg 6 (σ' := (80, [(0, .ref 31)], [.ref 31], (px_shX, (px_up (px_up (px_fl (px_up (px_up (px_fl (px_up (px_up px_IX 35 1 0) 35 7 0) 37 3 (-1)) 31 2 0) 31 3 (-1)) 33 26 (-1)) 31 7 0) 31 9 0), px_JX, (px_up px_PX 31 5 (some 35))))) rfl ?_
      refine px_E_seg 3 (σ' := (144, [(0, .ref 31)], [], (px_shX, (px_up (px_up (px_up (px_fl (px_up (px_up (px_fl (px_up (px_up px_IX 35 1 0) 35 7 0) 37 3 (-1)) 31 2 0) 31 3 (-1)) 33 26 (-1)) 31 7 0) 31 9 0) 31 8 0), px_JX, (px_up px_PX 31 5 (some 35))))) rfl ?_
      exact px_E_ret rfl rfl) ?_
    refine px_E_seg 6 (σ' := (49, [(2, .int 0), (0, .ref 31), (1, .ref 35)], [.ref 31], (px_shX, (px_up (px_up (px_up (px_fl (px_up (px_up (px_fl (px_up (px_up px_IX 35 1 0) 35 7 0) 37 3 (-1)) 31 2 0) 31 3 (-1)) 33 26 (-1)) 31 7 0) 31 9 0) 31 8 0), px_JX, (px_up px_PX 31 5 (some 35))))) rfl ?_
    refine px_E_seg 6 (σ' := (78, [(2, .int 0), (0, .ref 31), (1, .ref 35)], [.ref 31], (px_shX, (px_up (px_up (px_up (px_up (px_fl (px_up (px_up (px_fl (px_up (px_up px_IX 35 1 0) 35 7 0) 37 3 (-1)) 31 2 0) 31 3 (-1)) 33 26 (-1)) 31 7 0) 31 9 0) 31 8 0) 31 1 0), px_JX, (px_up px_PX 31 5 (some 35))))) rfl ?_
    refine px_E_seg 4 (σ' := (89, [(2, .int 0), (0, .ref 31), (1, .ref 35)], [.int 1], (px_shX, (px_up (px_up (px_up (px_up (px_fl (px_up (px_up (px_fl (px_up (px_up px_IX 35 1 0) 35 7 0) 37 3 (-1)) 31 2 0) 31 3 (-1)) 33 26 (-1)) 31 7 0) 31 9 0) 31 8 0) 31 1 0), px_JX, (px_up px_PX 31 5 (some 35))))) rfl ?_
    exact px_E_ret rfl rfl) ?_
  refine px_E_seg 5 (σ' := (37, [(0, .ref 0)], [.int 1, .int 0, .ref 0], (px_shX, (px_up (px_up (px_up (px_up (px_fl (px_up (px_up (px_fl (px_up (px_up px_IX 35 1 0) 35 7 0) 37 3 (-1)) 31 2 0) 31 3 (-1)) 33 26 (-1)) 31 7 0) 31 9 0) 31 8 0) 31 1 0), px_JX, (px_up px_PX 31 5 (some 35))))) rfl ?_
  refine px_E_seg 5 (σ' := (46, [(0, .ref 0)], [.int 1, .int 1], (px_shX, (px_up (px_up (px_up (px_up (px_up (px_fl (px_up (px_up (px_fl (px_up (px_up px_IX 35 1 0) 35 7 0) 37 3 (-1)) 31 2 0) 31 3 (-1)) 33 26 (-1)) 31 7 0) 31 9 0) 31 8 0) 31 1 0) 0 11 1), px_JX, (px_up px_PX 31 5 (some 35))))) rfl ?_
  refine px_E_seg 1 (σ' := (47, [(0, .ref 0)], [.int 0], (px_shX, (px_up (px_up (px_up (px_up (px_up (px_fl (px_up (px_up (px_fl (px_up (px_up px_IX 35 1 0) 35 7 0) 37 3 (-1)) 31 2 0) 31 3 (-1)) 33 26 (-1)) 31 7 0) 31 9 0) 31 8 0) 31 1 0) 0 11 1), px_JX, (px_up px_PX 31 5 (some 35))))) rfl ?_
  exact px_E_ret rfl rfl
set_option maxRecDepth 100000 in
set_option maxHeartbeats 4000000 in
theorem px_r5_0 {ro : px_RO} {dd : Nat}  : px_RX ro (dd + 8) 195 [.ref 95] (.int 0) := by
  intro Ic Jc Pc
  refine ⟨(px_shX, (px_up (px_up (px_up (px_up (px_up (px_up (px_up (px_up (px_up (px_up (px_up (px_mI Ic) 95 12 0) 98 0 0) 95 13 0) 95 24 0) 95 7 0) 95 8 0) 95 9 0) 95 5 0) 95 6 (-1)) 95 4 0) 96 7 1), (px_mJ Jc), (px_mP Pc)), ?_, rfl⟩
  show px_E ro (dd + 8) 195 (0, _, [], _) _ _
  refine px_E_seg 6 (σ' := (13, [(0, .ref 95)], [], (px_shX, (px_mI Ic), (px_mJ Jc), (px_mP Pc)))) rfl ?_
  refine px_E_seg 2 (σ' := (15, [(0, .ref 95)], [.ref 95, .ref 95], (px_shX, (px_mI Ic), (px_mJ Jc), (px_mP Pc)))) rfl ?_
  refine px_E_call (j := 196) (as := [.ref 95]) (rest := [.ref 95]) (v := some (.int 0)) (h1 := (px_shX, (px_up (px_up (px_up (px_up (px_up (px_up (px_up (px_mI Ic) 95 12 0) 98 0 0) 95 13 0) 95 24 0) 95 7 0) 95 8 0) 95 9 0), (px_mJ Jc), (px_mP Pc))) rfl rfl rfl (by
    refine px_E_seg 6 (σ' := (11, [(0, .ref 95)], [.int 0, .int 705, .ref 95], (px_shX, (px_mI Ic), (px_mJ Jc), (px_mP Pc)))) rfl ?_
    refine px_E_seg 6 (σ' := (23, [(0, .ref 95)], [.int 0, .ref 98], (px_shX, (px_up (px_mI Ic) 95 12 0), (px_mJ Jc), (px_mP Pc)))) rfl ?_
    refine px_E_seg 6 (σ' := (31, [(0, .ref 95)], [.ref 95], (px_shX, (px_up (px_up (px_up (px_mI Ic) 95 12 0) 98 0 0) 95 13 0), (px_mJ Jc), (px_mP Pc)))) rfl ?_
    refine px_E_seg 6 (σ' := (41, [(0, .ref 95)], [.ref 95], (px_shX, (px_up (px_up (px_up (px_up (px_up (px_mI Ic) 95 12 0) 98 0 0) 95 13 0) 95 24 0) 95 7 0), (px_mJ Jc), (px_mP Pc)))) rfl ?_
    refine px_E_call (j := 197) (as := [.ref 95]) (rest := []) (v := none) (h1 := (px_shX, (px_up (px_up (px_up (px_up (px_up (px_up (px_up (px_mI Ic) 95 12 0) 98 0 0) 95 13 0) 95 24 0) 95 7 0) 95 8 0) 95 9 0), (px_mJ Jc), (px_mP Pc))) rfl rfl rfl (by
      refine px_E_seg 3 (σ' := (5, [(0, .ref 95)], [.int 0, .ref 95], (px_shX, (px_up (px_up (px_up (px_up (px_up (px_mI Ic) 95 12 0) 98 0 0) 95 13 0) 95 24 0) 95 7 0), (px_mJ Jc), (px_mP Pc)))) rfl ?_
      refine px_E_call (j := 198) (as := [.ref 95, .int 0]) (rest := []) (v := some (.int (-1))) (h1 := (px_shX, (px_up (px_up (px_up (px_up (px_up (px_mI Ic) 95 12 0) 98 0 0) 95 13 0) 95 24 0) 95 7 0), (px_mJ Jc), (px_mP Pc))) rfl rfl rfl (by
        refine px_E_seg 5 (σ' := (18, [(0, .ref 95), (1, .int 0)], [.int (-1)], (px_shX, (px_up (px_up (px_up (px_up (px_up (px_mI Ic) 95 12 0) 98 0 0) 95 13 0) 95 24 0) 95 7 0), (px_mJ Jc), (px_mP Pc)))) rfl ?_
        exact px_E_ret rfl rfl) ?_
      refine px_E_seg 5 (σ' := (18, [(0, .ref 95)], [.int 0, .ref 95], (px_shX, (px_up (px_up (px_up (px_up (px_up (px_mI Ic) 95 12 0) 98 0 0) 95 13 0) 95 24 0) 95 7 0), (px_mJ Jc), (px_mP Pc)))) rfl ?_
      refine px_E_call (j := 198) (as := [.ref 95, .int 0]) (rest := []) (v := some (.int (-1))) (h1 := (px_shX, (px_up (px_up (px_up (px_up (px_up (px_mI Ic) 95 12 0) 98 0 0) 95 13 0) 95 24 0) 95 7 0), (px_mJ Jc), (px_mP Pc))) rfl rfl rfl (by
        refine px_E_seg 5 (σ' := (18, [(0, .ref 95), (1, .int 0)], [.int (-1)], (px_shX, (px_up (px_up (px_up (px_up (px_up (px_mI Ic) 95 12 0) 98 0 0) 95 13 0) 95 24 0) 95 7 0), (px_mJ Jc), (px_mP Pc)))) rfl ?_
        exact px_E_ret rfl rfl) ?_
      refine px_E_seg 6 (σ' := (47, [(0, .ref 95)], [], (px_shX, (px_up (px_up (px_up (px_up (px_up (px_up (px_mI Ic) 95 12 0) 98 0 0) 95 13 0) 95 24 0) 95 7 0) 95 8 0), (px_mJ Jc), (px_mP Pc)))) rfl ?_
      refine px_E_seg 3 (σ' := (52, [(0, .ref 95)], [.int 0, .ref 95], (px_shX, (px_up (px_up (px_up (px_up (px_up (px_up (px_mI Ic) 95 12 0) 98 0 0) 95 13 0) 95 24 0) 95 7 0) 95 8 0), (px_mJ Jc), (px_mP Pc)))) rfl ?_
      refine px_E_call (j := 198) (as := [.ref 95, .int 0]) (rest := []) (v := some (.int (-1))) (h1 := (px_shX, (px_up (px_up (px_up (px_up (px_up (px_up (px_mI Ic) 95 12 0) 98 0 0) 95 13 0) 95 24 0) 95 7 0) 95 8 0), (px_mJ Jc), (px_mP Pc))) rfl rfl rfl (by
        refine px_E_seg 5 (σ' := (18, [(0, .ref 95), (1, .int 0)], [.int (-1)], (px_shX, (px_up (px_up (px_up (px_up (px_up (px_up (px_mI Ic) 95 12 0) 98 0 0) 95 13 0) 95 24 0) 95 7 0) 95 8 0), (px_mJ Jc), (px_mP Pc)))) rfl ?_
        exact px_E_ret rfl rfl) ?_
      refine px_E_seg 6 (σ' := (65, [(1, .int (-1)), (0, .ref 95)], [], (px_shX, (px_up (px_up (px_up (px_up (px_up (px_up (px_up (px_mI Ic) 95 12 0) 98 0 0) 95 13 0) 95 24 0) 95 7 0) 95 8 0) 95 9 0), (px_mJ Jc), (px_mP Pc)))) rfl ?_
      refine px_E_seg 1 (σ' := (310, [(1, .int (-1)), (0, .ref 95)], [], (px_shX, (px_up (px_up (px_up (px_up (px_up (px_up (px_up (px_mI Ic) 95 12 0) 98 0 0) 95 13 0) 95 24 0) 95 7 0) 95 8 0) 95 9 0), (px_mJ Jc), (px_mP Pc)))) rfl ?_
      exact px_E_ret rfl rfl) ?_
    refine px_E_seg 4 (σ' := (66, [(0, .ref 95)], [.int 0], (px_shX, (px_up (px_up (px_up (px_up (px_up (px_up (px_up (px_mI Ic) 95 12 0) 98 0 0) 95 13 0) 95 24 0) 95 7 0) 95 8 0) 95 9 0), (px_mJ Jc), (px_mP Pc)))) rfl ?_
    exact px_E_ret rfl rfl) ?_
  refine px_E_seg 6 (σ' := (30, [(0, .ref 95)], [.int (-1), .ref 95], (px_shX, (px_up (px_up (px_up (px_up (px_up (px_up (px_up (px_up (px_mI Ic) 95 12 0) 98 0 0) 95 13 0) 95 24 0) 95 7 0) 95 8 0) 95 9 0) 95 5 0), (px_mJ Jc), (px_mP Pc)))) rfl ?_
  refine px_E_seg 6 (σ' := (46, [(0, .ref 95)], [.ref 95], (px_shX, (px_up (px_up (px_up (px_up (px_up (px_up (px_up (px_up (px_up (px_up (px_mI Ic) 95 12 0) 98 0 0) 95 13 0) 95 24 0) 95 7 0) 95 8 0) 95 9 0) 95 5 0) 95 6 (-1)) 95 4 0), (px_mJ Jc), (px_mP Pc)))) rfl ?_
  refine px_E_seg 6 (σ' := (61, [(0, .ref 95)], [.int 7, .ref 96, .int 7, .ref 96], (px_shX, (px_up (px_up (px_up (px_up (px_up (px_up (px_up (px_up (px_up (px_up (px_mI Ic) 95 12 0) 98 0 0) 95 13 0) 95 24 0) 95 7 0) 95 8 0) 95 9 0) 95 5 0) 95 6 (-1)) 95 4 0), (px_mJ Jc), (px_mP Pc)))) rfl ?_
  refine px_E_seg 2 (σ' := (63, [(0, .ref 95)], [.int 1, .int 0, .int 7, .ref 96], (px_shX, (px_up (px_up (px_up (px_up (px_up (px_up (px_up (px_up (px_up (px_up (px_mI Ic) 95 12 0) 98 0 0) 95 13 0) 95 24 0) 95 7 0) 95 8 0) 95 9 0) 95 5 0) 95 6 (-1)) 95 4 0), (px_mJ Jc), (px_mP Pc)))) rfl ?_
  refine px_E_seg 6 (σ' := (72, [(0, .ref 95)], [.int 1], (px_shX, (px_up (px_up (px_up (px_up (px_up (px_up (px_up (px_up (px_up (px_up (px_up (px_mI Ic) 95 12 0) 98 0 0) 95 13 0) 95 24 0) 95 7 0) 95 8 0) 95 9 0) 95 5 0) 95 6 (-1)) 95 4 0) 96 7 1), (px_mJ Jc), (px_mP Pc)))) rfl ?_
  refine px_E_seg 1 (σ' := (73, [(0, .ref 95)], [.int 1, .int 1], (px_shX, (px_up (px_up (px_up (px_up (px_up (px_up (px_up (px_up (px_up (px_up (px_up (px_mI Ic) 95 12 0) 98 0 0) 95 13 0) 95 24 0) 95 7 0) 95 8 0) 95 9 0) 95 5 0) 95 6 (-1)) 95 4 0) 96 7 1), (px_mJ Jc), (px_mP Pc)))) rfl ?_
  refine px_E_seg 1 (σ' := (74, [(0, .ref 95)], [.int 0], (px_shX, (px_up (px_up (px_up (px_up (px_up (px_up (px_up (px_up (px_up (px_up (px_up (px_mI Ic) 95 12 0) 98 0 0) 95 13 0) 95 24 0) 95 7 0) 95 8 0) 95 9 0) 95 5 0) 95 6 (-1)) 95 4 0) 96 7 1), (px_mJ Jc), (px_mP Pc)))) rfl ?_
  exact px_E_ret rfl rfl
set_option maxRecDepth 100000 in
set_option maxHeartbeats 4000000 in
theorem px_x6_0 {ro : px_RO} {dd : Nat} (a1 : Int32) (ha1 : (-2147483648) ≤ a1.toInt ∧ a1.toInt ≤ (-1)) : px_CX ro (dd + 8) 59 [.ref 0, .int a1] (.int (-1)) := by
  refine ⟨px_IX, px_PX, ?_, px_fr_0, px_frP_0⟩
  show px_E ro (dd + 8) 59 (0, _, [], _) _ _
  refine px_E_seg 1 (σ' := (1, [(0, .ref 0), (1, .int a1)], [.int a1], (px_shX, px_IX, px_JX, px_PX))) rfl ?_
  refine px_E_ifT (t := 12) rfl rfl (show a1.toInt ≠ (0 : Int) by omega) ?_
  refine px_E_seg 2 (σ' := (14, [(0, .ref 0), (1, .int a1)], [.int 1, .int a1], (px_shX, px_IX, px_JX, px_PX))) rfl ?_
  refine px_E_icT (t := 27) rfl rfl (show a1.toInt ≠ (1 : Int) by omega) ?_
  refine px_E_seg 1 (σ' := (28, [(0, .ref 0), (1, .int a1)], [.int (-1)], (px_shX, px_IX, px_JX, px_PX))) rfl ?_
  exact px_E_ret rfl rfl
set_option maxRecDepth 100000 in
set_option maxHeartbeats 4000000 in
theorem px_r6_0 {ro : px_RO} {dd : Nat} (a1 : Int32) (ha1 : (-2147483648) ≤ a1.toInt ∧ a1.toInt ≤ (-1)) : px_RX ro (dd + 8) 236 [.ref 95, .int a1] (.int (-1)) := by
  intro Ic Jc Pc
  refine ⟨(px_shX, (px_mI Ic), (px_mJ Jc), (px_mP Pc)), ?_, rfl⟩
  show px_E ro (dd + 8) 236 (0, _, [], _) _ _
  refine px_E_seg 1 (σ' := (1, [(0, .ref 95), (1, .int a1)], [.int a1], (px_shX, (px_mI Ic), (px_mJ Jc), (px_mP Pc)))) rfl ?_
  refine px_E_ifT (t := 11) rfl rfl (show a1.toInt ≠ (0 : Int) by omega) ?_
  refine px_E_seg 2 (σ' := (13, [(0, .ref 95), (1, .int a1)], [.int 1, .int a1], (px_shX, (px_mI Ic), (px_mJ Jc), (px_mP Pc)))) rfl ?_
  refine px_E_icT (t := 23) rfl rfl (show a1.toInt ≠ (1 : Int) by omega) ?_
  refine px_E_seg 1 (σ' := (24, [(0, .ref 95), (1, .int a1)], [.int (-1)], (px_shX, (px_mI Ic), (px_mJ Jc), (px_mP Pc)))) rfl ?_
  exact px_E_ret rfl rfl
set_option maxRecDepth 100000 in
set_option maxHeartbeats 4000000 in
theorem px_x6_1 {ro : px_RO} {dd : Nat}  : px_CX ro (dd + 8) 59 [.ref 0, .int 0] (.int (-1)) := by
  refine ⟨px_IX, px_PX, ?_, px_fr_0, px_frP_0⟩
  show px_E ro (dd + 8) 59 (0, _, [], _) _ _
  refine px_E_seg 5 (σ' := (11, [(0, .ref 0), (1, .int 0)], [.int (-1)], (px_shX, px_IX, px_JX, px_PX))) rfl ?_
  exact px_E_ret rfl rfl
set_option maxRecDepth 100000 in
set_option maxHeartbeats 4000000 in
theorem px_r6_1 {ro : px_RO} {dd : Nat}  : px_RX ro (dd + 8) 236 [.ref 95, .int 0] (.int (-1)) := by
  intro Ic Jc Pc
  refine ⟨(px_shX, (px_mI Ic), (px_mJ Jc), (px_mP Pc)), ?_, rfl⟩
  show px_E ro (dd + 8) 236 (0, _, [], _) _ _
  refine px_E_seg 5 (σ' := (24, [(0, .ref 95), (1, .int 0)], [.int (-1)], (px_shX, (px_mI Ic), (px_mJ Jc), (px_mP Pc)))) rfl ?_
  exact px_E_ret rfl rfl
set_option maxRecDepth 100000 in
set_option maxHeartbeats 4000000 in
theorem px_x6_2 {ro : px_RO} {dd : Nat}  : px_CX ro (dd + 8) 59 [.ref 0, .int 1] (.int (-1)) := by
  refine ⟨px_IX, px_PX, ?_, px_fr_0, px_frP_0⟩
  show px_E ro (dd + 8) 59 (0, _, [], _) _ _
  refine px_E_seg 6 (σ' := (18, [(0, .ref 0), (1, .int 1)], [.ref 0], (px_shX, px_IX, px_JX, px_PX))) rfl ?_
  refine px_E_seg 3 (σ' := (28, [(0, .ref 0), (1, .int 1)], [.int (-1)], (px_shX, px_IX, px_JX, px_PX))) rfl ?_
  exact px_E_ret rfl rfl
set_option maxRecDepth 100000 in
set_option maxHeartbeats 4000000 in
theorem px_r6_2 {ro : px_RO} {dd : Nat}  : px_RX ro (dd + 8) 236 [.ref 95, .int 1] (.int (-1)) := by
  intro Ic Jc Pc
  refine ⟨(px_shX, (px_mI Ic), (px_mJ Jc), (px_mP Pc)), ?_, rfl⟩
  show px_E ro (dd + 8) 236 (0, _, [], _) _ _
  refine px_E_seg 6 (σ' := (17, [(0, .ref 95), (1, .int 1)], [.ref 95], (px_shX, (px_mI Ic), (px_mJ Jc), (px_mP Pc)))) rfl ?_
  refine px_E_seg 2 (σ' := (24, [(0, .ref 95), (1, .int 1)], [.int (-1)], (px_shX, (px_mI Ic), (px_mJ Jc), (px_mP Pc)))) rfl ?_
  exact px_E_ret rfl rfl
set_option maxRecDepth 100000 in
set_option maxHeartbeats 4000000 in
theorem px_x6_3 {ro : px_RO} {dd : Nat} (a1 : Int32) (ha1 : 2 ≤ a1.toInt ∧ a1.toInt ≤ 2147483647) : px_CX ro (dd + 8) 59 [.ref 0, .int a1] (.int (-1)) := by
  refine ⟨px_IX, px_PX, ?_, px_fr_0, px_frP_0⟩
  show px_E ro (dd + 8) 59 (0, _, [], _) _ _
  refine px_E_seg 1 (σ' := (1, [(0, .ref 0), (1, .int a1)], [.int a1], (px_shX, px_IX, px_JX, px_PX))) rfl ?_
  refine px_E_ifT (t := 12) rfl rfl (show a1.toInt ≠ (0 : Int) by omega) ?_
  refine px_E_seg 2 (σ' := (14, [(0, .ref 0), (1, .int a1)], [.int 1, .int a1], (px_shX, px_IX, px_JX, px_PX))) rfl ?_
  refine px_E_icT (t := 27) rfl rfl (show a1.toInt ≠ (1 : Int) by omega) ?_
  refine px_E_seg 1 (σ' := (28, [(0, .ref 0), (1, .int a1)], [.int (-1)], (px_shX, px_IX, px_JX, px_PX))) rfl ?_
  exact px_E_ret rfl rfl
set_option maxRecDepth 100000 in
set_option maxHeartbeats 4000000 in
theorem px_r6_3 {ro : px_RO} {dd : Nat} (a1 : Int32) (ha1 : 2 ≤ a1.toInt ∧ a1.toInt ≤ 2147483647) : px_RX ro (dd + 8) 236 [.ref 95, .int a1] (.int (-1)) := by
  intro Ic Jc Pc
  refine ⟨(px_shX, (px_mI Ic), (px_mJ Jc), (px_mP Pc)), ?_, rfl⟩
  show px_E ro (dd + 8) 236 (0, _, [], _) _ _
  refine px_E_seg 1 (σ' := (1, [(0, .ref 95), (1, .int a1)], [.int a1], (px_shX, (px_mI Ic), (px_mJ Jc), (px_mP Pc)))) rfl ?_
  refine px_E_ifT (t := 11) rfl rfl (show a1.toInt ≠ (0 : Int) by omega) ?_
  refine px_E_seg 2 (σ' := (13, [(0, .ref 95), (1, .int a1)], [.int 1, .int a1], (px_shX, (px_mI Ic), (px_mJ Jc), (px_mP Pc)))) rfl ?_
  refine px_E_icT (t := 23) rfl rfl (show a1.toInt ≠ (1 : Int) by omega) ?_
  refine px_E_seg 1 (σ' := (24, [(0, .ref 95), (1, .int a1)], [.int (-1)], (px_shX, (px_mI Ic), (px_mJ Jc), (px_mP Pc)))) rfl ?_
  exact px_E_ret rfl rfl
set_option maxRecDepth 100000 in
set_option maxHeartbeats 4000000 in
theorem px_x7_0 {ro : px_RO} {dd : Nat} (a1 : Int32) (ha1 : (-2147483648) ≤ a1.toInt ∧ a1.toInt ≤ (-2)) : px_CX ro (dd + 8) 60 [.ref 0, .int a1] (.int 0) := by
  refine ⟨px_IX, px_PX, ?_, px_fr_0, px_frP_0⟩
  show px_E ro (dd + 8) 60 (0, _, [], _) _ _
  refine px_E_seg 5 (σ' := (7, [(0, .ref 0), (1, .int a1)], [.int 1, .int 0, .int (-1), .int a1], (px_shX, px_IX, px_JX, px_PX))) rfl ?_
  refine px_E_seg 1 (σ' := (8, [(0, .ref 0), (1, .int a1)], [.int (-1), .int (-1), .int a1], (px_shX, px_IX, px_JX, px_PX))) rfl ?_
  refine px_E_call (j := 15) (as := [.int a1, .int (-1), .int (-1)]) (rest := []) (v := some (.int 0)) (h1 := (px_shX, px_IX, px_JX, px_PX)) rfl rfl rfl (by
    refine px_E_seg 2 (σ' := (2, [(0, .int a1), (1, .int (-1)), (2, .int (-1))], [.int (-1), .int a1], (px_shX, px_IX, px_JX, px_PX))) rfl ?_
    refine px_E_icT (t := 14) rfl rfl (show a1.toInt < (-1 : Int) by omega) ?_
    refine px_E_seg 1 (σ' := (15, [(0, .int a1), (1, .int (-1)), (2, .int (-1))], [.int 0], (px_shX, px_IX, px_JX, px_PX))) rfl ?_
    exact px_E_ret rfl rfl) ?_
  refine px_E_seg 2 (σ' := (15, [(0, .ref 0), (1, .int a1)], [.int 0], (px_shX, px_IX, px_JX, px_PX))) rfl ?_
  exact px_E_ret rfl rfl
set_option maxRecDepth 100000 in
set_option maxHeartbeats 4000000 in
theorem px_r7_0 {ro : px_RO} {dd : Nat} (a1 : Int32) (ha1 : (-2147483648) ≤ a1.toInt ∧ a1.toInt ≤ (-2)) : px_RX ro (dd + 8) 237 [.ref 95, .int a1] (.int 0) := by
  intro Ic Jc Pc
  refine ⟨(px_shX, (px_mI Ic), (px_mJ Jc), (px_mP Pc)), ?_, rfl⟩
  show px_E ro (dd + 8) 237 (0, _, [], _) _ _
  refine px_E_seg 6 (σ' := (9, [(0, .ref 95), (1, .int a1)], [.int 0, .int (-1), .int a1], (px_shX, (px_mI Ic), (px_mJ Jc), (px_mP Pc)))) rfl ?_
  refine px_E_seg 1 (σ' := (10, [(0, .ref 95), (1, .int a1)], [.int 1, .int 0, .int (-1), .int a1], (px_shX, (px_mI Ic), (px_mJ Jc), (px_mP Pc)))) rfl ?_
  refine px_E_seg 1 (σ' := (11, [(0, .ref 95), (1, .int a1)], [.int (-1), .int (-1), .int a1], (px_shX, (px_mI Ic), (px_mJ Jc), (px_mP Pc)))) rfl ?_
  refine px_E_call (j := 183) (as := [.int a1, .int (-1), .int (-1)]) (rest := []) (v := some (.int 0)) (h1 := (px_shX, (px_mI Ic), (px_mJ Jc), (px_mP Pc))) rfl rfl rfl (by
    refine px_E_seg 2 (σ' := (2, [(0, .int a1), (1, .int (-1)), (2, .int (-1))], [.int (-1), .int a1], (px_shX, (px_mI Ic), (px_mJ Jc), (px_mP Pc)))) rfl ?_
    refine px_E_icT (t := 14) rfl rfl (show a1.toInt < (-1 : Int) by omega) ?_
    refine px_E_seg 1 (σ' := (15, [(0, .int a1), (1, .int (-1)), (2, .int (-1))], [.int 0], (px_shX, (px_mI Ic), (px_mJ Jc), (px_mP Pc)))) rfl ?_
    exact px_E_ret rfl rfl) ?_
  refine px_E_seg 2 (σ' := (18, [(0, .ref 95), (1, .int a1)], [.int 0], (px_shX, (px_mI Ic), (px_mJ Jc), (px_mP Pc)))) rfl ?_
  exact px_E_ret rfl rfl
set_option maxRecDepth 100000 in
set_option maxHeartbeats 4000000 in
theorem px_x7_1 {ro : px_RO} {dd : Nat}  : px_CX ro (dd + 8) 60 [.ref 0, .int (-1)] (.int 1) := by
  refine ⟨(px_up px_IX 0 12 (-1)), (px_up px_PX 63 2 none), ?_, (px_fr_up (Nat.le_of_ble_eq_true rfl) px_fr_0), (px_frP_up (Nat.le_of_ble_eq_true rfl) px_frP_0)⟩
  show px_E ro (dd + 8) 60 (0, _, [], _) _ _
  refine px_E_seg 5 (σ' := (7, [(0, .ref 0), (1, .int (-1))], [.int 1, .int 0, .int (-1), .int (-1)], (px_shX, px_IX, px_JX, px_PX))) rfl ?_
  refine px_E_seg 1 (σ' := (8, [(0, .ref 0), (1, .int (-1))], [.int (-1), .int (-1), .int (-1)], (px_shX, px_IX, px_JX, px_PX))) rfl ?_
  refine px_E_call (j := 15) (as := [.int (-1), .int (-1), .int (-1)]) (rest := []) (v := some (.int 1)) (h1 := (px_shX, px_IX, px_JX, px_PX)) rfl rfl rfl (by
    refine px_E_seg 6 (σ' := (10, [(0, .int (-1)), (1, .int (-1)), (2, .int (-1))], [], (px_shX, px_IX, px_JX, px_PX))) rfl ?_
    refine px_E_seg 2 (σ' := (15, [(0, .int (-1)), (1, .int (-1)), (2, .int (-1))], [.int 1], (px_shX, px_IX, px_JX, px_PX))) rfl ?_
    exact px_E_ret rfl rfl) ?_
  refine px_E_seg 3 (σ' := (18, [(0, .ref 0), (1, .int (-1))], [.int (-1), .ref 0], (px_shX, px_IX, px_JX, px_PX))) rfl ?_
  refine px_E_call (j := 61) (as := [.ref 0, .int (-1)]) (rest := []) (v := none) (h1 := (px_shX, (px_up px_IX 0 12 (-1)), px_JX, (px_up px_PX 63 2 none))) rfl rfl rfl (by
    refine px_E_seg 6 (σ' := (10, [(0, .ref 0), (1, .int (-1))], [.ref 0, .ref 63], (px_shX, (px_up px_IX 0 12 (-1)), px_JX, px_PX))) rfl ?_
    refine px_E_seg 1 (σ' := (11, [(0, .ref 0), (1, .int (-1))], [.int (-1), .ref 0, .ref 63], (px_shX, (px_up px_IX 0 12 (-1)), px_JX, px_PX))) rfl ?_
    refine px_E_call (j := 62) (as := [.ref 0, .int (-1)]) (rest := [.ref 63]) (v := some (.null)) (h1 := (px_shX, (px_up px_IX 0 12 (-1)), px_JX, px_PX)) rfl rfl rfl (by
      refine px_E_seg 5 (σ' := (7, [(0, .ref 0), (1, .int (-1))], [.int 1, .int 0, .int 0, .int (-1)], (px_shX, (px_up px_IX 0 12 (-1)), px_JX, px_PX))) rfl ?_
      refine px_E_seg 1 (σ' := (8, [(0, .ref 0), (1, .int (-1))], [.int (-1), .int 0, .int (-1)], (px_shX, (px_up px_IX 0 12 (-1)), px_JX, px_PX))) rfl ?_
      refine px_E_call (j := 15) (as := [.int (-1), .int 0, .int (-1)]) (rest := []) (v := some (.int 0)) (h1 := (px_shX, (px_up px_IX 0 12 (-1)), px_JX, px_PX)) rfl rfl rfl (by
        refine px_E_seg 4 (σ' := (15, [(0, .int (-1)), (1, .int 0), (2, .int (-1))], [.int 0], (px_shX, (px_up px_IX 0 12 (-1)), px_JX, px_PX))) rfl ?_
        exact px_E_ret rfl rfl) ?_
      refine px_E_seg 2 (σ' := (29, [(0, .ref 0), (1, .int (-1))], [.null], (px_shX, (px_up px_IX 0 12 (-1)), px_JX, px_PX))) rfl ?_
      exact px_E_ret rfl rfl) ?_
    refine px_E_seg 1 (σ' := (17, [(0, .ref 0), (1, .int (-1))], [], (px_shX, (px_up px_IX 0 12 (-1)), px_JX, (px_up px_PX 63 2 none)))) rfl ?_
    exact px_E_ret rfl rfl) ?_
  refine px_E_seg 1 (σ' := (22, [(0, .ref 0), (1, .int (-1))], [.int 1], (px_shX, (px_up px_IX 0 12 (-1)), px_JX, (px_up px_PX 63 2 none)))) rfl ?_
  exact px_E_ret rfl rfl
set_option maxRecDepth 100000 in
set_option maxHeartbeats 4000000 in
theorem px_r7_1 {ro : px_RO} {dd : Nat}  : px_RX ro (dd + 8) 237 [.ref 95, .int (-1)] (.int 1) := by
  intro Ic Jc Pc
  refine ⟨(px_shX, (px_up (px_mI Ic) 96 8 (-1)), (px_mJ Jc), (px_mP Pc)), ?_, rfl⟩
  show px_E ro (dd + 8) 237 (0, _, [], _) _ _
  refine px_E_seg 6 (σ' := (9, [(0, .ref 95), (1, .int (-1))], [.int 0, .int (-1), .int (-1)], (px_shX, (px_mI Ic), (px_mJ Jc), (px_mP Pc)))) rfl ?_
  refine px_E_seg 1 (σ' := (10, [(0, .ref 95), (1, .int (-1))], [.int 1, .int 0, .int (-1), .int (-1)], (px_shX, (px_mI Ic), (px_mJ Jc), (px_mP Pc)))) rfl ?_
  refine px_E_seg 1 (σ' := (11, [(0, .ref 95), (1, .int (-1))], [.int (-1), .int (-1), .int (-1)], (px_shX, (px_mI Ic), (px_mJ Jc), (px_mP Pc)))) rfl ?_
  refine px_E_call (j := 183) (as := [.int (-1), .int (-1), .int (-1)]) (rest := []) (v := some (.int 1)) (h1 := (px_shX, (px_mI Ic), (px_mJ Jc), (px_mP Pc))) rfl rfl rfl (by
    refine px_E_seg 6 (σ' := (10, [(0, .int (-1)), (1, .int (-1)), (2, .int (-1))], [], (px_shX, (px_mI Ic), (px_mJ Jc), (px_mP Pc)))) rfl ?_
    refine px_E_seg 2 (σ' := (15, [(0, .int (-1)), (1, .int (-1)), (2, .int (-1))], [.int 1], (px_shX, (px_mI Ic), (px_mJ Jc), (px_mP Pc)))) rfl ?_
    exact px_E_ret rfl rfl) ?_
  refine px_E_seg 6 (σ' := (27, [(0, .ref 95), (1, .int (-1))], [], (px_shX, (px_up (px_mI Ic) 96 8 (-1)), (px_mJ Jc), (px_mP Pc)))) rfl ?_
  refine px_E_seg 1 (σ' := (28, [(0, .ref 95), (1, .int (-1))], [.int 1], (px_shX, (px_up (px_mI Ic) 96 8 (-1)), (px_mJ Jc), (px_mP Pc)))) rfl ?_
  exact px_E_ret rfl rfl
set_option maxRecDepth 100000 in
set_option maxHeartbeats 4000000 in
theorem px_x7_2 {ro : px_RO} {dd : Nat} (a1 : Int32) (ha1 : 0 ≤ a1.toInt ∧ a1.toInt ≤ 2147483647) : px_CX ro (dd + 8) 60 [.ref 0, .int a1] (.int 0) := by
  refine ⟨px_IX, px_PX, ?_, px_fr_0, px_frP_0⟩
  show px_E ro (dd + 8) 60 (0, _, [], _) _ _
  refine px_E_seg 5 (σ' := (7, [(0, .ref 0), (1, .int a1)], [.int 1, .int 0, .int (-1), .int a1], (px_shX, px_IX, px_JX, px_PX))) rfl ?_
  refine px_E_seg 1 (σ' := (8, [(0, .ref 0), (1, .int a1)], [.int (-1), .int (-1), .int a1], (px_shX, px_IX, px_JX, px_PX))) rfl ?_
  refine px_E_call (j := 15) (as := [.int a1, .int (-1), .int (-1)]) (rest := []) (v := some (.int 0)) (h1 := (px_shX, px_IX, px_JX, px_PX)) rfl rfl rfl (by
    refine px_E_seg 2 (σ' := (2, [(0, .int a1), (1, .int (-1)), (2, .int (-1))], [.int (-1), .int a1], (px_shX, px_IX, px_JX, px_PX))) rfl ?_
    refine px_E_icF (t := 14) rfl rfl (show (-1 : Int) ≤ a1.toInt by omega) ?_
    refine px_E_seg 2 (σ' := (7, [(0, .int a1), (1, .int (-1)), (2, .int (-1))], [.int (-1), .int a1], (px_shX, px_IX, px_JX, px_PX))) rfl ?_
    refine px_E_icT (t := 14) rfl rfl (show (-1 : Int) < a1.toInt by omega) ?_
    refine px_E_seg 1 (σ' := (15, [(0, .int a1), (1, .int (-1)), (2, .int (-1))], [.int 0], (px_shX, px_IX, px_JX, px_PX))) rfl ?_
    exact px_E_ret rfl rfl) ?_
  refine px_E_seg 2 (σ' := (15, [(0, .ref 0), (1, .int a1)], [.int 0], (px_shX, px_IX, px_JX, px_PX))) rfl ?_
  exact px_E_ret rfl rfl
set_option maxRecDepth 100000 in
set_option maxHeartbeats 4000000 in
theorem px_r7_2 {ro : px_RO} {dd : Nat} (a1 : Int32) (ha1 : 0 ≤ a1.toInt ∧ a1.toInt ≤ 2147483647) : px_RX ro (dd + 8) 237 [.ref 95, .int a1] (.int 0) := by
  intro Ic Jc Pc
  refine ⟨(px_shX, (px_mI Ic), (px_mJ Jc), (px_mP Pc)), ?_, rfl⟩
  show px_E ro (dd + 8) 237 (0, _, [], _) _ _
  refine px_E_seg 6 (σ' := (9, [(0, .ref 95), (1, .int a1)], [.int 0, .int (-1), .int a1], (px_shX, (px_mI Ic), (px_mJ Jc), (px_mP Pc)))) rfl ?_
  refine px_E_seg 1 (σ' := (10, [(0, .ref 95), (1, .int a1)], [.int 1, .int 0, .int (-1), .int a1], (px_shX, (px_mI Ic), (px_mJ Jc), (px_mP Pc)))) rfl ?_
  refine px_E_seg 1 (σ' := (11, [(0, .ref 95), (1, .int a1)], [.int (-1), .int (-1), .int a1], (px_shX, (px_mI Ic), (px_mJ Jc), (px_mP Pc)))) rfl ?_
  refine px_E_call (j := 183) (as := [.int a1, .int (-1), .int (-1)]) (rest := []) (v := some (.int 0)) (h1 := (px_shX, (px_mI Ic), (px_mJ Jc), (px_mP Pc))) rfl rfl rfl (by
    refine px_E_seg 2 (σ' := (2, [(0, .int a1), (1, .int (-1)), (2, .int (-1))], [.int (-1), .int a1], (px_shX, (px_mI Ic), (px_mJ Jc), (px_mP Pc)))) rfl ?_
    refine px_E_icF (t := 14) rfl rfl (show (-1 : Int) ≤ a1.toInt by omega) ?_
    refine px_E_seg 2 (σ' := (7, [(0, .int a1), (1, .int (-1)), (2, .int (-1))], [.int (-1), .int a1], (px_shX, (px_mI Ic), (px_mJ Jc), (px_mP Pc)))) rfl ?_
    refine px_E_icT (t := 14) rfl rfl (show (-1 : Int) < a1.toInt by omega) ?_
    refine px_E_seg 1 (σ' := (15, [(0, .int a1), (1, .int (-1)), (2, .int (-1))], [.int 0], (px_shX, (px_mI Ic), (px_mJ Jc), (px_mP Pc)))) rfl ?_
    exact px_E_ret rfl rfl) ?_
  refine px_E_seg 2 (σ' := (18, [(0, .ref 95), (1, .int a1)], [.int 0], (px_shX, (px_mI Ic), (px_mJ Jc), (px_mP Pc)))) rfl ?_
  exact px_E_ret rfl rfl
set_option maxRecDepth 100000 in
set_option maxHeartbeats 4000000 in
theorem px_x8_0 {ro : px_RO} {dd : Nat} (a1 a2 : Int32) (ha1 : (-2147483648) ≤ a1.toInt ∧ a1.toInt ≤ 0) (ha2 : (-2147483648) ≤ a2.toInt ∧ a2.toInt ≤ 2147483647) : px_CX ro (dd + 8) 63 [.ref 0, .int a1, .int a2] (.int (-1)) := by
  refine ⟨px_IX, px_PX, ?_, px_fr_0, px_frP_0⟩
  show px_E ro (dd + 8) 63 (0, _, [], _) _ _
  refine px_E_seg 5 (σ' := (8, [(0, .ref 0), (1, .int a1), (2, .int a2)], [.ref 15, .int 24, .int 1, .int a1], (px_shX, px_IX, px_JX, px_PX))) rfl ?_
  refine px_E_call (j := 64) (as := [.ref 15]) (rest := [.int 24, .int 1, .int a1]) (v := some (.int 0)) (h1 := (px_shX, px_IX, px_JX, px_PX)) rfl rfl rfl (by
    refine px_E_seg 2 (σ' := (4, [(0, .ref 15)], [.ref 16], (px_shX, px_IX, px_JX, px_PX))) rfl ?_
    refine px_E_call (j := 65) (as := [.ref 16]) (rest := []) (v := some (.int 0)) (h1 := (px_shX, px_IX, px_JX, px_PX)) rfl rfl rfl (by
      refine px_E_seg 6 (σ' := (6, [(2, .ref 16), (1, .int 0), (0, .ref 16)], [.int 4], (px_shX, px_IX, px_JX, px_PX))) rfl ?_
      refine px_E_seg 6 (σ' := (16, [(4, .int 0), (3, .int 4), (2, .ref 16), (1, .int 0), (0, .ref 16)], [], (px_shX, px_IX, px_JX, px_PX))) rfl ?_
      refine px_E_seg 6 (σ' := (25, [(5, .int 0), (4, .int 0), (3, .int 4), (2, .ref 16), (1, .int 0), (0, .ref 16)], [.int 0, .int 0], (px_shX, px_IX, px_JX, px_PX))) rfl ?_
      refine px_E_seg 6 (σ' := (13, [(4, .int 1), (1, .int 0), (5, .int 0), (3, .int 4), (2, .ref 16), (0, .ref 16)], [.int 4, .int 1], (px_shX, px_IX, px_JX, px_PX))) rfl ?_
      refine px_E_seg 6 (σ' := (23, [(5, .int 0), (4, .int 1), (1, .int 0), (3, .int 4), (2, .ref 16), (0, .ref 16)], [.int 0], (px_shX, px_IX, px_JX, px_PX))) rfl ?_
      refine px_E_seg 1 (σ' := (25, [(5, .int 0), (4, .int 1), (1, .int 0), (3, .int 4), (2, .ref 16), (0, .ref 16)], [.int 0, .int 0], (px_shX, px_IX, px_JX, px_PX))) rfl ?_
      refine px_E_seg 6 (σ' := (13, [(4, .int 2), (1, .int 0), (5, .int 0), (3, .int 4), (2, .ref 16), (0, .ref 16)], [.int 4, .int 2], (px_shX, px_IX, px_JX, px_PX))) rfl ?_
      refine px_E_seg 6 (σ' := (23, [(5, .int 0), (4, .int 2), (1, .int 0), (3, .int 4), (2, .ref 16), (0, .ref 16)], [.int 0], (px_shX, px_IX, px_JX, px_PX))) rfl ?_
      refine px_E_seg 1 (σ' := (25, [(5, .int 0), (4, .int 2), (1, .int 0), (3, .int 4), (2, .ref 16), (0, .ref 16)], [.int 0, .int 0], (px_shX, px_IX, px_JX, px_PX))) rfl ?_
      refine px_E_seg 6 (σ' := (13, [(4, .int 3), (1, .int 0), (5, .int 0), (3, .int 4), (2, .ref 16), (0, .ref 16)], [.int 4, .int 3], (px_shX, px_IX, px_JX, px_PX))) rfl ?_
      refine px_E_seg 6 (σ' := (23, [(5, .int 0), (4, .int 3), (1, .int 0), (3, .int 4), (2, .ref 16), (0, .ref 16)], [.int 0], (px_shX, px_IX, px_JX, px_PX))) rfl ?_
      refine px_E_seg 1 (σ' := (25, [(5, .int 0), (4, .int 3), (1, .int 0), (3, .int 4), (2, .ref 16), (0, .ref 16)], [.int 0, .int 0], (px_shX, px_IX, px_JX, px_PX))) rfl ?_
      refine px_E_seg 6 (σ' := (13, [(4, .int 4), (1, .int 0), (5, .int 0), (3, .int 4), (2, .ref 16), (0, .ref 16)], [.int 4, .int 4], (px_shX, px_IX, px_JX, px_PX))) rfl ?_
      refine px_E_seg 2 (σ' := (34, [(4, .int 4), (1, .int 0), (5, .int 0), (3, .int 4), (2, .ref 16), (0, .ref 16)], [.int 0], (px_shX, px_IX, px_JX, px_PX))) rfl ?_
      exact px_E_ret rfl rfl) ?_
    exact px_E_ret rfl rfl) ?_
  refine px_E_seg 1 (σ' := (12, [(0, .ref 0), (1, .int a1), (2, .int a2)], [.int 24, .int 1, .int a1], (px_shX, px_IX, px_JX, px_PX))) rfl ?_
  refine px_E_call (j := 15) (as := [.int a1, .int 1, .int 24]) (rest := []) (v := some (.int 0)) (h1 := (px_shX, px_IX, px_JX, px_PX)) rfl rfl rfl (by
    refine px_E_seg 2 (σ' := (2, [(0, .int a1), (1, .int 1), (2, .int 24)], [.int 1, .int a1], (px_shX, px_IX, px_JX, px_PX))) rfl ?_
    refine px_E_icT (t := 14) rfl rfl (show a1.toInt < (1 : Int) by omega) ?_
    refine px_E_seg 1 (σ' := (15, [(0, .int a1), (1, .int 1), (2, .int 24)], [.int 0], (px_shX, px_IX, px_JX, px_PX))) rfl ?_
    exact px_E_ret rfl rfl) ?_
  refine px_E_seg 2 (σ' := (30, [(0, .ref 0), (1, .int a1), (2, .int a2)], [.int (-1)], (px_shX, px_IX, px_JX, px_PX))) rfl ?_
  exact px_E_ret rfl rfl
set_option maxRecDepth 100000 in
set_option maxHeartbeats 4000000 in
theorem px_r8_0 {ro : px_RO} {dd : Nat} (a1 a2 : Int32) (ha1 : (-2147483648) ≤ a1.toInt ∧ a1.toInt ≤ 0) (ha2 : (-2147483648) ≤ a2.toInt ∧ a2.toInt ≤ 2147483647) : px_RX ro (dd + 8) 240 [.ref 95, .int a1, .int a2] (.int (-1)) := by
  intro Ic Jc Pc
  refine ⟨(px_shX, (px_mI Ic), (px_mJ Jc), (px_mP Pc)), ?_, rfl⟩
  show px_E ro (dd + 8) 240 (0, _, [], _) _ _
  refine px_E_seg 1 (σ' := (1, [(0, .ref 95), (1, .int a1), (2, .int a2)], [.ref 95], (px_shX, (px_mI Ic), (px_mJ Jc), (px_mP Pc)))) rfl ?_
  refine px_E_call (j := 241) (as := [.ref 95]) (rest := []) (v := some (.int 0)) (h1 := (px_shX, (px_mI Ic), (px_mJ Jc), (px_mP Pc))) rfl rfl rfl (by
    refine px_E_seg 6 (σ' := (8, [(1, .int 0), (0, .ref 95)], [.ref 95], (px_shX, (px_mI Ic), (px_mJ Jc), (px_mP Pc)))) rfl ?_
    refine px_E_seg 1 (σ' := (9, [(1, .int 0), (0, .ref 95)], [.int 0, .ref 95], (px_shX, (px_mI Ic), (px_mJ Jc), (px_mP Pc)))) rfl ?_
    refine px_E_call (j := 242) (as := [.ref 95, .int 0]) (rest := []) (v := some (.int 0)) (h1 := (px_shX, (px_mI Ic), (px_mJ Jc), (px_mP Pc))) rfl rfl rfl (by
      refine px_E_seg 5 (σ' := (8, [(0, .ref 95), (1, .int 0)], [.int 0, .int 3, .int 114, .ref 96], (px_shX, (px_mI Ic), (px_mJ Jc), (px_mP Pc)))) rfl ?_
      refine px_E_seg 1 (σ' := (9, [(0, .ref 95), (1, .int 0)], [.int 0, .int 114, .ref 96], (px_shX, (px_mI Ic), (px_mJ Jc), (px_mP Pc)))) rfl ?_
      refine px_E_seg 2 (σ' := (11, [(0, .ref 95), (1, .int 0)], [.int 0], (px_shX, (px_mI Ic), (px_mJ Jc), (px_mP Pc)))) rfl ?_
      exact px_E_ret rfl rfl) ?_
    refine px_E_seg 2 (σ' := (16, [(1, .int 0), (0, .ref 95)], [.int 0], (px_shX, (px_mI Ic), (px_mJ Jc), (px_mP Pc)))) rfl ?_
    exact px_E_ret rfl rfl) ?_
  refine px_E_seg 4 (σ' := (9, [(3, .int 0), (0, .ref 95), (1, .int a1), (2, .int a2)], [.int 24, .int 1, .int a1], (px_shX, (px_mI Ic), (px_mJ Jc), (px_mP Pc)))) rfl ?_
  refine px_E_call (j := 183) (as := [.int a1, .int 1, .int 24]) (rest := []) (v := some (.int 0)) (h1 := (px_shX, (px_mI Ic), (px_mJ Jc), (px_mP Pc))) rfl rfl rfl (by
    refine px_E_seg 2 (σ' := (2, [(0, .int a1), (1, .int 1), (2, .int 24)], [.int 1, .int a1], (px_shX, (px_mI Ic), (px_mJ Jc), (px_mP Pc)))) rfl ?_
    refine px_E_icT (t := 14) rfl rfl (show a1.toInt < (1 : Int) by omega) ?_
    refine px_E_seg 1 (σ' := (15, [(0, .int a1), (1, .int 1), (2, .int 24)], [.int 0], (px_shX, (px_mI Ic), (px_mJ Jc), (px_mP Pc)))) rfl ?_
    exact px_E_ret rfl rfl) ?_
  refine px_E_seg 2 (σ' := (39, [(3, .int 0), (0, .ref 95), (1, .int a1), (2, .int a2)], [.int (-1)], (px_shX, (px_mI Ic), (px_mJ Jc), (px_mP Pc)))) rfl ?_
  exact px_E_ret rfl rfl
set_option maxRecDepth 100000 in
set_option maxHeartbeats 4000000 in
theorem px_x8_1 {ro : px_RO} {dd : Nat} (a1 a2 : Int32) (ha1 : 1 ≤ a1.toInt ∧ a1.toInt ≤ 24) (ha2 : (-2147483648) ≤ a2.toInt ∧ a2.toInt ≤ (-1)) : px_CX ro (dd + 8) 63 [.ref 0, .int a1, .int a2] (.int (-1)) := by
  refine ⟨px_IX, px_PX, ?_, px_fr_0, px_frP_0⟩
  show px_E ro (dd + 8) 63 (0, _, [], _) _ _
  refine px_E_seg 5 (σ' := (8, [(0, .ref 0), (1, .int a1), (2, .int a2)], [.ref 15, .int 24, .int 1, .int a1], (px_shX, px_IX, px_JX, px_PX))) rfl ?_
  refine px_E_call (j := 64) (as := [.ref 15]) (rest := [.int 24, .int 1, .int a1]) (v := some (.int 0)) (h1 := (px_shX, px_IX, px_JX, px_PX)) rfl rfl rfl (by
    refine px_E_seg 2 (σ' := (4, [(0, .ref 15)], [.ref 16], (px_shX, px_IX, px_JX, px_PX))) rfl ?_
    refine px_E_call (j := 65) (as := [.ref 16]) (rest := []) (v := some (.int 0)) (h1 := (px_shX, px_IX, px_JX, px_PX)) rfl rfl rfl (by
      refine px_E_seg 6 (σ' := (6, [(2, .ref 16), (1, .int 0), (0, .ref 16)], [.int 4], (px_shX, px_IX, px_JX, px_PX))) rfl ?_
      refine px_E_seg 6 (σ' := (16, [(4, .int 0), (3, .int 4), (2, .ref 16), (1, .int 0), (0, .ref 16)], [], (px_shX, px_IX, px_JX, px_PX))) rfl ?_
      refine px_E_seg 6 (σ' := (25, [(5, .int 0), (4, .int 0), (3, .int 4), (2, .ref 16), (1, .int 0), (0, .ref 16)], [.int 0, .int 0], (px_shX, px_IX, px_JX, px_PX))) rfl ?_
      refine px_E_seg 6 (σ' := (13, [(4, .int 1), (1, .int 0), (5, .int 0), (3, .int 4), (2, .ref 16), (0, .ref 16)], [.int 4, .int 1], (px_shX, px_IX, px_JX, px_PX))) rfl ?_
      refine px_E_seg 6 (σ' := (23, [(5, .int 0), (4, .int 1), (1, .int 0), (3, .int 4), (2, .ref 16), (0, .ref 16)], [.int 0], (px_shX, px_IX, px_JX, px_PX))) rfl ?_
      refine px_E_seg 1 (σ' := (25, [(5, .int 0), (4, .int 1), (1, .int 0), (3, .int 4), (2, .ref 16), (0, .ref 16)], [.int 0, .int 0], (px_shX, px_IX, px_JX, px_PX))) rfl ?_
      refine px_E_seg 6 (σ' := (13, [(4, .int 2), (1, .int 0), (5, .int 0), (3, .int 4), (2, .ref 16), (0, .ref 16)], [.int 4, .int 2], (px_shX, px_IX, px_JX, px_PX))) rfl ?_
      refine px_E_seg 6 (σ' := (23, [(5, .int 0), (4, .int 2), (1, .int 0), (3, .int 4), (2, .ref 16), (0, .ref 16)], [.int 0], (px_shX, px_IX, px_JX, px_PX))) rfl ?_
      refine px_E_seg 1 (σ' := (25, [(5, .int 0), (4, .int 2), (1, .int 0), (3, .int 4), (2, .ref 16), (0, .ref 16)], [.int 0, .int 0], (px_shX, px_IX, px_JX, px_PX))) rfl ?_
      refine px_E_seg 6 (σ' := (13, [(4, .int 3), (1, .int 0), (5, .int 0), (3, .int 4), (2, .ref 16), (0, .ref 16)], [.int 4, .int 3], (px_shX, px_IX, px_JX, px_PX))) rfl ?_
      refine px_E_seg 6 (σ' := (23, [(5, .int 0), (4, .int 3), (1, .int 0), (3, .int 4), (2, .ref 16), (0, .ref 16)], [.int 0], (px_shX, px_IX, px_JX, px_PX))) rfl ?_
      refine px_E_seg 1 (σ' := (25, [(5, .int 0), (4, .int 3), (1, .int 0), (3, .int 4), (2, .ref 16), (0, .ref 16)], [.int 0, .int 0], (px_shX, px_IX, px_JX, px_PX))) rfl ?_
      refine px_E_seg 6 (σ' := (13, [(4, .int 4), (1, .int 0), (5, .int 0), (3, .int 4), (2, .ref 16), (0, .ref 16)], [.int 4, .int 4], (px_shX, px_IX, px_JX, px_PX))) rfl ?_
      refine px_E_seg 2 (σ' := (34, [(4, .int 4), (1, .int 0), (5, .int 0), (3, .int 4), (2, .ref 16), (0, .ref 16)], [.int 0], (px_shX, px_IX, px_JX, px_PX))) rfl ?_
      exact px_E_ret rfl rfl) ?_
    exact px_E_ret rfl rfl) ?_
  refine px_E_seg 1 (σ' := (12, [(0, .ref 0), (1, .int a1), (2, .int a2)], [.int 24, .int 1, .int a1], (px_shX, px_IX, px_JX, px_PX))) rfl ?_
  refine px_E_call (j := 15) (as := [.int a1, .int 1, .int 24]) (rest := []) (v := some (.int 1)) (h1 := (px_shX, px_IX, px_JX, px_PX)) rfl rfl rfl (by
    refine px_E_seg 2 (σ' := (2, [(0, .int a1), (1, .int 1), (2, .int 24)], [.int 1, .int a1], (px_shX, px_IX, px_JX, px_PX))) rfl ?_
    refine px_E_icF (t := 14) rfl rfl (show (1 : Int) ≤ a1.toInt by omega) ?_
    refine px_E_seg 2 (σ' := (7, [(0, .int a1), (1, .int 1), (2, .int 24)], [.int 24, .int a1], (px_shX, px_IX, px_JX, px_PX))) rfl ?_
    refine px_E_icF (t := 14) rfl rfl (show a1.toInt ≤ (24 : Int) by omega) ?_
    refine px_E_seg 2 (σ' := (15, [(0, .int a1), (1, .int 1), (2, .int 24)], [.int 1], (px_shX, px_IX, px_JX, px_PX))) rfl ?_
    exact px_E_ret rfl rfl) ?_
  refine px_E_seg 4 (σ' := (23, [(0, .ref 0), (1, .int a1), (2, .int a2)], [.int a2, .ref 1], (px_shX, px_IX, px_JX, px_PX))) rfl ?_
  refine px_E_call (j := 18) (as := [.ref 1, .int a2]) (rest := []) (v := some (.int 0)) (h1 := (px_shX, px_IX, px_JX, px_PX)) rfl rfl rfl (by
    refine px_E_seg 1 (σ' := (1, [(0, .ref 1), (1, .int a2)], [.int a2], (px_shX, px_IX, px_JX, px_PX))) rfl ?_
    refine px_E_ifT (t := 16) rfl rfl (show a2.toInt < (0 : Int) by omega) ?_
    refine px_E_seg 1 (σ' := (17, [(0, .ref 1), (1, .int a2)], [.int 0], (px_shX, px_IX, px_JX, px_PX))) rfl ?_
    exact px_E_ret rfl rfl) ?_
  refine px_E_seg 2 (σ' := (30, [(0, .ref 0), (1, .int a1), (2, .int a2)], [.int (-1)], (px_shX, px_IX, px_JX, px_PX))) rfl ?_
  exact px_E_ret rfl rfl
set_option maxRecDepth 100000 in
set_option maxHeartbeats 4000000 in
theorem px_r8_1 {ro : px_RO} {dd : Nat} (a1 a2 : Int32) (ha1 : 1 ≤ a1.toInt ∧ a1.toInt ≤ 24) (ha2 : (-2147483648) ≤ a2.toInt ∧ a2.toInt ≤ (-1)) : px_RX ro (dd + 8) 240 [.ref 95, .int a1, .int a2] (.int (-1)) := by
  intro Ic Jc Pc
  refine ⟨(px_shX, (px_mI Ic), (px_mJ Jc), (px_mP Pc)), ?_, rfl⟩
  show px_E ro (dd + 8) 240 (0, _, [], _) _ _
  refine px_E_seg 1 (σ' := (1, [(0, .ref 95), (1, .int a1), (2, .int a2)], [.ref 95], (px_shX, (px_mI Ic), (px_mJ Jc), (px_mP Pc)))) rfl ?_
  refine px_E_call (j := 241) (as := [.ref 95]) (rest := []) (v := some (.int 0)) (h1 := (px_shX, (px_mI Ic), (px_mJ Jc), (px_mP Pc))) rfl rfl rfl (by
    refine px_E_seg 6 (σ' := (8, [(1, .int 0), (0, .ref 95)], [.ref 95], (px_shX, (px_mI Ic), (px_mJ Jc), (px_mP Pc)))) rfl ?_
    refine px_E_seg 1 (σ' := (9, [(1, .int 0), (0, .ref 95)], [.int 0, .ref 95], (px_shX, (px_mI Ic), (px_mJ Jc), (px_mP Pc)))) rfl ?_
    refine px_E_call (j := 242) (as := [.ref 95, .int 0]) (rest := []) (v := some (.int 0)) (h1 := (px_shX, (px_mI Ic), (px_mJ Jc), (px_mP Pc))) rfl rfl rfl (by
      refine px_E_seg 5 (σ' := (8, [(0, .ref 95), (1, .int 0)], [.int 0, .int 3, .int 114, .ref 96], (px_shX, (px_mI Ic), (px_mJ Jc), (px_mP Pc)))) rfl ?_
      refine px_E_seg 1 (σ' := (9, [(0, .ref 95), (1, .int 0)], [.int 0, .int 114, .ref 96], (px_shX, (px_mI Ic), (px_mJ Jc), (px_mP Pc)))) rfl ?_
      refine px_E_seg 2 (σ' := (11, [(0, .ref 95), (1, .int 0)], [.int 0], (px_shX, (px_mI Ic), (px_mJ Jc), (px_mP Pc)))) rfl ?_
      exact px_E_ret rfl rfl) ?_
    refine px_E_seg 2 (σ' := (16, [(1, .int 0), (0, .ref 95)], [.int 0], (px_shX, (px_mI Ic), (px_mJ Jc), (px_mP Pc)))) rfl ?_
    exact px_E_ret rfl rfl) ?_
  refine px_E_seg 4 (σ' := (9, [(3, .int 0), (0, .ref 95), (1, .int a1), (2, .int a2)], [.int 24, .int 1, .int a1], (px_shX, (px_mI Ic), (px_mJ Jc), (px_mP Pc)))) rfl ?_
  refine px_E_call (j := 183) (as := [.int a1, .int 1, .int 24]) (rest := []) (v := some (.int 1)) (h1 := (px_shX, (px_mI Ic), (px_mJ Jc), (px_mP Pc))) rfl rfl rfl (by
    refine px_E_seg 2 (σ' := (2, [(0, .int a1), (1, .int 1), (2, .int 24)], [.int 1, .int a1], (px_shX, (px_mI Ic), (px_mJ Jc), (px_mP Pc)))) rfl ?_
    refine px_E_icF (t := 14) rfl rfl (show (1 : Int) ≤ a1.toInt by omega) ?_
    refine px_E_seg 2 (σ' := (7, [(0, .int a1), (1, .int 1), (2, .int 24)], [.int 24, .int a1], (px_shX, (px_mI Ic), (px_mJ Jc), (px_mP Pc)))) rfl ?_
    refine px_E_icF (t := 14) rfl rfl (show a1.toInt ≤ (24 : Int) by omega) ?_
    refine px_E_seg 2 (σ' := (15, [(0, .int a1), (1, .int 1), (2, .int 24)], [.int 1], (px_shX, (px_mI Ic), (px_mJ Jc), (px_mP Pc)))) rfl ?_
    exact px_E_ret rfl rfl) ?_
  refine px_E_seg 3 (σ' := (17, [(3, .int 0), (0, .ref 95), (1, .int a1), (2, .int a2)], [.int a2, .ref 95], (px_shX, (px_mI Ic), (px_mJ Jc), (px_mP Pc)))) rfl ?_
  refine px_E_call (j := 185) (as := [.ref 95, .int a2]) (rest := []) (v := some (.int 0)) (h1 := (px_shX, (px_mI Ic), (px_mJ Jc), (px_mP Pc))) rfl rfl rfl (by
    refine px_E_seg 6 (σ' := (8, [(0, .ref 95), (1, .int a2)], [.int 0, .int 0, .int a2], (px_shX, (px_mI Ic), (px_mJ Jc), (px_mP Pc)))) rfl ?_
    refine px_E_seg 1 (σ' := (9, [(0, .ref 95), (1, .int a2)], [.int 1, .int 0, .int 0, .int a2], (px_shX, (px_mI Ic), (px_mJ Jc), (px_mP Pc)))) rfl ?_
    refine px_E_seg 1 (σ' := (10, [(0, .ref 95), (1, .int a2)], [.int (-1), .int 0, .int a2], (px_shX, (px_mI Ic), (px_mJ Jc), (px_mP Pc)))) rfl ?_
    refine px_E_call (j := 183) (as := [.int a2, .int 0, .int (-1)]) (rest := []) (v := some (.int 0)) (h1 := (px_shX, (px_mI Ic), (px_mJ Jc), (px_mP Pc))) rfl rfl rfl (by
      refine px_E_seg 2 (σ' := (2, [(0, .int a2), (1, .int 0), (2, .int (-1))], [.int 0, .int a2], (px_shX, (px_mI Ic), (px_mJ Jc), (px_mP Pc)))) rfl ?_
      refine px_E_icT (t := 14) rfl rfl (show a2.toInt < (0 : Int) by omega) ?_
      refine px_E_seg 1 (σ' := (15, [(0, .int a2), (1, .int 0), (2, .int (-1))], [.int 0], (px_shX, (px_mI Ic), (px_mJ Jc), (px_mP Pc)))) rfl ?_
      exact px_E_ret rfl rfl) ?_
    exact px_E_ret rfl rfl) ?_
  refine px_E_seg 2 (σ' := (39, [(3, .int 0), (0, .ref 95), (1, .int a1), (2, .int a2)], [.int (-1)], (px_shX, (px_mI Ic), (px_mJ Jc), (px_mP Pc)))) rfl ?_
  exact px_E_ret rfl rfl
set_option maxRecDepth 100000 in
set_option maxHeartbeats 4000000 in
theorem px_x8_2 {ro : px_RO} {dd : Nat} (a1 a2 : Int32) (ha1 : 1 ≤ a1.toInt ∧ a1.toInt ≤ 24) (ha2 : 0 ≤ a2.toInt ∧ a2.toInt ≤ 2147483647) : px_CX ro (dd + 8) 63 [.ref 0, .int a1, .int a2] (.int (-1)) := by
  refine ⟨px_IX, px_PX, ?_, px_fr_0, px_frP_0⟩
  show px_E ro (dd + 8) 63 (0, _, [], _) _ _
  refine px_E_seg 5 (σ' := (8, [(0, .ref 0), (1, .int a1), (2, .int a2)], [.ref 15, .int 24, .int 1, .int a1], (px_shX, px_IX, px_JX, px_PX))) rfl ?_
  refine px_E_call (j := 64) (as := [.ref 15]) (rest := [.int 24, .int 1, .int a1]) (v := some (.int 0)) (h1 := (px_shX, px_IX, px_JX, px_PX)) rfl rfl rfl (by
    refine px_E_seg 2 (σ' := (4, [(0, .ref 15)], [.ref 16], (px_shX, px_IX, px_JX, px_PX))) rfl ?_
    refine px_E_call (j := 65) (as := [.ref 16]) (rest := []) (v := some (.int 0)) (h1 := (px_shX, px_IX, px_JX, px_PX)) rfl rfl rfl (by
      refine px_E_seg 6 (σ' := (6, [(2, .ref 16), (1, .int 0), (0, .ref 16)], [.int 4], (px_shX, px_IX, px_JX, px_PX))) rfl ?_
      refine px_E_seg 6 (σ' := (16, [(4, .int 0), (3, .int 4), (2, .ref 16), (1, .int 0), (0, .ref 16)], [], (px_shX, px_IX, px_JX, px_PX))) rfl ?_
      refine px_E_seg 6 (σ' := (25, [(5, .int 0), (4, .int 0), (3, .int 4), (2, .ref 16), (1, .int 0), (0, .ref 16)], [.int 0, .int 0], (px_shX, px_IX, px_JX, px_PX))) rfl ?_
      refine px_E_seg 6 (σ' := (13, [(4, .int 1), (1, .int 0), (5, .int 0), (3, .int 4), (2, .ref 16), (0, .ref 16)], [.int 4, .int 1], (px_shX, px_IX, px_JX, px_PX))) rfl ?_
      refine px_E_seg 6 (σ' := (23, [(5, .int 0), (4, .int 1), (1, .int 0), (3, .int 4), (2, .ref 16), (0, .ref 16)], [.int 0], (px_shX, px_IX, px_JX, px_PX))) rfl ?_
      refine px_E_seg 1 (σ' := (25, [(5, .int 0), (4, .int 1), (1, .int 0), (3, .int 4), (2, .ref 16), (0, .ref 16)], [.int 0, .int 0], (px_shX, px_IX, px_JX, px_PX))) rfl ?_
      refine px_E_seg 6 (σ' := (13, [(4, .int 2), (1, .int 0), (5, .int 0), (3, .int 4), (2, .ref 16), (0, .ref 16)], [.int 4, .int 2], (px_shX, px_IX, px_JX, px_PX))) rfl ?_
      refine px_E_seg 6 (σ' := (23, [(5, .int 0), (4, .int 2), (1, .int 0), (3, .int 4), (2, .ref 16), (0, .ref 16)], [.int 0], (px_shX, px_IX, px_JX, px_PX))) rfl ?_
      refine px_E_seg 1 (σ' := (25, [(5, .int 0), (4, .int 2), (1, .int 0), (3, .int 4), (2, .ref 16), (0, .ref 16)], [.int 0, .int 0], (px_shX, px_IX, px_JX, px_PX))) rfl ?_
      refine px_E_seg 6 (σ' := (13, [(4, .int 3), (1, .int 0), (5, .int 0), (3, .int 4), (2, .ref 16), (0, .ref 16)], [.int 4, .int 3], (px_shX, px_IX, px_JX, px_PX))) rfl ?_
      refine px_E_seg 6 (σ' := (23, [(5, .int 0), (4, .int 3), (1, .int 0), (3, .int 4), (2, .ref 16), (0, .ref 16)], [.int 0], (px_shX, px_IX, px_JX, px_PX))) rfl ?_
      refine px_E_seg 1 (σ' := (25, [(5, .int 0), (4, .int 3), (1, .int 0), (3, .int 4), (2, .ref 16), (0, .ref 16)], [.int 0, .int 0], (px_shX, px_IX, px_JX, px_PX))) rfl ?_
      refine px_E_seg 6 (σ' := (13, [(4, .int 4), (1, .int 0), (5, .int 0), (3, .int 4), (2, .ref 16), (0, .ref 16)], [.int 4, .int 4], (px_shX, px_IX, px_JX, px_PX))) rfl ?_
      refine px_E_seg 2 (σ' := (34, [(4, .int 4), (1, .int 0), (5, .int 0), (3, .int 4), (2, .ref 16), (0, .ref 16)], [.int 0], (px_shX, px_IX, px_JX, px_PX))) rfl ?_
      exact px_E_ret rfl rfl) ?_
    exact px_E_ret rfl rfl) ?_
  refine px_E_seg 1 (σ' := (12, [(0, .ref 0), (1, .int a1), (2, .int a2)], [.int 24, .int 1, .int a1], (px_shX, px_IX, px_JX, px_PX))) rfl ?_
  refine px_E_call (j := 15) (as := [.int a1, .int 1, .int 24]) (rest := []) (v := some (.int 1)) (h1 := (px_shX, px_IX, px_JX, px_PX)) rfl rfl rfl (by
    refine px_E_seg 2 (σ' := (2, [(0, .int a1), (1, .int 1), (2, .int 24)], [.int 1, .int a1], (px_shX, px_IX, px_JX, px_PX))) rfl ?_
    refine px_E_icF (t := 14) rfl rfl (show (1 : Int) ≤ a1.toInt by omega) ?_
    refine px_E_seg 2 (σ' := (7, [(0, .int a1), (1, .int 1), (2, .int 24)], [.int 24, .int a1], (px_shX, px_IX, px_JX, px_PX))) rfl ?_
    refine px_E_icF (t := 14) rfl rfl (show a1.toInt ≤ (24 : Int) by omega) ?_
    refine px_E_seg 2 (σ' := (15, [(0, .int a1), (1, .int 1), (2, .int 24)], [.int 1], (px_shX, px_IX, px_JX, px_PX))) rfl ?_
    exact px_E_ret rfl rfl) ?_
  refine px_E_seg 4 (σ' := (23, [(0, .ref 0), (1, .int a1), (2, .int a2)], [.int a2, .ref 1], (px_shX, px_IX, px_JX, px_PX))) rfl ?_
  refine px_E_call (j := 18) (as := [.ref 1, .int a2]) (rest := []) (v := some (.int 0)) (h1 := (px_shX, px_IX, px_JX, px_PX)) rfl rfl rfl (by
    refine px_E_seg 1 (σ' := (1, [(0, .ref 1), (1, .int a2)], [.int a2], (px_shX, px_IX, px_JX, px_PX))) rfl ?_
    refine px_E_ifF (t := 16) rfl rfl (show (0 : Int) ≤ a2.toInt by omega) ?_
    refine px_E_seg 3 (σ' := (9, [(0, .ref 1), (1, .int a2)], [.int 0, .int a2], (px_shX, px_IX, px_JX, px_PX))) rfl ?_
    refine px_E_icT (t := 16) rfl rfl (show (0 : Int) ≤ a2.toInt by omega) ?_
    refine px_E_seg 1 (σ' := (17, [(0, .ref 1), (1, .int a2)], [.int 0], (px_shX, px_IX, px_JX, px_PX))) rfl ?_
    exact px_E_ret rfl rfl) ?_
  refine px_E_seg 2 (σ' := (30, [(0, .ref 0), (1, .int a1), (2, .int a2)], [.int (-1)], (px_shX, px_IX, px_JX, px_PX))) rfl ?_
  exact px_E_ret rfl rfl
set_option maxRecDepth 100000 in
set_option maxHeartbeats 4000000 in
theorem px_r8_2 {ro : px_RO} {dd : Nat} (a1 a2 : Int32) (ha1 : 1 ≤ a1.toInt ∧ a1.toInt ≤ 24) (ha2 : 0 ≤ a2.toInt ∧ a2.toInt ≤ 2147483647) : px_RX ro (dd + 8) 240 [.ref 95, .int a1, .int a2] (.int (-1)) := by
  intro Ic Jc Pc
  refine ⟨(px_shX, (px_mI Ic), (px_mJ Jc), (px_mP Pc)), ?_, rfl⟩
  show px_E ro (dd + 8) 240 (0, _, [], _) _ _
  refine px_E_seg 1 (σ' := (1, [(0, .ref 95), (1, .int a1), (2, .int a2)], [.ref 95], (px_shX, (px_mI Ic), (px_mJ Jc), (px_mP Pc)))) rfl ?_
  refine px_E_call (j := 241) (as := [.ref 95]) (rest := []) (v := some (.int 0)) (h1 := (px_shX, (px_mI Ic), (px_mJ Jc), (px_mP Pc))) rfl rfl rfl (by
    refine px_E_seg 6 (σ' := (8, [(1, .int 0), (0, .ref 95)], [.ref 95], (px_shX, (px_mI Ic), (px_mJ Jc), (px_mP Pc)))) rfl ?_
    refine px_E_seg 1 (σ' := (9, [(1, .int 0), (0, .ref 95)], [.int 0, .ref 95], (px_shX, (px_mI Ic), (px_mJ Jc), (px_mP Pc)))) rfl ?_
    refine px_E_call (j := 242) (as := [.ref 95, .int 0]) (rest := []) (v := some (.int 0)) (h1 := (px_shX, (px_mI Ic), (px_mJ Jc), (px_mP Pc))) rfl rfl rfl (by
      refine px_E_seg 5 (σ' := (8, [(0, .ref 95), (1, .int 0)], [.int 0, .int 3, .int 114, .ref 96], (px_shX, (px_mI Ic), (px_mJ Jc), (px_mP Pc)))) rfl ?_
      refine px_E_seg 1 (σ' := (9, [(0, .ref 95), (1, .int 0)], [.int 0, .int 114, .ref 96], (px_shX, (px_mI Ic), (px_mJ Jc), (px_mP Pc)))) rfl ?_
      refine px_E_seg 2 (σ' := (11, [(0, .ref 95), (1, .int 0)], [.int 0], (px_shX, (px_mI Ic), (px_mJ Jc), (px_mP Pc)))) rfl ?_
      exact px_E_ret rfl rfl) ?_
    refine px_E_seg 2 (σ' := (16, [(1, .int 0), (0, .ref 95)], [.int 0], (px_shX, (px_mI Ic), (px_mJ Jc), (px_mP Pc)))) rfl ?_
    exact px_E_ret rfl rfl) ?_
  refine px_E_seg 4 (σ' := (9, [(3, .int 0), (0, .ref 95), (1, .int a1), (2, .int a2)], [.int 24, .int 1, .int a1], (px_shX, (px_mI Ic), (px_mJ Jc), (px_mP Pc)))) rfl ?_
  refine px_E_call (j := 183) (as := [.int a1, .int 1, .int 24]) (rest := []) (v := some (.int 1)) (h1 := (px_shX, (px_mI Ic), (px_mJ Jc), (px_mP Pc))) rfl rfl rfl (by
    refine px_E_seg 2 (σ' := (2, [(0, .int a1), (1, .int 1), (2, .int 24)], [.int 1, .int a1], (px_shX, (px_mI Ic), (px_mJ Jc), (px_mP Pc)))) rfl ?_
    refine px_E_icF (t := 14) rfl rfl (show (1 : Int) ≤ a1.toInt by omega) ?_
    refine px_E_seg 2 (σ' := (7, [(0, .int a1), (1, .int 1), (2, .int 24)], [.int 24, .int a1], (px_shX, (px_mI Ic), (px_mJ Jc), (px_mP Pc)))) rfl ?_
    refine px_E_icF (t := 14) rfl rfl (show a1.toInt ≤ (24 : Int) by omega) ?_
    refine px_E_seg 2 (σ' := (15, [(0, .int a1), (1, .int 1), (2, .int 24)], [.int 1], (px_shX, (px_mI Ic), (px_mJ Jc), (px_mP Pc)))) rfl ?_
    exact px_E_ret rfl rfl) ?_
  refine px_E_seg 3 (σ' := (17, [(3, .int 0), (0, .ref 95), (1, .int a1), (2, .int a2)], [.int a2, .ref 95], (px_shX, (px_mI Ic), (px_mJ Jc), (px_mP Pc)))) rfl ?_
  refine px_E_call (j := 185) (as := [.ref 95, .int a2]) (rest := []) (v := some (.int 0)) (h1 := (px_shX, (px_mI Ic), (px_mJ Jc), (px_mP Pc))) rfl rfl rfl (by
    refine px_E_seg 6 (σ' := (8, [(0, .ref 95), (1, .int a2)], [.int 0, .int 0, .int a2], (px_shX, (px_mI Ic), (px_mJ Jc), (px_mP Pc)))) rfl ?_
    refine px_E_seg 1 (σ' := (9, [(0, .ref 95), (1, .int a2)], [.int 1, .int 0, .int 0, .int a2], (px_shX, (px_mI Ic), (px_mJ Jc), (px_mP Pc)))) rfl ?_
    refine px_E_seg 1 (σ' := (10, [(0, .ref 95), (1, .int a2)], [.int (-1), .int 0, .int a2], (px_shX, (px_mI Ic), (px_mJ Jc), (px_mP Pc)))) rfl ?_
    refine px_E_call (j := 183) (as := [.int a2, .int 0, .int (-1)]) (rest := []) (v := some (.int 0)) (h1 := (px_shX, (px_mI Ic), (px_mJ Jc), (px_mP Pc))) rfl rfl rfl (by
      refine px_E_seg 2 (σ' := (2, [(0, .int a2), (1, .int 0), (2, .int (-1))], [.int 0, .int a2], (px_shX, (px_mI Ic), (px_mJ Jc), (px_mP Pc)))) rfl ?_
      refine px_E_icF (t := 14) rfl rfl (show (0 : Int) ≤ a2.toInt by omega) ?_
      refine px_E_seg 2 (σ' := (7, [(0, .int a2), (1, .int 0), (2, .int (-1))], [.int (-1), .int a2], (px_shX, (px_mI Ic), (px_mJ Jc), (px_mP Pc)))) rfl ?_
      refine px_E_icT (t := 14) rfl rfl (show (-1 : Int) < a2.toInt by omega) ?_
      refine px_E_seg 1 (σ' := (15, [(0, .int a2), (1, .int 0), (2, .int (-1))], [.int 0], (px_shX, (px_mI Ic), (px_mJ Jc), (px_mP Pc)))) rfl ?_
      exact px_E_ret rfl rfl) ?_
    exact px_E_ret rfl rfl) ?_
  refine px_E_seg 2 (σ' := (39, [(3, .int 0), (0, .ref 95), (1, .int a1), (2, .int a2)], [.int (-1)], (px_shX, (px_mI Ic), (px_mJ Jc), (px_mP Pc)))) rfl ?_
  exact px_E_ret rfl rfl
set_option maxRecDepth 100000 in
set_option maxHeartbeats 4000000 in
theorem px_x8_3 {ro : px_RO} {dd : Nat} (a1 a2 : Int32) (ha1 : 25 ≤ a1.toInt ∧ a1.toInt ≤ 2147483647) (ha2 : (-2147483648) ≤ a2.toInt ∧ a2.toInt ≤ 2147483647) : px_CX ro (dd + 8) 63 [.ref 0, .int a1, .int a2] (.int (-1)) := by
  refine ⟨px_IX, px_PX, ?_, px_fr_0, px_frP_0⟩
  show px_E ro (dd + 8) 63 (0, _, [], _) _ _
  refine px_E_seg 5 (σ' := (8, [(0, .ref 0), (1, .int a1), (2, .int a2)], [.ref 15, .int 24, .int 1, .int a1], (px_shX, px_IX, px_JX, px_PX))) rfl ?_
  refine px_E_call (j := 64) (as := [.ref 15]) (rest := [.int 24, .int 1, .int a1]) (v := some (.int 0)) (h1 := (px_shX, px_IX, px_JX, px_PX)) rfl rfl rfl (by
    refine px_E_seg 2 (σ' := (4, [(0, .ref 15)], [.ref 16], (px_shX, px_IX, px_JX, px_PX))) rfl ?_
    refine px_E_call (j := 65) (as := [.ref 16]) (rest := []) (v := some (.int 0)) (h1 := (px_shX, px_IX, px_JX, px_PX)) rfl rfl rfl (by
      refine px_E_seg 6 (σ' := (6, [(2, .ref 16), (1, .int 0), (0, .ref 16)], [.int 4], (px_shX, px_IX, px_JX, px_PX))) rfl ?_
      refine px_E_seg 6 (σ' := (16, [(4, .int 0), (3, .int 4), (2, .ref 16), (1, .int 0), (0, .ref 16)], [], (px_shX, px_IX, px_JX, px_PX))) rfl ?_
      refine px_E_seg 6 (σ' := (25, [(5, .int 0), (4, .int 0), (3, .int 4), (2, .ref 16), (1, .int 0), (0, .ref 16)], [.int 0, .int 0], (px_shX, px_IX, px_JX, px_PX))) rfl ?_
      refine px_E_seg 6 (σ' := (13, [(4, .int 1), (1, .int 0), (5, .int 0), (3, .int 4), (2, .ref 16), (0, .ref 16)], [.int 4, .int 1], (px_shX, px_IX, px_JX, px_PX))) rfl ?_
      refine px_E_seg 6 (σ' := (23, [(5, .int 0), (4, .int 1), (1, .int 0), (3, .int 4), (2, .ref 16), (0, .ref 16)], [.int 0], (px_shX, px_IX, px_JX, px_PX))) rfl ?_
      refine px_E_seg 1 (σ' := (25, [(5, .int 0), (4, .int 1), (1, .int 0), (3, .int 4), (2, .ref 16), (0, .ref 16)], [.int 0, .int 0], (px_shX, px_IX, px_JX, px_PX))) rfl ?_
      refine px_E_seg 6 (σ' := (13, [(4, .int 2), (1, .int 0), (5, .int 0), (3, .int 4), (2, .ref 16), (0, .ref 16)], [.int 4, .int 2], (px_shX, px_IX, px_JX, px_PX))) rfl ?_
      refine px_E_seg 6 (σ' := (23, [(5, .int 0), (4, .int 2), (1, .int 0), (3, .int 4), (2, .ref 16), (0, .ref 16)], [.int 0], (px_shX, px_IX, px_JX, px_PX))) rfl ?_
      refine px_E_seg 1 (σ' := (25, [(5, .int 0), (4, .int 2), (1, .int 0), (3, .int 4), (2, .ref 16), (0, .ref 16)], [.int 0, .int 0], (px_shX, px_IX, px_JX, px_PX))) rfl ?_
      refine px_E_seg 6 (σ' := (13, [(4, .int 3), (1, .int 0), (5, .int 0), (3, .int 4), (2, .ref 16), (0, .ref 16)], [.int 4, .int 3], (px_shX, px_IX, px_JX, px_PX))) rfl ?_
      refine px_E_seg 6 (σ' := (23, [(5, .int 0), (4, .int 3), (1, .int 0), (3, .int 4), (2, .ref 16), (0, .ref 16)], [.int 0], (px_shX, px_IX, px_JX, px_PX))) rfl ?_
      refine px_E_seg 1 (σ' := (25, [(5, .int 0), (4, .int 3), (1, .int 0), (3, .int 4), (2, .ref 16), (0, .ref 16)], [.int 0, .int 0], (px_shX, px_IX, px_JX, px_PX))) rfl ?_
      refine px_E_seg 6 (σ' := (13, [(4, .int 4), (1, .int 0), (5, .int 0), (3, .int 4), (2, .ref 16), (0, .ref 16)], [.int 4, .int 4], (px_shX, px_IX, px_JX, px_PX))) rfl ?_
      refine px_E_seg 2 (σ' := (34, [(4, .int 4), (1, .int 0), (5, .int 0), (3, .int 4), (2, .ref 16), (0, .ref 16)], [.int 0], (px_shX, px_IX, px_JX, px_PX))) rfl ?_
      exact px_E_ret rfl rfl) ?_
    exact px_E_ret rfl rfl) ?_
  refine px_E_seg 1 (σ' := (12, [(0, .ref 0), (1, .int a1), (2, .int a2)], [.int 24, .int 1, .int a1], (px_shX, px_IX, px_JX, px_PX))) rfl ?_
  refine px_E_call (j := 15) (as := [.int a1, .int 1, .int 24]) (rest := []) (v := some (.int 0)) (h1 := (px_shX, px_IX, px_JX, px_PX)) rfl rfl rfl (by
    refine px_E_seg 2 (σ' := (2, [(0, .int a1), (1, .int 1), (2, .int 24)], [.int 1, .int a1], (px_shX, px_IX, px_JX, px_PX))) rfl ?_
    refine px_E_icF (t := 14) rfl rfl (show (1 : Int) ≤ a1.toInt by omega) ?_
    refine px_E_seg 2 (σ' := (7, [(0, .int a1), (1, .int 1), (2, .int 24)], [.int 24, .int a1], (px_shX, px_IX, px_JX, px_PX))) rfl ?_
    refine px_E_icT (t := 14) rfl rfl (show (24 : Int) < a1.toInt by omega) ?_
    refine px_E_seg 1 (σ' := (15, [(0, .int a1), (1, .int 1), (2, .int 24)], [.int 0], (px_shX, px_IX, px_JX, px_PX))) rfl ?_
    exact px_E_ret rfl rfl) ?_
  refine px_E_seg 2 (σ' := (30, [(0, .ref 0), (1, .int a1), (2, .int a2)], [.int (-1)], (px_shX, px_IX, px_JX, px_PX))) rfl ?_
  exact px_E_ret rfl rfl
set_option maxRecDepth 100000 in
set_option maxHeartbeats 4000000 in
theorem px_r8_3 {ro : px_RO} {dd : Nat} (a1 a2 : Int32) (ha1 : 25 ≤ a1.toInt ∧ a1.toInt ≤ 2147483647) (ha2 : (-2147483648) ≤ a2.toInt ∧ a2.toInt ≤ 2147483647) : px_RX ro (dd + 8) 240 [.ref 95, .int a1, .int a2] (.int (-1)) := by
  intro Ic Jc Pc
  refine ⟨(px_shX, (px_mI Ic), (px_mJ Jc), (px_mP Pc)), ?_, rfl⟩
  show px_E ro (dd + 8) 240 (0, _, [], _) _ _
  refine px_E_seg 1 (σ' := (1, [(0, .ref 95), (1, .int a1), (2, .int a2)], [.ref 95], (px_shX, (px_mI Ic), (px_mJ Jc), (px_mP Pc)))) rfl ?_
  refine px_E_call (j := 241) (as := [.ref 95]) (rest := []) (v := some (.int 0)) (h1 := (px_shX, (px_mI Ic), (px_mJ Jc), (px_mP Pc))) rfl rfl rfl (by
    refine px_E_seg 6 (σ' := (8, [(1, .int 0), (0, .ref 95)], [.ref 95], (px_shX, (px_mI Ic), (px_mJ Jc), (px_mP Pc)))) rfl ?_
    refine px_E_seg 1 (σ' := (9, [(1, .int 0), (0, .ref 95)], [.int 0, .ref 95], (px_shX, (px_mI Ic), (px_mJ Jc), (px_mP Pc)))) rfl ?_
    refine px_E_call (j := 242) (as := [.ref 95, .int 0]) (rest := []) (v := some (.int 0)) (h1 := (px_shX, (px_mI Ic), (px_mJ Jc), (px_mP Pc))) rfl rfl rfl (by
      refine px_E_seg 5 (σ' := (8, [(0, .ref 95), (1, .int 0)], [.int 0, .int 3, .int 114, .ref 96], (px_shX, (px_mI Ic), (px_mJ Jc), (px_mP Pc)))) rfl ?_
      refine px_E_seg 1 (σ' := (9, [(0, .ref 95), (1, .int 0)], [.int 0, .int 114, .ref 96], (px_shX, (px_mI Ic), (px_mJ Jc), (px_mP Pc)))) rfl ?_
      refine px_E_seg 2 (σ' := (11, [(0, .ref 95), (1, .int 0)], [.int 0], (px_shX, (px_mI Ic), (px_mJ Jc), (px_mP Pc)))) rfl ?_
      exact px_E_ret rfl rfl) ?_
    refine px_E_seg 2 (σ' := (16, [(1, .int 0), (0, .ref 95)], [.int 0], (px_shX, (px_mI Ic), (px_mJ Jc), (px_mP Pc)))) rfl ?_
    exact px_E_ret rfl rfl) ?_
  refine px_E_seg 4 (σ' := (9, [(3, .int 0), (0, .ref 95), (1, .int a1), (2, .int a2)], [.int 24, .int 1, .int a1], (px_shX, (px_mI Ic), (px_mJ Jc), (px_mP Pc)))) rfl ?_
  refine px_E_call (j := 183) (as := [.int a1, .int 1, .int 24]) (rest := []) (v := some (.int 0)) (h1 := (px_shX, (px_mI Ic), (px_mJ Jc), (px_mP Pc))) rfl rfl rfl (by
    refine px_E_seg 2 (σ' := (2, [(0, .int a1), (1, .int 1), (2, .int 24)], [.int 1, .int a1], (px_shX, (px_mI Ic), (px_mJ Jc), (px_mP Pc)))) rfl ?_
    refine px_E_icF (t := 14) rfl rfl (show (1 : Int) ≤ a1.toInt by omega) ?_
    refine px_E_seg 2 (σ' := (7, [(0, .int a1), (1, .int 1), (2, .int 24)], [.int 24, .int a1], (px_shX, (px_mI Ic), (px_mJ Jc), (px_mP Pc)))) rfl ?_
    refine px_E_icT (t := 14) rfl rfl (show (24 : Int) < a1.toInt by omega) ?_
    refine px_E_seg 1 (σ' := (15, [(0, .int a1), (1, .int 1), (2, .int 24)], [.int 0], (px_shX, (px_mI Ic), (px_mJ Jc), (px_mP Pc)))) rfl ?_
    exact px_E_ret rfl rfl) ?_
  refine px_E_seg 2 (σ' := (39, [(3, .int 0), (0, .ref 95), (1, .int a1), (2, .int a2)], [.int (-1)], (px_shX, (px_mI Ic), (px_mJ Jc), (px_mP Pc)))) rfl ?_
  exact px_E_ret rfl rfl
set_option maxRecDepth 100000 in
set_option maxHeartbeats 4000000 in
theorem px_x10_0 {ro : px_RO} {dd : Nat} (a1 a2 : Int32) (ha1 : (-2147483648) ≤ a1.toInt ∧ a1.toInt ≤ (-1)) (ha2 : (-2147483648) ≤ a2.toInt ∧ a2.toInt ≤ 2147483647) : px_CX ro (dd + 8) 98 [.ref 0, .int a1, .int a2] (.int 0) := by
  refine ⟨px_IX, px_PX, ?_, px_fr_0, px_frP_0⟩
  show px_E ro (dd + 8) 98 (0, _, [], _) _ _
  refine px_E_seg 3 (σ' := (5, [(0, .ref 0), (1, .int a1), (2, .int a2)], [.int a1, .ref 1], (px_shX, px_IX, px_JX, px_PX))) rfl ?_
  refine px_E_call (j := 99) (as := [.ref 1, .int a1]) (rest := []) (v := some (.int 0)) (h1 := (px_shX, px_IX, px_JX, px_PX)) rfl rfl rfl (by
    refine px_E_seg 1 (σ' := (1, [(0, .ref 1), (1, .int a1)], [.int a1], (px_shX, px_IX, px_JX, px_PX))) rfl ?_
    refine px_E_ifT (t := 16) rfl rfl (show a1.toInt < (0 : Int) by omega) ?_
    refine px_E_seg 1 (σ' := (17, [(0, .ref 1), (1, .int a1)], [.int 0], (px_shX, px_IX, px_JX, px_PX))) rfl ?_
    exact px_E_ret rfl rfl) ?_
  refine px_E_seg 2 (σ' := (42, [(0, .ref 0), (1, .int a1), (2, .int a2)], [.int 0], (px_shX, px_IX, px_JX, px_PX))) rfl ?_
  exact px_E_ret rfl rfl
set_option maxRecDepth 100000 in
set_option maxHeartbeats 4000000 in
theorem px_r10_0 {ro : px_RO} {dd : Nat} (a1 a2 : Int32) (ha1 : (-2147483648) ≤ a1.toInt ∧ a1.toInt ≤ (-1)) (ha2 : (-2147483648) ≤ a2.toInt ∧ a2.toInt ≤ 2147483647) : px_RX ro (dd + 8) 248 [.ref 95, .int a1, .int a2] (.int 0) := by
  intro Ic Jc Pc
  refine ⟨(px_shX, (px_mI Ic), (px_mJ Jc), (px_mP Pc)), ?_, rfl⟩
  show px_E ro (dd + 8) 248 (0, _, [], _) _ _
  refine px_E_seg 2 (σ' := (2, [(0, .ref 95), (1, .int a1), (2, .int a2)], [.int a1, .ref 95], (px_shX, (px_mI Ic), (px_mJ Jc), (px_mP Pc)))) rfl ?_
  refine px_E_call (j := 249) (as := [.ref 95, .int a1]) (rest := []) (v := some (.int 0)) (h1 := (px_shX, (px_mI Ic), (px_mJ Jc), (px_mP Pc))) rfl rfl rfl (by
    refine px_E_seg 6 (σ' := (8, [(0, .ref 95), (1, .int a1)], [.int 0, .int 0, .int a1], (px_shX, (px_mI Ic), (px_mJ Jc), (px_mP Pc)))) rfl ?_
    refine px_E_seg 1 (σ' := (9, [(0, .ref 95), (1, .int a1)], [.int 1, .int 0, .int 0, .int a1], (px_shX, (px_mI Ic), (px_mJ Jc), (px_mP Pc)))) rfl ?_
    refine px_E_seg 1 (σ' := (10, [(0, .ref 95), (1, .int a1)], [.int (-1), .int 0, .int a1], (px_shX, (px_mI Ic), (px_mJ Jc), (px_mP Pc)))) rfl ?_
    refine px_E_call (j := 183) (as := [.int a1, .int 0, .int (-1)]) (rest := []) (v := some (.int 0)) (h1 := (px_shX, (px_mI Ic), (px_mJ Jc), (px_mP Pc))) rfl rfl rfl (by
      refine px_E_seg 2 (σ' := (2, [(0, .int a1), (1, .int 0), (2, .int (-1))], [.int 0, .int a1], (px_shX, (px_mI Ic), (px_mJ Jc), (px_mP Pc)))) rfl ?_
      refine px_E_icT (t := 14) rfl rfl (show a1.toInt < (0 : Int) by omega) ?_
      refine px_E_seg 1 (σ' := (15, [(0, .int a1), (1, .int 0), (2, .int (-1))], [.int 0], (px_shX, (px_mI Ic), (px_mJ Jc), (px_mP Pc)))) rfl ?_
      exact px_E_ret rfl rfl) ?_
    exact px_E_ret rfl rfl) ?_
  refine px_E_seg 2 (σ' := (32, [(0, .ref 95), (1, .int a1), (2, .int a2)], [.int 0], (px_shX, (px_mI Ic), (px_mJ Jc), (px_mP Pc)))) rfl ?_
  exact px_E_ret rfl rfl
set_option maxRecDepth 100000 in
set_option maxHeartbeats 4000000 in
theorem px_x10_1 {ro : px_RO} {dd : Nat} (a1 a2 : Int32) (ha1 : 0 ≤ a1.toInt ∧ a1.toInt ≤ 2147483647) (ha2 : (-2147483648) ≤ a2.toInt ∧ a2.toInt ≤ 2147483647) : px_CX ro (dd + 8) 98 [.ref 0, .int a1, .int a2] (.int 0) := by
  refine ⟨px_IX, px_PX, ?_, px_fr_0, px_frP_0⟩
  show px_E ro (dd + 8) 98 (0, _, [], _) _ _
  refine px_E_seg 3 (σ' := (5, [(0, .ref 0), (1, .int a1), (2, .int a2)], [.int a1, .ref 1], (px_shX, px_IX, px_JX, px_PX))) rfl ?_
  refine px_E_call (j := 99) (as := [.ref 1, .int a1]) (rest := []) (v := some (.int 0)) (h1 := (px_shX, px_IX, px_JX, px_PX)) rfl rfl rfl (by
    refine px_E_seg 1 (σ' := (1, [(0, .ref 1), (1, .int a1)], [.int a1], (px_shX, px_IX, px_JX, px_PX))) rfl ?_
    refine px_E_ifF (t := 16) rfl rfl (show (0 : Int) ≤ a1.toInt by omega) ?_
    refine px_E_seg 3 (σ' := (9, [(0, .ref 1), (1, .int a1)], [.int 0, .int a1], (px_shX, px_IX, px_JX, px_PX))) rfl ?_
    refine px_E_icT (t := 16) rfl rfl (show (0 : Int) ≤ a1.toInt by omega) ?_
    refine px_E_seg 1 (σ' := (17, [(0, .ref 1), (1, .int a1)], [.int 0], (px_shX, px_IX, px_JX, px_PX))) rfl ?_
    exact px_E_ret rfl rfl) ?_
  refine px_E_seg 2 (σ' := (42, [(0, .ref 0), (1, .int a1), (2, .int a2)], [.int 0], (px_shX, px_IX, px_JX, px_PX))) rfl ?_
  exact px_E_ret rfl rfl
set_option maxRecDepth 100000 in
set_option maxHeartbeats 4000000 in
theorem px_r10_1 {ro : px_RO} {dd : Nat} (a1 a2 : Int32) (ha1 : 0 ≤ a1.toInt ∧ a1.toInt ≤ 2147483647) (ha2 : (-2147483648) ≤ a2.toInt ∧ a2.toInt ≤ 2147483647) : px_RX ro (dd + 8) 248 [.ref 95, .int a1, .int a2] (.int 0) := by
  intro Ic Jc Pc
  refine ⟨(px_shX, (px_mI Ic), (px_mJ Jc), (px_mP Pc)), ?_, rfl⟩
  show px_E ro (dd + 8) 248 (0, _, [], _) _ _
  refine px_E_seg 2 (σ' := (2, [(0, .ref 95), (1, .int a1), (2, .int a2)], [.int a1, .ref 95], (px_shX, (px_mI Ic), (px_mJ Jc), (px_mP Pc)))) rfl ?_
  refine px_E_call (j := 249) (as := [.ref 95, .int a1]) (rest := []) (v := some (.int 0)) (h1 := (px_shX, (px_mI Ic), (px_mJ Jc), (px_mP Pc))) rfl rfl rfl (by
    refine px_E_seg 6 (σ' := (8, [(0, .ref 95), (1, .int a1)], [.int 0, .int 0, .int a1], (px_shX, (px_mI Ic), (px_mJ Jc), (px_mP Pc)))) rfl ?_
    refine px_E_seg 1 (σ' := (9, [(0, .ref 95), (1, .int a1)], [.int 1, .int 0, .int 0, .int a1], (px_shX, (px_mI Ic), (px_mJ Jc), (px_mP Pc)))) rfl ?_
    refine px_E_seg 1 (σ' := (10, [(0, .ref 95), (1, .int a1)], [.int (-1), .int 0, .int a1], (px_shX, (px_mI Ic), (px_mJ Jc), (px_mP Pc)))) rfl ?_
    refine px_E_call (j := 183) (as := [.int a1, .int 0, .int (-1)]) (rest := []) (v := some (.int 0)) (h1 := (px_shX, (px_mI Ic), (px_mJ Jc), (px_mP Pc))) rfl rfl rfl (by
      refine px_E_seg 2 (σ' := (2, [(0, .int a1), (1, .int 0), (2, .int (-1))], [.int 0, .int a1], (px_shX, (px_mI Ic), (px_mJ Jc), (px_mP Pc)))) rfl ?_
      refine px_E_icF (t := 14) rfl rfl (show (0 : Int) ≤ a1.toInt by omega) ?_
      refine px_E_seg 2 (σ' := (7, [(0, .int a1), (1, .int 0), (2, .int (-1))], [.int (-1), .int a1], (px_shX, (px_mI Ic), (px_mJ Jc), (px_mP Pc)))) rfl ?_
      refine px_E_icT (t := 14) rfl rfl (show (-1 : Int) < a1.toInt by omega) ?_
      refine px_E_seg 1 (σ' := (15, [(0, .int a1), (1, .int 0), (2, .int (-1))], [.int 0], (px_shX, (px_mI Ic), (px_mJ Jc), (px_mP Pc)))) rfl ?_
      exact px_E_ret rfl rfl) ?_
    exact px_E_ret rfl rfl) ?_
  refine px_E_seg 2 (σ' := (32, [(0, .ref 95), (1, .int a1), (2, .int a2)], [.int 0], (px_shX, (px_mI Ic), (px_mJ Jc), (px_mP Pc)))) rfl ?_
  exact px_E_ret rfl rfl
set_option maxRecDepth 100000 in
set_option maxHeartbeats 4000000 in
theorem px_x11_0 {ro : px_RO} {dd : Nat} (a1 a2 : Int32) (ha1 : (-2147483648) ≤ a1.toInt ∧ a1.toInt ≤ (-1)) (ha2 : 0 ≤ a2.toInt ∧ a2.toInt ≤ 1) : px_CX ro (dd + 8) 100 [.ref 0, .int a1, .int a2] (.int 0) := by
  refine ⟨px_IX, px_PX, ?_, px_fr_0, px_frP_0⟩
  show px_E ro (dd + 8) 100 (0, _, [], _) _ _
  refine px_E_seg 3 (σ' := (5, [(0, .ref 0), (1, .int a1), (2, .int a2)], [.int a1, .ref 1], (px_shX, px_IX, px_JX, px_PX))) rfl ?_
  refine px_E_call (j := 89) (as := [.ref 1, .int a1]) (rest := []) (v := some (.int 0)) (h1 := (px_shX, px_IX, px_JX, px_PX)) rfl rfl rfl (by
    refine px_E_seg 1 (σ' := (1, [(0, .ref 1), (1, .int a1)], [.int a1], (px_shX, px_IX, px_JX, px_PX))) rfl ?_
    refine px_E_ifT (t := 25) rfl rfl (show a1.toInt < (0 : Int) by omega) ?_
    refine px_E_seg 1 (σ' := (26, [(0, .ref 1), (1, .int a1)], [.int 0], (px_shX, px_IX, px_JX, px_PX))) rfl ?_
    exact px_E_ret rfl rfl) ?_
  refine px_E_seg 2 (σ' := (24, [(0, .ref 0), (1, .int a1), (2, .int a2)], [.int 0], (px_shX, px_IX, px_JX, px_PX))) rfl ?_
  exact px_E_ret rfl rfl
set_option maxRecDepth 100000 in
set_option maxHeartbeats 4000000 in
theorem px_r11_0 {ro : px_RO} {dd : Nat} (a1 a2 : Int32) (ha1 : (-2147483648) ≤ a1.toInt ∧ a1.toInt ≤ (-1)) (ha2 : 0 ≤ a2.toInt ∧ a2.toInt ≤ 1) : px_RX ro (dd + 8) 250 [.ref 95, .int a1, .int a2] (.int 0) := by
  intro Ic Jc Pc
  refine ⟨(px_shX, (px_mI Ic), (px_mJ Jc), (px_mP Pc)), ?_, rfl⟩
  show px_E ro (dd + 8) 250 (0, _, [], _) _ _
  refine px_E_seg 2 (σ' := (2, [(0, .ref 95), (1, .int a1), (2, .int a2)], [.int a1, .ref 95], (px_shX, (px_mI Ic), (px_mJ Jc), (px_mP Pc)))) rfl ?_
  refine px_E_call (j := 251) (as := [.ref 95, .int a1]) (rest := []) (v := some (.int 0)) (h1 := (px_shX, (px_mI Ic), (px_mJ Jc), (px_mP Pc))) rfl rfl rfl (by
    refine px_E_seg 6 (σ' := (8, [(0, .ref 95), (1, .int a1)], [.int 0, .int 0, .int a1], (px_shX, (px_mI Ic), (px_mJ Jc), (px_mP Pc)))) rfl ?_
    refine px_E_seg 1 (σ' := (9, [(0, .ref 95), (1, .int a1)], [.int 1, .int 0, .int 0, .int a1], (px_shX, (px_mI Ic), (px_mJ Jc), (px_mP Pc)))) rfl ?_
    refine px_E_seg 1 (σ' := (10, [(0, .ref 95), (1, .int a1)], [.int (-1), .int 0, .int a1], (px_shX, (px_mI Ic), (px_mJ Jc), (px_mP Pc)))) rfl ?_
    refine px_E_call (j := 183) (as := [.int a1, .int 0, .int (-1)]) (rest := []) (v := some (.int 0)) (h1 := (px_shX, (px_mI Ic), (px_mJ Jc), (px_mP Pc))) rfl rfl rfl (by
      refine px_E_seg 2 (σ' := (2, [(0, .int a1), (1, .int 0), (2, .int (-1))], [.int 0, .int a1], (px_shX, (px_mI Ic), (px_mJ Jc), (px_mP Pc)))) rfl ?_
      refine px_E_icT (t := 14) rfl rfl (show a1.toInt < (0 : Int) by omega) ?_
      refine px_E_seg 1 (σ' := (15, [(0, .int a1), (1, .int 0), (2, .int (-1))], [.int 0], (px_shX, (px_mI Ic), (px_mJ Jc), (px_mP Pc)))) rfl ?_
      exact px_E_ret rfl rfl) ?_
    exact px_E_ret rfl rfl) ?_
  refine px_E_seg 2 (σ' := (26, [(0, .ref 95), (1, .int a1), (2, .int a2)], [.int 0], (px_shX, (px_mI Ic), (px_mJ Jc), (px_mP Pc)))) rfl ?_
  exact px_E_ret rfl rfl
set_option maxRecDepth 100000 in
set_option maxHeartbeats 4000000 in
theorem px_x11_1 {ro : px_RO} {dd : Nat} (a1 a2 : Int32) (ha1 : 0 ≤ a1.toInt ∧ a1.toInt ≤ 2147483647) (ha2 : 0 ≤ a2.toInt ∧ a2.toInt ≤ 1) : px_CX ro (dd + 8) 100 [.ref 0, .int a1, .int a2] (.int 0) := by
  refine ⟨px_IX, px_PX, ?_, px_fr_0, px_frP_0⟩
  show px_E ro (dd + 8) 100 (0, _, [], _) _ _
  refine px_E_seg 3 (σ' := (5, [(0, .ref 0), (1, .int a1), (2, .int a2)], [.int a1, .ref 1], (px_shX, px_IX, px_JX, px_PX))) rfl ?_
  refine px_E_call (j := 89) (as := [.ref 1, .int a1]) (rest := []) (v := some (.int 0)) (h1 := (px_shX, px_IX, px_JX, px_PX)) rfl rfl rfl (by
    refine px_E_seg 1 (σ' := (1, [(0, .ref 1), (1, .int a1)], [.int a1], (px_shX, px_IX, px_JX, px_PX))) rfl ?_
    refine px_E_ifF (t := 25) rfl rfl (show (0 : Int) ≤ a1.toInt by omega) ?_
    refine px_E_seg 3 (σ' := (9, [(0, .ref 1), (1, .int a1)], [.int 0, .int a1], (px_shX, px_IX, px_JX, px_PX))) rfl ?_
    refine px_E_icT (t := 25) rfl rfl (show (0 : Int) ≤ a1.toInt by omega) ?_
    refine px_E_seg 1 (σ' := (26, [(0, .ref 1), (1, .int a1)], [.int 0], (px_shX, px_IX, px_JX, px_PX))) rfl ?_
    exact px_E_ret rfl rfl) ?_
  refine px_E_seg 2 (σ' := (24, [(0, .ref 0), (1, .int a1), (2, .int a2)], [.int 0], (px_shX, px_IX, px_JX, px_PX))) rfl ?_
  exact px_E_ret rfl rfl
set_option maxRecDepth 100000 in
set_option maxHeartbeats 4000000 in
theorem px_r11_1 {ro : px_RO} {dd : Nat} (a1 a2 : Int32) (ha1 : 0 ≤ a1.toInt ∧ a1.toInt ≤ 2147483647) (ha2 : 0 ≤ a2.toInt ∧ a2.toInt ≤ 1) : px_RX ro (dd + 8) 250 [.ref 95, .int a1, .int a2] (.int 0) := by
  intro Ic Jc Pc
  refine ⟨(px_shX, (px_mI Ic), (px_mJ Jc), (px_mP Pc)), ?_, rfl⟩
  show px_E ro (dd + 8) 250 (0, _, [], _) _ _
  refine px_E_seg 2 (σ' := (2, [(0, .ref 95), (1, .int a1), (2, .int a2)], [.int a1, .ref 95], (px_shX, (px_mI Ic), (px_mJ Jc), (px_mP Pc)))) rfl ?_
  refine px_E_call (j := 251) (as := [.ref 95, .int a1]) (rest := []) (v := some (.int 0)) (h1 := (px_shX, (px_mI Ic), (px_mJ Jc), (px_mP Pc))) rfl rfl rfl (by
    refine px_E_seg 6 (σ' := (8, [(0, .ref 95), (1, .int a1)], [.int 0, .int 0, .int a1], (px_shX, (px_mI Ic), (px_mJ Jc), (px_mP Pc)))) rfl ?_
    refine px_E_seg 1 (σ' := (9, [(0, .ref 95), (1, .int a1)], [.int 1, .int 0, .int 0, .int a1], (px_shX, (px_mI Ic), (px_mJ Jc), (px_mP Pc)))) rfl ?_
    refine px_E_seg 1 (σ' := (10, [(0, .ref 95), (1, .int a1)], [.int (-1), .int 0, .int a1], (px_shX, (px_mI Ic), (px_mJ Jc), (px_mP Pc)))) rfl ?_
    refine px_E_call (j := 183) (as := [.int a1, .int 0, .int (-1)]) (rest := []) (v := some (.int 0)) (h1 := (px_shX, (px_mI Ic), (px_mJ Jc), (px_mP Pc))) rfl rfl rfl (by
      refine px_E_seg 2 (σ' := (2, [(0, .int a1), (1, .int 0), (2, .int (-1))], [.int 0, .int a1], (px_shX, (px_mI Ic), (px_mJ Jc), (px_mP Pc)))) rfl ?_
      refine px_E_icF (t := 14) rfl rfl (show (0 : Int) ≤ a1.toInt by omega) ?_
      refine px_E_seg 2 (σ' := (7, [(0, .int a1), (1, .int 0), (2, .int (-1))], [.int (-1), .int a1], (px_shX, (px_mI Ic), (px_mJ Jc), (px_mP Pc)))) rfl ?_
      refine px_E_icT (t := 14) rfl rfl (show (-1 : Int) < a1.toInt by omega) ?_
      refine px_E_seg 1 (σ' := (15, [(0, .int a1), (1, .int 0), (2, .int (-1))], [.int 0], (px_shX, (px_mI Ic), (px_mJ Jc), (px_mP Pc)))) rfl ?_
      exact px_E_ret rfl rfl) ?_
    exact px_E_ret rfl rfl) ?_
  refine px_E_seg 2 (σ' := (26, [(0, .ref 95), (1, .int a1), (2, .int a2)], [.int 0], (px_shX, (px_mI Ic), (px_mJ Jc), (px_mP Pc)))) rfl ?_
  exact px_E_ret rfl rfl
set_option maxRecDepth 100000 in
set_option maxHeartbeats 4000000 in
theorem px_x12_0 {ro : px_RO} {dd : Nat} (a1 a2 : Int32) (ha1 : (-2147483648) ≤ a1.toInt ∧ a1.toInt ≤ (-1)) (ha2 : (-2147483648) ≤ a2.toInt ∧ a2.toInt ≤ 2147483647) : px_CX ro (dd + 8) 102 [.ref 0, .int a1, .int a2] (.int (-1)) := by
  refine ⟨px_IX, px_PX, ?_, px_fr_0, px_frP_0⟩
  show px_E ro (dd + 8) 102 (0, _, [], _) _ _
  refine px_E_seg 3 (σ' := (5, [(0, .ref 0), (1, .int a1), (2, .int a2)], [.int a1, .ref 15], (px_shX, px_IX, px_JX, px_PX))) rfl ?_
  refine px_E_call (j := 80) (as := [.ref 15, .int a1]) (rest := []) (v := some (.int 0)) (h1 := (px_shX, px_IX, px_JX, px_PX)) rfl rfl rfl (by
    refine px_E_seg 1 (σ' := (1, [(0, .ref 15), (1, .int a1)], [.int a1], (px_shX, px_IX, px_JX, px_PX))) rfl ?_
    refine px_E_ifT (t := 22) rfl rfl (show a1.toInt < (0 : Int) by omega) ?_
    refine px_E_seg 1 (σ' := (23, [(0, .ref 15), (1, .int a1)], [.int 0], (px_shX, px_IX, px_JX, px_PX))) rfl ?_
    exact px_E_ret rfl rfl) ?_
  refine px_E_seg 2 (σ' := (31, [(0, .ref 0), (1, .int a1), (2, .int a2)], [.int (-1)], (px_shX, px_IX, px_JX, px_PX))) rfl ?_
  exact px_E_ret rfl rfl
set_option maxRecDepth 100000 in
set_option maxHeartbeats 4000000 in
theorem px_r12_0 {ro : px_RO} {dd : Nat} (a1 a2 : Int32) (ha1 : (-2147483648) ≤ a1.toInt ∧ a1.toInt ≤ (-1)) (ha2 : (-2147483648) ≤ a2.toInt ∧ a2.toInt ≤ 2147483647) : px_RX ro (dd + 8) 253 [.ref 95, .int a1, .int a2] (.int (-1)) := by
  intro Ic Jc Pc
  refine ⟨(px_shX, (px_mI Ic), (px_mJ Jc), (px_mP Pc)), ?_, rfl⟩
  show px_E ro (dd + 8) 253 (0, _, [], _) _ _
  refine px_E_seg 1 (σ' := (1, [(0, .ref 95), (1, .int a1), (2, .int a2)], [.ref 95], (px_shX, (px_mI Ic), (px_mJ Jc), (px_mP Pc)))) rfl ?_
  refine px_E_call (j := 241) (as := [.ref 95]) (rest := []) (v := some (.int 0)) (h1 := (px_shX, (px_mI Ic), (px_mJ Jc), (px_mP Pc))) rfl rfl rfl (by
    refine px_E_seg 6 (σ' := (8, [(1, .int 0), (0, .ref 95)], [.ref 95], (px_shX, (px_mI Ic), (px_mJ Jc), (px_mP Pc)))) rfl ?_
    refine px_E_seg 1 (σ' := (9, [(1, .int 0), (0, .ref 95)], [.int 0, .ref 95], (px_shX, (px_mI Ic), (px_mJ Jc), (px_mP Pc)))) rfl ?_
    refine px_E_call (j := 242) (as := [.ref 95, .int 0]) (rest := []) (v := some (.int 0)) (h1 := (px_shX, (px_mI Ic), (px_mJ Jc), (px_mP Pc))) rfl rfl rfl (by
      refine px_E_seg 5 (σ' := (8, [(0, .ref 95), (1, .int 0)], [.int 0, .int 3, .int 114, .ref 96], (px_shX, (px_mI Ic), (px_mJ Jc), (px_mP Pc)))) rfl ?_
      refine px_E_seg 1 (σ' := (9, [(0, .ref 95), (1, .int 0)], [.int 0, .int 114, .ref 96], (px_shX, (px_mI Ic), (px_mJ Jc), (px_mP Pc)))) rfl ?_
      refine px_E_seg 2 (σ' := (11, [(0, .ref 95), (1, .int 0)], [.int 0], (px_shX, (px_mI Ic), (px_mJ Jc), (px_mP Pc)))) rfl ?_
      exact px_E_ret rfl rfl) ?_
    refine px_E_seg 2 (σ' := (16, [(1, .int 0), (0, .ref 95)], [.int 0], (px_shX, (px_mI Ic), (px_mJ Jc), (px_mP Pc)))) rfl ?_
    exact px_E_ret rfl rfl) ?_
  refine px_E_seg 3 (σ' := (7, [(3, .int 0), (0, .ref 95), (1, .int a1), (2, .int a2)], [.int a1, .ref 95], (px_shX, (px_mI Ic), (px_mJ Jc), (px_mP Pc)))) rfl ?_
  refine px_E_call (j := 254) (as := [.ref 95, .int a1]) (rest := []) (v := some (.int 0)) (h1 := (px_shX, (px_mI Ic), (px_mJ Jc), (px_mP Pc))) rfl rfl rfl (by
    refine px_E_seg 3 (σ' := (3, [(0, .ref 95), (1, .int a1)], [.int 3, .int 0, .int a1], (px_shX, (px_mI Ic), (px_mJ Jc), (px_mP Pc)))) rfl ?_
    refine px_E_call (j := 183) (as := [.int a1, .int 0, .int 3]) (rest := []) (v := some (.int 0)) (h1 := (px_shX, (px_mI Ic), (px_mJ Jc), (px_mP Pc))) rfl rfl rfl (by
      refine px_E_seg 2 (σ' := (2, [(0, .int a1), (1, .int 0), (2, .int 3)], [.int 0, .int a1], (px_shX, (px_mI Ic), (px_mJ Jc), (px_mP Pc)))) rfl ?_
      refine px_E_icT (t := 14) rfl rfl (show a1.toInt < (0 : Int) by omega) ?_
      refine px_E_seg 1 (σ' := (15, [(0, .int a1), (1, .int 0), (2, .int 3)], [.int 0], (px_shX, (px_mI Ic), (px_mJ Jc), (px_mP Pc)))) rfl ?_
      exact px_E_ret rfl rfl) ?_
    refine px_E_seg 2 (σ' := (22, [(0, .ref 95), (1, .int a1)], [.int 0], (px_shX, (px_mI Ic), (px_mJ Jc), (px_mP Pc)))) rfl ?_
    exact px_E_ret rfl rfl) ?_
  refine px_E_seg 2 (σ' := (33, [(3, .int 0), (0, .ref 95), (1, .int a1), (2, .int a2)], [.int (-1)], (px_shX, (px_mI Ic), (px_mJ Jc), (px_mP Pc)))) rfl ?_
  exact px_E_ret rfl rfl
set_option maxRecDepth 100000 in
set_option maxHeartbeats 4000000 in
theorem px_x12_1 {ro : px_RO} {dd : Nat} (a2 : Int32) (ha2 : (-2147483648) ≤ a2.toInt ∧ a2.toInt ≤ 2147483647) : px_CX ro (dd + 8) 102 [.ref 0, .int 0, .int a2] (.int (-1)) := by
  refine ⟨px_IX, px_PX, ?_, px_fr_0, px_frP_0⟩
  show px_E ro (dd + 8) 102 (0, _, [], _) _ _
  refine px_E_seg 3 (σ' := (5, [(0, .ref 0), (1, .int 0), (2, .int a2)], [.int 0, .ref 15], (px_shX, px_IX, px_JX, px_PX))) rfl ?_
  refine px_E_call (j := 80) (as := [.ref 15, .int 0]) (rest := []) (v := some (.int 0)) (h1 := (px_shX, px_IX, px_JX, px_PX)) rfl rfl rfl (by
    refine px_E_seg 6 (σ' := (10, [(0, .ref 15), (1, .int 0)], [.ref 15], (px_shX, px_IX, px_JX, px_PX))) rfl ?_
    refine px_E_seg 5 (σ' := (23, [(0, .ref 15), (1, .int 0)], [.int 0], (px_shX, px_IX, px_JX, px_PX))) rfl ?_
    exact px_E_ret rfl rfl) ?_
  refine px_E_seg 2 (σ' := (31, [(0, .ref 0), (1, .int 0), (2, .int a2)], [.int (-1)], (px_shX, px_IX, px_JX, px_PX))) rfl ?_
  exact px_E_ret rfl rfl
set_option maxRecDepth 100000 in
set_option maxHeartbeats 4000000 in
theorem px_r12_1 {ro : px_RO} {dd : Nat} (a2 : Int32) (ha2 : (-2147483648) ≤ a2.toInt ∧ a2.toInt ≤ 2147483647) : px_RX ro (dd + 8) 253 [.ref 95, .int 0, .int a2] (.int (-1)) := by
  intro Ic Jc Pc
  refine ⟨(px_shX, (px_mI Ic), (px_mJ Jc), (px_mP Pc)), ?_, rfl⟩
  show px_E ro (dd + 8) 253 (0, _, [], _) _ _
  refine px_E_seg 1 (σ' := (1, [(0, .ref 95), (1, .int 0), (2, .int a2)], [.ref 95], (px_shX, (px_mI Ic), (px_mJ Jc), (px_mP Pc)))) rfl ?_
  refine px_E_call (j := 241) (as := [.ref 95]) (rest := []) (v := some (.int 0)) (h1 := (px_shX, (px_mI Ic), (px_mJ Jc), (px_mP Pc))) rfl rfl rfl (by
    refine px_E_seg 6 (σ' := (8, [(1, .int 0), (0, .ref 95)], [.ref 95], (px_shX, (px_mI Ic), (px_mJ Jc), (px_mP Pc)))) rfl ?_
    refine px_E_seg 1 (σ' := (9, [(1, .int 0), (0, .ref 95)], [.int 0, .ref 95], (px_shX, (px_mI Ic), (px_mJ Jc), (px_mP Pc)))) rfl ?_
    refine px_E_call (j := 242) (as := [.ref 95, .int 0]) (rest := []) (v := some (.int 0)) (h1 := (px_shX, (px_mI Ic), (px_mJ Jc), (px_mP Pc))) rfl rfl rfl (by
      refine px_E_seg 5 (σ' := (8, [(0, .ref 95), (1, .int 0)], [.int 0, .int 3, .int 114, .ref 96], (px_shX, (px_mI Ic), (px_mJ Jc), (px_mP Pc)))) rfl ?_
      refine px_E_seg 1 (σ' := (9, [(0, .ref 95), (1, .int 0)], [.int 0, .int 114, .ref 96], (px_shX, (px_mI Ic), (px_mJ Jc), (px_mP Pc)))) rfl ?_
      refine px_E_seg 2 (σ' := (11, [(0, .ref 95), (1, .int 0)], [.int 0], (px_shX, (px_mI Ic), (px_mJ Jc), (px_mP Pc)))) rfl ?_
      exact px_E_ret rfl rfl) ?_
    refine px_E_seg 2 (σ' := (16, [(1, .int 0), (0, .ref 95)], [.int 0], (px_shX, (px_mI Ic), (px_mJ Jc), (px_mP Pc)))) rfl ?_
    exact px_E_ret rfl rfl) ?_
  refine px_E_seg 3 (σ' := (7, [(3, .int 0), (0, .ref 95), (1, .int 0), (2, .int a2)], [.int 0, .ref 95], (px_shX, (px_mI Ic), (px_mJ Jc), (px_mP Pc)))) rfl ?_
  refine px_E_call (j := 254) (as := [.ref 95, .int 0]) (rest := []) (v := some (.int 0)) (h1 := (px_shX, (px_mI Ic), (px_mJ Jc), (px_mP Pc))) rfl rfl rfl (by
    refine px_E_seg 3 (σ' := (3, [(0, .ref 95), (1, .int 0)], [.int 3, .int 0, .int 0], (px_shX, (px_mI Ic), (px_mJ Jc), (px_mP Pc)))) rfl ?_
    refine px_E_call (j := 183) (as := [.int 0, .int 0, .int 3]) (rest := []) (v := some (.int 1)) (h1 := (px_shX, (px_mI Ic), (px_mJ Jc), (px_mP Pc))) rfl rfl rfl (by
      refine px_E_seg 6 (σ' := (10, [(0, .int 0), (1, .int 0), (2, .int 3)], [], (px_shX, (px_mI Ic), (px_mJ Jc), (px_mP Pc)))) rfl ?_
      refine px_E_seg 2 (σ' := (15, [(0, .int 0), (1, .int 0), (2, .int 3)], [.int 1], (px_shX, (px_mI Ic), (px_mJ Jc), (px_mP Pc)))) rfl ?_
      exact px_E_ret rfl rfl) ?_
    refine px_E_seg 3 (σ' := (11, [(0, .ref 95), (1, .int 0)], [.int 0, .ref 95], (px_shX, (px_mI Ic), (px_mJ Jc), (px_mP Pc)))) rfl ?_
    refine px_E_call (j := 242) (as := [.ref 95, .int 0]) (rest := []) (v := some (.int 0)) (h1 := (px_shX, (px_mI Ic), (px_mJ Jc), (px_mP Pc))) rfl rfl rfl (by
      refine px_E_seg 5 (σ' := (8, [(0, .ref 95), (1, .int 0)], [.int 0, .int 3, .int 114, .ref 96], (px_shX, (px_mI Ic), (px_mJ Jc), (px_mP Pc)))) rfl ?_
      refine px_E_seg 1 (σ' := (9, [(0, .ref 95), (1, .int 0)], [.int 0, .int 114, .ref 96], (px_shX, (px_mI Ic), (px_mJ Jc), (px_mP Pc)))) rfl ?_
      refine px_E_seg 2 (σ' := (11, [(0, .ref 95), (1, .int 0)], [.int 0], (px_shX, (px_mI Ic), (px_mJ Jc), (px_mP Pc)))) rfl ?_
      exact px_E_ret rfl rfl) ?_
    refine px_E_seg 2 (σ' := (22, [(0, .ref 95), (1, .int 0)], [.int 0], (px_shX, (px_mI Ic), (px_mJ Jc), (px_mP Pc)))) rfl ?_
    exact px_E_ret rfl rfl) ?_
  refine px_E_seg 2 (σ' := (33, [(3, .int 0), (0, .ref 95), (1, .int 0), (2, .int a2)], [.int (-1)], (px_shX, (px_mI Ic), (px_mJ Jc), (px_mP Pc)))) rfl ?_
  exact px_E_ret rfl rfl
set_option maxRecDepth 100000 in
set_option maxHeartbeats 4000000 in
theorem px_x12_2 {ro : px_RO} {dd : Nat} (a2 : Int32) (ha2 : (-2147483648) ≤ a2.toInt ∧ a2.toInt ≤ 2147483647) : px_CX ro (dd + 8) 102 [.ref 0, .int 1, .int a2] (.int (-1)) := by
  refine ⟨px_IX, px_PX, ?_, px_fr_0, px_frP_0⟩
  show px_E ro (dd + 8) 102 (0, _, [], _) _ _
  refine px_E_seg 3 (σ' := (5, [(0, .ref 0), (1, .int 1), (2, .int a2)], [.int 1, .ref 15], (px_shX, px_IX, px_JX, px_PX))) rfl ?_
  refine px_E_call (j := 80) (as := [.ref 15, .int 1]) (rest := []) (v := some (.int 0)) (h1 := (px_shX, px_IX, px_JX, px_PX)) rfl rfl rfl (by
    refine px_E_seg 6 (σ' := (10, [(0, .ref 15), (1, .int 1)], [.ref 15], (px_shX, px_IX, px_JX, px_PX))) rfl ?_
    refine px_E_seg 5 (σ' := (23, [(0, .ref 15), (1, .int 1)], [.int 0], (px_shX, px_IX, px_JX, px_PX))) rfl ?_
    exact px_E_ret rfl rfl) ?_
  refine px_E_seg 2 (σ' := (31, [(0, .ref 0), (1, .int 1), (2, .int a2)], [.int (-1)], (px_shX, px_IX, px_JX, px_PX))) rfl ?_
  exact px_E_ret rfl rfl
set_option maxRecDepth 100000 in
set_option maxHeartbeats 4000000 in
theorem px_r12_2 {ro : px_RO} {dd : Nat} (a2 : Int32) (ha2 : (-2147483648) ≤ a2.toInt ∧ a2.toInt ≤ 2147483647) : px_RX ro (dd + 8) 253 [.ref 95, .int 1, .int a2] (.int (-1)) := by
  intro Ic Jc Pc
  refine ⟨(px_shX, (px_mI Ic), (px_mJ Jc), (px_mP Pc)), ?_, rfl⟩
  show px_E ro (dd + 8) 253 (0, _, [], _) _ _
  refine px_E_seg 1 (σ' := (1, [(0, .ref 95), (1, .int 1), (2, .int a2)], [.ref 95], (px_shX, (px_mI Ic), (px_mJ Jc), (px_mP Pc)))) rfl ?_
  refine px_E_call (j := 241) (as := [.ref 95]) (rest := []) (v := some (.int 0)) (h1 := (px_shX, (px_mI Ic), (px_mJ Jc), (px_mP Pc))) rfl rfl rfl (by
    refine px_E_seg 6 (σ' := (8, [(1, .int 0), (0, .ref 95)], [.ref 95], (px_shX, (px_mI Ic), (px_mJ Jc), (px_mP Pc)))) rfl ?_
    refine px_E_seg 1 (σ' := (9, [(1, .int 0), (0, .ref 95)], [.int 0, .ref 95], (px_shX, (px_mI Ic), (px_mJ Jc), (px_mP Pc)))) rfl ?_
    refine px_E_call (j := 242) (as := [.ref 95, .int 0]) (rest := []) (v := some (.int 0)) (h1 := (px_shX, (px_mI Ic), (px_mJ Jc), (px_mP Pc))) rfl rfl rfl (by
      refine px_E_seg 5 (σ' := (8, [(0, .ref 95), (1, .int 0)], [.int 0, .int 3, .int 114, .ref 96], (px_shX, (px_mI Ic), (px_mJ Jc), (px_mP Pc)))) rfl ?_
      refine px_E_seg 1 (σ' := (9, [(0, .ref 95), (1, .int 0)], [.int 0, .int 114, .ref 96], (px_shX, (px_mI Ic), (px_mJ Jc), (px_mP Pc)))) rfl ?_
      refine px_E_seg 2 (σ' := (11, [(0, .ref 95), (1, .int 0)], [.int 0], (px_shX, (px_mI Ic), (px_mJ Jc), (px_mP Pc)))) rfl ?_
      exact px_E_ret rfl rfl) ?_
    refine px_E_seg 2 (σ' := (16, [(1, .int 0), (0, .ref 95)], [.int 0], (px_shX, (px_mI Ic), (px_mJ Jc), (px_mP Pc)))) rfl ?_
    exact px_E_ret rfl rfl) ?_
  refine px_E_seg 3 (σ' := (7, [(3, .int 0), (0, .ref 95), (1, .int 1), (2, .int a2)], [.int 1, .ref 95], (px_shX, (px_mI Ic), (px_mJ Jc), (px_mP Pc)))) rfl ?_
  refine px_E_call (j := 254) (as := [.ref 95, .int 1]) (rest := []) (v := some (.int 0)) (h1 := (px_shX, (px_mI Ic), (px_mJ Jc), (px_mP Pc))) rfl rfl rfl (by
    refine px_E_seg 3 (σ' := (3, [(0, .ref 95), (1, .int 1)], [.int 3, .int 0, .int 1], (px_shX, (px_mI Ic), (px_mJ Jc), (px_mP Pc)))) rfl ?_
    refine px_E_call (j := 183) (as := [.int 1, .int 0, .int 3]) (rest := []) (v := some (.int 1)) (h1 := (px_shX, (px_mI Ic), (px_mJ Jc), (px_mP Pc))) rfl rfl rfl (by
      refine px_E_seg 6 (σ' := (10, [(0, .int 1), (1, .int 0), (2, .int 3)], [], (px_shX, (px_mI Ic), (px_mJ Jc), (px_mP Pc)))) rfl ?_
      refine px_E_seg 2 (σ' := (15, [(0, .int 1), (1, .int 0), (2, .int 3)], [.int 1], (px_shX, (px_mI Ic), (px_mJ Jc), (px_mP Pc)))) rfl ?_
      exact px_E_ret rfl rfl) ?_
    refine px_E_seg 3 (σ' := (11, [(0, .ref 95), (1, .int 1)], [.int 1, .ref 95], (px_shX, (px_mI Ic), (px_mJ Jc), (px_mP Pc)))) rfl ?_
    refine px_E_call (j := 242) (as := [.ref 95, .int 1]) (rest := []) (v := some (.int 0)) (h1 := (px_shX, (px_mI Ic), (px_mJ Jc), (px_mP Pc))) rfl rfl rfl (by
      refine px_E_seg 5 (σ' := (8, [(0, .ref 95), (1, .int 1)], [.int 1, .int 3, .int 114, .ref 96], (px_shX, (px_mI Ic), (px_mJ Jc), (px_mP Pc)))) rfl ?_
      refine px_E_seg 1 (σ' := (9, [(0, .ref 95), (1, .int 1)], [.int 3, .int 114, .ref 96], (px_shX, (px_mI Ic), (px_mJ Jc), (px_mP Pc)))) rfl ?_
      refine px_E_seg 2 (σ' := (11, [(0, .ref 95), (1, .int 1)], [.int 0], (px_shX, (px_mI Ic), (px_mJ Jc), (px_mP Pc)))) rfl ?_
      exact px_E_ret rfl rfl) ?_
    refine px_E_seg 2 (σ' := (22, [(0, .ref 95), (1, .int 1)], [.int 0], (px_shX, (px_mI Ic), (px_mJ Jc), (px_mP Pc)))) rfl ?_
    exact px_E_ret rfl rfl) ?_
  refine px_E_seg 2 (σ' := (33, [(3, .int 0), (0, .ref 95), (1, .int 1), (2, .int a2)], [.int (-1)], (px_shX, (px_mI Ic), (px_mJ Jc), (px_mP Pc)))) rfl ?_
  exact px_E_ret rfl rfl
set_option maxRecDepth 100000 in
set_option maxHeartbeats 4000000 in
theorem px_x12_3 {ro : px_RO} {dd : Nat} (a2 : Int32) (ha2 : (-2147483648) ≤ a2.toInt ∧ a2.toInt ≤ 2147483647) : px_CX ro (dd + 8) 102 [.ref 0, .int 2, .int a2] (.int (-1)) := by
  refine ⟨px_IX, px_PX, ?_, px_fr_0, px_frP_0⟩
  show px_E ro (dd + 8) 102 (0, _, [], _) _ _
  refine px_E_seg 3 (σ' := (5, [(0, .ref 0), (1, .int 2), (2, .int a2)], [.int 2, .ref 15], (px_shX, px_IX, px_JX, px_PX))) rfl ?_
  refine px_E_call (j := 80) (as := [.ref 15, .int 2]) (rest := []) (v := some (.int 0)) (h1 := (px_shX, px_IX, px_JX, px_PX)) rfl rfl rfl (by
    refine px_E_seg 6 (σ' := (10, [(0, .ref 15), (1, .int 2)], [.ref 15], (px_shX, px_IX, px_JX, px_PX))) rfl ?_
    refine px_E_seg 5 (σ' := (23, [(0, .ref 15), (1, .int 2)], [.int 0], (px_shX, px_IX, px_JX, px_PX))) rfl ?_
    exact px_E_ret rfl rfl) ?_
  refine px_E_seg 2 (σ' := (31, [(0, .ref 0), (1, .int 2), (2, .int a2)], [.int (-1)], (px_shX, px_IX, px_JX, px_PX))) rfl ?_
  exact px_E_ret rfl rfl
set_option maxRecDepth 100000 in
set_option maxHeartbeats 4000000 in
theorem px_r12_3 {ro : px_RO} {dd : Nat} (a2 : Int32) (ha2 : (-2147483648) ≤ a2.toInt ∧ a2.toInt ≤ 2147483647) : px_RX ro (dd + 8) 253 [.ref 95, .int 2, .int a2] (.int (-1)) := by
  intro Ic Jc Pc
  refine ⟨(px_shX, (px_mI Ic), (px_mJ Jc), (px_mP Pc)), ?_, rfl⟩
  show px_E ro (dd + 8) 253 (0, _, [], _) _ _
  refine px_E_seg 1 (σ' := (1, [(0, .ref 95), (1, .int 2), (2, .int a2)], [.ref 95], (px_shX, (px_mI Ic), (px_mJ Jc), (px_mP Pc)))) rfl ?_
  refine px_E_call (j := 241) (as := [.ref 95]) (rest := []) (v := some (.int 0)) (h1 := (px_shX, (px_mI Ic), (px_mJ Jc), (px_mP Pc))) rfl rfl rfl (by
    refine px_E_seg 6 (σ' := (8, [(1, .int 0), (0, .ref 95)], [.ref 95], (px_shX, (px_mI Ic), (px_mJ Jc), (px_mP Pc)))) rfl ?_
    refine px_E_seg 1 (σ' := (9, [(1, .int 0), (0, .ref 95)], [.int 0, .ref 95], (px_shX, (px_mI Ic), (px_mJ Jc), (px_mP Pc)))) rfl ?_
    refine px_E_call (j := 242) (as := [.ref 95, .int 0]) (rest := []) (v := some (.int 0)) (h1 := (px_shX, (px_mI Ic), (px_mJ Jc), (px_mP Pc))) rfl rfl rfl (by
      refine px_E_seg 5 (σ' := (8, [(0, .ref 95), (1, .int 0)], [.int 0, .int 3, .int 114, .ref 96], (px_shX, (px_mI Ic), (px_mJ Jc), (px_mP Pc)))) rfl ?_
      refine px_E_seg 1 (σ' := (9, [(0, .ref 95), (1, .int 0)], [.int 0, .int 114, .ref 96], (px_shX, (px_mI Ic), (px_mJ Jc), (px_mP Pc)))) rfl ?_
      refine px_E_seg 2 (σ' := (11, [(0, .ref 95), (1, .int 0)], [.int 0], (px_shX, (px_mI Ic), (px_mJ Jc), (px_mP Pc)))) rfl ?_
      exact px_E_ret rfl rfl) ?_
    refine px_E_seg 2 (σ' := (16, [(1, .int 0), (0, .ref 95)], [.int 0], (px_shX, (px_mI Ic), (px_mJ Jc), (px_mP Pc)))) rfl ?_
    exact px_E_ret rfl rfl) ?_
  refine px_E_seg 3 (σ' := (7, [(3, .int 0), (0, .ref 95), (1, .int 2), (2, .int a2)], [.int 2, .ref 95], (px_shX, (px_mI Ic), (px_mJ Jc), (px_mP Pc)))) rfl ?_
  refine px_E_call (j := 254) (as := [.ref 95, .int 2]) (rest := []) (v := some (.int 0)) (h1 := (px_shX, (px_mI Ic), (px_mJ Jc), (px_mP Pc))) rfl rfl rfl (by
    refine px_E_seg 3 (σ' := (3, [(0, .ref 95), (1, .int 2)], [.int 3, .int 0, .int 2], (px_shX, (px_mI Ic), (px_mJ Jc), (px_mP Pc)))) rfl ?_
    refine px_E_call (j := 183) (as := [.int 2, .int 0, .int 3]) (rest := []) (v := some (.int 1)) (h1 := (px_shX, (px_mI Ic), (px_mJ Jc), (px_mP Pc))) rfl rfl rfl (by
      refine px_E_seg 6 (σ' := (10, [(0, .int 2), (1, .int 0), (2, .int 3)], [], (px_shX, (px_mI Ic), (px_mJ Jc), (px_mP Pc)))) rfl ?_
      refine px_E_seg 2 (σ' := (15, [(0, .int 2), (1, .int 0), (2, .int 3)], [.int 1], (px_shX, (px_mI Ic), (px_mJ Jc), (px_mP Pc)))) rfl ?_
      exact px_E_ret rfl rfl) ?_
    refine px_E_seg 3 (σ' := (11, [(0, .ref 95), (1, .int 2)], [.int 2, .ref 95], (px_shX, (px_mI Ic), (px_mJ Jc), (px_mP Pc)))) rfl ?_
    refine px_E_call (j := 242) (as := [.ref 95, .int 2]) (rest := []) (v := some (.int 0)) (h1 := (px_shX, (px_mI Ic), (px_mJ Jc), (px_mP Pc))) rfl rfl rfl (by
      refine px_E_seg 5 (σ' := (8, [(0, .ref 95), (1, .int 2)], [.int 2, .int 3, .int 114, .ref 96], (px_shX, (px_mI Ic), (px_mJ Jc), (px_mP Pc)))) rfl ?_
      refine px_E_seg 1 (σ' := (9, [(0, .ref 95), (1, .int 2)], [.int 6, .int 114, .ref 96], (px_shX, (px_mI Ic), (px_mJ Jc), (px_mP Pc)))) rfl ?_
      refine px_E_seg 2 (σ' := (11, [(0, .ref 95), (1, .int 2)], [.int 0], (px_shX, (px_mI Ic), (px_mJ Jc), (px_mP Pc)))) rfl ?_
      exact px_E_ret rfl rfl) ?_
    refine px_E_seg 2 (σ' := (22, [(0, .ref 95), (1, .int 2)], [.int 0], (px_shX, (px_mI Ic), (px_mJ Jc), (px_mP Pc)))) rfl ?_
    exact px_E_ret rfl rfl) ?_
  refine px_E_seg 2 (σ' := (33, [(3, .int 0), (0, .ref 95), (1, .int 2), (2, .int a2)], [.int (-1)], (px_shX, (px_mI Ic), (px_mJ Jc), (px_mP Pc)))) rfl ?_
  exact px_E_ret rfl rfl
set_option maxRecDepth 100000 in
set_option maxHeartbeats 4000000 in
theorem px_x12_4 {ro : px_RO} {dd : Nat} (a2 : Int32) (ha2 : (-2147483648) ≤ a2.toInt ∧ a2.toInt ≤ 2147483647) : px_CX ro (dd + 8) 102 [.ref 0, .int 3, .int a2] (.int (-1)) := by
  refine ⟨px_IX, px_PX, ?_, px_fr_0, px_frP_0⟩
  show px_E ro (dd + 8) 102 (0, _, [], _) _ _
  refine px_E_seg 3 (σ' := (5, [(0, .ref 0), (1, .int 3), (2, .int a2)], [.int 3, .ref 15], (px_shX, px_IX, px_JX, px_PX))) rfl ?_
  refine px_E_call (j := 80) (as := [.ref 15, .int 3]) (rest := []) (v := some (.int 0)) (h1 := (px_shX, px_IX, px_JX, px_PX)) rfl rfl rfl (by
    refine px_E_seg 6 (σ' := (10, [(0, .ref 15), (1, .int 3)], [.ref 15], (px_shX, px_IX, px_JX, px_PX))) rfl ?_
    refine px_E_seg 5 (σ' := (23, [(0, .ref 15), (1, .int 3)], [.int 0], (px_shX, px_IX, px_JX, px_PX))) rfl ?_
    exact px_E_ret rfl rfl) ?_
  refine px_E_seg 2 (σ' := (31, [(0, .ref 0), (1, .int 3), (2, .int a2)], [.int (-1)], (px_shX, px_IX, px_JX, px_PX))) rfl ?_
  exact px_E_ret rfl rfl
set_option maxRecDepth 100000 in
set_option maxHeartbeats 4000000 in
theorem px_r12_4 {ro : px_RO} {dd : Nat} (a2 : Int32) (ha2 : (-2147483648) ≤ a2.toInt ∧ a2.toInt ≤ 2147483647) : px_RX ro (dd + 8) 253 [.ref 95, .int 3, .int a2] (.int (-1)) := by
  intro Ic Jc Pc
  refine ⟨(px_shX, (px_mI Ic), (px_mJ Jc), (px_mP Pc)), ?_, rfl⟩
  show px_E ro (dd + 8) 253 (0, _, [], _) _ _
  refine px_E_seg 1 (σ' := (1, [(0, .ref 95), (1, .int 3), (2, .int a2)], [.ref 95], (px_shX, (px_mI Ic), (px_mJ Jc), (px_mP Pc)))) rfl ?_
  refine px_E_call (j := 241) (as := [.ref 95]) (rest := []) (v := some (.int 0)) (h1 := (px_shX, (px_mI Ic), (px_mJ Jc), (px_mP Pc))) rfl rfl rfl (by
    refine px_E_seg 6 (σ' := (8, [(1, .int 0), (0, .ref 95)], [.ref 95], (px_shX, (px_mI Ic), (px_mJ Jc), (px_mP Pc)))) rfl ?_
    refine px_E_seg 1 (σ' := (9, [(1, .int 0), (0, .ref 95)], [.int 0, .ref 95], (px_shX, (px_mI Ic), (px_mJ Jc), (px_mP Pc)))) rfl ?_
    refine px_E_call (j := 242) (as := [.ref 95, .int 0]) (rest := []) (v := some (.int 0)) (h1 := (px_shX, (px_mI Ic), (px_mJ Jc), (px_mP Pc))) rfl rfl rfl (by
      refine px_E_seg 5 (σ' := (8, [(0, .ref 95), (1, .int 0)], [.int 0, .int 3, .int 114, .ref 96], (px_shX, (px_mI Ic), (px_mJ Jc), (px_mP Pc)))) rfl ?_
      refine px_E_seg 1 (σ' := (9, [(0, .ref 95), (1, .int 0)], [.int 0, .int 114, .ref 96], (px_shX, (px_mI Ic), (px_mJ Jc), (px_mP Pc)))) rfl ?_
      refine px_E_seg 2 (σ' := (11, [(0, .ref 95), (1, .int 0)], [.int 0], (px_shX, (px_mI Ic), (px_mJ Jc), (px_mP Pc)))) rfl ?_
      exact px_E_ret rfl rfl) ?_
    refine px_E_seg 2 (σ' := (16, [(1, .int 0), (0, .ref 95)], [.int 0], (px_shX, (px_mI Ic), (px_mJ Jc), (px_mP Pc)))) rfl ?_
    exact px_E_ret rfl rfl) ?_
  refine px_E_seg 3 (σ' := (7, [(3, .int 0), (0, .ref 95), (1, .int 3), (2, .int a2)], [.int 3, .ref 95], (px_shX, (px_mI Ic), (px_mJ Jc), (px_mP Pc)))) rfl ?_
  refine px_E_call (j := 254) (as := [.ref 95, .int 3]) (rest := []) (v := some (.int 0)) (h1 := (px_shX, (px_mI Ic), (px_mJ Jc), (px_mP Pc))) rfl rfl rfl (by
    refine px_E_seg 3 (σ' := (3, [(0, .ref 95), (1, .int 3)], [.int 3, .int 0, .int 3], (px_shX, (px_mI Ic), (px_mJ Jc), (px_mP Pc)))) rfl ?_
    refine px_E_call (j := 183) (as := [.int 3, .int 0, .int 3]) (rest := []) (v := some (.int 1)) (h1 := (px_shX, (px_mI Ic), (px_mJ Jc), (px_mP Pc))) rfl rfl rfl (by
      refine px_E_seg 6 (σ' := (10, [(0, .int 3), (1, .int 0), (2, .int 3)], [], (px_shX, (px_mI Ic), (px_mJ Jc), (px_mP Pc)))) rfl ?_
      refine px_E_seg 2 (σ' := (15, [(0, .int 3), (1, .int 0), (2, .int 3)], [.int 1], (px_shX, (px_mI Ic), (px_mJ Jc), (px_mP Pc)))) rfl ?_
      exact px_E_ret rfl rfl) ?_
    refine px_E_seg 3 (σ' := (11, [(0, .ref 95), (1, .int 3)], [.int 3, .ref 95], (px_shX, (px_mI Ic), (px_mJ Jc), (px_mP Pc)))) rfl ?_
    refine px_E_call (j := 242) (as := [.ref 95, .int 3]) (rest := []) (v := some (.int 0)) (h1 := (px_shX, (px_mI Ic), (px_mJ Jc), (px_mP Pc))) rfl rfl rfl (by
      refine px_E_seg 5 (σ' := (8, [(0, .ref 95), (1, .int 3)], [.int 3, .int 3, .int 114, .ref 96], (px_shX, (px_mI Ic), (px_mJ Jc), (px_mP Pc)))) rfl ?_
      refine px_E_seg 1 (σ' := (9, [(0, .ref 95), (1, .int 3)], [.int 9, .int 114, .ref 96], (px_shX, (px_mI Ic), (px_mJ Jc), (px_mP Pc)))) rfl ?_
      refine px_E_seg 2 (σ' := (11, [(0, .ref 95), (1, .int 3)], [.int 0], (px_shX, (px_mI Ic), (px_mJ Jc), (px_mP Pc)))) rfl ?_
      exact px_E_ret rfl rfl) ?_
    refine px_E_seg 2 (σ' := (22, [(0, .ref 95), (1, .int 3)], [.int 0], (px_shX, (px_mI Ic), (px_mJ Jc), (px_mP Pc)))) rfl ?_
    exact px_E_ret rfl rfl) ?_
  refine px_E_seg 2 (σ' := (33, [(3, .int 0), (0, .ref 95), (1, .int 3), (2, .int a2)], [.int (-1)], (px_shX, (px_mI Ic), (px_mJ Jc), (px_mP Pc)))) rfl ?_
  exact px_E_ret rfl rfl
set_option maxRecDepth 100000 in
set_option maxHeartbeats 4000000 in
theorem px_x12_5 {ro : px_RO} {dd : Nat} (a1 a2 : Int32) (ha1 : 4 ≤ a1.toInt ∧ a1.toInt ≤ 2147483647) (ha2 : (-2147483648) ≤ a2.toInt ∧ a2.toInt ≤ 2147483647) : px_CX ro (dd + 8) 102 [.ref 0, .int a1, .int a2] (.int (-1)) := by
  refine ⟨px_IX, px_PX, ?_, px_fr_0, px_frP_0⟩
  show px_E ro (dd + 8) 102 (0, _, [], _) _ _
  refine px_E_seg 3 (σ' := (5, [(0, .ref 0), (1, .int a1), (2, .int a2)], [.int a1, .ref 15], (px_shX, px_IX, px_JX, px_PX))) rfl ?_
  refine px_E_call (j := 80) (as := [.ref 15, .int a1]) (rest := []) (v := some (.int 0)) (h1 := (px_shX, px_IX, px_JX, px_PX)) rfl rfl rfl (by
    refine px_E_seg 1 (σ' := (1, [(0, .ref 15), (1, .int a1)], [.int a1], (px_shX, px_IX, px_JX, px_PX))) rfl ?_
    refine px_E_ifF (t := 22) rfl rfl (show (0 : Int) ≤ a1.toInt by omega) ?_
    refine px_E_seg 2 (σ' := (6, [(0, .ref 15), (1, .int a1)], [.int 4, .int a1], (px_shX, px_IX, px_JX, px_PX))) rfl ?_
    refine px_E_icT (t := 22) rfl rfl (show (4 : Int) ≤ a1.toInt by omega) ?_
    refine px_E_seg 1 (σ' := (23, [(0, .ref 15), (1, .int a1)], [.int 0], (px_shX, px_IX, px_JX, px_PX))) rfl ?_
    exact px_E_ret rfl rfl) ?_
  refine px_E_seg 2 (σ' := (31, [(0, .ref 0), (1, .int a1), (2, .int a2)], [.int (-1)], (px_shX, px_IX, px_JX, px_PX))) rfl ?_
  exact px_E_ret rfl rfl
set_option maxRecDepth 100000 in
set_option maxHeartbeats 4000000 in
theorem px_r12_5 {ro : px_RO} {dd : Nat} (a1 a2 : Int32) (ha1 : 4 ≤ a1.toInt ∧ a1.toInt ≤ 2147483647) (ha2 : (-2147483648) ≤ a2.toInt ∧ a2.toInt ≤ 2147483647) : px_RX ro (dd + 8) 253 [.ref 95, .int a1, .int a2] (.int (-1)) := by
  intro Ic Jc Pc
  refine ⟨(px_shX, (px_mI Ic), (px_mJ Jc), (px_mP Pc)), ?_, rfl⟩
  show px_E ro (dd + 8) 253 (0, _, [], _) _ _
  refine px_E_seg 1 (σ' := (1, [(0, .ref 95), (1, .int a1), (2, .int a2)], [.ref 95], (px_shX, (px_mI Ic), (px_mJ Jc), (px_mP Pc)))) rfl ?_
  refine px_E_call (j := 241) (as := [.ref 95]) (rest := []) (v := some (.int 0)) (h1 := (px_shX, (px_mI Ic), (px_mJ Jc), (px_mP Pc))) rfl rfl rfl (by
    refine px_E_seg 6 (σ' := (8, [(1, .int 0), (0, .ref 95)], [.ref 95], (px_shX, (px_mI Ic), (px_mJ Jc), (px_mP Pc)))) rfl ?_
    refine px_E_seg 1 (σ' := (9, [(1, .int 0), (0, .ref 95)], [.int 0, .ref 95], (px_shX, (px_mI Ic), (px_mJ Jc), (px_mP Pc)))) rfl ?_
    refine px_E_call (j := 242) (as := [.ref 95, .int 0]) (rest := []) (v := some (.int 0)) (h1 := (px_shX, (px_mI Ic), (px_mJ Jc), (px_mP Pc))) rfl rfl rfl (by
      refine px_E_seg 5 (σ' := (8, [(0, .ref 95), (1, .int 0)], [.int 0, .int 3, .int 114, .ref 96], (px_shX, (px_mI Ic), (px_mJ Jc), (px_mP Pc)))) rfl ?_
      refine px_E_seg 1 (σ' := (9, [(0, .ref 95), (1, .int 0)], [.int 0, .int 114, .ref 96], (px_shX, (px_mI Ic), (px_mJ Jc), (px_mP Pc)))) rfl ?_
      refine px_E_seg 2 (σ' := (11, [(0, .ref 95), (1, .int 0)], [.int 0], (px_shX, (px_mI Ic), (px_mJ Jc), (px_mP Pc)))) rfl ?_
      exact px_E_ret rfl rfl) ?_
    refine px_E_seg 2 (σ' := (16, [(1, .int 0), (0, .ref 95)], [.int 0], (px_shX, (px_mI Ic), (px_mJ Jc), (px_mP Pc)))) rfl ?_
    exact px_E_ret rfl rfl) ?_
  refine px_E_seg 3 (σ' := (7, [(3, .int 0), (0, .ref 95), (1, .int a1), (2, .int a2)], [.int a1, .ref 95], (px_shX, (px_mI Ic), (px_mJ Jc), (px_mP Pc)))) rfl ?_
  refine px_E_call (j := 254) (as := [.ref 95, .int a1]) (rest := []) (v := some (.int 0)) (h1 := (px_shX, (px_mI Ic), (px_mJ Jc), (px_mP Pc))) rfl rfl rfl (by
    refine px_E_seg 3 (σ' := (3, [(0, .ref 95), (1, .int a1)], [.int 3, .int 0, .int a1], (px_shX, (px_mI Ic), (px_mJ Jc), (px_mP Pc)))) rfl ?_
    refine px_E_call (j := 183) (as := [.int a1, .int 0, .int 3]) (rest := []) (v := some (.int 0)) (h1 := (px_shX, (px_mI Ic), (px_mJ Jc), (px_mP Pc))) rfl rfl rfl (by
      refine px_E_seg 2 (σ' := (2, [(0, .int a1), (1, .int 0), (2, .int 3)], [.int 0, .int a1], (px_shX, (px_mI Ic), (px_mJ Jc), (px_mP Pc)))) rfl ?_
      refine px_E_icF (t := 14) rfl rfl (show (0 : Int) ≤ a1.toInt by omega) ?_
      refine px_E_seg 2 (σ' := (7, [(0, .int a1), (1, .int 0), (2, .int 3)], [.int 3, .int a1], (px_shX, (px_mI Ic), (px_mJ Jc), (px_mP Pc)))) rfl ?_
      refine px_E_icT (t := 14) rfl rfl (show (3 : Int) < a1.toInt by omega) ?_
      refine px_E_seg 1 (σ' := (15, [(0, .int a1), (1, .int 0), (2, .int 3)], [.int 0], (px_shX, (px_mI Ic), (px_mJ Jc), (px_mP Pc)))) rfl ?_
      exact px_E_ret rfl rfl) ?_
    refine px_E_seg 2 (σ' := (22, [(0, .ref 95), (1, .int a1)], [.int 0], (px_shX, (px_mI Ic), (px_mJ Jc), (px_mP Pc)))) rfl ?_
    exact px_E_ret rfl rfl) ?_
  refine px_E_seg 2 (σ' := (33, [(3, .int 0), (0, .ref 95), (1, .int a1), (2, .int a2)], [.int (-1)], (px_shX, (px_mI Ic), (px_mJ Jc), (px_mP Pc)))) rfl ?_
  exact px_E_ret rfl rfl
set_option maxRecDepth 100000 in
set_option maxHeartbeats 4000000 in
theorem px_x13_0 {ro : px_RO} {dd : Nat} (a1 : Int32) (ha1 : (-2147483648) ≤ a1.toInt ∧ a1.toInt ≤ (-1)) : px_CX ro (dd + 8) 103 [.ref 0, .int a1] (.int (-2)) := by
  refine ⟨px_IX, px_PX, ?_, px_fr_0, px_frP_0⟩
  show px_E ro (dd + 8) 103 (0, _, [], _) _ _
  refine px_E_seg 2 (σ' := (2, [(0, .ref 0), (1, .int a1)], [.int a1, .ref 0], (px_shX, px_IX, px_JX, px_PX))) rfl ?_
  refine px_E_call (j := 62) (as := [.ref 0, .int a1]) (rest := []) (v := some (.null)) (h1 := (px_shX, px_IX, px_JX, px_PX)) rfl rfl rfl (by
    refine px_E_seg 5 (σ' := (7, [(0, .ref 0), (1, .int a1)], [.int 1, .int 0, .int 0, .int a1], (px_shX, px_IX, px_JX, px_PX))) rfl ?_
    refine px_E_seg 1 (σ' := (8, [(0, .ref 0), (1, .int a1)], [.int (-1), .int 0, .int a1], (px_shX, px_IX, px_JX, px_PX))) rfl ?_
    refine px_E_call (j := 15) (as := [.int a1, .int 0, .int (-1)]) (rest := []) (v := some (.int 0)) (h1 := (px_shX, px_IX, px_JX, px_PX)) rfl rfl rfl (by
      refine px_E_seg 2 (σ' := (2, [(0, .int a1), (1, .int 0), (2, .int (-1))], [.int 0, .int a1], (px_shX, px_IX, px_JX, px_PX))) rfl ?_
      refine px_E_icT (t := 14) rfl rfl (show a1.toInt < (0 : Int) by omega) ?_
      refine px_E_seg 1 (σ' := (15, [(0, .int a1), (1, .int 0), (2, .int (-1))], [.int 0], (px_shX, px_IX, px_JX, px_PX))) rfl ?_
      exact px_E_ret rfl rfl) ?_
    refine px_E_seg 2 (σ' := (29, [(0, .ref 0), (1, .int a1)], [.null], (px_shX, px_IX, px_JX, px_PX))) rfl ?_
    exact px_E_ret rfl rfl) ?_
  refine px_E_seg 4 (σ' := (12, [(2, .null), (0, .ref 0), (1, .int a1)], [.int (-2)], (px_shX, px_IX, px_JX, px_PX))) rfl ?_
  exact px_E_ret rfl rfl
set_option maxRecDepth 100000 in
set_option maxHeartbeats 4000000 in
theorem px_r13_0 {ro : px_RO} {dd : Nat} (a1 : Int32) (ha1 : (-2147483648) ≤ a1.toInt ∧ a1.toInt ≤ (-1)) : px_RX ro (dd + 8) 280 [.ref 95, .int a1] (.int (-2)) := by
  intro Ic Jc Pc
  refine ⟨(px_shX, (px_mI Ic), (px_mJ Jc), (px_mP Pc)), ?_, rfl⟩
  show px_E ro (dd + 8) 280 (0, _, [], _) _ _
  refine px_E_seg 6 (σ' := (9, [(0, .ref 95), (1, .int a1)], [.int 0, .int 0, .int a1], (px_shX, (px_mI Ic), (px_mJ Jc), (px_mP Pc)))) rfl ?_
  refine px_E_seg 1 (σ' := (10, [(0, .ref 95), (1, .int a1)], [.int 1, .int 0, .int 0, .int a1], (px_shX, (px_mI Ic), (px_mJ Jc), (px_mP Pc)))) rfl ?_
  refine px_E_seg 1 (σ' := (11, [(0, .ref 95), (1, .int a1)], [.int (-1), .int 0, .int a1], (px_shX, (px_mI Ic), (px_mJ Jc), (px_mP Pc)))) rfl ?_
  refine px_E_call (j := 183) (as := [.int a1, .int 0, .int (-1)]) (rest := []) (v := some (.int 0)) (h1 := (px_shX, (px_mI Ic), (px_mJ Jc), (px_mP Pc))) rfl rfl rfl (by
    refine px_E_seg 2 (σ' := (2, [(0, .int a1), (1, .int 0), (2, .int (-1))], [.int 0, .int a1], (px_shX, (px_mI Ic), (px_mJ Jc), (px_mP Pc)))) rfl ?_
    refine px_E_icT (t := 14) rfl rfl (show a1.toInt < (0 : Int) by omega) ?_
    refine px_E_seg 1 (σ' := (15, [(0, .int a1), (1, .int 0), (2, .int (-1))], [.int 0], (px_shX, (px_mI Ic), (px_mJ Jc), (px_mP Pc)))) rfl ?_
    exact px_E_ret rfl rfl) ?_
  refine px_E_seg 2 (σ' := (19, [(0, .ref 95), (1, .int a1)], [.int (-2)], (px_shX, (px_mI Ic), (px_mJ Jc), (px_mP Pc)))) rfl ?_
  exact px_E_ret rfl rfl
set_option maxRecDepth 100000 in
set_option maxHeartbeats 4000000 in
theorem px_x13_1 {ro : px_RO} {dd : Nat} (a1 : Int32) (ha1 : 0 ≤ a1.toInt ∧ a1.toInt ≤ 2147483647) : px_CX ro (dd + 8) 103 [.ref 0, .int a1] (.int (-2)) := by
  refine ⟨px_IX, px_PX, ?_, px_fr_0, px_frP_0⟩
  show px_E ro (dd + 8) 103 (0, _, [], _) _ _
  refine px_E_seg 2 (σ' := (2, [(0, .ref 0), (1, .int a1)], [.int a1, .ref 0], (px_shX, px_IX, px_JX, px_PX))) rfl ?_
  refine px_E_call (j := 62) (as := [.ref 0, .int a1]) (rest := []) (v := some (.null)) (h1 := (px_shX, px_IX, px_JX, px_PX)) rfl rfl rfl (by
    refine px_E_seg 5 (σ' := (7, [(0, .ref 0), (1, .int a1)], [.int 1, .int 0, .int 0, .int a1], (px_shX, px_IX, px_JX, px_PX))) rfl ?_
    refine px_E_seg 1 (σ' := (8, [(0, .ref 0), (1, .int a1)], [.int (-1), .int 0, .int a1], (px_shX, px_IX, px_JX, px_PX))) rfl ?_
    refine px_E_call (j := 15) (as := [.int a1, .int 0, .int (-1)]) (rest := []) (v := some (.int 0)) (h1 := (px_shX, px_IX, px_JX, px_PX)) rfl rfl rfl (by
      refine px_E_seg 2 (σ' := (2, [(0, .int a1), (1, .int 0), (2, .int (-1))], [.int 0, .int a1], (px_shX, px_IX, px_JX, px_PX))) rfl ?_
      refine px_E_icF (t := 14) rfl rfl (show (0 : Int) ≤ a1.toInt by omega) ?_
      refine px_E_seg 2 (σ' := (7, [(0, .int a1), (1, .int 0), (2, .int (-1))], [.int (-1), .int a1], (px_shX, px_IX, px_JX, px_PX))) rfl ?_
      refine px_E_icT (t := 14) rfl rfl (show (-1 : Int) < a1.toInt by omega) ?_
      refine px_E_seg 1 (σ' := (15, [(0, .int a1), (1, .int 0), (2, .int (-1))], [.int 0], (px_shX, px_IX, px_JX, px_PX))) rfl ?_
      exact px_E_ret rfl rfl) ?_
    refine px_E_seg 2 (σ' := (29, [(0, .ref 0), (1, .int a1)], [.null], (px_shX, px_IX, px_JX, px_PX))) rfl ?_
    exact px_E_ret rfl rfl) ?_
  refine px_E_seg 4 (σ' := (12, [(2, .null), (0, .ref 0), (1, .int a1)], [.int (-2)], (px_shX, px_IX, px_JX, px_PX))) rfl ?_
  exact px_E_ret rfl rfl
set_option maxRecDepth 100000 in
set_option maxHeartbeats 4000000 in
theorem px_r13_1 {ro : px_RO} {dd : Nat} (a1 : Int32) (ha1 : 0 ≤ a1.toInt ∧ a1.toInt ≤ 2147483647) : px_RX ro (dd + 8) 280 [.ref 95, .int a1] (.int (-2)) := by
  intro Ic Jc Pc
  refine ⟨(px_shX, (px_mI Ic), (px_mJ Jc), (px_mP Pc)), ?_, rfl⟩
  show px_E ro (dd + 8) 280 (0, _, [], _) _ _
  refine px_E_seg 6 (σ' := (9, [(0, .ref 95), (1, .int a1)], [.int 0, .int 0, .int a1], (px_shX, (px_mI Ic), (px_mJ Jc), (px_mP Pc)))) rfl ?_
  refine px_E_seg 1 (σ' := (10, [(0, .ref 95), (1, .int a1)], [.int 1, .int 0, .int 0, .int a1], (px_shX, (px_mI Ic), (px_mJ Jc), (px_mP Pc)))) rfl ?_
  refine px_E_seg 1 (σ' := (11, [(0, .ref 95), (1, .int a1)], [.int (-1), .int 0, .int a1], (px_shX, (px_mI Ic), (px_mJ Jc), (px_mP Pc)))) rfl ?_
  refine px_E_call (j := 183) (as := [.int a1, .int 0, .int (-1)]) (rest := []) (v := some (.int 0)) (h1 := (px_shX, (px_mI Ic), (px_mJ Jc), (px_mP Pc))) rfl rfl rfl (by
    refine px_E_seg 2 (σ' := (2, [(0, .int a1), (1, .int 0), (2, .int (-1))], [.int 0, .int a1], (px_shX, (px_mI Ic), (px_mJ Jc), (px_mP Pc)))) rfl ?_
    refine px_E_icF (t := 14) rfl rfl (show (0 : Int) ≤ a1.toInt by omega) ?_
    refine px_E_seg 2 (σ' := (7, [(0, .int a1), (1, .int 0), (2, .int (-1))], [.int (-1), .int a1], (px_shX, (px_mI Ic), (px_mJ Jc), (px_mP Pc)))) rfl ?_
    refine px_E_icT (t := 14) rfl rfl (show (-1 : Int) < a1.toInt by omega) ?_
    refine px_E_seg 1 (σ' := (15, [(0, .int a1), (1, .int 0), (2, .int (-1))], [.int 0], (px_shX, (px_mI Ic), (px_mJ Jc), (px_mP Pc)))) rfl ?_
    exact px_E_ret rfl rfl) ?_
  refine px_E_seg 2 (σ' := (19, [(0, .ref 95), (1, .int a1)], [.int (-2)], (px_shX, (px_mI Ic), (px_mJ Jc), (px_mP Pc)))) rfl ?_
  exact px_E_ret rfl rfl
set_option maxRecDepth 100000 in
set_option maxHeartbeats 4000000 in
theorem px_x14_0 {ro : px_RO} {dd : Nat} (a1 a2 : Int32) (ha1 : (-2147483648) ≤ a1.toInt ∧ a1.toInt ≤ (-1)) (ha2 : (-2147483648) ≤ a2.toInt ∧ a2.toInt ≤ 2147483647) : px_CX ro (dd + 8) 105 [.ref 0, .int a1, .int a2] (.int (-1)) := by
  refine ⟨px_IX, px_PX, ?_, px_fr_0, px_frP_0⟩
  show px_E ro (dd + 8) 105 (0, _, [], _) _ _
  refine px_E_seg 3 (σ' := (5, [(0, .ref 0), (1, .int a1), (2, .int a2)], [.int 9999, .int 0, .int a1], (px_shX, px_IX, px_JX, px_PX))) rfl ?_
  refine px_E_call (j := 15) (as := [.int a1, .int 0, .int 9999]) (rest := []) (v := some (.int 0)) (h1 := (px_shX, px_IX, px_JX, px_PX)) rfl rfl rfl (by
    refine px_E_seg 2 (σ' := (2, [(0, .int a1), (1, .int 0), (2, .int 9999)], [.int 0, .int a1], (px_shX, px_IX, px_JX, px_PX))) rfl ?_
    refine px_E_icT (t := 14) rfl rfl (show a1.toInt < (0 : Int) by omega) ?_
    refine px_E_seg 1 (σ' := (15, [(0, .int a1), (1, .int 0), (2, .int 9999)], [.int 0], (px_shX, px_IX, px_JX, px_PX))) rfl ?_
    exact px_E_ret rfl rfl) ?_
  refine px_E_seg 2 (σ' := (32, [(0, .ref 0), (1, .int a1), (2, .int a2)], [.int (-1)], (px_shX, px_IX, px_JX, px_PX))) rfl ?_
  exact px_E_ret rfl rfl
set_option maxRecDepth 100000 in
set_option maxHeartbeats 4000000 in
theorem px_r14_0 {ro : px_RO} {dd : Nat} (a1 a2 : Int32) (ha1 : (-2147483648) ≤ a1.toInt ∧ a1.toInt ≤ (-1)) (ha2 : (-2147483648) ≤ a2.toInt ∧ a2.toInt ≤ 2147483647) : px_RX ro (dd + 8) 282 [.ref 95, .int a1, .int a2] (.int (-1)) := by
  intro Ic Jc Pc
  refine ⟨(px_shX, (px_mI Ic), (px_mJ Jc), (px_mP Pc)), ?_, rfl⟩
  show px_E ro (dd + 8) 282 (0, _, [], _) _ _
  refine px_E_seg 3 (σ' := (5, [(0, .ref 95), (1, .int a1), (2, .int a2)], [.int 9999, .int 0, .int a1], (px_shX, (px_mI Ic), (px_mJ Jc), (px_mP Pc)))) rfl ?_
  refine px_E_call (j := 183) (as := [.int a1, .int 0, .int 9999]) (rest := []) (v := some (.int 0)) (h1 := (px_shX, (px_mI Ic), (px_mJ Jc), (px_mP Pc))) rfl rfl rfl (by
    refine px_E_seg 2 (σ' := (2, [(0, .int a1), (1, .int 0), (2, .int 9999)], [.int 0, .int a1], (px_shX, (px_mI Ic), (px_mJ Jc), (px_mP Pc)))) rfl ?_
    refine px_E_icT (t := 14) rfl rfl (show a1.toInt < (0 : Int) by omega) ?_
    refine px_E_seg 1 (σ' := (15, [(0, .int a1), (1, .int 0), (2, .int 9999)], [.int 0], (px_shX, (px_mI Ic), (px_mJ Jc), (px_mP Pc)))) rfl ?_
    exact px_E_ret rfl rfl) ?_
  refine px_E_seg 2 (σ' := (31, [(0, .ref 95), (1, .int a1), (2, .int a2)], [.int (-1)], (px_shX, (px_mI Ic), (px_mJ Jc), (px_mP Pc)))) rfl ?_
  exact px_E_ret rfl rfl
set_option maxRecDepth 100000 in
set_option maxHeartbeats 4000000 in
theorem px_x14_1 {ro : px_RO} {dd : Nat} (a1 a2 : Int32) (ha1 : 0 ≤ a1.toInt ∧ a1.toInt ≤ 9999) (ha2 : (-2147483648) ≤ a2.toInt ∧ a2.toInt ≤ 0) : px_CX ro (dd + 8) 105 [.ref 0, .int a1, .int a2] (.int (-1)) := by
  refine ⟨px_IX, px_PX, ?_, px_fr_0, px_frP_0⟩
  show px_E ro (dd + 8) 105 (0, _, [], _) _ _
  refine px_E_seg 3 (σ' := (5, [(0, .ref 0), (1, .int a1), (2, .int a2)], [.int 9999, .int 0, .int a1], (px_shX, px_IX, px_JX, px_PX))) rfl ?_
  refine px_E_call (j := 15) (as := [.int a1, .int 0, .int 9999]) (rest := []) (v := some (.int 1)) (h1 := (px_shX, px_IX, px_JX, px_PX)) rfl rfl rfl (by
    refine px_E_seg 2 (σ' := (2, [(0, .int a1), (1, .int 0), (2, .int 9999)], [.int 0, .int a1], (px_shX, px_IX, px_JX, px_PX))) rfl ?_
    refine px_E_icF (t := 14) rfl rfl (show (0 : Int) ≤ a1.toInt by omega) ?_
    refine px_E_seg 2 (σ' := (7, [(0, .int a1), (1, .int 0), (2, .int 9999)], [.int 9999, .int a1], (px_shX, px_IX, px_JX, px_PX))) rfl ?_
    refine px_E_icF (t := 14) rfl rfl (show a1.toInt ≤ (9999 : Int) by omega) ?_
    refine px_E_seg 2 (σ' := (15, [(0, .int a1), (1, .int 0), (2, .int 9999)], [.int 1], (px_shX, px_IX, px_JX, px_PX))) rfl ?_
    exact px_E_ret rfl rfl) ?_
  refine px_E_seg 4 (σ' := (15, [(0, .ref 0), (1, .int a1), (2, .int a2)], [.int 30, .int 1, .int a2], (px_shX, px_IX, px_JX, px_PX))) rfl ?_
  refine px_E_call (j := 15) (as := [.int a2, .int 1, .int 30]) (rest := []) (v := some (.int 0)) (h1 := (px_shX, px_IX, px_JX, px_PX)) rfl rfl rfl (by
    refine px_E_seg 2 (σ' := (2, [(0, .int a2), (1, .int 1), (2, .int 30)], [.int 1, .int a2], (px_shX, px_IX, px_JX, px_PX))) rfl ?_
    refine px_E_icT (t := 14) rfl rfl (show a2.toInt < (1 : Int) by omega) ?_
    refine px_E_seg 1 (σ' := (15, [(0, .int a2), (1, .int 1), (2, .int 30)], [.int 0], (px_shX, px_IX, px_JX, px_PX))) rfl ?_
    exact px_E_ret rfl rfl) ?_
  refine px_E_seg 2 (σ' := (32, [(0, .ref 0), (1, .int a1), (2, .int a2)], [.int (-1)], (px_shX, px_IX, px_JX, px_PX))) rfl ?_
  exact px_E_ret rfl rfl
set_option maxRecDepth 100000 in
set_option maxHeartbeats 4000000 in
theorem px_r14_1 {ro : px_RO} {dd : Nat} (a1 a2 : Int32) (ha1 : 0 ≤ a1.toInt ∧ a1.toInt ≤ 9999) (ha2 : (-2147483648) ≤ a2.toInt ∧ a2.toInt ≤ 0) : px_RX ro (dd + 8) 282 [.ref 95, .int a1, .int a2] (.int (-1)) := by
  intro Ic Jc Pc
  refine ⟨(px_shX, (px_mI Ic), (px_mJ Jc), (px_mP Pc)), ?_, rfl⟩
  show px_E ro (dd + 8) 282 (0, _, [], _) _ _
  refine px_E_seg 3 (σ' := (5, [(0, .ref 95), (1, .int a1), (2, .int a2)], [.int 9999, .int 0, .int a1], (px_shX, (px_mI Ic), (px_mJ Jc), (px_mP Pc)))) rfl ?_
  refine px_E_call (j := 183) (as := [.int a1, .int 0, .int 9999]) (rest := []) (v := some (.int 1)) (h1 := (px_shX, (px_mI Ic), (px_mJ Jc), (px_mP Pc))) rfl rfl rfl (by
    refine px_E_seg 2 (σ' := (2, [(0, .int a1), (1, .int 0), (2, .int 9999)], [.int 0, .int a1], (px_shX, (px_mI Ic), (px_mJ Jc), (px_mP Pc)))) rfl ?_
    refine px_E_icF (t := 14) rfl rfl (show (0 : Int) ≤ a1.toInt by omega) ?_
    refine px_E_seg 2 (σ' := (7, [(0, .int a1), (1, .int 0), (2, .int 9999)], [.int 9999, .int a1], (px_shX, (px_mI Ic), (px_mJ Jc), (px_mP Pc)))) rfl ?_
    refine px_E_icF (t := 14) rfl rfl (show a1.toInt ≤ (9999 : Int) by omega) ?_
    refine px_E_seg 2 (σ' := (15, [(0, .int a1), (1, .int 0), (2, .int 9999)], [.int 1], (px_shX, (px_mI Ic), (px_mJ Jc), (px_mP Pc)))) rfl ?_
    exact px_E_ret rfl rfl) ?_
  refine px_E_seg 4 (σ' := (15, [(0, .ref 95), (1, .int a1), (2, .int a2)], [.int 30, .int 1, .int a2], (px_shX, (px_mI Ic), (px_mJ Jc), (px_mP Pc)))) rfl ?_
  refine px_E_call (j := 183) (as := [.int a2, .int 1, .int 30]) (rest := []) (v := some (.int 0)) (h1 := (px_shX, (px_mI Ic), (px_mJ Jc), (px_mP Pc))) rfl rfl rfl (by
    refine px_E_seg 2 (σ' := (2, [(0, .int a2), (1, .int 1), (2, .int 30)], [.int 1, .int a2], (px_shX, (px_mI Ic), (px_mJ Jc), (px_mP Pc)))) rfl ?_
    refine px_E_icT (t := 14) rfl rfl (show a2.toInt < (1 : Int) by omega) ?_
    refine px_E_seg 1 (σ' := (15, [(0, .int a2), (1, .int 1), (2, .int 30)], [.int 0], (px_shX, (px_mI Ic), (px_mJ Jc), (px_mP Pc)))) rfl ?_
    exact px_E_ret rfl rfl) ?_
  refine px_E_seg 2 (σ' := (31, [(0, .ref 95), (1, .int a1), (2, .int a2)], [.int (-1)], (px_shX, (px_mI Ic), (px_mJ Jc), (px_mP Pc)))) rfl ?_
  exact px_E_ret rfl rfl
set_option maxRecDepth 100000 in
set_option maxHeartbeats 4000000 in
theorem px_x14_2 {ro : px_RO} {dd : Nat} (a1 a2 : Int32) (ha1 : 0 ≤ a1.toInt ∧ a1.toInt ≤ 9999) (ha2 : 1 ≤ a2.toInt ∧ a2.toInt ≤ 30) : px_CX ro (dd + 8) 105 [.ref 0, .int a1, .int a2] (.int (-1)) := by
  refine ⟨px_IX, px_PX, ?_, px_fr_0, px_frP_0⟩
  show px_E ro (dd + 8) 105 (0, _, [], _) _ _
  refine px_E_seg 3 (σ' := (5, [(0, .ref 0), (1, .int a1), (2, .int a2)], [.int 9999, .int 0, .int a1], (px_shX, px_IX, px_JX, px_PX))) rfl ?_
  refine px_E_call (j := 15) (as := [.int a1, .int 0, .int 9999]) (rest := []) (v := some (.int 1)) (h1 := (px_shX, px_IX, px_JX, px_PX)) rfl rfl rfl (by
    refine px_E_seg 2 (σ' := (2, [(0, .int a1), (1, .int 0), (2, .int 9999)], [.int 0, .int a1], (px_shX, px_IX, px_JX, px_PX))) rfl ?_
    refine px_E_icF (t := 14) rfl rfl (show (0 : Int) ≤ a1.toInt by omega) ?_
    refine px_E_seg 2 (σ' := (7, [(0, .int a1), (1, .int 0), (2, .int 9999)], [.int 9999, .int a1], (px_shX, px_IX, px_JX, px_PX))) rfl ?_
    refine px_E_icF (t := 14) rfl rfl (show a1.toInt ≤ (9999 : Int) by omega) ?_
    refine px_E_seg 2 (σ' := (15, [(0, .int a1), (1, .int 0), (2, .int 9999)], [.int 1], (px_shX, px_IX, px_JX, px_PX))) rfl ?_
    exact px_E_ret rfl rfl) ?_
  refine px_E_seg 4 (σ' := (15, [(0, .ref 0), (1, .int a1), (2, .int a2)], [.int 30, .int 1, .int a2], (px_shX, px_IX, px_JX, px_PX))) rfl ?_
  refine px_E_call (j := 15) (as := [.int a2, .int 1, .int 30]) (rest := []) (v := some (.int 1)) (h1 := (px_shX, px_IX, px_JX, px_PX)) rfl rfl rfl (by
    refine px_E_seg 2 (σ' := (2, [(0, .int a2), (1, .int 1), (2, .int 30)], [.int 1, .int a2], (px_shX, px_IX, px_JX, px_PX))) rfl ?_
    refine px_E_icF (t := 14) rfl rfl (show (1 : Int) ≤ a2.toInt by omega) ?_
    refine px_E_seg 2 (σ' := (7, [(0, .int a2), (1, .int 1), (2, .int 30)], [.int 30, .int a2], (px_shX, px_IX, px_JX, px_PX))) rfl ?_
    refine px_E_icF (t := 14) rfl rfl (show a2.toInt ≤ (30 : Int) by omega) ?_
    refine px_E_seg 2 (σ' := (15, [(0, .int a2), (1, .int 1), (2, .int 30)], [.int 1], (px_shX, px_IX, px_JX, px_PX))) rfl ?_
    exact px_E_ret rfl rfl) ?_
  refine px_E_seg 6 (σ' := (32, [(0, .ref 0), (1, .int a1), (2, .int a2)], [.int (-1)], (px_shX, px_IX, px_JX, px_PX))) rfl ?_
  exact px_E_ret rfl rfl
set_option maxRecDepth 100000 in
set_option maxHeartbeats 4000000 in
theorem px_r14_2 {ro : px_RO} {dd : Nat} (a1 a2 : Int32) (ha1 : 0 ≤ a1.toInt ∧ a1.toInt ≤ 9999) (ha2 : 1 ≤ a2.toInt ∧ a2.toInt ≤ 30) : px_RX ro (dd + 8) 282 [.ref 95, .int a1, .int a2] (.int (-1)) := by
  intro Ic Jc Pc
  refine ⟨(px_shX, (px_mI Ic), (px_mJ Jc), (px_mP Pc)), ?_, rfl⟩
  show px_E ro (dd + 8) 282 (0, _, [], _) _ _
  refine px_E_seg 3 (σ' := (5, [(0, .ref 95), (1, .int a1), (2, .int a2)], [.int 9999, .int 0, .int a1], (px_shX, (px_mI Ic), (px_mJ Jc), (px_mP Pc)))) rfl ?_
  refine px_E_call (j := 183) (as := [.int a1, .int 0, .int 9999]) (rest := []) (v := some (.int 1)) (h1 := (px_shX, (px_mI Ic), (px_mJ Jc), (px_mP Pc))) rfl rfl rfl (by
    refine px_E_seg 2 (σ' := (2, [(0, .int a1), (1, .int 0), (2, .int 9999)], [.int 0, .int a1], (px_shX, (px_mI Ic), (px_mJ Jc), (px_mP Pc)))) rfl ?_
    refine px_E_icF (t := 14) rfl rfl (show (0 : Int) ≤ a1.toInt by omega) ?_
    refine px_E_seg 2 (σ' := (7, [(0, .int a1), (1, .int 0), (2, .int 9999)], [.int 9999, .int a1], (px_shX, (px_mI Ic), (px_mJ Jc), (px_mP Pc)))) rfl ?_
    refine px_E_icF (t := 14) rfl rfl (show a1.toInt ≤ (9999 : Int) by omega) ?_
    refine px_E_seg 2 (σ' := (15, [(0, .int a1), (1, .int 0), (2, .int 9999)], [.int 1], (px_shX, (px_mI Ic), (px_mJ Jc), (px_mP Pc)))) rfl ?_
    exact px_E_ret rfl rfl) ?_
  refine px_E_seg 4 (σ' := (15, [(0, .ref 95), (1, .int a1), (2, .int a2)], [.int 30, .int 1, .int a2], (px_shX, (px_mI Ic), (px_mJ Jc), (px_mP Pc)))) rfl ?_
  refine px_E_call (j := 183) (as := [.int a2, .int 1, .int 30]) (rest := []) (v := some (.int 1)) (h1 := (px_shX, (px_mI Ic), (px_mJ Jc), (px_mP Pc))) rfl rfl rfl (by
    refine px_E_seg 2 (σ' := (2, [(0, .int a2), (1, .int 1), (2, .int 30)], [.int 1, .int a2], (px_shX, (px_mI Ic), (px_mJ Jc), (px_mP Pc)))) rfl ?_
    refine px_E_icF (t := 14) rfl rfl (show (1 : Int) ≤ a2.toInt by omega) ?_
    refine px_E_seg 2 (σ' := (7, [(0, .int a2), (1, .int 1), (2, .int 30)], [.int 30, .int a2], (px_shX, (px_mI Ic), (px_mJ Jc), (px_mP Pc)))) rfl ?_
    refine px_E_icF (t := 14) rfl rfl (show a2.toInt ≤ (30 : Int) by omega) ?_
    refine px_E_seg 2 (σ' := (15, [(0, .int a2), (1, .int 1), (2, .int 30)], [.int 1], (px_shX, (px_mI Ic), (px_mJ Jc), (px_mP Pc)))) rfl ?_
    exact px_E_ret rfl rfl) ?_
  refine px_E_seg 6 (σ' := (30, [(0, .ref 95), (1, .int a1), (2, .int a2)], [], (px_shX, (px_mI Ic), (px_mJ Jc), (px_mP Pc)))) rfl ?_
  refine px_E_seg 1 (σ' := (31, [(0, .ref 95), (1, .int a1), (2, .int a2)], [.int (-1)], (px_shX, (px_mI Ic), (px_mJ Jc), (px_mP Pc)))) rfl ?_
  exact px_E_ret rfl rfl
set_option maxRecDepth 100000 in
set_option maxHeartbeats 4000000 in
theorem px_x14_3 {ro : px_RO} {dd : Nat} (a1 a2 : Int32) (ha1 : 0 ≤ a1.toInt ∧ a1.toInt ≤ 9999) (ha2 : 31 ≤ a2.toInt ∧ a2.toInt ≤ 2147483647) : px_CX ro (dd + 8) 105 [.ref 0, .int a1, .int a2] (.int (-1)) := by
  refine ⟨px_IX, px_PX, ?_, px_fr_0, px_frP_0⟩
  show px_E ro (dd + 8) 105 (0, _, [], _) _ _
  refine px_E_seg 3 (σ' := (5, [(0, .ref 0), (1, .int a1), (2, .int a2)], [.int 9999, .int 0, .int a1], (px_shX, px_IX, px_JX, px_PX))) rfl ?_
  refine px_E_call (j := 15) (as := [.int a1, .int 0, .int 9999]) (rest := []) (v := some (.int 1)) (h1 := (px_shX, px_IX, px_JX, px_PX)) rfl rfl rfl (by
    refine px_E_seg 2 (σ' := (2, [(0, .int a1), (1, .int 0), (2, .int 9999)], [.int 0, .int a1], (px_shX, px_IX, px_JX, px_PX))) rfl ?_
    refine px_E_icF (t := 14) rfl rfl (show (0 : Int) ≤ a1.toInt by omega) ?_
    refine px_E_seg 2 (σ' := (7, [(0, .int a1), (1, .int 0), (2, .int 9999)], [.int 9999, .int a1], (px_shX, px_IX, px_JX, px_PX))) rfl ?_
    refine px_E_icF (t := 14) rfl rfl (show a1.toInt ≤ (9999 : Int) by omega) ?_
    refine px_E_seg 2 (σ' := (15, [(0, .int a1), (1, .int 0), (2, .int 9999)], [.int 1], (px_shX, px_IX, px_JX, px_PX))) rfl ?_
    exact px_E_ret rfl rfl) ?_
  refine px_E_seg 4 (σ' := (15, [(0, .ref 0), (1, .int a1), (2, .int a2)], [.int 30, .int 1, .int a2], (px_shX, px_IX, px_JX, px_PX))) rfl ?_
  refine px_E_call (j := 15) (as := [.int a2, .int 1, .int 30]) (rest := []) (v := some (.int 0)) (h1 := (px_shX, px_IX, px_JX, px_PX)) rfl rfl rfl (by
    refine px_E_seg 2 (σ' := (2, [(0, .int a2), (1, .int 1), (2, .int 30)], [.int 1, .int a2], (px_shX, px_IX, px_JX, px_PX))) rfl ?_
    refine px_E_icF (t := 14) rfl rfl (show (1 : Int) ≤ a2.toInt by omega) ?_
    refine px_E_seg 2 (σ' := (7, [(0, .int a2), (1, .int 1), (2, .int 30)], [.int 30, .int a2], (px_shX, px_IX, px_JX, px_PX))) rfl ?_
    refine px_E_icT (t := 14) rfl rfl (show (30 : Int) < a2.toInt by omega) ?_
    refine px_E_seg 1 (σ' := (15, [(0, .int a2), (1, .int 1), (2, .int 30)], [.int 0], (px_shX, px_IX, px_JX, px_PX))) rfl ?_
    exact px_E_ret rfl rfl) ?_
  refine px_E_seg 2 (σ' := (32, [(0, .ref 0), (1, .int a1), (2, .int a2)], [.int (-1)], (px_shX, px_IX, px_JX, px_PX))) rfl ?_
  exact px_E_ret rfl rfl
set_option maxRecDepth 100000 in
set_option maxHeartbeats 4000000 in
theorem px_r14_3 {ro : px_RO} {dd : Nat} (a1 a2 : Int32) (ha1 : 0 ≤ a1.toInt ∧ a1.toInt ≤ 9999) (ha2 : 31 ≤ a2.toInt ∧ a2.toInt ≤ 2147483647) : px_RX ro (dd + 8) 282 [.ref 95, .int a1, .int a2] (.int (-1)) := by
  intro Ic Jc Pc
  refine ⟨(px_shX, (px_mI Ic), (px_mJ Jc), (px_mP Pc)), ?_, rfl⟩
  show px_E ro (dd + 8) 282 (0, _, [], _) _ _
  refine px_E_seg 3 (σ' := (5, [(0, .ref 95), (1, .int a1), (2, .int a2)], [.int 9999, .int 0, .int a1], (px_shX, (px_mI Ic), (px_mJ Jc), (px_mP Pc)))) rfl ?_
  refine px_E_call (j := 183) (as := [.int a1, .int 0, .int 9999]) (rest := []) (v := some (.int 1)) (h1 := (px_shX, (px_mI Ic), (px_mJ Jc), (px_mP Pc))) rfl rfl rfl (by
    refine px_E_seg 2 (σ' := (2, [(0, .int a1), (1, .int 0), (2, .int 9999)], [.int 0, .int a1], (px_shX, (px_mI Ic), (px_mJ Jc), (px_mP Pc)))) rfl ?_
    refine px_E_icF (t := 14) rfl rfl (show (0 : Int) ≤ a1.toInt by omega) ?_
    refine px_E_seg 2 (σ' := (7, [(0, .int a1), (1, .int 0), (2, .int 9999)], [.int 9999, .int a1], (px_shX, (px_mI Ic), (px_mJ Jc), (px_mP Pc)))) rfl ?_
    refine px_E_icF (t := 14) rfl rfl (show a1.toInt ≤ (9999 : Int) by omega) ?_
    refine px_E_seg 2 (σ' := (15, [(0, .int a1), (1, .int 0), (2, .int 9999)], [.int 1], (px_shX, (px_mI Ic), (px_mJ Jc), (px_mP Pc)))) rfl ?_
    exact px_E_ret rfl rfl) ?_
  refine px_E_seg 4 (σ' := (15, [(0, .ref 95), (1, .int a1), (2, .int a2)], [.int 30, .int 1, .int a2], (px_shX, (px_mI Ic), (px_mJ Jc), (px_mP Pc)))) rfl ?_
  refine px_E_call (j := 183) (as := [.int a2, .int 1, .int 30]) (rest := []) (v := some (.int 0)) (h1 := (px_shX, (px_mI Ic), (px_mJ Jc), (px_mP Pc))) rfl rfl rfl (by
    refine px_E_seg 2 (σ' := (2, [(0, .int a2), (1, .int 1), (2, .int 30)], [.int 1, .int a2], (px_shX, (px_mI Ic), (px_mJ Jc), (px_mP Pc)))) rfl ?_
    refine px_E_icF (t := 14) rfl rfl (show (1 : Int) ≤ a2.toInt by omega) ?_
    refine px_E_seg 2 (σ' := (7, [(0, .int a2), (1, .int 1), (2, .int 30)], [.int 30, .int a2], (px_shX, (px_mI Ic), (px_mJ Jc), (px_mP Pc)))) rfl ?_
    refine px_E_icT (t := 14) rfl rfl (show (30 : Int) < a2.toInt by omega) ?_
    refine px_E_seg 1 (σ' := (15, [(0, .int a2), (1, .int 1), (2, .int 30)], [.int 0], (px_shX, (px_mI Ic), (px_mJ Jc), (px_mP Pc)))) rfl ?_
    exact px_E_ret rfl rfl) ?_
  refine px_E_seg 2 (σ' := (31, [(0, .ref 95), (1, .int a1), (2, .int a2)], [.int (-1)], (px_shX, (px_mI Ic), (px_mJ Jc), (px_mP Pc)))) rfl ?_
  exact px_E_ret rfl rfl
set_option maxRecDepth 100000 in
set_option maxHeartbeats 4000000 in
theorem px_x14_4 {ro : px_RO} {dd : Nat} (a1 a2 : Int32) (ha1 : 10000 ≤ a1.toInt ∧ a1.toInt ≤ 2147483647) (ha2 : (-2147483648) ≤ a2.toInt ∧ a2.toInt ≤ 2147483647) : px_CX ro (dd + 8) 105 [.ref 0, .int a1, .int a2] (.int (-1)) := by
  refine ⟨px_IX, px_PX, ?_, px_fr_0, px_frP_0⟩
  show px_E ro (dd + 8) 105 (0, _, [], _) _ _
  refine px_E_seg 3 (σ' := (5, [(0, .ref 0), (1, .int a1), (2, .int a2)], [.int 9999, .int 0, .int a1], (px_shX, px_IX, px_JX, px_PX))) rfl ?_
  refine px_E_call (j := 15) (as := [.int a1, .int 0, .int 9999]) (rest := []) (v := some (.int 0)) (h1 := (px_shX, px_IX, px_JX, px_PX)) rfl rfl rfl (by
    refine px_E_seg 2 (σ' := (2, [(0, .int a1), (1, .int 0), (2, .int 9999)], [.int 0, .int a1], (px_shX, px_IX, px_JX, px_PX))) rfl ?_
    refine px_E_icF (t := 14) rfl rfl (show (0 : Int) ≤ a1.toInt by omega) ?_
    refine px_E_seg 2 (σ' := (7, [(0, .int a1), (1, .int 0), (2, .int 9999)], [.int 9999, .int a1], (px_shX, px_IX, px_JX, px_PX))) rfl ?_
    refine px_E_icT (t := 14) rfl rfl (show (9999 : Int) < a1.toInt by omega) ?_
    refine px_E_seg 1 (σ' := (15, [(0, .int a1), (1, .int 0), (2, .int 9999)], [.int 0], (px_shX, px_IX, px_JX, px_PX))) rfl ?_
    exact px_E_ret rfl rfl) ?_
  refine px_E_seg 2 (σ' := (32, [(0, .ref 0), (1, .int a1), (2, .int a2)], [.int (-1)], (px_shX, px_IX, px_JX, px_PX))) rfl ?_
  exact px_E_ret rfl rfl
set_option maxRecDepth 100000 in
set_option maxHeartbeats 4000000 in
theorem px_r14_4 {ro : px_RO} {dd : Nat} (a1 a2 : Int32) (ha1 : 10000 ≤ a1.toInt ∧ a1.toInt ≤ 2147483647) (ha2 : (-2147483648) ≤ a2.toInt ∧ a2.toInt ≤ 2147483647) : px_RX ro (dd + 8) 282 [.ref 95, .int a1, .int a2] (.int (-1)) := by
  intro Ic Jc Pc
  refine ⟨(px_shX, (px_mI Ic), (px_mJ Jc), (px_mP Pc)), ?_, rfl⟩
  show px_E ro (dd + 8) 282 (0, _, [], _) _ _
  refine px_E_seg 3 (σ' := (5, [(0, .ref 95), (1, .int a1), (2, .int a2)], [.int 9999, .int 0, .int a1], (px_shX, (px_mI Ic), (px_mJ Jc), (px_mP Pc)))) rfl ?_
  refine px_E_call (j := 183) (as := [.int a1, .int 0, .int 9999]) (rest := []) (v := some (.int 0)) (h1 := (px_shX, (px_mI Ic), (px_mJ Jc), (px_mP Pc))) rfl rfl rfl (by
    refine px_E_seg 2 (σ' := (2, [(0, .int a1), (1, .int 0), (2, .int 9999)], [.int 0, .int a1], (px_shX, (px_mI Ic), (px_mJ Jc), (px_mP Pc)))) rfl ?_
    refine px_E_icF (t := 14) rfl rfl (show (0 : Int) ≤ a1.toInt by omega) ?_
    refine px_E_seg 2 (σ' := (7, [(0, .int a1), (1, .int 0), (2, .int 9999)], [.int 9999, .int a1], (px_shX, (px_mI Ic), (px_mJ Jc), (px_mP Pc)))) rfl ?_
    refine px_E_icT (t := 14) rfl rfl (show (9999 : Int) < a1.toInt by omega) ?_
    refine px_E_seg 1 (σ' := (15, [(0, .int a1), (1, .int 0), (2, .int 9999)], [.int 0], (px_shX, (px_mI Ic), (px_mJ Jc), (px_mP Pc)))) rfl ?_
    exact px_E_ret rfl rfl) ?_
  refine px_E_seg 2 (σ' := (31, [(0, .ref 95), (1, .int a1), (2, .int a2)], [.int (-1)], (px_shX, (px_mI Ic), (px_mJ Jc), (px_mP Pc)))) rfl ?_
  exact px_E_ret rfl rfl
set_option maxRecDepth 100000 in
set_option maxHeartbeats 4000000 in
theorem px_x15_0 {ro : px_RO} {dd : Nat}  : px_CX ro (dd + 8) 107 [.ref 0] (.int (-1)) := by
  refine ⟨px_IX, px_PX, ?_, px_fr_0, px_frP_0⟩
  show px_E ro (dd + 8) 107 (0, _, [], _) _ _
  refine px_E_seg 6 (σ' := (12, [(0, .ref 0)], [.ref 1, .ref 15, .ref 22], (px_shX, px_IX, px_JX, px_PX))) rfl ?_
  refine px_E_call (j := 108) (as := [.ref 22, .ref 15, .ref 1]) (rest := []) (v := some (.int 0)) (h1 := (px_shX, px_IX, px_JX, px_PX)) rfl rfl rfl (by
    refine px_E_seg 4 (σ' := (8, [(0, .ref 22), (1, .ref 15), (2, .ref 1)], [.int 0], (px_shX, px_IX, px_JX, px_PX))) rfl ?_
    exact px_E_ret rfl rfl) ?_
  refine px_E_seg 2 (σ' := (19, [(0, .ref 0)], [.int (-1)], (px_shX, px_IX, px_JX, px_PX))) rfl ?_
  exact px_E_ret rfl rfl
set_option maxRecDepth 100000 in
set_option maxHeartbeats 4000000 in
theorem px_r15_0 {ro : px_RO} {dd : Nat}  : px_RX ro (dd + 8) 238 [.ref 95] (.int (-1)) := by
  intro Ic Jc Pc
  refine ⟨(px_shX, (px_mI Ic), (px_mJ Jc), (px_mP Pc)), ?_, rfl⟩
  show px_E ro (dd + 8) 238 (0, _, [], _) _ _
  refine px_E_seg 6 (σ' := (11, [(0, .ref 95)], [.int (-1)], (px_shX, (px_mI Ic), (px_mJ Jc), (px_mP Pc)))) rfl ?_
  exact px_E_ret rfl rfl
set_option maxRecDepth 100000 in
set_option maxHeartbeats 4000000 in
theorem px_x16_0 {ro : px_RO} {dd : Nat} (a1 a2 : Int32) (ha1 : (-2147483648) ≤ a1.toInt ∧ a1.toInt ≤ (-1)) (ha2 : (-2147483648) ≤ a2.toInt ∧ a2.toInt ≤ 2147483647) : px_CX ro (dd + 8) 110 [.ref 0, .int a1, .int a2] (.int (-2)) := by
  refine ⟨px_IX, px_PX, ?_, px_fr_0, px_frP_0⟩
  show px_E ro (dd + 8) 110 (0, _, [], _) _ _
  refine px_E_seg 3 (σ' := (3, [(0, .ref 0), (1, .int a1), (2, .int a2)], [.int 3, .int 0, .int a1], (px_shX, px_IX, px_JX, px_PX))) rfl ?_
  refine px_E_call (j := 15) (as := [.int a1, .int 0, .int 3]) (rest := []) (v := some (.int 0)) (h1 := (px_shX, px_IX, px_JX, px_PX)) rfl rfl rfl (by
    refine px_E_seg 2 (σ' := (2, [(0, .int a1), (1, .int 0), (2, .int 3)], [.int 0, .int a1], (px_shX, px_IX, px_JX, px_PX))) rfl ?_
    refine px_E_icT (t := 14) rfl rfl (show a1.toInt < (0 : Int) by omega) ?_
    refine px_E_seg 1 (σ' := (15, [(0, .int a1), (1, .int 0), (2, .int 3)], [.int 0], (px_shX, px_IX, px_JX, px_PX))) rfl ?_
    exact px_E_ret rfl rfl) ?_
  refine px_E_seg 2 (σ' := (20, [(0, .ref 0), (1, .int a1), (2, .int a2)], [.int (-2)], (px_shX, px_IX, px_JX, px_PX))) rfl ?_
  exact px_E_ret rfl rfl
set_option maxRecDepth 100000 in
set_option maxHeartbeats 4000000 in
theorem px_r16_0 {ro : px_RO} {dd : Nat} (a1 a2 : Int32) (ha1 : (-2147483648) ≤ a1.toInt ∧ a1.toInt ≤ (-1)) (ha2 : (-2147483648) ≤ a2.toInt ∧ a2.toInt ≤ 2147483647) : px_RX ro (dd + 8) 284 [.ref 95, .int a1, .int a2] (.int (-2)) := by
  intro Ic Jc Pc
  refine ⟨(px_shX, (px_mI Ic), (px_mJ Jc), (px_mP Pc)), ?_, rfl⟩
  show px_E ro (dd + 8) 284 (0, _, [], _) _ _
  refine px_E_seg 3 (σ' := (3, [(0, .ref 95), (1, .int a1), (2, .int a2)], [.int 3, .int 0, .int a1], (px_shX, (px_mI Ic), (px_mJ Jc), (px_mP Pc)))) rfl ?_
  refine px_E_call (j := 183) (as := [.int a1, .int 0, .int 3]) (rest := []) (v := some (.int 0)) (h1 := (px_shX, (px_mI Ic), (px_mJ Jc), (px_mP Pc))) rfl rfl rfl (by
    refine px_E_seg 2 (σ' := (2, [(0, .int a1), (1, .int 0), (2, .int 3)], [.int 0, .int a1], (px_shX, (px_mI Ic), (px_mJ Jc), (px_mP Pc)))) rfl ?_
    refine px_E_icT (t := 14) rfl rfl (show a1.toInt < (0 : Int) by omega) ?_
    refine px_E_seg 1 (σ' := (15, [(0, .int a1), (1, .int 0), (2, .int 3)], [.int 0], (px_shX, (px_mI Ic), (px_mJ Jc), (px_mP Pc)))) rfl ?_
    exact px_E_ret rfl rfl) ?_
  refine px_E_seg 2 (σ' := (20, [(0, .ref 95), (1, .int a1), (2, .int a2)], [.int (-2)], (px_shX, (px_mI Ic), (px_mJ Jc), (px_mP Pc)))) rfl ?_
  exact px_E_ret rfl rfl
set_option maxRecDepth 100000 in
set_option maxHeartbeats 4000000 in
theorem px_x16_1 {ro : px_RO} {dd : Nat} (a1 a2 : Int32) (ha1 : 0 ≤ a1.toInt ∧ a1.toInt ≤ 3) (ha2 : (-2147483648) ≤ a2.toInt ∧ a2.toInt ≤ (-1)) : px_CX ro (dd + 8) 110 [.ref 0, .int a1, .int a2] (.int (-2)) := by
  refine ⟨px_IX, px_PX, ?_, px_fr_0, px_frP_0⟩
  show px_E ro (dd + 8) 110 (0, _, [], _) _ _
  refine px_E_seg 3 (σ' := (3, [(0, .ref 0), (1, .int a1), (2, .int a2)], [.int 3, .int 0, .int a1], (px_shX, px_IX, px_JX, px_PX))) rfl ?_
  refine px_E_call (j := 15) (as := [.int a1, .int 0, .int 3]) (rest := []) (v := some (.int 1)) (h1 := (px_shX, px_IX, px_JX, px_PX)) rfl rfl rfl (by
    refine px_E_seg 2 (σ' := (2, [(0, .int a1), (1, .int 0), (2, .int 3)], [.int 0, .int a1], (px_shX, px_IX, px_JX, px_PX))) rfl ?_
    refine px_E_icF (t := 14) rfl rfl (show (0 : Int) ≤ a1.toInt by omega) ?_
    refine px_E_seg 2 (σ' := (7, [(0, .int a1), (1, .int 0), (2, .int 3)], [.int 3, .int a1], (px_shX, px_IX, px_JX, px_PX))) rfl ?_
    refine px_E_icF (t := 14) rfl rfl (show a1.toInt ≤ (3 : Int) by omega) ?_
    refine px_E_seg 2 (σ' := (15, [(0, .int a1), (1, .int 0), (2, .int 3)], [.int 1], (px_shX, px_IX, px_JX, px_PX))) rfl ?_
    exact px_E_ret rfl rfl) ?_
  refine px_E_seg 4 (σ' := (12, [(0, .ref 0), (1, .int a1), (2, .int a2)], [.int 3, .int 0, .int a2], (px_shX, px_IX, px_JX, px_PX))) rfl ?_
  refine px_E_call (j := 15) (as := [.int a2, .int 0, .int 3]) (rest := []) (v := some (.int 0)) (h1 := (px_shX, px_IX, px_JX, px_PX)) rfl rfl rfl (by
    refine px_E_seg 2 (σ' := (2, [(0, .int a2), (1, .int 0), (2, .int 3)], [.int 0, .int a2], (px_shX, px_IX, px_JX, px_PX))) rfl ?_
    refine px_E_icT (t := 14) rfl rfl (show a2.toInt < (0 : Int) by omega) ?_
    refine px_E_seg 1 (σ' := (15, [(0, .int a2), (1, .int 0), (2, .int 3)], [.int 0], (px_shX, px_IX, px_JX, px_PX))) rfl ?_
    exact px_E_ret rfl rfl) ?_
  refine px_E_seg 2 (σ' := (20, [(0, .ref 0), (1, .int a1), (2, .int a2)], [.int (-2)], (px_shX, px_IX, px_JX, px_PX))) rfl ?_
  exact px_E_ret rfl rfl
set_option maxRecDepth 100000 in
set_option maxHeartbeats 4000000 in
theorem px_r16_1 {ro : px_RO} {dd : Nat} (a1 a2 : Int32) (ha1 : 0 ≤ a1.toInt ∧ a1.toInt ≤ 3) (ha2 : (-2147483648) ≤ a2.toInt ∧ a2.toInt ≤ (-1)) : px_RX ro (dd + 8) 284 [.ref 95, .int a1, .int a2] (.int (-2)) := by
  intro Ic Jc Pc
  refine ⟨(px_shX, (px_mI Ic), (px_mJ Jc), (px_mP Pc)), ?_, rfl⟩
  show px_E ro (dd + 8) 284 (0, _, [], _) _ _
  refine px_E_seg 3 (σ' := (3, [(0, .ref 95), (1, .int a1), (2, .int a2)], [.int 3, .int 0, .int a1], (px_shX, (px_mI Ic), (px_mJ Jc), (px_mP Pc)))) rfl ?_
  refine px_E_call (j := 183) (as := [.int a1, .int 0, .int 3]) (rest := []) (v := some (.int 1)) (h1 := (px_shX, (px_mI Ic), (px_mJ Jc), (px_mP Pc))) rfl rfl rfl (by
    refine px_E_seg 2 (σ' := (2, [(0, .int a1), (1, .int 0), (2, .int 3)], [.int 0, .int a1], (px_shX, (px_mI Ic), (px_mJ Jc), (px_mP Pc)))) rfl ?_
    refine px_E_icF (t := 14) rfl rfl (show (0 : Int) ≤ a1.toInt by omega) ?_
    refine px_E_seg 2 (σ' := (7, [(0, .int a1), (1, .int 0), (2, .int 3)], [.int 3, .int a1], (px_shX, (px_mI Ic), (px_mJ Jc), (px_mP Pc)))) rfl ?_
    refine px_E_icF (t := 14) rfl rfl (show a1.toInt ≤ (3 : Int) by omega) ?_
    refine px_E_seg 2 (σ' := (15, [(0, .int a1), (1, .int 0), (2, .int 3)], [.int 1], (px_shX, (px_mI Ic), (px_mJ Jc), (px_mP Pc)))) rfl ?_
    exact px_E_ret rfl rfl) ?_
  refine px_E_seg 4 (σ' := (12, [(0, .ref 95), (1, .int a1), (2, .int a2)], [.int 3, .int 0, .int a2], (px_shX, (px_mI Ic), (px_mJ Jc), (px_mP Pc)))) rfl ?_
  refine px_E_call (j := 183) (as := [.int a2, .int 0, .int 3]) (rest := []) (v := some (.int 0)) (h1 := (px_shX, (px_mI Ic), (px_mJ Jc), (px_mP Pc))) rfl rfl rfl (by
    refine px_E_seg 2 (σ' := (2, [(0, .int a2), (1, .int 0), (2, .int 3)], [.int 0, .int a2], (px_shX, (px_mI Ic), (px_mJ Jc), (px_mP Pc)))) rfl ?_
    refine px_E_icT (t := 14) rfl rfl (show a2.toInt < (0 : Int) by omega) ?_
    refine px_E_seg 1 (σ' := (15, [(0, .int a2), (1, .int 0), (2, .int 3)], [.int 0], (px_shX, (px_mI Ic), (px_mJ Jc), (px_mP Pc)))) rfl ?_
    exact px_E_ret rfl rfl) ?_
  refine px_E_seg 2 (σ' := (20, [(0, .ref 95), (1, .int a1), (2, .int a2)], [.int (-2)], (px_shX, (px_mI Ic), (px_mJ Jc), (px_mP Pc)))) rfl ?_
  exact px_E_ret rfl rfl
set_option maxRecDepth 100000 in
set_option maxHeartbeats 4000000 in
theorem px_x16_2 {ro : px_RO} {dd : Nat}  : px_CX ro (dd + 8) 110 [.ref 0, .int 0, .int 0] (.int 0) := by
  refine ⟨px_IX, px_PX, ?_, px_fr_0, px_frP_0⟩
  show px_E ro (dd + 8) 110 (0, _, [], _) _ _
  refine px_E_seg 3 (σ' := (3, [(0, .ref 0), (1, .int 0), (2, .int 0)], [.int 3, .int 0, .int 0], (px_shX, px_IX, px_JX, px_PX))) rfl ?_
  refine px_E_call (j := 15) (as := [.int 0, .int 0, .int 3]) (rest := []) (v := some (.int 1)) (h1 := (px_shX, px_IX, px_JX, px_PX)) rfl rfl rfl (by
    refine px_E_seg 6 (σ' := (10, [(0, .int 0), (1, .int 0), (2, .int 3)], [], (px_shX, px_IX, px_JX, px_PX))) rfl ?_
    refine px_E_seg 2 (σ' := (15, [(0, .int 0), (1, .int 0), (2, .int 3)], [.int 1], (px_shX, px_IX, px_JX, px_PX))) rfl ?_
    exact px_E_ret rfl rfl) ?_
  refine px_E_seg 4 (σ' := (12, [(0, .ref 0), (1, .int 0), (2, .int 0)], [.int 3, .int 0, .int 0], (px_shX, px_IX, px_JX, px_PX))) rfl ?_
  refine px_E_call (j := 15) (as := [.int 0, .int 0, .int 3]) (rest := []) (v := some (.int 1)) (h1 := (px_shX, px_IX, px_JX, px_PX)) rfl rfl rfl (by
    refine px_E_seg 6 (σ' := (10, [(0, .int 0), (1, .int 0), (2, .int 3)], [], (px_shX, px_IX, px_JX, px_PX))) rfl ?_
    refine px_E_seg 2 (σ' := (15, [(0, .int 0), (1, .int 0), (2, .int 3)], [.int 1], (px_shX, px_IX, px_JX, px_PX))) rfl ?_
    exact px_E_ret rfl rfl) ?_
  refine px_E_seg 6 (σ' := (32, [(0, .ref 0), (1, .int 0), (2, .int 0)], [.ref 16], (px_shX, px_IX, px_JX, px_PX))) rfl ?_
  refine px_E_seg 2 (σ' := (34, [(0, .ref 0), (1, .int 0), (2, .int 0)], [.int 0], (px_shX, px_IX, px_JX, px_PX))) rfl ?_
  exact px_E_ret rfl rfl
set_option maxRecDepth 100000 in
set_option maxHeartbeats 4000000 in
theorem px_r16_2 {ro : px_RO} {dd : Nat}  : px_RX ro (dd + 8) 284 [.ref 95, .int 0, .int 0] (.int 0) := by
  intro Ic Jc Pc
  refine ⟨(px_shX, (px_mI Ic), (px_mJ Jc), (px_mP Pc)), ?_, rfl⟩
  show px_E ro (dd + 8) 284 (0, _, [], _) _ _
  refine px_E_seg 3 (σ' := (3, [(0, .ref 95), (1, .int 0), (2, .int 0)], [.int 3, .int 0, .int 0], (px_shX, (px_mI Ic), (px_mJ Jc), (px_mP Pc)))) rfl ?_
  refine px_E_call (j := 183) (as := [.int 0, .int 0, .int 3]) (rest := []) (v := some (.int 1)) (h1 := (px_shX, (px_mI Ic), (px_mJ Jc), (px_mP Pc))) rfl rfl rfl (by
    refine px_E_seg 6 (σ' := (10, [(0, .int 0), (1, .int 0), (2, .int 3)], [], (px_shX, (px_mI Ic), (px_mJ Jc), (px_mP Pc)))) rfl ?_
    refine px_E_seg 2 (σ' := (15, [(0, .int 0), (1, .int 0), (2, .int 3)], [.int 1], (px_shX, (px_mI Ic), (px_mJ Jc), (px_mP Pc)))) rfl ?_
    exact px_E_ret rfl rfl) ?_
  refine px_E_seg 4 (σ' := (12, [(0, .ref 95), (1, .int 0), (2, .int 0)], [.int 3, .int 0, .int 0], (px_shX, (px_mI Ic), (px_mJ Jc), (px_mP Pc)))) rfl ?_
  refine px_E_call (j := 183) (as := [.int 0, .int 0, .int 3]) (rest := []) (v := some (.int 1)) (h1 := (px_shX, (px_mI Ic), (px_mJ Jc), (px_mP Pc))) rfl rfl rfl (by
    refine px_E_seg 6 (σ' := (10, [(0, .int 0), (1, .int 0), (2, .int 3)], [], (px_shX, (px_mI Ic), (px_mJ Jc), (px_mP Pc)))) rfl ?_
    refine px_E_seg 2 (σ' := (15, [(0, .int 0), (1, .int 0), (2, .int 3)], [.int 1], (px_shX, (px_mI Ic), (px_mJ Jc), (px_mP Pc)))) rfl ?_
    exact px_E_ret rfl rfl) ?_
  refine px_E_seg 5 (σ' := (27, [(0, .ref 95), (1, .int 0), (2, .int 0)], [.int 0, .ref 95], (px_shX, (px_mI Ic), (px_mJ Jc), (px_mP Pc)))) rfl ?_
  refine px_E_call (j := 242) (as := [.ref 95, .int 0]) (rest := []) (v := some (.int 0)) (h1 := (px_shX, (px_mI Ic), (px_mJ Jc), (px_mP Pc))) rfl rfl rfl (by
    refine px_E_seg 5 (σ' := (8, [(0, .ref 95), (1, .int 0)], [.int 0, .int 3, .int 114, .ref 96], (px_shX, (px_mI Ic), (px_mJ Jc), (px_mP Pc)))) rfl ?_
    refine px_E_seg 1 (σ' := (9, [(0, .ref 95), (1, .int 0)], [.int 0, .int 114, .ref 96], (px_shX, (px_mI Ic), (px_mJ Jc), (px_mP Pc)))) rfl ?_
    refine px_E_seg 2 (σ' := (11, [(0, .ref 95), (1, .int 0)], [.int 0], (px_shX, (px_mI Ic), (px_mJ Jc), (px_mP Pc)))) rfl ?_
    exact px_E_ret rfl rfl) ?_
  exact px_E_ret rfl rfl
set_option maxRecDepth 100000 in
set_option maxHeartbeats 4000000 in
theorem px_x16_3 {ro : px_RO} {dd : Nat}  : px_CX ro (dd + 8) 110 [.ref 0, .int 1, .int 0] (.int 0) := by
  refine ⟨px_IX, px_PX, ?_, px_fr_0, px_frP_0⟩
  show px_E ro (dd + 8) 110 (0, _, [], _) _ _
  refine px_E_seg 3 (σ' := (3, [(0, .ref 0), (1, .int 1), (2, .int 0)], [.int 3, .int 0, .int 1], (px_shX, px_IX, px_JX, px_PX))) rfl ?_
  refine px_E_call (j := 15) (as := [.int 1, .int 0, .int 3]) (rest := []) (v := some (.int 1)) (h1 := (px_shX, px_IX, px_JX, px_PX)) rfl rfl rfl (by
    refine px_E_seg 6 (σ' := (10, [(0, .int 1), (1, .int 0), (2, .int 3)], [], (px_shX, px_IX, px_JX, px_PX))) rfl ?_
    refine px_E_seg 2 (σ' := (15, [(0, .int 1), (1, .int 0), (2, .int 3)], [.int 1], (px_shX, px_IX, px_JX, px_PX))) rfl ?_
    exact px_E_ret rfl rfl) ?_
  refine px_E_seg 4 (σ' := (12, [(0, .ref 0), (1, .int 1), (2, .int 0)], [.int 3, .int 0, .int 0], (px_shX, px_IX, px_JX, px_PX))) rfl ?_
  refine px_E_call (j := 15) (as := [.int 0, .int 0, .int 3]) (rest := []) (v := some (.int 1)) (h1 := (px_shX, px_IX, px_JX, px_PX)) rfl rfl rfl (by
    refine px_E_seg 6 (σ' := (10, [(0, .int 0), (1, .int 0), (2, .int 3)], [], (px_shX, px_IX, px_JX, px_PX))) rfl ?_
    refine px_E_seg 2 (σ' := (15, [(0, .int 0), (1, .int 0), (2, .int 3)], [.int 1], (px_shX, px_IX, px_JX, px_PX))) rfl ?_
    exact px_E_ret rfl rfl) ?_
  refine px_E_seg 6 (σ' := (32, [(0, .ref 0), (1, .int 1), (2, .int 0)], [.ref 16], (px_shX, px_IX, px_JX, px_PX))) rfl ?_
  refine px_E_seg 2 (σ' := (34, [(0, .ref 0), (1, .int 1), (2, .int 0)], [.int 0], (px_shX, px_IX, px_JX, px_PX))) rfl ?_
  exact px_E_ret rfl rfl
set_option maxRecDepth 100000 in
set_option maxHeartbeats 4000000 in
theorem px_r16_3 {ro : px_RO} {dd : Nat}  : px_RX ro (dd + 8) 284 [.ref 95, .int 1, .int 0] (.int 0) := by
  intro Ic Jc Pc
  refine ⟨(px_shX, (px_mI Ic), (px_mJ Jc), (px_mP Pc)), ?_, rfl⟩
  show px_E ro (dd + 8) 284 (0, _, [], _) _ _
  refine px_E_seg 3 (σ' := (3, [(0, .ref 95), (1, .int 1), (2, .int 0)], [.int 3, .int 0, .int 1], (px_shX, (px_mI Ic), (px_mJ Jc), (px_mP Pc)))) rfl ?_
  refine px_E_call (j := 183) (as := [.int 1, .int 0, .int 3]) (rest := []) (v := some (.int 1)) (h1 := (px_shX, (px_mI Ic), (px_mJ Jc), (px_mP Pc))) rfl rfl rfl (by
    refine px_E_seg 6 (σ' := (10, [(0, .int 1), (1, .int 0), (2, .int 3)], [], (px_shX, (px_mI Ic), (px_mJ Jc), (px_mP Pc)))) rfl ?_
    refine px_E_seg 2 (σ' := (15, [(0, .int 1), (1, .int 0), (2, .int 3)], [.int 1], (px_shX, (px_mI Ic), (px_mJ Jc), (px_mP Pc)))) rfl ?_
    exact px_E_ret rfl rfl) ?_
  refine px_E_seg 4 (σ' := (12, [(0, .ref 95), (1, .int 1), (2, .int 0)], [.int 3, .int 0, .int 0], (px_shX, (px_mI Ic), (px_mJ Jc), (px_mP Pc)))) rfl ?_
  refine px_E_call (j := 183) (as := [.int 0, .int 0, .int 3]) (rest := []) (v := some (.int 1)) (h1 := (px_shX, (px_mI Ic), (px_mJ Jc), (px_mP Pc))) rfl rfl rfl (by
    refine px_E_seg 6 (σ' := (10, [(0, .int 0), (1, .int 0), (2, .int 3)], [], (px_shX, (px_mI Ic), (px_mJ Jc), (px_mP Pc)))) rfl ?_
    refine px_E_seg 2 (σ' := (15, [(0, .int 0), (1, .int 0), (2, .int 3)], [.int 1], (px_shX, (px_mI Ic), (px_mJ Jc), (px_mP Pc)))) rfl ?_
    exact px_E_ret rfl rfl) ?_
  refine px_E_seg 5 (σ' := (27, [(0, .ref 95), (1, .int 1), (2, .int 0)], [.int 1, .ref 95], (px_shX, (px_mI Ic), (px_mJ Jc), (px_mP Pc)))) rfl ?_
  refine px_E_call (j := 242) (as := [.ref 95, .int 1]) (rest := []) (v := some (.int 0)) (h1 := (px_shX, (px_mI Ic), (px_mJ Jc), (px_mP Pc))) rfl rfl rfl (by
    refine px_E_seg 5 (σ' := (8, [(0, .ref 95), (1, .int 1)], [.int 1, .int 3, .int 114, .ref 96], (px_shX, (px_mI Ic), (px_mJ Jc), (px_mP Pc)))) rfl ?_
    refine px_E_seg 1 (σ' := (9, [(0, .ref 95), (1, .int 1)], [.int 3, .int 114, .ref 96], (px_shX, (px_mI Ic), (px_mJ Jc), (px_mP Pc)))) rfl ?_
    refine px_E_seg 2 (σ' := (11, [(0, .ref 95), (1, .int 1)], [.int 0], (px_shX, (px_mI Ic), (px_mJ Jc), (px_mP Pc)))) rfl ?_
    exact px_E_ret rfl rfl) ?_
  exact px_E_ret rfl rfl
set_option maxRecDepth 100000 in
set_option maxHeartbeats 4000000 in
theorem px_x16_4 {ro : px_RO} {dd : Nat}  : px_CX ro (dd + 8) 110 [.ref 0, .int 2, .int 0] (.int 0) := by
  refine ⟨px_IX, px_PX, ?_, px_fr_0, px_frP_0⟩
  show px_E ro (dd + 8) 110 (0, _, [], _) _ _
  refine px_E_seg 3 (σ' := (3, [(0, .ref 0), (1, .int 2), (2, .int 0)], [.int 3, .int 0, .int 2], (px_shX, px_IX, px_JX, px_PX))) rfl ?_
  refine px_E_call (j := 15) (as := [.int 2, .int 0, .int 3]) (rest := []) (v := some (.int 1)) (h1 := (px_shX, px_IX, px_JX, px_PX)) rfl rfl rfl (by
    refine px_E_seg 6 (σ' := (10, [(0, .int 2), (1, .int 0), (2, .int 3)], [], (px_shX, px_IX, px_JX, px_PX))) rfl ?_
    refine px_E_seg 2 (σ' := (15, [(0, .int 2), (1, .int 0), (2, .int 3)], [.int 1], (px_shX, px_IX, px_JX, px_PX))) rfl ?_
    exact px_E_ret rfl rfl) ?_
  refine px_E_seg 4 (σ' := (12, [(0, .ref 0), (1, .int 2), (2, .int 0)], [.int 3, .int 0, .int 0], (px_shX, px_IX, px_JX, px_PX))) rfl ?_
  refine px_E_call (j := 15) (as := [.int 0, .int 0, .int 3]) (rest := []) (v := some (.int 1)) (h1 := (px_shX, px_IX, px_JX, px_PX)) rfl rfl rfl (by
    refine px_E_seg 6 (σ' := (10, [(0, .int 0), (1, .int 0), (2, .int 3)], [], (px_shX, px_IX, px_JX, px_PX))) rfl ?_
    refine px_E_seg 2 (σ' := (15, [(0, .int 0), (1, .int 0), (2, .int 3)], [.int 1], (px_shX, px_IX, px_JX, px_PX))) rfl ?_
    exact px_E_ret rfl rfl) ?_
  refine px_E_seg 6 (σ' := (32, [(0, .ref 0), (1, .int 2), (2, .int 0)], [.ref 16], (px_shX, px_IX, px_JX, px_PX))) rfl ?_
  refine px_E_seg 2 (σ' := (34, [(0, .ref 0), (1, .int 2), (2, .int 0)], [.int 0], (px_shX, px_IX, px_JX, px_PX))) rfl ?_
  exact px_E_ret rfl rfl
set_option maxRecDepth 100000 in
set_option maxHeartbeats 4000000 in
theorem px_r16_4 {ro : px_RO} {dd : Nat}  : px_RX ro (dd + 8) 284 [.ref 95, .int 2, .int 0] (.int 0) := by
  intro Ic Jc Pc
  refine ⟨(px_shX, (px_mI Ic), (px_mJ Jc), (px_mP Pc)), ?_, rfl⟩
  show px_E ro (dd + 8) 284 (0, _, [], _) _ _
  refine px_E_seg 3 (σ' := (3, [(0, .ref 95), (1, .int 2), (2, .int 0)], [.int 3, .int 0, .int 2], (px_shX, (px_mI Ic), (px_mJ Jc), (px_mP Pc)))) rfl ?_
  refine px_E_call (j := 183) (as := [.int 2, .int 0, .int 3]) (rest := []) (v := some (.int 1)) (h1 := (px_shX, (px_mI Ic), (px_mJ Jc), (px_mP Pc))) rfl rfl rfl (by
    refine px_E_seg 6 (σ' := (10, [(0, .int 2), (1, .int 0), (2, .int 3)], [], (px_shX, (px_mI Ic), (px_mJ Jc), (px_mP Pc)))) rfl ?_
    refine px_E_seg 2 (σ' := (15, [(0, .int 2), (1, .int 0), (2, .int 3)], [.int 1], (px_shX, (px_mI Ic), (px_mJ Jc), (px_mP Pc)))) rfl ?_
    exact px_E_ret rfl rfl) ?_
  refine px_E_seg 4 (σ' := (12, [(0, .ref 95), (1, .int 2), (2, .int 0)], [.int 3, .int 0, .int 0], (px_shX, (px_mI Ic), (px_mJ Jc), (px_mP Pc)))) rfl ?_
  refine px_E_call (j := 183) (as := [.int 0, .int 0, .int 3]) (rest := []) (v := some (.int 1)) (h1 := (px_shX, (px_mI Ic), (px_mJ Jc), (px_mP Pc))) rfl rfl rfl (by
    refine px_E_seg 6 (σ' := (10, [(0, .int 0), (1, .int 0), (2, .int 3)], [], (px_shX, (px_mI Ic), (px_mJ Jc), (px_mP Pc)))) rfl ?_
    refine px_E_seg 2 (σ' := (15, [(0, .int 0), (1, .int 0), (2, .int 3)], [.int 1], (px_shX, (px_mI Ic), (px_mJ Jc), (px_mP Pc)))) rfl ?_
    exact px_E_ret rfl rfl) ?_
  refine px_E_seg 5 (σ' := (27, [(0, .ref 95), (1, .int 2), (2, .int 0)], [.int 2, .ref 95], (px_shX, (px_mI Ic), (px_mJ Jc), (px_mP Pc)))) rfl ?_
  refine px_E_call (j := 242) (as := [.ref 95, .int 2]) (rest := []) (v := some (.int 0)) (h1 := (px_shX, (px_mI Ic), (px_mJ Jc), (px_mP Pc))) rfl rfl rfl (by
    refine px_E_seg 5 (σ' := (8, [(0, .ref 95), (1, .int 2)], [.int 2, .int 3, .int 114, .ref 96], (px_shX, (px_mI Ic), (px_mJ Jc), (px_mP Pc)))) rfl ?_
    refine px_E_seg 1 (σ' := (9, [(0, .ref 95), (1, .int 2)], [.int 6, .int 114, .ref 96], (px_shX, (px_mI Ic), (px_mJ Jc), (px_mP Pc)))) rfl ?_
    refine px_E_seg 2 (σ' := (11, [(0, .ref 95), (1, .int 2)], [.int 0], (px_shX, (px_mI Ic), (px_mJ Jc), (px_mP Pc)))) rfl ?_
    exact px_E_ret rfl rfl) ?_
  exact px_E_ret rfl rfl
set_option maxRecDepth 100000 in
set_option maxHeartbeats 4000000 in
theorem px_x16_5 {ro : px_RO} {dd : Nat}  : px_CX ro (dd + 8) 110 [.ref 0, .int 3, .int 0] (.int 0) := by
  refine ⟨px_IX, px_PX, ?_, px_fr_0, px_frP_0⟩
  show px_E ro (dd + 8) 110 (0, _, [], _) _ _
  refine px_E_seg 3 (σ' := (3, [(0, .ref 0), (1, .int 3), (2, .int 0)], [.int 3, .int 0, .int 3], (px_shX, px_IX, px_JX, px_PX))) rfl ?_
  refine px_E_call (j := 15) (as := [.int 3, .int 0, .int 3]) (rest := []) (v := some (.int 1)) (h1 := (px_shX, px_IX, px_JX, px_PX)) rfl rfl rfl (by
    refine px_E_seg 6 (σ' := (10, [(0, .int 3), (1, .int 0), (2, .int 3)], [], (px_shX, px_IX, px_JX, px_PX))) rfl ?_
    refine px_E_seg 2 (σ' := (15, [(0, .int 3), (1, .int 0), (2, .int 3)], [.int 1], (px_shX, px_IX, px_JX, px_PX))) rfl ?_
    exact px_E_ret rfl rfl) ?_
  refine px_E_seg 4 (σ' := (12, [(0, .ref 0), (1, .int 3), (2, .int 0)], [.int 3, .int 0, .int 0], (px_shX, px_IX, px_JX, px_PX))) rfl ?_
  refine px_E_call (j := 15) (as := [.int 0, .int 0, .int 3]) (rest := []) (v := some (.int 1)) (h1 := (px_shX, px_IX, px_JX, px_PX)) rfl rfl rfl (by
    refine px_E_seg 6 (σ' := (10, [(0, .int 0), (1, .int 0), (2, .int 3)], [], (px_shX, px_IX, px_JX, px_PX))) rfl ?_
    refine px_E_seg 2 (σ' := (15, [(0, .int 0), (1, .int 0), (2, .int 3)], [.int 1], (px_shX, px_IX, px_JX, px_PX))) rfl ?_
    exact px_E_ret rfl rfl) ?_
  refine px_E_seg 6 (σ' := (32, [(0, .ref 0), (1, .int 3), (2, .int 0)], [.ref 16], (px_shX, px_IX, px_JX, px_PX))) rfl ?_
  refine px_E_seg 2 (σ' := (34, [(0, .ref 0), (1, .int 3), (2, .int 0)], [.int 0], (px_shX, px_IX, px_JX, px_PX))) rfl ?_
  exact px_E_ret rfl rfl
set_option maxRecDepth 100000 in
set_option maxHeartbeats 4000000 in
theorem px_r16_5 {ro : px_RO} {dd : Nat}  : px_RX ro (dd + 8) 284 [.ref 95, .int 3, .int 0] (.int 0) := by
  intro Ic Jc Pc
  refine ⟨(px_shX, (px_mI Ic), (px_mJ Jc), (px_mP Pc)), ?_, rfl⟩
  show px_E ro (dd + 8) 284 (0, _, [], _) _ _
  refine px_E_seg 3 (σ' := (3, [(0, .ref 95), (1, .int 3), (2, .int 0)], [.int 3, .int 0, .int 3], (px_shX, (px_mI Ic), (px_mJ Jc), (px_mP Pc)))) rfl ?_
  refine px_E_call (j := 183) (as := [.int 3, .int 0, .int 3]) (rest := []) (v := some (.int 1)) (h1 := (px_shX, (px_mI Ic), (px_mJ Jc), (px_mP Pc))) rfl rfl rfl (by
    refine px_E_seg 6 (σ' := (10, [(0, .int 3), (1, .int 0), (2, .int 3)], [], (px_shX, (px_mI Ic), (px_mJ Jc), (px_mP Pc)))) rfl ?_
    refine px_E_seg 2 (σ' := (15, [(0, .int 3), (1, .int 0), (2, .int 3)], [.int 1], (px_shX, (px_mI Ic), (px_mJ Jc), (px_mP Pc)))) rfl ?_
    exact px_E_ret rfl rfl) ?_
  refine px_E_seg 4 (σ' := (12, [(0, .ref 95), (1, .int 3), (2, .int 0)], [.int 3, .int 0, .int 0], (px_shX, (px_mI Ic), (px_mJ Jc), (px_mP Pc)))) rfl ?_
  refine px_E_call (j := 183) (as := [.int 0, .int 0, .int 3]) (rest := []) (v := some (.int 1)) (h1 := (px_shX, (px_mI Ic), (px_mJ Jc), (px_mP Pc))) rfl rfl rfl (by
    refine px_E_seg 6 (σ' := (10, [(0, .int 0), (1, .int 0), (2, .int 3)], [], (px_shX, (px_mI Ic), (px_mJ Jc), (px_mP Pc)))) rfl ?_
    refine px_E_seg 2 (σ' := (15, [(0, .int 0), (1, .int 0), (2, .int 3)], [.int 1], (px_shX, (px_mI Ic), (px_mJ Jc), (px_mP Pc)))) rfl ?_
    exact px_E_ret rfl rfl) ?_
  refine px_E_seg 5 (σ' := (27, [(0, .ref 95), (1, .int 3), (2, .int 0)], [.int 3, .ref 95], (px_shX, (px_mI Ic), (px_mJ Jc), (px_mP Pc)))) rfl ?_
  refine px_E_call (j := 242) (as := [.ref 95, .int 3]) (rest := []) (v := some (.int 0)) (h1 := (px_shX, (px_mI Ic), (px_mJ Jc), (px_mP Pc))) rfl rfl rfl (by
    refine px_E_seg 5 (σ' := (8, [(0, .ref 95), (1, .int 3)], [.int 3, .int 3, .int 114, .ref 96], (px_shX, (px_mI Ic), (px_mJ Jc), (px_mP Pc)))) rfl ?_
    refine px_E_seg 1 (σ' := (9, [(0, .ref 95), (1, .int 3)], [.int 9, .int 114, .ref 96], (px_shX, (px_mI Ic), (px_mJ Jc), (px_mP Pc)))) rfl ?_
    refine px_E_seg 2 (σ' := (11, [(0, .ref 95), (1, .int 3)], [.int 0], (px_shX, (px_mI Ic), (px_mJ Jc), (px_mP Pc)))) rfl ?_
    exact px_E_ret rfl rfl) ?_
  exact px_E_ret rfl rfl
set_option maxRecDepth 100000 in
set_option maxHeartbeats 4000000 in
theorem px_x16_6 {ro : px_RO} {dd : Nat} (a2 : Int32) (ha2 : 1 ≤ a2.toInt ∧ a2.toInt ≤ 3) : px_CX ro (dd + 8) 110 [.ref 0, .int 0, .int a2] (.int (-1)) := by
  refine ⟨px_IX, px_PX, ?_, px_fr_0, px_frP_0⟩
  show px_E ro (dd + 8) 110 (0, _, [], _) _ _
  refine px_E_seg 3 (σ' := (3, [(0, .ref 0), (1, .int 0), (2, .int a2)], [.int 3, .int 0, .int 0], (px_shX, px_IX, px_JX, px_PX))) rfl ?_
  refine px_E_call (j := 15) (as := [.int 0, .int 0, .int 3]) (rest := []) (v := some (.int 1)) (h1 := (px_shX, px_IX, px_JX, px_PX)) rfl rfl rfl (by
    refine px_E_seg 6 (σ' := (10, [(0, .int 0), (1, .int 0), (2, .int 3)], [], (px_shX, px_IX, px_JX, px_PX))) rfl ?_
    refine px_E_seg 2 (σ' := (15, [(0, .int 0), (1, .int 0), (2, .int 3)], [.int 1], (px_shX, px_IX, px_JX, px_PX))) rfl ?_
    exact px_E_ret rfl rfl) ?_
  refine px_E_seg 4 (σ' := (12, [(0, .ref 0), (1, .int 0), (2, .int a2)], [.int 3, .int 0, .int a2], (px_shX, px_IX, px_JX, px_PX))) rfl ?_
  refine px_E_call (j := 15) (as := [.int a2, .int 0, .int 3]) (rest := []) (v := some (.int 1)) (h1 := (px_shX, px_IX, px_JX, px_PX)) rfl rfl rfl (by
    refine px_E_seg 2 (σ' := (2, [(0, .int a2), (1, .int 0), (2, .int 3)], [.int 0, .int a2], (px_shX, px_IX, px_JX, px_PX))) rfl ?_
    refine px_E_icF (t := 14) rfl rfl (show (0 : Int) ≤ a2.toInt by omega) ?_
    refine px_E_seg 2 (σ' := (7, [(0, .int a2), (1, .int 0), (2, .int 3)], [.int 3, .int a2], (px_shX, px_IX, px_JX, px_PX))) rfl ?_
    refine px_E_icF (t := 14) rfl rfl (show a2.toInt ≤ (3 : Int) by omega) ?_
    refine px_E_seg 2 (σ' := (15, [(0, .int a2), (1, .int 0), (2, .int 3)], [.int 1], (px_shX, px_IX, px_JX, px_PX))) rfl ?_
    exact px_E_ret rfl rfl) ?_
  refine px_E_seg 2 (σ' := (22, [(0, .ref 0), (1, .int 0), (2, .int a2)], [.int a2], (px_shX, px_IX, px_JX, px_PX))) rfl ?_
  refine px_E_ifT (t := 35) rfl rfl (show a2.toInt ≠ (0 : Int) by omega) ?_
  refine px_E_seg 6 (σ' := (47, [(0, .ref 0), (1, .int 0), (2, .int a2)], [], (px_shX, px_IX, px_JX, px_PX))) rfl ?_
  refine px_E_seg 1 (σ' := (48, [(0, .ref 0), (1, .int 0), (2, .int a2)], [.int (-1)], (px_shX, px_IX, px_JX, px_PX))) rfl ?_
  exact px_E_ret rfl rfl
set_option maxRecDepth 100000 in
set_option maxHeartbeats 4000000 in
theorem px_r16_6 {ro : px_RO} {dd : Nat} (a2 : Int32) (ha2 : 1 ≤ a2.toInt ∧ a2.toInt ≤ 3) : px_RX ro (dd + 8) 284 [.ref 95, .int 0, .int a2] (.int (-1)) := by
  intro Ic Jc Pc
  refine ⟨(px_shX, (px_mI Ic), (px_mJ Jc), (px_mP Pc)), ?_, rfl⟩
  show px_E ro (dd + 8) 284 (0, _, [], _) _ _
  refine px_E_seg 3 (σ' := (3, [(0, .ref 95), (1, .int 0), (2, .int a2)], [.int 3, .int 0, .int 0], (px_shX, (px_mI Ic), (px_mJ Jc), (px_mP Pc)))) rfl ?_
  refine px_E_call (j := 183) (as := [.int 0, .int 0, .int 3]) (rest := []) (v := some (.int 1)) (h1 := (px_shX, (px_mI Ic), (px_mJ Jc), (px_mP Pc))) rfl rfl rfl (by
    refine px_E_seg 6 (σ' := (10, [(0, .int 0), (1, .int 0), (2, .int 3)], [], (px_shX, (px_mI Ic), (px_mJ Jc), (px_mP Pc)))) rfl ?_
    refine px_E_seg 2 (σ' := (15, [(0, .int 0), (1, .int 0), (2, .int 3)], [.int 1], (px_shX, (px_mI Ic), (px_mJ Jc), (px_mP Pc)))) rfl ?_
    exact px_E_ret rfl rfl) ?_
  refine px_E_seg 4 (σ' := (12, [(0, .ref 95), (1, .int 0), (2, .int a2)], [.int 3, .int 0, .int a2], (px_shX, (px_mI Ic), (px_mJ Jc), (px_mP Pc)))) rfl ?_
  refine px_E_call (j := 183) (as := [.int a2, .int 0, .int 3]) (rest := []) (v := some (.int 1)) (h1 := (px_shX, (px_mI Ic), (px_mJ Jc), (px_mP Pc))) rfl rfl rfl (by
    refine px_E_seg 2 (σ' := (2, [(0, .int a2), (1, .int 0), (2, .int 3)], [.int 0, .int a2], (px_shX, (px_mI Ic), (px_mJ Jc), (px_mP Pc)))) rfl ?_
    refine px_E_icF (t := 14) rfl rfl (show (0 : Int) ≤ a2.toInt by omega) ?_
    refine px_E_seg 2 (σ' := (7, [(0, .int a2), (1, .int 0), (2, .int 3)], [.int 3, .int a2], (px_shX, (px_mI Ic), (px_mJ Jc), (px_mP Pc)))) rfl ?_
    refine px_E_icF (t := 14) rfl rfl (show a2.toInt ≤ (3 : Int) by omega) ?_
    refine px_E_seg 2 (σ' := (15, [(0, .int a2), (1, .int 0), (2, .int 3)], [.int 1], (px_shX, (px_mI Ic), (px_mJ Jc), (px_mP Pc)))) rfl ?_
    exact px_E_ret rfl rfl) ?_
  refine px_E_seg 2 (σ' := (22, [(0, .ref 95), (1, .int 0), (2, .int a2)], [.int a2], (px_shX, (px_mI Ic), (px_mJ Jc), (px_mP Pc)))) rfl ?_
  refine px_E_ifT (t := 31) rfl rfl (show a2.toInt ≠ (0 : Int) by omega) ?_
  refine px_E_seg 2 (σ' := (33, [(0, .ref 95), (1, .int 0), (2, .int a2)], [.int 0, .ref 95], (px_shX, (px_mI Ic), (px_mJ Jc), (px_mP Pc)))) rfl ?_
  refine px_E_call (j := 242) (as := [.ref 95, .int 0]) (rest := []) (v := some (.int 0)) (h1 := (px_shX, (px_mI Ic), (px_mJ Jc), (px_mP Pc))) rfl rfl rfl (by
    refine px_E_seg 5 (σ' := (8, [(0, .ref 95), (1, .int 0)], [.int 0, .int 3, .int 114, .ref 96], (px_shX, (px_mI Ic), (px_mJ Jc), (px_mP Pc)))) rfl ?_
    refine px_E_seg 1 (σ' := (9, [(0, .ref 95), (1, .int 0)], [.int 0, .int 114, .ref 96], (px_shX, (px_mI Ic), (px_mJ Jc), (px_mP Pc)))) rfl ?_
    refine px_E_seg 2 (σ' := (11, [(0, .ref 95), (1, .int 0)], [.int 0], (px_shX, (px_mI Ic), (px_mJ Jc), (px_mP Pc)))) rfl ?_
    exact px_E_ret rfl rfl) ?_
  refine px_E_seg 2 (σ' := (40, [(0, .ref 95), (1, .int 0), (2, .int a2)], [.int (-1)], (px_shX, (px_mI Ic), (px_mJ Jc), (px_mP Pc)))) rfl ?_
  exact px_E_ret rfl rfl
set_option maxRecDepth 100000 in
set_option maxHeartbeats 4000000 in
theorem px_x16_7 {ro : px_RO} {dd : Nat} (a2 : Int32) (ha2 : 1 ≤ a2.toInt ∧ a2.toInt ≤ 3) : px_CX ro (dd + 8) 110 [.ref 0, .int 1, .int a2] (.int (-1)) := by
  refine ⟨px_IX, px_PX, ?_, px_fr_0, px_frP_0⟩
  show px_E ro (dd + 8) 110 (0, _, [], _) _ _
  refine px_E_seg 3 (σ' := (3, [(0, .ref 0), (1, .int 1), (2, .int a2)], [.int 3, .int 0, .int 1], (px_shX, px_IX, px_JX, px_PX))) rfl ?_
  refine px_E_call (j := 15) (as := [.int 1, .int 0, .int 3]) (rest := []) (v := some (.int 1)) (h1 := (px_shX, px_IX, px_JX, px_PX)) rfl rfl rfl (by
    refine px_E_seg 6 (σ' := (10, [(0, .int 1), (1, .int 0), (2, .int 3)], [], (px_shX, px_IX, px_JX, px_PX))) rfl ?_
    refine px_E_seg 2 (σ' := (15, [(0, .int 1), (1, .int 0), (2, .int 3)], [.int 1], (px_shX, px_IX, px_JX, px_PX))) rfl ?_
    exact px_E_ret rfl rfl) ?_
  refine px_E_seg 4 (σ' := (12, [(0, .ref 0), (1, .int 1), (2, .int a2)], [.int 3, .int 0, .int a2], (px_shX, px_IX, px_JX, px_PX))) rfl ?_
  refine px_E_call (j := 15) (as := [.int a2, .int 0, .int 3]) (rest := []) (v := some (.int 1)) (h1 := (px_shX, px_IX, px_JX, px_PX)) rfl rfl rfl (by
    refine px_E_seg 2 (σ' := (2, [(0, .int a2), (1, .int 0), (2, .int 3)], [.int 0, .int a2], (px_shX, px_IX, px_JX, px_PX))) rfl ?_
    refine px_E_icF (t := 14) rfl rfl (show (0 : Int) ≤ a2.toInt by omega) ?_
    refine px_E_seg 2 (σ' := (7, [(0, .int a2), (1, .int 0), (2, .int 3)], [.int 3, .int a2], (px_shX, px_IX, px_JX, px_PX))) rfl ?_
    refine px_E_icF (t := 14) rfl rfl (show a2.toInt ≤ (3 : Int) by omega) ?_
    refine px_E_seg 2 (σ' := (15, [(0, .int a2), (1, .int 0), (2, .int 3)], [.int 1], (px_shX, px_IX, px_JX, px_PX))) rfl ?_
    exact px_E_ret rfl rfl) ?_
  refine px_E_seg 2 (σ' := (22, [(0, .ref 0), (1, .int 1), (2, .int a2)], [.int a2], (px_shX, px_IX, px_JX, px_PX))) rfl ?_
  refine px_E_ifT (t := 35) rfl rfl (show a2.toInt ≠ (0 : Int) by omega) ?_
  refine px_E_seg 6 (σ' := (47, [(0, .ref 0), (1, .int 1), (2, .int a2)], [], (px_shX, px_IX, px_JX, px_PX))) rfl ?_
  refine px_E_seg 1 (σ' := (48, [(0, .ref 0), (1, .int 1), (2, .int a2)], [.int (-1)], (px_shX, px_IX, px_JX, px_PX))) rfl ?_
  exact px_E_ret rfl rfl
set_option maxRecDepth 100000 in
set_option maxHeartbeats 4000000 in
theorem px_r16_7 {ro : px_RO} {dd : Nat} (a2 : Int32) (ha2 : 1 ≤ a2.toInt ∧ a2.toInt ≤ 3) : px_RX ro (dd + 8) 284 [.ref 95, .int 1, .int a2] (.int (-1)) := by
  intro Ic Jc Pc
  refine ⟨(px_shX, (px_mI Ic), (px_mJ Jc), (px_mP Pc)), ?_, rfl⟩
  show px_E ro (dd + 8) 284 (0, _, [], _) _ _
  refine px_E_seg 3 (σ' := (3, [(0, .ref 95), (1, .int 1), (2, .int a2)], [.int 3, .int 0, .int 1], (px_shX, (px_mI Ic), (px_mJ Jc), (px_mP Pc)))) rfl ?_
  refine px_E_call (j := 183) (as := [.int 1, .int 0, .int 3]) (rest := []) (v := some (.int 1)) (h1 := (px_shX, (px_mI Ic), (px_mJ Jc), (px_mP Pc))) rfl rfl rfl (by
    refine px_E_seg 6 (σ' := (10, [(0, .int 1), (1, .int 0), (2, .int 3)], [], (px_shX, (px_mI Ic), (px_mJ Jc), (px_mP Pc)))) rfl ?_
    refine px_E_seg 2 (σ' := (15, [(0, .int 1), (1, .int 0), (2, .int 3)], [.int 1], (px_shX, (px_mI Ic), (px_mJ Jc), (px_mP Pc)))) rfl ?_
    exact px_E_ret rfl rfl) ?_
  refine px_E_seg 4 (σ' := (12, [(0, .ref 95), (1, .int 1), (2, .int a2)], [.int 3, .int 0, .int a2], (px_shX, (px_mI Ic), (px_mJ Jc), (px_mP Pc)))) rfl ?_
  refine px_E_call (j := 183) (as := [.int a2, .int 0, .int 3]) (rest := []) (v := some (.int 1)) (h1 := (px_shX, (px_mI Ic), (px_mJ Jc), (px_mP Pc))) rfl rfl rfl (by
    refine px_E_seg 2 (σ' := (2, [(0, .int a2), (1, .int 0), (2, .int 3)], [.int 0, .int a2], (px_shX, (px_mI Ic), (px_mJ Jc), (px_mP Pc)))) rfl ?_
    refine px_E_icF (t := 14) rfl rfl (show (0 : Int) ≤ a2.toInt by omega) ?_
    refine px_E_seg 2 (σ' := (7, [(0, .int a2), (1, .int 0), (2, .int 3)], [.int 3, .int a2], (px_shX, (px_mI Ic), (px_mJ Jc), (px_mP Pc)))) rfl ?_
    refine px_E_icF (t := 14) rfl rfl (show a2.toInt ≤ (3 : Int) by omega) ?_
    refine px_E_seg 2 (σ' := (15, [(0, .int a2), (1, .int 0), (2, .int 3)], [.int 1], (px_shX, (px_mI Ic), (px_mJ Jc), (px_mP Pc)))) rfl ?_
    exact px_E_ret rfl rfl) ?_
  refine px_E_seg 2 (σ' := (22, [(0, .ref 95), (1, .int 1), (2, .int a2)], [.int a2], (px_shX, (px_mI Ic), (px_mJ Jc), (px_mP Pc)))) rfl ?_
  refine px_E_ifT (t := 31) rfl rfl (show a2.toInt ≠ (0 : Int) by omega) ?_
  refine px_E_seg 2 (σ' := (33, [(0, .ref 95), (1, .int 1), (2, .int a2)], [.int 1, .ref 95], (px_shX, (px_mI Ic), (px_mJ Jc), (px_mP Pc)))) rfl ?_
  refine px_E_call (j := 242) (as := [.ref 95, .int 1]) (rest := []) (v := some (.int 0)) (h1 := (px_shX, (px_mI Ic), (px_mJ Jc), (px_mP Pc))) rfl rfl rfl (by
    refine px_E_seg 5 (σ' := (8, [(0, .ref 95), (1, .int 1)], [.int 1, .int 3, .int 114, .ref 96], (px_shX, (px_mI Ic), (px_mJ Jc), (px_mP Pc)))) rfl ?_
    refine px_E_seg 1 (σ' := (9, [(0, .ref 95), (1, .int 1)], [.int 3, .int 114, .ref 96], (px_shX, (px_mI Ic), (px_mJ Jc), (px_mP Pc)))) rfl ?_
    refine px_E_seg 2 (σ' := (11, [(0, .ref 95), (1, .int 1)], [.int 0], (px_shX, (px_mI Ic), (px_mJ Jc), (px_mP Pc)))) rfl ?_
    exact px_E_ret rfl rfl) ?_
  refine px_E_seg 2 (σ' := (40, [(0, .ref 95), (1, .int 1), (2, .int a2)], [.int (-1)], (px_shX, (px_mI Ic), (px_mJ Jc), (px_mP Pc)))) rfl ?_
  exact px_E_ret rfl rfl
set_option maxRecDepth 100000 in
set_option maxHeartbeats 4000000 in
theorem px_x16_8 {ro : px_RO} {dd : Nat} (a2 : Int32) (ha2 : 1 ≤ a2.toInt ∧ a2.toInt ≤ 3) : px_CX ro (dd + 8) 110 [.ref 0, .int 2, .int a2] (.int (-1)) := by
  refine ⟨px_IX, px_PX, ?_, px_fr_0, px_frP_0⟩
  show px_E ro (dd + 8) 110 (0, _, [], _) _ _
  refine px_E_seg 3 (σ' := (3, [(0, .ref 0), (1, .int 2), (2, .int a2)], [.int 3, .int 0, .int 2], (px_shX, px_IX, px_JX, px_PX))) rfl ?_
  refine px_E_call (j := 15) (as := [.int 2, .int 0, .int 3]) (rest := []) (v := some (.int 1)) (h1 := (px_shX, px_IX, px_JX, px_PX)) rfl rfl rfl (by
    refine px_E_seg 6 (σ' := (10, [(0, .int 2), (1, .int 0), (2, .int 3)], [], (px_shX, px_IX, px_JX, px_PX))) rfl ?_
    refine px_E_seg 2 (σ' := (15, [(0, .int 2), (1, .int 0), (2, .int 3)], [.int 1], (px_shX, px_IX, px_JX, px_PX))) rfl ?_
    exact px_E_ret rfl rfl) ?_
  refine px_E_seg 4 (σ' := (12, [(0, .ref 0), (1, .int 2), (2, .int a2)], [.int 3, .int 0, .int a2], (px_shX, px_IX, px_JX, px_PX))) rfl ?_
  refine px_E_call (j := 15) (as := [.int a2, .int 0, .int 3]) (rest := []) (v := some (.int 1)) (h1 := (px_shX, px_IX, px_JX, px_PX)) rfl rfl rfl (by
    refine px_E_seg 2 (σ' := (2, [(0, .int a2), (1, .int 0), (2, .int 3)], [.int 0, .int a2], (px_shX, px_IX, px_JX, px_PX))) rfl ?_
    refine px_E_icF (t := 14) rfl rfl (show (0 : Int) ≤ a2.toInt by omega) ?_
    refine px_E_seg 2 (σ' := (7, [(0, .int a2), (1, .int 0), (2, .int 3)], [.int 3, .int a2], (px_shX, px_IX, px_JX, px_PX))) rfl ?_
    refine px_E_icF (t := 14) rfl rfl (show a2.toInt ≤ (3 : Int) by omega) ?_
    refine px_E_seg 2 (σ' := (15, [(0, .int a2), (1, .int 0), (2, .int 3)], [.int 1], (px_shX, px_IX, px_JX, px_PX))) rfl ?_
    exact px_E_ret rfl rfl) ?_
  refine px_E_seg 2 (σ' := (22, [(0, .ref 0), (1, .int 2), (2, .int a2)], [.int a2], (px_shX, px_IX, px_JX, px_PX))) rfl ?_
  refine px_E_ifT (t := 35) rfl rfl (show a2.toInt ≠ (0 : Int) by omega) ?_
  refine px_E_seg 6 (σ' := (47, [(0, .ref 0), (1, .int 2), (2, .int a2)], [], (px_shX, px_IX, px_JX, px_PX))) rfl ?_
  refine px_E_seg 1 (σ' := (48, [(0, .ref 0), (1, .int 2), (2, .int a2)], [.int (-1)], (px_shX, px_IX, px_JX, px_PX))) rfl ?_
  exact px_E_ret rfl rfl
set_option maxRecDepth 100000 in
set_option maxHeartbeats 4000000 in
theorem px_r16_8 {ro : px_RO} {dd : Nat} (a2 : Int32) (ha2 : 1 ≤ a2.toInt ∧ a2.toInt ≤ 3) : px_RX ro (dd + 8) 284 [.ref 95, .int 2, .int a2] (.int (-1)) := by
  intro Ic Jc Pc
  refine ⟨(px_shX, (px_mI Ic), (px_mJ Jc), (px_mP Pc)), ?_, rfl⟩
  show px_E ro (dd + 8) 284 (0, _, [], _) _ _
  refine px_E_seg 3 (σ' := (3, [(0, .ref 95), (1, .int 2), (2, .int a2)], [.int 3, .int 0, .int 2], (px_shX, (px_mI Ic), (px_mJ Jc), (px_mP Pc)))) rfl ?_
  refine px_E_call (j := 183) (as := [.int 2, .int 0, .int 3]) (rest := []) (v := some (.int 1)) (h1 := (px_shX, (px_mI Ic), (px_mJ Jc), (px_mP Pc))) rfl rfl rfl (by
    refine px_E_seg 6 (σ' := (10, [(0, .int 2), (1, .int 0), (2, .int 3)], [], (px_shX, (px_mI Ic), (px_mJ Jc), (px_mP Pc)))) rfl ?_
    refine px_E_seg 2 (σ' := (15, [(0, .int 2), (1, .int 0), (2, .int 3)], [.int 1], (px_shX, (px_mI Ic), (px_mJ Jc), (px_mP Pc)))) rfl ?_
    exact px_E_ret rfl rfl) ?_
  refine px_E_seg 4 (σ' := (12, [(0, .ref 95), (1, .int 2), (2, .int a2)], [.int 3, .int 0, .int a2], (px_shX, (px_mI Ic), (px_mJ Jc), (px_mP Pc)))) rfl ?_
  refine px_E_call (j := 183) (as := [.int a2, .int 0, .int 3]) (rest := []) (v := some (.int 1)) (h1 := (px_shX, (px_mI Ic), (px_mJ Jc), (px_mP Pc))) rfl rfl rfl (by
    refine px_E_seg 2 (σ' := (2, [(0, .int a2), (1, .int 0), (2, .int 3)], [.int 0, .int a2], (px_shX, (px_mI Ic), (px_mJ Jc), (px_mP Pc)))) rfl ?_
    refine px_E_icF (t := 14) rfl rfl (show (0 : Int) ≤ a2.toInt by omega) ?_
    refine px_E_seg 2 (σ' := (7, [(0, .int a2), (1, .int 0), (2, .int 3)], [.int 3, .int a2], (px_shX, (px_mI Ic), (px_mJ Jc), (px_mP Pc)))) rfl ?_
    refine px_E_icF (t := 14) rfl rfl (show a2.toInt ≤ (3 : Int) by omega) ?_
    refine px_E_seg 2 (σ' := (15, [(0, .int a2), (1, .int 0), (2, .int 3)], [.int 1], (px_shX, (px_mI Ic), (px_mJ Jc), (px_mP Pc)))) rfl ?_
    exact px_E_ret rfl rfl) ?_
  refine px_E_seg 2 (σ' := (22, [(0, .ref 95), (1, .int 2), (2, .int a2)], [.int a2], (px_shX, (px_mI Ic), (px_mJ Jc), (px_mP Pc)))) rfl ?_
  refine px_E_ifT (t := 31) rfl rfl (show a2.toInt ≠ (0 : Int) by omega) ?_
  refine px_E_seg 2 (σ' := (33, [(0, .ref 95), (1, .int 2), (2, .int a2)], [.int 2, .ref 95], (px_shX, (px_mI Ic), (px_mJ Jc), (px_mP Pc)))) rfl ?_
  refine px_E_call (j := 242) (as := [.ref 95, .int 2]) (rest := []) (v := some (.int 0)) (h1 := (px_shX, (px_mI Ic), (px_mJ Jc), (px_mP Pc))) rfl rfl rfl (by
    refine px_E_seg 5 (σ' := (8, [(0, .ref 95), (1, .int 2)], [.int 2, .int 3, .int 114, .ref 96], (px_shX, (px_mI Ic), (px_mJ Jc), (px_mP Pc)))) rfl ?_
    refine px_E_seg 1 (σ' := (9, [(0, .ref 95), (1, .int 2)], [.int 6, .int 114, .ref 96], (px_shX, (px_mI Ic), (px_mJ Jc), (px_mP Pc)))) rfl ?_
    refine px_E_seg 2 (σ' := (11, [(0, .ref 95), (1, .int 2)], [.int 0], (px_shX, (px_mI Ic), (px_mJ Jc), (px_mP Pc)))) rfl ?_
    exact px_E_ret rfl rfl) ?_
  refine px_E_seg 2 (σ' := (40, [(0, .ref 95), (1, .int 2), (2, .int a2)], [.int (-1)], (px_shX, (px_mI Ic), (px_mJ Jc), (px_mP Pc)))) rfl ?_
  exact px_E_ret rfl rfl
set_option maxRecDepth 100000 in
set_option maxHeartbeats 4000000 in
theorem px_x16_9 {ro : px_RO} {dd : Nat} (a2 : Int32) (ha2 : 1 ≤ a2.toInt ∧ a2.toInt ≤ 3) : px_CX ro (dd + 8) 110 [.ref 0, .int 3, .int a2] (.int (-1)) := by
  refine ⟨px_IX, px_PX, ?_, px_fr_0, px_frP_0⟩
  show px_E ro (dd + 8) 110 (0, _, [], _) _ _
  refine px_E_seg 3 (σ' := (3, [(0, .ref 0), (1, .int 3), (2, .int a2)], [.int 3, .int 0, .int 3], (px_shX, px_IX, px_JX, px_PX))) rfl ?_
  refine px_E_call (j := 15) (as := [.int 3, .int 0, .int 3]) (rest := []) (v := some (.int 1)) (h1 := (px_shX, px_IX, px_JX, px_PX)) rfl rfl rfl (by
    refine px_E_seg 6 (σ' := (10, [(0, .int 3), (1, .int 0), (2, .int 3)], [], (px_shX, px_IX, px_JX, px_PX))) rfl ?_
    refine px_E_seg 2 (σ' := (15, [(0, .int 3), (1, .int 0), (2, .int 3)], [.int 1], (px_shX, px_IX, px_JX, px_PX))) rfl ?_
    exact px_E_ret rfl rfl) ?_
  refine px_E_seg 4 (σ' := (12, [(0, .ref 0), (1, .int 3), (2, .int a2)], [.int 3, .int 0, .int a2], (px_shX, px_IX, px_JX, px_PX))) rfl ?_
  refine px_E_call (j := 15) (as := [.int a2, .int 0, .int 3]) (rest := []) (v := some (.int 1)) (h1 := (px_shX, px_IX, px_JX, px_PX)) rfl rfl rfl (by
    refine px_E_seg 2 (σ' := (2, [(0, .int a2), (1, .int 0), (2, .int 3)], [.int 0, .int a2], (px_shX, px_IX, px_JX, px_PX))) rfl ?_
    refine px_E_icF (t := 14) rfl rfl (show (0 : Int) ≤ a2.toInt by omega) ?_
    refine px_E_seg 2 (σ' := (7, [(0, .int a2), (1, .int 0), (2, .int 3)], [.int 3, .int a2], (px_shX, px_IX, px_JX, px_PX))) rfl ?_
    refine px_E_icF (t := 14) rfl rfl (show a2.toInt ≤ (3 : Int) by omega) ?_
    refine px_E_seg 2 (σ' := (15, [(0, .int a2), (1, .int 0), (2, .int 3)], [.int 1], (px_shX, px_IX, px_JX, px_PX))) rfl ?_
    exact px_E_ret rfl rfl) ?_
  refine px_E_seg 2 (σ' := (22, [(0, .ref 0), (1, .int 3), (2, .int a2)], [.int a2], (px_shX, px_IX, px_JX, px_PX))) rfl ?_
  refine px_E_ifT (t := 35) rfl rfl (show a2.toInt ≠ (0 : Int) by omega) ?_
  refine px_E_seg 6 (σ' := (47, [(0, .ref 0), (1, .int 3), (2, .int a2)], [], (px_shX, px_IX, px_JX, px_PX))) rfl ?_
  refine px_E_seg 1 (σ' := (48, [(0, .ref 0), (1, .int 3), (2, .int a2)], [.int (-1)], (px_shX, px_IX, px_JX, px_PX))) rfl ?_
  exact px_E_ret rfl rfl
set_option maxRecDepth 100000 in
set_option maxHeartbeats 4000000 in
theorem px_r16_9 {ro : px_RO} {dd : Nat} (a2 : Int32) (ha2 : 1 ≤ a2.toInt ∧ a2.toInt ≤ 3) : px_RX ro (dd + 8) 284 [.ref 95, .int 3, .int a2] (.int (-1)) := by
  intro Ic Jc Pc
  refine ⟨(px_shX, (px_mI Ic), (px_mJ Jc), (px_mP Pc)), ?_, rfl⟩
  show px_E ro (dd + 8) 284 (0, _, [], _) _ _
  refine px_E_seg 3 (σ' := (3, [(0, .ref 95), (1, .int 3), (2, .int a2)], [.int 3, .int 0, .int 3], (px_shX, (px_mI Ic), (px_mJ Jc), (px_mP Pc)))) rfl ?_
  refine px_E_call (j := 183) (as := [.int 3, .int 0, .int 3]) (rest := []) (v := some (.int 1)) (h1 := (px_shX, (px_mI Ic), (px_mJ Jc), (px_mP Pc))) rfl rfl rfl (by
    refine px_E_seg 6 (σ' := (10, [(0, .int 3), (1, .int 0), (2, .int 3)], [], (px_shX, (px_mI Ic), (px_mJ Jc), (px_mP Pc)))) rfl ?_
    refine px_E_seg 2 (σ' := (15, [(0, .int 3), (1, .int 0), (2, .int 3)], [.int 1], (px_shX, (px_mI Ic), (px_mJ Jc), (px_mP Pc)))) rfl ?_
    exact px_E_ret rfl rfl) ?_
  refine px_E_seg 4 (σ' := (12, [(0, .ref 95), (1, .int 3), (2, .int a2)], [.int 3, .int 0, .int a2], (px_shX, (px_mI Ic), (px_mJ Jc), (px_mP Pc)))) rfl ?_
  refine px_E_call (j := 183) (as := [.int a2, .int 0, .int 3]) (rest := []) (v := some (.int 1)) (h1 := (px_shX, (px_mI Ic), (px_mJ Jc), (px_mP Pc))) rfl rfl rfl (by
    refine px_E_seg 2 (σ' := (2, [(0, .int a2), (1, .int 0), (2, .int 3)], [.int 0, .int a2], (px_shX, (px_mI Ic), (px_mJ Jc), (px_mP Pc)))) rfl ?_
    refine px_E_icF (t := 14) rfl rfl (show (0 : Int) ≤ a2.toInt by omega) ?_
    refine px_E_seg 2 (σ' := (7, [(0, .int a2), (1, .int 0), (2, .int 3)], [.int 3, .int a2], (px_shX, (px_mI Ic), (px_mJ Jc), (px_mP Pc)))) rfl ?_
    refine px_E_icF (t := 14) rfl rfl (show a2.toInt ≤ (3 : Int) by omega) ?_
    refine px_E_seg 2 (σ' := (15, [(0, .int a2), (1, .int 0), (2, .int 3)], [.int 1], (px_shX, (px_mI Ic), (px_mJ Jc), (px_mP Pc)))) rfl ?_
    exact px_E_ret rfl rfl) ?_
  refine px_E_seg 2 (σ' := (22, [(0, .ref 95), (1, .int 3), (2, .int a2)], [.int a2], (px_shX, (px_mI Ic), (px_mJ Jc), (px_mP Pc)))) rfl ?_
  refine px_E_ifT (t := 31) rfl rfl (show a2.toInt ≠ (0 : Int) by omega) ?_
  refine px_E_seg 2 (σ' := (33, [(0, .ref 95), (1, .int 3), (2, .int a2)], [.int 3, .ref 95], (px_shX, (px_mI Ic), (px_mJ Jc), (px_mP Pc)))) rfl ?_
  refine px_E_call (j := 242) (as := [.ref 95, .int 3]) (rest := []) (v := some (.int 0)) (h1 := (px_shX, (px_mI Ic), (px_mJ Jc), (px_mP Pc))) rfl rfl rfl (by
    refine px_E_seg 5 (σ' := (8, [(0, .ref 95), (1, .int 3)], [.int 3, .int 3, .int 114, .ref 96], (px_shX, (px_mI Ic), (px_mJ Jc), (px_mP Pc)))) rfl ?_
    refine px_E_seg 1 (σ' := (9, [(0, .ref 95), (1, .int 3)], [.int 9, .int 114, .ref 96], (px_shX, (px_mI Ic), (px_mJ Jc), (px_mP Pc)))) rfl ?_
    refine px_E_seg 2 (σ' := (11, [(0, .ref 95), (1, .int 3)], [.int 0], (px_shX, (px_mI Ic), (px_mJ Jc), (px_mP Pc)))) rfl ?_
    exact px_E_ret rfl rfl) ?_
  refine px_E_seg 2 (σ' := (40, [(0, .ref 95), (1, .int 3), (2, .int a2)], [.int (-1)], (px_shX, (px_mI Ic), (px_mJ Jc), (px_mP Pc)))) rfl ?_
  exact px_E_ret rfl rfl
set_option maxRecDepth 100000 in
set_option maxHeartbeats 4000000 in
theorem px_x16_10 {ro : px_RO} {dd : Nat} (a1 a2 : Int32) (ha1 : 0 ≤ a1.toInt ∧ a1.toInt ≤ 3) (ha2 : 4 ≤ a2.toInt ∧ a2.toInt ≤ 2147483647) : px_CX ro (dd + 8) 110 [.ref 0, .int a1, .int a2] (.int (-2)) := by
  refine ⟨px_IX, px_PX, ?_, px_fr_0, px_frP_0⟩
  show px_E ro (dd + 8) 110 (0, _, [], _) _ _
  refine px_E_seg 3 (σ' := (3, [(0, .ref 0), (1, .int a1), (2, .int a2)], [.int 3, .int 0, .int a1], (px_shX, px_IX, px_JX, px_PX))) rfl ?_
  refine px_E_call (j := 15) (as := [.int a1, .int 0, .int 3]) (rest := []) (v := some (.int 1)) (h1 := (px_shX, px_IX, px_JX, px_PX)) rfl rfl rfl (by
    refine px_E_seg 2 (σ' := (2, [(0, .int a1), (1, .int 0), (2, .int 3)], [.int 0, .int a1], (px_shX, px_IX, px_JX, px_PX))) rfl ?_
    refine px_E_icF (t := 14) rfl rfl (show (0 : Int) ≤ a1.toInt by omega) ?_
    refine px_E_seg 2 (σ' := (7, [(0, .int a1), (1, .int 0), (2, .int 3)], [.int 3, .int a1], (px_shX, px_IX, px_JX, px_PX))) rfl ?_
    refine px_E_icF (t := 14) rfl rfl (show a1.toInt ≤ (3 : Int) by omega) ?_
    refine px_E_seg 2 (σ' := (15, [(0, .int a1), (1, .int 0), (2, .int 3)], [.int 1], (px_shX, px_IX, px_JX, px_PX))) rfl ?_
    exact px_E_ret rfl rfl) ?_
  refine px_E_seg 4 (σ' := (12, [(0, .ref 0), (1, .int a1), (2, .int a2)], [.int 3, .int 0, .int a2], (px_shX, px_IX, px_JX, px_PX))) rfl ?_
  refine px_E_call (j := 15) (as := [.int a2, .int 0, .int 3]) (rest := []) (v := some (.int 0)) (h1 := (px_shX, px_IX, px_JX, px_PX)) rfl rfl rfl (by
    refine px_E_seg 2 (σ' := (2, [(0, .int a2), (1, .int 0), (2, .int 3)], [.int 0, .int a2], (px_shX, px_IX, px_JX, px_PX))) rfl ?_
    refine px_E_icF (t := 14) rfl rfl (show (0 : Int) ≤ a2.toInt by omega) ?_
    refine px_E_seg 2 (σ' := (7, [(0, .int a2), (1, .int 0), (2, .int 3)], [.int 3, .int a2], (px_shX, px_IX, px_JX, px_PX))) rfl ?_
    refine px_E_icT (t := 14) rfl rfl (show (3 : Int) < a2.toInt by omega) ?_
    refine px_E_seg 1 (σ' := (15, [(0, .int a2), (1, .int 0), (2, .int 3)], [.int 0], (px_shX, px_IX, px_JX, px_PX))) rfl ?_
    exact px_E_ret rfl rfl) ?_
  refine px_E_seg 2 (σ' := (20, [(0, .ref 0), (1, .int a1), (2, .int a2)], [.int (-2)], (px_shX, px_IX, px_JX, px_PX))) rfl ?_
  exact px_E_ret rfl rfl
set_option maxRecDepth 100000 in
set_option maxHeartbeats 4000000 in
theorem px_r16_10 {ro : px_RO} {dd : Nat} (a1 a2 : Int32) (ha1 : 0 ≤ a1.toInt ∧ a1.toInt ≤ 3) (ha2 : 4 ≤ a2.toInt ∧ a2.toInt ≤ 2147483647) : px_RX ro (dd + 8) 284 [.ref 95, .int a1, .int a2] (.int (-2)) := by
  intro Ic Jc Pc
  refine ⟨(px_shX, (px_mI Ic), (px_mJ Jc), (px_mP Pc)), ?_, rfl⟩
  show px_E ro (dd + 8) 284 (0, _, [], _) _ _
  refine px_E_seg 3 (σ' := (3, [(0, .ref 95), (1, .int a1), (2, .int a2)], [.int 3, .int 0, .int a1], (px_shX, (px_mI Ic), (px_mJ Jc), (px_mP Pc)))) rfl ?_
  refine px_E_call (j := 183) (as := [.int a1, .int 0, .int 3]) (rest := []) (v := some (.int 1)) (h1 := (px_shX, (px_mI Ic), (px_mJ Jc), (px_mP Pc))) rfl rfl rfl (by
    refine px_E_seg 2 (σ' := (2, [(0, .int a1), (1, .int 0), (2, .int 3)], [.int 0, .int a1], (px_shX, (px_mI Ic), (px_mJ Jc), (px_mP Pc)))) rfl ?_
    refine px_E_icF (t := 14) rfl rfl (show (0 : Int) ≤ a1.toInt by omega) ?_
    refine px_E_seg 2 (σ' := (7, [(0, .int a1), (1, .int 0), (2, .int 3)], [.int 3, .int a1], (px_shX, (px_mI Ic), (px_mJ Jc), (px_mP Pc)))) rfl ?_
    refine px_E_icF (t := 14) rfl rfl (show a1.toInt ≤ (3 : Int) by omega) ?_
    refine px_E_seg 2 (σ' := (15, [(0, .int a1), (1, .int 0), (2, .int 3)], [.int 1], (px_shX, (px_mI Ic), (px_mJ Jc), (px_mP Pc)))) rfl ?_
    exact px_E_ret rfl rfl) ?_
  refine px_E_seg 4 (σ' := (12, [(0, .ref 95), (1, .int a1), (2, .int a2)], [.int 3, .int 0, .int a2], (px_shX, (px_mI Ic), (px_mJ Jc), (px_mP Pc)))) rfl ?_
  refine px_E_call (j := 183) (as := [.int a2, .int 0, .int 3]) (rest := []) (v := some (.int 0)) (h1 := (px_shX, (px_mI Ic), (px_mJ Jc), (px_mP Pc))) rfl rfl rfl (by
    refine px_E_seg 2 (σ' := (2, [(0, .int a2), (1, .int 0), (2, .int 3)], [.int 0, .int a2], (px_shX, (px_mI Ic), (px_mJ Jc), (px_mP Pc)))) rfl ?_
    refine px_E_icF (t := 14) rfl rfl (show (0 : Int) ≤ a2.toInt by omega) ?_
    refine px_E_seg 2 (σ' := (7, [(0, .int a2), (1, .int 0), (2, .int 3)], [.int 3, .int a2], (px_shX, (px_mI Ic), (px_mJ Jc), (px_mP Pc)))) rfl ?_
    refine px_E_icT (t := 14) rfl rfl (show (3 : Int) < a2.toInt by omega) ?_
    refine px_E_seg 1 (σ' := (15, [(0, .int a2), (1, .int 0), (2, .int 3)], [.int 0], (px_shX, (px_mI Ic), (px_mJ Jc), (px_mP Pc)))) rfl ?_
    exact px_E_ret rfl rfl) ?_
  refine px_E_seg 2 (σ' := (20, [(0, .ref 95), (1, .int a1), (2, .int a2)], [.int (-2)], (px_shX, (px_mI Ic), (px_mJ Jc), (px_mP Pc)))) rfl ?_
  exact px_E_ret rfl rfl
set_option maxRecDepth 100000 in
set_option maxHeartbeats 4000000 in
theorem px_x16_11 {ro : px_RO} {dd : Nat} (a1 a2 : Int32) (ha1 : 4 ≤ a1.toInt ∧ a1.toInt ≤ 2147483647) (ha2 : (-2147483648) ≤ a2.toInt ∧ a2.toInt ≤ 2147483647) : px_CX ro (dd + 8) 110 [.ref 0, .int a1, .int a2] (.int (-2)) := by
  refine ⟨px_IX, px_PX, ?_, px_fr_0, px_frP_0⟩
  show px_E ro (dd + 8) 110 (0, _, [], _) _ _
  refine px_E_seg 3 (σ' := (3, [(0, .ref 0), (1, .int a1), (2, .int a2)], [.int 3, .int 0, .int a1], (px_shX, px_IX, px_JX, px_PX))) rfl ?_
  refine px_E_call (j := 15) (as := [.int a1, .int 0, .int 3]) (rest := []) (v := some (.int 0)) (h1 := (px_shX, px_IX, px_JX, px_PX)) rfl rfl rfl (by
    refine px_E_seg 2 (σ' := (2, [(0, .int a1), (1, .int 0), (2, .int 3)], [.int 0, .int a1], (px_shX, px_IX, px_JX, px_PX))) rfl ?_
    refine px_E_icF (t := 14) rfl rfl (show (0 : Int) ≤ a1.toInt by omega) ?_
    refine px_E_seg 2 (σ' := (7, [(0, .int a1), (1, .int 0), (2, .int 3)], [.int 3, .int a1], (px_shX, px_IX, px_JX, px_PX))) rfl ?_
    refine px_E_icT (t := 14) rfl rfl (show (3 : Int) < a1.toInt by omega) ?_
    refine px_E_seg 1 (σ' := (15, [(0, .int a1), (1, .int 0), (2, .int 3)], [.int 0], (px_shX, px_IX, px_JX, px_PX))) rfl ?_
    exact px_E_ret rfl rfl) ?_
  refine px_E_seg 2 (σ' := (20, [(0, .ref 0), (1, .int a1), (2, .int a2)], [.int (-2)], (px_shX, px_IX, px_JX, px_PX))) rfl ?_
  exact px_E_ret rfl rfl
set_option maxRecDepth 100000 in
set_option maxHeartbeats 4000000 in
theorem px_r16_11 {ro : px_RO} {dd : Nat} (a1 a2 : Int32) (ha1 : 4 ≤ a1.toInt ∧ a1.toInt ≤ 2147483647) (ha2 : (-2147483648) ≤ a2.toInt ∧ a2.toInt ≤ 2147483647) : px_RX ro (dd + 8) 284 [.ref 95, .int a1, .int a2] (.int (-2)) := by
  intro Ic Jc Pc
  refine ⟨(px_shX, (px_mI Ic), (px_mJ Jc), (px_mP Pc)), ?_, rfl⟩
  show px_E ro (dd + 8) 284 (0, _, [], _) _ _
  refine px_E_seg 3 (σ' := (3, [(0, .ref 95), (1, .int a1), (2, .int a2)], [.int 3, .int 0, .int a1], (px_shX, (px_mI Ic), (px_mJ Jc), (px_mP Pc)))) rfl ?_
  refine px_E_call (j := 183) (as := [.int a1, .int 0, .int 3]) (rest := []) (v := some (.int 0)) (h1 := (px_shX, (px_mI Ic), (px_mJ Jc), (px_mP Pc))) rfl rfl rfl (by
    refine px_E_seg 2 (σ' := (2, [(0, .int a1), (1, .int 0), (2, .int 3)], [.int 0, .int a1], (px_shX, (px_mI Ic), (px_mJ Jc), (px_mP Pc)))) rfl ?_
    refine px_E_icF (t := 14) rfl rfl (show (0 : Int) ≤ a1.toInt by omega) ?_
    refine px_E_seg 2 (σ' := (7, [(0, .int a1), (1, .int 0), (2, .int 3)], [.int 3, .int a1], (px_shX, (px_mI Ic), (px_mJ Jc), (px_mP Pc)))) rfl ?_
    refine px_E_icT (t := 14) rfl rfl (show (3 : Int) < a1.toInt by omega) ?_
    refine px_E_seg 1 (σ' := (15, [(0, .int a1), (1, .int 0), (2, .int 3)], [.int 0], (px_shX, (px_mI Ic), (px_mJ Jc), (px_mP Pc)))) rfl ?_
    exact px_E_ret rfl rfl) ?_
  refine px_E_seg 2 (σ' := (20, [(0, .ref 95), (1, .int a1), (2, .int a2)], [.int (-2)], (px_shX, (px_mI Ic), (px_mJ Jc), (px_mP Pc)))) rfl ?_
  exact px_E_ret rfl rfl
set_option maxRecDepth 100000 in
set_option maxHeartbeats 4000000 in
theorem px_x17_0 {ro : px_RO} {dd : Nat} (a1 a2 : Int32) (ha1 : (-2147483648) ≤ a1.toInt ∧ a1.toInt ≤ (-1)) (ha2 : (-2147483648) ≤ a2.toInt ∧ a2.toInt ≤ 2147483647) : px_CX ro (dd + 8) 111 [.ref 0, .int a1, .int a2] (.int (-2)) := by
  refine ⟨px_IX, px_PX, ?_, px_fr_0, px_frP_0⟩
  show px_E ro (dd + 8) 111 (0, _, [], _) _ _
  refine px_E_seg 3 (σ' := (5, [(0, .ref 0), (1, .int a1), (2, .int a2)], [.int a1, .ref 1], (px_shX, px_IX, px_JX, px_PX))) rfl ?_
  refine px_E_call (j := 99) (as := [.ref 1, .int a1]) (rest := []) (v := some (.int 0)) (h1 := (px_shX, px_IX, px_JX, px_PX)) rfl rfl rfl (by
    refine px_E_seg 1 (σ' := (1, [(0, .ref 1), (1, .int a1)], [.int a1], (px_shX, px_IX, px_JX, px_PX))) rfl ?_
    refine px_E_ifT (t := 16) rfl rfl (show a1.toInt < (0 : Int) by omega) ?_
    refine px_E_seg 1 (σ' := (17, [(0, .ref 1), (1, .int a1)], [.int 0], (px_shX, px_IX, px_JX, px_PX))) rfl ?_
    exact px_E_ret rfl rfl) ?_
  refine px_E_seg 2 (σ' := (13, [(0, .ref 0), (1, .int a1), (2, .int a2)], [.int (-2)], (px_shX, px_IX, px_JX, px_PX))) rfl ?_
  exact px_E_ret rfl rfl
set_option maxRecDepth 100000 in
set_option maxHeartbeats 4000000 in
theorem px_r17_0 {ro : px_RO} {dd : Nat} (a1 a2 : Int32) (ha1 : (-2147483648) ≤ a1.toInt ∧ a1.toInt ≤ (-1)) (ha2 : (-2147483648) ≤ a2.toInt ∧ a2.toInt ≤ 2147483647) : px_RX ro (dd + 8) 285 [.ref 95, .int a1, .int a2] (.int (-2)) := by
  intro Ic Jc Pc
  refine ⟨(px_shX, (px_mI Ic), (px_mJ Jc), (px_mP Pc)), ?_, rfl⟩
  show px_E ro (dd + 8) 285 (0, _, [], _) _ _
  refine px_E_seg 2 (σ' := (2, [(0, .ref 95), (1, .int a1), (2, .int a2)], [.int a1, .ref 95], (px_shX, (px_mI Ic), (px_mJ Jc), (px_mP Pc)))) rfl ?_
  refine px_E_call (j := 249) (as := [.ref 95, .int a1]) (rest := []) (v := some (.int 0)) (h1 := (px_shX, (px_mI Ic), (px_mJ Jc), (px_mP Pc))) rfl rfl rfl (by
    refine px_E_seg 6 (σ' := (8, [(0, .ref 95), (1, .int a1)], [.int 0, .int 0, .int a1], (px_shX, (px_mI Ic), (px_mJ Jc), (px_mP Pc)))) rfl ?_
    refine px_E_seg 1 (σ' := (9, [(0, .ref 95), (1, .int a1)], [.int 1, .int 0, .int 0, .int a1], (px_shX, (px_mI Ic), (px_mJ Jc), (px_mP Pc)))) rfl ?_
    refine px_E_seg 1 (σ' := (10, [(0, .ref 95), (1, .int a1)], [.int (-1), .int 0, .int a1], (px_shX, (px_mI Ic), (px_mJ Jc), (px_mP Pc)))) rfl ?_
    refine px_E_call (j := 183) (as := [.int a1, .int 0, .int (-1)]) (rest := []) (v := some (.int 0)) (h1 := (px_shX, (px_mI Ic), (px_mJ Jc), (px_mP Pc))) rfl rfl rfl (by
      refine px_E_seg 2 (σ' := (2, [(0, .int a1), (1, .int 0), (2, .int (-1))], [.int 0, .int a1], (px_shX, (px_mI Ic), (px_mJ Jc), (px_mP Pc)))) rfl ?_
      refine px_E_icT (t := 14) rfl rfl (show a1.toInt < (0 : Int) by omega) ?_
      refine px_E_seg 1 (σ' := (15, [(0, .int a1), (1, .int 0), (2, .int (-1))], [.int 0], (px_shX, (px_mI Ic), (px_mJ Jc), (px_mP Pc)))) rfl ?_
      exact px_E_ret rfl rfl) ?_
    exact px_E_ret rfl rfl) ?_
  refine px_E_seg 2 (σ' := (28, [(0, .ref 95), (1, .int a1), (2, .int a2)], [.int (-2)], (px_shX, (px_mI Ic), (px_mJ Jc), (px_mP Pc)))) rfl ?_
  exact px_E_ret rfl rfl
set_option maxRecDepth 100000 in
set_option maxHeartbeats 4000000 in
theorem px_x17_1 {ro : px_RO} {dd : Nat} (a1 a2 : Int32) (ha1 : 0 ≤ a1.toInt ∧ a1.toInt ≤ 2147483647) (ha2 : (-2147483648) ≤ a2.toInt ∧ a2.toInt ≤ 2147483647) : px_CX ro (dd + 8) 111 [.ref 0, .int a1, .int a2] (.int (-2)) := by
  refine ⟨px_IX, px_PX, ?_, px_fr_0, px_frP_0⟩
  show px_E ro (dd + 8) 111 (0, _, [], _) _ _
  refine px_E_seg 3 (σ' := (5, [(0, .ref 0), (1, .int a1), (2, .int a2)], [.int a1, .ref 1], (px_shX, px_IX, px_JX, px_PX))) rfl ?_
  refine px_E_call (j := 99) (as := [.ref 1, .int a1]) (rest := []) (v := some (.int 0)) (h1 := (px_shX, px_IX, px_JX, px_PX)) rfl rfl rfl (by
    refine px_E_seg 1 (σ' := (1, [(0, .ref 1), (1, .int a1)], [.int a1], (px_shX, px_IX, px_JX, px_PX))) rfl ?_
    refine px_E_ifF (t := 16) rfl rfl (show (0 : Int) ≤ a1.toInt by omega) ?_
    refine px_E_seg 3 (σ' := (9, [(0, .ref 1), (1, .int a1)], [.int 0, .int a1], (px_shX, px_IX, px_JX, px_PX))) rfl ?_
    refine px_E_icT (t := 16) rfl rfl (show (0 : Int) ≤ a1.toInt by omega) ?_
    refine px_E_seg 1 (σ' := (17, [(0, .ref 1), (1, .int a1)], [.int 0], (px_shX, px_IX, px_JX, px_PX))) rfl ?_
    exact px_E_ret rfl rfl) ?_
  refine px_E_seg 2 (σ' := (13, [(0, .ref 0), (1, .int a1), (2, .int a2)], [.int (-2)], (px_shX, px_IX, px_JX, px_PX))) rfl ?_
  exact px_E_ret rfl rfl
set_option maxRecDepth 100000 in
set_option maxHeartbeats 4000000 in
theorem px_r17_1 {ro : px_RO} {dd : Nat} (a1 a2 : Int32) (ha1 : 0 ≤ a1.toInt ∧ a1.toInt ≤ 2147483647) (ha2 : (-2147483648) ≤ a2.toInt ∧ a2.toInt ≤ 2147483647) : px_RX ro (dd + 8) 285 [.ref 95, .int a1, .int a2] (.int (-2)) := by
  intro Ic Jc Pc
  refine ⟨(px_shX, (px_mI Ic), (px_mJ Jc), (px_mP Pc)), ?_, rfl⟩
  show px_E ro (dd + 8) 285 (0, _, [], _) _ _
  refine px_E_seg 2 (σ' := (2, [(0, .ref 95), (1, .int a1), (2, .int a2)], [.int a1, .ref 95], (px_shX, (px_mI Ic), (px_mJ Jc), (px_mP Pc)))) rfl ?_
  refine px_E_call (j := 249) (as := [.ref 95, .int a1]) (rest := []) (v := some (.int 0)) (h1 := (px_shX, (px_mI Ic), (px_mJ Jc), (px_mP Pc))) rfl rfl rfl (by
    refine px_E_seg 6 (σ' := (8, [(0, .ref 95), (1, .int a1)], [.int 0, .int 0, .int a1], (px_shX, (px_mI Ic), (px_mJ Jc), (px_mP Pc)))) rfl ?_
    refine px_E_seg 1 (σ' := (9, [(0, .ref 95), (1, .int a1)], [.int 1, .int 0, .int 0, .int a1], (px_shX, (px_mI Ic), (px_mJ Jc), (px_mP Pc)))) rfl ?_
    refine px_E_seg 1 (σ' := (10, [(0, .ref 95), (1, .int a1)], [.int (-1), .int 0, .int a1], (px_shX, (px_mI Ic), (px_mJ Jc), (px_mP Pc)))) rfl ?_
    refine px_E_call (j := 183) (as := [.int a1, .int 0, .int (-1)]) (rest := []) (v := some (.int 0)) (h1 := (px_shX, (px_mI Ic), (px_mJ Jc), (px_mP Pc))) rfl rfl rfl (by
      refine px_E_seg 2 (σ' := (2, [(0, .int a1), (1, .int 0), (2, .int (-1))], [.int 0, .int a1], (px_shX, (px_mI Ic), (px_mJ Jc), (px_mP Pc)))) rfl ?_
      refine px_E_icF (t := 14) rfl rfl (show (0 : Int) ≤ a1.toInt by omega) ?_
      refine px_E_seg 2 (σ' := (7, [(0, .int a1), (1, .int 0), (2, .int (-1))], [.int (-1), .int a1], (px_shX, (px_mI Ic), (px_mJ Jc), (px_mP Pc)))) rfl ?_
      refine px_E_icT (t := 14) rfl rfl (show (-1 : Int) < a1.toInt by omega) ?_
      refine px_E_seg 1 (σ' := (15, [(0, .int a1), (1, .int 0), (2, .int (-1))], [.int 0], (px_shX, (px_mI Ic), (px_mJ Jc), (px_mP Pc)))) rfl ?_
      exact px_E_ret rfl rfl) ?_
    exact px_E_ret rfl rfl) ?_
  refine px_E_seg 2 (σ' := (28, [(0, .ref 95), (1, .int a1), (2, .int a2)], [.int (-2)], (px_shX, (px_mI Ic), (px_mJ Jc), (px_mP Pc)))) rfl ?_
  exact px_E_ret rfl rfl
set_option maxRecDepth 100000 in
set_option maxHeartbeats 4000000 in
theorem px_x18_0 {ro : px_RO} {dd : Nat} (a1 a2 : Int32) (ha1 : (-2147483648) ≤ a1.toInt ∧ a1.toInt ≤ (-1)) (ha2 : (-2147483648) ≤ a2.toInt ∧ a2.toInt ≤ 2147483647) : px_CX ro (dd + 8) 112 [.ref 0, .int a1, .int a2] (.int (-1)) := by
  refine ⟨px_IX, px_PX, ?_, px_fr_0, px_frP_0⟩
  show px_E ro (dd + 8) 112 (0, _, [], _) _ _
  refine px_E_seg 3 (σ' := (5, [(0, .ref 0), (1, .int a1), (2, .int a2)], [.int a1, .ref 1], (px_shX, px_IX, px_JX, px_PX))) rfl ?_
  refine px_E_call (j := 18) (as := [.ref 1, .int a1]) (rest := []) (v := some (.int 0)) (h1 := (px_shX, px_IX, px_JX, px_PX)) rfl rfl rfl (by
    refine px_E_seg 1 (σ' := (1, [(0, .ref 1), (1, .int a1)], [.int a1], (px_shX, px_IX, px_JX, px_PX))) rfl ?_
    refine px_E_ifT (t := 16) rfl rfl (show a1.toInt < (0 : Int) by omega) ?_
    refine px_E_seg 1 (σ' := (17, [(0, .ref 1), (1, .int a1)], [.int 0], (px_shX, px_IX, px_JX, px_PX))) rfl ?_
    exact px_E_ret rfl rfl) ?_
  refine px_E_seg 2 (σ' := (12, [(0, .ref 0), (1, .int a1), (2, .int a2)], [.int (-1)], (px_shX, px_IX, px_JX, px_PX))) rfl ?_
  exact px_E_ret rfl rfl
set_option maxRecDepth 100000 in
set_option maxHeartbeats 4000000 in
theorem px_r18_0 {ro : px_RO} {dd : Nat} (a1 a2 : Int32) (ha1 : (-2147483648) ≤ a1.toInt ∧ a1.toInt ≤ (-1)) (ha2 : (-2147483648) ≤ a2.toInt ∧ a2.toInt ≤ 2147483647) : px_RX ro (dd + 8) 286 [.ref 95, .int a1, .int a2] (.int (-1)) := by
  intro Ic Jc Pc
  refine ⟨(px_shX, (px_mI Ic), (px_mJ Jc), (px_mP Pc)), ?_, rfl⟩
  show px_E ro (dd + 8) 286 (0, _, [], _) _ _
  refine px_E_seg 2 (σ' := (2, [(0, .ref 95), (1, .int a1), (2, .int a2)], [.int a1, .ref 95], (px_shX, (px_mI Ic), (px_mJ Jc), (px_mP Pc)))) rfl ?_
  refine px_E_call (j := 185) (as := [.ref 95, .int a1]) (rest := []) (v := some (.int 0)) (h1 := (px_shX, (px_mI Ic), (px_mJ Jc), (px_mP Pc))) rfl rfl rfl (by
    refine px_E_seg 6 (σ' := (8, [(0, .ref 95), (1, .int a1)], [.int 0, .int 0, .int a1], (px_shX, (px_mI Ic), (px_mJ Jc), (px_mP Pc)))) rfl ?_
    refine px_E_seg 1 (σ' := (9, [(0, .ref 95), (1, .int a1)], [.int 1, .int 0, .int 0, .int a1], (px_shX, (px_mI Ic), (px_mJ Jc), (px_mP Pc)))) rfl ?_
    refine px_E_seg 1 (σ' := (10, [(0, .ref 95), (1, .int a1)], [.int (-1), .int 0, .int a1], (px_shX, (px_mI Ic), (px_mJ Jc), (px_mP Pc)))) rfl ?_
    refine px_E_call (j := 183) (as := [.int a1, .int 0, .int (-1)]) (rest := []) (v := some (.int 0)) (h1 := (px_shX, (px_mI Ic), (px_mJ Jc), (px_mP Pc))) rfl rfl rfl (by
      refine px_E_seg 2 (σ' := (2, [(0, .int a1), (1, .int 0), (2, .int (-1))], [.int 0, .int a1], (px_shX, (px_mI Ic), (px_mJ Jc), (px_mP Pc)))) rfl ?_
      refine px_E_icT (t := 14) rfl rfl (show a1.toInt < (0 : Int) by omega) ?_
      refine px_E_seg 1 (σ' := (15, [(0, .int a1), (1, .int 0), (2, .int (-1))], [.int 0], (px_shX, (px_mI Ic), (px_mJ Jc), (px_mP Pc)))) rfl ?_
      exact px_E_ret rfl rfl) ?_
    exact px_E_ret rfl rfl) ?_
  refine px_E_seg 2 (σ' := (18, [(0, .ref 95), (1, .int a1), (2, .int a2)], [.int (-1)], (px_shX, (px_mI Ic), (px_mJ Jc), (px_mP Pc)))) rfl ?_
  exact px_E_ret rfl rfl
set_option maxRecDepth 100000 in
set_option maxHeartbeats 4000000 in
theorem px_x18_1 {ro : px_RO} {dd : Nat} (a1 a2 : Int32) (ha1 : 0 ≤ a1.toInt ∧ a1.toInt ≤ 2147483647) (ha2 : (-2147483648) ≤ a2.toInt ∧ a2.toInt ≤ 2147483647) : px_CX ro (dd + 8) 112 [.ref 0, .int a1, .int a2] (.int (-1)) := by
  refine ⟨px_IX, px_PX, ?_, px_fr_0, px_frP_0⟩
  show px_E ro (dd + 8) 112 (0, _, [], _) _ _
  refine px_E_seg 3 (σ' := (5, [(0, .ref 0), (1, .int a1), (2, .int a2)], [.int a1, .ref 1], (px_shX, px_IX, px_JX, px_PX))) rfl ?_
  refine px_E_call (j := 18) (as := [.ref 1, .int a1]) (rest := []) (v := some (.int 0)) (h1 := (px_shX, px_IX, px_JX, px_PX)) rfl rfl rfl (by
    refine px_E_seg 1 (σ' := (1, [(0, .ref 1), (1, .int a1)], [.int a1], (px_shX, px_IX, px_JX, px_PX))) rfl ?_
    refine px_E_ifF (t := 16) rfl rfl (show (0 : Int) ≤ a1.toInt by omega) ?_
    refine px_E_seg 3 (σ' := (9, [(0, .ref 1), (1, .int a1)], [.int 0, .int a1], (px_shX, px_IX, px_JX, px_PX))) rfl ?_
    refine px_E_icT (t := 16) rfl rfl (show (0 : Int) ≤ a1.toInt by omega) ?_
    refine px_E_seg 1 (σ' := (17, [(0, .ref 1), (1, .int a1)], [.int 0], (px_shX, px_IX, px_JX, px_PX))) rfl ?_
    exact px_E_ret rfl rfl) ?_
  refine px_E_seg 2 (σ' := (12, [(0, .ref 0), (1, .int a1), (2, .int a2)], [.int (-1)], (px_shX, px_IX, px_JX, px_PX))) rfl ?_
  exact px_E_ret rfl rfl
set_option maxRecDepth 100000 in
set_option maxHeartbeats 4000000 in
theorem px_r18_1 {ro : px_RO} {dd : Nat} (a1 a2 : Int32) (ha1 : 0 ≤ a1.toInt ∧ a1.toInt ≤ 2147483647) (ha2 : (-2147483648) ≤ a2.toInt ∧ a2.toInt ≤ 2147483647) : px_RX ro (dd + 8) 286 [.ref 95, .int a1, .int a2] (.int (-1)) := by
  intro Ic Jc Pc
  refine ⟨(px_shX, (px_mI Ic), (px_mJ Jc), (px_mP Pc)), ?_, rfl⟩
  show px_E ro (dd + 8) 286 (0, _, [], _) _ _
  refine px_E_seg 2 (σ' := (2, [(0, .ref 95), (1, .int a1), (2, .int a2)], [.int a1, .ref 95], (px_shX, (px_mI Ic), (px_mJ Jc), (px_mP Pc)))) rfl ?_
  refine px_E_call (j := 185) (as := [.ref 95, .int a1]) (rest := []) (v := some (.int 0)) (h1 := (px_shX, (px_mI Ic), (px_mJ Jc), (px_mP Pc))) rfl rfl rfl (by
    refine px_E_seg 6 (σ' := (8, [(0, .ref 95), (1, .int a1)], [.int 0, .int 0, .int a1], (px_shX, (px_mI Ic), (px_mJ Jc), (px_mP Pc)))) rfl ?_
    refine px_E_seg 1 (σ' := (9, [(0, .ref 95), (1, .int a1)], [.int 1, .int 0, .int 0, .int a1], (px_shX, (px_mI Ic), (px_mJ Jc), (px_mP Pc)))) rfl ?_
    refine px_E_seg 1 (σ' := (10, [(0, .ref 95), (1, .int a1)], [.int (-1), .int 0, .int a1], (px_shX, (px_mI Ic), (px_mJ Jc), (px_mP Pc)))) rfl ?_
    refine px_E_call (j := 183) (as := [.int a1, .int 0, .int (-1)]) (rest := []) (v := some (.int 0)) (h1 := (px_shX, (px_mI Ic), (px_mJ Jc), (px_mP Pc))) rfl rfl rfl (by
      refine px_E_seg 2 (σ' := (2, [(0, .int a1), (1, .int 0), (2, .int (-1))], [.int 0, .int a1], (px_shX, (px_mI Ic), (px_mJ Jc), (px_mP Pc)))) rfl ?_
      refine px_E_icF (t := 14) rfl rfl (show (0 : Int) ≤ a1.toInt by omega) ?_
      refine px_E_seg 2 (σ' := (7, [(0, .int a1), (1, .int 0), (2, .int (-1))], [.int (-1), .int a1], (px_shX, (px_mI Ic), (px_mJ Jc), (px_mP Pc)))) rfl ?_
      refine px_E_icT (t := 14) rfl rfl (show (-1 : Int) < a1.toInt by omega) ?_
      refine px_E_seg 1 (σ' := (15, [(0, .int a1), (1, .int 0), (2, .int (-1))], [.int 0], (px_shX, (px_mI Ic), (px_mJ Jc), (px_mP Pc)))) rfl ?_
      exact px_E_ret rfl rfl) ?_
    exact px_E_ret rfl rfl) ?_
  refine px_E_seg 2 (σ' := (18, [(0, .ref 95), (1, .int a1), (2, .int a2)], [.int (-1)], (px_shX, (px_mI Ic), (px_mJ Jc), (px_mP Pc)))) rfl ?_
  exact px_E_ret rfl rfl
set_option maxRecDepth 100000 in
set_option maxHeartbeats 4000000 in
theorem px_x19_0 {ro : px_RO} {dd : Nat} (a1 a2 : Int32) (ha1 : (-2147483648) ≤ a1.toInt ∧ a1.toInt ≤ (-1)) (ha2 : (-2147483648) ≤ a2.toInt ∧ a2.toInt ≤ 2147483647) : px_CX ro (dd + 8) 114 [.ref 0, .int a1, .int a2] (.int (-1)) := by
  refine ⟨px_IX, px_PX, ?_, px_fr_0, px_frP_0⟩
  show px_E ro (dd + 8) 114 (0, _, [], _) _ _
  refine px_E_seg 3 (σ' := (5, [(0, .ref 0), (1, .int a1), (2, .int a2)], [.int a1, .ref 1], (px_shX, px_IX, px_JX, px_PX))) rfl ?_
  refine px_E_call (j := 79) (as := [.ref 1, .int a1]) (rest := []) (v := some (.int 0)) (h1 := (px_shX, px_IX, px_JX, px_PX)) rfl rfl rfl (by
    refine px_E_seg 1 (σ' := (1, [(0, .ref 1), (1, .int a1)], [.int a1], (px_shX, px_IX, px_JX, px_PX))) rfl ?_
    refine px_E_ifT (t := 16) rfl rfl (show a1.toInt < (0 : Int) by omega) ?_
    refine px_E_seg 1 (σ' := (17, [(0, .ref 1), (1, .int a1)], [.int 0], (px_shX, px_IX, px_JX, px_PX))) rfl ?_
    exact px_E_ret rfl rfl) ?_
  refine px_E_seg 2 (σ' := (12, [(0, .ref 0), (1, .int a1), (2, .int a2)], [.int (-1)], (px_shX, px_IX, px_JX, px_PX))) rfl ?_
  exact px_E_ret rfl rfl
set_option maxRecDepth 100000 in
set_option maxHeartbeats 4000000 in
theorem px_r19_0 {ro : px_RO} {dd : Nat} (a1 a2 : Int32) (ha1 : (-2147483648) ≤ a1.toInt ∧ a1.toInt ≤ (-1)) (ha2 : (-2147483648) ≤ a2.toInt ∧ a2.toInt ≤ 2147483647) : px_RX ro (dd + 8) 287 [.ref 95, .int a1, .int a2] (.int (-1)) := by
  intro Ic Jc Pc
  refine ⟨(px_shX, (px_mI Ic), (px_mJ Jc), (px_mP Pc)), ?_, rfl⟩
  show px_E ro (dd + 8) 287 (0, _, [], _) _ _
  refine px_E_seg 2 (σ' := (2, [(0, .ref 95), (1, .int a1), (2, .int a2)], [.int a1, .ref 95], (px_shX, (px_mI Ic), (px_mJ Jc), (px_mP Pc)))) rfl ?_
  refine px_E_call (j := 251) (as := [.ref 95, .int a1]) (rest := []) (v := some (.int 0)) (h1 := (px_shX, (px_mI Ic), (px_mJ Jc), (px_mP Pc))) rfl rfl rfl (by
    refine px_E_seg 6 (σ' := (8, [(0, .ref 95), (1, .int a1)], [.int 0, .int 0, .int a1], (px_shX, (px_mI Ic), (px_mJ Jc), (px_mP Pc)))) rfl ?_
    refine px_E_seg 1 (σ' := (9, [(0, .ref 95), (1, .int a1)], [.int 1, .int 0, .int 0, .int a1], (px_shX, (px_mI Ic), (px_mJ Jc), (px_mP Pc)))) rfl ?_
    refine px_E_seg 1 (σ' := (10, [(0, .ref 95), (1, .int a1)], [.int (-1), .int 0, .int a1], (px_shX, (px_mI Ic), (px_mJ Jc), (px_mP Pc)))) rfl ?_
    refine px_E_call (j := 183) (as := [.int a1, .int 0, .int (-1)]) (rest := []) (v := some (.int 0)) (h1 := (px_shX, (px_mI Ic), (px_mJ Jc), (px_mP Pc))) rfl rfl rfl (by
      refine px_E_seg 2 (σ' := (2, [(0, .int a1), (1, .int 0), (2, .int (-1))], [.int 0, .int a1], (px_shX, (px_mI Ic), (px_mJ Jc), (px_mP Pc)))) rfl ?_
      refine px_E_icT (t := 14) rfl rfl (show a1.toInt < (0 : Int) by omega) ?_
      refine px_E_seg 1 (σ' := (15, [(0, .int a1), (1, .int 0), (2, .int (-1))], [.int 0], (px_shX, (px_mI Ic), (px_mJ Jc), (px_mP Pc)))) rfl ?_
      exact px_E_ret rfl rfl) ?_
    exact px_E_ret rfl rfl) ?_
  refine px_E_seg 2 (σ' := (34, [(0, .ref 95), (1, .int a1), (2, .int a2)], [.int (-1)], (px_shX, (px_mI Ic), (px_mJ Jc), (px_mP Pc)))) rfl ?_
  exact px_E_ret rfl rfl
set_option maxRecDepth 100000 in
set_option maxHeartbeats 4000000 in
theorem px_x19_1 {ro : px_RO} {dd : Nat} (a1 a2 : Int32) (ha1 : 0 ≤ a1.toInt ∧ a1.toInt ≤ 2147483647) (ha2 : (-2147483648) ≤ a2.toInt ∧ a2.toInt ≤ 2147483647) : px_CX ro (dd + 8) 114 [.ref 0, .int a1, .int a2] (.int (-1)) := by
  refine ⟨px_IX, px_PX, ?_, px_fr_0, px_frP_0⟩
  show px_E ro (dd + 8) 114 (0, _, [], _) _ _
  refine px_E_seg 3 (σ' := (5, [(0, .ref 0), (1, .int a1), (2, .int a2)], [.int a1, .ref 1], (px_shX, px_IX, px_JX, px_PX))) rfl ?_
  refine px_E_call (j := 79) (as := [.ref 1, .int a1]) (rest := []) (v := some (.int 0)) (h1 := (px_shX, px_IX, px_JX, px_PX)) rfl rfl rfl (by
    refine px_E_seg 1 (σ' := (1, [(0, .ref 1), (1, .int a1)], [.int a1], (px_shX, px_IX, px_JX, px_PX))) rfl ?_
    refine px_E_ifF (t := 16) rfl rfl (show (0 : Int) ≤ a1.toInt by omega) ?_
    refine px_E_seg 3 (σ' := (9, [(0, .ref 1), (1, .int a1)], [.int 0, .int a1], (px_shX, px_IX, px_JX, px_PX))) rfl ?_
    refine px_E_icT (t := 16) rfl rfl (show (0 : Int) ≤ a1.toInt by omega) ?_
    refine px_E_seg 1 (σ' := (17, [(0, .ref 1), (1, .int a1)], [.int 0], (px_shX, px_IX, px_JX, px_PX))) rfl ?_
    exact px_E_ret rfl rfl) ?_
  refine px_E_seg 2 (σ' := (12, [(0, .ref 0), (1, .int a1), (2, .int a2)], [.int (-1)], (px_shX, px_IX, px_JX, px_PX))) rfl ?_
  exact px_E_ret rfl rfl
set_option maxRecDepth 100000 in
set_option maxHeartbeats 4000000 in
theorem px_r19_1 {ro : px_RO} {dd : Nat} (a1 a2 : Int32) (ha1 : 0 ≤ a1.toInt ∧ a1.toInt ≤ 2147483647) (ha2 : (-2147483648) ≤ a2.toInt ∧ a2.toInt ≤ 2147483647) : px_RX ro (dd + 8) 287 [.ref 95, .int a1, .int a2] (.int (-1)) := by
  intro Ic Jc Pc
  refine ⟨(px_shX, (px_mI Ic), (px_mJ Jc), (px_mP Pc)), ?_, rfl⟩
  show px_E ro (dd + 8) 287 (0, _, [], _) _ _
  refine px_E_seg 2 (σ' := (2, [(0, .ref 95), (1, .int a1), (2, .int a2)], [.int a1, .ref 95], (px_shX, (px_mI Ic), (px_mJ Jc), (px_mP Pc)))) rfl ?_
  refine px_E_call (j := 251) (as := [.ref 95, .int a1]) (rest := []) (v := some (.int 0)) (h1 := (px_shX, (px_mI Ic), (px_mJ Jc), (px_mP Pc))) rfl rfl rfl (by
    refine px_E_seg 6 (σ' := (8, [(0, .ref 95), (1, .int a1)], [.int 0, .int 0, .int a1], (px_shX, (px_mI Ic), (px_mJ Jc), (px_mP Pc)))) rfl ?_
    refine px_E_seg 1 (σ' := (9, [(0, .ref 95), (1, .int a1)], [.int 1, .int 0, .int 0, .int a1], (px_shX, (px_mI Ic), (px_mJ Jc), (px_mP Pc)))) rfl ?_
    refine px_E_seg 1 (σ' := (10, [(0, .ref 95), (1, .int a1)], [.int (-1), .int 0, .int a1], (px_shX, (px_mI Ic), (px_mJ Jc), (px_mP Pc)))) rfl ?_
    refine px_E_call (j := 183) (as := [.int a1, .int 0, .int (-1)]) (rest := []) (v := some (.int 0)) (h1 := (px_shX, (px_mI Ic), (px_mJ Jc), (px_mP Pc))) rfl rfl rfl (by
      refine px_E_seg 2 (σ' := (2, [(0, .int a1), (1, .int 0), (2, .int (-1))], [.int 0, .int a1], (px_shX, (px_mI Ic), (px_mJ Jc), (px_mP Pc)))) rfl ?_
      refine px_E_icF (t := 14) rfl rfl (show (0 : Int) ≤ a1.toInt by omega) ?_
      refine px_E_seg 2 (σ' := (7, [(0, .int a1), (1, .int 0), (2, .int (-1))], [.int (-1), .int a1], (px_shX, (px_mI Ic), (px_mJ Jc), (px_mP Pc)))) rfl ?_
      refine px_E_icT (t := 14) rfl rfl (show (-1 : Int) < a1.toInt by omega) ?_
      refine px_E_seg 1 (σ' := (15, [(0, .int a1), (1, .int 0), (2, .int (-1))], [.int 0], (px_shX, (px_mI Ic), (px_mJ Jc), (px_mP Pc)))) rfl ?_
      exact px_E_ret rfl rfl) ?_
    exact px_E_ret rfl rfl) ?_
  refine px_E_seg 2 (σ' := (34, [(0, .ref 95), (1, .int a1), (2, .int a2)], [.int (-1)], (px_shX, (px_mI Ic), (px_mJ Jc), (px_mP Pc)))) rfl ?_
  exact px_E_ret rfl rfl
set_option maxRecDepth 100000 in
set_option maxHeartbeats 4000000 in
theorem px_x20_0 {ro : px_RO} {dd : Nat} (a1 a2 : Int32) (ha1 : (-2147483648) ≤ a1.toInt ∧ a1.toInt ≤ (-1)) (ha2 : (-2147483648) ≤ a2.toInt ∧ a2.toInt ≤ 2147483647) : px_CX ro (dd + 8) 115 [.ref 0, .int a1, .int a2] (.int (-1)) := by
  refine ⟨px_IX, px_PX, ?_, px_fr_0, px_frP_0⟩
  show px_E ro (dd + 8) 115 (0, _, [], _) _ _
  refine px_E_seg 3 (σ' := (5, [(0, .ref 0), (1, .int a1), (2, .int a2)], [.int a1, .ref 15], (px_shX, px_IX, px_JX, px_PX))) rfl ?_
  refine px_E_call (j := 80) (as := [.ref 15, .int a1]) (rest := []) (v := some (.int 0)) (h1 := (px_shX, px_IX, px_JX, px_PX)) rfl rfl rfl (by
    refine px_E_seg 1 (σ' := (1, [(0, .ref 15), (1, .int a1)], [.int a1], (px_shX, px_IX, px_JX, px_PX))) rfl ?_
    refine px_E_ifT (t := 22) rfl rfl (show a1.toInt < (0 : Int) by omega) ?_
    refine px_E_seg 1 (σ' := (23, [(0, .ref 15), (1, .int a1)], [.int 0], (px_shX, px_IX, px_JX, px_PX))) rfl ?_
    exact px_E_ret rfl rfl) ?_
  refine px_E_seg 2 (σ' := (23, [(0, .ref 0), (1, .int a1), (2, .int a2)], [.int (-1)], (px_shX, px_IX, px_JX, px_PX))) rfl ?_
  exact px_E_ret rfl rfl
set_option maxRecDepth 100000 in
set_option maxHeartbeats 4000000 in
theorem px_r20_0 {ro : px_RO} {dd : Nat} (a1 a2 : Int32) (ha1 : (-2147483648) ≤ a1.toInt ∧ a1.toInt ≤ (-1)) (ha2 : (-2147483648) ≤ a2.toInt ∧ a2.toInt ≤ 2147483647) : px_RX ro (dd + 8) 288 [.ref 95, .int a1, .int a2] (.int (-1)) := by
  intro Ic Jc Pc
  refine ⟨(px_shX, (px_mI Ic), (px_mJ Jc), (px_mP Pc)), ?_, rfl⟩
  show px_E ro (dd + 8) 288 (0, _, [], _) _ _
  refine px_E_seg 2 (σ' := (2, [(0, .ref 95), (1, .int a1), (2, .int a2)], [.int a1, .ref 95], (px_shX, (px_mI Ic), (px_mJ Jc), (px_mP Pc)))) rfl ?_
  refine px_E_call (j := 254) (as := [.ref 95, .int a1]) (rest := []) (v := some (.int 0)) (h1 := (px_shX, (px_mI Ic), (px_mJ Jc), (px_mP Pc))) rfl rfl rfl (by
    refine px_E_seg 3 (σ' := (3, [(0, .ref 95), (1, .int a1)], [.int 3, .int 0, .int a1], (px_shX, (px_mI Ic), (px_mJ Jc), (px_mP Pc)))) rfl ?_
    refine px_E_call (j := 183) (as := [.int a1, .int 0, .int 3]) (rest := []) (v := some (.int 0)) (h1 := (px_shX, (px_mI Ic), (px_mJ Jc), (px_mP Pc))) rfl rfl rfl (by
      refine px_E_seg 2 (σ' := (2, [(0, .int a1), (1, .int 0), (2, .int 3)], [.int 0, .int a1], (px_shX, (px_mI Ic), (px_mJ Jc), (px_mP Pc)))) rfl ?_
      refine px_E_icT (t := 14) rfl rfl (show a1.toInt < (0 : Int) by omega) ?_
      refine px_E_seg 1 (σ' := (15, [(0, .int a1), (1, .int 0), (2, .int 3)], [.int 0], (px_shX, (px_mI Ic), (px_mJ Jc), (px_mP Pc)))) rfl ?_
      exact px_E_ret rfl rfl) ?_
    refine px_E_seg 2 (σ' := (22, [(0, .ref 95), (1, .int a1)], [.int 0], (px_shX, (px_mI Ic), (px_mJ Jc), (px_mP Pc)))) rfl ?_
    exact px_E_ret rfl rfl) ?_
  refine px_E_seg 2 (σ' := (38, [(0, .ref 95), (1, .int a1), (2, .int a2)], [.int (-1)], (px_shX, (px_mI Ic), (px_mJ Jc), (px_mP Pc)))) rfl ?_
  exact px_E_ret rfl rfl
set_option maxRecDepth 100000 in
set_option maxHeartbeats 4000000 in
theorem px_x20_1 {ro : px_RO} {dd : Nat} (a2 : Int32) (ha2 : (-2147483648) ≤ a2.toInt ∧ a2.toInt ≤ 2147483647) : px_CX ro (dd + 8) 115 [.ref 0, .int 0, .int a2] (.int (-1)) := by
  refine ⟨px_IX, px_PX, ?_, px_fr_0, px_frP_0⟩
  show px_E ro (dd + 8) 115 (0, _, [], _) _ _
  refine px_E_seg 3 (σ' := (5, [(0, .ref 0), (1, .int 0), (2, .int a2)], [.int 0, .ref 15], (px_shX, px_IX, px_JX, px_PX))) rfl ?_
  refine px_E_call (j := 80) (as := [.ref 15, .int 0]) (rest := []) (v := some (.int 0)) (h1 := (px_shX, px_IX, px_JX, px_PX)) rfl rfl rfl (by
    refine px_E_seg 6 (σ' := (10, [(0, .ref 15), (1, .int 0)], [.ref 15], (px_shX, px_IX, px_JX, px_PX))) rfl ?_
    refine px_E_seg 5 (σ' := (23, [(0, .ref 15), (1, .int 0)], [.int 0], (px_shX, px_IX, px_JX, px_PX))) rfl ?_
    exact px_E_ret rfl rfl) ?_
  refine px_E_seg 2 (σ' := (23, [(0, .ref 0), (1, .int 0), (2, .int a2)], [.int (-1)], (px_shX, px_IX, px_JX, px_PX))) rfl ?_
  exact px_E_ret rfl rfl
set_option maxRecDepth 100000 in
set_option maxHeartbeats 4000000 in
theorem px_r20_1 {ro : px_RO} {dd : Nat} (a2 : Int32) (ha2 : (-2147483648) ≤ a2.toInt ∧ a2.toInt ≤ 2147483647) : px_RX ro (dd + 8) 288 [.ref 95, .int 0, .int a2] (.int (-1)) := by
  intro Ic Jc Pc
  refine ⟨(px_shX, (px_mI Ic), (px_mJ Jc), (px_mP Pc)), ?_, rfl⟩
  show px_E ro (dd + 8) 288 (0, _, [], _) _ _
  refine px_E_seg 2 (σ' := (2, [(0, .ref 95), (1, .int 0), (2, .int a2)], [.int 0, .ref 95], (px_shX, (px_mI Ic), (px_mJ Jc), (px_mP Pc)))) rfl ?_
  refine px_E_call (j := 254) (as := [.ref 95, .int 0]) (rest := []) (v := some (.int 0)) (h1 := (px_shX, (px_mI Ic), (px_mJ Jc), (px_mP Pc))) rfl rfl rfl (by
    refine px_E_seg 3 (σ' := (3, [(0, .ref 95), (1, .int 0)], [.int 3, .int 0, .int 0], (px_shX, (px_mI Ic), (px_mJ Jc), (px_mP Pc)))) rfl ?_
    refine px_E_call (j := 183) (as := [.int 0, .int 0, .int 3]) (rest := []) (v := some (.int 1)) (h1 := (px_shX, (px_mI Ic), (px_mJ Jc), (px_mP Pc))) rfl rfl rfl (by
      refine px_E_seg 6 (σ' := (10, [(0, .int 0), (1, .int 0), (2, .int 3)], [], (px_shX, (px_mI Ic), (px_mJ Jc), (px_mP Pc)))) rfl ?_
      refine px_E_seg 2 (σ' := (15, [(0, .int 0), (1, .int 0), (2, .int 3)], [.int 1], (px_shX, (px_mI Ic), (px_mJ Jc), (px_mP Pc)))) rfl ?_
      exact px_E_ret rfl rfl) ?_
    refine px_E_seg 3 (σ' := (11, [(0, .ref 95), (1, .int 0)], [.int 0, .ref 95], (px_shX, (px_mI Ic), (px_mJ Jc), (px_mP Pc)))) rfl ?_
    refine px_E_call (j := 242) (as := [.ref 95, .int 0]) (rest := []) (v := some (.int 0)) (h1 := (px_shX, (px_mI Ic), (px_mJ Jc), (px_mP Pc))) rfl rfl rfl (by
      refine px_E_seg 5 (σ' := (8, [(0, .ref 95), (1, .int 0)], [.int 0, .int 3, .int 114, .ref 96], (px_shX, (px_mI Ic), (px_mJ Jc), (px_mP Pc)))) rfl ?_
      refine px_E_seg 1 (σ' := (9, [(0, .ref 95), (1, .int 0)], [.int 0, .int 114, .ref 96], (px_shX, (px_mI Ic), (px_mJ Jc), (px_mP Pc)))) rfl ?_
      refine px_E_seg 2 (σ' := (11, [(0, .ref 95), (1, .int 0)], [.int 0], (px_shX, (px_mI Ic), (px_mJ Jc), (px_mP Pc)))) rfl ?_
      exact px_E_ret rfl rfl) ?_
    refine px_E_seg 2 (σ' := (22, [(0, .ref 95), (1, .int 0)], [.int 0], (px_shX, (px_mI Ic), (px_mJ Jc), (px_mP Pc)))) rfl ?_
    exact px_E_ret rfl rfl) ?_
  refine px_E_seg 2 (σ' := (38, [(0, .ref 95), (1, .int 0), (2, .int a2)], [.int (-1)], (px_shX, (px_mI Ic), (px_mJ Jc), (px_mP Pc)))) rfl ?_
  exact px_E_ret rfl rfl
set_option maxRecDepth 100000 in
set_option maxHeartbeats 4000000 in
theorem px_x20_2 {ro : px_RO} {dd : Nat} (a2 : Int32) (ha2 : (-2147483648) ≤ a2.toInt ∧ a2.toInt ≤ 2147483647) : px_CX ro (dd + 8) 115 [.ref 0, .int 1, .int a2] (.int (-1)) := by
  refine ⟨px_IX, px_PX, ?_, px_fr_0, px_frP_0⟩
  show px_E ro (dd + 8) 115 (0, _, [], _) _ _
  refine px_E_seg 3 (σ' := (5, [(0, .ref 0), (1, .int 1), (2, .int a2)], [.int 1, .ref 15], (px_shX, px_IX, px_JX, px_PX))) rfl ?_
  refine px_E_call (j := 80) (as := [.ref 15, .int 1]) (rest := []) (v := some (.int 0)) (h1 := (px_shX, px_IX, px_JX, px_PX)) rfl rfl rfl (by
    refine px_E_seg 6 (σ' := (10, [(0, .ref 15), (1, .int 1)], [.ref 15], (px_shX, px_IX, px_JX, px_PX))) rfl ?_
    refine px_E_seg 5 (σ' := (23, [(0, .ref 15), (1, .int 1)], [.int 0], (px_shX, px_IX, px_JX, px_PX))) rfl ?_
    exact px_E_ret rfl rfl) ?_
  refine px_E_seg 2 (σ' := (23, [(0, .ref 0), (1, .int 1), (2, .int a2)], [.int (-1)], (px_shX, px_IX, px_JX, px_PX))) rfl ?_
  exact px_E_ret rfl rfl
set_option maxRecDepth 100000 in
set_option maxHeartbeats 4000000 in
theorem px_r20_2 {ro : px_RO} {dd : Nat} (a2 : Int32) (ha2 : (-2147483648) ≤ a2.toInt ∧ a2.toInt ≤ 2147483647) : px_RX ro (dd + 8) 288 [.ref 95, .int 1, .int a2] (.int (-1)) := by
  intro Ic Jc Pc
  refine ⟨(px_shX, (px_mI Ic), (px_mJ Jc), (px_mP Pc)), ?_, rfl⟩
  show px_E ro (dd + 8) 288 (0, _, [], _) _ _
  refine px_E_seg 2 (σ' := (2, [(0, .ref 95), (1, .int 1), (2, .int a2)], [.int 1, .ref 95], (px_shX, (px_mI Ic), (px_mJ Jc), (px_mP Pc)))) rfl ?_
  refine px_E_call (j := 254) (as := [.ref 95, .int 1]) (rest := []) (v := some (.int 0)) (h1 := (px_shX, (px_mI Ic), (px_mJ Jc), (px_mP Pc))) rfl rfl rfl (by
    refine px_E_seg 3 (σ' := (3, [(0, .ref 95), (1, .int 1)], [.int 3, .int 0, .int 1], (px_shX, (px_mI Ic), (px_mJ Jc), (px_mP Pc)))) rfl ?_
    refine px_E_call (j := 183) (as := [.int 1, .int 0, .int 3]) (rest := []) (v := some (.int 1)) (h1 := (px_shX, (px_mI Ic), (px_mJ Jc), (px_mP Pc))) rfl rfl rfl (by
      refine px_E_seg 6 (σ' := (10, [(0, .int 1), (1, .int 0), (2, .int 3)], [], (px_shX, (px_mI Ic), (px_mJ Jc), (px_mP Pc)))) rfl ?_
      refine px_E_seg 2 (σ' := (15, [(0, .int 1), (1, .int 0), (2, .int 3)], [.int 1], (px_shX, (px_mI Ic), (px_mJ Jc), (px_mP Pc)))) rfl ?_
      exact px_E_ret rfl rfl) ?_
    refine px_E_seg 3 (σ' := (11, [(0, .ref 95), (1, .int 1)], [.int 1, .ref 95], (px_shX, (px_mI Ic), (px_mJ Jc), (px_mP Pc)))) rfl ?_
    refine px_E_call (j := 242) (as := [.ref 95, .int 1]) (rest := []) (v := some (.int 0)) (h1 := (px_shX, (px_mI Ic), (px_mJ Jc), (px_mP Pc))) rfl rfl rfl (by
      refine px_E_seg 5 (σ' := (8, [(0, .ref 95), (1, .int 1)], [.int 1, .int 3, .int 114, .ref 96], (px_shX, (px_mI Ic), (px_mJ Jc), (px_mP Pc)))) rfl ?_
      refine px_E_seg 1 (σ' := (9, [(0, .ref 95), (1, .int 1)], [.int 3, .int 114, .ref 96], (px_shX, (px_mI Ic), (px_mJ Jc), (px_mP Pc)))) rfl ?_
      refine px_E_seg 2 (σ' := (11, [(0, .ref 95), (1, .int 1)], [.int 0], (px_shX, (px_mI Ic), (px_mJ Jc), (px_mP Pc)))) rfl ?_
      exact px_E_ret rfl rfl) ?_
    refine px_E_seg 2 (σ' := (22, [(0, .ref 95), (1, .int 1)], [.int 0], (px_shX, (px_mI Ic), (px_mJ Jc), (px_mP Pc)))) rfl ?_
    exact px_E_ret rfl rfl) ?_
  refine px_E_seg 2 (σ' := (38, [(0, .ref 95), (1, .int 1), (2, .int a2)], [.int (-1)], (px_shX, (px_mI Ic), (px_mJ Jc), (px_mP Pc)))) rfl ?_
  exact px_E_ret rfl rfl
set_option maxRecDepth 100000 in
set_option maxHeartbeats 4000000 in
theorem px_x20_3 {ro : px_RO} {dd : Nat} (a2 : Int32) (ha2 : (-2147483648) ≤ a2.toInt ∧ a2.toInt ≤ 2147483647) : px_CX ro (dd + 8) 115 [.ref 0, .int 2, .int a2] (.int (-1)) := by
  refine ⟨px_IX, px_PX, ?_, px_fr_0, px_frP_0⟩
  show px_E ro (dd + 8) 115 (0, _, [], _) _ _
  refine px_E_seg 3 (σ' := (5, [(0, .ref 0), (1, .int 2), (2, .int a2)], [.int 2, .ref 15], (px_shX, px_IX, px_JX, px_PX))) rfl ?_
  refine px_E_call (j := 80) (as := [.ref 15, .int 2]) (rest := []) (v := some (.int 0)) (h1 := (px_shX, px_IX, px_JX, px_PX)) rfl rfl rfl (by
    refine px_E_seg 6 (σ' := (10, [(0, .ref 15), (1, .int 2)], [.ref 15], (px_shX, px_IX, px_JX, px_PX))) rfl ?_
    refine px_E_seg 5 (σ' := (23, [(0, .ref 15), (1, .int 2)], [.int 0], (px_shX, px_IX, px_JX, px_PX))) rfl ?_
    exact px_E_ret rfl rfl) ?_
  refine px_E_seg 2 (σ' := (23, [(0, .ref 0), (1, .int 2), (2, .int a2)], [.int (-1)], (px_shX, px_IX, px_JX, px_PX))) rfl ?_
  exact px_E_ret rfl rfl
set_option maxRecDepth 100000 in
set_option maxHeartbeats 4000000 in
theorem px_r20_3 {ro : px_RO} {dd : Nat} (a2 : Int32) (ha2 : (-2147483648) ≤ a2.toInt ∧ a2.toInt ≤ 2147483647) : px_RX ro (dd + 8) 288 [.ref 95, .int 2, .int a2] (.int (-1)) := by
  intro Ic Jc Pc
  refine ⟨(px_shX, (px_mI Ic), (px_mJ Jc), (px_mP Pc)), ?_, rfl⟩
  show px_E ro (dd + 8) 288 (0, _, [], _) _ _
  refine px_E_seg 2 (σ' := (2, [(0, .ref 95), (1, .int 2), (2, .int a2)], [.int 2, .ref 95], (px_shX, (px_mI Ic), (px_mJ Jc), (px_mP Pc)))) rfl ?_
  refine px_E_call (j := 254) (as := [.ref 95, .int 2]) (rest := []) (v := some (.int 0)) (h1 := (px_shX, (px_mI Ic), (px_mJ Jc), (px_mP Pc))) rfl rfl rfl (by
    refine px_E_seg 3 (σ' := (3, [(0, .ref 95), (1, .int 2)], [.int 3, .int 0, .int 2], (px_shX, (px_mI Ic), (px_mJ Jc), (px_mP Pc)))) rfl ?_
    refine px_E_call (j := 183) (as := [.int 2, .int 0, .int 3]) (rest := []) (v := some (.int 1)) (h1 := (px_shX, (px_mI Ic), (px_mJ Jc), (px_mP Pc))) rfl rfl rfl (by
      refine px_E_seg 6 (σ' := (10, [(0, .int 2), (1, .int 0), (2, .int 3)], [], (px_shX, (px_mI Ic), (px_mJ Jc), (px_mP Pc)))) rfl ?_
      refine px_E_seg 2 (σ' := (15, [(0, .int 2), (1, .int 0), (2, .int 3)], [.int 1], (px_shX, (px_mI Ic), (px_mJ Jc), (px_mP Pc)))) rfl ?_
      exact px_E_ret rfl rfl) ?_
    refine px_E_seg 3 (σ' := (11, [(0, .ref 95), (1, .int 2)], [.int 2, .ref 95], (px_shX, (px_mI Ic), (px_mJ Jc), (px_mP Pc)))) rfl ?_
    refine px_E_call (j := 242) (as := [.ref 95, .int 2]) (rest := []) (v := some (.int 0)) (h1 := (px_shX, (px_mI Ic), (px_mJ Jc), (px_mP Pc))) rfl rfl rfl (by
      refine px_E_seg 5 (σ' := (8, [(0, .ref 95), (1, .int 2)], [.int 2, .int 3, .int 114, .ref 96], (px_shX, (px_mI Ic), (px_mJ Jc), (px_mP Pc)))) rfl ?_
      refine px_E_seg 1 (σ' := (9, [(0, .ref 95), (1, .int 2)], [.int 6, .int 114, .ref 96], (px_shX, (px_mI Ic), (px_mJ Jc), (px_mP Pc)))) rfl ?_
      refine px_E_seg 2 (σ' := (11, [(0, .ref 95), (1, .int 2)], [.int 0], (px_shX, (px_mI Ic), (px_mJ Jc), (px_mP Pc)))) rfl ?_
      exact px_E_ret rfl rfl) ?_
    refine px_E_seg 2 (σ' := (22, [(0, .ref 95), (1, .int 2)], [.int 0], (px_shX, (px_mI Ic), (px_mJ Jc), (px_mP Pc)))) rfl ?_
    exact px_E_ret rfl rfl) ?_
  refine px_E_seg 2 (σ' := (38, [(0, .ref 95), (1, .int 2), (2, .int a2)], [.int (-1)], (px_shX, (px_mI Ic), (px_mJ Jc), (px_mP Pc)))) rfl ?_
  exact px_E_ret rfl rfl
set_option maxRecDepth 100000 in
set_option maxHeartbeats 4000000 in
theorem px_x20_4 {ro : px_RO} {dd : Nat} (a2 : Int32) (ha2 : (-2147483648) ≤ a2.toInt ∧ a2.toInt ≤ 2147483647) : px_CX ro (dd + 8) 115 [.ref 0, .int 3, .int a2] (.int (-1)) := by
  refine ⟨px_IX, px_PX, ?_, px_fr_0, px_frP_0⟩
  show px_E ro (dd + 8) 115 (0, _, [], _) _ _
  refine px_E_seg 3 (σ' := (5, [(0, .ref 0), (1, .int 3), (2, .int a2)], [.int 3, .ref 15], (px_shX, px_IX, px_JX, px_PX))) rfl ?_
  refine px_E_call (j := 80) (as := [.ref 15, .int 3]) (rest := []) (v := some (.int 0)) (h1 := (px_shX, px_IX, px_JX, px_PX)) rfl rfl rfl (by
    refine px_E_seg 6 (σ' := (10, [(0, .ref 15), (1, .int 3)], [.ref 15], (px_shX, px_IX, px_JX, px_PX))) rfl ?_
    refine px_E_seg 5 (σ' := (23, [(0, .ref 15), (1, .int 3)], [.int 0], (px_shX, px_IX, px_JX, px_PX))) rfl ?_
    exact px_E_ret rfl rfl) ?_
  refine px_E_seg 2 (σ' := (23, [(0, .ref 0), (1, .int 3), (2, .int a2)], [.int (-1)], (px_shX, px_IX, px_JX, px_PX))) rfl ?_
  exact px_E_ret rfl rfl
set_option maxRecDepth 100000 in
set_option maxHeartbeats 4000000 in
theorem px_r20_4 {ro : px_RO} {dd : Nat} (a2 : Int32) (ha2 : (-2147483648) ≤ a2.toInt ∧ a2.toInt ≤ 2147483647) : px_RX ro (dd + 8) 288 [.ref 95, .int 3, .int a2] (.int (-1)) := by
  intro Ic Jc Pc
  refine ⟨(px_shX, (px_mI Ic), (px_mJ Jc), (px_mP Pc)), ?_, rfl⟩
  show px_E ro (dd + 8) 288 (0, _, [], _) _ _
  refine px_E_seg 2 (σ' := (2, [(0, .ref 95), (1, .int 3), (2, .int a2)], [.int 3, .ref 95], (px_shX, (px_mI Ic), (px_mJ Jc), (px_mP Pc)))) rfl ?_
  refine px_E_call (j := 254) (as := [.ref 95, .int 3]) (rest := []) (v := some (.int 0)) (h1 := (px_shX, (px_mI Ic), (px_mJ Jc), (px_mP Pc))) rfl rfl rfl (by
    refine px_E_seg 3 (σ' := (3, [(0, .ref 95), (1, .int 3)], [.int 3, .int 0, .int 3], (px_shX, (px_mI Ic), (px_mJ Jc), (px_mP Pc)))) rfl ?_
    refine px_E_call (j := 183) (as := [.int 3, .int 0, .int 3]) (rest := []) (v := some (.int 1)) (h1 := (px_shX, (px_mI Ic), (px_mJ Jc), (px_mP Pc))) rfl rfl rfl (by
      refine px_E_seg 6 (σ' := (10, [(0, .int 3), (1, .int 0), (2, .int 3)], [], (px_shX, (px_mI Ic), (px_mJ Jc), (px_mP Pc)))) rfl ?_
      refine px_E_seg 2 (σ' := (15, [(0, .int 3), (1, .int 0), (2, .int 3)], [.int 1], (px_shX, (px_mI Ic), (px_mJ Jc), (px_mP Pc)))) rfl ?_
      exact px_E_ret rfl rfl) ?_
    refine px_E_seg 3 (σ' := (11, [(0, .ref 95), (1, .int 3)], [.int 3, .ref 95], (px_shX, (px_mI Ic), (px_mJ Jc), (px_mP Pc)))) rfl ?_
    refine px_E_call (j := 242) (as := [.ref 95, .int 3]) (rest := []) (v := some (.int 0)) (h1 := (px_shX, (px_mI Ic), (px_mJ Jc), (px_mP Pc))) rfl rfl rfl (by
      refine px_E_seg 5 (σ' := (8, [(0, .ref 95), (1, .int 3)], [.int 3, .int 3, .int 114, .ref 96], (px_shX, (px_mI Ic), (px_mJ Jc), (px_mP Pc)))) rfl ?_
      refine px_E_seg 1 (σ' := (9, [(0, .ref 95), (1, .int 3)], [.int 9, .int 114, .ref 96], (px_shX, (px_mI Ic), (px_mJ Jc), (px_mP Pc)))) rfl ?_
      refine px_E_seg 2 (σ' := (11, [(0, .ref 95), (1, .int 3)], [.int 0], (px_shX, (px_mI Ic), (px_mJ Jc), (px_mP Pc)))) rfl ?_
      exact px_E_ret rfl rfl) ?_
    refine px_E_seg 2 (σ' := (22, [(0, .ref 95), (1, .int 3)], [.int 0], (px_shX, (px_mI Ic), (px_mJ Jc), (px_mP Pc)))) rfl ?_
    exact px_E_ret rfl rfl) ?_
  refine px_E_seg 2 (σ' := (38, [(0, .ref 95), (1, .int 3), (2, .int a2)], [.int (-1)], (px_shX, (px_mI Ic), (px_mJ Jc), (px_mP Pc)))) rfl ?_
  exact px_E_ret rfl rfl
set_option maxRecDepth 100000 in
set_option maxHeartbeats 4000000 in
theorem px_x20_5 {ro : px_RO} {dd : Nat} (a1 a2 : Int32) (ha1 : 4 ≤ a1.toInt ∧ a1.toInt ≤ 2147483647) (ha2 : (-2147483648) ≤ a2.toInt ∧ a2.toInt ≤ 2147483647) : px_CX ro (dd + 8) 115 [.ref 0, .int a1, .int a2] (.int (-1)) := by
  refine ⟨px_IX, px_PX, ?_, px_fr_0, px_frP_0⟩
  show px_E ro (dd + 8) 115 (0, _, [], _) _ _
  refine px_E_seg 3 (σ' := (5, [(0, .ref 0), (1, .int a1), (2, .int a2)], [.int a1, .ref 15], (px_shX, px_IX, px_JX, px_PX))) rfl ?_
  refine px_E_call (j := 80) (as := [.ref 15, .int a1]) (rest := []) (v := some (.int 0)) (h1 := (px_shX, px_IX, px_JX, px_PX)) rfl rfl rfl (by
    refine px_E_seg 1 (σ' := (1, [(0, .ref 15), (1, .int a1)], [.int a1], (px_shX, px_IX, px_JX, px_PX))) rfl ?_
    refine px_E_ifF (t := 22) rfl rfl (show (0 : Int) ≤ a1.toInt by omega) ?_
    refine px_E_seg 2 (σ' := (6, [(0, .ref 15), (1, .int a1)], [.int 4, .int a1], (px_shX, px_IX, px_JX, px_PX))) rfl ?_
    refine px_E_icT (t := 22) rfl rfl (show (4 : Int) ≤ a1.toInt by omega) ?_
    refine px_E_seg 1 (σ' := (23, [(0, .ref 15), (1, .int a1)], [.int 0], (px_shX, px_IX, px_JX, px_PX))) rfl ?_
    exact px_E_ret rfl rfl) ?_
  refine px_E_seg 2 (σ' := (23, [(0, .ref 0), (1, .int a1), (2, .int a2)], [.int (-1)], (px_shX, px_IX, px_JX, px_PX))) rfl ?_
  exact px_E_ret rfl rfl
set_option maxRecDepth 100000 in
set_option maxHeartbeats 4000000 in
theorem px_r20_5 {ro : px_RO} {dd : Nat} (a1 a2 : Int32) (ha1 : 4 ≤ a1.toInt ∧ a1.toInt ≤ 2147483647) (ha2 : (-2147483648) ≤ a2.toInt ∧ a2.toInt ≤ 2147483647) : px_RX ro (dd + 8) 288 [.ref 95, .int a1, .int a2] (.int (-1)) := by
  intro Ic Jc Pc
  refine ⟨(px_shX, (px_mI Ic), (px_mJ Jc), (px_mP Pc)), ?_, rfl⟩
  show px_E ro (dd + 8) 288 (0, _, [], _) _ _
  refine px_E_seg 2 (σ' := (2, [(0, .ref 95), (1, .int a1), (2, .int a2)], [.int a1, .ref 95], (px_shX, (px_mI Ic), (px_mJ Jc), (px_mP Pc)))) rfl ?_
  refine px_E_call (j := 254) (as := [.ref 95, .int a1]) (rest := []) (v := some (.int 0)) (h1 := (px_shX, (px_mI Ic), (px_mJ Jc), (px_mP Pc))) rfl rfl rfl (by
    refine px_E_seg 3 (σ' := (3, [(0, .ref 95), (1, .int a1)], [.int 3, .int 0, .int a1], (px_shX, (px_mI Ic), (px_mJ Jc), (px_mP Pc)))) rfl ?_
    refine px_E_call (j := 183) (as := [.int a1, .int 0, .int 3]) (rest := []) (v := some (.int 0)) (h1 := (px_shX, (px_mI Ic), (px_mJ Jc), (px_mP Pc))) rfl rfl rfl (by
      refine px_E_seg 2 (σ' := (2, [(0, .int a1), (1, .int 0), (2, .int 3)], [.int 0, .int a1], (px_shX, (px_mI Ic), (px_mJ Jc), (px_mP Pc)))) rfl ?_
      refine px_E_icF (t := 14) rfl rfl (show (0 : Int) ≤ a1.toInt by omega) ?_
      refine px_E_seg 2 (σ' := (7, [(0, .int a1), (1, .int 0), (2, .int 3)], [.int 3, .int a1], (px_shX, (px_mI Ic), (px_mJ Jc), (px_mP Pc)))) rfl ?_
      refine px_E_icT (t := 14) rfl rfl (show (3 : Int) < a1.toInt by omega) ?_
      refine px_E_seg 1 (σ' := (15, [(0, .int a1), (1, .int 0), (2, .int 3)], [.int 0], (px_shX, (px_mI Ic), (px_mJ Jc), (px_mP Pc)))) rfl ?_
      exact px_E_ret rfl rfl) ?_
    refine px_E_seg 2 (σ' := (22, [(0, .ref 95), (1, .int a1)], [.int 0], (px_shX, (px_mI Ic), (px_mJ Jc), (px_mP Pc)))) rfl ?_
    exact px_E_ret rfl rfl) ?_
  refine px_E_seg 2 (σ' := (38, [(0, .ref 95), (1, .int a1), (2, .int a2)], [.int (-1)], (px_shX, (px_mI Ic), (px_mJ Jc), (px_mP Pc)))) rfl ?_
  exact px_E_ret rfl rfl
set_option maxRecDepth 100000 in
set_option maxHeartbeats 4000000 in
theorem px_x21_0 {ro : px_RO} {dd : Nat} (a1 a2 a3 a4 : Int32) (ha1 : (-2147483648) ≤ a1.toInt ∧ a1.toInt ≤ (-1)) (ha2 : (-2147483648) ≤ a2.toInt ∧ a2.toInt ≤ 2147483647) (ha3 : (-2147483648) ≤ a3.toInt ∧ a3.toInt ≤ 2147483647) (ha4 : 0 ≤ a4.toInt ∧ a4.toInt ≤ 1) : px_CX ro (dd + 8) 116 [.ref 0, .int a1, .int a2, .int a3, .int a4] (.long (-1)) := by
  refine ⟨px_IX, px_PX, ?_, px_fr_0, px_frP_0⟩
  show px_E ro (dd + 8) 116 (0, _, [], _) _ _
  refine px_E_seg 3 (σ' := (5, [(0, .ref 0), (1, .int a1), (2, .int a2), (3, .int a3), (4, .int a4)], [.int a1, .ref 15], (px_shX, px_IX, px_JX, px_PX))) rfl ?_
  refine px_E_call (j := 80) (as := [.ref 15, .int a1]) (rest := []) (v := some (.int 0)) (h1 := (px_shX, px_IX, px_JX, px_PX)) rfl rfl rfl (by
    refine px_E_seg 1 (σ' := (1, [(0, .ref 15), (1, .int a1)], [.int a1], (px_shX, px_IX, px_JX, px_PX))) rfl ?_
    refine px_E_ifT (t := 22) rfl rfl (show a1.toInt < (0 : Int) by omega) ?_
    refine px_E_seg 1 (σ' := (23, [(0, .ref 15), (1, .int a1)], [.int 0], (px_shX, px_IX, px_JX, px_PX))) rfl ?_
    exact px_E_ret rfl rfl) ?_
  refine px_E_seg 2 (σ' := (34, [(0, .ref 0), (1, .int a1), (2, .int a2), (3, .int a3), (4, .int a4)], [.long (-1)], (px_shX, px_IX, px_JX, px_PX))) rfl ?_
  exact px_E_ret rfl rfl
set_option maxRecDepth 100000 in
set_option maxHeartbeats 4000000 in
theorem px_r21_0 {ro : px_RO} {dd : Nat} (a1 a2 a3 a4 : Int32) (ha1 : (-2147483648) ≤ a1.toInt ∧ a1.toInt ≤ (-1)) (ha2 : (-2147483648) ≤ a2.toInt ∧ a2.toInt ≤ 2147483647) (ha3 : (-2147483648) ≤ a3.toInt ∧ a3.toInt ≤ 2147483647) (ha4 : 0 ≤ a4.toInt ∧ a4.toInt ≤ 1) : px_RX ro (dd + 8) 289 [.ref 95, .int a1, .int a2, .int a3, .int a4] (.long (-1)) := by
  intro Ic Jc Pc
  refine ⟨(px_shX, (px_mI Ic), (px_mJ Jc), (px_mP Pc)), ?_, rfl⟩
  show px_E ro (dd + 8) 289 (0, _, [], _) _ _
  refine px_E_seg 2 (σ' := (2, [(0, .ref 95), (1, .int a1), (2, .int a2), (3, .int a3), (4, .int a4)], [.int a1, .ref 95], (px_shX, (px_mI Ic), (px_mJ Jc), (px_mP Pc)))) rfl ?_
  refine px_E_call (j := 254) (as := [.ref 95, .int a1]) (rest := []) (v := some (.int 0)) (h1 := (px_shX, (px_mI Ic), (px_mJ Jc), (px_mP Pc))) rfl rfl rfl (by
    refine px_E_seg 3 (σ' := (3, [(0, .ref 95), (1, .int a1)], [.int 3, .int 0, .int a1], (px_shX, (px_mI Ic), (px_mJ Jc), (px_mP Pc)))) rfl ?_
    refine px_E_call (j := 183) (as := [.int a1, .int 0, .int 3]) (rest := []) (v := some (.int 0)) (h1 := (px_shX, (px_mI Ic), (px_mJ Jc), (px_mP Pc))) rfl rfl rfl (by
      refine px_E_seg 2 (σ' := (2, [(0, .int a1), (1, .int 0), (2, .int 3)], [.int 0, .int a1], (px_shX, (px_mI Ic), (px_mJ Jc), (px_mP Pc)))) rfl ?_
      refine px_E_icT (t := 14) rfl rfl (show a1.toInt < (0 : Int) by omega) ?_
      refine px_E_seg 1 (σ' := (15, [(0, .int a1), (1, .int 0), (2, .int 3)], [.int 0], (px_shX, (px_mI Ic), (px_mJ Jc), (px_mP Pc)))) rfl ?_
      exact px_E_ret rfl rfl) ?_
    refine px_E_seg 2 (σ' := (22, [(0, .ref 95), (1, .int a1)], [.int 0], (px_shX, (px_mI Ic), (px_mJ Jc), (px_mP Pc)))) rfl ?_
    exact px_E_ret rfl rfl) ?_
  refine px_E_seg 2 (σ' := (28, [(0, .ref 95), (1, .int a1), (2, .int a2), (3, .int a3), (4, .int a4)], [.long (-1)], (px_shX, (px_mI Ic), (px_mJ Jc), (px_mP Pc)))) rfl ?_
  exact px_E_ret rfl rfl
set_option maxRecDepth 100000 in
set_option maxHeartbeats 4000000 in
theorem px_x21_1 {ro : px_RO} {dd : Nat} (a2 a3 a4 : Int32) (ha2 : (-2147483648) ≤ a2.toInt ∧ a2.toInt ≤ 2147483647) (ha3 : (-2147483648) ≤ a3.toInt ∧ a3.toInt ≤ 2147483647) (ha4 : 0 ≤ a4.toInt ∧ a4.toInt ≤ 1) : px_CX ro (dd + 8) 116 [.ref 0, .int 0, .int a2, .int a3, .int a4] (.long (-1)) := by
  refine ⟨px_IX, px_PX, ?_, px_fr_0, px_frP_0⟩
  show px_E ro (dd + 8) 116 (0, _, [], _) _ _
  refine px_E_seg 3 (σ' := (5, [(0, .ref 0), (1, .int 0), (2, .int a2), (3, .int a3), (4, .int a4)], [.int 0, .ref 15], (px_shX, px_IX, px_JX, px_PX))) rfl ?_
  refine px_E_call (j := 80) (as := [.ref 15, .int 0]) (rest := []) (v := some (.int 0)) (h1 := (px_shX, px_IX, px_JX, px_PX)) rfl rfl rfl (by
    refine px_E_seg 6 (σ' := (10, [(0, .ref 15), (1, .int 0)], [.ref 15], (px_shX, px_IX, px_JX, px_PX))) rfl ?_
    refine px_E_seg 5 (σ' := (23, [(0, .ref 15), (1, .int 0)], [.int 0], (px_shX, px_IX, px_JX, px_PX))) rfl ?_
    exact px_E_ret rfl rfl) ?_
  refine px_E_seg 2 (σ' := (34, [(0, .ref 0), (1, .int 0), (2, .int a2), (3, .int a3), (4, .int a4)], [.long (-1)], (px_shX, px_IX, px_JX, px_PX))) rfl ?_
  exact px_E_ret rfl rfl
set_option maxRecDepth 100000 in
set_option maxHeartbeats 4000000 in
theorem px_r21_1 {ro : px_RO} {dd : Nat} (a2 a3 a4 : Int32) (ha2 : (-2147483648) ≤ a2.toInt ∧ a2.toInt ≤ 2147483647) (ha3 : (-2147483648) ≤ a3.toInt ∧ a3.toInt ≤ 2147483647) (ha4 : 0 ≤ a4.toInt ∧ a4.toInt ≤ 1) : px_RX ro (dd + 8) 289 [.ref 95, .int 0, .int a2, .int a3, .int a4] (.long (-1)) := by
  intro Ic Jc Pc
  refine ⟨(px_shX, (px_mI Ic), (px_mJ Jc), (px_mP Pc)), ?_, rfl⟩
  show px_E ro (dd + 8) 289 (0, _, [], _) _ _
  refine px_E_seg 2 (σ' := (2, [(0, .ref 95), (1, .int 0), (2, .int a2), (3, .int a3), (4, .int a4)], [.int 0, .ref 95], (px_shX, (px_mI Ic), (px_mJ Jc), (px_mP Pc)))) rfl ?_
  refine px_E_call (j := 254) (as := [.ref 95, .int 0]) (rest := []) (v := some (.int 0)) (h1 := (px_shX, (px_mI Ic), (px_mJ Jc), (px_mP Pc))) rfl rfl rfl (by
    refine px_E_seg 3 (σ' := (3, [(0, .ref 95), (1, .int 0)], [.int 3, .int 0, .int 0], (px_shX, (px_mI Ic), (px_mJ Jc), (px_mP Pc)))) rfl ?_
    refine px_E_call (j := 183) (as := [.int 0, .int 0, .int 3]) (rest := []) (v := some (.int 1)) (h1 := (px_shX, (px_mI Ic), (px_mJ Jc), (px_mP Pc))) rfl rfl rfl (by
      refine px_E_seg 6 (σ' := (10, [(0, .int 0), (1, .int 0), (2, .int 3)], [], (px_shX, (px_mI Ic), (px_mJ Jc), (px_mP Pc)))) rfl ?_
      refine px_E_seg 2 (σ' := (15, [(0, .int 0), (1, .int 0), (2, .int 3)], [.int 1], (px_shX, (px_mI Ic), (px_mJ Jc), (px_mP Pc)))) rfl ?_
      exact px_E_ret rfl rfl) ?_
    refine px_E_seg 3 (σ' := (11, [(0, .ref 95), (1, .int 0)], [.int 0, .ref 95], (px_shX, (px_mI Ic), (px_mJ Jc), (px_mP Pc)))) rfl ?_
    refine px_E_call (j := 242) (as := [.ref 95, .int 0]) (rest := []) (v := some (.int 0)) (h1 := (px_shX, (px_mI Ic), (px_mJ Jc), (px_mP Pc))) rfl rfl rfl (by
      refine px_E_seg 5 (σ' := (8, [(0, .ref 95), (1, .int 0)], [.int 0, .int 3, .int 114, .ref 96], (px_shX, (px_mI Ic), (px_mJ Jc), (px_mP Pc)))) rfl ?_
      refine px_E_seg 1 (σ' := (9, [(0, .ref 95), (1, .int 0)], [.int 0, .int 114, .ref 96], (px_shX, (px_mI Ic), (px_mJ Jc), (px_mP Pc)))) rfl ?_
      refine px_E_seg 2 (σ' := (11, [(0, .ref 95), (1, .int 0)], [.int 0], (px_shX, (px_mI Ic), (px_mJ Jc), (px_mP Pc)))) rfl ?_
      exact px_E_ret rfl rfl) ?_
    refine px_E_seg 2 (σ' := (22, [(0, .ref 95), (1, .int 0)], [.int 0], (px_shX, (px_mI Ic), (px_mJ Jc), (px_mP Pc)))) rfl ?_
    exact px_E_ret rfl rfl) ?_
  refine px_E_seg 2 (σ' := (28, [(0, .ref 95), (1, .int 0), (2, .int a2), (3, .int a3), (4, .int a4)], [.long (-1)], (px_shX, (px_mI Ic), (px_mJ Jc), (px_mP Pc)))) rfl ?_
  exact px_E_ret rfl rfl
set_option maxRecDepth 100000 in
set_option maxHeartbeats 4000000 in
theorem px_x21_2 {ro : px_RO} {dd : Nat} (a2 a3 a4 : Int32) (ha2 : (-2147483648) ≤ a2.toInt ∧ a2.toInt ≤ 2147483647) (ha3 : (-2147483648) ≤ a3.toInt ∧ a3.toInt ≤ 2147483647) (ha4 : 0 ≤ a4.toInt ∧ a4.toInt ≤ 1) : px_CX ro (dd + 8) 116 [.ref 0, .int 1, .int a2, .int a3, .int a4] (.long (-1)) := by
  refine ⟨px_IX, px_PX, ?_, px_fr_0, px_frP_0⟩
  show px_E ro (dd + 8) 116 (0, _, [], _) _ _
  refine px_E_seg 3 (σ' := (5, [(0, .ref 0), (1, .int 1), (2, .int a2), (3, .int a3), (4, .int a4)], [.int 1, .ref 15], (px_shX, px_IX, px_JX, px_PX))) rfl ?_
  refine px_E_call (j := 80) (as := [.ref 15, .int 1]) (rest := []) (v := some (.int 0)) (h1 := (px_shX, px_IX, px_JX, px_PX)) rfl rfl rfl (by
    refine px_E_seg 6 (σ' := (10, [(0, .ref 15), (1, .int 1)], [.ref 15], (px_shX, px_IX, px_JX, px_PX))) rfl ?_
    refine px_E_seg 5 (σ' := (23, [(0, .ref 15), (1, .int 1)], [.int 0], (px_shX, px_IX, px_JX, px_PX))) rfl ?_
    exact px_E_ret rfl rfl) ?_
  refine px_E_seg 2 (σ' := (34, [(0, .ref 0), (1, .int 1), (2, .int a2), (3, .int a3), (4, .int a4)], [.long (-1)], (px_shX, px_IX, px_JX, px_PX))) rfl ?_
  exact px_E_ret rfl rfl
set_option maxRecDepth 100000 in
set_option maxHeartbeats 4000000 in
theorem px_r21_2 {ro : px_RO} {dd : Nat} (a2 a3 a4 : Int32) (ha2 : (-2147483648) ≤ a2.toInt ∧ a2.toInt ≤ 2147483647) (ha3 : (-2147483648) ≤ a3.toInt ∧ a3.toInt ≤ 2147483647) (ha4 : 0 ≤ a4.toInt ∧ a4.toInt ≤ 1) : px_RX ro (dd + 8) 289 [.ref 95, .int 1, .int a2, .int a3, .int a4] (.long (-1)) := by
  intro Ic Jc Pc
  refine ⟨(px_shX, (px_mI Ic), (px_mJ Jc), (px_mP Pc)), ?_, rfl⟩
  show px_E ro (dd + 8) 289 (0, _, [], _) _ _
  refine px_E_seg 2 (σ' := (2, [(0, .ref 95), (1, .int 1), (2, .int a2), (3, .int a3), (4, .int a4)], [.int 1, .ref 95], (px_shX, (px_mI Ic), (px_mJ Jc), (px_mP Pc)))) rfl ?_
  refine px_E_call (j := 254) (as := [.ref 95, .int 1]) (rest := []) (v := some (.int 0)) (h1 := (px_shX, (px_mI Ic), (px_mJ Jc), (px_mP Pc))) rfl rfl rfl (by
    refine px_E_seg 3 (σ' := (3, [(0, .ref 95), (1, .int 1)], [.int 3, .int 0, .int 1], (px_shX, (px_mI Ic), (px_mJ Jc), (px_mP Pc)))) rfl ?_
    refine px_E_call (j := 183) (as := [.int 1, .int 0, .int 3]) (rest := []) (v := some (.int 1)) (h1 := (px_shX, (px_mI Ic), (px_mJ Jc), (px_mP Pc))) rfl rfl rfl (by
      refine px_E_seg 6 (σ' := (10, [(0, .int 1), (1, .int 0), (2, .int 3)], [], (px_shX, (px_mI Ic), (px_mJ Jc), (px_mP Pc)))) rfl ?_
      refine px_E_seg 2 (σ' := (15, [(0, .int 1), (1, .int 0), (2, .int 3)], [.int 1], (px_shX, (px_mI Ic), (px_mJ Jc), (px_mP Pc)))) rfl ?_
      exact px_E_ret rfl rfl) ?_
    refine px_E_seg 3 (σ' := (11, [(0, .ref 95), (1, .int 1)], [.int 1, .ref 95], (px_shX, (px_mI Ic), (px_mJ Jc), (px_mP Pc)))) rfl ?_
    refine px_E_call (j := 242) (as := [.ref 95, .int 1]) (rest := []) (v := some (.int 0)) (h1 := (px_shX, (px_mI Ic), (px_mJ Jc), (px_mP Pc))) rfl rfl rfl (by
      refine px_E_seg 5 (σ' := (8, [(0, .ref 95), (1, .int 1)], [.int 1, .int 3, .int 114, .ref 96], (px_shX, (px_mI Ic), (px_mJ Jc), (px_mP Pc)))) rfl ?_
      refine px_E_seg 1 (σ' := (9, [(0, .ref 95), (1, .int 1)], [.int 3, .int 114, .ref 96], (px_shX, (px_mI Ic), (px_mJ Jc), (px_mP Pc)))) rfl ?_
      refine px_E_seg 2 (σ' := (11, [(0, .ref 95), (1, .int 1)], [.int 0], (px_shX, (px_mI Ic), (px_mJ Jc), (px_mP Pc)))) rfl ?_
      exact px_E_ret rfl rfl) ?_
    refine px_E_seg 2 (σ' := (22, [(0, .ref 95), (1, .int 1)], [.int 0], (px_shX, (px_mI Ic), (px_mJ Jc), (px_mP Pc)))) rfl ?_
    exact px_E_ret rfl rfl) ?_
  refine px_E_seg 2 (σ' := (28, [(0, .ref 95), (1, .int 1), (2, .int a2), (3, .int a3), (4, .int a4)], [.long (-1)], (px_shX, (px_mI Ic), (px_mJ Jc), (px_mP Pc)))) rfl ?_
  exact px_E_ret rfl rfl
set_option maxRecDepth 100000 in
set_option maxHeartbeats 4000000 in
theorem px_x21_3 {ro : px_RO} {dd : Nat} (a2 a3 a4 : Int32) (ha2 : (-2147483648) ≤ a2.toInt ∧ a2.toInt ≤ 2147483647) (ha3 : (-2147483648) ≤ a3.toInt ∧ a3.toInt ≤ 2147483647) (ha4 : 0 ≤ a4.toInt ∧ a4.toInt ≤ 1) : px_CX ro (dd + 8) 116 [.ref 0, .int 2, .int a2, .int a3, .int a4] (.long (-1)) := by
  refine ⟨px_IX, px_PX, ?_, px_fr_0, px_frP_0⟩
  show px_E ro (dd + 8) 116 (0, _, [], _) _ _
  refine px_E_seg 3 (σ' := (5, [(0, .ref 0), (1, .int 2), (2, .int a2), (3, .int a3), (4, .int a4)], [.int 2, .ref 15], (px_shX, px_IX, px_JX, px_PX))) rfl ?_
  refine px_E_call (j := 80) (as := [.ref 15, .int 2]) (rest := []) (v := some (.int 0)) (h1 := (px_shX, px_IX, px_JX, px_PX)) rfl rfl rfl (by
    refine px_E_seg 6 (σ' := (10, [(0, .ref 15), (1, .int 2)], [.ref 15], (px_shX, px_IX, px_JX, px_PX))) rfl ?_
    refine px_E_seg 5 (σ' := (23, [(0, .ref 15), (1, .int 2)], [.int 0], (px_shX, px_IX, px_JX, px_PX))) rfl ?_
    exact px_E_ret rfl rfl) ?_
  refine px_E_seg 2 (σ' := (34, [(0, .ref 0), (1, .int 2), (2, .int a2), (3, .int a3), (4, .int a4)], [.long (-1)], (px_shX, px_IX, px_JX, px_PX))) rfl ?_
  exact px_E_ret rfl rfl
set_option maxRecDepth 100000 in
set_option maxHeartbeats 4000000 in
theorem px_r21_3 {ro : px_RO} {dd : Nat} (a2 a3 a4 : Int32) (ha2 : (-2147483648) ≤ a2.toInt ∧ a2.toInt ≤ 2147483647) (ha3 : (-2147483648) ≤ a3.toInt ∧ a3.toInt ≤ 2147483647) (ha4 : 0 ≤ a4.toInt ∧ a4.toInt ≤ 1) : px_RX ro (dd + 8) 289 [.ref 95, .int 2, .int a2, .int a3, .int a4] (.long (-1)) := by
  intro Ic Jc Pc
  refine ⟨(px_shX, (px_mI Ic), (px_mJ Jc), (px_mP Pc)), ?_, rfl⟩
  show px_E ro (dd + 8) 289 (0, _, [], _) _ _
  refine px_E_seg 2 (σ' := (2, [(0, .ref 95), (1, .int 2), (2, .int a2), (3, .int a3), (4, .int a4)], [.int 2, .ref 95], (px_shX, (px_mI Ic), (px_mJ Jc), (px_mP Pc)))) rfl ?_
  refine px_E_call (j := 254) (as := [.ref 95, .int 2]) (rest := []) (v := some (.int 0)) (h1 := (px_shX, (px_mI Ic), (px_mJ Jc), (px_mP Pc))) rfl rfl rfl (by
    refine px_E_seg 3 (σ' := (3, [(0, .ref 95), (1, .int 2)], [.int 3, .int 0, .int 2], (px_shX, (px_mI Ic), (px_mJ Jc), (px_mP Pc)))) rfl ?_
    refine px_E_call (j := 183) (as := [.int 2, .int 0, .int 3]) (rest := []) (v := some (.int 1)) (h1 := (px_shX, (px_mI Ic), (px_mJ Jc), (px_mP Pc))) rfl rfl rfl (by
      refine px_E_seg 6 (σ' := (10, [(0, .int 2), (1, .int 0), (2, .int 3)], [], (px_shX, (px_mI Ic), (px_mJ Jc), (px_mP Pc)))) rfl ?_
      refine px_E_seg 2 (σ' := (15, [(0, .int 2), (1, .int 0), (2, .int 3)], [.int 1], (px_shX, (px_mI Ic), (px_mJ Jc), (px_mP Pc)))) rfl ?_
      exact px_E_ret rfl rfl) ?_
    refine px_E_seg 3 (σ' := (11, [(0, .ref 95), (1, .int 2)], [.int 2, .ref 95], (px_shX, (px_mI Ic), (px_mJ Jc), (px_mP Pc)))) rfl ?_
    refine px_E_call (j := 242) (as := [.ref 95, .int 2]) (rest := []) (v := some (.int 0)) (h1 := (px_shX, (px_mI Ic), (px_mJ Jc), (px_mP Pc))) rfl rfl rfl (by
      refine px_E_seg 5 (σ' := (8, [(0, .ref 95), (1, .int 2)], [.int 2, .int 3, .int 114, .ref 96], (px_shX, (px_mI Ic), (px_mJ Jc), (px_mP Pc)))) rfl ?_
      refine px_E_seg 1 (σ' := (9, [(0, .ref 95), (1, .int 2)], [.int 6, .int 114, .ref 96], (px_shX, (px_mI Ic), (px_mJ Jc), (px_mP Pc)))) rfl ?_
      refine px_E_seg 2 (σ' := (11, [(0, .ref 95), (1, .int 2)], [.int 0], (px_shX, (px_mI Ic), (px_mJ Jc), (px_mP Pc)))) rfl ?_
      exact px_E_ret rfl rfl) ?_
    refine px_E_seg 2 (σ' := (22, [(0, .ref 95), (1, .int 2)], [.int 0], (px_shX, (px_mI Ic), (px_mJ Jc), (px_mP Pc)))) rfl ?_
    exact px_E_ret rfl rfl) ?_
  refine px_E_seg 2 (σ' := (28, [(0, .ref 95), (1, .int 2), (2, .int a2), (3, .int a3), (4, .int a4)], [.long (-1)], (px_shX, (px_mI Ic), (px_mJ Jc), (px_mP Pc)))) rfl ?_
  exact px_E_ret rfl rfl
set_option maxRecDepth 100000 in
set_option maxHeartbeats 4000000 in
theorem px_x21_4 {ro : px_RO} {dd : Nat} (a2 a3 a4 : Int32) (ha2 : (-2147483648) ≤ a2.toInt ∧ a2.toInt ≤ 2147483647) (ha3 : (-2147483648) ≤ a3.toInt ∧ a3.toInt ≤ 2147483647) (ha4 : 0 ≤ a4.toInt ∧ a4.toInt ≤ 1) : px_CX ro (dd + 8) 116 [.ref 0, .int 3, .int a2, .int a3, .int a4] (.long (-1)) := by
  refine ⟨px_IX, px_PX, ?_, px_fr_0, px_frP_0⟩
  show px_E ro (dd + 8) 116 (0, _, [], _) _ _
  refine px_E_seg 3 (σ' := (5, [(0, .ref 0), (1, .int 3), (2, .int a2), (3, .int a3), (4, .int a4)], [.int 3, .ref 15], (px_shX, px_IX, px_JX, px_PX))) rfl ?_
  refine px_E_call (j := 80) (as := [.ref 15, .int 3]) (rest := []) (v := some (.int 0)) (h1 := (px_shX, px_IX, px_JX, px_PX)) rfl rfl rfl (by
    refine px_E_seg 6 (σ' := (10, [(0, .ref 15), (1, .int 3)], [.ref 15], (px_shX, px_IX, px_JX, px_PX))) rfl ?_
    refine px_E_seg 5 (σ' := (23, [(0, .ref 15), (1, .int 3)], [.int 0], (px_shX, px_IX, px_JX, px_PX))) rfl ?_
    exact px_E_ret rfl rfl) ?_
  refine px_E_seg 2 (σ' := (34, [(0, .ref 0), (1, .int 3), (2, .int a2), (3, .int a3), (4, .int a4)], [.long (-1)], (px_shX, px_IX, px_JX, px_PX))) rfl ?_
  exact px_E_ret rfl rfl
set_option maxRecDepth 100000 in
set_option maxHeartbeats 4000000 in
theorem px_r21_4 {ro : px_RO} {dd : Nat} (a2 a3 a4 : Int32) (ha2 : (-2147483648) ≤ a2.toInt ∧ a2.toInt ≤ 2147483647) (ha3 : (-2147483648) ≤ a3.toInt ∧ a3.toInt ≤ 2147483647) (ha4 : 0 ≤ a4.toInt ∧ a4.toInt ≤ 1) : px_RX ro (dd + 8) 289 [.ref 95, .int 3, .int a2, .int a3, .int a4] (.long (-1)) := by
  intro Ic Jc Pc
  refine ⟨(px_shX, (px_mI Ic), (px_mJ Jc), (px_mP Pc)), ?_, rfl⟩
  show px_E ro (dd + 8) 289 (0, _, [], _) _ _
  refine px_E_seg 2 (σ' := (2, [(0, .ref 95), (1, .int 3), (2, .int a2), (3, .int a3), (4, .int a4)], [.int 3, .ref 95], (px_shX, (px_mI Ic), (px_mJ Jc), (px_mP Pc)))) rfl ?_
  refine px_E_call (j := 254) (as := [.ref 95, .int 3]) (rest := []) (v := some (.int 0)) (h1 := (px_shX, (px_mI Ic), (px_mJ Jc), (px_mP Pc))) rfl rfl rfl (by
    refine px_E_seg 3 (σ' := (3, [(0, .ref 95), (1, .int 3)], [.int 3, .int 0, .int 3], (px_shX, (px_mI Ic), (px_mJ Jc), (px_mP Pc)))) rfl ?_
    refine px_E_call (j := 183) (as := [.int 3, .int 0, .int 3]) (rest := []) (v := some (.int 1)) (h1 := (px_shX, (px_mI Ic), (px_mJ Jc), (px_mP Pc))) rfl rfl rfl (by
      refine px_E_seg 6 (σ' := (10, [(0, .int 3), (1, .int 0), (2, .int 3)], [], (px_shX, (px_mI Ic), (px_mJ Jc), (px_mP Pc)))) rfl ?_
      refine px_E_seg 2 (σ' := (15, [(0, .int 3), (1, .int 0), (2, .int 3)], [.int 1], (px_shX, (px_mI Ic), (px_mJ Jc), (px_mP Pc)))) rfl ?_
      exact px_E_ret rfl rfl) ?_
    refine px_E_seg 3 (σ' := (11, [(0, .ref 95), (1, .int 3)], [.int 3, .ref 95], (px_shX, (px_mI Ic), (px_mJ Jc), (px_mP Pc)))) rfl ?_
    refine px_E_call (j := 242) (as := [.ref 95, .int 3]) (rest := []) (v := some (.int 0)) (h1 := (px_shX, (px_mI Ic), (px_mJ Jc), (px_mP Pc))) rfl rfl rfl (by
      refine px_E_seg 5 (σ' := (8, [(0, .ref 95), (1, .int 3)], [.int 3, .int 3, .int 114, .ref 96], (px_shX, (px_mI Ic), (px_mJ Jc), (px_mP Pc)))) rfl ?_
      refine px_E_seg 1 (σ' := (9, [(0, .ref 95), (1, .int 3)], [.int 9, .int 114, .ref 96], (px_shX, (px_mI Ic), (px_mJ Jc), (px_mP Pc)))) rfl ?_
      refine px_E_seg 2 (σ' := (11, [(0, .ref 95), (1, .int 3)], [.int 0], (px_shX, (px_mI Ic), (px_mJ Jc), (px_mP Pc)))) rfl ?_
      exact px_E_ret rfl rfl) ?_
    refine px_E_seg 2 (σ' := (22, [(0, .ref 95), (1, .int 3)], [.int 0], (px_shX, (px_mI Ic), (px_mJ Jc), (px_mP Pc)))) rfl ?_
    exact px_E_ret rfl rfl) ?_
  refine px_E_seg 2 (σ' := (28, [(0, .ref 95), (1, .int 3), (2, .int a2), (3, .int a3), (4, .int a4)], [.long (-1)], (px_shX, (px_mI Ic), (px_mJ Jc), (px_mP Pc)))) rfl ?_
  exact px_E_ret rfl rfl
set_option maxRecDepth 100000 in
set_option maxHeartbeats 4000000 in
theorem px_x21_5 {ro : px_RO} {dd : Nat} (a1 a2 a3 a4 : Int32) (ha1 : 4 ≤ a1.toInt ∧ a1.toInt ≤ 2147483647) (ha2 : (-2147483648) ≤ a2.toInt ∧ a2.toInt ≤ 2147483647) (ha3 : (-2147483648) ≤ a3.toInt ∧ a3.toInt ≤ 2147483647) (ha4 : 0 ≤ a4.toInt ∧ a4.toInt ≤ 1) : px_CX ro (dd + 8) 116 [.ref 0, .int a1, .int a2, .int a3, .int a4] (.long (-1)) := by
  refine ⟨px_IX, px_PX, ?_, px_fr_0, px_frP_0⟩
  show px_E ro (dd + 8) 116 (0, _, [], _) _ _
  refine px_E_seg 3 (σ' := (5, [(0, .ref 0), (1, .int a1), (2, .int a2), (3, .int a3), (4, .int a4)], [.int a1, .ref 15], (px_shX, px_IX, px_JX, px_PX))) rfl ?_
  refine px_E_call (j := 80) (as := [.ref 15, .int a1]) (rest := []) (v := some (.int 0)) (h1 := (px_shX, px_IX, px_JX, px_PX)) rfl rfl rfl (by
    refine px_E_seg 1 (σ' := (1, [(0, .ref 15), (1, .int a1)], [.int a1], (px_shX, px_IX, px_JX, px_PX))) rfl ?_
    refine px_E_ifF (t := 22) rfl rfl (show (0 : Int) ≤ a1.toInt by omega) ?_
    refine px_E_seg 2 (σ' := (6, [(0, .ref 15), (1, .int a1)], [.int 4, .int a1], (px_shX, px_IX, px_JX, px_PX))) rfl ?_
    refine px_E_icT (t := 22) rfl rfl (show (4 : Int) ≤ a1.toInt by omega) ?_
    refine px_E_seg 1 (σ' := (23, [(0, .ref 15), (1, .int a1)], [.int 0], (px_shX, px_IX, px_JX, px_PX))) rfl ?_
    exact px_E_ret rfl rfl) ?_
  refine px_E_seg 2 (σ' := (34, [(0, .ref 0), (1, .int a1), (2, .int a2), (3, .int a3), (4, .int a4)], [.long (-1)], (px_shX, px_IX, px_JX, px_PX))) rfl ?_
  exact px_E_ret rfl rfl
