def mh_X (ro : px_RO) (d k : Nat) (as : List Value) (r : Value) : Prop := ∀ h : px_H, px_M ro d k as h (some r) h
theorem mh_same {P Q : Prop} (a : P) (b : Q) : P ∧ Q := ⟨a, b⟩
theorem px_nat {x : Int32} {n : Nat} (h : 0 ≤ x.toInt ∧ x.toInt ≤ n) (hn : n < 2 ^ 31) : ∃ j : Nat, j ≤ n ∧ x = nI j := by
  refine ⟨x.toInt.toNat, by omega, Int32.toInt_inj.mp ?_⟩
  rw [nI_toInt (by omega)]
  omega
set_option maxRecDepth 100000 in
set_option maxHeartbeats 4000000 in
set_option maxRecDepth 100000 in
theorem mh_x29_in {ro : px_RO} {dd : Nat} {m C K : Nat} {f : Int32} (hm : m ≤ 9) (hC : C ≤ 12) (hK : K ≤ 12) : mh_X ro (dd + 8) 152 [.ref 0, .int (nI m), .int (nI C), .int (nI K), .int f] (.long (lt_ (cw K (nI m) C) (cS (nI m) C 13) f)) := by
  have em : (nI m).toInt = (m : Int) := nI_toInt (by omega)
  have eC : (nI C).toInt = (C : Int) := nI_toInt (by omega)
  have eK : (nI K).toInt = (K : Int) := nI_toInt (by omega)
  intro h
  show px_E ro (dd + 8) 152 (0, _, [], _) _ _
  refine px_E_seg 3 (σ' := (4, [(0, .ref 0), (1, .int (nI m)), (2, .int (nI C)), (3, .int (nI K)), (4, .int f)], [.int 9, .int 0, .int (nI m)], h)) rfl ?_
  refine px_E_call (j := 15) (as := [.int (nI m), .int 0, .int 9]) (rest := []) (v := some (.int 1)) (h1 := h) rfl rfl rfl (by
    refine px_E_seg 2 (σ' := (2, [(0, .int (nI m)), (1, .int 0), (2, .int 9)], [.int 0, .int (nI m)], h)) rfl ?_
    refine px_E_icF (t := 14) rfl rfl (show (0 : Int) ≤ (nI m).toInt by omega) ?_
    refine px_E_seg 2 (σ' := (7, [(0, .int (nI m)), (1, .int 0), (2, .int 9)], [.int 9, .int (nI m)], h)) rfl ?_
    refine px_E_icF (t := 14) rfl rfl (show (nI m).toInt ≤ (9 : Int) by omega) ?_
    refine px_E_seg 2 (σ' := (15, [(0, .int (nI m)), (1, .int 0), (2, .int 9)], [.int 1], h)) rfl ?_
    exact px_E_ret rfl rfl) ?_
  refine px_E_seg 4 (σ' := (14, [(0, .ref 0), (1, .int (nI m)), (2, .int (nI C)), (3, .int (nI K)), (4, .int f)], [.int 12, .int 0, .int (nI C)], h)) rfl ?_
  refine px_E_call (j := 15) (as := [.int (nI C), .int 0, .int 12]) (rest := []) (v := some (.int 1)) (h1 := h) rfl rfl rfl (by
    refine px_E_seg 2 (σ' := (2, [(0, .int (nI C)), (1, .int 0), (2, .int 12)], [.int 0, .int (nI C)], h)) rfl ?_
    refine px_E_icF (t := 14) rfl rfl (show (0 : Int) ≤ (nI C).toInt by omega) ?_
    refine px_E_seg 2 (σ' := (7, [(0, .int (nI C)), (1, .int 0), (2, .int 12)], [.int 12, .int (nI C)], h)) rfl ?_
    refine px_E_icF (t := 14) rfl rfl (show (nI C).toInt ≤ (12 : Int) by omega) ?_
    refine px_E_seg 2 (σ' := (15, [(0, .int (nI C)), (1, .int 0), (2, .int 12)], [.int 1], h)) rfl ?_
    exact px_E_ret rfl rfl) ?_
  refine px_E_seg 4 (σ' := (24, [(0, .ref 0), (1, .int (nI m)), (2, .int (nI C)), (3, .int (nI K)), (4, .int f)], [.int 12, .int 0, .int (nI K)], h)) rfl ?_
  refine px_E_call (j := 15) (as := [.int (nI K), .int 0, .int 12]) (rest := []) (v := some (.int 1)) (h1 := h) rfl rfl rfl (by
    refine px_E_seg 2 (σ' := (2, [(0, .int (nI K)), (1, .int 0), (2, .int 12)], [.int 0, .int (nI K)], h)) rfl ?_
    refine px_E_icF (t := 14) rfl rfl (show (0 : Int) ≤ (nI K).toInt by omega) ?_
    refine px_E_seg 2 (σ' := (7, [(0, .int (nI K)), (1, .int 0), (2, .int 12)], [.int 12, .int (nI K)], h)) rfl ?_
    refine px_E_icF (t := 14) rfl rfl (show (nI K).toInt ≤ (12 : Int) by omega) ?_
    refine px_E_seg 2 (σ' := (15, [(0, .int (nI K)), (1, .int 0), (2, .int 12)], [.int 1], h)) rfl ?_
    exact px_E_ret rfl rfl) ?_
  refine px_E_seg 1 (σ' := (34, [(0, .ref 0), (1, .int (nI m)), (2, .int (nI C)), (3, .int (nI K)), (4, .int f)], [], h)) rfl ?_
  exact mnC hC hK
set_option maxRecDepth 100000 in
set_option maxHeartbeats 4000000 in
set_option maxRecDepth 100000 in
theorem mh_r29_in {ro : px_RO} {dd : Nat} {m C K : Nat} {f : Int32} (hm : m ≤ 9) (hC : C ≤ 12) (hK : K ≤ 12) : mh_X ro (dd + 8) 308 [.ref 95, .int (nI m), .int (nI C), .int (nI K), .int f] (.long ((if f = 0 then rwF K (nI m) C else rS (nI m) C 13) / gl 100 (rwF K (nI m) C) (rS (nI m) C 13))) := by
  have em : (nI m).toInt = (m : Int) := nI_toInt (by omega)
  have eC : (nI C).toInt = (C : Int) := nI_toInt (by omega)
  have eK : (nI K).toInt = (K : Int) := nI_toInt (by omega)
  have ok := mn_all hm hC hK
  unfold mnOk at ok
  simp only [Bool.and_eq_true, decide_eq_true_eq] at ok
  intro h
  show px_E ro (dd + 8) 308 (0, _, [], _) _ _
  refine px_E_seg 3 (σ' := (4, [(0, .ref 95), (1, .int (nI m)), (2, .int (nI C)), (3, .int (nI K)), (4, .int f)], [.int 9, .int 0, .int (nI m)], h)) rfl ?_
  refine px_E_call (j := 183) (as := [.int (nI m), .int 0, .int 9]) (rest := []) (v := some (.int 1)) (h1 := h) rfl rfl rfl (by
    refine px_E_seg 2 (σ' := (2, [(0, .int (nI m)), (1, .int 0), (2, .int 9)], [.int 0, .int (nI m)], h)) rfl ?_
    refine px_E_icF (t := 14) rfl rfl (show (0 : Int) ≤ (nI m).toInt by omega) ?_
    refine px_E_seg 2 (σ' := (7, [(0, .int (nI m)), (1, .int 0), (2, .int 9)], [.int 9, .int (nI m)], h)) rfl ?_
    refine px_E_icF (t := 14) rfl rfl (show (nI m).toInt ≤ (9 : Int) by omega) ?_
    refine px_E_seg 2 (σ' := (15, [(0, .int (nI m)), (1, .int 0), (2, .int 9)], [.int 1], h)) rfl ?_
    exact px_E_ret rfl rfl) ?_
  refine px_E_seg 4 (σ' := (14, [(0, .ref 95), (1, .int (nI m)), (2, .int (nI C)), (3, .int (nI K)), (4, .int f)], [.int 12, .int 0, .int (nI C)], h)) rfl ?_
  refine px_E_call (j := 183) (as := [.int (nI C), .int 0, .int 12]) (rest := []) (v := some (.int 1)) (h1 := h) rfl rfl rfl (by
    refine px_E_seg 2 (σ' := (2, [(0, .int (nI C)), (1, .int 0), (2, .int 12)], [.int 0, .int (nI C)], h)) rfl ?_
    refine px_E_icF (t := 14) rfl rfl (show (0 : Int) ≤ (nI C).toInt by omega) ?_
    refine px_E_seg 2 (σ' := (7, [(0, .int (nI C)), (1, .int 0), (2, .int 12)], [.int 12, .int (nI C)], h)) rfl ?_
    refine px_E_icF (t := 14) rfl rfl (show (nI C).toInt ≤ (12 : Int) by omega) ?_
    refine px_E_seg 2 (σ' := (15, [(0, .int (nI C)), (1, .int 0), (2, .int 12)], [.int 1], h)) rfl ?_
    exact px_E_ret rfl rfl) ?_
  refine px_E_seg 4 (σ' := (24, [(0, .ref 95), (1, .int (nI m)), (2, .int (nI C)), (3, .int (nI K)), (4, .int f)], [.int 12, .int 0, .int (nI K)], h)) rfl ?_
  refine px_E_call (j := 183) (as := [.int (nI K), .int 0, .int 12]) (rest := []) (v := some (.int 1)) (h1 := h) rfl rfl rfl (by
    refine px_E_seg 2 (σ' := (2, [(0, .int (nI K)), (1, .int 0), (2, .int 12)], [.int 0, .int (nI K)], h)) rfl ?_
    refine px_E_icF (t := 14) rfl rfl (show (0 : Int) ≤ (nI K).toInt by omega) ?_
    refine px_E_seg 2 (σ' := (7, [(0, .int (nI K)), (1, .int 0), (2, .int 12)], [.int 12, .int (nI K)], h)) rfl ?_
    refine px_E_icF (t := 14) rfl rfl (show (nI K).toInt ≤ (12 : Int) by omega) ?_
    refine px_E_seg 2 (σ' := (15, [(0, .int (nI K)), (1, .int 0), (2, .int 12)], [.int 1], h)) rfl ?_
    exact px_E_ret rfl rfl) ?_
  refine px_E_seg 1 (σ' := (34, [(0, .ref 95), (1, .int (nI m)), (2, .int (nI C)), (3, .int (nI K)), (4, .int f)], [], h)) rfl ?_
  exact mnR hC hK ok.1.1.1 ok.1.1.2
set_option maxRecDepth 100000 in
set_option maxHeartbeats 4000000 in
set_option maxRecDepth 100000 in
theorem mh_x29_0 {ro : px_RO} {dd : Nat} (a1 a2 a3 a4 : Int32) (ha1 : (-2147483648) ≤ a1.toInt ∧ a1.toInt ≤ (-1)) (ha2 : (-2147483648) ≤ a2.toInt ∧ a2.toInt ≤ 2147483647) (ha3 : (-2147483648) ≤ a3.toInt ∧ a3.toInt ≤ 2147483647) (ha4 : 0 ≤ a4.toInt ∧ a4.toInt ≤ 1) : mh_X ro (dd + 8) 152 [.ref 0, .int a1, .int a2, .int a3, .int a4] (.long (-1)) := by
  intro h
  show px_E ro (dd + 8) 152 (0, _, [], _) _ _
  refine px_E_seg 3 (σ' := (4, [(0, .ref 0), (1, .int a1), (2, .int a2), (3, .int a3), (4, .int a4)], [.int 9, .int 0, .int a1], h)) rfl ?_
  refine px_E_call (j := 15) (as := [.int a1, .int 0, .int 9]) (rest := []) (v := some (.int 0)) (h1 := h) rfl rfl rfl (by
    refine px_E_seg 2 (σ' := (2, [(0, .int a1), (1, .int 0), (2, .int 9)], [.int 0, .int a1], h)) rfl ?_
    refine px_E_icT (t := 14) rfl rfl (show a1.toInt < (0 : Int) by omega) ?_
    refine px_E_seg 1 (σ' := (15, [(0, .int a1), (1, .int 0), (2, .int 9)], [.int 0], h)) rfl ?_
    exact px_E_ret rfl rfl) ?_
  refine px_E_seg 2 (σ' := (33, [(0, .ref 0), (1, .int a1), (2, .int a2), (3, .int a3), (4, .int a4)], [.long (-1)], h)) rfl ?_
  exact px_E_ret rfl rfl
set_option maxRecDepth 100000 in
set_option maxHeartbeats 4000000 in
set_option maxRecDepth 100000 in
theorem mh_r29_0 {ro : px_RO} {dd : Nat} (a1 a2 a3 a4 : Int32) (ha1 : (-2147483648) ≤ a1.toInt ∧ a1.toInt ≤ (-1)) (ha2 : (-2147483648) ≤ a2.toInt ∧ a2.toInt ≤ 2147483647) (ha3 : (-2147483648) ≤ a3.toInt ∧ a3.toInt ≤ 2147483647) (ha4 : 0 ≤ a4.toInt ∧ a4.toInt ≤ 1) : mh_X ro (dd + 8) 308 [.ref 95, .int a1, .int a2, .int a3, .int a4] (.long (-1)) := by
  intro h
  show px_E ro (dd + 8) 308 (0, _, [], _) _ _
  refine px_E_seg 3 (σ' := (4, [(0, .ref 95), (1, .int a1), (2, .int a2), (3, .int a3), (4, .int a4)], [.int 9, .int 0, .int a1], h)) rfl ?_
  refine px_E_call (j := 183) (as := [.int a1, .int 0, .int 9]) (rest := []) (v := some (.int 0)) (h1 := h) rfl rfl rfl (by
    refine px_E_seg 2 (σ' := (2, [(0, .int a1), (1, .int 0), (2, .int 9)], [.int 0, .int a1], h)) rfl ?_
    refine px_E_icT (t := 14) rfl rfl (show a1.toInt < (0 : Int) by omega) ?_
    refine px_E_seg 1 (σ' := (15, [(0, .int a1), (1, .int 0), (2, .int 9)], [.int 0], h)) rfl ?_
    exact px_E_ret rfl rfl) ?_
  refine px_E_seg 2 (σ' := (33, [(0, .ref 95), (1, .int a1), (2, .int a2), (3, .int a3), (4, .int a4)], [.long (-1)], h)) rfl ?_
  exact px_E_ret rfl rfl
set_option maxRecDepth 100000 in
set_option maxHeartbeats 4000000 in
set_option maxRecDepth 100000 in
theorem mh_x29_1 {ro : px_RO} {dd : Nat} (a1 a2 a3 a4 : Int32) (ha1 : 0 ≤ a1.toInt ∧ a1.toInt ≤ 9) (ha2 : (-2147483648) ≤ a2.toInt ∧ a2.toInt ≤ (-1)) (ha3 : (-2147483648) ≤ a3.toInt ∧ a3.toInt ≤ 2147483647) (ha4 : 0 ≤ a4.toInt ∧ a4.toInt ≤ 1) : mh_X ro (dd + 8) 152 [.ref 0, .int a1, .int a2, .int a3, .int a4] (.long (-1)) := by
  intro h
  show px_E ro (dd + 8) 152 (0, _, [], _) _ _
  refine px_E_seg 3 (σ' := (4, [(0, .ref 0), (1, .int a1), (2, .int a2), (3, .int a3), (4, .int a4)], [.int 9, .int 0, .int a1], h)) rfl ?_
  refine px_E_call (j := 15) (as := [.int a1, .int 0, .int 9]) (rest := []) (v := some (.int 1)) (h1 := h) rfl rfl rfl (by
    refine px_E_seg 2 (σ' := (2, [(0, .int a1), (1, .int 0), (2, .int 9)], [.int 0, .int a1], h)) rfl ?_
    refine px_E_icF (t := 14) rfl rfl (show (0 : Int) ≤ a1.toInt by omega) ?_
    refine px_E_seg 2 (σ' := (7, [(0, .int a1), (1, .int 0), (2, .int 9)], [.int 9, .int a1], h)) rfl ?_
    refine px_E_icF (t := 14) rfl rfl (show a1.toInt ≤ (9 : Int) by omega) ?_
    refine px_E_seg 2 (σ' := (15, [(0, .int a1), (1, .int 0), (2, .int 9)], [.int 1], h)) rfl ?_
    exact px_E_ret rfl rfl) ?_
  refine px_E_seg 4 (σ' := (14, [(0, .ref 0), (1, .int a1), (2, .int a2), (3, .int a3), (4, .int a4)], [.int 12, .int 0, .int a2], h)) rfl ?_
  refine px_E_call (j := 15) (as := [.int a2, .int 0, .int 12]) (rest := []) (v := some (.int 0)) (h1 := h) rfl rfl rfl (by
    refine px_E_seg 2 (σ' := (2, [(0, .int a2), (1, .int 0), (2, .int 12)], [.int 0, .int a2], h)) rfl ?_
    refine px_E_icT (t := 14) rfl rfl (show a2.toInt < (0 : Int) by omega) ?_
    refine px_E_seg 1 (σ' := (15, [(0, .int a2), (1, .int 0), (2, .int 12)], [.int 0], h)) rfl ?_
    exact px_E_ret rfl rfl) ?_
  refine px_E_seg 2 (σ' := (33, [(0, .ref 0), (1, .int a1), (2, .int a2), (3, .int a3), (4, .int a4)], [.long (-1)], h)) rfl ?_
  exact px_E_ret rfl rfl
set_option maxRecDepth 100000 in
set_option maxHeartbeats 4000000 in
set_option maxRecDepth 100000 in
theorem mh_r29_1 {ro : px_RO} {dd : Nat} (a1 a2 a3 a4 : Int32) (ha1 : 0 ≤ a1.toInt ∧ a1.toInt ≤ 9) (ha2 : (-2147483648) ≤ a2.toInt ∧ a2.toInt ≤ (-1)) (ha3 : (-2147483648) ≤ a3.toInt ∧ a3.toInt ≤ 2147483647) (ha4 : 0 ≤ a4.toInt ∧ a4.toInt ≤ 1) : mh_X ro (dd + 8) 308 [.ref 95, .int a1, .int a2, .int a3, .int a4] (.long (-1)) := by
  intro h
  show px_E ro (dd + 8) 308 (0, _, [], _) _ _
  refine px_E_seg 3 (σ' := (4, [(0, .ref 95), (1, .int a1), (2, .int a2), (3, .int a3), (4, .int a4)], [.int 9, .int 0, .int a1], h)) rfl ?_
  refine px_E_call (j := 183) (as := [.int a1, .int 0, .int 9]) (rest := []) (v := some (.int 1)) (h1 := h) rfl rfl rfl (by
    refine px_E_seg 2 (σ' := (2, [(0, .int a1), (1, .int 0), (2, .int 9)], [.int 0, .int a1], h)) rfl ?_
    refine px_E_icF (t := 14) rfl rfl (show (0 : Int) ≤ a1.toInt by omega) ?_
    refine px_E_seg 2 (σ' := (7, [(0, .int a1), (1, .int 0), (2, .int 9)], [.int 9, .int a1], h)) rfl ?_
    refine px_E_icF (t := 14) rfl rfl (show a1.toInt ≤ (9 : Int) by omega) ?_
    refine px_E_seg 2 (σ' := (15, [(0, .int a1), (1, .int 0), (2, .int 9)], [.int 1], h)) rfl ?_
    exact px_E_ret rfl rfl) ?_
  refine px_E_seg 4 (σ' := (14, [(0, .ref 95), (1, .int a1), (2, .int a2), (3, .int a3), (4, .int a4)], [.int 12, .int 0, .int a2], h)) rfl ?_
  refine px_E_call (j := 183) (as := [.int a2, .int 0, .int 12]) (rest := []) (v := some (.int 0)) (h1 := h) rfl rfl rfl (by
    refine px_E_seg 2 (σ' := (2, [(0, .int a2), (1, .int 0), (2, .int 12)], [.int 0, .int a2], h)) rfl ?_
    refine px_E_icT (t := 14) rfl rfl (show a2.toInt < (0 : Int) by omega) ?_
    refine px_E_seg 1 (σ' := (15, [(0, .int a2), (1, .int 0), (2, .int 12)], [.int 0], h)) rfl ?_
    exact px_E_ret rfl rfl) ?_
  refine px_E_seg 2 (σ' := (33, [(0, .ref 95), (1, .int a1), (2, .int a2), (3, .int a3), (4, .int a4)], [.long (-1)], h)) rfl ?_
  exact px_E_ret rfl rfl
set_option maxRecDepth 100000 in
set_option maxHeartbeats 4000000 in
set_option maxRecDepth 100000 in
theorem mh_x29_2 {ro : px_RO} {dd : Nat} (a1 a2 a3 a4 : Int32) (ha1 : 0 ≤ a1.toInt ∧ a1.toInt ≤ 9) (ha2 : 0 ≤ a2.toInt ∧ a2.toInt ≤ 12) (ha3 : (-2147483648) ≤ a3.toInt ∧ a3.toInt ≤ (-1)) (ha4 : 0 ≤ a4.toInt ∧ a4.toInt ≤ 1) : mh_X ro (dd + 8) 152 [.ref 0, .int a1, .int a2, .int a3, .int a4] (.long (-1)) := by
  intro h
  show px_E ro (dd + 8) 152 (0, _, [], _) _ _
  refine px_E_seg 3 (σ' := (4, [(0, .ref 0), (1, .int a1), (2, .int a2), (3, .int a3), (4, .int a4)], [.int 9, .int 0, .int a1], h)) rfl ?_
  refine px_E_call (j := 15) (as := [.int a1, .int 0, .int 9]) (rest := []) (v := some (.int 1)) (h1 := h) rfl rfl rfl (by
    refine px_E_seg 2 (σ' := (2, [(0, .int a1), (1, .int 0), (2, .int 9)], [.int 0, .int a1], h)) rfl ?_
    refine px_E_icF (t := 14) rfl rfl (show (0 : Int) ≤ a1.toInt by omega) ?_
    refine px_E_seg 2 (σ' := (7, [(0, .int a1), (1, .int 0), (2, .int 9)], [.int 9, .int a1], h)) rfl ?_
    refine px_E_icF (t := 14) rfl rfl (show a1.toInt ≤ (9 : Int) by omega) ?_
    refine px_E_seg 2 (σ' := (15, [(0, .int a1), (1, .int 0), (2, .int 9)], [.int 1], h)) rfl ?_
    exact px_E_ret rfl rfl) ?_
  refine px_E_seg 4 (σ' := (14, [(0, .ref 0), (1, .int a1), (2, .int a2), (3, .int a3), (4, .int a4)], [.int 12, .int 0, .int a2], h)) rfl ?_
  refine px_E_call (j := 15) (as := [.int a2, .int 0, .int 12]) (rest := []) (v := some (.int 1)) (h1 := h) rfl rfl rfl (by
    refine px_E_seg 2 (σ' := (2, [(0, .int a2), (1, .int 0), (2, .int 12)], [.int 0, .int a2], h)) rfl ?_
    refine px_E_icF (t := 14) rfl rfl (show (0 : Int) ≤ a2.toInt by omega) ?_
    refine px_E_seg 2 (σ' := (7, [(0, .int a2), (1, .int 0), (2, .int 12)], [.int 12, .int a2], h)) rfl ?_
    refine px_E_icF (t := 14) rfl rfl (show a2.toInt ≤ (12 : Int) by omega) ?_
    refine px_E_seg 2 (σ' := (15, [(0, .int a2), (1, .int 0), (2, .int 12)], [.int 1], h)) rfl ?_
    exact px_E_ret rfl rfl) ?_
  refine px_E_seg 4 (σ' := (24, [(0, .ref 0), (1, .int a1), (2, .int a2), (3, .int a3), (4, .int a4)], [.int 12, .int 0, .int a3], h)) rfl ?_
  refine px_E_call (j := 15) (as := [.int a3, .int 0, .int 12]) (rest := []) (v := some (.int 0)) (h1 := h) rfl rfl rfl (by
    refine px_E_seg 2 (σ' := (2, [(0, .int a3), (1, .int 0), (2, .int 12)], [.int 0, .int a3], h)) rfl ?_
    refine px_E_icT (t := 14) rfl rfl (show a3.toInt < (0 : Int) by omega) ?_
    refine px_E_seg 1 (σ' := (15, [(0, .int a3), (1, .int 0), (2, .int 12)], [.int 0], h)) rfl ?_
    exact px_E_ret rfl rfl) ?_
  refine px_E_seg 2 (σ' := (33, [(0, .ref 0), (1, .int a1), (2, .int a2), (3, .int a3), (4, .int a4)], [.long (-1)], h)) rfl ?_
  exact px_E_ret rfl rfl
set_option maxRecDepth 100000 in
set_option maxHeartbeats 4000000 in
set_option maxRecDepth 100000 in
theorem mh_r29_2 {ro : px_RO} {dd : Nat} (a1 a2 a3 a4 : Int32) (ha1 : 0 ≤ a1.toInt ∧ a1.toInt ≤ 9) (ha2 : 0 ≤ a2.toInt ∧ a2.toInt ≤ 12) (ha3 : (-2147483648) ≤ a3.toInt ∧ a3.toInt ≤ (-1)) (ha4 : 0 ≤ a4.toInt ∧ a4.toInt ≤ 1) : mh_X ro (dd + 8) 308 [.ref 95, .int a1, .int a2, .int a3, .int a4] (.long (-1)) := by
  intro h
  show px_E ro (dd + 8) 308 (0, _, [], _) _ _
  refine px_E_seg 3 (σ' := (4, [(0, .ref 95), (1, .int a1), (2, .int a2), (3, .int a3), (4, .int a4)], [.int 9, .int 0, .int a1], h)) rfl ?_
  refine px_E_call (j := 183) (as := [.int a1, .int 0, .int 9]) (rest := []) (v := some (.int 1)) (h1 := h) rfl rfl rfl (by
    refine px_E_seg 2 (σ' := (2, [(0, .int a1), (1, .int 0), (2, .int 9)], [.int 0, .int a1], h)) rfl ?_
    refine px_E_icF (t := 14) rfl rfl (show (0 : Int) ≤ a1.toInt by omega) ?_
    refine px_E_seg 2 (σ' := (7, [(0, .int a1), (1, .int 0), (2, .int 9)], [.int 9, .int a1], h)) rfl ?_
    refine px_E_icF (t := 14) rfl rfl (show a1.toInt ≤ (9 : Int) by omega) ?_
    refine px_E_seg 2 (σ' := (15, [(0, .int a1), (1, .int 0), (2, .int 9)], [.int 1], h)) rfl ?_
    exact px_E_ret rfl rfl) ?_
  refine px_E_seg 4 (σ' := (14, [(0, .ref 95), (1, .int a1), (2, .int a2), (3, .int a3), (4, .int a4)], [.int 12, .int 0, .int a2], h)) rfl ?_
  refine px_E_call (j := 183) (as := [.int a2, .int 0, .int 12]) (rest := []) (v := some (.int 1)) (h1 := h) rfl rfl rfl (by
    refine px_E_seg 2 (σ' := (2, [(0, .int a2), (1, .int 0), (2, .int 12)], [.int 0, .int a2], h)) rfl ?_
    refine px_E_icF (t := 14) rfl rfl (show (0 : Int) ≤ a2.toInt by omega) ?_
    refine px_E_seg 2 (σ' := (7, [(0, .int a2), (1, .int 0), (2, .int 12)], [.int 12, .int a2], h)) rfl ?_
    refine px_E_icF (t := 14) rfl rfl (show a2.toInt ≤ (12 : Int) by omega) ?_
    refine px_E_seg 2 (σ' := (15, [(0, .int a2), (1, .int 0), (2, .int 12)], [.int 1], h)) rfl ?_
    exact px_E_ret rfl rfl) ?_
  refine px_E_seg 4 (σ' := (24, [(0, .ref 95), (1, .int a1), (2, .int a2), (3, .int a3), (4, .int a4)], [.int 12, .int 0, .int a3], h)) rfl ?_
  refine px_E_call (j := 183) (as := [.int a3, .int 0, .int 12]) (rest := []) (v := some (.int 0)) (h1 := h) rfl rfl rfl (by
    refine px_E_seg 2 (σ' := (2, [(0, .int a3), (1, .int 0), (2, .int 12)], [.int 0, .int a3], h)) rfl ?_
    refine px_E_icT (t := 14) rfl rfl (show a3.toInt < (0 : Int) by omega) ?_
    refine px_E_seg 1 (σ' := (15, [(0, .int a3), (1, .int 0), (2, .int 12)], [.int 0], h)) rfl ?_
    exact px_E_ret rfl rfl) ?_
  refine px_E_seg 2 (σ' := (33, [(0, .ref 95), (1, .int a1), (2, .int a2), (3, .int a3), (4, .int a4)], [.long (-1)], h)) rfl ?_
  exact px_E_ret rfl rfl
set_option maxRecDepth 100000 in
set_option maxHeartbeats 4000000 in
set_option maxRecDepth 100000 in
theorem mh_x29_4 {ro : px_RO} {dd : Nat} (a1 a2 a3 a4 : Int32) (ha1 : 0 ≤ a1.toInt ∧ a1.toInt ≤ 9) (ha2 : 0 ≤ a2.toInt ∧ a2.toInt ≤ 12) (ha3 : 13 ≤ a3.toInt ∧ a3.toInt ≤ 2147483647) (ha4 : 0 ≤ a4.toInt ∧ a4.toInt ≤ 1) : mh_X ro (dd + 8) 152 [.ref 0, .int a1, .int a2, .int a3, .int a4] (.long (-1)) := by
  intro h
  show px_E ro (dd + 8) 152 (0, _, [], _) _ _
  refine px_E_seg 3 (σ' := (4, [(0, .ref 0), (1, .int a1), (2, .int a2), (3, .int a3), (4, .int a4)], [.int 9, .int 0, .int a1], h)) rfl ?_
  refine px_E_call (j := 15) (as := [.int a1, .int 0, .int 9]) (rest := []) (v := some (.int 1)) (h1 := h) rfl rfl rfl (by
    refine px_E_seg 2 (σ' := (2, [(0, .int a1), (1, .int 0), (2, .int 9)], [.int 0, .int a1], h)) rfl ?_
    refine px_E_icF (t := 14) rfl rfl (show (0 : Int) ≤ a1.toInt by omega) ?_
    refine px_E_seg 2 (σ' := (7, [(0, .int a1), (1, .int 0), (2, .int 9)], [.int 9, .int a1], h)) rfl ?_
    refine px_E_icF (t := 14) rfl rfl (show a1.toInt ≤ (9 : Int) by omega) ?_
    refine px_E_seg 2 (σ' := (15, [(0, .int a1), (1, .int 0), (2, .int 9)], [.int 1], h)) rfl ?_
    exact px_E_ret rfl rfl) ?_
  refine px_E_seg 4 (σ' := (14, [(0, .ref 0), (1, .int a1), (2, .int a2), (3, .int a3), (4, .int a4)], [.int 12, .int 0, .int a2], h)) rfl ?_
  refine px_E_call (j := 15) (as := [.int a2, .int 0, .int 12]) (rest := []) (v := some (.int 1)) (h1 := h) rfl rfl rfl (by
    refine px_E_seg 2 (σ' := (2, [(0, .int a2), (1, .int 0), (2, .int 12)], [.int 0, .int a2], h)) rfl ?_
    refine px_E_icF (t := 14) rfl rfl (show (0 : Int) ≤ a2.toInt by omega) ?_
    refine px_E_seg 2 (σ' := (7, [(0, .int a2), (1, .int 0), (2, .int 12)], [.int 12, .int a2], h)) rfl ?_
    refine px_E_icF (t := 14) rfl rfl (show a2.toInt ≤ (12 : Int) by omega) ?_
    refine px_E_seg 2 (σ' := (15, [(0, .int a2), (1, .int 0), (2, .int 12)], [.int 1], h)) rfl ?_
    exact px_E_ret rfl rfl) ?_
  refine px_E_seg 4 (σ' := (24, [(0, .ref 0), (1, .int a1), (2, .int a2), (3, .int a3), (4, .int a4)], [.int 12, .int 0, .int a3], h)) rfl ?_
  refine px_E_call (j := 15) (as := [.int a3, .int 0, .int 12]) (rest := []) (v := some (.int 0)) (h1 := h) rfl rfl rfl (by
    refine px_E_seg 2 (σ' := (2, [(0, .int a3), (1, .int 0), (2, .int 12)], [.int 0, .int a3], h)) rfl ?_
    refine px_E_icF (t := 14) rfl rfl (show (0 : Int) ≤ a3.toInt by omega) ?_
    refine px_E_seg 2 (σ' := (7, [(0, .int a3), (1, .int 0), (2, .int 12)], [.int 12, .int a3], h)) rfl ?_
    refine px_E_icT (t := 14) rfl rfl (show (12 : Int) < a3.toInt by omega) ?_
    refine px_E_seg 1 (σ' := (15, [(0, .int a3), (1, .int 0), (2, .int 12)], [.int 0], h)) rfl ?_
    exact px_E_ret rfl rfl) ?_
  refine px_E_seg 2 (σ' := (33, [(0, .ref 0), (1, .int a1), (2, .int a2), (3, .int a3), (4, .int a4)], [.long (-1)], h)) rfl ?_
  exact px_E_ret rfl rfl
set_option maxRecDepth 100000 in
set_option maxHeartbeats 4000000 in
set_option maxRecDepth 100000 in
theorem mh_r29_4 {ro : px_RO} {dd : Nat} (a1 a2 a3 a4 : Int32) (ha1 : 0 ≤ a1.toInt ∧ a1.toInt ≤ 9) (ha2 : 0 ≤ a2.toInt ∧ a2.toInt ≤ 12) (ha3 : 13 ≤ a3.toInt ∧ a3.toInt ≤ 2147483647) (ha4 : 0 ≤ a4.toInt ∧ a4.toInt ≤ 1) : mh_X ro (dd + 8) 308 [.ref 95, .int a1, .int a2, .int a3, .int a4] (.long (-1)) := by
  intro h
  show px_E ro (dd + 8) 308 (0, _, [], _) _ _
  refine px_E_seg 3 (σ' := (4, [(0, .ref 95), (1, .int a1), (2, .int a2), (3, .int a3), (4, .int a4)], [.int 9, .int 0, .int a1], h)) rfl ?_
  refine px_E_call (j := 183) (as := [.int a1, .int 0, .int 9]) (rest := []) (v := some (.int 1)) (h1 := h) rfl rfl rfl (by
    refine px_E_seg 2 (σ' := (2, [(0, .int a1), (1, .int 0), (2, .int 9)], [.int 0, .int a1], h)) rfl ?_
    refine px_E_icF (t := 14) rfl rfl (show (0 : Int) ≤ a1.toInt by omega) ?_
    refine px_E_seg 2 (σ' := (7, [(0, .int a1), (1, .int 0), (2, .int 9)], [.int 9, .int a1], h)) rfl ?_
    refine px_E_icF (t := 14) rfl rfl (show a1.toInt ≤ (9 : Int) by omega) ?_
    refine px_E_seg 2 (σ' := (15, [(0, .int a1), (1, .int 0), (2, .int 9)], [.int 1], h)) rfl ?_
    exact px_E_ret rfl rfl) ?_
  refine px_E_seg 4 (σ' := (14, [(0, .ref 95), (1, .int a1), (2, .int a2), (3, .int a3), (4, .int a4)], [.int 12, .int 0, .int a2], h)) rfl ?_
  refine px_E_call (j := 183) (as := [.int a2, .int 0, .int 12]) (rest := []) (v := some (.int 1)) (h1 := h) rfl rfl rfl (by
    refine px_E_seg 2 (σ' := (2, [(0, .int a2), (1, .int 0), (2, .int 12)], [.int 0, .int a2], h)) rfl ?_
    refine px_E_icF (t := 14) rfl rfl (show (0 : Int) ≤ a2.toInt by omega) ?_
    refine px_E_seg 2 (σ' := (7, [(0, .int a2), (1, .int 0), (2, .int 12)], [.int 12, .int a2], h)) rfl ?_
    refine px_E_icF (t := 14) rfl rfl (show a2.toInt ≤ (12 : Int) by omega) ?_
    refine px_E_seg 2 (σ' := (15, [(0, .int a2), (1, .int 0), (2, .int 12)], [.int 1], h)) rfl ?_
    exact px_E_ret rfl rfl) ?_
  refine px_E_seg 4 (σ' := (24, [(0, .ref 95), (1, .int a1), (2, .int a2), (3, .int a3), (4, .int a4)], [.int 12, .int 0, .int a3], h)) rfl ?_
  refine px_E_call (j := 183) (as := [.int a3, .int 0, .int 12]) (rest := []) (v := some (.int 0)) (h1 := h) rfl rfl rfl (by
    refine px_E_seg 2 (σ' := (2, [(0, .int a3), (1, .int 0), (2, .int 12)], [.int 0, .int a3], h)) rfl ?_
    refine px_E_icF (t := 14) rfl rfl (show (0 : Int) ≤ a3.toInt by omega) ?_
    refine px_E_seg 2 (σ' := (7, [(0, .int a3), (1, .int 0), (2, .int 12)], [.int 12, .int a3], h)) rfl ?_
    refine px_E_icT (t := 14) rfl rfl (show (12 : Int) < a3.toInt by omega) ?_
    refine px_E_seg 1 (σ' := (15, [(0, .int a3), (1, .int 0), (2, .int 12)], [.int 0], h)) rfl ?_
    exact px_E_ret rfl rfl) ?_
  refine px_E_seg 2 (σ' := (33, [(0, .ref 95), (1, .int a1), (2, .int a2), (3, .int a3), (4, .int a4)], [.long (-1)], h)) rfl ?_
  exact px_E_ret rfl rfl
set_option maxRecDepth 100000 in
set_option maxHeartbeats 4000000 in
set_option maxRecDepth 100000 in
theorem mh_x29_5 {ro : px_RO} {dd : Nat} (a1 a2 a3 a4 : Int32) (ha1 : 0 ≤ a1.toInt ∧ a1.toInt ≤ 9) (ha2 : 13 ≤ a2.toInt ∧ a2.toInt ≤ 2147483647) (ha3 : (-2147483648) ≤ a3.toInt ∧ a3.toInt ≤ 2147483647) (ha4 : 0 ≤ a4.toInt ∧ a4.toInt ≤ 1) : mh_X ro (dd + 8) 152 [.ref 0, .int a1, .int a2, .int a3, .int a4] (.long (-1)) := by
  intro h
  show px_E ro (dd + 8) 152 (0, _, [], _) _ _
  refine px_E_seg 3 (σ' := (4, [(0, .ref 0), (1, .int a1), (2, .int a2), (3, .int a3), (4, .int a4)], [.int 9, .int 0, .int a1], h)) rfl ?_
  refine px_E_call (j := 15) (as := [.int a1, .int 0, .int 9]) (rest := []) (v := some (.int 1)) (h1 := h) rfl rfl rfl (by
    refine px_E_seg 2 (σ' := (2, [(0, .int a1), (1, .int 0), (2, .int 9)], [.int 0, .int a1], h)) rfl ?_
    refine px_E_icF (t := 14) rfl rfl (show (0 : Int) ≤ a1.toInt by omega) ?_
    refine px_E_seg 2 (σ' := (7, [(0, .int a1), (1, .int 0), (2, .int 9)], [.int 9, .int a1], h)) rfl ?_
    refine px_E_icF (t := 14) rfl rfl (show a1.toInt ≤ (9 : Int) by omega) ?_
    refine px_E_seg 2 (σ' := (15, [(0, .int a1), (1, .int 0), (2, .int 9)], [.int 1], h)) rfl ?_
    exact px_E_ret rfl rfl) ?_
  refine px_E_seg 4 (σ' := (14, [(0, .ref 0), (1, .int a1), (2, .int a2), (3, .int a3), (4, .int a4)], [.int 12, .int 0, .int a2], h)) rfl ?_
  refine px_E_call (j := 15) (as := [.int a2, .int 0, .int 12]) (rest := []) (v := some (.int 0)) (h1 := h) rfl rfl rfl (by
    refine px_E_seg 2 (σ' := (2, [(0, .int a2), (1, .int 0), (2, .int 12)], [.int 0, .int a2], h)) rfl ?_
    refine px_E_icF (t := 14) rfl rfl (show (0 : Int) ≤ a2.toInt by omega) ?_
    refine px_E_seg 2 (σ' := (7, [(0, .int a2), (1, .int 0), (2, .int 12)], [.int 12, .int a2], h)) rfl ?_
    refine px_E_icT (t := 14) rfl rfl (show (12 : Int) < a2.toInt by omega) ?_
    refine px_E_seg 1 (σ' := (15, [(0, .int a2), (1, .int 0), (2, .int 12)], [.int 0], h)) rfl ?_
    exact px_E_ret rfl rfl) ?_
  refine px_E_seg 2 (σ' := (33, [(0, .ref 0), (1, .int a1), (2, .int a2), (3, .int a3), (4, .int a4)], [.long (-1)], h)) rfl ?_
  exact px_E_ret rfl rfl
set_option maxRecDepth 100000 in
set_option maxHeartbeats 4000000 in
set_option maxRecDepth 100000 in
theorem mh_r29_5 {ro : px_RO} {dd : Nat} (a1 a2 a3 a4 : Int32) (ha1 : 0 ≤ a1.toInt ∧ a1.toInt ≤ 9) (ha2 : 13 ≤ a2.toInt ∧ a2.toInt ≤ 2147483647) (ha3 : (-2147483648) ≤ a3.toInt ∧ a3.toInt ≤ 2147483647) (ha4 : 0 ≤ a4.toInt ∧ a4.toInt ≤ 1) : mh_X ro (dd + 8) 308 [.ref 95, .int a1, .int a2, .int a3, .int a4] (.long (-1)) := by
  intro h
  show px_E ro (dd + 8) 308 (0, _, [], _) _ _
  refine px_E_seg 3 (σ' := (4, [(0, .ref 95), (1, .int a1), (2, .int a2), (3, .int a3), (4, .int a4)], [.int 9, .int 0, .int a1], h)) rfl ?_
  refine px_E_call (j := 183) (as := [.int a1, .int 0, .int 9]) (rest := []) (v := some (.int 1)) (h1 := h) rfl rfl rfl (by
    refine px_E_seg 2 (σ' := (2, [(0, .int a1), (1, .int 0), (2, .int 9)], [.int 0, .int a1], h)) rfl ?_
    refine px_E_icF (t := 14) rfl rfl (show (0 : Int) ≤ a1.toInt by omega) ?_
    refine px_E_seg 2 (σ' := (7, [(0, .int a1), (1, .int 0), (2, .int 9)], [.int 9, .int a1], h)) rfl ?_
    refine px_E_icF (t := 14) rfl rfl (show a1.toInt ≤ (9 : Int) by omega) ?_
    refine px_E_seg 2 (σ' := (15, [(0, .int a1), (1, .int 0), (2, .int 9)], [.int 1], h)) rfl ?_
    exact px_E_ret rfl rfl) ?_
  refine px_E_seg 4 (σ' := (14, [(0, .ref 95), (1, .int a1), (2, .int a2), (3, .int a3), (4, .int a4)], [.int 12, .int 0, .int a2], h)) rfl ?_
  refine px_E_call (j := 183) (as := [.int a2, .int 0, .int 12]) (rest := []) (v := some (.int 0)) (h1 := h) rfl rfl rfl (by
    refine px_E_seg 2 (σ' := (2, [(0, .int a2), (1, .int 0), (2, .int 12)], [.int 0, .int a2], h)) rfl ?_
    refine px_E_icF (t := 14) rfl rfl (show (0 : Int) ≤ a2.toInt by omega) ?_
    refine px_E_seg 2 (σ' := (7, [(0, .int a2), (1, .int 0), (2, .int 12)], [.int 12, .int a2], h)) rfl ?_
    refine px_E_icT (t := 14) rfl rfl (show (12 : Int) < a2.toInt by omega) ?_
    refine px_E_seg 1 (σ' := (15, [(0, .int a2), (1, .int 0), (2, .int 12)], [.int 0], h)) rfl ?_
    exact px_E_ret rfl rfl) ?_
  refine px_E_seg 2 (σ' := (33, [(0, .ref 95), (1, .int a1), (2, .int a2), (3, .int a3), (4, .int a4)], [.long (-1)], h)) rfl ?_
  exact px_E_ret rfl rfl
set_option maxRecDepth 100000 in
set_option maxHeartbeats 4000000 in
set_option maxRecDepth 100000 in
theorem mh_x29_6 {ro : px_RO} {dd : Nat} (a1 a2 a3 a4 : Int32) (ha1 : 10 ≤ a1.toInt ∧ a1.toInt ≤ 2147483647) (ha2 : (-2147483648) ≤ a2.toInt ∧ a2.toInt ≤ 2147483647) (ha3 : (-2147483648) ≤ a3.toInt ∧ a3.toInt ≤ 2147483647) (ha4 : 0 ≤ a4.toInt ∧ a4.toInt ≤ 1) : mh_X ro (dd + 8) 152 [.ref 0, .int a1, .int a2, .int a3, .int a4] (.long (-1)) := by
  intro h
  show px_E ro (dd + 8) 152 (0, _, [], _) _ _
  refine px_E_seg 3 (σ' := (4, [(0, .ref 0), (1, .int a1), (2, .int a2), (3, .int a3), (4, .int a4)], [.int 9, .int 0, .int a1], h)) rfl ?_
  refine px_E_call (j := 15) (as := [.int a1, .int 0, .int 9]) (rest := []) (v := some (.int 0)) (h1 := h) rfl rfl rfl (by
    refine px_E_seg 2 (σ' := (2, [(0, .int a1), (1, .int 0), (2, .int 9)], [.int 0, .int a1], h)) rfl ?_
    refine px_E_icF (t := 14) rfl rfl (show (0 : Int) ≤ a1.toInt by omega) ?_
    refine px_E_seg 2 (σ' := (7, [(0, .int a1), (1, .int 0), (2, .int 9)], [.int 9, .int a1], h)) rfl ?_
    refine px_E_icT (t := 14) rfl rfl (show (9 : Int) < a1.toInt by omega) ?_
    refine px_E_seg 1 (σ' := (15, [(0, .int a1), (1, .int 0), (2, .int 9)], [.int 0], h)) rfl ?_
    exact px_E_ret rfl rfl) ?_
  refine px_E_seg 2 (σ' := (33, [(0, .ref 0), (1, .int a1), (2, .int a2), (3, .int a3), (4, .int a4)], [.long (-1)], h)) rfl ?_
  exact px_E_ret rfl rfl
set_option maxRecDepth 100000 in
set_option maxHeartbeats 4000000 in
set_option maxRecDepth 100000 in
theorem mh_r29_6 {ro : px_RO} {dd : Nat} (a1 a2 a3 a4 : Int32) (ha1 : 10 ≤ a1.toInt ∧ a1.toInt ≤ 2147483647) (ha2 : (-2147483648) ≤ a2.toInt ∧ a2.toInt ≤ 2147483647) (ha3 : (-2147483648) ≤ a3.toInt ∧ a3.toInt ≤ 2147483647) (ha4 : 0 ≤ a4.toInt ∧ a4.toInt ≤ 1) : mh_X ro (dd + 8) 308 [.ref 95, .int a1, .int a2, .int a3, .int a4] (.long (-1)) := by
  intro h
  show px_E ro (dd + 8) 308 (0, _, [], _) _ _
  refine px_E_seg 3 (σ' := (4, [(0, .ref 95), (1, .int a1), (2, .int a2), (3, .int a3), (4, .int a4)], [.int 9, .int 0, .int a1], h)) rfl ?_
  refine px_E_call (j := 183) (as := [.int a1, .int 0, .int 9]) (rest := []) (v := some (.int 0)) (h1 := h) rfl rfl rfl (by
    refine px_E_seg 2 (σ' := (2, [(0, .int a1), (1, .int 0), (2, .int 9)], [.int 0, .int a1], h)) rfl ?_
    refine px_E_icF (t := 14) rfl rfl (show (0 : Int) ≤ a1.toInt by omega) ?_
    refine px_E_seg 2 (σ' := (7, [(0, .int a1), (1, .int 0), (2, .int 9)], [.int 9, .int a1], h)) rfl ?_
    refine px_E_icT (t := 14) rfl rfl (show (9 : Int) < a1.toInt by omega) ?_
    refine px_E_seg 1 (σ' := (15, [(0, .int a1), (1, .int 0), (2, .int 9)], [.int 0], h)) rfl ?_
    exact px_E_ret rfl rfl) ?_
  refine px_E_seg 2 (σ' := (33, [(0, .ref 95), (1, .int a1), (2, .int a2), (3, .int a3), (4, .int a4)], [.long (-1)], h)) rfl ?_
  exact px_E_ret rfl rfl
theorem mh_case {ro : px_RO} (a1 a2 a3 a4 : Int32) (fa4 : a4 = 0 ∨ a4 = 1) : ∃ v : Int64, ∀ dd : Nat, mh_X ro (dd + 8) 152 [.ref 0, .int a1, .int a2, .int a3, .int a4] (.long v) ∧ mh_X ro (dd + 8) 308 [.ref 95, .int a1, .int a2, .int a3, .int a4] (.long v) := by
  have qa1 : -2147483648 ≤ a1.toInt ∧ a1.toInt ≤ 2147483647 := ⟨a1.le_toInt, by have := a1.toInt_lt; omega⟩
  have qa2 : -2147483648 ≤ a2.toInt ∧ a2.toInt ≤ 2147483647 := ⟨a2.le_toInt, by have := a2.toInt_lt; omega⟩
  have qa3 : -2147483648 ≤ a3.toInt ∧ a3.toInt ≤ 2147483647 := ⟨a3.le_toInt, by have := a3.toInt_lt; omega⟩
  have qa4 : 0 ≤ a4.toInt ∧ a4.toInt ≤ 1 := by rcases fa4 with rfl | rfl <;> decide
  rcases (show ((-2147483648 ≤ a1.toInt ∧ a1.toInt ≤ -1) ∧ (-2147483648 ≤ a2.toInt ∧ a2.toInt ≤ 2147483647) ∧ (-2147483648 ≤ a3.toInt ∧ a3.toInt ≤ 2147483647) ∧ (0 ≤ a4.toInt ∧ a4.toInt ≤ 1)) ∨ ((0 ≤ a1.toInt ∧ a1.toInt ≤ 9) ∧ (-2147483648 ≤ a2.toInt ∧ a2.toInt ≤ -1) ∧ (-2147483648 ≤ a3.toInt ∧ a3.toInt ≤ 2147483647) ∧ (0 ≤ a4.toInt ∧ a4.toInt ≤ 1)) ∨ ((0 ≤ a1.toInt ∧ a1.toInt ≤ 9) ∧ (0 ≤ a2.toInt ∧ a2.toInt ≤ 12) ∧ (-2147483648 ≤ a3.toInt ∧ a3.toInt ≤ -1) ∧ (0 ≤ a4.toInt ∧ a4.toInt ≤ 1)) ∨ ((0 ≤ a1.toInt ∧ a1.toInt ≤ 9) ∧ (0 ≤ a2.toInt ∧ a2.toInt ≤ 12) ∧ (0 ≤ a3.toInt ∧ a3.toInt ≤ 12) ∧ (0 ≤ a4.toInt ∧ a4.toInt ≤ 1)) ∨ ((0 ≤ a1.toInt ∧ a1.toInt ≤ 9) ∧ (0 ≤ a2.toInt ∧ a2.toInt ≤ 12) ∧ (13 ≤ a3.toInt ∧ a3.toInt ≤ 2147483647) ∧ (0 ≤ a4.toInt ∧ a4.toInt ≤ 1)) ∨ ((0 ≤ a1.toInt ∧ a1.toInt ≤ 9) ∧ (13 ≤ a2.toInt ∧ a2.toInt ≤ 2147483647) ∧ (-2147483648 ≤ a3.toInt ∧ a3.toInt ≤ 2147483647) ∧ (0 ≤ a4.toInt ∧ a4.toInt ≤ 1)) ∨ ((10 ≤ a1.toInt ∧ a1.toInt ≤ 2147483647) ∧ (-2147483648 ≤ a2.toInt ∧ a2.toInt ≤ 2147483647) ∧ (-2147483648 ≤ a3.toInt ∧ a3.toInt ≤ 2147483647) ∧ (0 ≤ a4.toInt ∧ a4.toInt ≤ 1)) by omega) with ⟨pa1, pa2, pa3, pa4⟩ | ⟨pa1, pa2, pa3, pa4⟩ | ⟨pa1, pa2, pa3, pa4⟩ | ⟨pa1, pa2, pa3, pa4⟩ | ⟨pa1, pa2, pa3, pa4⟩ | ⟨pa1, pa2, pa3, pa4⟩ | ⟨pa1, pa2, pa3, pa4⟩
  · exact ⟨_, fun dd => mh_same (mh_x29_0 a1 a2 a3 a4 pa1 pa2 pa3 pa4) (mh_r29_0 a1 a2 a3 a4 pa1 pa2 pa3 pa4)⟩
  · exact ⟨_, fun dd => mh_same (mh_x29_1 a1 a2 a3 a4 pa1 pa2 pa3 pa4) (mh_r29_1 a1 a2 a3 a4 pa1 pa2 pa3 pa4)⟩
  · exact ⟨_, fun dd => mh_same (mh_x29_2 a1 a2 a3 a4 pa1 pa2 pa3 pa4) (mh_r29_2 a1 a2 a3 a4 pa1 pa2 pa3 pa4)⟩
  · obtain ⟨m, hm, rfl⟩ := px_nat (n := 9) pa1 (by decide)
    obtain ⟨C, hC, rfl⟩ := px_nat (n := 12) pa2 (by decide)
    obtain ⟨K, hK, rfl⟩ := px_nat (n := 12) pa3 (by decide)
    have ok := mn_all hm hC hK
    unfold mnOk at ok
    simp only [Bool.and_eq_true, decide_eq_true_eq] at ok
    have e : lt_ (cw K (nI m) C) (cS (nI m) C 13) a4 = (if a4 = 0 then rwF K (nI m) C else rS (nI m) C 13) / gl 100 (rwF K (nI m) C) (rS (nI m) C 13) := by
      rcases fa4 with rfl | rfl
      · rw [if_pos rfl]; exact ok.1.2
      · rw [if_neg (by decide)]; exact ok.2
    refine ⟨lt_ (cw K (nI m) C) (cS (nI m) C 13) a4, fun dd => ?_⟩
    have hR := mh_r29_in (ro := ro) (dd := dd) (f := a4) hm hC hK
    rw [← e] at hR
    exact mh_same (mh_x29_in hm hC hK) hR
  · exact ⟨_, fun dd => mh_same (mh_x29_4 a1 a2 a3 a4 pa1 pa2 pa3 pa4) (mh_r29_4 a1 a2 a3 a4 pa1 pa2 pa3 pa4)⟩
  · exact ⟨_, fun dd => mh_same (mh_x29_5 a1 a2 a3 a4 pa1 pa2 pa3 pa4) (mh_r29_5 a1 a2 a3 a4 pa1 pa2 pa3 pa4)⟩
  · exact ⟨_, fun dd => mh_same (mh_x29_6 a1 a2 a3 a4 pa1 pa2 pa3 pa4) (mh_r29_6 a1 a2 a3 a4 pa1 pa2 pa3 pa4)⟩
