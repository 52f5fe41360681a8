/-- both answer alike -/
def px_Same (ro : px_RO) (d k1 k2 : Nat) (as : List Value) (r : Value) : Prop := ∃ I P h', px_M ro d k1 (.ref 0 :: as) px_hX (some r) (px_shX, I, px_JX, P) ∧ px_M ro d k2 (.ref 95 :: as) (px_shX, I, px_JX, P) (some r) h' ∧ h'.1 = px_shX
theorem px_same {ro : px_RO} {d k1 k2 : Nat} {as : List Value} {r : Value} (h1 : px_CX ro d k1 (.ref 0 :: as) r) (h2 : px_RX ro d k2 (.ref 95 :: as) r) : px_Same ro d k1 k2 as r := by
  obtain ⟨I, P, hM, hI, hP⟩ := h1
  obtain ⟨hF, hR, hs⟩ := h2 I px_JX P
  rw [px_mI_eq hI, px_mJ_eq, px_mP_eq hP] at hR
  exact ⟨I, P, hF, hM, hR, hs⟩
set_option maxHeartbeats 1000000 in
theorem px_case_0 {ro : px_RO} {dd : Nat} (a1 a2 : Int32) : ∃ v : Int32, px_Same ro (dd + 8) 14 182 [.int a1, .int a2] (.int v) := by
  have qa1 : -2147483648 ≤ a1.toInt ∧ a1.toInt ≤ 2147483647 := ⟨a1.le_toInt, by have := a1.toInt_lt; omega⟩
  have qa2 : -2147483648 ≤ a2.toInt ∧ a2.toInt ≤ 2147483647 := ⟨a2.le_toInt, by have := a2.toInt_lt; omega⟩
  rcases (show ((-2147483648 ≤ a1.toInt ∧ a1.toInt ≤ -1) ∧ (-2147483648 ≤ a2.toInt ∧ a2.toInt ≤ 2147483647)) ∨ ((0 ≤ a1.toInt ∧ a1.toInt ≤ 3) ∧ (-2147483648 ≤ a2.toInt ∧ a2.toInt ≤ -1)) ∨ ((0 ≤ a1.toInt ∧ a1.toInt ≤ 3) ∧ (0 ≤ a2.toInt ∧ a2.toInt ≤ 99)) ∨ ((0 ≤ a1.toInt ∧ a1.toInt ≤ 3) ∧ (100 ≤ a2.toInt ∧ a2.toInt ≤ 2147483647)) ∨ ((4 ≤ a1.toInt ∧ a1.toInt ≤ 2147483647) ∧ (-2147483648 ≤ a2.toInt ∧ a2.toInt ≤ 2147483647)) by omega) with ⟨pa1, pa2⟩ | ⟨pa1, pa2⟩ | ⟨pa1, pa2⟩ | ⟨pa1, pa2⟩ | ⟨pa1, pa2⟩
  · exact ⟨_, px_same (px_x0_0 a1 a2 pa1 pa2) (px_r0_0 a1 a2 pa1 pa2)⟩
  · exact ⟨_, px_same (px_x0_1 a1 a2 pa1 pa2) (px_r0_1 a1 a2 pa1 pa2)⟩
  · exact ⟨_, px_same (px_x0_2 a1 a2 pa1 pa2) (px_r0_2 a1 a2 pa1 pa2)⟩
  · exact ⟨_, px_same (px_x0_3 a1 a2 pa1 pa2) (px_r0_3 a1 a2 pa1 pa2)⟩
  · exact ⟨_, px_same (px_x0_4 a1 a2 pa1 pa2) (px_r0_4 a1 a2 pa1 pa2)⟩
set_option maxHeartbeats 1000000 in
theorem px_case_1 {ro : px_RO} {dd : Nat} (a1 a2 a3 : Int32) (fa3 : a3 = 0 ∨ a3 = 1) : ∃ v : Int32, px_Same ro (dd + 8) 17 184 [.int a1, .int a2, .int a3] (.int v) := by
  have qa1 : -2147483648 ≤ a1.toInt ∧ a1.toInt ≤ 2147483647 := ⟨a1.le_toInt, by have := a1.toInt_lt; omega⟩
  have qa2 : -2147483648 ≤ a2.toInt ∧ a2.toInt ≤ 2147483647 := ⟨a2.le_toInt, by have := a2.toInt_lt; omega⟩
  have qa3 : 0 ≤ a3.toInt ∧ a3.toInt ≤ 1 := by rcases fa3 with rfl | rfl <;> decide
  rcases (show ((-2147483648 ≤ a1.toInt ∧ a1.toInt ≤ -1) ∧ (-2147483648 ≤ a2.toInt ∧ a2.toInt ≤ 2147483647) ∧ (0 ≤ a3.toInt ∧ a3.toInt ≤ 1)) ∨ ((0 ≤ a1.toInt ∧ a1.toInt ≤ 2147483647) ∧ (-2147483648 ≤ a2.toInt ∧ a2.toInt ≤ 2147483647) ∧ (0 ≤ a3.toInt ∧ a3.toInt ≤ 1)) by omega) with ⟨pa1, pa2, pa3⟩ | ⟨pa1, pa2, pa3⟩
  · exact ⟨_, px_same (px_x1_0 a1 a2 a3 pa1 pa2 pa3) (px_r1_0 a1 a2 a3 pa1 pa2 pa3)⟩
  · exact ⟨_, px_same (px_x1_1 a1 a2 a3 pa1 pa2 pa3) (px_r1_1 a1 a2 a3 pa1 pa2 pa3)⟩
set_option maxHeartbeats 1000000 in
theorem px_case_2 {ro : px_RO} {dd : Nat} (a1 a2 a3 a4 : Int32) (fa2 : a2 = 0 ∨ a2 = 1) (fa3 : a3 = 0 ∨ a3 = 1) : ∃ v : Int32, px_Same ro (dd + 8) 23 189 [.int a1, .int a2, .int a3, .int a4] (.int v) := by
  have qa1 : -2147483648 ≤ a1.toInt ∧ a1.toInt ≤ 2147483647 := ⟨a1.le_toInt, by have := a1.toInt_lt; omega⟩
  have qa2 : 0 ≤ a2.toInt ∧ a2.toInt ≤ 1 := by rcases fa2 with rfl | rfl <;> decide
  have qa3 : 0 ≤ a3.toInt ∧ a3.toInt ≤ 1 := by rcases fa3 with rfl | rfl <;> decide
  have qa4 : -2147483648 ≤ a4.toInt ∧ a4.toInt ≤ 2147483647 := ⟨a4.le_toInt, by have := a4.toInt_lt; omega⟩
  rcases (show ((-2147483648 ≤ a1.toInt ∧ a1.toInt ≤ -1) ∧ (0 ≤ a2.toInt ∧ a2.toInt ≤ 1) ∧ (0 ≤ a3.toInt ∧ a3.toInt ≤ 1) ∧ (-2147483648 ≤ a4.toInt ∧ a4.toInt ≤ 2147483647)) ∨ ((0 ≤ a1.toInt ∧ a1.toInt ≤ 9) ∧ (0 ≤ a2.toInt ∧ a2.toInt ≤ 0) ∧ (0 ≤ a3.toInt ∧ a3.toInt ≤ 0) ∧ (-2147483648 ≤ a4.toInt ∧ a4.toInt ≤ -1)) ∨ ((0 ≤ a1.toInt ∧ a1.toInt ≤ 9) ∧ (0 ≤ a2.toInt ∧ a2.toInt ≤ 0) ∧ (1 ≤ a3.toInt ∧ a3.toInt ≤ 1) ∧ (-2147483648 ≤ a4.toInt ∧ a4.toInt ≤ -1)) ∨ ((0 ≤ a1.toInt ∧ a1.toInt ≤ 9) ∧ (1 ≤ a2.toInt ∧ a2.toInt ≤ 1) ∧ (0 ≤ a3.toInt ∧ a3.toInt ≤ 0) ∧ (-2147483648 ≤ a4.toInt ∧ a4.toInt ≤ -1)) ∨ ((0 ≤ a1.toInt ∧ a1.toInt ≤ 9) ∧ (1 ≤ a2.toInt ∧ a2.toInt ≤ 1) ∧ (1 ≤ a3.toInt ∧ a3.toInt ≤ 1) ∧ (-2147483648 ≤ a4.toInt ∧ a4.toInt ≤ -1)) ∨ ((0 ≤ a1.toInt ∧ a1.toInt ≤ 9) ∧ (0 ≤ a2.toInt ∧ a2.toInt ≤ 0) ∧ (0 ≤ a3.toInt ∧ a3.toInt ≤ 0) ∧ (0 ≤ a4.toInt ∧ a4.toInt ≤ 2147483647)) ∨ ((0 ≤ a1.toInt ∧ a1.toInt ≤ 9) ∧ (0 ≤ a2.toInt ∧ a2.toInt ≤ 0) ∧ (1 ≤ a3.toInt ∧ a3.toInt ≤ 1) ∧ (0 ≤ a4.toInt ∧ a4.toInt ≤ 2147483647)) ∨ ((0 ≤ a1.toInt ∧ a1.toInt ≤ 9) ∧ (1 ≤ a2.toInt ∧ a2.toInt ≤ 1) ∧ (0 ≤ a3.toInt ∧ a3.toInt ≤ 0) ∧ (0 ≤ a4.toInt ∧ a4.toInt ≤ 2147483647)) ∨ ((0 ≤ a1.toInt ∧ a1.toInt ≤ 9) ∧ (1 ≤ a2.toInt ∧ a2.toInt ≤ 1) ∧ (1 ≤ a3.toInt ∧ a3.toInt ≤ 1) ∧ (0 ≤ a4.toInt ∧ a4.toInt ≤ 2147483647)) ∨ ((10 ≤ a1.toInt ∧ a1.toInt ≤ 2147483647) ∧ (0 ≤ a2.toInt ∧ a2.toInt ≤ 1) ∧ (0 ≤ a3.toInt ∧ a3.toInt ≤ 1) ∧ (-2147483648 ≤ a4.toInt ∧ a4.toInt ≤ 2147483647)) by omega) with ⟨pa1, pa2, pa3, pa4⟩ | ⟨pa1, pa2, pa3, pa4⟩ | ⟨pa1, pa2, pa3, pa4⟩ | ⟨pa1, pa2, pa3, pa4⟩ | ⟨pa1, pa2, pa3, pa4⟩ | ⟨pa1, pa2, pa3, pa4⟩ | ⟨pa1, pa2, pa3, pa4⟩ | ⟨pa1, pa2, pa3, pa4⟩ | ⟨pa1, pa2, pa3, pa4⟩ | ⟨pa1, pa2, pa3, pa4⟩
  · exact ⟨_, px_same (px_x2_0 a1 a2 a3 a4 pa1 pa2 pa3 pa4) (px_r2_0 a1 a2 a3 a4 pa1 pa2 pa3 pa4)⟩
  · have ea2 : a2 = (0 : Int32) := Int32.toInt_inj.mp (show a2.toInt = 0 by omega)
    subst ea2
    have ea3 : a3 = (0 : Int32) := Int32.toInt_inj.mp (show a3.toInt = 0 by omega)
    subst ea3
    exact ⟨_, px_same (px_x2_1 a1 a4 pa1 pa4) (px_r2_1 a1 a4 pa1 pa4)⟩
  · have ea2 : a2 = (0 : Int32) := Int32.toInt_inj.mp (show a2.toInt = 0 by omega)
    subst ea2
    have ea3 : a3 = (1 : Int32) := Int32.toInt_inj.mp (show a3.toInt = 1 by omega)
    subst ea3
    exact ⟨_, px_same (px_x2_2 a1 a4 pa1 pa4) (px_r2_2 a1 a4 pa1 pa4)⟩
  · have ea2 : a2 = (1 : Int32) := Int32.toInt_inj.mp (show a2.toInt = 1 by omega)
    subst ea2
    have ea3 : a3 = (0 : Int32) := Int32.toInt_inj.mp (show a3.toInt = 0 by omega)
    subst ea3
    exact ⟨_, px_same (px_x2_3 a1 a4 pa1 pa4) (px_r2_3 a1 a4 pa1 pa4)⟩
  · have ea2 : a2 = (1 : Int32) := Int32.toInt_inj.mp (show a2.toInt = 1 by omega)
    subst ea2
    have ea3 : a3 = (1 : Int32) := Int32.toInt_inj.mp (show a3.toInt = 1 by omega)
    subst ea3
    exact ⟨_, px_same (px_x2_4 a1 a4 pa1 pa4) (px_r2_4 a1 a4 pa1 pa4)⟩
  · have ea2 : a2 = (0 : Int32) := Int32.toInt_inj.mp (show a2.toInt = 0 by omega)
    subst ea2
    have ea3 : a3 = (0 : Int32) := Int32.toInt_inj.mp (show a3.toInt = 0 by omega)
    subst ea3
    exact ⟨_, px_same (px_x2_5 a1 a4 pa1 pa4) (px_r2_5 a1 a4 pa1 pa4)⟩
  · have ea2 : a2 = (0 : Int32) := Int32.toInt_inj.mp (show a2.toInt = 0 by omega)
    subst ea2
    have ea3 : a3 = (1 : Int32) := Int32.toInt_inj.mp (show a3.toInt = 1 by omega)
    subst ea3
    exact ⟨_, px_same (px_x2_6 a1 a4 pa1 pa4) (px_r2_6 a1 a4 pa1 pa4)⟩
  · have ea2 : a2 = (1 : Int32) := Int32.toInt_inj.mp (show a2.toInt = 1 by omega)
    subst ea2
    have ea3 : a3 = (0 : Int32) := Int32.toInt_inj.mp (show a3.toInt = 0 by omega)
    subst ea3
    exact ⟨_, px_same (px_x2_7 a1 a4 pa1 pa4) (px_r2_7 a1 a4 pa1 pa4)⟩
  · have ea2 : a2 = (1 : Int32) := Int32.toInt_inj.mp (show a2.toInt = 1 by omega)
    subst ea2
    have ea3 : a3 = (1 : Int32) := Int32.toInt_inj.mp (show a3.toInt = 1 by omega)
    subst ea3
    exact ⟨_, px_same (px_x2_8 a1 a4 pa1 pa4) (px_r2_8 a1 a4 pa1 pa4)⟩
  · exact ⟨_, px_same (px_x2_9 a1 a2 a3 a4 pa1 pa2 pa3 pa4) (px_r2_9 a1 a2 a3 a4 pa1 pa2 pa3 pa4)⟩
set_option maxHeartbeats 1000000 in
theorem px_case_3 {ro : px_RO} {dd : Nat} (a1 a2 a3 a4 a5 : Int32) : ∃ v : Int32, px_Same ro (dd + 8) 25 192 [.int a1, .int a2, .int a3, .int a4, .int a5] (.int v) := by
  have qa1 : -2147483648 ≤ a1.toInt ∧ a1.toInt ≤ 2147483647 := ⟨a1.le_toInt, by have := a1.toInt_lt; omega⟩
  have qa2 : -2147483648 ≤ a2.toInt ∧ a2.toInt ≤ 2147483647 := ⟨a2.le_toInt, by have := a2.toInt_lt; omega⟩
  have qa3 : -2147483648 ≤ a3.toInt ∧ a3.toInt ≤ 2147483647 := ⟨a3.le_toInt, by have := a3.toInt_lt; omega⟩
  have qa4 : -2147483648 ≤ a4.toInt ∧ a4.toInt ≤ 2147483647 := ⟨a4.le_toInt, by have := a4.toInt_lt; omega⟩
  have qa5 : -2147483648 ≤ a5.toInt ∧ a5.toInt ≤ 2147483647 := ⟨a5.le_toInt, by have := a5.toInt_lt; omega⟩
  exact ⟨_, px_same (px_x3_0 a1 a2 a3 a4 a5 qa1 qa2 qa3 qa4 qa5) (px_r3_0 a1 a2 a3 a4 a5 qa1 qa2 qa3 qa4 qa5)⟩
set_option maxHeartbeats 1000000 in
theorem px_case_4 {ro : px_RO} {dd : Nat} (a1 : Int32) : ∃ v : Int32, px_Same ro (dd + 8) 27 194 [.int a1] (.int v) := by
  have qa1 : -2147483648 ≤ a1.toInt ∧ a1.toInt ≤ 2147483647 := ⟨a1.le_toInt, by have := a1.toInt_lt; omega⟩
  rcases (show ((-2147483648 ≤ a1.toInt ∧ a1.toInt ≤ -1)) ∨ ((0 ≤ a1.toInt ∧ a1.toInt ≤ 0)) ∨ ((1 ≤ a1.toInt ∧ a1.toInt ≤ 2147483647)) by omega) with ⟨pa1⟩ | ⟨pa1⟩ | ⟨pa1⟩
  · exact ⟨_, px_same (px_x4_0 a1 pa1) (px_r4_0 a1 pa1)⟩
  · have ea1 : a1 = (0 : Int32) := Int32.toInt_inj.mp (show a1.toInt = 0 by omega)
    subst ea1
    exact ⟨_, px_same (px_x4_1  ) (px_r4_1  )⟩
  · exact ⟨_, px_same (px_x4_2 a1 pa1) (px_r4_2 a1 pa1)⟩
set_option maxHeartbeats 1000000 in
theorem px_case_5 {ro : px_RO} {dd : Nat} : ∃ v : Int32, px_Same ro (dd + 8) 28 195 [] (.int v) := by
  exact ⟨_, px_same (px_x5_0  ) (px_r5_0  )⟩
set_option maxHeartbeats 1000000 in
theorem px_case_6 {ro : px_RO} {dd : Nat} (a1 : Int32) : ∃ v : Int32, px_Same ro (dd + 8) 59 236 [.int a1] (.int v) := by
  have qa1 : -2147483648 ≤ a1.toInt ∧ a1.toInt ≤ 2147483647 := ⟨a1.le_toInt, by have := a1.toInt_lt; omega⟩
  rcases (show ((-2147483648 ≤ a1.toInt ∧ a1.toInt ≤ -1)) ∨ ((0 ≤ a1.toInt ∧ a1.toInt ≤ 0)) ∨ ((1 ≤ a1.toInt ∧ a1.toInt ≤ 1)) ∨ ((2 ≤ a1.toInt ∧ a1.toInt ≤ 2147483647)) by omega) with ⟨pa1⟩ | ⟨pa1⟩ | ⟨pa1⟩ | ⟨pa1⟩
  · exact ⟨_, px_same (px_x6_0 a1 pa1) (px_r6_0 a1 pa1)⟩
  · have ea1 : a1 = (0 : Int32) := Int32.toInt_inj.mp (show a1.toInt = 0 by omega)
    subst ea1
    exact ⟨_, px_same (px_x6_1  ) (px_r6_1  )⟩
  · have ea1 : a1 = (1 : Int32) := Int32.toInt_inj.mp (show a1.toInt = 1 by omega)
    subst ea1
    exact ⟨_, px_same (px_x6_2  ) (px_r6_2  )⟩
  · exact ⟨_, px_same (px_x6_3 a1 pa1) (px_r6_3 a1 pa1)⟩
set_option maxHeartbeats 1000000 in
theorem px_case_7 {ro : px_RO} {dd : Nat} (a1 : Int32) : ∃ v : Int32, px_Same ro (dd + 8) 60 237 [.int a1] (.int v) := by
  have qa1 : -2147483648 ≤ a1.toInt ∧ a1.toInt ≤ 2147483647 := ⟨a1.le_toInt, by have := a1.toInt_lt; omega⟩
  rcases (show ((-2147483648 ≤ a1.toInt ∧ a1.toInt ≤ -2)) ∨ ((-1 ≤ a1.toInt ∧ a1.toInt ≤ -1)) ∨ ((0 ≤ a1.toInt ∧ a1.toInt ≤ 2147483647)) by omega) with ⟨pa1⟩ | ⟨pa1⟩ | ⟨pa1⟩
  · exact ⟨_, px_same (px_x7_0 a1 pa1) (px_r7_0 a1 pa1)⟩
  · have ea1 : a1 = (-1 : Int32) := Int32.toInt_inj.mp (show a1.toInt = -1 by omega)
    subst ea1
    exact ⟨_, px_same (px_x7_1  ) (px_r7_1  )⟩
  · exact ⟨_, px_same (px_x7_2 a1 pa1) (px_r7_2 a1 pa1)⟩
set_option maxHeartbeats 1000000 in
theorem px_case_8 {ro : px_RO} {dd : Nat} (a1 a2 : Int32) : ∃ v : Int32, px_Same ro (dd + 8) 63 240 [.int a1, .int a2] (.int v) := by
  have qa1 : -2147483648 ≤ a1.toInt ∧ a1.toInt ≤ 2147483647 := ⟨a1.le_toInt, by have := a1.toInt_lt; omega⟩
  have qa2 : -2147483648 ≤ a2.toInt ∧ a2.toInt ≤ 2147483647 := ⟨a2.le_toInt, by have := a2.toInt_lt; omega⟩
  rcases (show ((-2147483648 ≤ a1.toInt ∧ a1.toInt ≤ 0) ∧ (-2147483648 ≤ a2.toInt ∧ a2.toInt ≤ 2147483647)) ∨ ((1 ≤ a1.toInt ∧ a1.toInt ≤ 24) ∧ (-2147483648 ≤ a2.toInt ∧ a2.toInt ≤ -1)) ∨ ((1 ≤ a1.toInt ∧ a1.toInt ≤ 24) ∧ (0 ≤ a2.toInt ∧ a2.toInt ≤ 2147483647)) ∨ ((25 ≤ a1.toInt ∧ a1.toInt ≤ 2147483647) ∧ (-2147483648 ≤ a2.toInt ∧ a2.toInt ≤ 2147483647)) by omega) with ⟨pa1, pa2⟩ | ⟨pa1, pa2⟩ | ⟨pa1, pa2⟩ | ⟨pa1, pa2⟩
  · exact ⟨_, px_same (px_x8_0 a1 a2 pa1 pa2) (px_r8_0 a1 a2 pa1 pa2)⟩
  · exact ⟨_, px_same (px_x8_1 a1 a2 pa1 pa2) (px_r8_1 a1 a2 pa1 pa2)⟩
  · exact ⟨_, px_same (px_x8_2 a1 a2 pa1 pa2) (px_r8_2 a1 a2 pa1 pa2)⟩
  · exact ⟨_, px_same (px_x8_3 a1 a2 pa1 pa2) (px_r8_3 a1 a2 pa1 pa2)⟩
set_option maxHeartbeats 1000000 in
theorem px_case_10 {ro : px_RO} {dd : Nat} (a1 a2 : Int32) : ∃ v : Int32, px_Same ro (dd + 8) 98 248 [.int a1, .int a2] (.int v) := by
  have qa1 : -2147483648 ≤ a1.toInt ∧ a1.toInt ≤ 2147483647 := ⟨a1.le_toInt, by have := a1.toInt_lt; omega⟩
  have qa2 : -2147483648 ≤ a2.toInt ∧ a2.toInt ≤ 2147483647 := ⟨a2.le_toInt, by have := a2.toInt_lt; omega⟩
  rcases (show ((-2147483648 ≤ a1.toInt ∧ a1.toInt ≤ -1) ∧ (-2147483648 ≤ a2.toInt ∧ a2.toInt ≤ 2147483647)) ∨ ((0 ≤ a1.toInt ∧ a1.toInt ≤ 2147483647) ∧ (-2147483648 ≤ a2.toInt ∧ a2.toInt ≤ 2147483647)) by omega) with ⟨pa1, pa2⟩ | ⟨pa1, pa2⟩
  · exact ⟨_, px_same (px_x10_0 a1 a2 pa1 pa2) (px_r10_0 a1 a2 pa1 pa2)⟩
  · exact ⟨_, px_same (px_x10_1 a1 a2 pa1 pa2) (px_r10_1 a1 a2 pa1 pa2)⟩
set_option maxHeartbeats 1000000 in
theorem px_case_11 {ro : px_RO} {dd : Nat} (a1 a2 : Int32) (fa2 : a2 = 0 ∨ a2 = 1) : ∃ v : Int32, px_Same ro (dd + 8) 100 250 [.int a1, .int a2] (.int v) := by
  have qa1 : -2147483648 ≤ a1.toInt ∧ a1.toInt ≤ 2147483647 := ⟨a1.le_toInt, by have := a1.toInt_lt; omega⟩
  have qa2 : 0 ≤ a2.toInt ∧ a2.toInt ≤ 1 := by rcases fa2 with rfl | rfl <;> decide
  rcases (show ((-2147483648 ≤ a1.toInt ∧ a1.toInt ≤ -1) ∧ (0 ≤ a2.toInt ∧ a2.toInt ≤ 1)) ∨ ((0 ≤ a1.toInt ∧ a1.toInt ≤ 2147483647) ∧ (0 ≤ a2.toInt ∧ a2.toInt ≤ 1)) by omega) with ⟨pa1, pa2⟩ | ⟨pa1, pa2⟩
  · exact ⟨_, px_same (px_x11_0 a1 a2 pa1 pa2) (px_r11_0 a1 a2 pa1 pa2)⟩
  · exact ⟨_, px_same (px_x11_1 a1 a2 pa1 pa2) (px_r11_1 a1 a2 pa1 pa2)⟩
set_option maxHeartbeats 1000000 in
theorem px_case_12 {ro : px_RO} {dd : Nat} (a1 a2 : Int32) : ∃ v : Int32, px_Same ro (dd + 8) 102 253 [.int a1, .int a2] (.int v) := by
  have qa1 : -2147483648 ≤ a1.toInt ∧ a1.toInt ≤ 2147483647 := ⟨a1.le_toInt, by have := a1.toInt_lt; omega⟩
  have qa2 : -2147483648 ≤ a2.toInt ∧ a2.toInt ≤ 2147483647 := ⟨a2.le_toInt, by have := a2.toInt_lt; omega⟩
  rcases (show ((-2147483648 ≤ a1.toInt ∧ a1.toInt ≤ -1) ∧ (-2147483648 ≤ a2.toInt ∧ a2.toInt ≤ 2147483647)) ∨ ((0 ≤ a1.toInt ∧ a1.toInt ≤ 0) ∧ (-2147483648 ≤ a2.toInt ∧ a2.toInt ≤ 2147483647)) ∨ ((1 ≤ a1.toInt ∧ a1.toInt ≤ 1) ∧ (-2147483648 ≤ a2.toInt ∧ a2.toInt ≤ 2147483647)) ∨ ((2 ≤ a1.toInt ∧ a1.toInt ≤ 2) ∧ (-2147483648 ≤ a2.toInt ∧ a2.toInt ≤ 2147483647)) ∨ ((3 ≤ a1.toInt ∧ a1.toInt ≤ 3) ∧ (-2147483648 ≤ a2.toInt ∧ a2.toInt ≤ 2147483647)) ∨ ((4 ≤ a1.toInt ∧ a1.toInt ≤ 2147483647) ∧ (-2147483648 ≤ a2.toInt ∧ a2.toInt ≤ 2147483647)) by omega) with ⟨pa1, pa2⟩ | ⟨pa1, pa2⟩ | ⟨pa1, pa2⟩ | ⟨pa1, pa2⟩ | ⟨pa1, pa2⟩ | ⟨pa1, pa2⟩
  · exact ⟨_, px_same (px_x12_0 a1 a2 pa1 pa2) (px_r12_0 a1 a2 pa1 pa2)⟩
  · have ea1 : a1 = (0 : Int32) := Int32.toInt_inj.mp (show a1.toInt = 0 by omega)
    subst ea1
    exact ⟨_, px_same (px_x12_1 a2 pa2) (px_r12_1 a2 pa2)⟩
  · have ea1 : a1 = (1 : Int32) := Int32.toInt_inj.mp (show a1.toInt = 1 by omega)
    subst ea1
    exact ⟨_, px_same (px_x12_2 a2 pa2) (px_r12_2 a2 pa2)⟩
  · have ea1 : a1 = (2 : Int32) := Int32.toInt_inj.mp (show a1.toInt = 2 by omega)
    subst ea1
    exact ⟨_, px_same (px_x12_3 a2 pa2) (px_r12_3 a2 pa2)⟩
  · have ea1 : a1 = (3 : Int32) := Int32.toInt_inj.mp (show a1.toInt = 3 by omega)
    subst ea1
    exact ⟨_, px_same (px_x12_4 a2 pa2) (px_r12_4 a2 pa2)⟩
  · exact ⟨_, px_same (px_x12_5 a1 a2 pa1 pa2) (px_r12_5 a1 a2 pa1 pa2)⟩
set_option maxHeartbeats 1000000 in
theorem px_case_13 {ro : px_RO} {dd : Nat} (a1 : Int32) : ∃ v : Int32, px_Same ro (dd + 8) 103 280 [.int a1] (.int v) := by
  have qa1 : -2147483648 ≤ a1.toInt ∧ a1.toInt ≤ 2147483647 := ⟨a1.le_toInt, by have := a1.toInt_lt; omega⟩
  rcases (show ((-2147483648 ≤ a1.toInt ∧ a1.toInt ≤ -1)) ∨ ((0 ≤ a1.toInt ∧ a1.toInt ≤ 2147483647)) by omega) with ⟨pa1⟩ | ⟨pa1⟩
  · exact ⟨_, px_same (px_x13_0 a1 pa1) (px_r13_0 a1 pa1)⟩
  · exact ⟨_, px_same (px_x13_1 a1 pa1) (px_r13_1 a1 pa1)⟩
set_option maxHeartbeats 1000000 in
theorem px_case_14 {ro : px_RO} {dd : Nat} (a1 a2 : Int32) : ∃ v : Int32, px_Same ro (dd + 8) 105 282 [.int a1, .int a2] (.int v) := by
  have qa1 : -2147483648 ≤ a1.toInt ∧ a1.toInt ≤ 2147483647 := ⟨a1.le_toInt, by have := a1.toInt_lt; omega⟩
  have qa2 : -2147483648 ≤ a2.toInt ∧ a2.toInt ≤ 2147483647 := ⟨a2.le_toInt, by have := a2.toInt_lt; omega⟩
  rcases (show ((-2147483648 ≤ a1.toInt ∧ a1.toInt ≤ -1) ∧ (-2147483648 ≤ a2.toInt ∧ a2.toInt ≤ 2147483647)) ∨ ((0 ≤ a1.toInt ∧ a1.toInt ≤ 9999) ∧ (-2147483648 ≤ a2.toInt ∧ a2.toInt ≤ 0)) ∨ ((0 ≤ a1.toInt ∧ a1.toInt ≤ 9999) ∧ (1 ≤ a2.toInt ∧ a2.toInt ≤ 30)) ∨ ((0 ≤ a1.toInt ∧ a1.toInt ≤ 9999) ∧ (31 ≤ a2.toInt ∧ a2.toInt ≤ 2147483647)) ∨ ((10000 ≤ a1.toInt ∧ a1.toInt ≤ 2147483647) ∧ (-2147483648 ≤ a2.toInt ∧ a2.toInt ≤ 2147483647)) by omega) with ⟨pa1, pa2⟩ | ⟨pa1, pa2⟩ | ⟨pa1, pa2⟩ | ⟨pa1, pa2⟩ | ⟨pa1, pa2⟩
  · exact ⟨_, px_same (px_x14_0 a1 a2 pa1 pa2) (px_r14_0 a1 a2 pa1 pa2)⟩
  · exact ⟨_, px_same (px_x14_1 a1 a2 pa1 pa2) (px_r14_1 a1 a2 pa1 pa2)⟩
  · exact ⟨_, px_same (px_x14_2 a1 a2 pa1 pa2) (px_r14_2 a1 a2 pa1 pa2)⟩
  · exact ⟨_, px_same (px_x14_3 a1 a2 pa1 pa2) (px_r14_3 a1 a2 pa1 pa2)⟩
  · exact ⟨_, px_same (px_x14_4 a1 a2 pa1 pa2) (px_r14_4 a1 a2 pa1 pa2)⟩
set_option maxHeartbeats 1000000 in
theorem px_case_15 {ro : px_RO} {dd : Nat} : ∃ v : Int32, px_Same ro (dd + 8) 107 238 [] (.int v) := by
  exact ⟨_, px_same (px_x15_0  ) (px_r15_0  )⟩
set_option maxHeartbeats 1000000 in
theorem px_case_16 {ro : px_RO} {dd : Nat} (a1 a2 : Int32) : ∃ v : Int32, px_Same ro (dd + 8) 110 284 [.int a1, .int a2] (.int v) := by
  have qa1 : -2147483648 ≤ a1.toInt ∧ a1.toInt ≤ 2147483647 := ⟨a1.le_toInt, by have := a1.toInt_lt; omega⟩
  have qa2 : -2147483648 ≤ a2.toInt ∧ a2.toInt ≤ 2147483647 := ⟨a2.le_toInt, by have := a2.toInt_lt; omega⟩
  rcases (show ((-2147483648 ≤ a1.toInt ∧ a1.toInt ≤ -1) ∧ (-2147483648 ≤ a2.toInt ∧ a2.toInt ≤ 2147483647)) ∨ ((0 ≤ a1.toInt ∧ a1.toInt ≤ 3) ∧ (-2147483648 ≤ a2.toInt ∧ a2.toInt ≤ -1)) ∨ ((0 ≤ a1.toInt ∧ a1.toInt ≤ 0) ∧ (0 ≤ a2.toInt ∧ a2.toInt ≤ 0)) ∨ ((1 ≤ a1.toInt ∧ a1.toInt ≤ 1) ∧ (0 ≤ a2.toInt ∧ a2.toInt ≤ 0)) ∨ ((2 ≤ a1.toInt ∧ a1.toInt ≤ 2) ∧ (0 ≤ a2.toInt ∧ a2.toInt ≤ 0)) ∨ ((3 ≤ a1.toInt ∧ a1.toInt ≤ 3) ∧ (0 ≤ a2.toInt ∧ a2.toInt ≤ 0)) ∨ ((0 ≤ a1.toInt ∧ a1.toInt ≤ 0) ∧ (1 ≤ a2.toInt ∧ a2.toInt ≤ 3)) ∨ ((1 ≤ a1.toInt ∧ a1.toInt ≤ 1) ∧ (1 ≤ a2.toInt ∧ a2.toInt ≤ 3)) ∨ ((2 ≤ a1.toInt ∧ a1.toInt ≤ 2) ∧ (1 ≤ a2.toInt ∧ a2.toInt ≤ 3)) ∨ ((3 ≤ a1.toInt ∧ a1.toInt ≤ 3) ∧ (1 ≤ a2.toInt ∧ a2.toInt ≤ 3)) ∨ ((0 ≤ a1.toInt ∧ a1.toInt ≤ 3) ∧ (4 ≤ a2.toInt ∧ a2.toInt ≤ 2147483647)) ∨ ((4 ≤ a1.toInt ∧ a1.toInt ≤ 2147483647) ∧ (-2147483648 ≤ a2.toInt ∧ a2.toInt ≤ 2147483647)) by omega) with ⟨pa1, pa2⟩ | ⟨pa1, pa2⟩ | ⟨pa1, pa2⟩ | ⟨pa1, pa2⟩ | ⟨pa1, pa2⟩ | ⟨pa1, pa2⟩ | ⟨pa1, pa2⟩ | ⟨pa1, pa2⟩ | ⟨pa1, pa2⟩ | ⟨pa1, pa2⟩ | ⟨pa1, pa2⟩ | ⟨pa1, pa2⟩
  · exact ⟨_, px_same (px_x16_0 a1 a2 pa1 pa2) (px_r16_0 a1 a2 pa1 pa2)⟩
  · exact ⟨_, px_same (px_x16_1 a1 a2 pa1 pa2) (px_r16_1 a1 a2 pa1 pa2)⟩
  · have ea1 : a1 = (0 : Int32) := Int32.toInt_inj.mp (show a1.toInt = 0 by omega)
    subst ea1
    have ea2 : a2 = (0 : Int32) := Int32.toInt_inj.mp (show a2.toInt = 0 by omega)
    subst ea2
    exact ⟨_, px_same (px_x16_2  ) (px_r16_2  )⟩
  · have ea1 : a1 = (1 : Int32) := Int32.toInt_inj.mp (show a1.toInt = 1 by omega)
    subst ea1
    have ea2 : a2 = (0 : Int32) := Int32.toInt_inj.mp (show a2.toInt = 0 by omega)
    subst ea2
    exact ⟨_, px_same (px_x16_3  ) (px_r16_3  )⟩
  · have ea1 : a1 = (2 : Int32) := Int32.toInt_inj.mp (show a1.toInt = 2 by omega)
    subst ea1
    have ea2 : a2 = (0 : Int32) := Int32.toInt_inj.mp (show a2.toInt = 0 by omega)
    subst ea2
    exact ⟨_, px_same (px_x16_4  ) (px_r16_4  )⟩
  · have ea1 : a1 = (3 : Int32) := Int32.toInt_inj.mp (show a1.toInt = 3 by omega)
    subst ea1
    have ea2 : a2 = (0 : Int32) := Int32.toInt_inj.mp (show a2.toInt = 0 by omega)
    subst ea2
    exact ⟨_, px_same (px_x16_5  ) (px_r16_5  )⟩
  · have ea1 : a1 = (0 : Int32) := Int32.toInt_inj.mp (show a1.toInt = 0 by omega)
    subst ea1
    exact ⟨_, px_same (px_x16_6 a2 pa2) (px_r16_6 a2 pa2)⟩
  · have ea1 : a1 = (1 : Int32) := Int32.toInt_inj.mp (show a1.toInt = 1 by omega)
    subst ea1
    exact ⟨_, px_same (px_x16_7 a2 pa2) (px_r16_7 a2 pa2)⟩
  · have ea1 : a1 = (2 : Int32) := Int32.toInt_inj.mp (show a1.toInt = 2 by omega)
    subst ea1
    exact ⟨_, px_same (px_x16_8 a2 pa2) (px_r16_8 a2 pa2)⟩
  · have ea1 : a1 = (3 : Int32) := Int32.toInt_inj.mp (show a1.toInt = 3 by omega)
    subst ea1
    exact ⟨_, px_same (px_x16_9 a2 pa2) (px_r16_9 a2 pa2)⟩
  · exact ⟨_, px_same (px_x16_10 a1 a2 pa1 pa2) (px_r16_10 a1 a2 pa1 pa2)⟩
  · exact ⟨_, px_same (px_x16_11 a1 a2 pa1 pa2) (px_r16_11 a1 a2 pa1 pa2)⟩
set_option maxHeartbeats 1000000 in
theorem px_case_17 {ro : px_RO} {dd : Nat} (a1 a2 : Int32) : ∃ v : Int32, px_Same ro (dd + 8) 111 285 [.int a1, .int a2] (.int v) := by
  have qa1 : -2147483648 ≤ a1.toInt ∧ a1.toInt ≤ 2147483647 := ⟨a1.le_toInt, by have := a1.toInt_lt; omega⟩
  have qa2 : -2147483648 ≤ a2.toInt ∧ a2.toInt ≤ 2147483647 := ⟨a2.le_toInt, by have := a2.toInt_lt; omega⟩
  rcases (show ((-2147483648 ≤ a1.toInt ∧ a1.toInt ≤ -1) ∧ (-2147483648 ≤ a2.toInt ∧ a2.toInt ≤ 2147483647)) ∨ ((0 ≤ a1.toInt ∧ a1.toInt ≤ 2147483647) ∧ (-2147483648 ≤ a2.toInt ∧ a2.toInt ≤ 2147483647)) by omega) with ⟨pa1, pa2⟩ | ⟨pa1, pa2⟩
  · exact ⟨_, px_same (px_x17_0 a1 a2 pa1 pa2) (px_r17_0 a1 a2 pa1 pa2)⟩
  · exact ⟨_, px_same (px_x17_1 a1 a2 pa1 pa2) (px_r17_1 a1 a2 pa1 pa2)⟩
set_option maxHeartbeats 1000000 in
theorem px_case_18 {ro : px_RO} {dd : Nat} (a1 a2 : Int32) : ∃ v : Int32, px_Same ro (dd + 8) 112 286 [.int a1, .int a2] (.int v) := by
  have qa1 : -2147483648 ≤ a1.toInt ∧ a1.toInt ≤ 2147483647 := ⟨a1.le_toInt, by have := a1.toInt_lt; omega⟩
  have qa2 : -2147483648 ≤ a2.toInt ∧ a2.toInt ≤ 2147483647 := ⟨a2.le_toInt, by have := a2.toInt_lt; omega⟩
  rcases (show ((-2147483648 ≤ a1.toInt ∧ a1.toInt ≤ -1) ∧ (-2147483648 ≤ a2.toInt ∧ a2.toInt ≤ 2147483647)) ∨ ((0 ≤ a1.toInt ∧ a1.toInt ≤ 2147483647) ∧ (-2147483648 ≤ a2.toInt ∧ a2.toInt ≤ 2147483647)) by omega) with ⟨pa1, pa2⟩ | ⟨pa1, pa2⟩
  · exact ⟨_, px_same (px_x18_0 a1 a2 pa1 pa2) (px_r18_0 a1 a2 pa1 pa2)⟩
  · exact ⟨_, px_same (px_x18_1 a1 a2 pa1 pa2) (px_r18_1 a1 a2 pa1 pa2)⟩
set_option maxHeartbeats 1000000 in
theorem px_case_19 {ro : px_RO} {dd : Nat} (a1 a2 : Int32) : ∃ v : Int32, px_Same ro (dd + 8) 114 287 [.int a1, .int a2] (.int v) := by
  have qa1 : -2147483648 ≤ a1.toInt ∧ a1.toInt ≤ 2147483647 := ⟨a1.le_toInt, by have := a1.toInt_lt; omega⟩
  have qa2 : -2147483648 ≤ a2.toInt ∧ a2.toInt ≤ 2147483647 := ⟨a2.le_toInt, by have := a2.toInt_lt; omega⟩
  rcases (show ((-2147483648 ≤ a1.toInt ∧ a1.toInt ≤ -1) ∧ (-2147483648 ≤ a2.toInt ∧ a2.toInt ≤ 2147483647)) ∨ ((0 ≤ a1.toInt ∧ a1.toInt ≤ 2147483647) ∧ (-2147483648 ≤ a2.toInt ∧ a2.toInt ≤ 2147483647)) by omega) with ⟨pa1, pa2⟩ | ⟨pa1, pa2⟩
  · exact ⟨_, px_same (px_x19_0 a1 a2 pa1 pa2) (px_r19_0 a1 a2 pa1 pa2)⟩
  · exact ⟨_, px_same (px_x19_1 a1 a2 pa1 pa2) (px_r19_1 a1 a2 pa1 pa2)⟩
set_option maxHeartbeats 1000000 in
theorem px_case_20 {ro : px_RO} {dd : Nat} (a1 a2 : Int32) : ∃ v : Int32, px_Same ro (dd + 8) 115 288 [.int a1, .int a2] (.int v) := by
  have qa1 : -2147483648 ≤ a1.toInt ∧ a1.toInt ≤ 2147483647 := ⟨a1.le_toInt, by have := a1.toInt_lt; omega⟩
  have qa2 : -2147483648 ≤ a2.toInt ∧ a2.toInt ≤ 2147483647 := ⟨a2.le_toInt, by have := a2.toInt_lt; omega⟩
  rcases (show ((-2147483648 ≤ a1.toInt ∧ a1.toInt ≤ -1) ∧ (-2147483648 ≤ a2.toInt ∧ a2.toInt ≤ 2147483647)) ∨ ((0 ≤ a1.toInt ∧ a1.toInt ≤ 0) ∧ (-2147483648 ≤ a2.toInt ∧ a2.toInt ≤ 2147483647)) ∨ ((1 ≤ a1.toInt ∧ a1.toInt ≤ 1) ∧ (-2147483648 ≤ a2.toInt ∧ a2.toInt ≤ 2147483647)) ∨ ((2 ≤ a1.toInt ∧ a1.toInt ≤ 2) ∧ (-2147483648 ≤ a2.toInt ∧ a2.toInt ≤ 2147483647)) ∨ ((3 ≤ a1.toInt ∧ a1.toInt ≤ 3) ∧ (-2147483648 ≤ a2.toInt ∧ a2.toInt ≤ 2147483647)) ∨ ((4 ≤ a1.toInt ∧ a1.toInt ≤ 2147483647) ∧ (-2147483648 ≤ a2.toInt ∧ a2.toInt ≤ 2147483647)) by omega) with ⟨pa1, pa2⟩ | ⟨pa1, pa2⟩ | ⟨pa1, pa2⟩ | ⟨pa1, pa2⟩ | ⟨pa1, pa2⟩ | ⟨pa1, pa2⟩
  · exact ⟨_, px_same (px_x20_0 a1 a2 pa1 pa2) (px_r20_0 a1 a2 pa1 pa2)⟩
  · have ea1 : a1 = (0 : Int32) := Int32.toInt_inj.mp (show a1.toInt = 0 by omega)
    subst ea1
    exact ⟨_, px_same (px_x20_1 a2 pa2) (px_r20_1 a2 pa2)⟩
  · have ea1 : a1 = (1 : Int32) := Int32.toInt_inj.mp (show a1.toInt = 1 by omega)
    subst ea1
    exact ⟨_, px_same (px_x20_2 a2 pa2) (px_r20_2 a2 pa2)⟩
  · have ea1 : a1 = (2 : Int32) := Int32.toInt_inj.mp (show a1.toInt = 2 by omega)
    subst ea1
    exact ⟨_, px_same (px_x20_3 a2 pa2) (px_r20_3 a2 pa2)⟩
  · have ea1 : a1 = (3 : Int32) := Int32.toInt_inj.mp (show a1.toInt = 3 by omega)
    subst ea1
    exact ⟨_, px_same (px_x20_4 a2 pa2) (px_r20_4 a2 pa2)⟩
  · exact ⟨_, px_same (px_x20_5 a1 a2 pa1 pa2) (px_r20_5 a1 a2 pa1 pa2)⟩
set_option maxHeartbeats 1000000 in
theorem px_case_21 {ro : px_RO} {dd : Nat} (a1 a2 a3 a4 : Int32) (fa4 : a4 = 0 ∨ a4 = 1) : ∃ v : Int64, px_Same ro (dd + 8) 116 289 [.int a1, .int a2, .int a3, .int a4] (.long v) := by
  have qa1 : -2147483648 ≤ a1.toInt ∧ a1.toInt ≤ 2147483647 := ⟨a1.le_toInt, by have := a1.toInt_lt; omega⟩
  have qa2 : -2147483648 ≤ a2.toInt ∧ a2.toInt ≤ 2147483647 := ⟨a2.le_toInt, by have := a2.toInt_lt; omega⟩
  have qa3 : -2147483648 ≤ a3.toInt ∧ a3.toInt ≤ 2147483647 := ⟨a3.le_toInt, by have := a3.toInt_lt; omega⟩
  have qa4 : 0 ≤ a4.toInt ∧ a4.toInt ≤ 1 := by rcases fa4 with rfl | rfl <;> decide
  rcases (show ((-2147483648 ≤ a1.toInt ∧ a1.toInt ≤ -1) ∧ (-2147483648 ≤ a2.toInt ∧ a2.toInt ≤ 2147483647) ∧ (-2147483648 ≤ a3.toInt ∧ a3.toInt ≤ 2147483647) ∧ (0 ≤ a4.toInt ∧ a4.toInt ≤ 1)) ∨ ((0 ≤ a1.toInt ∧ a1.toInt ≤ 0) ∧ (-2147483648 ≤ a2.toInt ∧ a2.toInt ≤ 2147483647) ∧ (-2147483648 ≤ a3.toInt ∧ a3.toInt ≤ 2147483647) ∧ (0 ≤ a4.toInt ∧ a4.toInt ≤ 1)) ∨ ((1 ≤ a1.toInt ∧ a1.toInt ≤ 1) ∧ (-2147483648 ≤ a2.toInt ∧ a2.toInt ≤ 2147483647) ∧ (-2147483648 ≤ a3.toInt ∧ a3.toInt ≤ 2147483647) ∧ (0 ≤ a4.toInt ∧ a4.toInt ≤ 1)) ∨ ((2 ≤ a1.toInt ∧ a1.toInt ≤ 2) ∧ (-2147483648 ≤ a2.toInt ∧ a2.toInt ≤ 2147483647) ∧ (-2147483648 ≤ a3.toInt ∧ a3.toInt ≤ 2147483647) ∧ (0 ≤ a4.toInt ∧ a4.toInt ≤ 1)) ∨ ((3 ≤ a1.toInt ∧ a1.toInt ≤ 3) ∧ (-2147483648 ≤ a2.toInt ∧ a2.toInt ≤ 2147483647) ∧ (-2147483648 ≤ a3.toInt ∧ a3.toInt ≤ 2147483647) ∧ (0 ≤ a4.toInt ∧ a4.toInt ≤ 1)) ∨ ((4 ≤ a1.toInt ∧ a1.toInt ≤ 2147483647) ∧ (-2147483648 ≤ a2.toInt ∧ a2.toInt ≤ 2147483647) ∧ (-2147483648 ≤ a3.toInt ∧ a3.toInt ≤ 2147483647) ∧ (0 ≤ a4.toInt ∧ a4.toInt ≤ 1)) by omega) with ⟨pa1, pa2, pa3, pa4⟩ | ⟨pa1, pa2, pa3, pa4⟩ | ⟨pa1, pa2, pa3, pa4⟩ | ⟨pa1, pa2, pa3, pa4⟩ | ⟨pa1, pa2, pa3, pa4⟩ | ⟨pa1, pa2, pa3, pa4⟩
  · exact ⟨_, px_same (px_x21_0 a1 a2 a3 a4 pa1 pa2 pa3 pa4) (px_r21_0 a1 a2 a3 a4 pa1 pa2 pa3 pa4)⟩
  · have ea1 : a1 = (0 : Int32) := Int32.toInt_inj.mp (show a1.toInt = 0 by omega)
    subst ea1
    exact ⟨_, px_same (px_x21_1 a2 a3 a4 pa2 pa3 pa4) (px_r21_1 a2 a3 a4 pa2 pa3 pa4)⟩
  · have ea1 : a1 = (1 : Int32) := Int32.toInt_inj.mp (show a1.toInt = 1 by omega)
    subst ea1
    exact ⟨_, px_same (px_x21_2 a2 a3 a4 pa2 pa3 pa4) (px_r21_2 a2 a3 a4 pa2 pa3 pa4)⟩
  · have ea1 : a1 = (2 : Int32) := Int32.toInt_inj.mp (show a1.toInt = 2 by omega)
    subst ea1
    exact ⟨_, px_same (px_x21_3 a2 a3 a4 pa2 pa3 pa4) (px_r21_3 a2 a3 a4 pa2 pa3 pa4)⟩
  · have ea1 : a1 = (3 : Int32) := Int32.toInt_inj.mp (show a1.toInt = 3 by omega)
    subst ea1
    exact ⟨_, px_same (px_x21_4 a2 a3 a4 pa2 pa3 pa4) (px_r21_4 a2 a3 a4 pa2 pa3 pa4)⟩
  · exact ⟨_, px_same (px_x21_5 a1 a2 a3 a4 pa1 pa2 pa3 pa4) (px_r21_5 a1 a2 a3 a4 pa1 pa2 pa3 pa4)⟩
set_option maxHeartbeats 1000000 in
theorem px_case_22 {ro : px_RO} {dd : Nat} (a1 : Int32) : ∃ v : Int32, px_Same ro (dd + 8) 126 293 [.int a1] (.int v) := by
  have qa1 : -2147483648 ≤ a1.toInt ∧ a1.toInt ≤ 2147483647 := ⟨a1.le_toInt, by have := a1.toInt_lt; omega⟩
  rcases (show ((-2147483648 ≤ a1.toInt ∧ a1.toInt ≤ -1)) ∨ ((0 ≤ a1.toInt ∧ a1.toInt ≤ 0)) ∨ ((1 ≤ a1.toInt ∧ a1.toInt ≤ 1)) ∨ ((2 ≤ a1.toInt ∧ a1.toInt ≤ 2)) ∨ ((3 ≤ a1.toInt ∧ a1.toInt ≤ 3)) ∨ ((4 ≤ a1.toInt ∧ a1.toInt ≤ 2147483647)) by omega) with ⟨pa1⟩ | ⟨pa1⟩ | ⟨pa1⟩ | ⟨pa1⟩ | ⟨pa1⟩ | ⟨pa1⟩
  · exact ⟨_, px_same (px_x22_0 a1 pa1) (px_r22_0 a1 pa1)⟩
  · have ea1 : a1 = (0 : Int32) := Int32.toInt_inj.mp (show a1.toInt = 0 by omega)
    subst ea1
    exact ⟨_, px_same (px_x22_1  ) (px_r22_1  )⟩
  · have ea1 : a1 = (1 : Int32) := Int32.toInt_inj.mp (show a1.toInt = 1 by omega)
    subst ea1
    exact ⟨_, px_same (px_x22_2  ) (px_r22_2  )⟩
  · have ea1 : a1 = (2 : Int32) := Int32.toInt_inj.mp (show a1.toInt = 2 by omega)
    subst ea1
    exact ⟨_, px_same (px_x22_3  ) (px_r22_3  )⟩
  · have ea1 : a1 = (3 : Int32) := Int32.toInt_inj.mp (show a1.toInt = 3 by omega)
    subst ea1
    exact ⟨_, px_same (px_x22_4  ) (px_r22_4  )⟩
  · exact ⟨_, px_same (px_x22_5 a1 pa1) (px_r22_5 a1 pa1)⟩
set_option maxHeartbeats 1000000 in
theorem px_case_23 {ro : px_RO} {dd : Nat} (a1 a2 : Int32) : ∃ v : Int32, px_Same ro (dd + 8) 130 295 [.int a1, .int a2] (.int v) := by
  have qa1 : -2147483648 ≤ a1.toInt ∧ a1.toInt ≤ 2147483647 := ⟨a1.le_toInt, by have := a1.toInt_lt; omega⟩
  have qa2 : -2147483648 ≤ a2.toInt ∧ a2.toInt ≤ 2147483647 := ⟨a2.le_toInt, by have := a2.toInt_lt; omega⟩
  rcases (show ((-2147483648 ≤ a1.toInt ∧ a1.toInt ≤ -1) ∧ (-2147483648 ≤ a2.toInt ∧ a2.toInt ≤ 2147483647)) ∨ ((0 ≤ a1.toInt ∧ a1.toInt ≤ 0) ∧ (-2147483648 ≤ a2.toInt ∧ a2.toInt ≤ 2147483647)) ∨ ((1 ≤ a1.toInt ∧ a1.toInt ≤ 1) ∧ (-2147483648 ≤ a2.toInt ∧ a2.toInt ≤ 2147483647)) ∨ ((2 ≤ a1.toInt ∧ a1.toInt ≤ 2) ∧ (-2147483648 ≤ a2.toInt ∧ a2.toInt ≤ 2147483647)) ∨ ((3 ≤ a1.toInt ∧ a1.toInt ≤ 3) ∧ (-2147483648 ≤ a2.toInt ∧ a2.toInt ≤ 2147483647)) ∨ ((4 ≤ a1.toInt ∧ a1.toInt ≤ 2147483647) ∧ (-2147483648 ≤ a2.toInt ∧ a2.toInt ≤ 2147483647)) by omega) with ⟨pa1, pa2⟩ | ⟨pa1, pa2⟩ | ⟨pa1, pa2⟩ | ⟨pa1, pa2⟩ | ⟨pa1, pa2⟩ | ⟨pa1, pa2⟩
  · exact ⟨_, px_same (px_x23_0 a1 a2 pa1 pa2) (px_r23_0 a1 a2 pa1 pa2)⟩
  · have ea1 : a1 = (0 : Int32) := Int32.toInt_inj.mp (show a1.toInt = 0 by omega)
    subst ea1
    exact ⟨_, px_same (px_x23_1 a2 pa2) (px_r23_1 a2 pa2)⟩
  · have ea1 : a1 = (1 : Int32) := Int32.toInt_inj.mp (show a1.toInt = 1 by omega)
    subst ea1
    exact ⟨_, px_same (px_x23_2 a2 pa2) (px_r23_2 a2 pa2)⟩
  · have ea1 : a1 = (2 : Int32) := Int32.toInt_inj.mp (show a1.toInt = 2 by omega)
    subst ea1
    exact ⟨_, px_same (px_x23_3 a2 pa2) (px_r23_3 a2 pa2)⟩
  · have ea1 : a1 = (3 : Int32) := Int32.toInt_inj.mp (show a1.toInt = 3 by omega)
    subst ea1
    exact ⟨_, px_same (px_x23_4 a2 pa2) (px_r23_4 a2 pa2)⟩
  · exact ⟨_, px_same (px_x23_5 a1 a2 pa1 pa2) (px_r23_5 a1 a2 pa1 pa2)⟩
set_option maxHeartbeats 1000000 in
theorem px_case_24 {ro : px_RO} {dd : Nat} (a1 a2 : Int32) : ∃ v : Int32, px_Same ro (dd + 8) 134 298 [.int a1, .int a2] (.int v) := by
  have qa1 : -2147483648 ≤ a1.toInt ∧ a1.toInt ≤ 2147483647 := ⟨a1.le_toInt, by have := a1.toInt_lt; omega⟩
  have qa2 : -2147483648 ≤ a2.toInt ∧ a2.toInt ≤ 2147483647 := ⟨a2.le_toInt, by have := a2.toInt_lt; omega⟩
  rcases (show ((-2147483648 ≤ a1.toInt ∧ a1.toInt ≤ -1) ∧ (-2147483648 ≤ a2.toInt ∧ a2.toInt ≤ 2147483647)) ∨ ((0 ≤ a1.toInt ∧ a1.toInt ≤ 2147483647) ∧ (-2147483648 ≤ a2.toInt ∧ a2.toInt ≤ 2147483647)) by omega) with ⟨pa1, pa2⟩ | ⟨pa1, pa2⟩
  · exact ⟨_, px_same (px_x24_0 a1 a2 pa1 pa2) (px_r24_0 a1 a2 pa1 pa2)⟩
  · exact ⟨_, px_same (px_x24_1 a1 a2 pa1 pa2) (px_r24_1 a1 a2 pa1 pa2)⟩
set_option maxHeartbeats 1000000 in
theorem px_case_25 {ro : px_RO} {dd : Nat} (a1 a2 a3 : Int32) : ∃ v : Int32, px_Same ro (dd + 8) 136 300 [.int a1, .int a2, .int a3] (.int v) := by
  have qa1 : -2147483648 ≤ a1.toInt ∧ a1.toInt ≤ 2147483647 := ⟨a1.le_toInt, by have := a1.toInt_lt; omega⟩
  have qa2 : -2147483648 ≤ a2.toInt ∧ a2.toInt ≤ 2147483647 := ⟨a2.le_toInt, by have := a2.toInt_lt; omega⟩
  have qa3 : -2147483648 ≤ a3.toInt ∧ a3.toInt ≤ 2147483647 := ⟨a3.le_toInt, by have := a3.toInt_lt; omega⟩
  rcases (show ((-2147483648 ≤ a1.toInt ∧ a1.toInt ≤ -1) ∧ (-2147483648 ≤ a2.toInt ∧ a2.toInt ≤ 2147483647) ∧ (-2147483648 ≤ a3.toInt ∧ a3.toInt ≤ 2147483647)) ∨ ((0 ≤ a1.toInt ∧ a1.toInt ≤ 0) ∧ (-2147483648 ≤ a2.toInt ∧ a2.toInt ≤ 0) ∧ (-2147483648 ≤ a3.toInt ∧ a3.toInt ≤ 2147483647)) ∨ ((0 ≤ a1.toInt ∧ a1.toInt ≤ 0) ∧ (1 ≤ a2.toInt ∧ a2.toInt ≤ 2147483647) ∧ (-2147483648 ≤ a3.toInt ∧ a3.toInt ≤ 2147483647)) ∨ ((1 ≤ a1.toInt ∧ a1.toInt ≤ 2147483647) ∧ (-2147483648 ≤ a2.toInt ∧ a2.toInt ≤ 2147483647) ∧ (-2147483648 ≤ a3.toInt ∧ a3.toInt ≤ 2147483647)) by omega) with ⟨pa1, pa2, pa3⟩ | ⟨pa1, pa2, pa3⟩ | ⟨pa1, pa2, pa3⟩ | ⟨pa1, pa2, pa3⟩
  · exact ⟨_, px_same (px_x25_0 a1 a2 a3 pa1 pa2 pa3) (px_r25_0 a1 a2 a3 pa1 pa2 pa3)⟩
  · have ea1 : a1 = (0 : Int32) := Int32.toInt_inj.mp (show a1.toInt = 0 by omega)
    subst ea1
    exact ⟨_, px_same (px_x25_1 a2 a3 pa2 pa3) (px_r25_1 a2 a3 pa2 pa3)⟩
  · have ea1 : a1 = (0 : Int32) := Int32.toInt_inj.mp (show a1.toInt = 0 by omega)
    subst ea1
    exact ⟨_, px_same (px_x25_2 a2 a3 pa2 pa3) (px_r25_2 a2 a3 pa2 pa3)⟩
  · exact ⟨_, px_same (px_x25_3 a1 a2 a3 pa1 pa2 pa3) (px_r25_3 a1 a2 a3 pa1 pa2 pa3)⟩
set_option maxHeartbeats 1000000 in
theorem px_case_26 {ro : px_RO} {dd : Nat} (a1 : Int32) : ∃ v : Int32, px_Same ro (dd + 8) 142 297 [.int a1] (.int v) := by
  have qa1 : -2147483648 ≤ a1.toInt ∧ a1.toInt ≤ 2147483647 := ⟨a1.le_toInt, by have := a1.toInt_lt; omega⟩
  rcases (show ((-2147483648 ≤ a1.toInt ∧ a1.toInt ≤ -1)) ∨ ((0 ≤ a1.toInt ∧ a1.toInt ≤ 0)) ∨ ((1 ≤ a1.toInt ∧ a1.toInt ≤ 1)) ∨ ((2 ≤ a1.toInt ∧ a1.toInt ≤ 2)) ∨ ((3 ≤ a1.toInt ∧ a1.toInt ≤ 3)) ∨ ((4 ≤ a1.toInt ∧ a1.toInt ≤ 2147483647)) by omega) with ⟨pa1⟩ | ⟨pa1⟩ | ⟨pa1⟩ | ⟨pa1⟩ | ⟨pa1⟩ | ⟨pa1⟩
  · exact ⟨_, px_same (px_x26_0 a1 pa1) (px_r26_0 a1 pa1)⟩
  · have ea1 : a1 = (0 : Int32) := Int32.toInt_inj.mp (show a1.toInt = 0 by omega)
    subst ea1
    exact ⟨_, px_same (px_x26_1  ) (px_r26_1  )⟩
  · have ea1 : a1 = (1 : Int32) := Int32.toInt_inj.mp (show a1.toInt = 1 by omega)
    subst ea1
    exact ⟨_, px_same (px_x26_2  ) (px_r26_2  )⟩
  · have ea1 : a1 = (2 : Int32) := Int32.toInt_inj.mp (show a1.toInt = 2 by omega)
    subst ea1
    exact ⟨_, px_same (px_x26_3  ) (px_r26_3  )⟩
  · have ea1 : a1 = (3 : Int32) := Int32.toInt_inj.mp (show a1.toInt = 3 by omega)
    subst ea1
    exact ⟨_, px_same (px_x26_4  ) (px_r26_4  )⟩
  · exact ⟨_, px_same (px_x26_5 a1 pa1) (px_r26_5 a1 pa1)⟩
set_option maxHeartbeats 1000000 in
theorem px_case_27 {ro : px_RO} {dd : Nat} (a1 a2 : Int32) : ∃ v : Int32, px_Same ro (dd + 8) 145 305 [.int a1, .int a2] (.int v) := by
  have qa1 : -2147483648 ≤ a1.toInt ∧ a1.toInt ≤ 2147483647 := ⟨a1.le_toInt, by have := a1.toInt_lt; omega⟩
  have qa2 : -2147483648 ≤ a2.toInt ∧ a2.toInt ≤ 2147483647 := ⟨a2.le_toInt, by have := a2.toInt_lt; omega⟩
  rcases (show ((-2147483648 ≤ a1.toInt ∧ a1.toInt ≤ -2) ∧ (-2147483648 ≤ a2.toInt ∧ a2.toInt ≤ 2147483647)) ∨ ((-1 ≤ a1.toInt ∧ a1.toInt ≤ -1) ∧ (-2147483648 ≤ a2.toInt ∧ a2.toInt ≤ 2147483647)) ∨ ((0 ≤ a1.toInt ∧ a1.toInt ≤ 2147483647) ∧ (-2147483648 ≤ a2.toInt ∧ a2.toInt ≤ 2147483647)) by omega) with ⟨pa1, pa2⟩ | ⟨pa1, pa2⟩ | ⟨pa1, pa2⟩
  · exact ⟨_, px_same (px_x27_0 a1 a2 pa1 pa2) (px_r27_0 a1 a2 pa1 pa2)⟩
  · have ea1 : a1 = (-1 : Int32) := Int32.toInt_inj.mp (show a1.toInt = -1 by omega)
    subst ea1
    exact ⟨_, px_same (px_x27_1 a2 pa2) (px_r27_1 a2 pa2)⟩
  · exact ⟨_, px_same (px_x27_2 a1 a2 pa1 pa2) (px_r27_2 a1 a2 pa1 pa2)⟩
set_option maxHeartbeats 1000000 in
theorem px_case_28 {ro : px_RO} {dd : Nat} : ∃ v : Int32, px_Same ro (dd + 8) 147 306 [] (.int v) := by
  exact ⟨_, px_same (px_x28_0  ) (px_r28_0  )⟩
set_option maxHeartbeats 1000000 in
theorem px_case_30 {ro : px_RO} {dd : Nat} (a1 a2 : Int32) : ∃ v : Int32, px_Same ro (dd + 8) 154 311 [.int a1, .int a2] (.int v) := by
  have qa1 : -2147483648 ≤ a1.toInt ∧ a1.toInt ≤ 2147483647 := ⟨a1.le_toInt, by have := a1.toInt_lt; omega⟩
  have qa2 : -2147483648 ≤ a2.toInt ∧ a2.toInt ≤ 2147483647 := ⟨a2.le_toInt, by have := a2.toInt_lt; omega⟩
  rcases (show ((-2147483648 ≤ a1.toInt ∧ a1.toInt ≤ -1) ∧ (-2147483648 ≤ a2.toInt ∧ a2.toInt ≤ 2147483647)) ∨ ((0 ≤ a1.toInt ∧ a1.toInt ≤ 2147483647) ∧ (-2147483648 ≤ a2.toInt ∧ a2.toInt ≤ 2147483647)) by omega) with ⟨pa1, pa2⟩ | ⟨pa1, pa2⟩
  · exact ⟨_, px_same (px_x30_0 a1 a2 pa1 pa2) (px_r30_0 a1 a2 pa1 pa2)⟩
  · exact ⟨_, px_same (px_x30_1 a1 a2 pa1 pa2) (px_r30_1 a1 a2 pa1 pa2)⟩
set_option maxHeartbeats 1000000 in
theorem px_case_31 {ro : px_RO} {dd : Nat} (a1 a2 : Int32) : ∃ v : Int32, px_Same ro (dd + 8) 158 314 [.int a1, .int a2] (.int v) := by
  have qa1 : -2147483648 ≤ a1.toInt ∧ a1.toInt ≤ 2147483647 := ⟨a1.le_toInt, by have := a1.toInt_lt; omega⟩
  have qa2 : -2147483648 ≤ a2.toInt ∧ a2.toInt ≤ 2147483647 := ⟨a2.le_toInt, by have := a2.toInt_lt; omega⟩
  rcases (show ((-2147483648 ≤ a1.toInt ∧ a1.toInt ≤ -1) ∧ (-2147483648 ≤ a2.toInt ∧ a2.toInt ≤ 2147483647)) ∨ ((0 ≤ a1.toInt ∧ a1.toInt ≤ 2147483647) ∧ (-2147483648 ≤ a2.toInt ∧ a2.toInt ≤ 2147483647)) by omega) with ⟨pa1, pa2⟩ | ⟨pa1, pa2⟩
  · exact ⟨_, px_same (px_x31_0 a1 a2 pa1 pa2) (px_r31_0 a1 a2 pa1 pa2)⟩
  · exact ⟨_, px_same (px_x31_1 a1 a2 pa1 pa2) (px_r31_1 a1 a2 pa1 pa2)⟩
set_option maxHeartbeats 1000000 in
theorem px_case_32 {ro : px_RO} {dd : Nat} : ∃ v : Int32, px_Same ro (dd + 8) 161 316 [] (.int v) := by
  exact ⟨_, px_same (px_x32_0  ) (px_r32_0  )⟩
set_option maxHeartbeats 1000000 in
theorem px_case_33 {ro : px_RO} {dd : Nat} (a1 a2 a3 a4 a5 : Int32) : ∃ v : Int32, px_Same ro (dd + 8) 163 318 [.int a1, .int a2, .int a3, .int a4, .int a5] (.int v) := by
  have qa1 : -2147483648 ≤ a1.toInt ∧ a1.toInt ≤ 2147483647 := ⟨a1.le_toInt, by have := a1.toInt_lt; omega⟩
  have qa2 : -2147483648 ≤ a2.toInt ∧ a2.toInt ≤ 2147483647 := ⟨a2.le_toInt, by have := a2.toInt_lt; omega⟩
  have qa3 : -2147483648 ≤ a3.toInt ∧ a3.toInt ≤ 2147483647 := ⟨a3.le_toInt, by have := a3.toInt_lt; omega⟩
  have qa4 : -2147483648 ≤ a4.toInt ∧ a4.toInt ≤ 2147483647 := ⟨a4.le_toInt, by have := a4.toInt_lt; omega⟩
  have qa5 : -2147483648 ≤ a5.toInt ∧ a5.toInt ≤ 2147483647 := ⟨a5.le_toInt, by have := a5.toInt_lt; omega⟩
  rcases (show ((-2147483648 ≤ a1.toInt ∧ a1.toInt ≤ -1) ∧ (-2147483648 ≤ a2.toInt ∧ a2.toInt ≤ 2147483647) ∧ (-2147483648 ≤ a3.toInt ∧ a3.toInt ≤ 2147483647) ∧ (-2147483648 ≤ a4.toInt ∧ a4.toInt ≤ 2147483647) ∧ (-2147483648 ≤ a5.toInt ∧ a5.toInt ≤ 2147483647)) ∨ ((0 ≤ a1.toInt ∧ a1.toInt ≤ 2147483647) ∧ (-2147483648 ≤ a2.toInt ∧ a2.toInt ≤ 2147483647) ∧ (-2147483648 ≤ a3.toInt ∧ a3.toInt ≤ 2147483647) ∧ (-2147483648 ≤ a4.toInt ∧ a4.toInt ≤ 2147483647) ∧ (-2147483648 ≤ a5.toInt ∧ a5.toInt ≤ 2147483647)) by omega) with ⟨pa1, pa2, pa3, pa4, pa5⟩ | ⟨pa1, pa2, pa3, pa4, pa5⟩
  · exact ⟨_, px_same (px_x33_0 a1 a2 a3 a4 a5 pa1 pa2 pa3 pa4 pa5) (px_r33_0 a1 a2 a3 a4 a5 pa1 pa2 pa3 pa4 pa5)⟩
  · exact ⟨_, px_same (px_x33_1 a1 a2 a3 a4 a5 pa1 pa2 pa3 pa4 pa5) (px_r33_1 a1 a2 a3 a4 a5 pa1 pa2 pa3 pa4 pa5)⟩
set_option maxHeartbeats 1000000 in
theorem px_case_34 {ro : px_RO} {dd : Nat} (a1 : Int32) : ∃ v : Int32, px_Same ro (dd + 8) 164 319 [.int a1] (.int v) := by
  have qa1 : -2147483648 ≤ a1.toInt ∧ a1.toInt ≤ 2147483647 := ⟨a1.le_toInt, by have := a1.toInt_lt; omega⟩
  rcases (show ((-2147483648 ≤ a1.toInt ∧ a1.toInt ≤ -2)) ∨ ((-1 ≤ a1.toInt ∧ a1.toInt ≤ -1)) ∨ ((0 ≤ a1.toInt ∧ a1.toInt ≤ 2147483647)) by omega) with ⟨pa1⟩ | ⟨pa1⟩ | ⟨pa1⟩
  · exact ⟨_, px_same (px_x34_0 a1 pa1) (px_r34_0 a1 pa1)⟩
  · have ea1 : a1 = (-1 : Int32) := Int32.toInt_inj.mp (show a1.toInt = -1 by omega)
    subst ea1
    exact ⟨_, px_same (px_x34_1  ) (px_r34_1  )⟩
  · exact ⟨_, px_same (px_x34_2 a1 pa1) (px_r34_2 a1 pa1)⟩
set_option maxHeartbeats 1000000 in
theorem px_case_35 {ro : px_RO} {dd : Nat} (a1 a2 : Int32) (fa2 : a2 = 0 ∨ a2 = 1) : ∃ v : Int32, px_Same ro (dd + 8) 166 321 [.int a1, .int a2] (.int v) := by
  have qa1 : -2147483648 ≤ a1.toInt ∧ a1.toInt ≤ 2147483647 := ⟨a1.le_toInt, by have := a1.toInt_lt; omega⟩
  have qa2 : 0 ≤ a2.toInt ∧ a2.toInt ≤ 1 := by rcases fa2 with rfl | rfl <;> decide
  rcases (show ((-2147483648 ≤ a1.toInt ∧ a1.toInt ≤ -2) ∧ (0 ≤ a2.toInt ∧ a2.toInt ≤ 1)) ∨ ((-1 ≤ a1.toInt ∧ a1.toInt ≤ -1) ∧ (0 ≤ a2.toInt ∧ a2.toInt ≤ 1)) ∨ ((0 ≤ a1.toInt ∧ a1.toInt ≤ 0) ∧ (0 ≤ a2.toInt ∧ a2.toInt ≤ 0)) ∨ ((0 ≤ a1.toInt ∧ a1.toInt ≤ 0) ∧ (1 ≤ a2.toInt ∧ a2.toInt ≤ 1)) ∨ ((1 ≤ a1.toInt ∧ a1.toInt ≤ 1) ∧ (0 ≤ a2.toInt ∧ a2.toInt ≤ 0)) ∨ ((1 ≤ a1.toInt ∧ a1.toInt ≤ 1) ∧ (1 ≤ a2.toInt ∧ a2.toInt ≤ 1)) ∨ ((2 ≤ a1.toInt ∧ a1.toInt ≤ 2) ∧ (0 ≤ a2.toInt ∧ a2.toInt ≤ 0)) ∨ ((2 ≤ a1.toInt ∧ a1.toInt ≤ 2) ∧ (1 ≤ a2.toInt ∧ a2.toInt ≤ 1)) ∨ ((3 ≤ a1.toInt ∧ a1.toInt ≤ 3) ∧ (0 ≤ a2.toInt ∧ a2.toInt ≤ 0)) ∨ ((3 ≤ a1.toInt ∧ a1.toInt ≤ 3) ∧ (1 ≤ a2.toInt ∧ a2.toInt ≤ 1)) ∨ ((4 ≤ a1.toInt ∧ a1.toInt ≤ 2147483647) ∧ (0 ≤ a2.toInt ∧ a2.toInt ≤ 1)) by omega) with ⟨pa1, pa2⟩ | ⟨pa1, pa2⟩ | ⟨pa1, pa2⟩ | ⟨pa1, pa2⟩ | ⟨pa1, pa2⟩ | ⟨pa1, pa2⟩ | ⟨pa1, pa2⟩ | ⟨pa1, pa2⟩ | ⟨pa1, pa2⟩ | ⟨pa1, pa2⟩ | ⟨pa1, pa2⟩
  · exact ⟨_, px_same (px_x35_0 a1 a2 pa1 pa2) (px_r35_0 a1 a2 pa1 pa2)⟩
  · have ea1 : a1 = (-1 : Int32) := Int32.toInt_inj.mp (show a1.toInt = -1 by omega)
    subst ea1
    exact ⟨_, px_same (px_x35_1 a2 pa2) (px_r35_1 a2 pa2)⟩
  · have ea1 : a1 = (0 : Int32) := Int32.toInt_inj.mp (show a1.toInt = 0 by omega)
    subst ea1
    have ea2 : a2 = (0 : Int32) := Int32.toInt_inj.mp (show a2.toInt = 0 by omega)
    subst ea2
    exact ⟨_, px_same (px_x35_2  ) (px_r35_2  )⟩
  · have ea1 : a1 = (0 : Int32) := Int32.toInt_inj.mp (show a1.toInt = 0 by omega)
    subst ea1
    have ea2 : a2 = (1 : Int32) := Int32.toInt_inj.mp (show a2.toInt = 1 by omega)
    subst ea2
    exact ⟨_, px_same (px_x35_3  ) (px_r35_3  )⟩
  · have ea1 : a1 = (1 : Int32) := Int32.toInt_inj.mp (show a1.toInt = 1 by omega)
    subst ea1
    have ea2 : a2 = (0 : Int32) := Int32.toInt_inj.mp (show a2.toInt = 0 by omega)
    subst ea2
    exact ⟨_, px_same (px_x35_4  ) (px_r35_4  )⟩
  · have ea1 : a1 = (1 : Int32) := Int32.toInt_inj.mp (show a1.toInt = 1 by omega)
    subst ea1
    have ea2 : a2 = (1 : Int32) := Int32.toInt_inj.mp (show a2.toInt = 1 by omega)
    subst ea2
    exact ⟨_, px_same (px_x35_5  ) (px_r35_5  )⟩
  · have ea1 : a1 = (2 : Int32) := Int32.toInt_inj.mp (show a1.toInt = 2 by omega)
    subst ea1
    have ea2 : a2 = (0 : Int32) := Int32.toInt_inj.mp (show a2.toInt = 0 by omega)
    subst ea2
    exact ⟨_, px_same (px_x35_6  ) (px_r35_6  )⟩
  · have ea1 : a1 = (2 : Int32) := Int32.toInt_inj.mp (show a1.toInt = 2 by omega)
    subst ea1
    have ea2 : a2 = (1 : Int32) := Int32.toInt_inj.mp (show a2.toInt = 1 by omega)
    subst ea2
    exact ⟨_, px_same (px_x35_7  ) (px_r35_7  )⟩
  · have ea1 : a1 = (3 : Int32) := Int32.toInt_inj.mp (show a1.toInt = 3 by omega)
    subst ea1
    have ea2 : a2 = (0 : Int32) := Int32.toInt_inj.mp (show a2.toInt = 0 by omega)
    subst ea2
    exact ⟨_, px_same (px_x35_8  ) (px_r35_8  )⟩
  · have ea1 : a1 = (3 : Int32) := Int32.toInt_inj.mp (show a1.toInt = 3 by omega)
    subst ea1
    have ea2 : a2 = (1 : Int32) := Int32.toInt_inj.mp (show a2.toInt = 1 by omega)
    subst ea2
    exact ⟨_, px_same (px_x35_9  ) (px_r35_9  )⟩
  · exact ⟨_, px_same (px_x35_10 a1 a2 pa1 pa2) (px_r35_10 a1 a2 pa1 pa2)⟩
set_option maxHeartbeats 1000000 in
theorem px_case_36 {ro : px_RO} {dd : Nat} (a1 a2 : Int32) (fa2 : a2 = 0 ∨ a2 = 1) : ∃ v : Int32, px_Same ro (dd + 8) 169 322 [.int a1, .int a2] (.int v) := by
  have qa1 : -2147483648 ≤ a1.toInt ∧ a1.toInt ≤ 2147483647 := ⟨a1.le_toInt, by have := a1.toInt_lt; omega⟩
  have qa2 : 0 ≤ a2.toInt ∧ a2.toInt ≤ 1 := by rcases fa2 with rfl | rfl <;> decide
  rcases (show ((-2147483648 ≤ a1.toInt ∧ a1.toInt ≤ -1) ∧ (0 ≤ a2.toInt ∧ a2.toInt ≤ 1)) ∨ ((0 ≤ a1.toInt ∧ a1.toInt ≤ 0) ∧ (0 ≤ a2.toInt ∧ a2.toInt ≤ 1)) ∨ ((1 ≤ a1.toInt ∧ a1.toInt ≤ 1) ∧ (0 ≤ a2.toInt ∧ a2.toInt ≤ 1)) ∨ ((2 ≤ a1.toInt ∧ a1.toInt ≤ 2) ∧ (0 ≤ a2.toInt ∧ a2.toInt ≤ 1)) ∨ ((3 ≤ a1.toInt ∧ a1.toInt ≤ 3) ∧ (0 ≤ a2.toInt ∧ a2.toInt ≤ 1)) ∨ ((4 ≤ a1.toInt ∧ a1.toInt ≤ 2147483647) ∧ (0 ≤ a2.toInt ∧ a2.toInt ≤ 1)) by omega) with ⟨pa1, pa2⟩ | ⟨pa1, pa2⟩ | ⟨pa1, pa2⟩ | ⟨pa1, pa2⟩ | ⟨pa1, pa2⟩ | ⟨pa1, pa2⟩
  · exact ⟨_, px_same (px_x36_0 a1 a2 pa1 pa2) (px_r36_0 a1 a2 pa1 pa2)⟩
  · have ea1 : a1 = (0 : Int32) := Int32.toInt_inj.mp (show a1.toInt = 0 by omega)
    subst ea1
    exact ⟨_, px_same (px_x36_1 a2 pa2) (px_r36_1 a2 pa2)⟩
  · have ea1 : a1 = (1 : Int32) := Int32.toInt_inj.mp (show a1.toInt = 1 by omega)
    subst ea1
    exact ⟨_, px_same (px_x36_2 a2 pa2) (px_r36_2 a2 pa2)⟩
  · have ea1 : a1 = (2 : Int32) := Int32.toInt_inj.mp (show a1.toInt = 2 by omega)
    subst ea1
    exact ⟨_, px_same (px_x36_3 a2 pa2) (px_r36_3 a2 pa2)⟩
  · have ea1 : a1 = (3 : Int32) := Int32.toInt_inj.mp (show a1.toInt = 3 by omega)
    subst ea1
    exact ⟨_, px_same (px_x36_4 a2 pa2) (px_r36_4 a2 pa2)⟩
  · exact ⟨_, px_same (px_x36_5 a1 a2 pa1 pa2) (px_r36_5 a1 a2 pa1 pa2)⟩
set_option maxHeartbeats 1000000 in
theorem px_case_37 {ro : px_RO} {dd : Nat} : ∃ v : Int32, px_Same ro (dd + 8) 170 324 [] (.int v) := by
  exact ⟨_, px_same (px_x37_0  ) (px_r37_0  )⟩
set_option maxHeartbeats 1000000 in
theorem px_case_38 {ro : px_RO} {dd : Nat} : ∃ v : Int32, px_Same ro (dd + 8) 173 325 [] (.int v) := by
  exact ⟨_, px_same (px_x38_0  ) (px_r38_0  )⟩
set_option maxHeartbeats 1000000 in
theorem px_case_39 {ro : px_RO} {dd : Nat} : ∃ v : Int32, px_Same ro (dd + 8) 177 326 [] (.int v) := by
  exact ⟨_, px_same (px_x39_0  ) (px_r39_0  )⟩
set_option maxHeartbeats 1000000 in
theorem px_case_40 {ro : px_RO} {dd : Nat} (a1 : Int32) : ∃ v : Int32, px_Same ro (dd + 8) 179 327 [.int a1] (.int v) := by
  have qa1 : -2147483648 ≤ a1.toInt ∧ a1.toInt ≤ 2147483647 := ⟨a1.le_toInt, by have := a1.toInt_lt; omega⟩
  rcases (show ((-2147483648 ≤ a1.toInt ∧ a1.toInt ≤ -1)) ∨ ((0 ≤ a1.toInt ∧ a1.toInt ≤ 0)) ∨ ((1 ≤ a1.toInt ∧ a1.toInt ≤ 1)) ∨ ((2 ≤ a1.toInt ∧ a1.toInt ≤ 2)) ∨ ((3 ≤ a1.toInt ∧ a1.toInt ≤ 3)) ∨ ((4 ≤ a1.toInt ∧ a1.toInt ≤ 4)) ∨ ((5 ≤ a1.toInt ∧ a1.toInt ≤ 5)) ∨ ((6 ≤ a1.toInt ∧ a1.toInt ≤ 6)) ∨ ((7 ≤ a1.toInt ∧ a1.toInt ≤ 7)) ∨ ((8 ≤ a1.toInt ∧ a1.toInt ≤ 8)) ∨ ((9 ≤ a1.toInt ∧ a1.toInt ≤ 9)) ∨ ((10 ≤ a1.toInt ∧ a1.toInt ≤ 10)) ∨ ((11 ≤ a1.toInt ∧ a1.toInt ≤ 11)) ∨ ((12 ≤ a1.toInt ∧ a1.toInt ≤ 12)) ∨ ((13 ≤ a1.toInt ∧ a1.toInt ≤ 2147483647)) by omega) with ⟨pa1⟩ | ⟨pa1⟩ | ⟨pa1⟩ | ⟨pa1⟩ | ⟨pa1⟩ | ⟨pa1⟩ | ⟨pa1⟩ | ⟨pa1⟩ | ⟨pa1⟩ | ⟨pa1⟩ | ⟨pa1⟩ | ⟨pa1⟩ | ⟨pa1⟩ | ⟨pa1⟩ | ⟨pa1⟩
  · exact ⟨_, px_same (px_x40_0 a1 pa1) (px_r40_0 a1 pa1)⟩
  · have ea1 : a1 = (0 : Int32) := Int32.toInt_inj.mp (show a1.toInt = 0 by omega)
    subst ea1
    exact ⟨_, px_same (px_x40_1  ) (px_r40_1  )⟩
  · have ea1 : a1 = (1 : Int32) := Int32.toInt_inj.mp (show a1.toInt = 1 by omega)
    subst ea1
    exact ⟨_, px_same (px_x40_2  ) (px_r40_2  )⟩
  · have ea1 : a1 = (2 : Int32) := Int32.toInt_inj.mp (show a1.toInt = 2 by omega)
    subst ea1
    exact ⟨_, px_same (px_x40_3  ) (px_r40_3  )⟩
  · have ea1 : a1 = (3 : Int32) := Int32.toInt_inj.mp (show a1.toInt = 3 by omega)
    subst ea1
    exact ⟨_, px_same (px_x40_4  ) (px_r40_4  )⟩
  · have ea1 : a1 = (4 : Int32) := Int32.toInt_inj.mp (show a1.toInt = 4 by omega)
    subst ea1
    exact ⟨_, px_same (px_x40_5  ) (px_r40_5  )⟩
  · have ea1 : a1 = (5 : Int32) := Int32.toInt_inj.mp (show a1.toInt = 5 by omega)
    subst ea1
    exact ⟨_, px_same (px_x40_6  ) (px_r40_6  )⟩
  · have ea1 : a1 = (6 : Int32) := Int32.toInt_inj.mp (show a1.toInt = 6 by omega)
    subst ea1
    exact ⟨_, px_same (px_x40_7  ) (px_r40_7  )⟩
  · have ea1 : a1 = (7 : Int32) := Int32.toInt_inj.mp (show a1.toInt = 7 by omega)
    subst ea1
    exact ⟨_, px_same (px_x40_8  ) (px_r40_8  )⟩
  · have ea1 : a1 = (8 : Int32) := Int32.toInt_inj.mp (show a1.toInt = 8 by omega)
    subst ea1
    exact ⟨_, px_same (px_x40_9  ) (px_r40_9  )⟩
  · have ea1 : a1 = (9 : Int32) := Int32.toInt_inj.mp (show a1.toInt = 9 by omega)
    subst ea1
    exact ⟨_, px_same (px_x40_10  ) (px_r40_10  )⟩
  · have ea1 : a1 = (10 : Int32) := Int32.toInt_inj.mp (show a1.toInt = 10 by omega)
    subst ea1
    exact ⟨_, px_same (px_x40_11  ) (px_r40_11  )⟩
  · have ea1 : a1 = (11 : Int32) := Int32.toInt_inj.mp (show a1.toInt = 11 by omega)
    subst ea1
    exact ⟨_, px_same (px_x40_12  ) (px_r40_12  )⟩
  · have ea1 : a1 = (12 : Int32) := Int32.toInt_inj.mp (show a1.toInt = 12 by omega)
    subst ea1
    exact ⟨_, px_same (px_x40_13  ) (px_r40_13  )⟩
  · exact ⟨_, px_same (px_x40_14 a1 pa1) (px_r40_14 a1 pa1)⟩
