theorem iv_f3e1fa21c {i : Int} (e : i = 0) : 0 ≤ (iv_a i).1 ∧ (iv_a i).2 ≤ 12 := by
  subst e
  decide +kernel
theorem iv_f9ef4f91d {i : Int} (x0 : Int) (e : i = 14 + 3 * x0) (h0 : 0 ≤ x0 ∧ x0 ≤ 11) : (iv_a i).1 ≤ 0 ∧ 3 ≤ (iv_a i).2 := by
  have k : ∀ n0 : Nat, n0 < 12 → (iv_a (14 + 3 * (0 + (n0 : Int)))).1 ≤ 0 ∧ 3 ≤ (iv_a (14 + 3 * (0 + (n0 : Int)))).2 := by decide +kernel
  rw [e, show x0 = 0 + ((x0 - 0).toNat : Int) by omega]
  exact k _ (by omega)
theorem iv_f509b3304 {i : Int} (x0 : Int) (e : i = 15 + 3 * x0) (h0 : 0 ≤ x0 ∧ x0 ≤ 11) : (iv_a i).1 ≤ 0 ∧ 99 ≤ (iv_a i).2 := by
  have k : ∀ n0 : Nat, n0 < 12 → (iv_a (15 + 3 * (0 + (n0 : Int)))).1 ≤ 0 ∧ 99 ≤ (iv_a (15 + 3 * (0 + (n0 : Int)))).2 := by decide +kernel
  rw [e, show x0 = 0 + ((x0 - 0).toNat : Int) by omega]
  exact k _ (by omega)
theorem iv_f06618364 {i : Int} (x0 : Int) (e : i = 16 + 3 * x0) (h0 : 0 ≤ x0 ∧ x0 ≤ 11) : (iv_a i).1 ≤ (-2147483648) ∧ 2147483647 ≤ (iv_a i).2 := by
  have k : ∀ n0 : Nat, n0 < 12 → (iv_a (16 + 3 * (0 + (n0 : Int)))).1 ≤ (-2147483648) ∧ 2147483647 ≤ (iv_a (16 + 3 * (0 + (n0 : Int)))).2 := by decide +kernel
  rw [e, show x0 = 0 + ((x0 - 0).toNat : Int) by omega]
  exact k _ (by omega)
theorem iv_fa511c528 {i : Int} (e : i = 0) : (iv_a i).1 ≤ 0 ∧ 12 ≤ (iv_a i).2 := by
  subst e
  decide +kernel
theorem iv_fd6ad3e54 {i : Int} (e : i = 1) : 0 ≤ (iv_a i).1 ∧ (iv_a i).2 ≤ 16 := by
  subst e
  decide +kernel
theorem iv_f76190a29 {i : Int} (x0 : Int) (e : i = 50 + 4 * x0) (h0 : 0 ≤ x0 ∧ x0 ≤ 15) : 0 ≤ (iv_a i).1 ∧ (iv_a i).2 ≤ 11 := by
  have k : ∀ n0 : Nat, n0 < 16 → 0 ≤ (iv_a (50 + 4 * (0 + (n0 : Int)))).1 ∧ (iv_a (50 + 4 * (0 + (n0 : Int)))).2 ≤ 11 := by decide +kernel
  rw [e, show x0 = 0 + ((x0 - 0).toNat : Int) by omega]
  exact k _ (by omega)
theorem iv_fba8b7512 {i : Int} (x0 : Int) (e : i = 51 + 4 * x0) (h0 : 0 ≤ x0 ∧ x0 ≤ 15) : 0 ≤ (iv_a i).1 ∧ (iv_a i).2 ≤ 11 := by
  have k : ∀ n0 : Nat, n0 < 16 → 0 ≤ (iv_a (51 + 4 * (0 + (n0 : Int)))).1 ∧ (iv_a (51 + 4 * (0 + (n0 : Int)))).2 ≤ 11 := by decide +kernel
  rw [e, show x0 = 0 + ((x0 - 0).toNat : Int) by omega]
  exact k _ (by omega)
theorem iv_f1bf78659 {i : Int} (x0 : Int) (e : i = 50 + 4 * x0) (h0 : 0 ≤ x0 ∧ x0 ≤ 15) : (iv_a i).1 ≤ 0 ∧ 11 ≤ (iv_a i).2 := by
  have k : ∀ n0 : Nat, n0 < 16 → (iv_a (50 + 4 * (0 + (n0 : Int)))).1 ≤ 0 ∧ 11 ≤ (iv_a (50 + 4 * (0 + (n0 : Int)))).2 := by decide +kernel
  rw [e, show x0 = 0 + ((x0 - 0).toNat : Int) by omega]
  exact k _ (by omega)
theorem iv_f22fa496a {i : Int} (x0 : Int) (e : i = 51 + 4 * x0) (h0 : 0 ≤ x0 ∧ x0 ≤ 15) : (iv_a i).1 ≤ 0 ∧ 11 ≤ (iv_a i).2 := by
  have k : ∀ n0 : Nat, n0 < 16 → (iv_a (51 + 4 * (0 + (n0 : Int)))).1 ≤ 0 ∧ 11 ≤ (iv_a (51 + 4 * (0 + (n0 : Int)))).2 := by decide +kernel
  rw [e, show x0 = 0 + ((x0 - 0).toNat : Int) by omega]
  exact k _ (by omega)
theorem iv_fb705ee40 {i : Int} (x0 : Int) (e : i = 0 + 1 * x0) (h0 : 52 ≤ x0 ∧ x0 ≤ 112) : (iv_a i).1 ≤ 0 ∧ 11 ≤ (iv_a i).2 := by
  have k : ∀ n0 : Nat, n0 < 61 → (iv_a (0 + 1 * (52 + (n0 : Int)))).1 ≤ 0 ∧ 11 ≤ (iv_a (0 + 1 * (52 + (n0 : Int)))).2 := by decide +kernel
  rw [e, show x0 = 52 + ((x0 - 52).toNat : Int) by omega]
  exact k _ (by omega)
theorem iv_fb613c05e {i : Int} (x0 : Int) (e : i = 3 + 1 * x0) (h0 : 50 ≤ x0 ∧ x0 ≤ 110) : (iv_a i).1 ≤ 0 ∧ 11 ≤ (iv_a i).2 := by
  have k : ∀ n0 : Nat, n0 < 61 → (iv_a (3 + 1 * (50 + (n0 : Int)))).1 ≤ 0 ∧ 11 ≤ (iv_a (3 + 1 * (50 + (n0 : Int)))).2 := by decide +kernel
  rw [e, show x0 = 50 + ((x0 - 50).toNat : Int) by omega]
  exact k _ (by omega)
theorem iv_f101411cb {i : Int} (x0 : Int) (e : i = 174 + 5 * x0) (h0 : 0 ≤ x0 ∧ x0 ≤ 16) : (iv_a i).1 ≤ (-2147483648) ∧ 2147483647 ≤ (iv_a i).2 := by
  have k : ∀ n0 : Nat, n0 < 17 → (iv_a (174 + 5 * (0 + (n0 : Int)))).1 ≤ (-2147483648) ∧ 2147483647 ≤ (iv_a (174 + 5 * (0 + (n0 : Int)))).2 := by decide +kernel
  rw [e, show x0 = 0 + ((x0 - 0).toNat : Int) by omega]
  exact k _ (by omega)
theorem iv_febe3d830 {i : Int} (e : i = 1) : (iv_a i).1 ≤ 0 ∧ 16 ≤ (iv_a i).2 := by
  subst e
  decide +kernel
theorem iv_f2103129b {i : Int} (e : i = 2) : 0 ≤ (iv_a i).1 ∧ (iv_a i).2 ≤ 6 := by
  subst e
  decide +kernel
theorem iv_f34718fbc {i : Int} (x0 : Int) (e : i = 126 + 6 * x0) (h0 : 0 ≤ x0 ∧ x0 ≤ 5) : (iv_a i).1 ≤ (-2147483648) ∧ 2147483647 ≤ (iv_a i).2 := by
  have k : ∀ n0 : Nat, n0 < 6 → (iv_a (126 + 6 * (0 + (n0 : Int)))).1 ≤ (-2147483648) ∧ 2147483647 ≤ (iv_a (126 + 6 * (0 + (n0 : Int)))).2 := by decide +kernel
  rw [e, show x0 = 0 + ((x0 - 0).toNat : Int) by omega]
  exact k _ (by omega)
theorem iv_faf15f4fa {i : Int} (x0 : Int) (e : i = 127 + 6 * x0) (h0 : 0 ≤ x0 ∧ x0 ≤ 5) : (iv_a i).1 ≤ 0 ∧ 1 ≤ (iv_a i).2 := by
  have k : ∀ n0 : Nat, n0 < 6 → (iv_a (127 + 6 * (0 + (n0 : Int)))).1 ≤ 0 ∧ 1 ≤ (iv_a (127 + 6 * (0 + (n0 : Int)))).2 := by decide +kernel
  rw [e, show x0 = 0 + ((x0 - 0).toNat : Int) by omega]
  exact k _ (by omega)
theorem iv_f991cbfbb {i : Int} (x0 : Int) (e : i = 128 + 6 * x0) (h0 : 0 ≤ x0 ∧ x0 ≤ 5) : (iv_a i).1 ≤ (-2147483648) ∧ 2147483647 ≤ (iv_a i).2 := by
  have k : ∀ n0 : Nat, n0 < 6 → (iv_a (128 + 6 * (0 + (n0 : Int)))).1 ≤ (-2147483648) ∧ 2147483647 ≤ (iv_a (128 + 6 * (0 + (n0 : Int)))).2 := by decide +kernel
  rw [e, show x0 = 0 + ((x0 - 0).toNat : Int) by omega]
  exact k _ (by omega)
theorem iv_f6516b99e {i : Int} (x0 : Int) (e : i = 129 + 6 * x0) (h0 : 0 ≤ x0 ∧ x0 ≤ 5) : (iv_a i).1 ≤ 0 ∧ 11 ≤ (iv_a i).2 := by
  have k : ∀ n0 : Nat, n0 < 6 → (iv_a (129 + 6 * (0 + (n0 : Int)))).1 ≤ 0 ∧ 11 ≤ (iv_a (129 + 6 * (0 + (n0 : Int)))).2 := by decide +kernel
  rw [e, show x0 = 0 + ((x0 - 0).toNat : Int) by omega]
  exact k _ (by omega)
theorem iv_f80bf31e9 {i : Int} (x0 : Int) (e : i = 130 + 6 * x0) (h0 : 0 ≤ x0 ∧ x0 ≤ 5) : (iv_a i).1 ≤ (-1) ∧ 11 ≤ (iv_a i).2 := by
  have k : ∀ n0 : Nat, n0 < 6 → (iv_a (130 + 6 * (0 + (n0 : Int)))).1 ≤ (-1) ∧ 11 ≤ (iv_a (130 + 6 * (0 + (n0 : Int)))).2 := by decide +kernel
  rw [e, show x0 = 0 + ((x0 - 0).toNat : Int) by omega]
  exact k _ (by omega)
theorem iv_fda897c4c {i : Int} (x0 : Int) (e : i = 131 + 6 * x0) (h0 : 0 ≤ x0 ∧ x0 ≤ 5) : (iv_a i).1 ≤ 0 ∧ 11 ≤ (iv_a i).2 := by
  have k : ∀ n0 : Nat, n0 < 6 → (iv_a (131 + 6 * (0 + (n0 : Int)))).1 ≤ 0 ∧ 11 ≤ (iv_a (131 + 6 * (0 + (n0 : Int)))).2 := by decide +kernel
  rw [e, show x0 = 0 + ((x0 - 0).toNat : Int) by omega]
  exact k _ (by omega)
theorem iv_fd398447a {i : Int} (e : i = 2) : (iv_a i).1 ≤ 0 ∧ 6 ≤ (iv_a i).2 := by
  subst e
  decide +kernel
theorem iv_ffb272d5f {i : Int} (e : i = 7) : 0 ≤ (iv_a i).1 ∧ (iv_a i).2 ≤ 4 := by
  subst e
  decide +kernel
theorem iv_fae12ecb2 {i : Int} (x0 : Int) (e : i = 0 + 705 * x0) (h0 : 0 ≤ x0 ∧ x0 ≤ 4) : (iv_x i).1 ≤ 0 ∧ 24 ≤ (iv_x i).2 := by
  have k : ∀ n0 : Nat, n0 < 5 → (iv_x (0 + 705 * (0 + (n0 : Int)))).1 ≤ 0 ∧ 24 ≤ (iv_x (0 + 705 * (0 + (n0 : Int)))).2 := by decide +kernel
  rw [e, show x0 = 0 + ((x0 - 0).toNat : Int) by omega]
  exact k _ (by omega)
theorem iv_f60c478be {i : Int} (x0 : Int) (e : i = 0 + 1 * x0) (h0 : 0 ≤ x0 ∧ x0 ≤ 2115) : (-2147483648) ≤ (iv_x i).1 ∧ (iv_x i).2 ≤ 2147483647 := iv_x_F i
theorem iv_fbefb360b {i : Int} (x0 : Int) (x1 : Int) (e : i = 1 + 1 * x0 + 4 * x1) (h0 : 0 ≤ x0 ∧ x0 ≤ 2115) (h1 : 0 ≤ x1 ∧ x1 ≤ 23) : (iv_x i).1 ≤ 0 ∧ 24 ≤ (iv_x i).2 := by
  unfold iv_x
  repeat' refine iv_itW (fun h => ?_) (fun h => ?_)
  all_goals first | exact ⟨by decide, by decide⟩ | (exfalso; omega)
theorem iv_f9299bbb0 {i : Int} (x0 : Int) (e : i = 1 + 1 * x0) (h0 : 1 ≤ x0 ∧ x0 ≤ 2208) : (iv_x i).1 ≤ 0 ∧ 24 ≤ (iv_x i).2 := by
  unfold iv_x
  repeat' refine iv_itW (fun h => ?_) (fun h => ?_)
  all_goals first | exact ⟨by decide, by decide⟩ | (exfalso; omega)
theorem iv_f73fdbadc {i : Int} (x0 : Int) (e : i = 2 + 1 * x0) (h0 : 1 ≤ x0 ∧ x0 ≤ 2208) : (iv_x i).1 ≤ 0 ∧ 24 ≤ (iv_x i).2 := by
  unfold iv_x
  repeat' refine iv_itW (fun h => ?_) (fun h => ?_)
  all_goals first | exact ⟨by decide, by decide⟩ | (exfalso; omega)
theorem iv_f8f33ec46 {i : Int} (x0 : Int) (e : i = 0 + 1 * x0) (h0 : 2 ≤ x0 ∧ x0 ≤ 2210) : (iv_x i).1 ≤ 0 ∧ 24 ≤ (iv_x i).2 := by
  unfold iv_x
  repeat' refine iv_itW (fun h => ?_) (fun h => ?_)
  all_goals first | exact ⟨by decide, by decide⟩ | (exfalso; omega)
theorem iv_f926acb4b {i : Int} (x0 : Int) (e : i = 0 + 1 * x0) (h0 : 0 ≤ x0 ∧ x0 ≤ 2115) : (iv_x i).1 ≤ 0 ∧ 24 ≤ (iv_x i).2 := by
  unfold iv_x
  repeat' refine iv_itW (fun h => ?_) (fun h => ?_)
  all_goals first | exact ⟨by decide, by decide⟩ | (exfalso; omega)
theorem iv_f29303112 {i : Int} (e : i = 7) : (iv_a i).1 ≤ 0 ∧ 4 ≤ (iv_a i).2 := by
  subst e
  decide +kernel
theorem iv_f0c0828f9 {i : Int} (e : i = 8) : (iv_a i).1 ≤ (-1) ∧ 3 ≤ (iv_a i).2 := by
  subst e
  decide +kernel
theorem iv_f94fa157c {i : Int} (x0 : Int) (x1 : Int) (e : i = 24 + 39 * x0 + 2 * x1) (h0 : 0 ≤ x0 ∧ x0 ≤ 29) (h1 : 6 ≤ x1 ∧ x1 ≤ 6) : (iv_s i).1 ≤ (-2147483648) ∧ 2147483647 ≤ (iv_s i).2 := by
  have k : ∀ n0 : Nat, n0 < 30 → ∀ n1 : Nat, n1 < 1 → (iv_s (24 + 39 * (0 + (n0 : Int)) + 2 * (6 + (n1 : Int)))).1 ≤ (-2147483648) ∧ 2147483647 ≤ (iv_s (24 + 39 * (0 + (n0 : Int)) + 2 * (6 + (n1 : Int)))).2 := by decide +kernel
  rw [e, show x0 = 0 + ((x0 - 0).toNat : Int) by omega, show x1 = 6 + ((x1 - 6).toNat : Int) by omega]
  exact k _ (by omega) _ (by omega)
theorem iv_f5e4c071d {i : Int} (x0 : Int) (x1 : Int) (e : i = 25 + 39 * x0 + 2 * x1) (h0 : 0 ≤ x0 ∧ x0 ≤ 29) (h1 : 6 ≤ x1 ∧ x1 ≤ 6) : (iv_s i).1 ≤ (-2147483648) ∧ 2147483647 ≤ (iv_s i).2 := by
  have k : ∀ n0 : Nat, n0 < 30 → ∀ n1 : Nat, n1 < 1 → (iv_s (25 + 39 * (0 + (n0 : Int)) + 2 * (6 + (n1 : Int)))).1 ≤ (-2147483648) ∧ 2147483647 ≤ (iv_s (25 + 39 * (0 + (n0 : Int)) + 2 * (6 + (n1 : Int)))).2 := by decide +kernel
  rw [e, show x0 = 0 + ((x0 - 0).toNat : Int) by omega, show x1 = 6 + ((x1 - 6).toNat : Int) by omega]
  exact k _ (by omega) _ (by omega)
theorem iv_fc75fd977 {i : Int} (x0 : Int) (x1 : Int) (e : i = 26 + 39 * x0 + 2 * x1) (h0 : 0 ≤ x0 ∧ x0 ≤ 29) (h1 : 6 ≤ x1 ∧ x1 ≤ 6) : (iv_s i).1 ≤ (-2147483648) ∧ 2147483647 ≤ (iv_s i).2 := by
  have k : ∀ n0 : Nat, n0 < 30 → ∀ n1 : Nat, n1 < 1 → (iv_s (26 + 39 * (0 + (n0 : Int)) + 2 * (6 + (n1 : Int)))).1 ≤ (-2147483648) ∧ 2147483647 ≤ (iv_s (26 + 39 * (0 + (n0 : Int)) + 2 * (6 + (n1 : Int)))).2 := by decide +kernel
  rw [e, show x0 = 0 + ((x0 - 0).toNat : Int) by omega, show x1 = 6 + ((x1 - 6).toNat : Int) by omega]
  exact k _ (by omega) _ (by omega)
theorem iv_f8e736285 {i : Int} (x0 : Int) (x1 : Int) (e : i = 12 + 39 * x0 + 2 * x1) (h0 : 0 ≤ x0 ∧ x0 ≤ 29) (h1 : 0 ≤ x1 ∧ x1 ≤ 5) : (iv_s i).1 ≤ (-2147483648) ∧ 2147483647 ≤ (iv_s i).2 := by
  have k : ∀ n0 : Nat, n0 < 30 → ∀ n1 : Nat, n1 < 6 → (iv_s (12 + 39 * (0 + (n0 : Int)) + 2 * (0 + (n1 : Int)))).1 ≤ (-2147483648) ∧ 2147483647 ≤ (iv_s (12 + 39 * (0 + (n0 : Int)) + 2 * (0 + (n1 : Int)))).2 := by decide +kernel
  rw [e, show x0 = 0 + ((x0 - 0).toNat : Int) by omega, show x1 = 0 + ((x1 - 0).toNat : Int) by omega]
  exact k _ (by omega) _ (by omega)
theorem iv_f055a89ee {i : Int} (x0 : Int) (x1 : Int) (e : i = 13 + 39 * x0 + 2 * x1) (h0 : 0 ≤ x0 ∧ x0 ≤ 29) (h1 : 0 ≤ x1 ∧ x1 ≤ 5) : (iv_s i).1 ≤ (-2147483648) ∧ 2147483647 ≤ (iv_s i).2 := by
  have k : ∀ n0 : Nat, n0 < 30 → ∀ n1 : Nat, n1 < 6 → (iv_s (13 + 39 * (0 + (n0 : Int)) + 2 * (0 + (n1 : Int)))).1 ≤ (-2147483648) ∧ 2147483647 ≤ (iv_s (13 + 39 * (0 + (n0 : Int)) + 2 * (0 + (n1 : Int)))).2 := by decide +kernel
  rw [e, show x0 = 0 + ((x0 - 0).toNat : Int) by omega, show x1 = 0 + ((x1 - 0).toNat : Int) by omega]
  exact k _ (by omega) _ (by omega)
theorem iv_fb8c2fe0d {i : Int} (x0 : Int) (x1 : Int) (e : i = 0 + 39 * x0 + 3 * x1) (h0 : 0 ≤ x0 ∧ x0 ≤ 29) (h1 : 0 ≤ x1 ∧ x1 ≤ 3) : (iv_s i).1 ≤ (-2147483648) ∧ 2147483647 ≤ (iv_s i).2 := by
  have k : ∀ n0 : Nat, n0 < 30 → ∀ n1 : Nat, n1 < 4 → (iv_s (0 + 39 * (0 + (n0 : Int)) + 3 * (0 + (n1 : Int)))).1 ≤ (-2147483648) ∧ 2147483647 ≤ (iv_s (0 + 39 * (0 + (n0 : Int)) + 3 * (0 + (n1 : Int)))).2 := by decide +kernel
  rw [e, show x0 = 0 + ((x0 - 0).toNat : Int) by omega, show x1 = 0 + ((x1 - 0).toNat : Int) by omega]
  exact k _ (by omega) _ (by omega)
theorem iv_f103b098e {i : Int} (x0 : Int) (x1 : Int) (e : i = 1 + 39 * x0 + 3 * x1) (h0 : 0 ≤ x0 ∧ x0 ≤ 29) (h1 : 0 ≤ x1 ∧ x1 ≤ 3) : (iv_s i).1 ≤ (-1) ∧ 11 ≤ (iv_s i).2 := by
  have k : ∀ n0 : Nat, n0 < 30 → ∀ n1 : Nat, n1 < 4 → (iv_s (1 + 39 * (0 + (n0 : Int)) + 3 * (0 + (n1 : Int)))).1 ≤ (-1) ∧ 11 ≤ (iv_s (1 + 39 * (0 + (n0 : Int)) + 3 * (0 + (n1 : Int)))).2 := by decide +kernel
  rw [e, show x0 = 0 + ((x0 - 0).toNat : Int) by omega, show x1 = 0 + ((x1 - 0).toNat : Int) by omega]
  exact k _ (by omega) _ (by omega)
theorem iv_fe953598f {i : Int} (x0 : Int) (x1 : Int) (e : i = 2 + 39 * x0 + 3 * x1) (h0 : 0 ≤ x0 ∧ x0 ≤ 29) (h1 : 0 ≤ x1 ∧ x1 ≤ 3) : (iv_s i).1 ≤ (-1) ∧ 11 ≤ (iv_s i).2 := by
  have k : ∀ n0 : Nat, n0 < 30 → ∀ n1 : Nat, n1 < 4 → (iv_s (2 + 39 * (0 + (n0 : Int)) + 3 * (0 + (n1 : Int)))).1 ≤ (-1) ∧ 11 ≤ (iv_s (2 + 39 * (0 + (n0 : Int)) + 3 * (0 + (n1 : Int)))).2 := by decide +kernel
  rw [e, show x0 = 0 + ((x0 - 0).toNat : Int) by omega, show x1 = 0 + ((x1 - 0).toNat : Int) by omega]
  exact k _ (by omega) _ (by omega)
theorem iv_f3318a158 {i : Int} (x0 : Int) (e : i = 114 + 3 * x0) (h0 : 0 ≤ x0 ∧ x0 ≤ 3) : 0 ≤ (iv_a i).1 ∧ (iv_a i).2 ≤ 24 := by
  have k : ∀ n0 : Nat, n0 < 4 → 0 ≤ (iv_a (114 + 3 * (0 + (n0 : Int)))).1 ∧ (iv_a (114 + 3 * (0 + (n0 : Int)))).2 ≤ 24 := by decide +kernel
  rw [e, show x0 = 0 + ((x0 - 0).toNat : Int) by omega]
  exact k _ (by omega)
theorem iv_fb9711825 {i : Int} (e : i = 9) : 0 ≤ (iv_a i).1 ∧ (iv_a i).2 ≤ 30 := by
  subst e
  decide +kernel
theorem iv_fd7417342 {i : Int} (x0 : Int) (e : i = 278 + 42 * x0) (h0 : 0 ≤ x0 ∧ x0 ≤ 29) : (iv_a i).1 ≤ (-2147483648) ∧ 2147483647 ≤ (iv_a i).2 := by
  have k : ∀ n0 : Nat, n0 < 30 → (iv_a (278 + 42 * (0 + (n0 : Int)))).1 ≤ (-2147483648) ∧ 2147483647 ≤ (iv_a (278 + 42 * (0 + (n0 : Int)))).2 := by decide +kernel
  rw [e, show x0 = 0 + ((x0 - 0).toNat : Int) by omega]
  exact k _ (by omega)
theorem iv_fec763053 {i : Int} (x0 : Int) (e : i = 279 + 42 * x0) (h0 : 0 ≤ x0 ∧ x0 ≤ 29) : (iv_a i).1 ≤ (-2147483648) ∧ 2147483647 ≤ (iv_a i).2 := by
  have k : ∀ n0 : Nat, n0 < 30 → (iv_a (279 + 42 * (0 + (n0 : Int)))).1 ≤ (-2147483648) ∧ 2147483647 ≤ (iv_a (279 + 42 * (0 + (n0 : Int)))).2 := by decide +kernel
  rw [e, show x0 = 0 + ((x0 - 0).toNat : Int) by omega]
  exact k _ (by omega)
theorem iv_fb7c9e2e3 {i : Int} (x0 : Int) (e : i = 280 + 42 * x0) (h0 : 0 ≤ x0 ∧ x0 ≤ 29) : (iv_a i).1 ≤ (-2147483648) ∧ 2147483647 ≤ (iv_a i).2 := by
  have k : ∀ n0 : Nat, n0 < 30 → (iv_a (280 + 42 * (0 + (n0 : Int)))).1 ≤ (-2147483648) ∧ 2147483647 ≤ (iv_a (280 + 42 * (0 + (n0 : Int)))).2 := by decide +kernel
  rw [e, show x0 = 0 + ((x0 - 0).toNat : Int) by omega]
  exact k _ (by omega)
theorem iv_f584601b1 {i : Int} (e : i = 3) : (-2147483648) ≤ (iv_a i).1 ∧ (iv_a i).2 ≤ 2147483647 := iv_a_F i
theorem iv_f2823758f {i : Int} (x0 : Int) (e : i = 281 + 42 * x0) (h0 : 0 ≤ x0 ∧ x0 ≤ 29) : (iv_a i).1 ≤ (-2147483648) ∧ 2147483647 ≤ (iv_a i).2 := by
  have k : ∀ n0 : Nat, n0 < 30 → (iv_a (281 + 42 * (0 + (n0 : Int)))).1 ≤ (-2147483648) ∧ 2147483647 ≤ (iv_a (281 + 42 * (0 + (n0 : Int)))).2 := by decide +kernel
  rw [e, show x0 = 0 + ((x0 - 0).toNat : Int) by omega]
  exact k _ (by omega)
theorem iv_f060f4a97 {i : Int} (e : i = 6) : 0 ≤ (iv_a i).1 ∧ (iv_a i).2 ≤ 30202 := by
  subst e
  decide +kernel
theorem iv_f7ea5c773 {i : Int} (x0 : Int) (e : i = 282 + 42 * x0) (h0 : 0 ≤ x0 ∧ x0 ≤ 29) : (iv_a i).1 ≤ 0 ∧ 30202 ≤ (iv_a i).2 := by
  have k : ∀ n0 : Nat, n0 < 30 → (iv_a (282 + 42 * (0 + (n0 : Int)))).1 ≤ 0 ∧ 30202 ≤ (iv_a (282 + 42 * (0 + (n0 : Int)))).2 := by decide +kernel
  rw [e, show x0 = 0 + ((x0 - 0).toNat : Int) by omega]
  exact k _ (by omega)
theorem iv_f894cccb4 {i : Int} (e : i = 9) : (iv_a i).1 ≤ 0 ∧ 30 ≤ (iv_a i).2 := by
  subst e
  decide +kernel
theorem iv_f859c0f3b {i : Int} (x0 : Int) (e : i = 16 + 3 * x0) (h0 : 0 ≤ x0 ∧ x0 ≤ 11) : (-2147483648) ≤ (iv_a i).1 ∧ (iv_a i).2 ≤ 2147483647 := iv_a_F i
theorem iv_f6039f252 {i : Int} (x0 : Int) (x1 : Int) (e : i = 307 + 42 * x0 + 1 * x1) (h0 : 0 ≤ x0 ∧ x0 ≤ 29) (h1 : 0 ≤ x1 ∧ x1 ≤ 11) : (iv_a i).1 ≤ (-2147483648) ∧ 2147483647 ≤ (iv_a i).2 := by
  have k : ∀ n0 : Nat, n0 < 30 → ∀ n1 : Nat, n1 < 12 → (iv_a (307 + 42 * (0 + (n0 : Int)) + 1 * (0 + (n1 : Int)))).1 ≤ (-2147483648) ∧ 2147483647 ≤ (iv_a (307 + 42 * (0 + (n0 : Int)) + 1 * (0 + (n1 : Int)))).2 := by decide +kernel
  rw [e, show x0 = 0 + ((x0 - 0).toNat : Int) by omega, show x1 = 0 + ((x1 - 0).toNat : Int) by omega]
  exact k _ (by omega) _ (by omega)
theorem iv_fba44946a {i : Int} (x0 : Int) (e : i = 129 + 6 * x0) (h0 : 0 ≤ x0 ∧ x0 ≤ 5) : 0 ≤ (iv_a i).1 ∧ (iv_a i).2 ≤ 11 := by
  have k : ∀ n0 : Nat, n0 < 6 → 0 ≤ (iv_a (129 + 6 * (0 + (n0 : Int)))).1 ∧ (iv_a (129 + 6 * (0 + (n0 : Int)))).2 ≤ 11 := by decide +kernel
  rw [e, show x0 = 0 + ((x0 - 0).toNat : Int) by omega]
  exact k _ (by omega)
theorem iv_fd552392a {i : Int} (x0 : Int) (x1 : Int) (e : i = 295 + 42 * x0 + 2 * x1) (h0 : 0 ≤ x0 ∧ x0 ≤ 29) (h1 : 0 ≤ x1 ∧ x1 ≤ 5) : (iv_a i).1 ≤ 0 ∧ 11 ≤ (iv_a i).2 := by
  have k : ∀ n0 : Nat, n0 < 30 → ∀ n1 : Nat, n1 < 6 → (iv_a (295 + 42 * (0 + (n0 : Int)) + 2 * (0 + (n1 : Int)))).1 ≤ 0 ∧ 11 ≤ (iv_a (295 + 42 * (0 + (n0 : Int)) + 2 * (0 + (n1 : Int)))).2 := by decide +kernel
  rw [e, show x0 = 0 + ((x0 - 0).toNat : Int) by omega, show x1 = 0 + ((x1 - 0).toNat : Int) by omega]
  exact k _ (by omega) _ (by omega)
theorem iv_f97411019 {i : Int} (x0 : Int) (e : i = 130 + 6 * x0) (h0 : 0 ≤ x0 ∧ x0 ≤ 5) : (-1) ≤ (iv_a i).1 ∧ (iv_a i).2 ≤ 11 := by
  have k : ∀ n0 : Nat, n0 < 6 → (-1) ≤ (iv_a (130 + 6 * (0 + (n0 : Int)))).1 ∧ (iv_a (130 + 6 * (0 + (n0 : Int)))).2 ≤ 11 := by decide +kernel
  rw [e, show x0 = 0 + ((x0 - 0).toNat : Int) by omega]
  exact k _ (by omega)
theorem iv_f10709e31 {i : Int} (x0 : Int) (x1 : Int) (e : i = 296 + 42 * x0 + 2 * x1) (h0 : 0 ≤ x0 ∧ x0 ≤ 29) (h1 : 0 ≤ x1 ∧ x1 ≤ 5) : (iv_a i).1 ≤ (-1) ∧ 11 ≤ (iv_a i).2 := by
  have k : ∀ n0 : Nat, n0 < 30 → ∀ n1 : Nat, n1 < 6 → (iv_a (296 + 42 * (0 + (n0 : Int)) + 2 * (0 + (n1 : Int)))).1 ≤ (-1) ∧ 11 ≤ (iv_a (296 + 42 * (0 + (n0 : Int)) + 2 * (0 + (n1 : Int)))).2 := by decide +kernel
  rw [e, show x0 = 0 + ((x0 - 0).toNat : Int) by omega, show x1 = 0 + ((x1 - 0).toNat : Int) by omega]
  exact k _ (by omega) _ (by omega)
theorem iv_f1b92e825 {i : Int} (x0 : Int) (e : i = 114 + 1 * x0) (h0 : 0 ≤ x0 ∧ x0 ≤ 11) : (-1) ≤ (iv_a i).1 ∧ (iv_a i).2 ≤ 24 := by
  have k : ∀ n0 : Nat, n0 < 12 → (-1) ≤ (iv_a (114 + 1 * (0 + (n0 : Int)))).1 ∧ (iv_a (114 + 1 * (0 + (n0 : Int)))).2 ≤ 24 := by decide +kernel
  rw [e, show x0 = 0 + ((x0 - 0).toNat : Int) by omega]
  exact k _ (by omega)
theorem iv_f08d80799 {i : Int} (x0 : Int) (x1 : Int) (e : i = 283 + 42 * x0 + 1 * x1) (h0 : 0 ≤ x0 ∧ x0 ≤ 29) (h1 : 0 ≤ x1 ∧ x1 ≤ 11) : (iv_a i).1 ≤ 0 ∧ 11 ≤ (iv_a i).2 := by
  have k : ∀ n0 : Nat, n0 < 30 → ∀ n1 : Nat, n1 < 12 → (iv_a (283 + 42 * (0 + (n0 : Int)) + 1 * (0 + (n1 : Int)))).1 ≤ 0 ∧ 11 ≤ (iv_a (283 + 42 * (0 + (n0 : Int)) + 1 * (0 + (n1 : Int)))).2 := by decide +kernel
  rw [e, show x0 = 0 + ((x0 - 0).toNat : Int) by omega, show x1 = 0 + ((x1 - 0).toNat : Int) by omega]
  exact k _ (by omega) _ (by omega)
theorem iv_gf62e0eba {i k : Int} (x0 : Int) (x1 : Int) (e : i = 283 + 42 * x0 + 1 * x1) (e2 : k = 114 + 1 * x1) (h0 : 0 ≤ x0 ∧ x0 ≤ 29) (h1 : 0 ≤ x1 ∧ x1 ≤ 11) : (iv_a i).1 ≤ (iv_a k).1 ∧ (iv_a k).2 ≤ (iv_a i).2 := by
  have k : ∀ n0 : Nat, n0 < 30 → ∀ n1 : Nat, n1 < 12 → (iv_a (283 + 42 * (0 + (n0 : Int)) + 1 * (0 + (n1 : Int)))).1 ≤ (iv_a (114 + 1 * (0 + (n1 : Int)))).1 ∧ (iv_a (114 + 1 * (0 + (n1 : Int)))).2 ≤ (iv_a (283 + 42 * (0 + (n0 : Int)) + 1 * (0 + (n1 : Int)))).2 := by decide +kernel
  rw [e, e2, show x0 = 0 + ((x0 - 0).toNat : Int) by omega, show x1 = 0 + ((x1 - 0).toNat : Int) by omega]
  exact k _ (by omega) _ (by omega)
theorem iv_f8c292d4f {i : Int} (x0 : Int) (e : i = 280 + 42 * x0) (h0 : 0 ≤ x0 ∧ x0 ≤ 29) : (-2147483648) ≤ (iv_a i).1 ∧ (iv_a i).2 ≤ 2147483647 := iv_a_F i
theorem iv_f4a8067a1 {i : Int} (x0 : Int) (e : i = 53 + 4 * x0) (h0 : 0 ≤ x0 ∧ x0 ≤ 15) : (-2147483648) ≤ (iv_a i).1 ∧ (iv_a i).2 ≤ 2147483647 := iv_a_F i
theorem iv_f9a6d102a {i : Int} (x0 : Int) (e : i = 320 + 1 * x0) (h0 : 0 ≤ x0 ∧ x0 ≤ 1217) : (-2147483648) ≤ (iv_a i).1 ∧ (iv_a i).2 ≤ 2147483647 := iv_a_F i
theorem iv_f92487f9d {i : Int} (x0 : Int) (e : i = 278 + 1 * x0) (h0 : 0 ≤ x0 ∧ x0 ≤ 1217) : (iv_a i).1 ≤ 0 ∧ 11 ≤ (iv_a i).2 := by
  unfold iv_a
  repeat' refine iv_itW (fun h => ?_) (fun h => ?_)
  all_goals first | exact ⟨by decide, by decide⟩ | (exfalso; omega)
theorem iv_gcd3465bc {i k : Int} (x0 : Int) (e : i = 278 + 1 * x0) (e2 : k = 320 + 1 * x0) (h0 : 0 ≤ x0 ∧ x0 ≤ 1217) : (iv_a i).1 ≤ (iv_a k).1 ∧ (iv_a k).2 ≤ (iv_a i).2 := by
  generalize hq : iv_a k = q
  unfold iv_a
  repeat' refine iv_itW (fun h => ?_) (fun h => ?_)
  all_goals first | (exfalso; omega) | (rw [← hq]; exact iv_a_F k) | skip
  all_goals rw [← hq]
  all_goals unfold iv_a
  all_goals repeat' refine iv_itR (fun h => ?_) (fun h => ?_)
  all_goals first | exact ⟨by decide, by decide⟩ | (exfalso; omega)
theorem iv_fad4315e5 {i : Int} (x0 : Int) (e : i = 114 + 3 * x0) (h0 : 0 ≤ x0 ∧ x0 ≤ 3) : (iv_a i).1 ≤ 0 ∧ 24 ≤ (iv_a i).2 := by
  have k : ∀ n0 : Nat, n0 < 4 → (iv_a (114 + 3 * (0 + (n0 : Int)))).1 ≤ 0 ∧ 24 ≤ (iv_a (114 + 3 * (0 + (n0 : Int)))).2 := by decide +kernel
  rw [e, show x0 = 0 + ((x0 - 0).toNat : Int) by omega]
  exact k _ (by omega)
theorem iv_fc3e20e9e {i : Int} (x0 : Int) (e : i = 115 + 3 * x0) (h0 : 0 ≤ x0 ∧ x0 ≤ 3) : (iv_a i).1 ≤ 0 ∧ 11 ≤ (iv_a i).2 := by
  have k : ∀ n0 : Nat, n0 < 4 → (iv_a (115 + 3 * (0 + (n0 : Int)))).1 ≤ 0 ∧ 11 ≤ (iv_a (115 + 3 * (0 + (n0 : Int)))).2 := by decide +kernel
  rw [e, show x0 = 0 + ((x0 - 0).toNat : Int) by omega]
  exact k _ (by omega)
theorem iv_fcb0a6ed3 {i : Int} (x0 : Int) (e : i = 116 + 3 * x0) (h0 : 0 ≤ x0 ∧ x0 ≤ 3) : (iv_a i).1 ≤ (-1) ∧ 11 ≤ (iv_a i).2 := by
  have k : ∀ n0 : Nat, n0 < 4 → (iv_a (116 + 3 * (0 + (n0 : Int)))).1 ≤ (-1) ∧ 11 ≤ (iv_a (116 + 3 * (0 + (n0 : Int)))).2 := by decide +kernel
  rw [e, show x0 = 0 + ((x0 - 0).toNat : Int) by omega]
  exact k _ (by omega)
theorem iv_f4d82ee43 {i : Int} (x0 : Int) (e : i = 115 + 3 * x0) (h0 : 0 ≤ x0 ∧ x0 ≤ 3) : 0 ≤ (iv_a i).1 ∧ (iv_a i).2 ≤ 11 := by
  have k : ∀ n0 : Nat, n0 < 4 → 0 ≤ (iv_a (115 + 3 * (0 + (n0 : Int)))).1 ∧ (iv_a (115 + 3 * (0 + (n0 : Int)))).2 ≤ 11 := by decide +kernel
  rw [e, show x0 = 0 + ((x0 - 0).toNat : Int) by omega]
  exact k _ (by omega)
theorem iv_fab31a278 {i : Int} (x0 : Int) (e : i = 114 + 3 * x0) (h0 : 1 ≤ x0 ∧ x0 ≤ 3) : (iv_a i).1 ≤ 0 ∧ 24 ≤ (iv_a i).2 := by
  have k : ∀ n0 : Nat, n0 < 3 → (iv_a (114 + 3 * (1 + (n0 : Int)))).1 ≤ 0 ∧ 24 ≤ (iv_a (114 + 3 * (1 + (n0 : Int)))).2 := by decide +kernel
  rw [e, show x0 = 1 + ((x0 - 1).toNat : Int) by omega]
  exact k _ (by omega)
theorem iv_f0d376a7e {i : Int} (e : i = 3) : (iv_a i).1 ≤ (-2147483648) ∧ 2147483647 ≤ (iv_a i).2 := by
  subst e
  decide +kernel
theorem iv_fc43a0ff9 {i : Int} (x0 : Int) (e : i = 15 + 3 * x0) (h0 : 0 ≤ x0 ∧ x0 ≤ 11) : 0 ≤ (iv_a i).1 ∧ (iv_a i).2 ≤ 99 := by
  have k : ∀ n0 : Nat, n0 < 12 → 0 ≤ (iv_a (15 + 3 * (0 + (n0 : Int)))).1 ∧ (iv_a (15 + 3 * (0 + (n0 : Int)))).2 ≤ 99 := by decide +kernel
  rw [e, show x0 = 0 + ((x0 - 0).toNat : Int) by omega]
  exact k _ (by omega)
theorem iv_f6fd1d1ad {i : Int} (x0 : Int) (e : i = 14 + 3 * x0) (h0 : 0 ≤ x0 ∧ x0 ≤ 11) : 0 ≤ (iv_a i).1 ∧ (iv_a i).2 ≤ 3 := by
  have k : ∀ n0 : Nat, n0 < 12 → 0 ≤ (iv_a (14 + 3 * (0 + (n0 : Int)))).1 ∧ (iv_a (14 + 3 * (0 + (n0 : Int)))).2 ≤ 3 := by decide +kernel
  rw [e, show x0 = 0 + ((x0 - 0).toNat : Int) by omega]
  exact k _ (by omega)
theorem iv_fb3fd00de {i : Int} (x0 : Int) (e : i = 116 + 3 * x0) (h0 : 0 ≤ x0 ∧ x0 ≤ 3) : (-1) ≤ (iv_a i).1 ∧ (iv_a i).2 ≤ 11 := by
  have k : ∀ n0 : Nat, n0 < 4 → (-1) ≤ (iv_a (116 + 3 * (0 + (n0 : Int)))).1 ∧ (iv_a (116 + 3 * (0 + (n0 : Int)))).2 ≤ 11 := by decide +kernel
  rw [e, show x0 = 0 + ((x0 - 0).toNat : Int) by omega]
  exact k _ (by omega)
theorem iv_fc0e1ed14 {i : Int} (e : i = 8) : (-1) ≤ (iv_a i).1 ∧ (iv_a i).2 ≤ 3 := by
  subst e
  decide +kernel
theorem iv_f876c6d9a {i : Int} (x0 : Int) (e : i = 0 + 705 * x0) (h0 : 0 ≤ x0 ∧ x0 ≤ 3) : 0 ≤ (iv_x i).1 ∧ (iv_x i).2 ≤ 24 := by
  have k : ∀ n0 : Nat, n0 < 4 → 0 ≤ (iv_x (0 + 705 * (0 + (n0 : Int)))).1 ∧ (iv_x (0 + 705 * (0 + (n0 : Int)))).2 ≤ 24 := by decide +kernel
  rw [e, show x0 = 0 + ((x0 - 0).toNat : Int) by omega]
  exact k _ (by omega)
theorem iv_f85b13eef {i : Int} (x0 : Int) (x1 : Int) (e : i = 1 + 705 * x0 + 4 * x1) (h0 : 0 ≤ x0 ∧ x0 ≤ 3) (h1 : 0 ≤ x1 ∧ x1 ≤ 23) : (-2147483648) ≤ (iv_x i).1 ∧ (iv_x i).2 ≤ 2147483647 := iv_x_F i
theorem iv_fd340a209 {i : Int} (x0 : Int) (x1 : Int) (e : i = 2 + 705 * x0 + 4 * x1) (h0 : 0 ≤ x0 ∧ x0 ≤ 3) (h1 : 0 ≤ x1 ∧ x1 ≤ 23) : (-2147483648) ≤ (iv_x i).1 ∧ (iv_x i).2 ≤ 2147483647 := iv_x_F i
theorem iv_f43cb10b9 {i : Int} (x0 : Int) (e : i = 2 + 1 * x0) (h0 : 1 ≤ x0 ∧ x0 ≤ 2208) : (-2147483648) ≤ (iv_x i).1 ∧ (iv_x i).2 ≤ 2147483647 := iv_x_F i
theorem iv_f52360414 {i : Int} (x0 : Int) (e : i = 52 + 4 * x0) (h0 : 0 ≤ x0 ∧ x0 ≤ 15) : (-2147483648) ≤ (iv_a i).1 ∧ (iv_a i).2 ≤ 2147483647 := iv_a_F i
theorem iv_f70bc7c7c {i : Int} (x0 : Int) (x1 : Int) (e : i = 126 + 6 * x0 + 1 * x1) (h0 : 0 ≤ x0 ∧ x0 ≤ 5) (h1 : 0 ≤ x1 ∧ x1 ≤ 4) : (-2147483648) ≤ (iv_a i).1 ∧ (iv_a i).2 ≤ 2147483647 := iv_a_F i
theorem iv_fee3e924e {i : Int} (e : i = 6) : (iv_a i).1 ≤ 0 ∧ 30202 ≤ (iv_a i).2 := by
  subst e
  decide +kernel
theorem iv_f1cfbf807 {i : Int} (x0 : Int) (e : i = 127 + 6 * x0) (h0 : 0 ≤ x0 ∧ x0 ≤ 5) : 0 ≤ (iv_a i).1 ∧ (iv_a i).2 ≤ 1 := by
  have k : ∀ n0 : Nat, n0 < 6 → 0 ≤ (iv_a (127 + 6 * (0 + (n0 : Int)))).1 ∧ (iv_a (127 + 6 * (0 + (n0 : Int)))).2 ≤ 1 := by decide +kernel
  rw [e, show x0 = 0 + ((x0 - 0).toNat : Int) by omega]
  exact k _ (by omega)
theorem iv_f2c6f65e5 {i : Int} (x0 : Int) (e : i = 0 + 1 * x0) (h0 : 53 ≤ x0 ∧ x0 ≤ 113) : (iv_a i).1 ≤ 0 ∧ 11 ≤ (iv_a i).2 := by
  have k : ∀ n0 : Nat, n0 < 61 → (iv_a (0 + 1 * (53 + (n0 : Int)))).1 ≤ 0 ∧ 11 ≤ (iv_a (0 + 1 * (53 + (n0 : Int)))).2 := by decide +kernel
  rw [e, show x0 = 53 + ((x0 - 53).toNat : Int) by omega]
  exact k _ (by omega)
theorem iv_faba81cda {i : Int} (x0 : Int) (e : i = 1 + 1 * x0) (h0 : 1 ≤ x0 ∧ x0 ≤ 2208) : (-2147483648) ≤ (iv_x i).1 ∧ (iv_x i).2 ≤ 2147483647 := iv_x_F i
theorem iv_fc2fd7f29 {i : Int} (x0 : Int) (e : i = 0 + 1 * x0) (h0 : 1 ≤ x0 ∧ x0 ≤ 2208) : (-2147483648) ≤ (iv_x i).1 ∧ (iv_x i).2 ≤ 2147483647 := iv_x_F i
theorem iv_f17fb70ea {i : Int} (x0 : Int) (e : i = 53 + 4 * x0) (h0 : 0 ≤ x0 ∧ x0 ≤ 15) : (iv_a i).1 ≤ (-2147483648) ∧ 2147483647 ≤ (iv_a i).2 := by
  have k : ∀ n0 : Nat, n0 < 16 → (iv_a (53 + 4 * (0 + (n0 : Int)))).1 ≤ (-2147483648) ∧ 2147483647 ≤ (iv_a (53 + 4 * (0 + (n0 : Int)))).2 := by decide +kernel
  rw [e, show x0 = 0 + ((x0 - 0).toNat : Int) by omega]
  exact k _ (by omega)
theorem iv_f8d7c7fab {i : Int} (x0 : Int) (x1 : Int) (e : i = 24 + 39 * x0 + 2 * x1) (h0 : 0 ≤ x0 ∧ x0 ≤ 29) (h1 : 6 ≤ x1 ∧ x1 ≤ 6) : (-2147483648) ≤ (iv_s i).1 ∧ (iv_s i).2 ≤ 2147483647 := iv_s_F i
theorem iv_f93ee24df {i : Int} (x0 : Int) (x1 : Int) (e : i = 25 + 39 * x0 + 2 * x1) (h0 : 0 ≤ x0 ∧ x0 ≤ 29) (h1 : 6 ≤ x1 ∧ x1 ≤ 6) : (-2147483648) ≤ (iv_s i).1 ∧ (iv_s i).2 ≤ 2147483647 := iv_s_F i
theorem iv_f55c3c414 {i : Int} (x0 : Int) (x1 : Int) (e : i = 26 + 39 * x0 + 2 * x1) (h0 : 0 ≤ x0 ∧ x0 ≤ 29) (h1 : 6 ≤ x1 ∧ x1 ≤ 6) : (-2147483648) ≤ (iv_s i).1 ∧ (iv_s i).2 ≤ 2147483647 := iv_s_F i
theorem iv_f63cbf944 {i : Int} (x0 : Int) (x1 : Int) (e : i = 12 + 39 * x0 + 2 * x1) (h0 : 0 ≤ x0 ∧ x0 ≤ 29) (h1 : 0 ≤ x1 ∧ x1 ≤ 5) : (-2147483648) ≤ (iv_s i).1 ∧ (iv_s i).2 ≤ 2147483647 := iv_s_F i
theorem iv_f3510361b {i : Int} (x0 : Int) (x1 : Int) (e : i = 13 + 39 * x0 + 2 * x1) (h0 : 0 ≤ x0 ∧ x0 ≤ 29) (h1 : 0 ≤ x1 ∧ x1 ≤ 5) : (-2147483648) ≤ (iv_s i).1 ∧ (iv_s i).2 ≤ 2147483647 := iv_s_F i
theorem iv_f99428fba {i : Int} (x0 : Int) (x1 : Int) (e : i = 0 + 39 * x0 + 3 * x1) (h0 : 0 ≤ x0 ∧ x0 ≤ 29) (h1 : 0 ≤ x1 ∧ x1 ≤ 3) : (-2147483648) ≤ (iv_s i).1 ∧ (iv_s i).2 ≤ 2147483647 := iv_s_F i
theorem iv_fbb991f4f {i : Int} (x0 : Int) (x1 : Int) (e : i = 1 + 39 * x0 + 3 * x1) (h0 : 0 ≤ x0 ∧ x0 ≤ 29) (h1 : 0 ≤ x1 ∧ x1 ≤ 3) : (-1) ≤ (iv_s i).1 ∧ (iv_s i).2 ≤ 11 := by
  have k : ∀ n0 : Nat, n0 < 30 → ∀ n1 : Nat, n1 < 4 → (-1) ≤ (iv_s (1 + 39 * (0 + (n0 : Int)) + 3 * (0 + (n1 : Int)))).1 ∧ (iv_s (1 + 39 * (0 + (n0 : Int)) + 3 * (0 + (n1 : Int)))).2 ≤ 11 := by decide +kernel
  rw [e, show x0 = 0 + ((x0 - 0).toNat : Int) by omega, show x1 = 0 + ((x1 - 0).toNat : Int) by omega]
  exact k _ (by omega) _ (by omega)
theorem iv_f79b6dad1 {i : Int} (x0 : Int) (x1 : Int) (e : i = 2 + 39 * x0 + 3 * x1) (h0 : 0 ≤ x0 ∧ x0 ≤ 29) (h1 : 0 ≤ x1 ∧ x1 ≤ 3) : (-1) ≤ (iv_s i).1 ∧ (iv_s i).2 ≤ 11 := by
  have k : ∀ n0 : Nat, n0 < 30 → ∀ n1 : Nat, n1 < 4 → (-1) ≤ (iv_s (2 + 39 * (0 + (n0 : Int)) + 3 * (0 + (n1 : Int)))).1 ∧ (iv_s (2 + 39 * (0 + (n0 : Int)) + 3 * (0 + (n1 : Int)))).2 ≤ 11 := by decide +kernel
  rw [e, show x0 = 0 + ((x0 - 0).toNat : Int) by omega, show x1 = 0 + ((x1 - 0).toNat : Int) by omega]
  exact k _ (by omega) _ (by omega)
theorem iv_feaa642d7 {i : Int} (x0 : Int) (e : i = 281 + 42 * x0) (h0 : 0 ≤ x0 ∧ x0 ≤ 29) : (-2147483648) ≤ (iv_a i).1 ∧ (iv_a i).2 ≤ 2147483647 := iv_a_F i
theorem iv_f9b216bdd {i : Int} (x0 : Int) (e : i = 282 + 42 * x0) (h0 : 0 ≤ x0 ∧ x0 ≤ 29) : 0 ≤ (iv_a i).1 ∧ (iv_a i).2 ≤ 30202 := by
  have k : ∀ n0 : Nat, n0 < 30 → 0 ≤ (iv_a (282 + 42 * (0 + (n0 : Int)))).1 ∧ (iv_a (282 + 42 * (0 + (n0 : Int)))).2 ≤ 30202 := by decide +kernel
  rw [e, show x0 = 0 + ((x0 - 0).toNat : Int) by omega]
  exact k _ (by omega)
theorem iv_f6128ea84 {i : Int} (x0 : Int) (x1 : Int) (e : i = 307 + 42 * x0 + 1 * x1) (h0 : 0 ≤ x0 ∧ x0 ≤ 29) (h1 : 0 ≤ x1 ∧ x1 ≤ 11) : (-2147483648) ≤ (iv_a i).1 ∧ (iv_a i).2 ≤ 2147483647 := iv_a_F i
theorem iv_ff0062939 {i : Int} (x0 : Int) (e : i = 278 + 42 * x0) (h0 : 0 ≤ x0 ∧ x0 ≤ 29) : (-2147483648) ≤ (iv_a i).1 ∧ (iv_a i).2 ≤ 2147483647 := iv_a_F i
theorem iv_f3ea210f9 {i : Int} (x0 : Int) (e : i = 131 + 6 * x0) (h0 : 0 ≤ x0 ∧ x0 ≤ 5) : 0 ≤ (iv_a i).1 ∧ (iv_a i).2 ≤ 11 := by
  have k : ∀ n0 : Nat, n0 < 6 → 0 ≤ (iv_a (131 + 6 * (0 + (n0 : Int)))).1 ∧ (iv_a (131 + 6 * (0 + (n0 : Int)))).2 ≤ 11 := by decide +kernel
  rw [e, show x0 = 0 + ((x0 - 0).toNat : Int) by omega]
  exact k _ (by omega)
theorem iv_f7285c76e {i : Int} (x0 : Int) (x1 : Int) (e : i = 296 + 42 * x0 + 2 * x1) (h0 : 0 ≤ x0 ∧ x0 ≤ 29) (h1 : 0 ≤ x1 ∧ x1 ≤ 5) : (-1) ≤ (iv_a i).1 ∧ (iv_a i).2 ≤ 11 := by
  have k : ∀ n0 : Nat, n0 < 30 → ∀ n1 : Nat, n1 < 6 → (-1) ≤ (iv_a (296 + 42 * (0 + (n0 : Int)) + 2 * (0 + (n1 : Int)))).1 ∧ (iv_a (296 + 42 * (0 + (n0 : Int)) + 2 * (0 + (n1 : Int)))).2 ≤ 11 := by decide +kernel
  rw [e, show x0 = 0 + ((x0 - 0).toNat : Int) by omega, show x1 = 0 + ((x1 - 0).toNat : Int) by omega]
  exact k _ (by omega) _ (by omega)
theorem iv_f1b3b3272 {i : Int} (x0 : Int) (x1 : Int) (e : i = 295 + 42 * x0 + 2 * x1) (h0 : 0 ≤ x0 ∧ x0 ≤ 29) (h1 : 0 ≤ x1 ∧ x1 ≤ 5) : 0 ≤ (iv_a i).1 ∧ (iv_a i).2 ≤ 11 := by
  have k : ∀ n0 : Nat, n0 < 30 → ∀ n1 : Nat, n1 < 6 → 0 ≤ (iv_a (295 + 42 * (0 + (n0 : Int)) + 2 * (0 + (n1 : Int)))).1 ∧ (iv_a (295 + 42 * (0 + (n0 : Int)) + 2 * (0 + (n1 : Int)))).2 ≤ 11 := by decide +kernel
  rw [e, show x0 = 0 + ((x0 - 0).toNat : Int) by omega, show x1 = 0 + ((x1 - 0).toNat : Int) by omega]
  exact k _ (by omega) _ (by omega)
theorem iv_fbdce8767 {i : Int} (x0 : Int) (x1 : Int) (e : i = 283 + 42 * x0 + 1 * x1) (h0 : 0 ≤ x0 ∧ x0 ≤ 29) (h1 : 0 ≤ x1 ∧ x1 ≤ 11) : (-1) ≤ (iv_a i).1 ∧ (iv_a i).2 ≤ 24 := by
  have k : ∀ n0 : Nat, n0 < 30 → ∀ n1 : Nat, n1 < 12 → (-1) ≤ (iv_a (283 + 42 * (0 + (n0 : Int)) + 1 * (0 + (n1 : Int)))).1 ∧ (iv_a (283 + 42 * (0 + (n0 : Int)) + 1 * (0 + (n1 : Int)))).2 ≤ 24 := by decide +kernel
  rw [e, show x0 = 0 + ((x0 - 0).toNat : Int) by omega, show x1 = 0 + ((x1 - 0).toNat : Int) by omega]
  exact k _ (by omega) _ (by omega)
theorem iv_f65c88a42 {i : Int} (x0 : Int) (e : i = 114 + 1 * x0) (h0 : 0 ≤ x0 ∧ x0 ≤ 11) : (iv_a i).1 ≤ 0 ∧ 11 ≤ (iv_a i).2 := by
  have k : ∀ n0 : Nat, n0 < 12 → (iv_a (114 + 1 * (0 + (n0 : Int)))).1 ≤ 0 ∧ 11 ≤ (iv_a (114 + 1 * (0 + (n0 : Int)))).2 := by decide +kernel
  rw [e, show x0 = 0 + ((x0 - 0).toNat : Int) by omega]
  exact k _ (by omega)
theorem iv_g9097edd6 {i k : Int} (x0 : Int) (x1 : Int) (e : i = 114 + 1 * x1) (e2 : k = 283 + 42 * x0 + 1 * x1) (h0 : 0 ≤ x0 ∧ x0 ≤ 29) (h1 : 0 ≤ x1 ∧ x1 ≤ 11) : (iv_a i).1 ≤ (iv_a k).1 ∧ (iv_a k).2 ≤ (iv_a i).2 := by
  have k : ∀ n0 : Nat, n0 < 30 → ∀ n1 : Nat, n1 < 12 → (iv_a (114 + 1 * (0 + (n1 : Int)))).1 ≤ (iv_a (283 + 42 * (0 + (n0 : Int)) + 1 * (0 + (n1 : Int)))).1 ∧ (iv_a (283 + 42 * (0 + (n0 : Int)) + 1 * (0 + (n1 : Int)))).2 ≤ (iv_a (114 + 1 * (0 + (n1 : Int)))).2 := by decide +kernel
  rw [e, e2, show x0 = 0 + ((x0 - 0).toNat : Int) by omega, show x1 = 0 + ((x1 - 0).toNat : Int) by omega]
  exact k _ (by omega) _ (by omega)
theorem iv_f08924d57 {i : Int} (x0 : Int) (e : i = 279 + 42 * x0) (h0 : 0 ≤ x0 ∧ x0 ≤ 29) : (-2147483648) ≤ (iv_a i).1 ∧ (iv_a i).2 ≤ 2147483647 := iv_a_F i
theorem iv_f828b7b09 {i : Int} (x0 : Int) (x1 : Int) (e : i = 14 + 3 * x0 + 1 * x1) (h0 : 0 ≤ x0 ∧ x0 ≤ 11) (h1 : 0 ≤ x1 ∧ x1 ≤ 2) : (-2147483648) ≤ (iv_a i).1 ∧ (iv_a i).2 ≤ 2147483647 := iv_a_F i
theorem iv_fc66fc3f7 {i : Int} (x0 : Int) (x1 : Int) (e : i = 50 + 4 * x0 + 1 * x1) (h0 : 0 ≤ x0 ∧ x0 ≤ 15) (h1 : 0 ≤ x1 ∧ x1 ≤ 3) : (-2147483648) ≤ (iv_a i).1 ∧ (iv_a i).2 ≤ 2147483647 := iv_a_F i
theorem iv_f2f8ad25f {i : Int} (e : i = 10) : 0 ≤ (iv_a i).1 ∧ (iv_a i).2 ≤ 6 := by
  subst e
  decide +kernel
theorem iv_fe7a41342 {i : Int} (x0 : Int) (e : i = 162 + 2 * x0) (h0 : 0 ≤ x0 ∧ x0 ≤ 5) : (iv_a i).1 ≤ 0 ∧ 11 ≤ (iv_a i).2 := by
  have k : ∀ n0 : Nat, n0 < 6 → (iv_a (162 + 2 * (0 + (n0 : Int)))).1 ≤ 0 ∧ 11 ≤ (iv_a (162 + 2 * (0 + (n0 : Int)))).2 := by decide +kernel
  rw [e, show x0 = 0 + ((x0 - 0).toNat : Int) by omega]
  exact k _ (by omega)
theorem iv_fcdead904 {i : Int} (x0 : Int) (e : i = 163 + 2 * x0) (h0 : 0 ≤ x0 ∧ x0 ≤ 5) : (iv_a i).1 ≤ (-2147483648) ∧ 2147483647 ≤ (iv_a i).2 := by
  have k : ∀ n0 : Nat, n0 < 6 → (iv_a (163 + 2 * (0 + (n0 : Int)))).1 ≤ (-2147483648) ∧ 2147483647 ≤ (iv_a (163 + 2 * (0 + (n0 : Int)))).2 := by decide +kernel
  rw [e, show x0 = 0 + ((x0 - 0).toNat : Int) by omega]
  exact k _ (by omega)
theorem iv_f38c39aa3 {i : Int} (e : i = 10) : (iv_a i).1 ≤ 0 ∧ 6 ≤ (iv_a i).2 := by
  subst e
  decide +kernel
theorem iv_f0460dfb4 {i : Int} (x0 : Int) (e : i = 162 + 2 * x0) (h0 : 0 ≤ x0 ∧ x0 ≤ 5) : 0 ≤ (iv_a i).1 ∧ (iv_a i).2 ≤ 11 := by
  have k : ∀ n0 : Nat, n0 < 6 → 0 ≤ (iv_a (162 + 2 * (0 + (n0 : Int)))).1 ∧ (iv_a (162 + 2 * (0 + (n0 : Int)))).2 ≤ 11 := by decide +kernel
  rw [e, show x0 = 0 + ((x0 - 0).toNat : Int) by omega]
  exact k _ (by omega)
theorem iv_f6604b2e4 {i : Int} (x0 : Int) (e : i = 163 + 2 * x0) (h0 : 0 ≤ x0 ∧ x0 ≤ 5) : (-2147483648) ≤ (iv_a i).1 ∧ (iv_a i).2 ≤ 2147483647 := iv_a_F i
theorem iv_fff015721 {i : Int} (x0 : Int) (e : i = 174 + 5 * x0) (h0 : 0 ≤ x0 ∧ x0 ≤ 15) : (iv_a i).1 ≤ (-2147483648) ∧ 2147483647 ≤ (iv_a i).2 := by
  have k : ∀ n0 : Nat, n0 < 16 → (iv_a (174 + 5 * (0 + (n0 : Int)))).1 ≤ (-2147483648) ∧ 2147483647 ≤ (iv_a (174 + 5 * (0 + (n0 : Int)))).2 := by decide +kernel
  rw [e, show x0 = 0 + ((x0 - 0).toNat : Int) by omega]
  exact k _ (by omega)
theorem iv_f02d2919a {i : Int} (x0 : Int) (e : i = 175 + 5 * x0) (h0 : 0 ≤ x0 ∧ x0 ≤ 15) : (iv_a i).1 ≤ (-2147483648) ∧ 2147483647 ≤ (iv_a i).2 := by
  have k : ∀ n0 : Nat, n0 < 16 → (iv_a (175 + 5 * (0 + (n0 : Int)))).1 ≤ (-2147483648) ∧ 2147483647 ≤ (iv_a (175 + 5 * (0 + (n0 : Int)))).2 := by decide +kernel
  rw [e, show x0 = 0 + ((x0 - 0).toNat : Int) by omega]
  exact k _ (by omega)
theorem iv_f63ffe759 {i : Int} (x0 : Int) (e : i = 176 + 5 * x0) (h0 : 0 ≤ x0 ∧ x0 ≤ 15) : (iv_a i).1 ≤ (-2147483648) ∧ 2147483647 ≤ (iv_a i).2 := by
  have k : ∀ n0 : Nat, n0 < 16 → (iv_a (176 + 5 * (0 + (n0 : Int)))).1 ≤ (-2147483648) ∧ 2147483647 ≤ (iv_a (176 + 5 * (0 + (n0 : Int)))).2 := by decide +kernel
  rw [e, show x0 = 0 + ((x0 - 0).toNat : Int) by omega]
  exact k _ (by omega)
theorem iv_fa9f80a67 {i : Int} (x0 : Int) (e : i = 177 + 5 * x0) (h0 : 0 ≤ x0 ∧ x0 ≤ 15) : (iv_a i).1 ≤ (-2147483648) ∧ 2147483647 ≤ (iv_a i).2 := by
  have k : ∀ n0 : Nat, n0 < 16 → (iv_a (177 + 5 * (0 + (n0 : Int)))).1 ≤ (-2147483648) ∧ 2147483647 ≤ (iv_a (177 + 5 * (0 + (n0 : Int)))).2 := by decide +kernel
  rw [e, show x0 = 0 + ((x0 - 0).toNat : Int) by omega]
  exact k _ (by omega)
theorem iv_fa7b3c3a4 {i : Int} (x0 : Int) (e : i = 178 + 5 * x0) (h0 : 0 ≤ x0 ∧ x0 ≤ 15) : (iv_a i).1 ≤ (-2147483648) ∧ 2147483647 ≤ (iv_a i).2 := by
  have k : ∀ n0 : Nat, n0 < 16 → (iv_a (178 + 5 * (0 + (n0 : Int)))).1 ≤ (-2147483648) ∧ 2147483647 ≤ (iv_a (178 + 5 * (0 + (n0 : Int)))).2 := by decide +kernel
  rw [e, show x0 = 0 + ((x0 - 0).toNat : Int) by omega]
  exact k _ (by omega)
theorem iv_f98967d40 {i : Int} (x0 : Int) (e : i = 174 + 5 * x0) (h0 : 0 ≤ x0 ∧ x0 ≤ 15) : (-2147483648) ≤ (iv_a i).1 ∧ (iv_a i).2 ≤ 2147483647 := iv_a_F i
theorem iv_fb0f36b57 {i : Int} (x0 : Int) (e : i = 177 + 5 * x0) (h0 : 0 ≤ x0 ∧ x0 ≤ 15) : (-2147483648) ≤ (iv_a i).1 ∧ (iv_a i).2 ≤ 2147483647 := iv_a_F i
theorem iv_faac196ed {i : Int} (x0 : Int) (e : i = 175 + 5 * x0) (h0 : 0 ≤ x0 ∧ x0 ≤ 15) : (-2147483648) ≤ (iv_a i).1 ∧ (iv_a i).2 ≤ 2147483647 := iv_a_F i
theorem iv_fc19a0727 {i : Int} (x0 : Int) (e : i = 178 + 5 * x0) (h0 : 0 ≤ x0 ∧ x0 ≤ 15) : (-2147483648) ≤ (iv_a i).1 ∧ (iv_a i).2 ≤ 2147483647 := iv_a_F i
theorem iv_ff3a1f278 {i : Int} (x0 : Int) (e : i = 176 + 5 * x0) (h0 : 0 ≤ x0 ∧ x0 ≤ 15) : (-2147483648) ≤ (iv_a i).1 ∧ (iv_a i).2 ≤ 2147483647 := iv_a_F i
theorem iv_f6cd46d53 {i : Int} (e : i = 11) : 0 ≤ (iv_a i).1 ∧ (iv_a i).2 ≤ 12 := by
  subst e
  decide +kernel
theorem iv_fd5258eed {i : Int} (x0 : Int) (e : i = 254 + 2 * x0) (h0 : 0 ≤ x0 ∧ x0 ≤ 11) : (iv_a i).1 ≤ (-2147483648) ∧ 2147483647 ≤ (iv_a i).2 := by
  have k : ∀ n0 : Nat, n0 < 12 → (iv_a (254 + 2 * (0 + (n0 : Int)))).1 ≤ (-2147483648) ∧ 2147483647 ≤ (iv_a (254 + 2 * (0 + (n0 : Int)))).2 := by decide +kernel
  rw [e, show x0 = 0 + ((x0 - 0).toNat : Int) by omega]
  exact k _ (by omega)
theorem iv_f84ea52dc {i : Int} (x0 : Int) (e : i = 0 + 1 * x0) (h0 : 255 ≤ x0 ∧ x0 ≤ 277) : (iv_a i).1 ≤ (-2147483648) ∧ 2147483647 ≤ (iv_a i).2 := by
  have k : ∀ n0 : Nat, n0 < 23 → (iv_a (0 + 1 * (255 + (n0 : Int)))).1 ≤ (-2147483648) ∧ 2147483647 ≤ (iv_a (0 + 1 * (255 + (n0 : Int)))).2 := by decide +kernel
  rw [e, show x0 = 255 + ((x0 - 255).toNat : Int) by omega]
  exact k _ (by omega)
theorem iv_f9442898f {i : Int} (e : i = 11) : (iv_a i).1 ≤ 0 ∧ 12 ≤ (iv_a i).2 := by
  subst e
  decide +kernel
theorem iv_fbae2c435 {i : Int} (x0 : Int) (e : i = 254 + 2 * x0) (h0 : 0 ≤ x0 ∧ x0 ≤ 11) : (-2147483648) ≤ (iv_a i).1 ∧ (iv_a i).2 ≤ 2147483647 := iv_a_F i
theorem iv_fd2f6a803 {i : Int} (x0 : Int) (e : i = 255 + 2 * x0) (h0 : 0 ≤ x0 ∧ x0 ≤ 11) : (-2147483648) ≤ (iv_a i).1 ∧ (iv_a i).2 ≤ 2147483647 := iv_a_F i
theorem iv_f82d6b47b {i : Int} (x0 : Int) (e : i = 0 + 1 * x0) (h0 : 0 ≤ x0 ∧ x0 ≤ 1537) : (-2147483648) ≤ (iv_a i).1 ∧ (iv_a i).2 ≤ 2147483647 := iv_a_F i
theorem iv_ffb2a5bae {i : Int} (x0 : Int) (e : i = 0 + 1 * x0) (h0 : 0 ≤ x0 ∧ x0 ≤ 1537) : (iv_a i).1 ≤ 0 ∧ 1 ≤ (iv_a i).2 := by
  unfold iv_a
  repeat' refine iv_itW (fun h => ?_) (fun h => ?_)
  all_goals first | exact ⟨by decide, by decide⟩ | (exfalso; omega)
theorem iv_g13b376cb {i k : Int} (x0 : Int) (e : i = 0 + 1 * x0) (e2 : k = 0 + 1 * x0) (h0 : 0 ≤ x0 ∧ x0 ≤ 1537) : (iv_a i).1 ≤ (iv_a k).1 ∧ (iv_a k).2 ≤ (iv_a i).2 := by
  generalize hq : iv_a k = q
  unfold iv_a
  repeat' refine iv_itW (fun h => ?_) (fun h => ?_)
  all_goals first | (exfalso; omega) | (rw [← hq]; exact iv_a_F k) | skip
  all_goals rw [← hq]
  all_goals unfold iv_a
  all_goals repeat' refine iv_itR (fun h => ?_) (fun h => ?_)
  all_goals first | exact ⟨by decide, by decide⟩ | (exfalso; omega)
theorem iv_fcc04e35c {i : Int} (x0 : Int) (e : i = 0 + 1 * x0) (h0 : 0 ≤ x0 ∧ x0 ≤ 11) : (-2147483648) ≤ (iv_a i).1 ∧ (iv_a i).2 ≤ 2147483647 := iv_a_F i
