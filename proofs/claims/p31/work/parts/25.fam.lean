theorem iv_f0 {i : Int} (e : i = 0) : 0 ≤ (iv_a i).1 ∧ (iv_a i).2 ≤ 12 := by
  unfold iv_a
  repeat' refine iv_itR (fun h => ?_) (fun h => ?_)
  all_goals first | exact ⟨by decide, by decide⟩ | (exfalso; omega)
theorem iv_f1 {i : Int} (x0 : Int) (e : i = 14 + 3 * x0) (h0 : 0 ≤ x0 ∧ x0 ≤ 11) : (iv_a i).1 ≤ (-2147483648) ∧ 2147483647 ≤ (iv_a i).2 := by
  unfold iv_a
  repeat' refine iv_itW (fun h => ?_) (fun h => ?_)
  all_goals first | exact ⟨by decide, by decide⟩ | (exfalso; omega)
theorem iv_f2 {i : Int} (x0 : Int) (e : i = 15 + 3 * x0) (h0 : 0 ≤ x0 ∧ x0 ≤ 11) : (iv_a i).1 ≤ (-2147483648) ∧ 2147483647 ≤ (iv_a i).2 := by
  unfold iv_a
  repeat' refine iv_itW (fun h => ?_) (fun h => ?_)
  all_goals first | exact ⟨by decide, by decide⟩ | (exfalso; omega)
theorem iv_f3 {i : Int} (x0 : Int) (e : i = 16 + 3 * x0) (h0 : 0 ≤ x0 ∧ x0 ≤ 11) : (iv_a i).1 ≤ (-2147483648) ∧ 2147483647 ≤ (iv_a i).2 := by
  unfold iv_a
  repeat' refine iv_itW (fun h => ?_) (fun h => ?_)
  all_goals first | exact ⟨by decide, by decide⟩ | (exfalso; omega)
theorem iv_f4 {i : Int} (e : i = 0) : (iv_a i).1 ≤ 0 ∧ 12 ≤ (iv_a i).2 := by
  unfold iv_a
  repeat' refine iv_itW (fun h => ?_) (fun h => ?_)
  all_goals first | exact ⟨by decide, by decide⟩ | (exfalso; omega)
theorem iv_f5 {i : Int} (e : i = 1) : 0 ≤ (iv_a i).1 ∧ (iv_a i).2 ≤ 16 := by
  unfold iv_a
  repeat' refine iv_itR (fun h => ?_) (fun h => ?_)
  all_goals first | exact ⟨by decide, by decide⟩ | (exfalso; omega)
theorem iv_f6 {i : Int} (x0 : Int) (e : i = 50 + 4 * x0) (h0 : 0 ≤ x0 ∧ x0 ≤ 15) : 0 ≤ (iv_a i).1 ∧ (iv_a i).2 ≤ 11 := by
  unfold iv_a
  repeat' refine iv_itR (fun h => ?_) (fun h => ?_)
  all_goals first | exact ⟨by decide, by decide⟩ | (exfalso; omega)
theorem iv_f7 {i : Int} (x0 : Int) (e : i = 51 + 4 * x0) (h0 : 0 ≤ x0 ∧ x0 ≤ 15) : 0 ≤ (iv_a i).1 ∧ (iv_a i).2 ≤ 11 := by
  unfold iv_a
  repeat' refine iv_itR (fun h => ?_) (fun h => ?_)
  all_goals first | exact ⟨by decide, by decide⟩ | (exfalso; omega)
theorem iv_f8 {i : Int} (x0 : Int) (e : i = 50 + 4 * x0) (h0 : 0 ≤ x0 ∧ x0 ≤ 15) : (iv_a i).1 ≤ 0 ∧ 11 ≤ (iv_a i).2 := by
  unfold iv_a
  repeat' refine iv_itW (fun h => ?_) (fun h => ?_)
  all_goals first | exact ⟨by decide, by decide⟩ | (exfalso; omega)
theorem iv_f9 {i : Int} (x0 : Int) (e : i = 51 + 4 * x0) (h0 : 0 ≤ x0 ∧ x0 ≤ 15) : (iv_a i).1 ≤ 0 ∧ 11 ≤ (iv_a i).2 := by
  unfold iv_a
  repeat' refine iv_itW (fun h => ?_) (fun h => ?_)
  all_goals first | exact ⟨by decide, by decide⟩ | (exfalso; omega)
theorem iv_f10 {i : Int} (x0 : Int) (e : i = 0 + 1 * x0) (h0 : 52 ≤ x0 ∧ x0 ≤ 112) : (iv_a i).1 ≤ 0 ∧ 11 ≤ (iv_a i).2 := by
  unfold iv_a
  repeat' refine iv_itW (fun h => ?_) (fun h => ?_)
  all_goals first | exact ⟨by decide, by decide⟩ | (exfalso; omega)
theorem iv_f11 {i : Int} (x0 : Int) (e : i = 3 + 1 * x0) (h0 : 50 ≤ x0 ∧ x0 ≤ 110) : (iv_a i).1 ≤ 0 ∧ 11 ≤ (iv_a i).2 := by
  unfold iv_a
  repeat' refine iv_itW (fun h => ?_) (fun h => ?_)
  all_goals first | exact ⟨by decide, by decide⟩ | (exfalso; omega)
theorem iv_f12 {i : Int} (x0 : Int) (e : i = 174 + 5 * x0) (h0 : 0 ≤ x0 ∧ x0 ≤ 16) : (iv_a i).1 ≤ (-2147483648) ∧ 2147483647 ≤ (iv_a i).2 := by
  unfold iv_a
  repeat' refine iv_itW (fun h => ?_) (fun h => ?_)
  all_goals first | exact ⟨by decide, by decide⟩ | (exfalso; omega)
theorem iv_f13 {i : Int} (e : i = 1) : (iv_a i).1 ≤ 0 ∧ 16 ≤ (iv_a i).2 := by
  unfold iv_a
  repeat' refine iv_itW (fun h => ?_) (fun h => ?_)
  all_goals first | exact ⟨by decide, by decide⟩ | (exfalso; omega)
theorem iv_f14 {i : Int} (e : i = 2) : 0 ≤ (iv_a i).1 ∧ (iv_a i).2 ≤ 6 := by
  unfold iv_a
  repeat' refine iv_itR (fun h => ?_) (fun h => ?_)
  all_goals first | exact ⟨by decide, by decide⟩ | (exfalso; omega)
theorem iv_f15 {i : Int} (x0 : Int) (e : i = 126 + 6 * x0) (h0 : 0 ≤ x0 ∧ x0 ≤ 5) : (iv_a i).1 ≤ (-2147483648) ∧ 2147483647 ≤ (iv_a i).2 := by
  unfold iv_a
  repeat' refine iv_itW (fun h => ?_) (fun h => ?_)
  all_goals first | exact ⟨by decide, by decide⟩ | (exfalso; omega)
theorem iv_f16 {i : Int} (x0 : Int) (e : i = 127 + 6 * x0) (h0 : 0 ≤ x0 ∧ x0 ≤ 5) : (iv_a i).1 ≤ 0 ∧ 1 ≤ (iv_a i).2 := by
  unfold iv_a
  repeat' refine iv_itW (fun h => ?_) (fun h => ?_)
  all_goals first | exact ⟨by decide, by decide⟩ | (exfalso; omega)
theorem iv_f17 {i : Int} (x0 : Int) (e : i = 128 + 6 * x0) (h0 : 0 ≤ x0 ∧ x0 ≤ 5) : (iv_a i).1 ≤ (-2147483648) ∧ 2147483647 ≤ (iv_a i).2 := by
  unfold iv_a
  repeat' refine iv_itW (fun h => ?_) (fun h => ?_)
  all_goals first | exact ⟨by decide, by decide⟩ | (exfalso; omega)
theorem iv_f18 {i : Int} (x0 : Int) (e : i = 129 + 6 * x0) (h0 : 0 ≤ x0 ∧ x0 ≤ 5) : (iv_a i).1 ≤ 0 ∧ 11 ≤ (iv_a i).2 := by
  unfold iv_a
  repeat' refine iv_itW (fun h => ?_) (fun h => ?_)
  all_goals first | exact ⟨by decide, by decide⟩ | (exfalso; omega)
theorem iv_f19 {i : Int} (x0 : Int) (e : i = 130 + 6 * x0) (h0 : 0 ≤ x0 ∧ x0 ≤ 5) : (iv_a i).1 ≤ (-1) ∧ 11 ≤ (iv_a i).2 := by
  unfold iv_a
  repeat' refine iv_itW (fun h => ?_) (fun h => ?_)
  all_goals first | exact ⟨by decide, by decide⟩ | (exfalso; omega)
theorem iv_f20 {i : Int} (x0 : Int) (e : i = 131 + 6 * x0) (h0 : 0 ≤ x0 ∧ x0 ≤ 5) : (iv_a i).1 ≤ 0 ∧ 11 ≤ (iv_a i).2 := by
  unfold iv_a
  repeat' refine iv_itW (fun h => ?_) (fun h => ?_)
  all_goals first | exact ⟨by decide, by decide⟩ | (exfalso; omega)
theorem iv_f21 {i : Int} (e : i = 2) : (iv_a i).1 ≤ 0 ∧ 6 ≤ (iv_a i).2 := by
  unfold iv_a
  repeat' refine iv_itW (fun h => ?_) (fun h => ?_)
  all_goals first | exact ⟨by decide, by decide⟩ | (exfalso; omega)
theorem iv_f22 {i : Int} (e : i = 7) : 0 ≤ (iv_a i).1 ∧ (iv_a i).2 ≤ 4 := by
  unfold iv_a
  repeat' refine iv_itR (fun h => ?_) (fun h => ?_)
  all_goals first | exact ⟨by decide, by decide⟩ | (exfalso; omega)
theorem iv_f23 {i : Int} (x0 : Int) (e : i = 0 + 705 * x0) (h0 : 0 ≤ x0 ∧ x0 ≤ 4) : (iv_x i).1 ≤ 0 ∧ 24 ≤ (iv_x i).2 := by
  unfold iv_x
  repeat' refine iv_itW (fun h => ?_) (fun h => ?_)
  all_goals first | exact ⟨by decide, by decide⟩ | (exfalso; omega)
theorem iv_f24 {i : Int} (x0 : Int) (e : i = 0 + 1 * x0) (h0 : 0 ≤ x0 ∧ x0 ≤ 2115) : (-2147483648) ≤ (iv_x i).1 ∧ (iv_x i).2 ≤ 2147483647 := iv_x_F i
theorem iv_f25 {i : Int} (x0 : Int) (e : i = 0 + 1 * x0) (h0 : 0 ≤ x0 ∧ x0 ≤ 2819) : (iv_x i).1 ≤ 0 ∧ 24 ≤ (iv_x i).2 := by
  unfold iv_x
  repeat' refine iv_itW (fun h => ?_) (fun h => ?_)
  all_goals first | exact ⟨by decide, by decide⟩ | (exfalso; omega)
theorem iv_f26 {i : Int} (x0 : Int) (e : i = 1 + 1 * x0) (h0 : 0 ≤ x0 ∧ x0 ≤ 2819) : (iv_x i).1 ≤ 0 ∧ 24 ≤ (iv_x i).2 := by
  unfold iv_x
  repeat' refine iv_itW (fun h => ?_) (fun h => ?_)
  all_goals first | exact ⟨by decide, by decide⟩ | (exfalso; omega)
theorem iv_f27 {i : Int} (x0 : Int) (e : i = 2 + 1 * x0) (h0 : 0 ≤ x0 ∧ x0 ≤ 2819) : (iv_x i).1 ≤ 0 ∧ 24 ≤ (iv_x i).2 := by
  unfold iv_x
  repeat' refine iv_itW (fun h => ?_) (fun h => ?_)
  all_goals first | exact ⟨by decide, by decide⟩ | (exfalso; omega)
theorem iv_f28 {i : Int} (x0 : Int) (e : i = 0 + 1 * x0) (h0 : 1 ≤ x0 ∧ x0 ≤ 2819) : (iv_x i).1 ≤ 0 ∧ 24 ≤ (iv_x i).2 := by
  unfold iv_x
  repeat' refine iv_itW (fun h => ?_) (fun h => ?_)
  all_goals first | exact ⟨by decide, by decide⟩ | (exfalso; omega)
theorem iv_f29 {i : Int} (x0 : Int) (e : i = 0 + 1 * x0) (h0 : 0 ≤ x0 ∧ x0 ≤ 2115) : (iv_x i).1 ≤ 0 ∧ 24 ≤ (iv_x i).2 := by
  unfold iv_x
  repeat' refine iv_itW (fun h => ?_) (fun h => ?_)
  all_goals first | exact ⟨by decide, by decide⟩ | (exfalso; omega)
theorem iv_f30 {i : Int} (e : i = 7) : (iv_a i).1 ≤ 0 ∧ 4 ≤ (iv_a i).2 := by
  unfold iv_a
  repeat' refine iv_itW (fun h => ?_) (fun h => ?_)
  all_goals first | exact ⟨by decide, by decide⟩ | (exfalso; omega)
theorem iv_f31 {i : Int} (e : i = 8) : (iv_a i).1 ≤ (-1) ∧ 3 ≤ (iv_a i).2 := by
  unfold iv_a
  repeat' refine iv_itW (fun h => ?_) (fun h => ?_)
  all_goals first | exact ⟨by decide, by decide⟩ | (exfalso; omega)
theorem iv_f32 {i : Int} (x0 : Int) (e : i = 12 + 1 * x0) (h0 : 0 ≤ x0 ∧ x0 ≤ 1172) : (iv_s i).1 ≤ (-1) ∧ 11 ≤ (iv_s i).2 := by
  unfold iv_s
  repeat' refine iv_itW (fun h => ?_) (fun h => ?_)
  all_goals first | exact ⟨by decide, by decide⟩ | (exfalso; omega)
theorem iv_f33 {i : Int} (x0 : Int) (e : i = 13 + 1 * x0) (h0 : 0 ≤ x0 ∧ x0 ≤ 1172) : (iv_s i).1 ≤ (-1) ∧ 11 ≤ (iv_s i).2 := by
  unfold iv_s
  repeat' refine iv_itW (fun h => ?_) (fun h => ?_)
  all_goals first | exact ⟨by decide, by decide⟩ | (exfalso; omega)
theorem iv_f34 {i : Int} (x0 : Int) (e : i = 14 + 1 * x0) (h0 : 0 ≤ x0 ∧ x0 ≤ 1172) : (iv_s i).1 ≤ (-1) ∧ 11 ≤ (iv_s i).2 := by
  unfold iv_s
  repeat' refine iv_itW (fun h => ?_) (fun h => ?_)
  all_goals first | exact ⟨by decide, by decide⟩ | (exfalso; omega)
theorem iv_f35 {i : Int} (x0 : Int) (e : i = 0 + 1 * x0) (h0 : 0 ≤ x0 ∧ x0 ≤ 1169) : (iv_s i).1 ≤ (-1) ∧ 11 ≤ (iv_s i).2 := by
  unfold iv_s
  repeat' refine iv_itW (fun h => ?_) (fun h => ?_)
  all_goals first | exact ⟨by decide, by decide⟩ | (exfalso; omega)
theorem iv_f36 {i : Int} (x0 : Int) (e : i = 1 + 1 * x0) (h0 : 0 ≤ x0 ∧ x0 ≤ 1169) : (iv_s i).1 ≤ (-1) ∧ 11 ≤ (iv_s i).2 := by
  unfold iv_s
  repeat' refine iv_itW (fun h => ?_) (fun h => ?_)
  all_goals first | exact ⟨by decide, by decide⟩ | (exfalso; omega)
theorem iv_f37 {i : Int} (x0 : Int) (e : i = 2 + 1 * x0) (h0 : 0 ≤ x0 ∧ x0 ≤ 1169) : (iv_s i).1 ≤ (-1) ∧ 11 ≤ (iv_s i).2 := by
  unfold iv_s
  repeat' refine iv_itW (fun h => ?_) (fun h => ?_)
  all_goals first | exact ⟨by decide, by decide⟩ | (exfalso; omega)
theorem iv_f38 {i : Int} (x0 : Int) (e : i = 114 + 3 * x0) (h0 : 0 ≤ x0 ∧ x0 ≤ 3) : (-2147483648) ≤ (iv_a i).1 ∧ (iv_a i).2 ≤ 2147483647 := iv_a_F i
theorem iv_f39 {i : Int} (e : i = 9) : 0 ≤ (iv_a i).1 ∧ (iv_a i).2 ≤ 30 := by
  unfold iv_a
  repeat' refine iv_itR (fun h => ?_) (fun h => ?_)
  all_goals first | exact ⟨by decide, by decide⟩ | (exfalso; omega)
theorem iv_f40 {i : Int} (x0 : Int) (e : i = 278 + 42 * x0) (h0 : 0 ≤ x0 ∧ x0 ≤ 30) : (iv_a i).1 ≤ (-2147483648) ∧ 2147483647 ≤ (iv_a i).2 := by
  unfold iv_a
  repeat' refine iv_itW (fun h => ?_) (fun h => ?_)
  all_goals first | exact ⟨by decide, by decide⟩ | (exfalso; omega)
theorem iv_f41 {i : Int} (x0 : Int) (e : i = 279 + 42 * x0) (h0 : 0 ≤ x0 ∧ x0 ≤ 30) : (iv_a i).1 ≤ (-2147483648) ∧ 2147483647 ≤ (iv_a i).2 := by
  unfold iv_a
  repeat' refine iv_itW (fun h => ?_) (fun h => ?_)
  all_goals first | exact ⟨by decide, by decide⟩ | (exfalso; omega)
theorem iv_f42 {i : Int} (x0 : Int) (e : i = 280 + 42 * x0) (h0 : 0 ≤ x0 ∧ x0 ≤ 30) : (iv_a i).1 ≤ (-2147483648) ∧ 2147483647 ≤ (iv_a i).2 := by
  unfold iv_a
  repeat' refine iv_itW (fun h => ?_) (fun h => ?_)
  all_goals first | exact ⟨by decide, by decide⟩ | (exfalso; omega)
theorem iv_f43 {i : Int} (e : i = 3) : (-2147483648) ≤ (iv_a i).1 ∧ (iv_a i).2 ≤ 2147483647 := iv_a_F i
theorem iv_f44 {i : Int} (x0 : Int) (e : i = 3 + 1 * x0) (h0 : 278 ≤ x0 ∧ x0 ≤ 1537) : (iv_a i).1 ≤ 0 ∧ 11 ≤ (iv_a i).2 := by
  unfold iv_a
  repeat' refine iv_itW (fun h => ?_) (fun h => ?_)
  all_goals first | exact ⟨by decide, by decide⟩ | (exfalso; omega)
theorem iv_f45 {i : Int} (e : i = 6) : 0 ≤ (iv_a i).1 ∧ (iv_a i).2 ≤ 30202 := by
  unfold iv_a
  repeat' refine iv_itR (fun h => ?_) (fun h => ?_)
  all_goals first | exact ⟨by decide, by decide⟩ | (exfalso; omega)
theorem iv_f46 {i : Int} (x0 : Int) (e : i = 4 + 1 * x0) (h0 : 278 ≤ x0 ∧ x0 ≤ 1537) : (iv_a i).1 ≤ 0 ∧ 11 ≤ (iv_a i).2 := by
  unfold iv_a
  repeat' refine iv_itW (fun h => ?_) (fun h => ?_)
  all_goals first | exact ⟨by decide, by decide⟩ | (exfalso; omega)
theorem iv_f47 {i : Int} (e : i = 9) : (iv_a i).1 ≤ 0 ∧ 30 ≤ (iv_a i).2 := by
  unfold iv_a
  repeat' refine iv_itW (fun h => ?_) (fun h => ?_)
  all_goals first | exact ⟨by decide, by decide⟩ | (exfalso; omega)
theorem iv_f48 {i : Int} (x0 : Int) (e : i = 16 + 3 * x0) (h0 : 0 ≤ x0 ∧ x0 ≤ 11) : (-2147483648) ≤ (iv_a i).1 ∧ (iv_a i).2 ≤ 2147483647 := iv_a_F i
theorem iv_f49 {i : Int} (x0 : Int) (x1 : Int) (e : i = 29 + 1 * x0 + 1 * x1) (h0 : 278 ≤ x0 ∧ x0 ≤ 1537) (h1 : 0 ≤ x1 ∧ x1 ≤ 11) : (iv_a i).1 ≤ 0 ∧ 11 ≤ (iv_a i).2 := by
  unfold iv_a
  repeat' refine iv_itW (fun h => ?_) (fun h => ?_)
  all_goals first | exact ⟨by decide, by decide⟩ | (exfalso; omega)
theorem iv_f50 {i : Int} (x0 : Int) (e : i = 129 + 6 * x0) (h0 : 0 ≤ x0 ∧ x0 ≤ 5) : 0 ≤ (iv_a i).1 ∧ (iv_a i).2 ≤ 11 := by
  unfold iv_a
  repeat' refine iv_itR (fun h => ?_) (fun h => ?_)
  all_goals first | exact ⟨by decide, by decide⟩ | (exfalso; omega)
theorem iv_f51 {i : Int} (x0 : Int) (x1 : Int) (e : i = 17 + 1 * x0 + 2 * x1) (h0 : 278 ≤ x0 ∧ x0 ≤ 1537) (h1 : 0 ≤ x1 ∧ x1 ≤ 5) : (iv_a i).1 ≤ 0 ∧ 11 ≤ (iv_a i).2 := by
  unfold iv_a
  repeat' refine iv_itW (fun h => ?_) (fun h => ?_)
  all_goals first | exact ⟨by decide, by decide⟩ | (exfalso; omega)
theorem iv_f52 {i : Int} (x0 : Int) (e : i = 130 + 6 * x0) (h0 : 0 ≤ x0 ∧ x0 ≤ 5) : (-1) ≤ (iv_a i).1 ∧ (iv_a i).2 ≤ 11 := by
  unfold iv_a
  repeat' refine iv_itR (fun h => ?_) (fun h => ?_)
  all_goals first | exact ⟨by decide, by decide⟩ | (exfalso; omega)
theorem iv_f53 {i : Int} (x0 : Int) (x1 : Int) (e : i = 18 + 1 * x0 + 2 * x1) (h0 : 278 ≤ x0 ∧ x0 ≤ 1537) (h1 : 0 ≤ x1 ∧ x1 ≤ 5) : (iv_a i).1 ≤ 0 ∧ 11 ≤ (iv_a i).2 := by
  unfold iv_a
  repeat' refine iv_itW (fun h => ?_) (fun h => ?_)
  all_goals first | exact ⟨by decide, by decide⟩ | (exfalso; omega)
theorem iv_f54 {i : Int} (x0 : Int) (e : i = 114 + 1 * x0) (h0 : 0 ≤ x0 ∧ x0 ≤ 11) : (-2147483648) ≤ (iv_a i).1 ∧ (iv_a i).2 ≤ 2147483647 := iv_a_F i
theorem iv_f55 {i : Int} (x0 : Int) (x1 : Int) (e : i = 5 + 1 * x0 + 1 * x1) (h0 : 278 ≤ x0 ∧ x0 ≤ 1537) (h1 : 0 ≤ x1 ∧ x1 ≤ 11) : (iv_a i).1 ≤ 0 ∧ 11 ≤ (iv_a i).2 := by
  unfold iv_a
  repeat' refine iv_itW (fun h => ?_) (fun h => ?_)
  all_goals first | exact ⟨by decide, by decide⟩ | (exfalso; omega)
theorem iv_f56 {i : Int} (x0 : Int) (e : i = 2 + 1 * x0) (h0 : 278 ≤ x0 ∧ x0 ≤ 1537) : (-2147483648) ≤ (iv_a i).1 ∧ (iv_a i).2 ≤ 2147483647 := iv_a_F i
theorem iv_f57 {i : Int} (x0 : Int) (e : i = 53 + 4 * x0) (h0 : 0 ≤ x0 ∧ x0 ≤ 15) : (-2147483648) ≤ (iv_a i).1 ∧ (iv_a i).2 ≤ 2147483647 := iv_a_F i
theorem iv_f58 {i : Int} (x0 : Int) (e : i = 0 + 1 * x0) (h0 : 280 ≤ x0 ∧ x0 ≤ 1537) : (iv_a i).1 ≤ 0 ∧ 11 ≤ (iv_a i).2 := by
  unfold iv_a
  repeat' refine iv_itW (fun h => ?_) (fun h => ?_)
  all_goals first | exact ⟨by decide, by decide⟩ | (exfalso; omega)
theorem iv_f59 {i : Int} (x0 : Int) (e : i = 320 + 1 * x0) (h0 : 0 ≤ x0 ∧ x0 ≤ 1217) : (-2147483648) ≤ (iv_a i).1 ∧ (iv_a i).2 ≤ 2147483647 := iv_a_F i
theorem iv_f60 {i : Int} (x0 : Int) (e : i = 278 + 1 * x0) (h0 : 0 ≤ x0 ∧ x0 ≤ 1217) : (iv_a i).1 ≤ 0 ∧ 11 ≤ (iv_a i).2 := by
  unfold iv_a
  repeat' refine iv_itW (fun h => ?_) (fun h => ?_)
  all_goals first | exact ⟨by decide, by decide⟩ | (exfalso; omega)
theorem iv_f61 {i : Int} (x0 : Int) (e : i = 114 + 3 * x0) (h0 : 0 ≤ x0 ∧ x0 ≤ 3) : (iv_a i).1 ≤ (-2147483648) ∧ 2147483647 ≤ (iv_a i).2 := by
  unfold iv_a
  repeat' refine iv_itW (fun h => ?_) (fun h => ?_)
  all_goals first | exact ⟨by decide, by decide⟩ | (exfalso; omega)
theorem iv_f62 {i : Int} (x0 : Int) (e : i = 115 + 3 * x0) (h0 : 0 ≤ x0 ∧ x0 ≤ 3) : (iv_a i).1 ≤ 0 ∧ 11 ≤ (iv_a i).2 := by
  unfold iv_a
  repeat' refine iv_itW (fun h => ?_) (fun h => ?_)
  all_goals first | exact ⟨by decide, by decide⟩ | (exfalso; omega)
theorem iv_f63 {i : Int} (x0 : Int) (e : i = 116 + 3 * x0) (h0 : 0 ≤ x0 ∧ x0 ≤ 3) : (iv_a i).1 ≤ (-1) ∧ 11 ≤ (iv_a i).2 := by
  unfold iv_a
  repeat' refine iv_itW (fun h => ?_) (fun h => ?_)
  all_goals first | exact ⟨by decide, by decide⟩ | (exfalso; omega)
theorem iv_f64 {i : Int} (x0 : Int) (e : i = 115 + 3 * x0) (h0 : 0 ≤ x0 ∧ x0 ≤ 3) : 0 ≤ (iv_a i).1 ∧ (iv_a i).2 ≤ 11 := by
  unfold iv_a
  repeat' refine iv_itR (fun h => ?_) (fun h => ?_)
  all_goals first | exact ⟨by decide, by decide⟩ | (exfalso; omega)
theorem iv_f65 {i : Int} (x0 : Int) (e : i = 114 + 3 * x0) (h0 : 1 ≤ x0 ∧ x0 ≤ 3) : (iv_a i).1 ≤ (-2147483648) ∧ 2147483647 ≤ (iv_a i).2 := by
  unfold iv_a
  repeat' refine iv_itW (fun h => ?_) (fun h => ?_)
  all_goals first | exact ⟨by decide, by decide⟩ | (exfalso; omega)
theorem iv_f66 {i : Int} (e : i = 3) : (iv_a i).1 ≤ (-2147483648) ∧ 2147483647 ≤ (iv_a i).2 := by
  unfold iv_a
  repeat' refine iv_itW (fun h => ?_) (fun h => ?_)
  all_goals first | exact ⟨by decide, by decide⟩ | (exfalso; omega)
theorem iv_f67 {i : Int} (x0 : Int) (e : i = 15 + 3 * x0) (h0 : 0 ≤ x0 ∧ x0 ≤ 11) : (-2147483648) ≤ (iv_a i).1 ∧ (iv_a i).2 ≤ 2147483647 := iv_a_F i
theorem iv_f68 {i : Int} (x0 : Int) (e : i = 14 + 3 * x0) (h0 : 0 ≤ x0 ∧ x0 ≤ 11) : (-2147483648) ≤ (iv_a i).1 ∧ (iv_a i).2 ≤ 2147483647 := iv_a_F i
theorem iv_f69 {i : Int} (x0 : Int) (e : i = 116 + 3 * x0) (h0 : 0 ≤ x0 ∧ x0 ≤ 3) : (-1) ≤ (iv_a i).1 ∧ (iv_a i).2 ≤ 11 := by
  unfold iv_a
  repeat' refine iv_itR (fun h => ?_) (fun h => ?_)
  all_goals first | exact ⟨by decide, by decide⟩ | (exfalso; omega)
theorem iv_f70 {i : Int} (e : i = 8) : (-1) ≤ (iv_a i).1 ∧ (iv_a i).2 ≤ 3 := by
  unfold iv_a
  repeat' refine iv_itR (fun h => ?_) (fun h => ?_)
  all_goals first | exact ⟨by decide, by decide⟩ | (exfalso; omega)
theorem iv_f71 {i : Int} (x0 : Int) (e : i = 0 + 705 * x0) (h0 : 0 ≤ x0 ∧ x0 ≤ 3) : 0 ≤ (iv_x i).1 ∧ (iv_x i).2 ≤ 24 := by
  unfold iv_x
  repeat' refine iv_itR (fun h => ?_) (fun h => ?_)
  all_goals first | exact ⟨by decide, by decide⟩ | (exfalso; omega)
theorem iv_f72 {i : Int} (x0 : Int) (x1 : Int) (e : i = 1 + 705 * x0 + 4 * x1) (h0 : 0 ≤ x0 ∧ x0 ≤ 3) (h1 : 0 ≤ x1 ∧ x1 ≤ 23) : (-2147483648) ≤ (iv_x i).1 ∧ (iv_x i).2 ≤ 2147483647 := iv_x_F i
theorem iv_f73 {i : Int} (x0 : Int) (x1 : Int) (e : i = 2 + 705 * x0 + 4 * x1) (h0 : 0 ≤ x0 ∧ x0 ≤ 3) (h1 : 0 ≤ x1 ∧ x1 ≤ 23) : (-2147483648) ≤ (iv_x i).1 ∧ (iv_x i).2 ≤ 2147483647 := iv_x_F i
theorem iv_f74 {i : Int} (x0 : Int) (e : i = 2 + 1 * x0) (h0 : 1 ≤ x0 ∧ x0 ≤ 2208) : (-2147483648) ≤ (iv_x i).1 ∧ (iv_x i).2 ≤ 2147483647 := iv_x_F i
theorem iv_f75 {i : Int} (x0 : Int) (e : i = 0 + 1 * x0) (h0 : 0 ≤ x0 ∧ x0 ≤ 2819) : (-2147483648) ≤ (iv_x i).1 ∧ (iv_x i).2 ≤ 2147483647 := iv_x_F i
theorem iv_f76 {i : Int} (x0 : Int) (e : i = 52 + 4 * x0) (h0 : 0 ≤ x0 ∧ x0 ≤ 15) : (-2147483648) ≤ (iv_a i).1 ∧ (iv_a i).2 ≤ 2147483647 := iv_a_F i
theorem iv_f77 {i : Int} (x0 : Int) (x1 : Int) (e : i = 126 + 6 * x0 + 1 * x1) (h0 : 0 ≤ x0 ∧ x0 ≤ 5) (h1 : 0 ≤ x1 ∧ x1 ≤ 4) : (-2147483648) ≤ (iv_a i).1 ∧ (iv_a i).2 ≤ 2147483647 := iv_a_F i
theorem iv_f78 {i : Int} (e : i = 6) : (iv_a i).1 ≤ 0 ∧ 30202 ≤ (iv_a i).2 := by
  unfold iv_a
  repeat' refine iv_itW (fun h => ?_) (fun h => ?_)
  all_goals first | exact ⟨by decide, by decide⟩ | (exfalso; omega)
theorem iv_f79 {i : Int} (x0 : Int) (e : i = 127 + 6 * x0) (h0 : 0 ≤ x0 ∧ x0 ≤ 5) : 0 ≤ (iv_a i).1 ∧ (iv_a i).2 ≤ 1 := by
  unfold iv_a
  repeat' refine iv_itR (fun h => ?_) (fun h => ?_)
  all_goals first | exact ⟨by decide, by decide⟩ | (exfalso; omega)
theorem iv_f80 {i : Int} (x0 : Int) (e : i = 0 + 1 * x0) (h0 : 53 ≤ x0 ∧ x0 ≤ 113) : (iv_a i).1 ≤ 0 ∧ 11 ≤ (iv_a i).2 := by
  unfold iv_a
  repeat' refine iv_itW (fun h => ?_) (fun h => ?_)
  all_goals first | exact ⟨by decide, by decide⟩ | (exfalso; omega)
theorem iv_f81 {i : Int} (x0 : Int) (e : i = 1 + 1 * x0) (h0 : 1 ≤ x0 ∧ x0 ≤ 2208) : (-2147483648) ≤ (iv_x i).1 ∧ (iv_x i).2 ≤ 2147483647 := iv_x_F i
theorem iv_f82 {i : Int} (x0 : Int) (e : i = 0 + 1 * x0) (h0 : 1 ≤ x0 ∧ x0 ≤ 2208) : (-2147483648) ≤ (iv_x i).1 ∧ (iv_x i).2 ≤ 2147483647 := iv_x_F i
theorem iv_f83 {i : Int} (x0 : Int) (e : i = 53 + 4 * x0) (h0 : 0 ≤ x0 ∧ x0 ≤ 15) : (iv_a i).1 ≤ (-2147483648) ∧ 2147483647 ≤ (iv_a i).2 := by
  unfold iv_a
  repeat' refine iv_itW (fun h => ?_) (fun h => ?_)
  all_goals first | exact ⟨by decide, by decide⟩ | (exfalso; omega)
theorem iv_f84 {i : Int} (x0 : Int) (e : i = 12 + 1 * x0) (h0 : 0 ≤ x0 ∧ x0 ≤ 1172) : (-2147483648) ≤ (iv_s i).1 ∧ (iv_s i).2 ≤ 2147483647 := iv_s_F i
theorem iv_f85 {i : Int} (x0 : Int) (e : i = 13 + 1 * x0) (h0 : 0 ≤ x0 ∧ x0 ≤ 1172) : (-2147483648) ≤ (iv_s i).1 ∧ (iv_s i).2 ≤ 2147483647 := iv_s_F i
theorem iv_f86 {i : Int} (x0 : Int) (e : i = 14 + 1 * x0) (h0 : 0 ≤ x0 ∧ x0 ≤ 1172) : (-2147483648) ≤ (iv_s i).1 ∧ (iv_s i).2 ≤ 2147483647 := iv_s_F i
theorem iv_f87 {i : Int} (x0 : Int) (e : i = 0 + 1 * x0) (h0 : 0 ≤ x0 ∧ x0 ≤ 1169) : (-2147483648) ≤ (iv_s i).1 ∧ (iv_s i).2 ≤ 2147483647 := iv_s_F i
theorem iv_f88 {i : Int} (x0 : Int) (e : i = 1 + 1 * x0) (h0 : 0 ≤ x0 ∧ x0 ≤ 1169) : (-2147483648) ≤ (iv_s i).1 ∧ (iv_s i).2 ≤ 2147483647 := iv_s_F i
theorem iv_f89 {i : Int} (x0 : Int) (e : i = 2 + 1 * x0) (h0 : 0 ≤ x0 ∧ x0 ≤ 1169) : (-2147483648) ≤ (iv_s i).1 ∧ (iv_s i).2 ≤ 2147483647 := iv_s_F i
theorem iv_f90 {i : Int} (x0 : Int) (e : i = 3 + 1 * x0) (h0 : 278 ≤ x0 ∧ x0 ≤ 1496) : (-2147483648) ≤ (iv_a i).1 ∧ (iv_a i).2 ≤ 2147483647 := iv_a_F i
theorem iv_f91 {i : Int} (x0 : Int) (e : i = 4 + 1 * x0) (h0 : 278 ≤ x0 ∧ x0 ≤ 1496) : (-2147483648) ≤ (iv_a i).1 ∧ (iv_a i).2 ≤ 2147483647 := iv_a_F i
theorem iv_f92 {i : Int} (x0 : Int) (x1 : Int) (e : i = 29 + 1 * x0 + 1 * x1) (h0 : 278 ≤ x0 ∧ x0 ≤ 1496) (h1 : 0 ≤ x1 ∧ x1 ≤ 11) : (-2147483648) ≤ (iv_a i).1 ∧ (iv_a i).2 ≤ 2147483647 := iv_a_F i
theorem iv_f93 {i : Int} (x0 : Int) (e : i = 0 + 1 * x0) (h0 : 278 ≤ x0 ∧ x0 ≤ 1496) : (-2147483648) ≤ (iv_a i).1 ∧ (iv_a i).2 ≤ 2147483647 := iv_a_F i
theorem iv_f94 {i : Int} (x0 : Int) (e : i = 131 + 6 * x0) (h0 : 0 ≤ x0 ∧ x0 ≤ 5) : 0 ≤ (iv_a i).1 ∧ (iv_a i).2 ≤ 11 := by
  unfold iv_a
  repeat' refine iv_itR (fun h => ?_) (fun h => ?_)
  all_goals first | exact ⟨by decide, by decide⟩ | (exfalso; omega)
theorem iv_f95 {i : Int} (x0 : Int) (x1 : Int) (e : i = 126 + 6 * x0 + 1 * x1) (h0 : 0 ≤ x0 ∧ x0 ≤ 5) (h1 : 0 ≤ x1 ∧ x1 ≤ 4) : (iv_a i).1 ≤ 0 ∧ 1 ≤ (iv_a i).2 := by
  unfold iv_a
  repeat' refine iv_itW (fun h => ?_) (fun h => ?_)
  all_goals first | exact ⟨by decide, by decide⟩ | (exfalso; omega)
theorem iv_f96 {i : Int} (x0 : Int) (x1 : Int) (e : i = 18 + 1 * x0 + 2 * x1) (h0 : 278 ≤ x0 ∧ x0 ≤ 1496) (h1 : 0 ≤ x1 ∧ x1 ≤ 5) : (-2147483648) ≤ (iv_a i).1 ∧ (iv_a i).2 ≤ 2147483647 := iv_a_F i
theorem iv_f97 {i : Int} (x0 : Int) (x1 : Int) (e : i = 17 + 1 * x0 + 2 * x1) (h0 : 278 ≤ x0 ∧ x0 ≤ 1496) (h1 : 0 ≤ x1 ∧ x1 ≤ 5) : (-2147483648) ≤ (iv_a i).1 ∧ (iv_a i).2 ≤ 2147483647 := iv_a_F i
theorem iv_f98 {i : Int} (x0 : Int) (x1 : Int) (e : i = 5 + 1 * x0 + 1 * x1) (h0 : 278 ≤ x0 ∧ x0 ≤ 1496) (h1 : 0 ≤ x1 ∧ x1 ≤ 11) : (-2147483648) ≤ (iv_a i).1 ∧ (iv_a i).2 ≤ 2147483647 := iv_a_F i
theorem iv_f99 {i : Int} (x0 : Int) (e : i = 114 + 1 * x0) (h0 : 0 ≤ x0 ∧ x0 ≤ 11) : (iv_a i).1 ≤ 0 ∧ 11 ≤ (iv_a i).2 := by
  unfold iv_a
  repeat' refine iv_itW (fun h => ?_) (fun h => ?_)
  all_goals first | exact ⟨by decide, by decide⟩ | (exfalso; omega)
theorem iv_f100 {i : Int} (x0 : Int) (e : i = 1 + 1 * x0) (h0 : 278 ≤ x0 ∧ x0 ≤ 1496) : (-2147483648) ≤ (iv_a i).1 ∧ (iv_a i).2 ≤ 2147483647 := iv_a_F i
theorem iv_f101 {i : Int} (x0 : Int) (e : i = 2 + 1 * x0) (h0 : 278 ≤ x0 ∧ x0 ≤ 1496) : (-2147483648) ≤ (iv_a i).1 ∧ (iv_a i).2 ≤ 2147483647 := iv_a_F i
theorem iv_f102 {i : Int} (x0 : Int) (x1 : Int) (e : i = 14 + 3 * x0 + 1 * x1) (h0 : 0 ≤ x0 ∧ x0 ≤ 11) (h1 : 0 ≤ x1 ∧ x1 ≤ 2) : (-2147483648) ≤ (iv_a i).1 ∧ (iv_a i).2 ≤ 2147483647 := iv_a_F i
theorem iv_f103 {i : Int} (x0 : Int) (x1 : Int) (e : i = 50 + 4 * x0 + 1 * x1) (h0 : 0 ≤ x0 ∧ x0 ≤ 15) (h1 : 0 ≤ x1 ∧ x1 ≤ 3) : (-2147483648) ≤ (iv_a i).1 ∧ (iv_a i).2 ≤ 2147483647 := iv_a_F i
theorem iv_f104 {i : Int} (e : i = 10) : 0 ≤ (iv_a i).1 ∧ (iv_a i).2 ≤ 6 := by
  unfold iv_a
  repeat' refine iv_itR (fun h => ?_) (fun h => ?_)
  all_goals first | exact ⟨by decide, by decide⟩ | (exfalso; omega)
theorem iv_f105 {i : Int} (x0 : Int) (e : i = 162 + 2 * x0) (h0 : 0 ≤ x0 ∧ x0 ≤ 5) : (iv_a i).1 ≤ 0 ∧ 11 ≤ (iv_a i).2 := by
  unfold iv_a
  repeat' refine iv_itW (fun h => ?_) (fun h => ?_)
  all_goals first | exact ⟨by decide, by decide⟩ | (exfalso; omega)
theorem iv_f106 {i : Int} (x0 : Int) (e : i = 163 + 2 * x0) (h0 : 0 ≤ x0 ∧ x0 ≤ 5) : (iv_a i).1 ≤ (-2147483648) ∧ 2147483647 ≤ (iv_a i).2 := by
  unfold iv_a
  repeat' refine iv_itW (fun h => ?_) (fun h => ?_)
  all_goals first | exact ⟨by decide, by decide⟩ | (exfalso; omega)
theorem iv_f107 {i : Int} (e : i = 10) : (iv_a i).1 ≤ 0 ∧ 6 ≤ (iv_a i).2 := by
  unfold iv_a
  repeat' refine iv_itW (fun h => ?_) (fun h => ?_)
  all_goals first | exact ⟨by decide, by decide⟩ | (exfalso; omega)
theorem iv_f108 {i : Int} (x0 : Int) (e : i = 162 + 2 * x0) (h0 : 0 ≤ x0 ∧ x0 ≤ 5) : 0 ≤ (iv_a i).1 ∧ (iv_a i).2 ≤ 11 := by
  unfold iv_a
  repeat' refine iv_itR (fun h => ?_) (fun h => ?_)
  all_goals first | exact ⟨by decide, by decide⟩ | (exfalso; omega)
theorem iv_f109 {i : Int} (x0 : Int) (e : i = 163 + 2 * x0) (h0 : 0 ≤ x0 ∧ x0 ≤ 5) : (-2147483648) ≤ (iv_a i).1 ∧ (iv_a i).2 ≤ 2147483647 := iv_a_F i
theorem iv_f110 {i : Int} (x0 : Int) (e : i = 174 + 5 * x0) (h0 : 0 ≤ x0 ∧ x0 ≤ 15) : (iv_a i).1 ≤ (-2147483648) ∧ 2147483647 ≤ (iv_a i).2 := by
  unfold iv_a
  repeat' refine iv_itW (fun h => ?_) (fun h => ?_)
  all_goals first | exact ⟨by decide, by decide⟩ | (exfalso; omega)
theorem iv_f111 {i : Int} (x0 : Int) (e : i = 175 + 5 * x0) (h0 : 0 ≤ x0 ∧ x0 ≤ 15) : (iv_a i).1 ≤ (-2147483648) ∧ 2147483647 ≤ (iv_a i).2 := by
  unfold iv_a
  repeat' refine iv_itW (fun h => ?_) (fun h => ?_)
  all_goals first | exact ⟨by decide, by decide⟩ | (exfalso; omega)
theorem iv_f112 {i : Int} (x0 : Int) (e : i = 176 + 5 * x0) (h0 : 0 ≤ x0 ∧ x0 ≤ 15) : (iv_a i).1 ≤ (-2147483648) ∧ 2147483647 ≤ (iv_a i).2 := by
  unfold iv_a
  repeat' refine iv_itW (fun h => ?_) (fun h => ?_)
  all_goals first | exact ⟨by decide, by decide⟩ | (exfalso; omega)
theorem iv_f113 {i : Int} (x0 : Int) (e : i = 177 + 5 * x0) (h0 : 0 ≤ x0 ∧ x0 ≤ 15) : (iv_a i).1 ≤ (-2147483648) ∧ 2147483647 ≤ (iv_a i).2 := by
  unfold iv_a
  repeat' refine iv_itW (fun h => ?_) (fun h => ?_)
  all_goals first | exact ⟨by decide, by decide⟩ | (exfalso; omega)
theorem iv_f114 {i : Int} (x0 : Int) (e : i = 178 + 5 * x0) (h0 : 0 ≤ x0 ∧ x0 ≤ 15) : (iv_a i).1 ≤ (-2147483648) ∧ 2147483647 ≤ (iv_a i).2 := by
  unfold iv_a
  repeat' refine iv_itW (fun h => ?_) (fun h => ?_)
  all_goals first | exact ⟨by decide, by decide⟩ | (exfalso; omega)
theorem iv_f115 {i : Int} (x0 : Int) (e : i = 174 + 5 * x0) (h0 : 0 ≤ x0 ∧ x0 ≤ 15) : (-2147483648) ≤ (iv_a i).1 ∧ (iv_a i).2 ≤ 2147483647 := iv_a_F i
theorem iv_f116 {i : Int} (x0 : Int) (e : i = 177 + 5 * x0) (h0 : 0 ≤ x0 ∧ x0 ≤ 15) : (-2147483648) ≤ (iv_a i).1 ∧ (iv_a i).2 ≤ 2147483647 := iv_a_F i
theorem iv_f117 {i : Int} (x0 : Int) (e : i = 175 + 5 * x0) (h0 : 0 ≤ x0 ∧ x0 ≤ 15) : (-2147483648) ≤ (iv_a i).1 ∧ (iv_a i).2 ≤ 2147483647 := iv_a_F i
theorem iv_f118 {i : Int} (x0 : Int) (e : i = 178 + 5 * x0) (h0 : 0 ≤ x0 ∧ x0 ≤ 15) : (-2147483648) ≤ (iv_a i).1 ∧ (iv_a i).2 ≤ 2147483647 := iv_a_F i
theorem iv_f119 {i : Int} (x0 : Int) (e : i = 176 + 5 * x0) (h0 : 0 ≤ x0 ∧ x0 ≤ 15) : (-2147483648) ≤ (iv_a i).1 ∧ (iv_a i).2 ≤ 2147483647 := iv_a_F i
theorem iv_f120 {i : Int} (e : i = 11) : 0 ≤ (iv_a i).1 ∧ (iv_a i).2 ≤ 12 := by
  unfold iv_a
  repeat' refine iv_itR (fun h => ?_) (fun h => ?_)
  all_goals first | exact ⟨by decide, by decide⟩ | (exfalso; omega)
theorem iv_f121 {i : Int} (x0 : Int) (e : i = 254 + 2 * x0) (h0 : 0 ≤ x0 ∧ x0 ≤ 11) : (iv_a i).1 ≤ (-2147483648) ∧ 2147483647 ≤ (iv_a i).2 := by
  unfold iv_a
  repeat' refine iv_itW (fun h => ?_) (fun h => ?_)
  all_goals first | exact ⟨by decide, by decide⟩ | (exfalso; omega)
theorem iv_f122 {i : Int} (x0 : Int) (e : i = 0 + 1 * x0) (h0 : 255 ≤ x0 ∧ x0 ≤ 277) : (iv_a i).1 ≤ (-2147483648) ∧ 2147483647 ≤ (iv_a i).2 := by
  unfold iv_a
  repeat' refine iv_itW (fun h => ?_) (fun h => ?_)
  all_goals first | exact ⟨by decide, by decide⟩ | (exfalso; omega)
theorem iv_f123 {i : Int} (e : i = 11) : (iv_a i).1 ≤ 0 ∧ 12 ≤ (iv_a i).2 := by
  unfold iv_a
  repeat' refine iv_itW (fun h => ?_) (fun h => ?_)
  all_goals first | exact ⟨by decide, by decide⟩ | (exfalso; omega)
theorem iv_f124 {i : Int} (x0 : Int) (e : i = 254 + 2 * x0) (h0 : 0 ≤ x0 ∧ x0 ≤ 11) : (-2147483648) ≤ (iv_a i).1 ∧ (iv_a i).2 ≤ 2147483647 := iv_a_F i
theorem iv_f125 {i : Int} (x0 : Int) (e : i = 255 + 2 * x0) (h0 : 0 ≤ x0 ∧ x0 ≤ 11) : (-2147483648) ≤ (iv_a i).1 ∧ (iv_a i).2 ≤ 2147483647 := iv_a_F i
theorem iv_f126 {i : Int} (x0 : Int) (e : i = 0 + 1 * x0) (h0 : 0 ≤ x0 ∧ x0 ≤ 1537) : (-2147483648) ≤ (iv_a i).1 ∧ (iv_a i).2 ≤ 2147483647 := iv_a_F i
theorem iv_f127 {i : Int} (x0 : Int) (e : i = 0 + 1 * x0) (h0 : 0 ≤ x0 ∧ x0 ≤ 1537) : (iv_a i).1 ≤ 0 ∧ 1 ≤ (iv_a i).2 := by
  unfold iv_a
  repeat' refine iv_itW (fun h => ?_) (fun h => ?_)
  all_goals first | exact ⟨by decide, by decide⟩ | (exfalso; omega)
theorem iv_f128 {i : Int} (x0 : Int) (e : i = 0 + 1 * x0) (h0 : 0 ≤ x0 ∧ x0 ≤ 11) : (-2147483648) ≤ (iv_a i).1 ∧ (iv_a i).2 ≤ 2147483647 := iv_a_F i
