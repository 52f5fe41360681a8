/-! what behindOne wants of signs and of what is open: small facts, so that no case is split in a large context -/
theorem pz_k1 {r cm op tok r' : Int} (q : r = -1 ∨ (tok ≠ 0 ∧ ((4 ≤ r ∧ r ≤ 7) ∨ (10 ≤ r ∧ r ≤ 15 ∧ op = 41 ∧ cm ≠ 1) ∨ ((r = 21 ∨ r = 22) ∧ op = 41 ∧ cm = 1)))) (c : ¬ (r < 0)) (q2 : r' = pz_rk r ∧ ((40 ≤ r ∧ r' = 0) ∨ (r = 22 ∧ r' = 1) ∨ (r = 21 ∧ r' = 2) ∨ (r = 20 ∧ r' = 3) ∨ (10 ≤ r ∧ r < 40 ∧ r ≠ 20 ∧ r ≠ 21 ∧ r ≠ 22 ∧ r' = 4) ∨ (r = 3 ∧ r' = 7) ∨ (6 ≤ r ∧ r < 10 ∧ r' = 6) ∨ (r < 6 ∧ r ≠ 3 ∧ r' = 5))) : tok ≠ 0 ∧ 1 ≤ r' ∧ (5 ≤ r' ∨ (r' = 4 ∧ cm ≠ 1) ∨ (r' < 4 ∧ (cm = 1 ∨ op ≠ 41))) ∧ ((4 ≤ r ∧ r ≤ 7 ∧ r' = pz_rk r) ∨ (10 ≤ r ∧ r ≤ 15 ∧ r' = pz_rk r ∧ op = 41) ∨ ((r = 21 ∨ r = 22) ∧ r' = pz_rk r ∧ op = 41)) := by
  obtain ⟨e, q2⟩ := q2
  rcases q with q | ⟨t, q⟩
  · omega
  · rcases q with q | q | q
    · exact ⟨t, by omega, by omega, Or.inl ⟨q.1, q.2, e⟩⟩
    · exact ⟨t, by omega, by omega, Or.inr (Or.inl ⟨q.1, q.2.1, e, q.2.2.1⟩)⟩
    · exact ⟨t, by omega, by omega, Or.inr (Or.inr ⟨q.1, e, q.2.1⟩)⟩
theorem pz_k2 {r25 r27 op cm tok : Int} (q : r27 = -1 ∨ (tok ≠ 0 ∧ ((r25 = 40 ∧ r27 = 0) ∨ (r25 = 41 ∧ r27 = 42 ∧ cm = 1) ∨ (r25 = 42 ∧ r27 = 43) ∨ (r25 = 44 ∧ r27 = 45) ∨ (r25 ≠ -1 ∧ r25 ≠ 40 ∧ r25 ≠ 41 ∧ r25 ≠ 42 ∧ r25 ≠ 44 ∧ r27 = 0)))) (c : 0 ≤ r27) (e : r25 = op) (hb : op = -1 ∨ 40 ≤ op) (hr : -1 ≤ r25 ∧ r25 ≤ 45) : tok ≠ 0 ∧ (cm = 1 ∨ op ≠ 41) ∧ ((r27 = 0 ∧ (op = 40 ∨ op = 43 ∨ op = 45)) ∨ (r27 = 42 ∧ op = 41) ∨ (r27 = 43 ∧ op = 42) ∨ (r27 = 45 ∧ op = 44)) ∧ op ≠ -1 := by
  subst e
  rcases q with q | ⟨t, q⟩
  · omega
  · exact ⟨t, by omega, by omega, by omega⟩
theorem pz_k3 {K op op' op1 top rk : Int} (h1 : op' = -1 ∨ 0 < K) (h2 : 0 < K → (40 ≤ top → op' = top) ∧ (top < 40 → op' = op1)) (h3 : (40 ≤ top ∧ rk = 0) ∨ (top < 40 ∧ 1 ≤ rk)) (h4 : op' = op) (h5 : K ≤ 0 ∨ rk < 1) (h6 : op ≠ -1) : 0 < K ∧ top = op := by
  have a : 0 < K := h1.resolve_left (by omega)
  have b : 40 ≤ top := by omega
  exact ⟨a, ((h2 a).1 b).symm.trans h4⟩
theorem pz_k4 {K op op' top r r27 q : Int} (h : ((r < 0 ∧ op' = -1) ∨ (0 ≤ r ∧ r < K ∧ op' = q ∧ 40 ≤ q)) ∧ (K ≤ 0 ∨ top < 40 ∨ r = K - 1)) (h1 : 0 < K) (h2 : top = op) (h3 : (r27 = 42 ∧ op = 41) ∨ (r27 = 43 ∧ op = 42) ∨ (r27 = 45 ∧ op = 44)) : r = K - 1 ∧ 0 ≤ r := by
  obtain ⟨_, h⟩ := h
  have : r = K - 1 := by omega
  omega
theorem pz_k5 {op r27 : Int} (h : (r27 = 0 ∧ (op = 40 ∨ op = 43 ∨ op = 45)) ∨ (r27 = 42 ∧ op = 41) ∨ (r27 = 43 ∧ op = 42) ∨ (r27 = 45 ∧ op = 44)) (c : r27 ≤ 0) : op = 40 ∨ op = 43 ∨ op = 45 := by omega
theorem pz_k6 {op : Int} (h : op = 40 ∨ op = 43 ∨ op = 45) : ¬ ((1 : Int) < 4 ∧ op = 41) := by omega
theorem pz_k7 {op r27 : Int} (h : (r27 = 0 ∧ (op = 40 ∨ op = 43 ∨ op = 45)) ∨ (r27 = 42 ∧ op = 41) ∨ (r27 = 43 ∧ op = 42) ∨ (r27 = 45 ∧ op = 44)) (c : ¬ (r27 ≤ 0)) : (r27 = 42 ∧ op = 41) ∨ (r27 = 43 ∧ op = 42) ∨ (r27 = 45 ∧ op = 44) := by omega
theorem pz_k8 {op r27 : Int} (h : (r27 = 42 ∧ op = 41) ∨ (r27 = 43 ∧ op = 42) ∨ (r27 = 45 ∧ op = 44)) (c : r27 ≠ 45) : (op = 41 ∧ r27 = 42) ∨ (op = 42 ∧ r27 = 43) := by omega
theorem pz_k10 {op r27 : Int} (h : (r27 = 42 ∧ op = 41) ∨ (r27 = 43 ∧ op = 42) ∨ (r27 = 45 ∧ op = 44)) (c : r27 = 45) : op = 44 := by omega
theorem pz_k9 {op r27 : Int} (h : (r27 = 42 ∧ op = 41) ∨ (r27 = 43 ∧ op = 42) ∨ (r27 = 45 ∧ op = 44)) (c : r27 = 45) : ¬ ((1 : Int) < 4 ∧ op = 41) := by omega
