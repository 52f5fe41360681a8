/-! if, with what is written -/
section D2
variable {f g : Int → Int} {n law : Int} {s t u z : lf_Z} {r : Int × Int} {W : cy_W} {b d w : Int}
theorem ds_bdZ {G : Int → Int × Int} (h : (ds_bd r G).1 = 0) : r.1 = 0 ∧ (G r.2).1 = 0 := by
  by_cases c : r.1 = 0
  · rw [ds_bd0 c] at h; exact ⟨c, h⟩
  · rw [ds_bdF c] at h; exact absurd h c
theorem ds_exZ (h : (ds_ex f n w b).1 = 0) : lx_T f n b = w ∧ ds_ex f n w b = (0, ds_ad f n b) := by
  by_cases c : lx_T f n b = w
  · exact ⟨c, if_pos c⟩
  · have : ds_ex f n w b = (1, b) := if_neg c
    rw [this] at h
    exact absurd h (show (1 : Int) ≠ 0 by decide)
theorem fy_49 {R41 R50 : Int → (lf_Z → Prop) → lf_Z → Prop} {S E : ds_D} {VS VE : cy_D} (hb : cl_tp f n) (hS : cy_G z f n law R41 S VS) (hE : cy_G z f n law R50 E VE) : cy_G z f n law (fw_49 R41 R50) (ds_if f n S E) (fun N => dv_if f n S E (VS N) (VE N)) := by
  intro W d g s r Q hg h k
  unfold fw_49
  refine hE W d g s r _ hg h (fun a ha => fy_ex (by decide) hb ha (fun b hB => ⟨fun _ => trivial, fun t1 u1 h1 => fy_45 h1 hB u1 (fun v1 c _ hc => hS _ d g c _ _ hg hc (fun e he => fy_ex (by decide) hb he (fun i hi => ⟨fun _ => trivial, fun t2 u2 h2 => fy_45 h2 hi u2 (fun v2 j _ hj => ⟨fun _ => trivial, fun t3 u3 h3 => fy_53 h3 hj u3 (fun l _ hl => hS _ d g l _ _ hg hl (fun m hm => ⟨fun _ => trivial, fun t4 u4 h4 => fy_53 h4 hm u4 (fun o _ ho => fy_ex (by decide) hb ho (fun p hp => k p ?_))⟩))⟩)⟩)))⟩))
  have e : ds_bd r (ds_if f n S E d g) = ds_bd (ds_bd (ds_bd (ds_bd (ds_bd (ds_bd r (E d g)) (ds_ex f n 38)) (S d g)) (ds_ex f n 39)) (S d g)) (ds_ex f n 40) := by
    by_cases c : r.1 = 0
    · rw [ds_bd0 c, ds_bd0 c]; rfl
    · rw [ds_bdF c, ds_bdF c, ds_bdF c, ds_bdF c, ds_bdF c, ds_bdF c, ds_bdF c]
  by_cases z : (ds_bd r (ds_if f n S E d g)).1 = 0
  · have z' := z
    rw [e] at z
    obtain ⟨z5, x3⟩ := ds_bdZ z
    obtain ⟨z4, y5⟩ := ds_bdZ z5
    obtain ⟨z3, x2⟩ := ds_bdZ z4
    obtain ⟨z2, y3⟩ := ds_bdZ z3
    obtain ⟨z1, x1⟩ := ds_bdZ z2
    obtain ⟨z0, y1⟩ := ds_bdZ z1
    rw [ds_bd0 z0] at hp e z' ⊢
    rw [ds_bd0 z0] at e
    rw [ds_bd0 z0] at z1 z2 z3 z4 z5 x1 x2 x3 y3 y5
    rw [ds_bd0 z1] at hp e z2 z3 z4 z5 x2 x3 y3 y5
    obtain ⟨T1, q1⟩ := ds_exZ x1
    rw [q1] at hp e z2 z3 z4 z5 x2 x3 y3 y5
    rw [ds_bd0 (r := (0, ds_ad f n (E d g r.2).2)) rfl] at hp e z3 z4 z5 x2 x3 y5
    rw [ds_bd0 z3] at hp e z4 z5 x3 y5
    obtain ⟨T2, q2⟩ := ds_exZ x2
    dsimp only at q2 T2
    rw [q2] at hp e z4 z5 x3 y5
    rw [ds_bd0 (r := (0, ds_ad f n (S d g (ds_ad f n (E d g r.2).2)).2)) rfl] at hp e z5 x3
    rw [ds_bd0 z5] at hp e
    obtain ⟨T3, q3⟩ := ds_exZ x3
    dsimp only at q3 T3
    rw [q3] at hp e
    rw [e]
    exact cy_m hp (fun o C _ hC => cy_Ai (by rw [T1]; decide) (by rw [T2]; decide) (by rw [T3]; decide) hC)
  · rw [e] at z ⊢
    exact cy_F hp z
end D2
