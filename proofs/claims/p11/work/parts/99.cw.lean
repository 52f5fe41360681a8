/-! what readings have written, put together -/
section CW2
variable {f g : Int → Int} {n law : Int} {W : cy_W} {b b1 b2 b3 b4 d : Int} {V V1 V2 V3 : cc_V} {o : Option Nat} {C : Nat → Int → Int}
/-- one order that pushes, for one token -/
theorem cy_A1 {k v w : Int} (hT : lx_T f n b ≠ 0) (hk : 0 ≤ k ∧ k < 50) (hv : 0 ≤ v ∧ v < 10000) (hV : ∀ (N M e L : Int → Int), cc_N law N M → cc_L d g e L → cm_sm (V N e) ∧ ((k = 2 ∧ v = V N e) ∨ (k = 3 ∧ v < 8 ∧ L v = V N e) ∨ (k = 17 ∧ v < 11 ∧ M v = V N e)))
    (h : cy_O (k * 10000 + v) w W o C) : cy_A law n b (ds_ad f n b) d g V W o C := by
  obtain ⟨D, u, hW, e, l, h3⟩ := h
  obtain ⟨t1, t2⟩ := cz_ad hT
  refine ⟨D, u, hW, e, l, fun p0 pb bn n3 => ?_⟩
  obtain ⟨_, z2, z3, z4, z5⟩ := h3 (by have := (lm_adv hT).1; omega)
  refine ⟨⟨by omega, t2⟩, ⟨by omega, by omega⟩, fun i hi => by rw [z3]; exact if_neg (by omega), z4, z5, ?_⟩
  rw [z2]
  exact cc_p1 (by rw [z3]; exact if_pos rfl) hk hv hV
/-- an order on what a deeper reading has left -/
theorem cy_Ag {k v : Int} (hT : lx_T f n b ≠ 0) (hk : k = 18 ∨ k = 44) (hV : ∀ N e, V2 N e = if k = 18 then -(V N e) else 1 - V N e) (hs : ∀ N e, cm_sm (V N e) → cm_sm (V2 N e))
    (h : cy_O (k * 10000 + 0) v (cy_A law n (ds_ad f n b) b2 (d + 1) g V W) o C) : cy_A law n b b2 d g V2 W o C := by
  obtain ⟨D, u, ⟨B, u2, hW, e1, l1, h1⟩, e2, l2, h3⟩ := h
  have q2 : u2 = u := by rw [e1] at e2; exact Option.some.inj e2
  subst q2
  obtain ⟨t1, t2⟩ := cz_ad hT
  refine ⟨B, u2, hW, e1, l1, fun p0 pb bn n3 => ?_⟩
  obtain ⟨⟨y1, y2⟩, ⟨y3, y4⟩, y5, y6, y7, y8⟩ := h1 p0 (by omega) t2 n3
  obtain ⟨_, z2, z3, z4, z5⟩ := h3 (by omega)
  refine ⟨⟨by omega, y2⟩, ⟨by omega, by omega⟩, fun i hi => ?_, fun i hi => (z4 i hi).trans (y6 i hi), fun c c1 c2 => (z5 c c1 c2).trans (y7 c c1 c2), ?_⟩
  · rw [z3]; exact (if_neg (by omega)).trans (y5 i hi)
  · rw [z2, z3]
    exact cc_p2 ((if_pos rfl).trans (Int.add_zero _)) hk (cc_w (cc_R y8 (fun i i0 i1 => if_neg (by omega)))) hV hs
/-- tokens on both sides of a deeper reading -/
theorem cy_Aw (h1 : b ≤ b1) (h2 : b ≤ n → b1 ≤ n) (h3 : b2 ≤ b3) (h4 : b2 ≤ n → b3 ≤ n) (h : cy_A law n b1 b2 (d + 1) g V W o C) : cy_A law n b b3 d g V W o C := by
  obtain ⟨B, u, hW, e, l, h⟩ := h
  refine ⟨B, u, hW, e, l, fun p0 pb bn n3 => ?_⟩
  obtain ⟨⟨y1, y2⟩, ⟨y3, y4⟩, y5, y6, y7, y8⟩ := h p0 (by omega) (h2 bn) n3
  exact ⟨⟨by omega, h4 y2⟩, ⟨y3, by omega⟩, y5, y6, y7, cc_w y8⟩
theorem cy_Ae (h3 : b2 ≤ b3) (h4 : b2 ≤ n → b3 ≤ n) (h : cy_A law n b b2 d g V W o C) : cy_A law n b b3 d g V W o C := by
  obtain ⟨B, u, hW, e, l, h⟩ := h
  refine ⟨B, u, hW, e, l, fun p0 pb bn n3 => ?_⟩
  obtain ⟨⟨y1, y2⟩, ⟨y3, y4⟩, y5, y6, y7, y8⟩ := h p0 pb bn n3
  exact ⟨⟨by omega, h4 y2⟩, ⟨y3, by omega⟩, y5, y6, y7, y8⟩
/-- if: b .. b1 asked, then, .. b2, else, .. b3, end -/
theorem cy_Ai {v1 v2 : Int} (hT1 : lx_T f n b1 ≠ 0) (hT2 : lx_T f n b2 ≠ 0) (hT3 : lx_T f n b3 ≠ 0)
    (h : cy_B v2 (cy_A law n (ds_ad f n b2) b3 d g V3 (cy_B v1 (cy_O (39 * 10000 + 0) v2 (cy_A law n (ds_ad f n b1) b2 d g V2 (cy_O (38 * 10000 + 0) v1 (cy_A law n b b1 d g V1 W)))))) o C) : cy_A law n b (ds_ad f n b3) d g (fun N e => if V1 N e ≠ 0 then V2 N e else V3 N e) W o C := by
  obtain ⟨E6, u6, ⟨E5, u5, ⟨E4, u4, ⟨E3, u3, ⟨E2, u2, ⟨E1, u1, ⟨E0, u0, hW, e0, l0, h0⟩, e1, l1, h1⟩, e2, l2, h2⟩, e3, l3, h3⟩, e4, l4, h4⟩, e5, l5, h5⟩, e6, l6, h6⟩ := h
  have r1 : u1 = u0 := Option.some.inj (e1.symm.trans e0)
  have r2 : u2 = u0 := Option.some.inj (e2.symm.trans e0)
  have r3 : u3 = u0 := Option.some.inj (e3.symm.trans e0)
  have r4 : u4 = u0 := Option.some.inj (e4.symm.trans e0)
  have r5 : u5 = u0 := Option.some.inj (e5.symm.trans e0)
  have r6 : u6 = u0 := Option.some.inj (e6.symm.trans e0)
  rw [r1] at h1
  rw [r2] at h2
  rw [r3] at h3
  rw [r4] at h4
  rw [r5] at h5
  rw [r6] at h6
  obtain ⟨t1, t1n⟩ := cz_ad hT1
  obtain ⟨t2, t2n⟩ := cz_ad hT2
  obtain ⟨t3, t3n⟩ := cz_ad hT3
  have g1 := (lm_adv hT1).1
  have g2 := (lm_adv hT2).1
  refine ⟨E0, u0, hW, e0, l0, fun p0 pb bn n3 => ?_⟩
  obtain ⟨⟨a1, a2⟩, ⟨a3, a4⟩, a5, a6, a7, a8⟩ := h0 p0 pb bn n3
  obtain ⟨b1', b2', b3', b4', b5'⟩ := h1 (by omega)
  obtain ⟨⟨c1, c2⟩, ⟨c3, c4⟩, c5, c6, c7, c8⟩ := h2 (by omega) (by omega) t1n n3
  obtain ⟨d1, d2, d3, d4, d5⟩ := h3 (by omega)
  obtain ⟨x1, x2⟩ := h4 (by omega) (by omega)
  have x7 : E5 (7 * u0) = E4 (7 * u0) := x2 (7 * u0) (by omega)
  obtain ⟨⟨y1, y2⟩, ⟨y3, y4⟩, y5, y6, y7, y8⟩ := h5 (by rw [x7]; omega) (by rw [x7]; omega) t2n n3
  rw [x7] at y3 y4 y5 y6 y8
  obtain ⟨z1, z2⟩ := h6 (by omega) (by omega)
  have z7 : C (7 * u0) = E6 (7 * u0) := z2 (7 * u0) (by omega)
  generalize hp : E0 (7 * u0) 1 = p at *
  generalize hq : E1 (7 * u0) 1 = q at *
  generalize hr : E3 (7 * u0) 1 = r at *
  generalize hw : E6 (7 * u0) 1 = w at *
  rw [b2'] at c3 c4 c5 c8
  rw [d2] at y3 y4 y5 y8 x1
  rw [b1'] at x1
  rw [d1] at z1
  have hw3 : w ≤ 300 := by omega
  have E2i : ∀ i : Int, i ≠ q → E2 (7 * u0 + 1) i = E1 (7 * u0 + 1) i := fun i hi => by rw [b3']; exact if_neg hi
  have E2q : E2 (7 * u0 + 1) q = 38 * 10000 + 0 := by rw [b3']; exact if_pos rfl
  have E4i : ∀ i : Int, i ≠ r → E4 (7 * u0 + 1) i = E3 (7 * u0 + 1) i := fun i hi => by rw [d3]; exact if_neg hi
  have E4r : E4 (7 * u0 + 1) r = 39 * 10000 + 0 := by rw [d3]; exact if_pos rfl
  have E5i : ∀ i : Int, i ≠ q → E5 (7 * u0 + 1) i = E4 (7 * u0 + 1) i := fun i hi => by rw [x1]; exact if_neg hi
  have E5q : E5 (7 * u0 + 1) q = 38 * 10000 + (r + 1) := by
    rw [x1]
    refine (if_pos rfl).trans ?_
    rw [E4i q (by omega), c5 q (by omega), E2q, tr_w (by omega)]; omega
  have Ci : ∀ i : Int, i ≠ r → C (7 * u0 + 1) i = E6 (7 * u0 + 1) i := fun i hi => by rw [z1]; exact if_neg hi
  have Cr : C (7 * u0 + 1) r = 39 * 10000 + w := by
    rw [z1]
    refine (if_pos rfl).trans ?_
    rw [y5 r (by omega), E5i r (by omega), E4r, tr_w (by omega)]; omega
  have low : ∀ i : Int, i < q → C (7 * u0 + 1) i = E1 (7 * u0 + 1) i := fun i hi => by
    rw [Ci i (by omega), y5 i (by omega), E5i i (by omega), E4i i (by omega), c5 i (by omega), E2i i (by omega)]
  refine ⟨⟨by omega, t3n⟩, ⟨by rw [z7, hw]; omega, by rw [z7, hw]; omega⟩, fun i hi => (low i (by omega)).trans (a5 i hi), fun i hi => ?_, fun c k1 k2 => ?_, ?_⟩
  · rw [z7]
    exact (y6 i hi).trans ((d4 i hi).trans ((c6 i hi).trans ((b4' i hi).trans (a6 i hi))))
  · exact (z2 c k2).trans ((y7 c k1 k2).trans ((x2 c k2).trans ((d5 c k1 k2).trans ((c7 c k1 k2).trans ((b5' c k1 k2).trans (a7 c k1 k2))))))
  · rw [z7, hw]
    refine cc_if (q := q) (r := r) (cc_R a8 (fun i i0 i1 => low i i1)) ?_ (cc_R c8 (fun i i0 i1 => ?_)) Cr (cc_R y8 (fun i i0 i1 => Ci i (by omega))) hw3 p0
    · rw [Ci q (by omega), y5 q (by omega)]; exact E5q
    · rw [Ci i (by omega), y5 i (by omega), E5i i (by omega), E4i i (by omega)]
/-- let: worth .. b1, in, .. b2, end; read one deeper -/
theorem cy_Al {v x : Int} (hb : b ≤ b3) (hT1 : lx_T f n b1 ≠ 0) (hT2 : lx_T f n b2 ≠ 0) (hbn : b ≤ n → b3 ≤ n) (d0 : 0 ≤ d) (d8 : d < 8)
    (h : cy_A law n (ds_ad f n b1) b2 (d + 1) (ds_u1 g x d) V2 (cy_O (43 * 10000 + d) v (cy_A law n b3 b1 (d + 1) g V1 W)) o C) : cy_A law n b (ds_ad f n b2) d g (fun N e => V2 N (ds_u1 e x (V1 N e))) W o C := by
  obtain ⟨E2, u2, ⟨E1, u1, ⟨E0, u0, hW, e0, l0, h0⟩, e1, l1, h1⟩, e2, l2, h2⟩ := h
  have r1 : u1 = u0 := Option.some.inj (e1.symm.trans e0)
  have r2 : u2 = u0 := Option.some.inj (e2.symm.trans e0)
  rw [r1] at h1
  rw [r2] at h2
  obtain ⟨t1, t1n⟩ := cz_ad hT1
  obtain ⟨t2, t2n⟩ := cz_ad hT2
  have g1 := (lm_adv hT1).1
  refine ⟨E0, u0, hW, e0, l0, fun p0 pb bn n3 => ?_⟩
  obtain ⟨⟨a1, a2⟩, ⟨a3, a4⟩, a5, a6, a7, a8⟩ := h0 p0 (by omega) (hbn bn) n3
  obtain ⟨_, z2, z3, z4, z5⟩ := h1 (by omega)
  obtain ⟨⟨c1, c2⟩, ⟨c3, c4⟩, c5, c6, c7, c8⟩ := h2 (by omega) (by omega) t1n n3
  rw [z2] at c3 c4 c5 c8
  refine ⟨⟨by omega, t2n⟩, ⟨by omega, by omega⟩, fun i hi => ?_, fun i hi => (c6 i hi).trans ((z4 i hi).trans (a6 i hi)), fun c k1 k2 => (c7 c k1 k2).trans ((z5 c k1 k2).trans (a7 c k1 k2)), ?_⟩
  · rw [c5 i (by omega), z3]
    exact (if_neg (by omega)).trans (a5 i hi)
  · refine cc_let (cc_R a8 (fun i i0 i1 => ?_)) ?_ d0 d8 c8
    · rw [c5 i (by omega), z3]; exact if_neg (by omega)
    · rw [c5 _ (by omega), z3]; exact if_pos rfl
end CW2
