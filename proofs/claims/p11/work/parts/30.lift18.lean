-- fm_2 Land.setApart 14
def fm_2_p9 (Q : lf_Z → Prop) (X9 : Int → lf_Z → Prop) (x1 : Int) (s : lf_Z) : Prop := lf_R x1 ∧ ((12 ≤ x1 → (Q s)) ∧ (¬ (12 ≤ x1) → ((0 ≤ (x1 * 12) + x1 ∧ (x1 * 12) + x1 < 144) ∧ (X9 (x1 + 1) (lf_up s.1 14 ((x1 * 12) + x1) 0, s.2.1, s.2.2)))))
def fm_2_p9L (Q : lf_Z → Prop) (x1 : Int) (s : lf_Z) : Prop := ∀ X9 : Int → lf_Z → Prop, (∀ (x1 : Int) (s : lf_Z), fm_2_p9 Q X9 x1 s → X9 x1 s) → X9 x1 s
set_option maxRecDepth 100000 in
theorem gm_2_p9 {L : Nat} {xs : Nat → Int32} {d : Nat} {Q : lf_Z → Prop} {x1 : Int} {s : lf_Z} {X9 : Int → lf_Z → Prop} (hX9 : ∀ x1 s, X9 x1 s → lf_E (px_ro L xs) (d + 2) 2 9 [(0, .ref 14), (1, .int (Int32.ofInt x1))] [] s (lf_qv Q)) (h : fm_2_p9 Q X9 x1 s) : lf_E (px_ro L xs) (d + 2) 2 9 [(0, .ref 14), (1, .int (Int32.ofInt x1))] [] s (lf_qv Q) := by
  unfold fm_2_p9 at h
  refine lf_seg 1 (pc' := 10) (lv' := [(0, .ref 14), (1, .int (Int32.ofInt x1))]) (st' := [.int (Int32.ofInt x1)]) rfl ?_
  refine lf_bipush 12 12 rfl rfl (by decide) (by decide) ?_
  obtain ⟨o21, h⟩ := h
  refine lf_icmp_ge 30 15 rfl rfl rfl o21 ⟨by decide, by decide⟩ (fun c => ?_) (fun c => ?_)
  · have h := h.1 c
    exact lf_retV rfl rfl h
  · have h := h.2 c
    refine lf_seg 2 (pc' := 17) (lv' := [(0, .ref 14), (1, .int (Int32.ofInt x1))]) (st' := [.int (Int32.ofInt x1), .ref 14]) rfl ?_
    refine lf_bipush 19 12 rfl rfl (by decide) (by decide) ?_
    refine lf_imul 20 rfl rfl ?_
    refine lf_seg 1 (pc' := 21) (lv' := [(0, .ref 14), (1, .int (Int32.ofInt x1))]) (st' := [.int (Int32.ofInt x1), .int (Int32.ofInt (x1 * 12)), .ref 14]) rfl ?_
    refine lf_iadd 22 rfl rfl ?_
    refine lf_seg 1 (pc' := 23) (lv' := [(0, .ref 14), (1, .int (Int32.ofInt x1))]) (st' := [.int (Int32.ofInt 0), .int (Int32.ofInt ((x1 * 12) + x1)), .ref 14]) rfl ?_
    obtain ⟨o22, h⟩ := h
    refine lf_iast 24 144 rfl rfl rfl rfl rfl rfl o22 ?_
    refine lf_as (lf_up s.1 14 ((x1 * 12) + x1) 0, s.2.1, s.2.2) rfl ?_
    refine lf_iinc 27 rfl rfl rfl rfl ?_
    refine lf_seg 1 (pc' := 9) (lv' := [(1, .int (Int32.ofInt (x1 + 1))), (0, .ref 14)]) (st' := []) rfl ?_
    refine lf_sub (l := [(0, .ref 14), (1, .int (Int32.ofInt (x1 + 1)))]) (lf_sb1 rfl (lf_sb1 rfl lf_sb0)) ?_
    exact hX9 _ _ h
theorem gm_2_p9L {L : Nat} {xs : Nat → Int32} {d : Nat} {Q : lf_Z → Prop} {x1 : Int} {s : lf_Z} (h : fm_2_p9L Q x1 s) : lf_E (px_ro L xs) (d + 2) 2 9 [(0, .ref 14), (1, .int (Int32.ofInt x1))] [] s (lf_qv Q) :=
  h (fun x1 s => lf_E (px_ro L xs) (d + 2) 2 9 [(0, .ref 14), (1, .int (Int32.ofInt x1))] [] s (lf_qv Q)) (fun x1 s hb => gm_2_p9 (fun _ _ h => h) hb)
def fm_2 (Q : lf_Z → Prop) (s : lf_Z) : Prop := fm_2_p9L Q 0 (lf_fl s.1 14 144 1000, s.2.1, s.2.2)
set_option maxRecDepth 100000 in
theorem gm_2 {L : Nat} {xs : Nat → Int32} {d : Nat} {Q : lf_Z → Prop} {s : lf_Z} (h : fm_2 Q s) : lf_M (px_ro L xs) (d + 2) 2 [.ref 14] s (lf_qv Q) := by
  unfold fm_2 at h
  show lf_E (px_ro L xs) (d + 2) 2 0 [(0, .ref 14)] [] s _
  refine lf_seg 1 (pc' := 1) (lv' := [(0, .ref 14)]) (st' := [.ref 14]) rfl ?_
  refine lf_sipush 4 1000 rfl rfl (by decide) (by decide) ?_
  refine lf_callV (Q1 := fun s1 => s1 = (lf_fl s.1 14 144 1000, s.2.1, s.2.2)) 7 rfl rfl rfl rfl (lf_fill (m := 144) rfl rfl rfl rfl rfl rfl) (fun s1 hs1 => ?_)
  refine lf_as (lf_fl s.1 14 144 1000, s.2.1, s.2.2) hs1 ?_
  refine lf_seg 2 (pc' := 9) (lv' := [(1, .int (Int32.ofInt 0)), (0, .ref 14)]) (st' := []) rfl ?_
  refine lf_sub (l := [(0, .ref 14), (1, .int (Int32.ofInt 0))]) (lf_sb1 rfl (lf_sb1 rfl lf_sb0)) ?_
  exact gm_2_p9L h
-- fm_22b Land.bringNear 1 14 i i
def fm_22b_p22 (X3 : Int → lf_Z → Prop) (Q : lf_Z → Prop) (x2 : Int) (x3 : Int) (x4 : Int) (x5 : Int) (X22 : Int → lf_Z → Prop) (x6 : Int) (s : lf_Z) : Prop := lf_R x6 ∧ (lf_R (s.1 1 0) ∧ ((s.1 1 0 ≤ x6 → (X3 (x4 + 1) s)) ∧ (¬ (s.1 1 0 ≤ x6) → ((0 ≤ x5 + x2 ∧ x5 + x2 < 144) ∧ ((0 ≤ (x3 * 12) + x6 ∧ (x3 * 12) + x6 < 144) ∧ ((0 ≤ x5 + x3 ∧ x5 + x3 < 144) ∧ ((0 ≤ (x2 * 12) + x6 ∧ (x2 * 12) + x6 < 144) ∧ ((0 ≤ x5 + x6 ∧ x5 + x6 < 144) ∧ (lf_R (((s.1 14 (x5 + x2)) + 1) + (s.1 14 ((x3 * 12) + x6))) ∧ (lf_R (((s.1 14 (x5 + x3)) + 1) + (s.1 14 ((x2 * 12) + x6))) ∧ (lf_R (s.1 14 (x5 + x6)) ∧ (lf_R (min (((s.1 14 (x5 + x2)) + 1) + (s.1 14 ((x3 * 12) + x6))) (((s.1 14 (x5 + x3)) + 1) + (s.1 14 ((x2 * 12) + x6)))) ∧ (X22 (x6 + 1) (lf_up s.1 14 (x5 + x6) (min (s.1 14 (x5 + x6)) (min (((s.1 14 (x5 + x2)) + 1) + (s.1 14 ((x3 * 12) + x6))) (((s.1 14 (x5 + x3)) + 1) + (s.1 14 ((x2 * 12) + x6))))), s.2.1, s.2.2))))))))))))))
def fm_22b_p22L (X3 : Int → lf_Z → Prop) (Q : lf_Z → Prop) (x2 : Int) (x3 : Int) (x4 : Int) (x5 : Int) (x6 : Int) (s : lf_Z) : Prop := ∀ X22 : Int → lf_Z → Prop, (∀ (x6 : Int) (s : lf_Z), fm_22b_p22 X3 Q x2 x3 x4 x5 X22 x6 s → X22 x6 s) → X22 x6 s
set_option maxRecDepth 100000 in
theorem gm_22b_p22 {L : Nat} {xs : Nat → Int32} {d : Nat} {X3 : Int → lf_Z → Prop} {Q : lf_Z → Prop} {x2 : Int} {x3 : Int} {x4 : Int} {x5 : Int} {x6 : Int} {s : lf_Z} {X22 : Int → lf_Z → Prop} (hX3 : ∀ x4 s, X3 x4 s → lf_E (px_ro L xs) (d + 1) 22 3 [(0, .ref 1), (1, .ref 14), (2, .int (Int32.ofInt x2)), (3, .int (Int32.ofInt x3)), (4, .int (Int32.ofInt x4))] [] s (lf_qv Q)) (hX22 : ∀ x6 s, X22 x6 s → lf_E (px_ro L xs) (d + 1) 22 22 [(0, .ref 1), (1, .ref 14), (2, .int (Int32.ofInt x2)), (3, .int (Int32.ofInt x3)), (4, .int (Int32.ofInt x4)), (5, .int (Int32.ofInt x5)), (6, .int (Int32.ofInt x6))] [] s (lf_qv Q)) (h : fm_22b_p22 X3 Q x2 x3 x4 x5 X22 x6 s) : lf_E (px_ro L xs) (d + 1) 22 22 [(0, .ref 1), (1, .ref 14), (2, .int (Int32.ofInt x2)), (3, .int (Int32.ofInt x3)), (4, .int (Int32.ofInt x4)), (5, .int (Int32.ofInt x5)), (6, .int (Int32.ofInt x6))] [] s (lf_qv Q) := by
  unfold fm_22b_p22 at h
  refine lf_seg 2 (pc' := 25) (lv' := [(0, .ref 1), (1, .ref 14), (2, .int (Int32.ofInt x2)), (3, .int (Int32.ofInt x3)), (4, .int (Int32.ofInt x4)), (5, .int (Int32.ofInt x5)), (6, .int (Int32.ofInt x6))]) (st' := [.ref 1, .int (Int32.ofInt x6)]) rfl ?_
  refine lf_getI 28 0 rfl rfl rfl rfl rfl rfl rfl ?_
  obtain ⟨o23, h⟩ := h
  obtain ⟨o24, h⟩ := h
  refine lf_icmp_ge 101 31 rfl rfl rfl o23 o24 (fun c => ?_) (fun c => ?_)
  · have h := h.1 c
    refine lf_iinc 104 rfl rfl rfl rfl ?_
    refine lf_seg 1 (pc' := 3) (lv' := [(4, .int (Int32.ofInt (x4 + 1))), (0, .ref 1), (1, .ref 14), (2, .int (Int32.ofInt x2)), (3, .int (Int32.ofInt x3)), (5, .int (Int32.ofInt x5)), (6, .int (Int32.ofInt x6))]) (st' := []) rfl ?_
    refine lf_sub (l := [(0, .ref 1), (1, .ref 14), (2, .int (Int32.ofInt x2)), (3, .int (Int32.ofInt x3)), (4, .int (Int32.ofInt (x4 + 1)))]) (lf_sb1 rfl (lf_sb1 rfl (lf_sb1 rfl (lf_sb1 rfl (lf_sb1 rfl lf_sb0))))) ?_
    exact hX3 _ _ h
  · have h := h.2 c
    refine lf_seg 3 (pc' := 35) (lv' := [(0, .ref 1), (1, .ref 14), (2, .int (Int32.ofInt x2)), (3, .int (Int32.ofInt x3)), (4, .int (Int32.ofInt x4)), (5, .int (Int32.ofInt x5)), (6, .int (Int32.ofInt x6))]) (st' := [.int (Int32.ofInt x2), .int (Int32.ofInt x5), .ref 14]) rfl ?_
    refine lf_iadd 36 rfl rfl ?_
    obtain ⟨o25, h⟩ := h
    refine lf_iald 37 144 rfl rfl rfl rfl rfl rfl o25 ?_
    refine lf_seg 1 (pc' := 38) (lv' := [(0, .ref 1), (1, .ref 14), (2, .int (Int32.ofInt x2)), (3, .int (Int32.ofInt x3)), (4, .int (Int32.ofInt x4)), (5, .int (Int32.ofInt x5)), (6, .int (Int32.ofInt x6))]) (st' := [.int (Int32.ofInt 1), .int (Int32.ofInt (s.1 14 (x5 + x2)))]) rfl ?_
    refine lf_iadd 39 rfl rfl ?_
    refine lf_seg 2 (pc' := 41) (lv' := [(0, .ref 1), (1, .ref 14), (2, .int (Int32.ofInt x2)), (3, .int (Int32.ofInt x3)), (4, .int (Int32.ofInt x4)), (5, .int (Int32.ofInt x5)), (6, .int (Int32.ofInt x6))]) (st' := [.int (Int32.ofInt x3), .ref 14, .int (Int32.ofInt ((s.1 14 (x5 + x2)) + 1))]) rfl ?_
    refine lf_bipush 43 12 rfl rfl (by decide) (by decide) ?_
    refine lf_imul 44 rfl rfl ?_
    refine lf_seg 1 (pc' := 46) (lv' := [(0, .ref 1), (1, .ref 14), (2, .int (Int32.ofInt x2)), (3, .int (Int32.ofInt x3)), (4, .int (Int32.ofInt x4)), (5, .int (Int32.ofInt x5)), (6, .int (Int32.ofInt x6))]) (st' := [.int (Int32.ofInt x6), .int (Int32.ofInt (x3 * 12)), .ref 14, .int (Int32.ofInt ((s.1 14 (x5 + x2)) + 1))]) rfl ?_
    refine lf_iadd 47 rfl rfl ?_
    obtain ⟨o26, h⟩ := h
    refine lf_iald 48 144 rfl rfl rfl rfl rfl rfl o26 ?_
    refine lf_iadd 49 rfl rfl ?_
    refine lf_seg 4 (pc' := 55) (lv' := [(7, .int (Int32.ofInt (((s.1 14 (x5 + x2)) + 1) + (s.1 14 ((x3 * 12) + x6))))), (0, .ref 1), (1, .ref 14), (2, .int (Int32.ofInt x2)), (3, .int (Int32.ofInt x3)), (4, .int (Int32.ofInt x4)), (5, .int (Int32.ofInt x5)), (6, .int (Int32.ofInt x6))]) (st' := [.int (Int32.ofInt x3), .int (Int32.ofInt x5), .ref 14]) rfl ?_
    refine lf_iadd 56 rfl rfl ?_
    obtain ⟨o27, h⟩ := h
    refine lf_iald 57 144 rfl rfl rfl rfl rfl rfl o27 ?_
    refine lf_seg 1 (pc' := 58) (lv' := [(7, .int (Int32.ofInt (((s.1 14 (x5 + x2)) + 1) + (s.1 14 ((x3 * 12) + x6))))), (0, .ref 1), (1, .ref 14), (2, .int (Int32.ofInt x2)), (3, .int (Int32.ofInt x3)), (4, .int (Int32.ofInt x4)), (5, .int (Int32.ofInt x5)), (6, .int (Int32.ofInt x6))]) (st' := [.int (Int32.ofInt 1), .int (Int32.ofInt (s.1 14 (x5 + x3)))]) rfl ?_
    refine lf_iadd 59 rfl rfl ?_
    refine lf_seg 2 (pc' := 61) (lv' := [(7, .int (Int32.ofInt (((s.1 14 (x5 + x2)) + 1) + (s.1 14 ((x3 * 12) + x6))))), (0, .ref 1), (1, .ref 14), (2, .int (Int32.ofInt x2)), (3, .int (Int32.ofInt x3)), (4, .int (Int32.ofInt x4)), (5, .int (Int32.ofInt x5)), (6, .int (Int32.ofInt x6))]) (st' := [.int (Int32.ofInt x2), .ref 14, .int (Int32.ofInt ((s.1 14 (x5 + x3)) + 1))]) rfl ?_
    refine lf_bipush 63 12 rfl rfl (by decide) (by decide) ?_
    refine lf_imul 64 rfl rfl ?_
    refine lf_seg 1 (pc' := 66) (lv' := [(7, .int (Int32.ofInt (((s.1 14 (x5 + x2)) + 1) + (s.1 14 ((x3 * 12) + x6))))), (0, .ref 1), (1, .ref 14), (2, .int (Int32.ofInt x2)), (3, .int (Int32.ofInt x3)), (4, .int (Int32.ofInt x4)), (5, .int (Int32.ofInt x5)), (6, .int (Int32.ofInt x6))]) (st' := [.int (Int32.ofInt x6), .int (Int32.ofInt (x2 * 12)), .ref 14, .int (Int32.ofInt ((s.1 14 (x5 + x3)) + 1))]) rfl ?_
    refine lf_iadd 67 rfl rfl ?_
    obtain ⟨o28, h⟩ := h
    refine lf_iald 68 144 rfl rfl rfl rfl rfl rfl o28 ?_
    refine lf_iadd 69 rfl rfl ?_
    refine lf_seg 4 (pc' := 76) (lv' := [(8, .int (Int32.ofInt (((s.1 14 (x5 + x3)) + 1) + (s.1 14 ((x2 * 12) + x6))))), (7, .int (Int32.ofInt (((s.1 14 (x5 + x2)) + 1) + (s.1 14 ((x3 * 12) + x6))))), (0, .ref 1), (1, .ref 14), (2, .int (Int32.ofInt x2)), (3, .int (Int32.ofInt x3)), (4, .int (Int32.ofInt x4)), (5, .int (Int32.ofInt x5)), (6, .int (Int32.ofInt x6))]) (st' := [.int (Int32.ofInt x6), .int (Int32.ofInt x5), .ref 14]) rfl ?_
    refine lf_iadd 77 rfl rfl ?_
    refine lf_seg 3 (pc' := 82) (lv' := [(8, .int (Int32.ofInt (((s.1 14 (x5 + x3)) + 1) + (s.1 14 ((x2 * 12) + x6))))), (7, .int (Int32.ofInt (((s.1 14 (x5 + x2)) + 1) + (s.1 14 ((x3 * 12) + x6))))), (0, .ref 1), (1, .ref 14), (2, .int (Int32.ofInt x2)), (3, .int (Int32.ofInt x3)), (4, .int (Int32.ofInt x4)), (5, .int (Int32.ofInt x5)), (6, .int (Int32.ofInt x6))]) (st' := [.int (Int32.ofInt x6), .int (Int32.ofInt x5), .ref 14, .int (Int32.ofInt (x5 + x6)), .ref 14]) rfl ?_
    refine lf_iadd 83 rfl rfl ?_
    obtain ⟨o29, h⟩ := h
    refine lf_iald 84 144 rfl rfl rfl rfl rfl rfl o29 ?_
    refine lf_seg 2 (pc' := 88) (lv' := [(8, .int (Int32.ofInt (((s.1 14 (x5 + x3)) + 1) + (s.1 14 ((x2 * 12) + x6))))), (7, .int (Int32.ofInt (((s.1 14 (x5 + x2)) + 1) + (s.1 14 ((x3 * 12) + x6))))), (0, .ref 1), (1, .ref 14), (2, .int (Int32.ofInt x2)), (3, .int (Int32.ofInt x3)), (4, .int (Int32.ofInt x4)), (5, .int (Int32.ofInt x5)), (6, .int (Int32.ofInt x6))]) (st' := [.int (Int32.ofInt (((s.1 14 (x5 + x3)) + 1) + (s.1 14 ((x2 * 12) + x6)))), .int (Int32.ofInt (((s.1 14 (x5 + x2)) + 1) + (s.1 14 ((x3 * 12) + x6)))), .int (Int32.ofInt (s.1 14 (x5 + x6))), .int (Int32.ofInt (x5 + x6)), .ref 14]) rfl ?_
    obtain ⟨o30, h⟩ := h
    obtain ⟨o31, h⟩ := h
    refine lf_imin 91 rfl rfl rfl rfl o30 o31 ?_
    obtain ⟨o32, h⟩ := h
    obtain ⟨o33, h⟩ := h
    refine lf_imin 94 rfl rfl rfl rfl o32 o33 ?_
    refine lf_iast 95 144 rfl rfl rfl rfl rfl rfl o29 ?_
    refine lf_as (lf_up s.1 14 (x5 + x6) (min (s.1 14 (x5 + x6)) (min (((s.1 14 (x5 + x2)) + 1) + (s.1 14 ((x3 * 12) + x6))) (((s.1 14 (x5 + x3)) + 1) + (s.1 14 ((x2 * 12) + x6))))), s.2.1, s.2.2) rfl ?_
    refine lf_iinc 98 rfl rfl rfl rfl ?_
    refine lf_seg 1 (pc' := 22) (lv' := [(6, .int (Int32.ofInt (x6 + 1))), (8, .int (Int32.ofInt (((s.1 14 (x5 + x3)) + 1) + (s.1 14 ((x2 * 12) + x6))))), (7, .int (Int32.ofInt (((s.1 14 (x5 + x2)) + 1) + (s.1 14 ((x3 * 12) + x6))))), (0, .ref 1), (1, .ref 14), (2, .int (Int32.ofInt x2)), (3, .int (Int32.ofInt x3)), (4, .int (Int32.ofInt x4)), (5, .int (Int32.ofInt x5))]) (st' := []) rfl ?_
    refine lf_sub (l := [(0, .ref 1), (1, .ref 14), (2, .int (Int32.ofInt x2)), (3, .int (Int32.ofInt x3)), (4, .int (Int32.ofInt x4)), (5, .int (Int32.ofInt x5)), (6, .int (Int32.ofInt (x6 + 1)))]) (lf_sb1 rfl (lf_sb1 rfl (lf_sb1 rfl (lf_sb1 rfl (lf_sb1 rfl (lf_sb1 rfl (lf_sb1 rfl lf_sb0))))))) ?_
    exact hX22 _ _ h
theorem gm_22b_p22L {L : Nat} {xs : Nat → Int32} {d : Nat} {X3 : Int → lf_Z → Prop} {Q : lf_Z → Prop} {x2 : Int} {x3 : Int} {x4 : Int} {x5 : Int} {x6 : Int} {s : lf_Z} (hX3 : ∀ x4 s, X3 x4 s → lf_E (px_ro L xs) (d + 1) 22 3 [(0, .ref 1), (1, .ref 14), (2, .int (Int32.ofInt x2)), (3, .int (Int32.ofInt x3)), (4, .int (Int32.ofInt x4))] [] s (lf_qv Q)) (h : fm_22b_p22L X3 Q x2 x3 x4 x5 x6 s) : lf_E (px_ro L xs) (d + 1) 22 22 [(0, .ref 1), (1, .ref 14), (2, .int (Int32.ofInt x2)), (3, .int (Int32.ofInt x3)), (4, .int (Int32.ofInt x4)), (5, .int (Int32.ofInt x5)), (6, .int (Int32.ofInt x6))] [] s (lf_qv Q) :=
  h (fun x6 s => lf_E (px_ro L xs) (d + 1) 22 22 [(0, .ref 1), (1, .ref 14), (2, .int (Int32.ofInt x2)), (3, .int (Int32.ofInt x3)), (4, .int (Int32.ofInt x4)), (5, .int (Int32.ofInt x5)), (6, .int (Int32.ofInt x6))] [] s (lf_qv Q)) (fun x6 s hb => gm_22b_p22 hX3 (fun _ _ h => h) hb)
def fm_22b_p3 (Q : lf_Z → Prop) (x2 : Int) (x3 : Int) (X3 : Int → lf_Z → Prop) (x4 : Int) (s : lf_Z) : Prop := lf_R x4 ∧ (lf_R (s.1 1 0) ∧ ((s.1 1 0 ≤ x4 → (Q s)) ∧ (¬ (s.1 1 0 ≤ x4) → (fm_22b_p22L X3 Q x2 x3 x4 (x4 * 12) 0 s))))
def fm_22b_p3L (Q : lf_Z → Prop) (x2 : Int) (x3 : Int) (x4 : Int) (s : lf_Z) : Prop := ∀ X3 : Int → lf_Z → Prop, (∀ (x4 : Int) (s : lf_Z), fm_22b_p3 Q x2 x3 X3 x4 s → X3 x4 s) → X3 x4 s
set_option maxRecDepth 100000 in
theorem gm_22b_p3 {L : Nat} {xs : Nat → Int32} {d : Nat} {Q : lf_Z → Prop} {x2 : Int} {x3 : Int} {x4 : Int} {s : lf_Z} {X3 : Int → lf_Z → Prop} (hX3 : ∀ x4 s, X3 x4 s → lf_E (px_ro L xs) (d + 1) 22 3 [(0, .ref 1), (1, .ref 14), (2, .int (Int32.ofInt x2)), (3, .int (Int32.ofInt x3)), (4, .int (Int32.ofInt x4))] [] s (lf_qv Q)) (h : fm_22b_p3 Q x2 x3 X3 x4 s) : lf_E (px_ro L xs) (d + 1) 22 3 [(0, .ref 1), (1, .ref 14), (2, .int (Int32.ofInt x2)), (3, .int (Int32.ofInt x3)), (4, .int (Int32.ofInt x4))] [] s (lf_qv Q) := by
  unfold fm_22b_p3 at h
  refine lf_seg 2 (pc' := 6) (lv' := [(0, .ref 1), (1, .ref 14), (2, .int (Int32.ofInt x2)), (3, .int (Int32.ofInt x3)), (4, .int (Int32.ofInt x4))]) (st' := [.ref 1, .int (Int32.ofInt x4)]) rfl ?_
  refine lf_getI 9 0 rfl rfl rfl rfl rfl rfl rfl ?_
  obtain ⟨o21, h⟩ := h
  obtain ⟨o22, h⟩ := h
  refine lf_icmp_ge 107 12 rfl rfl rfl o21 o22 (fun c => ?_) (fun c => ?_)
  · have h := h.1 c
    exact lf_retV rfl rfl h
  · have h := h.2 c
    refine lf_seg 1 (pc' := 14) (lv' := [(0, .ref 1), (1, .ref 14), (2, .int (Int32.ofInt x2)), (3, .int (Int32.ofInt x3)), (4, .int (Int32.ofInt x4))]) (st' := [.int (Int32.ofInt x4)]) rfl ?_
    refine lf_bipush 16 12 rfl rfl (by decide) (by decide) ?_
    refine lf_imul 17 rfl rfl ?_
    refine lf_seg 3 (pc' := 22) (lv' := [(6, .int (Int32.ofInt 0)), (5, .int (Int32.ofInt (x4 * 12))), (0, .ref 1), (1, .ref 14), (2, .int (Int32.ofInt x2)), (3, .int (Int32.ofInt x3)), (4, .int (Int32.ofInt x4))]) (st' := []) rfl ?_
    refine lf_sub (l := [(0, .ref 1), (1, .ref 14), (2, .int (Int32.ofInt x2)), (3, .int (Int32.ofInt x3)), (4, .int (Int32.ofInt x4)), (5, .int (Int32.ofInt (x4 * 12))), (6, .int (Int32.ofInt 0))]) (lf_sb1 rfl (lf_sb1 rfl (lf_sb1 rfl (lf_sb1 rfl (lf_sb1 rfl (lf_sb1 rfl (lf_sb1 rfl lf_sb0))))))) ?_
    exact gm_22b_p22L hX3 h
theorem gm_22b_p3L {L : Nat} {xs : Nat → Int32} {d : Nat} {Q : lf_Z → Prop} {x2 : Int} {x3 : Int} {x4 : Int} {s : lf_Z} (h : fm_22b_p3L Q x2 x3 x4 s) : lf_E (px_ro L xs) (d + 1) 22 3 [(0, .ref 1), (1, .ref 14), (2, .int (Int32.ofInt x2)), (3, .int (Int32.ofInt x3)), (4, .int (Int32.ofInt x4))] [] s (lf_qv Q) :=
  h (fun x4 s => lf_E (px_ro L xs) (d + 1) 22 3 [(0, .ref 1), (1, .ref 14), (2, .int (Int32.ofInt x2)), (3, .int (Int32.ofInt x3)), (4, .int (Int32.ofInt x4))] [] s (lf_qv Q)) (fun x4 s hb => gm_22b_p3 (fun _ _ h => h) hb)
def fm_22b (a2 : Int) (a3 : Int) (Q : lf_Z → Prop) (s : lf_Z) : Prop := fm_22b_p3L Q a2 a3 0 s
set_option maxRecDepth 100000 in
theorem gm_22b {L : Nat} {xs : Nat → Int32} {d : Nat} {a2 : Int} {a3 : Int} {Q : lf_Z → Prop} {s : lf_Z} (h : fm_22b a2 a3 Q s) : lf_M (px_ro L xs) (d + 1) 22 [.ref 1, .ref 14, .int (Int32.ofInt a2), .int (Int32.ofInt a3)] s (lf_qv Q) := by
  unfold fm_22b at h
  show lf_E (px_ro L xs) (d + 1) 22 0 [(0, .ref 1), (1, .ref 14), (2, .int (Int32.ofInt a2)), (3, .int (Int32.ofInt a3))] [] s _
  refine lf_seg 2 (pc' := 3) (lv' := [(4, .int (Int32.ofInt 0)), (0, .ref 1), (1, .ref 14), (2, .int (Int32.ofInt a2)), (3, .int (Int32.ofInt a3))]) (st' := []) rfl ?_
  refine lf_sub (l := [(0, .ref 1), (1, .ref 14), (2, .int (Int32.ofInt a2)), (3, .int (Int32.ofInt a3)), (4, .int (Int32.ofInt 0))]) (lf_sb1 rfl (lf_sb1 rfl (lf_sb1 rfl (lf_sb1 rfl (lf_sb1 rfl lf_sb0))))) ?_
  exact gm_22b_p3L h
-- fm_148 Land.measureGates 1
def fm_148_p46 (X9 : Int → lf_Z → Prop) (Q : lf_Z → Prop) (x1 : Int) (s : lf_Z) : Prop := X9 (x1 + 1) s
set_option maxRecDepth 100000 in
theorem gm_148_p46 {L : Nat} {xs : Nat → Int32} {d : Nat} {X9 : Int → lf_Z → Prop} {Q : lf_Z → Prop} {x1 : Int} {s : lf_Z} (hX9 : ∀ x1 s, X9 x1 s → lf_E (px_ro L xs) (d + 3) 148 9 [(0, .ref 1), (1, .int (Int32.ofInt x1))] [] s (lf_qv Q)) (h : fm_148_p46 X9 Q x1 s) : lf_E (px_ro L xs) (d + 3) 148 46 [(0, .ref 1), (1, .int (Int32.ofInt x1))] [] s (lf_qv Q) := by
  unfold fm_148_p46 at h
  refine lf_iinc 49 rfl rfl rfl rfl ?_
  refine lf_seg 1 (pc' := 9) (lv' := [(1, .int (Int32.ofInt (x1 + 1))), (0, .ref 1)]) (st' := []) rfl ?_
  refine lf_sub (l := [(0, .ref 1), (1, .int (Int32.ofInt (x1 + 1)))]) (lf_sb1 rfl (lf_sb1 rfl lf_sb0)) ?_
  exact hX9 _ _ h
def fm_148_p9 (Q : lf_Z → Prop) (X9 : Int → lf_Z → Prop) (x1 : Int) (s : lf_Z) : Prop := lf_R x1 ∧ (lf_R (s.1 1 1) ∧ ((s.1 1 1 ≤ x1 → (Q s)) ∧ (¬ (s.1 1 1 ≤ x1) → ((0 ≤ x1 ∧ x1 < 16) ∧ (lf_R (s.1 6 x1) ∧ ((s.1 6 x1 ≠ 0 → (fm_148_p46 X9 Q x1 s)) ∧ (¬ (s.1 6 x1 ≠ 0) → (fm_22b (s.1 4 x1) (s.1 5 x1) (fun s26 => (fm_148_p46 X9 Q x1 s26)) s))))))))
def fm_148_p9L (Q : lf_Z → Prop) (x1 : Int) (s : lf_Z) : Prop := ∀ X9 : Int → lf_Z → Prop, (∀ (x1 : Int) (s : lf_Z), fm_148_p9 Q X9 x1 s → X9 x1 s) → X9 x1 s
set_option maxRecDepth 100000 in
theorem gm_148_p9 {L : Nat} {xs : Nat → Int32} {d : Nat} {Q : lf_Z → Prop} {x1 : Int} {s : lf_Z} {X9 : Int → lf_Z → Prop} (hX9 : ∀ x1 s, X9 x1 s → lf_E (px_ro L xs) (d + 3) 148 9 [(0, .ref 1), (1, .int (Int32.ofInt x1))] [] s (lf_qv Q)) (h : fm_148_p9 Q X9 x1 s) : lf_E (px_ro L xs) (d + 3) 148 9 [(0, .ref 1), (1, .int (Int32.ofInt x1))] [] s (lf_qv Q) := by
  unfold fm_148_p9 at h
  refine lf_seg 2 (pc' := 11) (lv' := [(0, .ref 1), (1, .int (Int32.ofInt x1))]) (st' := [.ref 1, .int (Int32.ofInt x1)]) rfl ?_
  refine lf_getI 14 1 rfl rfl rfl rfl rfl rfl rfl ?_
  obtain ⟨o22, h⟩ := h
  obtain ⟨o23, h⟩ := h
  refine lf_icmp_ge 52 17 rfl rfl rfl o22 o23 (fun c => ?_) (fun c => ?_)
  · have h := h.1 c
    exact lf_retV rfl rfl h
  · have h := h.2 c
    refine lf_seg 3 (pc' := 22) (lv' := [(0, .ref 1), (1, .int (Int32.ofInt x1))]) (st' := [.int (Int32.ofInt x1), .ref 6]) rfl ?_
    obtain ⟨o24, h⟩ := h
    refine lf_zald 23 16 rfl rfl rfl rfl rfl rfl o24 ?_
    obtain ⟨o25, h⟩ := h
    refine lf_if_ne 46 26 rfl rfl rfl o25 (fun c => ?_) (fun c => ?_)
    · have h := h.1 c
      refine lf_sub (l := [(0, .ref 1), (1, .int (Int32.ofInt x1))]) (lf_sb1 rfl (lf_sb1 rfl lf_sb0)) ?_
      exact gm_148_p46 hX9 h
    · have h := h.2 c
      refine lf_seg 6 (pc' := 36) (lv' := [(0, .ref 1), (1, .int (Int32.ofInt x1))]) (st' := [.int (Int32.ofInt x1), .ref 4, .ref 14, .ref 1]) rfl ?_
      refine lf_iald 37 16 rfl rfl rfl rfl rfl rfl o24 ?_
      refine lf_seg 3 (pc' := 42) (lv' := [(0, .ref 1), (1, .int (Int32.ofInt x1))]) (st' := [.int (Int32.ofInt x1), .ref 5, .int (Int32.ofInt (s.1 4 x1)), .ref 14, .ref 1]) rfl ?_
      refine lf_iald 43 16 rfl rfl rfl rfl rfl rfl o24 ?_
      refine lf_callV 46 rfl rfl rfl rfl (gm_22b h) (fun s26 h => ?_)
      refine lf_sub (l := [(0, .ref 1), (1, .int (Int32.ofInt x1))]) (lf_sb1 rfl (lf_sb1 rfl lf_sb0)) ?_
      exact gm_148_p46 hX9 h
theorem gm_148_p9L {L : Nat} {xs : Nat → Int32} {d : Nat} {Q : lf_Z → Prop} {x1 : Int} {s : lf_Z} (h : fm_148_p9L Q x1 s) : lf_E (px_ro L xs) (d + 3) 148 9 [(0, .ref 1), (1, .int (Int32.ofInt x1))] [] s (lf_qv Q) :=
  h (fun x1 s => lf_E (px_ro L xs) (d + 3) 148 9 [(0, .ref 1), (1, .int (Int32.ofInt x1))] [] s (lf_qv Q)) (fun x1 s hb => gm_148_p9 (fun _ _ h => h) hb)
def fm_148 (Q : lf_Z → Prop) (s : lf_Z) : Prop := fm_2 (fun s21 => (fm_148_p9L Q 0 s21)) s
set_option maxRecDepth 100000 in
theorem gm_148 {L : Nat} {xs : Nat → Int32} {d : Nat} {Q : lf_Z → Prop} {s : lf_Z} (h : fm_148 Q s) : lf_M (px_ro L xs) (d + 3) 148 [.ref 1] s (lf_qv Q) := by
  unfold fm_148 at h
  show lf_E (px_ro L xs) (d + 3) 148 0 [(0, .ref 1)] [] s _
  refine lf_seg 2 (pc' := 4) (lv' := [(0, .ref 1)]) (st' := [.ref 14]) rfl ?_
  refine lf_callV 7 rfl rfl rfl rfl (gm_2 h) (fun s21 h => ?_)
  refine lf_seg 2 (pc' := 9) (lv' := [(1, .int (Int32.ofInt 0)), (0, .ref 1)]) (st' := []) rfl ?_
  refine lf_sub (l := [(0, .ref 1), (1, .int (Int32.ofInt 0))]) (lf_sb1 rfl (lf_sb1 rfl lf_sb0)) ?_
  exact gm_148_p9L h
-- fm_149 Land.outsideOf 1 i
def fm_149_p51 (Q : Int → lf_Z → Prop) (x1 : Int) (x2 : Int) (y0 : Int) (s : lf_Z) : Prop := lf_R x2 ∧ (lf_R y0 ∧ ((x2 ≠ y0 → ((x2 = 0 → ((0 ≤ x1 ∧ x1 < 16) ∧ (Q (s.1 4 x1) s))) ∧ (¬ (x2 = 0) → ((0 ≤ x1 ∧ x1 < 16) ∧ (Q (s.1 5 x1) s))))) ∧ (¬ (x2 ≠ y0) → (Q (-1) s))))
set_option maxRecDepth 100000 in
theorem gm_149_p51 {L : Nat} {xs : Nat → Int32} {d : Nat} {Q : Int → lf_Z → Prop} {x1 : Int} {x2 : Int} {y0 : Int} {s : lf_Z} (h : fm_149_p51 Q x1 x2 y0 s) : lf_E (px_ro L xs) (d + 2) 149 51 [(0, .ref 1), (1, .int (Int32.ofInt x1)), (2, .int (Int32.ofInt x2))] [.int (Int32.ofInt y0)] s (lf_qi Q) := by
  unfold fm_149_p51 at h
  refine lf_seg 3 (pc' := 54) (lv' := [(3, .int (Int32.ofInt y0)), (0, .ref 1), (1, .int (Int32.ofInt x1)), (2, .int (Int32.ofInt x2))]) (st' := [.int (Int32.ofInt y0), .int (Int32.ofInt x2)]) rfl ?_
  obtain ⟨o29, h⟩ := h
  obtain ⟨o30, h⟩ := h
  refine lf_icmp_ne 59 57 rfl rfl rfl o29 o30 (fun c => ?_) (fun c => ?_)
  · have h := h.1 c
    refine lf_seg 1 (pc' := 60) (lv' := [(3, .int (Int32.ofInt y0)), (0, .ref 1), (1, .int (Int32.ofInt x1)), (2, .int (Int32.ofInt x2))]) (st' := [.int (Int32.ofInt x2)]) rfl ?_
    refine lf_if_eq 72 63 rfl rfl rfl o29 (fun c => ?_) (fun c => ?_)
    · have h := h.1 c
      refine lf_seg 3 (pc' := 77) (lv' := [(3, .int (Int32.ofInt y0)), (0, .ref 1), (1, .int (Int32.ofInt x1)), (2, .int (Int32.ofInt x2))]) (st' := [.int (Int32.ofInt x1), .ref 4]) rfl ?_
      obtain ⟨o31, h⟩ := h
      refine lf_iald 78 16 rfl rfl rfl rfl rfl rfl o31 ?_
      exact lf_retI rfl rfl h
    · have h := h.2 c
      refine lf_seg 3 (pc' := 68) (lv' := [(3, .int (Int32.ofInt y0)), (0, .ref 1), (1, .int (Int32.ofInt x1)), (2, .int (Int32.ofInt x2))]) (st' := [.int (Int32.ofInt x1), .ref 5]) rfl ?_
      obtain ⟨o32, h⟩ := h
      refine lf_iald 69 16 rfl rfl rfl rfl rfl rfl o32 ?_
      refine lf_seg 1 (pc' := 78) (lv' := [(3, .int (Int32.ofInt y0)), (0, .ref 1), (1, .int (Int32.ofInt x1)), (2, .int (Int32.ofInt x2))]) (st' := [.int (Int32.ofInt (s.1 5 x1))]) rfl ?_
      exact lf_retI rfl rfl h
  · have h := h.2 c
    refine lf_seg 1 (pc' := 58) (lv' := [(3, .int (Int32.ofInt y0)), (0, .ref 1), (1, .int (Int32.ofInt x1)), (2, .int (Int32.ofInt x2))]) (st' := [.int (Int32.ofInt (-1))]) rfl ?_
    exact lf_retI rfl rfl h
def fm_149_p30 (Q : Int → lf_Z → Prop) (x1 : Int) (y0 : Int) (s : lf_Z) : Prop := (0 ≤ x1 ∧ x1 < 16) ∧ ((0 ≤ s.1 5 x1 ∧ s.1 5 x1 < 12) ∧ (lf_R (s.1 2 (s.1 5 x1)) ∧ ((s.1 2 (s.1 5 x1) ≠ 3 → (fm_149_p51 Q x1 y0 0 s)) ∧ (¬ (s.1 2 (s.1 5 x1) ≠ 3) → (fm_149_p51 Q x1 y0 1 s)))))
set_option maxRecDepth 100000 in
theorem gm_149_p30 {L : Nat} {xs : Nat → Int32} {d : Nat} {Q : Int → lf_Z → Prop} {x1 : Int} {y0 : Int} {s : lf_Z} (h : fm_149_p30 Q x1 y0 s) : lf_E (px_ro L xs) (d + 2) 149 30 [(0, .ref 1), (1, .int (Int32.ofInt x1))] [.int (Int32.ofInt y0)] s (lf_qi Q) := by
  unfold fm_149_p30 at h
  refine lf_seg 6 (pc' := 40) (lv' := [(2, .int (Int32.ofInt y0)), (0, .ref 1), (1, .int (Int32.ofInt x1))]) (st' := [.int (Int32.ofInt x1), .ref 5, .ref 2]) rfl ?_
  obtain ⟨o26, h⟩ := h
  refine lf_iald 41 16 rfl rfl rfl rfl rfl rfl o26 ?_
  obtain ⟨o27, h⟩ := h
  refine lf_iald 42 12 rfl rfl rfl rfl rfl rfl o27 ?_
  refine lf_seg 1 (pc' := 43) (lv' := [(2, .int (Int32.ofInt y0)), (0, .ref 1), (1, .int (Int32.ofInt x1))]) (st' := [.int (Int32.ofInt 3), .int (Int32.ofInt (s.1 2 (s.1 5 x1)))]) rfl ?_
  obtain ⟨o28, h⟩ := h
  refine lf_icmp_ne 50 46 rfl rfl rfl o28 ⟨by decide, by decide⟩ (fun c => ?_) (fun c => ?_)
  · have h := h.1 c
    refine lf_seg 1 (pc' := 51) (lv' := [(2, .int (Int32.ofInt y0)), (0, .ref 1), (1, .int (Int32.ofInt x1))]) (st' := [.int (Int32.ofInt 0)]) rfl ?_
    refine lf_sub (l := [(0, .ref 1), (1, .int (Int32.ofInt x1)), (2, .int (Int32.ofInt y0))]) (lf_sb1 rfl (lf_sb1 rfl (lf_sb1 rfl lf_sb0))) ?_
    exact gm_149_p51 h
  · have h := h.2 c
    refine lf_seg 2 (pc' := 51) (lv' := [(2, .int (Int32.ofInt y0)), (0, .ref 1), (1, .int (Int32.ofInt x1))]) (st' := [.int (Int32.ofInt 1)]) rfl ?_
    refine lf_sub (l := [(0, .ref 1), (1, .int (Int32.ofInt x1)), (2, .int (Int32.ofInt y0))]) (lf_sb1 rfl (lf_sb1 rfl (lf_sb1 rfl lf_sb0))) ?_
    exact gm_149_p51 h
def fm_149 (a1 : Int) (Q : Int → lf_Z → Prop) (s : lf_Z) : Prop := fm_89 a1 (fun z22 s21 => ((z22 = true → ((0 ≤ a1 ∧ a1 < 16) ∧ ((0 ≤ s21.1 4 a1 ∧ s21.1 4 a1 < 12) ∧ (lf_R (s21.1 2 (s21.1 4 a1)) ∧ ((s21.1 2 (s21.1 4 a1) ≠ 3 → (fm_149_p30 Q a1 0 s21)) ∧ (¬ (s21.1 2 (s21.1 4 a1) ≠ 3) → (fm_149_p30 Q a1 1 s21))))))) ∧ (z22 = false → (Q (-1) s21)))) s
set_option maxRecDepth 100000 in
theorem gm_149 {L : Nat} {xs : Nat → Int32} {d : Nat} {a1 : Int} {Q : Int → lf_Z → Prop} {s : lf_Z} (h : fm_149 a1 Q s) : lf_M (px_ro L xs) (d + 2) 149 [.ref 1, .int (Int32.ofInt a1)] s (lf_qi Q) := by
  unfold fm_149 at h
  show lf_E (px_ro L xs) (d + 2) 149 0 [(0, .ref 1), (1, .int (Int32.ofInt a1))] [] s _
  refine lf_seg 2 (pc' := 2) (lv' := [(0, .ref 1), (1, .int (Int32.ofInt a1))]) (st' := [.int (Int32.ofInt a1), .ref 1]) rfl ?_
  refine lf_callZ 5 rfl rfl rfl rfl (gm_89 h) (fun z22 s21 h => ?_)
  refine lf_ifz_ne 10 8 rfl rfl rfl (fun c => ?_) (fun c => ?_)
  · have h := h.1 c
    refine lf_seg 5 (pc' := 19) (lv' := [(0, .ref 1), (1, .int (Int32.ofInt a1))]) (st' := [.int (Int32.ofInt a1), .ref 4, .ref 2]) rfl ?_
    obtain ⟨o23, h⟩ := h
    refine lf_iald 20 16 rfl rfl rfl rfl rfl rfl o23 ?_
    obtain ⟨o24, h⟩ := h
    refine lf_iald 21 12 rfl rfl rfl rfl rfl rfl o24 ?_
    refine lf_seg 1 (pc' := 22) (lv' := [(0, .ref 1), (1, .int (Int32.ofInt a1))]) (st' := [.int (Int32.ofInt 3), .int (Int32.ofInt (s21.1 2 (s21.1 4 a1)))]) rfl ?_
    obtain ⟨o25, h⟩ := h
    refine lf_icmp_ne 29 25 rfl rfl rfl o25 ⟨by decide, by decide⟩ (fun c => ?_) (fun c => ?_)
    · have h := h.1 c
      refine lf_seg 1 (pc' := 30) (lv' := [(0, .ref 1), (1, .int (Int32.ofInt a1))]) (st' := [.int (Int32.ofInt 0)]) rfl ?_
      refine lf_sub (l := [(0, .ref 1), (1, .int (Int32.ofInt a1))]) (lf_sb1 rfl (lf_sb1 rfl lf_sb0)) ?_
      exact gm_149_p30 h
    · have h := h.2 c
      refine lf_seg 2 (pc' := 30) (lv' := [(0, .ref 1), (1, .int (Int32.ofInt a1))]) (st' := [.int (Int32.ofInt 1)]) rfl ?_
      refine lf_sub (l := [(0, .ref 1), (1, .int (Int32.ofInt a1))]) (lf_sb1 rfl (lf_sb1 rfl lf_sb0)) ?_
      exact gm_149_p30 h
  · have h := h.2 c
    refine lf_seg 1 (pc' := 9) (lv' := [(0, .ref 1), (1, .int (Int32.ofInt a1))]) (st' := [.int (Int32.ofInt (-1))]) rfl ?_
    exact lf_retI rfl rfl h
-- fm_151 Land.distanceByGates 1 i i
def fm_151 (a1 : Int) (a2 : Int) (Q : Int → lf_Z → Prop) (s : lf_Z) : Prop := fm_18 a1 (fun z22 s21 => ((z22 = false → (Q 1000 s21)) ∧ (z22 = true → (fm_18 a2 (fun z24 s23 => ((z24 = false → (Q 1000 s23)) ∧ (z24 = true → ((0 ≤ (a1 * 12) + a2 ∧ (a1 * 12) + a2 < 144) ∧ (Q (s23.1 14 ((a1 * 12) + a2)) s23))))) s21)))) s
set_option maxRecDepth 100000 in
theorem gm_151 {L : Nat} {xs : Nat → Int32} {d : Nat} {a1 : Int} {a2 : Int} {Q : Int → lf_Z → Prop} {s : lf_Z} (h : fm_151 a1 a2 Q s) : lf_M (px_ro L xs) (d + 2) 151 [.ref 1, .int (Int32.ofInt a1), .int (Int32.ofInt a2)] s (lf_qi Q) := by
  unfold fm_151 at h
  show lf_E (px_ro L xs) (d + 2) 151 0 [(0, .ref 1), (1, .int (Int32.ofInt a1)), (2, .int (Int32.ofInt a2))] [] s _
  refine lf_seg 2 (pc' := 2) (lv' := [(0, .ref 1), (1, .int (Int32.ofInt a1)), (2, .int (Int32.ofInt a2))]) (st' := [.int (Int32.ofInt a1), .ref 1]) rfl ?_
  refine lf_callZ 5 rfl rfl rfl rfl (gm_18 h) (fun z22 s21 h => ?_)
  refine lf_ifz_eq 30 8 rfl rfl rfl (fun c => ?_) (fun c => ?_)
  · have h := h.1 c
    refine lf_sipush 33 1000 rfl rfl (by decide) (by decide) ?_
    exact lf_retI rfl rfl h
  · have h := h.2 c
    refine lf_seg 2 (pc' := 10) (lv' := [(0, .ref 1), (1, .int (Int32.ofInt a1)), (2, .int (Int32.ofInt a2))]) (st' := [.int (Int32.ofInt a2), .ref 1]) rfl ?_
    refine lf_callZ 13 rfl rfl rfl rfl (gm_18 h) (fun z24 s23 h => ?_)
    refine lf_ifz_eq 30 16 rfl rfl rfl (fun c => ?_) (fun c => ?_)
    · have h := h.1 c
      refine lf_sipush 33 1000 rfl rfl (by decide) (by decide) ?_
      exact lf_retI rfl rfl h
    · have h := h.2 c
      refine lf_seg 3 (pc' := 21) (lv' := [(0, .ref 1), (1, .int (Int32.ofInt a1)), (2, .int (Int32.ofInt a2))]) (st' := [.int (Int32.ofInt a1), .ref 14]) rfl ?_
      refine lf_bipush 23 12 rfl rfl (by decide) (by decide) ?_
      refine lf_imul 24 rfl rfl ?_
      refine lf_seg 1 (pc' := 25) (lv' := [(0, .ref 1), (1, .int (Int32.ofInt a1)), (2, .int (Int32.ofInt a2))]) (st' := [.int (Int32.ofInt a2), .int (Int32.ofInt (a1 * 12)), .ref 14]) rfl ?_
      refine lf_iadd 26 rfl rfl ?_
      obtain ⟨o25, h⟩ := h
      refine lf_iald 27 144 rfl rfl rfl rfl rfl rfl o25 ?_
      refine lf_seg 1 (pc' := 33) (lv' := [(0, .ref 1), (1, .int (Int32.ofInt a1)), (2, .int (Int32.ofInt a2))]) (st' := [.int (Int32.ofInt (s23.1 14 ((a1 * 12) + a2)))]) rfl ?_
      exact lf_retI rfl rfl h
-- fm_150 Notes.couldAllBeFrom 25 i 1
def fm_150_p2 (Q : Bool → lf_Z → Prop) (x1 : Int) (X2 : Int → lf_Z → Prop) (x3 : Int) (s : lf_Z) : Prop := lf_R x3 ∧ (lf_R (s.1 25 2) ∧ ((s.1 25 2 ≤ x3 → (Q true s)) ∧ (¬ (s.1 25 2 ≤ x3) → ((0 ≤ x3 ∧ x3 < 6) ∧ (fm_151 x1 (s.1 26 x3) (fun r25 s24 => (lf_R r25 ∧ (lf_R (s24.1 27 x3) ∧ ((r25 ≤ s24.1 27 x3 → (X2 (x3 + 1) s24)) ∧ (¬ (r25 ≤ s24.1 27 x3) → (Q false s24)))))) s)))))
def fm_150_p2L (Q : Bool → lf_Z → Prop) (x1 : Int) (x3 : Int) (s : lf_Z) : Prop := ∀ X2 : Int → lf_Z → Prop, (∀ (x3 : Int) (s : lf_Z), fm_150_p2 Q x1 X2 x3 s → X2 x3 s) → X2 x3 s
set_option maxRecDepth 100000 in
theorem gm_150_p2 {L : Nat} {xs : Nat → Int32} {d : Nat} {Q : Bool → lf_Z → Prop} {x1 : Int} {x3 : Int} {s : lf_Z} {X2 : Int → lf_Z → Prop} (hX2 : ∀ x3 s, X2 x3 s → lf_E (px_ro L xs) (d + 3) 150 2 [(0, .ref 25), (1, .int (Int32.ofInt x1)), (2, .ref 1), (3, .int (Int32.ofInt x3))] [] s (lf_qz Q)) (h : fm_150_p2 Q x1 X2 x3 s) : lf_E (px_ro L xs) (d + 3) 150 2 [(0, .ref 25), (1, .int (Int32.ofInt x1)), (2, .ref 1), (3, .int (Int32.ofInt x3))] [] s (lf_qz Q) := by
  unfold fm_150_p2 at h
  refine lf_seg 2 (pc' := 4) (lv' := [(0, .ref 25), (1, .int (Int32.ofInt x1)), (2, .ref 1), (3, .int (Int32.ofInt x3))]) (st' := [.ref 25, .int (Int32.ofInt x3)]) rfl ?_
  refine lf_getI 7 2 rfl rfl rfl rfl rfl rfl rfl ?_
  obtain ⟨o21, h⟩ := h
  obtain ⟨o22, h⟩ := h
  refine lf_icmp_ge 38 10 rfl rfl rfl o21 o22 (fun c => ?_) (fun c => ?_)
  · have h := h.1 c
    refine lf_seg 1 (pc' := 39) (lv' := [(0, .ref 25), (1, .int (Int32.ofInt x1)), (2, .ref 1), (3, .int (Int32.ofInt x3))]) (st' := [.int (Int32.ofInt 1)]) rfl ?_
    exact lf_retZ true rfl rfl h
  · have h := h.2 c
    refine lf_seg 5 (pc' := 17) (lv' := [(0, .ref 25), (1, .int (Int32.ofInt x1)), (2, .ref 1), (3, .int (Int32.ofInt x3))]) (st' := [.int (Int32.ofInt x3), .ref 26, .int (Int32.ofInt x1), .ref 1]) rfl ?_
    obtain ⟨o23, h⟩ := h
    refine lf_iald 18 6 rfl rfl rfl rfl rfl rfl o23 ?_
    refine lf_callI 21 rfl rfl rfl rfl (gm_151 h) (fun r25 s24 h => ?_)
    refine lf_seg 3 (pc' := 26) (lv' := [(0, .ref 25), (1, .int (Int32.ofInt x1)), (2, .ref 1), (3, .int (Int32.ofInt x3))]) (st' := [.int (Int32.ofInt x3), .ref 27, .int (Int32.ofInt r25)]) rfl ?_
    refine lf_iald 27 6 rfl rfl rfl rfl rfl rfl o23 ?_
    obtain ⟨o26, h⟩ := h
    obtain ⟨o27, h⟩ := h
    refine lf_icmp_le 32 30 rfl rfl rfl o26 o27 (fun c => ?_) (fun c => ?_)
    · have h := h.1 c
      refine lf_iinc 35 rfl rfl rfl rfl ?_
      refine lf_seg 1 (pc' := 2) (lv' := [(3, .int (Int32.ofInt (x3 + 1))), (0, .ref 25), (1, .int (Int32.ofInt x1)), (2, .ref 1)]) (st' := []) rfl ?_
      refine lf_sub (l := [(0, .ref 25), (1, .int (Int32.ofInt x1)), (2, .ref 1), (3, .int (Int32.ofInt (x3 + 1)))]) (lf_sb1 rfl (lf_sb1 rfl (lf_sb1 rfl (lf_sb1 rfl lf_sb0)))) ?_
      exact hX2 _ _ h
    · have h := h.2 c
      refine lf_seg 1 (pc' := 31) (lv' := [(0, .ref 25), (1, .int (Int32.ofInt x1)), (2, .ref 1), (3, .int (Int32.ofInt x3))]) (st' := [.int (Int32.ofInt 0)]) rfl ?_
      exact lf_retZ false rfl rfl h
theorem gm_150_p2L {L : Nat} {xs : Nat → Int32} {d : Nat} {Q : Bool → lf_Z → Prop} {x1 : Int} {x3 : Int} {s : lf_Z} (h : fm_150_p2L Q x1 x3 s) : lf_E (px_ro L xs) (d + 3) 150 2 [(0, .ref 25), (1, .int (Int32.ofInt x1)), (2, .ref 1), (3, .int (Int32.ofInt x3))] [] s (lf_qz Q) :=
  h (fun x3 s => lf_E (px_ro L xs) (d + 3) 150 2 [(0, .ref 25), (1, .int (Int32.ofInt x1)), (2, .ref 1), (3, .int (Int32.ofInt x3))] [] s (lf_qz Q)) (fun x3 s hb => gm_150_p2 (fun _ _ h => h) hb)
def fm_150 (a1 : Int) (Q : Bool → lf_Z → Prop) (s : lf_Z) : Prop := fm_150_p2L Q a1 0 s
set_option maxRecDepth 100000 in
theorem gm_150 {L : Nat} {xs : Nat → Int32} {d : Nat} {a1 : Int} {Q : Bool → lf_Z → Prop} {s : lf_Z} (h : fm_150 a1 Q s) : lf_M (px_ro L xs) (d + 3) 150 [.ref 25, .int (Int32.ofInt a1), .ref 1] s (lf_qz Q) := by
  unfold fm_150 at h
  show lf_E (px_ro L xs) (d + 3) 150 0 [(0, .ref 25), (1, .int (Int32.ofInt a1)), (2, .ref 1)] [] s _
  refine lf_seg 2 (pc' := 2) (lv' := [(3, .int (Int32.ofInt 0)), (0, .ref 25), (1, .int (Int32.ofInt a1)), (2, .ref 1)]) (st' := []) rfl ?_
  refine lf_sub (l := [(0, .ref 25), (1, .int (Int32.ofInt a1)), (2, .ref 1), (3, .int (Int32.ofInt 0))]) (lf_sb1 rfl (lf_sb1 rfl (lf_sb1 rfl (lf_sb1 rfl lf_sb0)))) ?_
  exact gm_150_p2L h
-- fm_147 ElevenBullocks.which 0
def fm_147_p57 (X11 : Int → Int → lf_Z → Prop) (Q : Int → lf_Z → Prop) (x1 : Int) (x2 : Int) (s : lf_Z) : Prop := X11 x1 (x2 + 1) s
set_option maxRecDepth 100000 in
theorem gm_147_p57 {L : Nat} {xs : Nat → Int32} {d : Nat} {X11 : Int → Int → lf_Z → Prop} {Q : Int → lf_Z → Prop} {x1 : Int} {x2 : Int} {s : lf_Z} (hX11 : ∀ x1 x2 s, X11 x1 x2 s → lf_E (px_ro L xs) (d + 4) 147 11 [(0, .ref 0), (1, .int (Int32.ofInt x1)), (2, .int (Int32.ofInt x2))] [] s (lf_qi Q)) (h : fm_147_p57 X11 Q x1 x2 s) : lf_E (px_ro L xs) (d + 4) 147 57 [(0, .ref 0), (1, .int (Int32.ofInt x1)), (2, .int (Int32.ofInt x2))] [] s (lf_qi Q) := by
  unfold fm_147_p57 at h
  refine lf_iinc 60 rfl rfl rfl rfl ?_
  refine lf_seg 1 (pc' := 11) (lv' := [(2, .int (Int32.ofInt (x2 + 1))), (0, .ref 0), (1, .int (Int32.ofInt x1))]) (st' := []) rfl ?_
  refine lf_sub (l := [(0, .ref 0), (1, .int (Int32.ofInt x1)), (2, .int (Int32.ofInt (x2 + 1)))]) (lf_sb1 rfl (lf_sb1 rfl (lf_sb1 rfl lf_sb0))) ?_
  exact hX11 _ _ _ h
def fm_147_p11 (Q : Int → lf_Z → Prop) (X11 : Int → Int → lf_Z → Prop) (x1 : Int) (x2 : Int) (s : lf_Z) : Prop := lf_R x2 ∧ (lf_R (s.1 1 1) ∧ ((s.1 1 1 ≤ x2 → (Q x1 s)) ∧ (¬ (s.1 1 1 ≤ x2) → (fm_149 x2 (fun r25 s24 => (lf_R r25 ∧ ((r25 = (-1) → (fm_147_p57 X11 Q x1 x2 s24)) ∧ (¬ (r25 = (-1)) → (fm_150 r25 (fun z28 s27 => ((z28 = false → (fm_147_p57 X11 Q x1 x2 s27)) ∧ (z28 = true → (fm_147_p57 X11 Q (lf_or x1 (lf_shl 1 x2)) x2 s27)))) s24))))) s))))
def fm_147_p11L (Q : Int → lf_Z → Prop) (x1 : Int) (x2 : Int) (s : lf_Z) : Prop := ∀ X11 : Int → Int → lf_Z → Prop, (∀ (x1 : Int) (x2 : Int) (s : lf_Z), fm_147_p11 Q X11 x1 x2 s → X11 x1 x2 s) → X11 x1 x2 s
set_option maxRecDepth 100000 in
theorem gm_147_p11 {L : Nat} {xs : Nat → Int32} {d : Nat} {Q : Int → lf_Z → Prop} {x1 : Int} {x2 : Int} {s : lf_Z} {X11 : Int → Int → lf_Z → Prop} (hX11 : ∀ x1 x2 s, X11 x1 x2 s → lf_E (px_ro L xs) (d + 4) 147 11 [(0, .ref 0), (1, .int (Int32.ofInt x1)), (2, .int (Int32.ofInt x2))] [] s (lf_qi Q)) (h : fm_147_p11 Q X11 x1 x2 s) : lf_E (px_ro L xs) (d + 4) 147 11 [(0, .ref 0), (1, .int (Int32.ofInt x1)), (2, .int (Int32.ofInt x2))] [] s (lf_qi Q) := by
  unfold fm_147_p11 at h
  refine lf_seg 3 (pc' := 16) (lv' := [(0, .ref 0), (1, .int (Int32.ofInt x1)), (2, .int (Int32.ofInt x2))]) (st' := [.ref 1, .int (Int32.ofInt x2)]) rfl ?_
  refine lf_getI 19 1 rfl rfl rfl rfl rfl rfl rfl ?_
  obtain ⟨o22, h⟩ := h
  obtain ⟨o23, h⟩ := h
  refine lf_icmp_ge 63 22 rfl rfl rfl o22 o23 (fun c => ?_) (fun c => ?_)
  · have h := h.1 c
    refine lf_seg 1 (pc' := 64) (lv' := [(0, .ref 0), (1, .int (Int32.ofInt x1)), (2, .int (Int32.ofInt x2))]) (st' := [.int (Int32.ofInt x1)]) rfl ?_
    exact lf_retI rfl rfl h
  · have h := h.2 c
    refine lf_seg 3 (pc' := 27) (lv' := [(0, .ref 0), (1, .int (Int32.ofInt x1)), (2, .int (Int32.ofInt x2))]) (st' := [.int (Int32.ofInt x2), .ref 1]) rfl ?_
    refine lf_callI 30 rfl rfl rfl rfl (gm_149 h) (fun r25 s24 h => ?_)
    refine lf_seg 3 (pc' := 33) (lv' := [(3, .int (Int32.ofInt r25)), (0, .ref 0), (1, .int (Int32.ofInt x1)), (2, .int (Int32.ofInt x2))]) (st' := [.int (Int32.ofInt (-1)), .int (Int32.ofInt r25)]) rfl ?_
    obtain ⟨o26, h⟩ := h
    refine lf_icmp_eq 57 36 rfl rfl rfl o26 ⟨by decide, by decide⟩ (fun c => ?_) (fun c => ?_)
    · have h := h.1 c
      refine lf_sub (l := [(0, .ref 0), (1, .int (Int32.ofInt x1)), (2, .int (Int32.ofInt x2))]) (lf_sb1 rfl (lf_sb1 rfl (lf_sb1 rfl lf_sb0))) ?_
      exact gm_147_p57 hX11 h
    · have h := h.2 c
      refine lf_seg 5 (pc' := 45) (lv' := [(3, .int (Int32.ofInt r25)), (0, .ref 0), (1, .int (Int32.ofInt x1)), (2, .int (Int32.ofInt x2))]) (st' := [.ref 1, .int (Int32.ofInt r25), .ref 25]) rfl ?_
      refine lf_callZ 48 rfl rfl rfl rfl (gm_150 h) (fun z28 s27 h => ?_)
      refine lf_ifz_eq 57 51 rfl rfl rfl (fun c => ?_) (fun c => ?_)
      · have h := h.1 c
        refine lf_sub (l := [(0, .ref 0), (1, .int (Int32.ofInt x1)), (2, .int (Int32.ofInt x2))]) (lf_sb1 rfl (lf_sb1 rfl (lf_sb1 rfl lf_sb0))) ?_
        exact gm_147_p57 hX11 h
      · have h := h.2 c
        refine lf_seg 3 (pc' := 54) (lv' := [(3, .int (Int32.ofInt r25)), (0, .ref 0), (1, .int (Int32.ofInt x1)), (2, .int (Int32.ofInt x2))]) (st' := [.int (Int32.ofInt x2), .int (Int32.ofInt 1), .int (Int32.ofInt x1)]) rfl ?_
        refine lf_ishl 55 rfl rfl ?_
        refine lf_ior 56 rfl rfl ?_
        refine lf_seg 1 (pc' := 57) (lv' := [(1, .int (Int32.ofInt (lf_or x1 (lf_shl 1 x2)))), (3, .int (Int32.ofInt r25)), (0, .ref 0), (2, .int (Int32.ofInt x2))]) (st' := []) rfl ?_
        refine lf_sub (l := [(0, .ref 0), (1, .int (Int32.ofInt (lf_or x1 (lf_shl 1 x2)))), (2, .int (Int32.ofInt x2))]) (lf_sb1 rfl (lf_sb1 rfl (lf_sb1 rfl lf_sb0))) ?_
        exact gm_147_p57 hX11 h
theorem gm_147_p11L {L : Nat} {xs : Nat → Int32} {d : Nat} {Q : Int → lf_Z → Prop} {x1 : Int} {x2 : Int} {s : lf_Z} (h : fm_147_p11L Q x1 x2 s) : lf_E (px_ro L xs) (d + 4) 147 11 [(0, .ref 0), (1, .int (Int32.ofInt x1)), (2, .int (Int32.ofInt x2))] [] s (lf_qi Q) :=
  h (fun x1 x2 s => lf_E (px_ro L xs) (d + 4) 147 11 [(0, .ref 0), (1, .int (Int32.ofInt x1)), (2, .int (Int32.ofInt x2))] [] s (lf_qi Q)) (fun x1 x2 s hb => gm_147_p11 (fun _ _ _ h => h) hb)
def fm_147 (Q : Int → lf_Z → Prop) (s : lf_Z) : Prop := fm_148 (fun s21 => (fm_147_p11L Q 0 0 s21)) s
set_option maxRecDepth 100000 in
theorem gm_147 {L : Nat} {xs : Nat → Int32} {d : Nat} {Q : Int → lf_Z → Prop} {s : lf_Z} (h : fm_147 Q s) : lf_M (px_ro L xs) (d + 4) 147 [.ref 0] s (lf_qi Q) := by
  unfold fm_147 at h
  show lf_E (px_ro L xs) (d + 4) 147 0 [(0, .ref 0)] [] s _
  refine lf_seg 2 (pc' := 4) (lv' := [(0, .ref 0)]) (st' := [.ref 1]) rfl ?_
  refine lf_callV 7 rfl rfl rfl rfl (gm_148 h) (fun s21 h => ?_)
  refine lf_seg 4 (pc' := 11) (lv' := [(2, .int (Int32.ofInt 0)), (1, .int (Int32.ofInt 0)), (0, .ref 0)]) (st' := []) rfl ?_
  refine lf_sub (l := [(0, .ref 0), (1, .int (Int32.ofInt 0)), (2, .int (Int32.ofInt 0))]) (lf_sb1 rfl (lf_sb1 rfl (lf_sb1 rfl lf_sb0))) ?_
  exact gm_147_p11L h
-- fm_307 Model.isFrom 95 i
def fm_307_p8 (Q : Bool → lf_Z → Prop) (X8 : Int → lf_Z → Prop) (x2 : Int) (s : lf_Z) : Prop := lf_R x2 ∧ (lf_R (s.1 96 10) ∧ ((s.1 96 10 ≤ x2 → (Q true s)) ∧ (¬ (s.1 96 10 ≤ x2) → ((0 ≤ 162 + (2 * x2) ∧ 162 + (2 * x2) < 1538) ∧ ((0 ≤ s.1 96 (162 + (2 * x2)) ∧ s.1 96 (162 + (2 * x2)) < 12) ∧ ((0 ≤ (162 + (2 * x2)) + 1 ∧ (162 + (2 * x2)) + 1 < 1538) ∧ (lf_R (s.1 108 (s.1 96 (162 + (2 * x2)))) ∧ (lf_R (s.1 96 ((162 + (2 * x2)) + 1)) ∧ ((s.1 108 (s.1 96 (162 + (2 * x2))) ≤ s.1 96 ((162 + (2 * x2)) + 1) → (X8 (x2 + 1) s)) ∧ (¬ (s.1 108 (s.1 96 (162 + (2 * x2))) ≤ s.1 96 ((162 + (2 * x2)) + 1)) → (Q false s)))))))))))
def fm_307_p8L (Q : Bool → lf_Z → Prop) (x2 : Int) (s : lf_Z) : Prop := ∀ X8 : Int → lf_Z → Prop, (∀ (x2 : Int) (s : lf_Z), fm_307_p8 Q X8 x2 s → X8 x2 s) → X8 x2 s
set_option maxRecDepth 100000 in
theorem gm_307_p8 {L : Nat} {xs : Nat → Int32} {d : Nat} {Q : Bool → lf_Z → Prop} {x2 : Int} {s : lf_Z} {X8 : Int → lf_Z → Prop} (hX8 : ∀ x2 s, X8 x2 s → lf_E (px_ro L xs) (d + 3) 307 8 [(0, .ref 95), (2, .int (Int32.ofInt x2))] [] s (lf_qz Q)) (h : fm_307_p8 Q X8 x2 s) : lf_E (px_ro L xs) (d + 3) 307 8 [(0, .ref 95), (2, .int (Int32.ofInt x2))] [] s (lf_qz Q) := by
  unfold fm_307_p8 at h
  refine lf_seg 3 (pc' := 13) (lv' := [(0, .ref 95), (2, .int (Int32.ofInt x2))]) (st' := [.ref 96, .int (Int32.ofInt x2)]) rfl ?_
  refine lf_bipush 15 10 rfl rfl (by decide) (by decide) ?_
  refine lf_iald 16 1538 rfl rfl rfl rfl rfl rfl ⟨by decide, by decide⟩ ?_
  obtain ⟨o22, h⟩ := h
  obtain ⟨o23, h⟩ := h
  refine lf_icmp_ge 61 19 rfl rfl rfl o22 o23 (fun c => ?_) (fun c => ?_)
  · have h := h.1 c
    refine lf_seg 1 (pc' := 62) (lv' := [(0, .ref 95), (2, .int (Int32.ofInt x2))]) (st' := [.int (Int32.ofInt 1)]) rfl ?_
    exact lf_retZ true rfl rfl h
  · have h := h.2 c
    refine lf_seg 4 (pc' := 27) (lv' := [(0, .ref 95), (2, .int (Int32.ofInt x2))]) (st' := [.ref 96, .ref 108]) rfl ?_
    refine lf_sipush 30 162 rfl rfl (by decide) (by decide) ?_
    refine lf_seg 2 (pc' := 32) (lv' := [(0, .ref 95), (2, .int (Int32.ofInt x2))]) (st' := [.int (Int32.ofInt x2), .int (Int32.ofInt 2), .int (Int32.ofInt 162), .ref 96, .ref 108]) rfl ?_
    refine lf_imul 33 rfl rfl ?_
    refine lf_iadd 34 rfl rfl ?_
    obtain ⟨o24, h⟩ := h
    refine lf_iald 35 1538 rfl rfl rfl rfl rfl rfl o24 ?_
    obtain ⟨o25, h⟩ := h
    refine lf_iald 36 12 rfl rfl rfl rfl rfl rfl o25 ?_
    refine lf_seg 2 (pc' := 40) (lv' := [(0, .ref 95), (2, .int (Int32.ofInt x2))]) (st' := [.ref 96, .int (Int32.ofInt (s.1 108 (s.1 96 (162 + (2 * x2)))))]) rfl ?_
    refine lf_sipush 43 162 rfl rfl (by decide) (by decide) ?_
    refine lf_seg 2 (pc' := 45) (lv' := [(0, .ref 95), (2, .int (Int32.ofInt x2))]) (st' := [.int (Int32.ofInt x2), .int (Int32.ofInt 2), .int (Int32.ofInt 162), .ref 96, .int (Int32.ofInt (s.1 108 (s.1 96 (162 + (2 * x2)))))]) rfl ?_
    refine lf_imul 46 rfl rfl ?_
    refine lf_iadd 47 rfl rfl ?_
    refine lf_seg 1 (pc' := 48) (lv' := [(0, .ref 95), (2, .int (Int32.ofInt x2))]) (st' := [.int (Int32.ofInt 1), .int (Int32.ofInt (162 + (2 * x2))), .ref 96, .int (Int32.ofInt (s.1 108 (s.1 96 (162 + (2 * x2)))))]) rfl ?_
    refine lf_iadd 49 rfl rfl ?_
    obtain ⟨o26, h⟩ := h
    refine lf_iald 50 1538 rfl rfl rfl rfl rfl rfl o26 ?_
    obtain ⟨o27, h⟩ := h
    obtain ⟨o28, h⟩ := h
    refine lf_icmp_le 55 53 rfl rfl rfl o27 o28 (fun c => ?_) (fun c => ?_)
    · have h := h.1 c
      refine lf_iinc 58 rfl rfl rfl rfl ?_
      refine lf_seg 1 (pc' := 8) (lv' := [(2, .int (Int32.ofInt (x2 + 1))), (0, .ref 95)]) (st' := []) rfl ?_
      refine lf_sub (l := [(0, .ref 95), (2, .int (Int32.ofInt (x2 + 1)))]) (lf_sb1 rfl (lf_sb1 rfl lf_sb0)) ?_
      exact hX8 _ _ h
    · have h := h.2 c
      refine lf_seg 1 (pc' := 54) (lv' := [(0, .ref 95), (2, .int (Int32.ofInt x2))]) (st' := [.int (Int32.ofInt 0)]) rfl ?_
      exact lf_retZ false rfl rfl h
theorem gm_307_p8L {L : Nat} {xs : Nat → Int32} {d : Nat} {Q : Bool → lf_Z → Prop} {x2 : Int} {s : lf_Z} (h : fm_307_p8L Q x2 s) : lf_E (px_ro L xs) (d + 3) 307 8 [(0, .ref 95), (2, .int (Int32.ofInt x2))] [] s (lf_qz Q) :=
  h (fun x2 s => lf_E (px_ro L xs) (d + 3) 307 8 [(0, .ref 95), (2, .int (Int32.ofInt x2))] [] s (lf_qz Q)) (fun x2 s hb => gm_307_p8 (fun _ _ h => h) hb)
def fm_307 (a1 : Int) (Q : Bool → lf_Z → Prop) (s : lf_Z) : Prop := fm_261 a1 0 (fun s21 => (fm_307_p8L Q 0 s21)) s
set_option maxRecDepth 100000 in
theorem gm_307 {L : Nat} {xs : Nat → Int32} {d : Nat} {a1 : Int} {Q : Bool → lf_Z → Prop} {s : lf_Z} (h : fm_307 a1 Q s) : lf_M (px_ro L xs) (d + 3) 307 [.ref 95, .int (Int32.ofInt a1)] s (lf_qz Q) := by
  unfold fm_307 at h
  show lf_E (px_ro L xs) (d + 3) 307 0 [(0, .ref 95), (1, .int (Int32.ofInt a1))] [] s _
  refine lf_seg 3 (pc' := 3) (lv' := [(0, .ref 95), (1, .int (Int32.ofInt a1))]) (st' := [.int (Int32.ofInt 0), .int (Int32.ofInt a1), .ref 95]) rfl ?_
  refine lf_callV 6 rfl rfl rfl rfl (gm_261 h) (fun s21 h => ?_)
  refine lf_seg 2 (pc' := 8) (lv' := [(2, .int (Int32.ofInt 0)), (0, .ref 95), (1, .int (Int32.ofInt a1))]) (st' := []) rfl ?_
  refine lf_sub (l := [(0, .ref 95), (2, .int (Int32.ofInt 0))]) (lf_sb1 rfl (lf_sb1 rfl lf_sb0)) ?_
  exact gm_307_p8L h
-- fm_306 Model.which 95
def fm_306_p116 (X4 : Int → Int → lf_Z → Prop) (Q : Int → lf_Z → Prop) (x1 : Int) (x2 : Int) (s : lf_Z) : Prop := X4 x1 (x2 + 1) s
set_option maxRecDepth 100000 in
theorem gm_306_p116 {L : Nat} {xs : Nat → Int32} {d : Nat} {X4 : Int → Int → lf_Z → Prop} {Q : Int → lf_Z → Prop} {x1 : Int} {x2 : Int} {s : lf_Z} (hX4 : ∀ x1 x2 s, X4 x1 x2 s → lf_E (px_ro L xs) (d + 4) 306 4 [(0, .ref 95), (1, .int (Int32.ofInt x1)), (2, .int (Int32.ofInt x2))] [] s (lf_qi Q)) (h : fm_306_p116 X4 Q x1 x2 s) : lf_E (px_ro L xs) (d + 4) 306 116 [(0, .ref 95), (1, .int (Int32.ofInt x1)), (2, .int (Int32.ofInt x2))] [] s (lf_qi Q) := by
  unfold fm_306_p116 at h
  refine lf_iinc 119 rfl rfl rfl rfl ?_
  refine lf_seg 1 (pc' := 4) (lv' := [(2, .int (Int32.ofInt (x2 + 1))), (0, .ref 95), (1, .int (Int32.ofInt x1))]) (st' := []) rfl ?_
  refine lf_sub (l := [(0, .ref 95), (1, .int (Int32.ofInt x1)), (2, .int (Int32.ofInt (x2 + 1)))]) (lf_sb1 rfl (lf_sb1 rfl (lf_sb1 rfl lf_sb0))) ?_
  exact hX4 _ _ _ h
def fm_306_p114 (X4 : Int → Int → lf_Z → Prop) (Q : Int → lf_Z → Prop) (x2 : Int) (y0 : Int) (y1 : Int) (s : lf_Z) : Prop := fm_306_p116 X4 Q (lf_or y0 y1) x2 s
set_option maxRecDepth 100000 in
theorem gm_306_p114 {L : Nat} {xs : Nat → Int32} {d : Nat} {X4 : Int → Int → lf_Z → Prop} {Q : Int → lf_Z → Prop} {x2 : Int} {y0 : Int} {y1 : Int} {s : lf_Z} (hX4 : ∀ x1 x2 s, X4 x1 x2 s → lf_E (px_ro L xs) (d + 4) 306 4 [(0, .ref 95), (1, .int (Int32.ofInt x1)), (2, .int (Int32.ofInt x2))] [] s (lf_qi Q)) (h : fm_306_p114 X4 Q x2 y0 y1 s) : lf_E (px_ro L xs) (d + 4) 306 114 [(0, .ref 95), (2, .int (Int32.ofInt x2))] [.int (Int32.ofInt y1), .int (Int32.ofInt y0)] s (lf_qi Q) := by
  unfold fm_306_p114 at h
  refine lf_ior 115 rfl rfl ?_
  refine lf_seg 1 (pc' := 116) (lv' := [(1, .int (Int32.ofInt (lf_or y0 y1))), (0, .ref 95), (2, .int (Int32.ofInt x2))]) (st' := []) rfl ?_
  refine lf_sub (l := [(0, .ref 95), (1, .int (Int32.ofInt (lf_or y0 y1))), (2, .int (Int32.ofInt x2))]) (lf_sb1 rfl (lf_sb1 rfl (lf_sb1 rfl lf_sb0))) ?_
  exact gm_306_p116 hX4 h
def fm_306_p101 (X4 : Int → Int → lf_Z → Prop) (Q : Int → lf_Z → Prop) (x2 : Int) (y0 : Int) (y2 : Int) (s : lf_Z) : Prop := fm_307 y2 (fun z39 s38 => ((z39 = false → (fm_306_p114 X4 Q x2 y0 0 s38)) ∧ (z39 = true → (fm_306_p114 X4 Q x2 y0 (lf_shl 1 x2) s38)))) s
set_option maxRecDepth 100000 in
theorem gm_306_p101 {L : Nat} {xs : Nat → Int32} {d : Nat} {X4 : Int → Int → lf_Z → Prop} {Q : Int → lf_Z → Prop} {x2 : Int} {y0 : Int} {y2 : Int} {s : lf_Z} (hX4 : ∀ x1 x2 s, X4 x1 x2 s → lf_E (px_ro L xs) (d + 4) 306 4 [(0, .ref 95), (1, .int (Int32.ofInt x1)), (2, .int (Int32.ofInt x2))] [] s (lf_qi Q)) (h : fm_306_p101 X4 Q x2 y0 y2 s) : lf_E (px_ro L xs) (d + 4) 306 101 [(0, .ref 95), (2, .int (Int32.ofInt x2))] [.int (Int32.ofInt y2), .ref 95, .int (Int32.ofInt y0)] s (lf_qi Q) := by
  unfold fm_306_p101 at h
  refine lf_callZ 104 rfl rfl rfl rfl (gm_307 h) (fun z39 s38 h => ?_)
  refine lf_ifz_eq 113 107 rfl rfl rfl (fun c => ?_) (fun c => ?_)
  · have h := h.1 c
    refine lf_seg 1 (pc' := 114) (lv' := [(0, .ref 95), (2, .int (Int32.ofInt x2))]) (st' := [.int (Int32.ofInt 0), .int (Int32.ofInt y0)]) rfl ?_
    refine lf_sub (l := [(0, .ref 95), (2, .int (Int32.ofInt x2))]) (lf_sb1 rfl (lf_sb1 rfl lf_sb0)) ?_
    exact gm_306_p114 hX4 h
  · have h := h.2 c
    refine lf_seg 2 (pc' := 109) (lv' := [(0, .ref 95), (2, .int (Int32.ofInt x2))]) (st' := [.int (Int32.ofInt x2), .int (Int32.ofInt 1), .int (Int32.ofInt y0)]) rfl ?_
    refine lf_ishl 110 rfl rfl ?_
    refine lf_seg 1 (pc' := 114) (lv' := [(0, .ref 95), (2, .int (Int32.ofInt x2))]) (st' := [.int (Int32.ofInt (lf_shl 1 x2)), .int (Int32.ofInt y0)]) rfl ?_
    refine lf_sub (l := [(0, .ref 95), (2, .int (Int32.ofInt x2))]) (lf_sb1 rfl (lf_sb1 rfl lf_sb0)) ?_
    exact gm_306_p114 hX4 h
def fm_306_p78 (X4 : Int → Int → lf_Z → Prop) (Q : Int → lf_Z → Prop) (x1 : Int) (x2 : Int) (x3 : Int) (x4 : Int) (y0 : Int) (y1 : Int) (s : lf_Z) : Prop := lf_R y0 ∧ (lf_R y1 ∧ ((y0 ≠ y1 → (fm_265 x3 (fun r36 s35 => (lf_R r36 ∧ ((r36 ≠ 3 → (fm_306_p101 X4 Q x2 x1 x3 s35)) ∧ (¬ (r36 ≠ 3) → (fm_306_p101 X4 Q x2 x1 x4 s35))))) s)) ∧ (¬ (y0 ≠ y1) → (fm_306_p116 X4 Q x1 x2 s))))
set_option maxRecDepth 100000 in
theorem gm_306_p78 {L : Nat} {xs : Nat → Int32} {d : Nat} {X4 : Int → Int → lf_Z → Prop} {Q : Int → lf_Z → Prop} {x1 : Int} {x2 : Int} {x3 : Int} {x4 : Int} {y0 : Int} {y1 : Int} {s : lf_Z} (hX4 : ∀ x1 x2 s, X4 x1 x2 s → lf_E (px_ro L xs) (d + 4) 306 4 [(0, .ref 95), (1, .int (Int32.ofInt x1)), (2, .int (Int32.ofInt x2))] [] s (lf_qi Q)) (h : fm_306_p78 X4 Q x1 x2 x3 x4 y0 y1 s) : lf_E (px_ro L xs) (d + 4) 306 78 [(0, .ref 95), (1, .int (Int32.ofInt x1)), (2, .int (Int32.ofInt x2)), (3, .int (Int32.ofInt x3)), (4, .int (Int32.ofInt x4))] [.int (Int32.ofInt y1), .int (Int32.ofInt y0)] s (lf_qi Q) := by
  unfold fm_306_p78 at h
  obtain ⟨o33, h⟩ := h
  obtain ⟨o34, h⟩ := h
  refine lf_icmp_ne 84 81 rfl rfl rfl o33 o34 (fun c => ?_) (fun c => ?_)
  · have h := h.1 c
    refine lf_seg 4 (pc' := 88) (lv' := [(0, .ref 95), (1, .int (Int32.ofInt x1)), (2, .int (Int32.ofInt x2)), (3, .int (Int32.ofInt x3)), (4, .int (Int32.ofInt x4))]) (st' := [.int (Int32.ofInt x3), .ref 95, .ref 95, .int (Int32.ofInt x1)]) rfl ?_
    refine lf_callI 91 rfl rfl rfl rfl (gm_265 h) (fun r36 s35 h => ?_)
    refine lf_seg 1 (pc' := 92) (lv' := [(0, .ref 95), (1, .int (Int32.ofInt x1)), (2, .int (Int32.ofInt x2)), (3, .int (Int32.ofInt x3)), (4, .int (Int32.ofInt x4))]) (st' := [.int (Int32.ofInt 3), .int (Int32.ofInt r36), .ref 95, .int (Int32.ofInt x1)]) rfl ?_
    obtain ⟨o37, h⟩ := h
    refine lf_icmp_ne 100 95 rfl rfl rfl o37 ⟨by decide, by decide⟩ (fun c => ?_) (fun c => ?_)
    · have h := h.1 c
      refine lf_seg 1 (pc' := 101) (lv' := [(0, .ref 95), (1, .int (Int32.ofInt x1)), (2, .int (Int32.ofInt x2)), (3, .int (Int32.ofInt x3)), (4, .int (Int32.ofInt x4))]) (st' := [.int (Int32.ofInt x3), .ref 95, .int (Int32.ofInt x1)]) rfl ?_
      refine lf_sub (l := [(0, .ref 95), (2, .int (Int32.ofInt x2))]) (lf_sb1 rfl (lf_sb1 rfl lf_sb0)) ?_
      exact gm_306_p101 hX4 h
    · have h := h.2 c
      refine lf_seg 2 (pc' := 101) (lv' := [(0, .ref 95), (1, .int (Int32.ofInt x1)), (2, .int (Int32.ofInt x2)), (3, .int (Int32.ofInt x3)), (4, .int (Int32.ofInt x4))]) (st' := [.int (Int32.ofInt x4), .ref 95, .int (Int32.ofInt x1)]) rfl ?_
      refine lf_sub (l := [(0, .ref 95), (2, .int (Int32.ofInt x2))]) (lf_sb1 rfl (lf_sb1 rfl lf_sb0)) ?_
      exact gm_306_p101 hX4 h
  · have h := h.2 c
    refine lf_seg 1 (pc' := 116) (lv' := [(0, .ref 95), (1, .int (Int32.ofInt x1)), (2, .int (Int32.ofInt x2)), (3, .int (Int32.ofInt x3)), (4, .int (Int32.ofInt x4))]) (st' := []) rfl ?_
    refine lf_sub (l := [(0, .ref 95), (1, .int (Int32.ofInt x1)), (2, .int (Int32.ofInt x2))]) (lf_sb1 rfl (lf_sb1 rfl (lf_sb1 rfl lf_sb0))) ?_
    exact gm_306_p116 hX4 h
def fm_306_p63 (X4 : Int → Int → lf_Z → Prop) (Q : Int → lf_Z → Prop) (x1 : Int) (x2 : Int) (x3 : Int) (x4 : Int) (y0 : Int) (s : lf_Z) : Prop := fm_265 x4 (fun r31 s30 => (lf_R r31 ∧ ((r31 ≠ 3 → (fm_306_p78 X4 Q x1 x2 x3 x4 y0 0 s30)) ∧ (¬ (r31 ≠ 3) → (fm_306_p78 X4 Q x1 x2 x3 x4 y0 1 s30))))) s
set_option maxRecDepth 100000 in
theorem gm_306_p63 {L : Nat} {xs : Nat → Int32} {d : Nat} {X4 : Int → Int → lf_Z → Prop} {Q : Int → lf_Z → Prop} {x1 : Int} {x2 : Int} {x3 : Int} {x4 : Int} {y0 : Int} {s : lf_Z} (hX4 : ∀ x1 x2 s, X4 x1 x2 s → lf_E (px_ro L xs) (d + 4) 306 4 [(0, .ref 95), (1, .int (Int32.ofInt x1)), (2, .int (Int32.ofInt x2))] [] s (lf_qi Q)) (h : fm_306_p63 X4 Q x1 x2 x3 x4 y0 s) : lf_E (px_ro L xs) (d + 4) 306 63 [(0, .ref 95), (1, .int (Int32.ofInt x1)), (2, .int (Int32.ofInt x2)), (3, .int (Int32.ofInt x3)), (4, .int (Int32.ofInt x4))] [.int (Int32.ofInt y0)] s (lf_qi Q) := by
  unfold fm_306_p63 at h
  refine lf_seg 2 (pc' := 66) (lv' := [(0, .ref 95), (1, .int (Int32.ofInt x1)), (2, .int (Int32.ofInt x2)), (3, .int (Int32.ofInt x3)), (4, .int (Int32.ofInt x4))]) (st' := [.int (Int32.ofInt x4), .ref 95, .int (Int32.ofInt y0)]) rfl ?_
  refine lf_callI 69 rfl rfl rfl rfl (gm_265 h) (fun r31 s30 h => ?_)
  refine lf_seg 1 (pc' := 70) (lv' := [(0, .ref 95), (1, .int (Int32.ofInt x1)), (2, .int (Int32.ofInt x2)), (3, .int (Int32.ofInt x3)), (4, .int (Int32.ofInt x4))]) (st' := [.int (Int32.ofInt 3), .int (Int32.ofInt r31), .int (Int32.ofInt y0)]) rfl ?_
  obtain ⟨o32, h⟩ := h
  refine lf_icmp_ne 77 73 rfl rfl rfl o32 ⟨by decide, by decide⟩ (fun c => ?_) (fun c => ?_)
  · have h := h.1 c
    refine lf_seg 1 (pc' := 78) (lv' := [(0, .ref 95), (1, .int (Int32.ofInt x1)), (2, .int (Int32.ofInt x2)), (3, .int (Int32.ofInt x3)), (4, .int (Int32.ofInt x4))]) (st' := [.int (Int32.ofInt 0), .int (Int32.ofInt y0)]) rfl ?_
    refine lf_sub (l := [(0, .ref 95), (1, .int (Int32.ofInt x1)), (2, .int (Int32.ofInt x2)), (3, .int (Int32.ofInt x3)), (4, .int (Int32.ofInt x4))]) (lf_sb1 rfl (lf_sb1 rfl (lf_sb1 rfl (lf_sb1 rfl (lf_sb1 rfl lf_sb0))))) ?_
    exact gm_306_p78 hX4 h
  · have h := h.2 c
    refine lf_seg 2 (pc' := 78) (lv' := [(0, .ref 95), (1, .int (Int32.ofInt x1)), (2, .int (Int32.ofInt x2)), (3, .int (Int32.ofInt x3)), (4, .int (Int32.ofInt x4))]) (st' := [.int (Int32.ofInt 1), .int (Int32.ofInt y0)]) rfl ?_
    refine lf_sub (l := [(0, .ref 95), (1, .int (Int32.ofInt x1)), (2, .int (Int32.ofInt x2)), (3, .int (Int32.ofInt x3)), (4, .int (Int32.ofInt x4))]) (lf_sb1 rfl (lf_sb1 rfl (lf_sb1 rfl (lf_sb1 rfl (lf_sb1 rfl lf_sb0))))) ?_
    exact gm_306_p78 hX4 h
def fm_306_p4 (Q : Int → lf_Z → Prop) (X4 : Int → Int → lf_Z → Prop) (x1 : Int) (x2 : Int) (s : lf_Z) : Prop := lf_R x2 ∧ (lf_R (s.1 96 1) ∧ ((s.1 96 1 ≤ x2 → (Q x1 s)) ∧ (¬ (s.1 96 1 ≤ x2) → ((0 ≤ 50 + (4 * x2) ∧ 50 + (4 * x2) < 1538) ∧ ((0 ≤ (50 + (4 * x2)) + 1 ∧ (50 + (4 * x2)) + 1 < 1538) ∧ (fm_252 x2 (fun z26 s25 => ((z26 = true → (fm_306_p116 X4 Q x1 x2 s25)) ∧ (z26 = false → (fm_265 (s.1 96 (50 + (4 * x2))) (fun r28 s27 => (lf_R r28 ∧ ((r28 ≠ 3 → (fm_306_p63 X4 Q x1 x2 (s.1 96 (50 + (4 * x2))) (s.1 96 ((50 + (4 * x2)) + 1)) 0 s27)) ∧ (¬ (r28 ≠ 3) → (fm_306_p63 X4 Q x1 x2 (s.1 96 (50 + (4 * x2))) (s.1 96 ((50 + (4 * x2)) + 1)) 1 s27))))) s25)))) s))))))
def fm_306_p4L (Q : Int → lf_Z → Prop) (x1 : Int) (x2 : Int) (s : lf_Z) : Prop := ∀ X4 : Int → Int → lf_Z → Prop, (∀ (x1 : Int) (x2 : Int) (s : lf_Z), fm_306_p4 Q X4 x1 x2 s → X4 x1 x2 s) → X4 x1 x2 s
set_option maxRecDepth 100000 in
theorem gm_306_p4 {L : Nat} {xs : Nat → Int32} {d : Nat} {Q : Int → lf_Z → Prop} {x1 : Int} {x2 : Int} {s : lf_Z} {X4 : Int → Int → lf_Z → Prop} (hX4 : ∀ x1 x2 s, X4 x1 x2 s → lf_E (px_ro L xs) (d + 4) 306 4 [(0, .ref 95), (1, .int (Int32.ofInt x1)), (2, .int (Int32.ofInt x2))] [] s (lf_qi Q)) (h : fm_306_p4 Q X4 x1 x2 s) : lf_E (px_ro L xs) (d + 4) 306 4 [(0, .ref 95), (1, .int (Int32.ofInt x1)), (2, .int (Int32.ofInt x2))] [] s (lf_qi Q) := by
  unfold fm_306_p4 at h
  refine lf_seg 4 (pc' := 10) (lv' := [(0, .ref 95), (1, .int (Int32.ofInt x1)), (2, .int (Int32.ofInt x2))]) (st' := [.int (Int32.ofInt 1), .ref 96, .int (Int32.ofInt x2)]) rfl ?_
  refine lf_iald 11 1538 rfl rfl rfl rfl rfl rfl ⟨by decide, by decide⟩ ?_
  obtain ⟨o21, h⟩ := h
  obtain ⟨o22, h⟩ := h
  refine lf_icmp_ge 122 14 rfl rfl rfl o21 o22 (fun c => ?_) (fun c => ?_)
  · have h := h.1 c
    refine lf_seg 1 (pc' := 123) (lv' := [(0, .ref 95), (1, .int (Int32.ofInt x1)), (2, .int (Int32.ofInt x2))]) (st' := [.int (Int32.ofInt x1)]) rfl ?_
    exact lf_retI rfl rfl h
  · have h := h.2 c
    refine lf_seg 2 (pc' := 18) (lv' := [(0, .ref 95), (1, .int (Int32.ofInt x1)), (2, .int (Int32.ofInt x2))]) (st' := [.ref 96]) rfl ?_
    refine lf_bipush 20 50 rfl rfl (by decide) (by decide) ?_
    refine lf_seg 2 (pc' := 22) (lv' := [(0, .ref 95), (1, .int (Int32.ofInt x1)), (2, .int (Int32.ofInt x2))]) (st' := [.int (Int32.ofInt x2), .int (Int32.ofInt 4), .int (Int32.ofInt 50), .ref 96]) rfl ?_
    refine lf_imul 23 rfl rfl ?_
    refine lf_iadd 24 rfl rfl ?_
    obtain ⟨o23, h⟩ := h
    refine lf_iald 25 1538 rfl rfl rfl rfl rfl rfl o23 ?_
    refine lf_seg 3 (pc' := 30) (lv' := [(3, .int (Int32.ofInt (s.1 96 (50 + (4 * x2))))), (0, .ref 95), (1, .int (Int32.ofInt x1)), (2, .int (Int32.ofInt x2))]) (st' := [.ref 96]) rfl ?_
    refine lf_bipush 32 50 rfl rfl (by decide) (by decide) ?_
    refine lf_seg 2 (pc' := 34) (lv' := [(3, .int (Int32.ofInt (s.1 96 (50 + (4 * x2))))), (0, .ref 95), (1, .int (Int32.ofInt x1)), (2, .int (Int32.ofInt x2))]) (st' := [.int (Int32.ofInt x2), .int (Int32.ofInt 4), .int (Int32.ofInt 50), .ref 96]) rfl ?_
    refine lf_imul 35 rfl rfl ?_
    refine lf_iadd 36 rfl rfl ?_
    refine lf_seg 1 (pc' := 37) (lv' := [(3, .int (Int32.ofInt (s.1 96 (50 + (4 * x2))))), (0, .ref 95), (1, .int (Int32.ofInt x1)), (2, .int (Int32.ofInt x2))]) (st' := [.int (Int32.ofInt 1), .int (Int32.ofInt (50 + (4 * x2))), .ref 96]) rfl ?_
    refine lf_iadd 38 rfl rfl ?_
    obtain ⟨o24, h⟩ := h
    refine lf_iald 39 1538 rfl rfl rfl rfl rfl rfl o24 ?_
    refine lf_seg 3 (pc' := 43) (lv' := [(4, .int (Int32.ofInt (s.1 96 ((50 + (4 * x2)) + 1)))), (3, .int (Int32.ofInt (s.1 96 (50 + (4 * x2))))), (0, .ref 95), (1, .int (Int32.ofInt x1)), (2, .int (Int32.ofInt x2))]) (st' := [.int (Int32.ofInt x2), .ref 95]) rfl ?_
    refine lf_callZ 46 rfl rfl rfl rfl (gm_252 h) (fun z26 s25 h => ?_)
    refine lf_ifz_ne 116 49 rfl rfl rfl (fun c => ?_) (fun c => ?_)
    · have h := h.1 c
      refine lf_sub (l := [(0, .ref 95), (1, .int (Int32.ofInt x1)), (2, .int (Int32.ofInt x2))]) (lf_sb1 rfl (lf_sb1 rfl (lf_sb1 rfl lf_sb0))) ?_
      exact gm_306_p116 hX4 h
    · have h := h.2 c
      refine lf_seg 2 (pc' := 51) (lv' := [(4, .int (Int32.ofInt (s.1 96 ((50 + (4 * x2)) + 1)))), (3, .int (Int32.ofInt (s.1 96 (50 + (4 * x2))))), (0, .ref 95), (1, .int (Int32.ofInt x1)), (2, .int (Int32.ofInt x2))]) (st' := [.int (Int32.ofInt (s.1 96 (50 + (4 * x2)))), .ref 95]) rfl ?_
      refine lf_callI 54 rfl rfl rfl rfl (gm_265 h) (fun r28 s27 h => ?_)
      refine lf_seg 1 (pc' := 55) (lv' := [(4, .int (Int32.ofInt (s.1 96 ((50 + (4 * x2)) + 1)))), (3, .int (Int32.ofInt (s.1 96 (50 + (4 * x2))))), (0, .ref 95), (1, .int (Int32.ofInt x1)), (2, .int (Int32.ofInt x2))]) (st' := [.int (Int32.ofInt 3), .int (Int32.ofInt r28)]) rfl ?_
      obtain ⟨o29, h⟩ := h
      refine lf_icmp_ne 62 58 rfl rfl rfl o29 ⟨by decide, by decide⟩ (fun c => ?_) (fun c => ?_)
      · have h := h.1 c
        refine lf_seg 1 (pc' := 63) (lv' := [(4, .int (Int32.ofInt (s.1 96 ((50 + (4 * x2)) + 1)))), (3, .int (Int32.ofInt (s.1 96 (50 + (4 * x2))))), (0, .ref 95), (1, .int (Int32.ofInt x1)), (2, .int (Int32.ofInt x2))]) (st' := [.int (Int32.ofInt 0)]) rfl ?_
        refine lf_sub (l := [(0, .ref 95), (1, .int (Int32.ofInt x1)), (2, .int (Int32.ofInt x2)), (3, .int (Int32.ofInt (s.1 96 (50 + (4 * x2))))), (4, .int (Int32.ofInt (s.1 96 ((50 + (4 * x2)) + 1))))]) (lf_sb1 rfl (lf_sb1 rfl (lf_sb1 rfl (lf_sb1 rfl (lf_sb1 rfl lf_sb0))))) ?_
        exact gm_306_p63 hX4 h
      · have h := h.2 c
        refine lf_seg 2 (pc' := 63) (lv' := [(4, .int (Int32.ofInt (s.1 96 ((50 + (4 * x2)) + 1)))), (3, .int (Int32.ofInt (s.1 96 (50 + (4 * x2))))), (0, .ref 95), (1, .int (Int32.ofInt x1)), (2, .int (Int32.ofInt x2))]) (st' := [.int (Int32.ofInt 1)]) rfl ?_
        refine lf_sub (l := [(0, .ref 95), (1, .int (Int32.ofInt x1)), (2, .int (Int32.ofInt x2)), (3, .int (Int32.ofInt (s.1 96 (50 + (4 * x2))))), (4, .int (Int32.ofInt (s.1 96 ((50 + (4 * x2)) + 1))))]) (lf_sb1 rfl (lf_sb1 rfl (lf_sb1 rfl (lf_sb1 rfl (lf_sb1 rfl lf_sb0))))) ?_
        exact gm_306_p63 hX4 h
theorem gm_306_p4L {L : Nat} {xs : Nat → Int32} {d : Nat} {Q : Int → lf_Z → Prop} {x1 : Int} {x2 : Int} {s : lf_Z} (h : fm_306_p4L Q x1 x2 s) : lf_E (px_ro L xs) (d + 4) 306 4 [(0, .ref 95), (1, .int (Int32.ofInt x1)), (2, .int (Int32.ofInt x2))] [] s (lf_qi Q) :=
  h (fun x1 x2 s => lf_E (px_ro L xs) (d + 4) 306 4 [(0, .ref 95), (1, .int (Int32.ofInt x1)), (2, .int (Int32.ofInt x2))] [] s (lf_qi Q)) (fun x1 x2 s hb => gm_306_p4 (fun _ _ _ h => h) hb)
def fm_306 (Q : Int → lf_Z → Prop) (s : lf_Z) : Prop := fm_306_p4L Q 0 0 s
set_option maxRecDepth 100000 in
theorem gm_306 {L : Nat} {xs : Nat → Int32} {d : Nat} {Q : Int → lf_Z → Prop} {s : lf_Z} (h : fm_306 Q s) : lf_M (px_ro L xs) (d + 4) 306 [.ref 95] s (lf_qi Q) := by
  unfold fm_306 at h
  show lf_E (px_ro L xs) (d + 4) 306 0 [(0, .ref 95)] [] s _
  refine lf_seg 4 (pc' := 4) (lv' := [(2, .int (Int32.ofInt 0)), (1, .int (Int32.ofInt 0)), (0, .ref 95)]) (st' := []) rfl ?_
  refine lf_sub (l := [(0, .ref 95), (1, .int (Int32.ofInt 0)), (2, .int (Int32.ofInt 0))]) (lf_sb1 rfl (lf_sb1 rfl (lf_sb1 rfl lf_sb0))) ?_
  exact gm_306_p4L h
-- fm_153 ElevenBullocks.weightOf i i i
def fm_153_p63 (Q : Int → lf_Z → Prop) (X63 : Int → Int → lf_Z → Prop) (x3 : Int) (x5 : Int) (s : lf_Z) : Prop := lf_R x5 ∧ ((12 ≤ x5 → (Q (lf_wl x3) s)) ∧ (¬ (12 ≤ x5) → (X63 (lf_wl ((lf_wl x3) * 10)) (x5 + 1) s)))
def fm_153_p63L (Q : Int → lf_Z → Prop) (x3 : Int) (x5 : Int) (s : lf_Z) : Prop := ∀ X63 : Int → Int → lf_Z → Prop, (∀ (x3 : Int) (x5 : Int) (s : lf_Z), fm_153_p63 Q X63 x3 x5 s → X63 x3 x5 s) → X63 x3 x5 s
set_option maxRecDepth 100000 in
theorem gm_153_p63 {L : Nat} {xs : Nat → Int32} {d : Nat} {Q : Int → lf_Z → Prop} {x3 : Int} {x5 : Int} {s : lf_Z} {X63 : Int → Int → lf_Z → Prop} (hX63 : ∀ x3 x5 s, X63 x3 x5 s → lf_E (px_ro L xs) (d + 1) 153 63 [(3, .long (Int64.ofInt x3)), (5, .int (Int32.ofInt x5))] [] s (lf_ql Q)) (h : fm_153_p63 Q X63 x3 x5 s) : lf_E (px_ro L xs) (d + 1) 153 63 [(3, .long (Int64.ofInt x3)), (5, .int (Int32.ofInt x5))] [] s (lf_ql Q) := by
  unfold fm_153_p63 at h
  refine lf_eqs (lv' := [(3, .long (Int64.ofInt (lf_wl x3))), (5, .int (Int32.ofInt x5))]) (st' := []) (by simp only [lf_wlE]) rfl ?_
  refine lf_seg 1 (pc' := 65) (lv' := [(3, .long (Int64.ofInt (lf_wl x3))), (5, .int (Int32.ofInt x5))]) (st' := [.int (Int32.ofInt x5)]) rfl ?_
  refine lf_bipush 67 12 rfl rfl (by decide) (by decide) ?_
  obtain ⟨o27, h⟩ := h
  refine lf_icmp_ge 82 70 rfl rfl rfl o27 ⟨by decide, by decide⟩ (fun c => ?_) (fun c => ?_)
  · have h := h.1 c
    refine lf_seg 1 (pc' := 83) (lv' := [(3, .long (Int64.ofInt (lf_wl x3))), (5, .int (Int32.ofInt x5))]) (st' := [.long (Int64.ofInt (lf_wl x3))]) rfl ?_
    exact lf_retL rfl rfl h
  · have h := h.2 c
    refine lf_seg 1 (pc' := 71) (lv' := [(3, .long (Int64.ofInt (lf_wl x3))), (5, .int (Int32.ofInt x5))]) (st' := [.long (Int64.ofInt (lf_wl x3))]) rfl ?_
    refine lf_ldc2 74 10 rfl rfl rfl (by decide) ?_
    refine lf_lmul 75 rfl rfl ?_
    refine lf_wtL ?_
    refine lf_seg 1 (pc' := 76) (lv' := [(3, .long (Int64.ofInt (lf_wl ((lf_wl x3) * 10)))), (5, .int (Int32.ofInt x5))]) (st' := []) rfl ?_
    refine lf_iinc 79 rfl rfl rfl rfl ?_
    refine lf_seg 1 (pc' := 63) (lv' := [(5, .int (Int32.ofInt (x5 + 1))), (3, .long (Int64.ofInt (lf_wl ((lf_wl x3) * 10))))]) (st' := []) rfl ?_
    refine lf_sub (l := [(3, .long (Int64.ofInt (lf_wl ((lf_wl x3) * 10)))), (5, .int (Int32.ofInt (x5 + 1)))]) (lf_sb1 rfl (lf_sb1 rfl lf_sb0)) ?_
    exact hX63 _ _ _ h
theorem gm_153_p63L {L : Nat} {xs : Nat → Int32} {d : Nat} {Q : Int → lf_Z → Prop} {x3 : Int} {x5 : Int} {s : lf_Z} (h : fm_153_p63L Q x3 x5 s) : lf_E (px_ro L xs) (d + 1) 153 63 [(3, .long (Int64.ofInt x3)), (5, .int (Int32.ofInt x5))] [] s (lf_ql Q) :=
  h (fun x3 x5 s => lf_E (px_ro L xs) (d + 1) 153 63 [(3, .long (Int64.ofInt x3)), (5, .int (Int32.ofInt x5))] [] s (lf_ql Q)) (fun x3 x5 s hb => gm_153_p63 (fun _ _ _ h => h) hb)
def fm_153_p41 (Q : Int → lf_Z → Prop) (x0 : Int) (x1 : Int) (x2 : Int) (X41 : Int → Int → lf_Z → Prop) (x3 : Int) (x5 : Int) (s : lf_Z) : Prop := lf_R x5 ∧ (lf_R (x0 - x2) ∧ ((x0 - x2 ≤ x5 → (fm_153_p63L Q x3 x0 s)) ∧ (¬ (x0 - x2 ≤ x5) → (lf_R x1 ∧ (X41 (lf_wl ((lf_wl x3) * x1)) (x5 + 1) s)))))
def fm_153_p41L (Q : Int → lf_Z → Prop) (x0 : Int) (x1 : Int) (x2 : Int) (x3 : Int) (x5 : Int) (s : lf_Z) : Prop := ∀ X41 : Int → Int → lf_Z → Prop, (∀ (x3 : Int) (x5 : Int) (s : lf_Z), fm_153_p41 Q x0 x1 x2 X41 x3 x5 s → X41 x3 x5 s) → X41 x3 x5 s
set_option maxRecDepth 100000 in
theorem gm_153_p41 {L : Nat} {xs : Nat → Int32} {d : Nat} {Q : Int → lf_Z → Prop} {x0 : Int} {x1 : Int} {x2 : Int} {x3 : Int} {x5 : Int} {s : lf_Z} {X41 : Int → Int → lf_Z → Prop} (hX41 : ∀ x3 x5 s, X41 x3 x5 s → lf_E (px_ro L xs) (d + 1) 153 41 [(0, .int (Int32.ofInt x0)), (1, .int (Int32.ofInt x1)), (2, .int (Int32.ofInt x2)), (3, .long (Int64.ofInt x3)), (5, .int (Int32.ofInt x5))] [] s (lf_ql Q)) (h : fm_153_p41 Q x0 x1 x2 X41 x3 x5 s) : lf_E (px_ro L xs) (d + 1) 153 41 [(0, .int (Int32.ofInt x0)), (1, .int (Int32.ofInt x1)), (2, .int (Int32.ofInt x2)), (3, .long (Int64.ofInt x3)), (5, .int (Int32.ofInt x5))] [] s (lf_ql Q) := by
  unfold fm_153_p41 at h
  refine lf_eqs (lv' := [(0, .int (Int32.ofInt x0)), (1, .int (Int32.ofInt x1)), (2, .int (Int32.ofInt x2)), (3, .long (Int64.ofInt (lf_wl x3))), (5, .int (Int32.ofInt x5))]) (st' := []) (by simp only [lf_wlE]) rfl ?_
  refine lf_seg 3 (pc' := 45) (lv' := [(0, .int (Int32.ofInt x0)), (1, .int (Int32.ofInt x1)), (2, .int (Int32.ofInt x2)), (3, .long (Int64.ofInt (lf_wl x3))), (5, .int (Int32.ofInt x5))]) (st' := [.int (Int32.ofInt x2), .int (Int32.ofInt x0), .int (Int32.ofInt x5)]) rfl ?_
  refine lf_isub 46 rfl rfl ?_
  obtain ⟨o25, h⟩ := h
  obtain ⟨o26, h⟩ := h
  refine lf_icmp_ge 60 49 rfl rfl rfl o25 o26 (fun c => ?_) (fun c => ?_)
  · have h := h.1 c
    refine lf_seg 2 (pc' := 63) (lv' := [(5, .int (Int32.ofInt x0)), (0, .int (Int32.ofInt x0)), (1, .int (Int32.ofInt x1)), (2, .int (Int32.ofInt x2)), (3, .long (Int64.ofInt (lf_wl x3)))]) (st' := []) rfl ?_
    refine lf_eqs (lv' := [(5, .int (Int32.ofInt x0)), (0, .int (Int32.ofInt x0)), (1, .int (Int32.ofInt x1)), (2, .int (Int32.ofInt x2)), (3, .long (Int64.ofInt x3))]) (st' := []) (by simp only [lf_wlE]) rfl ?_
    refine lf_sub (l := [(3, .long (Int64.ofInt x3)), (5, .int (Int32.ofInt x0))]) (lf_sb1 rfl (lf_sb1 rfl lf_sb0)) ?_
    exact gm_153_p63L h
  · have h := h.2 c
    refine lf_seg 2 (pc' := 51) (lv' := [(0, .int (Int32.ofInt x0)), (1, .int (Int32.ofInt x1)), (2, .int (Int32.ofInt x2)), (3, .long (Int64.ofInt (lf_wl x3))), (5, .int (Int32.ofInt x5))]) (st' := [.int (Int32.ofInt x1), .long (Int64.ofInt (lf_wl x3))]) rfl ?_
    obtain ⟨o28, h⟩ := h
    refine lf_i2l 52 rfl rfl o28 ?_
    refine lf_lmul 53 rfl rfl ?_
    refine lf_wtL ?_
    refine lf_seg 1 (pc' := 54) (lv' := [(3, .long (Int64.ofInt (lf_wl ((lf_wl x3) * x1)))), (0, .int (Int32.ofInt x0)), (1, .int (Int32.ofInt x1)), (2, .int (Int32.ofInt x2)), (5, .int (Int32.ofInt x5))]) (st' := []) rfl ?_
    refine lf_iinc 57 rfl rfl rfl rfl ?_
    refine lf_seg 1 (pc' := 41) (lv' := [(5, .int (Int32.ofInt (x5 + 1))), (3, .long (Int64.ofInt (lf_wl ((lf_wl x3) * x1)))), (0, .int (Int32.ofInt x0)), (1, .int (Int32.ofInt x1)), (2, .int (Int32.ofInt x2))]) (st' := []) rfl ?_
    refine lf_sub (l := [(0, .int (Int32.ofInt x0)), (1, .int (Int32.ofInt x1)), (2, .int (Int32.ofInt x2)), (3, .long (Int64.ofInt (lf_wl ((lf_wl x3) * x1)))), (5, .int (Int32.ofInt (x5 + 1)))]) (lf_sb1 rfl (lf_sb1 rfl (lf_sb1 rfl (lf_sb1 rfl (lf_sb1 rfl lf_sb0))))) ?_
    exact hX41 _ _ _ h
theorem gm_153_p41L {L : Nat} {xs : Nat → Int32} {d : Nat} {Q : Int → lf_Z → Prop} {x0 : Int} {x1 : Int} {x2 : Int} {x3 : Int} {x5 : Int} {s : lf_Z} (h : fm_153_p41L Q x0 x1 x2 x3 x5 s) : lf_E (px_ro L xs) (d + 1) 153 41 [(0, .int (Int32.ofInt x0)), (1, .int (Int32.ofInt x1)), (2, .int (Int32.ofInt x2)), (3, .long (Int64.ofInt x3)), (5, .int (Int32.ofInt x5))] [] s (lf_ql Q) :=
  h (fun x3 x5 s => lf_E (px_ro L xs) (d + 1) 153 41 [(0, .int (Int32.ofInt x0)), (1, .int (Int32.ofInt x1)), (2, .int (Int32.ofInt x2)), (3, .long (Int64.ofInt x3)), (5, .int (Int32.ofInt x5))] [] s (lf_ql Q)) (fun x3 x5 s hb => gm_153_p41 (fun _ _ _ h => h) hb)
def fm_153_p12 (Q : Int → lf_Z → Prop) (x0 : Int) (x1 : Int) (x2 : Int) (X12 : Int → Int → lf_Z → Prop) (x3 : Int) (x5 : Int) (s : lf_Z) : Prop := lf_R x5 ∧ (lf_R (x0 - x2) ∧ ((x0 - x2 < x5 → (fm_153_p41L Q x0 x1 x2 x3 0 s)) ∧ (¬ (x0 - x2 < x5) → (lf_R (x2 + x5) ∧ (x5 ≠ 0 ∧ (X12 (lf_wl ((lf_wl ((lf_wl x3) * (x2 + x5))).tdiv x5)) (x5 + 1) s))))))
def fm_153_p12L (Q : Int → lf_Z → Prop) (x0 : Int) (x1 : Int) (x2 : Int) (x3 : Int) (x5 : Int) (s : lf_Z) : Prop := ∀ X12 : Int → Int → lf_Z → Prop, (∀ (x3 : Int) (x5 : Int) (s : lf_Z), fm_153_p12 Q x0 x1 x2 X12 x3 x5 s → X12 x3 x5 s) → X12 x3 x5 s
set_option maxRecDepth 100000 in
theorem gm_153_p12 {L : Nat} {xs : Nat → Int32} {d : Nat} {Q : Int → lf_Z → Prop} {x0 : Int} {x1 : Int} {x2 : Int} {x3 : Int} {x5 : Int} {s : lf_Z} {X12 : Int → Int → lf_Z → Prop} (hX12 : ∀ x3 x5 s, X12 x3 x5 s → lf_E (px_ro L xs) (d + 1) 153 12 [(0, .int (Int32.ofInt x0)), (1, .int (Int32.ofInt x1)), (2, .int (Int32.ofInt x2)), (3, .long (Int64.ofInt x3)), (5, .int (Int32.ofInt x5))] [] s (lf_ql Q)) (h : fm_153_p12 Q x0 x1 x2 X12 x3 x5 s) : lf_E (px_ro L xs) (d + 1) 153 12 [(0, .int (Int32.ofInt x0)), (1, .int (Int32.ofInt x1)), (2, .int (Int32.ofInt x2)), (3, .long (Int64.ofInt x3)), (5, .int (Int32.ofInt x5))] [] s (lf_ql Q) := by
  unfold fm_153_p12 at h
  refine lf_eqs (lv' := [(0, .int (Int32.ofInt x0)), (1, .int (Int32.ofInt x1)), (2, .int (Int32.ofInt x2)), (3, .long (Int64.ofInt (lf_wl x3))), (5, .int (Int32.ofInt x5))]) (st' := []) (by simp only [lf_wlE]) rfl ?_
  refine lf_seg 3 (pc' := 16) (lv' := [(0, .int (Int32.ofInt x0)), (1, .int (Int32.ofInt x1)), (2, .int (Int32.ofInt x2)), (3, .long (Int64.ofInt (lf_wl x3))), (5, .int (Int32.ofInt x5))]) (st' := [.int (Int32.ofInt x2), .int (Int32.ofInt x0), .int (Int32.ofInt x5)]) rfl ?_
  refine lf_isub 17 rfl rfl ?_
  obtain ⟨o23, h⟩ := h
  obtain ⟨o24, h⟩ := h
  refine lf_icmp_gt 38 20 rfl rfl rfl o23 o24 (fun c => ?_) (fun c => ?_)
  · have h := h.1 c
    refine lf_seg 2 (pc' := 41) (lv' := [(5, .int (Int32.ofInt 0)), (0, .int (Int32.ofInt x0)), (1, .int (Int32.ofInt x1)), (2, .int (Int32.ofInt x2)), (3, .long (Int64.ofInt (lf_wl x3)))]) (st' := []) rfl ?_
    refine lf_eqs (lv' := [(5, .int (Int32.ofInt 0)), (0, .int (Int32.ofInt x0)), (1, .int (Int32.ofInt x1)), (2, .int (Int32.ofInt x2)), (3, .long (Int64.ofInt x3))]) (st' := []) (by simp only [lf_wlE]) rfl ?_
    refine lf_sub (l := [(0, .int (Int32.ofInt x0)), (1, .int (Int32.ofInt x1)), (2, .int (Int32.ofInt x2)), (3, .long (Int64.ofInt x3)), (5, .int (Int32.ofInt 0))]) (lf_sb1 rfl (lf_sb1 rfl (lf_sb1 rfl (lf_sb1 rfl (lf_sb1 rfl lf_sb0))))) ?_
    exact gm_153_p41L h
  · have h := h.2 c
    refine lf_seg 3 (pc' := 24) (lv' := [(0, .int (Int32.ofInt x0)), (1, .int (Int32.ofInt x1)), (2, .int (Int32.ofInt x2)), (3, .long (Int64.ofInt (lf_wl x3))), (5, .int (Int32.ofInt x5))]) (st' := [.int (Int32.ofInt x5), .int (Int32.ofInt x2), .long (Int64.ofInt (lf_wl x3))]) rfl ?_
    refine lf_iadd 25 rfl rfl ?_
    obtain ⟨o29, h⟩ := h
    refine lf_i2l 26 rfl rfl o29 ?_
    refine lf_lmul 27 rfl rfl ?_
    refine lf_wtL ?_
    refine lf_seg 1 (pc' := 29) (lv' := [(0, .int (Int32.ofInt x0)), (1, .int (Int32.ofInt x1)), (2, .int (Int32.ofInt x2)), (3, .long (Int64.ofInt (lf_wl x3))), (5, .int (Int32.ofInt x5))]) (st' := [.int (Int32.ofInt x5), .long (Int64.ofInt (lf_wl ((lf_wl x3) * (x2 + x5))))]) rfl ?_
    refine lf_i2l 30 rfl rfl o23 ?_
    obtain ⟨o30, h⟩ := h
    refine lf_ldiv 31 rfl rfl lf_RLwl (lf_RLR o23) o30 ?_
    refine lf_wtL ?_
    refine lf_seg 1 (pc' := 32) (lv' := [(3, .long (Int64.ofInt (lf_wl ((lf_wl ((lf_wl x3) * (x2 + x5))).tdiv x5)))), (0, .int (Int32.ofInt x0)), (1, .int (Int32.ofInt x1)), (2, .int (Int32.ofInt x2)), (5, .int (Int32.ofInt x5))]) (st' := []) rfl ?_
    refine lf_iinc 35 rfl rfl rfl rfl ?_
    refine lf_seg 1 (pc' := 12) (lv' := [(5, .int (Int32.ofInt (x5 + 1))), (3, .long (Int64.ofInt (lf_wl ((lf_wl ((lf_wl x3) * (x2 + x5))).tdiv x5)))), (0, .int (Int32.ofInt x0)), (1, .int (Int32.ofInt x1)), (2, .int (Int32.ofInt x2))]) (st' := []) rfl ?_
    refine lf_sub (l := [(0, .int (Int32.ofInt x0)), (1, .int (Int32.ofInt x1)), (2, .int (Int32.ofInt x2)), (3, .long (Int64.ofInt (lf_wl ((lf_wl ((lf_wl x3) * (x2 + x5))).tdiv x5)))), (5, .int (Int32.ofInt (x5 + 1)))]) (lf_sb1 rfl (lf_sb1 rfl (lf_sb1 rfl (lf_sb1 rfl (lf_sb1 rfl lf_sb0))))) ?_
    exact hX12 _ _ _ h
theorem gm_153_p12L {L : Nat} {xs : Nat → Int32} {d : Nat} {Q : Int → lf_Z → Prop} {x0 : Int} {x1 : Int} {x2 : Int} {x3 : Int} {x5 : Int} {s : lf_Z} (h : fm_153_p12L Q x0 x1 x2 x3 x5 s) : lf_E (px_ro L xs) (d + 1) 153 12 [(0, .int (Int32.ofInt x0)), (1, .int (Int32.ofInt x1)), (2, .int (Int32.ofInt x2)), (3, .long (Int64.ofInt x3)), (5, .int (Int32.ofInt x5))] [] s (lf_ql Q) :=
  h (fun x3 x5 s => lf_E (px_ro L xs) (d + 1) 153 12 [(0, .int (Int32.ofInt x0)), (1, .int (Int32.ofInt x1)), (2, .int (Int32.ofInt x2)), (3, .long (Int64.ofInt x3)), (5, .int (Int32.ofInt x5))] [] s (lf_ql Q)) (fun x3 x5 s hb => gm_153_p12 (fun _ _ _ h => h) hb)
def fm_153 (a0 : Int) (a1 : Int) (a2 : Int) (Q : Int → lf_Z → Prop) (s : lf_Z) : Prop := lf_R a0 ∧ (lf_R a2 ∧ ((a2 ≤ a0 → (fm_153_p12L Q a0 a1 a2 1 1 s)) ∧ (¬ (a2 ≤ a0) → (Q 0 s))))
set_option maxRecDepth 100000 in
theorem gm_153 {L : Nat} {xs : Nat → Int32} {d : Nat} {a0 : Int} {a1 : Int} {a2 : Int} {Q : Int → lf_Z → Prop} {s : lf_Z} (h : fm_153 a0 a1 a2 Q s) : lf_M (px_ro L xs) (d + 1) 153 [.int (Int32.ofInt a0), .int (Int32.ofInt a1), .int (Int32.ofInt a2)] s (lf_ql Q) := by
  unfold fm_153 at h
  show lf_E (px_ro L xs) (d + 1) 153 0 [(0, .int (Int32.ofInt a0)), (1, .int (Int32.ofInt a1)), (2, .int (Int32.ofInt a2))] [] s _
  refine lf_seg 2 (pc' := 2) (lv' := [(0, .int (Int32.ofInt a0)), (1, .int (Int32.ofInt a1)), (2, .int (Int32.ofInt a2))]) (st' := [.int (Int32.ofInt a2), .int (Int32.ofInt a0)]) rfl ?_
  obtain ⟨o21, h⟩ := h
  obtain ⟨o22, h⟩ := h
  refine lf_icmp_ge 7 5 rfl rfl rfl o21 o22 (fun c => ?_) (fun c => ?_)
  · have h := h.1 c
    refine lf_lconst 8 1 rfl rfl (by decide) ?_
    refine lf_seg 3 (pc' := 12) (lv' := [(5, .int (Int32.ofInt 1)), (3, .long (Int64.ofInt 1)), (0, .int (Int32.ofInt a0)), (1, .int (Int32.ofInt a1)), (2, .int (Int32.ofInt a2))]) (st' := []) rfl ?_
    refine lf_sub (l := [(0, .int (Int32.ofInt a0)), (1, .int (Int32.ofInt a1)), (2, .int (Int32.ofInt a2)), (3, .long (Int64.ofInt 1)), (5, .int (Int32.ofInt 1))]) (lf_sb1 rfl (lf_sb1 rfl (lf_sb1 rfl (lf_sb1 rfl (lf_sb1 rfl lf_sb0))))) ?_
    exact gm_153_p12L h
  · have h := h.2 c
    refine lf_lconst 6 0 rfl rfl (by decide) ?_
    exact lf_retL rfl rfl h
-- fm_152 ElevenBullocks.many 0 i i i i
def fm_152_p30 (Q : Int → lf_Z → Prop) (s : lf_Z) : Prop := Q (-1) s
set_option maxRecDepth 100000 in
theorem gm_152_p30 {L : Nat} {xs : Nat → Int32} {d : Nat} {Q : Int → lf_Z → Prop} {s : lf_Z} (h : fm_152_p30 Q s) : lf_E (px_ro L xs) (d + 2) 152 30 [] [] s (lf_ql Q) := by
  unfold fm_152_p30 at h
  refine lf_ldc2 33 (-1) rfl rfl rfl (by decide) ?_
  exact lf_retL rfl rfl h
def fm_152_p40 (Q : Int → lf_Z → Prop) (x1 : Int) (x2 : Int) (x3 : Int) (x4 : Int) (X40 : Int → Int → lf_Z → Prop) (x5 : Int) (x7 : Int) (s : lf_Z) : Prop := lf_R x7 ∧ ((12 < x7 → (fm_153 x3 x1 x2 (fun r29 s28 => (fm_125 (lf_wl r29) (lf_wl x5) x4 (fun r31 s30 => (Q (lf_wl r31) s30)) s28)) s)) ∧ (¬ (12 < x7) → (fm_153 x7 x1 x2 (fun r33 s32 => (X40 (lf_wl ((lf_wl x5) + (lf_wl r33))) (x7 + 1) s32)) s)))
def fm_152_p40L (Q : Int → lf_Z → Prop) (x1 : Int) (x2 : Int) (x3 : Int) (x4 : Int) (x5 : Int) (x7 : Int) (s : lf_Z) : Prop := ∀ X40 : Int → Int → lf_Z → Prop, (∀ (x5 : Int) (x7 : Int) (s : lf_Z), fm_152_p40 Q x1 x2 x3 x4 X40 x5 x7 s → X40 x5 x7 s) → X40 x5 x7 s
set_option maxRecDepth 100000 in
theorem gm_152_p40 {L : Nat} {xs : Nat → Int32} {d : Nat} {Q : Int → lf_Z → Prop} {x1 : Int} {x2 : Int} {x3 : Int} {x4 : Int} {x5 : Int} {x7 : Int} {s : lf_Z} {X40 : Int → Int → lf_Z → Prop} (hX40 : ∀ x5 x7 s, X40 x5 x7 s → lf_E (px_ro L xs) (d + 2) 152 40 [(1, .int (Int32.ofInt x1)), (2, .int (Int32.ofInt x2)), (3, .int (Int32.ofInt x3)), (4, .int (Int32.ofInt x4)), (5, .long (Int64.ofInt x5)), (7, .int (Int32.ofInt x7))] [] s (lf_ql Q)) (h : fm_152_p40 Q x1 x2 x3 x4 X40 x5 x7 s) : lf_E (px_ro L xs) (d + 2) 152 40 [(1, .int (Int32.ofInt x1)), (2, .int (Int32.ofInt x2)), (3, .int (Int32.ofInt x3)), (4, .int (Int32.ofInt x4)), (5, .long (Int64.ofInt x5)), (7, .int (Int32.ofInt x7))] [] s (lf_ql Q) := by
  unfold fm_152_p40 at h
  refine lf_eqs (lv' := [(1, .int (Int32.ofInt x1)), (2, .int (Int32.ofInt x2)), (3, .int (Int32.ofInt x3)), (4, .int (Int32.ofInt x4)), (5, .long (Int64.ofInt (lf_wl x5))), (7, .int (Int32.ofInt x7))]) (st' := []) (by simp only [lf_wlE]) rfl ?_
  refine lf_seg 1 (pc' := 42) (lv' := [(1, .int (Int32.ofInt x1)), (2, .int (Int32.ofInt x2)), (3, .int (Int32.ofInt x3)), (4, .int (Int32.ofInt x4)), (5, .long (Int64.ofInt (lf_wl x5))), (7, .int (Int32.ofInt x7))]) (st' := [.int (Int32.ofInt x7)]) rfl ?_
  refine lf_bipush 44 12 rfl rfl (by decide) (by decide) ?_
  obtain ⟨o27, h⟩ := h
  refine lf_icmp_gt 65 47 rfl rfl rfl o27 ⟨by decide, by decide⟩ (fun c => ?_) (fun c => ?_)
  · have h := h.1 c
    refine lf_seg 3 (pc' := 68) (lv' := [(1, .int (Int32.ofInt x1)), (2, .int (Int32.ofInt x2)), (3, .int (Int32.ofInt x3)), (4, .int (Int32.ofInt x4)), (5, .long (Int64.ofInt (lf_wl x5))), (7, .int (Int32.ofInt x7))]) (st' := [.int (Int32.ofInt x2), .int (Int32.ofInt x1), .int (Int32.ofInt x3)]) rfl ?_
    refine lf_callL 71 rfl rfl rfl rfl (gm_153 h) (fun r29 s28 h => ?_)
    refine lf_wtL ?_
    refine lf_seg 2 (pc' := 75) (lv' := [(1, .int (Int32.ofInt x1)), (2, .int (Int32.ofInt x2)), (3, .int (Int32.ofInt x3)), (4, .int (Int32.ofInt x4)), (5, .long (Int64.ofInt (lf_wl x5))), (7, .int (Int32.ofInt x7))]) (st' := [.int (Int32.ofInt x4), .long (Int64.ofInt (lf_wl x5)), .long (Int64.ofInt (lf_wl r29))]) rfl ?_
    refine lf_callL 78 rfl rfl rfl rfl (gm_125 h) (fun r31 s30 h => ?_)
    refine lf_wtL ?_
    exact lf_retL rfl rfl h
  · have h := h.2 c
    refine lf_seg 4 (pc' := 53) (lv' := [(1, .int (Int32.ofInt x1)), (2, .int (Int32.ofInt x2)), (3, .int (Int32.ofInt x3)), (4, .int (Int32.ofInt x4)), (5, .long (Int64.ofInt (lf_wl x5))), (7, .int (Int32.ofInt x7))]) (st' := [.int (Int32.ofInt x2), .int (Int32.ofInt x1), .int (Int32.ofInt x7), .long (Int64.ofInt (lf_wl x5))]) rfl ?_
    refine lf_callL 56 rfl rfl rfl rfl (gm_153 h) (fun r33 s32 h => ?_)
    refine lf_wtL ?_
    refine lf_ladd 57 rfl rfl ?_
    refine lf_wtL ?_
    refine lf_seg 1 (pc' := 59) (lv' := [(5, .long (Int64.ofInt (lf_wl ((lf_wl x5) + (lf_wl r33))))), (1, .int (Int32.ofInt x1)), (2, .int (Int32.ofInt x2)), (3, .int (Int32.ofInt x3)), (4, .int (Int32.ofInt x4)), (7, .int (Int32.ofInt x7))]) (st' := []) rfl ?_
    refine lf_iinc 62 rfl rfl rfl rfl ?_
    refine lf_seg 1 (pc' := 40) (lv' := [(7, .int (Int32.ofInt (x7 + 1))), (5, .long (Int64.ofInt (lf_wl ((lf_wl x5) + (lf_wl r33))))), (1, .int (Int32.ofInt x1)), (2, .int (Int32.ofInt x2)), (3, .int (Int32.ofInt x3)), (4, .int (Int32.ofInt x4))]) (st' := []) rfl ?_
    refine lf_sub (l := [(1, .int (Int32.ofInt x1)), (2, .int (Int32.ofInt x2)), (3, .int (Int32.ofInt x3)), (4, .int (Int32.ofInt x4)), (5, .long (Int64.ofInt (lf_wl ((lf_wl x5) + (lf_wl r33))))), (7, .int (Int32.ofInt (x7 + 1)))]) (lf_sb1 rfl (lf_sb1 rfl (lf_sb1 rfl (lf_sb1 rfl (lf_sb1 rfl (lf_sb1 rfl lf_sb0)))))) ?_
    exact hX40 _ _ _ h
theorem gm_152_p40L {L : Nat} {xs : Nat → Int32} {d : Nat} {Q : Int → lf_Z → Prop} {x1 : Int} {x2 : Int} {x3 : Int} {x4 : Int} {x5 : Int} {x7 : Int} {s : lf_Z} (h : fm_152_p40L Q x1 x2 x3 x4 x5 x7 s) : lf_E (px_ro L xs) (d + 2) 152 40 [(1, .int (Int32.ofInt x1)), (2, .int (Int32.ofInt x2)), (3, .int (Int32.ofInt x3)), (4, .int (Int32.ofInt x4)), (5, .long (Int64.ofInt x5)), (7, .int (Int32.ofInt x7))] [] s (lf_ql Q) :=
  h (fun x5 x7 s => lf_E (px_ro L xs) (d + 2) 152 40 [(1, .int (Int32.ofInt x1)), (2, .int (Int32.ofInt x2)), (3, .int (Int32.ofInt x3)), (4, .int (Int32.ofInt x4)), (5, .long (Int64.ofInt x5)), (7, .int (Int32.ofInt x7))] [] s (lf_ql Q)) (fun x5 x7 s hb => gm_152_p40 (fun _ _ _ h => h) hb)
def fm_152 (a1 : Int) (a2 : Int) (a3 : Int) (a4 : Int) (Q : Int → lf_Z → Prop) (s : lf_Z) : Prop := fm_15 a1 0 9 (fun z22 s21 => ((z22 = false → (fm_152_p30 Q s21)) ∧ (z22 = true → (fm_15 a2 0 12 (fun z24 s23 => ((z24 = false → (fm_152_p30 Q s23)) ∧ (z24 = true → (fm_15 a3 0 12 (fun z26 s25 => ((z26 = true → (fm_152_p40L Q a1 a2 a3 a4 0 0 s25)) ∧ (z26 = false → (fm_152_p30 Q s25)))) s23)))) s21)))) s
set_option maxRecDepth 100000 in
theorem gm_152 {L : Nat} {xs : Nat → Int32} {d : Nat} {a1 : Int} {a2 : Int} {a3 : Int} {a4 : Int} {Q : Int → lf_Z → Prop} {s : lf_Z} (h : fm_152 a1 a2 a3 a4 Q s) : lf_M (px_ro L xs) (d + 2) 152 [.ref 0, .int (Int32.ofInt a1), .int (Int32.ofInt a2), .int (Int32.ofInt a3), .int (Int32.ofInt a4)] s (lf_ql Q) := by
  unfold fm_152 at h
  show lf_E (px_ro L xs) (d + 2) 152 0 [(0, .ref 0), (1, .int (Int32.ofInt a1)), (2, .int (Int32.ofInt a2)), (3, .int (Int32.ofInt a3)), (4, .int (Int32.ofInt a4))] [] s _
  refine lf_seg 2 (pc' := 2) (lv' := [(0, .ref 0), (1, .int (Int32.ofInt a1)), (2, .int (Int32.ofInt a2)), (3, .int (Int32.ofInt a3)), (4, .int (Int32.ofInt a4))]) (st' := [.int (Int32.ofInt 0), .int (Int32.ofInt a1)]) rfl ?_
  refine lf_bipush 4 9 rfl rfl (by decide) (by decide) ?_
  refine lf_callZ 7 rfl rfl rfl rfl (gm_15 h) (fun z22 s21 h => ?_)
  refine lf_ifz_eq 30 10 rfl rfl rfl (fun c => ?_) (fun c => ?_)
  · have h := h.1 c
    refine lf_sub (l := []) lf_sb0 ?_
    exact gm_152_p30 h
  · have h := h.2 c
    refine lf_seg 2 (pc' := 12) (lv' := [(0, .ref 0), (1, .int (Int32.ofInt a1)), (2, .int (Int32.ofInt a2)), (3, .int (Int32.ofInt a3)), (4, .int (Int32.ofInt a4))]) (st' := [.int (Int32.ofInt 0), .int (Int32.ofInt a2)]) rfl ?_
    refine lf_bipush 14 12 rfl rfl (by decide) (by decide) ?_
    refine lf_callZ 17 rfl rfl rfl rfl (gm_15 h) (fun z24 s23 h => ?_)
    refine lf_ifz_eq 30 20 rfl rfl rfl (fun c => ?_) (fun c => ?_)
    · have h := h.1 c
      refine lf_sub (l := []) lf_sb0 ?_
      exact gm_152_p30 h
    · have h := h.2 c
      refine lf_seg 2 (pc' := 22) (lv' := [(0, .ref 0), (1, .int (Int32.ofInt a1)), (2, .int (Int32.ofInt a2)), (3, .int (Int32.ofInt a3)), (4, .int (Int32.ofInt a4))]) (st' := [.int (Int32.ofInt 0), .int (Int32.ofInt a3)]) rfl ?_
      refine lf_bipush 24 12 rfl rfl (by decide) (by decide) ?_
      refine lf_callZ 27 rfl rfl rfl rfl (gm_15 h) (fun z26 s25 h => ?_)
      refine lf_ifz_ne 34 30 rfl rfl rfl (fun c => ?_) (fun c => ?_)
      · have h := h.1 c
        refine lf_lconst 35 0 rfl rfl (by decide) ?_
        refine lf_seg 3 (pc' := 40) (lv' := [(7, .int (Int32.ofInt 0)), (5, .long (Int64.ofInt 0)), (0, .ref 0), (1, .int (Int32.ofInt a1)), (2, .int (Int32.ofInt a2)), (3, .int (Int32.ofInt a3)), (4, .int (Int32.ofInt a4))]) (st' := []) rfl ?_
        refine lf_sub (l := [(1, .int (Int32.ofInt a1)), (2, .int (Int32.ofInt a2)), (3, .int (Int32.ofInt a3)), (4, .int (Int32.ofInt a4)), (5, .long (Int64.ofInt 0)), (7, .int (Int32.ofInt 0))]) (lf_sb1 rfl (lf_sb1 rfl (lf_sb1 rfl (lf_sb1 rfl (lf_sb1 rfl (lf_sb1 rfl lf_sb0)))))) ?_
        exact gm_152_p40L h
      · have h := h.2 c
        refine lf_sub (l := []) lf_sb0 ?_
        exact gm_152_p30 h
-- fm_310 Model.power l i
def fm_310_p5 (Q : Int → lf_Z → Prop) (x0 : Int) (x2 : Int) (X5 : Int → Int → lf_Z → Prop) (x3 : Int) (x5 : Int) (s : lf_Z) : Prop := lf_R x5 ∧ (lf_R x2 ∧ ((x2 ≤ x5 → (Q (lf_wl x3) s)) ∧ (¬ (x2 ≤ x5) → (X5 (lf_wl ((lf_wl x3) * (lf_wl x0))) (x5 + 1) s))))
def fm_310_p5L (Q : Int → lf_Z → Prop) (x0 : Int) (x2 : Int) (x3 : Int) (x5 : Int) (s : lf_Z) : Prop := ∀ X5 : Int → Int → lf_Z → Prop, (∀ (x3 : Int) (x5 : Int) (s : lf_Z), fm_310_p5 Q x0 x2 X5 x3 x5 s → X5 x3 x5 s) → X5 x3 x5 s
set_option maxRecDepth 100000 in
theorem gm_310_p5 {L : Nat} {xs : Nat → Int32} {d : Nat} {Q : Int → lf_Z → Prop} {x0 : Int} {x2 : Int} {x3 : Int} {x5 : Int} {s : lf_Z} {X5 : Int → Int → lf_Z → Prop} (hX5 : ∀ x3 x5 s, X5 x3 x5 s → lf_E (px_ro L xs) (d + 1) 310 5 [(0, .long (Int64.ofInt x0)), (2, .int (Int32.ofInt x2)), (3, .long (Int64.ofInt x3)), (5, .int (Int32.ofInt x5))] [] s (lf_ql Q)) (h : fm_310_p5 Q x0 x2 X5 x3 x5 s) : lf_E (px_ro L xs) (d + 1) 310 5 [(0, .long (Int64.ofInt x0)), (2, .int (Int32.ofInt x2)), (3, .long (Int64.ofInt x3)), (5, .int (Int32.ofInt x5))] [] s (lf_ql Q) := by
  unfold fm_310_p5 at h
  refine lf_eqs (lv' := [(0, .long (Int64.ofInt (lf_wl x0))), (2, .int (Int32.ofInt x2)), (3, .long (Int64.ofInt (lf_wl x3))), (5, .int (Int32.ofInt x5))]) (st' := []) (by simp only [lf_wlE]) rfl ?_
  refine lf_seg 2 (pc' := 8) (lv' := [(0, .long (Int64.ofInt (lf_wl x0))), (2, .int (Int32.ofInt x2)), (3, .long (Int64.ofInt (lf_wl x3))), (5, .int (Int32.ofInt x5))]) (st' := [.int (Int32.ofInt x2), .int (Int32.ofInt x5)]) rfl ?_
  obtain ⟨o21, h⟩ := h
  obtain ⟨o22, h⟩ := h
  refine lf_icmp_ge 21 11 rfl rfl rfl o21 o22 (fun c => ?_) (fun c => ?_)
  · have h := h.1 c
    refine lf_seg 1 (pc' := 22) (lv' := [(0, .long (Int64.ofInt (lf_wl x0))), (2, .int (Int32.ofInt x2)), (3, .long (Int64.ofInt (lf_wl x3))), (5, .int (Int32.ofInt x5))]) (st' := [.long (Int64.ofInt (lf_wl x3))]) rfl ?_
    exact lf_retL rfl rfl h
  · have h := h.2 c
    refine lf_seg 2 (pc' := 13) (lv' := [(0, .long (Int64.ofInt (lf_wl x0))), (2, .int (Int32.ofInt x2)), (3, .long (Int64.ofInt (lf_wl x3))), (5, .int (Int32.ofInt x5))]) (st' := [.long (Int64.ofInt (lf_wl x0)), .long (Int64.ofInt (lf_wl x3))]) rfl ?_
    refine lf_lmul 14 rfl rfl ?_
    refine lf_wtL ?_
    refine lf_seg 1 (pc' := 15) (lv' := [(3, .long (Int64.ofInt (lf_wl ((lf_wl x3) * (lf_wl x0))))), (0, .long (Int64.ofInt (lf_wl x0))), (2, .int (Int32.ofInt x2)), (5, .int (Int32.ofInt x5))]) (st' := []) rfl ?_
    refine lf_iinc 18 rfl rfl rfl rfl ?_
    refine lf_seg 1 (pc' := 5) (lv' := [(5, .int (Int32.ofInt (x5 + 1))), (3, .long (Int64.ofInt (lf_wl ((lf_wl x3) * (lf_wl x0))))), (0, .long (Int64.ofInt (lf_wl x0))), (2, .int (Int32.ofInt x2))]) (st' := []) rfl ?_
    refine lf_eqs (lv' := [(5, .int (Int32.ofInt (x5 + 1))), (3, .long (Int64.ofInt (lf_wl ((lf_wl x3) * (lf_wl x0))))), (0, .long (Int64.ofInt x0)), (2, .int (Int32.ofInt x2))]) (st' := []) (by simp only [lf_wlE]) rfl ?_
    refine lf_sub (l := [(0, .long (Int64.ofInt x0)), (2, .int (Int32.ofInt x2)), (3, .long (Int64.ofInt (lf_wl ((lf_wl x3) * (lf_wl x0))))), (5, .int (Int32.ofInt (x5 + 1)))]) (lf_sb1 rfl (lf_sb1 rfl (lf_sb1 rfl (lf_sb1 rfl lf_sb0)))) ?_
    exact hX5 _ _ _ h
theorem gm_310_p5L {L : Nat} {xs : Nat → Int32} {d : Nat} {Q : Int → lf_Z → Prop} {x0 : Int} {x2 : Int} {x3 : Int} {x5 : Int} {s : lf_Z} (h : fm_310_p5L Q x0 x2 x3 x5 s) : lf_E (px_ro L xs) (d + 1) 310 5 [(0, .long (Int64.ofInt x0)), (2, .int (Int32.ofInt x2)), (3, .long (Int64.ofInt x3)), (5, .int (Int32.ofInt x5))] [] s (lf_ql Q) :=
  h (fun x3 x5 s => lf_E (px_ro L xs) (d + 1) 310 5 [(0, .long (Int64.ofInt x0)), (2, .int (Int32.ofInt x2)), (3, .long (Int64.ofInt x3)), (5, .int (Int32.ofInt x5))] [] s (lf_ql Q)) (fun x3 x5 s hb => gm_310_p5 (fun _ _ _ h => h) hb)
def fm_310 (a0 : Int) (a1 : Int) (Q : Int → lf_Z → Prop) (s : lf_Z) : Prop := fm_310_p5L Q a0 a1 1 0 s
set_option maxRecDepth 100000 in
theorem gm_310 {L : Nat} {xs : Nat → Int32} {d : Nat} {a0 : Int} {a1 : Int} {Q : Int → lf_Z → Prop} {s : lf_Z} (h : fm_310 a0 a1 Q s) : lf_M (px_ro L xs) (d + 1) 310 [.long (Int64.ofInt a0), .int (Int32.ofInt a1)] s (lf_ql Q) := by
  unfold fm_310 at h
  show lf_E (px_ro L xs) (d + 1) 310 0 [(0, .long (Int64.ofInt a0)), (2, .int (Int32.ofInt a1))] [] s _
  refine lf_eqs (lv' := [(0, .long (Int64.ofInt (lf_wl a0))), (2, .int (Int32.ofInt a1))]) (st' := []) (by simp only [lf_wlE]) rfl ?_
  refine lf_lconst 1 1 rfl rfl (by decide) ?_
  refine lf_seg 3 (pc' := 5) (lv' := [(5, .int (Int32.ofInt 0)), (3, .long (Int64.ofInt 1)), (0, .long (Int64.ofInt (lf_wl a0))), (2, .int (Int32.ofInt a1))]) (st' := []) rfl ?_
  refine lf_eqs (lv' := [(5, .int (Int32.ofInt 0)), (3, .long (Int64.ofInt 1)), (0, .long (Int64.ofInt a0)), (2, .int (Int32.ofInt a1))]) (st' := []) (by simp only [lf_wlE]) rfl ?_
  refine lf_sub (l := [(0, .long (Int64.ofInt a0)), (2, .int (Int32.ofInt a1)), (3, .long (Int64.ofInt 1)), (5, .int (Int32.ofInt 0))]) (lf_sb1 rfl (lf_sb1 rfl (lf_sb1 rfl (lf_sb1 rfl lf_sb0)))) ?_
  exact gm_310_p5L h
