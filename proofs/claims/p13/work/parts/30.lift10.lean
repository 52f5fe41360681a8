-- fm_267 Model.says 95 i i i i
def fm_267_p3 (Q : Int → lf_Z → Prop) (x1 : Int) (x2 : Int) (x3 : Int) (x4 : Int) (X3 : Int → lf_Z → Prop) (x5 : Int) (s : lf_Z) : Prop := lf_R x1 ∧ ((x1 < 0 → (Q x3 s)) ∧ (¬ (x1 < 0) → ((0 ≤ 705 * x1 ∧ 705 * x1 < 2820) ∧ (lf_R x5 ∧ (lf_R (s.1 98 (705 * x1)) ∧ ((s.1 98 (705 * x1) ≤ x5 → (Q x3 s)) ∧ (¬ (s.1 98 (705 * x1) ≤ x5) → ((0 ≤ ((705 * x1) + 1) + (4 * x5) ∧ ((705 * x1) + 1) + (4 * x5) < 2820) ∧ (lf_R (s.1 98 (((705 * x1) + 1) + (4 * x5))) ∧ (lf_R x2 ∧ ((s.1 98 (((705 * x1) + 1) + (4 * x5)) = x2 → (fm_268 x1 x5 (fun r29 s28 => (lf_R r29 ∧ ((0 ≤ r29 → (lf_R x4 ∧ ((r29 ≤ x4 → (Q r29 s28)) ∧ (¬ (r29 ≤ x4) → (Q x4 s28))))) ∧ (¬ (0 ≤ r29) → (Q 0 s28))))) s)) ∧ (¬ (s.1 98 (((705 * x1) + 1) + (4 * x5)) = x2) → (X3 (x5 + 1) s)))))))))))))
def fm_267_p3L (Q : Int → lf_Z → Prop) (x1 : Int) (x2 : Int) (x3 : Int) (x4 : Int) (x5 : Int) (s : lf_Z) : Prop := ∀ X3 : Int → lf_Z → Prop, (∀ (x5 : Int) (s : lf_Z), fm_267_p3 Q x1 x2 x3 x4 X3 x5 s → X3 x5 s) → X3 x5 s
set_option maxRecDepth 100000 in
theorem gm_267_p3 {L : Nat} {xs : Nat → Int32} {d : Nat} {Q : Int → lf_Z → Prop} {x1 : Int} {x2 : Int} {x3 : Int} {x4 : Int} {x5 : Int} {s : lf_Z} {X3 : Int → lf_Z → Prop} (hX3 : ∀ x5 s, X3 x5 s → lf_E (px_ro L xs) (d + 4) 267 3 [(0, .ref 95), (1, .int (Int32.ofInt x1)), (2, .int (Int32.ofInt x2)), (3, .int (Int32.ofInt x3)), (4, .int (Int32.ofInt x4)), (5, .int (Int32.ofInt x5))] [] s (lf_qi Q)) (h : fm_267_p3 Q x1 x2 x3 x4 X3 x5 s) : lf_E (px_ro L xs) (d + 4) 267 3 [(0, .ref 95), (1, .int (Int32.ofInt x1)), (2, .int (Int32.ofInt x2)), (3, .int (Int32.ofInt x3)), (4, .int (Int32.ofInt x4)), (5, .int (Int32.ofInt x5))] [] s (lf_qi Q) := by
  unfold fm_267_p3 at h
  refine lf_seg 1 (pc' := 4) (lv' := [(0, .ref 95), (1, .int (Int32.ofInt x1)), (2, .int (Int32.ofInt x2)), (3, .int (Int32.ofInt x3)), (4, .int (Int32.ofInt x4)), (5, .int (Int32.ofInt x5))]) (st' := [.int (Int32.ofInt x1)]) rfl ?_
  obtain ⟨o21, h⟩ := h
  refine lf_if_lt 85 7 rfl rfl rfl o21 (fun c => ?_) (fun c => ?_)
  · have h := h.1 c
    refine lf_seg 1 (pc' := 86) (lv' := [(0, .ref 95), (1, .int (Int32.ofInt x1)), (2, .int (Int32.ofInt x2)), (3, .int (Int32.ofInt x3)), (4, .int (Int32.ofInt x4)), (5, .int (Int32.ofInt x5))]) (st' := [.int (Int32.ofInt x3)]) rfl ?_
    exact lf_retI rfl rfl h
  · have h := h.2 c
    refine lf_seg 3 (pc' := 13) (lv' := [(0, .ref 95), (1, .int (Int32.ofInt x1)), (2, .int (Int32.ofInt x2)), (3, .int (Int32.ofInt x3)), (4, .int (Int32.ofInt x4)), (5, .int (Int32.ofInt x5))]) (st' := [.ref 98, .int (Int32.ofInt x5)]) rfl ?_
    refine lf_sipush 16 705 rfl rfl (by decide) (by decide) ?_
    refine lf_seg 1 (pc' := 17) (lv' := [(0, .ref 95), (1, .int (Int32.ofInt x1)), (2, .int (Int32.ofInt x2)), (3, .int (Int32.ofInt x3)), (4, .int (Int32.ofInt x4)), (5, .int (Int32.ofInt x5))]) (st' := [.int (Int32.ofInt x1), .int (Int32.ofInt 705), .ref 98, .int (Int32.ofInt x5)]) rfl ?_
    refine lf_imul 18 rfl rfl ?_
    obtain ⟨o22, h⟩ := h
    refine lf_iald 19 2820 rfl rfl rfl rfl rfl rfl o22 ?_
    obtain ⟨o23, h⟩ := h
    obtain ⟨o24, h⟩ := h
    refine lf_icmp_ge 85 22 rfl rfl rfl o23 o24 (fun c => ?_) (fun c => ?_)
    · have h := h.1 c
      refine lf_seg 1 (pc' := 86) (lv' := [(0, .ref 95), (1, .int (Int32.ofInt x1)), (2, .int (Int32.ofInt x2)), (3, .int (Int32.ofInt x3)), (4, .int (Int32.ofInt x4)), (5, .int (Int32.ofInt x5))]) (st' := [.int (Int32.ofInt x3)]) rfl ?_
      exact lf_retI rfl rfl h
    · have h := h.2 c
      refine lf_seg 2 (pc' := 26) (lv' := [(0, .ref 95), (1, .int (Int32.ofInt x1)), (2, .int (Int32.ofInt x2)), (3, .int (Int32.ofInt x3)), (4, .int (Int32.ofInt x4)), (5, .int (Int32.ofInt x5))]) (st' := [.ref 98]) rfl ?_
      refine lf_sipush 29 705 rfl rfl (by decide) (by decide) ?_
      refine lf_seg 1 (pc' := 30) (lv' := [(0, .ref 95), (1, .int (Int32.ofInt x1)), (2, .int (Int32.ofInt x2)), (3, .int (Int32.ofInt x3)), (4, .int (Int32.ofInt x4)), (5, .int (Int32.ofInt x5))]) (st' := [.int (Int32.ofInt x1), .int (Int32.ofInt 705), .ref 98]) rfl ?_
      refine lf_imul 31 rfl rfl ?_
      refine lf_seg 1 (pc' := 32) (lv' := [(0, .ref 95), (1, .int (Int32.ofInt x1)), (2, .int (Int32.ofInt x2)), (3, .int (Int32.ofInt x3)), (4, .int (Int32.ofInt x4)), (5, .int (Int32.ofInt x5))]) (st' := [.int (Int32.ofInt 1), .int (Int32.ofInt (705 * x1)), .ref 98]) rfl ?_
      refine lf_iadd 33 rfl rfl ?_
      refine lf_seg 2 (pc' := 36) (lv' := [(0, .ref 95), (1, .int (Int32.ofInt x1)), (2, .int (Int32.ofInt x2)), (3, .int (Int32.ofInt x3)), (4, .int (Int32.ofInt x4)), (5, .int (Int32.ofInt x5))]) (st' := [.int (Int32.ofInt x5), .int (Int32.ofInt 4), .int (Int32.ofInt ((705 * x1) + 1)), .ref 98]) rfl ?_
      refine lf_imul 37 rfl rfl ?_
      refine lf_iadd 38 rfl rfl ?_
      obtain ⟨o25, h⟩ := h
      refine lf_iald 39 2820 rfl rfl rfl rfl rfl rfl o25 ?_
      refine lf_seg 1 (pc' := 40) (lv' := [(0, .ref 95), (1, .int (Int32.ofInt x1)), (2, .int (Int32.ofInt x2)), (3, .int (Int32.ofInt x3)), (4, .int (Int32.ofInt x4)), (5, .int (Int32.ofInt x5))]) (st' := [.int (Int32.ofInt x2), .int (Int32.ofInt (s.1 98 (((705 * x1) + 1) + (4 * x5))))]) rfl ?_
      obtain ⟨o26, h⟩ := h
      obtain ⟨o27, h⟩ := h
      refine lf_icmp_eq 46 43 rfl rfl rfl o26 o27 (fun c => ?_) (fun c => ?_)
      · have h := h.1 c
        refine lf_seg 3 (pc' := 50) (lv' := [(0, .ref 95), (1, .int (Int32.ofInt x1)), (2, .int (Int32.ofInt x2)), (3, .int (Int32.ofInt x3)), (4, .int (Int32.ofInt x4)), (5, .int (Int32.ofInt x5))]) (st' := [.int (Int32.ofInt x5), .int (Int32.ofInt x1), .ref 95]) rfl ?_
        refine lf_callI 53 rfl rfl rfl rfl (gm_268 h) (fun r29 s28 h => ?_)
        refine lf_seg 2 (pc' := 57) (lv' := [(6, .int (Int32.ofInt r29)), (0, .ref 95), (1, .int (Int32.ofInt x1)), (2, .int (Int32.ofInt x2)), (3, .int (Int32.ofInt x3)), (4, .int (Int32.ofInt x4)), (5, .int (Int32.ofInt x5))]) (st' := [.int (Int32.ofInt r29)]) rfl ?_
        obtain ⟨o30, h⟩ := h
        refine lf_if_ge 64 60 rfl rfl rfl o30 (fun c => ?_) (fun c => ?_)
        · have h := h.1 c
          refine lf_seg 2 (pc' := 68) (lv' := [(6, .int (Int32.ofInt r29)), (0, .ref 95), (1, .int (Int32.ofInt x1)), (2, .int (Int32.ofInt x2)), (3, .int (Int32.ofInt x3)), (4, .int (Int32.ofInt x4)), (5, .int (Int32.ofInt x5))]) (st' := [.int (Int32.ofInt x4), .int (Int32.ofInt r29)]) rfl ?_
          obtain ⟨o31, h⟩ := h
          refine lf_icmp_le 76 71 rfl rfl rfl o30 o31 (fun c => ?_) (fun c => ?_)
          · have h := h.1 c
            refine lf_seg 1 (pc' := 78) (lv' := [(6, .int (Int32.ofInt r29)), (0, .ref 95), (1, .int (Int32.ofInt x1)), (2, .int (Int32.ofInt x2)), (3, .int (Int32.ofInt x3)), (4, .int (Int32.ofInt x4)), (5, .int (Int32.ofInt x5))]) (st' := [.int (Int32.ofInt r29)]) rfl ?_
            exact lf_retI rfl rfl h
          · have h := h.2 c
            refine lf_seg 2 (pc' := 78) (lv' := [(6, .int (Int32.ofInt r29)), (0, .ref 95), (1, .int (Int32.ofInt x1)), (2, .int (Int32.ofInt x2)), (3, .int (Int32.ofInt x3)), (4, .int (Int32.ofInt x4)), (5, .int (Int32.ofInt x5))]) (st' := [.int (Int32.ofInt x4)]) rfl ?_
            exact lf_retI rfl rfl h
        · have h := h.2 c
          refine lf_seg 2 (pc' := 78) (lv' := [(6, .int (Int32.ofInt r29)), (0, .ref 95), (1, .int (Int32.ofInt x1)), (2, .int (Int32.ofInt x2)), (3, .int (Int32.ofInt x3)), (4, .int (Int32.ofInt x4)), (5, .int (Int32.ofInt x5))]) (st' := [.int (Int32.ofInt 0)]) rfl ?_
          exact lf_retI rfl rfl h
      · have h := h.2 c
        refine lf_seg 1 (pc' := 79) (lv' := [(0, .ref 95), (1, .int (Int32.ofInt x1)), (2, .int (Int32.ofInt x2)), (3, .int (Int32.ofInt x3)), (4, .int (Int32.ofInt x4)), (5, .int (Int32.ofInt x5))]) (st' := []) rfl ?_
        refine lf_iinc 82 rfl rfl rfl rfl ?_
        refine lf_seg 1 (pc' := 3) (lv' := [(5, .int (Int32.ofInt (x5 + 1))), (0, .ref 95), (1, .int (Int32.ofInt x1)), (2, .int (Int32.ofInt x2)), (3, .int (Int32.ofInt x3)), (4, .int (Int32.ofInt x4))]) (st' := []) rfl ?_
        refine lf_sub (l := [(0, .ref 95), (1, .int (Int32.ofInt x1)), (2, .int (Int32.ofInt x2)), (3, .int (Int32.ofInt x3)), (4, .int (Int32.ofInt x4)), (5, .int (Int32.ofInt (x5 + 1)))]) (lf_sb1 rfl (lf_sb1 rfl (lf_sb1 rfl (lf_sb1 rfl (lf_sb1 rfl (lf_sb1 rfl lf_sb0)))))) ?_
        exact hX3 _ _ h
theorem gm_267_p3L {L : Nat} {xs : Nat → Int32} {d : Nat} {Q : Int → lf_Z → Prop} {x1 : Int} {x2 : Int} {x3 : Int} {x4 : Int} {x5 : Int} {s : lf_Z} (h : fm_267_p3L Q x1 x2 x3 x4 x5 s) : lf_E (px_ro L xs) (d + 4) 267 3 [(0, .ref 95), (1, .int (Int32.ofInt x1)), (2, .int (Int32.ofInt x2)), (3, .int (Int32.ofInt x3)), (4, .int (Int32.ofInt x4)), (5, .int (Int32.ofInt x5))] [] s (lf_qi Q) :=
  h (fun x5 s => lf_E (px_ro L xs) (d + 4) 267 3 [(0, .ref 95), (1, .int (Int32.ofInt x1)), (2, .int (Int32.ofInt x2)), (3, .int (Int32.ofInt x3)), (4, .int (Int32.ofInt x4)), (5, .int (Int32.ofInt x5))] [] s (lf_qi Q)) (fun x5 s hb => gm_267_p3 (fun _ _ h => h) hb)
def fm_267 (a1 : Int) (a2 : Int) (a3 : Int) (a4 : Int) (Q : Int → lf_Z → Prop) (s : lf_Z) : Prop := fm_267_p3L Q a1 a2 a3 a4 0 s
set_option maxRecDepth 100000 in
theorem gm_267 {L : Nat} {xs : Nat → Int32} {d : Nat} {a1 : Int} {a2 : Int} {a3 : Int} {a4 : Int} {Q : Int → lf_Z → Prop} {s : lf_Z} (h : fm_267 a1 a2 a3 a4 Q s) : lf_M (px_ro L xs) (d + 4) 267 [.ref 95, .int (Int32.ofInt a1), .int (Int32.ofInt a2), .int (Int32.ofInt a3), .int (Int32.ofInt a4)] s (lf_qi Q) := by
  unfold fm_267 at h
  show lf_E (px_ro L xs) (d + 4) 267 0 [(0, .ref 95), (1, .int (Int32.ofInt a1)), (2, .int (Int32.ofInt a2)), (3, .int (Int32.ofInt a3)), (4, .int (Int32.ofInt a4))] [] s _
  refine lf_seg 2 (pc' := 3) (lv' := [(5, .int (Int32.ofInt 0)), (0, .ref 95), (1, .int (Int32.ofInt a1)), (2, .int (Int32.ofInt a2)), (3, .int (Int32.ofInt a3)), (4, .int (Int32.ofInt a4))]) (st' := []) rfl ?_
  refine lf_sub (l := [(0, .ref 95), (1, .int (Int32.ofInt a1)), (2, .int (Int32.ofInt a2)), (3, .int (Int32.ofInt a3)), (4, .int (Int32.ofInt a4)), (5, .int (Int32.ofInt 0))]) (lf_sb1 rfl (lf_sb1 rfl (lf_sb1 rfl (lf_sb1 rfl (lf_sb1 rfl (lf_sb1 rfl lf_sb0)))))) ?_
  exact gm_267_p3L h
-- fm_263 Model.paceOf 95 i
def fm_263_p40 (Q : Int → lf_Z → Prop) (y1 : Int) (y2 : Int) (s : lf_Z) : Prop := (0 ≤ y1 ∧ y1 < 11) ∧ (fm_267 (s.1 96 8) 0 1 2 (fun r35 s34 => (Q r35 s34)) (lf_up s.1 104 y1 y2, s.2.1, s.2.2))
set_option maxRecDepth 100000 in
theorem gm_263_p40 {L : Nat} {xs : Nat → Int32} {d : Nat} {Q : Int → lf_Z → Prop} {y1 : Int} {y2 : Int} {s : lf_Z} (h : fm_263_p40 Q y1 y2 s) : lf_E (px_ro L xs) (d + 5) 263 40 [(0, .ref 95)] [.int (Int32.ofInt y2), .int (Int32.ofInt y1), .ref 104] s (lf_qi Q) := by
  unfold fm_263_p40 at h
  obtain ⟨o33, h⟩ := h
  refine lf_iast 41 11 rfl rfl rfl rfl rfl rfl o33 ?_
  refine lf_as (lf_up s.1 104 y1 y2, s.2.1, s.2.2) rfl ?_
  refine lf_seg 3 (pc' := 46) (lv' := [(0, .ref 95)]) (st' := [.ref 96, .ref 95]) rfl ?_
  refine lf_bipush 48 8 rfl rfl (by decide) (by decide) ?_
  refine lf_iald 49 1538 rfl rfl rfl rfl rfl rfl ⟨by decide, by decide⟩ ?_
  refine lf_seg 3 (pc' := 52) (lv' := [(0, .ref 95)]) (st' := [.int (Int32.ofInt 2), .int (Int32.ofInt 1), .int (Int32.ofInt 0), .int (Int32.ofInt (s.1 96 8)), .ref 95]) rfl ?_
  refine lf_callI 55 rfl rfl rfl rfl (gm_267 h) (fun r35 s34 h => ?_)
  exact lf_retI rfl rfl h
def fm_263 (a1 : Int) (Q : Int → lf_Z → Prop) (s : lf_Z) : Prop := fm_242 a1 (fun r22 s21 => (fm_255 a1 (fun r24 s23 => (fm_264 r22 r24 (fun s25 => (fm_256 a1 (fun r27 s26 => (lf_R r27 ∧ ((0 ≤ r27 → (fm_256 a1 (fun r30 s29 => (fm_266 r30 (fun r32 s31 => (fm_263_p40 Q 4 r32 s31)) s29)) s26)) ∧ (¬ (0 ≤ r27) → (fm_263_p40 Q 4 0 s26))))) s25)) s23)) s21)) s
set_option maxRecDepth 100000 in
theorem gm_263 {L : Nat} {xs : Nat → Int32} {d : Nat} {a1 : Int} {Q : Int → lf_Z → Prop} {s : lf_Z} (h : fm_263 a1 Q s) : lf_M (px_ro L xs) (d + 5) 263 [.ref 95, .int (Int32.ofInt a1)] s (lf_qi Q) := by
  unfold fm_263 at h
  show lf_E (px_ro L xs) (d + 5) 263 0 [(0, .ref 95), (1, .int (Int32.ofInt a1))] [] s _
  refine lf_seg 3 (pc' := 3) (lv' := [(0, .ref 95), (1, .int (Int32.ofInt a1))]) (st' := [.int (Int32.ofInt a1), .ref 95, .ref 95]) rfl ?_
  refine lf_callI 6 rfl rfl rfl rfl (gm_242 h) (fun r22 s21 h => ?_)
  refine lf_seg 2 (pc' := 8) (lv' := [(0, .ref 95), (1, .int (Int32.ofInt a1))]) (st' := [.int (Int32.ofInt a1), .ref 95, .int (Int32.ofInt r22), .ref 95]) rfl ?_
  refine lf_callI 11 rfl rfl rfl rfl (gm_255 h) (fun r24 s23 h => ?_)
  refine lf_callV 14 rfl rfl rfl rfl (gm_264 h) (fun s25 h => ?_)
  refine lf_seg 5 (pc' := 21) (lv' := [(0, .ref 95), (1, .int (Int32.ofInt a1))]) (st' := [.int (Int32.ofInt a1), .ref 95, .int (Int32.ofInt 4), .ref 104]) rfl ?_
  refine lf_callI 24 rfl rfl rfl rfl (gm_256 h) (fun r27 s26 h => ?_)
  obtain ⟨o28, h⟩ := h
  refine lf_if_ge 31 27 rfl rfl rfl o28 (fun c => ?_) (fun c => ?_)
  · have h := h.1 c
    refine lf_seg 3 (pc' := 34) (lv' := [(0, .ref 95), (1, .int (Int32.ofInt a1))]) (st' := [.int (Int32.ofInt a1), .ref 95, .ref 95, .int (Int32.ofInt 4), .ref 104]) rfl ?_
    refine lf_callI 37 rfl rfl rfl rfl (gm_256 h) (fun r30 s29 h => ?_)
    refine lf_callI 40 rfl rfl rfl rfl (gm_266 h) (fun r32 s31 h => ?_)
    refine lf_sub (l := [(0, .ref 95)]) (lf_sb1 rfl lf_sb0) ?_
    exact gm_263_p40 h
  · have h := h.2 c
    refine lf_seg 2 (pc' := 40) (lv' := [(0, .ref 95), (1, .int (Int32.ofInt a1))]) (st' := [.int (Int32.ofInt 0), .int (Int32.ofInt 4), .ref 104]) rfl ?_
    refine lf_sub (l := [(0, .ref 95)]) (lf_sb1 rfl lf_sb0) ?_
    exact gm_263_p40 h
-- fm_252 Model.isPath 95 i
def fm_252 (a1 : Int) (Q : Bool → lf_Z → Prop) (s : lf_Z) : Prop := (0 ≤ (50 + (4 * a1)) + 2 ∧ (50 + (4 * a1)) + 2 < 1538) ∧ (lf_R (s.1 96 ((50 + (4 * a1)) + 2)) ∧ ((s.1 96 ((50 + (4 * a1)) + 2) ≠ 1 → (Q false s)) ∧ (¬ (s.1 96 ((50 + (4 * a1)) + 2) ≠ 1) → (Q true s))))
set_option maxRecDepth 100000 in
theorem gm_252 {L : Nat} {xs : Nat → Int32} {d : Nat} {a1 : Int} {Q : Bool → lf_Z → Prop} {s : lf_Z} (h : fm_252 a1 Q s) : lf_M (px_ro L xs) (d + 1) 252 [.ref 95, .int (Int32.ofInt a1)] s (lf_qz Q) := by
  unfold fm_252 at h
  show lf_E (px_ro L xs) (d + 1) 252 0 [(0, .ref 95), (1, .int (Int32.ofInt a1))] [] s _
  refine lf_seg 2 (pc' := 4) (lv' := [(0, .ref 95), (1, .int (Int32.ofInt a1))]) (st' := [.ref 96]) rfl ?_
  refine lf_bipush 6 50 rfl rfl (by decide) (by decide) ?_
  refine lf_seg 2 (pc' := 8) (lv' := [(0, .ref 95), (1, .int (Int32.ofInt a1))]) (st' := [.int (Int32.ofInt a1), .int (Int32.ofInt 4), .int (Int32.ofInt 50), .ref 96]) rfl ?_
  refine lf_imul 9 rfl rfl ?_
  refine lf_iadd 10 rfl rfl ?_
  refine lf_seg 1 (pc' := 11) (lv' := [(0, .ref 95), (1, .int (Int32.ofInt a1))]) (st' := [.int (Int32.ofInt 2), .int (Int32.ofInt (50 + (4 * a1))), .ref 96]) rfl ?_
  refine lf_iadd 12 rfl rfl ?_
  obtain ⟨o21, h⟩ := h
  refine lf_iald 13 1538 rfl rfl rfl rfl rfl rfl o21 ?_
  refine lf_seg 1 (pc' := 14) (lv' := [(0, .ref 95), (1, .int (Int32.ofInt a1))]) (st' := [.int (Int32.ofInt 1), .int (Int32.ofInt (s.1 96 ((50 + (4 * a1)) + 2)))]) rfl ?_
  obtain ⟨o22, h⟩ := h
  refine lf_icmp_ne 21 17 rfl rfl rfl o22 ⟨by decide, by decide⟩ (fun c => ?_) (fun c => ?_)
  · have h := h.1 c
    refine lf_seg 1 (pc' := 22) (lv' := [(0, .ref 95), (1, .int (Int32.ofInt a1))]) (st' := [.int (Int32.ofInt 0)]) rfl ?_
    exact lf_retZ false rfl rfl h
  · have h := h.2 c
    refine lf_seg 2 (pc' := 22) (lv' := [(0, .ref 95), (1, .int (Int32.ofInt a1))]) (st' := [.int (Int32.ofInt 1)]) rfl ?_
    exact lf_retZ true rfl rfl h
-- fm_239c Model.get 95 i i
def fm_239c (a1 : Int) (a2 : Int) (Q : Int → lf_Z → Prop) (s : lf_Z) : Prop := (0 ≤ (126 + (6 * a1)) + a2 ∧ (126 + (6 * a1)) + a2 < 1538) ∧ (Q (s.1 96 ((126 + (6 * a1)) + a2)) s)
set_option maxRecDepth 100000 in
theorem gm_239c {L : Nat} {xs : Nat → Int32} {d : Nat} {a1 : Int} {a2 : Int} {Q : Int → lf_Z → Prop} {s : lf_Z} (h : fm_239c a1 a2 Q s) : lf_M (px_ro L xs) (d + 1) 239 [.ref 95, .int (Int32.ofInt a1), .int (Int32.ofInt a2)] s (lf_qi Q) := by
  unfold fm_239c at h
  show lf_E (px_ro L xs) (d + 1) 239 0 [(0, .ref 95), (1, .int (Int32.ofInt a1)), (2, .int (Int32.ofInt a2))] [] s _
  refine lf_seg 2 (pc' := 4) (lv' := [(0, .ref 95), (1, .int (Int32.ofInt a1)), (2, .int (Int32.ofInt a2))]) (st' := [.ref 96]) rfl ?_
  refine lf_bipush 6 126 rfl rfl (by decide) (by decide) ?_
  refine lf_bipush 8 6 rfl rfl (by decide) (by decide) ?_
  refine lf_seg 1 (pc' := 9) (lv' := [(0, .ref 95), (1, .int (Int32.ofInt a1)), (2, .int (Int32.ofInt a2))]) (st' := [.int (Int32.ofInt a1), .int (Int32.ofInt 6), .int (Int32.ofInt 126), .ref 96]) rfl ?_
  refine lf_imul 10 rfl rfl ?_
  refine lf_iadd 11 rfl rfl ?_
  refine lf_seg 1 (pc' := 12) (lv' := [(0, .ref 95), (1, .int (Int32.ofInt a1)), (2, .int (Int32.ofInt a2))]) (st' := [.int (Int32.ofInt a2), .int (Int32.ofInt (126 + (6 * a1))), .ref 96]) rfl ?_
  refine lf_iadd 13 rfl rfl ?_
  obtain ⟨o21, h⟩ := h
  refine lf_iald 14 1538 rfl rfl rfl rfl rfl rfl o21 ?_
  exact lf_retI rfl rfl h
-- fm_274 Model.sumAt 95 i i
def fm_274_p61 (X27 : Int → Int → lf_Z → Prop) (Q : Int → lf_Z → Prop) (x1 : Int) (x2 : Int) (x4 : Int) (y0 : Int) (y1 : Int) (s : lf_Z) : Prop := X27 (lf_w (y0 + y1)) (x4 + 1) s
set_option maxRecDepth 100000 in
theorem gm_274_p61 {L : Nat} {xs : Nat → Int32} {d : Nat} {X27 : Int → Int → lf_Z → Prop} {Q : Int → lf_Z → Prop} {x1 : Int} {x2 : Int} {x4 : Int} {y0 : Int} {y1 : Int} {s : lf_Z} (hX27 : ∀ x3 x4 s, X27 x3 x4 s → lf_E (px_ro L xs) (d + 2) 274 27 [(0, .ref 95), (1, .int (Int32.ofInt x1)), (2, .int (Int32.ofInt x2)), (3, .int (Int32.ofInt x3)), (4, .int (Int32.ofInt x4))] [] s (lf_qi Q)) (h : fm_274_p61 X27 Q x1 x2 x4 y0 y1 s) : lf_E (px_ro L xs) (d + 2) 274 61 [(0, .ref 95), (1, .int (Int32.ofInt x1)), (2, .int (Int32.ofInt x2)), (4, .int (Int32.ofInt x4))] [.int (Int32.ofInt y1), .int (Int32.ofInt y0)] s (lf_qi Q) := by
  unfold fm_274_p61 at h
  refine lf_iadd 62 rfl rfl ?_
  refine lf_wtI ?_
  refine lf_seg 1 (pc' := 63) (lv' := [(3, .int (Int32.ofInt (lf_w (y0 + y1)))), (0, .ref 95), (1, .int (Int32.ofInt x1)), (2, .int (Int32.ofInt x2)), (4, .int (Int32.ofInt x4))]) (st' := []) rfl ?_
  refine lf_iinc 66 rfl rfl rfl rfl ?_
  refine lf_seg 1 (pc' := 27) (lv' := [(4, .int (Int32.ofInt (x4 + 1))), (3, .int (Int32.ofInt (lf_w (y0 + y1)))), (0, .ref 95), (1, .int (Int32.ofInt x1)), (2, .int (Int32.ofInt x2))]) (st' := []) rfl ?_
  refine lf_sub (l := [(0, .ref 95), (1, .int (Int32.ofInt x1)), (2, .int (Int32.ofInt x2)), (3, .int (Int32.ofInt (lf_w (y0 + y1)))), (4, .int (Int32.ofInt (x4 + 1)))]) (lf_sb1 rfl (lf_sb1 rfl (lf_sb1 rfl (lf_sb1 rfl (lf_sb1 rfl lf_sb0))))) ?_
  exact hX27 _ _ _ h
def fm_274_p27 (Q : Int → lf_Z → Prop) (x1 : Int) (x2 : Int) (X27 : Int → Int → lf_Z → Prop) (x3 : Int) (x4 : Int) (s : lf_Z) : Prop := lf_R x4 ∧ (lf_R (s.1 96 2) ∧ ((s.1 96 2 ≤ x4 → (Q x3 s)) ∧ (¬ (s.1 96 2 ≤ x4) → (fm_239 x4 (fun r26 s25 => (lf_R r26 ∧ (lf_R x1 ∧ ((r26 ≠ x1 → (fm_274_p61 X27 Q x1 x2 x4 x3 0 s25)) ∧ (¬ (r26 ≠ x1) → (fm_239c x4 x2 (fun r30 s29 => (fm_274_p61 X27 Q x1 x2 x4 x3 r30 s29)) s25)))))) s))))
def fm_274_p27L (Q : Int → lf_Z → Prop) (x1 : Int) (x2 : Int) (x3 : Int) (x4 : Int) (s : lf_Z) : Prop := ∀ X27 : Int → Int → lf_Z → Prop, (∀ (x3 : Int) (x4 : Int) (s : lf_Z), fm_274_p27 Q x1 x2 X27 x3 x4 s → X27 x3 x4 s) → X27 x3 x4 s
set_option maxRecDepth 100000 in
theorem gm_274_p27 {L : Nat} {xs : Nat → Int32} {d : Nat} {Q : Int → lf_Z → Prop} {x1 : Int} {x2 : Int} {x3 : Int} {x4 : Int} {s : lf_Z} {X27 : Int → Int → lf_Z → Prop} (hX27 : ∀ x3 x4 s, X27 x3 x4 s → lf_E (px_ro L xs) (d + 2) 274 27 [(0, .ref 95), (1, .int (Int32.ofInt x1)), (2, .int (Int32.ofInt x2)), (3, .int (Int32.ofInt x3)), (4, .int (Int32.ofInt x4))] [] s (lf_qi Q)) (h : fm_274_p27 Q x1 x2 X27 x3 x4 s) : lf_E (px_ro L xs) (d + 2) 274 27 [(0, .ref 95), (1, .int (Int32.ofInt x1)), (2, .int (Int32.ofInt x2)), (3, .int (Int32.ofInt x3)), (4, .int (Int32.ofInt x4))] [] s (lf_qi Q) := by
  unfold fm_274_p27 at h
  refine lf_seg 4 (pc' := 34) (lv' := [(0, .ref 95), (1, .int (Int32.ofInt x1)), (2, .int (Int32.ofInt x2)), (3, .int (Int32.ofInt x3)), (4, .int (Int32.ofInt x4))]) (st' := [.int (Int32.ofInt 2), .ref 96, .int (Int32.ofInt x4)]) rfl ?_
  refine lf_iald 35 1538 rfl rfl rfl rfl rfl rfl ⟨by decide, by decide⟩ ?_
  obtain ⟨o23, h⟩ := h
  obtain ⟨o24, h⟩ := h
  refine lf_icmp_ge 69 38 rfl rfl rfl o23 o24 (fun c => ?_) (fun c => ?_)
  · have h := h.1 c
    refine lf_seg 1 (pc' := 70) (lv' := [(0, .ref 95), (1, .int (Int32.ofInt x1)), (2, .int (Int32.ofInt x2)), (3, .int (Int32.ofInt x3)), (4, .int (Int32.ofInt x4))]) (st' := [.int (Int32.ofInt x3)]) rfl ?_
    exact lf_retI rfl rfl h
  · have h := h.2 c
    refine lf_seg 4 (pc' := 43) (lv' := [(0, .ref 95), (1, .int (Int32.ofInt x1)), (2, .int (Int32.ofInt x2)), (3, .int (Int32.ofInt x3)), (4, .int (Int32.ofInt x4))]) (st' := [.int (Int32.ofInt 3), .int (Int32.ofInt x4), .ref 95, .int (Int32.ofInt x3)]) rfl ?_
    refine lf_callI 46 rfl rfl rfl rfl (gm_239 h) (fun r26 s25 h => ?_)
    refine lf_seg 1 (pc' := 47) (lv' := [(0, .ref 95), (1, .int (Int32.ofInt x1)), (2, .int (Int32.ofInt x2)), (3, .int (Int32.ofInt x3)), (4, .int (Int32.ofInt x4))]) (st' := [.int (Int32.ofInt x1), .int (Int32.ofInt r26), .int (Int32.ofInt x3)]) rfl ?_
    obtain ⟨o27, h⟩ := h
    obtain ⟨o28, h⟩ := h
    refine lf_icmp_ne 60 50 rfl rfl rfl o27 o28 (fun c => ?_) (fun c => ?_)
    · have h := h.1 c
      refine lf_seg 1 (pc' := 61) (lv' := [(0, .ref 95), (1, .int (Int32.ofInt x1)), (2, .int (Int32.ofInt x2)), (3, .int (Int32.ofInt x3)), (4, .int (Int32.ofInt x4))]) (st' := [.int (Int32.ofInt 0), .int (Int32.ofInt x3)]) rfl ?_
      refine lf_sub (l := [(0, .ref 95), (1, .int (Int32.ofInt x1)), (2, .int (Int32.ofInt x2)), (4, .int (Int32.ofInt x4))]) (lf_sb1 rfl (lf_sb1 rfl (lf_sb1 rfl (lf_sb1 rfl lf_sb0)))) ?_
      exact gm_274_p61 hX27 h
    · have h := h.2 c
      refine lf_seg 3 (pc' := 54) (lv' := [(0, .ref 95), (1, .int (Int32.ofInt x1)), (2, .int (Int32.ofInt x2)), (3, .int (Int32.ofInt x3)), (4, .int (Int32.ofInt x4))]) (st' := [.int (Int32.ofInt x2), .int (Int32.ofInt x4), .ref 95, .int (Int32.ofInt x3)]) rfl ?_
      refine lf_callI 57 rfl rfl rfl rfl (gm_239c h) (fun r30 s29 h => ?_)
      refine lf_seg 1 (pc' := 61) (lv' := [(0, .ref 95), (1, .int (Int32.ofInt x1)), (2, .int (Int32.ofInt x2)), (3, .int (Int32.ofInt x3)), (4, .int (Int32.ofInt x4))]) (st' := [.int (Int32.ofInt r30), .int (Int32.ofInt x3)]) rfl ?_
      refine lf_sub (l := [(0, .ref 95), (1, .int (Int32.ofInt x1)), (2, .int (Int32.ofInt x2)), (4, .int (Int32.ofInt x4))]) (lf_sb1 rfl (lf_sb1 rfl (lf_sb1 rfl (lf_sb1 rfl lf_sb0)))) ?_
      exact gm_274_p61 hX27 h
theorem gm_274_p27L {L : Nat} {xs : Nat → Int32} {d : Nat} {Q : Int → lf_Z → Prop} {x1 : Int} {x2 : Int} {x3 : Int} {x4 : Int} {s : lf_Z} (h : fm_274_p27L Q x1 x2 x3 x4 s) : lf_E (px_ro L xs) (d + 2) 274 27 [(0, .ref 95), (1, .int (Int32.ofInt x1)), (2, .int (Int32.ofInt x2)), (3, .int (Int32.ofInt x3)), (4, .int (Int32.ofInt x4))] [] s (lf_qi Q) :=
  h (fun x3 x4 s => lf_E (px_ro L xs) (d + 2) 274 27 [(0, .ref 95), (1, .int (Int32.ofInt x1)), (2, .int (Int32.ofInt x2)), (3, .int (Int32.ofInt x3)), (4, .int (Int32.ofInt x4))] [] s (lf_qi Q)) (fun x3 x4 s hb => gm_274_p27 (fun _ _ _ h => h) hb)
def fm_274_p23 (Q : Int → lf_Z → Prop) (x1 : Int) (x2 : Int) (y0 : Int) (s : lf_Z) : Prop := fm_274_p27L Q x1 x2 y0 0 s
set_option maxRecDepth 100000 in
theorem gm_274_p23 {L : Nat} {xs : Nat → Int32} {d : Nat} {Q : Int → lf_Z → Prop} {x1 : Int} {x2 : Int} {y0 : Int} {s : lf_Z} (h : fm_274_p23 Q x1 x2 y0 s) : lf_E (px_ro L xs) (d + 2) 274 23 [(0, .ref 95), (1, .int (Int32.ofInt x1)), (2, .int (Int32.ofInt x2))] [.int (Int32.ofInt y0)] s (lf_qi Q) := by
  unfold fm_274_p23 at h
  refine lf_seg 3 (pc' := 27) (lv' := [(4, .int (Int32.ofInt 0)), (3, .int (Int32.ofInt y0)), (0, .ref 95), (1, .int (Int32.ofInt x1)), (2, .int (Int32.ofInt x2))]) (st' := []) rfl ?_
  refine lf_sub (l := [(0, .ref 95), (1, .int (Int32.ofInt x1)), (2, .int (Int32.ofInt x2)), (3, .int (Int32.ofInt y0)), (4, .int (Int32.ofInt 0))]) (lf_sb1 rfl (lf_sb1 rfl (lf_sb1 rfl (lf_sb1 rfl (lf_sb1 rfl lf_sb0))))) ?_
  exact gm_274_p27L h
def fm_274_p22 (Q : Int → lf_Z → Prop) (x1 : Int) (x2 : Int) (s : lf_Z) : Prop := fm_274_p23 Q x1 x2 0 s
set_option maxRecDepth 100000 in
theorem gm_274_p22 {L : Nat} {xs : Nat → Int32} {d : Nat} {Q : Int → lf_Z → Prop} {x1 : Int} {x2 : Int} {s : lf_Z} (h : fm_274_p22 Q x1 x2 s) : lf_E (px_ro L xs) (d + 2) 274 22 [(0, .ref 95), (1, .int (Int32.ofInt x1)), (2, .int (Int32.ofInt x2))] [] s (lf_qi Q) := by
  unfold fm_274_p22 at h
  refine lf_seg 1 (pc' := 23) (lv' := [(0, .ref 95), (1, .int (Int32.ofInt x1)), (2, .int (Int32.ofInt x2))]) (st' := [.int (Int32.ofInt 0)]) rfl ?_
  refine lf_sub (l := [(0, .ref 95), (1, .int (Int32.ofInt x1)), (2, .int (Int32.ofInt x2))]) (lf_sb1 rfl (lf_sb1 rfl (lf_sb1 rfl lf_sb0))) ?_
  exact gm_274_p23 h
def fm_274 (a1 : Int) (a2 : Int) (Q : Int → lf_Z → Prop) (s : lf_Z) : Prop := fm_210 (s.1 95 29) a1 (fun z22 s21 => ((z22 = false → (fm_274_p22 Q a1 a2 s21)) ∧ (z22 = true → (lf_R a2 ∧ ((a2 ≠ 0 → (fm_274_p22 Q a1 a2 s21)) ∧ (¬ (a2 ≠ 0) → (fm_274_p23 Q a1 a2 (s21.1 95 30) s21))))))) s
set_option maxRecDepth 100000 in
theorem gm_274 {L : Nat} {xs : Nat → Int32} {d : Nat} {a1 : Int} {a2 : Int} {Q : Int → lf_Z → Prop} {s : lf_Z} (h : fm_274 a1 a2 Q s) : lf_M (px_ro L xs) (d + 2) 274 [.ref 95, .int (Int32.ofInt a1), .int (Int32.ofInt a2)] s (lf_qi Q) := by
  unfold fm_274 at h
  show lf_E (px_ro L xs) (d + 2) 274 0 [(0, .ref 95), (1, .int (Int32.ofInt a1)), (2, .int (Int32.ofInt a2))] [] s _
  refine lf_seg 1 (pc' := 1) (lv' := [(0, .ref 95), (1, .int (Int32.ofInt a1)), (2, .int (Int32.ofInt a2))]) (st' := [.ref 95]) rfl ?_
  refine lf_getI 4 29 rfl rfl rfl rfl rfl rfl rfl ?_
  refine lf_seg 1 (pc' := 5) (lv' := [(0, .ref 95), (1, .int (Int32.ofInt a1)), (2, .int (Int32.ofInt a2))]) (st' := [.int (Int32.ofInt a1), .int (Int32.ofInt (s.1 95 29))]) rfl ?_
  refine lf_callZ 8 rfl rfl rfl rfl (gm_210 h) (fun z22 s21 h => ?_)
  refine lf_ifz_eq 22 11 rfl rfl rfl (fun c => ?_) (fun c => ?_)
  · have h := h.1 c
    refine lf_sub (l := [(0, .ref 95), (1, .int (Int32.ofInt a1)), (2, .int (Int32.ofInt a2))]) (lf_sb1 rfl (lf_sb1 rfl (lf_sb1 rfl lf_sb0))) ?_
    exact gm_274_p22 h
  · have h := h.2 c
    refine lf_seg 1 (pc' := 12) (lv' := [(0, .ref 95), (1, .int (Int32.ofInt a1)), (2, .int (Int32.ofInt a2))]) (st' := [.int (Int32.ofInt a2)]) rfl ?_
    obtain ⟨o31, h⟩ := h
    refine lf_if_ne 22 15 rfl rfl rfl o31 (fun c => ?_) (fun c => ?_)
    · have h := h.1 c
      refine lf_sub (l := [(0, .ref 95), (1, .int (Int32.ofInt a1)), (2, .int (Int32.ofInt a2))]) (lf_sb1 rfl (lf_sb1 rfl (lf_sb1 rfl lf_sb0))) ?_
      exact gm_274_p22 h
    · have h := h.2 c
      refine lf_seg 1 (pc' := 16) (lv' := [(0, .ref 95), (1, .int (Int32.ofInt a1)), (2, .int (Int32.ofInt a2))]) (st' := [.ref 95]) rfl ?_
      refine lf_getI 19 30 rfl rfl rfl rfl rfl rfl rfl ?_
      refine lf_seg 1 (pc' := 23) (lv' := [(0, .ref 95), (1, .int (Int32.ofInt a1)), (2, .int (Int32.ofInt a2))]) (st' := [.int (Int32.ofInt (s21.1 95 30))]) rfl ?_
      refine lf_sub (l := [(0, .ref 95), (1, .int (Int32.ofInt a1)), (2, .int (Int32.ofInt a2))]) (lf_sb1 rfl (lf_sb1 rfl (lf_sb1 rfl lf_sb0))) ?_
      exact gm_274_p23 h
-- fm_273 Model.takesOf 95 i i i i
def fm_273_p143 (Q : Int → lf_Z → Prop) (y1 : Int) (y2 : Int) (y3 : Int) (s : lf_Z) : Prop := fm_267 y1 y2 y3 10 (fun r41 s40 => (Q r41 s40)) s
set_option maxRecDepth 100000 in
theorem gm_273_p143 {L : Nat} {xs : Nat → Int32} {d : Nat} {Q : Int → lf_Z → Prop} {y1 : Int} {y2 : Int} {y3 : Int} {s : lf_Z} (h : fm_273_p143 Q y1 y2 y3 s) : lf_E (px_ro L xs) (d + 5) 273 143 [] [.int (Int32.ofInt y3), .int (Int32.ofInt y2), .int (Int32.ofInt y1), .ref 95] s (lf_qi Q) := by
  unfold fm_273_p143 at h
  refine lf_bipush 145 10 rfl rfl (by decide) (by decide) ?_
  refine lf_callI 148 rfl rfl rfl rfl (gm_267 h) (fun r41 s40 h => ?_)
  exact lf_retI rfl rfl h
def fm_273_p109 (Q : Int → lf_Z → Prop) (x4 : Int) (y1 : Int) (y2 : Int) (s : lf_Z) : Prop := (0 ≤ y1 ∧ y1 < 11) ∧ (lf_R ((lf_up s.1 104 y1 y2) 104 6) ∧ (((lf_up s.1 104 y1 y2) 104 6 ≤ 0 → (fm_273_p143 Q (s.1 96 8) 1 5 (lf_up (lf_up s.1 104 y1 y2) 104 9 x4, s.2.1, s.2.2))) ∧ (¬ ((lf_up s.1 104 y1 y2) 104 6 ≤ 0) → (fm_273_p143 Q (s.1 96 8) 1 0 (lf_up (lf_up s.1 104 y1 y2) 104 9 x4, s.2.1, s.2.2)))))
set_option maxRecDepth 100000 in
theorem gm_273_p109 {L : Nat} {xs : Nat → Int32} {d : Nat} {Q : Int → lf_Z → Prop} {x4 : Int} {y1 : Int} {y2 : Int} {s : lf_Z} (h : fm_273_p109 Q x4 y1 y2 s) : lf_E (px_ro L xs) (d + 5) 273 109 [(0, .ref 95), (4, .int (Int32.ofInt x4))] [.int (Int32.ofInt y2), .int (Int32.ofInt y1), .ref 104] s (lf_qi Q) := by
  unfold fm_273_p109 at h
  obtain ⟨o38, h⟩ := h
  refine lf_iast 110 11 rfl rfl rfl rfl rfl rfl o38 ?_
  refine lf_as (lf_up s.1 104 y1 y2, s.2.1, s.2.2) rfl ?_
  refine lf_seg 2 (pc' := 114) (lv' := [(0, .ref 95), (4, .int (Int32.ofInt x4))]) (st' := [.ref 104]) rfl ?_
  refine lf_bipush 116 9 rfl rfl (by decide) (by decide) ?_
  refine lf_seg 1 (pc' := 118) (lv' := [(0, .ref 95), (4, .int (Int32.ofInt x4))]) (st' := [.int (Int32.ofInt x4), .int (Int32.ofInt 9), .ref 104]) rfl ?_
  refine lf_iast 119 11 rfl rfl rfl rfl rfl rfl ⟨by decide, by decide⟩ ?_
  refine lf_as (lf_up (lf_up s.1 104 y1 y2) 104 9 x4, s.2.1, s.2.2) rfl ?_
  refine lf_seg 3 (pc' := 124) (lv' := [(0, .ref 95), (4, .int (Int32.ofInt x4))]) (st' := [.ref 96, .ref 95]) rfl ?_
  refine lf_bipush 126 8 rfl rfl (by decide) (by decide) ?_
  refine lf_iald 127 1538 rfl rfl rfl rfl rfl rfl ⟨by decide, by decide⟩ ?_
  refine lf_seg 3 (pc' := 132) (lv' := [(0, .ref 95), (4, .int (Int32.ofInt x4))]) (st' := [.ref 104, .int (Int32.ofInt 1), .int (Int32.ofInt (s.1 96 8)), .ref 95]) rfl ?_
  refine lf_bipush 134 6 rfl rfl (by decide) (by decide) ?_
  refine lf_iald 135 11 rfl rfl rfl rfl rfl rfl ⟨by decide, by decide⟩ ?_
  refine lf_seg 0 (pc' := 135) (lv' := [(0, .ref 95), (4, .int (Int32.ofInt x4))]) (st' := [.int (Int32.ofInt ((lf_up s.1 104 y1 y2) 104 6)), .int (Int32.ofInt 1), .int (Int32.ofInt (s.1 96 8)), .ref 95]) rfl ?_
  obtain ⟨o39, h⟩ := h
  refine lf_if_le 142 138 rfl rfl rfl o39 (fun c => ?_) (fun c => ?_)
  · have h := h.1 c
    refine lf_seg 1 (pc' := 143) (lv' := [(0, .ref 95), (4, .int (Int32.ofInt x4))]) (st' := [.int (Int32.ofInt 5), .int (Int32.ofInt 1), .int (Int32.ofInt (s.1 96 8)), .ref 95]) rfl ?_
    refine lf_sub (l := []) lf_sb0 ?_
    exact gm_273_p143 h
  · have h := h.2 c
    refine lf_seg 2 (pc' := 143) (lv' := [(0, .ref 95), (4, .int (Int32.ofInt x4))]) (st' := [.int (Int32.ofInt 0), .int (Int32.ofInt 1), .int (Int32.ofInt (s.1 96 8)), .ref 95]) rfl ?_
    refine lf_sub (l := []) lf_sb0 ?_
    exact gm_273_p143 h
def fm_273 (a1 : Int) (a2 : Int) (a3 : Int) (a4 : Int) (Q : Int → lf_Z → Prop) (s : lf_Z) : Prop := fm_187 a4 a2 (fun r22 s21 => (lf_R r22 ∧ ((r22 < 0 → (Q 0 s21)) ∧ (¬ (r22 < 0) → (fm_252 a4 (fun z25 s24 => ((z25 = true → (Q 0 s24)) ∧ (z25 = false → (fm_245 a4 (fun z27 s26 => ((z27 = false → (Q 0 s26)) ∧ (z27 = true → (fm_210 (s26.1 95 31) a4 (fun z29 s28 => ((z29 = false → (fm_264 a1 a2 (fun s30 => (fm_265 r22 (fun r32 s31 => (fm_274 r22 0 (fun r34 s33 => (fm_274 r22 2 (fun r36 s35 => (lf_R a3 ∧ ((r22 ≠ a3 → (fm_273_p109 Q a4 8 0 (lf_up s35.1 104 7 r36, s35.2.1, s35.2.2))) ∧ (¬ (r22 ≠ a3) → (fm_273_p109 Q a4 8 1 (lf_up s35.1 104 7 r36, s35.2.1, s35.2.2)))))) (lf_up s33.1 104 6 r34, s33.2.1, s33.2.2))) (lf_up s31.1 104 5 r32, s31.2.1, s31.2.2))) s30)) s28)) ∧ (z29 = true → (Q 0 s28)))) s26)))) s24)))) s21))))) s
set_option maxRecDepth 100000 in
theorem gm_273 {L : Nat} {xs : Nat → Int32} {d : Nat} {a1 : Int} {a2 : Int} {a3 : Int} {a4 : Int} {Q : Int → lf_Z → Prop} {s : lf_Z} (h : fm_273 a1 a2 a3 a4 Q s) : lf_M (px_ro L xs) (d + 5) 273 [.ref 95, .int (Int32.ofInt a1), .int (Int32.ofInt a2), .int (Int32.ofInt a3), .int (Int32.ofInt a4)] s (lf_qi Q) := by
  unfold fm_273 at h
  show lf_E (px_ro L xs) (d + 5) 273 0 [(0, .ref 95), (1, .int (Int32.ofInt a1)), (2, .int (Int32.ofInt a2)), (3, .int (Int32.ofInt a3)), (4, .int (Int32.ofInt a4))] [] s _
  refine lf_seg 3 (pc' := 4) (lv' := [(0, .ref 95), (1, .int (Int32.ofInt a1)), (2, .int (Int32.ofInt a2)), (3, .int (Int32.ofInt a3)), (4, .int (Int32.ofInt a4))]) (st' := [.int (Int32.ofInt a2), .int (Int32.ofInt a4), .ref 95]) rfl ?_
  refine lf_callI 7 rfl rfl rfl rfl (gm_187 h) (fun r22 s21 h => ?_)
  refine lf_seg 2 (pc' := 11) (lv' := [(5, .int (Int32.ofInt r22)), (0, .ref 95), (1, .int (Int32.ofInt a1)), (2, .int (Int32.ofInt a2)), (3, .int (Int32.ofInt a3)), (4, .int (Int32.ofInt a4))]) (st' := [.int (Int32.ofInt r22)]) rfl ?_
  obtain ⟨o23, h⟩ := h
  refine lf_if_lt 44 14 rfl rfl rfl o23 (fun c => ?_) (fun c => ?_)
  · have h := h.1 c
    refine lf_seg 1 (pc' := 45) (lv' := [(5, .int (Int32.ofInt r22)), (0, .ref 95), (1, .int (Int32.ofInt a1)), (2, .int (Int32.ofInt a2)), (3, .int (Int32.ofInt a3)), (4, .int (Int32.ofInt a4))]) (st' := [.int (Int32.ofInt 0)]) rfl ?_
    exact lf_retI rfl rfl h
  · have h := h.2 c
    refine lf_seg 2 (pc' := 17) (lv' := [(5, .int (Int32.ofInt r22)), (0, .ref 95), (1, .int (Int32.ofInt a1)), (2, .int (Int32.ofInt a2)), (3, .int (Int32.ofInt a3)), (4, .int (Int32.ofInt a4))]) (st' := [.int (Int32.ofInt a4), .ref 95]) rfl ?_
    refine lf_callZ 20 rfl rfl rfl rfl (gm_252 h) (fun z25 s24 h => ?_)
    refine lf_ifz_ne 44 23 rfl rfl rfl (fun c => ?_) (fun c => ?_)
    · have h := h.1 c
      refine lf_seg 1 (pc' := 45) (lv' := [(5, .int (Int32.ofInt r22)), (0, .ref 95), (1, .int (Int32.ofInt a1)), (2, .int (Int32.ofInt a2)), (3, .int (Int32.ofInt a3)), (4, .int (Int32.ofInt a4))]) (st' := [.int (Int32.ofInt 0)]) rfl ?_
      exact lf_retI rfl rfl h
    · have h := h.2 c
      refine lf_seg 2 (pc' := 26) (lv' := [(5, .int (Int32.ofInt r22)), (0, .ref 95), (1, .int (Int32.ofInt a1)), (2, .int (Int32.ofInt a2)), (3, .int (Int32.ofInt a3)), (4, .int (Int32.ofInt a4))]) (st' := [.int (Int32.ofInt a4), .ref 95]) rfl ?_
      refine lf_callZ 29 rfl rfl rfl rfl (gm_245 h) (fun z27 s26 h => ?_)
      refine lf_ifz_eq 44 32 rfl rfl rfl (fun c => ?_) (fun c => ?_)
      · have h := h.1 c
        refine lf_seg 1 (pc' := 45) (lv' := [(5, .int (Int32.ofInt r22)), (0, .ref 95), (1, .int (Int32.ofInt a1)), (2, .int (Int32.ofInt a2)), (3, .int (Int32.ofInt a3)), (4, .int (Int32.ofInt a4))]) (st' := [.int (Int32.ofInt 0)]) rfl ?_
        exact lf_retI rfl rfl h
      · have h := h.2 c
        refine lf_seg 1 (pc' := 33) (lv' := [(5, .int (Int32.ofInt r22)), (0, .ref 95), (1, .int (Int32.ofInt a1)), (2, .int (Int32.ofInt a2)), (3, .int (Int32.ofInt a3)), (4, .int (Int32.ofInt a4))]) (st' := [.ref 95]) rfl ?_
        refine lf_getI 36 31 rfl rfl rfl rfl rfl rfl rfl ?_
        refine lf_seg 1 (pc' := 38) (lv' := [(5, .int (Int32.ofInt r22)), (0, .ref 95), (1, .int (Int32.ofInt a1)), (2, .int (Int32.ofInt a2)), (3, .int (Int32.ofInt a3)), (4, .int (Int32.ofInt a4))]) (st' := [.int (Int32.ofInt a4), .int (Int32.ofInt (s26.1 95 31))]) rfl ?_
        refine lf_callZ 41 rfl rfl rfl rfl (gm_210 h) (fun z29 s28 h => ?_)
        refine lf_ifz_eq 46 44 rfl rfl rfl (fun c => ?_) (fun c => ?_)
        · have h := h.1 c
          refine lf_seg 3 (pc' := 49) (lv' := [(5, .int (Int32.ofInt r22)), (0, .ref 95), (1, .int (Int32.ofInt a1)), (2, .int (Int32.ofInt a2)), (3, .int (Int32.ofInt a3)), (4, .int (Int32.ofInt a4))]) (st' := [.int (Int32.ofInt a2), .int (Int32.ofInt a1), .ref 95]) rfl ?_
          refine lf_callV 52 rfl rfl rfl rfl (gm_264 h) (fun s30 h => ?_)
          refine lf_seg 5 (pc' := 60) (lv' := [(5, .int (Int32.ofInt r22)), (0, .ref 95), (1, .int (Int32.ofInt a1)), (2, .int (Int32.ofInt a2)), (3, .int (Int32.ofInt a3)), (4, .int (Int32.ofInt a4))]) (st' := [.int (Int32.ofInt r22), .ref 95, .int (Int32.ofInt 5), .ref 104]) rfl ?_
          refine lf_callI 63 rfl rfl rfl rfl (gm_265 h) (fun r32 s31 h => ?_)
          refine lf_iast 64 11 rfl rfl rfl rfl rfl rfl ⟨by decide, by decide⟩ ?_
          refine lf_as (lf_up s31.1 104 5 r32, s31.2.1, s31.2.2) rfl ?_
          refine lf_seg 2 (pc' := 68) (lv' := [(5, .int (Int32.ofInt r22)), (0, .ref 95), (1, .int (Int32.ofInt a1)), (2, .int (Int32.ofInt a2)), (3, .int (Int32.ofInt a3)), (4, .int (Int32.ofInt a4))]) (st' := [.ref 104]) rfl ?_
          refine lf_bipush 70 6 rfl rfl (by decide) (by decide) ?_
          refine lf_seg 3 (pc' := 74) (lv' := [(5, .int (Int32.ofInt r22)), (0, .ref 95), (1, .int (Int32.ofInt a1)), (2, .int (Int32.ofInt a2)), (3, .int (Int32.ofInt a3)), (4, .int (Int32.ofInt a4))]) (st' := [.int (Int32.ofInt 0), .int (Int32.ofInt r22), .ref 95, .int (Int32.ofInt 6), .ref 104]) rfl ?_
          refine lf_callI 77 rfl rfl rfl rfl (gm_274 h) (fun r34 s33 h => ?_)
          refine lf_iast 78 11 rfl rfl rfl rfl rfl rfl ⟨by decide, by decide⟩ ?_
          refine lf_as (lf_up s33.1 104 6 r34, s33.2.1, s33.2.2) rfl ?_
          refine lf_seg 2 (pc' := 82) (lv' := [(5, .int (Int32.ofInt r22)), (0, .ref 95), (1, .int (Int32.ofInt a1)), (2, .int (Int32.ofInt a2)), (3, .int (Int32.ofInt a3)), (4, .int (Int32.ofInt a4))]) (st' := [.ref 104]) rfl ?_
          refine lf_bipush 84 7 rfl rfl (by decide) (by decide) ?_
          refine lf_seg 3 (pc' := 88) (lv' := [(5, .int (Int32.ofInt r22)), (0, .ref 95), (1, .int (Int32.ofInt a1)), (2, .int (Int32.ofInt a2)), (3, .int (Int32.ofInt a3)), (4, .int (Int32.ofInt a4))]) (st' := [.int (Int32.ofInt 2), .int (Int32.ofInt r22), .ref 95, .int (Int32.ofInt 7), .ref 104]) rfl ?_
          refine lf_callI 91 rfl rfl rfl rfl (gm_274 h) (fun r36 s35 h => ?_)
          refine lf_iast 92 11 rfl rfl rfl rfl rfl rfl ⟨by decide, by decide⟩ ?_
          refine lf_as (lf_up s35.1 104 7 r36, s35.2.1, s35.2.2) rfl ?_
          refine lf_seg 2 (pc' := 96) (lv' := [(5, .int (Int32.ofInt r22)), (0, .ref 95), (1, .int (Int32.ofInt a1)), (2, .int (Int32.ofInt a2)), (3, .int (Int32.ofInt a3)), (4, .int (Int32.ofInt a4))]) (st' := [.ref 104]) rfl ?_
          refine lf_bipush 98 8 rfl rfl (by decide) (by decide) ?_
          refine lf_seg 2 (pc' := 101) (lv' := [(5, .int (Int32.ofInt r22)), (0, .ref 95), (1, .int (Int32.ofInt a1)), (2, .int (Int32.ofInt a2)), (3, .int (Int32.ofInt a3)), (4, .int (Int32.ofInt a4))]) (st' := [.int (Int32.ofInt a3), .int (Int32.ofInt r22), .int (Int32.ofInt 8), .ref 104]) rfl ?_
          obtain ⟨o37, h⟩ := h
          refine lf_icmp_ne 108 104 rfl rfl rfl o23 o37 (fun c => ?_) (fun c => ?_)
          · have h := h.1 c
            refine lf_seg 1 (pc' := 109) (lv' := [(5, .int (Int32.ofInt r22)), (0, .ref 95), (1, .int (Int32.ofInt a1)), (2, .int (Int32.ofInt a2)), (3, .int (Int32.ofInt a3)), (4, .int (Int32.ofInt a4))]) (st' := [.int (Int32.ofInt 0), .int (Int32.ofInt 8), .ref 104]) rfl ?_
            refine lf_sub (l := [(0, .ref 95), (4, .int (Int32.ofInt a4))]) (lf_sb1 rfl (lf_sb1 rfl lf_sb0)) ?_
            exact gm_273_p109 h
          · have h := h.2 c
            refine lf_seg 2 (pc' := 109) (lv' := [(5, .int (Int32.ofInt r22)), (0, .ref 95), (1, .int (Int32.ofInt a1)), (2, .int (Int32.ofInt a2)), (3, .int (Int32.ofInt a3)), (4, .int (Int32.ofInt a4))]) (st' := [.int (Int32.ofInt 1), .int (Int32.ofInt 8), .ref 104]) rfl ?_
            refine lf_sub (l := [(0, .ref 95), (4, .int (Int32.ofInt a4))]) (lf_sb1 rfl (lf_sb1 rfl lf_sb0)) ?_
            exact gm_273_p109 h
        · have h := h.2 c
          refine lf_seg 1 (pc' := 45) (lv' := [(5, .int (Int32.ofInt r22)), (0, .ref 95), (1, .int (Int32.ofInt a1)), (2, .int (Int32.ofInt a2)), (3, .int (Int32.ofInt a3)), (4, .int (Int32.ofInt a4))]) (st' := [.int (Int32.ofInt 0)]) rfl ?_
          exact lf_retI rfl rfl h
-- fm_276 Model.anew 95
def fm_276 (Q : lf_Z → Prop) (s : lf_Z) : Prop := lf_R (((s.1 96 6) * 239) + 137) ∧ (Q (lf_up s.1 96 6 ((((s.1 96 6) * 239) + 137).tmod 30203), s.2.1, s.2.2))
set_option maxRecDepth 100000 in
theorem gm_276 {L : Nat} {xs : Nat → Int32} {d : Nat} {Q : lf_Z → Prop} {s : lf_Z} (h : fm_276 Q s) : lf_M (px_ro L xs) (d + 1) 276 [.ref 95] s (lf_qv Q) := by
  unfold fm_276 at h
  show lf_E (px_ro L xs) (d + 1) 276 0 [(0, .ref 95)] [] s _
  refine lf_seg 2 (pc' := 4) (lv' := [(0, .ref 95)]) (st' := [.ref 96]) rfl ?_
  refine lf_bipush 6 6 rfl rfl (by decide) (by decide) ?_
  refine lf_seg 2 (pc' := 10) (lv' := [(0, .ref 95)]) (st' := [.ref 96, .int (Int32.ofInt 6), .ref 96]) rfl ?_
  refine lf_bipush 12 6 rfl rfl (by decide) (by decide) ?_
  refine lf_iald 13 1538 rfl rfl rfl rfl rfl rfl ⟨by decide, by decide⟩ ?_
  refine lf_sipush 16 239 rfl rfl (by decide) (by decide) ?_
  refine lf_imul 17 rfl rfl ?_
  refine lf_sipush 20 137 rfl rfl (by decide) (by decide) ?_
  refine lf_iadd 21 rfl rfl ?_
  refine lf_sipush 24 30203 rfl rfl (by decide) (by decide) ?_
  obtain ⟨o21, h⟩ := h
  refine lf_irem 25 rfl rfl o21 ⟨by decide, by decide⟩ (by decide) ?_
  refine lf_iast 26 1538 rfl rfl rfl rfl rfl rfl ⟨by decide, by decide⟩ ?_
  refine lf_as (lf_up s.1 96 6 ((((s.1 96 6) * 239) + 137).tmod 30203), s.2.1, s.2.2) rfl ?_
  exact lf_retV rfl rfl h
-- fm_275 Model.drawn 95 i
def fm_275 (a1 : Int) (Q : Int → lf_Z → Prop) (s : lf_Z) : Prop := lf_R (s.1 96 6) ∧ (lf_R a1 ∧ (a1 ≠ 0 ∧ (fm_276 (fun s24 => (Q ((s.1 96 6).tmod a1) s24)) s)))
set_option maxRecDepth 100000 in
theorem gm_275 {L : Nat} {xs : Nat → Int32} {d : Nat} {a1 : Int} {Q : Int → lf_Z → Prop} {s : lf_Z} (h : fm_275 a1 Q s) : lf_M (px_ro L xs) (d + 2) 275 [.ref 95, .int (Int32.ofInt a1)] s (lf_qi Q) := by
  unfold fm_275 at h
  show lf_E (px_ro L xs) (d + 2) 275 0 [(0, .ref 95), (1, .int (Int32.ofInt a1))] [] s _
  refine lf_seg 2 (pc' := 4) (lv' := [(0, .ref 95), (1, .int (Int32.ofInt a1))]) (st' := [.ref 96]) rfl ?_
  refine lf_bipush 6 6 rfl rfl (by decide) (by decide) ?_
  refine lf_iald 7 1538 rfl rfl rfl rfl rfl rfl ⟨by decide, by decide⟩ ?_
  refine lf_seg 1 (pc' := 8) (lv' := [(0, .ref 95), (1, .int (Int32.ofInt a1))]) (st' := [.int (Int32.ofInt a1), .int (Int32.ofInt (s.1 96 6))]) rfl ?_
  obtain ⟨o21, h⟩ := h
  obtain ⟨o22, h⟩ := h
  obtain ⟨o23, h⟩ := h
  refine lf_irem 9 rfl rfl o21 o22 o23 ?_
  refine lf_seg 2 (pc' := 11) (lv' := [(2, .int (Int32.ofInt ((s.1 96 6).tmod a1))), (0, .ref 95), (1, .int (Int32.ofInt a1))]) (st' := [.ref 95]) rfl ?_
  refine lf_callV 14 rfl rfl rfl rfl (gm_276 h) (fun s24 h => ?_)
  refine lf_seg 1 (pc' := 15) (lv' := [(2, .int (Int32.ofInt ((s.1 96 6).tmod a1))), (0, .ref 95), (1, .int (Int32.ofInt a1))]) (st' := [.int (Int32.ofInt ((s.1 96 6).tmod a1))]) rfl ?_
  exact lf_retI rfl rfl h
-- fm_272 Model.move 95 i
def fm_272_p80 (X8 : Int → lf_Z → Prop) (Q : lf_Z → Prop) (x1 : Int) (x2 : Int) (x3 : Int) (s : lf_Z) : Prop := X8 (x3 + 1) s
set_option maxRecDepth 100000 in
theorem gm_272_p80 {L : Nat} {xs : Nat → Int32} {d : Nat} {X8 : Int → lf_Z → Prop} {Q : lf_Z → Prop} {x1 : Int} {x2 : Int} {x3 : Int} {s : lf_Z} (hX8 : ∀ x3 s, X8 x3 s → lf_E (px_ro L xs) (d + 6) 272 8 [(0, .ref 95), (1, .int (Int32.ofInt x1)), (2, .int (Int32.ofInt x2)), (3, .int (Int32.ofInt x3))] [] s (lf_qv Q)) (h : fm_272_p80 X8 Q x1 x2 x3 s) : lf_E (px_ro L xs) (d + 6) 272 80 [(0, .ref 95), (1, .int (Int32.ofInt x1)), (2, .int (Int32.ofInt x2)), (3, .int (Int32.ofInt x3))] [] s (lf_qv Q) := by
  unfold fm_272_p80 at h
  refine lf_iinc 83 rfl rfl rfl rfl ?_
  refine lf_seg 1 (pc' := 8) (lv' := [(3, .int (Int32.ofInt (x3 + 1))), (0, .ref 95), (1, .int (Int32.ofInt x1)), (2, .int (Int32.ofInt x2))]) (st' := []) rfl ?_
  refine lf_sub (l := [(0, .ref 95), (1, .int (Int32.ofInt x1)), (2, .int (Int32.ofInt x2)), (3, .int (Int32.ofInt (x3 + 1)))]) (lf_sb1 rfl (lf_sb1 rfl (lf_sb1 rfl (lf_sb1 rfl lf_sb0)))) ?_
  exact hX8 _ _ h
def fm_272_p62 (Q : lf_Z → Prop) (x1 : Int) (x2 : Int) (x3 : Int) (s : lf_Z) : Prop := fm_242 x1 (fun r33 s32 => (fm_187 x3 x2 (fun r35 s34 => (fm_247 x1 r33 r35 x2 (fun s36 => (Q s36)) s34)) s32)) s
set_option maxRecDepth 100000 in
theorem gm_272_p62 {L : Nat} {xs : Nat → Int32} {d : Nat} {Q : lf_Z → Prop} {x1 : Int} {x2 : Int} {x3 : Int} {s : lf_Z} (h : fm_272_p62 Q x1 x2 x3 s) : lf_E (px_ro L xs) (d + 6) 272 62 [(0, .ref 95), (1, .int (Int32.ofInt x1)), (2, .int (Int32.ofInt x2)), (3, .int (Int32.ofInt x3))] [] s (lf_qv Q) := by
  unfold fm_272_p62 at h
  refine lf_seg 4 (pc' := 66) (lv' := [(0, .ref 95), (1, .int (Int32.ofInt x1)), (2, .int (Int32.ofInt x2)), (3, .int (Int32.ofInt x3))]) (st' := [.int (Int32.ofInt x1), .ref 95, .int (Int32.ofInt x1), .ref 95]) rfl ?_
  refine lf_callI 69 rfl rfl rfl rfl (gm_242 h) (fun r33 s32 h => ?_)
  refine lf_seg 3 (pc' := 72) (lv' := [(0, .ref 95), (1, .int (Int32.ofInt x1)), (2, .int (Int32.ofInt x2)), (3, .int (Int32.ofInt x3))]) (st' := [.int (Int32.ofInt x2), .int (Int32.ofInt x3), .ref 95, .int (Int32.ofInt r33), .int (Int32.ofInt x1), .ref 95]) rfl ?_
  refine lf_callI 75 rfl rfl rfl rfl (gm_187 h) (fun r35 s34 h => ?_)
  refine lf_seg 1 (pc' := 76) (lv' := [(0, .ref 95), (1, .int (Int32.ofInt x1)), (2, .int (Int32.ofInt x2)), (3, .int (Int32.ofInt x3))]) (st' := [.int (Int32.ofInt x2), .int (Int32.ofInt r35), .int (Int32.ofInt r33), .int (Int32.ofInt x1), .ref 95]) rfl ?_
  refine lf_callV 79 rfl rfl rfl rfl (gm_247 h) (fun s36 h => ?_)
  exact lf_retV rfl rfl h
def fm_272_p8 (Q : lf_Z → Prop) (x1 : Int) (x2 : Int) (X8 : Int → lf_Z → Prop) (x3 : Int) (s : lf_Z) : Prop := lf_R x3 ∧ (lf_R (s.1 96 1) ∧ ((s.1 96 1 ≤ x3 → (Q s)) ∧ (¬ (s.1 96 1 ≤ x3) → (fm_242 x1 (fun r26 s25 => (fm_256 x1 (fun r28 s27 => (fm_273 r26 x2 r28 x3 (fun r30 s29 => (lf_R r30 ∧ ((r30 = 0 → (fm_272_p80 X8 Q x1 x2 x3 s29)) ∧ (¬ (r30 = 0) → ((10 ≤ r30 → (fm_272_p62 Q x1 x2 x3 s29)) ∧ (¬ (10 ≤ r30) → (fm_275 10 (fun r38 s37 => (lf_R r38 ∧ ((r38 < r30 → (fm_272_p62 Q x1 x2 x3 s37)) ∧ (¬ (r38 < r30) → (fm_272_p80 X8 Q x1 x2 x3 s37))))) s29))))))) s27)) s25)) s))))
def fm_272_p8L (Q : lf_Z → Prop) (x1 : Int) (x2 : Int) (x3 : Int) (s : lf_Z) : Prop := ∀ X8 : Int → lf_Z → Prop, (∀ (x3 : Int) (s : lf_Z), fm_272_p8 Q x1 x2 X8 x3 s → X8 x3 s) → X8 x3 s
set_option maxRecDepth 100000 in
theorem gm_272_p8 {L : Nat} {xs : Nat → Int32} {d : Nat} {Q : lf_Z → Prop} {x1 : Int} {x2 : Int} {x3 : Int} {s : lf_Z} {X8 : Int → lf_Z → Prop} (hX8 : ∀ x3 s, X8 x3 s → lf_E (px_ro L xs) (d + 6) 272 8 [(0, .ref 95), (1, .int (Int32.ofInt x1)), (2, .int (Int32.ofInt x2)), (3, .int (Int32.ofInt x3))] [] s (lf_qv Q)) (h : fm_272_p8 Q x1 x2 X8 x3 s) : lf_E (px_ro L xs) (d + 6) 272 8 [(0, .ref 95), (1, .int (Int32.ofInt x1)), (2, .int (Int32.ofInt x2)), (3, .int (Int32.ofInt x3))] [] s (lf_qv Q) := by
  unfold fm_272_p8 at h
  refine lf_seg 4 (pc' := 14) (lv' := [(0, .ref 95), (1, .int (Int32.ofInt x1)), (2, .int (Int32.ofInt x2)), (3, .int (Int32.ofInt x3))]) (st' := [.int (Int32.ofInt 1), .ref 96, .int (Int32.ofInt x3)]) rfl ?_
  refine lf_iald 15 1538 rfl rfl rfl rfl rfl rfl ⟨by decide, by decide⟩ ?_
  obtain ⟨o23, h⟩ := h
  obtain ⟨o24, h⟩ := h
  refine lf_icmp_ge 86 18 rfl rfl rfl o23 o24 (fun c => ?_) (fun c => ?_)
  · have h := h.1 c
    exact lf_retV rfl rfl h
  · have h := h.2 c
    refine lf_seg 3 (pc' := 21) (lv' := [(0, .ref 95), (1, .int (Int32.ofInt x1)), (2, .int (Int32.ofInt x2)), (3, .int (Int32.ofInt x3))]) (st' := [.int (Int32.ofInt x1), .ref 95, .ref 95]) rfl ?_
    refine lf_callI 24 rfl rfl rfl rfl (gm_242 h) (fun r26 s25 h => ?_)
    refine lf_seg 3 (pc' := 27) (lv' := [(0, .ref 95), (1, .int (Int32.ofInt x1)), (2, .int (Int32.ofInt x2)), (3, .int (Int32.ofInt x3))]) (st' := [.int (Int32.ofInt x1), .ref 95, .int (Int32.ofInt x2), .int (Int32.ofInt r26), .ref 95]) rfl ?_
    refine lf_callI 30 rfl rfl rfl rfl (gm_256 h) (fun r28 s27 h => ?_)
    refine lf_seg 1 (pc' := 31) (lv' := [(0, .ref 95), (1, .int (Int32.ofInt x1)), (2, .int (Int32.ofInt x2)), (3, .int (Int32.ofInt x3))]) (st' := [.int (Int32.ofInt x3), .int (Int32.ofInt r28), .int (Int32.ofInt x2), .int (Int32.ofInt r26), .ref 95]) rfl ?_
    refine lf_callI 34 rfl rfl rfl rfl (gm_273 h) (fun r30 s29 h => ?_)
    refine lf_seg 2 (pc' := 38) (lv' := [(4, .int (Int32.ofInt r30)), (0, .ref 95), (1, .int (Int32.ofInt x1)), (2, .int (Int32.ofInt x2)), (3, .int (Int32.ofInt x3))]) (st' := [.int (Int32.ofInt r30)]) rfl ?_
    obtain ⟨o31, h⟩ := h
    refine lf_if_eq 80 41 rfl rfl rfl o31 (fun c => ?_) (fun c => ?_)
    · have h := h.1 c
      refine lf_sub (l := [(0, .ref 95), (1, .int (Int32.ofInt x1)), (2, .int (Int32.ofInt x2)), (3, .int (Int32.ofInt x3))]) (lf_sb1 rfl (lf_sb1 rfl (lf_sb1 rfl (lf_sb1 rfl lf_sb0)))) ?_
      exact gm_272_p80 hX8 h
    · have h := h.2 c
      refine lf_seg 1 (pc' := 43) (lv' := [(4, .int (Int32.ofInt r30)), (0, .ref 95), (1, .int (Int32.ofInt x1)), (2, .int (Int32.ofInt x2)), (3, .int (Int32.ofInt x3))]) (st' := [.int (Int32.ofInt r30)]) rfl ?_
      refine lf_bipush 45 10 rfl rfl (by decide) (by decide) ?_
      refine lf_icmp_ge 62 48 rfl rfl rfl o31 ⟨by decide, by decide⟩ (fun c => ?_) (fun c => ?_)
      · have h := h.1 c
        refine lf_sub (l := [(0, .ref 95), (1, .int (Int32.ofInt x1)), (2, .int (Int32.ofInt x2)), (3, .int (Int32.ofInt x3))]) (lf_sb1 rfl (lf_sb1 rfl (lf_sb1 rfl (lf_sb1 rfl lf_sb0)))) ?_
        exact gm_272_p62 h
      · have h := h.2 c
        refine lf_seg 1 (pc' := 49) (lv' := [(4, .int (Int32.ofInt r30)), (0, .ref 95), (1, .int (Int32.ofInt x1)), (2, .int (Int32.ofInt x2)), (3, .int (Int32.ofInt x3))]) (st' := [.ref 95]) rfl ?_
        refine lf_bipush 51 10 rfl rfl (by decide) (by decide) ?_
        refine lf_callI 54 rfl rfl rfl rfl (gm_275 h) (fun r38 s37 h => ?_)
        refine lf_seg 1 (pc' := 56) (lv' := [(4, .int (Int32.ofInt r30)), (0, .ref 95), (1, .int (Int32.ofInt x1)), (2, .int (Int32.ofInt x2)), (3, .int (Int32.ofInt x3))]) (st' := [.int (Int32.ofInt r30), .int (Int32.ofInt r38)]) rfl ?_
        obtain ⟨o39, h⟩ := h
        refine lf_icmp_lt 62 59 rfl rfl rfl o39 o31 (fun c => ?_) (fun c => ?_)
        · have h := h.1 c
          refine lf_sub (l := [(0, .ref 95), (1, .int (Int32.ofInt x1)), (2, .int (Int32.ofInt x2)), (3, .int (Int32.ofInt x3))]) (lf_sb1 rfl (lf_sb1 rfl (lf_sb1 rfl (lf_sb1 rfl lf_sb0)))) ?_
          exact gm_272_p62 h
        · have h := h.2 c
          refine lf_seg 1 (pc' := 80) (lv' := [(4, .int (Int32.ofInt r30)), (0, .ref 95), (1, .int (Int32.ofInt x1)), (2, .int (Int32.ofInt x2)), (3, .int (Int32.ofInt x3))]) (st' := []) rfl ?_
          refine lf_sub (l := [(0, .ref 95), (1, .int (Int32.ofInt x1)), (2, .int (Int32.ofInt x2)), (3, .int (Int32.ofInt x3))]) (lf_sb1 rfl (lf_sb1 rfl (lf_sb1 rfl (lf_sb1 rfl lf_sb0)))) ?_
          exact gm_272_p80 hX8 h
theorem gm_272_p8L {L : Nat} {xs : Nat → Int32} {d : Nat} {Q : lf_Z → Prop} {x1 : Int} {x2 : Int} {x3 : Int} {s : lf_Z} (h : fm_272_p8L Q x1 x2 x3 s) : lf_E (px_ro L xs) (d + 6) 272 8 [(0, .ref 95), (1, .int (Int32.ofInt x1)), (2, .int (Int32.ofInt x2)), (3, .int (Int32.ofInt x3))] [] s (lf_qv Q) :=
  h (fun x3 s => lf_E (px_ro L xs) (d + 6) 272 8 [(0, .ref 95), (1, .int (Int32.ofInt x1)), (2, .int (Int32.ofInt x2)), (3, .int (Int32.ofInt x3))] [] s (lf_qv Q)) (fun x3 s hb => gm_272_p8 (fun _ _ h => h) hb)
def fm_272 (a1 : Int) (Q : lf_Z → Prop) (s : lf_Z) : Prop := fm_255 a1 (fun r22 s21 => (fm_272_p8L Q a1 r22 0 s21)) s
set_option maxRecDepth 100000 in
theorem gm_272 {L : Nat} {xs : Nat → Int32} {d : Nat} {a1 : Int} {Q : lf_Z → Prop} {s : lf_Z} (h : fm_272 a1 Q s) : lf_M (px_ro L xs) (d + 6) 272 [.ref 95, .int (Int32.ofInt a1)] s (lf_qv Q) := by
  unfold fm_272 at h
  show lf_E (px_ro L xs) (d + 6) 272 0 [(0, .ref 95), (1, .int (Int32.ofInt a1))] [] s _
  refine lf_seg 2 (pc' := 2) (lv' := [(0, .ref 95), (1, .int (Int32.ofInt a1))]) (st' := [.int (Int32.ofInt a1), .ref 95]) rfl ?_
  refine lf_callI 5 rfl rfl rfl rfl (gm_255 h) (fun r22 s21 h => ?_)
  refine lf_seg 3 (pc' := 8) (lv' := [(3, .int (Int32.ofInt 0)), (2, .int (Int32.ofInt r22)), (0, .ref 95), (1, .int (Int32.ofInt a1))]) (st' := []) rfl ?_
  refine lf_sub (l := [(0, .ref 95), (1, .int (Int32.ofInt a1)), (2, .int (Int32.ofInt r22)), (3, .int (Int32.ofInt 0))]) (lf_sb1 rfl (lf_sb1 rfl (lf_sb1 rfl (lf_sb1 rfl lf_sb0)))) ?_
  exact gm_272_p8L h
-- fm_261 Model.findFar 95 i i
def fm_261_p174 (X34 : Int → lf_Z → Prop) (X47 : Int → lf_Z → Prop) (Q : lf_Z → Prop) (x2 : Int) (x3 : Int) (x4 : Int) (s : lf_Z) : Prop := X47 (x4 + 1) s
set_option maxRecDepth 100000 in
theorem gm_261_p174 {L : Nat} {xs : Nat → Int32} {d : Nat} {X34 : Int → lf_Z → Prop} {X47 : Int → lf_Z → Prop} {Q : lf_Z → Prop} {x2 : Int} {x3 : Int} {x4 : Int} {s : lf_Z} (hX34 : ∀ x3 s, X34 x3 s → lf_E (px_ro L xs) (d + 2) 261 34 [(0, .ref 95), (2, .int (Int32.ofInt x2)), (3, .int (Int32.ofInt x3))] [] s (lf_qv Q)) (hX47 : ∀ x4 s, X47 x4 s → lf_E (px_ro L xs) (d + 2) 261 47 [(0, .ref 95), (2, .int (Int32.ofInt x2)), (3, .int (Int32.ofInt x3)), (4, .int (Int32.ofInt x4))] [] s (lf_qv Q)) (h : fm_261_p174 X34 X47 Q x2 x3 x4 s) : lf_E (px_ro L xs) (d + 2) 261 174 [(0, .ref 95), (2, .int (Int32.ofInt x2)), (3, .int (Int32.ofInt x3)), (4, .int (Int32.ofInt x4))] [] s (lf_qv Q) := by
  unfold fm_261_p174 at h
  refine lf_iinc 177 rfl rfl rfl rfl ?_
  refine lf_seg 1 (pc' := 47) (lv' := [(4, .int (Int32.ofInt (x4 + 1))), (0, .ref 95), (2, .int (Int32.ofInt x2)), (3, .int (Int32.ofInt x3))]) (st' := []) rfl ?_
  refine lf_sub (l := [(0, .ref 95), (2, .int (Int32.ofInt x2)), (3, .int (Int32.ofInt x3)), (4, .int (Int32.ofInt (x4 + 1)))]) (lf_sb1 rfl (lf_sb1 rfl (lf_sb1 rfl (lf_sb1 rfl lf_sb0)))) ?_
  exact hX47 _ _ h
def fm_261_p139 (X34 : Int → lf_Z → Prop) (X47 : Int → lf_Z → Prop) (Q : lf_Z → Prop) (x2 : Int) (x3 : Int) (x4 : Int) (x5 : Int) (x6 : Int) (s : lf_Z) : Prop := (0 ≤ x6 ∧ x6 < 12) ∧ ((0 ≤ x5 ∧ x5 < 12) ∧ (lf_R ((s.1 108 x6) + 1) ∧ (lf_R (s.1 108 x5) ∧ ((s.1 108 x5 ≤ (s.1 108 x6) + 1 → (fm_261_p174 X34 X47 Q x2 x3 x4 s)) ∧ (¬ (s.1 108 x5 ≤ (s.1 108 x6) + 1) → (fm_261_p174 X34 X47 Q x2 x3 x4 (lf_up s.1 108 x5 ((s.1 108 x6) + 1), s.2.1, s.2.2)))))))
set_option maxRecDepth 100000 in
theorem gm_261_p139 {L : Nat} {xs : Nat → Int32} {d : Nat} {X34 : Int → lf_Z → Prop} {X47 : Int → lf_Z → Prop} {Q : lf_Z → Prop} {x2 : Int} {x3 : Int} {x4 : Int} {x5 : Int} {x6 : Int} {s : lf_Z} (hX34 : ∀ x3 s, X34 x3 s → lf_E (px_ro L xs) (d + 2) 261 34 [(0, .ref 95), (2, .int (Int32.ofInt x2)), (3, .int (Int32.ofInt x3))] [] s (lf_qv Q)) (hX47 : ∀ x4 s, X47 x4 s → lf_E (px_ro L xs) (d + 2) 261 47 [(0, .ref 95), (2, .int (Int32.ofInt x2)), (3, .int (Int32.ofInt x3)), (4, .int (Int32.ofInt x4))] [] s (lf_qv Q)) (h : fm_261_p139 X34 X47 Q x2 x3 x4 x5 x6 s) : lf_E (px_ro L xs) (d + 2) 261 139 [(0, .ref 95), (2, .int (Int32.ofInt x2)), (3, .int (Int32.ofInt x3)), (4, .int (Int32.ofInt x4)), (5, .int (Int32.ofInt x5)), (6, .int (Int32.ofInt x6))] [] s (lf_qv Q) := by
  unfold fm_261_p139 at h
  refine lf_seg 3 (pc' := 145) (lv' := [(0, .ref 95), (2, .int (Int32.ofInt x2)), (3, .int (Int32.ofInt x3)), (4, .int (Int32.ofInt x4)), (5, .int (Int32.ofInt x5)), (6, .int (Int32.ofInt x6))]) (st' := [.int (Int32.ofInt x6), .ref 108]) rfl ?_
  obtain ⟨o34, h⟩ := h
  refine lf_iald 146 12 rfl rfl rfl rfl rfl rfl o34 ?_
  refine lf_seg 1 (pc' := 147) (lv' := [(0, .ref 95), (2, .int (Int32.ofInt x2)), (3, .int (Int32.ofInt x3)), (4, .int (Int32.ofInt x4)), (5, .int (Int32.ofInt x5)), (6, .int (Int32.ofInt x6))]) (st' := [.int (Int32.ofInt 1), .int (Int32.ofInt (s.1 108 x6))]) rfl ?_
  refine lf_iadd 148 rfl rfl ?_
  refine lf_seg 3 (pc' := 154) (lv' := [(0, .ref 95), (2, .int (Int32.ofInt x2)), (3, .int (Int32.ofInt x3)), (4, .int (Int32.ofInt x4)), (5, .int (Int32.ofInt x5)), (6, .int (Int32.ofInt x6))]) (st' := [.int (Int32.ofInt x5), .ref 108, .int (Int32.ofInt ((s.1 108 x6) + 1))]) rfl ?_
  obtain ⟨o35, h⟩ := h
  refine lf_iald 155 12 rfl rfl rfl rfl rfl rfl o35 ?_
  obtain ⟨o36, h⟩ := h
  obtain ⟨o37, h⟩ := h
  refine lf_icmp_ge 174 158 rfl rfl rfl o36 o37 (fun c => ?_) (fun c => ?_)
  · have h := h.1 c
    refine lf_sub (l := [(0, .ref 95), (2, .int (Int32.ofInt x2)), (3, .int (Int32.ofInt x3)), (4, .int (Int32.ofInt x4))]) (lf_sb1 rfl (lf_sb1 rfl (lf_sb1 rfl (lf_sb1 rfl lf_sb0)))) ?_
    exact gm_261_p174 hX34 hX47 h
  · have h := h.2 c
    refine lf_seg 6 (pc' := 170) (lv' := [(0, .ref 95), (2, .int (Int32.ofInt x2)), (3, .int (Int32.ofInt x3)), (4, .int (Int32.ofInt x4)), (5, .int (Int32.ofInt x5)), (6, .int (Int32.ofInt x6))]) (st' := [.int (Int32.ofInt x6), .ref 108, .int (Int32.ofInt x5), .ref 108]) rfl ?_
    refine lf_iald 171 12 rfl rfl rfl rfl rfl rfl o34 ?_
    refine lf_seg 1 (pc' := 172) (lv' := [(0, .ref 95), (2, .int (Int32.ofInt x2)), (3, .int (Int32.ofInt x3)), (4, .int (Int32.ofInt x4)), (5, .int (Int32.ofInt x5)), (6, .int (Int32.ofInt x6))]) (st' := [.int (Int32.ofInt 1), .int (Int32.ofInt (s.1 108 x6)), .int (Int32.ofInt x5), .ref 108]) rfl ?_
    refine lf_iadd 173 rfl rfl ?_
    refine lf_iast 174 12 rfl rfl rfl rfl rfl rfl o35 ?_
    refine lf_as (lf_up s.1 108 x5 ((s.1 108 x6) + 1), s.2.1, s.2.2) rfl ?_
    refine lf_sub (l := [(0, .ref 95), (2, .int (Int32.ofInt x2)), (3, .int (Int32.ofInt x3)), (4, .int (Int32.ofInt x4))]) (lf_sb1 rfl (lf_sb1 rfl (lf_sb1 rfl (lf_sb1 rfl lf_sb0)))) ?_
    exact gm_261_p174 hX34 hX47 h
def fm_261_p74 (X34 : Int → lf_Z → Prop) (X47 : Int → lf_Z → Prop) (Q : lf_Z → Prop) (x2 : Int) (x3 : Int) (x4 : Int) (s : lf_Z) : Prop := (0 ≤ 50 + (4 * x4) ∧ 50 + (4 * x4) < 1538) ∧ ((0 ≤ (50 + (4 * x4)) + 1 ∧ (50 + (4 * x4)) + 1 < 1538) ∧ ((0 ≤ s.1 96 (50 + (4 * x4)) ∧ s.1 96 (50 + (4 * x4)) < 12) ∧ ((0 ≤ s.1 96 ((50 + (4 * x4)) + 1) ∧ s.1 96 ((50 + (4 * x4)) + 1) < 12) ∧ (lf_R ((s.1 108 (s.1 96 (50 + (4 * x4)))) + 1) ∧ (lf_R (s.1 108 (s.1 96 ((50 + (4 * x4)) + 1))) ∧ ((s.1 108 (s.1 96 ((50 + (4 * x4)) + 1)) ≤ (s.1 108 (s.1 96 (50 + (4 * x4)))) + 1 → (fm_261_p139 X34 X47 Q x2 x3 x4 (s.1 96 (50 + (4 * x4))) (s.1 96 ((50 + (4 * x4)) + 1)) s)) ∧ (¬ (s.1 108 (s.1 96 ((50 + (4 * x4)) + 1)) ≤ (s.1 108 (s.1 96 (50 + (4 * x4)))) + 1) → (fm_261_p139 X34 X47 Q x2 x3 x4 (s.1 96 (50 + (4 * x4))) (s.1 96 ((50 + (4 * x4)) + 1)) (lf_up s.1 108 (s.1 96 ((50 + (4 * x4)) + 1)) ((s.1 108 (s.1 96 (50 + (4 * x4)))) + 1), s.2.1, s.2.2)))))))))
set_option maxRecDepth 100000 in
theorem gm_261_p74 {L : Nat} {xs : Nat → Int32} {d : Nat} {X34 : Int → lf_Z → Prop} {X47 : Int → lf_Z → Prop} {Q : lf_Z → Prop} {x2 : Int} {x3 : Int} {x4 : Int} {s : lf_Z} (hX34 : ∀ x3 s, X34 x3 s → lf_E (px_ro L xs) (d + 2) 261 34 [(0, .ref 95), (2, .int (Int32.ofInt x2)), (3, .int (Int32.ofInt x3))] [] s (lf_qv Q)) (hX47 : ∀ x4 s, X47 x4 s → lf_E (px_ro L xs) (d + 2) 261 47 [(0, .ref 95), (2, .int (Int32.ofInt x2)), (3, .int (Int32.ofInt x3)), (4, .int (Int32.ofInt x4))] [] s (lf_qv Q)) (h : fm_261_p74 X34 X47 Q x2 x3 x4 s) : lf_E (px_ro L xs) (d + 2) 261 74 [(0, .ref 95), (2, .int (Int32.ofInt x2)), (3, .int (Int32.ofInt x3)), (4, .int (Int32.ofInt x4))] [] s (lf_qv Q) := by
  unfold fm_261_p74 at h
  refine lf_seg 2 (pc' := 78) (lv' := [(0, .ref 95), (2, .int (Int32.ofInt x2)), (3, .int (Int32.ofInt x3)), (4, .int (Int32.ofInt x4))]) (st' := [.ref 96]) rfl ?_
  refine lf_bipush 80 50 rfl rfl (by decide) (by decide) ?_
  refine lf_seg 2 (pc' := 83) (lv' := [(0, .ref 95), (2, .int (Int32.ofInt x2)), (3, .int (Int32.ofInt x3)), (4, .int (Int32.ofInt x4))]) (st' := [.int (Int32.ofInt x4), .int (Int32.ofInt 4), .int (Int32.ofInt 50), .ref 96]) rfl ?_
  refine lf_imul 84 rfl rfl ?_
  refine lf_iadd 85 rfl rfl ?_
  obtain ⟨o28, h⟩ := h
  refine lf_iald 86 1538 rfl rfl rfl rfl rfl rfl o28 ?_
  refine lf_seg 3 (pc' := 92) (lv' := [(5, .int (Int32.ofInt (s.1 96 (50 + (4 * x4))))), (0, .ref 95), (2, .int (Int32.ofInt x2)), (3, .int (Int32.ofInt x3)), (4, .int (Int32.ofInt x4))]) (st' := [.ref 96]) rfl ?_
  refine lf_bipush 94 50 rfl rfl (by decide) (by decide) ?_
  refine lf_seg 2 (pc' := 97) (lv' := [(5, .int (Int32.ofInt (s.1 96 (50 + (4 * x4))))), (0, .ref 95), (2, .int (Int32.ofInt x2)), (3, .int (Int32.ofInt x3)), (4, .int (Int32.ofInt x4))]) (st' := [.int (Int32.ofInt x4), .int (Int32.ofInt 4), .int (Int32.ofInt 50), .ref 96]) rfl ?_
  refine lf_imul 98 rfl rfl ?_
  refine lf_iadd 99 rfl rfl ?_
  refine lf_seg 1 (pc' := 100) (lv' := [(5, .int (Int32.ofInt (s.1 96 (50 + (4 * x4))))), (0, .ref 95), (2, .int (Int32.ofInt x2)), (3, .int (Int32.ofInt x3)), (4, .int (Int32.ofInt x4))]) (st' := [.int (Int32.ofInt 1), .int (Int32.ofInt (50 + (4 * x4))), .ref 96]) rfl ?_
  refine lf_iadd 101 rfl rfl ?_
  obtain ⟨o29, h⟩ := h
  refine lf_iald 102 1538 rfl rfl rfl rfl rfl rfl o29 ?_
  refine lf_seg 4 (pc' := 110) (lv' := [(6, .int (Int32.ofInt (s.1 96 ((50 + (4 * x4)) + 1)))), (5, .int (Int32.ofInt (s.1 96 (50 + (4 * x4))))), (0, .ref 95), (2, .int (Int32.ofInt x2)), (3, .int (Int32.ofInt x3)), (4, .int (Int32.ofInt x4))]) (st' := [.int (Int32.ofInt (s.1 96 (50 + (4 * x4)))), .ref 108]) rfl ?_
  obtain ⟨o30, h⟩ := h
  refine lf_iald 111 12 rfl rfl rfl rfl rfl rfl o30 ?_
  refine lf_seg 1 (pc' := 112) (lv' := [(6, .int (Int32.ofInt (s.1 96 ((50 + (4 * x4)) + 1)))), (5, .int (Int32.ofInt (s.1 96 (50 + (4 * x4))))), (0, .ref 95), (2, .int (Int32.ofInt x2)), (3, .int (Int32.ofInt x3)), (4, .int (Int32.ofInt x4))]) (st' := [.int (Int32.ofInt 1), .int (Int32.ofInt (s.1 108 (s.1 96 (50 + (4 * x4)))))]) rfl ?_
  refine lf_iadd 113 rfl rfl ?_
  refine lf_seg 3 (pc' := 119) (lv' := [(6, .int (Int32.ofInt (s.1 96 ((50 + (4 * x4)) + 1)))), (5, .int (Int32.ofInt (s.1 96 (50 + (4 * x4))))), (0, .ref 95), (2, .int (Int32.ofInt x2)), (3, .int (Int32.ofInt x3)), (4, .int (Int32.ofInt x4))]) (st' := [.int (Int32.ofInt (s.1 96 ((50 + (4 * x4)) + 1))), .ref 108, .int (Int32.ofInt ((s.1 108 (s.1 96 (50 + (4 * x4)))) + 1))]) rfl ?_
  obtain ⟨o31, h⟩ := h
  refine lf_iald 120 12 rfl rfl rfl rfl rfl rfl o31 ?_
  obtain ⟨o32, h⟩ := h
  obtain ⟨o33, h⟩ := h
  refine lf_icmp_ge 139 123 rfl rfl rfl o32 o33 (fun c => ?_) (fun c => ?_)
  · have h := h.1 c
    refine lf_sub (l := [(0, .ref 95), (2, .int (Int32.ofInt x2)), (3, .int (Int32.ofInt x3)), (4, .int (Int32.ofInt x4)), (5, .int (Int32.ofInt (s.1 96 (50 + (4 * x4))))), (6, .int (Int32.ofInt (s.1 96 ((50 + (4 * x4)) + 1))))]) (lf_sb1 rfl (lf_sb1 rfl (lf_sb1 rfl (lf_sb1 rfl (lf_sb1 rfl (lf_sb1 rfl lf_sb0)))))) ?_
    exact gm_261_p139 hX34 hX47 h
  · have h := h.2 c
    refine lf_seg 6 (pc' := 135) (lv' := [(6, .int (Int32.ofInt (s.1 96 ((50 + (4 * x4)) + 1)))), (5, .int (Int32.ofInt (s.1 96 (50 + (4 * x4))))), (0, .ref 95), (2, .int (Int32.ofInt x2)), (3, .int (Int32.ofInt x3)), (4, .int (Int32.ofInt x4))]) (st' := [.int (Int32.ofInt (s.1 96 (50 + (4 * x4)))), .ref 108, .int (Int32.ofInt (s.1 96 ((50 + (4 * x4)) + 1))), .ref 108]) rfl ?_
    refine lf_iald 136 12 rfl rfl rfl rfl rfl rfl o30 ?_
    refine lf_seg 1 (pc' := 137) (lv' := [(6, .int (Int32.ofInt (s.1 96 ((50 + (4 * x4)) + 1)))), (5, .int (Int32.ofInt (s.1 96 (50 + (4 * x4))))), (0, .ref 95), (2, .int (Int32.ofInt x2)), (3, .int (Int32.ofInt x3)), (4, .int (Int32.ofInt x4))]) (st' := [.int (Int32.ofInt 1), .int (Int32.ofInt (s.1 108 (s.1 96 (50 + (4 * x4))))), .int (Int32.ofInt (s.1 96 ((50 + (4 * x4)) + 1))), .ref 108]) rfl ?_
    refine lf_iadd 138 rfl rfl ?_
    refine lf_iast 139 12 rfl rfl rfl rfl rfl rfl o31 ?_
    refine lf_as (lf_up s.1 108 (s.1 96 ((50 + (4 * x4)) + 1)) ((s.1 108 (s.1 96 (50 + (4 * x4)))) + 1), s.2.1, s.2.2) rfl ?_
    refine lf_sub (l := [(0, .ref 95), (2, .int (Int32.ofInt x2)), (3, .int (Int32.ofInt x3)), (4, .int (Int32.ofInt x4)), (5, .int (Int32.ofInt (s.1 96 (50 + (4 * x4))))), (6, .int (Int32.ofInt (s.1 96 ((50 + (4 * x4)) + 1))))]) (lf_sb1 rfl (lf_sb1 rfl (lf_sb1 rfl (lf_sb1 rfl (lf_sb1 rfl (lf_sb1 rfl lf_sb0)))))) ?_
    exact gm_261_p139 hX34 hX47 h
def fm_261_p47 (X34 : Int → lf_Z → Prop) (Q : lf_Z → Prop) (x2 : Int) (x3 : Int) (X47 : Int → lf_Z → Prop) (x4 : Int) (s : lf_Z) : Prop := lf_R x4 ∧ (lf_R (s.1 96 1) ∧ ((s.1 96 1 ≤ x4 → (X34 (x3 + 1) s)) ∧ (¬ (s.1 96 1 ≤ x4) → (fm_252 x4 (fun z27 s26 => ((z27 = false → (fm_261_p74 X34 X47 Q x2 x3 x4 s26)) ∧ (z27 = true → (lf_R x2 ∧ ((x2 ≠ 0 → (fm_261_p74 X34 X47 Q x2 x3 x4 s26)) ∧ (¬ (x2 ≠ 0) → (fm_261_p174 X34 X47 Q x2 x3 x4 s26))))))) s))))
def fm_261_p47L (X34 : Int → lf_Z → Prop) (Q : lf_Z → Prop) (x2 : Int) (x3 : Int) (x4 : Int) (s : lf_Z) : Prop := ∀ X47 : Int → lf_Z → Prop, (∀ (x4 : Int) (s : lf_Z), fm_261_p47 X34 Q x2 x3 X47 x4 s → X47 x4 s) → X47 x4 s
set_option maxRecDepth 100000 in
theorem gm_261_p47 {L : Nat} {xs : Nat → Int32} {d : Nat} {X34 : Int → lf_Z → Prop} {Q : lf_Z → Prop} {x2 : Int} {x3 : Int} {x4 : Int} {s : lf_Z} {X47 : Int → lf_Z → Prop} (hX34 : ∀ x3 s, X34 x3 s → lf_E (px_ro L xs) (d + 2) 261 34 [(0, .ref 95), (2, .int (Int32.ofInt x2)), (3, .int (Int32.ofInt x3))] [] s (lf_qv Q)) (hX47 : ∀ x4 s, X47 x4 s → lf_E (px_ro L xs) (d + 2) 261 47 [(0, .ref 95), (2, .int (Int32.ofInt x2)), (3, .int (Int32.ofInt x3)), (4, .int (Int32.ofInt x4))] [] s (lf_qv Q)) (h : fm_261_p47 X34 Q x2 x3 X47 x4 s) : lf_E (px_ro L xs) (d + 2) 261 47 [(0, .ref 95), (2, .int (Int32.ofInt x2)), (3, .int (Int32.ofInt x3)), (4, .int (Int32.ofInt x4))] [] s (lf_qv Q) := by
  unfold fm_261_p47 at h
  refine lf_seg 4 (pc' := 54) (lv' := [(0, .ref 95), (2, .int (Int32.ofInt x2)), (3, .int (Int32.ofInt x3)), (4, .int (Int32.ofInt x4))]) (st' := [.int (Int32.ofInt 1), .ref 96, .int (Int32.ofInt x4)]) rfl ?_
  refine lf_iald 55 1538 rfl rfl rfl rfl rfl rfl ⟨by decide, by decide⟩ ?_
  obtain ⟨o24, h⟩ := h
  obtain ⟨o25, h⟩ := h
  refine lf_icmp_ge 180 58 rfl rfl rfl o24 o25 (fun c => ?_) (fun c => ?_)
  · have h := h.1 c
    refine lf_iinc 183 rfl rfl rfl rfl ?_
    refine lf_seg 1 (pc' := 34) (lv' := [(3, .int (Int32.ofInt (x3 + 1))), (0, .ref 95), (2, .int (Int32.ofInt x2)), (4, .int (Int32.ofInt x4))]) (st' := []) rfl ?_
    refine lf_sub (l := [(0, .ref 95), (2, .int (Int32.ofInt x2)), (3, .int (Int32.ofInt (x3 + 1)))]) (lf_sb1 rfl (lf_sb1 rfl (lf_sb1 rfl lf_sb0))) ?_
    exact hX34 _ _ h
  · have h := h.2 c
    refine lf_seg 2 (pc' := 61) (lv' := [(0, .ref 95), (2, .int (Int32.ofInt x2)), (3, .int (Int32.ofInt x3)), (4, .int (Int32.ofInt x4))]) (st' := [.int (Int32.ofInt x4), .ref 95]) rfl ?_
    refine lf_callZ 64 rfl rfl rfl rfl (gm_252 h) (fun z27 s26 h => ?_)
    refine lf_ifz_eq 74 67 rfl rfl rfl (fun c => ?_) (fun c => ?_)
    · have h := h.1 c
      refine lf_sub (l := [(0, .ref 95), (2, .int (Int32.ofInt x2)), (3, .int (Int32.ofInt x3)), (4, .int (Int32.ofInt x4))]) (lf_sb1 rfl (lf_sb1 rfl (lf_sb1 rfl (lf_sb1 rfl lf_sb0)))) ?_
      exact gm_261_p74 hX34 hX47 h
    · have h := h.2 c
      refine lf_seg 1 (pc' := 68) (lv' := [(0, .ref 95), (2, .int (Int32.ofInt x2)), (3, .int (Int32.ofInt x3)), (4, .int (Int32.ofInt x4))]) (st' := [.int (Int32.ofInt x2)]) rfl ?_
      obtain ⟨o38, h⟩ := h
      refine lf_if_ne 74 71 rfl rfl rfl o38 (fun c => ?_) (fun c => ?_)
      · have h := h.1 c
        refine lf_sub (l := [(0, .ref 95), (2, .int (Int32.ofInt x2)), (3, .int (Int32.ofInt x3)), (4, .int (Int32.ofInt x4))]) (lf_sb1 rfl (lf_sb1 rfl (lf_sb1 rfl (lf_sb1 rfl lf_sb0)))) ?_
        exact gm_261_p74 hX34 hX47 h
      · have h := h.2 c
        refine lf_seg 1 (pc' := 174) (lv' := [(0, .ref 95), (2, .int (Int32.ofInt x2)), (3, .int (Int32.ofInt x3)), (4, .int (Int32.ofInt x4))]) (st' := []) rfl ?_
        refine lf_sub (l := [(0, .ref 95), (2, .int (Int32.ofInt x2)), (3, .int (Int32.ofInt x3)), (4, .int (Int32.ofInt x4))]) (lf_sb1 rfl (lf_sb1 rfl (lf_sb1 rfl (lf_sb1 rfl lf_sb0)))) ?_
        exact gm_261_p174 hX34 hX47 h
theorem gm_261_p47L {L : Nat} {xs : Nat → Int32} {d : Nat} {X34 : Int → lf_Z → Prop} {Q : lf_Z → Prop} {x2 : Int} {x3 : Int} {x4 : Int} {s : lf_Z} (hX34 : ∀ x3 s, X34 x3 s → lf_E (px_ro L xs) (d + 2) 261 34 [(0, .ref 95), (2, .int (Int32.ofInt x2)), (3, .int (Int32.ofInt x3))] [] s (lf_qv Q)) (h : fm_261_p47L X34 Q x2 x3 x4 s) : lf_E (px_ro L xs) (d + 2) 261 47 [(0, .ref 95), (2, .int (Int32.ofInt x2)), (3, .int (Int32.ofInt x3)), (4, .int (Int32.ofInt x4))] [] s (lf_qv Q) :=
  h (fun x4 s => lf_E (px_ro L xs) (d + 2) 261 47 [(0, .ref 95), (2, .int (Int32.ofInt x2)), (3, .int (Int32.ofInt x3)), (4, .int (Int32.ofInt x4))] [] s (lf_qv Q)) (fun x4 s hb => gm_261_p47 hX34 (fun _ _ h => h) hb)
def fm_261_p34 (Q : lf_Z → Prop) (x2 : Int) (X34 : Int → lf_Z → Prop) (x3 : Int) (s : lf_Z) : Prop := lf_R x3 ∧ (lf_R (s.1 96 0) ∧ ((s.1 96 0 ≤ x3 → (Q s)) ∧ (¬ (s.1 96 0 ≤ x3) → (fm_261_p47L X34 Q x2 x3 0 s))))
def fm_261_p34L (Q : lf_Z → Prop) (x2 : Int) (x3 : Int) (s : lf_Z) : Prop := ∀ X34 : Int → lf_Z → Prop, (∀ (x3 : Int) (s : lf_Z), fm_261_p34 Q x2 X34 x3 s → X34 x3 s) → X34 x3 s
set_option maxRecDepth 100000 in
theorem gm_261_p34 {L : Nat} {xs : Nat → Int32} {d : Nat} {Q : lf_Z → Prop} {x2 : Int} {x3 : Int} {s : lf_Z} {X34 : Int → lf_Z → Prop} (hX34 : ∀ x3 s, X34 x3 s → lf_E (px_ro L xs) (d + 2) 261 34 [(0, .ref 95), (2, .int (Int32.ofInt x2)), (3, .int (Int32.ofInt x3))] [] s (lf_qv Q)) (h : fm_261_p34 Q x2 X34 x3 s) : lf_E (px_ro L xs) (d + 2) 261 34 [(0, .ref 95), (2, .int (Int32.ofInt x2)), (3, .int (Int32.ofInt x3))] [] s (lf_qv Q) := by
  unfold fm_261_p34 at h
  refine lf_seg 4 (pc' := 40) (lv' := [(0, .ref 95), (2, .int (Int32.ofInt x2)), (3, .int (Int32.ofInt x3))]) (st' := [.int (Int32.ofInt 0), .ref 96, .int (Int32.ofInt x3)]) rfl ?_
  refine lf_iald 41 1538 rfl rfl rfl rfl rfl rfl ⟨by decide, by decide⟩ ?_
  obtain ⟨o22, h⟩ := h
  obtain ⟨o23, h⟩ := h
  refine lf_icmp_ge 186 44 rfl rfl rfl o22 o23 (fun c => ?_) (fun c => ?_)
  · have h := h.1 c
    exact lf_retV rfl rfl h
  · have h := h.2 c
    refine lf_seg 2 (pc' := 47) (lv' := [(4, .int (Int32.ofInt 0)), (0, .ref 95), (2, .int (Int32.ofInt x2)), (3, .int (Int32.ofInt x3))]) (st' := []) rfl ?_
    refine lf_sub (l := [(0, .ref 95), (2, .int (Int32.ofInt x2)), (3, .int (Int32.ofInt x3)), (4, .int (Int32.ofInt 0))]) (lf_sb1 rfl (lf_sb1 rfl (lf_sb1 rfl (lf_sb1 rfl lf_sb0)))) ?_
    exact gm_261_p47L hX34 h
theorem gm_261_p34L {L : Nat} {xs : Nat → Int32} {d : Nat} {Q : lf_Z → Prop} {x2 : Int} {x3 : Int} {s : lf_Z} (h : fm_261_p34L Q x2 x3 s) : lf_E (px_ro L xs) (d + 2) 261 34 [(0, .ref 95), (2, .int (Int32.ofInt x2)), (3, .int (Int32.ofInt x3))] [] s (lf_qv Q) :=
  h (fun x3 s => lf_E (px_ro L xs) (d + 2) 261 34 [(0, .ref 95), (2, .int (Int32.ofInt x2)), (3, .int (Int32.ofInt x3))] [] s (lf_qv Q)) (fun x3 s hb => gm_261_p34 (fun _ _ h => h) hb)
def fm_261_p25 (X2 : Int → lf_Z → Prop) (Q : lf_Z → Prop) (x1 : Int) (x2 : Int) (x3 : Int) (y1 : Int) (y2 : Int) (s : lf_Z) : Prop := (0 ≤ y1 ∧ y1 < 12) ∧ (X2 (x3 + 1) (lf_up s.1 108 y1 y2, s.2.1, s.2.2))
set_option maxRecDepth 100000 in
theorem gm_261_p25 {L : Nat} {xs : Nat → Int32} {d : Nat} {X2 : Int → lf_Z → Prop} {Q : lf_Z → Prop} {x1 : Int} {x2 : Int} {x3 : Int} {y1 : Int} {y2 : Int} {s : lf_Z} (hX2 : ∀ x3 s, X2 x3 s → lf_E (px_ro L xs) (d + 2) 261 2 [(0, .ref 95), (1, .int (Int32.ofInt x1)), (2, .int (Int32.ofInt x2)), (3, .int (Int32.ofInt x3))] [] s (lf_qv Q)) (h : fm_261_p25 X2 Q x1 x2 x3 y1 y2 s) : lf_E (px_ro L xs) (d + 2) 261 25 [(0, .ref 95), (1, .int (Int32.ofInt x1)), (2, .int (Int32.ofInt x2)), (3, .int (Int32.ofInt x3))] [.int (Int32.ofInt y2), .int (Int32.ofInt y1), .ref 108] s (lf_qv Q) := by
  unfold fm_261_p25 at h
  obtain ⟨o40, h⟩ := h
  refine lf_iast 26 12 rfl rfl rfl rfl rfl rfl o40 ?_
  refine lf_as (lf_up s.1 108 y1 y2, s.2.1, s.2.2) rfl ?_
  refine lf_iinc 29 rfl rfl rfl rfl ?_
  refine lf_seg 1 (pc' := 2) (lv' := [(3, .int (Int32.ofInt (x3 + 1))), (0, .ref 95), (1, .int (Int32.ofInt x1)), (2, .int (Int32.ofInt x2))]) (st' := []) rfl ?_
  refine lf_sub (l := [(0, .ref 95), (1, .int (Int32.ofInt x1)), (2, .int (Int32.ofInt x2)), (3, .int (Int32.ofInt (x3 + 1)))]) (lf_sb1 rfl (lf_sb1 rfl (lf_sb1 rfl (lf_sb1 rfl lf_sb0)))) ?_
  exact hX2 _ _ h
def fm_261_p2 (Q : lf_Z → Prop) (x1 : Int) (x2 : Int) (X2 : Int → lf_Z → Prop) (x3 : Int) (s : lf_Z) : Prop := lf_R x3 ∧ ((12 ≤ x3 → (fm_261_p34L Q x2 0 s)) ∧ (¬ (12 ≤ x3) → (lf_R x1 ∧ ((x3 ≠ x1 → (fm_261_p25 X2 Q x1 x2 x3 x3 1000 s)) ∧ (¬ (x3 ≠ x1) → (fm_261_p25 X2 Q x1 x2 x3 x3 0 s))))))
def fm_261_p2L (Q : lf_Z → Prop) (x1 : Int) (x2 : Int) (x3 : Int) (s : lf_Z) : Prop := ∀ X2 : Int → lf_Z → Prop, (∀ (x3 : Int) (s : lf_Z), fm_261_p2 Q x1 x2 X2 x3 s → X2 x3 s) → X2 x3 s
set_option maxRecDepth 100000 in
theorem gm_261_p2 {L : Nat} {xs : Nat → Int32} {d : Nat} {Q : lf_Z → Prop} {x1 : Int} {x2 : Int} {x3 : Int} {s : lf_Z} {X2 : Int → lf_Z → Prop} (hX2 : ∀ x3 s, X2 x3 s → lf_E (px_ro L xs) (d + 2) 261 2 [(0, .ref 95), (1, .int (Int32.ofInt x1)), (2, .int (Int32.ofInt x2)), (3, .int (Int32.ofInt x3))] [] s (lf_qv Q)) (h : fm_261_p2 Q x1 x2 X2 x3 s) : lf_E (px_ro L xs) (d + 2) 261 2 [(0, .ref 95), (1, .int (Int32.ofInt x1)), (2, .int (Int32.ofInt x2)), (3, .int (Int32.ofInt x3))] [] s (lf_qv Q) := by
  unfold fm_261_p2 at h
  refine lf_seg 1 (pc' := 3) (lv' := [(0, .ref 95), (1, .int (Int32.ofInt x1)), (2, .int (Int32.ofInt x2)), (3, .int (Int32.ofInt x3))]) (st' := [.int (Int32.ofInt x3)]) rfl ?_
  refine lf_bipush 5 12 rfl rfl (by decide) (by decide) ?_
  obtain ⟨o21, h⟩ := h
  refine lf_icmp_ge 32 8 rfl rfl rfl o21 ⟨by decide, by decide⟩ (fun c => ?_) (fun c => ?_)
  · have h := h.1 c
    refine lf_seg 2 (pc' := 34) (lv' := [(3, .int (Int32.ofInt 0)), (0, .ref 95), (1, .int (Int32.ofInt x1)), (2, .int (Int32.ofInt x2))]) (st' := []) rfl ?_
    refine lf_sub (l := [(0, .ref 95), (2, .int (Int32.ofInt x2)), (3, .int (Int32.ofInt 0))]) (lf_sb1 rfl (lf_sb1 rfl (lf_sb1 rfl lf_sb0))) ?_
    exact gm_261_p34L h
  · have h := h.2 c
    refine lf_seg 5 (pc' := 15) (lv' := [(0, .ref 95), (1, .int (Int32.ofInt x1)), (2, .int (Int32.ofInt x2)), (3, .int (Int32.ofInt x3))]) (st' := [.int (Int32.ofInt x1), .int (Int32.ofInt x3), .int (Int32.ofInt x3), .ref 108]) rfl ?_
    obtain ⟨o39, h⟩ := h
    refine lf_icmp_ne 22 18 rfl rfl rfl o21 o39 (fun c => ?_) (fun c => ?_)
    · have h := h.1 c
      refine lf_sipush 25 1000 rfl rfl (by decide) (by decide) ?_
      refine lf_sub (l := [(0, .ref 95), (1, .int (Int32.ofInt x1)), (2, .int (Int32.ofInt x2)), (3, .int (Int32.ofInt x3))]) (lf_sb1 rfl (lf_sb1 rfl (lf_sb1 rfl (lf_sb1 rfl lf_sb0)))) ?_
      exact gm_261_p25 hX2 h
    · have h := h.2 c
      refine lf_seg 2 (pc' := 25) (lv' := [(0, .ref 95), (1, .int (Int32.ofInt x1)), (2, .int (Int32.ofInt x2)), (3, .int (Int32.ofInt x3))]) (st' := [.int (Int32.ofInt 0), .int (Int32.ofInt x3), .ref 108]) rfl ?_
      refine lf_sub (l := [(0, .ref 95), (1, .int (Int32.ofInt x1)), (2, .int (Int32.ofInt x2)), (3, .int (Int32.ofInt x3))]) (lf_sb1 rfl (lf_sb1 rfl (lf_sb1 rfl (lf_sb1 rfl lf_sb0)))) ?_
      exact gm_261_p25 hX2 h
theorem gm_261_p2L {L : Nat} {xs : Nat → Int32} {d : Nat} {Q : lf_Z → Prop} {x1 : Int} {x2 : Int} {x3 : Int} {s : lf_Z} (h : fm_261_p2L Q x1 x2 x3 s) : lf_E (px_ro L xs) (d + 2) 261 2 [(0, .ref 95), (1, .int (Int32.ofInt x1)), (2, .int (Int32.ofInt x2)), (3, .int (Int32.ofInt x3))] [] s (lf_qv Q) :=
  h (fun x3 s => lf_E (px_ro L xs) (d + 2) 261 2 [(0, .ref 95), (1, .int (Int32.ofInt x1)), (2, .int (Int32.ofInt x2)), (3, .int (Int32.ofInt x3))] [] s (lf_qv Q)) (fun x3 s hb => gm_261_p2 (fun _ _ h => h) hb)
def fm_261 (a1 : Int) (a2 : Int) (Q : lf_Z → Prop) (s : lf_Z) : Prop := fm_261_p2L Q a1 a2 0 s
set_option maxRecDepth 100000 in
theorem gm_261 {L : Nat} {xs : Nat → Int32} {d : Nat} {a1 : Int} {a2 : Int} {Q : lf_Z → Prop} {s : lf_Z} (h : fm_261 a1 a2 Q s) : lf_M (px_ro L xs) (d + 2) 261 [.ref 95, .int (Int32.ofInt a1), .int (Int32.ofInt a2)] s (lf_qv Q) := by
  unfold fm_261 at h
  show lf_E (px_ro L xs) (d + 2) 261 0 [(0, .ref 95), (1, .int (Int32.ofInt a1)), (2, .int (Int32.ofInt a2))] [] s _
  refine lf_seg 2 (pc' := 2) (lv' := [(3, .int (Int32.ofInt 0)), (0, .ref 95), (1, .int (Int32.ofInt a1)), (2, .int (Int32.ofInt a2))]) (st' := []) rfl ?_
  refine lf_sub (l := [(0, .ref 95), (1, .int (Int32.ofInt a1)), (2, .int (Int32.ofInt a2)), (3, .int (Int32.ofInt 0))]) (lf_sb1 rfl (lf_sb1 rfl (lf_sb1 rfl (lf_sb1 rfl lf_sb0)))) ?_
  exact gm_261_p2L h
-- fm_239d Model.get 95 i 1
def fm_239d (a1 : Int) (Q : Int → lf_Z → Prop) (s : lf_Z) : Prop := (0 ≤ (126 + (6 * a1)) + 1 ∧ (126 + (6 * a1)) + 1 < 1538) ∧ (Q (s.1 96 ((126 + (6 * a1)) + 1)) s)
set_option maxRecDepth 100000 in
theorem gm_239d {L : Nat} {xs : Nat → Int32} {d : Nat} {a1 : Int} {Q : Int → lf_Z → Prop} {s : lf_Z} (h : fm_239d a1 Q s) : lf_M (px_ro L xs) (d + 1) 239 [.ref 95, .int (Int32.ofInt a1), .int (Int32.ofInt 1)] s (lf_qi Q) := by
  unfold fm_239d at h
  show lf_E (px_ro L xs) (d + 1) 239 0 [(0, .ref 95), (1, .int (Int32.ofInt a1)), (2, .int (Int32.ofInt 1))] [] s _
  refine lf_seg 2 (pc' := 4) (lv' := [(0, .ref 95), (1, .int (Int32.ofInt a1)), (2, .int (Int32.ofInt 1))]) (st' := [.ref 96]) rfl ?_
  refine lf_bipush 6 126 rfl rfl (by decide) (by decide) ?_
  refine lf_bipush 8 6 rfl rfl (by decide) (by decide) ?_
  refine lf_seg 1 (pc' := 9) (lv' := [(0, .ref 95), (1, .int (Int32.ofInt a1)), (2, .int (Int32.ofInt 1))]) (st' := [.int (Int32.ofInt a1), .int (Int32.ofInt 6), .int (Int32.ofInt 126), .ref 96]) rfl ?_
  refine lf_imul 10 rfl rfl ?_
  refine lf_iadd 11 rfl rfl ?_
  refine lf_seg 1 (pc' := 12) (lv' := [(0, .ref 95), (1, .int (Int32.ofInt a1)), (2, .int (Int32.ofInt 1))]) (st' := [.int (Int32.ofInt 1), .int (Int32.ofInt (126 + (6 * a1))), .ref 96]) rfl ?_
  refine lf_iadd 13 rfl rfl ?_
  obtain ⟨o21, h⟩ := h
  refine lf_iald 14 1538 rfl rfl rfl rfl rfl rfl o21 ?_
  exact lf_retI rfl rfl h
-- fm_262 Model.goOn 95 i
def fm_262_p88 (X36 : Int → Int → lf_Z → Prop) (Q : lf_Z → Prop) (x1 : Int) (x2 : Int) (x3 : Int) (x4 : Int) (s : lf_Z) : Prop := X36 x3 (x4 + 1) s
set_option maxRecDepth 100000 in
theorem gm_262_p88 {L : Nat} {xs : Nat → Int32} {d : Nat} {X36 : Int → Int → lf_Z → Prop} {Q : lf_Z → Prop} {x1 : Int} {x2 : Int} {x3 : Int} {x4 : Int} {s : lf_Z} (hX36 : ∀ x3 x4 s, X36 x3 x4 s → lf_E (px_ro L xs) (d + 2) 262 36 [(0, .ref 95), (1, .int (Int32.ofInt x1)), (2, .int (Int32.ofInt x2)), (3, .int (Int32.ofInt x3)), (4, .int (Int32.ofInt x4))] [] s (lf_qv Q)) (h : fm_262_p88 X36 Q x1 x2 x3 x4 s) : lf_E (px_ro L xs) (d + 2) 262 88 [(0, .ref 95), (1, .int (Int32.ofInt x1)), (2, .int (Int32.ofInt x2)), (3, .int (Int32.ofInt x3)), (4, .int (Int32.ofInt x4))] [] s (lf_qv Q) := by
  unfold fm_262_p88 at h
  refine lf_iinc 91 rfl rfl rfl rfl ?_
  refine lf_seg 1 (pc' := 36) (lv' := [(4, .int (Int32.ofInt (x4 + 1))), (0, .ref 95), (1, .int (Int32.ofInt x1)), (2, .int (Int32.ofInt x2)), (3, .int (Int32.ofInt x3))]) (st' := []) rfl ?_
  refine lf_sub (l := [(0, .ref 95), (1, .int (Int32.ofInt x1)), (2, .int (Int32.ofInt x2)), (3, .int (Int32.ofInt x3)), (4, .int (Int32.ofInt (x4 + 1)))]) (lf_sb1 rfl (lf_sb1 rfl (lf_sb1 rfl (lf_sb1 rfl (lf_sb1 rfl lf_sb0))))) ?_
  exact hX36 _ _ _ h
def fm_262_p36 (Q : lf_Z → Prop) (x1 : Int) (x2 : Int) (X36 : Int → Int → lf_Z → Prop) (x3 : Int) (x4 : Int) (s : lf_Z) : Prop := lf_R x4 ∧ (lf_R (s.1 96 1) ∧ ((s.1 96 1 ≤ x4 → (fm_191d x1 x3 (fun s31 => (Q s31)) s)) ∧ (¬ (s.1 96 1 ≤ x4) → (fm_187 x4 x2 (fun r33 s32 => (lf_R r33 ∧ ((r33 < 0 → (fm_262_p88 X36 Q x1 x2 x3 x4 s32)) ∧ (¬ (r33 < 0) → ((0 ≤ r33 ∧ r33 < 12) ∧ ((0 ≤ x2 ∧ x2 < 12) ∧ (lf_R (s32.1 108 r33) ∧ (lf_R ((s32.1 108 x2) - 1) ∧ ((s32.1 108 r33 ≠ (s32.1 108 x2) - 1 → (fm_262_p88 X36 Q x1 x2 x3 x4 s32)) ∧ (¬ (s32.1 108 r33 ≠ (s32.1 108 x2) - 1) → (lf_R x3 ∧ ((x3 ≤ r33 → (fm_262_p88 X36 Q x1 x2 x3 x4 s32)) ∧ (¬ (x3 ≤ r33) → (fm_262_p88 X36 Q x1 x2 r33 x4 s32)))))))))))))) s))))
def fm_262_p36L (Q : lf_Z → Prop) (x1 : Int) (x2 : Int) (x3 : Int) (x4 : Int) (s : lf_Z) : Prop := ∀ X36 : Int → Int → lf_Z → Prop, (∀ (x3 : Int) (x4 : Int) (s : lf_Z), fm_262_p36 Q x1 x2 X36 x3 x4 s → X36 x3 x4 s) → X36 x3 x4 s
set_option maxRecDepth 100000 in
theorem gm_262_p36 {L : Nat} {xs : Nat → Int32} {d : Nat} {Q : lf_Z → Prop} {x1 : Int} {x2 : Int} {x3 : Int} {x4 : Int} {s : lf_Z} {X36 : Int → Int → lf_Z → Prop} (hX36 : ∀ x3 x4 s, X36 x3 x4 s → lf_E (px_ro L xs) (d + 2) 262 36 [(0, .ref 95), (1, .int (Int32.ofInt x1)), (2, .int (Int32.ofInt x2)), (3, .int (Int32.ofInt x3)), (4, .int (Int32.ofInt x4))] [] s (lf_qv Q)) (h : fm_262_p36 Q x1 x2 X36 x3 x4 s) : lf_E (px_ro L xs) (d + 2) 262 36 [(0, .ref 95), (1, .int (Int32.ofInt x1)), (2, .int (Int32.ofInt x2)), (3, .int (Int32.ofInt x3)), (4, .int (Int32.ofInt x4))] [] s (lf_qv Q) := by
  unfold fm_262_p36 at h
  refine lf_seg 4 (pc' := 43) (lv' := [(0, .ref 95), (1, .int (Int32.ofInt x1)), (2, .int (Int32.ofInt x2)), (3, .int (Int32.ofInt x3)), (4, .int (Int32.ofInt x4))]) (st' := [.int (Int32.ofInt 1), .ref 96, .int (Int32.ofInt x4)]) rfl ?_
  refine lf_iald 44 1538 rfl rfl rfl rfl rfl rfl ⟨by decide, by decide⟩ ?_
  obtain ⟨o29, h⟩ := h
  obtain ⟨o30, h⟩ := h
  refine lf_icmp_ge 94 47 rfl rfl rfl o29 o30 (fun c => ?_) (fun c => ?_)
  · have h := h.1 c
    refine lf_seg 4 (pc' := 98) (lv' := [(0, .ref 95), (1, .int (Int32.ofInt x1)), (2, .int (Int32.ofInt x2)), (3, .int (Int32.ofInt x3)), (4, .int (Int32.ofInt x4))]) (st' := [.int (Int32.ofInt x3), .int (Int32.ofInt 3), .int (Int32.ofInt x1), .ref 95]) rfl ?_
    refine lf_callV 101 rfl rfl rfl rfl (gm_191d h) (fun s31 h => ?_)
    exact lf_retV rfl rfl h
  · have h := h.2 c
    refine lf_seg 3 (pc' := 51) (lv' := [(0, .ref 95), (1, .int (Int32.ofInt x1)), (2, .int (Int32.ofInt x2)), (3, .int (Int32.ofInt x3)), (4, .int (Int32.ofInt x4))]) (st' := [.int (Int32.ofInt x2), .int (Int32.ofInt x4), .ref 95]) rfl ?_
    refine lf_callI 54 rfl rfl rfl rfl (gm_187 h) (fun r33 s32 h => ?_)
    refine lf_seg 2 (pc' := 58) (lv' := [(5, .int (Int32.ofInt r33)), (0, .ref 95), (1, .int (Int32.ofInt x1)), (2, .int (Int32.ofInt x2)), (3, .int (Int32.ofInt x3)), (4, .int (Int32.ofInt x4))]) (st' := [.int (Int32.ofInt r33)]) rfl ?_
    obtain ⟨o34, h⟩ := h
    refine lf_if_lt 88 61 rfl rfl rfl o34 (fun c => ?_) (fun c => ?_)
    · have h := h.1 c
      refine lf_sub (l := [(0, .ref 95), (1, .int (Int32.ofInt x1)), (2, .int (Int32.ofInt x2)), (3, .int (Int32.ofInt x3)), (4, .int (Int32.ofInt x4))]) (lf_sb1 rfl (lf_sb1 rfl (lf_sb1 rfl (lf_sb1 rfl (lf_sb1 rfl lf_sb0))))) ?_
      exact gm_262_p88 hX36 h
    · have h := h.2 c
      refine lf_seg 3 (pc' := 67) (lv' := [(5, .int (Int32.ofInt r33)), (0, .ref 95), (1, .int (Int32.ofInt x1)), (2, .int (Int32.ofInt x2)), (3, .int (Int32.ofInt x3)), (4, .int (Int32.ofInt x4))]) (st' := [.int (Int32.ofInt r33), .ref 108]) rfl ?_
      obtain ⟨o35, h⟩ := h
      refine lf_iald 68 12 rfl rfl rfl rfl rfl rfl o35 ?_
      refine lf_seg 3 (pc' := 73) (lv' := [(5, .int (Int32.ofInt r33)), (0, .ref 95), (1, .int (Int32.ofInt x1)), (2, .int (Int32.ofInt x2)), (3, .int (Int32.ofInt x3)), (4, .int (Int32.ofInt x4))]) (st' := [.int (Int32.ofInt x2), .ref 108, .int (Int32.ofInt (s32.1 108 r33))]) rfl ?_
      obtain ⟨o36, h⟩ := h
      refine lf_iald 74 12 rfl rfl rfl rfl rfl rfl o36 ?_
      refine lf_seg 1 (pc' := 75) (lv' := [(5, .int (Int32.ofInt r33)), (0, .ref 95), (1, .int (Int32.ofInt x1)), (2, .int (Int32.ofInt x2)), (3, .int (Int32.ofInt x3)), (4, .int (Int32.ofInt x4))]) (st' := [.int (Int32.ofInt 1), .int (Int32.ofInt (s32.1 108 x2)), .int (Int32.ofInt (s32.1 108 r33))]) rfl ?_
      refine lf_isub 76 rfl rfl ?_
      obtain ⟨o37, h⟩ := h
      obtain ⟨o38, h⟩ := h
      refine lf_icmp_ne 88 79 rfl rfl rfl o37 o38 (fun c => ?_) (fun c => ?_)
      · have h := h.1 c
        refine lf_sub (l := [(0, .ref 95), (1, .int (Int32.ofInt x1)), (2, .int (Int32.ofInt x2)), (3, .int (Int32.ofInt x3)), (4, .int (Int32.ofInt x4))]) (lf_sb1 rfl (lf_sb1 rfl (lf_sb1 rfl (lf_sb1 rfl (lf_sb1 rfl lf_sb0))))) ?_
        exact gm_262_p88 hX36 h
      · have h := h.2 c
        refine lf_seg 2 (pc' := 82) (lv' := [(5, .int (Int32.ofInt r33)), (0, .ref 95), (1, .int (Int32.ofInt x1)), (2, .int (Int32.ofInt x2)), (3, .int (Int32.ofInt x3)), (4, .int (Int32.ofInt x4))]) (st' := [.int (Int32.ofInt x3), .int (Int32.ofInt r33)]) rfl ?_
        obtain ⟨o39, h⟩ := h
        refine lf_icmp_ge 88 85 rfl rfl rfl o34 o39 (fun c => ?_) (fun c => ?_)
        · have h := h.1 c
          refine lf_sub (l := [(0, .ref 95), (1, .int (Int32.ofInt x1)), (2, .int (Int32.ofInt x2)), (3, .int (Int32.ofInt x3)), (4, .int (Int32.ofInt x4))]) (lf_sb1 rfl (lf_sb1 rfl (lf_sb1 rfl (lf_sb1 rfl (lf_sb1 rfl lf_sb0))))) ?_
          exact gm_262_p88 hX36 h
        · have h := h.2 c
          refine lf_seg 2 (pc' := 88) (lv' := [(3, .int (Int32.ofInt r33)), (5, .int (Int32.ofInt r33)), (0, .ref 95), (1, .int (Int32.ofInt x1)), (2, .int (Int32.ofInt x2)), (4, .int (Int32.ofInt x4))]) (st' := []) rfl ?_
          refine lf_sub (l := [(0, .ref 95), (1, .int (Int32.ofInt x1)), (2, .int (Int32.ofInt x2)), (3, .int (Int32.ofInt r33)), (4, .int (Int32.ofInt x4))]) (lf_sb1 rfl (lf_sb1 rfl (lf_sb1 rfl (lf_sb1 rfl (lf_sb1 rfl lf_sb0))))) ?_
          exact gm_262_p88 hX36 h
theorem gm_262_p36L {L : Nat} {xs : Nat → Int32} {d : Nat} {Q : lf_Z → Prop} {x1 : Int} {x2 : Int} {x3 : Int} {x4 : Int} {s : lf_Z} (h : fm_262_p36L Q x1 x2 x3 x4 s) : lf_E (px_ro L xs) (d + 2) 262 36 [(0, .ref 95), (1, .int (Int32.ofInt x1)), (2, .int (Int32.ofInt x2)), (3, .int (Int32.ofInt x3)), (4, .int (Int32.ofInt x4))] [] s (lf_qv Q) :=
  h (fun x3 x4 s => lf_E (px_ro L xs) (d + 2) 262 36 [(0, .ref 95), (1, .int (Int32.ofInt x1)), (2, .int (Int32.ofInt x2)), (3, .int (Int32.ofInt x3)), (4, .int (Int32.ofInt x4))] [] s (lf_qv Q)) (fun x3 x4 s hb => gm_262_p36 (fun _ _ _ h => h) hb)
def fm_262 (a1 : Int) (Q : lf_Z → Prop) (s : lf_Z) : Prop := fm_239 a1 (fun r22 s21 => (fm_239b a1 (fun r24 s23 => (lf_R r22 ∧ (lf_R r24 ∧ ((r22 = r24 → (Q s23)) ∧ (¬ (r22 = r24) → ((0 ≤ r22 ∧ r22 < 12) ∧ (lf_R (s23.1 108 r22) ∧ ((s23.1 108 r22 < 1000 → (fm_262_p36L Q a1 r22 12 0 s23)) ∧ (¬ (s23.1 108 r22 < 1000) → (Q s23)))))))))) s21)) s
set_option maxRecDepth 100000 in
theorem gm_262 {L : Nat} {xs : Nat → Int32} {d : Nat} {a1 : Int} {Q : lf_Z → Prop} {s : lf_Z} (h : fm_262 a1 Q s) : lf_M (px_ro L xs) (d + 2) 262 [.ref 95, .int (Int32.ofInt a1)] s (lf_qv Q) := by
  unfold fm_262 at h
  show lf_E (px_ro L xs) (d + 2) 262 0 [(0, .ref 95), (1, .int (Int32.ofInt a1))] [] s _
  refine lf_seg 3 (pc' := 3) (lv' := [(0, .ref 95), (1, .int (Int32.ofInt a1))]) (st' := [.int (Int32.ofInt 3), .int (Int32.ofInt a1), .ref 95]) rfl ?_
  refine lf_callI 6 rfl rfl rfl rfl (gm_239 h) (fun r22 s21 h => ?_)
  refine lf_seg 5 (pc' := 11) (lv' := [(2, .int (Int32.ofInt r22)), (0, .ref 95), (1, .int (Int32.ofInt a1))]) (st' := [.int (Int32.ofInt 4), .int (Int32.ofInt a1), .ref 95, .int (Int32.ofInt r22)]) rfl ?_
  refine lf_callI 14 rfl rfl rfl rfl (gm_239b h) (fun r24 s23 h => ?_)
  obtain ⟨o25, h⟩ := h
  obtain ⟨o26, h⟩ := h
  refine lf_icmp_eq 29 17 rfl rfl rfl o25 o26 (fun c => ?_) (fun c => ?_)
  · have h := h.1 c
    exact lf_retV rfl rfl h
  · have h := h.2 c
    refine lf_seg 3 (pc' := 22) (lv' := [(2, .int (Int32.ofInt r22)), (0, .ref 95), (1, .int (Int32.ofInt a1))]) (st' := [.int (Int32.ofInt r22), .ref 108]) rfl ?_
    obtain ⟨o27, h⟩ := h
    refine lf_iald 23 12 rfl rfl rfl rfl rfl rfl o27 ?_
    refine lf_sipush 26 1000 rfl rfl (by decide) (by decide) ?_
    obtain ⟨o28, h⟩ := h
    refine lf_icmp_lt 30 29 rfl rfl rfl o28 ⟨by decide, by decide⟩ (fun c => ?_) (fun c => ?_)
    · have h := h.1 c
      refine lf_bipush 32 12 rfl rfl (by decide) (by decide) ?_
      refine lf_seg 3 (pc' := 36) (lv' := [(4, .int (Int32.ofInt 0)), (3, .int (Int32.ofInt 12)), (2, .int (Int32.ofInt r22)), (0, .ref 95), (1, .int (Int32.ofInt a1))]) (st' := []) rfl ?_
      refine lf_sub (l := [(0, .ref 95), (1, .int (Int32.ofInt a1)), (2, .int (Int32.ofInt r22)), (3, .int (Int32.ofInt 12)), (4, .int (Int32.ofInt 0))]) (lf_sb1 rfl (lf_sb1 rfl (lf_sb1 rfl (lf_sb1 rfl (lf_sb1 rfl lf_sb0))))) ?_
      exact gm_262_p36L h
    · have h := h.2 c
      exact lf_retV rfl rfl h
-- fm_260 Model.pass 95
def fm_260_p163 (X115 : Int → lf_Z → Prop) (Q : lf_Z → Prop) (x1 : Int) (s : lf_Z) : Prop := X115 (x1 + 1) s
set_option maxRecDepth 100000 in
theorem gm_260_p163 {L : Nat} {xs : Nat → Int32} {d : Nat} {X115 : Int → lf_Z → Prop} {Q : lf_Z → Prop} {x1 : Int} {s : lf_Z} (hX115 : ∀ x1 s, X115 x1 s → lf_E (px_ro L xs) (d + 7) 260 115 [(0, .ref 95), (1, .int (Int32.ofInt x1))] [] s (lf_qv Q)) (h : fm_260_p163 X115 Q x1 s) : lf_E (px_ro L xs) (d + 7) 260 163 [(0, .ref 95), (1, .int (Int32.ofInt x1))] [] s (lf_qv Q) := by
  unfold fm_260_p163 at h
  refine lf_iinc 166 rfl rfl rfl rfl ?_
  refine lf_seg 1 (pc' := 115) (lv' := [(1, .int (Int32.ofInt (x1 + 1))), (0, .ref 95)]) (st' := []) rfl ?_
  refine lf_sub (l := [(0, .ref 95), (1, .int (Int32.ofInt (x1 + 1)))]) (lf_sb1 rfl (lf_sb1 rfl lf_sb0)) ?_
  exact hX115 _ _ h
def fm_260_p115 (Q : lf_Z → Prop) (X115 : Int → lf_Z → Prop) (x1 : Int) (s : lf_Z) : Prop := lf_R x1 ∧ ((4 ≤ x1 → (fm_278 (fun s25 => (Q (lf_up s25.1 96 3 (lf_w ((s25.1 96 3) + 1)), s25.2.1, s25.2.2))) s)) ∧ (¬ (4 ≤ x1) → (fm_242 x1 (fun r27 s26 => (lf_R r27 ∧ ((r27 ≤ 0 → (fm_260_p163 X115 Q x1 s26)) ∧ (¬ (r27 ≤ 0) → (fm_255 x1 (fun r30 s29 => ((0 ≤ (14 + (3 * r30)) + 2 ∧ (14 + (3 * r30)) + 2 < 1538) ∧ (fm_242 x1 (fun r33 s32 => (fm_255 x1 (fun r35 s34 => (fm_277 r35 (fun r37 s36 => (fm_260_p163 X115 Q x1 (lf_up s36.1 96 ((14 + (3 * r30)) + 2) (lf_w ((s29.1 96 ((14 + (3 * r30)) + 2)) + (r33 * r37))), s36.2.1, s36.2.2))) s34)) s32)) s29))) s26))))) s)))
def fm_260_p115L (Q : lf_Z → Prop) (x1 : Int) (s : lf_Z) : Prop := ∀ X115 : Int → lf_Z → Prop, (∀ (x1 : Int) (s : lf_Z), fm_260_p115 Q X115 x1 s → X115 x1 s) → X115 x1 s
set_option maxRecDepth 100000 in
theorem gm_260_p115 {L : Nat} {xs : Nat → Int32} {d : Nat} {Q : lf_Z → Prop} {x1 : Int} {s : lf_Z} {X115 : Int → lf_Z → Prop} (hX115 : ∀ x1 s, X115 x1 s → lf_E (px_ro L xs) (d + 7) 260 115 [(0, .ref 95), (1, .int (Int32.ofInt x1))] [] s (lf_qv Q)) (h : fm_260_p115 Q X115 x1 s) : lf_E (px_ro L xs) (d + 7) 260 115 [(0, .ref 95), (1, .int (Int32.ofInt x1))] [] s (lf_qv Q) := by
  unfold fm_260_p115 at h
  refine lf_seg 2 (pc' := 117) (lv' := [(0, .ref 95), (1, .int (Int32.ofInt x1))]) (st' := [.int (Int32.ofInt 4), .int (Int32.ofInt x1)]) rfl ?_
  obtain ⟨o24, h⟩ := h
  refine lf_icmp_ge 169 120 rfl rfl rfl o24 ⟨by decide, by decide⟩ (fun c => ?_) (fun c => ?_)
  · have h := h.1 c
    refine lf_seg 1 (pc' := 170) (lv' := [(0, .ref 95), (1, .int (Int32.ofInt x1))]) (st' := [.ref 95]) rfl ?_
    refine lf_callV 173 rfl rfl rfl rfl (gm_278 h) (fun s25 h => ?_)
    refine lf_seg 4 (pc' := 179) (lv' := [(0, .ref 95), (1, .int (Int32.ofInt x1))]) (st' := [.int (Int32.ofInt 3), .ref 96, .int (Int32.ofInt 3), .ref 96]) rfl ?_
    refine lf_iald 180 1538 rfl rfl rfl rfl rfl rfl ⟨by decide, by decide⟩ ?_
    refine lf_seg 1 (pc' := 181) (lv' := [(0, .ref 95), (1, .int (Int32.ofInt x1))]) (st' := [.int (Int32.ofInt 1), .int (Int32.ofInt (s25.1 96 3)), .int (Int32.ofInt 3), .ref 96]) rfl ?_
    refine lf_iadd 182 rfl rfl ?_
    refine lf_wtI ?_
    refine lf_iast 183 1538 rfl rfl rfl rfl rfl rfl ⟨by decide, by decide⟩ ?_
    refine lf_as (lf_up s25.1 96 3 (lf_w ((s25.1 96 3) + 1)), s25.2.1, s25.2.2) rfl ?_
    exact lf_retV rfl rfl h
  · have h := h.2 c
    refine lf_seg 2 (pc' := 122) (lv' := [(0, .ref 95), (1, .int (Int32.ofInt x1))]) (st' := [.int (Int32.ofInt x1), .ref 95]) rfl ?_
    refine lf_callI 125 rfl rfl rfl rfl (gm_242 h) (fun r27 s26 h => ?_)
    obtain ⟨o28, h⟩ := h
    refine lf_if_le 163 128 rfl rfl rfl o28 (fun c => ?_) (fun c => ?_)
    · have h := h.1 c
      refine lf_sub (l := [(0, .ref 95), (1, .int (Int32.ofInt x1))]) (lf_sb1 rfl (lf_sb1 rfl lf_sb0)) ?_
      exact gm_260_p163 hX115 h
    · have h := h.2 c
      refine lf_seg 2 (pc' := 132) (lv' := [(0, .ref 95), (1, .int (Int32.ofInt x1))]) (st' := [.ref 96]) rfl ?_
      refine lf_bipush 134 14 rfl rfl (by decide) (by decide) ?_
      refine lf_seg 3 (pc' := 137) (lv' := [(0, .ref 95), (1, .int (Int32.ofInt x1))]) (st' := [.int (Int32.ofInt x1), .ref 95, .int (Int32.ofInt 3), .int (Int32.ofInt 14), .ref 96]) rfl ?_
      refine lf_callI 140 rfl rfl rfl rfl (gm_255 h) (fun r30 s29 h => ?_)
      refine lf_imul 141 rfl rfl ?_
      refine lf_iadd 142 rfl rfl ?_
      refine lf_seg 1 (pc' := 143) (lv' := [(0, .ref 95), (1, .int (Int32.ofInt x1))]) (st' := [.int (Int32.ofInt 2), .int (Int32.ofInt (14 + (3 * r30))), .ref 96]) rfl ?_
      refine lf_iadd 144 rfl rfl ?_
      refine lf_seg 1 (pc' := 145) (lv' := [(0, .ref 95), (1, .int (Int32.ofInt x1))]) (st' := [.int (Int32.ofInt ((14 + (3 * r30)) + 2)), .ref 96, .int (Int32.ofInt ((14 + (3 * r30)) + 2)), .ref 96]) rfl ?_
      obtain ⟨o31, h⟩ := h
      refine lf_iald 146 1538 rfl rfl rfl rfl rfl rfl o31 ?_
      refine lf_seg 2 (pc' := 148) (lv' := [(0, .ref 95), (1, .int (Int32.ofInt x1))]) (st' := [.int (Int32.ofInt x1), .ref 95, .int (Int32.ofInt (s29.1 96 ((14 + (3 * r30)) + 2))), .int (Int32.ofInt ((14 + (3 * r30)) + 2)), .ref 96]) rfl ?_
      refine lf_callI 151 rfl rfl rfl rfl (gm_242 h) (fun r33 s32 h => ?_)
      refine lf_seg 3 (pc' := 154) (lv' := [(0, .ref 95), (1, .int (Int32.ofInt x1))]) (st' := [.int (Int32.ofInt x1), .ref 95, .ref 95, .int (Int32.ofInt r33), .int (Int32.ofInt (s29.1 96 ((14 + (3 * r30)) + 2))), .int (Int32.ofInt ((14 + (3 * r30)) + 2)), .ref 96]) rfl ?_
      refine lf_callI 157 rfl rfl rfl rfl (gm_255 h) (fun r35 s34 h => ?_)
      refine lf_callI 160 rfl rfl rfl rfl (gm_277 h) (fun r37 s36 h => ?_)
      refine lf_imul 161 rfl rfl ?_
      refine lf_iadd 162 rfl rfl ?_
      refine lf_wtI ?_
      refine lf_iast 163 1538 rfl rfl rfl rfl rfl rfl o31 ?_
      refine lf_as (lf_up s36.1 96 ((14 + (3 * r30)) + 2) (lf_w ((s29.1 96 ((14 + (3 * r30)) + 2)) + (r33 * r37))), s36.2.1, s36.2.2) rfl ?_
      refine lf_sub (l := [(0, .ref 95), (1, .int (Int32.ofInt x1))]) (lf_sb1 rfl (lf_sb1 rfl lf_sb0)) ?_
      exact gm_260_p163 hX115 h
theorem gm_260_p115L {L : Nat} {xs : Nat → Int32} {d : Nat} {Q : lf_Z → Prop} {x1 : Int} {s : lf_Z} (h : fm_260_p115L Q x1 s) : lf_E (px_ro L xs) (d + 7) 260 115 [(0, .ref 95), (1, .int (Int32.ofInt x1))] [] s (lf_qv Q) :=
  h (fun x1 s => lf_E (px_ro L xs) (d + 7) 260 115 [(0, .ref 95), (1, .int (Int32.ofInt x1))] [] s (lf_qv Q)) (fun x1 s hb => gm_260_p115 (fun _ _ h => h) hb)
def fm_260_p107 (X67 : Int → lf_Z → Prop) (Q : lf_Z → Prop) (x1 : Int) (s : lf_Z) : Prop := X67 (x1 + 1) s
set_option maxRecDepth 100000 in
theorem gm_260_p107 {L : Nat} {xs : Nat → Int32} {d : Nat} {X67 : Int → lf_Z → Prop} {Q : lf_Z → Prop} {x1 : Int} {s : lf_Z} (hX67 : ∀ x1 s, X67 x1 s → lf_E (px_ro L xs) (d + 7) 260 67 [(0, .ref 95), (1, .int (Int32.ofInt x1))] [] s (lf_qv Q)) (h : fm_260_p107 X67 Q x1 s) : lf_E (px_ro L xs) (d + 7) 260 107 [(0, .ref 95), (1, .int (Int32.ofInt x1))] [] s (lf_qv Q) := by
  unfold fm_260_p107 at h
  refine lf_iinc 110 rfl rfl rfl rfl ?_
  refine lf_seg 1 (pc' := 67) (lv' := [(1, .int (Int32.ofInt (x1 + 1))), (0, .ref 95)]) (st' := []) rfl ?_
  refine lf_sub (l := [(0, .ref 95), (1, .int (Int32.ofInt (x1 + 1)))]) (lf_sb1 rfl (lf_sb1 rfl lf_sb0)) ?_
  exact hX67 _ _ h
def fm_260_p91 (X67 : Int → lf_Z → Prop) (Q : lf_Z → Prop) (x1 : Int) (x2 : Int) (X91 : Int → lf_Z → Prop) (x3 : Int) (s : lf_Z) : Prop := lf_R x3 ∧ (lf_R x2 ∧ ((x2 ≤ x3 → (fm_260_p107 X67 Q x1 s)) ∧ (¬ (x2 ≤ x3) → (fm_272 x1 (fun s45 => (X91 (x3 + 1) s45)) s))))
def fm_260_p91L (X67 : Int → lf_Z → Prop) (Q : lf_Z → Prop) (x1 : Int) (x2 : Int) (x3 : Int) (s : lf_Z) : Prop := ∀ X91 : Int → lf_Z → Prop, (∀ (x3 : Int) (s : lf_Z), fm_260_p91 X67 Q x1 x2 X91 x3 s → X91 x3 s) → X91 x3 s
set_option maxRecDepth 100000 in
theorem gm_260_p91 {L : Nat} {xs : Nat → Int32} {d : Nat} {X67 : Int → lf_Z → Prop} {Q : lf_Z → Prop} {x1 : Int} {x2 : Int} {x3 : Int} {s : lf_Z} {X91 : Int → lf_Z → Prop} (hX67 : ∀ x1 s, X67 x1 s → lf_E (px_ro L xs) (d + 7) 260 67 [(0, .ref 95), (1, .int (Int32.ofInt x1))] [] s (lf_qv Q)) (hX91 : ∀ x3 s, X91 x3 s → lf_E (px_ro L xs) (d + 7) 260 91 [(0, .ref 95), (1, .int (Int32.ofInt x1)), (2, .int (Int32.ofInt x2)), (3, .int (Int32.ofInt x3))] [] s (lf_qv Q)) (h : fm_260_p91 X67 Q x1 x2 X91 x3 s) : lf_E (px_ro L xs) (d + 7) 260 91 [(0, .ref 95), (1, .int (Int32.ofInt x1)), (2, .int (Int32.ofInt x2)), (3, .int (Int32.ofInt x3))] [] s (lf_qv Q) := by
  unfold fm_260_p91 at h
  refine lf_seg 2 (pc' := 93) (lv' := [(0, .ref 95), (1, .int (Int32.ofInt x1)), (2, .int (Int32.ofInt x2)), (3, .int (Int32.ofInt x3))]) (st' := [.int (Int32.ofInt x2), .int (Int32.ofInt x3)]) rfl ?_
  obtain ⟨o43, h⟩ := h
  obtain ⟨o44, h⟩ := h
  refine lf_icmp_ge 107 96 rfl rfl rfl o43 o44 (fun c => ?_) (fun c => ?_)
  · have h := h.1 c
    refine lf_sub (l := [(0, .ref 95), (1, .int (Int32.ofInt x1))]) (lf_sb1 rfl (lf_sb1 rfl lf_sb0)) ?_
    exact gm_260_p107 hX67 h
  · have h := h.2 c
    refine lf_seg 2 (pc' := 98) (lv' := [(0, .ref 95), (1, .int (Int32.ofInt x1)), (2, .int (Int32.ofInt x2)), (3, .int (Int32.ofInt x3))]) (st' := [.int (Int32.ofInt x1), .ref 95]) rfl ?_
    refine lf_callV 101 rfl rfl rfl rfl (gm_272 h) (fun s45 h => ?_)
    refine lf_iinc 104 rfl rfl rfl rfl ?_
    refine lf_seg 1 (pc' := 91) (lv' := [(3, .int (Int32.ofInt (x3 + 1))), (0, .ref 95), (1, .int (Int32.ofInt x1)), (2, .int (Int32.ofInt x2))]) (st' := []) rfl ?_
    refine lf_sub (l := [(0, .ref 95), (1, .int (Int32.ofInt x1)), (2, .int (Int32.ofInt x2)), (3, .int (Int32.ofInt (x3 + 1)))]) (lf_sb1 rfl (lf_sb1 rfl (lf_sb1 rfl (lf_sb1 rfl lf_sb0)))) ?_
    exact hX91 _ _ h
theorem gm_260_p91L {L : Nat} {xs : Nat → Int32} {d : Nat} {X67 : Int → lf_Z → Prop} {Q : lf_Z → Prop} {x1 : Int} {x2 : Int} {x3 : Int} {s : lf_Z} (hX67 : ∀ x1 s, X67 x1 s → lf_E (px_ro L xs) (d + 7) 260 67 [(0, .ref 95), (1, .int (Int32.ofInt x1))] [] s (lf_qv Q)) (h : fm_260_p91L X67 Q x1 x2 x3 s) : lf_E (px_ro L xs) (d + 7) 260 91 [(0, .ref 95), (1, .int (Int32.ofInt x1)), (2, .int (Int32.ofInt x2)), (3, .int (Int32.ofInt x3))] [] s (lf_qv Q) :=
  h (fun x3 s => lf_E (px_ro L xs) (d + 7) 260 91 [(0, .ref 95), (1, .int (Int32.ofInt x1)), (2, .int (Int32.ofInt x2)), (3, .int (Int32.ofInt x3))] [] s (lf_qv Q)) (fun x3 s hb => gm_260_p91 hX67 (fun _ _ h => h) hb)
def fm_260_p67 (Q : lf_Z → Prop) (X67 : Int → lf_Z → Prop) (x1 : Int) (s : lf_Z) : Prop := lf_R x1 ∧ ((4 ≤ x1 → (fm_260_p115L Q 0 s)) ∧ (¬ (4 ≤ x1) → (fm_242 x1 (fun r39 s38 => (lf_R r39 ∧ ((r39 ≠ 0 → (fm_263 x1 (fun r42 s41 => (fm_260_p91L X67 Q x1 r42 0 s41)) s38)) ∧ (¬ (r39 ≠ 0) → (fm_260_p107 X67 Q x1 s38))))) s)))
def fm_260_p67L (Q : lf_Z → Prop) (x1 : Int) (s : lf_Z) : Prop := ∀ X67 : Int → lf_Z → Prop, (∀ (x1 : Int) (s : lf_Z), fm_260_p67 Q X67 x1 s → X67 x1 s) → X67 x1 s
set_option maxRecDepth 100000 in
theorem gm_260_p67 {L : Nat} {xs : Nat → Int32} {d : Nat} {Q : lf_Z → Prop} {x1 : Int} {s : lf_Z} {X67 : Int → lf_Z → Prop} (hX67 : ∀ x1 s, X67 x1 s → lf_E (px_ro L xs) (d + 7) 260 67 [(0, .ref 95), (1, .int (Int32.ofInt x1))] [] s (lf_qv Q)) (h : fm_260_p67 Q X67 x1 s) : lf_E (px_ro L xs) (d + 7) 260 67 [(0, .ref 95), (1, .int (Int32.ofInt x1))] [] s (lf_qv Q) := by
  unfold fm_260_p67 at h
  refine lf_seg 2 (pc' := 69) (lv' := [(0, .ref 95), (1, .int (Int32.ofInt x1))]) (st' := [.int (Int32.ofInt 4), .int (Int32.ofInt x1)]) rfl ?_
  obtain ⟨o23, h⟩ := h
  refine lf_icmp_ge 113 72 rfl rfl rfl o23 ⟨by decide, by decide⟩ (fun c => ?_) (fun c => ?_)
  · have h := h.1 c
    refine lf_seg 2 (pc' := 115) (lv' := [(1, .int (Int32.ofInt 0)), (0, .ref 95)]) (st' := []) rfl ?_
    refine lf_sub (l := [(0, .ref 95), (1, .int (Int32.ofInt 0))]) (lf_sb1 rfl (lf_sb1 rfl lf_sb0)) ?_
    exact gm_260_p115L h
  · have h := h.2 c
    refine lf_seg 2 (pc' := 74) (lv' := [(0, .ref 95), (1, .int (Int32.ofInt x1))]) (st' := [.int (Int32.ofInt x1), .ref 95]) rfl ?_
    refine lf_callI 77 rfl rfl rfl rfl (gm_242 h) (fun r39 s38 h => ?_)
    obtain ⟨o40, h⟩ := h
    refine lf_if_ne 83 80 rfl rfl rfl o40 (fun c => ?_) (fun c => ?_)
    · have h := h.1 c
      refine lf_seg 2 (pc' := 85) (lv' := [(0, .ref 95), (1, .int (Int32.ofInt x1))]) (st' := [.int (Int32.ofInt x1), .ref 95]) rfl ?_
      refine lf_callI 88 rfl rfl rfl rfl (gm_263 h) (fun r42 s41 h => ?_)
      refine lf_seg 3 (pc' := 91) (lv' := [(3, .int (Int32.ofInt 0)), (2, .int (Int32.ofInt r42)), (0, .ref 95), (1, .int (Int32.ofInt x1))]) (st' := []) rfl ?_
      refine lf_sub (l := [(0, .ref 95), (1, .int (Int32.ofInt x1)), (2, .int (Int32.ofInt r42)), (3, .int (Int32.ofInt 0))]) (lf_sb1 rfl (lf_sb1 rfl (lf_sb1 rfl (lf_sb1 rfl lf_sb0)))) ?_
      exact gm_260_p91L hX67 h
    · have h := h.2 c
      refine lf_seg 1 (pc' := 107) (lv' := [(0, .ref 95), (1, .int (Int32.ofInt x1))]) (st' := []) rfl ?_
      refine lf_sub (l := [(0, .ref 95), (1, .int (Int32.ofInt x1))]) (lf_sb1 rfl (lf_sb1 rfl lf_sb0)) ?_
      exact gm_260_p107 hX67 h
theorem gm_260_p67L {L : Nat} {xs : Nat → Int32} {d : Nat} {Q : lf_Z → Prop} {x1 : Int} {s : lf_Z} (h : fm_260_p67L Q x1 s) : lf_E (px_ro L xs) (d + 7) 260 67 [(0, .ref 95), (1, .int (Int32.ofInt x1))] [] s (lf_qv Q) :=
  h (fun x1 s => lf_E (px_ro L xs) (d + 7) 260 67 [(0, .ref 95), (1, .int (Int32.ofInt x1))] [] s (lf_qv Q)) (fun x1 s hb => gm_260_p67 (fun _ _ h => h) hb)
def fm_260_p59 (X2 : Int → lf_Z → Prop) (Q : lf_Z → Prop) (x1 : Int) (s : lf_Z) : Prop := X2 (x1 + 1) s
set_option maxRecDepth 100000 in
theorem gm_260_p59 {L : Nat} {xs : Nat → Int32} {d : Nat} {X2 : Int → lf_Z → Prop} {Q : lf_Z → Prop} {x1 : Int} {s : lf_Z} (hX2 : ∀ x1 s, X2 x1 s → lf_E (px_ro L xs) (d + 7) 260 2 [(0, .ref 95), (1, .int (Int32.ofInt x1))] [] s (lf_qv Q)) (h : fm_260_p59 X2 Q x1 s) : lf_E (px_ro L xs) (d + 7) 260 59 [(0, .ref 95), (1, .int (Int32.ofInt x1))] [] s (lf_qv Q) := by
  unfold fm_260_p59 at h
  refine lf_iinc 62 rfl rfl rfl rfl ?_
  refine lf_seg 1 (pc' := 2) (lv' := [(1, .int (Int32.ofInt (x1 + 1))), (0, .ref 95)]) (st' := []) rfl ?_
  refine lf_sub (l := [(0, .ref 95), (1, .int (Int32.ofInt (x1 + 1)))]) (lf_sb1 rfl (lf_sb1 rfl lf_sb0)) ?_
  exact hX2 _ _ h
def fm_260_p38 (X2 : Int → lf_Z → Prop) (Q : lf_Z → Prop) (x1 : Int) (X38 : Int → lf_Z → Prop) (x2 : Int) (s : lf_Z) : Prop := fm_239d x1 (fun r53 s52 => (lf_R x2 ∧ (lf_R r53 ∧ ((r53 < x2 → (fm_260_p59 X2 Q x1 s52)) ∧ (¬ (r53 < x2) → (fm_262 x1 (fun s56 => (X38 (x2 + 1) s56)) s52)))))) s
def fm_260_p38L (X2 : Int → lf_Z → Prop) (Q : lf_Z → Prop) (x1 : Int) (x2 : Int) (s : lf_Z) : Prop := ∀ X38 : Int → lf_Z → Prop, (∀ (x2 : Int) (s : lf_Z), fm_260_p38 X2 Q x1 X38 x2 s → X38 x2 s) → X38 x2 s
set_option maxRecDepth 100000 in
theorem gm_260_p38 {L : Nat} {xs : Nat → Int32} {d : Nat} {X2 : Int → lf_Z → Prop} {Q : lf_Z → Prop} {x1 : Int} {x2 : Int} {s : lf_Z} {X38 : Int → lf_Z → Prop} (hX2 : ∀ x1 s, X2 x1 s → lf_E (px_ro L xs) (d + 7) 260 2 [(0, .ref 95), (1, .int (Int32.ofInt x1))] [] s (lf_qv Q)) (hX38 : ∀ x2 s, X38 x2 s → lf_E (px_ro L xs) (d + 7) 260 38 [(0, .ref 95), (1, .int (Int32.ofInt x1)), (2, .int (Int32.ofInt x2))] [] s (lf_qv Q)) (h : fm_260_p38 X2 Q x1 X38 x2 s) : lf_E (px_ro L xs) (d + 7) 260 38 [(0, .ref 95), (1, .int (Int32.ofInt x1)), (2, .int (Int32.ofInt x2))] [] s (lf_qv Q) := by
  unfold fm_260_p38 at h
  refine lf_seg 4 (pc' := 42) (lv' := [(0, .ref 95), (1, .int (Int32.ofInt x1)), (2, .int (Int32.ofInt x2))]) (st' := [.int (Int32.ofInt 1), .int (Int32.ofInt x1), .ref 95, .int (Int32.ofInt x2)]) rfl ?_
  refine lf_callI 45 rfl rfl rfl rfl (gm_239d h) (fun r53 s52 h => ?_)
  obtain ⟨o54, h⟩ := h
  obtain ⟨o55, h⟩ := h
  refine lf_icmp_gt 59 48 rfl rfl rfl o54 o55 (fun c => ?_) (fun c => ?_)
  · have h := h.1 c
    refine lf_sub (l := [(0, .ref 95), (1, .int (Int32.ofInt x1))]) (lf_sb1 rfl (lf_sb1 rfl lf_sb0)) ?_
    exact gm_260_p59 hX2 h
  · have h := h.2 c
    refine lf_seg 2 (pc' := 50) (lv' := [(0, .ref 95), (1, .int (Int32.ofInt x1)), (2, .int (Int32.ofInt x2))]) (st' := [.int (Int32.ofInt x1), .ref 95]) rfl ?_
    refine lf_callV 53 rfl rfl rfl rfl (gm_262 h) (fun s56 h => ?_)
    refine lf_iinc 56 rfl rfl rfl rfl ?_
    refine lf_seg 1 (pc' := 38) (lv' := [(2, .int (Int32.ofInt (x2 + 1))), (0, .ref 95), (1, .int (Int32.ofInt x1))]) (st' := []) rfl ?_
    refine lf_sub (l := [(0, .ref 95), (1, .int (Int32.ofInt x1)), (2, .int (Int32.ofInt (x2 + 1)))]) (lf_sb1 rfl (lf_sb1 rfl (lf_sb1 rfl lf_sb0))) ?_
    exact hX38 _ _ h
theorem gm_260_p38L {L : Nat} {xs : Nat → Int32} {d : Nat} {X2 : Int → lf_Z → Prop} {Q : lf_Z → Prop} {x1 : Int} {x2 : Int} {s : lf_Z} (hX2 : ∀ x1 s, X2 x1 s → lf_E (px_ro L xs) (d + 7) 260 2 [(0, .ref 95), (1, .int (Int32.ofInt x1))] [] s (lf_qv Q)) (h : fm_260_p38L X2 Q x1 x2 s) : lf_E (px_ro L xs) (d + 7) 260 38 [(0, .ref 95), (1, .int (Int32.ofInt x1)), (2, .int (Int32.ofInt x2))] [] s (lf_qv Q) :=
  h (fun x2 s => lf_E (px_ro L xs) (d + 7) 260 38 [(0, .ref 95), (1, .int (Int32.ofInt x1)), (2, .int (Int32.ofInt x2))] [] s (lf_qv Q)) (fun x2 s hb => gm_260_p38 hX2 (fun _ _ h => h) hb)
def fm_260_p2 (Q : lf_Z → Prop) (X2 : Int → lf_Z → Prop) (x1 : Int) (s : lf_Z) : Prop := lf_R x1 ∧ (lf_R (s.1 96 2) ∧ ((s.1 96 2 ≤ x1 → (fm_260_p67L Q 0 s)) ∧ (¬ (s.1 96 2 ≤ x1) → (fm_239b x1 (fun r47 s46 => (lf_R r47 ∧ ((r47 ≠ (-1) → (fm_239b x1 (fun r50 s49 => (fm_261 r50 1 (fun s51 => (fm_260_p38L X2 Q x1 0 s51)) s49)) s46)) ∧ (¬ (r47 ≠ (-1)) → (fm_260_p59 X2 Q x1 s46))))) s))))
def fm_260_p2L (Q : lf_Z → Prop) (x1 : Int) (s : lf_Z) : Prop := ∀ X2 : Int → lf_Z → Prop, (∀ (x1 : Int) (s : lf_Z), fm_260_p2 Q X2 x1 s → X2 x1 s) → X2 x1 s
set_option maxRecDepth 100000 in
theorem gm_260_p2 {L : Nat} {xs : Nat → Int32} {d : Nat} {Q : lf_Z → Prop} {x1 : Int} {s : lf_Z} {X2 : Int → lf_Z → Prop} (hX2 : ∀ x1 s, X2 x1 s → lf_E (px_ro L xs) (d + 7) 260 2 [(0, .ref 95), (1, .int (Int32.ofInt x1))] [] s (lf_qv Q)) (h : fm_260_p2 Q X2 x1 s) : lf_E (px_ro L xs) (d + 7) 260 2 [(0, .ref 95), (1, .int (Int32.ofInt x1))] [] s (lf_qv Q) := by
  unfold fm_260_p2 at h
  refine lf_seg 4 (pc' := 8) (lv' := [(0, .ref 95), (1, .int (Int32.ofInt x1))]) (st' := [.int (Int32.ofInt 2), .ref 96, .int (Int32.ofInt x1)]) rfl ?_
  refine lf_iald 9 1538 rfl rfl rfl rfl rfl rfl ⟨by decide, by decide⟩ ?_
  obtain ⟨o21, h⟩ := h
  obtain ⟨o22, h⟩ := h
  refine lf_icmp_ge 65 12 rfl rfl rfl o21 o22 (fun c => ?_) (fun c => ?_)
  · have h := h.1 c
    refine lf_seg 2 (pc' := 67) (lv' := [(1, .int (Int32.ofInt 0)), (0, .ref 95)]) (st' := []) rfl ?_
    refine lf_sub (l := [(0, .ref 95), (1, .int (Int32.ofInt 0))]) (lf_sb1 rfl (lf_sb1 rfl lf_sb0)) ?_
    exact gm_260_p67L h
  · have h := h.2 c
    refine lf_seg 3 (pc' := 15) (lv' := [(0, .ref 95), (1, .int (Int32.ofInt x1))]) (st' := [.int (Int32.ofInt 4), .int (Int32.ofInt x1), .ref 95]) rfl ?_
    refine lf_callI 18 rfl rfl rfl rfl (gm_239b h) (fun r47 s46 h => ?_)
    refine lf_seg 1 (pc' := 19) (lv' := [(0, .ref 95), (1, .int (Int32.ofInt x1))]) (st' := [.int (Int32.ofInt (-1)), .int (Int32.ofInt r47)]) rfl ?_
    obtain ⟨o48, h⟩ := h
    refine lf_icmp_ne 25 22 rfl rfl rfl o48 ⟨by decide, by decide⟩ (fun c => ?_) (fun c => ?_)
    · have h := h.1 c
      refine lf_seg 4 (pc' := 29) (lv' := [(0, .ref 95), (1, .int (Int32.ofInt x1))]) (st' := [.int (Int32.ofInt 4), .int (Int32.ofInt x1), .ref 95, .ref 95]) rfl ?_
      refine lf_callI 32 rfl rfl rfl rfl (gm_239b h) (fun r50 s49 h => ?_)
      refine lf_seg 1 (pc' := 33) (lv' := [(0, .ref 95), (1, .int (Int32.ofInt x1))]) (st' := [.int (Int32.ofInt 1), .int (Int32.ofInt r50), .ref 95]) rfl ?_
      refine lf_callV 36 rfl rfl rfl rfl (gm_261 h) (fun s51 h => ?_)
      refine lf_seg 2 (pc' := 38) (lv' := [(2, .int (Int32.ofInt 0)), (0, .ref 95), (1, .int (Int32.ofInt x1))]) (st' := []) rfl ?_
      refine lf_sub (l := [(0, .ref 95), (1, .int (Int32.ofInt x1)), (2, .int (Int32.ofInt 0))]) (lf_sb1 rfl (lf_sb1 rfl (lf_sb1 rfl lf_sb0))) ?_
      exact gm_260_p38L hX2 h
    · have h := h.2 c
      refine lf_seg 1 (pc' := 59) (lv' := [(0, .ref 95), (1, .int (Int32.ofInt x1))]) (st' := []) rfl ?_
      refine lf_sub (l := [(0, .ref 95), (1, .int (Int32.ofInt x1))]) (lf_sb1 rfl (lf_sb1 rfl lf_sb0)) ?_
      exact gm_260_p59 hX2 h
theorem gm_260_p2L {L : Nat} {xs : Nat → Int32} {d : Nat} {Q : lf_Z → Prop} {x1 : Int} {s : lf_Z} (h : fm_260_p2L Q x1 s) : lf_E (px_ro L xs) (d + 7) 260 2 [(0, .ref 95), (1, .int (Int32.ofInt x1))] [] s (lf_qv Q) :=
  h (fun x1 s => lf_E (px_ro L xs) (d + 7) 260 2 [(0, .ref 95), (1, .int (Int32.ofInt x1))] [] s (lf_qv Q)) (fun x1 s hb => gm_260_p2 (fun _ _ h => h) hb)
def fm_260 (Q : lf_Z → Prop) (s : lf_Z) : Prop := fm_260_p2L Q 0 s
set_option maxRecDepth 100000 in
theorem gm_260 {L : Nat} {xs : Nat → Int32} {d : Nat} {Q : lf_Z → Prop} {s : lf_Z} (h : fm_260 Q s) : lf_M (px_ro L xs) (d + 7) 260 [.ref 95] s (lf_qv Q) := by
  unfold fm_260 at h
  show lf_E (px_ro L xs) (d + 7) 260 0 [(0, .ref 95)] [] s _
  refine lf_seg 2 (pc' := 2) (lv' := [(1, .int (Int32.ofInt 0)), (0, .ref 95)]) (st' := []) rfl ?_
  refine lf_sub (l := [(0, .ref 95), (1, .int (Int32.ofInt 0))]) (lf_sb1 rfl (lf_sb1 rfl lf_sb0)) ?_
  exact gm_260_p2L h
-- fm_259 Model.passStep 95
def fm_259 (Q : Bool → lf_Z → Prop) (s : lf_Z) : Prop := lf_R (s.1 96 3) ∧ ((s.1 96 3 ≠ 999 → (fm_244 (fun s22 => (fm_260 (fun s23 => (Q true s23)) s22)) s)) ∧ (¬ (s.1 96 3 ≠ 999) → (Q false s)))
set_option maxRecDepth 100000 in
theorem gm_259 {L : Nat} {xs : Nat → Int32} {d : Nat} {Q : Bool → lf_Z → Prop} {s : lf_Z} (h : fm_259 Q s) : lf_M (px_ro L xs) (d + 8) 259 [.ref 95] s (lf_qz Q) := by
  unfold fm_259 at h
  show lf_E (px_ro L xs) (d + 8) 259 0 [(0, .ref 95)] [] s _
  refine lf_seg 3 (pc' := 5) (lv' := [(0, .ref 95)]) (st' := [.int (Int32.ofInt 3), .ref 96]) rfl ?_
  refine lf_iald 6 1538 rfl rfl rfl rfl rfl rfl ⟨by decide, by decide⟩ ?_
  refine lf_sipush 9 999 rfl rfl (by decide) (by decide) ?_
  obtain ⟨o21, h⟩ := h
  refine lf_icmp_ne 14 12 rfl rfl rfl o21 ⟨by decide, by decide⟩ (fun c => ?_) (fun c => ?_)
  · have h := h.1 c
    refine lf_seg 1 (pc' := 15) (lv' := [(0, .ref 95)]) (st' := [.ref 95]) rfl ?_
    refine lf_callV 18 rfl rfl rfl rfl (gm_244 h) (fun s22 h => ?_)
    refine lf_seg 1 (pc' := 19) (lv' := [(0, .ref 95)]) (st' := [.ref 95]) rfl ?_
    refine lf_callV 22 rfl rfl rfl rfl (gm_260 h) (fun s23 h => ?_)
    refine lf_seg 1 (pc' := 23) (lv' := [(0, .ref 95)]) (st' := [.int (Int32.ofInt 1)]) rfl ?_
    exact lf_retZ true rfl rfl h
  · have h := h.2 c
    refine lf_seg 1 (pc' := 13) (lv' := [(0, .ref 95)]) (st' := [.int (Int32.ofInt 0)]) rfl ?_
    exact lf_retZ false rfl rfl h
-- fm_258 Model.areMinutes 95 i
def fm_258_p2 (Q : Bool → lf_Z → Prop) (x1 : Int) (X2 : Int → lf_Z → Prop) (x2 : Int) (s : lf_Z) : Prop := lf_R x2 ∧ (lf_R x1 ∧ ((x1 ≤ x2 → (Q true s)) ∧ (¬ (x1 ≤ x2) → (fm_259 (fun z24 s23 => ((z24 = true → (X2 (x2 + 1) s23)) ∧ (z24 = false → (Q false s23)))) s))))
def fm_258_p2L (Q : Bool → lf_Z → Prop) (x1 : Int) (x2 : Int) (s : lf_Z) : Prop := ∀ X2 : Int → lf_Z → Prop, (∀ (x2 : Int) (s : lf_Z), fm_258_p2 Q x1 X2 x2 s → X2 x2 s) → X2 x2 s
set_option maxRecDepth 100000 in
theorem gm_258_p2 {L : Nat} {xs : Nat → Int32} {d : Nat} {Q : Bool → lf_Z → Prop} {x1 : Int} {x2 : Int} {s : lf_Z} {X2 : Int → lf_Z → Prop} (hX2 : ∀ x2 s, X2 x2 s → lf_E (px_ro L xs) (d + 9) 258 2 [(0, .ref 95), (1, .int (Int32.ofInt x1)), (2, .int (Int32.ofInt x2))] [] s (lf_qz Q)) (h : fm_258_p2 Q x1 X2 x2 s) : lf_E (px_ro L xs) (d + 9) 258 2 [(0, .ref 95), (1, .int (Int32.ofInt x1)), (2, .int (Int32.ofInt x2))] [] s (lf_qz Q) := by
  unfold fm_258_p2 at h
  refine lf_seg 2 (pc' := 4) (lv' := [(0, .ref 95), (1, .int (Int32.ofInt x1)), (2, .int (Int32.ofInt x2))]) (st' := [.int (Int32.ofInt x1), .int (Int32.ofInt x2)]) rfl ?_
  obtain ⟨o21, h⟩ := h
  obtain ⟨o22, h⟩ := h
  refine lf_icmp_ge 22 7 rfl rfl rfl o21 o22 (fun c => ?_) (fun c => ?_)
  · have h := h.1 c
    refine lf_seg 1 (pc' := 23) (lv' := [(0, .ref 95), (1, .int (Int32.ofInt x1)), (2, .int (Int32.ofInt x2))]) (st' := [.int (Int32.ofInt 1)]) rfl ?_
    exact lf_retZ true rfl rfl h
  · have h := h.2 c
    refine lf_seg 1 (pc' := 8) (lv' := [(0, .ref 95), (1, .int (Int32.ofInt x1)), (2, .int (Int32.ofInt x2))]) (st' := [.ref 95]) rfl ?_
    refine lf_callZ 11 rfl rfl rfl rfl (gm_259 h) (fun z24 s23 h => ?_)
    refine lf_ifz_ne 16 14 rfl rfl rfl (fun c => ?_) (fun c => ?_)
    · have h := h.1 c
      refine lf_iinc 19 rfl rfl rfl rfl ?_
      refine lf_seg 1 (pc' := 2) (lv' := [(2, .int (Int32.ofInt (x2 + 1))), (0, .ref 95), (1, .int (Int32.ofInt x1))]) (st' := []) rfl ?_
      refine lf_sub (l := [(0, .ref 95), (1, .int (Int32.ofInt x1)), (2, .int (Int32.ofInt (x2 + 1)))]) (lf_sb1 rfl (lf_sb1 rfl (lf_sb1 rfl lf_sb0))) ?_
      exact hX2 _ _ h
    · have h := h.2 c
      refine lf_seg 1 (pc' := 15) (lv' := [(0, .ref 95), (1, .int (Int32.ofInt x1)), (2, .int (Int32.ofInt x2))]) (st' := [.int (Int32.ofInt 0)]) rfl ?_
      exact lf_retZ false rfl rfl h
theorem gm_258_p2L {L : Nat} {xs : Nat → Int32} {d : Nat} {Q : Bool → lf_Z → Prop} {x1 : Int} {x2 : Int} {s : lf_Z} (h : fm_258_p2L Q x1 x2 s) : lf_E (px_ro L xs) (d + 9) 258 2 [(0, .ref 95), (1, .int (Int32.ofInt x1)), (2, .int (Int32.ofInt x2))] [] s (lf_qz Q) :=
  h (fun x2 s => lf_E (px_ro L xs) (d + 9) 258 2 [(0, .ref 95), (1, .int (Int32.ofInt x1)), (2, .int (Int32.ofInt x2))] [] s (lf_qz Q)) (fun x2 s hb => gm_258_p2 (fun _ _ h => h) hb)
def fm_258 (a1 : Int) (Q : Bool → lf_Z → Prop) (s : lf_Z) : Prop := fm_258_p2L Q a1 0 s
set_option maxRecDepth 100000 in
theorem gm_258 {L : Nat} {xs : Nat → Int32} {d : Nat} {a1 : Int} {Q : Bool → lf_Z → Prop} {s : lf_Z} (h : fm_258 a1 Q s) : lf_M (px_ro L xs) (d + 9) 258 [.ref 95, .int (Int32.ofInt a1)] s (lf_qz Q) := by
  unfold fm_258 at h
  show lf_E (px_ro L xs) (d + 9) 258 0 [(0, .ref 95), (1, .int (Int32.ofInt a1))] [] s _
  refine lf_seg 2 (pc' := 2) (lv' := [(2, .int (Int32.ofInt 0)), (0, .ref 95), (1, .int (Int32.ofInt a1))]) (st' := []) rfl ?_
  refine lf_sub (l := [(0, .ref 95), (1, .int (Int32.ofInt a1)), (2, .int (Int32.ofInt 0))]) (lf_sb1 rfl (lf_sb1 rfl (lf_sb1 rfl lf_sb0))) ?_
  exact gm_258_p2L h
-- fm_279 Model.allDone 95
def fm_279_p4 (Q : Int → lf_Z → Prop) (X4 : Int → Int → lf_Z → Prop) (x1 : Int) (x2 : Int) (s : lf_Z) : Prop := lf_R x2 ∧ (lf_R (s.1 96 0) ∧ ((s.1 96 0 ≤ x2 → (Q x1 s)) ∧ (¬ (s.1 96 0 ≤ x2) → (fm_246 x2 (fun r24 s23 => (X4 (lf_w (x1 + r24)) (x2 + 1) s23)) s))))
def fm_279_p4L (Q : Int → lf_Z → Prop) (x1 : Int) (x2 : Int) (s : lf_Z) : Prop := ∀ X4 : Int → Int → lf_Z → Prop, (∀ (x1 : Int) (x2 : Int) (s : lf_Z), fm_279_p4 Q X4 x1 x2 s → X4 x1 x2 s) → X4 x1 x2 s
set_option maxRecDepth 100000 in
theorem gm_279_p4 {L : Nat} {xs : Nat → Int32} {d : Nat} {Q : Int → lf_Z → Prop} {x1 : Int} {x2 : Int} {s : lf_Z} {X4 : Int → Int → lf_Z → Prop} (hX4 : ∀ x1 x2 s, X4 x1 x2 s → lf_E (px_ro L xs) (d + 2) 279 4 [(0, .ref 95), (1, .int (Int32.ofInt x1)), (2, .int (Int32.ofInt x2))] [] s (lf_qi Q)) (h : fm_279_p4 Q X4 x1 x2 s) : lf_E (px_ro L xs) (d + 2) 279 4 [(0, .ref 95), (1, .int (Int32.ofInt x1)), (2, .int (Int32.ofInt x2))] [] s (lf_qi Q) := by
  unfold fm_279_p4 at h
  refine lf_seg 4 (pc' := 10) (lv' := [(0, .ref 95), (1, .int (Int32.ofInt x1)), (2, .int (Int32.ofInt x2))]) (st' := [.int (Int32.ofInt 0), .ref 96, .int (Int32.ofInt x2)]) rfl ?_
  refine lf_iald 11 1538 rfl rfl rfl rfl rfl rfl ⟨by decide, by decide⟩ ?_
  obtain ⟨o21, h⟩ := h
  obtain ⟨o22, h⟩ := h
  refine lf_icmp_ge 28 14 rfl rfl rfl o21 o22 (fun c => ?_) (fun c => ?_)
  · have h := h.1 c
    refine lf_seg 1 (pc' := 29) (lv' := [(0, .ref 95), (1, .int (Int32.ofInt x1)), (2, .int (Int32.ofInt x2))]) (st' := [.int (Int32.ofInt x1)]) rfl ?_
    exact lf_retI rfl rfl h
  · have h := h.2 c
    refine lf_seg 3 (pc' := 17) (lv' := [(0, .ref 95), (1, .int (Int32.ofInt x1)), (2, .int (Int32.ofInt x2))]) (st' := [.int (Int32.ofInt x2), .ref 95, .int (Int32.ofInt x1)]) rfl ?_
    refine lf_callI 20 rfl rfl rfl rfl (gm_246 h) (fun r24 s23 h => ?_)
    refine lf_iadd 21 rfl rfl ?_
    refine lf_wtI ?_
    refine lf_seg 1 (pc' := 22) (lv' := [(1, .int (Int32.ofInt (lf_w (x1 + r24)))), (0, .ref 95), (2, .int (Int32.ofInt x2))]) (st' := []) rfl ?_
    refine lf_iinc 25 rfl rfl rfl rfl ?_
    refine lf_seg 1 (pc' := 4) (lv' := [(2, .int (Int32.ofInt (x2 + 1))), (1, .int (Int32.ofInt (lf_w (x1 + r24)))), (0, .ref 95)]) (st' := []) rfl ?_
    refine lf_sub (l := [(0, .ref 95), (1, .int (Int32.ofInt (lf_w (x1 + r24)))), (2, .int (Int32.ofInt (x2 + 1)))]) (lf_sb1 rfl (lf_sb1 rfl (lf_sb1 rfl lf_sb0))) ?_
    exact hX4 _ _ _ h
theorem gm_279_p4L {L : Nat} {xs : Nat → Int32} {d : Nat} {Q : Int → lf_Z → Prop} {x1 : Int} {x2 : Int} {s : lf_Z} (h : fm_279_p4L Q x1 x2 s) : lf_E (px_ro L xs) (d + 2) 279 4 [(0, .ref 95), (1, .int (Int32.ofInt x1)), (2, .int (Int32.ofInt x2))] [] s (lf_qi Q) :=
  h (fun x1 x2 s => lf_E (px_ro L xs) (d + 2) 279 4 [(0, .ref 95), (1, .int (Int32.ofInt x1)), (2, .int (Int32.ofInt x2))] [] s (lf_qi Q)) (fun x1 x2 s hb => gm_279_p4 (fun _ _ _ h => h) hb)
def fm_279 (Q : Int → lf_Z → Prop) (s : lf_Z) : Prop := fm_279_p4L Q 0 0 s
set_option maxRecDepth 100000 in
theorem gm_279 {L : Nat} {xs : Nat → Int32} {d : Nat} {Q : Int → lf_Z → Prop} {s : lf_Z} (h : fm_279 Q s) : lf_M (px_ro L xs) (d + 2) 279 [.ref 95] s (lf_qi Q) := by
  unfold fm_279 at h
  show lf_E (px_ro L xs) (d + 2) 279 0 [(0, .ref 95)] [] s _
  refine lf_seg 4 (pc' := 4) (lv' := [(2, .int (Int32.ofInt 0)), (1, .int (Int32.ofInt 0)), (0, .ref 95)]) (st' := []) rfl ?_
  refine lf_sub (l := [(0, .ref 95), (1, .int (Int32.ofInt 0)), (2, .int (Int32.ofInt 0))]) (lf_sb1 rfl (lf_sb1 rfl (lf_sb1 rfl lf_sb0))) ?_
  exact gm_279_p4L h
-- fm_257 Model.minute 95 i
def fm_257 (a1 : Int) (Q : Int → lf_Z → Prop) (s : lf_Z) : Prop := fm_183 a1 1 60 (fun z22 s21 => ((z22 = false → (Q (-1) s21)) ∧ (z22 = true → ((999 < lf_w ((s21.1 96 3) + a1) → (Q (-1) s21)) ∧ (¬ (999 < lf_w ((s21.1 96 3) + a1)) → (fm_258 a1 (fun z24 s23 => ((z24 = false → (Q (-1) s23)) ∧ (z24 = true → (fm_279 (fun r26 s25 => (Q r26 s25)) s23)))) s21)))))) s
set_option maxRecDepth 100000 in
theorem gm_257 {L : Nat} {xs : Nat → Int32} {d : Nat} {a1 : Int} {Q : Int → lf_Z → Prop} {s : lf_Z} (h : fm_257 a1 Q s) : lf_M (px_ro L xs) (d + 10) 257 [.ref 95, .int (Int32.ofInt a1)] s (lf_qi Q) := by
  unfold fm_257 at h
  show lf_E (px_ro L xs) (d + 10) 257 0 [(0, .ref 95), (1, .int (Int32.ofInt a1))] [] s _
  refine lf_seg 2 (pc' := 2) (lv' := [(0, .ref 95), (1, .int (Int32.ofInt a1))]) (st' := [.int (Int32.ofInt 1), .int (Int32.ofInt a1)]) rfl ?_
  refine lf_bipush 4 60 rfl rfl (by decide) (by decide) ?_
  refine lf_callZ 7 rfl rfl rfl rfl (gm_183 h) (fun z22 s21 h => ?_)
  refine lf_ifz_eq 39 10 rfl rfl rfl (fun c => ?_) (fun c => ?_)
  · have h := h.1 c
    refine lf_seg 1 (pc' := 40) (lv' := [(0, .ref 95), (1, .int (Int32.ofInt a1))]) (st' := [.int (Int32.ofInt (-1))]) rfl ?_
    exact lf_retI rfl rfl h
  · have h := h.2 c
    refine lf_seg 3 (pc' := 15) (lv' := [(0, .ref 95), (1, .int (Int32.ofInt a1))]) (st' := [.int (Int32.ofInt 3), .ref 96]) rfl ?_
    refine lf_iald 16 1538 rfl rfl rfl rfl rfl rfl ⟨by decide, by decide⟩ ?_
    refine lf_seg 1 (pc' := 17) (lv' := [(0, .ref 95), (1, .int (Int32.ofInt a1))]) (st' := [.int (Int32.ofInt a1), .int (Int32.ofInt (s21.1 96 3))]) rfl ?_
    refine lf_iadd 18 rfl rfl ?_
    refine lf_wtI ?_
    refine lf_sipush 21 999 rfl rfl (by decide) (by decide) ?_
    refine lf_icmp_gt 39 24 rfl rfl rfl lf_Rw ⟨by decide, by decide⟩ (fun c => ?_) (fun c => ?_)
    · have h := h.1 c
      refine lf_seg 1 (pc' := 40) (lv' := [(0, .ref 95), (1, .int (Int32.ofInt a1))]) (st' := [.int (Int32.ofInt (-1))]) rfl ?_
      exact lf_retI rfl rfl h
    · have h := h.2 c
      refine lf_seg 2 (pc' := 26) (lv' := [(0, .ref 95), (1, .int (Int32.ofInt a1))]) (st' := [.int (Int32.ofInt a1), .ref 95]) rfl ?_
      refine lf_callZ 29 rfl rfl rfl rfl (gm_258 h) (fun z24 s23 h => ?_)
      refine lf_ifz_eq 39 32 rfl rfl rfl (fun c => ?_) (fun c => ?_)
      · have h := h.1 c
        refine lf_seg 1 (pc' := 40) (lv' := [(0, .ref 95), (1, .int (Int32.ofInt a1))]) (st' := [.int (Int32.ofInt (-1))]) rfl ?_
        exact lf_retI rfl rfl h
      · have h := h.2 c
        refine lf_seg 1 (pc' := 33) (lv' := [(0, .ref 95), (1, .int (Int32.ofInt a1))]) (st' := [.ref 95]) rfl ?_
        refine lf_callI 36 rfl rfl rfl rfl (gm_279 h) (fun r26 s25 h => ?_)
        refine lf_seg 1 (pc' := 40) (lv' := [(0, .ref 95), (1, .int (Int32.ofInt a1))]) (st' := [.int (Int32.ofInt r26)]) rfl ?_
        exact lf_retI rfl rfl h
-- fm_99 Land.hasPerson 1 i
def fm_99 (a1 : Int) (Q : Bool → lf_Z → Prop) (s : lf_Z) : Prop := lf_R a1 ∧ ((a1 < 0 → (Q false s)) ∧ (¬ (a1 < 0) → (lf_R (s.1 1 2) ∧ ((s.1 1 2 ≤ a1 → (Q false s)) ∧ (¬ (s.1 1 2 ≤ a1) → (Q true s))))))
set_option maxRecDepth 100000 in
theorem gm_99 {L : Nat} {xs : Nat → Int32} {d : Nat} {a1 : Int} {Q : Bool → lf_Z → Prop} {s : lf_Z} (h : fm_99 a1 Q s) : lf_M (px_ro L xs) (d + 1) 99 [.ref 1, .int (Int32.ofInt a1)] s (lf_qz Q) := by
  unfold fm_99 at h
  show lf_E (px_ro L xs) (d + 1) 99 0 [(0, .ref 1), (1, .int (Int32.ofInt a1))] [] s _
  refine lf_seg 1 (pc' := 1) (lv' := [(0, .ref 1), (1, .int (Int32.ofInt a1))]) (st' := [.int (Int32.ofInt a1)]) rfl ?_
  obtain ⟨o21, h⟩ := h
  refine lf_if_lt 16 4 rfl rfl rfl o21 (fun c => ?_) (fun c => ?_)
  · have h := h.1 c
    refine lf_seg 1 (pc' := 17) (lv' := [(0, .ref 1), (1, .int (Int32.ofInt a1))]) (st' := [.int (Int32.ofInt 0)]) rfl ?_
    exact lf_retZ false rfl rfl h
  · have h := h.2 c
    refine lf_seg 2 (pc' := 6) (lv' := [(0, .ref 1), (1, .int (Int32.ofInt a1))]) (st' := [.ref 1, .int (Int32.ofInt a1)]) rfl ?_
    refine lf_getI 9 2 rfl rfl rfl rfl rfl rfl rfl ?_
    obtain ⟨o22, h⟩ := h
    refine lf_icmp_ge 16 12 rfl rfl rfl o21 o22 (fun c => ?_) (fun c => ?_)
    · have h := h.1 c
      refine lf_seg 1 (pc' := 17) (lv' := [(0, .ref 1), (1, .int (Int32.ofInt a1))]) (st' := [.int (Int32.ofInt 0)]) rfl ?_
      exact lf_retZ false rfl rfl h
    · have h := h.2 c
      refine lf_seg 2 (pc' := 17) (lv' := [(0, .ref 1), (1, .int (Int32.ofInt a1))]) (st' := [.int (Int32.ofInt 1)]) rfl ?_
      exact lf_retZ true rfl rfl h
-- fm_98 ElevenBullocks.send 0 i i
def fm_98 (a1 : Int) (a2 : Int) (Q : Bool → lf_Z → Prop) (s : lf_Z) : Prop := fm_99 a1 (fun z22 s21 => ((z22 = false → (Q false s21)) ∧ (z22 = true → (fm_15 a2 (-1) ((s21.1 1 0) - 1) (fun z24 s23 => ((z24 = false → (Q false s23)) ∧ (z24 = true → ((0 ≤ a1 ∧ a1 < 6) ∧ (lf_R (s23.1 20 a1) ∧ (lf_R a2 ∧ ((s23.1 20 a1 ≠ a2 → (fm_67 (s23.1 1 2) (fun s28 => (Q true (lf_up s28.1 20 a1 a2, s28.2.1, s28.2.2))) s23)) ∧ (¬ (s23.1 20 a1 ≠ a2) → (Q false s23))))))))) s21)))) s
set_option maxRecDepth 100000 in
theorem gm_98 {L : Nat} {xs : Nat → Int32} {d : Nat} {a1 : Int} {a2 : Int} {Q : Bool → lf_Z → Prop} {s : lf_Z} (h : fm_98 a1 a2 Q s) : lf_M (px_ro L xs) (d + 3) 98 [.ref 0, .int (Int32.ofInt a1), .int (Int32.ofInt a2)] s (lf_qz Q) := by
  unfold fm_98 at h
  show lf_E (px_ro L xs) (d + 3) 98 0 [(0, .ref 0), (1, .int (Int32.ofInt a1)), (2, .int (Int32.ofInt a2))] [] s _
  refine lf_seg 3 (pc' := 5) (lv' := [(0, .ref 0), (1, .int (Int32.ofInt a1)), (2, .int (Int32.ofInt a2))]) (st' := [.int (Int32.ofInt a1), .ref 1]) rfl ?_
  refine lf_callZ 8 rfl rfl rfl rfl (gm_99 h) (fun z22 s21 h => ?_)
  refine lf_ifz_eq 41 11 rfl rfl rfl (fun c => ?_) (fun c => ?_)
  · have h := h.1 c
    refine lf_seg 1 (pc' := 42) (lv' := [(0, .ref 0), (1, .int (Int32.ofInt a1)), (2, .int (Int32.ofInt a2))]) (st' := [.int (Int32.ofInt 0)]) rfl ?_
    exact lf_retZ false rfl rfl h
  · have h := h.2 c
    refine lf_seg 4 (pc' := 17) (lv' := [(0, .ref 0), (1, .int (Int32.ofInt a1)), (2, .int (Int32.ofInt a2))]) (st' := [.ref 1, .int (Int32.ofInt (-1)), .int (Int32.ofInt a2)]) rfl ?_
    refine lf_getI 20 0 rfl rfl rfl rfl rfl rfl rfl ?_
    refine lf_seg 1 (pc' := 21) (lv' := [(0, .ref 0), (1, .int (Int32.ofInt a1)), (2, .int (Int32.ofInt a2))]) (st' := [.int (Int32.ofInt 1), .int (Int32.ofInt (s21.1 1 0)), .int (Int32.ofInt (-1)), .int (Int32.ofInt a2)]) rfl ?_
    refine lf_isub 22 rfl rfl ?_
    refine lf_callZ 25 rfl rfl rfl rfl (gm_15 h) (fun z24 s23 h => ?_)
    refine lf_ifz_eq 41 28 rfl rfl rfl (fun c => ?_) (fun c => ?_)
    · have h := h.1 c
      refine lf_seg 1 (pc' := 42) (lv' := [(0, .ref 0), (1, .int (Int32.ofInt a1)), (2, .int (Int32.ofInt a2))]) (st' := [.int (Int32.ofInt 0)]) rfl ?_
      exact lf_retZ false rfl rfl h
    · have h := h.2 c
      refine lf_seg 4 (pc' := 36) (lv' := [(0, .ref 0), (1, .int (Int32.ofInt a1)), (2, .int (Int32.ofInt a2))]) (st' := [.int (Int32.ofInt a1), .ref 20]) rfl ?_
      obtain ⟨o25, h⟩ := h
      refine lf_iald 37 6 rfl rfl rfl rfl rfl rfl o25 ?_
      refine lf_seg 1 (pc' := 38) (lv' := [(0, .ref 0), (1, .int (Int32.ofInt a1)), (2, .int (Int32.ofInt a2))]) (st' := [.int (Int32.ofInt a2), .int (Int32.ofInt (s23.1 20 a1))]) rfl ?_
      obtain ⟨o26, h⟩ := h
      obtain ⟨o27, h⟩ := h
      refine lf_icmp_ne 43 41 rfl rfl rfl o26 o27 (fun c => ?_) (fun c => ?_)
      · have h := h.1 c
        refine lf_seg 6 (pc' := 55) (lv' := [(0, .ref 0), (1, .int (Int32.ofInt a1)), (2, .int (Int32.ofInt a2))]) (st' := [.ref 1, .ref 15, .ref 22]) rfl ?_
        refine lf_getI 58 2 rfl rfl rfl rfl rfl rfl rfl ?_
        refine lf_callV 61 rfl rfl rfl rfl (gm_67 h) (fun s28 h => ?_)
        refine lf_seg 5 (pc' := 70) (lv' := [(0, .ref 0), (1, .int (Int32.ofInt a1)), (2, .int (Int32.ofInt a2))]) (st' := [.int (Int32.ofInt a2), .int (Int32.ofInt a1), .ref 20]) rfl ?_
        refine lf_iast 71 6 rfl rfl rfl rfl rfl rfl o25 ?_
        refine lf_as (lf_up s28.1 20 a1 a2, s28.2.1, s28.2.2) rfl ?_
        refine lf_seg 1 (pc' := 72) (lv' := [(0, .ref 0), (1, .int (Int32.ofInt a1)), (2, .int (Int32.ofInt a2))]) (st' := [.int (Int32.ofInt 1)]) rfl ?_
        exact lf_retZ true rfl rfl h
      · have h := h.2 c
        refine lf_seg 1 (pc' := 42) (lv' := [(0, .ref 0), (1, .int (Int32.ofInt a1)), (2, .int (Int32.ofInt a2))]) (st' := [.int (Int32.ofInt 0)]) rfl ?_
        exact lf_retZ false rfl rfl h
-- fm_249 Model.isPerson 95 i
def fm_249 (a1 : Int) (Q : Bool → lf_Z → Prop) (s : lf_Z) : Prop := fm_183 a1 0 ((s.1 96 2) - 1) (fun z22 s21 => (Q z22 s21)) s
set_option maxRecDepth 100000 in
theorem gm_249 {L : Nat} {xs : Nat → Int32} {d : Nat} {a1 : Int} {Q : Bool → lf_Z → Prop} {s : lf_Z} (h : fm_249 a1 Q s) : lf_M (px_ro L xs) (d + 2) 249 [.ref 95, .int (Int32.ofInt a1)] s (lf_qz Q) := by
  unfold fm_249 at h
  show lf_E (px_ro L xs) (d + 2) 249 0 [(0, .ref 95), (1, .int (Int32.ofInt a1))] [] s _
  refine lf_seg 5 (pc' := 7) (lv' := [(0, .ref 95), (1, .int (Int32.ofInt a1))]) (st' := [.int (Int32.ofInt 2), .ref 96, .int (Int32.ofInt 0), .int (Int32.ofInt a1)]) rfl ?_
  refine lf_iald 8 1538 rfl rfl rfl rfl rfl rfl ⟨by decide, by decide⟩ ?_
  refine lf_seg 1 (pc' := 9) (lv' := [(0, .ref 95), (1, .int (Int32.ofInt a1))]) (st' := [.int (Int32.ofInt 1), .int (Int32.ofInt (s.1 96 2)), .int (Int32.ofInt 0), .int (Int32.ofInt a1)]) rfl ?_
  refine lf_isub 10 rfl rfl ?_
  refine lf_callZ 13 rfl rfl rfl rfl (gm_183 h) (fun z22 s21 h => ?_)
  exact lf_retZ z22 rfl rfl h
-- fm_248 Model.send 95 i i
def fm_248_p21 (Q : Bool → lf_Z → Prop) (x1 : Int) (x2 : Int) (s : lf_Z) : Prop := fm_239b x1 (fun r25 s24 => (lf_R r25 ∧ (lf_R x2 ∧ ((r25 ≠ x2 → (fm_244 (fun s28 => (fm_191e x1 x2 (fun s29 => (Q true s29)) s28)) s24)) ∧ (¬ (r25 ≠ x2) → (Q false s24)))))) s
set_option maxRecDepth 100000 in
theorem gm_248_p21 {L : Nat} {xs : Nat → Int32} {d : Nat} {Q : Bool → lf_Z → Prop} {x1 : Int} {x2 : Int} {s : lf_Z} (h : fm_248_p21 Q x1 x2 s) : lf_E (px_ro L xs) (d + 3) 248 21 [(0, .ref 95), (1, .int (Int32.ofInt x1)), (2, .int (Int32.ofInt x2))] [] s (lf_qz Q) := by
  unfold fm_248_p21 at h
  refine lf_seg 3 (pc' := 24) (lv' := [(0, .ref 95), (1, .int (Int32.ofInt x1)), (2, .int (Int32.ofInt x2))]) (st' := [.int (Int32.ofInt 4), .int (Int32.ofInt x1), .ref 95]) rfl ?_
  refine lf_callI 27 rfl rfl rfl rfl (gm_239b h) (fun r25 s24 h => ?_)
  refine lf_seg 1 (pc' := 28) (lv' := [(0, .ref 95), (1, .int (Int32.ofInt x1)), (2, .int (Int32.ofInt x2))]) (st' := [.int (Int32.ofInt x2), .int (Int32.ofInt r25)]) rfl ?_
  obtain ⟨o26, h⟩ := h
  obtain ⟨o27, h⟩ := h
  refine lf_icmp_ne 33 31 rfl rfl rfl o26 o27 (fun c => ?_) (fun c => ?_)
  · have h := h.1 c
    refine lf_seg 1 (pc' := 34) (lv' := [(0, .ref 95), (1, .int (Int32.ofInt x1)), (2, .int (Int32.ofInt x2))]) (st' := [.ref 95]) rfl ?_
    refine lf_callV 37 rfl rfl rfl rfl (gm_244 h) (fun s28 h => ?_)
    refine lf_seg 4 (pc' := 41) (lv' := [(0, .ref 95), (1, .int (Int32.ofInt x1)), (2, .int (Int32.ofInt x2))]) (st' := [.int (Int32.ofInt x2), .int (Int32.ofInt 4), .int (Int32.ofInt x1), .ref 95]) rfl ?_
    refine lf_callV 44 rfl rfl rfl rfl (gm_191e h) (fun s29 h => ?_)
    refine lf_seg 1 (pc' := 45) (lv' := [(0, .ref 95), (1, .int (Int32.ofInt x1)), (2, .int (Int32.ofInt x2))]) (st' := [.int (Int32.ofInt 1)]) rfl ?_
    exact lf_retZ true rfl rfl h
  · have h := h.2 c
    refine lf_seg 1 (pc' := 32) (lv' := [(0, .ref 95), (1, .int (Int32.ofInt x1)), (2, .int (Int32.ofInt x2))]) (st' := [.int (Int32.ofInt 0)]) rfl ?_
    exact lf_retZ false rfl rfl h
def fm_248 (a1 : Int) (a2 : Int) (Q : Bool → lf_Z → Prop) (s : lf_Z) : Prop := fm_249 a1 (fun z22 s21 => ((z22 = false → (Q false s21)) ∧ (z22 = true → (lf_R a2 ∧ ((a2 = (-1) → (fm_248_p21 Q a1 a2 s21)) ∧ (¬ (a2 = (-1)) → (fm_185 a2 (fun z31 s30 => ((z31 = false → (Q false s30)) ∧ (z31 = true → (fm_248_p21 Q a1 a2 s30)))) s21))))))) s
set_option maxRecDepth 100000 in
theorem gm_248 {L : Nat} {xs : Nat → Int32} {d : Nat} {a1 : Int} {a2 : Int} {Q : Bool → lf_Z → Prop} {s : lf_Z} (h : fm_248 a1 a2 Q s) : lf_M (px_ro L xs) (d + 3) 248 [.ref 95, .int (Int32.ofInt a1), .int (Int32.ofInt a2)] s (lf_qz Q) := by
  unfold fm_248 at h
  show lf_E (px_ro L xs) (d + 3) 248 0 [(0, .ref 95), (1, .int (Int32.ofInt a1)), (2, .int (Int32.ofInt a2))] [] s _
  refine lf_seg 2 (pc' := 2) (lv' := [(0, .ref 95), (1, .int (Int32.ofInt a1)), (2, .int (Int32.ofInt a2))]) (st' := [.int (Int32.ofInt a1), .ref 95]) rfl ?_
  refine lf_callZ 5 rfl rfl rfl rfl (gm_249 h) (fun z22 s21 h => ?_)
  refine lf_ifz_eq 31 8 rfl rfl rfl (fun c => ?_) (fun c => ?_)
  · have h := h.1 c
    refine lf_seg 1 (pc' := 32) (lv' := [(0, .ref 95), (1, .int (Int32.ofInt a1)), (2, .int (Int32.ofInt a2))]) (st' := [.int (Int32.ofInt 0)]) rfl ?_
    exact lf_retZ false rfl rfl h
  · have h := h.2 c
    refine lf_seg 2 (pc' := 10) (lv' := [(0, .ref 95), (1, .int (Int32.ofInt a1)), (2, .int (Int32.ofInt a2))]) (st' := [.int (Int32.ofInt (-1)), .int (Int32.ofInt a2)]) rfl ?_
    obtain ⟨o23, h⟩ := h
    refine lf_icmp_eq 21 13 rfl rfl rfl o23 ⟨by decide, by decide⟩ (fun c => ?_) (fun c => ?_)
    · have h := h.1 c
      refine lf_sub (l := [(0, .ref 95), (1, .int (Int32.ofInt a1)), (2, .int (Int32.ofInt a2))]) (lf_sb1 rfl (lf_sb1 rfl (lf_sb1 rfl lf_sb0))) ?_
      exact gm_248_p21 h
    · have h := h.2 c
      refine lf_seg 2 (pc' := 15) (lv' := [(0, .ref 95), (1, .int (Int32.ofInt a1)), (2, .int (Int32.ofInt a2))]) (st' := [.int (Int32.ofInt a2), .ref 95]) rfl ?_
      refine lf_callZ 18 rfl rfl rfl rfl (gm_185 h) (fun z31 s30 h => ?_)
      refine lf_ifz_eq 31 21 rfl rfl rfl (fun c => ?_) (fun c => ?_)
      · have h := h.1 c
        refine lf_seg 1 (pc' := 32) (lv' := [(0, .ref 95), (1, .int (Int32.ofInt a1)), (2, .int (Int32.ofInt a2))]) (st' := [.int (Int32.ofInt 0)]) rfl ?_
        exact lf_retZ false rfl rfl h
      · have h := h.2 c
        refine lf_sub (l := [(0, .ref 95), (1, .int (Int32.ofInt a1)), (2, .int (Int32.ofInt a2))]) (lf_sb1 rfl (lf_sb1 rfl (lf_sb1 rfl lf_sb0))) ?_
        exact gm_248_p21 h
-- fm_101 Stand.turn 15 i
def fm_101 (a1 : Int) (Q : lf_Z → Prop) (s : lf_Z) : Prop := Q (lf_up s.1 15 6 (lf_xor (s.1 15 6) (lf_shl 1 a1)), s.2.1, s.2.2)
set_option maxRecDepth 100000 in
theorem gm_101 {L : Nat} {xs : Nat → Int32} {d : Nat} {a1 : Int} {Q : lf_Z → Prop} {s : lf_Z} (h : fm_101 a1 Q s) : lf_M (px_ro L xs) (d + 1) 101 [.ref 15, .int (Int32.ofInt a1)] s (lf_qv Q) := by
  unfold fm_101 at h
  show lf_E (px_ro L xs) (d + 1) 101 0 [(0, .ref 15), (1, .int (Int32.ofInt a1))] [] s _
  refine lf_seg 2 (pc' := 2) (lv' := [(0, .ref 15), (1, .int (Int32.ofInt a1))]) (st' := [.ref 15, .ref 15]) rfl ?_
  refine lf_getI 5 6 rfl rfl rfl rfl rfl rfl rfl ?_
  refine lf_seg 2 (pc' := 7) (lv' := [(0, .ref 15), (1, .int (Int32.ofInt a1))]) (st' := [.int (Int32.ofInt a1), .int (Int32.ofInt 1), .int (Int32.ofInt (s.1 15 6)), .ref 15]) rfl ?_
  refine lf_ishl 8 rfl rfl ?_
  refine lf_ixor 9 rfl rfl ?_
  refine lf_putI 12 6 rfl rfl rfl rfl rfl rfl rfl rfl ?_
  refine lf_as (lf_up s.1 15 6 (lf_xor (s.1 15 6) (lf_shl 1 a1)), s.2.1, s.2.2) rfl ?_
  exact lf_retV rfl rfl h
-- fm_100 ElevenBullocks.gate 0 i i
def fm_100 (a1 : Int) (a2 : Int) (Q : Bool → lf_Z → Prop) (s : lf_Z) : Prop := fm_89 a1 (fun z22 s21 => ((z22 = false → (Q false s21)) ∧ (z22 = true → (fm_90 a1 (fun z24 s23 => (lf_R a2 ∧ ((lf_b z24 ≠ a2 → (fm_67 (s23.1 1 2) (fun s26 => (fm_101 a1 (fun s27 => (Q true s27)) s26)) s23)) ∧ (¬ (lf_b z24 ≠ a2) → (Q false s23))))) s21)))) s
set_option maxRecDepth 100000 in
theorem gm_100 {L : Nat} {xs : Nat → Int32} {d : Nat} {a1 : Int} {a2 : Int} {Q : Bool → lf_Z → Prop} {s : lf_Z} (h : fm_100 a1 a2 Q s) : lf_M (px_ro L xs) (d + 3) 100 [.ref 0, .int (Int32.ofInt a1), .int (Int32.ofInt a2)] s (lf_qz Q) := by
  unfold fm_100 at h
  show lf_E (px_ro L xs) (d + 3) 100 0 [(0, .ref 0), (1, .int (Int32.ofInt a1)), (2, .int (Int32.ofInt a2))] [] s _
  refine lf_seg 3 (pc' := 5) (lv' := [(0, .ref 0), (1, .int (Int32.ofInt a1)), (2, .int (Int32.ofInt a2))]) (st' := [.int (Int32.ofInt a1), .ref 1]) rfl ?_
  refine lf_callZ 8 rfl rfl rfl rfl (gm_89 h) (fun z22 s21 h => ?_)
  refine lf_ifz_eq 23 11 rfl rfl rfl (fun c => ?_) (fun c => ?_)
  · have h := h.1 c
    refine lf_seg 1 (pc' := 24) (lv' := [(0, .ref 0), (1, .int (Int32.ofInt a1)), (2, .int (Int32.ofInt a2))]) (st' := [.int (Int32.ofInt 0)]) rfl ?_
    exact lf_retZ false rfl rfl h
  · have h := h.2 c
    refine lf_seg 3 (pc' := 16) (lv' := [(0, .ref 0), (1, .int (Int32.ofInt a1)), (2, .int (Int32.ofInt a2))]) (st' := [.int (Int32.ofInt a1), .ref 15]) rfl ?_
    refine lf_callZ 19 rfl rfl rfl rfl (gm_90 h) (fun z24 s23 h => ?_)
    refine lf_seg 1 (pc' := 20) (lv' := [(0, .ref 0), (1, .int (Int32.ofInt a1)), (2, .int (Int32.ofInt a2))]) (st' := [.int (Int32.ofInt a2), .int (Int32.ofInt (lf_b z24))]) rfl ?_
    obtain ⟨o25, h⟩ := h
    refine lf_icmp_ne 25 23 rfl rfl rfl lf_Rb o25 (fun c => ?_) (fun c => ?_)
    · have h := h.1 c
      refine lf_seg 6 (pc' := 37) (lv' := [(0, .ref 0), (1, .int (Int32.ofInt a1)), (2, .int (Int32.ofInt a2))]) (st' := [.ref 1, .ref 15, .ref 22]) rfl ?_
      refine lf_getI 40 2 rfl rfl rfl rfl rfl rfl rfl ?_
      refine lf_callV 43 rfl rfl rfl rfl (gm_67 h) (fun s26 h => ?_)
      refine lf_seg 3 (pc' := 48) (lv' := [(0, .ref 0), (1, .int (Int32.ofInt a1)), (2, .int (Int32.ofInt a2))]) (st' := [.int (Int32.ofInt a1), .ref 15]) rfl ?_
      refine lf_callV 51 rfl rfl rfl rfl (gm_101 h) (fun s27 h => ?_)
      refine lf_seg 1 (pc' := 52) (lv' := [(0, .ref 0), (1, .int (Int32.ofInt a1)), (2, .int (Int32.ofInt a2))]) (st' := [.int (Int32.ofInt 1)]) rfl ?_
      exact lf_retZ true rfl rfl h
    · have h := h.2 c
      refine lf_seg 1 (pc' := 24) (lv' := [(0, .ref 0), (1, .int (Int32.ofInt a1)), (2, .int (Int32.ofInt a2))]) (st' := [.int (Int32.ofInt 0)]) rfl ?_
      exact lf_retZ false rfl rfl h
-- fm_251 Model.isWay 95 i
def fm_251 (a1 : Int) (Q : Bool → lf_Z → Prop) (s : lf_Z) : Prop := fm_183 a1 0 ((s.1 96 1) - 1) (fun z22 s21 => (Q z22 s21)) s
set_option maxRecDepth 100000 in
theorem gm_251 {L : Nat} {xs : Nat → Int32} {d : Nat} {a1 : Int} {Q : Bool → lf_Z → Prop} {s : lf_Z} (h : fm_251 a1 Q s) : lf_M (px_ro L xs) (d + 2) 251 [.ref 95, .int (Int32.ofInt a1)] s (lf_qz Q) := by
  unfold fm_251 at h
  show lf_E (px_ro L xs) (d + 2) 251 0 [(0, .ref 95), (1, .int (Int32.ofInt a1))] [] s _
  refine lf_seg 5 (pc' := 7) (lv' := [(0, .ref 95), (1, .int (Int32.ofInt a1))]) (st' := [.int (Int32.ofInt 1), .ref 96, .int (Int32.ofInt 0), .int (Int32.ofInt a1)]) rfl ?_
  refine lf_iald 8 1538 rfl rfl rfl rfl rfl rfl ⟨by decide, by decide⟩ ?_
  refine lf_seg 1 (pc' := 9) (lv' := [(0, .ref 95), (1, .int (Int32.ofInt a1))]) (st' := [.int (Int32.ofInt 1), .int (Int32.ofInt (s.1 96 1)), .int (Int32.ofInt 0), .int (Int32.ofInt a1)]) rfl ?_
  refine lf_isub 10 rfl rfl ?_
  refine lf_callZ 13 rfl rfl rfl rfl (gm_183 h) (fun z22 s21 h => ?_)
  exact lf_retZ z22 rfl rfl h
-- fm_250 Model.gate 95 i i
def fm_250_p52 (Q : Bool → lf_Z → Prop) (y1 : Int) (y2 : Int) (s : lf_Z) : Prop := (0 ≤ y1 ∧ y1 < 1538) ∧ (Q true (lf_up s.1 96 y1 y2, s.2.1, s.2.2))
set_option maxRecDepth 100000 in
theorem gm_250_p52 {L : Nat} {xs : Nat → Int32} {d : Nat} {Q : Bool → lf_Z → Prop} {y1 : Int} {y2 : Int} {s : lf_Z} (h : fm_250_p52 Q y1 y2 s) : lf_E (px_ro L xs) (d + 3) 250 52 [] [.int (Int32.ofInt y2), .int (Int32.ofInt y1), .ref 96] s (lf_qz Q) := by
  unfold fm_250_p52 at h
  obtain ⟨o29, h⟩ := h
  refine lf_iast 53 1538 rfl rfl rfl rfl rfl rfl o29 ?_
  refine lf_as (lf_up s.1 96 y1 y2, s.2.1, s.2.2) rfl ?_
  refine lf_seg 1 (pc' := 54) (lv' := []) (st' := [.int (Int32.ofInt 1)]) rfl ?_
  exact lf_retZ true rfl rfl h
def fm_250 (a1 : Int) (a2 : Int) (Q : Bool → lf_Z → Prop) (s : lf_Z) : Prop := fm_251 a1 (fun z22 s21 => ((z22 = false → (Q false s21)) ∧ (z22 = true → (fm_252 a1 (fun z24 s23 => ((z24 = true → (Q false s23)) ∧ (z24 = false → (fm_245 a1 (fun z26 s25 => (lf_R a2 ∧ ((lf_b z26 ≠ a2 → (fm_244 (fun s28 => ((a2 = 0 → (fm_250_p52 Q ((50 + (4 * a1)) + 3) 0 s28)) ∧ (¬ (a2 = 0) → (fm_250_p52 Q ((50 + (4 * a1)) + 3) 1 s28)))) s25)) ∧ (¬ (lf_b z26 ≠ a2) → (Q false s25))))) s23)))) s21)))) s
set_option maxRecDepth 100000 in
theorem gm_250 {L : Nat} {xs : Nat → Int32} {d : Nat} {a1 : Int} {a2 : Int} {Q : Bool → lf_Z → Prop} {s : lf_Z} (h : fm_250 a1 a2 Q s) : lf_M (px_ro L xs) (d + 3) 250 [.ref 95, .int (Int32.ofInt a1), .int (Int32.ofInt a2)] s (lf_qz Q) := by
  unfold fm_250 at h
  show lf_E (px_ro L xs) (d + 3) 250 0 [(0, .ref 95), (1, .int (Int32.ofInt a1)), (2, .int (Int32.ofInt a2))] [] s _
  refine lf_seg 2 (pc' := 2) (lv' := [(0, .ref 95), (1, .int (Int32.ofInt a1)), (2, .int (Int32.ofInt a2))]) (st' := [.int (Int32.ofInt a1), .ref 95]) rfl ?_
  refine lf_callZ 5 rfl rfl rfl rfl (gm_251 h) (fun z22 s21 h => ?_)
  refine lf_ifz_eq 25 8 rfl rfl rfl (fun c => ?_) (fun c => ?_)
  · have h := h.1 c
    refine lf_seg 1 (pc' := 26) (lv' := [(0, .ref 95), (1, .int (Int32.ofInt a1)), (2, .int (Int32.ofInt a2))]) (st' := [.int (Int32.ofInt 0)]) rfl ?_
    exact lf_retZ false rfl rfl h
  · have h := h.2 c
    refine lf_seg 2 (pc' := 10) (lv' := [(0, .ref 95), (1, .int (Int32.ofInt a1)), (2, .int (Int32.ofInt a2))]) (st' := [.int (Int32.ofInt a1), .ref 95]) rfl ?_
    refine lf_callZ 13 rfl rfl rfl rfl (gm_252 h) (fun z24 s23 h => ?_)
    refine lf_ifz_ne 25 16 rfl rfl rfl (fun c => ?_) (fun c => ?_)
    · have h := h.1 c
      refine lf_seg 1 (pc' := 26) (lv' := [(0, .ref 95), (1, .int (Int32.ofInt a1)), (2, .int (Int32.ofInt a2))]) (st' := [.int (Int32.ofInt 0)]) rfl ?_
      exact lf_retZ false rfl rfl h
    · have h := h.2 c
      refine lf_seg 2 (pc' := 18) (lv' := [(0, .ref 95), (1, .int (Int32.ofInt a1)), (2, .int (Int32.ofInt a2))]) (st' := [.int (Int32.ofInt a1), .ref 95]) rfl ?_
      refine lf_callZ 21 rfl rfl rfl rfl (gm_245 h) (fun z26 s25 h => ?_)
      refine lf_seg 1 (pc' := 22) (lv' := [(0, .ref 95), (1, .int (Int32.ofInt a1)), (2, .int (Int32.ofInt a2))]) (st' := [.int (Int32.ofInt a2), .int (Int32.ofInt (lf_b z26))]) rfl ?_
      obtain ⟨o27, h⟩ := h
      refine lf_icmp_ne 27 25 rfl rfl rfl lf_Rb o27 (fun c => ?_) (fun c => ?_)
      · have h := h.1 c
        refine lf_seg 1 (pc' := 28) (lv' := [(0, .ref 95), (1, .int (Int32.ofInt a1)), (2, .int (Int32.ofInt a2))]) (st' := [.ref 95]) rfl ?_
        refine lf_callV 31 rfl rfl rfl rfl (gm_244 h) (fun s28 h => ?_)
        refine lf_seg 2 (pc' := 35) (lv' := [(0, .ref 95), (1, .int (Int32.ofInt a1)), (2, .int (Int32.ofInt a2))]) (st' := [.ref 96]) rfl ?_
        refine lf_bipush 37 50 rfl rfl (by decide) (by decide) ?_
        refine lf_seg 2 (pc' := 39) (lv' := [(0, .ref 95), (1, .int (Int32.ofInt a1)), (2, .int (Int32.ofInt a2))]) (st' := [.int (Int32.ofInt a1), .int (Int32.ofInt 4), .int (Int32.ofInt 50), .ref 96]) rfl ?_
        refine lf_imul 40 rfl rfl ?_
        refine lf_iadd 41 rfl rfl ?_
        refine lf_seg 1 (pc' := 42) (lv' := [(0, .ref 95), (1, .int (Int32.ofInt a1)), (2, .int (Int32.ofInt a2))]) (st' := [.int (Int32.ofInt 3), .int (Int32.ofInt (50 + (4 * a1))), .ref 96]) rfl ?_
        refine lf_iadd 43 rfl rfl ?_
        refine lf_seg 1 (pc' := 44) (lv' := [(0, .ref 95), (1, .int (Int32.ofInt a1)), (2, .int (Int32.ofInt a2))]) (st' := [.int (Int32.ofInt a2), .int (Int32.ofInt ((50 + (4 * a1)) + 3)), .ref 96]) rfl ?_
        refine lf_if_eq 51 47 rfl rfl rfl o27 (fun c => ?_) (fun c => ?_)
        · have h := h.1 c
          refine lf_seg 1 (pc' := 52) (lv' := [(0, .ref 95), (1, .int (Int32.ofInt a1)), (2, .int (Int32.ofInt a2))]) (st' := [.int (Int32.ofInt 0), .int (Int32.ofInt ((50 + (4 * a1)) + 3)), .ref 96]) rfl ?_
          refine lf_sub (l := []) lf_sb0 ?_
          exact gm_250_p52 h
        · have h := h.2 c
          refine lf_seg 2 (pc' := 52) (lv' := [(0, .ref 95), (1, .int (Int32.ofInt a1)), (2, .int (Int32.ofInt a2))]) (st' := [.int (Int32.ofInt 1), .int (Int32.ofInt ((50 + (4 * a1)) + 3)), .ref 96]) rfl ?_
          refine lf_sub (l := []) lf_sb0 ?_
          exact gm_250_p52 h
      · have h := h.2 c
        refine lf_seg 1 (pc' := 26) (lv' := [(0, .ref 95), (1, .int (Int32.ofInt a1)), (2, .int (Int32.ofInt a2))]) (st' := [.int (Int32.ofInt 0)]) rfl ?_
        exact lf_retZ false rfl rfl h
-- fm_102 ElevenBullocks.split 0 i i
def fm_102 (a1 : Int) (a2 : Int) (Q : Int → lf_Z → Prop) (s : lf_Z) : Prop := fm_80 a1 (fun z22 s21 => ((z22 = false → (Q (-1) s21)) ∧ (z22 = true → ((0 ≤ a1 ∧ a1 < 4) ∧ (fm_15 a2 1 ((s21.1 16 a1) - 1) (fun z25 s24 => ((z25 = true → (fm_66 (fun r27 s26 => (lf_R r27 ∧ ((r27 = (-1) → (Q r27 s26)) ∧ (¬ (r27 = (-1)) → (fm_67 (s26.1 1 2) (fun s29 => (fm_69 r27 a2 (s29.1 17 a1) (s29.1 18 a1) (fun s30 => (Q r27 s30)) (lf_up s29.1 16 a1 ((s29.1 16 a1) - a2), s29.2.1, s29.2.2))) s26))))) s24)) ∧ (z25 = false → (Q (-1) s24)))) s21))))) s
set_option maxRecDepth 100000 in
theorem gm_102 {L : Nat} {xs : Nat → Int32} {d : Nat} {a1 : Int} {a2 : Int} {Q : Int → lf_Z → Prop} {s : lf_Z} (h : fm_102 a1 a2 Q s) : lf_M (px_ro L xs) (d + 3) 102 [.ref 0, .int (Int32.ofInt a1), .int (Int32.ofInt a2)] s (lf_qi Q) := by
  unfold fm_102 at h
  show lf_E (px_ro L xs) (d + 3) 102 0 [(0, .ref 0), (1, .int (Int32.ofInt a1)), (2, .int (Int32.ofInt a2))] [] s _
  refine lf_seg 3 (pc' := 5) (lv' := [(0, .ref 0), (1, .int (Int32.ofInt a1)), (2, .int (Int32.ofInt a2))]) (st' := [.int (Int32.ofInt a1), .ref 15]) rfl ?_
  refine lf_callZ 8 rfl rfl rfl rfl (gm_80 h) (fun z22 s21 h => ?_)
  refine lf_ifz_eq 30 11 rfl rfl rfl (fun c => ?_) (fun c => ?_)
  · have h := h.1 c
    refine lf_seg 1 (pc' := 31) (lv' := [(0, .ref 0), (1, .int (Int32.ofInt a1)), (2, .int (Int32.ofInt a2))]) (st' := [.int (Int32.ofInt (-1))]) rfl ?_
    exact lf_retI rfl rfl h
  · have h := h.2 c
    refine lf_seg 6 (pc' := 21) (lv' := [(0, .ref 0), (1, .int (Int32.ofInt a1)), (2, .int (Int32.ofInt a2))]) (st' := [.int (Int32.ofInt a1), .ref 16, .int (Int32.ofInt 1), .int (Int32.ofInt a2)]) rfl ?_
    obtain ⟨o23, h⟩ := h
    refine lf_iald 22 4 rfl rfl rfl rfl rfl rfl o23 ?_
    refine lf_seg 1 (pc' := 23) (lv' := [(0, .ref 0), (1, .int (Int32.ofInt a1)), (2, .int (Int32.ofInt a2))]) (st' := [.int (Int32.ofInt 1), .int (Int32.ofInt (s21.1 16 a1)), .int (Int32.ofInt 1), .int (Int32.ofInt a2)]) rfl ?_
    refine lf_isub 24 rfl rfl ?_
    refine lf_callZ 27 rfl rfl rfl rfl (gm_15 h) (fun z25 s24 h => ?_)
    refine lf_ifz_ne 32 30 rfl rfl rfl (fun c => ?_) (fun c => ?_)
    · have h := h.1 c
      refine lf_seg 2 (pc' := 36) (lv' := [(0, .ref 0), (1, .int (Int32.ofInt a1)), (2, .int (Int32.ofInt a2))]) (st' := [.ref 15]) rfl ?_
      refine lf_callI 39 rfl rfl rfl rfl (gm_66 h) (fun r27 s26 h => ?_)
      refine lf_seg 3 (pc' := 42) (lv' := [(3, .int (Int32.ofInt r27)), (0, .ref 0), (1, .int (Int32.ofInt a1)), (2, .int (Int32.ofInt a2))]) (st' := [.int (Int32.ofInt (-1)), .int (Int32.ofInt r27)]) rfl ?_
      obtain ⟨o28, h⟩ := h
      refine lf_icmp_eq 103 45 rfl rfl rfl o28 ⟨by decide, by decide⟩ (fun c => ?_) (fun c => ?_)
      · have h := h.1 c
        refine lf_seg 1 (pc' := 104) (lv' := [(3, .int (Int32.ofInt r27)), (0, .ref 0), (1, .int (Int32.ofInt a1)), (2, .int (Int32.ofInt a2))]) (st' := [.int (Int32.ofInt r27)]) rfl ?_
        exact lf_retI rfl rfl h
      · have h := h.2 c
        refine lf_seg 6 (pc' := 57) (lv' := [(3, .int (Int32.ofInt r27)), (0, .ref 0), (1, .int (Int32.ofInt a1)), (2, .int (Int32.ofInt a2))]) (st' := [.ref 1, .ref 15, .ref 22]) rfl ?_
        refine lf_getI 60 2 rfl rfl rfl rfl rfl rfl rfl ?_
        refine lf_callV 63 rfl rfl rfl rfl (gm_67 h) (fun s29 h => ?_)
        refine lf_seg 5 (pc' := 72) (lv' := [(3, .int (Int32.ofInt r27)), (0, .ref 0), (1, .int (Int32.ofInt a1)), (2, .int (Int32.ofInt a2))]) (st' := [.int (Int32.ofInt a1), .ref 16, .int (Int32.ofInt a1), .ref 16]) rfl ?_
        refine lf_iald 73 4 rfl rfl rfl rfl rfl rfl o23 ?_
        refine lf_seg 1 (pc' := 74) (lv' := [(3, .int (Int32.ofInt r27)), (0, .ref 0), (1, .int (Int32.ofInt a1)), (2, .int (Int32.ofInt a2))]) (st' := [.int (Int32.ofInt a2), .int (Int32.ofInt (s29.1 16 a1)), .int (Int32.ofInt a1), .ref 16]) rfl ?_
        refine lf_isub 75 rfl rfl ?_
        refine lf_iast 76 4 rfl rfl rfl rfl rfl rfl o23 ?_
        refine lf_as (lf_up s29.1 16 a1 ((s29.1 16 a1) - a2), s29.2.1, s29.2.2) rfl ?_
        refine lf_seg 6 (pc' := 86) (lv' := [(3, .int (Int32.ofInt r27)), (0, .ref 0), (1, .int (Int32.ofInt a1)), (2, .int (Int32.ofInt a2))]) (st' := [.ref 15, .int (Int32.ofInt a2), .int (Int32.ofInt r27), .ref 15]) rfl ?_
        refine lf_seg 2 (pc' := 90) (lv' := [(3, .int (Int32.ofInt r27)), (0, .ref 0), (1, .int (Int32.ofInt a1)), (2, .int (Int32.ofInt a2))]) (st' := [.int (Int32.ofInt a1), .ref 17, .int (Int32.ofInt a2), .int (Int32.ofInt r27), .ref 15]) rfl ?_
        refine lf_iald 91 4 rfl rfl rfl rfl rfl rfl o23 ?_
        refine lf_seg 4 (pc' := 99) (lv' := [(3, .int (Int32.ofInt r27)), (0, .ref 0), (1, .int (Int32.ofInt a1)), (2, .int (Int32.ofInt a2))]) (st' := [.int (Int32.ofInt a1), .ref 18, .int (Int32.ofInt (s29.1 17 a1)), .int (Int32.ofInt a2), .int (Int32.ofInt r27), .ref 15]) rfl ?_
        refine lf_iald 100 4 rfl rfl rfl rfl rfl rfl o23 ?_
        refine lf_seg 0 (pc' := 100) (lv' := [(3, .int (Int32.ofInt r27)), (0, .ref 0), (1, .int (Int32.ofInt a1)), (2, .int (Int32.ofInt a2))]) (st' := [.int (Int32.ofInt (s29.1 18 a1)), .int (Int32.ofInt (s29.1 17 a1)), .int (Int32.ofInt a2), .int (Int32.ofInt r27), .ref 15]) rfl ?_
        refine lf_callV 103 rfl rfl rfl rfl (gm_69 h) (fun s30 h => ?_)
        refine lf_seg 1 (pc' := 104) (lv' := [(3, .int (Int32.ofInt r27)), (0, .ref 0), (1, .int (Int32.ofInt a1)), (2, .int (Int32.ofInt a2))]) (st' := [.int (Int32.ofInt r27)]) rfl ?_
        exact lf_retI rfl rfl h
    · have h := h.2 c
      refine lf_seg 1 (pc' := 31) (lv' := [(0, .ref 0), (1, .int (Int32.ofInt a1)), (2, .int (Int32.ofInt a2))]) (st' := [.int (Int32.ofInt (-1))]) rfl ?_
      exact lf_retI rfl rfl h
-- fm_254 Model.isBunch 95 i
def fm_254 (a1 : Int) (Q : Bool → lf_Z → Prop) (s : lf_Z) : Prop := fm_183 a1 0 3 (fun z22 s21 => ((z22 = false → (Q false s21)) ∧ (z22 = true → (fm_242 a1 (fun r24 s23 => (lf_R r24 ∧ ((r24 ≤ 0 → (Q false s23)) ∧ (¬ (r24 ≤ 0) → (Q true s23))))) s21)))) s
set_option maxRecDepth 100000 in
theorem gm_254 {L : Nat} {xs : Nat → Int32} {d : Nat} {a1 : Int} {Q : Bool → lf_Z → Prop} {s : lf_Z} (h : fm_254 a1 Q s) : lf_M (px_ro L xs) (d + 2) 254 [.ref 95, .int (Int32.ofInt a1)] s (lf_qz Q) := by
  unfold fm_254 at h
  show lf_E (px_ro L xs) (d + 2) 254 0 [(0, .ref 95), (1, .int (Int32.ofInt a1))] [] s _
  refine lf_seg 3 (pc' := 3) (lv' := [(0, .ref 95), (1, .int (Int32.ofInt a1))]) (st' := [.int (Int32.ofInt 3), .int (Int32.ofInt 0), .int (Int32.ofInt a1)]) rfl ?_
  refine lf_callZ 6 rfl rfl rfl rfl (gm_183 h) (fun z22 s21 h => ?_)
  refine lf_ifz_eq 21 9 rfl rfl rfl (fun c => ?_) (fun c => ?_)
  · have h := h.1 c
    refine lf_seg 1 (pc' := 22) (lv' := [(0, .ref 95), (1, .int (Int32.ofInt a1))]) (st' := [.int (Int32.ofInt 0)]) rfl ?_
    exact lf_retZ false rfl rfl h
  · have h := h.2 c
    refine lf_seg 2 (pc' := 11) (lv' := [(0, .ref 95), (1, .int (Int32.ofInt a1))]) (st' := [.int (Int32.ofInt a1), .ref 95]) rfl ?_
    refine lf_callI 14 rfl rfl rfl rfl (gm_242 h) (fun r24 s23 h => ?_)
    obtain ⟨o25, h⟩ := h
    refine lf_if_le 21 17 rfl rfl rfl o25 (fun c => ?_) (fun c => ?_)
    · have h := h.1 c
      refine lf_seg 1 (pc' := 22) (lv' := [(0, .ref 95), (1, .int (Int32.ofInt a1))]) (st' := [.int (Int32.ofInt 0)]) rfl ?_
      exact lf_retZ false rfl rfl h
    · have h := h.2 c
      refine lf_seg 2 (pc' := 22) (lv' := [(0, .ref 95), (1, .int (Int32.ofInt a1))]) (st' := [.int (Int32.ofInt 1)]) rfl ?_
      exact lf_retZ true rfl rfl h
-- fm_253 Model.split 95 i i
def fm_253 (a1 : Int) (a2 : Int) (Q : Int → lf_Z → Prop) (s : lf_Z) : Prop := fm_241 (fun r22 s21 => (fm_254 a1 (fun z24 s23 => ((z24 = false → (Q (-1) s23)) ∧ (z24 = true → (fm_242 a1 (fun r26 s25 => (fm_183 a2 1 (r26 - 1) (fun z28 s27 => ((z28 = false → (Q (-1) s27)) ∧ (z28 = true → (lf_R r22 ∧ ((0 ≤ r22 → (fm_244 (fun s30 => ((0 ≤ 114 + (3 * a1) ∧ 114 + (3 * a1) < 1538) ∧ (fm_255 a1 (fun r33 s32 => (fm_256 a1 (fun r35 s34 => (fm_247 r22 a2 r33 r35 (fun s36 => (Q r22 s36)) s34)) s32)) (lf_up s30.1 96 (114 + (3 * a1)) ((s30.1 96 (114 + (3 * a1))) - a2), s30.2.1, s30.2.2)))) s27)) ∧ (¬ (0 ≤ r22) → (Q (-1) s27))))))) s25)) s23)))) s21)) s
set_option maxRecDepth 100000 in
theorem gm_253 {L : Nat} {xs : Nat → Int32} {d : Nat} {a1 : Int} {a2 : Int} {Q : Int → lf_Z → Prop} {s : lf_Z} (h : fm_253 a1 a2 Q s) : lf_M (px_ro L xs) (d + 3) 253 [.ref 95, .int (Int32.ofInt a1), .int (Int32.ofInt a2)] s (lf_qi Q) := by
  unfold fm_253 at h
  show lf_E (px_ro L xs) (d + 3) 253 0 [(0, .ref 95), (1, .int (Int32.ofInt a1)), (2, .int (Int32.ofInt a2))] [] s _
  refine lf_seg 1 (pc' := 1) (lv' := [(0, .ref 95), (1, .int (Int32.ofInt a1)), (2, .int (Int32.ofInt a2))]) (st' := [.ref 95]) rfl ?_
  refine lf_callI 4 rfl rfl rfl rfl (gm_241 h) (fun r22 s21 h => ?_)
  refine lf_seg 3 (pc' := 7) (lv' := [(3, .int (Int32.ofInt r22)), (0, .ref 95), (1, .int (Int32.ofInt a1)), (2, .int (Int32.ofInt a2))]) (st' := [.int (Int32.ofInt a1), .ref 95]) rfl ?_
  refine lf_callZ 10 rfl rfl rfl rfl (gm_254 h) (fun z24 s23 h => ?_)
  refine lf_ifz_eq 32 13 rfl rfl rfl (fun c => ?_) (fun c => ?_)
  · have h := h.1 c
    refine lf_seg 1 (pc' := 33) (lv' := [(3, .int (Int32.ofInt r22)), (0, .ref 95), (1, .int (Int32.ofInt a1)), (2, .int (Int32.ofInt a2))]) (st' := [.int (Int32.ofInt (-1))]) rfl ?_
    exact lf_retI rfl rfl h
  · have h := h.2 c
    refine lf_seg 4 (pc' := 17) (lv' := [(3, .int (Int32.ofInt r22)), (0, .ref 95), (1, .int (Int32.ofInt a1)), (2, .int (Int32.ofInt a2))]) (st' := [.int (Int32.ofInt a1), .ref 95, .int (Int32.ofInt 1), .int (Int32.ofInt a2)]) rfl ?_
    refine lf_callI 20 rfl rfl rfl rfl (gm_242 h) (fun r26 s25 h => ?_)
    refine lf_seg 1 (pc' := 21) (lv' := [(3, .int (Int32.ofInt r22)), (0, .ref 95), (1, .int (Int32.ofInt a1)), (2, .int (Int32.ofInt a2))]) (st' := [.int (Int32.ofInt 1), .int (Int32.ofInt r26), .int (Int32.ofInt 1), .int (Int32.ofInt a2)]) rfl ?_
    refine lf_isub 22 rfl rfl ?_
    refine lf_callZ 25 rfl rfl rfl rfl (gm_183 h) (fun z28 s27 h => ?_)
    refine lf_ifz_eq 32 28 rfl rfl rfl (fun c => ?_) (fun c => ?_)
    · have h := h.1 c
      refine lf_seg 1 (pc' := 33) (lv' := [(3, .int (Int32.ofInt r22)), (0, .ref 95), (1, .int (Int32.ofInt a1)), (2, .int (Int32.ofInt a2))]) (st' := [.int (Int32.ofInt (-1))]) rfl ?_
      exact lf_retI rfl rfl h
    · have h := h.2 c
      refine lf_seg 1 (pc' := 29) (lv' := [(3, .int (Int32.ofInt r22)), (0, .ref 95), (1, .int (Int32.ofInt a1)), (2, .int (Int32.ofInt a2))]) (st' := [.int (Int32.ofInt r22)]) rfl ?_
      obtain ⟨o29, h⟩ := h
      refine lf_if_ge 34 32 rfl rfl rfl o29 (fun c => ?_) (fun c => ?_)
      · have h := h.1 c
        refine lf_seg 1 (pc' := 35) (lv' := [(3, .int (Int32.ofInt r22)), (0, .ref 95), (1, .int (Int32.ofInt a1)), (2, .int (Int32.ofInt a2))]) (st' := [.ref 95]) rfl ?_
        refine lf_callV 38 rfl rfl rfl rfl (gm_244 h) (fun s30 h => ?_)
        refine lf_seg 2 (pc' := 42) (lv' := [(3, .int (Int32.ofInt r22)), (0, .ref 95), (1, .int (Int32.ofInt a1)), (2, .int (Int32.ofInt a2))]) (st' := [.ref 96]) rfl ?_
        refine lf_bipush 44 114 rfl rfl (by decide) (by decide) ?_
        refine lf_seg 2 (pc' := 46) (lv' := [(3, .int (Int32.ofInt r22)), (0, .ref 95), (1, .int (Int32.ofInt a1)), (2, .int (Int32.ofInt a2))]) (st' := [.int (Int32.ofInt a1), .int (Int32.ofInt 3), .int (Int32.ofInt 114), .ref 96]) rfl ?_
        refine lf_imul 47 rfl rfl ?_
        refine lf_iadd 48 rfl rfl ?_
        refine lf_seg 1 (pc' := 49) (lv' := [(3, .int (Int32.ofInt r22)), (0, .ref 95), (1, .int (Int32.ofInt a1)), (2, .int (Int32.ofInt a2))]) (st' := [.int (Int32.ofInt (114 + (3 * a1))), .ref 96, .int (Int32.ofInt (114 + (3 * a1))), .ref 96]) rfl ?_
        obtain ⟨o31, h⟩ := h
        refine lf_iald 50 1538 rfl rfl rfl rfl rfl rfl o31 ?_
        refine lf_seg 1 (pc' := 51) (lv' := [(3, .int (Int32.ofInt r22)), (0, .ref 95), (1, .int (Int32.ofInt a1)), (2, .int (Int32.ofInt a2))]) (st' := [.int (Int32.ofInt a2), .int (Int32.ofInt (s30.1 96 (114 + (3 * a1)))), .int (Int32.ofInt (114 + (3 * a1))), .ref 96]) rfl ?_
        refine lf_isub 52 rfl rfl ?_
        refine lf_iast 53 1538 rfl rfl rfl rfl rfl rfl o31 ?_
        refine lf_as (lf_up s30.1 96 (114 + (3 * a1)) ((s30.1 96 (114 + (3 * a1))) - a2), s30.2.1, s30.2.2) rfl ?_
        refine lf_seg 5 (pc' := 58) (lv' := [(3, .int (Int32.ofInt r22)), (0, .ref 95), (1, .int (Int32.ofInt a1)), (2, .int (Int32.ofInt a2))]) (st' := [.int (Int32.ofInt a1), .ref 95, .int (Int32.ofInt a2), .int (Int32.ofInt r22), .ref 95]) rfl ?_
        refine lf_callI 61 rfl rfl rfl rfl (gm_255 h) (fun r33 s32 h => ?_)
        refine lf_seg 2 (pc' := 63) (lv' := [(3, .int (Int32.ofInt r22)), (0, .ref 95), (1, .int (Int32.ofInt a1)), (2, .int (Int32.ofInt a2))]) (st' := [.int (Int32.ofInt a1), .ref 95, .int (Int32.ofInt r33), .int (Int32.ofInt a2), .int (Int32.ofInt r22), .ref 95]) rfl ?_
        refine lf_callI 66 rfl rfl rfl rfl (gm_256 h) (fun r35 s34 h => ?_)
        refine lf_callV 69 rfl rfl rfl rfl (gm_247 h) (fun s36 h => ?_)
        refine lf_seg 1 (pc' := 70) (lv' := [(3, .int (Int32.ofInt r22)), (0, .ref 95), (1, .int (Int32.ofInt a1)), (2, .int (Int32.ofInt a2))]) (st' := [.int (Int32.ofInt r22)]) rfl ?_
        exact lf_retI rfl rfl h
      · have h := h.2 c
        refine lf_seg 1 (pc' := 33) (lv' := [(3, .int (Int32.ofInt r22)), (0, .ref 95), (1, .int (Int32.ofInt a1)), (2, .int (Int32.ofInt a2))]) (st' := [.int (Int32.ofInt (-1))]) rfl ?_
        exact lf_retI rfl rfl h
-- fm_104 ElevenBullocks.carryOut 0 i i i
def fm_104 (a1 : Int) (a2 : Int) (a3 : Int) (Q : Bool → lf_Z → Prop) (s : lf_Z) : Prop := lf_R a1 ∧ ((a1 < 23 ∨ 32 < a1 → (Q true s)) ∧ (a1 = 23 → (fm_14 a2 a3 (fun r23 s22 => (lf_R r23 ∧ ((r23 = (-1) → (Q false s22)) ∧ (¬ (r23 = (-1)) → (Q true s22))))) s)) ∧ (a1 = 24 → (fm_17 a2 a3 0 (fun r26 s25 => (lf_R r26 ∧ ((r26 = (-1) → (Q false s25)) ∧ (¬ (r26 = (-1)) → (Q true s25))))) s)) ∧ (a1 = 25 → (fm_17 a2 a3 1 (fun r29 s28 => (lf_R r29 ∧ ((r29 = (-1) → (Q false s28)) ∧ (¬ (r29 = (-1)) → (Q true s28))))) s)) ∧ (a1 = 26 → (fm_23 a2 0 0 a3 (fun r32 s31 => (lf_R r32 ∧ ((r32 = (-1) → (Q false s31)) ∧ (¬ (r32 = (-1)) → (Q true s31))))) s)) ∧ (a1 = 27 → (fm_63 a2 a3 (fun r35 s34 => (lf_R r35 ∧ ((r35 = (-1) → (Q false s34)) ∧ (¬ (r35 = (-1)) → (Q true s34))))) s)) ∧ (a1 = 28 → (fm_98 a2 a3 (fun z38 s37 => (Q z38 s37)) s)) ∧ (a1 = 29 → (fm_100 a2 0 (fun z40 s39 => (Q z40 s39)) s)) ∧ (a1 = 30 → (fm_100 a2 1 (fun z42 s41 => (Q z42 s41)) s)) ∧ (a1 = 31 → (fm_102 a2 a3 (fun r44 s43 => (lf_R r44 ∧ ((r44 = (-1) → (Q false s43)) ∧ (¬ (r44 = (-1)) → (Q true s43))))) s)) ∧ (a1 = 32 → (fm_71 a2 (fun z47 s46 => (Q z47 s46)) s)))
set_option maxRecDepth 100000 in
theorem gm_104 {L : Nat} {xs : Nat → Int32} {d : Nat} {a1 : Int} {a2 : Int} {a3 : Int} {Q : Bool → lf_Z → Prop} {s : lf_Z} (h : fm_104 a1 a2 a3 Q s) : lf_M (px_ro L xs) (d + 7) 104 [.ref 0, .int (Int32.ofInt a1), .int (Int32.ofInt a2), .int (Int32.ofInt a3)] s (lf_qz Q) := by
  unfold fm_104 at h
  show lf_E (px_ro L xs) (d + 7) 104 0 [(0, .ref 0), (1, .int (Int32.ofInt a1)), (2, .int (Int32.ofInt a2)), (3, .int (Int32.ofInt a3))] [] s _
  refine lf_seg 1 (pc' := 1) (lv' := [(0, .ref 0), (1, .int (Int32.ofInt a1)), (2, .int (Int32.ofInt a2)), (3, .int (Int32.ofInt a3))]) (st' := [.int (Int32.ofInt a1)]) rfl ?_
  obtain ⟨o21, h⟩ := h
  refine lf_tsw 183 [(23, 56), (24, 72), (25, 89), (26, 106), (27, 124), (28, 140), (29, 147), (30, 154), (31, 161), (32, 177)] rfl rfl rfl (by decide) o21 (fun c => ?_) (lf_tab1 (fun c => ?_) (lf_tab1 (fun c => ?_) (lf_tab1 (fun c => ?_) (lf_tab1 (fun c => ?_) (lf_tab1 (fun c => ?_) (lf_tab1 (fun c => ?_) (lf_tab1 (fun c => ?_) (lf_tab1 (fun c => ?_) (lf_tab1 (fun c => ?_) (lf_tab1 (fun c => ?_) lf_tab0))))))))))
  · have h := h.1 c
    refine lf_seg 1 (pc' := 184) (lv' := [(0, .ref 0), (1, .int (Int32.ofInt a1)), (2, .int (Int32.ofInt a2)), (3, .int (Int32.ofInt a3))]) (st' := [.int (Int32.ofInt 1)]) rfl ?_
    exact lf_retZ true rfl rfl h
  · have h := h.2.1 c
    refine lf_seg 3 (pc' := 59) (lv' := [(0, .ref 0), (1, .int (Int32.ofInt a1)), (2, .int (Int32.ofInt a2)), (3, .int (Int32.ofInt a3))]) (st' := [.int (Int32.ofInt a3), .int (Int32.ofInt a2), .ref 0]) rfl ?_
    refine lf_callI 62 rfl rfl rfl rfl (gm_14 h) (fun r23 s22 h => ?_)
    refine lf_seg 1 (pc' := 63) (lv' := [(0, .ref 0), (1, .int (Int32.ofInt a1)), (2, .int (Int32.ofInt a2)), (3, .int (Int32.ofInt a3))]) (st' := [.int (Int32.ofInt (-1)), .int (Int32.ofInt r23)]) rfl ?_
    obtain ⟨o24, h⟩ := h
    refine lf_icmp_eq 70 66 rfl rfl rfl o24 ⟨by decide, by decide⟩ (fun c => ?_) (fun c => ?_)
    · have h := h.1 c
      refine lf_seg 1 (pc' := 71) (lv' := [(0, .ref 0), (1, .int (Int32.ofInt a1)), (2, .int (Int32.ofInt a2)), (3, .int (Int32.ofInt a3))]) (st' := [.int (Int32.ofInt 0)]) rfl ?_
      exact lf_retZ false rfl rfl h
    · have h := h.2 c
      refine lf_seg 2 (pc' := 71) (lv' := [(0, .ref 0), (1, .int (Int32.ofInt a1)), (2, .int (Int32.ofInt a2)), (3, .int (Int32.ofInt a3))]) (st' := [.int (Int32.ofInt 1)]) rfl ?_
      exact lf_retZ true rfl rfl h
  · have h := h.2.2.1 c
    refine lf_seg 4 (pc' := 76) (lv' := [(0, .ref 0), (1, .int (Int32.ofInt a1)), (2, .int (Int32.ofInt a2)), (3, .int (Int32.ofInt a3))]) (st' := [.int (Int32.ofInt 0), .int (Int32.ofInt a3), .int (Int32.ofInt a2), .ref 0]) rfl ?_
    refine lf_callI 79 rfl rfl rfl rfl (gm_17 h) (fun r26 s25 h => ?_)
    refine lf_seg 1 (pc' := 80) (lv' := [(0, .ref 0), (1, .int (Int32.ofInt a1)), (2, .int (Int32.ofInt a2)), (3, .int (Int32.ofInt a3))]) (st' := [.int (Int32.ofInt (-1)), .int (Int32.ofInt r26)]) rfl ?_
    obtain ⟨o27, h⟩ := h
    refine lf_icmp_eq 87 83 rfl rfl rfl o27 ⟨by decide, by decide⟩ (fun c => ?_) (fun c => ?_)
    · have h := h.1 c
      refine lf_seg 1 (pc' := 88) (lv' := [(0, .ref 0), (1, .int (Int32.ofInt a1)), (2, .int (Int32.ofInt a2)), (3, .int (Int32.ofInt a3))]) (st' := [.int (Int32.ofInt 0)]) rfl ?_
      exact lf_retZ false rfl rfl h
    · have h := h.2 c
      refine lf_seg 2 (pc' := 88) (lv' := [(0, .ref 0), (1, .int (Int32.ofInt a1)), (2, .int (Int32.ofInt a2)), (3, .int (Int32.ofInt a3))]) (st' := [.int (Int32.ofInt 1)]) rfl ?_
      exact lf_retZ true rfl rfl h
  · have h := h.2.2.2.1 c
    refine lf_seg 4 (pc' := 93) (lv' := [(0, .ref 0), (1, .int (Int32.ofInt a1)), (2, .int (Int32.ofInt a2)), (3, .int (Int32.ofInt a3))]) (st' := [.int (Int32.ofInt 1), .int (Int32.ofInt a3), .int (Int32.ofInt a2), .ref 0]) rfl ?_
    refine lf_callI 96 rfl rfl rfl rfl (gm_17 h) (fun r29 s28 h => ?_)
    refine lf_seg 1 (pc' := 97) (lv' := [(0, .ref 0), (1, .int (Int32.ofInt a1)), (2, .int (Int32.ofInt a2)), (3, .int (Int32.ofInt a3))]) (st' := [.int (Int32.ofInt (-1)), .int (Int32.ofInt r29)]) rfl ?_
    obtain ⟨o30, h⟩ := h
    refine lf_icmp_eq 104 100 rfl rfl rfl o30 ⟨by decide, by decide⟩ (fun c => ?_) (fun c => ?_)
    · have h := h.1 c
      refine lf_seg 1 (pc' := 105) (lv' := [(0, .ref 0), (1, .int (Int32.ofInt a1)), (2, .int (Int32.ofInt a2)), (3, .int (Int32.ofInt a3))]) (st' := [.int (Int32.ofInt 0)]) rfl ?_
      exact lf_retZ false rfl rfl h
    · have h := h.2 c
      refine lf_seg 2 (pc' := 105) (lv' := [(0, .ref 0), (1, .int (Int32.ofInt a1)), (2, .int (Int32.ofInt a2)), (3, .int (Int32.ofInt a3))]) (st' := [.int (Int32.ofInt 1)]) rfl ?_
      exact lf_retZ true rfl rfl h
  · have h := h.2.2.2.2.1 c
    refine lf_seg 5 (pc' := 111) (lv' := [(0, .ref 0), (1, .int (Int32.ofInt a1)), (2, .int (Int32.ofInt a2)), (3, .int (Int32.ofInt a3))]) (st' := [.int (Int32.ofInt a3), .int (Int32.ofInt 0), .int (Int32.ofInt 0), .int (Int32.ofInt a2), .ref 0]) rfl ?_
    refine lf_callI 114 rfl rfl rfl rfl (gm_23 h) (fun r32 s31 h => ?_)
    refine lf_seg 1 (pc' := 115) (lv' := [(0, .ref 0), (1, .int (Int32.ofInt a1)), (2, .int (Int32.ofInt a2)), (3, .int (Int32.ofInt a3))]) (st' := [.int (Int32.ofInt (-1)), .int (Int32.ofInt r32)]) rfl ?_
    obtain ⟨o33, h⟩ := h
    refine lf_icmp_eq 122 118 rfl rfl rfl o33 ⟨by decide, by decide⟩ (fun c => ?_) (fun c => ?_)
    · have h := h.1 c
      refine lf_seg 1 (pc' := 123) (lv' := [(0, .ref 0), (1, .int (Int32.ofInt a1)), (2, .int (Int32.ofInt a2)), (3, .int (Int32.ofInt a3))]) (st' := [.int (Int32.ofInt 0)]) rfl ?_
      exact lf_retZ false rfl rfl h
    · have h := h.2 c
      refine lf_seg 2 (pc' := 123) (lv' := [(0, .ref 0), (1, .int (Int32.ofInt a1)), (2, .int (Int32.ofInt a2)), (3, .int (Int32.ofInt a3))]) (st' := [.int (Int32.ofInt 1)]) rfl ?_
      exact lf_retZ true rfl rfl h
  · have h := h.2.2.2.2.2.1 c
    refine lf_seg 3 (pc' := 127) (lv' := [(0, .ref 0), (1, .int (Int32.ofInt a1)), (2, .int (Int32.ofInt a2)), (3, .int (Int32.ofInt a3))]) (st' := [.int (Int32.ofInt a3), .int (Int32.ofInt a2), .ref 0]) rfl ?_
    refine lf_callI 130 rfl rfl rfl rfl (gm_63 h) (fun r35 s34 h => ?_)
    refine lf_seg 1 (pc' := 131) (lv' := [(0, .ref 0), (1, .int (Int32.ofInt a1)), (2, .int (Int32.ofInt a2)), (3, .int (Int32.ofInt a3))]) (st' := [.int (Int32.ofInt (-1)), .int (Int32.ofInt r35)]) rfl ?_
    obtain ⟨o36, h⟩ := h
    refine lf_icmp_eq 138 134 rfl rfl rfl o36 ⟨by decide, by decide⟩ (fun c => ?_) (fun c => ?_)
    · have h := h.1 c
      refine lf_seg 1 (pc' := 139) (lv' := [(0, .ref 0), (1, .int (Int32.ofInt a1)), (2, .int (Int32.ofInt a2)), (3, .int (Int32.ofInt a3))]) (st' := [.int (Int32.ofInt 0)]) rfl ?_
      exact lf_retZ false rfl rfl h
    · have h := h.2 c
      refine lf_seg 2 (pc' := 139) (lv' := [(0, .ref 0), (1, .int (Int32.ofInt a1)), (2, .int (Int32.ofInt a2)), (3, .int (Int32.ofInt a3))]) (st' := [.int (Int32.ofInt 1)]) rfl ?_
      exact lf_retZ true rfl rfl h
  · have h := h.2.2.2.2.2.2.1 c
    refine lf_seg 3 (pc' := 143) (lv' := [(0, .ref 0), (1, .int (Int32.ofInt a1)), (2, .int (Int32.ofInt a2)), (3, .int (Int32.ofInt a3))]) (st' := [.int (Int32.ofInt a3), .int (Int32.ofInt a2), .ref 0]) rfl ?_
    refine lf_callZ 146 rfl rfl rfl rfl (gm_98 h) (fun z38 s37 h => ?_)
    exact lf_retZ z38 rfl rfl h
  · have h := h.2.2.2.2.2.2.2.1 c
    refine lf_seg 3 (pc' := 150) (lv' := [(0, .ref 0), (1, .int (Int32.ofInt a1)), (2, .int (Int32.ofInt a2)), (3, .int (Int32.ofInt a3))]) (st' := [.int (Int32.ofInt 0), .int (Int32.ofInt a2), .ref 0]) rfl ?_
    refine lf_callZ 153 rfl rfl rfl rfl (gm_100 h) (fun z40 s39 h => ?_)
    exact lf_retZ z40 rfl rfl h
  · have h := h.2.2.2.2.2.2.2.2.1 c
    refine lf_seg 3 (pc' := 157) (lv' := [(0, .ref 0), (1, .int (Int32.ofInt a1)), (2, .int (Int32.ofInt a2)), (3, .int (Int32.ofInt a3))]) (st' := [.int (Int32.ofInt 1), .int (Int32.ofInt a2), .ref 0]) rfl ?_
    refine lf_callZ 160 rfl rfl rfl rfl (gm_100 h) (fun z42 s41 h => ?_)
    exact lf_retZ z42 rfl rfl h
  · have h := h.2.2.2.2.2.2.2.2.2.1 c
    refine lf_seg 3 (pc' := 164) (lv' := [(0, .ref 0), (1, .int (Int32.ofInt a1)), (2, .int (Int32.ofInt a2)), (3, .int (Int32.ofInt a3))]) (st' := [.int (Int32.ofInt a3), .int (Int32.ofInt a2), .ref 0]) rfl ?_
    refine lf_callI 167 rfl rfl rfl rfl (gm_102 h) (fun r44 s43 h => ?_)
    refine lf_seg 1 (pc' := 168) (lv' := [(0, .ref 0), (1, .int (Int32.ofInt a1)), (2, .int (Int32.ofInt a2)), (3, .int (Int32.ofInt a3))]) (st' := [.int (Int32.ofInt (-1)), .int (Int32.ofInt r44)]) rfl ?_
    obtain ⟨o45, h⟩ := h
    refine lf_icmp_eq 175 171 rfl rfl rfl o45 ⟨by decide, by decide⟩ (fun c => ?_) (fun c => ?_)
    · have h := h.1 c
      refine lf_seg 1 (pc' := 176) (lv' := [(0, .ref 0), (1, .int (Int32.ofInt a1)), (2, .int (Int32.ofInt a2)), (3, .int (Int32.ofInt a3))]) (st' := [.int (Int32.ofInt 0)]) rfl ?_
      exact lf_retZ false rfl rfl h
    · have h := h.2 c
      refine lf_seg 2 (pc' := 176) (lv' := [(0, .ref 0), (1, .int (Int32.ofInt a1)), (2, .int (Int32.ofInt a2)), (3, .int (Int32.ofInt a3))]) (st' := [.int (Int32.ofInt 1)]) rfl ?_
      exact lf_retZ true rfl rfl h
  · have h := h.2.2.2.2.2.2.2.2.2.2 c
    refine lf_seg 2 (pc' := 179) (lv' := [(0, .ref 0), (1, .int (Int32.ofInt a1)), (2, .int (Int32.ofInt a2)), (3, .int (Int32.ofInt a3))]) (st' := [.int (Int32.ofInt a2), .ref 0]) rfl ?_
    refine lf_callZ 182 rfl rfl rfl rfl (gm_71 h) (fun z47 s46 h => ?_)
    exact lf_retZ z47 rfl rfl h
-- fm_103 ElevenBullocks.played 0 i
def fm_103_p15 (Q : Int → lf_Z → Prop) (u2 : Nat) (X15 : Int → lf_Z → Prop) (x3 : Int) (s : lf_Z) : Prop := lf_R x3 ∧ (lf_R (s.1 (35 + 7 * u2) 7) ∧ ((s.1 (35 + 7 * u2) 7 ≤ x3 → (Q (-1) s)) ∧ (¬ (s.1 (35 + 7 * u2) 7 ≤ x3) → ((24 ≤ x3 → (Q (-1) s)) ∧ (¬ (24 ≤ x3) → ((0 ≤ x3 ∧ x3 < 24) ∧ (fm_104 (s.1 (39 + 7 * u2) x3) (s.1 (40 + 7 * u2) x3) (s.1 (41 + 7 * u2) x3) (fun z28 s27 => ((z28 = true → (X15 (x3 + 1) s27)) ∧ (z28 = false → (Q x3 s27)))) s)))))))
def fm_103_p15L (Q : Int → lf_Z → Prop) (u2 : Nat) (x3 : Int) (s : lf_Z) : Prop := ∀ X15 : Int → lf_Z → Prop, (∀ (x3 : Int) (s : lf_Z), fm_103_p15 Q u2 X15 x3 s → X15 x3 s) → X15 x3 s
set_option maxRecDepth 100000 in
theorem gm_103_p15 {L : Nat} {xs : Nat → Int32} {d : Nat} {Q : Int → lf_Z → Prop} {u2 : Nat} {x3 : Int} {s : lf_Z} {X15 : Int → lf_Z → Prop} (hX15 : ∀ x3 s, X15 x3 s → lf_E (px_ro L xs) (d + 8) 103 15 [(0, .ref 0), (2, .ref (35 + 7 * u2)), (3, .int (Int32.ofInt x3))] [] s (lf_qi Q)) (htu2 : u2 < 4) (h : fm_103_p15 Q u2 X15 x3 s) : lf_E (px_ro L xs) (d + 8) 103 15 [(0, .ref 0), (2, .ref (35 + 7 * u2)), (3, .int (Int32.ofInt x3))] [] s (lf_qi Q) := by
  unfold fm_103_p15 at h
  refine lf_seg 2 (pc' := 17) (lv' := [(0, .ref 0), (2, .ref (35 + 7 * u2)), (3, .int (Int32.ofInt x3))]) (st' := [.ref (35 + 7 * u2), .int (Int32.ofInt x3)]) rfl ?_
  refine lf_getI 20 7 rfl rfl rfl (lf_scr htu2) (lf_scL htu2) rfl rfl ?_
  obtain ⟨o24, h⟩ := h
  obtain ⟨o25, h⟩ := h
  refine lf_icmp_ge 62 23 rfl rfl rfl o24 o25 (fun c => ?_) (fun c => ?_)
  · have h := h.1 c
    refine lf_seg 1 (pc' := 63) (lv' := [(0, .ref 0), (2, .ref (35 + 7 * u2)), (3, .int (Int32.ofInt x3))]) (st' := [.int (Int32.ofInt (-1))]) rfl ?_
    exact lf_retI rfl rfl h
  · have h := h.2 c
    refine lf_seg 1 (pc' := 24) (lv' := [(0, .ref 0), (2, .ref (35 + 7 * u2)), (3, .int (Int32.ofInt x3))]) (st' := [.int (Int32.ofInt x3)]) rfl ?_
    refine lf_bipush 26 24 rfl rfl (by decide) (by decide) ?_
    refine lf_icmp_ge 62 29 rfl rfl rfl o24 ⟨by decide, by decide⟩ (fun c => ?_) (fun c => ?_)
    · have h := h.1 c
      refine lf_seg 1 (pc' := 63) (lv' := [(0, .ref 0), (2, .ref (35 + 7 * u2)), (3, .int (Int32.ofInt x3))]) (st' := [.int (Int32.ofInt (-1))]) rfl ?_
      exact lf_retI rfl rfl h
    · have h := h.2 c
      refine lf_seg 2 (pc' := 31) (lv' := [(0, .ref 0), (2, .ref (35 + 7 * u2)), (3, .int (Int32.ofInt x3))]) (st' := [.ref (35 + 7 * u2), .ref 0]) rfl ?_
      refine lf_getR 34 (w := some (39 + 7 * u2)) rfl rfl rfl (lf_scr htu2) (lf_scL htu2) rfl (lf_sP4 htu2) ?_
      refine lf_seg 1 (pc' := 35) (lv' := [(0, .ref 0), (2, .ref (35 + 7 * u2)), (3, .int (Int32.ofInt x3))]) (st' := [.int (Int32.ofInt x3), .ref (39 + 7 * u2), .ref 0]) rfl ?_
      obtain ⟨o26, h⟩ := h
      refine lf_iald 36 24 rfl rfl (lf_sA4 htu2) (lf_sB4 htu2) rfl rfl o26 ?_
      refine lf_seg 1 (pc' := 37) (lv' := [(0, .ref 0), (2, .ref (35 + 7 * u2)), (3, .int (Int32.ofInt x3))]) (st' := [.ref (35 + 7 * u2), .int (Int32.ofInt (s.1 (39 + 7 * u2) x3)), .ref 0]) rfl ?_
      refine lf_getR 40 (w := some (40 + 7 * u2)) rfl rfl rfl (lf_scr htu2) (lf_scL htu2) rfl (lf_sP5 htu2) ?_
      refine lf_seg 1 (pc' := 41) (lv' := [(0, .ref 0), (2, .ref (35 + 7 * u2)), (3, .int (Int32.ofInt x3))]) (st' := [.int (Int32.ofInt x3), .ref (40 + 7 * u2), .int (Int32.ofInt (s.1 (39 + 7 * u2) x3)), .ref 0]) rfl ?_
      refine lf_iald 42 24 rfl rfl (lf_sA5 htu2) (lf_sB5 htu2) rfl rfl o26 ?_
      refine lf_seg 1 (pc' := 43) (lv' := [(0, .ref 0), (2, .ref (35 + 7 * u2)), (3, .int (Int32.ofInt x3))]) (st' := [.ref (35 + 7 * u2), .int (Int32.ofInt (s.1 (40 + 7 * u2) x3)), .int (Int32.ofInt (s.1 (39 + 7 * u2) x3)), .ref 0]) rfl ?_
      refine lf_getR 46 (w := some (41 + 7 * u2)) rfl rfl rfl (lf_scr htu2) (lf_scL htu2) rfl (lf_sP6 htu2) ?_
      refine lf_seg 1 (pc' := 47) (lv' := [(0, .ref 0), (2, .ref (35 + 7 * u2)), (3, .int (Int32.ofInt x3))]) (st' := [.int (Int32.ofInt x3), .ref (41 + 7 * u2), .int (Int32.ofInt (s.1 (40 + 7 * u2) x3)), .int (Int32.ofInt (s.1 (39 + 7 * u2) x3)), .ref 0]) rfl ?_
      refine lf_iald 48 24 rfl rfl (lf_sA6 htu2) (lf_sB6 htu2) rfl rfl o26 ?_
      refine lf_callZ 51 rfl rfl rfl rfl (gm_104 h) (fun z28 s27 h => ?_)
      refine lf_ifz_ne 56 54 rfl rfl rfl (fun c => ?_) (fun c => ?_)
      · have h := h.1 c
        refine lf_iinc 59 rfl rfl rfl rfl ?_
        refine lf_seg 1 (pc' := 15) (lv' := [(3, .int (Int32.ofInt (x3 + 1))), (0, .ref 0), (2, .ref (35 + 7 * u2))]) (st' := []) rfl ?_
        refine lf_sub (l := [(0, .ref 0), (2, .ref (35 + 7 * u2)), (3, .int (Int32.ofInt (x3 + 1)))]) (lf_sb1 rfl (lf_sb1 rfl (lf_sb1 rfl lf_sb0))) ?_
        exact hX15 _ _ h
      · have h := h.2 c
        refine lf_seg 1 (pc' := 55) (lv' := [(0, .ref 0), (2, .ref (35 + 7 * u2)), (3, .int (Int32.ofInt x3))]) (st' := [.int (Int32.ofInt x3)]) rfl ?_
        exact lf_retI rfl rfl h
theorem gm_103_p15L {L : Nat} {xs : Nat → Int32} {d : Nat} {Q : Int → lf_Z → Prop} {u2 : Nat} {x3 : Int} {s : lf_Z} (htu2 : u2 < 4) (h : fm_103_p15L Q u2 x3 s) : lf_E (px_ro L xs) (d + 8) 103 15 [(0, .ref 0), (2, .ref (35 + 7 * u2)), (3, .int (Int32.ofInt x3))] [] s (lf_qi Q) :=
  h (fun x3 s => lf_E (px_ro L xs) (d + 8) 103 15 [(0, .ref 0), (2, .ref (35 + 7 * u2)), (3, .int (Int32.ofInt x3))] [] s (lf_qi Q)) (fun x3 s hb => gm_103_p15 (fun _ _ h => h) htu2 hb)
def fm_103 (a1 : Int) (Q : Int → lf_Z → Prop) (s : lf_Z) : Prop := fm_62 a1 (fun r23 s21 => (r23 = none → (Q (-2) s21)) ∧ (∀ t22 : Nat, r23 = some t22 → t22 < 4 ∧ (fm_103_p15L Q t22 0 s21))) s
set_option maxRecDepth 100000 in
theorem gm_103 {L : Nat} {xs : Nat → Int32} {d : Nat} {a1 : Int} {Q : Int → lf_Z → Prop} {s : lf_Z} (h : fm_103 a1 Q s) : lf_M (px_ro L xs) (d + 8) 103 [.ref 0, .int (Int32.ofInt a1)] s (lf_qi Q) := by
  unfold fm_103 at h
  show lf_E (px_ro L xs) (d + 8) 103 0 [(0, .ref 0), (1, .int (Int32.ofInt a1))] [] s _
  refine lf_seg 2 (pc' := 2) (lv' := [(0, .ref 0), (1, .int (Int32.ofInt a1))]) (st' := [.int (Int32.ofInt a1), .ref 0]) rfl ?_
  refine lf_callR 5 rfl rfl rfl rfl (gm_62 h) (fun s21 h => ?_) (fun t22 s21 h => ?_)
  · have h := h.1 rfl
    refine lf_seg 2 (pc' := 7) (lv' := [(2, .null), (0, .ref 0), (1, .int (Int32.ofInt a1))]) (st' := [.null]) rfl ?_
    refine lf_nonnull_f 10 rfl rfl ?_
    refine lf_bipush 12 (-2) rfl rfl (by decide) (by decide) ?_
    exact lf_retI rfl rfl h
  · obtain ⟨htt22, h⟩ := h.2 _ rfl
    refine lf_seg 2 (pc' := 7) (lv' := [(2, .ref (35 + 7 * t22)), (0, .ref 0), (1, .int (Int32.ofInt a1))]) (st' := [.ref (35 + 7 * t22)]) rfl ?_
    refine lf_nonnull_t 13 rfl rfl ?_
    refine lf_seg 2 (pc' := 15) (lv' := [(3, .int (Int32.ofInt 0)), (2, .ref (35 + 7 * t22)), (0, .ref 0), (1, .int (Int32.ofInt a1))]) (st' := []) rfl ?_
    refine lf_sub (l := [(0, .ref 0), (2, .ref (35 + 7 * t22)), (3, .int (Int32.ofInt 0))]) (lf_sb1 rfl (lf_sb1 rfl (lf_sb1 rfl lf_sb0))) ?_
    exact gm_103_p15L htt22 h
-- fm_281 Model.isPlayed 95 i
def fm_281 (a1 : Int) (Q : Bool → lf_Z → Prop) (s : lf_Z) : Prop := (0 ≤ a1 + 1 ∧ a1 + 1 < 2820) ∧ ((0 ≤ a1 + 2 ∧ a1 + 2 < 2820) ∧ ((0 ≤ a1 ∧ a1 < 2820) ∧ (lf_R (s.1 98 a1) ∧ ((s.1 98 a1 < 3 ∨ 12 < s.1 98 a1 → (Q true s)) ∧ (s.1 98 a1 = 3 → (fm_182 (s.1 98 (a1 + 1)) (s.1 98 (a1 + 2)) (fun r26 s25 => (lf_R r26 ∧ ((r26 < 0 → (Q false s25)) ∧ (¬ (r26 < 0) → (Q true s25))))) s)) ∧ (s.1 98 a1 = 4 → (fm_184 (s.1 98 (a1 + 1)) (s.1 98 (a1 + 2)) 0 (fun r29 s28 => (lf_R r29 ∧ ((r29 < 0 → (Q false s28)) ∧ (¬ (r29 < 0) → (Q true s28))))) s)) ∧ (s.1 98 a1 = 5 → (fm_184 (s.1 98 (a1 + 1)) (s.1 98 (a1 + 2)) 1 (fun r32 s31 => (lf_R r32 ∧ ((r32 < 0 → (Q false s31)) ∧ (¬ (r32 < 0) → (Q true s31))))) s)) ∧ (s.1 98 a1 = 6 → (fm_190 (s.1 98 (a1 + 1)) 0 0 (s.1 98 (a1 + 2)) (fun r35 s34 => (lf_R r35 ∧ ((r35 < 0 → (Q false s34)) ∧ (¬ (r35 < 0) → (Q true s34))))) s)) ∧ (s.1 98 a1 = 7 → (fm_240 (s.1 98 (a1 + 1)) (s.1 98 (a1 + 2)) (fun r38 s37 => (lf_R r38 ∧ ((r38 < 0 → (Q false s37)) ∧ (¬ (r38 < 0) → (Q true s37))))) s)) ∧ (s.1 98 a1 = 8 → (fm_248 (s.1 98 (a1 + 1)) (s.1 98 (a1 + 2)) (fun z41 s40 => (Q z41 s40)) s)) ∧ (s.1 98 a1 = 9 → (fm_250 (s.1 98 (a1 + 1)) 0 (fun z43 s42 => (Q z43 s42)) s)) ∧ (s.1 98 a1 = 10 → (fm_250 (s.1 98 (a1 + 1)) 1 (fun z45 s44 => (Q z45 s44)) s)) ∧ (s.1 98 a1 = 11 → (fm_253 (s.1 98 (a1 + 1)) (s.1 98 (a1 + 2)) (fun r47 s46 => (lf_R r47 ∧ ((r47 < 0 → (Q false s46)) ∧ (¬ (r47 < 0) → (Q true s46))))) s)) ∧ (s.1 98 a1 = 12 → (fm_258 (s.1 98 (a1 + 1)) (fun z50 s49 => (Q z50 s49)) s))))))
set_option maxRecDepth 100000 in
theorem gm_281 {L : Nat} {xs : Nat → Int32} {d : Nat} {a1 : Int} {Q : Bool → lf_Z → Prop} {s : lf_Z} (h : fm_281 a1 Q s) : lf_M (px_ro L xs) (d + 10) 281 [.ref 95, .int (Int32.ofInt a1)] s (lf_qz Q) := by
  unfold fm_281 at h
  show lf_E (px_ro L xs) (d + 10) 281 0 [(0, .ref 95), (1, .int (Int32.ofInt a1))] [] s _
  refine lf_seg 4 (pc' := 6) (lv' := [(0, .ref 95), (1, .int (Int32.ofInt a1))]) (st' := [.int (Int32.ofInt 1), .int (Int32.ofInt a1), .ref 98]) rfl ?_
  refine lf_iadd 7 rfl rfl ?_
  obtain ⟨o21, h⟩ := h
  refine lf_iald 8 2820 rfl rfl rfl rfl rfl rfl o21 ?_
  refine lf_seg 5 (pc' := 15) (lv' := [(2, .int (Int32.ofInt (s.1 98 (a1 + 1)))), (0, .ref 95), (1, .int (Int32.ofInt a1))]) (st' := [.int (Int32.ofInt 2), .int (Int32.ofInt a1), .ref 98]) rfl ?_
  refine lf_iadd 16 rfl rfl ?_
  obtain ⟨o22, h⟩ := h
  refine lf_iald 17 2820 rfl rfl rfl rfl rfl rfl o22 ?_
  refine lf_seg 4 (pc' := 23) (lv' := [(3, .int (Int32.ofInt (s.1 98 (a1 + 2)))), (2, .int (Int32.ofInt (s.1 98 (a1 + 1)))), (0, .ref 95), (1, .int (Int32.ofInt a1))]) (st' := [.int (Int32.ofInt a1), .ref 98]) rfl ?_
  obtain ⟨o23, h⟩ := h
  refine lf_iald 24 2820 rfl rfl rfl rfl rfl rfl o23 ?_
  obtain ⟨o24, h⟩ := h
  refine lf_tsw 201 [(3, 80), (4, 95), (5, 111), (6, 127), (7, 144), (8, 159), (9, 166), (10, 173), (11, 180), (12, 195)] rfl rfl rfl (by decide) o24 (fun c => ?_) (lf_tab1 (fun c => ?_) (lf_tab1 (fun c => ?_) (lf_tab1 (fun c => ?_) (lf_tab1 (fun c => ?_) (lf_tab1 (fun c => ?_) (lf_tab1 (fun c => ?_) (lf_tab1 (fun c => ?_) (lf_tab1 (fun c => ?_) (lf_tab1 (fun c => ?_) (lf_tab1 (fun c => ?_) lf_tab0))))))))))
  · have h := h.1 c
    refine lf_seg 1 (pc' := 202) (lv' := [(3, .int (Int32.ofInt (s.1 98 (a1 + 2)))), (2, .int (Int32.ofInt (s.1 98 (a1 + 1)))), (0, .ref 95), (1, .int (Int32.ofInt a1))]) (st' := [.int (Int32.ofInt 1)]) rfl ?_
    exact lf_retZ true rfl rfl h
  · have h := h.2.1 c
    refine lf_seg 3 (pc' := 83) (lv' := [(3, .int (Int32.ofInt (s.1 98 (a1 + 2)))), (2, .int (Int32.ofInt (s.1 98 (a1 + 1)))), (0, .ref 95), (1, .int (Int32.ofInt a1))]) (st' := [.int (Int32.ofInt (s.1 98 (a1 + 2))), .int (Int32.ofInt (s.1 98 (a1 + 1))), .ref 95]) rfl ?_
    refine lf_callI 86 rfl rfl rfl rfl (gm_182 h) (fun r26 s25 h => ?_)
    obtain ⟨o27, h⟩ := h
    refine lf_if_lt 93 89 rfl rfl rfl o27 (fun c => ?_) (fun c => ?_)
    · have h := h.1 c
      refine lf_seg 1 (pc' := 94) (lv' := [(3, .int (Int32.ofInt (s.1 98 (a1 + 2)))), (2, .int (Int32.ofInt (s.1 98 (a1 + 1)))), (0, .ref 95), (1, .int (Int32.ofInt a1))]) (st' := [.int (Int32.ofInt 0)]) rfl ?_
      exact lf_retZ false rfl rfl h
    · have h := h.2 c
      refine lf_seg 2 (pc' := 94) (lv' := [(3, .int (Int32.ofInt (s.1 98 (a1 + 2)))), (2, .int (Int32.ofInt (s.1 98 (a1 + 1)))), (0, .ref 95), (1, .int (Int32.ofInt a1))]) (st' := [.int (Int32.ofInt 1)]) rfl ?_
      exact lf_retZ true rfl rfl h
  · have h := h.2.2.1 c
    refine lf_seg 4 (pc' := 99) (lv' := [(3, .int (Int32.ofInt (s.1 98 (a1 + 2)))), (2, .int (Int32.ofInt (s.1 98 (a1 + 1)))), (0, .ref 95), (1, .int (Int32.ofInt a1))]) (st' := [.int (Int32.ofInt 0), .int (Int32.ofInt (s.1 98 (a1 + 2))), .int (Int32.ofInt (s.1 98 (a1 + 1))), .ref 95]) rfl ?_
    refine lf_callI 102 rfl rfl rfl rfl (gm_184 h) (fun r29 s28 h => ?_)
    obtain ⟨o30, h⟩ := h
    refine lf_if_lt 109 105 rfl rfl rfl o30 (fun c => ?_) (fun c => ?_)
    · have h := h.1 c
      refine lf_seg 1 (pc' := 110) (lv' := [(3, .int (Int32.ofInt (s.1 98 (a1 + 2)))), (2, .int (Int32.ofInt (s.1 98 (a1 + 1)))), (0, .ref 95), (1, .int (Int32.ofInt a1))]) (st' := [.int (Int32.ofInt 0)]) rfl ?_
      exact lf_retZ false rfl rfl h
    · have h := h.2 c
      refine lf_seg 2 (pc' := 110) (lv' := [(3, .int (Int32.ofInt (s.1 98 (a1 + 2)))), (2, .int (Int32.ofInt (s.1 98 (a1 + 1)))), (0, .ref 95), (1, .int (Int32.ofInt a1))]) (st' := [.int (Int32.ofInt 1)]) rfl ?_
      exact lf_retZ true rfl rfl h
  · have h := h.2.2.2.1 c
    refine lf_seg 4 (pc' := 115) (lv' := [(3, .int (Int32.ofInt (s.1 98 (a1 + 2)))), (2, .int (Int32.ofInt (s.1 98 (a1 + 1)))), (0, .ref 95), (1, .int (Int32.ofInt a1))]) (st' := [.int (Int32.ofInt 1), .int (Int32.ofInt (s.1 98 (a1 + 2))), .int (Int32.ofInt (s.1 98 (a1 + 1))), .ref 95]) rfl ?_
    refine lf_callI 118 rfl rfl rfl rfl (gm_184 h) (fun r32 s31 h => ?_)
    obtain ⟨o33, h⟩ := h
    refine lf_if_lt 125 121 rfl rfl rfl o33 (fun c => ?_) (fun c => ?_)
    · have h := h.1 c
      refine lf_seg 1 (pc' := 126) (lv' := [(3, .int (Int32.ofInt (s.1 98 (a1 + 2)))), (2, .int (Int32.ofInt (s.1 98 (a1 + 1)))), (0, .ref 95), (1, .int (Int32.ofInt a1))]) (st' := [.int (Int32.ofInt 0)]) rfl ?_
      exact lf_retZ false rfl rfl h
    · have h := h.2 c
      refine lf_seg 2 (pc' := 126) (lv' := [(3, .int (Int32.ofInt (s.1 98 (a1 + 2)))), (2, .int (Int32.ofInt (s.1 98 (a1 + 1)))), (0, .ref 95), (1, .int (Int32.ofInt a1))]) (st' := [.int (Int32.ofInt 1)]) rfl ?_
      exact lf_retZ true rfl rfl h
  · have h := h.2.2.2.2.1 c
    refine lf_seg 5 (pc' := 132) (lv' := [(3, .int (Int32.ofInt (s.1 98 (a1 + 2)))), (2, .int (Int32.ofInt (s.1 98 (a1 + 1)))), (0, .ref 95), (1, .int (Int32.ofInt a1))]) (st' := [.int (Int32.ofInt (s.1 98 (a1 + 2))), .int (Int32.ofInt 0), .int (Int32.ofInt 0), .int (Int32.ofInt (s.1 98 (a1 + 1))), .ref 95]) rfl ?_
    refine lf_callI 135 rfl rfl rfl rfl (gm_190 h) (fun r35 s34 h => ?_)
    obtain ⟨o36, h⟩ := h
    refine lf_if_lt 142 138 rfl rfl rfl o36 (fun c => ?_) (fun c => ?_)
    · have h := h.1 c
      refine lf_seg 1 (pc' := 143) (lv' := [(3, .int (Int32.ofInt (s.1 98 (a1 + 2)))), (2, .int (Int32.ofInt (s.1 98 (a1 + 1)))), (0, .ref 95), (1, .int (Int32.ofInt a1))]) (st' := [.int (Int32.ofInt 0)]) rfl ?_
      exact lf_retZ false rfl rfl h
    · have h := h.2 c
      refine lf_seg 2 (pc' := 143) (lv' := [(3, .int (Int32.ofInt (s.1 98 (a1 + 2)))), (2, .int (Int32.ofInt (s.1 98 (a1 + 1)))), (0, .ref 95), (1, .int (Int32.ofInt a1))]) (st' := [.int (Int32.ofInt 1)]) rfl ?_
      exact lf_retZ true rfl rfl h
  · have h := h.2.2.2.2.2.1 c
    refine lf_seg 3 (pc' := 147) (lv' := [(3, .int (Int32.ofInt (s.1 98 (a1 + 2)))), (2, .int (Int32.ofInt (s.1 98 (a1 + 1)))), (0, .ref 95), (1, .int (Int32.ofInt a1))]) (st' := [.int (Int32.ofInt (s.1 98 (a1 + 2))), .int (Int32.ofInt (s.1 98 (a1 + 1))), .ref 95]) rfl ?_
    refine lf_callI 150 rfl rfl rfl rfl (gm_240 h) (fun r38 s37 h => ?_)
    obtain ⟨o39, h⟩ := h
    refine lf_if_lt 157 153 rfl rfl rfl o39 (fun c => ?_) (fun c => ?_)
    · have h := h.1 c
      refine lf_seg 1 (pc' := 158) (lv' := [(3, .int (Int32.ofInt (s.1 98 (a1 + 2)))), (2, .int (Int32.ofInt (s.1 98 (a1 + 1)))), (0, .ref 95), (1, .int (Int32.ofInt a1))]) (st' := [.int (Int32.ofInt 0)]) rfl ?_
      exact lf_retZ false rfl rfl h
    · have h := h.2 c
      refine lf_seg 2 (pc' := 158) (lv' := [(3, .int (Int32.ofInt (s.1 98 (a1 + 2)))), (2, .int (Int32.ofInt (s.1 98 (a1 + 1)))), (0, .ref 95), (1, .int (Int32.ofInt a1))]) (st' := [.int (Int32.ofInt 1)]) rfl ?_
      exact lf_retZ true rfl rfl h
  · have h := h.2.2.2.2.2.2.1 c
    refine lf_seg 3 (pc' := 162) (lv' := [(3, .int (Int32.ofInt (s.1 98 (a1 + 2)))), (2, .int (Int32.ofInt (s.1 98 (a1 + 1)))), (0, .ref 95), (1, .int (Int32.ofInt a1))]) (st' := [.int (Int32.ofInt (s.1 98 (a1 + 2))), .int (Int32.ofInt (s.1 98 (a1 + 1))), .ref 95]) rfl ?_
    refine lf_callZ 165 rfl rfl rfl rfl (gm_248 h) (fun z41 s40 h => ?_)
    exact lf_retZ z41 rfl rfl h
  · have h := h.2.2.2.2.2.2.2.1 c
    refine lf_seg 3 (pc' := 169) (lv' := [(3, .int (Int32.ofInt (s.1 98 (a1 + 2)))), (2, .int (Int32.ofInt (s.1 98 (a1 + 1)))), (0, .ref 95), (1, .int (Int32.ofInt a1))]) (st' := [.int (Int32.ofInt 0), .int (Int32.ofInt (s.1 98 (a1 + 1))), .ref 95]) rfl ?_
    refine lf_callZ 172 rfl rfl rfl rfl (gm_250 h) (fun z43 s42 h => ?_)
    exact lf_retZ z43 rfl rfl h
  · have h := h.2.2.2.2.2.2.2.2.1 c
    refine lf_seg 3 (pc' := 176) (lv' := [(3, .int (Int32.ofInt (s.1 98 (a1 + 2)))), (2, .int (Int32.ofInt (s.1 98 (a1 + 1)))), (0, .ref 95), (1, .int (Int32.ofInt a1))]) (st' := [.int (Int32.ofInt 1), .int (Int32.ofInt (s.1 98 (a1 + 1))), .ref 95]) rfl ?_
    refine lf_callZ 179 rfl rfl rfl rfl (gm_250 h) (fun z45 s44 h => ?_)
    exact lf_retZ z45 rfl rfl h
  · have h := h.2.2.2.2.2.2.2.2.2.1 c
    refine lf_seg 3 (pc' := 183) (lv' := [(3, .int (Int32.ofInt (s.1 98 (a1 + 2)))), (2, .int (Int32.ofInt (s.1 98 (a1 + 1)))), (0, .ref 95), (1, .int (Int32.ofInt a1))]) (st' := [.int (Int32.ofInt (s.1 98 (a1 + 2))), .int (Int32.ofInt (s.1 98 (a1 + 1))), .ref 95]) rfl ?_
    refine lf_callI 186 rfl rfl rfl rfl (gm_253 h) (fun r47 s46 h => ?_)
    obtain ⟨o48, h⟩ := h
    refine lf_if_lt 193 189 rfl rfl rfl o48 (fun c => ?_) (fun c => ?_)
    · have h := h.1 c
      refine lf_seg 1 (pc' := 194) (lv' := [(3, .int (Int32.ofInt (s.1 98 (a1 + 2)))), (2, .int (Int32.ofInt (s.1 98 (a1 + 1)))), (0, .ref 95), (1, .int (Int32.ofInt a1))]) (st' := [.int (Int32.ofInt 0)]) rfl ?_
      exact lf_retZ false rfl rfl h
    · have h := h.2 c
      refine lf_seg 2 (pc' := 194) (lv' := [(3, .int (Int32.ofInt (s.1 98 (a1 + 2)))), (2, .int (Int32.ofInt (s.1 98 (a1 + 1)))), (0, .ref 95), (1, .int (Int32.ofInt a1))]) (st' := [.int (Int32.ofInt 1)]) rfl ?_
      exact lf_retZ true rfl rfl h
  · have h := h.2.2.2.2.2.2.2.2.2.2 c
    refine lf_seg 2 (pc' := 197) (lv' := [(3, .int (Int32.ofInt (s.1 98 (a1 + 2)))), (2, .int (Int32.ofInt (s.1 98 (a1 + 1)))), (0, .ref 95), (1, .int (Int32.ofInt a1))]) (st' := [.int (Int32.ofInt (s.1 98 (a1 + 1))), .ref 95]) rfl ?_
    refine lf_callZ 200 rfl rfl rfl rfl (gm_258 h) (fun z50 s49 h => ?_)
    exact lf_retZ z50 rfl rfl h
-- fm_280 Model.played 95 i
def fm_280_p22 (Q : Int → lf_Z → Prop) (x1 : Int) (X22 : Int → lf_Z → Prop) (x2 : Int) (s : lf_Z) : Prop := (0 ≤ 705 * x1 ∧ 705 * x1 < 2820) ∧ (lf_R x2 ∧ (lf_R (s.1 98 (705 * x1)) ∧ ((s.1 98 (705 * x1) ≤ x2 → (Q (-1) s)) ∧ (¬ (s.1 98 (705 * x1) ≤ x2) → (fm_281 (((705 * x1) + 1) + (4 * x2)) (fun z27 s26 => ((z27 = true → (X22 (x2 + 1) s26)) ∧ (z27 = false → (Q x2 s26)))) s)))))
def fm_280_p22L (Q : Int → lf_Z → Prop) (x1 : Int) (x2 : Int) (s : lf_Z) : Prop := ∀ X22 : Int → lf_Z → Prop, (∀ (x2 : Int) (s : lf_Z), fm_280_p22 Q x1 X22 x2 s → X22 x2 s) → X22 x2 s
set_option maxRecDepth 100000 in
theorem gm_280_p22 {L : Nat} {xs : Nat → Int32} {d : Nat} {Q : Int → lf_Z → Prop} {x1 : Int} {x2 : Int} {s : lf_Z} {X22 : Int → lf_Z → Prop} (hX22 : ∀ x2 s, X22 x2 s → lf_E (px_ro L xs) (d + 11) 280 22 [(0, .ref 95), (1, .int (Int32.ofInt x1)), (2, .int (Int32.ofInt x2))] [] s (lf_qi Q)) (h : fm_280_p22 Q x1 X22 x2 s) : lf_E (px_ro L xs) (d + 11) 280 22 [(0, .ref 95), (1, .int (Int32.ofInt x1)), (2, .int (Int32.ofInt x2))] [] s (lf_qi Q) := by
  unfold fm_280_p22 at h
  refine lf_seg 3 (pc' := 27) (lv' := [(0, .ref 95), (1, .int (Int32.ofInt x1)), (2, .int (Int32.ofInt x2))]) (st' := [.ref 98, .int (Int32.ofInt x2)]) rfl ?_
  refine lf_sipush 30 705 rfl rfl (by decide) (by decide) ?_
  refine lf_seg 1 (pc' := 31) (lv' := [(0, .ref 95), (1, .int (Int32.ofInt x1)), (2, .int (Int32.ofInt x2))]) (st' := [.int (Int32.ofInt x1), .int (Int32.ofInt 705), .ref 98, .int (Int32.ofInt x2)]) rfl ?_
  refine lf_imul 32 rfl rfl ?_
  obtain ⟨o23, h⟩ := h
  refine lf_iald 33 2820 rfl rfl rfl rfl rfl rfl o23 ?_
  obtain ⟨o24, h⟩ := h
  obtain ⟨o25, h⟩ := h
  refine lf_icmp_ge 62 36 rfl rfl rfl o24 o25 (fun c => ?_) (fun c => ?_)
  · have h := h.1 c
    refine lf_seg 1 (pc' := 63) (lv' := [(0, .ref 95), (1, .int (Int32.ofInt x1)), (2, .int (Int32.ofInt x2))]) (st' := [.int (Int32.ofInt (-1))]) rfl ?_
    exact lf_retI rfl rfl h
  · have h := h.2 c
    refine lf_seg 1 (pc' := 37) (lv' := [(0, .ref 95), (1, .int (Int32.ofInt x1)), (2, .int (Int32.ofInt x2))]) (st' := [.ref 95]) rfl ?_
    refine lf_sipush 40 705 rfl rfl (by decide) (by decide) ?_
    refine lf_seg 1 (pc' := 41) (lv' := [(0, .ref 95), (1, .int (Int32.ofInt x1)), (2, .int (Int32.ofInt x2))]) (st' := [.int (Int32.ofInt x1), .int (Int32.ofInt 705), .ref 95]) rfl ?_
    refine lf_imul 42 rfl rfl ?_
    refine lf_seg 1 (pc' := 43) (lv' := [(0, .ref 95), (1, .int (Int32.ofInt x1)), (2, .int (Int32.ofInt x2))]) (st' := [.int (Int32.ofInt 1), .int (Int32.ofInt (705 * x1)), .ref 95]) rfl ?_
    refine lf_iadd 44 rfl rfl ?_
    refine lf_seg 2 (pc' := 46) (lv' := [(0, .ref 95), (1, .int (Int32.ofInt x1)), (2, .int (Int32.ofInt x2))]) (st' := [.int (Int32.ofInt x2), .int (Int32.ofInt 4), .int (Int32.ofInt ((705 * x1) + 1)), .ref 95]) rfl ?_
    refine lf_imul 47 rfl rfl ?_
    refine lf_iadd 48 rfl rfl ?_
    refine lf_callZ 51 rfl rfl rfl rfl (gm_281 h) (fun z27 s26 h => ?_)
    refine lf_ifz_ne 56 54 rfl rfl rfl (fun c => ?_) (fun c => ?_)
    · have h := h.1 c
      refine lf_iinc 59 rfl rfl rfl rfl ?_
      refine lf_seg 1 (pc' := 22) (lv' := [(2, .int (Int32.ofInt (x2 + 1))), (0, .ref 95), (1, .int (Int32.ofInt x1))]) (st' := []) rfl ?_
      refine lf_sub (l := [(0, .ref 95), (1, .int (Int32.ofInt x1)), (2, .int (Int32.ofInt (x2 + 1)))]) (lf_sb1 rfl (lf_sb1 rfl (lf_sb1 rfl lf_sb0))) ?_
      exact hX22 _ _ h
    · have h := h.2 c
      refine lf_seg 1 (pc' := 55) (lv' := [(0, .ref 95), (1, .int (Int32.ofInt x1)), (2, .int (Int32.ofInt x2))]) (st' := [.int (Int32.ofInt x2)]) rfl ?_
      exact lf_retI rfl rfl h
theorem gm_280_p22L {L : Nat} {xs : Nat → Int32} {d : Nat} {Q : Int → lf_Z → Prop} {x1 : Int} {x2 : Int} {s : lf_Z} (h : fm_280_p22L Q x1 x2 s) : lf_E (px_ro L xs) (d + 11) 280 22 [(0, .ref 95), (1, .int (Int32.ofInt x1)), (2, .int (Int32.ofInt x2))] [] s (lf_qi Q) :=
  h (fun x2 s => lf_E (px_ro L xs) (d + 11) 280 22 [(0, .ref 95), (1, .int (Int32.ofInt x1)), (2, .int (Int32.ofInt x2))] [] s (lf_qi Q)) (fun x2 s hb => gm_280_p22 (fun _ _ h => h) hb)
def fm_280 (a1 : Int) (Q : Int → lf_Z → Prop) (s : lf_Z) : Prop := fm_183 a1 0 ((s.1 96 7) - 1) (fun z22 s21 => ((z22 = true → (fm_280_p22L Q a1 0 s21)) ∧ (z22 = false → (Q (-2) s21)))) s
set_option maxRecDepth 100000 in
theorem gm_280 {L : Nat} {xs : Nat → Int32} {d : Nat} {a1 : Int} {Q : Int → lf_Z → Prop} {s : lf_Z} (h : fm_280 a1 Q s) : lf_M (px_ro L xs) (d + 11) 280 [.ref 95, .int (Int32.ofInt a1)] s (lf_qi Q) := by
  unfold fm_280 at h
  show lf_E (px_ro L xs) (d + 11) 280 0 [(0, .ref 95), (1, .int (Int32.ofInt a1))] [] s _
  refine lf_seg 4 (pc' := 6) (lv' := [(0, .ref 95), (1, .int (Int32.ofInt a1))]) (st' := [.ref 96, .int (Int32.ofInt 0), .int (Int32.ofInt a1)]) rfl ?_
  refine lf_bipush 8 7 rfl rfl (by decide) (by decide) ?_
  refine lf_iald 9 1538 rfl rfl rfl rfl rfl rfl ⟨by decide, by decide⟩ ?_
  refine lf_seg 1 (pc' := 10) (lv' := [(0, .ref 95), (1, .int (Int32.ofInt a1))]) (st' := [.int (Int32.ofInt 1), .int (Int32.ofInt (s.1 96 7)), .int (Int32.ofInt 0), .int (Int32.ofInt a1)]) rfl ?_
  refine lf_isub 11 rfl rfl ?_
  refine lf_callZ 14 rfl rfl rfl rfl (gm_183 h) (fun z22 s21 h => ?_)
  refine lf_ifz_ne 20 17 rfl rfl rfl (fun c => ?_) (fun c => ?_)
  · have h := h.1 c
    refine lf_seg 2 (pc' := 22) (lv' := [(2, .int (Int32.ofInt 0)), (0, .ref 95), (1, .int (Int32.ofInt a1))]) (st' := []) rfl ?_
    refine lf_sub (l := [(0, .ref 95), (1, .int (Int32.ofInt a1)), (2, .int (Int32.ofInt 0))]) (lf_sb1 rfl (lf_sb1 rfl (lf_sb1 rfl lf_sb0))) ?_
    exact gm_280_p22L h
  · have h := h.2 c
    refine lf_bipush 19 (-2) rfl rfl (by decide) (by decide) ?_
    exact lf_retI rfl rfl h
-- fm_106 ElevenBullocks.happen 0
def fm_106_p100 (Q : lf_Z → Prop) (y0 : Int) (s : lf_Z) : Prop := fm_99 y0 (fun z28 s27 => ((z28 = false → (Q s27)) ∧ (z28 = true → (lf_R (s27.1 1 0) ∧ ((s27.1 1 0 = 0 → (Q s27)) ∧ (¬ (s27.1 1 0 = 0) → (lf_R (s27.1 15 8) ∧ ((s27.1 1 0) ≠ 0 ∧ ((0 ≤ y0 ∧ y0 < 6) ∧ (Q (lf_up s27.1 20 y0 ((s27.1 15 8).tmod (s27.1 1 0)), s27.2.1, s27.2.2))))))))))) s
set_option maxRecDepth 100000 in
theorem gm_106_p100 {L : Nat} {xs : Nat → Int32} {d : Nat} {Q : lf_Z → Prop} {y0 : Int} {s : lf_Z} (h : fm_106_p100 Q y0 s) : lf_E (px_ro L xs) (d + 6) 106 100 [(0, .ref 0)] [.int (Int32.ofInt y0)] s (lf_qv Q) := by
  unfold fm_106_p100 at h
  refine lf_seg 4 (pc' := 106) (lv' := [(2, .int (Int32.ofInt y0)), (0, .ref 0)]) (st' := [.int (Int32.ofInt y0), .ref 1]) rfl ?_
  refine lf_callZ 109 rfl rfl rfl rfl (gm_99 h) (fun z28 s27 h => ?_)
  refine lf_ifz_eq 146 112 rfl rfl rfl (fun c => ?_) (fun c => ?_)
  · have h := h.1 c
    refine lf_seg 1 (pc' := 169) (lv' := [(2, .int (Int32.ofInt y0)), (0, .ref 0)]) (st' := []) rfl ?_
    exact lf_retV rfl rfl h
  · have h := h.2 c
    refine lf_seg 2 (pc' := 116) (lv' := [(2, .int (Int32.ofInt y0)), (0, .ref 0)]) (st' := [.ref 1]) rfl ?_
    refine lf_getI 119 0 rfl rfl rfl rfl rfl rfl rfl ?_
    obtain ⟨o29, h⟩ := h
    refine lf_if_eq 146 122 rfl rfl rfl o29 (fun c => ?_) (fun c => ?_)
    · have h := h.1 c
      refine lf_seg 1 (pc' := 169) (lv' := [(2, .int (Int32.ofInt y0)), (0, .ref 0)]) (st' := []) rfl ?_
      exact lf_retV rfl rfl h
    · have h := h.2 c
      refine lf_seg 6 (pc' := 134) (lv' := [(2, .int (Int32.ofInt y0)), (0, .ref 0)]) (st' := [.ref 15, .int (Int32.ofInt y0), .ref 20]) rfl ?_
      refine lf_getI 137 8 rfl rfl rfl rfl rfl rfl rfl ?_
      refine lf_seg 2 (pc' := 141) (lv' := [(2, .int (Int32.ofInt y0)), (0, .ref 0)]) (st' := [.ref 1, .int (Int32.ofInt (s27.1 15 8)), .int (Int32.ofInt y0), .ref 20]) rfl ?_
      refine lf_getI 144 0 rfl rfl rfl rfl rfl rfl rfl ?_
      obtain ⟨o30, h⟩ := h
      obtain ⟨o31, h⟩ := h
      refine lf_irem 145 rfl rfl o30 o29 o31 ?_
      obtain ⟨o32, h⟩ := h
      refine lf_iast 146 6 rfl rfl rfl rfl rfl rfl o32 ?_
      refine lf_as (lf_up s27.1 20 y0 ((s27.1 15 8).tmod (s27.1 1 0)), s27.2.1, s27.2.2) rfl ?_
      refine lf_seg 1 (pc' := 169) (lv' := [(2, .int (Int32.ofInt y0)), (0, .ref 0)]) (st' := []) rfl ?_
      exact lf_retV rfl rfl h
def fm_106_p43 (Q : lf_Z → Prop) (y0 : Int) (s : lf_Z) : Prop := fm_89 y0 (fun z36 s35 => ((z36 = false → (Q s35)) ∧ (z36 = true → (fm_101 y0 (fun s37 => (Q s37)) s35)))) s
set_option maxRecDepth 100000 in
theorem gm_106_p43 {L : Nat} {xs : Nat → Int32} {d : Nat} {Q : lf_Z → Prop} {y0 : Int} {s : lf_Z} (h : fm_106_p43 Q y0 s) : lf_E (px_ro L xs) (d + 6) 106 43 [(0, .ref 0)] [.int (Int32.ofInt y0)] s (lf_qv Q) := by
  unfold fm_106_p43 at h
  refine lf_seg 4 (pc' := 49) (lv' := [(2, .int (Int32.ofInt y0)), (0, .ref 0)]) (st' := [.int (Int32.ofInt y0), .ref 1]) rfl ?_
  refine lf_callZ 52 rfl rfl rfl rfl (gm_89 h) (fun z36 s35 h => ?_)
  refine lf_ifz_eq 63 55 rfl rfl rfl (fun c => ?_) (fun c => ?_)
  · have h := h.1 c
    refine lf_seg 1 (pc' := 169) (lv' := [(2, .int (Int32.ofInt y0)), (0, .ref 0)]) (st' := []) rfl ?_
    exact lf_retV rfl rfl h
  · have h := h.2 c
    refine lf_seg 3 (pc' := 60) (lv' := [(2, .int (Int32.ofInt y0)), (0, .ref 0)]) (st' := [.int (Int32.ofInt y0), .ref 15]) rfl ?_
    refine lf_callV 63 rfl rfl rfl rfl (gm_101 h) (fun s37 h => ?_)
    refine lf_seg 1 (pc' := 169) (lv' := [(2, .int (Int32.ofInt y0)), (0, .ref 0)]) (st' := []) rfl ?_
    exact lf_retV rfl rfl h
def fm_106 (Q : lf_Z → Prop) (s : lf_Z) : Prop := lf_R (s.1 15 8) ∧ (lf_R ((s.1 15 8).tmod 5) ∧ (((s.1 15 8).tmod 5 ≠ 0 → (((s.1 15 8).tmod 5 ≠ 1 → (lf_R (s.1 15 7) ∧ ((999 ≤ s.1 15 7 → (Q s)) ∧ (¬ (999 ≤ s.1 15 7) → (fm_72 (fun s24 => (Q s24)) s))))) ∧ (¬ ((s.1 15 8).tmod 5 ≠ 1) → (lf_R (s.1 1 2) ∧ ((s.1 1 2 ≠ 0 → ((s.1 1 2) ≠ 0 ∧ (fm_106_p100 Q ((s.1 15 8).tmod (s.1 1 2)) s))) ∧ (¬ (s.1 1 2 ≠ 0) → (fm_106_p100 Q (-1) s))))))) ∧ (¬ ((s.1 15 8).tmod 5 ≠ 0) → (lf_R (s.1 1 1) ∧ ((s.1 1 1 ≠ 0 → ((s.1 1 1) ≠ 0 ∧ (fm_106_p43 Q ((s.1 15 8).tmod (s.1 1 1)) s))) ∧ (¬ (s.1 1 1 ≠ 0) → (fm_106_p43 Q (-1) s)))))))
set_option maxRecDepth 100000 in
theorem gm_106 {L : Nat} {xs : Nat → Int32} {d : Nat} {Q : lf_Z → Prop} {s : lf_Z} (h : fm_106 Q s) : lf_M (px_ro L xs) (d + 6) 106 [.ref 0] s (lf_qv Q) := by
  unfold fm_106 at h
  show lf_E (px_ro L xs) (d + 6) 106 0 [(0, .ref 0)] [] s _
  refine lf_seg 2 (pc' := 4) (lv' := [(0, .ref 0)]) (st' := [.ref 15]) rfl ?_
  refine lf_getI 7 8 rfl rfl rfl rfl rfl rfl rfl ?_
  refine lf_seg 1 (pc' := 8) (lv' := [(0, .ref 0)]) (st' := [.int (Int32.ofInt 5), .int (Int32.ofInt (s.1 15 8))]) rfl ?_
  obtain ⟨o21, h⟩ := h
  refine lf_irem 9 rfl rfl o21 ⟨by decide, by decide⟩ (by decide) ?_
  refine lf_seg 2 (pc' := 11) (lv' := [(1, .int (Int32.ofInt ((s.1 15 8).tmod 5))), (0, .ref 0)]) (st' := [.int (Int32.ofInt ((s.1 15 8).tmod 5))]) rfl ?_
  obtain ⟨o22, h⟩ := h
  refine lf_if_ne 66 14 rfl rfl rfl o22 (fun c => ?_) (fun c => ?_)
  · have h := h.1 c
    refine lf_seg 2 (pc' := 68) (lv' := [(1, .int (Int32.ofInt ((s.1 15 8).tmod 5))), (0, .ref 0)]) (st' := [.int (Int32.ofInt 1), .int (Int32.ofInt ((s.1 15 8).tmod 5))]) rfl ?_
    refine lf_icmp_ne 149 71 rfl rfl rfl o22 ⟨by decide, by decide⟩ (fun c => ?_) (fun c => ?_)
    · have h := h.1 c
      refine lf_seg 2 (pc' := 153) (lv' := [(1, .int (Int32.ofInt ((s.1 15 8).tmod 5))), (0, .ref 0)]) (st' := [.ref 15]) rfl ?_
      refine lf_getI 156 7 rfl rfl rfl rfl rfl rfl rfl ?_
      refine lf_sipush 159 999 rfl rfl (by decide) (by decide) ?_
      obtain ⟨o23, h⟩ := h
      refine lf_icmp_ge 169 162 rfl rfl rfl o23 ⟨by decide, by decide⟩ (fun c => ?_) (fun c => ?_)
      · have h := h.1 c
        exact lf_retV rfl rfl h
      · have h := h.2 c
        refine lf_seg 2 (pc' := 166) (lv' := [(1, .int (Int32.ofInt ((s.1 15 8).tmod 5))), (0, .ref 0)]) (st' := [.ref 67]) rfl ?_
        refine lf_callV 169 rfl rfl rfl rfl (gm_72 h) (fun s24 h => ?_)
        exact lf_retV rfl rfl h
    · have h := h.2 c
      refine lf_seg 2 (pc' := 75) (lv' := [(1, .int (Int32.ofInt ((s.1 15 8).tmod 5))), (0, .ref 0)]) (st' := [.ref 1]) rfl ?_
      refine lf_getI 78 2 rfl rfl rfl rfl rfl rfl rfl ?_
      obtain ⟨o25, h⟩ := h
      refine lf_if_ne 85 81 rfl rfl rfl o25 (fun c => ?_) (fun c => ?_)
      · have h := h.1 c
        refine lf_seg 2 (pc' := 89) (lv' := [(1, .int (Int32.ofInt ((s.1 15 8).tmod 5))), (0, .ref 0)]) (st' := [.ref 15]) rfl ?_
        refine lf_getI 92 8 rfl rfl rfl rfl rfl rfl rfl ?_
        refine lf_seg 2 (pc' := 96) (lv' := [(1, .int (Int32.ofInt ((s.1 15 8).tmod 5))), (0, .ref 0)]) (st' := [.ref 1, .int (Int32.ofInt (s.1 15 8))]) rfl ?_
        refine lf_getI 99 2 rfl rfl rfl rfl rfl rfl rfl ?_
        obtain ⟨o26, h⟩ := h
        refine lf_irem 100 rfl rfl o21 o25 o26 ?_
        refine lf_sub (l := [(0, .ref 0)]) (lf_sb1 rfl lf_sb0) ?_
        exact gm_106_p100 h
      · have h := h.2 c
        refine lf_seg 2 (pc' := 100) (lv' := [(1, .int (Int32.ofInt ((s.1 15 8).tmod 5))), (0, .ref 0)]) (st' := [.int (Int32.ofInt (-1))]) rfl ?_
        refine lf_sub (l := [(0, .ref 0)]) (lf_sb1 rfl lf_sb0) ?_
        exact gm_106_p100 h
  · have h := h.2 c
    refine lf_seg 2 (pc' := 18) (lv' := [(1, .int (Int32.ofInt ((s.1 15 8).tmod 5))), (0, .ref 0)]) (st' := [.ref 1]) rfl ?_
    refine lf_getI 21 1 rfl rfl rfl rfl rfl rfl rfl ?_
    obtain ⟨o33, h⟩ := h
    refine lf_if_ne 28 24 rfl rfl rfl o33 (fun c => ?_) (fun c => ?_)
    · have h := h.1 c
      refine lf_seg 2 (pc' := 32) (lv' := [(1, .int (Int32.ofInt ((s.1 15 8).tmod 5))), (0, .ref 0)]) (st' := [.ref 15]) rfl ?_
      refine lf_getI 35 8 rfl rfl rfl rfl rfl rfl rfl ?_
      refine lf_seg 2 (pc' := 39) (lv' := [(1, .int (Int32.ofInt ((s.1 15 8).tmod 5))), (0, .ref 0)]) (st' := [.ref 1, .int (Int32.ofInt (s.1 15 8))]) rfl ?_
      refine lf_getI 42 1 rfl rfl rfl rfl rfl rfl rfl ?_
      obtain ⟨o34, h⟩ := h
      refine lf_irem 43 rfl rfl o21 o33 o34 ?_
      refine lf_sub (l := [(0, .ref 0)]) (lf_sb1 rfl lf_sb0) ?_
      exact gm_106_p43 h
    · have h := h.2 c
      refine lf_seg 2 (pc' := 43) (lv' := [(1, .int (Int32.ofInt ((s.1 15 8).tmod 5))), (0, .ref 0)]) (st' := [.int (Int32.ofInt (-1))]) rfl ?_
      refine lf_sub (l := [(0, .ref 0)]) (lf_sb1 rfl lf_sb0) ?_
      exact gm_106_p43 h
-- fm_105 ElevenBullocks.day 0 i i
def fm_105_p66 (Q : Int → lf_Z → Prop) (x2 : Int) (X66 : Int → lf_Z → Prop) (x3 : Int) (s : lf_Z) : Prop := lf_R x3 ∧ (lf_R x2 ∧ ((x2 ≤ x3 → (fm_97 (fun r30 s29 => (Q r30 s29)) s)) ∧ (¬ (x2 ≤ x3) → (fm_106 (fun s31 => (fm_94 (fun s32 => (X66 (x3 + 1) s32)) s31)) s))))
def fm_105_p66L (Q : Int → lf_Z → Prop) (x2 : Int) (x3 : Int) (s : lf_Z) : Prop := ∀ X66 : Int → lf_Z → Prop, (∀ (x3 : Int) (s : lf_Z), fm_105_p66 Q x2 X66 x3 s → X66 x3 s) → X66 x3 s
set_option maxRecDepth 100000 in
theorem gm_105_p66 {L : Nat} {xs : Nat → Int32} {d : Nat} {Q : Int → lf_Z → Prop} {x2 : Int} {x3 : Int} {s : lf_Z} {X66 : Int → lf_Z → Prop} (hX66 : ∀ x3 s, X66 x3 s → lf_E (px_ro L xs) (d + 7) 105 66 [(0, .ref 0), (2, .int (Int32.ofInt x2)), (3, .int (Int32.ofInt x3))] [] s (lf_qi Q)) (h : fm_105_p66 Q x2 X66 x3 s) : lf_E (px_ro L xs) (d + 7) 105 66 [(0, .ref 0), (2, .int (Int32.ofInt x2)), (3, .int (Int32.ofInt x3))] [] s (lf_qi Q) := by
  unfold fm_105_p66 at h
  refine lf_seg 2 (pc' := 68) (lv' := [(0, .ref 0), (2, .int (Int32.ofInt x2)), (3, .int (Int32.ofInt x3))]) (st' := [.int (Int32.ofInt x2), .int (Int32.ofInt x3)]) rfl ?_
  obtain ⟨o27, h⟩ := h
  obtain ⟨o28, h⟩ := h
  refine lf_icmp_ge 88 71 rfl rfl rfl o27 o28 (fun c => ?_) (fun c => ?_)
  · have h := h.1 c
    refine lf_seg 2 (pc' := 92) (lv' := [(0, .ref 0), (2, .int (Int32.ofInt x2)), (3, .int (Int32.ofInt x3))]) (st' := [.ref 15]) rfl ?_
    refine lf_callI 95 rfl rfl rfl rfl (gm_97 h) (fun r30 s29 h => ?_)
    exact lf_retI rfl rfl h
  · have h := h.2 c
    refine lf_seg 1 (pc' := 72) (lv' := [(0, .ref 0), (2, .int (Int32.ofInt x2)), (3, .int (Int32.ofInt x3))]) (st' := [.ref 0]) rfl ?_
    refine lf_callV 75 rfl rfl rfl rfl (gm_106 h) (fun s31 h => ?_)
    refine lf_seg 2 (pc' := 79) (lv' := [(0, .ref 0), (2, .int (Int32.ofInt x2)), (3, .int (Int32.ofInt x3))]) (st' := [.ref 15]) rfl ?_
    refine lf_callV 82 rfl rfl rfl rfl (gm_94 h) (fun s32 h => ?_)
    refine lf_iinc 85 rfl rfl rfl rfl ?_
    refine lf_seg 1 (pc' := 66) (lv' := [(3, .int (Int32.ofInt (x3 + 1))), (0, .ref 0), (2, .int (Int32.ofInt x2))]) (st' := []) rfl ?_
    refine lf_sub (l := [(0, .ref 0), (2, .int (Int32.ofInt x2)), (3, .int (Int32.ofInt (x3 + 1)))]) (lf_sb1 rfl (lf_sb1 rfl (lf_sb1 rfl lf_sb0))) ?_
    exact hX66 _ _ h
theorem gm_105_p66L {L : Nat} {xs : Nat → Int32} {d : Nat} {Q : Int → lf_Z → Prop} {x2 : Int} {x3 : Int} {s : lf_Z} (h : fm_105_p66L Q x2 x3 s) : lf_E (px_ro L xs) (d + 7) 105 66 [(0, .ref 0), (2, .int (Int32.ofInt x2)), (3, .int (Int32.ofInt x3))] [] s (lf_qi Q) :=
  h (fun x3 s => lf_E (px_ro L xs) (d + 7) 105 66 [(0, .ref 0), (2, .int (Int32.ofInt x2)), (3, .int (Int32.ofInt x3))] [] s (lf_qi Q)) (fun x3 s hb => gm_105_p66 (fun _ _ h => h) hb)
def fm_105 (a1 : Int) (a2 : Int) (Q : Int → lf_Z → Prop) (s : lf_Z) : Prop := fm_15 a1 0 9999 (fun z22 s21 => ((z22 = false → (Q (-1) s21)) ∧ (z22 = true → (fm_15 a2 1 30 (fun z24 s23 => ((z24 = false → (Q (-1) s23)) ∧ (z24 = true → (lf_R (s23.1 1 1) ∧ ((s23.1 1 1 ≠ 0 → (fm_67 (s23.1 1 2) (fun s26 => (fm_105_p66L Q a2 0 (lf_up s26.1 15 8 ((a1 * 3) + 41), s26.2.1, s26.2.2))) s23)) ∧ (¬ (s23.1 1 1 ≠ 0) → (Q (-1) s23))))))) s21)))) s
set_option maxRecDepth 100000 in
theorem gm_105 {L : Nat} {xs : Nat → Int32} {d : Nat} {a1 : Int} {a2 : Int} {Q : Int → lf_Z → Prop} {s : lf_Z} (h : fm_105 a1 a2 Q s) : lf_M (px_ro L xs) (d + 7) 105 [.ref 0, .int (Int32.ofInt a1), .int (Int32.ofInt a2)] s (lf_qi Q) := by
  unfold fm_105 at h
  show lf_E (px_ro L xs) (d + 7) 105 0 [(0, .ref 0), (1, .int (Int32.ofInt a1)), (2, .int (Int32.ofInt a2))] [] s _
  refine lf_seg 2 (pc' := 2) (lv' := [(0, .ref 0), (1, .int (Int32.ofInt a1)), (2, .int (Int32.ofInt a2))]) (st' := [.int (Int32.ofInt 0), .int (Int32.ofInt a1)]) rfl ?_
  refine lf_sipush 5 9999 rfl rfl (by decide) (by decide) ?_
  refine lf_callZ 8 rfl rfl rfl rfl (gm_15 h) (fun z22 s21 h => ?_)
  refine lf_ifz_eq 31 11 rfl rfl rfl (fun c => ?_) (fun c => ?_)
  · have h := h.1 c
    refine lf_seg 1 (pc' := 32) (lv' := [(0, .ref 0), (1, .int (Int32.ofInt a1)), (2, .int (Int32.ofInt a2))]) (st' := [.int (Int32.ofInt (-1))]) rfl ?_
    exact lf_retI rfl rfl h
  · have h := h.2 c
    refine lf_seg 2 (pc' := 13) (lv' := [(0, .ref 0), (1, .int (Int32.ofInt a1)), (2, .int (Int32.ofInt a2))]) (st' := [.int (Int32.ofInt 1), .int (Int32.ofInt a2)]) rfl ?_
    refine lf_bipush 15 30 rfl rfl (by decide) (by decide) ?_
    refine lf_callZ 18 rfl rfl rfl rfl (gm_15 h) (fun z24 s23 h => ?_)
    refine lf_ifz_eq 31 21 rfl rfl rfl (fun c => ?_) (fun c => ?_)
    · have h := h.1 c
      refine lf_seg 1 (pc' := 32) (lv' := [(0, .ref 0), (1, .int (Int32.ofInt a1)), (2, .int (Int32.ofInt a2))]) (st' := [.int (Int32.ofInt (-1))]) rfl ?_
      exact lf_retI rfl rfl h
    · have h := h.2 c
      refine lf_seg 2 (pc' := 25) (lv' := [(0, .ref 0), (1, .int (Int32.ofInt a1)), (2, .int (Int32.ofInt a2))]) (st' := [.ref 1]) rfl ?_
      refine lf_getI 28 1 rfl rfl rfl rfl rfl rfl rfl ?_
      obtain ⟨o25, h⟩ := h
      refine lf_if_ne 33 31 rfl rfl rfl o25 (fun c => ?_) (fun c => ?_)
      · have h := h.1 c
        refine lf_seg 6 (pc' := 45) (lv' := [(0, .ref 0), (1, .int (Int32.ofInt a1)), (2, .int (Int32.ofInt a2))]) (st' := [.ref 1, .ref 15, .ref 22]) rfl ?_
        refine lf_getI 48 2 rfl rfl rfl rfl rfl rfl rfl ?_
        refine lf_callV 51 rfl rfl rfl rfl (gm_67 h) (fun s26 h => ?_)
        refine lf_seg 4 (pc' := 57) (lv' := [(0, .ref 0), (1, .int (Int32.ofInt a1)), (2, .int (Int32.ofInt a2))]) (st' := [.int (Int32.ofInt 3), .int (Int32.ofInt a1), .ref 15]) rfl ?_
        refine lf_imul 58 rfl rfl ?_
        refine lf_bipush 60 41 rfl rfl (by decide) (by decide) ?_
        refine lf_iadd 61 rfl rfl ?_
        refine lf_putI 64 8 rfl rfl rfl rfl rfl rfl rfl rfl ?_
        refine lf_as (lf_up s26.1 15 8 ((a1 * 3) + 41), s26.2.1, s26.2.2) rfl ?_
        refine lf_seg 2 (pc' := 66) (lv' := [(3, .int (Int32.ofInt 0)), (0, .ref 0), (1, .int (Int32.ofInt a1)), (2, .int (Int32.ofInt a2))]) (st' := []) rfl ?_
        refine lf_sub (l := [(0, .ref 0), (2, .int (Int32.ofInt a2)), (3, .int (Int32.ofInt 0))]) (lf_sb1 rfl (lf_sb1 rfl (lf_sb1 rfl lf_sb0))) ?_
        exact gm_105_p66L h
      · have h := h.2 c
        refine lf_seg 1 (pc' := 32) (lv' := [(0, .ref 0), (1, .int (Int32.ofInt a1)), (2, .int (Int32.ofInt a2))]) (st' := [.int (Int32.ofInt (-1))]) rfl ?_
        exact lf_retI rfl rfl h
