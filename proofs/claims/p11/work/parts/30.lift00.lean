-- fm_15 ElevenBullocks.within i i i
def fm_15 (a0 : Int) (a1 : Int) (a2 : Int) (Q : Bool → lf_Z → Prop) (s : lf_Z) : Prop := lf_R a0 ∧ (lf_R a1 ∧ ((a0 < a1 → (Q false s)) ∧ (¬ (a0 < a1) → (lf_R a2 ∧ ((a2 < a0 → (Q false s)) ∧ (¬ (a2 < a0) → (Q true s)))))))
set_option maxRecDepth 100000 in
theorem gm_15 {L : Nat} {xs : Nat → Int32} {d : Nat} {a0 : Int} {a1 : Int} {a2 : Int} {Q : Bool → lf_Z → Prop} {s : lf_Z} (h : fm_15 a0 a1 a2 Q s) : lf_M (px_ro L xs) (d + 1) 15 [.int (Int32.ofInt a0), .int (Int32.ofInt a1), .int (Int32.ofInt a2)] s (lf_qz Q) := by
  unfold fm_15 at h
  show lf_E (px_ro L xs) (d + 1) 15 0 [(0, .int (Int32.ofInt a0)), (1, .int (Int32.ofInt a1)), (2, .int (Int32.ofInt a2))] [] s _
  refine lf_seg 2 (pc' := 2) (lv' := [(0, .int (Int32.ofInt a0)), (1, .int (Int32.ofInt a1)), (2, .int (Int32.ofInt a2))]) (st' := [.int (Int32.ofInt a1), .int (Int32.ofInt a0)]) rfl ?_
  obtain ⟨o21, h⟩ := h
  obtain ⟨o22, h⟩ := h
  refine lf_icmp_lt 14 5 rfl rfl rfl o21 o22 (fun c => ?_) (fun c => ?_)
  · have h := h.1 c
    refine lf_seg 1 (pc' := 15) (lv' := [(0, .int (Int32.ofInt a0)), (1, .int (Int32.ofInt a1)), (2, .int (Int32.ofInt a2))]) (st' := [.int (Int32.ofInt 0)]) rfl ?_
    exact lf_retZ false rfl rfl h
  · have h := h.2 c
    refine lf_seg 2 (pc' := 7) (lv' := [(0, .int (Int32.ofInt a0)), (1, .int (Int32.ofInt a1)), (2, .int (Int32.ofInt a2))]) (st' := [.int (Int32.ofInt a2), .int (Int32.ofInt a0)]) rfl ?_
    obtain ⟨o23, h⟩ := h
    refine lf_icmp_gt 14 10 rfl rfl rfl o21 o23 (fun c => ?_) (fun c => ?_)
    · have h := h.1 c
      refine lf_seg 1 (pc' := 15) (lv' := [(0, .int (Int32.ofInt a0)), (1, .int (Int32.ofInt a1)), (2, .int (Int32.ofInt a2))]) (st' := [.int (Int32.ofInt 0)]) rfl ?_
      exact lf_retZ false rfl rfl h
    · have h := h.2 c
      refine lf_seg 2 (pc' := 15) (lv' := [(0, .int (Int32.ofInt a0)), (1, .int (Int32.ofInt a1)), (2, .int (Int32.ofInt a2))]) (st' := [.int (Int32.ofInt 1)]) rfl ?_
      exact lf_retZ true rfl rfl h
-- fm_16 Land.addStretch 1 i i
def fm_16 (a1 : Int) (a2 : Int) (Q : Int → lf_Z → Prop) (s : lf_Z) : Prop := lf_R (s.1 1 0) ∧ ((s.1 1 0 < 12 → ((0 ≤ s.1 1 0 ∧ s.1 1 0 < 12) ∧ (Q (((s.1 1 0) + 1) - 1) (lf_up (lf_up (lf_up s.1 2 (s.1 1 0) a1) 3 (s.1 1 0) a2) 1 0 ((s.1 1 0) + 1), s.2.1, s.2.2)))) ∧ (¬ (s.1 1 0 < 12) → (Q (-1) s)))
set_option maxRecDepth 100000 in
theorem gm_16 {L : Nat} {xs : Nat → Int32} {d : Nat} {a1 : Int} {a2 : Int} {Q : Int → lf_Z → Prop} {s : lf_Z} (h : fm_16 a1 a2 Q s) : lf_M (px_ro L xs) (d + 1) 16 [.ref 1, .int (Int32.ofInt a1), .int (Int32.ofInt a2)] s (lf_qi Q) := by
  unfold fm_16 at h
  show lf_E (px_ro L xs) (d + 1) 16 0 [(0, .ref 1), (1, .int (Int32.ofInt a1)), (2, .int (Int32.ofInt a2))] [] s _
  refine lf_seg 1 (pc' := 1) (lv' := [(0, .ref 1), (1, .int (Int32.ofInt a1)), (2, .int (Int32.ofInt a2))]) (st' := [.ref 1]) rfl ?_
  refine lf_getI 4 0 rfl rfl rfl rfl rfl rfl rfl ?_
  refine lf_bipush 6 12 rfl rfl (by decide) (by decide) ?_
  obtain ⟨o21, h⟩ := h
  refine lf_icmp_lt 11 9 rfl rfl rfl o21 ⟨by decide, by decide⟩ (fun c => ?_) (fun c => ?_)
  · have h := h.1 c
    refine lf_seg 3 (pc' := 16) (lv' := [(0, .ref 1), (1, .int (Int32.ofInt a1)), (2, .int (Int32.ofInt a2))]) (st' := [.ref 1, .ref 2]) rfl ?_
    refine lf_getI 19 0 rfl rfl rfl rfl rfl rfl rfl ?_
    refine lf_seg 1 (pc' := 20) (lv' := [(0, .ref 1), (1, .int (Int32.ofInt a1)), (2, .int (Int32.ofInt a2))]) (st' := [.int (Int32.ofInt a1), .int (Int32.ofInt (s.1 1 0)), .ref 2]) rfl ?_
    obtain ⟨o22, h⟩ := h
    refine lf_iast 21 12 rfl rfl rfl rfl rfl rfl o22 ?_
    refine lf_as (lf_up s.1 2 (s.1 1 0) a1, s.2.1, s.2.2) rfl ?_
    refine lf_seg 3 (pc' := 26) (lv' := [(0, .ref 1), (1, .int (Int32.ofInt a1)), (2, .int (Int32.ofInt a2))]) (st' := [.ref 1, .ref 3]) rfl ?_
    refine lf_getI 29 0 rfl rfl rfl rfl rfl rfl rfl ?_
    refine lf_seg 1 (pc' := 30) (lv' := [(0, .ref 1), (1, .int (Int32.ofInt a1)), (2, .int (Int32.ofInt a2))]) (st' := [.int (Int32.ofInt a2), .int (Int32.ofInt (s.1 1 0)), .ref 3]) rfl ?_
    refine lf_iast 31 12 rfl rfl rfl rfl rfl rfl o22 ?_
    refine lf_as (lf_up (lf_up s.1 2 (s.1 1 0) a1) 3 (s.1 1 0) a2, s.2.1, s.2.2) rfl ?_
    refine lf_seg 2 (pc' := 33) (lv' := [(0, .ref 1), (1, .int (Int32.ofInt a1)), (2, .int (Int32.ofInt a2))]) (st' := [.ref 1, .ref 1]) rfl ?_
    refine lf_getI 36 0 rfl rfl rfl rfl rfl rfl rfl ?_
    refine lf_seg 1 (pc' := 37) (lv' := [(0, .ref 1), (1, .int (Int32.ofInt a1)), (2, .int (Int32.ofInt a2))]) (st' := [.int (Int32.ofInt 1), .int (Int32.ofInt (s.1 1 0)), .ref 1]) rfl ?_
    refine lf_iadd 38 rfl rfl ?_
    refine lf_putI 41 0 rfl rfl rfl rfl rfl rfl rfl rfl ?_
    refine lf_as (lf_up (lf_up (lf_up s.1 2 (s.1 1 0) a1) 3 (s.1 1 0) a2) 1 0 ((s.1 1 0) + 1), s.2.1, s.2.2) rfl ?_
    refine lf_seg 1 (pc' := 42) (lv' := [(0, .ref 1), (1, .int (Int32.ofInt a1)), (2, .int (Int32.ofInt a2))]) (st' := [.ref 1]) rfl ?_
    refine lf_getI 45 0 rfl rfl rfl rfl rfl rfl rfl ?_
    refine lf_seg 1 (pc' := 46) (lv' := [(0, .ref 1), (1, .int (Int32.ofInt a1)), (2, .int (Int32.ofInt a2))]) (st' := [.int (Int32.ofInt 1), .int (Int32.ofInt ((s.1 1 0) + 1))]) rfl ?_
    refine lf_isub 47 rfl rfl ?_
    exact lf_retI rfl rfl h
  · have h := h.2 c
    refine lf_seg 1 (pc' := 10) (lv' := [(0, .ref 1), (1, .int (Int32.ofInt a1)), (2, .int (Int32.ofInt a2))]) (st' := [.int (Int32.ofInt (-1))]) rfl ?_
    exact lf_retI rfl rfl h
-- fm_14 ElevenBullocks.stretch 0 i i
def fm_14 (a1 : Int) (a2 : Int) (Q : Int → lf_Z → Prop) (s : lf_Z) : Prop := fm_15 a1 0 3 (fun z22 s21 => ((z22 = false → (Q (-1) s21)) ∧ (z22 = true → (fm_15 a2 0 99 (fun z24 s23 => ((z24 = true → (fm_16 a1 a2 (fun r26 s25 => (Q r26 s25)) s23)) ∧ (z24 = false → (Q (-1) s23)))) s21)))) s
set_option maxRecDepth 100000 in
theorem gm_14 {L : Nat} {xs : Nat → Int32} {d : Nat} {a1 : Int} {a2 : Int} {Q : Int → lf_Z → Prop} {s : lf_Z} (h : fm_14 a1 a2 Q s) : lf_M (px_ro L xs) (d + 2) 14 [.ref 0, .int (Int32.ofInt a1), .int (Int32.ofInt a2)] s (lf_qi Q) := by
  unfold fm_14 at h
  show lf_E (px_ro L xs) (d + 2) 14 0 [(0, .ref 0), (1, .int (Int32.ofInt a1)), (2, .int (Int32.ofInt a2))] [] s _
  refine lf_seg 3 (pc' := 3) (lv' := [(0, .ref 0), (1, .int (Int32.ofInt a1)), (2, .int (Int32.ofInt a2))]) (st' := [.int (Int32.ofInt 3), .int (Int32.ofInt 0), .int (Int32.ofInt a1)]) rfl ?_
  refine lf_callZ 6 rfl rfl rfl rfl (gm_15 h) (fun z22 s21 h => ?_)
  refine lf_ifz_eq 19 9 rfl rfl rfl (fun c => ?_) (fun c => ?_)
  · have h := h.1 c
    refine lf_seg 1 (pc' := 20) (lv' := [(0, .ref 0), (1, .int (Int32.ofInt a1)), (2, .int (Int32.ofInt a2))]) (st' := [.int (Int32.ofInt (-1))]) rfl ?_
    exact lf_retI rfl rfl h
  · have h := h.2 c
    refine lf_seg 2 (pc' := 11) (lv' := [(0, .ref 0), (1, .int (Int32.ofInt a1)), (2, .int (Int32.ofInt a2))]) (st' := [.int (Int32.ofInt 0), .int (Int32.ofInt a2)]) rfl ?_
    refine lf_bipush 13 99 rfl rfl (by decide) (by decide) ?_
    refine lf_callZ 16 rfl rfl rfl rfl (gm_15 h) (fun z24 s23 h => ?_)
    refine lf_ifz_ne 21 19 rfl rfl rfl (fun c => ?_) (fun c => ?_)
    · have h := h.1 c
      refine lf_seg 4 (pc' := 27) (lv' := [(0, .ref 0), (1, .int (Int32.ofInt a1)), (2, .int (Int32.ofInt a2))]) (st' := [.int (Int32.ofInt a2), .int (Int32.ofInt a1), .ref 1]) rfl ?_
      refine lf_callI 30 rfl rfl rfl rfl (gm_16 h) (fun r26 s25 h => ?_)
      exact lf_retI rfl rfl h
    · have h := h.2 c
      refine lf_seg 1 (pc' := 20) (lv' := [(0, .ref 0), (1, .int (Int32.ofInt a1)), (2, .int (Int32.ofInt a2))]) (st' := [.int (Int32.ofInt (-1))]) rfl ?_
      exact lf_retI rfl rfl h
-- fm_183 Model.isIn i i i
def fm_183 (a0 : Int) (a1 : Int) (a2 : Int) (Q : Bool → lf_Z → Prop) (s : lf_Z) : Prop := lf_R a0 ∧ (lf_R a1 ∧ ((a0 < a1 → (Q false s)) ∧ (¬ (a0 < a1) → (lf_R a2 ∧ ((a2 < a0 → (Q false s)) ∧ (¬ (a2 < a0) → (Q true s)))))))
set_option maxRecDepth 100000 in
theorem gm_183 {L : Nat} {xs : Nat → Int32} {d : Nat} {a0 : Int} {a1 : Int} {a2 : Int} {Q : Bool → lf_Z → Prop} {s : lf_Z} (h : fm_183 a0 a1 a2 Q s) : lf_M (px_ro L xs) (d + 1) 183 [.int (Int32.ofInt a0), .int (Int32.ofInt a1), .int (Int32.ofInt a2)] s (lf_qz Q) := by
  unfold fm_183 at h
  show lf_E (px_ro L xs) (d + 1) 183 0 [(0, .int (Int32.ofInt a0)), (1, .int (Int32.ofInt a1)), (2, .int (Int32.ofInt a2))] [] s _
  refine lf_seg 2 (pc' := 2) (lv' := [(0, .int (Int32.ofInt a0)), (1, .int (Int32.ofInt a1)), (2, .int (Int32.ofInt a2))]) (st' := [.int (Int32.ofInt a1), .int (Int32.ofInt a0)]) rfl ?_
  obtain ⟨o21, h⟩ := h
  obtain ⟨o22, h⟩ := h
  refine lf_icmp_lt 14 5 rfl rfl rfl o21 o22 (fun c => ?_) (fun c => ?_)
  · have h := h.1 c
    refine lf_seg 1 (pc' := 15) (lv' := [(0, .int (Int32.ofInt a0)), (1, .int (Int32.ofInt a1)), (2, .int (Int32.ofInt a2))]) (st' := [.int (Int32.ofInt 0)]) rfl ?_
    exact lf_retZ false rfl rfl h
  · have h := h.2 c
    refine lf_seg 2 (pc' := 7) (lv' := [(0, .int (Int32.ofInt a0)), (1, .int (Int32.ofInt a1)), (2, .int (Int32.ofInt a2))]) (st' := [.int (Int32.ofInt a2), .int (Int32.ofInt a0)]) rfl ?_
    obtain ⟨o23, h⟩ := h
    refine lf_icmp_gt 14 10 rfl rfl rfl o21 o23 (fun c => ?_) (fun c => ?_)
    · have h := h.1 c
      refine lf_seg 1 (pc' := 15) (lv' := [(0, .int (Int32.ofInt a0)), (1, .int (Int32.ofInt a1)), (2, .int (Int32.ofInt a2))]) (st' := [.int (Int32.ofInt 0)]) rfl ?_
      exact lf_retZ false rfl rfl h
    · have h := h.2 c
      refine lf_seg 2 (pc' := 15) (lv' := [(0, .int (Int32.ofInt a0)), (1, .int (Int32.ofInt a1)), (2, .int (Int32.ofInt a2))]) (st' := [.int (Int32.ofInt 1)]) rfl ?_
      exact lf_retZ true rfl rfl h
-- fm_182 Model.stretch 95 i i
def fm_182 (a1 : Int) (a2 : Int) (Q : Int → lf_Z → Prop) (s : lf_Z) : Prop := fm_183 a1 0 3 (fun z22 s21 => ((z22 = false → (Q (-1) s21)) ∧ (z22 = true → (fm_183 a2 0 99 (fun z24 s23 => ((z24 = false → (Q (-1) s23)) ∧ (z24 = true → (lf_R (s23.1 96 0) ∧ ((s23.1 96 0 ≠ 12 → ((0 ≤ 14 + (3 * (s23.1 96 0)) ∧ 14 + (3 * (s23.1 96 0)) < 1538) ∧ ((0 ≤ (14 + (3 * (s23.1 96 0))) + 1 ∧ (14 + (3 * (s23.1 96 0))) + 1 < 1538) ∧ ((0 ≤ (14 + (3 * (s23.1 96 0))) + 2 ∧ (14 + (3 * (s23.1 96 0))) + 2 < 1538) ∧ (Q ((((lf_up (lf_up (lf_up s23.1 96 (14 + (3 * (s23.1 96 0))) a1) 96 ((14 + (3 * (s23.1 96 0))) + 1) a2) 96 ((14 + (3 * (s23.1 96 0))) + 2) 0) 96 0) + 1) - 1) (lf_up (lf_up (lf_up (lf_up s23.1 96 (14 + (3 * (s23.1 96 0))) a1) 96 ((14 + (3 * (s23.1 96 0))) + 1) a2) 96 ((14 + (3 * (s23.1 96 0))) + 2) 0) 96 0 (((lf_up (lf_up (lf_up s23.1 96 (14 + (3 * (s23.1 96 0))) a1) 96 ((14 + (3 * (s23.1 96 0))) + 1) a2) 96 ((14 + (3 * (s23.1 96 0))) + 2) 0) 96 0) + 1), s23.2.1, s23.2.2)))))) ∧ (¬ (s23.1 96 0 ≠ 12) → (Q (-1) s23))))))) s21)))) s
set_option maxRecDepth 100000 in
theorem gm_182 {L : Nat} {xs : Nat → Int32} {d : Nat} {a1 : Int} {a2 : Int} {Q : Int → lf_Z → Prop} {s : lf_Z} (h : fm_182 a1 a2 Q s) : lf_M (px_ro L xs) (d + 2) 182 [.ref 95, .int (Int32.ofInt a1), .int (Int32.ofInt a2)] s (lf_qi Q) := by
  unfold fm_182 at h
  show lf_E (px_ro L xs) (d + 2) 182 0 [(0, .ref 95), (1, .int (Int32.ofInt a1)), (2, .int (Int32.ofInt a2))] [] s _
  refine lf_seg 3 (pc' := 3) (lv' := [(0, .ref 95), (1, .int (Int32.ofInt a1)), (2, .int (Int32.ofInt a2))]) (st' := [.int (Int32.ofInt 3), .int (Int32.ofInt 0), .int (Int32.ofInt a1)]) rfl ?_
  refine lf_callZ 6 rfl rfl rfl rfl (gm_183 h) (fun z22 s21 h => ?_)
  refine lf_ifz_eq 30 9 rfl rfl rfl (fun c => ?_) (fun c => ?_)
  · have h := h.1 c
    refine lf_seg 1 (pc' := 31) (lv' := [(0, .ref 95), (1, .int (Int32.ofInt a1)), (2, .int (Int32.ofInt a2))]) (st' := [.int (Int32.ofInt (-1))]) rfl ?_
    exact lf_retI rfl rfl h
  · have h := h.2 c
    refine lf_seg 2 (pc' := 11) (lv' := [(0, .ref 95), (1, .int (Int32.ofInt a1)), (2, .int (Int32.ofInt a2))]) (st' := [.int (Int32.ofInt 0), .int (Int32.ofInt a2)]) rfl ?_
    refine lf_bipush 13 99 rfl rfl (by decide) (by decide) ?_
    refine lf_callZ 16 rfl rfl rfl rfl (gm_183 h) (fun z24 s23 h => ?_)
    refine lf_ifz_eq 30 19 rfl rfl rfl (fun c => ?_) (fun c => ?_)
    · have h := h.1 c
      refine lf_seg 1 (pc' := 31) (lv' := [(0, .ref 95), (1, .int (Int32.ofInt a1)), (2, .int (Int32.ofInt a2))]) (st' := [.int (Int32.ofInt (-1))]) rfl ?_
      exact lf_retI rfl rfl h
    · have h := h.2 c
      refine lf_seg 3 (pc' := 24) (lv' := [(0, .ref 95), (1, .int (Int32.ofInt a1)), (2, .int (Int32.ofInt a2))]) (st' := [.int (Int32.ofInt 0), .ref 96]) rfl ?_
      refine lf_iald 25 1538 rfl rfl rfl rfl rfl rfl ⟨by decide, by decide⟩ ?_
      refine lf_bipush 27 12 rfl rfl (by decide) (by decide) ?_
      obtain ⟨o25, h⟩ := h
      refine lf_icmp_ne 32 30 rfl rfl rfl o25 ⟨by decide, by decide⟩ (fun c => ?_) (fun c => ?_)
      · have h := h.1 c
        refine lf_bipush 34 14 rfl rfl (by decide) (by decide) ?_
        refine lf_seg 4 (pc' := 40) (lv' := [(0, .ref 95), (1, .int (Int32.ofInt a1)), (2, .int (Int32.ofInt a2))]) (st' := [.int (Int32.ofInt 0), .ref 96, .int (Int32.ofInt 3), .int (Int32.ofInt 14)]) rfl ?_
        refine lf_iald 41 1538 rfl rfl rfl rfl rfl rfl ⟨by decide, by decide⟩ ?_
        refine lf_imul 42 rfl rfl ?_
        refine lf_iadd 43 rfl rfl ?_
        refine lf_seg 5 (pc' := 50) (lv' := [(3, .int (Int32.ofInt (14 + (3 * (s23.1 96 0))))), (0, .ref 95), (1, .int (Int32.ofInt a1)), (2, .int (Int32.ofInt a2))]) (st' := [.int (Int32.ofInt a1), .int (Int32.ofInt (14 + (3 * (s23.1 96 0)))), .ref 96]) rfl ?_
        obtain ⟨o26, h⟩ := h
        refine lf_iast 51 1538 rfl rfl rfl rfl rfl rfl o26 ?_
        refine lf_as (lf_up s23.1 96 (14 + (3 * (s23.1 96 0))) a1, s23.2.1, s23.2.2) rfl ?_
        refine lf_seg 4 (pc' := 57) (lv' := [(3, .int (Int32.ofInt (14 + (3 * (s23.1 96 0))))), (0, .ref 95), (1, .int (Int32.ofInt a1)), (2, .int (Int32.ofInt a2))]) (st' := [.int (Int32.ofInt 1), .int (Int32.ofInt (14 + (3 * (s23.1 96 0)))), .ref 96]) rfl ?_
        refine lf_iadd 58 rfl rfl ?_
        refine lf_seg 1 (pc' := 59) (lv' := [(3, .int (Int32.ofInt (14 + (3 * (s23.1 96 0))))), (0, .ref 95), (1, .int (Int32.ofInt a1)), (2, .int (Int32.ofInt a2))]) (st' := [.int (Int32.ofInt a2), .int (Int32.ofInt ((14 + (3 * (s23.1 96 0))) + 1)), .ref 96]) rfl ?_
        obtain ⟨o27, h⟩ := h
        refine lf_iast 60 1538 rfl rfl rfl rfl rfl rfl o27 ?_
        refine lf_as (lf_up (lf_up s23.1 96 (14 + (3 * (s23.1 96 0))) a1) 96 ((14 + (3 * (s23.1 96 0))) + 1) a2, s23.2.1, s23.2.2) rfl ?_
        refine lf_seg 4 (pc' := 66) (lv' := [(3, .int (Int32.ofInt (14 + (3 * (s23.1 96 0))))), (0, .ref 95), (1, .int (Int32.ofInt a1)), (2, .int (Int32.ofInt a2))]) (st' := [.int (Int32.ofInt 2), .int (Int32.ofInt (14 + (3 * (s23.1 96 0)))), .ref 96]) rfl ?_
        refine lf_iadd 67 rfl rfl ?_
        refine lf_seg 1 (pc' := 68) (lv' := [(3, .int (Int32.ofInt (14 + (3 * (s23.1 96 0))))), (0, .ref 95), (1, .int (Int32.ofInt a1)), (2, .int (Int32.ofInt a2))]) (st' := [.int (Int32.ofInt 0), .int (Int32.ofInt ((14 + (3 * (s23.1 96 0))) + 2)), .ref 96]) rfl ?_
        obtain ⟨o28, h⟩ := h
        refine lf_iast 69 1538 rfl rfl rfl rfl rfl rfl o28 ?_
        refine lf_as (lf_up (lf_up (lf_up s23.1 96 (14 + (3 * (s23.1 96 0))) a1) 96 ((14 + (3 * (s23.1 96 0))) + 1) a2) 96 ((14 + (3 * (s23.1 96 0))) + 2) 0, s23.2.1, s23.2.2) rfl ?_
        refine lf_seg 4 (pc' := 75) (lv' := [(3, .int (Int32.ofInt (14 + (3 * (s23.1 96 0))))), (0, .ref 95), (1, .int (Int32.ofInt a1)), (2, .int (Int32.ofInt a2))]) (st' := [.int (Int32.ofInt 0), .ref 96, .int (Int32.ofInt 0), .ref 96]) rfl ?_
        refine lf_iald 76 1538 rfl rfl rfl rfl rfl rfl ⟨by decide, by decide⟩ ?_
        refine lf_seg 1 (pc' := 77) (lv' := [(3, .int (Int32.ofInt (14 + (3 * (s23.1 96 0))))), (0, .ref 95), (1, .int (Int32.ofInt a1)), (2, .int (Int32.ofInt a2))]) (st' := [.int (Int32.ofInt 1), .int (Int32.ofInt ((lf_up (lf_up (lf_up s23.1 96 (14 + (3 * (s23.1 96 0))) a1) 96 ((14 + (3 * (s23.1 96 0))) + 1) a2) 96 ((14 + (3 * (s23.1 96 0))) + 2) 0) 96 0)), .int (Int32.ofInt 0), .ref 96]) rfl ?_
        refine lf_iadd 78 rfl rfl ?_
        refine lf_iast 79 1538 rfl rfl rfl rfl rfl rfl ⟨by decide, by decide⟩ ?_
        refine lf_as (lf_up (lf_up (lf_up (lf_up s23.1 96 (14 + (3 * (s23.1 96 0))) a1) 96 ((14 + (3 * (s23.1 96 0))) + 1) a2) 96 ((14 + (3 * (s23.1 96 0))) + 2) 0) 96 0 (((lf_up (lf_up (lf_up s23.1 96 (14 + (3 * (s23.1 96 0))) a1) 96 ((14 + (3 * (s23.1 96 0))) + 1) a2) 96 ((14 + (3 * (s23.1 96 0))) + 2) 0) 96 0) + 1), s23.2.1, s23.2.2) rfl ?_
        refine lf_seg 3 (pc' := 84) (lv' := [(3, .int (Int32.ofInt (14 + (3 * (s23.1 96 0))))), (0, .ref 95), (1, .int (Int32.ofInt a1)), (2, .int (Int32.ofInt a2))]) (st' := [.int (Int32.ofInt 0), .ref 96]) rfl ?_
        refine lf_iald 85 1538 rfl rfl rfl rfl rfl rfl ⟨by decide, by decide⟩ ?_
        refine lf_seg 1 (pc' := 86) (lv' := [(3, .int (Int32.ofInt (14 + (3 * (s23.1 96 0))))), (0, .ref 95), (1, .int (Int32.ofInt a1)), (2, .int (Int32.ofInt a2))]) (st' := [.int (Int32.ofInt 1), .int (Int32.ofInt (((lf_up (lf_up (lf_up s23.1 96 (14 + (3 * (s23.1 96 0))) a1) 96 ((14 + (3 * (s23.1 96 0))) + 1) a2) 96 ((14 + (3 * (s23.1 96 0))) + 2) 0) 96 0) + 1))]) rfl ?_
        refine lf_isub 87 rfl rfl ?_
        exact lf_retI rfl rfl h
      · have h := h.2 c
        refine lf_seg 1 (pc' := 31) (lv' := [(0, .ref 95), (1, .int (Int32.ofInt a1)), (2, .int (Int32.ofInt a2))]) (st' := [.int (Int32.ofInt (-1))]) rfl ?_
        exact lf_retI rfl rfl h
-- fm_18 Land.hasStretch 1 i
def fm_18 (a1 : Int) (Q : Bool → lf_Z → Prop) (s : lf_Z) : Prop := lf_R a1 ∧ ((a1 < 0 → (Q false s)) ∧ (¬ (a1 < 0) → (lf_R (s.1 1 0) ∧ ((s.1 1 0 ≤ a1 → (Q false s)) ∧ (¬ (s.1 1 0 ≤ a1) → (Q true s))))))
set_option maxRecDepth 100000 in
theorem gm_18 {L : Nat} {xs : Nat → Int32} {d : Nat} {a1 : Int} {Q : Bool → lf_Z → Prop} {s : lf_Z} (h : fm_18 a1 Q s) : lf_M (px_ro L xs) (d + 1) 18 [.ref 1, .int (Int32.ofInt a1)] s (lf_qz Q) := by
  unfold fm_18 at h
  show lf_E (px_ro L xs) (d + 1) 18 0 [(0, .ref 1), (1, .int (Int32.ofInt a1))] [] s _
  refine lf_seg 1 (pc' := 1) (lv' := [(0, .ref 1), (1, .int (Int32.ofInt a1))]) (st' := [.int (Int32.ofInt a1)]) rfl ?_
  obtain ⟨o21, h⟩ := h
  refine lf_if_lt 16 4 rfl rfl rfl o21 (fun c => ?_) (fun c => ?_)
  · have h := h.1 c
    refine lf_seg 1 (pc' := 17) (lv' := [(0, .ref 1), (1, .int (Int32.ofInt a1))]) (st' := [.int (Int32.ofInt 0)]) rfl ?_
    exact lf_retZ false rfl rfl h
  · have h := h.2 c
    refine lf_seg 2 (pc' := 6) (lv' := [(0, .ref 1), (1, .int (Int32.ofInt a1))]) (st' := [.ref 1, .int (Int32.ofInt a1)]) rfl ?_
    refine lf_getI 9 0 rfl rfl rfl rfl rfl rfl rfl ?_
    obtain ⟨o22, h⟩ := h
    refine lf_icmp_ge 16 12 rfl rfl rfl o21 o22 (fun c => ?_) (fun c => ?_)
    · have h := h.1 c
      refine lf_seg 1 (pc' := 17) (lv' := [(0, .ref 1), (1, .int (Int32.ofInt a1))]) (st' := [.int (Int32.ofInt 0)]) rfl ?_
      exact lf_retZ false rfl rfl h
    · have h := h.2 c
      refine lf_seg 2 (pc' := 17) (lv' := [(0, .ref 1), (1, .int (Int32.ofInt a1))]) (st' := [.int (Int32.ofInt 1)]) rfl ?_
      exact lf_retZ true rfl rfl h
-- fm_21 Land.noteWayAt 1 i i
def fm_21 (a1 : Int) (a2 : Int) (Q : lf_Z → Prop) (s : lf_Z) : Prop := (0 ≤ a1 ∧ a1 < 12) ∧ (lf_R (s.1 12 a1) ∧ ((4 ≤ s.1 12 a1 → (Q s)) ∧ (¬ (4 ≤ s.1 12 a1) → ((0 ≤ (a1 * 4) + (s.1 12 a1) ∧ (a1 * 4) + (s.1 12 a1) < 48) ∧ (Q (lf_up (lf_up s.1 11 ((a1 * 4) + (s.1 12 a1)) a2) 12 a1 ((s.1 12 a1) + 1), s.2.1, s.2.2))))))
set_option maxRecDepth 100000 in
theorem gm_21 {L : Nat} {xs : Nat → Int32} {d : Nat} {a1 : Int} {a2 : Int} {Q : lf_Z → Prop} {s : lf_Z} (h : fm_21 a1 a2 Q s) : lf_M (px_ro L xs) (d + 1) 21 [.ref 1, .int (Int32.ofInt a1), .int (Int32.ofInt a2)] s (lf_qv Q) := by
  unfold fm_21 at h
  show lf_E (px_ro L xs) (d + 1) 21 0 [(0, .ref 1), (1, .int (Int32.ofInt a1)), (2, .int (Int32.ofInt a2))] [] s _
  refine lf_seg 3 (pc' := 5) (lv' := [(0, .ref 1), (1, .int (Int32.ofInt a1)), (2, .int (Int32.ofInt a2))]) (st' := [.int (Int32.ofInt a1), .ref 12]) rfl ?_
  obtain ⟨o21, h⟩ := h
  refine lf_iald 6 12 rfl rfl rfl rfl rfl rfl o21 ?_
  refine lf_seg 1 (pc' := 7) (lv' := [(0, .ref 1), (1, .int (Int32.ofInt a1)), (2, .int (Int32.ofInt a2))]) (st' := [.int (Int32.ofInt 4), .int (Int32.ofInt (s.1 12 a1))]) rfl ?_
  obtain ⟨o22, h⟩ := h
  refine lf_icmp_ge 36 10 rfl rfl rfl o22 ⟨by decide, by decide⟩ (fun c => ?_) (fun c => ?_)
  · have h := h.1 c
    exact lf_retV rfl rfl h
  · have h := h.2 c
    refine lf_seg 4 (pc' := 16) (lv' := [(0, .ref 1), (1, .int (Int32.ofInt a1)), (2, .int (Int32.ofInt a2))]) (st' := [.int (Int32.ofInt 4), .int (Int32.ofInt a1), .ref 11]) rfl ?_
    refine lf_imul 17 rfl rfl ?_
    refine lf_seg 3 (pc' := 22) (lv' := [(0, .ref 1), (1, .int (Int32.ofInt a1)), (2, .int (Int32.ofInt a2))]) (st' := [.int (Int32.ofInt a1), .ref 12, .int (Int32.ofInt (a1 * 4)), .ref 11]) rfl ?_
    refine lf_iald 23 12 rfl rfl rfl rfl rfl rfl o21 ?_
    refine lf_iadd 24 rfl rfl ?_
    refine lf_seg 1 (pc' := 25) (lv' := [(0, .ref 1), (1, .int (Int32.ofInt a1)), (2, .int (Int32.ofInt a2))]) (st' := [.int (Int32.ofInt a2), .int (Int32.ofInt ((a1 * 4) + (s.1 12 a1))), .ref 11]) rfl ?_
    obtain ⟨o23, h⟩ := h
    refine lf_iast 26 48 rfl rfl rfl rfl rfl rfl o23 ?_
    refine lf_as (lf_up s.1 11 ((a1 * 4) + (s.1 12 a1)) a2, s.2.1, s.2.2) rfl ?_
    refine lf_seg 4 (pc' := 32) (lv' := [(0, .ref 1), (1, .int (Int32.ofInt a1)), (2, .int (Int32.ofInt a2))]) (st' := [.int (Int32.ofInt a1), .ref 12, .int (Int32.ofInt a1), .ref 12]) rfl ?_
    refine lf_iald 33 12 rfl rfl rfl rfl rfl rfl o21 ?_
    refine lf_seg 1 (pc' := 34) (lv' := [(0, .ref 1), (1, .int (Int32.ofInt a1)), (2, .int (Int32.ofInt a2))]) (st' := [.int (Int32.ofInt 1), .int (Int32.ofInt (s.1 12 a1)), .int (Int32.ofInt a1), .ref 12]) rfl ?_
    refine lf_iadd 35 rfl rfl ?_
    refine lf_iast 36 12 rfl rfl rfl rfl rfl rfl o21 ?_
    refine lf_as (lf_up (lf_up s.1 11 ((a1 * 4) + (s.1 12 a1)) a2) 12 a1 ((s.1 12 a1) + 1), s.2.1, s.2.2) rfl ?_
    exact lf_retV rfl rfl h
-- fm_22 Land.bringNear 1 13 i i
def fm_22_p22 (X3 : Int → lf_Z → Prop) (Q : lf_Z → Prop) (x2 : Int) (x3 : Int) (x4 : Int) (x5 : Int) (X22 : Int → lf_Z → Prop) (x6 : Int) (s : lf_Z) : Prop := lf_R x6 ∧ (lf_R (s.1 1 0) ∧ ((s.1 1 0 ≤ x6 → (X3 (x4 + 1) s)) ∧ (¬ (s.1 1 0 ≤ x6) → ((0 ≤ x5 + x2 ∧ x5 + x2 < 144) ∧ ((0 ≤ (x3 * 12) + x6 ∧ (x3 * 12) + x6 < 144) ∧ ((0 ≤ x5 + x3 ∧ x5 + x3 < 144) ∧ ((0 ≤ (x2 * 12) + x6 ∧ (x2 * 12) + x6 < 144) ∧ ((0 ≤ x5 + x6 ∧ x5 + x6 < 144) ∧ (lf_R (((s.1 13 (x5 + x2)) + 1) + (s.1 13 ((x3 * 12) + x6))) ∧ (lf_R (((s.1 13 (x5 + x3)) + 1) + (s.1 13 ((x2 * 12) + x6))) ∧ (lf_R (s.1 13 (x5 + x6)) ∧ (lf_R (min (((s.1 13 (x5 + x2)) + 1) + (s.1 13 ((x3 * 12) + x6))) (((s.1 13 (x5 + x3)) + 1) + (s.1 13 ((x2 * 12) + x6)))) ∧ (X22 (x6 + 1) (lf_up s.1 13 (x5 + x6) (min (s.1 13 (x5 + x6)) (min (((s.1 13 (x5 + x2)) + 1) + (s.1 13 ((x3 * 12) + x6))) (((s.1 13 (x5 + x3)) + 1) + (s.1 13 ((x2 * 12) + x6))))), s.2.1, s.2.2))))))))))))))
def fm_22_p22L (X3 : Int → lf_Z → Prop) (Q : lf_Z → Prop) (x2 : Int) (x3 : Int) (x4 : Int) (x5 : Int) (x6 : Int) (s : lf_Z) : Prop := ∀ X22 : Int → lf_Z → Prop, (∀ (x6 : Int) (s : lf_Z), fm_22_p22 X3 Q x2 x3 x4 x5 X22 x6 s → X22 x6 s) → X22 x6 s
set_option maxRecDepth 100000 in
theorem gm_22_p22 {L : Nat} {xs : Nat → Int32} {d : Nat} {X3 : Int → lf_Z → Prop} {Q : lf_Z → Prop} {x2 : Int} {x3 : Int} {x4 : Int} {x5 : Int} {x6 : Int} {s : lf_Z} {X22 : Int → lf_Z → Prop} (hX3 : ∀ x4 s, X3 x4 s → lf_E (px_ro L xs) (d + 1) 22 3 [(0, .ref 1), (1, .ref 13), (2, .int (Int32.ofInt x2)), (3, .int (Int32.ofInt x3)), (4, .int (Int32.ofInt x4))] [] s (lf_qv Q)) (hX22 : ∀ x6 s, X22 x6 s → lf_E (px_ro L xs) (d + 1) 22 22 [(0, .ref 1), (1, .ref 13), (2, .int (Int32.ofInt x2)), (3, .int (Int32.ofInt x3)), (4, .int (Int32.ofInt x4)), (5, .int (Int32.ofInt x5)), (6, .int (Int32.ofInt x6))] [] s (lf_qv Q)) (h : fm_22_p22 X3 Q x2 x3 x4 x5 X22 x6 s) : lf_E (px_ro L xs) (d + 1) 22 22 [(0, .ref 1), (1, .ref 13), (2, .int (Int32.ofInt x2)), (3, .int (Int32.ofInt x3)), (4, .int (Int32.ofInt x4)), (5, .int (Int32.ofInt x5)), (6, .int (Int32.ofInt x6))] [] s (lf_qv Q) := by
  unfold fm_22_p22 at h
  refine lf_seg 2 (pc' := 25) (lv' := [(0, .ref 1), (1, .ref 13), (2, .int (Int32.ofInt x2)), (3, .int (Int32.ofInt x3)), (4, .int (Int32.ofInt x4)), (5, .int (Int32.ofInt x5)), (6, .int (Int32.ofInt x6))]) (st' := [.ref 1, .int (Int32.ofInt x6)]) rfl ?_
  refine lf_getI 28 0 rfl rfl rfl rfl rfl rfl rfl ?_
  obtain ⟨o23, h⟩ := h
  obtain ⟨o24, h⟩ := h
  refine lf_icmp_ge 101 31 rfl rfl rfl o23 o24 (fun c => ?_) (fun c => ?_)
  · have h := h.1 c
    refine lf_iinc 104 rfl rfl rfl rfl ?_
    refine lf_seg 1 (pc' := 3) (lv' := [(4, .int (Int32.ofInt (x4 + 1))), (0, .ref 1), (1, .ref 13), (2, .int (Int32.ofInt x2)), (3, .int (Int32.ofInt x3)), (5, .int (Int32.ofInt x5)), (6, .int (Int32.ofInt x6))]) (st' := []) rfl ?_
    refine lf_sub (l := [(0, .ref 1), (1, .ref 13), (2, .int (Int32.ofInt x2)), (3, .int (Int32.ofInt x3)), (4, .int (Int32.ofInt (x4 + 1)))]) (lf_sb1 rfl (lf_sb1 rfl (lf_sb1 rfl (lf_sb1 rfl (lf_sb1 rfl lf_sb0))))) ?_
    exact hX3 _ _ h
  · have h := h.2 c
    refine lf_seg 3 (pc' := 35) (lv' := [(0, .ref 1), (1, .ref 13), (2, .int (Int32.ofInt x2)), (3, .int (Int32.ofInt x3)), (4, .int (Int32.ofInt x4)), (5, .int (Int32.ofInt x5)), (6, .int (Int32.ofInt x6))]) (st' := [.int (Int32.ofInt x2), .int (Int32.ofInt x5), .ref 13]) rfl ?_
    refine lf_iadd 36 rfl rfl ?_
    obtain ⟨o25, h⟩ := h
    refine lf_iald 37 144 rfl rfl rfl rfl rfl rfl o25 ?_
    refine lf_seg 1 (pc' := 38) (lv' := [(0, .ref 1), (1, .ref 13), (2, .int (Int32.ofInt x2)), (3, .int (Int32.ofInt x3)), (4, .int (Int32.ofInt x4)), (5, .int (Int32.ofInt x5)), (6, .int (Int32.ofInt x6))]) (st' := [.int (Int32.ofInt 1), .int (Int32.ofInt (s.1 13 (x5 + x2)))]) rfl ?_
    refine lf_iadd 39 rfl rfl ?_
    refine lf_seg 2 (pc' := 41) (lv' := [(0, .ref 1), (1, .ref 13), (2, .int (Int32.ofInt x2)), (3, .int (Int32.ofInt x3)), (4, .int (Int32.ofInt x4)), (5, .int (Int32.ofInt x5)), (6, .int (Int32.ofInt x6))]) (st' := [.int (Int32.ofInt x3), .ref 13, .int (Int32.ofInt ((s.1 13 (x5 + x2)) + 1))]) rfl ?_
    refine lf_bipush 43 12 rfl rfl (by decide) (by decide) ?_
    refine lf_imul 44 rfl rfl ?_
    refine lf_seg 1 (pc' := 46) (lv' := [(0, .ref 1), (1, .ref 13), (2, .int (Int32.ofInt x2)), (3, .int (Int32.ofInt x3)), (4, .int (Int32.ofInt x4)), (5, .int (Int32.ofInt x5)), (6, .int (Int32.ofInt x6))]) (st' := [.int (Int32.ofInt x6), .int (Int32.ofInt (x3 * 12)), .ref 13, .int (Int32.ofInt ((s.1 13 (x5 + x2)) + 1))]) rfl ?_
    refine lf_iadd 47 rfl rfl ?_
    obtain ⟨o26, h⟩ := h
    refine lf_iald 48 144 rfl rfl rfl rfl rfl rfl o26 ?_
    refine lf_iadd 49 rfl rfl ?_
    refine lf_seg 4 (pc' := 55) (lv' := [(7, .int (Int32.ofInt (((s.1 13 (x5 + x2)) + 1) + (s.1 13 ((x3 * 12) + x6))))), (0, .ref 1), (1, .ref 13), (2, .int (Int32.ofInt x2)), (3, .int (Int32.ofInt x3)), (4, .int (Int32.ofInt x4)), (5, .int (Int32.ofInt x5)), (6, .int (Int32.ofInt x6))]) (st' := [.int (Int32.ofInt x3), .int (Int32.ofInt x5), .ref 13]) rfl ?_
    refine lf_iadd 56 rfl rfl ?_
    obtain ⟨o27, h⟩ := h
    refine lf_iald 57 144 rfl rfl rfl rfl rfl rfl o27 ?_
    refine lf_seg 1 (pc' := 58) (lv' := [(7, .int (Int32.ofInt (((s.1 13 (x5 + x2)) + 1) + (s.1 13 ((x3 * 12) + x6))))), (0, .ref 1), (1, .ref 13), (2, .int (Int32.ofInt x2)), (3, .int (Int32.ofInt x3)), (4, .int (Int32.ofInt x4)), (5, .int (Int32.ofInt x5)), (6, .int (Int32.ofInt x6))]) (st' := [.int (Int32.ofInt 1), .int (Int32.ofInt (s.1 13 (x5 + x3)))]) rfl ?_
    refine lf_iadd 59 rfl rfl ?_
    refine lf_seg 2 (pc' := 61) (lv' := [(7, .int (Int32.ofInt (((s.1 13 (x5 + x2)) + 1) + (s.1 13 ((x3 * 12) + x6))))), (0, .ref 1), (1, .ref 13), (2, .int (Int32.ofInt x2)), (3, .int (Int32.ofInt x3)), (4, .int (Int32.ofInt x4)), (5, .int (Int32.ofInt x5)), (6, .int (Int32.ofInt x6))]) (st' := [.int (Int32.ofInt x2), .ref 13, .int (Int32.ofInt ((s.1 13 (x5 + x3)) + 1))]) rfl ?_
    refine lf_bipush 63 12 rfl rfl (by decide) (by decide) ?_
    refine lf_imul 64 rfl rfl ?_
    refine lf_seg 1 (pc' := 66) (lv' := [(7, .int (Int32.ofInt (((s.1 13 (x5 + x2)) + 1) + (s.1 13 ((x3 * 12) + x6))))), (0, .ref 1), (1, .ref 13), (2, .int (Int32.ofInt x2)), (3, .int (Int32.ofInt x3)), (4, .int (Int32.ofInt x4)), (5, .int (Int32.ofInt x5)), (6, .int (Int32.ofInt x6))]) (st' := [.int (Int32.ofInt x6), .int (Int32.ofInt (x2 * 12)), .ref 13, .int (Int32.ofInt ((s.1 13 (x5 + x3)) + 1))]) rfl ?_
    refine lf_iadd 67 rfl rfl ?_
    obtain ⟨o28, h⟩ := h
    refine lf_iald 68 144 rfl rfl rfl rfl rfl rfl o28 ?_
    refine lf_iadd 69 rfl rfl ?_
    refine lf_seg 4 (pc' := 76) (lv' := [(8, .int (Int32.ofInt (((s.1 13 (x5 + x3)) + 1) + (s.1 13 ((x2 * 12) + x6))))), (7, .int (Int32.ofInt (((s.1 13 (x5 + x2)) + 1) + (s.1 13 ((x3 * 12) + x6))))), (0, .ref 1), (1, .ref 13), (2, .int (Int32.ofInt x2)), (3, .int (Int32.ofInt x3)), (4, .int (Int32.ofInt x4)), (5, .int (Int32.ofInt x5)), (6, .int (Int32.ofInt x6))]) (st' := [.int (Int32.ofInt x6), .int (Int32.ofInt x5), .ref 13]) rfl ?_
    refine lf_iadd 77 rfl rfl ?_
    refine lf_seg 3 (pc' := 82) (lv' := [(8, .int (Int32.ofInt (((s.1 13 (x5 + x3)) + 1) + (s.1 13 ((x2 * 12) + x6))))), (7, .int (Int32.ofInt (((s.1 13 (x5 + x2)) + 1) + (s.1 13 ((x3 * 12) + x6))))), (0, .ref 1), (1, .ref 13), (2, .int (Int32.ofInt x2)), (3, .int (Int32.ofInt x3)), (4, .int (Int32.ofInt x4)), (5, .int (Int32.ofInt x5)), (6, .int (Int32.ofInt x6))]) (st' := [.int (Int32.ofInt x6), .int (Int32.ofInt x5), .ref 13, .int (Int32.ofInt (x5 + x6)), .ref 13]) rfl ?_
    refine lf_iadd 83 rfl rfl ?_
    obtain ⟨o29, h⟩ := h
    refine lf_iald 84 144 rfl rfl rfl rfl rfl rfl o29 ?_
    refine lf_seg 2 (pc' := 88) (lv' := [(8, .int (Int32.ofInt (((s.1 13 (x5 + x3)) + 1) + (s.1 13 ((x2 * 12) + x6))))), (7, .int (Int32.ofInt (((s.1 13 (x5 + x2)) + 1) + (s.1 13 ((x3 * 12) + x6))))), (0, .ref 1), (1, .ref 13), (2, .int (Int32.ofInt x2)), (3, .int (Int32.ofInt x3)), (4, .int (Int32.ofInt x4)), (5, .int (Int32.ofInt x5)), (6, .int (Int32.ofInt x6))]) (st' := [.int (Int32.ofInt (((s.1 13 (x5 + x3)) + 1) + (s.1 13 ((x2 * 12) + x6)))), .int (Int32.ofInt (((s.1 13 (x5 + x2)) + 1) + (s.1 13 ((x3 * 12) + x6)))), .int (Int32.ofInt (s.1 13 (x5 + x6))), .int (Int32.ofInt (x5 + x6)), .ref 13]) rfl ?_
    obtain ⟨o30, h⟩ := h
    obtain ⟨o31, h⟩ := h
    refine lf_imin 91 rfl rfl rfl rfl o30 o31 ?_
    obtain ⟨o32, h⟩ := h
    obtain ⟨o33, h⟩ := h
    refine lf_imin 94 rfl rfl rfl rfl o32 o33 ?_
    refine lf_iast 95 144 rfl rfl rfl rfl rfl rfl o29 ?_
    refine lf_as (lf_up s.1 13 (x5 + x6) (min (s.1 13 (x5 + x6)) (min (((s.1 13 (x5 + x2)) + 1) + (s.1 13 ((x3 * 12) + x6))) (((s.1 13 (x5 + x3)) + 1) + (s.1 13 ((x2 * 12) + x6))))), s.2.1, s.2.2) rfl ?_
    refine lf_iinc 98 rfl rfl rfl rfl ?_
    refine lf_seg 1 (pc' := 22) (lv' := [(6, .int (Int32.ofInt (x6 + 1))), (8, .int (Int32.ofInt (((s.1 13 (x5 + x3)) + 1) + (s.1 13 ((x2 * 12) + x6))))), (7, .int (Int32.ofInt (((s.1 13 (x5 + x2)) + 1) + (s.1 13 ((x3 * 12) + x6))))), (0, .ref 1), (1, .ref 13), (2, .int (Int32.ofInt x2)), (3, .int (Int32.ofInt x3)), (4, .int (Int32.ofInt x4)), (5, .int (Int32.ofInt x5))]) (st' := []) rfl ?_
    refine lf_sub (l := [(0, .ref 1), (1, .ref 13), (2, .int (Int32.ofInt x2)), (3, .int (Int32.ofInt x3)), (4, .int (Int32.ofInt x4)), (5, .int (Int32.ofInt x5)), (6, .int (Int32.ofInt (x6 + 1)))]) (lf_sb1 rfl (lf_sb1 rfl (lf_sb1 rfl (lf_sb1 rfl (lf_sb1 rfl (lf_sb1 rfl (lf_sb1 rfl lf_sb0))))))) ?_
    exact hX22 _ _ h
theorem gm_22_p22L {L : Nat} {xs : Nat → Int32} {d : Nat} {X3 : Int → lf_Z → Prop} {Q : lf_Z → Prop} {x2 : Int} {x3 : Int} {x4 : Int} {x5 : Int} {x6 : Int} {s : lf_Z} (hX3 : ∀ x4 s, X3 x4 s → lf_E (px_ro L xs) (d + 1) 22 3 [(0, .ref 1), (1, .ref 13), (2, .int (Int32.ofInt x2)), (3, .int (Int32.ofInt x3)), (4, .int (Int32.ofInt x4))] [] s (lf_qv Q)) (h : fm_22_p22L X3 Q x2 x3 x4 x5 x6 s) : lf_E (px_ro L xs) (d + 1) 22 22 [(0, .ref 1), (1, .ref 13), (2, .int (Int32.ofInt x2)), (3, .int (Int32.ofInt x3)), (4, .int (Int32.ofInt x4)), (5, .int (Int32.ofInt x5)), (6, .int (Int32.ofInt x6))] [] s (lf_qv Q) :=
  h (fun x6 s => lf_E (px_ro L xs) (d + 1) 22 22 [(0, .ref 1), (1, .ref 13), (2, .int (Int32.ofInt x2)), (3, .int (Int32.ofInt x3)), (4, .int (Int32.ofInt x4)), (5, .int (Int32.ofInt x5)), (6, .int (Int32.ofInt x6))] [] s (lf_qv Q)) (fun x6 s hb => gm_22_p22 hX3 (fun _ _ h => h) hb)
def fm_22_p3 (Q : lf_Z → Prop) (x2 : Int) (x3 : Int) (X3 : Int → lf_Z → Prop) (x4 : Int) (s : lf_Z) : Prop := lf_R x4 ∧ (lf_R (s.1 1 0) ∧ ((s.1 1 0 ≤ x4 → (Q s)) ∧ (¬ (s.1 1 0 ≤ x4) → (fm_22_p22L X3 Q x2 x3 x4 (x4 * 12) 0 s))))
def fm_22_p3L (Q : lf_Z → Prop) (x2 : Int) (x3 : Int) (x4 : Int) (s : lf_Z) : Prop := ∀ X3 : Int → lf_Z → Prop, (∀ (x4 : Int) (s : lf_Z), fm_22_p3 Q x2 x3 X3 x4 s → X3 x4 s) → X3 x4 s
set_option maxRecDepth 100000 in
theorem gm_22_p3 {L : Nat} {xs : Nat → Int32} {d : Nat} {Q : lf_Z → Prop} {x2 : Int} {x3 : Int} {x4 : Int} {s : lf_Z} {X3 : Int → lf_Z → Prop} (hX3 : ∀ x4 s, X3 x4 s → lf_E (px_ro L xs) (d + 1) 22 3 [(0, .ref 1), (1, .ref 13), (2, .int (Int32.ofInt x2)), (3, .int (Int32.ofInt x3)), (4, .int (Int32.ofInt x4))] [] s (lf_qv Q)) (h : fm_22_p3 Q x2 x3 X3 x4 s) : lf_E (px_ro L xs) (d + 1) 22 3 [(0, .ref 1), (1, .ref 13), (2, .int (Int32.ofInt x2)), (3, .int (Int32.ofInt x3)), (4, .int (Int32.ofInt x4))] [] s (lf_qv Q) := by
  unfold fm_22_p3 at h
  refine lf_seg 2 (pc' := 6) (lv' := [(0, .ref 1), (1, .ref 13), (2, .int (Int32.ofInt x2)), (3, .int (Int32.ofInt x3)), (4, .int (Int32.ofInt x4))]) (st' := [.ref 1, .int (Int32.ofInt x4)]) rfl ?_
  refine lf_getI 9 0 rfl rfl rfl rfl rfl rfl rfl ?_
  obtain ⟨o21, h⟩ := h
  obtain ⟨o22, h⟩ := h
  refine lf_icmp_ge 107 12 rfl rfl rfl o21 o22 (fun c => ?_) (fun c => ?_)
  · have h := h.1 c
    exact lf_retV rfl rfl h
  · have h := h.2 c
    refine lf_seg 1 (pc' := 14) (lv' := [(0, .ref 1), (1, .ref 13), (2, .int (Int32.ofInt x2)), (3, .int (Int32.ofInt x3)), (4, .int (Int32.ofInt x4))]) (st' := [.int (Int32.ofInt x4)]) rfl ?_
    refine lf_bipush 16 12 rfl rfl (by decide) (by decide) ?_
    refine lf_imul 17 rfl rfl ?_
    refine lf_seg 3 (pc' := 22) (lv' := [(6, .int (Int32.ofInt 0)), (5, .int (Int32.ofInt (x4 * 12))), (0, .ref 1), (1, .ref 13), (2, .int (Int32.ofInt x2)), (3, .int (Int32.ofInt x3)), (4, .int (Int32.ofInt x4))]) (st' := []) rfl ?_
    refine lf_sub (l := [(0, .ref 1), (1, .ref 13), (2, .int (Int32.ofInt x2)), (3, .int (Int32.ofInt x3)), (4, .int (Int32.ofInt x4)), (5, .int (Int32.ofInt (x4 * 12))), (6, .int (Int32.ofInt 0))]) (lf_sb1 rfl (lf_sb1 rfl (lf_sb1 rfl (lf_sb1 rfl (lf_sb1 rfl (lf_sb1 rfl (lf_sb1 rfl lf_sb0))))))) ?_
    exact gm_22_p22L hX3 h
theorem gm_22_p3L {L : Nat} {xs : Nat → Int32} {d : Nat} {Q : lf_Z → Prop} {x2 : Int} {x3 : Int} {x4 : Int} {s : lf_Z} (h : fm_22_p3L Q x2 x3 x4 s) : lf_E (px_ro L xs) (d + 1) 22 3 [(0, .ref 1), (1, .ref 13), (2, .int (Int32.ofInt x2)), (3, .int (Int32.ofInt x3)), (4, .int (Int32.ofInt x4))] [] s (lf_qv Q) :=
  h (fun x4 s => lf_E (px_ro L xs) (d + 1) 22 3 [(0, .ref 1), (1, .ref 13), (2, .int (Int32.ofInt x2)), (3, .int (Int32.ofInt x3)), (4, .int (Int32.ofInt x4))] [] s (lf_qv Q)) (fun x4 s hb => gm_22_p3 (fun _ _ h => h) hb)
def fm_22 (a2 : Int) (a3 : Int) (Q : lf_Z → Prop) (s : lf_Z) : Prop := fm_22_p3L Q a2 a3 0 s
set_option maxRecDepth 100000 in
theorem gm_22 {L : Nat} {xs : Nat → Int32} {d : Nat} {a2 : Int} {a3 : Int} {Q : lf_Z → Prop} {s : lf_Z} (h : fm_22 a2 a3 Q s) : lf_M (px_ro L xs) (d + 1) 22 [.ref 1, .ref 13, .int (Int32.ofInt a2), .int (Int32.ofInt a3)] s (lf_qv Q) := by
  unfold fm_22 at h
  show lf_E (px_ro L xs) (d + 1) 22 0 [(0, .ref 1), (1, .ref 13), (2, .int (Int32.ofInt a2)), (3, .int (Int32.ofInt a3))] [] s _
  refine lf_seg 2 (pc' := 3) (lv' := [(4, .int (Int32.ofInt 0)), (0, .ref 1), (1, .ref 13), (2, .int (Int32.ofInt a2)), (3, .int (Int32.ofInt a3))]) (st' := []) rfl ?_
  refine lf_sub (l := [(0, .ref 1), (1, .ref 13), (2, .int (Int32.ofInt a2)), (3, .int (Int32.ofInt a3)), (4, .int (Int32.ofInt 0))]) (lf_sb1 rfl (lf_sb1 rfl (lf_sb1 rfl (lf_sb1 rfl (lf_sb1 rfl lf_sb0))))) ?_
  exact gm_22_p3L h
-- fm_20 Land.layWay 1 i
def fm_20 (a1 : Int) (Q : lf_Z → Prop) (s : lf_Z) : Prop := (0 ≤ a1 ∧ a1 < 16) ∧ (fm_21 (s.1 4 a1) a1 (fun s22 => (fm_21 (s22.1 5 a1) a1 (fun s23 => (fm_22 (s23.1 4 a1) (s23.1 5 a1) (fun s24 => (Q s24)) s23)) s22)) s)
set_option maxRecDepth 100000 in
theorem gm_20 {L : Nat} {xs : Nat → Int32} {d : Nat} {a1 : Int} {Q : lf_Z → Prop} {s : lf_Z} (h : fm_20 a1 Q s) : lf_M (px_ro L xs) (d + 2) 20 [.ref 1, .int (Int32.ofInt a1)] s (lf_qv Q) := by
  unfold fm_20 at h
  show lf_E (px_ro L xs) (d + 2) 20 0 [(0, .ref 1), (1, .int (Int32.ofInt a1))] [] s _
  refine lf_seg 4 (pc' := 6) (lv' := [(0, .ref 1), (1, .int (Int32.ofInt a1))]) (st' := [.int (Int32.ofInt a1), .ref 4, .ref 1]) rfl ?_
  obtain ⟨o21, h⟩ := h
  refine lf_iald 7 16 rfl rfl rfl rfl rfl rfl o21 ?_
  refine lf_seg 1 (pc' := 8) (lv' := [(0, .ref 1), (1, .int (Int32.ofInt a1))]) (st' := [.int (Int32.ofInt a1), .int (Int32.ofInt (s.1 4 a1)), .ref 1]) rfl ?_
  refine lf_callV 11 rfl rfl rfl rfl (gm_21 h) (fun s22 h => ?_)
  refine lf_seg 4 (pc' := 17) (lv' := [(0, .ref 1), (1, .int (Int32.ofInt a1))]) (st' := [.int (Int32.ofInt a1), .ref 5, .ref 1]) rfl ?_
  refine lf_iald 18 16 rfl rfl rfl rfl rfl rfl o21 ?_
  refine lf_seg 1 (pc' := 19) (lv' := [(0, .ref 1), (1, .int (Int32.ofInt a1))]) (st' := [.int (Int32.ofInt a1), .int (Int32.ofInt (s22.1 5 a1)), .ref 1]) rfl ?_
  refine lf_callV 22 rfl rfl rfl rfl (gm_21 h) (fun s23 h => ?_)
  refine lf_seg 6 (pc' := 32) (lv' := [(0, .ref 1), (1, .int (Int32.ofInt a1))]) (st' := [.int (Int32.ofInt a1), .ref 4, .ref 13, .ref 1]) rfl ?_
  refine lf_iald 33 16 rfl rfl rfl rfl rfl rfl o21 ?_
  refine lf_seg 3 (pc' := 38) (lv' := [(0, .ref 1), (1, .int (Int32.ofInt a1))]) (st' := [.int (Int32.ofInt a1), .ref 5, .int (Int32.ofInt (s23.1 4 a1)), .ref 13, .ref 1]) rfl ?_
  refine lf_iald 39 16 rfl rfl rfl rfl rfl rfl o21 ?_
  refine lf_callV 42 rfl rfl rfl rfl (gm_22 h) (fun s24 h => ?_)
  exact lf_retV rfl rfl h
-- fm_19 Land.addWay 1 i i i
def fm_19 (a1 : Int) (a2 : Int) (a3 : Int) (Q : Int → lf_Z → Prop) (s : lf_Z) : Prop := lf_R (s.1 1 1) ∧ ((16 ≤ s.1 1 1 → (Q (-1) s)) ∧ (¬ (16 ≤ s.1 1 1) → ((0 ≤ a1 ∧ a1 < 12) ∧ (lf_R (s.1 12 a1) ∧ ((4 ≤ s.1 12 a1 → (Q (-1) s)) ∧ (¬ (4 ≤ s.1 12 a1) → ((0 ≤ a2 ∧ a2 < 12) ∧ (lf_R (s.1 12 a2) ∧ ((s.1 12 a2 < 4 → ((0 ≤ s.1 1 1 ∧ s.1 1 1 < 16) ∧ ((a3 = 0 ∨ a3 = 1) ∧ (fm_20 (((s.1 1 1) + 1) - 1) (fun s28 => (Q ((s28.1 1 1) - 1) s28)) (lf_up (lf_up (lf_up (lf_up s.1 4 (s.1 1 1) a1) 5 (s.1 1 1) a2) 6 (s.1 1 1) a3) 1 1 ((s.1 1 1) + 1), s.2.1, s.2.2))))) ∧ (¬ (s.1 12 a2 < 4) → (Q (-1) s)))))))))))
set_option maxRecDepth 100000 in
theorem gm_19 {L : Nat} {xs : Nat → Int32} {d : Nat} {a1 : Int} {a2 : Int} {a3 : Int} {Q : Int → lf_Z → Prop} {s : lf_Z} (h : fm_19 a1 a2 a3 Q s) : lf_M (px_ro L xs) (d + 3) 19 [.ref 1, .int (Int32.ofInt a1), .int (Int32.ofInt a2), .int (Int32.ofInt a3)] s (lf_qi Q) := by
  unfold fm_19 at h
  show lf_E (px_ro L xs) (d + 3) 19 0 [(0, .ref 1), (1, .int (Int32.ofInt a1)), (2, .int (Int32.ofInt a2)), (3, .int (Int32.ofInt a3))] [] s _
  refine lf_seg 1 (pc' := 1) (lv' := [(0, .ref 1), (1, .int (Int32.ofInt a1)), (2, .int (Int32.ofInt a2)), (3, .int (Int32.ofInt a3))]) (st' := [.ref 1]) rfl ?_
  refine lf_getI 4 1 rfl rfl rfl rfl rfl rfl rfl ?_
  refine lf_bipush 6 16 rfl rfl (by decide) (by decide) ?_
  obtain ⟨o21, h⟩ := h
  refine lf_icmp_ge 29 9 rfl rfl rfl o21 ⟨by decide, by decide⟩ (fun c => ?_) (fun c => ?_)
  · have h := h.1 c
    refine lf_seg 1 (pc' := 30) (lv' := [(0, .ref 1), (1, .int (Int32.ofInt a1)), (2, .int (Int32.ofInt a2)), (3, .int (Int32.ofInt a3))]) (st' := [.int (Int32.ofInt (-1))]) rfl ?_
    exact lf_retI rfl rfl h
  · have h := h.2 c
    refine lf_seg 3 (pc' := 14) (lv' := [(0, .ref 1), (1, .int (Int32.ofInt a1)), (2, .int (Int32.ofInt a2)), (3, .int (Int32.ofInt a3))]) (st' := [.int (Int32.ofInt a1), .ref 12]) rfl ?_
    obtain ⟨o22, h⟩ := h
    refine lf_iald 15 12 rfl rfl rfl rfl rfl rfl o22 ?_
    refine lf_seg 1 (pc' := 16) (lv' := [(0, .ref 1), (1, .int (Int32.ofInt a1)), (2, .int (Int32.ofInt a2)), (3, .int (Int32.ofInt a3))]) (st' := [.int (Int32.ofInt 4), .int (Int32.ofInt (s.1 12 a1))]) rfl ?_
    obtain ⟨o23, h⟩ := h
    refine lf_icmp_ge 29 19 rfl rfl rfl o23 ⟨by decide, by decide⟩ (fun c => ?_) (fun c => ?_)
    · have h := h.1 c
      refine lf_seg 1 (pc' := 30) (lv' := [(0, .ref 1), (1, .int (Int32.ofInt a1)), (2, .int (Int32.ofInt a2)), (3, .int (Int32.ofInt a3))]) (st' := [.int (Int32.ofInt (-1))]) rfl ?_
      exact lf_retI rfl rfl h
    · have h := h.2 c
      refine lf_seg 3 (pc' := 24) (lv' := [(0, .ref 1), (1, .int (Int32.ofInt a1)), (2, .int (Int32.ofInt a2)), (3, .int (Int32.ofInt a3))]) (st' := [.int (Int32.ofInt a2), .ref 12]) rfl ?_
      obtain ⟨o24, h⟩ := h
      refine lf_iald 25 12 rfl rfl rfl rfl rfl rfl o24 ?_
      refine lf_seg 1 (pc' := 26) (lv' := [(0, .ref 1), (1, .int (Int32.ofInt a1)), (2, .int (Int32.ofInt a2)), (3, .int (Int32.ofInt a3))]) (st' := [.int (Int32.ofInt 4), .int (Int32.ofInt (s.1 12 a2))]) rfl ?_
      obtain ⟨o25, h⟩ := h
      refine lf_icmp_lt 31 29 rfl rfl rfl o25 ⟨by decide, by decide⟩ (fun c => ?_) (fun c => ?_)
      · have h := h.1 c
        refine lf_seg 3 (pc' := 36) (lv' := [(0, .ref 1), (1, .int (Int32.ofInt a1)), (2, .int (Int32.ofInt a2)), (3, .int (Int32.ofInt a3))]) (st' := [.ref 1, .ref 4]) rfl ?_
        refine lf_getI 39 1 rfl rfl rfl rfl rfl rfl rfl ?_
        refine lf_seg 1 (pc' := 40) (lv' := [(0, .ref 1), (1, .int (Int32.ofInt a1)), (2, .int (Int32.ofInt a2)), (3, .int (Int32.ofInt a3))]) (st' := [.int (Int32.ofInt a1), .int (Int32.ofInt (s.1 1 1)), .ref 4]) rfl ?_
        obtain ⟨o26, h⟩ := h
        refine lf_iast 41 16 rfl rfl rfl rfl rfl rfl o26 ?_
        refine lf_as (lf_up s.1 4 (s.1 1 1) a1, s.2.1, s.2.2) rfl ?_
        refine lf_seg 3 (pc' := 46) (lv' := [(0, .ref 1), (1, .int (Int32.ofInt a1)), (2, .int (Int32.ofInt a2)), (3, .int (Int32.ofInt a3))]) (st' := [.ref 1, .ref 5]) rfl ?_
        refine lf_getI 49 1 rfl rfl rfl rfl rfl rfl rfl ?_
        refine lf_seg 1 (pc' := 50) (lv' := [(0, .ref 1), (1, .int (Int32.ofInt a1)), (2, .int (Int32.ofInt a2)), (3, .int (Int32.ofInt a3))]) (st' := [.int (Int32.ofInt a2), .int (Int32.ofInt (s.1 1 1)), .ref 5]) rfl ?_
        refine lf_iast 51 16 rfl rfl rfl rfl rfl rfl o26 ?_
        refine lf_as (lf_up (lf_up s.1 4 (s.1 1 1) a1) 5 (s.1 1 1) a2, s.2.1, s.2.2) rfl ?_
        refine lf_seg 3 (pc' := 56) (lv' := [(0, .ref 1), (1, .int (Int32.ofInt a1)), (2, .int (Int32.ofInt a2)), (3, .int (Int32.ofInt a3))]) (st' := [.ref 1, .ref 6]) rfl ?_
        refine lf_getI 59 1 rfl rfl rfl rfl rfl rfl rfl ?_
        refine lf_seg 1 (pc' := 60) (lv' := [(0, .ref 1), (1, .int (Int32.ofInt a1)), (2, .int (Int32.ofInt a2)), (3, .int (Int32.ofInt a3))]) (st' := [.int (Int32.ofInt a3), .int (Int32.ofInt (s.1 1 1)), .ref 6]) rfl ?_
        obtain ⟨o27, h⟩ := h
        refine lf_zast 61 16 rfl rfl rfl rfl rfl rfl o26 o27 ?_
        refine lf_as (lf_up (lf_up (lf_up s.1 4 (s.1 1 1) a1) 5 (s.1 1 1) a2) 6 (s.1 1 1) a3, s.2.1, s.2.2) rfl ?_
        refine lf_seg 2 (pc' := 63) (lv' := [(0, .ref 1), (1, .int (Int32.ofInt a1)), (2, .int (Int32.ofInt a2)), (3, .int (Int32.ofInt a3))]) (st' := [.ref 1, .ref 1]) rfl ?_
        refine lf_getI 66 1 rfl rfl rfl rfl rfl rfl rfl ?_
        refine lf_seg 1 (pc' := 67) (lv' := [(0, .ref 1), (1, .int (Int32.ofInt a1)), (2, .int (Int32.ofInt a2)), (3, .int (Int32.ofInt a3))]) (st' := [.int (Int32.ofInt 1), .int (Int32.ofInt (s.1 1 1)), .ref 1]) rfl ?_
        refine lf_iadd 68 rfl rfl ?_
        refine lf_putI 71 1 rfl rfl rfl rfl rfl rfl rfl rfl ?_
        refine lf_as (lf_up (lf_up (lf_up (lf_up s.1 4 (s.1 1 1) a1) 5 (s.1 1 1) a2) 6 (s.1 1 1) a3) 1 1 ((s.1 1 1) + 1), s.2.1, s.2.2) rfl ?_
        refine lf_seg 2 (pc' := 73) (lv' := [(0, .ref 1), (1, .int (Int32.ofInt a1)), (2, .int (Int32.ofInt a2)), (3, .int (Int32.ofInt a3))]) (st' := [.ref 1, .ref 1]) rfl ?_
        refine lf_getI 76 1 rfl rfl rfl rfl rfl rfl rfl ?_
        refine lf_seg 1 (pc' := 77) (lv' := [(0, .ref 1), (1, .int (Int32.ofInt a1)), (2, .int (Int32.ofInt a2)), (3, .int (Int32.ofInt a3))]) (st' := [.int (Int32.ofInt 1), .int (Int32.ofInt ((s.1 1 1) + 1)), .ref 1]) rfl ?_
        refine lf_isub 78 rfl rfl ?_
        refine lf_callV 81 rfl rfl rfl rfl (gm_20 h) (fun s28 h => ?_)
        refine lf_seg 1 (pc' := 82) (lv' := [(0, .ref 1), (1, .int (Int32.ofInt a1)), (2, .int (Int32.ofInt a2)), (3, .int (Int32.ofInt a3))]) (st' := [.ref 1]) rfl ?_
        refine lf_getI 85 1 rfl rfl rfl rfl rfl rfl rfl ?_
        refine lf_seg 1 (pc' := 86) (lv' := [(0, .ref 1), (1, .int (Int32.ofInt a1)), (2, .int (Int32.ofInt a2)), (3, .int (Int32.ofInt a3))]) (st' := [.int (Int32.ofInt 1), .int (Int32.ofInt (s28.1 1 1))]) rfl ?_
        refine lf_isub 87 rfl rfl ?_
        exact lf_retI rfl rfl h
      · have h := h.2 c
        refine lf_seg 1 (pc' := 30) (lv' := [(0, .ref 1), (1, .int (Int32.ofInt a1)), (2, .int (Int32.ofInt a2)), (3, .int (Int32.ofInt a3))]) (st' := [.int (Int32.ofInt (-1))]) rfl ?_
        exact lf_retI rfl rfl h
-- fm_17 ElevenBullocks.way 0 i i i
def fm_17 (a1 : Int) (a2 : Int) (a3 : Int) (Q : Int → lf_Z → Prop) (s : lf_Z) : Prop := fm_18 a1 (fun z22 s21 => ((z22 = false → (Q (-1) s21)) ∧ (z22 = true → (fm_18 a2 (fun z24 s23 => ((z24 = false → (Q (-1) s23)) ∧ (z24 = true → (lf_R a1 ∧ (lf_R a2 ∧ ((a1 ≠ a2 → (fm_19 a1 a2 a3 (fun r28 s27 => (Q r28 s27)) s23)) ∧ (¬ (a1 ≠ a2) → (Q (-1) s23)))))))) s21)))) s
set_option maxRecDepth 100000 in
theorem gm_17 {L : Nat} {xs : Nat → Int32} {d : Nat} {a1 : Int} {a2 : Int} {a3 : Int} {Q : Int → lf_Z → Prop} {s : lf_Z} (h : fm_17 a1 a2 a3 Q s) : lf_M (px_ro L xs) (d + 4) 17 [.ref 0, .int (Int32.ofInt a1), .int (Int32.ofInt a2), .int (Int32.ofInt a3)] s (lf_qi Q) := by
  unfold fm_17 at h
  show lf_E (px_ro L xs) (d + 4) 17 0 [(0, .ref 0), (1, .int (Int32.ofInt a1)), (2, .int (Int32.ofInt a2)), (3, .int (Int32.ofInt a3))] [] s _
  refine lf_seg 3 (pc' := 5) (lv' := [(0, .ref 0), (1, .int (Int32.ofInt a1)), (2, .int (Int32.ofInt a2)), (3, .int (Int32.ofInt a3))]) (st' := [.int (Int32.ofInt a1), .ref 1]) rfl ?_
  refine lf_callZ 8 rfl rfl rfl rfl (gm_18 h) (fun z22 s21 h => ?_)
  refine lf_ifz_eq 27 11 rfl rfl rfl (fun c => ?_) (fun c => ?_)
  · have h := h.1 c
    refine lf_seg 1 (pc' := 28) (lv' := [(0, .ref 0), (1, .int (Int32.ofInt a1)), (2, .int (Int32.ofInt a2)), (3, .int (Int32.ofInt a3))]) (st' := [.int (Int32.ofInt (-1))]) rfl ?_
    exact lf_retI rfl rfl h
  · have h := h.2 c
    refine lf_seg 3 (pc' := 16) (lv' := [(0, .ref 0), (1, .int (Int32.ofInt a1)), (2, .int (Int32.ofInt a2)), (3, .int (Int32.ofInt a3))]) (st' := [.int (Int32.ofInt a2), .ref 1]) rfl ?_
    refine lf_callZ 19 rfl rfl rfl rfl (gm_18 h) (fun z24 s23 h => ?_)
    refine lf_ifz_eq 27 22 rfl rfl rfl (fun c => ?_) (fun c => ?_)
    · have h := h.1 c
      refine lf_seg 1 (pc' := 28) (lv' := [(0, .ref 0), (1, .int (Int32.ofInt a1)), (2, .int (Int32.ofInt a2)), (3, .int (Int32.ofInt a3))]) (st' := [.int (Int32.ofInt (-1))]) rfl ?_
      exact lf_retI rfl rfl h
    · have h := h.2 c
      refine lf_seg 2 (pc' := 24) (lv' := [(0, .ref 0), (1, .int (Int32.ofInt a1)), (2, .int (Int32.ofInt a2)), (3, .int (Int32.ofInt a3))]) (st' := [.int (Int32.ofInt a2), .int (Int32.ofInt a1)]) rfl ?_
      obtain ⟨o25, h⟩ := h
      obtain ⟨o26, h⟩ := h
      refine lf_icmp_ne 29 27 rfl rfl rfl o25 o26 (fun c => ?_) (fun c => ?_)
      · have h := h.1 c
        refine lf_seg 5 (pc' := 36) (lv' := [(0, .ref 0), (1, .int (Int32.ofInt a1)), (2, .int (Int32.ofInt a2)), (3, .int (Int32.ofInt a3))]) (st' := [.int (Int32.ofInt a3), .int (Int32.ofInt a2), .int (Int32.ofInt a1), .ref 1]) rfl ?_
        refine lf_callI 39 rfl rfl rfl rfl (gm_19 h) (fun r28 s27 h => ?_)
        exact lf_retI rfl rfl h
      · have h := h.2 c
        refine lf_seg 1 (pc' := 28) (lv' := [(0, .ref 0), (1, .int (Int32.ofInt a1)), (2, .int (Int32.ofInt a2)), (3, .int (Int32.ofInt a3))]) (st' := [.int (Int32.ofInt (-1))]) rfl ?_
        exact lf_retI rfl rfl h
-- fm_185 Model.isStretch 95 i
def fm_185 (a1 : Int) (Q : Bool → lf_Z → Prop) (s : lf_Z) : Prop := fm_183 a1 0 ((s.1 96 0) - 1) (fun z22 s21 => (Q z22 s21)) s
set_option maxRecDepth 100000 in
theorem gm_185 {L : Nat} {xs : Nat → Int32} {d : Nat} {a1 : Int} {Q : Bool → lf_Z → Prop} {s : lf_Z} (h : fm_185 a1 Q s) : lf_M (px_ro L xs) (d + 2) 185 [.ref 95, .int (Int32.ofInt a1)] s (lf_qz Q) := by
  unfold fm_185 at h
  show lf_E (px_ro L xs) (d + 2) 185 0 [(0, .ref 95), (1, .int (Int32.ofInt a1))] [] s _
  refine lf_seg 5 (pc' := 7) (lv' := [(0, .ref 95), (1, .int (Int32.ofInt a1))]) (st' := [.int (Int32.ofInt 0), .ref 96, .int (Int32.ofInt 0), .int (Int32.ofInt a1)]) rfl ?_
  refine lf_iald 8 1538 rfl rfl rfl rfl rfl rfl ⟨by decide, by decide⟩ ?_
  refine lf_seg 1 (pc' := 9) (lv' := [(0, .ref 95), (1, .int (Int32.ofInt a1))]) (st' := [.int (Int32.ofInt 1), .int (Int32.ofInt (s.1 96 0)), .int (Int32.ofInt 0), .int (Int32.ofInt a1)]) rfl ?_
  refine lf_isub 10 rfl rfl ?_
  refine lf_callZ 13 rfl rfl rfl rfl (gm_183 h) (fun z22 s21 h => ?_)
  exact lf_retZ z22 rfl rfl h
-- fm_187 Model.acrossOf 95 i i
def fm_187 (a1 : Int) (a2 : Int) (Q : Int → lf_Z → Prop) (s : lf_Z) : Prop := (0 ≤ 50 + (4 * a1) ∧ 50 + (4 * a1) < 1538) ∧ ((0 ≤ (50 + (4 * a1)) + 1 ∧ (50 + (4 * a1)) + 1 < 1538) ∧ (lf_R (s.1 96 (50 + (4 * a1))) ∧ (lf_R a2 ∧ ((s.1 96 (50 + (4 * a1)) ≠ a2 → (lf_R (s.1 96 ((50 + (4 * a1)) + 1)) ∧ ((s.1 96 ((50 + (4 * a1)) + 1) ≠ a2 → (Q (-1) s)) ∧ (¬ (s.1 96 ((50 + (4 * a1)) + 1) ≠ a2) → (Q (s.1 96 (50 + (4 * a1))) s))))) ∧ (¬ (s.1 96 (50 + (4 * a1)) ≠ a2) → (Q (s.1 96 ((50 + (4 * a1)) + 1)) s))))))
set_option maxRecDepth 100000 in
theorem gm_187 {L : Nat} {xs : Nat → Int32} {d : Nat} {a1 : Int} {a2 : Int} {Q : Int → lf_Z → Prop} {s : lf_Z} (h : fm_187 a1 a2 Q s) : lf_M (px_ro L xs) (d + 1) 187 [.ref 95, .int (Int32.ofInt a1), .int (Int32.ofInt a2)] s (lf_qi Q) := by
  unfold fm_187 at h
  show lf_E (px_ro L xs) (d + 1) 187 0 [(0, .ref 95), (1, .int (Int32.ofInt a1)), (2, .int (Int32.ofInt a2))] [] s _
  refine lf_seg 2 (pc' := 4) (lv' := [(0, .ref 95), (1, .int (Int32.ofInt a1)), (2, .int (Int32.ofInt a2))]) (st' := [.ref 96]) rfl ?_
  refine lf_bipush 6 50 rfl rfl (by decide) (by decide) ?_
  refine lf_seg 2 (pc' := 8) (lv' := [(0, .ref 95), (1, .int (Int32.ofInt a1)), (2, .int (Int32.ofInt a2))]) (st' := [.int (Int32.ofInt a1), .int (Int32.ofInt 4), .int (Int32.ofInt 50), .ref 96]) rfl ?_
  refine lf_imul 9 rfl rfl ?_
  refine lf_iadd 10 rfl rfl ?_
  obtain ⟨o21, h⟩ := h
  refine lf_iald 11 1538 rfl rfl rfl rfl rfl rfl o21 ?_
  refine lf_seg 3 (pc' := 16) (lv' := [(3, .int (Int32.ofInt (s.1 96 (50 + (4 * a1))))), (0, .ref 95), (1, .int (Int32.ofInt a1)), (2, .int (Int32.ofInt a2))]) (st' := [.ref 96]) rfl ?_
  refine lf_bipush 18 50 rfl rfl (by decide) (by decide) ?_
  refine lf_seg 2 (pc' := 20) (lv' := [(3, .int (Int32.ofInt (s.1 96 (50 + (4 * a1))))), (0, .ref 95), (1, .int (Int32.ofInt a1)), (2, .int (Int32.ofInt a2))]) (st' := [.int (Int32.ofInt a1), .int (Int32.ofInt 4), .int (Int32.ofInt 50), .ref 96]) rfl ?_
  refine lf_imul 21 rfl rfl ?_
  refine lf_iadd 22 rfl rfl ?_
  refine lf_seg 1 (pc' := 23) (lv' := [(3, .int (Int32.ofInt (s.1 96 (50 + (4 * a1))))), (0, .ref 95), (1, .int (Int32.ofInt a1)), (2, .int (Int32.ofInt a2))]) (st' := [.int (Int32.ofInt 1), .int (Int32.ofInt (50 + (4 * a1))), .ref 96]) rfl ?_
  refine lf_iadd 24 rfl rfl ?_
  obtain ⟨o22, h⟩ := h
  refine lf_iald 25 1538 rfl rfl rfl rfl rfl rfl o22 ?_
  refine lf_seg 3 (pc' := 29) (lv' := [(4, .int (Int32.ofInt (s.1 96 ((50 + (4 * a1)) + 1)))), (3, .int (Int32.ofInt (s.1 96 (50 + (4 * a1))))), (0, .ref 95), (1, .int (Int32.ofInt a1)), (2, .int (Int32.ofInt a2))]) (st' := [.int (Int32.ofInt a2), .int (Int32.ofInt (s.1 96 (50 + (4 * a1))))]) rfl ?_
  obtain ⟨o23, h⟩ := h
  obtain ⟨o24, h⟩ := h
  refine lf_icmp_ne 37 32 rfl rfl rfl o23 o24 (fun c => ?_) (fun c => ?_)
  · have h := h.1 c
    refine lf_seg 2 (pc' := 40) (lv' := [(4, .int (Int32.ofInt (s.1 96 ((50 + (4 * a1)) + 1)))), (3, .int (Int32.ofInt (s.1 96 (50 + (4 * a1))))), (0, .ref 95), (1, .int (Int32.ofInt a1)), (2, .int (Int32.ofInt a2))]) (st' := [.int (Int32.ofInt a2), .int (Int32.ofInt (s.1 96 ((50 + (4 * a1)) + 1)))]) rfl ?_
    obtain ⟨o25, h⟩ := h
    refine lf_icmp_ne 47 43 rfl rfl rfl o25 o24 (fun c => ?_) (fun c => ?_)
    · have h := h.1 c
      refine lf_seg 1 (pc' := 48) (lv' := [(4, .int (Int32.ofInt (s.1 96 ((50 + (4 * a1)) + 1)))), (3, .int (Int32.ofInt (s.1 96 (50 + (4 * a1))))), (0, .ref 95), (1, .int (Int32.ofInt a1)), (2, .int (Int32.ofInt a2))]) (st' := [.int (Int32.ofInt (-1))]) rfl ?_
      exact lf_retI rfl rfl h
    · have h := h.2 c
      refine lf_seg 2 (pc' := 48) (lv' := [(4, .int (Int32.ofInt (s.1 96 ((50 + (4 * a1)) + 1)))), (3, .int (Int32.ofInt (s.1 96 (50 + (4 * a1))))), (0, .ref 95), (1, .int (Int32.ofInt a1)), (2, .int (Int32.ofInt a2))]) (st' := [.int (Int32.ofInt (s.1 96 (50 + (4 * a1))))]) rfl ?_
      exact lf_retI rfl rfl h
  · have h := h.2 c
    refine lf_seg 2 (pc' := 48) (lv' := [(4, .int (Int32.ofInt (s.1 96 ((50 + (4 * a1)) + 1)))), (3, .int (Int32.ofInt (s.1 96 (50 + (4 * a1))))), (0, .ref 95), (1, .int (Int32.ofInt a1)), (2, .int (Int32.ofInt a2))]) (st' := [.int (Int32.ofInt (s.1 96 ((50 + (4 * a1)) + 1)))]) rfl ?_
    exact lf_retI rfl rfl h
-- fm_186 Model.waysAt 95 i
def fm_186_p31 (X4 : Int → Int → lf_Z → Prop) (Q : Int → lf_Z → Prop) (x1 : Int) (x3 : Int) (y0 : Int) (y1 : Int) (s : lf_Z) : Prop := X4 (lf_or y0 y1) (x3 + 1) s
set_option maxRecDepth 100000 in
theorem gm_186_p31 {L : Nat} {xs : Nat → Int32} {d : Nat} {X4 : Int → Int → lf_Z → Prop} {Q : Int → lf_Z → Prop} {x1 : Int} {x3 : Int} {y0 : Int} {y1 : Int} {s : lf_Z} (hX4 : ∀ x2 x3 s, X4 x2 x3 s → lf_E (px_ro L xs) (d + 2) 186 4 [(0, .ref 95), (1, .int (Int32.ofInt x1)), (2, .int (Int32.ofInt x2)), (3, .int (Int32.ofInt x3))] [] s (lf_qi Q)) (h : fm_186_p31 X4 Q x1 x3 y0 y1 s) : lf_E (px_ro L xs) (d + 2) 186 31 [(0, .ref 95), (1, .int (Int32.ofInt x1)), (3, .int (Int32.ofInt x3))] [.int (Int32.ofInt y1), .int (Int32.ofInt y0)] s (lf_qi Q) := by
  unfold fm_186_p31 at h
  refine lf_ior 32 rfl rfl ?_
  refine lf_seg 1 (pc' := 33) (lv' := [(2, .int (Int32.ofInt (lf_or y0 y1))), (0, .ref 95), (1, .int (Int32.ofInt x1)), (3, .int (Int32.ofInt x3))]) (st' := []) rfl ?_
  refine lf_iinc 36 rfl rfl rfl rfl ?_
  refine lf_seg 1 (pc' := 4) (lv' := [(3, .int (Int32.ofInt (x3 + 1))), (2, .int (Int32.ofInt (lf_or y0 y1))), (0, .ref 95), (1, .int (Int32.ofInt x1))]) (st' := []) rfl ?_
  refine lf_sub (l := [(0, .ref 95), (1, .int (Int32.ofInt x1)), (2, .int (Int32.ofInt (lf_or y0 y1))), (3, .int (Int32.ofInt (x3 + 1)))]) (lf_sb1 rfl (lf_sb1 rfl (lf_sb1 rfl (lf_sb1 rfl lf_sb0)))) ?_
  exact hX4 _ _ _ h
def fm_186_p4 (Q : Int → lf_Z → Prop) (x1 : Int) (X4 : Int → Int → lf_Z → Prop) (x2 : Int) (x3 : Int) (s : lf_Z) : Prop := lf_R x3 ∧ (lf_R (s.1 96 1) ∧ ((s.1 96 1 ≤ x3 → (Q x2 s)) ∧ (¬ (s.1 96 1 ≤ x3) → (fm_187 x3 x1 (fun r24 s23 => (lf_R r24 ∧ ((r24 < 0 → (fm_186_p31 X4 Q x1 x3 x2 0 s23)) ∧ (¬ (r24 < 0) → (fm_186_p31 X4 Q x1 x3 x2 (lf_shl 1 x3) s23))))) s))))
def fm_186_p4L (Q : Int → lf_Z → Prop) (x1 : Int) (x2 : Int) (x3 : Int) (s : lf_Z) : Prop := ∀ X4 : Int → Int → lf_Z → Prop, (∀ (x2 : Int) (x3 : Int) (s : lf_Z), fm_186_p4 Q x1 X4 x2 x3 s → X4 x2 x3 s) → X4 x2 x3 s
set_option maxRecDepth 100000 in
theorem gm_186_p4 {L : Nat} {xs : Nat → Int32} {d : Nat} {Q : Int → lf_Z → Prop} {x1 : Int} {x2 : Int} {x3 : Int} {s : lf_Z} {X4 : Int → Int → lf_Z → Prop} (hX4 : ∀ x2 x3 s, X4 x2 x3 s → lf_E (px_ro L xs) (d + 2) 186 4 [(0, .ref 95), (1, .int (Int32.ofInt x1)), (2, .int (Int32.ofInt x2)), (3, .int (Int32.ofInt x3))] [] s (lf_qi Q)) (h : fm_186_p4 Q x1 X4 x2 x3 s) : lf_E (px_ro L xs) (d + 2) 186 4 [(0, .ref 95), (1, .int (Int32.ofInt x1)), (2, .int (Int32.ofInt x2)), (3, .int (Int32.ofInt x3))] [] s (lf_qi Q) := by
  unfold fm_186_p4 at h
  refine lf_seg 4 (pc' := 10) (lv' := [(0, .ref 95), (1, .int (Int32.ofInt x1)), (2, .int (Int32.ofInt x2)), (3, .int (Int32.ofInt x3))]) (st' := [.int (Int32.ofInt 1), .ref 96, .int (Int32.ofInt x3)]) rfl ?_
  refine lf_iald 11 1538 rfl rfl rfl rfl rfl rfl ⟨by decide, by decide⟩ ?_
  obtain ⟨o21, h⟩ := h
  obtain ⟨o22, h⟩ := h
  refine lf_icmp_ge 39 14 rfl rfl rfl o21 o22 (fun c => ?_) (fun c => ?_)
  · have h := h.1 c
    refine lf_seg 1 (pc' := 40) (lv' := [(0, .ref 95), (1, .int (Int32.ofInt x1)), (2, .int (Int32.ofInt x2)), (3, .int (Int32.ofInt x3))]) (st' := [.int (Int32.ofInt x2)]) rfl ?_
    exact lf_retI rfl rfl h
  · have h := h.2 c
    refine lf_seg 4 (pc' := 18) (lv' := [(0, .ref 95), (1, .int (Int32.ofInt x1)), (2, .int (Int32.ofInt x2)), (3, .int (Int32.ofInt x3))]) (st' := [.int (Int32.ofInt x1), .int (Int32.ofInt x3), .ref 95, .int (Int32.ofInt x2)]) rfl ?_
    refine lf_callI 21 rfl rfl rfl rfl (gm_187 h) (fun r24 s23 h => ?_)
    obtain ⟨o25, h⟩ := h
    refine lf_if_lt 30 24 rfl rfl rfl o25 (fun c => ?_) (fun c => ?_)
    · have h := h.1 c
      refine lf_seg 1 (pc' := 31) (lv' := [(0, .ref 95), (1, .int (Int32.ofInt x1)), (2, .int (Int32.ofInt x2)), (3, .int (Int32.ofInt x3))]) (st' := [.int (Int32.ofInt 0), .int (Int32.ofInt x2)]) rfl ?_
      refine lf_sub (l := [(0, .ref 95), (1, .int (Int32.ofInt x1)), (3, .int (Int32.ofInt x3))]) (lf_sb1 rfl (lf_sb1 rfl (lf_sb1 rfl lf_sb0))) ?_
      exact gm_186_p31 hX4 h
    · have h := h.2 c
      refine lf_seg 2 (pc' := 26) (lv' := [(0, .ref 95), (1, .int (Int32.ofInt x1)), (2, .int (Int32.ofInt x2)), (3, .int (Int32.ofInt x3))]) (st' := [.int (Int32.ofInt x3), .int (Int32.ofInt 1), .int (Int32.ofInt x2)]) rfl ?_
      refine lf_ishl 27 rfl rfl ?_
      refine lf_seg 1 (pc' := 31) (lv' := [(0, .ref 95), (1, .int (Int32.ofInt x1)), (2, .int (Int32.ofInt x2)), (3, .int (Int32.ofInt x3))]) (st' := [.int (Int32.ofInt (lf_shl 1 x3)), .int (Int32.ofInt x2)]) rfl ?_
      refine lf_sub (l := [(0, .ref 95), (1, .int (Int32.ofInt x1)), (3, .int (Int32.ofInt x3))]) (lf_sb1 rfl (lf_sb1 rfl (lf_sb1 rfl lf_sb0))) ?_
      exact gm_186_p31 hX4 h
theorem gm_186_p4L {L : Nat} {xs : Nat → Int32} {d : Nat} {Q : Int → lf_Z → Prop} {x1 : Int} {x2 : Int} {x3 : Int} {s : lf_Z} (h : fm_186_p4L Q x1 x2 x3 s) : lf_E (px_ro L xs) (d + 2) 186 4 [(0, .ref 95), (1, .int (Int32.ofInt x1)), (2, .int (Int32.ofInt x2)), (3, .int (Int32.ofInt x3))] [] s (lf_qi Q) :=
  h (fun x2 x3 s => lf_E (px_ro L xs) (d + 2) 186 4 [(0, .ref 95), (1, .int (Int32.ofInt x1)), (2, .int (Int32.ofInt x2)), (3, .int (Int32.ofInt x3))] [] s (lf_qi Q)) (fun x2 x3 s hb => gm_186_p4 (fun _ _ _ h => h) hb)
def fm_186 (a1 : Int) (Q : Int → lf_Z → Prop) (s : lf_Z) : Prop := fm_186_p4L Q a1 0 0 s
set_option maxRecDepth 100000 in
theorem gm_186 {L : Nat} {xs : Nat → Int32} {d : Nat} {a1 : Int} {Q : Int → lf_Z → Prop} {s : lf_Z} (h : fm_186 a1 Q s) : lf_M (px_ro L xs) (d + 2) 186 [.ref 95, .int (Int32.ofInt a1)] s (lf_qi Q) := by
  unfold fm_186 at h
  show lf_E (px_ro L xs) (d + 2) 186 0 [(0, .ref 95), (1, .int (Int32.ofInt a1))] [] s _
  refine lf_seg 4 (pc' := 4) (lv' := [(3, .int (Int32.ofInt 0)), (2, .int (Int32.ofInt 0)), (0, .ref 95), (1, .int (Int32.ofInt a1))]) (st' := []) rfl ?_
  refine lf_sub (l := [(0, .ref 95), (1, .int (Int32.ofInt a1)), (2, .int (Int32.ofInt 0)), (3, .int (Int32.ofInt 0))]) (lf_sb1 rfl (lf_sb1 rfl (lf_sb1 rfl (lf_sb1 rfl lf_sb0)))) ?_
  exact gm_186_p4L h
-- fm_188 Model.bits i
def fm_188_p4 (Q : Int → lf_Z → Prop) (x0 : Int) (X4 : Int → Int → lf_Z → Prop) (x1 : Int) (x2 : Int) (s : lf_Z) : Prop := lf_R x2 ∧ ((16 ≤ x2 → (Q x1 s)) ∧ (¬ (16 ≤ x2) → (X4 (x1 + (lf_and (lf_shr x0 x2) 1)) (x2 + 1) s)))
def fm_188_p4L (Q : Int → lf_Z → Prop) (x0 : Int) (x1 : Int) (x2 : Int) (s : lf_Z) : Prop := ∀ X4 : Int → Int → lf_Z → Prop, (∀ (x1 : Int) (x2 : Int) (s : lf_Z), fm_188_p4 Q x0 X4 x1 x2 s → X4 x1 x2 s) → X4 x1 x2 s
set_option maxRecDepth 100000 in
theorem gm_188_p4 {L : Nat} {xs : Nat → Int32} {d : Nat} {Q : Int → lf_Z → Prop} {x0 : Int} {x1 : Int} {x2 : Int} {s : lf_Z} {X4 : Int → Int → lf_Z → Prop} (hX4 : ∀ x1 x2 s, X4 x1 x2 s → lf_E (px_ro L xs) (d + 1) 188 4 [(0, .int (Int32.ofInt x0)), (1, .int (Int32.ofInt x1)), (2, .int (Int32.ofInt x2))] [] s (lf_qi Q)) (h : fm_188_p4 Q x0 X4 x1 x2 s) : lf_E (px_ro L xs) (d + 1) 188 4 [(0, .int (Int32.ofInt x0)), (1, .int (Int32.ofInt x1)), (2, .int (Int32.ofInt x2))] [] s (lf_qi Q) := by
  unfold fm_188_p4 at h
  refine lf_seg 1 (pc' := 5) (lv' := [(0, .int (Int32.ofInt x0)), (1, .int (Int32.ofInt x1)), (2, .int (Int32.ofInt x2))]) (st' := [.int (Int32.ofInt x2)]) rfl ?_
  refine lf_bipush 7 16 rfl rfl (by decide) (by decide) ?_
  obtain ⟨o21, h⟩ := h
  refine lf_icmp_ge 24 10 rfl rfl rfl o21 ⟨by decide, by decide⟩ (fun c => ?_) (fun c => ?_)
  · have h := h.1 c
    refine lf_seg 1 (pc' := 25) (lv' := [(0, .int (Int32.ofInt x0)), (1, .int (Int32.ofInt x1)), (2, .int (Int32.ofInt x2))]) (st' := [.int (Int32.ofInt x1)]) rfl ?_
    exact lf_retI rfl rfl h
  · have h := h.2 c
    refine lf_seg 3 (pc' := 13) (lv' := [(0, .int (Int32.ofInt x0)), (1, .int (Int32.ofInt x1)), (2, .int (Int32.ofInt x2))]) (st' := [.int (Int32.ofInt x2), .int (Int32.ofInt x0), .int (Int32.ofInt x1)]) rfl ?_
    refine lf_ishr 14 rfl rfl ?_
    refine lf_seg 1 (pc' := 15) (lv' := [(0, .int (Int32.ofInt x0)), (1, .int (Int32.ofInt x1)), (2, .int (Int32.ofInt x2))]) (st' := [.int (Int32.ofInt 1), .int (Int32.ofInt (lf_shr x0 x2)), .int (Int32.ofInt x1)]) rfl ?_
    refine lf_iand 16 rfl rfl ?_
    refine lf_iadd 17 rfl rfl ?_
    refine lf_seg 1 (pc' := 18) (lv' := [(1, .int (Int32.ofInt (x1 + (lf_and (lf_shr x0 x2) 1)))), (0, .int (Int32.ofInt x0)), (2, .int (Int32.ofInt x2))]) (st' := []) rfl ?_
    refine lf_iinc 21 rfl rfl rfl rfl ?_
    refine lf_seg 1 (pc' := 4) (lv' := [(2, .int (Int32.ofInt (x2 + 1))), (1, .int (Int32.ofInt (x1 + (lf_and (lf_shr x0 x2) 1)))), (0, .int (Int32.ofInt x0))]) (st' := []) rfl ?_
    refine lf_sub (l := [(0, .int (Int32.ofInt x0)), (1, .int (Int32.ofInt (x1 + (lf_and (lf_shr x0 x2) 1)))), (2, .int (Int32.ofInt (x2 + 1)))]) (lf_sb1 rfl (lf_sb1 rfl (lf_sb1 rfl lf_sb0))) ?_
    exact hX4 _ _ _ h
theorem gm_188_p4L {L : Nat} {xs : Nat → Int32} {d : Nat} {Q : Int → lf_Z → Prop} {x0 : Int} {x1 : Int} {x2 : Int} {s : lf_Z} (h : fm_188_p4L Q x0 x1 x2 s) : lf_E (px_ro L xs) (d + 1) 188 4 [(0, .int (Int32.ofInt x0)), (1, .int (Int32.ofInt x1)), (2, .int (Int32.ofInt x2))] [] s (lf_qi Q) :=
  h (fun x1 x2 s => lf_E (px_ro L xs) (d + 1) 188 4 [(0, .int (Int32.ofInt x0)), (1, .int (Int32.ofInt x1)), (2, .int (Int32.ofInt x2))] [] s (lf_qi Q)) (fun x1 x2 s hb => gm_188_p4 (fun _ _ _ h => h) hb)
def fm_188 (a0 : Int) (Q : Int → lf_Z → Prop) (s : lf_Z) : Prop := fm_188_p4L Q a0 0 0 s
set_option maxRecDepth 100000 in
theorem gm_188 {L : Nat} {xs : Nat → Int32} {d : Nat} {a0 : Int} {Q : Int → lf_Z → Prop} {s : lf_Z} (h : fm_188 a0 Q s) : lf_M (px_ro L xs) (d + 1) 188 [.int (Int32.ofInt a0)] s (lf_qi Q) := by
  unfold fm_188 at h
  show lf_E (px_ro L xs) (d + 1) 188 0 [(0, .int (Int32.ofInt a0))] [] s _
  refine lf_seg 4 (pc' := 4) (lv' := [(2, .int (Int32.ofInt 0)), (1, .int (Int32.ofInt 0)), (0, .int (Int32.ofInt a0))]) (st' := []) rfl ?_
  refine lf_sub (l := [(0, .int (Int32.ofInt a0)), (1, .int (Int32.ofInt 0)), (2, .int (Int32.ofInt 0))]) (lf_sb1 rfl (lf_sb1 rfl (lf_sb1 rfl lf_sb0))) ?_
  exact gm_188_p4L h
-- fm_184 Model.way 95 i i i
def fm_184_p106 (Q : Int → lf_Z → Prop) (x4 : Int) (y1 : Int) (y2 : Int) (s : lf_Z) : Prop := (0 ≤ y1 ∧ y1 < 1538) ∧ ((0 ≤ x4 + 3 ∧ x4 + 3 < 1538) ∧ ((0 ≤ 174 + (5 * ((lf_up (lf_up s.1 96 y1 y2) 96 (x4 + 3) 1) 96 1)) ∧ 174 + (5 * ((lf_up (lf_up s.1 96 y1 y2) 96 (x4 + 3) 1) 96 1)) < 1538) ∧ (Q ((((lf_up (lf_up (lf_up s.1 96 y1 y2) 96 (x4 + 3) 1) 96 (174 + (5 * ((lf_up (lf_up s.1 96 y1 y2) 96 (x4 + 3) 1) 96 1))) 0) 96 1) + 1) - 1) (lf_up (lf_up (lf_up (lf_up s.1 96 y1 y2) 96 (x4 + 3) 1) 96 (174 + (5 * ((lf_up (lf_up s.1 96 y1 y2) 96 (x4 + 3) 1) 96 1))) 0) 96 1 (((lf_up (lf_up (lf_up s.1 96 y1 y2) 96 (x4 + 3) 1) 96 (174 + (5 * ((lf_up (lf_up s.1 96 y1 y2) 96 (x4 + 3) 1) 96 1))) 0) 96 1) + 1), s.2.1, s.2.2))))
set_option maxRecDepth 100000 in
theorem gm_184_p106 {L : Nat} {xs : Nat → Int32} {d : Nat} {Q : Int → lf_Z → Prop} {x4 : Int} {y1 : Int} {y2 : Int} {s : lf_Z} (h : fm_184_p106 Q x4 y1 y2 s) : lf_E (px_ro L xs) (d + 3) 184 106 [(0, .ref 95), (4, .int (Int32.ofInt x4))] [.int (Int32.ofInt y2), .int (Int32.ofInt y1), .ref 96] s (lf_qi Q) := by
  unfold fm_184_p106 at h
  obtain ⟨o41, h⟩ := h
  refine lf_iast 107 1538 rfl rfl rfl rfl rfl rfl o41 ?_
  refine lf_as (lf_up s.1 96 y1 y2, s.2.1, s.2.2) rfl ?_
  refine lf_seg 4 (pc' := 114) (lv' := [(0, .ref 95), (4, .int (Int32.ofInt x4))]) (st' := [.int (Int32.ofInt 3), .int (Int32.ofInt x4), .ref 96]) rfl ?_
  refine lf_iadd 115 rfl rfl ?_
  refine lf_seg 1 (pc' := 116) (lv' := [(0, .ref 95), (4, .int (Int32.ofInt x4))]) (st' := [.int (Int32.ofInt 1), .int (Int32.ofInt (x4 + 3)), .ref 96]) rfl ?_
  obtain ⟨o42, h⟩ := h
  refine lf_iast 117 1538 rfl rfl rfl rfl rfl rfl o42 ?_
  refine lf_as (lf_up (lf_up s.1 96 y1 y2) 96 (x4 + 3) 1, s.2.1, s.2.2) rfl ?_
  refine lf_seg 2 (pc' := 121) (lv' := [(0, .ref 95), (4, .int (Int32.ofInt x4))]) (st' := [.ref 96]) rfl ?_
  refine lf_sipush 124 174 rfl rfl (by decide) (by decide) ?_
  refine lf_seg 4 (pc' := 130) (lv' := [(0, .ref 95), (4, .int (Int32.ofInt x4))]) (st' := [.int (Int32.ofInt 1), .ref 96, .int (Int32.ofInt 5), .int (Int32.ofInt 174), .ref 96]) rfl ?_
  refine lf_iald 131 1538 rfl rfl rfl rfl rfl rfl ⟨by decide, by decide⟩ ?_
  refine lf_imul 132 rfl rfl ?_
  refine lf_iadd 133 rfl rfl ?_
  refine lf_seg 1 (pc' := 134) (lv' := [(0, .ref 95), (4, .int (Int32.ofInt x4))]) (st' := [.int (Int32.ofInt 0), .int (Int32.ofInt (174 + (5 * ((lf_up (lf_up s.1 96 y1 y2) 96 (x4 + 3) 1) 96 1)))), .ref 96]) rfl ?_
  obtain ⟨o43, h⟩ := h
  refine lf_iast 135 1538 rfl rfl rfl rfl rfl rfl o43 ?_
  refine lf_as (lf_up (lf_up (lf_up s.1 96 y1 y2) 96 (x4 + 3) 1) 96 (174 + (5 * ((lf_up (lf_up s.1 96 y1 y2) 96 (x4 + 3) 1) 96 1))) 0, s.2.1, s.2.2) rfl ?_
  refine lf_seg 4 (pc' := 141) (lv' := [(0, .ref 95), (4, .int (Int32.ofInt x4))]) (st' := [.int (Int32.ofInt 1), .ref 96, .int (Int32.ofInt 1), .ref 96]) rfl ?_
  refine lf_iald 142 1538 rfl rfl rfl rfl rfl rfl ⟨by decide, by decide⟩ ?_
  refine lf_seg 1 (pc' := 143) (lv' := [(0, .ref 95), (4, .int (Int32.ofInt x4))]) (st' := [.int (Int32.ofInt 1), .int (Int32.ofInt ((lf_up (lf_up (lf_up s.1 96 y1 y2) 96 (x4 + 3) 1) 96 (174 + (5 * ((lf_up (lf_up s.1 96 y1 y2) 96 (x4 + 3) 1) 96 1))) 0) 96 1)), .int (Int32.ofInt 1), .ref 96]) rfl ?_
  refine lf_iadd 144 rfl rfl ?_
  refine lf_iast 145 1538 rfl rfl rfl rfl rfl rfl ⟨by decide, by decide⟩ ?_
  refine lf_as (lf_up (lf_up (lf_up (lf_up s.1 96 y1 y2) 96 (x4 + 3) 1) 96 (174 + (5 * ((lf_up (lf_up s.1 96 y1 y2) 96 (x4 + 3) 1) 96 1))) 0) 96 1 (((lf_up (lf_up (lf_up s.1 96 y1 y2) 96 (x4 + 3) 1) 96 (174 + (5 * ((lf_up (lf_up s.1 96 y1 y2) 96 (x4 + 3) 1) 96 1))) 0) 96 1) + 1), s.2.1, s.2.2) rfl ?_
  refine lf_seg 3 (pc' := 150) (lv' := [(0, .ref 95), (4, .int (Int32.ofInt x4))]) (st' := [.int (Int32.ofInt 1), .ref 96]) rfl ?_
  refine lf_iald 151 1538 rfl rfl rfl rfl rfl rfl ⟨by decide, by decide⟩ ?_
  refine lf_seg 1 (pc' := 152) (lv' := [(0, .ref 95), (4, .int (Int32.ofInt x4))]) (st' := [.int (Int32.ofInt 1), .int (Int32.ofInt (((lf_up (lf_up (lf_up s.1 96 y1 y2) 96 (x4 + 3) 1) 96 (174 + (5 * ((lf_up (lf_up s.1 96 y1 y2) 96 (x4 + 3) 1) 96 1))) 0) 96 1) + 1))]) rfl ?_
  refine lf_isub 153 rfl rfl ?_
  exact lf_retI rfl rfl h
def fm_184 (a1 : Int) (a2 : Int) (a3 : Int) (Q : Int → lf_Z → Prop) (s : lf_Z) : Prop := fm_185 a1 (fun z22 s21 => ((z22 = false → (Q (-1) s21)) ∧ (z22 = true → (fm_185 a2 (fun z24 s23 => ((z24 = false → (Q (-1) s23)) ∧ (z24 = true → (lf_R a1 ∧ (lf_R a2 ∧ ((a1 = a2 → (Q (-1) s23)) ∧ (¬ (a1 = a2) → (fm_186 a1 (fun r28 s27 => (fm_188 r28 (fun r30 s29 => (lf_R r30 ∧ ((r30 = 4 → (Q (-1) s29)) ∧ (¬ (r30 = 4) → (fm_186 a2 (fun r33 s32 => (fm_188 r33 (fun r35 s34 => (lf_R r35 ∧ ((r35 = 4 → (Q (-1) s34)) ∧ (¬ (r35 = 4) → (lf_R (s34.1 96 1) ∧ ((s34.1 96 1 ≠ 16 → ((0 ≤ 50 + (4 * (s34.1 96 1)) ∧ 50 + (4 * (s34.1 96 1)) < 1538) ∧ ((0 ≤ (50 + (4 * (s34.1 96 1))) + 1 ∧ (50 + (4 * (s34.1 96 1))) + 1 < 1538) ∧ (lf_R a3 ∧ ((a3 = 0 → (fm_184_p106 Q (50 + (4 * (s34.1 96 1))) ((50 + (4 * (s34.1 96 1))) + 2) 0 (lf_up (lf_up s34.1 96 (50 + (4 * (s34.1 96 1))) a1) 96 ((50 + (4 * (s34.1 96 1))) + 1) a2, s34.2.1, s34.2.2))) ∧ (¬ (a3 = 0) → (fm_184_p106 Q (50 + (4 * (s34.1 96 1))) ((50 + (4 * (s34.1 96 1))) + 2) 1 (lf_up (lf_up s34.1 96 (50 + (4 * (s34.1 96 1))) a1) 96 ((50 + (4 * (s34.1 96 1))) + 1) a2, s34.2.1, s34.2.2)))))))) ∧ (¬ (s34.1 96 1 ≠ 16) → (Q (-1) s34)))))))) s32)) s29))))) s27)) s23)))))))) s21)))) s
set_option maxRecDepth 100000 in
theorem gm_184 {L : Nat} {xs : Nat → Int32} {d : Nat} {a1 : Int} {a2 : Int} {a3 : Int} {Q : Int → lf_Z → Prop} {s : lf_Z} (h : fm_184 a1 a2 a3 Q s) : lf_M (px_ro L xs) (d + 3) 184 [.ref 95, .int (Int32.ofInt a1), .int (Int32.ofInt a2), .int (Int32.ofInt a3)] s (lf_qi Q) := by
  unfold fm_184 at h
  show lf_E (px_ro L xs) (d + 3) 184 0 [(0, .ref 95), (1, .int (Int32.ofInt a1)), (2, .int (Int32.ofInt a2)), (3, .int (Int32.ofInt a3))] [] s _
  refine lf_seg 2 (pc' := 2) (lv' := [(0, .ref 95), (1, .int (Int32.ofInt a1)), (2, .int (Int32.ofInt a2)), (3, .int (Int32.ofInt a3))]) (st' := [.int (Int32.ofInt a1), .ref 95]) rfl ?_
  refine lf_callZ 5 rfl rfl rfl rfl (gm_185 h) (fun z22 s21 h => ?_)
  refine lf_ifz_eq 56 8 rfl rfl rfl (fun c => ?_) (fun c => ?_)
  · have h := h.1 c
    refine lf_seg 1 (pc' := 57) (lv' := [(0, .ref 95), (1, .int (Int32.ofInt a1)), (2, .int (Int32.ofInt a2)), (3, .int (Int32.ofInt a3))]) (st' := [.int (Int32.ofInt (-1))]) rfl ?_
    exact lf_retI rfl rfl h
  · have h := h.2 c
    refine lf_seg 2 (pc' := 10) (lv' := [(0, .ref 95), (1, .int (Int32.ofInt a1)), (2, .int (Int32.ofInt a2)), (3, .int (Int32.ofInt a3))]) (st' := [.int (Int32.ofInt a2), .ref 95]) rfl ?_
    refine lf_callZ 13 rfl rfl rfl rfl (gm_185 h) (fun z24 s23 h => ?_)
    refine lf_ifz_eq 56 16 rfl rfl rfl (fun c => ?_) (fun c => ?_)
    · have h := h.1 c
      refine lf_seg 1 (pc' := 57) (lv' := [(0, .ref 95), (1, .int (Int32.ofInt a1)), (2, .int (Int32.ofInt a2)), (3, .int (Int32.ofInt a3))]) (st' := [.int (Int32.ofInt (-1))]) rfl ?_
      exact lf_retI rfl rfl h
    · have h := h.2 c
      refine lf_seg 2 (pc' := 18) (lv' := [(0, .ref 95), (1, .int (Int32.ofInt a1)), (2, .int (Int32.ofInt a2)), (3, .int (Int32.ofInt a3))]) (st' := [.int (Int32.ofInt a2), .int (Int32.ofInt a1)]) rfl ?_
      obtain ⟨o25, h⟩ := h
      obtain ⟨o26, h⟩ := h
      refine lf_icmp_eq 56 21 rfl rfl rfl o25 o26 (fun c => ?_) (fun c => ?_)
      · have h := h.1 c
        refine lf_seg 1 (pc' := 57) (lv' := [(0, .ref 95), (1, .int (Int32.ofInt a1)), (2, .int (Int32.ofInt a2)), (3, .int (Int32.ofInt a3))]) (st' := [.int (Int32.ofInt (-1))]) rfl ?_
        exact lf_retI rfl rfl h
      · have h := h.2 c
        refine lf_seg 2 (pc' := 23) (lv' := [(0, .ref 95), (1, .int (Int32.ofInt a1)), (2, .int (Int32.ofInt a2)), (3, .int (Int32.ofInt a3))]) (st' := [.int (Int32.ofInt a1), .ref 95]) rfl ?_
        refine lf_callI 26 rfl rfl rfl rfl (gm_186 h) (fun r28 s27 h => ?_)
        refine lf_callI 29 rfl rfl rfl rfl (gm_188 h) (fun r30 s29 h => ?_)
        refine lf_seg 1 (pc' := 30) (lv' := [(0, .ref 95), (1, .int (Int32.ofInt a1)), (2, .int (Int32.ofInt a2)), (3, .int (Int32.ofInt a3))]) (st' := [.int (Int32.ofInt 4), .int (Int32.ofInt r30)]) rfl ?_
        obtain ⟨o31, h⟩ := h
        refine lf_icmp_eq 56 33 rfl rfl rfl o31 ⟨by decide, by decide⟩ (fun c => ?_) (fun c => ?_)
        · have h := h.1 c
          refine lf_seg 1 (pc' := 57) (lv' := [(0, .ref 95), (1, .int (Int32.ofInt a1)), (2, .int (Int32.ofInt a2)), (3, .int (Int32.ofInt a3))]) (st' := [.int (Int32.ofInt (-1))]) rfl ?_
          exact lf_retI rfl rfl h
        · have h := h.2 c
          refine lf_seg 2 (pc' := 35) (lv' := [(0, .ref 95), (1, .int (Int32.ofInt a1)), (2, .int (Int32.ofInt a2)), (3, .int (Int32.ofInt a3))]) (st' := [.int (Int32.ofInt a2), .ref 95]) rfl ?_
          refine lf_callI 38 rfl rfl rfl rfl (gm_186 h) (fun r33 s32 h => ?_)
          refine lf_callI 41 rfl rfl rfl rfl (gm_188 h) (fun r35 s34 h => ?_)
          refine lf_seg 1 (pc' := 42) (lv' := [(0, .ref 95), (1, .int (Int32.ofInt a1)), (2, .int (Int32.ofInt a2)), (3, .int (Int32.ofInt a3))]) (st' := [.int (Int32.ofInt 4), .int (Int32.ofInt r35)]) rfl ?_
          obtain ⟨o36, h⟩ := h
          refine lf_icmp_eq 56 45 rfl rfl rfl o36 ⟨by decide, by decide⟩ (fun c => ?_) (fun c => ?_)
          · have h := h.1 c
            refine lf_seg 1 (pc' := 57) (lv' := [(0, .ref 95), (1, .int (Int32.ofInt a1)), (2, .int (Int32.ofInt a2)), (3, .int (Int32.ofInt a3))]) (st' := [.int (Int32.ofInt (-1))]) rfl ?_
            exact lf_retI rfl rfl h
          · have h := h.2 c
            refine lf_seg 3 (pc' := 50) (lv' := [(0, .ref 95), (1, .int (Int32.ofInt a1)), (2, .int (Int32.ofInt a2)), (3, .int (Int32.ofInt a3))]) (st' := [.int (Int32.ofInt 1), .ref 96]) rfl ?_
            refine lf_iald 51 1538 rfl rfl rfl rfl rfl rfl ⟨by decide, by decide⟩ ?_
            refine lf_bipush 53 16 rfl rfl (by decide) (by decide) ?_
            obtain ⟨o37, h⟩ := h
            refine lf_icmp_ne 58 56 rfl rfl rfl o37 ⟨by decide, by decide⟩ (fun c => ?_) (fun c => ?_)
            · have h := h.1 c
              refine lf_bipush 60 50 rfl rfl (by decide) (by decide) ?_
              refine lf_seg 4 (pc' := 66) (lv' := [(0, .ref 95), (1, .int (Int32.ofInt a1)), (2, .int (Int32.ofInt a2)), (3, .int (Int32.ofInt a3))]) (st' := [.int (Int32.ofInt 1), .ref 96, .int (Int32.ofInt 4), .int (Int32.ofInt 50)]) rfl ?_
              refine lf_iald 67 1538 rfl rfl rfl rfl rfl rfl ⟨by decide, by decide⟩ ?_
              refine lf_imul 68 rfl rfl ?_
              refine lf_iadd 69 rfl rfl ?_
              refine lf_seg 5 (pc' := 78) (lv' := [(4, .int (Int32.ofInt (50 + (4 * (s34.1 96 1))))), (0, .ref 95), (1, .int (Int32.ofInt a1)), (2, .int (Int32.ofInt a2)), (3, .int (Int32.ofInt a3))]) (st' := [.int (Int32.ofInt a1), .int (Int32.ofInt (50 + (4 * (s34.1 96 1)))), .ref 96]) rfl ?_
              obtain ⟨o38, h⟩ := h
              refine lf_iast 79 1538 rfl rfl rfl rfl rfl rfl o38 ?_
              refine lf_as (lf_up s34.1 96 (50 + (4 * (s34.1 96 1))) a1, s34.2.1, s34.2.2) rfl ?_
              refine lf_seg 4 (pc' := 86) (lv' := [(4, .int (Int32.ofInt (50 + (4 * (s34.1 96 1))))), (0, .ref 95), (1, .int (Int32.ofInt a1)), (2, .int (Int32.ofInt a2)), (3, .int (Int32.ofInt a3))]) (st' := [.int (Int32.ofInt 1), .int (Int32.ofInt (50 + (4 * (s34.1 96 1)))), .ref 96]) rfl ?_
              refine lf_iadd 87 rfl rfl ?_
              refine lf_seg 1 (pc' := 88) (lv' := [(4, .int (Int32.ofInt (50 + (4 * (s34.1 96 1))))), (0, .ref 95), (1, .int (Int32.ofInt a1)), (2, .int (Int32.ofInt a2)), (3, .int (Int32.ofInt a3))]) (st' := [.int (Int32.ofInt a2), .int (Int32.ofInt ((50 + (4 * (s34.1 96 1))) + 1)), .ref 96]) rfl ?_
              obtain ⟨o39, h⟩ := h
              refine lf_iast 89 1538 rfl rfl rfl rfl rfl rfl o39 ?_
              refine lf_as (lf_up (lf_up s34.1 96 (50 + (4 * (s34.1 96 1))) a1) 96 ((50 + (4 * (s34.1 96 1))) + 1) a2, s34.2.1, s34.2.2) rfl ?_
              refine lf_seg 4 (pc' := 96) (lv' := [(4, .int (Int32.ofInt (50 + (4 * (s34.1 96 1))))), (0, .ref 95), (1, .int (Int32.ofInt a1)), (2, .int (Int32.ofInt a2)), (3, .int (Int32.ofInt a3))]) (st' := [.int (Int32.ofInt 2), .int (Int32.ofInt (50 + (4 * (s34.1 96 1)))), .ref 96]) rfl ?_
              refine lf_iadd 97 rfl rfl ?_
              refine lf_seg 1 (pc' := 98) (lv' := [(4, .int (Int32.ofInt (50 + (4 * (s34.1 96 1))))), (0, .ref 95), (1, .int (Int32.ofInt a1)), (2, .int (Int32.ofInt a2)), (3, .int (Int32.ofInt a3))]) (st' := [.int (Int32.ofInt a3), .int (Int32.ofInt ((50 + (4 * (s34.1 96 1))) + 2)), .ref 96]) rfl ?_
              obtain ⟨o40, h⟩ := h
              refine lf_if_eq 105 101 rfl rfl rfl o40 (fun c => ?_) (fun c => ?_)
              · have h := h.1 c
                refine lf_seg 1 (pc' := 106) (lv' := [(4, .int (Int32.ofInt (50 + (4 * (s34.1 96 1))))), (0, .ref 95), (1, .int (Int32.ofInt a1)), (2, .int (Int32.ofInt a2)), (3, .int (Int32.ofInt a3))]) (st' := [.int (Int32.ofInt 0), .int (Int32.ofInt ((50 + (4 * (s34.1 96 1))) + 2)), .ref 96]) rfl ?_
                refine lf_sub (l := [(0, .ref 95), (4, .int (Int32.ofInt (50 + (4 * (s34.1 96 1)))))]) (lf_sb1 rfl (lf_sb1 rfl lf_sb0)) ?_
                exact gm_184_p106 h
              · have h := h.2 c
                refine lf_seg 2 (pc' := 106) (lv' := [(4, .int (Int32.ofInt (50 + (4 * (s34.1 96 1))))), (0, .ref 95), (1, .int (Int32.ofInt a1)), (2, .int (Int32.ofInt a2)), (3, .int (Int32.ofInt a3))]) (st' := [.int (Int32.ofInt 1), .int (Int32.ofInt ((50 + (4 * (s34.1 96 1))) + 2)), .ref 96]) rfl ?_
                refine lf_sub (l := [(0, .ref 95), (4, .int (Int32.ofInt (50 + (4 * (s34.1 96 1)))))]) (lf_sb1 rfl (lf_sb1 rfl lf_sb0)) ?_
                exact gm_184_p106 h
            · have h := h.2 c
              refine lf_seg 1 (pc' := 57) (lv' := [(0, .ref 95), (1, .int (Int32.ofInt a1)), (2, .int (Int32.ofInt a2)), (3, .int (Int32.ofInt a3))]) (st' := [.int (Int32.ofInt (-1))]) rfl ?_
              exact lf_retI rfl rfl h
-- fm_24 Land.addPerson 1 i i i i
def fm_24 (a1 : Int) (a2 : Int) (a3 : Int) (a4 : Int) (Q : Int → lf_Z → Prop) (s : lf_Z) : Prop := lf_R (s.1 1 2) ∧ ((s.1 1 2 < 6 → ((0 ≤ s.1 1 2 ∧ s.1 1 2 < 6) ∧ ((a2 = 0 ∨ a2 = 1) ∧ ((a3 = 0 ∨ a3 = 1) ∧ (Q (((s.1 1 2) + 1) - 1) (lf_up (lf_up (lf_up (lf_up (lf_up s.1 7 (s.1 1 2) a1) 8 (s.1 1 2) a2) 9 (s.1 1 2) a3) 10 (s.1 1 2) a4) 1 2 ((s.1 1 2) + 1), s.2.1, s.2.2)))))) ∧ (¬ (s.1 1 2 < 6) → (Q (-1) s)))
set_option maxRecDepth 100000 in
theorem gm_24 {L : Nat} {xs : Nat → Int32} {d : Nat} {a1 : Int} {a2 : Int} {a3 : Int} {a4 : Int} {Q : Int → lf_Z → Prop} {s : lf_Z} (h : fm_24 a1 a2 a3 a4 Q s) : lf_M (px_ro L xs) (d + 1) 24 [.ref 1, .int (Int32.ofInt a1), .int (Int32.ofInt a2), .int (Int32.ofInt a3), .int (Int32.ofInt a4)] s (lf_qi Q) := by
  unfold fm_24 at h
  show lf_E (px_ro L xs) (d + 1) 24 0 [(0, .ref 1), (1, .int (Int32.ofInt a1)), (2, .int (Int32.ofInt a2)), (3, .int (Int32.ofInt a3)), (4, .int (Int32.ofInt a4))] [] s _
  refine lf_seg 1 (pc' := 1) (lv' := [(0, .ref 1), (1, .int (Int32.ofInt a1)), (2, .int (Int32.ofInt a2)), (3, .int (Int32.ofInt a3)), (4, .int (Int32.ofInt a4))]) (st' := [.ref 1]) rfl ?_
  refine lf_getI 4 2 rfl rfl rfl rfl rfl rfl rfl ?_
  refine lf_bipush 6 6 rfl rfl (by decide) (by decide) ?_
  obtain ⟨o21, h⟩ := h
  refine lf_icmp_lt 11 9 rfl rfl rfl o21 ⟨by decide, by decide⟩ (fun c => ?_) (fun c => ?_)
  · have h := h.1 c
    refine lf_seg 3 (pc' := 16) (lv' := [(0, .ref 1), (1, .int (Int32.ofInt a1)), (2, .int (Int32.ofInt a2)), (3, .int (Int32.ofInt a3)), (4, .int (Int32.ofInt a4))]) (st' := [.ref 1, .ref 7]) rfl ?_
    refine lf_getI 19 2 rfl rfl rfl rfl rfl rfl rfl ?_
    refine lf_seg 1 (pc' := 20) (lv' := [(0, .ref 1), (1, .int (Int32.ofInt a1)), (2, .int (Int32.ofInt a2)), (3, .int (Int32.ofInt a3)), (4, .int (Int32.ofInt a4))]) (st' := [.int (Int32.ofInt a1), .int (Int32.ofInt (s.1 1 2)), .ref 7]) rfl ?_
    obtain ⟨o22, h⟩ := h
    refine lf_iast 21 6 rfl rfl rfl rfl rfl rfl o22 ?_
    refine lf_as (lf_up s.1 7 (s.1 1 2) a1, s.2.1, s.2.2) rfl ?_
    refine lf_seg 3 (pc' := 26) (lv' := [(0, .ref 1), (1, .int (Int32.ofInt a1)), (2, .int (Int32.ofInt a2)), (3, .int (Int32.ofInt a3)), (4, .int (Int32.ofInt a4))]) (st' := [.ref 1, .ref 8]) rfl ?_
    refine lf_getI 29 2 rfl rfl rfl rfl rfl rfl rfl ?_
    refine lf_seg 1 (pc' := 30) (lv' := [(0, .ref 1), (1, .int (Int32.ofInt a1)), (2, .int (Int32.ofInt a2)), (3, .int (Int32.ofInt a3)), (4, .int (Int32.ofInt a4))]) (st' := [.int (Int32.ofInt a2), .int (Int32.ofInt (s.1 1 2)), .ref 8]) rfl ?_
    obtain ⟨o23, h⟩ := h
    refine lf_zast 31 6 rfl rfl rfl rfl rfl rfl o22 o23 ?_
    refine lf_as (lf_up (lf_up s.1 7 (s.1 1 2) a1) 8 (s.1 1 2) a2, s.2.1, s.2.2) rfl ?_
    refine lf_seg 3 (pc' := 36) (lv' := [(0, .ref 1), (1, .int (Int32.ofInt a1)), (2, .int (Int32.ofInt a2)), (3, .int (Int32.ofInt a3)), (4, .int (Int32.ofInt a4))]) (st' := [.ref 1, .ref 9]) rfl ?_
    refine lf_getI 39 2 rfl rfl rfl rfl rfl rfl rfl ?_
    refine lf_seg 1 (pc' := 40) (lv' := [(0, .ref 1), (1, .int (Int32.ofInt a1)), (2, .int (Int32.ofInt a2)), (3, .int (Int32.ofInt a3)), (4, .int (Int32.ofInt a4))]) (st' := [.int (Int32.ofInt a3), .int (Int32.ofInt (s.1 1 2)), .ref 9]) rfl ?_
    obtain ⟨o24, h⟩ := h
    refine lf_zast 41 6 rfl rfl rfl rfl rfl rfl o22 o24 ?_
    refine lf_as (lf_up (lf_up (lf_up s.1 7 (s.1 1 2) a1) 8 (s.1 1 2) a2) 9 (s.1 1 2) a3, s.2.1, s.2.2) rfl ?_
    refine lf_seg 3 (pc' := 46) (lv' := [(0, .ref 1), (1, .int (Int32.ofInt a1)), (2, .int (Int32.ofInt a2)), (3, .int (Int32.ofInt a3)), (4, .int (Int32.ofInt a4))]) (st' := [.ref 1, .ref 10]) rfl ?_
    refine lf_getI 49 2 rfl rfl rfl rfl rfl rfl rfl ?_
    refine lf_seg 1 (pc' := 51) (lv' := [(0, .ref 1), (1, .int (Int32.ofInt a1)), (2, .int (Int32.ofInt a2)), (3, .int (Int32.ofInt a3)), (4, .int (Int32.ofInt a4))]) (st' := [.int (Int32.ofInt a4), .int (Int32.ofInt (s.1 1 2)), .ref 10]) rfl ?_
    refine lf_iast 52 6 rfl rfl rfl rfl rfl rfl o22 ?_
    refine lf_as (lf_up (lf_up (lf_up (lf_up s.1 7 (s.1 1 2) a1) 8 (s.1 1 2) a2) 9 (s.1 1 2) a3) 10 (s.1 1 2) a4, s.2.1, s.2.2) rfl ?_
    refine lf_seg 2 (pc' := 54) (lv' := [(0, .ref 1), (1, .int (Int32.ofInt a1)), (2, .int (Int32.ofInt a2)), (3, .int (Int32.ofInt a3)), (4, .int (Int32.ofInt a4))]) (st' := [.ref 1, .ref 1]) rfl ?_
    refine lf_getI 57 2 rfl rfl rfl rfl rfl rfl rfl ?_
    refine lf_seg 1 (pc' := 58) (lv' := [(0, .ref 1), (1, .int (Int32.ofInt a1)), (2, .int (Int32.ofInt a2)), (3, .int (Int32.ofInt a3)), (4, .int (Int32.ofInt a4))]) (st' := [.int (Int32.ofInt 1), .int (Int32.ofInt (s.1 1 2)), .ref 1]) rfl ?_
    refine lf_iadd 59 rfl rfl ?_
    refine lf_putI 62 2 rfl rfl rfl rfl rfl rfl rfl rfl ?_
    refine lf_as (lf_up (lf_up (lf_up (lf_up (lf_up s.1 7 (s.1 1 2) a1) 8 (s.1 1 2) a2) 9 (s.1 1 2) a3) 10 (s.1 1 2) a4) 1 2 ((s.1 1 2) + 1), s.2.1, s.2.2) rfl ?_
    refine lf_seg 1 (pc' := 63) (lv' := [(0, .ref 1), (1, .int (Int32.ofInt a1)), (2, .int (Int32.ofInt a2)), (3, .int (Int32.ofInt a3)), (4, .int (Int32.ofInt a4))]) (st' := [.ref 1]) rfl ?_
    refine lf_getI 66 2 rfl rfl rfl rfl rfl rfl rfl ?_
    refine lf_seg 1 (pc' := 67) (lv' := [(0, .ref 1), (1, .int (Int32.ofInt a1)), (2, .int (Int32.ofInt a2)), (3, .int (Int32.ofInt a3)), (4, .int (Int32.ofInt a4))]) (st' := [.int (Int32.ofInt 1), .int (Int32.ofInt ((s.1 1 2) + 1))]) rfl ?_
    refine lf_isub 68 rfl rfl ?_
    exact lf_retI rfl rfl h
  · have h := h.2 c
    refine lf_seg 1 (pc' := 10) (lv' := [(0, .ref 1), (1, .int (Int32.ofInt a1)), (2, .int (Int32.ofInt a2)), (3, .int (Int32.ofInt a3)), (4, .int (Int32.ofInt a4))]) (st' := [.int (Int32.ofInt (-1))]) rfl ?_
    exact lf_retI rfl rfl h
-- fm_23 ElevenBullocks.person 0 i i i i
def fm_23 (a1 : Int) (a2 : Int) (a3 : Int) (a4 : Int) (Q : Int → lf_Z → Prop) (s : lf_Z) : Prop := fm_15 a1 0 9 (fun z22 s21 => ((z22 = false → (Q (-1) s21)) ∧ (z22 = true → (fm_18 a4 (fun z24 s23 => ((z24 = true → (fm_24 a1 a2 a3 a4 (fun r26 s25 => (lf_R r26 ∧ ((r26 = (-1) → (Q r26 s25)) ∧ (¬ (r26 = (-1)) → ((0 ≤ r26 ∧ r26 < 6) ∧ (Q r26 (lf_up (lf_up s25.1 19 r26 a4) 20 r26 (-1), s25.2.1, s25.2.2))))))) s23)) ∧ (z24 = false → (Q (-1) s23)))) s21)))) s
set_option maxRecDepth 100000 in
theorem gm_23 {L : Nat} {xs : Nat → Int32} {d : Nat} {a1 : Int} {a2 : Int} {a3 : Int} {a4 : Int} {Q : Int → lf_Z → Prop} {s : lf_Z} (h : fm_23 a1 a2 a3 a4 Q s) : lf_M (px_ro L xs) (d + 2) 23 [.ref 0, .int (Int32.ofInt a1), .int (Int32.ofInt a2), .int (Int32.ofInt a3), .int (Int32.ofInt a4)] s (lf_qi Q) := by
  unfold fm_23 at h
  show lf_E (px_ro L xs) (d + 2) 23 0 [(0, .ref 0), (1, .int (Int32.ofInt a1)), (2, .int (Int32.ofInt a2)), (3, .int (Int32.ofInt a3)), (4, .int (Int32.ofInt a4))] [] s _
  refine lf_seg 2 (pc' := 2) (lv' := [(0, .ref 0), (1, .int (Int32.ofInt a1)), (2, .int (Int32.ofInt a2)), (3, .int (Int32.ofInt a3)), (4, .int (Int32.ofInt a4))]) (st' := [.int (Int32.ofInt 0), .int (Int32.ofInt a1)]) rfl ?_
  refine lf_bipush 4 9 rfl rfl (by decide) (by decide) ?_
  refine lf_callZ 7 rfl rfl rfl rfl (gm_15 h) (fun z22 s21 h => ?_)
  refine lf_ifz_eq 22 10 rfl rfl rfl (fun c => ?_) (fun c => ?_)
  · have h := h.1 c
    refine lf_seg 1 (pc' := 23) (lv' := [(0, .ref 0), (1, .int (Int32.ofInt a1)), (2, .int (Int32.ofInt a2)), (3, .int (Int32.ofInt a3)), (4, .int (Int32.ofInt a4))]) (st' := [.int (Int32.ofInt (-1))]) rfl ?_
    exact lf_retI rfl rfl h
  · have h := h.2 c
    refine lf_seg 3 (pc' := 16) (lv' := [(0, .ref 0), (1, .int (Int32.ofInt a1)), (2, .int (Int32.ofInt a2)), (3, .int (Int32.ofInt a3)), (4, .int (Int32.ofInt a4))]) (st' := [.int (Int32.ofInt a4), .ref 1]) rfl ?_
    refine lf_callZ 19 rfl rfl rfl rfl (gm_18 h) (fun z24 s23 h => ?_)
    refine lf_ifz_ne 24 22 rfl rfl rfl (fun c => ?_) (fun c => ?_)
    · have h := h.1 c
      refine lf_seg 6 (pc' := 33) (lv' := [(0, .ref 0), (1, .int (Int32.ofInt a1)), (2, .int (Int32.ofInt a2)), (3, .int (Int32.ofInt a3)), (4, .int (Int32.ofInt a4))]) (st' := [.int (Int32.ofInt a4), .int (Int32.ofInt a3), .int (Int32.ofInt a2), .int (Int32.ofInt a1), .ref 1]) rfl ?_
      refine lf_callI 36 rfl rfl rfl rfl (gm_24 h) (fun r26 s25 h => ?_)
      refine lf_seg 3 (pc' := 41) (lv' := [(5, .int (Int32.ofInt r26)), (0, .ref 0), (1, .int (Int32.ofInt a1)), (2, .int (Int32.ofInt a2)), (3, .int (Int32.ofInt a3)), (4, .int (Int32.ofInt a4))]) (st' := [.int (Int32.ofInt (-1)), .int (Int32.ofInt r26)]) rfl ?_
      obtain ⟨o27, h⟩ := h
      refine lf_icmp_eq 67 44 rfl rfl rfl o27 ⟨by decide, by decide⟩ (fun c => ?_) (fun c => ?_)
      · have h := h.1 c
        refine lf_seg 1 (pc' := 69) (lv' := [(5, .int (Int32.ofInt r26)), (0, .ref 0), (1, .int (Int32.ofInt a1)), (2, .int (Int32.ofInt a2)), (3, .int (Int32.ofInt a3)), (4, .int (Int32.ofInt a4))]) (st' := [.int (Int32.ofInt r26)]) rfl ?_
        exact lf_retI rfl rfl h
      · have h := h.2 c
        refine lf_seg 5 (pc' := 55) (lv' := [(5, .int (Int32.ofInt r26)), (0, .ref 0), (1, .int (Int32.ofInt a1)), (2, .int (Int32.ofInt a2)), (3, .int (Int32.ofInt a3)), (4, .int (Int32.ofInt a4))]) (st' := [.int (Int32.ofInt a4), .int (Int32.ofInt r26), .ref 19]) rfl ?_
        obtain ⟨o28, h⟩ := h
        refine lf_iast 56 6 rfl rfl rfl rfl rfl rfl o28 ?_
        refine lf_as (lf_up s25.1 19 r26 a4, s25.2.1, s25.2.2) rfl ?_
        refine lf_seg 5 (pc' := 66) (lv' := [(5, .int (Int32.ofInt r26)), (0, .ref 0), (1, .int (Int32.ofInt a1)), (2, .int (Int32.ofInt a2)), (3, .int (Int32.ofInt a3)), (4, .int (Int32.ofInt a4))]) (st' := [.int (Int32.ofInt (-1)), .int (Int32.ofInt r26), .ref 20]) rfl ?_
        refine lf_iast 67 6 rfl rfl rfl rfl rfl rfl o28 ?_
        refine lf_as (lf_up (lf_up s25.1 19 r26 a4) 20 r26 (-1), s25.2.1, s25.2.2) rfl ?_
        refine lf_seg 1 (pc' := 69) (lv' := [(5, .int (Int32.ofInt r26)), (0, .ref 0), (1, .int (Int32.ofInt a1)), (2, .int (Int32.ofInt a2)), (3, .int (Int32.ofInt a3)), (4, .int (Int32.ofInt a4))]) (st' := [.int (Int32.ofInt r26)]) rfl ?_
        exact lf_retI rfl rfl h
    · have h := h.2 c
      refine lf_seg 1 (pc' := 23) (lv' := [(0, .ref 0), (1, .int (Int32.ofInt a1)), (2, .int (Int32.ofInt a2)), (3, .int (Int32.ofInt a3)), (4, .int (Int32.ofInt a4))]) (st' := [.int (Int32.ofInt (-1))]) rfl ?_
      exact lf_retI rfl rfl h
-- fm_191 Model.set 95 i 0 i
def fm_191 (a1 : Int) (a3 : Int) (Q : lf_Z → Prop) (s : lf_Z) : Prop := (0 ≤ (126 + (6 * a1)) + 0 ∧ (126 + (6 * a1)) + 0 < 1538) ∧ (Q (lf_up s.1 96 ((126 + (6 * a1)) + 0) a3, s.2.1, s.2.2))
set_option maxRecDepth 100000 in
theorem gm_191 {L : Nat} {xs : Nat → Int32} {d : Nat} {a1 : Int} {a3 : Int} {Q : lf_Z → Prop} {s : lf_Z} (h : fm_191 a1 a3 Q s) : lf_M (px_ro L xs) (d + 1) 191 [.ref 95, .int (Int32.ofInt a1), .int (Int32.ofInt 0), .int (Int32.ofInt a3)] s (lf_qv Q) := by
  unfold fm_191 at h
  show lf_E (px_ro L xs) (d + 1) 191 0 [(0, .ref 95), (1, .int (Int32.ofInt a1)), (2, .int (Int32.ofInt 0)), (3, .int (Int32.ofInt a3))] [] s _
  refine lf_seg 2 (pc' := 4) (lv' := [(0, .ref 95), (1, .int (Int32.ofInt a1)), (2, .int (Int32.ofInt 0)), (3, .int (Int32.ofInt a3))]) (st' := [.ref 96]) rfl ?_
  refine lf_bipush 6 126 rfl rfl (by decide) (by decide) ?_
  refine lf_bipush 8 6 rfl rfl (by decide) (by decide) ?_
  refine lf_seg 1 (pc' := 9) (lv' := [(0, .ref 95), (1, .int (Int32.ofInt a1)), (2, .int (Int32.ofInt 0)), (3, .int (Int32.ofInt a3))]) (st' := [.int (Int32.ofInt a1), .int (Int32.ofInt 6), .int (Int32.ofInt 126), .ref 96]) rfl ?_
  refine lf_imul 10 rfl rfl ?_
  refine lf_iadd 11 rfl rfl ?_
  refine lf_seg 1 (pc' := 12) (lv' := [(0, .ref 95), (1, .int (Int32.ofInt a1)), (2, .int (Int32.ofInt 0)), (3, .int (Int32.ofInt a3))]) (st' := [.int (Int32.ofInt 0), .int (Int32.ofInt (126 + (6 * a1))), .ref 96]) rfl ?_
  refine lf_iadd 13 rfl rfl ?_
  refine lf_seg 1 (pc' := 14) (lv' := [(0, .ref 95), (1, .int (Int32.ofInt a1)), (2, .int (Int32.ofInt 0)), (3, .int (Int32.ofInt a3))]) (st' := [.int (Int32.ofInt a3), .int (Int32.ofInt ((126 + (6 * a1)) + 0)), .ref 96]) rfl ?_
  obtain ⟨o21, h⟩ := h
  refine lf_iast 15 1538 rfl rfl rfl rfl rfl rfl o21 ?_
  refine lf_as (lf_up s.1 96 ((126 + (6 * a1)) + 0) a3, s.2.1, s.2.2) rfl ?_
  exact lf_retV rfl rfl h
-- fm_191b Model.set 95 i 1 i
def fm_191b (a1 : Int) (a3 : Int) (Q : lf_Z → Prop) (s : lf_Z) : Prop := (0 ≤ (126 + (6 * a1)) + 1 ∧ (126 + (6 * a1)) + 1 < 1538) ∧ (Q (lf_up s.1 96 ((126 + (6 * a1)) + 1) a3, s.2.1, s.2.2))
set_option maxRecDepth 100000 in
theorem gm_191b {L : Nat} {xs : Nat → Int32} {d : Nat} {a1 : Int} {a3 : Int} {Q : lf_Z → Prop} {s : lf_Z} (h : fm_191b a1 a3 Q s) : lf_M (px_ro L xs) (d + 1) 191 [.ref 95, .int (Int32.ofInt a1), .int (Int32.ofInt 1), .int (Int32.ofInt a3)] s (lf_qv Q) := by
  unfold fm_191b at h
  show lf_E (px_ro L xs) (d + 1) 191 0 [(0, .ref 95), (1, .int (Int32.ofInt a1)), (2, .int (Int32.ofInt 1)), (3, .int (Int32.ofInt a3))] [] s _
  refine lf_seg 2 (pc' := 4) (lv' := [(0, .ref 95), (1, .int (Int32.ofInt a1)), (2, .int (Int32.ofInt 1)), (3, .int (Int32.ofInt a3))]) (st' := [.ref 96]) rfl ?_
  refine lf_bipush 6 126 rfl rfl (by decide) (by decide) ?_
  refine lf_bipush 8 6 rfl rfl (by decide) (by decide) ?_
  refine lf_seg 1 (pc' := 9) (lv' := [(0, .ref 95), (1, .int (Int32.ofInt a1)), (2, .int (Int32.ofInt 1)), (3, .int (Int32.ofInt a3))]) (st' := [.int (Int32.ofInt a1), .int (Int32.ofInt 6), .int (Int32.ofInt 126), .ref 96]) rfl ?_
  refine lf_imul 10 rfl rfl ?_
  refine lf_iadd 11 rfl rfl ?_
  refine lf_seg 1 (pc' := 12) (lv' := [(0, .ref 95), (1, .int (Int32.ofInt a1)), (2, .int (Int32.ofInt 1)), (3, .int (Int32.ofInt a3))]) (st' := [.int (Int32.ofInt 1), .int (Int32.ofInt (126 + (6 * a1))), .ref 96]) rfl ?_
  refine lf_iadd 13 rfl rfl ?_
  refine lf_seg 1 (pc' := 14) (lv' := [(0, .ref 95), (1, .int (Int32.ofInt a1)), (2, .int (Int32.ofInt 1)), (3, .int (Int32.ofInt a3))]) (st' := [.int (Int32.ofInt a3), .int (Int32.ofInt ((126 + (6 * a1)) + 1)), .ref 96]) rfl ?_
  obtain ⟨o21, h⟩ := h
  refine lf_iast 15 1538 rfl rfl rfl rfl rfl rfl o21 ?_
  refine lf_as (lf_up s.1 96 ((126 + (6 * a1)) + 1) a3, s.2.1, s.2.2) rfl ?_
  exact lf_retV rfl rfl h
