-- fm_166 ElevenBullocks.tried 0 i i
def fm_166_p70 (Q : Int → lf_Z → Prop) (y1 : Int) (y2 : Int) (y3 : Int) (s : lf_Z) : Prop := (0 ≤ y1 ∧ y1 < 4) ∧ (fm_168 (fun r31 s30 => (Q r31 s30)) (lf_up s.1 30 y1 (lf_w (y2 + y3)), s.2.1, s.2.2))
set_option maxRecDepth 100000 in
theorem gm_166_p70 {L : Nat} {xs : Nat → Int32} {d : Nat} {Q : Int → lf_Z → Prop} {y1 : Int} {y2 : Int} {y3 : Int} {s : lf_Z} (h : fm_166_p70 Q y1 y2 y3 s) : lf_E (px_ro L xs) (d + 3) 166 70 [(0, .ref 0)] [.int (Int32.ofInt y3), .int (Int32.ofInt y2), .int (Int32.ofInt y1), .ref 30] s (lf_qi Q) := by
  unfold fm_166_p70 at h
  refine lf_iadd 71 rfl rfl ?_
  refine lf_wtI ?_
  obtain ⟨o29, h⟩ := h
  refine lf_iast 72 4 rfl rfl rfl rfl rfl rfl o29 ?_
  refine lf_as (lf_up s.1 30 y1 (lf_w (y2 + y3)), s.2.1, s.2.2) rfl ?_
  refine lf_seg 2 (pc' := 76) (lv' := [(0, .ref 0)]) (st' := [.ref 25]) rfl ?_
  refine lf_callI 79 rfl rfl rfl rfl (gm_168 h) (fun r31 s30 h => ?_)
  exact lf_retI rfl rfl h
def fm_166 (a1 : Int) (a2 : Int) (Q : Int → lf_Z → Prop) (s : lf_Z) : Prop := lf_R a1 ∧ ((a1 ≠ (-1) → (fm_15 a1 0 3 (fun z23 s22 => ((z23 = false → (Q (-2) s22)) ∧ (z23 = true → (fm_168 (fun r25 s24 => (lf_R r25 ∧ ((r25 < 12 → ((0 ≤ a1 ∧ a1 < 4) ∧ (lf_R a2 ∧ ((a2 = 0 → (fm_166_p70 Q a1 (s24.1 30 a1) 0 (lf_up s24.1 29 a1 (lf_w ((s24.1 29 a1) + 1)), s24.2.1, s24.2.2))) ∧ (¬ (a2 = 0) → (fm_166_p70 Q a1 (s24.1 30 a1) 1 (lf_up s24.1 29 a1 (lf_w ((s24.1 29 a1) + 1)), s24.2.1, s24.2.2))))))) ∧ (¬ (r25 < 12) → (Q (-2) s24))))) s22)))) s)) ∧ (¬ (a1 ≠ (-1)) → (fm_167 (fun s32 => (Q 0 s32)) s)))
set_option maxRecDepth 100000 in
theorem gm_166 {L : Nat} {xs : Nat → Int32} {d : Nat} {a1 : Int} {a2 : Int} {Q : Int → lf_Z → Prop} {s : lf_Z} (h : fm_166 a1 a2 Q s) : lf_M (px_ro L xs) (d + 3) 166 [.ref 0, .int (Int32.ofInt a1), .int (Int32.ofInt a2)] s (lf_qi Q) := by
  unfold fm_166 at h
  show lf_E (px_ro L xs) (d + 3) 166 0 [(0, .ref 0), (1, .int (Int32.ofInt a1)), (2, .int (Int32.ofInt a2))] [] s _
  refine lf_seg 2 (pc' := 2) (lv' := [(0, .ref 0), (1, .int (Int32.ofInt a1)), (2, .int (Int32.ofInt a2))]) (st' := [.int (Int32.ofInt (-1)), .int (Int32.ofInt a1)]) rfl ?_
  obtain ⟨o21, h⟩ := h
  refine lf_icmp_ne 14 5 rfl rfl rfl o21 ⟨by decide, by decide⟩ (fun c => ?_) (fun c => ?_)
  · have h := h.1 c
    refine lf_seg 3 (pc' := 17) (lv' := [(0, .ref 0), (1, .int (Int32.ofInt a1)), (2, .int (Int32.ofInt a2))]) (st' := [.int (Int32.ofInt 3), .int (Int32.ofInt 0), .int (Int32.ofInt a1)]) rfl ?_
    refine lf_callZ 20 rfl rfl rfl rfl (gm_15 h) (fun z23 s22 h => ?_)
    refine lf_ifz_eq 35 23 rfl rfl rfl (fun c => ?_) (fun c => ?_)
    · have h := h.1 c
      refine lf_bipush 37 (-2) rfl rfl (by decide) (by decide) ?_
      exact lf_retI rfl rfl h
    · have h := h.2 c
      refine lf_seg 2 (pc' := 27) (lv' := [(0, .ref 0), (1, .int (Int32.ofInt a1)), (2, .int (Int32.ofInt a2))]) (st' := [.ref 25]) rfl ?_
      refine lf_callI 30 rfl rfl rfl rfl (gm_168 h) (fun r25 s24 h => ?_)
      refine lf_bipush 32 12 rfl rfl (by decide) (by decide) ?_
      obtain ⟨o26, h⟩ := h
      refine lf_icmp_lt 38 35 rfl rfl rfl o26 ⟨by decide, by decide⟩ (fun c => ?_) (fun c => ?_)
      · have h := h.1 c
        refine lf_seg 5 (pc' := 47) (lv' := [(0, .ref 0), (1, .int (Int32.ofInt a1)), (2, .int (Int32.ofInt a2))]) (st' := [.int (Int32.ofInt a1), .ref 29, .int (Int32.ofInt a1), .ref 29]) rfl ?_
        obtain ⟨o27, h⟩ := h
        refine lf_iald 48 4 rfl rfl rfl rfl rfl rfl o27 ?_
        refine lf_seg 1 (pc' := 49) (lv' := [(0, .ref 0), (1, .int (Int32.ofInt a1)), (2, .int (Int32.ofInt a2))]) (st' := [.int (Int32.ofInt 1), .int (Int32.ofInt (s24.1 29 a1)), .int (Int32.ofInt a1), .ref 29]) rfl ?_
        refine lf_iadd 50 rfl rfl ?_
        refine lf_wtI ?_
        refine lf_iast 51 4 rfl rfl rfl rfl rfl rfl o27 ?_
        refine lf_as (lf_up s24.1 29 a1 (lf_w ((s24.1 29 a1) + 1)), s24.2.1, s24.2.2) rfl ?_
        refine lf_seg 5 (pc' := 60) (lv' := [(0, .ref 0), (1, .int (Int32.ofInt a1)), (2, .int (Int32.ofInt a2))]) (st' := [.int (Int32.ofInt a1), .ref 30, .int (Int32.ofInt a1), .ref 30]) rfl ?_
        refine lf_iald 61 4 rfl rfl rfl rfl rfl rfl o27 ?_
        refine lf_seg 1 (pc' := 62) (lv' := [(0, .ref 0), (1, .int (Int32.ofInt a1)), (2, .int (Int32.ofInt a2))]) (st' := [.int (Int32.ofInt a2), .int (Int32.ofInt (s24.1 30 a1)), .int (Int32.ofInt a1), .ref 30]) rfl ?_
        obtain ⟨o28, h⟩ := h
        refine lf_if_eq 69 65 rfl rfl rfl o28 (fun c => ?_) (fun c => ?_)
        · have h := h.1 c
          refine lf_seg 1 (pc' := 70) (lv' := [(0, .ref 0), (1, .int (Int32.ofInt a1)), (2, .int (Int32.ofInt a2))]) (st' := [.int (Int32.ofInt 0), .int (Int32.ofInt (s24.1 30 a1)), .int (Int32.ofInt a1), .ref 30]) rfl ?_
          refine lf_sub (l := [(0, .ref 0)]) (lf_sb1 rfl lf_sb0) ?_
          exact gm_166_p70 h
        · have h := h.2 c
          refine lf_seg 2 (pc' := 70) (lv' := [(0, .ref 0), (1, .int (Int32.ofInt a1)), (2, .int (Int32.ofInt a2))]) (st' := [.int (Int32.ofInt 1), .int (Int32.ofInt (s24.1 30 a1)), .int (Int32.ofInt a1), .ref 30]) rfl ?_
          refine lf_sub (l := [(0, .ref 0)]) (lf_sb1 rfl lf_sb0) ?_
          exact gm_166_p70 h
      · have h := h.2 c
        refine lf_bipush 37 (-2) rfl rfl (by decide) (by decide) ?_
        exact lf_retI rfl rfl h
  · have h := h.2 c
    refine lf_seg 2 (pc' := 9) (lv' := [(0, .ref 0), (1, .int (Int32.ofInt a1)), (2, .int (Int32.ofInt a2))]) (st' := [.ref 25]) rfl ?_
    refine lf_callV 12 rfl rfl rfl rfl (gm_167 h) (fun s32 h => ?_)
    refine lf_seg 1 (pc' := 13) (lv' := [(0, .ref 0), (1, .int (Int32.ofInt a1)), (2, .int (Int32.ofInt a2))]) (st' := [.int (Int32.ofInt 0)]) rfl ?_
    exact lf_retI rfl rfl h
-- fm_321 Model.tried 95 i i
def fm_321_p86 (Q : Int → lf_Z → Prop) (y1 : Int) (y2 : Int) (s : lf_Z) : Prop := (0 ≤ y1 ∧ y1 < 1538) ∧ (Q (((lf_up s.1 96 y1 y2) 96 11) + 1) (lf_up (lf_up s.1 96 y1 y2) 96 11 (((lf_up s.1 96 y1 y2) 96 11) + 1), s.2.1, s.2.2))
set_option maxRecDepth 100000 in
theorem gm_321_p86 {L : Nat} {xs : Nat → Int32} {d : Nat} {Q : Int → lf_Z → Prop} {y1 : Int} {y2 : Int} {s : lf_Z} (h : fm_321_p86 Q y1 y2 s) : lf_E (px_ro L xs) (d + 2) 321 86 [(0, .ref 95)] [.int (Int32.ofInt y2), .int (Int32.ofInt y1), .ref 96] s (lf_qi Q) := by
  unfold fm_321_p86 at h
  obtain ⟨o27, h⟩ := h
  refine lf_iast 87 1538 rfl rfl rfl rfl rfl rfl o27 ?_
  refine lf_as (lf_up s.1 96 y1 y2, s.2.1, s.2.2) rfl ?_
  refine lf_seg 2 (pc' := 91) (lv' := [(0, .ref 95)]) (st' := [.ref 96]) rfl ?_
  refine lf_bipush 93 11 rfl rfl (by decide) (by decide) ?_
  refine lf_seg 1 (pc' := 94) (lv' := [(0, .ref 95)]) (st' := [.int (Int32.ofInt 11), .ref 96, .int (Int32.ofInt 11), .ref 96]) rfl ?_
  refine lf_iald 95 1538 rfl rfl rfl rfl rfl rfl ⟨by decide, by decide⟩ ?_
  refine lf_seg 1 (pc' := 96) (lv' := [(0, .ref 95)]) (st' := [.int (Int32.ofInt 1), .int (Int32.ofInt ((lf_up s.1 96 y1 y2) 96 11)), .int (Int32.ofInt 11), .ref 96]) rfl ?_
  refine lf_iadd 97 rfl rfl ?_
  refine lf_iast 98 1538 rfl rfl rfl rfl rfl rfl ⟨by decide, by decide⟩ ?_
  refine lf_as (lf_up (lf_up s.1 96 y1 y2) 96 11 (((lf_up s.1 96 y1 y2) 96 11) + 1), s.2.1, s.2.2) rfl ?_
  refine lf_seg 2 (pc' := 102) (lv' := [(0, .ref 95)]) (st' := [.ref 96]) rfl ?_
  refine lf_bipush 104 11 rfl rfl (by decide) (by decide) ?_
  refine lf_iald 105 1538 rfl rfl rfl rfl rfl rfl ⟨by decide, by decide⟩ ?_
  refine lf_seg 0 (pc' := 105) (lv' := [(0, .ref 95)]) (st' := [.int (Int32.ofInt (((lf_up s.1 96 y1 y2) 96 11) + 1))]) rfl ?_
  exact lf_retI rfl rfl h
def fm_321 (a1 : Int) (a2 : Int) (Q : Int → lf_Z → Prop) (s : lf_Z) : Prop := lf_R a1 ∧ ((a1 ≠ (-1) → (fm_183 a1 0 3 (fun z23 s22 => ((z23 = false → (Q (-2) s22)) ∧ (z23 = true → (lf_R (s22.1 96 11) ∧ ((s22.1 96 11 ≠ 12 → ((0 ≤ 254 + (2 * (s22.1 96 11)) ∧ 254 + (2 * (s22.1 96 11)) < 1538) ∧ (lf_R a2 ∧ ((a2 = 0 → (fm_321_p86 Q ((254 + (2 * ((lf_up s22.1 96 (254 + (2 * (s22.1 96 11))) a1) 96 11))) + 1) 0 (lf_up s22.1 96 (254 + (2 * (s22.1 96 11))) a1, s22.2.1, s22.2.2))) ∧ (¬ (a2 = 0) → (fm_321_p86 Q ((254 + (2 * ((lf_up s22.1 96 (254 + (2 * (s22.1 96 11))) a1) 96 11))) + 1) 1 (lf_up s22.1 96 (254 + (2 * (s22.1 96 11))) a1, s22.2.1, s22.2.2))))))) ∧ (¬ (s22.1 96 11 ≠ 12) → (Q (-2) s22))))))) s)) ∧ (¬ (a1 ≠ (-1)) → (Q 0 (lf_up s.1 96 11 0, s.2.1, s.2.2))))
set_option maxRecDepth 100000 in
theorem gm_321 {L : Nat} {xs : Nat → Int32} {d : Nat} {a1 : Int} {a2 : Int} {Q : Int → lf_Z → Prop} {s : lf_Z} (h : fm_321 a1 a2 Q s) : lf_M (px_ro L xs) (d + 2) 321 [.ref 95, .int (Int32.ofInt a1), .int (Int32.ofInt a2)] s (lf_qi Q) := by
  unfold fm_321 at h
  show lf_E (px_ro L xs) (d + 2) 321 0 [(0, .ref 95), (1, .int (Int32.ofInt a1)), (2, .int (Int32.ofInt a2))] [] s _
  refine lf_seg 2 (pc' := 2) (lv' := [(0, .ref 95), (1, .int (Int32.ofInt a1)), (2, .int (Int32.ofInt a2))]) (st' := [.int (Int32.ofInt (-1)), .int (Int32.ofInt a1)]) rfl ?_
  obtain ⟨o21, h⟩ := h
  refine lf_icmp_ne 15 5 rfl rfl rfl o21 ⟨by decide, by decide⟩ (fun c => ?_) (fun c => ?_)
  · have h := h.1 c
    refine lf_seg 3 (pc' := 18) (lv' := [(0, .ref 95), (1, .int (Int32.ofInt a1)), (2, .int (Int32.ofInt a2))]) (st' := [.int (Int32.ofInt 3), .int (Int32.ofInt 0), .int (Int32.ofInt a1)]) rfl ?_
    refine lf_callZ 21 rfl rfl rfl rfl (gm_183 h) (fun z23 s22 h => ?_)
    refine lf_ifz_eq 36 24 rfl rfl rfl (fun c => ?_) (fun c => ?_)
    · have h := h.1 c
      refine lf_bipush 38 (-2) rfl rfl (by decide) (by decide) ?_
      exact lf_retI rfl rfl h
    · have h := h.2 c
      refine lf_seg 2 (pc' := 28) (lv' := [(0, .ref 95), (1, .int (Int32.ofInt a1)), (2, .int (Int32.ofInt a2))]) (st' := [.ref 96]) rfl ?_
      refine lf_bipush 30 11 rfl rfl (by decide) (by decide) ?_
      refine lf_iald 31 1538 rfl rfl rfl rfl rfl rfl ⟨by decide, by decide⟩ ?_
      refine lf_bipush 33 12 rfl rfl (by decide) (by decide) ?_
      obtain ⟨o24, h⟩ := h
      refine lf_icmp_ne 39 36 rfl rfl rfl o24 ⟨by decide, by decide⟩ (fun c => ?_) (fun c => ?_)
      · have h := h.1 c
        refine lf_seg 2 (pc' := 43) (lv' := [(0, .ref 95), (1, .int (Int32.ofInt a1)), (2, .int (Int32.ofInt a2))]) (st' := [.ref 96]) rfl ?_
        refine lf_sipush 46 254 rfl rfl (by decide) (by decide) ?_
        refine lf_seg 3 (pc' := 51) (lv' := [(0, .ref 95), (1, .int (Int32.ofInt a1)), (2, .int (Int32.ofInt a2))]) (st' := [.ref 96, .int (Int32.ofInt 2), .int (Int32.ofInt 254), .ref 96]) rfl ?_
        refine lf_bipush 53 11 rfl rfl (by decide) (by decide) ?_
        refine lf_iald 54 1538 rfl rfl rfl rfl rfl rfl ⟨by decide, by decide⟩ ?_
        refine lf_imul 55 rfl rfl ?_
        refine lf_iadd 56 rfl rfl ?_
        refine lf_seg 1 (pc' := 57) (lv' := [(0, .ref 95), (1, .int (Int32.ofInt a1)), (2, .int (Int32.ofInt a2))]) (st' := [.int (Int32.ofInt a1), .int (Int32.ofInt (254 + (2 * (s22.1 96 11)))), .ref 96]) rfl ?_
        obtain ⟨o25, h⟩ := h
        refine lf_iast 58 1538 rfl rfl rfl rfl rfl rfl o25 ?_
        refine lf_as (lf_up s22.1 96 (254 + (2 * (s22.1 96 11))) a1, s22.2.1, s22.2.2) rfl ?_
        refine lf_seg 2 (pc' := 62) (lv' := [(0, .ref 95), (1, .int (Int32.ofInt a1)), (2, .int (Int32.ofInt a2))]) (st' := [.ref 96]) rfl ?_
        refine lf_sipush 65 254 rfl rfl (by decide) (by decide) ?_
        refine lf_seg 3 (pc' := 70) (lv' := [(0, .ref 95), (1, .int (Int32.ofInt a1)), (2, .int (Int32.ofInt a2))]) (st' := [.ref 96, .int (Int32.ofInt 2), .int (Int32.ofInt 254), .ref 96]) rfl ?_
        refine lf_bipush 72 11 rfl rfl (by decide) (by decide) ?_
        refine lf_iald 73 1538 rfl rfl rfl rfl rfl rfl ⟨by decide, by decide⟩ ?_
        refine lf_imul 74 rfl rfl ?_
        refine lf_iadd 75 rfl rfl ?_
        refine lf_seg 1 (pc' := 76) (lv' := [(0, .ref 95), (1, .int (Int32.ofInt a1)), (2, .int (Int32.ofInt a2))]) (st' := [.int (Int32.ofInt 1), .int (Int32.ofInt (254 + (2 * ((lf_up s22.1 96 (254 + (2 * (s22.1 96 11))) a1) 96 11)))), .ref 96]) rfl ?_
        refine lf_iadd 77 rfl rfl ?_
        refine lf_seg 1 (pc' := 78) (lv' := [(0, .ref 95), (1, .int (Int32.ofInt a1)), (2, .int (Int32.ofInt a2))]) (st' := [.int (Int32.ofInt a2), .int (Int32.ofInt ((254 + (2 * ((lf_up s22.1 96 (254 + (2 * (s22.1 96 11))) a1) 96 11))) + 1)), .ref 96]) rfl ?_
        obtain ⟨o26, h⟩ := h
        refine lf_if_eq 85 81 rfl rfl rfl o26 (fun c => ?_) (fun c => ?_)
        · have h := h.1 c
          refine lf_seg 1 (pc' := 86) (lv' := [(0, .ref 95), (1, .int (Int32.ofInt a1)), (2, .int (Int32.ofInt a2))]) (st' := [.int (Int32.ofInt 0), .int (Int32.ofInt ((254 + (2 * ((lf_up s22.1 96 (254 + (2 * (s22.1 96 11))) a1) 96 11))) + 1)), .ref 96]) rfl ?_
          refine lf_sub (l := [(0, .ref 95)]) (lf_sb1 rfl lf_sb0) ?_
          exact gm_321_p86 h
        · have h := h.2 c
          refine lf_seg 2 (pc' := 86) (lv' := [(0, .ref 95), (1, .int (Int32.ofInt a1)), (2, .int (Int32.ofInt a2))]) (st' := [.int (Int32.ofInt 1), .int (Int32.ofInt ((254 + (2 * ((lf_up s22.1 96 (254 + (2 * (s22.1 96 11))) a1) 96 11))) + 1)), .ref 96]) rfl ?_
          refine lf_sub (l := [(0, .ref 95)]) (lf_sb1 rfl lf_sb0) ?_
          exact gm_321_p86 h
      · have h := h.2 c
        refine lf_bipush 38 (-2) rfl rfl (by decide) (by decide) ?_
        exact lf_retI rfl rfl h
  · have h := h.2 c
    refine lf_seg 2 (pc' := 9) (lv' := [(0, .ref 95), (1, .int (Int32.ofInt a1)), (2, .int (Int32.ofInt a2))]) (st' := [.ref 96]) rfl ?_
    refine lf_bipush 11 11 rfl rfl (by decide) (by decide) ?_
    refine lf_seg 1 (pc' := 12) (lv' := [(0, .ref 95), (1, .int (Int32.ofInt a1)), (2, .int (Int32.ofInt a2))]) (st' := [.int (Int32.ofInt 0), .int (Int32.ofInt 11), .ref 96]) rfl ?_
    refine lf_iast 13 1538 rfl rfl rfl rfl rfl rfl ⟨by decide, by decide⟩ ?_
    refine lf_as (lf_up s.1 96 11 0, s.2.1, s.2.2) rfl ?_
    refine lf_seg 1 (pc' := 14) (lv' := [(0, .ref 95), (1, .int (Int32.ofInt a1)), (2, .int (Int32.ofInt a2))]) (st' := [.int (Int32.ofInt 0)]) rfl ?_
    exact lf_retI rfl rfl h
-- fm_169 ElevenBullocks.turned 0 i i
def fm_169 (a1 : Int) (a2 : Int) (Q : Int → lf_Z → Prop) (s : lf_Z) : Prop := fm_15 a1 0 3 (fun z22 s21 => ((z22 = false → (Q (-1) s21)) ∧ (z22 = true → ((0 ≤ a1 ∧ a1 < 4) ∧ (lf_R (s21.1 29 a1) ∧ ((s21.1 29 a1 ≠ 0 → (lf_R (s21.1 30 a1) ∧ (fm_125 (s21.1 30 a1) (s21.1 29 a1) a2 (fun r27 s26 => (Q (lf_w (lf_wl r27)) s26)) s21))) ∧ (¬ (s21.1 29 a1 ≠ 0) → (Q (-1) s21)))))))) s
set_option maxRecDepth 100000 in
theorem gm_169 {L : Nat} {xs : Nat → Int32} {d : Nat} {a1 : Int} {a2 : Int} {Q : Int → lf_Z → Prop} {s : lf_Z} (h : fm_169 a1 a2 Q s) : lf_M (px_ro L xs) (d + 2) 169 [.ref 0, .int (Int32.ofInt a1), .int (Int32.ofInt a2)] s (lf_qi Q) := by
  unfold fm_169 at h
  show lf_E (px_ro L xs) (d + 2) 169 0 [(0, .ref 0), (1, .int (Int32.ofInt a1)), (2, .int (Int32.ofInt a2))] [] s _
  refine lf_seg 3 (pc' := 3) (lv' := [(0, .ref 0), (1, .int (Int32.ofInt a1)), (2, .int (Int32.ofInt a2))]) (st' := [.int (Int32.ofInt 3), .int (Int32.ofInt 0), .int (Int32.ofInt a1)]) rfl ?_
  refine lf_callZ 6 rfl rfl rfl rfl (gm_15 h) (fun z22 s21 h => ?_)
  refine lf_ifz_eq 21 9 rfl rfl rfl (fun c => ?_) (fun c => ?_)
  · have h := h.1 c
    refine lf_seg 1 (pc' := 22) (lv' := [(0, .ref 0), (1, .int (Int32.ofInt a1)), (2, .int (Int32.ofInt a2))]) (st' := [.int (Int32.ofInt (-1))]) rfl ?_
    exact lf_retI rfl rfl h
  · have h := h.2 c
    refine lf_seg 4 (pc' := 17) (lv' := [(0, .ref 0), (1, .int (Int32.ofInt a1)), (2, .int (Int32.ofInt a2))]) (st' := [.int (Int32.ofInt a1), .ref 29]) rfl ?_
    obtain ⟨o23, h⟩ := h
    refine lf_iald 18 4 rfl rfl rfl rfl rfl rfl o23 ?_
    obtain ⟨o24, h⟩ := h
    refine lf_if_ne 23 21 rfl rfl rfl o24 (fun c => ?_) (fun c => ?_)
    · have h := h.1 c
      refine lf_seg 4 (pc' := 31) (lv' := [(0, .ref 0), (1, .int (Int32.ofInt a1)), (2, .int (Int32.ofInt a2))]) (st' := [.int (Int32.ofInt a1), .ref 30]) rfl ?_
      refine lf_iald 32 4 rfl rfl rfl rfl rfl rfl o23 ?_
      obtain ⟨o25, h⟩ := h
      refine lf_i2l 33 rfl rfl o25 ?_
      refine lf_seg 4 (pc' := 41) (lv' := [(0, .ref 0), (1, .int (Int32.ofInt a1)), (2, .int (Int32.ofInt a2))]) (st' := [.int (Int32.ofInt a1), .ref 29, .long (Int64.ofInt (s21.1 30 a1))]) rfl ?_
      refine lf_iald 42 4 rfl rfl rfl rfl rfl rfl o23 ?_
      refine lf_i2l 43 rfl rfl o24 ?_
      refine lf_seg 1 (pc' := 44) (lv' := [(0, .ref 0), (1, .int (Int32.ofInt a1)), (2, .int (Int32.ofInt a2))]) (st' := [.int (Int32.ofInt a2), .long (Int64.ofInt (s21.1 29 a1)), .long (Int64.ofInt (s21.1 30 a1))]) rfl ?_
      refine lf_callL 47 rfl rfl rfl rfl (gm_125 h) (fun r27 s26 h => ?_)
      refine lf_wtL ?_
      refine lf_l2i 48 rfl rfl ?_
      refine lf_wtI ?_
      exact lf_retI rfl rfl h
    · have h := h.2 c
      refine lf_seg 1 (pc' := 22) (lv' := [(0, .ref 0), (1, .int (Int32.ofInt a1)), (2, .int (Int32.ofInt a2))]) (st' := [.int (Int32.ofInt (-1))]) rfl ?_
      exact lf_retI rfl rfl h
-- fm_323 Model.timesOf 95 i i
def fm_323_p63 (X5 : Int → Int → lf_Z → Prop) (Q : Int → lf_Z → Prop) (x1 : Int) (x2 : Int) (x4 : Int) (y0 : Int) (y1 : Int) (s : lf_Z) : Prop := X5 (y0 + y1) (x4 + 1) s
set_option maxRecDepth 100000 in
theorem gm_323_p63 {L : Nat} {xs : Nat → Int32} {d : Nat} {X5 : Int → Int → lf_Z → Prop} {Q : Int → lf_Z → Prop} {x1 : Int} {x2 : Int} {x4 : Int} {y0 : Int} {y1 : Int} {s : lf_Z} (hX5 : ∀ x3 x4 s, X5 x3 x4 s → lf_E (px_ro L xs) (d + 1) 323 5 [(0, .ref 95), (1, .int (Int32.ofInt x1)), (2, .int (Int32.ofInt x2)), (3, .int (Int32.ofInt x3)), (4, .int (Int32.ofInt x4))] [] s (lf_qi Q)) (h : fm_323_p63 X5 Q x1 x2 x4 y0 y1 s) : lf_E (px_ro L xs) (d + 1) 323 63 [(0, .ref 95), (1, .int (Int32.ofInt x1)), (2, .int (Int32.ofInt x2)), (4, .int (Int32.ofInt x4))] [.int (Int32.ofInt y1), .int (Int32.ofInt y0)] s (lf_qi Q) := by
  unfold fm_323_p63 at h
  refine lf_iadd 64 rfl rfl ?_
  refine lf_seg 1 (pc' := 65) (lv' := [(3, .int (Int32.ofInt (y0 + y1))), (0, .ref 95), (1, .int (Int32.ofInt x1)), (2, .int (Int32.ofInt x2)), (4, .int (Int32.ofInt x4))]) (st' := []) rfl ?_
  refine lf_iinc 68 rfl rfl rfl rfl ?_
  refine lf_seg 1 (pc' := 5) (lv' := [(4, .int (Int32.ofInt (x4 + 1))), (3, .int (Int32.ofInt (y0 + y1))), (0, .ref 95), (1, .int (Int32.ofInt x1)), (2, .int (Int32.ofInt x2))]) (st' := []) rfl ?_
  refine lf_sub (l := [(0, .ref 95), (1, .int (Int32.ofInt x1)), (2, .int (Int32.ofInt x2)), (3, .int (Int32.ofInt (y0 + y1))), (4, .int (Int32.ofInt (x4 + 1)))]) (lf_sb1 rfl (lf_sb1 rfl (lf_sb1 rfl (lf_sb1 rfl (lf_sb1 rfl lf_sb0))))) ?_
  exact hX5 _ _ _ h
def fm_323_p62 (X5 : Int → Int → lf_Z → Prop) (Q : Int → lf_Z → Prop) (x1 : Int) (x2 : Int) (x4 : Int) (y0 : Int) (s : lf_Z) : Prop := fm_323_p63 X5 Q x1 x2 x4 y0 0 s
set_option maxRecDepth 100000 in
theorem gm_323_p62 {L : Nat} {xs : Nat → Int32} {d : Nat} {X5 : Int → Int → lf_Z → Prop} {Q : Int → lf_Z → Prop} {x1 : Int} {x2 : Int} {x4 : Int} {y0 : Int} {s : lf_Z} (hX5 : ∀ x3 x4 s, X5 x3 x4 s → lf_E (px_ro L xs) (d + 1) 323 5 [(0, .ref 95), (1, .int (Int32.ofInt x1)), (2, .int (Int32.ofInt x2)), (3, .int (Int32.ofInt x3)), (4, .int (Int32.ofInt x4))] [] s (lf_qi Q)) (h : fm_323_p62 X5 Q x1 x2 x4 y0 s) : lf_E (px_ro L xs) (d + 1) 323 62 [(0, .ref 95), (1, .int (Int32.ofInt x1)), (2, .int (Int32.ofInt x2)), (4, .int (Int32.ofInt x4))] [.int (Int32.ofInt y0)] s (lf_qi Q) := by
  unfold fm_323_p62 at h
  refine lf_seg 1 (pc' := 63) (lv' := [(0, .ref 95), (1, .int (Int32.ofInt x1)), (2, .int (Int32.ofInt x2)), (4, .int (Int32.ofInt x4))]) (st' := [.int (Int32.ofInt 0), .int (Int32.ofInt y0)]) rfl ?_
  refine lf_sub (l := [(0, .ref 95), (1, .int (Int32.ofInt x1)), (2, .int (Int32.ofInt x2)), (4, .int (Int32.ofInt x4))]) (lf_sb1 rfl (lf_sb1 rfl (lf_sb1 rfl (lf_sb1 rfl lf_sb0)))) ?_
  exact gm_323_p63 hX5 h
def fm_323_p58 (X5 : Int → Int → lf_Z → Prop) (Q : Int → lf_Z → Prop) (x1 : Int) (x2 : Int) (x4 : Int) (y0 : Int) (s : lf_Z) : Prop := fm_323_p63 X5 Q x1 x2 x4 y0 1 s
set_option maxRecDepth 100000 in
theorem gm_323_p58 {L : Nat} {xs : Nat → Int32} {d : Nat} {X5 : Int → Int → lf_Z → Prop} {Q : Int → lf_Z → Prop} {x1 : Int} {x2 : Int} {x4 : Int} {y0 : Int} {s : lf_Z} (hX5 : ∀ x3 x4 s, X5 x3 x4 s → lf_E (px_ro L xs) (d + 1) 323 5 [(0, .ref 95), (1, .int (Int32.ofInt x1)), (2, .int (Int32.ofInt x2)), (3, .int (Int32.ofInt x3)), (4, .int (Int32.ofInt x4))] [] s (lf_qi Q)) (h : fm_323_p58 X5 Q x1 x2 x4 y0 s) : lf_E (px_ro L xs) (d + 1) 323 58 [(0, .ref 95), (1, .int (Int32.ofInt x1)), (2, .int (Int32.ofInt x2)), (4, .int (Int32.ofInt x4))] [.int (Int32.ofInt y0)] s (lf_qi Q) := by
  unfold fm_323_p58 at h
  refine lf_seg 2 (pc' := 63) (lv' := [(0, .ref 95), (1, .int (Int32.ofInt x1)), (2, .int (Int32.ofInt x2)), (4, .int (Int32.ofInt x4))]) (st' := [.int (Int32.ofInt 1), .int (Int32.ofInt y0)]) rfl ?_
  refine lf_sub (l := [(0, .ref 95), (1, .int (Int32.ofInt x1)), (2, .int (Int32.ofInt x2)), (4, .int (Int32.ofInt x4))]) (lf_sb1 rfl (lf_sb1 rfl (lf_sb1 rfl (lf_sb1 rfl lf_sb0)))) ?_
  exact gm_323_p63 hX5 h
def fm_323_p5 (Q : Int → lf_Z → Prop) (x1 : Int) (x2 : Int) (X5 : Int → Int → lf_Z → Prop) (x3 : Int) (x4 : Int) (s : lf_Z) : Prop := lf_R x4 ∧ (lf_R (s.1 96 11) ∧ ((s.1 96 11 ≤ x4 → (Q x3 s)) ∧ (¬ (s.1 96 11 ≤ x4) → ((0 ≤ 254 + (2 * x4) ∧ 254 + (2 * x4) < 1538) ∧ (lf_R (s.1 96 (254 + (2 * x4))) ∧ (lf_R x1 ∧ ((s.1 96 (254 + (2 * x4)) ≠ x1 → (fm_323_p62 X5 Q x1 x2 x4 x3 s)) ∧ (¬ (s.1 96 (254 + (2 * x4)) ≠ x1) → (lf_R x2 ∧ ((x2 = 0 → (fm_323_p58 X5 Q x1 x2 x4 x3 s)) ∧ (¬ (x2 = 0) → ((0 ≤ (254 + (2 * x4)) + 1 ∧ (254 + (2 * x4)) + 1 < 1538) ∧ (lf_R (s.1 96 ((254 + (2 * x4)) + 1)) ∧ ((s.1 96 ((254 + (2 * x4)) + 1) ≠ 1 → (fm_323_p62 X5 Q x1 x2 x4 x3 s)) ∧ (¬ (s.1 96 ((254 + (2 * x4)) + 1) ≠ 1) → (fm_323_p58 X5 Q x1 x2 x4 x3 s))))))))))))))))
def fm_323_p5L (Q : Int → lf_Z → Prop) (x1 : Int) (x2 : Int) (x3 : Int) (x4 : Int) (s : lf_Z) : Prop := ∀ X5 : Int → Int → lf_Z → Prop, (∀ (x3 : Int) (x4 : Int) (s : lf_Z), fm_323_p5 Q x1 x2 X5 x3 x4 s → X5 x3 x4 s) → X5 x3 x4 s
set_option maxRecDepth 100000 in
theorem gm_323_p5 {L : Nat} {xs : Nat → Int32} {d : Nat} {Q : Int → lf_Z → Prop} {x1 : Int} {x2 : Int} {x3 : Int} {x4 : Int} {s : lf_Z} {X5 : Int → Int → lf_Z → Prop} (hX5 : ∀ x3 x4 s, X5 x3 x4 s → lf_E (px_ro L xs) (d + 1) 323 5 [(0, .ref 95), (1, .int (Int32.ofInt x1)), (2, .int (Int32.ofInt x2)), (3, .int (Int32.ofInt x3)), (4, .int (Int32.ofInt x4))] [] s (lf_qi Q)) (h : fm_323_p5 Q x1 x2 X5 x3 x4 s) : lf_E (px_ro L xs) (d + 1) 323 5 [(0, .ref 95), (1, .int (Int32.ofInt x1)), (2, .int (Int32.ofInt x2)), (3, .int (Int32.ofInt x3)), (4, .int (Int32.ofInt x4))] [] s (lf_qi Q) := by
  unfold fm_323_p5 at h
  refine lf_seg 3 (pc' := 11) (lv' := [(0, .ref 95), (1, .int (Int32.ofInt x1)), (2, .int (Int32.ofInt x2)), (3, .int (Int32.ofInt x3)), (4, .int (Int32.ofInt x4))]) (st' := [.ref 96, .int (Int32.ofInt x4)]) rfl ?_
  refine lf_bipush 13 11 rfl rfl (by decide) (by decide) ?_
  refine lf_iald 14 1538 rfl rfl rfl rfl rfl rfl ⟨by decide, by decide⟩ ?_
  obtain ⟨o21, h⟩ := h
  obtain ⟨o22, h⟩ := h
  refine lf_icmp_ge 71 17 rfl rfl rfl o21 o22 (fun c => ?_) (fun c => ?_)
  · have h := h.1 c
    refine lf_seg 1 (pc' := 72) (lv' := [(0, .ref 95), (1, .int (Int32.ofInt x1)), (2, .int (Int32.ofInt x2)), (3, .int (Int32.ofInt x3)), (4, .int (Int32.ofInt x4))]) (st' := [.int (Int32.ofInt x3)]) rfl ?_
    exact lf_retI rfl rfl h
  · have h := h.2 c
    refine lf_seg 3 (pc' := 22) (lv' := [(0, .ref 95), (1, .int (Int32.ofInt x1)), (2, .int (Int32.ofInt x2)), (3, .int (Int32.ofInt x3)), (4, .int (Int32.ofInt x4))]) (st' := [.ref 96, .int (Int32.ofInt x3)]) rfl ?_
    refine lf_sipush 25 254 rfl rfl (by decide) (by decide) ?_
    refine lf_seg 2 (pc' := 28) (lv' := [(0, .ref 95), (1, .int (Int32.ofInt x1)), (2, .int (Int32.ofInt x2)), (3, .int (Int32.ofInt x3)), (4, .int (Int32.ofInt x4))]) (st' := [.int (Int32.ofInt x4), .int (Int32.ofInt 2), .int (Int32.ofInt 254), .ref 96, .int (Int32.ofInt x3)]) rfl ?_
    refine lf_imul 29 rfl rfl ?_
    refine lf_iadd 30 rfl rfl ?_
    obtain ⟨o23, h⟩ := h
    refine lf_iald 31 1538 rfl rfl rfl rfl rfl rfl o23 ?_
    refine lf_seg 1 (pc' := 32) (lv' := [(0, .ref 95), (1, .int (Int32.ofInt x1)), (2, .int (Int32.ofInt x2)), (3, .int (Int32.ofInt x3)), (4, .int (Int32.ofInt x4))]) (st' := [.int (Int32.ofInt x1), .int (Int32.ofInt (s.1 96 (254 + (2 * x4)))), .int (Int32.ofInt x3)]) rfl ?_
    obtain ⟨o24, h⟩ := h
    obtain ⟨o25, h⟩ := h
    refine lf_icmp_ne 62 35 rfl rfl rfl o24 o25 (fun c => ?_) (fun c => ?_)
    · have h := h.1 c
      refine lf_sub (l := [(0, .ref 95), (1, .int (Int32.ofInt x1)), (2, .int (Int32.ofInt x2)), (4, .int (Int32.ofInt x4))]) (lf_sb1 rfl (lf_sb1 rfl (lf_sb1 rfl (lf_sb1 rfl lf_sb0)))) ?_
      exact gm_323_p62 hX5 h
    · have h := h.2 c
      refine lf_seg 1 (pc' := 36) (lv' := [(0, .ref 95), (1, .int (Int32.ofInt x1)), (2, .int (Int32.ofInt x2)), (3, .int (Int32.ofInt x3)), (4, .int (Int32.ofInt x4))]) (st' := [.int (Int32.ofInt x2), .int (Int32.ofInt x3)]) rfl ?_
      obtain ⟨o26, h⟩ := h
      refine lf_if_eq 58 39 rfl rfl rfl o26 (fun c => ?_) (fun c => ?_)
      · have h := h.1 c
        refine lf_sub (l := [(0, .ref 95), (1, .int (Int32.ofInt x1)), (2, .int (Int32.ofInt x2)), (4, .int (Int32.ofInt x4))]) (lf_sb1 rfl (lf_sb1 rfl (lf_sb1 rfl (lf_sb1 rfl lf_sb0)))) ?_
        exact gm_323_p58 hX5 h
      · have h := h.2 c
        refine lf_seg 2 (pc' := 43) (lv' := [(0, .ref 95), (1, .int (Int32.ofInt x1)), (2, .int (Int32.ofInt x2)), (3, .int (Int32.ofInt x3)), (4, .int (Int32.ofInt x4))]) (st' := [.ref 96, .int (Int32.ofInt x3)]) rfl ?_
        refine lf_sipush 46 254 rfl rfl (by decide) (by decide) ?_
        refine lf_seg 2 (pc' := 49) (lv' := [(0, .ref 95), (1, .int (Int32.ofInt x1)), (2, .int (Int32.ofInt x2)), (3, .int (Int32.ofInt x3)), (4, .int (Int32.ofInt x4))]) (st' := [.int (Int32.ofInt x4), .int (Int32.ofInt 2), .int (Int32.ofInt 254), .ref 96, .int (Int32.ofInt x3)]) rfl ?_
        refine lf_imul 50 rfl rfl ?_
        refine lf_iadd 51 rfl rfl ?_
        refine lf_seg 1 (pc' := 52) (lv' := [(0, .ref 95), (1, .int (Int32.ofInt x1)), (2, .int (Int32.ofInt x2)), (3, .int (Int32.ofInt x3)), (4, .int (Int32.ofInt x4))]) (st' := [.int (Int32.ofInt 1), .int (Int32.ofInt (254 + (2 * x4))), .ref 96, .int (Int32.ofInt x3)]) rfl ?_
        refine lf_iadd 53 rfl rfl ?_
        obtain ⟨o27, h⟩ := h
        refine lf_iald 54 1538 rfl rfl rfl rfl rfl rfl o27 ?_
        refine lf_seg 1 (pc' := 55) (lv' := [(0, .ref 95), (1, .int (Int32.ofInt x1)), (2, .int (Int32.ofInt x2)), (3, .int (Int32.ofInt x3)), (4, .int (Int32.ofInt x4))]) (st' := [.int (Int32.ofInt 1), .int (Int32.ofInt (s.1 96 ((254 + (2 * x4)) + 1))), .int (Int32.ofInt x3)]) rfl ?_
        obtain ⟨o28, h⟩ := h
        refine lf_icmp_ne 62 58 rfl rfl rfl o28 ⟨by decide, by decide⟩ (fun c => ?_) (fun c => ?_)
        · have h := h.1 c
          refine lf_sub (l := [(0, .ref 95), (1, .int (Int32.ofInt x1)), (2, .int (Int32.ofInt x2)), (4, .int (Int32.ofInt x4))]) (lf_sb1 rfl (lf_sb1 rfl (lf_sb1 rfl (lf_sb1 rfl lf_sb0)))) ?_
          exact gm_323_p62 hX5 h
        · have h := h.2 c
          refine lf_sub (l := [(0, .ref 95), (1, .int (Int32.ofInt x1)), (2, .int (Int32.ofInt x2)), (4, .int (Int32.ofInt x4))]) (lf_sb1 rfl (lf_sb1 rfl (lf_sb1 rfl (lf_sb1 rfl lf_sb0)))) ?_
          exact gm_323_p58 hX5 h
theorem gm_323_p5L {L : Nat} {xs : Nat → Int32} {d : Nat} {Q : Int → lf_Z → Prop} {x1 : Int} {x2 : Int} {x3 : Int} {x4 : Int} {s : lf_Z} (h : fm_323_p5L Q x1 x2 x3 x4 s) : lf_E (px_ro L xs) (d + 1) 323 5 [(0, .ref 95), (1, .int (Int32.ofInt x1)), (2, .int (Int32.ofInt x2)), (3, .int (Int32.ofInt x3)), (4, .int (Int32.ofInt x4))] [] s (lf_qi Q) :=
  h (fun x3 x4 s => lf_E (px_ro L xs) (d + 1) 323 5 [(0, .ref 95), (1, .int (Int32.ofInt x1)), (2, .int (Int32.ofInt x2)), (3, .int (Int32.ofInt x3)), (4, .int (Int32.ofInt x4))] [] s (lf_qi Q)) (fun x3 x4 s hb => gm_323_p5 (fun _ _ _ h => h) hb)
def fm_323 (a1 : Int) (a2 : Int) (Q : Int → lf_Z → Prop) (s : lf_Z) : Prop := fm_323_p5L Q a1 a2 0 0 s
set_option maxRecDepth 100000 in
theorem gm_323 {L : Nat} {xs : Nat → Int32} {d : Nat} {a1 : Int} {a2 : Int} {Q : Int → lf_Z → Prop} {s : lf_Z} (h : fm_323 a1 a2 Q s) : lf_M (px_ro L xs) (d + 1) 323 [.ref 95, .int (Int32.ofInt a1), .int (Int32.ofInt a2)] s (lf_qi Q) := by
  unfold fm_323 at h
  show lf_E (px_ro L xs) (d + 1) 323 0 [(0, .ref 95), (1, .int (Int32.ofInt a1)), (2, .int (Int32.ofInt a2))] [] s _
  refine lf_seg 4 (pc' := 5) (lv' := [(4, .int (Int32.ofInt 0)), (3, .int (Int32.ofInt 0)), (0, .ref 95), (1, .int (Int32.ofInt a1)), (2, .int (Int32.ofInt a2))]) (st' := []) rfl ?_
  refine lf_sub (l := [(0, .ref 95), (1, .int (Int32.ofInt a1)), (2, .int (Int32.ofInt a2)), (3, .int (Int32.ofInt 0)), (4, .int (Int32.ofInt 0))]) (lf_sb1 rfl (lf_sb1 rfl (lf_sb1 rfl (lf_sb1 rfl (lf_sb1 rfl lf_sb0))))) ?_
  exact gm_323_p5L h
-- fm_322 Model.turned 95 i i
def fm_322 (a1 : Int) (a2 : Int) (Q : Int → lf_Z → Prop) (s : lf_Z) : Prop := fm_183 a1 0 3 (fun z22 s21 => ((z22 = false → (Q (-1) s21)) ∧ (z22 = true → (fm_323 a1 0 (fun r24 s23 => (lf_R r24 ∧ ((r24 ≠ 0 → (fm_323 a1 1 (fun r27 s26 => (lf_R r27 ∧ (fm_323 a1 0 (fun r30 s29 => (lf_R r30 ∧ (fm_291 r27 r30 a2 (fun r33 s32 => (Q (lf_w (lf_wl r33)) s32)) s29))) s26))) s23)) ∧ (¬ (r24 ≠ 0) → (Q (-1) s23))))) s21)))) s
set_option maxRecDepth 100000 in
theorem gm_322 {L : Nat} {xs : Nat → Int32} {d : Nat} {a1 : Int} {a2 : Int} {Q : Int → lf_Z → Prop} {s : lf_Z} (h : fm_322 a1 a2 Q s) : lf_M (px_ro L xs) (d + 3) 322 [.ref 95, .int (Int32.ofInt a1), .int (Int32.ofInt a2)] s (lf_qi Q) := by
  unfold fm_322 at h
  show lf_E (px_ro L xs) (d + 3) 322 0 [(0, .ref 95), (1, .int (Int32.ofInt a1)), (2, .int (Int32.ofInt a2))] [] s _
  refine lf_seg 3 (pc' := 3) (lv' := [(0, .ref 95), (1, .int (Int32.ofInt a1)), (2, .int (Int32.ofInt a2))]) (st' := [.int (Int32.ofInt 3), .int (Int32.ofInt 0), .int (Int32.ofInt a1)]) rfl ?_
  refine lf_callZ 6 rfl rfl rfl rfl (gm_183 h) (fun z22 s21 h => ?_)
  refine lf_ifz_eq 18 9 rfl rfl rfl (fun c => ?_) (fun c => ?_)
  · have h := h.1 c
    refine lf_seg 1 (pc' := 19) (lv' := [(0, .ref 95), (1, .int (Int32.ofInt a1)), (2, .int (Int32.ofInt a2))]) (st' := [.int (Int32.ofInt (-1))]) rfl ?_
    exact lf_retI rfl rfl h
  · have h := h.2 c
    refine lf_seg 3 (pc' := 12) (lv' := [(0, .ref 95), (1, .int (Int32.ofInt a1)), (2, .int (Int32.ofInt a2))]) (st' := [.int (Int32.ofInt 0), .int (Int32.ofInt a1), .ref 95]) rfl ?_
    refine lf_callI 15 rfl rfl rfl rfl (gm_323 h) (fun r24 s23 h => ?_)
    obtain ⟨o25, h⟩ := h
    refine lf_if_ne 20 18 rfl rfl rfl o25 (fun c => ?_) (fun c => ?_)
    · have h := h.1 c
      refine lf_seg 3 (pc' := 23) (lv' := [(0, .ref 95), (1, .int (Int32.ofInt a1)), (2, .int (Int32.ofInt a2))]) (st' := [.int (Int32.ofInt 1), .int (Int32.ofInt a1), .ref 95]) rfl ?_
      refine lf_callI 26 rfl rfl rfl rfl (gm_323 h) (fun r27 s26 h => ?_)
      obtain ⟨o28, h⟩ := h
      refine lf_i2l 27 rfl rfl o28 ?_
      refine lf_seg 3 (pc' := 30) (lv' := [(0, .ref 95), (1, .int (Int32.ofInt a1)), (2, .int (Int32.ofInt a2))]) (st' := [.int (Int32.ofInt 0), .int (Int32.ofInt a1), .ref 95, .long (Int64.ofInt r27)]) rfl ?_
      refine lf_callI 33 rfl rfl rfl rfl (gm_323 h) (fun r30 s29 h => ?_)
      obtain ⟨o31, h⟩ := h
      refine lf_i2l 34 rfl rfl o31 ?_
      refine lf_seg 1 (pc' := 35) (lv' := [(0, .ref 95), (1, .int (Int32.ofInt a1)), (2, .int (Int32.ofInt a2))]) (st' := [.int (Int32.ofInt a2), .long (Int64.ofInt r30), .long (Int64.ofInt r27)]) rfl ?_
      refine lf_callL 38 rfl rfl rfl rfl (gm_291 h) (fun r33 s32 h => ?_)
      refine lf_wtL ?_
      refine lf_l2i 39 rfl rfl ?_
      refine lf_wtI ?_
      exact lf_retI rfl rfl h
    · have h := h.2 c
      refine lf_seg 1 (pc' := 19) (lv' := [(0, .ref 95), (1, .int (Int32.ofInt a1)), (2, .int (Int32.ofInt a2))]) (st' := [.int (Int32.ofInt (-1))]) rfl ?_
      exact lf_retI rfl rfl h
-- fm_172 Notes.isBetter 25 i i
def fm_172 (a1 : Int) (a2 : Int) (Q : Bool → lf_Z → Prop) (s : lf_Z) : Prop := (0 ≤ a1 ∧ a1 < 4) ∧ ((0 ≤ a2 ∧ a2 < 4) ∧ ((lf_w ((s.1 30 a2) * (s.1 29 a1)) < lf_w ((s.1 30 a1) * (s.1 29 a2)) → (Q true s)) ∧ (¬ (lf_w ((s.1 30 a2) * (s.1 29 a1)) < lf_w ((s.1 30 a1) * (s.1 29 a2))) → ((lf_w ((s.1 30 a1) * (s.1 29 a2)) ≠ lf_w ((s.1 30 a2) * (s.1 29 a1)) → (Q false s)) ∧ (¬ (lf_w ((s.1 30 a1) * (s.1 29 a2)) ≠ lf_w ((s.1 30 a2) * (s.1 29 a1))) → (lf_R (s.1 29 a1) ∧ (lf_R (s.1 29 a2) ∧ ((s.1 29 a1 ≤ s.1 29 a2 → (Q false s)) ∧ (¬ (s.1 29 a1 ≤ s.1 29 a2) → (Q true s))))))))))
set_option maxRecDepth 100000 in
theorem gm_172 {L : Nat} {xs : Nat → Int32} {d : Nat} {a1 : Int} {a2 : Int} {Q : Bool → lf_Z → Prop} {s : lf_Z} (h : fm_172 a1 a2 Q s) : lf_M (px_ro L xs) (d + 1) 172 [.ref 25, .int (Int32.ofInt a1), .int (Int32.ofInt a2)] s (lf_qz Q) := by
  unfold fm_172 at h
  show lf_E (px_ro L xs) (d + 1) 172 0 [(0, .ref 25), (1, .int (Int32.ofInt a1)), (2, .int (Int32.ofInt a2))] [] s _
  refine lf_seg 3 (pc' := 5) (lv' := [(0, .ref 25), (1, .int (Int32.ofInt a1)), (2, .int (Int32.ofInt a2))]) (st' := [.int (Int32.ofInt a1), .ref 30]) rfl ?_
  obtain ⟨o21, h⟩ := h
  refine lf_iald 6 4 rfl rfl rfl rfl rfl rfl o21 ?_
  refine lf_seg 3 (pc' := 11) (lv' := [(0, .ref 25), (1, .int (Int32.ofInt a1)), (2, .int (Int32.ofInt a2))]) (st' := [.int (Int32.ofInt a2), .ref 29, .int (Int32.ofInt (s.1 30 a1))]) rfl ?_
  obtain ⟨o22, h⟩ := h
  refine lf_iald 12 4 rfl rfl rfl rfl rfl rfl o22 ?_
  refine lf_imul 13 rfl rfl ?_
  refine lf_wtI ?_
  refine lf_seg 4 (pc' := 19) (lv' := [(3, .int (Int32.ofInt (lf_w ((s.1 30 a1) * (s.1 29 a2))))), (0, .ref 25), (1, .int (Int32.ofInt a1)), (2, .int (Int32.ofInt a2))]) (st' := [.int (Int32.ofInt a2), .ref 30]) rfl ?_
  refine lf_iald 20 4 rfl rfl rfl rfl rfl rfl o22 ?_
  refine lf_seg 3 (pc' := 25) (lv' := [(3, .int (Int32.ofInt (lf_w ((s.1 30 a1) * (s.1 29 a2))))), (0, .ref 25), (1, .int (Int32.ofInt a1)), (2, .int (Int32.ofInt a2))]) (st' := [.int (Int32.ofInt a1), .ref 29, .int (Int32.ofInt (s.1 30 a2))]) rfl ?_
  refine lf_iald 26 4 rfl rfl rfl rfl rfl rfl o21 ?_
  refine lf_imul 27 rfl rfl ?_
  refine lf_wtI ?_
  refine lf_seg 3 (pc' := 32) (lv' := [(4, .int (Int32.ofInt (lf_w ((s.1 30 a2) * (s.1 29 a1))))), (3, .int (Int32.ofInt (lf_w ((s.1 30 a1) * (s.1 29 a2))))), (0, .ref 25), (1, .int (Int32.ofInt a1)), (2, .int (Int32.ofInt a2))]) (st' := [.int (Int32.ofInt (lf_w ((s.1 30 a2) * (s.1 29 a1)))), .int (Int32.ofInt (lf_w ((s.1 30 a1) * (s.1 29 a2))))]) rfl ?_
  refine lf_icmp_gt 56 35 rfl rfl rfl lf_Rw lf_Rw (fun c => ?_) (fun c => ?_)
  · have h := h.1 c
    refine lf_seg 2 (pc' := 61) (lv' := [(4, .int (Int32.ofInt (lf_w ((s.1 30 a2) * (s.1 29 a1))))), (3, .int (Int32.ofInt (lf_w ((s.1 30 a1) * (s.1 29 a2))))), (0, .ref 25), (1, .int (Int32.ofInt a1)), (2, .int (Int32.ofInt a2))]) (st' := [.int (Int32.ofInt 1)]) rfl ?_
    exact lf_retZ true rfl rfl h
  · have h := h.2 c
    refine lf_seg 2 (pc' := 38) (lv' := [(4, .int (Int32.ofInt (lf_w ((s.1 30 a2) * (s.1 29 a1))))), (3, .int (Int32.ofInt (lf_w ((s.1 30 a1) * (s.1 29 a2))))), (0, .ref 25), (1, .int (Int32.ofInt a1)), (2, .int (Int32.ofInt a2))]) (st' := [.int (Int32.ofInt (lf_w ((s.1 30 a2) * (s.1 29 a1)))), .int (Int32.ofInt (lf_w ((s.1 30 a1) * (s.1 29 a2))))]) rfl ?_
    refine lf_icmp_ne 60 41 rfl rfl rfl lf_Rw lf_Rw (fun c => ?_) (fun c => ?_)
    · have h := h.1 c
      refine lf_seg 1 (pc' := 61) (lv' := [(4, .int (Int32.ofInt (lf_w ((s.1 30 a2) * (s.1 29 a1))))), (3, .int (Int32.ofInt (lf_w ((s.1 30 a1) * (s.1 29 a2))))), (0, .ref 25), (1, .int (Int32.ofInt a1)), (2, .int (Int32.ofInt a2))]) (st' := [.int (Int32.ofInt 0)]) rfl ?_
      exact lf_retZ false rfl rfl h
    · have h := h.2 c
      refine lf_seg 3 (pc' := 46) (lv' := [(4, .int (Int32.ofInt (lf_w ((s.1 30 a2) * (s.1 29 a1))))), (3, .int (Int32.ofInt (lf_w ((s.1 30 a1) * (s.1 29 a2))))), (0, .ref 25), (1, .int (Int32.ofInt a1)), (2, .int (Int32.ofInt a2))]) (st' := [.int (Int32.ofInt a1), .ref 29]) rfl ?_
      refine lf_iald 47 4 rfl rfl rfl rfl rfl rfl o21 ?_
      refine lf_seg 3 (pc' := 52) (lv' := [(4, .int (Int32.ofInt (lf_w ((s.1 30 a2) * (s.1 29 a1))))), (3, .int (Int32.ofInt (lf_w ((s.1 30 a1) * (s.1 29 a2))))), (0, .ref 25), (1, .int (Int32.ofInt a1)), (2, .int (Int32.ofInt a2))]) (st' := [.int (Int32.ofInt a2), .ref 29, .int (Int32.ofInt (s.1 29 a1))]) rfl ?_
      refine lf_iald 53 4 rfl rfl rfl rfl rfl rfl o22 ?_
      obtain ⟨o23, h⟩ := h
      obtain ⟨o24, h⟩ := h
      refine lf_icmp_le 60 56 rfl rfl rfl o23 o24 (fun c => ?_) (fun c => ?_)
      · have h := h.1 c
        refine lf_seg 1 (pc' := 61) (lv' := [(4, .int (Int32.ofInt (lf_w ((s.1 30 a2) * (s.1 29 a1))))), (3, .int (Int32.ofInt (lf_w ((s.1 30 a1) * (s.1 29 a2))))), (0, .ref 25), (1, .int (Int32.ofInt a1)), (2, .int (Int32.ofInt a2))]) (st' := [.int (Int32.ofInt 0)]) rfl ?_
        exact lf_retZ false rfl rfl h
      · have h := h.2 c
        refine lf_seg 2 (pc' := 61) (lv' := [(4, .int (Int32.ofInt (lf_w ((s.1 30 a2) * (s.1 29 a1))))), (3, .int (Int32.ofInt (lf_w ((s.1 30 a1) * (s.1 29 a2))))), (0, .ref 25), (1, .int (Int32.ofInt a1)), (2, .int (Int32.ofInt a2))]) (st' := [.int (Int32.ofInt 1)]) rfl ?_
        exact lf_retZ true rfl rfl h
-- fm_171 Notes.bestHow 25
def fm_171_p34 (X4 : Int → Int → lf_Z → Prop) (Q : Int → lf_Z → Prop) (x1 : Int) (x2 : Int) (s : lf_Z) : Prop := X4 x1 (x2 + 1) s
set_option maxRecDepth 100000 in
theorem gm_171_p34 {L : Nat} {xs : Nat → Int32} {d : Nat} {X4 : Int → Int → lf_Z → Prop} {Q : Int → lf_Z → Prop} {x1 : Int} {x2 : Int} {s : lf_Z} (hX4 : ∀ x1 x2 s, X4 x1 x2 s → lf_E (px_ro L xs) (d + 2) 171 4 [(0, .ref 25), (1, .int (Int32.ofInt x1)), (2, .int (Int32.ofInt x2))] [] s (lf_qi Q)) (h : fm_171_p34 X4 Q x1 x2 s) : lf_E (px_ro L xs) (d + 2) 171 34 [(0, .ref 25), (1, .int (Int32.ofInt x1)), (2, .int (Int32.ofInt x2))] [] s (lf_qi Q) := by
  unfold fm_171_p34 at h
  refine lf_iinc 37 rfl rfl rfl rfl ?_
  refine lf_seg 1 (pc' := 4) (lv' := [(2, .int (Int32.ofInt (x2 + 1))), (0, .ref 25), (1, .int (Int32.ofInt x1))]) (st' := []) rfl ?_
  refine lf_sub (l := [(0, .ref 25), (1, .int (Int32.ofInt x1)), (2, .int (Int32.ofInt (x2 + 1)))]) (lf_sb1 rfl (lf_sb1 rfl (lf_sb1 rfl lf_sb0))) ?_
  exact hX4 _ _ _ h
def fm_171_p32 (X4 : Int → Int → lf_Z → Prop) (Q : Int → lf_Z → Prop) (x2 : Int) (s : lf_Z) : Prop := fm_171_p34 X4 Q x2 x2 s
set_option maxRecDepth 100000 in
theorem gm_171_p32 {L : Nat} {xs : Nat → Int32} {d : Nat} {X4 : Int → Int → lf_Z → Prop} {Q : Int → lf_Z → Prop} {x2 : Int} {s : lf_Z} (hX4 : ∀ x1 x2 s, X4 x1 x2 s → lf_E (px_ro L xs) (d + 2) 171 4 [(0, .ref 25), (1, .int (Int32.ofInt x1)), (2, .int (Int32.ofInt x2))] [] s (lf_qi Q)) (h : fm_171_p32 X4 Q x2 s) : lf_E (px_ro L xs) (d + 2) 171 32 [(0, .ref 25), (2, .int (Int32.ofInt x2))] [] s (lf_qi Q) := by
  unfold fm_171_p32 at h
  refine lf_seg 2 (pc' := 34) (lv' := [(1, .int (Int32.ofInt x2)), (0, .ref 25), (2, .int (Int32.ofInt x2))]) (st' := []) rfl ?_
  refine lf_sub (l := [(0, .ref 25), (1, .int (Int32.ofInt x2)), (2, .int (Int32.ofInt x2))]) (lf_sb1 rfl (lf_sb1 rfl (lf_sb1 rfl lf_sb0))) ?_
  exact gm_171_p34 hX4 h
def fm_171_p4 (Q : Int → lf_Z → Prop) (X4 : Int → Int → lf_Z → Prop) (x1 : Int) (x2 : Int) (s : lf_Z) : Prop := lf_R x2 ∧ ((4 ≤ x2 → (Q x1 s)) ∧ (¬ (4 ≤ x2) → ((0 ≤ x2 ∧ x2 < 4) ∧ (lf_R (s.1 29 x2) ∧ ((s.1 29 x2 ≤ 0 → (fm_171_p34 X4 Q x1 x2 s)) ∧ (¬ (s.1 29 x2 ≤ 0) → (lf_R x1 ∧ ((x1 = (-1) → (fm_171_p32 X4 Q x2 s)) ∧ (¬ (x1 = (-1)) → (fm_172 x2 x1 (fun z26 s25 => ((z26 = false → (fm_171_p34 X4 Q x1 x2 s25)) ∧ (z26 = true → (fm_171_p32 X4 Q x2 s25)))) s))))))))))
def fm_171_p4L (Q : Int → lf_Z → Prop) (x1 : Int) (x2 : Int) (s : lf_Z) : Prop := ∀ X4 : Int → Int → lf_Z → Prop, (∀ (x1 : Int) (x2 : Int) (s : lf_Z), fm_171_p4 Q X4 x1 x2 s → X4 x1 x2 s) → X4 x1 x2 s
set_option maxRecDepth 100000 in
theorem gm_171_p4 {L : Nat} {xs : Nat → Int32} {d : Nat} {Q : Int → lf_Z → Prop} {x1 : Int} {x2 : Int} {s : lf_Z} {X4 : Int → Int → lf_Z → Prop} (hX4 : ∀ x1 x2 s, X4 x1 x2 s → lf_E (px_ro L xs) (d + 2) 171 4 [(0, .ref 25), (1, .int (Int32.ofInt x1)), (2, .int (Int32.ofInt x2))] [] s (lf_qi Q)) (h : fm_171_p4 Q X4 x1 x2 s) : lf_E (px_ro L xs) (d + 2) 171 4 [(0, .ref 25), (1, .int (Int32.ofInt x1)), (2, .int (Int32.ofInt x2))] [] s (lf_qi Q) := by
  unfold fm_171_p4 at h
  refine lf_seg 2 (pc' := 6) (lv' := [(0, .ref 25), (1, .int (Int32.ofInt x1)), (2, .int (Int32.ofInt x2))]) (st' := [.int (Int32.ofInt 4), .int (Int32.ofInt x2)]) rfl ?_
  obtain ⟨o21, h⟩ := h
  refine lf_icmp_ge 40 9 rfl rfl rfl o21 ⟨by decide, by decide⟩ (fun c => ?_) (fun c => ?_)
  · have h := h.1 c
    refine lf_seg 1 (pc' := 41) (lv' := [(0, .ref 25), (1, .int (Int32.ofInt x1)), (2, .int (Int32.ofInt x2))]) (st' := [.int (Int32.ofInt x1)]) rfl ?_
    exact lf_retI rfl rfl h
  · have h := h.2 c
    refine lf_seg 3 (pc' := 14) (lv' := [(0, .ref 25), (1, .int (Int32.ofInt x1)), (2, .int (Int32.ofInt x2))]) (st' := [.int (Int32.ofInt x2), .ref 29]) rfl ?_
    obtain ⟨o22, h⟩ := h
    refine lf_iald 15 4 rfl rfl rfl rfl rfl rfl o22 ?_
    obtain ⟨o23, h⟩ := h
    refine lf_if_le 34 18 rfl rfl rfl o23 (fun c => ?_) (fun c => ?_)
    · have h := h.1 c
      refine lf_sub (l := [(0, .ref 25), (1, .int (Int32.ofInt x1)), (2, .int (Int32.ofInt x2))]) (lf_sb1 rfl (lf_sb1 rfl (lf_sb1 rfl lf_sb0))) ?_
      exact gm_171_p34 hX4 h
    · have h := h.2 c
      refine lf_seg 2 (pc' := 20) (lv' := [(0, .ref 25), (1, .int (Int32.ofInt x1)), (2, .int (Int32.ofInt x2))]) (st' := [.int (Int32.ofInt (-1)), .int (Int32.ofInt x1)]) rfl ?_
      obtain ⟨o24, h⟩ := h
      refine lf_icmp_eq 32 23 rfl rfl rfl o24 ⟨by decide, by decide⟩ (fun c => ?_) (fun c => ?_)
      · have h := h.1 c
        refine lf_sub (l := [(0, .ref 25), (2, .int (Int32.ofInt x2))]) (lf_sb1 rfl (lf_sb1 rfl lf_sb0)) ?_
        exact gm_171_p32 hX4 h
      · have h := h.2 c
        refine lf_seg 3 (pc' := 26) (lv' := [(0, .ref 25), (1, .int (Int32.ofInt x1)), (2, .int (Int32.ofInt x2))]) (st' := [.int (Int32.ofInt x1), .int (Int32.ofInt x2), .ref 25]) rfl ?_
        refine lf_callZ 29 rfl rfl rfl rfl (gm_172 h) (fun z26 s25 h => ?_)
        refine lf_ifz_eq 34 32 rfl rfl rfl (fun c => ?_) (fun c => ?_)
        · have h := h.1 c
          refine lf_sub (l := [(0, .ref 25), (1, .int (Int32.ofInt x1)), (2, .int (Int32.ofInt x2))]) (lf_sb1 rfl (lf_sb1 rfl (lf_sb1 rfl lf_sb0))) ?_
          exact gm_171_p34 hX4 h
        · have h := h.2 c
          refine lf_sub (l := [(0, .ref 25), (2, .int (Int32.ofInt x2))]) (lf_sb1 rfl (lf_sb1 rfl lf_sb0)) ?_
          exact gm_171_p32 hX4 h
theorem gm_171_p4L {L : Nat} {xs : Nat → Int32} {d : Nat} {Q : Int → lf_Z → Prop} {x1 : Int} {x2 : Int} {s : lf_Z} (h : fm_171_p4L Q x1 x2 s) : lf_E (px_ro L xs) (d + 2) 171 4 [(0, .ref 25), (1, .int (Int32.ofInt x1)), (2, .int (Int32.ofInt x2))] [] s (lf_qi Q) :=
  h (fun x1 x2 s => lf_E (px_ro L xs) (d + 2) 171 4 [(0, .ref 25), (1, .int (Int32.ofInt x1)), (2, .int (Int32.ofInt x2))] [] s (lf_qi Q)) (fun x1 x2 s hb => gm_171_p4 (fun _ _ _ h => h) hb)
def fm_171 (Q : Int → lf_Z → Prop) (s : lf_Z) : Prop := fm_171_p4L Q (-1) 0 s
set_option maxRecDepth 100000 in
theorem gm_171 {L : Nat} {xs : Nat → Int32} {d : Nat} {Q : Int → lf_Z → Prop} {s : lf_Z} (h : fm_171 Q s) : lf_M (px_ro L xs) (d + 2) 171 [.ref 25] s (lf_qi Q) := by
  unfold fm_171 at h
  show lf_E (px_ro L xs) (d + 2) 171 0 [(0, .ref 25)] [] s _
  refine lf_seg 4 (pc' := 4) (lv' := [(2, .int (Int32.ofInt 0)), (1, .int (Int32.ofInt (-1))), (0, .ref 25)]) (st' := []) rfl ?_
  refine lf_sub (l := [(0, .ref 25), (1, .int (Int32.ofInt (-1))), (2, .int (Int32.ofInt 0))]) (lf_sb1 rfl (lf_sb1 rfl (lf_sb1 rfl lf_sb0))) ?_
  exact gm_171_p4L h
-- fm_170 ElevenBullocks.best 0
def fm_170 (Q : Int → lf_Z → Prop) (s : lf_Z) : Prop := fm_171 (fun r22 s21 => (Q r22 s21)) s
set_option maxRecDepth 100000 in
theorem gm_170 {L : Nat} {xs : Nat → Int32} {d : Nat} {Q : Int → lf_Z → Prop} {s : lf_Z} (h : fm_170 Q s) : lf_M (px_ro L xs) (d + 3) 170 [.ref 0] s (lf_qi Q) := by
  unfold fm_170 at h
  show lf_E (px_ro L xs) (d + 3) 170 0 [(0, .ref 0)] [] s _
  refine lf_seg 2 (pc' := 4) (lv' := [(0, .ref 0)]) (st' := [.ref 25]) rfl ?_
  refine lf_callI 7 rfl rfl rfl rfl (gm_171 h) (fun r22 s21 h => ?_)
  exact lf_retI rfl rfl h
-- fm_324 Model.best 95
def fm_324_p77 (X4 : Int → Int → lf_Z → Prop) (Q : Int → lf_Z → Prop) (x1 : Int) (x2 : Int) (s : lf_Z) : Prop := X4 x1 (x2 + 1) s
set_option maxRecDepth 100000 in
theorem gm_324_p77 {L : Nat} {xs : Nat → Int32} {d : Nat} {X4 : Int → Int → lf_Z → Prop} {Q : Int → lf_Z → Prop} {x1 : Int} {x2 : Int} {s : lf_Z} (hX4 : ∀ x1 x2 s, X4 x1 x2 s → lf_E (px_ro L xs) (d + 2) 324 4 [(0, .ref 95), (1, .int (Int32.ofInt x1)), (2, .int (Int32.ofInt x2))] [] s (lf_qi Q)) (h : fm_324_p77 X4 Q x1 x2 s) : lf_E (px_ro L xs) (d + 2) 324 77 [(0, .ref 95), (1, .int (Int32.ofInt x1)), (2, .int (Int32.ofInt x2))] [] s (lf_qi Q) := by
  unfold fm_324_p77 at h
  refine lf_iinc 80 rfl rfl rfl rfl ?_
  refine lf_seg 1 (pc' := 4) (lv' := [(2, .int (Int32.ofInt (x2 + 1))), (0, .ref 95), (1, .int (Int32.ofInt x1))]) (st' := []) rfl ?_
  refine lf_sub (l := [(0, .ref 95), (1, .int (Int32.ofInt x1)), (2, .int (Int32.ofInt (x2 + 1)))]) (lf_sb1 rfl (lf_sb1 rfl (lf_sb1 rfl lf_sb0))) ?_
  exact hX4 _ _ _ h
def fm_324_p75 (X4 : Int → Int → lf_Z → Prop) (Q : Int → lf_Z → Prop) (x2 : Int) (s : lf_Z) : Prop := fm_324_p77 X4 Q x2 x2 s
set_option maxRecDepth 100000 in
theorem gm_324_p75 {L : Nat} {xs : Nat → Int32} {d : Nat} {X4 : Int → Int → lf_Z → Prop} {Q : Int → lf_Z → Prop} {x2 : Int} {s : lf_Z} (hX4 : ∀ x1 x2 s, X4 x1 x2 s → lf_E (px_ro L xs) (d + 2) 324 4 [(0, .ref 95), (1, .int (Int32.ofInt x1)), (2, .int (Int32.ofInt x2))] [] s (lf_qi Q)) (h : fm_324_p75 X4 Q x2 s) : lf_E (px_ro L xs) (d + 2) 324 75 [(0, .ref 95), (2, .int (Int32.ofInt x2))] [] s (lf_qi Q) := by
  unfold fm_324_p75 at h
  refine lf_seg 2 (pc' := 77) (lv' := [(1, .int (Int32.ofInt x2)), (0, .ref 95), (2, .int (Int32.ofInt x2))]) (st' := []) rfl ?_
  refine lf_sub (l := [(0, .ref 95), (1, .int (Int32.ofInt x2)), (2, .int (Int32.ofInt x2))]) (lf_sb1 rfl (lf_sb1 rfl (lf_sb1 rfl lf_sb0))) ?_
  exact gm_324_p77 hX4 h
def fm_324_p53 (X4 : Int → Int → lf_Z → Prop) (Q : Int → lf_Z → Prop) (x1 : Int) (x2 : Int) (x3 : Int) (y0 : Int) (s : lf_Z) : Prop := lf_R y0 ∧ ((0 < y0 → (fm_324_p75 X4 Q x2 s)) ∧ (¬ (0 < y0) → ((y0 ≠ 0 → (fm_324_p77 X4 Q x1 x2 s)) ∧ (¬ (y0 ≠ 0) → (fm_323 x1 0 (fun r34 s33 => (lf_R x3 ∧ (lf_R r34 ∧ ((x3 ≤ r34 → (fm_324_p77 X4 Q x1 x2 s33)) ∧ (¬ (x3 ≤ r34) → (fm_324_p75 X4 Q x2 s33)))))) s)))))
set_option maxRecDepth 100000 in
theorem gm_324_p53 {L : Nat} {xs : Nat → Int32} {d : Nat} {X4 : Int → Int → lf_Z → Prop} {Q : Int → lf_Z → Prop} {x1 : Int} {x2 : Int} {x3 : Int} {y0 : Int} {s : lf_Z} (hX4 : ∀ x1 x2 s, X4 x1 x2 s → lf_E (px_ro L xs) (d + 2) 324 4 [(0, .ref 95), (1, .int (Int32.ofInt x1)), (2, .int (Int32.ofInt x2))] [] s (lf_qi Q)) (h : fm_324_p53 X4 Q x1 x2 x3 y0 s) : lf_E (px_ro L xs) (d + 2) 324 53 [(0, .ref 95), (1, .int (Int32.ofInt x1)), (2, .int (Int32.ofInt x2)), (3, .int (Int32.ofInt x3))] [.int (Int32.ofInt y0)] s (lf_qi Q) := by
  unfold fm_324_p53 at h
  refine lf_seg 2 (pc' := 57) (lv' := [(4, .int (Int32.ofInt y0)), (0, .ref 95), (1, .int (Int32.ofInt x1)), (2, .int (Int32.ofInt x2)), (3, .int (Int32.ofInt x3))]) (st' := [.int (Int32.ofInt y0)]) rfl ?_
  obtain ⟨o32, h⟩ := h
  refine lf_if_gt 75 60 rfl rfl rfl o32 (fun c => ?_) (fun c => ?_)
  · have h := h.1 c
    refine lf_sub (l := [(0, .ref 95), (2, .int (Int32.ofInt x2))]) (lf_sb1 rfl (lf_sb1 rfl lf_sb0)) ?_
    exact gm_324_p75 hX4 h
  · have h := h.2 c
    refine lf_seg 1 (pc' := 62) (lv' := [(4, .int (Int32.ofInt y0)), (0, .ref 95), (1, .int (Int32.ofInt x1)), (2, .int (Int32.ofInt x2)), (3, .int (Int32.ofInt x3))]) (st' := [.int (Int32.ofInt y0)]) rfl ?_
    refine lf_if_ne 77 65 rfl rfl rfl o32 (fun c => ?_) (fun c => ?_)
    · have h := h.1 c
      refine lf_sub (l := [(0, .ref 95), (1, .int (Int32.ofInt x1)), (2, .int (Int32.ofInt x2))]) (lf_sb1 rfl (lf_sb1 rfl (lf_sb1 rfl lf_sb0))) ?_
      exact gm_324_p77 hX4 h
    · have h := h.2 c
      refine lf_seg 4 (pc' := 69) (lv' := [(4, .int (Int32.ofInt y0)), (0, .ref 95), (1, .int (Int32.ofInt x1)), (2, .int (Int32.ofInt x2)), (3, .int (Int32.ofInt x3))]) (st' := [.int (Int32.ofInt 0), .int (Int32.ofInt x1), .ref 95, .int (Int32.ofInt x3)]) rfl ?_
      refine lf_callI 72 rfl rfl rfl rfl (gm_323 h) (fun r34 s33 h => ?_)
      obtain ⟨o35, h⟩ := h
      obtain ⟨o36, h⟩ := h
      refine lf_icmp_le 77 75 rfl rfl rfl o35 o36 (fun c => ?_) (fun c => ?_)
      · have h := h.1 c
        refine lf_sub (l := [(0, .ref 95), (1, .int (Int32.ofInt x1)), (2, .int (Int32.ofInt x2))]) (lf_sb1 rfl (lf_sb1 rfl (lf_sb1 rfl lf_sb0))) ?_
        exact gm_324_p77 hX4 h
      · have h := h.2 c
        refine lf_sub (l := [(0, .ref 95), (2, .int (Int32.ofInt x2))]) (lf_sb1 rfl (lf_sb1 rfl lf_sb0)) ?_
        exact gm_324_p75 hX4 h
def fm_324_p4 (Q : Int → lf_Z → Prop) (X4 : Int → Int → lf_Z → Prop) (x1 : Int) (x2 : Int) (s : lf_Z) : Prop := lf_R x2 ∧ ((4 ≤ x2 → (Q x1 s)) ∧ (¬ (4 ≤ x2) → (fm_323 x2 0 (fun r23 s22 => (lf_R r23 ∧ ((r23 ≠ 0 → (lf_R x1 ∧ ((0 ≤ x1 → (fm_323 x2 1 (fun r27 s26 => (fm_323 x1 0 (fun r29 s28 => (fm_323 x1 1 (fun r31 s30 => (fm_324_p53 X4 Q x1 x2 r23 ((r27 * r29) - (r31 * r23)) s30)) s28)) s26)) s22)) ∧ (¬ (0 ≤ x1) → (fm_324_p53 X4 Q x1 x2 r23 1 s22))))) ∧ (¬ (r23 ≠ 0) → (fm_324_p77 X4 Q x1 x2 s22))))) s)))
def fm_324_p4L (Q : Int → lf_Z → Prop) (x1 : Int) (x2 : Int) (s : lf_Z) : Prop := ∀ X4 : Int → Int → lf_Z → Prop, (∀ (x1 : Int) (x2 : Int) (s : lf_Z), fm_324_p4 Q X4 x1 x2 s → X4 x1 x2 s) → X4 x1 x2 s
set_option maxRecDepth 100000 in
theorem gm_324_p4 {L : Nat} {xs : Nat → Int32} {d : Nat} {Q : Int → lf_Z → Prop} {x1 : Int} {x2 : Int} {s : lf_Z} {X4 : Int → Int → lf_Z → Prop} (hX4 : ∀ x1 x2 s, X4 x1 x2 s → lf_E (px_ro L xs) (d + 2) 324 4 [(0, .ref 95), (1, .int (Int32.ofInt x1)), (2, .int (Int32.ofInt x2))] [] s (lf_qi Q)) (h : fm_324_p4 Q X4 x1 x2 s) : lf_E (px_ro L xs) (d + 2) 324 4 [(0, .ref 95), (1, .int (Int32.ofInt x1)), (2, .int (Int32.ofInt x2))] [] s (lf_qi Q) := by
  unfold fm_324_p4 at h
  refine lf_seg 2 (pc' := 6) (lv' := [(0, .ref 95), (1, .int (Int32.ofInt x1)), (2, .int (Int32.ofInt x2))]) (st' := [.int (Int32.ofInt 4), .int (Int32.ofInt x2)]) rfl ?_
  obtain ⟨o21, h⟩ := h
  refine lf_icmp_ge 83 9 rfl rfl rfl o21 ⟨by decide, by decide⟩ (fun c => ?_) (fun c => ?_)
  · have h := h.1 c
    refine lf_seg 1 (pc' := 84) (lv' := [(0, .ref 95), (1, .int (Int32.ofInt x1)), (2, .int (Int32.ofInt x2))]) (st' := [.int (Int32.ofInt x1)]) rfl ?_
    exact lf_retI rfl rfl h
  · have h := h.2 c
    refine lf_seg 3 (pc' := 12) (lv' := [(0, .ref 95), (1, .int (Int32.ofInt x1)), (2, .int (Int32.ofInt x2))]) (st' := [.int (Int32.ofInt 0), .int (Int32.ofInt x2), .ref 95]) rfl ?_
    refine lf_callI 15 rfl rfl rfl rfl (gm_323 h) (fun r23 s22 h => ?_)
    refine lf_seg 2 (pc' := 17) (lv' := [(3, .int (Int32.ofInt r23)), (0, .ref 95), (1, .int (Int32.ofInt x1)), (2, .int (Int32.ofInt x2))]) (st' := [.int (Int32.ofInt r23)]) rfl ?_
    obtain ⟨o24, h⟩ := h
    refine lf_if_ne 23 20 rfl rfl rfl o24 (fun c => ?_) (fun c => ?_)
    · have h := h.1 c
      refine lf_seg 1 (pc' := 24) (lv' := [(3, .int (Int32.ofInt r23)), (0, .ref 95), (1, .int (Int32.ofInt x1)), (2, .int (Int32.ofInt x2))]) (st' := [.int (Int32.ofInt x1)]) rfl ?_
      obtain ⟨o25, h⟩ := h
      refine lf_if_ge 31 27 rfl rfl rfl o25 (fun c => ?_) (fun c => ?_)
      · have h := h.1 c
        refine lf_seg 3 (pc' := 34) (lv' := [(3, .int (Int32.ofInt r23)), (0, .ref 95), (1, .int (Int32.ofInt x1)), (2, .int (Int32.ofInt x2))]) (st' := [.int (Int32.ofInt 1), .int (Int32.ofInt x2), .ref 95]) rfl ?_
        refine lf_callI 37 rfl rfl rfl rfl (gm_323 h) (fun r27 s26 h => ?_)
        refine lf_seg 3 (pc' := 40) (lv' := [(3, .int (Int32.ofInt r23)), (0, .ref 95), (1, .int (Int32.ofInt x1)), (2, .int (Int32.ofInt x2))]) (st' := [.int (Int32.ofInt 0), .int (Int32.ofInt x1), .ref 95, .int (Int32.ofInt r27)]) rfl ?_
        refine lf_callI 43 rfl rfl rfl rfl (gm_323 h) (fun r29 s28 h => ?_)
        refine lf_imul 44 rfl rfl ?_
        refine lf_seg 3 (pc' := 47) (lv' := [(3, .int (Int32.ofInt r23)), (0, .ref 95), (1, .int (Int32.ofInt x1)), (2, .int (Int32.ofInt x2))]) (st' := [.int (Int32.ofInt 1), .int (Int32.ofInt x1), .ref 95, .int (Int32.ofInt (r27 * r29))]) rfl ?_
        refine lf_callI 50 rfl rfl rfl rfl (gm_323 h) (fun r31 s30 h => ?_)
        refine lf_seg 1 (pc' := 51) (lv' := [(3, .int (Int32.ofInt r23)), (0, .ref 95), (1, .int (Int32.ofInt x1)), (2, .int (Int32.ofInt x2))]) (st' := [.int (Int32.ofInt r23), .int (Int32.ofInt r31), .int (Int32.ofInt (r27 * r29))]) rfl ?_
        refine lf_imul 52 rfl rfl ?_
        refine lf_isub 53 rfl rfl ?_
        refine lf_sub (l := [(0, .ref 95), (1, .int (Int32.ofInt x1)), (2, .int (Int32.ofInt x2)), (3, .int (Int32.ofInt r23))]) (lf_sb1 rfl (lf_sb1 rfl (lf_sb1 rfl (lf_sb1 rfl lf_sb0)))) ?_
        exact gm_324_p53 hX4 h
      · have h := h.2 c
        refine lf_seg 2 (pc' := 53) (lv' := [(3, .int (Int32.ofInt r23)), (0, .ref 95), (1, .int (Int32.ofInt x1)), (2, .int (Int32.ofInt x2))]) (st' := [.int (Int32.ofInt 1)]) rfl ?_
        refine lf_sub (l := [(0, .ref 95), (1, .int (Int32.ofInt x1)), (2, .int (Int32.ofInt x2)), (3, .int (Int32.ofInt r23))]) (lf_sb1 rfl (lf_sb1 rfl (lf_sb1 rfl (lf_sb1 rfl lf_sb0)))) ?_
        exact gm_324_p53 hX4 h
    · have h := h.2 c
      refine lf_seg 1 (pc' := 77) (lv' := [(3, .int (Int32.ofInt r23)), (0, .ref 95), (1, .int (Int32.ofInt x1)), (2, .int (Int32.ofInt x2))]) (st' := []) rfl ?_
      refine lf_sub (l := [(0, .ref 95), (1, .int (Int32.ofInt x1)), (2, .int (Int32.ofInt x2))]) (lf_sb1 rfl (lf_sb1 rfl (lf_sb1 rfl lf_sb0))) ?_
      exact gm_324_p77 hX4 h
theorem gm_324_p4L {L : Nat} {xs : Nat → Int32} {d : Nat} {Q : Int → lf_Z → Prop} {x1 : Int} {x2 : Int} {s : lf_Z} (h : fm_324_p4L Q x1 x2 s) : lf_E (px_ro L xs) (d + 2) 324 4 [(0, .ref 95), (1, .int (Int32.ofInt x1)), (2, .int (Int32.ofInt x2))] [] s (lf_qi Q) :=
  h (fun x1 x2 s => lf_E (px_ro L xs) (d + 2) 324 4 [(0, .ref 95), (1, .int (Int32.ofInt x1)), (2, .int (Int32.ofInt x2))] [] s (lf_qi Q)) (fun x1 x2 s hb => gm_324_p4 (fun _ _ _ h => h) hb)
def fm_324 (Q : Int → lf_Z → Prop) (s : lf_Z) : Prop := fm_324_p4L Q (-1) 0 s
set_option maxRecDepth 100000 in
theorem gm_324 {L : Nat} {xs : Nat → Int32} {d : Nat} {Q : Int → lf_Z → Prop} {s : lf_Z} (h : fm_324 Q s) : lf_M (px_ro L xs) (d + 2) 324 [.ref 95] s (lf_qi Q) := by
  unfold fm_324 at h
  show lf_E (px_ro L xs) (d + 2) 324 0 [(0, .ref 95)] [] s _
  refine lf_seg 4 (pc' := 4) (lv' := [(2, .int (Int32.ofInt 0)), (1, .int (Int32.ofInt (-1))), (0, .ref 95)]) (st' := []) rfl ?_
  refine lf_sub (l := [(0, .ref 95), (1, .int (Int32.ofInt (-1))), (2, .int (Int32.ofInt 0))]) (lf_sb1 rfl (lf_sb1 rfl (lf_sb1 rfl lf_sb0))) ?_
  exact gm_324_p4L h
-- fm_174 Stand.likeOther 79 15
def fm_174 (Q : lf_Z → Prop) (s : lf_Z) : Prop := Q (lf_up (lf_up (lf_up (lf_cp (lf_cp (lf_cp (lf_cp (lf_cp (lf_cp s.1 16 80 0 0 4) 17 81 0 0 4) 18 82 0 0 4) 19 83 0 0 6) 20 84 0 0 6) 21 85 0 0 12) 79 6 ((lf_cp (lf_cp (lf_cp (lf_cp (lf_cp (lf_cp s.1 16 80 0 0 4) 17 81 0 0 4) 18 82 0 0 4) 19 83 0 0 6) 20 84 0 0 6) 21 85 0 0 12) 15 6)) 79 7 ((lf_cp (lf_cp (lf_cp (lf_cp (lf_cp (lf_cp s.1 16 80 0 0 4) 17 81 0 0 4) 18 82 0 0 4) 19 83 0 0 6) 20 84 0 0 6) 21 85 0 0 12) 15 7)) 79 8 ((lf_cp (lf_cp (lf_cp (lf_cp (lf_cp (lf_cp s.1 16 80 0 0 4) 17 81 0 0 4) 18 82 0 0 4) 19 83 0 0 6) 20 84 0 0 6) 21 85 0 0 12) 15 8), s.2.1, s.2.2)
set_option maxRecDepth 100000 in
theorem gm_174 {L : Nat} {xs : Nat → Int32} {d : Nat} {Q : lf_Z → Prop} {s : lf_Z} (h : fm_174 Q s) : lf_M (px_ro L xs) (d + 1) 174 [.ref 79, .ref 15] s (lf_qv Q) := by
  unfold fm_174 at h
  show lf_E (px_ro L xs) (d + 1) 174 0 [(0, .ref 79), (1, .ref 15)] [] s _
  refine lf_seg 6 (pc' := 10) (lv' := [(0, .ref 79), (1, .ref 15)]) (st' := [.int (Int32.ofInt 0), .ref 80, .int (Int32.ofInt 0), .ref 16]) rfl ?_
  refine lf_seg 1 (pc' := 11) (lv' := [(0, .ref 79), (1, .ref 15)]) (st' := [.int (Int32.ofInt 4), .int (Int32.ofInt 0), .ref 80, .int (Int32.ofInt 0), .ref 16]) rfl ?_
  refine lf_cpy 14 rfl rfl rfl rfl rfl rfl rfl rfl rfl rfl rfl rfl ⟨by decide, by decide, by decide, by decide, by decide⟩ ?_
  refine lf_as (lf_cp s.1 16 80 0 0 4, s.2.1, s.2.2) rfl ?_
  refine lf_seg 6 (pc' := 24) (lv' := [(0, .ref 79), (1, .ref 15)]) (st' := [.int (Int32.ofInt 0), .ref 81, .int (Int32.ofInt 0), .ref 17]) rfl ?_
  refine lf_seg 1 (pc' := 25) (lv' := [(0, .ref 79), (1, .ref 15)]) (st' := [.int (Int32.ofInt 4), .int (Int32.ofInt 0), .ref 81, .int (Int32.ofInt 0), .ref 17]) rfl ?_
  refine lf_cpy 28 rfl rfl rfl rfl rfl rfl rfl rfl rfl rfl rfl rfl ⟨by decide, by decide, by decide, by decide, by decide⟩ ?_
  refine lf_as (lf_cp (lf_cp s.1 16 80 0 0 4) 17 81 0 0 4, s.2.1, s.2.2) rfl ?_
  refine lf_seg 6 (pc' := 38) (lv' := [(0, .ref 79), (1, .ref 15)]) (st' := [.int (Int32.ofInt 0), .ref 82, .int (Int32.ofInt 0), .ref 18]) rfl ?_
  refine lf_seg 1 (pc' := 39) (lv' := [(0, .ref 79), (1, .ref 15)]) (st' := [.int (Int32.ofInt 4), .int (Int32.ofInt 0), .ref 82, .int (Int32.ofInt 0), .ref 18]) rfl ?_
  refine lf_cpy 42 rfl rfl rfl rfl rfl rfl rfl rfl rfl rfl rfl rfl ⟨by decide, by decide, by decide, by decide, by decide⟩ ?_
  refine lf_as (lf_cp (lf_cp (lf_cp s.1 16 80 0 0 4) 17 81 0 0 4) 18 82 0 0 4, s.2.1, s.2.2) rfl ?_
  refine lf_seg 6 (pc' := 52) (lv' := [(0, .ref 79), (1, .ref 15)]) (st' := [.int (Int32.ofInt 0), .ref 83, .int (Int32.ofInt 0), .ref 19]) rfl ?_
  refine lf_bipush 54 6 rfl rfl (by decide) (by decide) ?_
  refine lf_cpy 57 rfl rfl rfl rfl rfl rfl rfl rfl rfl rfl rfl rfl ⟨by decide, by decide, by decide, by decide, by decide⟩ ?_
  refine lf_as (lf_cp (lf_cp (lf_cp (lf_cp s.1 16 80 0 0 4) 17 81 0 0 4) 18 82 0 0 4) 19 83 0 0 6, s.2.1, s.2.2) rfl ?_
  refine lf_seg 6 (pc' := 67) (lv' := [(0, .ref 79), (1, .ref 15)]) (st' := [.int (Int32.ofInt 0), .ref 84, .int (Int32.ofInt 0), .ref 20]) rfl ?_
  refine lf_bipush 69 6 rfl rfl (by decide) (by decide) ?_
  refine lf_cpy 72 rfl rfl rfl rfl rfl rfl rfl rfl rfl rfl rfl rfl ⟨by decide, by decide, by decide, by decide, by decide⟩ ?_
  refine lf_as (lf_cp (lf_cp (lf_cp (lf_cp (lf_cp s.1 16 80 0 0 4) 17 81 0 0 4) 18 82 0 0 4) 19 83 0 0 6) 20 84 0 0 6, s.2.1, s.2.2) rfl ?_
  refine lf_seg 6 (pc' := 82) (lv' := [(0, .ref 79), (1, .ref 15)]) (st' := [.int (Int32.ofInt 0), .ref 85, .int (Int32.ofInt 0), .ref 21]) rfl ?_
  refine lf_bipush 84 12 rfl rfl (by decide) (by decide) ?_
  refine lf_cpy 87 rfl rfl rfl rfl rfl rfl rfl rfl rfl rfl rfl rfl ⟨by decide, by decide, by decide, by decide, by decide⟩ ?_
  refine lf_as (lf_cp (lf_cp (lf_cp (lf_cp (lf_cp (lf_cp s.1 16 80 0 0 4) 17 81 0 0 4) 18 82 0 0 4) 19 83 0 0 6) 20 84 0 0 6) 21 85 0 0 12, s.2.1, s.2.2) rfl ?_
  refine lf_seg 2 (pc' := 89) (lv' := [(0, .ref 79), (1, .ref 15)]) (st' := [.ref 15, .ref 79]) rfl ?_
  refine lf_getI 92 6 rfl rfl rfl rfl rfl rfl rfl ?_
  refine lf_putI 95 6 rfl rfl rfl rfl rfl rfl rfl rfl ?_
  refine lf_as (lf_up (lf_cp (lf_cp (lf_cp (lf_cp (lf_cp (lf_cp s.1 16 80 0 0 4) 17 81 0 0 4) 18 82 0 0 4) 19 83 0 0 6) 20 84 0 0 6) 21 85 0 0 12) 79 6 ((lf_cp (lf_cp (lf_cp (lf_cp (lf_cp (lf_cp s.1 16 80 0 0 4) 17 81 0 0 4) 18 82 0 0 4) 19 83 0 0 6) 20 84 0 0 6) 21 85 0 0 12) 15 6), s.2.1, s.2.2) rfl ?_
  refine lf_seg 2 (pc' := 97) (lv' := [(0, .ref 79), (1, .ref 15)]) (st' := [.ref 15, .ref 79]) rfl ?_
  refine lf_getI 100 7 rfl rfl rfl rfl rfl rfl rfl ?_
  refine lf_seg 0 (pc' := 100) (lv' := [(0, .ref 79), (1, .ref 15)]) (st' := [.int (Int32.ofInt ((lf_cp (lf_cp (lf_cp (lf_cp (lf_cp (lf_cp s.1 16 80 0 0 4) 17 81 0 0 4) 18 82 0 0 4) 19 83 0 0 6) 20 84 0 0 6) 21 85 0 0 12) 15 7)), .ref 79]) rfl ?_
  refine lf_putI 103 7 rfl rfl rfl rfl rfl rfl rfl rfl ?_
  refine lf_as (lf_up (lf_up (lf_cp (lf_cp (lf_cp (lf_cp (lf_cp (lf_cp s.1 16 80 0 0 4) 17 81 0 0 4) 18 82 0 0 4) 19 83 0 0 6) 20 84 0 0 6) 21 85 0 0 12) 79 6 ((lf_cp (lf_cp (lf_cp (lf_cp (lf_cp (lf_cp s.1 16 80 0 0 4) 17 81 0 0 4) 18 82 0 0 4) 19 83 0 0 6) 20 84 0 0 6) 21 85 0 0 12) 15 6)) 79 7 ((lf_cp (lf_cp (lf_cp (lf_cp (lf_cp (lf_cp s.1 16 80 0 0 4) 17 81 0 0 4) 18 82 0 0 4) 19 83 0 0 6) 20 84 0 0 6) 21 85 0 0 12) 15 7), s.2.1, s.2.2) rfl ?_
  refine lf_seg 2 (pc' := 105) (lv' := [(0, .ref 79), (1, .ref 15)]) (st' := [.ref 15, .ref 79]) rfl ?_
  refine lf_getI 108 8 rfl rfl rfl rfl rfl rfl rfl ?_
  refine lf_seg 0 (pc' := 108) (lv' := [(0, .ref 79), (1, .ref 15)]) (st' := [.int (Int32.ofInt ((lf_cp (lf_cp (lf_cp (lf_cp (lf_cp (lf_cp s.1 16 80 0 0 4) 17 81 0 0 4) 18 82 0 0 4) 19 83 0 0 6) 20 84 0 0 6) 21 85 0 0 12) 15 8)), .ref 79]) rfl ?_
  refine lf_putI 111 8 rfl rfl rfl rfl rfl rfl rfl rfl ?_
  refine lf_as (lf_up (lf_up (lf_up (lf_cp (lf_cp (lf_cp (lf_cp (lf_cp (lf_cp s.1 16 80 0 0 4) 17 81 0 0 4) 18 82 0 0 4) 19 83 0 0 6) 20 84 0 0 6) 21 85 0 0 12) 79 6 ((lf_cp (lf_cp (lf_cp (lf_cp (lf_cp (lf_cp s.1 16 80 0 0 4) 17 81 0 0 4) 18 82 0 0 4) 19 83 0 0 6) 20 84 0 0 6) 21 85 0 0 12) 15 6)) 79 7 ((lf_cp (lf_cp (lf_cp (lf_cp (lf_cp (lf_cp s.1 16 80 0 0 4) 17 81 0 0 4) 18 82 0 0 4) 19 83 0 0 6) 20 84 0 0 6) 21 85 0 0 12) 15 7)) 79 8 ((lf_cp (lf_cp (lf_cp (lf_cp (lf_cp (lf_cp s.1 16 80 0 0 4) 17 81 0 0 4) 18 82 0 0 4) 19 83 0 0 6) 20 84 0 0 6) 21 85 0 0 12) 15 8), s.2.1, s.2.2) rfl ?_
  exact lf_retV rfl rfl h
-- fm_175 Steps.likeOther 86 22
def fm_175 (Q : lf_Z → Prop) (s : lf_Z) : Prop := Q (lf_up (lf_up (lf_cp (lf_cp s.1 23 87 0 0 1170) 24 88 0 0 30) 86 2 ((lf_cp (lf_cp s.1 23 87 0 0 1170) 24 88 0 0 30) 22 2)) 86 3 ((lf_cp (lf_cp s.1 23 87 0 0 1170) 24 88 0 0 30) 22 3), s.2.1, s.2.2)
set_option maxRecDepth 100000 in
theorem gm_175 {L : Nat} {xs : Nat → Int32} {d : Nat} {Q : lf_Z → Prop} {s : lf_Z} (h : fm_175 Q s) : lf_M (px_ro L xs) (d + 1) 175 [.ref 86, .ref 22] s (lf_qv Q) := by
  unfold fm_175 at h
  show lf_E (px_ro L xs) (d + 1) 175 0 [(0, .ref 86), (1, .ref 22)] [] s _
  refine lf_seg 6 (pc' := 10) (lv' := [(0, .ref 86), (1, .ref 22)]) (st' := [.int (Int32.ofInt 0), .ref 87, .int (Int32.ofInt 0), .ref 23]) rfl ?_
  refine lf_seg 2 (pc' := 14) (lv' := [(0, .ref 86), (1, .ref 22)]) (st' := [.ref 87, .int (Int32.ofInt 0), .ref 87, .int (Int32.ofInt 0), .ref 23]) rfl ?_
  refine lf_len 15 1170 rfl rfl rfl rfl rfl rfl ?_
  refine lf_cpy 18 rfl rfl rfl rfl rfl rfl rfl rfl rfl rfl rfl rfl ⟨by decide, by decide, by decide, by decide, by decide⟩ ?_
  refine lf_as (lf_cp s.1 23 87 0 0 1170, s.2.1, s.2.2) rfl ?_
  refine lf_seg 6 (pc' := 28) (lv' := [(0, .ref 86), (1, .ref 22)]) (st' := [.int (Int32.ofInt 0), .ref 88, .int (Int32.ofInt 0), .ref 24]) rfl ?_
  refine lf_bipush 30 30 rfl rfl (by decide) (by decide) ?_
  refine lf_cpy 33 rfl rfl rfl rfl rfl rfl rfl rfl rfl rfl rfl rfl ⟨by decide, by decide, by decide, by decide, by decide⟩ ?_
  refine lf_as (lf_cp (lf_cp s.1 23 87 0 0 1170) 24 88 0 0 30, s.2.1, s.2.2) rfl ?_
  refine lf_seg 2 (pc' := 35) (lv' := [(0, .ref 86), (1, .ref 22)]) (st' := [.ref 22, .ref 86]) rfl ?_
  refine lf_getI 38 2 rfl rfl rfl rfl rfl rfl rfl ?_
  refine lf_putI 41 2 rfl rfl rfl rfl rfl rfl rfl rfl ?_
  refine lf_as (lf_up (lf_cp (lf_cp s.1 23 87 0 0 1170) 24 88 0 0 30) 86 2 ((lf_cp (lf_cp s.1 23 87 0 0 1170) 24 88 0 0 30) 22 2), s.2.1, s.2.2) rfl ?_
  refine lf_seg 2 (pc' := 43) (lv' := [(0, .ref 86), (1, .ref 22)]) (st' := [.ref 22, .ref 86]) rfl ?_
  refine lf_getI 46 3 rfl rfl rfl rfl rfl rfl rfl ?_
  refine lf_seg 0 (pc' := 46) (lv' := [(0, .ref 86), (1, .ref 22)]) (st' := [.int (Int32.ofInt ((lf_cp (lf_cp s.1 23 87 0 0 1170) 24 88 0 0 30) 22 3)), .ref 86]) rfl ?_
  refine lf_putI 49 3 rfl rfl rfl rfl rfl rfl rfl rfl ?_
  refine lf_as (lf_up (lf_up (lf_cp (lf_cp s.1 23 87 0 0 1170) 24 88 0 0 30) 86 2 ((lf_cp (lf_cp s.1 23 87 0 0 1170) 24 88 0 0 30) 22 2)) 86 3 ((lf_cp (lf_cp s.1 23 87 0 0 1170) 24 88 0 0 30) 22 3), s.2.1, s.2.2) rfl ?_
  exact lf_retV rfl rfl h
-- fm_176 Notes.likeOther 89 25
def fm_176 (Q : lf_Z → Prop) (s : lf_Z) : Prop := Q (lf_up (lf_cp (lf_cp (lf_cp (lf_cp (lf_cp s.1 26 90 0 0 6) 27 91 0 0 6) 28 92 0 0 16) 29 93 0 0 4) 30 94 0 0 4) 89 2 ((lf_cp (lf_cp (lf_cp (lf_cp (lf_cp s.1 26 90 0 0 6) 27 91 0 0 6) 28 92 0 0 16) 29 93 0 0 4) 30 94 0 0 4) 25 2), s.2.1, s.2.2)
set_option maxRecDepth 100000 in
theorem gm_176 {L : Nat} {xs : Nat → Int32} {d : Nat} {Q : lf_Z → Prop} {s : lf_Z} (h : fm_176 Q s) : lf_M (px_ro L xs) (d + 1) 176 [.ref 89, .ref 25] s (lf_qv Q) := by
  unfold fm_176 at h
  show lf_E (px_ro L xs) (d + 1) 176 0 [(0, .ref 89), (1, .ref 25)] [] s _
  refine lf_seg 6 (pc' := 10) (lv' := [(0, .ref 89), (1, .ref 25)]) (st' := [.int (Int32.ofInt 0), .ref 90, .int (Int32.ofInt 0), .ref 26]) rfl ?_
  refine lf_bipush 12 6 rfl rfl (by decide) (by decide) ?_
  refine lf_cpy 15 rfl rfl rfl rfl rfl rfl rfl rfl rfl rfl rfl rfl ⟨by decide, by decide, by decide, by decide, by decide⟩ ?_
  refine lf_as (lf_cp s.1 26 90 0 0 6, s.2.1, s.2.2) rfl ?_
  refine lf_seg 6 (pc' := 25) (lv' := [(0, .ref 89), (1, .ref 25)]) (st' := [.int (Int32.ofInt 0), .ref 91, .int (Int32.ofInt 0), .ref 27]) rfl ?_
  refine lf_bipush 27 6 rfl rfl (by decide) (by decide) ?_
  refine lf_cpy 30 rfl rfl rfl rfl rfl rfl rfl rfl rfl rfl rfl rfl ⟨by decide, by decide, by decide, by decide, by decide⟩ ?_
  refine lf_as (lf_cp (lf_cp s.1 26 90 0 0 6) 27 91 0 0 6, s.2.1, s.2.2) rfl ?_
  refine lf_seg 6 (pc' := 40) (lv' := [(0, .ref 89), (1, .ref 25)]) (st' := [.int (Int32.ofInt 0), .ref 92, .int (Int32.ofInt 0), .ref 28]) rfl ?_
  refine lf_bipush 42 16 rfl rfl (by decide) (by decide) ?_
  refine lf_cpy 45 rfl rfl rfl rfl rfl rfl rfl rfl rfl rfl rfl rfl ⟨by decide, by decide, by decide, by decide, by decide⟩ ?_
  refine lf_as (lf_cp (lf_cp (lf_cp s.1 26 90 0 0 6) 27 91 0 0 6) 28 92 0 0 16, s.2.1, s.2.2) rfl ?_
  refine lf_seg 6 (pc' := 55) (lv' := [(0, .ref 89), (1, .ref 25)]) (st' := [.int (Int32.ofInt 0), .ref 93, .int (Int32.ofInt 0), .ref 29]) rfl ?_
  refine lf_seg 1 (pc' := 56) (lv' := [(0, .ref 89), (1, .ref 25)]) (st' := [.int (Int32.ofInt 4), .int (Int32.ofInt 0), .ref 93, .int (Int32.ofInt 0), .ref 29]) rfl ?_
  refine lf_cpy 59 rfl rfl rfl rfl rfl rfl rfl rfl rfl rfl rfl rfl ⟨by decide, by decide, by decide, by decide, by decide⟩ ?_
  refine lf_as (lf_cp (lf_cp (lf_cp (lf_cp s.1 26 90 0 0 6) 27 91 0 0 6) 28 92 0 0 16) 29 93 0 0 4, s.2.1, s.2.2) rfl ?_
  refine lf_seg 6 (pc' := 69) (lv' := [(0, .ref 89), (1, .ref 25)]) (st' := [.int (Int32.ofInt 0), .ref 94, .int (Int32.ofInt 0), .ref 30]) rfl ?_
  refine lf_seg 1 (pc' := 70) (lv' := [(0, .ref 89), (1, .ref 25)]) (st' := [.int (Int32.ofInt 4), .int (Int32.ofInt 0), .ref 94, .int (Int32.ofInt 0), .ref 30]) rfl ?_
  refine lf_cpy 73 rfl rfl rfl rfl rfl rfl rfl rfl rfl rfl rfl rfl ⟨by decide, by decide, by decide, by decide, by decide⟩ ?_
  refine lf_as (lf_cp (lf_cp (lf_cp (lf_cp (lf_cp s.1 26 90 0 0 6) 27 91 0 0 6) 28 92 0 0 16) 29 93 0 0 4) 30 94 0 0 4, s.2.1, s.2.2) rfl ?_
  refine lf_seg 2 (pc' := 75) (lv' := [(0, .ref 89), (1, .ref 25)]) (st' := [.ref 25, .ref 89]) rfl ?_
  refine lf_getI 78 2 rfl rfl rfl rfl rfl rfl rfl ?_
  refine lf_putI 81 2 rfl rfl rfl rfl rfl rfl rfl rfl ?_
  refine lf_as (lf_up (lf_cp (lf_cp (lf_cp (lf_cp (lf_cp s.1 26 90 0 0 6) 27 91 0 0 6) 28 92 0 0 16) 29 93 0 0 4) 30 94 0 0 4) 89 2 ((lf_cp (lf_cp (lf_cp (lf_cp (lf_cp s.1 26 90 0 0 6) 27 91 0 0 6) 28 92 0 0 16) 29 93 0 0 4) 30 94 0 0 4) 25 2), s.2.1, s.2.2) rfl ?_
  exact lf_retV rfl rfl h
-- fm_173 ElevenBullocks.image 0
def fm_173 (Q : Int → lf_Z → Prop) (s : lf_Z) : Prop := fm_174 (fun s21 => (fm_175 (fun s22 => (fm_176 (fun s23 => (Q (s23.1 15 7) s23)) s22)) s21)) (lf_up (lf_up (lf_up (lf_up (lf_up s.1 78 0 (s.1 1 0)) 78 1 (s.1 1 1)) 78 2 (s.1 1 2)) 78 3 (s.1 0 11)) 78 4 (s.1 0 12), s.2.1, s.2.2)
set_option maxRecDepth 100000 in
theorem gm_173 {L : Nat} {xs : Nat → Int32} {d : Nat} {Q : Int → lf_Z → Prop} {s : lf_Z} (h : fm_173 Q s) : lf_M (px_ro L xs) (d + 2) 173 [.ref 0] s (lf_qi Q) := by
  unfold fm_173 at h
  show lf_E (px_ro L xs) (d + 2) 173 0 [(0, .ref 0)] [] s _
  refine lf_seg 4 (pc' := 8) (lv' := [(0, .ref 0)]) (st' := [.ref 1, .ref 78]) rfl ?_
  refine lf_getI 11 0 rfl rfl rfl rfl rfl rfl rfl ?_
  refine lf_putI 14 0 rfl rfl rfl rfl rfl rfl rfl rfl ?_
  refine lf_as (lf_up s.1 78 0 (s.1 1 0), s.2.1, s.2.2) rfl ?_
  refine lf_seg 4 (pc' := 22) (lv' := [(0, .ref 0)]) (st' := [.ref 1, .ref 78]) rfl ?_
  refine lf_getI 25 1 rfl rfl rfl rfl rfl rfl rfl ?_
  refine lf_seg 0 (pc' := 25) (lv' := [(0, .ref 0)]) (st' := [.int (Int32.ofInt (s.1 1 1)), .ref 78]) rfl ?_
  refine lf_putI 28 1 rfl rfl rfl rfl rfl rfl rfl rfl ?_
  refine lf_as (lf_up (lf_up s.1 78 0 (s.1 1 0)) 78 1 (s.1 1 1), s.2.1, s.2.2) rfl ?_
  refine lf_seg 4 (pc' := 36) (lv' := [(0, .ref 0)]) (st' := [.ref 1, .ref 78]) rfl ?_
  refine lf_getI 39 2 rfl rfl rfl rfl rfl rfl rfl ?_
  refine lf_seg 0 (pc' := 39) (lv' := [(0, .ref 0)]) (st' := [.int (Int32.ofInt (s.1 1 2)), .ref 78]) rfl ?_
  refine lf_putI 42 2 rfl rfl rfl rfl rfl rfl rfl rfl ?_
  refine lf_as (lf_up (lf_up (lf_up s.1 78 0 (s.1 1 0)) 78 1 (s.1 1 1)) 78 2 (s.1 1 2), s.2.1, s.2.2) rfl ?_
  refine lf_seg 3 (pc' := 47) (lv' := [(0, .ref 0)]) (st' := [.ref 0, .ref 78]) rfl ?_
  refine lf_getI 50 11 rfl rfl rfl rfl rfl rfl rfl ?_
  refine lf_seg 0 (pc' := 50) (lv' := [(0, .ref 0)]) (st' := [.int (Int32.ofInt (s.1 0 11)), .ref 78]) rfl ?_
  refine lf_putI 53 3 rfl rfl rfl rfl rfl rfl rfl rfl ?_
  refine lf_as (lf_up (lf_up (lf_up (lf_up s.1 78 0 (s.1 1 0)) 78 1 (s.1 1 1)) 78 2 (s.1 1 2)) 78 3 (s.1 0 11), s.2.1, s.2.2) rfl ?_
  refine lf_seg 3 (pc' := 58) (lv' := [(0, .ref 0)]) (st' := [.ref 0, .ref 78]) rfl ?_
  refine lf_getI 61 12 rfl rfl rfl rfl rfl rfl rfl ?_
  refine lf_seg 0 (pc' := 61) (lv' := [(0, .ref 0)]) (st' := [.int (Int32.ofInt (s.1 0 12)), .ref 78]) rfl ?_
  refine lf_putI 64 4 rfl rfl rfl rfl rfl rfl rfl rfl ?_
  refine lf_as (lf_up (lf_up (lf_up (lf_up (lf_up s.1 78 0 (s.1 1 0)) 78 1 (s.1 1 1)) 78 2 (s.1 1 2)) 78 3 (s.1 0 11)) 78 4 (s.1 0 12), s.2.1, s.2.2) rfl ?_
  refine lf_seg 5 (pc' := 75) (lv' := [(0, .ref 0)]) (st' := [.ref 15, .ref 79]) rfl ?_
  refine lf_callV 78 rfl rfl rfl rfl (gm_174 h) (fun s21 h => ?_)
  refine lf_seg 5 (pc' := 89) (lv' := [(0, .ref 0)]) (st' := [.ref 22, .ref 86]) rfl ?_
  refine lf_callV 92 rfl rfl rfl rfl (gm_175 h) (fun s22 h => ?_)
  refine lf_seg 5 (pc' := 103) (lv' := [(0, .ref 0)]) (st' := [.ref 25, .ref 89]) rfl ?_
  refine lf_callV 106 rfl rfl rfl rfl (gm_176 h) (fun s23 h => ?_)
  refine lf_seg 2 (pc' := 110) (lv' := [(0, .ref 0)]) (st' := [.ref 15]) rfl ?_
  refine lf_getI 113 7 rfl rfl rfl rfl rfl rfl rfl ?_
  exact lf_retI rfl rfl h
-- fm_181 Model.copy 96 97
def fm_181_p2 (Q : lf_Z → Prop) (X2 : Int → lf_Z → Prop) (x2 : Int) (s : lf_Z) : Prop := lf_R x2 ∧ ((1538 ≤ x2 → (Q s)) ∧ (¬ (1538 ≤ x2) → ((0 ≤ x2 ∧ x2 < 1538) ∧ (X2 (x2 + 1) (lf_up s.1 97 x2 (s.1 96 x2), s.2.1, s.2.2)))))
def fm_181_p2L (Q : lf_Z → Prop) (x2 : Int) (s : lf_Z) : Prop := ∀ X2 : Int → lf_Z → Prop, (∀ (x2 : Int) (s : lf_Z), fm_181_p2 Q X2 x2 s → X2 x2 s) → X2 x2 s
set_option maxRecDepth 100000 in
theorem gm_181_p2 {L : Nat} {xs : Nat → Int32} {d : Nat} {Q : lf_Z → Prop} {x2 : Int} {s : lf_Z} {X2 : Int → lf_Z → Prop} (hX2 : ∀ x2 s, X2 x2 s → lf_E (px_ro L xs) (d + 1) 181 2 [(0, .ref 96), (1, .ref 97), (2, .int (Int32.ofInt x2))] [] s (lf_qv Q)) (h : fm_181_p2 Q X2 x2 s) : lf_E (px_ro L xs) (d + 1) 181 2 [(0, .ref 96), (1, .ref 97), (2, .int (Int32.ofInt x2))] [] s (lf_qv Q) := by
  unfold fm_181_p2 at h
  refine lf_seg 1 (pc' := 3) (lv' := [(0, .ref 96), (1, .ref 97), (2, .int (Int32.ofInt x2))]) (st' := [.int (Int32.ofInt x2)]) rfl ?_
  refine lf_sipush 6 1538 rfl rfl (by decide) (by decide) ?_
  obtain ⟨o21, h⟩ := h
  refine lf_icmp_ge 21 9 rfl rfl rfl o21 ⟨by decide, by decide⟩ (fun c => ?_) (fun c => ?_)
  · have h := h.1 c
    exact lf_retV rfl rfl h
  · have h := h.2 c
    refine lf_seg 4 (pc' := 13) (lv' := [(0, .ref 96), (1, .ref 97), (2, .int (Int32.ofInt x2))]) (st' := [.int (Int32.ofInt x2), .ref 96, .int (Int32.ofInt x2), .ref 97]) rfl ?_
    obtain ⟨o22, h⟩ := h
    refine lf_iald 14 1538 rfl rfl rfl rfl rfl rfl o22 ?_
    refine lf_iast 15 1538 rfl rfl rfl rfl rfl rfl o22 ?_
    refine lf_as (lf_up s.1 97 x2 (s.1 96 x2), s.2.1, s.2.2) rfl ?_
    refine lf_iinc 18 rfl rfl rfl rfl ?_
    refine lf_seg 1 (pc' := 2) (lv' := [(2, .int (Int32.ofInt (x2 + 1))), (0, .ref 96), (1, .ref 97)]) (st' := []) rfl ?_
    refine lf_sub (l := [(0, .ref 96), (1, .ref 97), (2, .int (Int32.ofInt (x2 + 1)))]) (lf_sb1 rfl (lf_sb1 rfl (lf_sb1 rfl lf_sb0))) ?_
    exact hX2 _ _ h
theorem gm_181_p2L {L : Nat} {xs : Nat → Int32} {d : Nat} {Q : lf_Z → Prop} {x2 : Int} {s : lf_Z} (h : fm_181_p2L Q x2 s) : lf_E (px_ro L xs) (d + 1) 181 2 [(0, .ref 96), (1, .ref 97), (2, .int (Int32.ofInt x2))] [] s (lf_qv Q) :=
  h (fun x2 s => lf_E (px_ro L xs) (d + 1) 181 2 [(0, .ref 96), (1, .ref 97), (2, .int (Int32.ofInt x2))] [] s (lf_qv Q)) (fun x2 s hb => gm_181_p2 (fun _ _ h => h) hb)
def fm_181 (Q : lf_Z → Prop) (s : lf_Z) : Prop := fm_181_p2L Q 0 s
set_option maxRecDepth 100000 in
theorem gm_181 {L : Nat} {xs : Nat → Int32} {d : Nat} {Q : lf_Z → Prop} {s : lf_Z} (h : fm_181 Q s) : lf_M (px_ro L xs) (d + 1) 181 [.ref 96, .ref 97] s (lf_qv Q) := by
  unfold fm_181 at h
  show lf_E (px_ro L xs) (d + 1) 181 0 [(0, .ref 96), (1, .ref 97)] [] s _
  refine lf_seg 2 (pc' := 2) (lv' := [(2, .int (Int32.ofInt 0)), (0, .ref 96), (1, .ref 97)]) (st' := []) rfl ?_
  refine lf_sub (l := [(0, .ref 96), (1, .ref 97), (2, .int (Int32.ofInt 0))]) (lf_sb1 rfl (lf_sb1 rfl (lf_sb1 rfl lf_sb0))) ?_
  exact gm_181_p2L h
-- fm_325 Model.image 95
def fm_325 (Q : Int → lf_Z → Prop) (s : lf_Z) : Prop := fm_181 (fun s21 => (Q (s21.1 96 3) s21)) s
set_option maxRecDepth 100000 in
theorem gm_325 {L : Nat} {xs : Nat → Int32} {d : Nat} {Q : Int → lf_Z → Prop} {s : lf_Z} (h : fm_325 Q s) : lf_M (px_ro L xs) (d + 2) 325 [.ref 95] s (lf_qi Q) := by
  unfold fm_325 at h
  show lf_E (px_ro L xs) (d + 2) 325 0 [(0, .ref 95)] [] s _
  refine lf_seg 4 (pc' := 8) (lv' := [(0, .ref 95)]) (st' := [.ref 97, .ref 96]) rfl ?_
  refine lf_callV 11 rfl rfl rfl rfl (gm_181 h) (fun s21 h => ?_)
  refine lf_seg 3 (pc' := 16) (lv' := [(0, .ref 95)]) (st' := [.int (Int32.ofInt 3), .ref 96]) rfl ?_
  refine lf_iald 17 1538 rfl rfl rfl rfl rfl rfl ⟨by decide, by decide⟩ ?_
  exact lf_retI rfl rfl h
-- fm_2b Land.setApart 13
def fm_2b_p9 (Q : lf_Z → Prop) (X9 : Int → lf_Z → Prop) (x1 : Int) (s : lf_Z) : Prop := lf_R x1 ∧ ((12 ≤ x1 → (Q s)) ∧ (¬ (12 ≤ x1) → ((0 ≤ (x1 * 12) + x1 ∧ (x1 * 12) + x1 < 144) ∧ (X9 (x1 + 1) (lf_up s.1 13 ((x1 * 12) + x1) 0, s.2.1, s.2.2)))))
def fm_2b_p9L (Q : lf_Z → Prop) (x1 : Int) (s : lf_Z) : Prop := ∀ X9 : Int → lf_Z → Prop, (∀ (x1 : Int) (s : lf_Z), fm_2b_p9 Q X9 x1 s → X9 x1 s) → X9 x1 s
set_option maxRecDepth 100000 in
theorem gm_2b_p9 {L : Nat} {xs : Nat → Int32} {d : Nat} {Q : lf_Z → Prop} {x1 : Int} {s : lf_Z} {X9 : Int → lf_Z → Prop} (hX9 : ∀ x1 s, X9 x1 s → lf_E (px_ro L xs) (d + 2) 2 9 [(0, .ref 13), (1, .int (Int32.ofInt x1))] [] s (lf_qv Q)) (h : fm_2b_p9 Q X9 x1 s) : lf_E (px_ro L xs) (d + 2) 2 9 [(0, .ref 13), (1, .int (Int32.ofInt x1))] [] s (lf_qv Q) := by
  unfold fm_2b_p9 at h
  refine lf_seg 1 (pc' := 10) (lv' := [(0, .ref 13), (1, .int (Int32.ofInt x1))]) (st' := [.int (Int32.ofInt x1)]) rfl ?_
  refine lf_bipush 12 12 rfl rfl (by decide) (by decide) ?_
  obtain ⟨o21, h⟩ := h
  refine lf_icmp_ge 30 15 rfl rfl rfl o21 ⟨by decide, by decide⟩ (fun c => ?_) (fun c => ?_)
  · have h := h.1 c
    exact lf_retV rfl rfl h
  · have h := h.2 c
    refine lf_seg 2 (pc' := 17) (lv' := [(0, .ref 13), (1, .int (Int32.ofInt x1))]) (st' := [.int (Int32.ofInt x1), .ref 13]) rfl ?_
    refine lf_bipush 19 12 rfl rfl (by decide) (by decide) ?_
    refine lf_imul 20 rfl rfl ?_
    refine lf_seg 1 (pc' := 21) (lv' := [(0, .ref 13), (1, .int (Int32.ofInt x1))]) (st' := [.int (Int32.ofInt x1), .int (Int32.ofInt (x1 * 12)), .ref 13]) rfl ?_
    refine lf_iadd 22 rfl rfl ?_
    refine lf_seg 1 (pc' := 23) (lv' := [(0, .ref 13), (1, .int (Int32.ofInt x1))]) (st' := [.int (Int32.ofInt 0), .int (Int32.ofInt ((x1 * 12) + x1)), .ref 13]) rfl ?_
    obtain ⟨o22, h⟩ := h
    refine lf_iast 24 144 rfl rfl rfl rfl rfl rfl o22 ?_
    refine lf_as (lf_up s.1 13 ((x1 * 12) + x1) 0, s.2.1, s.2.2) rfl ?_
    refine lf_iinc 27 rfl rfl rfl rfl ?_
    refine lf_seg 1 (pc' := 9) (lv' := [(1, .int (Int32.ofInt (x1 + 1))), (0, .ref 13)]) (st' := []) rfl ?_
    refine lf_sub (l := [(0, .ref 13), (1, .int (Int32.ofInt (x1 + 1)))]) (lf_sb1 rfl (lf_sb1 rfl lf_sb0)) ?_
    exact hX9 _ _ h
theorem gm_2b_p9L {L : Nat} {xs : Nat → Int32} {d : Nat} {Q : lf_Z → Prop} {x1 : Int} {s : lf_Z} (h : fm_2b_p9L Q x1 s) : lf_E (px_ro L xs) (d + 2) 2 9 [(0, .ref 13), (1, .int (Int32.ofInt x1))] [] s (lf_qv Q) :=
  h (fun x1 s => lf_E (px_ro L xs) (d + 2) 2 9 [(0, .ref 13), (1, .int (Int32.ofInt x1))] [] s (lf_qv Q)) (fun x1 s hb => gm_2b_p9 (fun _ _ h => h) hb)
def fm_2b (Q : lf_Z → Prop) (s : lf_Z) : Prop := fm_2b_p9L Q 0 (lf_fl s.1 13 144 1000, s.2.1, s.2.2)
set_option maxRecDepth 100000 in
theorem gm_2b {L : Nat} {xs : Nat → Int32} {d : Nat} {Q : lf_Z → Prop} {s : lf_Z} (h : fm_2b Q s) : lf_M (px_ro L xs) (d + 2) 2 [.ref 13] s (lf_qv Q) := by
  unfold fm_2b at h
  show lf_E (px_ro L xs) (d + 2) 2 0 [(0, .ref 13)] [] s _
  refine lf_seg 1 (pc' := 1) (lv' := [(0, .ref 13)]) (st' := [.ref 13]) rfl ?_
  refine lf_sipush 4 1000 rfl rfl (by decide) (by decide) ?_
  refine lf_callV (Q1 := fun s1 => s1 = (lf_fl s.1 13 144 1000, s.2.1, s.2.2)) 7 rfl rfl rfl rfl (lf_fill (m := 144) rfl rfl rfl rfl rfl rfl) (fun s1 hs1 => ?_)
  refine lf_as (lf_fl s.1 13 144 1000, s.2.1, s.2.2) hs1 ?_
  refine lf_seg 2 (pc' := 9) (lv' := [(1, .int (Int32.ofInt 0)), (0, .ref 13)]) (st' := []) rfl ?_
  refine lf_sub (l := [(0, .ref 13), (1, .int (Int32.ofInt 0))]) (lf_sb1 rfl (lf_sb1 rfl lf_sb0)) ?_
  exact gm_2b_p9L h
-- fm_178 Land.cutTo 1 i i i
def fm_178_p33 (Q : lf_Z → Prop) (X33 : Int → lf_Z → Prop) (x4 : Int) (s : lf_Z) : Prop := lf_R x4 ∧ (lf_R (s.1 1 1) ∧ ((s.1 1 1 ≤ x4 → (Q s)) ∧ (¬ (s.1 1 1 ≤ x4) → (fm_20 x4 (fun s24 => (X33 (x4 + 1) s24)) s))))
def fm_178_p33L (Q : lf_Z → Prop) (x4 : Int) (s : lf_Z) : Prop := ∀ X33 : Int → lf_Z → Prop, (∀ (x4 : Int) (s : lf_Z), fm_178_p33 Q X33 x4 s → X33 x4 s) → X33 x4 s
set_option maxRecDepth 100000 in
theorem gm_178_p33 {L : Nat} {xs : Nat → Int32} {d : Nat} {Q : lf_Z → Prop} {x4 : Int} {s : lf_Z} {X33 : Int → lf_Z → Prop} (hX33 : ∀ x4 s, X33 x4 s → lf_E (px_ro L xs) (d + 3) 178 33 [(0, .ref 1), (4, .int (Int32.ofInt x4))] [] s (lf_qv Q)) (h : fm_178_p33 Q X33 x4 s) : lf_E (px_ro L xs) (d + 3) 178 33 [(0, .ref 1), (4, .int (Int32.ofInt x4))] [] s (lf_qv Q) := by
  unfold fm_178_p33 at h
  refine lf_seg 2 (pc' := 36) (lv' := [(0, .ref 1), (4, .int (Int32.ofInt x4))]) (st' := [.ref 1, .int (Int32.ofInt x4)]) rfl ?_
  refine lf_getI 39 1 rfl rfl rfl rfl rfl rfl rfl ?_
  obtain ⟨o22, h⟩ := h
  obtain ⟨o23, h⟩ := h
  refine lf_icmp_ge 54 42 rfl rfl rfl o22 o23 (fun c => ?_) (fun c => ?_)
  · have h := h.1 c
    exact lf_retV rfl rfl h
  · have h := h.2 c
    refine lf_seg 2 (pc' := 45) (lv' := [(0, .ref 1), (4, .int (Int32.ofInt x4))]) (st' := [.int (Int32.ofInt x4), .ref 1]) rfl ?_
    refine lf_callV 48 rfl rfl rfl rfl (gm_20 h) (fun s24 h => ?_)
    refine lf_iinc 51 rfl rfl rfl rfl ?_
    refine lf_seg 1 (pc' := 33) (lv' := [(4, .int (Int32.ofInt (x4 + 1))), (0, .ref 1)]) (st' := []) rfl ?_
    refine lf_sub (l := [(0, .ref 1), (4, .int (Int32.ofInt (x4 + 1)))]) (lf_sb1 rfl (lf_sb1 rfl lf_sb0)) ?_
    exact hX33 _ _ h
theorem gm_178_p33L {L : Nat} {xs : Nat → Int32} {d : Nat} {Q : lf_Z → Prop} {x4 : Int} {s : lf_Z} (h : fm_178_p33L Q x4 s) : lf_E (px_ro L xs) (d + 3) 178 33 [(0, .ref 1), (4, .int (Int32.ofInt x4))] [] s (lf_qv Q) :=
  h (fun x4 s => lf_E (px_ro L xs) (d + 3) 178 33 [(0, .ref 1), (4, .int (Int32.ofInt x4))] [] s (lf_qv Q)) (fun x4 s hb => gm_178_p33 (fun _ _ h => h) hb)
def fm_178 (a1 : Int) (a2 : Int) (a3 : Int) (Q : lf_Z → Prop) (s : lf_Z) : Prop := fm_2b (fun s21 => (fm_178_p33L Q 0 s21)) (lf_fl (lf_up (lf_up (lf_up s.1 1 0 a1) 1 1 a2) 1 2 a3) 12 12 0, s.2.1, s.2.2)
set_option maxRecDepth 100000 in
theorem gm_178 {L : Nat} {xs : Nat → Int32} {d : Nat} {a1 : Int} {a2 : Int} {a3 : Int} {Q : lf_Z → Prop} {s : lf_Z} (h : fm_178 a1 a2 a3 Q s) : lf_M (px_ro L xs) (d + 3) 178 [.ref 1, .int (Int32.ofInt a1), .int (Int32.ofInt a2), .int (Int32.ofInt a3)] s (lf_qv Q) := by
  unfold fm_178 at h
  show lf_E (px_ro L xs) (d + 3) 178 0 [(0, .ref 1), (1, .int (Int32.ofInt a1)), (2, .int (Int32.ofInt a2)), (3, .int (Int32.ofInt a3))] [] s _
  refine lf_seg 2 (pc' := 2) (lv' := [(0, .ref 1), (1, .int (Int32.ofInt a1)), (2, .int (Int32.ofInt a2)), (3, .int (Int32.ofInt a3))]) (st' := [.int (Int32.ofInt a1), .ref 1]) rfl ?_
  refine lf_putI 5 0 rfl rfl rfl rfl rfl rfl rfl rfl ?_
  refine lf_as (lf_up s.1 1 0 a1, s.2.1, s.2.2) rfl ?_
  refine lf_seg 2 (pc' := 7) (lv' := [(0, .ref 1), (1, .int (Int32.ofInt a1)), (2, .int (Int32.ofInt a2)), (3, .int (Int32.ofInt a3))]) (st' := [.int (Int32.ofInt a2), .ref 1]) rfl ?_
  refine lf_putI 10 1 rfl rfl rfl rfl rfl rfl rfl rfl ?_
  refine lf_as (lf_up (lf_up s.1 1 0 a1) 1 1 a2, s.2.1, s.2.2) rfl ?_
  refine lf_seg 2 (pc' := 12) (lv' := [(0, .ref 1), (1, .int (Int32.ofInt a1)), (2, .int (Int32.ofInt a2)), (3, .int (Int32.ofInt a3))]) (st' := [.int (Int32.ofInt a3), .ref 1]) rfl ?_
  refine lf_putI 15 2 rfl rfl rfl rfl rfl rfl rfl rfl ?_
  refine lf_as (lf_up (lf_up (lf_up s.1 1 0 a1) 1 1 a2) 1 2 a3, s.2.1, s.2.2) rfl ?_
  refine lf_seg 3 (pc' := 20) (lv' := [(0, .ref 1), (1, .int (Int32.ofInt a1)), (2, .int (Int32.ofInt a2)), (3, .int (Int32.ofInt a3))]) (st' := [.int (Int32.ofInt 0), .ref 12]) rfl ?_
  refine lf_callV (Q1 := fun s1 => s1 = (lf_fl (lf_up (lf_up (lf_up s.1 1 0 a1) 1 1 a2) 1 2 a3) 12 12 0, s.2.1, s.2.2)) 23 rfl rfl rfl rfl (lf_fill (m := 12) rfl rfl rfl rfl rfl rfl) (fun s1 hs1 => ?_)
  refine lf_as (lf_fl (lf_up (lf_up (lf_up s.1 1 0 a1) 1 1 a2) 1 2 a3) 12 12 0, s.2.1, s.2.2) hs1 ?_
  refine lf_seg 2 (pc' := 27) (lv' := [(0, .ref 1), (1, .int (Int32.ofInt a1)), (2, .int (Int32.ofInt a2)), (3, .int (Int32.ofInt a3))]) (st' := [.ref 13]) rfl ?_
  refine lf_callV 30 rfl rfl rfl rfl (gm_2b h) (fun s21 h => ?_)
  refine lf_seg 2 (pc' := 33) (lv' := [(4, .int (Int32.ofInt 0)), (0, .ref 1), (1, .int (Int32.ofInt a1)), (2, .int (Int32.ofInt a2)), (3, .int (Int32.ofInt a3))]) (st' := []) rfl ?_
  refine lf_sub (l := [(0, .ref 1), (4, .int (Int32.ofInt 0))]) (lf_sb1 rfl (lf_sb1 rfl lf_sb0)) ?_
  exact gm_178_p33L h
-- fm_174b Stand.likeOther 15 79
def fm_174b (Q : lf_Z → Prop) (s : lf_Z) : Prop := Q (lf_up (lf_up (lf_up (lf_cp (lf_cp (lf_cp (lf_cp (lf_cp (lf_cp s.1 80 16 0 0 4) 81 17 0 0 4) 82 18 0 0 4) 83 19 0 0 6) 84 20 0 0 6) 85 21 0 0 12) 15 6 ((lf_cp (lf_cp (lf_cp (lf_cp (lf_cp (lf_cp s.1 80 16 0 0 4) 81 17 0 0 4) 82 18 0 0 4) 83 19 0 0 6) 84 20 0 0 6) 85 21 0 0 12) 79 6)) 15 7 ((lf_cp (lf_cp (lf_cp (lf_cp (lf_cp (lf_cp s.1 80 16 0 0 4) 81 17 0 0 4) 82 18 0 0 4) 83 19 0 0 6) 84 20 0 0 6) 85 21 0 0 12) 79 7)) 15 8 ((lf_cp (lf_cp (lf_cp (lf_cp (lf_cp (lf_cp s.1 80 16 0 0 4) 81 17 0 0 4) 82 18 0 0 4) 83 19 0 0 6) 84 20 0 0 6) 85 21 0 0 12) 79 8), s.2.1, s.2.2)
set_option maxRecDepth 100000 in
theorem gm_174b {L : Nat} {xs : Nat → Int32} {d : Nat} {Q : lf_Z → Prop} {s : lf_Z} (h : fm_174b Q s) : lf_M (px_ro L xs) (d + 1) 174 [.ref 15, .ref 79] s (lf_qv Q) := by
  unfold fm_174b at h
  show lf_E (px_ro L xs) (d + 1) 174 0 [(0, .ref 15), (1, .ref 79)] [] s _
  refine lf_seg 6 (pc' := 10) (lv' := [(0, .ref 15), (1, .ref 79)]) (st' := [.int (Int32.ofInt 0), .ref 16, .int (Int32.ofInt 0), .ref 80]) rfl ?_
  refine lf_seg 1 (pc' := 11) (lv' := [(0, .ref 15), (1, .ref 79)]) (st' := [.int (Int32.ofInt 4), .int (Int32.ofInt 0), .ref 16, .int (Int32.ofInt 0), .ref 80]) rfl ?_
  refine lf_cpy 14 rfl rfl rfl rfl rfl rfl rfl rfl rfl rfl rfl rfl ⟨by decide, by decide, by decide, by decide, by decide⟩ ?_
  refine lf_as (lf_cp s.1 80 16 0 0 4, s.2.1, s.2.2) rfl ?_
  refine lf_seg 6 (pc' := 24) (lv' := [(0, .ref 15), (1, .ref 79)]) (st' := [.int (Int32.ofInt 0), .ref 17, .int (Int32.ofInt 0), .ref 81]) rfl ?_
  refine lf_seg 1 (pc' := 25) (lv' := [(0, .ref 15), (1, .ref 79)]) (st' := [.int (Int32.ofInt 4), .int (Int32.ofInt 0), .ref 17, .int (Int32.ofInt 0), .ref 81]) rfl ?_
  refine lf_cpy 28 rfl rfl rfl rfl rfl rfl rfl rfl rfl rfl rfl rfl ⟨by decide, by decide, by decide, by decide, by decide⟩ ?_
  refine lf_as (lf_cp (lf_cp s.1 80 16 0 0 4) 81 17 0 0 4, s.2.1, s.2.2) rfl ?_
  refine lf_seg 6 (pc' := 38) (lv' := [(0, .ref 15), (1, .ref 79)]) (st' := [.int (Int32.ofInt 0), .ref 18, .int (Int32.ofInt 0), .ref 82]) rfl ?_
  refine lf_seg 1 (pc' := 39) (lv' := [(0, .ref 15), (1, .ref 79)]) (st' := [.int (Int32.ofInt 4), .int (Int32.ofInt 0), .ref 18, .int (Int32.ofInt 0), .ref 82]) rfl ?_
  refine lf_cpy 42 rfl rfl rfl rfl rfl rfl rfl rfl rfl rfl rfl rfl ⟨by decide, by decide, by decide, by decide, by decide⟩ ?_
  refine lf_as (lf_cp (lf_cp (lf_cp s.1 80 16 0 0 4) 81 17 0 0 4) 82 18 0 0 4, s.2.1, s.2.2) rfl ?_
  refine lf_seg 6 (pc' := 52) (lv' := [(0, .ref 15), (1, .ref 79)]) (st' := [.int (Int32.ofInt 0), .ref 19, .int (Int32.ofInt 0), .ref 83]) rfl ?_
  refine lf_bipush 54 6 rfl rfl (by decide) (by decide) ?_
  refine lf_cpy 57 rfl rfl rfl rfl rfl rfl rfl rfl rfl rfl rfl rfl ⟨by decide, by decide, by decide, by decide, by decide⟩ ?_
  refine lf_as (lf_cp (lf_cp (lf_cp (lf_cp s.1 80 16 0 0 4) 81 17 0 0 4) 82 18 0 0 4) 83 19 0 0 6, s.2.1, s.2.2) rfl ?_
  refine lf_seg 6 (pc' := 67) (lv' := [(0, .ref 15), (1, .ref 79)]) (st' := [.int (Int32.ofInt 0), .ref 20, .int (Int32.ofInt 0), .ref 84]) rfl ?_
  refine lf_bipush 69 6 rfl rfl (by decide) (by decide) ?_
  refine lf_cpy 72 rfl rfl rfl rfl rfl rfl rfl rfl rfl rfl rfl rfl ⟨by decide, by decide, by decide, by decide, by decide⟩ ?_
  refine lf_as (lf_cp (lf_cp (lf_cp (lf_cp (lf_cp s.1 80 16 0 0 4) 81 17 0 0 4) 82 18 0 0 4) 83 19 0 0 6) 84 20 0 0 6, s.2.1, s.2.2) rfl ?_
  refine lf_seg 6 (pc' := 82) (lv' := [(0, .ref 15), (1, .ref 79)]) (st' := [.int (Int32.ofInt 0), .ref 21, .int (Int32.ofInt 0), .ref 85]) rfl ?_
  refine lf_bipush 84 12 rfl rfl (by decide) (by decide) ?_
  refine lf_cpy 87 rfl rfl rfl rfl rfl rfl rfl rfl rfl rfl rfl rfl ⟨by decide, by decide, by decide, by decide, by decide⟩ ?_
  refine lf_as (lf_cp (lf_cp (lf_cp (lf_cp (lf_cp (lf_cp s.1 80 16 0 0 4) 81 17 0 0 4) 82 18 0 0 4) 83 19 0 0 6) 84 20 0 0 6) 85 21 0 0 12, s.2.1, s.2.2) rfl ?_
  refine lf_seg 2 (pc' := 89) (lv' := [(0, .ref 15), (1, .ref 79)]) (st' := [.ref 79, .ref 15]) rfl ?_
  refine lf_getI 92 6 rfl rfl rfl rfl rfl rfl rfl ?_
  refine lf_putI 95 6 rfl rfl rfl rfl rfl rfl rfl rfl ?_
  refine lf_as (lf_up (lf_cp (lf_cp (lf_cp (lf_cp (lf_cp (lf_cp s.1 80 16 0 0 4) 81 17 0 0 4) 82 18 0 0 4) 83 19 0 0 6) 84 20 0 0 6) 85 21 0 0 12) 15 6 ((lf_cp (lf_cp (lf_cp (lf_cp (lf_cp (lf_cp s.1 80 16 0 0 4) 81 17 0 0 4) 82 18 0 0 4) 83 19 0 0 6) 84 20 0 0 6) 85 21 0 0 12) 79 6), s.2.1, s.2.2) rfl ?_
  refine lf_seg 2 (pc' := 97) (lv' := [(0, .ref 15), (1, .ref 79)]) (st' := [.ref 79, .ref 15]) rfl ?_
  refine lf_getI 100 7 rfl rfl rfl rfl rfl rfl rfl ?_
  refine lf_seg 0 (pc' := 100) (lv' := [(0, .ref 15), (1, .ref 79)]) (st' := [.int (Int32.ofInt ((lf_cp (lf_cp (lf_cp (lf_cp (lf_cp (lf_cp s.1 80 16 0 0 4) 81 17 0 0 4) 82 18 0 0 4) 83 19 0 0 6) 84 20 0 0 6) 85 21 0 0 12) 79 7)), .ref 15]) rfl ?_
  refine lf_putI 103 7 rfl rfl rfl rfl rfl rfl rfl rfl ?_
  refine lf_as (lf_up (lf_up (lf_cp (lf_cp (lf_cp (lf_cp (lf_cp (lf_cp s.1 80 16 0 0 4) 81 17 0 0 4) 82 18 0 0 4) 83 19 0 0 6) 84 20 0 0 6) 85 21 0 0 12) 15 6 ((lf_cp (lf_cp (lf_cp (lf_cp (lf_cp (lf_cp s.1 80 16 0 0 4) 81 17 0 0 4) 82 18 0 0 4) 83 19 0 0 6) 84 20 0 0 6) 85 21 0 0 12) 79 6)) 15 7 ((lf_cp (lf_cp (lf_cp (lf_cp (lf_cp (lf_cp s.1 80 16 0 0 4) 81 17 0 0 4) 82 18 0 0 4) 83 19 0 0 6) 84 20 0 0 6) 85 21 0 0 12) 79 7), s.2.1, s.2.2) rfl ?_
  refine lf_seg 2 (pc' := 105) (lv' := [(0, .ref 15), (1, .ref 79)]) (st' := [.ref 79, .ref 15]) rfl ?_
  refine lf_getI 108 8 rfl rfl rfl rfl rfl rfl rfl ?_
  refine lf_seg 0 (pc' := 108) (lv' := [(0, .ref 15), (1, .ref 79)]) (st' := [.int (Int32.ofInt ((lf_cp (lf_cp (lf_cp (lf_cp (lf_cp (lf_cp s.1 80 16 0 0 4) 81 17 0 0 4) 82 18 0 0 4) 83 19 0 0 6) 84 20 0 0 6) 85 21 0 0 12) 79 8)), .ref 15]) rfl ?_
  refine lf_putI 111 8 rfl rfl rfl rfl rfl rfl rfl rfl ?_
  refine lf_as (lf_up (lf_up (lf_up (lf_cp (lf_cp (lf_cp (lf_cp (lf_cp (lf_cp s.1 80 16 0 0 4) 81 17 0 0 4) 82 18 0 0 4) 83 19 0 0 6) 84 20 0 0 6) 85 21 0 0 12) 15 6 ((lf_cp (lf_cp (lf_cp (lf_cp (lf_cp (lf_cp s.1 80 16 0 0 4) 81 17 0 0 4) 82 18 0 0 4) 83 19 0 0 6) 84 20 0 0 6) 85 21 0 0 12) 79 6)) 15 7 ((lf_cp (lf_cp (lf_cp (lf_cp (lf_cp (lf_cp s.1 80 16 0 0 4) 81 17 0 0 4) 82 18 0 0 4) 83 19 0 0 6) 84 20 0 0 6) 85 21 0 0 12) 79 7)) 15 8 ((lf_cp (lf_cp (lf_cp (lf_cp (lf_cp (lf_cp s.1 80 16 0 0 4) 81 17 0 0 4) 82 18 0 0 4) 83 19 0 0 6) 84 20 0 0 6) 85 21 0 0 12) 79 8), s.2.1, s.2.2) rfl ?_
  exact lf_retV rfl rfl h
-- fm_175b Steps.likeOther 22 86
def fm_175b (Q : lf_Z → Prop) (s : lf_Z) : Prop := Q (lf_up (lf_up (lf_cp (lf_cp s.1 87 23 0 0 1170) 88 24 0 0 30) 22 2 ((lf_cp (lf_cp s.1 87 23 0 0 1170) 88 24 0 0 30) 86 2)) 22 3 ((lf_cp (lf_cp s.1 87 23 0 0 1170) 88 24 0 0 30) 86 3), s.2.1, s.2.2)
set_option maxRecDepth 100000 in
theorem gm_175b {L : Nat} {xs : Nat → Int32} {d : Nat} {Q : lf_Z → Prop} {s : lf_Z} (h : fm_175b Q s) : lf_M (px_ro L xs) (d + 1) 175 [.ref 22, .ref 86] s (lf_qv Q) := by
  unfold fm_175b at h
  show lf_E (px_ro L xs) (d + 1) 175 0 [(0, .ref 22), (1, .ref 86)] [] s _
  refine lf_seg 6 (pc' := 10) (lv' := [(0, .ref 22), (1, .ref 86)]) (st' := [.int (Int32.ofInt 0), .ref 23, .int (Int32.ofInt 0), .ref 87]) rfl ?_
  refine lf_seg 2 (pc' := 14) (lv' := [(0, .ref 22), (1, .ref 86)]) (st' := [.ref 23, .int (Int32.ofInt 0), .ref 23, .int (Int32.ofInt 0), .ref 87]) rfl ?_
  refine lf_len 15 1170 rfl rfl rfl rfl rfl rfl ?_
  refine lf_cpy 18 rfl rfl rfl rfl rfl rfl rfl rfl rfl rfl rfl rfl ⟨by decide, by decide, by decide, by decide, by decide⟩ ?_
  refine lf_as (lf_cp s.1 87 23 0 0 1170, s.2.1, s.2.2) rfl ?_
  refine lf_seg 6 (pc' := 28) (lv' := [(0, .ref 22), (1, .ref 86)]) (st' := [.int (Int32.ofInt 0), .ref 24, .int (Int32.ofInt 0), .ref 88]) rfl ?_
  refine lf_bipush 30 30 rfl rfl (by decide) (by decide) ?_
  refine lf_cpy 33 rfl rfl rfl rfl rfl rfl rfl rfl rfl rfl rfl rfl ⟨by decide, by decide, by decide, by decide, by decide⟩ ?_
  refine lf_as (lf_cp (lf_cp s.1 87 23 0 0 1170) 88 24 0 0 30, s.2.1, s.2.2) rfl ?_
  refine lf_seg 2 (pc' := 35) (lv' := [(0, .ref 22), (1, .ref 86)]) (st' := [.ref 86, .ref 22]) rfl ?_
  refine lf_getI 38 2 rfl rfl rfl rfl rfl rfl rfl ?_
  refine lf_putI 41 2 rfl rfl rfl rfl rfl rfl rfl rfl ?_
  refine lf_as (lf_up (lf_cp (lf_cp s.1 87 23 0 0 1170) 88 24 0 0 30) 22 2 ((lf_cp (lf_cp s.1 87 23 0 0 1170) 88 24 0 0 30) 86 2), s.2.1, s.2.2) rfl ?_
  refine lf_seg 2 (pc' := 43) (lv' := [(0, .ref 22), (1, .ref 86)]) (st' := [.ref 86, .ref 22]) rfl ?_
  refine lf_getI 46 3 rfl rfl rfl rfl rfl rfl rfl ?_
  refine lf_seg 0 (pc' := 46) (lv' := [(0, .ref 22), (1, .ref 86)]) (st' := [.int (Int32.ofInt ((lf_cp (lf_cp s.1 87 23 0 0 1170) 88 24 0 0 30) 86 3)), .ref 22]) rfl ?_
  refine lf_putI 49 3 rfl rfl rfl rfl rfl rfl rfl rfl ?_
  refine lf_as (lf_up (lf_up (lf_cp (lf_cp s.1 87 23 0 0 1170) 88 24 0 0 30) 22 2 ((lf_cp (lf_cp s.1 87 23 0 0 1170) 88 24 0 0 30) 86 2)) 22 3 ((lf_cp (lf_cp s.1 87 23 0 0 1170) 88 24 0 0 30) 86 3), s.2.1, s.2.2) rfl ?_
  exact lf_retV rfl rfl h
