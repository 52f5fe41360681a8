-- fm_114 ElevenBullocks.ofWay 0 i i
def fm_114 (a1 : Int) (a2 : Int) (Q : Int → lf_Z → Prop) (s : lf_Z) : Prop := fm_79 a1 (fun z22 s21 => ((z22 = true → (lf_R a2 ∧ ((a2 < 0 ∨ 3 < a2 → (Q (-1) s21)) ∧ (a2 = 0 → ((0 ≤ a1 ∧ a1 < 16) ∧ (Q (s21.1 4 a1) s21))) ∧ (a2 = 1 → ((0 ≤ a1 ∧ a1 < 16) ∧ (Q (s21.1 5 a1) s21))) ∧ (a2 = 2 → ((0 ≤ a1 ∧ a1 < 16) ∧ (lf_R (s21.1 6 a1) ∧ ((s21.1 6 a1 = 0 → (Q 0 s21)) ∧ (¬ (s21.1 6 a1 = 0) → (Q 1 s21)))))) ∧ (a2 = 3 → (fm_90 a1 (fun z29 s28 => ((z29 = false → (Q 0 s28)) ∧ (z29 = true → (Q 1 s28)))) s21))))) ∧ (z22 = false → (Q (-1) s21)))) s
set_option maxRecDepth 100000 in
theorem gm_114 {L : Nat} {xs : Nat → Int32} {d : Nat} {a1 : Int} {a2 : Int} {Q : Int → lf_Z → Prop} {s : lf_Z} (h : fm_114 a1 a2 Q s) : lf_M (px_ro L xs) (d + 2) 114 [.ref 0, .int (Int32.ofInt a1), .int (Int32.ofInt a2)] s (lf_qi Q) := by
  unfold fm_114 at h
  show lf_E (px_ro L xs) (d + 2) 114 0 [(0, .ref 0), (1, .int (Int32.ofInt a1)), (2, .int (Int32.ofInt a2))] [] s _
  refine lf_seg 3 (pc' := 5) (lv' := [(0, .ref 0), (1, .int (Int32.ofInt a1)), (2, .int (Int32.ofInt a2))]) (st' := [.int (Int32.ofInt a1), .ref 1]) rfl ?_
  refine lf_callZ 8 rfl rfl rfl rfl (gm_79 h) (fun z22 s21 h => ?_)
  refine lf_ifz_ne 13 11 rfl rfl rfl (fun c => ?_) (fun c => ?_)
  · have h := h.1 c
    refine lf_seg 1 (pc' := 14) (lv' := [(0, .ref 0), (1, .int (Int32.ofInt a1)), (2, .int (Int32.ofInt a2))]) (st' := [.int (Int32.ofInt a2)]) rfl ?_
    obtain ⟨o23, h⟩ := h
    refine lf_tsw 99 [(0, 44), (1, 54), (2, 64), (3, 82)] rfl rfl rfl (by decide) o23 (fun c => ?_) (lf_tab1 (fun c => ?_) (lf_tab1 (fun c => ?_) (lf_tab1 (fun c => ?_) (lf_tab1 (fun c => ?_) lf_tab0))))
    · have h := h.1 c
      refine lf_seg 1 (pc' := 100) (lv' := [(0, .ref 0), (1, .int (Int32.ofInt a1)), (2, .int (Int32.ofInt a2))]) (st' := [.int (Int32.ofInt (-1))]) rfl ?_
      exact lf_retI rfl rfl h
    · have h := h.2.1 c
      refine lf_seg 4 (pc' := 52) (lv' := [(0, .ref 0), (1, .int (Int32.ofInt a1)), (2, .int (Int32.ofInt a2))]) (st' := [.int (Int32.ofInt a1), .ref 4]) rfl ?_
      obtain ⟨o24, h⟩ := h
      refine lf_iald 53 16 rfl rfl rfl rfl rfl rfl o24 ?_
      exact lf_retI rfl rfl h
    · have h := h.2.2.1 c
      refine lf_seg 4 (pc' := 62) (lv' := [(0, .ref 0), (1, .int (Int32.ofInt a1)), (2, .int (Int32.ofInt a2))]) (st' := [.int (Int32.ofInt a1), .ref 5]) rfl ?_
      obtain ⟨o25, h⟩ := h
      refine lf_iald 63 16 rfl rfl rfl rfl rfl rfl o25 ?_
      exact lf_retI rfl rfl h
    · have h := h.2.2.2.1 c
      refine lf_seg 4 (pc' := 72) (lv' := [(0, .ref 0), (1, .int (Int32.ofInt a1)), (2, .int (Int32.ofInt a2))]) (st' := [.int (Int32.ofInt a1), .ref 6]) rfl ?_
      obtain ⟨o26, h⟩ := h
      refine lf_zald 73 16 rfl rfl rfl rfl rfl rfl o26 ?_
      obtain ⟨o27, h⟩ := h
      refine lf_if_eq 80 76 rfl rfl rfl o27 (fun c => ?_) (fun c => ?_)
      · have h := h.1 c
        refine lf_seg 1 (pc' := 81) (lv' := [(0, .ref 0), (1, .int (Int32.ofInt a1)), (2, .int (Int32.ofInt a2))]) (st' := [.int (Int32.ofInt 0)]) rfl ?_
        exact lf_retI rfl rfl h
      · have h := h.2 c
        refine lf_seg 2 (pc' := 81) (lv' := [(0, .ref 0), (1, .int (Int32.ofInt a1)), (2, .int (Int32.ofInt a2))]) (st' := [.int (Int32.ofInt 1)]) rfl ?_
        exact lf_retI rfl rfl h
    · have h := h.2.2.2.2 c
      refine lf_seg 3 (pc' := 87) (lv' := [(0, .ref 0), (1, .int (Int32.ofInt a1)), (2, .int (Int32.ofInt a2))]) (st' := [.int (Int32.ofInt a1), .ref 15]) rfl ?_
      refine lf_callZ 90 rfl rfl rfl rfl (gm_90 h) (fun z29 s28 h => ?_)
      refine lf_ifz_eq 97 93 rfl rfl rfl (fun c => ?_) (fun c => ?_)
      · have h := h.1 c
        refine lf_seg 1 (pc' := 98) (lv' := [(0, .ref 0), (1, .int (Int32.ofInt a1)), (2, .int (Int32.ofInt a2))]) (st' := [.int (Int32.ofInt 0)]) rfl ?_
        exact lf_retI rfl rfl h
      · have h := h.2 c
        refine lf_seg 2 (pc' := 98) (lv' := [(0, .ref 0), (1, .int (Int32.ofInt a1)), (2, .int (Int32.ofInt a2))]) (st' := [.int (Int32.ofInt 1)]) rfl ?_
        exact lf_retI rfl rfl h
  · have h := h.2 c
    refine lf_seg 1 (pc' := 12) (lv' := [(0, .ref 0), (1, .int (Int32.ofInt a1)), (2, .int (Int32.ofInt a2))]) (st' := [.int (Int32.ofInt (-1))]) rfl ?_
    exact lf_retI rfl rfl h
-- fm_287 Model.ofWay 95 i i
def fm_287 (a1 : Int) (a2 : Int) (Q : Int → lf_Z → Prop) (s : lf_Z) : Prop := fm_251 a1 (fun z22 s21 => ((z22 = false → (Q (-1) s21)) ∧ (z22 = true → (fm_183 a2 0 3 (fun z24 s23 => ((z24 = false → (Q (-1) s23)) ∧ (z24 = true → ((0 ≤ (50 + (4 * a1)) + a2 ∧ (50 + (4 * a1)) + a2 < 1538) ∧ (Q (s23.1 96 ((50 + (4 * a1)) + a2)) s23))))) s21)))) s
set_option maxRecDepth 100000 in
theorem gm_287 {L : Nat} {xs : Nat → Int32} {d : Nat} {a1 : Int} {a2 : Int} {Q : Int → lf_Z → Prop} {s : lf_Z} (h : fm_287 a1 a2 Q s) : lf_M (px_ro L xs) (d + 3) 287 [.ref 95, .int (Int32.ofInt a1), .int (Int32.ofInt a2)] s (lf_qi Q) := by
  unfold fm_287 at h
  show lf_E (px_ro L xs) (d + 3) 287 0 [(0, .ref 95), (1, .int (Int32.ofInt a1)), (2, .int (Int32.ofInt a2))] [] s _
  refine lf_seg 2 (pc' := 2) (lv' := [(0, .ref 95), (1, .int (Int32.ofInt a1)), (2, .int (Int32.ofInt a2))]) (st' := [.int (Int32.ofInt a1), .ref 95]) rfl ?_
  refine lf_callZ 5 rfl rfl rfl rfl (gm_251 h) (fun z22 s21 h => ?_)
  refine lf_ifz_eq 33 8 rfl rfl rfl (fun c => ?_) (fun c => ?_)
  · have h := h.1 c
    refine lf_seg 1 (pc' := 34) (lv' := [(0, .ref 95), (1, .int (Int32.ofInt a1)), (2, .int (Int32.ofInt a2))]) (st' := [.int (Int32.ofInt (-1))]) rfl ?_
    exact lf_retI rfl rfl h
  · have h := h.2 c
    refine lf_seg 3 (pc' := 11) (lv' := [(0, .ref 95), (1, .int (Int32.ofInt a1)), (2, .int (Int32.ofInt a2))]) (st' := [.int (Int32.ofInt 3), .int (Int32.ofInt 0), .int (Int32.ofInt a2)]) rfl ?_
    refine lf_callZ 14 rfl rfl rfl rfl (gm_183 h) (fun z24 s23 h => ?_)
    refine lf_ifz_eq 33 17 rfl rfl rfl (fun c => ?_) (fun c => ?_)
    · have h := h.1 c
      refine lf_seg 1 (pc' := 34) (lv' := [(0, .ref 95), (1, .int (Int32.ofInt a1)), (2, .int (Int32.ofInt a2))]) (st' := [.int (Int32.ofInt (-1))]) rfl ?_
      exact lf_retI rfl rfl h
    · have h := h.2 c
      refine lf_seg 2 (pc' := 21) (lv' := [(0, .ref 95), (1, .int (Int32.ofInt a1)), (2, .int (Int32.ofInt a2))]) (st' := [.ref 96]) rfl ?_
      refine lf_bipush 23 50 rfl rfl (by decide) (by decide) ?_
      refine lf_seg 2 (pc' := 25) (lv' := [(0, .ref 95), (1, .int (Int32.ofInt a1)), (2, .int (Int32.ofInt a2))]) (st' := [.int (Int32.ofInt a1), .int (Int32.ofInt 4), .int (Int32.ofInt 50), .ref 96]) rfl ?_
      refine lf_imul 26 rfl rfl ?_
      refine lf_iadd 27 rfl rfl ?_
      refine lf_seg 1 (pc' := 28) (lv' := [(0, .ref 95), (1, .int (Int32.ofInt a1)), (2, .int (Int32.ofInt a2))]) (st' := [.int (Int32.ofInt a2), .int (Int32.ofInt (50 + (4 * a1))), .ref 96]) rfl ?_
      refine lf_iadd 29 rfl rfl ?_
      obtain ⟨o25, h⟩ := h
      refine lf_iald 30 1538 rfl rfl rfl rfl rfl rfl o25 ?_
      refine lf_seg 1 (pc' := 34) (lv' := [(0, .ref 95), (1, .int (Int32.ofInt a1)), (2, .int (Int32.ofInt a2))]) (st' := [.int (Int32.ofInt (s23.1 96 ((50 + (4 * a1)) + a2)))]) rfl ?_
      exact lf_retI rfl rfl h
-- fm_115 ElevenBullocks.takes 0 i i
def fm_115_p80 (Q : Int → lf_Z → Prop) (x1 : Int) (x2 : Int) (y0 : Int) (s : lf_Z) : Prop := (0 ≤ x1 ∧ x1 < 4) ∧ (fm_91 (s.1 16 x1) (s.1 17 x1) x2 y0 0 0 (fun r34 s33 => (Q r34 s33)) s)
set_option maxRecDepth 100000 in
theorem gm_115_p80 {L : Nat} {xs : Nat → Int32} {d : Nat} {Q : Int → lf_Z → Prop} {x1 : Int} {x2 : Int} {y0 : Int} {s : lf_Z} (h : fm_115_p80 Q x1 x2 y0 s) : lf_E (px_ro L xs) (d + 4) 115 80 [(0, .ref 0), (1, .int (Int32.ofInt x1)), (2, .int (Int32.ofInt x2))] [.int (Int32.ofInt y0)] s (lf_qi Q) := by
  unfold fm_115_p80 at h
  refine lf_seg 6 (pc' := 93) (lv' := [(4, .int (Int32.ofInt y0)), (0, .ref 0), (1, .int (Int32.ofInt x1)), (2, .int (Int32.ofInt x2))]) (st' := [.ref 16, .ref 63]) rfl ?_
  refine lf_seg 1 (pc' := 94) (lv' := [(4, .int (Int32.ofInt y0)), (0, .ref 0), (1, .int (Int32.ofInt x1)), (2, .int (Int32.ofInt x2))]) (st' := [.int (Int32.ofInt x1), .ref 16, .ref 63]) rfl ?_
  obtain ⟨o32, h⟩ := h
  refine lf_iald 95 4 rfl rfl rfl rfl rfl rfl o32 ?_
  refine lf_seg 4 (pc' := 103) (lv' := [(4, .int (Int32.ofInt y0)), (0, .ref 0), (1, .int (Int32.ofInt x1)), (2, .int (Int32.ofInt x2))]) (st' := [.int (Int32.ofInt x1), .ref 17, .int (Int32.ofInt (s.1 16 x1)), .ref 63]) rfl ?_
  refine lf_iald 104 4 rfl rfl rfl rfl rfl rfl o32 ?_
  refine lf_seg 4 (pc' := 109) (lv' := [(4, .int (Int32.ofInt y0)), (0, .ref 0), (1, .int (Int32.ofInt x1)), (2, .int (Int32.ofInt x2))]) (st' := [.int (Int32.ofInt 0), .int (Int32.ofInt 0), .int (Int32.ofInt y0), .int (Int32.ofInt x2), .int (Int32.ofInt (s.1 17 x1)), .int (Int32.ofInt (s.1 16 x1)), .ref 63]) rfl ?_
  refine lf_callI 112 rfl rfl rfl rfl (gm_91 h) (fun r34 s33 h => ?_)
  exact lf_retI rfl rfl h
def fm_115 (a1 : Int) (a2 : Int) (Q : Int → lf_Z → Prop) (s : lf_Z) : Prop := fm_80 a1 (fun z22 s21 => ((z22 = false → (Q (-1) s21)) ∧ (z22 = true → (fm_89 a2 (fun z24 s23 => ((z24 = true → ((0 ≤ a1 ∧ a1 < 4) ∧ (fm_78 a2 (s23.1 17 a1) (fun r27 s26 => (lf_R r27 ∧ ((r27 ≠ (-1) → (fm_90 a2 (fun z30 s29 => ((z30 = true → (lf_R (s29.1 18 a1) ∧ ((s29.1 18 a1 ≠ r27 → (fm_115_p80 Q a1 a2 0 s29)) ∧ (¬ (s29.1 18 a1 ≠ r27) → (fm_115_p80 Q a1 a2 1 s29))))) ∧ (z30 = false → (Q 0 s29)))) s26)) ∧ (¬ (r27 ≠ (-1)) → (Q (-1) s26))))) s23))) ∧ (z24 = false → (Q (-1) s23)))) s21)))) s
set_option maxRecDepth 100000 in
theorem gm_115 {L : Nat} {xs : Nat → Int32} {d : Nat} {a1 : Int} {a2 : Int} {Q : Int → lf_Z → Prop} {s : lf_Z} (h : fm_115 a1 a2 Q s) : lf_M (px_ro L xs) (d + 4) 115 [.ref 0, .int (Int32.ofInt a1), .int (Int32.ofInt a2)] s (lf_qi Q) := by
  unfold fm_115 at h
  show lf_E (px_ro L xs) (d + 4) 115 0 [(0, .ref 0), (1, .int (Int32.ofInt a1)), (2, .int (Int32.ofInt a2))] [] s _
  refine lf_seg 3 (pc' := 5) (lv' := [(0, .ref 0), (1, .int (Int32.ofInt a1)), (2, .int (Int32.ofInt a2))]) (st' := [.int (Int32.ofInt a1), .ref 15]) rfl ?_
  refine lf_callZ 8 rfl rfl rfl rfl (gm_80 h) (fun z22 s21 h => ?_)
  refine lf_ifz_eq 22 11 rfl rfl rfl (fun c => ?_) (fun c => ?_)
  · have h := h.1 c
    refine lf_seg 1 (pc' := 23) (lv' := [(0, .ref 0), (1, .int (Int32.ofInt a1)), (2, .int (Int32.ofInt a2))]) (st' := [.int (Int32.ofInt (-1))]) rfl ?_
    exact lf_retI rfl rfl h
  · have h := h.2 c
    refine lf_seg 3 (pc' := 16) (lv' := [(0, .ref 0), (1, .int (Int32.ofInt a1)), (2, .int (Int32.ofInt a2))]) (st' := [.int (Int32.ofInt a2), .ref 1]) rfl ?_
    refine lf_callZ 19 rfl rfl rfl rfl (gm_89 h) (fun z24 s23 h => ?_)
    refine lf_ifz_ne 24 22 rfl rfl rfl (fun c => ?_) (fun c => ?_)
    · have h := h.1 c
      refine lf_seg 6 (pc' := 36) (lv' := [(0, .ref 0), (1, .int (Int32.ofInt a1)), (2, .int (Int32.ofInt a2))]) (st' := [.ref 17, .int (Int32.ofInt a2), .ref 1]) rfl ?_
      refine lf_seg 1 (pc' := 37) (lv' := [(0, .ref 0), (1, .int (Int32.ofInt a1)), (2, .int (Int32.ofInt a2))]) (st' := [.int (Int32.ofInt a1), .ref 17, .int (Int32.ofInt a2), .ref 1]) rfl ?_
      obtain ⟨o25, h⟩ := h
      refine lf_iald 38 4 rfl rfl rfl rfl rfl rfl o25 ?_
      refine lf_callI 41 rfl rfl rfl rfl (gm_78 h) (fun r27 s26 h => ?_)
      refine lf_seg 3 (pc' := 44) (lv' := [(3, .int (Int32.ofInt r27)), (0, .ref 0), (1, .int (Int32.ofInt a1)), (2, .int (Int32.ofInt a2))]) (st' := [.int (Int32.ofInt (-1)), .int (Int32.ofInt r27)]) rfl ?_
      obtain ⟨o28, h⟩ := h
      refine lf_icmp_ne 49 47 rfl rfl rfl o28 ⟨by decide, by decide⟩ (fun c => ?_) (fun c => ?_)
      · have h := h.1 c
        refine lf_seg 3 (pc' := 54) (lv' := [(3, .int (Int32.ofInt r27)), (0, .ref 0), (1, .int (Int32.ofInt a1)), (2, .int (Int32.ofInt a2))]) (st' := [.int (Int32.ofInt a2), .ref 15]) rfl ?_
        refine lf_callZ 57 rfl rfl rfl rfl (gm_90 h) (fun z30 s29 h => ?_)
        refine lf_ifz_ne 62 60 rfl rfl rfl (fun c => ?_) (fun c => ?_)
        · have h := h.1 c
          refine lf_seg 4 (pc' := 70) (lv' := [(3, .int (Int32.ofInt r27)), (0, .ref 0), (1, .int (Int32.ofInt a1)), (2, .int (Int32.ofInt a2))]) (st' := [.int (Int32.ofInt a1), .ref 18]) rfl ?_
          refine lf_iald 71 4 rfl rfl rfl rfl rfl rfl o25 ?_
          refine lf_seg 1 (pc' := 72) (lv' := [(3, .int (Int32.ofInt r27)), (0, .ref 0), (1, .int (Int32.ofInt a1)), (2, .int (Int32.ofInt a2))]) (st' := [.int (Int32.ofInt r27), .int (Int32.ofInt (s29.1 18 a1))]) rfl ?_
          obtain ⟨o31, h⟩ := h
          refine lf_icmp_ne 79 75 rfl rfl rfl o31 o28 (fun c => ?_) (fun c => ?_)
          · have h := h.1 c
            refine lf_seg 1 (pc' := 80) (lv' := [(3, .int (Int32.ofInt r27)), (0, .ref 0), (1, .int (Int32.ofInt a1)), (2, .int (Int32.ofInt a2))]) (st' := [.int (Int32.ofInt 0)]) rfl ?_
            refine lf_sub (l := [(0, .ref 0), (1, .int (Int32.ofInt a1)), (2, .int (Int32.ofInt a2))]) (lf_sb1 rfl (lf_sb1 rfl (lf_sb1 rfl lf_sb0))) ?_
            exact gm_115_p80 h
          · have h := h.2 c
            refine lf_seg 2 (pc' := 80) (lv' := [(3, .int (Int32.ofInt r27)), (0, .ref 0), (1, .int (Int32.ofInt a1)), (2, .int (Int32.ofInt a2))]) (st' := [.int (Int32.ofInt 1)]) rfl ?_
            refine lf_sub (l := [(0, .ref 0), (1, .int (Int32.ofInt a1)), (2, .int (Int32.ofInt a2))]) (lf_sb1 rfl (lf_sb1 rfl (lf_sb1 rfl lf_sb0))) ?_
            exact gm_115_p80 h
        · have h := h.2 c
          refine lf_seg 1 (pc' := 61) (lv' := [(3, .int (Int32.ofInt r27)), (0, .ref 0), (1, .int (Int32.ofInt a1)), (2, .int (Int32.ofInt a2))]) (st' := [.int (Int32.ofInt 0)]) rfl ?_
          exact lf_retI rfl rfl h
      · have h := h.2 c
        refine lf_seg 1 (pc' := 48) (lv' := [(3, .int (Int32.ofInt r27)), (0, .ref 0), (1, .int (Int32.ofInt a1)), (2, .int (Int32.ofInt a2))]) (st' := [.int (Int32.ofInt (-1))]) rfl ?_
        exact lf_retI rfl rfl h
    · have h := h.2 c
      refine lf_seg 1 (pc' := 23) (lv' := [(0, .ref 0), (1, .int (Int32.ofInt a1)), (2, .int (Int32.ofInt a2))]) (st' := [.int (Int32.ofInt (-1))]) rfl ?_
      exact lf_retI rfl rfl h
-- fm_288 Model.takes 95 i i
def fm_288 (a1 : Int) (a2 : Int) (Q : Int → lf_Z → Prop) (s : lf_Z) : Prop := fm_254 a1 (fun z22 s21 => ((z22 = false → (Q (-1) s21)) ∧ (z22 = true → (fm_251 a2 (fun z24 s23 => ((z24 = false → (Q (-1) s23)) ∧ (z24 = true → (fm_252 a2 (fun z26 s25 => ((z26 = true → (Q (-1) s25)) ∧ (z26 = false → (fm_255 a1 (fun r28 s27 => (fm_187 a2 r28 (fun r30 s29 => (lf_R r30 ∧ ((0 ≤ r30 → (fm_242 a1 (fun r33 s32 => (fm_255 a1 (fun r35 s34 => (fm_256 a1 (fun r37 s36 => (fm_273 r33 r35 r37 a2 (fun r39 s38 => (Q r39 s38)) s36)) s34)) s32)) s29)) ∧ (¬ (0 ≤ r30) → (Q (-1) s29))))) s27)) s25)))) s23)))) s21)))) s
set_option maxRecDepth 100000 in
theorem gm_288 {L : Nat} {xs : Nat → Int32} {d : Nat} {a1 : Int} {a2 : Int} {Q : Int → lf_Z → Prop} {s : lf_Z} (h : fm_288 a1 a2 Q s) : lf_M (px_ro L xs) (d + 6) 288 [.ref 95, .int (Int32.ofInt a1), .int (Int32.ofInt a2)] s (lf_qi Q) := by
  unfold fm_288 at h
  show lf_E (px_ro L xs) (d + 6) 288 0 [(0, .ref 95), (1, .int (Int32.ofInt a1)), (2, .int (Int32.ofInt a2))] [] s _
  refine lf_seg 2 (pc' := 2) (lv' := [(0, .ref 95), (1, .int (Int32.ofInt a1)), (2, .int (Int32.ofInt a2))]) (st' := [.int (Int32.ofInt a1), .ref 95]) rfl ?_
  refine lf_callZ 5 rfl rfl rfl rfl (gm_254 h) (fun z22 s21 h => ?_)
  refine lf_ifz_eq 37 8 rfl rfl rfl (fun c => ?_) (fun c => ?_)
  · have h := h.1 c
    refine lf_seg 1 (pc' := 38) (lv' := [(0, .ref 95), (1, .int (Int32.ofInt a1)), (2, .int (Int32.ofInt a2))]) (st' := [.int (Int32.ofInt (-1))]) rfl ?_
    exact lf_retI rfl rfl h
  · have h := h.2 c
    refine lf_seg 2 (pc' := 10) (lv' := [(0, .ref 95), (1, .int (Int32.ofInt a1)), (2, .int (Int32.ofInt a2))]) (st' := [.int (Int32.ofInt a2), .ref 95]) rfl ?_
    refine lf_callZ 13 rfl rfl rfl rfl (gm_251 h) (fun z24 s23 h => ?_)
    refine lf_ifz_eq 37 16 rfl rfl rfl (fun c => ?_) (fun c => ?_)
    · have h := h.1 c
      refine lf_seg 1 (pc' := 38) (lv' := [(0, .ref 95), (1, .int (Int32.ofInt a1)), (2, .int (Int32.ofInt a2))]) (st' := [.int (Int32.ofInt (-1))]) rfl ?_
      exact lf_retI rfl rfl h
    · have h := h.2 c
      refine lf_seg 2 (pc' := 18) (lv' := [(0, .ref 95), (1, .int (Int32.ofInt a1)), (2, .int (Int32.ofInt a2))]) (st' := [.int (Int32.ofInt a2), .ref 95]) rfl ?_
      refine lf_callZ 21 rfl rfl rfl rfl (gm_252 h) (fun z26 s25 h => ?_)
      refine lf_ifz_ne 37 24 rfl rfl rfl (fun c => ?_) (fun c => ?_)
      · have h := h.1 c
        refine lf_seg 1 (pc' := 38) (lv' := [(0, .ref 95), (1, .int (Int32.ofInt a1)), (2, .int (Int32.ofInt a2))]) (st' := [.int (Int32.ofInt (-1))]) rfl ?_
        exact lf_retI rfl rfl h
      · have h := h.2 c
        refine lf_seg 4 (pc' := 28) (lv' := [(0, .ref 95), (1, .int (Int32.ofInt a1)), (2, .int (Int32.ofInt a2))]) (st' := [.int (Int32.ofInt a1), .ref 95, .int (Int32.ofInt a2), .ref 95]) rfl ?_
        refine lf_callI 31 rfl rfl rfl rfl (gm_255 h) (fun r28 s27 h => ?_)
        refine lf_callI 34 rfl rfl rfl rfl (gm_187 h) (fun r30 s29 h => ?_)
        obtain ⟨o31, h⟩ := h
        refine lf_if_ge 39 37 rfl rfl rfl o31 (fun c => ?_) (fun c => ?_)
        · have h := h.1 c
          refine lf_seg 3 (pc' := 42) (lv' := [(0, .ref 95), (1, .int (Int32.ofInt a1)), (2, .int (Int32.ofInt a2))]) (st' := [.int (Int32.ofInt a1), .ref 95, .ref 95]) rfl ?_
          refine lf_callI 45 rfl rfl rfl rfl (gm_242 h) (fun r33 s32 h => ?_)
          refine lf_seg 2 (pc' := 47) (lv' := [(0, .ref 95), (1, .int (Int32.ofInt a1)), (2, .int (Int32.ofInt a2))]) (st' := [.int (Int32.ofInt a1), .ref 95, .int (Int32.ofInt r33), .ref 95]) rfl ?_
          refine lf_callI 50 rfl rfl rfl rfl (gm_255 h) (fun r35 s34 h => ?_)
          refine lf_seg 2 (pc' := 52) (lv' := [(0, .ref 95), (1, .int (Int32.ofInt a1)), (2, .int (Int32.ofInt a2))]) (st' := [.int (Int32.ofInt a1), .ref 95, .int (Int32.ofInt r35), .int (Int32.ofInt r33), .ref 95]) rfl ?_
          refine lf_callI 55 rfl rfl rfl rfl (gm_256 h) (fun r37 s36 h => ?_)
          refine lf_seg 1 (pc' := 56) (lv' := [(0, .ref 95), (1, .int (Int32.ofInt a1)), (2, .int (Int32.ofInt a2))]) (st' := [.int (Int32.ofInt a2), .int (Int32.ofInt r37), .int (Int32.ofInt r35), .int (Int32.ofInt r33), .ref 95]) rfl ?_
          refine lf_callI 59 rfl rfl rfl rfl (gm_273 h) (fun r39 s38 h => ?_)
          exact lf_retI rfl rfl h
        · have h := h.2 c
          refine lf_seg 1 (pc' := 38) (lv' := [(0, .ref 95), (1, .int (Int32.ofInt a1)), (2, .int (Int32.ofInt a2))]) (st' := [.int (Int32.ofInt (-1))]) rfl ?_
          exact lf_retI rfl rfl h
-- fm_118 Walk.begin 68 i i
def fm_118 (a1 : Int) (a2 : Int) (Q : lf_Z → Prop) (s : lf_Z) : Prop := (0 ≤ a1 ∧ a1 < 4) ∧ (Q (lf_up (lf_up (lf_up (lf_up (lf_fl s.1 69 256 (-1)) 68 8 ((lf_fl s.1 69 256 (-1)) 16 a1)) 68 11 a2) 68 9 0) 68 10 0, s.2.1, s.2.2))
set_option maxRecDepth 100000 in
theorem gm_118 {L : Nat} {xs : Nat → Int32} {d : Nat} {a1 : Int} {a2 : Int} {Q : lf_Z → Prop} {s : lf_Z} (h : fm_118 a1 a2 Q s) : lf_M (px_ro L xs) (d + 2) 118 [.ref 68, .int (Int32.ofInt a1), .int (Int32.ofInt a2)] s (lf_qv Q) := by
  unfold fm_118 at h
  show lf_E (px_ro L xs) (d + 2) 118 0 [(0, .ref 68), (1, .int (Int32.ofInt a1)), (2, .int (Int32.ofInt a2))] [] s _
  refine lf_seg 3 (pc' := 5) (lv' := [(0, .ref 68), (1, .int (Int32.ofInt a1)), (2, .int (Int32.ofInt a2))]) (st' := [.int (Int32.ofInt (-1)), .ref 69]) rfl ?_
  refine lf_callV (Q1 := fun s1 => s1 = (lf_fl s.1 69 256 (-1), s.2.1, s.2.2)) 8 rfl rfl rfl rfl (lf_fill (m := 256) rfl rfl rfl rfl rfl rfl) (fun s1 hs1 => ?_)
  refine lf_as (lf_fl s.1 69 256 (-1), s.2.1, s.2.2) hs1 ?_
  refine lf_seg 5 (pc' := 17) (lv' := [(0, .ref 68), (1, .int (Int32.ofInt a1)), (2, .int (Int32.ofInt a2))]) (st' := [.int (Int32.ofInt a1), .ref 16, .ref 68]) rfl ?_
  obtain ⟨o21, h⟩ := h
  refine lf_iald 18 4 rfl rfl rfl rfl rfl rfl o21 ?_
  refine lf_putI 21 8 rfl rfl rfl rfl rfl rfl rfl rfl ?_
  refine lf_as (lf_up (lf_fl s.1 69 256 (-1)) 68 8 ((lf_fl s.1 69 256 (-1)) 16 a1), s.2.1, s.2.2) rfl ?_
  refine lf_seg 2 (pc' := 23) (lv' := [(0, .ref 68), (1, .int (Int32.ofInt a1)), (2, .int (Int32.ofInt a2))]) (st' := [.int (Int32.ofInt a2), .ref 68]) rfl ?_
  refine lf_putI 26 11 rfl rfl rfl rfl rfl rfl rfl rfl ?_
  refine lf_as (lf_up (lf_up (lf_fl s.1 69 256 (-1)) 68 8 ((lf_fl s.1 69 256 (-1)) 16 a1)) 68 11 a2, s.2.1, s.2.2) rfl ?_
  refine lf_seg 2 (pc' := 28) (lv' := [(0, .ref 68), (1, .int (Int32.ofInt a1)), (2, .int (Int32.ofInt a2))]) (st' := [.int (Int32.ofInt 0), .ref 68]) rfl ?_
  refine lf_putI 31 9 rfl rfl rfl rfl rfl rfl rfl rfl ?_
  refine lf_as (lf_up (lf_up (lf_up (lf_fl s.1 69 256 (-1)) 68 8 ((lf_fl s.1 69 256 (-1)) 16 a1)) 68 11 a2) 68 9 0, s.2.1, s.2.2) rfl ?_
  refine lf_seg 2 (pc' := 33) (lv' := [(0, .ref 68), (1, .int (Int32.ofInt a1)), (2, .int (Int32.ofInt a2))]) (st' := [.int (Int32.ofInt 0), .ref 68]) rfl ?_
  refine lf_putI 36 10 rfl rfl rfl rfl rfl rfl rfl rfl ?_
  refine lf_as (lf_up (lf_up (lf_up (lf_up (lf_fl s.1 69 256 (-1)) 68 8 ((lf_fl s.1 69 256 (-1)) 16 a1)) 68 11 a2) 68 9 0) 68 10 0, s.2.1, s.2.2) rfl ?_
  exact lf_retV rfl rfl h
-- fm_119 java/util/Arrays.fill w l
def fm_119_p6 (Q : lf_Z → Prop) (v0 : Nat) (x1 : Int) (x4 : Int) (X6 : Int → lf_Z → Prop) (x3 : Int) (s : lf_Z) : Prop := lf_R x3 ∧ (lf_R x4 ∧ ((x4 ≤ x3 → (Q s)) ∧ (¬ (x4 ≤ x3) → ((0 ≤ x3 ∧ x3 < 156) ∧ (X6 (x3 + 1) (s.1, lf_up s.2.1 v0 x3 (lf_wl x1), s.2.2))))))
def fm_119_p6L (Q : lf_Z → Prop) (v0 : Nat) (x1 : Int) (x3 : Int) (x4 : Int) (s : lf_Z) : Prop := ∀ X6 : Int → lf_Z → Prop, (∀ (x3 : Int) (s : lf_Z), fm_119_p6 Q v0 x1 x4 X6 x3 s → X6 x3 s) → X6 x3 s
set_option maxRecDepth 100000 in
theorem gm_119_p6 {L : Nat} {xs : Nat → Int32} {d : Nat} {Q : lf_Z → Prop} {v0 : Nat} {x1 : Int} {x3 : Int} {x4 : Int} {s : lf_Z} {X6 : Int → lf_Z → Prop} (hX6 : ∀ x3 s, X6 x3 s → lf_E (px_ro L xs) (d + 1) 119 6 [(0, .ref v0), (1, .long (Int64.ofInt x1)), (3, .int (Int32.ofInt x3)), (4, .int (Int32.ofInt x4))] [] s (lf_qv Q)) (hwv0 : v0 = 72 ∨ v0 = 73) (h : fm_119_p6 Q v0 x1 x4 X6 x3 s) : lf_E (px_ro L xs) (d + 1) 119 6 [(0, .ref v0), (1, .long (Int64.ofInt x1)), (3, .int (Int32.ofInt x3)), (4, .int (Int32.ofInt x4))] [] s (lf_qv Q) := by
  unfold fm_119_p6 at h
  refine lf_eqs (lv' := [(0, .ref v0), (1, .long (Int64.ofInt (lf_wl x1))), (3, .int (Int32.ofInt x3)), (4, .int (Int32.ofInt x4))]) (st' := []) (by simp only [lf_wlE]) rfl ?_
  refine lf_seg 2 (pc' := 9) (lv' := [(0, .ref v0), (1, .long (Int64.ofInt (lf_wl x1))), (3, .int (Int32.ofInt x3)), (4, .int (Int32.ofInt x4))]) (st' := [.int (Int32.ofInt x4), .int (Int32.ofInt x3)]) rfl ?_
  obtain ⟨o21, h⟩ := h
  obtain ⟨o22, h⟩ := h
  refine lf_icmp_ge 22 12 rfl rfl rfl o21 o22 (fun c => ?_) (fun c => ?_)
  · have h := h.1 c
    exact lf_retV rfl rfl h
  · have h := h.2 c
    refine lf_seg 3 (pc' := 15) (lv' := [(0, .ref v0), (1, .long (Int64.ofInt (lf_wl x1))), (3, .int (Int32.ofInt x3)), (4, .int (Int32.ofInt x4))]) (st' := [.long (Int64.ofInt (lf_wl x1)), .int (Int32.ofInt x3), .ref v0]) rfl ?_
    obtain ⟨o23, h⟩ := h
    refine lf_last 16 156 rfl rfl (lf_wA hwv0) (lf_wC hwv0) rfl rfl o23 ?_
    refine lf_as (s.1, lf_up s.2.1 v0 x3 (lf_wl x1), s.2.2) rfl ?_
    refine lf_iinc 19 rfl rfl rfl rfl ?_
    refine lf_seg 1 (pc' := 6) (lv' := [(3, .int (Int32.ofInt (x3 + 1))), (0, .ref v0), (1, .long (Int64.ofInt (lf_wl x1))), (4, .int (Int32.ofInt x4))]) (st' := []) rfl ?_
    refine lf_eqs (lv' := [(3, .int (Int32.ofInt (x3 + 1))), (0, .ref v0), (1, .long (Int64.ofInt x1)), (4, .int (Int32.ofInt x4))]) (st' := []) (by simp only [lf_wlE]) rfl ?_
    refine lf_sub (l := [(0, .ref v0), (1, .long (Int64.ofInt x1)), (3, .int (Int32.ofInt (x3 + 1))), (4, .int (Int32.ofInt x4))]) (lf_sb1 rfl (lf_sb1 rfl (lf_sb1 rfl (lf_sb1 rfl lf_sb0)))) ?_
    exact hX6 _ _ h
theorem gm_119_p6L {L : Nat} {xs : Nat → Int32} {d : Nat} {Q : lf_Z → Prop} {v0 : Nat} {x1 : Int} {x3 : Int} {x4 : Int} {s : lf_Z} (hwv0 : v0 = 72 ∨ v0 = 73) (h : fm_119_p6L Q v0 x1 x3 x4 s) : lf_E (px_ro L xs) (d + 1) 119 6 [(0, .ref v0), (1, .long (Int64.ofInt x1)), (3, .int (Int32.ofInt x3)), (4, .int (Int32.ofInt x4))] [] s (lf_qv Q) :=
  h (fun x3 s => lf_E (px_ro L xs) (d + 1) 119 6 [(0, .ref v0), (1, .long (Int64.ofInt x1)), (3, .int (Int32.ofInt x3)), (4, .int (Int32.ofInt x4))] [] s (lf_qv Q)) (fun x3 s hb => gm_119_p6 (fun _ _ h => h) hwv0 hb)
def fm_119 (w0 : Nat) (a1 : Int) (Q : lf_Z → Prop) (s : lf_Z) : Prop := fm_119_p6L Q w0 a1 0 156 s
set_option maxRecDepth 100000 in
theorem gm_119 {L : Nat} {xs : Nat → Int32} {d : Nat} {w0 : Nat} {a1 : Int} {Q : lf_Z → Prop} {s : lf_Z} (hww0 : w0 = 72 ∨ w0 = 73) (h : fm_119 w0 a1 Q s) : lf_M (px_ro L xs) (d + 1) 119 [.ref w0, .long (Int64.ofInt a1)] s (lf_qv Q) := by
  unfold fm_119 at h
  show lf_E (px_ro L xs) (d + 1) 119 0 [(0, .ref w0), (1, .long (Int64.ofInt a1))] [] s _
  refine lf_eqs (lv' := [(0, .ref w0), (1, .long (Int64.ofInt (lf_wl a1)))]) (st' := []) (by simp only [lf_wlE]) rfl ?_
  refine lf_seg 3 (pc' := 3) (lv' := [(3, .int (Int32.ofInt 0)), (0, .ref w0), (1, .long (Int64.ofInt (lf_wl a1)))]) (st' := [.ref w0]) rfl ?_
  refine lf_len 4 156 rfl rfl (lf_wA hww0) (by rcases hww0 with rfl | rfl <;> rfl) rfl rfl ?_
  refine lf_seg 1 (pc' := 6) (lv' := [(4, .int (Int32.ofInt 156)), (3, .int (Int32.ofInt 0)), (0, .ref w0), (1, .long (Int64.ofInt (lf_wl a1)))]) (st' := []) rfl ?_
  refine lf_eqs (lv' := [(4, .int (Int32.ofInt 156)), (3, .int (Int32.ofInt 0)), (0, .ref w0), (1, .long (Int64.ofInt a1))]) (st' := []) (by simp only [lf_wlE]) rfl ?_
  refine lf_sub (l := [(0, .ref w0), (1, .long (Int64.ofInt a1)), (3, .int (Int32.ofInt 0)), (4, .int (Int32.ofInt 156))]) (lf_sb1 rfl (lf_sb1 rfl (lf_sb1 rfl (lf_sb1 rfl lf_sb0)))) ?_
  exact gm_119_p6L hww0 h
-- fm_120 Walk.standOf 68 i
def fm_120 (a1 : Int) (Q : Int → lf_Z → Prop) (s : lf_Z) : Prop := (0 ≤ a1 ∧ a1 < 4) ∧ (Q ((((s.1 17 a1) * 13) + (s.1 18 a1)) + 1) s)
set_option maxRecDepth 100000 in
theorem gm_120 {L : Nat} {xs : Nat → Int32} {d : Nat} {a1 : Int} {Q : Int → lf_Z → Prop} {s : lf_Z} (h : fm_120 a1 Q s) : lf_M (px_ro L xs) (d + 1) 120 [.ref 68, .int (Int32.ofInt a1)] s (lf_qi Q) := by
  unfold fm_120 at h
  show lf_E (px_ro L xs) (d + 1) 120 0 [(0, .ref 68), (1, .int (Int32.ofInt a1))] [] s _
  refine lf_seg 4 (pc' := 8) (lv' := [(0, .ref 68), (1, .int (Int32.ofInt a1))]) (st' := [.int (Int32.ofInt a1), .ref 17]) rfl ?_
  obtain ⟨o21, h⟩ := h
  refine lf_iald 9 4 rfl rfl rfl rfl rfl rfl o21 ?_
  refine lf_bipush 11 13 rfl rfl (by decide) (by decide) ?_
  refine lf_imul 12 rfl rfl ?_
  refine lf_seg 4 (pc' := 20) (lv' := [(0, .ref 68), (1, .int (Int32.ofInt a1))]) (st' := [.int (Int32.ofInt a1), .ref 18, .int (Int32.ofInt ((s.1 17 a1) * 13))]) rfl ?_
  refine lf_iald 21 4 rfl rfl rfl rfl rfl rfl o21 ?_
  refine lf_iadd 22 rfl rfl ?_
  refine lf_seg 1 (pc' := 23) (lv' := [(0, .ref 68), (1, .int (Int32.ofInt a1))]) (st' := [.int (Int32.ofInt 1), .int (Int32.ofInt (((s.1 17 a1) * 13) + (s.1 18 a1)))]) rfl ?_
  refine lf_iadd 24 rfl rfl ?_
  exact lf_retI rfl rfl h
-- fm_123 Walk.chanceOf 68 i i i
def fm_123_p174 (Q : Int → lf_Z → Prop) (x9 : Int) (s : lf_Z) : Prop := (0 ≤ x9 ∧ x9 < 256) ∧ (Q (s.1 69 x9) s)
set_option maxRecDepth 100000 in
theorem gm_123_p174 {L : Nat} {xs : Nat → Int32} {d : Nat} {Q : Int → lf_Z → Prop} {x9 : Int} {s : lf_Z} (h : fm_123_p174 Q x9 s) : lf_E (px_ro L xs) (d + 4) 123 174 [(0, .ref 68), (9, .int (Int32.ofInt x9))] [] s (lf_qi Q) := by
  unfold fm_123_p174 at h
  refine lf_seg 3 (pc' := 180) (lv' := [(0, .ref 68), (9, .int (Int32.ofInt x9))]) (st' := [.int (Int32.ofInt x9), .ref 69]) rfl ?_
  obtain ⟨o34, h⟩ := h
  refine lf_iald 181 256 rfl rfl rfl rfl rfl rfl o34 ?_
  exact lf_retI rfl rfl h
def fm_123_p105 (Q : Int → lf_Z → Prop) (x1 : Int) (x2 : Int) (x5 : Int) (x6 : Int) (x7 : Int) (y0 : Int) (s : lf_Z) : Prop := (0 ≤ ((((x1 * 16) + (y0 * 8)) + (x5 * 4)) + (x6 * 2)) + x7 ∧ ((((x1 * 16) + (y0 * 8)) + (x5 * 4)) + (x6 * 2)) + x7 < 256) ∧ (lf_R (s.1 69 (((((x1 * 16) + (y0 * 8)) + (x5 * 4)) + (x6 * 2)) + x7)) ∧ ((s.1 69 (((((x1 * 16) + (y0 * 8)) + (x5 * 4)) + (x6 * 2)) + x7) ≠ (-1) → (fm_123_p174 Q (((((x1 * 16) + (y0 * 8)) + (x5 * 4)) + (x6 * 2)) + x7) s)) ∧ (¬ (s.1 69 (((((x1 * 16) + (y0 * 8)) + (x5 * 4)) + (x6 * 2)) + x7) ≠ (-1)) → (fm_91 (s.1 68 8) x2 x1 x5 x6 (x7 * (s.1 68 11)) (fun r36 s35 => (fm_123_p174 Q (((((x1 * 16) + (y0 * 8)) + (x5 * 4)) + (x6 * 2)) + x7) (lf_up s35.1 69 (((((x1 * 16) + (y0 * 8)) + (x5 * 4)) + (x6 * 2)) + x7) r36, s35.2.1, s35.2.2))) s))))
set_option maxRecDepth 100000 in
theorem gm_123_p105 {L : Nat} {xs : Nat → Int32} {d : Nat} {Q : Int → lf_Z → Prop} {x1 : Int} {x2 : Int} {x5 : Int} {x6 : Int} {x7 : Int} {y0 : Int} {s : lf_Z} (h : fm_123_p105 Q x1 x2 x5 x6 x7 y0 s) : lf_E (px_ro L xs) (d + 4) 123 105 [(0, .ref 68), (1, .int (Int32.ofInt x1)), (2, .int (Int32.ofInt x2)), (5, .int (Int32.ofInt x5)), (6, .int (Int32.ofInt x6)), (7, .int (Int32.ofInt x7))] [.int (Int32.ofInt y0)] s (lf_qi Q) := by
  unfold fm_123_p105 at h
  refine lf_seg 2 (pc' := 108) (lv' := [(8, .int (Int32.ofInt y0)), (0, .ref 68), (1, .int (Int32.ofInt x1)), (2, .int (Int32.ofInt x2)), (5, .int (Int32.ofInt x5)), (6, .int (Int32.ofInt x6)), (7, .int (Int32.ofInt x7))]) (st' := [.int (Int32.ofInt x1)]) rfl ?_
  refine lf_bipush 110 16 rfl rfl (by decide) (by decide) ?_
  refine lf_imul 111 rfl rfl ?_
  refine lf_seg 1 (pc' := 113) (lv' := [(8, .int (Int32.ofInt y0)), (0, .ref 68), (1, .int (Int32.ofInt x1)), (2, .int (Int32.ofInt x2)), (5, .int (Int32.ofInt x5)), (6, .int (Int32.ofInt x6)), (7, .int (Int32.ofInt x7))]) (st' := [.int (Int32.ofInt y0), .int (Int32.ofInt (x1 * 16))]) rfl ?_
  refine lf_bipush 115 8 rfl rfl (by decide) (by decide) ?_
  refine lf_imul 116 rfl rfl ?_
  refine lf_iadd 117 rfl rfl ?_
  refine lf_seg 2 (pc' := 120) (lv' := [(8, .int (Int32.ofInt y0)), (0, .ref 68), (1, .int (Int32.ofInt x1)), (2, .int (Int32.ofInt x2)), (5, .int (Int32.ofInt x5)), (6, .int (Int32.ofInt x6)), (7, .int (Int32.ofInt x7))]) (st' := [.int (Int32.ofInt 4), .int (Int32.ofInt x5), .int (Int32.ofInt ((x1 * 16) + (y0 * 8)))]) rfl ?_
  refine lf_imul 121 rfl rfl ?_
  refine lf_iadd 122 rfl rfl ?_
  refine lf_seg 2 (pc' := 125) (lv' := [(8, .int (Int32.ofInt y0)), (0, .ref 68), (1, .int (Int32.ofInt x1)), (2, .int (Int32.ofInt x2)), (5, .int (Int32.ofInt x5)), (6, .int (Int32.ofInt x6)), (7, .int (Int32.ofInt x7))]) (st' := [.int (Int32.ofInt 2), .int (Int32.ofInt x6), .int (Int32.ofInt (((x1 * 16) + (y0 * 8)) + (x5 * 4)))]) rfl ?_
  refine lf_imul 126 rfl rfl ?_
  refine lf_iadd 127 rfl rfl ?_
  refine lf_seg 1 (pc' := 129) (lv' := [(8, .int (Int32.ofInt y0)), (0, .ref 68), (1, .int (Int32.ofInt x1)), (2, .int (Int32.ofInt x2)), (5, .int (Int32.ofInt x5)), (6, .int (Int32.ofInt x6)), (7, .int (Int32.ofInt x7))]) (st' := [.int (Int32.ofInt x7), .int (Int32.ofInt ((((x1 * 16) + (y0 * 8)) + (x5 * 4)) + (x6 * 2)))]) rfl ?_
  refine lf_iadd 130 rfl rfl ?_
  refine lf_seg 4 (pc' := 138) (lv' := [(9, .int (Int32.ofInt (((((x1 * 16) + (y0 * 8)) + (x5 * 4)) + (x6 * 2)) + x7))), (8, .int (Int32.ofInt y0)), (0, .ref 68), (1, .int (Int32.ofInt x1)), (2, .int (Int32.ofInt x2)), (5, .int (Int32.ofInt x5)), (6, .int (Int32.ofInt x6)), (7, .int (Int32.ofInt x7))]) (st' := [.int (Int32.ofInt (((((x1 * 16) + (y0 * 8)) + (x5 * 4)) + (x6 * 2)) + x7)), .ref 69]) rfl ?_
  obtain ⟨o32, h⟩ := h
  refine lf_iald 139 256 rfl rfl rfl rfl rfl rfl o32 ?_
  refine lf_seg 1 (pc' := 140) (lv' := [(9, .int (Int32.ofInt (((((x1 * 16) + (y0 * 8)) + (x5 * 4)) + (x6 * 2)) + x7))), (8, .int (Int32.ofInt y0)), (0, .ref 68), (1, .int (Int32.ofInt x1)), (2, .int (Int32.ofInt x2)), (5, .int (Int32.ofInt x5)), (6, .int (Int32.ofInt x6)), (7, .int (Int32.ofInt x7))]) (st' := [.int (Int32.ofInt (-1)), .int (Int32.ofInt (s.1 69 (((((x1 * 16) + (y0 * 8)) + (x5 * 4)) + (x6 * 2)) + x7)))]) rfl ?_
  obtain ⟨o33, h⟩ := h
  refine lf_icmp_ne 174 143 rfl rfl rfl o33 ⟨by decide, by decide⟩ (fun c => ?_) (fun c => ?_)
  · have h := h.1 c
    refine lf_sub (l := [(0, .ref 68), (9, .int (Int32.ofInt (((((x1 * 16) + (y0 * 8)) + (x5 * 4)) + (x6 * 2)) + x7)))]) (lf_sb1 rfl (lf_sb1 rfl lf_sb0)) ?_
    exact gm_123_p174 h
  · have h := h.2 c
    refine lf_seg 6 (pc' := 154) (lv' := [(9, .int (Int32.ofInt (((((x1 * 16) + (y0 * 8)) + (x5 * 4)) + (x6 * 2)) + x7))), (8, .int (Int32.ofInt y0)), (0, .ref 68), (1, .int (Int32.ofInt x1)), (2, .int (Int32.ofInt x2)), (5, .int (Int32.ofInt x5)), (6, .int (Int32.ofInt x6)), (7, .int (Int32.ofInt x7))]) (st' := [.ref 68, .ref 63, .int (Int32.ofInt (((((x1 * 16) + (y0 * 8)) + (x5 * 4)) + (x6 * 2)) + x7)), .ref 69]) rfl ?_
    refine lf_getI 157 8 rfl rfl rfl rfl rfl rfl rfl ?_
    refine lf_seg 6 (pc' := 166) (lv' := [(9, .int (Int32.ofInt (((((x1 * 16) + (y0 * 8)) + (x5 * 4)) + (x6 * 2)) + x7))), (8, .int (Int32.ofInt y0)), (0, .ref 68), (1, .int (Int32.ofInt x1)), (2, .int (Int32.ofInt x2)), (5, .int (Int32.ofInt x5)), (6, .int (Int32.ofInt x6)), (7, .int (Int32.ofInt x7))]) (st' := [.ref 68, .int (Int32.ofInt x7), .int (Int32.ofInt x6), .int (Int32.ofInt x5), .int (Int32.ofInt x1), .int (Int32.ofInt x2), .int (Int32.ofInt (s.1 68 8)), .ref 63, .int (Int32.ofInt (((((x1 * 16) + (y0 * 8)) + (x5 * 4)) + (x6 * 2)) + x7)), .ref 69]) rfl ?_
    refine lf_getI 169 11 rfl rfl rfl rfl rfl rfl rfl ?_
    refine lf_imul 170 rfl rfl ?_
    refine lf_callI 173 rfl rfl rfl rfl (gm_91 h) (fun r36 s35 h => ?_)
    refine lf_iast 174 256 rfl rfl rfl rfl rfl rfl o32 ?_
    refine lf_as (lf_up s35.1 69 (((((x1 * 16) + (y0 * 8)) + (x5 * 4)) + (x6 * 2)) + x7) r36, s35.2.1, s35.2.2) rfl ?_
    refine lf_sub (l := [(0, .ref 68), (9, .int (Int32.ofInt (((((x1 * 16) + (y0 * 8)) + (x5 * 4)) + (x6 * 2)) + x7)))]) (lf_sb1 rfl (lf_sb1 rfl lf_sb0)) ?_
    exact gm_123_p174 h
def fm_123_p64 (Q : Int → lf_Z → Prop) (x1 : Int) (x2 : Int) (x4 : Int) (y0 : Int) (s : lf_Z) : Prop := (0 ≤ x1 ∧ x1 < 16) ∧ (lf_R (s.1 4 x1) ∧ (lf_R x2 ∧ ((s.1 4 x1 ≠ x2 → (fm_123_p105 Q x1 x2 y0 (lf_and (lf_shr (s.1 68 10) x2) 1) (lf_and (lf_shr (s.1 68 10) x4) 1) 1 s)) ∧ (¬ (s.1 4 x1 ≠ x2) → (fm_123_p105 Q x1 x2 y0 (lf_and (lf_shr (s.1 68 10) x2) 1) (lf_and (lf_shr (s.1 68 10) x4) 1) 0 s)))))
set_option maxRecDepth 100000 in
theorem gm_123_p64 {L : Nat} {xs : Nat → Int32} {d : Nat} {Q : Int → lf_Z → Prop} {x1 : Int} {x2 : Int} {x4 : Int} {y0 : Int} {s : lf_Z} (h : fm_123_p64 Q x1 x2 x4 y0 s) : lf_E (px_ro L xs) (d + 4) 123 64 [(0, .ref 68), (1, .int (Int32.ofInt x1)), (2, .int (Int32.ofInt x2)), (4, .int (Int32.ofInt x4))] [.int (Int32.ofInt y0)] s (lf_qi Q) := by
  unfold fm_123_p64 at h
  refine lf_seg 2 (pc' := 67) (lv' := [(5, .int (Int32.ofInt y0)), (0, .ref 68), (1, .int (Int32.ofInt x1)), (2, .int (Int32.ofInt x2)), (4, .int (Int32.ofInt x4))]) (st' := [.ref 68]) rfl ?_
  refine lf_getI 70 10 rfl rfl rfl rfl rfl rfl rfl ?_
  refine lf_seg 1 (pc' := 71) (lv' := [(5, .int (Int32.ofInt y0)), (0, .ref 68), (1, .int (Int32.ofInt x1)), (2, .int (Int32.ofInt x2)), (4, .int (Int32.ofInt x4))]) (st' := [.int (Int32.ofInt x2), .int (Int32.ofInt (s.1 68 10))]) rfl ?_
  refine lf_ishr 72 rfl rfl ?_
  refine lf_seg 1 (pc' := 73) (lv' := [(5, .int (Int32.ofInt y0)), (0, .ref 68), (1, .int (Int32.ofInt x1)), (2, .int (Int32.ofInt x2)), (4, .int (Int32.ofInt x4))]) (st' := [.int (Int32.ofInt 1), .int (Int32.ofInt (lf_shr (s.1 68 10) x2))]) rfl ?_
  refine lf_iand 74 rfl rfl ?_
  refine lf_seg 2 (pc' := 77) (lv' := [(6, .int (Int32.ofInt (lf_and (lf_shr (s.1 68 10) x2) 1))), (5, .int (Int32.ofInt y0)), (0, .ref 68), (1, .int (Int32.ofInt x1)), (2, .int (Int32.ofInt x2)), (4, .int (Int32.ofInt x4))]) (st' := [.ref 68]) rfl ?_
  refine lf_getI 80 10 rfl rfl rfl rfl rfl rfl rfl ?_
  refine lf_seg 1 (pc' := 82) (lv' := [(6, .int (Int32.ofInt (lf_and (lf_shr (s.1 68 10) x2) 1))), (5, .int (Int32.ofInt y0)), (0, .ref 68), (1, .int (Int32.ofInt x1)), (2, .int (Int32.ofInt x2)), (4, .int (Int32.ofInt x4))]) (st' := [.int (Int32.ofInt x4), .int (Int32.ofInt (s.1 68 10))]) rfl ?_
  refine lf_ishr 83 rfl rfl ?_
  refine lf_seg 1 (pc' := 84) (lv' := [(6, .int (Int32.ofInt (lf_and (lf_shr (s.1 68 10) x2) 1))), (5, .int (Int32.ofInt y0)), (0, .ref 68), (1, .int (Int32.ofInt x1)), (2, .int (Int32.ofInt x2)), (4, .int (Int32.ofInt x4))]) (st' := [.int (Int32.ofInt 1), .int (Int32.ofInt (lf_shr (s.1 68 10) x4))]) rfl ?_
  refine lf_iand 85 rfl rfl ?_
  refine lf_seg 5 (pc' := 95) (lv' := [(7, .int (Int32.ofInt (lf_and (lf_shr (s.1 68 10) x4) 1))), (6, .int (Int32.ofInt (lf_and (lf_shr (s.1 68 10) x2) 1))), (5, .int (Int32.ofInt y0)), (0, .ref 68), (1, .int (Int32.ofInt x1)), (2, .int (Int32.ofInt x2)), (4, .int (Int32.ofInt x4))]) (st' := [.int (Int32.ofInt x1), .ref 4]) rfl ?_
  obtain ⟨o29, h⟩ := h
  refine lf_iald 96 16 rfl rfl rfl rfl rfl rfl o29 ?_
  refine lf_seg 1 (pc' := 97) (lv' := [(7, .int (Int32.ofInt (lf_and (lf_shr (s.1 68 10) x4) 1))), (6, .int (Int32.ofInt (lf_and (lf_shr (s.1 68 10) x2) 1))), (5, .int (Int32.ofInt y0)), (0, .ref 68), (1, .int (Int32.ofInt x1)), (2, .int (Int32.ofInt x2)), (4, .int (Int32.ofInt x4))]) (st' := [.int (Int32.ofInt x2), .int (Int32.ofInt (s.1 4 x1))]) rfl ?_
  obtain ⟨o30, h⟩ := h
  obtain ⟨o31, h⟩ := h
  refine lf_icmp_ne 104 100 rfl rfl rfl o30 o31 (fun c => ?_) (fun c => ?_)
  · have h := h.1 c
    refine lf_seg 1 (pc' := 105) (lv' := [(7, .int (Int32.ofInt (lf_and (lf_shr (s.1 68 10) x4) 1))), (6, .int (Int32.ofInt (lf_and (lf_shr (s.1 68 10) x2) 1))), (5, .int (Int32.ofInt y0)), (0, .ref 68), (1, .int (Int32.ofInt x1)), (2, .int (Int32.ofInt x2)), (4, .int (Int32.ofInt x4))]) (st' := [.int (Int32.ofInt 1)]) rfl ?_
    refine lf_sub (l := [(0, .ref 68), (1, .int (Int32.ofInt x1)), (2, .int (Int32.ofInt x2)), (5, .int (Int32.ofInt y0)), (6, .int (Int32.ofInt (lf_and (lf_shr (s.1 68 10) x2) 1))), (7, .int (Int32.ofInt (lf_and (lf_shr (s.1 68 10) x4) 1)))]) (lf_sb1 rfl (lf_sb1 rfl (lf_sb1 rfl (lf_sb1 rfl (lf_sb1 rfl (lf_sb1 rfl lf_sb0)))))) ?_
    exact gm_123_p105 h
  · have h := h.2 c
    refine lf_seg 2 (pc' := 105) (lv' := [(7, .int (Int32.ofInt (lf_and (lf_shr (s.1 68 10) x4) 1))), (6, .int (Int32.ofInt (lf_and (lf_shr (s.1 68 10) x2) 1))), (5, .int (Int32.ofInt y0)), (0, .ref 68), (1, .int (Int32.ofInt x1)), (2, .int (Int32.ofInt x2)), (4, .int (Int32.ofInt x4))]) (st' := [.int (Int32.ofInt 0)]) rfl ?_
    refine lf_sub (l := [(0, .ref 68), (1, .int (Int32.ofInt x1)), (2, .int (Int32.ofInt x2)), (5, .int (Int32.ofInt y0)), (6, .int (Int32.ofInt (lf_and (lf_shr (s.1 68 10) x2) 1))), (7, .int (Int32.ofInt (lf_and (lf_shr (s.1 68 10) x4) 1)))]) (lf_sb1 rfl (lf_sb1 rfl (lf_sb1 rfl (lf_sb1 rfl (lf_sb1 rfl (lf_sb1 rfl lf_sb0)))))) ?_
    exact gm_123_p105 h
def fm_123 (a1 : Int) (a2 : Int) (a3 : Int) (Q : Int → lf_Z → Prop) (s : lf_Z) : Prop := fm_78 a1 a2 (fun r22 s21 => (lf_R r22 ∧ ((r22 = (-1) → (Q 0 s21)) ∧ (¬ (r22 = (-1)) → (fm_89 a1 (fun z25 s24 => ((z25 = false → (Q 0 s24)) ∧ (z25 = true → (fm_90 a1 (fun z27 s26 => ((z27 = false → (Q 0 s26)) ∧ (z27 = true → ((lf_and (lf_shr (s26.1 68 9) a1) 1 ≠ 1 → (lf_R a3 ∧ ((a3 ≠ r22 → (fm_123_p64 Q a1 a2 r22 0 s26)) ∧ (¬ (a3 ≠ r22) → (fm_123_p64 Q a1 a2 r22 1 s26))))) ∧ (¬ (lf_and (lf_shr (s26.1 68 9) a1) 1 ≠ 1) → (Q 0 s26)))))) s24)))) s21))))) s
set_option maxRecDepth 100000 in
theorem gm_123 {L : Nat} {xs : Nat → Int32} {d : Nat} {a1 : Int} {a2 : Int} {a3 : Int} {Q : Int → lf_Z → Prop} {s : lf_Z} (h : fm_123 a1 a2 a3 Q s) : lf_M (px_ro L xs) (d + 4) 123 [.ref 68, .int (Int32.ofInt a1), .int (Int32.ofInt a2), .int (Int32.ofInt a3)] s (lf_qi Q) := by
  unfold fm_123 at h
  show lf_E (px_ro L xs) (d + 4) 123 0 [(0, .ref 68), (1, .int (Int32.ofInt a1)), (2, .int (Int32.ofInt a2)), (3, .int (Int32.ofInt a3))] [] s _
  refine lf_seg 4 (pc' := 6) (lv' := [(0, .ref 68), (1, .int (Int32.ofInt a1)), (2, .int (Int32.ofInt a2)), (3, .int (Int32.ofInt a3))]) (st' := [.int (Int32.ofInt a2), .int (Int32.ofInt a1), .ref 1]) rfl ?_
  refine lf_callI 9 rfl rfl rfl rfl (gm_78 h) (fun r22 s21 h => ?_)
  refine lf_seg 3 (pc' := 14) (lv' := [(4, .int (Int32.ofInt r22)), (0, .ref 68), (1, .int (Int32.ofInt a1)), (2, .int (Int32.ofInt a2)), (3, .int (Int32.ofInt a3))]) (st' := [.int (Int32.ofInt (-1)), .int (Int32.ofInt r22)]) rfl ?_
  obtain ⟨o23, h⟩ := h
  refine lf_icmp_eq 51 17 rfl rfl rfl o23 ⟨by decide, by decide⟩ (fun c => ?_) (fun c => ?_)
  · have h := h.1 c
    refine lf_seg 1 (pc' := 52) (lv' := [(4, .int (Int32.ofInt r22)), (0, .ref 68), (1, .int (Int32.ofInt a1)), (2, .int (Int32.ofInt a2)), (3, .int (Int32.ofInt a3))]) (st' := [.int (Int32.ofInt 0)]) rfl ?_
    exact lf_retI rfl rfl h
  · have h := h.2 c
    refine lf_seg 3 (pc' := 22) (lv' := [(4, .int (Int32.ofInt r22)), (0, .ref 68), (1, .int (Int32.ofInt a1)), (2, .int (Int32.ofInt a2)), (3, .int (Int32.ofInt a3))]) (st' := [.int (Int32.ofInt a1), .ref 1]) rfl ?_
    refine lf_callZ 25 rfl rfl rfl rfl (gm_89 h) (fun z25 s24 h => ?_)
    refine lf_ifz_eq 51 28 rfl rfl rfl (fun c => ?_) (fun c => ?_)
    · have h := h.1 c
      refine lf_seg 1 (pc' := 52) (lv' := [(4, .int (Int32.ofInt r22)), (0, .ref 68), (1, .int (Int32.ofInt a1)), (2, .int (Int32.ofInt a2)), (3, .int (Int32.ofInt a3))]) (st' := [.int (Int32.ofInt 0)]) rfl ?_
      exact lf_retI rfl rfl h
    · have h := h.2 c
      refine lf_seg 3 (pc' := 33) (lv' := [(4, .int (Int32.ofInt r22)), (0, .ref 68), (1, .int (Int32.ofInt a1)), (2, .int (Int32.ofInt a2)), (3, .int (Int32.ofInt a3))]) (st' := [.int (Int32.ofInt a1), .ref 15]) rfl ?_
      refine lf_callZ 36 rfl rfl rfl rfl (gm_90 h) (fun z27 s26 h => ?_)
      refine lf_ifz_eq 51 39 rfl rfl rfl (fun c => ?_) (fun c => ?_)
      · have h := h.1 c
        refine lf_seg 1 (pc' := 52) (lv' := [(4, .int (Int32.ofInt r22)), (0, .ref 68), (1, .int (Int32.ofInt a1)), (2, .int (Int32.ofInt a2)), (3, .int (Int32.ofInt a3))]) (st' := [.int (Int32.ofInt 0)]) rfl ?_
        exact lf_retI rfl rfl h
      · have h := h.2 c
        refine lf_seg 1 (pc' := 40) (lv' := [(4, .int (Int32.ofInt r22)), (0, .ref 68), (1, .int (Int32.ofInt a1)), (2, .int (Int32.ofInt a2)), (3, .int (Int32.ofInt a3))]) (st' := [.ref 68]) rfl ?_
        refine lf_getI 43 9 rfl rfl rfl rfl rfl rfl rfl ?_
        refine lf_seg 1 (pc' := 44) (lv' := [(4, .int (Int32.ofInt r22)), (0, .ref 68), (1, .int (Int32.ofInt a1)), (2, .int (Int32.ofInt a2)), (3, .int (Int32.ofInt a3))]) (st' := [.int (Int32.ofInt a1), .int (Int32.ofInt (s26.1 68 9))]) rfl ?_
        refine lf_ishr 45 rfl rfl ?_
        refine lf_seg 1 (pc' := 46) (lv' := [(4, .int (Int32.ofInt r22)), (0, .ref 68), (1, .int (Int32.ofInt a1)), (2, .int (Int32.ofInt a2)), (3, .int (Int32.ofInt a3))]) (st' := [.int (Int32.ofInt 1), .int (Int32.ofInt (lf_shr (s26.1 68 9) a1))]) rfl ?_
        refine lf_iand 47 rfl rfl ?_
        refine lf_seg 1 (pc' := 48) (lv' := [(4, .int (Int32.ofInt r22)), (0, .ref 68), (1, .int (Int32.ofInt a1)), (2, .int (Int32.ofInt a2)), (3, .int (Int32.ofInt a3))]) (st' := [.int (Int32.ofInt 1), .int (Int32.ofInt (lf_and (lf_shr (s26.1 68 9) a1) 1))]) rfl ?_
        refine lf_icmp_ne 53 51 rfl rfl rfl lf_Rand ⟨by decide, by decide⟩ (fun c => ?_) (fun c => ?_)
        · have h := h.1 c
          refine lf_seg 2 (pc' := 56) (lv' := [(4, .int (Int32.ofInt r22)), (0, .ref 68), (1, .int (Int32.ofInt a1)), (2, .int (Int32.ofInt a2)), (3, .int (Int32.ofInt a3))]) (st' := [.int (Int32.ofInt r22), .int (Int32.ofInt a3)]) rfl ?_
          obtain ⟨o28, h⟩ := h
          refine lf_icmp_ne 63 59 rfl rfl rfl o28 o23 (fun c => ?_) (fun c => ?_)
          · have h := h.1 c
            refine lf_seg 1 (pc' := 64) (lv' := [(4, .int (Int32.ofInt r22)), (0, .ref 68), (1, .int (Int32.ofInt a1)), (2, .int (Int32.ofInt a2)), (3, .int (Int32.ofInt a3))]) (st' := [.int (Int32.ofInt 0)]) rfl ?_
            refine lf_sub (l := [(0, .ref 68), (1, .int (Int32.ofInt a1)), (2, .int (Int32.ofInt a2)), (4, .int (Int32.ofInt r22))]) (lf_sb1 rfl (lf_sb1 rfl (lf_sb1 rfl (lf_sb1 rfl lf_sb0)))) ?_
            exact gm_123_p64 h
          · have h := h.2 c
            refine lf_seg 2 (pc' := 64) (lv' := [(4, .int (Int32.ofInt r22)), (0, .ref 68), (1, .int (Int32.ofInt a1)), (2, .int (Int32.ofInt a2)), (3, .int (Int32.ofInt a3))]) (st' := [.int (Int32.ofInt 1)]) rfl ?_
            refine lf_sub (l := [(0, .ref 68), (1, .int (Int32.ofInt a1)), (2, .int (Int32.ofInt a2)), (4, .int (Int32.ofInt r22))]) (lf_sb1 rfl (lf_sb1 rfl (lf_sb1 rfl (lf_sb1 rfl lf_sb0)))) ?_
            exact gm_123_p64 h
        · have h := h.2 c
          refine lf_seg 1 (pc' := 52) (lv' := [(4, .int (Int32.ofInt r22)), (0, .ref 68), (1, .int (Int32.ofInt a1)), (2, .int (Int32.ofInt a2)), (3, .int (Int32.ofInt a3))]) (st' := [.int (Int32.ofInt 0)]) rfl ?_
          exact lf_retI rfl rfl h
-- fm_122 Walk.moveOddsFrom 68 i
def fm_122_p107 (X19 : Int → Int → lf_Z → Prop) (Q : lf_Z → Prop) (x1 : Int) (x2 : Int) (x3 : Int) (x5 : Int) (s : lf_Z) : Prop := X19 x3 (x5 + 1) s
set_option maxRecDepth 100000 in
theorem gm_122_p107 {L : Nat} {xs : Nat → Int32} {d : Nat} {X19 : Int → Int → lf_Z → Prop} {Q : lf_Z → Prop} {x1 : Int} {x2 : Int} {x3 : Int} {x5 : Int} {s : lf_Z} (hX19 : ∀ x3 x5 s, X19 x3 x5 s → lf_E (px_ro L xs) (d + 5) 122 19 [(0, .ref 68), (1, .int (Int32.ofInt x1)), (2, .int (Int32.ofInt x2)), (3, .long (Int64.ofInt x3)), (5, .int (Int32.ofInt x5))] [] s (lf_qv Q)) (h : fm_122_p107 X19 Q x1 x2 x3 x5 s) : lf_E (px_ro L xs) (d + 5) 122 107 [(0, .ref 68), (1, .int (Int32.ofInt x1)), (2, .int (Int32.ofInt x2)), (3, .long (Int64.ofInt x3)), (5, .int (Int32.ofInt x5))] [] s (lf_qv Q) := by
  unfold fm_122_p107 at h
  refine lf_eqs (lv' := [(0, .ref 68), (1, .int (Int32.ofInt x1)), (2, .int (Int32.ofInt x2)), (3, .long (Int64.ofInt (lf_wl x3))), (5, .int (Int32.ofInt x5))]) (st' := []) (by simp only [lf_wlE]) rfl ?_
  refine lf_iinc 110 rfl rfl rfl rfl ?_
  refine lf_seg 1 (pc' := 19) (lv' := [(5, .int (Int32.ofInt (x5 + 1))), (0, .ref 68), (1, .int (Int32.ofInt x1)), (2, .int (Int32.ofInt x2)), (3, .long (Int64.ofInt (lf_wl x3)))]) (st' := []) rfl ?_
  refine lf_eqs (lv' := [(5, .int (Int32.ofInt (x5 + 1))), (0, .ref 68), (1, .int (Int32.ofInt x1)), (2, .int (Int32.ofInt x2)), (3, .long (Int64.ofInt x3))]) (st' := []) (by simp only [lf_wlE]) rfl ?_
  refine lf_sub (l := [(0, .ref 68), (1, .int (Int32.ofInt x1)), (2, .int (Int32.ofInt x2)), (3, .long (Int64.ofInt x3)), (5, .int (Int32.ofInt (x5 + 1)))]) (lf_sb1 rfl (lf_sb1 rfl (lf_sb1 rfl (lf_sb1 rfl (lf_sb1 rfl lf_sb0))))) ?_
  exact hX19 _ _ _ h
def fm_122_p19 (Q : lf_Z → Prop) (x1 : Int) (x2 : Int) (X19 : Int → Int → lf_Z → Prop) (x3 : Int) (x5 : Int) (s : lf_Z) : Prop := fm_76 x2 (fun r25 s24 => (lf_R x5 ∧ (lf_R r25 ∧ ((r25 ≤ x5 → (∃ w28 : Nat, s24.2.2 1 = some w28 ∧ (w28 = 72 ∨ w28 = 73) ∧ ((0 ≤ x1 ∧ x1 < 156) ∧ (Q (s24.1, lf_up s24.2.1 w28 x1 (lf_wl ((lf_wl (s24.2.1 w28 x1)) + (lf_wl x3))), s24.2.2))))) ∧ (¬ (r25 ≤ x5) → (fm_77 x2 x5 (fun r31 s30 => (lf_R x1 ∧ (fm_123 r31 x2 ((x1.tmod 13) - 1) (fun r34 s33 => (lf_R r34 ∧ ((r34 ≤ 0 → (fm_122_p107 X19 Q x1 x2 x3 x5 s33)) ∧ (¬ (r34 ≤ 0) → (∃ w36 : Nat, s33.2.2 1 = some w36 ∧ (w36 = 72 ∨ w36 = 73) ∧ (fm_78 r31 x2 (fun r38 s37 => ((0 ≤ ((r38 * 13) + x2) + 1 ∧ ((r38 * 13) + x2) + 1 < 156) ∧ (fm_122_p107 X19 Q x1 x2 (lf_wl ((lf_wl x3) - (lf_wl ((lf_wl ((lf_wl x3).tdiv 10)) * r34)))) x5 (s37.1, lf_up s37.2.1 w36 (((r38 * 13) + x2) + 1) (lf_wl ((lf_wl (s37.2.1 w36 (((r38 * 13) + x2) + 1))) + (lf_wl ((lf_wl ((lf_wl x3).tdiv 10)) * r34)))), s37.2.2)))) s33)))))) s30))) s24)))))) s
def fm_122_p19L (Q : lf_Z → Prop) (x1 : Int) (x2 : Int) (x3 : Int) (x5 : Int) (s : lf_Z) : Prop := ∀ X19 : Int → Int → lf_Z → Prop, (∀ (x3 : Int) (x5 : Int) (s : lf_Z), fm_122_p19 Q x1 x2 X19 x3 x5 s → X19 x3 x5 s) → X19 x3 x5 s
set_option maxRecDepth 100000 in
theorem gm_122_p19 {L : Nat} {xs : Nat → Int32} {d : Nat} {Q : lf_Z → Prop} {x1 : Int} {x2 : Int} {x3 : Int} {x5 : Int} {s : lf_Z} {X19 : Int → Int → lf_Z → Prop} (hX19 : ∀ x3 x5 s, X19 x3 x5 s → lf_E (px_ro L xs) (d + 5) 122 19 [(0, .ref 68), (1, .int (Int32.ofInt x1)), (2, .int (Int32.ofInt x2)), (3, .long (Int64.ofInt x3)), (5, .int (Int32.ofInt x5))] [] s (lf_qv Q)) (h : fm_122_p19 Q x1 x2 X19 x3 x5 s) : lf_E (px_ro L xs) (d + 5) 122 19 [(0, .ref 68), (1, .int (Int32.ofInt x1)), (2, .int (Int32.ofInt x2)), (3, .long (Int64.ofInt x3)), (5, .int (Int32.ofInt x5))] [] s (lf_qv Q) := by
  unfold fm_122_p19 at h
  refine lf_eqs (lv' := [(0, .ref 68), (1, .int (Int32.ofInt x1)), (2, .int (Int32.ofInt x2)), (3, .long (Int64.ofInt (lf_wl x3))), (5, .int (Int32.ofInt x5))]) (st' := []) (by simp only [lf_wlE]) rfl ?_
  refine lf_seg 4 (pc' := 26) (lv' := [(0, .ref 68), (1, .int (Int32.ofInt x1)), (2, .int (Int32.ofInt x2)), (3, .long (Int64.ofInt (lf_wl x3))), (5, .int (Int32.ofInt x5))]) (st' := [.int (Int32.ofInt x2), .ref 1, .int (Int32.ofInt x5)]) rfl ?_
  refine lf_callI 29 rfl rfl rfl rfl (gm_76 h) (fun r25 s24 h => ?_)
  obtain ⟨o26, h⟩ := h
  obtain ⟨o27, h⟩ := h
  refine lf_icmp_ge 113 32 rfl rfl rfl o26 o27 (fun c => ?_) (fun c => ?_)
  · have h := h.1 c
    refine lf_seg 1 (pc' := 114) (lv' := [(0, .ref 68), (1, .int (Int32.ofInt x1)), (2, .int (Int32.ofInt x2)), (3, .long (Int64.ofInt (lf_wl x3))), (5, .int (Int32.ofInt x5))]) (st' := [.ref 68]) rfl ?_
    obtain ⟨w28, ew28, hww28, h⟩ := h
    refine lf_getR 117 (w := some w28) rfl rfl rfl rfl rfl rfl ew28 ?_
    refine lf_seg 2 (pc' := 119) (lv' := [(0, .ref 68), (1, .int (Int32.ofInt x1)), (2, .int (Int32.ofInt x2)), (3, .long (Int64.ofInt (lf_wl x3))), (5, .int (Int32.ofInt x5))]) (st' := [.int (Int32.ofInt x1), .ref w28, .int (Int32.ofInt x1), .ref w28]) rfl ?_
    obtain ⟨o29, h⟩ := h
    refine lf_lald 120 156 rfl rfl (lf_wA hww28) (lf_wC hww28) rfl rfl o29 ?_
    refine lf_wtL ?_
    refine lf_seg 1 (pc' := 121) (lv' := [(0, .ref 68), (1, .int (Int32.ofInt x1)), (2, .int (Int32.ofInt x2)), (3, .long (Int64.ofInt (lf_wl x3))), (5, .int (Int32.ofInt x5))]) (st' := [.long (Int64.ofInt (lf_wl x3)), .long (Int64.ofInt (lf_wl (s24.2.1 w28 x1))), .int (Int32.ofInt x1), .ref w28]) rfl ?_
    refine lf_ladd 122 rfl rfl ?_
    refine lf_wtL ?_
    refine lf_last 123 156 rfl rfl (lf_wA hww28) (lf_wC hww28) rfl rfl o29 ?_
    refine lf_as (s24.1, lf_up s24.2.1 w28 x1 (lf_wl ((lf_wl (s24.2.1 w28 x1)) + (lf_wl x3))), s24.2.2) rfl ?_
    exact lf_retV rfl rfl h
  · have h := h.2 c
    refine lf_seg 4 (pc' := 39) (lv' := [(0, .ref 68), (1, .int (Int32.ofInt x1)), (2, .int (Int32.ofInt x2)), (3, .long (Int64.ofInt (lf_wl x3))), (5, .int (Int32.ofInt x5))]) (st' := [.int (Int32.ofInt x5), .int (Int32.ofInt x2), .ref 1]) rfl ?_
    refine lf_callI 42 rfl rfl rfl rfl (gm_77 h) (fun r31 s30 h => ?_)
    refine lf_seg 5 (pc' := 49) (lv' := [(6, .int (Int32.ofInt r31)), (0, .ref 68), (1, .int (Int32.ofInt x1)), (2, .int (Int32.ofInt x2)), (3, .long (Int64.ofInt (lf_wl x3))), (5, .int (Int32.ofInt x5))]) (st' := [.int (Int32.ofInt x1), .int (Int32.ofInt x2), .int (Int32.ofInt r31), .ref 68]) rfl ?_
    refine lf_bipush 51 13 rfl rfl (by decide) (by decide) ?_
    obtain ⟨o32, h⟩ := h
    refine lf_irem 52 rfl rfl o32 ⟨by decide, by decide⟩ (by decide) ?_
    refine lf_seg 1 (pc' := 53) (lv' := [(6, .int (Int32.ofInt r31)), (0, .ref 68), (1, .int (Int32.ofInt x1)), (2, .int (Int32.ofInt x2)), (3, .long (Int64.ofInt (lf_wl x3))), (5, .int (Int32.ofInt x5))]) (st' := [.int (Int32.ofInt 1), .int (Int32.ofInt (x1.tmod 13)), .int (Int32.ofInt x2), .int (Int32.ofInt r31), .ref 68]) rfl ?_
    refine lf_isub 54 rfl rfl ?_
    refine lf_callI 57 rfl rfl rfl rfl (gm_123 h) (fun r34 s33 h => ?_)
    refine lf_seg 2 (pc' := 61) (lv' := [(7, .int (Int32.ofInt r34)), (6, .int (Int32.ofInt r31)), (0, .ref 68), (1, .int (Int32.ofInt x1)), (2, .int (Int32.ofInt x2)), (3, .long (Int64.ofInt (lf_wl x3))), (5, .int (Int32.ofInt x5))]) (st' := [.int (Int32.ofInt r34)]) rfl ?_
    obtain ⟨o35, h⟩ := h
    refine lf_if_le 107 64 rfl rfl rfl o35 (fun c => ?_) (fun c => ?_)
    · have h := h.1 c
      refine lf_eqs (lv' := [(7, .int (Int32.ofInt r34)), (6, .int (Int32.ofInt r31)), (0, .ref 68), (1, .int (Int32.ofInt x1)), (2, .int (Int32.ofInt x2)), (3, .long (Int64.ofInt x3)), (5, .int (Int32.ofInt x5))]) (st' := []) (by simp only [lf_wlE]) rfl ?_
      refine lf_sub (l := [(0, .ref 68), (1, .int (Int32.ofInt x1)), (2, .int (Int32.ofInt x2)), (3, .long (Int64.ofInt x3)), (5, .int (Int32.ofInt x5))]) (lf_sb1 rfl (lf_sb1 rfl (lf_sb1 rfl (lf_sb1 rfl (lf_sb1 rfl lf_sb0))))) ?_
      exact gm_122_p107 hX19 h
    · have h := h.2 c
      refine lf_seg 1 (pc' := 65) (lv' := [(7, .int (Int32.ofInt r34)), (6, .int (Int32.ofInt r31)), (0, .ref 68), (1, .int (Int32.ofInt x1)), (2, .int (Int32.ofInt x2)), (3, .long (Int64.ofInt (lf_wl x3))), (5, .int (Int32.ofInt x5))]) (st' := [.long (Int64.ofInt (lf_wl x3))]) rfl ?_
      refine lf_ldc2 68 10 rfl rfl rfl (by decide) ?_
      refine lf_ldiv 69 rfl rfl lf_RLwl ⟨by decide, by decide⟩ (by decide) ?_
      refine lf_wtL ?_
      refine lf_seg 1 (pc' := 71) (lv' := [(7, .int (Int32.ofInt r34)), (6, .int (Int32.ofInt r31)), (0, .ref 68), (1, .int (Int32.ofInt x1)), (2, .int (Int32.ofInt x2)), (3, .long (Int64.ofInt (lf_wl x3))), (5, .int (Int32.ofInt x5))]) (st' := [.int (Int32.ofInt r34), .long (Int64.ofInt (lf_wl ((lf_wl x3).tdiv 10)))]) rfl ?_
      refine lf_i2l 72 rfl rfl o35 ?_
      refine lf_lmul 73 rfl rfl ?_
      refine lf_wtL ?_
      refine lf_seg 2 (pc' := 76) (lv' := [(8, .long (Int64.ofInt (lf_wl ((lf_wl ((lf_wl x3).tdiv 10)) * r34)))), (7, .int (Int32.ofInt r34)), (6, .int (Int32.ofInt r31)), (0, .ref 68), (1, .int (Int32.ofInt x1)), (2, .int (Int32.ofInt x2)), (3, .long (Int64.ofInt (lf_wl x3))), (5, .int (Int32.ofInt x5))]) (st' := [.ref 68]) rfl ?_
      obtain ⟨w36, ew36, hww36, h⟩ := h
      refine lf_getR 79 (w := some w36) rfl rfl rfl rfl rfl rfl ew36 ?_
      refine lf_seg 4 (pc' := 86) (lv' := [(8, .long (Int64.ofInt (lf_wl ((lf_wl ((lf_wl x3).tdiv 10)) * r34)))), (7, .int (Int32.ofInt r34)), (6, .int (Int32.ofInt r31)), (0, .ref 68), (1, .int (Int32.ofInt x1)), (2, .int (Int32.ofInt x2)), (3, .long (Int64.ofInt (lf_wl x3))), (5, .int (Int32.ofInt x5))]) (st' := [.int (Int32.ofInt x2), .int (Int32.ofInt r31), .ref 1, .ref w36]) rfl ?_
      refine lf_callI 89 rfl rfl rfl rfl (gm_78 h) (fun r38 s37 h => ?_)
      refine lf_bipush 91 13 rfl rfl (by decide) (by decide) ?_
      refine lf_imul 92 rfl rfl ?_
      refine lf_seg 1 (pc' := 93) (lv' := [(8, .long (Int64.ofInt (lf_wl ((lf_wl ((lf_wl x3).tdiv 10)) * r34)))), (7, .int (Int32.ofInt r34)), (6, .int (Int32.ofInt r31)), (0, .ref 68), (1, .int (Int32.ofInt x1)), (2, .int (Int32.ofInt x2)), (3, .long (Int64.ofInt (lf_wl x3))), (5, .int (Int32.ofInt x5))]) (st' := [.int (Int32.ofInt x2), .int (Int32.ofInt (r38 * 13)), .ref w36]) rfl ?_
      refine lf_iadd 94 rfl rfl ?_
      refine lf_seg 1 (pc' := 95) (lv' := [(8, .long (Int64.ofInt (lf_wl ((lf_wl ((lf_wl x3).tdiv 10)) * r34)))), (7, .int (Int32.ofInt r34)), (6, .int (Int32.ofInt r31)), (0, .ref 68), (1, .int (Int32.ofInt x1)), (2, .int (Int32.ofInt x2)), (3, .long (Int64.ofInt (lf_wl x3))), (5, .int (Int32.ofInt x5))]) (st' := [.int (Int32.ofInt 1), .int (Int32.ofInt ((r38 * 13) + x2)), .ref w36]) rfl ?_
      refine lf_iadd 96 rfl rfl ?_
      refine lf_seg 1 (pc' := 97) (lv' := [(8, .long (Int64.ofInt (lf_wl ((lf_wl ((lf_wl x3).tdiv 10)) * r34)))), (7, .int (Int32.ofInt r34)), (6, .int (Int32.ofInt r31)), (0, .ref 68), (1, .int (Int32.ofInt x1)), (2, .int (Int32.ofInt x2)), (3, .long (Int64.ofInt (lf_wl x3))), (5, .int (Int32.ofInt x5))]) (st' := [.int (Int32.ofInt (((r38 * 13) + x2) + 1)), .ref w36, .int (Int32.ofInt (((r38 * 13) + x2) + 1)), .ref w36]) rfl ?_
      obtain ⟨o39, h⟩ := h
      refine lf_lald 98 156 rfl rfl (lf_wA hww36) (lf_wC hww36) rfl rfl o39 ?_
      refine lf_wtL ?_
      refine lf_seg 1 (pc' := 100) (lv' := [(8, .long (Int64.ofInt (lf_wl ((lf_wl ((lf_wl x3).tdiv 10)) * r34)))), (7, .int (Int32.ofInt r34)), (6, .int (Int32.ofInt r31)), (0, .ref 68), (1, .int (Int32.ofInt x1)), (2, .int (Int32.ofInt x2)), (3, .long (Int64.ofInt (lf_wl x3))), (5, .int (Int32.ofInt x5))]) (st' := [.long (Int64.ofInt (lf_wl ((lf_wl ((lf_wl x3).tdiv 10)) * r34))), .long (Int64.ofInt (lf_wl (s37.2.1 w36 (((r38 * 13) + x2) + 1)))), .int (Int32.ofInt (((r38 * 13) + x2) + 1)), .ref w36]) rfl ?_
      refine lf_ladd 101 rfl rfl ?_
      refine lf_wtL ?_
      refine lf_last 102 156 rfl rfl (lf_wA hww36) (lf_wC hww36) rfl rfl o39 ?_
      refine lf_as (s37.1, lf_up s37.2.1 w36 (((r38 * 13) + x2) + 1) (lf_wl ((lf_wl (s37.2.1 w36 (((r38 * 13) + x2) + 1))) + (lf_wl ((lf_wl ((lf_wl x3).tdiv 10)) * r34)))), s37.2.2) rfl ?_
      refine lf_seg 2 (pc' := 105) (lv' := [(8, .long (Int64.ofInt (lf_wl ((lf_wl ((lf_wl x3).tdiv 10)) * r34)))), (7, .int (Int32.ofInt r34)), (6, .int (Int32.ofInt r31)), (0, .ref 68), (1, .int (Int32.ofInt x1)), (2, .int (Int32.ofInt x2)), (3, .long (Int64.ofInt (lf_wl x3))), (5, .int (Int32.ofInt x5))]) (st' := [.long (Int64.ofInt (lf_wl ((lf_wl ((lf_wl x3).tdiv 10)) * r34))), .long (Int64.ofInt (lf_wl x3))]) rfl ?_
      refine lf_lsub 106 rfl rfl ?_
      refine lf_wtL ?_
      refine lf_seg 1 (pc' := 107) (lv' := [(3, .long (Int64.ofInt (lf_wl ((lf_wl x3) - (lf_wl ((lf_wl ((lf_wl x3).tdiv 10)) * r34)))))), (8, .long (Int64.ofInt (lf_wl ((lf_wl ((lf_wl x3).tdiv 10)) * r34)))), (7, .int (Int32.ofInt r34)), (6, .int (Int32.ofInt r31)), (0, .ref 68), (1, .int (Int32.ofInt x1)), (2, .int (Int32.ofInt x2)), (5, .int (Int32.ofInt x5))]) (st' := []) rfl ?_
      refine lf_sub (l := [(0, .ref 68), (1, .int (Int32.ofInt x1)), (2, .int (Int32.ofInt x2)), (3, .long (Int64.ofInt (lf_wl ((lf_wl x3) - (lf_wl ((lf_wl ((lf_wl x3).tdiv 10)) * r34)))))), (5, .int (Int32.ofInt x5))]) (lf_sb1 rfl (lf_sb1 rfl (lf_sb1 rfl (lf_sb1 rfl (lf_sb1 rfl lf_sb0))))) ?_
      exact gm_122_p107 hX19 h
theorem gm_122_p19L {L : Nat} {xs : Nat → Int32} {d : Nat} {Q : lf_Z → Prop} {x1 : Int} {x2 : Int} {x3 : Int} {x5 : Int} {s : lf_Z} (h : fm_122_p19L Q x1 x2 x3 x5 s) : lf_E (px_ro L xs) (d + 5) 122 19 [(0, .ref 68), (1, .int (Int32.ofInt x1)), (2, .int (Int32.ofInt x2)), (3, .long (Int64.ofInt x3)), (5, .int (Int32.ofInt x5))] [] s (lf_qv Q) :=
  h (fun x3 x5 s => lf_E (px_ro L xs) (d + 5) 122 19 [(0, .ref 68), (1, .int (Int32.ofInt x1)), (2, .int (Int32.ofInt x2)), (3, .long (Int64.ofInt x3)), (5, .int (Int32.ofInt x5))] [] s (lf_qv Q)) (fun x3 x5 s hb => gm_122_p19 (fun _ _ _ h => h) hb)
def fm_122 (a1 : Int) (Q : lf_Z → Prop) (s : lf_Z) : Prop := lf_R a1 ∧ (∃ w22 : Nat, s.2.2 0 = some w22 ∧ (w22 = 72 ∨ w22 = 73) ∧ ((0 ≤ a1 ∧ a1 < 156) ∧ (fm_122_p19L Q a1 (a1.tdiv 13) (lf_wl ((lf_wl (s.2.1 w22 a1)) * 10000)) 0 s)))
set_option maxRecDepth 100000 in
theorem gm_122 {L : Nat} {xs : Nat → Int32} {d : Nat} {a1 : Int} {Q : lf_Z → Prop} {s : lf_Z} (h : fm_122 a1 Q s) : lf_M (px_ro L xs) (d + 5) 122 [.ref 68, .int (Int32.ofInt a1)] s (lf_qv Q) := by
  unfold fm_122 at h
  show lf_E (px_ro L xs) (d + 5) 122 0 [(0, .ref 68), (1, .int (Int32.ofInt a1))] [] s _
  refine lf_seg 1 (pc' := 1) (lv' := [(0, .ref 68), (1, .int (Int32.ofInt a1))]) (st' := [.int (Int32.ofInt a1)]) rfl ?_
  refine lf_bipush 3 13 rfl rfl (by decide) (by decide) ?_
  obtain ⟨o21, h⟩ := h
  refine lf_idiv 4 rfl rfl o21 ⟨by decide, by decide⟩ (by decide) ?_
  refine lf_seg 2 (pc' := 6) (lv' := [(2, .int (Int32.ofInt (a1.tdiv 13))), (0, .ref 68), (1, .int (Int32.ofInt a1))]) (st' := [.ref 68]) rfl ?_
  obtain ⟨w22, ew22, hww22, h⟩ := h
  refine lf_getR 9 (w := some w22) rfl rfl rfl rfl rfl rfl ew22 ?_
  refine lf_seg 1 (pc' := 10) (lv' := [(2, .int (Int32.ofInt (a1.tdiv 13))), (0, .ref 68), (1, .int (Int32.ofInt a1))]) (st' := [.int (Int32.ofInt a1), .ref w22]) rfl ?_
  obtain ⟨o23, h⟩ := h
  refine lf_lald 11 156 rfl rfl (lf_wA hww22) (lf_wC hww22) rfl rfl o23 ?_
  refine lf_wtL ?_
  refine lf_ldc2 14 10000 rfl rfl rfl (by decide) ?_
  refine lf_lmul 15 rfl rfl ?_
  refine lf_wtL ?_
  refine lf_seg 3 (pc' := 19) (lv' := [(5, .int (Int32.ofInt 0)), (3, .long (Int64.ofInt (lf_wl ((lf_wl (s.2.1 w22 a1)) * 10000)))), (2, .int (Int32.ofInt (a1.tdiv 13))), (0, .ref 68), (1, .int (Int32.ofInt a1))]) (st' := []) rfl ?_
  refine lf_sub (l := [(0, .ref 68), (1, .int (Int32.ofInt a1)), (2, .int (Int32.ofInt (a1.tdiv 13))), (3, .long (Int64.ofInt (lf_wl ((lf_wl (s.2.1 w22 a1)) * 10000)))), (5, .int (Int32.ofInt 0))]) (lf_sb1 rfl (lf_sb1 rfl (lf_sb1 rfl (lf_sb1 rfl (lf_sb1 rfl lf_sb0))))) ?_
  exact gm_122_p19L h
-- fm_121 Walk.moveOdds 68
def fm_121_p33 (X10 : Int → lf_Z → Prop) (Q : lf_Z → Prop) (x1 : Int) (s : lf_Z) : Prop := X10 (x1 + 1) s
set_option maxRecDepth 100000 in
theorem gm_121_p33 {L : Nat} {xs : Nat → Int32} {d : Nat} {X10 : Int → lf_Z → Prop} {Q : lf_Z → Prop} {x1 : Int} {s : lf_Z} (hX10 : ∀ x1 s, X10 x1 s → lf_E (px_ro L xs) (d + 6) 121 10 [(0, .ref 68), (1, .int (Int32.ofInt x1))] [] s (lf_qv Q)) (h : fm_121_p33 X10 Q x1 s) : lf_E (px_ro L xs) (d + 6) 121 33 [(0, .ref 68), (1, .int (Int32.ofInt x1))] [] s (lf_qv Q) := by
  unfold fm_121_p33 at h
  refine lf_iinc 36 rfl rfl rfl rfl ?_
  refine lf_seg 1 (pc' := 10) (lv' := [(1, .int (Int32.ofInt (x1 + 1))), (0, .ref 68)]) (st' := []) rfl ?_
  refine lf_sub (l := [(0, .ref 68), (1, .int (Int32.ofInt (x1 + 1)))]) (lf_sb1 rfl (lf_sb1 rfl lf_sb0)) ?_
  exact hX10 _ _ h
def fm_121_p10 (Q : lf_Z → Prop) (X10 : Int → lf_Z → Prop) (x1 : Int) (s : lf_Z) : Prop := lf_R x1 ∧ ((156 ≤ x1 → (∃ w24 : Nat, s.2.2 0 = some w24 ∧ (w24 = 72 ∨ w24 = 73) ∧ (∃ w25 : Nat, s.2.2 1 = some w25 ∧ (w25 = 72 ∨ w25 = 73) ∧ (Q (s.1, s.2.1, lf_ur (lf_ur s.2.2 0 (some w25)) 1 (some w24)))))) ∧ (¬ (156 ≤ x1) → (∃ w26 : Nat, s.2.2 0 = some w26 ∧ (w26 = 72 ∨ w26 = 73) ∧ ((0 ≤ x1 ∧ x1 < 156) ∧ ((lf_wl (s.2.1 w26 x1) ≤ 0 → (fm_121_p33 X10 Q x1 s)) ∧ (¬ (lf_wl (s.2.1 w26 x1) ≤ 0) → (fm_122 x1 (fun s28 => (fm_121_p33 X10 Q x1 s28)) s)))))))
def fm_121_p10L (Q : lf_Z → Prop) (x1 : Int) (s : lf_Z) : Prop := ∀ X10 : Int → lf_Z → Prop, (∀ (x1 : Int) (s : lf_Z), fm_121_p10 Q X10 x1 s → X10 x1 s) → X10 x1 s
set_option maxRecDepth 100000 in
theorem gm_121_p10 {L : Nat} {xs : Nat → Int32} {d : Nat} {Q : lf_Z → Prop} {x1 : Int} {s : lf_Z} {X10 : Int → lf_Z → Prop} (hX10 : ∀ x1 s, X10 x1 s → lf_E (px_ro L xs) (d + 6) 121 10 [(0, .ref 68), (1, .int (Int32.ofInt x1))] [] s (lf_qv Q)) (h : fm_121_p10 Q X10 x1 s) : lf_E (px_ro L xs) (d + 6) 121 10 [(0, .ref 68), (1, .int (Int32.ofInt x1))] [] s (lf_qv Q) := by
  unfold fm_121_p10 at h
  refine lf_seg 1 (pc' := 11) (lv' := [(0, .ref 68), (1, .int (Int32.ofInt x1))]) (st' := [.int (Int32.ofInt x1)]) rfl ?_
  refine lf_sipush 14 156 rfl rfl (by decide) (by decide) ?_
  obtain ⟨o23, h⟩ := h
  refine lf_icmp_ge 39 17 rfl rfl rfl o23 ⟨by decide, by decide⟩ (fun c => ?_) (fun c => ?_)
  · have h := h.1 c
    refine lf_seg 1 (pc' := 40) (lv' := [(0, .ref 68), (1, .int (Int32.ofInt x1))]) (st' := [.ref 68]) rfl ?_
    obtain ⟨w24, ew24, hww24, h⟩ := h
    refine lf_getR 43 (w := some w24) rfl rfl rfl rfl rfl rfl ew24 ?_
    refine lf_seg 3 (pc' := 46) (lv' := [(1, .ref w24), (0, .ref 68)]) (st' := [.ref 68, .ref 68]) rfl ?_
    obtain ⟨w25, ew25, hww25, h⟩ := h
    refine lf_getR 49 (w := some w25) rfl rfl rfl rfl rfl rfl ew25 ?_
    refine lf_putR 52 0 (some w25) (some w25) rfl rfl rfl rfl rfl rfl rfl rfl (lf_urP (by decide)) ?_
    refine lf_as (s.1, s.2.1, lf_ur s.2.2 0 (some w25)) rfl ?_
    refine lf_seg 2 (pc' := 54) (lv' := [(1, .ref w24), (0, .ref 68)]) (st' := [.ref w24, .ref 68]) rfl ?_
    refine lf_putR 57 1 (some w24) (some w24) rfl rfl rfl rfl rfl rfl rfl rfl (lf_urP (by decide)) ?_
    refine lf_as (s.1, s.2.1, lf_ur (lf_ur s.2.2 0 (some w25)) 1 (some w24)) rfl ?_
    exact lf_retV rfl rfl h
  · have h := h.2 c
    refine lf_seg 1 (pc' := 18) (lv' := [(0, .ref 68), (1, .int (Int32.ofInt x1))]) (st' := [.ref 68]) rfl ?_
    obtain ⟨w26, ew26, hww26, h⟩ := h
    refine lf_getR 21 (w := some w26) rfl rfl rfl rfl rfl rfl ew26 ?_
    refine lf_seg 1 (pc' := 22) (lv' := [(0, .ref 68), (1, .int (Int32.ofInt x1))]) (st' := [.int (Int32.ofInt x1), .ref w26]) rfl ?_
    obtain ⟨o27, h⟩ := h
    refine lf_lald 23 156 rfl rfl (lf_wA hww26) (lf_wC hww26) rfl rfl o27 ?_
    refine lf_wtL ?_
    refine lf_lconst 24 0 rfl rfl (by decide) ?_
    refine lf_lif_le 33 28 rfl rfl rfl rfl lf_RLwl ⟨by decide, by decide⟩ (fun c => ?_) (fun c => ?_)
    · have h := h.1 c
      refine lf_sub (l := [(0, .ref 68), (1, .int (Int32.ofInt x1))]) (lf_sb1 rfl (lf_sb1 rfl lf_sb0)) ?_
      exact gm_121_p33 hX10 h
    · have h := h.2 c
      refine lf_seg 2 (pc' := 30) (lv' := [(0, .ref 68), (1, .int (Int32.ofInt x1))]) (st' := [.int (Int32.ofInt x1), .ref 68]) rfl ?_
      refine lf_callV 33 rfl rfl rfl rfl (gm_122 h) (fun s28 h => ?_)
      refine lf_sub (l := [(0, .ref 68), (1, .int (Int32.ofInt x1))]) (lf_sb1 rfl (lf_sb1 rfl lf_sb0)) ?_
      exact gm_121_p33 hX10 h
theorem gm_121_p10L {L : Nat} {xs : Nat → Int32} {d : Nat} {Q : lf_Z → Prop} {x1 : Int} {s : lf_Z} (h : fm_121_p10L Q x1 s) : lf_E (px_ro L xs) (d + 6) 121 10 [(0, .ref 68), (1, .int (Int32.ofInt x1))] [] s (lf_qv Q) :=
  h (fun x1 s => lf_E (px_ro L xs) (d + 6) 121 10 [(0, .ref 68), (1, .int (Int32.ofInt x1))] [] s (lf_qv Q)) (fun x1 s hb => gm_121_p10 (fun _ _ h => h) hb)
def fm_121 (Q : lf_Z → Prop) (s : lf_Z) : Prop := ∃ w21 : Nat, s.2.2 1 = some w21 ∧ (w21 = 72 ∨ w21 = 73) ∧ (fm_119 w21 0 (fun s22 => (fm_121_p10L Q 0 s22)) s)
set_option maxRecDepth 100000 in
theorem gm_121 {L : Nat} {xs : Nat → Int32} {d : Nat} {Q : lf_Z → Prop} {s : lf_Z} (h : fm_121 Q s) : lf_M (px_ro L xs) (d + 6) 121 [.ref 68] s (lf_qv Q) := by
  unfold fm_121 at h
  show lf_E (px_ro L xs) (d + 6) 121 0 [(0, .ref 68)] [] s _
  refine lf_seg 1 (pc' := 1) (lv' := [(0, .ref 68)]) (st' := [.ref 68]) rfl ?_
  obtain ⟨w21, ew21, hww21, h⟩ := h
  refine lf_getR 4 (w := some w21) rfl rfl rfl rfl rfl rfl ew21 ?_
  refine lf_lconst 5 0 rfl rfl (by decide) ?_
  refine lf_callV 8 rfl rfl rfl rfl (gm_119 hww21 h) (fun s22 h => ?_)
  refine lf_seg 2 (pc' := 10) (lv' := [(1, .int (Int32.ofInt 0)), (0, .ref 68)]) (st' := []) rfl ?_
  refine lf_sub (l := [(0, .ref 68), (1, .int (Int32.ofInt 0))]) (lf_sb1 rfl (lf_sb1 rfl lf_sb0)) ?_
  exact gm_121_p10L h
-- fm_117 Walk.oddsOf 68 i i i
def fm_117_p50 (Q : Int → lf_Z → Prop) (x3 : Int) (X50 : Int → Int → lf_Z → Prop) (x4 : Int) (x6 : Int) (s : lf_Z) : Prop := lf_R x6 ∧ ((13 ≤ x6 → (Q (lf_wl x4) s)) ∧ (¬ (13 ≤ x6) → (∃ w31 : Nat, s.2.2 0 = some w31 ∧ (w31 = 72 ∨ w31 = 73) ∧ ((0 ≤ (x3 * 13) + x6 ∧ (x3 * 13) + x6 < 156) ∧ (X50 (lf_wl ((lf_wl x4) + (lf_wl (s.2.1 w31 ((x3 * 13) + x6))))) (x6 + 1) s)))))
def fm_117_p50L (Q : Int → lf_Z → Prop) (x3 : Int) (x4 : Int) (x6 : Int) (s : lf_Z) : Prop := ∀ X50 : Int → Int → lf_Z → Prop, (∀ (x4 : Int) (x6 : Int) (s : lf_Z), fm_117_p50 Q x3 X50 x4 x6 s → X50 x4 x6 s) → X50 x4 x6 s
set_option maxRecDepth 100000 in
theorem gm_117_p50 {L : Nat} {xs : Nat → Int32} {d : Nat} {Q : Int → lf_Z → Prop} {x3 : Int} {x4 : Int} {x6 : Int} {s : lf_Z} {X50 : Int → Int → lf_Z → Prop} (hX50 : ∀ x4 x6 s, X50 x4 x6 s → lf_E (px_ro L xs) (d + 7) 117 50 [(0, .ref 68), (3, .int (Int32.ofInt x3)), (4, .long (Int64.ofInt x4)), (6, .int (Int32.ofInt x6))] [] s (lf_ql Q)) (h : fm_117_p50 Q x3 X50 x4 x6 s) : lf_E (px_ro L xs) (d + 7) 117 50 [(0, .ref 68), (3, .int (Int32.ofInt x3)), (4, .long (Int64.ofInt x4)), (6, .int (Int32.ofInt x6))] [] s (lf_ql Q) := by
  unfold fm_117_p50 at h
  refine lf_eqs (lv' := [(0, .ref 68), (3, .int (Int32.ofInt x3)), (4, .long (Int64.ofInt (lf_wl x4))), (6, .int (Int32.ofInt x6))]) (st' := []) (by simp only [lf_wlE]) rfl ?_
  refine lf_seg 1 (pc' := 52) (lv' := [(0, .ref 68), (3, .int (Int32.ofInt x3)), (4, .long (Int64.ofInt (lf_wl x4))), (6, .int (Int32.ofInt x6))]) (st' := [.int (Int32.ofInt x6)]) rfl ?_
  refine lf_bipush 54 13 rfl rfl (by decide) (by decide) ?_
  obtain ⟨o30, h⟩ := h
  refine lf_icmp_ge 80 57 rfl rfl rfl o30 ⟨by decide, by decide⟩ (fun c => ?_) (fun c => ?_)
  · have h := h.1 c
    refine lf_seg 1 (pc' := 82) (lv' := [(0, .ref 68), (3, .int (Int32.ofInt x3)), (4, .long (Int64.ofInt (lf_wl x4))), (6, .int (Int32.ofInt x6))]) (st' := [.long (Int64.ofInt (lf_wl x4))]) rfl ?_
    exact lf_retL rfl rfl h
  · have h := h.2 c
    refine lf_seg 2 (pc' := 60) (lv' := [(0, .ref 68), (3, .int (Int32.ofInt x3)), (4, .long (Int64.ofInt (lf_wl x4))), (6, .int (Int32.ofInt x6))]) (st' := [.ref 68, .long (Int64.ofInt (lf_wl x4))]) rfl ?_
    obtain ⟨w31, ew31, hww31, h⟩ := h
    refine lf_getR 63 (w := some w31) rfl rfl rfl rfl rfl rfl ew31 ?_
    refine lf_seg 1 (pc' := 64) (lv' := [(0, .ref 68), (3, .int (Int32.ofInt x3)), (4, .long (Int64.ofInt (lf_wl x4))), (6, .int (Int32.ofInt x6))]) (st' := [.int (Int32.ofInt x3), .ref w31, .long (Int64.ofInt (lf_wl x4))]) rfl ?_
    refine lf_bipush 66 13 rfl rfl (by decide) (by decide) ?_
    refine lf_imul 67 rfl rfl ?_
    refine lf_seg 1 (pc' := 69) (lv' := [(0, .ref 68), (3, .int (Int32.ofInt x3)), (4, .long (Int64.ofInt (lf_wl x4))), (6, .int (Int32.ofInt x6))]) (st' := [.int (Int32.ofInt x6), .int (Int32.ofInt (x3 * 13)), .ref w31, .long (Int64.ofInt (lf_wl x4))]) rfl ?_
    refine lf_iadd 70 rfl rfl ?_
    obtain ⟨o32, h⟩ := h
    refine lf_lald 71 156 rfl rfl (lf_wA hww31) (lf_wC hww31) rfl rfl o32 ?_
    refine lf_wtL ?_
    refine lf_ladd 72 rfl rfl ?_
    refine lf_wtL ?_
    refine lf_seg 1 (pc' := 74) (lv' := [(4, .long (Int64.ofInt (lf_wl ((lf_wl x4) + (lf_wl (s.2.1 w31 ((x3 * 13) + x6))))))), (0, .ref 68), (3, .int (Int32.ofInt x3)), (6, .int (Int32.ofInt x6))]) (st' := []) rfl ?_
    refine lf_iinc 77 rfl rfl rfl rfl ?_
    refine lf_seg 1 (pc' := 50) (lv' := [(6, .int (Int32.ofInt (x6 + 1))), (4, .long (Int64.ofInt (lf_wl ((lf_wl x4) + (lf_wl (s.2.1 w31 ((x3 * 13) + x6))))))), (0, .ref 68), (3, .int (Int32.ofInt x3))]) (st' := []) rfl ?_
    refine lf_sub (l := [(0, .ref 68), (3, .int (Int32.ofInt x3)), (4, .long (Int64.ofInt (lf_wl ((lf_wl x4) + (lf_wl (s.2.1 w31 ((x3 * 13) + x6))))))), (6, .int (Int32.ofInt (x6 + 1)))]) (lf_sb1 rfl (lf_sb1 rfl (lf_sb1 rfl (lf_sb1 rfl lf_sb0)))) ?_
    exact hX50 _ _ _ h
theorem gm_117_p50L {L : Nat} {xs : Nat → Int32} {d : Nat} {Q : Int → lf_Z → Prop} {x3 : Int} {x4 : Int} {x6 : Int} {s : lf_Z} (h : fm_117_p50L Q x3 x4 x6 s) : lf_E (px_ro L xs) (d + 7) 117 50 [(0, .ref 68), (3, .int (Int32.ofInt x3)), (4, .long (Int64.ofInt x4)), (6, .int (Int32.ofInt x6))] [] s (lf_ql Q) :=
  h (fun x4 x6 s => lf_E (px_ro L xs) (d + 7) 117 50 [(0, .ref 68), (3, .int (Int32.ofInt x3)), (4, .long (Int64.ofInt x4)), (6, .int (Int32.ofInt x6))] [] s (lf_ql Q)) (fun x4 x6 s hb => gm_117_p50 (fun _ _ _ h => h) hb)
def fm_117_p28 (Q : Int → lf_Z → Prop) (x2 : Int) (x3 : Int) (X28 : Int → lf_Z → Prop) (x4 : Int) (s : lf_Z) : Prop := lf_R x4 ∧ (lf_R x2 ∧ ((x2 ≤ x4 → (fm_117_p50L Q x3 0 0 s)) ∧ (¬ (x2 ≤ x4) → (fm_121 (fun s33 => (X28 (x4 + 1) s33)) s))))
def fm_117_p28L (Q : Int → lf_Z → Prop) (x2 : Int) (x3 : Int) (x4 : Int) (s : lf_Z) : Prop := ∀ X28 : Int → lf_Z → Prop, (∀ (x4 : Int) (s : lf_Z), fm_117_p28 Q x2 x3 X28 x4 s → X28 x4 s) → X28 x4 s
set_option maxRecDepth 100000 in
theorem gm_117_p28 {L : Nat} {xs : Nat → Int32} {d : Nat} {Q : Int → lf_Z → Prop} {x2 : Int} {x3 : Int} {x4 : Int} {s : lf_Z} {X28 : Int → lf_Z → Prop} (hX28 : ∀ x4 s, X28 x4 s → lf_E (px_ro L xs) (d + 7) 117 28 [(0, .ref 68), (2, .int (Int32.ofInt x2)), (3, .int (Int32.ofInt x3)), (4, .int (Int32.ofInt x4))] [] s (lf_ql Q)) (h : fm_117_p28 Q x2 x3 X28 x4 s) : lf_E (px_ro L xs) (d + 7) 117 28 [(0, .ref 68), (2, .int (Int32.ofInt x2)), (3, .int (Int32.ofInt x3)), (4, .int (Int32.ofInt x4))] [] s (lf_ql Q) := by
  unfold fm_117_p28 at h
  refine lf_seg 2 (pc' := 31) (lv' := [(0, .ref 68), (2, .int (Int32.ofInt x2)), (3, .int (Int32.ofInt x3)), (4, .int (Int32.ofInt x4))]) (st' := [.int (Int32.ofInt x2), .int (Int32.ofInt x4)]) rfl ?_
  obtain ⟨o28, h⟩ := h
  obtain ⟨o29, h⟩ := h
  refine lf_icmp_ge 44 34 rfl rfl rfl o28 o29 (fun c => ?_) (fun c => ?_)
  · have h := h.1 c
    refine lf_lconst 45 0 rfl rfl (by decide) ?_
    refine lf_seg 3 (pc' := 50) (lv' := [(6, .int (Int32.ofInt 0)), (4, .long (Int64.ofInt 0)), (0, .ref 68), (2, .int (Int32.ofInt x2)), (3, .int (Int32.ofInt x3))]) (st' := []) rfl ?_
    refine lf_sub (l := [(0, .ref 68), (3, .int (Int32.ofInt x3)), (4, .long (Int64.ofInt 0)), (6, .int (Int32.ofInt 0))]) (lf_sb1 rfl (lf_sb1 rfl (lf_sb1 rfl (lf_sb1 rfl lf_sb0)))) ?_
    exact gm_117_p50L h
  · have h := h.2 c
    refine lf_seg 1 (pc' := 35) (lv' := [(0, .ref 68), (2, .int (Int32.ofInt x2)), (3, .int (Int32.ofInt x3)), (4, .int (Int32.ofInt x4))]) (st' := [.ref 68]) rfl ?_
    refine lf_callV 38 rfl rfl rfl rfl (gm_121 h) (fun s33 h => ?_)
    refine lf_iinc 41 rfl rfl rfl rfl ?_
    refine lf_seg 1 (pc' := 28) (lv' := [(4, .int (Int32.ofInt (x4 + 1))), (0, .ref 68), (2, .int (Int32.ofInt x2)), (3, .int (Int32.ofInt x3))]) (st' := []) rfl ?_
    refine lf_sub (l := [(0, .ref 68), (2, .int (Int32.ofInt x2)), (3, .int (Int32.ofInt x3)), (4, .int (Int32.ofInt (x4 + 1)))]) (lf_sb1 rfl (lf_sb1 rfl (lf_sb1 rfl (lf_sb1 rfl lf_sb0)))) ?_
    exact hX28 _ _ h
theorem gm_117_p28L {L : Nat} {xs : Nat → Int32} {d : Nat} {Q : Int → lf_Z → Prop} {x2 : Int} {x3 : Int} {x4 : Int} {s : lf_Z} (h : fm_117_p28L Q x2 x3 x4 s) : lf_E (px_ro L xs) (d + 7) 117 28 [(0, .ref 68), (2, .int (Int32.ofInt x2)), (3, .int (Int32.ofInt x3)), (4, .int (Int32.ofInt x4))] [] s (lf_ql Q) :=
  h (fun x4 s => lf_E (px_ro L xs) (d + 7) 117 28 [(0, .ref 68), (2, .int (Int32.ofInt x2)), (3, .int (Int32.ofInt x3)), (4, .int (Int32.ofInt x4))] [] s (lf_ql Q)) (fun x4 s hb => gm_117_p28 (fun _ _ h => h) hb)
def fm_117 (a1 : Int) (a2 : Int) (a3 : Int) (Q : Int → lf_Z → Prop) (s : lf_Z) : Prop := fm_118 a1 0 (fun s21 => (∃ w22 : Nat, s21.2.2 0 = some w22 ∧ (w22 = 72 ∨ w22 = 73) ∧ (fm_119 w22 0 (fun s23 => (∃ w24 : Nat, s23.2.2 0 = some w24 ∧ (w24 = 72 ∨ w24 = 73) ∧ (fm_120 a1 (fun r26 s25 => ((0 ≤ r26 ∧ r26 < 156) ∧ (fm_117_p28L Q a2 a3 0 (s25.1, lf_up s25.2.1 w24 r26 1, s25.2.2)))) s23))) s21))) s
set_option maxRecDepth 100000 in
theorem gm_117 {L : Nat} {xs : Nat → Int32} {d : Nat} {a1 : Int} {a2 : Int} {a3 : Int} {Q : Int → lf_Z → Prop} {s : lf_Z} (h : fm_117 a1 a2 a3 Q s) : lf_M (px_ro L xs) (d + 7) 117 [.ref 68, .int (Int32.ofInt a1), .int (Int32.ofInt a2), .int (Int32.ofInt a3)] s (lf_ql Q) := by
  unfold fm_117 at h
  show lf_E (px_ro L xs) (d + 7) 117 0 [(0, .ref 68), (1, .int (Int32.ofInt a1)), (2, .int (Int32.ofInt a2)), (3, .int (Int32.ofInt a3))] [] s _
  refine lf_seg 3 (pc' := 3) (lv' := [(0, .ref 68), (1, .int (Int32.ofInt a1)), (2, .int (Int32.ofInt a2)), (3, .int (Int32.ofInt a3))]) (st' := [.int (Int32.ofInt 0), .int (Int32.ofInt a1), .ref 68]) rfl ?_
  refine lf_callV 6 rfl rfl rfl rfl (gm_118 h) (fun s21 h => ?_)
  refine lf_seg 1 (pc' := 7) (lv' := [(0, .ref 68), (1, .int (Int32.ofInt a1)), (2, .int (Int32.ofInt a2)), (3, .int (Int32.ofInt a3))]) (st' := [.ref 68]) rfl ?_
  obtain ⟨w22, ew22, hww22, h⟩ := h
  refine lf_getR 10 (w := some w22) rfl rfl rfl rfl rfl rfl ew22 ?_
  refine lf_lconst 11 0 rfl rfl (by decide) ?_
  refine lf_callV 14 rfl rfl rfl rfl (gm_119 hww22 h) (fun s23 h => ?_)
  refine lf_seg 1 (pc' := 15) (lv' := [(0, .ref 68), (1, .int (Int32.ofInt a1)), (2, .int (Int32.ofInt a2)), (3, .int (Int32.ofInt a3))]) (st' := [.ref 68]) rfl ?_
  obtain ⟨w24, ew24, hww24, h⟩ := h
  refine lf_getR 18 (w := some w24) rfl rfl rfl rfl rfl rfl ew24 ?_
  refine lf_seg 2 (pc' := 20) (lv' := [(0, .ref 68), (1, .int (Int32.ofInt a1)), (2, .int (Int32.ofInt a2)), (3, .int (Int32.ofInt a3))]) (st' := [.int (Int32.ofInt a1), .ref 68, .ref w24]) rfl ?_
  refine lf_callI 23 rfl rfl rfl rfl (gm_120 h) (fun r26 s25 h => ?_)
  refine lf_lconst 24 1 rfl rfl (by decide) ?_
  obtain ⟨o27, h⟩ := h
  refine lf_last 25 156 rfl rfl (lf_wA hww24) (lf_wC hww24) rfl rfl o27 ?_
  refine lf_as (s25.1, lf_up s25.2.1 w24 r26 1, s25.2.2) rfl ?_
  refine lf_seg 2 (pc' := 28) (lv' := [(4, .int (Int32.ofInt 0)), (0, .ref 68), (1, .int (Int32.ofInt a1)), (2, .int (Int32.ofInt a2)), (3, .int (Int32.ofInt a3))]) (st' := []) rfl ?_
  refine lf_sub (l := [(0, .ref 68), (2, .int (Int32.ofInt a2)), (3, .int (Int32.ofInt a3)), (4, .int (Int32.ofInt 0))]) (lf_sb1 rfl (lf_sb1 rfl (lf_sb1 rfl (lf_sb1 rfl lf_sb0)))) ?_
  exact gm_117_p28L h
-- fm_124 Walk.oddsOfAll 68 i
def fm_124_p5 (Q : Int → lf_Z → Prop) (x1 : Int) (X5 : Int → Int → lf_Z → Prop) (x2 : Int) (x4 : Int) (s : lf_Z) : Prop := lf_R x4 ∧ (lf_R x1 ∧ ((x1 ≤ x4 → (Q (lf_wl x2) s)) ∧ (¬ (x1 ≤ x4) → (X5 (lf_wl ((lf_wl x2) * 10000)) (x4 + 1) s))))
def fm_124_p5L (Q : Int → lf_Z → Prop) (x1 : Int) (x2 : Int) (x4 : Int) (s : lf_Z) : Prop := ∀ X5 : Int → Int → lf_Z → Prop, (∀ (x2 : Int) (x4 : Int) (s : lf_Z), fm_124_p5 Q x1 X5 x2 x4 s → X5 x2 x4 s) → X5 x2 x4 s
set_option maxRecDepth 100000 in
theorem gm_124_p5 {L : Nat} {xs : Nat → Int32} {d : Nat} {Q : Int → lf_Z → Prop} {x1 : Int} {x2 : Int} {x4 : Int} {s : lf_Z} {X5 : Int → Int → lf_Z → Prop} (hX5 : ∀ x2 x4 s, X5 x2 x4 s → lf_E (px_ro L xs) (d + 1) 124 5 [(1, .int (Int32.ofInt x1)), (2, .long (Int64.ofInt x2)), (4, .int (Int32.ofInt x4))] [] s (lf_ql Q)) (h : fm_124_p5 Q x1 X5 x2 x4 s) : lf_E (px_ro L xs) (d + 1) 124 5 [(1, .int (Int32.ofInt x1)), (2, .long (Int64.ofInt x2)), (4, .int (Int32.ofInt x4))] [] s (lf_ql Q) := by
  unfold fm_124_p5 at h
  refine lf_eqs (lv' := [(1, .int (Int32.ofInt x1)), (2, .long (Int64.ofInt (lf_wl x2))), (4, .int (Int32.ofInt x4))]) (st' := []) (by simp only [lf_wlE]) rfl ?_
  refine lf_seg 2 (pc' := 8) (lv' := [(1, .int (Int32.ofInt x1)), (2, .long (Int64.ofInt (lf_wl x2))), (4, .int (Int32.ofInt x4))]) (st' := [.int (Int32.ofInt x1), .int (Int32.ofInt x4)]) rfl ?_
  obtain ⟨o21, h⟩ := h
  obtain ⟨o22, h⟩ := h
  refine lf_icmp_ge 23 11 rfl rfl rfl o21 o22 (fun c => ?_) (fun c => ?_)
  · have h := h.1 c
    refine lf_seg 1 (pc' := 24) (lv' := [(1, .int (Int32.ofInt x1)), (2, .long (Int64.ofInt (lf_wl x2))), (4, .int (Int32.ofInt x4))]) (st' := [.long (Int64.ofInt (lf_wl x2))]) rfl ?_
    exact lf_retL rfl rfl h
  · have h := h.2 c
    refine lf_seg 1 (pc' := 12) (lv' := [(1, .int (Int32.ofInt x1)), (2, .long (Int64.ofInt (lf_wl x2))), (4, .int (Int32.ofInt x4))]) (st' := [.long (Int64.ofInt (lf_wl x2))]) rfl ?_
    refine lf_ldc2 15 10000 rfl rfl rfl (by decide) ?_
    refine lf_lmul 16 rfl rfl ?_
    refine lf_wtL ?_
    refine lf_seg 1 (pc' := 17) (lv' := [(2, .long (Int64.ofInt (lf_wl ((lf_wl x2) * 10000)))), (1, .int (Int32.ofInt x1)), (4, .int (Int32.ofInt x4))]) (st' := []) rfl ?_
    refine lf_iinc 20 rfl rfl rfl rfl ?_
    refine lf_seg 1 (pc' := 5) (lv' := [(4, .int (Int32.ofInt (x4 + 1))), (2, .long (Int64.ofInt (lf_wl ((lf_wl x2) * 10000)))), (1, .int (Int32.ofInt x1))]) (st' := []) rfl ?_
    refine lf_sub (l := [(1, .int (Int32.ofInt x1)), (2, .long (Int64.ofInt (lf_wl ((lf_wl x2) * 10000)))), (4, .int (Int32.ofInt (x4 + 1)))]) (lf_sb1 rfl (lf_sb1 rfl (lf_sb1 rfl lf_sb0))) ?_
    exact hX5 _ _ _ h
theorem gm_124_p5L {L : Nat} {xs : Nat → Int32} {d : Nat} {Q : Int → lf_Z → Prop} {x1 : Int} {x2 : Int} {x4 : Int} {s : lf_Z} (h : fm_124_p5L Q x1 x2 x4 s) : lf_E (px_ro L xs) (d + 1) 124 5 [(1, .int (Int32.ofInt x1)), (2, .long (Int64.ofInt x2)), (4, .int (Int32.ofInt x4))] [] s (lf_ql Q) :=
  h (fun x2 x4 s => lf_E (px_ro L xs) (d + 1) 124 5 [(1, .int (Int32.ofInt x1)), (2, .long (Int64.ofInt x2)), (4, .int (Int32.ofInt x4))] [] s (lf_ql Q)) (fun x2 x4 s hb => gm_124_p5 (fun _ _ _ h => h) hb)
def fm_124 (a1 : Int) (Q : Int → lf_Z → Prop) (s : lf_Z) : Prop := fm_124_p5L Q a1 1 0 s
set_option maxRecDepth 100000 in
theorem gm_124 {L : Nat} {xs : Nat → Int32} {d : Nat} {a1 : Int} {Q : Int → lf_Z → Prop} {s : lf_Z} (h : fm_124 a1 Q s) : lf_M (px_ro L xs) (d + 1) 124 [.ref 68, .int (Int32.ofInt a1)] s (lf_ql Q) := by
  unfold fm_124 at h
  show lf_E (px_ro L xs) (d + 1) 124 0 [(0, .ref 68), (1, .int (Int32.ofInt a1))] [] s _
  refine lf_lconst 1 1 rfl rfl (by decide) ?_
  refine lf_seg 3 (pc' := 5) (lv' := [(4, .int (Int32.ofInt 0)), (2, .long (Int64.ofInt 1)), (0, .ref 68), (1, .int (Int32.ofInt a1))]) (st' := []) rfl ?_
  refine lf_sub (l := [(1, .int (Int32.ofInt a1)), (2, .long (Int64.ofInt 1)), (4, .int (Int32.ofInt 0))]) (lf_sb1 rfl (lf_sb1 rfl (lf_sb1 rfl lf_sb0))) ?_
  exact gm_124_p5L h
-- fm_125 ElevenBullocks.inLowestTerms l l i
def fm_125_p55 (Q : Int → lf_Z → Prop) (x5 : Int) (y0 : Int) (s : lf_Z) : Prop := (lf_wl x5 ≠ 0 → ((lf_wl x5) ≠ 0 ∧ (Q (lf_wl ((lf_wl y0).tdiv (lf_wl x5))) s))) ∧ (¬ (lf_wl x5 ≠ 0) → (Q (lf_wl y0) s))
set_option maxRecDepth 100000 in
theorem gm_125_p55 {L : Nat} {xs : Nat → Int32} {d : Nat} {Q : Int → lf_Z → Prop} {x5 : Int} {y0 : Int} {s : lf_Z} (h : fm_125_p55 Q x5 y0 s) : lf_E (px_ro L xs) (d + 1) 125 55 [(5, .long (Int64.ofInt x5))] [.long (Int64.ofInt y0)] s (lf_ql Q) := by
  unfold fm_125_p55 at h
  refine lf_eqs (lv' := [(5, .long (Int64.ofInt (lf_wl x5)))]) (st' := [.long (Int64.ofInt (lf_wl y0))]) (by simp only [lf_wlE]) (by simp only [lf_wlE]) ?_
  refine lf_seg 2 (pc' := 59) (lv' := [(9, .long (Int64.ofInt (lf_wl y0))), (5, .long (Int64.ofInt (lf_wl x5)))]) (st' := [.long (Int64.ofInt (lf_wl x5))]) rfl ?_
  refine lf_lconst 60 0 rfl rfl (by decide) ?_
  refine lf_lif_ne 69 64 rfl rfl rfl rfl lf_RLwl ⟨by decide, by decide⟩ (fun c => ?_) (fun c => ?_)
  · have h := h.1 c
    refine lf_seg 2 (pc' := 73) (lv' := [(9, .long (Int64.ofInt (lf_wl y0))), (5, .long (Int64.ofInt (lf_wl x5)))]) (st' := [.long (Int64.ofInt (lf_wl x5)), .long (Int64.ofInt (lf_wl y0))]) rfl ?_
    obtain ⟨o23, h⟩ := h
    refine lf_ldiv 74 rfl rfl lf_RLwl lf_RLwl o23 ?_
    refine lf_wtL ?_
    exact lf_retL rfl rfl h
  · have h := h.2 c
    refine lf_seg 2 (pc' := 74) (lv' := [(9, .long (Int64.ofInt (lf_wl y0))), (5, .long (Int64.ofInt (lf_wl x5)))]) (st' := [.long (Int64.ofInt (lf_wl y0))]) rfl ?_
    exact lf_retL rfl rfl h
def fm_125_p45 (Q : Int → lf_Z → Prop) (x0 : Int) (x2 : Int) (x4 : Int) (x5 : Int) (s : lf_Z) : Prop := lf_R x4 ∧ ((x4 = 0 → (fm_125_p55 Q x5 x0 s)) ∧ (¬ (x4 = 0) → (fm_125_p55 Q x5 x2 s)))
set_option maxRecDepth 100000 in
theorem gm_125_p45 {L : Nat} {xs : Nat → Int32} {d : Nat} {Q : Int → lf_Z → Prop} {x0 : Int} {x2 : Int} {x4 : Int} {x5 : Int} {s : lf_Z} (h : fm_125_p45 Q x0 x2 x4 x5 s) : lf_E (px_ro L xs) (d + 1) 125 45 [(0, .long (Int64.ofInt x0)), (2, .long (Int64.ofInt x2)), (4, .int (Int32.ofInt x4)), (5, .long (Int64.ofInt x5))] [] s (lf_ql Q) := by
  unfold fm_125_p45 at h
  refine lf_eqs (lv' := [(0, .long (Int64.ofInt (lf_wl x0))), (2, .long (Int64.ofInt (lf_wl x2))), (4, .int (Int32.ofInt x4)), (5, .long (Int64.ofInt (lf_wl x5)))]) (st' := []) (by simp only [lf_wlE]) rfl ?_
  refine lf_seg 1 (pc' := 47) (lv' := [(0, .long (Int64.ofInt (lf_wl x0))), (2, .long (Int64.ofInt (lf_wl x2))), (4, .int (Int32.ofInt x4)), (5, .long (Int64.ofInt (lf_wl x5)))]) (st' := [.int (Int32.ofInt x4)]) rfl ?_
  obtain ⟨o22, h⟩ := h
  refine lf_if_eq 54 50 rfl rfl rfl o22 (fun c => ?_) (fun c => ?_)
  · have h := h.1 c
    refine lf_seg 1 (pc' := 55) (lv' := [(0, .long (Int64.ofInt (lf_wl x0))), (2, .long (Int64.ofInt (lf_wl x2))), (4, .int (Int32.ofInt x4)), (5, .long (Int64.ofInt (lf_wl x5)))]) (st' := [.long (Int64.ofInt (lf_wl x0))]) rfl ?_
    refine lf_eqs (lv' := [(0, .long (Int64.ofInt x0)), (2, .long (Int64.ofInt x2)), (4, .int (Int32.ofInt x4)), (5, .long (Int64.ofInt x5))]) (st' := [.long (Int64.ofInt x0)]) (by simp only [lf_wlE]) (by simp only [lf_wlE]) ?_
    refine lf_sub (l := [(5, .long (Int64.ofInt x5))]) (lf_sb1 rfl lf_sb0) ?_
    exact gm_125_p55 h
  · have h := h.2 c
    refine lf_seg 2 (pc' := 55) (lv' := [(0, .long (Int64.ofInt (lf_wl x0))), (2, .long (Int64.ofInt (lf_wl x2))), (4, .int (Int32.ofInt x4)), (5, .long (Int64.ofInt (lf_wl x5)))]) (st' := [.long (Int64.ofInt (lf_wl x2))]) rfl ?_
    refine lf_eqs (lv' := [(0, .long (Int64.ofInt x0)), (2, .long (Int64.ofInt x2)), (4, .int (Int32.ofInt x4)), (5, .long (Int64.ofInt x5))]) (st' := [.long (Int64.ofInt x2)]) (by simp only [lf_wlE]) (by simp only [lf_wlE]) ?_
    refine lf_sub (l := [(5, .long (Int64.ofInt x5))]) (lf_sb1 rfl lf_sb0) ?_
    exact gm_125_p55 h
def fm_125_p9 (Q : Int → lf_Z → Prop) (x0 : Int) (x2 : Int) (x4 : Int) (X9 : Int → Int → Int → lf_Z → Prop) (x5 : Int) (x7 : Int) (x9 : Int) (s : lf_Z) : Prop := lf_R x9 ∧ ((1000 ≤ x9 → (fm_125_p45 Q x0 x2 x4 x5 s)) ∧ (¬ (1000 ≤ x9) → ((lf_wl x7 = 0 → (fm_125_p45 Q x0 x2 x4 x5 s)) ∧ (¬ (lf_wl x7 = 0) → ((lf_wl x7) ≠ 0 ∧ (X9 x7 (lf_wl ((lf_wl x5).tmod (lf_wl x7))) (x9 + 1) s))))))
def fm_125_p9L (Q : Int → lf_Z → Prop) (x0 : Int) (x2 : Int) (x4 : Int) (x5 : Int) (x7 : Int) (x9 : Int) (s : lf_Z) : Prop := ∀ X9 : Int → Int → Int → lf_Z → Prop, (∀ (x5 : Int) (x7 : Int) (x9 : Int) (s : lf_Z), fm_125_p9 Q x0 x2 x4 X9 x5 x7 x9 s → X9 x5 x7 x9 s) → X9 x5 x7 x9 s
set_option maxRecDepth 100000 in
theorem gm_125_p9 {L : Nat} {xs : Nat → Int32} {d : Nat} {Q : Int → lf_Z → Prop} {x0 : Int} {x2 : Int} {x4 : Int} {x5 : Int} {x7 : Int} {x9 : Int} {s : lf_Z} {X9 : Int → Int → Int → lf_Z → Prop} (hX9 : ∀ x5 x7 x9 s, X9 x5 x7 x9 s → lf_E (px_ro L xs) (d + 1) 125 9 [(0, .long (Int64.ofInt x0)), (2, .long (Int64.ofInt x2)), (4, .int (Int32.ofInt x4)), (5, .long (Int64.ofInt x5)), (7, .long (Int64.ofInt x7)), (9, .int (Int32.ofInt x9))] [] s (lf_ql Q)) (h : fm_125_p9 Q x0 x2 x4 X9 x5 x7 x9 s) : lf_E (px_ro L xs) (d + 1) 125 9 [(0, .long (Int64.ofInt x0)), (2, .long (Int64.ofInt x2)), (4, .int (Int32.ofInt x4)), (5, .long (Int64.ofInt x5)), (7, .long (Int64.ofInt x7)), (9, .int (Int32.ofInt x9))] [] s (lf_ql Q) := by
  unfold fm_125_p9 at h
  refine lf_eqs (lv' := [(0, .long (Int64.ofInt (lf_wl x0))), (2, .long (Int64.ofInt (lf_wl x2))), (4, .int (Int32.ofInt x4)), (5, .long (Int64.ofInt (lf_wl x5))), (7, .long (Int64.ofInt (lf_wl x7))), (9, .int (Int32.ofInt x9))]) (st' := []) (by simp only [lf_wlE]) rfl ?_
  refine lf_seg 1 (pc' := 11) (lv' := [(0, .long (Int64.ofInt (lf_wl x0))), (2, .long (Int64.ofInt (lf_wl x2))), (4, .int (Int32.ofInt x4)), (5, .long (Int64.ofInt (lf_wl x5))), (7, .long (Int64.ofInt (lf_wl x7))), (9, .int (Int32.ofInt x9))]) (st' := [.int (Int32.ofInt x9)]) rfl ?_
  refine lf_sipush 14 1000 rfl rfl (by decide) (by decide) ?_
  obtain ⟨o21, h⟩ := h
  refine lf_icmp_ge 45 17 rfl rfl rfl o21 ⟨by decide, by decide⟩ (fun c => ?_) (fun c => ?_)
  · have h := h.1 c
    refine lf_eqs (lv' := [(0, .long (Int64.ofInt x0)), (2, .long (Int64.ofInt x2)), (4, .int (Int32.ofInt x4)), (5, .long (Int64.ofInt x5)), (7, .long (Int64.ofInt x7)), (9, .int (Int32.ofInt x9))]) (st' := []) (by simp only [lf_wlE]) rfl ?_
    refine lf_sub (l := [(0, .long (Int64.ofInt x0)), (2, .long (Int64.ofInt x2)), (4, .int (Int32.ofInt x4)), (5, .long (Int64.ofInt x5))]) (lf_sb1 rfl (lf_sb1 rfl (lf_sb1 rfl (lf_sb1 rfl lf_sb0)))) ?_
    exact gm_125_p45 h
  · have h := h.2 c
    refine lf_seg 1 (pc' := 19) (lv' := [(0, .long (Int64.ofInt (lf_wl x0))), (2, .long (Int64.ofInt (lf_wl x2))), (4, .int (Int32.ofInt x4)), (5, .long (Int64.ofInt (lf_wl x5))), (7, .long (Int64.ofInt (lf_wl x7))), (9, .int (Int32.ofInt x9))]) (st' := [.long (Int64.ofInt (lf_wl x7))]) rfl ?_
    refine lf_lconst 20 0 rfl rfl (by decide) ?_
    refine lf_lif_eq 45 24 rfl rfl rfl rfl lf_RLwl ⟨by decide, by decide⟩ (fun c => ?_) (fun c => ?_)
    · have h := h.1 c
      refine lf_eqs (lv' := [(0, .long (Int64.ofInt x0)), (2, .long (Int64.ofInt x2)), (4, .int (Int32.ofInt x4)), (5, .long (Int64.ofInt x5)), (7, .long (Int64.ofInt x7)), (9, .int (Int32.ofInt x9))]) (st' := []) (by simp only [lf_wlE]) rfl ?_
      refine lf_sub (l := [(0, .long (Int64.ofInt x0)), (2, .long (Int64.ofInt x2)), (4, .int (Int32.ofInt x4)), (5, .long (Int64.ofInt x5))]) (lf_sb1 rfl (lf_sb1 rfl (lf_sb1 rfl (lf_sb1 rfl lf_sb0)))) ?_
      exact gm_125_p45 h
    · have h := h.2 c
      refine lf_seg 2 (pc' := 28) (lv' := [(0, .long (Int64.ofInt (lf_wl x0))), (2, .long (Int64.ofInt (lf_wl x2))), (4, .int (Int32.ofInt x4)), (5, .long (Int64.ofInt (lf_wl x5))), (7, .long (Int64.ofInt (lf_wl x7))), (9, .int (Int32.ofInt x9))]) (st' := [.long (Int64.ofInt (lf_wl x7)), .long (Int64.ofInt (lf_wl x5))]) rfl ?_
      obtain ⟨o24, h⟩ := h
      refine lf_lrem 29 rfl rfl lf_RLwl lf_RLwl o24 ?_
      refine lf_wtL ?_
      refine lf_seg 5 (pc' := 39) (lv' := [(7, .long (Int64.ofInt (lf_wl ((lf_wl x5).tmod (lf_wl x7))))), (5, .long (Int64.ofInt (lf_wl x7))), (10, .long (Int64.ofInt (lf_wl ((lf_wl x5).tmod (lf_wl x7))))), (0, .long (Int64.ofInt (lf_wl x0))), (2, .long (Int64.ofInt (lf_wl x2))), (4, .int (Int32.ofInt x4)), (9, .int (Int32.ofInt x9))]) (st' := []) rfl ?_
      refine lf_iinc 42 rfl rfl rfl rfl ?_
      refine lf_seg 1 (pc' := 9) (lv' := [(9, .int (Int32.ofInt (x9 + 1))), (7, .long (Int64.ofInt (lf_wl ((lf_wl x5).tmod (lf_wl x7))))), (5, .long (Int64.ofInt (lf_wl x7))), (10, .long (Int64.ofInt (lf_wl ((lf_wl x5).tmod (lf_wl x7))))), (0, .long (Int64.ofInt (lf_wl x0))), (2, .long (Int64.ofInt (lf_wl x2))), (4, .int (Int32.ofInt x4))]) (st' := []) rfl ?_
      refine lf_eqs (lv' := [(9, .int (Int32.ofInt (x9 + 1))), (7, .long (Int64.ofInt (lf_wl ((lf_wl x5).tmod (lf_wl x7))))), (5, .long (Int64.ofInt x7)), (10, .long (Int64.ofInt (lf_wl ((lf_wl x5).tmod (lf_wl x7))))), (0, .long (Int64.ofInt x0)), (2, .long (Int64.ofInt x2)), (4, .int (Int32.ofInt x4))]) (st' := []) (by simp only [lf_wlE]) rfl ?_
      refine lf_sub (l := [(0, .long (Int64.ofInt x0)), (2, .long (Int64.ofInt x2)), (4, .int (Int32.ofInt x4)), (5, .long (Int64.ofInt x7)), (7, .long (Int64.ofInt (lf_wl ((lf_wl x5).tmod (lf_wl x7))))), (9, .int (Int32.ofInt (x9 + 1)))]) (lf_sb1 rfl (lf_sb1 rfl (lf_sb1 rfl (lf_sb1 rfl (lf_sb1 rfl (lf_sb1 rfl lf_sb0)))))) ?_
      exact hX9 _ _ _ _ h
theorem gm_125_p9L {L : Nat} {xs : Nat → Int32} {d : Nat} {Q : Int → lf_Z → Prop} {x0 : Int} {x2 : Int} {x4 : Int} {x5 : Int} {x7 : Int} {x9 : Int} {s : lf_Z} (h : fm_125_p9L Q x0 x2 x4 x5 x7 x9 s) : lf_E (px_ro L xs) (d + 1) 125 9 [(0, .long (Int64.ofInt x0)), (2, .long (Int64.ofInt x2)), (4, .int (Int32.ofInt x4)), (5, .long (Int64.ofInt x5)), (7, .long (Int64.ofInt x7)), (9, .int (Int32.ofInt x9))] [] s (lf_ql Q) :=
  h (fun x5 x7 x9 s => lf_E (px_ro L xs) (d + 1) 125 9 [(0, .long (Int64.ofInt x0)), (2, .long (Int64.ofInt x2)), (4, .int (Int32.ofInt x4)), (5, .long (Int64.ofInt x5)), (7, .long (Int64.ofInt x7)), (9, .int (Int32.ofInt x9))] [] s (lf_ql Q)) (fun x5 x7 x9 s hb => gm_125_p9 (fun _ _ _ _ h => h) hb)
def fm_125 (a0 : Int) (a1 : Int) (a2 : Int) (Q : Int → lf_Z → Prop) (s : lf_Z) : Prop := fm_125_p9L Q a0 a1 a2 a1 a0 0 s
set_option maxRecDepth 100000 in
theorem gm_125 {L : Nat} {xs : Nat → Int32} {d : Nat} {a0 : Int} {a1 : Int} {a2 : Int} {Q : Int → lf_Z → Prop} {s : lf_Z} (h : fm_125 a0 a1 a2 Q s) : lf_M (px_ro L xs) (d + 1) 125 [.long (Int64.ofInt a0), .long (Int64.ofInt a1), .int (Int32.ofInt a2)] s (lf_ql Q) := by
  unfold fm_125 at h
  show lf_E (px_ro L xs) (d + 1) 125 0 [(0, .long (Int64.ofInt a0)), (2, .long (Int64.ofInt a1)), (4, .int (Int32.ofInt a2))] [] s _
  refine lf_eqs (lv' := [(0, .long (Int64.ofInt (lf_wl a0))), (2, .long (Int64.ofInt (lf_wl a1))), (4, .int (Int32.ofInt a2))]) (st' := []) (by simp only [lf_wlE]) rfl ?_
  refine lf_seg 6 (pc' := 9) (lv' := [(9, .int (Int32.ofInt 0)), (7, .long (Int64.ofInt (lf_wl a0))), (5, .long (Int64.ofInt (lf_wl a1))), (0, .long (Int64.ofInt (lf_wl a0))), (2, .long (Int64.ofInt (lf_wl a1))), (4, .int (Int32.ofInt a2))]) (st' := []) rfl ?_
  refine lf_eqs (lv' := [(9, .int (Int32.ofInt 0)), (7, .long (Int64.ofInt a0)), (5, .long (Int64.ofInt a1)), (0, .long (Int64.ofInt a0)), (2, .long (Int64.ofInt a1)), (4, .int (Int32.ofInt a2))]) (st' := []) (by simp only [lf_wlE]) rfl ?_
  refine lf_sub (l := [(0, .long (Int64.ofInt a0)), (2, .long (Int64.ofInt a1)), (4, .int (Int32.ofInt a2)), (5, .long (Int64.ofInt a1)), (7, .long (Int64.ofInt a0)), (9, .int (Int32.ofInt 0))]) (lf_sb1 rfl (lf_sb1 rfl (lf_sb1 rfl (lf_sb1 rfl (lf_sb1 rfl (lf_sb1 rfl lf_sb0)))))) ?_
  exact gm_125_p9L h
