-- fm_283 Model.happens 95
def fm_283 (Q : lf_Z → Prop) (s : lf_Z) : Prop := lf_R (s.1 96 6) ∧ (lf_R (s.1 96 1) ∧ ((s.1 96 1) ≠ 0 ∧ (lf_R ((s.1 96 6).tmod 5) ∧ (((s.1 96 6).tmod 5 ≠ 0 ∧ (s.1 96 6).tmod 5 ≠ 1 → (lf_R (s.1 96 3) ∧ ((999 ≤ s.1 96 3 → (Q s)) ∧ (¬ (999 ≤ s.1 96 3) → (fm_260 (fun s26 => (Q s26)) s))))) ∧ ((s.1 96 6).tmod 5 = 0 → (fm_252 ((s.1 96 6).tmod (s.1 96 1)) (fun z28 s27 => ((z28 = true → (Q s27)) ∧ (z28 = false → ((0 ≤ (50 + (4 * ((s.1 96 6).tmod (s.1 96 1)))) + 3 ∧ (50 + (4 * ((s.1 96 6).tmod (s.1 96 1)))) + 3 < 1538) ∧ (Q (lf_up s27.1 96 ((50 + (4 * ((s.1 96 6).tmod (s.1 96 1)))) + 3) (lf_w (1 - (s27.1 96 ((50 + (4 * ((s.1 96 6).tmod (s.1 96 1)))) + 3)))), s27.2.1, s27.2.2)))))) s)) ∧ ((s.1 96 6).tmod 5 = 1 → (lf_R (s.1 96 2) ∧ ((s.1 96 2 ≤ 0 → (Q s)) ∧ (¬ (s.1 96 2 ≤ 0) → ((s.1 96 2) ≠ 0 ∧ (lf_R (s.1 96 0) ∧ ((s.1 96 0) ≠ 0 ∧ (fm_191e ((s.1 96 6).tmod (s.1 96 2)) ((s.1 96 6).tmod (s.1 96 0)) (fun s34 => (Q s34)) s))))))))))))
set_option maxRecDepth 100000 in
theorem gm_283 {L : Nat} {xs : Nat → Int32} {d : Nat} {Q : lf_Z → Prop} {s : lf_Z} (h : fm_283 Q s) : lf_M (px_ro L xs) (d + 8) 283 [.ref 95] s (lf_qv Q) := by
  unfold fm_283 at h
  show lf_E (px_ro L xs) (d + 8) 283 0 [(0, .ref 95)] [] s _
  refine lf_seg 2 (pc' := 4) (lv' := [(0, .ref 95)]) (st' := [.ref 96]) rfl ?_
  refine lf_bipush 6 6 rfl rfl (by decide) (by decide) ?_
  refine lf_iald 7 1538 rfl rfl rfl rfl rfl rfl ⟨by decide, by decide⟩ ?_
  refine lf_seg 5 (pc' := 14) (lv' := [(1, .int (Int32.ofInt (s.1 96 6))), (0, .ref 95)]) (st' := [.int (Int32.ofInt 1), .ref 96, .int (Int32.ofInt (s.1 96 6))]) rfl ?_
  refine lf_iald 15 1538 rfl rfl rfl rfl rfl rfl ⟨by decide, by decide⟩ ?_
  obtain ⟨o21, h⟩ := h
  obtain ⟨o22, h⟩ := h
  obtain ⟨o23, h⟩ := h
  refine lf_irem 16 rfl rfl o21 o22 o23 ?_
  refine lf_seg 3 (pc' := 19) (lv' := [(2, .int (Int32.ofInt ((s.1 96 6).tmod (s.1 96 1)))), (1, .int (Int32.ofInt (s.1 96 6))), (0, .ref 95)]) (st' := [.int (Int32.ofInt 5), .int (Int32.ofInt (s.1 96 6))]) rfl ?_
  refine lf_irem 20 rfl rfl o21 ⟨by decide, by decide⟩ (by decide) ?_
  obtain ⟨o24, h⟩ := h
  refine lf_lsw 120 [(0, 48), (1, 87)] rfl rfl (by decide) (by decide) (by decide) o24 (fun c => ?_) (lf_tab1 (fun c => ?_) (lf_tab1 (fun c => ?_) lf_tab0))
  · have h := h.1 c
    refine lf_seg 3 (pc' := 125) (lv' := [(2, .int (Int32.ofInt ((s.1 96 6).tmod (s.1 96 1)))), (1, .int (Int32.ofInt (s.1 96 6))), (0, .ref 95)]) (st' := [.int (Int32.ofInt 3), .ref 96]) rfl ?_
    refine lf_iald 126 1538 rfl rfl rfl rfl rfl rfl ⟨by decide, by decide⟩ ?_
    refine lf_sipush 129 999 rfl rfl (by decide) (by decide) ?_
    obtain ⟨o25, h⟩ := h
    refine lf_icmp_ge 136 132 rfl rfl rfl o25 ⟨by decide, by decide⟩ (fun c => ?_) (fun c => ?_)
    · have h := h.1 c
      exact lf_retV rfl rfl h
    · have h := h.2 c
      refine lf_seg 1 (pc' := 133) (lv' := [(2, .int (Int32.ofInt ((s.1 96 6).tmod (s.1 96 1)))), (1, .int (Int32.ofInt (s.1 96 6))), (0, .ref 95)]) (st' := [.ref 95]) rfl ?_
      refine lf_callV 136 rfl rfl rfl rfl (gm_260 h) (fun s26 h => ?_)
      exact lf_retV rfl rfl h
  · have h := h.2.1 c
    refine lf_seg 2 (pc' := 50) (lv' := [(2, .int (Int32.ofInt ((s.1 96 6).tmod (s.1 96 1)))), (1, .int (Int32.ofInt (s.1 96 6))), (0, .ref 95)]) (st' := [.int (Int32.ofInt ((s.1 96 6).tmod (s.1 96 1))), .ref 95]) rfl ?_
    refine lf_callZ 53 rfl rfl rfl rfl (gm_252 h) (fun z28 s27 h => ?_)
    refine lf_ifz_ne 136 56 rfl rfl rfl (fun c => ?_) (fun c => ?_)
    · have h := h.1 c
      exact lf_retV rfl rfl h
    · have h := h.2 c
      refine lf_seg 2 (pc' := 60) (lv' := [(2, .int (Int32.ofInt ((s.1 96 6).tmod (s.1 96 1)))), (1, .int (Int32.ofInt (s.1 96 6))), (0, .ref 95)]) (st' := [.ref 96]) rfl ?_
      refine lf_bipush 62 50 rfl rfl (by decide) (by decide) ?_
      refine lf_seg 2 (pc' := 64) (lv' := [(2, .int (Int32.ofInt ((s.1 96 6).tmod (s.1 96 1)))), (1, .int (Int32.ofInt (s.1 96 6))), (0, .ref 95)]) (st' := [.int (Int32.ofInt ((s.1 96 6).tmod (s.1 96 1))), .int (Int32.ofInt 4), .int (Int32.ofInt 50), .ref 96]) rfl ?_
      refine lf_imul 65 rfl rfl ?_
      refine lf_iadd 66 rfl rfl ?_
      refine lf_seg 1 (pc' := 67) (lv' := [(2, .int (Int32.ofInt ((s.1 96 6).tmod (s.1 96 1)))), (1, .int (Int32.ofInt (s.1 96 6))), (0, .ref 95)]) (st' := [.int (Int32.ofInt 3), .int (Int32.ofInt (50 + (4 * ((s.1 96 6).tmod (s.1 96 1))))), .ref 96]) rfl ?_
      refine lf_iadd 68 rfl rfl ?_
      refine lf_seg 3 (pc' := 73) (lv' := [(2, .int (Int32.ofInt ((s.1 96 6).tmod (s.1 96 1)))), (1, .int (Int32.ofInt (s.1 96 6))), (0, .ref 95)]) (st' := [.ref 96, .int (Int32.ofInt 1), .int (Int32.ofInt ((50 + (4 * ((s.1 96 6).tmod (s.1 96 1)))) + 3)), .ref 96]) rfl ?_
      refine lf_bipush 75 50 rfl rfl (by decide) (by decide) ?_
      refine lf_seg 2 (pc' := 77) (lv' := [(2, .int (Int32.ofInt ((s.1 96 6).tmod (s.1 96 1)))), (1, .int (Int32.ofInt (s.1 96 6))), (0, .ref 95)]) (st' := [.int (Int32.ofInt ((s.1 96 6).tmod (s.1 96 1))), .int (Int32.ofInt 4), .int (Int32.ofInt 50), .ref 96, .int (Int32.ofInt 1), .int (Int32.ofInt ((50 + (4 * ((s.1 96 6).tmod (s.1 96 1)))) + 3)), .ref 96]) rfl ?_
      refine lf_imul 78 rfl rfl ?_
      refine lf_iadd 79 rfl rfl ?_
      refine lf_seg 1 (pc' := 80) (lv' := [(2, .int (Int32.ofInt ((s.1 96 6).tmod (s.1 96 1)))), (1, .int (Int32.ofInt (s.1 96 6))), (0, .ref 95)]) (st' := [.int (Int32.ofInt 3), .int (Int32.ofInt (50 + (4 * ((s.1 96 6).tmod (s.1 96 1))))), .ref 96, .int (Int32.ofInt 1), .int (Int32.ofInt ((50 + (4 * ((s.1 96 6).tmod (s.1 96 1)))) + 3)), .ref 96]) rfl ?_
      refine lf_iadd 81 rfl rfl ?_
      obtain ⟨o29, h⟩ := h
      refine lf_iald 82 1538 rfl rfl rfl rfl rfl rfl o29 ?_
      refine lf_isub 83 rfl rfl ?_
      refine lf_wtI ?_
      refine lf_iast 84 1538 rfl rfl rfl rfl rfl rfl o29 ?_
      refine lf_as (lf_up s27.1 96 ((50 + (4 * ((s.1 96 6).tmod (s.1 96 1)))) + 3) (lf_w (1 - (s27.1 96 ((50 + (4 * ((s.1 96 6).tmod (s.1 96 1)))) + 3)))), s27.2.1, s27.2.2) rfl ?_
      refine lf_seg 1 (pc' := 136) (lv' := [(2, .int (Int32.ofInt ((s.1 96 6).tmod (s.1 96 1)))), (1, .int (Int32.ofInt (s.1 96 6))), (0, .ref 95)]) (st' := []) rfl ?_
      exact lf_retV rfl rfl h
  · have h := h.2.2 c
    refine lf_seg 3 (pc' := 92) (lv' := [(2, .int (Int32.ofInt ((s.1 96 6).tmod (s.1 96 1)))), (1, .int (Int32.ofInt (s.1 96 6))), (0, .ref 95)]) (st' := [.int (Int32.ofInt 2), .ref 96]) rfl ?_
    refine lf_iald 93 1538 rfl rfl rfl rfl rfl rfl ⟨by decide, by decide⟩ ?_
    obtain ⟨o30, h⟩ := h
    refine lf_if_le 136 96 rfl rfl rfl o30 (fun c => ?_) (fun c => ?_)
    · have h := h.1 c
      exact lf_retV rfl rfl h
    · have h := h.2 c
      refine lf_seg 5 (pc' := 103) (lv' := [(2, .int (Int32.ofInt ((s.1 96 6).tmod (s.1 96 1)))), (1, .int (Int32.ofInt (s.1 96 6))), (0, .ref 95)]) (st' := [.int (Int32.ofInt 2), .ref 96, .int (Int32.ofInt (s.1 96 6)), .ref 95]) rfl ?_
      refine lf_iald 104 1538 rfl rfl rfl rfl rfl rfl ⟨by decide, by decide⟩ ?_
      obtain ⟨o31, h⟩ := h
      refine lf_irem 105 rfl rfl o21 o30 o31 ?_
      refine lf_seg 5 (pc' := 112) (lv' := [(2, .int (Int32.ofInt ((s.1 96 6).tmod (s.1 96 1)))), (1, .int (Int32.ofInt (s.1 96 6))), (0, .ref 95)]) (st' := [.int (Int32.ofInt 0), .ref 96, .int (Int32.ofInt (s.1 96 6)), .int (Int32.ofInt 4), .int (Int32.ofInt ((s.1 96 6).tmod (s.1 96 2))), .ref 95]) rfl ?_
      refine lf_iald 113 1538 rfl rfl rfl rfl rfl rfl ⟨by decide, by decide⟩ ?_
      obtain ⟨o32, h⟩ := h
      obtain ⟨o33, h⟩ := h
      refine lf_irem 114 rfl rfl o21 o32 o33 ?_
      refine lf_callV 117 rfl rfl rfl rfl (gm_191e h) (fun s34 h => ?_)
      refine lf_seg 1 (pc' := 136) (lv' := [(2, .int (Int32.ofInt ((s.1 96 6).tmod (s.1 96 1)))), (1, .int (Int32.ofInt (s.1 96 6))), (0, .ref 95)]) (st' := []) rfl ?_
      exact lf_retV rfl rfl h
-- fm_282 Model.day 95 i i
def fm_282_p51 (Q : Int → lf_Z → Prop) (x2 : Int) (X51 : Int → lf_Z → Prop) (x3 : Int) (s : lf_Z) : Prop := lf_R x3 ∧ (lf_R x2 ∧ ((x2 ≤ x3 → (fm_279 (fun r30 s29 => (Q r30 s29)) s)) ∧ (¬ (x2 ≤ x3) → (fm_283 (fun s31 => (fm_276 (fun s32 => (X51 (x3 + 1) s32)) s31)) s))))
def fm_282_p51L (Q : Int → lf_Z → Prop) (x2 : Int) (x3 : Int) (s : lf_Z) : Prop := ∀ X51 : Int → lf_Z → Prop, (∀ (x3 : Int) (s : lf_Z), fm_282_p51 Q x2 X51 x3 s → X51 x3 s) → X51 x3 s
set_option maxRecDepth 100000 in
theorem gm_282_p51 {L : Nat} {xs : Nat → Int32} {d : Nat} {Q : Int → lf_Z → Prop} {x2 : Int} {x3 : Int} {s : lf_Z} {X51 : Int → lf_Z → Prop} (hX51 : ∀ x3 s, X51 x3 s → lf_E (px_ro L xs) (d + 9) 282 51 [(0, .ref 95), (2, .int (Int32.ofInt x2)), (3, .int (Int32.ofInt x3))] [] s (lf_qi Q)) (h : fm_282_p51 Q x2 X51 x3 s) : lf_E (px_ro L xs) (d + 9) 282 51 [(0, .ref 95), (2, .int (Int32.ofInt x2)), (3, .int (Int32.ofInt x3))] [] s (lf_qi Q) := by
  unfold fm_282_p51 at h
  refine lf_seg 2 (pc' := 53) (lv' := [(0, .ref 95), (2, .int (Int32.ofInt x2)), (3, .int (Int32.ofInt x3))]) (st' := [.int (Int32.ofInt x2), .int (Int32.ofInt x3)]) rfl ?_
  obtain ⟨o27, h⟩ := h
  obtain ⟨o28, h⟩ := h
  refine lf_icmp_ge 70 56 rfl rfl rfl o27 o28 (fun c => ?_) (fun c => ?_)
  · have h := h.1 c
    refine lf_seg 1 (pc' := 71) (lv' := [(0, .ref 95), (2, .int (Int32.ofInt x2)), (3, .int (Int32.ofInt x3))]) (st' := [.ref 95]) rfl ?_
    refine lf_callI 74 rfl rfl rfl rfl (gm_279 h) (fun r30 s29 h => ?_)
    exact lf_retI rfl rfl h
  · have h := h.2 c
    refine lf_seg 1 (pc' := 57) (lv' := [(0, .ref 95), (2, .int (Int32.ofInt x2)), (3, .int (Int32.ofInt x3))]) (st' := [.ref 95]) rfl ?_
    refine lf_callV 60 rfl rfl rfl rfl (gm_283 h) (fun s31 h => ?_)
    refine lf_seg 1 (pc' := 61) (lv' := [(0, .ref 95), (2, .int (Int32.ofInt x2)), (3, .int (Int32.ofInt x3))]) (st' := [.ref 95]) rfl ?_
    refine lf_callV 64 rfl rfl rfl rfl (gm_276 h) (fun s32 h => ?_)
    refine lf_iinc 67 rfl rfl rfl rfl ?_
    refine lf_seg 1 (pc' := 51) (lv' := [(3, .int (Int32.ofInt (x3 + 1))), (0, .ref 95), (2, .int (Int32.ofInt x2))]) (st' := []) rfl ?_
    refine lf_sub (l := [(0, .ref 95), (2, .int (Int32.ofInt x2)), (3, .int (Int32.ofInt (x3 + 1)))]) (lf_sb1 rfl (lf_sb1 rfl (lf_sb1 rfl lf_sb0))) ?_
    exact hX51 _ _ h
theorem gm_282_p51L {L : Nat} {xs : Nat → Int32} {d : Nat} {Q : Int → lf_Z → Prop} {x2 : Int} {x3 : Int} {s : lf_Z} (h : fm_282_p51L Q x2 x3 s) : lf_E (px_ro L xs) (d + 9) 282 51 [(0, .ref 95), (2, .int (Int32.ofInt x2)), (3, .int (Int32.ofInt x3))] [] s (lf_qi Q) :=
  h (fun x3 s => lf_E (px_ro L xs) (d + 9) 282 51 [(0, .ref 95), (2, .int (Int32.ofInt x2)), (3, .int (Int32.ofInt x3))] [] s (lf_qi Q)) (fun x3 s hb => gm_282_p51 (fun _ _ h => h) hb)
def fm_282 (a1 : Int) (a2 : Int) (Q : Int → lf_Z → Prop) (s : lf_Z) : Prop := fm_183 a1 0 9999 (fun z22 s21 => ((z22 = false → (Q (-1) s21)) ∧ (z22 = true → (fm_183 a2 1 30 (fun z24 s23 => ((z24 = false → (Q (-1) s23)) ∧ (z24 = true → (lf_R (s23.1 96 1) ∧ ((s23.1 96 1 ≠ 0 → (fm_244 (fun s26 => (fm_282_p51L Q a2 0 (lf_up s26.1 96 6 ((a1 * 3) + 41), s26.2.1, s26.2.2))) s23)) ∧ (¬ (s23.1 96 1 ≠ 0) → (Q (-1) s23))))))) s21)))) s
set_option maxRecDepth 100000 in
theorem gm_282 {L : Nat} {xs : Nat → Int32} {d : Nat} {a1 : Int} {a2 : Int} {Q : Int → lf_Z → Prop} {s : lf_Z} (h : fm_282 a1 a2 Q s) : lf_M (px_ro L xs) (d + 9) 282 [.ref 95, .int (Int32.ofInt a1), .int (Int32.ofInt a2)] s (lf_qi Q) := by
  unfold fm_282 at h
  show lf_E (px_ro L xs) (d + 9) 282 0 [(0, .ref 95), (1, .int (Int32.ofInt a1)), (2, .int (Int32.ofInt a2))] [] s _
  refine lf_seg 2 (pc' := 2) (lv' := [(0, .ref 95), (1, .int (Int32.ofInt a1)), (2, .int (Int32.ofInt a2))]) (st' := [.int (Int32.ofInt 0), .int (Int32.ofInt a1)]) rfl ?_
  refine lf_sipush 5 9999 rfl rfl (by decide) (by decide) ?_
  refine lf_callZ 8 rfl rfl rfl rfl (gm_183 h) (fun z22 s21 h => ?_)
  refine lf_ifz_eq 30 11 rfl rfl rfl (fun c => ?_) (fun c => ?_)
  · have h := h.1 c
    refine lf_seg 1 (pc' := 31) (lv' := [(0, .ref 95), (1, .int (Int32.ofInt a1)), (2, .int (Int32.ofInt a2))]) (st' := [.int (Int32.ofInt (-1))]) rfl ?_
    exact lf_retI rfl rfl h
  · have h := h.2 c
    refine lf_seg 2 (pc' := 13) (lv' := [(0, .ref 95), (1, .int (Int32.ofInt a1)), (2, .int (Int32.ofInt a2))]) (st' := [.int (Int32.ofInt 1), .int (Int32.ofInt a2)]) rfl ?_
    refine lf_bipush 15 30 rfl rfl (by decide) (by decide) ?_
    refine lf_callZ 18 rfl rfl rfl rfl (gm_183 h) (fun z24 s23 h => ?_)
    refine lf_ifz_eq 30 21 rfl rfl rfl (fun c => ?_) (fun c => ?_)
    · have h := h.1 c
      refine lf_seg 1 (pc' := 31) (lv' := [(0, .ref 95), (1, .int (Int32.ofInt a1)), (2, .int (Int32.ofInt a2))]) (st' := [.int (Int32.ofInt (-1))]) rfl ?_
      exact lf_retI rfl rfl h
    · have h := h.2 c
      refine lf_seg 3 (pc' := 26) (lv' := [(0, .ref 95), (1, .int (Int32.ofInt a1)), (2, .int (Int32.ofInt a2))]) (st' := [.int (Int32.ofInt 1), .ref 96]) rfl ?_
      refine lf_iald 27 1538 rfl rfl rfl rfl rfl rfl ⟨by decide, by decide⟩ ?_
      obtain ⟨o25, h⟩ := h
      refine lf_if_ne 32 30 rfl rfl rfl o25 (fun c => ?_) (fun c => ?_)
      · have h := h.1 c
        refine lf_seg 1 (pc' := 33) (lv' := [(0, .ref 95), (1, .int (Int32.ofInt a1)), (2, .int (Int32.ofInt a2))]) (st' := [.ref 95]) rfl ?_
        refine lf_callV 36 rfl rfl rfl rfl (gm_244 h) (fun s26 h => ?_)
        refine lf_seg 2 (pc' := 40) (lv' := [(0, .ref 95), (1, .int (Int32.ofInt a1)), (2, .int (Int32.ofInt a2))]) (st' := [.ref 96]) rfl ?_
        refine lf_bipush 42 6 rfl rfl (by decide) (by decide) ?_
        refine lf_seg 2 (pc' := 44) (lv' := [(0, .ref 95), (1, .int (Int32.ofInt a1)), (2, .int (Int32.ofInt a2))]) (st' := [.int (Int32.ofInt 3), .int (Int32.ofInt a1), .int (Int32.ofInt 6), .ref 96]) rfl ?_
        refine lf_imul 45 rfl rfl ?_
        refine lf_bipush 47 41 rfl rfl (by decide) (by decide) ?_
        refine lf_iadd 48 rfl rfl ?_
        refine lf_iast 49 1538 rfl rfl rfl rfl rfl rfl ⟨by decide, by decide⟩ ?_
        refine lf_as (lf_up s26.1 96 6 ((a1 * 3) + 41), s26.2.1, s26.2.2) rfl ?_
        refine lf_seg 2 (pc' := 51) (lv' := [(3, .int (Int32.ofInt 0)), (0, .ref 95), (1, .int (Int32.ofInt a1)), (2, .int (Int32.ofInt a2))]) (st' := []) rfl ?_
        refine lf_sub (l := [(0, .ref 95), (2, .int (Int32.ofInt a2)), (3, .int (Int32.ofInt 0))]) (lf_sb1 rfl (lf_sb1 rfl (lf_sb1 rfl lf_sb0))) ?_
        exact gm_282_p51L h
      · have h := h.2 c
        refine lf_seg 1 (pc' := 31) (lv' := [(0, .ref 95), (1, .int (Int32.ofInt a1)), (2, .int (Int32.ofInt a2))]) (st' := [.int (Int32.ofInt (-1))]) rfl ?_
        exact lf_retI rfl rfl h
-- fm_109 Stand.readFrom 15 23 i
def fm_109_p42 (Q : lf_Z → Prop) (X42 : Int → Int → lf_Z → Prop) (x3 : Int) (x4 : Int) (s : lf_Z) : Prop := lf_R x4 ∧ ((6 ≤ x4 → (((0 : Int) ≤ x3 ∧ (0 : Int) ≤ 0 ∧ (0 : Int) ≤ 12 ∧ (x3 : Int) + 12 ≤ 1170 ∧ (0 : Int) + 12 ≤ 12) ∧ ((0 ≤ x3 + 12 ∧ x3 + 12 < 1170) ∧ ((0 ≤ (x3 + 12) + 1 ∧ (x3 + 12) + 1 < 1170) ∧ ((0 ≤ (x3 + 12) + 2 ∧ (x3 + 12) + 2 < 1170) ∧ (Q (lf_up (lf_up (lf_up (lf_cp s.1 23 21 x3 0 12) 15 6 ((lf_cp s.1 23 21 x3 0 12) 23 (x3 + 12))) 15 7 ((lf_cp s.1 23 21 x3 0 12) 23 ((x3 + 12) + 1))) 15 8 ((lf_cp s.1 23 21 x3 0 12) 23 ((x3 + 12) + 2)), s.2.1, s.2.2))))))) ∧ (¬ (6 ≤ x4) → ((0 ≤ x3 ∧ x3 < 1170) ∧ ((0 ≤ x4 ∧ x4 < 6) ∧ ((0 ≤ x3 + 1 ∧ x3 + 1 < 1170) ∧ (X42 (x3 + 2) (x4 + 1) (lf_up (lf_up s.1 19 x4 (s.1 23 x3)) 20 x4 (s.1 23 (x3 + 1)), s.2.1, s.2.2)))))))
def fm_109_p42L (Q : lf_Z → Prop) (x3 : Int) (x4 : Int) (s : lf_Z) : Prop := ∀ X42 : Int → Int → lf_Z → Prop, (∀ (x3 : Int) (x4 : Int) (s : lf_Z), fm_109_p42 Q X42 x3 x4 s → X42 x3 x4 s) → X42 x3 x4 s
set_option maxRecDepth 100000 in
theorem gm_109_p42 {L : Nat} {xs : Nat → Int32} {d : Nat} {Q : lf_Z → Prop} {x3 : Int} {x4 : Int} {s : lf_Z} {X42 : Int → Int → lf_Z → Prop} (hX42 : ∀ x3 x4 s, X42 x3 x4 s → lf_E (px_ro L xs) (d + 2) 109 42 [(0, .ref 15), (1, .ref 23), (3, .int (Int32.ofInt x3)), (4, .int (Int32.ofInt x4))] [] s (lf_qv Q)) (h : fm_109_p42 Q X42 x3 x4 s) : lf_E (px_ro L xs) (d + 2) 109 42 [(0, .ref 15), (1, .ref 23), (3, .int (Int32.ofInt x3)), (4, .int (Int32.ofInt x4))] [] s (lf_qv Q) := by
  unfold fm_109_p42 at h
  refine lf_seg 1 (pc' := 44) (lv' := [(0, .ref 15), (1, .ref 23), (3, .int (Int32.ofInt x3)), (4, .int (Int32.ofInt x4))]) (st' := [.int (Int32.ofInt x4)]) rfl ?_
  refine lf_bipush 46 6 rfl rfl (by decide) (by decide) ?_
  obtain ⟨o22, h⟩ := h
  refine lf_icmp_ge 80 49 rfl rfl rfl o22 ⟨by decide, by decide⟩ (fun c => ?_) (fun c => ?_)
  · have h := h.1 c
    refine lf_seg 5 (pc' := 87) (lv' := [(0, .ref 15), (1, .ref 23), (3, .int (Int32.ofInt x3)), (4, .int (Int32.ofInt x4))]) (st' := [.int (Int32.ofInt 0), .ref 21, .int (Int32.ofInt x3), .ref 23]) rfl ?_
    refine lf_bipush 89 12 rfl rfl (by decide) (by decide) ?_
    obtain ⟨o23, h⟩ := h
    refine lf_cpy 92 rfl rfl rfl rfl rfl rfl rfl rfl rfl rfl rfl rfl o23 ?_
    refine lf_as (lf_cp s.1 23 21 x3 0 12, s.2.1, s.2.2) rfl ?_
    refine lf_iinc 95 rfl rfl rfl rfl ?_
    refine lf_seg 3 (pc' := 98) (lv' := [(3, .int (Int32.ofInt (x3 + 12))), (0, .ref 15), (1, .ref 23), (4, .int (Int32.ofInt x4))]) (st' := [.int (Int32.ofInt (x3 + 12)), .ref 23, .ref 15]) rfl ?_
    obtain ⟨o24, h⟩ := h
    refine lf_iald 99 1170 rfl rfl rfl rfl rfl rfl o24 ?_
    refine lf_putI 102 6 rfl rfl rfl rfl rfl rfl rfl rfl ?_
    refine lf_as (lf_up (lf_cp s.1 23 21 x3 0 12) 15 6 ((lf_cp s.1 23 21 x3 0 12) 23 (x3 + 12)), s.2.1, s.2.2) rfl ?_
    refine lf_seg 4 (pc' := 106) (lv' := [(3, .int (Int32.ofInt (x3 + 12))), (0, .ref 15), (1, .ref 23), (4, .int (Int32.ofInt x4))]) (st' := [.int (Int32.ofInt 1), .int (Int32.ofInt (x3 + 12)), .ref 23, .ref 15]) rfl ?_
    refine lf_iadd 107 rfl rfl ?_
    obtain ⟨o25, h⟩ := h
    refine lf_iald 108 1170 rfl rfl rfl rfl rfl rfl o25 ?_
    refine lf_seg 0 (pc' := 108) (lv' := [(3, .int (Int32.ofInt (x3 + 12))), (0, .ref 15), (1, .ref 23), (4, .int (Int32.ofInt x4))]) (st' := [.int (Int32.ofInt ((lf_cp s.1 23 21 x3 0 12) 23 ((x3 + 12) + 1))), .ref 15]) rfl ?_
    refine lf_putI 111 7 rfl rfl rfl rfl rfl rfl rfl rfl ?_
    refine lf_as (lf_up (lf_up (lf_cp s.1 23 21 x3 0 12) 15 6 ((lf_cp s.1 23 21 x3 0 12) 23 (x3 + 12))) 15 7 ((lf_cp s.1 23 21 x3 0 12) 23 ((x3 + 12) + 1)), s.2.1, s.2.2) rfl ?_
    refine lf_seg 4 (pc' := 115) (lv' := [(3, .int (Int32.ofInt (x3 + 12))), (0, .ref 15), (1, .ref 23), (4, .int (Int32.ofInt x4))]) (st' := [.int (Int32.ofInt 2), .int (Int32.ofInt (x3 + 12)), .ref 23, .ref 15]) rfl ?_
    refine lf_iadd 116 rfl rfl ?_
    obtain ⟨o26, h⟩ := h
    refine lf_iald 117 1170 rfl rfl rfl rfl rfl rfl o26 ?_
    refine lf_seg 0 (pc' := 117) (lv' := [(3, .int (Int32.ofInt (x3 + 12))), (0, .ref 15), (1, .ref 23), (4, .int (Int32.ofInt x4))]) (st' := [.int (Int32.ofInt ((lf_cp s.1 23 21 x3 0 12) 23 ((x3 + 12) + 2))), .ref 15]) rfl ?_
    refine lf_putI 120 8 rfl rfl rfl rfl rfl rfl rfl rfl ?_
    refine lf_as (lf_up (lf_up (lf_up (lf_cp s.1 23 21 x3 0 12) 15 6 ((lf_cp s.1 23 21 x3 0 12) 23 (x3 + 12))) 15 7 ((lf_cp s.1 23 21 x3 0 12) 23 ((x3 + 12) + 1))) 15 8 ((lf_cp s.1 23 21 x3 0 12) 23 ((x3 + 12) + 2)), s.2.1, s.2.2) rfl ?_
    exact lf_retV rfl rfl h
  · have h := h.2 c
    refine lf_seg 5 (pc' := 57) (lv' := [(0, .ref 15), (1, .ref 23), (3, .int (Int32.ofInt x3)), (4, .int (Int32.ofInt x4))]) (st' := [.int (Int32.ofInt x3), .ref 23, .int (Int32.ofInt x4), .ref 19]) rfl ?_
    obtain ⟨o27, h⟩ := h
    refine lf_iald 58 1170 rfl rfl rfl rfl rfl rfl o27 ?_
    obtain ⟨o28, h⟩ := h
    refine lf_iast 59 6 rfl rfl rfl rfl rfl rfl o28 ?_
    refine lf_as (lf_up s.1 19 x4 (s.1 23 x3), s.2.1, s.2.2) rfl ?_
    refine lf_seg 6 (pc' := 68) (lv' := [(0, .ref 15), (1, .ref 23), (3, .int (Int32.ofInt x3)), (4, .int (Int32.ofInt x4))]) (st' := [.int (Int32.ofInt 1), .int (Int32.ofInt x3), .ref 23, .int (Int32.ofInt x4), .ref 20]) rfl ?_
    refine lf_iadd 69 rfl rfl ?_
    obtain ⟨o29, h⟩ := h
    refine lf_iald 70 1170 rfl rfl rfl rfl rfl rfl o29 ?_
    refine lf_seg 0 (pc' := 70) (lv' := [(0, .ref 15), (1, .ref 23), (3, .int (Int32.ofInt x3)), (4, .int (Int32.ofInt x4))]) (st' := [.int (Int32.ofInt (s.1 23 (x3 + 1))), .int (Int32.ofInt x4), .ref 20]) rfl ?_
    refine lf_iast 71 6 rfl rfl rfl rfl rfl rfl o28 ?_
    refine lf_as (lf_up (lf_up s.1 19 x4 (s.1 23 x3)) 20 x4 (s.1 23 (x3 + 1)), s.2.1, s.2.2) rfl ?_
    refine lf_iinc 74 rfl rfl rfl rfl ?_
    refine lf_seg 0 (pc' := 74) (lv' := [(4, .int (Int32.ofInt (x4 + 1))), (0, .ref 15), (1, .ref 23), (3, .int (Int32.ofInt x3))]) (st' := []) rfl ?_
    refine lf_iinc 77 rfl rfl rfl rfl ?_
    refine lf_seg 1 (pc' := 42) (lv' := [(3, .int (Int32.ofInt (x3 + 2))), (4, .int (Int32.ofInt (x4 + 1))), (0, .ref 15), (1, .ref 23)]) (st' := []) rfl ?_
    refine lf_sub (l := [(0, .ref 15), (1, .ref 23), (3, .int (Int32.ofInt (x3 + 2))), (4, .int (Int32.ofInt (x4 + 1)))]) (lf_sb1 rfl (lf_sb1 rfl (lf_sb1 rfl (lf_sb1 rfl lf_sb0)))) ?_
    exact hX42 _ _ _ h
theorem gm_109_p42L {L : Nat} {xs : Nat → Int32} {d : Nat} {Q : lf_Z → Prop} {x3 : Int} {x4 : Int} {s : lf_Z} (h : fm_109_p42L Q x3 x4 s) : lf_E (px_ro L xs) (d + 2) 109 42 [(0, .ref 15), (1, .ref 23), (3, .int (Int32.ofInt x3)), (4, .int (Int32.ofInt x4))] [] s (lf_qv Q) :=
  h (fun x3 x4 s => lf_E (px_ro L xs) (d + 2) 109 42 [(0, .ref 15), (1, .ref 23), (3, .int (Int32.ofInt x3)), (4, .int (Int32.ofInt x4))] [] s (lf_qv Q)) (fun x3 x4 s hb => gm_109_p42 (fun _ _ _ h => h) hb)
def fm_109_p5 (Q : lf_Z → Prop) (X5 : Int → Int → lf_Z → Prop) (x3 : Int) (x4 : Int) (s : lf_Z) : Prop := lf_R x4 ∧ ((4 ≤ x4 → (fm_109_p42L Q x3 0 s)) ∧ (¬ (4 ≤ x4) → ((0 ≤ x3 ∧ x3 < 1170) ∧ ((0 ≤ x3 + 1 ∧ x3 + 1 < 1170) ∧ ((0 ≤ x3 + 2 ∧ x3 + 2 < 1170) ∧ (fm_69 x4 (s.1 23 x3) (s.1 23 (x3 + 1)) (s.1 23 (x3 + 2)) (fun s33 => (X5 (x3 + 3) (x4 + 1) s33)) s))))))
def fm_109_p5L (Q : lf_Z → Prop) (x3 : Int) (x4 : Int) (s : lf_Z) : Prop := ∀ X5 : Int → Int → lf_Z → Prop, (∀ (x3 : Int) (x4 : Int) (s : lf_Z), fm_109_p5 Q X5 x3 x4 s → X5 x3 x4 s) → X5 x3 x4 s
set_option maxRecDepth 100000 in
theorem gm_109_p5 {L : Nat} {xs : Nat → Int32} {d : Nat} {Q : lf_Z → Prop} {x3 : Int} {x4 : Int} {s : lf_Z} {X5 : Int → Int → lf_Z → Prop} (hX5 : ∀ x3 x4 s, X5 x3 x4 s → lf_E (px_ro L xs) (d + 2) 109 5 [(0, .ref 15), (1, .ref 23), (3, .int (Int32.ofInt x3)), (4, .int (Int32.ofInt x4))] [] s (lf_qv Q)) (h : fm_109_p5 Q X5 x3 x4 s) : lf_E (px_ro L xs) (d + 2) 109 5 [(0, .ref 15), (1, .ref 23), (3, .int (Int32.ofInt x3)), (4, .int (Int32.ofInt x4))] [] s (lf_qv Q) := by
  unfold fm_109_p5 at h
  refine lf_seg 2 (pc' := 8) (lv' := [(0, .ref 15), (1, .ref 23), (3, .int (Int32.ofInt x3)), (4, .int (Int32.ofInt x4))]) (st' := [.int (Int32.ofInt 4), .int (Int32.ofInt x4)]) rfl ?_
  obtain ⟨o21, h⟩ := h
  refine lf_icmp_ge 39 11 rfl rfl rfl o21 ⟨by decide, by decide⟩ (fun c => ?_) (fun c => ?_)
  · have h := h.1 c
    refine lf_seg 2 (pc' := 42) (lv' := [(4, .int (Int32.ofInt 0)), (0, .ref 15), (1, .ref 23), (3, .int (Int32.ofInt x3))]) (st' := []) rfl ?_
    refine lf_sub (l := [(0, .ref 15), (1, .ref 23), (3, .int (Int32.ofInt x3)), (4, .int (Int32.ofInt 0))]) (lf_sb1 rfl (lf_sb1 rfl (lf_sb1 rfl (lf_sb1 rfl lf_sb0)))) ?_
    exact gm_109_p42L h
  · have h := h.2 c
    refine lf_seg 4 (pc' := 16) (lv' := [(0, .ref 15), (1, .ref 23), (3, .int (Int32.ofInt x3)), (4, .int (Int32.ofInt x4))]) (st' := [.int (Int32.ofInt x3), .ref 23, .int (Int32.ofInt x4), .ref 15]) rfl ?_
    obtain ⟨o30, h⟩ := h
    refine lf_iald 17 1170 rfl rfl rfl rfl rfl rfl o30 ?_
    refine lf_seg 3 (pc' := 20) (lv' := [(0, .ref 15), (1, .ref 23), (3, .int (Int32.ofInt x3)), (4, .int (Int32.ofInt x4))]) (st' := [.int (Int32.ofInt 1), .int (Int32.ofInt x3), .ref 23, .int (Int32.ofInt (s.1 23 x3)), .int (Int32.ofInt x4), .ref 15]) rfl ?_
    refine lf_iadd 21 rfl rfl ?_
    obtain ⟨o31, h⟩ := h
    refine lf_iald 22 1170 rfl rfl rfl rfl rfl rfl o31 ?_
    refine lf_seg 3 (pc' := 25) (lv' := [(0, .ref 15), (1, .ref 23), (3, .int (Int32.ofInt x3)), (4, .int (Int32.ofInt x4))]) (st' := [.int (Int32.ofInt 2), .int (Int32.ofInt x3), .ref 23, .int (Int32.ofInt (s.1 23 (x3 + 1))), .int (Int32.ofInt (s.1 23 x3)), .int (Int32.ofInt x4), .ref 15]) rfl ?_
    refine lf_iadd 26 rfl rfl ?_
    obtain ⟨o32, h⟩ := h
    refine lf_iald 27 1170 rfl rfl rfl rfl rfl rfl o32 ?_
    refine lf_callV 30 rfl rfl rfl rfl (gm_69 h) (fun s33 h => ?_)
    refine lf_iinc 33 rfl rfl rfl rfl ?_
    refine lf_seg 0 (pc' := 33) (lv' := [(4, .int (Int32.ofInt (x4 + 1))), (0, .ref 15), (1, .ref 23), (3, .int (Int32.ofInt x3))]) (st' := []) rfl ?_
    refine lf_iinc 36 rfl rfl rfl rfl ?_
    refine lf_seg 1 (pc' := 5) (lv' := [(3, .int (Int32.ofInt (x3 + 3))), (4, .int (Int32.ofInt (x4 + 1))), (0, .ref 15), (1, .ref 23)]) (st' := []) rfl ?_
    refine lf_sub (l := [(0, .ref 15), (1, .ref 23), (3, .int (Int32.ofInt (x3 + 3))), (4, .int (Int32.ofInt (x4 + 1)))]) (lf_sb1 rfl (lf_sb1 rfl (lf_sb1 rfl (lf_sb1 rfl lf_sb0)))) ?_
    exact hX5 _ _ _ h
theorem gm_109_p5L {L : Nat} {xs : Nat → Int32} {d : Nat} {Q : lf_Z → Prop} {x3 : Int} {x4 : Int} {s : lf_Z} (h : fm_109_p5L Q x3 x4 s) : lf_E (px_ro L xs) (d + 2) 109 5 [(0, .ref 15), (1, .ref 23), (3, .int (Int32.ofInt x3)), (4, .int (Int32.ofInt x4))] [] s (lf_qv Q) :=
  h (fun x3 x4 s => lf_E (px_ro L xs) (d + 2) 109 5 [(0, .ref 15), (1, .ref 23), (3, .int (Int32.ofInt x3)), (4, .int (Int32.ofInt x4))] [] s (lf_qv Q)) (fun x3 x4 s hb => gm_109_p5 (fun _ _ _ h => h) hb)
def fm_109 (a2 : Int) (Q : lf_Z → Prop) (s : lf_Z) : Prop := fm_109_p5L Q a2 0 s
set_option maxRecDepth 100000 in
theorem gm_109 {L : Nat} {xs : Nat → Int32} {d : Nat} {a2 : Int} {Q : lf_Z → Prop} {s : lf_Z} (h : fm_109 a2 Q s) : lf_M (px_ro L xs) (d + 2) 109 [.ref 15, .ref 23, .int (Int32.ofInt a2)] s (lf_qv Q) := by
  unfold fm_109 at h
  show lf_E (px_ro L xs) (d + 2) 109 0 [(0, .ref 15), (1, .ref 23), (2, .int (Int32.ofInt a2))] [] s _
  refine lf_seg 4 (pc' := 5) (lv' := [(4, .int (Int32.ofInt 0)), (3, .int (Int32.ofInt a2)), (0, .ref 15), (1, .ref 23), (2, .int (Int32.ofInt a2))]) (st' := []) rfl ?_
  refine lf_sub (l := [(0, .ref 15), (1, .ref 23), (3, .int (Int32.ofInt a2)), (4, .int (Int32.ofInt 0))]) (lf_sb1 rfl (lf_sb1 rfl (lf_sb1 rfl (lf_sb1 rfl lf_sb0)))) ?_
  exact gm_109_p5L h
-- fm_108 Steps.takeBack 22 15 1
def fm_108_p34 (Q : Bool → lf_Z → Prop) (X34 : Int → lf_Z → Prop) (x3 : Int) (s : lf_Z) : Prop := lf_R x3 ∧ (lf_R (s.1 1 2) ∧ ((s.1 1 2 ≤ x3 → (lf_R (((s.1 22 2) + 30) - 1) ∧ (Q true (lf_up (lf_up s.1 22 2 ((((s.1 22 2) + 30) - 1).tmod 30)) 22 3 ((s.1 22 3) - 1), s.2.1, s.2.2)))) ∧ (¬ (s.1 1 2 ≤ x3) → ((0 ≤ x3 ∧ x3 < 6) ∧ (X34 (x3 + 1) (lf_up (lf_up s.1 19 x3 (s.1 10 x3)) 20 x3 (-1), s.2.1, s.2.2))))))
def fm_108_p34L (Q : Bool → lf_Z → Prop) (x3 : Int) (s : lf_Z) : Prop := ∀ X34 : Int → lf_Z → Prop, (∀ (x3 : Int) (s : lf_Z), fm_108_p34 Q X34 x3 s → X34 x3 s) → X34 x3 s
set_option maxRecDepth 100000 in
theorem gm_108_p34 {L : Nat} {xs : Nat → Int32} {d : Nat} {Q : Bool → lf_Z → Prop} {x3 : Int} {s : lf_Z} {X34 : Int → lf_Z → Prop} (hX34 : ∀ x3 s, X34 x3 s → lf_E (px_ro L xs) (d + 3) 108 34 [(0, .ref 22), (1, .ref 15), (2, .ref 1), (3, .int (Int32.ofInt x3))] [] s (lf_qz Q)) (h : fm_108_p34 Q X34 x3 s) : lf_E (px_ro L xs) (d + 3) 108 34 [(0, .ref 22), (1, .ref 15), (2, .ref 1), (3, .int (Int32.ofInt x3))] [] s (lf_qz Q) := by
  unfold fm_108_p34 at h
  refine lf_seg 2 (pc' := 36) (lv' := [(0, .ref 22), (1, .ref 15), (2, .ref 1), (3, .int (Int32.ofInt x3))]) (st' := [.ref 1, .int (Int32.ofInt x3)]) rfl ?_
  refine lf_getI 39 2 rfl rfl rfl rfl rfl rfl rfl ?_
  obtain ⟨o24, h⟩ := h
  obtain ⟨o25, h⟩ := h
  refine lf_icmp_ge 67 42 rfl rfl rfl o24 o25 (fun c => ?_) (fun c => ?_)
  · have h := h.1 c
    refine lf_seg 2 (pc' := 69) (lv' := [(0, .ref 22), (1, .ref 15), (2, .ref 1), (3, .int (Int32.ofInt x3))]) (st' := [.ref 22, .ref 22]) rfl ?_
    refine lf_getI 72 2 rfl rfl rfl rfl rfl rfl rfl ?_
    refine lf_bipush 74 30 rfl rfl (by decide) (by decide) ?_
    refine lf_iadd 75 rfl rfl ?_
    refine lf_seg 1 (pc' := 76) (lv' := [(0, .ref 22), (1, .ref 15), (2, .ref 1), (3, .int (Int32.ofInt x3))]) (st' := [.int (Int32.ofInt 1), .int (Int32.ofInt ((s.1 22 2) + 30)), .ref 22]) rfl ?_
    refine lf_isub 77 rfl rfl ?_
    refine lf_bipush 79 30 rfl rfl (by decide) (by decide) ?_
    obtain ⟨o26, h⟩ := h
    refine lf_irem 80 rfl rfl o26 ⟨by decide, by decide⟩ (by decide) ?_
    refine lf_putI 83 2 rfl rfl rfl rfl rfl rfl rfl rfl ?_
    refine lf_as (lf_up s.1 22 2 ((((s.1 22 2) + 30) - 1).tmod 30), s.2.1, s.2.2) rfl ?_
    refine lf_seg 2 (pc' := 85) (lv' := [(0, .ref 22), (1, .ref 15), (2, .ref 1), (3, .int (Int32.ofInt x3))]) (st' := [.ref 22, .ref 22]) rfl ?_
    refine lf_getI 88 3 rfl rfl rfl rfl rfl rfl rfl ?_
    refine lf_seg 1 (pc' := 89) (lv' := [(0, .ref 22), (1, .ref 15), (2, .ref 1), (3, .int (Int32.ofInt x3))]) (st' := [.int (Int32.ofInt 1), .int (Int32.ofInt (s.1 22 3)), .ref 22]) rfl ?_
    refine lf_isub 90 rfl rfl ?_
    refine lf_putI 93 3 rfl rfl rfl rfl rfl rfl rfl rfl ?_
    refine lf_as (lf_up (lf_up s.1 22 2 ((((s.1 22 2) + 30) - 1).tmod 30)) 22 3 ((s.1 22 3) - 1), s.2.1, s.2.2) rfl ?_
    refine lf_seg 1 (pc' := 94) (lv' := [(0, .ref 22), (1, .ref 15), (2, .ref 1), (3, .int (Int32.ofInt x3))]) (st' := [.int (Int32.ofInt 1)]) rfl ?_
    exact lf_retZ true rfl rfl h
  · have h := h.2 c
    refine lf_seg 6 (pc' := 52) (lv' := [(0, .ref 22), (1, .ref 15), (2, .ref 1), (3, .int (Int32.ofInt x3))]) (st' := [.int (Int32.ofInt x3), .ref 10, .int (Int32.ofInt x3), .ref 19]) rfl ?_
    obtain ⟨o27, h⟩ := h
    refine lf_iald 53 6 rfl rfl rfl rfl rfl rfl o27 ?_
    refine lf_iast 54 6 rfl rfl rfl rfl rfl rfl o27 ?_
    refine lf_as (lf_up s.1 19 x3 (s.1 10 x3), s.2.1, s.2.2) rfl ?_
    refine lf_seg 4 (pc' := 60) (lv' := [(0, .ref 22), (1, .ref 15), (2, .ref 1), (3, .int (Int32.ofInt x3))]) (st' := [.int (Int32.ofInt (-1)), .int (Int32.ofInt x3), .ref 20]) rfl ?_
    refine lf_iast 61 6 rfl rfl rfl rfl rfl rfl o27 ?_
    refine lf_as (lf_up (lf_up s.1 19 x3 (s.1 10 x3)) 20 x3 (-1), s.2.1, s.2.2) rfl ?_
    refine lf_iinc 64 rfl rfl rfl rfl ?_
    refine lf_seg 1 (pc' := 34) (lv' := [(3, .int (Int32.ofInt (x3 + 1))), (0, .ref 22), (1, .ref 15), (2, .ref 1)]) (st' := []) rfl ?_
    refine lf_sub (l := [(0, .ref 22), (1, .ref 15), (2, .ref 1), (3, .int (Int32.ofInt (x3 + 1)))]) (lf_sb1 rfl (lf_sb1 rfl (lf_sb1 rfl (lf_sb1 rfl lf_sb0)))) ?_
    exact hX34 _ _ h
theorem gm_108_p34L {L : Nat} {xs : Nat → Int32} {d : Nat} {Q : Bool → lf_Z → Prop} {x3 : Int} {s : lf_Z} (h : fm_108_p34L Q x3 s) : lf_E (px_ro L xs) (d + 3) 108 34 [(0, .ref 22), (1, .ref 15), (2, .ref 1), (3, .int (Int32.ofInt x3))] [] s (lf_qz Q) :=
  h (fun x3 s => lf_E (px_ro L xs) (d + 3) 108 34 [(0, .ref 22), (1, .ref 15), (2, .ref 1), (3, .int (Int32.ofInt x3))] [] s (lf_qz Q)) (fun x3 s hb => gm_108_p34 (fun _ _ h => h) hb)
def fm_108 (Q : Bool → lf_Z → Prop) (s : lf_Z) : Prop := lf_R (s.1 22 3) ∧ ((s.1 22 3 ≠ 0 → (fm_109 ((s.1 22 2) * 39) (fun s22 => ((0 ≤ s22.1 22 2 ∧ s22.1 22 2 < 30) ∧ (fm_108_p34L Q (s22.1 24 (s22.1 22 2)) s22))) s)) ∧ (¬ (s.1 22 3 ≠ 0) → (Q false s)))
set_option maxRecDepth 100000 in
theorem gm_108 {L : Nat} {xs : Nat → Int32} {d : Nat} {Q : Bool → lf_Z → Prop} {s : lf_Z} (h : fm_108 Q s) : lf_M (px_ro L xs) (d + 3) 108 [.ref 22, .ref 15, .ref 1] s (lf_qz Q) := by
  unfold fm_108 at h
  show lf_E (px_ro L xs) (d + 3) 108 0 [(0, .ref 22), (1, .ref 15), (2, .ref 1)] [] s _
  refine lf_seg 1 (pc' := 1) (lv' := [(0, .ref 22), (1, .ref 15), (2, .ref 1)]) (st' := [.ref 22]) rfl ?_
  refine lf_getI 4 3 rfl rfl rfl rfl rfl rfl rfl ?_
  obtain ⟨o21, h⟩ := h
  refine lf_if_ne 9 7 rfl rfl rfl o21 (fun c => ?_) (fun c => ?_)
  · have h := h.1 c
    refine lf_seg 4 (pc' := 15) (lv' := [(0, .ref 22), (1, .ref 15), (2, .ref 1)]) (st' := [.ref 22, .ref 23, .ref 15]) rfl ?_
    refine lf_getI 18 2 rfl rfl rfl rfl rfl rfl rfl ?_
    refine lf_bipush 20 39 rfl rfl (by decide) (by decide) ?_
    refine lf_imul 21 rfl rfl ?_
    refine lf_callV 24 rfl rfl rfl rfl (gm_109 h) (fun s22 h => ?_)
    refine lf_seg 3 (pc' := 29) (lv' := [(0, .ref 22), (1, .ref 15), (2, .ref 1)]) (st' := [.ref 22, .ref 24]) rfl ?_
    refine lf_getI 32 2 rfl rfl rfl rfl rfl rfl rfl ?_
    obtain ⟨o23, h⟩ := h
    refine lf_iald 33 30 rfl rfl rfl rfl rfl rfl o23 ?_
    refine lf_seg 1 (pc' := 34) (lv' := [(3, .int (Int32.ofInt (s22.1 24 (s22.1 22 2)))), (0, .ref 22), (1, .ref 15), (2, .ref 1)]) (st' := []) rfl ?_
    refine lf_sub (l := [(0, .ref 22), (1, .ref 15), (2, .ref 1), (3, .int (Int32.ofInt (s22.1 24 (s22.1 22 2))))]) (lf_sb1 rfl (lf_sb1 rfl (lf_sb1 rfl (lf_sb1 rfl lf_sb0)))) ?_
    exact gm_108_p34L h
  · have h := h.2 c
    refine lf_seg 1 (pc' := 8) (lv' := [(0, .ref 22), (1, .ref 15), (2, .ref 1)]) (st' := [.int (Int32.ofInt 0)]) rfl ?_
    exact lf_retZ false rfl rfl h
-- fm_107 ElevenBullocks.undo 0
def fm_107 (Q : Int → lf_Z → Prop) (s : lf_Z) : Prop := fm_108 (fun z22 s21 => ((z22 = true → (Q (s21.1 22 3) s21)) ∧ (z22 = false → (Q (-1) s21)))) s
set_option maxRecDepth 100000 in
theorem gm_107 {L : Nat} {xs : Nat → Int32} {d : Nat} {Q : Int → lf_Z → Prop} {s : lf_Z} (h : fm_107 Q s) : lf_M (px_ro L xs) (d + 4) 107 [.ref 0] s (lf_qi Q) := by
  unfold fm_107 at h
  show lf_E (px_ro L xs) (d + 4) 107 0 [(0, .ref 0)] [] s _
  refine lf_seg 6 (pc' := 12) (lv' := [(0, .ref 0)]) (st' := [.ref 1, .ref 15, .ref 22]) rfl ?_
  refine lf_callZ 15 rfl rfl rfl rfl (gm_108 h) (fun z22 s21 h => ?_)
  refine lf_ifz_ne 20 18 rfl rfl rfl (fun c => ?_) (fun c => ?_)
  · have h := h.1 c
    refine lf_seg 2 (pc' := 24) (lv' := [(0, .ref 0)]) (st' := [.ref 22]) rfl ?_
    refine lf_getI 27 3 rfl rfl rfl rfl rfl rfl rfl ?_
    exact lf_retI rfl rfl h
  · have h := h.2 c
    refine lf_seg 1 (pc' := 19) (lv' := [(0, .ref 0)]) (st' := [.int (Int32.ofInt (-1))]) rfl ?_
    exact lf_retI rfl rfl h
-- fm_239e Model.get 95 i 5
def fm_239e (a1 : Int) (Q : Int → lf_Z → Prop) (s : lf_Z) : Prop := (0 ≤ (126 + (6 * a1)) + 5 ∧ (126 + (6 * a1)) + 5 < 1538) ∧ (Q (s.1 96 ((126 + (6 * a1)) + 5)) s)
set_option maxRecDepth 100000 in
theorem gm_239e {L : Nat} {xs : Nat → Int32} {d : Nat} {a1 : Int} {Q : Int → lf_Z → Prop} {s : lf_Z} (h : fm_239e a1 Q s) : lf_M (px_ro L xs) (d + 1) 239 [.ref 95, .int (Int32.ofInt a1), .int (Int32.ofInt 5)] s (lf_qi Q) := by
  unfold fm_239e at h
  show lf_E (px_ro L xs) (d + 1) 239 0 [(0, .ref 95), (1, .int (Int32.ofInt a1)), (2, .int (Int32.ofInt 5))] [] s _
  refine lf_seg 2 (pc' := 4) (lv' := [(0, .ref 95), (1, .int (Int32.ofInt a1)), (2, .int (Int32.ofInt 5))]) (st' := [.ref 96]) rfl ?_
  refine lf_bipush 6 126 rfl rfl (by decide) (by decide) ?_
  refine lf_bipush 8 6 rfl rfl (by decide) (by decide) ?_
  refine lf_seg 1 (pc' := 9) (lv' := [(0, .ref 95), (1, .int (Int32.ofInt a1)), (2, .int (Int32.ofInt 5))]) (st' := [.int (Int32.ofInt a1), .int (Int32.ofInt 6), .int (Int32.ofInt 126), .ref 96]) rfl ?_
  refine lf_imul 10 rfl rfl ?_
  refine lf_iadd 11 rfl rfl ?_
  refine lf_seg 1 (pc' := 12) (lv' := [(0, .ref 95), (1, .int (Int32.ofInt a1)), (2, .int (Int32.ofInt 5))]) (st' := [.int (Int32.ofInt 5), .int (Int32.ofInt (126 + (6 * a1))), .ref 96]) rfl ?_
  refine lf_iadd 13 rfl rfl ?_
  obtain ⟨o21, h⟩ := h
  refine lf_iald 14 1538 rfl rfl rfl rfl rfl rfl o21 ?_
  exact lf_retI rfl rfl h
-- fm_238 Model.undo 95
def fm_238_p254 (Q : Int → lf_Z → Prop) (x1 : Int) (X254 : Int → lf_Z → Prop) (x2 : Int) (s : lf_Z) : Prop := lf_R x2 ∧ (lf_R (s.1 96 0) ∧ ((s.1 96 0 ≤ x2 → (Q (s.1 96 9) s)) ∧ (¬ (s.1 96 0 ≤ x2) → ((0 ≤ (x1 + 29) + x2 ∧ (x1 + 29) + x2 < 1538) ∧ ((0 ≤ (14 + (3 * x2)) + 2 ∧ (14 + (3 * x2)) + 2 < 1538) ∧ (X254 (x2 + 1) (lf_up s.1 96 ((14 + (3 * x2)) + 2) (s.1 96 ((x1 + 29) + x2)), s.2.1, s.2.2)))))))
def fm_238_p254L (Q : Int → lf_Z → Prop) (x1 : Int) (x2 : Int) (s : lf_Z) : Prop := ∀ X254 : Int → lf_Z → Prop, (∀ (x2 : Int) (s : lf_Z), fm_238_p254 Q x1 X254 x2 s → X254 x2 s) → X254 x2 s
set_option maxRecDepth 100000 in
theorem gm_238_p254 {L : Nat} {xs : Nat → Int32} {d : Nat} {Q : Int → lf_Z → Prop} {x1 : Int} {x2 : Int} {s : lf_Z} {X254 : Int → lf_Z → Prop} (hX254 : ∀ x2 s, X254 x2 s → lf_E (px_ro L xs) (d + 2) 238 254 [(0, .ref 95), (1, .int (Int32.ofInt x1)), (2, .int (Int32.ofInt x2))] [] s (lf_qi Q)) (h : fm_238_p254 Q x1 X254 x2 s) : lf_E (px_ro L xs) (d + 2) 238 254 [(0, .ref 95), (1, .int (Int32.ofInt x1)), (2, .int (Int32.ofInt x2))] [] s (lf_qi Q) := by
  unfold fm_238_p254 at h
  refine lf_seg 4 (pc' := 260) (lv' := [(0, .ref 95), (1, .int (Int32.ofInt x1)), (2, .int (Int32.ofInt x2))]) (st' := [.int (Int32.ofInt 0), .ref 96, .int (Int32.ofInt x2)]) rfl ?_
  refine lf_iald 261 1538 rfl rfl rfl rfl rfl rfl ⟨by decide, by decide⟩ ?_
  obtain ⟨o29, h⟩ := h
  obtain ⟨o30, h⟩ := h
  refine lf_icmp_ge 294 264 rfl rfl rfl o29 o30 (fun c => ?_) (fun c => ?_)
  · have h := h.1 c
    refine lf_seg 2 (pc' := 298) (lv' := [(0, .ref 95), (1, .int (Int32.ofInt x1)), (2, .int (Int32.ofInt x2))]) (st' := [.ref 96]) rfl ?_
    refine lf_bipush 300 9 rfl rfl (by decide) (by decide) ?_
    refine lf_iald 301 1538 rfl rfl rfl rfl rfl rfl ⟨by decide, by decide⟩ ?_
    exact lf_retI rfl rfl h
  · have h := h.2 c
    refine lf_seg 2 (pc' := 268) (lv' := [(0, .ref 95), (1, .int (Int32.ofInt x1)), (2, .int (Int32.ofInt x2))]) (st' := [.ref 96]) rfl ?_
    refine lf_bipush 270 14 rfl rfl (by decide) (by decide) ?_
    refine lf_seg 2 (pc' := 272) (lv' := [(0, .ref 95), (1, .int (Int32.ofInt x1)), (2, .int (Int32.ofInt x2))]) (st' := [.int (Int32.ofInt x2), .int (Int32.ofInt 3), .int (Int32.ofInt 14), .ref 96]) rfl ?_
    refine lf_imul 273 rfl rfl ?_
    refine lf_iadd 274 rfl rfl ?_
    refine lf_seg 1 (pc' := 275) (lv' := [(0, .ref 95), (1, .int (Int32.ofInt x1)), (2, .int (Int32.ofInt x2))]) (st' := [.int (Int32.ofInt 2), .int (Int32.ofInt (14 + (3 * x2))), .ref 96]) rfl ?_
    refine lf_iadd 276 rfl rfl ?_
    refine lf_seg 3 (pc' := 281) (lv' := [(0, .ref 95), (1, .int (Int32.ofInt x1)), (2, .int (Int32.ofInt x2))]) (st' := [.int (Int32.ofInt x1), .ref 96, .int (Int32.ofInt ((14 + (3 * x2)) + 2)), .ref 96]) rfl ?_
    refine lf_bipush 283 29 rfl rfl (by decide) (by decide) ?_
    refine lf_iadd 284 rfl rfl ?_
    refine lf_seg 1 (pc' := 285) (lv' := [(0, .ref 95), (1, .int (Int32.ofInt x1)), (2, .int (Int32.ofInt x2))]) (st' := [.int (Int32.ofInt x2), .int (Int32.ofInt (x1 + 29)), .ref 96, .int (Int32.ofInt ((14 + (3 * x2)) + 2)), .ref 96]) rfl ?_
    refine lf_iadd 286 rfl rfl ?_
    obtain ⟨o31, h⟩ := h
    refine lf_iald 287 1538 rfl rfl rfl rfl rfl rfl o31 ?_
    obtain ⟨o32, h⟩ := h
    refine lf_iast 288 1538 rfl rfl rfl rfl rfl rfl o32 ?_
    refine lf_as (lf_up s.1 96 ((14 + (3 * x2)) + 2) (s.1 96 ((x1 + 29) + x2)), s.2.1, s.2.2) rfl ?_
    refine lf_iinc 291 rfl rfl rfl rfl ?_
    refine lf_seg 1 (pc' := 254) (lv' := [(2, .int (Int32.ofInt (x2 + 1))), (0, .ref 95), (1, .int (Int32.ofInt x1))]) (st' := []) rfl ?_
    refine lf_sub (l := [(0, .ref 95), (1, .int (Int32.ofInt x1)), (2, .int (Int32.ofInt (x2 + 1)))]) (lf_sb1 rfl (lf_sb1 rfl (lf_sb1 rfl lf_sb0))) ?_
    exact hX254 _ _ h
theorem gm_238_p254L {L : Nat} {xs : Nat → Int32} {d : Nat} {Q : Int → lf_Z → Prop} {x1 : Int} {x2 : Int} {s : lf_Z} (h : fm_238_p254L Q x1 x2 s) : lf_E (px_ro L xs) (d + 2) 238 254 [(0, .ref 95), (1, .int (Int32.ofInt x1)), (2, .int (Int32.ofInt x2))] [] s (lf_qi Q) :=
  h (fun x2 s => lf_E (px_ro L xs) (d + 2) 238 254 [(0, .ref 95), (1, .int (Int32.ofInt x1)), (2, .int (Int32.ofInt x2))] [] s (lf_qi Q)) (fun x2 s hb => gm_238_p254 (fun _ _ h => h) hb)
def fm_238_p243 (X165 : Int → lf_Z → Prop) (Q : Int → lf_Z → Prop) (x1 : Int) (x2 : Int) (y1 : Int) (y3 : Int) (s : lf_Z) : Prop := fm_191e y1 y3 (fun s41 => (X165 (x2 + 1) s41)) s
set_option maxRecDepth 100000 in
theorem gm_238_p243 {L : Nat} {xs : Nat → Int32} {d : Nat} {X165 : Int → lf_Z → Prop} {Q : Int → lf_Z → Prop} {x1 : Int} {x2 : Int} {y1 : Int} {y3 : Int} {s : lf_Z} (hX165 : ∀ x2 s, X165 x2 s → lf_E (px_ro L xs) (d + 2) 238 165 [(0, .ref 95), (1, .int (Int32.ofInt x1)), (2, .int (Int32.ofInt x2))] [] s (lf_qi Q)) (h : fm_238_p243 X165 Q x1 x2 y1 y3 s) : lf_E (px_ro L xs) (d + 2) 238 243 [(0, .ref 95), (1, .int (Int32.ofInt x1)), (2, .int (Int32.ofInt x2))] [.int (Int32.ofInt y3), .int (Int32.ofInt 4), .int (Int32.ofInt y1), .ref 95] s (lf_qi Q) := by
  unfold fm_238_p243 at h
  refine lf_callV 246 rfl rfl rfl rfl (gm_191e h) (fun s41 h => ?_)
  refine lf_iinc 249 rfl rfl rfl rfl ?_
  refine lf_seg 1 (pc' := 165) (lv' := [(2, .int (Int32.ofInt (x2 + 1))), (0, .ref 95), (1, .int (Int32.ofInt x1))]) (st' := []) rfl ?_
  refine lf_sub (l := [(0, .ref 95), (1, .int (Int32.ofInt x1)), (2, .int (Int32.ofInt (x2 + 1)))]) (lf_sb1 rfl (lf_sb1 rfl (lf_sb1 rfl lf_sb0))) ?_
  exact hX165 _ _ h
def fm_238_p210 (X165 : Int → lf_Z → Prop) (Q : Int → lf_Z → Prop) (x1 : Int) (x2 : Int) (y1 : Int) (y3 : Int) (s : lf_Z) : Prop := fm_191d y1 y3 (fun s37 => ((0 ≤ x1 ∧ x1 < 1538) ∧ (lf_R x2 ∧ (lf_R (s37.1 96 x1) ∧ ((s37.1 96 x1 ≤ x2 → (fm_238_p243 X165 Q x1 x2 x2 (-1) s37)) ∧ (¬ (s37.1 96 x1 ≤ x2) → ((0 ≤ (x1 + 18) + (2 * x2) ∧ (x1 + 18) + (2 * x2) < 1538) ∧ (fm_238_p243 X165 Q x1 x2 x2 (s37.1 96 ((x1 + 18) + (2 * x2))) s37)))))))) s
set_option maxRecDepth 100000 in
theorem gm_238_p210 {L : Nat} {xs : Nat → Int32} {d : Nat} {X165 : Int → lf_Z → Prop} {Q : Int → lf_Z → Prop} {x1 : Int} {x2 : Int} {y1 : Int} {y3 : Int} {s : lf_Z} (hX165 : ∀ x2 s, X165 x2 s → lf_E (px_ro L xs) (d + 2) 238 165 [(0, .ref 95), (1, .int (Int32.ofInt x1)), (2, .int (Int32.ofInt x2))] [] s (lf_qi Q)) (h : fm_238_p210 X165 Q x1 x2 y1 y3 s) : lf_E (px_ro L xs) (d + 2) 238 210 [(0, .ref 95), (1, .int (Int32.ofInt x1)), (2, .int (Int32.ofInt x2))] [.int (Int32.ofInt y3), .int (Int32.ofInt 3), .int (Int32.ofInt y1), .ref 95] s (lf_qi Q) := by
  unfold fm_238_p210 at h
  refine lf_callV 213 rfl rfl rfl rfl (gm_191d h) (fun s37 h => ?_)
  refine lf_seg 6 (pc' := 221) (lv' := [(0, .ref 95), (1, .int (Int32.ofInt x1)), (2, .int (Int32.ofInt x2))]) (st' := [.ref 96, .int (Int32.ofInt x2), .int (Int32.ofInt 4), .int (Int32.ofInt x2), .ref 95]) rfl ?_
  refine lf_seg 1 (pc' := 222) (lv' := [(0, .ref 95), (1, .int (Int32.ofInt x1)), (2, .int (Int32.ofInt x2))]) (st' := [.int (Int32.ofInt x1), .ref 96, .int (Int32.ofInt x2), .int (Int32.ofInt 4), .int (Int32.ofInt x2), .ref 95]) rfl ?_
  obtain ⟨o38, h⟩ := h
  refine lf_iald 223 1538 rfl rfl rfl rfl rfl rfl o38 ?_
  obtain ⟨o39, h⟩ := h
  obtain ⟨o40, h⟩ := h
  refine lf_icmp_ge 242 226 rfl rfl rfl o39 o40 (fun c => ?_) (fun c => ?_)
  · have h := h.1 c
    refine lf_seg 1 (pc' := 243) (lv' := [(0, .ref 95), (1, .int (Int32.ofInt x1)), (2, .int (Int32.ofInt x2))]) (st' := [.int (Int32.ofInt (-1)), .int (Int32.ofInt 4), .int (Int32.ofInt x2), .ref 95]) rfl ?_
    refine lf_sub (l := [(0, .ref 95), (1, .int (Int32.ofInt x1)), (2, .int (Int32.ofInt x2))]) (lf_sb1 rfl (lf_sb1 rfl (lf_sb1 rfl lf_sb0))) ?_
    exact gm_238_p243 hX165 h
  · have h := h.2 c
    refine lf_seg 3 (pc' := 231) (lv' := [(0, .ref 95), (1, .int (Int32.ofInt x1)), (2, .int (Int32.ofInt x2))]) (st' := [.int (Int32.ofInt x1), .ref 96, .int (Int32.ofInt 4), .int (Int32.ofInt x2), .ref 95]) rfl ?_
    refine lf_bipush 233 18 rfl rfl (by decide) (by decide) ?_
    refine lf_iadd 234 rfl rfl ?_
    refine lf_seg 2 (pc' := 236) (lv' := [(0, .ref 95), (1, .int (Int32.ofInt x1)), (2, .int (Int32.ofInt x2))]) (st' := [.int (Int32.ofInt x2), .int (Int32.ofInt 2), .int (Int32.ofInt (x1 + 18)), .ref 96, .int (Int32.ofInt 4), .int (Int32.ofInt x2), .ref 95]) rfl ?_
    refine lf_imul 237 rfl rfl ?_
    refine lf_iadd 238 rfl rfl ?_
    obtain ⟨o42, h⟩ := h
    refine lf_iald 239 1538 rfl rfl rfl rfl rfl rfl o42 ?_
    refine lf_seg 1 (pc' := 243) (lv' := [(0, .ref 95), (1, .int (Int32.ofInt x1)), (2, .int (Int32.ofInt x2))]) (st' := [.int (Int32.ofInt (s37.1 96 ((x1 + 18) + (2 * x2)))), .int (Int32.ofInt 4), .int (Int32.ofInt x2), .ref 95]) rfl ?_
    refine lf_sub (l := [(0, .ref 95), (1, .int (Int32.ofInt x1)), (2, .int (Int32.ofInt x2))]) (lf_sb1 rfl (lf_sb1 rfl (lf_sb1 rfl lf_sb0))) ?_
    exact gm_238_p243 hX165 h
def fm_238_p165 (Q : Int → lf_Z → Prop) (x1 : Int) (X165 : Int → lf_Z → Prop) (x2 : Int) (s : lf_Z) : Prop := lf_R x2 ∧ (lf_R (s.1 96 2) ∧ ((s.1 96 2 ≤ x2 → (fm_238_p254L Q x1 0 s)) ∧ (¬ (s.1 96 2 ≤ x2) → ((0 ≤ x1 ∧ x1 < 1538) ∧ (lf_R (s.1 96 x1) ∧ ((s.1 96 x1 ≤ x2 → (fm_239e x2 (fun r36 s35 => (fm_238_p210 X165 Q x1 x2 x2 r36 s35)) s)) ∧ (¬ (s.1 96 x1 ≤ x2) → ((0 ≤ (x1 + 17) + (2 * x2) ∧ (x1 + 17) + (2 * x2) < 1538) ∧ (fm_238_p210 X165 Q x1 x2 x2 (s.1 96 ((x1 + 17) + (2 * x2))) s)))))))))
def fm_238_p165L (Q : Int → lf_Z → Prop) (x1 : Int) (x2 : Int) (s : lf_Z) : Prop := ∀ X165 : Int → lf_Z → Prop, (∀ (x2 : Int) (s : lf_Z), fm_238_p165 Q x1 X165 x2 s → X165 x2 s) → X165 x2 s
set_option maxRecDepth 100000 in
theorem gm_238_p165 {L : Nat} {xs : Nat → Int32} {d : Nat} {Q : Int → lf_Z → Prop} {x1 : Int} {x2 : Int} {s : lf_Z} {X165 : Int → lf_Z → Prop} (hX165 : ∀ x2 s, X165 x2 s → lf_E (px_ro L xs) (d + 2) 238 165 [(0, .ref 95), (1, .int (Int32.ofInt x1)), (2, .int (Int32.ofInt x2))] [] s (lf_qi Q)) (h : fm_238_p165 Q x1 X165 x2 s) : lf_E (px_ro L xs) (d + 2) 238 165 [(0, .ref 95), (1, .int (Int32.ofInt x1)), (2, .int (Int32.ofInt x2))] [] s (lf_qi Q) := by
  unfold fm_238_p165 at h
  refine lf_seg 4 (pc' := 171) (lv' := [(0, .ref 95), (1, .int (Int32.ofInt x1)), (2, .int (Int32.ofInt x2))]) (st' := [.int (Int32.ofInt 2), .ref 96, .int (Int32.ofInt x2)]) rfl ?_
  refine lf_iald 172 1538 rfl rfl rfl rfl rfl rfl ⟨by decide, by decide⟩ ?_
  obtain ⟨o27, h⟩ := h
  obtain ⟨o28, h⟩ := h
  refine lf_icmp_ge 252 175 rfl rfl rfl o27 o28 (fun c => ?_) (fun c => ?_)
  · have h := h.1 c
    refine lf_seg 2 (pc' := 254) (lv' := [(2, .int (Int32.ofInt 0)), (0, .ref 95), (1, .int (Int32.ofInt x1))]) (st' := []) rfl ?_
    refine lf_sub (l := [(0, .ref 95), (1, .int (Int32.ofInt x1)), (2, .int (Int32.ofInt 0))]) (lf_sb1 rfl (lf_sb1 rfl (lf_sb1 rfl lf_sb0))) ?_
    exact gm_238_p254L h
  · have h := h.2 c
    refine lf_seg 6 (pc' := 183) (lv' := [(0, .ref 95), (1, .int (Int32.ofInt x1)), (2, .int (Int32.ofInt x2))]) (st' := [.ref 96, .int (Int32.ofInt x2), .int (Int32.ofInt 3), .int (Int32.ofInt x2), .ref 95]) rfl ?_
    refine lf_seg 1 (pc' := 184) (lv' := [(0, .ref 95), (1, .int (Int32.ofInt x1)), (2, .int (Int32.ofInt x2))]) (st' := [.int (Int32.ofInt x1), .ref 96, .int (Int32.ofInt x2), .int (Int32.ofInt 3), .int (Int32.ofInt x2), .ref 95]) rfl ?_
    obtain ⟨o33, h⟩ := h
    refine lf_iald 185 1538 rfl rfl rfl rfl rfl rfl o33 ?_
    obtain ⟨o34, h⟩ := h
    refine lf_icmp_ge 204 188 rfl rfl rfl o27 o34 (fun c => ?_) (fun c => ?_)
    · have h := h.1 c
      refine lf_seg 3 (pc' := 207) (lv' := [(0, .ref 95), (1, .int (Int32.ofInt x1)), (2, .int (Int32.ofInt x2))]) (st' := [.int (Int32.ofInt 5), .int (Int32.ofInt x2), .ref 95, .int (Int32.ofInt 3), .int (Int32.ofInt x2), .ref 95]) rfl ?_
      refine lf_callI 210 rfl rfl rfl rfl (gm_239e h) (fun r36 s35 h => ?_)
      refine lf_sub (l := [(0, .ref 95), (1, .int (Int32.ofInt x1)), (2, .int (Int32.ofInt x2))]) (lf_sb1 rfl (lf_sb1 rfl (lf_sb1 rfl lf_sb0))) ?_
      exact gm_238_p210 hX165 h
    · have h := h.2 c
      refine lf_seg 3 (pc' := 193) (lv' := [(0, .ref 95), (1, .int (Int32.ofInt x1)), (2, .int (Int32.ofInt x2))]) (st' := [.int (Int32.ofInt x1), .ref 96, .int (Int32.ofInt 3), .int (Int32.ofInt x2), .ref 95]) rfl ?_
      refine lf_bipush 195 17 rfl rfl (by decide) (by decide) ?_
      refine lf_iadd 196 rfl rfl ?_
      refine lf_seg 2 (pc' := 198) (lv' := [(0, .ref 95), (1, .int (Int32.ofInt x1)), (2, .int (Int32.ofInt x2))]) (st' := [.int (Int32.ofInt x2), .int (Int32.ofInt 2), .int (Int32.ofInt (x1 + 17)), .ref 96, .int (Int32.ofInt 3), .int (Int32.ofInt x2), .ref 95]) rfl ?_
      refine lf_imul 199 rfl rfl ?_
      refine lf_iadd 200 rfl rfl ?_
      obtain ⟨o43, h⟩ := h
      refine lf_iald 201 1538 rfl rfl rfl rfl rfl rfl o43 ?_
      refine lf_seg 1 (pc' := 210) (lv' := [(0, .ref 95), (1, .int (Int32.ofInt x1)), (2, .int (Int32.ofInt x2))]) (st' := [.int (Int32.ofInt (s.1 96 ((x1 + 17) + (2 * x2)))), .int (Int32.ofInt 3), .int (Int32.ofInt x2), .ref 95]) rfl ?_
      refine lf_sub (l := [(0, .ref 95), (1, .int (Int32.ofInt x1)), (2, .int (Int32.ofInt x2))]) (lf_sb1 rfl (lf_sb1 rfl (lf_sb1 rfl lf_sb0))) ?_
      exact gm_238_p210 hX165 h
theorem gm_238_p165L {L : Nat} {xs : Nat → Int32} {d : Nat} {Q : Int → lf_Z → Prop} {x1 : Int} {x2 : Int} {s : lf_Z} (h : fm_238_p165L Q x1 x2 s) : lf_E (px_ro L xs) (d + 2) 238 165 [(0, .ref 95), (1, .int (Int32.ofInt x1)), (2, .int (Int32.ofInt x2))] [] s (lf_qi Q) :=
  h (fun x2 s => lf_E (px_ro L xs) (d + 2) 238 165 [(0, .ref 95), (1, .int (Int32.ofInt x1)), (2, .int (Int32.ofInt x2))] [] s (lf_qi Q)) (fun x2 s hb => gm_238_p165 (fun _ _ h => h) hb)
def fm_238_p132 (Q : Int → lf_Z → Prop) (x1 : Int) (X132 : Int → lf_Z → Prop) (x2 : Int) (s : lf_Z) : Prop := lf_R x2 ∧ ((12 ≤ x2 → (fm_238_p165L Q x1 0 s)) ∧ (¬ (12 ≤ x2) → ((0 ≤ (x1 + 5) + x2 ∧ (x1 + 5) + x2 < 1538) ∧ ((0 ≤ 114 + x2 ∧ 114 + x2 < 1538) ∧ (X132 (x2 + 1) (lf_up s.1 96 (114 + x2) (s.1 96 ((x1 + 5) + x2)), s.2.1, s.2.2))))))
def fm_238_p132L (Q : Int → lf_Z → Prop) (x1 : Int) (x2 : Int) (s : lf_Z) : Prop := ∀ X132 : Int → lf_Z → Prop, (∀ (x2 : Int) (s : lf_Z), fm_238_p132 Q x1 X132 x2 s → X132 x2 s) → X132 x2 s
set_option maxRecDepth 100000 in
theorem gm_238_p132 {L : Nat} {xs : Nat → Int32} {d : Nat} {Q : Int → lf_Z → Prop} {x1 : Int} {x2 : Int} {s : lf_Z} {X132 : Int → lf_Z → Prop} (hX132 : ∀ x2 s, X132 x2 s → lf_E (px_ro L xs) (d + 2) 238 132 [(0, .ref 95), (1, .int (Int32.ofInt x1)), (2, .int (Int32.ofInt x2))] [] s (lf_qi Q)) (h : fm_238_p132 Q x1 X132 x2 s) : lf_E (px_ro L xs) (d + 2) 238 132 [(0, .ref 95), (1, .int (Int32.ofInt x1)), (2, .int (Int32.ofInt x2))] [] s (lf_qi Q) := by
  unfold fm_238_p132 at h
  refine lf_seg 1 (pc' := 133) (lv' := [(0, .ref 95), (1, .int (Int32.ofInt x1)), (2, .int (Int32.ofInt x2))]) (st' := [.int (Int32.ofInt x2)]) rfl ?_
  refine lf_bipush 135 12 rfl rfl (by decide) (by decide) ?_
  obtain ⟨o26, h⟩ := h
  refine lf_icmp_ge 163 138 rfl rfl rfl o26 ⟨by decide, by decide⟩ (fun c => ?_) (fun c => ?_)
  · have h := h.1 c
    refine lf_seg 2 (pc' := 165) (lv' := [(2, .int (Int32.ofInt 0)), (0, .ref 95), (1, .int (Int32.ofInt x1))]) (st' := []) rfl ?_
    refine lf_sub (l := [(0, .ref 95), (1, .int (Int32.ofInt x1)), (2, .int (Int32.ofInt 0))]) (lf_sb1 rfl (lf_sb1 rfl (lf_sb1 rfl lf_sb0))) ?_
    exact gm_238_p165L h
  · have h := h.2 c
    refine lf_seg 2 (pc' := 142) (lv' := [(0, .ref 95), (1, .int (Int32.ofInt x1)), (2, .int (Int32.ofInt x2))]) (st' := [.ref 96]) rfl ?_
    refine lf_bipush 144 114 rfl rfl (by decide) (by decide) ?_
    refine lf_seg 1 (pc' := 145) (lv' := [(0, .ref 95), (1, .int (Int32.ofInt x1)), (2, .int (Int32.ofInt x2))]) (st' := [.int (Int32.ofInt x2), .int (Int32.ofInt 114), .ref 96]) rfl ?_
    refine lf_iadd 146 rfl rfl ?_
    refine lf_seg 4 (pc' := 152) (lv' := [(0, .ref 95), (1, .int (Int32.ofInt x1)), (2, .int (Int32.ofInt x2))]) (st' := [.int (Int32.ofInt 5), .int (Int32.ofInt x1), .ref 96, .int (Int32.ofInt (114 + x2)), .ref 96]) rfl ?_
    refine lf_iadd 153 rfl rfl ?_
    refine lf_seg 1 (pc' := 154) (lv' := [(0, .ref 95), (1, .int (Int32.ofInt x1)), (2, .int (Int32.ofInt x2))]) (st' := [.int (Int32.ofInt x2), .int (Int32.ofInt (x1 + 5)), .ref 96, .int (Int32.ofInt (114 + x2)), .ref 96]) rfl ?_
    refine lf_iadd 155 rfl rfl ?_
    obtain ⟨o44, h⟩ := h
    refine lf_iald 156 1538 rfl rfl rfl rfl rfl rfl o44 ?_
    obtain ⟨o45, h⟩ := h
    refine lf_iast 157 1538 rfl rfl rfl rfl rfl rfl o45 ?_
    refine lf_as (lf_up s.1 96 (114 + x2) (s.1 96 ((x1 + 5) + x2)), s.2.1, s.2.2) rfl ?_
    refine lf_iinc 160 rfl rfl rfl rfl ?_
    refine lf_seg 1 (pc' := 132) (lv' := [(2, .int (Int32.ofInt (x2 + 1))), (0, .ref 95), (1, .int (Int32.ofInt x1))]) (st' := []) rfl ?_
    refine lf_sub (l := [(0, .ref 95), (1, .int (Int32.ofInt x1)), (2, .int (Int32.ofInt (x2 + 1)))]) (lf_sb1 rfl (lf_sb1 rfl (lf_sb1 rfl lf_sb0))) ?_
    exact hX132 _ _ h
theorem gm_238_p132L {L : Nat} {xs : Nat → Int32} {d : Nat} {Q : Int → lf_Z → Prop} {x1 : Int} {x2 : Int} {s : lf_Z} (h : fm_238_p132L Q x1 x2 s) : lf_E (px_ro L xs) (d + 2) 238 132 [(0, .ref 95), (1, .int (Int32.ofInt x1)), (2, .int (Int32.ofInt x2))] [] s (lf_qi Q) :=
  h (fun x2 s => lf_E (px_ro L xs) (d + 2) 238 132 [(0, .ref 95), (1, .int (Int32.ofInt x1)), (2, .int (Int32.ofInt x2))] [] s (lf_qi Q)) (fun x2 s hb => gm_238_p132 (fun _ _ h => h) hb)
def fm_238_p94 (X40 : Int → lf_Z → Prop) (Q : Int → lf_Z → Prop) (x1 : Int) (x2 : Int) (y1 : Int) (y2 : Int) (s : lf_Z) : Prop := (0 ≤ y1 ∧ y1 < 1538) ∧ (X40 (x2 + 1) (lf_up s.1 96 y1 y2, s.2.1, s.2.2))
set_option maxRecDepth 100000 in
theorem gm_238_p94 {L : Nat} {xs : Nat → Int32} {d : Nat} {X40 : Int → lf_Z → Prop} {Q : Int → lf_Z → Prop} {x1 : Int} {x2 : Int} {y1 : Int} {y2 : Int} {s : lf_Z} (hX40 : ∀ x2 s, X40 x2 s → lf_E (px_ro L xs) (d + 2) 238 40 [(0, .ref 95), (1, .int (Int32.ofInt x1)), (2, .int (Int32.ofInt x2))] [] s (lf_qi Q)) (h : fm_238_p94 X40 Q x1 x2 y1 y2 s) : lf_E (px_ro L xs) (d + 2) 238 94 [(0, .ref 95), (1, .int (Int32.ofInt x1)), (2, .int (Int32.ofInt x2))] [.int (Int32.ofInt y2), .int (Int32.ofInt y1), .ref 96] s (lf_qi Q) := by
  unfold fm_238_p94 at h
  obtain ⟨o48, h⟩ := h
  refine lf_iast 95 1538 rfl rfl rfl rfl rfl rfl o48 ?_
  refine lf_as (lf_up s.1 96 y1 y2, s.2.1, s.2.2) rfl ?_
  refine lf_iinc 98 rfl rfl rfl rfl ?_
  refine lf_seg 1 (pc' := 40) (lv' := [(2, .int (Int32.ofInt (x2 + 1))), (0, .ref 95), (1, .int (Int32.ofInt x1))]) (st' := []) rfl ?_
  refine lf_sub (l := [(0, .ref 95), (1, .int (Int32.ofInt x1)), (2, .int (Int32.ofInt (x2 + 1)))]) (lf_sb1 rfl (lf_sb1 rfl (lf_sb1 rfl lf_sb0))) ?_
  exact hX40 _ _ h
def fm_238_p89 (X40 : Int → lf_Z → Prop) (Q : Int → lf_Z → Prop) (x1 : Int) (x2 : Int) (y1 : Int) (s : lf_Z) : Prop := fm_238_p94 X40 Q x1 x2 y1 1 s
set_option maxRecDepth 100000 in
theorem gm_238_p89 {L : Nat} {xs : Nat → Int32} {d : Nat} {X40 : Int → lf_Z → Prop} {Q : Int → lf_Z → Prop} {x1 : Int} {x2 : Int} {y1 : Int} {s : lf_Z} (hX40 : ∀ x2 s, X40 x2 s → lf_E (px_ro L xs) (d + 2) 238 40 [(0, .ref 95), (1, .int (Int32.ofInt x1)), (2, .int (Int32.ofInt x2))] [] s (lf_qi Q)) (h : fm_238_p89 X40 Q x1 x2 y1 s) : lf_E (px_ro L xs) (d + 2) 238 89 [(0, .ref 95), (1, .int (Int32.ofInt x1)), (2, .int (Int32.ofInt x2))] [.int (Int32.ofInt y1), .ref 96] s (lf_qi Q) := by
  unfold fm_238_p89 at h
  refine lf_seg 2 (pc' := 94) (lv' := [(0, .ref 95), (1, .int (Int32.ofInt x1)), (2, .int (Int32.ofInt x2))]) (st' := [.int (Int32.ofInt 1), .int (Int32.ofInt y1), .ref 96]) rfl ?_
  refine lf_sub (l := [(0, .ref 95), (1, .int (Int32.ofInt x1)), (2, .int (Int32.ofInt x2))]) (lf_sb1 rfl (lf_sb1 rfl (lf_sb1 rfl lf_sb0))) ?_
  exact gm_238_p94 hX40 h
def fm_238_p40 (Q : Int → lf_Z → Prop) (x1 : Int) (X40 : Int → lf_Z → Prop) (x2 : Int) (s : lf_Z) : Prop := lf_R x2 ∧ (lf_R (s.1 96 1) ∧ ((s.1 96 1 ≤ x2 → ((0 ≤ x1 + 3 ∧ x1 + 3 < 1538) ∧ ((0 ≤ x1 + 4 ∧ x1 + 4 < 1538) ∧ (fm_238_p132L Q x1 0 (lf_up (lf_up s.1 96 3 (s.1 96 (x1 + 3))) 96 6 ((lf_up s.1 96 3 (s.1 96 (x1 + 3))) 96 (x1 + 4)), s.2.1, s.2.2))))) ∧ (¬ (s.1 96 1 ≤ x2) → ((0 ≤ x1 + 1 ∧ x1 + 1 < 1538) ∧ (lf_R (s.1 96 (x1 + 1)) ∧ ((s.1 96 (x1 + 1) ≤ x2 → (fm_238_p89 X40 Q x1 x2 ((50 + (4 * x2)) + 3) s)) ∧ (¬ (s.1 96 (x1 + 1) ≤ x2) → ((0 ≤ x1 + 2 ∧ x1 + 2 < 1538) ∧ (fm_210 (s.1 96 (x1 + 2)) x2 (fun z51 s50 => ((z51 = false → (fm_238_p94 X40 Q x1 x2 ((50 + (4 * x2)) + 3) 0 s50)) ∧ (z51 = true → (fm_238_p89 X40 Q x1 x2 ((50 + (4 * x2)) + 3) s50)))) s)))))))))
def fm_238_p40L (Q : Int → lf_Z → Prop) (x1 : Int) (x2 : Int) (s : lf_Z) : Prop := ∀ X40 : Int → lf_Z → Prop, (∀ (x2 : Int) (s : lf_Z), fm_238_p40 Q x1 X40 x2 s → X40 x2 s) → X40 x2 s
set_option maxRecDepth 100000 in
theorem gm_238_p40 {L : Nat} {xs : Nat → Int32} {d : Nat} {Q : Int → lf_Z → Prop} {x1 : Int} {x2 : Int} {s : lf_Z} {X40 : Int → lf_Z → Prop} (hX40 : ∀ x2 s, X40 x2 s → lf_E (px_ro L xs) (d + 2) 238 40 [(0, .ref 95), (1, .int (Int32.ofInt x1)), (2, .int (Int32.ofInt x2))] [] s (lf_qi Q)) (h : fm_238_p40 Q x1 X40 x2 s) : lf_E (px_ro L xs) (d + 2) 238 40 [(0, .ref 95), (1, .int (Int32.ofInt x1)), (2, .int (Int32.ofInt x2))] [] s (lf_qi Q) := by
  unfold fm_238_p40 at h
  refine lf_seg 4 (pc' := 46) (lv' := [(0, .ref 95), (1, .int (Int32.ofInt x1)), (2, .int (Int32.ofInt x2))]) (st' := [.int (Int32.ofInt 1), .ref 96, .int (Int32.ofInt x2)]) rfl ?_
  refine lf_iald 47 1538 rfl rfl rfl rfl rfl rfl ⟨by decide, by decide⟩ ?_
  obtain ⟨o22, h⟩ := h
  obtain ⟨o23, h⟩ := h
  refine lf_icmp_ge 101 50 rfl rfl rfl o22 o23 (fun c => ?_) (fun c => ?_)
  · have h := h.1 c
    refine lf_seg 6 (pc' := 111) (lv' := [(0, .ref 95), (1, .int (Int32.ofInt x1)), (2, .int (Int32.ofInt x2))]) (st' := [.int (Int32.ofInt x1), .ref 96, .int (Int32.ofInt 3), .ref 96]) rfl ?_
    refine lf_seg 1 (pc' := 112) (lv' := [(0, .ref 95), (1, .int (Int32.ofInt x1)), (2, .int (Int32.ofInt x2))]) (st' := [.int (Int32.ofInt 3), .int (Int32.ofInt x1), .ref 96, .int (Int32.ofInt 3), .ref 96]) rfl ?_
    refine lf_iadd 113 rfl rfl ?_
    obtain ⟨o24, h⟩ := h
    refine lf_iald 114 1538 rfl rfl rfl rfl rfl rfl o24 ?_
    refine lf_iast 115 1538 rfl rfl rfl rfl rfl rfl ⟨by decide, by decide⟩ ?_
    refine lf_as (lf_up s.1 96 3 (s.1 96 (x1 + 3)), s.2.1, s.2.2) rfl ?_
    refine lf_seg 2 (pc' := 119) (lv' := [(0, .ref 95), (1, .int (Int32.ofInt x1)), (2, .int (Int32.ofInt x2))]) (st' := [.ref 96]) rfl ?_
    refine lf_bipush 121 6 rfl rfl (by decide) (by decide) ?_
    refine lf_seg 4 (pc' := 127) (lv' := [(0, .ref 95), (1, .int (Int32.ofInt x1)), (2, .int (Int32.ofInt x2))]) (st' := [.int (Int32.ofInt 4), .int (Int32.ofInt x1), .ref 96, .int (Int32.ofInt 6), .ref 96]) rfl ?_
    refine lf_iadd 128 rfl rfl ?_
    obtain ⟨o25, h⟩ := h
    refine lf_iald 129 1538 rfl rfl rfl rfl rfl rfl o25 ?_
    refine lf_iast 130 1538 rfl rfl rfl rfl rfl rfl ⟨by decide, by decide⟩ ?_
    refine lf_as (lf_up (lf_up s.1 96 3 (s.1 96 (x1 + 3))) 96 6 ((lf_up s.1 96 3 (s.1 96 (x1 + 3))) 96 (x1 + 4)), s.2.1, s.2.2) rfl ?_
    refine lf_seg 2 (pc' := 132) (lv' := [(2, .int (Int32.ofInt 0)), (0, .ref 95), (1, .int (Int32.ofInt x1))]) (st' := []) rfl ?_
    refine lf_sub (l := [(0, .ref 95), (1, .int (Int32.ofInt x1)), (2, .int (Int32.ofInt 0))]) (lf_sb1 rfl (lf_sb1 rfl (lf_sb1 rfl lf_sb0))) ?_
    exact gm_238_p132L h
  · have h := h.2 c
    refine lf_seg 2 (pc' := 54) (lv' := [(0, .ref 95), (1, .int (Int32.ofInt x1)), (2, .int (Int32.ofInt x2))]) (st' := [.ref 96]) rfl ?_
    refine lf_bipush 56 50 rfl rfl (by decide) (by decide) ?_
    refine lf_seg 2 (pc' := 58) (lv' := [(0, .ref 95), (1, .int (Int32.ofInt x1)), (2, .int (Int32.ofInt x2))]) (st' := [.int (Int32.ofInt x2), .int (Int32.ofInt 4), .int (Int32.ofInt 50), .ref 96]) rfl ?_
    refine lf_imul 59 rfl rfl ?_
    refine lf_iadd 60 rfl rfl ?_
    refine lf_seg 1 (pc' := 61) (lv' := [(0, .ref 95), (1, .int (Int32.ofInt x1)), (2, .int (Int32.ofInt x2))]) (st' := [.int (Int32.ofInt 3), .int (Int32.ofInt (50 + (4 * x2))), .ref 96]) rfl ?_
    refine lf_iadd 62 rfl rfl ?_
    refine lf_seg 5 (pc' := 69) (lv' := [(0, .ref 95), (1, .int (Int32.ofInt x1)), (2, .int (Int32.ofInt x2))]) (st' := [.int (Int32.ofInt 1), .int (Int32.ofInt x1), .ref 96, .int (Int32.ofInt x2), .int (Int32.ofInt ((50 + (4 * x2)) + 3)), .ref 96]) rfl ?_
    refine lf_iadd 70 rfl rfl ?_
    obtain ⟨o46, h⟩ := h
    refine lf_iald 71 1538 rfl rfl rfl rfl rfl rfl o46 ?_
    obtain ⟨o47, h⟩ := h
    refine lf_icmp_ge 89 74 rfl rfl rfl o22 o47 (fun c => ?_) (fun c => ?_)
    · have h := h.1 c
      refine lf_sub (l := [(0, .ref 95), (1, .int (Int32.ofInt x1)), (2, .int (Int32.ofInt x2))]) (lf_sb1 rfl (lf_sb1 rfl (lf_sb1 rfl lf_sb0))) ?_
      exact gm_238_p89 hX40 h
    · have h := h.2 c
      refine lf_seg 4 (pc' := 80) (lv' := [(0, .ref 95), (1, .int (Int32.ofInt x1)), (2, .int (Int32.ofInt x2))]) (st' := [.int (Int32.ofInt 2), .int (Int32.ofInt x1), .ref 96, .int (Int32.ofInt ((50 + (4 * x2)) + 3)), .ref 96]) rfl ?_
      refine lf_iadd 81 rfl rfl ?_
      obtain ⟨o49, h⟩ := h
      refine lf_iald 82 1538 rfl rfl rfl rfl rfl rfl o49 ?_
      refine lf_seg 1 (pc' := 83) (lv' := [(0, .ref 95), (1, .int (Int32.ofInt x1)), (2, .int (Int32.ofInt x2))]) (st' := [.int (Int32.ofInt x2), .int (Int32.ofInt (s.1 96 (x1 + 2))), .int (Int32.ofInt ((50 + (4 * x2)) + 3)), .ref 96]) rfl ?_
      refine lf_callZ 86 rfl rfl rfl rfl (gm_210 h) (fun z51 s50 h => ?_)
      refine lf_ifz_eq 93 89 rfl rfl rfl (fun c => ?_) (fun c => ?_)
      · have h := h.1 c
        refine lf_seg 1 (pc' := 94) (lv' := [(0, .ref 95), (1, .int (Int32.ofInt x1)), (2, .int (Int32.ofInt x2))]) (st' := [.int (Int32.ofInt 0), .int (Int32.ofInt ((50 + (4 * x2)) + 3)), .ref 96]) rfl ?_
        refine lf_sub (l := [(0, .ref 95), (1, .int (Int32.ofInt x1)), (2, .int (Int32.ofInt x2))]) (lf_sb1 rfl (lf_sb1 rfl (lf_sb1 rfl lf_sb0))) ?_
        exact gm_238_p94 hX40 h
      · have h := h.2 c
        refine lf_sub (l := [(0, .ref 95), (1, .int (Int32.ofInt x1)), (2, .int (Int32.ofInt x2))]) (lf_sb1 rfl (lf_sb1 rfl (lf_sb1 rfl lf_sb0))) ?_
        exact gm_238_p89 hX40 h
theorem gm_238_p40L {L : Nat} {xs : Nat → Int32} {d : Nat} {Q : Int → lf_Z → Prop} {x1 : Int} {x2 : Int} {s : lf_Z} (h : fm_238_p40L Q x1 x2 s) : lf_E (px_ro L xs) (d + 2) 238 40 [(0, .ref 95), (1, .int (Int32.ofInt x1)), (2, .int (Int32.ofInt x2))] [] s (lf_qi Q) :=
  h (fun x2 s => lf_E (px_ro L xs) (d + 2) 238 40 [(0, .ref 95), (1, .int (Int32.ofInt x1)), (2, .int (Int32.ofInt x2))] [] s (lf_qi Q)) (fun x2 s hb => gm_238_p40 (fun _ _ h => h) hb)
def fm_238 (Q : Int → lf_Z → Prop) (s : lf_Z) : Prop := lf_R (s.1 96 9) ∧ ((s.1 96 9 ≠ 0 → (fm_238_p40L Q (278 + (42 * ((s.1 96 9) - 1))) 0 (lf_up s.1 96 9 ((s.1 96 9) - 1), s.2.1, s.2.2))) ∧ (¬ (s.1 96 9 ≠ 0) → (Q (-1) s)))
set_option maxRecDepth 100000 in
theorem gm_238 {L : Nat} {xs : Nat → Int32} {d : Nat} {Q : Int → lf_Z → Prop} {s : lf_Z} (h : fm_238 Q s) : lf_M (px_ro L xs) (d + 2) 238 [.ref 95] s (lf_qi Q) := by
  unfold fm_238 at h
  show lf_E (px_ro L xs) (d + 2) 238 0 [(0, .ref 95)] [] s _
  refine lf_seg 2 (pc' := 4) (lv' := [(0, .ref 95)]) (st' := [.ref 96]) rfl ?_
  refine lf_bipush 6 9 rfl rfl (by decide) (by decide) ?_
  refine lf_iald 7 1538 rfl rfl rfl rfl rfl rfl ⟨by decide, by decide⟩ ?_
  obtain ⟨o21, h⟩ := h
  refine lf_if_ne 12 10 rfl rfl rfl o21 (fun c => ?_) (fun c => ?_)
  · have h := h.1 c
    refine lf_seg 2 (pc' := 16) (lv' := [(0, .ref 95)]) (st' := [.ref 96]) rfl ?_
    refine lf_bipush 18 9 rfl rfl (by decide) (by decide) ?_
    refine lf_seg 1 (pc' := 19) (lv' := [(0, .ref 95)]) (st' := [.int (Int32.ofInt 9), .ref 96, .int (Int32.ofInt 9), .ref 96]) rfl ?_
    refine lf_iald 20 1538 rfl rfl rfl rfl rfl rfl ⟨by decide, by decide⟩ ?_
    refine lf_seg 1 (pc' := 21) (lv' := [(0, .ref 95)]) (st' := [.int (Int32.ofInt 1), .int (Int32.ofInt (s.1 96 9)), .int (Int32.ofInt 9), .ref 96]) rfl ?_
    refine lf_isub 22 rfl rfl ?_
    refine lf_iast 23 1538 rfl rfl rfl rfl rfl rfl ⟨by decide, by decide⟩ ?_
    refine lf_as (lf_up s.1 96 9 ((s.1 96 9) - 1), s.2.1, s.2.2) rfl ?_
    refine lf_sipush 26 278 rfl rfl (by decide) (by decide) ?_
    refine lf_bipush 28 42 rfl rfl (by decide) (by decide) ?_
    refine lf_seg 2 (pc' := 32) (lv' := [(0, .ref 95)]) (st' := [.ref 96, .int (Int32.ofInt 42), .int (Int32.ofInt 278)]) rfl ?_
    refine lf_bipush 34 9 rfl rfl (by decide) (by decide) ?_
    refine lf_iald 35 1538 rfl rfl rfl rfl rfl rfl ⟨by decide, by decide⟩ ?_
    refine lf_seg 0 (pc' := 35) (lv' := [(0, .ref 95)]) (st' := [.int (Int32.ofInt ((s.1 96 9) - 1)), .int (Int32.ofInt 42), .int (Int32.ofInt 278)]) rfl ?_
    refine lf_imul 36 rfl rfl ?_
    refine lf_iadd 37 rfl rfl ?_
    refine lf_seg 3 (pc' := 40) (lv' := [(2, .int (Int32.ofInt 0)), (1, .int (Int32.ofInt (278 + (42 * ((s.1 96 9) - 1))))), (0, .ref 95)]) (st' := []) rfl ?_
    refine lf_sub (l := [(0, .ref 95), (1, .int (Int32.ofInt (278 + (42 * ((s.1 96 9) - 1))))), (2, .int (Int32.ofInt 0))]) (lf_sb1 rfl (lf_sb1 rfl (lf_sb1 rfl lf_sb0))) ?_
    exact gm_238_p40L h
  · have h := h.2 c
    refine lf_seg 1 (pc' := 11) (lv' := [(0, .ref 95)]) (st' := [.int (Int32.ofInt (-1))]) rfl ?_
    exact lf_retI rfl rfl h
-- fm_110 ElevenBullocks.bunch 0 i i
def fm_110 (a1 : Int) (a2 : Int) (Q : Int → lf_Z → Prop) (s : lf_Z) : Prop := fm_15 a1 0 3 (fun z22 s21 => ((z22 = false → (Q (-2) s21)) ∧ (z22 = true → (fm_15 a2 0 3 (fun z24 s23 => ((z24 = true → (lf_R a2 ∧ ((a2 ≠ 0 → ((0 ≤ a1 ∧ a1 < 4) ∧ (lf_R (s23.1 16 a1) ∧ ((s23.1 16 a1 ≠ 0 → ((a2 ≠ 3 → ((a2 ≠ 1 → (Q (s23.1 18 a1) s23)) ∧ (¬ (a2 ≠ 1) → (Q (s23.1 17 a1) s23)))) ∧ (¬ (a2 ≠ 3) → (fm_81 a1 (fun r29 s28 => (Q r29 s28)) s23)))) ∧ (¬ (s23.1 16 a1 ≠ 0) → (Q (-1) s23)))))) ∧ (¬ (a2 ≠ 0) → ((0 ≤ a1 ∧ a1 < 4) ∧ (Q (s23.1 16 a1) s23)))))) ∧ (z24 = false → (Q (-2) s23)))) s21)))) s
set_option maxRecDepth 100000 in
theorem gm_110 {L : Nat} {xs : Nat → Int32} {d : Nat} {a1 : Int} {a2 : Int} {Q : Int → lf_Z → Prop} {s : lf_Z} (h : fm_110 a1 a2 Q s) : lf_M (px_ro L xs) (d + 4) 110 [.ref 0, .int (Int32.ofInt a1), .int (Int32.ofInt a2)] s (lf_qi Q) := by
  unfold fm_110 at h
  show lf_E (px_ro L xs) (d + 4) 110 0 [(0, .ref 0), (1, .int (Int32.ofInt a1)), (2, .int (Int32.ofInt a2))] [] s _
  refine lf_seg 3 (pc' := 3) (lv' := [(0, .ref 0), (1, .int (Int32.ofInt a1)), (2, .int (Int32.ofInt a2))]) (st' := [.int (Int32.ofInt 3), .int (Int32.ofInt 0), .int (Int32.ofInt a1)]) rfl ?_
  refine lf_callZ 6 rfl rfl rfl rfl (gm_15 h) (fun z22 s21 h => ?_)
  refine lf_ifz_eq 18 9 rfl rfl rfl (fun c => ?_) (fun c => ?_)
  · have h := h.1 c
    refine lf_bipush 20 (-2) rfl rfl (by decide) (by decide) ?_
    exact lf_retI rfl rfl h
  · have h := h.2 c
    refine lf_seg 3 (pc' := 12) (lv' := [(0, .ref 0), (1, .int (Int32.ofInt a1)), (2, .int (Int32.ofInt a2))]) (st' := [.int (Int32.ofInt 3), .int (Int32.ofInt 0), .int (Int32.ofInt a2)]) rfl ?_
    refine lf_callZ 15 rfl rfl rfl rfl (gm_15 h) (fun z24 s23 h => ?_)
    refine lf_ifz_ne 21 18 rfl rfl rfl (fun c => ?_) (fun c => ?_)
    · have h := h.1 c
      refine lf_seg 1 (pc' := 22) (lv' := [(0, .ref 0), (1, .int (Int32.ofInt a1)), (2, .int (Int32.ofInt a2))]) (st' := [.int (Int32.ofInt a2)]) rfl ?_
      obtain ⟨o25, h⟩ := h
      refine lf_if_ne 35 25 rfl rfl rfl o25 (fun c => ?_) (fun c => ?_)
      · have h := h.1 c
        refine lf_seg 4 (pc' := 43) (lv' := [(0, .ref 0), (1, .int (Int32.ofInt a1)), (2, .int (Int32.ofInt a2))]) (st' := [.int (Int32.ofInt a1), .ref 16]) rfl ?_
        obtain ⟨o26, h⟩ := h
        refine lf_iald 44 4 rfl rfl rfl rfl rfl rfl o26 ?_
        obtain ⟨o27, h⟩ := h
        refine lf_if_ne 49 47 rfl rfl rfl o27 (fun c => ?_) (fun c => ?_)
        · have h := h.1 c
          refine lf_seg 2 (pc' := 51) (lv' := [(0, .ref 0), (1, .int (Int32.ofInt a1)), (2, .int (Int32.ofInt a2))]) (st' := [.int (Int32.ofInt 3), .int (Int32.ofInt a2)]) rfl ?_
          refine lf_icmp_ne 63 54 rfl rfl rfl o25 ⟨by decide, by decide⟩ (fun c => ?_) (fun c => ?_)
          · have h := h.1 c
            refine lf_seg 2 (pc' := 65) (lv' := [(0, .ref 0), (1, .int (Int32.ofInt a1)), (2, .int (Int32.ofInt a2))]) (st' := [.int (Int32.ofInt 1), .int (Int32.ofInt a2)]) rfl ?_
            refine lf_icmp_ne 80 68 rfl rfl rfl o25 ⟨by decide, by decide⟩ (fun c => ?_) (fun c => ?_)
            · have h := h.1 c
              refine lf_seg 4 (pc' := 88) (lv' := [(0, .ref 0), (1, .int (Int32.ofInt a1)), (2, .int (Int32.ofInt a2))]) (st' := [.int (Int32.ofInt a1), .ref 18]) rfl ?_
              refine lf_iald 89 4 rfl rfl rfl rfl rfl rfl o26 ?_
              exact lf_retI rfl rfl h
            · have h := h.2 c
              refine lf_seg 4 (pc' := 76) (lv' := [(0, .ref 0), (1, .int (Int32.ofInt a1)), (2, .int (Int32.ofInt a2))]) (st' := [.int (Int32.ofInt a1), .ref 17]) rfl ?_
              refine lf_iald 77 4 rfl rfl rfl rfl rfl rfl o26 ?_
              refine lf_seg 1 (pc' := 89) (lv' := [(0, .ref 0), (1, .int (Int32.ofInt a1)), (2, .int (Int32.ofInt a2))]) (st' := [.int (Int32.ofInt (s23.1 17 a1))]) rfl ?_
              exact lf_retI rfl rfl h
          · have h := h.2 c
            refine lf_seg 3 (pc' := 59) (lv' := [(0, .ref 0), (1, .int (Int32.ofInt a1)), (2, .int (Int32.ofInt a2))]) (st' := [.int (Int32.ofInt a1), .ref 63]) rfl ?_
            refine lf_callI 62 rfl rfl rfl rfl (gm_81 h) (fun r29 s28 h => ?_)
            exact lf_retI rfl rfl h
        · have h := h.2 c
          refine lf_seg 1 (pc' := 48) (lv' := [(0, .ref 0), (1, .int (Int32.ofInt a1)), (2, .int (Int32.ofInt a2))]) (st' := [.int (Int32.ofInt (-1))]) rfl ?_
          exact lf_retI rfl rfl h
      · have h := h.2 c
        refine lf_seg 4 (pc' := 33) (lv' := [(0, .ref 0), (1, .int (Int32.ofInt a1)), (2, .int (Int32.ofInt a2))]) (st' := [.int (Int32.ofInt a1), .ref 16]) rfl ?_
        obtain ⟨o30, h⟩ := h
        refine lf_iald 34 4 rfl rfl rfl rfl rfl rfl o30 ?_
        exact lf_retI rfl rfl h
    · have h := h.2 c
      refine lf_bipush 20 (-2) rfl rfl (by decide) (by decide) ?_
      exact lf_retI rfl rfl h
-- fm_284 Model.bunch 95 i i
def fm_284 (a1 : Int) (a2 : Int) (Q : Int → lf_Z → Prop) (s : lf_Z) : Prop := fm_183 a1 0 3 (fun z22 s21 => ((z22 = false → (Q (-2) s21)) ∧ (z22 = true → (fm_183 a2 0 3 (fun z24 s23 => ((z24 = true → (lf_R a2 ∧ ((a2 ≠ 0 → (fm_242 a1 (fun r27 s26 => (lf_R r27 ∧ ((r27 ≠ 0 → ((a2 ≠ 1 → ((a2 ≠ 2 → (fm_263 a1 (fun r30 s29 => (Q r30 s29)) s26)) ∧ (¬ (a2 ≠ 2) → (fm_256 a1 (fun r32 s31 => (Q r32 s31)) s26)))) ∧ (¬ (a2 ≠ 1) → (fm_255 a1 (fun r34 s33 => (Q r34 s33)) s26)))) ∧ (¬ (r27 ≠ 0) → (Q (-1) s26))))) s23)) ∧ (¬ (a2 ≠ 0) → (fm_242 a1 (fun r36 s35 => (Q r36 s35)) s23))))) ∧ (z24 = false → (Q (-2) s23)))) s21)))) s
set_option maxRecDepth 100000 in
theorem gm_284 {L : Nat} {xs : Nat → Int32} {d : Nat} {a1 : Int} {a2 : Int} {Q : Int → lf_Z → Prop} {s : lf_Z} (h : fm_284 a1 a2 Q s) : lf_M (px_ro L xs) (d + 6) 284 [.ref 95, .int (Int32.ofInt a1), .int (Int32.ofInt a2)] s (lf_qi Q) := by
  unfold fm_284 at h
  show lf_E (px_ro L xs) (d + 6) 284 0 [(0, .ref 95), (1, .int (Int32.ofInt a1)), (2, .int (Int32.ofInt a2))] [] s _
  refine lf_seg 3 (pc' := 3) (lv' := [(0, .ref 95), (1, .int (Int32.ofInt a1)), (2, .int (Int32.ofInt a2))]) (st' := [.int (Int32.ofInt 3), .int (Int32.ofInt 0), .int (Int32.ofInt a1)]) rfl ?_
  refine lf_callZ 6 rfl rfl rfl rfl (gm_183 h) (fun z22 s21 h => ?_)
  refine lf_ifz_eq 18 9 rfl rfl rfl (fun c => ?_) (fun c => ?_)
  · have h := h.1 c
    refine lf_bipush 20 (-2) rfl rfl (by decide) (by decide) ?_
    exact lf_retI rfl rfl h
  · have h := h.2 c
    refine lf_seg 3 (pc' := 12) (lv' := [(0, .ref 95), (1, .int (Int32.ofInt a1)), (2, .int (Int32.ofInt a2))]) (st' := [.int (Int32.ofInt 3), .int (Int32.ofInt 0), .int (Int32.ofInt a2)]) rfl ?_
    refine lf_callZ 15 rfl rfl rfl rfl (gm_183 h) (fun z24 s23 h => ?_)
    refine lf_ifz_ne 21 18 rfl rfl rfl (fun c => ?_) (fun c => ?_)
    · have h := h.1 c
      refine lf_seg 1 (pc' := 22) (lv' := [(0, .ref 95), (1, .int (Int32.ofInt a1)), (2, .int (Int32.ofInt a2))]) (st' := [.int (Int32.ofInt a2)]) rfl ?_
      obtain ⟨o25, h⟩ := h
      refine lf_if_ne 31 25 rfl rfl rfl o25 (fun c => ?_) (fun c => ?_)
      · have h := h.1 c
        refine lf_seg 2 (pc' := 33) (lv' := [(0, .ref 95), (1, .int (Int32.ofInt a1)), (2, .int (Int32.ofInt a2))]) (st' := [.int (Int32.ofInt a1), .ref 95]) rfl ?_
        refine lf_callI 36 rfl rfl rfl rfl (gm_242 h) (fun r27 s26 h => ?_)
        obtain ⟨o28, h⟩ := h
        refine lf_if_ne 41 39 rfl rfl rfl o28 (fun c => ?_) (fun c => ?_)
        · have h := h.1 c
          refine lf_seg 2 (pc' := 43) (lv' := [(0, .ref 95), (1, .int (Int32.ofInt a1)), (2, .int (Int32.ofInt a2))]) (st' := [.int (Int32.ofInt 1), .int (Int32.ofInt a2)]) rfl ?_
          refine lf_icmp_ne 54 46 rfl rfl rfl o25 ⟨by decide, by decide⟩ (fun c => ?_) (fun c => ?_)
          · have h := h.1 c
            refine lf_seg 2 (pc' := 56) (lv' := [(0, .ref 95), (1, .int (Int32.ofInt a1)), (2, .int (Int32.ofInt a2))]) (st' := [.int (Int32.ofInt 2), .int (Int32.ofInt a2)]) rfl ?_
            refine lf_icmp_ne 67 59 rfl rfl rfl o25 ⟨by decide, by decide⟩ (fun c => ?_) (fun c => ?_)
            · have h := h.1 c
              refine lf_seg 2 (pc' := 69) (lv' := [(0, .ref 95), (1, .int (Int32.ofInt a1)), (2, .int (Int32.ofInt a2))]) (st' := [.int (Int32.ofInt a1), .ref 95]) rfl ?_
              refine lf_callI 72 rfl rfl rfl rfl (gm_263 h) (fun r30 s29 h => ?_)
              exact lf_retI rfl rfl h
            · have h := h.2 c
              refine lf_seg 2 (pc' := 61) (lv' := [(0, .ref 95), (1, .int (Int32.ofInt a1)), (2, .int (Int32.ofInt a2))]) (st' := [.int (Int32.ofInt a1), .ref 95]) rfl ?_
              refine lf_callI 64 rfl rfl rfl rfl (gm_256 h) (fun r32 s31 h => ?_)
              refine lf_seg 1 (pc' := 72) (lv' := [(0, .ref 95), (1, .int (Int32.ofInt a1)), (2, .int (Int32.ofInt a2))]) (st' := [.int (Int32.ofInt r32)]) rfl ?_
              exact lf_retI rfl rfl h
          · have h := h.2 c
            refine lf_seg 2 (pc' := 48) (lv' := [(0, .ref 95), (1, .int (Int32.ofInt a1)), (2, .int (Int32.ofInt a2))]) (st' := [.int (Int32.ofInt a1), .ref 95]) rfl ?_
            refine lf_callI 51 rfl rfl rfl rfl (gm_255 h) (fun r34 s33 h => ?_)
            refine lf_seg 1 (pc' := 72) (lv' := [(0, .ref 95), (1, .int (Int32.ofInt a1)), (2, .int (Int32.ofInt a2))]) (st' := [.int (Int32.ofInt r34)]) rfl ?_
            exact lf_retI rfl rfl h
        · have h := h.2 c
          refine lf_seg 1 (pc' := 40) (lv' := [(0, .ref 95), (1, .int (Int32.ofInt a1)), (2, .int (Int32.ofInt a2))]) (st' := [.int (Int32.ofInt (-1))]) rfl ?_
          exact lf_retI rfl rfl h
      · have h := h.2 c
        refine lf_seg 2 (pc' := 27) (lv' := [(0, .ref 95), (1, .int (Int32.ofInt a1)), (2, .int (Int32.ofInt a2))]) (st' := [.int (Int32.ofInt a1), .ref 95]) rfl ?_
        refine lf_callI 30 rfl rfl rfl rfl (gm_242 h) (fun r36 s35 h => ?_)
        exact lf_retI rfl rfl h
    · have h := h.2 c
      refine lf_bipush 20 (-2) rfl rfl (by decide) (by decide) ?_
      exact lf_retI rfl rfl h
-- fm_111 ElevenBullocks.ofPerson 0 i i
def fm_111 (a1 : Int) (a2 : Int) (Q : Int → lf_Z → Prop) (s : lf_Z) : Prop := fm_99 a1 (fun z22 s21 => ((z22 = true → (lf_R a2 ∧ ((a2 < 0 ∨ 4 < a2 → (Q (-2) s21)) ∧ (a2 = 0 → ((0 ≤ a1 ∧ a1 < 6) ∧ (Q (s21.1 7 a1) s21))) ∧ (a2 = 1 → ((0 ≤ a1 ∧ a1 < 6) ∧ (lf_R (s21.1 8 a1) ∧ ((s21.1 8 a1 = 0 → (Q 0 s21)) ∧ (¬ (s21.1 8 a1 = 0) → (Q 1 s21)))))) ∧ (a2 = 2 → ((0 ≤ a1 ∧ a1 < 6) ∧ (lf_R (s21.1 9 a1) ∧ ((s21.1 9 a1 = 0 → (Q 0 s21)) ∧ (¬ (s21.1 9 a1 = 0) → (Q 1 s21)))))) ∧ (a2 = 3 → ((0 ≤ a1 ∧ a1 < 6) ∧ (Q (s21.1 19 a1) s21))) ∧ (a2 = 4 → ((0 ≤ a1 ∧ a1 < 6) ∧ (Q (s21.1 20 a1) s21)))))) ∧ (z22 = false → (Q (-2) s21)))) s
set_option maxRecDepth 100000 in
theorem gm_111 {L : Nat} {xs : Nat → Int32} {d : Nat} {a1 : Int} {a2 : Int} {Q : Int → lf_Z → Prop} {s : lf_Z} (h : fm_111 a1 a2 Q s) : lf_M (px_ro L xs) (d + 2) 111 [.ref 0, .int (Int32.ofInt a1), .int (Int32.ofInt a2)] s (lf_qi Q) := by
  unfold fm_111 at h
  show lf_E (px_ro L xs) (d + 2) 111 0 [(0, .ref 0), (1, .int (Int32.ofInt a1)), (2, .int (Int32.ofInt a2))] [] s _
  refine lf_seg 3 (pc' := 5) (lv' := [(0, .ref 0), (1, .int (Int32.ofInt a1)), (2, .int (Int32.ofInt a2))]) (st' := [.int (Int32.ofInt a1), .ref 1]) rfl ?_
  refine lf_callZ 8 rfl rfl rfl rfl (gm_99 h) (fun z22 s21 h => ?_)
  refine lf_ifz_ne 14 11 rfl rfl rfl (fun c => ?_) (fun c => ?_)
  · have h := h.1 c
    refine lf_seg 1 (pc' := 15) (lv' := [(0, .ref 0), (1, .int (Int32.ofInt a1)), (2, .int (Int32.ofInt a2))]) (st' := [.int (Int32.ofInt a2)]) rfl ?_
    obtain ⟨o23, h⟩ := h
    refine lf_tsw 114 [(0, 48), (1, 58), (2, 76), (3, 94), (4, 104)] rfl rfl rfl (by decide) o23 (fun c => ?_) (lf_tab1 (fun c => ?_) (lf_tab1 (fun c => ?_) (lf_tab1 (fun c => ?_) (lf_tab1 (fun c => ?_) (lf_tab1 (fun c => ?_) lf_tab0)))))
    · have h := h.1 c
      refine lf_bipush 116 (-2) rfl rfl (by decide) (by decide) ?_
      exact lf_retI rfl rfl h
    · have h := h.2.1 c
      refine lf_seg 4 (pc' := 56) (lv' := [(0, .ref 0), (1, .int (Int32.ofInt a1)), (2, .int (Int32.ofInt a2))]) (st' := [.int (Int32.ofInt a1), .ref 7]) rfl ?_
      obtain ⟨o24, h⟩ := h
      refine lf_iald 57 6 rfl rfl rfl rfl rfl rfl o24 ?_
      exact lf_retI rfl rfl h
    · have h := h.2.2.1 c
      refine lf_seg 4 (pc' := 66) (lv' := [(0, .ref 0), (1, .int (Int32.ofInt a1)), (2, .int (Int32.ofInt a2))]) (st' := [.int (Int32.ofInt a1), .ref 8]) rfl ?_
      obtain ⟨o25, h⟩ := h
      refine lf_zald 67 6 rfl rfl rfl rfl rfl rfl o25 ?_
      obtain ⟨o26, h⟩ := h
      refine lf_if_eq 74 70 rfl rfl rfl o26 (fun c => ?_) (fun c => ?_)
      · have h := h.1 c
        refine lf_seg 1 (pc' := 75) (lv' := [(0, .ref 0), (1, .int (Int32.ofInt a1)), (2, .int (Int32.ofInt a2))]) (st' := [.int (Int32.ofInt 0)]) rfl ?_
        exact lf_retI rfl rfl h
      · have h := h.2 c
        refine lf_seg 2 (pc' := 75) (lv' := [(0, .ref 0), (1, .int (Int32.ofInt a1)), (2, .int (Int32.ofInt a2))]) (st' := [.int (Int32.ofInt 1)]) rfl ?_
        exact lf_retI rfl rfl h
    · have h := h.2.2.2.1 c
      refine lf_seg 4 (pc' := 84) (lv' := [(0, .ref 0), (1, .int (Int32.ofInt a1)), (2, .int (Int32.ofInt a2))]) (st' := [.int (Int32.ofInt a1), .ref 9]) rfl ?_
      obtain ⟨o27, h⟩ := h
      refine lf_zald 85 6 rfl rfl rfl rfl rfl rfl o27 ?_
      obtain ⟨o28, h⟩ := h
      refine lf_if_eq 92 88 rfl rfl rfl o28 (fun c => ?_) (fun c => ?_)
      · have h := h.1 c
        refine lf_seg 1 (pc' := 93) (lv' := [(0, .ref 0), (1, .int (Int32.ofInt a1)), (2, .int (Int32.ofInt a2))]) (st' := [.int (Int32.ofInt 0)]) rfl ?_
        exact lf_retI rfl rfl h
      · have h := h.2 c
        refine lf_seg 2 (pc' := 93) (lv' := [(0, .ref 0), (1, .int (Int32.ofInt a1)), (2, .int (Int32.ofInt a2))]) (st' := [.int (Int32.ofInt 1)]) rfl ?_
        exact lf_retI rfl rfl h
    · have h := h.2.2.2.2.1 c
      refine lf_seg 4 (pc' := 102) (lv' := [(0, .ref 0), (1, .int (Int32.ofInt a1)), (2, .int (Int32.ofInt a2))]) (st' := [.int (Int32.ofInt a1), .ref 19]) rfl ?_
      obtain ⟨o29, h⟩ := h
      refine lf_iald 103 6 rfl rfl rfl rfl rfl rfl o29 ?_
      exact lf_retI rfl rfl h
    · have h := h.2.2.2.2.2 c
      refine lf_seg 4 (pc' := 112) (lv' := [(0, .ref 0), (1, .int (Int32.ofInt a1)), (2, .int (Int32.ofInt a2))]) (st' := [.int (Int32.ofInt a1), .ref 20]) rfl ?_
      obtain ⟨o30, h⟩ := h
      refine lf_iald 113 6 rfl rfl rfl rfl rfl rfl o30 ?_
      exact lf_retI rfl rfl h
  · have h := h.2 c
    refine lf_bipush 13 (-2) rfl rfl (by decide) (by decide) ?_
    exact lf_retI rfl rfl h
-- fm_285 Model.ofPerson 95 i i
def fm_285 (a1 : Int) (a2 : Int) (Q : Int → lf_Z → Prop) (s : lf_Z) : Prop := fm_249 a1 (fun z22 s21 => ((z22 = false → (Q (-2) s21)) ∧ (z22 = true → (fm_183 a2 0 4 (fun z24 s23 => ((z24 = false → (Q (-2) s23)) ∧ (z24 = true → (fm_239c a1 a2 (fun r26 s25 => (Q r26 s25)) s23)))) s21)))) s
set_option maxRecDepth 100000 in
theorem gm_285 {L : Nat} {xs : Nat → Int32} {d : Nat} {a1 : Int} {a2 : Int} {Q : Int → lf_Z → Prop} {s : lf_Z} (h : fm_285 a1 a2 Q s) : lf_M (px_ro L xs) (d + 3) 285 [.ref 95, .int (Int32.ofInt a1), .int (Int32.ofInt a2)] s (lf_qi Q) := by
  unfold fm_285 at h
  show lf_E (px_ro L xs) (d + 3) 285 0 [(0, .ref 95), (1, .int (Int32.ofInt a1)), (2, .int (Int32.ofInt a2))] [] s _
  refine lf_seg 2 (pc' := 2) (lv' := [(0, .ref 95), (1, .int (Int32.ofInt a1)), (2, .int (Int32.ofInt a2))]) (st' := [.int (Int32.ofInt a1), .ref 95]) rfl ?_
  refine lf_callZ 5 rfl rfl rfl rfl (gm_249 h) (fun z22 s21 h => ?_)
  refine lf_ifz_eq 26 8 rfl rfl rfl (fun c => ?_) (fun c => ?_)
  · have h := h.1 c
    refine lf_bipush 28 (-2) rfl rfl (by decide) (by decide) ?_
    exact lf_retI rfl rfl h
  · have h := h.2 c
    refine lf_seg 3 (pc' := 11) (lv' := [(0, .ref 95), (1, .int (Int32.ofInt a1)), (2, .int (Int32.ofInt a2))]) (st' := [.int (Int32.ofInt 4), .int (Int32.ofInt 0), .int (Int32.ofInt a2)]) rfl ?_
    refine lf_callZ 14 rfl rfl rfl rfl (gm_183 h) (fun z24 s23 h => ?_)
    refine lf_ifz_eq 26 17 rfl rfl rfl (fun c => ?_) (fun c => ?_)
    · have h := h.1 c
      refine lf_bipush 28 (-2) rfl rfl (by decide) (by decide) ?_
      exact lf_retI rfl rfl h
    · have h := h.2 c
      refine lf_seg 3 (pc' := 20) (lv' := [(0, .ref 95), (1, .int (Int32.ofInt a1)), (2, .int (Int32.ofInt a2))]) (st' := [.int (Int32.ofInt a2), .int (Int32.ofInt a1), .ref 95]) rfl ?_
      refine lf_callI 23 rfl rfl rfl rfl (gm_239c h) (fun r26 s25 h => ?_)
      refine lf_seg 1 (pc' := 28) (lv' := [(0, .ref 95), (1, .int (Int32.ofInt a1)), (2, .int (Int32.ofInt a2))]) (st' := [.int (Int32.ofInt r26)]) rfl ?_
      exact lf_retI rfl rfl h
-- fm_113 Land.bitsOfWaysAt 1 i
def fm_113_p4 (Q : Int → lf_Z → Prop) (x1 : Int) (X4 : Int → Int → lf_Z → Prop) (x2 : Int) (x3 : Int) (s : lf_Z) : Prop := fm_76 x1 (fun r22 s21 => (lf_R x3 ∧ (lf_R r22 ∧ ((r22 ≤ x3 → (Q x2 s21)) ∧ (¬ (r22 ≤ x3) → (fm_77 x1 x3 (fun r26 s25 => (X4 (lf_or x2 (lf_shl 1 r26)) (x3 + 1) s25)) s21)))))) s
def fm_113_p4L (Q : Int → lf_Z → Prop) (x1 : Int) (x2 : Int) (x3 : Int) (s : lf_Z) : Prop := ∀ X4 : Int → Int → lf_Z → Prop, (∀ (x2 : Int) (x3 : Int) (s : lf_Z), fm_113_p4 Q x1 X4 x2 x3 s → X4 x2 x3 s) → X4 x2 x3 s
set_option maxRecDepth 100000 in
theorem gm_113_p4 {L : Nat} {xs : Nat → Int32} {d : Nat} {Q : Int → lf_Z → Prop} {x1 : Int} {x2 : Int} {x3 : Int} {s : lf_Z} {X4 : Int → Int → lf_Z → Prop} (hX4 : ∀ x2 x3 s, X4 x2 x3 s → lf_E (px_ro L xs) (d + 3) 113 4 [(0, .ref 1), (1, .int (Int32.ofInt x1)), (2, .int (Int32.ofInt x2)), (3, .int (Int32.ofInt x3))] [] s (lf_qi Q)) (h : fm_113_p4 Q x1 X4 x2 x3 s) : lf_E (px_ro L xs) (d + 3) 113 4 [(0, .ref 1), (1, .int (Int32.ofInt x1)), (2, .int (Int32.ofInt x2)), (3, .int (Int32.ofInt x3))] [] s (lf_qi Q) := by
  unfold fm_113_p4 at h
  refine lf_seg 3 (pc' := 7) (lv' := [(0, .ref 1), (1, .int (Int32.ofInt x1)), (2, .int (Int32.ofInt x2)), (3, .int (Int32.ofInt x3))]) (st' := [.int (Int32.ofInt x1), .ref 1, .int (Int32.ofInt x3)]) rfl ?_
  refine lf_callI 10 rfl rfl rfl rfl (gm_76 h) (fun r22 s21 h => ?_)
  obtain ⟨o23, h⟩ := h
  obtain ⟨o24, h⟩ := h
  refine lf_icmp_ge 30 13 rfl rfl rfl o23 o24 (fun c => ?_) (fun c => ?_)
  · have h := h.1 c
    refine lf_seg 1 (pc' := 31) (lv' := [(0, .ref 1), (1, .int (Int32.ofInt x1)), (2, .int (Int32.ofInt x2)), (3, .int (Int32.ofInt x3))]) (st' := [.int (Int32.ofInt x2)]) rfl ?_
    exact lf_retI rfl rfl h
  · have h := h.2 c
    refine lf_seg 5 (pc' := 18) (lv' := [(0, .ref 1), (1, .int (Int32.ofInt x1)), (2, .int (Int32.ofInt x2)), (3, .int (Int32.ofInt x3))]) (st' := [.int (Int32.ofInt x3), .int (Int32.ofInt x1), .ref 1, .int (Int32.ofInt 1), .int (Int32.ofInt x2)]) rfl ?_
    refine lf_callI 21 rfl rfl rfl rfl (gm_77 h) (fun r26 s25 h => ?_)
    refine lf_ishl 22 rfl rfl ?_
    refine lf_ior 23 rfl rfl ?_
    refine lf_seg 1 (pc' := 24) (lv' := [(2, .int (Int32.ofInt (lf_or x2 (lf_shl 1 r26)))), (0, .ref 1), (1, .int (Int32.ofInt x1)), (3, .int (Int32.ofInt x3))]) (st' := []) rfl ?_
    refine lf_iinc 27 rfl rfl rfl rfl ?_
    refine lf_seg 1 (pc' := 4) (lv' := [(3, .int (Int32.ofInt (x3 + 1))), (2, .int (Int32.ofInt (lf_or x2 (lf_shl 1 r26)))), (0, .ref 1), (1, .int (Int32.ofInt x1))]) (st' := []) rfl ?_
    refine lf_sub (l := [(0, .ref 1), (1, .int (Int32.ofInt x1)), (2, .int (Int32.ofInt (lf_or x2 (lf_shl 1 r26)))), (3, .int (Int32.ofInt (x3 + 1)))]) (lf_sb1 rfl (lf_sb1 rfl (lf_sb1 rfl (lf_sb1 rfl lf_sb0)))) ?_
    exact hX4 _ _ _ h
theorem gm_113_p4L {L : Nat} {xs : Nat → Int32} {d : Nat} {Q : Int → lf_Z → Prop} {x1 : Int} {x2 : Int} {x3 : Int} {s : lf_Z} (h : fm_113_p4L Q x1 x2 x3 s) : lf_E (px_ro L xs) (d + 3) 113 4 [(0, .ref 1), (1, .int (Int32.ofInt x1)), (2, .int (Int32.ofInt x2)), (3, .int (Int32.ofInt x3))] [] s (lf_qi Q) :=
  h (fun x2 x3 s => lf_E (px_ro L xs) (d + 3) 113 4 [(0, .ref 1), (1, .int (Int32.ofInt x1)), (2, .int (Int32.ofInt x2)), (3, .int (Int32.ofInt x3))] [] s (lf_qi Q)) (fun x2 x3 s hb => gm_113_p4 (fun _ _ _ h => h) hb)
def fm_113 (a1 : Int) (Q : Int → lf_Z → Prop) (s : lf_Z) : Prop := fm_113_p4L Q a1 0 0 s
set_option maxRecDepth 100000 in
theorem gm_113 {L : Nat} {xs : Nat → Int32} {d : Nat} {a1 : Int} {Q : Int → lf_Z → Prop} {s : lf_Z} (h : fm_113 a1 Q s) : lf_M (px_ro L xs) (d + 3) 113 [.ref 1, .int (Int32.ofInt a1)] s (lf_qi Q) := by
  unfold fm_113 at h
  show lf_E (px_ro L xs) (d + 3) 113 0 [(0, .ref 1), (1, .int (Int32.ofInt a1))] [] s _
  refine lf_seg 4 (pc' := 4) (lv' := [(3, .int (Int32.ofInt 0)), (2, .int (Int32.ofInt 0)), (0, .ref 1), (1, .int (Int32.ofInt a1))]) (st' := []) rfl ?_
  refine lf_sub (l := [(0, .ref 1), (1, .int (Int32.ofInt a1)), (2, .int (Int32.ofInt 0)), (3, .int (Int32.ofInt 0))]) (lf_sb1 rfl (lf_sb1 rfl (lf_sb1 rfl (lf_sb1 rfl lf_sb0)))) ?_
  exact gm_113_p4L h
-- fm_112 ElevenBullocks.ofStretch 0 i i
def fm_112 (a1 : Int) (a2 : Int) (Q : Int → lf_Z → Prop) (s : lf_Z) : Prop := fm_18 a1 (fun z22 s21 => ((z22 = true → (lf_R a2 ∧ ((a2 < 0 ∨ 3 < a2 → (Q (-1) s21)) ∧ (a2 = 0 → ((0 ≤ a1 ∧ a1 < 12) ∧ (Q (s21.1 2 a1) s21))) ∧ (a2 = 1 → ((0 ≤ a1 ∧ a1 < 12) ∧ (Q (s21.1 3 a1) s21))) ∧ (a2 = 2 → ((0 ≤ a1 ∧ a1 < 12) ∧ (Q (s21.1 21 a1) s21))) ∧ (a2 = 3 → (fm_113 a1 (fun r28 s27 => (Q r28 s27)) s21))))) ∧ (z22 = false → (Q (-1) s21)))) s
set_option maxRecDepth 100000 in
theorem gm_112 {L : Nat} {xs : Nat → Int32} {d : Nat} {a1 : Int} {a2 : Int} {Q : Int → lf_Z → Prop} {s : lf_Z} (h : fm_112 a1 a2 Q s) : lf_M (px_ro L xs) (d + 4) 112 [.ref 0, .int (Int32.ofInt a1), .int (Int32.ofInt a2)] s (lf_qi Q) := by
  unfold fm_112 at h
  show lf_E (px_ro L xs) (d + 4) 112 0 [(0, .ref 0), (1, .int (Int32.ofInt a1)), (2, .int (Int32.ofInt a2))] [] s _
  refine lf_seg 3 (pc' := 5) (lv' := [(0, .ref 0), (1, .int (Int32.ofInt a1)), (2, .int (Int32.ofInt a2))]) (st' := [.int (Int32.ofInt a1), .ref 1]) rfl ?_
  refine lf_callZ 8 rfl rfl rfl rfl (gm_18 h) (fun z22 s21 h => ?_)
  refine lf_ifz_ne 13 11 rfl rfl rfl (fun c => ?_) (fun c => ?_)
  · have h := h.1 c
    refine lf_seg 1 (pc' := 14) (lv' := [(0, .ref 0), (1, .int (Int32.ofInt a1)), (2, .int (Int32.ofInt a2))]) (st' := [.int (Int32.ofInt a2)]) rfl ?_
    obtain ⟨o23, h⟩ := h
    refine lf_tsw 83 [(0, 44), (1, 54), (2, 64), (3, 74)] rfl rfl rfl (by decide) o23 (fun c => ?_) (lf_tab1 (fun c => ?_) (lf_tab1 (fun c => ?_) (lf_tab1 (fun c => ?_) (lf_tab1 (fun c => ?_) lf_tab0))))
    · have h := h.1 c
      refine lf_seg 1 (pc' := 84) (lv' := [(0, .ref 0), (1, .int (Int32.ofInt a1)), (2, .int (Int32.ofInt a2))]) (st' := [.int (Int32.ofInt (-1))]) rfl ?_
      exact lf_retI rfl rfl h
    · have h := h.2.1 c
      refine lf_seg 4 (pc' := 52) (lv' := [(0, .ref 0), (1, .int (Int32.ofInt a1)), (2, .int (Int32.ofInt a2))]) (st' := [.int (Int32.ofInt a1), .ref 2]) rfl ?_
      obtain ⟨o24, h⟩ := h
      refine lf_iald 53 12 rfl rfl rfl rfl rfl rfl o24 ?_
      exact lf_retI rfl rfl h
    · have h := h.2.2.1 c
      refine lf_seg 4 (pc' := 62) (lv' := [(0, .ref 0), (1, .int (Int32.ofInt a1)), (2, .int (Int32.ofInt a2))]) (st' := [.int (Int32.ofInt a1), .ref 3]) rfl ?_
      obtain ⟨o25, h⟩ := h
      refine lf_iald 63 12 rfl rfl rfl rfl rfl rfl o25 ?_
      exact lf_retI rfl rfl h
    · have h := h.2.2.2.1 c
      refine lf_seg 4 (pc' := 72) (lv' := [(0, .ref 0), (1, .int (Int32.ofInt a1)), (2, .int (Int32.ofInt a2))]) (st' := [.int (Int32.ofInt a1), .ref 21]) rfl ?_
      obtain ⟨o26, h⟩ := h
      refine lf_iald 73 12 rfl rfl rfl rfl rfl rfl o26 ?_
      exact lf_retI rfl rfl h
    · have h := h.2.2.2.2 c
      refine lf_seg 3 (pc' := 79) (lv' := [(0, .ref 0), (1, .int (Int32.ofInt a1)), (2, .int (Int32.ofInt a2))]) (st' := [.int (Int32.ofInt a1), .ref 1]) rfl ?_
      refine lf_callI 82 rfl rfl rfl rfl (gm_113 h) (fun r28 s27 h => ?_)
      exact lf_retI rfl rfl h
  · have h := h.2 c
    refine lf_seg 1 (pc' := 12) (lv' := [(0, .ref 0), (1, .int (Int32.ofInt a1)), (2, .int (Int32.ofInt a2))]) (st' := [.int (Int32.ofInt (-1))]) rfl ?_
    exact lf_retI rfl rfl h
-- fm_286 Model.ofStretch 95 i i
def fm_286 (a1 : Int) (a2 : Int) (Q : Int → lf_Z → Prop) (s : lf_Z) : Prop := fm_185 a1 (fun z22 s21 => ((z22 = false → (Q (-1) s21)) ∧ (z22 = true → (fm_183 a2 0 3 (fun z24 s23 => ((z24 = true → (lf_R a2 ∧ ((a2 ≠ 3 → ((0 ≤ (14 + (3 * a1)) + a2 ∧ (14 + (3 * a1)) + a2 < 1538) ∧ (Q (s23.1 96 ((14 + (3 * a1)) + a2)) s23))) ∧ (¬ (a2 ≠ 3) → (fm_186 a1 (fun r28 s27 => (Q r28 s27)) s23))))) ∧ (z24 = false → (Q (-1) s23)))) s21)))) s
set_option maxRecDepth 100000 in
theorem gm_286 {L : Nat} {xs : Nat → Int32} {d : Nat} {a1 : Int} {a2 : Int} {Q : Int → lf_Z → Prop} {s : lf_Z} (h : fm_286 a1 a2 Q s) : lf_M (px_ro L xs) (d + 3) 286 [.ref 95, .int (Int32.ofInt a1), .int (Int32.ofInt a2)] s (lf_qi Q) := by
  unfold fm_286 at h
  show lf_E (px_ro L xs) (d + 3) 286 0 [(0, .ref 95), (1, .int (Int32.ofInt a1)), (2, .int (Int32.ofInt a2))] [] s _
  refine lf_seg 2 (pc' := 2) (lv' := [(0, .ref 95), (1, .int (Int32.ofInt a1)), (2, .int (Int32.ofInt a2))]) (st' := [.int (Int32.ofInt a1), .ref 95]) rfl ?_
  refine lf_callZ 5 rfl rfl rfl rfl (gm_185 h) (fun z22 s21 h => ?_)
  refine lf_ifz_eq 17 8 rfl rfl rfl (fun c => ?_) (fun c => ?_)
  · have h := h.1 c
    refine lf_seg 1 (pc' := 18) (lv' := [(0, .ref 95), (1, .int (Int32.ofInt a1)), (2, .int (Int32.ofInt a2))]) (st' := [.int (Int32.ofInt (-1))]) rfl ?_
    exact lf_retI rfl rfl h
  · have h := h.2 c
    refine lf_seg 3 (pc' := 11) (lv' := [(0, .ref 95), (1, .int (Int32.ofInt a1)), (2, .int (Int32.ofInt a2))]) (st' := [.int (Int32.ofInt 3), .int (Int32.ofInt 0), .int (Int32.ofInt a2)]) rfl ?_
    refine lf_callZ 14 rfl rfl rfl rfl (gm_183 h) (fun z24 s23 h => ?_)
    refine lf_ifz_ne 19 17 rfl rfl rfl (fun c => ?_) (fun c => ?_)
    · have h := h.1 c
      refine lf_seg 2 (pc' := 21) (lv' := [(0, .ref 95), (1, .int (Int32.ofInt a1)), (2, .int (Int32.ofInt a2))]) (st' := [.int (Int32.ofInt 3), .int (Int32.ofInt a2)]) rfl ?_
      obtain ⟨o25, h⟩ := h
      refine lf_icmp_ne 32 24 rfl rfl rfl o25 ⟨by decide, by decide⟩ (fun c => ?_) (fun c => ?_)
      · have h := h.1 c
        refine lf_seg 2 (pc' := 36) (lv' := [(0, .ref 95), (1, .int (Int32.ofInt a1)), (2, .int (Int32.ofInt a2))]) (st' := [.ref 96]) rfl ?_
        refine lf_bipush 38 14 rfl rfl (by decide) (by decide) ?_
        refine lf_seg 2 (pc' := 40) (lv' := [(0, .ref 95), (1, .int (Int32.ofInt a1)), (2, .int (Int32.ofInt a2))]) (st' := [.int (Int32.ofInt a1), .int (Int32.ofInt 3), .int (Int32.ofInt 14), .ref 96]) rfl ?_
        refine lf_imul 41 rfl rfl ?_
        refine lf_iadd 42 rfl rfl ?_
        refine lf_seg 1 (pc' := 43) (lv' := [(0, .ref 95), (1, .int (Int32.ofInt a1)), (2, .int (Int32.ofInt a2))]) (st' := [.int (Int32.ofInt a2), .int (Int32.ofInt (14 + (3 * a1))), .ref 96]) rfl ?_
        refine lf_iadd 44 rfl rfl ?_
        obtain ⟨o26, h⟩ := h
        refine lf_iald 45 1538 rfl rfl rfl rfl rfl rfl o26 ?_
        exact lf_retI rfl rfl h
      · have h := h.2 c
        refine lf_seg 2 (pc' := 26) (lv' := [(0, .ref 95), (1, .int (Int32.ofInt a1)), (2, .int (Int32.ofInt a2))]) (st' := [.int (Int32.ofInt a1), .ref 95]) rfl ?_
        refine lf_callI 29 rfl rfl rfl rfl (gm_186 h) (fun r28 s27 h => ?_)
        refine lf_seg 1 (pc' := 45) (lv' := [(0, .ref 95), (1, .int (Int32.ofInt a1)), (2, .int (Int32.ofInt a2))]) (st' := [.int (Int32.ofInt r28)]) rfl ?_
        exact lf_retI rfl rfl h
    · have h := h.2 c
      refine lf_seg 1 (pc' := 18) (lv' := [(0, .ref 95), (1, .int (Int32.ofInt a1)), (2, .int (Int32.ofInt a2))]) (st' := [.int (Int32.ofInt (-1))]) rfl ?_
      exact lf_retI rfl rfl h
