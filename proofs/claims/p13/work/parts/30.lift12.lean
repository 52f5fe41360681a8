-- fm_283 Model.happens 95
def fm_283 (Q : lf_Z → Prop) (s : lf_Z) : Prop := lf_R (s.1 96 6) ∧ (lf_R (s.1 96 1) ∧ ((s.1 96 1) ≠ 0 ∧ (lf_R ((s.1 96 6).tmod 5) ∧ (((s.1 96 6).tmod 5 ≠ 0 ∧ (s.1 96 6).tmod 5 ≠ 1 → (lf_R (s.1 96 3) ∧ ((999 ≤ s.1 96 3 → (Q s)) ∧ (¬ (999 ≤ s.1 96 3) → (fm_260 (fun s26 => (Q s26)) s))))) ∧ ((s.1 96 6).tmod 5 = 0 → (fm_252 ((s.1 96 6).tmod (s.1 96 1)) (fun z28 s27 => ((z28 = true → (Q s27)) ∧ (z28 = false → ((0 ≤ (50 + (4 * ((s.1 96 6).tmod (s.1 96 1)))) + 3 ∧ (50 + (4 * ((s.1 96 6).tmod (s.1 96 1)))) + 3 < 1538) ∧ (Q (lf_up s27.1 96 ((50 + (4 * ((s.1 96 6).tmod (s.1 96 1)))) + 3) (lf_w (1 - (s27.1 96 ((50 + (4 * ((s.1 96 6).tmod (s.1 96 1)))) + 3)))), s27.2.1, s27.2.2)))))) s)) ∧ ((s.1 96 6).tmod 5 = 1 → (lf_R (s.1 96 2) ∧ ((s.1 96 2 ≤ 0 → (Q s)) ∧ (¬ (s.1 96 2 ≤ 0) → ((s.1 96 2) ≠ 0 ∧ (lf_R (s.1 96 0) ∧ ((s.1 96 0) ≠ 0 ∧ (fm_191e ((s.1 96 6).tmod (s.1 96 2)) ((s.1 96 6).tmod (s.1 96 0)) (fun s34 => (Q s34)) s))))))))))))
set_option maxRecDepth 100000 in
theorem gm_283 {L : Nat} {xs : Nat → Int32} {d : Nat} {Q : lf_Z → Prop} {s : lf_Z} (h : fm_283 Q s) : lf_M (px_ro L xs) (d + 8) 283 [.ref 95] s (lf_qv Q) := by
  unfold fm_283 at h
  show lf_E (px_ro L xs) (d + 8) 283 0 [(0, .ref 95)] [] s _
  refine lf_seg 2 (pc' := 4) (lv' := [(0, .ref 95)]) (st' := [.ref 96]) rfl ?_
  refine lf_bipush 6 6 rfl rfl (by decide) (by decide) ?_
  refine lf_iald 7 1538 rfl rfl rfl rfl rfl rfl ⟨by decide, by decide⟩ ?_
  refine lf_seg 5 (pc' := 14) (lv' := [(1, .int (Int32.ofInt (s.1 96 6))), (0, .ref 95)]) (st' := [.int (Int32.ofInt 1), .ref 96, .int (Int32.ofInt (s.1 96 6))]) rfl ?_
  refine lf_iald 15 1538 rfl rfl rfl rfl rfl rfl ⟨by decide, by decide⟩ ?_
  obtain ⟨o21, h⟩ := h
  obtain ⟨o22, h⟩ := h
  obtain ⟨o23, h⟩ := h
  refine lf_irem 16 rfl rfl o21 o22 o23 ?_
  refine lf_seg 3 (pc' := 19) (lv' := [(2, .int (Int32.ofInt ((s.1 96 6).tmod (s.1 96 1)))), (1, .int (Int32.ofInt (s.1 96 6))), (0, .ref 95)]) (st' := [.int (Int32.ofInt 5), .int (Int32.ofInt (s.1 96 6))]) rfl ?_
  refine lf_irem 20 rfl rfl o21 ⟨by decide, by decide⟩ (by decide) ?_
  obtain ⟨o24, h⟩ := h
  refine lf_lsw 120 [(0, 48), (1, 87)] rfl rfl (by decide) (by decide) (by decide) o24 (fun c => ?_) (lf_tab1 (fun c => ?_) (lf_tab1 (fun c => ?_) lf_tab0))
  · have h := h.1 c
    refine lf_seg 3 (pc' := 125) (lv' := [(2, .int (Int32.ofInt ((s.1 96 6).tmod (s.1 96 1)))), (1, .int (Int32.ofInt (s.1 96 6))), (0, .ref 95)]) (st' := [.int (Int32.ofInt 3), .ref 96]) rfl ?_
    refine lf_iald 126 1538 rfl rfl rfl rfl rfl rfl ⟨by decide, by decide⟩ ?_
    refine lf_sipush 129 999 rfl rfl (by decide) (by decide) ?_
    obtain ⟨o25, h⟩ := h
    refine lf_icmp_ge 136 132 rfl rfl rfl o25 ⟨by decide, by decide⟩ (fun c => ?_) (fun c => ?_)
    · have h := h.1 c
      exact lf_retV rfl rfl h
    · have h := h.2 c
      refine lf_seg 1 (pc' := 133) (lv' := [(2, .int (Int32.ofInt ((s.1 96 6).tmod (s.1 96 1)))), (1, .int (Int32.ofInt (s.1 96 6))), (0, .ref 95)]) (st' := [.ref 95]) rfl ?_
      refine lf_callV 136 rfl rfl rfl rfl (gm_260 h) (fun s26 h => ?_)
      exact lf_retV rfl rfl h
  · have h := h.2.1 c
    refine lf_seg 2 (pc' := 50) (lv' := [(2, .int (Int32.ofInt ((s.1 96 6).tmod (s.1 96 1)))), (1, .int (Int32.ofInt (s.1 96 6))), (0, .ref 95)]) (st' := [.int (Int32.ofInt ((s.1 96 6).tmod (s.1 96 1))), .ref 95]) rfl ?_
    refine lf_callZ 53 rfl rfl rfl rfl (gm_252 h) (fun z28 s27 h => ?_)
    refine lf_ifz_ne 136 56 rfl rfl rfl (fun c => ?_) (fun c => ?_)
    · have h := h.1 c
      exact lf_retV rfl rfl h
    · have h := h.2 c
      refine lf_seg 2 (pc' := 60) (lv' := [(2, .int (Int32.ofInt ((s.1 96 6).tmod (s.1 96 1)))), (1, .int (Int32.ofInt (s.1 96 6))), (0, .ref 95)]) (st' := [.ref 96]) rfl ?_
      refine lf_bipush 62 50 rfl rfl (by decide) (by decide) ?_
      refine lf_seg 2 (pc' := 64) (lv' := [(2, .int (Int32.ofInt ((s.1 96 6).tmod (s.1 96 1)))), (1, .int (Int32.ofInt (s.1 96 6))), (0, .ref 95)]) (st' := [.int (Int32.ofInt ((s.1 96 6).tmod (s.1 96 1))), .int (Int32.ofInt 4), .int (Int32.ofInt 50), .ref 96]) rfl ?_
      refine lf_imul 65 rfl rfl ?_
      refine lf_iadd 66 rfl rfl ?_
      refine lf_seg 1 (pc' := 67) (lv' := [(2, .int (Int32.ofInt ((s.1 96 6).tmod (s.1 96 1)))), (1, .int (Int32.ofInt (s.1 96 6))), (0, .ref 95)]) (st' := [.int (Int32.ofInt 3), .int (Int32.ofInt (50 + (4 * ((s.1 96 6).tmod (s.1 96 1))))), .ref 96]) rfl ?_
      refine lf_iadd 68 rfl rfl ?_
      refine lf_seg 3 (pc' := 73) (lv' := [(2, .int (Int32.ofInt ((s.1 96 6).tmod (s.1 96 1)))), (1, .int (Int32.ofInt (s.1 96 6))), (0, .ref 95)]) (st' := [.ref 96, .int (Int32.ofInt 1), .int (Int32.ofInt ((50 + (4 * ((s.1 96 6).tmod (s.1 96 1)))) + 3)), .ref 96]) rfl ?_
      refine lf_bipush 75 50 rfl rfl (by decide) (by decide) ?_
      refine lf_seg 2 (pc' := 77) (lv' := [(2, .int (Int32.ofInt ((s.1 96 6).tmod (s.1 96 1)))), (1, .int (Int32.ofInt (s.1 96 6))), (0, .ref 95)]) (st' := [.int (Int32.ofInt ((s.1 96 6).tmod (s.1 96 1))), .int (Int32.ofInt 4), .int (Int32.ofInt 50), .ref 96, .int (Int32.ofInt 1), .int (Int32.ofInt ((50 + (4 * ((s.1 96 6).tmod (s.1 96 1)))) + 3)), .ref 96]) rfl ?_
      refine lf_imul 78 rfl rfl ?_
      refine lf_iadd 79 rfl rfl ?_
      refine lf_seg 1 (pc' := 80) (lv' := [(2, .int (Int32.ofInt ((s.1 96 6).tmod (s.1 96 1)))), (1, .int (Int32.ofInt (s.1 96 6))), (0, .ref 95)]) (st' := [.int (Int32.ofInt 3), .int (Int32.ofInt (50 + (4 * ((s.1 96 6).tmod (s.1 96 1))))), .ref 96, .int (Int32.ofInt 1), .int (Int32.ofInt ((50 + (4 * ((s.1 96 6).tmod (s.1 96 1)))) + 3)), .ref 96]) rfl ?_
      refine lf_iadd 81 rfl rfl ?_
      obtain ⟨o29, h⟩ := h
      refine lf_iald 82 1538 rfl rfl rfl rfl rfl rfl o29 ?_
      refine lf_isub 83 rfl rfl ?_
      refine lf_wtI ?_
      refine lf_iast 84 1538 rfl rfl rfl rfl rfl rfl o29 ?_
      refine lf_as (lf_up s27.1 96 ((50 + (4 * ((s.1 96 6).tmod (s.1 96 1)))) + 3) (lf_w (1 - (s27.1 96 ((50 + (4 * ((s.1 96 6).tmod (s.1 96 1)))) + 3)))), s27.2.1, s27.2.2) rfl ?_
      refine lf_seg 1 (pc' := 136) (lv' := [(2, .int (Int32.ofInt ((s.1 96 6).tmod (s.1 96 1)))), (1, .int (Int32.ofInt (s.1 96 6))), (0, .ref 95)]) (st' := []) rfl ?_
      exact lf_retV rfl rfl h
  · have h := h.2.2 c
    refine lf_seg 3 (pc' := 92) (lv' := [(2, .int (Int32.ofInt ((s.1 96 6).tmod (s.1 96 1)))), (1, .int (Int32.ofInt (s.1 96 6))), (0, .ref 95)]) (st' := [.int (Int32.ofInt 2), .ref 96]) rfl ?_
    refine lf_iald 93 1538 rfl rfl rfl rfl rfl rfl ⟨by decide, by decide⟩ ?_
    obtain ⟨o30, h⟩ := h
    refine lf_if_le 136 96 rfl rfl rfl o30 (fun c => ?_) (fun c => ?_)
    · have h := h.1 c
      exact lf_retV rfl rfl h
    · have h := h.2 c
      refine lf_seg 5 (pc' := 103) (lv' := [(2, .int (Int32.ofInt ((s.1 96 6).tmod (s.1 96 1)))), (1, .int (Int32.ofInt (s.1 96 6))), (0, .ref 95)]) (st' := [.int (Int32.ofInt 2), .ref 96, .int (Int32.ofInt (s.1 96 6)), .ref 95]) rfl ?_
      refine lf_iald 104 1538 rfl rfl rfl rfl rfl rfl ⟨by decide, by decide⟩ ?_
      obtain ⟨o31, h⟩ := h
      refine lf_irem 105 rfl rfl o21 o30 o31 ?_
      refine lf_seg 5 (pc' := 112) (lv' := [(2, .int (Int32.ofInt ((s.1 96 6).tmod (s.1 96 1)))), (1, .int (Int32.ofInt (s.1 96 6))), (0, .ref 95)]) (st' := [.int (Int32.ofInt 0), .ref 96, .int (Int32.ofInt (s.1 96 6)), .int (Int32.ofInt 4), .int (Int32.ofInt ((s.1 96 6).tmod (s.1 96 2))), .ref 95]) rfl ?_
      refine lf_iald 113 1538 rfl rfl rfl rfl rfl rfl ⟨by decide, by decide⟩ ?_
      obtain ⟨o32, h⟩ := h
      obtain ⟨o33, h⟩ := h
      refine lf_irem 114 rfl rfl o21 o32 o33 ?_
      refine lf_callV 117 rfl rfl rfl rfl (gm_191e h) (fun s34 h => ?_)
      refine lf_seg 1 (pc' := 136) (lv' := [(2, .int (Int32.ofInt ((s.1 96 6).tmod (s.1 96 1)))), (1, .int (Int32.ofInt (s.1 96 6))), (0, .ref 95)]) (st' := []) rfl ?_
      exact lf_retV rfl rfl h
-- fm_282 Model.day 95 i i
def fm_282_p51 (Q : Int → lf_Z → Prop) (x2 : Int) (X51 : Int → lf_Z → Prop) (x3 : Int) (s : lf_Z) : Prop := lf_R x3 ∧ (lf_R x2 ∧ ((x2 ≤ x3 → (fm_279 (fun r30 s29 => (Q r30 s29)) s)) ∧ (¬ (x2 ≤ x3) → (fm_283 (fun s31 => (fm_276 (fun s32 => (X51 (x3 + 1) s32)) s31)) s))))
def fm_282_p51L (Q : Int → lf_Z → Prop) (x2 : Int) (x3 : Int) (s : lf_Z) : Prop := ∀ X51 : Int → lf_Z → Prop, (∀ (x3 : Int) (s : lf_Z), fm_282_p51 Q x2 X51 x3 s → X51 x3 s) → X51 x3 s
set_option maxRecDepth 100000 in
theorem gm_282_p51 {L : Nat} {xs : Nat → Int32} {d : Nat} {Q : Int → lf_Z → Prop} {x2 : Int} {x3 : Int} {s : lf_Z} {X51 : Int → lf_Z → Prop} (hX51 : ∀ x3 s, X51 x3 s → lf_E (px_ro L xs) (d + 9) 282 51 [(0, .ref 95), (2, .int (Int32.ofInt x2)), (3, .int (Int32.ofInt x3))] [] s (lf_qi Q)) (h : fm_282_p51 Q x2 X51 x3 s) : lf_E (px_ro L xs) (d + 9) 282 51 [(0, .ref 95), (2, .int (Int32.ofInt x2)), (3, .int (Int32.ofInt x3))] [] s (lf_qi Q) := by
  unfold fm_282_p51 at h
  refine lf_seg 2 (pc' := 53) (lv' := [(0, .ref 95), (2, .int (Int32.ofInt x2)), (3, .int (Int32.ofInt x3))]) (st' := [.int (Int32.ofInt x2), .int (Int32.ofInt x3)]) rfl ?_
  obtain ⟨o27, h⟩ := h
  obtain ⟨o28, h⟩ := h
  refine lf_icmp_ge 70 56 rfl rfl rfl o27 o28 (fun c => ?_) (fun c => ?_)
  · have h := h.1 c
    refine lf_seg 1 (pc' := 71) (lv' := [(0, .ref 95), (2, .int (Int32.ofInt x2)), (3, .int (Int32.ofInt x3))]) (st' := [.ref 95]) rfl ?_
    refine lf_callI 74 rfl rfl rfl rfl (gm_279 h) (fun r30 s29 h => ?_)
    exact lf_retI rfl rfl h
  · have h := h.2 c
    refine lf_seg 1 (pc' := 57) (lv' := [(0, .ref 95), (2, .int (Int32.ofInt x2)), (3, .int (Int32.ofInt x3))]) (st' := [.ref 95]) rfl ?_
    refine lf_callV 60 rfl rfl rfl rfl (gm_283 h) (fun s31 h => ?_)
    refine lf_seg 1 (pc' := 61) (lv' := [(0, .ref 95), (2, .int (Int32.ofInt x2)), (3, .int (Int32.ofInt x3))]) (st' := [.ref 95]) rfl ?_
    refine lf_callV 64 rfl rfl rfl rfl (gm_276 h) (fun s32 h => ?_)
    refine lf_iinc 67 rfl rfl rfl rfl ?_
    refine lf_seg 1 (pc' := 51) (lv' := [(3, .int (Int32.ofInt (x3 + 1))), (0, .ref 95), (2, .int (Int32.ofInt x2))]) (st' := []) rfl ?_
    refine lf_sub (l := [(0, .ref 95), (2, .int (Int32.ofInt x2)), (3, .int (Int32.ofInt (x3 + 1)))]) (lf_sb1 rfl (lf_sb1 rfl (lf_sb1 rfl lf_sb0))) ?_
    exact hX51 _ _ h
theorem gm_282_p51L {L : Nat} {xs : Nat → Int32} {d : Nat} {Q : Int → lf_Z → Prop} {x2 : Int} {x3 : Int} {s : lf_Z} (h : fm_282_p51L Q x2 x3 s) : lf_E (px_ro L xs) (d + 9) 282 51 [(0, .ref 95), (2, .int (Int32.ofInt x2)), (3, .int (Int32.ofInt x3))] [] s (lf_qi Q) :=
  h (fun x3 s => lf_E (px_ro L xs) (d + 9) 282 51 [(0, .ref 95), (2, .int (Int32.ofInt x2)), (3, .int (Int32.ofInt x3))] [] s (lf_qi Q)) (fun x3 s hb => gm_282_p51 (fun _ _ h => h) hb)
def fm_282 (a1 : Int) (a2 : Int) (Q : Int → lf_Z → Prop) (s : lf_Z) : Prop := fm_183 a1 0 9999 (fun z22 s21 => ((z22 = false → (Q (-1) s21)) ∧ (z22 = true → (fm_183 a2 1 30 (fun z24 s23 => ((z24 = false → (Q (-1) s23)) ∧ (z24 = true → (lf_R (s23.1 96 1) ∧ ((s23.1 96 1 ≠ 0 → (fm_244 (fun s26 => (fm_282_p51L Q a2 0 (lf_up s26.1 96 6 ((a1 * 3) + 41), s26.2.1, s26.2.2))) s23)) ∧ (¬ (s23.1 96 1 ≠ 0) → (Q (-1) s23))))))) s21)))) s
set_option maxRecDepth 100000 in
theorem gm_282 {L : Nat} {xs : Nat → Int32} {d : Nat} {a1 : Int} {a2 : Int} {Q : Int → lf_Z → Prop} {s : lf_Z} (h : fm_282 a1 a2 Q s) : lf_M (px_ro L xs) (d + 9) 282 [.ref 95, .int (Int32.ofInt a1), .int (Int32.ofInt a2)] s (lf_qi Q) := by
  unfold fm_282 at h
  show lf_E (px_ro L xs) (d + 9) 282 0 [(0, .ref 95), (1, .int (Int32.ofInt a1)), (2, .int (Int32.ofInt a2))] [] s _
  refine lf_seg 2 (pc' := 2) (lv' := [(0, .ref 95), (1, .int (Int32.ofInt a1)), (2, .int (Int32.ofInt a2))]) (st' := [.int (Int32.ofInt 0), .int (Int32.ofInt a1)]) rfl ?_
  refine lf_sipush 5 9999 rfl rfl (by decide) (by decide) ?_
  refine lf_callZ 8 rfl rfl rfl rfl (gm_183 h) (fun z22 s21 h => ?_)
  refine lf_ifz_eq 30 11 rfl rfl rfl (fun c => ?_) (fun c => ?_)
  · have h := h.1 c
    refine lf_seg 1 (pc' := 31) (lv' := [(0, .ref 95), (1, .int (Int32.ofInt a1)), (2, .int (Int32.ofInt a2))]) (st' := [.int (Int32.ofInt (-1))]) rfl ?_
    exact lf_retI rfl rfl h
  · have h := h.2 c
    refine lf_seg 2 (pc' := 13) (lv' := [(0, .ref 95), (1, .int (Int32.ofInt a1)), (2, .int (Int32.ofInt a2))]) (st' := [.int (Int32.ofInt 1), .int (Int32.ofInt a2)]) rfl ?_
    refine lf_bipush 15 30 rfl rfl (by decide) (by decide) ?_
    refine lf_callZ 18 rfl rfl rfl rfl (gm_183 h) (fun z24 s23 h => ?_)
    refine lf_ifz_eq 30 21 rfl rfl rfl (fun c => ?_) (fun c => ?_)
    · have h := h.1 c
      refine lf_seg 1 (pc' := 31) (lv' := [(0, .ref 95), (1, .int (Int32.ofInt a1)), (2, .int (Int32.ofInt a2))]) (st' := [.int (Int32.ofInt (-1))]) rfl ?_
      exact lf_retI rfl rfl h
    · have h := h.2 c
      refine lf_seg 3 (pc' := 26) (lv' := [(0, .ref 95), (1, .int (Int32.ofInt a1)), (2, .int (Int32.ofInt a2))]) (st' := [.int (Int32.ofInt 1), .ref 96]) rfl ?_
      refine lf_iald 27 1538 rfl rfl rfl rfl rfl rfl ⟨by decide, by decide⟩ ?_
      obtain ⟨o25, h⟩ := h
      refine lf_if_ne 32 30 rfl rfl rfl o25 (fun c => ?_) (fun c => ?_)
      · have h := h.1 c
        refine lf_seg 1 (pc' := 33) (lv' := [(0, .ref 95), (1, .int (Int32.ofInt a1)), (2, .int (Int32.ofInt a2))]) (st' := [.ref 95]) rfl ?_
        refine lf_callV 36 rfl rfl rfl rfl (gm_244 h) (fun s26 h => ?_)
        refine lf_seg 2 (pc' := 40) (lv' := [(0, .ref 95), (1, .int (Int32.ofInt a1)), (2, .int (Int32.ofInt a2))]) (st' := [.ref 96]) rfl ?_
        refine lf_bipush 42 6 rfl rfl (by decide) (by decide) ?_
        refine lf_seg 2 (pc' := 44) (lv' := [(0, .ref 95), (1, .int (Int32.ofInt a1)), (2, .int (Int32.ofInt a2))]) (st' := [.int (Int32.ofInt 3), .int (Int32.ofInt a1), .int (Int32.ofInt 6), .ref 96]) rfl ?_
        refine lf_imul 45 rfl rfl ?_
        refine lf_bipush 47 41 rfl rfl (by decide) (by decide) ?_
        refine lf_iadd 48 rfl rfl ?_
        refine lf_iast 49 1538 rfl rfl rfl rfl rfl rfl ⟨by decide, by decide⟩ ?_
        refine lf_as (lf_up s26.1 96 6 ((a1 * 3) + 41), s26.2.1, s26.2.2) rfl ?_
        refine lf_seg 2 (pc' := 51) (lv' := [(3, .int (Int32.ofInt 0)), (0, .ref 95), (1, .int (Int32.ofInt a1)), (2, .int (Int32.ofInt a2))]) (st' := []) rfl ?_
        refine lf_sub (l := [(0, .ref 95), (2, .int (Int32.ofInt a2)), (3, .int (Int32.ofInt 0))]) (lf_sb1 rfl (lf_sb1 rfl (lf_sb1 rfl lf_sb0))) ?_
        exact gm_282_p51L h
      · have h := h.2 c
        refine lf_seg 1 (pc' := 31) (lv' := [(0, .ref 95), (1, .int (Int32.ofInt a1)), (2, .int (Int32.ofInt a2))]) (st' := [.int (Int32.ofInt (-1))]) rfl ?_
        exact lf_retI rfl rfl h
-- fm_109 Stand.readFrom 15 23 i
def fm_109_p42 (Q : lf_Z → Prop) (X42 : Int → Int → lf_Z → Prop) (x3 : Int) (x4 : Int) (s : lf_Z) : Prop := lf_R x4 ∧ ((6 ≤ x4 → (((0 : Int) ≤ x3 ∧ (0 : Int) ≤ 0 ∧ (0 : Int) ≤ 12 ∧ (x3 : Int) + 12 ≤ 1170 ∧ (0 : Int) + 12 ≤ 12) ∧ ((0 ≤ x3 + 12 ∧ x3 + 12 < 1170) ∧ ((0 ≤ (x3 + 12) + 1 ∧ (x3 + 12) + 1 < 1170) ∧ ((0 ≤ (x3 + 12) + 2 ∧ (x3 + 12) + 2 < 1170) ∧ (Q (lf_up (lf_up (lf_up (lf_cp s.1 23 21 x3 0 12) 15 6 ((lf_cp s.1 23 21 x3 0 12) 23 (x3 + 12))) 15 7 ((lf_cp s.1 23 21 x3 0 12) 23 ((x3 + 12) + 1))) 15 8 ((lf_cp s.1 23 21 x3 0 12) 23 ((x3 + 12) + 2)), s.2.1, s.2.2))))))) ∧ (¬ (6 ≤ x4) → ((0 ≤ x3 ∧ x3 < 1170) ∧ ((0 ≤ x4 ∧ x4 < 6) ∧ ((0 ≤ x3 + 1 ∧ x3 + 1 < 1170) ∧ (X42 (x3 + 2) (x4 + 1) (lf_up (lf_up s.1 19 x4 (s.1 23 x3)) 20 x4 (s.1 23 (x3 + 1)), s.2.1, s.2.2)))))))
def fm_109_p42L (Q : lf_Z → Prop) (x3 : Int) (x4 : Int) (s : lf_Z) : Prop := ∀ X42 : Int → Int → lf_Z → Prop, (∀ (x3 : Int) (x4 : Int) (s : lf_Z), fm_109_p42 Q X42 x3 x4 s → X42 x3 x4 s) → X42 x3 x4 s
set_option maxRecDepth 100000 in
theorem gm_109_p42 {L : Nat} {xs : Nat → Int32} {d : Nat} {Q : lf_Z → Prop} {x3 : Int} {x4 : Int} {s : lf_Z} {X42 : Int → Int → lf_Z → Prop} (hX42 : ∀ x3 x4 s, X42 x3 x4 s → lf_E (px_ro L xs) (d + 2) 109 42 [(0, .ref 15), (1, .ref 23), (3, .int (Int32.ofInt x3)), (4, .int (Int32.ofInt x4))] [] s (lf_qv Q)) (h : fm_109_p42 Q X42 x3 x4 s) : lf_E (px_ro L xs) (d + 2) 109 42 [(0, .ref 15), (1, .ref 23), (3, .int (Int32.ofInt x3)), (4, .int (Int32.ofInt x4))] [] s (lf_qv Q) := by
  unfold fm_109_p42 at h
  refine lf_seg 1 (pc' := 44) (lv' := [(0, .ref 15), (1, .ref 23), (3, .int (Int32.ofInt x3)), (4, .int (Int32.ofInt x4))]) (st' := [.int (Int32.ofInt x4)]) rfl ?_
  refine lf_bipush 46 6 rfl rfl (by decide) (by decide) ?_
  obtain ⟨o22, h⟩ := h
  refine lf_icmp_ge 80 49 rfl rfl rfl o22 ⟨by decide, by decide⟩ (fun c => ?_) (fun c => ?_)
  · have h := h.1 c
    refine lf_seg 5 (pc' := 87) (lv' := [(0, .ref 15), (1, .ref 23), (3, .int (Int32.ofInt x3)), (4, .int (Int32.ofInt x4))]) (st' := [.int (Int32.ofInt 0), .ref 21, .int (Int32.ofInt x3), .ref 23]) rfl ?_
    refine lf_bipush 89 12 rfl rfl (by decide) (by decide) ?_
    obtain ⟨o23, h⟩ := h
    refine lf_cpy 92 rfl rfl rfl rfl rfl rfl rfl rfl rfl rfl rfl rfl o23 ?_
    refine lf_as (lf_cp s.1 23 21 x3 0 12, s.2.1, s.2.2) rfl ?_
    refine lf_iinc 95 rfl rfl rfl rfl ?_
    refine lf_seg 3 (pc' := 98) (lv' := [(3, .int (Int32.ofInt (x3 + 12))), (0, .ref 15), (1, .ref 23), (4, .int (Int32.ofInt x4))]) (st' := [.int (Int32.ofInt (x3 + 12)), .ref 23, .ref 15]) rfl ?_
    obtain ⟨o24, h⟩ := h
    refine lf_iald 99 1170 rfl rfl rfl rfl rfl rfl o24 ?_
    refine lf_putI 102 6 rfl rfl rfl rfl rfl rfl rfl rfl ?_
    refine lf_as (lf_up (lf_cp s.1 23 21 x3 0 12) 15 6 ((lf_cp s.1 23 21 x3 0 12) 23 (x3 + 12)), s.2.1, s.2.2) rfl ?_
    refine lf_seg 4 (pc' := 106) (lv' := [(3, .int (Int32.ofInt (x3 + 12))), (0, .ref 15), (1, .ref 23), (4, .int (Int32.ofInt x4))]) (st' := [.int (Int32.ofInt 1), .int (Int32.ofInt (x3 + 12)), .ref 23, .ref 15]) rfl ?_
    refine lf_iadd 107 rfl rfl ?_
    obtain ⟨o25, h⟩ := h
    refine lf_iald 108 1170 rfl rfl rfl rfl rfl rfl o25 ?_
    refine lf_seg 0 (pc' := 108) (lv' := [(3, .int (Int32.ofInt (x3 + 12))), (0, .ref 15), (1, .ref 23), (4, .int (Int32.ofInt x4))]) (st' := [.int (Int32.ofInt ((lf_cp s.1 23 21 x3 0 12) 23 ((x3 + 12) + 1))), .ref 15]) rfl ?_
    refine lf_putI 111 7 rfl rfl rfl rfl rfl rfl rfl rfl ?_
    refine lf_as (lf_up (lf_up (lf_cp s.1 23 21 x3 0 12) 15 6 ((lf_cp s.1 23 21 x3 0 12) 23 (x3 + 12))) 15 7 ((lf_cp s.1 23 21 x3 0 12) 23 ((x3 + 12) + 1)), s.2.1, s.2.2) rfl ?_
    refine lf_seg 4 (pc' := 115) (lv' := [(3, .int (Int32.ofInt (x3 + 12))), (0, .ref 15), (1, .ref 23), (4, .int (Int32.ofInt x4))]) (st' := [.int (Int32.ofInt 2), .int (Int32.ofInt (x3 + 12)), .ref 23, .ref 15]) rfl ?_
    refine lf_iadd 116 rfl rfl ?_
    obtain ⟨o26, h⟩ := h
    refine lf_iald 117 1170 rfl rfl rfl rfl rfl rfl o26 ?_
    refine lf_seg 0 (pc' := 117) (lv' := [(3, .int (Int32.ofInt (x3 + 12))), (0, .ref 15), (1, .ref 23), (4, .int (Int32.ofInt x4))]) (st' := [.int (Int32.ofInt ((lf_cp s.1 23 21 x3 0 12) 23 ((x3 + 12) + 2))), .ref 15]) rfl ?_
    refine lf_putI 120 8 rfl rfl rfl rfl rfl rfl rfl rfl ?_
    refine lf_as (lf_up (lf_up (lf_up (lf_cp s.1 23 21 x3 0 12) 15 6 ((lf_cp s.1 23 21 x3 0 12) 23 (x3 + 12))) 15 7 ((lf_cp s.1 23 21 x3 0 12) 23 ((x3 + 12) + 1))) 15 8 ((lf_cp s.1 23 21 x3 0 12) 23 ((x3 + 12) + 2)), s.2.1, s.2.2) rfl ?_
    exact lf_retV rfl rfl h
  · have h := h.2 c
    refine lf_seg 5 (pc' := 57) (lv' := [(0, .ref 15), (1, .ref 23), (3, .int (Int32.ofInt x3)), (4, .int (Int32.ofInt x4))]) (st' := [.int (Int32.ofInt x3), .ref 23, .int (Int32.ofInt x4), .ref 19]) rfl ?_
    obtain ⟨o27, h⟩ := h
    refine lf_iald 58 1170 rfl rfl rfl rfl rfl rfl o27 ?_
    obtain ⟨o28, h⟩ := h
    refine lf_iast 59 6 rfl rfl rfl rfl rfl rfl o28 ?_
    refine lf_as (lf_up s.1 19 x4 (s.1 23 x3), s.2.1, s.2.2) rfl ?_
    refine lf_seg 6 (pc' := 68) (lv' := [(0, .ref 15), (1, .ref 23), (3, .int (Int32.ofInt x3)), (4, .int (Int32.ofInt x4))]) (st' := [.int (Int32.ofInt 1), .int (Int32.ofInt x3), .ref 23, .int (Int32.ofInt x4), .ref 20]) rfl ?_
    refine lf_iadd 69 rfl rfl ?_
    obtain ⟨o29, h⟩ := h
    refine lf_iald 70 1170 rfl rfl rfl rfl rfl rfl o29 ?_
    refine lf_seg 0 (pc' := 70) (lv' := [(0, .ref 15), (1, .ref 23), (3, .int (Int32.ofInt x3)), (4, .int (Int32.ofInt x4))]) (st' := [.int (Int32.ofInt (s.1 23 (x3 + 1))), .int (Int32.ofInt x4), .ref 20]) rfl ?_
    refine lf_iast 71 6 rfl rfl rfl rfl rfl rfl o28 ?_
    refine lf_as (lf_up (lf_up s.1 19 x4 (s.1 23 x3)) 20 x4 (s.1 23 (x3 + 1)), s.2.1, s.2.2) rfl ?_
    refine lf_iinc 74 rfl rfl rfl rfl ?_
    refine lf_seg 0 (pc' := 74) (lv' := [(4, .int (Int32.ofInt (x4 + 1))), (0, .ref 15), (1, .ref 23), (3, .int (Int32.ofInt x3))]) (st' := []) rfl ?_
    refine lf_iinc 77 rfl rfl rfl rfl ?_
    refine lf_seg 1 (pc' := 42) (lv' := [(3, .int (Int32.ofInt (x3 + 2))), (4, .int (Int32.ofInt (x4 + 1))), (0, .ref 15), (1, .ref 23)]) (st' := []) rfl ?_
    refine lf_sub (l := [(0, .ref 15), (1, .ref 23), (3, .int (Int32.ofInt (x3 + 2))), (4, .int (Int32.ofInt (x4 + 1)))]) (lf_sb1 rfl (lf_sb1 rfl (lf_sb1 rfl (lf_sb1 rfl lf_sb0)))) ?_
    exact hX42 _ _ _ h
theorem gm_109_p42L {L : Nat} {xs : Nat → Int32} {d : Nat} {Q : lf_Z → Prop} {x3 : Int} {x4 : Int} {s : lf_Z} (h : fm_109_p42L Q x3 x4 s) : lf_E (px_ro L xs) (d + 2) 109 42 [(0, .ref 15), (1, .ref 23), (3, .int (Int32.ofInt x3)), (4, .int (Int32.ofInt x4))] [] s (lf_qv Q) :=
  h (fun x3 x4 s => lf_E (px_ro L xs) (d + 2) 109 42 [(0, .ref 15), (1, .ref 23), (3, .int (Int32.ofInt x3)), (4, .int (Int32.ofInt x4))] [] s (lf_qv Q)) (fun x3 x4 s hb => gm_109_p42 (fun _ _ _ h => h) hb)
def fm_109_p5 (Q : lf_Z → Prop) (X5 : Int → Int → lf_Z → Prop) (x3 : Int) (x4 : Int) (s : lf_Z) : Prop := lf_R x4 ∧ ((4 ≤ x4 → (fm_109_p42L Q x3 0 s)) ∧ (¬ (4 ≤ x4) → ((0 ≤ x3 ∧ x3 < 1170) ∧ ((0 ≤ x3 + 1 ∧ x3 + 1 < 1170) ∧ ((0 ≤ x3 + 2 ∧ x3 + 2 < 1170) ∧ (fm_69 x4 (s.1 23 x3) (s.1 23 (x3 + 1)) (s.1 23 (x3 + 2)) (fun s33 => (X5 (x3 + 3) (x4 + 1) s33)) s))))))
def fm_109_p5L (Q : lf_Z → Prop) (x3 : Int) (x4 : Int) (s : lf_Z) : Prop := ∀ X5 : Int → Int → lf_Z → Prop, (∀ (x3 : Int) (x4 : Int) (s : lf_Z), fm_109_p5 Q X5 x3 x4 s → X5 x3 x4 s) → X5 x3 x4 s
set_option maxRecDepth 100000 in
theorem gm_109_p5 {L : Nat} {xs : Nat → Int32} {d : Nat} {Q : lf_Z → Prop} {x3 : Int} {x4 : Int} {s : lf_Z} {X5 : Int → Int → lf_Z → Prop} (hX5 : ∀ x3 x4 s, X5 x3 x4 s → lf_E (px_ro L xs) (d + 2) 109 5 [(0, .ref 15), (1, .ref 23), (3, .int (Int32.ofInt x3)), (4, .int (Int32.ofInt x4))] [] s (lf_qv Q)) (h : fm_109_p5 Q X5 x3 x4 s) : lf_E (px_ro L xs) (d + 2) 109 5 [(0, .ref 15), (1, .ref 23), (3, .int (Int32.ofInt x3)), (4, .int (Int32.ofInt x4))] [] s (lf_qv Q) := by
  unfold fm_109_p5 at h
  refine lf_seg 2 (pc' := 8) (lv' := [(0, .ref 15), (1, .ref 23), (3, .int (Int32.ofInt x3)), (4, .int (Int32.ofInt x4))]) (st' := [.int (Int32.ofInt 4), .int (Int32.ofInt x4)]) rfl ?_
  obtain ⟨o21, h⟩ := h
  refine lf_icmp_ge 39 11 rfl rfl rfl o21 ⟨by decide, by decide⟩ (fun c => ?_) (fun c => ?_)
  · have h := h.1 c
    refine lf_seg 2 (pc' := 42) (lv' := [(4, .int (Int32.ofInt 0)), (0, .ref 15), (1, .ref 23), (3, .int (Int32.ofInt x3))]) (st' := []) rfl ?_
    refine lf_sub (l := [(0, .ref 15), (1, .ref 23), (3, .int (Int32.ofInt x3)), (4, .int (Int32.ofInt 0))]) (lf_sb1 rfl (lf_sb1 rfl (lf_sb1 rfl (lf_sb1 rfl lf_sb0)))) ?_
    exact gm_109_p42L h
  · have h := h.2 c
    refine lf_seg 4 (pc' := 16) (lv' := [(0, .ref 15), (1, .ref 23), (3, .int (Int32.ofInt x3)), (4, .int (Int32.ofInt x4))]) (st' := [.int (Int32.ofInt x3), .ref 23, .int (Int32.ofInt x4), .ref 15]) rfl ?_
    obtain ⟨o30, h⟩ := h
    refine lf_iald 17 1170 rfl rfl rfl rfl rfl rfl o30 ?_
    refine lf_seg 3 (pc' := 20) (lv' := [(0, .ref 15), (1, .ref 23), (3, .int (Int32.ofInt x3)), (4, .int (Int32.ofInt x4))]) (st' := [.int (Int32.ofInt 1), .int (Int32.ofInt x3), .ref 23, .int (Int32.ofInt (s.1 23 x3)), .int (Int32.ofInt x4), .ref 15]) rfl ?_
    refine lf_iadd 21 rfl rfl ?_
    obtain ⟨o31, h⟩ := h
    refine lf_iald 22 1170 rfl rfl rfl rfl rfl rfl o31 ?_
    refine lf_seg 3 (pc' := 25) (lv' := [(0, .ref 15), (1, .ref 23), (3, .int (Int32.ofInt x3)), (4, .int (Int32.ofInt x4))]) (st' := [.int (Int32.ofInt 2), .int (Int32.ofInt x3), .ref 23, .int (Int32.ofInt (s.1 23 (x3 + 1))), .int (Int32.ofInt (s.1 23 x3)), .int (Int32.ofInt x4), .ref 15]) rfl ?_
    refine lf_iadd 26 rfl rfl ?_
    obtain ⟨o32, h⟩ := h
    refine lf_iald 27 1170 rfl rfl rfl rfl rfl rfl o32 ?_
    refine lf_callV 30 rfl rfl rfl rfl (gm_69 h) (fun s33 h => ?_)
    refine lf_iinc 33 rfl rfl rfl rfl ?_
    refine lf_seg 0 (pc' := 33) (lv' := [(4, .int (Int32.ofInt (x4 + 1))), (0, .ref 15), (1, .ref 23), (3, .int (Int32.ofInt x3))]) (st' := []) rfl ?_
    refine lf_iinc 36 rfl rfl rfl rfl ?_
    refine lf_seg 1 (pc' := 5) (lv' := [(3, .int (Int32.ofInt (x3 + 3))), (4, .int (Int32.ofInt (x4 + 1))), (0, .ref 15), (1, .ref 23)]) (st' := []) rfl ?_
    refine lf_sub (l := [(0, .ref 15), (1, .ref 23), (3, .int (Int32.ofInt (x3 + 3))), (4, .int (Int32.ofInt (x4 + 1)))]) (lf_sb1 rfl (lf_sb1 rfl (lf_sb1 rfl (lf_sb1 rfl lf_sb0)))) ?_
    exact hX5 _ _ _ h
theorem gm_109_p5L {L : Nat} {xs : Nat → Int32} {d : Nat} {Q : lf_Z → Prop} {x3 : Int} {x4 : Int} {s : lf_Z} (h : fm_109_p5L Q x3 x4 s) : lf_E (px_ro L xs) (d + 2) 109 5 [(0, .ref 15), (1, .ref 23), (3, .int (Int32.ofInt x3)), (4, .int (Int32.ofInt x4))] [] s (lf_qv Q) :=
  h (fun x3 x4 s => lf_E (px_ro L xs) (d + 2) 109 5 [(0, .ref 15), (1, .ref 23), (3, .int (Int32.ofInt x3)), (4, .int (Int32.ofInt x4))] [] s (lf_qv Q)) (fun x3 x4 s hb => gm_109_p5 (fun _ _ _ h => h) hb)
def fm_109 (a2 : Int) (Q : lf_Z → Prop) (s : lf_Z) : Prop := fm_109_p5L Q a2 0 s
set_option maxRecDepth 100000 in
theorem gm_109 {L : Nat} {xs : Nat → Int32} {d : Nat} {a2 : Int} {Q : lf_Z → Prop} {s : lf_Z} (h : fm_109 a2 Q s) : lf_M (px_ro L xs) (d + 2) 109 [.ref 15, .ref 23, .int (Int32.ofInt a2)] s (lf_qv Q) := by
  unfold fm_109 at h
  show lf_E (px_ro L xs) (d + 2) 109 0 [(0, .ref 15), (1, .ref 23), (2, .int (Int32.ofInt a2))] [] s _
  refine lf_seg 4 (pc' := 5) (lv' := [(4, .int (Int32.ofInt 0)), (3, .int (Int32.ofInt a2)), (0, .ref 15), (1, .ref 23), (2, .int (Int32.ofInt a2))]) (st' := []) rfl ?_
  refine lf_sub (l := [(0, .ref 15), (1, .ref 23), (3, .int (Int32.ofInt a2)), (4, .int (Int32.ofInt 0))]) (lf_sb1 rfl (lf_sb1 rfl (lf_sb1 rfl (lf_sb1 rfl lf_sb0)))) ?_
  exact gm_109_p5L h
-- fm_108 Steps.takeBack 22 15 1
def fm_108_p34 (Q : Bool → lf_Z → Prop) (X34 : Int → lf_Z → Prop) (x3 : Int) (s : lf_Z) : Prop := lf_R x3 ∧ (lf_R (s.1 1 2) ∧ ((s.1 1 2 ≤ x3 → (lf_R (((s.1 22 2) + 30) - 1) ∧ (Q true (lf_up (lf_up s.1 22 2 ((((s.1 22 2) + 30) - 1).tmod 30)) 22 3 ((s.1 22 3) - 1), s.2.1, s.2.2)))) ∧ (¬ (s.1 1 2 ≤ x3) → ((0 ≤ x3 ∧ x3 < 6) ∧ (X34 (x3 + 1) (lf_up (lf_up s.1 19 x3 (s.1 10 x3)) 20 x3 (-1), s.2.1, s.2.2))))))
def fm_108_p34L (Q : Bool → lf_Z → Prop) (x3 : Int) (s : lf_Z) : Prop := ∀ X34 : Int → lf_Z → Prop, (∀ (x3 : Int) (s : lf_Z), fm_108_p34 Q X34 x3 s → X34 x3 s) → X34 x3 s
set_option maxRecDepth 100000 in
theorem gm_108_p34 {L : Nat} {xs : Nat → Int32} {d : Nat} {Q : Bool → lf_Z → Prop} {x3 : Int} {s : lf_Z} {X34 : Int → lf_Z → Prop} (hX34 : ∀ x3 s, X34 x3 s → lf_E (px_ro L xs) (d + 3) 108 34 [(0, .ref 22), (1, .ref 15), (2, .ref 1), (3, .int (Int32.ofInt x3))] [] s (lf_qz Q)) (h : fm_108_p34 Q X34 x3 s) : lf_E (px_ro L xs) (d + 3) 108 34 [(0, .ref 22), (1, .ref 15), (2, .ref 1), (3, .int (Int32.ofInt x3))] [] s (lf_qz Q) := by
  unfold fm_108_p34 at h
  refine lf_seg 2 (pc' := 36) (lv' := [(0, .ref 22), (1, .ref 15), (2, .ref 1), (3, .int (Int32.ofInt x3))]) (st' := [.ref 1, .int (Int32.ofInt x3)]) rfl ?_
  refine lf_getI 39 2 rfl rfl rfl rfl rfl rfl rfl ?_
  obtain ⟨o24, h⟩ := h
  obtain ⟨o25, h⟩ := h
  refine lf_icmp_ge 67 42 rfl rfl rfl o24 o25 (fun c => ?_) (fun c => ?_)
  · have h := h.1 c
    refine lf_seg 2 (pc' := 69) (lv' := [(0, .ref 22), (1, .ref 15), (2, .ref 1), (3, .int (Int32.ofInt x3))]) (st' := [.ref 22, .ref 22]) rfl ?_
    refine lf_getI 72 2 rfl rfl rfl rfl rfl rfl rfl ?_
    refine lf_bipush 74 30 rfl rfl (by decide) (by decide) ?_
    refine lf_iadd 75 rfl rfl ?_
    refine lf_seg 1 (pc' := 76) (lv' := [(0, .ref 22), (1, .ref 15), (2, .ref 1), (3, .int (Int32.ofInt x3))]) (st' := [.int (Int32.ofInt 1), .int (Int32.ofInt ((s.1 22 2) + 30)), .ref 22]) rfl ?_
    refine lf_isub 77 rfl rfl ?_
    refine lf_bipush 79 30 rfl rfl (by decide) (by decide) ?_
    obtain ⟨o26, h⟩ := h
    refine lf_irem 80 rfl rfl o26 ⟨by decide, by decide⟩ (by decide) ?_
    refine lf_putI 83 2 rfl rfl rfl rfl rfl rfl rfl rfl ?_
    refine lf_as (lf_up s.1 22 2 ((((s.1 22 2) + 30) - 1).tmod 30), s.2.1, s.2.2) rfl ?_
    refine lf_seg 2 (pc' := 85) (lv' := [(0, .ref 22), (1, .ref 15), (2, .ref 1), (3, .int (Int32.ofInt x3))]) (st' := [.ref 22, .ref 22]) rfl ?_
    refine lf_getI 88 3 rfl rfl rfl rfl rfl rfl rfl ?_
    refine lf_seg 1 (pc' := 89) (lv' := [(0, .ref 22), (1, .ref 15), (2, .ref 1), (3, .int (Int32.ofInt x3))]) (st' := [.int (Int32.ofInt 1), .int (Int32.ofInt (s.1 22 3)), .ref 22]) rfl ?_
    refine lf_isub 90 rfl rfl ?_
    refine lf_putI 93 3 rfl rfl rfl rfl rfl rfl rfl rfl ?_
    refine lf_as (lf_up (lf_up s.1 22 2 ((((s.1 22 2) + 30) - 1).tmod 30)) 22 3 ((s.1 22 3) - 1), s.2.1, s.2.2) rfl ?_
    refine lf_seg 1 (pc' := 94) (lv' := [(0, .ref 22), (1, .ref 15), (2, .ref 1), (3, .int (Int32.ofInt x3))]) (st' := [.int (Int32.ofInt 1)]) rfl ?_
    exact lf_retZ true rfl rfl h
  · have h := h.2 c
    refine lf_seg 6 (pc' := 52) (lv' := [(0, .ref 22), (1, .ref 15), (2, .ref 1), (3, .int (Int32.ofInt x3))]) (st' := [.int (Int32.ofInt x3), .ref 10, .int (Int32.ofInt x3), .ref 19]) rfl ?_
    obtain ⟨o27, h⟩ := h
    refine lf_iald 53 6 rfl rfl rfl rfl rfl rfl o27 ?_
    refine lf_iast 54 6 rfl rfl rfl rfl rfl rfl o27 ?_
    refine lf_as (lf_up s.1 19 x3 (s.1 10 x3), s.2.1, s.2.2) rfl ?_
    refine lf_seg 4 (pc' := 60) (lv' := [(0, .ref 22), (1, .ref 15), (2, .ref 1), (3, .int (Int32.ofInt x3))]) (st' := [.int (Int32.ofInt (-1)), .int (Int32.ofInt x3), .ref 20]) rfl ?_
    refine lf_iast 61 6 rfl rfl rfl rfl rfl rfl o27 ?_
    refine lf_as (lf_up (lf_up s.1 19 x3 (s.1 10 x3)) 20 x3 (-1), s.2.1, s.2.2) rfl ?_
    refine lf_iinc 64 rfl rfl rfl rfl ?_
    refine lf_seg 1 (pc' := 34) (lv' := [(3, .int (Int32.ofInt (x3 + 1))), (0, .ref 22), (1, .ref 15), (2, .ref 1)]) (st' := []) rfl ?_
    refine lf_sub (l := [(0, .ref 22), (1, .ref 15), (2, .ref 1), (3, .int (Int32.ofInt (x3 + 1)))]) (lf_sb1 rfl (lf_sb1 rfl (lf_sb1 rfl (lf_sb1 rfl lf_sb0)))) ?_
    exact hX34 _ _ h
theorem gm_108_p34L {L : Nat} {xs : Nat → Int32} {d : Nat} {Q : Bool → lf_Z → Prop} {x3 : Int} {s : lf_Z} (h : fm_108_p34L Q x3 s) : lf_E (px_ro L xs) (d + 3) 108 34 [(0, .ref 22), (1, .ref 15), (2, .ref 1), (3, .int (Int32.ofInt x3))] [] s (lf_qz Q) :=
  h (fun x3 s => lf_E (px_ro L xs) (d + 3) 108 34 [(0, .ref 22), (1, .ref 15), (2, .ref 1), (3, .int (Int32.ofInt x3))] [] s (lf_qz Q)) (fun x3 s hb => gm_108_p34 (fun _ _ h => h) hb)
def fm_108 (Q : Bool → lf_Z → Prop) (s : lf_Z) : Prop := lf_R (s.1 22 3) ∧ ((s.1 22 3 ≠ 0 → (fm_109 ((s.1 22 2) * 39) (fun s22 => ((0 ≤ s22.1 22 2 ∧ s22.1 22 2 < 30) ∧ (fm_108_p34L Q (s22.1 24 (s22.1 22 2)) s22))) s)) ∧ (¬ (s.1 22 3 ≠ 0) → (Q false s)))
set_option maxRecDepth 100000 in
theorem gm_108 {L : Nat} {xs : Nat → Int32} {d : Nat} {Q : Bool → lf_Z → Prop} {s : lf_Z} (h : fm_108 Q s) : lf_M (px_ro L xs) (d + 3) 108 [.ref 22, .ref 15, .ref 1] s (lf_qz Q) := by
  unfold fm_108 at h
  show lf_E (px_ro L xs) (d + 3) 108 0 [(0, .ref 22), (1, .ref 15), (2, .ref 1)] [] s _
  refine lf_seg 1 (pc' := 1) (lv' := [(0, .ref 22), (1, .ref 15), (2, .ref 1)]) (st' := [.ref 22]) rfl ?_
  refine lf_getI 4 3 rfl rfl rfl rfl rfl rfl rfl ?_
  obtain ⟨o21, h⟩ := h
  refine lf_if_ne 9 7 rfl rfl rfl o21 (fun c => ?_) (fun c => ?_)
  · have h := h.1 c
    refine lf_seg 4 (pc' := 15) (lv' := [(0, .ref 22), (1, .ref 15), (2, .ref 1)]) (st' := [.ref 22, .ref 23, .ref 15]) rfl ?_
    refine lf_getI 18 2 rfl rfl rfl rfl rfl rfl rfl ?_
    refine lf_bipush 20 39 rfl rfl (by decide) (by decide) ?_
    refine lf_imul 21 rfl rfl ?_
    refine lf_callV 24 rfl rfl rfl rfl (gm_109 h) (fun s22 h => ?_)
    refine lf_seg 3 (pc' := 29) (lv' := [(0, .ref 22), (1, .ref 15), (2, .ref 1)]) (st' := [.ref 22, .ref 24]) rfl ?_
    refine lf_getI 32 2 rfl rfl rfl rfl rfl rfl rfl ?_
    obtain ⟨o23, h⟩ := h
    refine lf_iald 33 30 rfl rfl rfl rfl rfl rfl o23 ?_
    refine lf_seg 1 (pc' := 34) (lv' := [(3, .int (Int32.ofInt (s22.1 24 (s22.1 22 2)))), (0, .ref 22), (1, .ref 15), (2, .ref 1)]) (st' := []) rfl ?_
    refine lf_sub (l := [(0, .ref 22), (1, .ref 15), (2, .ref 1), (3, .int (Int32.ofInt (s22.1 24 (s22.1 22 2))))]) (lf_sb1 rfl (lf_sb1 rfl (lf_sb1 rfl (lf_sb1 rfl lf_sb0)))) ?_
    exact gm_108_p34L h
  · have h := h.2 c
    refine lf_seg 1 (pc' := 8) (lv' := [(0, .ref 22), (1, .ref 15), (2, .ref 1)]) (st' := [.int (Int32.ofInt 0)]) rfl ?_
    exact lf_retZ false rfl rfl h
-- fm_107 ElevenBullocks.undo 0
def fm_107 (Q : Int → lf_Z → Prop) (s : lf_Z) : Prop := fm_108 (fun z22 s21 => ((z22 = true → (Q (s21.1 22 3) s21)) ∧ (z22 = false → (Q (-1) s21)))) s
set_option maxRecDepth 100000 in
theorem gm_107 {L : Nat} {xs : Nat → Int32} {d : Nat} {Q : Int → lf_Z → Prop} {s : lf_Z} (h : fm_107 Q s) : lf_M (px_ro L xs) (d + 4) 107 [.ref 0] s (lf_qi Q) := by
  unfold fm_107 at h
  show lf_E (px_ro L xs) (d + 4) 107 0 [(0, .ref 0)] [] s _
  refine lf_seg 6 (pc' := 12) (lv' := [(0, .ref 0)]) (st' := [.ref 1, .ref 15, .ref 22]) rfl ?_
  refine lf_callZ 15 rfl rfl rfl rfl (gm_108 h) (fun z22 s21 h => ?_)
  refine lf_ifz_ne 20 18 rfl rfl rfl (fun c => ?_) (fun c => ?_)
  · have h := h.1 c
    refine lf_seg 2 (pc' := 24) (lv' := [(0, .ref 0)]) (st' := [.ref 22]) rfl ?_
    refine lf_getI 27 3 rfl rfl rfl rfl rfl rfl rfl ?_
    exact lf_retI rfl rfl h
  · have h := h.2 c
    refine lf_seg 1 (pc' := 19) (lv' := [(0, .ref 0)]) (st' := [.int (Int32.ofInt (-1))]) rfl ?_
    exact lf_retI rfl rfl h
-- fm_239e Model.get 95 i 5
def fm_239e (a1 : Int) (Q : Int → lf_Z → Prop) (s : lf_Z) : Prop := (0 ≤ (126 + (6 * a1)) + 5 ∧ (126 + (6 * a1)) + 5 < 1538) ∧ (Q (s.1 96 ((126 + (6 * a1)) + 5)) s)
set_option maxRecDepth 100000 in
theorem gm_239e {L : Nat} {xs : Nat → Int32} {d : Nat} {a1 : Int} {Q : Int → lf_Z → Prop} {s : lf_Z} (h : fm_239e a1 Q s) : lf_M (px_ro L xs) (d + 1) 239 [.ref 95, .int (Int32.ofInt a1), .int (Int32.ofInt 5)] s (lf_qi Q) := by
  unfold fm_239e at h
  show lf_E (px_ro L xs) (d + 1) 239 0 [(0, .ref 95), (1, .int (Int32.ofInt a1)), (2, .int (Int32.ofInt 5))] [] s _
  refine lf_seg 2 (pc' := 4) (lv' := [(0, .ref 95), (1, .int (Int32.ofInt a1)), (2, .int (Int32.ofInt 5))]) (st' := [.ref 96]) rfl ?_
  refine lf_bipush 6 126 rfl rfl (by decide) (by decide) ?_
  refine lf_bipush 8 6 rfl rfl (by decide) (by decide) ?_
  refine lf_seg 1 (pc' := 9) (lv' := [(0, .ref 95), (1, .int (Int32.ofInt a1)), (2, .int (Int32.ofInt 5))]) (st' := [.int (Int32.ofInt a1), .int (Int32.ofInt 6), .int (Int32.ofInt 126), .ref 96]) rfl ?_
  refine lf_imul 10 rfl rfl ?_
  refine lf_iadd 11 rfl rfl ?_
  refine lf_seg 1 (pc' := 12) (lv' := [(0, .ref 95), (1, .int (Int32.ofInt a1)), (2, .int (Int32.ofInt 5))]) (st' := [.int (Int32.ofInt 5), .int (Int32.ofInt (126 + (6 * a1))), .ref 96]) rfl ?_
  refine lf_iadd 13 rfl rfl ?_
  obtain ⟨o21, h⟩ := h
  refine lf_iald 14 1538 rfl rfl rfl rfl rfl rfl o21 ?_
  exact lf_retI rfl rfl h
-- fm_238 Model.undo 95
def fm_238_p254 (Q : Int → lf_Z → Prop) (x1 : Int) (X254 : Int → lf_Z → Prop) (x2 : Int) (s : lf_Z) : Prop := lf_R x2 ∧ (lf_R (s.1 96 0) ∧ ((s.1 96 0 ≤ x2 → (Q (s.1 96 9) s)) ∧ (¬ (s.1 96 0 ≤ x2) → ((0 ≤ (x1 + 29) + x2 ∧ (x1 + 29) + x2 < 1538) ∧ ((0 ≤ (14 + (3 * x2)) + 2 ∧ (14 + (3 * x2)) + 2 < 1538) ∧ (X254 (x2 + 1) (lf_up s.1 96 ((14 + (3 * x2)) + 2) (s.1 96 ((x1 + 29) + x2)), s.2.1, s.2.2)))))))
def fm_238_p254L (Q : Int → lf_Z → Prop) (x1 : Int) (x2 : Int) (s : lf_Z) : Prop := ∀ X254 : Int → lf_Z → Prop, (∀ (x2 : Int) (s : lf_Z), fm_238_p254 Q x1 X254 x2 s → X254 x2 s) → X254 x2 s
set_option maxRecDepth 100000 in
theorem gm_238_p254 {L : Nat} {xs : Nat → Int32} {d : Nat} {Q : Int → lf_Z → Prop} {x1 : Int} {x2 : Int} {s : lf_Z} {X254 : Int → lf_Z → Prop} (hX254 : ∀ x2 s, X254 x2 s → lf_E (px_ro L xs) (d + 2) 238 254 [(0, .ref 95), (1, .int (Int32.ofInt x1)), (2, .int (Int32.ofInt x2))] [] s (lf_qi Q)) (h : fm_238_p254 Q x1 X254 x2 s) : lf_E (px_ro L xs) (d + 2) 238 254 [(0, .ref 95), (1, .int (Int32.ofInt x1)), (2, .int (Int32.ofInt x2))] [] s (lf_qi Q) := by
  unfold fm_238_p254 at h
  refine lf_seg 4 (pc' := 260) (lv' := [(0, .ref 95), (1, .int (Int32.ofInt x1)), (2, .int (Int32.ofInt x2))]) (st' := [.int (Int32.ofInt 0), .ref 96, .int (Int32.ofInt x2)]) rfl ?_
  refine lf_iald 261 1538 rfl rfl rfl rfl rfl rfl ⟨by decide, by decide⟩ ?_
  obtain ⟨o29, h⟩ := h
  obtain ⟨o30, h⟩ := h
  refine lf_icmp_ge 294 264 rfl rfl rfl o29 o30 (fun c => ?_) (fun c => ?_)
  · have h := h.1 c
    refine lf_seg 2 (pc' := 298) (lv' := [(0, .ref 95), (1, .int (Int32.ofInt x1)), (2, .int (Int32.ofInt x2))]) (st' := [.ref 96]) rfl ?_
    refine lf_bipush 300 9 rfl rfl (by decide) (by decide) ?_
    refine lf_iald 301 1538 rfl rfl rfl rfl rfl rfl ⟨by decide, by decide⟩ ?_
    exact lf_retI rfl rfl h
  · have h := h.2 c
    refine lf_seg 2 (pc' := 268) (lv' := [(0, .ref 95), (1, .int (Int32.ofInt x1)), (2, .int (Int32.ofInt x2))]) (st' := [.ref 96]) rfl ?_
    refine lf_bipush 270 14 rfl rfl (by decide) (by decide) ?_
    refine lf_seg 2 (pc' := 272) (lv' := [(0, .ref 95), (1, .int (Int32.ofInt x1)), (2, .int (Int32.ofInt x2))]) (st' := [.int (Int32.ofInt x2), .int (Int32.ofInt 3), .int (Int32.ofInt 14), .ref 96]) rfl ?_
    refine lf_imul 273 rfl rfl ?_
    refine lf_iadd 274 rfl rfl ?_
    refine lf_seg 1 (pc' := 275) (lv' := [(0, .ref 95), (1, .int (Int32.ofInt x1)), (2, .int (Int32.ofInt x2))]) (st' := [.int (Int32.ofInt 2), .int (Int32.ofInt (14 + (3 * x2))), .ref 96]) rfl ?_
    refine lf_iadd 276 rfl rfl ?_
    refine lf_seg 3 (pc' := 281) (lv' := [(0, .ref 95), (1, .int (Int32.ofInt x1)), (2, .int (Int32.ofInt x2))]) (st' := [.int (Int32.ofInt x1), .ref 96, .int (Int32.ofInt ((14 + (3 * x2)) + 2)), .ref 96]) rfl ?_
    refine lf_bipush 283 29 rfl rfl (by decide) (by decide) ?_
    refine lf_iadd 284 rfl rfl ?_
    refine lf_seg 1 (pc' := 285) (lv' := [(0, .ref 95), (1, .int (Int32.ofInt x1)), (2, .int (Int32.ofInt x2))]) (st' := [.int (Int32.ofInt x2), .int (Int32.ofInt (x1 + 29)), .ref 96, .int (Int32.ofInt ((14 + (3 * x2)) + 2)), .ref 96]) rfl ?_
    refine lf_iadd 286 rfl rfl ?_
    obtain ⟨o31, h⟩ := h
    refine lf_iald 287 1538 rfl rfl rfl rfl rfl rfl o31 ?_
    obtain ⟨o32, h⟩ := h
    refine lf_iast 288 1538 rfl rfl rfl rfl rfl rfl o32 ?_
    refine lf_as (lf_up s.1 96 ((14 + (3 * x2)) + 2) (s.1 96 ((x1 + 29) + x2)), s.2.1, s.2.2) rfl ?_
    refine lf_iinc 291 rfl rfl rfl rfl ?_
    refine lf_seg 1 (pc' := 254) (lv' := [(2, .int (Int32.ofInt (x2 + 1))), (0, .ref 95), (1, .int (Int32.ofInt x1))]) (st' := []) rfl ?_
    refine lf_sub (l := [(0, .ref 95), (1, .int (Int32.ofInt x1)), (2, .int (Int32.ofInt (x2 + 1)))]) (lf_sb1 rfl (lf_sb1 rfl (lf_sb1 rfl lf_sb0))) ?_
    exact hX254 _ _ h
theorem gm_238_p254L {L : Nat} {xs : Nat → Int32} {d : Nat} {Q : Int → lf_Z → Prop} {x1 : Int} {x2 : Int} {s : lf_Z} (h : fm_238_p254L Q x1 x2 s) : lf_E (px_ro L xs) (d + 2) 238 254 [(0, .ref 95), (1, .int (Int32.ofInt x1)), (2, .int (Int32.ofInt x2))] [] s (lf_qi Q) :=
  h (fun x2 s => lf_E (px_ro L xs) (d + 2) 238 254 [(0, .ref 95), (1, .int (Int32.ofInt x1)), (2, .int (Int32.ofInt x2))] [] s (lf_qi Q)) (fun x2 s hb => gm_238_p254 (fun _ _ h => h) hb)
def fm_238_p243 (X165 : Int → lf_Z → Prop) (Q : Int → lf_Z → Prop) (x1 : Int) (x2 : Int) (y1 : Int) (y3 : Int) (s : lf_Z) : Prop := fm_191e y1 y3 (fun s41 => (X165 (x2 + 1) s41)) s
set_option maxRecDepth 100000 in
theorem gm_238_p243 {L : Nat} {xs : Nat → Int32} {d : Nat} {X165 : Int → lf_Z → Prop} {Q : Int → lf_Z → Prop} {x1 : Int} {x2 : Int} {y1 : Int} {y3 : Int} {s : lf_Z} (hX165 : ∀ x2 s, X165 x2 s → lf_E (px_ro L xs) (d + 2) 238 165 [(0, .ref 95), (1, .int (Int32.ofInt x1)), (2, .int (Int32.ofInt x2))] [] s (lf_qi Q)) (h : fm_238_p243 X165 Q x1 x2 y1 y3 s) : lf_E (px_ro L xs) (d + 2) 238 243 [(0, .ref 95), (1, .int (Int32.ofInt x1)), (2, .int (Int32.ofInt x2))] [.int (Int32.ofInt y3), .int (Int32.ofInt 4), .int (Int32.ofInt y1), .ref 95] s (lf_qi Q) := by
  unfold fm_238_p243 at h
  refine lf_callV 246 rfl rfl rfl rfl (gm_191e h) (fun s41 h => ?_)
  refine lf_iinc 249 rfl rfl rfl rfl ?_
  refine lf_seg 1 (pc' := 165) (lv' := [(2, .int (Int32.ofInt (x2 + 1))), (0, .ref 95), (1, .int (Int32.ofInt x1))]) (st' := []) rfl ?_
  refine lf_sub (l := [(0, .ref 95), (1, .int (Int32.ofInt x1)), (2, .int (Int32.ofInt (x2 + 1)))]) (lf_sb1 rfl (lf_sb1 rfl (lf_sb1 rfl lf_sb0))) ?_
  exact hX165 _ _ h
def fm_238_p210 (X165 : Int → lf_Z → Prop) (Q : Int → lf_Z → Prop) (x1 : Int) (x2 : Int) (y1 : Int) (y3 : Int) (s : lf_Z) : Prop := fm_191d y1 y3 (fun s37 => ((0 ≤ x1 ∧ x1 < 1538) ∧ (lf_R x2 ∧ (lf_R (s37.1 96 x1) ∧ ((s37.1 96 x1 ≤ x2 → (fm_238_p243 X165 Q x1 x2 x2 (-1) s37)) ∧ (¬ (s37.1 96 x1 ≤ x2) → ((0 ≤ (x1 + 18) + (2 * x2) ∧ (x1 + 18) + (2 * x2) < 1538) ∧ (fm_238_p243 X165 Q x1 x2 x2 (s37.1 96 ((x1 + 18) + (2 * x2))) s37)))))))) s
set_option maxRecDepth 100000 in
theorem gm_238_p210 {L : Nat} {xs : Nat → Int32} {d : Nat} {X165 : Int → lf_Z → Prop} {Q : Int → lf_Z → Prop} {x1 : Int} {x2 : Int} {y1 : Int} {y3 : Int} {s : lf_Z} (hX165 : ∀ x2 s, X165 x2 s → lf_E (px_ro L xs) (d + 2) 238 165 [(0, .ref 95), (1, .int (Int32.ofInt x1)), (2, .int (Int32.ofInt x2))] [] s (lf_qi Q)) (h : fm_238_p210 X165 Q x1 x2 y1 y3 s) : lf_E (px_ro L xs) (d + 2) 238 210 [(0, .ref 95), (1, .int (Int32.ofInt x1)), (2, .int (Int32.ofInt x2))] [.int (Int32.ofInt y3), .int (Int32.ofInt 3), .int (Int32.ofInt y1), .ref 95] s (lf_qi Q) := by
  unfold fm_238_p210 at h
  refine lf_callV 213 rfl rfl rfl rfl (gm_191d h) (fun s37 h => ?_)
  refine lf_seg 6 (pc' := 221) (lv' := [(0, .ref 95), (1, .int (Int32.ofInt x1)), (2, .int (Int32.ofInt x2))]) (st' := [.ref 96, .int (Int32.ofInt x2), .int (Int32.ofInt 4), .int (Int32.ofInt x2), .ref 95]) rfl ?_
  refine lf_seg 1 (pc' := 222) (lv' := [(0, .ref 95), (1, .int (Int32.ofInt x1)), (2, .int (Int32.ofInt x2))]) (st' := [.int (Int32.ofInt x1), .ref 96, .int (Int32.ofInt x2), .int (Int32.ofInt 4), .int (Int32.ofInt x2), .ref 95]) rfl ?_
  obtain ⟨o38, h⟩ := h
  refine lf_iald 223 1538 rfl rfl rfl rfl rfl rfl o38 ?_
  obtain ⟨o39, h⟩ := h
  obtain ⟨o40, h⟩ := h
  refine lf_icmp_ge 242 226 rfl rfl rfl o39 o40 (fun c => ?_) (fun c => ?_)
  · have h := h.1 c
    refine lf_seg 1 (pc' := 243) (lv' := [(0, .ref 95), (1, .int (Int32.ofInt x1)), (2, .int (Int32.ofInt x2))]) (st' := [.int (Int32.ofInt (-1)), .int (Int32.ofInt 4), .int (Int32.ofInt x2), .ref 95]) rfl ?_
    refine lf_sub (l := [(0, .ref 95), (1, .int (Int32.ofInt x1)), (2, .int (Int32.ofInt x2))]) (lf_sb1 rfl (lf_sb1 rfl (lf_sb1 rfl lf_sb0))) ?_
    exact gm_238_p243 hX165 h
  · have h := h.2 c
    refine lf_seg 3 (pc' := 231) (lv' := [(0, .ref 95), (1, .int (Int32.ofInt x1)), (2, .int (Int32.ofInt x2))]) (st' := [.int (Int32.ofInt x1), .ref 96, .int (Int32.ofInt 4), .int (Int32.ofInt x2), .ref 95]) rfl ?_
    refine lf_bipush 233 18 rfl rfl (by decide) (by decide) ?_
    refine lf_iadd 234 rfl rfl ?_
    refine lf_seg 2 (pc' := 236) (lv' := [(0, .ref 95), (1, .int (Int32.ofInt x1)), (2, .int (Int32.ofInt x2))]) (st' := [.int (Int32.ofInt x2), .int (Int32.ofInt 2), .int (Int32.ofInt (x1 + 18)), .ref 96, .int (Int32.ofInt 4), .int (Int32.ofInt x2), .ref 95]) rfl ?_
    refine lf_imul 237 rfl rfl ?_
    refine lf_iadd 238 rfl rfl ?_
    obtain ⟨o42, h⟩ := h
    refine lf_iald 239 1538 rfl rfl rfl rfl rfl rfl o42 ?_
    refine lf_seg 1 (pc' := 243) (lv' := [(0, .ref 95), (1, .int (Int32.ofInt x1)), (2, .int (Int32.ofInt x2))]) (st' := [.int (Int32.ofInt (s37.1 96 ((x1 + 18) + (2 * x2)))), .int (Int32.ofInt 4), .int (Int32.ofInt x2), .ref 95]) rfl ?_
    refine lf_sub (l := [(0, .ref 95), (1, .int (Int32.ofInt x1)), (2, .int (Int32.ofInt x2))]) (lf_sb1 rfl (lf_sb1 rfl (lf_sb1 rfl lf_sb0))) ?_
    exact gm_238_p243 hX165 h
def fm_238_p165 (Q : Int → lf_Z → Prop) (x1 : Int) (X165 : Int → lf_Z → Prop) (x2 : Int) (s : lf_Z) : Prop := lf_R x2 ∧ (lf_R (s.1 96 2) ∧ ((s.1 96 2 ≤ x2 → (fm_238_p254L Q x1 0 s)) ∧ (¬ (s.1 96 2 ≤ x2) → ((0 ≤ x1 ∧ x1 < 1538) ∧ (lf_R (s.1 96 x1) ∧ ((s.1 96 x1 ≤ x2 → (fm_239e x2 (fun r36 s35 => (fm_238_p210 X165 Q x1 x2 x2 r36 s35)) s)) ∧ (¬ (s.1 96 x1 ≤ x2) → ((0 ≤ (x1 + 17) + (2 * x2) ∧ (x1 + 17) + (2 * x2) < 1538) ∧ (fm_238_p210 X165 Q x1 x2 x2 (s.1 96 ((x1 + 17) + (2 * x2))) s)))))))))
def fm_238_p165L (Q : Int → lf_Z → Prop) (x1 : Int) (x2 : Int) (s : lf_Z) : Prop := ∀ X165 : Int → lf_Z → Prop, (∀ (x2 : Int) (s : lf_Z), fm_238_p165 Q x1 X165 x2 s → X165 x2 s) → X165 x2 s
set_option maxRecDepth 100000 in
theorem gm_238_p165 {L : Nat} {xs : Nat → Int32} {d : Nat} {Q : Int → lf_Z → Prop} {x1 : Int} {x2 : Int} {s : lf_Z} {X165 : Int → lf_Z → Prop} (hX165 : ∀ x2 s, X165 x2 s → lf_E (px_ro L xs) (d + 2) 238 165 [(0, .ref 95), (1, .int (Int32.ofInt x1)), (2, .int (Int32.ofInt x2))] [] s (lf_qi Q)) (h : fm_238_p165 Q x1 X165 x2 s) : lf_E (px_ro L xs) (d + 2) 238 165 [(0, .ref 95), (1, .int (Int32.ofInt x1)), (2, .int (Int32.ofInt x2))] [] s (lf_qi Q) := by
  unfold fm_238_p165 at h
  refine lf_seg 4 (pc' := 171) (lv' := [(0, .ref 95), (1, .int (Int32.ofInt x1)), (2, .int (Int32.ofInt x2))]) (st' := [.int (Int32.ofInt 2), .ref 96, .int (Int32.ofInt x2)]) rfl ?_
  refine lf_iald 172 1538 rfl rfl rfl rfl rfl rfl ⟨by decide, by decide⟩ ?_
  obtain ⟨o27, h⟩ := h
  obtain ⟨o28, h⟩ := h
  refine lf_icmp_ge 252 175 rfl rfl rfl o27 o28 (fun c => ?_) (fun c => ?_)
  · have h := h.1 c
    refine lf_seg 2 (pc' := 254) (lv' := [(2, .int (Int32.ofInt 0)), (0, .ref 95), (1, .int (Int32.ofInt x1))]) (st' := []) rfl ?_
    refine lf_sub (l := [(0, .ref 95), (1, .int (Int32.ofInt x1)), (2, .int (Int32.ofInt 0))]) (lf_sb1 rfl (lf_sb1 rfl (lf_sb1 rfl lf_sb0))) ?_
    exact gm_238_p254L h
  · have h := h.2 c
    refine lf_seg 6 (pc' := 183) (lv' := [(0, .ref 95), (1, .int (Int32.ofInt x1)), (2, .int (Int32.ofInt x2))]) (st' := [.ref 96, .int (Int32.ofInt x2), .int (Int32.ofInt 3), .int (Int32.ofInt x2), .ref 95]) rfl ?_
    refine lf_seg 1 (pc' := 184) (lv' := [(0, .ref 95), (1, .int (Int32.ofInt x1)), (2, .int (Int32.ofInt x2))]) (st' := [.int (Int32.ofInt x1), .ref 96, .int (Int32.ofInt x2), .int (Int32.ofInt 3), .int (Int32.ofInt x2), .ref 95]) rfl ?_
    obtain ⟨o33, h⟩ := h
    refine lf_iald 185 1538 rfl rfl rfl rfl rfl rfl o33 ?_
    obtain ⟨o34, h⟩ := h
    refine lf_icmp_ge 204 188 rfl rfl rfl o27 o34 (fun c => ?_) (fun c => ?_)
    · have h := h.1 c
      refine lf_seg 3 (pc' := 207) (lv' := [(0, .ref 95), (1, .int (Int32.ofInt x1)), (2, .int (Int32.ofInt x2))]) (st' := [.int (Int32.ofInt 5), .int (Int32.ofInt x2), .ref 95, .int (Int32.ofInt 3), .int (Int32.ofInt x2), .ref 95]) rfl ?_
      refine lf_callI 210 rfl rfl rfl rfl (gm_239e h) (fun r36 s35 h => ?_)
      refine lf_sub (l := [(0, .ref 95), (1, .int (Int32.ofInt x1)), (2, .int (Int32.ofInt x2))]) (lf_sb1 rfl (lf_sb1 rfl (lf_sb1 rfl lf_sb0))) ?_
      exact gm_238_p210 hX165 h
    · have h := h.2 c
      refine lf_seg 3 (pc' := 193) (lv' := [(0, .ref 95), (1, .int (Int32.ofInt x1)), (2, .int (Int32.ofInt x2))]) (st' := [.int (Int32.ofInt x1), .ref 96, .int (Int32.ofInt 3), .int (Int32.ofInt x2), .ref 95]) rfl ?_
      refine lf_bipush 195 17 rfl rfl (by decide) (by decide) ?_
      refine lf_iadd 196 rfl rfl ?_
      refine lf_seg 2 (pc' := 198) (lv' := [(0, .ref 95), (1, .int (Int32.ofInt x1)), (2, .int (Int32.ofInt x2))]) (st' := [.int (Int32.ofInt x2), .int (Int32.ofInt 2), .int (Int32.ofInt (x1 + 17)), .ref 96, .int (Int32.ofInt 3), .int (Int32.ofInt x2), .ref 95]) rfl ?_
      refine lf_imul 199 rfl rfl ?_
      refine lf_iadd 200 rfl rfl ?_
      obtain ⟨o43, h⟩ := h
      refine lf_iald 201 1538 rfl rfl rfl rfl rfl rfl o43 ?_
      refine lf_seg 1 (pc' := 210) (lv' := [(0, .ref 95), (1, .int (Int32.ofInt x1)), (2, .int (Int32.ofInt x2))]) (st' := [.int (Int32.ofInt (s.1 96 ((x1 + 17) + (2 * x2)))), .int (Int32.ofInt 3), .int (Int32.ofInt x2), .ref 95]) rfl ?_
      refine lf_sub (l := [(0, .ref 95), (1, .int (Int32.ofInt x1)), (2, .int (Int32.ofInt x2))]) (lf_sb1 rfl (lf_sb1 rfl (lf_sb1 rfl lf_sb0))) ?_
      exact gm_238_p210 hX165 h
theorem gm_238_p165L {L : Nat} {xs : Nat → Int32} {d : Nat} {Q : Int → lf_Z → Prop} {x1 : Int} {x2 : Int} {s : lf_Z} (h : fm_238_p165L Q x1 x2 s) : lf_E (px_ro L xs) (d + 2) 238 165 [(0, .ref 95), (1, .int (Int32.ofInt x1)), (2, .int (Int32.ofInt x2))] [] s (lf_qi Q) :=
  h (fun x2 s => lf_E (px_ro L xs) (d + 2) 238 165 [(0, .ref 95), (1, .int (Int32.ofInt x1)), (2, .int (Int32.ofInt x2))] [] s (lf_qi Q)) (fun x2 s hb => gm_238_p165 (fun _ _ h => h) hb)
def fm_238_p132 (Q : Int → lf_Z → Prop) (x1 : Int) (X132 : Int → lf_Z → Prop) (x2 : Int) (s : lf_Z) : Prop := lf_R x2 ∧ ((12 ≤ x2 → (fm_238_p165L Q x1 0 s)) ∧ (¬ (12 ≤ x2) → ((0 ≤ (x1 + 5) + x2 ∧ (x1 + 5) + x2 < 1538) ∧ ((0 ≤ 114 + x2 ∧ 114 + x2 < 1538) ∧ (X132 (x2 + 1) (lf_up s.1 96 (114 + x2) (s.1 96 ((x1 + 5) + x2)), s.2.1, s.2.2))))))
def fm_238_p132L (Q : Int → lf_Z → Prop) (x1 : Int) (x2 : Int) (s : lf_Z) : Prop := ∀ X132 : Int → lf_Z → Prop, (∀ (x2 : Int) (s : lf_Z), fm_238_p132 Q x1 X132 x2 s → X132 x2 s) → X132 x2 s
set_option maxRecDepth 100000 in
theorem gm_238_p132 {L : Nat} {xs : Nat → Int32} {d : Nat} {Q : Int → lf_Z → Prop} {x1 : Int} {x2 : Int} {s : lf_Z} {X132 : Int → lf_Z → Prop} (hX132 : ∀ x2 s, X132 x2 s → lf_E (px_ro L xs) (d + 2) 238 132 [(0, .ref 95), (1, .int (Int32.ofInt x1)), (2, .int (Int32.ofInt x2))] [] s (lf_qi Q)) (h : fm_238_p132 Q x1 X132 x2 s) : lf_E (px_ro L xs) (d + 2) 238 132 [(0, .ref 95), (1, .int (Int32.ofInt x1)), (2, .int (Int32.ofInt x2))] [] s (lf_qi Q) := by
  unfold fm_238_p132 at h
  refine lf_seg 1 (pc' := 133) (lv' := [(0, .ref 95), (1, .int (Int32.ofInt x1)), (2, .int (Int32.ofInt x2))]) (st' := [.int (Int32.ofInt x2)]) rfl ?_
  refine lf_bipush 135 12 rfl rfl (by decide) (by decide) ?_
  obtain ⟨o26, h⟩ := h
  refine lf_icmp_ge 163 138 rfl rfl rfl o26 ⟨by decide, by decide⟩ (fun c => ?_) (fun c => ?_)
  · have h := h.1 c
    refine lf_seg 2 (pc' := 165) (lv' := [(2, .int (Int32.ofInt 0)), (0, .ref 95), (1, .int (Int32.ofInt x1))]) (st' := []) rfl ?_
    refine lf_sub (l := [(0, .ref 95), (1, .int (Int32.ofInt x1)), (2, .int (Int32.ofInt 0))]) (lf_sb1 rfl (lf_sb1 rfl (lf_sb1 rfl lf_sb0))) ?_
    exact gm_238_p165L h
  · have h := h.2 c
    refine lf_seg 2 (pc' := 142) (lv' := [(0, .ref 95), (1, .int (Int32.ofInt x1)), (2, .int (Int32.ofInt x2))]) (st' := [.ref 96]) rfl ?_
    refine lf_bipush 144 114 rfl rfl (by decide) (by decide) ?_
    refine lf_seg 1 (pc' := 145) (lv' := [(0, .ref 95), (1, .int (Int32.ofInt x1)), (2, .int (Int32.ofInt x2))]) (st' := [.int (Int32.ofInt x2), .int (Int32.ofInt 114), .ref 96]) rfl ?_
    refine lf_iadd 146 rfl rfl ?_
    refine lf_seg 4 (pc' := 152) (lv' := [(0, .ref 95), (1, .int (Int32.ofInt x1)), (2, .int (Int32.ofInt x2))]) (st' := [.int (Int32.ofInt 5), .int (Int32.ofInt x1), .ref 96, .int (Int32.ofInt (114 + x2)), .ref 96]) rfl ?_
    refine lf_iadd 153 rfl rfl ?_
    refine lf_seg 1 (pc' := 154) (lv' := [(0, .ref 95), (1, .int (Int32.ofInt x1)), (2, .int (Int32.ofInt x2))]) (st' := [.int (Int32.ofInt x2), .int (Int32.ofInt (x1 + 5)), .ref 96, .int (Int32.ofInt (114 + x2)), .ref 96]) rfl ?_
    refine lf_iadd 155 rfl rfl ?_
    obtain ⟨o44, h⟩ := h
    refine lf_iald 156 1538 rfl rfl rfl rfl rfl rfl o44 ?_
    obtain ⟨o45, h⟩ := h
    refine lf_iast 157 1538 rfl rfl rfl rfl rfl rfl o45 ?_
    refine lf_as (lf_up s.1 96 (114 + x2) (s.1 96 ((x1 + 5) + x2)), s.2.1, s.2.2) rfl ?_
    refine lf_iinc 160 rfl rfl rfl rfl ?_
    refine lf_seg 1 (pc' := 132) (lv' := [(2, .int (Int32.ofInt (x2 + 1))), (0, .ref 95), (1, .int (Int32.ofInt x1))]) (st' := []) rfl ?_
    refine lf_sub (l := [(0, .ref 95), (1, .int (Int32.ofInt x1)), (2, .int (Int32.ofInt (x2 + 1)))]) (lf_sb1 rfl (lf_sb1 rfl (lf_sb1 rfl lf_sb0))) ?_
    exact hX132 _ _ h
theorem gm_238_p132L {L : Nat} {xs : Nat → Int32} {d : Nat} {Q : Int → lf_Z → Prop} {x1 : Int} {x2 : Int} {s : lf_Z} (h : fm_238_p132L Q x1 x2 s) : lf_E (px_ro L xs) (d + 2) 238 132 [(0, .ref 95), (1, .int (Int32.ofInt x1)), (2, .int (Int32.ofInt x2))] [] s (lf_qi Q) :=
  h (fun x2 s => lf_E (px_ro L xs) (d + 2) 238 132 [(0, .ref 95), (1, .int (Int32.ofInt x1)), (2, .int (Int32.ofInt x2))] [] s (lf_qi Q)) (fun x2 s hb => gm_238_p132 (fun _ _ h => h) hb)
def fm_238_p94 (X40 : Int → lf_Z → Prop) (Q : Int → lf_Z → Prop) (x1 : Int) (x2 : Int) (y1 : Int) (y2 : Int) (s : lf_Z) : Prop := (0 ≤ y1 ∧ y1 < 1538) ∧ (X40 (x2 + 1) (lf_up s.1 96 y1 y2, s.2.1, s.2.2))
set_option maxRecDepth 100000 in
theorem gm_238_p94 {L : Nat} {xs : Nat → Int32} {d : Nat} {X40 : Int → lf_Z → Prop} {Q : Int → lf_Z → Prop} {x1 : Int} {x2 : Int} {y1 : Int} {y2 : Int} {s : lf_Z} (hX40 : ∀ x2 s, X40 x2 s → lf_E (px_ro L xs) (d + 2) 238 40 [(0, .ref 95), (1, .int (Int32.ofInt x1)), (2, .int (Int32.ofInt x2))] [] s (lf_qi Q)) (h : fm_238_p94 X40 Q x1 x2 y1 y2 s) : lf_E (px_ro L xs) (d + 2) 238 94 [(0, .ref 95), (1, .int (Int32.ofInt x1)), (2, .int (Int32.ofInt x2))] [.int (Int32.ofInt y2), .int (Int32.ofInt y1), .ref 96] s (lf_qi Q) := by
  unfold fm_238_p94 at h
  obtain ⟨o48, h⟩ := h
  refine lf_iast 95 1538 rfl rfl rfl rfl rfl rfl o48 ?_
  refine lf_as (lf_up s.1 96 y1 y2, s.2.1, s.2.2) rfl ?_
  refine lf_iinc 98 rfl rfl rfl rfl ?_
  refine lf_seg 1 (pc' := 40) (lv' := [(2, .int (Int32.ofInt (x2 + 1))), (0, .ref 95), (1, .int (Int32.ofInt x1))]) (st' := []) rfl ?_
  refine lf_sub (l := [(0, .ref 95), (1, .int (Int32.ofInt x1)), (2, .int (Int32.ofInt (x2 + 1)))]) (lf_sb1 rfl (lf_sb1 rfl (lf_sb1 rfl lf_sb0))) ?_
  exact hX40 _ _ h
def fm_238_p89 (X40 : Int → lf_Z → Prop) (Q : Int → lf_Z → Prop) (x1 : Int) (x2 : Int) (y1 : Int) (s : lf_Z) : Prop := fm_238_p94 X40 Q x1 x2 y1 1 s
set_option maxRecDepth 100000 in
theorem gm_238_p89 {L : Nat} {xs : Nat → Int32} {d : Nat} {X40 : Int → lf_Z → Prop} {Q : Int → lf_Z → Prop} {x1 : Int} {x2 : Int} {y1 : Int} {s : lf_Z} (hX40 : ∀ x2 s, X40 x2 s → lf_E (px_ro L xs) (d + 2) 238 40 [(0, .ref 95), (1, .int (Int32.ofInt x1)), (2, .int (Int32.ofInt x2))] [] s (lf_qi Q)) (h : fm_238_p89 X40 Q x1 x2 y1 s) : lf_E (px_ro L xs) (d + 2) 238 89 [(0, .ref 95), (1, .int (Int32.ofInt x1)), (2, .int (Int32.ofInt x2))] [.int (Int32.ofInt y1), .ref 96] s (lf_qi Q) := by
  unfold fm_238_p89 at h
  refine lf_seg 2 (pc' := 94) (lv' := [(0, .ref 95), (1, .int (Int32.ofInt x1)), (2, .int (Int32.ofInt x2))]) (st' := [.int (Int32.ofInt 1), .int (Int32.ofInt y1), .ref 96]) rfl ?_
  refine lf_sub (l := [(0, .ref 95), (1, .int (Int32.ofInt x1)), (2, .int (Int32.ofInt x2))]) (lf_sb1 rfl (lf_sb1 rfl (lf_sb1 rfl lf_sb0))) ?_
  exact gm_238_p94 hX40 h
def fm_238_p40 (Q : Int → lf_Z → Prop) (x1 : Int) (X40 : Int → lf_Z → Prop) (x2 : Int) (s : lf_Z) : Prop := lf_R x2 ∧ (lf_R (s.1 96 1) ∧ ((s.1 96 1 ≤ x2 → ((0 ≤ x1 + 3 ∧ x1 + 3 < 1538) ∧ ((0 ≤ x1 + 4 ∧ x1 + 4 < 1538) ∧ (fm_238_p132L Q x1 0 (lf_up (lf_up s.1 96 3 (s.1 96 (x1 + 3))) 96 6 ((lf_up s.1 96 3 (s.1 96 (x1 + 3))) 96 (x1 + 4)), s.2.1, s.2.2))))) ∧ (¬ (s.1 96 1 ≤ x2) → ((0 ≤ x1 + 1 ∧ x1 + 1 < 1538) ∧ (lf_R (s.1 96 (x1 + 1)) ∧ ((s.1 96 (x1 + 1) ≤ x2 → (fm_238_p89 X40 Q x1 x2 ((50 + (4 * x2)) + 3) s)) ∧ (¬ (s.1 96 (x1 + 1) ≤ x2) → ((0 ≤ x1 + 2 ∧ x1 + 2 < 1538) ∧ (fm_210 (s.1 96 (x1 + 2)) x2 (fun z51 s50 => ((z51 = false → (fm_238_p94 X40 Q x1 x2 ((50 + (4 * x2)) + 3) 0 s50)) ∧ (z51 = true → (fm_238_p89 X40 Q x1 x2 ((50 + (4 * x2)) + 3) s50)))) s)))))))))
def fm_238_p40L (Q : Int → lf_Z → Prop) (x1 : Int) (x2 : Int) (s : lf_Z) : Prop := ∀ X40 : Int → lf_Z → Prop, (∀ (x2 : Int) (s : lf_Z), fm_238_p40 Q x1 X40 x2 s → X40 x2 s) → X40 x2 s
set_option maxRecDepth 100000 in
theorem gm_238_p40 {L : Nat} {xs : Nat → Int32} {d : Nat} {Q : Int → lf_Z → Prop} {x1 : Int} {x2 : Int} {s : lf_Z} {X40 : Int → lf_Z → Prop} (hX40 : ∀ x2 s, X40 x2 s → lf_E (px_ro L xs) (d + 2) 238 40 [(0, .ref 95), (1, .int (Int32.ofInt x1)), (2, .int (Int32.ofInt x2))] [] s (lf_qi Q)) (h : fm_238_p40 Q x1 X40 x2 s) : lf_E (px_ro L xs) (d + 2) 238 40 [(0, .ref 95), (1, .int (Int32.ofInt x1)), (2, .int (Int32.ofInt x2))] [] s (lf_qi Q) := by
  unfold fm_238_p40 at h
  refine lf_seg 4 (pc' := 46) (lv' := [(0, .ref 95), (1, .int (Int32.ofInt x1)), (2, .int (Int32.ofInt x2))]) (st' := [.int (Int32.ofInt 1), .ref 96, .int (Int32.ofInt x2)]) rfl ?_
  refine lf_iald 47 1538 rfl rfl rfl rfl rfl rfl ⟨by decide, by decide⟩ ?_
  obtain ⟨o22, h⟩ := h
  obtain ⟨o23, h⟩ := h
  refine lf_icmp_ge 101 50 rfl rfl rfl o22 o23 (fun c => ?_) (fun c => ?_)
  · have h := h.1 c
    refine lf_seg 6 (pc' := 111) (lv' := [(0, .ref 95), (1, .int (Int32.ofInt x1)), (2, .int (Int32.ofInt x2))]) (st' := [.int (Int32.ofInt x1), .ref 96, .int (Int32.ofInt 3), .ref 96]) rfl ?_
    refine lf_seg 1 (pc' := 112) (lv' := [(0, .ref 95), (1, .int (Int32.ofInt x1)), (2, .int (Int32.ofInt x2))]) (st' := [.int (Int32.ofInt 3), .int (Int32.ofInt x1), .ref 96, .int (Int32.ofInt 3), .ref 96]) rfl ?_
    refine lf_iadd 113 rfl rfl ?_
    obtain ⟨o24, h⟩ := h
    refine lf_iald 114 1538 rfl rfl rfl rfl rfl rfl o24 ?_
    refine lf_iast 115 1538 rfl rfl rfl rfl rfl rfl ⟨by decide, by decide⟩ ?_
    refine lf_as (lf_up s.1 96 3 (s.1 96 (x1 + 3)), s.2.1, s.2.2) rfl ?_
    refine lf_seg 2 (pc' := 119) (lv' := [(0, .ref 95), (1, .int (Int32.ofInt x1)), (2, .int (Int32.ofInt x2))]) (st' := [.ref 96]) rfl ?_
    refine lf_bipush 121 6 rfl rfl (by decide) (by decide) ?_
    refine lf_seg 4 (pc' := 127) (lv' := [(0, .ref 95), (1, .int (Int32.ofInt x1)), (2, .int (Int32.ofInt x2))]) (st' := [.int (Int32.ofInt 4), .int (Int32.ofInt x1), .ref 96, .int (Int32.ofInt 6), .ref 96]) rfl ?_
    refine lf_iadd 128 rfl rfl ?_
    obtain ⟨o25, h⟩ := h
    refine lf_iald 129 1538 rfl rfl rfl rfl rfl rfl o25 ?_
    refine lf_iast 130 1538 rfl rfl rfl rfl rfl rfl ⟨by decide, by decide⟩ ?_
    refine lf_as (lf_up (lf_up s.1 96 3 (s.1 96 (x1 + 3))) 96 6 ((lf_up s.1 96 3 (s.1 96 (x1 + 3))) 96 (x1 + 4)), s.2.1, s.2.2) rfl ?_
    refine lf_seg 2 (pc' := 132) (lv' := [(2, .int (Int32.ofInt 0)), (0, .ref 95), (1, .int (Int32.ofInt x1))]) (st' := []) rfl ?_
    refine lf_sub (l := [(0, .ref 95), (1, .int (Int32.ofInt x1)), (2, .int (Int32.ofInt 0))]) (lf_sb1 rfl (lf_sb1 rfl (lf_sb1 rfl lf_sb0))) ?_
    exact gm_238_p132L h
  · have h := h.2 c
    refine lf_seg 2 (pc' := 54) (lv' := [(0, .ref 95), (1, .int (Int32.ofInt x1)), (2, .int (Int32.ofInt x2))]) (st' := [.ref 96]) rfl ?_
    refine lf_bipush 56 50 rfl rfl (by decide) (by decide) ?_
    refine lf_seg 2 (pc' := 58) (lv' := [(0, .ref 95), (1, .int (Int32.ofInt x1)), (2, .int (Int32.ofInt x2))]) (st' := [.int (Int32.ofInt x2), .int (Int32.ofInt 4), .int (Int32.ofInt 50), .ref 96]) rfl ?_
    refine lf_imul 59 rfl rfl ?_
    refine lf_iadd 60 rfl rfl ?_
    refine lf_seg 1 (pc' := 61) (lv' := [(0, .ref 95), (1, .int (Int32.ofInt x1)), (2, .int (Int32.ofInt x2))]) (st' := [.int (Int32.ofInt 3), .int (Int32.ofInt (50 + (4 * x2))), .ref 96]) rfl ?_
    refine lf_iadd 62 rfl rfl ?_
    refine lf_seg 5 (pc' := 69) (lv' := [(0, .ref 95), (1, .int (Int32.ofInt x1)), (2, .int (Int32.ofInt x2))]) (st' := [.int (Int32.ofInt 1), .int (Int32.ofInt x1), .ref 96, .int (Int32.ofInt x2), .int (Int32.ofInt ((50 + (4 * x2)) + 3)), .ref 96]) rfl ?_
    refine lf_iadd 70 rfl rfl ?_
    obtain ⟨o46, h⟩ := h
    refine lf_iald 71 1538 rfl rfl rfl rfl rfl rfl o46 ?_
    obtain ⟨o47, h⟩ := h
    refine lf_icmp_ge 89 74 rfl rfl rfl o22 o47 (fun c => ?_) (fun c => ?_)
    · have h := h.1 c
      refine lf_sub (l := [(0, .ref 95), (1, .int (Int32.ofInt x1)), (2, .int (Int32.ofInt x2))]) (lf_sb1 rfl (lf_sb1 rfl (lf_sb1 rfl lf_sb0))) ?_
      exact gm_238_p89 hX40 h
    · have h := h.2 c
      refine lf_seg 4 (pc' := 80) (lv' := [(0, .ref 95), (1, .int (Int32.ofInt x1)), (2, .int (Int32.ofInt x2))]) (st' := [.int (Int32.ofInt 2), .int (Int32.ofInt x1), .ref 96, .int (Int32.ofInt ((50 + (4 * x2)) + 3)), .ref 96]) rfl ?_
      refine lf_iadd 81 rfl rfl ?_
      obtain ⟨o49, h⟩ := h
      refine lf_iald 82 1538 rfl rfl rfl rfl rfl rfl o49 ?_
      refine lf_seg 1 (pc' := 83) (lv' := [(0, .ref 95), (1, .int (Int32.ofInt x1)), (2, .int (Int32.ofInt x2))]) (st' := [.int (Int32.ofInt x2), .int (Int32.ofInt (s.1 96 (x1 + 2))), .int (Int32.ofInt ((50 + (4 * x2)) + 3)), .ref 96]) rfl ?_
      refine lf_callZ 86 rfl rfl rfl rfl (gm_210 h) (fun z51 s50 h => ?_)
      refine lf_ifz_eq 93 89 rfl rfl rfl (fun c => ?_) (fun c => ?_)
      · have h := h.1 c
        refine lf_seg 1 (pc' := 94) (lv' := [(0, .ref 95), (1, .int (Int32.ofInt x1)), (2, .int (Int32.ofInt x2))]) (st' := [.int (Int32.ofInt 0), .int (Int32.ofInt ((50 + (4 * x2)) + 3)), .ref 96]) rfl ?_
        refine lf_sub (l := [(0, .ref 95), (1, .int (Int32.ofInt x1)), (2, .int (Int32.ofInt x2))]) (lf_sb1 rfl (lf_sb1 rfl (lf_sb1 rfl lf_sb0))) ?_
        exact gm_238_p94 hX40 h
      · have h := h.2 c
        refine lf_sub (l := [(0, .ref 95), (1, .int (Int32.ofInt x1)), (2, .int (Int32.ofInt x2))]) (lf_sb1 rfl (lf_sb1 rfl (lf_sb1 rfl lf_sb0))) ?_
        exact gm_238_p89 hX40 h
theorem gm_238_p40L {L : Nat} {xs : Nat → Int32} {d : Nat} {Q : Int → lf_Z → Prop} {x1 : Int} {x2 : Int} {s : lf_Z} (h : fm_238_p40L Q x1 x2 s) : lf_E (px_ro L xs) (d + 2) 238 40 [(0, .ref 95), (1, .int (Int32.ofInt x1)), (2, .int (Int32.ofInt x2))] [] s (lf_qi Q) :=
  h (fun x2 s => lf_E (px_ro L xs) (d + 2) 238 40 [(0, .ref 95), (1, .int (Int32.ofInt x1)), (2, .int (Int32.ofInt x2))] [] s (lf_qi Q)) (fun x2 s hb => gm_238_p40 (fun _ _ h => h) hb)
def fm_238 (Q : Int → lf_Z → Prop) (s : lf_Z) : Prop := lf_R (s.1 96 9) ∧ ((s.1 96 9 ≠ 0 → (fm_238_p40L Q (278 + (42 * ((s.1 96 9) - 1))) 0 (lf_up s.1 96 9 ((s.1 96 9) - 1), s.2.1, s.2.2))) ∧ (¬ (s.1 96 9 ≠ 0) → (Q (-1) s)))
set_option maxRecDepth 100000 in
theorem gm_238 {L : Nat} {xs : Nat → Int32} {d : Nat} {Q : Int → lf_Z → Prop} {s : lf_Z} (h : fm_238 Q s) : lf_M (px_ro L xs) (d + 2) 238 [.ref 95] s (lf_qi Q) := by
  unfold fm_238 at h
  show lf_E (px_ro L xs) (d + 2) 238 0 [(0, .ref 95)] [] s _
  refine lf_seg 2 (pc' := 4) (lv' := [(0, .ref 95)]) (st' := [.ref 96]) rfl ?_
  refine lf_bipush 6 9 rfl rfl (by decide) (by decide) ?_
  refine lf_iald 7 1538 rfl rfl rfl rfl rfl rfl ⟨by decide, by decide⟩ ?_
  obtain ⟨o21, h⟩ := h
  refine lf_if_ne 12 10 rfl rfl rfl o21 (fun c => ?_) (fun c => ?_)
  · have h := h.1 c
    refine lf_seg 2 (pc' := 16) (lv' := [(0, .ref 95)]) (st' := [.ref 96]) rfl ?_
    refine lf_bipush 18 9 rfl rfl (by decide) (by decide) ?_
    refine lf_seg 1 (pc' := 19) (lv' := [(0, .ref 95)]) (st' := [.int (Int32.ofInt 9), .ref 96, .int (Int32.ofInt 9), .ref 96]) rfl ?_
    refine lf_iald 20 1538 rfl rfl rfl rfl rfl rfl ⟨by decide, by decide⟩ ?_
    refine lf_seg 1 (pc' := 21) (lv' := [(0, .ref 95)]) (st' := [.int (Int32.ofInt 1), .int (Int32.ofInt (s.1 96 9)), .int (Int32.ofInt 9), .ref 96]) rfl ?_
    refine lf_isub 22 rfl rfl ?_
    refine lf_iast 23 1538 rfl rfl rfl rfl rfl rfl ⟨by decide, by decide⟩ ?_
    refine lf_as (lf_up s.1 96 9 ((s.1 96 9) - 1), s.2.1, s.2.2) rfl ?_
    refine lf_sipush 26 278 rfl rfl (by decide) (by decide) ?_
    refine lf_bipush 28 42 rfl rfl (by decide) (by decide) ?_
    refine lf_seg 2 (pc' := 32) (lv' := [(0, .ref 95)]) (st' := [.ref 96, .int (Int32.ofInt 42), .int (Int32.ofInt 278)]) rfl ?_
    refine lf_bipush 34 9 rfl rfl (by decide) (by decide) ?_
    refine lf_iald 35 1538 rfl rfl rfl rfl rfl rfl ⟨by decide, by decide⟩ ?_
    refine lf_seg 0 (pc' := 35) (lv' := [(0, .ref 95)]) (st' := [.int (Int32.ofInt ((s.1 96 9) - 1)), .int (Int32.ofInt 42), .int (Int32.ofInt 278)]) rfl ?_
    refine lf_imul 36 rfl rfl ?_
    refine lf_iadd 37 rfl rfl ?_
    refine lf_seg 3 (pc' := 40) (lv' := [(2, .int (Int32.ofInt 0)), (1, .int (Int32.ofInt (278 + (42 * ((s.1 96 9) - 1))))), (0, .ref 95)]) (st' := []) rfl ?_
    refine lf_sub (l := [(0, .ref 95), (1, .int (Int32.ofInt (278 + (42 * ((s.1 96 9) - 1))))), (2, .int (Int32.ofInt 0))]) (lf_sb1 rfl (lf_sb1 rfl (lf_sb1 rfl lf_sb0))) ?_
    exact gm_238_p40L h
  · have h := h.2 c
    refine lf_seg 1 (pc' := 11) (lv' := [(0, .ref 95)]) (st' := [.int (Int32.ofInt (-1))]) rfl ?_
    exact lf_retI rfl rfl h
-- fm_110 ElevenBullocks.bunch 0 i i
def fm_110 (a1 : Int) (a2 : Int) (Q : Int → lf_Z → Prop) (s : lf_Z) : Prop := fm_15 a1 0 3 (fun z22 s21 => ((z22 = false → (Q (-2) s21)) ∧ (z22 = true → (fm_15 a2 0 3 (fun z24 s23 => ((z24 = true → (lf_R a2 ∧ ((a2 ≠ 0 → ((0 ≤ a1 ∧ a1 < 4) ∧ (lf_R (s23.1 16 a1) ∧ ((s23.1 16 a1 ≠ 0 → ((a2 ≠ 3 → ((a2 ≠ 1 → (Q (s23.1 18 a1) s23)) ∧ (¬ (a2 ≠ 1) → (Q (s23.1 17 a1) s23)))) ∧ (¬ (a2 ≠ 3) → (fm_81 a1 (fun r29 s28 => (Q r29 s28)) s23)))) ∧ (¬ (s23.1 16 a1 ≠ 0) → (Q (-1) s23)))))) ∧ (¬ (a2 ≠ 0) → ((0 ≤ a1 ∧ a1 < 4) ∧ (Q (s23.1 16 a1) s23)))))) ∧ (z24 = false → (Q (-2) s23)))) s21)))) s
set_option maxRecDepth 100000 in
theorem gm_110 {L : Nat} {xs : Nat → Int32} {d : Nat} {a1 : Int} {a2 : Int} {Q : Int → lf_Z → Prop} {s : lf_Z} (h : fm_110 a1 a2 Q s) : lf_M (px_ro L xs) (d + 4) 110 [.ref 0, .int (Int32.ofInt a1), .int (Int32.ofInt a2)] s (lf_qi Q) := by
  unfold fm_110 at h
  show lf_E (px_ro L xs) (d + 4) 110 0 [(0, .ref 0), (1, .int (Int32.ofInt a1)), (2, .int (Int32.ofInt a2))] [] s _
  refine lf_seg 3 (pc' := 3) (lv' := [(0, .ref 0), (1, .int (Int32.ofInt a1)), (2, .int (Int32.ofInt a2))]) (st' := [.int (Int32.ofInt 3), .int (Int32.ofInt 0), .int (Int32.ofInt a1)]) rfl ?_
  refine lf_callZ 6 rfl rfl rfl rfl (gm_15 h) (fun z22 s21 h => ?_)
  refine lf_ifz_eq 18 9 rfl rfl rfl (fun c => ?_) (fun c => ?_)
  · have h := h.1 c
    refine lf_bipush 20 (-2) rfl rfl (by decide) (by decide) ?_
    exact lf_retI rfl rfl h
  · have h := h.2 c
    refine lf_seg 3 (pc' := 12) (lv' := [(0, .ref 0), (1, .int (Int32.ofInt a1)), (2, .int (Int32.ofInt a2))]) (st' := [.int (Int32.ofInt 3), .int (Int32.ofInt 0), .int (Int32.ofInt a2)]) rfl ?_
    refine lf_callZ 15 rfl rfl rfl rfl (gm_15 h) (fun z24 s23 h => ?_)
    refine lf_ifz_ne 21 18 rfl rfl rfl (fun c => ?_) (fun c => ?_)
    · have h := h.1 c
      refine lf_seg 1 (pc' := 22) (lv' := [(0, .ref 0), (1, .int (Int32.ofInt a1)), (2, .int (Int32.ofInt a2))]) (st' := [.int (Int32.ofInt a2)]) rfl ?_
      obtain ⟨o25, h⟩ := h
      refine lf_if_ne 35 25 rfl rfl rfl o25 (fun c => ?_) (fun c => ?_)
      · have h := h.1 c
        refine lf_seg 4 (pc' := 43) (lv' := [(0, .ref 0), (1, .int (Int32.ofInt a1)), (2, .int (Int32.ofInt a2))]) (st' := [.int (Int32.ofInt a1), .ref 16]) rfl ?_
        obtain ⟨o26, h⟩ := h
        refine lf_iald 44 4 rfl rfl rfl rfl rfl rfl o26 ?_
        obtain ⟨o27, h⟩ := h
        refine lf_if_ne 49 47 rfl rfl rfl o27 (fun c => ?_) (fun c => ?_)
        · have h := h.1 c
          refine lf_seg 2 (pc' := 51) (lv' := [(0, .ref 0), (1, .int (Int32.ofInt a1)), (2, .int (Int32.ofInt a2))]) (st' := [.int (Int32.ofInt 3), .int (Int32.ofInt a2)]) rfl ?_
          refine lf_icmp_ne 63 54 rfl rfl rfl o25 ⟨by decide, by decide⟩ (fun c => ?_) (fun c => ?_)
          · have h := h.1 c
            refine lf_seg 2 (pc' := 65) (lv' := [(0, .ref 0), (1, .int (Int32.ofInt a1)), (2, .int (Int32.ofInt a2))]) (st' := [.int (Int32.ofInt 1), .int (Int32.ofInt a2)]) rfl ?_
            refine lf_icmp_ne 80 68 rfl rfl rfl o25 ⟨by decide, by decide⟩ (fun c => ?_) (fun c => ?_)
            · have h := h.1 c
              refine lf_seg 4 (pc' := 88) (lv' := [(0, .ref 0), (1, .int (Int32.ofInt a1)), (2, .int (Int32.ofInt a2))]) (st' := [.int (Int32.ofInt a1), .ref 18]) rfl ?_
              refine lf_iald 89 4 rfl rfl rfl rfl rfl rfl o26 ?_
              exact lf_retI rfl rfl h
            · have h := h.2 c
              refine lf_seg 4 (pc' := 76) (lv' := [(0, .ref 0), (1, .int (Int32.ofInt a1)), (2, .int (Int32.ofInt a2))]) (st' := [.int (Int32.ofInt a1), .ref 17]) rfl ?_
              refine lf_iald 77 4 rfl rfl rfl rfl rfl rfl o26 ?_
              refine lf_seg 1 (pc' := 89) (lv' := [(0, .ref 0), (1, .int (Int32.ofInt a1)), (2, .int (Int32.ofInt a2))]) (st' := [.int (Int32.ofInt (s23.1 17 a1))]) rfl ?_
              exact lf_retI rfl rfl h
          · have h := h.2 c
            refine lf_seg 3 (pc' := 59) (lv' := [(0, .ref 0), (1, .int (Int32.ofInt a1)), (2, .int (Int32.ofInt a2))]) (st' := [.int (Int32.ofInt a1), .ref 63]) rfl ?_
            refine lf_callI 62 rfl rfl rfl rfl (gm_81 h) (fun r29 s28 h => ?_)
            exact lf_retI rfl rfl h
        · have h := h.2 c
          refine lf_seg 1 (pc' := 48) (lv' := [(0, .ref 0), (1, .int (Int32.ofInt a1)), (2, .int (Int32.ofInt a2))]) (st' := [.int (Int32.ofInt (-1))]) rfl ?_
          exact lf_retI rfl rfl h
      · have h := h.2 c
        refine lf_seg 4 (pc' := 33) (lv' := [(0, .ref 0), (1, .int (Int32.ofInt a1)), (2, .int (Int32.ofInt a2))]) (st' := [.int (Int32.ofInt a1), .ref 16]) rfl ?_
        obtain ⟨o30, h⟩ := h
        refine lf_iald 34 4 rfl rfl rfl rfl rfl rfl o30 ?_
        exact lf_retI rfl rfl h
    · have h := h.2 c
      refine lf_bipush 20 (-2) rfl rfl (by decide) (by decide) ?_
      exact lf_retI rfl rfl h
-- fm_284 Model.bunch 95 i i
def fm_284 (a1 : Int) (a2 : Int) (Q : Int → lf_Z → Prop) (s : lf_Z) : Prop := fm_183 a1 0 3 (fun z22 s21 => ((z22 = false → (Q (-2) s21)) ∧ (z22 = true → (fm_183 a2 0 3 (fun z24 s23 => ((z24 = true → (lf_R a2 ∧ ((a2 ≠ 0 → (fm_242 a1 (fun r27 s26 => (lf_R r27 ∧ ((r27 ≠ 0 → ((a2 ≠ 1 → ((a2 ≠ 2 → (fm_263 a1 (fun r30 s29 => (Q r30 s29)) s26)) ∧ (¬ (a2 ≠ 2) → (fm_256 a1 (fun r32 s31 => (Q r32 s31)) s26)))) ∧ (¬ (a2 ≠ 1) → (fm_255 a1 (fun r34 s33 => (Q r34 s33)) s26)))) ∧ (¬ (r27 ≠ 0) → (Q (-1) s26))))) s23)) ∧ (¬ (a2 ≠ 0) → (fm_242 a1 (fun r36 s35 => (Q r36 s35)) s23))))) ∧ (z24 = false → (Q (-2) s23)))) s21)))) s
set_option maxRecDepth 100000 in
theorem gm_284 {L : Nat} {xs : Nat → Int32} {d : Nat} {a1 : Int} {a2 : Int} {Q : Int → lf_Z → Prop} {s : lf_Z} (h : fm_284 a1 a2 Q s) : lf_M (px_ro L xs) (d + 6) 284 [.ref 95, .int (Int32.ofInt a1), .int (Int32.ofInt a2)] s (lf_qi Q) := by
  unfold fm_284 at h
  show lf_E (px_ro L xs) (d + 6) 284 0 [(0, .ref 95), (1, .int (Int32.ofInt a1)), (2, .int (Int32.ofInt a2))] [] s _
  refine lf_seg 3 (pc' := 3) (lv' := [(0, .ref 95), (1, .int (Int32.ofInt a1)), (2, .int (Int32.ofInt a2))]) (st' := [.int (Int32.ofInt 3), .int (Int32.ofInt 0), .int (Int32.ofInt a1)]) rfl ?_
  refine lf_callZ 6 rfl rfl rfl rfl (gm_183 h) (fun z22 s21 h => ?_)
  refine lf_ifz_eq 18 9 rfl rfl rfl (fun c => ?_) (fun c => ?_)
  · have h := h.1 c
    refine lf_bipush 20 (-2) rfl rfl (by decide) (by decide) ?_
    exact lf_retI rfl rfl h
  · have h := h.2 c
    refine lf_seg 3 (pc' := 12) (lv' := [(0, .ref 95), (1, .int (Int32.ofInt a1)), (2, .int (Int32.ofInt a2))]) (st' := [.int (Int32.ofInt 3), .int (Int32.ofInt 0), .int (Int32.ofInt a2)]) rfl ?_
    refine lf_callZ 15 rfl rfl rfl rfl (gm_183 h) (fun z24 s23 h => ?_)
    refine lf_ifz_ne 21 18 rfl rfl rfl (fun c => ?_) (fun c => ?_)
    · have h := h.1 c
      refine lf_seg 1 (pc' := 22) (lv' := [(0, .ref 95), (1, .int (Int32.ofInt a1)), (2, .int (Int32.ofInt a2))]) (st' := [.int (Int32.ofInt a2)]) rfl ?_
      obtain ⟨o25, h⟩ := h
      refine lf_if_ne 31 25 rfl rfl rfl o25 (fun c => ?_) (fun c => ?_)
      · have h := h.1 c
        refine lf_seg 2 (pc' := 33) (lv' := [(0, .ref 95), (1, .int (Int32.ofInt a1)), (2, .int (Int32.ofInt a2))]) (st' := [.int (Int32.ofInt a1), .ref 95]) rfl ?_
        refine lf_callI 36 rfl rfl rfl rfl (gm_242 h) (fun r27 s26 h => ?_)
        obtain ⟨o28, h⟩ := h
        refine lf_if_ne 41 39 rfl rfl rfl o28 (fun c => ?_) (fun c => ?_)
        · have h := h.1 c
          refine lf_seg 2 (pc' := 43) (lv' := [(0, .ref 95), (1, .int (Int32.ofInt a1)), (2, .int (Int32.ofInt a2))]) (st' := [.int (Int32.ofInt 1), .int (Int32.ofInt a2)]) rfl ?_
          refine lf_icmp_ne 54 46 rfl rfl rfl o25 ⟨by decide, by decide⟩ (fun c => ?_) (fun c => ?_)
          · have h := h.1 c
            refine lf_seg 2 (pc' := 56) (lv' := [(0, .ref 95), (1, .int (Int32.ofInt a1)), (2, .int (Int32.ofInt a2))]) (st' := [.int (Int32.ofInt 2), .int (Int32.ofInt a2)]) rfl ?_
            refine lf_icmp_ne 67 59 rfl rfl rfl o25 ⟨by decide, by decide⟩ (fun c => ?_) (fun c => ?_)
            · have h := h.1 c
              refine lf_seg 2 (pc' := 69) (lv' := [(0, .ref 95), (1, .int (Int32.ofInt a1)), (2, .int (Int32.ofInt a2))]) (st' := [.int (Int32.ofInt a1), .ref 95]) rfl ?_
              refine lf_callI 72 rfl rfl rfl rfl (gm_263 h) (fun r30 s29 h => ?_)
              exact lf_retI rfl rfl h
            · have h := h.2 c
              refine lf_seg 2 (pc' := 61) (lv' := [(0, .ref 95), (1, .int (Int32.ofInt a1)), (2, .int (Int32.ofInt a2))]) (st' := [.int (Int32.ofInt a1), .ref 95]) rfl ?_
              refine lf_callI 64 rfl rfl rfl rfl (gm_256 h) (fun r32 s31 h => ?_)
              refine lf_seg 1 (pc' := 72) (lv' := [(0, .ref 95), (1, .int (Int32.ofInt a1)), (2, .int (Int32.ofInt a2))]) (st' := [.int (Int32.ofInt r32)]) rfl ?_
              exact lf_retI rfl rfl h
          · have h := h.2 c
            refine lf_seg 2 (pc' := 48) (lv' := [(0, .ref 95), (1, .int (Int32.ofInt a1)), (2, .int (Int32.ofInt a2))]) (st' := [.int (Int32.ofInt a1), .ref 95]) rfl ?_
            refine lf_callI 51 rfl rfl rfl rfl (gm_255 h) (fun r34 s33 h => ?_)
            refine lf_seg 1 (pc' := 72) (lv' := [(0, .ref 95), (1, .int (Int32.ofInt a1)), (2, .int (Int32.ofInt a2))]) (st' := [.int (Int32.ofInt r34)]) rfl ?_
            exact lf_retI rfl rfl h
        · have h := h.2 c
          refine lf_seg 1 (pc' := 40) (lv' := [(0, .ref 95), (1, .int (Int32.ofInt a1)), (2, .int (Int32.ofInt a2))]) (st' := [.int (Int32.ofInt (-1))]) rfl ?_
          exact lf_retI rfl rfl h
      · have h := h.2 c
        refine lf_seg 2 (pc' := 27) (lv' := [(0, .ref 95), (1, .int (Int32.ofInt a1)), (2, .int (Int32.ofInt a2))]) (st' := [.int (Int32.ofInt a1), .ref 95]) rfl ?_
        refine lf_callI 30 rfl rfl rfl rfl (gm_242 h) (fun r36 s35 h => ?_)
        exact lf_retI rfl rfl h
    · have h := h.2 c
      refine lf_bipush 20 (-2) rfl rfl (by decide) (by decide) ?_
      exact lf_retI rfl rfl h
-- fm_111 ElevenBullocks.ofPerson 0 i i
def fm_111 (a1 : Int) (a2 : Int) (Q : Int → lf_Z → Prop) (s : lf_Z) : Prop := fm_99 a1 (fun z22 s21 => ((z22 = true → (lf_R a2 ∧ ((a2 < 0 ∨ 4 < a2 → (Q (-2) s21)) ∧ (a2 = 0 → ((0 ≤ a1 ∧ a1 < 6) ∧ (Q (s21.1 7 a1) s21))) ∧ (a2 = 1 → ((0 ≤ a1 ∧ a1 < 6) ∧ (lf_R (s21.1 8 a1) ∧ ((s21.1 8 a1 = 0 → (Q 0 s21)) ∧ (¬ (s21.1 8 a1 = 0) → (Q 1 s21)))))) ∧ (a2 = 2 → ((0 ≤ a1 ∧ a1 < 6) ∧ (lf_R (s21.1 9 a1) ∧ ((s21.1 9 a1 = 0 → (Q 0 s21)) ∧ (¬ (s21.1 9 a1 = 0) → (Q 1 s21)))))) ∧ (a2 = 3 → ((0 ≤ a1 ∧ a1 < 6) ∧ (Q (s21.1 19 a1) s21))) ∧ (a2 = 4 → ((0 ≤ a1 ∧ a1 < 6) ∧ (Q (s21.1 20 a1) s21)))))) ∧ (z22 = false → (Q (-2) s21)))) s
set_option maxRecDepth 100000 in
theorem gm_111 {L : Nat} {xs : Nat → Int32} {d : Nat} {a1 : Int} {a2 : Int} {Q : Int → lf_Z → Prop} {s : lf_Z} (h : fm_111 a1 a2 Q s) : lf_M (px_ro L xs) (d + 2) 111 [.ref 0, .int (Int32.ofInt a1), .int (Int32.ofInt a2)] s (lf_qi Q) := by
  unfold fm_111 at h
  show lf_E (px_ro L xs) (d + 2) 111 0 [(0, .ref 0), (1, .int (Int32.ofInt a1)), (2, .int (Int32.ofInt a2))] [] s _
  refine lf_seg 3 (pc' := 5) (lv' := [(0, .ref 0), (1, .int (Int32.ofInt a1)), (2, .int (Int32.ofInt a2))]) (st' := [.int (Int32.ofInt a1), .ref 1]) rfl ?_
  refine lf_callZ 8 rfl rfl rfl rfl (gm_99 h) (fun z22 s21 h => ?_)
  refine lf_ifz_ne 14 11 rfl rfl rfl (fun c => ?_) (fun c => ?_)
  · have h := h.1 c
    refine lf_seg 1 (pc' := 15) (lv' := [(0, .ref 0), (1, .int (Int32.ofInt a1)), (2, .int (Int32.ofInt a2))]) (st' := [.int (Int32.ofInt a2)]) rfl ?_
    obtain ⟨o23, h⟩ := h
    refine lf_tsw 114 [(0, 48), (1, 58), (2, 76), (3, 94), (4, 104)] rfl rfl rfl (by decide) o23 (fun c => ?_) (lf_tab1 (fun c => ?_) (lf_tab1 (fun c => ?_) (lf_tab1 (fun c => ?_) (lf_tab1 (fun c => ?_) (lf_tab1 (fun c => ?_) lf_tab0)))))
    · have h := h.1 c
      refine lf_bipush 116 (-2) rfl rfl (by decide) (by decide) ?_
      exact lf_retI rfl rfl h
    · have h := h.2.1 c
      refine lf_seg 4 (pc' := 56) (lv' := [(0, .ref 0), (1, .int (Int32.ofInt a1)), (2, .int (Int32.ofInt a2))]) (st' := [.int (Int32.ofInt a1), .ref 7]) rfl ?_
      obtain ⟨o24, h⟩ := h
      refine lf_iald 57 6 rfl rfl rfl rfl rfl rfl o24 ?_
      exact lf_retI rfl rfl h
    · have h := h.2.2.1 c
      refine lf_seg 4 (pc' := 66) (lv' := [(0, .ref 0), (1, .int (Int32.ofInt a1)), (2, .int (Int32.ofInt a2))]) (st' := [.int (Int32.ofInt a1), .ref 8]) rfl ?_
      obtain ⟨o25, h⟩ := h
      refine lf_zald 67 6 rfl rfl rfl rfl rfl rfl o25 ?_
      obtain ⟨o26, h⟩ := h
      refine lf_if_eq 74 70 rfl rfl rfl o26 (fun c => ?_) (fun c => ?_)
      · have h := h.1 c
        refine lf_seg 1 (pc' := 75) (lv' := [(0, .ref 0), (1, .int (Int32.ofInt a1)), (2, .int (Int32.ofInt a2))]) (st' := [.int (Int32.ofInt 0)]) rfl ?_
        exact lf_retI rfl rfl h
      · have h := h.2 c
        refine lf_seg 2 (pc' := 75) (lv' := [(0, .ref 0), (1, .int (Int32.ofInt a1)), (2, .int (Int32.ofInt a2))]) (st' := [.int (Int32.ofInt 1)]) rfl ?_
        exact lf_retI rfl rfl h
    · have h := h.2.2.2.1 c
      refine lf_seg 4 (pc' := 84) (lv' := [(0, .ref 0), (1, .int (Int32.ofInt a1)), (2, .int (Int32.ofInt a2))]) (st' := [.int (Int32.ofInt a1), .ref 9]) rfl ?_
      obtain ⟨o27, h⟩ := h
      refine lf_zald 85 6 rfl rfl rfl rfl rfl rfl o27 ?_
      obtain ⟨o28, h⟩ := h
      refine lf_if_eq 92 88 rfl rfl rfl o28 (fun c => ?_) (fun c => ?_)
      · have h := h.1 c
        refine lf_seg 1 (pc' := 93) (lv' := [(0, .ref 0), (1, .int (Int32.ofInt a1)), (2, .int (Int32.ofInt a2))]) (st' := [.int (Int32.ofInt 0)]) rfl ?_
        exact lf_retI rfl rfl h
      · have h := h.2 c
        refine lf_seg 2 (pc' := 93) (lv' := [(0, .ref 0), (1, .int (Int32.ofInt a1)), (2, .int (Int32.ofInt a2))]) (st' := [.int (Int32.ofInt 1)]) rfl ?_
        exact lf_retI rfl rfl h
    · have h := h.2.2.2.2.1 c
      refine lf_seg 4 (pc' := 102) (lv' := [(0, .ref 0), (1, .int (Int32.ofInt a1)), (2, .int (Int32.ofInt a2))]) (st' := [.int (Int32.ofInt a1), .ref 19]) rfl ?_
      obtain ⟨o29, h⟩ := h
      refine lf_iald 103 6 rfl rfl rfl rfl rfl rfl o29 ?_
      exact lf_retI rfl rfl h
    · have h := h.2.2.2.2.2 c
      refine lf_seg 4 (pc' := 112) (lv' := [(0, .ref 0), (1, .int (Int32.ofInt a1)), (2, .int (Int32.ofInt a2))]) (st' := [.int (Int32.ofInt a1), .ref 20]) rfl ?_
      obtain ⟨o30, h⟩ := h
      refine lf_iald 113 6 rfl rfl rfl rfl rfl rfl o30 ?_
      exact lf_retI rfl rfl h
  · have h := h.2 c
    refine lf_bipush 13 (-2) rfl rfl (by decide) (by decide) ?_
    exact lf_retI rfl rfl h
-- fm_285 Model.ofPerson 95 i i
def fm_285 (a1 : Int) (a2 : Int) (Q : Int → lf_Z → Prop) (s : lf_Z) : Prop := fm_249 a1 (fun z22 s21 => ((z22 = false → (Q (-2) s21)) ∧ (z22 = true → (fm_183 a2 0 4 (fun z24 s23 => ((z24 = false → (Q (-2) s23)) ∧ (z24 = true → (fm_239c a1 a2 (fun r26 s25 => (Q r26 s25)) s23)))) s21)))) s
set_option maxRecDepth 100000 in
theorem gm_285 {L : Nat} {xs : Nat → Int32} {d : Nat} {a1 : Int} {a2 : Int} {Q : Int → lf_Z → Prop} {s : lf_Z} (h : fm_285 a1 a2 Q s) : lf_M (px_ro L xs) (d + 3) 285 [.ref 95, .int (Int32.ofInt a1), .int (Int32.ofInt a2)] s (lf_qi Q) := by
  unfold fm_285 at h
  show lf_E (px_ro L xs) (d + 3) 285 0 [(0, .ref 95), (1, .int (Int32.ofInt a1)), (2, .int (Int32.ofInt a2))] [] s _
  refine lf_seg 2 (pc' := 2) (lv' := [(0, .ref 95), (1, .int (Int32.ofInt a1)), (2, .int (Int32.ofInt a2))]) (st' := [.int (Int32.ofInt a1), .ref 95]) rfl ?_
  refine lf_callZ 5 rfl rfl rfl rfl (gm_249 h) (fun z22 s21 h => ?_)
  refine lf_ifz_eq 26 8 rfl rfl rfl (fun c => ?_) (fun c => ?_)
  · have h := h.1 c
    refine lf_bipush 28 (-2) rfl rfl (by decide) (by decide) ?_
    exact lf_retI rfl rfl h
  · have h := h.2 c
    refine lf_seg 3 (pc' := 11) (lv' := [(0, .ref 95), (1, .int (Int32.ofInt a1)), (2, .int (Int32.ofInt a2))]) (st' := [.int (Int32.ofInt 4), .int (Int32.ofInt 0), .int (Int32.ofInt a2)]) rfl ?_
    refine lf_callZ 14 rfl rfl rfl rfl (gm_183 h) (fun z24 s23 h => ?_)
    refine lf_ifz_eq 26 17 rfl rfl rfl (fun c => ?_) (fun c => ?_)
    · have h := h.1 c
      refine lf_bipush 28 (-2) rfl rfl (by decide) (by decide) ?_
      exact lf_retI rfl rfl h
    · have h := h.2 c
      refine lf_seg 3 (pc' := 20) (lv' := [(0, .ref 95), (1, .int (Int32.ofInt a1)), (2, .int (Int32.ofInt a2))]) (st' := [.int (Int32.ofInt a2), .int (Int32.ofInt a1), .ref 95]) rfl ?_
      refine lf_callI 23 rfl rfl rfl rfl (gm_239c h) (fun r26 s25 h => ?_)
      refine lf_seg 1 (pc' := 28) (lv' := [(0, .ref 95), (1, .int (Int32.ofInt a1)), (2, .int (Int32.ofInt a2))]) (st' := [.int (Int32.ofInt r26)]) rfl ?_
      exact lf_retI rfl rfl h
-- fm_113 Land.bitsOfWaysAt 1 i
def fm_113_p4 (Q : Int → lf_Z → Prop) (x1 : Int) (X4 : Int → Int → lf_Z → Prop) (x2 : Int) (x3 : Int) (s : lf_Z) : Prop := fm_76 x1 (fun r22 s21 => (lf_R x3 ∧ (lf_R r22 ∧ ((r22 ≤ x3 → (Q x2 s21)) ∧ (¬ (r22 ≤ x3) → (fm_77 x1 x3 (fun r26 s25 => (X4 (lf_or x2 (lf_shl 1 r26)) (x3 + 1) s25)) s21)))))) s
def fm_113_p4L (Q : Int → lf_Z → Prop) (x1 : Int) (x2 : Int) (x3 : Int) (s : lf_Z) : Prop := ∀ X4 : Int → Int → lf_Z → Prop, (∀ (x2 : Int) (x3 : Int) (s : lf_Z), fm_113_p4 Q x1 X4 x2 x3 s → X4 x2 x3 s) → X4 x2 x3 s
set_option maxRecDepth 100000 in
theorem gm_113_p4 {L : Nat} {xs : Nat → Int32} {d : Nat} {Q : Int → lf_Z → Prop} {x1 : Int} {x2 : Int} {x3 : Int} {s : lf_Z} {X4 : Int → Int → lf_Z → Prop} (hX4 : ∀ x2 x3 s, X4 x2 x3 s → lf_E (px_ro L xs) (d + 3) 113 4 [(0, .ref 1), (1, .int (Int32.ofInt x1)), (2, .int (Int32.ofInt x2)), (3, .int (Int32.ofInt x3))] [] s (lf_qi Q)) (h : fm_113_p4 Q x1 X4 x2 x3 s) : lf_E (px_ro L xs) (d + 3) 113 4 [(0, .ref 1), (1, .int (Int32.ofInt x1)), (2, .int (Int32.ofInt x2)), (3, .int (Int32.ofInt x3))] [] s (lf_qi Q) := by
  unfold fm_113_p4 at h
  refine lf_seg 3 (pc' := 7) (lv' := [(0, .ref 1), (1, .int (Int32.ofInt x1)), (2, .int (Int32.ofInt x2)), (3, .int (Int32.ofInt x3))]) (st' := [.int (Int32.ofInt x1), .ref 1, .int (Int32.ofInt x3)]) rfl ?_
  refine lf_callI 10 rfl rfl rfl rfl (gm_76 h) (fun r22 s21 h => ?_)
  obtain ⟨o23, h⟩ := h
  obtain ⟨o24, h⟩ := h
  refine lf_icmp_ge 30 13 rfl rfl rfl o23 o24 (fun c => ?_) (fun c => ?_)
  · have h := h.1 c
    refine lf_seg 1 (pc' := 31) (lv' := [(0, .ref 1), (1, .int (Int32.ofInt x1)), (2, .int (Int32.ofInt x2)), (3, .int (Int32.ofInt x3))]) (st' := [.int (Int32.ofInt x2)]) rfl ?_
    exact lf_retI rfl rfl h
  · have h := h.2 c
    refine lf_seg 5 (pc' := 18) (lv' := [(0, .ref 1), (1, .int (Int32.ofInt x1)), (2, .int (Int32.ofInt x2)), (3, .int (Int32.ofInt x3))]) (st' := [.int (Int32.ofInt x3), .int (Int32.ofInt x1), .ref 1, .int (Int32.ofInt 1), .int (Int32.ofInt x2)]) rfl ?_
    refine lf_callI 21 rfl rfl rfl rfl (gm_77 h) (fun r26 s25 h => ?_)
    refine lf_ishl 22 rfl rfl ?_
    refine lf_ior 23 rfl rfl ?_
    refine lf_seg 1 (pc' := 24) (lv' := [(2, .int (Int32.ofInt (lf_or x2 (lf_shl 1 r26)))), (0, .ref 1), (1, .int (Int32.ofInt x1)), (3, .int (Int32.ofInt x3))]) (st' := []) rfl ?_
    refine lf_iinc 27 rfl rfl rfl rfl ?_
    refine lf_seg 1 (pc' := 4) (lv' := [(3, .int (Int32.ofInt (x3 + 1))), (2, .int (Int32.ofInt (lf_or x2 (lf_shl 1 r26)))), (0, .ref 1), (1, .int (Int32.ofInt x1))]) (st' := []) rfl ?_
    refine lf_sub (l := [(0, .ref 1), (1, .int (Int32.ofInt x1)), (2, .int (Int32.ofInt (lf_or x2 (lf_shl 1 r26)))), (3, .int (Int32.ofInt (x3 + 1)))]) (lf_sb1 rfl (lf_sb1 rfl (lf_sb1 rfl (lf_sb1 rfl lf_sb0)))) ?_
    exact hX4 _ _ _ h
theorem gm_113_p4L {L : Nat} {xs : Nat → Int32} {d : Nat} {Q : Int → lf_Z → Prop} {x1 : Int} {x2 : Int} {x3 : Int} {s : lf_Z} (h : fm_113_p4L Q x1 x2 x3 s) : lf_E (px_ro L xs) (d + 3) 113 4 [(0, .ref 1), (1, .int (Int32.ofInt x1)), (2, .int (Int32.ofInt x2)), (3, .int (Int32.ofInt x3))] [] s (lf_qi Q) :=
  h (fun x2 x3 s => lf_E (px_ro L xs) (d + 3) 113 4 [(0, .ref 1), (1, .int (Int32.ofInt x1)), (2, .int (Int32.ofInt x2)), (3, .int (Int32.ofInt x3))] [] s (lf_qi Q)) (fun x2 x3 s hb => gm_113_p4 (fun _ _ _ h => h) hb)
def fm_113 (a1 : Int) (Q : Int → lf_Z → Prop) (s : lf_Z) : Prop := fm_113_p4L Q a1 0 0 s
set_option maxRecDepth 100000 in
theorem gm_113 {L : Nat} {xs : Nat → Int32} {d : Nat} {a1 : Int} {Q : Int → lf_Z → Prop} {s : lf_Z} (h : fm_113 a1 Q s) : lf_M (px_ro L xs) (d + 3) 113 [.ref 1, .int (Int32.ofInt a1)] s (lf_qi Q) := by
  unfold fm_113 at h
  show lf_E (px_ro L xs) (d + 3) 113 0 [(0, .ref 1), (1, .int (Int32.ofInt a1))] [] s _
  refine lf_seg 4 (pc' := 4) (lv' := [(3, .int (Int32.ofInt 0)), (2, .int (Int32.ofInt 0)), (0, .ref 1), (1, .int (Int32.ofInt a1))]) (st' := []) rfl ?_
  refine lf_sub (l := [(0, .ref 1), (1, .int (Int32.ofInt a1)), (2, .int (Int32.ofInt 0)), (3, .int (Int32.ofInt 0))]) (lf_sb1 rfl (lf_sb1 rfl (lf_sb1 rfl (lf_sb1 rfl lf_sb0)))) ?_
  exact gm_113_p4L h
-- fm_112 ElevenBullocks.ofStretch 0 i i
def fm_112 (a1 : Int) (a2 : Int) (Q : Int → lf_Z → Prop) (s : lf_Z) : Prop := fm_18 a1 (fun z22 s21 => ((z22 = true → (lf_R a2 ∧ ((a2 < 0 ∨ 3 < a2 → (Q (-1) s21)) ∧ (a2 = 0 → ((0 ≤ a1 ∧ a1 < 12) ∧ (Q (s21.1 2 a1) s21))) ∧ (a2 = 1 → ((0 ≤ a1 ∧ a1 < 12) ∧ (Q (s21.1 3 a1) s21))) ∧ (a2 = 2 → ((0 ≤ a1 ∧ a1 < 12) ∧ (Q (s21.1 21 a1) s21))) ∧ (a2 = 3 → (fm_113 a1 (fun r28 s27 => (Q r28 s27)) s21))))) ∧ (z22 = false → (Q (-1) s21)))) s
set_option maxRecDepth 100000 in
theorem gm_112 {L : Nat} {xs : Nat → Int32} {d : Nat} {a1 : Int} {a2 : Int} {Q : Int → lf_Z → Prop} {s : lf_Z} (h : fm_112 a1 a2 Q s) : lf_M (px_ro L xs) (d + 4) 112 [.ref 0, .int (Int32.ofInt a1), .int (Int32.ofInt a2)] s (lf_qi Q) := by
  unfold fm_112 at h
  show lf_E (px_ro L xs) (d + 4) 112 0 [(0, .ref 0), (1, .int (Int32.ofInt a1)), (2, .int (Int32.ofInt a2))] [] s _
  refine lf_seg 3 (pc' := 5) (lv' := [(0, .ref 0), (1, .int (Int32.ofInt a1)), (2, .int (Int32.ofInt a2))]) (st' := [.int (Int32.ofInt a1), .ref 1]) rfl ?_
  refine lf_callZ 8 rfl rfl rfl rfl (gm_18 h) (fun z22 s21 h => ?_)
  refine lf_ifz_ne 13 11 rfl rfl rfl (fun c => ?_) (fun c => ?_)
  · have h := h.1 c
    refine lf_seg 1 (pc' := 14) (lv' := [(0, .ref 0), (1, .int (Int32.ofInt a1)), (2, .int (Int32.ofInt a2))]) (st' := [.int (Int32.ofInt a2)]) rfl ?_
    obtain ⟨o23, h⟩ := h
    refine lf_tsw 83 [(0, 44), (1, 54), (2, 64), (3, 74)] rfl rfl rfl (by decide) o23 (fun c => ?_) (lf_tab1 (fun c => ?_) (lf_tab1 (fun c => ?_) (lf_tab1 (fun c => ?_) (lf_tab1 (fun c => ?_) lf_tab0))))
    · have h := h.1 c
      refine lf_seg 1 (pc' := 84) (lv' := [(0, .ref 0), (1, .int (Int32.ofInt a1)), (2, .int (Int32.ofInt a2))]) (st' := [.int (Int32.ofInt (-1))]) rfl ?_
      exact lf_retI rfl rfl h
    · have h := h.2.1 c
      refine lf_seg 4 (pc' := 52) (lv' := [(0, .ref 0), (1, .int (Int32.ofInt a1)), (2, .int (Int32.ofInt a2))]) (st' := [.int (Int32.ofInt a1), .ref 2]) rfl ?_
      obtain ⟨o24, h⟩ := h
      refine lf_iald 53 12 rfl rfl rfl rfl rfl rfl o24 ?_
      exact lf_retI rfl rfl h
    · have h := h.2.2.1 c
      refine lf_seg 4 (pc' := 62) (lv' := [(0, .ref 0), (1, .int (Int32.ofInt a1)), (2, .int (Int32.ofInt a2))]) (st' := [.int (Int32.ofInt a1), .ref 3]) rfl ?_
      obtain ⟨o25, h⟩ := h
      refine lf_iald 63 12 rfl rfl rfl rfl rfl rfl o25 ?_
      exact lf_retI rfl rfl h
    · have h := h.2.2.2.1 c
      refine lf_seg 4 (pc' := 72) (lv' := [(0, .ref 0), (1, .int (Int32.ofInt a1)), (2, .int (Int32.ofInt a2))]) (st' := [.int (Int32.ofInt a1), .ref 21]) rfl ?_
      obtain ⟨o26, h⟩ := h
      refine lf_iald 73 12 rfl rfl rfl rfl rfl rfl o26 ?_
      exact lf_retI rfl rfl h
    · have h := h.2.2.2.2 c
      refine lf_seg 3 (pc' := 79) (lv' := [(0, .ref 0), (1, .int (Int32.ofInt a1)), (2, .int (Int32.ofInt a2))]) (st' := [.int (Int32.ofInt a1), .ref 1]) rfl ?_
      refine lf_callI 82 rfl rfl rfl rfl (gm_113 h) (fun r28 s27 h => ?_)
      exact lf_retI rfl rfl h
  · have h := h.2 c
    refine lf_seg 1 (pc' := 12) (lv' := [(0, .ref 0), (1, .int (Int32.ofInt a1)), (2, .int (Int32.ofInt a2))]) (st' := [.int (Int32.ofInt (-1))]) rfl ?_
    exact lf_retI rfl rfl h
-- fm_286 Model.ofStretch 95 i i
def fm_286 (a1 : Int) (a2 : Int) (Q : Int → lf_Z → Prop) (s : lf_Z) : Prop := fm_185 a1 (fun z22 s21 => ((z22 = false → (Q (-1) s21)) ∧ (z22 = true → (fm_183 a2 0 3 (fun z24 s23 => ((z24 = true → (lf_R a2 ∧ ((a2 ≠ 3 → ((0 ≤ (14 + (3 * a1)) + a2 ∧ (14 + (3 * a1)) + a2 < 1538) ∧ (Q (s23.1 96 ((14 + (3 * a1)) + a2)) s23))) ∧ (¬ (a2 ≠ 3) → (fm_186 a1 (fun r28 s27 => (Q r28 s27)) s23))))) ∧ (z24 = false → (Q (-1) s23)))) s21)))) s
set_option maxRecDepth 100000 in
theorem gm_286 {L : Nat} {xs : Nat → Int32} {d : Nat} {a1 : Int} {a2 : Int} {Q : Int → lf_Z → Prop} {s : lf_Z} (h : fm_286 a1 a2 Q s) : lf_M (px_ro L xs) (d + 3) 286 [.ref 95, .int (Int32.ofInt a1), .int (Int32.ofInt a2)] s (lf_qi Q) := by
  unfold fm_286 at h
  show lf_E (px_ro L xs) (d + 3) 286 0 [(0, .ref 95), (1, .int (Int32.ofInt a1)), (2, .int (Int32.ofInt a2))] [] s _
  refine lf_seg 2 (pc' := 2) (lv' := [(0, .ref 95), (1, .int (Int32.ofInt a1)), (2, .int (Int32.ofInt a2))]) (st' := [.int (Int32.ofInt a1), .ref 95]) rfl ?_
  refine lf_callZ 5 rfl rfl rfl rfl (gm_185 h) (fun z22 s21 h => ?_)
  refine lf_ifz_eq 17 8 rfl rfl rfl (fun c => ?_) (fun c => ?_)
  · have h := h.1 c
    refine lf_seg 1 (pc' := 18) (lv' := [(0, .ref 95), (1, .int (Int32.ofInt a1)), (2, .int (Int32.ofInt a2))]) (st' := [.int (Int32.ofInt (-1))]) rfl ?_
    exact lf_retI rfl rfl h
  · have h := h.2 c
    refine lf_seg 3 (pc' := 11) (lv' := [(0, .ref 95), (1, .int (Int32.ofInt a1)), (2, .int (Int32.ofInt a2))]) (st' := [.int (Int32.ofInt 3), .int (Int32.ofInt 0), .int (Int32.ofInt a2)]) rfl ?_
    refine lf_callZ 14 rfl rfl rfl rfl (gm_183 h) (fun z24 s23 h => ?_)
    refine lf_ifz_ne 19 17 rfl rfl rfl (fun c => ?_) (fun c => ?_)
    · have h := h.1 c
      refine lf_seg 2 (pc' := 21) (lv' := [(0, .ref 95), (1, .int (Int32.ofInt a1)), (2, .int (Int32.ofInt a2))]) (st' := [.int (Int32.ofInt 3), .int (Int32.ofInt a2)]) rfl ?_
      obtain ⟨o25, h⟩ := h
      refine lf_icmp_ne 32 24 rfl rfl rfl o25 ⟨by decide, by decide⟩ (fun c => ?_) (fun c => ?_)
      · have h := h.1 c
        refine lf_seg 2 (pc' := 36) (lv' := [(0, .ref 95), (1, .int (Int32.ofInt a1)), (2, .int (Int32.ofInt a2))]) (st' := [.ref 96]) rfl ?_
        refine lf_bipush 38 14 rfl rfl (by decide) (by decide) ?_
        refine lf_seg 2 (pc' := 40) (lv' := [(0, .ref 95), (1, .int (Int32.ofInt a1)), (2, .int (Int32.ofInt a2))]) (st' := [.int (Int32.ofInt a1), .int (Int32.ofInt 3), .int (Int32.ofInt 14), .ref 96]) rfl ?_
        refine lf_imul 41 rfl rfl ?_
        refine lf_iadd 42 rfl rfl ?_
        refine lf_seg 1 (pc' := 43) (lv' := [(0, .ref 95), (1, .int (Int32.ofInt a1)), (2, .int (Int32.ofInt a2))]) (st' := [.int (Int32.ofInt a2), .int (Int32.ofInt (14 + (3 * a1))), .ref 96]) rfl ?_
        refine lf_iadd 44 rfl rfl ?_
        obtain ⟨o26, h⟩ := h
        refine lf_iald 45 1538 rfl rfl rfl rfl rfl rfl o26 ?_
        exact lf_retI rfl rfl h
      · have h := h.2 c
        refine lf_seg 2 (pc' := 26) (lv' := [(0, .ref 95), (1, .int (Int32.ofInt a1)), (2, .int (Int32.ofInt a2))]) (st' := [.int (Int32.ofInt a1), .ref 95]) rfl ?_
        refine lf_callI 29 rfl rfl rfl rfl (gm_186 h) (fun r28 s27 h => ?_)
        refine lf_seg 1 (pc' := 45) (lv' := [(0, .ref 95), (1, .int (Int32.ofInt a1)), (2, .int (Int32.ofInt a2))]) (st' := [.int (Int32.ofInt r28)]) rfl ?_
        exact lf_retI rfl rfl h
    · have h := h.2 c
      refine lf_seg 1 (pc' := 18) (lv' := [(0, .ref 95), (1, .int (Int32.ofInt a1)), (2, .int (Int32.ofInt a2))]) (st' := [.int (Int32.ofInt (-1))]) rfl ?_
      exact lf_retI rfl rfl h
-- fm_114 ElevenBullocks.ofWay 0 i i
def fm_114 (a1 : Int) (a2 : Int) (Q : Int → lf_Z → Prop) (s : lf_Z) : Prop := fm_79 a1 (fun z22 s21 => ((z22 = true → (lf_R a2 ∧ ((a2 < 0 ∨ 3 < a2 → (Q (-1) s21)) ∧ (a2 = 0 → ((0 ≤ a1 ∧ a1 < 16) ∧ (Q (s21.1 4 a1) s21))) ∧ (a2 = 1 → ((0 ≤ a1 ∧ a1 < 16) ∧ (Q (s21.1 5 a1) s21))) ∧ (a2 = 2 → ((0 ≤ a1 ∧ a1 < 16) ∧ (lf_R (s21.1 6 a1) ∧ ((s21.1 6 a1 = 0 → (Q 0 s21)) ∧ (¬ (s21.1 6 a1 = 0) → (Q 1 s21)))))) ∧ (a2 = 3 → (fm_90 a1 (fun z29 s28 => ((z29 = false → (Q 0 s28)) ∧ (z29 = true → (Q 1 s28)))) s21))))) ∧ (z22 = false → (Q (-1) s21)))) s
set_option maxRecDepth 100000 in
theorem gm_114 {L : Nat} {xs : Nat → Int32} {d : Nat} {a1 : Int} {a2 : Int} {Q : Int → lf_Z → Prop} {s : lf_Z} (h : fm_114 a1 a2 Q s) : lf_M (px_ro L xs) (d + 2) 114 [.ref 0, .int (Int32.ofInt a1), .int (Int32.ofInt a2)] s (lf_qi Q) := by
  unfold fm_114 at h
  show lf_E (px_ro L xs) (d + 2) 114 0 [(0, .ref 0), (1, .int (Int32.ofInt a1)), (2, .int (Int32.ofInt a2))] [] s _
  refine lf_seg 3 (pc' := 5) (lv' := [(0, .ref 0), (1, .int (Int32.ofInt a1)), (2, .int (Int32.ofInt a2))]) (st' := [.int (Int32.ofInt a1), .ref 1]) rfl ?_
  refine lf_callZ 8 rfl rfl rfl rfl (gm_79 h) (fun z22 s21 h => ?_)
  refine lf_ifz_ne 13 11 rfl rfl rfl (fun c => ?_) (fun c => ?_)
  · have h := h.1 c
    refine lf_seg 1 (pc' := 14) (lv' := [(0, .ref 0), (1, .int (Int32.ofInt a1)), (2, .int (Int32.ofInt a2))]) (st' := [.int (Int32.ofInt a2)]) rfl ?_
    obtain ⟨o23, h⟩ := h
    refine lf_tsw 99 [(0, 44), (1, 54), (2, 64), (3, 82)] rfl rfl rfl (by decide) o23 (fun c => ?_) (lf_tab1 (fun c => ?_) (lf_tab1 (fun c => ?_) (lf_tab1 (fun c => ?_) (lf_tab1 (fun c => ?_) lf_tab0))))
    · have h := h.1 c
      refine lf_seg 1 (pc' := 100) (lv' := [(0, .ref 0), (1, .int (Int32.ofInt a1)), (2, .int (Int32.ofInt a2))]) (st' := [.int (Int32.ofInt (-1))]) rfl ?_
      exact lf_retI rfl rfl h
    · have h := h.2.1 c
      refine lf_seg 4 (pc' := 52) (lv' := [(0, .ref 0), (1, .int (Int32.ofInt a1)), (2, .int (Int32.ofInt a2))]) (st' := [.int (Int32.ofInt a1), .ref 4]) rfl ?_
      obtain ⟨o24, h⟩ := h
      refine lf_iald 53 16 rfl rfl rfl rfl rfl rfl o24 ?_
      exact lf_retI rfl rfl h
    · have h := h.2.2.1 c
      refine lf_seg 4 (pc' := 62) (lv' := [(0, .ref 0), (1, .int (Int32.ofInt a1)), (2, .int (Int32.ofInt a2))]) (st' := [.int (Int32.ofInt a1), .ref 5]) rfl ?_
      obtain ⟨o25, h⟩ := h
      refine lf_iald 63 16 rfl rfl rfl rfl rfl rfl o25 ?_
      exact lf_retI rfl rfl h
    · have h := h.2.2.2.1 c
      refine lf_seg 4 (pc' := 72) (lv' := [(0, .ref 0), (1, .int (Int32.ofInt a1)), (2, .int (Int32.ofInt a2))]) (st' := [.int (Int32.ofInt a1), .ref 6]) rfl ?_
      obtain ⟨o26, h⟩ := h
      refine lf_zald 73 16 rfl rfl rfl rfl rfl rfl o26 ?_
      obtain ⟨o27, h⟩ := h
      refine lf_if_eq 80 76 rfl rfl rfl o27 (fun c => ?_) (fun c => ?_)
      · have h := h.1 c
        refine lf_seg 1 (pc' := 81) (lv' := [(0, .ref 0), (1, .int (Int32.ofInt a1)), (2, .int (Int32.ofInt a2))]) (st' := [.int (Int32.ofInt 0)]) rfl ?_
        exact lf_retI rfl rfl h
      · have h := h.2 c
        refine lf_seg 2 (pc' := 81) (lv' := [(0, .ref 0), (1, .int (Int32.ofInt a1)), (2, .int (Int32.ofInt a2))]) (st' := [.int (Int32.ofInt 1)]) rfl ?_
        exact lf_retI rfl rfl h
    · have h := h.2.2.2.2 c
      refine lf_seg 3 (pc' := 87) (lv' := [(0, .ref 0), (1, .int (Int32.ofInt a1)), (2, .int (Int32.ofInt a2))]) (st' := [.int (Int32.ofInt a1), .ref 15]) rfl ?_
      refine lf_callZ 90 rfl rfl rfl rfl (gm_90 h) (fun z29 s28 h => ?_)
      refine lf_ifz_eq 97 93 rfl rfl rfl (fun c => ?_) (fun c => ?_)
      · have h := h.1 c
        refine lf_seg 1 (pc' := 98) (lv' := [(0, .ref 0), (1, .int (Int32.ofInt a1)), (2, .int (Int32.ofInt a2))]) (st' := [.int (Int32.ofInt 0)]) rfl ?_
        exact lf_retI rfl rfl h
      · have h := h.2 c
        refine lf_seg 2 (pc' := 98) (lv' := [(0, .ref 0), (1, .int (Int32.ofInt a1)), (2, .int (Int32.ofInt a2))]) (st' := [.int (Int32.ofInt 1)]) rfl ?_
        exact lf_retI rfl rfl h
  · have h := h.2 c
    refine lf_seg 1 (pc' := 12) (lv' := [(0, .ref 0), (1, .int (Int32.ofInt a1)), (2, .int (Int32.ofInt a2))]) (st' := [.int (Int32.ofInt (-1))]) rfl ?_
    exact lf_retI rfl rfl h
-- fm_287 Model.ofWay 95 i i
def fm_287 (a1 : Int) (a2 : Int) (Q : Int → lf_Z → Prop) (s : lf_Z) : Prop := fm_251 a1 (fun z22 s21 => ((z22 = false → (Q (-1) s21)) ∧ (z22 = true → (fm_183 a2 0 3 (fun z24 s23 => ((z24 = false → (Q (-1) s23)) ∧ (z24 = true → ((0 ≤ (50 + (4 * a1)) + a2 ∧ (50 + (4 * a1)) + a2 < 1538) ∧ (Q (s23.1 96 ((50 + (4 * a1)) + a2)) s23))))) s21)))) s
set_option maxRecDepth 100000 in
theorem gm_287 {L : Nat} {xs : Nat → Int32} {d : Nat} {a1 : Int} {a2 : Int} {Q : Int → lf_Z → Prop} {s : lf_Z} (h : fm_287 a1 a2 Q s) : lf_M (px_ro L xs) (d + 3) 287 [.ref 95, .int (Int32.ofInt a1), .int (Int32.ofInt a2)] s (lf_qi Q) := by
  unfold fm_287 at h
  show lf_E (px_ro L xs) (d + 3) 287 0 [(0, .ref 95), (1, .int (Int32.ofInt a1)), (2, .int (Int32.ofInt a2))] [] s _
  refine lf_seg 2 (pc' := 2) (lv' := [(0, .ref 95), (1, .int (Int32.ofInt a1)), (2, .int (Int32.ofInt a2))]) (st' := [.int (Int32.ofInt a1), .ref 95]) rfl ?_
  refine lf_callZ 5 rfl rfl rfl rfl (gm_251 h) (fun z22 s21 h => ?_)
  refine lf_ifz_eq 33 8 rfl rfl rfl (fun c => ?_) (fun c => ?_)
  · have h := h.1 c
    refine lf_seg 1 (pc' := 34) (lv' := [(0, .ref 95), (1, .int (Int32.ofInt a1)), (2, .int (Int32.ofInt a2))]) (st' := [.int (Int32.ofInt (-1))]) rfl ?_
    exact lf_retI rfl rfl h
  · have h := h.2 c
    refine lf_seg 3 (pc' := 11) (lv' := [(0, .ref 95), (1, .int (Int32.ofInt a1)), (2, .int (Int32.ofInt a2))]) (st' := [.int (Int32.ofInt 3), .int (Int32.ofInt 0), .int (Int32.ofInt a2)]) rfl ?_
    refine lf_callZ 14 rfl rfl rfl rfl (gm_183 h) (fun z24 s23 h => ?_)
    refine lf_ifz_eq 33 17 rfl rfl rfl (fun c => ?_) (fun c => ?_)
    · have h := h.1 c
      refine lf_seg 1 (pc' := 34) (lv' := [(0, .ref 95), (1, .int (Int32.ofInt a1)), (2, .int (Int32.ofInt a2))]) (st' := [.int (Int32.ofInt (-1))]) rfl ?_
      exact lf_retI rfl rfl h
    · have h := h.2 c
      refine lf_seg 2 (pc' := 21) (lv' := [(0, .ref 95), (1, .int (Int32.ofInt a1)), (2, .int (Int32.ofInt a2))]) (st' := [.ref 96]) rfl ?_
      refine lf_bipush 23 50 rfl rfl (by decide) (by decide) ?_
      refine lf_seg 2 (pc' := 25) (lv' := [(0, .ref 95), (1, .int (Int32.ofInt a1)), (2, .int (Int32.ofInt a2))]) (st' := [.int (Int32.ofInt a1), .int (Int32.ofInt 4), .int (Int32.ofInt 50), .ref 96]) rfl ?_
      refine lf_imul 26 rfl rfl ?_
      refine lf_iadd 27 rfl rfl ?_
      refine lf_seg 1 (pc' := 28) (lv' := [(0, .ref 95), (1, .int (Int32.ofInt a1)), (2, .int (Int32.ofInt a2))]) (st' := [.int (Int32.ofInt a2), .int (Int32.ofInt (50 + (4 * a1))), .ref 96]) rfl ?_
      refine lf_iadd 29 rfl rfl ?_
      obtain ⟨o25, h⟩ := h
      refine lf_iald 30 1538 rfl rfl rfl rfl rfl rfl o25 ?_
      refine lf_seg 1 (pc' := 34) (lv' := [(0, .ref 95), (1, .int (Int32.ofInt a1)), (2, .int (Int32.ofInt a2))]) (st' := [.int (Int32.ofInt (s23.1 96 ((50 + (4 * a1)) + a2)))]) rfl ?_
      exact lf_retI rfl rfl h
-- fm_115 ElevenBullocks.takes 0 i i
def fm_115_p80 (Q : Int → lf_Z → Prop) (x1 : Int) (x2 : Int) (y0 : Int) (s : lf_Z) : Prop := (0 ≤ x1 ∧ x1 < 4) ∧ (fm_91 (s.1 16 x1) (s.1 17 x1) x2 y0 0 0 (fun r34 s33 => (Q r34 s33)) s)
set_option maxRecDepth 100000 in
theorem gm_115_p80 {L : Nat} {xs : Nat → Int32} {d : Nat} {Q : Int → lf_Z → Prop} {x1 : Int} {x2 : Int} {y0 : Int} {s : lf_Z} (h : fm_115_p80 Q x1 x2 y0 s) : lf_E (px_ro L xs) (d + 4) 115 80 [(0, .ref 0), (1, .int (Int32.ofInt x1)), (2, .int (Int32.ofInt x2))] [.int (Int32.ofInt y0)] s (lf_qi Q) := by
  unfold fm_115_p80 at h
  refine lf_seg 6 (pc' := 93) (lv' := [(4, .int (Int32.ofInt y0)), (0, .ref 0), (1, .int (Int32.ofInt x1)), (2, .int (Int32.ofInt x2))]) (st' := [.ref 16, .ref 63]) rfl ?_
  refine lf_seg 1 (pc' := 94) (lv' := [(4, .int (Int32.ofInt y0)), (0, .ref 0), (1, .int (Int32.ofInt x1)), (2, .int (Int32.ofInt x2))]) (st' := [.int (Int32.ofInt x1), .ref 16, .ref 63]) rfl ?_
  obtain ⟨o32, h⟩ := h
  refine lf_iald 95 4 rfl rfl rfl rfl rfl rfl o32 ?_
  refine lf_seg 4 (pc' := 103) (lv' := [(4, .int (Int32.ofInt y0)), (0, .ref 0), (1, .int (Int32.ofInt x1)), (2, .int (Int32.ofInt x2))]) (st' := [.int (Int32.ofInt x1), .ref 17, .int (Int32.ofInt (s.1 16 x1)), .ref 63]) rfl ?_
  refine lf_iald 104 4 rfl rfl rfl rfl rfl rfl o32 ?_
  refine lf_seg 4 (pc' := 109) (lv' := [(4, .int (Int32.ofInt y0)), (0, .ref 0), (1, .int (Int32.ofInt x1)), (2, .int (Int32.ofInt x2))]) (st' := [.int (Int32.ofInt 0), .int (Int32.ofInt 0), .int (Int32.ofInt y0), .int (Int32.ofInt x2), .int (Int32.ofInt (s.1 17 x1)), .int (Int32.ofInt (s.1 16 x1)), .ref 63]) rfl ?_
  refine lf_callI 112 rfl rfl rfl rfl (gm_91 h) (fun r34 s33 h => ?_)
  exact lf_retI rfl rfl h
def fm_115 (a1 : Int) (a2 : Int) (Q : Int → lf_Z → Prop) (s : lf_Z) : Prop := fm_80 a1 (fun z22 s21 => ((z22 = false → (Q (-1) s21)) ∧ (z22 = true → (fm_89 a2 (fun z24 s23 => ((z24 = true → ((0 ≤ a1 ∧ a1 < 4) ∧ (fm_78 a2 (s23.1 17 a1) (fun r27 s26 => (lf_R r27 ∧ ((r27 ≠ (-1) → (fm_90 a2 (fun z30 s29 => ((z30 = true → (lf_R (s29.1 18 a1) ∧ ((s29.1 18 a1 ≠ r27 → (fm_115_p80 Q a1 a2 0 s29)) ∧ (¬ (s29.1 18 a1 ≠ r27) → (fm_115_p80 Q a1 a2 1 s29))))) ∧ (z30 = false → (Q 0 s29)))) s26)) ∧ (¬ (r27 ≠ (-1)) → (Q (-1) s26))))) s23))) ∧ (z24 = false → (Q (-1) s23)))) s21)))) s
set_option maxRecDepth 100000 in
theorem gm_115 {L : Nat} {xs : Nat → Int32} {d : Nat} {a1 : Int} {a2 : Int} {Q : Int → lf_Z → Prop} {s : lf_Z} (h : fm_115 a1 a2 Q s) : lf_M (px_ro L xs) (d + 4) 115 [.ref 0, .int (Int32.ofInt a1), .int (Int32.ofInt a2)] s (lf_qi Q) := by
  unfold fm_115 at h
  show lf_E (px_ro L xs) (d + 4) 115 0 [(0, .ref 0), (1, .int (Int32.ofInt a1)), (2, .int (Int32.ofInt a2))] [] s _
  refine lf_seg 3 (pc' := 5) (lv' := [(0, .ref 0), (1, .int (Int32.ofInt a1)), (2, .int (Int32.ofInt a2))]) (st' := [.int (Int32.ofInt a1), .ref 15]) rfl ?_
  refine lf_callZ 8 rfl rfl rfl rfl (gm_80 h) (fun z22 s21 h => ?_)
  refine lf_ifz_eq 22 11 rfl rfl rfl (fun c => ?_) (fun c => ?_)
  · have h := h.1 c
    refine lf_seg 1 (pc' := 23) (lv' := [(0, .ref 0), (1, .int (Int32.ofInt a1)), (2, .int (Int32.ofInt a2))]) (st' := [.int (Int32.ofInt (-1))]) rfl ?_
    exact lf_retI rfl rfl h
  · have h := h.2 c
    refine lf_seg 3 (pc' := 16) (lv' := [(0, .ref 0), (1, .int (Int32.ofInt a1)), (2, .int (Int32.ofInt a2))]) (st' := [.int (Int32.ofInt a2), .ref 1]) rfl ?_
    refine lf_callZ 19 rfl rfl rfl rfl (gm_89 h) (fun z24 s23 h => ?_)
    refine lf_ifz_ne 24 22 rfl rfl rfl (fun c => ?_) (fun c => ?_)
    · have h := h.1 c
      refine lf_seg 6 (pc' := 36) (lv' := [(0, .ref 0), (1, .int (Int32.ofInt a1)), (2, .int (Int32.ofInt a2))]) (st' := [.ref 17, .int (Int32.ofInt a2), .ref 1]) rfl ?_
      refine lf_seg 1 (pc' := 37) (lv' := [(0, .ref 0), (1, .int (Int32.ofInt a1)), (2, .int (Int32.ofInt a2))]) (st' := [.int (Int32.ofInt a1), .ref 17, .int (Int32.ofInt a2), .ref 1]) rfl ?_
      obtain ⟨o25, h⟩ := h
      refine lf_iald 38 4 rfl rfl rfl rfl rfl rfl o25 ?_
      refine lf_callI 41 rfl rfl rfl rfl (gm_78 h) (fun r27 s26 h => ?_)
      refine lf_seg 3 (pc' := 44) (lv' := [(3, .int (Int32.ofInt r27)), (0, .ref 0), (1, .int (Int32.ofInt a1)), (2, .int (Int32.ofInt a2))]) (st' := [.int (Int32.ofInt (-1)), .int (Int32.ofInt r27)]) rfl ?_
      obtain ⟨o28, h⟩ := h
      refine lf_icmp_ne 49 47 rfl rfl rfl o28 ⟨by decide, by decide⟩ (fun c => ?_) (fun c => ?_)
      · have h := h.1 c
        refine lf_seg 3 (pc' := 54) (lv' := [(3, .int (Int32.ofInt r27)), (0, .ref 0), (1, .int (Int32.ofInt a1)), (2, .int (Int32.ofInt a2))]) (st' := [.int (Int32.ofInt a2), .ref 15]) rfl ?_
        refine lf_callZ 57 rfl rfl rfl rfl (gm_90 h) (fun z30 s29 h => ?_)
        refine lf_ifz_ne 62 60 rfl rfl rfl (fun c => ?_) (fun c => ?_)
        · have h := h.1 c
          refine lf_seg 4 (pc' := 70) (lv' := [(3, .int (Int32.ofInt r27)), (0, .ref 0), (1, .int (Int32.ofInt a1)), (2, .int (Int32.ofInt a2))]) (st' := [.int (Int32.ofInt a1), .ref 18]) rfl ?_
          refine lf_iald 71 4 rfl rfl rfl rfl rfl rfl o25 ?_
          refine lf_seg 1 (pc' := 72) (lv' := [(3, .int (Int32.ofInt r27)), (0, .ref 0), (1, .int (Int32.ofInt a1)), (2, .int (Int32.ofInt a2))]) (st' := [.int (Int32.ofInt r27), .int (Int32.ofInt (s29.1 18 a1))]) rfl ?_
          obtain ⟨o31, h⟩ := h
          refine lf_icmp_ne 79 75 rfl rfl rfl o31 o28 (fun c => ?_) (fun c => ?_)
          · have h := h.1 c
            refine lf_seg 1 (pc' := 80) (lv' := [(3, .int (Int32.ofInt r27)), (0, .ref 0), (1, .int (Int32.ofInt a1)), (2, .int (Int32.ofInt a2))]) (st' := [.int (Int32.ofInt 0)]) rfl ?_
            refine lf_sub (l := [(0, .ref 0), (1, .int (Int32.ofInt a1)), (2, .int (Int32.ofInt a2))]) (lf_sb1 rfl (lf_sb1 rfl (lf_sb1 rfl lf_sb0))) ?_
            exact gm_115_p80 h
          · have h := h.2 c
            refine lf_seg 2 (pc' := 80) (lv' := [(3, .int (Int32.ofInt r27)), (0, .ref 0), (1, .int (Int32.ofInt a1)), (2, .int (Int32.ofInt a2))]) (st' := [.int (Int32.ofInt 1)]) rfl ?_
            refine lf_sub (l := [(0, .ref 0), (1, .int (Int32.ofInt a1)), (2, .int (Int32.ofInt a2))]) (lf_sb1 rfl (lf_sb1 rfl (lf_sb1 rfl lf_sb0))) ?_
            exact gm_115_p80 h
        · have h := h.2 c
          refine lf_seg 1 (pc' := 61) (lv' := [(3, .int (Int32.ofInt r27)), (0, .ref 0), (1, .int (Int32.ofInt a1)), (2, .int (Int32.ofInt a2))]) (st' := [.int (Int32.ofInt 0)]) rfl ?_
          exact lf_retI rfl rfl h
      · have h := h.2 c
        refine lf_seg 1 (pc' := 48) (lv' := [(3, .int (Int32.ofInt r27)), (0, .ref 0), (1, .int (Int32.ofInt a1)), (2, .int (Int32.ofInt a2))]) (st' := [.int (Int32.ofInt (-1))]) rfl ?_
        exact lf_retI rfl rfl h
    · have h := h.2 c
      refine lf_seg 1 (pc' := 23) (lv' := [(0, .ref 0), (1, .int (Int32.ofInt a1)), (2, .int (Int32.ofInt a2))]) (st' := [.int (Int32.ofInt (-1))]) rfl ?_
      exact lf_retI rfl rfl h
-- fm_288 Model.takes 95 i i
def fm_288 (a1 : Int) (a2 : Int) (Q : Int → lf_Z → Prop) (s : lf_Z) : Prop := fm_254 a1 (fun z22 s21 => ((z22 = false → (Q (-1) s21)) ∧ (z22 = true → (fm_251 a2 (fun z24 s23 => ((z24 = false → (Q (-1) s23)) ∧ (z24 = true → (fm_252 a2 (fun z26 s25 => ((z26 = true → (Q (-1) s25)) ∧ (z26 = false → (fm_255 a1 (fun r28 s27 => (fm_187 a2 r28 (fun r30 s29 => (lf_R r30 ∧ ((0 ≤ r30 → (fm_242 a1 (fun r33 s32 => (fm_255 a1 (fun r35 s34 => (fm_256 a1 (fun r37 s36 => (fm_273 r33 r35 r37 a2 (fun r39 s38 => (Q r39 s38)) s36)) s34)) s32)) s29)) ∧ (¬ (0 ≤ r30) → (Q (-1) s29))))) s27)) s25)))) s23)))) s21)))) s
set_option maxRecDepth 100000 in
theorem gm_288 {L : Nat} {xs : Nat → Int32} {d : Nat} {a1 : Int} {a2 : Int} {Q : Int → lf_Z → Prop} {s : lf_Z} (h : fm_288 a1 a2 Q s) : lf_M (px_ro L xs) (d + 6) 288 [.ref 95, .int (Int32.ofInt a1), .int (Int32.ofInt a2)] s (lf_qi Q) := by
  unfold fm_288 at h
  show lf_E (px_ro L xs) (d + 6) 288 0 [(0, .ref 95), (1, .int (Int32.ofInt a1)), (2, .int (Int32.ofInt a2))] [] s _
  refine lf_seg 2 (pc' := 2) (lv' := [(0, .ref 95), (1, .int (Int32.ofInt a1)), (2, .int (Int32.ofInt a2))]) (st' := [.int (Int32.ofInt a1), .ref 95]) rfl ?_
  refine lf_callZ 5 rfl rfl rfl rfl (gm_254 h) (fun z22 s21 h => ?_)
  refine lf_ifz_eq 37 8 rfl rfl rfl (fun c => ?_) (fun c => ?_)
  · have h := h.1 c
    refine lf_seg 1 (pc' := 38) (lv' := [(0, .ref 95), (1, .int (Int32.ofInt a1)), (2, .int (Int32.ofInt a2))]) (st' := [.int (Int32.ofInt (-1))]) rfl ?_
    exact lf_retI rfl rfl h
  · have h := h.2 c
    refine lf_seg 2 (pc' := 10) (lv' := [(0, .ref 95), (1, .int (Int32.ofInt a1)), (2, .int (Int32.ofInt a2))]) (st' := [.int (Int32.ofInt a2), .ref 95]) rfl ?_
    refine lf_callZ 13 rfl rfl rfl rfl (gm_251 h) (fun z24 s23 h => ?_)
    refine lf_ifz_eq 37 16 rfl rfl rfl (fun c => ?_) (fun c => ?_)
    · have h := h.1 c
      refine lf_seg 1 (pc' := 38) (lv' := [(0, .ref 95), (1, .int (Int32.ofInt a1)), (2, .int (Int32.ofInt a2))]) (st' := [.int (Int32.ofInt (-1))]) rfl ?_
      exact lf_retI rfl rfl h
    · have h := h.2 c
      refine lf_seg 2 (pc' := 18) (lv' := [(0, .ref 95), (1, .int (Int32.ofInt a1)), (2, .int (Int32.ofInt a2))]) (st' := [.int (Int32.ofInt a2), .ref 95]) rfl ?_
      refine lf_callZ 21 rfl rfl rfl rfl (gm_252 h) (fun z26 s25 h => ?_)
      refine lf_ifz_ne 37 24 rfl rfl rfl (fun c => ?_) (fun c => ?_)
      · have h := h.1 c
        refine lf_seg 1 (pc' := 38) (lv' := [(0, .ref 95), (1, .int (Int32.ofInt a1)), (2, .int (Int32.ofInt a2))]) (st' := [.int (Int32.ofInt (-1))]) rfl ?_
        exact lf_retI rfl rfl h
      · have h := h.2 c
        refine lf_seg 4 (pc' := 28) (lv' := [(0, .ref 95), (1, .int (Int32.ofInt a1)), (2, .int (Int32.ofInt a2))]) (st' := [.int (Int32.ofInt a1), .ref 95, .int (Int32.ofInt a2), .ref 95]) rfl ?_
        refine lf_callI 31 rfl rfl rfl rfl (gm_255 h) (fun r28 s27 h => ?_)
        refine lf_callI 34 rfl rfl rfl rfl (gm_187 h) (fun r30 s29 h => ?_)
        obtain ⟨o31, h⟩ := h
        refine lf_if_ge 39 37 rfl rfl rfl o31 (fun c => ?_) (fun c => ?_)
        · have h := h.1 c
          refine lf_seg 3 (pc' := 42) (lv' := [(0, .ref 95), (1, .int (Int32.ofInt a1)), (2, .int (Int32.ofInt a2))]) (st' := [.int (Int32.ofInt a1), .ref 95, .ref 95]) rfl ?_
          refine lf_callI 45 rfl rfl rfl rfl (gm_242 h) (fun r33 s32 h => ?_)
          refine lf_seg 2 (pc' := 47) (lv' := [(0, .ref 95), (1, .int (Int32.ofInt a1)), (2, .int (Int32.ofInt a2))]) (st' := [.int (Int32.ofInt a1), .ref 95, .int (Int32.ofInt r33), .ref 95]) rfl ?_
          refine lf_callI 50 rfl rfl rfl rfl (gm_255 h) (fun r35 s34 h => ?_)
          refine lf_seg 2 (pc' := 52) (lv' := [(0, .ref 95), (1, .int (Int32.ofInt a1)), (2, .int (Int32.ofInt a2))]) (st' := [.int (Int32.ofInt a1), .ref 95, .int (Int32.ofInt r35), .int (Int32.ofInt r33), .ref 95]) rfl ?_
          refine lf_callI 55 rfl rfl rfl rfl (gm_256 h) (fun r37 s36 h => ?_)
          refine lf_seg 1 (pc' := 56) (lv' := [(0, .ref 95), (1, .int (Int32.ofInt a1)), (2, .int (Int32.ofInt a2))]) (st' := [.int (Int32.ofInt a2), .int (Int32.ofInt r37), .int (Int32.ofInt r35), .int (Int32.ofInt r33), .ref 95]) rfl ?_
          refine lf_callI 59 rfl rfl rfl rfl (gm_273 h) (fun r39 s38 h => ?_)
          exact lf_retI rfl rfl h
        · have h := h.2 c
          refine lf_seg 1 (pc' := 38) (lv' := [(0, .ref 95), (1, .int (Int32.ofInt a1)), (2, .int (Int32.ofInt a2))]) (st' := [.int (Int32.ofInt (-1))]) rfl ?_
          exact lf_retI rfl rfl h
-- fm_118 Walk.begin 68 i i
def fm_118 (a1 : Int) (a2 : Int) (Q : lf_Z → Prop) (s : lf_Z) : Prop := (0 ≤ a1 ∧ a1 < 4) ∧ (Q (lf_up (lf_up (lf_up (lf_up (lf_fl s.1 69 256 (-1)) 68 8 ((lf_fl s.1 69 256 (-1)) 16 a1)) 68 11 a2) 68 9 0) 68 10 0, s.2.1, s.2.2))
set_option maxRecDepth 100000 in
theorem gm_118 {L : Nat} {xs : Nat → Int32} {d : Nat} {a1 : Int} {a2 : Int} {Q : lf_Z → Prop} {s : lf_Z} (h : fm_118 a1 a2 Q s) : lf_M (px_ro L xs) (d + 2) 118 [.ref 68, .int (Int32.ofInt a1), .int (Int32.ofInt a2)] s (lf_qv Q) := by
  unfold fm_118 at h
  show lf_E (px_ro L xs) (d + 2) 118 0 [(0, .ref 68), (1, .int (Int32.ofInt a1)), (2, .int (Int32.ofInt a2))] [] s _
  refine lf_seg 3 (pc' := 5) (lv' := [(0, .ref 68), (1, .int (Int32.ofInt a1)), (2, .int (Int32.ofInt a2))]) (st' := [.int (Int32.ofInt (-1)), .ref 69]) rfl ?_
  refine lf_callV (Q1 := fun s1 => s1 = (lf_fl s.1 69 256 (-1), s.2.1, s.2.2)) 8 rfl rfl rfl rfl (lf_fill (m := 256) rfl rfl rfl rfl rfl rfl) (fun s1 hs1 => ?_)
  refine lf_as (lf_fl s.1 69 256 (-1), s.2.1, s.2.2) hs1 ?_
  refine lf_seg 5 (pc' := 17) (lv' := [(0, .ref 68), (1, .int (Int32.ofInt a1)), (2, .int (Int32.ofInt a2))]) (st' := [.int (Int32.ofInt a1), .ref 16, .ref 68]) rfl ?_
  obtain ⟨o21, h⟩ := h
  refine lf_iald 18 4 rfl rfl rfl rfl rfl rfl o21 ?_
  refine lf_putI 21 8 rfl rfl rfl rfl rfl rfl rfl rfl ?_
  refine lf_as (lf_up (lf_fl s.1 69 256 (-1)) 68 8 ((lf_fl s.1 69 256 (-1)) 16 a1), s.2.1, s.2.2) rfl ?_
  refine lf_seg 2 (pc' := 23) (lv' := [(0, .ref 68), (1, .int (Int32.ofInt a1)), (2, .int (Int32.ofInt a2))]) (st' := [.int (Int32.ofInt a2), .ref 68]) rfl ?_
  refine lf_putI 26 11 rfl rfl rfl rfl rfl rfl rfl rfl ?_
  refine lf_as (lf_up (lf_up (lf_fl s.1 69 256 (-1)) 68 8 ((lf_fl s.1 69 256 (-1)) 16 a1)) 68 11 a2, s.2.1, s.2.2) rfl ?_
  refine lf_seg 2 (pc' := 28) (lv' := [(0, .ref 68), (1, .int (Int32.ofInt a1)), (2, .int (Int32.ofInt a2))]) (st' := [.int (Int32.ofInt 0), .ref 68]) rfl ?_
  refine lf_putI 31 9 rfl rfl rfl rfl rfl rfl rfl rfl ?_
  refine lf_as (lf_up (lf_up (lf_up (lf_fl s.1 69 256 (-1)) 68 8 ((lf_fl s.1 69 256 (-1)) 16 a1)) 68 11 a2) 68 9 0, s.2.1, s.2.2) rfl ?_
  refine lf_seg 2 (pc' := 33) (lv' := [(0, .ref 68), (1, .int (Int32.ofInt a1)), (2, .int (Int32.ofInt a2))]) (st' := [.int (Int32.ofInt 0), .ref 68]) rfl ?_
  refine lf_putI 36 10 rfl rfl rfl rfl rfl rfl rfl rfl ?_
  refine lf_as (lf_up (lf_up (lf_up (lf_up (lf_fl s.1 69 256 (-1)) 68 8 ((lf_fl s.1 69 256 (-1)) 16 a1)) 68 11 a2) 68 9 0) 68 10 0, s.2.1, s.2.2) rfl ?_
  exact lf_retV rfl rfl h
-- fm_119 java/util/Arrays.fill w l
def fm_119_p6 (Q : lf_Z → Prop) (v0 : Nat) (x1 : Int) (x4 : Int) (X6 : Int → lf_Z → Prop) (x3 : Int) (s : lf_Z) : Prop := lf_R x3 ∧ (lf_R x4 ∧ ((x4 ≤ x3 → (Q s)) ∧ (¬ (x4 ≤ x3) → ((0 ≤ x3 ∧ x3 < 156) ∧ (X6 (x3 + 1) (s.1, lf_up s.2.1 v0 x3 (lf_wl x1), s.2.2))))))
def fm_119_p6L (Q : lf_Z → Prop) (v0 : Nat) (x1 : Int) (x3 : Int) (x4 : Int) (s : lf_Z) : Prop := ∀ X6 : Int → lf_Z → Prop, (∀ (x3 : Int) (s : lf_Z), fm_119_p6 Q v0 x1 x4 X6 x3 s → X6 x3 s) → X6 x3 s
set_option maxRecDepth 100000 in
theorem gm_119_p6 {L : Nat} {xs : Nat → Int32} {d : Nat} {Q : lf_Z → Prop} {v0 : Nat} {x1 : Int} {x3 : Int} {x4 : Int} {s : lf_Z} {X6 : Int → lf_Z → Prop} (hX6 : ∀ x3 s, X6 x3 s → lf_E (px_ro L xs) (d + 1) 119 6 [(0, .ref v0), (1, .long (Int64.ofInt x1)), (3, .int (Int32.ofInt x3)), (4, .int (Int32.ofInt x4))] [] s (lf_qv Q)) (hwv0 : v0 = 72 ∨ v0 = 73) (h : fm_119_p6 Q v0 x1 x4 X6 x3 s) : lf_E (px_ro L xs) (d + 1) 119 6 [(0, .ref v0), (1, .long (Int64.ofInt x1)), (3, .int (Int32.ofInt x3)), (4, .int (Int32.ofInt x4))] [] s (lf_qv Q) := by
  unfold fm_119_p6 at h
  refine lf_eqs (lv' := [(0, .ref v0), (1, .long (Int64.ofInt (lf_wl x1))), (3, .int (Int32.ofInt x3)), (4, .int (Int32.ofInt x4))]) (st' := []) (by simp only [lf_wlE]) rfl ?_
  refine lf_seg 2 (pc' := 9) (lv' := [(0, .ref v0), (1, .long (Int64.ofInt (lf_wl x1))), (3, .int (Int32.ofInt x3)), (4, .int (Int32.ofInt x4))]) (st' := [.int (Int32.ofInt x4), .int (Int32.ofInt x3)]) rfl ?_
  obtain ⟨o21, h⟩ := h
  obtain ⟨o22, h⟩ := h
  refine lf_icmp_ge 22 12 rfl rfl rfl o21 o22 (fun c => ?_) (fun c => ?_)
  · have h := h.1 c
    exact lf_retV rfl rfl h
  · have h := h.2 c
    refine lf_seg 3 (pc' := 15) (lv' := [(0, .ref v0), (1, .long (Int64.ofInt (lf_wl x1))), (3, .int (Int32.ofInt x3)), (4, .int (Int32.ofInt x4))]) (st' := [.long (Int64.ofInt (lf_wl x1)), .int (Int32.ofInt x3), .ref v0]) rfl ?_
    obtain ⟨o23, h⟩ := h
    refine lf_last 16 156 rfl rfl (lf_wA hwv0) (lf_wC hwv0) rfl rfl o23 ?_
    refine lf_as (s.1, lf_up s.2.1 v0 x3 (lf_wl x1), s.2.2) rfl ?_
    refine lf_iinc 19 rfl rfl rfl rfl ?_
    refine lf_seg 1 (pc' := 6) (lv' := [(3, .int (Int32.ofInt (x3 + 1))), (0, .ref v0), (1, .long (Int64.ofInt (lf_wl x1))), (4, .int (Int32.ofInt x4))]) (st' := []) rfl ?_
    refine lf_eqs (lv' := [(3, .int (Int32.ofInt (x3 + 1))), (0, .ref v0), (1, .long (Int64.ofInt x1)), (4, .int (Int32.ofInt x4))]) (st' := []) (by simp only [lf_wlE]) rfl ?_
    refine lf_sub (l := [(0, .ref v0), (1, .long (Int64.ofInt x1)), (3, .int (Int32.ofInt (x3 + 1))), (4, .int (Int32.ofInt x4))]) (lf_sb1 rfl (lf_sb1 rfl (lf_sb1 rfl (lf_sb1 rfl lf_sb0)))) ?_
    exact hX6 _ _ h
theorem gm_119_p6L {L : Nat} {xs : Nat → Int32} {d : Nat} {Q : lf_Z → Prop} {v0 : Nat} {x1 : Int} {x3 : Int} {x4 : Int} {s : lf_Z} (hwv0 : v0 = 72 ∨ v0 = 73) (h : fm_119_p6L Q v0 x1 x3 x4 s) : lf_E (px_ro L xs) (d + 1) 119 6 [(0, .ref v0), (1, .long (Int64.ofInt x1)), (3, .int (Int32.ofInt x3)), (4, .int (Int32.ofInt x4))] [] s (lf_qv Q) :=
  h (fun x3 s => lf_E (px_ro L xs) (d + 1) 119 6 [(0, .ref v0), (1, .long (Int64.ofInt x1)), (3, .int (Int32.ofInt x3)), (4, .int (Int32.ofInt x4))] [] s (lf_qv Q)) (fun x3 s hb => gm_119_p6 (fun _ _ h => h) hwv0 hb)
def fm_119 (w0 : Nat) (a1 : Int) (Q : lf_Z → Prop) (s : lf_Z) : Prop := fm_119_p6L Q w0 a1 0 156 s
set_option maxRecDepth 100000 in
theorem gm_119 {L : Nat} {xs : Nat → Int32} {d : Nat} {w0 : Nat} {a1 : Int} {Q : lf_Z → Prop} {s : lf_Z} (hww0 : w0 = 72 ∨ w0 = 73) (h : fm_119 w0 a1 Q s) : lf_M (px_ro L xs) (d + 1) 119 [.ref w0, .long (Int64.ofInt a1)] s (lf_qv Q) := by
  unfold fm_119 at h
  show lf_E (px_ro L xs) (d + 1) 119 0 [(0, .ref w0), (1, .long (Int64.ofInt a1))] [] s _
  refine lf_eqs (lv' := [(0, .ref w0), (1, .long (Int64.ofInt (lf_wl a1)))]) (st' := []) (by simp only [lf_wlE]) rfl ?_
  refine lf_seg 3 (pc' := 3) (lv' := [(3, .int (Int32.ofInt 0)), (0, .ref w0), (1, .long (Int64.ofInt (lf_wl a1)))]) (st' := [.ref w0]) rfl ?_
  refine lf_len 4 156 rfl rfl (lf_wA hww0) (by rcases hww0 with rfl | rfl <;> rfl) rfl rfl ?_
  refine lf_seg 1 (pc' := 6) (lv' := [(4, .int (Int32.ofInt 156)), (3, .int (Int32.ofInt 0)), (0, .ref w0), (1, .long (Int64.ofInt (lf_wl a1)))]) (st' := []) rfl ?_
  refine lf_eqs (lv' := [(4, .int (Int32.ofInt 156)), (3, .int (Int32.ofInt 0)), (0, .ref w0), (1, .long (Int64.ofInt a1))]) (st' := []) (by simp only [lf_wlE]) rfl ?_
  refine lf_sub (l := [(0, .ref w0), (1, .long (Int64.ofInt a1)), (3, .int (Int32.ofInt 0)), (4, .int (Int32.ofInt 156))]) (lf_sb1 rfl (lf_sb1 rfl (lf_sb1 rfl (lf_sb1 rfl lf_sb0)))) ?_
  exact gm_119_p6L hww0 h
-- fm_120 Walk.standOf 68 i
def fm_120 (a1 : Int) (Q : Int → lf_Z → Prop) (s : lf_Z) : Prop := (0 ≤ a1 ∧ a1 < 4) ∧ (Q ((((s.1 17 a1) * 13) + (s.1 18 a1)) + 1) s)
set_option maxRecDepth 100000 in
theorem gm_120 {L : Nat} {xs : Nat → Int32} {d : Nat} {a1 : Int} {Q : Int → lf_Z → Prop} {s : lf_Z} (h : fm_120 a1 Q s) : lf_M (px_ro L xs) (d + 1) 120 [.ref 68, .int (Int32.ofInt a1)] s (lf_qi Q) := by
  unfold fm_120 at h
  show lf_E (px_ro L xs) (d + 1) 120 0 [(0, .ref 68), (1, .int (Int32.ofInt a1))] [] s _
  refine lf_seg 4 (pc' := 8) (lv' := [(0, .ref 68), (1, .int (Int32.ofInt a1))]) (st' := [.int (Int32.ofInt a1), .ref 17]) rfl ?_
  obtain ⟨o21, h⟩ := h
  refine lf_iald 9 4 rfl rfl rfl rfl rfl rfl o21 ?_
  refine lf_bipush 11 13 rfl rfl (by decide) (by decide) ?_
  refine lf_imul 12 rfl rfl ?_
  refine lf_seg 4 (pc' := 20) (lv' := [(0, .ref 68), (1, .int (Int32.ofInt a1))]) (st' := [.int (Int32.ofInt a1), .ref 18, .int (Int32.ofInt ((s.1 17 a1) * 13))]) rfl ?_
  refine lf_iald 21 4 rfl rfl rfl rfl rfl rfl o21 ?_
  refine lf_iadd 22 rfl rfl ?_
  refine lf_seg 1 (pc' := 23) (lv' := [(0, .ref 68), (1, .int (Int32.ofInt a1))]) (st' := [.int (Int32.ofInt 1), .int (Int32.ofInt (((s.1 17 a1) * 13) + (s.1 18 a1)))]) rfl ?_
  refine lf_iadd 24 rfl rfl ?_
  exact lf_retI rfl rfl h
-- fm_123 Walk.chanceOf 68 i i i
def fm_123_p174 (Q : Int → lf_Z → Prop) (x9 : Int) (s : lf_Z) : Prop := (0 ≤ x9 ∧ x9 < 256) ∧ (Q (s.1 69 x9) s)
set_option maxRecDepth 100000 in
theorem gm_123_p174 {L : Nat} {xs : Nat → Int32} {d : Nat} {Q : Int → lf_Z → Prop} {x9 : Int} {s : lf_Z} (h : fm_123_p174 Q x9 s) : lf_E (px_ro L xs) (d + 4) 123 174 [(0, .ref 68), (9, .int (Int32.ofInt x9))] [] s (lf_qi Q) := by
  unfold fm_123_p174 at h
  refine lf_seg 3 (pc' := 180) (lv' := [(0, .ref 68), (9, .int (Int32.ofInt x9))]) (st' := [.int (Int32.ofInt x9), .ref 69]) rfl ?_
  obtain ⟨o34, h⟩ := h
  refine lf_iald 181 256 rfl rfl rfl rfl rfl rfl o34 ?_
  exact lf_retI rfl rfl h
def fm_123_p105 (Q : Int → lf_Z → Prop) (x1 : Int) (x2 : Int) (x5 : Int) (x6 : Int) (x7 : Int) (y0 : Int) (s : lf_Z) : Prop := (0 ≤ ((((x1 * 16) + (y0 * 8)) + (x5 * 4)) + (x6 * 2)) + x7 ∧ ((((x1 * 16) + (y0 * 8)) + (x5 * 4)) + (x6 * 2)) + x7 < 256) ∧ (lf_R (s.1 69 (((((x1 * 16) + (y0 * 8)) + (x5 * 4)) + (x6 * 2)) + x7)) ∧ ((s.1 69 (((((x1 * 16) + (y0 * 8)) + (x5 * 4)) + (x6 * 2)) + x7) ≠ (-1) → (fm_123_p174 Q (((((x1 * 16) + (y0 * 8)) + (x5 * 4)) + (x6 * 2)) + x7) s)) ∧ (¬ (s.1 69 (((((x1 * 16) + (y0 * 8)) + (x5 * 4)) + (x6 * 2)) + x7) ≠ (-1)) → (fm_91 (s.1 68 8) x2 x1 x5 x6 (x7 * (s.1 68 11)) (fun r36 s35 => (fm_123_p174 Q (((((x1 * 16) + (y0 * 8)) + (x5 * 4)) + (x6 * 2)) + x7) (lf_up s35.1 69 (((((x1 * 16) + (y0 * 8)) + (x5 * 4)) + (x6 * 2)) + x7) r36, s35.2.1, s35.2.2))) s))))
set_option maxRecDepth 100000 in
theorem gm_123_p105 {L : Nat} {xs : Nat → Int32} {d : Nat} {Q : Int → lf_Z → Prop} {x1 : Int} {x2 : Int} {x5 : Int} {x6 : Int} {x7 : Int} {y0 : Int} {s : lf_Z} (h : fm_123_p105 Q x1 x2 x5 x6 x7 y0 s) : lf_E (px_ro L xs) (d + 4) 123 105 [(0, .ref 68), (1, .int (Int32.ofInt x1)), (2, .int (Int32.ofInt x2)), (5, .int (Int32.ofInt x5)), (6, .int (Int32.ofInt x6)), (7, .int (Int32.ofInt x7))] [.int (Int32.ofInt y0)] s (lf_qi Q) := by
  unfold fm_123_p105 at h
  refine lf_seg 2 (pc' := 108) (lv' := [(8, .int (Int32.ofInt y0)), (0, .ref 68), (1, .int (Int32.ofInt x1)), (2, .int (Int32.ofInt x2)), (5, .int (Int32.ofInt x5)), (6, .int (Int32.ofInt x6)), (7, .int (Int32.ofInt x7))]) (st' := [.int (Int32.ofInt x1)]) rfl ?_
  refine lf_bipush 110 16 rfl rfl (by decide) (by decide) ?_
  refine lf_imul 111 rfl rfl ?_
  refine lf_seg 1 (pc' := 113) (lv' := [(8, .int (Int32.ofInt y0)), (0, .ref 68), (1, .int (Int32.ofInt x1)), (2, .int (Int32.ofInt x2)), (5, .int (Int32.ofInt x5)), (6, .int (Int32.ofInt x6)), (7, .int (Int32.ofInt x7))]) (st' := [.int (Int32.ofInt y0), .int (Int32.ofInt (x1 * 16))]) rfl ?_
  refine lf_bipush 115 8 rfl rfl (by decide) (by decide) ?_
  refine lf_imul 116 rfl rfl ?_
  refine lf_iadd 117 rfl rfl ?_
  refine lf_seg 2 (pc' := 120) (lv' := [(8, .int (Int32.ofInt y0)), (0, .ref 68), (1, .int (Int32.ofInt x1)), (2, .int (Int32.ofInt x2)), (5, .int (Int32.ofInt x5)), (6, .int (Int32.ofInt x6)), (7, .int (Int32.ofInt x7))]) (st' := [.int (Int32.ofInt 4), .int (Int32.ofInt x5), .int (Int32.ofInt ((x1 * 16) + (y0 * 8)))]) rfl ?_
  refine lf_imul 121 rfl rfl ?_
  refine lf_iadd 122 rfl rfl ?_
  refine lf_seg 2 (pc' := 125) (lv' := [(8, .int (Int32.ofInt y0)), (0, .ref 68), (1, .int (Int32.ofInt x1)), (2, .int (Int32.ofInt x2)), (5, .int (Int32.ofInt x5)), (6, .int (Int32.ofInt x6)), (7, .int (Int32.ofInt x7))]) (st' := [.int (Int32.ofInt 2), .int (Int32.ofInt x6), .int (Int32.ofInt (((x1 * 16) + (y0 * 8)) + (x5 * 4)))]) rfl ?_
  refine lf_imul 126 rfl rfl ?_
  refine lf_iadd 127 rfl rfl ?_
  refine lf_seg 1 (pc' := 129) (lv' := [(8, .int (Int32.ofInt y0)), (0, .ref 68), (1, .int (Int32.ofInt x1)), (2, .int (Int32.ofInt x2)), (5, .int (Int32.ofInt x5)), (6, .int (Int32.ofInt x6)), (7, .int (Int32.ofInt x7))]) (st' := [.int (Int32.ofInt x7), .int (Int32.ofInt ((((x1 * 16) + (y0 * 8)) + (x5 * 4)) + (x6 * 2)))]) rfl ?_
  refine lf_iadd 130 rfl rfl ?_
  refine lf_seg 4 (pc' := 138) (lv' := [(9, .int (Int32.ofInt (((((x1 * 16) + (y0 * 8)) + (x5 * 4)) + (x6 * 2)) + x7))), (8, .int (Int32.ofInt y0)), (0, .ref 68), (1, .int (Int32.ofInt x1)), (2, .int (Int32.ofInt x2)), (5, .int (Int32.ofInt x5)), (6, .int (Int32.ofInt x6)), (7, .int (Int32.ofInt x7))]) (st' := [.int (Int32.ofInt (((((x1 * 16) + (y0 * 8)) + (x5 * 4)) + (x6 * 2)) + x7)), .ref 69]) rfl ?_
  obtain ⟨o32, h⟩ := h
  refine lf_iald 139 256 rfl rfl rfl rfl rfl rfl o32 ?_
  refine lf_seg 1 (pc' := 140) (lv' := [(9, .int (Int32.ofInt (((((x1 * 16) + (y0 * 8)) + (x5 * 4)) + (x6 * 2)) + x7))), (8, .int (Int32.ofInt y0)), (0, .ref 68), (1, .int (Int32.ofInt x1)), (2, .int (Int32.ofInt x2)), (5, .int (Int32.ofInt x5)), (6, .int (Int32.ofInt x6)), (7, .int (Int32.ofInt x7))]) (st' := [.int (Int32.ofInt (-1)), .int (Int32.ofInt (s.1 69 (((((x1 * 16) + (y0 * 8)) + (x5 * 4)) + (x6 * 2)) + x7)))]) rfl ?_
  obtain ⟨o33, h⟩ := h
  refine lf_icmp_ne 174 143 rfl rfl rfl o33 ⟨by decide, by decide⟩ (fun c => ?_) (fun c => ?_)
  · have h := h.1 c
    refine lf_sub (l := [(0, .ref 68), (9, .int (Int32.ofInt (((((x1 * 16) + (y0 * 8)) + (x5 * 4)) + (x6 * 2)) + x7)))]) (lf_sb1 rfl (lf_sb1 rfl lf_sb0)) ?_
    exact gm_123_p174 h
  · have h := h.2 c
    refine lf_seg 6 (pc' := 154) (lv' := [(9, .int (Int32.ofInt (((((x1 * 16) + (y0 * 8)) + (x5 * 4)) + (x6 * 2)) + x7))), (8, .int (Int32.ofInt y0)), (0, .ref 68), (1, .int (Int32.ofInt x1)), (2, .int (Int32.ofInt x2)), (5, .int (Int32.ofInt x5)), (6, .int (Int32.ofInt x6)), (7, .int (Int32.ofInt x7))]) (st' := [.ref 68, .ref 63, .int (Int32.ofInt (((((x1 * 16) + (y0 * 8)) + (x5 * 4)) + (x6 * 2)) + x7)), .ref 69]) rfl ?_
    refine lf_getI 157 8 rfl rfl rfl rfl rfl rfl rfl ?_
    refine lf_seg 6 (pc' := 166) (lv' := [(9, .int (Int32.ofInt (((((x1 * 16) + (y0 * 8)) + (x5 * 4)) + (x6 * 2)) + x7))), (8, .int (Int32.ofInt y0)), (0, .ref 68), (1, .int (Int32.ofInt x1)), (2, .int (Int32.ofInt x2)), (5, .int (Int32.ofInt x5)), (6, .int (Int32.ofInt x6)), (7, .int (Int32.ofInt x7))]) (st' := [.ref 68, .int (Int32.ofInt x7), .int (Int32.ofInt x6), .int (Int32.ofInt x5), .int (Int32.ofInt x1), .int (Int32.ofInt x2), .int (Int32.ofInt (s.1 68 8)), .ref 63, .int (Int32.ofInt (((((x1 * 16) + (y0 * 8)) + (x5 * 4)) + (x6 * 2)) + x7)), .ref 69]) rfl ?_
    refine lf_getI 169 11 rfl rfl rfl rfl rfl rfl rfl ?_
    refine lf_imul 170 rfl rfl ?_
    refine lf_callI 173 rfl rfl rfl rfl (gm_91 h) (fun r36 s35 h => ?_)
    refine lf_iast 174 256 rfl rfl rfl rfl rfl rfl o32 ?_
    refine lf_as (lf_up s35.1 69 (((((x1 * 16) + (y0 * 8)) + (x5 * 4)) + (x6 * 2)) + x7) r36, s35.2.1, s35.2.2) rfl ?_
    refine lf_sub (l := [(0, .ref 68), (9, .int (Int32.ofInt (((((x1 * 16) + (y0 * 8)) + (x5 * 4)) + (x6 * 2)) + x7)))]) (lf_sb1 rfl (lf_sb1 rfl lf_sb0)) ?_
    exact gm_123_p174 h
def fm_123_p64 (Q : Int → lf_Z → Prop) (x1 : Int) (x2 : Int) (x4 : Int) (y0 : Int) (s : lf_Z) : Prop := (0 ≤ x1 ∧ x1 < 16) ∧ (lf_R (s.1 4 x1) ∧ (lf_R x2 ∧ ((s.1 4 x1 ≠ x2 → (fm_123_p105 Q x1 x2 y0 (lf_and (lf_shr (s.1 68 10) x2) 1) (lf_and (lf_shr (s.1 68 10) x4) 1) 1 s)) ∧ (¬ (s.1 4 x1 ≠ x2) → (fm_123_p105 Q x1 x2 y0 (lf_and (lf_shr (s.1 68 10) x2) 1) (lf_and (lf_shr (s.1 68 10) x4) 1) 0 s)))))
set_option maxRecDepth 100000 in
theorem gm_123_p64 {L : Nat} {xs : Nat → Int32} {d : Nat} {Q : Int → lf_Z → Prop} {x1 : Int} {x2 : Int} {x4 : Int} {y0 : Int} {s : lf_Z} (h : fm_123_p64 Q x1 x2 x4 y0 s) : lf_E (px_ro L xs) (d + 4) 123 64 [(0, .ref 68), (1, .int (Int32.ofInt x1)), (2, .int (Int32.ofInt x2)), (4, .int (Int32.ofInt x4))] [.int (Int32.ofInt y0)] s (lf_qi Q) := by
  unfold fm_123_p64 at h
  refine lf_seg 2 (pc' := 67) (lv' := [(5, .int (Int32.ofInt y0)), (0, .ref 68), (1, .int (Int32.ofInt x1)), (2, .int (Int32.ofInt x2)), (4, .int (Int32.ofInt x4))]) (st' := [.ref 68]) rfl ?_
  refine lf_getI 70 10 rfl rfl rfl rfl rfl rfl rfl ?_
  refine lf_seg 1 (pc' := 71) (lv' := [(5, .int (Int32.ofInt y0)), (0, .ref 68), (1, .int (Int32.ofInt x1)), (2, .int (Int32.ofInt x2)), (4, .int (Int32.ofInt x4))]) (st' := [.int (Int32.ofInt x2), .int (Int32.ofInt (s.1 68 10))]) rfl ?_
  refine lf_ishr 72 rfl rfl ?_
  refine lf_seg 1 (pc' := 73) (lv' := [(5, .int (Int32.ofInt y0)), (0, .ref 68), (1, .int (Int32.ofInt x1)), (2, .int (Int32.ofInt x2)), (4, .int (Int32.ofInt x4))]) (st' := [.int (Int32.ofInt 1), .int (Int32.ofInt (lf_shr (s.1 68 10) x2))]) rfl ?_
  refine lf_iand 74 rfl rfl ?_
  refine lf_seg 2 (pc' := 77) (lv' := [(6, .int (Int32.ofInt (lf_and (lf_shr (s.1 68 10) x2) 1))), (5, .int (Int32.ofInt y0)), (0, .ref 68), (1, .int (Int32.ofInt x1)), (2, .int (Int32.ofInt x2)), (4, .int (Int32.ofInt x4))]) (st' := [.ref 68]) rfl ?_
  refine lf_getI 80 10 rfl rfl rfl rfl rfl rfl rfl ?_
  refine lf_seg 1 (pc' := 82) (lv' := [(6, .int (Int32.ofInt (lf_and (lf_shr (s.1 68 10) x2) 1))), (5, .int (Int32.ofInt y0)), (0, .ref 68), (1, .int (Int32.ofInt x1)), (2, .int (Int32.ofInt x2)), (4, .int (Int32.ofInt x4))]) (st' := [.int (Int32.ofInt x4), .int (Int32.ofInt (s.1 68 10))]) rfl ?_
  refine lf_ishr 83 rfl rfl ?_
  refine lf_seg 1 (pc' := 84) (lv' := [(6, .int (Int32.ofInt (lf_and (lf_shr (s.1 68 10) x2) 1))), (5, .int (Int32.ofInt y0)), (0, .ref 68), (1, .int (Int32.ofInt x1)), (2, .int (Int32.ofInt x2)), (4, .int (Int32.ofInt x4))]) (st' := [.int (Int32.ofInt 1), .int (Int32.ofInt (lf_shr (s.1 68 10) x4))]) rfl ?_
  refine lf_iand 85 rfl rfl ?_
  refine lf_seg 5 (pc' := 95) (lv' := [(7, .int (Int32.ofInt (lf_and (lf_shr (s.1 68 10) x4) 1))), (6, .int (Int32.ofInt (lf_and (lf_shr (s.1 68 10) x2) 1))), (5, .int (Int32.ofInt y0)), (0, .ref 68), (1, .int (Int32.ofInt x1)), (2, .int (Int32.ofInt x2)), (4, .int (Int32.ofInt x4))]) (st' := [.int (Int32.ofInt x1), .ref 4]) rfl ?_
  obtain ⟨o29, h⟩ := h
  refine lf_iald 96 16 rfl rfl rfl rfl rfl rfl o29 ?_
  refine lf_seg 1 (pc' := 97) (lv' := [(7, .int (Int32.ofInt (lf_and (lf_shr (s.1 68 10) x4) 1))), (6, .int (Int32.ofInt (lf_and (lf_shr (s.1 68 10) x2) 1))), (5, .int (Int32.ofInt y0)), (0, .ref 68), (1, .int (Int32.ofInt x1)), (2, .int (Int32.ofInt x2)), (4, .int (Int32.ofInt x4))]) (st' := [.int (Int32.ofInt x2), .int (Int32.ofInt (s.1 4 x1))]) rfl ?_
  obtain ⟨o30, h⟩ := h
  obtain ⟨o31, h⟩ := h
  refine lf_icmp_ne 104 100 rfl rfl rfl o30 o31 (fun c => ?_) (fun c => ?_)
  · have h := h.1 c
    refine lf_seg 1 (pc' := 105) (lv' := [(7, .int (Int32.ofInt (lf_and (lf_shr (s.1 68 10) x4) 1))), (6, .int (Int32.ofInt (lf_and (lf_shr (s.1 68 10) x2) 1))), (5, .int (Int32.ofInt y0)), (0, .ref 68), (1, .int (Int32.ofInt x1)), (2, .int (Int32.ofInt x2)), (4, .int (Int32.ofInt x4))]) (st' := [.int (Int32.ofInt 1)]) rfl ?_
    refine lf_sub (l := [(0, .ref 68), (1, .int (Int32.ofInt x1)), (2, .int (Int32.ofInt x2)), (5, .int (Int32.ofInt y0)), (6, .int (Int32.ofInt (lf_and (lf_shr (s.1 68 10) x2) 1))), (7, .int (Int32.ofInt (lf_and (lf_shr (s.1 68 10) x4) 1)))]) (lf_sb1 rfl (lf_sb1 rfl (lf_sb1 rfl (lf_sb1 rfl (lf_sb1 rfl (lf_sb1 rfl lf_sb0)))))) ?_
    exact gm_123_p105 h
  · have h := h.2 c
    refine lf_seg 2 (pc' := 105) (lv' := [(7, .int (Int32.ofInt (lf_and (lf_shr (s.1 68 10) x4) 1))), (6, .int (Int32.ofInt (lf_and (lf_shr (s.1 68 10) x2) 1))), (5, .int (Int32.ofInt y0)), (0, .ref 68), (1, .int (Int32.ofInt x1)), (2, .int (Int32.ofInt x2)), (4, .int (Int32.ofInt x4))]) (st' := [.int (Int32.ofInt 0)]) rfl ?_
    refine lf_sub (l := [(0, .ref 68), (1, .int (Int32.ofInt x1)), (2, .int (Int32.ofInt x2)), (5, .int (Int32.ofInt y0)), (6, .int (Int32.ofInt (lf_and (lf_shr (s.1 68 10) x2) 1))), (7, .int (Int32.ofInt (lf_and (lf_shr (s.1 68 10) x4) 1)))]) (lf_sb1 rfl (lf_sb1 rfl (lf_sb1 rfl (lf_sb1 rfl (lf_sb1 rfl (lf_sb1 rfl lf_sb0)))))) ?_
    exact gm_123_p105 h
def fm_123 (a1 : Int) (a2 : Int) (a3 : Int) (Q : Int → lf_Z → Prop) (s : lf_Z) : Prop := fm_78 a1 a2 (fun r22 s21 => (lf_R r22 ∧ ((r22 = (-1) → (Q 0 s21)) ∧ (¬ (r22 = (-1)) → (fm_89 a1 (fun z25 s24 => ((z25 = false → (Q 0 s24)) ∧ (z25 = true → (fm_90 a1 (fun z27 s26 => ((z27 = false → (Q 0 s26)) ∧ (z27 = true → ((lf_and (lf_shr (s26.1 68 9) a1) 1 ≠ 1 → (lf_R a3 ∧ ((a3 ≠ r22 → (fm_123_p64 Q a1 a2 r22 0 s26)) ∧ (¬ (a3 ≠ r22) → (fm_123_p64 Q a1 a2 r22 1 s26))))) ∧ (¬ (lf_and (lf_shr (s26.1 68 9) a1) 1 ≠ 1) → (Q 0 s26)))))) s24)))) s21))))) s
set_option maxRecDepth 100000 in
theorem gm_123 {L : Nat} {xs : Nat → Int32} {d : Nat} {a1 : Int} {a2 : Int} {a3 : Int} {Q : Int → lf_Z → Prop} {s : lf_Z} (h : fm_123 a1 a2 a3 Q s) : lf_M (px_ro L xs) (d + 4) 123 [.ref 68, .int (Int32.ofInt a1), .int (Int32.ofInt a2), .int (Int32.ofInt a3)] s (lf_qi Q) := by
  unfold fm_123 at h
  show lf_E (px_ro L xs) (d + 4) 123 0 [(0, .ref 68), (1, .int (Int32.ofInt a1)), (2, .int (Int32.ofInt a2)), (3, .int (Int32.ofInt a3))] [] s _
  refine lf_seg 4 (pc' := 6) (lv' := [(0, .ref 68), (1, .int (Int32.ofInt a1)), (2, .int (Int32.ofInt a2)), (3, .int (Int32.ofInt a3))]) (st' := [.int (Int32.ofInt a2), .int (Int32.ofInt a1), .ref 1]) rfl ?_
  refine lf_callI 9 rfl rfl rfl rfl (gm_78 h) (fun r22 s21 h => ?_)
  refine lf_seg 3 (pc' := 14) (lv' := [(4, .int (Int32.ofInt r22)), (0, .ref 68), (1, .int (Int32.ofInt a1)), (2, .int (Int32.ofInt a2)), (3, .int (Int32.ofInt a3))]) (st' := [.int (Int32.ofInt (-1)), .int (Int32.ofInt r22)]) rfl ?_
  obtain ⟨o23, h⟩ := h
  refine lf_icmp_eq 51 17 rfl rfl rfl o23 ⟨by decide, by decide⟩ (fun c => ?_) (fun c => ?_)
  · have h := h.1 c
    refine lf_seg 1 (pc' := 52) (lv' := [(4, .int (Int32.ofInt r22)), (0, .ref 68), (1, .int (Int32.ofInt a1)), (2, .int (Int32.ofInt a2)), (3, .int (Int32.ofInt a3))]) (st' := [.int (Int32.ofInt 0)]) rfl ?_
    exact lf_retI rfl rfl h
  · have h := h.2 c
    refine lf_seg 3 (pc' := 22) (lv' := [(4, .int (Int32.ofInt r22)), (0, .ref 68), (1, .int (Int32.ofInt a1)), (2, .int (Int32.ofInt a2)), (3, .int (Int32.ofInt a3))]) (st' := [.int (Int32.ofInt a1), .ref 1]) rfl ?_
    refine lf_callZ 25 rfl rfl rfl rfl (gm_89 h) (fun z25 s24 h => ?_)
    refine lf_ifz_eq 51 28 rfl rfl rfl (fun c => ?_) (fun c => ?_)
    · have h := h.1 c
      refine lf_seg 1 (pc' := 52) (lv' := [(4, .int (Int32.ofInt r22)), (0, .ref 68), (1, .int (Int32.ofInt a1)), (2, .int (Int32.ofInt a2)), (3, .int (Int32.ofInt a3))]) (st' := [.int (Int32.ofInt 0)]) rfl ?_
      exact lf_retI rfl rfl h
    · have h := h.2 c
      refine lf_seg 3 (pc' := 33) (lv' := [(4, .int (Int32.ofInt r22)), (0, .ref 68), (1, .int (Int32.ofInt a1)), (2, .int (Int32.ofInt a2)), (3, .int (Int32.ofInt a3))]) (st' := [.int (Int32.ofInt a1), .ref 15]) rfl ?_
      refine lf_callZ 36 rfl rfl rfl rfl (gm_90 h) (fun z27 s26 h => ?_)
      refine lf_ifz_eq 51 39 rfl rfl rfl (fun c => ?_) (fun c => ?_)
      · have h := h.1 c
        refine lf_seg 1 (pc' := 52) (lv' := [(4, .int (Int32.ofInt r22)), (0, .ref 68), (1, .int (Int32.ofInt a1)), (2, .int (Int32.ofInt a2)), (3, .int (Int32.ofInt a3))]) (st' := [.int (Int32.ofInt 0)]) rfl ?_
        exact lf_retI rfl rfl h
      · have h := h.2 c
        refine lf_seg 1 (pc' := 40) (lv' := [(4, .int (Int32.ofInt r22)), (0, .ref 68), (1, .int (Int32.ofInt a1)), (2, .int (Int32.ofInt a2)), (3, .int (Int32.ofInt a3))]) (st' := [.ref 68]) rfl ?_
        refine lf_getI 43 9 rfl rfl rfl rfl rfl rfl rfl ?_
        refine lf_seg 1 (pc' := 44) (lv' := [(4, .int (Int32.ofInt r22)), (0, .ref 68), (1, .int (Int32.ofInt a1)), (2, .int (Int32.ofInt a2)), (3, .int (Int32.ofInt a3))]) (st' := [.int (Int32.ofInt a1), .int (Int32.ofInt (s26.1 68 9))]) rfl ?_
        refine lf_ishr 45 rfl rfl ?_
        refine lf_seg 1 (pc' := 46) (lv' := [(4, .int (Int32.ofInt r22)), (0, .ref 68), (1, .int (Int32.ofInt a1)), (2, .int (Int32.ofInt a2)), (3, .int (Int32.ofInt a3))]) (st' := [.int (Int32.ofInt 1), .int (Int32.ofInt (lf_shr (s26.1 68 9) a1))]) rfl ?_
        refine lf_iand 47 rfl rfl ?_
        refine lf_seg 1 (pc' := 48) (lv' := [(4, .int (Int32.ofInt r22)), (0, .ref 68), (1, .int (Int32.ofInt a1)), (2, .int (Int32.ofInt a2)), (3, .int (Int32.ofInt a3))]) (st' := [.int (Int32.ofInt 1), .int (Int32.ofInt (lf_and (lf_shr (s26.1 68 9) a1) 1))]) rfl ?_
        refine lf_icmp_ne 53 51 rfl rfl rfl lf_Rand ⟨by decide, by decide⟩ (fun c => ?_) (fun c => ?_)
        · have h := h.1 c
          refine lf_seg 2 (pc' := 56) (lv' := [(4, .int (Int32.ofInt r22)), (0, .ref 68), (1, .int (Int32.ofInt a1)), (2, .int (Int32.ofInt a2)), (3, .int (Int32.ofInt a3))]) (st' := [.int (Int32.ofInt r22), .int (Int32.ofInt a3)]) rfl ?_
          obtain ⟨o28, h⟩ := h
          refine lf_icmp_ne 63 59 rfl rfl rfl o28 o23 (fun c => ?_) (fun c => ?_)
          · have h := h.1 c
            refine lf_seg 1 (pc' := 64) (lv' := [(4, .int (Int32.ofInt r22)), (0, .ref 68), (1, .int (Int32.ofInt a1)), (2, .int (Int32.ofInt a2)), (3, .int (Int32.ofInt a3))]) (st' := [.int (Int32.ofInt 0)]) rfl ?_
            refine lf_sub (l := [(0, .ref 68), (1, .int (Int32.ofInt a1)), (2, .int (Int32.ofInt a2)), (4, .int (Int32.ofInt r22))]) (lf_sb1 rfl (lf_sb1 rfl (lf_sb1 rfl (lf_sb1 rfl lf_sb0)))) ?_
            exact gm_123_p64 h
          · have h := h.2 c
            refine lf_seg 2 (pc' := 64) (lv' := [(4, .int (Int32.ofInt r22)), (0, .ref 68), (1, .int (Int32.ofInt a1)), (2, .int (Int32.ofInt a2)), (3, .int (Int32.ofInt a3))]) (st' := [.int (Int32.ofInt 1)]) rfl ?_
            refine lf_sub (l := [(0, .ref 68), (1, .int (Int32.ofInt a1)), (2, .int (Int32.ofInt a2)), (4, .int (Int32.ofInt r22))]) (lf_sb1 rfl (lf_sb1 rfl (lf_sb1 rfl (lf_sb1 rfl lf_sb0)))) ?_
            exact gm_123_p64 h
        · have h := h.2 c
          refine lf_seg 1 (pc' := 52) (lv' := [(4, .int (Int32.ofInt r22)), (0, .ref 68), (1, .int (Int32.ofInt a1)), (2, .int (Int32.ofInt a2)), (3, .int (Int32.ofInt a3))]) (st' := [.int (Int32.ofInt 0)]) rfl ?_
          exact lf_retI rfl rfl h
-- fm_122 Walk.moveOddsFrom 68 i
def fm_122_p107 (X19 : Int → Int → lf_Z → Prop) (Q : lf_Z → Prop) (x1 : Int) (x2 : Int) (x3 : Int) (x5 : Int) (s : lf_Z) : Prop := X19 x3 (x5 + 1) s
set_option maxRecDepth 100000 in
theorem gm_122_p107 {L : Nat} {xs : Nat → Int32} {d : Nat} {X19 : Int → Int → lf_Z → Prop} {Q : lf_Z → Prop} {x1 : Int} {x2 : Int} {x3 : Int} {x5 : Int} {s : lf_Z} (hX19 : ∀ x3 x5 s, X19 x3 x5 s → lf_E (px_ro L xs) (d + 5) 122 19 [(0, .ref 68), (1, .int (Int32.ofInt x1)), (2, .int (Int32.ofInt x2)), (3, .long (Int64.ofInt x3)), (5, .int (Int32.ofInt x5))] [] s (lf_qv Q)) (h : fm_122_p107 X19 Q x1 x2 x3 x5 s) : lf_E (px_ro L xs) (d + 5) 122 107 [(0, .ref 68), (1, .int (Int32.ofInt x1)), (2, .int (Int32.ofInt x2)), (3, .long (Int64.ofInt x3)), (5, .int (Int32.ofInt x5))] [] s (lf_qv Q) := by
  unfold fm_122_p107 at h
  refine lf_eqs (lv' := [(0, .ref 68), (1, .int (Int32.ofInt x1)), (2, .int (Int32.ofInt x2)), (3, .long (Int64.ofInt (lf_wl x3))), (5, .int (Int32.ofInt x5))]) (st' := []) (by simp only [lf_wlE]) rfl ?_
  refine lf_iinc 110 rfl rfl rfl rfl ?_
  refine lf_seg 1 (pc' := 19) (lv' := [(5, .int (Int32.ofInt (x5 + 1))), (0, .ref 68), (1, .int (Int32.ofInt x1)), (2, .int (Int32.ofInt x2)), (3, .long (Int64.ofInt (lf_wl x3)))]) (st' := []) rfl ?_
  refine lf_eqs (lv' := [(5, .int (Int32.ofInt (x5 + 1))), (0, .ref 68), (1, .int (Int32.ofInt x1)), (2, .int (Int32.ofInt x2)), (3, .long (Int64.ofInt x3))]) (st' := []) (by simp only [lf_wlE]) rfl ?_
  refine lf_sub (l := [(0, .ref 68), (1, .int (Int32.ofInt x1)), (2, .int (Int32.ofInt x2)), (3, .long (Int64.ofInt x3)), (5, .int (Int32.ofInt (x5 + 1)))]) (lf_sb1 rfl (lf_sb1 rfl (lf_sb1 rfl (lf_sb1 rfl (lf_sb1 rfl lf_sb0))))) ?_
  exact hX19 _ _ _ h
def fm_122_p19 (Q : lf_Z → Prop) (x1 : Int) (x2 : Int) (X19 : Int → Int → lf_Z → Prop) (x3 : Int) (x5 : Int) (s : lf_Z) : Prop := fm_76 x2 (fun r25 s24 => (lf_R x5 ∧ (lf_R r25 ∧ ((r25 ≤ x5 → (∃ w28 : Nat, s24.2.2 1 = some w28 ∧ (w28 = 72 ∨ w28 = 73) ∧ ((0 ≤ x1 ∧ x1 < 156) ∧ (Q (s24.1, lf_up s24.2.1 w28 x1 (lf_wl ((lf_wl (s24.2.1 w28 x1)) + (lf_wl x3))), s24.2.2))))) ∧ (¬ (r25 ≤ x5) → (fm_77 x2 x5 (fun r31 s30 => (lf_R x1 ∧ (fm_123 r31 x2 ((x1.tmod 13) - 1) (fun r34 s33 => (lf_R r34 ∧ ((r34 ≤ 0 → (fm_122_p107 X19 Q x1 x2 x3 x5 s33)) ∧ (¬ (r34 ≤ 0) → (∃ w36 : Nat, s33.2.2 1 = some w36 ∧ (w36 = 72 ∨ w36 = 73) ∧ (fm_78 r31 x2 (fun r38 s37 => ((0 ≤ ((r38 * 13) + x2) + 1 ∧ ((r38 * 13) + x2) + 1 < 156) ∧ (fm_122_p107 X19 Q x1 x2 (lf_wl ((lf_wl x3) - (lf_wl ((lf_wl ((lf_wl x3).tdiv 10)) * r34)))) x5 (s37.1, lf_up s37.2.1 w36 (((r38 * 13) + x2) + 1) (lf_wl ((lf_wl (s37.2.1 w36 (((r38 * 13) + x2) + 1))) + (lf_wl ((lf_wl ((lf_wl x3).tdiv 10)) * r34)))), s37.2.2)))) s33)))))) s30))) s24)))))) s
def fm_122_p19L (Q : lf_Z → Prop) (x1 : Int) (x2 : Int) (x3 : Int) (x5 : Int) (s : lf_Z) : Prop := ∀ X19 : Int → Int → lf_Z → Prop, (∀ (x3 : Int) (x5 : Int) (s : lf_Z), fm_122_p19 Q x1 x2 X19 x3 x5 s → X19 x3 x5 s) → X19 x3 x5 s
set_option maxRecDepth 100000 in
theorem gm_122_p19 {L : Nat} {xs : Nat → Int32} {d : Nat} {Q : lf_Z → Prop} {x1 : Int} {x2 : Int} {x3 : Int} {x5 : Int} {s : lf_Z} {X19 : Int → Int → lf_Z → Prop} (hX19 : ∀ x3 x5 s, X19 x3 x5 s → lf_E (px_ro L xs) (d + 5) 122 19 [(0, .ref 68), (1, .int (Int32.ofInt x1)), (2, .int (Int32.ofInt x2)), (3, .long (Int64.ofInt x3)), (5, .int (Int32.ofInt x5))] [] s (lf_qv Q)) (h : fm_122_p19 Q x1 x2 X19 x3 x5 s) : lf_E (px_ro L xs) (d + 5) 122 19 [(0, .ref 68), (1, .int (Int32.ofInt x1)), (2, .int (Int32.ofInt x2)), (3, .long (Int64.ofInt x3)), (5, .int (Int32.ofInt x5))] [] s (lf_qv Q) := by
  unfold fm_122_p19 at h
  refine lf_eqs (lv' := [(0, .ref 68), (1, .int (Int32.ofInt x1)), (2, .int (Int32.ofInt x2)), (3, .long (Int64.ofInt (lf_wl x3))), (5, .int (Int32.ofInt x5))]) (st' := []) (by simp only [lf_wlE]) rfl ?_
  refine lf_seg 4 (pc' := 26) (lv' := [(0, .ref 68), (1, .int (Int32.ofInt x1)), (2, .int (Int32.ofInt x2)), (3, .long (Int64.ofInt (lf_wl x3))), (5, .int (Int32.ofInt x5))]) (st' := [.int (Int32.ofInt x2), .ref 1, .int (Int32.ofInt x5)]) rfl ?_
  refine lf_callI 29 rfl rfl rfl rfl (gm_76 h) (fun r25 s24 h => ?_)
  obtain ⟨o26, h⟩ := h
  obtain ⟨o27, h⟩ := h
  refine lf_icmp_ge 113 32 rfl rfl rfl o26 o27 (fun c => ?_) (fun c => ?_)
  · have h := h.1 c
    refine lf_seg 1 (pc' := 114) (lv' := [(0, .ref 68), (1, .int (Int32.ofInt x1)), (2, .int (Int32.ofInt x2)), (3, .long (Int64.ofInt (lf_wl x3))), (5, .int (Int32.ofInt x5))]) (st' := [.ref 68]) rfl ?_
    obtain ⟨w28, ew28, hww28, h⟩ := h
    refine lf_getR 117 (w := some w28) rfl rfl rfl rfl rfl rfl ew28 ?_
    refine lf_seg 2 (pc' := 119) (lv' := [(0, .ref 68), (1, .int (Int32.ofInt x1)), (2, .int (Int32.ofInt x2)), (3, .long (Int64.ofInt (lf_wl x3))), (5, .int (Int32.ofInt x5))]) (st' := [.int (Int32.ofInt x1), .ref w28, .int (Int32.ofInt x1), .ref w28]) rfl ?_
    obtain ⟨o29, h⟩ := h
    refine lf_lald 120 156 rfl rfl (lf_wA hww28) (lf_wC hww28) rfl rfl o29 ?_
    refine lf_wtL ?_
    refine lf_seg 1 (pc' := 121) (lv' := [(0, .ref 68), (1, .int (Int32.ofInt x1)), (2, .int (Int32.ofInt x2)), (3, .long (Int64.ofInt (lf_wl x3))), (5, .int (Int32.ofInt x5))]) (st' := [.long (Int64.ofInt (lf_wl x3)), .long (Int64.ofInt (lf_wl (s24.2.1 w28 x1))), .int (Int32.ofInt x1), .ref w28]) rfl ?_
    refine lf_ladd 122 rfl rfl ?_
    refine lf_wtL ?_
    refine lf_last 123 156 rfl rfl (lf_wA hww28) (lf_wC hww28) rfl rfl o29 ?_
    refine lf_as (s24.1, lf_up s24.2.1 w28 x1 (lf_wl ((lf_wl (s24.2.1 w28 x1)) + (lf_wl x3))), s24.2.2) rfl ?_
    exact lf_retV rfl rfl h
  · have h := h.2 c
    refine lf_seg 4 (pc' := 39) (lv' := [(0, .ref 68), (1, .int (Int32.ofInt x1)), (2, .int (Int32.ofInt x2)), (3, .long (Int64.ofInt (lf_wl x3))), (5, .int (Int32.ofInt x5))]) (st' := [.int (Int32.ofInt x5), .int (Int32.ofInt x2), .ref 1]) rfl ?_
    refine lf_callI 42 rfl rfl rfl rfl (gm_77 h) (fun r31 s30 h => ?_)
    refine lf_seg 5 (pc' := 49) (lv' := [(6, .int (Int32.ofInt r31)), (0, .ref 68), (1, .int (Int32.ofInt x1)), (2, .int (Int32.ofInt x2)), (3, .long (Int64.ofInt (lf_wl x3))), (5, .int (Int32.ofInt x5))]) (st' := [.int (Int32.ofInt x1), .int (Int32.ofInt x2), .int (Int32.ofInt r31), .ref 68]) rfl ?_
    refine lf_bipush 51 13 rfl rfl (by decide) (by decide) ?_
    obtain ⟨o32, h⟩ := h
    refine lf_irem 52 rfl rfl o32 ⟨by decide, by decide⟩ (by decide) ?_
    refine lf_seg 1 (pc' := 53) (lv' := [(6, .int (Int32.ofInt r31)), (0, .ref 68), (1, .int (Int32.ofInt x1)), (2, .int (Int32.ofInt x2)), (3, .long (Int64.ofInt (lf_wl x3))), (5, .int (Int32.ofInt x5))]) (st' := [.int (Int32.ofInt 1), .int (Int32.ofInt (x1.tmod 13)), .int (Int32.ofInt x2), .int (Int32.ofInt r31), .ref 68]) rfl ?_
    refine lf_isub 54 rfl rfl ?_
    refine lf_callI 57 rfl rfl rfl rfl (gm_123 h) (fun r34 s33 h => ?_)
    refine lf_seg 2 (pc' := 61) (lv' := [(7, .int (Int32.ofInt r34)), (6, .int (Int32.ofInt r31)), (0, .ref 68), (1, .int (Int32.ofInt x1)), (2, .int (Int32.ofInt x2)), (3, .long (Int64.ofInt (lf_wl x3))), (5, .int (Int32.ofInt x5))]) (st' := [.int (Int32.ofInt r34)]) rfl ?_
    obtain ⟨o35, h⟩ := h
    refine lf_if_le 107 64 rfl rfl rfl o35 (fun c => ?_) (fun c => ?_)
    · have h := h.1 c
      refine lf_eqs (lv' := [(7, .int (Int32.ofInt r34)), (6, .int (Int32.ofInt r31)), (0, .ref 68), (1, .int (Int32.ofInt x1)), (2, .int (Int32.ofInt x2)), (3, .long (Int64.ofInt x3)), (5, .int (Int32.ofInt x5))]) (st' := []) (by simp only [lf_wlE]) rfl ?_
      refine lf_sub (l := [(0, .ref 68), (1, .int (Int32.ofInt x1)), (2, .int (Int32.ofInt x2)), (3, .long (Int64.ofInt x3)), (5, .int (Int32.ofInt x5))]) (lf_sb1 rfl (lf_sb1 rfl (lf_sb1 rfl (lf_sb1 rfl (lf_sb1 rfl lf_sb0))))) ?_
      exact gm_122_p107 hX19 h
    · have h := h.2 c
      refine lf_seg 1 (pc' := 65) (lv' := [(7, .int (Int32.ofInt r34)), (6, .int (Int32.ofInt r31)), (0, .ref 68), (1, .int (Int32.ofInt x1)), (2, .int (Int32.ofInt x2)), (3, .long (Int64.ofInt (lf_wl x3))), (5, .int (Int32.ofInt x5))]) (st' := [.long (Int64.ofInt (lf_wl x3))]) rfl ?_
      refine lf_ldc2 68 10 rfl rfl rfl (by decide) ?_
      refine lf_ldiv 69 rfl rfl lf_RLwl ⟨by decide, by decide⟩ (by decide) ?_
      refine lf_wtL ?_
      refine lf_seg 1 (pc' := 71) (lv' := [(7, .int (Int32.ofInt r34)), (6, .int (Int32.ofInt r31)), (0, .ref 68), (1, .int (Int32.ofInt x1)), (2, .int (Int32.ofInt x2)), (3, .long (Int64.ofInt (lf_wl x3))), (5, .int (Int32.ofInt x5))]) (st' := [.int (Int32.ofInt r34), .long (Int64.ofInt (lf_wl ((lf_wl x3).tdiv 10)))]) rfl ?_
      refine lf_i2l 72 rfl rfl o35 ?_
      refine lf_lmul 73 rfl rfl ?_
      refine lf_wtL ?_
      refine lf_seg 2 (pc' := 76) (lv' := [(8, .long (Int64.ofInt (lf_wl ((lf_wl ((lf_wl x3).tdiv 10)) * r34)))), (7, .int (Int32.ofInt r34)), (6, .int (Int32.ofInt r31)), (0, .ref 68), (1, .int (Int32.ofInt x1)), (2, .int (Int32.ofInt x2)), (3, .long (Int64.ofInt (lf_wl x3))), (5, .int (Int32.ofInt x5))]) (st' := [.ref 68]) rfl ?_
      obtain ⟨w36, ew36, hww36, h⟩ := h
      refine lf_getR 79 (w := some w36) rfl rfl rfl rfl rfl rfl ew36 ?_
      refine lf_seg 4 (pc' := 86) (lv' := [(8, .long (Int64.ofInt (lf_wl ((lf_wl ((lf_wl x3).tdiv 10)) * r34)))), (7, .int (Int32.ofInt r34)), (6, .int (Int32.ofInt r31)), (0, .ref 68), (1, .int (Int32.ofInt x1)), (2, .int (Int32.ofInt x2)), (3, .long (Int64.ofInt (lf_wl x3))), (5, .int (Int32.ofInt x5))]) (st' := [.int (Int32.ofInt x2), .int (Int32.ofInt r31), .ref 1, .ref w36]) rfl ?_
      refine lf_callI 89 rfl rfl rfl rfl (gm_78 h) (fun r38 s37 h => ?_)
      refine lf_bipush 91 13 rfl rfl (by decide) (by decide) ?_
      refine lf_imul 92 rfl rfl ?_
      refine lf_seg 1 (pc' := 93) (lv' := [(8, .long (Int64.ofInt (lf_wl ((lf_wl ((lf_wl x3).tdiv 10)) * r34)))), (7, .int (Int32.ofInt r34)), (6, .int (Int32.ofInt r31)), (0, .ref 68), (1, .int (Int32.ofInt x1)), (2, .int (Int32.ofInt x2)), (3, .long (Int64.ofInt (lf_wl x3))), (5, .int (Int32.ofInt x5))]) (st' := [.int (Int32.ofInt x2), .int (Int32.ofInt (r38 * 13)), .ref w36]) rfl ?_
      refine lf_iadd 94 rfl rfl ?_
      refine lf_seg 1 (pc' := 95) (lv' := [(8, .long (Int64.ofInt (lf_wl ((lf_wl ((lf_wl x3).tdiv 10)) * r34)))), (7, .int (Int32.ofInt r34)), (6, .int (Int32.ofInt r31)), (0, .ref 68), (1, .int (Int32.ofInt x1)), (2, .int (Int32.ofInt x2)), (3, .long (Int64.ofInt (lf_wl x3))), (5, .int (Int32.ofInt x5))]) (st' := [.int (Int32.ofInt 1), .int (Int32.ofInt ((r38 * 13) + x2)), .ref w36]) rfl ?_
      refine lf_iadd 96 rfl rfl ?_
      refine lf_seg 1 (pc' := 97) (lv' := [(8, .long (Int64.ofInt (lf_wl ((lf_wl ((lf_wl x3).tdiv 10)) * r34)))), (7, .int (Int32.ofInt r34)), (6, .int (Int32.ofInt r31)), (0, .ref 68), (1, .int (Int32.ofInt x1)), (2, .int (Int32.ofInt x2)), (3, .long (Int64.ofInt (lf_wl x3))), (5, .int (Int32.ofInt x5))]) (st' := [.int (Int32.ofInt (((r38 * 13) + x2) + 1)), .ref w36, .int (Int32.ofInt (((r38 * 13) + x2) + 1)), .ref w36]) rfl ?_
      obtain ⟨o39, h⟩ := h
      refine lf_lald 98 156 rfl rfl (lf_wA hww36) (lf_wC hww36) rfl rfl o39 ?_
      refine lf_wtL ?_
      refine lf_seg 1 (pc' := 100) (lv' := [(8, .long (Int64.ofInt (lf_wl ((lf_wl ((lf_wl x3).tdiv 10)) * r34)))), (7, .int (Int32.ofInt r34)), (6, .int (Int32.ofInt r31)), (0, .ref 68), (1, .int (Int32.ofInt x1)), (2, .int (Int32.ofInt x2)), (3, .long (Int64.ofInt (lf_wl x3))), (5, .int (Int32.ofInt x5))]) (st' := [.long (Int64.ofInt (lf_wl ((lf_wl ((lf_wl x3).tdiv 10)) * r34))), .long (Int64.ofInt (lf_wl (s37.2.1 w36 (((r38 * 13) + x2) + 1)))), .int (Int32.ofInt (((r38 * 13) + x2) + 1)), .ref w36]) rfl ?_
      refine lf_ladd 101 rfl rfl ?_
      refine lf_wtL ?_
      refine lf_last 102 156 rfl rfl (lf_wA hww36) (lf_wC hww36) rfl rfl o39 ?_
      refine lf_as (s37.1, lf_up s37.2.1 w36 (((r38 * 13) + x2) + 1) (lf_wl ((lf_wl (s37.2.1 w36 (((r38 * 13) + x2) + 1))) + (lf_wl ((lf_wl ((lf_wl x3).tdiv 10)) * r34)))), s37.2.2) rfl ?_
      refine lf_seg 2 (pc' := 105) (lv' := [(8, .long (Int64.ofInt (lf_wl ((lf_wl ((lf_wl x3).tdiv 10)) * r34)))), (7, .int (Int32.ofInt r34)), (6, .int (Int32.ofInt r31)), (0, .ref 68), (1, .int (Int32.ofInt x1)), (2, .int (Int32.ofInt x2)), (3, .long (Int64.ofInt (lf_wl x3))), (5, .int (Int32.ofInt x5))]) (st' := [.long (Int64.ofInt (lf_wl ((lf_wl ((lf_wl x3).tdiv 10)) * r34))), .long (Int64.ofInt (lf_wl x3))]) rfl ?_
      refine lf_lsub 106 rfl rfl ?_
      refine lf_wtL ?_
      refine lf_seg 1 (pc' := 107) (lv' := [(3, .long (Int64.ofInt (lf_wl ((lf_wl x3) - (lf_wl ((lf_wl ((lf_wl x3).tdiv 10)) * r34)))))), (8, .long (Int64.ofInt (lf_wl ((lf_wl ((lf_wl x3).tdiv 10)) * r34)))), (7, .int (Int32.ofInt r34)), (6, .int (Int32.ofInt r31)), (0, .ref 68), (1, .int (Int32.ofInt x1)), (2, .int (Int32.ofInt x2)), (5, .int (Int32.ofInt x5))]) (st' := []) rfl ?_
      refine lf_sub (l := [(0, .ref 68), (1, .int (Int32.ofInt x1)), (2, .int (Int32.ofInt x2)), (3, .long (Int64.ofInt (lf_wl ((lf_wl x3) - (lf_wl ((lf_wl ((lf_wl x3).tdiv 10)) * r34)))))), (5, .int (Int32.ofInt x5))]) (lf_sb1 rfl (lf_sb1 rfl (lf_sb1 rfl (lf_sb1 rfl (lf_sb1 rfl lf_sb0))))) ?_
      exact gm_122_p107 hX19 h
theorem gm_122_p19L {L : Nat} {xs : Nat → Int32} {d : Nat} {Q : lf_Z → Prop} {x1 : Int} {x2 : Int} {x3 : Int} {x5 : Int} {s : lf_Z} (h : fm_122_p19L Q x1 x2 x3 x5 s) : lf_E (px_ro L xs) (d + 5) 122 19 [(0, .ref 68), (1, .int (Int32.ofInt x1)), (2, .int (Int32.ofInt x2)), (3, .long (Int64.ofInt x3)), (5, .int (Int32.ofInt x5))] [] s (lf_qv Q) :=
  h (fun x3 x5 s => lf_E (px_ro L xs) (d + 5) 122 19 [(0, .ref 68), (1, .int (Int32.ofInt x1)), (2, .int (Int32.ofInt x2)), (3, .long (Int64.ofInt x3)), (5, .int (Int32.ofInt x5))] [] s (lf_qv Q)) (fun x3 x5 s hb => gm_122_p19 (fun _ _ _ h => h) hb)
def fm_122 (a1 : Int) (Q : lf_Z → Prop) (s : lf_Z) : Prop := lf_R a1 ∧ (∃ w22 : Nat, s.2.2 0 = some w22 ∧ (w22 = 72 ∨ w22 = 73) ∧ ((0 ≤ a1 ∧ a1 < 156) ∧ (fm_122_p19L Q a1 (a1.tdiv 13) (lf_wl ((lf_wl (s.2.1 w22 a1)) * 10000)) 0 s)))
set_option maxRecDepth 100000 in
theorem gm_122 {L : Nat} {xs : Nat → Int32} {d : Nat} {a1 : Int} {Q : lf_Z → Prop} {s : lf_Z} (h : fm_122 a1 Q s) : lf_M (px_ro L xs) (d + 5) 122 [.ref 68, .int (Int32.ofInt a1)] s (lf_qv Q) := by
  unfold fm_122 at h
  show lf_E (px_ro L xs) (d + 5) 122 0 [(0, .ref 68), (1, .int (Int32.ofInt a1))] [] s _
  refine lf_seg 1 (pc' := 1) (lv' := [(0, .ref 68), (1, .int (Int32.ofInt a1))]) (st' := [.int (Int32.ofInt a1)]) rfl ?_
  refine lf_bipush 3 13 rfl rfl (by decide) (by decide) ?_
  obtain ⟨o21, h⟩ := h
  refine lf_idiv 4 rfl rfl o21 ⟨by decide, by decide⟩ (by decide) ?_
  refine lf_seg 2 (pc' := 6) (lv' := [(2, .int (Int32.ofInt (a1.tdiv 13))), (0, .ref 68), (1, .int (Int32.ofInt a1))]) (st' := [.ref 68]) rfl ?_
  obtain ⟨w22, ew22, hww22, h⟩ := h
  refine lf_getR 9 (w := some w22) rfl rfl rfl rfl rfl rfl ew22 ?_
  refine lf_seg 1 (pc' := 10) (lv' := [(2, .int (Int32.ofInt (a1.tdiv 13))), (0, .ref 68), (1, .int (Int32.ofInt a1))]) (st' := [.int (Int32.ofInt a1), .ref w22]) rfl ?_
  obtain ⟨o23, h⟩ := h
  refine lf_lald 11 156 rfl rfl (lf_wA hww22) (lf_wC hww22) rfl rfl o23 ?_
  refine lf_wtL ?_
  refine lf_ldc2 14 10000 rfl rfl rfl (by decide) ?_
  refine lf_lmul 15 rfl rfl ?_
  refine lf_wtL ?_
  refine lf_seg 3 (pc' := 19) (lv' := [(5, .int (Int32.ofInt 0)), (3, .long (Int64.ofInt (lf_wl ((lf_wl (s.2.1 w22 a1)) * 10000)))), (2, .int (Int32.ofInt (a1.tdiv 13))), (0, .ref 68), (1, .int (Int32.ofInt a1))]) (st' := []) rfl ?_
  refine lf_sub (l := [(0, .ref 68), (1, .int (Int32.ofInt a1)), (2, .int (Int32.ofInt (a1.tdiv 13))), (3, .long (Int64.ofInt (lf_wl ((lf_wl (s.2.1 w22 a1)) * 10000)))), (5, .int (Int32.ofInt 0))]) (lf_sb1 rfl (lf_sb1 rfl (lf_sb1 rfl (lf_sb1 rfl (lf_sb1 rfl lf_sb0))))) ?_
  exact gm_122_p19L h
-- fm_121 Walk.moveOdds 68
def fm_121_p33 (X10 : Int → lf_Z → Prop) (Q : lf_Z → Prop) (x1 : Int) (s : lf_Z) : Prop := X10 (x1 + 1) s
set_option maxRecDepth 100000 in
theorem gm_121_p33 {L : Nat} {xs : Nat → Int32} {d : Nat} {X10 : Int → lf_Z → Prop} {Q : lf_Z → Prop} {x1 : Int} {s : lf_Z} (hX10 : ∀ x1 s, X10 x1 s → lf_E (px_ro L xs) (d + 6) 121 10 [(0, .ref 68), (1, .int (Int32.ofInt x1))] [] s (lf_qv Q)) (h : fm_121_p33 X10 Q x1 s) : lf_E (px_ro L xs) (d + 6) 121 33 [(0, .ref 68), (1, .int (Int32.ofInt x1))] [] s (lf_qv Q) := by
  unfold fm_121_p33 at h
  refine lf_iinc 36 rfl rfl rfl rfl ?_
  refine lf_seg 1 (pc' := 10) (lv' := [(1, .int (Int32.ofInt (x1 + 1))), (0, .ref 68)]) (st' := []) rfl ?_
  refine lf_sub (l := [(0, .ref 68), (1, .int (Int32.ofInt (x1 + 1)))]) (lf_sb1 rfl (lf_sb1 rfl lf_sb0)) ?_
  exact hX10 _ _ h
def fm_121_p10 (Q : lf_Z → Prop) (X10 : Int → lf_Z → Prop) (x1 : Int) (s : lf_Z) : Prop := lf_R x1 ∧ ((156 ≤ x1 → (∃ w24 : Nat, s.2.2 0 = some w24 ∧ (w24 = 72 ∨ w24 = 73) ∧ (∃ w25 : Nat, s.2.2 1 = some w25 ∧ (w25 = 72 ∨ w25 = 73) ∧ (Q (s.1, s.2.1, lf_ur (lf_ur s.2.2 0 (some w25)) 1 (some w24)))))) ∧ (¬ (156 ≤ x1) → (∃ w26 : Nat, s.2.2 0 = some w26 ∧ (w26 = 72 ∨ w26 = 73) ∧ ((0 ≤ x1 ∧ x1 < 156) ∧ ((lf_wl (s.2.1 w26 x1) ≤ 0 → (fm_121_p33 X10 Q x1 s)) ∧ (¬ (lf_wl (s.2.1 w26 x1) ≤ 0) → (fm_122 x1 (fun s28 => (fm_121_p33 X10 Q x1 s28)) s)))))))
def fm_121_p10L (Q : lf_Z → Prop) (x1 : Int) (s : lf_Z) : Prop := ∀ X10 : Int → lf_Z → Prop, (∀ (x1 : Int) (s : lf_Z), fm_121_p10 Q X10 x1 s → X10 x1 s) → X10 x1 s
set_option maxRecDepth 100000 in
theorem gm_121_p10 {L : Nat} {xs : Nat → Int32} {d : Nat} {Q : lf_Z → Prop} {x1 : Int} {s : lf_Z} {X10 : Int → lf_Z → Prop} (hX10 : ∀ x1 s, X10 x1 s → lf_E (px_ro L xs) (d + 6) 121 10 [(0, .ref 68), (1, .int (Int32.ofInt x1))] [] s (lf_qv Q)) (h : fm_121_p10 Q X10 x1 s) : lf_E (px_ro L xs) (d + 6) 121 10 [(0, .ref 68), (1, .int (Int32.ofInt x1))] [] s (lf_qv Q) := by
  unfold fm_121_p10 at h
  refine lf_seg 1 (pc' := 11) (lv' := [(0, .ref 68), (1, .int (Int32.ofInt x1))]) (st' := [.int (Int32.ofInt x1)]) rfl ?_
  refine lf_sipush 14 156 rfl rfl (by decide) (by decide) ?_
  obtain ⟨o23, h⟩ := h
  refine lf_icmp_ge 39 17 rfl rfl rfl o23 ⟨by decide, by decide⟩ (fun c => ?_) (fun c => ?_)
  · have h := h.1 c
    refine lf_seg 1 (pc' := 40) (lv' := [(0, .ref 68), (1, .int (Int32.ofInt x1))]) (st' := [.ref 68]) rfl ?_
    obtain ⟨w24, ew24, hww24, h⟩ := h
    refine lf_getR 43 (w := some w24) rfl rfl rfl rfl rfl rfl ew24 ?_
    refine lf_seg 3 (pc' := 46) (lv' := [(1, .ref w24), (0, .ref 68)]) (st' := [.ref 68, .ref 68]) rfl ?_
    obtain ⟨w25, ew25, hww25, h⟩ := h
    refine lf_getR 49 (w := some w25) rfl rfl rfl rfl rfl rfl ew25 ?_
    refine lf_putR 52 0 (some w25) (some w25) rfl rfl rfl rfl rfl rfl rfl rfl (lf_urP (by decide)) ?_
    refine lf_as (s.1, s.2.1, lf_ur s.2.2 0 (some w25)) rfl ?_
    refine lf_seg 2 (pc' := 54) (lv' := [(1, .ref w24), (0, .ref 68)]) (st' := [.ref w24, .ref 68]) rfl ?_
    refine lf_putR 57 1 (some w24) (some w24) rfl rfl rfl rfl rfl rfl rfl rfl (lf_urP (by decide)) ?_
    refine lf_as (s.1, s.2.1, lf_ur (lf_ur s.2.2 0 (some w25)) 1 (some w24)) rfl ?_
    exact lf_retV rfl rfl h
  · have h := h.2 c
    refine lf_seg 1 (pc' := 18) (lv' := [(0, .ref 68), (1, .int (Int32.ofInt x1))]) (st' := [.ref 68]) rfl ?_
    obtain ⟨w26, ew26, hww26, h⟩ := h
    refine lf_getR 21 (w := some w26) rfl rfl rfl rfl rfl rfl ew26 ?_
    refine lf_seg 1 (pc' := 22) (lv' := [(0, .ref 68), (1, .int (Int32.ofInt x1))]) (st' := [.int (Int32.ofInt x1), .ref w26]) rfl ?_
    obtain ⟨o27, h⟩ := h
    refine lf_lald 23 156 rfl rfl (lf_wA hww26) (lf_wC hww26) rfl rfl o27 ?_
    refine lf_wtL ?_
    refine lf_lconst 24 0 rfl rfl (by decide) ?_
    refine lf_lif_le 33 28 rfl rfl rfl rfl lf_RLwl ⟨by decide, by decide⟩ (fun c => ?_) (fun c => ?_)
    · have h := h.1 c
      refine lf_sub (l := [(0, .ref 68), (1, .int (Int32.ofInt x1))]) (lf_sb1 rfl (lf_sb1 rfl lf_sb0)) ?_
      exact gm_121_p33 hX10 h
    · have h := h.2 c
      refine lf_seg 2 (pc' := 30) (lv' := [(0, .ref 68), (1, .int (Int32.ofInt x1))]) (st' := [.int (Int32.ofInt x1), .ref 68]) rfl ?_
      refine lf_callV 33 rfl rfl rfl rfl (gm_122 h) (fun s28 h => ?_)
      refine lf_sub (l := [(0, .ref 68), (1, .int (Int32.ofInt x1))]) (lf_sb1 rfl (lf_sb1 rfl lf_sb0)) ?_
      exact gm_121_p33 hX10 h
theorem gm_121_p10L {L : Nat} {xs : Nat → Int32} {d : Nat} {Q : lf_Z → Prop} {x1 : Int} {s : lf_Z} (h : fm_121_p10L Q x1 s) : lf_E (px_ro L xs) (d + 6) 121 10 [(0, .ref 68), (1, .int (Int32.ofInt x1))] [] s (lf_qv Q) :=
  h (fun x1 s => lf_E (px_ro L xs) (d + 6) 121 10 [(0, .ref 68), (1, .int (Int32.ofInt x1))] [] s (lf_qv Q)) (fun x1 s hb => gm_121_p10 (fun _ _ h => h) hb)
def fm_121 (Q : lf_Z → Prop) (s : lf_Z) : Prop := ∃ w21 : Nat, s.2.2 1 = some w21 ∧ (w21 = 72 ∨ w21 = 73) ∧ (fm_119 w21 0 (fun s22 => (fm_121_p10L Q 0 s22)) s)
set_option maxRecDepth 100000 in
theorem gm_121 {L : Nat} {xs : Nat → Int32} {d : Nat} {Q : lf_Z → Prop} {s : lf_Z} (h : fm_121 Q s) : lf_M (px_ro L xs) (d + 6) 121 [.ref 68] s (lf_qv Q) := by
  unfold fm_121 at h
  show lf_E (px_ro L xs) (d + 6) 121 0 [(0, .ref 68)] [] s _
  refine lf_seg 1 (pc' := 1) (lv' := [(0, .ref 68)]) (st' := [.ref 68]) rfl ?_
  obtain ⟨w21, ew21, hww21, h⟩ := h
  refine lf_getR 4 (w := some w21) rfl rfl rfl rfl rfl rfl ew21 ?_
  refine lf_lconst 5 0 rfl rfl (by decide) ?_
  refine lf_callV 8 rfl rfl rfl rfl (gm_119 hww21 h) (fun s22 h => ?_)
  refine lf_seg 2 (pc' := 10) (lv' := [(1, .int (Int32.ofInt 0)), (0, .ref 68)]) (st' := []) rfl ?_
  refine lf_sub (l := [(0, .ref 68), (1, .int (Int32.ofInt 0))]) (lf_sb1 rfl (lf_sb1 rfl lf_sb0)) ?_
  exact gm_121_p10L h
-- fm_117 Walk.oddsOf 68 i i i
def fm_117_p50 (Q : Int → lf_Z → Prop) (x3 : Int) (X50 : Int → Int → lf_Z → Prop) (x4 : Int) (x6 : Int) (s : lf_Z) : Prop := lf_R x6 ∧ ((13 ≤ x6 → (Q (lf_wl x4) s)) ∧ (¬ (13 ≤ x6) → (∃ w31 : Nat, s.2.2 0 = some w31 ∧ (w31 = 72 ∨ w31 = 73) ∧ ((0 ≤ (x3 * 13) + x6 ∧ (x3 * 13) + x6 < 156) ∧ (X50 (lf_wl ((lf_wl x4) + (lf_wl (s.2.1 w31 ((x3 * 13) + x6))))) (x6 + 1) s)))))
def fm_117_p50L (Q : Int → lf_Z → Prop) (x3 : Int) (x4 : Int) (x6 : Int) (s : lf_Z) : Prop := ∀ X50 : Int → Int → lf_Z → Prop, (∀ (x4 : Int) (x6 : Int) (s : lf_Z), fm_117_p50 Q x3 X50 x4 x6 s → X50 x4 x6 s) → X50 x4 x6 s
set_option maxRecDepth 100000 in
theorem gm_117_p50 {L : Nat} {xs : Nat → Int32} {d : Nat} {Q : Int → lf_Z → Prop} {x3 : Int} {x4 : Int} {x6 : Int} {s : lf_Z} {X50 : Int → Int → lf_Z → Prop} (hX50 : ∀ x4 x6 s, X50 x4 x6 s → lf_E (px_ro L xs) (d + 7) 117 50 [(0, .ref 68), (3, .int (Int32.ofInt x3)), (4, .long (Int64.ofInt x4)), (6, .int (Int32.ofInt x6))] [] s (lf_ql Q)) (h : fm_117_p50 Q x3 X50 x4 x6 s) : lf_E (px_ro L xs) (d + 7) 117 50 [(0, .ref 68), (3, .int (Int32.ofInt x3)), (4, .long (Int64.ofInt x4)), (6, .int (Int32.ofInt x6))] [] s (lf_ql Q) := by
  unfold fm_117_p50 at h
  refine lf_eqs (lv' := [(0, .ref 68), (3, .int (Int32.ofInt x3)), (4, .long (Int64.ofInt (lf_wl x4))), (6, .int (Int32.ofInt x6))]) (st' := []) (by simp only [lf_wlE]) rfl ?_
  refine lf_seg 1 (pc' := 52) (lv' := [(0, .ref 68), (3, .int (Int32.ofInt x3)), (4, .long (Int64.ofInt (lf_wl x4))), (6, .int (Int32.ofInt x6))]) (st' := [.int (Int32.ofInt x6)]) rfl ?_
  refine lf_bipush 54 13 rfl rfl (by decide) (by decide) ?_
  obtain ⟨o30, h⟩ := h
  refine lf_icmp_ge 80 57 rfl rfl rfl o30 ⟨by decide, by decide⟩ (fun c => ?_) (fun c => ?_)
  · have h := h.1 c
    refine lf_seg 1 (pc' := 82) (lv' := [(0, .ref 68), (3, .int (Int32.ofInt x3)), (4, .long (Int64.ofInt (lf_wl x4))), (6, .int (Int32.ofInt x6))]) (st' := [.long (Int64.ofInt (lf_wl x4))]) rfl ?_
    exact lf_retL rfl rfl h
  · have h := h.2 c
    refine lf_seg 2 (pc' := 60) (lv' := [(0, .ref 68), (3, .int (Int32.ofInt x3)), (4, .long (Int64.ofInt (lf_wl x4))), (6, .int (Int32.ofInt x6))]) (st' := [.ref 68, .long (Int64.ofInt (lf_wl x4))]) rfl ?_
    obtain ⟨w31, ew31, hww31, h⟩ := h
    refine lf_getR 63 (w := some w31) rfl rfl rfl rfl rfl rfl ew31 ?_
    refine lf_seg 1 (pc' := 64) (lv' := [(0, .ref 68), (3, .int (Int32.ofInt x3)), (4, .long (Int64.ofInt (lf_wl x4))), (6, .int (Int32.ofInt x6))]) (st' := [.int (Int32.ofInt x3), .ref w31, .long (Int64.ofInt (lf_wl x4))]) rfl ?_
    refine lf_bipush 66 13 rfl rfl (by decide) (by decide) ?_
    refine lf_imul 67 rfl rfl ?_
    refine lf_seg 1 (pc' := 69) (lv' := [(0, .ref 68), (3, .int (Int32.ofInt x3)), (4, .long (Int64.ofInt (lf_wl x4))), (6, .int (Int32.ofInt x6))]) (st' := [.int (Int32.ofInt x6), .int (Int32.ofInt (x3 * 13)), .ref w31, .long (Int64.ofInt (lf_wl x4))]) rfl ?_
    refine lf_iadd 70 rfl rfl ?_
    obtain ⟨o32, h⟩ := h
    refine lf_lald 71 156 rfl rfl (lf_wA hww31) (lf_wC hww31) rfl rfl o32 ?_
    refine lf_wtL ?_
    refine lf_ladd 72 rfl rfl ?_
    refine lf_wtL ?_
    refine lf_seg 1 (pc' := 74) (lv' := [(4, .long (Int64.ofInt (lf_wl ((lf_wl x4) + (lf_wl (s.2.1 w31 ((x3 * 13) + x6))))))), (0, .ref 68), (3, .int (Int32.ofInt x3)), (6, .int (Int32.ofInt x6))]) (st' := []) rfl ?_
    refine lf_iinc 77 rfl rfl rfl rfl ?_
    refine lf_seg 1 (pc' := 50) (lv' := [(6, .int (Int32.ofInt (x6 + 1))), (4, .long (Int64.ofInt (lf_wl ((lf_wl x4) + (lf_wl (s.2.1 w31 ((x3 * 13) + x6))))))), (0, .ref 68), (3, .int (Int32.ofInt x3))]) (st' := []) rfl ?_
    refine lf_sub (l := [(0, .ref 68), (3, .int (Int32.ofInt x3)), (4, .long (Int64.ofInt (lf_wl ((lf_wl x4) + (lf_wl (s.2.1 w31 ((x3 * 13) + x6))))))), (6, .int (Int32.ofInt (x6 + 1)))]) (lf_sb1 rfl (lf_sb1 rfl (lf_sb1 rfl (lf_sb1 rfl lf_sb0)))) ?_
    exact hX50 _ _ _ h
theorem gm_117_p50L {L : Nat} {xs : Nat → Int32} {d : Nat} {Q : Int → lf_Z → Prop} {x3 : Int} {x4 : Int} {x6 : Int} {s : lf_Z} (h : fm_117_p50L Q x3 x4 x6 s) : lf_E (px_ro L xs) (d + 7) 117 50 [(0, .ref 68), (3, .int (Int32.ofInt x3)), (4, .long (Int64.ofInt x4)), (6, .int (Int32.ofInt x6))] [] s (lf_ql Q) :=
  h (fun x4 x6 s => lf_E (px_ro L xs) (d + 7) 117 50 [(0, .ref 68), (3, .int (Int32.ofInt x3)), (4, .long (Int64.ofInt x4)), (6, .int (Int32.ofInt x6))] [] s (lf_ql Q)) (fun x4 x6 s hb => gm_117_p50 (fun _ _ _ h => h) hb)
def fm_117_p28 (Q : Int → lf_Z → Prop) (x2 : Int) (x3 : Int) (X28 : Int → lf_Z → Prop) (x4 : Int) (s : lf_Z) : Prop := lf_R x4 ∧ (lf_R x2 ∧ ((x2 ≤ x4 → (fm_117_p50L Q x3 0 0 s)) ∧ (¬ (x2 ≤ x4) → (fm_121 (fun s33 => (X28 (x4 + 1) s33)) s))))
def fm_117_p28L (Q : Int → lf_Z → Prop) (x2 : Int) (x3 : Int) (x4 : Int) (s : lf_Z) : Prop := ∀ X28 : Int → lf_Z → Prop, (∀ (x4 : Int) (s : lf_Z), fm_117_p28 Q x2 x3 X28 x4 s → X28 x4 s) → X28 x4 s
set_option maxRecDepth 100000 in
theorem gm_117_p28 {L : Nat} {xs : Nat → Int32} {d : Nat} {Q : Int → lf_Z → Prop} {x2 : Int} {x3 : Int} {x4 : Int} {s : lf_Z} {X28 : Int → lf_Z → Prop} (hX28 : ∀ x4 s, X28 x4 s → lf_E (px_ro L xs) (d + 7) 117 28 [(0, .ref 68), (2, .int (Int32.ofInt x2)), (3, .int (Int32.ofInt x3)), (4, .int (Int32.ofInt x4))] [] s (lf_ql Q)) (h : fm_117_p28 Q x2 x3 X28 x4 s) : lf_E (px_ro L xs) (d + 7) 117 28 [(0, .ref 68), (2, .int (Int32.ofInt x2)), (3, .int (Int32.ofInt x3)), (4, .int (Int32.ofInt x4))] [] s (lf_ql Q) := by
  unfold fm_117_p28 at h
  refine lf_seg 2 (pc' := 31) (lv' := [(0, .ref 68), (2, .int (Int32.ofInt x2)), (3, .int (Int32.ofInt x3)), (4, .int (Int32.ofInt x4))]) (st' := [.int (Int32.ofInt x2), .int (Int32.ofInt x4)]) rfl ?_
  obtain ⟨o28, h⟩ := h
  obtain ⟨o29, h⟩ := h
  refine lf_icmp_ge 44 34 rfl rfl rfl o28 o29 (fun c => ?_) (fun c => ?_)
  · have h := h.1 c
    refine lf_lconst 45 0 rfl rfl (by decide) ?_
    refine lf_seg 3 (pc' := 50) (lv' := [(6, .int (Int32.ofInt 0)), (4, .long (Int64.ofInt 0)), (0, .ref 68), (2, .int (Int32.ofInt x2)), (3, .int (Int32.ofInt x3))]) (st' := []) rfl ?_
    refine lf_sub (l := [(0, .ref 68), (3, .int (Int32.ofInt x3)), (4, .long (Int64.ofInt 0)), (6, .int (Int32.ofInt 0))]) (lf_sb1 rfl (lf_sb1 rfl (lf_sb1 rfl (lf_sb1 rfl lf_sb0)))) ?_
    exact gm_117_p50L h
  · have h := h.2 c
    refine lf_seg 1 (pc' := 35) (lv' := [(0, .ref 68), (2, .int (Int32.ofInt x2)), (3, .int (Int32.ofInt x3)), (4, .int (Int32.ofInt x4))]) (st' := [.ref 68]) rfl ?_
    refine lf_callV 38 rfl rfl rfl rfl (gm_121 h) (fun s33 h => ?_)
    refine lf_iinc 41 rfl rfl rfl rfl ?_
    refine lf_seg 1 (pc' := 28) (lv' := [(4, .int (Int32.ofInt (x4 + 1))), (0, .ref 68), (2, .int (Int32.ofInt x2)), (3, .int (Int32.ofInt x3))]) (st' := []) rfl ?_
    refine lf_sub (l := [(0, .ref 68), (2, .int (Int32.ofInt x2)), (3, .int (Int32.ofInt x3)), (4, .int (Int32.ofInt (x4 + 1)))]) (lf_sb1 rfl (lf_sb1 rfl (lf_sb1 rfl (lf_sb1 rfl lf_sb0)))) ?_
    exact hX28 _ _ h
theorem gm_117_p28L {L : Nat} {xs : Nat → Int32} {d : Nat} {Q : Int → lf_Z → Prop} {x2 : Int} {x3 : Int} {x4 : Int} {s : lf_Z} (h : fm_117_p28L Q x2 x3 x4 s) : lf_E (px_ro L xs) (d + 7) 117 28 [(0, .ref 68), (2, .int (Int32.ofInt x2)), (3, .int (Int32.ofInt x3)), (4, .int (Int32.ofInt x4))] [] s (lf_ql Q) :=
  h (fun x4 s => lf_E (px_ro L xs) (d + 7) 117 28 [(0, .ref 68), (2, .int (Int32.ofInt x2)), (3, .int (Int32.ofInt x3)), (4, .int (Int32.ofInt x4))] [] s (lf_ql Q)) (fun x4 s hb => gm_117_p28 (fun _ _ h => h) hb)
def fm_117 (a1 : Int) (a2 : Int) (a3 : Int) (Q : Int → lf_Z → Prop) (s : lf_Z) : Prop := fm_118 a1 0 (fun s21 => (∃ w22 : Nat, s21.2.2 0 = some w22 ∧ (w22 = 72 ∨ w22 = 73) ∧ (fm_119 w22 0 (fun s23 => (∃ w24 : Nat, s23.2.2 0 = some w24 ∧ (w24 = 72 ∨ w24 = 73) ∧ (fm_120 a1 (fun r26 s25 => ((0 ≤ r26 ∧ r26 < 156) ∧ (fm_117_p28L Q a2 a3 0 (s25.1, lf_up s25.2.1 w24 r26 1, s25.2.2)))) s23))) s21))) s
set_option maxRecDepth 100000 in
theorem gm_117 {L : Nat} {xs : Nat → Int32} {d : Nat} {a1 : Int} {a2 : Int} {a3 : Int} {Q : Int → lf_Z → Prop} {s : lf_Z} (h : fm_117 a1 a2 a3 Q s) : lf_M (px_ro L xs) (d + 7) 117 [.ref 68, .int (Int32.ofInt a1), .int (Int32.ofInt a2), .int (Int32.ofInt a3)] s (lf_ql Q) := by
  unfold fm_117 at h
  show lf_E (px_ro L xs) (d + 7) 117 0 [(0, .ref 68), (1, .int (Int32.ofInt a1)), (2, .int (Int32.ofInt a2)), (3, .int (Int32.ofInt a3))] [] s _
  refine lf_seg 3 (pc' := 3) (lv' := [(0, .ref 68), (1, .int (Int32.ofInt a1)), (2, .int (Int32.ofInt a2)), (3, .int (Int32.ofInt a3))]) (st' := [.int (Int32.ofInt 0), .int (Int32.ofInt a1), .ref 68]) rfl ?_
  refine lf_callV 6 rfl rfl rfl rfl (gm_118 h) (fun s21 h => ?_)
  refine lf_seg 1 (pc' := 7) (lv' := [(0, .ref 68), (1, .int (Int32.ofInt a1)), (2, .int (Int32.ofInt a2)), (3, .int (Int32.ofInt a3))]) (st' := [.ref 68]) rfl ?_
  obtain ⟨w22, ew22, hww22, h⟩ := h
  refine lf_getR 10 (w := some w22) rfl rfl rfl rfl rfl rfl ew22 ?_
  refine lf_lconst 11 0 rfl rfl (by decide) ?_
  refine lf_callV 14 rfl rfl rfl rfl (gm_119 hww22 h) (fun s23 h => ?_)
  refine lf_seg 1 (pc' := 15) (lv' := [(0, .ref 68), (1, .int (Int32.ofInt a1)), (2, .int (Int32.ofInt a2)), (3, .int (Int32.ofInt a3))]) (st' := [.ref 68]) rfl ?_
  obtain ⟨w24, ew24, hww24, h⟩ := h
  refine lf_getR 18 (w := some w24) rfl rfl rfl rfl rfl rfl ew24 ?_
  refine lf_seg 2 (pc' := 20) (lv' := [(0, .ref 68), (1, .int (Int32.ofInt a1)), (2, .int (Int32.ofInt a2)), (3, .int (Int32.ofInt a3))]) (st' := [.int (Int32.ofInt a1), .ref 68, .ref w24]) rfl ?_
  refine lf_callI 23 rfl rfl rfl rfl (gm_120 h) (fun r26 s25 h => ?_)
  refine lf_lconst 24 1 rfl rfl (by decide) ?_
  obtain ⟨o27, h⟩ := h
  refine lf_last 25 156 rfl rfl (lf_wA hww24) (lf_wC hww24) rfl rfl o27 ?_
  refine lf_as (s25.1, lf_up s25.2.1 w24 r26 1, s25.2.2) rfl ?_
  refine lf_seg 2 (pc' := 28) (lv' := [(4, .int (Int32.ofInt 0)), (0, .ref 68), (1, .int (Int32.ofInt a1)), (2, .int (Int32.ofInt a2)), (3, .int (Int32.ofInt a3))]) (st' := []) rfl ?_
  refine lf_sub (l := [(0, .ref 68), (2, .int (Int32.ofInt a2)), (3, .int (Int32.ofInt a3)), (4, .int (Int32.ofInt 0))]) (lf_sb1 rfl (lf_sb1 rfl (lf_sb1 rfl (lf_sb1 rfl lf_sb0)))) ?_
  exact gm_117_p28L h
-- fm_124 Walk.oddsOfAll 68 i
def fm_124_p5 (Q : Int → lf_Z → Prop) (x1 : Int) (X5 : Int → Int → lf_Z → Prop) (x2 : Int) (x4 : Int) (s : lf_Z) : Prop := lf_R x4 ∧ (lf_R x1 ∧ ((x1 ≤ x4 → (Q (lf_wl x2) s)) ∧ (¬ (x1 ≤ x4) → (X5 (lf_wl ((lf_wl x2) * 10000)) (x4 + 1) s))))
def fm_124_p5L (Q : Int → lf_Z → Prop) (x1 : Int) (x2 : Int) (x4 : Int) (s : lf_Z) : Prop := ∀ X5 : Int → Int → lf_Z → Prop, (∀ (x2 : Int) (x4 : Int) (s : lf_Z), fm_124_p5 Q x1 X5 x2 x4 s → X5 x2 x4 s) → X5 x2 x4 s
set_option maxRecDepth 100000 in
theorem gm_124_p5 {L : Nat} {xs : Nat → Int32} {d : Nat} {Q : Int → lf_Z → Prop} {x1 : Int} {x2 : Int} {x4 : Int} {s : lf_Z} {X5 : Int → Int → lf_Z → Prop} (hX5 : ∀ x2 x4 s, X5 x2 x4 s → lf_E (px_ro L xs) (d + 1) 124 5 [(1, .int (Int32.ofInt x1)), (2, .long (Int64.ofInt x2)), (4, .int (Int32.ofInt x4))] [] s (lf_ql Q)) (h : fm_124_p5 Q x1 X5 x2 x4 s) : lf_E (px_ro L xs) (d + 1) 124 5 [(1, .int (Int32.ofInt x1)), (2, .long (Int64.ofInt x2)), (4, .int (Int32.ofInt x4))] [] s (lf_ql Q) := by
  unfold fm_124_p5 at h
  refine lf_eqs (lv' := [(1, .int (Int32.ofInt x1)), (2, .long (Int64.ofInt (lf_wl x2))), (4, .int (Int32.ofInt x4))]) (st' := []) (by simp only [lf_wlE]) rfl ?_
  refine lf_seg 2 (pc' := 8) (lv' := [(1, .int (Int32.ofInt x1)), (2, .long (Int64.ofInt (lf_wl x2))), (4, .int (Int32.ofInt x4))]) (st' := [.int (Int32.ofInt x1), .int (Int32.ofInt x4)]) rfl ?_
  obtain ⟨o21, h⟩ := h
  obtain ⟨o22, h⟩ := h
  refine lf_icmp_ge 23 11 rfl rfl rfl o21 o22 (fun c => ?_) (fun c => ?_)
  · have h := h.1 c
    refine lf_seg 1 (pc' := 24) (lv' := [(1, .int (Int32.ofInt x1)), (2, .long (Int64.ofInt (lf_wl x2))), (4, .int (Int32.ofInt x4))]) (st' := [.long (Int64.ofInt (lf_wl x2))]) rfl ?_
    exact lf_retL rfl rfl h
  · have h := h.2 c
    refine lf_seg 1 (pc' := 12) (lv' := [(1, .int (Int32.ofInt x1)), (2, .long (Int64.ofInt (lf_wl x2))), (4, .int (Int32.ofInt x4))]) (st' := [.long (Int64.ofInt (lf_wl x2))]) rfl ?_
    refine lf_ldc2 15 10000 rfl rfl rfl (by decide) ?_
    refine lf_lmul 16 rfl rfl ?_
    refine lf_wtL ?_
    refine lf_seg 1 (pc' := 17) (lv' := [(2, .long (Int64.ofInt (lf_wl ((lf_wl x2) * 10000)))), (1, .int (Int32.ofInt x1)), (4, .int (Int32.ofInt x4))]) (st' := []) rfl ?_
    refine lf_iinc 20 rfl rfl rfl rfl ?_
    refine lf_seg 1 (pc' := 5) (lv' := [(4, .int (Int32.ofInt (x4 + 1))), (2, .long (Int64.ofInt (lf_wl ((lf_wl x2) * 10000)))), (1, .int (Int32.ofInt x1))]) (st' := []) rfl ?_
    refine lf_sub (l := [(1, .int (Int32.ofInt x1)), (2, .long (Int64.ofInt (lf_wl ((lf_wl x2) * 10000)))), (4, .int (Int32.ofInt (x4 + 1)))]) (lf_sb1 rfl (lf_sb1 rfl (lf_sb1 rfl lf_sb0))) ?_
    exact hX5 _ _ _ h
theorem gm_124_p5L {L : Nat} {xs : Nat → Int32} {d : Nat} {Q : Int → lf_Z → Prop} {x1 : Int} {x2 : Int} {x4 : Int} {s : lf_Z} (h : fm_124_p5L Q x1 x2 x4 s) : lf_E (px_ro L xs) (d + 1) 124 5 [(1, .int (Int32.ofInt x1)), (2, .long (Int64.ofInt x2)), (4, .int (Int32.ofInt x4))] [] s (lf_ql Q) :=
  h (fun x2 x4 s => lf_E (px_ro L xs) (d + 1) 124 5 [(1, .int (Int32.ofInt x1)), (2, .long (Int64.ofInt x2)), (4, .int (Int32.ofInt x4))] [] s (lf_ql Q)) (fun x2 x4 s hb => gm_124_p5 (fun _ _ _ h => h) hb)
def fm_124 (a1 : Int) (Q : Int → lf_Z → Prop) (s : lf_Z) : Prop := fm_124_p5L Q a1 1 0 s
set_option maxRecDepth 100000 in
theorem gm_124 {L : Nat} {xs : Nat → Int32} {d : Nat} {a1 : Int} {Q : Int → lf_Z → Prop} {s : lf_Z} (h : fm_124 a1 Q s) : lf_M (px_ro L xs) (d + 1) 124 [.ref 68, .int (Int32.ofInt a1)] s (lf_ql Q) := by
  unfold fm_124 at h
  show lf_E (px_ro L xs) (d + 1) 124 0 [(0, .ref 68), (1, .int (Int32.ofInt a1))] [] s _
  refine lf_lconst 1 1 rfl rfl (by decide) ?_
  refine lf_seg 3 (pc' := 5) (lv' := [(4, .int (Int32.ofInt 0)), (2, .long (Int64.ofInt 1)), (0, .ref 68), (1, .int (Int32.ofInt a1))]) (st' := []) rfl ?_
  refine lf_sub (l := [(1, .int (Int32.ofInt a1)), (2, .long (Int64.ofInt 1)), (4, .int (Int32.ofInt 0))]) (lf_sb1 rfl (lf_sb1 rfl (lf_sb1 rfl lf_sb0))) ?_
  exact gm_124_p5L h
-- fm_125 ElevenBullocks.inLowestTerms l l i
def fm_125_p55 (Q : Int → lf_Z → Prop) (x5 : Int) (y0 : Int) (s : lf_Z) : Prop := (lf_wl x5 ≠ 0 → ((lf_wl x5) ≠ 0 ∧ (Q (lf_wl ((lf_wl y0).tdiv (lf_wl x5))) s))) ∧ (¬ (lf_wl x5 ≠ 0) → (Q (lf_wl y0) s))
set_option maxRecDepth 100000 in
theorem gm_125_p55 {L : Nat} {xs : Nat → Int32} {d : Nat} {Q : Int → lf_Z → Prop} {x5 : Int} {y0 : Int} {s : lf_Z} (h : fm_125_p55 Q x5 y0 s) : lf_E (px_ro L xs) (d + 1) 125 55 [(5, .long (Int64.ofInt x5))] [.long (Int64.ofInt y0)] s (lf_ql Q) := by
  unfold fm_125_p55 at h
  refine lf_eqs (lv' := [(5, .long (Int64.ofInt (lf_wl x5)))]) (st' := [.long (Int64.ofInt (lf_wl y0))]) (by simp only [lf_wlE]) (by simp only [lf_wlE]) ?_
  refine lf_seg 2 (pc' := 59) (lv' := [(9, .long (Int64.ofInt (lf_wl y0))), (5, .long (Int64.ofInt (lf_wl x5)))]) (st' := [.long (Int64.ofInt (lf_wl x5))]) rfl ?_
  refine lf_lconst 60 0 rfl rfl (by decide) ?_
  refine lf_lif_ne 69 64 rfl rfl rfl rfl lf_RLwl ⟨by decide, by decide⟩ (fun c => ?_) (fun c => ?_)
  · have h := h.1 c
    refine lf_seg 2 (pc' := 73) (lv' := [(9, .long (Int64.ofInt (lf_wl y0))), (5, .long (Int64.ofInt (lf_wl x5)))]) (st' := [.long (Int64.ofInt (lf_wl x5)), .long (Int64.ofInt (lf_wl y0))]) rfl ?_
    obtain ⟨o23, h⟩ := h
    refine lf_ldiv 74 rfl rfl lf_RLwl lf_RLwl o23 ?_
    refine lf_wtL ?_
    exact lf_retL rfl rfl h
  · have h := h.2 c
    refine lf_seg 2 (pc' := 74) (lv' := [(9, .long (Int64.ofInt (lf_wl y0))), (5, .long (Int64.ofInt (lf_wl x5)))]) (st' := [.long (Int64.ofInt (lf_wl y0))]) rfl ?_
    exact lf_retL rfl rfl h
def fm_125_p45 (Q : Int → lf_Z → Prop) (x0 : Int) (x2 : Int) (x4 : Int) (x5 : Int) (s : lf_Z) : Prop := lf_R x4 ∧ ((x4 = 0 → (fm_125_p55 Q x5 x0 s)) ∧ (¬ (x4 = 0) → (fm_125_p55 Q x5 x2 s)))
set_option maxRecDepth 100000 in
theorem gm_125_p45 {L : Nat} {xs : Nat → Int32} {d : Nat} {Q : Int → lf_Z → Prop} {x0 : Int} {x2 : Int} {x4 : Int} {x5 : Int} {s : lf_Z} (h : fm_125_p45 Q x0 x2 x4 x5 s) : lf_E (px_ro L xs) (d + 1) 125 45 [(0, .long (Int64.ofInt x0)), (2, .long (Int64.ofInt x2)), (4, .int (Int32.ofInt x4)), (5, .long (Int64.ofInt x5))] [] s (lf_ql Q) := by
  unfold fm_125_p45 at h
  refine lf_eqs (lv' := [(0, .long (Int64.ofInt (lf_wl x0))), (2, .long (Int64.ofInt (lf_wl x2))), (4, .int (Int32.ofInt x4)), (5, .long (Int64.ofInt (lf_wl x5)))]) (st' := []) (by simp only [lf_wlE]) rfl ?_
  refine lf_seg 1 (pc' := 47) (lv' := [(0, .long (Int64.ofInt (lf_wl x0))), (2, .long (Int64.ofInt (lf_wl x2))), (4, .int (Int32.ofInt x4)), (5, .long (Int64.ofInt (lf_wl x5)))]) (st' := [.int (Int32.ofInt x4)]) rfl ?_
  obtain ⟨o22, h⟩ := h
  refine lf_if_eq 54 50 rfl rfl rfl o22 (fun c => ?_) (fun c => ?_)
  · have h := h.1 c
    refine lf_seg 1 (pc' := 55) (lv' := [(0, .long (Int64.ofInt (lf_wl x0))), (2, .long (Int64.ofInt (lf_wl x2))), (4, .int (Int32.ofInt x4)), (5, .long (Int64.ofInt (lf_wl x5)))]) (st' := [.long (Int64.ofInt (lf_wl x0))]) rfl ?_
    refine lf_eqs (lv' := [(0, .long (Int64.ofInt x0)), (2, .long (Int64.ofInt x2)), (4, .int (Int32.ofInt x4)), (5, .long (Int64.ofInt x5))]) (st' := [.long (Int64.ofInt x0)]) (by simp only [lf_wlE]) (by simp only [lf_wlE]) ?_
    refine lf_sub (l := [(5, .long (Int64.ofInt x5))]) (lf_sb1 rfl lf_sb0) ?_
    exact gm_125_p55 h
  · have h := h.2 c
    refine lf_seg 2 (pc' := 55) (lv' := [(0, .long (Int64.ofInt (lf_wl x0))), (2, .long (Int64.ofInt (lf_wl x2))), (4, .int (Int32.ofInt x4)), (5, .long (Int64.ofInt (lf_wl x5)))]) (st' := [.long (Int64.ofInt (lf_wl x2))]) rfl ?_
    refine lf_eqs (lv' := [(0, .long (Int64.ofInt x0)), (2, .long (Int64.ofInt x2)), (4, .int (Int32.ofInt x4)), (5, .long (Int64.ofInt x5))]) (st' := [.long (Int64.ofInt x2)]) (by simp only [lf_wlE]) (by simp only [lf_wlE]) ?_
    refine lf_sub (l := [(5, .long (Int64.ofInt x5))]) (lf_sb1 rfl lf_sb0) ?_
    exact gm_125_p55 h
def fm_125_p9 (Q : Int → lf_Z → Prop) (x0 : Int) (x2 : Int) (x4 : Int) (X9 : Int → Int → Int → lf_Z → Prop) (x5 : Int) (x7 : Int) (x9 : Int) (s : lf_Z) : Prop := lf_R x9 ∧ ((1000 ≤ x9 → (fm_125_p45 Q x0 x2 x4 x5 s)) ∧ (¬ (1000 ≤ x9) → ((lf_wl x7 = 0 → (fm_125_p45 Q x0 x2 x4 x5 s)) ∧ (¬ (lf_wl x7 = 0) → ((lf_wl x7) ≠ 0 ∧ (X9 x7 (lf_wl ((lf_wl x5).tmod (lf_wl x7))) (x9 + 1) s))))))
def fm_125_p9L (Q : Int → lf_Z → Prop) (x0 : Int) (x2 : Int) (x4 : Int) (x5 : Int) (x7 : Int) (x9 : Int) (s : lf_Z) : Prop := ∀ X9 : Int → Int → Int → lf_Z → Prop, (∀ (x5 : Int) (x7 : Int) (x9 : Int) (s : lf_Z), fm_125_p9 Q x0 x2 x4 X9 x5 x7 x9 s → X9 x5 x7 x9 s) → X9 x5 x7 x9 s
set_option maxRecDepth 100000 in
theorem gm_125_p9 {L : Nat} {xs : Nat → Int32} {d : Nat} {Q : Int → lf_Z → Prop} {x0 : Int} {x2 : Int} {x4 : Int} {x5 : Int} {x7 : Int} {x9 : Int} {s : lf_Z} {X9 : Int → Int → Int → lf_Z → Prop} (hX9 : ∀ x5 x7 x9 s, X9 x5 x7 x9 s → lf_E (px_ro L xs) (d + 1) 125 9 [(0, .long (Int64.ofInt x0)), (2, .long (Int64.ofInt x2)), (4, .int (Int32.ofInt x4)), (5, .long (Int64.ofInt x5)), (7, .long (Int64.ofInt x7)), (9, .int (Int32.ofInt x9))] [] s (lf_ql Q)) (h : fm_125_p9 Q x0 x2 x4 X9 x5 x7 x9 s) : lf_E (px_ro L xs) (d + 1) 125 9 [(0, .long (Int64.ofInt x0)), (2, .long (Int64.ofInt x2)), (4, .int (Int32.ofInt x4)), (5, .long (Int64.ofInt x5)), (7, .long (Int64.ofInt x7)), (9, .int (Int32.ofInt x9))] [] s (lf_ql Q) := by
  unfold fm_125_p9 at h
  refine lf_eqs (lv' := [(0, .long (Int64.ofInt (lf_wl x0))), (2, .long (Int64.ofInt (lf_wl x2))), (4, .int (Int32.ofInt x4)), (5, .long (Int64.ofInt (lf_wl x5))), (7, .long (Int64.ofInt (lf_wl x7))), (9, .int (Int32.ofInt x9))]) (st' := []) (by simp only [lf_wlE]) rfl ?_
  refine lf_seg 1 (pc' := 11) (lv' := [(0, .long (Int64.ofInt (lf_wl x0))), (2, .long (Int64.ofInt (lf_wl x2))), (4, .int (Int32.ofInt x4)), (5, .long (Int64.ofInt (lf_wl x5))), (7, .long (Int64.ofInt (lf_wl x7))), (9, .int (Int32.ofInt x9))]) (st' := [.int (Int32.ofInt x9)]) rfl ?_
  refine lf_sipush 14 1000 rfl rfl (by decide) (by decide) ?_
  obtain ⟨o21, h⟩ := h
  refine lf_icmp_ge 45 17 rfl rfl rfl o21 ⟨by decide, by decide⟩ (fun c => ?_) (fun c => ?_)
  · have h := h.1 c
    refine lf_eqs (lv' := [(0, .long (Int64.ofInt x0)), (2, .long (Int64.ofInt x2)), (4, .int (Int32.ofInt x4)), (5, .long (Int64.ofInt x5)), (7, .long (Int64.ofInt x7)), (9, .int (Int32.ofInt x9))]) (st' := []) (by simp only [lf_wlE]) rfl ?_
    refine lf_sub (l := [(0, .long (Int64.ofInt x0)), (2, .long (Int64.ofInt x2)), (4, .int (Int32.ofInt x4)), (5, .long (Int64.ofInt x5))]) (lf_sb1 rfl (lf_sb1 rfl (lf_sb1 rfl (lf_sb1 rfl lf_sb0)))) ?_
    exact gm_125_p45 h
  · have h := h.2 c
    refine lf_seg 1 (pc' := 19) (lv' := [(0, .long (Int64.ofInt (lf_wl x0))), (2, .long (Int64.ofInt (lf_wl x2))), (4, .int (Int32.ofInt x4)), (5, .long (Int64.ofInt (lf_wl x5))), (7, .long (Int64.ofInt (lf_wl x7))), (9, .int (Int32.ofInt x9))]) (st' := [.long (Int64.ofInt (lf_wl x7))]) rfl ?_
    refine lf_lconst 20 0 rfl rfl (by decide) ?_
    refine lf_lif_eq 45 24 rfl rfl rfl rfl lf_RLwl ⟨by decide, by decide⟩ (fun c => ?_) (fun c => ?_)
    · have h := h.1 c
      refine lf_eqs (lv' := [(0, .long (Int64.ofInt x0)), (2, .long (Int64.ofInt x2)), (4, .int (Int32.ofInt x4)), (5, .long (Int64.ofInt x5)), (7, .long (Int64.ofInt x7)), (9, .int (Int32.ofInt x9))]) (st' := []) (by simp only [lf_wlE]) rfl ?_
      refine lf_sub (l := [(0, .long (Int64.ofInt x0)), (2, .long (Int64.ofInt x2)), (4, .int (Int32.ofInt x4)), (5, .long (Int64.ofInt x5))]) (lf_sb1 rfl (lf_sb1 rfl (lf_sb1 rfl (lf_sb1 rfl lf_sb0)))) ?_
      exact gm_125_p45 h
    · have h := h.2 c
      refine lf_seg 2 (pc' := 28) (lv' := [(0, .long (Int64.ofInt (lf_wl x0))), (2, .long (Int64.ofInt (lf_wl x2))), (4, .int (Int32.ofInt x4)), (5, .long (Int64.ofInt (lf_wl x5))), (7, .long (Int64.ofInt (lf_wl x7))), (9, .int (Int32.ofInt x9))]) (st' := [.long (Int64.ofInt (lf_wl x7)), .long (Int64.ofInt (lf_wl x5))]) rfl ?_
      obtain ⟨o24, h⟩ := h
      refine lf_lrem 29 rfl rfl lf_RLwl lf_RLwl o24 ?_
      refine lf_wtL ?_
      refine lf_seg 5 (pc' := 39) (lv' := [(7, .long (Int64.ofInt (lf_wl ((lf_wl x5).tmod (lf_wl x7))))), (5, .long (Int64.ofInt (lf_wl x7))), (10, .long (Int64.ofInt (lf_wl ((lf_wl x5).tmod (lf_wl x7))))), (0, .long (Int64.ofInt (lf_wl x0))), (2, .long (Int64.ofInt (lf_wl x2))), (4, .int (Int32.ofInt x4)), (9, .int (Int32.ofInt x9))]) (st' := []) rfl ?_
      refine lf_iinc 42 rfl rfl rfl rfl ?_
      refine lf_seg 1 (pc' := 9) (lv' := [(9, .int (Int32.ofInt (x9 + 1))), (7, .long (Int64.ofInt (lf_wl ((lf_wl x5).tmod (lf_wl x7))))), (5, .long (Int64.ofInt (lf_wl x7))), (10, .long (Int64.ofInt (lf_wl ((lf_wl x5).tmod (lf_wl x7))))), (0, .long (Int64.ofInt (lf_wl x0))), (2, .long (Int64.ofInt (lf_wl x2))), (4, .int (Int32.ofInt x4))]) (st' := []) rfl ?_
      refine lf_eqs (lv' := [(9, .int (Int32.ofInt (x9 + 1))), (7, .long (Int64.ofInt (lf_wl ((lf_wl x5).tmod (lf_wl x7))))), (5, .long (Int64.ofInt x7)), (10, .long (Int64.ofInt (lf_wl ((lf_wl x5).tmod (lf_wl x7))))), (0, .long (Int64.ofInt x0)), (2, .long (Int64.ofInt x2)), (4, .int (Int32.ofInt x4))]) (st' := []) (by simp only [lf_wlE]) rfl ?_
      refine lf_sub (l := [(0, .long (Int64.ofInt x0)), (2, .long (Int64.ofInt x2)), (4, .int (Int32.ofInt x4)), (5, .long (Int64.ofInt x7)), (7, .long (Int64.ofInt (lf_wl ((lf_wl x5).tmod (lf_wl x7))))), (9, .int (Int32.ofInt (x9 + 1)))]) (lf_sb1 rfl (lf_sb1 rfl (lf_sb1 rfl (lf_sb1 rfl (lf_sb1 rfl (lf_sb1 rfl lf_sb0)))))) ?_
      exact hX9 _ _ _ _ h
theorem gm_125_p9L {L : Nat} {xs : Nat → Int32} {d : Nat} {Q : Int → lf_Z → Prop} {x0 : Int} {x2 : Int} {x4 : Int} {x5 : Int} {x7 : Int} {x9 : Int} {s : lf_Z} (h : fm_125_p9L Q x0 x2 x4 x5 x7 x9 s) : lf_E (px_ro L xs) (d + 1) 125 9 [(0, .long (Int64.ofInt x0)), (2, .long (Int64.ofInt x2)), (4, .int (Int32.ofInt x4)), (5, .long (Int64.ofInt x5)), (7, .long (Int64.ofInt x7)), (9, .int (Int32.ofInt x9))] [] s (lf_ql Q) :=
  h (fun x5 x7 x9 s => lf_E (px_ro L xs) (d + 1) 125 9 [(0, .long (Int64.ofInt x0)), (2, .long (Int64.ofInt x2)), (4, .int (Int32.ofInt x4)), (5, .long (Int64.ofInt x5)), (7, .long (Int64.ofInt x7)), (9, .int (Int32.ofInt x9))] [] s (lf_ql Q)) (fun x5 x7 x9 s hb => gm_125_p9 (fun _ _ _ _ h => h) hb)
def fm_125 (a0 : Int) (a1 : Int) (a2 : Int) (Q : Int → lf_Z → Prop) (s : lf_Z) : Prop := fm_125_p9L Q a0 a1 a2 a1 a0 0 s
set_option maxRecDepth 100000 in
theorem gm_125 {L : Nat} {xs : Nat → Int32} {d : Nat} {a0 : Int} {a1 : Int} {a2 : Int} {Q : Int → lf_Z → Prop} {s : lf_Z} (h : fm_125 a0 a1 a2 Q s) : lf_M (px_ro L xs) (d + 1) 125 [.long (Int64.ofInt a0), .long (Int64.ofInt a1), .int (Int32.ofInt a2)] s (lf_ql Q) := by
  unfold fm_125 at h
  show lf_E (px_ro L xs) (d + 1) 125 0 [(0, .long (Int64.ofInt a0)), (2, .long (Int64.ofInt a1)), (4, .int (Int32.ofInt a2))] [] s _
  refine lf_eqs (lv' := [(0, .long (Int64.ofInt (lf_wl a0))), (2, .long (Int64.ofInt (lf_wl a1))), (4, .int (Int32.ofInt a2))]) (st' := []) (by simp only [lf_wlE]) rfl ?_
  refine lf_seg 6 (pc' := 9) (lv' := [(9, .int (Int32.ofInt 0)), (7, .long (Int64.ofInt (lf_wl a0))), (5, .long (Int64.ofInt (lf_wl a1))), (0, .long (Int64.ofInt (lf_wl a0))), (2, .long (Int64.ofInt (lf_wl a1))), (4, .int (Int32.ofInt a2))]) (st' := []) rfl ?_
  refine lf_eqs (lv' := [(9, .int (Int32.ofInt 0)), (7, .long (Int64.ofInt a0)), (5, .long (Int64.ofInt a1)), (0, .long (Int64.ofInt a0)), (2, .long (Int64.ofInt a1)), (4, .int (Int32.ofInt a2))]) (st' := []) (by simp only [lf_wlE]) rfl ?_
  refine lf_sub (l := [(0, .long (Int64.ofInt a0)), (2, .long (Int64.ofInt a1)), (4, .int (Int32.ofInt a2)), (5, .long (Int64.ofInt a1)), (7, .long (Int64.ofInt a0)), (9, .int (Int32.ofInt 0))]) (lf_sb1 rfl (lf_sb1 rfl (lf_sb1 rfl (lf_sb1 rfl (lf_sb1 rfl (lf_sb1 rfl lf_sb0)))))) ?_
  exact gm_125_p9L h
-- fm_116 ElevenBullocks.where 0 i i i i
def fm_116_p31 (Q : Int → lf_Z → Prop) (s : lf_Z) : Prop := Q (-1) s
set_option maxRecDepth 100000 in
theorem gm_116_p31 {L : Nat} {xs : Nat → Int32} {d : Nat} {Q : Int → lf_Z → Prop} {s : lf_Z} (h : fm_116_p31 Q s) : lf_E (px_ro L xs) (d + 8) 116 31 [] [] s (lf_ql Q) := by
  unfold fm_116_p31 at h
  refine lf_ldc2 34 (-1) rfl rfl rfl (by decide) ?_
  exact lf_retL rfl rfl h
def fm_116 (a1 : Int) (a2 : Int) (a3 : Int) (a4 : Int) (Q : Int → lf_Z → Prop) (s : lf_Z) : Prop := fm_80 a1 (fun z22 s21 => ((z22 = false → (fm_116_p31 Q s21)) ∧ (z22 = true → (fm_15 a2 0 4 (fun z24 s23 => ((z24 = false → (fm_116_p31 Q s23)) ∧ (z24 = true → (fm_18 a3 (fun z26 s25 => ((z26 = true → (fm_117 a1 a2 a3 (fun r28 s27 => (fm_124 a2 (fun r30 s29 => (fm_125 (lf_wl r28) (lf_wl r30) a4 (fun r32 s31 => (Q (lf_wl r32) s31)) s29)) s27)) s25)) ∧ (z26 = false → (fm_116_p31 Q s25)))) s23)))) s21)))) s
set_option maxRecDepth 100000 in
theorem gm_116 {L : Nat} {xs : Nat → Int32} {d : Nat} {a1 : Int} {a2 : Int} {a3 : Int} {a4 : Int} {Q : Int → lf_Z → Prop} {s : lf_Z} (h : fm_116 a1 a2 a3 a4 Q s) : lf_M (px_ro L xs) (d + 8) 116 [.ref 0, .int (Int32.ofInt a1), .int (Int32.ofInt a2), .int (Int32.ofInt a3), .int (Int32.ofInt a4)] s (lf_ql Q) := by
  unfold fm_116 at h
  show lf_E (px_ro L xs) (d + 8) 116 0 [(0, .ref 0), (1, .int (Int32.ofInt a1)), (2, .int (Int32.ofInt a2)), (3, .int (Int32.ofInt a3)), (4, .int (Int32.ofInt a4))] [] s _
  refine lf_seg 3 (pc' := 5) (lv' := [(0, .ref 0), (1, .int (Int32.ofInt a1)), (2, .int (Int32.ofInt a2)), (3, .int (Int32.ofInt a3)), (4, .int (Int32.ofInt a4))]) (st' := [.int (Int32.ofInt a1), .ref 15]) rfl ?_
  refine lf_callZ 8 rfl rfl rfl rfl (gm_80 h) (fun z22 s21 h => ?_)
  refine lf_ifz_eq 31 11 rfl rfl rfl (fun c => ?_) (fun c => ?_)
  · have h := h.1 c
    refine lf_sub (l := []) lf_sb0 ?_
    exact gm_116_p31 h
  · have h := h.2 c
    refine lf_seg 3 (pc' := 14) (lv' := [(0, .ref 0), (1, .int (Int32.ofInt a1)), (2, .int (Int32.ofInt a2)), (3, .int (Int32.ofInt a3)), (4, .int (Int32.ofInt a4))]) (st' := [.int (Int32.ofInt 4), .int (Int32.ofInt 0), .int (Int32.ofInt a2)]) rfl ?_
    refine lf_callZ 17 rfl rfl rfl rfl (gm_15 h) (fun z24 s23 h => ?_)
    refine lf_ifz_eq 31 20 rfl rfl rfl (fun c => ?_) (fun c => ?_)
    · have h := h.1 c
      refine lf_sub (l := []) lf_sb0 ?_
      exact gm_116_p31 h
    · have h := h.2 c
      refine lf_seg 3 (pc' := 25) (lv' := [(0, .ref 0), (1, .int (Int32.ofInt a1)), (2, .int (Int32.ofInt a2)), (3, .int (Int32.ofInt a3)), (4, .int (Int32.ofInt a4))]) (st' := [.int (Int32.ofInt a3), .ref 1]) rfl ?_
      refine lf_callZ 28 rfl rfl rfl rfl (gm_18 h) (fun z26 s25 h => ?_)
      refine lf_ifz_ne 35 31 rfl rfl rfl (fun c => ?_) (fun c => ?_)
      · have h := h.1 c
        refine lf_seg 5 (pc' := 42) (lv' := [(0, .ref 0), (1, .int (Int32.ofInt a1)), (2, .int (Int32.ofInt a2)), (3, .int (Int32.ofInt a3)), (4, .int (Int32.ofInt a4))]) (st' := [.int (Int32.ofInt a3), .int (Int32.ofInt a2), .int (Int32.ofInt a1), .ref 68]) rfl ?_
        refine lf_callL 45 rfl rfl rfl rfl (gm_117 h) (fun r28 s27 h => ?_)
        refine lf_wtL ?_
        refine lf_seg 4 (pc' := 52) (lv' := [(5, .long (Int64.ofInt (lf_wl r28))), (0, .ref 0), (1, .int (Int32.ofInt a1)), (2, .int (Int32.ofInt a2)), (3, .int (Int32.ofInt a3)), (4, .int (Int32.ofInt a4))]) (st' := [.int (Int32.ofInt a2), .ref 68]) rfl ?_
        refine lf_callL 55 rfl rfl rfl rfl (gm_124 h) (fun r30 s29 h => ?_)
        refine lf_wtL ?_
        refine lf_seg 4 (pc' := 63) (lv' := [(7, .long (Int64.ofInt (lf_wl r30))), (5, .long (Int64.ofInt (lf_wl r28))), (0, .ref 0), (1, .int (Int32.ofInt a1)), (2, .int (Int32.ofInt a2)), (3, .int (Int32.ofInt a3)), (4, .int (Int32.ofInt a4))]) (st' := [.int (Int32.ofInt a4), .long (Int64.ofInt (lf_wl r30)), .long (Int64.ofInt (lf_wl r28))]) rfl ?_
        refine lf_callL 66 rfl rfl rfl rfl (gm_125 h) (fun r32 s31 h => ?_)
        refine lf_wtL ?_
        exact lf_retL rfl rfl h
      · have h := h.2 c
        refine lf_sub (l := []) lf_sb0 ?_
        exact gm_116_p31 h
-- fm_292 Model.common l l
def fm_292_p6 (Q : Int → lf_Z → Prop) (X6 : Int → Int → lf_Z → Prop) (x4 : Int) (x6 : Int) (s : lf_Z) : Prop := (lf_wl x6 = 0 → (Q (lf_wl x4) s)) ∧ (¬ (lf_wl x6 = 0) → ((lf_wl x6) ≠ 0 ∧ (X6 x6 (lf_wl ((lf_wl x4).tmod (lf_wl x6))) s)))
def fm_292_p6L (Q : Int → lf_Z → Prop) (x4 : Int) (x6 : Int) (s : lf_Z) : Prop := ∀ X6 : Int → Int → lf_Z → Prop, (∀ (x4 : Int) (x6 : Int) (s : lf_Z), fm_292_p6 Q X6 x4 x6 s → X6 x4 x6 s) → X6 x4 x6 s
set_option maxRecDepth 100000 in
theorem gm_292_p6 {L : Nat} {xs : Nat → Int32} {d : Nat} {Q : Int → lf_Z → Prop} {x4 : Int} {x6 : Int} {s : lf_Z} {X6 : Int → Int → lf_Z → Prop} (hX6 : ∀ x4 x6 s, X6 x4 x6 s → lf_E (px_ro L xs) (d + 1) 292 6 [(4, .long (Int64.ofInt x4)), (6, .long (Int64.ofInt x6))] [] s (lf_ql Q)) (h : fm_292_p6 Q X6 x4 x6 s) : lf_E (px_ro L xs) (d + 1) 292 6 [(4, .long (Int64.ofInt x4)), (6, .long (Int64.ofInt x6))] [] s (lf_ql Q) := by
  unfold fm_292_p6 at h
  refine lf_eqs (lv' := [(4, .long (Int64.ofInt (lf_wl x4))), (6, .long (Int64.ofInt (lf_wl x6)))]) (st' := []) (by simp only [lf_wlE]) rfl ?_
  refine lf_seg 1 (pc' := 8) (lv' := [(4, .long (Int64.ofInt (lf_wl x4))), (6, .long (Int64.ofInt (lf_wl x6)))]) (st' := [.long (Int64.ofInt (lf_wl x6))]) rfl ?_
  refine lf_lconst 9 0 rfl rfl (by decide) ?_
  refine lf_lif_eq 31 13 rfl rfl rfl rfl lf_RLwl ⟨by decide, by decide⟩ (fun c => ?_) (fun c => ?_)
  · have h := h.1 c
    refine lf_seg 1 (pc' := 33) (lv' := [(4, .long (Int64.ofInt (lf_wl x4))), (6, .long (Int64.ofInt (lf_wl x6)))]) (st' := [.long (Int64.ofInt (lf_wl x4))]) rfl ?_
    exact lf_retL rfl rfl h
  · have h := h.2 c
    refine lf_seg 2 (pc' := 17) (lv' := [(4, .long (Int64.ofInt (lf_wl x4))), (6, .long (Int64.ofInt (lf_wl x6)))]) (st' := [.long (Int64.ofInt (lf_wl x6)), .long (Int64.ofInt (lf_wl x4))]) rfl ?_
    obtain ⟨o21, h⟩ := h
    refine lf_lrem 18 rfl rfl lf_RLwl lf_RLwl o21 ?_
    refine lf_wtL ?_
    refine lf_seg 6 (pc' := 6) (lv' := [(6, .long (Int64.ofInt (lf_wl ((lf_wl x4).tmod (lf_wl x6))))), (4, .long (Int64.ofInt (lf_wl x6))), (8, .long (Int64.ofInt (lf_wl ((lf_wl x4).tmod (lf_wl x6)))))]) (st' := []) rfl ?_
    refine lf_eqs (lv' := [(6, .long (Int64.ofInt (lf_wl ((lf_wl x4).tmod (lf_wl x6))))), (4, .long (Int64.ofInt x6)), (8, .long (Int64.ofInt (lf_wl ((lf_wl x4).tmod (lf_wl x6)))))]) (st' := []) (by simp only [lf_wlE]) rfl ?_
    refine lf_sub (l := [(4, .long (Int64.ofInt x6)), (6, .long (Int64.ofInt (lf_wl ((lf_wl x4).tmod (lf_wl x6)))))]) (lf_sb1 rfl (lf_sb1 rfl lf_sb0)) ?_
    exact hX6 _ _ _ h
theorem gm_292_p6L {L : Nat} {xs : Nat → Int32} {d : Nat} {Q : Int → lf_Z → Prop} {x4 : Int} {x6 : Int} {s : lf_Z} (h : fm_292_p6L Q x4 x6 s) : lf_E (px_ro L xs) (d + 1) 292 6 [(4, .long (Int64.ofInt x4)), (6, .long (Int64.ofInt x6))] [] s (lf_ql Q) :=
  h (fun x4 x6 s => lf_E (px_ro L xs) (d + 1) 292 6 [(4, .long (Int64.ofInt x4)), (6, .long (Int64.ofInt x6))] [] s (lf_ql Q)) (fun x4 x6 s hb => gm_292_p6 (fun _ _ _ h => h) hb)
def fm_292 (a0 : Int) (a1 : Int) (Q : Int → lf_Z → Prop) (s : lf_Z) : Prop := fm_292_p6L Q a0 a1 s
set_option maxRecDepth 100000 in
theorem gm_292 {L : Nat} {xs : Nat → Int32} {d : Nat} {a0 : Int} {a1 : Int} {Q : Int → lf_Z → Prop} {s : lf_Z} (h : fm_292 a0 a1 Q s) : lf_M (px_ro L xs) (d + 1) 292 [.long (Int64.ofInt a0), .long (Int64.ofInt a1)] s (lf_ql Q) := by
  unfold fm_292 at h
  show lf_E (px_ro L xs) (d + 1) 292 0 [(0, .long (Int64.ofInt a0)), (2, .long (Int64.ofInt a1))] [] s _
  refine lf_eqs (lv' := [(0, .long (Int64.ofInt (lf_wl a0))), (2, .long (Int64.ofInt (lf_wl a1)))]) (st' := []) (by simp only [lf_wlE]) rfl ?_
  refine lf_seg 4 (pc' := 6) (lv' := [(6, .long (Int64.ofInt (lf_wl a1))), (4, .long (Int64.ofInt (lf_wl a0))), (0, .long (Int64.ofInt (lf_wl a0))), (2, .long (Int64.ofInt (lf_wl a1)))]) (st' := []) rfl ?_
  refine lf_eqs (lv' := [(6, .long (Int64.ofInt a1)), (4, .long (Int64.ofInt a0)), (0, .long (Int64.ofInt a0)), (2, .long (Int64.ofInt a1))]) (st' := []) (by simp only [lf_wlE]) rfl ?_
  refine lf_sub (l := [(4, .long (Int64.ofInt a0)), (6, .long (Int64.ofInt a1))]) (lf_sb1 rfl (lf_sb1 rfl lf_sb0)) ?_
  exact gm_292_p6L h
-- fm_291 Model.part l l i
def fm_291_p10 (Q : Int → lf_Z → Prop) (x0 : Int) (x2 : Int) (y0 : Int) (s : lf_Z) : Prop := fm_292 (lf_wl x0) (lf_wl x2) (fun r23 s22 => ((lf_wl r23) ≠ 0 ∧ (Q (lf_wl ((lf_wl y0).tdiv (lf_wl r23))) s22))) s
set_option maxRecDepth 100000 in
theorem gm_291_p10 {L : Nat} {xs : Nat → Int32} {d : Nat} {Q : Int → lf_Z → Prop} {x0 : Int} {x2 : Int} {y0 : Int} {s : lf_Z} (h : fm_291_p10 Q x0 x2 y0 s) : lf_E (px_ro L xs) (d + 2) 291 10 [(0, .long (Int64.ofInt x0)), (2, .long (Int64.ofInt x2))] [.long (Int64.ofInt y0)] s (lf_ql Q) := by
  unfold fm_291_p10 at h
  refine lf_eqs (lv' := [(0, .long (Int64.ofInt (lf_wl x0))), (2, .long (Int64.ofInt (lf_wl x2)))]) (st' := [.long (Int64.ofInt (lf_wl y0))]) (by simp only [lf_wlE]) (by simp only [lf_wlE]) ?_
  refine lf_seg 2 (pc' := 12) (lv' := [(0, .long (Int64.ofInt (lf_wl x0))), (2, .long (Int64.ofInt (lf_wl x2)))]) (st' := [.long (Int64.ofInt (lf_wl x2)), .long (Int64.ofInt (lf_wl x0)), .long (Int64.ofInt (lf_wl y0))]) rfl ?_
  refine lf_callL 15 rfl rfl rfl rfl (gm_292 h) (fun r23 s22 h => ?_)
  refine lf_wtL ?_
  obtain ⟨o24, h⟩ := h
  refine lf_ldiv 16 rfl rfl lf_RLwl lf_RLwl o24 ?_
  refine lf_wtL ?_
  exact lf_retL rfl rfl h
def fm_291 (a0 : Int) (a1 : Int) (a2 : Int) (Q : Int → lf_Z → Prop) (s : lf_Z) : Prop := lf_R a2 ∧ ((a2 = 0 → (fm_291_p10 Q a0 a1 a0 s)) ∧ (¬ (a2 = 0) → (fm_291_p10 Q a0 a1 a1 s)))
set_option maxRecDepth 100000 in
theorem gm_291 {L : Nat} {xs : Nat → Int32} {d : Nat} {a0 : Int} {a1 : Int} {a2 : Int} {Q : Int → lf_Z → Prop} {s : lf_Z} (h : fm_291 a0 a1 a2 Q s) : lf_M (px_ro L xs) (d + 2) 291 [.long (Int64.ofInt a0), .long (Int64.ofInt a1), .int (Int32.ofInt a2)] s (lf_ql Q) := by
  unfold fm_291 at h
  show lf_E (px_ro L xs) (d + 2) 291 0 [(0, .long (Int64.ofInt a0)), (2, .long (Int64.ofInt a1)), (4, .int (Int32.ofInt a2))] [] s _
  refine lf_eqs (lv' := [(0, .long (Int64.ofInt (lf_wl a0))), (2, .long (Int64.ofInt (lf_wl a1))), (4, .int (Int32.ofInt a2))]) (st' := []) (by simp only [lf_wlE]) rfl ?_
  refine lf_seg 1 (pc' := 2) (lv' := [(0, .long (Int64.ofInt (lf_wl a0))), (2, .long (Int64.ofInt (lf_wl a1))), (4, .int (Int32.ofInt a2))]) (st' := [.int (Int32.ofInt a2)]) rfl ?_
  obtain ⟨o21, h⟩ := h
  refine lf_if_eq 9 5 rfl rfl rfl o21 (fun c => ?_) (fun c => ?_)
  · have h := h.1 c
    refine lf_seg 1 (pc' := 10) (lv' := [(0, .long (Int64.ofInt (lf_wl a0))), (2, .long (Int64.ofInt (lf_wl a1))), (4, .int (Int32.ofInt a2))]) (st' := [.long (Int64.ofInt (lf_wl a0))]) rfl ?_
    refine lf_eqs (lv' := [(0, .long (Int64.ofInt a0)), (2, .long (Int64.ofInt a1)), (4, .int (Int32.ofInt a2))]) (st' := [.long (Int64.ofInt a0)]) (by simp only [lf_wlE]) (by simp only [lf_wlE]) ?_
    refine lf_sub (l := [(0, .long (Int64.ofInt a0)), (2, .long (Int64.ofInt a1))]) (lf_sb1 rfl (lf_sb1 rfl lf_sb0)) ?_
    exact gm_291_p10 h
  · have h := h.2 c
    refine lf_seg 2 (pc' := 10) (lv' := [(0, .long (Int64.ofInt (lf_wl a0))), (2, .long (Int64.ofInt (lf_wl a1))), (4, .int (Int32.ofInt a2))]) (st' := [.long (Int64.ofInt (lf_wl a1))]) rfl ?_
    refine lf_eqs (lv' := [(0, .long (Int64.ofInt a0)), (2, .long (Int64.ofInt a1)), (4, .int (Int32.ofInt a2))]) (st' := [.long (Int64.ofInt a1)]) (by simp only [lf_wlE]) (by simp only [lf_wlE]) ?_
    refine lf_sub (l := [(0, .long (Int64.ofInt a0)), (2, .long (Int64.ofInt a1))]) (lf_sb1 rfl (lf_sb1 rfl lf_sb0)) ?_
    exact gm_291_p10 h
-- fm_290 Model.spread 95 i i
def fm_290_p98 (X20 : Int → Int → lf_Z → Prop) (Q : lf_Z → Prop) (x1 : Int) (x2 : Int) (x3 : Int) (x4 : Int) (x6 : Int) (s : lf_Z) : Prop := X20 x4 (x6 + 1) s
set_option maxRecDepth 100000 in
theorem gm_290_p98 {L : Nat} {xs : Nat → Int32} {d : Nat} {X20 : Int → Int → lf_Z → Prop} {Q : lf_Z → Prop} {x1 : Int} {x2 : Int} {x3 : Int} {x4 : Int} {x6 : Int} {s : lf_Z} (hX20 : ∀ x4 x6 s, X20 x4 x6 s → lf_E (px_ro L xs) (d + 6) 290 20 [(0, .ref 95), (1, .int (Int32.ofInt x1)), (2, .int (Int32.ofInt x2)), (3, .int (Int32.ofInt x3)), (4, .long (Int64.ofInt x4)), (6, .int (Int32.ofInt x6))] [] s (lf_qv Q)) (h : fm_290_p98 X20 Q x1 x2 x3 x4 x6 s) : lf_E (px_ro L xs) (d + 6) 290 98 [(0, .ref 95), (1, .int (Int32.ofInt x1)), (2, .int (Int32.ofInt x2)), (3, .int (Int32.ofInt x3)), (4, .long (Int64.ofInt x4)), (6, .int (Int32.ofInt x6))] [] s (lf_qv Q) := by
  unfold fm_290_p98 at h
  refine lf_eqs (lv' := [(0, .ref 95), (1, .int (Int32.ofInt x1)), (2, .int (Int32.ofInt x2)), (3, .int (Int32.ofInt x3)), (4, .long (Int64.ofInt (lf_wl x4))), (6, .int (Int32.ofInt x6))]) (st' := []) (by simp only [lf_wlE]) rfl ?_
  refine lf_iinc 101 rfl rfl rfl rfl ?_
  refine lf_seg 1 (pc' := 20) (lv' := [(6, .int (Int32.ofInt (x6 + 1))), (0, .ref 95), (1, .int (Int32.ofInt x1)), (2, .int (Int32.ofInt x2)), (3, .int (Int32.ofInt x3)), (4, .long (Int64.ofInt (lf_wl x4)))]) (st' := []) rfl ?_
  refine lf_eqs (lv' := [(6, .int (Int32.ofInt (x6 + 1))), (0, .ref 95), (1, .int (Int32.ofInt x1)), (2, .int (Int32.ofInt x2)), (3, .int (Int32.ofInt x3)), (4, .long (Int64.ofInt x4))]) (st' := []) (by simp only [lf_wlE]) rfl ?_
  refine lf_sub (l := [(0, .ref 95), (1, .int (Int32.ofInt x1)), (2, .int (Int32.ofInt x2)), (3, .int (Int32.ofInt x3)), (4, .long (Int64.ofInt x4)), (6, .int (Int32.ofInt (x6 + 1)))]) (lf_sb1 rfl (lf_sb1 rfl (lf_sb1 rfl (lf_sb1 rfl (lf_sb1 rfl (lf_sb1 rfl lf_sb0)))))) ?_
  exact hX20 _ _ _ h
def fm_290_p20 (Q : lf_Z → Prop) (x1 : Int) (x2 : Int) (x3 : Int) (X20 : Int → Int → lf_Z → Prop) (x4 : Int) (x6 : Int) (s : lf_Z) : Prop := lf_R x6 ∧ (lf_R (s.1 96 1) ∧ ((s.1 96 1 ≤ x6 → ((0 ≤ x2 ∧ x2 < 156) ∧ (Q (s.1, lf_up s.2.1 110 x2 (lf_wl ((lf_wl (s.2.1 110 x2)) + (lf_wl x4))), s.2.2)))) ∧ (¬ (s.1 96 1 ≤ x6) → (lf_R x2 ∧ (fm_273 x1 x3 ((x2.tmod 13) - 1) x6 (fun r28 s27 => (lf_R r28 ∧ ((r28 ≠ 0 → (fm_187 x6 x3 (fun r31 s30 => ((0 ≤ ((13 * r31) + x3) + 1 ∧ ((13 * r31) + x3) + 1 < 156) ∧ (fm_290_p98 X20 Q x1 x2 x3 (lf_wl ((lf_wl x4) - (lf_wl ((lf_wl ((lf_wl x4).tdiv 10)) * r28)))) x6 (s30.1, lf_up s30.2.1 110 (((13 * r31) + x3) + 1) (lf_wl ((lf_wl (s30.2.1 110 (((13 * r31) + x3) + 1))) + (lf_wl ((lf_wl ((lf_wl x4).tdiv 10)) * r28)))), s30.2.2)))) s27)) ∧ (¬ (r28 ≠ 0) → (fm_290_p98 X20 Q x1 x2 x3 x4 x6 s27))))) s)))))
def fm_290_p20L (Q : lf_Z → Prop) (x1 : Int) (x2 : Int) (x3 : Int) (x4 : Int) (x6 : Int) (s : lf_Z) : Prop := ∀ X20 : Int → Int → lf_Z → Prop, (∀ (x4 : Int) (x6 : Int) (s : lf_Z), fm_290_p20 Q x1 x2 x3 X20 x4 x6 s → X20 x4 x6 s) → X20 x4 x6 s
set_option maxRecDepth 100000 in
theorem gm_290_p20 {L : Nat} {xs : Nat → Int32} {d : Nat} {Q : lf_Z → Prop} {x1 : Int} {x2 : Int} {x3 : Int} {x4 : Int} {x6 : Int} {s : lf_Z} {X20 : Int → Int → lf_Z → Prop} (hX20 : ∀ x4 x6 s, X20 x4 x6 s → lf_E (px_ro L xs) (d + 6) 290 20 [(0, .ref 95), (1, .int (Int32.ofInt x1)), (2, .int (Int32.ofInt x2)), (3, .int (Int32.ofInt x3)), (4, .long (Int64.ofInt x4)), (6, .int (Int32.ofInt x6))] [] s (lf_qv Q)) (h : fm_290_p20 Q x1 x2 x3 X20 x4 x6 s) : lf_E (px_ro L xs) (d + 6) 290 20 [(0, .ref 95), (1, .int (Int32.ofInt x1)), (2, .int (Int32.ofInt x2)), (3, .int (Int32.ofInt x3)), (4, .long (Int64.ofInt x4)), (6, .int (Int32.ofInt x6))] [] s (lf_qv Q) := by
  unfold fm_290_p20 at h
  refine lf_eqs (lv' := [(0, .ref 95), (1, .int (Int32.ofInt x1)), (2, .int (Int32.ofInt x2)), (3, .int (Int32.ofInt x3)), (4, .long (Int64.ofInt (lf_wl x4))), (6, .int (Int32.ofInt x6))]) (st' := []) (by simp only [lf_wlE]) rfl ?_
  refine lf_seg 4 (pc' := 27) (lv' := [(0, .ref 95), (1, .int (Int32.ofInt x1)), (2, .int (Int32.ofInt x2)), (3, .int (Int32.ofInt x3)), (4, .long (Int64.ofInt (lf_wl x4))), (6, .int (Int32.ofInt x6))]) (st' := [.int (Int32.ofInt 1), .ref 96, .int (Int32.ofInt x6)]) rfl ?_
  refine lf_iald 28 1538 rfl rfl rfl rfl rfl rfl ⟨by decide, by decide⟩ ?_
  obtain ⟨o23, h⟩ := h
  obtain ⟨o24, h⟩ := h
  refine lf_icmp_ge 104 31 rfl rfl rfl o23 o24 (fun c => ?_) (fun c => ?_)
  · have h := h.1 c
    refine lf_seg 4 (pc' := 110) (lv' := [(0, .ref 95), (1, .int (Int32.ofInt x1)), (2, .int (Int32.ofInt x2)), (3, .int (Int32.ofInt x3)), (4, .long (Int64.ofInt (lf_wl x4))), (6, .int (Int32.ofInt x6))]) (st' := [.int (Int32.ofInt x2), .ref 110, .int (Int32.ofInt x2), .ref 110]) rfl ?_
    obtain ⟨o25, h⟩ := h
    refine lf_lald 111 156 rfl rfl rfl rfl rfl rfl o25 ?_
    refine lf_wtL ?_
    refine lf_seg 1 (pc' := 113) (lv' := [(0, .ref 95), (1, .int (Int32.ofInt x1)), (2, .int (Int32.ofInt x2)), (3, .int (Int32.ofInt x3)), (4, .long (Int64.ofInt (lf_wl x4))), (6, .int (Int32.ofInt x6))]) (st' := [.long (Int64.ofInt (lf_wl x4)), .long (Int64.ofInt (lf_wl (s.2.1 110 x2))), .int (Int32.ofInt x2), .ref 110]) rfl ?_
    refine lf_ladd 114 rfl rfl ?_
    refine lf_wtL ?_
    refine lf_last 115 156 rfl rfl rfl rfl rfl rfl o25 ?_
    refine lf_as (s.1, lf_up s.2.1 110 x2 (lf_wl ((lf_wl (s.2.1 110 x2)) + (lf_wl x4))), s.2.2) rfl ?_
    exact lf_retV rfl rfl h
  · have h := h.2 c
    refine lf_seg 4 (pc' := 35) (lv' := [(0, .ref 95), (1, .int (Int32.ofInt x1)), (2, .int (Int32.ofInt x2)), (3, .int (Int32.ofInt x3)), (4, .long (Int64.ofInt (lf_wl x4))), (6, .int (Int32.ofInt x6))]) (st' := [.int (Int32.ofInt x2), .int (Int32.ofInt x3), .int (Int32.ofInt x1), .ref 95]) rfl ?_
    refine lf_bipush 37 13 rfl rfl (by decide) (by decide) ?_
    obtain ⟨o26, h⟩ := h
    refine lf_irem 38 rfl rfl o26 ⟨by decide, by decide⟩ (by decide) ?_
    refine lf_seg 1 (pc' := 39) (lv' := [(0, .ref 95), (1, .int (Int32.ofInt x1)), (2, .int (Int32.ofInt x2)), (3, .int (Int32.ofInt x3)), (4, .long (Int64.ofInt (lf_wl x4))), (6, .int (Int32.ofInt x6))]) (st' := [.int (Int32.ofInt 1), .int (Int32.ofInt (x2.tmod 13)), .int (Int32.ofInt x3), .int (Int32.ofInt x1), .ref 95]) rfl ?_
    refine lf_isub 40 rfl rfl ?_
    refine lf_seg 1 (pc' := 42) (lv' := [(0, .ref 95), (1, .int (Int32.ofInt x1)), (2, .int (Int32.ofInt x2)), (3, .int (Int32.ofInt x3)), (4, .long (Int64.ofInt (lf_wl x4))), (6, .int (Int32.ofInt x6))]) (st' := [.int (Int32.ofInt x6), .int (Int32.ofInt ((x2.tmod 13) - 1)), .int (Int32.ofInt x3), .int (Int32.ofInt x1), .ref 95]) rfl ?_
    refine lf_callI 45 rfl rfl rfl rfl (gm_273 h) (fun r28 s27 h => ?_)
    refine lf_seg 2 (pc' := 49) (lv' := [(7, .int (Int32.ofInt r28)), (0, .ref 95), (1, .int (Int32.ofInt x1)), (2, .int (Int32.ofInt x2)), (3, .int (Int32.ofInt x3)), (4, .long (Int64.ofInt (lf_wl x4))), (6, .int (Int32.ofInt x6))]) (st' := [.int (Int32.ofInt r28)]) rfl ?_
    obtain ⟨o29, h⟩ := h
    refine lf_if_ne 55 52 rfl rfl rfl o29 (fun c => ?_) (fun c => ?_)
    · have h := h.1 c
      refine lf_seg 1 (pc' := 57) (lv' := [(7, .int (Int32.ofInt r28)), (0, .ref 95), (1, .int (Int32.ofInt x1)), (2, .int (Int32.ofInt x2)), (3, .int (Int32.ofInt x3)), (4, .long (Int64.ofInt (lf_wl x4))), (6, .int (Int32.ofInt x6))]) (st' := [.long (Int64.ofInt (lf_wl x4))]) rfl ?_
      refine lf_ldc2 60 10 rfl rfl rfl (by decide) ?_
      refine lf_ldiv 61 rfl rfl lf_RLwl ⟨by decide, by decide⟩ (by decide) ?_
      refine lf_wtL ?_
      refine lf_seg 1 (pc' := 63) (lv' := [(7, .int (Int32.ofInt r28)), (0, .ref 95), (1, .int (Int32.ofInt x1)), (2, .int (Int32.ofInt x2)), (3, .int (Int32.ofInt x3)), (4, .long (Int64.ofInt (lf_wl x4))), (6, .int (Int32.ofInt x6))]) (st' := [.int (Int32.ofInt r28), .long (Int64.ofInt (lf_wl ((lf_wl x4).tdiv 10)))]) rfl ?_
      refine lf_i2l 64 rfl rfl o29 ?_
      refine lf_lmul 65 rfl rfl ?_
      refine lf_wtL ?_
      refine lf_seg 3 (pc' := 71) (lv' := [(8, .long (Int64.ofInt (lf_wl ((lf_wl ((lf_wl x4).tdiv 10)) * r28)))), (7, .int (Int32.ofInt r28)), (0, .ref 95), (1, .int (Int32.ofInt x1)), (2, .int (Int32.ofInt x2)), (3, .int (Int32.ofInt x3)), (4, .long (Int64.ofInt (lf_wl x4))), (6, .int (Int32.ofInt x6))]) (st' := [.ref 110]) rfl ?_
      refine lf_bipush 73 13 rfl rfl (by decide) (by decide) ?_
      refine lf_seg 3 (pc' := 77) (lv' := [(8, .long (Int64.ofInt (lf_wl ((lf_wl ((lf_wl x4).tdiv 10)) * r28)))), (7, .int (Int32.ofInt r28)), (0, .ref 95), (1, .int (Int32.ofInt x1)), (2, .int (Int32.ofInt x2)), (3, .int (Int32.ofInt x3)), (4, .long (Int64.ofInt (lf_wl x4))), (6, .int (Int32.ofInt x6))]) (st' := [.int (Int32.ofInt x3), .int (Int32.ofInt x6), .ref 95, .int (Int32.ofInt 13), .ref 110]) rfl ?_
      refine lf_callI 80 rfl rfl rfl rfl (gm_187 h) (fun r31 s30 h => ?_)
      refine lf_imul 81 rfl rfl ?_
      refine lf_seg 1 (pc' := 82) (lv' := [(8, .long (Int64.ofInt (lf_wl ((lf_wl ((lf_wl x4).tdiv 10)) * r28)))), (7, .int (Int32.ofInt r28)), (0, .ref 95), (1, .int (Int32.ofInt x1)), (2, .int (Int32.ofInt x2)), (3, .int (Int32.ofInt x3)), (4, .long (Int64.ofInt (lf_wl x4))), (6, .int (Int32.ofInt x6))]) (st' := [.int (Int32.ofInt x3), .int (Int32.ofInt (13 * r31)), .ref 110]) rfl ?_
      refine lf_iadd 83 rfl rfl ?_
      refine lf_seg 1 (pc' := 84) (lv' := [(8, .long (Int64.ofInt (lf_wl ((lf_wl ((lf_wl x4).tdiv 10)) * r28)))), (7, .int (Int32.ofInt r28)), (0, .ref 95), (1, .int (Int32.ofInt x1)), (2, .int (Int32.ofInt x2)), (3, .int (Int32.ofInt x3)), (4, .long (Int64.ofInt (lf_wl x4))), (6, .int (Int32.ofInt x6))]) (st' := [.int (Int32.ofInt 1), .int (Int32.ofInt ((13 * r31) + x3)), .ref 110]) rfl ?_
      refine lf_iadd 85 rfl rfl ?_
      refine lf_seg 1 (pc' := 86) (lv' := [(8, .long (Int64.ofInt (lf_wl ((lf_wl ((lf_wl x4).tdiv 10)) * r28)))), (7, .int (Int32.ofInt r28)), (0, .ref 95), (1, .int (Int32.ofInt x1)), (2, .int (Int32.ofInt x2)), (3, .int (Int32.ofInt x3)), (4, .long (Int64.ofInt (lf_wl x4))), (6, .int (Int32.ofInt x6))]) (st' := [.int (Int32.ofInt (((13 * r31) + x3) + 1)), .ref 110, .int (Int32.ofInt (((13 * r31) + x3) + 1)), .ref 110]) rfl ?_
      obtain ⟨o32, h⟩ := h
      refine lf_lald 87 156 rfl rfl rfl rfl rfl rfl o32 ?_
      refine lf_wtL ?_
      refine lf_seg 1 (pc' := 89) (lv' := [(8, .long (Int64.ofInt (lf_wl ((lf_wl ((lf_wl x4).tdiv 10)) * r28)))), (7, .int (Int32.ofInt r28)), (0, .ref 95), (1, .int (Int32.ofInt x1)), (2, .int (Int32.ofInt x2)), (3, .int (Int32.ofInt x3)), (4, .long (Int64.ofInt (lf_wl x4))), (6, .int (Int32.ofInt x6))]) (st' := [.long (Int64.ofInt (lf_wl ((lf_wl ((lf_wl x4).tdiv 10)) * r28))), .long (Int64.ofInt (lf_wl (s30.2.1 110 (((13 * r31) + x3) + 1)))), .int (Int32.ofInt (((13 * r31) + x3) + 1)), .ref 110]) rfl ?_
      refine lf_ladd 90 rfl rfl ?_
      refine lf_wtL ?_
      refine lf_last 91 156 rfl rfl rfl rfl rfl rfl o32 ?_
      refine lf_as (s30.1, lf_up s30.2.1 110 (((13 * r31) + x3) + 1) (lf_wl ((lf_wl (s30.2.1 110 (((13 * r31) + x3) + 1))) + (lf_wl ((lf_wl ((lf_wl x4).tdiv 10)) * r28)))), s30.2.2) rfl ?_
      refine lf_seg 2 (pc' := 95) (lv' := [(8, .long (Int64.ofInt (lf_wl ((lf_wl ((lf_wl x4).tdiv 10)) * r28)))), (7, .int (Int32.ofInt r28)), (0, .ref 95), (1, .int (Int32.ofInt x1)), (2, .int (Int32.ofInt x2)), (3, .int (Int32.ofInt x3)), (4, .long (Int64.ofInt (lf_wl x4))), (6, .int (Int32.ofInt x6))]) (st' := [.long (Int64.ofInt (lf_wl ((lf_wl ((lf_wl x4).tdiv 10)) * r28))), .long (Int64.ofInt (lf_wl x4))]) rfl ?_
      refine lf_lsub 96 rfl rfl ?_
      refine lf_wtL ?_
      refine lf_seg 1 (pc' := 98) (lv' := [(4, .long (Int64.ofInt (lf_wl ((lf_wl x4) - (lf_wl ((lf_wl ((lf_wl x4).tdiv 10)) * r28)))))), (8, .long (Int64.ofInt (lf_wl ((lf_wl ((lf_wl x4).tdiv 10)) * r28)))), (7, .int (Int32.ofInt r28)), (0, .ref 95), (1, .int (Int32.ofInt x1)), (2, .int (Int32.ofInt x2)), (3, .int (Int32.ofInt x3)), (6, .int (Int32.ofInt x6))]) (st' := []) rfl ?_
      refine lf_sub (l := [(0, .ref 95), (1, .int (Int32.ofInt x1)), (2, .int (Int32.ofInt x2)), (3, .int (Int32.ofInt x3)), (4, .long (Int64.ofInt (lf_wl ((lf_wl x4) - (lf_wl ((lf_wl ((lf_wl x4).tdiv 10)) * r28)))))), (6, .int (Int32.ofInt x6))]) (lf_sb1 rfl (lf_sb1 rfl (lf_sb1 rfl (lf_sb1 rfl (lf_sb1 rfl (lf_sb1 rfl lf_sb0)))))) ?_
      exact gm_290_p98 hX20 h
    · have h := h.2 c
      refine lf_seg 1 (pc' := 98) (lv' := [(7, .int (Int32.ofInt r28)), (0, .ref 95), (1, .int (Int32.ofInt x1)), (2, .int (Int32.ofInt x2)), (3, .int (Int32.ofInt x3)), (4, .long (Int64.ofInt (lf_wl x4))), (6, .int (Int32.ofInt x6))]) (st' := []) rfl ?_
      refine lf_eqs (lv' := [(7, .int (Int32.ofInt r28)), (0, .ref 95), (1, .int (Int32.ofInt x1)), (2, .int (Int32.ofInt x2)), (3, .int (Int32.ofInt x3)), (4, .long (Int64.ofInt x4)), (6, .int (Int32.ofInt x6))]) (st' := []) (by simp only [lf_wlE]) rfl ?_
      refine lf_sub (l := [(0, .ref 95), (1, .int (Int32.ofInt x1)), (2, .int (Int32.ofInt x2)), (3, .int (Int32.ofInt x3)), (4, .long (Int64.ofInt x4)), (6, .int (Int32.ofInt x6))]) (lf_sb1 rfl (lf_sb1 rfl (lf_sb1 rfl (lf_sb1 rfl (lf_sb1 rfl (lf_sb1 rfl lf_sb0)))))) ?_
      exact gm_290_p98 hX20 h
theorem gm_290_p20L {L : Nat} {xs : Nat → Int32} {d : Nat} {Q : lf_Z → Prop} {x1 : Int} {x2 : Int} {x3 : Int} {x4 : Int} {x6 : Int} {s : lf_Z} (h : fm_290_p20L Q x1 x2 x3 x4 x6 s) : lf_E (px_ro L xs) (d + 6) 290 20 [(0, .ref 95), (1, .int (Int32.ofInt x1)), (2, .int (Int32.ofInt x2)), (3, .int (Int32.ofInt x3)), (4, .long (Int64.ofInt x4)), (6, .int (Int32.ofInt x6))] [] s (lf_qv Q) :=
  h (fun x4 x6 s => lf_E (px_ro L xs) (d + 6) 290 20 [(0, .ref 95), (1, .int (Int32.ofInt x1)), (2, .int (Int32.ofInt x2)), (3, .int (Int32.ofInt x3)), (4, .long (Int64.ofInt x4)), (6, .int (Int32.ofInt x6))] [] s (lf_qv Q)) (fun x4 x6 s hb => gm_290_p20 (fun _ _ _ h => h) hb)
def fm_290 (a1 : Int) (a2 : Int) (Q : lf_Z → Prop) (s : lf_Z) : Prop := lf_R a2 ∧ ((0 ≤ a2 ∧ a2 < 156) ∧ (fm_290_p20L Q a1 a2 (a2.tdiv 13) (lf_wl ((lf_wl (s.2.1 109 a2)) * 10000)) 0 s))
set_option maxRecDepth 100000 in
theorem gm_290 {L : Nat} {xs : Nat → Int32} {d : Nat} {a1 : Int} {a2 : Int} {Q : lf_Z → Prop} {s : lf_Z} (h : fm_290 a1 a2 Q s) : lf_M (px_ro L xs) (d + 6) 290 [.ref 95, .int (Int32.ofInt a1), .int (Int32.ofInt a2)] s (lf_qv Q) := by
  unfold fm_290 at h
  show lf_E (px_ro L xs) (d + 6) 290 0 [(0, .ref 95), (1, .int (Int32.ofInt a1)), (2, .int (Int32.ofInt a2))] [] s _
  refine lf_seg 1 (pc' := 1) (lv' := [(0, .ref 95), (1, .int (Int32.ofInt a1)), (2, .int (Int32.ofInt a2))]) (st' := [.int (Int32.ofInt a2)]) rfl ?_
  refine lf_bipush 3 13 rfl rfl (by decide) (by decide) ?_
  obtain ⟨o21, h⟩ := h
  refine lf_idiv 4 rfl rfl o21 ⟨by decide, by decide⟩ (by decide) ?_
  refine lf_seg 4 (pc' := 10) (lv' := [(3, .int (Int32.ofInt (a2.tdiv 13))), (0, .ref 95), (1, .int (Int32.ofInt a1)), (2, .int (Int32.ofInt a2))]) (st' := [.int (Int32.ofInt a2), .ref 109]) rfl ?_
  obtain ⟨o22, h⟩ := h
  refine lf_lald 11 156 rfl rfl rfl rfl rfl rfl o22 ?_
  refine lf_wtL ?_
  refine lf_ldc2 14 10000 rfl rfl rfl (by decide) ?_
  refine lf_lmul 15 rfl rfl ?_
  refine lf_wtL ?_
  refine lf_seg 3 (pc' := 20) (lv' := [(6, .int (Int32.ofInt 0)), (4, .long (Int64.ofInt (lf_wl ((lf_wl (s.2.1 109 a2)) * 10000)))), (3, .int (Int32.ofInt (a2.tdiv 13))), (0, .ref 95), (1, .int (Int32.ofInt a1)), (2, .int (Int32.ofInt a2))]) (st' := []) rfl ?_
  refine lf_sub (l := [(0, .ref 95), (1, .int (Int32.ofInt a1)), (2, .int (Int32.ofInt a2)), (3, .int (Int32.ofInt (a2.tdiv 13))), (4, .long (Int64.ofInt (lf_wl ((lf_wl (s.2.1 109 a2)) * 10000)))), (6, .int (Int32.ofInt 0))]) (lf_sb1 rfl (lf_sb1 rfl (lf_sb1 rfl (lf_sb1 rfl (lf_sb1 rfl (lf_sb1 rfl lf_sb0)))))) ?_
  exact gm_290_p20L h
-- fm_289 Model.where 95 i i i i
def fm_289_p25 (Q : Int → lf_Z → Prop) (s : lf_Z) : Prop := Q (-1) s
set_option maxRecDepth 100000 in
theorem gm_289_p25 {L : Nat} {xs : Nat → Int32} {d : Nat} {Q : Int → lf_Z → Prop} {s : lf_Z} (h : fm_289_p25 Q s) : lf_E (px_ro L xs) (d + 7) 289 25 [] [] s (lf_ql Q) := by
  unfold fm_289_p25 at h
  refine lf_ldc2 28 (-1) rfl rfl rfl (by decide) ?_
  exact lf_retL rfl rfl h
def fm_289_p204 (Q : Int → lf_Z → Prop) (x3 : Int) (x4 : Int) (x5 : Int) (X204 : Int → Int → lf_Z → Prop) (x7 : Int) (x9 : Int) (s : lf_Z) : Prop := lf_R x9 ∧ ((13 ≤ x9 → (fm_291 (lf_wl x7) (lf_wl x5) x4 (fun r37 s36 => (Q (lf_wl r37) s36)) s)) ∧ (¬ (13 ≤ x9) → ((0 ≤ (13 * x3) + x9 ∧ (13 * x3) + x9 < 156) ∧ (X204 (lf_wl ((lf_wl x7) + (lf_wl (s.2.1 109 ((13 * x3) + x9))))) (x9 + 1) s))))
def fm_289_p204L (Q : Int → lf_Z → Prop) (x3 : Int) (x4 : Int) (x5 : Int) (x7 : Int) (x9 : Int) (s : lf_Z) : Prop := ∀ X204 : Int → Int → lf_Z → Prop, (∀ (x7 : Int) (x9 : Int) (s : lf_Z), fm_289_p204 Q x3 x4 x5 X204 x7 x9 s → X204 x7 x9 s) → X204 x7 x9 s
set_option maxRecDepth 100000 in
theorem gm_289_p204 {L : Nat} {xs : Nat → Int32} {d : Nat} {Q : Int → lf_Z → Prop} {x3 : Int} {x4 : Int} {x5 : Int} {x7 : Int} {x9 : Int} {s : lf_Z} {X204 : Int → Int → lf_Z → Prop} (hX204 : ∀ x7 x9 s, X204 x7 x9 s → lf_E (px_ro L xs) (d + 7) 289 204 [(0, .ref 95), (3, .int (Int32.ofInt x3)), (4, .int (Int32.ofInt x4)), (5, .long (Int64.ofInt x5)), (7, .long (Int64.ofInt x7)), (9, .int (Int32.ofInt x9))] [] s (lf_ql Q)) (h : fm_289_p204 Q x3 x4 x5 X204 x7 x9 s) : lf_E (px_ro L xs) (d + 7) 289 204 [(0, .ref 95), (3, .int (Int32.ofInt x3)), (4, .int (Int32.ofInt x4)), (5, .long (Int64.ofInt x5)), (7, .long (Int64.ofInt x7)), (9, .int (Int32.ofInt x9))] [] s (lf_ql Q) := by
  unfold fm_289_p204 at h
  refine lf_eqs (lv' := [(0, .ref 95), (3, .int (Int32.ofInt x3)), (4, .int (Int32.ofInt x4)), (5, .long (Int64.ofInt (lf_wl x5))), (7, .long (Int64.ofInt (lf_wl x7))), (9, .int (Int32.ofInt x9))]) (st' := []) (by simp only [lf_wlE]) rfl ?_
  refine lf_seg 1 (pc' := 206) (lv' := [(0, .ref 95), (3, .int (Int32.ofInt x3)), (4, .int (Int32.ofInt x4)), (5, .long (Int64.ofInt (lf_wl x5))), (7, .long (Int64.ofInt (lf_wl x7))), (9, .int (Int32.ofInt x9))]) (st' := [.int (Int32.ofInt x9)]) rfl ?_
  refine lf_bipush 208 13 rfl rfl (by decide) (by decide) ?_
  obtain ⟨o35, h⟩ := h
  refine lf_icmp_ge 234 211 rfl rfl rfl o35 ⟨by decide, by decide⟩ (fun c => ?_) (fun c => ?_)
  · have h := h.1 c
    refine lf_seg 3 (pc' := 240) (lv' := [(0, .ref 95), (3, .int (Int32.ofInt x3)), (4, .int (Int32.ofInt x4)), (5, .long (Int64.ofInt (lf_wl x5))), (7, .long (Int64.ofInt (lf_wl x7))), (9, .int (Int32.ofInt x9))]) (st' := [.int (Int32.ofInt x4), .long (Int64.ofInt (lf_wl x5)), .long (Int64.ofInt (lf_wl x7))]) rfl ?_
    refine lf_callL 243 rfl rfl rfl rfl (gm_291 h) (fun r37 s36 h => ?_)
    refine lf_wtL ?_
    exact lf_retL rfl rfl h
  · have h := h.2 c
    refine lf_seg 3 (pc' := 217) (lv' := [(0, .ref 95), (3, .int (Int32.ofInt x3)), (4, .int (Int32.ofInt x4)), (5, .long (Int64.ofInt (lf_wl x5))), (7, .long (Int64.ofInt (lf_wl x7))), (9, .int (Int32.ofInt x9))]) (st' := [.ref 109, .long (Int64.ofInt (lf_wl x7))]) rfl ?_
    refine lf_bipush 219 13 rfl rfl (by decide) (by decide) ?_
    refine lf_seg 1 (pc' := 220) (lv' := [(0, .ref 95), (3, .int (Int32.ofInt x3)), (4, .int (Int32.ofInt x4)), (5, .long (Int64.ofInt (lf_wl x5))), (7, .long (Int64.ofInt (lf_wl x7))), (9, .int (Int32.ofInt x9))]) (st' := [.int (Int32.ofInt x3), .int (Int32.ofInt 13), .ref 109, .long (Int64.ofInt (lf_wl x7))]) rfl ?_
    refine lf_imul 221 rfl rfl ?_
    refine lf_seg 1 (pc' := 223) (lv' := [(0, .ref 95), (3, .int (Int32.ofInt x3)), (4, .int (Int32.ofInt x4)), (5, .long (Int64.ofInt (lf_wl x5))), (7, .long (Int64.ofInt (lf_wl x7))), (9, .int (Int32.ofInt x9))]) (st' := [.int (Int32.ofInt x9), .int (Int32.ofInt (13 * x3)), .ref 109, .long (Int64.ofInt (lf_wl x7))]) rfl ?_
    refine lf_iadd 224 rfl rfl ?_
    obtain ⟨o38, h⟩ := h
    refine lf_lald 225 156 rfl rfl rfl rfl rfl rfl o38 ?_
    refine lf_wtL ?_
    refine lf_ladd 226 rfl rfl ?_
    refine lf_wtL ?_
    refine lf_seg 1 (pc' := 228) (lv' := [(7, .long (Int64.ofInt (lf_wl ((lf_wl x7) + (lf_wl (s.2.1 109 ((13 * x3) + x9))))))), (0, .ref 95), (3, .int (Int32.ofInt x3)), (4, .int (Int32.ofInt x4)), (5, .long (Int64.ofInt (lf_wl x5))), (9, .int (Int32.ofInt x9))]) (st' := []) rfl ?_
    refine lf_iinc 231 rfl rfl rfl rfl ?_
    refine lf_seg 1 (pc' := 204) (lv' := [(9, .int (Int32.ofInt (x9 + 1))), (7, .long (Int64.ofInt (lf_wl ((lf_wl x7) + (lf_wl (s.2.1 109 ((13 * x3) + x9))))))), (0, .ref 95), (3, .int (Int32.ofInt x3)), (4, .int (Int32.ofInt x4)), (5, .long (Int64.ofInt (lf_wl x5)))]) (st' := []) rfl ?_
    refine lf_eqs (lv' := [(9, .int (Int32.ofInt (x9 + 1))), (7, .long (Int64.ofInt (lf_wl ((lf_wl x7) + (lf_wl (s.2.1 109 ((13 * x3) + x9))))))), (0, .ref 95), (3, .int (Int32.ofInt x3)), (4, .int (Int32.ofInt x4)), (5, .long (Int64.ofInt x5))]) (st' := []) (by simp only [lf_wlE]) rfl ?_
    refine lf_sub (l := [(0, .ref 95), (3, .int (Int32.ofInt x3)), (4, .int (Int32.ofInt x4)), (5, .long (Int64.ofInt x5)), (7, .long (Int64.ofInt (lf_wl ((lf_wl x7) + (lf_wl (s.2.1 109 ((13 * x3) + x9))))))), (9, .int (Int32.ofInt (x9 + 1)))]) (lf_sb1 rfl (lf_sb1 rfl (lf_sb1 rfl (lf_sb1 rfl (lf_sb1 rfl (lf_sb1 rfl lf_sb0)))))) ?_
    exact hX204 _ _ _ h
theorem gm_289_p204L {L : Nat} {xs : Nat → Int32} {d : Nat} {Q : Int → lf_Z → Prop} {x3 : Int} {x4 : Int} {x5 : Int} {x7 : Int} {x9 : Int} {s : lf_Z} (h : fm_289_p204L Q x3 x4 x5 x7 x9 s) : lf_E (px_ro L xs) (d + 7) 289 204 [(0, .ref 95), (3, .int (Int32.ofInt x3)), (4, .int (Int32.ofInt x4)), (5, .long (Int64.ofInt x5)), (7, .long (Int64.ofInt x7)), (9, .int (Int32.ofInt x9))] [] s (lf_ql Q) :=
  h (fun x7 x9 s => lf_E (px_ro L xs) (d + 7) 289 204 [(0, .ref 95), (3, .int (Int32.ofInt x3)), (4, .int (Int32.ofInt x4)), (5, .long (Int64.ofInt x5)), (7, .long (Int64.ofInt x7)), (9, .int (Int32.ofInt x9))] [] s (lf_ql Q)) (fun x7 x9 s hb => gm_289_p204 (fun _ _ _ h => h) hb)
def fm_289_p156 (X82 : Int → Int → lf_Z → Prop) (Q : Int → lf_Z → Prop) (x1 : Int) (x2 : Int) (x3 : Int) (x4 : Int) (x5 : Int) (x7 : Int) (X156 : Int → lf_Z → Prop) (x8 : Int) (s : lf_Z) : Prop := lf_R x8 ∧ ((156 ≤ x8 → (X82 (lf_wl ((lf_wl x5) * 10000)) (x7 + 1) s)) ∧ (¬ (156 ≤ x8) → ((0 ≤ x8 ∧ x8 < 156) ∧ (X156 (x8 + 1) (s.1, lf_up s.2.1 109 x8 (lf_wl (s.2.1 110 x8)), s.2.2)))))
def fm_289_p156L (X82 : Int → Int → lf_Z → Prop) (Q : Int → lf_Z → Prop) (x1 : Int) (x2 : Int) (x3 : Int) (x4 : Int) (x5 : Int) (x7 : Int) (x8 : Int) (s : lf_Z) : Prop := ∀ X156 : Int → lf_Z → Prop, (∀ (x8 : Int) (s : lf_Z), fm_289_p156 X82 Q x1 x2 x3 x4 x5 x7 X156 x8 s → X156 x8 s) → X156 x8 s
set_option maxRecDepth 100000 in
theorem gm_289_p156 {L : Nat} {xs : Nat → Int32} {d : Nat} {X82 : Int → Int → lf_Z → Prop} {Q : Int → lf_Z → Prop} {x1 : Int} {x2 : Int} {x3 : Int} {x4 : Int} {x5 : Int} {x7 : Int} {x8 : Int} {s : lf_Z} {X156 : Int → lf_Z → Prop} (hX82 : ∀ x5 x7 s, X82 x5 x7 s → lf_E (px_ro L xs) (d + 7) 289 82 [(0, .ref 95), (1, .int (Int32.ofInt x1)), (2, .int (Int32.ofInt x2)), (3, .int (Int32.ofInt x3)), (4, .int (Int32.ofInt x4)), (5, .long (Int64.ofInt x5)), (7, .int (Int32.ofInt x7))] [] s (lf_ql Q)) (hX156 : ∀ x8 s, X156 x8 s → lf_E (px_ro L xs) (d + 7) 289 156 [(0, .ref 95), (1, .int (Int32.ofInt x1)), (2, .int (Int32.ofInt x2)), (3, .int (Int32.ofInt x3)), (4, .int (Int32.ofInt x4)), (5, .long (Int64.ofInt x5)), (7, .int (Int32.ofInt x7)), (8, .int (Int32.ofInt x8))] [] s (lf_ql Q)) (h : fm_289_p156 X82 Q x1 x2 x3 x4 x5 x7 X156 x8 s) : lf_E (px_ro L xs) (d + 7) 289 156 [(0, .ref 95), (1, .int (Int32.ofInt x1)), (2, .int (Int32.ofInt x2)), (3, .int (Int32.ofInt x3)), (4, .int (Int32.ofInt x4)), (5, .long (Int64.ofInt x5)), (7, .int (Int32.ofInt x7)), (8, .int (Int32.ofInt x8))] [] s (lf_ql Q) := by
  unfold fm_289_p156 at h
  refine lf_eqs (lv' := [(0, .ref 95), (1, .int (Int32.ofInt x1)), (2, .int (Int32.ofInt x2)), (3, .int (Int32.ofInt x3)), (4, .int (Int32.ofInt x4)), (5, .long (Int64.ofInt (lf_wl x5))), (7, .int (Int32.ofInt x7)), (8, .int (Int32.ofInt x8))]) (st' := []) (by simp only [lf_wlE]) rfl ?_
  refine lf_seg 1 (pc' := 158) (lv' := [(0, .ref 95), (1, .int (Int32.ofInt x1)), (2, .int (Int32.ofInt x2)), (3, .int (Int32.ofInt x3)), (4, .int (Int32.ofInt x4)), (5, .long (Int64.ofInt (lf_wl x5))), (7, .int (Int32.ofInt x7)), (8, .int (Int32.ofInt x8))]) (st' := [.int (Int32.ofInt x8)]) rfl ?_
  refine lf_sipush 161 156 rfl rfl (by decide) (by decide) ?_
  obtain ⟨o41, h⟩ := h
  refine lf_icmp_ge 184 164 rfl rfl rfl o41 ⟨by decide, by decide⟩ (fun c => ?_) (fun c => ?_)
  · have h := h.1 c
    refine lf_seg 1 (pc' := 186) (lv' := [(0, .ref 95), (1, .int (Int32.ofInt x1)), (2, .int (Int32.ofInt x2)), (3, .int (Int32.ofInt x3)), (4, .int (Int32.ofInt x4)), (5, .long (Int64.ofInt (lf_wl x5))), (7, .int (Int32.ofInt x7)), (8, .int (Int32.ofInt x8))]) (st' := [.long (Int64.ofInt (lf_wl x5))]) rfl ?_
    refine lf_ldc2 189 10000 rfl rfl rfl (by decide) ?_
    refine lf_lmul 190 rfl rfl ?_
    refine lf_wtL ?_
    refine lf_seg 1 (pc' := 192) (lv' := [(5, .long (Int64.ofInt (lf_wl ((lf_wl x5) * 10000)))), (0, .ref 95), (1, .int (Int32.ofInt x1)), (2, .int (Int32.ofInt x2)), (3, .int (Int32.ofInt x3)), (4, .int (Int32.ofInt x4)), (7, .int (Int32.ofInt x7)), (8, .int (Int32.ofInt x8))]) (st' := []) rfl ?_
    refine lf_iinc 195 rfl rfl rfl rfl ?_
    refine lf_seg 1 (pc' := 82) (lv' := [(7, .int (Int32.ofInt (x7 + 1))), (5, .long (Int64.ofInt (lf_wl ((lf_wl x5) * 10000)))), (0, .ref 95), (1, .int (Int32.ofInt x1)), (2, .int (Int32.ofInt x2)), (3, .int (Int32.ofInt x3)), (4, .int (Int32.ofInt x4)), (8, .int (Int32.ofInt x8))]) (st' := []) rfl ?_
    refine lf_sub (l := [(0, .ref 95), (1, .int (Int32.ofInt x1)), (2, .int (Int32.ofInt x2)), (3, .int (Int32.ofInt x3)), (4, .int (Int32.ofInt x4)), (5, .long (Int64.ofInt (lf_wl ((lf_wl x5) * 10000)))), (7, .int (Int32.ofInt (x7 + 1)))]) (lf_sb1 rfl (lf_sb1 rfl (lf_sb1 rfl (lf_sb1 rfl (lf_sb1 rfl (lf_sb1 rfl (lf_sb1 rfl lf_sb0))))))) ?_
    exact hX82 _ _ _ h
  · have h := h.2 c
    refine lf_seg 6 (pc' := 176) (lv' := [(0, .ref 95), (1, .int (Int32.ofInt x1)), (2, .int (Int32.ofInt x2)), (3, .int (Int32.ofInt x3)), (4, .int (Int32.ofInt x4)), (5, .long (Int64.ofInt (lf_wl x5))), (7, .int (Int32.ofInt x7)), (8, .int (Int32.ofInt x8))]) (st' := [.int (Int32.ofInt x8), .ref 110, .int (Int32.ofInt x8), .ref 109]) rfl ?_
    obtain ⟨o42, h⟩ := h
    refine lf_lald 177 156 rfl rfl rfl rfl rfl rfl o42 ?_
    refine lf_wtL ?_
    refine lf_last 178 156 rfl rfl rfl rfl rfl rfl o42 ?_
    refine lf_as (s.1, lf_up s.2.1 109 x8 (lf_wl (s.2.1 110 x8)), s.2.2) rfl ?_
    refine lf_iinc 181 rfl rfl rfl rfl ?_
    refine lf_seg 1 (pc' := 156) (lv' := [(8, .int (Int32.ofInt (x8 + 1))), (0, .ref 95), (1, .int (Int32.ofInt x1)), (2, .int (Int32.ofInt x2)), (3, .int (Int32.ofInt x3)), (4, .int (Int32.ofInt x4)), (5, .long (Int64.ofInt (lf_wl x5))), (7, .int (Int32.ofInt x7))]) (st' := []) rfl ?_
    refine lf_eqs (lv' := [(8, .int (Int32.ofInt (x8 + 1))), (0, .ref 95), (1, .int (Int32.ofInt x1)), (2, .int (Int32.ofInt x2)), (3, .int (Int32.ofInt x3)), (4, .int (Int32.ofInt x4)), (5, .long (Int64.ofInt x5)), (7, .int (Int32.ofInt x7))]) (st' := []) (by simp only [lf_wlE]) rfl ?_
    refine lf_sub (l := [(0, .ref 95), (1, .int (Int32.ofInt x1)), (2, .int (Int32.ofInt x2)), (3, .int (Int32.ofInt x3)), (4, .int (Int32.ofInt x4)), (5, .long (Int64.ofInt x5)), (7, .int (Int32.ofInt x7)), (8, .int (Int32.ofInt (x8 + 1)))]) (lf_sb1 rfl (lf_sb1 rfl (lf_sb1 rfl (lf_sb1 rfl (lf_sb1 rfl (lf_sb1 rfl (lf_sb1 rfl (lf_sb1 rfl lf_sb0)))))))) ?_
    exact hX156 _ _ h
theorem gm_289_p156L {L : Nat} {xs : Nat → Int32} {d : Nat} {X82 : Int → Int → lf_Z → Prop} {Q : Int → lf_Z → Prop} {x1 : Int} {x2 : Int} {x3 : Int} {x4 : Int} {x5 : Int} {x7 : Int} {x8 : Int} {s : lf_Z} (hX82 : ∀ x5 x7 s, X82 x5 x7 s → lf_E (px_ro L xs) (d + 7) 289 82 [(0, .ref 95), (1, .int (Int32.ofInt x1)), (2, .int (Int32.ofInt x2)), (3, .int (Int32.ofInt x3)), (4, .int (Int32.ofInt x4)), (5, .long (Int64.ofInt x5)), (7, .int (Int32.ofInt x7))] [] s (lf_ql Q)) (h : fm_289_p156L X82 Q x1 x2 x3 x4 x5 x7 x8 s) : lf_E (px_ro L xs) (d + 7) 289 156 [(0, .ref 95), (1, .int (Int32.ofInt x1)), (2, .int (Int32.ofInt x2)), (3, .int (Int32.ofInt x3)), (4, .int (Int32.ofInt x4)), (5, .long (Int64.ofInt x5)), (7, .int (Int32.ofInt x7)), (8, .int (Int32.ofInt x8))] [] s (lf_ql Q) :=
  h (fun x8 s => lf_E (px_ro L xs) (d + 7) 289 156 [(0, .ref 95), (1, .int (Int32.ofInt x1)), (2, .int (Int32.ofInt x2)), (3, .int (Int32.ofInt x3)), (4, .int (Int32.ofInt x4)), (5, .long (Int64.ofInt x5)), (7, .int (Int32.ofInt x7)), (8, .int (Int32.ofInt x8))] [] s (lf_ql Q)) (fun x8 s hb => gm_289_p156 hX82 (fun _ _ h => h) hb)
def fm_289_p147 (X82 : Int → Int → lf_Z → Prop) (X116 : Int → lf_Z → Prop) (Q : Int → lf_Z → Prop) (x1 : Int) (x2 : Int) (x3 : Int) (x4 : Int) (x5 : Int) (x7 : Int) (x8 : Int) (s : lf_Z) : Prop := X116 (x8 + 1) s
set_option maxRecDepth 100000 in
theorem gm_289_p147 {L : Nat} {xs : Nat → Int32} {d : Nat} {X82 : Int → Int → lf_Z → Prop} {X116 : Int → lf_Z → Prop} {Q : Int → lf_Z → Prop} {x1 : Int} {x2 : Int} {x3 : Int} {x4 : Int} {x5 : Int} {x7 : Int} {x8 : Int} {s : lf_Z} (hX82 : ∀ x5 x7 s, X82 x5 x7 s → lf_E (px_ro L xs) (d + 7) 289 82 [(0, .ref 95), (1, .int (Int32.ofInt x1)), (2, .int (Int32.ofInt x2)), (3, .int (Int32.ofInt x3)), (4, .int (Int32.ofInt x4)), (5, .long (Int64.ofInt x5)), (7, .int (Int32.ofInt x7))] [] s (lf_ql Q)) (hX116 : ∀ x8 s, X116 x8 s → lf_E (px_ro L xs) (d + 7) 289 116 [(0, .ref 95), (1, .int (Int32.ofInt x1)), (2, .int (Int32.ofInt x2)), (3, .int (Int32.ofInt x3)), (4, .int (Int32.ofInt x4)), (5, .long (Int64.ofInt x5)), (7, .int (Int32.ofInt x7)), (8, .int (Int32.ofInt x8))] [] s (lf_ql Q)) (h : fm_289_p147 X82 X116 Q x1 x2 x3 x4 x5 x7 x8 s) : lf_E (px_ro L xs) (d + 7) 289 147 [(0, .ref 95), (1, .int (Int32.ofInt x1)), (2, .int (Int32.ofInt x2)), (3, .int (Int32.ofInt x3)), (4, .int (Int32.ofInt x4)), (5, .long (Int64.ofInt x5)), (7, .int (Int32.ofInt x7)), (8, .int (Int32.ofInt x8))] [] s (lf_ql Q) := by
  unfold fm_289_p147 at h
  refine lf_eqs (lv' := [(0, .ref 95), (1, .int (Int32.ofInt x1)), (2, .int (Int32.ofInt x2)), (3, .int (Int32.ofInt x3)), (4, .int (Int32.ofInt x4)), (5, .long (Int64.ofInt (lf_wl x5))), (7, .int (Int32.ofInt x7)), (8, .int (Int32.ofInt x8))]) (st' := []) (by simp only [lf_wlE]) rfl ?_
  refine lf_iinc 150 rfl rfl rfl rfl ?_
  refine lf_seg 1 (pc' := 116) (lv' := [(8, .int (Int32.ofInt (x8 + 1))), (0, .ref 95), (1, .int (Int32.ofInt x1)), (2, .int (Int32.ofInt x2)), (3, .int (Int32.ofInt x3)), (4, .int (Int32.ofInt x4)), (5, .long (Int64.ofInt (lf_wl x5))), (7, .int (Int32.ofInt x7))]) (st' := []) rfl ?_
  refine lf_eqs (lv' := [(8, .int (Int32.ofInt (x8 + 1))), (0, .ref 95), (1, .int (Int32.ofInt x1)), (2, .int (Int32.ofInt x2)), (3, .int (Int32.ofInt x3)), (4, .int (Int32.ofInt x4)), (5, .long (Int64.ofInt x5)), (7, .int (Int32.ofInt x7))]) (st' := []) (by simp only [lf_wlE]) rfl ?_
  refine lf_sub (l := [(0, .ref 95), (1, .int (Int32.ofInt x1)), (2, .int (Int32.ofInt x2)), (3, .int (Int32.ofInt x3)), (4, .int (Int32.ofInt x4)), (5, .long (Int64.ofInt x5)), (7, .int (Int32.ofInt x7)), (8, .int (Int32.ofInt (x8 + 1)))]) (lf_sb1 rfl (lf_sb1 rfl (lf_sb1 rfl (lf_sb1 rfl (lf_sb1 rfl (lf_sb1 rfl (lf_sb1 rfl (lf_sb1 rfl lf_sb0)))))))) ?_
  exact hX116 _ _ h
def fm_289_p116 (X82 : Int → Int → lf_Z → Prop) (Q : Int → lf_Z → Prop) (x1 : Int) (x2 : Int) (x3 : Int) (x4 : Int) (x5 : Int) (x7 : Int) (X116 : Int → lf_Z → Prop) (x8 : Int) (s : lf_Z) : Prop := lf_R x8 ∧ ((156 ≤ x8 → (fm_289_p156L X82 Q x1 x2 x3 x4 x5 x7 0 s)) ∧ (¬ (156 ≤ x8) → ((0 ≤ x8 ∧ x8 < 156) ∧ ((lf_wl (s.2.1 109 x8) ≤ 0 → (fm_289_p147 X82 X116 Q x1 x2 x3 x4 x5 x7 x8 s)) ∧ (¬ (lf_wl (s.2.1 109 x8) ≤ 0) → (fm_242 x1 (fun r45 s44 => (fm_290 r45 x8 (fun s46 => (fm_289_p147 X82 X116 Q x1 x2 x3 x4 x5 x7 x8 s46)) s44)) s))))))
def fm_289_p116L (X82 : Int → Int → lf_Z → Prop) (Q : Int → lf_Z → Prop) (x1 : Int) (x2 : Int) (x3 : Int) (x4 : Int) (x5 : Int) (x7 : Int) (x8 : Int) (s : lf_Z) : Prop := ∀ X116 : Int → lf_Z → Prop, (∀ (x8 : Int) (s : lf_Z), fm_289_p116 X82 Q x1 x2 x3 x4 x5 x7 X116 x8 s → X116 x8 s) → X116 x8 s
set_option maxRecDepth 100000 in
theorem gm_289_p116 {L : Nat} {xs : Nat → Int32} {d : Nat} {X82 : Int → Int → lf_Z → Prop} {Q : Int → lf_Z → Prop} {x1 : Int} {x2 : Int} {x3 : Int} {x4 : Int} {x5 : Int} {x7 : Int} {x8 : Int} {s : lf_Z} {X116 : Int → lf_Z → Prop} (hX82 : ∀ x5 x7 s, X82 x5 x7 s → lf_E (px_ro L xs) (d + 7) 289 82 [(0, .ref 95), (1, .int (Int32.ofInt x1)), (2, .int (Int32.ofInt x2)), (3, .int (Int32.ofInt x3)), (4, .int (Int32.ofInt x4)), (5, .long (Int64.ofInt x5)), (7, .int (Int32.ofInt x7))] [] s (lf_ql Q)) (hX116 : ∀ x8 s, X116 x8 s → lf_E (px_ro L xs) (d + 7) 289 116 [(0, .ref 95), (1, .int (Int32.ofInt x1)), (2, .int (Int32.ofInt x2)), (3, .int (Int32.ofInt x3)), (4, .int (Int32.ofInt x4)), (5, .long (Int64.ofInt x5)), (7, .int (Int32.ofInt x7)), (8, .int (Int32.ofInt x8))] [] s (lf_ql Q)) (h : fm_289_p116 X82 Q x1 x2 x3 x4 x5 x7 X116 x8 s) : lf_E (px_ro L xs) (d + 7) 289 116 [(0, .ref 95), (1, .int (Int32.ofInt x1)), (2, .int (Int32.ofInt x2)), (3, .int (Int32.ofInt x3)), (4, .int (Int32.ofInt x4)), (5, .long (Int64.ofInt x5)), (7, .int (Int32.ofInt x7)), (8, .int (Int32.ofInt x8))] [] s (lf_ql Q) := by
  unfold fm_289_p116 at h
  refine lf_eqs (lv' := [(0, .ref 95), (1, .int (Int32.ofInt x1)), (2, .int (Int32.ofInt x2)), (3, .int (Int32.ofInt x3)), (4, .int (Int32.ofInt x4)), (5, .long (Int64.ofInt (lf_wl x5))), (7, .int (Int32.ofInt x7)), (8, .int (Int32.ofInt x8))]) (st' := []) (by simp only [lf_wlE]) rfl ?_
  refine lf_seg 1 (pc' := 118) (lv' := [(0, .ref 95), (1, .int (Int32.ofInt x1)), (2, .int (Int32.ofInt x2)), (3, .int (Int32.ofInt x3)), (4, .int (Int32.ofInt x4)), (5, .long (Int64.ofInt (lf_wl x5))), (7, .int (Int32.ofInt x7)), (8, .int (Int32.ofInt x8))]) (st' := [.int (Int32.ofInt x8)]) rfl ?_
  refine lf_sipush 121 156 rfl rfl (by decide) (by decide) ?_
  obtain ⟨o40, h⟩ := h
  refine lf_icmp_ge 153 124 rfl rfl rfl o40 ⟨by decide, by decide⟩ (fun c => ?_) (fun c => ?_)
  · have h := h.1 c
    refine lf_seg 2 (pc' := 156) (lv' := [(8, .int (Int32.ofInt 0)), (0, .ref 95), (1, .int (Int32.ofInt x1)), (2, .int (Int32.ofInt x2)), (3, .int (Int32.ofInt x3)), (4, .int (Int32.ofInt x4)), (5, .long (Int64.ofInt (lf_wl x5))), (7, .int (Int32.ofInt x7))]) (st' := []) rfl ?_
    refine lf_eqs (lv' := [(8, .int (Int32.ofInt 0)), (0, .ref 95), (1, .int (Int32.ofInt x1)), (2, .int (Int32.ofInt x2)), (3, .int (Int32.ofInt x3)), (4, .int (Int32.ofInt x4)), (5, .long (Int64.ofInt x5)), (7, .int (Int32.ofInt x7))]) (st' := []) (by simp only [lf_wlE]) rfl ?_
    refine lf_sub (l := [(0, .ref 95), (1, .int (Int32.ofInt x1)), (2, .int (Int32.ofInt x2)), (3, .int (Int32.ofInt x3)), (4, .int (Int32.ofInt x4)), (5, .long (Int64.ofInt x5)), (7, .int (Int32.ofInt x7)), (8, .int (Int32.ofInt 0))]) (lf_sb1 rfl (lf_sb1 rfl (lf_sb1 rfl (lf_sb1 rfl (lf_sb1 rfl (lf_sb1 rfl (lf_sb1 rfl (lf_sb1 rfl lf_sb0)))))))) ?_
    exact gm_289_p156L hX82 h
  · have h := h.2 c
    refine lf_seg 3 (pc' := 130) (lv' := [(0, .ref 95), (1, .int (Int32.ofInt x1)), (2, .int (Int32.ofInt x2)), (3, .int (Int32.ofInt x3)), (4, .int (Int32.ofInt x4)), (5, .long (Int64.ofInt (lf_wl x5))), (7, .int (Int32.ofInt x7)), (8, .int (Int32.ofInt x8))]) (st' := [.int (Int32.ofInt x8), .ref 109]) rfl ?_
    obtain ⟨o43, h⟩ := h
    refine lf_lald 131 156 rfl rfl rfl rfl rfl rfl o43 ?_
    refine lf_wtL ?_
    refine lf_lconst 132 0 rfl rfl (by decide) ?_
    refine lf_lif_le 147 136 rfl rfl rfl rfl lf_RLwl ⟨by decide, by decide⟩ (fun c => ?_) (fun c => ?_)
    · have h := h.1 c
      refine lf_eqs (lv' := [(0, .ref 95), (1, .int (Int32.ofInt x1)), (2, .int (Int32.ofInt x2)), (3, .int (Int32.ofInt x3)), (4, .int (Int32.ofInt x4)), (5, .long (Int64.ofInt x5)), (7, .int (Int32.ofInt x7)), (8, .int (Int32.ofInt x8))]) (st' := []) (by simp only [lf_wlE]) rfl ?_
      refine lf_sub (l := [(0, .ref 95), (1, .int (Int32.ofInt x1)), (2, .int (Int32.ofInt x2)), (3, .int (Int32.ofInt x3)), (4, .int (Int32.ofInt x4)), (5, .long (Int64.ofInt x5)), (7, .int (Int32.ofInt x7)), (8, .int (Int32.ofInt x8))]) (lf_sb1 rfl (lf_sb1 rfl (lf_sb1 rfl (lf_sb1 rfl (lf_sb1 rfl (lf_sb1 rfl (lf_sb1 rfl (lf_sb1 rfl lf_sb0)))))))) ?_
      exact gm_289_p147 hX82 hX116 h
    · have h := h.2 c
      refine lf_seg 3 (pc' := 139) (lv' := [(0, .ref 95), (1, .int (Int32.ofInt x1)), (2, .int (Int32.ofInt x2)), (3, .int (Int32.ofInt x3)), (4, .int (Int32.ofInt x4)), (5, .long (Int64.ofInt (lf_wl x5))), (7, .int (Int32.ofInt x7)), (8, .int (Int32.ofInt x8))]) (st' := [.int (Int32.ofInt x1), .ref 95, .ref 95]) rfl ?_
      refine lf_callI 142 rfl rfl rfl rfl (gm_242 h) (fun r45 s44 h => ?_)
      refine lf_seg 1 (pc' := 144) (lv' := [(0, .ref 95), (1, .int (Int32.ofInt x1)), (2, .int (Int32.ofInt x2)), (3, .int (Int32.ofInt x3)), (4, .int (Int32.ofInt x4)), (5, .long (Int64.ofInt (lf_wl x5))), (7, .int (Int32.ofInt x7)), (8, .int (Int32.ofInt x8))]) (st' := [.int (Int32.ofInt x8), .int (Int32.ofInt r45), .ref 95]) rfl ?_
      refine lf_callV 147 rfl rfl rfl rfl (gm_290 h) (fun s46 h => ?_)
      refine lf_eqs (lv' := [(0, .ref 95), (1, .int (Int32.ofInt x1)), (2, .int (Int32.ofInt x2)), (3, .int (Int32.ofInt x3)), (4, .int (Int32.ofInt x4)), (5, .long (Int64.ofInt x5)), (7, .int (Int32.ofInt x7)), (8, .int (Int32.ofInt x8))]) (st' := []) (by simp only [lf_wlE]) rfl ?_
      refine lf_sub (l := [(0, .ref 95), (1, .int (Int32.ofInt x1)), (2, .int (Int32.ofInt x2)), (3, .int (Int32.ofInt x3)), (4, .int (Int32.ofInt x4)), (5, .long (Int64.ofInt x5)), (7, .int (Int32.ofInt x7)), (8, .int (Int32.ofInt x8))]) (lf_sb1 rfl (lf_sb1 rfl (lf_sb1 rfl (lf_sb1 rfl (lf_sb1 rfl (lf_sb1 rfl (lf_sb1 rfl (lf_sb1 rfl lf_sb0)))))))) ?_
      exact gm_289_p147 hX82 hX116 h
theorem gm_289_p116L {L : Nat} {xs : Nat → Int32} {d : Nat} {X82 : Int → Int → lf_Z → Prop} {Q : Int → lf_Z → Prop} {x1 : Int} {x2 : Int} {x3 : Int} {x4 : Int} {x5 : Int} {x7 : Int} {x8 : Int} {s : lf_Z} (hX82 : ∀ x5 x7 s, X82 x5 x7 s → lf_E (px_ro L xs) (d + 7) 289 82 [(0, .ref 95), (1, .int (Int32.ofInt x1)), (2, .int (Int32.ofInt x2)), (3, .int (Int32.ofInt x3)), (4, .int (Int32.ofInt x4)), (5, .long (Int64.ofInt x5)), (7, .int (Int32.ofInt x7))] [] s (lf_ql Q)) (h : fm_289_p116L X82 Q x1 x2 x3 x4 x5 x7 x8 s) : lf_E (px_ro L xs) (d + 7) 289 116 [(0, .ref 95), (1, .int (Int32.ofInt x1)), (2, .int (Int32.ofInt x2)), (3, .int (Int32.ofInt x3)), (4, .int (Int32.ofInt x4)), (5, .long (Int64.ofInt x5)), (7, .int (Int32.ofInt x7)), (8, .int (Int32.ofInt x8))] [] s (lf_ql Q) :=
  h (fun x8 s => lf_E (px_ro L xs) (d + 7) 289 116 [(0, .ref 95), (1, .int (Int32.ofInt x1)), (2, .int (Int32.ofInt x2)), (3, .int (Int32.ofInt x3)), (4, .int (Int32.ofInt x4)), (5, .long (Int64.ofInt x5)), (7, .int (Int32.ofInt x7)), (8, .int (Int32.ofInt x8))] [] s (lf_ql Q)) (fun x8 s hb => gm_289_p116 hX82 (fun _ _ h => h) hb)
def fm_289_p91 (X82 : Int → Int → lf_Z → Prop) (Q : Int → lf_Z → Prop) (x1 : Int) (x2 : Int) (x3 : Int) (x4 : Int) (x5 : Int) (x7 : Int) (X91 : Int → lf_Z → Prop) (x8 : Int) (s : lf_Z) : Prop := lf_R x8 ∧ ((156 ≤ x8 → (fm_289_p116L X82 Q x1 x2 x3 x4 x5 x7 0 s)) ∧ (¬ (156 ≤ x8) → ((0 ≤ x8 ∧ x8 < 156) ∧ (X91 (x8 + 1) (s.1, lf_up s.2.1 110 x8 0, s.2.2)))))
def fm_289_p91L (X82 : Int → Int → lf_Z → Prop) (Q : Int → lf_Z → Prop) (x1 : Int) (x2 : Int) (x3 : Int) (x4 : Int) (x5 : Int) (x7 : Int) (x8 : Int) (s : lf_Z) : Prop := ∀ X91 : Int → lf_Z → Prop, (∀ (x8 : Int) (s : lf_Z), fm_289_p91 X82 Q x1 x2 x3 x4 x5 x7 X91 x8 s → X91 x8 s) → X91 x8 s
set_option maxRecDepth 100000 in
theorem gm_289_p91 {L : Nat} {xs : Nat → Int32} {d : Nat} {X82 : Int → Int → lf_Z → Prop} {Q : Int → lf_Z → Prop} {x1 : Int} {x2 : Int} {x3 : Int} {x4 : Int} {x5 : Int} {x7 : Int} {x8 : Int} {s : lf_Z} {X91 : Int → lf_Z → Prop} (hX82 : ∀ x5 x7 s, X82 x5 x7 s → lf_E (px_ro L xs) (d + 7) 289 82 [(0, .ref 95), (1, .int (Int32.ofInt x1)), (2, .int (Int32.ofInt x2)), (3, .int (Int32.ofInt x3)), (4, .int (Int32.ofInt x4)), (5, .long (Int64.ofInt x5)), (7, .int (Int32.ofInt x7))] [] s (lf_ql Q)) (hX91 : ∀ x8 s, X91 x8 s → lf_E (px_ro L xs) (d + 7) 289 91 [(0, .ref 95), (1, .int (Int32.ofInt x1)), (2, .int (Int32.ofInt x2)), (3, .int (Int32.ofInt x3)), (4, .int (Int32.ofInt x4)), (5, .long (Int64.ofInt x5)), (7, .int (Int32.ofInt x7)), (8, .int (Int32.ofInt x8))] [] s (lf_ql Q)) (h : fm_289_p91 X82 Q x1 x2 x3 x4 x5 x7 X91 x8 s) : lf_E (px_ro L xs) (d + 7) 289 91 [(0, .ref 95), (1, .int (Int32.ofInt x1)), (2, .int (Int32.ofInt x2)), (3, .int (Int32.ofInt x3)), (4, .int (Int32.ofInt x4)), (5, .long (Int64.ofInt x5)), (7, .int (Int32.ofInt x7)), (8, .int (Int32.ofInt x8))] [] s (lf_ql Q) := by
  unfold fm_289_p91 at h
  refine lf_eqs (lv' := [(0, .ref 95), (1, .int (Int32.ofInt x1)), (2, .int (Int32.ofInt x2)), (3, .int (Int32.ofInt x3)), (4, .int (Int32.ofInt x4)), (5, .long (Int64.ofInt (lf_wl x5))), (7, .int (Int32.ofInt x7)), (8, .int (Int32.ofInt x8))]) (st' := []) (by simp only [lf_wlE]) rfl ?_
  refine lf_seg 1 (pc' := 93) (lv' := [(0, .ref 95), (1, .int (Int32.ofInt x1)), (2, .int (Int32.ofInt x2)), (3, .int (Int32.ofInt x3)), (4, .int (Int32.ofInt x4)), (5, .long (Int64.ofInt (lf_wl x5))), (7, .int (Int32.ofInt x7)), (8, .int (Int32.ofInt x8))]) (st' := [.int (Int32.ofInt x8)]) rfl ?_
  refine lf_sipush 96 156 rfl rfl (by decide) (by decide) ?_
  obtain ⟨o39, h⟩ := h
  refine lf_icmp_ge 113 99 rfl rfl rfl o39 ⟨by decide, by decide⟩ (fun c => ?_) (fun c => ?_)
  · have h := h.1 c
    refine lf_seg 2 (pc' := 116) (lv' := [(8, .int (Int32.ofInt 0)), (0, .ref 95), (1, .int (Int32.ofInt x1)), (2, .int (Int32.ofInt x2)), (3, .int (Int32.ofInt x3)), (4, .int (Int32.ofInt x4)), (5, .long (Int64.ofInt (lf_wl x5))), (7, .int (Int32.ofInt x7))]) (st' := []) rfl ?_
    refine lf_eqs (lv' := [(8, .int (Int32.ofInt 0)), (0, .ref 95), (1, .int (Int32.ofInt x1)), (2, .int (Int32.ofInt x2)), (3, .int (Int32.ofInt x3)), (4, .int (Int32.ofInt x4)), (5, .long (Int64.ofInt x5)), (7, .int (Int32.ofInt x7))]) (st' := []) (by simp only [lf_wlE]) rfl ?_
    refine lf_sub (l := [(0, .ref 95), (1, .int (Int32.ofInt x1)), (2, .int (Int32.ofInt x2)), (3, .int (Int32.ofInt x3)), (4, .int (Int32.ofInt x4)), (5, .long (Int64.ofInt x5)), (7, .int (Int32.ofInt x7)), (8, .int (Int32.ofInt 0))]) (lf_sb1 rfl (lf_sb1 rfl (lf_sb1 rfl (lf_sb1 rfl (lf_sb1 rfl (lf_sb1 rfl (lf_sb1 rfl (lf_sb1 rfl lf_sb0)))))))) ?_
    exact gm_289_p116L hX82 h
  · have h := h.2 c
    refine lf_seg 3 (pc' := 105) (lv' := [(0, .ref 95), (1, .int (Int32.ofInt x1)), (2, .int (Int32.ofInt x2)), (3, .int (Int32.ofInt x3)), (4, .int (Int32.ofInt x4)), (5, .long (Int64.ofInt (lf_wl x5))), (7, .int (Int32.ofInt x7)), (8, .int (Int32.ofInt x8))]) (st' := [.int (Int32.ofInt x8), .ref 110]) rfl ?_
    refine lf_lconst 106 0 rfl rfl (by decide) ?_
    obtain ⟨o47, h⟩ := h
    refine lf_last 107 156 rfl rfl rfl rfl rfl rfl o47 ?_
    refine lf_as (s.1, lf_up s.2.1 110 x8 0, s.2.2) rfl ?_
    refine lf_iinc 110 rfl rfl rfl rfl ?_
    refine lf_seg 1 (pc' := 91) (lv' := [(8, .int (Int32.ofInt (x8 + 1))), (0, .ref 95), (1, .int (Int32.ofInt x1)), (2, .int (Int32.ofInt x2)), (3, .int (Int32.ofInt x3)), (4, .int (Int32.ofInt x4)), (5, .long (Int64.ofInt (lf_wl x5))), (7, .int (Int32.ofInt x7))]) (st' := []) rfl ?_
    refine lf_eqs (lv' := [(8, .int (Int32.ofInt (x8 + 1))), (0, .ref 95), (1, .int (Int32.ofInt x1)), (2, .int (Int32.ofInt x2)), (3, .int (Int32.ofInt x3)), (4, .int (Int32.ofInt x4)), (5, .long (Int64.ofInt x5)), (7, .int (Int32.ofInt x7))]) (st' := []) (by simp only [lf_wlE]) rfl ?_
    refine lf_sub (l := [(0, .ref 95), (1, .int (Int32.ofInt x1)), (2, .int (Int32.ofInt x2)), (3, .int (Int32.ofInt x3)), (4, .int (Int32.ofInt x4)), (5, .long (Int64.ofInt x5)), (7, .int (Int32.ofInt x7)), (8, .int (Int32.ofInt (x8 + 1)))]) (lf_sb1 rfl (lf_sb1 rfl (lf_sb1 rfl (lf_sb1 rfl (lf_sb1 rfl (lf_sb1 rfl (lf_sb1 rfl (lf_sb1 rfl lf_sb0)))))))) ?_
    exact hX91 _ _ h
theorem gm_289_p91L {L : Nat} {xs : Nat → Int32} {d : Nat} {X82 : Int → Int → lf_Z → Prop} {Q : Int → lf_Z → Prop} {x1 : Int} {x2 : Int} {x3 : Int} {x4 : Int} {x5 : Int} {x7 : Int} {x8 : Int} {s : lf_Z} (hX82 : ∀ x5 x7 s, X82 x5 x7 s → lf_E (px_ro L xs) (d + 7) 289 82 [(0, .ref 95), (1, .int (Int32.ofInt x1)), (2, .int (Int32.ofInt x2)), (3, .int (Int32.ofInt x3)), (4, .int (Int32.ofInt x4)), (5, .long (Int64.ofInt x5)), (7, .int (Int32.ofInt x7))] [] s (lf_ql Q)) (h : fm_289_p91L X82 Q x1 x2 x3 x4 x5 x7 x8 s) : lf_E (px_ro L xs) (d + 7) 289 91 [(0, .ref 95), (1, .int (Int32.ofInt x1)), (2, .int (Int32.ofInt x2)), (3, .int (Int32.ofInt x3)), (4, .int (Int32.ofInt x4)), (5, .long (Int64.ofInt x5)), (7, .int (Int32.ofInt x7)), (8, .int (Int32.ofInt x8))] [] s (lf_ql Q) :=
  h (fun x8 s => lf_E (px_ro L xs) (d + 7) 289 91 [(0, .ref 95), (1, .int (Int32.ofInt x1)), (2, .int (Int32.ofInt x2)), (3, .int (Int32.ofInt x3)), (4, .int (Int32.ofInt x4)), (5, .long (Int64.ofInt x5)), (7, .int (Int32.ofInt x7)), (8, .int (Int32.ofInt x8))] [] s (lf_ql Q)) (fun x8 s hb => gm_289_p91 hX82 (fun _ _ h => h) hb)
def fm_289_p82 (Q : Int → lf_Z → Prop) (x1 : Int) (x2 : Int) (x3 : Int) (x4 : Int) (X82 : Int → Int → lf_Z → Prop) (x5 : Int) (x7 : Int) (s : lf_Z) : Prop := lf_R x7 ∧ (lf_R x2 ∧ ((x2 ≤ x7 → (fm_289_p204L Q x3 x4 x5 0 0 s)) ∧ (¬ (x2 ≤ x7) → (fm_289_p91L X82 Q x1 x2 x3 x4 x5 x7 0 s))))
def fm_289_p82L (Q : Int → lf_Z → Prop) (x1 : Int) (x2 : Int) (x3 : Int) (x4 : Int) (x5 : Int) (x7 : Int) (s : lf_Z) : Prop := ∀ X82 : Int → Int → lf_Z → Prop, (∀ (x5 : Int) (x7 : Int) (s : lf_Z), fm_289_p82 Q x1 x2 x3 x4 X82 x5 x7 s → X82 x5 x7 s) → X82 x5 x7 s
set_option maxRecDepth 100000 in
theorem gm_289_p82 {L : Nat} {xs : Nat → Int32} {d : Nat} {Q : Int → lf_Z → Prop} {x1 : Int} {x2 : Int} {x3 : Int} {x4 : Int} {x5 : Int} {x7 : Int} {s : lf_Z} {X82 : Int → Int → lf_Z → Prop} (hX82 : ∀ x5 x7 s, X82 x5 x7 s → lf_E (px_ro L xs) (d + 7) 289 82 [(0, .ref 95), (1, .int (Int32.ofInt x1)), (2, .int (Int32.ofInt x2)), (3, .int (Int32.ofInt x3)), (4, .int (Int32.ofInt x4)), (5, .long (Int64.ofInt x5)), (7, .int (Int32.ofInt x7))] [] s (lf_ql Q)) (h : fm_289_p82 Q x1 x2 x3 x4 X82 x5 x7 s) : lf_E (px_ro L xs) (d + 7) 289 82 [(0, .ref 95), (1, .int (Int32.ofInt x1)), (2, .int (Int32.ofInt x2)), (3, .int (Int32.ofInt x3)), (4, .int (Int32.ofInt x4)), (5, .long (Int64.ofInt x5)), (7, .int (Int32.ofInt x7))] [] s (lf_ql Q) := by
  unfold fm_289_p82 at h
  refine lf_eqs (lv' := [(0, .ref 95), (1, .int (Int32.ofInt x1)), (2, .int (Int32.ofInt x2)), (3, .int (Int32.ofInt x3)), (4, .int (Int32.ofInt x4)), (5, .long (Int64.ofInt (lf_wl x5))), (7, .int (Int32.ofInt x7))]) (st' := []) (by simp only [lf_wlE]) rfl ?_
  refine lf_seg 2 (pc' := 85) (lv' := [(0, .ref 95), (1, .int (Int32.ofInt x1)), (2, .int (Int32.ofInt x2)), (3, .int (Int32.ofInt x3)), (4, .int (Int32.ofInt x4)), (5, .long (Int64.ofInt (lf_wl x5))), (7, .int (Int32.ofInt x7))]) (st' := [.int (Int32.ofInt x2), .int (Int32.ofInt x7)]) rfl ?_
  obtain ⟨o33, h⟩ := h
  obtain ⟨o34, h⟩ := h
  refine lf_icmp_ge 198 88 rfl rfl rfl o33 o34 (fun c => ?_) (fun c => ?_)
  · have h := h.1 c
    refine lf_lconst 199 0 rfl rfl (by decide) ?_
    refine lf_seg 3 (pc' := 204) (lv' := [(9, .int (Int32.ofInt 0)), (7, .long (Int64.ofInt 0)), (0, .ref 95), (1, .int (Int32.ofInt x1)), (2, .int (Int32.ofInt x2)), (3, .int (Int32.ofInt x3)), (4, .int (Int32.ofInt x4)), (5, .long (Int64.ofInt (lf_wl x5)))]) (st' := []) rfl ?_
    refine lf_eqs (lv' := [(9, .int (Int32.ofInt 0)), (7, .long (Int64.ofInt 0)), (0, .ref 95), (1, .int (Int32.ofInt x1)), (2, .int (Int32.ofInt x2)), (3, .int (Int32.ofInt x3)), (4, .int (Int32.ofInt x4)), (5, .long (Int64.ofInt x5))]) (st' := []) (by simp only [lf_wlE]) rfl ?_
    refine lf_sub (l := [(0, .ref 95), (3, .int (Int32.ofInt x3)), (4, .int (Int32.ofInt x4)), (5, .long (Int64.ofInt x5)), (7, .long (Int64.ofInt 0)), (9, .int (Int32.ofInt 0))]) (lf_sb1 rfl (lf_sb1 rfl (lf_sb1 rfl (lf_sb1 rfl (lf_sb1 rfl (lf_sb1 rfl lf_sb0)))))) ?_
    exact gm_289_p204L h
  · have h := h.2 c
    refine lf_seg 2 (pc' := 91) (lv' := [(8, .int (Int32.ofInt 0)), (0, .ref 95), (1, .int (Int32.ofInt x1)), (2, .int (Int32.ofInt x2)), (3, .int (Int32.ofInt x3)), (4, .int (Int32.ofInt x4)), (5, .long (Int64.ofInt (lf_wl x5))), (7, .int (Int32.ofInt x7))]) (st' := []) rfl ?_
    refine lf_eqs (lv' := [(8, .int (Int32.ofInt 0)), (0, .ref 95), (1, .int (Int32.ofInt x1)), (2, .int (Int32.ofInt x2)), (3, .int (Int32.ofInt x3)), (4, .int (Int32.ofInt x4)), (5, .long (Int64.ofInt x5)), (7, .int (Int32.ofInt x7))]) (st' := []) (by simp only [lf_wlE]) rfl ?_
    refine lf_sub (l := [(0, .ref 95), (1, .int (Int32.ofInt x1)), (2, .int (Int32.ofInt x2)), (3, .int (Int32.ofInt x3)), (4, .int (Int32.ofInt x4)), (5, .long (Int64.ofInt x5)), (7, .int (Int32.ofInt x7)), (8, .int (Int32.ofInt 0))]) (lf_sb1 rfl (lf_sb1 rfl (lf_sb1 rfl (lf_sb1 rfl (lf_sb1 rfl (lf_sb1 rfl (lf_sb1 rfl (lf_sb1 rfl lf_sb0)))))))) ?_
    exact gm_289_p91L hX82 h
theorem gm_289_p82L {L : Nat} {xs : Nat → Int32} {d : Nat} {Q : Int → lf_Z → Prop} {x1 : Int} {x2 : Int} {x3 : Int} {x4 : Int} {x5 : Int} {x7 : Int} {s : lf_Z} (h : fm_289_p82L Q x1 x2 x3 x4 x5 x7 s) : lf_E (px_ro L xs) (d + 7) 289 82 [(0, .ref 95), (1, .int (Int32.ofInt x1)), (2, .int (Int32.ofInt x2)), (3, .int (Int32.ofInt x3)), (4, .int (Int32.ofInt x4)), (5, .long (Int64.ofInt x5)), (7, .int (Int32.ofInt x7))] [] s (lf_ql Q) :=
  h (fun x5 x7 s => lf_E (px_ro L xs) (d + 7) 289 82 [(0, .ref 95), (1, .int (Int32.ofInt x1)), (2, .int (Int32.ofInt x2)), (3, .int (Int32.ofInt x3)), (4, .int (Int32.ofInt x4)), (5, .long (Int64.ofInt x5)), (7, .int (Int32.ofInt x7))] [] s (lf_ql Q)) (fun x5 x7 s hb => gm_289_p82 (fun _ _ _ h => h) hb)
def fm_289_p32 (Q : Int → lf_Z → Prop) (x1 : Int) (x2 : Int) (x3 : Int) (x4 : Int) (X32 : Int → lf_Z → Prop) (x5 : Int) (s : lf_Z) : Prop := lf_R x5 ∧ ((156 ≤ x5 → (fm_255 x1 (fun r29 s28 => (fm_256 x1 (fun r31 s30 => ((0 ≤ ((13 * r29) + r31) + 1 ∧ ((13 * r29) + r31) + 1 < 156) ∧ (fm_289_p82L Q x1 x2 x3 x4 1 0 (s30.1, lf_up s30.2.1 109 (((13 * r29) + r31) + 1) 1, s30.2.2)))) s28)) s)) ∧ (¬ (156 ≤ x5) → ((0 ≤ x5 ∧ x5 < 156) ∧ (X32 (x5 + 1) (s.1, lf_up s.2.1 109 x5 0, s.2.2)))))
def fm_289_p32L (Q : Int → lf_Z → Prop) (x1 : Int) (x2 : Int) (x3 : Int) (x4 : Int) (x5 : Int) (s : lf_Z) : Prop := ∀ X32 : Int → lf_Z → Prop, (∀ (x5 : Int) (s : lf_Z), fm_289_p32 Q x1 x2 x3 x4 X32 x5 s → X32 x5 s) → X32 x5 s
set_option maxRecDepth 100000 in
theorem gm_289_p32 {L : Nat} {xs : Nat → Int32} {d : Nat} {Q : Int → lf_Z → Prop} {x1 : Int} {x2 : Int} {x3 : Int} {x4 : Int} {x5 : Int} {s : lf_Z} {X32 : Int → lf_Z → Prop} (hX32 : ∀ x5 s, X32 x5 s → lf_E (px_ro L xs) (d + 7) 289 32 [(0, .ref 95), (1, .int (Int32.ofInt x1)), (2, .int (Int32.ofInt x2)), (3, .int (Int32.ofInt x3)), (4, .int (Int32.ofInt x4)), (5, .int (Int32.ofInt x5))] [] s (lf_ql Q)) (h : fm_289_p32 Q x1 x2 x3 x4 X32 x5 s) : lf_E (px_ro L xs) (d + 7) 289 32 [(0, .ref 95), (1, .int (Int32.ofInt x1)), (2, .int (Int32.ofInt x2)), (3, .int (Int32.ofInt x3)), (4, .int (Int32.ofInt x4)), (5, .int (Int32.ofInt x5))] [] s (lf_ql Q) := by
  unfold fm_289_p32 at h
  refine lf_seg 1 (pc' := 34) (lv' := [(0, .ref 95), (1, .int (Int32.ofInt x1)), (2, .int (Int32.ofInt x2)), (3, .int (Int32.ofInt x3)), (4, .int (Int32.ofInt x4)), (5, .int (Int32.ofInt x5))]) (st' := [.int (Int32.ofInt x5)]) rfl ?_
  refine lf_sipush 37 156 rfl rfl (by decide) (by decide) ?_
  obtain ⟨o27, h⟩ := h
  refine lf_icmp_ge 54 40 rfl rfl rfl o27 ⟨by decide, by decide⟩ (fun c => ?_) (fun c => ?_)
  · have h := h.1 c
    refine lf_seg 2 (pc' := 58) (lv' := [(0, .ref 95), (1, .int (Int32.ofInt x1)), (2, .int (Int32.ofInt x2)), (3, .int (Int32.ofInt x3)), (4, .int (Int32.ofInt x4)), (5, .int (Int32.ofInt x5))]) (st' := [.ref 109]) rfl ?_
    refine lf_bipush 60 13 rfl rfl (by decide) (by decide) ?_
    refine lf_seg 2 (pc' := 62) (lv' := [(0, .ref 95), (1, .int (Int32.ofInt x1)), (2, .int (Int32.ofInt x2)), (3, .int (Int32.ofInt x3)), (4, .int (Int32.ofInt x4)), (5, .int (Int32.ofInt x5))]) (st' := [.int (Int32.ofInt x1), .ref 95, .int (Int32.ofInt 13), .ref 109]) rfl ?_
    refine lf_callI 65 rfl rfl rfl rfl (gm_255 h) (fun r29 s28 h => ?_)
    refine lf_imul 66 rfl rfl ?_
    refine lf_seg 2 (pc' := 68) (lv' := [(0, .ref 95), (1, .int (Int32.ofInt x1)), (2, .int (Int32.ofInt x2)), (3, .int (Int32.ofInt x3)), (4, .int (Int32.ofInt x4)), (5, .int (Int32.ofInt x5))]) (st' := [.int (Int32.ofInt x1), .ref 95, .int (Int32.ofInt (13 * r29)), .ref 109]) rfl ?_
    refine lf_callI 71 rfl rfl rfl rfl (gm_256 h) (fun r31 s30 h => ?_)
    refine lf_iadd 72 rfl rfl ?_
    refine lf_seg 1 (pc' := 73) (lv' := [(0, .ref 95), (1, .int (Int32.ofInt x1)), (2, .int (Int32.ofInt x2)), (3, .int (Int32.ofInt x3)), (4, .int (Int32.ofInt x4)), (5, .int (Int32.ofInt x5))]) (st' := [.int (Int32.ofInt 1), .int (Int32.ofInt ((13 * r29) + r31)), .ref 109]) rfl ?_
    refine lf_iadd 74 rfl rfl ?_
    refine lf_lconst 75 1 rfl rfl (by decide) ?_
    obtain ⟨o32, h⟩ := h
    refine lf_last 76 156 rfl rfl rfl rfl rfl rfl o32 ?_
    refine lf_as (s30.1, lf_up s30.2.1 109 (((13 * r29) + r31) + 1) 1, s30.2.2) rfl ?_
    refine lf_lconst 77 1 rfl rfl (by decide) ?_
    refine lf_seg 3 (pc' := 82) (lv' := [(7, .int (Int32.ofInt 0)), (5, .long (Int64.ofInt 1)), (0, .ref 95), (1, .int (Int32.ofInt x1)), (2, .int (Int32.ofInt x2)), (3, .int (Int32.ofInt x3)), (4, .int (Int32.ofInt x4))]) (st' := []) rfl ?_
    refine lf_sub (l := [(0, .ref 95), (1, .int (Int32.ofInt x1)), (2, .int (Int32.ofInt x2)), (3, .int (Int32.ofInt x3)), (4, .int (Int32.ofInt x4)), (5, .long (Int64.ofInt 1)), (7, .int (Int32.ofInt 0))]) (lf_sb1 rfl (lf_sb1 rfl (lf_sb1 rfl (lf_sb1 rfl (lf_sb1 rfl (lf_sb1 rfl (lf_sb1 rfl lf_sb0))))))) ?_
    exact gm_289_p82L h
  · have h := h.2 c
    refine lf_seg 3 (pc' := 46) (lv' := [(0, .ref 95), (1, .int (Int32.ofInt x1)), (2, .int (Int32.ofInt x2)), (3, .int (Int32.ofInt x3)), (4, .int (Int32.ofInt x4)), (5, .int (Int32.ofInt x5))]) (st' := [.int (Int32.ofInt x5), .ref 109]) rfl ?_
    refine lf_lconst 47 0 rfl rfl (by decide) ?_
    obtain ⟨o48, h⟩ := h
    refine lf_last 48 156 rfl rfl rfl rfl rfl rfl o48 ?_
    refine lf_as (s.1, lf_up s.2.1 109 x5 0, s.2.2) rfl ?_
    refine lf_iinc 51 rfl rfl rfl rfl ?_
    refine lf_seg 1 (pc' := 32) (lv' := [(5, .int (Int32.ofInt (x5 + 1))), (0, .ref 95), (1, .int (Int32.ofInt x1)), (2, .int (Int32.ofInt x2)), (3, .int (Int32.ofInt x3)), (4, .int (Int32.ofInt x4))]) (st' := []) rfl ?_
    refine lf_sub (l := [(0, .ref 95), (1, .int (Int32.ofInt x1)), (2, .int (Int32.ofInt x2)), (3, .int (Int32.ofInt x3)), (4, .int (Int32.ofInt x4)), (5, .int (Int32.ofInt (x5 + 1)))]) (lf_sb1 rfl (lf_sb1 rfl (lf_sb1 rfl (lf_sb1 rfl (lf_sb1 rfl (lf_sb1 rfl lf_sb0)))))) ?_
    exact hX32 _ _ h
theorem gm_289_p32L {L : Nat} {xs : Nat → Int32} {d : Nat} {Q : Int → lf_Z → Prop} {x1 : Int} {x2 : Int} {x3 : Int} {x4 : Int} {x5 : Int} {s : lf_Z} (h : fm_289_p32L Q x1 x2 x3 x4 x5 s) : lf_E (px_ro L xs) (d + 7) 289 32 [(0, .ref 95), (1, .int (Int32.ofInt x1)), (2, .int (Int32.ofInt x2)), (3, .int (Int32.ofInt x3)), (4, .int (Int32.ofInt x4)), (5, .int (Int32.ofInt x5))] [] s (lf_ql Q) :=
  h (fun x5 s => lf_E (px_ro L xs) (d + 7) 289 32 [(0, .ref 95), (1, .int (Int32.ofInt x1)), (2, .int (Int32.ofInt x2)), (3, .int (Int32.ofInt x3)), (4, .int (Int32.ofInt x4)), (5, .int (Int32.ofInt x5))] [] s (lf_ql Q)) (fun x5 s hb => gm_289_p32 (fun _ _ h => h) hb)
def fm_289 (a1 : Int) (a2 : Int) (a3 : Int) (a4 : Int) (Q : Int → lf_Z → Prop) (s : lf_Z) : Prop := fm_254 a1 (fun z22 s21 => ((z22 = false → (fm_289_p25 Q s21)) ∧ (z22 = true → (fm_183 a2 0 4 (fun z24 s23 => ((z24 = false → (fm_289_p25 Q s23)) ∧ (z24 = true → (fm_185 a3 (fun z26 s25 => ((z26 = true → (fm_289_p32L Q a1 a2 a3 a4 0 s25)) ∧ (z26 = false → (fm_289_p25 Q s25)))) s23)))) s21)))) s
set_option maxRecDepth 100000 in
theorem gm_289 {L : Nat} {xs : Nat → Int32} {d : Nat} {a1 : Int} {a2 : Int} {a3 : Int} {a4 : Int} {Q : Int → lf_Z → Prop} {s : lf_Z} (h : fm_289 a1 a2 a3 a4 Q s) : lf_M (px_ro L xs) (d + 7) 289 [.ref 95, .int (Int32.ofInt a1), .int (Int32.ofInt a2), .int (Int32.ofInt a3), .int (Int32.ofInt a4)] s (lf_ql Q) := by
  unfold fm_289 at h
  show lf_E (px_ro L xs) (d + 7) 289 0 [(0, .ref 95), (1, .int (Int32.ofInt a1)), (2, .int (Int32.ofInt a2)), (3, .int (Int32.ofInt a3)), (4, .int (Int32.ofInt a4))] [] s _
  refine lf_seg 2 (pc' := 2) (lv' := [(0, .ref 95), (1, .int (Int32.ofInt a1)), (2, .int (Int32.ofInt a2)), (3, .int (Int32.ofInt a3)), (4, .int (Int32.ofInt a4))]) (st' := [.int (Int32.ofInt a1), .ref 95]) rfl ?_
  refine lf_callZ 5 rfl rfl rfl rfl (gm_254 h) (fun z22 s21 h => ?_)
  refine lf_ifz_eq 25 8 rfl rfl rfl (fun c => ?_) (fun c => ?_)
  · have h := h.1 c
    refine lf_sub (l := []) lf_sb0 ?_
    exact gm_289_p25 h
  · have h := h.2 c
    refine lf_seg 3 (pc' := 11) (lv' := [(0, .ref 95), (1, .int (Int32.ofInt a1)), (2, .int (Int32.ofInt a2)), (3, .int (Int32.ofInt a3)), (4, .int (Int32.ofInt a4))]) (st' := [.int (Int32.ofInt 4), .int (Int32.ofInt 0), .int (Int32.ofInt a2)]) rfl ?_
    refine lf_callZ 14 rfl rfl rfl rfl (gm_183 h) (fun z24 s23 h => ?_)
    refine lf_ifz_eq 25 17 rfl rfl rfl (fun c => ?_) (fun c => ?_)
    · have h := h.1 c
      refine lf_sub (l := []) lf_sb0 ?_
      exact gm_289_p25 h
    · have h := h.2 c
      refine lf_seg 2 (pc' := 19) (lv' := [(0, .ref 95), (1, .int (Int32.ofInt a1)), (2, .int (Int32.ofInt a2)), (3, .int (Int32.ofInt a3)), (4, .int (Int32.ofInt a4))]) (st' := [.int (Int32.ofInt a3), .ref 95]) rfl ?_
      refine lf_callZ 22 rfl rfl rfl rfl (gm_185 h) (fun z26 s25 h => ?_)
      refine lf_ifz_ne 29 25 rfl rfl rfl (fun c => ?_) (fun c => ?_)
      · have h := h.1 c
        refine lf_seg 2 (pc' := 32) (lv' := [(5, .int (Int32.ofInt 0)), (0, .ref 95), (1, .int (Int32.ofInt a1)), (2, .int (Int32.ofInt a2)), (3, .int (Int32.ofInt a3)), (4, .int (Int32.ofInt a4))]) (st' := []) rfl ?_
        refine lf_sub (l := [(0, .ref 95), (1, .int (Int32.ofInt a1)), (2, .int (Int32.ofInt a2)), (3, .int (Int32.ofInt a3)), (4, .int (Int32.ofInt a4)), (5, .int (Int32.ofInt 0))]) (lf_sb1 rfl (lf_sb1 rfl (lf_sb1 rfl (lf_sb1 rfl (lf_sb1 rfl (lf_sb1 rfl lf_sb0)))))) ?_
        exact gm_289_p32L h
      · have h := h.2 c
        refine lf_sub (l := []) lf_sb0 ?_
        exact gm_289_p25 h
-- fm_129 Walk.goFrom 68 i i
def fm_129_p113 (X11 : Int → Int → lf_Z → Prop) (Q : Int → lf_Z → Prop) (x1 : Int) (x3 : Int) (x4 : Int) (x5 : Int) (x7 : Int) (s : lf_Z) : Prop := lf_R x7 ∧ ((x7 ≠ 10 → (X11 x4 (x5 + 1) s)) ∧ (¬ (x7 ≠ 10) → (Q x4 s)))
set_option maxRecDepth 100000 in
theorem gm_129_p113 {L : Nat} {xs : Nat → Int32} {d : Nat} {X11 : Int → Int → lf_Z → Prop} {Q : Int → lf_Z → Prop} {x1 : Int} {x3 : Int} {x4 : Int} {x5 : Int} {x7 : Int} {s : lf_Z} (hX11 : ∀ x4 x5 s, X11 x4 x5 s → lf_E (px_ro L xs) (d + 5) 129 11 [(0, .ref 68), (1, .int (Int32.ofInt x1)), (3, .int (Int32.ofInt x3)), (4, .int (Int32.ofInt x4)), (5, .int (Int32.ofInt x5))] [] s (lf_qi Q)) (h : fm_129_p113 X11 Q x1 x3 x4 x5 x7 s) : lf_E (px_ro L xs) (d + 5) 129 113 [(0, .ref 68), (1, .int (Int32.ofInt x1)), (3, .int (Int32.ofInt x3)), (4, .int (Int32.ofInt x4)), (5, .int (Int32.ofInt x5)), (7, .int (Int32.ofInt x7))] [] s (lf_qi Q) := by
  unfold fm_129_p113 at h
  refine lf_seg 1 (pc' := 115) (lv' := [(0, .ref 68), (1, .int (Int32.ofInt x1)), (3, .int (Int32.ofInt x3)), (4, .int (Int32.ofInt x4)), (5, .int (Int32.ofInt x5)), (7, .int (Int32.ofInt x7))]) (st' := [.int (Int32.ofInt x7)]) rfl ?_
  refine lf_bipush 117 10 rfl rfl (by decide) (by decide) ?_
  obtain ⟨o34, h⟩ := h
  refine lf_icmp_ne 123 120 rfl rfl rfl o34 ⟨by decide, by decide⟩ (fun c => ?_) (fun c => ?_)
  · have h := h.1 c
    refine lf_iinc 126 rfl rfl rfl rfl ?_
    refine lf_seg 1 (pc' := 11) (lv' := [(5, .int (Int32.ofInt (x5 + 1))), (0, .ref 68), (1, .int (Int32.ofInt x1)), (3, .int (Int32.ofInt x3)), (4, .int (Int32.ofInt x4)), (7, .int (Int32.ofInt x7))]) (st' := []) rfl ?_
    refine lf_sub (l := [(0, .ref 68), (1, .int (Int32.ofInt x1)), (3, .int (Int32.ofInt x3)), (4, .int (Int32.ofInt x4)), (5, .int (Int32.ofInt (x5 + 1)))]) (lf_sb1 rfl (lf_sb1 rfl (lf_sb1 rfl (lf_sb1 rfl (lf_sb1 rfl lf_sb0))))) ?_
    exact hX11 _ _ _ h
  · have h := h.2 c
    refine lf_seg 2 (pc' := 131) (lv' := [(0, .ref 68), (1, .int (Int32.ofInt x1)), (3, .int (Int32.ofInt x3)), (4, .int (Int32.ofInt x4)), (5, .int (Int32.ofInt x5)), (7, .int (Int32.ofInt x7))]) (st' := [.int (Int32.ofInt x4)]) rfl ?_
    exact lf_retI rfl rfl h
def fm_129_p11 (Q : Int → lf_Z → Prop) (x1 : Int) (x3 : Int) (X11 : Int → Int → lf_Z → Prop) (x4 : Int) (x5 : Int) (s : lf_Z) : Prop := fm_76 x3 (fun r23 s22 => (lf_R x5 ∧ (lf_R r23 ∧ ((r23 ≤ x5 → (Q x4 s22)) ∧ (¬ (r23 ≤ x5) → (fm_77 x3 x5 (fun r27 s26 => (lf_R x1 ∧ (fm_123 r27 x3 ((x1.tmod 13) - 1) (fun r30 s29 => (fm_78 r27 x3 (fun r32 s31 => (lf_R r30 ∧ ((r30 ≤ 0 → (fm_129_p113 X11 Q x1 x3 x4 x5 r30 s31)) ∧ (¬ (r30 ≤ 0) → ((0 ≤ ((r32 * 13) + x3) + 1 ∧ ((r32 * 13) + x3) + 1 < 156) ∧ (lf_R (s31.1 71 (((r32 * 13) + x3) + 1)) ∧ ((s31.1 71 (((r32 * 13) + x3) + 1) ≠ 0 → (fm_129_p113 X11 Q x1 x3 x4 x5 r30 s31)) ∧ (¬ (s31.1 71 (((r32 * 13) + x3) + 1) ≠ 0) → (lf_R x4 ∧ ((156 ≤ x4 → (fm_129_p113 X11 Q x1 x3 x4 x5 r30 s31)) ∧ (¬ (156 ≤ x4) → ((0 ≤ x4 ∧ x4 < 156) ∧ (fm_129_p113 X11 Q x1 x3 (x4 + 1) x5 r30 (lf_up (lf_up s31.1 71 (((r32 * 13) + x3) + 1) 1) 70 x4 (((r32 * 13) + x3) + 1), s31.2.1, s31.2.2)))))))))))))) s29)) s26))) s22)))))) s
def fm_129_p11L (Q : Int → lf_Z → Prop) (x1 : Int) (x3 : Int) (x4 : Int) (x5 : Int) (s : lf_Z) : Prop := ∀ X11 : Int → Int → lf_Z → Prop, (∀ (x4 : Int) (x5 : Int) (s : lf_Z), fm_129_p11 Q x1 x3 X11 x4 x5 s → X11 x4 x5 s) → X11 x4 x5 s
set_option maxRecDepth 100000 in
theorem gm_129_p11 {L : Nat} {xs : Nat → Int32} {d : Nat} {Q : Int → lf_Z → Prop} {x1 : Int} {x3 : Int} {x4 : Int} {x5 : Int} {s : lf_Z} {X11 : Int → Int → lf_Z → Prop} (hX11 : ∀ x4 x5 s, X11 x4 x5 s → lf_E (px_ro L xs) (d + 5) 129 11 [(0, .ref 68), (1, .int (Int32.ofInt x1)), (3, .int (Int32.ofInt x3)), (4, .int (Int32.ofInt x4)), (5, .int (Int32.ofInt x5))] [] s (lf_qi Q)) (h : fm_129_p11 Q x1 x3 X11 x4 x5 s) : lf_E (px_ro L xs) (d + 5) 129 11 [(0, .ref 68), (1, .int (Int32.ofInt x1)), (3, .int (Int32.ofInt x3)), (4, .int (Int32.ofInt x4)), (5, .int (Int32.ofInt x5))] [] s (lf_qi Q) := by
  unfold fm_129_p11 at h
  refine lf_seg 4 (pc' := 18) (lv' := [(0, .ref 68), (1, .int (Int32.ofInt x1)), (3, .int (Int32.ofInt x3)), (4, .int (Int32.ofInt x4)), (5, .int (Int32.ofInt x5))]) (st' := [.int (Int32.ofInt x3), .ref 1, .int (Int32.ofInt x5)]) rfl ?_
  refine lf_callI 21 rfl rfl rfl rfl (gm_76 h) (fun r23 s22 h => ?_)
  obtain ⟨o24, h⟩ := h
  obtain ⟨o25, h⟩ := h
  refine lf_icmp_ge 129 24 rfl rfl rfl o24 o25 (fun c => ?_) (fun c => ?_)
  · have h := h.1 c
    refine lf_seg 1 (pc' := 131) (lv' := [(0, .ref 68), (1, .int (Int32.ofInt x1)), (3, .int (Int32.ofInt x3)), (4, .int (Int32.ofInt x4)), (5, .int (Int32.ofInt x5))]) (st' := [.int (Int32.ofInt x4)]) rfl ?_
    exact lf_retI rfl rfl h
  · have h := h.2 c
    refine lf_seg 4 (pc' := 31) (lv' := [(0, .ref 68), (1, .int (Int32.ofInt x1)), (3, .int (Int32.ofInt x3)), (4, .int (Int32.ofInt x4)), (5, .int (Int32.ofInt x5))]) (st' := [.int (Int32.ofInt x5), .int (Int32.ofInt x3), .ref 1]) rfl ?_
    refine lf_callI 34 rfl rfl rfl rfl (gm_77 h) (fun r27 s26 h => ?_)
    refine lf_seg 5 (pc' := 41) (lv' := [(6, .int (Int32.ofInt r27)), (0, .ref 68), (1, .int (Int32.ofInt x1)), (3, .int (Int32.ofInt x3)), (4, .int (Int32.ofInt x4)), (5, .int (Int32.ofInt x5))]) (st' := [.int (Int32.ofInt x1), .int (Int32.ofInt x3), .int (Int32.ofInt r27), .ref 68]) rfl ?_
    refine lf_bipush 43 13 rfl rfl (by decide) (by decide) ?_
    obtain ⟨o28, h⟩ := h
    refine lf_irem 44 rfl rfl o28 ⟨by decide, by decide⟩ (by decide) ?_
    refine lf_seg 1 (pc' := 45) (lv' := [(6, .int (Int32.ofInt r27)), (0, .ref 68), (1, .int (Int32.ofInt x1)), (3, .int (Int32.ofInt x3)), (4, .int (Int32.ofInt x4)), (5, .int (Int32.ofInt x5))]) (st' := [.int (Int32.ofInt 1), .int (Int32.ofInt (x1.tmod 13)), .int (Int32.ofInt x3), .int (Int32.ofInt r27), .ref 68]) rfl ?_
    refine lf_isub 46 rfl rfl ?_
    refine lf_callI 49 rfl rfl rfl rfl (gm_123 h) (fun r30 s29 h => ?_)
    refine lf_seg 5 (pc' := 58) (lv' := [(7, .int (Int32.ofInt r30)), (6, .int (Int32.ofInt r27)), (0, .ref 68), (1, .int (Int32.ofInt x1)), (3, .int (Int32.ofInt x3)), (4, .int (Int32.ofInt x4)), (5, .int (Int32.ofInt x5))]) (st' := [.int (Int32.ofInt x3), .int (Int32.ofInt r27), .ref 1]) rfl ?_
    refine lf_callI 61 rfl rfl rfl rfl (gm_78 h) (fun r32 s31 h => ?_)
    refine lf_bipush 63 13 rfl rfl (by decide) (by decide) ?_
    refine lf_imul 64 rfl rfl ?_
    refine lf_seg 1 (pc' := 65) (lv' := [(7, .int (Int32.ofInt r30)), (6, .int (Int32.ofInt r27)), (0, .ref 68), (1, .int (Int32.ofInt x1)), (3, .int (Int32.ofInt x3)), (4, .int (Int32.ofInt x4)), (5, .int (Int32.ofInt x5))]) (st' := [.int (Int32.ofInt x3), .int (Int32.ofInt (r32 * 13))]) rfl ?_
    refine lf_iadd 66 rfl rfl ?_
    refine lf_seg 1 (pc' := 67) (lv' := [(7, .int (Int32.ofInt r30)), (6, .int (Int32.ofInt r27)), (0, .ref 68), (1, .int (Int32.ofInt x1)), (3, .int (Int32.ofInt x3)), (4, .int (Int32.ofInt x4)), (5, .int (Int32.ofInt x5))]) (st' := [.int (Int32.ofInt 1), .int (Int32.ofInt ((r32 * 13) + x3))]) rfl ?_
    refine lf_iadd 68 rfl rfl ?_
    refine lf_seg 2 (pc' := 72) (lv' := [(8, .int (Int32.ofInt (((r32 * 13) + x3) + 1))), (7, .int (Int32.ofInt r30)), (6, .int (Int32.ofInt r27)), (0, .ref 68), (1, .int (Int32.ofInt x1)), (3, .int (Int32.ofInt x3)), (4, .int (Int32.ofInt x4)), (5, .int (Int32.ofInt x5))]) (st' := [.int (Int32.ofInt r30)]) rfl ?_
    obtain ⟨o33, h⟩ := h
    refine lf_if_le 113 75 rfl rfl rfl o33 (fun c => ?_) (fun c => ?_)
    · have h := h.1 c
      refine lf_sub (l := [(0, .ref 68), (1, .int (Int32.ofInt x1)), (3, .int (Int32.ofInt x3)), (4, .int (Int32.ofInt x4)), (5, .int (Int32.ofInt x5)), (7, .int (Int32.ofInt r30))]) (lf_sb1 rfl (lf_sb1 rfl (lf_sb1 rfl (lf_sb1 rfl (lf_sb1 rfl (lf_sb1 rfl lf_sb0)))))) ?_
      exact gm_129_p113 hX11 h
    · have h := h.2 c
      refine lf_seg 3 (pc' := 81) (lv' := [(8, .int (Int32.ofInt (((r32 * 13) + x3) + 1))), (7, .int (Int32.ofInt r30)), (6, .int (Int32.ofInt r27)), (0, .ref 68), (1, .int (Int32.ofInt x1)), (3, .int (Int32.ofInt x3)), (4, .int (Int32.ofInt x4)), (5, .int (Int32.ofInt x5))]) (st' := [.int (Int32.ofInt (((r32 * 13) + x3) + 1)), .ref 71]) rfl ?_
      obtain ⟨o35, h⟩ := h
      refine lf_iald 82 156 rfl rfl rfl rfl rfl rfl o35 ?_
      obtain ⟨o36, h⟩ := h
      refine lf_if_ne 113 85 rfl rfl rfl o36 (fun c => ?_) (fun c => ?_)
      · have h := h.1 c
        refine lf_sub (l := [(0, .ref 68), (1, .int (Int32.ofInt x1)), (3, .int (Int32.ofInt x3)), (4, .int (Int32.ofInt x4)), (5, .int (Int32.ofInt x5)), (7, .int (Int32.ofInt r30))]) (lf_sb1 rfl (lf_sb1 rfl (lf_sb1 rfl (lf_sb1 rfl (lf_sb1 rfl (lf_sb1 rfl lf_sb0)))))) ?_
        exact gm_129_p113 hX11 h
      · have h := h.2 c
        refine lf_seg 1 (pc' := 87) (lv' := [(8, .int (Int32.ofInt (((r32 * 13) + x3) + 1))), (7, .int (Int32.ofInt r30)), (6, .int (Int32.ofInt r27)), (0, .ref 68), (1, .int (Int32.ofInt x1)), (3, .int (Int32.ofInt x3)), (4, .int (Int32.ofInt x4)), (5, .int (Int32.ofInt x5))]) (st' := [.int (Int32.ofInt x4)]) rfl ?_
        refine lf_sipush 90 156 rfl rfl (by decide) (by decide) ?_
        obtain ⟨o37, h⟩ := h
        refine lf_icmp_ge 113 93 rfl rfl rfl o37 ⟨by decide, by decide⟩ (fun c => ?_) (fun c => ?_)
        · have h := h.1 c
          refine lf_sub (l := [(0, .ref 68), (1, .int (Int32.ofInt x1)), (3, .int (Int32.ofInt x3)), (4, .int (Int32.ofInt x4)), (5, .int (Int32.ofInt x5)), (7, .int (Int32.ofInt r30))]) (lf_sb1 rfl (lf_sb1 rfl (lf_sb1 rfl (lf_sb1 rfl (lf_sb1 rfl (lf_sb1 rfl lf_sb0)))))) ?_
          exact gm_129_p113 hX11 h
        · have h := h.2 c
          refine lf_seg 4 (pc' := 100) (lv' := [(8, .int (Int32.ofInt (((r32 * 13) + x3) + 1))), (7, .int (Int32.ofInt r30)), (6, .int (Int32.ofInt r27)), (0, .ref 68), (1, .int (Int32.ofInt x1)), (3, .int (Int32.ofInt x3)), (4, .int (Int32.ofInt x4)), (5, .int (Int32.ofInt x5))]) (st' := [.int (Int32.ofInt 1), .int (Int32.ofInt (((r32 * 13) + x3) + 1)), .ref 71]) rfl ?_
          refine lf_iast 101 156 rfl rfl rfl rfl rfl rfl o35 ?_
          refine lf_as (lf_up s31.1 71 (((r32 * 13) + x3) + 1) 1, s31.2.1, s31.2.2) rfl ?_
          refine lf_seg 4 (pc' := 109) (lv' := [(8, .int (Int32.ofInt (((r32 * 13) + x3) + 1))), (7, .int (Int32.ofInt r30)), (6, .int (Int32.ofInt r27)), (0, .ref 68), (1, .int (Int32.ofInt x1)), (3, .int (Int32.ofInt x3)), (4, .int (Int32.ofInt x4)), (5, .int (Int32.ofInt x5))]) (st' := [.int (Int32.ofInt (((r32 * 13) + x3) + 1)), .int (Int32.ofInt x4), .ref 70]) rfl ?_
          obtain ⟨o38, h⟩ := h
          refine lf_iast 110 156 rfl rfl rfl rfl rfl rfl o38 ?_
          refine lf_as (lf_up (lf_up s31.1 71 (((r32 * 13) + x3) + 1) 1) 70 x4 (((r32 * 13) + x3) + 1), s31.2.1, s31.2.2) rfl ?_
          refine lf_iinc 113 rfl rfl rfl rfl ?_
          refine lf_seg 0 (pc' := 113) (lv' := [(4, .int (Int32.ofInt (x4 + 1))), (8, .int (Int32.ofInt (((r32 * 13) + x3) + 1))), (7, .int (Int32.ofInt r30)), (6, .int (Int32.ofInt r27)), (0, .ref 68), (1, .int (Int32.ofInt x1)), (3, .int (Int32.ofInt x3)), (5, .int (Int32.ofInt x5))]) (st' := []) rfl ?_
          refine lf_sub (l := [(0, .ref 68), (1, .int (Int32.ofInt x1)), (3, .int (Int32.ofInt x3)), (4, .int (Int32.ofInt (x4 + 1))), (5, .int (Int32.ofInt x5)), (7, .int (Int32.ofInt r30))]) (lf_sb1 rfl (lf_sb1 rfl (lf_sb1 rfl (lf_sb1 rfl (lf_sb1 rfl (lf_sb1 rfl lf_sb0)))))) ?_
          exact gm_129_p113 hX11 h
theorem gm_129_p11L {L : Nat} {xs : Nat → Int32} {d : Nat} {Q : Int → lf_Z → Prop} {x1 : Int} {x3 : Int} {x4 : Int} {x5 : Int} {s : lf_Z} (h : fm_129_p11L Q x1 x3 x4 x5 s) : lf_E (px_ro L xs) (d + 5) 129 11 [(0, .ref 68), (1, .int (Int32.ofInt x1)), (3, .int (Int32.ofInt x3)), (4, .int (Int32.ofInt x4)), (5, .int (Int32.ofInt x5))] [] s (lf_qi Q) :=
  h (fun x4 x5 s => lf_E (px_ro L xs) (d + 5) 129 11 [(0, .ref 68), (1, .int (Int32.ofInt x1)), (3, .int (Int32.ofInt x3)), (4, .int (Int32.ofInt x4)), (5, .int (Int32.ofInt x5))] [] s (lf_qi Q)) (fun x4 x5 s hb => gm_129_p11 (fun _ _ _ h => h) hb)
def fm_129 (a1 : Int) (a2 : Int) (Q : Int → lf_Z → Prop) (s : lf_Z) : Prop := lf_R a1 ∧ (fm_129_p11L Q a1 (a1.tdiv 13) a2 0 s)
set_option maxRecDepth 100000 in
theorem gm_129 {L : Nat} {xs : Nat → Int32} {d : Nat} {a1 : Int} {a2 : Int} {Q : Int → lf_Z → Prop} {s : lf_Z} (h : fm_129 a1 a2 Q s) : lf_M (px_ro L xs) (d + 5) 129 [.ref 68, .int (Int32.ofInt a1), .int (Int32.ofInt a2)] s (lf_qi Q) := by
  unfold fm_129 at h
  show lf_E (px_ro L xs) (d + 5) 129 0 [(0, .ref 68), (1, .int (Int32.ofInt a1)), (2, .int (Int32.ofInt a2))] [] s _
  refine lf_seg 1 (pc' := 1) (lv' := [(0, .ref 68), (1, .int (Int32.ofInt a1)), (2, .int (Int32.ofInt a2))]) (st' := [.int (Int32.ofInt a1)]) rfl ?_
  refine lf_bipush 3 13 rfl rfl (by decide) (by decide) ?_
  obtain ⟨o21, h⟩ := h
  refine lf_idiv 4 rfl rfl o21 ⟨by decide, by decide⟩ (by decide) ?_
  refine lf_seg 5 (pc' := 11) (lv' := [(5, .int (Int32.ofInt 0)), (4, .int (Int32.ofInt a2)), (3, .int (Int32.ofInt (a1.tdiv 13))), (0, .ref 68), (1, .int (Int32.ofInt a1)), (2, .int (Int32.ofInt a2))]) (st' := []) rfl ?_
  refine lf_sub (l := [(0, .ref 68), (1, .int (Int32.ofInt a1)), (3, .int (Int32.ofInt (a1.tdiv 13))), (4, .int (Int32.ofInt a2)), (5, .int (Int32.ofInt 0))]) (lf_sb1 rfl (lf_sb1 rfl (lf_sb1 rfl (lf_sb1 rfl (lf_sb1 rfl lf_sb0))))) ?_
  exact gm_129_p11L h
-- fm_128 Walk.spread 68 i
def fm_128_p38 (Q : Int → lf_Z → Prop) (X38 : Int → Int → Int → lf_Z → Prop) (x2 : Int) (x3 : Int) (x4 : Int) (s : lf_Z) : Prop := lf_R x4 ∧ (lf_R x2 ∧ ((x2 ≤ x4 → (Q x3 s)) ∧ (¬ (x2 ≤ x4) → ((156 ≤ x4 → (Q x3 s)) ∧ (¬ (156 ≤ x4) → ((0 ≤ x4 ∧ x4 < 156) ∧ (lf_R (s.1 70 x4) ∧ (fm_129 (s.1 70 x4) x2 (fun r29 s28 => (X38 r29 (lf_or x3 (lf_shl 1 ((s.1 70 x4).tdiv 13))) (x4 + 1) s28)) s))))))))
def fm_128_p38L (Q : Int → lf_Z → Prop) (x2 : Int) (x3 : Int) (x4 : Int) (s : lf_Z) : Prop := ∀ X38 : Int → Int → Int → lf_Z → Prop, (∀ (x2 : Int) (x3 : Int) (x4 : Int) (s : lf_Z), fm_128_p38 Q X38 x2 x3 x4 s → X38 x2 x3 x4 s) → X38 x2 x3 x4 s
set_option maxRecDepth 100000 in
theorem gm_128_p38 {L : Nat} {xs : Nat → Int32} {d : Nat} {Q : Int → lf_Z → Prop} {x2 : Int} {x3 : Int} {x4 : Int} {s : lf_Z} {X38 : Int → Int → Int → lf_Z → Prop} (hX38 : ∀ x2 x3 x4 s, X38 x2 x3 x4 s → lf_E (px_ro L xs) (d + 6) 128 38 [(0, .ref 68), (2, .int (Int32.ofInt x2)), (3, .int (Int32.ofInt x3)), (4, .int (Int32.ofInt x4))] [] s (lf_qi Q)) (h : fm_128_p38 Q X38 x2 x3 x4 s) : lf_E (px_ro L xs) (d + 6) 128 38 [(0, .ref 68), (2, .int (Int32.ofInt x2)), (3, .int (Int32.ofInt x3)), (4, .int (Int32.ofInt x4))] [] s (lf_qi Q) := by
  unfold fm_128_p38 at h
  refine lf_seg 2 (pc' := 41) (lv' := [(0, .ref 68), (2, .int (Int32.ofInt x2)), (3, .int (Int32.ofInt x3)), (4, .int (Int32.ofInt x4))]) (st' := [.int (Int32.ofInt x2), .int (Int32.ofInt x4)]) rfl ?_
  obtain ⟨o24, h⟩ := h
  obtain ⟨o25, h⟩ := h
  refine lf_icmp_ge 86 44 rfl rfl rfl o24 o25 (fun c => ?_) (fun c => ?_)
  · have h := h.1 c
    refine lf_seg 1 (pc' := 87) (lv' := [(0, .ref 68), (2, .int (Int32.ofInt x2)), (3, .int (Int32.ofInt x3)), (4, .int (Int32.ofInt x4))]) (st' := [.int (Int32.ofInt x3)]) rfl ?_
    exact lf_retI rfl rfl h
  · have h := h.2 c
    refine lf_seg 1 (pc' := 46) (lv' := [(0, .ref 68), (2, .int (Int32.ofInt x2)), (3, .int (Int32.ofInt x3)), (4, .int (Int32.ofInt x4))]) (st' := [.int (Int32.ofInt x4)]) rfl ?_
    refine lf_sipush 49 156 rfl rfl (by decide) (by decide) ?_
    refine lf_icmp_ge 86 52 rfl rfl rfl o24 ⟨by decide, by decide⟩ (fun c => ?_) (fun c => ?_)
    · have h := h.1 c
      refine lf_seg 1 (pc' := 87) (lv' := [(0, .ref 68), (2, .int (Int32.ofInt x2)), (3, .int (Int32.ofInt x3)), (4, .int (Int32.ofInt x4))]) (st' := [.int (Int32.ofInt x3)]) rfl ?_
      exact lf_retI rfl rfl h
    · have h := h.2 c
      refine lf_seg 5 (pc' := 60) (lv' := [(0, .ref 68), (2, .int (Int32.ofInt x2)), (3, .int (Int32.ofInt x3)), (4, .int (Int32.ofInt x4))]) (st' := [.int (Int32.ofInt x4), .ref 70, .int (Int32.ofInt 1), .int (Int32.ofInt x3)]) rfl ?_
      obtain ⟨o26, h⟩ := h
      refine lf_iald 61 156 rfl rfl rfl rfl rfl rfl o26 ?_
      refine lf_bipush 63 13 rfl rfl (by decide) (by decide) ?_
      obtain ⟨o27, h⟩ := h
      refine lf_idiv 64 rfl rfl o27 ⟨by decide, by decide⟩ (by decide) ?_
      refine lf_ishl 65 rfl rfl ?_
      refine lf_ior 66 rfl rfl ?_
      refine lf_seg 5 (pc' := 74) (lv' := [(3, .int (Int32.ofInt (lf_or x3 (lf_shl 1 ((s.1 70 x4).tdiv 13))))), (0, .ref 68), (2, .int (Int32.ofInt x2)), (4, .int (Int32.ofInt x4))]) (st' := [.int (Int32.ofInt x4), .ref 70, .ref 68]) rfl ?_
      refine lf_iald 75 156 rfl rfl rfl rfl rfl rfl o26 ?_
      refine lf_seg 1 (pc' := 76) (lv' := [(3, .int (Int32.ofInt (lf_or x3 (lf_shl 1 ((s.1 70 x4).tdiv 13))))), (0, .ref 68), (2, .int (Int32.ofInt x2)), (4, .int (Int32.ofInt x4))]) (st' := [.int (Int32.ofInt x2), .int (Int32.ofInt (s.1 70 x4)), .ref 68]) rfl ?_
      refine lf_callI 79 rfl rfl rfl rfl (gm_129 h) (fun r29 s28 h => ?_)
      refine lf_seg 1 (pc' := 80) (lv' := [(2, .int (Int32.ofInt r29)), (3, .int (Int32.ofInt (lf_or x3 (lf_shl 1 ((s.1 70 x4).tdiv 13))))), (0, .ref 68), (4, .int (Int32.ofInt x4))]) (st' := []) rfl ?_
      refine lf_iinc 83 rfl rfl rfl rfl ?_
      refine lf_seg 1 (pc' := 38) (lv' := [(4, .int (Int32.ofInt (x4 + 1))), (2, .int (Int32.ofInt r29)), (3, .int (Int32.ofInt (lf_or x3 (lf_shl 1 ((s.1 70 x4).tdiv 13))))), (0, .ref 68)]) (st' := []) rfl ?_
      refine lf_sub (l := [(0, .ref 68), (2, .int (Int32.ofInt r29)), (3, .int (Int32.ofInt (lf_or x3 (lf_shl 1 ((s.1 70 x4).tdiv 13))))), (4, .int (Int32.ofInt (x4 + 1)))]) (lf_sb1 rfl (lf_sb1 rfl (lf_sb1 rfl (lf_sb1 rfl lf_sb0)))) ?_
      exact hX38 _ _ _ _ h
theorem gm_128_p38L {L : Nat} {xs : Nat → Int32} {d : Nat} {Q : Int → lf_Z → Prop} {x2 : Int} {x3 : Int} {x4 : Int} {s : lf_Z} (h : fm_128_p38L Q x2 x3 x4 s) : lf_E (px_ro L xs) (d + 6) 128 38 [(0, .ref 68), (2, .int (Int32.ofInt x2)), (3, .int (Int32.ofInt x3)), (4, .int (Int32.ofInt x4))] [] s (lf_qi Q) :=
  h (fun x2 x3 x4 s => lf_E (px_ro L xs) (d + 6) 128 38 [(0, .ref 68), (2, .int (Int32.ofInt x2)), (3, .int (Int32.ofInt x3)), (4, .int (Int32.ofInt x4))] [] s (lf_qi Q)) (fun x2 x3 x4 s hb => gm_128_p38 (fun _ _ _ _ h => h) hb)
def fm_128 (a1 : Int) (Q : Int → lf_Z → Prop) (s : lf_Z) : Prop := fm_120 a1 (fun r22 s21 => ((0 ≤ r22 ∧ r22 < 156) ∧ (fm_128_p38L Q 1 0 0 (lf_up (lf_up s21.1 70 0 r22) 71 r22 1, s21.2.1, s21.2.2)))) (lf_fl s.1 71 156 0, s.2.1, s.2.2)
set_option maxRecDepth 100000 in
theorem gm_128 {L : Nat} {xs : Nat → Int32} {d : Nat} {a1 : Int} {Q : Int → lf_Z → Prop} {s : lf_Z} (h : fm_128 a1 Q s) : lf_M (px_ro L xs) (d + 6) 128 [.ref 68, .int (Int32.ofInt a1)] s (lf_qi Q) := by
  unfold fm_128 at h
  show lf_E (px_ro L xs) (d + 6) 128 0 [(0, .ref 68), (1, .int (Int32.ofInt a1))] [] s _
  refine lf_seg 3 (pc' := 5) (lv' := [(0, .ref 68), (1, .int (Int32.ofInt a1))]) (st' := [.int (Int32.ofInt 0), .ref 71]) rfl ?_
  refine lf_callV (Q1 := fun s1 => s1 = (lf_fl s.1 71 156 0, s.2.1, s.2.2)) 8 rfl rfl rfl rfl (lf_fill (m := 156) rfl rfl rfl rfl rfl rfl) (fun s1 hs1 => ?_)
  refine lf_as (lf_fl s.1 71 156 0, s.2.1, s.2.2) hs1 ?_
  refine lf_seg 5 (pc' := 15) (lv' := [(0, .ref 68), (1, .int (Int32.ofInt a1))]) (st' := [.int (Int32.ofInt a1), .ref 68, .int (Int32.ofInt 0), .ref 70]) rfl ?_
  refine lf_callI 18 rfl rfl rfl rfl (gm_120 h) (fun r22 s21 h => ?_)
  refine lf_iast 19 156 rfl rfl rfl rfl rfl rfl ⟨by decide, by decide⟩ ?_
  refine lf_as (lf_up s21.1 70 0 r22, s21.2.1, s21.2.2) rfl ?_
  refine lf_seg 5 (pc' := 28) (lv' := [(0, .ref 68), (1, .int (Int32.ofInt a1))]) (st' := [.int (Int32.ofInt 0), .ref 70, .ref 71]) rfl ?_
  refine lf_iald 29 156 rfl rfl rfl rfl rfl rfl ⟨by decide, by decide⟩ ?_
  refine lf_seg 1 (pc' := 30) (lv' := [(0, .ref 68), (1, .int (Int32.ofInt a1))]) (st' := [.int (Int32.ofInt 1), .int (Int32.ofInt r22), .ref 71]) rfl ?_
  obtain ⟨o23, h⟩ := h
  refine lf_iast 31 156 rfl rfl rfl rfl rfl rfl o23 ?_
  refine lf_as (lf_up (lf_up s21.1 70 0 r22) 71 r22 1, s21.2.1, s21.2.2) rfl ?_
  refine lf_seg 6 (pc' := 38) (lv' := [(4, .int (Int32.ofInt 0)), (3, .int (Int32.ofInt 0)), (2, .int (Int32.ofInt 1)), (0, .ref 68), (1, .int (Int32.ofInt a1))]) (st' := []) rfl ?_
  refine lf_sub (l := [(0, .ref 68), (2, .int (Int32.ofInt 1)), (3, .int (Int32.ofInt 0)), (4, .int (Int32.ofInt 0))]) (lf_sb1 rfl (lf_sb1 rfl (lf_sb1 rfl (lf_sb1 rfl lf_sb0)))) ?_
  exact gm_128_p38L h
