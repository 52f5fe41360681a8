-- fm_31 Reader.advance 31
def fm_31_p60 (Q : lf_Z → Prop) (s : lf_Z) : Prop := lf_R (s.1 31 7) ∧ (lf_R (s.1 31 1) ∧ ((s.1 31 7 < s.1 31 1 → ((0 ≤ s.1 31 7 ∧ s.1 31 7 < 300) ∧ (fm_32 (s.1 32 (s.1 31 7)) (fun z28 s27 => ((z28 = false → ((0 ≤ s27.1 31 7 ∧ s27.1 31 7 < 300) ∧ (fm_34 (s27.1 32 (s27.1 31 7)) (fun z31 s30 => ((z31 = false → ((0 ≤ s30.1 31 7 ∧ s30.1 31 7 < 300) ∧ (fm_37 (s30.1 32 (s30.1 31 7)) (fun s33 => (Q s33)) s30))) ∧ (z31 = true → (fm_35 (fun s34 => (Q s34)) s30)))) s27))) ∧ (z28 = true → (fm_33 (fun s35 => (Q s35)) s27)))) (lf_up s.1 31 9 (s.1 31 7), s.2.1, s.2.2)))) ∧ (¬ (s.1 31 7 < s.1 31 1) → (Q (lf_up (lf_up s.1 31 9 (s.1 31 7)) 31 8 0, s.2.1, s.2.2)))))
set_option maxRecDepth 100000 in
theorem gm_31_p60 {L : Nat} {xs : Nat → Int32} {d : Nat} {Q : lf_Z → Prop} {s : lf_Z} (h : fm_31_p60 Q s) : lf_E (px_ro L xs) (d + 3) 31 60 [(0, .ref 31)] [] s (lf_qv Q) := by
  unfold fm_31_p60 at h
  refine lf_seg 2 (pc' := 62) (lv' := [(0, .ref 31)]) (st' := [.ref 31, .ref 31]) rfl ?_
  refine lf_getI 65 7 rfl rfl rfl rfl rfl rfl rfl ?_
  refine lf_putI 68 9 rfl rfl rfl rfl rfl rfl rfl rfl ?_
  refine lf_as (lf_up s.1 31 9 (s.1 31 7), s.2.1, s.2.2) rfl ?_
  refine lf_seg 1 (pc' := 69) (lv' := [(0, .ref 31)]) (st' := [.ref 31]) rfl ?_
  refine lf_getI 72 7 rfl rfl rfl rfl rfl rfl rfl ?_
  refine lf_seg 1 (pc' := 73) (lv' := [(0, .ref 31)]) (st' := [.ref 31, .int (Int32.ofInt (s.1 31 7))]) rfl ?_
  refine lf_getI 76 1 rfl rfl rfl rfl rfl rfl rfl ?_
  refine lf_seg 0 (pc' := 76) (lv' := [(0, .ref 31)]) (st' := [.int (Int32.ofInt (s.1 31 1)), .int (Int32.ofInt (s.1 31 7))]) rfl ?_
  obtain ⟨o24, h⟩ := h
  obtain ⟨o25, h⟩ := h
  refine lf_icmp_lt 87 79 rfl rfl rfl o24 o25 (fun c => ?_) (fun c => ?_)
  · have h := h.1 c
    refine lf_seg 3 (pc' := 92) (lv' := [(0, .ref 31)]) (st' := [.ref 31, .ref 32]) rfl ?_
    refine lf_getI 95 7 rfl rfl rfl rfl rfl rfl rfl ?_
    refine lf_seg 0 (pc' := 95) (lv' := [(0, .ref 31)]) (st' := [.int (Int32.ofInt (s.1 31 7)), .ref 32]) rfl ?_
    obtain ⟨o26, h⟩ := h
    refine lf_iald 96 300 rfl rfl rfl rfl rfl rfl o26 ?_
    refine lf_seg 0 (pc' := 96) (lv' := [(0, .ref 31)]) (st' := [.int (Int32.ofInt (s.1 32 (s.1 31 7)))]) rfl ?_
    refine lf_callZ 99 rfl rfl rfl rfl (gm_32 h) (fun z28 s27 h => ?_)
    refine lf_ifz_eq 109 102 rfl rfl rfl (fun c => ?_) (fun c => ?_)
    · have h := h.1 c
      refine lf_seg 3 (pc' := 114) (lv' := [(0, .ref 31)]) (st' := [.ref 31, .ref 32]) rfl ?_
      refine lf_getI 117 7 rfl rfl rfl rfl rfl rfl rfl ?_
      obtain ⟨o29, h⟩ := h
      refine lf_iald 118 300 rfl rfl rfl rfl rfl rfl o29 ?_
      refine lf_callZ 121 rfl rfl rfl rfl (gm_34 h) (fun z31 s30 h => ?_)
      refine lf_ifz_eq 131 124 rfl rfl rfl (fun c => ?_) (fun c => ?_)
      · have h := h.1 c
        refine lf_seg 4 (pc' := 137) (lv' := [(0, .ref 31)]) (st' := [.ref 31, .ref 32, .ref 31]) rfl ?_
        refine lf_getI 140 7 rfl rfl rfl rfl rfl rfl rfl ?_
        obtain ⟨o32, h⟩ := h
        refine lf_iald 141 300 rfl rfl rfl rfl rfl rfl o32 ?_
        refine lf_callV 144 rfl rfl rfl rfl (gm_37 h) (fun s33 h => ?_)
        exact lf_retV rfl rfl h
      · have h := h.2 c
        refine lf_seg 1 (pc' := 125) (lv' := [(0, .ref 31)]) (st' := [.ref 31]) rfl ?_
        refine lf_callV 128 rfl rfl rfl rfl (gm_35 h) (fun s34 h => ?_)
        refine lf_seg 1 (pc' := 144) (lv' := [(0, .ref 31)]) (st' := []) rfl ?_
        exact lf_retV rfl rfl h
    · have h := h.2 c
      refine lf_seg 1 (pc' := 103) (lv' := [(0, .ref 31)]) (st' := [.ref 31]) rfl ?_
      refine lf_callV 106 rfl rfl rfl rfl (gm_33 h) (fun s35 h => ?_)
      refine lf_seg 1 (pc' := 144) (lv' := [(0, .ref 31)]) (st' := []) rfl ?_
      exact lf_retV rfl rfl h
  · have h := h.2 c
    refine lf_seg 2 (pc' := 81) (lv' := [(0, .ref 31)]) (st' := [.int (Int32.ofInt 0), .ref 31]) rfl ?_
    refine lf_putI 84 8 rfl rfl rfl rfl rfl rfl rfl rfl ?_
    refine lf_as (lf_up (lf_up s.1 31 9 (s.1 31 7)) 31 8 0, s.2.1, s.2.2) rfl ?_
    refine lf_seg 1 (pc' := 144) (lv' := [(0, .ref 31)]) (st' := []) rfl ?_
    exact lf_retV rfl rfl h
def fm_31_p47 (X8 : lf_Z → Prop) (Q : lf_Z → Prop) (s : lf_Z) : Prop := X8 (lf_up s.1 31 7 ((s.1 31 7) + 1), s.2.1, s.2.2)
set_option maxRecDepth 100000 in
theorem gm_31_p47 {L : Nat} {xs : Nat → Int32} {d : Nat} {X8 : lf_Z → Prop} {Q : lf_Z → Prop} {s : lf_Z} (hX8 : ∀ s, X8 s → lf_E (px_ro L xs) (d + 3) 31 8 [(0, .ref 31)] [] s (lf_qv Q)) (h : fm_31_p47 X8 Q s) : lf_E (px_ro L xs) (d + 3) 31 47 [(0, .ref 31)] [] s (lf_qv Q) := by
  unfold fm_31_p47 at h
  refine lf_seg 2 (pc' := 49) (lv' := [(0, .ref 31)]) (st' := [.ref 31, .ref 31]) rfl ?_
  refine lf_getI 52 7 rfl rfl rfl rfl rfl rfl rfl ?_
  refine lf_seg 1 (pc' := 53) (lv' := [(0, .ref 31)]) (st' := [.int (Int32.ofInt 1), .int (Int32.ofInt (s.1 31 7)), .ref 31]) rfl ?_
  refine lf_iadd 54 rfl rfl ?_
  refine lf_putI 57 7 rfl rfl rfl rfl rfl rfl rfl rfl ?_
  refine lf_as (lf_up s.1 31 7 ((s.1 31 7) + 1), s.2.1, s.2.2) rfl ?_
  refine lf_seg 1 (pc' := 8) (lv' := [(0, .ref 31)]) (st' := []) rfl ?_
  refine lf_sub (l := [(0, .ref 31)]) (lf_sb1 rfl lf_sb0) ?_
  exact hX8 _ h
def fm_31_p8 (Q : lf_Z → Prop) (X8 : lf_Z → Prop) (s : lf_Z) : Prop := lf_R (s.1 31 7) ∧ (lf_R (s.1 31 1) ∧ ((s.1 31 1 ≤ s.1 31 7 → (fm_31_p60 Q s)) ∧ (¬ (s.1 31 1 ≤ s.1 31 7) → ((0 ≤ s.1 31 7 ∧ s.1 31 7 < 300) ∧ (lf_R (s.1 32 (s.1 31 7)) ∧ ((s.1 32 (s.1 31 7) = 32 → (fm_31_p47 X8 Q s)) ∧ (¬ (s.1 32 (s.1 31 7) = 32) → ((s.1 32 (s.1 31 7) ≠ 10 → (fm_31_p60 Q s)) ∧ (¬ (s.1 32 (s.1 31 7) ≠ 10) → (fm_31_p47 X8 Q s))))))))))
def fm_31_p8L (Q : lf_Z → Prop) (s : lf_Z) : Prop := ∀ X8 : lf_Z → Prop, (∀ (s : lf_Z), fm_31_p8 Q X8 s → X8 s) → X8 s
set_option maxRecDepth 100000 in
theorem gm_31_p8 {L : Nat} {xs : Nat → Int32} {d : Nat} {Q : lf_Z → Prop} {s : lf_Z} {X8 : lf_Z → Prop} (hX8 : ∀ s, X8 s → lf_E (px_ro L xs) (d + 3) 31 8 [(0, .ref 31)] [] s (lf_qv Q)) (h : fm_31_p8 Q X8 s) : lf_E (px_ro L xs) (d + 3) 31 8 [(0, .ref 31)] [] s (lf_qv Q) := by
  unfold fm_31_p8 at h
  refine lf_seg 1 (pc' := 9) (lv' := [(0, .ref 31)]) (st' := [.ref 31]) rfl ?_
  refine lf_getI 12 7 rfl rfl rfl rfl rfl rfl rfl ?_
  refine lf_seg 1 (pc' := 13) (lv' := [(0, .ref 31)]) (st' := [.ref 31, .int (Int32.ofInt (s.1 31 7))]) rfl ?_
  refine lf_getI 16 1 rfl rfl rfl rfl rfl rfl rfl ?_
  obtain ⟨o22, h⟩ := h
  obtain ⟨o23, h⟩ := h
  refine lf_icmp_ge 60 19 rfl rfl rfl o22 o23 (fun c => ?_) (fun c => ?_)
  · have h := h.1 c
    refine lf_sub (l := [(0, .ref 31)]) (lf_sb1 rfl lf_sb0) ?_
    exact gm_31_p60 h
  · have h := h.2 c
    refine lf_seg 3 (pc' := 24) (lv' := [(0, .ref 31)]) (st' := [.ref 31, .ref 32]) rfl ?_
    refine lf_getI 27 7 rfl rfl rfl rfl rfl rfl rfl ?_
    obtain ⟨o36, h⟩ := h
    refine lf_iald 28 300 rfl rfl rfl rfl rfl rfl o36 ?_
    refine lf_bipush 30 32 rfl rfl (by decide) (by decide) ?_
    obtain ⟨o37, h⟩ := h
    refine lf_icmp_eq 47 33 rfl rfl rfl o37 ⟨by decide, by decide⟩ (fun c => ?_) (fun c => ?_)
    · have h := h.1 c
      refine lf_sub (l := [(0, .ref 31)]) (lf_sb1 rfl lf_sb0) ?_
      exact gm_31_p47 hX8 h
    · have h := h.2 c
      refine lf_seg 3 (pc' := 38) (lv' := [(0, .ref 31)]) (st' := [.ref 31, .ref 32]) rfl ?_
      refine lf_getI 41 7 rfl rfl rfl rfl rfl rfl rfl ?_
      refine lf_iald 42 300 rfl rfl rfl rfl rfl rfl o36 ?_
      refine lf_bipush 44 10 rfl rfl (by decide) (by decide) ?_
      refine lf_icmp_ne 60 47 rfl rfl rfl o37 ⟨by decide, by decide⟩ (fun c => ?_) (fun c => ?_)
      · have h := h.1 c
        refine lf_sub (l := [(0, .ref 31)]) (lf_sb1 rfl lf_sb0) ?_
        exact gm_31_p60 h
      · have h := h.2 c
        refine lf_sub (l := [(0, .ref 31)]) (lf_sb1 rfl lf_sb0) ?_
        exact gm_31_p47 hX8 h
theorem gm_31_p8L {L : Nat} {xs : Nat → Int32} {d : Nat} {Q : lf_Z → Prop} {s : lf_Z} (h : fm_31_p8L Q s) : lf_E (px_ro L xs) (d + 3) 31 8 [(0, .ref 31)] [] s (lf_qv Q) :=
  h (fun s => lf_E (px_ro L xs) (d + 3) 31 8 [(0, .ref 31)] [] s (lf_qv Q)) (fun s hb => gm_31_p8 (fun _ h => h) hb)
def fm_31 (Q : lf_Z → Prop) (s : lf_Z) : Prop := lf_R (s.1 31 2) ∧ ((s.1 31 2 = 0 → (fm_31_p8L Q s)) ∧ (¬ (s.1 31 2 = 0) → (Q s)))
set_option maxRecDepth 100000 in
theorem gm_31 {L : Nat} {xs : Nat → Int32} {d : Nat} {Q : lf_Z → Prop} {s : lf_Z} (h : fm_31 Q s) : lf_M (px_ro L xs) (d + 3) 31 [.ref 31] s (lf_qv Q) := by
  unfold fm_31 at h
  show lf_E (px_ro L xs) (d + 3) 31 0 [(0, .ref 31)] [] s _
  refine lf_seg 1 (pc' := 1) (lv' := [(0, .ref 31)]) (st' := [.ref 31]) rfl ?_
  refine lf_getI 4 2 rfl rfl rfl rfl rfl rfl rfl ?_
  obtain ⟨o21, h⟩ := h
  refine lf_if_eq 8 7 rfl rfl rfl o21 (fun c => ?_) (fun c => ?_)
  · have h := h.1 c
    refine lf_sub (l := [(0, .ref 31)]) (lf_sb1 rfl lf_sb0) ?_
    exact gm_31_p8L h
  · have h := h.2 c
    exact lf_retV rfl rfl h
-- fm_40 Script.hasLaw t i
def fm_40 (t0 : Nat) (a1 : Int) (Q : Bool → lf_Z → Prop) (s : lf_Z) : Prop := lf_R a1 ∧ ((a1 < 0 → (Q false s)) ∧ (¬ (a1 < 0) → ((3 ≤ a1 → (Q false s)) ∧ (¬ (3 ≤ a1) → ((0 ≤ a1 ∧ a1 < 3) ∧ (lf_R (s.1 (37 + 7 * t0) a1) ∧ ((s.1 (37 + 7 * t0) a1 = (-1) → (Q false s)) ∧ (¬ (s.1 (37 + 7 * t0) a1 = (-1)) → (Q true s)))))))))
set_option maxRecDepth 100000 in
theorem gm_40 {L : Nat} {xs : Nat → Int32} {d : Nat} {t0 : Nat} {a1 : Int} {Q : Bool → lf_Z → Prop} {s : lf_Z} (htt0 : t0 < 4) (h : fm_40 t0 a1 Q s) : lf_M (px_ro L xs) (d + 1) 40 [.ref (35 + 7 * t0), .int (Int32.ofInt a1)] s (lf_qz Q) := by
  unfold fm_40 at h
  show lf_E (px_ro L xs) (d + 1) 40 0 [(0, .ref (35 + 7 * t0)), (1, .int (Int32.ofInt a1))] [] s _
  refine lf_seg 1 (pc' := 1) (lv' := [(0, .ref (35 + 7 * t0)), (1, .int (Int32.ofInt a1))]) (st' := [.int (Int32.ofInt a1)]) rfl ?_
  obtain ⟨o21, h⟩ := h
  refine lf_if_lt 23 4 rfl rfl rfl o21 (fun c => ?_) (fun c => ?_)
  · have h := h.1 c
    refine lf_seg 1 (pc' := 24) (lv' := [(0, .ref (35 + 7 * t0)), (1, .int (Int32.ofInt a1))]) (st' := [.int (Int32.ofInt 0)]) rfl ?_
    exact lf_retZ false rfl rfl h
  · have h := h.2 c
    refine lf_seg 2 (pc' := 6) (lv' := [(0, .ref (35 + 7 * t0)), (1, .int (Int32.ofInt a1))]) (st' := [.int (Int32.ofInt 3), .int (Int32.ofInt a1)]) rfl ?_
    refine lf_icmp_ge 23 9 rfl rfl rfl o21 ⟨by decide, by decide⟩ (fun c => ?_) (fun c => ?_)
    · have h := h.1 c
      refine lf_seg 1 (pc' := 24) (lv' := [(0, .ref (35 + 7 * t0)), (1, .int (Int32.ofInt a1))]) (st' := [.int (Int32.ofInt 0)]) rfl ?_
      exact lf_retZ false rfl rfl h
    · have h := h.2 c
      refine lf_seg 1 (pc' := 10) (lv' := [(0, .ref (35 + 7 * t0)), (1, .int (Int32.ofInt a1))]) (st' := [.ref (35 + 7 * t0)]) rfl ?_
      refine lf_getR 13 (w := some (37 + 7 * t0)) rfl rfl rfl (lf_scr htt0) (lf_scL htt0) rfl (lf_sP2 htt0) ?_
      refine lf_seg 1 (pc' := 14) (lv' := [(0, .ref (35 + 7 * t0)), (1, .int (Int32.ofInt a1))]) (st' := [.int (Int32.ofInt a1), .ref (37 + 7 * t0)]) rfl ?_
      obtain ⟨o22, h⟩ := h
      refine lf_iald 15 3 rfl rfl (lf_sA2 htt0) (lf_sB2 htt0) rfl rfl o22 ?_
      refine lf_seg 1 (pc' := 16) (lv' := [(0, .ref (35 + 7 * t0)), (1, .int (Int32.ofInt a1))]) (st' := [.int (Int32.ofInt (-1)), .int (Int32.ofInt (s.1 (37 + 7 * t0) a1))]) rfl ?_
      obtain ⟨o23, h⟩ := h
      refine lf_icmp_eq 23 19 rfl rfl rfl o23 ⟨by decide, by decide⟩ (fun c => ?_) (fun c => ?_)
      · have h := h.1 c
        refine lf_seg 1 (pc' := 24) (lv' := [(0, .ref (35 + 7 * t0)), (1, .int (Int32.ofInt a1))]) (st' := [.int (Int32.ofInt 0)]) rfl ?_
        exact lf_retZ false rfl rfl h
      · have h := h.2 c
        refine lf_seg 2 (pc' := 24) (lv' := [(0, .ref (35 + 7 * t0)), (1, .int (Int32.ofInt a1))]) (st' := [.int (Int32.ofInt 1)]) rfl ?_
        exact lf_retZ true rfl rfl h
-- fm_39 Reader.fail 31 i
def fm_39_p20 (Q : lf_Z → Prop) (s : lf_Z) : Prop := Q (lf_up s.1 31 8 1, s.2.1, s.2.2)
set_option maxRecDepth 100000 in
theorem gm_39_p20 {L : Nat} {xs : Nat → Int32} {d : Nat} {Q : lf_Z → Prop} {s : lf_Z} (h : fm_39_p20 Q s) : lf_E (px_ro L xs) (d + 1) 39 20 [(0, .ref 31)] [] s (lf_qv Q) := by
  unfold fm_39_p20 at h
  refine lf_seg 2 (pc' := 22) (lv' := [(0, .ref 31)]) (st' := [.int (Int32.ofInt 1), .ref 31]) rfl ?_
  refine lf_putI 25 8 rfl rfl rfl rfl rfl rfl rfl rfl ?_
  refine lf_as (lf_up s.1 31 8 1, s.2.1, s.2.2) rfl ?_
  exact lf_retV rfl rfl h
def fm_39 (a1 : Int) (Q : lf_Z → Prop) (s : lf_Z) : Prop := lf_R (s.1 31 2) ∧ ((s.1 31 2 ≠ 0 → (fm_39_p20 Q s)) ∧ (¬ (s.1 31 2 ≠ 0) → (fm_39_p20 Q (lf_up (lf_up s.1 31 2 a1) 31 3 (s.1 31 9), s.2.1, s.2.2))))
set_option maxRecDepth 100000 in
theorem gm_39 {L : Nat} {xs : Nat → Int32} {d : Nat} {a1 : Int} {Q : lf_Z → Prop} {s : lf_Z} (h : fm_39 a1 Q s) : lf_M (px_ro L xs) (d + 1) 39 [.ref 31, .int (Int32.ofInt a1)] s (lf_qv Q) := by
  unfold fm_39 at h
  show lf_E (px_ro L xs) (d + 1) 39 0 [(0, .ref 31), (1, .int (Int32.ofInt a1))] [] s _
  refine lf_seg 1 (pc' := 1) (lv' := [(0, .ref 31), (1, .int (Int32.ofInt a1))]) (st' := [.ref 31]) rfl ?_
  refine lf_getI 4 2 rfl rfl rfl rfl rfl rfl rfl ?_
  obtain ⟨o21, h⟩ := h
  refine lf_if_ne 20 7 rfl rfl rfl o21 (fun c => ?_) (fun c => ?_)
  · have h := h.1 c
    refine lf_sub (l := [(0, .ref 31)]) (lf_sb1 rfl lf_sb0) ?_
    exact gm_39_p20 h
  · have h := h.2 c
    refine lf_seg 2 (pc' := 9) (lv' := [(0, .ref 31), (1, .int (Int32.ofInt a1))]) (st' := [.int (Int32.ofInt a1), .ref 31]) rfl ?_
    refine lf_putI 12 2 rfl rfl rfl rfl rfl rfl rfl rfl ?_
    refine lf_as (lf_up s.1 31 2 a1, s.2.1, s.2.2) rfl ?_
    refine lf_seg 2 (pc' := 14) (lv' := [(0, .ref 31), (1, .int (Int32.ofInt a1))]) (st' := [.ref 31, .ref 31]) rfl ?_
    refine lf_getI 17 9 rfl rfl rfl rfl rfl rfl rfl ?_
    refine lf_seg 0 (pc' := 17) (lv' := [(0, .ref 31), (1, .int (Int32.ofInt a1))]) (st' := [.int (Int32.ofInt (s.1 31 9)), .ref 31]) rfl ?_
    refine lf_putI 20 3 rfl rfl rfl rfl rfl rfl rfl rfl ?_
    refine lf_as (lf_up (lf_up s.1 31 2 a1) 31 3 (s.1 31 9), s.2.1, s.2.2) rfl ?_
    refine lf_sub (l := [(0, .ref 31)]) (lf_sb1 rfl lf_sb0) ?_
    exact gm_39_p20 h
-- fm_44 Reader.readNumber 31 i i
def fm_44 (a1 : Int) (a2 : Int) (Q : Int → lf_Z → Prop) (s : lf_Z) : Prop := lf_R (s.1 31 8) ∧ ((s.1 31 8 = 2 → (fm_15 (s.1 31 10) a1 a2 (fun z23 s22 => ((z23 = true → (fm_31 (fun s24 => (Q (s22.1 31 10) s24)) s22)) ∧ (z23 = false → (fm_39 2 (fun s25 => (Q a1 s25)) s22)))) s)) ∧ (¬ (s.1 31 8 = 2) → (fm_39 1 (fun s26 => (Q a1 s26)) s)))
set_option maxRecDepth 100000 in
theorem gm_44 {L : Nat} {xs : Nat → Int32} {d : Nat} {a1 : Int} {a2 : Int} {Q : Int → lf_Z → Prop} {s : lf_Z} (h : fm_44 a1 a2 Q s) : lf_M (px_ro L xs) (d + 4) 44 [.ref 31, .int (Int32.ofInt a1), .int (Int32.ofInt a2)] s (lf_qi Q) := by
  unfold fm_44 at h
  show lf_E (px_ro L xs) (d + 4) 44 0 [(0, .ref 31), (1, .int (Int32.ofInt a1)), (2, .int (Int32.ofInt a2))] [] s _
  refine lf_seg 1 (pc' := 1) (lv' := [(0, .ref 31), (1, .int (Int32.ofInt a1)), (2, .int (Int32.ofInt a2))]) (st' := [.ref 31]) rfl ?_
  refine lf_getI 4 8 rfl rfl rfl rfl rfl rfl rfl ?_
  refine lf_seg 1 (pc' := 5) (lv' := [(0, .ref 31), (1, .int (Int32.ofInt a1)), (2, .int (Int32.ofInt a2))]) (st' := [.int (Int32.ofInt 2), .int (Int32.ofInt (s.1 31 8))]) rfl ?_
  obtain ⟨o21, h⟩ := h
  refine lf_icmp_eq 15 8 rfl rfl rfl o21 ⟨by decide, by decide⟩ (fun c => ?_) (fun c => ?_)
  · have h := h.1 c
    refine lf_seg 1 (pc' := 16) (lv' := [(0, .ref 31), (1, .int (Int32.ofInt a1)), (2, .int (Int32.ofInt a2))]) (st' := [.ref 31]) rfl ?_
    refine lf_getI 19 10 rfl rfl rfl rfl rfl rfl rfl ?_
    refine lf_seg 2 (pc' := 21) (lv' := [(0, .ref 31), (1, .int (Int32.ofInt a1)), (2, .int (Int32.ofInt a2))]) (st' := [.int (Int32.ofInt a2), .int (Int32.ofInt a1), .int (Int32.ofInt (s.1 31 10))]) rfl ?_
    refine lf_callZ 24 rfl rfl rfl rfl (gm_15 h) (fun z23 s22 h => ?_)
    refine lf_ifz_ne 34 27 rfl rfl rfl (fun c => ?_) (fun c => ?_)
    · have h := h.1 c
      refine lf_seg 1 (pc' := 35) (lv' := [(0, .ref 31), (1, .int (Int32.ofInt a1)), (2, .int (Int32.ofInt a2))]) (st' := [.ref 31]) rfl ?_
      refine lf_getI 38 10 rfl rfl rfl rfl rfl rfl rfl ?_
      refine lf_seg 2 (pc' := 40) (lv' := [(3, .int (Int32.ofInt (s22.1 31 10))), (0, .ref 31), (1, .int (Int32.ofInt a1)), (2, .int (Int32.ofInt a2))]) (st' := [.ref 31]) rfl ?_
      refine lf_callV 43 rfl rfl rfl rfl (gm_31 h) (fun s24 h => ?_)
      refine lf_seg 1 (pc' := 44) (lv' := [(3, .int (Int32.ofInt (s22.1 31 10))), (0, .ref 31), (1, .int (Int32.ofInt a1)), (2, .int (Int32.ofInt a2))]) (st' := [.int (Int32.ofInt (s22.1 31 10))]) rfl ?_
      exact lf_retI rfl rfl h
    · have h := h.2 c
      refine lf_seg 2 (pc' := 29) (lv' := [(0, .ref 31), (1, .int (Int32.ofInt a1)), (2, .int (Int32.ofInt a2))]) (st' := [.int (Int32.ofInt 2), .ref 31]) rfl ?_
      refine lf_callV 32 rfl rfl rfl rfl (gm_39 h) (fun s25 h => ?_)
      refine lf_seg 1 (pc' := 33) (lv' := [(0, .ref 31), (1, .int (Int32.ofInt a1)), (2, .int (Int32.ofInt a2))]) (st' := [.int (Int32.ofInt a1)]) rfl ?_
      exact lf_retI rfl rfl h
  · have h := h.2 c
    refine lf_seg 2 (pc' := 10) (lv' := [(0, .ref 31), (1, .int (Int32.ofInt a1)), (2, .int (Int32.ofInt a2))]) (st' := [.int (Int32.ofInt 1), .ref 31]) rfl ?_
    refine lf_callV 13 rfl rfl rfl rfl (gm_39 h) (fun s26 h => ?_)
    refine lf_seg 1 (pc' := 14) (lv' := [(0, .ref 31), (1, .int (Int32.ofInt a1)), (2, .int (Int32.ofInt a2))]) (st' := [.int (Int32.ofInt a1)]) rfl ?_
    exact lf_retI rfl rfl h
-- fm_57 Script.addClause t i i i
def fm_57 (t0 : Nat) (a1 : Int) (a2 : Int) (a3 : Int) (Q : lf_Z → Prop) (s : lf_Z) : Prop := lf_R (s.1 (35 + 7 * t0) 7) ∧ ((24 ≤ s.1 (35 + 7 * t0) 7 → (Q s)) ∧ (¬ (24 ≤ s.1 (35 + 7 * t0) 7) → ((0 ≤ s.1 (35 + 7 * t0) 7 ∧ s.1 (35 + 7 * t0) 7 < 24) ∧ ((0 ≤ (lf_up s.1 (39 + 7 * t0) (s.1 (35 + 7 * t0) 7) a1) (35 + 7 * t0) 7 ∧ (lf_up s.1 (39 + 7 * t0) (s.1 (35 + 7 * t0) 7) a1) (35 + 7 * t0) 7 < 24) ∧ ((0 ≤ (lf_up (lf_up s.1 (39 + 7 * t0) (s.1 (35 + 7 * t0) 7) a1) (40 + 7 * t0) ((lf_up s.1 (39 + 7 * t0) (s.1 (35 + 7 * t0) 7) a1) (35 + 7 * t0) 7) a2) (35 + 7 * t0) 7 ∧ (lf_up (lf_up s.1 (39 + 7 * t0) (s.1 (35 + 7 * t0) 7) a1) (40 + 7 * t0) ((lf_up s.1 (39 + 7 * t0) (s.1 (35 + 7 * t0) 7) a1) (35 + 7 * t0) 7) a2) (35 + 7 * t0) 7 < 24) ∧ (Q (lf_up (lf_up (lf_up (lf_up s.1 (39 + 7 * t0) (s.1 (35 + 7 * t0) 7) a1) (40 + 7 * t0) ((lf_up s.1 (39 + 7 * t0) (s.1 (35 + 7 * t0) 7) a1) (35 + 7 * t0) 7) a2) (41 + 7 * t0) ((lf_up (lf_up s.1 (39 + 7 * t0) (s.1 (35 + 7 * t0) 7) a1) (40 + 7 * t0) ((lf_up s.1 (39 + 7 * t0) (s.1 (35 + 7 * t0) 7) a1) (35 + 7 * t0) 7) a2) (35 + 7 * t0) 7) a3) (35 + 7 * t0) 7 (((lf_up (lf_up (lf_up s.1 (39 + 7 * t0) (s.1 (35 + 7 * t0) 7) a1) (40 + 7 * t0) ((lf_up s.1 (39 + 7 * t0) (s.1 (35 + 7 * t0) 7) a1) (35 + 7 * t0) 7) a2) (41 + 7 * t0) ((lf_up (lf_up s.1 (39 + 7 * t0) (s.1 (35 + 7 * t0) 7) a1) (40 + 7 * t0) ((lf_up s.1 (39 + 7 * t0) (s.1 (35 + 7 * t0) 7) a1) (35 + 7 * t0) 7) a2) (35 + 7 * t0) 7) a3) (35 + 7 * t0) 7) + 1), s.2.1, s.2.2)))))))
set_option maxRecDepth 100000 in
theorem gm_57 {L : Nat} {xs : Nat → Int32} {d : Nat} {t0 : Nat} {a1 : Int} {a2 : Int} {a3 : Int} {Q : lf_Z → Prop} {s : lf_Z} (htt0 : t0 < 4) (h : fm_57 t0 a1 a2 a3 Q s) : lf_M (px_ro L xs) (d + 1) 57 [.ref (35 + 7 * t0), .int (Int32.ofInt a1), .int (Int32.ofInt a2), .int (Int32.ofInt a3)] s (lf_qv Q) := by
  unfold fm_57 at h
  show lf_E (px_ro L xs) (d + 1) 57 0 [(0, .ref (35 + 7 * t0)), (1, .int (Int32.ofInt a1)), (2, .int (Int32.ofInt a2)), (3, .int (Int32.ofInt a3))] [] s _
  refine lf_seg 1 (pc' := 1) (lv' := [(0, .ref (35 + 7 * t0)), (1, .int (Int32.ofInt a1)), (2, .int (Int32.ofInt a2)), (3, .int (Int32.ofInt a3))]) (st' := [.ref (35 + 7 * t0)]) rfl ?_
  refine lf_getI 4 7 rfl rfl rfl (lf_scr htt0) (lf_scL htt0) rfl rfl ?_
  refine lf_bipush 6 24 rfl rfl (by decide) (by decide) ?_
  obtain ⟨o21, h⟩ := h
  refine lf_icmp_ge 49 9 rfl rfl rfl o21 ⟨by decide, by decide⟩ (fun c => ?_) (fun c => ?_)
  · have h := h.1 c
    exact lf_retV rfl rfl h
  · have h := h.2 c
    refine lf_seg 1 (pc' := 10) (lv' := [(0, .ref (35 + 7 * t0)), (1, .int (Int32.ofInt a1)), (2, .int (Int32.ofInt a2)), (3, .int (Int32.ofInt a3))]) (st' := [.ref (35 + 7 * t0)]) rfl ?_
    refine lf_getR 13 (w := some (39 + 7 * t0)) rfl rfl rfl (lf_scr htt0) (lf_scL htt0) rfl (lf_sP4 htt0) ?_
    refine lf_seg 1 (pc' := 14) (lv' := [(0, .ref (35 + 7 * t0)), (1, .int (Int32.ofInt a1)), (2, .int (Int32.ofInt a2)), (3, .int (Int32.ofInt a3))]) (st' := [.ref (35 + 7 * t0), .ref (39 + 7 * t0)]) rfl ?_
    refine lf_getI 17 7 rfl rfl rfl (lf_scr htt0) (lf_scL htt0) rfl rfl ?_
    refine lf_seg 1 (pc' := 18) (lv' := [(0, .ref (35 + 7 * t0)), (1, .int (Int32.ofInt a1)), (2, .int (Int32.ofInt a2)), (3, .int (Int32.ofInt a3))]) (st' := [.int (Int32.ofInt a1), .int (Int32.ofInt (s.1 (35 + 7 * t0) 7)), .ref (39 + 7 * t0)]) rfl ?_
    obtain ⟨o22, h⟩ := h
    refine lf_iast 19 24 rfl rfl (lf_sA4 htt0) (lf_sC4 htt0) rfl rfl o22 ?_
    refine lf_as (lf_up s.1 (39 + 7 * t0) (s.1 (35 + 7 * t0) 7) a1, s.2.1, s.2.2) rfl ?_
    refine lf_seg 1 (pc' := 20) (lv' := [(0, .ref (35 + 7 * t0)), (1, .int (Int32.ofInt a1)), (2, .int (Int32.ofInt a2)), (3, .int (Int32.ofInt a3))]) (st' := [.ref (35 + 7 * t0)]) rfl ?_
    refine lf_getR 23 (w := some (40 + 7 * t0)) rfl rfl rfl (lf_scr htt0) (lf_scL htt0) rfl (lf_sP5 htt0) ?_
    refine lf_seg 1 (pc' := 24) (lv' := [(0, .ref (35 + 7 * t0)), (1, .int (Int32.ofInt a1)), (2, .int (Int32.ofInt a2)), (3, .int (Int32.ofInt a3))]) (st' := [.ref (35 + 7 * t0), .ref (40 + 7 * t0)]) rfl ?_
    refine lf_getI 27 7 rfl rfl rfl (lf_scr htt0) (lf_scL htt0) rfl rfl ?_
    refine lf_seg 1 (pc' := 28) (lv' := [(0, .ref (35 + 7 * t0)), (1, .int (Int32.ofInt a1)), (2, .int (Int32.ofInt a2)), (3, .int (Int32.ofInt a3))]) (st' := [.int (Int32.ofInt a2), .int (Int32.ofInt ((lf_up s.1 (39 + 7 * t0) (s.1 (35 + 7 * t0) 7) a1) (35 + 7 * t0) 7)), .ref (40 + 7 * t0)]) rfl ?_
    obtain ⟨o23, h⟩ := h
    refine lf_iast 29 24 rfl rfl (lf_sA5 htt0) (lf_sC5 htt0) rfl rfl o23 ?_
    refine lf_as (lf_up (lf_up s.1 (39 + 7 * t0) (s.1 (35 + 7 * t0) 7) a1) (40 + 7 * t0) ((lf_up s.1 (39 + 7 * t0) (s.1 (35 + 7 * t0) 7) a1) (35 + 7 * t0) 7) a2, s.2.1, s.2.2) rfl ?_
    refine lf_seg 1 (pc' := 30) (lv' := [(0, .ref (35 + 7 * t0)), (1, .int (Int32.ofInt a1)), (2, .int (Int32.ofInt a2)), (3, .int (Int32.ofInt a3))]) (st' := [.ref (35 + 7 * t0)]) rfl ?_
    refine lf_getR 33 (w := some (41 + 7 * t0)) rfl rfl rfl (lf_scr htt0) (lf_scL htt0) rfl (lf_sP6 htt0) ?_
    refine lf_seg 1 (pc' := 34) (lv' := [(0, .ref (35 + 7 * t0)), (1, .int (Int32.ofInt a1)), (2, .int (Int32.ofInt a2)), (3, .int (Int32.ofInt a3))]) (st' := [.ref (35 + 7 * t0), .ref (41 + 7 * t0)]) rfl ?_
    refine lf_getI 37 7 rfl rfl rfl (lf_scr htt0) (lf_scL htt0) rfl rfl ?_
    refine lf_seg 1 (pc' := 38) (lv' := [(0, .ref (35 + 7 * t0)), (1, .int (Int32.ofInt a1)), (2, .int (Int32.ofInt a2)), (3, .int (Int32.ofInt a3))]) (st' := [.int (Int32.ofInt a3), .int (Int32.ofInt ((lf_up (lf_up s.1 (39 + 7 * t0) (s.1 (35 + 7 * t0) 7) a1) (40 + 7 * t0) ((lf_up s.1 (39 + 7 * t0) (s.1 (35 + 7 * t0) 7) a1) (35 + 7 * t0) 7) a2) (35 + 7 * t0) 7)), .ref (41 + 7 * t0)]) rfl ?_
    obtain ⟨o24, h⟩ := h
    refine lf_iast 39 24 rfl rfl (lf_sA6 htt0) (lf_sC6 htt0) rfl rfl o24 ?_
    refine lf_as (lf_up (lf_up (lf_up s.1 (39 + 7 * t0) (s.1 (35 + 7 * t0) 7) a1) (40 + 7 * t0) ((lf_up s.1 (39 + 7 * t0) (s.1 (35 + 7 * t0) 7) a1) (35 + 7 * t0) 7) a2) (41 + 7 * t0) ((lf_up (lf_up s.1 (39 + 7 * t0) (s.1 (35 + 7 * t0) 7) a1) (40 + 7 * t0) ((lf_up s.1 (39 + 7 * t0) (s.1 (35 + 7 * t0) 7) a1) (35 + 7 * t0) 7) a2) (35 + 7 * t0) 7) a3, s.2.1, s.2.2) rfl ?_
    refine lf_seg 2 (pc' := 41) (lv' := [(0, .ref (35 + 7 * t0)), (1, .int (Int32.ofInt a1)), (2, .int (Int32.ofInt a2)), (3, .int (Int32.ofInt a3))]) (st' := [.ref (35 + 7 * t0), .ref (35 + 7 * t0)]) rfl ?_
    refine lf_getI 44 7 rfl rfl rfl (lf_scr htt0) (lf_scL htt0) rfl rfl ?_
    refine lf_seg 1 (pc' := 45) (lv' := [(0, .ref (35 + 7 * t0)), (1, .int (Int32.ofInt a1)), (2, .int (Int32.ofInt a2)), (3, .int (Int32.ofInt a3))]) (st' := [.int (Int32.ofInt 1), .int (Int32.ofInt ((lf_up (lf_up (lf_up s.1 (39 + 7 * t0) (s.1 (35 + 7 * t0) 7) a1) (40 + 7 * t0) ((lf_up s.1 (39 + 7 * t0) (s.1 (35 + 7 * t0) 7) a1) (35 + 7 * t0) 7) a2) (41 + 7 * t0) ((lf_up (lf_up s.1 (39 + 7 * t0) (s.1 (35 + 7 * t0) 7) a1) (40 + 7 * t0) ((lf_up s.1 (39 + 7 * t0) (s.1 (35 + 7 * t0) 7) a1) (35 + 7 * t0) 7) a2) (35 + 7 * t0) 7) a3) (35 + 7 * t0) 7)), .ref (35 + 7 * t0)]) rfl ?_
    refine lf_iadd 46 rfl rfl ?_
    refine lf_putI 49 7 rfl rfl rfl (lf_scr htt0) (lf_scL htt0) rfl rfl rfl ?_
    refine lf_as (lf_up (lf_up (lf_up (lf_up s.1 (39 + 7 * t0) (s.1 (35 + 7 * t0) 7) a1) (40 + 7 * t0) ((lf_up s.1 (39 + 7 * t0) (s.1 (35 + 7 * t0) 7) a1) (35 + 7 * t0) 7) a2) (41 + 7 * t0) ((lf_up (lf_up s.1 (39 + 7 * t0) (s.1 (35 + 7 * t0) 7) a1) (40 + 7 * t0) ((lf_up s.1 (39 + 7 * t0) (s.1 (35 + 7 * t0) 7) a1) (35 + 7 * t0) 7) a2) (35 + 7 * t0) 7) a3) (35 + 7 * t0) 7 (((lf_up (lf_up (lf_up s.1 (39 + 7 * t0) (s.1 (35 + 7 * t0) 7) a1) (40 + 7 * t0) ((lf_up s.1 (39 + 7 * t0) (s.1 (35 + 7 * t0) 7) a1) (35 + 7 * t0) 7) a2) (41 + 7 * t0) ((lf_up (lf_up s.1 (39 + 7 * t0) (s.1 (35 + 7 * t0) 7) a1) (40 + 7 * t0) ((lf_up s.1 (39 + 7 * t0) (s.1 (35 + 7 * t0) 7) a1) (35 + 7 * t0) 7) a2) (35 + 7 * t0) 7) a3) (35 + 7 * t0) 7) + 1), s.2.1, s.2.2) rfl ?_
    exact lf_retV rfl rfl h
-- fm_48 Reader.expect 31 i
def fm_48 (a1 : Int) (Q : lf_Z → Prop) (s : lf_Z) : Prop := lf_R (s.1 31 8) ∧ (lf_R a1 ∧ ((s.1 31 8 ≠ a1 → (fm_39 1 (fun s23 => (Q s23)) s)) ∧ (¬ (s.1 31 8 ≠ a1) → (fm_31 (fun s24 => (Q s24)) s))))
set_option maxRecDepth 100000 in
theorem gm_48 {L : Nat} {xs : Nat → Int32} {d : Nat} {a1 : Int} {Q : lf_Z → Prop} {s : lf_Z} (h : fm_48 a1 Q s) : lf_M (px_ro L xs) (d + 4) 48 [.ref 31, .int (Int32.ofInt a1)] s (lf_qv Q) := by
  unfold fm_48 at h
  show lf_E (px_ro L xs) (d + 4) 48 0 [(0, .ref 31), (1, .int (Int32.ofInt a1))] [] s _
  refine lf_seg 1 (pc' := 1) (lv' := [(0, .ref 31), (1, .int (Int32.ofInt a1))]) (st' := [.ref 31]) rfl ?_
  refine lf_getI 4 8 rfl rfl rfl rfl rfl rfl rfl ?_
  refine lf_seg 1 (pc' := 5) (lv' := [(0, .ref 31), (1, .int (Int32.ofInt a1))]) (st' := [.int (Int32.ofInt a1), .int (Int32.ofInt (s.1 31 8))]) rfl ?_
  obtain ⟨o21, h⟩ := h
  obtain ⟨o22, h⟩ := h
  refine lf_icmp_ne 15 8 rfl rfl rfl o21 o22 (fun c => ?_) (fun c => ?_)
  · have h := h.1 c
    refine lf_seg 2 (pc' := 17) (lv' := [(0, .ref 31), (1, .int (Int32.ofInt a1))]) (st' := [.int (Int32.ofInt 1), .ref 31]) rfl ?_
    refine lf_callV 20 rfl rfl rfl rfl (gm_39 h) (fun s23 h => ?_)
    exact lf_retV rfl rfl h
  · have h := h.2 c
    refine lf_seg 1 (pc' := 9) (lv' := [(0, .ref 31), (1, .int (Int32.ofInt a1))]) (st' := [.ref 31]) rfl ?_
    refine lf_callV 12 rfl rfl rfl rfl (gm_31 h) (fun s24 h => ?_)
    refine lf_seg 1 (pc' := 20) (lv' := [(0, .ref 31), (1, .int (Int32.ofInt a1))]) (st' := []) rfl ?_
    exact lf_retV rfl rfl h
-- fm_58 Reader.readDeed 31 i
def fm_58_p68 (Q : lf_Z → Prop) (x1 : Int) (x3 : Int) (x4 : Int) (s : lf_Z) : Prop := (s.2.2 2 = none → (False)) ∧ (∀ t26 : Nat, s.2.2 2 = some t26 → t26 < 4 ∧ (fm_57 t26 x1 x3 x4 (fun s27 => (Q s27)) s))
set_option maxRecDepth 100000 in
theorem gm_58_p68 {L : Nat} {xs : Nat → Int32} {d : Nat} {Q : lf_Z → Prop} {x1 : Int} {x3 : Int} {x4 : Int} {s : lf_Z} (h : fm_58_p68 Q x1 x3 x4 s) : lf_E (px_ro L xs) (d + 5) 58 68 [(0, .ref 31), (1, .int (Int32.ofInt x1)), (3, .int (Int32.ofInt x3)), (4, .int (Int32.ofInt x4))] [] s (lf_qv Q) := by
  unfold fm_58_p68 at h
  refine lf_seg 1 (pc' := 69) (lv' := [(0, .ref 31), (1, .int (Int32.ofInt x1)), (3, .int (Int32.ofInt x3)), (4, .int (Int32.ofInt x4))]) (st' := [.ref 31]) rfl ?_
  cases et26 : s.2.2 2 with
  | none =>
    have h := h.1 et26
    refine lf_getR 72 (w := none) rfl rfl rfl rfl rfl rfl (congrArg (Option.map (fun t => 35 + 7 * t)) et26) ?_
    refine lf_seg 3 (pc' := 76) (lv' := [(0, .ref 31), (1, .int (Int32.ofInt x1)), (3, .int (Int32.ofInt x3)), (4, .int (Int32.ofInt x4))]) (st' := [.int (Int32.ofInt x4), .int (Int32.ofInt x3), .int (Int32.ofInt x1), .null]) rfl ?_
    exact h.elim
  | some t26 =>
    obtain ⟨htt26, h⟩ := h.2 t26 et26
    refine lf_getR 72 (w := some (35 + 7 * t26)) rfl rfl rfl rfl rfl rfl (congrArg (Option.map (fun t => 35 + 7 * t)) et26) ?_
    refine lf_seg 3 (pc' := 76) (lv' := [(0, .ref 31), (1, .int (Int32.ofInt x1)), (3, .int (Int32.ofInt x3)), (4, .int (Int32.ofInt x4))]) (st' := [.int (Int32.ofInt x4), .int (Int32.ofInt x3), .int (Int32.ofInt x1), .ref (35 + 7 * t26)]) rfl ?_
    refine lf_callV 79 rfl rfl (lf_invT htt26 rfl rfl rfl rfl) rfl (gm_57 htt26 h) (fun s27 h => ?_)
    exact lf_retV rfl rfl h
def fm_58 (a1 : Int) (Q : lf_Z → Prop) (s : lf_Z) : Prop := (0 ≤ (a1 - 23) * 5 ∧ (a1 - 23) * 5 < 50) ∧ ((0 ≤ ((a1 - 23) * 5) + 1 ∧ ((a1 - 23) * 5) + 1 < 50) ∧ (fm_44 ((px_sh ((a1 - 23) * 5).toNat).toInt) ((px_sh (((a1 - 23) * 5) + 1).toNat).toInt) (fun r24 s23 => ((0 ≤ ((a1 - 23) * 5) + 2 ∧ ((a1 - 23) * 5) + 2 < 50) ∧ (((px_sh (((a1 - 23) * 5) + 2).toNat).toInt = 0 → (fm_58_p68 Q a1 r24 0 s23)) ∧ (¬ ((px_sh (((a1 - 23) * 5) + 2).toNat).toInt = 0) → (fm_48 ((px_sh (((a1 - 23) * 5) + 2).toNat).toInt) (fun s28 => ((0 ≤ ((a1 - 23) * 5) + 3 ∧ ((a1 - 23) * 5) + 3 < 50) ∧ ((0 ≤ ((a1 - 23) * 5) + 4 ∧ ((a1 - 23) * 5) + 4 < 50) ∧ (fm_44 ((px_sh (((a1 - 23) * 5) + 3).toNat).toInt) ((px_sh (((a1 - 23) * 5) + 4).toNat).toInt) (fun r32 s31 => (fm_58_p68 Q a1 r24 r32 s31)) s28)))) s23))))) s))
set_option maxRecDepth 100000 in
theorem gm_58 {L : Nat} {xs : Nat → Int32} {d : Nat} {a1 : Int} {Q : lf_Z → Prop} {s : lf_Z} (h : fm_58 a1 Q s) : lf_M (px_ro L xs) (d + 5) 58 [.ref 31, .int (Int32.ofInt a1)] s (lf_qv Q) := by
  unfold fm_58 at h
  show lf_E (px_ro L xs) (d + 5) 58 0 [(0, .ref 31), (1, .int (Int32.ofInt a1))] [] s _
  refine lf_seg 1 (pc' := 1) (lv' := [(0, .ref 31), (1, .int (Int32.ofInt a1))]) (st' := [.int (Int32.ofInt a1)]) rfl ?_
  refine lf_bipush 3 23 rfl rfl (by decide) (by decide) ?_
  refine lf_isub 4 rfl rfl ?_
  refine lf_seg 1 (pc' := 5) (lv' := [(0, .ref 31), (1, .int (Int32.ofInt a1))]) (st' := [.int (Int32.ofInt 5), .int (Int32.ofInt (a1 - 23))]) rfl ?_
  refine lf_imul 6 rfl rfl ?_
  refine lf_seg 2 (pc' := 8) (lv' := [(2, .int (Int32.ofInt ((a1 - 23) * 5))), (0, .ref 31), (1, .int (Int32.ofInt a1))]) (st' := [.ref 31]) rfl ?_
  refine lf_getst 11 101 rfl rfl rfl ?_
  refine lf_seg 1 (pc' := 12) (lv' := [(2, .int (Int32.ofInt ((a1 - 23) * 5))), (0, .ref 31), (1, .int (Int32.ofInt a1))]) (st' := [.int (Int32.ofInt ((a1 - 23) * 5)), .ref (px_SC + 1), .ref 31]) rfl ?_
  obtain ⟨o21, h⟩ := h
  refine lf_iro 13 1 50 50 rfl rfl rfl rfl rfl o21 ?_
  refine lf_getst 16 101 rfl rfl rfl ?_
  refine lf_seg 2 (pc' := 18) (lv' := [(2, .int (Int32.ofInt ((a1 - 23) * 5))), (0, .ref 31), (1, .int (Int32.ofInt a1))]) (st' := [.int (Int32.ofInt 1), .int (Int32.ofInt ((a1 - 23) * 5)), .ref (px_SC + 1), .int (Int32.ofInt ((px_sh ((a1 - 23) * 5).toNat).toInt)), .ref 31]) rfl ?_
  refine lf_iadd 19 rfl rfl ?_
  obtain ⟨o22, h⟩ := h
  refine lf_iro 20 1 50 50 rfl rfl rfl rfl rfl o22 ?_
  refine lf_callI 23 rfl rfl rfl rfl (gm_44 h) (fun r24 s23 h => ?_)
  refine lf_seg 3 (pc' := 27) (lv' := [(4, .int (Int32.ofInt 0)), (3, .int (Int32.ofInt r24)), (2, .int (Int32.ofInt ((a1 - 23) * 5))), (0, .ref 31), (1, .int (Int32.ofInt a1))]) (st' := []) rfl ?_
  refine lf_getst 30 101 rfl rfl rfl ?_
  refine lf_seg 2 (pc' := 32) (lv' := [(4, .int (Int32.ofInt 0)), (3, .int (Int32.ofInt r24)), (2, .int (Int32.ofInt ((a1 - 23) * 5))), (0, .ref 31), (1, .int (Int32.ofInt a1))]) (st' := [.int (Int32.ofInt 2), .int (Int32.ofInt ((a1 - 23) * 5)), .ref (px_SC + 1)]) rfl ?_
  refine lf_iadd 33 rfl rfl ?_
  obtain ⟨o25, h⟩ := h
  refine lf_iro 34 1 50 50 rfl rfl rfl rfl rfl o25 ?_
  refine lf_if_eq 68 37 rfl rfl rfl (lf_R_i _) (fun c => ?_) (fun c => ?_)
  · have h := h.1 c
    refine lf_sub (l := [(0, .ref 31), (1, .int (Int32.ofInt a1)), (3, .int (Int32.ofInt r24)), (4, .int (Int32.ofInt 0))]) (lf_sb1 rfl (lf_sb1 rfl (lf_sb1 rfl (lf_sb1 rfl lf_sb0)))) ?_
    exact gm_58_p68 h
  · have h := h.2 c
    refine lf_seg 1 (pc' := 38) (lv' := [(4, .int (Int32.ofInt 0)), (3, .int (Int32.ofInt r24)), (2, .int (Int32.ofInt ((a1 - 23) * 5))), (0, .ref 31), (1, .int (Int32.ofInt a1))]) (st' := [.ref 31]) rfl ?_
    refine lf_getst 41 101 rfl rfl rfl ?_
    refine lf_seg 2 (pc' := 43) (lv' := [(4, .int (Int32.ofInt 0)), (3, .int (Int32.ofInt r24)), (2, .int (Int32.ofInt ((a1 - 23) * 5))), (0, .ref 31), (1, .int (Int32.ofInt a1))]) (st' := [.int (Int32.ofInt 2), .int (Int32.ofInt ((a1 - 23) * 5)), .ref (px_SC + 1), .ref 31]) rfl ?_
    refine lf_iadd 44 rfl rfl ?_
    refine lf_iro 45 1 50 50 rfl rfl rfl rfl rfl o25 ?_
    refine lf_callV 48 rfl rfl rfl rfl (gm_48 h) (fun s28 h => ?_)
    refine lf_seg 1 (pc' := 49) (lv' := [(4, .int (Int32.ofInt 0)), (3, .int (Int32.ofInt r24)), (2, .int (Int32.ofInt ((a1 - 23) * 5))), (0, .ref 31), (1, .int (Int32.ofInt a1))]) (st' := [.ref 31]) rfl ?_
    refine lf_getst 52 101 rfl rfl rfl ?_
    refine lf_seg 2 (pc' := 54) (lv' := [(4, .int (Int32.ofInt 0)), (3, .int (Int32.ofInt r24)), (2, .int (Int32.ofInt ((a1 - 23) * 5))), (0, .ref 31), (1, .int (Int32.ofInt a1))]) (st' := [.int (Int32.ofInt 3), .int (Int32.ofInt ((a1 - 23) * 5)), .ref (px_SC + 1), .ref 31]) rfl ?_
    refine lf_iadd 55 rfl rfl ?_
    obtain ⟨o29, h⟩ := h
    refine lf_iro 56 1 50 50 rfl rfl rfl rfl rfl o29 ?_
    refine lf_getst 59 101 rfl rfl rfl ?_
    refine lf_seg 2 (pc' := 61) (lv' := [(4, .int (Int32.ofInt 0)), (3, .int (Int32.ofInt r24)), (2, .int (Int32.ofInt ((a1 - 23) * 5))), (0, .ref 31), (1, .int (Int32.ofInt a1))]) (st' := [.int (Int32.ofInt 4), .int (Int32.ofInt ((a1 - 23) * 5)), .ref (px_SC + 1), .int (Int32.ofInt ((px_sh (((a1 - 23) * 5) + 3).toNat).toInt)), .ref 31]) rfl ?_
    refine lf_iadd 62 rfl rfl ?_
    obtain ⟨o30, h⟩ := h
    refine lf_iro 63 1 50 50 rfl rfl rfl rfl rfl o30 ?_
    refine lf_callI 66 rfl rfl rfl rfl (gm_44 h) (fun r32 s31 h => ?_)
    refine lf_seg 1 (pc' := 68) (lv' := [(4, .int (Int32.ofInt r32)), (3, .int (Int32.ofInt r24)), (2, .int (Int32.ofInt ((a1 - 23) * 5))), (0, .ref 31), (1, .int (Int32.ofInt a1))]) (st' := []) rfl ?_
    refine lf_sub (l := [(0, .ref 31), (1, .int (Int32.ofInt a1)), (3, .int (Int32.ofInt r24)), (4, .int (Int32.ofInt r32))]) (lf_sb1 rfl (lf_sb1 rfl (lf_sb1 rfl (lf_sb1 rfl lf_sb0)))) ?_
    exact gm_58_p68 h
-- fm_45 Script.addOrder t i i
def fm_45 (t0 : Nat) (a1 : Int) (a2 : Int) (Q : Int → lf_Z → Prop) (s : lf_Z) : Prop := lf_R (s.1 (35 + 7 * t0) 1) ∧ ((s.1 (35 + 7 * t0) 1 < 300 → ((0 ≤ s.1 (35 + 7 * t0) 1 ∧ s.1 (35 + 7 * t0) 1 < 300) ∧ (Q (((lf_up (lf_up s.1 (36 + 7 * t0) (s.1 (35 + 7 * t0) 1) ((a1 * 10000) + a2)) (35 + 7 * t0) 1 (((lf_up s.1 (36 + 7 * t0) (s.1 (35 + 7 * t0) 1) ((a1 * 10000) + a2)) (35 + 7 * t0) 1) + 1)) (35 + 7 * t0) 1) - 1) (lf_up (lf_up s.1 (36 + 7 * t0) (s.1 (35 + 7 * t0) 1) ((a1 * 10000) + a2)) (35 + 7 * t0) 1 (((lf_up s.1 (36 + 7 * t0) (s.1 (35 + 7 * t0) 1) ((a1 * 10000) + a2)) (35 + 7 * t0) 1) + 1), s.2.1, s.2.2)))) ∧ (¬ (s.1 (35 + 7 * t0) 1 < 300) → (Q (-1) s)))
set_option maxRecDepth 100000 in
theorem gm_45 {L : Nat} {xs : Nat → Int32} {d : Nat} {t0 : Nat} {a1 : Int} {a2 : Int} {Q : Int → lf_Z → Prop} {s : lf_Z} (htt0 : t0 < 4) (h : fm_45 t0 a1 a2 Q s) : lf_M (px_ro L xs) (d + 1) 45 [.ref (35 + 7 * t0), .int (Int32.ofInt a1), .int (Int32.ofInt a2)] s (lf_qi Q) := by
  unfold fm_45 at h
  show lf_E (px_ro L xs) (d + 1) 45 0 [(0, .ref (35 + 7 * t0)), (1, .int (Int32.ofInt a1)), (2, .int (Int32.ofInt a2))] [] s _
  refine lf_seg 1 (pc' := 1) (lv' := [(0, .ref (35 + 7 * t0)), (1, .int (Int32.ofInt a1)), (2, .int (Int32.ofInt a2))]) (st' := [.ref (35 + 7 * t0)]) rfl ?_
  refine lf_getI 4 1 rfl rfl rfl (lf_scr htt0) (lf_scL htt0) rfl rfl ?_
  refine lf_sipush 7 300 rfl rfl (by decide) (by decide) ?_
  obtain ⟨o21, h⟩ := h
  refine lf_icmp_lt 12 10 rfl rfl rfl o21 ⟨by decide, by decide⟩ (fun c => ?_) (fun c => ?_)
  · have h := h.1 c
    refine lf_seg 1 (pc' := 13) (lv' := [(0, .ref (35 + 7 * t0)), (1, .int (Int32.ofInt a1)), (2, .int (Int32.ofInt a2))]) (st' := [.ref (35 + 7 * t0)]) rfl ?_
    refine lf_getR 16 (w := some (36 + 7 * t0)) rfl rfl rfl (lf_scr htt0) (lf_scL htt0) rfl (lf_sP0 htt0) ?_
    refine lf_seg 1 (pc' := 17) (lv' := [(0, .ref (35 + 7 * t0)), (1, .int (Int32.ofInt a1)), (2, .int (Int32.ofInt a2))]) (st' := [.ref (35 + 7 * t0), .ref (36 + 7 * t0)]) rfl ?_
    refine lf_getI 20 1 rfl rfl rfl (lf_scr htt0) (lf_scL htt0) rfl rfl ?_
    refine lf_seg 1 (pc' := 21) (lv' := [(0, .ref (35 + 7 * t0)), (1, .int (Int32.ofInt a1)), (2, .int (Int32.ofInt a2))]) (st' := [.int (Int32.ofInt a1), .int (Int32.ofInt (s.1 (35 + 7 * t0) 1)), .ref (36 + 7 * t0)]) rfl ?_
    refine lf_sipush 24 10000 rfl rfl (by decide) (by decide) ?_
    refine lf_imul 25 rfl rfl ?_
    refine lf_seg 1 (pc' := 26) (lv' := [(0, .ref (35 + 7 * t0)), (1, .int (Int32.ofInt a1)), (2, .int (Int32.ofInt a2))]) (st' := [.int (Int32.ofInt a2), .int (Int32.ofInt (a1 * 10000)), .int (Int32.ofInt (s.1 (35 + 7 * t0) 1)), .ref (36 + 7 * t0)]) rfl ?_
    refine lf_iadd 27 rfl rfl ?_
    obtain ⟨o22, h⟩ := h
    refine lf_iast 28 300 rfl rfl (lf_sA0 htt0) (lf_sC0 htt0) rfl rfl o22 ?_
    refine lf_as (lf_up s.1 (36 + 7 * t0) (s.1 (35 + 7 * t0) 1) ((a1 * 10000) + a2), s.2.1, s.2.2) rfl ?_
    refine lf_seg 2 (pc' := 30) (lv' := [(0, .ref (35 + 7 * t0)), (1, .int (Int32.ofInt a1)), (2, .int (Int32.ofInt a2))]) (st' := [.ref (35 + 7 * t0), .ref (35 + 7 * t0)]) rfl ?_
    refine lf_getI 33 1 rfl rfl rfl (lf_scr htt0) (lf_scL htt0) rfl rfl ?_
    refine lf_seg 1 (pc' := 34) (lv' := [(0, .ref (35 + 7 * t0)), (1, .int (Int32.ofInt a1)), (2, .int (Int32.ofInt a2))]) (st' := [.int (Int32.ofInt 1), .int (Int32.ofInt ((lf_up s.1 (36 + 7 * t0) (s.1 (35 + 7 * t0) 1) ((a1 * 10000) + a2)) (35 + 7 * t0) 1)), .ref (35 + 7 * t0)]) rfl ?_
    refine lf_iadd 35 rfl rfl ?_
    refine lf_putI 38 1 rfl rfl rfl (lf_scr htt0) (lf_scL htt0) rfl rfl rfl ?_
    refine lf_as (lf_up (lf_up s.1 (36 + 7 * t0) (s.1 (35 + 7 * t0) 1) ((a1 * 10000) + a2)) (35 + 7 * t0) 1 (((lf_up s.1 (36 + 7 * t0) (s.1 (35 + 7 * t0) 1) ((a1 * 10000) + a2)) (35 + 7 * t0) 1) + 1), s.2.1, s.2.2) rfl ?_
    refine lf_seg 1 (pc' := 39) (lv' := [(0, .ref (35 + 7 * t0)), (1, .int (Int32.ofInt a1)), (2, .int (Int32.ofInt a2))]) (st' := [.ref (35 + 7 * t0)]) rfl ?_
    refine lf_getI 42 1 rfl rfl rfl (lf_scr htt0) (lf_scL htt0) rfl rfl ?_
    refine lf_seg 1 (pc' := 43) (lv' := [(0, .ref (35 + 7 * t0)), (1, .int (Int32.ofInt a1)), (2, .int (Int32.ofInt a2))]) (st' := [.int (Int32.ofInt 1), .int (Int32.ofInt ((lf_up (lf_up s.1 (36 + 7 * t0) (s.1 (35 + 7 * t0) 1) ((a1 * 10000) + a2)) (35 + 7 * t0) 1 (((lf_up s.1 (36 + 7 * t0) (s.1 (35 + 7 * t0) 1) ((a1 * 10000) + a2)) (35 + 7 * t0) 1) + 1)) (35 + 7 * t0) 1))]) rfl ?_
    refine lf_isub 44 rfl rfl ?_
    exact lf_retI rfl rfl h
  · have h := h.2 c
    refine lf_seg 1 (pc' := 11) (lv' := [(0, .ref (35 + 7 * t0)), (1, .int (Int32.ofInt a1)), (2, .int (Int32.ofInt a2))]) (st' := [.int (Int32.ofInt (-1))]) rfl ?_
    exact lf_retI rfl rfl h
-- fm_56 Reader.readName 31
def fm_56_p53 (Q : lf_Z → Prop) (x1 : Int) (s : lf_Z) : Prop := (0 ≤ x1 ∧ x1 < 11) ∧ ((lf_and (lf_shr ((px_lw (x1).toNat).toInt) (s.1 31 6)) 1 ≠ 0 → ((s.2.2 2 = none → (False)) ∧ (∀ t24 : Nat, s.2.2 2 = some t24 → t24 < 4 ∧ (fm_45 t24 17 x1 (fun r26 s25 => (fm_31 (fun s27 => (Q s27)) s25)) s)))) ∧ (¬ (lf_and (lf_shr ((px_lw (x1).toNat).toInt) (s.1 31 6)) 1 ≠ 0) → (fm_39 5 (fun s28 => (Q s28)) s)))
set_option maxRecDepth 100000 in
theorem gm_56_p53 {L : Nat} {xs : Nat → Int32} {d : Nat} {Q : lf_Z → Prop} {x1 : Int} {s : lf_Z} (h : fm_56_p53 Q x1 s) : lf_E (px_ro L xs) (d + 4) 56 53 [(0, .ref 31), (1, .int (Int32.ofInt x1))] [] s (lf_qv Q) := by
  unfold fm_56_p53 at h
  refine lf_getst 56 134 rfl rfl rfl ?_
  refine lf_seg 1 (pc' := 57) (lv' := [(0, .ref 31), (1, .int (Int32.ofInt x1))]) (st' := [.int (Int32.ofInt x1), .ref (px_SC + 2)]) rfl ?_
  obtain ⟨o23, h⟩ := h
  refine lf_iro 58 2 11 11 rfl rfl rfl rfl rfl o23 ?_
  refine lf_seg 1 (pc' := 59) (lv' := [(0, .ref 31), (1, .int (Int32.ofInt x1))]) (st' := [.ref 31, .int (Int32.ofInt ((px_lw (x1).toNat).toInt))]) rfl ?_
  refine lf_getI 62 6 rfl rfl rfl rfl rfl rfl rfl ?_
  refine lf_ishr 63 rfl rfl ?_
  refine lf_seg 1 (pc' := 64) (lv' := [(0, .ref 31), (1, .int (Int32.ofInt x1))]) (st' := [.int (Int32.ofInt 1), .int (Int32.ofInt (lf_shr ((px_lw (x1).toNat).toInt) (s.1 31 6)))]) rfl ?_
  refine lf_iand 65 rfl rfl ?_
  refine lf_if_ne 76 68 rfl rfl rfl lf_Rand (fun c => ?_) (fun c => ?_)
  · have h := h.1 c
    refine lf_seg 1 (pc' := 77) (lv' := [(0, .ref 31), (1, .int (Int32.ofInt x1))]) (st' := [.ref 31]) rfl ?_
    cases et24 : s.2.2 2 with
    | none =>
      have h := h.1 et24
      refine lf_getR 80 (w := none) rfl rfl rfl rfl rfl rfl (congrArg (Option.map (fun t => 35 + 7 * t)) et24) ?_
      refine lf_bipush 82 17 rfl rfl (by decide) (by decide) ?_
      refine lf_seg 1 (pc' := 83) (lv' := [(0, .ref 31), (1, .int (Int32.ofInt x1))]) (st' := [.int (Int32.ofInt x1), .int (Int32.ofInt 17), .null]) rfl ?_
      exact h.elim
    | some t24 =>
      obtain ⟨htt24, h⟩ := h.2 t24 et24
      refine lf_getR 80 (w := some (35 + 7 * t24)) rfl rfl rfl rfl rfl rfl (congrArg (Option.map (fun t => 35 + 7 * t)) et24) ?_
      refine lf_bipush 82 17 rfl rfl (by decide) (by decide) ?_
      refine lf_seg 1 (pc' := 83) (lv' := [(0, .ref 31), (1, .int (Int32.ofInt x1))]) (st' := [.int (Int32.ofInt x1), .int (Int32.ofInt 17), .ref (35 + 7 * t24)]) rfl ?_
      refine lf_callI 86 rfl rfl (lf_invT htt24 rfl rfl rfl rfl) rfl (gm_45 htt24 h) (fun r26 s25 h => ?_)
      refine lf_seg 2 (pc' := 88) (lv' := [(0, .ref 31), (1, .int (Int32.ofInt x1))]) (st' := [.ref 31]) rfl ?_
      refine lf_callV 91 rfl rfl rfl rfl (gm_31 h) (fun s27 h => ?_)
      exact lf_retV rfl rfl h
  · have h := h.2 c
    refine lf_seg 2 (pc' := 70) (lv' := [(0, .ref 31), (1, .int (Int32.ofInt x1))]) (st' := [.int (Int32.ofInt 5), .ref 31]) rfl ?_
    refine lf_callV 73 rfl rfl rfl rfl (gm_39 h) (fun s28 h => ?_)
    refine lf_seg 1 (pc' := 91) (lv' := [(0, .ref 31), (1, .int (Int32.ofInt x1))]) (st' := []) rfl ?_
    exact lf_retV rfl rfl h
def fm_56_p21 (Q : lf_Z → Prop) (y0 : Int) (s : lf_Z) : Prop := lf_R (s.1 31 8) ∧ ((s.1 31 8 = 24 → (fm_56_p53 Q y0 s)) ∧ (¬ (s.1 31 8 = 24) → (fm_15 (s.1 31 8) 47 56 (fun z30 s29 => ((z30 = true → (fm_56_p53 Q y0 s29)) ∧ (z30 = false → (fm_39 1 (fun s31 => (Q s31)) s29)))) s)))
set_option maxRecDepth 100000 in
theorem gm_56_p21 {L : Nat} {xs : Nat → Int32} {d : Nat} {Q : lf_Z → Prop} {y0 : Int} {s : lf_Z} (h : fm_56_p21 Q y0 s) : lf_E (px_ro L xs) (d + 4) 56 21 [(0, .ref 31)] [.int (Int32.ofInt y0)] s (lf_qv Q) := by
  unfold fm_56_p21 at h
  refine lf_seg 2 (pc' := 23) (lv' := [(1, .int (Int32.ofInt y0)), (0, .ref 31)]) (st' := [.ref 31]) rfl ?_
  refine lf_getI 26 8 rfl rfl rfl rfl rfl rfl rfl ?_
  refine lf_bipush 28 24 rfl rfl (by decide) (by decide) ?_
  obtain ⟨o22, h⟩ := h
  refine lf_icmp_eq 53 31 rfl rfl rfl o22 ⟨by decide, by decide⟩ (fun c => ?_) (fun c => ?_)
  · have h := h.1 c
    refine lf_sub (l := [(0, .ref 31), (1, .int (Int32.ofInt y0))]) (lf_sb1 rfl (lf_sb1 rfl lf_sb0)) ?_
    exact gm_56_p53 h
  · have h := h.2 c
    refine lf_seg 1 (pc' := 32) (lv' := [(1, .int (Int32.ofInt y0)), (0, .ref 31)]) (st' := [.ref 31]) rfl ?_
    refine lf_getI 35 8 rfl rfl rfl rfl rfl rfl rfl ?_
    refine lf_bipush 37 47 rfl rfl (by decide) (by decide) ?_
    refine lf_bipush 39 56 rfl rfl (by decide) (by decide) ?_
    refine lf_callZ 42 rfl rfl rfl rfl (gm_15 h) (fun z30 s29 h => ?_)
    refine lf_ifz_ne 53 45 rfl rfl rfl (fun c => ?_) (fun c => ?_)
    · have h := h.1 c
      refine lf_sub (l := [(0, .ref 31), (1, .int (Int32.ofInt y0))]) (lf_sb1 rfl (lf_sb1 rfl lf_sb0)) ?_
      exact gm_56_p53 h
    · have h := h.2 c
      refine lf_seg 2 (pc' := 47) (lv' := [(1, .int (Int32.ofInt y0)), (0, .ref 31)]) (st' := [.int (Int32.ofInt 1), .ref 31]) rfl ?_
      refine lf_callV 50 rfl rfl rfl rfl (gm_39 h) (fun s31 h => ?_)
      refine lf_seg 1 (pc' := 91) (lv' := [(1, .int (Int32.ofInt y0)), (0, .ref 31)]) (st' := []) rfl ?_
      exact lf_retV rfl rfl h
def fm_56 (Q : lf_Z → Prop) (s : lf_Z) : Prop := lf_R (s.1 31 8) ∧ ((s.1 31 8 ≠ 24 → (fm_56_p21 Q ((s.1 31 8) - 47) s)) ∧ (¬ (s.1 31 8 ≠ 24) → (fm_56_p21 Q 10 s)))
set_option maxRecDepth 100000 in
theorem gm_56 {L : Nat} {xs : Nat → Int32} {d : Nat} {Q : lf_Z → Prop} {s : lf_Z} (h : fm_56 Q s) : lf_M (px_ro L xs) (d + 4) 56 [.ref 31] s (lf_qv Q) := by
  unfold fm_56 at h
  show lf_E (px_ro L xs) (d + 4) 56 0 [(0, .ref 31)] [] s _
  refine lf_seg 1 (pc' := 1) (lv' := [(0, .ref 31)]) (st' := [.ref 31]) rfl ?_
  refine lf_getI 4 8 rfl rfl rfl rfl rfl rfl rfl ?_
  refine lf_bipush 6 24 rfl rfl (by decide) (by decide) ?_
  obtain ⟨o21, h⟩ := h
  refine lf_icmp_ne 14 9 rfl rfl rfl o21 ⟨by decide, by decide⟩ (fun c => ?_) (fun c => ?_)
  · have h := h.1 c
    refine lf_seg 1 (pc' := 15) (lv' := [(0, .ref 31)]) (st' := [.ref 31]) rfl ?_
    refine lf_getI 18 8 rfl rfl rfl rfl rfl rfl rfl ?_
    refine lf_bipush 20 47 rfl rfl (by decide) (by decide) ?_
    refine lf_isub 21 rfl rfl ?_
    refine lf_sub (l := [(0, .ref 31)]) (lf_sb1 rfl lf_sb0) ?_
    exact gm_56_p21 h
  · have h := h.2 c
    refine lf_bipush 11 10 rfl rfl (by decide) (by decide) ?_
    refine lf_seg 1 (pc' := 21) (lv' := [(0, .ref 31)]) (st' := [.int (Int32.ofInt 10)]) rfl ?_
    refine lf_sub (l := [(0, .ref 31)]) (lf_sb1 rfl lf_sb0) ?_
    exact gm_56_p21 h
-- fm_46 Reader.readLetter 31
def fm_46_p26 (Q : lf_Z → Prop) (y0 : Int) (s : lf_Z) : Prop := lf_R y0 ∧ ((y0 ≠ (-1) → ((s.2.2 2 = none → (False)) ∧ (∀ t24 : Nat, s.2.2 2 = some t24 → t24 < 4 ∧ (fm_45 t24 3 y0 (fun r26 s25 => (fm_31 (fun s27 => (Q s27)) s25)) s)))) ∧ (¬ (y0 ≠ (-1)) → (fm_39 5 (fun s28 => (Q s28)) s)))
set_option maxRecDepth 100000 in
theorem gm_46_p26 {L : Nat} {xs : Nat → Int32} {d : Nat} {Q : lf_Z → Prop} {y0 : Int} {s : lf_Z} (h : fm_46_p26 Q y0 s) : lf_E (px_ro L xs) (d + 4) 46 26 [(0, .ref 31)] [.int (Int32.ofInt y0)] s (lf_qv Q) := by
  unfold fm_46_p26 at h
  refine lf_seg 3 (pc' := 29) (lv' := [(1, .int (Int32.ofInt y0)), (0, .ref 31)]) (st' := [.int (Int32.ofInt (-1)), .int (Int32.ofInt y0)]) rfl ?_
  obtain ⟨o23, h⟩ := h
  refine lf_icmp_ne 40 32 rfl rfl rfl o23 ⟨by decide, by decide⟩ (fun c => ?_) (fun c => ?_)
  · have h := h.1 c
    refine lf_seg 1 (pc' := 41) (lv' := [(1, .int (Int32.ofInt y0)), (0, .ref 31)]) (st' := [.ref 31]) rfl ?_
    cases et24 : s.2.2 2 with
    | none =>
      have h := h.1 et24
      refine lf_getR 44 (w := none) rfl rfl rfl rfl rfl rfl (congrArg (Option.map (fun t => 35 + 7 * t)) et24) ?_
      refine lf_seg 2 (pc' := 46) (lv' := [(1, .int (Int32.ofInt y0)), (0, .ref 31)]) (st' := [.int (Int32.ofInt y0), .int (Int32.ofInt 3), .null]) rfl ?_
      exact h.elim
    | some t24 =>
      obtain ⟨htt24, h⟩ := h.2 t24 et24
      refine lf_getR 44 (w := some (35 + 7 * t24)) rfl rfl rfl rfl rfl rfl (congrArg (Option.map (fun t => 35 + 7 * t)) et24) ?_
      refine lf_seg 2 (pc' := 46) (lv' := [(1, .int (Int32.ofInt y0)), (0, .ref 31)]) (st' := [.int (Int32.ofInt y0), .int (Int32.ofInt 3), .ref (35 + 7 * t24)]) rfl ?_
      refine lf_callI 49 rfl rfl (lf_invT htt24 rfl rfl rfl rfl) rfl (gm_45 htt24 h) (fun r26 s25 h => ?_)
      refine lf_seg 2 (pc' := 51) (lv' := [(1, .int (Int32.ofInt y0)), (0, .ref 31)]) (st' := [.ref 31]) rfl ?_
      refine lf_callV 54 rfl rfl rfl rfl (gm_31 h) (fun s27 h => ?_)
      exact lf_retV rfl rfl h
  · have h := h.2 c
    refine lf_seg 2 (pc' := 34) (lv' := [(1, .int (Int32.ofInt y0)), (0, .ref 31)]) (st' := [.int (Int32.ofInt 5), .ref 31]) rfl ?_
    refine lf_callV 37 rfl rfl rfl rfl (gm_39 h) (fun s28 h => ?_)
    refine lf_seg 1 (pc' := 54) (lv' := [(1, .int (Int32.ofInt y0)), (0, .ref 31)]) (st' := []) rfl ?_
    exact lf_retV rfl rfl h
def fm_46 (Q : lf_Z → Prop) (s : lf_Z) : Prop := fm_15 (s.1 31 10) 0 25 (fun z22 s21 => ((z22 = false → (fm_46_p26 Q (-1) s21)) ∧ (z22 = true → ((0 ≤ s21.1 31 10 ∧ s21.1 31 10 < 26) ∧ (fm_46_p26 Q (s21.1 33 (s21.1 31 10)) s21))))) s
set_option maxRecDepth 100000 in
theorem gm_46 {L : Nat} {xs : Nat → Int32} {d : Nat} {Q : lf_Z → Prop} {s : lf_Z} (h : fm_46 Q s) : lf_M (px_ro L xs) (d + 4) 46 [.ref 31] s (lf_qv Q) := by
  unfold fm_46 at h
  show lf_E (px_ro L xs) (d + 4) 46 0 [(0, .ref 31)] [] s _
  refine lf_seg 1 (pc' := 1) (lv' := [(0, .ref 31)]) (st' := [.ref 31]) rfl ?_
  refine lf_getI 4 10 rfl rfl rfl rfl rfl rfl rfl ?_
  refine lf_seg 1 (pc' := 5) (lv' := [(0, .ref 31)]) (st' := [.int (Int32.ofInt 0), .int (Int32.ofInt (s.1 31 10))]) rfl ?_
  refine lf_bipush 7 25 rfl rfl (by decide) (by decide) ?_
  refine lf_callZ 10 rfl rfl rfl rfl (gm_15 h) (fun z22 s21 h => ?_)
  refine lf_ifz_eq 25 13 rfl rfl rfl (fun c => ?_) (fun c => ?_)
  · have h := h.1 c
    refine lf_seg 1 (pc' := 26) (lv' := [(0, .ref 31)]) (st' := [.int (Int32.ofInt (-1))]) rfl ?_
    refine lf_sub (l := [(0, .ref 31)]) (lf_sb1 rfl lf_sb0) ?_
    exact gm_46_p26 h
  · have h := h.2 c
    refine lf_seg 3 (pc' := 18) (lv' := [(0, .ref 31)]) (st' := [.ref 31, .ref 33]) rfl ?_
    refine lf_getI 21 10 rfl rfl rfl rfl rfl rfl rfl ?_
    obtain ⟨o29, h⟩ := h
    refine lf_iald 22 26 rfl rfl rfl rfl rfl rfl o29 ?_
    refine lf_seg 1 (pc' := 26) (lv' := [(0, .ref 31)]) (st' := [.int (Int32.ofInt (s21.1 33 (s21.1 31 10)))]) rfl ?_
    refine lf_sub (l := [(0, .ref 31)]) (lf_sb1 rfl lf_sb0) ?_
    exact gm_46_p26 h
-- fm_47 Reader.enter 31 i
def fm_47 (a1 : Int) (Q : Bool → lf_Z → Prop) (s : lf_Z) : Prop := lf_R a1 ∧ ((a1 < 8 → (fm_31 (fun s22 => (Q true s22)) s)) ∧ (¬ (a1 < 8) → (fm_39 3 (fun s23 => (Q false s23)) s)))
set_option maxRecDepth 100000 in
theorem gm_47 {L : Nat} {xs : Nat → Int32} {d : Nat} {a1 : Int} {Q : Bool → lf_Z → Prop} {s : lf_Z} (h : fm_47 a1 Q s) : lf_M (px_ro L xs) (d + 4) 47 [.ref 31, .int (Int32.ofInt a1)] s (lf_qz Q) := by
  unfold fm_47 at h
  show lf_E (px_ro L xs) (d + 4) 47 0 [(0, .ref 31), (1, .int (Int32.ofInt a1))] [] s _
  refine lf_seg 1 (pc' := 1) (lv' := [(0, .ref 31), (1, .int (Int32.ofInt a1))]) (st' := [.int (Int32.ofInt a1)]) rfl ?_
  refine lf_bipush 3 8 rfl rfl (by decide) (by decide) ?_
  obtain ⟨o21, h⟩ := h
  refine lf_icmp_lt 13 6 rfl rfl rfl o21 ⟨by decide, by decide⟩ (fun c => ?_) (fun c => ?_)
  · have h := h.1 c
    refine lf_seg 1 (pc' := 14) (lv' := [(0, .ref 31), (1, .int (Int32.ofInt a1))]) (st' := [.ref 31]) rfl ?_
    refine lf_callV 17 rfl rfl rfl rfl (gm_31 h) (fun s22 h => ?_)
    refine lf_seg 1 (pc' := 18) (lv' := [(0, .ref 31), (1, .int (Int32.ofInt a1))]) (st' := [.int (Int32.ofInt 1)]) rfl ?_
    exact lf_retZ true rfl rfl h
  · have h := h.2 c
    refine lf_seg 2 (pc' := 8) (lv' := [(0, .ref 31), (1, .int (Int32.ofInt a1))]) (st' := [.int (Int32.ofInt 3), .ref 31]) rfl ?_
    refine lf_callV 11 rfl rfl rfl rfl (gm_39 h) (fun s23 h => ?_)
    refine lf_seg 1 (pc' := 12) (lv' := [(0, .ref 31), (1, .int (Int32.ofInt a1))]) (st' := [.int (Int32.ofInt 0)]) rfl ?_
    exact lf_retZ false rfl rfl h
-- fm_53 Script.leadToHere t i
def fm_53 (t0 : Nat) (a1 : Int) (Q : lf_Z → Prop) (s : lf_Z) : Prop := lf_R a1 ∧ ((a1 < 0 → (Q s)) ∧ (¬ (a1 < 0) → (lf_R (s.1 (35 + 7 * t0) 1) ∧ ((s.1 (35 + 7 * t0) 1 ≤ a1 → (Q s)) ∧ (¬ (s.1 (35 + 7 * t0) 1 ≤ a1) → ((0 ≤ a1 ∧ a1 < 300) ∧ (Q (lf_up s.1 (36 + 7 * t0) a1 (lf_w ((s.1 (36 + 7 * t0) a1) + (s.1 (35 + 7 * t0) 1))), s.2.1, s.2.2))))))))
set_option maxRecDepth 100000 in
theorem gm_53 {L : Nat} {xs : Nat → Int32} {d : Nat} {t0 : Nat} {a1 : Int} {Q : lf_Z → Prop} {s : lf_Z} (htt0 : t0 < 4) (h : fm_53 t0 a1 Q s) : lf_M (px_ro L xs) (d + 1) 53 [.ref (35 + 7 * t0), .int (Int32.ofInt a1)] s (lf_qv Q) := by
  unfold fm_53 at h
  show lf_E (px_ro L xs) (d + 1) 53 0 [(0, .ref (35 + 7 * t0)), (1, .int (Int32.ofInt a1))] [] s _
  refine lf_seg 1 (pc' := 1) (lv' := [(0, .ref (35 + 7 * t0)), (1, .int (Int32.ofInt a1))]) (st' := [.int (Int32.ofInt a1)]) rfl ?_
  obtain ⟨o21, h⟩ := h
  refine lf_if_lt 25 4 rfl rfl rfl o21 (fun c => ?_) (fun c => ?_)
  · have h := h.1 c
    exact lf_retV rfl rfl h
  · have h := h.2 c
    refine lf_seg 2 (pc' := 6) (lv' := [(0, .ref (35 + 7 * t0)), (1, .int (Int32.ofInt a1))]) (st' := [.ref (35 + 7 * t0), .int (Int32.ofInt a1)]) rfl ?_
    refine lf_getI 9 1 rfl rfl rfl (lf_scr htt0) (lf_scL htt0) rfl rfl ?_
    obtain ⟨o22, h⟩ := h
    refine lf_icmp_ge 25 12 rfl rfl rfl o21 o22 (fun c => ?_) (fun c => ?_)
    · have h := h.1 c
      exact lf_retV rfl rfl h
    · have h := h.2 c
      refine lf_seg 1 (pc' := 13) (lv' := [(0, .ref (35 + 7 * t0)), (1, .int (Int32.ofInt a1))]) (st' := [.ref (35 + 7 * t0)]) rfl ?_
      refine lf_getR 16 (w := some (36 + 7 * t0)) rfl rfl rfl (lf_scr htt0) (lf_scL htt0) rfl (lf_sP0 htt0) ?_
      refine lf_seg 2 (pc' := 18) (lv' := [(0, .ref (35 + 7 * t0)), (1, .int (Int32.ofInt a1))]) (st' := [.int (Int32.ofInt a1), .ref (36 + 7 * t0), .int (Int32.ofInt a1), .ref (36 + 7 * t0)]) rfl ?_
      obtain ⟨o23, h⟩ := h
      refine lf_iald 19 300 rfl rfl (lf_sA0 htt0) (lf_sB0 htt0) rfl rfl o23 ?_
      refine lf_seg 1 (pc' := 20) (lv' := [(0, .ref (35 + 7 * t0)), (1, .int (Int32.ofInt a1))]) (st' := [.ref (35 + 7 * t0), .int (Int32.ofInt (s.1 (36 + 7 * t0) a1)), .int (Int32.ofInt a1), .ref (36 + 7 * t0)]) rfl ?_
      refine lf_getI 23 1 rfl rfl rfl (lf_scr htt0) (lf_scL htt0) rfl rfl ?_
      refine lf_iadd 24 rfl rfl ?_
      refine lf_wtI ?_
      refine lf_iast 25 300 rfl rfl (lf_sA0 htt0) (lf_sC0 htt0) rfl rfl o23 ?_
      refine lf_as (lf_up s.1 (36 + 7 * t0) a1 (lf_w ((s.1 (36 + 7 * t0) a1) + (s.1 (35 + 7 * t0) 1))), s.2.1, s.2.2) rfl ?_
      exact lf_retV rfl rfl h
-- fm_55 ElevenBullocks.cut i i i
def fm_55 (a0 : Int) (a1 : Int) (a2 : Int) (Q : Int → lf_Z → Prop) (s : lf_Z) : Prop := lf_R a2 ∧ (lf_R a0 ∧ (lf_R a1 ∧ (lf_R (min a2 a0) ∧ (Q (max a1 (min a2 a0)) s))))
set_option maxRecDepth 100000 in
theorem gm_55 {L : Nat} {xs : Nat → Int32} {d : Nat} {a0 : Int} {a1 : Int} {a2 : Int} {Q : Int → lf_Z → Prop} {s : lf_Z} (h : fm_55 a0 a1 a2 Q s) : lf_M (px_ro L xs) (d + 1) 55 [.int (Int32.ofInt a0), .int (Int32.ofInt a1), .int (Int32.ofInt a2)] s (lf_qi Q) := by
  unfold fm_55 at h
  show lf_E (px_ro L xs) (d + 1) 55 0 [(0, .int (Int32.ofInt a0)), (1, .int (Int32.ofInt a1)), (2, .int (Int32.ofInt a2))] [] s _
  refine lf_seg 3 (pc' := 3) (lv' := [(0, .int (Int32.ofInt a0)), (1, .int (Int32.ofInt a1)), (2, .int (Int32.ofInt a2))]) (st' := [.int (Int32.ofInt a0), .int (Int32.ofInt a2), .int (Int32.ofInt a1)]) rfl ?_
  obtain ⟨o21, h⟩ := h
  obtain ⟨o22, h⟩ := h
  refine lf_imin 6 rfl rfl rfl rfl o21 o22 ?_
  obtain ⟨o23, h⟩ := h
  obtain ⟨o24, h⟩ := h
  refine lf_imax 9 rfl rfl rfl rfl o23 o24 ?_
  exact lf_retI rfl rfl h
-- fm_41 Reader.readSum 31 i
def fm_41_p32 (R42 : Int → (lf_Z → Prop) → lf_Z → Prop) (X7 : Int → lf_Z → Prop) (Q : lf_Z → Prop) (x1 : Int) (x2 : Int) (s : lf_Z) : Prop := fm_31 (fun s24 => (R42 x1 (fun s25 => ((s25.2.2 2 = none → (False)) ∧ (∀ t26 : Nat, s25.2.2 2 = some t26 → t26 < 4 ∧ (fm_45 t26 (s.1 31 8) 0 (fun r28 s27 => (X7 (x2 + 1) s27)) s25)))) s24)) s
set_option maxRecDepth 100000 in
theorem gm_41_p32 {L : Nat} {xs : Nat → Int32} {d : Nat} {R42 : Int → (lf_Z → Prop) → lf_Z → Prop} {X7 : Int → lf_Z → Prop} {Q : lf_Z → Prop} {x1 : Int} {x2 : Int} {s : lf_Z} (hR42 : ∀ b1 Q s, R42 b1 Q s → lf_M (px_ro L xs) (d + 4) 42 [.ref 31, .int (Int32.ofInt b1)] s (lf_qv Q)) (hX7 : ∀ x2 s, X7 x2 s → lf_E (px_ro L xs) (d + 5) 41 7 [(0, .ref 31), (1, .int (Int32.ofInt x1)), (2, .int (Int32.ofInt x2))] [] s (lf_qv Q)) (h : fm_41_p32 R42 X7 Q x1 x2 s) : lf_E (px_ro L xs) (d + 5) 41 32 [(0, .ref 31), (1, .int (Int32.ofInt x1)), (2, .int (Int32.ofInt x2))] [] s (lf_qv Q) := by
  unfold fm_41_p32 at h
  refine lf_seg 1 (pc' := 33) (lv' := [(0, .ref 31), (1, .int (Int32.ofInt x1)), (2, .int (Int32.ofInt x2))]) (st' := [.ref 31]) rfl ?_
  refine lf_getI 36 8 rfl rfl rfl rfl rfl rfl rfl ?_
  refine lf_seg 2 (pc' := 38) (lv' := [(3, .int (Int32.ofInt (s.1 31 8))), (0, .ref 31), (1, .int (Int32.ofInt x1)), (2, .int (Int32.ofInt x2))]) (st' := [.ref 31]) rfl ?_
  refine lf_callV 41 rfl rfl rfl rfl (gm_31 h) (fun s24 h => ?_)
  refine lf_seg 2 (pc' := 43) (lv' := [(3, .int (Int32.ofInt (s.1 31 8))), (0, .ref 31), (1, .int (Int32.ofInt x1)), (2, .int (Int32.ofInt x2))]) (st' := [.int (Int32.ofInt x1), .ref 31]) rfl ?_
  refine lf_callV 46 rfl rfl rfl rfl (hR42 _ _ _ h) (fun s25 h => ?_)
  refine lf_seg 1 (pc' := 47) (lv' := [(3, .int (Int32.ofInt (s.1 31 8))), (0, .ref 31), (1, .int (Int32.ofInt x1)), (2, .int (Int32.ofInt x2))]) (st' := [.ref 31]) rfl ?_
  cases et26 : s25.2.2 2 with
  | none =>
    have h := h.1 et26
    refine lf_getR 50 (w := none) rfl rfl rfl rfl rfl rfl (congrArg (Option.map (fun t => 35 + 7 * t)) et26) ?_
    refine lf_seg 2 (pc' := 52) (lv' := [(3, .int (Int32.ofInt (s.1 31 8))), (0, .ref 31), (1, .int (Int32.ofInt x1)), (2, .int (Int32.ofInt x2))]) (st' := [.int (Int32.ofInt 0), .int (Int32.ofInt (s.1 31 8)), .null]) rfl ?_
    exact h.elim
  | some t26 =>
    obtain ⟨htt26, h⟩ := h.2 t26 et26
    refine lf_getR 50 (w := some (35 + 7 * t26)) rfl rfl rfl rfl rfl rfl (congrArg (Option.map (fun t => 35 + 7 * t)) et26) ?_
    refine lf_seg 2 (pc' := 52) (lv' := [(3, .int (Int32.ofInt (s.1 31 8))), (0, .ref 31), (1, .int (Int32.ofInt x1)), (2, .int (Int32.ofInt x2))]) (st' := [.int (Int32.ofInt 0), .int (Int32.ofInt (s.1 31 8)), .ref (35 + 7 * t26)]) rfl ?_
    refine lf_callI 55 rfl rfl (lf_invT htt26 rfl rfl rfl rfl) rfl (gm_45 htt26 h) (fun r28 s27 h => ?_)
    refine lf_seg 1 (pc' := 56) (lv' := [(3, .int (Int32.ofInt (s.1 31 8))), (0, .ref 31), (1, .int (Int32.ofInt x1)), (2, .int (Int32.ofInt x2))]) (st' := []) rfl ?_
    refine lf_iinc 59 rfl rfl rfl rfl ?_
    refine lf_seg 1 (pc' := 7) (lv' := [(2, .int (Int32.ofInt (x2 + 1))), (3, .int (Int32.ofInt (s.1 31 8))), (0, .ref 31), (1, .int (Int32.ofInt x1))]) (st' := []) rfl ?_
    refine lf_sub (l := [(0, .ref 31), (1, .int (Int32.ofInt x1)), (2, .int (Int32.ofInt (x2 + 1)))]) (lf_sb1 rfl (lf_sb1 rfl (lf_sb1 rfl lf_sb0))) ?_
    exact hX7 _ _ h
def fm_41_p7 (R42 : Int → (lf_Z → Prop) → lf_Z → Prop) (Q : lf_Z → Prop) (x1 : Int) (X7 : Int → lf_Z → Prop) (x2 : Int) (s : lf_Z) : Prop := lf_R x2 ∧ ((300 ≤ x2 → (Q s)) ∧ (¬ (300 ≤ x2) → (lf_R (s.1 31 8) ∧ ((s.1 31 8 = 10 → (fm_41_p32 R42 X7 Q x1 x2 s)) ∧ (¬ (s.1 31 8 = 10) → ((s.1 31 8 ≠ 11 → (Q s)) ∧ (¬ (s.1 31 8 ≠ 11) → (fm_41_p32 R42 X7 Q x1 x2 s))))))))
def fm_41_p7L (R42 : Int → (lf_Z → Prop) → lf_Z → Prop) (Q : lf_Z → Prop) (x1 : Int) (x2 : Int) (s : lf_Z) : Prop := ∀ X7 : Int → lf_Z → Prop, (∀ (x2 : Int) (s : lf_Z), fm_41_p7 R42 Q x1 X7 x2 s → X7 x2 s) → X7 x2 s
set_option maxRecDepth 100000 in
theorem gm_41_p7 {L : Nat} {xs : Nat → Int32} {d : Nat} {R42 : Int → (lf_Z → Prop) → lf_Z → Prop} {Q : lf_Z → Prop} {x1 : Int} {x2 : Int} {s : lf_Z} {X7 : Int → lf_Z → Prop} (hR42 : ∀ b1 Q s, R42 b1 Q s → lf_M (px_ro L xs) (d + 4) 42 [.ref 31, .int (Int32.ofInt b1)] s (lf_qv Q)) (hX7 : ∀ x2 s, X7 x2 s → lf_E (px_ro L xs) (d + 5) 41 7 [(0, .ref 31), (1, .int (Int32.ofInt x1)), (2, .int (Int32.ofInt x2))] [] s (lf_qv Q)) (h : fm_41_p7 R42 Q x1 X7 x2 s) : lf_E (px_ro L xs) (d + 5) 41 7 [(0, .ref 31), (1, .int (Int32.ofInt x1)), (2, .int (Int32.ofInt x2))] [] s (lf_qv Q) := by
  unfold fm_41_p7 at h
  refine lf_seg 1 (pc' := 8) (lv' := [(0, .ref 31), (1, .int (Int32.ofInt x1)), (2, .int (Int32.ofInt x2))]) (st' := [.int (Int32.ofInt x2)]) rfl ?_
  refine lf_sipush 11 300 rfl rfl (by decide) (by decide) ?_
  obtain ⟨o22, h⟩ := h
  refine lf_icmp_ge 62 14 rfl rfl rfl o22 ⟨by decide, by decide⟩ (fun c => ?_) (fun c => ?_)
  · have h := h.1 c
    exact lf_retV rfl rfl h
  · have h := h.2 c
    refine lf_seg 1 (pc' := 15) (lv' := [(0, .ref 31), (1, .int (Int32.ofInt x1)), (2, .int (Int32.ofInt x2))]) (st' := [.ref 31]) rfl ?_
    refine lf_getI 18 8 rfl rfl rfl rfl rfl rfl rfl ?_
    refine lf_bipush 20 10 rfl rfl (by decide) (by decide) ?_
    obtain ⟨o23, h⟩ := h
    refine lf_icmp_eq 32 23 rfl rfl rfl o23 ⟨by decide, by decide⟩ (fun c => ?_) (fun c => ?_)
    · have h := h.1 c
      refine lf_sub (l := [(0, .ref 31), (1, .int (Int32.ofInt x1)), (2, .int (Int32.ofInt x2))]) (lf_sb1 rfl (lf_sb1 rfl (lf_sb1 rfl lf_sb0))) ?_
      exact gm_41_p32 hR42 hX7 h
    · have h := h.2 c
      refine lf_seg 1 (pc' := 24) (lv' := [(0, .ref 31), (1, .int (Int32.ofInt x1)), (2, .int (Int32.ofInt x2))]) (st' := [.ref 31]) rfl ?_
      refine lf_getI 27 8 rfl rfl rfl rfl rfl rfl rfl ?_
      refine lf_bipush 29 11 rfl rfl (by decide) (by decide) ?_
      refine lf_icmp_ne 62 32 rfl rfl rfl o23 ⟨by decide, by decide⟩ (fun c => ?_) (fun c => ?_)
      · have h := h.1 c
        exact lf_retV rfl rfl h
      · have h := h.2 c
        refine lf_sub (l := [(0, .ref 31), (1, .int (Int32.ofInt x1)), (2, .int (Int32.ofInt x2))]) (lf_sb1 rfl (lf_sb1 rfl (lf_sb1 rfl lf_sb0))) ?_
        exact gm_41_p32 hR42 hX7 h
theorem gm_41_p7L {L : Nat} {xs : Nat → Int32} {d : Nat} {R42 : Int → (lf_Z → Prop) → lf_Z → Prop} {Q : lf_Z → Prop} {x1 : Int} {x2 : Int} {s : lf_Z} (hR42 : ∀ b1 Q s, R42 b1 Q s → lf_M (px_ro L xs) (d + 4) 42 [.ref 31, .int (Int32.ofInt b1)] s (lf_qv Q)) (h : fm_41_p7L R42 Q x1 x2 s) : lf_E (px_ro L xs) (d + 5) 41 7 [(0, .ref 31), (1, .int (Int32.ofInt x1)), (2, .int (Int32.ofInt x2))] [] s (lf_qv Q) :=
  h (fun x2 s => lf_E (px_ro L xs) (d + 5) 41 7 [(0, .ref 31), (1, .int (Int32.ofInt x1)), (2, .int (Int32.ofInt x2))] [] s (lf_qv Q)) (fun x2 s hb => gm_41_p7 hR42 (fun _ _ h => h) hb)
def fm_41 (R42 : Int → (lf_Z → Prop) → lf_Z → Prop) (a1 : Int) (Q : lf_Z → Prop) (s : lf_Z) : Prop := R42 a1 (fun s21 => (fm_41_p7L R42 Q a1 0 s21)) s
set_option maxRecDepth 100000 in
theorem gm_41 {L : Nat} {xs : Nat → Int32} {d : Nat} {R42 : Int → (lf_Z → Prop) → lf_Z → Prop} {a1 : Int} {Q : lf_Z → Prop} {s : lf_Z} (hR42 : ∀ b1 Q s, R42 b1 Q s → lf_M (px_ro L xs) (d + 4) 42 [.ref 31, .int (Int32.ofInt b1)] s (lf_qv Q)) (h : fm_41 R42 a1 Q s) : lf_M (px_ro L xs) (d + 5) 41 [.ref 31, .int (Int32.ofInt a1)] s (lf_qv Q) := by
  unfold fm_41 at h
  show lf_E (px_ro L xs) (d + 5) 41 0 [(0, .ref 31), (1, .int (Int32.ofInt a1))] [] s _
  refine lf_seg 2 (pc' := 2) (lv' := [(0, .ref 31), (1, .int (Int32.ofInt a1))]) (st' := [.int (Int32.ofInt a1), .ref 31]) rfl ?_
  refine lf_callV 5 rfl rfl rfl rfl (hR42 _ _ _ h) (fun s21 h => ?_)
  refine lf_seg 2 (pc' := 7) (lv' := [(2, .int (Int32.ofInt 0)), (0, .ref 31), (1, .int (Int32.ofInt a1))]) (st' := []) rfl ?_
  refine lf_sub (l := [(0, .ref 31), (1, .int (Int32.ofInt a1)), (2, .int (Int32.ofInt 0))]) (lf_sb1 rfl (lf_sb1 rfl (lf_sb1 rfl lf_sb0))) ?_
  exact gm_41_p7L hR42 h
-- fm_42 Reader.readProduct 31 i
def fm_42_p32 (R43 : Int → (lf_Z → Prop) → lf_Z → Prop) (X7 : Int → lf_Z → Prop) (Q : lf_Z → Prop) (x1 : Int) (x2 : Int) (s : lf_Z) : Prop := fm_31 (fun s24 => (R43 x1 (fun s25 => ((s25.2.2 2 = none → (False)) ∧ (∀ t26 : Nat, s25.2.2 2 = some t26 → t26 < 4 ∧ (fm_45 t26 (s.1 31 8) 0 (fun r28 s27 => (X7 (x2 + 1) s27)) s25)))) s24)) s
set_option maxRecDepth 100000 in
theorem gm_42_p32 {L : Nat} {xs : Nat → Int32} {d : Nat} {R43 : Int → (lf_Z → Prop) → lf_Z → Prop} {X7 : Int → lf_Z → Prop} {Q : lf_Z → Prop} {x1 : Int} {x2 : Int} {s : lf_Z} (hR43 : ∀ b1 Q s, R43 b1 Q s → lf_M (px_ro L xs) (d + 4) 43 [.ref 31, .int (Int32.ofInt b1)] s (lf_qv Q)) (hX7 : ∀ x2 s, X7 x2 s → lf_E (px_ro L xs) (d + 5) 42 7 [(0, .ref 31), (1, .int (Int32.ofInt x1)), (2, .int (Int32.ofInt x2))] [] s (lf_qv Q)) (h : fm_42_p32 R43 X7 Q x1 x2 s) : lf_E (px_ro L xs) (d + 5) 42 32 [(0, .ref 31), (1, .int (Int32.ofInt x1)), (2, .int (Int32.ofInt x2))] [] s (lf_qv Q) := by
  unfold fm_42_p32 at h
  refine lf_seg 1 (pc' := 33) (lv' := [(0, .ref 31), (1, .int (Int32.ofInt x1)), (2, .int (Int32.ofInt x2))]) (st' := [.ref 31]) rfl ?_
  refine lf_getI 36 8 rfl rfl rfl rfl rfl rfl rfl ?_
  refine lf_seg 2 (pc' := 38) (lv' := [(3, .int (Int32.ofInt (s.1 31 8))), (0, .ref 31), (1, .int (Int32.ofInt x1)), (2, .int (Int32.ofInt x2))]) (st' := [.ref 31]) rfl ?_
  refine lf_callV 41 rfl rfl rfl rfl (gm_31 h) (fun s24 h => ?_)
  refine lf_seg 2 (pc' := 43) (lv' := [(3, .int (Int32.ofInt (s.1 31 8))), (0, .ref 31), (1, .int (Int32.ofInt x1)), (2, .int (Int32.ofInt x2))]) (st' := [.int (Int32.ofInt x1), .ref 31]) rfl ?_
  refine lf_callV 46 rfl rfl rfl rfl (hR43 _ _ _ h) (fun s25 h => ?_)
  refine lf_seg 1 (pc' := 47) (lv' := [(3, .int (Int32.ofInt (s.1 31 8))), (0, .ref 31), (1, .int (Int32.ofInt x1)), (2, .int (Int32.ofInt x2))]) (st' := [.ref 31]) rfl ?_
  cases et26 : s25.2.2 2 with
  | none =>
    have h := h.1 et26
    refine lf_getR 50 (w := none) rfl rfl rfl rfl rfl rfl (congrArg (Option.map (fun t => 35 + 7 * t)) et26) ?_
    refine lf_seg 2 (pc' := 52) (lv' := [(3, .int (Int32.ofInt (s.1 31 8))), (0, .ref 31), (1, .int (Int32.ofInt x1)), (2, .int (Int32.ofInt x2))]) (st' := [.int (Int32.ofInt 0), .int (Int32.ofInt (s.1 31 8)), .null]) rfl ?_
    exact h.elim
  | some t26 =>
    obtain ⟨htt26, h⟩ := h.2 t26 et26
    refine lf_getR 50 (w := some (35 + 7 * t26)) rfl rfl rfl rfl rfl rfl (congrArg (Option.map (fun t => 35 + 7 * t)) et26) ?_
    refine lf_seg 2 (pc' := 52) (lv' := [(3, .int (Int32.ofInt (s.1 31 8))), (0, .ref 31), (1, .int (Int32.ofInt x1)), (2, .int (Int32.ofInt x2))]) (st' := [.int (Int32.ofInt 0), .int (Int32.ofInt (s.1 31 8)), .ref (35 + 7 * t26)]) rfl ?_
    refine lf_callI 55 rfl rfl (lf_invT htt26 rfl rfl rfl rfl) rfl (gm_45 htt26 h) (fun r28 s27 h => ?_)
    refine lf_seg 1 (pc' := 56) (lv' := [(3, .int (Int32.ofInt (s.1 31 8))), (0, .ref 31), (1, .int (Int32.ofInt x1)), (2, .int (Int32.ofInt x2))]) (st' := []) rfl ?_
    refine lf_iinc 59 rfl rfl rfl rfl ?_
    refine lf_seg 1 (pc' := 7) (lv' := [(2, .int (Int32.ofInt (x2 + 1))), (3, .int (Int32.ofInt (s.1 31 8))), (0, .ref 31), (1, .int (Int32.ofInt x1))]) (st' := []) rfl ?_
    refine lf_sub (l := [(0, .ref 31), (1, .int (Int32.ofInt x1)), (2, .int (Int32.ofInt (x2 + 1)))]) (lf_sb1 rfl (lf_sb1 rfl (lf_sb1 rfl lf_sb0))) ?_
    exact hX7 _ _ h
def fm_42_p7 (R43 : Int → (lf_Z → Prop) → lf_Z → Prop) (Q : lf_Z → Prop) (x1 : Int) (X7 : Int → lf_Z → Prop) (x2 : Int) (s : lf_Z) : Prop := lf_R x2 ∧ ((300 ≤ x2 → (Q s)) ∧ (¬ (300 ≤ x2) → (lf_R (s.1 31 8) ∧ ((s.1 31 8 = 12 → (fm_42_p32 R43 X7 Q x1 x2 s)) ∧ (¬ (s.1 31 8 = 12) → ((s.1 31 8 ≠ 13 → (Q s)) ∧ (¬ (s.1 31 8 ≠ 13) → (fm_42_p32 R43 X7 Q x1 x2 s))))))))
def fm_42_p7L (R43 : Int → (lf_Z → Prop) → lf_Z → Prop) (Q : lf_Z → Prop) (x1 : Int) (x2 : Int) (s : lf_Z) : Prop := ∀ X7 : Int → lf_Z → Prop, (∀ (x2 : Int) (s : lf_Z), fm_42_p7 R43 Q x1 X7 x2 s → X7 x2 s) → X7 x2 s
set_option maxRecDepth 100000 in
theorem gm_42_p7 {L : Nat} {xs : Nat → Int32} {d : Nat} {R43 : Int → (lf_Z → Prop) → lf_Z → Prop} {Q : lf_Z → Prop} {x1 : Int} {x2 : Int} {s : lf_Z} {X7 : Int → lf_Z → Prop} (hR43 : ∀ b1 Q s, R43 b1 Q s → lf_M (px_ro L xs) (d + 4) 43 [.ref 31, .int (Int32.ofInt b1)] s (lf_qv Q)) (hX7 : ∀ x2 s, X7 x2 s → lf_E (px_ro L xs) (d + 5) 42 7 [(0, .ref 31), (1, .int (Int32.ofInt x1)), (2, .int (Int32.ofInt x2))] [] s (lf_qv Q)) (h : fm_42_p7 R43 Q x1 X7 x2 s) : lf_E (px_ro L xs) (d + 5) 42 7 [(0, .ref 31), (1, .int (Int32.ofInt x1)), (2, .int (Int32.ofInt x2))] [] s (lf_qv Q) := by
  unfold fm_42_p7 at h
  refine lf_seg 1 (pc' := 8) (lv' := [(0, .ref 31), (1, .int (Int32.ofInt x1)), (2, .int (Int32.ofInt x2))]) (st' := [.int (Int32.ofInt x2)]) rfl ?_
  refine lf_sipush 11 300 rfl rfl (by decide) (by decide) ?_
  obtain ⟨o22, h⟩ := h
  refine lf_icmp_ge 62 14 rfl rfl rfl o22 ⟨by decide, by decide⟩ (fun c => ?_) (fun c => ?_)
  · have h := h.1 c
    exact lf_retV rfl rfl h
  · have h := h.2 c
    refine lf_seg 1 (pc' := 15) (lv' := [(0, .ref 31), (1, .int (Int32.ofInt x1)), (2, .int (Int32.ofInt x2))]) (st' := [.ref 31]) rfl ?_
    refine lf_getI 18 8 rfl rfl rfl rfl rfl rfl rfl ?_
    refine lf_bipush 20 12 rfl rfl (by decide) (by decide) ?_
    obtain ⟨o23, h⟩ := h
    refine lf_icmp_eq 32 23 rfl rfl rfl o23 ⟨by decide, by decide⟩ (fun c => ?_) (fun c => ?_)
    · have h := h.1 c
      refine lf_sub (l := [(0, .ref 31), (1, .int (Int32.ofInt x1)), (2, .int (Int32.ofInt x2))]) (lf_sb1 rfl (lf_sb1 rfl (lf_sb1 rfl lf_sb0))) ?_
      exact gm_42_p32 hR43 hX7 h
    · have h := h.2 c
      refine lf_seg 1 (pc' := 24) (lv' := [(0, .ref 31), (1, .int (Int32.ofInt x1)), (2, .int (Int32.ofInt x2))]) (st' := [.ref 31]) rfl ?_
      refine lf_getI 27 8 rfl rfl rfl rfl rfl rfl rfl ?_
      refine lf_bipush 29 13 rfl rfl (by decide) (by decide) ?_
      refine lf_icmp_ne 62 32 rfl rfl rfl o23 ⟨by decide, by decide⟩ (fun c => ?_) (fun c => ?_)
      · have h := h.1 c
        exact lf_retV rfl rfl h
      · have h := h.2 c
        refine lf_sub (l := [(0, .ref 31), (1, .int (Int32.ofInt x1)), (2, .int (Int32.ofInt x2))]) (lf_sb1 rfl (lf_sb1 rfl (lf_sb1 rfl lf_sb0))) ?_
        exact gm_42_p32 hR43 hX7 h
theorem gm_42_p7L {L : Nat} {xs : Nat → Int32} {d : Nat} {R43 : Int → (lf_Z → Prop) → lf_Z → Prop} {Q : lf_Z → Prop} {x1 : Int} {x2 : Int} {s : lf_Z} (hR43 : ∀ b1 Q s, R43 b1 Q s → lf_M (px_ro L xs) (d + 4) 43 [.ref 31, .int (Int32.ofInt b1)] s (lf_qv Q)) (h : fm_42_p7L R43 Q x1 x2 s) : lf_E (px_ro L xs) (d + 5) 42 7 [(0, .ref 31), (1, .int (Int32.ofInt x1)), (2, .int (Int32.ofInt x2))] [] s (lf_qv Q) :=
  h (fun x2 s => lf_E (px_ro L xs) (d + 5) 42 7 [(0, .ref 31), (1, .int (Int32.ofInt x1)), (2, .int (Int32.ofInt x2))] [] s (lf_qv Q)) (fun x2 s hb => gm_42_p7 hR43 (fun _ _ h => h) hb)
def fm_42 (R43 : Int → (lf_Z → Prop) → lf_Z → Prop) (a1 : Int) (Q : lf_Z → Prop) (s : lf_Z) : Prop := R43 a1 (fun s21 => (fm_42_p7L R43 Q a1 0 s21)) s
set_option maxRecDepth 100000 in
theorem gm_42 {L : Nat} {xs : Nat → Int32} {d : Nat} {R43 : Int → (lf_Z → Prop) → lf_Z → Prop} {a1 : Int} {Q : lf_Z → Prop} {s : lf_Z} (hR43 : ∀ b1 Q s, R43 b1 Q s → lf_M (px_ro L xs) (d + 4) 43 [.ref 31, .int (Int32.ofInt b1)] s (lf_qv Q)) (h : fm_42 R43 a1 Q s) : lf_M (px_ro L xs) (d + 5) 42 [.ref 31, .int (Int32.ofInt a1)] s (lf_qv Q) := by
  unfold fm_42 at h
  show lf_E (px_ro L xs) (d + 5) 42 0 [(0, .ref 31), (1, .int (Int32.ofInt a1))] [] s _
  refine lf_seg 2 (pc' := 2) (lv' := [(0, .ref 31), (1, .int (Int32.ofInt a1))]) (st' := [.int (Int32.ofInt a1), .ref 31]) rfl ?_
  refine lf_callV 5 rfl rfl rfl rfl (hR43 _ _ _ h) (fun s21 h => ?_)
  refine lf_seg 2 (pc' := 7) (lv' := [(2, .int (Int32.ofInt 0)), (0, .ref 31), (1, .int (Int32.ofInt a1))]) (st' := []) rfl ?_
  refine lf_sub (l := [(0, .ref 31), (1, .int (Int32.ofInt a1)), (2, .int (Int32.ofInt 0))]) (lf_sb1 rfl (lf_sb1 rfl (lf_sb1 rfl lf_sb0))) ?_
  exact gm_42_p7L hR43 h
-- fm_43 Reader.readOne 31 i
def fm_43 (R41 : Int → (lf_Z → Prop) → lf_Z → Prop) (R43 : Int → (lf_Z → Prop) → lf_Z → Prop) (R49 : Int → (lf_Z → Prop) → lf_Z → Prop) (R54 : Int → (lf_Z → Prop) → lf_Z → Prop) (a1 : Int) (Q : lf_Z → Prop) (s : lf_Z) : Prop := lf_R (s.1 31 8) ∧ ((s.1 31 8 ≠ 2 ∧ s.1 31 8 ≠ 3 ∧ s.1 31 8 ≠ 11 ∧ s.1 31 8 ≠ 14 ∧ s.1 31 8 ≠ 37 ∧ s.1 31 8 ≠ 41 → (fm_56 (fun s22 => (Q s22)) s)) ∧ (s.1 31 8 = 2 → ((s.2.2 2 = none → (fm_44 0 9999 (fun r25 s24 => (False)) s)) ∧ (∀ t23 : Nat, s.2.2 2 = some t23 → t23 < 4 ∧ (fm_44 0 9999 (fun r27 s26 => (fm_45 t23 2 r27 (fun r29 s28 => (Q s28)) s26)) s)))) ∧ (s.1 31 8 = 3 → (fm_46 (fun s30 => (Q s30)) s)) ∧ (s.1 31 8 = 11 → (fm_47 a1 (fun z32 s31 => ((z32 = false → (Q s31)) ∧ (z32 = true → (R43 (a1 + 1) (fun s33 => ((s33.2.2 2 = none → (False)) ∧ (∀ t34 : Nat, s33.2.2 2 = some t34 → t34 < 4 ∧ (fm_45 t34 18 0 (fun r36 s35 => (Q s35)) s33)))) s31)))) s)) ∧ (s.1 31 8 = 14 → (fm_47 a1 (fun z38 s37 => ((z38 = false → (Q s37)) ∧ (z38 = true → (R41 (a1 + 1) (fun s39 => (fm_48 15 (fun s40 => (Q s40)) s39)) s37)))) s)) ∧ (s.1 31 8 = 37 → (fm_47 a1 (fun z42 s41 => ((z42 = false → (Q s41)) ∧ (z42 = true → (R49 (a1 + 1) (fun s43 => (Q s43)) s41)))) s)) ∧ (s.1 31 8 = 41 → (fm_47 a1 (fun z45 s44 => ((z45 = false → (Q s44)) ∧ (z45 = true → (R54 (a1 + 1) (fun s46 => (Q s46)) s44)))) s)))
set_option maxRecDepth 100000 in
theorem gm_43 {L : Nat} {xs : Nat → Int32} {d : Nat} {R41 : Int → (lf_Z → Prop) → lf_Z → Prop} {R43 : Int → (lf_Z → Prop) → lf_Z → Prop} {R49 : Int → (lf_Z → Prop) → lf_Z → Prop} {R54 : Int → (lf_Z → Prop) → lf_Z → Prop} {a1 : Int} {Q : lf_Z → Prop} {s : lf_Z} (hR41 : ∀ b1 Q s, R41 b1 Q s → lf_M (px_ro L xs) (d + 4) 41 [.ref 31, .int (Int32.ofInt b1)] s (lf_qv Q)) (hR43 : ∀ b1 Q s, R43 b1 Q s → lf_M (px_ro L xs) (d + 4) 43 [.ref 31, .int (Int32.ofInt b1)] s (lf_qv Q)) (hR49 : ∀ b1 Q s, R49 b1 Q s → lf_M (px_ro L xs) (d + 4) 49 [.ref 31, .int (Int32.ofInt b1)] s (lf_qv Q)) (hR54 : ∀ b1 Q s, R54 b1 Q s → lf_M (px_ro L xs) (d + 4) 54 [.ref 31, .int (Int32.ofInt b1)] s (lf_qv Q)) (h : fm_43 R41 R43 R49 R54 a1 Q s) : lf_M (px_ro L xs) (d + 5) 43 [.ref 31, .int (Int32.ofInt a1)] s (lf_qv Q) := by
  unfold fm_43 at h
  show lf_E (px_ro L xs) (d + 5) 43 0 [(0, .ref 31), (1, .int (Int32.ofInt a1))] [] s _
  refine lf_seg 1 (pc' := 1) (lv' := [(0, .ref 31), (1, .int (Int32.ofInt a1))]) (st' := [.ref 31]) rfl ?_
  refine lf_getI 4 8 rfl rfl rfl rfl rfl rfl rfl ?_
  obtain ⟨o21, h⟩ := h
  refine lf_lsw 180 [(2, 64), (3, 84), (11, 115), (14, 91), (37, 144), (41, 162)] rfl rfl (by decide) (by decide) (by decide) o21 (fun c => ?_) (lf_tab1 (fun c => ?_) (lf_tab1 (fun c => ?_) (lf_tab1 (fun c => ?_) (lf_tab1 (fun c => ?_) (lf_tab1 (fun c => ?_) (lf_tab1 (fun c => ?_) lf_tab0))))))
  · have h := h.1 c
    refine lf_seg 1 (pc' := 181) (lv' := [(0, .ref 31), (1, .int (Int32.ofInt a1))]) (st' := [.ref 31]) rfl ?_
    refine lf_callV 184 rfl rfl rfl rfl (gm_56 h) (fun s22 h => ?_)
    exact lf_retV rfl rfl h
  · have h := h.2.1 c
    refine lf_seg 1 (pc' := 65) (lv' := [(0, .ref 31), (1, .int (Int32.ofInt a1))]) (st' := [.ref 31]) rfl ?_
    cases et23 : s.2.2 2 with
    | none =>
      have h := h.1 et23
      refine lf_getR 68 (w := none) rfl rfl rfl rfl rfl rfl (congrArg (Option.map (fun t => 35 + 7 * t)) et23) ?_
      refine lf_seg 3 (pc' := 71) (lv' := [(0, .ref 31), (1, .int (Int32.ofInt a1))]) (st' := [.int (Int32.ofInt 0), .ref 31, .int (Int32.ofInt 2), .null]) rfl ?_
      refine lf_sipush 74 9999 rfl rfl (by decide) (by decide) ?_
      refine lf_callI 77 rfl rfl rfl rfl (gm_44 h) (fun r25 s24 h => ?_)
      exact h.elim
    | some t23 =>
      obtain ⟨htt23, h⟩ := h.2 t23 et23
      refine lf_getR 68 (w := some (35 + 7 * t23)) rfl rfl rfl rfl rfl rfl (congrArg (Option.map (fun t => 35 + 7 * t)) et23) ?_
      refine lf_seg 3 (pc' := 71) (lv' := [(0, .ref 31), (1, .int (Int32.ofInt a1))]) (st' := [.int (Int32.ofInt 0), .ref 31, .int (Int32.ofInt 2), .ref (35 + 7 * t23)]) rfl ?_
      refine lf_sipush 74 9999 rfl rfl (by decide) (by decide) ?_
      refine lf_callI 77 rfl rfl rfl rfl (gm_44 h) (fun r27 s26 h => ?_)
      refine lf_callI 80 rfl rfl (lf_invT htt23 rfl rfl rfl rfl) rfl (gm_45 htt23 h) (fun r29 s28 h => ?_)
      refine lf_seg 2 (pc' := 184) (lv' := [(0, .ref 31), (1, .int (Int32.ofInt a1))]) (st' := []) rfl ?_
      exact lf_retV rfl rfl h
  · have h := h.2.2.1 c
    refine lf_seg 1 (pc' := 85) (lv' := [(0, .ref 31), (1, .int (Int32.ofInt a1))]) (st' := [.ref 31]) rfl ?_
    refine lf_callV 88 rfl rfl rfl rfl (gm_46 h) (fun s30 h => ?_)
    refine lf_seg 1 (pc' := 184) (lv' := [(0, .ref 31), (1, .int (Int32.ofInt a1))]) (st' := []) rfl ?_
    exact lf_retV rfl rfl h
  · have h := h.2.2.2.1 c
    refine lf_seg 2 (pc' := 117) (lv' := [(0, .ref 31), (1, .int (Int32.ofInt a1))]) (st' := [.int (Int32.ofInt a1), .ref 31]) rfl ?_
    refine lf_callZ 120 rfl rfl rfl rfl (gm_47 h) (fun z32 s31 h => ?_)
    refine lf_ifz_eq 184 123 rfl rfl rfl (fun c => ?_) (fun c => ?_)
    · have h := h.1 c
      exact lf_retV rfl rfl h
    · have h := h.2 c
      refine lf_seg 3 (pc' := 126) (lv' := [(0, .ref 31), (1, .int (Int32.ofInt a1))]) (st' := [.int (Int32.ofInt 1), .int (Int32.ofInt a1), .ref 31]) rfl ?_
      refine lf_iadd 127 rfl rfl ?_
      refine lf_callV 130 rfl rfl rfl rfl (hR43 _ _ _ h) (fun s33 h => ?_)
      refine lf_seg 1 (pc' := 131) (lv' := [(0, .ref 31), (1, .int (Int32.ofInt a1))]) (st' := [.ref 31]) rfl ?_
      cases et34 : s33.2.2 2 with
      | none =>
        have h := h.1 et34
        refine lf_getR 134 (w := none) rfl rfl rfl rfl rfl rfl (congrArg (Option.map (fun t => 35 + 7 * t)) et34) ?_
        refine lf_bipush 136 18 rfl rfl (by decide) (by decide) ?_
        refine lf_seg 1 (pc' := 137) (lv' := [(0, .ref 31), (1, .int (Int32.ofInt a1))]) (st' := [.int (Int32.ofInt 0), .int (Int32.ofInt 18), .null]) rfl ?_
        exact h.elim
      | some t34 =>
        obtain ⟨htt34, h⟩ := h.2 t34 et34
        refine lf_getR 134 (w := some (35 + 7 * t34)) rfl rfl rfl rfl rfl rfl (congrArg (Option.map (fun t => 35 + 7 * t)) et34) ?_
        refine lf_bipush 136 18 rfl rfl (by decide) (by decide) ?_
        refine lf_seg 1 (pc' := 137) (lv' := [(0, .ref 31), (1, .int (Int32.ofInt a1))]) (st' := [.int (Int32.ofInt 0), .int (Int32.ofInt 18), .ref (35 + 7 * t34)]) rfl ?_
        refine lf_callI 140 rfl rfl (lf_invT htt34 rfl rfl rfl rfl) rfl (gm_45 htt34 h) (fun r36 s35 h => ?_)
        refine lf_seg 2 (pc' := 184) (lv' := [(0, .ref 31), (1, .int (Int32.ofInt a1))]) (st' := []) rfl ?_
        exact lf_retV rfl rfl h
  · have h := h.2.2.2.2.1 c
    refine lf_seg 2 (pc' := 93) (lv' := [(0, .ref 31), (1, .int (Int32.ofInt a1))]) (st' := [.int (Int32.ofInt a1), .ref 31]) rfl ?_
    refine lf_callZ 96 rfl rfl rfl rfl (gm_47 h) (fun z38 s37 h => ?_)
    refine lf_ifz_eq 184 99 rfl rfl rfl (fun c => ?_) (fun c => ?_)
    · have h := h.1 c
      exact lf_retV rfl rfl h
    · have h := h.2 c
      refine lf_seg 3 (pc' := 102) (lv' := [(0, .ref 31), (1, .int (Int32.ofInt a1))]) (st' := [.int (Int32.ofInt 1), .int (Int32.ofInt a1), .ref 31]) rfl ?_
      refine lf_iadd 103 rfl rfl ?_
      refine lf_callV 106 rfl rfl rfl rfl (hR41 _ _ _ h) (fun s39 h => ?_)
      refine lf_seg 1 (pc' := 107) (lv' := [(0, .ref 31), (1, .int (Int32.ofInt a1))]) (st' := [.ref 31]) rfl ?_
      refine lf_bipush 109 15 rfl rfl (by decide) (by decide) ?_
      refine lf_callV 112 rfl rfl rfl rfl (gm_48 h) (fun s40 h => ?_)
      refine lf_seg 1 (pc' := 184) (lv' := [(0, .ref 31), (1, .int (Int32.ofInt a1))]) (st' := []) rfl ?_
      exact lf_retV rfl rfl h
  · have h := h.2.2.2.2.2.1 c
    refine lf_seg 2 (pc' := 146) (lv' := [(0, .ref 31), (1, .int (Int32.ofInt a1))]) (st' := [.int (Int32.ofInt a1), .ref 31]) rfl ?_
    refine lf_callZ 149 rfl rfl rfl rfl (gm_47 h) (fun z42 s41 h => ?_)
    refine lf_ifz_eq 184 152 rfl rfl rfl (fun c => ?_) (fun c => ?_)
    · have h := h.1 c
      exact lf_retV rfl rfl h
    · have h := h.2 c
      refine lf_seg 3 (pc' := 155) (lv' := [(0, .ref 31), (1, .int (Int32.ofInt a1))]) (st' := [.int (Int32.ofInt 1), .int (Int32.ofInt a1), .ref 31]) rfl ?_
      refine lf_iadd 156 rfl rfl ?_
      refine lf_callV 159 rfl rfl rfl rfl (hR49 _ _ _ h) (fun s43 h => ?_)
      refine lf_seg 1 (pc' := 184) (lv' := [(0, .ref 31), (1, .int (Int32.ofInt a1))]) (st' := []) rfl ?_
      exact lf_retV rfl rfl h
  · have h := h.2.2.2.2.2.2 c
    refine lf_seg 2 (pc' := 164) (lv' := [(0, .ref 31), (1, .int (Int32.ofInt a1))]) (st' := [.int (Int32.ofInt a1), .ref 31]) rfl ?_
    refine lf_callZ 167 rfl rfl rfl rfl (gm_47 h) (fun z45 s44 h => ?_)
    refine lf_ifz_eq 184 170 rfl rfl rfl (fun c => ?_) (fun c => ?_)
    · have h := h.1 c
      exact lf_retV rfl rfl h
    · have h := h.2 c
      refine lf_seg 3 (pc' := 173) (lv' := [(0, .ref 31), (1, .int (Int32.ofInt a1))]) (st' := [.int (Int32.ofInt 1), .int (Int32.ofInt a1), .ref 31]) rfl ?_
      refine lf_iadd 174 rfl rfl ?_
      refine lf_callV 177 rfl rfl rfl rfl (hR54 _ _ _ h) (fun s46 h => ?_)
      refine lf_seg 1 (pc' := 184) (lv' := [(0, .ref 31), (1, .int (Int32.ofInt a1))]) (st' := []) rfl ?_
      exact lf_retV rfl rfl h
-- fm_49 Reader.readIf 31 i
def fm_49 (R41 : Int → (lf_Z → Prop) → lf_Z → Prop) (R50 : Int → (lf_Z → Prop) → lf_Z → Prop) (a1 : Int) (Q : lf_Z → Prop) (s : lf_Z) : Prop := R50 a1 (fun s21 => (fm_48 38 (fun s22 => ((s22.2.2 2 = none → (False)) ∧ (∀ t23 : Nat, s22.2.2 2 = some t23 → t23 < 4 ∧ (fm_45 t23 38 0 (fun r25 s24 => (R41 a1 (fun s26 => (fm_48 39 (fun s27 => ((s27.2.2 2 = none → (False)) ∧ (∀ t28 : Nat, s27.2.2 2 = some t28 → t28 < 4 ∧ (fm_45 t28 39 0 (fun r30 s29 => ((s29.2.2 2 = none → (False)) ∧ (∀ t31 : Nat, s29.2.2 2 = some t31 → t31 < 4 ∧ (fm_53 t31 r25 (fun s32 => (R41 a1 (fun s33 => ((s33.2.2 2 = none → (False)) ∧ (∀ t34 : Nat, s33.2.2 2 = some t34 → t34 < 4 ∧ (fm_53 t34 r30 (fun s35 => (fm_48 40 (fun s36 => (Q s36)) s35)) s33)))) s32)) s29)))) s27)))) s26)) s24)) s22)))) s21)) s
set_option maxRecDepth 100000 in
theorem gm_49 {L : Nat} {xs : Nat → Int32} {d : Nat} {R41 : Int → (lf_Z → Prop) → lf_Z → Prop} {R50 : Int → (lf_Z → Prop) → lf_Z → Prop} {a1 : Int} {Q : lf_Z → Prop} {s : lf_Z} (hR41 : ∀ b1 Q s, R41 b1 Q s → lf_M (px_ro L xs) (d + 4) 41 [.ref 31, .int (Int32.ofInt b1)] s (lf_qv Q)) (hR50 : ∀ b1 Q s, R50 b1 Q s → lf_M (px_ro L xs) (d + 4) 50 [.ref 31, .int (Int32.ofInt b1)] s (lf_qv Q)) (h : fm_49 R41 R50 a1 Q s) : lf_M (px_ro L xs) (d + 5) 49 [.ref 31, .int (Int32.ofInt a1)] s (lf_qv Q) := by
  unfold fm_49 at h
  show lf_E (px_ro L xs) (d + 5) 49 0 [(0, .ref 31), (1, .int (Int32.ofInt a1))] [] s _
  refine lf_seg 2 (pc' := 2) (lv' := [(0, .ref 31), (1, .int (Int32.ofInt a1))]) (st' := [.int (Int32.ofInt a1), .ref 31]) rfl ?_
  refine lf_callV 5 rfl rfl rfl rfl (hR50 _ _ _ h) (fun s21 h => ?_)
  refine lf_seg 1 (pc' := 6) (lv' := [(0, .ref 31), (1, .int (Int32.ofInt a1))]) (st' := [.ref 31]) rfl ?_
  refine lf_bipush 8 38 rfl rfl (by decide) (by decide) ?_
  refine lf_callV 11 rfl rfl rfl rfl (gm_48 h) (fun s22 h => ?_)
  refine lf_seg 1 (pc' := 12) (lv' := [(0, .ref 31), (1, .int (Int32.ofInt a1))]) (st' := [.ref 31]) rfl ?_
  cases et23 : s22.2.2 2 with
  | none =>
    have h := h.1 et23
    refine lf_getR 15 (w := none) rfl rfl rfl rfl rfl rfl (congrArg (Option.map (fun t => 35 + 7 * t)) et23) ?_
    refine lf_bipush 17 38 rfl rfl (by decide) (by decide) ?_
    refine lf_seg 1 (pc' := 18) (lv' := [(0, .ref 31), (1, .int (Int32.ofInt a1))]) (st' := [.int (Int32.ofInt 0), .int (Int32.ofInt 38), .null]) rfl ?_
    exact h.elim
  | some t23 =>
    obtain ⟨htt23, h⟩ := h.2 t23 et23
    refine lf_getR 15 (w := some (35 + 7 * t23)) rfl rfl rfl rfl rfl rfl (congrArg (Option.map (fun t => 35 + 7 * t)) et23) ?_
    refine lf_bipush 17 38 rfl rfl (by decide) (by decide) ?_
    refine lf_seg 1 (pc' := 18) (lv' := [(0, .ref 31), (1, .int (Int32.ofInt a1))]) (st' := [.int (Int32.ofInt 0), .int (Int32.ofInt 38), .ref (35 + 7 * t23)]) rfl ?_
    refine lf_callI 21 rfl rfl (lf_invT htt23 rfl rfl rfl rfl) rfl (gm_45 htt23 h) (fun r25 s24 h => ?_)
    refine lf_seg 3 (pc' := 24) (lv' := [(2, .int (Int32.ofInt r25)), (0, .ref 31), (1, .int (Int32.ofInt a1))]) (st' := [.int (Int32.ofInt a1), .ref 31]) rfl ?_
    refine lf_callV 27 rfl rfl rfl rfl (hR41 _ _ _ h) (fun s26 h => ?_)
    refine lf_seg 1 (pc' := 28) (lv' := [(2, .int (Int32.ofInt r25)), (0, .ref 31), (1, .int (Int32.ofInt a1))]) (st' := [.ref 31]) rfl ?_
    refine lf_bipush 30 39 rfl rfl (by decide) (by decide) ?_
    refine lf_callV 33 rfl rfl rfl rfl (gm_48 h) (fun s27 h => ?_)
    refine lf_seg 1 (pc' := 34) (lv' := [(2, .int (Int32.ofInt r25)), (0, .ref 31), (1, .int (Int32.ofInt a1))]) (st' := [.ref 31]) rfl ?_
    cases et28 : s27.2.2 2 with
    | none =>
      have h := h.1 et28
      refine lf_getR 37 (w := none) rfl rfl rfl rfl rfl rfl (congrArg (Option.map (fun t => 35 + 7 * t)) et28) ?_
      refine lf_bipush 39 39 rfl rfl (by decide) (by decide) ?_
      refine lf_seg 1 (pc' := 40) (lv' := [(2, .int (Int32.ofInt r25)), (0, .ref 31), (1, .int (Int32.ofInt a1))]) (st' := [.int (Int32.ofInt 0), .int (Int32.ofInt 39), .null]) rfl ?_
      exact h.elim
    | some t28 =>
      obtain ⟨htt28, h⟩ := h.2 t28 et28
      refine lf_getR 37 (w := some (35 + 7 * t28)) rfl rfl rfl rfl rfl rfl (congrArg (Option.map (fun t => 35 + 7 * t)) et28) ?_
      refine lf_bipush 39 39 rfl rfl (by decide) (by decide) ?_
      refine lf_seg 1 (pc' := 40) (lv' := [(2, .int (Int32.ofInt r25)), (0, .ref 31), (1, .int (Int32.ofInt a1))]) (st' := [.int (Int32.ofInt 0), .int (Int32.ofInt 39), .ref (35 + 7 * t28)]) rfl ?_
      refine lf_callI 43 rfl rfl (lf_invT htt28 rfl rfl rfl rfl) rfl (gm_45 htt28 h) (fun r30 s29 h => ?_)
      refine lf_seg 2 (pc' := 45) (lv' := [(3, .int (Int32.ofInt r30)), (2, .int (Int32.ofInt r25)), (0, .ref 31), (1, .int (Int32.ofInt a1))]) (st' := [.ref 31]) rfl ?_
      cases et31 : s29.2.2 2 with
      | none =>
        have h := h.1 et31
        refine lf_getR 48 (w := none) rfl rfl rfl rfl rfl rfl (congrArg (Option.map (fun t => 35 + 7 * t)) et31) ?_
        refine lf_seg 1 (pc' := 49) (lv' := [(3, .int (Int32.ofInt r30)), (2, .int (Int32.ofInt r25)), (0, .ref 31), (1, .int (Int32.ofInt a1))]) (st' := [.int (Int32.ofInt r25), .null]) rfl ?_
        exact h.elim
      | some t31 =>
        obtain ⟨htt31, h⟩ := h.2 t31 et31
        refine lf_getR 48 (w := some (35 + 7 * t31)) rfl rfl rfl rfl rfl rfl (congrArg (Option.map (fun t => 35 + 7 * t)) et31) ?_
        refine lf_seg 1 (pc' := 49) (lv' := [(3, .int (Int32.ofInt r30)), (2, .int (Int32.ofInt r25)), (0, .ref 31), (1, .int (Int32.ofInt a1))]) (st' := [.int (Int32.ofInt r25), .ref (35 + 7 * t31)]) rfl ?_
        refine lf_callV 52 rfl rfl (lf_invT htt31 rfl rfl rfl rfl) rfl (gm_53 htt31 h) (fun s32 h => ?_)
        refine lf_seg 2 (pc' := 54) (lv' := [(3, .int (Int32.ofInt r30)), (2, .int (Int32.ofInt r25)), (0, .ref 31), (1, .int (Int32.ofInt a1))]) (st' := [.int (Int32.ofInt a1), .ref 31]) rfl ?_
        refine lf_callV 57 rfl rfl rfl rfl (hR41 _ _ _ h) (fun s33 h => ?_)
        refine lf_seg 1 (pc' := 58) (lv' := [(3, .int (Int32.ofInt r30)), (2, .int (Int32.ofInt r25)), (0, .ref 31), (1, .int (Int32.ofInt a1))]) (st' := [.ref 31]) rfl ?_
        cases et34 : s33.2.2 2 with
        | none =>
          have h := h.1 et34
          refine lf_getR 61 (w := none) rfl rfl rfl rfl rfl rfl (congrArg (Option.map (fun t => 35 + 7 * t)) et34) ?_
          refine lf_seg 1 (pc' := 62) (lv' := [(3, .int (Int32.ofInt r30)), (2, .int (Int32.ofInt r25)), (0, .ref 31), (1, .int (Int32.ofInt a1))]) (st' := [.int (Int32.ofInt r30), .null]) rfl ?_
          exact h.elim
        | some t34 =>
          obtain ⟨htt34, h⟩ := h.2 t34 et34
          refine lf_getR 61 (w := some (35 + 7 * t34)) rfl rfl rfl rfl rfl rfl (congrArg (Option.map (fun t => 35 + 7 * t)) et34) ?_
          refine lf_seg 1 (pc' := 62) (lv' := [(3, .int (Int32.ofInt r30)), (2, .int (Int32.ofInt r25)), (0, .ref 31), (1, .int (Int32.ofInt a1))]) (st' := [.int (Int32.ofInt r30), .ref (35 + 7 * t34)]) rfl ?_
          refine lf_callV 65 rfl rfl (lf_invT htt34 rfl rfl rfl rfl) rfl (gm_53 htt34 h) (fun s35 h => ?_)
          refine lf_seg 1 (pc' := 66) (lv' := [(3, .int (Int32.ofInt r30)), (2, .int (Int32.ofInt r25)), (0, .ref 31), (1, .int (Int32.ofInt a1))]) (st' := [.ref 31]) rfl ?_
          refine lf_bipush 68 40 rfl rfl (by decide) (by decide) ?_
          refine lf_callV 71 rfl rfl rfl rfl (gm_48 h) (fun s36 h => ?_)
          exact lf_retV rfl rfl h
-- fm_54 Reader.readLet 31 i
def fm_54_p29 (R41 : Int → (lf_Z → Prop) → lf_Z → Prop) (Q : lf_Z → Prop) (x1 : Int) (y0 : Int) (s : lf_Z) : Prop := fm_55 (x1 - 1) 0 7 (fun r23 s22 => (fm_48 3 (fun s24 => (fm_48 42 (fun s25 => (R41 x1 (fun s26 => (fm_48 43 (fun s27 => ((s27.2.2 2 = none → (False)) ∧ (∀ t28 : Nat, s27.2.2 2 = some t28 → t28 < 4 ∧ (fm_45 t28 43 r23 (fun r30 s29 => ((0 ≤ y0 ∧ y0 < 26) ∧ (R41 x1 (fun s32 => (fm_48 40 (fun s33 => (Q s33)) (lf_up s32.1 33 y0 (s29.1 33 y0), s32.2.1, s32.2.2))) (lf_up s29.1 33 y0 r23, s29.2.1, s29.2.2)))) s27)))) s26)) s25)) s24)) s22)) s
set_option maxRecDepth 100000 in
theorem gm_54_p29 {L : Nat} {xs : Nat → Int32} {d : Nat} {R41 : Int → (lf_Z → Prop) → lf_Z → Prop} {Q : lf_Z → Prop} {x1 : Int} {y0 : Int} {s : lf_Z} (hR41 : ∀ b1 Q s, R41 b1 Q s → lf_M (px_ro L xs) (d + 4) 41 [.ref 31, .int (Int32.ofInt b1)] s (lf_qv Q)) (h : fm_54_p29 R41 Q x1 y0 s) : lf_E (px_ro L xs) (d + 5) 54 29 [(0, .ref 31), (1, .int (Int32.ofInt x1))] [.int (Int32.ofInt y0)] s (lf_qv Q) := by
  unfold fm_54_p29 at h
  refine lf_seg 3 (pc' := 32) (lv' := [(2, .int (Int32.ofInt y0)), (0, .ref 31), (1, .int (Int32.ofInt x1))]) (st' := [.int (Int32.ofInt 1), .int (Int32.ofInt x1)]) rfl ?_
  refine lf_isub 33 rfl rfl ?_
  refine lf_seg 1 (pc' := 34) (lv' := [(2, .int (Int32.ofInt y0)), (0, .ref 31), (1, .int (Int32.ofInt x1))]) (st' := [.int (Int32.ofInt 0), .int (Int32.ofInt (x1 - 1))]) rfl ?_
  refine lf_bipush 36 7 rfl rfl (by decide) (by decide) ?_
  refine lf_callI 39 rfl rfl rfl rfl (gm_55 h) (fun r23 s22 h => ?_)
  refine lf_seg 3 (pc' := 42) (lv' := [(3, .int (Int32.ofInt r23)), (2, .int (Int32.ofInt y0)), (0, .ref 31), (1, .int (Int32.ofInt x1))]) (st' := [.int (Int32.ofInt 3), .ref 31]) rfl ?_
  refine lf_callV 45 rfl rfl rfl rfl (gm_48 h) (fun s24 h => ?_)
  refine lf_seg 1 (pc' := 46) (lv' := [(3, .int (Int32.ofInt r23)), (2, .int (Int32.ofInt y0)), (0, .ref 31), (1, .int (Int32.ofInt x1))]) (st' := [.ref 31]) rfl ?_
  refine lf_bipush 48 42 rfl rfl (by decide) (by decide) ?_
  refine lf_callV 51 rfl rfl rfl rfl (gm_48 h) (fun s25 h => ?_)
  refine lf_seg 2 (pc' := 53) (lv' := [(3, .int (Int32.ofInt r23)), (2, .int (Int32.ofInt y0)), (0, .ref 31), (1, .int (Int32.ofInt x1))]) (st' := [.int (Int32.ofInt x1), .ref 31]) rfl ?_
  refine lf_callV 56 rfl rfl rfl rfl (hR41 _ _ _ h) (fun s26 h => ?_)
  refine lf_seg 1 (pc' := 57) (lv' := [(3, .int (Int32.ofInt r23)), (2, .int (Int32.ofInt y0)), (0, .ref 31), (1, .int (Int32.ofInt x1))]) (st' := [.ref 31]) rfl ?_
  refine lf_bipush 59 43 rfl rfl (by decide) (by decide) ?_
  refine lf_callV 62 rfl rfl rfl rfl (gm_48 h) (fun s27 h => ?_)
  refine lf_seg 1 (pc' := 63) (lv' := [(3, .int (Int32.ofInt r23)), (2, .int (Int32.ofInt y0)), (0, .ref 31), (1, .int (Int32.ofInt x1))]) (st' := [.ref 31]) rfl ?_
  cases et28 : s27.2.2 2 with
  | none =>
    have h := h.1 et28
    refine lf_getR 66 (w := none) rfl rfl rfl rfl rfl rfl (congrArg (Option.map (fun t => 35 + 7 * t)) et28) ?_
    refine lf_bipush 68 43 rfl rfl (by decide) (by decide) ?_
    refine lf_seg 1 (pc' := 69) (lv' := [(3, .int (Int32.ofInt r23)), (2, .int (Int32.ofInt y0)), (0, .ref 31), (1, .int (Int32.ofInt x1))]) (st' := [.int (Int32.ofInt r23), .int (Int32.ofInt 43), .null]) rfl ?_
    exact h.elim
  | some t28 =>
    obtain ⟨htt28, h⟩ := h.2 t28 et28
    refine lf_getR 66 (w := some (35 + 7 * t28)) rfl rfl rfl rfl rfl rfl (congrArg (Option.map (fun t => 35 + 7 * t)) et28) ?_
    refine lf_bipush 68 43 rfl rfl (by decide) (by decide) ?_
    refine lf_seg 1 (pc' := 69) (lv' := [(3, .int (Int32.ofInt r23)), (2, .int (Int32.ofInt y0)), (0, .ref 31), (1, .int (Int32.ofInt x1))]) (st' := [.int (Int32.ofInt r23), .int (Int32.ofInt 43), .ref (35 + 7 * t28)]) rfl ?_
    refine lf_callI 72 rfl rfl (lf_invT htt28 rfl rfl rfl rfl) rfl (gm_45 htt28 h) (fun r30 s29 h => ?_)
    refine lf_seg 4 (pc' := 78) (lv' := [(3, .int (Int32.ofInt r23)), (2, .int (Int32.ofInt y0)), (0, .ref 31), (1, .int (Int32.ofInt x1))]) (st' := [.int (Int32.ofInt y0), .ref 33]) rfl ?_
    obtain ⟨o31, h⟩ := h
    refine lf_iald 79 26 rfl rfl rfl rfl rfl rfl o31 ?_
    refine lf_seg 5 (pc' := 87) (lv' := [(4, .int (Int32.ofInt (s29.1 33 y0))), (3, .int (Int32.ofInt r23)), (2, .int (Int32.ofInt y0)), (0, .ref 31), (1, .int (Int32.ofInt x1))]) (st' := [.int (Int32.ofInt r23), .int (Int32.ofInt y0), .ref 33]) rfl ?_
    refine lf_iast 88 26 rfl rfl rfl rfl rfl rfl o31 ?_
    refine lf_as (lf_up s29.1 33 y0 r23, s29.2.1, s29.2.2) rfl ?_
    refine lf_seg 2 (pc' := 90) (lv' := [(4, .int (Int32.ofInt (s29.1 33 y0))), (3, .int (Int32.ofInt r23)), (2, .int (Int32.ofInt y0)), (0, .ref 31), (1, .int (Int32.ofInt x1))]) (st' := [.int (Int32.ofInt x1), .ref 31]) rfl ?_
    refine lf_callV 93 rfl rfl rfl rfl (hR41 _ _ _ h) (fun s32 h => ?_)
    refine lf_seg 4 (pc' := 100) (lv' := [(4, .int (Int32.ofInt (s29.1 33 y0))), (3, .int (Int32.ofInt r23)), (2, .int (Int32.ofInt y0)), (0, .ref 31), (1, .int (Int32.ofInt x1))]) (st' := [.int (Int32.ofInt (s29.1 33 y0)), .int (Int32.ofInt y0), .ref 33]) rfl ?_
    refine lf_iast 101 26 rfl rfl rfl rfl rfl rfl o31 ?_
    refine lf_as (lf_up s32.1 33 y0 (s29.1 33 y0), s32.2.1, s32.2.2) rfl ?_
    refine lf_seg 1 (pc' := 102) (lv' := [(4, .int (Int32.ofInt (s29.1 33 y0))), (3, .int (Int32.ofInt r23)), (2, .int (Int32.ofInt y0)), (0, .ref 31), (1, .int (Int32.ofInt x1))]) (st' := [.ref 31]) rfl ?_
    refine lf_bipush 104 40 rfl rfl (by decide) (by decide) ?_
    refine lf_callV 107 rfl rfl rfl rfl (gm_48 h) (fun s33 h => ?_)
    exact lf_retV rfl rfl h
def fm_54_p28 (R41 : Int → (lf_Z → Prop) → lf_Z → Prop) (Q : lf_Z → Prop) (x1 : Int) (s : lf_Z) : Prop := fm_54_p29 R41 Q x1 0 s
set_option maxRecDepth 100000 in
theorem gm_54_p28 {L : Nat} {xs : Nat → Int32} {d : Nat} {R41 : Int → (lf_Z → Prop) → lf_Z → Prop} {Q : lf_Z → Prop} {x1 : Int} {s : lf_Z} (hR41 : ∀ b1 Q s, R41 b1 Q s → lf_M (px_ro L xs) (d + 4) 41 [.ref 31, .int (Int32.ofInt b1)] s (lf_qv Q)) (h : fm_54_p28 R41 Q x1 s) : lf_E (px_ro L xs) (d + 5) 54 28 [(0, .ref 31), (1, .int (Int32.ofInt x1))] [] s (lf_qv Q) := by
  unfold fm_54_p28 at h
  refine lf_seg 1 (pc' := 29) (lv' := [(0, .ref 31), (1, .int (Int32.ofInt x1))]) (st' := [.int (Int32.ofInt 0)]) rfl ?_
  refine lf_sub (l := [(0, .ref 31), (1, .int (Int32.ofInt x1))]) (lf_sb1 rfl (lf_sb1 rfl lf_sb0)) ?_
  exact gm_54_p29 hR41 h
def fm_54 (R41 : Int → (lf_Z → Prop) → lf_Z → Prop) (a1 : Int) (Q : lf_Z → Prop) (s : lf_Z) : Prop := lf_R (s.1 31 8) ∧ ((s.1 31 8 ≠ 3 → (fm_54_p28 R41 Q a1 s)) ∧ (¬ (s.1 31 8 ≠ 3) → (fm_15 (s.1 31 10) 0 25 (fun z35 s34 => ((z35 = false → (fm_54_p28 R41 Q a1 s34)) ∧ (z35 = true → (fm_54_p29 R41 Q a1 (s34.1 31 10) s34)))) s)))
set_option maxRecDepth 100000 in
theorem gm_54 {L : Nat} {xs : Nat → Int32} {d : Nat} {R41 : Int → (lf_Z → Prop) → lf_Z → Prop} {a1 : Int} {Q : lf_Z → Prop} {s : lf_Z} (hR41 : ∀ b1 Q s, R41 b1 Q s → lf_M (px_ro L xs) (d + 4) 41 [.ref 31, .int (Int32.ofInt b1)] s (lf_qv Q)) (h : fm_54 R41 a1 Q s) : lf_M (px_ro L xs) (d + 5) 54 [.ref 31, .int (Int32.ofInt a1)] s (lf_qv Q) := by
  unfold fm_54 at h
  show lf_E (px_ro L xs) (d + 5) 54 0 [(0, .ref 31), (1, .int (Int32.ofInt a1))] [] s _
  refine lf_seg 1 (pc' := 1) (lv' := [(0, .ref 31), (1, .int (Int32.ofInt a1))]) (st' := [.ref 31]) rfl ?_
  refine lf_getI 4 8 rfl rfl rfl rfl rfl rfl rfl ?_
  refine lf_seg 1 (pc' := 5) (lv' := [(0, .ref 31), (1, .int (Int32.ofInt a1))]) (st' := [.int (Int32.ofInt 3), .int (Int32.ofInt (s.1 31 8))]) rfl ?_
  obtain ⟨o21, h⟩ := h
  refine lf_icmp_ne 28 8 rfl rfl rfl o21 ⟨by decide, by decide⟩ (fun c => ?_) (fun c => ?_)
  · have h := h.1 c
    refine lf_sub (l := [(0, .ref 31), (1, .int (Int32.ofInt a1))]) (lf_sb1 rfl (lf_sb1 rfl lf_sb0)) ?_
    exact gm_54_p28 hR41 h
  · have h := h.2 c
    refine lf_seg 1 (pc' := 9) (lv' := [(0, .ref 31), (1, .int (Int32.ofInt a1))]) (st' := [.ref 31]) rfl ?_
    refine lf_getI 12 10 rfl rfl rfl rfl rfl rfl rfl ?_
    refine lf_seg 1 (pc' := 13) (lv' := [(0, .ref 31), (1, .int (Int32.ofInt a1))]) (st' := [.int (Int32.ofInt 0), .int (Int32.ofInt (s.1 31 10))]) rfl ?_
    refine lf_bipush 15 25 rfl rfl (by decide) (by decide) ?_
    refine lf_callZ 18 rfl rfl rfl rfl (gm_15 h) (fun z35 s34 h => ?_)
    refine lf_ifz_eq 28 21 rfl rfl rfl (fun c => ?_) (fun c => ?_)
    · have h := h.1 c
      refine lf_sub (l := [(0, .ref 31), (1, .int (Int32.ofInt a1))]) (lf_sb1 rfl (lf_sb1 rfl lf_sb0)) ?_
      exact gm_54_p28 hR41 h
    · have h := h.2 c
      refine lf_seg 1 (pc' := 22) (lv' := [(0, .ref 31), (1, .int (Int32.ofInt a1))]) (st' := [.ref 31]) rfl ?_
      refine lf_getI 25 10 rfl rfl rfl rfl rfl rfl rfl ?_
      refine lf_seg 1 (pc' := 29) (lv' := [(0, .ref 31), (1, .int (Int32.ofInt a1))]) (st' := [.int (Int32.ofInt (s34.1 31 10))]) rfl ?_
      refine lf_sub (l := [(0, .ref 31), (1, .int (Int32.ofInt a1))]) (lf_sb1 rfl (lf_sb1 rfl lf_sb0)) ?_
      exact gm_54_p29 hR41 h
