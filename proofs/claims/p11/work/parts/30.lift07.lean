-- fm_80 Stand.hasBunch 15 i
def fm_80 (a1 : Int) (Q : Bool → lf_Z → Prop) (s : lf_Z) : Prop := lf_R a1 ∧ ((a1 < 0 → (Q false s)) ∧ (¬ (a1 < 0) → ((4 ≤ a1 → (Q false s)) ∧ (¬ (4 ≤ a1) → ((0 ≤ a1 ∧ a1 < 4) ∧ (lf_R (s.1 16 a1) ∧ ((s.1 16 a1 ≤ 0 → (Q false s)) ∧ (¬ (s.1 16 a1 ≤ 0) → (Q true s)))))))))
set_option maxRecDepth 100000 in
theorem gm_80 {L : Nat} {xs : Nat → Int32} {d : Nat} {a1 : Int} {Q : Bool → lf_Z → Prop} {s : lf_Z} (h : fm_80 a1 Q s) : lf_M (px_ro L xs) (d + 1) 80 [.ref 15, .int (Int32.ofInt a1)] s (lf_qz Q) := by
  unfold fm_80 at h
  show lf_E (px_ro L xs) (d + 1) 80 0 [(0, .ref 15), (1, .int (Int32.ofInt a1))] [] s _
  refine lf_seg 1 (pc' := 1) (lv' := [(0, .ref 15), (1, .int (Int32.ofInt a1))]) (st' := [.int (Int32.ofInt a1)]) rfl ?_
  obtain ⟨o21, h⟩ := h
  refine lf_if_lt 22 4 rfl rfl rfl o21 (fun c => ?_) (fun c => ?_)
  · have h := h.1 c
    refine lf_seg 1 (pc' := 23) (lv' := [(0, .ref 15), (1, .int (Int32.ofInt a1))]) (st' := [.int (Int32.ofInt 0)]) rfl ?_
    exact lf_retZ false rfl rfl h
  · have h := h.2 c
    refine lf_seg 2 (pc' := 6) (lv' := [(0, .ref 15), (1, .int (Int32.ofInt a1))]) (st' := [.int (Int32.ofInt 4), .int (Int32.ofInt a1)]) rfl ?_
    refine lf_icmp_ge 22 9 rfl rfl rfl o21 ⟨by decide, by decide⟩ (fun c => ?_) (fun c => ?_)
    · have h := h.1 c
      refine lf_seg 1 (pc' := 23) (lv' := [(0, .ref 15), (1, .int (Int32.ofInt a1))]) (st' := [.int (Int32.ofInt 0)]) rfl ?_
      exact lf_retZ false rfl rfl h
    · have h := h.2 c
      refine lf_seg 3 (pc' := 14) (lv' := [(0, .ref 15), (1, .int (Int32.ofInt a1))]) (st' := [.int (Int32.ofInt a1), .ref 16]) rfl ?_
      obtain ⟨o22, h⟩ := h
      refine lf_iald 15 4 rfl rfl rfl rfl rfl rfl o22 ?_
      obtain ⟨o23, h⟩ := h
      refine lf_if_le 22 18 rfl rfl rfl o23 (fun c => ?_) (fun c => ?_)
      · have h := h.1 c
        refine lf_seg 1 (pc' := 23) (lv' := [(0, .ref 15), (1, .int (Int32.ofInt a1))]) (st' := [.int (Int32.ofInt 0)]) rfl ?_
        exact lf_retZ false rfl rfl h
      · have h := h.2 c
        refine lf_seg 2 (pc' := 23) (lv' := [(0, .ref 15), (1, .int (Int32.ofInt a1))]) (st' := [.int (Int32.ofInt 1)]) rfl ?_
        exact lf_retZ true rfl rfl h
-- fm_95 Minutes.doHarm 67
def fm_95_p59 (X2 : Int → lf_Z → Prop) (Q : lf_Z → Prop) (x1 : Int) (s : lf_Z) : Prop := X2 (x1 + 1) s
set_option maxRecDepth 100000 in
theorem gm_95_p59 {L : Nat} {xs : Nat → Int32} {d : Nat} {X2 : Int → lf_Z → Prop} {Q : lf_Z → Prop} {x1 : Int} {s : lf_Z} (hX2 : ∀ x1 s, X2 x1 s → lf_E (px_ro L xs) (d + 2) 95 2 [(0, .ref 67), (1, .int (Int32.ofInt x1))] [] s (lf_qv Q)) (h : fm_95_p59 X2 Q x1 s) : lf_E (px_ro L xs) (d + 2) 95 59 [(0, .ref 67), (1, .int (Int32.ofInt x1))] [] s (lf_qv Q) := by
  unfold fm_95_p59 at h
  refine lf_iinc 62 rfl rfl rfl rfl ?_
  refine lf_seg 1 (pc' := 2) (lv' := [(1, .int (Int32.ofInt (x1 + 1))), (0, .ref 67)]) (st' := []) rfl ?_
  refine lf_sub (l := [(0, .ref 67), (1, .int (Int32.ofInt (x1 + 1)))]) (lf_sb1 rfl (lf_sb1 rfl lf_sb0)) ?_
  exact hX2 _ _ h
def fm_95_p2 (Q : lf_Z → Prop) (X2 : Int → lf_Z → Prop) (x1 : Int) (s : lf_Z) : Prop := lf_R x1 ∧ ((4 ≤ x1 → (Q s)) ∧ (¬ (4 ≤ x1) → (fm_80 x1 (fun z23 s22 => ((z23 = false → (fm_95_p59 X2 Q x1 s22)) ∧ (z23 = true → ((0 ≤ x1 ∧ x1 < 4) ∧ ((0 ≤ s22.1 17 x1 ∧ s22.1 17 x1 < 12) ∧ (fm_95_p59 X2 Q x1 (lf_up s22.1 21 (s22.1 17 x1) (lf_w ((s22.1 21 (s22.1 17 x1)) + (lf_w ((s22.1 16 x1) * (s22.1 3 (s22.1 17 x1)))))), s22.2.1, s22.2.2))))))) s)))
def fm_95_p2L (Q : lf_Z → Prop) (x1 : Int) (s : lf_Z) : Prop := ∀ X2 : Int → lf_Z → Prop, (∀ (x1 : Int) (s : lf_Z), fm_95_p2 Q X2 x1 s → X2 x1 s) → X2 x1 s
set_option maxRecDepth 100000 in
theorem gm_95_p2 {L : Nat} {xs : Nat → Int32} {d : Nat} {Q : lf_Z → Prop} {x1 : Int} {s : lf_Z} {X2 : Int → lf_Z → Prop} (hX2 : ∀ x1 s, X2 x1 s → lf_E (px_ro L xs) (d + 2) 95 2 [(0, .ref 67), (1, .int (Int32.ofInt x1))] [] s (lf_qv Q)) (h : fm_95_p2 Q X2 x1 s) : lf_E (px_ro L xs) (d + 2) 95 2 [(0, .ref 67), (1, .int (Int32.ofInt x1))] [] s (lf_qv Q) := by
  unfold fm_95_p2 at h
  refine lf_seg 2 (pc' := 4) (lv' := [(0, .ref 67), (1, .int (Int32.ofInt x1))]) (st' := [.int (Int32.ofInt 4), .int (Int32.ofInt x1)]) rfl ?_
  obtain ⟨o21, h⟩ := h
  refine lf_icmp_ge 65 7 rfl rfl rfl o21 ⟨by decide, by decide⟩ (fun c => ?_) (fun c => ?_)
  · have h := h.1 c
    exact lf_retV rfl rfl h
  · have h := h.2 c
    refine lf_seg 3 (pc' := 12) (lv' := [(0, .ref 67), (1, .int (Int32.ofInt x1))]) (st' := [.int (Int32.ofInt x1), .ref 15]) rfl ?_
    refine lf_callZ 15 rfl rfl rfl rfl (gm_80 h) (fun z23 s22 h => ?_)
    refine lf_ifz_eq 59 18 rfl rfl rfl (fun c => ?_) (fun c => ?_)
    · have h := h.1 c
      refine lf_sub (l := [(0, .ref 67), (1, .int (Int32.ofInt x1))]) (lf_sb1 rfl (lf_sb1 rfl lf_sb0)) ?_
      exact gm_95_p59 hX2 h
    · have h := h.2 c
      refine lf_seg 4 (pc' := 26) (lv' := [(0, .ref 67), (1, .int (Int32.ofInt x1))]) (st' := [.int (Int32.ofInt x1), .ref 17]) rfl ?_
      obtain ⟨o24, h⟩ := h
      refine lf_iald 27 4 rfl rfl rfl rfl rfl rfl o24 ?_
      refine lf_seg 6 (pc' := 37) (lv' := [(2, .int (Int32.ofInt (s22.1 17 x1))), (0, .ref 67), (1, .int (Int32.ofInt x1))]) (st' := [.int (Int32.ofInt (s22.1 17 x1)), .ref 21, .int (Int32.ofInt (s22.1 17 x1)), .ref 21]) rfl ?_
      obtain ⟨o25, h⟩ := h
      refine lf_iald 38 12 rfl rfl rfl rfl rfl rfl o25 ?_
      refine lf_seg 4 (pc' := 46) (lv' := [(2, .int (Int32.ofInt (s22.1 17 x1))), (0, .ref 67), (1, .int (Int32.ofInt x1))]) (st' := [.int (Int32.ofInt x1), .ref 16, .int (Int32.ofInt (s22.1 21 (s22.1 17 x1))), .int (Int32.ofInt (s22.1 17 x1)), .ref 21]) rfl ?_
      refine lf_iald 47 4 rfl rfl rfl rfl rfl rfl o24 ?_
      refine lf_seg 4 (pc' := 55) (lv' := [(2, .int (Int32.ofInt (s22.1 17 x1))), (0, .ref 67), (1, .int (Int32.ofInt x1))]) (st' := [.int (Int32.ofInt (s22.1 17 x1)), .ref 3, .int (Int32.ofInt (s22.1 16 x1)), .int (Int32.ofInt (s22.1 21 (s22.1 17 x1))), .int (Int32.ofInt (s22.1 17 x1)), .ref 21]) rfl ?_
      refine lf_iald 56 12 rfl rfl rfl rfl rfl rfl o25 ?_
      refine lf_imul 57 rfl rfl ?_
      refine lf_wtI ?_
      refine lf_iadd 58 rfl rfl ?_
      refine lf_wtI ?_
      refine lf_iast 59 12 rfl rfl rfl rfl rfl rfl o25 ?_
      refine lf_as (lf_up s22.1 21 (s22.1 17 x1) (lf_w ((s22.1 21 (s22.1 17 x1)) + (lf_w ((s22.1 16 x1) * (s22.1 3 (s22.1 17 x1)))))), s22.2.1, s22.2.2) rfl ?_
      refine lf_sub (l := [(0, .ref 67), (1, .int (Int32.ofInt x1))]) (lf_sb1 rfl (lf_sb1 rfl lf_sb0)) ?_
      exact gm_95_p59 hX2 h
theorem gm_95_p2L {L : Nat} {xs : Nat → Int32} {d : Nat} {Q : lf_Z → Prop} {x1 : Int} {s : lf_Z} (h : fm_95_p2L Q x1 s) : lf_E (px_ro L xs) (d + 2) 95 2 [(0, .ref 67), (1, .int (Int32.ofInt x1))] [] s (lf_qv Q) :=
  h (fun x1 s => lf_E (px_ro L xs) (d + 2) 95 2 [(0, .ref 67), (1, .int (Int32.ofInt x1))] [] s (lf_qv Q)) (fun x1 s hb => gm_95_p2 (fun _ _ h => h) hb)
def fm_95 (Q : lf_Z → Prop) (s : lf_Z) : Prop := fm_95_p2L Q 0 s
set_option maxRecDepth 100000 in
theorem gm_95 {L : Nat} {xs : Nat → Int32} {d : Nat} {Q : lf_Z → Prop} {s : lf_Z} (h : fm_95 Q s) : lf_M (px_ro L xs) (d + 2) 95 [.ref 67] s (lf_qv Q) := by
  unfold fm_95 at h
  show lf_E (px_ro L xs) (d + 2) 95 0 [(0, .ref 67)] [] s _
  refine lf_seg 2 (pc' := 2) (lv' := [(1, .int (Int32.ofInt 0)), (0, .ref 67)]) (st' := []) rfl ?_
  refine lf_sub (l := [(0, .ref 67), (1, .int (Int32.ofInt 0))]) (lf_sb1 rfl (lf_sb1 rfl lf_sb0)) ?_
  exact gm_95_p2L h
-- fm_96 Minutes.joinBunches 67
def fm_96_p97 (X2 : Int → lf_Z → Prop) (Q : lf_Z → Prop) (x1 : Int) (s : lf_Z) : Prop := X2 (x1 + 1) s
set_option maxRecDepth 100000 in
theorem gm_96_p97 {L : Nat} {xs : Nat → Int32} {d : Nat} {X2 : Int → lf_Z → Prop} {Q : lf_Z → Prop} {x1 : Int} {s : lf_Z} (hX2 : ∀ x1 s, X2 x1 s → lf_E (px_ro L xs) (d + 2) 96 2 [(0, .ref 67), (1, .int (Int32.ofInt x1))] [] s (lf_qv Q)) (h : fm_96_p97 X2 Q x1 s) : lf_E (px_ro L xs) (d + 2) 96 97 [(0, .ref 67), (1, .int (Int32.ofInt x1))] [] s (lf_qv Q) := by
  unfold fm_96_p97 at h
  refine lf_iinc 100 rfl rfl rfl rfl ?_
  refine lf_seg 1 (pc' := 2) (lv' := [(1, .int (Int32.ofInt (x1 + 1))), (0, .ref 67)]) (st' := []) rfl ?_
  refine lf_sub (l := [(0, .ref 67), (1, .int (Int32.ofInt (x1 + 1)))]) (lf_sb1 rfl (lf_sb1 rfl lf_sb0)) ?_
  exact hX2 _ _ h
def fm_96_p91 (X2 : Int → lf_Z → Prop) (X11 : Int → lf_Z → Prop) (Q : lf_Z → Prop) (x1 : Int) (x2 : Int) (s : lf_Z) : Prop := X11 (x2 + 1) s
set_option maxRecDepth 100000 in
theorem gm_96_p91 {L : Nat} {xs : Nat → Int32} {d : Nat} {X2 : Int → lf_Z → Prop} {X11 : Int → lf_Z → Prop} {Q : lf_Z → Prop} {x1 : Int} {x2 : Int} {s : lf_Z} (hX2 : ∀ x1 s, X2 x1 s → lf_E (px_ro L xs) (d + 2) 96 2 [(0, .ref 67), (1, .int (Int32.ofInt x1))] [] s (lf_qv Q)) (hX11 : ∀ x2 s, X11 x2 s → lf_E (px_ro L xs) (d + 2) 96 11 [(0, .ref 67), (1, .int (Int32.ofInt x1)), (2, .int (Int32.ofInt x2))] [] s (lf_qv Q)) (h : fm_96_p91 X2 X11 Q x1 x2 s) : lf_E (px_ro L xs) (d + 2) 96 91 [(0, .ref 67), (1, .int (Int32.ofInt x1)), (2, .int (Int32.ofInt x2))] [] s (lf_qv Q) := by
  unfold fm_96_p91 at h
  refine lf_iinc 94 rfl rfl rfl rfl ?_
  refine lf_seg 1 (pc' := 11) (lv' := [(2, .int (Int32.ofInt (x2 + 1))), (0, .ref 67), (1, .int (Int32.ofInt x1))]) (st' := []) rfl ?_
  refine lf_sub (l := [(0, .ref 67), (1, .int (Int32.ofInt x1)), (2, .int (Int32.ofInt (x2 + 1)))]) (lf_sb1 rfl (lf_sb1 rfl (lf_sb1 rfl lf_sb0))) ?_
  exact hX11 _ _ h
def fm_96_p11 (X2 : Int → lf_Z → Prop) (Q : lf_Z → Prop) (x1 : Int) (X11 : Int → lf_Z → Prop) (x2 : Int) (s : lf_Z) : Prop := lf_R x2 ∧ ((4 ≤ x2 → (fm_96_p97 X2 Q x1 s)) ∧ (¬ (4 ≤ x2) → (fm_80 x1 (fun z24 s23 => ((z24 = false → (fm_96_p97 X2 Q x1 s23)) ∧ (z24 = true → (fm_80 x2 (fun z26 s25 => ((z26 = false → (fm_96_p91 X2 X11 Q x1 x2 s25)) ∧ (z26 = true → ((0 ≤ x2 ∧ x2 < 4) ∧ ((0 ≤ x1 ∧ x1 < 4) ∧ (lf_R (s25.1 17 x2) ∧ (lf_R (s25.1 17 x1) ∧ ((s25.1 17 x2 ≠ s25.1 17 x1 → (fm_96_p91 X2 X11 Q x1 x2 s25)) ∧ (¬ (s25.1 17 x2 ≠ s25.1 17 x1) → (fm_69 x2 0 (-1) (-1) (fun s31 => (fm_96_p91 X2 X11 Q x1 x2 s31)) (lf_up s25.1 16 x1 (lf_w ((s25.1 16 x1) + (s25.1 16 x2))), s25.2.1, s25.2.2))))))))))) s23)))) s)))
def fm_96_p11L (X2 : Int → lf_Z → Prop) (Q : lf_Z → Prop) (x1 : Int) (x2 : Int) (s : lf_Z) : Prop := ∀ X11 : Int → lf_Z → Prop, (∀ (x2 : Int) (s : lf_Z), fm_96_p11 X2 Q x1 X11 x2 s → X11 x2 s) → X11 x2 s
set_option maxRecDepth 100000 in
theorem gm_96_p11 {L : Nat} {xs : Nat → Int32} {d : Nat} {X2 : Int → lf_Z → Prop} {Q : lf_Z → Prop} {x1 : Int} {x2 : Int} {s : lf_Z} {X11 : Int → lf_Z → Prop} (hX2 : ∀ x1 s, X2 x1 s → lf_E (px_ro L xs) (d + 2) 96 2 [(0, .ref 67), (1, .int (Int32.ofInt x1))] [] s (lf_qv Q)) (hX11 : ∀ x2 s, X11 x2 s → lf_E (px_ro L xs) (d + 2) 96 11 [(0, .ref 67), (1, .int (Int32.ofInt x1)), (2, .int (Int32.ofInt x2))] [] s (lf_qv Q)) (h : fm_96_p11 X2 Q x1 X11 x2 s) : lf_E (px_ro L xs) (d + 2) 96 11 [(0, .ref 67), (1, .int (Int32.ofInt x1)), (2, .int (Int32.ofInt x2))] [] s (lf_qv Q) := by
  unfold fm_96_p11 at h
  refine lf_seg 2 (pc' := 13) (lv' := [(0, .ref 67), (1, .int (Int32.ofInt x1)), (2, .int (Int32.ofInt x2))]) (st' := [.int (Int32.ofInt 4), .int (Int32.ofInt x2)]) rfl ?_
  obtain ⟨o22, h⟩ := h
  refine lf_icmp_ge 97 16 rfl rfl rfl o22 ⟨by decide, by decide⟩ (fun c => ?_) (fun c => ?_)
  · have h := h.1 c
    refine lf_sub (l := [(0, .ref 67), (1, .int (Int32.ofInt x1))]) (lf_sb1 rfl (lf_sb1 rfl lf_sb0)) ?_
    exact gm_96_p97 hX2 h
  · have h := h.2 c
    refine lf_seg 3 (pc' := 21) (lv' := [(0, .ref 67), (1, .int (Int32.ofInt x1)), (2, .int (Int32.ofInt x2))]) (st' := [.int (Int32.ofInt x1), .ref 15]) rfl ?_
    refine lf_callZ 24 rfl rfl rfl rfl (gm_80 h) (fun z24 s23 h => ?_)
    refine lf_ifz_eq 97 27 rfl rfl rfl (fun c => ?_) (fun c => ?_)
    · have h := h.1 c
      refine lf_sub (l := [(0, .ref 67), (1, .int (Int32.ofInt x1))]) (lf_sb1 rfl (lf_sb1 rfl lf_sb0)) ?_
      exact gm_96_p97 hX2 h
    · have h := h.2 c
      refine lf_seg 3 (pc' := 32) (lv' := [(0, .ref 67), (1, .int (Int32.ofInt x1)), (2, .int (Int32.ofInt x2))]) (st' := [.int (Int32.ofInt x2), .ref 15]) rfl ?_
      refine lf_callZ 35 rfl rfl rfl rfl (gm_80 h) (fun z26 s25 h => ?_)
      refine lf_ifz_eq 91 38 rfl rfl rfl (fun c => ?_) (fun c => ?_)
      · have h := h.1 c
        refine lf_sub (l := [(0, .ref 67), (1, .int (Int32.ofInt x1)), (2, .int (Int32.ofInt x2))]) (lf_sb1 rfl (lf_sb1 rfl (lf_sb1 rfl lf_sb0))) ?_
        exact gm_96_p91 hX2 hX11 h
      · have h := h.2 c
        refine lf_seg 4 (pc' := 46) (lv' := [(0, .ref 67), (1, .int (Int32.ofInt x1)), (2, .int (Int32.ofInt x2))]) (st' := [.int (Int32.ofInt x2), .ref 17]) rfl ?_
        obtain ⟨o27, h⟩ := h
        refine lf_iald 47 4 rfl rfl rfl rfl rfl rfl o27 ?_
        refine lf_seg 4 (pc' := 55) (lv' := [(0, .ref 67), (1, .int (Int32.ofInt x1)), (2, .int (Int32.ofInt x2))]) (st' := [.int (Int32.ofInt x1), .ref 17, .int (Int32.ofInt (s25.1 17 x2))]) rfl ?_
        obtain ⟨o28, h⟩ := h
        refine lf_iald 56 4 rfl rfl rfl rfl rfl rfl o28 ?_
        obtain ⟨o29, h⟩ := h
        obtain ⟨o30, h⟩ := h
        refine lf_icmp_ne 91 59 rfl rfl rfl o29 o30 (fun c => ?_) (fun c => ?_)
        · have h := h.1 c
          refine lf_sub (l := [(0, .ref 67), (1, .int (Int32.ofInt x1)), (2, .int (Int32.ofInt x2))]) (lf_sb1 rfl (lf_sb1 rfl (lf_sb1 rfl lf_sb0))) ?_
          exact gm_96_p91 hX2 hX11 h
        · have h := h.2 c
          refine lf_seg 5 (pc' := 68) (lv' := [(0, .ref 67), (1, .int (Int32.ofInt x1)), (2, .int (Int32.ofInt x2))]) (st' := [.int (Int32.ofInt x1), .ref 16, .int (Int32.ofInt x1), .ref 16]) rfl ?_
          refine lf_iald 69 4 rfl rfl rfl rfl rfl rfl o28 ?_
          refine lf_seg 4 (pc' := 77) (lv' := [(0, .ref 67), (1, .int (Int32.ofInt x1)), (2, .int (Int32.ofInt x2))]) (st' := [.int (Int32.ofInt x2), .ref 16, .int (Int32.ofInt (s25.1 16 x1)), .int (Int32.ofInt x1), .ref 16]) rfl ?_
          refine lf_iald 78 4 rfl rfl rfl rfl rfl rfl o27 ?_
          refine lf_iadd 79 rfl rfl ?_
          refine lf_wtI ?_
          refine lf_iast 80 4 rfl rfl rfl rfl rfl rfl o28 ?_
          refine lf_as (lf_up s25.1 16 x1 (lf_w ((s25.1 16 x1) + (s25.1 16 x2))), s25.2.1, s25.2.2) rfl ?_
          refine lf_seg 6 (pc' := 88) (lv' := [(0, .ref 67), (1, .int (Int32.ofInt x1)), (2, .int (Int32.ofInt x2))]) (st' := [.int (Int32.ofInt (-1)), .int (Int32.ofInt (-1)), .int (Int32.ofInt 0), .int (Int32.ofInt x2), .ref 15]) rfl ?_
          refine lf_callV 91 rfl rfl rfl rfl (gm_69 h) (fun s31 h => ?_)
          refine lf_sub (l := [(0, .ref 67), (1, .int (Int32.ofInt x1)), (2, .int (Int32.ofInt x2))]) (lf_sb1 rfl (lf_sb1 rfl (lf_sb1 rfl lf_sb0))) ?_
          exact gm_96_p91 hX2 hX11 h
theorem gm_96_p11L {L : Nat} {xs : Nat → Int32} {d : Nat} {X2 : Int → lf_Z → Prop} {Q : lf_Z → Prop} {x1 : Int} {x2 : Int} {s : lf_Z} (hX2 : ∀ x1 s, X2 x1 s → lf_E (px_ro L xs) (d + 2) 96 2 [(0, .ref 67), (1, .int (Int32.ofInt x1))] [] s (lf_qv Q)) (h : fm_96_p11L X2 Q x1 x2 s) : lf_E (px_ro L xs) (d + 2) 96 11 [(0, .ref 67), (1, .int (Int32.ofInt x1)), (2, .int (Int32.ofInt x2))] [] s (lf_qv Q) :=
  h (fun x2 s => lf_E (px_ro L xs) (d + 2) 96 11 [(0, .ref 67), (1, .int (Int32.ofInt x1)), (2, .int (Int32.ofInt x2))] [] s (lf_qv Q)) (fun x2 s hb => gm_96_p11 hX2 (fun _ _ h => h) hb)
def fm_96_p2 (Q : lf_Z → Prop) (X2 : Int → lf_Z → Prop) (x1 : Int) (s : lf_Z) : Prop := lf_R x1 ∧ ((4 ≤ x1 → (Q s)) ∧ (¬ (4 ≤ x1) → (fm_96_p11L X2 Q x1 (x1 + 1) s)))
def fm_96_p2L (Q : lf_Z → Prop) (x1 : Int) (s : lf_Z) : Prop := ∀ X2 : Int → lf_Z → Prop, (∀ (x1 : Int) (s : lf_Z), fm_96_p2 Q X2 x1 s → X2 x1 s) → X2 x1 s
set_option maxRecDepth 100000 in
theorem gm_96_p2 {L : Nat} {xs : Nat → Int32} {d : Nat} {Q : lf_Z → Prop} {x1 : Int} {s : lf_Z} {X2 : Int → lf_Z → Prop} (hX2 : ∀ x1 s, X2 x1 s → lf_E (px_ro L xs) (d + 2) 96 2 [(0, .ref 67), (1, .int (Int32.ofInt x1))] [] s (lf_qv Q)) (h : fm_96_p2 Q X2 x1 s) : lf_E (px_ro L xs) (d + 2) 96 2 [(0, .ref 67), (1, .int (Int32.ofInt x1))] [] s (lf_qv Q) := by
  unfold fm_96_p2 at h
  refine lf_seg 2 (pc' := 4) (lv' := [(0, .ref 67), (1, .int (Int32.ofInt x1))]) (st' := [.int (Int32.ofInt 4), .int (Int32.ofInt x1)]) rfl ?_
  obtain ⟨o21, h⟩ := h
  refine lf_icmp_ge 103 7 rfl rfl rfl o21 ⟨by decide, by decide⟩ (fun c => ?_) (fun c => ?_)
  · have h := h.1 c
    exact lf_retV rfl rfl h
  · have h := h.2 c
    refine lf_seg 2 (pc' := 9) (lv' := [(0, .ref 67), (1, .int (Int32.ofInt x1))]) (st' := [.int (Int32.ofInt 1), .int (Int32.ofInt x1)]) rfl ?_
    refine lf_iadd 10 rfl rfl ?_
    refine lf_seg 1 (pc' := 11) (lv' := [(2, .int (Int32.ofInt (x1 + 1))), (0, .ref 67), (1, .int (Int32.ofInt x1))]) (st' := []) rfl ?_
    refine lf_sub (l := [(0, .ref 67), (1, .int (Int32.ofInt x1)), (2, .int (Int32.ofInt (x1 + 1)))]) (lf_sb1 rfl (lf_sb1 rfl (lf_sb1 rfl lf_sb0))) ?_
    exact gm_96_p11L hX2 h
theorem gm_96_p2L {L : Nat} {xs : Nat → Int32} {d : Nat} {Q : lf_Z → Prop} {x1 : Int} {s : lf_Z} (h : fm_96_p2L Q x1 s) : lf_E (px_ro L xs) (d + 2) 96 2 [(0, .ref 67), (1, .int (Int32.ofInt x1))] [] s (lf_qv Q) :=
  h (fun x1 s => lf_E (px_ro L xs) (d + 2) 96 2 [(0, .ref 67), (1, .int (Int32.ofInt x1))] [] s (lf_qv Q)) (fun x1 s hb => gm_96_p2 (fun _ _ h => h) hb)
def fm_96 (Q : lf_Z → Prop) (s : lf_Z) : Prop := fm_96_p2L Q 0 s
set_option maxRecDepth 100000 in
theorem gm_96 {L : Nat} {xs : Nat → Int32} {d : Nat} {Q : lf_Z → Prop} {s : lf_Z} (h : fm_96 Q s) : lf_M (px_ro L xs) (d + 2) 96 [.ref 67] s (lf_qv Q) := by
  unfold fm_96 at h
  show lf_E (px_ro L xs) (d + 2) 96 0 [(0, .ref 67)] [] s _
  refine lf_seg 2 (pc' := 2) (lv' := [(1, .int (Int32.ofInt 0)), (0, .ref 67)]) (st' := []) rfl ?_
  refine lf_sub (l := [(0, .ref 67), (1, .int (Int32.ofInt 0))]) (lf_sb1 rfl (lf_sb1 rfl lf_sb0)) ?_
  exact gm_96_p2L h
-- fm_76 Land.countWaysAt 1 i
def fm_76 (a1 : Int) (Q : Int → lf_Z → Prop) (s : lf_Z) : Prop := fm_18 a1 (fun z22 s21 => ((z22 = false → (Q 0 s21)) ∧ (z22 = true → ((0 ≤ a1 ∧ a1 < 12) ∧ (Q (s21.1 12 a1) s21))))) s
set_option maxRecDepth 100000 in
theorem gm_76 {L : Nat} {xs : Nat → Int32} {d : Nat} {a1 : Int} {Q : Int → lf_Z → Prop} {s : lf_Z} (h : fm_76 a1 Q s) : lf_M (px_ro L xs) (d + 2) 76 [.ref 1, .int (Int32.ofInt a1)] s (lf_qi Q) := by
  unfold fm_76 at h
  show lf_E (px_ro L xs) (d + 2) 76 0 [(0, .ref 1), (1, .int (Int32.ofInt a1))] [] s _
  refine lf_seg 2 (pc' := 2) (lv' := [(0, .ref 1), (1, .int (Int32.ofInt a1))]) (st' := [.int (Int32.ofInt a1), .ref 1]) rfl ?_
  refine lf_callZ 5 rfl rfl rfl rfl (gm_18 h) (fun z22 s21 h => ?_)
  refine lf_ifz_eq 17 8 rfl rfl rfl (fun c => ?_) (fun c => ?_)
  · have h := h.1 c
    refine lf_seg 1 (pc' := 18) (lv' := [(0, .ref 1), (1, .int (Int32.ofInt a1))]) (st' := [.int (Int32.ofInt 0)]) rfl ?_
    exact lf_retI rfl rfl h
  · have h := h.2 c
    refine lf_seg 3 (pc' := 13) (lv' := [(0, .ref 1), (1, .int (Int32.ofInt a1))]) (st' := [.int (Int32.ofInt a1), .ref 12]) rfl ?_
    obtain ⟨o23, h⟩ := h
    refine lf_iald 14 12 rfl rfl rfl rfl rfl rfl o23 ?_
    refine lf_seg 1 (pc' := 18) (lv' := [(0, .ref 1), (1, .int (Int32.ofInt a1))]) (st' := [.int (Int32.ofInt (s21.1 12 a1))]) rfl ?_
    exact lf_retI rfl rfl h
-- fm_77 Land.wayAt 1 i i
def fm_77 (a1 : Int) (a2 : Int) (Q : Int → lf_Z → Prop) (s : lf_Z) : Prop := fm_18 a1 (fun z22 s21 => ((z22 = false → (Q (-1) s21)) ∧ (z22 = true → (lf_R a2 ∧ ((a2 < 0 → (Q (-1) s21)) ∧ (¬ (a2 < 0) → ((0 ≤ a1 ∧ a1 < 12) ∧ (lf_R (s21.1 12 a1) ∧ ((a2 < s21.1 12 a1 → ((0 ≤ (a1 * 4) + a2 ∧ (a1 * 4) + a2 < 48) ∧ (Q (s21.1 11 ((a1 * 4) + a2)) s21))) ∧ (¬ (a2 < s21.1 12 a1) → (Q (-1) s21))))))))))) s
set_option maxRecDepth 100000 in
theorem gm_77 {L : Nat} {xs : Nat → Int32} {d : Nat} {a1 : Int} {a2 : Int} {Q : Int → lf_Z → Prop} {s : lf_Z} (h : fm_77 a1 a2 Q s) : lf_M (px_ro L xs) (d + 2) 77 [.ref 1, .int (Int32.ofInt a1), .int (Int32.ofInt a2)] s (lf_qi Q) := by
  unfold fm_77 at h
  show lf_E (px_ro L xs) (d + 2) 77 0 [(0, .ref 1), (1, .int (Int32.ofInt a1)), (2, .int (Int32.ofInt a2))] [] s _
  refine lf_seg 2 (pc' := 2) (lv' := [(0, .ref 1), (1, .int (Int32.ofInt a1)), (2, .int (Int32.ofInt a2))]) (st' := [.int (Int32.ofInt a1), .ref 1]) rfl ?_
  refine lf_callZ 5 rfl rfl rfl rfl (gm_18 h) (fun z22 s21 h => ?_)
  refine lf_ifz_eq 22 8 rfl rfl rfl (fun c => ?_) (fun c => ?_)
  · have h := h.1 c
    refine lf_seg 1 (pc' := 23) (lv' := [(0, .ref 1), (1, .int (Int32.ofInt a1)), (2, .int (Int32.ofInt a2))]) (st' := [.int (Int32.ofInt (-1))]) rfl ?_
    exact lf_retI rfl rfl h
  · have h := h.2 c
    refine lf_seg 1 (pc' := 9) (lv' := [(0, .ref 1), (1, .int (Int32.ofInt a1)), (2, .int (Int32.ofInt a2))]) (st' := [.int (Int32.ofInt a2)]) rfl ?_
    obtain ⟨o23, h⟩ := h
    refine lf_if_lt 22 12 rfl rfl rfl o23 (fun c => ?_) (fun c => ?_)
    · have h := h.1 c
      refine lf_seg 1 (pc' := 23) (lv' := [(0, .ref 1), (1, .int (Int32.ofInt a1)), (2, .int (Int32.ofInt a2))]) (st' := [.int (Int32.ofInt (-1))]) rfl ?_
      exact lf_retI rfl rfl h
    · have h := h.2 c
      refine lf_seg 4 (pc' := 18) (lv' := [(0, .ref 1), (1, .int (Int32.ofInt a1)), (2, .int (Int32.ofInt a2))]) (st' := [.int (Int32.ofInt a1), .ref 12, .int (Int32.ofInt a2)]) rfl ?_
      obtain ⟨o24, h⟩ := h
      refine lf_iald 19 12 rfl rfl rfl rfl rfl rfl o24 ?_
      obtain ⟨o25, h⟩ := h
      refine lf_icmp_lt 24 22 rfl rfl rfl o23 o25 (fun c => ?_) (fun c => ?_)
      · have h := h.1 c
        refine lf_seg 4 (pc' := 30) (lv' := [(0, .ref 1), (1, .int (Int32.ofInt a1)), (2, .int (Int32.ofInt a2))]) (st' := [.int (Int32.ofInt 4), .int (Int32.ofInt a1), .ref 11]) rfl ?_
        refine lf_imul 31 rfl rfl ?_
        refine lf_seg 1 (pc' := 32) (lv' := [(0, .ref 1), (1, .int (Int32.ofInt a1)), (2, .int (Int32.ofInt a2))]) (st' := [.int (Int32.ofInt a2), .int (Int32.ofInt (a1 * 4)), .ref 11]) rfl ?_
        refine lf_iadd 33 rfl rfl ?_
        obtain ⟨o26, h⟩ := h
        refine lf_iald 34 48 rfl rfl rfl rfl rfl rfl o26 ?_
        exact lf_retI rfl rfl h
      · have h := h.2 c
        refine lf_seg 1 (pc' := 23) (lv' := [(0, .ref 1), (1, .int (Int32.ofInt a1)), (2, .int (Int32.ofInt a2))]) (st' := [.int (Int32.ofInt (-1))]) rfl ?_
        exact lf_retI rfl rfl h
-- fm_79 Land.hasWay 1 i
def fm_79 (a1 : Int) (Q : Bool → lf_Z → Prop) (s : lf_Z) : Prop := lf_R a1 ∧ ((a1 < 0 → (Q false s)) ∧ (¬ (a1 < 0) → (lf_R (s.1 1 1) ∧ ((s.1 1 1 ≤ a1 → (Q false s)) ∧ (¬ (s.1 1 1 ≤ a1) → (Q true s))))))
set_option maxRecDepth 100000 in
theorem gm_79 {L : Nat} {xs : Nat → Int32} {d : Nat} {a1 : Int} {Q : Bool → lf_Z → Prop} {s : lf_Z} (h : fm_79 a1 Q s) : lf_M (px_ro L xs) (d + 1) 79 [.ref 1, .int (Int32.ofInt a1)] s (lf_qz Q) := by
  unfold fm_79 at h
  show lf_E (px_ro L xs) (d + 1) 79 0 [(0, .ref 1), (1, .int (Int32.ofInt a1))] [] s _
  refine lf_seg 1 (pc' := 1) (lv' := [(0, .ref 1), (1, .int (Int32.ofInt a1))]) (st' := [.int (Int32.ofInt a1)]) rfl ?_
  obtain ⟨o21, h⟩ := h
  refine lf_if_lt 16 4 rfl rfl rfl o21 (fun c => ?_) (fun c => ?_)
  · have h := h.1 c
    refine lf_seg 1 (pc' := 17) (lv' := [(0, .ref 1), (1, .int (Int32.ofInt a1))]) (st' := [.int (Int32.ofInt 0)]) rfl ?_
    exact lf_retZ false rfl rfl h
  · have h := h.2 c
    refine lf_seg 2 (pc' := 6) (lv' := [(0, .ref 1), (1, .int (Int32.ofInt a1))]) (st' := [.ref 1, .int (Int32.ofInt a1)]) rfl ?_
    refine lf_getI 9 1 rfl rfl rfl rfl rfl rfl rfl ?_
    obtain ⟨o22, h⟩ := h
    refine lf_icmp_ge 16 12 rfl rfl rfl o21 o22 (fun c => ?_) (fun c => ?_)
    · have h := h.1 c
      refine lf_seg 1 (pc' := 17) (lv' := [(0, .ref 1), (1, .int (Int32.ofInt a1))]) (st' := [.int (Int32.ofInt 0)]) rfl ?_
      exact lf_retZ false rfl rfl h
    · have h := h.2 c
      refine lf_seg 2 (pc' := 17) (lv' := [(0, .ref 1), (1, .int (Int32.ofInt a1))]) (st' := [.int (Int32.ofInt 1)]) rfl ?_
      exact lf_retZ true rfl rfl h
-- fm_78 Land.otherSide 1 i i
def fm_78 (a1 : Int) (a2 : Int) (Q : Int → lf_Z → Prop) (s : lf_Z) : Prop := fm_79 a1 (fun z22 s21 => ((z22 = true → ((0 ≤ a1 ∧ a1 < 16) ∧ (lf_R (s21.1 4 a1) ∧ (lf_R a2 ∧ ((s21.1 4 a1 ≠ a2 → (lf_R (s21.1 5 a1) ∧ ((s21.1 5 a1 ≠ a2 → (Q (-1) s21)) ∧ (¬ (s21.1 5 a1 ≠ a2) → (Q (s21.1 4 a1) s21))))) ∧ (¬ (s21.1 4 a1 ≠ a2) → (Q (s21.1 5 a1) s21))))))) ∧ (z22 = false → (Q (-1) s21)))) s
set_option maxRecDepth 100000 in
theorem gm_78 {L : Nat} {xs : Nat → Int32} {d : Nat} {a1 : Int} {a2 : Int} {Q : Int → lf_Z → Prop} {s : lf_Z} (h : fm_78 a1 a2 Q s) : lf_M (px_ro L xs) (d + 2) 78 [.ref 1, .int (Int32.ofInt a1), .int (Int32.ofInt a2)] s (lf_qi Q) := by
  unfold fm_78 at h
  show lf_E (px_ro L xs) (d + 2) 78 0 [(0, .ref 1), (1, .int (Int32.ofInt a1)), (2, .int (Int32.ofInt a2))] [] s _
  refine lf_seg 2 (pc' := 2) (lv' := [(0, .ref 1), (1, .int (Int32.ofInt a1)), (2, .int (Int32.ofInt a2))]) (st' := [.int (Int32.ofInt a1), .ref 1]) rfl ?_
  refine lf_callZ 5 rfl rfl rfl rfl (gm_79 h) (fun z22 s21 h => ?_)
  refine lf_ifz_ne 10 8 rfl rfl rfl (fun c => ?_) (fun c => ?_)
  · have h := h.1 c
    refine lf_seg 3 (pc' := 15) (lv' := [(0, .ref 1), (1, .int (Int32.ofInt a1)), (2, .int (Int32.ofInt a2))]) (st' := [.int (Int32.ofInt a1), .ref 4]) rfl ?_
    obtain ⟨o23, h⟩ := h
    refine lf_iald 16 16 rfl rfl rfl rfl rfl rfl o23 ?_
    refine lf_seg 1 (pc' := 17) (lv' := [(0, .ref 1), (1, .int (Int32.ofInt a1)), (2, .int (Int32.ofInt a2))]) (st' := [.int (Int32.ofInt a2), .int (Int32.ofInt (s21.1 4 a1))]) rfl ?_
    obtain ⟨o24, h⟩ := h
    obtain ⟨o25, h⟩ := h
    refine lf_icmp_ne 27 20 rfl rfl rfl o24 o25 (fun c => ?_) (fun c => ?_)
    · have h := h.1 c
      refine lf_seg 3 (pc' := 32) (lv' := [(0, .ref 1), (1, .int (Int32.ofInt a1)), (2, .int (Int32.ofInt a2))]) (st' := [.int (Int32.ofInt a1), .ref 5]) rfl ?_
      refine lf_iald 33 16 rfl rfl rfl rfl rfl rfl o23 ?_
      refine lf_seg 1 (pc' := 34) (lv' := [(0, .ref 1), (1, .int (Int32.ofInt a1)), (2, .int (Int32.ofInt a2))]) (st' := [.int (Int32.ofInt a2), .int (Int32.ofInt (s21.1 5 a1))]) rfl ?_
      obtain ⟨o26, h⟩ := h
      refine lf_icmp_ne 46 37 rfl rfl rfl o26 o25 (fun c => ?_) (fun c => ?_)
      · have h := h.1 c
        refine lf_seg 1 (pc' := 47) (lv' := [(0, .ref 1), (1, .int (Int32.ofInt a1)), (2, .int (Int32.ofInt a2))]) (st' := [.int (Int32.ofInt (-1))]) rfl ?_
        exact lf_retI rfl rfl h
      · have h := h.2 c
        refine lf_seg 3 (pc' := 42) (lv' := [(0, .ref 1), (1, .int (Int32.ofInt a1)), (2, .int (Int32.ofInt a2))]) (st' := [.int (Int32.ofInt a1), .ref 4]) rfl ?_
        refine lf_iald 43 16 rfl rfl rfl rfl rfl rfl o23 ?_
        refine lf_seg 1 (pc' := 47) (lv' := [(0, .ref 1), (1, .int (Int32.ofInt a1)), (2, .int (Int32.ofInt a2))]) (st' := [.int (Int32.ofInt (s21.1 4 a1))]) rfl ?_
        exact lf_retI rfl rfl h
    · have h := h.2 c
      refine lf_seg 3 (pc' := 25) (lv' := [(0, .ref 1), (1, .int (Int32.ofInt a1)), (2, .int (Int32.ofInt a2))]) (st' := [.int (Int32.ofInt a1), .ref 5]) rfl ?_
      refine lf_iald 26 16 rfl rfl rfl rfl rfl rfl o23 ?_
      exact lf_retI rfl rfl h
  · have h := h.2 c
    refine lf_seg 1 (pc' := 9) (lv' := [(0, .ref 1), (1, .int (Int32.ofInt a1)), (2, .int (Int32.ofInt a2))]) (st' := [.int (Int32.ofInt (-1))]) rfl ?_
    exact lf_retI rfl rfl h
-- fm_89 Land.hasGate 1 i
def fm_89 (a1 : Int) (Q : Bool → lf_Z → Prop) (s : lf_Z) : Prop := lf_R a1 ∧ ((a1 < 0 → (Q false s)) ∧ (¬ (a1 < 0) → (lf_R (s.1 1 1) ∧ ((s.1 1 1 ≤ a1 → (Q false s)) ∧ (¬ (s.1 1 1 ≤ a1) → ((0 ≤ a1 ∧ a1 < 16) ∧ (lf_R (s.1 6 a1) ∧ ((s.1 6 a1 ≠ 0 → (Q false s)) ∧ (¬ (s.1 6 a1 ≠ 0) → (Q true s))))))))))
set_option maxRecDepth 100000 in
theorem gm_89 {L : Nat} {xs : Nat → Int32} {d : Nat} {a1 : Int} {Q : Bool → lf_Z → Prop} {s : lf_Z} (h : fm_89 a1 Q s) : lf_M (px_ro L xs) (d + 1) 89 [.ref 1, .int (Int32.ofInt a1)] s (lf_qz Q) := by
  unfold fm_89 at h
  show lf_E (px_ro L xs) (d + 1) 89 0 [(0, .ref 1), (1, .int (Int32.ofInt a1))] [] s _
  refine lf_seg 1 (pc' := 1) (lv' := [(0, .ref 1), (1, .int (Int32.ofInt a1))]) (st' := [.int (Int32.ofInt a1)]) rfl ?_
  obtain ⟨o21, h⟩ := h
  refine lf_if_lt 25 4 rfl rfl rfl o21 (fun c => ?_) (fun c => ?_)
  · have h := h.1 c
    refine lf_seg 1 (pc' := 26) (lv' := [(0, .ref 1), (1, .int (Int32.ofInt a1))]) (st' := [.int (Int32.ofInt 0)]) rfl ?_
    exact lf_retZ false rfl rfl h
  · have h := h.2 c
    refine lf_seg 2 (pc' := 6) (lv' := [(0, .ref 1), (1, .int (Int32.ofInt a1))]) (st' := [.ref 1, .int (Int32.ofInt a1)]) rfl ?_
    refine lf_getI 9 1 rfl rfl rfl rfl rfl rfl rfl ?_
    obtain ⟨o22, h⟩ := h
    refine lf_icmp_ge 25 12 rfl rfl rfl o21 o22 (fun c => ?_) (fun c => ?_)
    · have h := h.1 c
      refine lf_seg 1 (pc' := 26) (lv' := [(0, .ref 1), (1, .int (Int32.ofInt a1))]) (st' := [.int (Int32.ofInt 0)]) rfl ?_
      exact lf_retZ false rfl rfl h
    · have h := h.2 c
      refine lf_seg 3 (pc' := 17) (lv' := [(0, .ref 1), (1, .int (Int32.ofInt a1))]) (st' := [.int (Int32.ofInt a1), .ref 6]) rfl ?_
      obtain ⟨o23, h⟩ := h
      refine lf_zald 18 16 rfl rfl rfl rfl rfl rfl o23 ?_
      obtain ⟨o24, h⟩ := h
      refine lf_if_ne 25 21 rfl rfl rfl o24 (fun c => ?_) (fun c => ?_)
      · have h := h.1 c
        refine lf_seg 1 (pc' := 26) (lv' := [(0, .ref 1), (1, .int (Int32.ofInt a1))]) (st' := [.int (Int32.ofInt 0)]) rfl ?_
        exact lf_retZ false rfl rfl h
      · have h := h.2 c
        refine lf_seg 2 (pc' := 26) (lv' := [(0, .ref 1), (1, .int (Int32.ofInt a1))]) (st' := [.int (Int32.ofInt 1)]) rfl ?_
        exact lf_retZ true rfl rfl h
-- fm_90 Stand.isOpen 15 i
def fm_90 (a1 : Int) (Q : Bool → lf_Z → Prop) (s : lf_Z) : Prop := (lf_and (lf_shr (s.1 15 6) a1) 1 ≠ 0 → (Q false s)) ∧ (¬ (lf_and (lf_shr (s.1 15 6) a1) 1 ≠ 0) → (Q true s))
set_option maxRecDepth 100000 in
theorem gm_90 {L : Nat} {xs : Nat → Int32} {d : Nat} {a1 : Int} {Q : Bool → lf_Z → Prop} {s : lf_Z} (h : fm_90 a1 Q s) : lf_M (px_ro L xs) (d + 1) 90 [.ref 15, .int (Int32.ofInt a1)] s (lf_qz Q) := by
  unfold fm_90 at h
  show lf_E (px_ro L xs) (d + 1) 90 0 [(0, .ref 15), (1, .int (Int32.ofInt a1))] [] s _
  refine lf_seg 1 (pc' := 1) (lv' := [(0, .ref 15), (1, .int (Int32.ofInt a1))]) (st' := [.ref 15]) rfl ?_
  refine lf_getI 4 6 rfl rfl rfl rfl rfl rfl rfl ?_
  refine lf_seg 1 (pc' := 5) (lv' := [(0, .ref 15), (1, .int (Int32.ofInt a1))]) (st' := [.int (Int32.ofInt a1), .int (Int32.ofInt (s.1 15 6))]) rfl ?_
  refine lf_ishr 6 rfl rfl ?_
  refine lf_seg 1 (pc' := 7) (lv' := [(0, .ref 15), (1, .int (Int32.ofInt a1))]) (st' := [.int (Int32.ofInt 1), .int (Int32.ofInt (lf_shr (s.1 15 6) a1))]) rfl ?_
  refine lf_iand 8 rfl rfl ?_
  refine lf_if_ne 15 11 rfl rfl rfl lf_Rand (fun c => ?_) (fun c => ?_)
  · have h := h.1 c
    refine lf_seg 1 (pc' := 16) (lv' := [(0, .ref 15), (1, .int (Int32.ofInt a1))]) (st' := [.int (Int32.ofInt 0)]) rfl ?_
    exact lf_retZ false rfl rfl h
  · have h := h.2 c
    refine lf_seg 2 (pc' := 16) (lv' := [(0, .ref 15), (1, .int (Int32.ofInt a1))]) (st' := [.int (Int32.ofInt 1)]) rfl ?_
    exact lf_retZ true rfl rfl h
-- fm_83 Laws.peopleAt 63 i
def fm_83_p31 (X4 : Int → Int → lf_Z → Prop) (Q : Int → lf_Z → Prop) (x1 : Int) (x2 : Int) (x3 : Int) (s : lf_Z) : Prop := X4 x2 (x3 + 1) s
set_option maxRecDepth 100000 in
theorem gm_83_p31 {L : Nat} {xs : Nat → Int32} {d : Nat} {X4 : Int → Int → lf_Z → Prop} {Q : Int → lf_Z → Prop} {x1 : Int} {x2 : Int} {x3 : Int} {s : lf_Z} (hX4 : ∀ x2 x3 s, X4 x2 x3 s → lf_E (px_ro L xs) (d + 1) 83 4 [(0, .ref 63), (1, .int (Int32.ofInt x1)), (2, .int (Int32.ofInt x2)), (3, .int (Int32.ofInt x3))] [] s (lf_qi Q)) (h : fm_83_p31 X4 Q x1 x2 x3 s) : lf_E (px_ro L xs) (d + 1) 83 31 [(0, .ref 63), (1, .int (Int32.ofInt x1)), (2, .int (Int32.ofInt x2)), (3, .int (Int32.ofInt x3))] [] s (lf_qi Q) := by
  unfold fm_83_p31 at h
  refine lf_iinc 34 rfl rfl rfl rfl ?_
  refine lf_seg 1 (pc' := 4) (lv' := [(3, .int (Int32.ofInt (x3 + 1))), (0, .ref 63), (1, .int (Int32.ofInt x1)), (2, .int (Int32.ofInt x2))]) (st' := []) rfl ?_
  refine lf_sub (l := [(0, .ref 63), (1, .int (Int32.ofInt x1)), (2, .int (Int32.ofInt x2)), (3, .int (Int32.ofInt (x3 + 1)))]) (lf_sb1 rfl (lf_sb1 rfl (lf_sb1 rfl (lf_sb1 rfl lf_sb0)))) ?_
  exact hX4 _ _ _ h
def fm_83_p4 (Q : Int → lf_Z → Prop) (x1 : Int) (X4 : Int → Int → lf_Z → Prop) (x2 : Int) (x3 : Int) (s : lf_Z) : Prop := lf_R x3 ∧ (lf_R (s.1 1 2) ∧ ((s.1 1 2 ≤ x3 → (Q x2 s)) ∧ (¬ (s.1 1 2 ≤ x3) → ((0 ≤ x3 ∧ x3 < 6) ∧ (lf_R (s.1 19 x3) ∧ (lf_R x1 ∧ ((s.1 19 x3 ≠ x1 → (fm_83_p31 X4 Q x1 x2 x3 s)) ∧ (¬ (s.1 19 x3 ≠ x1) → (fm_83_p31 X4 Q x1 (x2 + 1) x3 s)))))))))
def fm_83_p4L (Q : Int → lf_Z → Prop) (x1 : Int) (x2 : Int) (x3 : Int) (s : lf_Z) : Prop := ∀ X4 : Int → Int → lf_Z → Prop, (∀ (x2 : Int) (x3 : Int) (s : lf_Z), fm_83_p4 Q x1 X4 x2 x3 s → X4 x2 x3 s) → X4 x2 x3 s
set_option maxRecDepth 100000 in
theorem gm_83_p4 {L : Nat} {xs : Nat → Int32} {d : Nat} {Q : Int → lf_Z → Prop} {x1 : Int} {x2 : Int} {x3 : Int} {s : lf_Z} {X4 : Int → Int → lf_Z → Prop} (hX4 : ∀ x2 x3 s, X4 x2 x3 s → lf_E (px_ro L xs) (d + 1) 83 4 [(0, .ref 63), (1, .int (Int32.ofInt x1)), (2, .int (Int32.ofInt x2)), (3, .int (Int32.ofInt x3))] [] s (lf_qi Q)) (h : fm_83_p4 Q x1 X4 x2 x3 s) : lf_E (px_ro L xs) (d + 1) 83 4 [(0, .ref 63), (1, .int (Int32.ofInt x1)), (2, .int (Int32.ofInt x2)), (3, .int (Int32.ofInt x3))] [] s (lf_qi Q) := by
  unfold fm_83_p4 at h
  refine lf_seg 3 (pc' := 9) (lv' := [(0, .ref 63), (1, .int (Int32.ofInt x1)), (2, .int (Int32.ofInt x2)), (3, .int (Int32.ofInt x3))]) (st' := [.ref 1, .int (Int32.ofInt x3)]) rfl ?_
  refine lf_getI 12 2 rfl rfl rfl rfl rfl rfl rfl ?_
  obtain ⟨o21, h⟩ := h
  obtain ⟨o22, h⟩ := h
  refine lf_icmp_ge 37 15 rfl rfl rfl o21 o22 (fun c => ?_) (fun c => ?_)
  · have h := h.1 c
    refine lf_seg 1 (pc' := 38) (lv' := [(0, .ref 63), (1, .int (Int32.ofInt x1)), (2, .int (Int32.ofInt x2)), (3, .int (Int32.ofInt x3))]) (st' := [.int (Int32.ofInt x2)]) rfl ?_
    exact lf_retI rfl rfl h
  · have h := h.2 c
    refine lf_seg 4 (pc' := 23) (lv' := [(0, .ref 63), (1, .int (Int32.ofInt x1)), (2, .int (Int32.ofInt x2)), (3, .int (Int32.ofInt x3))]) (st' := [.int (Int32.ofInt x3), .ref 19]) rfl ?_
    obtain ⟨o23, h⟩ := h
    refine lf_iald 24 6 rfl rfl rfl rfl rfl rfl o23 ?_
    refine lf_seg 1 (pc' := 25) (lv' := [(0, .ref 63), (1, .int (Int32.ofInt x1)), (2, .int (Int32.ofInt x2)), (3, .int (Int32.ofInt x3))]) (st' := [.int (Int32.ofInt x1), .int (Int32.ofInt (s.1 19 x3))]) rfl ?_
    obtain ⟨o24, h⟩ := h
    obtain ⟨o25, h⟩ := h
    refine lf_icmp_ne 31 28 rfl rfl rfl o24 o25 (fun c => ?_) (fun c => ?_)
    · have h := h.1 c
      refine lf_sub (l := [(0, .ref 63), (1, .int (Int32.ofInt x1)), (2, .int (Int32.ofInt x2)), (3, .int (Int32.ofInt x3))]) (lf_sb1 rfl (lf_sb1 rfl (lf_sb1 rfl (lf_sb1 rfl lf_sb0)))) ?_
      exact gm_83_p31 hX4 h
    · have h := h.2 c
      refine lf_iinc 31 rfl rfl rfl rfl ?_
      refine lf_seg 0 (pc' := 31) (lv' := [(2, .int (Int32.ofInt (x2 + 1))), (0, .ref 63), (1, .int (Int32.ofInt x1)), (3, .int (Int32.ofInt x3))]) (st' := []) rfl ?_
      refine lf_sub (l := [(0, .ref 63), (1, .int (Int32.ofInt x1)), (2, .int (Int32.ofInt (x2 + 1))), (3, .int (Int32.ofInt x3))]) (lf_sb1 rfl (lf_sb1 rfl (lf_sb1 rfl (lf_sb1 rfl lf_sb0)))) ?_
      exact gm_83_p31 hX4 h
theorem gm_83_p4L {L : Nat} {xs : Nat → Int32} {d : Nat} {Q : Int → lf_Z → Prop} {x1 : Int} {x2 : Int} {x3 : Int} {s : lf_Z} (h : fm_83_p4L Q x1 x2 x3 s) : lf_E (px_ro L xs) (d + 1) 83 4 [(0, .ref 63), (1, .int (Int32.ofInt x1)), (2, .int (Int32.ofInt x2)), (3, .int (Int32.ofInt x3))] [] s (lf_qi Q) :=
  h (fun x2 x3 s => lf_E (px_ro L xs) (d + 1) 83 4 [(0, .ref 63), (1, .int (Int32.ofInt x1)), (2, .int (Int32.ofInt x2)), (3, .int (Int32.ofInt x3))] [] s (lf_qi Q)) (fun x2 x3 s hb => gm_83_p4 (fun _ _ _ h => h) hb)
def fm_83 (a1 : Int) (Q : Int → lf_Z → Prop) (s : lf_Z) : Prop := fm_83_p4L Q a1 0 0 s
set_option maxRecDepth 100000 in
theorem gm_83 {L : Nat} {xs : Nat → Int32} {d : Nat} {a1 : Int} {Q : Int → lf_Z → Prop} {s : lf_Z} (h : fm_83 a1 Q s) : lf_M (px_ro L xs) (d + 1) 83 [.ref 63, .int (Int32.ofInt a1)] s (lf_qi Q) := by
  unfold fm_83 at h
  show lf_E (px_ro L xs) (d + 1) 83 0 [(0, .ref 63), (1, .int (Int32.ofInt a1))] [] s _
  refine lf_seg 4 (pc' := 4) (lv' := [(3, .int (Int32.ofInt 0)), (2, .int (Int32.ofInt 0)), (0, .ref 63), (1, .int (Int32.ofInt a1))]) (st' := []) rfl ?_
  refine lf_sub (l := [(0, .ref 63), (1, .int (Int32.ofInt a1)), (2, .int (Int32.ofInt 0)), (3, .int (Int32.ofInt 0))]) (lf_sb1 rfl (lf_sb1 rfl (lf_sb1 rfl (lf_sb1 rfl lf_sb0)))) ?_
  exact gm_83_p4L h
-- fm_82 Laws.nameAll 63 i i i
def fm_82_p43 (Q : lf_Z → Prop) (x2 : Int) (x3 : Int) (y1 : Int) (y2 : Int) (s : lf_Z) : Prop := (0 ≤ y1 ∧ y1 < 11) ∧ (fm_83 x2 (fun r25 s24 => (Q (lf_up s24.1 64 3 (r25 + x3), s24.2.1, s24.2.2))) (lf_up s.1 64 y1 y2, s.2.1, s.2.2))
set_option maxRecDepth 100000 in
theorem gm_82_p43 {L : Nat} {xs : Nat → Int32} {d : Nat} {Q : lf_Z → Prop} {x2 : Int} {x3 : Int} {y1 : Int} {y2 : Int} {s : lf_Z} (h : fm_82_p43 Q x2 x3 y1 y2 s) : lf_E (px_ro L xs) (d + 2) 82 43 [(0, .ref 63), (2, .int (Int32.ofInt x2)), (3, .int (Int32.ofInt x3))] [.int (Int32.ofInt y2), .int (Int32.ofInt y1), .ref 64] s (lf_qv Q) := by
  unfold fm_82_p43 at h
  obtain ⟨o23, h⟩ := h
  refine lf_iast 44 11 rfl rfl rfl rfl rfl rfl o23 ?_
  refine lf_as (lf_up s.1 64 y1 y2, s.2.1, s.2.2) rfl ?_
  refine lf_seg 5 (pc' := 51) (lv' := [(0, .ref 63), (2, .int (Int32.ofInt x2)), (3, .int (Int32.ofInt x3))]) (st' := [.int (Int32.ofInt x2), .ref 63, .int (Int32.ofInt 3), .ref 64]) rfl ?_
  refine lf_callI 54 rfl rfl rfl rfl (gm_83 h) (fun r25 s24 h => ?_)
  refine lf_seg 1 (pc' := 55) (lv' := [(0, .ref 63), (2, .int (Int32.ofInt x2)), (3, .int (Int32.ofInt x3))]) (st' := [.int (Int32.ofInt x3), .int (Int32.ofInt r25), .int (Int32.ofInt 3), .ref 64]) rfl ?_
  refine lf_iadd 56 rfl rfl ?_
  refine lf_iast 57 11 rfl rfl rfl rfl rfl rfl ⟨by decide, by decide⟩ ?_
  refine lf_as (lf_up s24.1 64 3 (r25 + x3), s24.2.1, s24.2.2) rfl ?_
  exact lf_retV rfl rfl h
def fm_82 (a1 : Int) (a2 : Int) (a3 : Int) (Q : lf_Z → Prop) (s : lf_Z) : Prop := fm_18 a2 (fun z22 s21 => ((z22 = false → (fm_82_p43 Q a2 a3 2 0 s21)) ∧ (z22 = true → ((0 ≤ a2 ∧ a2 < 12) ∧ (fm_82_p43 Q a2 a3 2 (s21.1 2 a2) s21))))) (lf_up (lf_up s.1 64 0 a1) 64 1 a2, s.2.1, s.2.2)
set_option maxRecDepth 100000 in
theorem gm_82 {L : Nat} {xs : Nat → Int32} {d : Nat} {a1 : Int} {a2 : Int} {a3 : Int} {Q : lf_Z → Prop} {s : lf_Z} (h : fm_82 a1 a2 a3 Q s) : lf_M (px_ro L xs) (d + 2) 82 [.ref 63, .int (Int32.ofInt a1), .int (Int32.ofInt a2), .int (Int32.ofInt a3)] s (lf_qv Q) := by
  unfold fm_82 at h
  show lf_E (px_ro L xs) (d + 2) 82 0 [(0, .ref 63), (1, .int (Int32.ofInt a1)), (2, .int (Int32.ofInt a2)), (3, .int (Int32.ofInt a3))] [] s _
  refine lf_seg 4 (pc' := 6) (lv' := [(0, .ref 63), (1, .int (Int32.ofInt a1)), (2, .int (Int32.ofInt a2)), (3, .int (Int32.ofInt a3))]) (st' := [.int (Int32.ofInt a1), .int (Int32.ofInt 0), .ref 64]) rfl ?_
  refine lf_iast 7 11 rfl rfl rfl rfl rfl rfl ⟨by decide, by decide⟩ ?_
  refine lf_as (lf_up s.1 64 0 a1, s.2.1, s.2.2) rfl ?_
  refine lf_seg 4 (pc' := 13) (lv' := [(0, .ref 63), (1, .int (Int32.ofInt a1)), (2, .int (Int32.ofInt a2)), (3, .int (Int32.ofInt a3))]) (st' := [.int (Int32.ofInt a2), .int (Int32.ofInt 1), .ref 64]) rfl ?_
  refine lf_iast 14 11 rfl rfl rfl rfl rfl rfl ⟨by decide, by decide⟩ ?_
  refine lf_as (lf_up (lf_up s.1 64 0 a1) 64 1 a2, s.2.1, s.2.2) rfl ?_
  refine lf_seg 6 (pc' := 24) (lv' := [(0, .ref 63), (1, .int (Int32.ofInt a1)), (2, .int (Int32.ofInt a2)), (3, .int (Int32.ofInt a3))]) (st' := [.int (Int32.ofInt a2), .ref 1, .int (Int32.ofInt 2), .ref 64]) rfl ?_
  refine lf_callZ 27 rfl rfl rfl rfl (gm_18 h) (fun z22 s21 h => ?_)
  refine lf_ifz_eq 42 30 rfl rfl rfl (fun c => ?_) (fun c => ?_)
  · have h := h.1 c
    refine lf_seg 1 (pc' := 43) (lv' := [(0, .ref 63), (1, .int (Int32.ofInt a1)), (2, .int (Int32.ofInt a2)), (3, .int (Int32.ofInt a3))]) (st' := [.int (Int32.ofInt 0), .int (Int32.ofInt 2), .ref 64]) rfl ?_
    refine lf_sub (l := [(0, .ref 63), (2, .int (Int32.ofInt a2)), (3, .int (Int32.ofInt a3))]) (lf_sb1 rfl (lf_sb1 rfl (lf_sb1 rfl lf_sb0))) ?_
    exact gm_82_p43 h
  · have h := h.2 c
    refine lf_seg 4 (pc' := 38) (lv' := [(0, .ref 63), (1, .int (Int32.ofInt a1)), (2, .int (Int32.ofInt a2)), (3, .int (Int32.ofInt a3))]) (st' := [.int (Int32.ofInt a2), .ref 2, .int (Int32.ofInt 2), .ref 64]) rfl ?_
    obtain ⟨o26, h⟩ := h
    refine lf_iald 39 12 rfl rfl rfl rfl rfl rfl o26 ?_
    refine lf_seg 1 (pc' := 43) (lv' := [(0, .ref 63), (1, .int (Int32.ofInt a1)), (2, .int (Int32.ofInt a2)), (3, .int (Int32.ofInt a3))]) (st' := [.int (Int32.ofInt (s21.1 2 a2)), .int (Int32.ofInt 2), .ref 64]) rfl ?_
    refine lf_sub (l := [(0, .ref 63), (2, .int (Int32.ofInt a2)), (3, .int (Int32.ofInt a3))]) (lf_sb1 rfl (lf_sb1 rfl (lf_sb1 rfl lf_sb0))) ?_
    exact gm_82_p43 h
-- fm_84 Laws.answer 63 n i
def fm_84 (a2 : Int) (Q : Int → lf_Z → Prop) (s : lf_Z) : Prop := False
set_option maxRecDepth 100000 in
theorem gm_84 {L : Nat} {xs : Nat → Int32} {d : Nat} {a2 : Int} {Q : Int → lf_Z → Prop} {s : lf_Z} (h : fm_84 a2 Q s) : lf_M (px_ro L xs) (d + 1) 84 [.ref 63, .null, .int (Int32.ofInt a2)] s (lf_qi Q) := by
  unfold fm_84 at h
  show lf_E (px_ro L xs) (d + 1) 84 0 [(0, .ref 63), (1, .null), (2, .int (Int32.ofInt a2))] [] s _
  refine lf_seg 2 (pc' := 2) (lv' := [(0, .ref 63), (1, .null), (2, .int (Int32.ofInt a2))]) (st' := [.int (Int32.ofInt 0), .ref 63]) rfl ?_
  refine lf_putI 5 6 rfl rfl rfl rfl rfl rfl rfl rfl ?_
  refine lf_as (lf_up s.1 63 6 0, s.2.1, s.2.2) rfl ?_
  refine lf_seg 1 (pc' := 6) (lv' := [(0, .ref 63), (1, .null), (2, .int (Int32.ofInt a2))]) (st' := [.null]) rfl ?_
  exact h.elim
-- fm_86 Laws.pop 63
def fm_86 (Q : Int → lf_Z → Prop) (s : lf_Z) : Prop := lf_R (s.1 63 6) ∧ ((s.1 63 6 ≠ 0 → ((0 ≤ (s.1 63 6) - 1 ∧ (s.1 63 6) - 1 < 300) ∧ (Q (s.1 66 ((s.1 63 6) - 1)) (lf_up s.1 63 6 ((s.1 63 6) - 1), s.2.1, s.2.2)))) ∧ (¬ (s.1 63 6 ≠ 0) → (Q 0 s)))
set_option maxRecDepth 100000 in
theorem gm_86 {L : Nat} {xs : Nat → Int32} {d : Nat} {Q : Int → lf_Z → Prop} {s : lf_Z} (h : fm_86 Q s) : lf_M (px_ro L xs) (d + 1) 86 [.ref 63] s (lf_qi Q) := by
  unfold fm_86 at h
  show lf_E (px_ro L xs) (d + 1) 86 0 [(0, .ref 63)] [] s _
  refine lf_seg 1 (pc' := 1) (lv' := [(0, .ref 63)]) (st' := [.ref 63]) rfl ?_
  refine lf_getI 4 6 rfl rfl rfl rfl rfl rfl rfl ?_
  obtain ⟨o21, h⟩ := h
  refine lf_if_ne 9 7 rfl rfl rfl o21 (fun c => ?_) (fun c => ?_)
  · have h := h.1 c
    refine lf_seg 2 (pc' := 11) (lv' := [(0, .ref 63)]) (st' := [.ref 63, .ref 63]) rfl ?_
    refine lf_getI 14 6 rfl rfl rfl rfl rfl rfl rfl ?_
    refine lf_seg 1 (pc' := 15) (lv' := [(0, .ref 63)]) (st' := [.int (Int32.ofInt 1), .int (Int32.ofInt (s.1 63 6)), .ref 63]) rfl ?_
    refine lf_isub 16 rfl rfl ?_
    refine lf_putI 19 6 rfl rfl rfl rfl rfl rfl rfl rfl ?_
    refine lf_as (lf_up s.1 63 6 ((s.1 63 6) - 1), s.2.1, s.2.2) rfl ?_
    refine lf_seg 3 (pc' := 24) (lv' := [(0, .ref 63)]) (st' := [.ref 63, .ref 66]) rfl ?_
    refine lf_getI 27 6 rfl rfl rfl rfl rfl rfl rfl ?_
    refine lf_seg 0 (pc' := 27) (lv' := [(0, .ref 63)]) (st' := [.int (Int32.ofInt ((s.1 63 6) - 1)), .ref 66]) rfl ?_
    obtain ⟨o22, h⟩ := h
    refine lf_iald 28 300 rfl rfl rfl rfl rfl rfl o22 ?_
    refine lf_seg 0 (pc' := 28) (lv' := [(0, .ref 63)]) (st' := [.int (Int32.ofInt (s.1 66 ((s.1 63 6) - 1)))]) rfl ?_
    exact lf_retI rfl rfl h
  · have h := h.2 c
    refine lf_seg 1 (pc' := 8) (lv' := [(0, .ref 63)]) (st' := [.int (Int32.ofInt 0)]) rfl ?_
    exact lf_retI rfl rfl h
-- fm_87 Laws.joined i i i
def fm_87_p310 (Q : Int → lf_Z → Prop) (x1 : Int) (x2 : Int) (s : lf_Z) : Prop := lf_R x1 ∧ (lf_R x2 ∧ ((x1 = x2 → (Q 0 s)) ∧ (¬ (x1 = x2) → (Q 1 s))))
set_option maxRecDepth 100000 in
theorem gm_87_p310 {L : Nat} {xs : Nat → Int32} {d : Nat} {Q : Int → lf_Z → Prop} {x1 : Int} {x2 : Int} {s : lf_Z} (h : fm_87_p310 Q x1 x2 s) : lf_E (px_ro L xs) (d + 1) 87 310 [(1, .int (Int32.ofInt x1)), (2, .int (Int32.ofInt x2))] [] s (lf_qi Q) := by
  unfold fm_87_p310 at h
  refine lf_seg 2 (pc' := 312) (lv' := [(1, .int (Int32.ofInt x1)), (2, .int (Int32.ofInt x2))]) (st' := [.int (Int32.ofInt x2), .int (Int32.ofInt x1)]) rfl ?_
  obtain ⟨o22, h⟩ := h
  obtain ⟨o23, h⟩ := h
  refine lf_icmp_eq 319 315 rfl rfl rfl o22 o23 (fun c => ?_) (fun c => ?_)
  · have h := h.1 c
    refine lf_seg 1 (pc' := 320) (lv' := [(1, .int (Int32.ofInt x1)), (2, .int (Int32.ofInt x2))]) (st' := [.int (Int32.ofInt 0)]) rfl ?_
    exact lf_retI rfl rfl h
  · have h := h.2 c
    refine lf_seg 2 (pc' := 320) (lv' := [(1, .int (Int32.ofInt x1)), (2, .int (Int32.ofInt x2))]) (st' := [.int (Int32.ofInt 1)]) rfl ?_
    exact lf_retI rfl rfl h
def fm_87 (a0 : Int) (a1 : Int) (a2 : Int) (Q : Int → lf_Z → Prop) (s : lf_Z) : Prop := lf_R a0 ∧ ((a0 < 4 ∨ 46 < a0 → (fm_87_p310 Q a1 a2 s)) ∧ (a0 = 4 → (lf_R a1 ∧ (lf_R a2 ∧ ((a2 ≤ a1 → (Q 0 s)) ∧ (¬ (a2 ≤ a1) → (Q 1 s)))))) ∧ (a0 = 5 → (lf_R a1 ∧ (lf_R a2 ∧ ((a2 < a1 → (Q 0 s)) ∧ (¬ (a2 < a1) → (Q 1 s)))))) ∧ (a0 = 6 → (lf_R a1 ∧ (lf_R a2 ∧ ((a1 ≤ a2 → (Q 0 s)) ∧ (¬ (a1 ≤ a2) → (Q 1 s)))))) ∧ (a0 = 7 → (lf_R a1 ∧ (lf_R a2 ∧ ((a1 < a2 → (Q 0 s)) ∧ (¬ (a1 < a2) → (Q 1 s)))))) ∧ (a0 = 8 → (lf_R a1 ∧ (lf_R a2 ∧ ((a1 ≠ a2 → (Q 0 s)) ∧ (¬ (a1 ≠ a2) → (Q 1 s)))))) ∧ (a0 = 9 → (fm_87_p310 Q a1 a2 s)) ∧ (a0 = 10 → (lf_R (min 1000000 (lf_w (a1 + a2))) ∧ (Q (max (-1000000) (min 1000000 (lf_w (a1 + a2)))) s))) ∧ (a0 = 11 → (lf_R (min 1000000 (lf_w (a1 - a2))) ∧ (Q (max (-1000000) (min 1000000 (lf_w (a1 - a2)))) s))) ∧ (a0 = 12 → (lf_R a1 ∧ (lf_R a2 ∧ (Q (lf_w (lf_wl (max (-1000000) (lf_wl (min 1000000 (lf_wl (a1 * a2))))))) s)))) ∧ (a0 = 13 → (lf_R a2 ∧ ((a2 ≠ 0 → (lf_R a1 ∧ (a2 ≠ 0 ∧ (Q (lf_w (a1.tdiv a2)) s)))) ∧ (¬ (a2 ≠ 0) → (Q 0 s))))) ∧ (a0 = 14 → (fm_87_p310 Q a1 a2 s)) ∧ (a0 = 15 → (fm_87_p310 Q a1 a2 s)) ∧ (a0 = 16 → (fm_87_p310 Q a1 a2 s)) ∧ (a0 = 17 → (fm_87_p310 Q a1 a2 s)) ∧ (a0 = 18 → (fm_87_p310 Q a1 a2 s)) ∧ (a0 = 19 → (fm_87_p310 Q a1 a2 s)) ∧ (a0 = 20 → (fm_87_p310 Q a1 a2 s)) ∧ (a0 = 21 → (fm_87_p310 Q a1 a2 s)) ∧ (a0 = 22 → (fm_87_p310 Q a1 a2 s)) ∧ (a0 = 23 → (fm_87_p310 Q a1 a2 s)) ∧ (a0 = 24 → (fm_87_p310 Q a1 a2 s)) ∧ (a0 = 25 → (fm_87_p310 Q a1 a2 s)) ∧ (a0 = 26 → (fm_87_p310 Q a1 a2 s)) ∧ (a0 = 27 → (fm_87_p310 Q a1 a2 s)) ∧ (a0 = 28 → (fm_87_p310 Q a1 a2 s)) ∧ (a0 = 29 → (fm_87_p310 Q a1 a2 s)) ∧ (a0 = 30 → (fm_87_p310 Q a1 a2 s)) ∧ (a0 = 31 → (fm_87_p310 Q a1 a2 s)) ∧ (a0 = 32 → (fm_87_p310 Q a1 a2 s)) ∧ (a0 = 33 → (fm_87_p310 Q a1 a2 s)) ∧ (a0 = 34 → (fm_87_p310 Q a1 a2 s)) ∧ (a0 = 35 → (fm_87_p310 Q a1 a2 s)) ∧ (a0 = 36 → (fm_87_p310 Q a1 a2 s)) ∧ (a0 = 37 → (fm_87_p310 Q a1 a2 s)) ∧ (a0 = 38 → (fm_87_p310 Q a1 a2 s)) ∧ (a0 = 39 → (fm_87_p310 Q a1 a2 s)) ∧ (a0 = 40 → (fm_87_p310 Q a1 a2 s)) ∧ (a0 = 41 → (fm_87_p310 Q a1 a2 s)) ∧ (a0 = 42 → (fm_87_p310 Q a1 a2 s)) ∧ (a0 = 43 → (fm_87_p310 Q a1 a2 s)) ∧ (a0 = 44 → (fm_87_p310 Q a1 a2 s)) ∧ (a0 = 45 → (Q (lf_and a1 a2) s)) ∧ (a0 = 46 → (Q (lf_or a1 a2) s)))
set_option maxRecDepth 100000 in
theorem gm_87 {L : Nat} {xs : Nat → Int32} {d : Nat} {a0 : Int} {a1 : Int} {a2 : Int} {Q : Int → lf_Z → Prop} {s : lf_Z} (h : fm_87 a0 a1 a2 Q s) : lf_M (px_ro L xs) (d + 1) 87 [.int (Int32.ofInt a0), .int (Int32.ofInt a1), .int (Int32.ofInt a2)] s (lf_qi Q) := by
  unfold fm_87 at h
  show lf_E (px_ro L xs) (d + 1) 87 0 [(0, .int (Int32.ofInt a0)), (1, .int (Int32.ofInt a1)), (2, .int (Int32.ofInt a2))] [] s _
  refine lf_seg 1 (pc' := 1) (lv' := [(0, .int (Int32.ofInt a0)), (1, .int (Int32.ofInt a1)), (2, .int (Int32.ofInt a2))]) (st' := [.int (Int32.ofInt a0)]) rfl ?_
  obtain ⟨o21, h⟩ := h
  refine lf_tsw 310 [(4, 255), (5, 266), (6, 277), (7, 288), (8, 299), (9, 310), (10, 188), (11, 202), (12, 216), (13, 235), (14, 310), (15, 310), (16, 310), (17, 310), (18, 310), (19, 310), (20, 310), (21, 310), (22, 310), (23, 310), (24, 310), (25, 310), (26, 310), (27, 310), (28, 310), (29, 310), (30, 310), (31, 310), (32, 310), (33, 310), (34, 310), (35, 310), (36, 310), (37, 310), (38, 310), (39, 310), (40, 310), (41, 310), (42, 310), (43, 310), (44, 310), (45, 247), (46, 251)] rfl rfl rfl (by decide) o21 (fun c => ?_) (lf_tab1 (fun c => ?_) (lf_tab1 (fun c => ?_) (lf_tab1 (fun c => ?_) (lf_tab1 (fun c => ?_) (lf_tab1 (fun c => ?_) (lf_tab1 (fun c => ?_) (lf_tab1 (fun c => ?_) (lf_tab1 (fun c => ?_) (lf_tab1 (fun c => ?_) (lf_tab1 (fun c => ?_) (lf_tab1 (fun c => ?_) (lf_tab1 (fun c => ?_) (lf_tab1 (fun c => ?_) (lf_tab1 (fun c => ?_) (lf_tab1 (fun c => ?_) (lf_tab1 (fun c => ?_) (lf_tab1 (fun c => ?_) (lf_tab1 (fun c => ?_) (lf_tab1 (fun c => ?_) (lf_tab1 (fun c => ?_) (lf_tab1 (fun c => ?_) (lf_tab1 (fun c => ?_) (lf_tab1 (fun c => ?_) (lf_tab1 (fun c => ?_) (lf_tab1 (fun c => ?_) (lf_tab1 (fun c => ?_) (lf_tab1 (fun c => ?_) (lf_tab1 (fun c => ?_) (lf_tab1 (fun c => ?_) (lf_tab1 (fun c => ?_) (lf_tab1 (fun c => ?_) (lf_tab1 (fun c => ?_) (lf_tab1 (fun c => ?_) (lf_tab1 (fun c => ?_) (lf_tab1 (fun c => ?_) (lf_tab1 (fun c => ?_) (lf_tab1 (fun c => ?_) (lf_tab1 (fun c => ?_) (lf_tab1 (fun c => ?_) (lf_tab1 (fun c => ?_) (lf_tab1 (fun c => ?_) (lf_tab1 (fun c => ?_) (lf_tab1 (fun c => ?_) lf_tab0)))))))))))))))))))))))))))))))))))))))))))
  · have h := h.1 c
    refine lf_sub (l := [(1, .int (Int32.ofInt a1)), (2, .int (Int32.ofInt a2))]) (lf_sb1 rfl (lf_sb1 rfl lf_sb0)) ?_
    exact gm_87_p310 h
  · have h := h.2.1 c
    refine lf_seg 2 (pc' := 257) (lv' := [(0, .int (Int32.ofInt a0)), (1, .int (Int32.ofInt a1)), (2, .int (Int32.ofInt a2))]) (st' := [.int (Int32.ofInt a2), .int (Int32.ofInt a1)]) rfl ?_
    obtain ⟨o24, h⟩ := h
    obtain ⟨o25, h⟩ := h
    refine lf_icmp_ge 264 260 rfl rfl rfl o24 o25 (fun c => ?_) (fun c => ?_)
    · have h := h.1 c
      refine lf_seg 1 (pc' := 265) (lv' := [(0, .int (Int32.ofInt a0)), (1, .int (Int32.ofInt a1)), (2, .int (Int32.ofInt a2))]) (st' := [.int (Int32.ofInt 0)]) rfl ?_
      exact lf_retI rfl rfl h
    · have h := h.2 c
      refine lf_seg 2 (pc' := 265) (lv' := [(0, .int (Int32.ofInt a0)), (1, .int (Int32.ofInt a1)), (2, .int (Int32.ofInt a2))]) (st' := [.int (Int32.ofInt 1)]) rfl ?_
      exact lf_retI rfl rfl h
  · have h := h.2.2.1 c
    refine lf_seg 2 (pc' := 268) (lv' := [(0, .int (Int32.ofInt a0)), (1, .int (Int32.ofInt a1)), (2, .int (Int32.ofInt a2))]) (st' := [.int (Int32.ofInt a2), .int (Int32.ofInt a1)]) rfl ?_
    obtain ⟨o26, h⟩ := h
    obtain ⟨o27, h⟩ := h
    refine lf_icmp_gt 275 271 rfl rfl rfl o26 o27 (fun c => ?_) (fun c => ?_)
    · have h := h.1 c
      refine lf_seg 1 (pc' := 276) (lv' := [(0, .int (Int32.ofInt a0)), (1, .int (Int32.ofInt a1)), (2, .int (Int32.ofInt a2))]) (st' := [.int (Int32.ofInt 0)]) rfl ?_
      exact lf_retI rfl rfl h
    · have h := h.2 c
      refine lf_seg 2 (pc' := 276) (lv' := [(0, .int (Int32.ofInt a0)), (1, .int (Int32.ofInt a1)), (2, .int (Int32.ofInt a2))]) (st' := [.int (Int32.ofInt 1)]) rfl ?_
      exact lf_retI rfl rfl h
  · have h := h.2.2.2.1 c
    refine lf_seg 2 (pc' := 279) (lv' := [(0, .int (Int32.ofInt a0)), (1, .int (Int32.ofInt a1)), (2, .int (Int32.ofInt a2))]) (st' := [.int (Int32.ofInt a2), .int (Int32.ofInt a1)]) rfl ?_
    obtain ⟨o28, h⟩ := h
    obtain ⟨o29, h⟩ := h
    refine lf_icmp_le 286 282 rfl rfl rfl o28 o29 (fun c => ?_) (fun c => ?_)
    · have h := h.1 c
      refine lf_seg 1 (pc' := 287) (lv' := [(0, .int (Int32.ofInt a0)), (1, .int (Int32.ofInt a1)), (2, .int (Int32.ofInt a2))]) (st' := [.int (Int32.ofInt 0)]) rfl ?_
      exact lf_retI rfl rfl h
    · have h := h.2 c
      refine lf_seg 2 (pc' := 287) (lv' := [(0, .int (Int32.ofInt a0)), (1, .int (Int32.ofInt a1)), (2, .int (Int32.ofInt a2))]) (st' := [.int (Int32.ofInt 1)]) rfl ?_
      exact lf_retI rfl rfl h
  · have h := h.2.2.2.2.1 c
    refine lf_seg 2 (pc' := 290) (lv' := [(0, .int (Int32.ofInt a0)), (1, .int (Int32.ofInt a1)), (2, .int (Int32.ofInt a2))]) (st' := [.int (Int32.ofInt a2), .int (Int32.ofInt a1)]) rfl ?_
    obtain ⟨o30, h⟩ := h
    obtain ⟨o31, h⟩ := h
    refine lf_icmp_lt 297 293 rfl rfl rfl o30 o31 (fun c => ?_) (fun c => ?_)
    · have h := h.1 c
      refine lf_seg 1 (pc' := 298) (lv' := [(0, .int (Int32.ofInt a0)), (1, .int (Int32.ofInt a1)), (2, .int (Int32.ofInt a2))]) (st' := [.int (Int32.ofInt 0)]) rfl ?_
      exact lf_retI rfl rfl h
    · have h := h.2 c
      refine lf_seg 2 (pc' := 298) (lv' := [(0, .int (Int32.ofInt a0)), (1, .int (Int32.ofInt a1)), (2, .int (Int32.ofInt a2))]) (st' := [.int (Int32.ofInt 1)]) rfl ?_
      exact lf_retI rfl rfl h
  · have h := h.2.2.2.2.2.1 c
    refine lf_seg 2 (pc' := 301) (lv' := [(0, .int (Int32.ofInt a0)), (1, .int (Int32.ofInt a1)), (2, .int (Int32.ofInt a2))]) (st' := [.int (Int32.ofInt a2), .int (Int32.ofInt a1)]) rfl ?_
    obtain ⟨o32, h⟩ := h
    obtain ⟨o33, h⟩ := h
    refine lf_icmp_ne 308 304 rfl rfl rfl o32 o33 (fun c => ?_) (fun c => ?_)
    · have h := h.1 c
      refine lf_seg 1 (pc' := 309) (lv' := [(0, .int (Int32.ofInt a0)), (1, .int (Int32.ofInt a1)), (2, .int (Int32.ofInt a2))]) (st' := [.int (Int32.ofInt 0)]) rfl ?_
      exact lf_retI rfl rfl h
    · have h := h.2 c
      refine lf_seg 2 (pc' := 309) (lv' := [(0, .int (Int32.ofInt a0)), (1, .int (Int32.ofInt a1)), (2, .int (Int32.ofInt a2))]) (st' := [.int (Int32.ofInt 1)]) rfl ?_
      exact lf_retI rfl rfl h
  · have h := h.2.2.2.2.2.2.1 c
    refine lf_sub (l := [(1, .int (Int32.ofInt a1)), (2, .int (Int32.ofInt a2))]) (lf_sb1 rfl (lf_sb1 rfl lf_sb0)) ?_
    exact gm_87_p310 h
  · have h := h.2.2.2.2.2.2.2.1 c
    refine lf_ldc 190 (-1000000) rfl rfl rfl (by decide) ?_
    refine lf_ldc 192 1000000 rfl rfl rfl (by decide) ?_
    refine lf_seg 2 (pc' := 194) (lv' := [(0, .int (Int32.ofInt a0)), (1, .int (Int32.ofInt a1)), (2, .int (Int32.ofInt a2))]) (st' := [.int (Int32.ofInt a2), .int (Int32.ofInt a1), .int (Int32.ofInt 1000000), .int (Int32.ofInt (-1000000))]) rfl ?_
    refine lf_iadd 195 rfl rfl ?_
    refine lf_wtI ?_
    refine lf_imin 198 rfl rfl rfl rfl ⟨by decide, by decide⟩ lf_Rw ?_
    obtain ⟨o34, h⟩ := h
    refine lf_imax 201 rfl rfl rfl rfl ⟨by decide, by decide⟩ o34 ?_
    exact lf_retI rfl rfl h
  · have h := h.2.2.2.2.2.2.2.2.1 c
    refine lf_ldc 204 (-1000000) rfl rfl rfl (by decide) ?_
    refine lf_ldc 206 1000000 rfl rfl rfl (by decide) ?_
    refine lf_seg 2 (pc' := 208) (lv' := [(0, .int (Int32.ofInt a0)), (1, .int (Int32.ofInt a1)), (2, .int (Int32.ofInt a2))]) (st' := [.int (Int32.ofInt a2), .int (Int32.ofInt a1), .int (Int32.ofInt 1000000), .int (Int32.ofInt (-1000000))]) rfl ?_
    refine lf_isub 209 rfl rfl ?_
    refine lf_wtI ?_
    refine lf_imin 212 rfl rfl rfl rfl ⟨by decide, by decide⟩ lf_Rw ?_
    obtain ⟨o35, h⟩ := h
    refine lf_imax 215 rfl rfl rfl rfl ⟨by decide, by decide⟩ o35 ?_
    exact lf_retI rfl rfl h
  · have h := h.2.2.2.2.2.2.2.2.2.1 c
    refine lf_ldc2 219 (-1000000) rfl rfl rfl (by decide) ?_
    refine lf_ldc2 222 1000000 rfl rfl rfl (by decide) ?_
    refine lf_seg 1 (pc' := 223) (lv' := [(0, .int (Int32.ofInt a0)), (1, .int (Int32.ofInt a1)), (2, .int (Int32.ofInt a2))]) (st' := [.int (Int32.ofInt a1), .long (Int64.ofInt 1000000), .long (Int64.ofInt (-1000000))]) rfl ?_
    obtain ⟨o36, h⟩ := h
    refine lf_i2l 224 rfl rfl o36 ?_
    refine lf_seg 1 (pc' := 225) (lv' := [(0, .int (Int32.ofInt a0)), (1, .int (Int32.ofInt a1)), (2, .int (Int32.ofInt a2))]) (st' := [.int (Int32.ofInt a2), .long (Int64.ofInt a1), .long (Int64.ofInt 1000000), .long (Int64.ofInt (-1000000))]) rfl ?_
    obtain ⟨o37, h⟩ := h
    refine lf_i2l 226 rfl rfl o37 ?_
    refine lf_lmul 227 rfl rfl ?_
    refine lf_wtL ?_
    refine lf_lmin 230 rfl rfl rfl rfl ⟨by decide, by decide⟩ lf_RLwl ?_
    refine lf_wtL ?_
    refine lf_lmax 233 rfl rfl rfl rfl ⟨by decide, by decide⟩ lf_RLwl ?_
    refine lf_wtL ?_
    refine lf_l2i 234 rfl rfl ?_
    refine lf_wtI ?_
    exact lf_retI rfl rfl h
  · have h := h.2.2.2.2.2.2.2.2.2.2.1 c
    refine lf_seg 1 (pc' := 236) (lv' := [(0, .int (Int32.ofInt a0)), (1, .int (Int32.ofInt a1)), (2, .int (Int32.ofInt a2))]) (st' := [.int (Int32.ofInt a2)]) rfl ?_
    obtain ⟨o38, h⟩ := h
    refine lf_if_ne 243 239 rfl rfl rfl o38 (fun c => ?_) (fun c => ?_)
    · have h := h.1 c
      refine lf_seg 2 (pc' := 245) (lv' := [(0, .int (Int32.ofInt a0)), (1, .int (Int32.ofInt a1)), (2, .int (Int32.ofInt a2))]) (st' := [.int (Int32.ofInt a2), .int (Int32.ofInt a1)]) rfl ?_
      obtain ⟨o39, h⟩ := h
      obtain ⟨o40, h⟩ := h
      refine lf_idiv 246 rfl rfl o39 o38 o40 ?_
      refine lf_wtI ?_
      exact lf_retI rfl rfl h
    · have h := h.2 c
      refine lf_seg 2 (pc' := 246) (lv' := [(0, .int (Int32.ofInt a0)), (1, .int (Int32.ofInt a1)), (2, .int (Int32.ofInt a2))]) (st' := [.int (Int32.ofInt 0)]) rfl ?_
      exact lf_retI rfl rfl h
  · have h := h.2.2.2.2.2.2.2.2.2.2.2.1 c
    refine lf_sub (l := [(1, .int (Int32.ofInt a1)), (2, .int (Int32.ofInt a2))]) (lf_sb1 rfl (lf_sb1 rfl lf_sb0)) ?_
    exact gm_87_p310 h
  · have h := h.2.2.2.2.2.2.2.2.2.2.2.2.1 c
    refine lf_sub (l := [(1, .int (Int32.ofInt a1)), (2, .int (Int32.ofInt a2))]) (lf_sb1 rfl (lf_sb1 rfl lf_sb0)) ?_
    exact gm_87_p310 h
  · have h := h.2.2.2.2.2.2.2.2.2.2.2.2.2.1 c
    refine lf_sub (l := [(1, .int (Int32.ofInt a1)), (2, .int (Int32.ofInt a2))]) (lf_sb1 rfl (lf_sb1 rfl lf_sb0)) ?_
    exact gm_87_p310 h
  · have h := h.2.2.2.2.2.2.2.2.2.2.2.2.2.2.1 c
    refine lf_sub (l := [(1, .int (Int32.ofInt a1)), (2, .int (Int32.ofInt a2))]) (lf_sb1 rfl (lf_sb1 rfl lf_sb0)) ?_
    exact gm_87_p310 h
  · have h := h.2.2.2.2.2.2.2.2.2.2.2.2.2.2.2.1 c
    refine lf_sub (l := [(1, .int (Int32.ofInt a1)), (2, .int (Int32.ofInt a2))]) (lf_sb1 rfl (lf_sb1 rfl lf_sb0)) ?_
    exact gm_87_p310 h
  · have h := h.2.2.2.2.2.2.2.2.2.2.2.2.2.2.2.2.1 c
    refine lf_sub (l := [(1, .int (Int32.ofInt a1)), (2, .int (Int32.ofInt a2))]) (lf_sb1 rfl (lf_sb1 rfl lf_sb0)) ?_
    exact gm_87_p310 h
  · have h := h.2.2.2.2.2.2.2.2.2.2.2.2.2.2.2.2.2.1 c
    refine lf_sub (l := [(1, .int (Int32.ofInt a1)), (2, .int (Int32.ofInt a2))]) (lf_sb1 rfl (lf_sb1 rfl lf_sb0)) ?_
    exact gm_87_p310 h
  · have h := h.2.2.2.2.2.2.2.2.2.2.2.2.2.2.2.2.2.2.1 c
    refine lf_sub (l := [(1, .int (Int32.ofInt a1)), (2, .int (Int32.ofInt a2))]) (lf_sb1 rfl (lf_sb1 rfl lf_sb0)) ?_
    exact gm_87_p310 h
  · have h := h.2.2.2.2.2.2.2.2.2.2.2.2.2.2.2.2.2.2.2.1 c
    refine lf_sub (l := [(1, .int (Int32.ofInt a1)), (2, .int (Int32.ofInt a2))]) (lf_sb1 rfl (lf_sb1 rfl lf_sb0)) ?_
    exact gm_87_p310 h
  · have h := h.2.2.2.2.2.2.2.2.2.2.2.2.2.2.2.2.2.2.2.2.1 c
    refine lf_sub (l := [(1, .int (Int32.ofInt a1)), (2, .int (Int32.ofInt a2))]) (lf_sb1 rfl (lf_sb1 rfl lf_sb0)) ?_
    exact gm_87_p310 h
  · have h := h.2.2.2.2.2.2.2.2.2.2.2.2.2.2.2.2.2.2.2.2.2.1 c
    refine lf_sub (l := [(1, .int (Int32.ofInt a1)), (2, .int (Int32.ofInt a2))]) (lf_sb1 rfl (lf_sb1 rfl lf_sb0)) ?_
    exact gm_87_p310 h
  · have h := h.2.2.2.2.2.2.2.2.2.2.2.2.2.2.2.2.2.2.2.2.2.2.1 c
    refine lf_sub (l := [(1, .int (Int32.ofInt a1)), (2, .int (Int32.ofInt a2))]) (lf_sb1 rfl (lf_sb1 rfl lf_sb0)) ?_
    exact gm_87_p310 h
  · have h := h.2.2.2.2.2.2.2.2.2.2.2.2.2.2.2.2.2.2.2.2.2.2.2.1 c
    refine lf_sub (l := [(1, .int (Int32.ofInt a1)), (2, .int (Int32.ofInt a2))]) (lf_sb1 rfl (lf_sb1 rfl lf_sb0)) ?_
    exact gm_87_p310 h
  · have h := h.2.2.2.2.2.2.2.2.2.2.2.2.2.2.2.2.2.2.2.2.2.2.2.2.1 c
    refine lf_sub (l := [(1, .int (Int32.ofInt a1)), (2, .int (Int32.ofInt a2))]) (lf_sb1 rfl (lf_sb1 rfl lf_sb0)) ?_
    exact gm_87_p310 h
  · have h := h.2.2.2.2.2.2.2.2.2.2.2.2.2.2.2.2.2.2.2.2.2.2.2.2.2.1 c
    refine lf_sub (l := [(1, .int (Int32.ofInt a1)), (2, .int (Int32.ofInt a2))]) (lf_sb1 rfl (lf_sb1 rfl lf_sb0)) ?_
    exact gm_87_p310 h
  · have h := h.2.2.2.2.2.2.2.2.2.2.2.2.2.2.2.2.2.2.2.2.2.2.2.2.2.2.1 c
    refine lf_sub (l := [(1, .int (Int32.ofInt a1)), (2, .int (Int32.ofInt a2))]) (lf_sb1 rfl (lf_sb1 rfl lf_sb0)) ?_
    exact gm_87_p310 h
  · have h := h.2.2.2.2.2.2.2.2.2.2.2.2.2.2.2.2.2.2.2.2.2.2.2.2.2.2.2.1 c
    refine lf_sub (l := [(1, .int (Int32.ofInt a1)), (2, .int (Int32.ofInt a2))]) (lf_sb1 rfl (lf_sb1 rfl lf_sb0)) ?_
    exact gm_87_p310 h
  · have h := h.2.2.2.2.2.2.2.2.2.2.2.2.2.2.2.2.2.2.2.2.2.2.2.2.2.2.2.2.1 c
    refine lf_sub (l := [(1, .int (Int32.ofInt a1)), (2, .int (Int32.ofInt a2))]) (lf_sb1 rfl (lf_sb1 rfl lf_sb0)) ?_
    exact gm_87_p310 h
  · have h := h.2.2.2.2.2.2.2.2.2.2.2.2.2.2.2.2.2.2.2.2.2.2.2.2.2.2.2.2.2.1 c
    refine lf_sub (l := [(1, .int (Int32.ofInt a1)), (2, .int (Int32.ofInt a2))]) (lf_sb1 rfl (lf_sb1 rfl lf_sb0)) ?_
    exact gm_87_p310 h
  · have h := h.2.2.2.2.2.2.2.2.2.2.2.2.2.2.2.2.2.2.2.2.2.2.2.2.2.2.2.2.2.2.1 c
    refine lf_sub (l := [(1, .int (Int32.ofInt a1)), (2, .int (Int32.ofInt a2))]) (lf_sb1 rfl (lf_sb1 rfl lf_sb0)) ?_
    exact gm_87_p310 h
  · have h := h.2.2.2.2.2.2.2.2.2.2.2.2.2.2.2.2.2.2.2.2.2.2.2.2.2.2.2.2.2.2.2.1 c
    refine lf_sub (l := [(1, .int (Int32.ofInt a1)), (2, .int (Int32.ofInt a2))]) (lf_sb1 rfl (lf_sb1 rfl lf_sb0)) ?_
    exact gm_87_p310 h
  · have h := h.2.2.2.2.2.2.2.2.2.2.2.2.2.2.2.2.2.2.2.2.2.2.2.2.2.2.2.2.2.2.2.2.1 c
    refine lf_sub (l := [(1, .int (Int32.ofInt a1)), (2, .int (Int32.ofInt a2))]) (lf_sb1 rfl (lf_sb1 rfl lf_sb0)) ?_
    exact gm_87_p310 h
  · have h := h.2.2.2.2.2.2.2.2.2.2.2.2.2.2.2.2.2.2.2.2.2.2.2.2.2.2.2.2.2.2.2.2.2.1 c
    refine lf_sub (l := [(1, .int (Int32.ofInt a1)), (2, .int (Int32.ofInt a2))]) (lf_sb1 rfl (lf_sb1 rfl lf_sb0)) ?_
    exact gm_87_p310 h
  · have h := h.2.2.2.2.2.2.2.2.2.2.2.2.2.2.2.2.2.2.2.2.2.2.2.2.2.2.2.2.2.2.2.2.2.2.1 c
    refine lf_sub (l := [(1, .int (Int32.ofInt a1)), (2, .int (Int32.ofInt a2))]) (lf_sb1 rfl (lf_sb1 rfl lf_sb0)) ?_
    exact gm_87_p310 h
  · have h := h.2.2.2.2.2.2.2.2.2.2.2.2.2.2.2.2.2.2.2.2.2.2.2.2.2.2.2.2.2.2.2.2.2.2.2.1 c
    refine lf_sub (l := [(1, .int (Int32.ofInt a1)), (2, .int (Int32.ofInt a2))]) (lf_sb1 rfl (lf_sb1 rfl lf_sb0)) ?_
    exact gm_87_p310 h
  · have h := h.2.2.2.2.2.2.2.2.2.2.2.2.2.2.2.2.2.2.2.2.2.2.2.2.2.2.2.2.2.2.2.2.2.2.2.2.1 c
    refine lf_sub (l := [(1, .int (Int32.ofInt a1)), (2, .int (Int32.ofInt a2))]) (lf_sb1 rfl (lf_sb1 rfl lf_sb0)) ?_
    exact gm_87_p310 h
  · have h := h.2.2.2.2.2.2.2.2.2.2.2.2.2.2.2.2.2.2.2.2.2.2.2.2.2.2.2.2.2.2.2.2.2.2.2.2.2.1 c
    refine lf_sub (l := [(1, .int (Int32.ofInt a1)), (2, .int (Int32.ofInt a2))]) (lf_sb1 rfl (lf_sb1 rfl lf_sb0)) ?_
    exact gm_87_p310 h
  · have h := h.2.2.2.2.2.2.2.2.2.2.2.2.2.2.2.2.2.2.2.2.2.2.2.2.2.2.2.2.2.2.2.2.2.2.2.2.2.2.1 c
    refine lf_sub (l := [(1, .int (Int32.ofInt a1)), (2, .int (Int32.ofInt a2))]) (lf_sb1 rfl (lf_sb1 rfl lf_sb0)) ?_
    exact gm_87_p310 h
  · have h := h.2.2.2.2.2.2.2.2.2.2.2.2.2.2.2.2.2.2.2.2.2.2.2.2.2.2.2.2.2.2.2.2.2.2.2.2.2.2.2.1 c
    refine lf_sub (l := [(1, .int (Int32.ofInt a1)), (2, .int (Int32.ofInt a2))]) (lf_sb1 rfl (lf_sb1 rfl lf_sb0)) ?_
    exact gm_87_p310 h
  · have h := h.2.2.2.2.2.2.2.2.2.2.2.2.2.2.2.2.2.2.2.2.2.2.2.2.2.2.2.2.2.2.2.2.2.2.2.2.2.2.2.2.1 c
    refine lf_sub (l := [(1, .int (Int32.ofInt a1)), (2, .int (Int32.ofInt a2))]) (lf_sb1 rfl (lf_sb1 rfl lf_sb0)) ?_
    exact gm_87_p310 h
  · have h := h.2.2.2.2.2.2.2.2.2.2.2.2.2.2.2.2.2.2.2.2.2.2.2.2.2.2.2.2.2.2.2.2.2.2.2.2.2.2.2.2.2.1 c
    refine lf_sub (l := [(1, .int (Int32.ofInt a1)), (2, .int (Int32.ofInt a2))]) (lf_sb1 rfl (lf_sb1 rfl lf_sb0)) ?_
    exact gm_87_p310 h
  · have h := h.2.2.2.2.2.2.2.2.2.2.2.2.2.2.2.2.2.2.2.2.2.2.2.2.2.2.2.2.2.2.2.2.2.2.2.2.2.2.2.2.2.2.1 c
    refine lf_seg 2 (pc' := 249) (lv' := [(0, .int (Int32.ofInt a0)), (1, .int (Int32.ofInt a1)), (2, .int (Int32.ofInt a2))]) (st' := [.int (Int32.ofInt a2), .int (Int32.ofInt a1)]) rfl ?_
    refine lf_iand 250 rfl rfl ?_
    exact lf_retI rfl rfl h
  · have h := h.2.2.2.2.2.2.2.2.2.2.2.2.2.2.2.2.2.2.2.2.2.2.2.2.2.2.2.2.2.2.2.2.2.2.2.2.2.2.2.2.2.2.2 c
    refine lf_seg 2 (pc' := 253) (lv' := [(0, .int (Int32.ofInt a0)), (1, .int (Int32.ofInt a1)), (2, .int (Int32.ofInt a2))]) (st' := [.int (Int32.ofInt a2), .int (Int32.ofInt a1)]) rfl ?_
    refine lf_ior 254 rfl rfl ?_
    exact lf_retI rfl rfl h
-- fm_85 Laws.push 63 i
def fm_85 (a1 : Int) (Q : lf_Z → Prop) (s : lf_Z) : Prop := lf_R (s.1 63 6) ∧ ((300 ≤ s.1 63 6 → (Q s)) ∧ (¬ (300 ≤ s.1 63 6) → ((0 ≤ s.1 63 6 ∧ s.1 63 6 < 300) ∧ (Q (lf_up (lf_up s.1 66 (s.1 63 6) a1) 63 6 ((s.1 63 6) + 1), s.2.1, s.2.2)))))
set_option maxRecDepth 100000 in
theorem gm_85 {L : Nat} {xs : Nat → Int32} {d : Nat} {a1 : Int} {Q : lf_Z → Prop} {s : lf_Z} (h : fm_85 a1 Q s) : lf_M (px_ro L xs) (d + 1) 85 [.ref 63, .int (Int32.ofInt a1)] s (lf_qv Q) := by
  unfold fm_85 at h
  show lf_E (px_ro L xs) (d + 1) 85 0 [(0, .ref 63), (1, .int (Int32.ofInt a1))] [] s _
  refine lf_seg 1 (pc' := 1) (lv' := [(0, .ref 63), (1, .int (Int32.ofInt a1))]) (st' := [.ref 63]) rfl ?_
  refine lf_getI 4 6 rfl rfl rfl rfl rfl rfl rfl ?_
  refine lf_sipush 7 300 rfl rfl (by decide) (by decide) ?_
  obtain ⟨o21, h⟩ := h
  refine lf_icmp_ge 30 10 rfl rfl rfl o21 ⟨by decide, by decide⟩ (fun c => ?_) (fun c => ?_)
  · have h := h.1 c
    exact lf_retV rfl rfl h
  · have h := h.2 c
    refine lf_seg 3 (pc' := 15) (lv' := [(0, .ref 63), (1, .int (Int32.ofInt a1))]) (st' := [.ref 63, .ref 66]) rfl ?_
    refine lf_getI 18 6 rfl rfl rfl rfl rfl rfl rfl ?_
    refine lf_seg 1 (pc' := 19) (lv' := [(0, .ref 63), (1, .int (Int32.ofInt a1))]) (st' := [.int (Int32.ofInt a1), .int (Int32.ofInt (s.1 63 6)), .ref 66]) rfl ?_
    obtain ⟨o22, h⟩ := h
    refine lf_iast 20 300 rfl rfl rfl rfl rfl rfl o22 ?_
    refine lf_as (lf_up s.1 66 (s.1 63 6) a1, s.2.1, s.2.2) rfl ?_
    refine lf_seg 2 (pc' := 22) (lv' := [(0, .ref 63), (1, .int (Int32.ofInt a1))]) (st' := [.ref 63, .ref 63]) rfl ?_
    refine lf_getI 25 6 rfl rfl rfl rfl rfl rfl rfl ?_
    refine lf_seg 1 (pc' := 26) (lv' := [(0, .ref 63), (1, .int (Int32.ofInt a1))]) (st' := [.int (Int32.ofInt 1), .int (Int32.ofInt (s.1 63 6)), .ref 63]) rfl ?_
    refine lf_iadd 27 rfl rfl ?_
    refine lf_putI 30 6 rfl rfl rfl rfl rfl rfl rfl rfl ?_
    refine lf_as (lf_up (lf_up s.1 66 (s.1 63 6) a1) 63 6 ((s.1 63 6) + 1), s.2.1, s.2.2) rfl ?_
    exact lf_retV rfl rfl h
-- fm_84b Laws.answer 63 t i
def fm_84b_p311 (Q : Int → lf_Z → Prop) (s : lf_Z) : Prop := fm_86 (fun r25 s24 => (Q r25 s24)) s
set_option maxRecDepth 100000 in
theorem gm_84b_p311 {L : Nat} {xs : Nat → Int32} {d : Nat} {Q : Int → lf_Z → Prop} {s : lf_Z} (h : fm_84b_p311 Q s) : lf_E (px_ro L xs) (d + 2) 84 311 [(0, .ref 63)] [] s (lf_qi Q) := by
  unfold fm_84b_p311 at h
  refine lf_seg 1 (pc' := 312) (lv' := [(0, .ref 63)]) (st' := [.ref 63]) rfl ?_
  refine lf_callI 315 rfl rfl rfl rfl (gm_86 h) (fun r25 s24 h => ?_)
  exact lf_retI rfl rfl h
def fm_84b_p305 (X29 : Int → Int → lf_Z → Prop) (Q : Int → lf_Z → Prop) (u1 : Nat) (x3 : Int) (x4 : Int) (x5 : Int) (s : lf_Z) : Prop := X29 x4 (x5 + 1) s
set_option maxRecDepth 100000 in
theorem gm_84b_p305 {L : Nat} {xs : Nat → Int32} {d : Nat} {X29 : Int → Int → lf_Z → Prop} {Q : Int → lf_Z → Prop} {u1 : Nat} {x3 : Int} {x4 : Int} {x5 : Int} {s : lf_Z} (hX29 : ∀ x4 x5 s, X29 x4 x5 s → lf_E (px_ro L xs) (d + 2) 84 29 [(0, .ref 63), (1, .ref (35 + 7 * u1)), (3, .int (Int32.ofInt x3)), (4, .int (Int32.ofInt x4)), (5, .int (Int32.ofInt x5))] [] s (lf_qi Q)) (htu1 : u1 < 4) (h : fm_84b_p305 X29 Q u1 x3 x4 x5 s) : lf_E (px_ro L xs) (d + 2) 84 305 [(0, .ref 63), (1, .ref (35 + 7 * u1)), (3, .int (Int32.ofInt x3)), (4, .int (Int32.ofInt x4)), (5, .int (Int32.ofInt x5))] [] s (lf_qi Q) := by
  unfold fm_84b_p305 at h
  refine lf_iinc 308 rfl rfl rfl rfl ?_
  refine lf_seg 1 (pc' := 29) (lv' := [(5, .int (Int32.ofInt (x5 + 1))), (0, .ref 63), (1, .ref (35 + 7 * u1)), (3, .int (Int32.ofInt x3)), (4, .int (Int32.ofInt x4))]) (st' := []) rfl ?_
  refine lf_sub (l := [(0, .ref 63), (1, .ref (35 + 7 * u1)), (3, .int (Int32.ofInt x3)), (4, .int (Int32.ofInt x4)), (5, .int (Int32.ofInt (x5 + 1)))]) (lf_sb1 rfl (lf_sb1 rfl (lf_sb1 rfl (lf_sb1 rfl (lf_sb1 rfl lf_sb0))))) ?_
  exact hX29 _ _ _ h
def fm_84b_p208 (X29 : Int → Int → lf_Z → Prop) (Q : Int → lf_Z → Prop) (u1 : Nat) (x3 : Int) (x4 : Int) (x5 : Int) (y1 : Int) (s : lf_Z) : Prop := fm_85 y1 (fun s40 => (fm_84b_p305 X29 Q u1 x3 x4 x5 s40)) s
set_option maxRecDepth 100000 in
theorem gm_84b_p208 {L : Nat} {xs : Nat → Int32} {d : Nat} {X29 : Int → Int → lf_Z → Prop} {Q : Int → lf_Z → Prop} {u1 : Nat} {x3 : Int} {x4 : Int} {x5 : Int} {y1 : Int} {s : lf_Z} (hX29 : ∀ x4 x5 s, X29 x4 x5 s → lf_E (px_ro L xs) (d + 2) 84 29 [(0, .ref 63), (1, .ref (35 + 7 * u1)), (3, .int (Int32.ofInt x3)), (4, .int (Int32.ofInt x4)), (5, .int (Int32.ofInt x5))] [] s (lf_qi Q)) (htu1 : u1 < 4) (h : fm_84b_p208 X29 Q u1 x3 x4 x5 y1 s) : lf_E (px_ro L xs) (d + 2) 84 208 [(0, .ref 63), (1, .ref (35 + 7 * u1)), (3, .int (Int32.ofInt x3)), (4, .int (Int32.ofInt x4)), (5, .int (Int32.ofInt x5))] [.int (Int32.ofInt y1), .ref 63] s (lf_qi Q) := by
  unfold fm_84b_p208 at h
  refine lf_callV 211 rfl rfl rfl rfl (gm_85 h) (fun s40 h => ?_)
  refine lf_seg 1 (pc' := 305) (lv' := [(0, .ref 63), (1, .ref (35 + 7 * u1)), (3, .int (Int32.ofInt x3)), (4, .int (Int32.ofInt x4)), (5, .int (Int32.ofInt x5))]) (st' := []) rfl ?_
  refine lf_sub (l := [(0, .ref 63), (1, .ref (35 + 7 * u1)), (3, .int (Int32.ofInt x3)), (4, .int (Int32.ofInt x4)), (5, .int (Int32.ofInt x5))]) (lf_sb1 rfl (lf_sb1 rfl (lf_sb1 rfl (lf_sb1 rfl (lf_sb1 rfl lf_sb0))))) ?_
  exact gm_84b_p305 hX29 htu1 h
def fm_84b_p183 (X29 : Int → Int → lf_Z → Prop) (Q : Int → lf_Z → Prop) (u1 : Nat) (x3 : Int) (x4 : Int) (x5 : Int) (y1 : Int) (s : lf_Z) : Prop := fm_85 y1 (fun s43 => (fm_84b_p305 X29 Q u1 x3 x4 x5 s43)) s
set_option maxRecDepth 100000 in
theorem gm_84b_p183 {L : Nat} {xs : Nat → Int32} {d : Nat} {X29 : Int → Int → lf_Z → Prop} {Q : Int → lf_Z → Prop} {u1 : Nat} {x3 : Int} {x4 : Int} {x5 : Int} {y1 : Int} {s : lf_Z} (hX29 : ∀ x4 x5 s, X29 x4 x5 s → lf_E (px_ro L xs) (d + 2) 84 29 [(0, .ref 63), (1, .ref (35 + 7 * u1)), (3, .int (Int32.ofInt x3)), (4, .int (Int32.ofInt x4)), (5, .int (Int32.ofInt x5))] [] s (lf_qi Q)) (htu1 : u1 < 4) (h : fm_84b_p183 X29 Q u1 x3 x4 x5 y1 s) : lf_E (px_ro L xs) (d + 2) 84 183 [(0, .ref 63), (1, .ref (35 + 7 * u1)), (3, .int (Int32.ofInt x3)), (4, .int (Int32.ofInt x4)), (5, .int (Int32.ofInt x5))] [.int (Int32.ofInt y1), .ref 63] s (lf_qi Q) := by
  unfold fm_84b_p183 at h
  refine lf_callV 186 rfl rfl rfl rfl (gm_85 h) (fun s43 h => ?_)
  refine lf_seg 1 (pc' := 305) (lv' := [(0, .ref 63), (1, .ref (35 + 7 * u1)), (3, .int (Int32.ofInt x3)), (4, .int (Int32.ofInt x4)), (5, .int (Int32.ofInt x5))]) (st' := []) rfl ?_
  refine lf_sub (l := [(0, .ref 63), (1, .ref (35 + 7 * u1)), (3, .int (Int32.ofInt x3)), (4, .int (Int32.ofInt x4)), (5, .int (Int32.ofInt x5))]) (lf_sb1 rfl (lf_sb1 rfl (lf_sb1 rfl (lf_sb1 rfl (lf_sb1 rfl lf_sb0))))) ?_
  exact gm_84b_p305 hX29 htu1 h
def fm_84b_p247 (X29 : Int → Int → lf_Z → Prop) (Q : Int → lf_Z → Prop) (u1 : Nat) (x3 : Int) (x5 : Int) (y0 : Int) (s : lf_Z) : Prop := fm_84b_p305 X29 Q u1 x3 y0 x5 s
set_option maxRecDepth 100000 in
theorem gm_84b_p247 {L : Nat} {xs : Nat → Int32} {d : Nat} {X29 : Int → Int → lf_Z → Prop} {Q : Int → lf_Z → Prop} {u1 : Nat} {x3 : Int} {x5 : Int} {y0 : Int} {s : lf_Z} (hX29 : ∀ x4 x5 s, X29 x4 x5 s → lf_E (px_ro L xs) (d + 2) 84 29 [(0, .ref 63), (1, .ref (35 + 7 * u1)), (3, .int (Int32.ofInt x3)), (4, .int (Int32.ofInt x4)), (5, .int (Int32.ofInt x5))] [] s (lf_qi Q)) (htu1 : u1 < 4) (h : fm_84b_p247 X29 Q u1 x3 x5 y0 s) : lf_E (px_ro L xs) (d + 2) 84 247 [(0, .ref 63), (1, .ref (35 + 7 * u1)), (3, .int (Int32.ofInt x3)), (5, .int (Int32.ofInt x5))] [.int (Int32.ofInt y0)] s (lf_qi Q) := by
  unfold fm_84b_p247 at h
  refine lf_seg 2 (pc' := 305) (lv' := [(4, .int (Int32.ofInt y0)), (0, .ref 63), (1, .ref (35 + 7 * u1)), (3, .int (Int32.ofInt x3)), (5, .int (Int32.ofInt x5))]) (st' := []) rfl ?_
  refine lf_sub (l := [(0, .ref 63), (1, .ref (35 + 7 * u1)), (3, .int (Int32.ofInt x3)), (4, .int (Int32.ofInt y0)), (5, .int (Int32.ofInt x5))]) (lf_sb1 rfl (lf_sb1 rfl (lf_sb1 rfl (lf_sb1 rfl (lf_sb1 rfl lf_sb0))))) ?_
  exact gm_84b_p305 hX29 htu1 h
def fm_84b_p29 (Q : Int → lf_Z → Prop) (u1 : Nat) (x3 : Int) (X29 : Int → Int → lf_Z → Prop) (x4 : Int) (x5 : Int) (s : lf_Z) : Prop := lf_R x5 ∧ ((300 ≤ x5 → (fm_84b_p311 Q s)) ∧ (¬ (300 ≤ x5) → (lf_R x4 ∧ ((x4 < 0 → (fm_84b_p311 Q s)) ∧ (¬ (x4 < 0) → (lf_R x3 ∧ ((x3 ≤ x4 → (fm_84b_p311 Q s)) ∧ (¬ (x3 ≤ x4) → ((0 ≤ x4 ∧ x4 < 300) ∧ (lf_R (s.1 (36 + 7 * u1) x4) ∧ (lf_R ((s.1 (36 + 7 * u1) x4).tdiv 10000) ∧ (((s.1 (36 + 7 * u1) x4).tdiv 10000 ≠ 2 ∧ (s.1 (36 + 7 * u1) x4).tdiv 10000 ≠ 3 ∧ (s.1 (36 + 7 * u1) x4).tdiv 10000 ≠ 17 ∧ (s.1 (36 + 7 * u1) x4).tdiv 10000 ≠ 18 ∧ (s.1 (36 + 7 * u1) x4).tdiv 10000 ≠ 38 ∧ (s.1 (36 + 7 * u1) x4).tdiv 10000 ≠ 39 ∧ (s.1 (36 + 7 * u1) x4).tdiv 10000 ≠ 43 ∧ (s.1 (36 + 7 * u1) x4).tdiv 10000 ≠ 44 → (fm_86 (fun r32 s31 => (fm_86 (fun r34 s33 => (fm_87 ((s.1 (36 + 7 * u1) x4).tdiv 10000) r34 r32 (fun r36 s35 => (fm_85 r36 (fun s37 => (fm_84b_p305 X29 Q u1 x3 (x4 + 1) x5 s37)) s35)) s33)) s31)) s)) ∧ ((s.1 (36 + 7 * u1) x4).tdiv 10000 = 2 → (fm_85 ((s.1 (36 + 7 * u1) x4).tmod 10000) (fun s38 => (fm_84b_p305 X29 Q u1 x3 (x4 + 1) x5 s38)) s)) ∧ ((s.1 (36 + 7 * u1) x4).tdiv 10000 = 3 → (lf_R ((s.1 (36 + 7 * u1) x4).tmod 10000) ∧ ((8 ≤ (s.1 (36 + 7 * u1) x4).tmod 10000 → (fm_84b_p208 X29 Q u1 x3 (x4 + 1) x5 0 s)) ∧ (¬ (8 ≤ (s.1 (36 + 7 * u1) x4).tmod 10000) → ((0 ≤ (s.1 (36 + 7 * u1) x4).tmod 10000 ∧ (s.1 (36 + 7 * u1) x4).tmod 10000 < 8) ∧ (fm_84b_p208 X29 Q u1 x3 (x4 + 1) x5 (s.1 65 ((s.1 (36 + 7 * u1) x4).tmod 10000)) s)))))) ∧ ((s.1 (36 + 7 * u1) x4).tdiv 10000 = 17 → (lf_R ((s.1 (36 + 7 * u1) x4).tmod 10000) ∧ ((11 ≤ (s.1 (36 + 7 * u1) x4).tmod 10000 → (fm_84b_p183 X29 Q u1 x3 (x4 + 1) x5 0 s)) ∧ (¬ (11 ≤ (s.1 (36 + 7 * u1) x4).tmod 10000) → ((0 ≤ (s.1 (36 + 7 * u1) x4).tmod 10000 ∧ (s.1 (36 + 7 * u1) x4).tmod 10000 < 11) ∧ (fm_84b_p183 X29 Q u1 x3 (x4 + 1) x5 (s.1 64 ((s.1 (36 + 7 * u1) x4).tmod 10000)) s)))))) ∧ ((s.1 (36 + 7 * u1) x4).tdiv 10000 = 18 → (fm_86 (fun r46 s45 => (fm_85 (lf_w (-r46)) (fun s47 => (fm_84b_p305 X29 Q u1 x3 (x4 + 1) x5 s47)) s45)) s)) ∧ ((s.1 (36 + 7 * u1) x4).tdiv 10000 = 38 → (fm_86 (fun r49 s48 => (lf_R r49 ∧ ((r49 ≠ 0 → (fm_84b_p247 X29 Q u1 x3 x5 (x4 + 1) s48)) ∧ (¬ (r49 ≠ 0) → (fm_84b_p247 X29 Q u1 x3 x5 ((s.1 (36 + 7 * u1) x4).tmod 10000) s48))))) s)) ∧ ((s.1 (36 + 7 * u1) x4).tdiv 10000 = 39 → (fm_84b_p305 X29 Q u1 x3 ((s.1 (36 + 7 * u1) x4).tmod 10000) x5 s)) ∧ ((s.1 (36 + 7 * u1) x4).tdiv 10000 = 43 → (lf_R ((s.1 (36 + 7 * u1) x4).tmod 10000) ∧ (fm_86 (fun r53 s52 => ((0 ≤ min ((s.1 (36 + 7 * u1) x4).tmod 10000) 7 ∧ min ((s.1 (36 + 7 * u1) x4).tmod 10000) 7 < 8) ∧ (fm_84b_p305 X29 Q u1 x3 (x4 + 1) x5 (lf_up s52.1 65 (min ((s.1 (36 + 7 * u1) x4).tmod 10000) 7) r53, s52.2.1, s52.2.2)))) s))) ∧ ((s.1 (36 + 7 * u1) x4).tdiv 10000 = 44 → (fm_86 (fun r56 s55 => (fm_85 (lf_w (1 - r56)) (fun s57 => (fm_84b_p305 X29 Q u1 x3 (x4 + 1) x5 s57)) s55)) s))))))))))))))
def fm_84b_p29L (Q : Int → lf_Z → Prop) (u1 : Nat) (x3 : Int) (x4 : Int) (x5 : Int) (s : lf_Z) : Prop := ∀ X29 : Int → Int → lf_Z → Prop, (∀ (x4 : Int) (x5 : Int) (s : lf_Z), fm_84b_p29 Q u1 x3 X29 x4 x5 s → X29 x4 x5 s) → X29 x4 x5 s
set_option maxRecDepth 100000 in
theorem gm_84b_p29 {L : Nat} {xs : Nat → Int32} {d : Nat} {Q : Int → lf_Z → Prop} {u1 : Nat} {x3 : Int} {x4 : Int} {x5 : Int} {s : lf_Z} {X29 : Int → Int → lf_Z → Prop} (hX29 : ∀ x4 x5 s, X29 x4 x5 s → lf_E (px_ro L xs) (d + 2) 84 29 [(0, .ref 63), (1, .ref (35 + 7 * u1)), (3, .int (Int32.ofInt x3)), (4, .int (Int32.ofInt x4)), (5, .int (Int32.ofInt x5))] [] s (lf_qi Q)) (htu1 : u1 < 4) (h : fm_84b_p29 Q u1 x3 X29 x4 x5 s) : lf_E (px_ro L xs) (d + 2) 84 29 [(0, .ref 63), (1, .ref (35 + 7 * u1)), (3, .int (Int32.ofInt x3)), (4, .int (Int32.ofInt x4)), (5, .int (Int32.ofInt x5))] [] s (lf_qi Q) := by
  unfold fm_84b_p29 at h
  refine lf_seg 1 (pc' := 31) (lv' := [(0, .ref 63), (1, .ref (35 + 7 * u1)), (3, .int (Int32.ofInt x3)), (4, .int (Int32.ofInt x4)), (5, .int (Int32.ofInt x5))]) (st' := [.int (Int32.ofInt x5)]) rfl ?_
  refine lf_sipush 34 300 rfl rfl (by decide) (by decide) ?_
  obtain ⟨o23, h⟩ := h
  refine lf_icmp_ge 311 37 rfl rfl rfl o23 ⟨by decide, by decide⟩ (fun c => ?_) (fun c => ?_)
  · have h := h.1 c
    refine lf_sub (l := [(0, .ref 63)]) (lf_sb1 rfl lf_sb0) ?_
    exact gm_84b_p311 h
  · have h := h.2 c
    refine lf_seg 1 (pc' := 39) (lv' := [(0, .ref 63), (1, .ref (35 + 7 * u1)), (3, .int (Int32.ofInt x3)), (4, .int (Int32.ofInt x4)), (5, .int (Int32.ofInt x5))]) (st' := [.int (Int32.ofInt x4)]) rfl ?_
    obtain ⟨o26, h⟩ := h
    refine lf_if_lt 311 42 rfl rfl rfl o26 (fun c => ?_) (fun c => ?_)
    · have h := h.1 c
      refine lf_sub (l := [(0, .ref 63)]) (lf_sb1 rfl lf_sb0) ?_
      exact gm_84b_p311 h
    · have h := h.2 c
      refine lf_seg 2 (pc' := 45) (lv' := [(0, .ref 63), (1, .ref (35 + 7 * u1)), (3, .int (Int32.ofInt x3)), (4, .int (Int32.ofInt x4)), (5, .int (Int32.ofInt x5))]) (st' := [.int (Int32.ofInt x3), .int (Int32.ofInt x4)]) rfl ?_
      obtain ⟨o27, h⟩ := h
      refine lf_icmp_ge 311 48 rfl rfl rfl o26 o27 (fun c => ?_) (fun c => ?_)
      · have h := h.1 c
        refine lf_sub (l := [(0, .ref 63)]) (lf_sb1 rfl lf_sb0) ?_
        exact gm_84b_p311 h
      · have h := h.2 c
        refine lf_seg 1 (pc' := 49) (lv' := [(0, .ref 63), (1, .ref (35 + 7 * u1)), (3, .int (Int32.ofInt x3)), (4, .int (Int32.ofInt x4)), (5, .int (Int32.ofInt x5))]) (st' := [.ref (35 + 7 * u1)]) rfl ?_
        refine lf_getR 52 (w := some (36 + 7 * u1)) rfl rfl rfl (lf_scr htu1) (lf_scL htu1) rfl (lf_sP0 htu1) ?_
        refine lf_seg 1 (pc' := 54) (lv' := [(0, .ref 63), (1, .ref (35 + 7 * u1)), (3, .int (Int32.ofInt x3)), (4, .int (Int32.ofInt x4)), (5, .int (Int32.ofInt x5))]) (st' := [.int (Int32.ofInt x4), .ref (36 + 7 * u1)]) rfl ?_
        obtain ⟨o28, h⟩ := h
        refine lf_iald 55 300 rfl rfl (lf_sA0 htu1) (lf_sB0 htu1) rfl rfl o28 ?_
        refine lf_sipush 58 10000 rfl rfl (by decide) (by decide) ?_
        obtain ⟨o29, h⟩ := h
        refine lf_idiv 59 rfl rfl o29 ⟨by decide, by decide⟩ (by decide) ?_
        refine lf_seg 2 (pc' := 62) (lv' := [(6, .int (Int32.ofInt ((s.1 (36 + 7 * u1) x4).tdiv 10000))), (0, .ref 63), (1, .ref (35 + 7 * u1)), (3, .int (Int32.ofInt x3)), (4, .int (Int32.ofInt x4)), (5, .int (Int32.ofInt x5))]) (st' := [.ref (35 + 7 * u1)]) rfl ?_
        refine lf_getR 65 (w := some (36 + 7 * u1)) rfl rfl rfl (lf_scr htu1) (lf_scL htu1) rfl (lf_sP0 htu1) ?_
        refine lf_seg 1 (pc' := 67) (lv' := [(6, .int (Int32.ofInt ((s.1 (36 + 7 * u1) x4).tdiv 10000))), (0, .ref 63), (1, .ref (35 + 7 * u1)), (3, .int (Int32.ofInt x3)), (4, .int (Int32.ofInt x4)), (5, .int (Int32.ofInt x5))]) (st' := [.int (Int32.ofInt x4), .ref (36 + 7 * u1)]) rfl ?_
        refine lf_iald 68 300 rfl rfl (lf_sA0 htu1) (lf_sB0 htu1) rfl rfl o28 ?_
        refine lf_sipush 71 10000 rfl rfl (by decide) (by decide) ?_
        refine lf_irem 72 rfl rfl o29 ⟨by decide, by decide⟩ (by decide) ?_
        refine lf_seg 1 (pc' := 74) (lv' := [(7, .int (Int32.ofInt ((s.1 (36 + 7 * u1) x4).tmod 10000))), (6, .int (Int32.ofInt ((s.1 (36 + 7 * u1) x4).tdiv 10000))), (0, .ref 63), (1, .ref (35 + 7 * u1)), (3, .int (Int32.ofInt x3)), (4, .int (Int32.ofInt x4)), (5, .int (Int32.ofInt x5))]) (st' := []) rfl ?_
        refine lf_iinc 77 rfl rfl rfl rfl ?_
        refine lf_seg 1 (pc' := 79) (lv' := [(4, .int (Int32.ofInt (x4 + 1))), (7, .int (Int32.ofInt ((s.1 (36 + 7 * u1) x4).tmod 10000))), (6, .int (Int32.ofInt ((s.1 (36 + 7 * u1) x4).tdiv 10000))), (0, .ref 63), (1, .ref (35 + 7 * u1)), (3, .int (Int32.ofInt x3)), (5, .int (Int32.ofInt x5))]) (st' := [.int (Int32.ofInt ((s.1 (36 + 7 * u1) x4).tdiv 10000))]) rfl ?_
        obtain ⟨o30, h⟩ := h
        refine lf_lsw 284 [(2, 152), (3, 189), (17, 161), (18, 259), (38, 233), (39, 252), (43, 214), (44, 271)] rfl rfl (by decide) (by decide) (by decide) o30 (fun c => ?_) (lf_tab1 (fun c => ?_) (lf_tab1 (fun c => ?_) (lf_tab1 (fun c => ?_) (lf_tab1 (fun c => ?_) (lf_tab1 (fun c => ?_) (lf_tab1 (fun c => ?_) (lf_tab1 (fun c => ?_) (lf_tab1 (fun c => ?_) lf_tab0))))))))
        · have h := h.1 c
          refine lf_seg 1 (pc' := 285) (lv' := [(4, .int (Int32.ofInt (x4 + 1))), (7, .int (Int32.ofInt ((s.1 (36 + 7 * u1) x4).tmod 10000))), (6, .int (Int32.ofInt ((s.1 (36 + 7 * u1) x4).tdiv 10000))), (0, .ref 63), (1, .ref (35 + 7 * u1)), (3, .int (Int32.ofInt x3)), (5, .int (Int32.ofInt x5))]) (st' := [.ref 63]) rfl ?_
          refine lf_callI 288 rfl rfl rfl rfl (gm_86 h) (fun r32 s31 h => ?_)
          refine lf_seg 4 (pc' := 294) (lv' := [(8, .int (Int32.ofInt r32)), (4, .int (Int32.ofInt (x4 + 1))), (7, .int (Int32.ofInt ((s.1 (36 + 7 * u1) x4).tmod 10000))), (6, .int (Int32.ofInt ((s.1 (36 + 7 * u1) x4).tdiv 10000))), (0, .ref 63), (1, .ref (35 + 7 * u1)), (3, .int (Int32.ofInt x3)), (5, .int (Int32.ofInt x5))]) (st' := [.ref 63, .int (Int32.ofInt ((s.1 (36 + 7 * u1) x4).tdiv 10000)), .ref 63]) rfl ?_
          refine lf_callI 297 rfl rfl rfl rfl (gm_86 h) (fun r34 s33 h => ?_)
          refine lf_seg 1 (pc' := 299) (lv' := [(8, .int (Int32.ofInt r32)), (4, .int (Int32.ofInt (x4 + 1))), (7, .int (Int32.ofInt ((s.1 (36 + 7 * u1) x4).tmod 10000))), (6, .int (Int32.ofInt ((s.1 (36 + 7 * u1) x4).tdiv 10000))), (0, .ref 63), (1, .ref (35 + 7 * u1)), (3, .int (Int32.ofInt x3)), (5, .int (Int32.ofInt x5))]) (st' := [.int (Int32.ofInt r32), .int (Int32.ofInt r34), .int (Int32.ofInt ((s.1 (36 + 7 * u1) x4).tdiv 10000)), .ref 63]) rfl ?_
          refine lf_callI 302 rfl rfl rfl rfl (gm_87 h) (fun r36 s35 h => ?_)
          refine lf_callV 305 rfl rfl rfl rfl (gm_85 h) (fun s37 h => ?_)
          refine lf_sub (l := [(0, .ref 63), (1, .ref (35 + 7 * u1)), (3, .int (Int32.ofInt x3)), (4, .int (Int32.ofInt (x4 + 1))), (5, .int (Int32.ofInt x5))]) (lf_sb1 rfl (lf_sb1 rfl (lf_sb1 rfl (lf_sb1 rfl (lf_sb1 rfl lf_sb0))))) ?_
          exact gm_84b_p305 hX29 htu1 h
        · have h := h.2.1 c
          refine lf_seg 2 (pc' := 155) (lv' := [(4, .int (Int32.ofInt (x4 + 1))), (7, .int (Int32.ofInt ((s.1 (36 + 7 * u1) x4).tmod 10000))), (6, .int (Int32.ofInt ((s.1 (36 + 7 * u1) x4).tdiv 10000))), (0, .ref 63), (1, .ref (35 + 7 * u1)), (3, .int (Int32.ofInt x3)), (5, .int (Int32.ofInt x5))]) (st' := [.int (Int32.ofInt ((s.1 (36 + 7 * u1) x4).tmod 10000)), .ref 63]) rfl ?_
          refine lf_callV 158 rfl rfl rfl rfl (gm_85 h) (fun s38 h => ?_)
          refine lf_seg 1 (pc' := 305) (lv' := [(4, .int (Int32.ofInt (x4 + 1))), (7, .int (Int32.ofInt ((s.1 (36 + 7 * u1) x4).tmod 10000))), (6, .int (Int32.ofInt ((s.1 (36 + 7 * u1) x4).tdiv 10000))), (0, .ref 63), (1, .ref (35 + 7 * u1)), (3, .int (Int32.ofInt x3)), (5, .int (Int32.ofInt x5))]) (st' := []) rfl ?_
          refine lf_sub (l := [(0, .ref 63), (1, .ref (35 + 7 * u1)), (3, .int (Int32.ofInt x3)), (4, .int (Int32.ofInt (x4 + 1))), (5, .int (Int32.ofInt x5))]) (lf_sb1 rfl (lf_sb1 rfl (lf_sb1 rfl (lf_sb1 rfl (lf_sb1 rfl lf_sb0))))) ?_
          exact gm_84b_p305 hX29 htu1 h
        · have h := h.2.2.1 c
          refine lf_seg 2 (pc' := 192) (lv' := [(4, .int (Int32.ofInt (x4 + 1))), (7, .int (Int32.ofInt ((s.1 (36 + 7 * u1) x4).tmod 10000))), (6, .int (Int32.ofInt ((s.1 (36 + 7 * u1) x4).tdiv 10000))), (0, .ref 63), (1, .ref (35 + 7 * u1)), (3, .int (Int32.ofInt x3)), (5, .int (Int32.ofInt x5))]) (st' := [.int (Int32.ofInt ((s.1 (36 + 7 * u1) x4).tmod 10000)), .ref 63]) rfl ?_
          refine lf_bipush 194 8 rfl rfl (by decide) (by decide) ?_
          obtain ⟨o39, h⟩ := h
          refine lf_icmp_ge 207 197 rfl rfl rfl o39 ⟨by decide, by decide⟩ (fun c => ?_) (fun c => ?_)
          · have h := h.1 c
            refine lf_seg 1 (pc' := 208) (lv' := [(4, .int (Int32.ofInt (x4 + 1))), (7, .int (Int32.ofInt ((s.1 (36 + 7 * u1) x4).tmod 10000))), (6, .int (Int32.ofInt ((s.1 (36 + 7 * u1) x4).tdiv 10000))), (0, .ref 63), (1, .ref (35 + 7 * u1)), (3, .int (Int32.ofInt x3)), (5, .int (Int32.ofInt x5))]) (st' := [.int (Int32.ofInt 0), .ref 63]) rfl ?_
            refine lf_sub (l := [(0, .ref 63), (1, .ref (35 + 7 * u1)), (3, .int (Int32.ofInt x3)), (4, .int (Int32.ofInt (x4 + 1))), (5, .int (Int32.ofInt x5))]) (lf_sb1 rfl (lf_sb1 rfl (lf_sb1 rfl (lf_sb1 rfl (lf_sb1 rfl lf_sb0))))) ?_
            exact gm_84b_p208 hX29 htu1 h
          · have h := h.2 c
            refine lf_seg 3 (pc' := 203) (lv' := [(4, .int (Int32.ofInt (x4 + 1))), (7, .int (Int32.ofInt ((s.1 (36 + 7 * u1) x4).tmod 10000))), (6, .int (Int32.ofInt ((s.1 (36 + 7 * u1) x4).tdiv 10000))), (0, .ref 63), (1, .ref (35 + 7 * u1)), (3, .int (Int32.ofInt x3)), (5, .int (Int32.ofInt x5))]) (st' := [.int (Int32.ofInt ((s.1 (36 + 7 * u1) x4).tmod 10000)), .ref 65, .ref 63]) rfl ?_
            obtain ⟨o41, h⟩ := h
            refine lf_iald 204 8 rfl rfl rfl rfl rfl rfl o41 ?_
            refine lf_seg 1 (pc' := 208) (lv' := [(4, .int (Int32.ofInt (x4 + 1))), (7, .int (Int32.ofInt ((s.1 (36 + 7 * u1) x4).tmod 10000))), (6, .int (Int32.ofInt ((s.1 (36 + 7 * u1) x4).tdiv 10000))), (0, .ref 63), (1, .ref (35 + 7 * u1)), (3, .int (Int32.ofInt x3)), (5, .int (Int32.ofInt x5))]) (st' := [.int (Int32.ofInt (s.1 65 ((s.1 (36 + 7 * u1) x4).tmod 10000))), .ref 63]) rfl ?_
            refine lf_sub (l := [(0, .ref 63), (1, .ref (35 + 7 * u1)), (3, .int (Int32.ofInt x3)), (4, .int (Int32.ofInt (x4 + 1))), (5, .int (Int32.ofInt x5))]) (lf_sb1 rfl (lf_sb1 rfl (lf_sb1 rfl (lf_sb1 rfl (lf_sb1 rfl lf_sb0))))) ?_
            exact gm_84b_p208 hX29 htu1 h
        · have h := h.2.2.2.1 c
          refine lf_seg 4 (pc' := 168) (lv' := [(4, .int (Int32.ofInt (x4 + 1))), (7, .int (Int32.ofInt ((s.1 (36 + 7 * u1) x4).tmod 10000))), (6, .int (Int32.ofInt ((s.1 (36 + 7 * u1) x4).tdiv 10000))), (0, .ref 63), (1, .ref (35 + 7 * u1)), (3, .int (Int32.ofInt x3)), (5, .int (Int32.ofInt x5))]) (st' := [.ref 64, .int (Int32.ofInt ((s.1 (36 + 7 * u1) x4).tmod 10000)), .ref 63]) rfl ?_
          refine lf_len 169 11 rfl rfl rfl rfl rfl rfl ?_
          obtain ⟨o42, h⟩ := h
          refine lf_icmp_ge 182 172 rfl rfl rfl o42 ⟨by decide, by decide⟩ (fun c => ?_) (fun c => ?_)
          · have h := h.1 c
            refine lf_seg 1 (pc' := 183) (lv' := [(4, .int (Int32.ofInt (x4 + 1))), (7, .int (Int32.ofInt ((s.1 (36 + 7 * u1) x4).tmod 10000))), (6, .int (Int32.ofInt ((s.1 (36 + 7 * u1) x4).tdiv 10000))), (0, .ref 63), (1, .ref (35 + 7 * u1)), (3, .int (Int32.ofInt x3)), (5, .int (Int32.ofInt x5))]) (st' := [.int (Int32.ofInt 0), .ref 63]) rfl ?_
            refine lf_sub (l := [(0, .ref 63), (1, .ref (35 + 7 * u1)), (3, .int (Int32.ofInt x3)), (4, .int (Int32.ofInt (x4 + 1))), (5, .int (Int32.ofInt x5))]) (lf_sb1 rfl (lf_sb1 rfl (lf_sb1 rfl (lf_sb1 rfl (lf_sb1 rfl lf_sb0))))) ?_
            exact gm_84b_p183 hX29 htu1 h
          · have h := h.2 c
            refine lf_seg 3 (pc' := 178) (lv' := [(4, .int (Int32.ofInt (x4 + 1))), (7, .int (Int32.ofInt ((s.1 (36 + 7 * u1) x4).tmod 10000))), (6, .int (Int32.ofInt ((s.1 (36 + 7 * u1) x4).tdiv 10000))), (0, .ref 63), (1, .ref (35 + 7 * u1)), (3, .int (Int32.ofInt x3)), (5, .int (Int32.ofInt x5))]) (st' := [.int (Int32.ofInt ((s.1 (36 + 7 * u1) x4).tmod 10000)), .ref 64, .ref 63]) rfl ?_
            obtain ⟨o44, h⟩ := h
            refine lf_iald 179 11 rfl rfl rfl rfl rfl rfl o44 ?_
            refine lf_seg 1 (pc' := 183) (lv' := [(4, .int (Int32.ofInt (x4 + 1))), (7, .int (Int32.ofInt ((s.1 (36 + 7 * u1) x4).tmod 10000))), (6, .int (Int32.ofInt ((s.1 (36 + 7 * u1) x4).tdiv 10000))), (0, .ref 63), (1, .ref (35 + 7 * u1)), (3, .int (Int32.ofInt x3)), (5, .int (Int32.ofInt x5))]) (st' := [.int (Int32.ofInt (s.1 64 ((s.1 (36 + 7 * u1) x4).tmod 10000))), .ref 63]) rfl ?_
            refine lf_sub (l := [(0, .ref 63), (1, .ref (35 + 7 * u1)), (3, .int (Int32.ofInt x3)), (4, .int (Int32.ofInt (x4 + 1))), (5, .int (Int32.ofInt x5))]) (lf_sb1 rfl (lf_sb1 rfl (lf_sb1 rfl (lf_sb1 rfl (lf_sb1 rfl lf_sb0))))) ?_
            exact gm_84b_p183 hX29 htu1 h
        · have h := h.2.2.2.2.1 c
          refine lf_seg 2 (pc' := 261) (lv' := [(4, .int (Int32.ofInt (x4 + 1))), (7, .int (Int32.ofInt ((s.1 (36 + 7 * u1) x4).tmod 10000))), (6, .int (Int32.ofInt ((s.1 (36 + 7 * u1) x4).tdiv 10000))), (0, .ref 63), (1, .ref (35 + 7 * u1)), (3, .int (Int32.ofInt x3)), (5, .int (Int32.ofInt x5))]) (st' := [.ref 63, .ref 63]) rfl ?_
          refine lf_callI 264 rfl rfl rfl rfl (gm_86 h) (fun r46 s45 h => ?_)
          refine lf_ineg 265 rfl rfl ?_
          refine lf_wtI ?_
          refine lf_callV 268 rfl rfl rfl rfl (gm_85 h) (fun s47 h => ?_)
          refine lf_seg 1 (pc' := 305) (lv' := [(4, .int (Int32.ofInt (x4 + 1))), (7, .int (Int32.ofInt ((s.1 (36 + 7 * u1) x4).tmod 10000))), (6, .int (Int32.ofInt ((s.1 (36 + 7 * u1) x4).tdiv 10000))), (0, .ref 63), (1, .ref (35 + 7 * u1)), (3, .int (Int32.ofInt x3)), (5, .int (Int32.ofInt x5))]) (st' := []) rfl ?_
          refine lf_sub (l := [(0, .ref 63), (1, .ref (35 + 7 * u1)), (3, .int (Int32.ofInt x3)), (4, .int (Int32.ofInt (x4 + 1))), (5, .int (Int32.ofInt x5))]) (lf_sb1 rfl (lf_sb1 rfl (lf_sb1 rfl (lf_sb1 rfl (lf_sb1 rfl lf_sb0))))) ?_
          exact gm_84b_p305 hX29 htu1 h
        · have h := h.2.2.2.2.2.1 c
          refine lf_seg 1 (pc' := 234) (lv' := [(4, .int (Int32.ofInt (x4 + 1))), (7, .int (Int32.ofInt ((s.1 (36 + 7 * u1) x4).tmod 10000))), (6, .int (Int32.ofInt ((s.1 (36 + 7 * u1) x4).tdiv 10000))), (0, .ref 63), (1, .ref (35 + 7 * u1)), (3, .int (Int32.ofInt x3)), (5, .int (Int32.ofInt x5))]) (st' := [.ref 63]) rfl ?_
          refine lf_callI 237 rfl rfl rfl rfl (gm_86 h) (fun r49 s48 h => ?_)
          obtain ⟨o50, h⟩ := h
          refine lf_if_ne 245 240 rfl rfl rfl o50 (fun c => ?_) (fun c => ?_)
          · have h := h.1 c
            refine lf_seg 1 (pc' := 247) (lv' := [(4, .int (Int32.ofInt (x4 + 1))), (7, .int (Int32.ofInt ((s.1 (36 + 7 * u1) x4).tmod 10000))), (6, .int (Int32.ofInt ((s.1 (36 + 7 * u1) x4).tdiv 10000))), (0, .ref 63), (1, .ref (35 + 7 * u1)), (3, .int (Int32.ofInt x3)), (5, .int (Int32.ofInt x5))]) (st' := [.int (Int32.ofInt (x4 + 1))]) rfl ?_
            refine lf_sub (l := [(0, .ref 63), (1, .ref (35 + 7 * u1)), (3, .int (Int32.ofInt x3)), (5, .int (Int32.ofInt x5))]) (lf_sb1 rfl (lf_sb1 rfl (lf_sb1 rfl (lf_sb1 rfl lf_sb0)))) ?_
            exact gm_84b_p247 hX29 htu1 h
          · have h := h.2 c
            refine lf_seg 2 (pc' := 247) (lv' := [(4, .int (Int32.ofInt (x4 + 1))), (7, .int (Int32.ofInt ((s.1 (36 + 7 * u1) x4).tmod 10000))), (6, .int (Int32.ofInt ((s.1 (36 + 7 * u1) x4).tdiv 10000))), (0, .ref 63), (1, .ref (35 + 7 * u1)), (3, .int (Int32.ofInt x3)), (5, .int (Int32.ofInt x5))]) (st' := [.int (Int32.ofInt ((s.1 (36 + 7 * u1) x4).tmod 10000))]) rfl ?_
            refine lf_sub (l := [(0, .ref 63), (1, .ref (35 + 7 * u1)), (3, .int (Int32.ofInt x3)), (5, .int (Int32.ofInt x5))]) (lf_sb1 rfl (lf_sb1 rfl (lf_sb1 rfl (lf_sb1 rfl lf_sb0)))) ?_
            exact gm_84b_p247 hX29 htu1 h
        · have h := h.2.2.2.2.2.2.1 c
          refine lf_seg 3 (pc' := 305) (lv' := [(4, .int (Int32.ofInt ((s.1 (36 + 7 * u1) x4).tmod 10000))), (7, .int (Int32.ofInt ((s.1 (36 + 7 * u1) x4).tmod 10000))), (6, .int (Int32.ofInt ((s.1 (36 + 7 * u1) x4).tdiv 10000))), (0, .ref 63), (1, .ref (35 + 7 * u1)), (3, .int (Int32.ofInt x3)), (5, .int (Int32.ofInt x5))]) (st' := []) rfl ?_
          refine lf_sub (l := [(0, .ref 63), (1, .ref (35 + 7 * u1)), (3, .int (Int32.ofInt x3)), (4, .int (Int32.ofInt ((s.1 (36 + 7 * u1) x4).tmod 10000))), (5, .int (Int32.ofInt x5))]) (lf_sb1 rfl (lf_sb1 rfl (lf_sb1 rfl (lf_sb1 rfl (lf_sb1 rfl lf_sb0))))) ?_
          exact gm_84b_p305 hX29 htu1 h
        · have h := h.2.2.2.2.2.2.2.1 c
          refine lf_seg 3 (pc' := 220) (lv' := [(4, .int (Int32.ofInt (x4 + 1))), (7, .int (Int32.ofInt ((s.1 (36 + 7 * u1) x4).tmod 10000))), (6, .int (Int32.ofInt ((s.1 (36 + 7 * u1) x4).tdiv 10000))), (0, .ref 63), (1, .ref (35 + 7 * u1)), (3, .int (Int32.ofInt x3)), (5, .int (Int32.ofInt x5))]) (st' := [.int (Int32.ofInt ((s.1 (36 + 7 * u1) x4).tmod 10000)), .ref 65]) rfl ?_
          refine lf_bipush 222 7 rfl rfl (by decide) (by decide) ?_
          obtain ⟨o51, h⟩ := h
          refine lf_imin 225 rfl rfl rfl rfl o51 ⟨by decide, by decide⟩ ?_
          refine lf_seg 1 (pc' := 226) (lv' := [(4, .int (Int32.ofInt (x4 + 1))), (7, .int (Int32.ofInt ((s.1 (36 + 7 * u1) x4).tmod 10000))), (6, .int (Int32.ofInt ((s.1 (36 + 7 * u1) x4).tdiv 10000))), (0, .ref 63), (1, .ref (35 + 7 * u1)), (3, .int (Int32.ofInt x3)), (5, .int (Int32.ofInt x5))]) (st' := [.ref 63, .int (Int32.ofInt (min ((s.1 (36 + 7 * u1) x4).tmod 10000) 7)), .ref 65]) rfl ?_
          refine lf_callI 229 rfl rfl rfl rfl (gm_86 h) (fun r53 s52 h => ?_)
          obtain ⟨o54, h⟩ := h
          refine lf_iast 230 8 rfl rfl rfl rfl rfl rfl o54 ?_
          refine lf_as (lf_up s52.1 65 (min ((s.1 (36 + 7 * u1) x4).tmod 10000) 7) r53, s52.2.1, s52.2.2) rfl ?_
          refine lf_seg 1 (pc' := 305) (lv' := [(4, .int (Int32.ofInt (x4 + 1))), (7, .int (Int32.ofInt ((s.1 (36 + 7 * u1) x4).tmod 10000))), (6, .int (Int32.ofInt ((s.1 (36 + 7 * u1) x4).tdiv 10000))), (0, .ref 63), (1, .ref (35 + 7 * u1)), (3, .int (Int32.ofInt x3)), (5, .int (Int32.ofInt x5))]) (st' := []) rfl ?_
          refine lf_sub (l := [(0, .ref 63), (1, .ref (35 + 7 * u1)), (3, .int (Int32.ofInt x3)), (4, .int (Int32.ofInt (x4 + 1))), (5, .int (Int32.ofInt x5))]) (lf_sb1 rfl (lf_sb1 rfl (lf_sb1 rfl (lf_sb1 rfl (lf_sb1 rfl lf_sb0))))) ?_
          exact gm_84b_p305 hX29 htu1 h
        · have h := h.2.2.2.2.2.2.2.2 c
          refine lf_seg 3 (pc' := 274) (lv' := [(4, .int (Int32.ofInt (x4 + 1))), (7, .int (Int32.ofInt ((s.1 (36 + 7 * u1) x4).tmod 10000))), (6, .int (Int32.ofInt ((s.1 (36 + 7 * u1) x4).tdiv 10000))), (0, .ref 63), (1, .ref (35 + 7 * u1)), (3, .int (Int32.ofInt x3)), (5, .int (Int32.ofInt x5))]) (st' := [.ref 63, .int (Int32.ofInt 1), .ref 63]) rfl ?_
          refine lf_callI 277 rfl rfl rfl rfl (gm_86 h) (fun r56 s55 h => ?_)
          refine lf_isub 278 rfl rfl ?_
          refine lf_wtI ?_
          refine lf_callV 281 rfl rfl rfl rfl (gm_85 h) (fun s57 h => ?_)
          refine lf_seg 1 (pc' := 305) (lv' := [(4, .int (Int32.ofInt (x4 + 1))), (7, .int (Int32.ofInt ((s.1 (36 + 7 * u1) x4).tmod 10000))), (6, .int (Int32.ofInt ((s.1 (36 + 7 * u1) x4).tdiv 10000))), (0, .ref 63), (1, .ref (35 + 7 * u1)), (3, .int (Int32.ofInt x3)), (5, .int (Int32.ofInt x5))]) (st' := []) rfl ?_
          refine lf_sub (l := [(0, .ref 63), (1, .ref (35 + 7 * u1)), (3, .int (Int32.ofInt x3)), (4, .int (Int32.ofInt (x4 + 1))), (5, .int (Int32.ofInt x5))]) (lf_sb1 rfl (lf_sb1 rfl (lf_sb1 rfl (lf_sb1 rfl (lf_sb1 rfl lf_sb0))))) ?_
          exact gm_84b_p305 hX29 htu1 h
theorem gm_84b_p29L {L : Nat} {xs : Nat → Int32} {d : Nat} {Q : Int → lf_Z → Prop} {u1 : Nat} {x3 : Int} {x4 : Int} {x5 : Int} {s : lf_Z} (htu1 : u1 < 4) (h : fm_84b_p29L Q u1 x3 x4 x5 s) : lf_E (px_ro L xs) (d + 2) 84 29 [(0, .ref 63), (1, .ref (35 + 7 * u1)), (3, .int (Int32.ofInt x3)), (4, .int (Int32.ofInt x4)), (5, .int (Int32.ofInt x5))] [] s (lf_qi Q) :=
  h (fun x4 x5 s => lf_E (px_ro L xs) (d + 2) 84 29 [(0, .ref 63), (1, .ref (35 + 7 * u1)), (3, .int (Int32.ofInt x3)), (4, .int (Int32.ofInt x4)), (5, .int (Int32.ofInt x5))] [] s (lf_qi Q)) (fun x4 x5 s hb => gm_84b_p29 (fun _ _ _ h => h) htu1 hb)
def fm_84b (t1 : Nat) (a2 : Int) (Q : Int → lf_Z → Prop) (s : lf_Z) : Prop := (0 ≤ a2 ∧ a2 < 3) ∧ (lf_R ((lf_up s.1 63 6 0) (38 + 7 * t1) a2) ∧ (fm_84b_p29L Q t1 (min ((lf_up s.1 63 6 0) (38 + 7 * t1) a2) 300) ((lf_up s.1 63 6 0) (37 + 7 * t1) a2) 0 (lf_up s.1 63 6 0, s.2.1, s.2.2)))
set_option maxRecDepth 100000 in
theorem gm_84b {L : Nat} {xs : Nat → Int32} {d : Nat} {t1 : Nat} {a2 : Int} {Q : Int → lf_Z → Prop} {s : lf_Z} (htt1 : t1 < 4) (h : fm_84b t1 a2 Q s) : lf_M (px_ro L xs) (d + 2) 84 [.ref 63, .ref (35 + 7 * t1), .int (Int32.ofInt a2)] s (lf_qi Q) := by
  unfold fm_84b at h
  show lf_E (px_ro L xs) (d + 2) 84 0 [(0, .ref 63), (1, .ref (35 + 7 * t1)), (2, .int (Int32.ofInt a2))] [] s _
  refine lf_seg 2 (pc' := 2) (lv' := [(0, .ref 63), (1, .ref (35 + 7 * t1)), (2, .int (Int32.ofInt a2))]) (st' := [.int (Int32.ofInt 0), .ref 63]) rfl ?_
  refine lf_putI 5 6 rfl rfl rfl rfl rfl rfl rfl rfl ?_
  refine lf_as (lf_up s.1 63 6 0, s.2.1, s.2.2) rfl ?_
  refine lf_seg 1 (pc' := 6) (lv' := [(0, .ref 63), (1, .ref (35 + 7 * t1)), (2, .int (Int32.ofInt a2))]) (st' := [.ref (35 + 7 * t1)]) rfl ?_
  refine lf_getR 9 (w := some (38 + 7 * t1)) rfl rfl rfl (lf_scr htt1) (lf_scL htt1) rfl (lf_sP3 htt1) ?_
  refine lf_seg 1 (pc' := 10) (lv' := [(0, .ref 63), (1, .ref (35 + 7 * t1)), (2, .int (Int32.ofInt a2))]) (st' := [.int (Int32.ofInt a2), .ref (38 + 7 * t1)]) rfl ?_
  obtain ⟨o21, h⟩ := h
  refine lf_iald 11 3 rfl rfl (lf_sA3 htt1) (lf_sB3 htt1) rfl rfl o21 ?_
  refine lf_sipush 14 300 rfl rfl (by decide) (by decide) ?_
  obtain ⟨o22, h⟩ := h
  refine lf_imin 17 rfl rfl rfl rfl o22 ⟨by decide, by decide⟩ ?_
  refine lf_seg 2 (pc' := 19) (lv' := [(3, .int (Int32.ofInt (min ((lf_up s.1 63 6 0) (38 + 7 * t1) a2) 300))), (0, .ref 63), (1, .ref (35 + 7 * t1)), (2, .int (Int32.ofInt a2))]) (st' := [.ref (35 + 7 * t1)]) rfl ?_
  refine lf_getR 22 (w := some (37 + 7 * t1)) rfl rfl rfl (lf_scr htt1) (lf_scL htt1) rfl (lf_sP2 htt1) ?_
  refine lf_seg 1 (pc' := 23) (lv' := [(3, .int (Int32.ofInt (min ((lf_up s.1 63 6 0) (38 + 7 * t1) a2) 300))), (0, .ref 63), (1, .ref (35 + 7 * t1)), (2, .int (Int32.ofInt a2))]) (st' := [.int (Int32.ofInt a2), .ref (37 + 7 * t1)]) rfl ?_
  refine lf_iald 24 3 rfl rfl (lf_sA2 htt1) (lf_sB2 htt1) rfl rfl o21 ?_
  refine lf_seg 3 (pc' := 29) (lv' := [(5, .int (Int32.ofInt 0)), (4, .int (Int32.ofInt ((lf_up s.1 63 6 0) (37 + 7 * t1) a2))), (3, .int (Int32.ofInt (min ((lf_up s.1 63 6 0) (38 + 7 * t1) a2) 300))), (0, .ref 63), (1, .ref (35 + 7 * t1)), (2, .int (Int32.ofInt a2))]) (st' := []) rfl ?_
  refine lf_sub (l := [(0, .ref 63), (1, .ref (35 + 7 * t1)), (3, .int (Int32.ofInt (min ((lf_up s.1 63 6 0) (38 + 7 * t1) a2) 300))), (4, .int (Int32.ofInt ((lf_up s.1 63 6 0) (37 + 7 * t1) a2))), (5, .int (Int32.ofInt 0))]) (lf_sb1 rfl (lf_sb1 rfl (lf_sb1 rfl (lf_sb1 rfl (lf_sb1 rfl lf_sb0))))) ?_
  exact gm_84b_p29L htt1 h
