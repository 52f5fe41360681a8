-- fm_80 Stand.hasBunch 15 i
def fm_80 (a1 : Int) (Q : Bool → lf_Z → Prop) (s : lf_Z) : Prop := lf_R a1 ∧ ((a1 < 0 → (Q false s)) ∧ (¬ (a1 < 0) → ((4 ≤ a1 → (Q false s)) ∧ (¬ (4 ≤ a1) → ((0 ≤ a1 ∧ a1 < 4) ∧ (lf_R (s.1 16 a1) ∧ ((s.1 16 a1 ≤ 0 → (Q false s)) ∧ (¬ (s.1 16 a1 ≤ 0) → (Q true s)))))))))
set_option maxRecDepth 100000 in
theorem gm_80 {L : Nat} {xs : Nat → Int32} {d : Nat} {a1 : Int} {Q : Bool → lf_Z → Prop} {s : lf_Z} (h : fm_80 a1 Q s) : lf_M (px_ro L xs) (d + 1) 80 [.ref 15, .int (Int32.ofInt a1)] s (lf_qz Q) := by
  unfold fm_80 at h
  show lf_E (px_ro L xs) (d + 1) 80 0 [(0, .ref 15), (1, .int (Int32.ofInt a1))] [] s _
  refine lf_seg 1 (pc' := 1) (lv' := [(0, .ref 15), (1, .int (Int32.ofInt a1))]) (st' := [.int (Int32.ofInt a1)]) rfl ?_
  obtain ⟨o21, h⟩ := h
  refine lf_if_lt 22 4 rfl rfl rfl o21 (fun c => ?_) (fun c => ?_)
  · have h := h.1 c
    refine lf_seg 1 (pc' := 23) (lv' := [(0, .ref 15), (1, .int (Int32.ofInt a1))]) (st' := [.int (Int32.ofInt 0)]) rfl ?_
    exact lf_retZ false rfl rfl h
  · have h := h.2 c
    refine lf_seg 2 (pc' := 6) (lv' := [(0, .ref 15), (1, .int (Int32.ofInt a1))]) (st' := [.int (Int32.ofInt 4), .int (Int32.ofInt a1)]) rfl ?_
    refine lf_icmp_ge 22 9 rfl rfl rfl o21 ⟨by decide, by decide⟩ (fun c => ?_) (fun c => ?_)
    · have h := h.1 c
      refine lf_seg 1 (pc' := 23) (lv' := [(0, .ref 15), (1, .int (Int32.ofInt a1))]) (st' := [.int (Int32.ofInt 0)]) rfl ?_
      exact lf_retZ false rfl rfl h
    · have h := h.2 c
      refine lf_seg 3 (pc' := 14) (lv' := [(0, .ref 15), (1, .int (Int32.ofInt a1))]) (st' := [.int (Int32.ofInt a1), .ref 16]) rfl ?_
      obtain ⟨o22, h⟩ := h
      refine lf_iald 15 4 rfl rfl rfl rfl rfl rfl o22 ?_
      obtain ⟨o23, h⟩ := h
      refine lf_if_le 22 18 rfl rfl rfl o23 (fun c => ?_) (fun c => ?_)
      · have h := h.1 c
        refine lf_seg 1 (pc' := 23) (lv' := [(0, .ref 15), (1, .int (Int32.ofInt a1))]) (st' := [.int (Int32.ofInt 0)]) rfl ?_
        exact lf_retZ false rfl rfl h
      · have h := h.2 c
        refine lf_seg 2 (pc' := 23) (lv' := [(0, .ref 15), (1, .int (Int32.ofInt a1))]) (st' := [.int (Int32.ofInt 1)]) rfl ?_
        exact lf_retZ true rfl rfl h
-- fm_95 Minutes.doHarm 67
def fm_95_p59 (X2 : Int → lf_Z → Prop) (Q : lf_Z → Prop) (x1 : Int) (s : lf_Z) : Prop := X2 (x1 + 1) s
set_option maxRecDepth 100000 in
theorem gm_95_p59 {L : Nat} {xs : Nat → Int32} {d : Nat} {X2 : Int → lf_Z → Prop} {Q : lf_Z → Prop} {x1 : Int} {s : lf_Z} (hX2 : ∀ x1 s, X2 x1 s → lf_E (px_ro L xs) (d + 2) 95 2 [(0, .ref 67), (1, .int (Int32.ofInt x1))] [] s (lf_qv Q)) (h : fm_95_p59 X2 Q x1 s) : lf_E (px_ro L xs) (d + 2) 95 59 [(0, .ref 67), (1, .int (Int32.ofInt x1))] [] s (lf_qv Q) := by
  unfold fm_95_p59 at h
  refine lf_iinc 62 rfl rfl rfl rfl ?_
  refine lf_seg 1 (pc' := 2) (lv' := [(1, .int (Int32.ofInt (x1 + 1))), (0, .ref 67)]) (st' := []) rfl ?_
  refine lf_sub (l := [(0, .ref 67), (1, .int (Int32.ofInt (x1 + 1)))]) (lf_sb1 rfl (lf_sb1 rfl lf_sb0)) ?_
  exact hX2 _ _ h
def fm_95_p2 (Q : lf_Z → Prop) (X2 : Int → lf_Z → Prop) (x1 : Int) (s : lf_Z) : Prop := lf_R x1 ∧ ((4 ≤ x1 → (Q s)) ∧ (¬ (4 ≤ x1) → (fm_80 x1 (fun z23 s22 => ((z23 = false → (fm_95_p59 X2 Q x1 s22)) ∧ (z23 = true → ((0 ≤ x1 ∧ x1 < 4) ∧ ((0 ≤ s22.1 17 x1 ∧ s22.1 17 x1 < 12) ∧ (fm_95_p59 X2 Q x1 (lf_up s22.1 21 (s22.1 17 x1) (lf_w ((s22.1 21 (s22.1 17 x1)) + (lf_w ((s22.1 16 x1) * (s22.1 3 (s22.1 17 x1)))))), s22.2.1, s22.2.2))))))) s)))
def fm_95_p2L (Q : lf_Z → Prop) (x1 : Int) (s : lf_Z) : Prop := ∀ X2 : Int → lf_Z → Prop, (∀ (x1 : Int) (s : lf_Z), fm_95_p2 Q X2 x1 s → X2 x1 s) → X2 x1 s
set_option maxRecDepth 100000 in
theorem gm_95_p2 {L : Nat} {xs : Nat → Int32} {d : Nat} {Q : lf_Z → Prop} {x1 : Int} {s : lf_Z} {X2 : Int → lf_Z → Prop} (hX2 : ∀ x1 s, X2 x1 s → lf_E (px_ro L xs) (d + 2) 95 2 [(0, .ref 67), (1, .int (Int32.ofInt x1))] [] s (lf_qv Q)) (h : fm_95_p2 Q X2 x1 s) : lf_E (px_ro L xs) (d + 2) 95 2 [(0, .ref 67), (1, .int (Int32.ofInt x1))] [] s (lf_qv Q) := by
  unfold fm_95_p2 at h
  refine lf_seg 2 (pc' := 4) (lv' := [(0, .ref 67), (1, .int (Int32.ofInt x1))]) (st' := [.int (Int32.ofInt 4), .int (Int32.ofInt x1)]) rfl ?_
  obtain ⟨o21, h⟩ := h
  refine lf_icmp_ge 65 7 rfl rfl rfl o21 ⟨by decide, by decide⟩ (fun c => ?_) (fun c => ?_)
  · have h := h.1 c
    exact lf_retV rfl rfl h
  · have h := h.2 c
    refine lf_seg 3 (pc' := 12) (lv' := [(0, .ref 67), (1, .int (Int32.ofInt x1))]) (st' := [.int (Int32.ofInt x1), .ref 15]) rfl ?_
    refine lf_callZ 15 rfl rfl rfl rfl (gm_80 h) (fun z23 s22 h => ?_)
    refine lf_ifz_eq 59 18 rfl rfl rfl (fun c => ?_) (fun c => ?_)
    · have h := h.1 c
      refine lf_sub (l := [(0, .ref 67), (1, .int (Int32.ofInt x1))]) (lf_sb1 rfl (lf_sb1 rfl lf_sb0)) ?_
      exact gm_95_p59 hX2 h
    · have h := h.2 c
      refine lf_seg 4 (pc' := 26) (lv' := [(0, .ref 67), (1, .int (Int32.ofInt x1))]) (st' := [.int (Int32.ofInt x1), .ref 17]) rfl ?_
      obtain ⟨o24, h⟩ := h
      refine lf_iald 27 4 rfl rfl rfl rfl rfl rfl o24 ?_
      refine lf_seg 6 (pc' := 37) (lv' := [(2, .int (Int32.ofInt (s22.1 17 x1))), (0, .ref 67), (1, .int (Int32.ofInt x1))]) (st' := [.int (Int32.ofInt (s22.1 17 x1)), .ref 21, .int (Int32.ofInt (s22.1 17 x1)), .ref 21]) rfl ?_
      obtain ⟨o25, h⟩ := h
      refine lf_iald 38 12 rfl rfl rfl rfl rfl rfl o25 ?_
      refine lf_seg 4 (pc' := 46) (lv' := [(2, .int (Int32.ofInt (s22.1 17 x1))), (0, .ref 67), (1, .int (Int32.ofInt x1))]) (st' := [.int (Int32.ofInt x1), .ref 16, .int (Int32.ofInt (s22.1 21 (s22.1 17 x1))), .int (Int32.ofInt (s22.1 17 x1)), .ref 21]) rfl ?_
      refine lf_iald 47 4 rfl rfl rfl rfl rfl rfl o24 ?_
      refine lf_seg 4 (pc' := 55) (lv' := [(2, .int (Int32.ofInt (s22.1 17 x1))), (0, .ref 67), (1, .int (Int32.ofInt x1))]) (st' := [.int (Int32.ofInt (s22.1 17 x1)), .ref 3, .int (Int32.ofInt (s22.1 16 x1)), .int (Int32.ofInt (s22.1 21 (s22.1 17 x1))), .int (Int32.ofInt (s22.1 17 x1)), .ref 21]) rfl ?_
      refine lf_iald 56 12 rfl rfl rfl rfl rfl rfl o25 ?_
      refine lf_imul 57 rfl rfl ?_
      refine lf_wtI ?_
      refine lf_iadd 58 rfl rfl ?_
      refine lf_wtI ?_
      refine lf_iast 59 12 rfl rfl rfl rfl rfl rfl o25 ?_
      refine lf_as (lf_up s22.1 21 (s22.1 17 x1) (lf_w ((s22.1 21 (s22.1 17 x1)) + (lf_w ((s22.1 16 x1) * (s22.1 3 (s22.1 17 x1)))))), s22.2.1, s22.2.2) rfl ?_
      refine lf_sub (l := [(0, .ref 67), (1, .int (Int32.ofInt x1))]) (lf_sb1 rfl (lf_sb1 rfl lf_sb0)) ?_
      exact gm_95_p59 hX2 h
theorem gm_95_p2L {L : Nat} {xs : Nat → Int32} {d : Nat} {Q : lf_Z → Prop} {x1 : Int} {s : lf_Z} (h : fm_95_p2L Q x1 s) : lf_E (px_ro L xs) (d + 2) 95 2 [(0, .ref 67), (1, .int (Int32.ofInt x1))] [] s (lf_qv Q) :=
  h (fun x1 s => lf_E (px_ro L xs) (d + 2) 95 2 [(0, .ref 67), (1, .int (Int32.ofInt x1))] [] s (lf_qv Q)) (fun x1 s hb => gm_95_p2 (fun _ _ h => h) hb)
def fm_95 (Q : lf_Z → Prop) (s : lf_Z) : Prop := fm_95_p2L Q 0 s
set_option maxRecDepth 100000 in
theorem gm_95 {L : Nat} {xs : Nat → Int32} {d : Nat} {Q : lf_Z → Prop} {s : lf_Z} (h : fm_95 Q s) : lf_M (px_ro L xs) (d + 2) 95 [.ref 67] s (lf_qv Q) := by
  unfold fm_95 at h
  show lf_E (px_ro L xs) (d + 2) 95 0 [(0, .ref 67)] [] s _
  refine lf_seg 2 (pc' := 2) (lv' := [(1, .int (Int32.ofInt 0)), (0, .ref 67)]) (st' := []) rfl ?_
  refine lf_sub (l := [(0, .ref 67), (1, .int (Int32.ofInt 0))]) (lf_sb1 rfl (lf_sb1 rfl lf_sb0)) ?_
  exact gm_95_p2L h
-- fm_96 Minutes.joinBunches 67
def fm_96_p97 (X2 : Int → lf_Z → Prop) (Q : lf_Z → Prop) (x1 : Int) (s : lf_Z) : Prop := X2 (x1 + 1) s
set_option maxRecDepth 100000 in
theorem gm_96_p97 {L : Nat} {xs : Nat → Int32} {d : Nat} {X2 : Int → lf_Z → Prop} {Q : lf_Z → Prop} {x1 : Int} {s : lf_Z} (hX2 : ∀ x1 s, X2 x1 s → lf_E (px_ro L xs) (d + 2) 96 2 [(0, .ref 67), (1, .int (Int32.ofInt x1))] [] s (lf_qv Q)) (h : fm_96_p97 X2 Q x1 s) : lf_E (px_ro L xs) (d + 2) 96 97 [(0, .ref 67), (1, .int (Int32.ofInt x1))] [] s (lf_qv Q) := by
  unfold fm_96_p97 at h
  refine lf_iinc 100 rfl rfl rfl rfl ?_
  refine lf_seg 1 (pc' := 2) (lv' := [(1, .int (Int32.ofInt (x1 + 1))), (0, .ref 67)]) (st' := []) rfl ?_
  refine lf_sub (l := [(0, .ref 67), (1, .int (Int32.ofInt (x1 + 1)))]) (lf_sb1 rfl (lf_sb1 rfl lf_sb0)) ?_
  exact hX2 _ _ h
def fm_96_p91 (X2 : Int → lf_Z → Prop) (X11 : Int → lf_Z → Prop) (Q : lf_Z → Prop) (x1 : Int) (x2 : Int) (s : lf_Z) : Prop := X11 (x2 + 1) s
set_option maxRecDepth 100000 in
theorem gm_96_p91 {L : Nat} {xs : Nat → Int32} {d : Nat} {X2 : Int → lf_Z → Prop} {X11 : Int → lf_Z → Prop} {Q : lf_Z → Prop} {x1 : Int} {x2 : Int} {s : lf_Z} (hX2 : ∀ x1 s, X2 x1 s → lf_E (px_ro L xs) (d + 2) 96 2 [(0, .ref 67), (1, .int (Int32.ofInt x1))] [] s (lf_qv Q)) (hX11 : ∀ x2 s, X11 x2 s → lf_E (px_ro L xs) (d + 2) 96 11 [(0, .ref 67), (1, .int (Int32.ofInt x1)), (2, .int (Int32.ofInt x2))] [] s (lf_qv Q)) (h : fm_96_p91 X2 X11 Q x1 x2 s) : lf_E (px_ro L xs) (d + 2) 96 91 [(0, .ref 67), (1, .int (Int32.ofInt x1)), (2, .int (Int32.ofInt x2))] [] s (lf_qv Q) := by
  unfold fm_96_p91 at h
  refine lf_iinc 94 rfl rfl rfl rfl ?_
  refine lf_seg 1 (pc' := 11) (lv' := [(2, .int (Int32.ofInt (x2 + 1))), (0, .ref 67), (1, .int (Int32.ofInt x1))]) (st' := []) rfl ?_
  refine lf_sub (l := [(0, .ref 67), (1, .int (Int32.ofInt x1)), (2, .int (Int32.ofInt (x2 + 1)))]) (lf_sb1 rfl (lf_sb1 rfl (lf_sb1 rfl lf_sb0))) ?_
  exact hX11 _ _ h
def fm_96_p11 (X2 : Int → lf_Z → Prop) (Q : lf_Z → Prop) (x1 : Int) (X11 : Int → lf_Z → Prop) (x2 : Int) (s : lf_Z) : Prop := lf_R x2 ∧ ((4 ≤ x2 → (fm_96_p97 X2 Q x1 s)) ∧ (¬ (4 ≤ x2) → (fm_80 x1 (fun z24 s23 => ((z24 = false → (fm_96_p97 X2 Q x1 s23)) ∧ (z24 = true → (fm_80 x2 (fun z26 s25 => ((z26 = false → (fm_96_p91 X2 X11 Q x1 x2 s25)) ∧ (z26 = true → ((0 ≤ x2 ∧ x2 < 4) ∧ ((0 ≤ x1 ∧ x1 < 4) ∧ (lf_R (s25.1 17 x2) ∧ (lf_R (s25.1 17 x1) ∧ ((s25.1 17 x2 ≠ s25.1 17 x1 → (fm_96_p91 X2 X11 Q x1 x2 s25)) ∧ (¬ (s25.1 17 x2 ≠ s25.1 17 x1) → (fm_69 x2 0 (-1) (-1) (fun s31 => (fm_96_p91 X2 X11 Q x1 x2 s31)) (lf_up s25.1 16 x1 (lf_w ((s25.1 16 x1) + (s25.1 16 x2))), s25.2.1, s25.2.2))))))))))) s23)))) s)))
def fm_96_p11L (X2 : Int → lf_Z → Prop) (Q : lf_Z → Prop) (x1 : Int) (x2 : Int) (s : lf_Z) : Prop := ∀ X11 : Int → lf_Z → Prop, (∀ (x2 : Int) (s : lf_Z), fm_96_p11 X2 Q x1 X11 x2 s → X11 x2 s) → X11 x2 s
set_option maxRecDepth 100000 in
theorem gm_96_p11 {L : Nat} {xs : Nat → Int32} {d : Nat} {X2 : Int → lf_Z → Prop} {Q : lf_Z → Prop} {x1 : Int} {x2 : Int} {s : lf_Z} {X11 : Int → lf_Z → Prop} (hX2 : ∀ x1 s, X2 x1 s → lf_E (px_ro L xs) (d + 2) 96 2 [(0, .ref 67), (1, .int (Int32.ofInt x1))] [] s (lf_qv Q)) (hX11 : ∀ x2 s, X11 x2 s → lf_E (px_ro L xs) (d + 2) 96 11 [(0, .ref 67), (1, .int (Int32.ofInt x1)), (2, .int (Int32.ofInt x2))] [] s (lf_qv Q)) (h : fm_96_p11 X2 Q x1 X11 x2 s) : lf_E (px_ro L xs) (d + 2) 96 11 [(0, .ref 67), (1, .int (Int32.ofInt x1)), (2, .int (Int32.ofInt x2))] [] s (lf_qv Q) := by
  unfold fm_96_p11 at h
  refine lf_seg 2 (pc' := 13) (lv' := [(0, .ref 67), (1, .int (Int32.ofInt x1)), (2, .int (Int32.ofInt x2))]) (st' := [.int (Int32.ofInt 4), .int (Int32.ofInt x2)]) rfl ?_
  obtain ⟨o22, h⟩ := h
  refine lf_icmp_ge 97 16 rfl rfl rfl o22 ⟨by decide, by decide⟩ (fun c => ?_) (fun c => ?_)
  · have h := h.1 c
    refine lf_sub (l := [(0, .ref 67), (1, .int (Int32.ofInt x1))]) (lf_sb1 rfl (lf_sb1 rfl lf_sb0)) ?_
    exact gm_96_p97 hX2 h
  · have h := h.2 c
    refine lf_seg 3 (pc' := 21) (lv' := [(0, .ref 67), (1, .int (Int32.ofInt x1)), (2, .int (Int32.ofInt x2))]) (st' := [.int (Int32.ofInt x1), .ref 15]) rfl ?_
    refine lf_callZ 24 rfl rfl rfl rfl (gm_80 h) (fun z24 s23 h => ?_)
    refine lf_ifz_eq 97 27 rfl rfl rfl (fun c => ?_) (fun c => ?_)
    · have h := h.1 c
      refine lf_sub (l := [(0, .ref 67), (1, .int (Int32.ofInt x1))]) (lf_sb1 rfl (lf_sb1 rfl lf_sb0)) ?_
      exact gm_96_p97 hX2 h
    · have h := h.2 c
      refine lf_seg 3 (pc' := 32) (lv' := [(0, .ref 67), (1, .int (Int32.ofInt x1)), (2, .int (Int32.ofInt x2))]) (st' := [.int (Int32.ofInt x2), .ref 15]) rfl ?_
      refine lf_callZ 35 rfl rfl rfl rfl (gm_80 h) (fun z26 s25 h => ?_)
      refine lf_ifz_eq 91 38 rfl rfl rfl (fun c => ?_) (fun c => ?_)
      · have h := h.1 c
        refine lf_sub (l := [(0, .ref 67), (1, .int (Int32.ofInt x1)), (2, .int (Int32.ofInt x2))]) (lf_sb1 rfl (lf_sb1 rfl (lf_sb1 rfl lf_sb0))) ?_
        exact gm_96_p91 hX2 hX11 h
      · have h := h.2 c
        refine lf_seg 4 (pc' := 46) (lv' := [(0, .ref 67), (1, .int (Int32.ofInt x1)), (2, .int (Int32.ofInt x2))]) (st' := [.int (Int32.ofInt x2), .ref 17]) rfl ?_
        obtain ⟨o27, h⟩ := h
        refine lf_iald 47 4 rfl rfl rfl rfl rfl rfl o27 ?_
        refine lf_seg 4 (pc' := 55) (lv' := [(0, .ref 67), (1, .int (Int32.ofInt x1)), (2, .int (Int32.ofInt x2))]) (st' := [.int (Int32.ofInt x1), .ref 17, .int (Int32.ofInt (s25.1 17 x2))]) rfl ?_
        obtain ⟨o28, h⟩ := h
        refine lf_iald 56 4 rfl rfl rfl rfl rfl rfl o28 ?_
        obtain ⟨o29, h⟩ := h
        obtain ⟨o30, h⟩ := h
        refine lf_icmp_ne 91 59 rfl rfl rfl o29 o30 (fun c => ?_) (fun c => ?_)
        · have h := h.1 c
          refine lf_sub (l := [(0, .ref 67), (1, .int (Int32.ofInt x1)), (2, .int (Int32.ofInt x2))]) (lf_sb1 rfl (lf_sb1 rfl (lf_sb1 rfl lf_sb0))) ?_
          exact gm_96_p91 hX2 hX11 h
        · have h := h.2 c
          refine lf_seg 5 (pc' := 68) (lv' := [(0, .ref 67), (1, .int (Int32.ofInt x1)), (2, .int (Int32.ofInt x2))]) (st' := [.int (Int32.ofInt x1), .ref 16, .int (Int32.ofInt x1), .ref 16]) rfl ?_
          refine lf_iald 69 4 rfl rfl rfl rfl rfl rfl o28 ?_
          refine lf_seg 4 (pc' := 77) (lv' := [(0, .ref 67), (1, .int (Int32.ofInt x1)), (2, .int (Int32.ofInt x2))]) (st' := [.int (Int32.ofInt x2), .ref 16, .int (Int32.ofInt (s25.1 16 x1)), .int (Int32.ofInt x1), .ref 16]) rfl ?_
          refine lf_iald 78 4 rfl rfl rfl rfl rfl rfl o27 ?_
          refine lf_iadd 79 rfl rfl ?_
          refine lf_wtI ?_
          refine lf_iast 80 4 rfl rfl rfl rfl rfl rfl o28 ?_
          refine lf_as (lf_up s25.1 16 x1 (lf_w ((s25.1 16 x1) + (s25.1 16 x2))), s25.2.1, s25.2.2) rfl ?_
          refine lf_seg 6 (pc' := 88) (lv' := [(0, .ref 67), (1, .int (Int32.ofInt x1)), (2, .int (Int32.ofInt x2))]) (st' := [.int (Int32.ofInt (-1)), .int (Int32.ofInt (-1)), .int (Int32.ofInt 0), .int (Int32.ofInt x2), .ref 15]) rfl ?_
          refine lf_callV 91 rfl rfl rfl rfl (gm_69 h) (fun s31 h => ?_)
          refine lf_sub (l := [(0, .ref 67), (1, .int (Int32.ofInt x1)), (2, .int (Int32.ofInt x2))]) (lf_sb1 rfl (lf_sb1 rfl (lf_sb1 rfl lf_sb0))) ?_
          exact gm_96_p91 hX2 hX11 h
theorem gm_96_p11L {L : Nat} {xs : Nat → Int32} {d : Nat} {X2 : Int → lf_Z → Prop} {Q : lf_Z → Prop} {x1 : Int} {x2 : Int} {s : lf_Z} (hX2 : ∀ x1 s, X2 x1 s → lf_E (px_ro L xs) (d + 2) 96 2 [(0, .ref 67), (1, .int (Int32.ofInt x1))] [] s (lf_qv Q)) (h : fm_96_p11L X2 Q x1 x2 s) : lf_E (px_ro L xs) (d + 2) 96 11 [(0, .ref 67), (1, .int (Int32.ofInt x1)), (2, .int (Int32.ofInt x2))] [] s (lf_qv Q) :=
  h (fun x2 s => lf_E (px_ro L xs) (d + 2) 96 11 [(0, .ref 67), (1, .int (Int32.ofInt x1)), (2, .int (Int32.ofInt x2))] [] s (lf_qv Q)) (fun x2 s hb => gm_96_p11 hX2 (fun _ _ h => h) hb)
def fm_96_p2 (Q : lf_Z → Prop) (X2 : Int → lf_Z → Prop) (x1 : Int) (s : lf_Z) : Prop := lf_R x1 ∧ ((4 ≤ x1 → (Q s)) ∧ (¬ (4 ≤ x1) → (fm_96_p11L X2 Q x1 (x1 + 1) s)))
def fm_96_p2L (Q : lf_Z → Prop) (x1 : Int) (s : lf_Z) : Prop := ∀ X2 : Int → lf_Z → Prop, (∀ (x1 : Int) (s : lf_Z), fm_96_p2 Q X2 x1 s → X2 x1 s) → X2 x1 s
set_option maxRecDepth 100000 in
theorem gm_96_p2 {L : Nat} {xs : Nat → Int32} {d : Nat} {Q : lf_Z → Prop} {x1 : Int} {s : lf_Z} {X2 : Int → lf_Z → Prop} (hX2 : ∀ x1 s, X2 x1 s → lf_E (px_ro L xs) (d + 2) 96 2 [(0, .ref 67), (1, .int (Int32.ofInt x1))] [] s (lf_qv Q)) (h : fm_96_p2 Q X2 x1 s) : lf_E (px_ro L xs) (d + 2) 96 2 [(0, .ref 67), (1, .int (Int32.ofInt x1))] [] s (lf_qv Q) := by
  unfold fm_96_p2 at h
  refine lf_seg 2 (pc' := 4) (lv' := [(0, .ref 67), (1, .int (Int32.ofInt x1))]) (st' := [.int (Int32.ofInt 4), .int (Int32.ofInt x1)]) rfl ?_
  obtain ⟨o21, h⟩ := h
  refine lf_icmp_ge 103 7 rfl rfl rfl o21 ⟨by decide, by decide⟩ (fun c => ?_) (fun c => ?_)
  · have h := h.1 c
    exact lf_retV rfl rfl h
  · have h := h.2 c
    refine lf_seg 2 (pc' := 9) (lv' := [(0, .ref 67), (1, .int (Int32.ofInt x1))]) (st' := [.int (Int32.ofInt 1), .int (Int32.ofInt x1)]) rfl ?_
    refine lf_iadd 10 rfl rfl ?_
    refine lf_seg 1 (pc' := 11) (lv' := [(2, .int (Int32.ofInt (x1 + 1))), (0, .ref 67), (1, .int (Int32.ofInt x1))]) (st' := []) rfl ?_
    refine lf_sub (l := [(0, .ref 67), (1, .int (Int32.ofInt x1)), (2, .int (Int32.ofInt (x1 + 1)))]) (lf_sb1 rfl (lf_sb1 rfl (lf_sb1 rfl lf_sb0))) ?_
    exact gm_96_p11L hX2 h
theorem gm_96_p2L {L : Nat} {xs : Nat → Int32} {d : Nat} {Q : lf_Z → Prop} {x1 : Int} {s : lf_Z} (h : fm_96_p2L Q x1 s) : lf_E (px_ro L xs) (d + 2) 96 2 [(0, .ref 67), (1, .int (Int32.ofInt x1))] [] s (lf_qv Q) :=
  h (fun x1 s => lf_E (px_ro L xs) (d + 2) 96 2 [(0, .ref 67), (1, .int (Int32.ofInt x1))] [] s (lf_qv Q)) (fun x1 s hb => gm_96_p2 (fun _ _ h => h) hb)
def fm_96 (Q : lf_Z → Prop) (s : lf_Z) : Prop := fm_96_p2L Q 0 s
set_option maxRecDepth 100000 in
theorem gm_96 {L : Nat} {xs : Nat → Int32} {d : Nat} {Q : lf_Z → Prop} {s : lf_Z} (h : fm_96 Q s) : lf_M (px_ro L xs) (d + 2) 96 [.ref 67] s (lf_qv Q) := by
  unfold fm_96 at h
  show lf_E (px_ro L xs) (d + 2) 96 0 [(0, .ref 67)] [] s _
  refine lf_seg 2 (pc' := 2) (lv' := [(1, .int (Int32.ofInt 0)), (0, .ref 67)]) (st' := []) rfl ?_
  refine lf_sub (l := [(0, .ref 67), (1, .int (Int32.ofInt 0))]) (lf_sb1 rfl (lf_sb1 rfl lf_sb0)) ?_
  exact gm_96_p2L h
-- fm_76 Land.countWaysAt 1 i
def fm_76 (a1 : Int) (Q : Int → lf_Z → Prop) (s : lf_Z) : Prop := fm_18 a1 (fun z22 s21 => ((z22 = false → (Q 0 s21)) ∧ (z22 = true → ((0 ≤ a1 ∧ a1 < 12) ∧ (Q (s21.1 12 a1) s21))))) s
set_option maxRecDepth 100000 in
theorem gm_76 {L : Nat} {xs : Nat → Int32} {d : Nat} {a1 : Int} {Q : Int → lf_Z → Prop} {s : lf_Z} (h : fm_76 a1 Q s) : lf_M (px_ro L xs) (d + 2) 76 [.ref 1, .int (Int32.ofInt a1)] s (lf_qi Q) := by
  unfold fm_76 at h
  show lf_E (px_ro L xs) (d + 2) 76 0 [(0, .ref 1), (1, .int (Int32.ofInt a1))] [] s _
  refine lf_seg 2 (pc' := 2) (lv' := [(0, .ref 1), (1, .int (Int32.ofInt a1))]) (st' := [.int (Int32.ofInt a1), .ref 1]) rfl ?_
  refine lf_callZ 5 rfl rfl rfl rfl (gm_18 h) (fun z22 s21 h => ?_)
  refine lf_ifz_eq 17 8 rfl rfl rfl (fun c => ?_) (fun c => ?_)
  · have h := h.1 c
    refine lf_seg 1 (pc' := 18) (lv' := [(0, .ref 1), (1, .int (Int32.ofInt a1))]) (st' := [.int (Int32.ofInt 0)]) rfl ?_
    exact lf_retI rfl rfl h
  · have h := h.2 c
    refine lf_seg 3 (pc' := 13) (lv' := [(0, .ref 1), (1, .int (Int32.ofInt a1))]) (st' := [.int (Int32.ofInt a1), .ref 12]) rfl ?_
    obtain ⟨o23, h⟩ := h
    refine lf_iald 14 12 rfl rfl rfl rfl rfl rfl o23 ?_
    refine lf_seg 1 (pc' := 18) (lv' := [(0, .ref 1), (1, .int (Int32.ofInt a1))]) (st' := [.int (Int32.ofInt (s21.1 12 a1))]) rfl ?_
    exact lf_retI rfl rfl h
-- fm_77 Land.wayAt 1 i i
def fm_77 (a1 : Int) (a2 : Int) (Q : Int → lf_Z → Prop) (s : lf_Z) : Prop := fm_18 a1 (fun z22 s21 => ((z22 = false → (Q (-1) s21)) ∧ (z22 = true → (lf_R a2 ∧ ((a2 < 0 → (Q (-1) s21)) ∧ (¬ (a2 < 0) → ((0 ≤ a1 ∧ a1 < 12) ∧ (lf_R (s21.1 12 a1) ∧ ((a2 < s21.1 12 a1 → ((0 ≤ (a1 * 4) + a2 ∧ (a1 * 4) + a2 < 48) ∧ (Q (s21.1 11 ((a1 * 4) + a2)) s21))) ∧ (¬ (a2 < s21.1 12 a1) → (Q (-1) s21))))))))))) s
set_option maxRecDepth 100000 in
theorem gm_77 {L : Nat} {xs : Nat → Int32} {d : Nat} {a1 : Int} {a2 : Int} {Q : Int → lf_Z → Prop} {s : lf_Z} (h : fm_77 a1 a2 Q s) : lf_M (px_ro L xs) (d + 2) 77 [.ref 1, .int (Int32.ofInt a1), .int (Int32.ofInt a2)] s (lf_qi Q) := by
  unfold fm_77 at h
  show lf_E (px_ro L xs) (d + 2) 77 0 [(0, .ref 1), (1, .int (Int32.ofInt a1)), (2, .int (Int32.ofInt a2))] [] s _
  refine lf_seg 2 (pc' := 2) (lv' := [(0, .ref 1), (1, .int (Int32.ofInt a1)), (2, .int (Int32.ofInt a2))]) (st' := [.int (Int32.ofInt a1), .ref 1]) rfl ?_
  refine lf_callZ 5 rfl rfl rfl rfl (gm_18 h) (fun z22 s21 h => ?_)
  refine lf_ifz_eq 22 8 rfl rfl rfl (fun c => ?_) (fun c => ?_)
  · have h := h.1 c
    refine lf_seg 1 (pc' := 23) (lv' := [(0, .ref 1), (1, .int (Int32.ofInt a1)), (2, .int (Int32.ofInt a2))]) (st' := [.int (Int32.ofInt (-1))]) rfl ?_
    exact lf_retI rfl rfl h
  · have h := h.2 c
    refine lf_seg 1 (pc' := 9) (lv' := [(0, .ref 1), (1, .int (Int32.ofInt a1)), (2, .int (Int32.ofInt a2))]) (st' := [.int (Int32.ofInt a2)]) rfl ?_
    obtain ⟨o23, h⟩ := h
    refine lf_if_lt 22 12 rfl rfl rfl o23 (fun c => ?_) (fun c => ?_)
    · have h := h.1 c
      refine lf_seg 1 (pc' := 23) (lv' := [(0, .ref 1), (1, .int (Int32.ofInt a1)), (2, .int (Int32.ofInt a2))]) (st' := [.int (Int32.ofInt (-1))]) rfl ?_
      exact lf_retI rfl rfl h
    · have h := h.2 c
      refine lf_seg 4 (pc' := 18) (lv' := [(0, .ref 1), (1, .int (Int32.ofInt a1)), (2, .int (Int32.ofInt a2))]) (st' := [.int (Int32.ofInt a1), .ref 12, .int (Int32.ofInt a2)]) rfl ?_
      obtain ⟨o24, h⟩ := h
      refine lf_iald 19 12 rfl rfl rfl rfl rfl rfl o24 ?_
      obtain ⟨o25, h⟩ := h
      refine lf_icmp_lt 24 22 rfl rfl rfl o23 o25 (fun c => ?_) (fun c => ?_)
      · have h := h.1 c
        refine lf_seg 4 (pc' := 30) (lv' := [(0, .ref 1), (1, .int (Int32.ofInt a1)), (2, .int (Int32.ofInt a2))]) (st' := [.int (Int32.ofInt 4), .int (Int32.ofInt a1), .ref 11]) rfl ?_
        refine lf_imul 31 rfl rfl ?_
        refine lf_seg 1 (pc' := 32) (lv' := [(0, .ref 1), (1, .int (Int32.ofInt a1)), (2, .int (Int32.ofInt a2))]) (st' := [.int (Int32.ofInt a2), .int (Int32.ofInt (a1 * 4)), .ref 11]) rfl ?_
        refine lf_iadd 33 rfl rfl ?_
        obtain ⟨o26, h⟩ := h
        refine lf_iald 34 48 rfl rfl rfl rfl rfl rfl o26 ?_
        exact lf_retI rfl rfl h
      · have h := h.2 c
        refine lf_seg 1 (pc' := 23) (lv' := [(0, .ref 1), (1, .int (Int32.ofInt a1)), (2, .int (Int32.ofInt a2))]) (st' := [.int (Int32.ofInt (-1))]) rfl ?_
        exact lf_retI rfl rfl h
-- fm_79 Land.hasWay 1 i
def fm_79 (a1 : Int) (Q : Bool → lf_Z → Prop) (s : lf_Z) : Prop := lf_R a1 ∧ ((a1 < 0 → (Q false s)) ∧ (¬ (a1 < 0) → (lf_R (s.1 1 1) ∧ ((s.1 1 1 ≤ a1 → (Q false s)) ∧ (¬ (s.1 1 1 ≤ a1) → (Q true s))))))
set_option maxRecDepth 100000 in
theorem gm_79 {L : Nat} {xs : Nat → Int32} {d : Nat} {a1 : Int} {Q : Bool → lf_Z → Prop} {s : lf_Z} (h : fm_79 a1 Q s) : lf_M (px_ro L xs) (d + 1) 79 [.ref 1, .int (Int32.ofInt a1)] s (lf_qz Q) := by
  unfold fm_79 at h
  show lf_E (px_ro L xs) (d + 1) 79 0 [(0, .ref 1), (1, .int (Int32.ofInt a1))] [] s _
  refine lf_seg 1 (pc' := 1) (lv' := [(0, .ref 1), (1, .int (Int32.ofInt a1))]) (st' := [.int (Int32.ofInt a1)]) rfl ?_
  obtain ⟨o21, h⟩ := h
  refine lf_if_lt 16 4 rfl rfl rfl o21 (fun c => ?_) (fun c => ?_)
  · have h := h.1 c
    refine lf_seg 1 (pc' := 17) (lv' := [(0, .ref 1), (1, .int (Int32.ofInt a1))]) (st' := [.int (Int32.ofInt 0)]) rfl ?_
    exact lf_retZ false rfl rfl h
  · have h := h.2 c
    refine lf_seg 2 (pc' := 6) (lv' := [(0, .ref 1), (1, .int (Int32.ofInt a1))]) (st' := [.ref 1, .int (Int32.ofInt a1)]) rfl ?_
    refine lf_getI 9 1 rfl rfl rfl rfl rfl rfl rfl ?_
    obtain ⟨o22, h⟩ := h
    refine lf_icmp_ge 16 12 rfl rfl rfl o21 o22 (fun c => ?_) (fun c => ?_)
    · have h := h.1 c
      refine lf_seg 1 (pc' := 17) (lv' := [(0, .ref 1), (1, .int (Int32.ofInt a1))]) (st' := [.int (Int32.ofInt 0)]) rfl ?_
      exact lf_retZ false rfl rfl h
    · have h := h.2 c
      refine lf_seg 2 (pc' := 17) (lv' := [(0, .ref 1), (1, .int (Int32.ofInt a1))]) (st' := [.int (Int32.ofInt 1)]) rfl ?_
      exact lf_retZ true rfl rfl h
-- fm_78 Land.otherSide 1 i i
def fm_78 (a1 : Int) (a2 : Int) (Q : Int → lf_Z → Prop) (s : lf_Z) : Prop := fm_79 a1 (fun z22 s21 => ((z22 = true → ((0 ≤ a1 ∧ a1 < 16) ∧ (lf_R (s21.1 4 a1) ∧ (lf_R a2 ∧ ((s21.1 4 a1 ≠ a2 → (lf_R (s21.1 5 a1) ∧ ((s21.1 5 a1 ≠ a2 → (Q (-1) s21)) ∧ (¬ (s21.1 5 a1 ≠ a2) → (Q (s21.1 4 a1) s21))))) ∧ (¬ (s21.1 4 a1 ≠ a2) → (Q (s21.1 5 a1) s21))))))) ∧ (z22 = false → (Q (-1) s21)))) s
set_option maxRecDepth 100000 in
theorem gm_78 {L : Nat} {xs : Nat → Int32} {d : Nat} {a1 : Int} {a2 : Int} {Q : Int → lf_Z → Prop} {s : lf_Z} (h : fm_78 a1 a2 Q s) : lf_M (px_ro L xs) (d + 2) 78 [.ref 1, .int (Int32.ofInt a1), .int (Int32.ofInt a2)] s (lf_qi Q) := by
  unfold fm_78 at h
  show lf_E (px_ro L xs) (d + 2) 78 0 [(0, .ref 1), (1, .int (Int32.ofInt a1)), (2, .int (Int32.ofInt a2))] [] s _
  refine lf_seg 2 (pc' := 2) (lv' := [(0, .ref 1), (1, .int (Int32.ofInt a1)), (2, .int (Int32.ofInt a2))]) (st' := [.int (Int32.ofInt a1), .ref 1]) rfl ?_
  refine lf_callZ 5 rfl rfl rfl rfl (gm_79 h) (fun z22 s21 h => ?_)
  refine lf_ifz_ne 10 8 rfl rfl rfl (fun c => ?_) (fun c => ?_)
  · have h := h.1 c
    refine lf_seg 3 (pc' := 15) (lv' := [(0, .ref 1), (1, .int (Int32.ofInt a1)), (2, .int (Int32.ofInt a2))]) (st' := [.int (Int32.ofInt a1), .ref 4]) rfl ?_
    obtain ⟨o23, h⟩ := h
    refine lf_iald 16 16 rfl rfl rfl rfl rfl rfl o23 ?_
    refine lf_seg 1 (pc' := 17) (lv' := [(0, .ref 1), (1, .int (Int32.ofInt a1)), (2, .int (Int32.ofInt a2))]) (st' := [.int (Int32.ofInt a2), .int (Int32.ofInt (s21.1 4 a1))]) rfl ?_
    obtain ⟨o24, h⟩ := h
    obtain ⟨o25, h⟩ := h
    refine lf_icmp_ne 27 20 rfl rfl rfl o24 o25 (fun c => ?_) (fun c => ?_)
    · have h := h.1 c
      refine lf_seg 3 (pc' := 32) (lv' := [(0, .ref 1), (1, .int (Int32.ofInt a1)), (2, .int (Int32.ofInt a2))]) (st' := [.int (Int32.ofInt a1), .ref 5]) rfl ?_
      refine lf_iald 33 16 rfl rfl rfl rfl rfl rfl o23 ?_
      refine lf_seg 1 (pc' := 34) (lv' := [(0, .ref 1), (1, .int (Int32.ofInt a1)), (2, .int (Int32.ofInt a2))]) (st' := [.int (Int32.ofInt a2), .int (Int32.ofInt (s21.1 5 a1))]) rfl ?_
      obtain ⟨o26, h⟩ := h
      refine lf_icmp_ne 46 37 rfl rfl rfl o26 o25 (fun c => ?_) (fun c => ?_)
      · have h := h.1 c
        refine lf_seg 1 (pc' := 47) (lv' := [(0, .ref 1), (1, .int (Int32.ofInt a1)), (2, .int (Int32.ofInt a2))]) (st' := [.int (Int32.ofInt (-1))]) rfl ?_
        exact lf_retI rfl rfl h
      · have h := h.2 c
        refine lf_seg 3 (pc' := 42) (lv' := [(0, .ref 1), (1, .int (Int32.ofInt a1)), (2, .int (Int32.ofInt a2))]) (st' := [.int (Int32.ofInt a1), .ref 4]) rfl ?_
        refine lf_iald 43 16 rfl rfl rfl rfl rfl rfl o23 ?_
        refine lf_seg 1 (pc' := 47) (lv' := [(0, .ref 1), (1, .int (Int32.ofInt a1)), (2, .int (Int32.ofInt a2))]) (st' := [.int (Int32.ofInt (s21.1 4 a1))]) rfl ?_
        exact lf_retI rfl rfl h
    · have h := h.2 c
      refine lf_seg 3 (pc' := 25) (lv' := [(0, .ref 1), (1, .int (Int32.ofInt a1)), (2, .int (Int32.ofInt a2))]) (st' := [.int (Int32.ofInt a1), .ref 5]) rfl ?_
      refine lf_iald 26 16 rfl rfl rfl rfl rfl rfl o23 ?_
      exact lf_retI rfl rfl h
  · have h := h.2 c
    refine lf_seg 1 (pc' := 9) (lv' := [(0, .ref 1), (1, .int (Int32.ofInt a1)), (2, .int (Int32.ofInt a2))]) (st' := [.int (Int32.ofInt (-1))]) rfl ?_
    exact lf_retI rfl rfl h
-- fm_89 Land.hasGate 1 i
def fm_89 (a1 : Int) (Q : Bool → lf_Z → Prop) (s : lf_Z) : Prop := lf_R a1 ∧ ((a1 < 0 → (Q false s)) ∧ (¬ (a1 < 0) → (lf_R (s.1 1 1) ∧ ((s.1 1 1 ≤ a1 → (Q false s)) ∧ (¬ (s.1 1 1 ≤ a1) → ((0 ≤ a1 ∧ a1 < 16) ∧ (lf_R (s.1 6 a1) ∧ ((s.1 6 a1 ≠ 0 → (Q false s)) ∧ (¬ (s.1 6 a1 ≠ 0) → (Q true s))))))))))
set_option maxRecDepth 100000 in
theorem gm_89 {L : Nat} {xs : Nat → Int32} {d : Nat} {a1 : Int} {Q : Bool → lf_Z → Prop} {s : lf_Z} (h : fm_89 a1 Q s) : lf_M (px_ro L xs) (d + 1) 89 [.ref 1, .int (Int32.ofInt a1)] s (lf_qz Q) := by
  unfold fm_89 at h
  show lf_E (px_ro L xs) (d + 1) 89 0 [(0, .ref 1), (1, .int (Int32.ofInt a1))] [] s _
  refine lf_seg 1 (pc' := 1) (lv' := [(0, .ref 1), (1, .int (Int32.ofInt a1))]) (st' := [.int (Int32.ofInt a1)]) rfl ?_
  obtain ⟨o21, h⟩ := h
  refine lf_if_lt 25 4 rfl rfl rfl o21 (fun c => ?_) (fun c => ?_)
  · have h := h.1 c
    refine lf_seg 1 (pc' := 26) (lv' := [(0, .ref 1), (1, .int (Int32.ofInt a1))]) (st' := [.int (Int32.ofInt 0)]) rfl ?_
    exact lf_retZ false rfl rfl h
  · have h := h.2 c
    refine lf_seg 2 (pc' := 6) (lv' := [(0, .ref 1), (1, .int (Int32.ofInt a1))]) (st' := [.ref 1, .int (Int32.ofInt a1)]) rfl ?_
    refine lf_getI 9 1 rfl rfl rfl rfl rfl rfl rfl ?_
    obtain ⟨o22, h⟩ := h
    refine lf_icmp_ge 25 12 rfl rfl rfl o21 o22 (fun c => ?_) (fun c => ?_)
    · have h := h.1 c
      refine lf_seg 1 (pc' := 26) (lv' := [(0, .ref 1), (1, .int (Int32.ofInt a1))]) (st' := [.int (Int32.ofInt 0)]) rfl ?_
      exact lf_retZ false rfl rfl h
    · have h := h.2 c
      refine lf_seg 3 (pc' := 17) (lv' := [(0, .ref 1), (1, .int (Int32.ofInt a1))]) (st' := [.int (Int32.ofInt a1), .ref 6]) rfl ?_
      obtain ⟨o23, h⟩ := h
      refine lf_zald 18 16 rfl rfl rfl rfl rfl rfl o23 ?_
      obtain ⟨o24, h⟩ := h
      refine lf_if_ne 25 21 rfl rfl rfl o24 (fun c => ?_) (fun c => ?_)
      · have h := h.1 c
        refine lf_seg 1 (pc' := 26) (lv' := [(0, .ref 1), (1, .int (Int32.ofInt a1))]) (st' := [.int (Int32.ofInt 0)]) rfl ?_
        exact lf_retZ false rfl rfl h
      · have h := h.2 c
        refine lf_seg 2 (pc' := 26) (lv' := [(0, .ref 1), (1, .int (Int32.ofInt a1))]) (st' := [.int (Int32.ofInt 1)]) rfl ?_
        exact lf_retZ true rfl rfl h
-- fm_90 Stand.isOpen 15 i
def fm_90 (a1 : Int) (Q : Bool → lf_Z → Prop) (s : lf_Z) : Prop := (lf_and (lf_shr (s.1 15 6) a1) 1 ≠ 0 → (Q false s)) ∧ (¬ (lf_and (lf_shr (s.1 15 6) a1) 1 ≠ 0) → (Q true s))
set_option maxRecDepth 100000 in
theorem gm_90 {L : Nat} {xs : Nat → Int32} {d : Nat} {a1 : Int} {Q : Bool → lf_Z → Prop} {s : lf_Z} (h : fm_90 a1 Q s) : lf_M (px_ro L xs) (d + 1) 90 [.ref 15, .int (Int32.ofInt a1)] s (lf_qz Q) := by
  unfold fm_90 at h
  show lf_E (px_ro L xs) (d + 1) 90 0 [(0, .ref 15), (1, .int (Int32.ofInt a1))] [] s _
  refine lf_seg 1 (pc' := 1) (lv' := [(0, .ref 15), (1, .int (Int32.ofInt a1))]) (st' := [.ref 15]) rfl ?_
  refine lf_getI 4 6 rfl rfl rfl rfl rfl rfl rfl ?_
  refine lf_seg 1 (pc' := 5) (lv' := [(0, .ref 15), (1, .int (Int32.ofInt a1))]) (st' := [.int (Int32.ofInt a1), .int (Int32.ofInt (s.1 15 6))]) rfl ?_
  refine lf_ishr 6 rfl rfl ?_
  refine lf_seg 1 (pc' := 7) (lv' := [(0, .ref 15), (1, .int (Int32.ofInt a1))]) (st' := [.int (Int32.ofInt 1), .int (Int32.ofInt (lf_shr (s.1 15 6) a1))]) rfl ?_
  refine lf_iand 8 rfl rfl ?_
  refine lf_if_ne 15 11 rfl rfl rfl lf_Rand (fun c => ?_) (fun c => ?_)
  · have h := h.1 c
    refine lf_seg 1 (pc' := 16) (lv' := [(0, .ref 15), (1, .int (Int32.ofInt a1))]) (st' := [.int (Int32.ofInt 0)]) rfl ?_
    exact lf_retZ false rfl rfl h
  · have h := h.2 c
    refine lf_seg 2 (pc' := 16) (lv' := [(0, .ref 15), (1, .int (Int32.ofInt a1))]) (st' := [.int (Int32.ofInt 1)]) rfl ?_
    exact lf_retZ true rfl rfl h
-- fm_83 Laws.peopleAt 63 i
def fm_83_p31 (X4 : Int → Int → lf_Z → Prop) (Q : Int → lf_Z → Prop) (x1 : Int) (x2 : Int) (x3 : Int) (s : lf_Z) : Prop := X4 x2 (x3 + 1) s
set_option maxRecDepth 100000 in
theorem gm_83_p31 {L : Nat} {xs : Nat → Int32} {d : Nat} {X4 : Int → Int → lf_Z → Prop} {Q : Int → lf_Z → Prop} {x1 : Int} {x2 : Int} {x3 : Int} {s : lf_Z} (hX4 : ∀ x2 x3 s, X4 x2 x3 s → lf_E (px_ro L xs) (d + 1) 83 4 [(0, .ref 63), (1, .int (Int32.ofInt x1)), (2, .int (Int32.ofInt x2)), (3, .int (Int32.ofInt x3))] [] s (lf_qi Q)) (h : fm_83_p31 X4 Q x1 x2 x3 s) : lf_E (px_ro L xs) (d + 1) 83 31 [(0, .ref 63), (1, .int (Int32.ofInt x1)), (2, .int (Int32.ofInt x2)), (3, .int (Int32.ofInt x3))] [] s (lf_qi Q) := by
  unfold fm_83_p31 at h
  refine lf_iinc 34 rfl rfl rfl rfl ?_
  refine lf_seg 1 (pc' := 4) (lv' := [(3, .int (Int32.ofInt (x3 + 1))), (0, .ref 63), (1, .int (Int32.ofInt x1)), (2, .int (Int32.ofInt x2))]) (st' := []) rfl ?_
  refine lf_sub (l := [(0, .ref 63), (1, .int (Int32.ofInt x1)), (2, .int (Int32.ofInt x2)), (3, .int (Int32.ofInt (x3 + 1)))]) (lf_sb1 rfl (lf_sb1 rfl (lf_sb1 rfl (lf_sb1 rfl lf_sb0)))) ?_
  exact hX4 _ _ _ h
def fm_83_p4 (Q : Int → lf_Z → Prop) (x1 : Int) (X4 : Int → Int → lf_Z → Prop) (x2 : Int) (x3 : Int) (s : lf_Z) : Prop := lf_R x3 ∧ (lf_R (s.1 1 2) ∧ ((s.1 1 2 ≤ x3 → (Q x2 s)) ∧ (¬ (s.1 1 2 ≤ x3) → ((0 ≤ x3 ∧ x3 < 6) ∧ (lf_R (s.1 19 x3) ∧ (lf_R x1 ∧ ((s.1 19 x3 ≠ x1 → (fm_83_p31 X4 Q x1 x2 x3 s)) ∧ (¬ (s.1 19 x3 ≠ x1) → (fm_83_p31 X4 Q x1 (x2 + 1) x3 s)))))))))
def fm_83_p4L (Q : Int → lf_Z → Prop) (x1 : Int) (x2 : Int) (x3 : Int) (s : lf_Z) : Prop := ∀ X4 : Int → Int → lf_Z → Prop, (∀ (x2 : Int) (x3 : Int) (s : lf_Z), fm_83_p4 Q x1 X4 x2 x3 s → X4 x2 x3 s) → X4 x2 x3 s
set_option maxRecDepth 100000 in
theorem gm_83_p4 {L : Nat} {xs : Nat → Int32} {d : Nat} {Q : Int → lf_Z → Prop} {x1 : Int} {x2 : Int} {x3 : Int} {s : lf_Z} {X4 : Int → Int → lf_Z → Prop} (hX4 : ∀ x2 x3 s, X4 x2 x3 s → lf_E (px_ro L xs) (d + 1) 83 4 [(0, .ref 63), (1, .int (Int32.ofInt x1)), (2, .int (Int32.ofInt x2)), (3, .int (Int32.ofInt x3))] [] s (lf_qi Q)) (h : fm_83_p4 Q x1 X4 x2 x3 s) : lf_E (px_ro L xs) (d + 1) 83 4 [(0, .ref 63), (1, .int (Int32.ofInt x1)), (2, .int (Int32.ofInt x2)), (3, .int (Int32.ofInt x3))] [] s (lf_qi Q) := by
  unfold fm_83_p4 at h
  refine lf_seg 3 (pc' := 9) (lv' := [(0, .ref 63), (1, .int (Int32.ofInt x1)), (2, .int (Int32.ofInt x2)), (3, .int (Int32.ofInt x3))]) (st' := [.ref 1, .int (Int32.ofInt x3)]) rfl ?_
  refine lf_getI 12 2 rfl rfl rfl rfl rfl rfl rfl ?_
  obtain ⟨o21, h⟩ := h
  obtain ⟨o22, h⟩ := h
  refine lf_icmp_ge 37 15 rfl rfl rfl o21 o22 (fun c => ?_) (fun c => ?_)
  · have h := h.1 c
    refine lf_seg 1 (pc' := 38) (lv' := [(0, .ref 63), (1, .int (Int32.ofInt x1)), (2, .int (Int32.ofInt x2)), (3, .int (Int32.ofInt x3))]) (st' := [.int (Int32.ofInt x2)]) rfl ?_
    exact lf_retI rfl rfl h
  · have h := h.2 c
    refine lf_seg 4 (pc' := 23) (lv' := [(0, .ref 63), (1, .int (Int32.ofInt x1)), (2, .int (Int32.ofInt x2)), (3, .int (Int32.ofInt x3))]) (st' := [.int (Int32.ofInt x3), .ref 19]) rfl ?_
    obtain ⟨o23, h⟩ := h
    refine lf_iald 24 6 rfl rfl rfl rfl rfl rfl o23 ?_
    refine lf_seg 1 (pc' := 25) (lv' := [(0, .ref 63), (1, .int (Int32.ofInt x1)), (2, .int (Int32.ofInt x2)), (3, .int (Int32.ofInt x3))]) (st' := [.int (Int32.ofInt x1), .int (Int32.ofInt (s.1 19 x3))]) rfl ?_
    obtain ⟨o24, h⟩ := h
    obtain ⟨o25, h⟩ := h
    refine lf_icmp_ne 31 28 rfl rfl rfl o24 o25 (fun c => ?_) (fun c => ?_)
    · have h := h.1 c
      refine lf_sub (l := [(0, .ref 63), (1, .int (Int32.ofInt x1)), (2, .int (Int32.ofInt x2)), (3, .int (Int32.ofInt x3))]) (lf_sb1 rfl (lf_sb1 rfl (lf_sb1 rfl (lf_sb1 rfl lf_sb0)))) ?_
      exact gm_83_p31 hX4 h
    · have h := h.2 c
      refine lf_iinc 31 rfl rfl rfl rfl ?_
      refine lf_seg 0 (pc' := 31) (lv' := [(2, .int (Int32.ofInt (x2 + 1))), (0, .ref 63), (1, .int (Int32.ofInt x1)), (3, .int (Int32.ofInt x3))]) (st' := []) rfl ?_
      refine lf_sub (l := [(0, .ref 63), (1, .int (Int32.ofInt x1)), (2, .int (Int32.ofInt (x2 + 1))), (3, .int (Int32.ofInt x3))]) (lf_sb1 rfl (lf_sb1 rfl (lf_sb1 rfl (lf_sb1 rfl lf_sb0)))) ?_
      exact gm_83_p31 hX4 h
theorem gm_83_p4L {L : Nat} {xs : Nat → Int32} {d : Nat} {Q : Int → lf_Z → Prop} {x1 : Int} {x2 : Int} {x3 : Int} {s : lf_Z} (h : fm_83_p4L Q x1 x2 x3 s) : lf_E (px_ro L xs) (d + 1) 83 4 [(0, .ref 63), (1, .int (Int32.ofInt x1)), (2, .int (Int32.ofInt x2)), (3, .int (Int32.ofInt x3))] [] s (lf_qi Q) :=
  h (fun x2 x3 s => lf_E (px_ro L xs) (d + 1) 83 4 [(0, .ref 63), (1, .int (Int32.ofInt x1)), (2, .int (Int32.ofInt x2)), (3, .int (Int32.ofInt x3))] [] s (lf_qi Q)) (fun x2 x3 s hb => gm_83_p4 (fun _ _ _ h => h) hb)
def fm_83 (a1 : Int) (Q : Int → lf_Z → Prop) (s : lf_Z) : Prop := fm_83_p4L Q a1 0 0 s
set_option maxRecDepth 100000 in
theorem gm_83 {L : Nat} {xs : Nat → Int32} {d : Nat} {a1 : Int} {Q : Int → lf_Z → Prop} {s : lf_Z} (h : fm_83 a1 Q s) : lf_M (px_ro L xs) (d + 1) 83 [.ref 63, .int (Int32.ofInt a1)] s (lf_qi Q) := by
  unfold fm_83 at h
  show lf_E (px_ro L xs) (d + 1) 83 0 [(0, .ref 63), (1, .int (Int32.ofInt a1))] [] s _
  refine lf_seg 4 (pc' := 4) (lv' := [(3, .int (Int32.ofInt 0)), (2, .int (Int32.ofInt 0)), (0, .ref 63), (1, .int (Int32.ofInt a1))]) (st' := []) rfl ?_
  refine lf_sub (l := [(0, .ref 63), (1, .int (Int32.ofInt a1)), (2, .int (Int32.ofInt 0)), (3, .int (Int32.ofInt 0))]) (lf_sb1 rfl (lf_sb1 rfl (lf_sb1 rfl (lf_sb1 rfl lf_sb0)))) ?_
  exact gm_83_p4L h
-- fm_82 Laws.nameAll 63 i i i
def fm_82_p43 (Q : lf_Z → Prop) (x2 : Int) (x3 : Int) (y1 : Int) (y2 : Int) (s : lf_Z) : Prop := (0 ≤ y1 ∧ y1 < 11) ∧ (fm_83 x2 (fun r25 s24 => (Q (lf_up s24.1 64 3 (r25 + x3), s24.2.1, s24.2.2))) (lf_up s.1 64 y1 y2, s.2.1, s.2.2))
set_option maxRecDepth 100000 in
theorem gm_82_p43 {L : Nat} {xs : Nat → Int32} {d : Nat} {Q : lf_Z → Prop} {x2 : Int} {x3 : Int} {y1 : Int} {y2 : Int} {s : lf_Z} (h : fm_82_p43 Q x2 x3 y1 y2 s) : lf_E (px_ro L xs) (d + 2) 82 43 [(0, .ref 63), (2, .int (Int32.ofInt x2)), (3, .int (Int32.ofInt x3))] [.int (Int32.ofInt y2), .int (Int32.ofInt y1), .ref 64] s (lf_qv Q) := by
  unfold fm_82_p43 at h
  obtain ⟨o23, h⟩ := h
  refine lf_iast 44 11 rfl rfl rfl rfl rfl rfl o23 ?_
  refine lf_as (lf_up s.1 64 y1 y2, s.2.1, s.2.2) rfl ?_
  refine lf_seg 5 (pc' := 51) (lv' := [(0, .ref 63), (2, .int (Int32.ofInt x2)), (3, .int (Int32.ofInt x3))]) (st' := [.int (Int32.ofInt x2), .ref 63, .int (Int32.ofInt 3), .ref 64]) rfl ?_
  refine lf_callI 54 rfl rfl rfl rfl (gm_83 h) (fun r25 s24 h => ?_)
  refine lf_seg 1 (pc' := 55) (lv' := [(0, .ref 63), (2, .int (Int32.ofInt x2)), (3, .int (Int32.ofInt x3))]) (st' := [.int (Int32.ofInt x3), .int (Int32.ofInt r25), .int (Int32.ofInt 3), .ref 64]) rfl ?_
  refine lf_iadd 56 rfl rfl ?_
  refine lf_iast 57 11 rfl rfl rfl rfl rfl rfl ⟨by decide, by decide⟩ ?_
  refine lf_as (lf_up s24.1 64 3 (r25 + x3), s24.2.1, s24.2.2) rfl ?_
  exact lf_retV rfl rfl h
def fm_82 (a1 : Int) (a2 : Int) (a3 : Int) (Q : lf_Z → Prop) (s : lf_Z) : Prop := fm_18 a2 (fun z22 s21 => ((z22 = false → (fm_82_p43 Q a2 a3 2 0 s21)) ∧ (z22 = true → ((0 ≤ a2 ∧ a2 < 12) ∧ (fm_82_p43 Q a2 a3 2 (s21.1 2 a2) s21))))) (lf_up (lf_up s.1 64 0 a1) 64 1 a2, s.2.1, s.2.2)
set_option maxRecDepth 100000 in
theorem gm_82 {L : Nat} {xs : Nat → Int32} {d : Nat} {a1 : Int} {a2 : Int} {a3 : Int} {Q : lf_Z → Prop} {s : lf_Z} (h : fm_82 a1 a2 a3 Q s) : lf_M (px_ro L xs) (d + 2) 82 [.ref 63, .int (Int32.ofInt a1), .int (Int32.ofInt a2), .int (Int32.ofInt a3)] s (lf_qv Q) := by
  unfold fm_82 at h
  show lf_E (px_ro L xs) (d + 2) 82 0 [(0, .ref 63), (1, .int (Int32.ofInt a1)), (2, .int (Int32.ofInt a2)), (3, .int (Int32.ofInt a3))] [] s _
  refine lf_seg 4 (pc' := 6) (lv' := [(0, .ref 63), (1, .int (Int32.ofInt a1)), (2, .int (Int32.ofInt a2)), (3, .int (Int32.ofInt a3))]) (st' := [.int (Int32.ofInt a1), .int (Int32.ofInt 0), .ref 64]) rfl ?_
  refine lf_iast 7 11 rfl rfl rfl rfl rfl rfl ⟨by decide, by decide⟩ ?_
  refine lf_as (lf_up s.1 64 0 a1, s.2.1, s.2.2) rfl ?_
  refine lf_seg 4 (pc' := 13) (lv' := [(0, .ref 63), (1, .int (Int32.ofInt a1)), (2, .int (Int32.ofInt a2)), (3, .int (Int32.ofInt a3))]) (st' := [.int (Int32.ofInt a2), .int (Int32.ofInt 1), .ref 64]) rfl ?_
  refine lf_iast 14 11 rfl rfl rfl rfl rfl rfl ⟨by decide, by decide⟩ ?_
  refine lf_as (lf_up (lf_up s.1 64 0 a1) 64 1 a2, s.2.1, s.2.2) rfl ?_
  refine lf_seg 6 (pc' := 24) (lv' := [(0, .ref 63), (1, .int (Int32.ofInt a1)), (2, .int (Int32.ofInt a2)), (3, .int (Int32.ofInt a3))]) (st' := [.int (Int32.ofInt a2), .ref 1, .int (Int32.ofInt 2), .ref 64]) rfl ?_
  refine lf_callZ 27 rfl rfl rfl rfl (gm_18 h) (fun z22 s21 h => ?_)
  refine lf_ifz_eq 42 30 rfl rfl rfl (fun c => ?_) (fun c => ?_)
  · have h := h.1 c
    refine lf_seg 1 (pc' := 43) (lv' := [(0, .ref 63), (1, .int (Int32.ofInt a1)), (2, .int (Int32.ofInt a2)), (3, .int (Int32.ofInt a3))]) (st' := [.int (Int32.ofInt 0), .int (Int32.ofInt 2), .ref 64]) rfl ?_
    refine lf_sub (l := [(0, .ref 63), (2, .int (Int32.ofInt a2)), (3, .int (Int32.ofInt a3))]) (lf_sb1 rfl (lf_sb1 rfl (lf_sb1 rfl lf_sb0))) ?_
    exact gm_82_p43 h
  · have h := h.2 c
    refine lf_seg 4 (pc' := 38) (lv' := [(0, .ref 63), (1, .int (Int32.ofInt a1)), (2, .int (Int32.ofInt a2)), (3, .int (Int32.ofInt a3))]) (st' := [.int (Int32.ofInt a2), .ref 2, .int (Int32.ofInt 2), .ref 64]) rfl ?_
    obtain ⟨o26, h⟩ := h
    refine lf_iald 39 12 rfl rfl rfl rfl rfl rfl o26 ?_
    refine lf_seg 1 (pc' := 43) (lv' := [(0, .ref 63), (1, .int (Int32.ofInt a1)), (2, .int (Int32.ofInt a2)), (3, .int (Int32.ofInt a3))]) (st' := [.int (Int32.ofInt (s21.1 2 a2)), .int (Int32.ofInt 2), .ref 64]) rfl ?_
    refine lf_sub (l := [(0, .ref 63), (2, .int (Int32.ofInt a2)), (3, .int (Int32.ofInt a3))]) (lf_sb1 rfl (lf_sb1 rfl (lf_sb1 rfl lf_sb0))) ?_
    exact gm_82_p43 h
-- fm_84 Laws.answer 63 n i
def fm_84 (a2 : Int) (Q : Int → lf_Z → Prop) (s : lf_Z) : Prop := False
set_option maxRecDepth 100000 in
theorem gm_84 {L : Nat} {xs : Nat → Int32} {d : Nat} {a2 : Int} {Q : Int → lf_Z → Prop} {s : lf_Z} (h : fm_84 a2 Q s) : lf_M (px_ro L xs) (d + 1) 84 [.ref 63, .null, .int (Int32.ofInt a2)] s (lf_qi Q) := by
  unfold fm_84 at h
  show lf_E (px_ro L xs) (d + 1) 84 0 [(0, .ref 63), (1, .null), (2, .int (Int32.ofInt a2))] [] s _
  refine lf_seg 2 (pc' := 2) (lv' := [(0, .ref 63), (1, .null), (2, .int (Int32.ofInt a2))]) (st' := [.int (Int32.ofInt 0), .ref 63]) rfl ?_
  refine lf_putI 5 6 rfl rfl rfl rfl rfl rfl rfl rfl ?_
  refine lf_as (lf_up s.1 63 6 0, s.2.1, s.2.2) rfl ?_
  refine lf_seg 1 (pc' := 6) (lv' := [(0, .ref 63), (1, .null), (2, .int (Int32.ofInt a2))]) (st' := [.null]) rfl ?_
  exact h.elim
-- fm_86 Laws.pop 63
def fm_86 (Q : Int → lf_Z → Prop) (s : lf_Z) : Prop := lf_R (s.1 63 6) ∧ ((s.1 63 6 ≠ 0 → ((0 ≤ (s.1 63 6) - 1 ∧ (s.1 63 6) - 1 < 300) ∧ (Q (s.1 66 ((s.1 63 6) - 1)) (lf_up s.1 63 6 ((s.1 63 6) - 1), s.2.1, s.2.2)))) ∧ (¬ (s.1 63 6 ≠ 0) → (Q 0 s)))
set_option maxRecDepth 100000 in
theorem gm_86 {L : Nat} {xs : Nat → Int32} {d : Nat} {Q : Int → lf_Z → Prop} {s : lf_Z} (h : fm_86 Q s) : lf_M (px_ro L xs) (d + 1) 86 [.ref 63] s (lf_qi Q) := by
  unfold fm_86 at h
  show lf_E (px_ro L xs) (d + 1) 86 0 [(0, .ref 63)] [] s _
  refine lf_seg 1 (pc' := 1) (lv' := [(0, .ref 63)]) (st' := [.ref 63]) rfl ?_
  refine lf_getI 4 6 rfl rfl rfl rfl rfl rfl rfl ?_
  obtain ⟨o21, h⟩ := h
  refine lf_if_ne 9 7 rfl rfl rfl o21 (fun c => ?_) (fun c => ?_)
  · have h := h.1 c
    refine lf_seg 2 (pc' := 11) (lv' := [(0, .ref 63)]) (st' := [.ref 63, .ref 63]) rfl ?_
    refine lf_getI 14 6 rfl rfl rfl rfl rfl rfl rfl ?_
    refine lf_seg 1 (pc' := 15) (lv' := [(0, .ref 63)]) (st' := [.int (Int32.ofInt 1), .int (Int32.ofInt (s.1 63 6)), .ref 63]) rfl ?_
    refine lf_isub 16 rfl rfl ?_
    refine lf_putI 19 6 rfl rfl rfl rfl rfl rfl rfl rfl ?_
    refine lf_as (lf_up s.1 63 6 ((s.1 63 6) - 1), s.2.1, s.2.2) rfl ?_
    refine lf_seg 3 (pc' := 24) (lv' := [(0, .ref 63)]) (st' := [.ref 63, .ref 66]) rfl ?_
    refine lf_getI 27 6 rfl rfl rfl rfl rfl rfl rfl ?_
    refine lf_seg 0 (pc' := 27) (lv' := [(0, .ref 63)]) (st' := [.int (Int32.ofInt ((s.1 63 6) - 1)), .ref 66]) rfl ?_
    obtain ⟨o22, h⟩ := h
    refine lf_iald 28 300 rfl rfl rfl rfl rfl rfl o22 ?_
    refine lf_seg 0 (pc' := 28) (lv' := [(0, .ref 63)]) (st' := [.int (Int32.ofInt (s.1 66 ((s.1 63 6) - 1)))]) rfl ?_
    exact lf_retI rfl rfl h
  · have h := h.2 c
    refine lf_seg 1 (pc' := 8) (lv' := [(0, .ref 63)]) (st' := [.int (Int32.ofInt 0)]) rfl ?_
    exact lf_retI rfl rfl h
-- fm_87 Laws.joined i i i
def fm_87_p310 (Q : Int → lf_Z → Prop) (x1 : Int) (x2 : Int) (s : lf_Z) : Prop := lf_R x1 ∧ (lf_R x2 ∧ ((x1 = x2 → (Q 0 s)) ∧ (¬ (x1 = x2) → (Q 1 s))))
set_option maxRecDepth 100000 in
theorem gm_87_p310 {L : Nat} {xs : Nat → Int32} {d : Nat} {Q : Int → lf_Z → Prop} {x1 : Int} {x2 : Int} {s : lf_Z} (h : fm_87_p310 Q x1 x2 s) : lf_E (px_ro L xs) (d + 1) 87 310 [(1, .int (Int32.ofInt x1)), (2, .int (Int32.ofInt x2))] [] s (lf_qi Q) := by
  unfold fm_87_p310 at h
  refine lf_seg 2 (pc' := 312) (lv' := [(1, .int (Int32.ofInt x1)), (2, .int (Int32.ofInt x2))]) (st' := [.int (Int32.ofInt x2), .int (Int32.ofInt x1)]) rfl ?_
  obtain ⟨o22, h⟩ := h
  obtain ⟨o23, h⟩ := h
  refine lf_icmp_eq 319 315 rfl rfl rfl o22 o23 (fun c => ?_) (fun c => ?_)
  · have h := h.1 c
    refine lf_seg 1 (pc' := 320) (lv' := [(1, .int (Int32.ofInt x1)), (2, .int (Int32.ofInt x2))]) (st' := [.int (Int32.ofInt 0)]) rfl ?_
    exact lf_retI rfl rfl h
  · have h := h.2 c
    refine lf_seg 2 (pc' := 320) (lv' := [(1, .int (Int32.ofInt x1)), (2, .int (Int32.ofInt x2))]) (st' := [.int (Int32.ofInt 1)]) rfl ?_
    exact lf_retI rfl rfl h
def fm_87 (a0 : Int) (a1 : Int) (a2 : Int) (Q : Int → lf_Z → Prop) (s : lf_Z) : Prop := lf_R a0 ∧ ((a0 < 4 ∨ 46 < a0 → (fm_87_p310 Q a1 a2 s)) ∧ (a0 = 4 → (lf_R a1 ∧ (lf_R a2 ∧ ((a2 ≤ a1 → (Q 0 s)) ∧ (¬ (a2 ≤ a1) → (Q 1 s)))))) ∧ (a0 = 5 → (lf_R a1 ∧ (lf_R a2 ∧ ((a2 < a1 → (Q 0 s)) ∧ (¬ (a2 < a1) → (Q 1 s)))))) ∧ (a0 = 6 → (lf_R a1 ∧ (lf_R a2 ∧ ((a1 ≤ a2 → (Q 0 s)) ∧ (¬ (a1 ≤ a2) → (Q 1 s)))))) ∧ (a0 = 7 → (lf_R a1 ∧ (lf_R a2 ∧ ((a1 < a2 → (Q 0 s)) ∧ (¬ (a1 < a2) → (Q 1 s)))))) ∧ (a0 = 8 → (lf_R a1 ∧ (lf_R a2 ∧ ((a1 ≠ a2 → (Q 0 s)) ∧ (¬ (a1 ≠ a2) → (Q 1 s)))))) ∧ (a0 = 9 → (fm_87_p310 Q a1 a2 s)) ∧ (a0 = 10 → (lf_R (min 1000000 (lf_w (a1 + a2))) ∧ (Q (max (-1000000) (min 1000000 (lf_w (a1 + a2)))) s))) ∧ (a0 = 11 → (lf_R (min 1000000 (lf_w (a1 - a2))) ∧ (Q (max (-1000000) (min 1000000 (lf_w (a1 - a2)))) s))) ∧ (a0 = 12 → (lf_R a1 ∧ (lf_R a2 ∧ (Q (lf_w (lf_wl (max (-1000000) (lf_wl (min 1000000 (lf_wl (a1 * a2))))))) s)))) ∧ (a0 = 13 → (lf_R a2 ∧ ((a2 ≠ 0 → (lf_R a1 ∧ (a2 ≠ 0 ∧ (Q (lf_w (a1.tdiv a2)) s)))) ∧ (¬ (a2 ≠ 0) → (Q 0 s))))) ∧ (a0 = 14 → (fm_87_p310 Q a1 a2 s)) ∧ (a0 = 15 → (fm_87_p310 Q a1 a2 s)) ∧ (a0 = 16 → (fm_87_p310 Q a1 a2 s)) ∧ (a0 = 17 → (fm_87_p310 Q a1 a2 s)) ∧ (a0 = 18 → (fm_87_p310 Q a1 a2 s)) ∧ (a0 = 19 → (fm_87_p310 Q a1 a2 s)) ∧ (a0 = 20 → (fm_87_p310 Q a1 a2 s)) ∧ (a0 = 21 → (fm_87_p310 Q a1 a2 s)) ∧ (a0 = 22 → (fm_87_p310 Q a1 a2 s)) ∧ (a0 = 23 → (fm_87_p310 Q a1 a2 s)) ∧ (a0 = 24 → (fm_87_p310 Q a1 a2 s)) ∧ (a0 = 25 → (fm_87_p310 Q a1 a2 s)) ∧ (a0 = 26 → (fm_87_p310 Q a1 a2 s)) ∧ (a0 = 27 → (fm_87_p310 Q a1 a2 s)) ∧ (a0 = 28 → (fm_87_p310 Q a1 a2 s)) ∧ (a0 = 29 → (fm_87_p310 Q a1 a2 s)) ∧ (a0 = 30 → (fm_87_p310 Q a1 a2 s)) ∧ (a0 = 31 → (fm_87_p310 Q a1 a2 s)) ∧ (a0 = 32 → (fm_87_p310 Q a1 a2 s)) ∧ (a0 = 33 → (fm_87_p310 Q a1 a2 s)) ∧ (a0 = 34 → (fm_87_p310 Q a1 a2 s)) ∧ (a0 = 35 → (fm_87_p310 Q a1 a2 s)) ∧ (a0 = 36 → (fm_87_p310 Q a1 a2 s)) ∧ (a0 = 37 → (fm_87_p310 Q a1 a2 s)) ∧ (a0 = 38 → (fm_87_p310 Q a1 a2 s)) ∧ (a0 = 39 → (fm_87_p310 Q a1 a2 s)) ∧ (a0 = 40 → (fm_87_p310 Q a1 a2 s)) ∧ (a0 = 41 → (fm_87_p310 Q a1 a2 s)) ∧ (a0 = 42 → (fm_87_p310 Q a1 a2 s)) ∧ (a0 = 43 → (fm_87_p310 Q a1 a2 s)) ∧ (a0 = 44 → (fm_87_p310 Q a1 a2 s)) ∧ (a0 = 45 → (Q (lf_and a1 a2) s)) ∧ (a0 = 46 → (Q (lf_or a1 a2) s)))
set_option maxRecDepth 100000 in
theorem gm_87 {L : Nat} {xs : Nat → Int32} {d : Nat} {a0 : Int} {a1 : Int} {a2 : Int} {Q : Int → lf_Z → Prop} {s : lf_Z} (h : fm_87 a0 a1 a2 Q s) : lf_M (px_ro L xs) (d + 1) 87 [.int (Int32.ofInt a0), .int (Int32.ofInt a1), .int (Int32.ofInt a2)] s (lf_qi Q) := by
  unfold fm_87 at h
  show lf_E (px_ro L xs) (d + 1) 87 0 [(0, .int (Int32.ofInt a0)), (1, .int (Int32.ofInt a1)), (2, .int (Int32.ofInt a2))] [] s _
  refine lf_seg 1 (pc' := 1) (lv' := [(0, .int (Int32.ofInt a0)), (1, .int (Int32.ofInt a1)), (2, .int (Int32.ofInt a2))]) (st' := [.int (Int32.ofInt a0)]) rfl ?_
  obtain ⟨o21, h⟩ := h
  refine lf_tsw 310 [(4, 255), (5, 266), (6, 277), (7, 288), (8, 299), (9, 310), (10, 188), (11, 202), (12, 216), (13, 235), (14, 310), (15, 310), (16, 310), (17, 310), (18, 310), (19, 310), (20, 310), (21, 310), (22, 310), (23, 310), (24, 310), (25, 310), (26, 310), (27, 310), (28, 310), (29, 310), (30, 310), (31, 310), (32, 310), (33, 310), (34, 310), (35, 310), (36, 310), (37, 310), (38, 310), (39, 310), (40, 310), (41, 310), (42, 310), (43, 310), (44, 310), (45, 247), (46, 251)] rfl rfl rfl (by decide) o21 (fun c => ?_) (lf_tab1 (fun c => ?_) (lf_tab1 (fun c => ?_) (lf_tab1 (fun c => ?_) (lf_tab1 (fun c => ?_) (lf_tab1 (fun c => ?_) (lf_tab1 (fun c => ?_) (lf_tab1 (fun c => ?_) (lf_tab1 (fun c => ?_) (lf_tab1 (fun c => ?_) (lf_tab1 (fun c => ?_) (lf_tab1 (fun c => ?_) (lf_tab1 (fun c => ?_) (lf_tab1 (fun c => ?_) (lf_tab1 (fun c => ?_) (lf_tab1 (fun c => ?_) (lf_tab1 (fun c => ?_) (lf_tab1 (fun c => ?_) (lf_tab1 (fun c => ?_) (lf_tab1 (fun c => ?_) (lf_tab1 (fun c => ?_) (lf_tab1 (fun c => ?_) (lf_tab1 (fun c => ?_) (lf_tab1 (fun c => ?_) (lf_tab1 (fun c => ?_) (lf_tab1 (fun c => ?_) (lf_tab1 (fun c => ?_) (lf_tab1 (fun c => ?_) (lf_tab1 (fun c => ?_) (lf_tab1 (fun c => ?_) (lf_tab1 (fun c => ?_) (lf_tab1 (fun c => ?_) (lf_tab1 (fun c => ?_) (lf_tab1 (fun c => ?_) (lf_tab1 (fun c => ?_) (lf_tab1 (fun c => ?_) (lf_tab1 (fun c => ?_) (lf_tab1 (fun c => ?_) (lf_tab1 (fun c => ?_) (lf_tab1 (fun c => ?_) (lf_tab1 (fun c => ?_) (lf_tab1 (fun c => ?_) (lf_tab1 (fun c => ?_) (lf_tab1 (fun c => ?_) lf_tab0)))))))))))))))))))))))))))))))))))))))))))
  · have h := h.1 c
    refine lf_sub (l := [(1, .int (Int32.ofInt a1)), (2, .int (Int32.ofInt a2))]) (lf_sb1 rfl (lf_sb1 rfl lf_sb0)) ?_
    exact gm_87_p310 h
  · have h := h.2.1 c
    refine lf_seg 2 (pc' := 257) (lv' := [(0, .int (Int32.ofInt a0)), (1, .int (Int32.ofInt a1)), (2, .int (Int32.ofInt a2))]) (st' := [.int (Int32.ofInt a2), .int (Int32.ofInt a1)]) rfl ?_
    obtain ⟨o24, h⟩ := h
    obtain ⟨o25, h⟩ := h
    refine lf_icmp_ge 264 260 rfl rfl rfl o24 o25 (fun c => ?_) (fun c => ?_)
    · have h := h.1 c
      refine lf_seg 1 (pc' := 265) (lv' := [(0, .int (Int32.ofInt a0)), (1, .int (Int32.ofInt a1)), (2, .int (Int32.ofInt a2))]) (st' := [.int (Int32.ofInt 0)]) rfl ?_
      exact lf_retI rfl rfl h
    · have h := h.2 c
      refine lf_seg 2 (pc' := 265) (lv' := [(0, .int (Int32.ofInt a0)), (1, .int (Int32.ofInt a1)), (2, .int (Int32.ofInt a2))]) (st' := [.int (Int32.ofInt 1)]) rfl ?_
      exact lf_retI rfl rfl h
  · have h := h.2.2.1 c
    refine lf_seg 2 (pc' := 268) (lv' := [(0, .int (Int32.ofInt a0)), (1, .int (Int32.ofInt a1)), (2, .int (Int32.ofInt a2))]) (st' := [.int (Int32.ofInt a2), .int (Int32.ofInt a1)]) rfl ?_
    obtain ⟨o26, h⟩ := h
    obtain ⟨o27, h⟩ := h
    refine lf_icmp_gt 275 271 rfl rfl rfl o26 o27 (fun c => ?_) (fun c => ?_)
    · have h := h.1 c
      refine lf_seg 1 (pc' := 276) (lv' := [(0, .int (Int32.ofInt a0)), (1, .int (Int32.ofInt a1)), (2, .int (Int32.ofInt a2))]) (st' := [.int (Int32.ofInt 0)]) rfl ?_
      exact lf_retI rfl rfl h
    · have h := h.2 c
      refine lf_seg 2 (pc' := 276) (lv' := [(0, .int (Int32.ofInt a0)), (1, .int (Int32.ofInt a1)), (2, .int (Int32.ofInt a2))]) (st' := [.int (Int32.ofInt 1)]) rfl ?_
      exact lf_retI rfl rfl h
  · have h := h.2.2.2.1 c
    refine lf_seg 2 (pc' := 279) (lv' := [(0, .int (Int32.ofInt a0)), (1, .int (Int32.ofInt a1)), (2, .int (Int32.ofInt a2))]) (st' := [.int (Int32.ofInt a2), .int (Int32.ofInt a1)]) rfl ?_
    obtain ⟨o28, h⟩ := h
    obtain ⟨o29, h⟩ := h
    refine lf_icmp_le 286 282 rfl rfl rfl o28 o29 (fun c => ?_) (fun c => ?_)
    · have h := h.1 c
      refine lf_seg 1 (pc' := 287) (lv' := [(0, .int (Int32.ofInt a0)), (1, .int (Int32.ofInt a1)), (2, .int (Int32.ofInt a2))]) (st' := [.int (Int32.ofInt 0)]) rfl ?_
      exact lf_retI rfl rfl h
    · have h := h.2 c
      refine lf_seg 2 (pc' := 287) (lv' := [(0, .int (Int32.ofInt a0)), (1, .int (Int32.ofInt a1)), (2, .int (Int32.ofInt a2))]) (st' := [.int (Int32.ofInt 1)]) rfl ?_
      exact lf_retI rfl rfl h
  · have h := h.2.2.2.2.1 c
    refine lf_seg 2 (pc' := 290) (lv' := [(0, .int (Int32.ofInt a0)), (1, .int (Int32.ofInt a1)), (2, .int (Int32.ofInt a2))]) (st' := [.int (Int32.ofInt a2), .int (Int32.ofInt a1)]) rfl ?_
    obtain ⟨o30, h⟩ := h
    obtain ⟨o31, h⟩ := h
    refine lf_icmp_lt 297 293 rfl rfl rfl o30 o31 (fun c => ?_) (fun c => ?_)
    · have h := h.1 c
      refine lf_seg 1 (pc' := 298) (lv' := [(0, .int (Int32.ofInt a0)), (1, .int (Int32.ofInt a1)), (2, .int (Int32.ofInt a2))]) (st' := [.int (Int32.ofInt 0)]) rfl ?_
      exact lf_retI rfl rfl h
    · have h := h.2 c
      refine lf_seg 2 (pc' := 298) (lv' := [(0, .int (Int32.ofInt a0)), (1, .int (Int32.ofInt a1)), (2, .int (Int32.ofInt a2))]) (st' := [.int (Int32.ofInt 1)]) rfl ?_
      exact lf_retI rfl rfl h
  · have h := h.2.2.2.2.2.1 c
    refine lf_seg 2 (pc' := 301) (lv' := [(0, .int (Int32.ofInt a0)), (1, .int (Int32.ofInt a1)), (2, .int (Int32.ofInt a2))]) (st' := [.int (Int32.ofInt a2), .int (Int32.ofInt a1)]) rfl ?_
    obtain ⟨o32, h⟩ := h
    obtain ⟨o33, h⟩ := h
    refine lf_icmp_ne 308 304 rfl rfl rfl o32 o33 (fun c => ?_) (fun c => ?_)
    · have h := h.1 c
      refine lf_seg 1 (pc' := 309) (lv' := [(0, .int (Int32.ofInt a0)), (1, .int (Int32.ofInt a1)), (2, .int (Int32.ofInt a2))]) (st' := [.int (Int32.ofInt 0)]) rfl ?_
      exact lf_retI rfl rfl h
    · have h := h.2 c
      refine lf_seg 2 (pc' := 309) (lv' := [(0, .int (Int32.ofInt a0)), (1, .int (Int32.ofInt a1)), (2, .int (Int32.ofInt a2))]) (st' := [.int (Int32.ofInt 1)]) rfl ?_
      exact lf_retI rfl rfl h
  · have h := h.2.2.2.2.2.2.1 c
    refine lf_sub (l := [(1, .int (Int32.ofInt a1)), (2, .int (Int32.ofInt a2))]) (lf_sb1 rfl (lf_sb1 rfl lf_sb0)) ?_
    exact gm_87_p310 h
  · have h := h.2.2.2.2.2.2.2.1 c
    refine lf_ldc 190 (-1000000) rfl rfl rfl (by decide) ?_
    refine lf_ldc 192 1000000 rfl rfl rfl (by decide) ?_
    refine lf_seg 2 (pc' := 194) (lv' := [(0, .int (Int32.ofInt a0)), (1, .int (Int32.ofInt a1)), (2, .int (Int32.ofInt a2))]) (st' := [.int (Int32.ofInt a2), .int (Int32.ofInt a1), .int (Int32.ofInt 1000000), .int (Int32.ofInt (-1000000))]) rfl ?_
    refine lf_iadd 195 rfl rfl ?_
    refine lf_wtI ?_
    refine lf_imin 198 rfl rfl rfl rfl ⟨by decide, by decide⟩ lf_Rw ?_
    obtain ⟨o34, h⟩ := h
    refine lf_imax 201 rfl rfl rfl rfl ⟨by decide, by decide⟩ o34 ?_
    exact lf_retI rfl rfl h
  · have h := h.2.2.2.2.2.2.2.2.1 c
    refine lf_ldc 204 (-1000000) rfl rfl rfl (by decide) ?_
    refine lf_ldc 206 1000000 rfl rfl rfl (by decide) ?_
    refine lf_seg 2 (pc' := 208) (lv' := [(0, .int (Int32.ofInt a0)), (1, .int (Int32.ofInt a1)), (2, .int (Int32.ofInt a2))]) (st' := [.int (Int32.ofInt a2), .int (Int32.ofInt a1), .int (Int32.ofInt 1000000), .int (Int32.ofInt (-1000000))]) rfl ?_
    refine lf_isub 209 rfl rfl ?_
    refine lf_wtI ?_
    refine lf_imin 212 rfl rfl rfl rfl ⟨by decide, by decide⟩ lf_Rw ?_
    obtain ⟨o35, h⟩ := h
    refine lf_imax 215 rfl rfl rfl rfl ⟨by decide, by decide⟩ o35 ?_
    exact lf_retI rfl rfl h
  · have h := h.2.2.2.2.2.2.2.2.2.1 c
    refine lf_ldc2 219 (-1000000) rfl rfl rfl (by decide) ?_
    refine lf_ldc2 222 1000000 rfl rfl rfl (by decide) ?_
    refine lf_seg 1 (pc' := 223) (lv' := [(0, .int (Int32.ofInt a0)), (1, .int (Int32.ofInt a1)), (2, .int (Int32.ofInt a2))]) (st' := [.int (Int32.ofInt a1), .long (Int64.ofInt 1000000), .long (Int64.ofInt (-1000000))]) rfl ?_
    obtain ⟨o36, h⟩ := h
    refine lf_i2l 224 rfl rfl o36 ?_
    refine lf_seg 1 (pc' := 225) (lv' := [(0, .int (Int32.ofInt a0)), (1, .int (Int32.ofInt a1)), (2, .int (Int32.ofInt a2))]) (st' := [.int (Int32.ofInt a2), .long (Int64.ofInt a1), .long (Int64.ofInt 1000000), .long (Int64.ofInt (-1000000))]) rfl ?_
    obtain ⟨o37, h⟩ := h
    refine lf_i2l 226 rfl rfl o37 ?_
    refine lf_lmul 227 rfl rfl ?_
    refine lf_wtL ?_
    refine lf_lmin 230 rfl rfl rfl rfl ⟨by decide, by decide⟩ lf_RLwl ?_
    refine lf_wtL ?_
    refine lf_lmax 233 rfl rfl rfl rfl ⟨by decide, by decide⟩ lf_RLwl ?_
    refine lf_wtL ?_
    refine lf_l2i 234 rfl rfl ?_
    refine lf_wtI ?_
    exact lf_retI rfl rfl h
  · have h := h.2.2.2.2.2.2.2.2.2.2.1 c
    refine lf_seg 1 (pc' := 236) (lv' := [(0, .int (Int32.ofInt a0)), (1, .int (Int32.ofInt a1)), (2, .int (Int32.ofInt a2))]) (st' := [.int (Int32.ofInt a2)]) rfl ?_
    obtain ⟨o38, h⟩ := h
    refine lf_if_ne 243 239 rfl rfl rfl o38 (fun c => ?_) (fun c => ?_)
    · have h := h.1 c
      refine lf_seg 2 (pc' := 245) (lv' := [(0, .int (Int32.ofInt a0)), (1, .int (Int32.ofInt a1)), (2, .int (Int32.ofInt a2))]) (st' := [.int (Int32.ofInt a2), .int (Int32.ofInt a1)]) rfl ?_
      obtain ⟨o39, h⟩ := h
      obtain ⟨o40, h⟩ := h
      refine lf_idiv 246 rfl rfl o39 o38 o40 ?_
      refine lf_wtI ?_
      exact lf_retI rfl rfl h
    · have h := h.2 c
      refine lf_seg 2 (pc' := 246) (lv' := [(0, .int (Int32.ofInt a0)), (1, .int (Int32.ofInt a1)), (2, .int (Int32.ofInt a2))]) (st' := [.int (Int32.ofInt 0)]) rfl ?_
      exact lf_retI rfl rfl h
  · have h := h.2.2.2.2.2.2.2.2.2.2.2.1 c
    refine lf_sub (l := [(1, .int (Int32.ofInt a1)), (2, .int (Int32.ofInt a2))]) (lf_sb1 rfl (lf_sb1 rfl lf_sb0)) ?_
    exact gm_87_p310 h
  · have h := h.2.2.2.2.2.2.2.2.2.2.2.2.1 c
    refine lf_sub (l := [(1, .int (Int32.ofInt a1)), (2, .int (Int32.ofInt a2))]) (lf_sb1 rfl (lf_sb1 rfl lf_sb0)) ?_
    exact gm_87_p310 h
  · have h := h.2.2.2.2.2.2.2.2.2.2.2.2.2.1 c
    refine lf_sub (l := [(1, .int (Int32.ofInt a1)), (2, .int (Int32.ofInt a2))]) (lf_sb1 rfl (lf_sb1 rfl lf_sb0)) ?_
    exact gm_87_p310 h
  · have h := h.2.2.2.2.2.2.2.2.2.2.2.2.2.2.1 c
    refine lf_sub (l := [(1, .int (Int32.ofInt a1)), (2, .int (Int32.ofInt a2))]) (lf_sb1 rfl (lf_sb1 rfl lf_sb0)) ?_
    exact gm_87_p310 h
  · have h := h.2.2.2.2.2.2.2.2.2.2.2.2.2.2.2.1 c
    refine lf_sub (l := [(1, .int (Int32.ofInt a1)), (2, .int (Int32.ofInt a2))]) (lf_sb1 rfl (lf_sb1 rfl lf_sb0)) ?_
    exact gm_87_p310 h
  · have h := h.2.2.2.2.2.2.2.2.2.2.2.2.2.2.2.2.1 c
    refine lf_sub (l := [(1, .int (Int32.ofInt a1)), (2, .int (Int32.ofInt a2))]) (lf_sb1 rfl (lf_sb1 rfl lf_sb0)) ?_
    exact gm_87_p310 h
  · have h := h.2.2.2.2.2.2.2.2.2.2.2.2.2.2.2.2.2.1 c
    refine lf_sub (l := [(1, .int (Int32.ofInt a1)), (2, .int (Int32.ofInt a2))]) (lf_sb1 rfl (lf_sb1 rfl lf_sb0)) ?_
    exact gm_87_p310 h
  · have h := h.2.2.2.2.2.2.2.2.2.2.2.2.2.2.2.2.2.2.1 c
    refine lf_sub (l := [(1, .int (Int32.ofInt a1)), (2, .int (Int32.ofInt a2))]) (lf_sb1 rfl (lf_sb1 rfl lf_sb0)) ?_
    exact gm_87_p310 h
  · have h := h.2.2.2.2.2.2.2.2.2.2.2.2.2.2.2.2.2.2.2.1 c
    refine lf_sub (l := [(1, .int (Int32.ofInt a1)), (2, .int (Int32.ofInt a2))]) (lf_sb1 rfl (lf_sb1 rfl lf_sb0)) ?_
    exact gm_87_p310 h
  · have h := h.2.2.2.2.2.2.2.2.2.2.2.2.2.2.2.2.2.2.2.2.1 c
    refine lf_sub (l := [(1, .int (Int32.ofInt a1)), (2, .int (Int32.ofInt a2))]) (lf_sb1 rfl (lf_sb1 rfl lf_sb0)) ?_
    exact gm_87_p310 h
  · have h := h.2.2.2.2.2.2.2.2.2.2.2.2.2.2.2.2.2.2.2.2.2.1 c
    refine lf_sub (l := [(1, .int (Int32.ofInt a1)), (2, .int (Int32.ofInt a2))]) (lf_sb1 rfl (lf_sb1 rfl lf_sb0)) ?_
    exact gm_87_p310 h
  · have h := h.2.2.2.2.2.2.2.2.2.2.2.2.2.2.2.2.2.2.2.2.2.2.1 c
    refine lf_sub (l := [(1, .int (Int32.ofInt a1)), (2, .int (Int32.ofInt a2))]) (lf_sb1 rfl (lf_sb1 rfl lf_sb0)) ?_
    exact gm_87_p310 h
  · have h := h.2.2.2.2.2.2.2.2.2.2.2.2.2.2.2.2.2.2.2.2.2.2.2.1 c
    refine lf_sub (l := [(1, .int (Int32.ofInt a1)), (2, .int (Int32.ofInt a2))]) (lf_sb1 rfl (lf_sb1 rfl lf_sb0)) ?_
    exact gm_87_p310 h
  · have h := h.2.2.2.2.2.2.2.2.2.2.2.2.2.2.2.2.2.2.2.2.2.2.2.2.1 c
    refine lf_sub (l := [(1, .int (Int32.ofInt a1)), (2, .int (Int32.ofInt a2))]) (lf_sb1 rfl (lf_sb1 rfl lf_sb0)) ?_
    exact gm_87_p310 h
  · have h := h.2.2.2.2.2.2.2.2.2.2.2.2.2.2.2.2.2.2.2.2.2.2.2.2.2.1 c
    refine lf_sub (l := [(1, .int (Int32.ofInt a1)), (2, .int (Int32.ofInt a2))]) (lf_sb1 rfl (lf_sb1 rfl lf_sb0)) ?_
    exact gm_87_p310 h
  · have h := h.2.2.2.2.2.2.2.2.2.2.2.2.2.2.2.2.2.2.2.2.2.2.2.2.2.2.1 c
    refine lf_sub (l := [(1, .int (Int32.ofInt a1)), (2, .int (Int32.ofInt a2))]) (lf_sb1 rfl (lf_sb1 rfl lf_sb0)) ?_
    exact gm_87_p310 h
  · have h := h.2.2.2.2.2.2.2.2.2.2.2.2.2.2.2.2.2.2.2.2.2.2.2.2.2.2.2.1 c
    refine lf_sub (l := [(1, .int (Int32.ofInt a1)), (2, .int (Int32.ofInt a2))]) (lf_sb1 rfl (lf_sb1 rfl lf_sb0)) ?_
    exact gm_87_p310 h
  · have h := h.2.2.2.2.2.2.2.2.2.2.2.2.2.2.2.2.2.2.2.2.2.2.2.2.2.2.2.2.1 c
    refine lf_sub (l := [(1, .int (Int32.ofInt a1)), (2, .int (Int32.ofInt a2))]) (lf_sb1 rfl (lf_sb1 rfl lf_sb0)) ?_
    exact gm_87_p310 h
  · have h := h.2.2.2.2.2.2.2.2.2.2.2.2.2.2.2.2.2.2.2.2.2.2.2.2.2.2.2.2.2.1 c
    refine lf_sub (l := [(1, .int (Int32.ofInt a1)), (2, .int (Int32.ofInt a2))]) (lf_sb1 rfl (lf_sb1 rfl lf_sb0)) ?_
    exact gm_87_p310 h
  · have h := h.2.2.2.2.2.2.2.2.2.2.2.2.2.2.2.2.2.2.2.2.2.2.2.2.2.2.2.2.2.2.1 c
    refine lf_sub (l := [(1, .int (Int32.ofInt a1)), (2, .int (Int32.ofInt a2))]) (lf_sb1 rfl (lf_sb1 rfl lf_sb0)) ?_
    exact gm_87_p310 h
  · have h := h.2.2.2.2.2.2.2.2.2.2.2.2.2.2.2.2.2.2.2.2.2.2.2.2.2.2.2.2.2.2.2.1 c
    refine lf_sub (l := [(1, .int (Int32.ofInt a1)), (2, .int (Int32.ofInt a2))]) (lf_sb1 rfl (lf_sb1 rfl lf_sb0)) ?_
    exact gm_87_p310 h
  · have h := h.2.2.2.2.2.2.2.2.2.2.2.2.2.2.2.2.2.2.2.2.2.2.2.2.2.2.2.2.2.2.2.2.1 c
    refine lf_sub (l := [(1, .int (Int32.ofInt a1)), (2, .int (Int32.ofInt a2))]) (lf_sb1 rfl (lf_sb1 rfl lf_sb0)) ?_
    exact gm_87_p310 h
  · have h := h.2.2.2.2.2.2.2.2.2.2.2.2.2.2.2.2.2.2.2.2.2.2.2.2.2.2.2.2.2.2.2.2.2.1 c
    refine lf_sub (l := [(1, .int (Int32.ofInt a1)), (2, .int (Int32.ofInt a2))]) (lf_sb1 rfl (lf_sb1 rfl lf_sb0)) ?_
    exact gm_87_p310 h
  · have h := h.2.2.2.2.2.2.2.2.2.2.2.2.2.2.2.2.2.2.2.2.2.2.2.2.2.2.2.2.2.2.2.2.2.2.1 c
    refine lf_sub (l := [(1, .int (Int32.ofInt a1)), (2, .int (Int32.ofInt a2))]) (lf_sb1 rfl (lf_sb1 rfl lf_sb0)) ?_
    exact gm_87_p310 h
  · have h := h.2.2.2.2.2.2.2.2.2.2.2.2.2.2.2.2.2.2.2.2.2.2.2.2.2.2.2.2.2.2.2.2.2.2.2.1 c
    refine lf_sub (l := [(1, .int (Int32.ofInt a1)), (2, .int (Int32.ofInt a2))]) (lf_sb1 rfl (lf_sb1 rfl lf_sb0)) ?_
    exact gm_87_p310 h
  · have h := h.2.2.2.2.2.2.2.2.2.2.2.2.2.2.2.2.2.2.2.2.2.2.2.2.2.2.2.2.2.2.2.2.2.2.2.2.1 c
    refine lf_sub (l := [(1, .int (Int32.ofInt a1)), (2, .int (Int32.ofInt a2))]) (lf_sb1 rfl (lf_sb1 rfl lf_sb0)) ?_
    exact gm_87_p310 h
  · have h := h.2.2.2.2.2.2.2.2.2.2.2.2.2.2.2.2.2.2.2.2.2.2.2.2.2.2.2.2.2.2.2.2.2.2.2.2.2.1 c
    refine lf_sub (l := [(1, .int (Int32.ofInt a1)), (2, .int (Int32.ofInt a2))]) (lf_sb1 rfl (lf_sb1 rfl lf_sb0)) ?_
    exact gm_87_p310 h
  · have h := h.2.2.2.2.2.2.2.2.2.2.2.2.2.2.2.2.2.2.2.2.2.2.2.2.2.2.2.2.2.2.2.2.2.2.2.2.2.2.1 c
    refine lf_sub (l := [(1, .int (Int32.ofInt a1)), (2, .int (Int32.ofInt a2))]) (lf_sb1 rfl (lf_sb1 rfl lf_sb0)) ?_
    exact gm_87_p310 h
  · have h := h.2.2.2.2.2.2.2.2.2.2.2.2.2.2.2.2.2.2.2.2.2.2.2.2.2.2.2.2.2.2.2.2.2.2.2.2.2.2.2.1 c
    refine lf_sub (l := [(1, .int (Int32.ofInt a1)), (2, .int (Int32.ofInt a2))]) (lf_sb1 rfl (lf_sb1 rfl lf_sb0)) ?_
    exact gm_87_p310 h
  · have h := h.2.2.2.2.2.2.2.2.2.2.2.2.2.2.2.2.2.2.2.2.2.2.2.2.2.2.2.2.2.2.2.2.2.2.2.2.2.2.2.2.1 c
    refine lf_sub (l := [(1, .int (Int32.ofInt a1)), (2, .int (Int32.ofInt a2))]) (lf_sb1 rfl (lf_sb1 rfl lf_sb0)) ?_
    exact gm_87_p310 h
  · have h := h.2.2.2.2.2.2.2.2.2.2.2.2.2.2.2.2.2.2.2.2.2.2.2.2.2.2.2.2.2.2.2.2.2.2.2.2.2.2.2.2.2.1 c
    refine lf_sub (l := [(1, .int (Int32.ofInt a1)), (2, .int (Int32.ofInt a2))]) (lf_sb1 rfl (lf_sb1 rfl lf_sb0)) ?_
    exact gm_87_p310 h
  · have h := h.2.2.2.2.2.2.2.2.2.2.2.2.2.2.2.2.2.2.2.2.2.2.2.2.2.2.2.2.2.2.2.2.2.2.2.2.2.2.2.2.2.2.1 c
    refine lf_seg 2 (pc' := 249) (lv' := [(0, .int (Int32.ofInt a0)), (1, .int (Int32.ofInt a1)), (2, .int (Int32.ofInt a2))]) (st' := [.int (Int32.ofInt a2), .int (Int32.ofInt a1)]) rfl ?_
    refine lf_iand 250 rfl rfl ?_
    exact lf_retI rfl rfl h
  · have h := h.2.2.2.2.2.2.2.2.2.2.2.2.2.2.2.2.2.2.2.2.2.2.2.2.2.2.2.2.2.2.2.2.2.2.2.2.2.2.2.2.2.2.2 c
    refine lf_seg 2 (pc' := 253) (lv' := [(0, .int (Int32.ofInt a0)), (1, .int (Int32.ofInt a1)), (2, .int (Int32.ofInt a2))]) (st' := [.int (Int32.ofInt a2), .int (Int32.ofInt a1)]) rfl ?_
    refine lf_ior 254 rfl rfl ?_
    exact lf_retI rfl rfl h
-- fm_85 Laws.push 63 i
def fm_85 (a1 : Int) (Q : lf_Z → Prop) (s : lf_Z) : Prop := lf_R (s.1 63 6) ∧ ((300 ≤ s.1 63 6 → (Q s)) ∧ (¬ (300 ≤ s.1 63 6) → ((0 ≤ s.1 63 6 ∧ s.1 63 6 < 300) ∧ (Q (lf_up (lf_up s.1 66 (s.1 63 6) a1) 63 6 ((s.1 63 6) + 1), s.2.1, s.2.2)))))
set_option maxRecDepth 100000 in
theorem gm_85 {L : Nat} {xs : Nat → Int32} {d : Nat} {a1 : Int} {Q : lf_Z → Prop} {s : lf_Z} (h : fm_85 a1 Q s) : lf_M (px_ro L xs) (d + 1) 85 [.ref 63, .int (Int32.ofInt a1)] s (lf_qv Q) := by
  unfold fm_85 at h
  show lf_E (px_ro L xs) (d + 1) 85 0 [(0, .ref 63), (1, .int (Int32.ofInt a1))] [] s _
  refine lf_seg 1 (pc' := 1) (lv' := [(0, .ref 63), (1, .int (Int32.ofInt a1))]) (st' := [.ref 63]) rfl ?_
  refine lf_getI 4 6 rfl rfl rfl rfl rfl rfl rfl ?_
  refine lf_sipush 7 300 rfl rfl (by decide) (by decide) ?_
  obtain ⟨o21, h⟩ := h
  refine lf_icmp_ge 30 10 rfl rfl rfl o21 ⟨by decide, by decide⟩ (fun c => ?_) (fun c => ?_)
  · have h := h.1 c
    exact lf_retV rfl rfl h
  · have h := h.2 c
    refine lf_seg 3 (pc' := 15) (lv' := [(0, .ref 63), (1, .int (Int32.ofInt a1))]) (st' := [.ref 63, .ref 66]) rfl ?_
    refine lf_getI 18 6 rfl rfl rfl rfl rfl rfl rfl ?_
    refine lf_seg 1 (pc' := 19) (lv' := [(0, .ref 63), (1, .int (Int32.ofInt a1))]) (st' := [.int (Int32.ofInt a1), .int (Int32.ofInt (s.1 63 6)), .ref 66]) rfl ?_
    obtain ⟨o22, h⟩ := h
    refine lf_iast 20 300 rfl rfl rfl rfl rfl rfl o22 ?_
    refine lf_as (lf_up s.1 66 (s.1 63 6) a1, s.2.1, s.2.2) rfl ?_
    refine lf_seg 2 (pc' := 22) (lv' := [(0, .ref 63), (1, .int (Int32.ofInt a1))]) (st' := [.ref 63, .ref 63]) rfl ?_
    refine lf_getI 25 6 rfl rfl rfl rfl rfl rfl rfl ?_
    refine lf_seg 1 (pc' := 26) (lv' := [(0, .ref 63), (1, .int (Int32.ofInt a1))]) (st' := [.int (Int32.ofInt 1), .int (Int32.ofInt (s.1 63 6)), .ref 63]) rfl ?_
    refine lf_iadd 27 rfl rfl ?_
    refine lf_putI 30 6 rfl rfl rfl rfl rfl rfl rfl rfl ?_
    refine lf_as (lf_up (lf_up s.1 66 (s.1 63 6) a1) 63 6 ((s.1 63 6) + 1), s.2.1, s.2.2) rfl ?_
    exact lf_retV rfl rfl h
-- fm_84b Laws.answer 63 t i
def fm_84b_p311 (Q : Int → lf_Z → Prop) (s : lf_Z) : Prop := fm_86 (fun r25 s24 => (Q r25 s24)) s
set_option maxRecDepth 100000 in
theorem gm_84b_p311 {L : Nat} {xs : Nat → Int32} {d : Nat} {Q : Int → lf_Z → Prop} {s : lf_Z} (h : fm_84b_p311 Q s) : lf_E (px_ro L xs) (d + 2) 84 311 [(0, .ref 63)] [] s (lf_qi Q) := by
  unfold fm_84b_p311 at h
  refine lf_seg 1 (pc' := 312) (lv' := [(0, .ref 63)]) (st' := [.ref 63]) rfl ?_
  refine lf_callI 315 rfl rfl rfl rfl (gm_86 h) (fun r25 s24 h => ?_)
  exact lf_retI rfl rfl h
def fm_84b_p305 (X29 : Int → Int → lf_Z → Prop) (Q : Int → lf_Z → Prop) (u1 : Nat) (x3 : Int) (x4 : Int) (x5 : Int) (s : lf_Z) : Prop := X29 x4 (x5 + 1) s
set_option maxRecDepth 100000 in
theorem gm_84b_p305 {L : Nat} {xs : Nat → Int32} {d : Nat} {X29 : Int → Int → lf_Z → Prop} {Q : Int → lf_Z → Prop} {u1 : Nat} {x3 : Int} {x4 : Int} {x5 : Int} {s : lf_Z} (hX29 : ∀ x4 x5 s, X29 x4 x5 s → lf_E (px_ro L xs) (d + 2) 84 29 [(0, .ref 63), (1, .ref (35 + 7 * u1)), (3, .int (Int32.ofInt x3)), (4, .int (Int32.ofInt x4)), (5, .int (Int32.ofInt x5))] [] s (lf_qi Q)) (htu1 : u1 < 4) (h : fm_84b_p305 X29 Q u1 x3 x4 x5 s) : lf_E (px_ro L xs) (d + 2) 84 305 [(0, .ref 63), (1, .ref (35 + 7 * u1)), (3, .int (Int32.ofInt x3)), (4, .int (Int32.ofInt x4)), (5, .int (Int32.ofInt x5))] [] s (lf_qi Q) := by
  unfold fm_84b_p305 at h
  refine lf_iinc 308 rfl rfl rfl rfl ?_
  refine lf_seg 1 (pc' := 29) (lv' := [(5, .int (Int32.ofInt (x5 + 1))), (0, .ref 63), (1, .ref (35 + 7 * u1)), (3, .int (Int32.ofInt x3)), (4, .int (Int32.ofInt x4))]) (st' := []) rfl ?_
  refine lf_sub (l := [(0, .ref 63), (1, .ref (35 + 7 * u1)), (3, .int (Int32.ofInt x3)), (4, .int (Int32.ofInt x4)), (5, .int (Int32.ofInt (x5 + 1)))]) (lf_sb1 rfl (lf_sb1 rfl (lf_sb1 rfl (lf_sb1 rfl (lf_sb1 rfl lf_sb0))))) ?_
  exact hX29 _ _ _ h
def fm_84b_p208 (X29 : Int → Int → lf_Z → Prop) (Q : Int → lf_Z → Prop) (u1 : Nat) (x3 : Int) (x4 : Int) (x5 : Int) (y1 : Int) (s : lf_Z) : Prop := fm_85 y1 (fun s40 => (fm_84b_p305 X29 Q u1 x3 x4 x5 s40)) s
set_option maxRecDepth 100000 in
theorem gm_84b_p208 {L : Nat} {xs : Nat → Int32} {d : Nat} {X29 : Int → Int → lf_Z → Prop} {Q : Int → lf_Z → Prop} {u1 : Nat} {x3 : Int} {x4 : Int} {x5 : Int} {y1 : Int} {s : lf_Z} (hX29 : ∀ x4 x5 s, X29 x4 x5 s → lf_E (px_ro L xs) (d + 2) 84 29 [(0, .ref 63), (1, .ref (35 + 7 * u1)), (3, .int (Int32.ofInt x3)), (4, .int (Int32.ofInt x4)), (5, .int (Int32.ofInt x5))] [] s (lf_qi Q)) (htu1 : u1 < 4) (h : fm_84b_p208 X29 Q u1 x3 x4 x5 y1 s) : lf_E (px_ro L xs) (d + 2) 84 208 [(0, .ref 63), (1, .ref (35 + 7 * u1)), (3, .int (Int32.ofInt x3)), (4, .int (Int32.ofInt x4)), (5, .int (Int32.ofInt x5))] [.int (Int32.ofInt y1), .ref 63] s (lf_qi Q) := by
  unfold fm_84b_p208 at h
  refine lf_callV 211 rfl rfl rfl rfl (gm_85 h) (fun s40 h => ?_)
  refine lf_seg 1 (pc' := 305) (lv' := [(0, .ref 63), (1, .ref (35 + 7 * u1)), (3, .int (Int32.ofInt x3)), (4, .int (Int32.ofInt x4)), (5, .int (Int32.ofInt x5))]) (st' := []) rfl ?_
  refine lf_sub (l := [(0, .ref 63), (1, .ref (35 + 7 * u1)), (3, .int (Int32.ofInt x3)), (4, .int (Int32.ofInt x4)), (5, .int (Int32.ofInt x5))]) (lf_sb1 rfl (lf_sb1 rfl (lf_sb1 rfl (lf_sb1 rfl (lf_sb1 rfl lf_sb0))))) ?_
  exact gm_84b_p305 hX29 htu1 h
def fm_84b_p183 (X29 : Int → Int → lf_Z → Prop) (Q : Int → lf_Z → Prop) (u1 : Nat) (x3 : Int) (x4 : Int) (x5 : Int) (y1 : Int) (s : lf_Z) : Prop := fm_85 y1 (fun s43 => (fm_84b_p305 X29 Q u1 x3 x4 x5 s43)) s
set_option maxRecDepth 100000 in
theorem gm_84b_p183 {L : Nat} {xs : Nat → Int32} {d : Nat} {X29 : Int → Int → lf_Z → Prop} {Q : Int → lf_Z → Prop} {u1 : Nat} {x3 : Int} {x4 : Int} {x5 : Int} {y1 : Int} {s : lf_Z} (hX29 : ∀ x4 x5 s, X29 x4 x5 s → lf_E (px_ro L xs) (d + 2) 84 29 [(0, .ref 63), (1, .ref (35 + 7 * u1)), (3, .int (Int32.ofInt x3)), (4, .int (Int32.ofInt x4)), (5, .int (Int32.ofInt x5))] [] s (lf_qi Q)) (htu1 : u1 < 4) (h : fm_84b_p183 X29 Q u1 x3 x4 x5 y1 s) : lf_E (px_ro L xs) (d + 2) 84 183 [(0, .ref 63), (1, .ref (35 + 7 * u1)), (3, .int (Int32.ofInt x3)), (4, .int (Int32.ofInt x4)), (5, .int (Int32.ofInt x5))] [.int (Int32.ofInt y1), .ref 63] s (lf_qi Q) := by
  unfold fm_84b_p183 at h
  refine lf_callV 186 rfl rfl rfl rfl (gm_85 h) (fun s43 h => ?_)
  refine lf_seg 1 (pc' := 305) (lv' := [(0, .ref 63), (1, .ref (35 + 7 * u1)), (3, .int (Int32.ofInt x3)), (4, .int (Int32.ofInt x4)), (5, .int (Int32.ofInt x5))]) (st' := []) rfl ?_
  refine lf_sub (l := [(0, .ref 63), (1, .ref (35 + 7 * u1)), (3, .int (Int32.ofInt x3)), (4, .int (Int32.ofInt x4)), (5, .int (Int32.ofInt x5))]) (lf_sb1 rfl (lf_sb1 rfl (lf_sb1 rfl (lf_sb1 rfl (lf_sb1 rfl lf_sb0))))) ?_
  exact gm_84b_p305 hX29 htu1 h
def fm_84b_p247 (X29 : Int → Int → lf_Z → Prop) (Q : Int → lf_Z → Prop) (u1 : Nat) (x3 : Int) (x5 : Int) (y0 : Int) (s : lf_Z) : Prop := fm_84b_p305 X29 Q u1 x3 y0 x5 s
set_option maxRecDepth 100000 in
theorem gm_84b_p247 {L : Nat} {xs : Nat → Int32} {d : Nat} {X29 : Int → Int → lf_Z → Prop} {Q : Int → lf_Z → Prop} {u1 : Nat} {x3 : Int} {x5 : Int} {y0 : Int} {s : lf_Z} (hX29 : ∀ x4 x5 s, X29 x4 x5 s → lf_E (px_ro L xs) (d + 2) 84 29 [(0, .ref 63), (1, .ref (35 + 7 * u1)), (3, .int (Int32.ofInt x3)), (4, .int (Int32.ofInt x4)), (5, .int (Int32.ofInt x5))] [] s (lf_qi Q)) (htu1 : u1 < 4) (h : fm_84b_p247 X29 Q u1 x3 x5 y0 s) : lf_E (px_ro L xs) (d + 2) 84 247 [(0, .ref 63), (1, .ref (35 + 7 * u1)), (3, .int (Int32.ofInt x3)), (5, .int (Int32.ofInt x5))] [.int (Int32.ofInt y0)] s (lf_qi Q) := by
  unfold fm_84b_p247 at h
  refine lf_seg 2 (pc' := 305) (lv' := [(4, .int (Int32.ofInt y0)), (0, .ref 63), (1, .ref (35 + 7 * u1)), (3, .int (Int32.ofInt x3)), (5, .int (Int32.ofInt x5))]) (st' := []) rfl ?_
  refine lf_sub (l := [(0, .ref 63), (1, .ref (35 + 7 * u1)), (3, .int (Int32.ofInt x3)), (4, .int (Int32.ofInt y0)), (5, .int (Int32.ofInt x5))]) (lf_sb1 rfl (lf_sb1 rfl (lf_sb1 rfl (lf_sb1 rfl (lf_sb1 rfl lf_sb0))))) ?_
  exact gm_84b_p305 hX29 htu1 h
def fm_84b_p29 (Q : Int → lf_Z → Prop) (u1 : Nat) (x3 : Int) (X29 : Int → Int → lf_Z → Prop) (x4 : Int) (x5 : Int) (s : lf_Z) : Prop := lf_R x5 ∧ ((300 ≤ x5 → (fm_84b_p311 Q s)) ∧ (¬ (300 ≤ x5) → (lf_R x4 ∧ ((x4 < 0 → (fm_84b_p311 Q s)) ∧ (¬ (x4 < 0) → (lf_R x3 ∧ ((x3 ≤ x4 → (fm_84b_p311 Q s)) ∧ (¬ (x3 ≤ x4) → ((0 ≤ x4 ∧ x4 < 300) ∧ (lf_R (s.1 (36 + 7 * u1) x4) ∧ (lf_R ((s.1 (36 + 7 * u1) x4).tdiv 10000) ∧ (((s.1 (36 + 7 * u1) x4).tdiv 10000 ≠ 2 ∧ (s.1 (36 + 7 * u1) x4).tdiv 10000 ≠ 3 ∧ (s.1 (36 + 7 * u1) x4).tdiv 10000 ≠ 17 ∧ (s.1 (36 + 7 * u1) x4).tdiv 10000 ≠ 18 ∧ (s.1 (36 + 7 * u1) x4).tdiv 10000 ≠ 38 ∧ (s.1 (36 + 7 * u1) x4).tdiv 10000 ≠ 39 ∧ (s.1 (36 + 7 * u1) x4).tdiv 10000 ≠ 43 ∧ (s.1 (36 + 7 * u1) x4).tdiv 10000 ≠ 44 → (fm_86 (fun r32 s31 => (fm_86 (fun r34 s33 => (fm_87 ((s.1 (36 + 7 * u1) x4).tdiv 10000) r34 r32 (fun r36 s35 => (fm_85 r36 (fun s37 => (fm_84b_p305 X29 Q u1 x3 (x4 + 1) x5 s37)) s35)) s33)) s31)) s)) ∧ ((s.1 (36 + 7 * u1) x4).tdiv 10000 = 2 → (fm_85 ((s.1 (36 + 7 * u1) x4).tmod 10000) (fun s38 => (fm_84b_p305 X29 Q u1 x3 (x4 + 1) x5 s38)) s)) ∧ ((s.1 (36 + 7 * u1) x4).tdiv 10000 = 3 → (lf_R ((s.1 (36 + 7 * u1) x4).tmod 10000) ∧ ((8 ≤ (s.1 (36 + 7 * u1) x4).tmod 10000 → (fm_84b_p208 X29 Q u1 x3 (x4 + 1) x5 0 s)) ∧ (¬ (8 ≤ (s.1 (36 + 7 * u1) x4).tmod 10000) → ((0 ≤ (s.1 (36 + 7 * u1) x4).tmod 10000 ∧ (s.1 (36 + 7 * u1) x4).tmod 10000 < 8) ∧ (fm_84b_p208 X29 Q u1 x3 (x4 + 1) x5 (s.1 65 ((s.1 (36 + 7 * u1) x4).tmod 10000)) s)))))) ∧ ((s.1 (36 + 7 * u1) x4).tdiv 10000 = 17 → (lf_R ((s.1 (36 + 7 * u1) x4).tmod 10000) ∧ ((11 ≤ (s.1 (36 + 7 * u1) x4).tmod 10000 → (fm_84b_p183 X29 Q u1 x3 (x4 + 1) x5 0 s)) ∧ (¬ (11 ≤ (s.1 (36 + 7 * u1) x4).tmod 10000) → ((0 ≤ (s.1 (36 + 7 * u1) x4).tmod 10000 ∧ (s.1 (36 + 7 * u1) x4).tmod 10000 < 11) ∧ (fm_84b_p183 X29 Q u1 x3 (x4 + 1) x5 (s.1 64 ((s.1 (36 + 7 * u1) x4).tmod 10000)) s)))))) ∧ ((s.1 (36 + 7 * u1) x4).tdiv 10000 = 18 → (fm_86 (fun r46 s45 => (fm_85 (lf_w (-r46)) (fun s47 => (fm_84b_p305 X29 Q u1 x3 (x4 + 1) x5 s47)) s45)) s)) ∧ ((s.1 (36 + 7 * u1) x4).tdiv 10000 = 38 → (fm_86 (fun r49 s48 => (lf_R r49 ∧ ((r49 ≠ 0 → (fm_84b_p247 X29 Q u1 x3 x5 (x4 + 1) s48)) ∧ (¬ (r49 ≠ 0) → (fm_84b_p247 X29 Q u1 x3 x5 ((s.1 (36 + 7 * u1) x4).tmod 10000) s48))))) s)) ∧ ((s.1 (36 + 7 * u1) x4).tdiv 10000 = 39 → (fm_84b_p305 X29 Q u1 x3 ((s.1 (36 + 7 * u1) x4).tmod 10000) x5 s)) ∧ ((s.1 (36 + 7 * u1) x4).tdiv 10000 = 43 → (lf_R ((s.1 (36 + 7 * u1) x4).tmod 10000) ∧ (fm_86 (fun r53 s52 => ((0 ≤ min ((s.1 (36 + 7 * u1) x4).tmod 10000) 7 ∧ min ((s.1 (36 + 7 * u1) x4).tmod 10000) 7 < 8) ∧ (fm_84b_p305 X29 Q u1 x3 (x4 + 1) x5 (lf_up s52.1 65 (min ((s.1 (36 + 7 * u1) x4).tmod 10000) 7) r53, s52.2.1, s52.2.2)))) s))) ∧ ((s.1 (36 + 7 * u1) x4).tdiv 10000 = 44 → (fm_86 (fun r56 s55 => (fm_85 (lf_w (1 - r56)) (fun s57 => (fm_84b_p305 X29 Q u1 x3 (x4 + 1) x5 s57)) s55)) s))))))))))))))
def fm_84b_p29L (Q : Int → lf_Z → Prop) (u1 : Nat) (x3 : Int) (x4 : Int) (x5 : Int) (s : lf_Z) : Prop := ∀ X29 : Int → Int → lf_Z → Prop, (∀ (x4 : Int) (x5 : Int) (s : lf_Z), fm_84b_p29 Q u1 x3 X29 x4 x5 s → X29 x4 x5 s) → X29 x4 x5 s
set_option maxRecDepth 100000 in
theorem gm_84b_p29 {L : Nat} {xs : Nat → Int32} {d : Nat} {Q : Int → lf_Z → Prop} {u1 : Nat} {x3 : Int} {x4 : Int} {x5 : Int} {s : lf_Z} {X29 : Int → Int → lf_Z → Prop} (hX29 : ∀ x4 x5 s, X29 x4 x5 s → lf_E (px_ro L xs) (d + 2) 84 29 [(0, .ref 63), (1, .ref (35 + 7 * u1)), (3, .int (Int32.ofInt x3)), (4, .int (Int32.ofInt x4)), (5, .int (Int32.ofInt x5))] [] s (lf_qi Q)) (htu1 : u1 < 4) (h : fm_84b_p29 Q u1 x3 X29 x4 x5 s) : lf_E (px_ro L xs) (d + 2) 84 29 [(0, .ref 63), (1, .ref (35 + 7 * u1)), (3, .int (Int32.ofInt x3)), (4, .int (Int32.ofInt x4)), (5, .int (Int32.ofInt x5))] [] s (lf_qi Q) := by
  unfold fm_84b_p29 at h
  refine lf_seg 1 (pc' := 31) (lv' := [(0, .ref 63), (1, .ref (35 + 7 * u1)), (3, .int (Int32.ofInt x3)), (4, .int (Int32.ofInt x4)), (5, .int (Int32.ofInt x5))]) (st' := [.int (Int32.ofInt x5)]) rfl ?_
  refine lf_sipush 34 300 rfl rfl (by decide) (by decide) ?_
  obtain ⟨o23, h⟩ := h
  refine lf_icmp_ge 311 37 rfl rfl rfl o23 ⟨by decide, by decide⟩ (fun c => ?_) (fun c => ?_)
  · have h := h.1 c
    refine lf_sub (l := [(0, .ref 63)]) (lf_sb1 rfl lf_sb0) ?_
    exact gm_84b_p311 h
  · have h := h.2 c
    refine lf_seg 1 (pc' := 39) (lv' := [(0, .ref 63), (1, .ref (35 + 7 * u1)), (3, .int (Int32.ofInt x3)), (4, .int (Int32.ofInt x4)), (5, .int (Int32.ofInt x5))]) (st' := [.int (Int32.ofInt x4)]) rfl ?_
    obtain ⟨o26, h⟩ := h
    refine lf_if_lt 311 42 rfl rfl rfl o26 (fun c => ?_) (fun c => ?_)
    · have h := h.1 c
      refine lf_sub (l := [(0, .ref 63)]) (lf_sb1 rfl lf_sb0) ?_
      exact gm_84b_p311 h
    · have h := h.2 c
      refine lf_seg 2 (pc' := 45) (lv' := [(0, .ref 63), (1, .ref (35 + 7 * u1)), (3, .int (Int32.ofInt x3)), (4, .int (Int32.ofInt x4)), (5, .int (Int32.ofInt x5))]) (st' := [.int (Int32.ofInt x3), .int (Int32.ofInt x4)]) rfl ?_
      obtain ⟨o27, h⟩ := h
      refine lf_icmp_ge 311 48 rfl rfl rfl o26 o27 (fun c => ?_) (fun c => ?_)
      · have h := h.1 c
        refine lf_sub (l := [(0, .ref 63)]) (lf_sb1 rfl lf_sb0) ?_
        exact gm_84b_p311 h
      · have h := h.2 c
        refine lf_seg 1 (pc' := 49) (lv' := [(0, .ref 63), (1, .ref (35 + 7 * u1)), (3, .int (Int32.ofInt x3)), (4, .int (Int32.ofInt x4)), (5, .int (Int32.ofInt x5))]) (st' := [.ref (35 + 7 * u1)]) rfl ?_
        refine lf_getR 52 (w := some (36 + 7 * u1)) rfl rfl rfl (lf_scr htu1) (lf_scL htu1) rfl (lf_sP0 htu1) ?_
        refine lf_seg 1 (pc' := 54) (lv' := [(0, .ref 63), (1, .ref (35 + 7 * u1)), (3, .int (Int32.ofInt x3)), (4, .int (Int32.ofInt x4)), (5, .int (Int32.ofInt x5))]) (st' := [.int (Int32.ofInt x4), .ref (36 + 7 * u1)]) rfl ?_
        obtain ⟨o28, h⟩ := h
        refine lf_iald 55 300 rfl rfl (lf_sA0 htu1) (lf_sB0 htu1) rfl rfl o28 ?_
        refine lf_sipush 58 10000 rfl rfl (by decide) (by decide) ?_
        obtain ⟨o29, h⟩ := h
        refine lf_idiv 59 rfl rfl o29 ⟨by decide, by decide⟩ (by decide) ?_
        refine lf_seg 2 (pc' := 62) (lv' := [(6, .int (Int32.ofInt ((s.1 (36 + 7 * u1) x4).tdiv 10000))), (0, .ref 63), (1, .ref (35 + 7 * u1)), (3, .int (Int32.ofInt x3)), (4, .int (Int32.ofInt x4)), (5, .int (Int32.ofInt x5))]) (st' := [.ref (35 + 7 * u1)]) rfl ?_
        refine lf_getR 65 (w := some (36 + 7 * u1)) rfl rfl rfl (lf_scr htu1) (lf_scL htu1) rfl (lf_sP0 htu1) ?_
        refine lf_seg 1 (pc' := 67) (lv' := [(6, .int (Int32.ofInt ((s.1 (36 + 7 * u1) x4).tdiv 10000))), (0, .ref 63), (1, .ref (35 + 7 * u1)), (3, .int (Int32.ofInt x3)), (4, .int (Int32.ofInt x4)), (5, .int (Int32.ofInt x5))]) (st' := [.int (Int32.ofInt x4), .ref (36 + 7 * u1)]) rfl ?_
        refine lf_iald 68 300 rfl rfl (lf_sA0 htu1) (lf_sB0 htu1) rfl rfl o28 ?_
        refine lf_sipush 71 10000 rfl rfl (by decide) (by decide) ?_
        refine lf_irem 72 rfl rfl o29 ⟨by decide, by decide⟩ (by decide) ?_
        refine lf_seg 1 (pc' := 74) (lv' := [(7, .int (Int32.ofInt ((s.1 (36 + 7 * u1) x4).tmod 10000))), (6, .int (Int32.ofInt ((s.1 (36 + 7 * u1) x4).tdiv 10000))), (0, .ref 63), (1, .ref (35 + 7 * u1)), (3, .int (Int32.ofInt x3)), (4, .int (Int32.ofInt x4)), (5, .int (Int32.ofInt x5))]) (st' := []) rfl ?_
        refine lf_iinc 77 rfl rfl rfl rfl ?_
        refine lf_seg 1 (pc' := 79) (lv' := [(4, .int (Int32.ofInt (x4 + 1))), (7, .int (Int32.ofInt ((s.1 (36 + 7 * u1) x4).tmod 10000))), (6, .int (Int32.ofInt ((s.1 (36 + 7 * u1) x4).tdiv 10000))), (0, .ref 63), (1, .ref (35 + 7 * u1)), (3, .int (Int32.ofInt x3)), (5, .int (Int32.ofInt x5))]) (st' := [.int (Int32.ofInt ((s.1 (36 + 7 * u1) x4).tdiv 10000))]) rfl ?_
        obtain ⟨o30, h⟩ := h
        refine lf_lsw 284 [(2, 152), (3, 189), (17, 161), (18, 259), (38, 233), (39, 252), (43, 214), (44, 271)] rfl rfl (by decide) (by decide) (by decide) o30 (fun c => ?_) (lf_tab1 (fun c => ?_) (lf_tab1 (fun c => ?_) (lf_tab1 (fun c => ?_) (lf_tab1 (fun c => ?_) (lf_tab1 (fun c => ?_) (lf_tab1 (fun c => ?_) (lf_tab1 (fun c => ?_) (lf_tab1 (fun c => ?_) lf_tab0))))))))
        · have h := h.1 c
          refine lf_seg 1 (pc' := 285) (lv' := [(4, .int (Int32.ofInt (x4 + 1))), (7, .int (Int32.ofInt ((s.1 (36 + 7 * u1) x4).tmod 10000))), (6, .int (Int32.ofInt ((s.1 (36 + 7 * u1) x4).tdiv 10000))), (0, .ref 63), (1, .ref (35 + 7 * u1)), (3, .int (Int32.ofInt x3)), (5, .int (Int32.ofInt x5))]) (st' := [.ref 63]) rfl ?_
          refine lf_callI 288 rfl rfl rfl rfl (gm_86 h) (fun r32 s31 h => ?_)
          refine lf_seg 4 (pc' := 294) (lv' := [(8, .int (Int32.ofInt r32)), (4, .int (Int32.ofInt (x4 + 1))), (7, .int (Int32.ofInt ((s.1 (36 + 7 * u1) x4).tmod 10000))), (6, .int (Int32.ofInt ((s.1 (36 + 7 * u1) x4).tdiv 10000))), (0, .ref 63), (1, .ref (35 + 7 * u1)), (3, .int (Int32.ofInt x3)), (5, .int (Int32.ofInt x5))]) (st' := [.ref 63, .int (Int32.ofInt ((s.1 (36 + 7 * u1) x4).tdiv 10000)), .ref 63]) rfl ?_
          refine lf_callI 297 rfl rfl rfl rfl (gm_86 h) (fun r34 s33 h => ?_)
          refine lf_seg 1 (pc' := 299) (lv' := [(8, .int (Int32.ofInt r32)), (4, .int (Int32.ofInt (x4 + 1))), (7, .int (Int32.ofInt ((s.1 (36 + 7 * u1) x4).tmod 10000))), (6, .int (Int32.ofInt ((s.1 (36 + 7 * u1) x4).tdiv 10000))), (0, .ref 63), (1, .ref (35 + 7 * u1)), (3, .int (Int32.ofInt x3)), (5, .int (Int32.ofInt x5))]) (st' := [.int (Int32.ofInt r32), .int (Int32.ofInt r34), .int (Int32.ofInt ((s.1 (36 + 7 * u1) x4).tdiv 10000)), .ref 63]) rfl ?_
          refine lf_callI 302 rfl rfl rfl rfl (gm_87 h) (fun r36 s35 h => ?_)
          refine lf_callV 305 rfl rfl rfl rfl (gm_85 h) (fun s37 h => ?_)
          refine lf_sub (l := [(0, .ref 63), (1, .ref (35 + 7 * u1)), (3, .int (Int32.ofInt x3)), (4, .int (Int32.ofInt (x4 + 1))), (5, .int (Int32.ofInt x5))]) (lf_sb1 rfl (lf_sb1 rfl (lf_sb1 rfl (lf_sb1 rfl (lf_sb1 rfl lf_sb0))))) ?_
          exact gm_84b_p305 hX29 htu1 h
        · have h := h.2.1 c
          refine lf_seg 2 (pc' := 155) (lv' := [(4, .int (Int32.ofInt (x4 + 1))), (7, .int (Int32.ofInt ((s.1 (36 + 7 * u1) x4).tmod 10000))), (6, .int (Int32.ofInt ((s.1 (36 + 7 * u1) x4).tdiv 10000))), (0, .ref 63), (1, .ref (35 + 7 * u1)), (3, .int (Int32.ofInt x3)), (5, .int (Int32.ofInt x5))]) (st' := [.int (Int32.ofInt ((s.1 (36 + 7 * u1) x4).tmod 10000)), .ref 63]) rfl ?_
          refine lf_callV 158 rfl rfl rfl rfl (gm_85 h) (fun s38 h => ?_)
          refine lf_seg 1 (pc' := 305) (lv' := [(4, .int (Int32.ofInt (x4 + 1))), (7, .int (Int32.ofInt ((s.1 (36 + 7 * u1) x4).tmod 10000))), (6, .int (Int32.ofInt ((s.1 (36 + 7 * u1) x4).tdiv 10000))), (0, .ref 63), (1, .ref (35 + 7 * u1)), (3, .int (Int32.ofInt x3)), (5, .int (Int32.ofInt x5))]) (st' := []) rfl ?_
          refine lf_sub (l := [(0, .ref 63), (1, .ref (35 + 7 * u1)), (3, .int (Int32.ofInt x3)), (4, .int (Int32.ofInt (x4 + 1))), (5, .int (Int32.ofInt x5))]) (lf_sb1 rfl (lf_sb1 rfl (lf_sb1 rfl (lf_sb1 rfl (lf_sb1 rfl lf_sb0))))) ?_
          exact gm_84b_p305 hX29 htu1 h
        · have h := h.2.2.1 c
          refine lf_seg 2 (pc' := 192) (lv' := [(4, .int (Int32.ofInt (x4 + 1))), (7, .int (Int32.ofInt ((s.1 (36 + 7 * u1) x4).tmod 10000))), (6, .int (Int32.ofInt ((s.1 (36 + 7 * u1) x4).tdiv 10000))), (0, .ref 63), (1, .ref (35 + 7 * u1)), (3, .int (Int32.ofInt x3)), (5, .int (Int32.ofInt x5))]) (st' := [.int (Int32.ofInt ((s.1 (36 + 7 * u1) x4).tmod 10000)), .ref 63]) rfl ?_
          refine lf_bipush 194 8 rfl rfl (by decide) (by decide) ?_
          obtain ⟨o39, h⟩ := h
          refine lf_icmp_ge 207 197 rfl rfl rfl o39 ⟨by decide, by decide⟩ (fun c => ?_) (fun c => ?_)
          · have h := h.1 c
            refine lf_seg 1 (pc' := 208) (lv' := [(4, .int (Int32.ofInt (x4 + 1))), (7, .int (Int32.ofInt ((s.1 (36 + 7 * u1) x4).tmod 10000))), (6, .int (Int32.ofInt ((s.1 (36 + 7 * u1) x4).tdiv 10000))), (0, .ref 63), (1, .ref (35 + 7 * u1)), (3, .int (Int32.ofInt x3)), (5, .int (Int32.ofInt x5))]) (st' := [.int (Int32.ofInt 0), .ref 63]) rfl ?_
            refine lf_sub (l := [(0, .ref 63), (1, .ref (35 + 7 * u1)), (3, .int (Int32.ofInt x3)), (4, .int (Int32.ofInt (x4 + 1))), (5, .int (Int32.ofInt x5))]) (lf_sb1 rfl (lf_sb1 rfl (lf_sb1 rfl (lf_sb1 rfl (lf_sb1 rfl lf_sb0))))) ?_
            exact gm_84b_p208 hX29 htu1 h
          · have h := h.2 c
            refine lf_seg 3 (pc' := 203) (lv' := [(4, .int (Int32.ofInt (x4 + 1))), (7, .int (Int32.ofInt ((s.1 (36 + 7 * u1) x4).tmod 10000))), (6, .int (Int32.ofInt ((s.1 (36 + 7 * u1) x4).tdiv 10000))), (0, .ref 63), (1, .ref (35 + 7 * u1)), (3, .int (Int32.ofInt x3)), (5, .int (Int32.ofInt x5))]) (st' := [.int (Int32.ofInt ((s.1 (36 + 7 * u1) x4).tmod 10000)), .ref 65, .ref 63]) rfl ?_
            obtain ⟨o41, h⟩ := h
            refine lf_iald 204 8 rfl rfl rfl rfl rfl rfl o41 ?_
            refine lf_seg 1 (pc' := 208) (lv' := [(4, .int (Int32.ofInt (x4 + 1))), (7, .int (Int32.ofInt ((s.1 (36 + 7 * u1) x4).tmod 10000))), (6, .int (Int32.ofInt ((s.1 (36 + 7 * u1) x4).tdiv 10000))), (0, .ref 63), (1, .ref (35 + 7 * u1)), (3, .int (Int32.ofInt x3)), (5, .int (Int32.ofInt x5))]) (st' := [.int (Int32.ofInt (s.1 65 ((s.1 (36 + 7 * u1) x4).tmod 10000))), .ref 63]) rfl ?_
            refine lf_sub (l := [(0, .ref 63), (1, .ref (35 + 7 * u1)), (3, .int (Int32.ofInt x3)), (4, .int (Int32.ofInt (x4 + 1))), (5, .int (Int32.ofInt x5))]) (lf_sb1 rfl (lf_sb1 rfl (lf_sb1 rfl (lf_sb1 rfl (lf_sb1 rfl lf_sb0))))) ?_
            exact gm_84b_p208 hX29 htu1 h
        · have h := h.2.2.2.1 c
          refine lf_seg 4 (pc' := 168) (lv' := [(4, .int (Int32.ofInt (x4 + 1))), (7, .int (Int32.ofInt ((s.1 (36 + 7 * u1) x4).tmod 10000))), (6, .int (Int32.ofInt ((s.1 (36 + 7 * u1) x4).tdiv 10000))), (0, .ref 63), (1, .ref (35 + 7 * u1)), (3, .int (Int32.ofInt x3)), (5, .int (Int32.ofInt x5))]) (st' := [.ref 64, .int (Int32.ofInt ((s.1 (36 + 7 * u1) x4).tmod 10000)), .ref 63]) rfl ?_
          refine lf_len 169 11 rfl rfl rfl rfl rfl rfl ?_
          obtain ⟨o42, h⟩ := h
          refine lf_icmp_ge 182 172 rfl rfl rfl o42 ⟨by decide, by decide⟩ (fun c => ?_) (fun c => ?_)
          · have h := h.1 c
            refine lf_seg 1 (pc' := 183) (lv' := [(4, .int (Int32.ofInt (x4 + 1))), (7, .int (Int32.ofInt ((s.1 (36 + 7 * u1) x4).tmod 10000))), (6, .int (Int32.ofInt ((s.1 (36 + 7 * u1) x4).tdiv 10000))), (0, .ref 63), (1, .ref (35 + 7 * u1)), (3, .int (Int32.ofInt x3)), (5, .int (Int32.ofInt x5))]) (st' := [.int (Int32.ofInt 0), .ref 63]) rfl ?_
            refine lf_sub (l := [(0, .ref 63), (1, .ref (35 + 7 * u1)), (3, .int (Int32.ofInt x3)), (4, .int (Int32.ofInt (x4 + 1))), (5, .int (Int32.ofInt x5))]) (lf_sb1 rfl (lf_sb1 rfl (lf_sb1 rfl (lf_sb1 rfl (lf_sb1 rfl lf_sb0))))) ?_
            exact gm_84b_p183 hX29 htu1 h
          · have h := h.2 c
            refine lf_seg 3 (pc' := 178) (lv' := [(4, .int (Int32.ofInt (x4 + 1))), (7, .int (Int32.ofInt ((s.1 (36 + 7 * u1) x4).tmod 10000))), (6, .int (Int32.ofInt ((s.1 (36 + 7 * u1) x4).tdiv 10000))), (0, .ref 63), (1, .ref (35 + 7 * u1)), (3, .int (Int32.ofInt x3)), (5, .int (Int32.ofInt x5))]) (st' := [.int (Int32.ofInt ((s.1 (36 + 7 * u1) x4).tmod 10000)), .ref 64, .ref 63]) rfl ?_
            obtain ⟨o44, h⟩ := h
            refine lf_iald 179 11 rfl rfl rfl rfl rfl rfl o44 ?_
            refine lf_seg 1 (pc' := 183) (lv' := [(4, .int (Int32.ofInt (x4 + 1))), (7, .int (Int32.ofInt ((s.1 (36 + 7 * u1) x4).tmod 10000))), (6, .int (Int32.ofInt ((s.1 (36 + 7 * u1) x4).tdiv 10000))), (0, .ref 63), (1, .ref (35 + 7 * u1)), (3, .int (Int32.ofInt x3)), (5, .int (Int32.ofInt x5))]) (st' := [.int (Int32.ofInt (s.1 64 ((s.1 (36 + 7 * u1) x4).tmod 10000))), .ref 63]) rfl ?_
            refine lf_sub (l := [(0, .ref 63), (1, .ref (35 + 7 * u1)), (3, .int (Int32.ofInt x3)), (4, .int (Int32.ofInt (x4 + 1))), (5, .int (Int32.ofInt x5))]) (lf_sb1 rfl (lf_sb1 rfl (lf_sb1 rfl (lf_sb1 rfl (lf_sb1 rfl lf_sb0))))) ?_
            exact gm_84b_p183 hX29 htu1 h
        · have h := h.2.2.2.2.1 c
          refine lf_seg 2 (pc' := 261) (lv' := [(4, .int (Int32.ofInt (x4 + 1))), (7, .int (Int32.ofInt ((s.1 (36 + 7 * u1) x4).tmod 10000))), (6, .int (Int32.ofInt ((s.1 (36 + 7 * u1) x4).tdiv 10000))), (0, .ref 63), (1, .ref (35 + 7 * u1)), (3, .int (Int32.ofInt x3)), (5, .int (Int32.ofInt x5))]) (st' := [.ref 63, .ref 63]) rfl ?_
          refine lf_callI 264 rfl rfl rfl rfl (gm_86 h) (fun r46 s45 h => ?_)
          refine lf_ineg 265 rfl rfl ?_
          refine lf_wtI ?_
          refine lf_callV 268 rfl rfl rfl rfl (gm_85 h) (fun s47 h => ?_)
          refine lf_seg 1 (pc' := 305) (lv' := [(4, .int (Int32.ofInt (x4 + 1))), (7, .int (Int32.ofInt ((s.1 (36 + 7 * u1) x4).tmod 10000))), (6, .int (Int32.ofInt ((s.1 (36 + 7 * u1) x4).tdiv 10000))), (0, .ref 63), (1, .ref (35 + 7 * u1)), (3, .int (Int32.ofInt x3)), (5, .int (Int32.ofInt x5))]) (st' := []) rfl ?_
          refine lf_sub (l := [(0, .ref 63), (1, .ref (35 + 7 * u1)), (3, .int (Int32.ofInt x3)), (4, .int (Int32.ofInt (x4 + 1))), (5, .int (Int32.ofInt x5))]) (lf_sb1 rfl (lf_sb1 rfl (lf_sb1 rfl (lf_sb1 rfl (lf_sb1 rfl lf_sb0))))) ?_
          exact gm_84b_p305 hX29 htu1 h
        · have h := h.2.2.2.2.2.1 c
          refine lf_seg 1 (pc' := 234) (lv' := [(4, .int (Int32.ofInt (x4 + 1))), (7, .int (Int32.ofInt ((s.1 (36 + 7 * u1) x4).tmod 10000))), (6, .int (Int32.ofInt ((s.1 (36 + 7 * u1) x4).tdiv 10000))), (0, .ref 63), (1, .ref (35 + 7 * u1)), (3, .int (Int32.ofInt x3)), (5, .int (Int32.ofInt x5))]) (st' := [.ref 63]) rfl ?_
          refine lf_callI 237 rfl rfl rfl rfl (gm_86 h) (fun r49 s48 h => ?_)
          obtain ⟨o50, h⟩ := h
          refine lf_if_ne 245 240 rfl rfl rfl o50 (fun c => ?_) (fun c => ?_)
          · have h := h.1 c
            refine lf_seg 1 (pc' := 247) (lv' := [(4, .int (Int32.ofInt (x4 + 1))), (7, .int (Int32.ofInt ((s.1 (36 + 7 * u1) x4).tmod 10000))), (6, .int (Int32.ofInt ((s.1 (36 + 7 * u1) x4).tdiv 10000))), (0, .ref 63), (1, .ref (35 + 7 * u1)), (3, .int (Int32.ofInt x3)), (5, .int (Int32.ofInt x5))]) (st' := [.int (Int32.ofInt (x4 + 1))]) rfl ?_
            refine lf_sub (l := [(0, .ref 63), (1, .ref (35 + 7 * u1)), (3, .int (Int32.ofInt x3)), (5, .int (Int32.ofInt x5))]) (lf_sb1 rfl (lf_sb1 rfl (lf_sb1 rfl (lf_sb1 rfl lf_sb0)))) ?_
            exact gm_84b_p247 hX29 htu1 h
          · have h := h.2 c
            refine lf_seg 2 (pc' := 247) (lv' := [(4, .int (Int32.ofInt (x4 + 1))), (7, .int (Int32.ofInt ((s.1 (36 + 7 * u1) x4).tmod 10000))), (6, .int (Int32.ofInt ((s.1 (36 + 7 * u1) x4).tdiv 10000))), (0, .ref 63), (1, .ref (35 + 7 * u1)), (3, .int (Int32.ofInt x3)), (5, .int (Int32.ofInt x5))]) (st' := [.int (Int32.ofInt ((s.1 (36 + 7 * u1) x4).tmod 10000))]) rfl ?_
            refine lf_sub (l := [(0, .ref 63), (1, .ref (35 + 7 * u1)), (3, .int (Int32.ofInt x3)), (5, .int (Int32.ofInt x5))]) (lf_sb1 rfl (lf_sb1 rfl (lf_sb1 rfl (lf_sb1 rfl lf_sb0)))) ?_
            exact gm_84b_p247 hX29 htu1 h
        · have h := h.2.2.2.2.2.2.1 c
          refine lf_seg 3 (pc' := 305) (lv' := [(4, .int (Int32.ofInt ((s.1 (36 + 7 * u1) x4).tmod 10000))), (7, .int (Int32.ofInt ((s.1 (36 + 7 * u1) x4).tmod 10000))), (6, .int (Int32.ofInt ((s.1 (36 + 7 * u1) x4).tdiv 10000))), (0, .ref 63), (1, .ref (35 + 7 * u1)), (3, .int (Int32.ofInt x3)), (5, .int (Int32.ofInt x5))]) (st' := []) rfl ?_
          refine lf_sub (l := [(0, .ref 63), (1, .ref (35 + 7 * u1)), (3, .int (Int32.ofInt x3)), (4, .int (Int32.ofInt ((s.1 (36 + 7 * u1) x4).tmod 10000))), (5, .int (Int32.ofInt x5))]) (lf_sb1 rfl (lf_sb1 rfl (lf_sb1 rfl (lf_sb1 rfl (lf_sb1 rfl lf_sb0))))) ?_
          exact gm_84b_p305 hX29 htu1 h
        · have h := h.2.2.2.2.2.2.2.1 c
          refine lf_seg 3 (pc' := 220) (lv' := [(4, .int (Int32.ofInt (x4 + 1))), (7, .int (Int32.ofInt ((s.1 (36 + 7 * u1) x4).tmod 10000))), (6, .int (Int32.ofInt ((s.1 (36 + 7 * u1) x4).tdiv 10000))), (0, .ref 63), (1, .ref (35 + 7 * u1)), (3, .int (Int32.ofInt x3)), (5, .int (Int32.ofInt x5))]) (st' := [.int (Int32.ofInt ((s.1 (36 + 7 * u1) x4).tmod 10000)), .ref 65]) rfl ?_
          refine lf_bipush 222 7 rfl rfl (by decide) (by decide) ?_
          obtain ⟨o51, h⟩ := h
          refine lf_imin 225 rfl rfl rfl rfl o51 ⟨by decide, by decide⟩ ?_
          refine lf_seg 1 (pc' := 226) (lv' := [(4, .int (Int32.ofInt (x4 + 1))), (7, .int (Int32.ofInt ((s.1 (36 + 7 * u1) x4).tmod 10000))), (6, .int (Int32.ofInt ((s.1 (36 + 7 * u1) x4).tdiv 10000))), (0, .ref 63), (1, .ref (35 + 7 * u1)), (3, .int (Int32.ofInt x3)), (5, .int (Int32.ofInt x5))]) (st' := [.ref 63, .int (Int32.ofInt (min ((s.1 (36 + 7 * u1) x4).tmod 10000) 7)), .ref 65]) rfl ?_
          refine lf_callI 229 rfl rfl rfl rfl (gm_86 h) (fun r53 s52 h => ?_)
          obtain ⟨o54, h⟩ := h
          refine lf_iast 230 8 rfl rfl rfl rfl rfl rfl o54 ?_
          refine lf_as (lf_up s52.1 65 (min ((s.1 (36 + 7 * u1) x4).tmod 10000) 7) r53, s52.2.1, s52.2.2) rfl ?_
          refine lf_seg 1 (pc' := 305) (lv' := [(4, .int (Int32.ofInt (x4 + 1))), (7, .int (Int32.ofInt ((s.1 (36 + 7 * u1) x4).tmod 10000))), (6, .int (Int32.ofInt ((s.1 (36 + 7 * u1) x4).tdiv 10000))), (0, .ref 63), (1, .ref (35 + 7 * u1)), (3, .int (Int32.ofInt x3)), (5, .int (Int32.ofInt x5))]) (st' := []) rfl ?_
          refine lf_sub (l := [(0, .ref 63), (1, .ref (35 + 7 * u1)), (3, .int (Int32.ofInt x3)), (4, .int (Int32.ofInt (x4 + 1))), (5, .int (Int32.ofInt x5))]) (lf_sb1 rfl (lf_sb1 rfl (lf_sb1 rfl (lf_sb1 rfl (lf_sb1 rfl lf_sb0))))) ?_
          exact gm_84b_p305 hX29 htu1 h
        · have h := h.2.2.2.2.2.2.2.2 c
          refine lf_seg 3 (pc' := 274) (lv' := [(4, .int (Int32.ofInt (x4 + 1))), (7, .int (Int32.ofInt ((s.1 (36 + 7 * u1) x4).tmod 10000))), (6, .int (Int32.ofInt ((s.1 (36 + 7 * u1) x4).tdiv 10000))), (0, .ref 63), (1, .ref (35 + 7 * u1)), (3, .int (Int32.ofInt x3)), (5, .int (Int32.ofInt x5))]) (st' := [.ref 63, .int (Int32.ofInt 1), .ref 63]) rfl ?_
          refine lf_callI 277 rfl rfl rfl rfl (gm_86 h) (fun r56 s55 h => ?_)
          refine lf_isub 278 rfl rfl ?_
          refine lf_wtI ?_
          refine lf_callV 281 rfl rfl rfl rfl (gm_85 h) (fun s57 h => ?_)
          refine lf_seg 1 (pc' := 305) (lv' := [(4, .int (Int32.ofInt (x4 + 1))), (7, .int (Int32.ofInt ((s.1 (36 + 7 * u1) x4).tmod 10000))), (6, .int (Int32.ofInt ((s.1 (36 + 7 * u1) x4).tdiv 10000))), (0, .ref 63), (1, .ref (35 + 7 * u1)), (3, .int (Int32.ofInt x3)), (5, .int (Int32.ofInt x5))]) (st' := []) rfl ?_
          refine lf_sub (l := [(0, .ref 63), (1, .ref (35 + 7 * u1)), (3, .int (Int32.ofInt x3)), (4, .int (Int32.ofInt (x4 + 1))), (5, .int (Int32.ofInt x5))]) (lf_sb1 rfl (lf_sb1 rfl (lf_sb1 rfl (lf_sb1 rfl (lf_sb1 rfl lf_sb0))))) ?_
          exact gm_84b_p305 hX29 htu1 h
theorem gm_84b_p29L {L : Nat} {xs : Nat → Int32} {d : Nat} {Q : Int → lf_Z → Prop} {u1 : Nat} {x3 : Int} {x4 : Int} {x5 : Int} {s : lf_Z} (htu1 : u1 < 4) (h : fm_84b_p29L Q u1 x3 x4 x5 s) : lf_E (px_ro L xs) (d + 2) 84 29 [(0, .ref 63), (1, .ref (35 + 7 * u1)), (3, .int (Int32.ofInt x3)), (4, .int (Int32.ofInt x4)), (5, .int (Int32.ofInt x5))] [] s (lf_qi Q) :=
  h (fun x4 x5 s => lf_E (px_ro L xs) (d + 2) 84 29 [(0, .ref 63), (1, .ref (35 + 7 * u1)), (3, .int (Int32.ofInt x3)), (4, .int (Int32.ofInt x4)), (5, .int (Int32.ofInt x5))] [] s (lf_qi Q)) (fun x4 x5 s hb => gm_84b_p29 (fun _ _ _ h => h) htu1 hb)
def fm_84b (t1 : Nat) (a2 : Int) (Q : Int → lf_Z → Prop) (s : lf_Z) : Prop := (0 ≤ a2 ∧ a2 < 3) ∧ (lf_R ((lf_up s.1 63 6 0) (38 + 7 * t1) a2) ∧ (fm_84b_p29L Q t1 (min ((lf_up s.1 63 6 0) (38 + 7 * t1) a2) 300) ((lf_up s.1 63 6 0) (37 + 7 * t1) a2) 0 (lf_up s.1 63 6 0, s.2.1, s.2.2)))
set_option maxRecDepth 100000 in
theorem gm_84b {L : Nat} {xs : Nat → Int32} {d : Nat} {t1 : Nat} {a2 : Int} {Q : Int → lf_Z → Prop} {s : lf_Z} (htt1 : t1 < 4) (h : fm_84b t1 a2 Q s) : lf_M (px_ro L xs) (d + 2) 84 [.ref 63, .ref (35 + 7 * t1), .int (Int32.ofInt a2)] s (lf_qi Q) := by
  unfold fm_84b at h
  show lf_E (px_ro L xs) (d + 2) 84 0 [(0, .ref 63), (1, .ref (35 + 7 * t1)), (2, .int (Int32.ofInt a2))] [] s _
  refine lf_seg 2 (pc' := 2) (lv' := [(0, .ref 63), (1, .ref (35 + 7 * t1)), (2, .int (Int32.ofInt a2))]) (st' := [.int (Int32.ofInt 0), .ref 63]) rfl ?_
  refine lf_putI 5 6 rfl rfl rfl rfl rfl rfl rfl rfl ?_
  refine lf_as (lf_up s.1 63 6 0, s.2.1, s.2.2) rfl ?_
  refine lf_seg 1 (pc' := 6) (lv' := [(0, .ref 63), (1, .ref (35 + 7 * t1)), (2, .int (Int32.ofInt a2))]) (st' := [.ref (35 + 7 * t1)]) rfl ?_
  refine lf_getR 9 (w := some (38 + 7 * t1)) rfl rfl rfl (lf_scr htt1) (lf_scL htt1) rfl (lf_sP3 htt1) ?_
  refine lf_seg 1 (pc' := 10) (lv' := [(0, .ref 63), (1, .ref (35 + 7 * t1)), (2, .int (Int32.ofInt a2))]) (st' := [.int (Int32.ofInt a2), .ref (38 + 7 * t1)]) rfl ?_
  obtain ⟨o21, h⟩ := h
  refine lf_iald 11 3 rfl rfl (lf_sA3 htt1) (lf_sB3 htt1) rfl rfl o21 ?_
  refine lf_sipush 14 300 rfl rfl (by decide) (by decide) ?_
  obtain ⟨o22, h⟩ := h
  refine lf_imin 17 rfl rfl rfl rfl o22 ⟨by decide, by decide⟩ ?_
  refine lf_seg 2 (pc' := 19) (lv' := [(3, .int (Int32.ofInt (min ((lf_up s.1 63 6 0) (38 + 7 * t1) a2) 300))), (0, .ref 63), (1, .ref (35 + 7 * t1)), (2, .int (Int32.ofInt a2))]) (st' := [.ref (35 + 7 * t1)]) rfl ?_
  refine lf_getR 22 (w := some (37 + 7 * t1)) rfl rfl rfl (lf_scr htt1) (lf_scL htt1) rfl (lf_sP2 htt1) ?_
  refine lf_seg 1 (pc' := 23) (lv' := [(3, .int (Int32.ofInt (min ((lf_up s.1 63 6 0) (38 + 7 * t1) a2) 300))), (0, .ref 63), (1, .ref (35 + 7 * t1)), (2, .int (Int32.ofInt a2))]) (st' := [.int (Int32.ofInt a2), .ref (37 + 7 * t1)]) rfl ?_
  refine lf_iald 24 3 rfl rfl (lf_sA2 htt1) (lf_sB2 htt1) rfl rfl o21 ?_
  refine lf_seg 3 (pc' := 29) (lv' := [(5, .int (Int32.ofInt 0)), (4, .int (Int32.ofInt ((lf_up s.1 63 6 0) (37 + 7 * t1) a2))), (3, .int (Int32.ofInt (min ((lf_up s.1 63 6 0) (38 + 7 * t1) a2) 300))), (0, .ref 63), (1, .ref (35 + 7 * t1)), (2, .int (Int32.ofInt a2))]) (st' := []) rfl ?_
  refine lf_sub (l := [(0, .ref 63), (1, .ref (35 + 7 * t1)), (3, .int (Int32.ofInt (min ((lf_up s.1 63 6 0) (38 + 7 * t1) a2) 300))), (4, .int (Int32.ofInt ((lf_up s.1 63 6 0) (37 + 7 * t1) a2))), (5, .int (Int32.ofInt 0))]) (lf_sb1 rfl (lf_sb1 rfl (lf_sb1 rfl (lf_sb1 rfl (lf_sb1 rfl lf_sb0))))) ?_
  exact gm_84b_p29L htt1 h
-- fm_91 Laws.chanceOf 63 i i i i i i
def fm_91_p118 (Q : Int → lf_Z → Prop) (x8 : Int) (s : lf_Z) : Prop := lf_R x8 ∧ ((x8 ≤ 0 → (Q 5 s)) ∧ (¬ (x8 ≤ 0) → (Q 0 s)))
set_option maxRecDepth 100000 in
theorem gm_91_p118 {L : Nat} {xs : Nat → Int32} {d : Nat} {Q : Int → lf_Z → Prop} {x8 : Int} {s : lf_Z} (h : fm_91_p118 Q x8 s) : lf_E (px_ro L xs) (d + 3) 91 118 [(8, .int (Int32.ofInt x8))] [] s (lf_qi Q) := by
  unfold fm_91_p118 at h
  refine lf_seg 1 (pc' := 120) (lv' := [(8, .int (Int32.ofInt x8))]) (st' := [.int (Int32.ofInt x8)]) rfl ?_
  obtain ⟨o27, h⟩ := h
  refine lf_if_le 127 123 rfl rfl rfl o27 (fun c => ?_) (fun c => ?_)
  · have h := h.1 c
    refine lf_seg 1 (pc' := 128) (lv' := [(8, .int (Int32.ofInt x8))]) (st' := [.int (Int32.ofInt 5)]) rfl ?_
    exact lf_retI rfl rfl h
  · have h := h.2 c
    refine lf_seg 2 (pc' := 128) (lv' := [(8, .int (Int32.ofInt x8))]) (st' := [.int (Int32.ofInt 0)]) rfl ?_
    exact lf_retI rfl rfl h
def fm_91_p94 (X29 : Int → Int → Int → lf_Z → Prop) (Q : Int → lf_Z → Prop) (x1 : Int) (x2 : Int) (x3 : Int) (x4 : Int) (x5 : Int) (x7 : Int) (x8 : Int) (x9 : Int) (x10 : Int) (s : lf_Z) : Prop := X29 x8 x9 (x10 + 1) s
set_option maxRecDepth 100000 in
theorem gm_91_p94 {L : Nat} {xs : Nat → Int32} {d : Nat} {X29 : Int → Int → Int → lf_Z → Prop} {Q : Int → lf_Z → Prop} {x1 : Int} {x2 : Int} {x3 : Int} {x4 : Int} {x5 : Int} {x7 : Int} {x8 : Int} {x9 : Int} {x10 : Int} {s : lf_Z} (hX29 : ∀ x8 x9 x10 s, X29 x8 x9 x10 s → lf_E (px_ro L xs) (d + 3) 91 29 [(0, .ref 63), (1, .int (Int32.ofInt x1)), (2, .int (Int32.ofInt x2)), (3, .int (Int32.ofInt x3)), (4, .int (Int32.ofInt x4)), (5, .int (Int32.ofInt x5)), (7, .int (Int32.ofInt x7)), (8, .int (Int32.ofInt x8)), (9, .int (Int32.ofInt x9)), (10, .int (Int32.ofInt x10))] [] s (lf_qi Q)) (h : fm_91_p94 X29 Q x1 x2 x3 x4 x5 x7 x8 x9 x10 s) : lf_E (px_ro L xs) (d + 3) 91 94 [(0, .ref 63), (1, .int (Int32.ofInt x1)), (2, .int (Int32.ofInt x2)), (3, .int (Int32.ofInt x3)), (4, .int (Int32.ofInt x4)), (5, .int (Int32.ofInt x5)), (7, .int (Int32.ofInt x7)), (8, .int (Int32.ofInt x8)), (9, .int (Int32.ofInt x9)), (10, .int (Int32.ofInt x10))] [] s (lf_qi Q) := by
  unfold fm_91_p94 at h
  refine lf_iinc 97 rfl rfl rfl rfl ?_
  refine lf_seg 1 (pc' := 29) (lv' := [(10, .int (Int32.ofInt (x10 + 1))), (0, .ref 63), (1, .int (Int32.ofInt x1)), (2, .int (Int32.ofInt x2)), (3, .int (Int32.ofInt x3)), (4, .int (Int32.ofInt x4)), (5, .int (Int32.ofInt x5)), (7, .int (Int32.ofInt x7)), (8, .int (Int32.ofInt x8)), (9, .int (Int32.ofInt x9))]) (st' := []) rfl ?_
  refine lf_sub (l := [(0, .ref 63), (1, .int (Int32.ofInt x1)), (2, .int (Int32.ofInt x2)), (3, .int (Int32.ofInt x3)), (4, .int (Int32.ofInt x4)), (5, .int (Int32.ofInt x5)), (7, .int (Int32.ofInt x7)), (8, .int (Int32.ofInt x8)), (9, .int (Int32.ofInt x9)), (10, .int (Int32.ofInt (x10 + 1)))]) (lf_sb1 rfl (lf_sb1 rfl (lf_sb1 rfl (lf_sb1 rfl (lf_sb1 rfl (lf_sb1 rfl (lf_sb1 rfl (lf_sb1 rfl (lf_sb1 rfl (lf_sb1 rfl lf_sb0)))))))))) ?_
  exact hX29 _ _ _ _ h
def fm_91_p91 (X29 : Int → Int → Int → lf_Z → Prop) (Q : Int → lf_Z → Prop) (x1 : Int) (x2 : Int) (x3 : Int) (x4 : Int) (x5 : Int) (x7 : Int) (x8 : Int) (x10 : Int) (y0 : Int) (y1 : Int) (s : lf_Z) : Prop := fm_91_p94 X29 Q x1 x2 x3 x4 x5 x7 x8 (lf_w (y0 + y1)) x10 s
set_option maxRecDepth 100000 in
theorem gm_91_p91 {L : Nat} {xs : Nat → Int32} {d : Nat} {X29 : Int → Int → Int → lf_Z → Prop} {Q : Int → lf_Z → Prop} {x1 : Int} {x2 : Int} {x3 : Int} {x4 : Int} {x5 : Int} {x7 : Int} {x8 : Int} {x10 : Int} {y0 : Int} {y1 : Int} {s : lf_Z} (hX29 : ∀ x8 x9 x10 s, X29 x8 x9 x10 s → lf_E (px_ro L xs) (d + 3) 91 29 [(0, .ref 63), (1, .int (Int32.ofInt x1)), (2, .int (Int32.ofInt x2)), (3, .int (Int32.ofInt x3)), (4, .int (Int32.ofInt x4)), (5, .int (Int32.ofInt x5)), (7, .int (Int32.ofInt x7)), (8, .int (Int32.ofInt x8)), (9, .int (Int32.ofInt x9)), (10, .int (Int32.ofInt x10))] [] s (lf_qi Q)) (h : fm_91_p91 X29 Q x1 x2 x3 x4 x5 x7 x8 x10 y0 y1 s) : lf_E (px_ro L xs) (d + 3) 91 91 [(0, .ref 63), (1, .int (Int32.ofInt x1)), (2, .int (Int32.ofInt x2)), (3, .int (Int32.ofInt x3)), (4, .int (Int32.ofInt x4)), (5, .int (Int32.ofInt x5)), (7, .int (Int32.ofInt x7)), (8, .int (Int32.ofInt x8)), (10, .int (Int32.ofInt x10))] [.int (Int32.ofInt y1), .int (Int32.ofInt y0)] s (lf_qi Q) := by
  unfold fm_91_p91 at h
  refine lf_iadd 92 rfl rfl ?_
  refine lf_wtI ?_
  refine lf_seg 1 (pc' := 94) (lv' := [(9, .int (Int32.ofInt (lf_w (y0 + y1)))), (0, .ref 63), (1, .int (Int32.ofInt x1)), (2, .int (Int32.ofInt x2)), (3, .int (Int32.ofInt x3)), (4, .int (Int32.ofInt x4)), (5, .int (Int32.ofInt x5)), (7, .int (Int32.ofInt x7)), (8, .int (Int32.ofInt x8)), (10, .int (Int32.ofInt x10))]) (st' := []) rfl ?_
  refine lf_sub (l := [(0, .ref 63), (1, .int (Int32.ofInt x1)), (2, .int (Int32.ofInt x2)), (3, .int (Int32.ofInt x3)), (4, .int (Int32.ofInt x4)), (5, .int (Int32.ofInt x5)), (7, .int (Int32.ofInt x7)), (8, .int (Int32.ofInt x8)), (9, .int (Int32.ofInt (lf_w (y0 + y1)))), (10, .int (Int32.ofInt x10))]) (lf_sb1 rfl (lf_sb1 rfl (lf_sb1 rfl (lf_sb1 rfl (lf_sb1 rfl (lf_sb1 rfl (lf_sb1 rfl (lf_sb1 rfl (lf_sb1 rfl (lf_sb1 rfl lf_sb0)))))))))) ?_
  exact gm_91_p94 hX29 h
def fm_91_p29 (Q : Int → lf_Z → Prop) (x1 : Int) (x2 : Int) (x3 : Int) (x4 : Int) (x5 : Int) (x7 : Int) (X29 : Int → Int → Int → lf_Z → Prop) (x8 : Int) (x9 : Int) (x10 : Int) (s : lf_Z) : Prop := lf_R x10 ∧ (lf_R (s.1 1 2) ∧ ((s.1 1 2 ≤ x10 → ((s.2.2 3 = none → (fm_91_p118 Q x8 s)) ∧ (∀ t26 : Nat, s.2.2 3 = some t26 → t26 < 4 ∧ ((s.2.2 3 = none → (False)) ∧ (∀ t28 : Nat, s.2.2 3 = some t28 → t28 < 4 ∧ (fm_40 t28 1 (fun z30 s29 => ((z30 = true → (fm_82 x1 x2 x5 (fun s31 => ((0 ≤ x7 ∧ x7 < 12) ∧ ((s31.2.2 3 = none → (fm_84 1 (fun r35 s34 => (fm_55 r35 0 10 (fun r37 s36 => (Q r37 s36)) s34)) (lf_up (lf_up (lf_up (lf_up (lf_up s31.1 64 5 (s31.1 2 x7)) 64 6 x8) 64 7 x9) 64 8 x4) 64 10 x3, s31.2.1, s31.2.2))) ∧ (∀ t33 : Nat, s31.2.2 3 = some t33 → t33 < 4 ∧ (fm_84b t33 1 (fun r39 s38 => (fm_55 r39 0 10 (fun r41 s40 => (Q r41 s40)) s38)) (lf_up (lf_up (lf_up (lf_up (lf_up s31.1 64 5 (s31.1 2 x7)) 64 6 x8) 64 7 x9) 64 8 x4) 64 10 x3, s31.2.1, s31.2.2)))))) s29)) ∧ (z30 = false → (fm_91_p118 Q x8 s29)))) s)))))) ∧ (¬ (s.1 1 2 ≤ x10) → ((0 ≤ x10 ∧ x10 < 6) ∧ (lf_R (s.1 19 x10) ∧ (lf_R x7 ∧ ((s.1 19 x10 ≠ x7 → (fm_91_p94 X29 Q x1 x2 x3 x4 x5 x7 x8 x9 x10 s)) ∧ (¬ (s.1 19 x10 ≠ x7) → (lf_R (s.1 9 x10) ∧ ((s.1 9 x10 = 0 → (fm_91_p91 X29 Q x1 x2 x3 x4 x5 x7 (lf_w (x8 + (s.1 7 x10))) x10 x9 0 s)) ∧ (¬ (s.1 9 x10 = 0) → (fm_91_p91 X29 Q x1 x2 x3 x4 x5 x7 (lf_w (x8 + (s.1 7 x10))) x10 x9 1 s))))))))))))
def fm_91_p29L (Q : Int → lf_Z → Prop) (x1 : Int) (x2 : Int) (x3 : Int) (x4 : Int) (x5 : Int) (x7 : Int) (x8 : Int) (x9 : Int) (x10 : Int) (s : lf_Z) : Prop := ∀ X29 : Int → Int → Int → lf_Z → Prop, (∀ (x8 : Int) (x9 : Int) (x10 : Int) (s : lf_Z), fm_91_p29 Q x1 x2 x3 x4 x5 x7 X29 x8 x9 x10 s → X29 x8 x9 x10 s) → X29 x8 x9 x10 s
set_option maxRecDepth 100000 in
theorem gm_91_p29 {L : Nat} {xs : Nat → Int32} {d : Nat} {Q : Int → lf_Z → Prop} {x1 : Int} {x2 : Int} {x3 : Int} {x4 : Int} {x5 : Int} {x7 : Int} {x8 : Int} {x9 : Int} {x10 : Int} {s : lf_Z} {X29 : Int → Int → Int → lf_Z → Prop} (hX29 : ∀ x8 x9 x10 s, X29 x8 x9 x10 s → lf_E (px_ro L xs) (d + 3) 91 29 [(0, .ref 63), (1, .int (Int32.ofInt x1)), (2, .int (Int32.ofInt x2)), (3, .int (Int32.ofInt x3)), (4, .int (Int32.ofInt x4)), (5, .int (Int32.ofInt x5)), (7, .int (Int32.ofInt x7)), (8, .int (Int32.ofInt x8)), (9, .int (Int32.ofInt x9)), (10, .int (Int32.ofInt x10))] [] s (lf_qi Q)) (h : fm_91_p29 Q x1 x2 x3 x4 x5 x7 X29 x8 x9 x10 s) : lf_E (px_ro L xs) (d + 3) 91 29 [(0, .ref 63), (1, .int (Int32.ofInt x1)), (2, .int (Int32.ofInt x2)), (3, .int (Int32.ofInt x3)), (4, .int (Int32.ofInt x4)), (5, .int (Int32.ofInt x5)), (7, .int (Int32.ofInt x7)), (8, .int (Int32.ofInt x8)), (9, .int (Int32.ofInt x9)), (10, .int (Int32.ofInt x10))] [] s (lf_qi Q) := by
  unfold fm_91_p29 at h
  refine lf_seg 3 (pc' := 35) (lv' := [(0, .ref 63), (1, .int (Int32.ofInt x1)), (2, .int (Int32.ofInt x2)), (3, .int (Int32.ofInt x3)), (4, .int (Int32.ofInt x4)), (5, .int (Int32.ofInt x5)), (7, .int (Int32.ofInt x7)), (8, .int (Int32.ofInt x8)), (9, .int (Int32.ofInt x9)), (10, .int (Int32.ofInt x10))]) (st' := [.ref 1, .int (Int32.ofInt x10)]) rfl ?_
  refine lf_getI 38 2 rfl rfl rfl rfl rfl rfl rfl ?_
  obtain ⟨o24, h⟩ := h
  obtain ⟨o25, h⟩ := h
  refine lf_icmp_ge 100 41 rfl rfl rfl o24 o25 (fun c => ?_) (fun c => ?_)
  · have h := h.1 c
    refine lf_seg 1 (pc' := 101) (lv' := [(0, .ref 63), (1, .int (Int32.ofInt x1)), (2, .int (Int32.ofInt x2)), (3, .int (Int32.ofInt x3)), (4, .int (Int32.ofInt x4)), (5, .int (Int32.ofInt x5)), (7, .int (Int32.ofInt x7)), (8, .int (Int32.ofInt x8)), (9, .int (Int32.ofInt x9)), (10, .int (Int32.ofInt x10))]) (st' := [.ref 63]) rfl ?_
    cases et26 : s.2.2 3 with
    | none =>
      have h := h.1 et26
      refine lf_getR 104 (w := none) rfl rfl rfl rfl rfl rfl (congrArg (Option.map (fun t => 35 + 7 * t)) et26) ?_
      refine lf_null_t 118 rfl rfl ?_
      refine lf_sub (l := [(8, .int (Int32.ofInt x8))]) (lf_sb1 rfl lf_sb0) ?_
      exact gm_91_p118 h
    | some t26 =>
      obtain ⟨htt26, h⟩ := h.2 t26 et26
      refine lf_getR 104 (w := some (35 + 7 * t26)) rfl rfl rfl rfl rfl rfl (congrArg (Option.map (fun t => 35 + 7 * t)) et26) ?_
      refine lf_null_f 107 rfl rfl ?_
      refine lf_seg 1 (pc' := 108) (lv' := [(0, .ref 63), (1, .int (Int32.ofInt x1)), (2, .int (Int32.ofInt x2)), (3, .int (Int32.ofInt x3)), (4, .int (Int32.ofInt x4)), (5, .int (Int32.ofInt x5)), (7, .int (Int32.ofInt x7)), (8, .int (Int32.ofInt x8)), (9, .int (Int32.ofInt x9)), (10, .int (Int32.ofInt x10))]) (st' := [.ref 63]) rfl ?_
      cases et28 : s.2.2 3 with
      | none =>
        have h := h.1 et28
        refine lf_getR 111 (w := none) rfl rfl rfl rfl rfl rfl (congrArg (Option.map (fun t => 35 + 7 * t)) et28) ?_
        refine lf_seg 1 (pc' := 112) (lv' := [(0, .ref 63), (1, .int (Int32.ofInt x1)), (2, .int (Int32.ofInt x2)), (3, .int (Int32.ofInt x3)), (4, .int (Int32.ofInt x4)), (5, .int (Int32.ofInt x5)), (7, .int (Int32.ofInt x7)), (8, .int (Int32.ofInt x8)), (9, .int (Int32.ofInt x9)), (10, .int (Int32.ofInt x10))]) (st' := [.int (Int32.ofInt 1), .null]) rfl ?_
        exact h.elim
      | some t28 =>
        obtain ⟨htt28, h⟩ := h.2 t28 et28
        refine lf_getR 111 (w := some (35 + 7 * t28)) rfl rfl rfl rfl rfl rfl (congrArg (Option.map (fun t => 35 + 7 * t)) et28) ?_
        refine lf_seg 1 (pc' := 112) (lv' := [(0, .ref 63), (1, .int (Int32.ofInt x1)), (2, .int (Int32.ofInt x2)), (3, .int (Int32.ofInt x3)), (4, .int (Int32.ofInt x4)), (5, .int (Int32.ofInt x5)), (7, .int (Int32.ofInt x7)), (8, .int (Int32.ofInt x8)), (9, .int (Int32.ofInt x9)), (10, .int (Int32.ofInt x10))]) (st' := [.int (Int32.ofInt 1), .ref (35 + 7 * t28)]) rfl ?_
        refine lf_callZ 115 rfl rfl (lf_invT htt28 rfl rfl rfl rfl) rfl (gm_40 htt28 h) (fun z30 s29 h => ?_)
        refine lf_ifz_ne 129 118 rfl rfl rfl (fun c => ?_) (fun c => ?_)
        · have h := h.1 c
          refine lf_seg 4 (pc' := 134) (lv' := [(0, .ref 63), (1, .int (Int32.ofInt x1)), (2, .int (Int32.ofInt x2)), (3, .int (Int32.ofInt x3)), (4, .int (Int32.ofInt x4)), (5, .int (Int32.ofInt x5)), (7, .int (Int32.ofInt x7)), (8, .int (Int32.ofInt x8)), (9, .int (Int32.ofInt x9)), (10, .int (Int32.ofInt x10))]) (st' := [.int (Int32.ofInt x5), .int (Int32.ofInt x2), .int (Int32.ofInt x1), .ref 63]) rfl ?_
          refine lf_callV 137 rfl rfl rfl rfl (gm_82 h) (fun s31 h => ?_)
          refine lf_seg 6 (pc' := 149) (lv' := [(0, .ref 63), (1, .int (Int32.ofInt x1)), (2, .int (Int32.ofInt x2)), (3, .int (Int32.ofInt x3)), (4, .int (Int32.ofInt x4)), (5, .int (Int32.ofInt x5)), (7, .int (Int32.ofInt x7)), (8, .int (Int32.ofInt x8)), (9, .int (Int32.ofInt x9)), (10, .int (Int32.ofInt x10))]) (st' := [.ref 2, .int (Int32.ofInt 5), .ref 64]) rfl ?_
          refine lf_seg 1 (pc' := 151) (lv' := [(0, .ref 63), (1, .int (Int32.ofInt x1)), (2, .int (Int32.ofInt x2)), (3, .int (Int32.ofInt x3)), (4, .int (Int32.ofInt x4)), (5, .int (Int32.ofInt x5)), (7, .int (Int32.ofInt x7)), (8, .int (Int32.ofInt x8)), (9, .int (Int32.ofInt x9)), (10, .int (Int32.ofInt x10))]) (st' := [.int (Int32.ofInt x7), .ref 2, .int (Int32.ofInt 5), .ref 64]) rfl ?_
          obtain ⟨o32, h⟩ := h
          refine lf_iald 152 12 rfl rfl rfl rfl rfl rfl o32 ?_
          refine lf_iast 153 11 rfl rfl rfl rfl rfl rfl ⟨by decide, by decide⟩ ?_
          refine lf_as (lf_up s31.1 64 5 (s31.1 2 x7), s31.2.1, s31.2.2) rfl ?_
          refine lf_seg 2 (pc' := 157) (lv' := [(0, .ref 63), (1, .int (Int32.ofInt x1)), (2, .int (Int32.ofInt x2)), (3, .int (Int32.ofInt x3)), (4, .int (Int32.ofInt x4)), (5, .int (Int32.ofInt x5)), (7, .int (Int32.ofInt x7)), (8, .int (Int32.ofInt x8)), (9, .int (Int32.ofInt x9)), (10, .int (Int32.ofInt x10))]) (st' := [.ref 64]) rfl ?_
          refine lf_bipush 159 6 rfl rfl (by decide) (by decide) ?_
          refine lf_seg 1 (pc' := 161) (lv' := [(0, .ref 63), (1, .int (Int32.ofInt x1)), (2, .int (Int32.ofInt x2)), (3, .int (Int32.ofInt x3)), (4, .int (Int32.ofInt x4)), (5, .int (Int32.ofInt x5)), (7, .int (Int32.ofInt x7)), (8, .int (Int32.ofInt x8)), (9, .int (Int32.ofInt x9)), (10, .int (Int32.ofInt x10))]) (st' := [.int (Int32.ofInt x8), .int (Int32.ofInt 6), .ref 64]) rfl ?_
          refine lf_iast 162 11 rfl rfl rfl rfl rfl rfl ⟨by decide, by decide⟩ ?_
          refine lf_as (lf_up (lf_up s31.1 64 5 (s31.1 2 x7)) 64 6 x8, s31.2.1, s31.2.2) rfl ?_
          refine lf_seg 2 (pc' := 166) (lv' := [(0, .ref 63), (1, .int (Int32.ofInt x1)), (2, .int (Int32.ofInt x2)), (3, .int (Int32.ofInt x3)), (4, .int (Int32.ofInt x4)), (5, .int (Int32.ofInt x5)), (7, .int (Int32.ofInt x7)), (8, .int (Int32.ofInt x8)), (9, .int (Int32.ofInt x9)), (10, .int (Int32.ofInt x10))]) (st' := [.ref 64]) rfl ?_
          refine lf_bipush 168 7 rfl rfl (by decide) (by decide) ?_
          refine lf_seg 1 (pc' := 170) (lv' := [(0, .ref 63), (1, .int (Int32.ofInt x1)), (2, .int (Int32.ofInt x2)), (3, .int (Int32.ofInt x3)), (4, .int (Int32.ofInt x4)), (5, .int (Int32.ofInt x5)), (7, .int (Int32.ofInt x7)), (8, .int (Int32.ofInt x8)), (9, .int (Int32.ofInt x9)), (10, .int (Int32.ofInt x10))]) (st' := [.int (Int32.ofInt x9), .int (Int32.ofInt 7), .ref 64]) rfl ?_
          refine lf_iast 171 11 rfl rfl rfl rfl rfl rfl ⟨by decide, by decide⟩ ?_
          refine lf_as (lf_up (lf_up (lf_up s31.1 64 5 (s31.1 2 x7)) 64 6 x8) 64 7 x9, s31.2.1, s31.2.2) rfl ?_
          refine lf_seg 2 (pc' := 175) (lv' := [(0, .ref 63), (1, .int (Int32.ofInt x1)), (2, .int (Int32.ofInt x2)), (3, .int (Int32.ofInt x3)), (4, .int (Int32.ofInt x4)), (5, .int (Int32.ofInt x5)), (7, .int (Int32.ofInt x7)), (8, .int (Int32.ofInt x8)), (9, .int (Int32.ofInt x9)), (10, .int (Int32.ofInt x10))]) (st' := [.ref 64]) rfl ?_
          refine lf_bipush 177 8 rfl rfl (by decide) (by decide) ?_
          refine lf_seg 1 (pc' := 179) (lv' := [(0, .ref 63), (1, .int (Int32.ofInt x1)), (2, .int (Int32.ofInt x2)), (3, .int (Int32.ofInt x3)), (4, .int (Int32.ofInt x4)), (5, .int (Int32.ofInt x5)), (7, .int (Int32.ofInt x7)), (8, .int (Int32.ofInt x8)), (9, .int (Int32.ofInt x9)), (10, .int (Int32.ofInt x10))]) (st' := [.int (Int32.ofInt x4), .int (Int32.ofInt 8), .ref 64]) rfl ?_
          refine lf_iast 180 11 rfl rfl rfl rfl rfl rfl ⟨by decide, by decide⟩ ?_
          refine lf_as (lf_up (lf_up (lf_up (lf_up s31.1 64 5 (s31.1 2 x7)) 64 6 x8) 64 7 x9) 64 8 x4, s31.2.1, s31.2.2) rfl ?_
          refine lf_seg 2 (pc' := 184) (lv' := [(0, .ref 63), (1, .int (Int32.ofInt x1)), (2, .int (Int32.ofInt x2)), (3, .int (Int32.ofInt x3)), (4, .int (Int32.ofInt x4)), (5, .int (Int32.ofInt x5)), (7, .int (Int32.ofInt x7)), (8, .int (Int32.ofInt x8)), (9, .int (Int32.ofInt x9)), (10, .int (Int32.ofInt x10))]) (st' := [.ref 64]) rfl ?_
          refine lf_bipush 186 10 rfl rfl (by decide) (by decide) ?_
          refine lf_seg 1 (pc' := 187) (lv' := [(0, .ref 63), (1, .int (Int32.ofInt x1)), (2, .int (Int32.ofInt x2)), (3, .int (Int32.ofInt x3)), (4, .int (Int32.ofInt x4)), (5, .int (Int32.ofInt x5)), (7, .int (Int32.ofInt x7)), (8, .int (Int32.ofInt x8)), (9, .int (Int32.ofInt x9)), (10, .int (Int32.ofInt x10))]) (st' := [.int (Int32.ofInt x3), .int (Int32.ofInt 10), .ref 64]) rfl ?_
          refine lf_iast 188 11 rfl rfl rfl rfl rfl rfl ⟨by decide, by decide⟩ ?_
          refine lf_as (lf_up (lf_up (lf_up (lf_up (lf_up s31.1 64 5 (s31.1 2 x7)) 64 6 x8) 64 7 x9) 64 8 x4) 64 10 x3, s31.2.1, s31.2.2) rfl ?_
          refine lf_seg 2 (pc' := 190) (lv' := [(0, .ref 63), (1, .int (Int32.ofInt x1)), (2, .int (Int32.ofInt x2)), (3, .int (Int32.ofInt x3)), (4, .int (Int32.ofInt x4)), (5, .int (Int32.ofInt x5)), (7, .int (Int32.ofInt x7)), (8, .int (Int32.ofInt x8)), (9, .int (Int32.ofInt x9)), (10, .int (Int32.ofInt x10))]) (st' := [.ref 63, .ref 63]) rfl ?_
          cases et33 : s31.2.2 3 with
          | none =>
            have h := h.1 et33
            refine lf_getR 193 (w := none) rfl rfl rfl rfl rfl rfl (congrArg (Option.map (fun t => 35 + 7 * t)) et33) ?_
            refine lf_seg 1 (pc' := 194) (lv' := [(0, .ref 63), (1, .int (Int32.ofInt x1)), (2, .int (Int32.ofInt x2)), (3, .int (Int32.ofInt x3)), (4, .int (Int32.ofInt x4)), (5, .int (Int32.ofInt x5)), (7, .int (Int32.ofInt x7)), (8, .int (Int32.ofInt x8)), (9, .int (Int32.ofInt x9)), (10, .int (Int32.ofInt x10))]) (st' := [.int (Int32.ofInt 1), .null, .ref 63]) rfl ?_
            refine lf_callI 197 rfl rfl rfl rfl (gm_84 h) (fun r35 s34 h => ?_)
            refine lf_seg 1 (pc' := 198) (lv' := [(0, .ref 63), (1, .int (Int32.ofInt x1)), (2, .int (Int32.ofInt x2)), (3, .int (Int32.ofInt x3)), (4, .int (Int32.ofInt x4)), (5, .int (Int32.ofInt x5)), (7, .int (Int32.ofInt x7)), (8, .int (Int32.ofInt x8)), (9, .int (Int32.ofInt x9)), (10, .int (Int32.ofInt x10))]) (st' := [.int (Int32.ofInt 0), .int (Int32.ofInt r35)]) rfl ?_
            refine lf_bipush 200 10 rfl rfl (by decide) (by decide) ?_
            refine lf_callI 203 rfl rfl rfl rfl (gm_55 h) (fun r37 s36 h => ?_)
            exact lf_retI rfl rfl h
          | some t33 =>
            obtain ⟨htt33, h⟩ := h.2 t33 et33
            refine lf_getR 193 (w := some (35 + 7 * t33)) rfl rfl rfl rfl rfl rfl (congrArg (Option.map (fun t => 35 + 7 * t)) et33) ?_
            refine lf_seg 1 (pc' := 194) (lv' := [(0, .ref 63), (1, .int (Int32.ofInt x1)), (2, .int (Int32.ofInt x2)), (3, .int (Int32.ofInt x3)), (4, .int (Int32.ofInt x4)), (5, .int (Int32.ofInt x5)), (7, .int (Int32.ofInt x7)), (8, .int (Int32.ofInt x8)), (9, .int (Int32.ofInt x9)), (10, .int (Int32.ofInt x10))]) (st' := [.int (Int32.ofInt 1), .ref (35 + 7 * t33), .ref 63]) rfl ?_
            refine lf_callI 197 rfl rfl rfl rfl (gm_84b htt33 h) (fun r39 s38 h => ?_)
            refine lf_seg 1 (pc' := 198) (lv' := [(0, .ref 63), (1, .int (Int32.ofInt x1)), (2, .int (Int32.ofInt x2)), (3, .int (Int32.ofInt x3)), (4, .int (Int32.ofInt x4)), (5, .int (Int32.ofInt x5)), (7, .int (Int32.ofInt x7)), (8, .int (Int32.ofInt x8)), (9, .int (Int32.ofInt x9)), (10, .int (Int32.ofInt x10))]) (st' := [.int (Int32.ofInt 0), .int (Int32.ofInt r39)]) rfl ?_
            refine lf_bipush 200 10 rfl rfl (by decide) (by decide) ?_
            refine lf_callI 203 rfl rfl rfl rfl (gm_55 h) (fun r41 s40 h => ?_)
            exact lf_retI rfl rfl h
        · have h := h.2 c
          refine lf_sub (l := [(8, .int (Int32.ofInt x8))]) (lf_sb1 rfl lf_sb0) ?_
          exact gm_91_p118 h
  · have h := h.2 c
    refine lf_seg 4 (pc' := 50) (lv' := [(0, .ref 63), (1, .int (Int32.ofInt x1)), (2, .int (Int32.ofInt x2)), (3, .int (Int32.ofInt x3)), (4, .int (Int32.ofInt x4)), (5, .int (Int32.ofInt x5)), (7, .int (Int32.ofInt x7)), (8, .int (Int32.ofInt x8)), (9, .int (Int32.ofInt x9)), (10, .int (Int32.ofInt x10))]) (st' := [.int (Int32.ofInt x10), .ref 19]) rfl ?_
    obtain ⟨o42, h⟩ := h
    refine lf_iald 51 6 rfl rfl rfl rfl rfl rfl o42 ?_
    refine lf_seg 1 (pc' := 53) (lv' := [(0, .ref 63), (1, .int (Int32.ofInt x1)), (2, .int (Int32.ofInt x2)), (3, .int (Int32.ofInt x3)), (4, .int (Int32.ofInt x4)), (5, .int (Int32.ofInt x5)), (7, .int (Int32.ofInt x7)), (8, .int (Int32.ofInt x8)), (9, .int (Int32.ofInt x9)), (10, .int (Int32.ofInt x10))]) (st' := [.int (Int32.ofInt x7), .int (Int32.ofInt (s.1 19 x10))]) rfl ?_
    obtain ⟨o43, h⟩ := h
    obtain ⟨o44, h⟩ := h
    refine lf_icmp_ne 94 56 rfl rfl rfl o43 o44 (fun c => ?_) (fun c => ?_)
    · have h := h.1 c
      refine lf_sub (l := [(0, .ref 63), (1, .int (Int32.ofInt x1)), (2, .int (Int32.ofInt x2)), (3, .int (Int32.ofInt x3)), (4, .int (Int32.ofInt x4)), (5, .int (Int32.ofInt x5)), (7, .int (Int32.ofInt x7)), (8, .int (Int32.ofInt x8)), (9, .int (Int32.ofInt x9)), (10, .int (Int32.ofInt x10))]) (lf_sb1 rfl (lf_sb1 rfl (lf_sb1 rfl (lf_sb1 rfl (lf_sb1 rfl (lf_sb1 rfl (lf_sb1 rfl (lf_sb1 rfl (lf_sb1 rfl (lf_sb1 rfl lf_sb0)))))))))) ?_
      exact gm_91_p94 hX29 h
    · have h := h.2 c
      refine lf_seg 5 (pc' := 67) (lv' := [(0, .ref 63), (1, .int (Int32.ofInt x1)), (2, .int (Int32.ofInt x2)), (3, .int (Int32.ofInt x3)), (4, .int (Int32.ofInt x4)), (5, .int (Int32.ofInt x5)), (7, .int (Int32.ofInt x7)), (8, .int (Int32.ofInt x8)), (9, .int (Int32.ofInt x9)), (10, .int (Int32.ofInt x10))]) (st' := [.int (Int32.ofInt x10), .ref 7, .int (Int32.ofInt x8)]) rfl ?_
      refine lf_iald 68 6 rfl rfl rfl rfl rfl rfl o42 ?_
      refine lf_iadd 69 rfl rfl ?_
      refine lf_wtI ?_
      refine lf_seg 6 (pc' := 82) (lv' := [(8, .int (Int32.ofInt (lf_w (x8 + (s.1 7 x10))))), (0, .ref 63), (1, .int (Int32.ofInt x1)), (2, .int (Int32.ofInt x2)), (3, .int (Int32.ofInt x3)), (4, .int (Int32.ofInt x4)), (5, .int (Int32.ofInt x5)), (7, .int (Int32.ofInt x7)), (9, .int (Int32.ofInt x9)), (10, .int (Int32.ofInt x10))]) (st' := [.int (Int32.ofInt x10), .ref 9, .int (Int32.ofInt x9)]) rfl ?_
      refine lf_zald 83 6 rfl rfl rfl rfl rfl rfl o42 ?_
      obtain ⟨o45, h⟩ := h
      refine lf_if_eq 90 86 rfl rfl rfl o45 (fun c => ?_) (fun c => ?_)
      · have h := h.1 c
        refine lf_seg 1 (pc' := 91) (lv' := [(8, .int (Int32.ofInt (lf_w (x8 + (s.1 7 x10))))), (0, .ref 63), (1, .int (Int32.ofInt x1)), (2, .int (Int32.ofInt x2)), (3, .int (Int32.ofInt x3)), (4, .int (Int32.ofInt x4)), (5, .int (Int32.ofInt x5)), (7, .int (Int32.ofInt x7)), (9, .int (Int32.ofInt x9)), (10, .int (Int32.ofInt x10))]) (st' := [.int (Int32.ofInt 0), .int (Int32.ofInt x9)]) rfl ?_
        refine lf_sub (l := [(0, .ref 63), (1, .int (Int32.ofInt x1)), (2, .int (Int32.ofInt x2)), (3, .int (Int32.ofInt x3)), (4, .int (Int32.ofInt x4)), (5, .int (Int32.ofInt x5)), (7, .int (Int32.ofInt x7)), (8, .int (Int32.ofInt (lf_w (x8 + (s.1 7 x10))))), (10, .int (Int32.ofInt x10))]) (lf_sb1 rfl (lf_sb1 rfl (lf_sb1 rfl (lf_sb1 rfl (lf_sb1 rfl (lf_sb1 rfl (lf_sb1 rfl (lf_sb1 rfl (lf_sb1 rfl lf_sb0))))))))) ?_
        exact gm_91_p91 hX29 h
      · have h := h.2 c
        refine lf_seg 2 (pc' := 91) (lv' := [(8, .int (Int32.ofInt (lf_w (x8 + (s.1 7 x10))))), (0, .ref 63), (1, .int (Int32.ofInt x1)), (2, .int (Int32.ofInt x2)), (3, .int (Int32.ofInt x3)), (4, .int (Int32.ofInt x4)), (5, .int (Int32.ofInt x5)), (7, .int (Int32.ofInt x7)), (9, .int (Int32.ofInt x9)), (10, .int (Int32.ofInt x10))]) (st' := [.int (Int32.ofInt 1), .int (Int32.ofInt x9)]) rfl ?_
        refine lf_sub (l := [(0, .ref 63), (1, .int (Int32.ofInt x1)), (2, .int (Int32.ofInt x2)), (3, .int (Int32.ofInt x3)), (4, .int (Int32.ofInt x4)), (5, .int (Int32.ofInt x5)), (7, .int (Int32.ofInt x7)), (8, .int (Int32.ofInt (lf_w (x8 + (s.1 7 x10))))), (10, .int (Int32.ofInt x10))]) (lf_sb1 rfl (lf_sb1 rfl (lf_sb1 rfl (lf_sb1 rfl (lf_sb1 rfl (lf_sb1 rfl (lf_sb1 rfl (lf_sb1 rfl (lf_sb1 rfl lf_sb0))))))))) ?_
        exact gm_91_p91 hX29 h
theorem gm_91_p29L {L : Nat} {xs : Nat → Int32} {d : Nat} {Q : Int → lf_Z → Prop} {x1 : Int} {x2 : Int} {x3 : Int} {x4 : Int} {x5 : Int} {x7 : Int} {x8 : Int} {x9 : Int} {x10 : Int} {s : lf_Z} (h : fm_91_p29L Q x1 x2 x3 x4 x5 x7 x8 x9 x10 s) : lf_E (px_ro L xs) (d + 3) 91 29 [(0, .ref 63), (1, .int (Int32.ofInt x1)), (2, .int (Int32.ofInt x2)), (3, .int (Int32.ofInt x3)), (4, .int (Int32.ofInt x4)), (5, .int (Int32.ofInt x5)), (7, .int (Int32.ofInt x7)), (8, .int (Int32.ofInt x8)), (9, .int (Int32.ofInt x9)), (10, .int (Int32.ofInt x10))] [] s (lf_qi Q) :=
  h (fun x8 x9 x10 s => lf_E (px_ro L xs) (d + 3) 91 29 [(0, .ref 63), (1, .int (Int32.ofInt x1)), (2, .int (Int32.ofInt x2)), (3, .int (Int32.ofInt x3)), (4, .int (Int32.ofInt x4)), (5, .int (Int32.ofInt x5)), (7, .int (Int32.ofInt x7)), (8, .int (Int32.ofInt x8)), (9, .int (Int32.ofInt x9)), (10, .int (Int32.ofInt x10))] [] s (lf_qi Q)) (fun x8 x9 x10 s hb => gm_91_p29 (fun _ _ _ _ h => h) hb)
def fm_91 (a1 : Int) (a2 : Int) (a3 : Int) (a4 : Int) (a5 : Int) (a6 : Int) (Q : Int → lf_Z → Prop) (s : lf_Z) : Prop := fm_78 a3 a2 (fun r22 s21 => (lf_R r22 ∧ ((r22 ≠ (-1) → (fm_91_p29L Q a1 a2 a3 a4 a5 r22 a6 0 0 s21)) ∧ (¬ (r22 ≠ (-1)) → (Q 0 s21))))) s
set_option maxRecDepth 100000 in
theorem gm_91 {L : Nat} {xs : Nat → Int32} {d : Nat} {a1 : Int} {a2 : Int} {a3 : Int} {a4 : Int} {a5 : Int} {a6 : Int} {Q : Int → lf_Z → Prop} {s : lf_Z} (h : fm_91 a1 a2 a3 a4 a5 a6 Q s) : lf_M (px_ro L xs) (d + 3) 91 [.ref 63, .int (Int32.ofInt a1), .int (Int32.ofInt a2), .int (Int32.ofInt a3), .int (Int32.ofInt a4), .int (Int32.ofInt a5), .int (Int32.ofInt a6)] s (lf_qi Q) := by
  unfold fm_91 at h
  show lf_E (px_ro L xs) (d + 3) 91 0 [(0, .ref 63), (1, .int (Int32.ofInt a1)), (2, .int (Int32.ofInt a2)), (3, .int (Int32.ofInt a3)), (4, .int (Int32.ofInt a4)), (5, .int (Int32.ofInt a5)), (6, .int (Int32.ofInt a6))] [] s _
  refine lf_seg 4 (pc' := 6) (lv' := [(0, .ref 63), (1, .int (Int32.ofInt a1)), (2, .int (Int32.ofInt a2)), (3, .int (Int32.ofInt a3)), (4, .int (Int32.ofInt a4)), (5, .int (Int32.ofInt a5)), (6, .int (Int32.ofInt a6))]) (st' := [.int (Int32.ofInt a2), .int (Int32.ofInt a3), .ref 1]) rfl ?_
  refine lf_callI 9 rfl rfl rfl rfl (gm_78 h) (fun r22 s21 h => ?_)
  refine lf_seg 3 (pc' := 14) (lv' := [(7, .int (Int32.ofInt r22)), (0, .ref 63), (1, .int (Int32.ofInt a1)), (2, .int (Int32.ofInt a2)), (3, .int (Int32.ofInt a3)), (4, .int (Int32.ofInt a4)), (5, .int (Int32.ofInt a5)), (6, .int (Int32.ofInt a6))]) (st' := [.int (Int32.ofInt (-1)), .int (Int32.ofInt r22)]) rfl ?_
  obtain ⟨o23, h⟩ := h
  refine lf_icmp_ne 19 17 rfl rfl rfl o23 ⟨by decide, by decide⟩ (fun c => ?_) (fun c => ?_)
  · have h := h.1 c
    refine lf_seg 6 (pc' := 29) (lv' := [(10, .int (Int32.ofInt 0)), (9, .int (Int32.ofInt 0)), (8, .int (Int32.ofInt a6)), (7, .int (Int32.ofInt r22)), (0, .ref 63), (1, .int (Int32.ofInt a1)), (2, .int (Int32.ofInt a2)), (3, .int (Int32.ofInt a3)), (4, .int (Int32.ofInt a4)), (5, .int (Int32.ofInt a5)), (6, .int (Int32.ofInt a6))]) (st' := []) rfl ?_
    refine lf_sub (l := [(0, .ref 63), (1, .int (Int32.ofInt a1)), (2, .int (Int32.ofInt a2)), (3, .int (Int32.ofInt a3)), (4, .int (Int32.ofInt a4)), (5, .int (Int32.ofInt a5)), (7, .int (Int32.ofInt r22)), (8, .int (Int32.ofInt a6)), (9, .int (Int32.ofInt 0)), (10, .int (Int32.ofInt 0))]) (lf_sb1 rfl (lf_sb1 rfl (lf_sb1 rfl (lf_sb1 rfl (lf_sb1 rfl (lf_sb1 rfl (lf_sb1 rfl (lf_sb1 rfl (lf_sb1 rfl (lf_sb1 rfl lf_sb0)))))))))) ?_
    exact gm_91_p29L h
  · have h := h.2 c
    refine lf_seg 1 (pc' := 18) (lv' := [(7, .int (Int32.ofInt r22)), (0, .ref 63), (1, .int (Int32.ofInt a1)), (2, .int (Int32.ofInt a2)), (3, .int (Int32.ofInt a3)), (4, .int (Int32.ofInt a4)), (5, .int (Int32.ofInt a5)), (6, .int (Int32.ofInt a6))]) (st' := [.int (Int32.ofInt 0)]) rfl ?_
    exact lf_retI rfl rfl h
-- fm_94 Stand.renew 15
def fm_94 (Q : lf_Z → Prop) (s : lf_Z) : Prop := Q (lf_up s.1 15 8 ((lf_w ((lf_w ((s.1 15 8) * 239)) + 137)).tmod 30203), s.2.1, s.2.2)
set_option maxRecDepth 100000 in
theorem gm_94 {L : Nat} {xs : Nat → Int32} {d : Nat} {Q : lf_Z → Prop} {s : lf_Z} (h : fm_94 Q s) : lf_M (px_ro L xs) (d + 1) 94 [.ref 15] s (lf_qv Q) := by
  unfold fm_94 at h
  show lf_E (px_ro L xs) (d + 1) 94 0 [(0, .ref 15)] [] s _
  refine lf_seg 2 (pc' := 2) (lv' := [(0, .ref 15)]) (st' := [.ref 15, .ref 15]) rfl ?_
  refine lf_getI 5 8 rfl rfl rfl rfl rfl rfl rfl ?_
  refine lf_sipush 8 239 rfl rfl (by decide) (by decide) ?_
  refine lf_imul 9 rfl rfl ?_
  refine lf_wtI ?_
  refine lf_sipush 12 137 rfl rfl (by decide) (by decide) ?_
  refine lf_iadd 13 rfl rfl ?_
  refine lf_wtI ?_
  refine lf_sipush 16 30203 rfl rfl (by decide) (by decide) ?_
  refine lf_irem 17 rfl rfl lf_Rw ⟨by decide, by decide⟩ (by decide) ?_
  refine lf_putI 20 8 rfl rfl rfl rfl rfl rfl rfl rfl ?_
  refine lf_as (lf_up s.1 15 8 ((lf_w ((lf_w ((s.1 15 8) * 239)) + 137)).tmod 30203), s.2.1, s.2.2) rfl ?_
  exact lf_retV rfl rfl h
-- fm_93 Stand.drawByTen 15
def fm_93 (Q : Int → lf_Z → Prop) (s : lf_Z) : Prop := lf_R (s.1 15 8) ∧ (fm_94 (fun s22 => (Q ((s.1 15 8).tmod 10) s22)) s)
set_option maxRecDepth 100000 in
theorem gm_93 {L : Nat} {xs : Nat → Int32} {d : Nat} {Q : Int → lf_Z → Prop} {s : lf_Z} (h : fm_93 Q s) : lf_M (px_ro L xs) (d + 2) 93 [.ref 15] s (lf_qi Q) := by
  unfold fm_93 at h
  show lf_E (px_ro L xs) (d + 2) 93 0 [(0, .ref 15)] [] s _
  refine lf_seg 1 (pc' := 1) (lv' := [(0, .ref 15)]) (st' := [.ref 15]) rfl ?_
  refine lf_getI 4 8 rfl rfl rfl rfl rfl rfl rfl ?_
  refine lf_bipush 6 10 rfl rfl (by decide) (by decide) ?_
  obtain ⟨o21, h⟩ := h
  refine lf_irem 7 rfl rfl o21 ⟨by decide, by decide⟩ (by decide) ?_
  refine lf_seg 2 (pc' := 9) (lv' := [(1, .int (Int32.ofInt ((s.1 15 8).tmod 10))), (0, .ref 15)]) (st' := [.ref 15]) rfl ?_
  refine lf_callV 12 rfl rfl rfl rfl (gm_94 h) (fun s22 h => ?_)
  refine lf_seg 1 (pc' := 13) (lv' := [(1, .int (Int32.ofInt ((s.1 15 8).tmod 10))), (0, .ref 15)]) (st' := [.int (Int32.ofInt ((s.1 15 8).tmod 10))]) rfl ?_
  exact lf_retI rfl rfl h
-- fm_92 Minutes.isTaken 67 i
def fm_92_p10 (Q : Bool → lf_Z → Prop) (x1 : Int) (s : lf_Z) : Prop := lf_R x1 ∧ ((x1 ≠ 10 → (Q false s)) ∧ (¬ (x1 ≠ 10) → (Q true s)))
set_option maxRecDepth 100000 in
theorem gm_92_p10 {L : Nat} {xs : Nat → Int32} {d : Nat} {Q : Bool → lf_Z → Prop} {x1 : Int} {s : lf_Z} (h : fm_92_p10 Q x1 s) : lf_E (px_ro L xs) (d + 3) 92 10 [(1, .int (Int32.ofInt x1))] [] s (lf_qz Q) := by
  unfold fm_92_p10 at h
  refine lf_seg 1 (pc' := 11) (lv' := [(1, .int (Int32.ofInt x1))]) (st' := [.int (Int32.ofInt x1)]) rfl ?_
  refine lf_bipush 13 10 rfl rfl (by decide) (by decide) ?_
  obtain ⟨o22, h⟩ := h
  refine lf_icmp_ne 20 16 rfl rfl rfl o22 ⟨by decide, by decide⟩ (fun c => ?_) (fun c => ?_)
  · have h := h.1 c
    refine lf_seg 1 (pc' := 21) (lv' := [(1, .int (Int32.ofInt x1))]) (st' := [.int (Int32.ofInt 0)]) rfl ?_
    exact lf_retZ false rfl rfl h
  · have h := h.2 c
    refine lf_seg 2 (pc' := 21) (lv' := [(1, .int (Int32.ofInt x1))]) (st' := [.int (Int32.ofInt 1)]) rfl ?_
    exact lf_retZ true rfl rfl h
def fm_92 (a1 : Int) (Q : Bool → lf_Z → Prop) (s : lf_Z) : Prop := lf_R a1 ∧ ((a1 = 0 → (fm_92_p10 Q a1 s)) ∧ (¬ (a1 = 0) → ((a1 ≠ 10 → (fm_93 (fun r24 s23 => (lf_R r24 ∧ ((a1 ≤ r24 → (Q false s23)) ∧ (¬ (a1 ≤ r24) → (Q true s23))))) s)) ∧ (¬ (a1 ≠ 10) → (fm_92_p10 Q a1 s)))))
set_option maxRecDepth 100000 in
theorem gm_92 {L : Nat} {xs : Nat → Int32} {d : Nat} {a1 : Int} {Q : Bool → lf_Z → Prop} {s : lf_Z} (h : fm_92 a1 Q s) : lf_M (px_ro L xs) (d + 3) 92 [.ref 67, .int (Int32.ofInt a1)] s (lf_qz Q) := by
  unfold fm_92 at h
  show lf_E (px_ro L xs) (d + 3) 92 0 [(0, .ref 67), (1, .int (Int32.ofInt a1))] [] s _
  refine lf_seg 1 (pc' := 1) (lv' := [(0, .ref 67), (1, .int (Int32.ofInt a1))]) (st' := [.int (Int32.ofInt a1)]) rfl ?_
  obtain ⟨o21, h⟩ := h
  refine lf_if_eq 10 4 rfl rfl rfl o21 (fun c => ?_) (fun c => ?_)
  · have h := h.1 c
    refine lf_sub (l := [(1, .int (Int32.ofInt a1))]) (lf_sb1 rfl lf_sb0) ?_
    exact gm_92_p10 h
  · have h := h.2 c
    refine lf_seg 1 (pc' := 5) (lv' := [(0, .ref 67), (1, .int (Int32.ofInt a1))]) (st' := [.int (Int32.ofInt a1)]) rfl ?_
    refine lf_bipush 7 10 rfl rfl (by decide) (by decide) ?_
    refine lf_icmp_ne 22 10 rfl rfl rfl o21 ⟨by decide, by decide⟩ (fun c => ?_) (fun c => ?_)
    · have h := h.1 c
      refine lf_seg 2 (pc' := 26) (lv' := [(0, .ref 67), (1, .int (Int32.ofInt a1))]) (st' := [.ref 15]) rfl ?_
      refine lf_callI 29 rfl rfl rfl rfl (gm_93 h) (fun r24 s23 h => ?_)
      refine lf_seg 1 (pc' := 30) (lv' := [(0, .ref 67), (1, .int (Int32.ofInt a1))]) (st' := [.int (Int32.ofInt a1), .int (Int32.ofInt r24)]) rfl ?_
      obtain ⟨o25, h⟩ := h
      refine lf_icmp_ge 37 33 rfl rfl rfl o25 o21 (fun c => ?_) (fun c => ?_)
      · have h := h.1 c
        refine lf_seg 1 (pc' := 38) (lv' := [(0, .ref 67), (1, .int (Int32.ofInt a1))]) (st' := [.int (Int32.ofInt 0)]) rfl ?_
        exact lf_retZ false rfl rfl h
      · have h := h.2 c
        refine lf_seg 2 (pc' := 38) (lv' := [(0, .ref 67), (1, .int (Int32.ofInt a1))]) (st' := [.int (Int32.ofInt 1)]) rfl ?_
        exact lf_retZ true rfl rfl h
    · have h := h.2 c
      refine lf_sub (l := [(1, .int (Int32.ofInt a1))]) (lf_sb1 rfl lf_sb0) ?_
      exact gm_92_p10 h
-- fm_88 Minutes.moveOn 67 i
def fm_88_p153 (X12 : Int → lf_Z → Prop) (Q : lf_Z → Prop) (x1 : Int) (x2 : Int) (x3 : Int) (s : lf_Z) : Prop := X12 (x3 + 1) s
set_option maxRecDepth 100000 in
theorem gm_88_p153 {L : Nat} {xs : Nat → Int32} {d : Nat} {X12 : Int → lf_Z → Prop} {Q : lf_Z → Prop} {x1 : Int} {x2 : Int} {x3 : Int} {s : lf_Z} (hX12 : ∀ x3 s, X12 x3 s → lf_E (px_ro L xs) (d + 4) 88 12 [(0, .ref 67), (1, .int (Int32.ofInt x1)), (2, .int (Int32.ofInt x2)), (3, .int (Int32.ofInt x3))] [] s (lf_qv Q)) (h : fm_88_p153 X12 Q x1 x2 x3 s) : lf_E (px_ro L xs) (d + 4) 88 153 [(0, .ref 67), (1, .int (Int32.ofInt x1)), (2, .int (Int32.ofInt x2)), (3, .int (Int32.ofInt x3))] [] s (lf_qv Q) := by
  unfold fm_88_p153 at h
  refine lf_iinc 156 rfl rfl rfl rfl ?_
  refine lf_seg 1 (pc' := 12) (lv' := [(3, .int (Int32.ofInt (x3 + 1))), (0, .ref 67), (1, .int (Int32.ofInt x1)), (2, .int (Int32.ofInt x2))]) (st' := []) rfl ?_
  refine lf_sub (l := [(0, .ref 67), (1, .int (Int32.ofInt x1)), (2, .int (Int32.ofInt x2)), (3, .int (Int32.ofInt (x3 + 1)))]) (lf_sb1 rfl (lf_sb1 rfl (lf_sb1 rfl (lf_sb1 rfl lf_sb0)))) ?_
  exact hX12 _ _ h
def fm_88_p99 (X12 : Int → lf_Z → Prop) (Q : lf_Z → Prop) (x1 : Int) (x2 : Int) (x3 : Int) (x4 : Int) (x5 : Int) (y0 : Int) (s : lf_Z) : Prop := (0 ≤ x1 ∧ x1 < 4) ∧ (fm_91 (s.1 16 x1) x2 x4 y0 0 0 (fun r39 s38 => (fm_92 r39 (fun z41 s40 => ((z41 = false → (fm_88_p153 X12 Q x1 x2 x3 s40)) ∧ (z41 = true → (Q (lf_up (lf_up s40.1 18 x1 x2) 17 x1 x5, s40.2.1, s40.2.2))))) s38)) s)
set_option maxRecDepth 100000 in
theorem gm_88_p99 {L : Nat} {xs : Nat → Int32} {d : Nat} {X12 : Int → lf_Z → Prop} {Q : lf_Z → Prop} {x1 : Int} {x2 : Int} {x3 : Int} {x4 : Int} {x5 : Int} {y0 : Int} {s : lf_Z} (hX12 : ∀ x3 s, X12 x3 s → lf_E (px_ro L xs) (d + 4) 88 12 [(0, .ref 67), (1, .int (Int32.ofInt x1)), (2, .int (Int32.ofInt x2)), (3, .int (Int32.ofInt x3))] [] s (lf_qv Q)) (h : fm_88_p99 X12 Q x1 x2 x3 x4 x5 y0 s) : lf_E (px_ro L xs) (d + 4) 88 99 [(0, .ref 67), (1, .int (Int32.ofInt x1)), (2, .int (Int32.ofInt x2)), (3, .int (Int32.ofInt x3)), (4, .int (Int32.ofInt x4)), (5, .int (Int32.ofInt x5))] [.int (Int32.ofInt y0)] s (lf_qv Q) := by
  unfold fm_88_p99 at h
  refine lf_seg 6 (pc' := 110) (lv' := [(6, .int (Int32.ofInt y0)), (0, .ref 67), (1, .int (Int32.ofInt x1)), (2, .int (Int32.ofInt x2)), (3, .int (Int32.ofInt x3)), (4, .int (Int32.ofInt x4)), (5, .int (Int32.ofInt x5))]) (st' := [.ref 15, .ref 63, .ref 67]) rfl ?_
  refine lf_seg 2 (pc' := 114) (lv' := [(6, .int (Int32.ofInt y0)), (0, .ref 67), (1, .int (Int32.ofInt x1)), (2, .int (Int32.ofInt x2)), (3, .int (Int32.ofInt x3)), (4, .int (Int32.ofInt x4)), (5, .int (Int32.ofInt x5))]) (st' := [.int (Int32.ofInt x1), .ref 16, .ref 63, .ref 67]) rfl ?_
  obtain ⟨o37, h⟩ := h
  refine lf_iald 115 4 rfl rfl rfl rfl rfl rfl o37 ?_
  refine lf_seg 5 (pc' := 122) (lv' := [(6, .int (Int32.ofInt y0)), (0, .ref 67), (1, .int (Int32.ofInt x1)), (2, .int (Int32.ofInt x2)), (3, .int (Int32.ofInt x3)), (4, .int (Int32.ofInt x4)), (5, .int (Int32.ofInt x5))]) (st' := [.int (Int32.ofInt 0), .int (Int32.ofInt 0), .int (Int32.ofInt y0), .int (Int32.ofInt x4), .int (Int32.ofInt x2), .int (Int32.ofInt (s.1 16 x1)), .ref 63, .ref 67]) rfl ?_
  refine lf_callI 125 rfl rfl rfl rfl (gm_91 h) (fun r39 s38 h => ?_)
  refine lf_callZ 128 rfl rfl rfl rfl (gm_92 h) (fun z41 s40 h => ?_)
  refine lf_ifz_eq 153 131 rfl rfl rfl (fun c => ?_) (fun c => ?_)
  · have h := h.1 c
    refine lf_sub (l := [(0, .ref 67), (1, .int (Int32.ofInt x1)), (2, .int (Int32.ofInt x2)), (3, .int (Int32.ofInt x3))]) (lf_sb1 rfl (lf_sb1 rfl (lf_sb1 rfl (lf_sb1 rfl lf_sb0)))) ?_
    exact gm_88_p153 hX12 h
  · have h := h.2 c
    refine lf_seg 5 (pc' := 140) (lv' := [(6, .int (Int32.ofInt y0)), (0, .ref 67), (1, .int (Int32.ofInt x1)), (2, .int (Int32.ofInt x2)), (3, .int (Int32.ofInt x3)), (4, .int (Int32.ofInt x4)), (5, .int (Int32.ofInt x5))]) (st' := [.int (Int32.ofInt x2), .int (Int32.ofInt x1), .ref 18]) rfl ?_
    refine lf_iast 141 4 rfl rfl rfl rfl rfl rfl o37 ?_
    refine lf_as (lf_up s40.1 18 x1 x2, s40.2.1, s40.2.2) rfl ?_
    refine lf_seg 5 (pc' := 151) (lv' := [(6, .int (Int32.ofInt y0)), (0, .ref 67), (1, .int (Int32.ofInt x1)), (2, .int (Int32.ofInt x2)), (3, .int (Int32.ofInt x3)), (4, .int (Int32.ofInt x4)), (5, .int (Int32.ofInt x5))]) (st' := [.int (Int32.ofInt x5), .int (Int32.ofInt x1), .ref 17]) rfl ?_
    refine lf_iast 152 4 rfl rfl rfl rfl rfl rfl o37 ?_
    refine lf_as (lf_up (lf_up s40.1 18 x1 x2) 17 x1 x5, s40.2.1, s40.2.2) rfl ?_
    exact lf_retV rfl rfl h
def fm_88_p12 (Q : lf_Z → Prop) (x1 : Int) (x2 : Int) (X12 : Int → lf_Z → Prop) (x3 : Int) (s : lf_Z) : Prop := fm_76 x2 (fun r23 s22 => (lf_R x3 ∧ (lf_R r23 ∧ ((r23 ≤ x3 → (Q s22)) ∧ (¬ (r23 ≤ x3) → (fm_77 x2 x3 (fun r27 s26 => (fm_78 r27 x2 (fun r29 s28 => (lf_R r29 ∧ ((r29 = (-1) → (fm_88_p153 X12 Q x1 x2 x3 s28)) ∧ (¬ (r29 = (-1)) → (fm_89 r27 (fun z32 s31 => ((z32 = false → (fm_88_p153 X12 Q x1 x2 x3 s31)) ∧ (z32 = true → (fm_90 r27 (fun z34 s33 => ((z34 = true → ((0 ≤ x1 ∧ x1 < 4) ∧ (lf_R (s33.1 18 x1) ∧ ((s33.1 18 x1 ≠ r29 → (fm_88_p99 X12 Q x1 x2 x3 r27 r29 0 s33)) ∧ (¬ (s33.1 18 x1 ≠ r29) → (fm_88_p99 X12 Q x1 x2 x3 r27 r29 1 s33)))))) ∧ (z34 = false → (fm_88_p153 X12 Q x1 x2 x3 s33)))) s31)))) s28))))) s26)) s22)))))) s
def fm_88_p12L (Q : lf_Z → Prop) (x1 : Int) (x2 : Int) (x3 : Int) (s : lf_Z) : Prop := ∀ X12 : Int → lf_Z → Prop, (∀ (x3 : Int) (s : lf_Z), fm_88_p12 Q x1 x2 X12 x3 s → X12 x3 s) → X12 x3 s
set_option maxRecDepth 100000 in
theorem gm_88_p12 {L : Nat} {xs : Nat → Int32} {d : Nat} {Q : lf_Z → Prop} {x1 : Int} {x2 : Int} {x3 : Int} {s : lf_Z} {X12 : Int → lf_Z → Prop} (hX12 : ∀ x3 s, X12 x3 s → lf_E (px_ro L xs) (d + 4) 88 12 [(0, .ref 67), (1, .int (Int32.ofInt x1)), (2, .int (Int32.ofInt x2)), (3, .int (Int32.ofInt x3))] [] s (lf_qv Q)) (h : fm_88_p12 Q x1 x2 X12 x3 s) : lf_E (px_ro L xs) (d + 4) 88 12 [(0, .ref 67), (1, .int (Int32.ofInt x1)), (2, .int (Int32.ofInt x2)), (3, .int (Int32.ofInt x3))] [] s (lf_qv Q) := by
  unfold fm_88_p12 at h
  refine lf_seg 4 (pc' := 18) (lv' := [(0, .ref 67), (1, .int (Int32.ofInt x1)), (2, .int (Int32.ofInt x2)), (3, .int (Int32.ofInt x3))]) (st' := [.int (Int32.ofInt x2), .ref 1, .int (Int32.ofInt x3)]) rfl ?_
  refine lf_callI 21 rfl rfl rfl rfl (gm_76 h) (fun r23 s22 h => ?_)
  obtain ⟨o24, h⟩ := h
  obtain ⟨o25, h⟩ := h
  refine lf_icmp_ge 159 24 rfl rfl rfl o24 o25 (fun c => ?_) (fun c => ?_)
  · have h := h.1 c
    exact lf_retV rfl rfl h
  · have h := h.2 c
    refine lf_seg 4 (pc' := 30) (lv' := [(0, .ref 67), (1, .int (Int32.ofInt x1)), (2, .int (Int32.ofInt x2)), (3, .int (Int32.ofInt x3))]) (st' := [.int (Int32.ofInt x3), .int (Int32.ofInt x2), .ref 1]) rfl ?_
    refine lf_callI 33 rfl rfl rfl rfl (gm_77 h) (fun r27 s26 h => ?_)
    refine lf_seg 5 (pc' := 42) (lv' := [(4, .int (Int32.ofInt r27)), (0, .ref 67), (1, .int (Int32.ofInt x1)), (2, .int (Int32.ofInt x2)), (3, .int (Int32.ofInt x3))]) (st' := [.int (Int32.ofInt x2), .int (Int32.ofInt r27), .ref 1]) rfl ?_
    refine lf_callI 45 rfl rfl rfl rfl (gm_78 h) (fun r29 s28 h => ?_)
    refine lf_seg 3 (pc' := 50) (lv' := [(5, .int (Int32.ofInt r29)), (4, .int (Int32.ofInt r27)), (0, .ref 67), (1, .int (Int32.ofInt x1)), (2, .int (Int32.ofInt x2)), (3, .int (Int32.ofInt x3))]) (st' := [.int (Int32.ofInt (-1)), .int (Int32.ofInt r29)]) rfl ?_
    obtain ⟨o30, h⟩ := h
    refine lf_icmp_eq 153 53 rfl rfl rfl o30 ⟨by decide, by decide⟩ (fun c => ?_) (fun c => ?_)
    · have h := h.1 c
      refine lf_sub (l := [(0, .ref 67), (1, .int (Int32.ofInt x1)), (2, .int (Int32.ofInt x2)), (3, .int (Int32.ofInt x3))]) (lf_sb1 rfl (lf_sb1 rfl (lf_sb1 rfl (lf_sb1 rfl lf_sb0)))) ?_
      exact gm_88_p153 hX12 h
    · have h := h.2 c
      refine lf_seg 3 (pc' := 59) (lv' := [(5, .int (Int32.ofInt r29)), (4, .int (Int32.ofInt r27)), (0, .ref 67), (1, .int (Int32.ofInt x1)), (2, .int (Int32.ofInt x2)), (3, .int (Int32.ofInt x3))]) (st' := [.int (Int32.ofInt r27), .ref 1]) rfl ?_
      refine lf_callZ 62 rfl rfl rfl rfl (gm_89 h) (fun z32 s31 h => ?_)
      refine lf_ifz_eq 153 65 rfl rfl rfl (fun c => ?_) (fun c => ?_)
      · have h := h.1 c
        refine lf_sub (l := [(0, .ref 67), (1, .int (Int32.ofInt x1)), (2, .int (Int32.ofInt x2)), (3, .int (Int32.ofInt x3))]) (lf_sb1 rfl (lf_sb1 rfl (lf_sb1 rfl (lf_sb1 rfl lf_sb0)))) ?_
        exact gm_88_p153 hX12 h
      · have h := h.2 c
        refine lf_seg 3 (pc' := 71) (lv' := [(5, .int (Int32.ofInt r29)), (4, .int (Int32.ofInt r27)), (0, .ref 67), (1, .int (Int32.ofInt x1)), (2, .int (Int32.ofInt x2)), (3, .int (Int32.ofInt x3))]) (st' := [.int (Int32.ofInt r27), .ref 15]) rfl ?_
        refine lf_callZ 74 rfl rfl rfl rfl (gm_90 h) (fun z34 s33 h => ?_)
        refine lf_ifz_ne 80 77 rfl rfl rfl (fun c => ?_) (fun c => ?_)
        · have h := h.1 c
          refine lf_seg 4 (pc' := 88) (lv' := [(5, .int (Int32.ofInt r29)), (4, .int (Int32.ofInt r27)), (0, .ref 67), (1, .int (Int32.ofInt x1)), (2, .int (Int32.ofInt x2)), (3, .int (Int32.ofInt x3))]) (st' := [.int (Int32.ofInt x1), .ref 18]) rfl ?_
          obtain ⟨o35, h⟩ := h
          refine lf_iald 89 4 rfl rfl rfl rfl rfl rfl o35 ?_
          refine lf_seg 1 (pc' := 91) (lv' := [(5, .int (Int32.ofInt r29)), (4, .int (Int32.ofInt r27)), (0, .ref 67), (1, .int (Int32.ofInt x1)), (2, .int (Int32.ofInt x2)), (3, .int (Int32.ofInt x3))]) (st' := [.int (Int32.ofInt r29), .int (Int32.ofInt (s33.1 18 x1))]) rfl ?_
          obtain ⟨o36, h⟩ := h
          refine lf_icmp_ne 98 94 rfl rfl rfl o36 o30 (fun c => ?_) (fun c => ?_)
          · have h := h.1 c
            refine lf_seg 1 (pc' := 99) (lv' := [(5, .int (Int32.ofInt r29)), (4, .int (Int32.ofInt r27)), (0, .ref 67), (1, .int (Int32.ofInt x1)), (2, .int (Int32.ofInt x2)), (3, .int (Int32.ofInt x3))]) (st' := [.int (Int32.ofInt 0)]) rfl ?_
            refine lf_sub (l := [(0, .ref 67), (1, .int (Int32.ofInt x1)), (2, .int (Int32.ofInt x2)), (3, .int (Int32.ofInt x3)), (4, .int (Int32.ofInt r27)), (5, .int (Int32.ofInt r29))]) (lf_sb1 rfl (lf_sb1 rfl (lf_sb1 rfl (lf_sb1 rfl (lf_sb1 rfl (lf_sb1 rfl lf_sb0)))))) ?_
            exact gm_88_p99 hX12 h
          · have h := h.2 c
            refine lf_seg 2 (pc' := 99) (lv' := [(5, .int (Int32.ofInt r29)), (4, .int (Int32.ofInt r27)), (0, .ref 67), (1, .int (Int32.ofInt x1)), (2, .int (Int32.ofInt x2)), (3, .int (Int32.ofInt x3))]) (st' := [.int (Int32.ofInt 1)]) rfl ?_
            refine lf_sub (l := [(0, .ref 67), (1, .int (Int32.ofInt x1)), (2, .int (Int32.ofInt x2)), (3, .int (Int32.ofInt x3)), (4, .int (Int32.ofInt r27)), (5, .int (Int32.ofInt r29))]) (lf_sb1 rfl (lf_sb1 rfl (lf_sb1 rfl (lf_sb1 rfl (lf_sb1 rfl (lf_sb1 rfl lf_sb0)))))) ?_
            exact gm_88_p99 hX12 h
        · have h := h.2 c
          refine lf_seg 1 (pc' := 153) (lv' := [(5, .int (Int32.ofInt r29)), (4, .int (Int32.ofInt r27)), (0, .ref 67), (1, .int (Int32.ofInt x1)), (2, .int (Int32.ofInt x2)), (3, .int (Int32.ofInt x3))]) (st' := []) rfl ?_
          refine lf_sub (l := [(0, .ref 67), (1, .int (Int32.ofInt x1)), (2, .int (Int32.ofInt x2)), (3, .int (Int32.ofInt x3))]) (lf_sb1 rfl (lf_sb1 rfl (lf_sb1 rfl (lf_sb1 rfl lf_sb0)))) ?_
          exact gm_88_p153 hX12 h
theorem gm_88_p12L {L : Nat} {xs : Nat → Int32} {d : Nat} {Q : lf_Z → Prop} {x1 : Int} {x2 : Int} {x3 : Int} {s : lf_Z} (h : fm_88_p12L Q x1 x2 x3 s) : lf_E (px_ro L xs) (d + 4) 88 12 [(0, .ref 67), (1, .int (Int32.ofInt x1)), (2, .int (Int32.ofInt x2)), (3, .int (Int32.ofInt x3))] [] s (lf_qv Q) :=
  h (fun x3 s => lf_E (px_ro L xs) (d + 4) 88 12 [(0, .ref 67), (1, .int (Int32.ofInt x1)), (2, .int (Int32.ofInt x2)), (3, .int (Int32.ofInt x3))] [] s (lf_qv Q)) (fun x3 s hb => gm_88_p12 (fun _ _ h => h) hb)
def fm_88 (a1 : Int) (Q : lf_Z → Prop) (s : lf_Z) : Prop := (0 ≤ a1 ∧ a1 < 4) ∧ (fm_88_p12L Q a1 (s.1 17 a1) 0 s)
set_option maxRecDepth 100000 in
theorem gm_88 {L : Nat} {xs : Nat → Int32} {d : Nat} {a1 : Int} {Q : lf_Z → Prop} {s : lf_Z} (h : fm_88 a1 Q s) : lf_M (px_ro L xs) (d + 4) 88 [.ref 67, .int (Int32.ofInt a1)] s (lf_qv Q) := by
  unfold fm_88 at h
  show lf_E (px_ro L xs) (d + 4) 88 0 [(0, .ref 67), (1, .int (Int32.ofInt a1))] [] s _
  refine lf_seg 4 (pc' := 8) (lv' := [(0, .ref 67), (1, .int (Int32.ofInt a1))]) (st' := [.int (Int32.ofInt a1), .ref 17]) rfl ?_
  obtain ⟨o21, h⟩ := h
  refine lf_iald 9 4 rfl rfl rfl rfl rfl rfl o21 ?_
  refine lf_seg 3 (pc' := 12) (lv' := [(3, .int (Int32.ofInt 0)), (2, .int (Int32.ofInt (s.1 17 a1))), (0, .ref 67), (1, .int (Int32.ofInt a1))]) (st' := []) rfl ?_
  refine lf_sub (l := [(0, .ref 67), (1, .int (Int32.ofInt a1)), (2, .int (Int32.ofInt (s.1 17 a1))), (3, .int (Int32.ofInt 0))]) (lf_sb1 rfl (lf_sb1 rfl (lf_sb1 rfl (lf_sb1 rfl lf_sb0)))) ?_
  exact gm_88_p12L h
-- fm_81 Laws.paceOf 63 i
def fm_81_p89 (Q : Int → lf_Z → Prop) (y1 : Int) (y2 : Int) (s : lf_Z) : Prop := (0 ≤ y1 ∧ y1 < 11) ∧ ((s.2.2 3 = none → (fm_84 0 (fun r35 s34 => (fm_55 r35 0 2 (fun r37 s36 => (Q r37 s36)) s34)) (lf_up s.1 64 y1 y2, s.2.1, s.2.2))) ∧ (∀ t33 : Nat, s.2.2 3 = some t33 → t33 < 4 ∧ (fm_84b t33 0 (fun r39 s38 => (fm_55 r39 0 2 (fun r41 s40 => (Q r41 s40)) s38)) (lf_up s.1 64 y1 y2, s.2.1, s.2.2))))
set_option maxRecDepth 100000 in
theorem gm_81_p89 {L : Nat} {xs : Nat → Int32} {d : Nat} {Q : Int → lf_Z → Prop} {y1 : Int} {y2 : Int} {s : lf_Z} (h : fm_81_p89 Q y1 y2 s) : lf_E (px_ro L xs) (d + 3) 81 89 [(0, .ref 63)] [.int (Int32.ofInt y2), .int (Int32.ofInt y1), .ref 64] s (lf_qi Q) := by
  unfold fm_81_p89 at h
  obtain ⟨o32, h⟩ := h
  refine lf_iast 90 11 rfl rfl rfl rfl rfl rfl o32 ?_
  refine lf_as (lf_up s.1 64 y1 y2, s.2.1, s.2.2) rfl ?_
  refine lf_seg 2 (pc' := 92) (lv' := [(0, .ref 63)]) (st' := [.ref 63, .ref 63]) rfl ?_
  cases et33 : s.2.2 3 with
  | none =>
    have h := h.1 et33
    refine lf_getR 95 (w := none) rfl rfl rfl rfl rfl rfl (congrArg (Option.map (fun t => 35 + 7 * t)) et33) ?_
    refine lf_seg 1 (pc' := 96) (lv' := [(0, .ref 63)]) (st' := [.int (Int32.ofInt 0), .null, .ref 63]) rfl ?_
    refine lf_callI 99 rfl rfl rfl rfl (gm_84 h) (fun r35 s34 h => ?_)
    refine lf_seg 2 (pc' := 101) (lv' := [(0, .ref 63)]) (st' := [.int (Int32.ofInt 2), .int (Int32.ofInt 0), .int (Int32.ofInt r35)]) rfl ?_
    refine lf_callI 104 rfl rfl rfl rfl (gm_55 h) (fun r37 s36 h => ?_)
    exact lf_retI rfl rfl h
  | some t33 =>
    obtain ⟨htt33, h⟩ := h.2 t33 et33
    refine lf_getR 95 (w := some (35 + 7 * t33)) rfl rfl rfl rfl rfl rfl (congrArg (Option.map (fun t => 35 + 7 * t)) et33) ?_
    refine lf_seg 1 (pc' := 96) (lv' := [(0, .ref 63)]) (st' := [.int (Int32.ofInt 0), .ref (35 + 7 * t33), .ref 63]) rfl ?_
    refine lf_callI 99 rfl rfl rfl rfl (gm_84b htt33 h) (fun r39 s38 h => ?_)
    refine lf_seg 2 (pc' := 101) (lv' := [(0, .ref 63)]) (st' := [.int (Int32.ofInt 2), .int (Int32.ofInt 0), .int (Int32.ofInt r39)]) rfl ?_
    refine lf_callI 104 rfl rfl rfl rfl (gm_55 h) (fun r41 s40 h => ?_)
    exact lf_retI rfl rfl h
def fm_81 (a1 : Int) (Q : Int → lf_Z → Prop) (s : lf_Z) : Prop := (s.2.2 3 = none → (Q 1 s)) ∧ (∀ t21 : Nat, s.2.2 3 = some t21 → t21 < 4 ∧ ((s.2.2 3 = none → (False)) ∧ (∀ t22 : Nat, s.2.2 3 = some t22 → t22 < 4 ∧ (fm_40 t22 0 (fun z24 s23 => ((z24 = false → (Q 1 s23)) ∧ (z24 = true → (fm_80 a1 (fun z26 s25 => ((z26 = true → ((0 ≤ a1 ∧ a1 < 4) ∧ (fm_82 (s25.1 16 a1) (s25.1 17 a1) 0 (fun s28 => (lf_R (s28.1 18 a1) ∧ ((s28.1 18 a1 ≠ (-1) → (fm_83 (s28.1 18 a1) (fun r31 s30 => (fm_81_p89 Q 4 r31 s30)) s28)) ∧ (¬ (s28.1 18 a1 ≠ (-1)) → (fm_81_p89 Q 4 0 s28))))) s25))) ∧ (z26 = false → (Q 1 s25)))) s23)))) s))))
set_option maxRecDepth 100000 in
theorem gm_81 {L : Nat} {xs : Nat → Int32} {d : Nat} {a1 : Int} {Q : Int → lf_Z → Prop} {s : lf_Z} (h : fm_81 a1 Q s) : lf_M (px_ro L xs) (d + 3) 81 [.ref 63, .int (Int32.ofInt a1)] s (lf_qi Q) := by
  unfold fm_81 at h
  show lf_E (px_ro L xs) (d + 3) 81 0 [(0, .ref 63), (1, .int (Int32.ofInt a1))] [] s _
  refine lf_seg 1 (pc' := 1) (lv' := [(0, .ref 63), (1, .int (Int32.ofInt a1))]) (st' := [.ref 63]) rfl ?_
  cases et21 : s.2.2 3 with
  | none =>
    have h := h.1 et21
    refine lf_getR 4 (w := none) rfl rfl rfl rfl rfl rfl (congrArg (Option.map (fun t => 35 + 7 * t)) et21) ?_
    refine lf_null_t 29 rfl rfl ?_
    refine lf_seg 1 (pc' := 30) (lv' := [(0, .ref 63), (1, .int (Int32.ofInt a1))]) (st' := [.int (Int32.ofInt 1)]) rfl ?_
    exact lf_retI rfl rfl h
  | some t21 =>
    obtain ⟨htt21, h⟩ := h.2 t21 et21
    refine lf_getR 4 (w := some (35 + 7 * t21)) rfl rfl rfl rfl rfl rfl (congrArg (Option.map (fun t => 35 + 7 * t)) et21) ?_
    refine lf_null_f 7 rfl rfl ?_
    refine lf_seg 1 (pc' := 8) (lv' := [(0, .ref 63), (1, .int (Int32.ofInt a1))]) (st' := [.ref 63]) rfl ?_
    cases et22 : s.2.2 3 with
    | none =>
      have h := h.1 et22
      refine lf_getR 11 (w := none) rfl rfl rfl rfl rfl rfl (congrArg (Option.map (fun t => 35 + 7 * t)) et22) ?_
      refine lf_seg 1 (pc' := 12) (lv' := [(0, .ref 63), (1, .int (Int32.ofInt a1))]) (st' := [.int (Int32.ofInt 0), .null]) rfl ?_
      exact h.elim
    | some t22 =>
      obtain ⟨htt22, h⟩ := h.2 t22 et22
      refine lf_getR 11 (w := some (35 + 7 * t22)) rfl rfl rfl rfl rfl rfl (congrArg (Option.map (fun t => 35 + 7 * t)) et22) ?_
      refine lf_seg 1 (pc' := 12) (lv' := [(0, .ref 63), (1, .int (Int32.ofInt a1))]) (st' := [.int (Int32.ofInt 0), .ref (35 + 7 * t22)]) rfl ?_
      refine lf_callZ 15 rfl rfl (lf_invT htt22 rfl rfl rfl rfl) rfl (gm_40 htt22 h) (fun z24 s23 h => ?_)
      refine lf_ifz_eq 29 18 rfl rfl rfl (fun c => ?_) (fun c => ?_)
      · have h := h.1 c
        refine lf_seg 1 (pc' := 30) (lv' := [(0, .ref 63), (1, .int (Int32.ofInt a1))]) (st' := [.int (Int32.ofInt 1)]) rfl ?_
        exact lf_retI rfl rfl h
      · have h := h.2 c
        refine lf_seg 3 (pc' := 23) (lv' := [(0, .ref 63), (1, .int (Int32.ofInt a1))]) (st' := [.int (Int32.ofInt a1), .ref 15]) rfl ?_
        refine lf_callZ 26 rfl rfl rfl rfl (gm_80 h) (fun z26 s25 h => ?_)
        refine lf_ifz_ne 31 29 rfl rfl rfl (fun c => ?_) (fun c => ?_)
        · have h := h.1 c
          refine lf_seg 5 (pc' := 40) (lv' := [(0, .ref 63), (1, .int (Int32.ofInt a1))]) (st' := [.int (Int32.ofInt a1), .ref 16, .ref 63]) rfl ?_
          obtain ⟨o27, h⟩ := h
          refine lf_iald 41 4 rfl rfl rfl rfl rfl rfl o27 ?_
          refine lf_seg 4 (pc' := 49) (lv' := [(0, .ref 63), (1, .int (Int32.ofInt a1))]) (st' := [.int (Int32.ofInt a1), .ref 17, .int (Int32.ofInt (s25.1 16 a1)), .ref 63]) rfl ?_
          refine lf_iald 50 4 rfl rfl rfl rfl rfl rfl o27 ?_
          refine lf_seg 1 (pc' := 51) (lv' := [(0, .ref 63), (1, .int (Int32.ofInt a1))]) (st' := [.int (Int32.ofInt 0), .int (Int32.ofInt (s25.1 17 a1)), .int (Int32.ofInt (s25.1 16 a1)), .ref 63]) rfl ?_
          refine lf_callV 54 rfl rfl rfl rfl (gm_82 h) (fun s28 h => ?_)
          refine lf_seg 6 (pc' := 66) (lv' := [(0, .ref 63), (1, .int (Int32.ofInt a1))]) (st' := [.ref 18, .int (Int32.ofInt 4), .ref 64]) rfl ?_
          refine lf_seg 1 (pc' := 67) (lv' := [(0, .ref 63), (1, .int (Int32.ofInt a1))]) (st' := [.int (Int32.ofInt a1), .ref 18, .int (Int32.ofInt 4), .ref 64]) rfl ?_
          refine lf_iald 68 4 rfl rfl rfl rfl rfl rfl o27 ?_
          refine lf_seg 1 (pc' := 69) (lv' := [(0, .ref 63), (1, .int (Int32.ofInt a1))]) (st' := [.int (Int32.ofInt (-1)), .int (Int32.ofInt (s28.1 18 a1)), .int (Int32.ofInt 4), .ref 64]) rfl ?_
          obtain ⟨o29, h⟩ := h
          refine lf_icmp_ne 76 72 rfl rfl rfl o29 ⟨by decide, by decide⟩ (fun c => ?_) (fun c => ?_)
          · have h := h.1 c
            refine lf_seg 5 (pc' := 85) (lv' := [(0, .ref 63), (1, .int (Int32.ofInt a1))]) (st' := [.int (Int32.ofInt a1), .ref 18, .ref 63, .int (Int32.ofInt 4), .ref 64]) rfl ?_
            refine lf_iald 86 4 rfl rfl rfl rfl rfl rfl o27 ?_
            refine lf_callI 89 rfl rfl rfl rfl (gm_83 h) (fun r31 s30 h => ?_)
            refine lf_sub (l := [(0, .ref 63)]) (lf_sb1 rfl lf_sb0) ?_
            exact gm_81_p89 h
          · have h := h.2 c
            refine lf_seg 2 (pc' := 89) (lv' := [(0, .ref 63), (1, .int (Int32.ofInt a1))]) (st' := [.int (Int32.ofInt 0), .int (Int32.ofInt 4), .ref 64]) rfl ?_
            refine lf_sub (l := [(0, .ref 63)]) (lf_sb1 rfl lf_sb0) ?_
            exact gm_81_p89 h
        · have h := h.2 c
          refine lf_seg 1 (pc' := 30) (lv' := [(0, .ref 63), (1, .int (Int32.ofInt a1))]) (st' := [.int (Int32.ofInt 1)]) rfl ?_
          exact lf_retI rfl rfl h
-- fm_75 Land.distance 1 i i
def fm_75 (a1 : Int) (a2 : Int) (Q : Int → lf_Z → Prop) (s : lf_Z) : Prop := fm_18 a1 (fun z22 s21 => ((z22 = false → (Q 1000 s21)) ∧ (z22 = true → (fm_18 a2 (fun z24 s23 => ((z24 = false → (Q 1000 s23)) ∧ (z24 = true → ((0 ≤ (a1 * 12) + a2 ∧ (a1 * 12) + a2 < 144) ∧ (Q (s23.1 13 ((a1 * 12) + a2)) s23))))) s21)))) s
set_option maxRecDepth 100000 in
theorem gm_75 {L : Nat} {xs : Nat → Int32} {d : Nat} {a1 : Int} {a2 : Int} {Q : Int → lf_Z → Prop} {s : lf_Z} (h : fm_75 a1 a2 Q s) : lf_M (px_ro L xs) (d + 2) 75 [.ref 1, .int (Int32.ofInt a1), .int (Int32.ofInt a2)] s (lf_qi Q) := by
  unfold fm_75 at h
  show lf_E (px_ro L xs) (d + 2) 75 0 [(0, .ref 1), (1, .int (Int32.ofInt a1)), (2, .int (Int32.ofInt a2))] [] s _
  refine lf_seg 2 (pc' := 2) (lv' := [(0, .ref 1), (1, .int (Int32.ofInt a1)), (2, .int (Int32.ofInt a2))]) (st' := [.int (Int32.ofInt a1), .ref 1]) rfl ?_
  refine lf_callZ 5 rfl rfl rfl rfl (gm_18 h) (fun z22 s21 h => ?_)
  refine lf_ifz_eq 30 8 rfl rfl rfl (fun c => ?_) (fun c => ?_)
  · have h := h.1 c
    refine lf_sipush 33 1000 rfl rfl (by decide) (by decide) ?_
    exact lf_retI rfl rfl h
  · have h := h.2 c
    refine lf_seg 2 (pc' := 10) (lv' := [(0, .ref 1), (1, .int (Int32.ofInt a1)), (2, .int (Int32.ofInt a2))]) (st' := [.int (Int32.ofInt a2), .ref 1]) rfl ?_
    refine lf_callZ 13 rfl rfl rfl rfl (gm_18 h) (fun z24 s23 h => ?_)
    refine lf_ifz_eq 30 16 rfl rfl rfl (fun c => ?_) (fun c => ?_)
    · have h := h.1 c
      refine lf_sipush 33 1000 rfl rfl (by decide) (by decide) ?_
      exact lf_retI rfl rfl h
    · have h := h.2 c
      refine lf_seg 3 (pc' := 21) (lv' := [(0, .ref 1), (1, .int (Int32.ofInt a1)), (2, .int (Int32.ofInt a2))]) (st' := [.int (Int32.ofInt a1), .ref 13]) rfl ?_
      refine lf_bipush 23 12 rfl rfl (by decide) (by decide) ?_
      refine lf_imul 24 rfl rfl ?_
      refine lf_seg 1 (pc' := 25) (lv' := [(0, .ref 1), (1, .int (Int32.ofInt a1)), (2, .int (Int32.ofInt a2))]) (st' := [.int (Int32.ofInt a2), .int (Int32.ofInt (a1 * 12)), .ref 13]) rfl ?_
      refine lf_iadd 26 rfl rfl ?_
      obtain ⟨o25, h⟩ := h
      refine lf_iald 27 144 rfl rfl rfl rfl rfl rfl o25 ?_
      refine lf_seg 1 (pc' := 33) (lv' := [(0, .ref 1), (1, .int (Int32.ofInt a1)), (2, .int (Int32.ofInt a2))]) (st' := [.int (Int32.ofInt (s23.1 13 ((a1 * 12) + a2)))]) rfl ?_
      exact lf_retI rfl rfl h
-- fm_74 Land.nextTowards 1 i i
def fm_74_p73 (X13 : Int → Int → lf_Z → Prop) (Q : Int → lf_Z → Prop) (x1 : Int) (x2 : Int) (x3 : Int) (x4 : Int) (x5 : Int) (s : lf_Z) : Prop := X13 x3 (x5 + 1) s
set_option maxRecDepth 100000 in
theorem gm_74_p73 {L : Nat} {xs : Nat → Int32} {d : Nat} {X13 : Int → Int → lf_Z → Prop} {Q : Int → lf_Z → Prop} {x1 : Int} {x2 : Int} {x3 : Int} {x4 : Int} {x5 : Int} {s : lf_Z} (hX13 : ∀ x3 x5 s, X13 x3 x5 s → lf_E (px_ro L xs) (d + 3) 74 13 [(0, .ref 1), (1, .int (Int32.ofInt x1)), (2, .int (Int32.ofInt x2)), (3, .int (Int32.ofInt x3)), (4, .int (Int32.ofInt x4)), (5, .int (Int32.ofInt x5))] [] s (lf_qi Q)) (h : fm_74_p73 X13 Q x1 x2 x3 x4 x5 s) : lf_E (px_ro L xs) (d + 3) 74 73 [(0, .ref 1), (1, .int (Int32.ofInt x1)), (2, .int (Int32.ofInt x2)), (3, .int (Int32.ofInt x3)), (4, .int (Int32.ofInt x4)), (5, .int (Int32.ofInt x5))] [] s (lf_qi Q) := by
  unfold fm_74_p73 at h
  refine lf_iinc 76 rfl rfl rfl rfl ?_
  refine lf_seg 1 (pc' := 13) (lv' := [(5, .int (Int32.ofInt (x5 + 1))), (0, .ref 1), (1, .int (Int32.ofInt x1)), (2, .int (Int32.ofInt x2)), (3, .int (Int32.ofInt x3)), (4, .int (Int32.ofInt x4))]) (st' := []) rfl ?_
  refine lf_sub (l := [(0, .ref 1), (1, .int (Int32.ofInt x1)), (2, .int (Int32.ofInt x2)), (3, .int (Int32.ofInt x3)), (4, .int (Int32.ofInt x4)), (5, .int (Int32.ofInt (x5 + 1)))]) (lf_sb1 rfl (lf_sb1 rfl (lf_sb1 rfl (lf_sb1 rfl (lf_sb1 rfl (lf_sb1 rfl lf_sb0)))))) ?_
  exact hX13 _ _ _ h
def fm_74_p70 (X13 : Int → Int → lf_Z → Prop) (Q : Int → lf_Z → Prop) (x1 : Int) (x2 : Int) (x4 : Int) (x5 : Int) (x6 : Int) (s : lf_Z) : Prop := fm_74_p73 X13 Q x1 x2 x6 x4 x5 s
set_option maxRecDepth 100000 in
theorem gm_74_p70 {L : Nat} {xs : Nat → Int32} {d : Nat} {X13 : Int → Int → lf_Z → Prop} {Q : Int → lf_Z → Prop} {x1 : Int} {x2 : Int} {x4 : Int} {x5 : Int} {x6 : Int} {s : lf_Z} (hX13 : ∀ x3 x5 s, X13 x3 x5 s → lf_E (px_ro L xs) (d + 3) 74 13 [(0, .ref 1), (1, .int (Int32.ofInt x1)), (2, .int (Int32.ofInt x2)), (3, .int (Int32.ofInt x3)), (4, .int (Int32.ofInt x4)), (5, .int (Int32.ofInt x5))] [] s (lf_qi Q)) (h : fm_74_p70 X13 Q x1 x2 x4 x5 x6 s) : lf_E (px_ro L xs) (d + 3) 74 70 [(0, .ref 1), (1, .int (Int32.ofInt x1)), (2, .int (Int32.ofInt x2)), (4, .int (Int32.ofInt x4)), (5, .int (Int32.ofInt x5)), (6, .int (Int32.ofInt x6))] [] s (lf_qi Q) := by
  unfold fm_74_p70 at h
  refine lf_seg 2 (pc' := 73) (lv' := [(3, .int (Int32.ofInt x6)), (0, .ref 1), (1, .int (Int32.ofInt x1)), (2, .int (Int32.ofInt x2)), (4, .int (Int32.ofInt x4)), (5, .int (Int32.ofInt x5)), (6, .int (Int32.ofInt x6))]) (st' := []) rfl ?_
  refine lf_sub (l := [(0, .ref 1), (1, .int (Int32.ofInt x1)), (2, .int (Int32.ofInt x2)), (3, .int (Int32.ofInt x6)), (4, .int (Int32.ofInt x4)), (5, .int (Int32.ofInt x5))]) (lf_sb1 rfl (lf_sb1 rfl (lf_sb1 rfl (lf_sb1 rfl (lf_sb1 rfl (lf_sb1 rfl lf_sb0)))))) ?_
  exact gm_74_p73 hX13 h
def fm_74_p13 (Q : Int → lf_Z → Prop) (x1 : Int) (x2 : Int) (x4 : Int) (X13 : Int → Int → lf_Z → Prop) (x3 : Int) (x5 : Int) (s : lf_Z) : Prop := fm_76 x1 (fun r24 s23 => (lf_R x5 ∧ (lf_R r24 ∧ ((r24 ≤ x5 → (Q x3 s23)) ∧ (¬ (r24 ≤ x5) → (lf_R x4 ∧ ((1000 ≤ x4 → (Q x3 s23)) ∧ (¬ (1000 ≤ x4) → (fm_77 x1 x5 (fun r29 s28 => (fm_78 r29 x1 (fun r31 s30 => (fm_75 r31 x2 (fun r33 s32 => (lf_R r33 ∧ (lf_R (x4 - 1) ∧ ((r33 ≠ x4 - 1 → (fm_74_p73 X13 Q x1 x2 x3 x4 x5 s32)) ∧ (¬ (r33 ≠ x4 - 1) → (lf_R x3 ∧ ((x3 = (-1) → (fm_74_p70 X13 Q x1 x2 x4 x5 r31 s32)) ∧ (¬ (x3 = (-1)) → (lf_R r31 ∧ ((x3 ≤ r31 → (fm_74_p73 X13 Q x1 x2 x3 x4 x5 s32)) ∧ (¬ (x3 ≤ r31) → (fm_74_p70 X13 Q x1 x2 x4 x5 r31 s32)))))))))))) s30)) s28)) s23))))))))) s
def fm_74_p13L (Q : Int → lf_Z → Prop) (x1 : Int) (x2 : Int) (x3 : Int) (x4 : Int) (x5 : Int) (s : lf_Z) : Prop := ∀ X13 : Int → Int → lf_Z → Prop, (∀ (x3 : Int) (x5 : Int) (s : lf_Z), fm_74_p13 Q x1 x2 x4 X13 x3 x5 s → X13 x3 x5 s) → X13 x3 x5 s
set_option maxRecDepth 100000 in
theorem gm_74_p13 {L : Nat} {xs : Nat → Int32} {d : Nat} {Q : Int → lf_Z → Prop} {x1 : Int} {x2 : Int} {x3 : Int} {x4 : Int} {x5 : Int} {s : lf_Z} {X13 : Int → Int → lf_Z → Prop} (hX13 : ∀ x3 x5 s, X13 x3 x5 s → lf_E (px_ro L xs) (d + 3) 74 13 [(0, .ref 1), (1, .int (Int32.ofInt x1)), (2, .int (Int32.ofInt x2)), (3, .int (Int32.ofInt x3)), (4, .int (Int32.ofInt x4)), (5, .int (Int32.ofInt x5))] [] s (lf_qi Q)) (h : fm_74_p13 Q x1 x2 x4 X13 x3 x5 s) : lf_E (px_ro L xs) (d + 3) 74 13 [(0, .ref 1), (1, .int (Int32.ofInt x1)), (2, .int (Int32.ofInt x2)), (3, .int (Int32.ofInt x3)), (4, .int (Int32.ofInt x4)), (5, .int (Int32.ofInt x5))] [] s (lf_qi Q) := by
  unfold fm_74_p13 at h
  refine lf_seg 3 (pc' := 17) (lv' := [(0, .ref 1), (1, .int (Int32.ofInt x1)), (2, .int (Int32.ofInt x2)), (3, .int (Int32.ofInt x3)), (4, .int (Int32.ofInt x4)), (5, .int (Int32.ofInt x5))]) (st' := [.int (Int32.ofInt x1), .ref 1, .int (Int32.ofInt x5)]) rfl ?_
  refine lf_callI 20 rfl rfl rfl rfl (gm_76 h) (fun r24 s23 h => ?_)
  obtain ⟨o25, h⟩ := h
  obtain ⟨o26, h⟩ := h
  refine lf_icmp_ge 79 23 rfl rfl rfl o25 o26 (fun c => ?_) (fun c => ?_)
  · have h := h.1 c
    refine lf_seg 1 (pc' := 80) (lv' := [(0, .ref 1), (1, .int (Int32.ofInt x1)), (2, .int (Int32.ofInt x2)), (3, .int (Int32.ofInt x3)), (4, .int (Int32.ofInt x4)), (5, .int (Int32.ofInt x5))]) (st' := [.int (Int32.ofInt x3)]) rfl ?_
    exact lf_retI rfl rfl h
  · have h := h.2 c
    refine lf_seg 1 (pc' := 25) (lv' := [(0, .ref 1), (1, .int (Int32.ofInt x1)), (2, .int (Int32.ofInt x2)), (3, .int (Int32.ofInt x3)), (4, .int (Int32.ofInt x4)), (5, .int (Int32.ofInt x5))]) (st' := [.int (Int32.ofInt x4)]) rfl ?_
    refine lf_sipush 28 1000 rfl rfl (by decide) (by decide) ?_
    obtain ⟨o27, h⟩ := h
    refine lf_icmp_ge 79 31 rfl rfl rfl o27 ⟨by decide, by decide⟩ (fun c => ?_) (fun c => ?_)
    · have h := h.1 c
      refine lf_seg 1 (pc' := 80) (lv' := [(0, .ref 1), (1, .int (Int32.ofInt x1)), (2, .int (Int32.ofInt x2)), (3, .int (Int32.ofInt x3)), (4, .int (Int32.ofInt x4)), (5, .int (Int32.ofInt x5))]) (st' := [.int (Int32.ofInt x3)]) rfl ?_
      exact lf_retI rfl rfl h
    · have h := h.2 c
      refine lf_seg 4 (pc' := 36) (lv' := [(0, .ref 1), (1, .int (Int32.ofInt x1)), (2, .int (Int32.ofInt x2)), (3, .int (Int32.ofInt x3)), (4, .int (Int32.ofInt x4)), (5, .int (Int32.ofInt x5))]) (st' := [.int (Int32.ofInt x5), .int (Int32.ofInt x1), .ref 1, .ref 1]) rfl ?_
      refine lf_callI 39 rfl rfl rfl rfl (gm_77 h) (fun r29 s28 h => ?_)
      refine lf_seg 1 (pc' := 40) (lv' := [(0, .ref 1), (1, .int (Int32.ofInt x1)), (2, .int (Int32.ofInt x2)), (3, .int (Int32.ofInt x3)), (4, .int (Int32.ofInt x4)), (5, .int (Int32.ofInt x5))]) (st' := [.int (Int32.ofInt x1), .int (Int32.ofInt r29), .ref 1]) rfl ?_
      refine lf_callI 43 rfl rfl rfl rfl (gm_78 h) (fun r31 s30 h => ?_)
      refine lf_seg 4 (pc' := 49) (lv' := [(6, .int (Int32.ofInt r31)), (0, .ref 1), (1, .int (Int32.ofInt x1)), (2, .int (Int32.ofInt x2)), (3, .int (Int32.ofInt x3)), (4, .int (Int32.ofInt x4)), (5, .int (Int32.ofInt x5))]) (st' := [.int (Int32.ofInt x2), .int (Int32.ofInt r31), .ref 1]) rfl ?_
      refine lf_callI 52 rfl rfl rfl rfl (gm_75 h) (fun r33 s32 h => ?_)
      refine lf_seg 2 (pc' := 55) (lv' := [(6, .int (Int32.ofInt r31)), (0, .ref 1), (1, .int (Int32.ofInt x1)), (2, .int (Int32.ofInt x2)), (3, .int (Int32.ofInt x3)), (4, .int (Int32.ofInt x4)), (5, .int (Int32.ofInt x5))]) (st' := [.int (Int32.ofInt 1), .int (Int32.ofInt x4), .int (Int32.ofInt r33)]) rfl ?_
      refine lf_isub 56 rfl rfl ?_
      obtain ⟨o34, h⟩ := h
      obtain ⟨o35, h⟩ := h
      refine lf_icmp_ne 73 59 rfl rfl rfl o34 o35 (fun c => ?_) (fun c => ?_)
      · have h := h.1 c
        refine lf_sub (l := [(0, .ref 1), (1, .int (Int32.ofInt x1)), (2, .int (Int32.ofInt x2)), (3, .int (Int32.ofInt x3)), (4, .int (Int32.ofInt x4)), (5, .int (Int32.ofInt x5))]) (lf_sb1 rfl (lf_sb1 rfl (lf_sb1 rfl (lf_sb1 rfl (lf_sb1 rfl (lf_sb1 rfl lf_sb0)))))) ?_
        exact gm_74_p73 hX13 h
      · have h := h.2 c
        refine lf_seg 2 (pc' := 61) (lv' := [(6, .int (Int32.ofInt r31)), (0, .ref 1), (1, .int (Int32.ofInt x1)), (2, .int (Int32.ofInt x2)), (3, .int (Int32.ofInt x3)), (4, .int (Int32.ofInt x4)), (5, .int (Int32.ofInt x5))]) (st' := [.int (Int32.ofInt (-1)), .int (Int32.ofInt x3)]) rfl ?_
        obtain ⟨o36, h⟩ := h
        refine lf_icmp_eq 70 64 rfl rfl rfl o36 ⟨by decide, by decide⟩ (fun c => ?_) (fun c => ?_)
        · have h := h.1 c
          refine lf_sub (l := [(0, .ref 1), (1, .int (Int32.ofInt x1)), (2, .int (Int32.ofInt x2)), (4, .int (Int32.ofInt x4)), (5, .int (Int32.ofInt x5)), (6, .int (Int32.ofInt r31))]) (lf_sb1 rfl (lf_sb1 rfl (lf_sb1 rfl (lf_sb1 rfl (lf_sb1 rfl (lf_sb1 rfl lf_sb0)))))) ?_
          exact gm_74_p70 hX13 h
        · have h := h.2 c
          refine lf_seg 2 (pc' := 67) (lv' := [(6, .int (Int32.ofInt r31)), (0, .ref 1), (1, .int (Int32.ofInt x1)), (2, .int (Int32.ofInt x2)), (3, .int (Int32.ofInt x3)), (4, .int (Int32.ofInt x4)), (5, .int (Int32.ofInt x5))]) (st' := [.int (Int32.ofInt x3), .int (Int32.ofInt r31)]) rfl ?_
          obtain ⟨o37, h⟩ := h
          refine lf_icmp_ge 73 70 rfl rfl rfl o37 o36 (fun c => ?_) (fun c => ?_)
          · have h := h.1 c
            refine lf_sub (l := [(0, .ref 1), (1, .int (Int32.ofInt x1)), (2, .int (Int32.ofInt x2)), (3, .int (Int32.ofInt x3)), (4, .int (Int32.ofInt x4)), (5, .int (Int32.ofInt x5))]) (lf_sb1 rfl (lf_sb1 rfl (lf_sb1 rfl (lf_sb1 rfl (lf_sb1 rfl (lf_sb1 rfl lf_sb0)))))) ?_
            exact gm_74_p73 hX13 h
          · have h := h.2 c
            refine lf_sub (l := [(0, .ref 1), (1, .int (Int32.ofInt x1)), (2, .int (Int32.ofInt x2)), (4, .int (Int32.ofInt x4)), (5, .int (Int32.ofInt x5)), (6, .int (Int32.ofInt r31))]) (lf_sb1 rfl (lf_sb1 rfl (lf_sb1 rfl (lf_sb1 rfl (lf_sb1 rfl (lf_sb1 rfl lf_sb0)))))) ?_
            exact gm_74_p70 hX13 h
theorem gm_74_p13L {L : Nat} {xs : Nat → Int32} {d : Nat} {Q : Int → lf_Z → Prop} {x1 : Int} {x2 : Int} {x3 : Int} {x4 : Int} {x5 : Int} {s : lf_Z} (h : fm_74_p13L Q x1 x2 x3 x4 x5 s) : lf_E (px_ro L xs) (d + 3) 74 13 [(0, .ref 1), (1, .int (Int32.ofInt x1)), (2, .int (Int32.ofInt x2)), (3, .int (Int32.ofInt x3)), (4, .int (Int32.ofInt x4)), (5, .int (Int32.ofInt x5))] [] s (lf_qi Q) :=
  h (fun x3 x5 s => lf_E (px_ro L xs) (d + 3) 74 13 [(0, .ref 1), (1, .int (Int32.ofInt x1)), (2, .int (Int32.ofInt x2)), (3, .int (Int32.ofInt x3)), (4, .int (Int32.ofInt x4)), (5, .int (Int32.ofInt x5))] [] s (lf_qi Q)) (fun x3 x5 s hb => gm_74_p13 (fun _ _ _ h => h) hb)
def fm_74 (a1 : Int) (a2 : Int) (Q : Int → lf_Z → Prop) (s : lf_Z) : Prop := fm_75 a1 a2 (fun r22 s21 => (fm_74_p13L Q a1 a2 (-1) r22 0 s21)) s
set_option maxRecDepth 100000 in
theorem gm_74 {L : Nat} {xs : Nat → Int32} {d : Nat} {a1 : Int} {a2 : Int} {Q : Int → lf_Z → Prop} {s : lf_Z} (h : fm_74 a1 a2 Q s) : lf_M (px_ro L xs) (d + 3) 74 [.ref 1, .int (Int32.ofInt a1), .int (Int32.ofInt a2)] s (lf_qi Q) := by
  unfold fm_74 at h
  show lf_E (px_ro L xs) (d + 3) 74 0 [(0, .ref 1), (1, .int (Int32.ofInt a1)), (2, .int (Int32.ofInt a2))] [] s _
  refine lf_seg 5 (pc' := 5) (lv' := [(3, .int (Int32.ofInt (-1))), (0, .ref 1), (1, .int (Int32.ofInt a1)), (2, .int (Int32.ofInt a2))]) (st' := [.int (Int32.ofInt a2), .int (Int32.ofInt a1), .ref 1]) rfl ?_
  refine lf_callI 8 rfl rfl rfl rfl (gm_75 h) (fun r22 s21 h => ?_)
  refine lf_seg 3 (pc' := 13) (lv' := [(5, .int (Int32.ofInt 0)), (4, .int (Int32.ofInt r22)), (3, .int (Int32.ofInt (-1))), (0, .ref 1), (1, .int (Int32.ofInt a1)), (2, .int (Int32.ofInt a2))]) (st' := []) rfl ?_
  refine lf_sub (l := [(0, .ref 1), (1, .int (Int32.ofInt a1)), (2, .int (Int32.ofInt a2)), (3, .int (Int32.ofInt (-1))), (4, .int (Int32.ofInt r22)), (5, .int (Int32.ofInt 0))]) (lf_sb1 rfl (lf_sb1 rfl (lf_sb1 rfl (lf_sb1 rfl (lf_sb1 rfl (lf_sb1 rfl lf_sb0)))))) ?_
  exact gm_74_p13L h
-- fm_73 Minutes.goOn 67 i
def fm_73 (a1 : Int) (Q : lf_Z → Prop) (s : lf_Z) : Prop := (0 ≤ a1 ∧ a1 < 6) ∧ (lf_R (s.1 20 a1) ∧ ((s.1 20 a1 = (-1) → (Q s)) ∧ (¬ (s.1 20 a1 = (-1)) → (lf_R (s.1 19 a1) ∧ ((s.1 20 a1 ≠ s.1 19 a1 → (fm_74 (s.1 19 a1) (s.1 20 a1) (fun r25 s24 => (lf_R r25 ∧ ((r25 = (-1) → (Q s24)) ∧ (¬ (r25 = (-1)) → (Q (lf_up s24.1 19 a1 r25, s24.2.1, s24.2.2)))))) s)) ∧ (¬ (s.1 20 a1 ≠ s.1 19 a1) → (Q s)))))))
set_option maxRecDepth 100000 in
theorem gm_73 {L : Nat} {xs : Nat → Int32} {d : Nat} {a1 : Int} {Q : lf_Z → Prop} {s : lf_Z} (h : fm_73 a1 Q s) : lf_M (px_ro L xs) (d + 4) 73 [.ref 67, .int (Int32.ofInt a1)] s (lf_qv Q) := by
  unfold fm_73 at h
  show lf_E (px_ro L xs) (d + 4) 73 0 [(0, .ref 67), (1, .int (Int32.ofInt a1))] [] s _
  refine lf_seg 4 (pc' := 8) (lv' := [(0, .ref 67), (1, .int (Int32.ofInt a1))]) (st' := [.int (Int32.ofInt a1), .ref 20]) rfl ?_
  obtain ⟨o21, h⟩ := h
  refine lf_iald 9 6 rfl rfl rfl rfl rfl rfl o21 ?_
  refine lf_seg 3 (pc' := 12) (lv' := [(2, .int (Int32.ofInt (s.1 20 a1))), (0, .ref 67), (1, .int (Int32.ofInt a1))]) (st' := [.int (Int32.ofInt (-1)), .int (Int32.ofInt (s.1 20 a1))]) rfl ?_
  obtain ⟨o22, h⟩ := h
  refine lf_icmp_eq 28 15 rfl rfl rfl o22 ⟨by decide, by decide⟩ (fun c => ?_) (fun c => ?_)
  · have h := h.1 c
    exact lf_retV rfl rfl h
  · have h := h.2 c
    refine lf_seg 5 (pc' := 24) (lv' := [(2, .int (Int32.ofInt (s.1 20 a1))), (0, .ref 67), (1, .int (Int32.ofInt a1))]) (st' := [.int (Int32.ofInt a1), .ref 19, .int (Int32.ofInt (s.1 20 a1))]) rfl ?_
    refine lf_iald 25 6 rfl rfl rfl rfl rfl rfl o21 ?_
    obtain ⟨o23, h⟩ := h
    refine lf_icmp_ne 29 28 rfl rfl rfl o22 o23 (fun c => ?_) (fun c => ?_)
    · have h := h.1 c
      refine lf_seg 6 (pc' := 41) (lv' := [(2, .int (Int32.ofInt (s.1 20 a1))), (0, .ref 67), (1, .int (Int32.ofInt a1))]) (st' := [.int (Int32.ofInt a1), .ref 19, .ref 1]) rfl ?_
      refine lf_iald 42 6 rfl rfl rfl rfl rfl rfl o21 ?_
      refine lf_seg 1 (pc' := 43) (lv' := [(2, .int (Int32.ofInt (s.1 20 a1))), (0, .ref 67), (1, .int (Int32.ofInt a1))]) (st' := [.int (Int32.ofInt (s.1 20 a1)), .int (Int32.ofInt (s.1 19 a1)), .ref 1]) rfl ?_
      refine lf_callI 46 rfl rfl rfl rfl (gm_74 h) (fun r25 s24 h => ?_)
      refine lf_seg 3 (pc' := 49) (lv' := [(3, .int (Int32.ofInt r25)), (2, .int (Int32.ofInt (s.1 20 a1))), (0, .ref 67), (1, .int (Int32.ofInt a1))]) (st' := [.int (Int32.ofInt (-1)), .int (Int32.ofInt r25)]) rfl ?_
      obtain ⟨o26, h⟩ := h
      refine lf_icmp_eq 62 52 rfl rfl rfl o26 ⟨by decide, by decide⟩ (fun c => ?_) (fun c => ?_)
      · have h := h.1 c
        exact lf_retV rfl rfl h
      · have h := h.2 c
        refine lf_seg 5 (pc' := 61) (lv' := [(3, .int (Int32.ofInt r25)), (2, .int (Int32.ofInt (s.1 20 a1))), (0, .ref 67), (1, .int (Int32.ofInt a1))]) (st' := [.int (Int32.ofInt r25), .int (Int32.ofInt a1), .ref 19]) rfl ?_
        refine lf_iast 62 6 rfl rfl rfl rfl rfl rfl o21 ?_
        refine lf_as (lf_up s24.1 19 a1 r25, s24.2.1, s24.2.2) rfl ?_
        exact lf_retV rfl rfl h
    · have h := h.2 c
      exact lf_retV rfl rfl h
-- fm_72 Minutes.pass 67
def fm_72_p74 (X43 : Int → lf_Z → Prop) (Q : lf_Z → Prop) (x1 : Int) (x2 : Int) (X74 : Int → lf_Z → Prop) (x3 : Int) (s : lf_Z) : Prop := lf_R x3 ∧ (lf_R x2 ∧ ((x2 ≤ x3 → (X43 (x1 + 1) s)) ∧ (¬ (x2 ≤ x3) → (fm_88 x1 (fun s30 => (X74 (x3 + 1) s30)) s))))
def fm_72_p74L (X43 : Int → lf_Z → Prop) (Q : lf_Z → Prop) (x1 : Int) (x2 : Int) (x3 : Int) (s : lf_Z) : Prop := ∀ X74 : Int → lf_Z → Prop, (∀ (x3 : Int) (s : lf_Z), fm_72_p74 X43 Q x1 x2 X74 x3 s → X74 x3 s) → X74 x3 s
set_option maxRecDepth 100000 in
theorem gm_72_p74 {L : Nat} {xs : Nat → Int32} {d : Nat} {X43 : Int → lf_Z → Prop} {Q : lf_Z → Prop} {x1 : Int} {x2 : Int} {x3 : Int} {s : lf_Z} {X74 : Int → lf_Z → Prop} (hX43 : ∀ x1 s, X43 x1 s → lf_E (px_ro L xs) (d + 5) 72 43 [(0, .ref 67), (1, .int (Int32.ofInt x1))] [] s (lf_qv Q)) (hX74 : ∀ x3 s, X74 x3 s → lf_E (px_ro L xs) (d + 5) 72 74 [(0, .ref 67), (1, .int (Int32.ofInt x1)), (2, .int (Int32.ofInt x2)), (3, .int (Int32.ofInt x3))] [] s (lf_qv Q)) (h : fm_72_p74 X43 Q x1 x2 X74 x3 s) : lf_E (px_ro L xs) (d + 5) 72 74 [(0, .ref 67), (1, .int (Int32.ofInt x1)), (2, .int (Int32.ofInt x2)), (3, .int (Int32.ofInt x3))] [] s (lf_qv Q) := by
  unfold fm_72_p74 at h
  refine lf_seg 2 (pc' := 76) (lv' := [(0, .ref 67), (1, .int (Int32.ofInt x1)), (2, .int (Int32.ofInt x2)), (3, .int (Int32.ofInt x3))]) (st' := [.int (Int32.ofInt x2), .int (Int32.ofInt x3)]) rfl ?_
  obtain ⟨o28, h⟩ := h
  obtain ⟨o29, h⟩ := h
  refine lf_icmp_ge 90 79 rfl rfl rfl o28 o29 (fun c => ?_) (fun c => ?_)
  · have h := h.1 c
    refine lf_iinc 93 rfl rfl rfl rfl ?_
    refine lf_seg 1 (pc' := 43) (lv' := [(1, .int (Int32.ofInt (x1 + 1))), (0, .ref 67), (2, .int (Int32.ofInt x2)), (3, .int (Int32.ofInt x3))]) (st' := []) rfl ?_
    refine lf_sub (l := [(0, .ref 67), (1, .int (Int32.ofInt (x1 + 1)))]) (lf_sb1 rfl (lf_sb1 rfl lf_sb0)) ?_
    exact hX43 _ _ h
  · have h := h.2 c
    refine lf_seg 2 (pc' := 81) (lv' := [(0, .ref 67), (1, .int (Int32.ofInt x1)), (2, .int (Int32.ofInt x2)), (3, .int (Int32.ofInt x3))]) (st' := [.int (Int32.ofInt x1), .ref 67]) rfl ?_
    refine lf_callV 84 rfl rfl rfl rfl (gm_88 h) (fun s30 h => ?_)
    refine lf_iinc 87 rfl rfl rfl rfl ?_
    refine lf_seg 1 (pc' := 74) (lv' := [(3, .int (Int32.ofInt (x3 + 1))), (0, .ref 67), (1, .int (Int32.ofInt x1)), (2, .int (Int32.ofInt x2))]) (st' := []) rfl ?_
    refine lf_sub (l := [(0, .ref 67), (1, .int (Int32.ofInt x1)), (2, .int (Int32.ofInt x2)), (3, .int (Int32.ofInt (x3 + 1)))]) (lf_sb1 rfl (lf_sb1 rfl (lf_sb1 rfl (lf_sb1 rfl lf_sb0)))) ?_
    exact hX74 _ _ h
theorem gm_72_p74L {L : Nat} {xs : Nat → Int32} {d : Nat} {X43 : Int → lf_Z → Prop} {Q : lf_Z → Prop} {x1 : Int} {x2 : Int} {x3 : Int} {s : lf_Z} (hX43 : ∀ x1 s, X43 x1 s → lf_E (px_ro L xs) (d + 5) 72 43 [(0, .ref 67), (1, .int (Int32.ofInt x1))] [] s (lf_qv Q)) (h : fm_72_p74L X43 Q x1 x2 x3 s) : lf_E (px_ro L xs) (d + 5) 72 74 [(0, .ref 67), (1, .int (Int32.ofInt x1)), (2, .int (Int32.ofInt x2)), (3, .int (Int32.ofInt x3))] [] s (lf_qv Q) :=
  h (fun x3 s => lf_E (px_ro L xs) (d + 5) 72 74 [(0, .ref 67), (1, .int (Int32.ofInt x1)), (2, .int (Int32.ofInt x2)), (3, .int (Int32.ofInt x3))] [] s (lf_qv Q)) (fun x3 s hb => gm_72_p74 hX43 (fun _ _ h => h) hb)
def fm_72_p71 (X43 : Int → lf_Z → Prop) (Q : lf_Z → Prop) (x1 : Int) (y0 : Int) (s : lf_Z) : Prop := fm_72_p74L X43 Q x1 y0 0 s
set_option maxRecDepth 100000 in
theorem gm_72_p71 {L : Nat} {xs : Nat → Int32} {d : Nat} {X43 : Int → lf_Z → Prop} {Q : lf_Z → Prop} {x1 : Int} {y0 : Int} {s : lf_Z} (hX43 : ∀ x1 s, X43 x1 s → lf_E (px_ro L xs) (d + 5) 72 43 [(0, .ref 67), (1, .int (Int32.ofInt x1))] [] s (lf_qv Q)) (h : fm_72_p71 X43 Q x1 y0 s) : lf_E (px_ro L xs) (d + 5) 72 71 [(0, .ref 67), (1, .int (Int32.ofInt x1))] [.int (Int32.ofInt y0)] s (lf_qv Q) := by
  unfold fm_72_p71 at h
  refine lf_seg 3 (pc' := 74) (lv' := [(3, .int (Int32.ofInt 0)), (2, .int (Int32.ofInt y0)), (0, .ref 67), (1, .int (Int32.ofInt x1))]) (st' := []) rfl ?_
  refine lf_sub (l := [(0, .ref 67), (1, .int (Int32.ofInt x1)), (2, .int (Int32.ofInt y0)), (3, .int (Int32.ofInt 0))]) (lf_sb1 rfl (lf_sb1 rfl (lf_sb1 rfl (lf_sb1 rfl lf_sb0)))) ?_
  exact gm_72_p74L hX43 h
def fm_72_p43 (Q : lf_Z → Prop) (X43 : Int → lf_Z → Prop) (x1 : Int) (s : lf_Z) : Prop := lf_R x1 ∧ ((4 ≤ x1 → (fm_95 (fun s24 => (fm_96 (fun s25 => (Q (lf_up s25.1 15 7 (lf_w ((s25.1 15 7) + 1)), s25.2.1, s25.2.2))) s24)) s)) ∧ (¬ (4 ≤ x1) → (fm_80 x1 (fun z27 s26 => ((z27 = false → (fm_72_p71 X43 Q x1 0 s26)) ∧ (z27 = true → (fm_81 x1 (fun r32 s31 => (fm_72_p71 X43 Q x1 r32 s31)) s26)))) s)))
def fm_72_p43L (Q : lf_Z → Prop) (x1 : Int) (s : lf_Z) : Prop := ∀ X43 : Int → lf_Z → Prop, (∀ (x1 : Int) (s : lf_Z), fm_72_p43 Q X43 x1 s → X43 x1 s) → X43 x1 s
set_option maxRecDepth 100000 in
theorem gm_72_p43 {L : Nat} {xs : Nat → Int32} {d : Nat} {Q : lf_Z → Prop} {x1 : Int} {s : lf_Z} {X43 : Int → lf_Z → Prop} (hX43 : ∀ x1 s, X43 x1 s → lf_E (px_ro L xs) (d + 5) 72 43 [(0, .ref 67), (1, .int (Int32.ofInt x1))] [] s (lf_qv Q)) (h : fm_72_p43 Q X43 x1 s) : lf_E (px_ro L xs) (d + 5) 72 43 [(0, .ref 67), (1, .int (Int32.ofInt x1))] [] s (lf_qv Q) := by
  unfold fm_72_p43 at h
  refine lf_seg 2 (pc' := 45) (lv' := [(0, .ref 67), (1, .int (Int32.ofInt x1))]) (st' := [.int (Int32.ofInt 4), .int (Int32.ofInt x1)]) rfl ?_
  obtain ⟨o23, h⟩ := h
  refine lf_icmp_ge 96 48 rfl rfl rfl o23 ⟨by decide, by decide⟩ (fun c => ?_) (fun c => ?_)
  · have h := h.1 c
    refine lf_seg 1 (pc' := 97) (lv' := [(0, .ref 67), (1, .int (Int32.ofInt x1))]) (st' := [.ref 67]) rfl ?_
    refine lf_callV 100 rfl rfl rfl rfl (gm_95 h) (fun s24 h => ?_)
    refine lf_seg 1 (pc' := 101) (lv' := [(0, .ref 67), (1, .int (Int32.ofInt x1))]) (st' := [.ref 67]) rfl ?_
    refine lf_callV 104 rfl rfl rfl rfl (gm_96 h) (fun s25 h => ?_)
    refine lf_seg 3 (pc' := 109) (lv' := [(0, .ref 67), (1, .int (Int32.ofInt x1))]) (st' := [.ref 15, .ref 15]) rfl ?_
    refine lf_getI 112 7 rfl rfl rfl rfl rfl rfl rfl ?_
    refine lf_seg 1 (pc' := 113) (lv' := [(0, .ref 67), (1, .int (Int32.ofInt x1))]) (st' := [.int (Int32.ofInt 1), .int (Int32.ofInt (s25.1 15 7)), .ref 15]) rfl ?_
    refine lf_iadd 114 rfl rfl ?_
    refine lf_wtI ?_
    refine lf_putI 117 7 rfl rfl rfl rfl rfl rfl rfl rfl ?_
    refine lf_as (lf_up s25.1 15 7 (lf_w ((s25.1 15 7) + 1)), s25.2.1, s25.2.2) rfl ?_
    exact lf_retV rfl rfl h
  · have h := h.2 c
    refine lf_seg 3 (pc' := 53) (lv' := [(0, .ref 67), (1, .int (Int32.ofInt x1))]) (st' := [.int (Int32.ofInt x1), .ref 15]) rfl ?_
    refine lf_callZ 56 rfl rfl rfl rfl (gm_80 h) (fun z27 s26 h => ?_)
    refine lf_ifz_eq 70 59 rfl rfl rfl (fun c => ?_) (fun c => ?_)
    · have h := h.1 c
      refine lf_seg 1 (pc' := 71) (lv' := [(0, .ref 67), (1, .int (Int32.ofInt x1))]) (st' := [.int (Int32.ofInt 0)]) rfl ?_
      refine lf_sub (l := [(0, .ref 67), (1, .int (Int32.ofInt x1))]) (lf_sb1 rfl (lf_sb1 rfl lf_sb0)) ?_
      exact gm_72_p71 hX43 h
    · have h := h.2 c
      refine lf_seg 3 (pc' := 64) (lv' := [(0, .ref 67), (1, .int (Int32.ofInt x1))]) (st' := [.int (Int32.ofInt x1), .ref 63]) rfl ?_
      refine lf_callI 67 rfl rfl rfl rfl (gm_81 h) (fun r32 s31 h => ?_)
      refine lf_seg 1 (pc' := 71) (lv' := [(0, .ref 67), (1, .int (Int32.ofInt x1))]) (st' := [.int (Int32.ofInt r32)]) rfl ?_
      refine lf_sub (l := [(0, .ref 67), (1, .int (Int32.ofInt x1))]) (lf_sb1 rfl (lf_sb1 rfl lf_sb0)) ?_
      exact gm_72_p71 hX43 h
theorem gm_72_p43L {L : Nat} {xs : Nat → Int32} {d : Nat} {Q : lf_Z → Prop} {x1 : Int} {s : lf_Z} (h : fm_72_p43L Q x1 s) : lf_E (px_ro L xs) (d + 5) 72 43 [(0, .ref 67), (1, .int (Int32.ofInt x1))] [] s (lf_qv Q) :=
  h (fun x1 s => lf_E (px_ro L xs) (d + 5) 72 43 [(0, .ref 67), (1, .int (Int32.ofInt x1))] [] s (lf_qv Q)) (fun x1 s hb => gm_72_p43 (fun _ _ h => h) hb)
def fm_72_p35 (X2 : Int → lf_Z → Prop) (Q : lf_Z → Prop) (x1 : Int) (s : lf_Z) : Prop := X2 (x1 + 1) s
set_option maxRecDepth 100000 in
theorem gm_72_p35 {L : Nat} {xs : Nat → Int32} {d : Nat} {X2 : Int → lf_Z → Prop} {Q : lf_Z → Prop} {x1 : Int} {s : lf_Z} (hX2 : ∀ x1 s, X2 x1 s → lf_E (px_ro L xs) (d + 5) 72 2 [(0, .ref 67), (1, .int (Int32.ofInt x1))] [] s (lf_qv Q)) (h : fm_72_p35 X2 Q x1 s) : lf_E (px_ro L xs) (d + 5) 72 35 [(0, .ref 67), (1, .int (Int32.ofInt x1))] [] s (lf_qv Q) := by
  unfold fm_72_p35 at h
  refine lf_iinc 38 rfl rfl rfl rfl ?_
  refine lf_seg 1 (pc' := 2) (lv' := [(1, .int (Int32.ofInt (x1 + 1))), (0, .ref 67)]) (st' := []) rfl ?_
  refine lf_sub (l := [(0, .ref 67), (1, .int (Int32.ofInt (x1 + 1)))]) (lf_sb1 rfl (lf_sb1 rfl lf_sb0)) ?_
  exact hX2 _ _ h
def fm_72_p2 (Q : lf_Z → Prop) (X2 : Int → lf_Z → Prop) (x1 : Int) (s : lf_Z) : Prop := lf_R x1 ∧ (lf_R (s.1 1 2) ∧ ((s.1 1 2 ≤ x1 → (fm_72_p43L Q 0 s)) ∧ (¬ (s.1 1 2 ≤ x1) → (fm_73 x1 (fun s33 => ((0 ≤ x1 ∧ x1 < 6) ∧ (lf_R (s33.1 8 x1) ∧ ((s33.1 8 x1 = 0 → (fm_72_p35 X2 Q x1 s33)) ∧ (¬ (s33.1 8 x1 = 0) → (fm_73 x1 (fun s36 => (fm_72_p35 X2 Q x1 s36)) s33)))))) s))))
def fm_72_p2L (Q : lf_Z → Prop) (x1 : Int) (s : lf_Z) : Prop := ∀ X2 : Int → lf_Z → Prop, (∀ (x1 : Int) (s : lf_Z), fm_72_p2 Q X2 x1 s → X2 x1 s) → X2 x1 s
set_option maxRecDepth 100000 in
theorem gm_72_p2 {L : Nat} {xs : Nat → Int32} {d : Nat} {Q : lf_Z → Prop} {x1 : Int} {s : lf_Z} {X2 : Int → lf_Z → Prop} (hX2 : ∀ x1 s, X2 x1 s → lf_E (px_ro L xs) (d + 5) 72 2 [(0, .ref 67), (1, .int (Int32.ofInt x1))] [] s (lf_qv Q)) (h : fm_72_p2 Q X2 x1 s) : lf_E (px_ro L xs) (d + 5) 72 2 [(0, .ref 67), (1, .int (Int32.ofInt x1))] [] s (lf_qv Q) := by
  unfold fm_72_p2 at h
  refine lf_seg 3 (pc' := 7) (lv' := [(0, .ref 67), (1, .int (Int32.ofInt x1))]) (st' := [.ref 1, .int (Int32.ofInt x1)]) rfl ?_
  refine lf_getI 10 2 rfl rfl rfl rfl rfl rfl rfl ?_
  obtain ⟨o21, h⟩ := h
  obtain ⟨o22, h⟩ := h
  refine lf_icmp_ge 41 13 rfl rfl rfl o21 o22 (fun c => ?_) (fun c => ?_)
  · have h := h.1 c
    refine lf_seg 2 (pc' := 43) (lv' := [(1, .int (Int32.ofInt 0)), (0, .ref 67)]) (st' := []) rfl ?_
    refine lf_sub (l := [(0, .ref 67), (1, .int (Int32.ofInt 0))]) (lf_sb1 rfl (lf_sb1 rfl lf_sb0)) ?_
    exact gm_72_p43L h
  · have h := h.2 c
    refine lf_seg 2 (pc' := 15) (lv' := [(0, .ref 67), (1, .int (Int32.ofInt x1))]) (st' := [.int (Int32.ofInt x1), .ref 67]) rfl ?_
    refine lf_callV 18 rfl rfl rfl rfl (gm_73 h) (fun s33 h => ?_)
    refine lf_seg 4 (pc' := 26) (lv' := [(0, .ref 67), (1, .int (Int32.ofInt x1))]) (st' := [.int (Int32.ofInt x1), .ref 8]) rfl ?_
    obtain ⟨o34, h⟩ := h
    refine lf_zald 27 6 rfl rfl rfl rfl rfl rfl o34 ?_
    obtain ⟨o35, h⟩ := h
    refine lf_if_eq 35 30 rfl rfl rfl o35 (fun c => ?_) (fun c => ?_)
    · have h := h.1 c
      refine lf_sub (l := [(0, .ref 67), (1, .int (Int32.ofInt x1))]) (lf_sb1 rfl (lf_sb1 rfl lf_sb0)) ?_
      exact gm_72_p35 hX2 h
    · have h := h.2 c
      refine lf_seg 2 (pc' := 32) (lv' := [(0, .ref 67), (1, .int (Int32.ofInt x1))]) (st' := [.int (Int32.ofInt x1), .ref 67]) rfl ?_
      refine lf_callV 35 rfl rfl rfl rfl (gm_73 h) (fun s36 h => ?_)
      refine lf_sub (l := [(0, .ref 67), (1, .int (Int32.ofInt x1))]) (lf_sb1 rfl (lf_sb1 rfl lf_sb0)) ?_
      exact gm_72_p35 hX2 h
theorem gm_72_p2L {L : Nat} {xs : Nat → Int32} {d : Nat} {Q : lf_Z → Prop} {x1 : Int} {s : lf_Z} (h : fm_72_p2L Q x1 s) : lf_E (px_ro L xs) (d + 5) 72 2 [(0, .ref 67), (1, .int (Int32.ofInt x1))] [] s (lf_qv Q) :=
  h (fun x1 s => lf_E (px_ro L xs) (d + 5) 72 2 [(0, .ref 67), (1, .int (Int32.ofInt x1))] [] s (lf_qv Q)) (fun x1 s hb => gm_72_p2 (fun _ _ h => h) hb)
def fm_72 (Q : lf_Z → Prop) (s : lf_Z) : Prop := fm_72_p2L Q 0 s
set_option maxRecDepth 100000 in
theorem gm_72 {L : Nat} {xs : Nat → Int32} {d : Nat} {Q : lf_Z → Prop} {s : lf_Z} (h : fm_72 Q s) : lf_M (px_ro L xs) (d + 5) 72 [.ref 67] s (lf_qv Q) := by
  unfold fm_72 at h
  show lf_E (px_ro L xs) (d + 5) 72 0 [(0, .ref 67)] [] s _
  refine lf_seg 2 (pc' := 2) (lv' := [(1, .int (Int32.ofInt 0)), (0, .ref 67)]) (st' := []) rfl ?_
  refine lf_sub (l := [(0, .ref 67), (1, .int (Int32.ofInt 0))]) (lf_sb1 rfl (lf_sb1 rfl lf_sb0)) ?_
  exact gm_72_p2L h
-- fm_71 ElevenBullocks.passMinutes 0 i
def fm_71_p2 (Q : Bool → lf_Z → Prop) (x1 : Int) (X2 : Int → lf_Z → Prop) (x2 : Int) (s : lf_Z) : Prop := lf_R x2 ∧ (lf_R x1 ∧ ((x1 ≤ x2 → (Q true s)) ∧ (¬ (x1 ≤ x2) → (lf_R (s.1 15 7) ∧ ((s.1 15 7 < 999 → (fm_67 (s.1 1 2) (fun s24 => (fm_72 (fun s25 => (X2 (x2 + 1) s25)) s24)) s)) ∧ (¬ (s.1 15 7 < 999) → (Q false s)))))))
def fm_71_p2L (Q : Bool → lf_Z → Prop) (x1 : Int) (x2 : Int) (s : lf_Z) : Prop := ∀ X2 : Int → lf_Z → Prop, (∀ (x2 : Int) (s : lf_Z), fm_71_p2 Q x1 X2 x2 s → X2 x2 s) → X2 x2 s
set_option maxRecDepth 100000 in
theorem gm_71_p2 {L : Nat} {xs : Nat → Int32} {d : Nat} {Q : Bool → lf_Z → Prop} {x1 : Int} {x2 : Int} {s : lf_Z} {X2 : Int → lf_Z → Prop} (hX2 : ∀ x2 s, X2 x2 s → lf_E (px_ro L xs) (d + 6) 71 2 [(0, .ref 0), (1, .int (Int32.ofInt x1)), (2, .int (Int32.ofInt x2))] [] s (lf_qz Q)) (h : fm_71_p2 Q x1 X2 x2 s) : lf_E (px_ro L xs) (d + 6) 71 2 [(0, .ref 0), (1, .int (Int32.ofInt x1)), (2, .int (Int32.ofInt x2))] [] s (lf_qz Q) := by
  unfold fm_71_p2 at h
  refine lf_seg 2 (pc' := 4) (lv' := [(0, .ref 0), (1, .int (Int32.ofInt x1)), (2, .int (Int32.ofInt x2))]) (st' := [.int (Int32.ofInt x1), .int (Int32.ofInt x2)]) rfl ?_
  obtain ⟨o21, h⟩ := h
  obtain ⟨o22, h⟩ := h
  refine lf_icmp_ge 53 7 rfl rfl rfl o21 o22 (fun c => ?_) (fun c => ?_)
  · have h := h.1 c
    refine lf_seg 1 (pc' := 54) (lv' := [(0, .ref 0), (1, .int (Int32.ofInt x1)), (2, .int (Int32.ofInt x2))]) (st' := [.int (Int32.ofInt 1)]) rfl ?_
    exact lf_retZ true rfl rfl h
  · have h := h.2 c
    refine lf_seg 2 (pc' := 11) (lv' := [(0, .ref 0), (1, .int (Int32.ofInt x1)), (2, .int (Int32.ofInt x2))]) (st' := [.ref 15]) rfl ?_
    refine lf_getI 14 7 rfl rfl rfl rfl rfl rfl rfl ?_
    refine lf_sipush 17 999 rfl rfl (by decide) (by decide) ?_
    obtain ⟨o23, h⟩ := h
    refine lf_icmp_lt 22 20 rfl rfl rfl o23 ⟨by decide, by decide⟩ (fun c => ?_) (fun c => ?_)
    · have h := h.1 c
      refine lf_seg 6 (pc' := 34) (lv' := [(0, .ref 0), (1, .int (Int32.ofInt x1)), (2, .int (Int32.ofInt x2))]) (st' := [.ref 1, .ref 15, .ref 22]) rfl ?_
      refine lf_getI 37 2 rfl rfl rfl rfl rfl rfl rfl ?_
      refine lf_callV 40 rfl rfl rfl rfl (gm_67 h) (fun s24 h => ?_)
      refine lf_seg 2 (pc' := 44) (lv' := [(0, .ref 0), (1, .int (Int32.ofInt x1)), (2, .int (Int32.ofInt x2))]) (st' := [.ref 67]) rfl ?_
      refine lf_callV 47 rfl rfl rfl rfl (gm_72 h) (fun s25 h => ?_)
      refine lf_iinc 50 rfl rfl rfl rfl ?_
      refine lf_seg 1 (pc' := 2) (lv' := [(2, .int (Int32.ofInt (x2 + 1))), (0, .ref 0), (1, .int (Int32.ofInt x1))]) (st' := []) rfl ?_
      refine lf_sub (l := [(0, .ref 0), (1, .int (Int32.ofInt x1)), (2, .int (Int32.ofInt (x2 + 1)))]) (lf_sb1 rfl (lf_sb1 rfl (lf_sb1 rfl lf_sb0))) ?_
      exact hX2 _ _ h
    · have h := h.2 c
      refine lf_seg 1 (pc' := 21) (lv' := [(0, .ref 0), (1, .int (Int32.ofInt x1)), (2, .int (Int32.ofInt x2))]) (st' := [.int (Int32.ofInt 0)]) rfl ?_
      exact lf_retZ false rfl rfl h
theorem gm_71_p2L {L : Nat} {xs : Nat → Int32} {d : Nat} {Q : Bool → lf_Z → Prop} {x1 : Int} {x2 : Int} {s : lf_Z} (h : fm_71_p2L Q x1 x2 s) : lf_E (px_ro L xs) (d + 6) 71 2 [(0, .ref 0), (1, .int (Int32.ofInt x1)), (2, .int (Int32.ofInt x2))] [] s (lf_qz Q) :=
  h (fun x2 s => lf_E (px_ro L xs) (d + 6) 71 2 [(0, .ref 0), (1, .int (Int32.ofInt x1)), (2, .int (Int32.ofInt x2))] [] s (lf_qz Q)) (fun x2 s hb => gm_71_p2 (fun _ _ h => h) hb)
def fm_71 (a1 : Int) (Q : Bool → lf_Z → Prop) (s : lf_Z) : Prop := fm_71_p2L Q a1 0 s
set_option maxRecDepth 100000 in
theorem gm_71 {L : Nat} {xs : Nat → Int32} {d : Nat} {a1 : Int} {Q : Bool → lf_Z → Prop} {s : lf_Z} (h : fm_71 a1 Q s) : lf_M (px_ro L xs) (d + 6) 71 [.ref 0, .int (Int32.ofInt a1)] s (lf_qz Q) := by
  unfold fm_71 at h
  show lf_E (px_ro L xs) (d + 6) 71 0 [(0, .ref 0), (1, .int (Int32.ofInt a1))] [] s _
  refine lf_seg 2 (pc' := 2) (lv' := [(2, .int (Int32.ofInt 0)), (0, .ref 0), (1, .int (Int32.ofInt a1))]) (st' := []) rfl ?_
  refine lf_sub (l := [(0, .ref 0), (1, .int (Int32.ofInt a1)), (2, .int (Int32.ofInt 0))]) (lf_sb1 rfl (lf_sb1 rfl (lf_sb1 rfl lf_sb0))) ?_
  exact gm_71_p2L h
-- fm_65b Stand.sum 21
def fm_65b_p10 (Q : Int → lf_Z → Prop) (x3 : Int) (X10 : Int → Int → lf_Z → Prop) (x1 : Int) (x4 : Int) (s : lf_Z) : Prop := lf_R x4 ∧ (lf_R x3 ∧ ((x3 ≤ x4 → (Q x1 s)) ∧ (¬ (x3 ≤ x4) → ((0 ≤ x4 ∧ x4 < 12) ∧ (X10 (lf_w (x1 + (s.1 21 x4))) (x4 + 1) s)))))
def fm_65b_p10L (Q : Int → lf_Z → Prop) (x1 : Int) (x3 : Int) (x4 : Int) (s : lf_Z) : Prop := ∀ X10 : Int → Int → lf_Z → Prop, (∀ (x1 : Int) (x4 : Int) (s : lf_Z), fm_65b_p10 Q x3 X10 x1 x4 s → X10 x1 x4 s) → X10 x1 x4 s
set_option maxRecDepth 100000 in
theorem gm_65b_p10 {L : Nat} {xs : Nat → Int32} {d : Nat} {Q : Int → lf_Z → Prop} {x1 : Int} {x3 : Int} {x4 : Int} {s : lf_Z} {X10 : Int → Int → lf_Z → Prop} (hX10 : ∀ x1 x4 s, X10 x1 x4 s → lf_E (px_ro L xs) (d + 1) 65 10 [(1, .int (Int32.ofInt x1)), (2, .ref 21), (3, .int (Int32.ofInt x3)), (4, .int (Int32.ofInt x4))] [] s (lf_qi Q)) (h : fm_65b_p10 Q x3 X10 x1 x4 s) : lf_E (px_ro L xs) (d + 1) 65 10 [(1, .int (Int32.ofInt x1)), (2, .ref 21), (3, .int (Int32.ofInt x3)), (4, .int (Int32.ofInt x4))] [] s (lf_qi Q) := by
  unfold fm_65b_p10 at h
  refine lf_seg 2 (pc' := 13) (lv' := [(1, .int (Int32.ofInt x1)), (2, .ref 21), (3, .int (Int32.ofInt x3)), (4, .int (Int32.ofInt x4))]) (st' := [.int (Int32.ofInt x3), .int (Int32.ofInt x4)]) rfl ?_
  obtain ⟨o21, h⟩ := h
  obtain ⟨o22, h⟩ := h
  refine lf_icmp_ge 33 16 rfl rfl rfl o21 o22 (fun c => ?_) (fun c => ?_)
  · have h := h.1 c
    refine lf_seg 1 (pc' := 34) (lv' := [(1, .int (Int32.ofInt x1)), (2, .ref 21), (3, .int (Int32.ofInt x3)), (4, .int (Int32.ofInt x4))]) (st' := [.int (Int32.ofInt x1)]) rfl ?_
    exact lf_retI rfl rfl h
  · have h := h.2 c
    refine lf_seg 2 (pc' := 19) (lv' := [(1, .int (Int32.ofInt x1)), (2, .ref 21), (3, .int (Int32.ofInt x3)), (4, .int (Int32.ofInt x4))]) (st' := [.int (Int32.ofInt x4), .ref 21]) rfl ?_
    obtain ⟨o23, h⟩ := h
    refine lf_iald 20 12 rfl rfl rfl rfl rfl rfl o23 ?_
    refine lf_seg 3 (pc' := 25) (lv' := [(5, .int (Int32.ofInt (s.1 21 x4))), (1, .int (Int32.ofInt x1)), (2, .ref 21), (3, .int (Int32.ofInt x3)), (4, .int (Int32.ofInt x4))]) (st' := [.int (Int32.ofInt (s.1 21 x4)), .int (Int32.ofInt x1)]) rfl ?_
    refine lf_iadd 26 rfl rfl ?_
    refine lf_wtI ?_
    refine lf_seg 1 (pc' := 27) (lv' := [(1, .int (Int32.ofInt (lf_w (x1 + (s.1 21 x4))))), (5, .int (Int32.ofInt (s.1 21 x4))), (2, .ref 21), (3, .int (Int32.ofInt x3)), (4, .int (Int32.ofInt x4))]) (st' := []) rfl ?_
    refine lf_iinc 30 rfl rfl rfl rfl ?_
    refine lf_seg 1 (pc' := 10) (lv' := [(4, .int (Int32.ofInt (x4 + 1))), (1, .int (Int32.ofInt (lf_w (x1 + (s.1 21 x4))))), (5, .int (Int32.ofInt (s.1 21 x4))), (2, .ref 21), (3, .int (Int32.ofInt x3))]) (st' := []) rfl ?_
    refine lf_sub (l := [(1, .int (Int32.ofInt (lf_w (x1 + (s.1 21 x4))))), (2, .ref 21), (3, .int (Int32.ofInt x3)), (4, .int (Int32.ofInt (x4 + 1)))]) (lf_sb1 rfl (lf_sb1 rfl (lf_sb1 rfl (lf_sb1 rfl lf_sb0)))) ?_
    exact hX10 _ _ _ h
theorem gm_65b_p10L {L : Nat} {xs : Nat → Int32} {d : Nat} {Q : Int → lf_Z → Prop} {x1 : Int} {x3 : Int} {x4 : Int} {s : lf_Z} (h : fm_65b_p10L Q x1 x3 x4 s) : lf_E (px_ro L xs) (d + 1) 65 10 [(1, .int (Int32.ofInt x1)), (2, .ref 21), (3, .int (Int32.ofInt x3)), (4, .int (Int32.ofInt x4))] [] s (lf_qi Q) :=
  h (fun x1 x4 s => lf_E (px_ro L xs) (d + 1) 65 10 [(1, .int (Int32.ofInt x1)), (2, .ref 21), (3, .int (Int32.ofInt x3)), (4, .int (Int32.ofInt x4))] [] s (lf_qi Q)) (fun x1 x4 s hb => gm_65b_p10 (fun _ _ _ h => h) hb)
def fm_65b (Q : Int → lf_Z → Prop) (s : lf_Z) : Prop := fm_65b_p10L Q 0 12 0 s
set_option maxRecDepth 100000 in
theorem gm_65b {L : Nat} {xs : Nat → Int32} {d : Nat} {Q : Int → lf_Z → Prop} {s : lf_Z} (h : fm_65b Q s) : lf_M (px_ro L xs) (d + 1) 65 [.ref 21] s (lf_qi Q) := by
  unfold fm_65b at h
  show lf_E (px_ro L xs) (d + 1) 65 0 [(0, .ref 21)] [] s _
  refine lf_seg 5 (pc' := 5) (lv' := [(2, .ref 21), (1, .int (Int32.ofInt 0)), (0, .ref 21)]) (st' := [.ref 21]) rfl ?_
  refine lf_len 6 12 rfl rfl rfl rfl rfl rfl ?_
  refine lf_seg 3 (pc' := 10) (lv' := [(4, .int (Int32.ofInt 0)), (3, .int (Int32.ofInt 12)), (2, .ref 21), (1, .int (Int32.ofInt 0)), (0, .ref 21)]) (st' := []) rfl ?_
  refine lf_sub (l := [(1, .int (Int32.ofInt 0)), (2, .ref 21), (3, .int (Int32.ofInt 12)), (4, .int (Int32.ofInt 0))]) (lf_sb1 rfl (lf_sb1 rfl (lf_sb1 rfl (lf_sb1 rfl lf_sb0)))) ?_
  exact gm_65b_p10L h
-- fm_97 Stand.allDone 15
def fm_97 (Q : Int → lf_Z → Prop) (s : lf_Z) : Prop := fm_65b (fun r22 s21 => (Q r22 s21)) s
set_option maxRecDepth 100000 in
theorem gm_97 {L : Nat} {xs : Nat → Int32} {d : Nat} {Q : Int → lf_Z → Prop} {s : lf_Z} (h : fm_97 Q s) : lf_M (px_ro L xs) (d + 2) 97 [.ref 15] s (lf_qi Q) := by
  unfold fm_97 at h
  show lf_E (px_ro L xs) (d + 2) 97 0 [(0, .ref 15)] [] s _
  refine lf_seg 2 (pc' := 4) (lv' := [(0, .ref 15)]) (st' := [.ref 21]) rfl ?_
  refine lf_callI 7 rfl rfl rfl rfl (gm_65b h) (fun r22 s21 h => ?_)
  exact lf_retI rfl rfl h
-- fm_70 ElevenBullocks.minute 0 i
def fm_70 (a1 : Int) (Q : Int → lf_Z → Prop) (s : lf_Z) : Prop := fm_15 a1 1 60 (fun z22 s21 => ((z22 = false → (Q (-1) s21)) ∧ (z22 = true → ((lf_w ((s21.1 15 7) + a1) ≤ 999 → (fm_71 a1 (fun z24 s23 => (fm_97 (fun r26 s25 => (Q r26 s25)) s23)) s21)) ∧ (¬ (lf_w ((s21.1 15 7) + a1) ≤ 999) → (Q (-1) s21)))))) s
set_option maxRecDepth 100000 in
theorem gm_70 {L : Nat} {xs : Nat → Int32} {d : Nat} {a1 : Int} {Q : Int → lf_Z → Prop} {s : lf_Z} (h : fm_70 a1 Q s) : lf_M (px_ro L xs) (d + 7) 70 [.ref 0, .int (Int32.ofInt a1)] s (lf_qi Q) := by
  unfold fm_70 at h
  show lf_E (px_ro L xs) (d + 7) 70 0 [(0, .ref 0), (1, .int (Int32.ofInt a1))] [] s _
  refine lf_seg 2 (pc' := 2) (lv' := [(0, .ref 0), (1, .int (Int32.ofInt a1))]) (st' := [.int (Int32.ofInt 1), .int (Int32.ofInt a1)]) rfl ?_
  refine lf_bipush 4 60 rfl rfl (by decide) (by decide) ?_
  refine lf_callZ 7 rfl rfl rfl rfl (gm_15 h) (fun z22 s21 h => ?_)
  refine lf_ifz_eq 25 10 rfl rfl rfl (fun c => ?_) (fun c => ?_)
  · have h := h.1 c
    refine lf_seg 1 (pc' := 26) (lv' := [(0, .ref 0), (1, .int (Int32.ofInt a1))]) (st' := [.int (Int32.ofInt (-1))]) rfl ?_
    exact lf_retI rfl rfl h
  · have h := h.2 c
    refine lf_seg 2 (pc' := 14) (lv' := [(0, .ref 0), (1, .int (Int32.ofInt a1))]) (st' := [.ref 15]) rfl ?_
    refine lf_getI 17 7 rfl rfl rfl rfl rfl rfl rfl ?_
    refine lf_seg 1 (pc' := 18) (lv' := [(0, .ref 0), (1, .int (Int32.ofInt a1))]) (st' := [.int (Int32.ofInt a1), .int (Int32.ofInt (s21.1 15 7))]) rfl ?_
    refine lf_iadd 19 rfl rfl ?_
    refine lf_wtI ?_
    refine lf_sipush 22 999 rfl rfl (by decide) (by decide) ?_
    refine lf_icmp_le 27 25 rfl rfl rfl lf_Rw ⟨by decide, by decide⟩ (fun c => ?_) (fun c => ?_)
    · have h := h.1 c
      refine lf_seg 2 (pc' := 29) (lv' := [(0, .ref 0), (1, .int (Int32.ofInt a1))]) (st' := [.int (Int32.ofInt a1), .ref 0]) rfl ?_
      refine lf_callZ 32 rfl rfl rfl rfl (gm_71 h) (fun z24 s23 h => ?_)
      refine lf_seg 3 (pc' := 37) (lv' := [(0, .ref 0), (1, .int (Int32.ofInt a1))]) (st' := [.ref 15]) rfl ?_
      refine lf_callI 40 rfl rfl rfl rfl (gm_97 h) (fun r26 s25 h => ?_)
      exact lf_retI rfl rfl h
    · have h := h.2 c
      refine lf_seg 1 (pc' := 26) (lv' := [(0, .ref 0), (1, .int (Int32.ofInt a1))]) (st' := [.int (Int32.ofInt (-1))]) rfl ?_
      exact lf_retI rfl rfl h
-- fm_255 Model.atOf 95 i
def fm_255 (a1 : Int) (Q : Int → lf_Z → Prop) (s : lf_Z) : Prop := (0 ≤ (114 + (3 * a1)) + 1 ∧ (114 + (3 * a1)) + 1 < 1538) ∧ (Q (s.1 96 ((114 + (3 * a1)) + 1)) s)
set_option maxRecDepth 100000 in
theorem gm_255 {L : Nat} {xs : Nat → Int32} {d : Nat} {a1 : Int} {Q : Int → lf_Z → Prop} {s : lf_Z} (h : fm_255 a1 Q s) : lf_M (px_ro L xs) (d + 1) 255 [.ref 95, .int (Int32.ofInt a1)] s (lf_qi Q) := by
  unfold fm_255 at h
  show lf_E (px_ro L xs) (d + 1) 255 0 [(0, .ref 95), (1, .int (Int32.ofInt a1))] [] s _
  refine lf_seg 2 (pc' := 4) (lv' := [(0, .ref 95), (1, .int (Int32.ofInt a1))]) (st' := [.ref 96]) rfl ?_
  refine lf_bipush 6 114 rfl rfl (by decide) (by decide) ?_
  refine lf_seg 2 (pc' := 8) (lv' := [(0, .ref 95), (1, .int (Int32.ofInt a1))]) (st' := [.int (Int32.ofInt a1), .int (Int32.ofInt 3), .int (Int32.ofInt 114), .ref 96]) rfl ?_
  refine lf_imul 9 rfl rfl ?_
  refine lf_iadd 10 rfl rfl ?_
  refine lf_seg 1 (pc' := 11) (lv' := [(0, .ref 95), (1, .int (Int32.ofInt a1))]) (st' := [.int (Int32.ofInt 1), .int (Int32.ofInt (114 + (3 * a1))), .ref 96]) rfl ?_
  refine lf_iadd 12 rfl rfl ?_
  obtain ⟨o21, h⟩ := h
  refine lf_iald 13 1538 rfl rfl rfl rfl rfl rfl o21 ?_
  exact lf_retI rfl rfl h
-- fm_278 Model.join 95
def fm_278_p79 (X2 : Int → lf_Z → Prop) (X11 : Int → lf_Z → Prop) (Q : lf_Z → Prop) (x1 : Int) (x2 : Int) (s : lf_Z) : Prop := X11 (x2 + 1) s
set_option maxRecDepth 100000 in
theorem gm_278_p79 {L : Nat} {xs : Nat → Int32} {d : Nat} {X2 : Int → lf_Z → Prop} {X11 : Int → lf_Z → Prop} {Q : lf_Z → Prop} {x1 : Int} {x2 : Int} {s : lf_Z} (hX2 : ∀ x1 s, X2 x1 s → lf_E (px_ro L xs) (d + 2) 278 2 [(0, .ref 95), (1, .int (Int32.ofInt x1))] [] s (lf_qv Q)) (hX11 : ∀ x2 s, X11 x2 s → lf_E (px_ro L xs) (d + 2) 278 11 [(0, .ref 95), (1, .int (Int32.ofInt x1)), (2, .int (Int32.ofInt x2))] [] s (lf_qv Q)) (h : fm_278_p79 X2 X11 Q x1 x2 s) : lf_E (px_ro L xs) (d + 2) 278 79 [(0, .ref 95), (1, .int (Int32.ofInt x1)), (2, .int (Int32.ofInt x2))] [] s (lf_qv Q) := by
  unfold fm_278_p79 at h
  refine lf_iinc 82 rfl rfl rfl rfl ?_
  refine lf_seg 1 (pc' := 11) (lv' := [(2, .int (Int32.ofInt (x2 + 1))), (0, .ref 95), (1, .int (Int32.ofInt x1))]) (st' := []) rfl ?_
  refine lf_sub (l := [(0, .ref 95), (1, .int (Int32.ofInt x1)), (2, .int (Int32.ofInt (x2 + 1)))]) (lf_sb1 rfl (lf_sb1 rfl (lf_sb1 rfl lf_sb0))) ?_
  exact hX11 _ _ h
def fm_278_p11 (X2 : Int → lf_Z → Prop) (Q : lf_Z → Prop) (x1 : Int) (X11 : Int → lf_Z → Prop) (x2 : Int) (s : lf_Z) : Prop := lf_R x2 ∧ ((4 ≤ x2 → (X2 (x1 + 1) s)) ∧ (¬ (4 ≤ x2) → (fm_242 x1 (fun r24 s23 => (lf_R r24 ∧ ((r24 = 0 → (fm_278_p79 X2 X11 Q x1 x2 s23)) ∧ (¬ (r24 = 0) → (fm_242 x2 (fun r27 s26 => (lf_R r27 ∧ ((r27 = 0 → (fm_278_p79 X2 X11 Q x1 x2 s26)) ∧ (¬ (r27 = 0) → (fm_255 x1 (fun r30 s29 => (fm_255 x2 (fun r32 s31 => (lf_R r30 ∧ (lf_R r32 ∧ ((r30 = r32 → ((0 ≤ 114 + (3 * x1) ∧ 114 + (3 * x1) < 1538) ∧ (fm_242 x2 (fun r37 s36 => ((0 ≤ 114 + (3 * x2) ∧ 114 + (3 * x2) < 1538) ∧ (fm_278_p79 X2 X11 Q x1 x2 (lf_up (lf_up s36.1 96 (114 + (3 * x1)) ((s31.1 96 (114 + (3 * x1))) + r37)) 96 (114 + (3 * x2)) 0, s36.2.1, s36.2.2)))) s31))) ∧ (¬ (r30 = r32) → (fm_278_p79 X2 X11 Q x1 x2 s31)))))) s29)) s26))))) s23))))) s)))
def fm_278_p11L (X2 : Int → lf_Z → Prop) (Q : lf_Z → Prop) (x1 : Int) (x2 : Int) (s : lf_Z) : Prop := ∀ X11 : Int → lf_Z → Prop, (∀ (x2 : Int) (s : lf_Z), fm_278_p11 X2 Q x1 X11 x2 s → X11 x2 s) → X11 x2 s
set_option maxRecDepth 100000 in
theorem gm_278_p11 {L : Nat} {xs : Nat → Int32} {d : Nat} {X2 : Int → lf_Z → Prop} {Q : lf_Z → Prop} {x1 : Int} {x2 : Int} {s : lf_Z} {X11 : Int → lf_Z → Prop} (hX2 : ∀ x1 s, X2 x1 s → lf_E (px_ro L xs) (d + 2) 278 2 [(0, .ref 95), (1, .int (Int32.ofInt x1))] [] s (lf_qv Q)) (hX11 : ∀ x2 s, X11 x2 s → lf_E (px_ro L xs) (d + 2) 278 11 [(0, .ref 95), (1, .int (Int32.ofInt x1)), (2, .int (Int32.ofInt x2))] [] s (lf_qv Q)) (h : fm_278_p11 X2 Q x1 X11 x2 s) : lf_E (px_ro L xs) (d + 2) 278 11 [(0, .ref 95), (1, .int (Int32.ofInt x1)), (2, .int (Int32.ofInt x2))] [] s (lf_qv Q) := by
  unfold fm_278_p11 at h
  refine lf_seg 2 (pc' := 13) (lv' := [(0, .ref 95), (1, .int (Int32.ofInt x1)), (2, .int (Int32.ofInt x2))]) (st' := [.int (Int32.ofInt 4), .int (Int32.ofInt x2)]) rfl ?_
  obtain ⟨o22, h⟩ := h
  refine lf_icmp_ge 85 16 rfl rfl rfl o22 ⟨by decide, by decide⟩ (fun c => ?_) (fun c => ?_)
  · have h := h.1 c
    refine lf_iinc 88 rfl rfl rfl rfl ?_
    refine lf_seg 1 (pc' := 2) (lv' := [(1, .int (Int32.ofInt (x1 + 1))), (0, .ref 95), (2, .int (Int32.ofInt x2))]) (st' := []) rfl ?_
    refine lf_sub (l := [(0, .ref 95), (1, .int (Int32.ofInt (x1 + 1)))]) (lf_sb1 rfl (lf_sb1 rfl lf_sb0)) ?_
    exact hX2 _ _ h
  · have h := h.2 c
    refine lf_seg 2 (pc' := 18) (lv' := [(0, .ref 95), (1, .int (Int32.ofInt x1)), (2, .int (Int32.ofInt x2))]) (st' := [.int (Int32.ofInt x1), .ref 95]) rfl ?_
    refine lf_callI 21 rfl rfl rfl rfl (gm_242 h) (fun r24 s23 h => ?_)
    obtain ⟨o25, h⟩ := h
    refine lf_if_eq 79 24 rfl rfl rfl o25 (fun c => ?_) (fun c => ?_)
    · have h := h.1 c
      refine lf_sub (l := [(0, .ref 95), (1, .int (Int32.ofInt x1)), (2, .int (Int32.ofInt x2))]) (lf_sb1 rfl (lf_sb1 rfl (lf_sb1 rfl lf_sb0))) ?_
      exact gm_278_p79 hX2 hX11 h
    · have h := h.2 c
      refine lf_seg 2 (pc' := 26) (lv' := [(0, .ref 95), (1, .int (Int32.ofInt x1)), (2, .int (Int32.ofInt x2))]) (st' := [.int (Int32.ofInt x2), .ref 95]) rfl ?_
      refine lf_callI 29 rfl rfl rfl rfl (gm_242 h) (fun r27 s26 h => ?_)
      obtain ⟨o28, h⟩ := h
      refine lf_if_eq 79 32 rfl rfl rfl o28 (fun c => ?_) (fun c => ?_)
      · have h := h.1 c
        refine lf_sub (l := [(0, .ref 95), (1, .int (Int32.ofInt x1)), (2, .int (Int32.ofInt x2))]) (lf_sb1 rfl (lf_sb1 rfl (lf_sb1 rfl lf_sb0))) ?_
        exact gm_278_p79 hX2 hX11 h
      · have h := h.2 c
        refine lf_seg 2 (pc' := 34) (lv' := [(0, .ref 95), (1, .int (Int32.ofInt x1)), (2, .int (Int32.ofInt x2))]) (st' := [.int (Int32.ofInt x1), .ref 95]) rfl ?_
        refine lf_callI 37 rfl rfl rfl rfl (gm_255 h) (fun r30 s29 h => ?_)
        refine lf_seg 2 (pc' := 39) (lv' := [(0, .ref 95), (1, .int (Int32.ofInt x1)), (2, .int (Int32.ofInt x2))]) (st' := [.int (Int32.ofInt x2), .ref 95, .int (Int32.ofInt r30)]) rfl ?_
        refine lf_callI 42 rfl rfl rfl rfl (gm_255 h) (fun r32 s31 h => ?_)
        obtain ⟨o33, h⟩ := h
        obtain ⟨o34, h⟩ := h
        refine lf_icmp_eq 48 45 rfl rfl rfl o33 o34 (fun c => ?_) (fun c => ?_)
        · have h := h.1 c
          refine lf_seg 2 (pc' := 52) (lv' := [(0, .ref 95), (1, .int (Int32.ofInt x1)), (2, .int (Int32.ofInt x2))]) (st' := [.ref 96]) rfl ?_
          refine lf_bipush 54 114 rfl rfl (by decide) (by decide) ?_
          refine lf_seg 2 (pc' := 56) (lv' := [(0, .ref 95), (1, .int (Int32.ofInt x1)), (2, .int (Int32.ofInt x2))]) (st' := [.int (Int32.ofInt x1), .int (Int32.ofInt 3), .int (Int32.ofInt 114), .ref 96]) rfl ?_
          refine lf_imul 57 rfl rfl ?_
          refine lf_iadd 58 rfl rfl ?_
          refine lf_seg 1 (pc' := 59) (lv' := [(0, .ref 95), (1, .int (Int32.ofInt x1)), (2, .int (Int32.ofInt x2))]) (st' := [.int (Int32.ofInt (114 + (3 * x1))), .ref 96, .int (Int32.ofInt (114 + (3 * x1))), .ref 96]) rfl ?_
          obtain ⟨o35, h⟩ := h
          refine lf_iald 60 1538 rfl rfl rfl rfl rfl rfl o35 ?_
          refine lf_seg 2 (pc' := 62) (lv' := [(0, .ref 95), (1, .int (Int32.ofInt x1)), (2, .int (Int32.ofInt x2))]) (st' := [.int (Int32.ofInt x2), .ref 95, .int (Int32.ofInt (s31.1 96 (114 + (3 * x1)))), .int (Int32.ofInt (114 + (3 * x1))), .ref 96]) rfl ?_
          refine lf_callI 65 rfl rfl rfl rfl (gm_242 h) (fun r37 s36 h => ?_)
          refine lf_iadd 66 rfl rfl ?_
          refine lf_iast 67 1538 rfl rfl rfl rfl rfl rfl o35 ?_
          refine lf_as (lf_up s36.1 96 (114 + (3 * x1)) ((s31.1 96 (114 + (3 * x1))) + r37), s36.2.1, s36.2.2) rfl ?_
          refine lf_seg 2 (pc' := 71) (lv' := [(0, .ref 95), (1, .int (Int32.ofInt x1)), (2, .int (Int32.ofInt x2))]) (st' := [.ref 96]) rfl ?_
          refine lf_bipush 73 114 rfl rfl (by decide) (by decide) ?_
          refine lf_seg 2 (pc' := 75) (lv' := [(0, .ref 95), (1, .int (Int32.ofInt x1)), (2, .int (Int32.ofInt x2))]) (st' := [.int (Int32.ofInt x2), .int (Int32.ofInt 3), .int (Int32.ofInt 114), .ref 96]) rfl ?_
          refine lf_imul 76 rfl rfl ?_
          refine lf_iadd 77 rfl rfl ?_
          refine lf_seg 1 (pc' := 78) (lv' := [(0, .ref 95), (1, .int (Int32.ofInt x1)), (2, .int (Int32.ofInt x2))]) (st' := [.int (Int32.ofInt 0), .int (Int32.ofInt (114 + (3 * x2))), .ref 96]) rfl ?_
          obtain ⟨o38, h⟩ := h
          refine lf_iast 79 1538 rfl rfl rfl rfl rfl rfl o38 ?_
          refine lf_as (lf_up (lf_up s36.1 96 (114 + (3 * x1)) ((s31.1 96 (114 + (3 * x1))) + r37)) 96 (114 + (3 * x2)) 0, s36.2.1, s36.2.2) rfl ?_
          refine lf_sub (l := [(0, .ref 95), (1, .int (Int32.ofInt x1)), (2, .int (Int32.ofInt x2))]) (lf_sb1 rfl (lf_sb1 rfl (lf_sb1 rfl lf_sb0))) ?_
          exact gm_278_p79 hX2 hX11 h
        · have h := h.2 c
          refine lf_seg 1 (pc' := 79) (lv' := [(0, .ref 95), (1, .int (Int32.ofInt x1)), (2, .int (Int32.ofInt x2))]) (st' := []) rfl ?_
          refine lf_sub (l := [(0, .ref 95), (1, .int (Int32.ofInt x1)), (2, .int (Int32.ofInt x2))]) (lf_sb1 rfl (lf_sb1 rfl (lf_sb1 rfl lf_sb0))) ?_
          exact gm_278_p79 hX2 hX11 h
theorem gm_278_p11L {L : Nat} {xs : Nat → Int32} {d : Nat} {X2 : Int → lf_Z → Prop} {Q : lf_Z → Prop} {x1 : Int} {x2 : Int} {s : lf_Z} (hX2 : ∀ x1 s, X2 x1 s → lf_E (px_ro L xs) (d + 2) 278 2 [(0, .ref 95), (1, .int (Int32.ofInt x1))] [] s (lf_qv Q)) (h : fm_278_p11L X2 Q x1 x2 s) : lf_E (px_ro L xs) (d + 2) 278 11 [(0, .ref 95), (1, .int (Int32.ofInt x1)), (2, .int (Int32.ofInt x2))] [] s (lf_qv Q) :=
  h (fun x2 s => lf_E (px_ro L xs) (d + 2) 278 11 [(0, .ref 95), (1, .int (Int32.ofInt x1)), (2, .int (Int32.ofInt x2))] [] s (lf_qv Q)) (fun x2 s hb => gm_278_p11 hX2 (fun _ _ h => h) hb)
def fm_278_p2 (Q : lf_Z → Prop) (X2 : Int → lf_Z → Prop) (x1 : Int) (s : lf_Z) : Prop := lf_R x1 ∧ ((4 ≤ x1 → (Q s)) ∧ (¬ (4 ≤ x1) → (fm_278_p11L X2 Q x1 (x1 + 1) s)))
def fm_278_p2L (Q : lf_Z → Prop) (x1 : Int) (s : lf_Z) : Prop := ∀ X2 : Int → lf_Z → Prop, (∀ (x1 : Int) (s : lf_Z), fm_278_p2 Q X2 x1 s → X2 x1 s) → X2 x1 s
set_option maxRecDepth 100000 in
theorem gm_278_p2 {L : Nat} {xs : Nat → Int32} {d : Nat} {Q : lf_Z → Prop} {x1 : Int} {s : lf_Z} {X2 : Int → lf_Z → Prop} (hX2 : ∀ x1 s, X2 x1 s → lf_E (px_ro L xs) (d + 2) 278 2 [(0, .ref 95), (1, .int (Int32.ofInt x1))] [] s (lf_qv Q)) (h : fm_278_p2 Q X2 x1 s) : lf_E (px_ro L xs) (d + 2) 278 2 [(0, .ref 95), (1, .int (Int32.ofInt x1))] [] s (lf_qv Q) := by
  unfold fm_278_p2 at h
  refine lf_seg 2 (pc' := 4) (lv' := [(0, .ref 95), (1, .int (Int32.ofInt x1))]) (st' := [.int (Int32.ofInt 4), .int (Int32.ofInt x1)]) rfl ?_
  obtain ⟨o21, h⟩ := h
  refine lf_icmp_ge 91 7 rfl rfl rfl o21 ⟨by decide, by decide⟩ (fun c => ?_) (fun c => ?_)
  · have h := h.1 c
    exact lf_retV rfl rfl h
  · have h := h.2 c
    refine lf_seg 2 (pc' := 9) (lv' := [(0, .ref 95), (1, .int (Int32.ofInt x1))]) (st' := [.int (Int32.ofInt 1), .int (Int32.ofInt x1)]) rfl ?_
    refine lf_iadd 10 rfl rfl ?_
    refine lf_seg 1 (pc' := 11) (lv' := [(2, .int (Int32.ofInt (x1 + 1))), (0, .ref 95), (1, .int (Int32.ofInt x1))]) (st' := []) rfl ?_
    refine lf_sub (l := [(0, .ref 95), (1, .int (Int32.ofInt x1)), (2, .int (Int32.ofInt (x1 + 1)))]) (lf_sb1 rfl (lf_sb1 rfl (lf_sb1 rfl lf_sb0))) ?_
    exact gm_278_p11L hX2 h
theorem gm_278_p2L {L : Nat} {xs : Nat → Int32} {d : Nat} {Q : lf_Z → Prop} {x1 : Int} {s : lf_Z} (h : fm_278_p2L Q x1 s) : lf_E (px_ro L xs) (d + 2) 278 2 [(0, .ref 95), (1, .int (Int32.ofInt x1))] [] s (lf_qv Q) :=
  h (fun x1 s => lf_E (px_ro L xs) (d + 2) 278 2 [(0, .ref 95), (1, .int (Int32.ofInt x1))] [] s (lf_qv Q)) (fun x1 s hb => gm_278_p2 (fun _ _ h => h) hb)
def fm_278 (Q : lf_Z → Prop) (s : lf_Z) : Prop := fm_278_p2L Q 0 s
set_option maxRecDepth 100000 in
theorem gm_278 {L : Nat} {xs : Nat → Int32} {d : Nat} {Q : lf_Z → Prop} {s : lf_Z} (h : fm_278 Q s) : lf_M (px_ro L xs) (d + 2) 278 [.ref 95] s (lf_qv Q) := by
  unfold fm_278 at h
  show lf_E (px_ro L xs) (d + 2) 278 0 [(0, .ref 95)] [] s _
  refine lf_seg 2 (pc' := 2) (lv' := [(1, .int (Int32.ofInt 0)), (0, .ref 95)]) (st' := []) rfl ?_
  refine lf_sub (l := [(0, .ref 95), (1, .int (Int32.ofInt 0))]) (lf_sb1 rfl (lf_sb1 rfl lf_sb0)) ?_
  exact gm_278_p2L h
-- fm_277 Model.harmOf 95 i
def fm_277 (a1 : Int) (Q : Int → lf_Z → Prop) (s : lf_Z) : Prop := (0 ≤ (14 + (3 * a1)) + 1 ∧ (14 + (3 * a1)) + 1 < 1538) ∧ (Q (s.1 96 ((14 + (3 * a1)) + 1)) s)
set_option maxRecDepth 100000 in
theorem gm_277 {L : Nat} {xs : Nat → Int32} {d : Nat} {a1 : Int} {Q : Int → lf_Z → Prop} {s : lf_Z} (h : fm_277 a1 Q s) : lf_M (px_ro L xs) (d + 1) 277 [.ref 95, .int (Int32.ofInt a1)] s (lf_qi Q) := by
  unfold fm_277 at h
  show lf_E (px_ro L xs) (d + 1) 277 0 [(0, .ref 95), (1, .int (Int32.ofInt a1))] [] s _
  refine lf_seg 2 (pc' := 4) (lv' := [(0, .ref 95), (1, .int (Int32.ofInt a1))]) (st' := [.ref 96]) rfl ?_
  refine lf_bipush 6 14 rfl rfl (by decide) (by decide) ?_
  refine lf_seg 2 (pc' := 8) (lv' := [(0, .ref 95), (1, .int (Int32.ofInt a1))]) (st' := [.int (Int32.ofInt a1), .int (Int32.ofInt 3), .int (Int32.ofInt 14), .ref 96]) rfl ?_
  refine lf_imul 9 rfl rfl ?_
  refine lf_iadd 10 rfl rfl ?_
  refine lf_seg 1 (pc' := 11) (lv' := [(0, .ref 95), (1, .int (Int32.ofInt a1))]) (st' := [.int (Int32.ofInt 1), .int (Int32.ofInt (14 + (3 * a1))), .ref 96]) rfl ?_
  refine lf_iadd 12 rfl rfl ?_
  obtain ⟨o21, h⟩ := h
  refine lf_iald 13 1538 rfl rfl rfl rfl rfl rfl o21 ?_
  exact lf_retI rfl rfl h
-- fm_265 Model.kindOf 95 i
def fm_265 (a1 : Int) (Q : Int → lf_Z → Prop) (s : lf_Z) : Prop := (0 ≤ 14 + (3 * a1) ∧ 14 + (3 * a1) < 1538) ∧ (Q (s.1 96 (14 + (3 * a1))) s)
set_option maxRecDepth 100000 in
theorem gm_265 {L : Nat} {xs : Nat → Int32} {d : Nat} {a1 : Int} {Q : Int → lf_Z → Prop} {s : lf_Z} (h : fm_265 a1 Q s) : lf_M (px_ro L xs) (d + 1) 265 [.ref 95, .int (Int32.ofInt a1)] s (lf_qi Q) := by
  unfold fm_265 at h
  show lf_E (px_ro L xs) (d + 1) 265 0 [(0, .ref 95), (1, .int (Int32.ofInt a1))] [] s _
  refine lf_seg 2 (pc' := 4) (lv' := [(0, .ref 95), (1, .int (Int32.ofInt a1))]) (st' := [.ref 96]) rfl ?_
  refine lf_bipush 6 14 rfl rfl (by decide) (by decide) ?_
  refine lf_seg 2 (pc' := 8) (lv' := [(0, .ref 95), (1, .int (Int32.ofInt a1))]) (st' := [.int (Int32.ofInt a1), .int (Int32.ofInt 3), .int (Int32.ofInt 14), .ref 96]) rfl ?_
  refine lf_imul 9 rfl rfl ?_
  refine lf_iadd 10 rfl rfl ?_
  obtain ⟨o21, h⟩ := h
  refine lf_iald 11 1538 rfl rfl rfl rfl rfl rfl o21 ?_
  exact lf_retI rfl rfl h
-- fm_266 Model.peopleAt 95 i
def fm_266_p45 (X19 : Int → Int → lf_Z → Prop) (Q : Int → lf_Z → Prop) (x1 : Int) (x3 : Int) (y0 : Int) (y1 : Int) (s : lf_Z) : Prop := X19 (lf_w (y0 + y1)) (x3 + 1) s
set_option maxRecDepth 100000 in
theorem gm_266_p45 {L : Nat} {xs : Nat → Int32} {d : Nat} {X19 : Int → Int → lf_Z → Prop} {Q : Int → lf_Z → Prop} {x1 : Int} {x3 : Int} {y0 : Int} {y1 : Int} {s : lf_Z} (hX19 : ∀ x2 x3 s, X19 x2 x3 s → lf_E (px_ro L xs) (d + 2) 266 19 [(0, .ref 95), (1, .int (Int32.ofInt x1)), (2, .int (Int32.ofInt x2)), (3, .int (Int32.ofInt x3))] [] s (lf_qi Q)) (h : fm_266_p45 X19 Q x1 x3 y0 y1 s) : lf_E (px_ro L xs) (d + 2) 266 45 [(0, .ref 95), (1, .int (Int32.ofInt x1)), (3, .int (Int32.ofInt x3))] [.int (Int32.ofInt y1), .int (Int32.ofInt y0)] s (lf_qi Q) := by
  unfold fm_266_p45 at h
  refine lf_iadd 46 rfl rfl ?_
  refine lf_wtI ?_
  refine lf_seg 1 (pc' := 47) (lv' := [(2, .int (Int32.ofInt (lf_w (y0 + y1)))), (0, .ref 95), (1, .int (Int32.ofInt x1)), (3, .int (Int32.ofInt x3))]) (st' := []) rfl ?_
  refine lf_iinc 50 rfl rfl rfl rfl ?_
  refine lf_seg 1 (pc' := 19) (lv' := [(3, .int (Int32.ofInt (x3 + 1))), (2, .int (Int32.ofInt (lf_w (y0 + y1)))), (0, .ref 95), (1, .int (Int32.ofInt x1))]) (st' := []) rfl ?_
  refine lf_sub (l := [(0, .ref 95), (1, .int (Int32.ofInt x1)), (2, .int (Int32.ofInt (lf_w (y0 + y1)))), (3, .int (Int32.ofInt (x3 + 1)))]) (lf_sb1 rfl (lf_sb1 rfl (lf_sb1 rfl (lf_sb1 rfl lf_sb0)))) ?_
  exact hX19 _ _ _ h
def fm_266_p19 (Q : Int → lf_Z → Prop) (x1 : Int) (X19 : Int → Int → lf_Z → Prop) (x2 : Int) (x3 : Int) (s : lf_Z) : Prop := lf_R x3 ∧ (lf_R (s.1 96 2) ∧ ((s.1 96 2 ≤ x3 → (Q x2 s)) ∧ (¬ (s.1 96 2 ≤ x3) → (fm_239 x3 (fun r26 s25 => (lf_R r26 ∧ (lf_R x1 ∧ ((r26 ≠ x1 → (fm_266_p45 X19 Q x1 x3 x2 0 s25)) ∧ (¬ (r26 ≠ x1) → (fm_266_p45 X19 Q x1 x3 x2 1 s25)))))) s))))
def fm_266_p19L (Q : Int → lf_Z → Prop) (x1 : Int) (x2 : Int) (x3 : Int) (s : lf_Z) : Prop := ∀ X19 : Int → Int → lf_Z → Prop, (∀ (x2 : Int) (x3 : Int) (s : lf_Z), fm_266_p19 Q x1 X19 x2 x3 s → X19 x2 x3 s) → X19 x2 x3 s
set_option maxRecDepth 100000 in
theorem gm_266_p19 {L : Nat} {xs : Nat → Int32} {d : Nat} {Q : Int → lf_Z → Prop} {x1 : Int} {x2 : Int} {x3 : Int} {s : lf_Z} {X19 : Int → Int → lf_Z → Prop} (hX19 : ∀ x2 x3 s, X19 x2 x3 s → lf_E (px_ro L xs) (d + 2) 266 19 [(0, .ref 95), (1, .int (Int32.ofInt x1)), (2, .int (Int32.ofInt x2)), (3, .int (Int32.ofInt x3))] [] s (lf_qi Q)) (h : fm_266_p19 Q x1 X19 x2 x3 s) : lf_E (px_ro L xs) (d + 2) 266 19 [(0, .ref 95), (1, .int (Int32.ofInt x1)), (2, .int (Int32.ofInt x2)), (3, .int (Int32.ofInt x3))] [] s (lf_qi Q) := by
  unfold fm_266_p19 at h
  refine lf_seg 4 (pc' := 25) (lv' := [(0, .ref 95), (1, .int (Int32.ofInt x1)), (2, .int (Int32.ofInt x2)), (3, .int (Int32.ofInt x3))]) (st' := [.int (Int32.ofInt 2), .ref 96, .int (Int32.ofInt x3)]) rfl ?_
  refine lf_iald 26 1538 rfl rfl rfl rfl rfl rfl ⟨by decide, by decide⟩ ?_
  obtain ⟨o23, h⟩ := h
  obtain ⟨o24, h⟩ := h
  refine lf_icmp_ge 53 29 rfl rfl rfl o23 o24 (fun c => ?_) (fun c => ?_)
  · have h := h.1 c
    refine lf_seg 1 (pc' := 54) (lv' := [(0, .ref 95), (1, .int (Int32.ofInt x1)), (2, .int (Int32.ofInt x2)), (3, .int (Int32.ofInt x3))]) (st' := [.int (Int32.ofInt x2)]) rfl ?_
    exact lf_retI rfl rfl h
  · have h := h.2 c
    refine lf_seg 4 (pc' := 33) (lv' := [(0, .ref 95), (1, .int (Int32.ofInt x1)), (2, .int (Int32.ofInt x2)), (3, .int (Int32.ofInt x3))]) (st' := [.int (Int32.ofInt 3), .int (Int32.ofInt x3), .ref 95, .int (Int32.ofInt x2)]) rfl ?_
    refine lf_callI 36 rfl rfl rfl rfl (gm_239 h) (fun r26 s25 h => ?_)
    refine lf_seg 1 (pc' := 37) (lv' := [(0, .ref 95), (1, .int (Int32.ofInt x1)), (2, .int (Int32.ofInt x2)), (3, .int (Int32.ofInt x3))]) (st' := [.int (Int32.ofInt x1), .int (Int32.ofInt r26), .int (Int32.ofInt x2)]) rfl ?_
    obtain ⟨o27, h⟩ := h
    obtain ⟨o28, h⟩ := h
    refine lf_icmp_ne 44 40 rfl rfl rfl o27 o28 (fun c => ?_) (fun c => ?_)
    · have h := h.1 c
      refine lf_seg 1 (pc' := 45) (lv' := [(0, .ref 95), (1, .int (Int32.ofInt x1)), (2, .int (Int32.ofInt x2)), (3, .int (Int32.ofInt x3))]) (st' := [.int (Int32.ofInt 0), .int (Int32.ofInt x2)]) rfl ?_
      refine lf_sub (l := [(0, .ref 95), (1, .int (Int32.ofInt x1)), (3, .int (Int32.ofInt x3))]) (lf_sb1 rfl (lf_sb1 rfl (lf_sb1 rfl lf_sb0))) ?_
      exact gm_266_p45 hX19 h
    · have h := h.2 c
      refine lf_seg 2 (pc' := 45) (lv' := [(0, .ref 95), (1, .int (Int32.ofInt x1)), (2, .int (Int32.ofInt x2)), (3, .int (Int32.ofInt x3))]) (st' := [.int (Int32.ofInt 1), .int (Int32.ofInt x2)]) rfl ?_
      refine lf_sub (l := [(0, .ref 95), (1, .int (Int32.ofInt x1)), (3, .int (Int32.ofInt x3))]) (lf_sb1 rfl (lf_sb1 rfl (lf_sb1 rfl lf_sb0))) ?_
      exact gm_266_p45 hX19 h
theorem gm_266_p19L {L : Nat} {xs : Nat → Int32} {d : Nat} {Q : Int → lf_Z → Prop} {x1 : Int} {x2 : Int} {x3 : Int} {s : lf_Z} (h : fm_266_p19L Q x1 x2 x3 s) : lf_E (px_ro L xs) (d + 2) 266 19 [(0, .ref 95), (1, .int (Int32.ofInt x1)), (2, .int (Int32.ofInt x2)), (3, .int (Int32.ofInt x3))] [] s (lf_qi Q) :=
  h (fun x2 x3 s => lf_E (px_ro L xs) (d + 2) 266 19 [(0, .ref 95), (1, .int (Int32.ofInt x1)), (2, .int (Int32.ofInt x2)), (3, .int (Int32.ofInt x3))] [] s (lf_qi Q)) (fun x2 x3 s hb => gm_266_p19 (fun _ _ _ h => h) hb)
def fm_266_p16 (Q : Int → lf_Z → Prop) (x1 : Int) (y0 : Int) (s : lf_Z) : Prop := fm_266_p19L Q x1 y0 0 s
set_option maxRecDepth 100000 in
theorem gm_266_p16 {L : Nat} {xs : Nat → Int32} {d : Nat} {Q : Int → lf_Z → Prop} {x1 : Int} {y0 : Int} {s : lf_Z} (h : fm_266_p16 Q x1 y0 s) : lf_E (px_ro L xs) (d + 2) 266 16 [(0, .ref 95), (1, .int (Int32.ofInt x1))] [.int (Int32.ofInt y0)] s (lf_qi Q) := by
  unfold fm_266_p16 at h
  refine lf_seg 3 (pc' := 19) (lv' := [(3, .int (Int32.ofInt 0)), (2, .int (Int32.ofInt y0)), (0, .ref 95), (1, .int (Int32.ofInt x1))]) (st' := []) rfl ?_
  refine lf_sub (l := [(0, .ref 95), (1, .int (Int32.ofInt x1)), (2, .int (Int32.ofInt y0)), (3, .int (Int32.ofInt 0))]) (lf_sb1 rfl (lf_sb1 rfl (lf_sb1 rfl (lf_sb1 rfl lf_sb0)))) ?_
  exact gm_266_p19L h
def fm_266 (a1 : Int) (Q : Int → lf_Z → Prop) (s : lf_Z) : Prop := fm_210 (s.1 95 29) a1 (fun z22 s21 => ((z22 = false → (fm_266_p16 Q a1 0 s21)) ∧ (z22 = true → (fm_266_p16 Q a1 1 s21)))) s
set_option maxRecDepth 100000 in
theorem gm_266 {L : Nat} {xs : Nat → Int32} {d : Nat} {a1 : Int} {Q : Int → lf_Z → Prop} {s : lf_Z} (h : fm_266 a1 Q s) : lf_M (px_ro L xs) (d + 2) 266 [.ref 95, .int (Int32.ofInt a1)] s (lf_qi Q) := by
  unfold fm_266 at h
  show lf_E (px_ro L xs) (d + 2) 266 0 [(0, .ref 95), (1, .int (Int32.ofInt a1))] [] s _
  refine lf_seg 1 (pc' := 1) (lv' := [(0, .ref 95), (1, .int (Int32.ofInt a1))]) (st' := [.ref 95]) rfl ?_
  refine lf_getI 4 29 rfl rfl rfl rfl rfl rfl rfl ?_
  refine lf_seg 1 (pc' := 5) (lv' := [(0, .ref 95), (1, .int (Int32.ofInt a1))]) (st' := [.int (Int32.ofInt a1), .int (Int32.ofInt (s.1 95 29))]) rfl ?_
  refine lf_callZ 8 rfl rfl rfl rfl (gm_210 h) (fun z22 s21 h => ?_)
  refine lf_ifz_eq 15 11 rfl rfl rfl (fun c => ?_) (fun c => ?_)
  · have h := h.1 c
    refine lf_seg 1 (pc' := 16) (lv' := [(0, .ref 95), (1, .int (Int32.ofInt a1))]) (st' := [.int (Int32.ofInt 0)]) rfl ?_
    refine lf_sub (l := [(0, .ref 95), (1, .int (Int32.ofInt a1))]) (lf_sb1 rfl (lf_sb1 rfl lf_sb0)) ?_
    exact gm_266_p16 h
  · have h := h.2 c
    refine lf_seg 2 (pc' := 16) (lv' := [(0, .ref 95), (1, .int (Int32.ofInt a1))]) (st' := [.int (Int32.ofInt 1)]) rfl ?_
    refine lf_sub (l := [(0, .ref 95), (1, .int (Int32.ofInt a1))]) (lf_sb1 rfl (lf_sb1 rfl lf_sb0)) ?_
    exact gm_266_p16 h
-- fm_264 Model.name 95 i i
def fm_264 (a1 : Int) (a2 : Int) (Q : lf_Z → Prop) (s : lf_Z) : Prop := fm_265 a2 (fun r22 s21 => (fm_266 a2 (fun r24 s23 => (Q (lf_up s23.1 104 3 r24, s23.2.1, s23.2.2))) (lf_up s21.1 104 2 r22, s21.2.1, s21.2.2))) (lf_up (lf_up s.1 104 0 a1) 104 1 a2, s.2.1, s.2.2)
set_option maxRecDepth 100000 in
theorem gm_264 {L : Nat} {xs : Nat → Int32} {d : Nat} {a1 : Int} {a2 : Int} {Q : lf_Z → Prop} {s : lf_Z} (h : fm_264 a1 a2 Q s) : lf_M (px_ro L xs) (d + 3) 264 [.ref 95, .int (Int32.ofInt a1), .int (Int32.ofInt a2)] s (lf_qv Q) := by
  unfold fm_264 at h
  show lf_E (px_ro L xs) (d + 3) 264 0 [(0, .ref 95), (1, .int (Int32.ofInt a1)), (2, .int (Int32.ofInt a2))] [] s _
  refine lf_seg 4 (pc' := 6) (lv' := [(0, .ref 95), (1, .int (Int32.ofInt a1)), (2, .int (Int32.ofInt a2))]) (st' := [.int (Int32.ofInt a1), .int (Int32.ofInt 0), .ref 104]) rfl ?_
  refine lf_iast 7 11 rfl rfl rfl rfl rfl rfl ⟨by decide, by decide⟩ ?_
  refine lf_as (lf_up s.1 104 0 a1, s.2.1, s.2.2) rfl ?_
  refine lf_seg 4 (pc' := 13) (lv' := [(0, .ref 95), (1, .int (Int32.ofInt a1)), (2, .int (Int32.ofInt a2))]) (st' := [.int (Int32.ofInt a2), .int (Int32.ofInt 1), .ref 104]) rfl ?_
  refine lf_iast 14 11 rfl rfl rfl rfl rfl rfl ⟨by decide, by decide⟩ ?_
  refine lf_as (lf_up (lf_up s.1 104 0 a1) 104 1 a2, s.2.1, s.2.2) rfl ?_
  refine lf_seg 5 (pc' := 21) (lv' := [(0, .ref 95), (1, .int (Int32.ofInt a1)), (2, .int (Int32.ofInt a2))]) (st' := [.int (Int32.ofInt a2), .ref 95, .int (Int32.ofInt 2), .ref 104]) rfl ?_
  refine lf_callI 24 rfl rfl rfl rfl (gm_265 h) (fun r22 s21 h => ?_)
  refine lf_iast 25 11 rfl rfl rfl rfl rfl rfl ⟨by decide, by decide⟩ ?_
  refine lf_as (lf_up s21.1 104 2 r22, s21.2.1, s21.2.2) rfl ?_
  refine lf_seg 5 (pc' := 32) (lv' := [(0, .ref 95), (1, .int (Int32.ofInt a1)), (2, .int (Int32.ofInt a2))]) (st' := [.int (Int32.ofInt a2), .ref 95, .int (Int32.ofInt 3), .ref 104]) rfl ?_
  refine lf_callI 35 rfl rfl rfl rfl (gm_266 h) (fun r24 s23 h => ?_)
  refine lf_iast 36 11 rfl rfl rfl rfl rfl rfl ⟨by decide, by decide⟩ ?_
  refine lf_as (lf_up s23.1 104 3 r24, s23.2.1, s23.2.2) rfl ?_
  exact lf_retV rfl rfl h
-- fm_256 Model.cameOf 95 i
def fm_256 (a1 : Int) (Q : Int → lf_Z → Prop) (s : lf_Z) : Prop := (0 ≤ (114 + (3 * a1)) + 2 ∧ (114 + (3 * a1)) + 2 < 1538) ∧ (Q (s.1 96 ((114 + (3 * a1)) + 2)) s)
set_option maxRecDepth 100000 in
theorem gm_256 {L : Nat} {xs : Nat → Int32} {d : Nat} {a1 : Int} {Q : Int → lf_Z → Prop} {s : lf_Z} (h : fm_256 a1 Q s) : lf_M (px_ro L xs) (d + 1) 256 [.ref 95, .int (Int32.ofInt a1)] s (lf_qi Q) := by
  unfold fm_256 at h
  show lf_E (px_ro L xs) (d + 1) 256 0 [(0, .ref 95), (1, .int (Int32.ofInt a1))] [] s _
  refine lf_seg 2 (pc' := 4) (lv' := [(0, .ref 95), (1, .int (Int32.ofInt a1))]) (st' := [.ref 96]) rfl ?_
  refine lf_bipush 6 114 rfl rfl (by decide) (by decide) ?_
  refine lf_seg 2 (pc' := 8) (lv' := [(0, .ref 95), (1, .int (Int32.ofInt a1))]) (st' := [.int (Int32.ofInt a1), .int (Int32.ofInt 3), .int (Int32.ofInt 114), .ref 96]) rfl ?_
  refine lf_imul 9 rfl rfl ?_
  refine lf_iadd 10 rfl rfl ?_
  refine lf_seg 1 (pc' := 11) (lv' := [(0, .ref 95), (1, .int (Int32.ofInt a1))]) (st' := [.int (Int32.ofInt 2), .int (Int32.ofInt (114 + (3 * a1))), .ref 96]) rfl ?_
  refine lf_iadd 12 rfl rfl ?_
  obtain ⟨o21, h⟩ := h
  refine lf_iald 13 1538 rfl rfl rfl rfl rfl rfl o21 ?_
  exact lf_retI rfl rfl h
-- fm_271 Model.isAsked i l l
def fm_271 (a0 : Int) (a1 : Int) (a2 : Int) (Q : Bool → lf_Z → Prop) (s : lf_Z) : Prop := lf_R a0 ∧ ((a0 ≠ 10 → ((a0 ≠ 11 → ((a0 ≠ 12 → ((a0 ≠ 13 → ((a0 ≠ 14 → ((lf_wl a1 = lf_wl a2 → (Q false s)) ∧ (¬ (lf_wl a1 = lf_wl a2) → (Q true s)))) ∧ (¬ (a0 ≠ 14) → ((lf_wl a1 ≠ lf_wl a2 → (Q false s)) ∧ (¬ (lf_wl a1 ≠ lf_wl a2) → (Q true s)))))) ∧ (¬ (a0 ≠ 13) → ((lf_wl a1 < lf_wl a2 → (Q false s)) ∧ (¬ (lf_wl a1 < lf_wl a2) → (Q true s)))))) ∧ (¬ (a0 ≠ 12) → ((lf_wl a1 ≤ lf_wl a2 → (Q false s)) ∧ (¬ (lf_wl a1 ≤ lf_wl a2) → (Q true s)))))) ∧ (¬ (a0 ≠ 11) → ((lf_wl a2 < lf_wl a1 → (Q false s)) ∧ (¬ (lf_wl a2 < lf_wl a1) → (Q true s)))))) ∧ (¬ (a0 ≠ 10) → ((lf_wl a2 ≤ lf_wl a1 → (Q false s)) ∧ (¬ (lf_wl a2 ≤ lf_wl a1) → (Q true s)))))
set_option maxRecDepth 100000 in
theorem gm_271 {L : Nat} {xs : Nat → Int32} {d : Nat} {a0 : Int} {a1 : Int} {a2 : Int} {Q : Bool → lf_Z → Prop} {s : lf_Z} (h : fm_271 a0 a1 a2 Q s) : lf_M (px_ro L xs) (d + 1) 271 [.int (Int32.ofInt a0), .long (Int64.ofInt a1), .long (Int64.ofInt a2)] s (lf_qz Q) := by
  unfold fm_271 at h
  show lf_E (px_ro L xs) (d + 1) 271 0 [(0, .int (Int32.ofInt a0)), (1, .long (Int64.ofInt a1)), (3, .long (Int64.ofInt a2))] [] s _
  refine lf_eqs (lv' := [(0, .int (Int32.ofInt a0)), (1, .long (Int64.ofInt (lf_wl a1))), (3, .long (Int64.ofInt (lf_wl a2)))]) (st' := []) (by simp only [lf_wlE]) rfl ?_
  refine lf_seg 1 (pc' := 1) (lv' := [(0, .int (Int32.ofInt a0)), (1, .long (Int64.ofInt (lf_wl a1))), (3, .long (Int64.ofInt (lf_wl a2)))]) (st' := [.int (Int32.ofInt a0)]) rfl ?_
  refine lf_bipush 3 10 rfl rfl (by decide) (by decide) ?_
  obtain ⟨o21, h⟩ := h
  refine lf_icmp_ne 20 6 rfl rfl rfl o21 ⟨by decide, by decide⟩ (fun c => ?_) (fun c => ?_)
  · have h := h.1 c
    refine lf_seg 1 (pc' := 21) (lv' := [(0, .int (Int32.ofInt a0)), (1, .long (Int64.ofInt (lf_wl a1))), (3, .long (Int64.ofInt (lf_wl a2)))]) (st' := [.int (Int32.ofInt a0)]) rfl ?_
    refine lf_bipush 23 11 rfl rfl (by decide) (by decide) ?_
    refine lf_icmp_ne 40 26 rfl rfl rfl o21 ⟨by decide, by decide⟩ (fun c => ?_) (fun c => ?_)
    · have h := h.1 c
      refine lf_seg 1 (pc' := 41) (lv' := [(0, .int (Int32.ofInt a0)), (1, .long (Int64.ofInt (lf_wl a1))), (3, .long (Int64.ofInt (lf_wl a2)))]) (st' := [.int (Int32.ofInt a0)]) rfl ?_
      refine lf_bipush 43 12 rfl rfl (by decide) (by decide) ?_
      refine lf_icmp_ne 60 46 rfl rfl rfl o21 ⟨by decide, by decide⟩ (fun c => ?_) (fun c => ?_)
      · have h := h.1 c
        refine lf_seg 1 (pc' := 61) (lv' := [(0, .int (Int32.ofInt a0)), (1, .long (Int64.ofInt (lf_wl a1))), (3, .long (Int64.ofInt (lf_wl a2)))]) (st' := [.int (Int32.ofInt a0)]) rfl ?_
        refine lf_bipush 63 13 rfl rfl (by decide) (by decide) ?_
        refine lf_icmp_ne 80 66 rfl rfl rfl o21 ⟨by decide, by decide⟩ (fun c => ?_) (fun c => ?_)
        · have h := h.1 c
          refine lf_seg 1 (pc' := 81) (lv' := [(0, .int (Int32.ofInt a0)), (1, .long (Int64.ofInt (lf_wl a1))), (3, .long (Int64.ofInt (lf_wl a2)))]) (st' := [.int (Int32.ofInt a0)]) rfl ?_
          refine lf_bipush 83 14 rfl rfl (by decide) (by decide) ?_
          refine lf_icmp_ne 100 86 rfl rfl rfl o21 ⟨by decide, by decide⟩ (fun c => ?_) (fun c => ?_)
          · have h := h.1 c
            refine lf_seg 2 (pc' := 102) (lv' := [(0, .int (Int32.ofInt a0)), (1, .long (Int64.ofInt (lf_wl a1))), (3, .long (Int64.ofInt (lf_wl a2)))]) (st' := [.long (Int64.ofInt (lf_wl a2)), .long (Int64.ofInt (lf_wl a1))]) rfl ?_
            refine lf_lif_eq 110 106 rfl rfl rfl rfl lf_RLwl lf_RLwl (fun c => ?_) (fun c => ?_)
            · have h := h.1 c
              refine lf_seg 1 (pc' := 111) (lv' := [(0, .int (Int32.ofInt a0)), (1, .long (Int64.ofInt (lf_wl a1))), (3, .long (Int64.ofInt (lf_wl a2)))]) (st' := [.int (Int32.ofInt 0)]) rfl ?_
              exact lf_retZ false rfl rfl h
            · have h := h.2 c
              refine lf_seg 2 (pc' := 111) (lv' := [(0, .int (Int32.ofInt a0)), (1, .long (Int64.ofInt (lf_wl a1))), (3, .long (Int64.ofInt (lf_wl a2)))]) (st' := [.int (Int32.ofInt 1)]) rfl ?_
              exact lf_retZ true rfl rfl h
          · have h := h.2 c
            refine lf_seg 2 (pc' := 88) (lv' := [(0, .int (Int32.ofInt a0)), (1, .long (Int64.ofInt (lf_wl a1))), (3, .long (Int64.ofInt (lf_wl a2)))]) (st' := [.long (Int64.ofInt (lf_wl a2)), .long (Int64.ofInt (lf_wl a1))]) rfl ?_
            refine lf_lif_ne 96 92 rfl rfl rfl rfl lf_RLwl lf_RLwl (fun c => ?_) (fun c => ?_)
            · have h := h.1 c
              refine lf_seg 2 (pc' := 111) (lv' := [(0, .int (Int32.ofInt a0)), (1, .long (Int64.ofInt (lf_wl a1))), (3, .long (Int64.ofInt (lf_wl a2)))]) (st' := [.int (Int32.ofInt 0)]) rfl ?_
              exact lf_retZ false rfl rfl h
            · have h := h.2 c
              refine lf_seg 2 (pc' := 111) (lv' := [(0, .int (Int32.ofInt a0)), (1, .long (Int64.ofInt (lf_wl a1))), (3, .long (Int64.ofInt (lf_wl a2)))]) (st' := [.int (Int32.ofInt 1)]) rfl ?_
              exact lf_retZ true rfl rfl h
        · have h := h.2 c
          refine lf_seg 2 (pc' := 68) (lv' := [(0, .int (Int32.ofInt a0)), (1, .long (Int64.ofInt (lf_wl a1))), (3, .long (Int64.ofInt (lf_wl a2)))]) (st' := [.long (Int64.ofInt (lf_wl a2)), .long (Int64.ofInt (lf_wl a1))]) rfl ?_
          refine lf_lif_lt 76 72 rfl rfl rfl rfl lf_RLwl lf_RLwl (fun c => ?_) (fun c => ?_)
          · have h := h.1 c
            refine lf_seg 2 (pc' := 111) (lv' := [(0, .int (Int32.ofInt a0)), (1, .long (Int64.ofInt (lf_wl a1))), (3, .long (Int64.ofInt (lf_wl a2)))]) (st' := [.int (Int32.ofInt 0)]) rfl ?_
            exact lf_retZ false rfl rfl h
          · have h := h.2 c
            refine lf_seg 2 (pc' := 111) (lv' := [(0, .int (Int32.ofInt a0)), (1, .long (Int64.ofInt (lf_wl a1))), (3, .long (Int64.ofInt (lf_wl a2)))]) (st' := [.int (Int32.ofInt 1)]) rfl ?_
            exact lf_retZ true rfl rfl h
      · have h := h.2 c
        refine lf_seg 2 (pc' := 48) (lv' := [(0, .int (Int32.ofInt a0)), (1, .long (Int64.ofInt (lf_wl a1))), (3, .long (Int64.ofInt (lf_wl a2)))]) (st' := [.long (Int64.ofInt (lf_wl a2)), .long (Int64.ofInt (lf_wl a1))]) rfl ?_
        refine lf_lif_le 56 52 rfl rfl rfl rfl lf_RLwl lf_RLwl (fun c => ?_) (fun c => ?_)
        · have h := h.1 c
          refine lf_seg 2 (pc' := 111) (lv' := [(0, .int (Int32.ofInt a0)), (1, .long (Int64.ofInt (lf_wl a1))), (3, .long (Int64.ofInt (lf_wl a2)))]) (st' := [.int (Int32.ofInt 0)]) rfl ?_
          exact lf_retZ false rfl rfl h
        · have h := h.2 c
          refine lf_seg 2 (pc' := 111) (lv' := [(0, .int (Int32.ofInt a0)), (1, .long (Int64.ofInt (lf_wl a1))), (3, .long (Int64.ofInt (lf_wl a2)))]) (st' := [.int (Int32.ofInt 1)]) rfl ?_
          exact lf_retZ true rfl rfl h
    · have h := h.2 c
      refine lf_seg 2 (pc' := 28) (lv' := [(0, .int (Int32.ofInt a0)), (1, .long (Int64.ofInt (lf_wl a1))), (3, .long (Int64.ofInt (lf_wl a2)))]) (st' := [.long (Int64.ofInt (lf_wl a2)), .long (Int64.ofInt (lf_wl a1))]) rfl ?_
      refine lf_lif_gt 36 32 rfl rfl rfl rfl lf_RLwl lf_RLwl (fun c => ?_) (fun c => ?_)
      · have h := h.1 c
        refine lf_seg 2 (pc' := 111) (lv' := [(0, .int (Int32.ofInt a0)), (1, .long (Int64.ofInt (lf_wl a1))), (3, .long (Int64.ofInt (lf_wl a2)))]) (st' := [.int (Int32.ofInt 0)]) rfl ?_
        exact lf_retZ false rfl rfl h
      · have h := h.2 c
        refine lf_seg 2 (pc' := 111) (lv' := [(0, .int (Int32.ofInt a0)), (1, .long (Int64.ofInt (lf_wl a1))), (3, .long (Int64.ofInt (lf_wl a2)))]) (st' := [.int (Int32.ofInt 1)]) rfl ?_
        exact lf_retZ true rfl rfl h
  · have h := h.2 c
    refine lf_seg 2 (pc' := 8) (lv' := [(0, .int (Int32.ofInt a0)), (1, .long (Int64.ofInt (lf_wl a1))), (3, .long (Int64.ofInt (lf_wl a2)))]) (st' := [.long (Int64.ofInt (lf_wl a2)), .long (Int64.ofInt (lf_wl a1))]) rfl ?_
    refine lf_lif_ge 16 12 rfl rfl rfl rfl lf_RLwl lf_RLwl (fun c => ?_) (fun c => ?_)
    · have h := h.1 c
      refine lf_seg 2 (pc' := 111) (lv' := [(0, .int (Int32.ofInt a0)), (1, .long (Int64.ofInt (lf_wl a1))), (3, .long (Int64.ofInt (lf_wl a2)))]) (st' := [.int (Int32.ofInt 0)]) rfl ?_
      exact lf_retZ false rfl rfl h
    · have h := h.2 c
      refine lf_seg 2 (pc' := 111) (lv' := [(0, .int (Int32.ofInt a0)), (1, .long (Int64.ofInt (lf_wl a1))), (3, .long (Int64.ofInt (lf_wl a2)))]) (st' := [.int (Int32.ofInt 1)]) rfl ?_
      exact lf_retZ true rfl rfl h
-- fm_270 Model.clip l
def fm_270 (a0 : Int) (Q : Int → lf_Z → Prop) (s : lf_Z) : Prop := (lf_wl a0 ≤ 1000000 → (((-1000000) ≤ lf_wl a0 → (Q (lf_wl a0) s)) ∧ (¬ ((-1000000) ≤ lf_wl a0) → (Q (-1000000) s)))) ∧ (¬ (lf_wl a0 ≤ 1000000) → (Q 1000000 s))
set_option maxRecDepth 100000 in
theorem gm_270 {L : Nat} {xs : Nat → Int32} {d : Nat} {a0 : Int} {Q : Int → lf_Z → Prop} {s : lf_Z} (h : fm_270 a0 Q s) : lf_M (px_ro L xs) (d + 1) 270 [.long (Int64.ofInt a0)] s (lf_ql Q) := by
  unfold fm_270 at h
  show lf_E (px_ro L xs) (d + 1) 270 0 [(0, .long (Int64.ofInt a0))] [] s _
  refine lf_eqs (lv' := [(0, .long (Int64.ofInt (lf_wl a0)))]) (st' := []) (by simp only [lf_wlE]) rfl ?_
  refine lf_seg 1 (pc' := 1) (lv' := [(0, .long (Int64.ofInt (lf_wl a0)))]) (st' := [.long (Int64.ofInt (lf_wl a0))]) rfl ?_
  refine lf_ldc2 4 1000000 rfl rfl rfl (by decide) ?_
  refine lf_lif_le 14 8 rfl rfl rfl rfl lf_RLwl ⟨by decide, by decide⟩ (fun c => ?_) (fun c => ?_)
  · have h := h.1 c
    refine lf_seg 1 (pc' := 15) (lv' := [(0, .long (Int64.ofInt (lf_wl a0)))]) (st' := [.long (Int64.ofInt (lf_wl a0))]) rfl ?_
    refine lf_ldc2 18 (-1000000) rfl rfl rfl (by decide) ?_
    refine lf_lif_ge 28 22 rfl rfl rfl rfl lf_RLwl ⟨by decide, by decide⟩ (fun c => ?_) (fun c => ?_)
    · have h := h.1 c
      refine lf_seg 1 (pc' := 29) (lv' := [(0, .long (Int64.ofInt (lf_wl a0)))]) (st' := [.long (Int64.ofInt (lf_wl a0))]) rfl ?_
      exact lf_retL rfl rfl h
    · have h := h.2 c
      refine lf_ldc2 25 (-1000000) rfl rfl rfl (by decide) ?_
      refine lf_seg 1 (pc' := 29) (lv' := [(0, .long (Int64.ofInt (lf_wl a0)))]) (st' := [.long (Int64.ofInt (-1000000))]) rfl ?_
      exact lf_retL rfl rfl h
  · have h := h.2 c
    refine lf_ldc2 11 1000000 rfl rfl rfl (by decide) ?_
    refine lf_seg 1 (pc' := 29) (lv' := [(0, .long (Int64.ofInt (lf_wl a0)))]) (st' := [.long (Int64.ofInt 1000000)]) rfl ?_
    exact lf_retL rfl rfl h
-- fm_269 Model.two i l l
def fm_269 (a0 : Int) (a1 : Int) (a2 : Int) (Q : Int → lf_Z → Prop) (s : lf_Z) : Prop := lf_R a0 ∧ ((a0 < 4 ∨ 6 < a0 → ((lf_wl a2 ≠ 0 → ((lf_wl a2) ≠ 0 ∧ (fm_270 (lf_wl ((lf_wl a1).tdiv (lf_wl a2))) (fun r24 s23 => (Q (lf_wl r24) s23)) s))) ∧ (¬ (lf_wl a2 ≠ 0) → (Q 0 s)))) ∧ (a0 = 4 → (fm_270 (lf_wl ((lf_wl a1) + (lf_wl a2))) (fun r26 s25 => (Q (lf_wl r26) s25)) s)) ∧ (a0 = 5 → (fm_270 (lf_wl ((lf_wl a1) - (lf_wl a2))) (fun r28 s27 => (Q (lf_wl r28) s27)) s)) ∧ (a0 = 6 → (fm_270 (lf_wl ((lf_wl a1) * (lf_wl a2))) (fun r30 s29 => (Q (lf_wl r30) s29)) s)))
set_option maxRecDepth 100000 in
theorem gm_269 {L : Nat} {xs : Nat → Int32} {d : Nat} {a0 : Int} {a1 : Int} {a2 : Int} {Q : Int → lf_Z → Prop} {s : lf_Z} (h : fm_269 a0 a1 a2 Q s) : lf_M (px_ro L xs) (d + 2) 269 [.int (Int32.ofInt a0), .long (Int64.ofInt a1), .long (Int64.ofInt a2)] s (lf_ql Q) := by
  unfold fm_269 at h
  show lf_E (px_ro L xs) (d + 2) 269 0 [(0, .int (Int32.ofInt a0)), (1, .long (Int64.ofInt a1)), (3, .long (Int64.ofInt a2))] [] s _
  refine lf_eqs (lv' := [(0, .int (Int32.ofInt a0)), (1, .long (Int64.ofInt (lf_wl a1))), (3, .long (Int64.ofInt (lf_wl a2)))]) (st' := []) (by simp only [lf_wlE]) rfl ?_
  refine lf_seg 1 (pc' := 1) (lv' := [(0, .int (Int32.ofInt a0)), (1, .long (Int64.ofInt (lf_wl a1))), (3, .long (Int64.ofInt (lf_wl a2)))]) (st' := [.int (Int32.ofInt a0)]) rfl ?_
  obtain ⟨o21, h⟩ := h
  refine lf_tsw 49 [(4, 28), (5, 35), (6, 42)] rfl rfl rfl (by decide) o21 (fun c => ?_) (lf_tab1 (fun c => ?_) (lf_tab1 (fun c => ?_) (lf_tab1 (fun c => ?_) lf_tab0)))
  · have h := h.1 c
    refine lf_seg 1 (pc' := 50) (lv' := [(0, .int (Int32.ofInt a0)), (1, .long (Int64.ofInt (lf_wl a1))), (3, .long (Int64.ofInt (lf_wl a2)))]) (st' := [.long (Int64.ofInt (lf_wl a2))]) rfl ?_
    refine lf_lconst 51 0 rfl rfl (by decide) ?_
    refine lf_lif_ne 59 55 rfl rfl rfl rfl lf_RLwl ⟨by decide, by decide⟩ (fun c => ?_) (fun c => ?_)
    · have h := h.1 c
      refine lf_seg 2 (pc' := 61) (lv' := [(0, .int (Int32.ofInt a0)), (1, .long (Int64.ofInt (lf_wl a1))), (3, .long (Int64.ofInt (lf_wl a2)))]) (st' := [.long (Int64.ofInt (lf_wl a2)), .long (Int64.ofInt (lf_wl a1))]) rfl ?_
      obtain ⟨o22, h⟩ := h
      refine lf_ldiv 62 rfl rfl lf_RLwl lf_RLwl o22 ?_
      refine lf_wtL ?_
      refine lf_callL 65 rfl rfl rfl rfl (gm_270 h) (fun r24 s23 h => ?_)
      refine lf_wtL ?_
      exact lf_retL rfl rfl h
    · have h := h.2 c
      refine lf_lconst 56 0 rfl rfl (by decide) ?_
      refine lf_seg 1 (pc' := 65) (lv' := [(0, .int (Int32.ofInt a0)), (1, .long (Int64.ofInt (lf_wl a1))), (3, .long (Int64.ofInt (lf_wl a2)))]) (st' := [.long (Int64.ofInt 0)]) rfl ?_
      exact lf_retL rfl rfl h
  · have h := h.2.1 c
    refine lf_seg 2 (pc' := 30) (lv' := [(0, .int (Int32.ofInt a0)), (1, .long (Int64.ofInt (lf_wl a1))), (3, .long (Int64.ofInt (lf_wl a2)))]) (st' := [.long (Int64.ofInt (lf_wl a2)), .long (Int64.ofInt (lf_wl a1))]) rfl ?_
    refine lf_ladd 31 rfl rfl ?_
    refine lf_wtL ?_
    refine lf_callL 34 rfl rfl rfl rfl (gm_270 h) (fun r26 s25 h => ?_)
    refine lf_wtL ?_
    exact lf_retL rfl rfl h
  · have h := h.2.2.1 c
    refine lf_seg 2 (pc' := 37) (lv' := [(0, .int (Int32.ofInt a0)), (1, .long (Int64.ofInt (lf_wl a1))), (3, .long (Int64.ofInt (lf_wl a2)))]) (st' := [.long (Int64.ofInt (lf_wl a2)), .long (Int64.ofInt (lf_wl a1))]) rfl ?_
    refine lf_lsub 38 rfl rfl ?_
    refine lf_wtL ?_
    refine lf_callL 41 rfl rfl rfl rfl (gm_270 h) (fun r28 s27 h => ?_)
    refine lf_wtL ?_
    exact lf_retL rfl rfl h
  · have h := h.2.2.2 c
    refine lf_seg 2 (pc' := 44) (lv' := [(0, .int (Int32.ofInt a0)), (1, .long (Int64.ofInt (lf_wl a1))), (3, .long (Int64.ofInt (lf_wl a2)))]) (st' := [.long (Int64.ofInt (lf_wl a2)), .long (Int64.ofInt (lf_wl a1))]) rfl ?_
    refine lf_lmul 45 rfl rfl ?_
    refine lf_wtL ?_
    refine lf_callL 48 rfl rfl rfl rfl (gm_270 h) (fun r30 s29 h => ?_)
    refine lf_wtL ?_
    exact lf_retL rfl rfl h
-- fm_268 Model.worked 95 i i
def fm_268_p437 (X38 : Int → Int → Int → lf_Z → Prop) (Q : Int → lf_Z → Prop) (x3 : Int) (x4 : Int) (x5 : Int) (x6 : Int) (x7 : Int) (s : lf_Z) : Prop := X38 x5 x6 (x7 + 1) s
set_option maxRecDepth 100000 in
theorem gm_268_p437 {L : Nat} {xs : Nat → Int32} {d : Nat} {X38 : Int → Int → Int → lf_Z → Prop} {Q : Int → lf_Z → Prop} {x3 : Int} {x4 : Int} {x5 : Int} {x6 : Int} {x7 : Int} {s : lf_Z} (hX38 : ∀ x5 x6 x7 s, X38 x5 x6 x7 s → lf_E (px_ro L xs) (d + 3) 268 38 [(0, .ref 95), (3, .int (Int32.ofInt x3)), (4, .int (Int32.ofInt x4)), (5, .int (Int32.ofInt x5)), (6, .int (Int32.ofInt x6)), (7, .int (Int32.ofInt x7))] [] s (lf_qi Q)) (h : fm_268_p437 X38 Q x3 x4 x5 x6 x7 s) : lf_E (px_ro L xs) (d + 3) 268 437 [(0, .ref 95), (3, .int (Int32.ofInt x3)), (4, .int (Int32.ofInt x4)), (5, .int (Int32.ofInt x5)), (6, .int (Int32.ofInt x6)), (7, .int (Int32.ofInt x7))] [] s (lf_qi Q) := by
  unfold fm_268_p437 at h
  refine lf_iinc 440 rfl rfl rfl rfl ?_
  refine lf_seg 1 (pc' := 38) (lv' := [(7, .int (Int32.ofInt (x7 + 1))), (0, .ref 95), (3, .int (Int32.ofInt x3)), (4, .int (Int32.ofInt x4)), (5, .int (Int32.ofInt x5)), (6, .int (Int32.ofInt x6))]) (st' := []) rfl ?_
  refine lf_sub (l := [(0, .ref 95), (3, .int (Int32.ofInt x3)), (4, .int (Int32.ofInt x4)), (5, .int (Int32.ofInt x5)), (6, .int (Int32.ofInt x6)), (7, .int (Int32.ofInt (x7 + 1)))]) (lf_sb1 rfl (lf_sb1 rfl (lf_sb1 rfl (lf_sb1 rfl (lf_sb1 rfl (lf_sb1 rfl lf_sb0)))))) ?_
  exact hX38 _ _ _ _ h
def fm_268_p135 (X38 : Int → Int → Int → lf_Z → Prop) (Q : Int → lf_Z → Prop) (x3 : Int) (x4 : Int) (x5 : Int) (x6 : Int) (x7 : Int) (y1 : Int) (y2 : Int) (s : lf_Z) : Prop := (0 ≤ y1 ∧ y1 < 330) ∧ (fm_268_p437 X38 Q x3 x4 (x5 + 1) x6 x7 (s.1, lf_up s.2.1 106 y1 (lf_wl y2), s.2.2))
set_option maxRecDepth 100000 in
theorem gm_268_p135 {L : Nat} {xs : Nat → Int32} {d : Nat} {X38 : Int → Int → Int → lf_Z → Prop} {Q : Int → lf_Z → Prop} {x3 : Int} {x4 : Int} {x5 : Int} {x6 : Int} {x7 : Int} {y1 : Int} {y2 : Int} {s : lf_Z} (hX38 : ∀ x5 x6 x7 s, X38 x5 x6 x7 s → lf_E (px_ro L xs) (d + 3) 268 38 [(0, .ref 95), (3, .int (Int32.ofInt x3)), (4, .int (Int32.ofInt x4)), (5, .int (Int32.ofInt x5)), (6, .int (Int32.ofInt x6)), (7, .int (Int32.ofInt x7))] [] s (lf_qi Q)) (h : fm_268_p135 X38 Q x3 x4 x5 x6 x7 y1 y2 s) : lf_E (px_ro L xs) (d + 3) 268 135 [(0, .ref 95), (3, .int (Int32.ofInt x3)), (4, .int (Int32.ofInt x4)), (5, .int (Int32.ofInt x5)), (6, .int (Int32.ofInt x6)), (7, .int (Int32.ofInt x7))] [.long (Int64.ofInt y2), .int (Int32.ofInt y1), .ref 106] s (lf_qi Q) := by
  unfold fm_268_p135 at h
  refine lf_eqs (lv' := [(0, .ref 95), (3, .int (Int32.ofInt x3)), (4, .int (Int32.ofInt x4)), (5, .int (Int32.ofInt x5)), (6, .int (Int32.ofInt x6)), (7, .int (Int32.ofInt x7))]) (st' := [.long (Int64.ofInt (lf_wl y2)), .int (Int32.ofInt y1), .ref 106]) rfl (by simp only [lf_wlE]) ?_
  obtain ⟨o30, h⟩ := h
  refine lf_last 136 330 rfl rfl rfl rfl rfl rfl o30 ?_
  refine lf_as (s.1, lf_up s.2.1 106 y1 (lf_wl y2), s.2.2) rfl ?_
  refine lf_iinc 139 rfl rfl rfl rfl ?_
  refine lf_seg 1 (pc' := 437) (lv' := [(5, .int (Int32.ofInt (x5 + 1))), (0, .ref 95), (3, .int (Int32.ofInt x3)), (4, .int (Int32.ofInt x4)), (6, .int (Int32.ofInt x6)), (7, .int (Int32.ofInt x7))]) (st' := []) rfl ?_
  refine lf_sub (l := [(0, .ref 95), (3, .int (Int32.ofInt x3)), (4, .int (Int32.ofInt x4)), (5, .int (Int32.ofInt (x5 + 1))), (6, .int (Int32.ofInt x6)), (7, .int (Int32.ofInt x7))]) (lf_sb1 rfl (lf_sb1 rfl (lf_sb1 rfl (lf_sb1 rfl (lf_sb1 rfl (lf_sb1 rfl lf_sb0)))))) ?_
  exact gm_268_p437 hX38 h
def fm_268_p94 (X38 : Int → Int → Int → lf_Z → Prop) (Q : Int → lf_Z → Prop) (x3 : Int) (x4 : Int) (x5 : Int) (x6 : Int) (x7 : Int) (x8 : Int) (x9 : Int) (s : lf_Z) : Prop := lf_R x8 ∧ ((x8 ≠ 0 → ((x8 ≠ 1 → ((0 ≤ x9 ∧ x9 < 80) ∧ (fm_268_p135 X38 Q x3 x4 x5 x6 x7 x5 (lf_wl (s.2.1 105 x9)) s))) ∧ (¬ (x8 ≠ 1) → ((0 ≤ x9 ∧ x9 < 11) ∧ (lf_R (s.1 104 x9) ∧ (fm_268_p135 X38 Q x3 x4 x5 x6 x7 x5 (s.1 104 x9) s)))))) ∧ (¬ (x8 ≠ 0) → (lf_R x9 ∧ (fm_268_p135 X38 Q x3 x4 x5 x6 x7 x5 x9 s))))
set_option maxRecDepth 100000 in
theorem gm_268_p94 {L : Nat} {xs : Nat → Int32} {d : Nat} {X38 : Int → Int → Int → lf_Z → Prop} {Q : Int → lf_Z → Prop} {x3 : Int} {x4 : Int} {x5 : Int} {x6 : Int} {x7 : Int} {x8 : Int} {x9 : Int} {s : lf_Z} (hX38 : ∀ x5 x6 x7 s, X38 x5 x6 x7 s → lf_E (px_ro L xs) (d + 3) 268 38 [(0, .ref 95), (3, .int (Int32.ofInt x3)), (4, .int (Int32.ofInt x4)), (5, .int (Int32.ofInt x5)), (6, .int (Int32.ofInt x6)), (7, .int (Int32.ofInt x7))] [] s (lf_qi Q)) (h : fm_268_p94 X38 Q x3 x4 x5 x6 x7 x8 x9 s) : lf_E (px_ro L xs) (d + 3) 268 94 [(0, .ref 95), (3, .int (Int32.ofInt x3)), (4, .int (Int32.ofInt x4)), (5, .int (Int32.ofInt x5)), (6, .int (Int32.ofInt x6)), (7, .int (Int32.ofInt x7)), (8, .int (Int32.ofInt x8)), (9, .int (Int32.ofInt x9))] [] s (lf_qi Q) := by
  unfold fm_268_p94 at h
  refine lf_seg 4 (pc' := 102) (lv' := [(0, .ref 95), (3, .int (Int32.ofInt x3)), (4, .int (Int32.ofInt x4)), (5, .int (Int32.ofInt x5)), (6, .int (Int32.ofInt x6)), (7, .int (Int32.ofInt x7)), (8, .int (Int32.ofInt x8)), (9, .int (Int32.ofInt x9))]) (st' := [.int (Int32.ofInt x8), .int (Int32.ofInt x5), .ref 106]) rfl ?_
  obtain ⟨o28, h⟩ := h
  refine lf_if_ne 111 105 rfl rfl rfl o28 (fun c => ?_) (fun c => ?_)
  · have h := h.1 c
    refine lf_seg 2 (pc' := 114) (lv' := [(0, .ref 95), (3, .int (Int32.ofInt x3)), (4, .int (Int32.ofInt x4)), (5, .int (Int32.ofInt x5)), (6, .int (Int32.ofInt x6)), (7, .int (Int32.ofInt x7)), (8, .int (Int32.ofInt x8)), (9, .int (Int32.ofInt x9))]) (st' := [.int (Int32.ofInt 1), .int (Int32.ofInt x8), .int (Int32.ofInt x5), .ref 106]) rfl ?_
    refine lf_icmp_ne 128 117 rfl rfl rfl o28 ⟨by decide, by decide⟩ (fun c => ?_) (fun c => ?_)
    · have h := h.1 c
      refine lf_seg 3 (pc' := 134) (lv' := [(0, .ref 95), (3, .int (Int32.ofInt x3)), (4, .int (Int32.ofInt x4)), (5, .int (Int32.ofInt x5)), (6, .int (Int32.ofInt x6)), (7, .int (Int32.ofInt x7)), (8, .int (Int32.ofInt x8)), (9, .int (Int32.ofInt x9))]) (st' := [.int (Int32.ofInt x9), .ref 105, .int (Int32.ofInt x5), .ref 106]) rfl ?_
      obtain ⟨o29, h⟩ := h
      refine lf_lald 135 80 rfl rfl rfl rfl rfl rfl o29 ?_
      refine lf_wtL ?_
      refine lf_sub (l := [(0, .ref 95), (3, .int (Int32.ofInt x3)), (4, .int (Int32.ofInt x4)), (5, .int (Int32.ofInt x5)), (6, .int (Int32.ofInt x6)), (7, .int (Int32.ofInt x7))]) (lf_sb1 rfl (lf_sb1 rfl (lf_sb1 rfl (lf_sb1 rfl (lf_sb1 rfl (lf_sb1 rfl lf_sb0)))))) ?_
      exact gm_268_p135 hX38 h
    · have h := h.2 c
      refine lf_seg 3 (pc' := 123) (lv' := [(0, .ref 95), (3, .int (Int32.ofInt x3)), (4, .int (Int32.ofInt x4)), (5, .int (Int32.ofInt x5)), (6, .int (Int32.ofInt x6)), (7, .int (Int32.ofInt x7)), (8, .int (Int32.ofInt x8)), (9, .int (Int32.ofInt x9))]) (st' := [.int (Int32.ofInt x9), .ref 104, .int (Int32.ofInt x5), .ref 106]) rfl ?_
      obtain ⟨o31, h⟩ := h
      refine lf_iald 124 11 rfl rfl rfl rfl rfl rfl o31 ?_
      obtain ⟨o32, h⟩ := h
      refine lf_i2l 125 rfl rfl o32 ?_
      refine lf_seg 1 (pc' := 135) (lv' := [(0, .ref 95), (3, .int (Int32.ofInt x3)), (4, .int (Int32.ofInt x4)), (5, .int (Int32.ofInt x5)), (6, .int (Int32.ofInt x6)), (7, .int (Int32.ofInt x7)), (8, .int (Int32.ofInt x8)), (9, .int (Int32.ofInt x9))]) (st' := [.long (Int64.ofInt (s.1 104 x9)), .int (Int32.ofInt x5), .ref 106]) rfl ?_
      refine lf_sub (l := [(0, .ref 95), (3, .int (Int32.ofInt x3)), (4, .int (Int32.ofInt x4)), (5, .int (Int32.ofInt x5)), (6, .int (Int32.ofInt x6)), (7, .int (Int32.ofInt x7))]) (lf_sb1 rfl (lf_sb1 rfl (lf_sb1 rfl (lf_sb1 rfl (lf_sb1 rfl (lf_sb1 rfl lf_sb0)))))) ?_
      exact gm_268_p135 hX38 h
  · have h := h.2 c
    refine lf_seg 1 (pc' := 107) (lv' := [(0, .ref 95), (3, .int (Int32.ofInt x3)), (4, .int (Int32.ofInt x4)), (5, .int (Int32.ofInt x5)), (6, .int (Int32.ofInt x6)), (7, .int (Int32.ofInt x7)), (8, .int (Int32.ofInt x8)), (9, .int (Int32.ofInt x9))]) (st' := [.int (Int32.ofInt x9), .int (Int32.ofInt x5), .ref 106]) rfl ?_
    obtain ⟨o33, h⟩ := h
    refine lf_i2l 108 rfl rfl o33 ?_
    refine lf_seg 1 (pc' := 135) (lv' := [(0, .ref 95), (3, .int (Int32.ofInt x3)), (4, .int (Int32.ofInt x4)), (5, .int (Int32.ofInt x5)), (6, .int (Int32.ofInt x6)), (7, .int (Int32.ofInt x7)), (8, .int (Int32.ofInt x8)), (9, .int (Int32.ofInt x9))]) (st' := [.long (Int64.ofInt x9), .int (Int32.ofInt x5), .ref 106]) rfl ?_
    refine lf_sub (l := [(0, .ref 95), (3, .int (Int32.ofInt x3)), (4, .int (Int32.ofInt x4)), (5, .int (Int32.ofInt x5)), (6, .int (Int32.ofInt x6)), (7, .int (Int32.ofInt x7))]) (lf_sb1 rfl (lf_sb1 rfl (lf_sb1 rfl (lf_sb1 rfl (lf_sb1 rfl (lf_sb1 rfl lf_sb0)))))) ?_
    exact gm_268_p135 hX38 h
def fm_268_p436 (X38 : Int → Int → Int → lf_Z → Prop) (Q : Int → lf_Z → Prop) (x3 : Int) (x4 : Int) (x5 : Int) (x6 : Int) (x7 : Int) (y1 : Int) (y2 : Int) (s : lf_Z) : Prop := (0 ≤ y1 ∧ y1 < 330) ∧ ((y2 = 0 ∨ y2 = 1) ∧ (fm_268_p437 X38 Q x3 x4 x5 x6 x7 (lf_up s.1 107 y1 y2, s.2.1, s.2.2)))
set_option maxRecDepth 100000 in
theorem gm_268_p436 {L : Nat} {xs : Nat → Int32} {d : Nat} {X38 : Int → Int → Int → lf_Z → Prop} {Q : Int → lf_Z → Prop} {x3 : Int} {x4 : Int} {x5 : Int} {x6 : Int} {x7 : Int} {y1 : Int} {y2 : Int} {s : lf_Z} (hX38 : ∀ x5 x6 x7 s, X38 x5 x6 x7 s → lf_E (px_ro L xs) (d + 3) 268 38 [(0, .ref 95), (3, .int (Int32.ofInt x3)), (4, .int (Int32.ofInt x4)), (5, .int (Int32.ofInt x5)), (6, .int (Int32.ofInt x6)), (7, .int (Int32.ofInt x7))] [] s (lf_qi Q)) (h : fm_268_p436 X38 Q x3 x4 x5 x6 x7 y1 y2 s) : lf_E (px_ro L xs) (d + 3) 268 436 [(0, .ref 95), (3, .int (Int32.ofInt x3)), (4, .int (Int32.ofInt x4)), (5, .int (Int32.ofInt x5)), (6, .int (Int32.ofInt x6)), (7, .int (Int32.ofInt x7))] [.int (Int32.ofInt y2), .int (Int32.ofInt y1), .ref 107] s (lf_qi Q) := by
  unfold fm_268_p436 at h
  obtain ⟨o36, h⟩ := h
  obtain ⟨o37, h⟩ := h
  refine lf_zast 437 330 rfl rfl rfl rfl rfl rfl o36 o37 ?_
  refine lf_as (lf_up s.1 107 y1 y2, s.2.1, s.2.2) rfl ?_
  refine lf_sub (l := [(0, .ref 95), (3, .int (Int32.ofInt x3)), (4, .int (Int32.ofInt x4)), (5, .int (Int32.ofInt x5)), (6, .int (Int32.ofInt x6)), (7, .int (Int32.ofInt x7))]) (lf_sb1 rfl (lf_sb1 rfl (lf_sb1 rfl (lf_sb1 rfl (lf_sb1 rfl (lf_sb1 rfl lf_sb0)))))) ?_
  exact gm_268_p437 hX38 h
def fm_268_p431 (X38 : Int → Int → Int → lf_Z → Prop) (Q : Int → lf_Z → Prop) (x3 : Int) (x4 : Int) (x5 : Int) (x6 : Int) (x7 : Int) (y1 : Int) (s : lf_Z) : Prop := fm_268_p436 X38 Q x3 x4 x5 x6 x7 y1 1 s
set_option maxRecDepth 100000 in
theorem gm_268_p431 {L : Nat} {xs : Nat → Int32} {d : Nat} {X38 : Int → Int → Int → lf_Z → Prop} {Q : Int → lf_Z → Prop} {x3 : Int} {x4 : Int} {x5 : Int} {x6 : Int} {x7 : Int} {y1 : Int} {s : lf_Z} (hX38 : ∀ x5 x6 x7 s, X38 x5 x6 x7 s → lf_E (px_ro L xs) (d + 3) 268 38 [(0, .ref 95), (3, .int (Int32.ofInt x3)), (4, .int (Int32.ofInt x4)), (5, .int (Int32.ofInt x5)), (6, .int (Int32.ofInt x6)), (7, .int (Int32.ofInt x7))] [] s (lf_qi Q)) (h : fm_268_p431 X38 Q x3 x4 x5 x6 x7 y1 s) : lf_E (px_ro L xs) (d + 3) 268 431 [(0, .ref 95), (3, .int (Int32.ofInt x3)), (4, .int (Int32.ofInt x4)), (5, .int (Int32.ofInt x5)), (6, .int (Int32.ofInt x6)), (7, .int (Int32.ofInt x7))] [.int (Int32.ofInt y1), .ref 107] s (lf_qi Q) := by
  unfold fm_268_p431 at h
  refine lf_seg 2 (pc' := 436) (lv' := [(0, .ref 95), (3, .int (Int32.ofInt x3)), (4, .int (Int32.ofInt x4)), (5, .int (Int32.ofInt x5)), (6, .int (Int32.ofInt x6)), (7, .int (Int32.ofInt x7))]) (st' := [.int (Int32.ofInt 1), .int (Int32.ofInt y1), .ref 107]) rfl ?_
  refine lf_sub (l := [(0, .ref 95), (3, .int (Int32.ofInt x3)), (4, .int (Int32.ofInt x4)), (5, .int (Int32.ofInt x5)), (6, .int (Int32.ofInt x6)), (7, .int (Int32.ofInt x7))]) (lf_sb1 rfl (lf_sb1 rfl (lf_sb1 rfl (lf_sb1 rfl (lf_sb1 rfl (lf_sb1 rfl lf_sb0)))))) ?_
  exact gm_268_p436 hX38 h
def fm_268_p405 (X38 : Int → Int → Int → lf_Z → Prop) (Q : Int → lf_Z → Prop) (x3 : Int) (x4 : Int) (x5 : Int) (x6 : Int) (x7 : Int) (y1 : Int) (s : lf_Z) : Prop := fm_268_p436 X38 Q x3 x4 x5 x6 x7 y1 0 s
set_option maxRecDepth 100000 in
theorem gm_268_p405 {L : Nat} {xs : Nat → Int32} {d : Nat} {X38 : Int → Int → Int → lf_Z → Prop} {Q : Int → lf_Z → Prop} {x3 : Int} {x4 : Int} {x5 : Int} {x6 : Int} {x7 : Int} {y1 : Int} {s : lf_Z} (hX38 : ∀ x5 x6 x7 s, X38 x5 x6 x7 s → lf_E (px_ro L xs) (d + 3) 268 38 [(0, .ref 95), (3, .int (Int32.ofInt x3)), (4, .int (Int32.ofInt x4)), (5, .int (Int32.ofInt x5)), (6, .int (Int32.ofInt x6)), (7, .int (Int32.ofInt x7))] [] s (lf_qi Q)) (h : fm_268_p405 X38 Q x3 x4 x5 x6 x7 y1 s) : lf_E (px_ro L xs) (d + 3) 268 405 [(0, .ref 95), (3, .int (Int32.ofInt x3)), (4, .int (Int32.ofInt x4)), (5, .int (Int32.ofInt x5)), (6, .int (Int32.ofInt x6)), (7, .int (Int32.ofInt x7))] [.int (Int32.ofInt y1), .ref 107] s (lf_qi Q) := by
  unfold fm_268_p405 at h
  refine lf_seg 2 (pc' := 436) (lv' := [(0, .ref 95), (3, .int (Int32.ofInt x3)), (4, .int (Int32.ofInt x4)), (5, .int (Int32.ofInt x5)), (6, .int (Int32.ofInt x6)), (7, .int (Int32.ofInt x7))]) (st' := [.int (Int32.ofInt 0), .int (Int32.ofInt y1), .ref 107]) rfl ?_
  refine lf_sub (l := [(0, .ref 95), (3, .int (Int32.ofInt x3)), (4, .int (Int32.ofInt x4)), (5, .int (Int32.ofInt x5)), (6, .int (Int32.ofInt x6)), (7, .int (Int32.ofInt x7))]) (lf_sb1 rfl (lf_sb1 rfl (lf_sb1 rfl (lf_sb1 rfl (lf_sb1 rfl (lf_sb1 rfl lf_sb0)))))) ?_
  exact gm_268_p436 hX38 h
def fm_268_p357 (X38 : Int → Int → Int → lf_Z → Prop) (Q : Int → lf_Z → Prop) (x3 : Int) (x4 : Int) (x5 : Int) (x6 : Int) (x7 : Int) (y1 : Int) (y2 : Int) (s : lf_Z) : Prop := (0 ≤ y1 ∧ y1 < 330) ∧ ((y2 = 0 ∨ y2 = 1) ∧ (fm_268_p437 X38 Q x3 x4 x5 x6 x7 (lf_up s.1 107 y1 y2, s.2.1, s.2.2)))
set_option maxRecDepth 100000 in
theorem gm_268_p357 {L : Nat} {xs : Nat → Int32} {d : Nat} {X38 : Int → Int → Int → lf_Z → Prop} {Q : Int → lf_Z → Prop} {x3 : Int} {x4 : Int} {x5 : Int} {x6 : Int} {x7 : Int} {y1 : Int} {y2 : Int} {s : lf_Z} (hX38 : ∀ x5 x6 x7 s, X38 x5 x6 x7 s → lf_E (px_ro L xs) (d + 3) 268 38 [(0, .ref 95), (3, .int (Int32.ofInt x3)), (4, .int (Int32.ofInt x4)), (5, .int (Int32.ofInt x5)), (6, .int (Int32.ofInt x6)), (7, .int (Int32.ofInt x7))] [] s (lf_qi Q)) (h : fm_268_p357 X38 Q x3 x4 x5 x6 x7 y1 y2 s) : lf_E (px_ro L xs) (d + 3) 268 357 [(0, .ref 95), (3, .int (Int32.ofInt x3)), (4, .int (Int32.ofInt x4)), (5, .int (Int32.ofInt x5)), (6, .int (Int32.ofInt x6)), (7, .int (Int32.ofInt x7))] [.int (Int32.ofInt y2), .int (Int32.ofInt y1), .ref 107] s (lf_qi Q) := by
  unfold fm_268_p357 at h
  obtain ⟨o46, h⟩ := h
  obtain ⟨o47, h⟩ := h
  refine lf_zast 358 330 rfl rfl rfl rfl rfl rfl o46 o47 ?_
  refine lf_as (lf_up s.1 107 y1 y2, s.2.1, s.2.2) rfl ?_
  refine lf_seg 1 (pc' := 437) (lv' := [(0, .ref 95), (3, .int (Int32.ofInt x3)), (4, .int (Int32.ofInt x4)), (5, .int (Int32.ofInt x5)), (6, .int (Int32.ofInt x6)), (7, .int (Int32.ofInt x7))]) (st' := []) rfl ?_
  refine lf_sub (l := [(0, .ref 95), (3, .int (Int32.ofInt x3)), (4, .int (Int32.ofInt x4)), (5, .int (Int32.ofInt x5)), (6, .int (Int32.ofInt x6)), (7, .int (Int32.ofInt x7))]) (lf_sb1 rfl (lf_sb1 rfl (lf_sb1 rfl (lf_sb1 rfl (lf_sb1 rfl (lf_sb1 rfl lf_sb0)))))) ?_
  exact gm_268_p437 hX38 h
def fm_268_p38 (Q : Int → lf_Z → Prop) (x3 : Int) (x4 : Int) (X38 : Int → Int → Int → lf_Z → Prop) (x5 : Int) (x6 : Int) (x7 : Int) (s : lf_Z) : Prop := (0 ≤ x3 + 2 ∧ x3 + 2 < 2820) ∧ (lf_R x7 ∧ (lf_R (s.1 98 (x3 + 2)) ∧ ((s.1 98 (x3 + 2) ≤ x7 → (Q (lf_w (lf_wl (s.2.1 106 0))) s)) ∧ (¬ (s.1 98 (x3 + 2) ≤ x7) → ((0 ≤ x4 + (2 * x7) ∧ x4 + (2 * x7) < 2820) ∧ ((0 ≤ (x4 + (2 * x7)) + 1 ∧ (x4 + (2 * x7)) + 1 < 2820) ∧ (lf_R (s.1 98 (x4 + (2 * x7))) ∧ ((s.1 98 (x4 + (2 * x7)) ≤ 1 → (fm_268_p94 X38 Q x3 x4 x5 x6 x7 (s.1 98 (x4 + (2 * x7))) (s.1 98 ((x4 + (2 * x7)) + 1)) s)) ∧ (¬ (s.1 98 (x4 + (2 * x7)) ≤ 1) → ((s.1 98 (x4 + (2 * x7)) ≠ 31 → ((s.1 98 (x4 + (2 * x7)) ≠ 2 → ((s.1 98 (x4 + (2 * x7)) ≠ 30 → ((s.1 98 (x4 + (2 * x7)) ≠ 3 → ((10 ≤ s.1 98 (x4 + (2 * x7)) → ((20 ≤ s.1 98 (x4 + (2 * x7)) → ((s.1 98 (x4 + (2 * x7)) ≠ 20 → ((s.1 98 (x4 + (2 * x7)) ≠ 21 → ((0 ≤ (x6 + (-1)) - 1 ∧ (x6 + (-1)) - 1 < 330) ∧ (lf_R (s.1 107 ((x6 + (-1)) - 1)) ∧ ((s.1 107 ((x6 + (-1)) - 1) ≠ 0 → (fm_268_p431 X38 Q x3 x4 x5 (x6 + (-1)) x7 ((x6 + (-1)) - 1) s)) ∧ (¬ (s.1 107 ((x6 + (-1)) - 1) ≠ 0) → ((0 ≤ x6 + (-1) ∧ x6 + (-1) < 330) ∧ (lf_R (s.1 107 (x6 + (-1))) ∧ ((s.1 107 (x6 + (-1)) = 0 → (fm_268_p436 X38 Q x3 x4 x5 (x6 + (-1)) x7 ((x6 + (-1)) - 1) 0 s)) ∧ (¬ (s.1 107 (x6 + (-1)) = 0) → (fm_268_p431 X38 Q x3 x4 x5 (x6 + (-1)) x7 ((x6 + (-1)) - 1) s)))))))))) ∧ (¬ (s.1 98 (x4 + (2 * x7)) ≠ 21) → ((0 ≤ (x6 + (-1)) - 1 ∧ (x6 + (-1)) - 1 < 330) ∧ (lf_R (s.1 107 ((x6 + (-1)) - 1)) ∧ ((s.1 107 ((x6 + (-1)) - 1) = 0 → (fm_268_p405 X38 Q x3 x4 x5 (x6 + (-1)) x7 ((x6 + (-1)) - 1) s)) ∧ (¬ (s.1 107 ((x6 + (-1)) - 1) = 0) → ((0 ≤ x6 + (-1) ∧ x6 + (-1) < 330) ∧ (lf_R (s.1 107 (x6 + (-1))) ∧ ((s.1 107 (x6 + (-1)) = 0 → (fm_268_p405 X38 Q x3 x4 x5 (x6 + (-1)) x7 ((x6 + (-1)) - 1) s)) ∧ (¬ (s.1 107 (x6 + (-1)) = 0) → (fm_268_p436 X38 Q x3 x4 x5 (x6 + (-1)) x7 ((x6 + (-1)) - 1) 1 s)))))))))))) ∧ (¬ (s.1 98 (x4 + (2 * x7)) ≠ 20) → ((0 ≤ x6 - 1 ∧ x6 - 1 < 330) ∧ (lf_R (s.1 107 (x6 - 1)) ∧ ((s.1 107 (x6 - 1) ≠ 0 → (fm_268_p357 X38 Q x3 x4 x5 x6 x7 (x6 - 1) 0 s)) ∧ (¬ (s.1 107 (x6 - 1) ≠ 0) → (fm_268_p357 X38 Q x3 x4 x5 x6 x7 (x6 - 1) 1 s)))))))) ∧ (¬ (20 ≤ s.1 98 (x4 + (2 * x7))) → ((0 ≤ x5 + (-2) ∧ x5 + (-2) < 330) ∧ ((0 ≤ (x5 + (-2)) + 1 ∧ (x5 + (-2)) + 1 < 330) ∧ (fm_271 (s.1 98 (x4 + (2 * x7))) (lf_wl (s.2.1 106 (x5 + (-2)))) (lf_wl (s.2.1 106 ((x5 + (-2)) + 1))) (fun z51 s50 => ((0 ≤ x6 ∧ x6 < 330) ∧ ((lf_b z51 = 0 ∨ lf_b z51 = 1) ∧ (fm_268_p437 X38 Q x3 x4 (x5 + (-2)) (x6 + 1) x7 (lf_up s50.1 107 x6 (lf_b z51), s50.2.1, s50.2.2))))) s)))))) ∧ (¬ (10 ≤ s.1 98 (x4 + (2 * x7))) → ((0 ≤ (x5 + (-1)) - 1 ∧ (x5 + (-1)) - 1 < 330) ∧ ((0 ≤ x5 + (-1) ∧ x5 + (-1) < 330) ∧ (fm_269 (s.1 98 (x4 + (2 * x7))) (lf_wl (s.2.1 106 ((x5 + (-1)) - 1))) (lf_wl (s.2.1 106 (x5 + (-1)))) (fun r57 s56 => (fm_268_p437 X38 Q x3 x4 (x5 + (-1)) x6 x7 (s56.1, lf_up s56.2.1 106 ((x5 + (-1)) - 1) (lf_wl r57), s56.2.2))) s)))))) ∧ (¬ (s.1 98 (x4 + (2 * x7)) ≠ 3) → ((0 ≤ x5 - 1 ∧ x5 - 1 < 330) ∧ (fm_268_p437 X38 Q x3 x4 x5 x6 x7 (s.1, lf_up s.2.1 106 (x5 - 1) (lf_wl (-(lf_wl (s.2.1 106 (x5 - 1))))), s.2.2)))))) ∧ (¬ (s.1 98 (x4 + (2 * x7)) ≠ 30) → ((0 ≤ x5 + (-1) ∧ x5 + (-1) < 330) ∧ ((0 ≤ s.1 98 ((x4 + (2 * x7)) + 1) ∧ s.1 98 ((x4 + (2 * x7)) + 1) < 80) ∧ (fm_268_p437 X38 Q x3 x4 (x5 + (-1)) x6 x7 (s.1, lf_up s.2.1 105 (s.1 98 ((x4 + (2 * x7)) + 1)) (lf_wl (s.2.1 106 (x5 + (-1)))), s.2.2))))))) ∧ (¬ (s.1 98 (x4 + (2 * x7)) ≠ 2) → ((0 ≤ x6 + (-1) ∧ x6 + (-1) < 330) ∧ (lf_R (s.1 107 (x6 + (-1))) ∧ ((s.1 107 (x6 + (-1)) ≠ 0 → (fm_268_p437 X38 Q x3 x4 (x5 + (-1)) (x6 + (-1)) x7 s)) ∧ (¬ (s.1 107 (x6 + (-1)) ≠ 0) → ((0 ≤ x5 + (-1) ∧ x5 + (-1) < 330) ∧ ((0 ≤ (x5 + (-1)) - 1 ∧ (x5 + (-1)) - 1 < 330) ∧ (fm_268_p437 X38 Q x3 x4 (x5 + (-1)) (x6 + (-1)) x7 (s.1, lf_up s.2.1 106 ((x5 + (-1)) - 1) (lf_wl (s.2.1 106 (x5 + (-1)))), s.2.2))))))))))) ∧ (¬ (s.1 98 (x4 + (2 * x7)) ≠ 31) → (fm_268_p94 X38 Q x3 x4 x5 x6 x7 (s.1 98 (x4 + (2 * x7))) (s.1 98 ((x4 + (2 * x7)) + 1)) s))))))))))))
def fm_268_p38L (Q : Int → lf_Z → Prop) (x3 : Int) (x4 : Int) (x5 : Int) (x6 : Int) (x7 : Int) (s : lf_Z) : Prop := ∀ X38 : Int → Int → Int → lf_Z → Prop, (∀ (x5 : Int) (x6 : Int) (x7 : Int) (s : lf_Z), fm_268_p38 Q x3 x4 X38 x5 x6 x7 s → X38 x5 x6 x7 s) → X38 x5 x6 x7 s
set_option maxRecDepth 100000 in
theorem gm_268_p38 {L : Nat} {xs : Nat → Int32} {d : Nat} {Q : Int → lf_Z → Prop} {x3 : Int} {x4 : Int} {x5 : Int} {x6 : Int} {x7 : Int} {s : lf_Z} {X38 : Int → Int → Int → lf_Z → Prop} (hX38 : ∀ x5 x6 x7 s, X38 x5 x6 x7 s → lf_E (px_ro L xs) (d + 3) 268 38 [(0, .ref 95), (3, .int (Int32.ofInt x3)), (4, .int (Int32.ofInt x4)), (5, .int (Int32.ofInt x5)), (6, .int (Int32.ofInt x6)), (7, .int (Int32.ofInt x7))] [] s (lf_qi Q)) (h : fm_268_p38 Q x3 x4 X38 x5 x6 x7 s) : lf_E (px_ro L xs) (d + 3) 268 38 [(0, .ref 95), (3, .int (Int32.ofInt x3)), (4, .int (Int32.ofInt x4)), (5, .int (Int32.ofInt x5)), (6, .int (Int32.ofInt x6)), (7, .int (Int32.ofInt x7))] [] s (lf_qi Q) := by
  unfold fm_268_p38 at h
  refine lf_seg 5 (pc' := 46) (lv' := [(0, .ref 95), (3, .int (Int32.ofInt x3)), (4, .int (Int32.ofInt x4)), (5, .int (Int32.ofInt x5)), (6, .int (Int32.ofInt x6)), (7, .int (Int32.ofInt x7))]) (st' := [.int (Int32.ofInt 2), .int (Int32.ofInt x3), .ref 98, .int (Int32.ofInt x7)]) rfl ?_
  refine lf_iadd 47 rfl rfl ?_
  obtain ⟨o22, h⟩ := h
  refine lf_iald 48 2820 rfl rfl rfl rfl rfl rfl o22 ?_
  obtain ⟨o23, h⟩ := h
  obtain ⟨o24, h⟩ := h
  refine lf_icmp_ge 443 51 rfl rfl rfl o23 o24 (fun c => ?_) (fun c => ?_)
  · have h := h.1 c
    refine lf_seg 3 (pc' := 448) (lv' := [(0, .ref 95), (3, .int (Int32.ofInt x3)), (4, .int (Int32.ofInt x4)), (5, .int (Int32.ofInt x5)), (6, .int (Int32.ofInt x6)), (7, .int (Int32.ofInt x7))]) (st' := [.int (Int32.ofInt 0), .ref 106]) rfl ?_
    refine lf_lald 449 330 rfl rfl rfl rfl rfl rfl ⟨by decide, by decide⟩ ?_
    refine lf_wtL ?_
    refine lf_l2i 450 rfl rfl ?_
    refine lf_wtI ?_
    exact lf_retI rfl rfl h
  · have h := h.2 c
    refine lf_seg 5 (pc' := 60) (lv' := [(0, .ref 95), (3, .int (Int32.ofInt x3)), (4, .int (Int32.ofInt x4)), (5, .int (Int32.ofInt x5)), (6, .int (Int32.ofInt x6)), (7, .int (Int32.ofInt x7))]) (st' := [.int (Int32.ofInt x7), .int (Int32.ofInt 2), .int (Int32.ofInt x4), .ref 98]) rfl ?_
    refine lf_imul 61 rfl rfl ?_
    refine lf_iadd 62 rfl rfl ?_
    obtain ⟨o25, h⟩ := h
    refine lf_iald 63 2820 rfl rfl rfl rfl rfl rfl o25 ?_
    refine lf_seg 6 (pc' := 74) (lv' := [(8, .int (Int32.ofInt (s.1 98 (x4 + (2 * x7))))), (0, .ref 95), (3, .int (Int32.ofInt x3)), (4, .int (Int32.ofInt x4)), (5, .int (Int32.ofInt x5)), (6, .int (Int32.ofInt x6)), (7, .int (Int32.ofInt x7))]) (st' := [.int (Int32.ofInt x7), .int (Int32.ofInt 2), .int (Int32.ofInt x4), .ref 98]) rfl ?_
    refine lf_imul 75 rfl rfl ?_
    refine lf_iadd 76 rfl rfl ?_
    refine lf_seg 1 (pc' := 77) (lv' := [(8, .int (Int32.ofInt (s.1 98 (x4 + (2 * x7))))), (0, .ref 95), (3, .int (Int32.ofInt x3)), (4, .int (Int32.ofInt x4)), (5, .int (Int32.ofInt x5)), (6, .int (Int32.ofInt x6)), (7, .int (Int32.ofInt x7))]) (st' := [.int (Int32.ofInt 1), .int (Int32.ofInt (x4 + (2 * x7))), .ref 98]) rfl ?_
    refine lf_iadd 78 rfl rfl ?_
    obtain ⟨o26, h⟩ := h
    refine lf_iald 79 2820 rfl rfl rfl rfl rfl rfl o26 ?_
    refine lf_seg 3 (pc' := 84) (lv' := [(9, .int (Int32.ofInt (s.1 98 ((x4 + (2 * x7)) + 1)))), (8, .int (Int32.ofInt (s.1 98 (x4 + (2 * x7))))), (0, .ref 95), (3, .int (Int32.ofInt x3)), (4, .int (Int32.ofInt x4)), (5, .int (Int32.ofInt x5)), (6, .int (Int32.ofInt x6)), (7, .int (Int32.ofInt x7))]) (st' := [.int (Int32.ofInt 1), .int (Int32.ofInt (s.1 98 (x4 + (2 * x7))))]) rfl ?_
    obtain ⟨o27, h⟩ := h
    refine lf_icmp_le 94 87 rfl rfl rfl o27 ⟨by decide, by decide⟩ (fun c => ?_) (fun c => ?_)
    · have h := h.1 c
      refine lf_sub (l := [(0, .ref 95), (3, .int (Int32.ofInt x3)), (4, .int (Int32.ofInt x4)), (5, .int (Int32.ofInt x5)), (6, .int (Int32.ofInt x6)), (7, .int (Int32.ofInt x7)), (8, .int (Int32.ofInt (s.1 98 (x4 + (2 * x7))))), (9, .int (Int32.ofInt (s.1 98 ((x4 + (2 * x7)) + 1))))]) (lf_sb1 rfl (lf_sb1 rfl (lf_sb1 rfl (lf_sb1 rfl (lf_sb1 rfl (lf_sb1 rfl (lf_sb1 rfl (lf_sb1 rfl lf_sb0)))))))) ?_
      exact gm_268_p94 hX38 h
    · have h := h.2 c
      refine lf_seg 1 (pc' := 89) (lv' := [(9, .int (Int32.ofInt (s.1 98 ((x4 + (2 * x7)) + 1)))), (8, .int (Int32.ofInt (s.1 98 (x4 + (2 * x7))))), (0, .ref 95), (3, .int (Int32.ofInt x3)), (4, .int (Int32.ofInt x4)), (5, .int (Int32.ofInt x5)), (6, .int (Int32.ofInt x6)), (7, .int (Int32.ofInt x7))]) (st' := [.int (Int32.ofInt (s.1 98 (x4 + (2 * x7))))]) rfl ?_
      refine lf_bipush 91 31 rfl rfl (by decide) (by decide) ?_
      refine lf_icmp_ne 142 94 rfl rfl rfl o27 ⟨by decide, by decide⟩ (fun c => ?_) (fun c => ?_)
      · have h := h.1 c
        refine lf_seg 2 (pc' := 145) (lv' := [(9, .int (Int32.ofInt (s.1 98 ((x4 + (2 * x7)) + 1)))), (8, .int (Int32.ofInt (s.1 98 (x4 + (2 * x7))))), (0, .ref 95), (3, .int (Int32.ofInt x3)), (4, .int (Int32.ofInt x4)), (5, .int (Int32.ofInt x5)), (6, .int (Int32.ofInt x6)), (7, .int (Int32.ofInt x7))]) (st' := [.int (Int32.ofInt 2), .int (Int32.ofInt (s.1 98 (x4 + (2 * x7))))]) rfl ?_
        refine lf_icmp_ne 183 148 rfl rfl rfl o27 ⟨by decide, by decide⟩ (fun c => ?_) (fun c => ?_)
        · have h := h.1 c
          refine lf_seg 1 (pc' := 185) (lv' := [(9, .int (Int32.ofInt (s.1 98 ((x4 + (2 * x7)) + 1)))), (8, .int (Int32.ofInt (s.1 98 (x4 + (2 * x7))))), (0, .ref 95), (3, .int (Int32.ofInt x3)), (4, .int (Int32.ofInt x4)), (5, .int (Int32.ofInt x5)), (6, .int (Int32.ofInt x6)), (7, .int (Int32.ofInt x7))]) (st' := [.int (Int32.ofInt (s.1 98 (x4 + (2 * x7))))]) rfl ?_
          refine lf_bipush 187 30 rfl rfl (by decide) (by decide) ?_
          refine lf_icmp_ne 210 190 rfl rfl rfl o27 ⟨by decide, by decide⟩ (fun c => ?_) (fun c => ?_)
          · have h := h.1 c
            refine lf_seg 2 (pc' := 213) (lv' := [(9, .int (Int32.ofInt (s.1 98 ((x4 + (2 * x7)) + 1)))), (8, .int (Int32.ofInt (s.1 98 (x4 + (2 * x7))))), (0, .ref 95), (3, .int (Int32.ofInt x3)), (4, .int (Int32.ofInt x4)), (5, .int (Int32.ofInt x5)), (6, .int (Int32.ofInt x6)), (7, .int (Int32.ofInt x7))]) (st' := [.int (Int32.ofInt 3), .int (Int32.ofInt (s.1 98 (x4 + (2 * x7))))]) rfl ?_
            refine lf_icmp_ne 238 216 rfl rfl rfl o27 ⟨by decide, by decide⟩ (fun c => ?_) (fun c => ?_)
            · have h := h.1 c
              refine lf_seg 1 (pc' := 240) (lv' := [(9, .int (Int32.ofInt (s.1 98 ((x4 + (2 * x7)) + 1)))), (8, .int (Int32.ofInt (s.1 98 (x4 + (2 * x7))))), (0, .ref 95), (3, .int (Int32.ofInt x3)), (4, .int (Int32.ofInt x4)), (5, .int (Int32.ofInt x5)), (6, .int (Int32.ofInt x6)), (7, .int (Int32.ofInt x7))]) (st' := [.int (Int32.ofInt (s.1 98 (x4 + (2 * x7))))]) rfl ?_
              refine lf_bipush 242 10 rfl rfl (by decide) (by decide) ?_
              refine lf_icmp_ge 281 245 rfl rfl rfl o27 ⟨by decide, by decide⟩ (fun c => ?_) (fun c => ?_)
              · have h := h.1 c
                refine lf_seg 1 (pc' := 283) (lv' := [(9, .int (Int32.ofInt (s.1 98 ((x4 + (2 * x7)) + 1)))), (8, .int (Int32.ofInt (s.1 98 (x4 + (2 * x7))))), (0, .ref 95), (3, .int (Int32.ofInt x3)), (4, .int (Int32.ofInt x4)), (5, .int (Int32.ofInt x5)), (6, .int (Int32.ofInt x6)), (7, .int (Int32.ofInt x7))]) (st' := [.int (Int32.ofInt (s.1 98 (x4 + (2 * x7))))]) rfl ?_
                refine lf_bipush 285 20 rfl rfl (by decide) (by decide) ?_
                refine lf_icmp_ge 325 288 rfl rfl rfl o27 ⟨by decide, by decide⟩ (fun c => ?_) (fun c => ?_)
                · have h := h.1 c
                  refine lf_seg 1 (pc' := 327) (lv' := [(9, .int (Int32.ofInt (s.1 98 ((x4 + (2 * x7)) + 1)))), (8, .int (Int32.ofInt (s.1 98 (x4 + (2 * x7))))), (0, .ref 95), (3, .int (Int32.ofInt x3)), (4, .int (Int32.ofInt x4)), (5, .int (Int32.ofInt x5)), (6, .int (Int32.ofInt x6)), (7, .int (Int32.ofInt x7))]) (st' := [.int (Int32.ofInt (s.1 98 (x4 + (2 * x7))))]) rfl ?_
                  refine lf_bipush 329 20 rfl rfl (by decide) (by decide) ?_
                  refine lf_icmp_ne 361 332 rfl rfl rfl o27 ⟨by decide, by decide⟩ (fun c => ?_) (fun c => ?_)
                  · have h := h.1 c
                    refine lf_iinc 364 rfl rfl rfl rfl ?_
                    refine lf_seg 4 (pc' := 371) (lv' := [(6, .int (Int32.ofInt (x6 + (-1)))), (9, .int (Int32.ofInt (s.1 98 ((x4 + (2 * x7)) + 1)))), (8, .int (Int32.ofInt (s.1 98 (x4 + (2 * x7))))), (0, .ref 95), (3, .int (Int32.ofInt x3)), (4, .int (Int32.ofInt x4)), (5, .int (Int32.ofInt x5)), (7, .int (Int32.ofInt x7))]) (st' := [.int (Int32.ofInt 1), .int (Int32.ofInt (x6 + (-1))), .ref 107]) rfl ?_
                    refine lf_isub 372 rfl rfl ?_
                    refine lf_seg 1 (pc' := 374) (lv' := [(6, .int (Int32.ofInt (x6 + (-1)))), (9, .int (Int32.ofInt (s.1 98 ((x4 + (2 * x7)) + 1)))), (8, .int (Int32.ofInt (s.1 98 (x4 + (2 * x7))))), (0, .ref 95), (3, .int (Int32.ofInt x3)), (4, .int (Int32.ofInt x4)), (5, .int (Int32.ofInt x5)), (7, .int (Int32.ofInt x7))]) (st' := [.int (Int32.ofInt (s.1 98 (x4 + (2 * x7)))), .int (Int32.ofInt ((x6 + (-1)) - 1)), .ref 107]) rfl ?_
                    refine lf_bipush 376 21 rfl rfl (by decide) (by decide) ?_
                    refine lf_icmp_ne 409 379 rfl rfl rfl o27 ⟨by decide, by decide⟩ (fun c => ?_) (fun c => ?_)
                    · have h := h.1 c
                      refine lf_seg 4 (pc' := 416) (lv' := [(6, .int (Int32.ofInt (x6 + (-1)))), (9, .int (Int32.ofInt (s.1 98 ((x4 + (2 * x7)) + 1)))), (8, .int (Int32.ofInt (s.1 98 (x4 + (2 * x7))))), (0, .ref 95), (3, .int (Int32.ofInt x3)), (4, .int (Int32.ofInt x4)), (5, .int (Int32.ofInt x5)), (7, .int (Int32.ofInt x7))]) (st' := [.int (Int32.ofInt 1), .int (Int32.ofInt (x6 + (-1))), .ref 107, .int (Int32.ofInt ((x6 + (-1)) - 1)), .ref 107]) rfl ?_
                      refine lf_isub 417 rfl rfl ?_
                      obtain ⟨o34, h⟩ := h
                      refine lf_zald 418 330 rfl rfl rfl rfl rfl rfl o34 ?_
                      obtain ⟨o35, h⟩ := h
                      refine lf_if_ne 431 421 rfl rfl rfl o35 (fun c => ?_) (fun c => ?_)
                      · have h := h.1 c
                        refine lf_sub (l := [(0, .ref 95), (3, .int (Int32.ofInt x3)), (4, .int (Int32.ofInt x4)), (5, .int (Int32.ofInt x5)), (6, .int (Int32.ofInt (x6 + (-1)))), (7, .int (Int32.ofInt x7))]) (lf_sb1 rfl (lf_sb1 rfl (lf_sb1 rfl (lf_sb1 rfl (lf_sb1 rfl (lf_sb1 rfl lf_sb0)))))) ?_
                        exact gm_268_p431 hX38 h
                      · have h := h.2 c
                        refine lf_seg 3 (pc' := 427) (lv' := [(6, .int (Int32.ofInt (x6 + (-1)))), (9, .int (Int32.ofInt (s.1 98 ((x4 + (2 * x7)) + 1)))), (8, .int (Int32.ofInt (s.1 98 (x4 + (2 * x7))))), (0, .ref 95), (3, .int (Int32.ofInt x3)), (4, .int (Int32.ofInt x4)), (5, .int (Int32.ofInt x5)), (7, .int (Int32.ofInt x7))]) (st' := [.int (Int32.ofInt (x6 + (-1))), .ref 107, .int (Int32.ofInt ((x6 + (-1)) - 1)), .ref 107]) rfl ?_
                        obtain ⟨o38, h⟩ := h
                        refine lf_zald 428 330 rfl rfl rfl rfl rfl rfl o38 ?_
                        obtain ⟨o39, h⟩ := h
                        refine lf_if_eq 435 431 rfl rfl rfl o39 (fun c => ?_) (fun c => ?_)
                        · have h := h.1 c
                          refine lf_seg 1 (pc' := 436) (lv' := [(6, .int (Int32.ofInt (x6 + (-1)))), (9, .int (Int32.ofInt (s.1 98 ((x4 + (2 * x7)) + 1)))), (8, .int (Int32.ofInt (s.1 98 (x4 + (2 * x7))))), (0, .ref 95), (3, .int (Int32.ofInt x3)), (4, .int (Int32.ofInt x4)), (5, .int (Int32.ofInt x5)), (7, .int (Int32.ofInt x7))]) (st' := [.int (Int32.ofInt 0), .int (Int32.ofInt ((x6 + (-1)) - 1)), .ref 107]) rfl ?_
                          refine lf_sub (l := [(0, .ref 95), (3, .int (Int32.ofInt x3)), (4, .int (Int32.ofInt x4)), (5, .int (Int32.ofInt x5)), (6, .int (Int32.ofInt (x6 + (-1)))), (7, .int (Int32.ofInt x7))]) (lf_sb1 rfl (lf_sb1 rfl (lf_sb1 rfl (lf_sb1 rfl (lf_sb1 rfl (lf_sb1 rfl lf_sb0)))))) ?_
                          exact gm_268_p436 hX38 h
                        · have h := h.2 c
                          refine lf_sub (l := [(0, .ref 95), (3, .int (Int32.ofInt x3)), (4, .int (Int32.ofInt x4)), (5, .int (Int32.ofInt x5)), (6, .int (Int32.ofInt (x6 + (-1)))), (7, .int (Int32.ofInt x7))]) (lf_sb1 rfl (lf_sb1 rfl (lf_sb1 rfl (lf_sb1 rfl (lf_sb1 rfl (lf_sb1 rfl lf_sb0)))))) ?_
                          exact gm_268_p431 hX38 h
                    · have h := h.2 c
                      refine lf_seg 4 (pc' := 386) (lv' := [(6, .int (Int32.ofInt (x6 + (-1)))), (9, .int (Int32.ofInt (s.1 98 ((x4 + (2 * x7)) + 1)))), (8, .int (Int32.ofInt (s.1 98 (x4 + (2 * x7))))), (0, .ref 95), (3, .int (Int32.ofInt x3)), (4, .int (Int32.ofInt x4)), (5, .int (Int32.ofInt x5)), (7, .int (Int32.ofInt x7))]) (st' := [.int (Int32.ofInt 1), .int (Int32.ofInt (x6 + (-1))), .ref 107, .int (Int32.ofInt ((x6 + (-1)) - 1)), .ref 107]) rfl ?_
                      refine lf_isub 387 rfl rfl ?_
                      obtain ⟨o40, h⟩ := h
                      refine lf_zald 388 330 rfl rfl rfl rfl rfl rfl o40 ?_
                      obtain ⟨o41, h⟩ := h
                      refine lf_if_eq 405 391 rfl rfl rfl o41 (fun c => ?_) (fun c => ?_)
                      · have h := h.1 c
                        refine lf_sub (l := [(0, .ref 95), (3, .int (Int32.ofInt x3)), (4, .int (Int32.ofInt x4)), (5, .int (Int32.ofInt x5)), (6, .int (Int32.ofInt (x6 + (-1)))), (7, .int (Int32.ofInt x7))]) (lf_sb1 rfl (lf_sb1 rfl (lf_sb1 rfl (lf_sb1 rfl (lf_sb1 rfl (lf_sb1 rfl lf_sb0)))))) ?_
                        exact gm_268_p405 hX38 h
                      · have h := h.2 c
                        refine lf_seg 3 (pc' := 397) (lv' := [(6, .int (Int32.ofInt (x6 + (-1)))), (9, .int (Int32.ofInt (s.1 98 ((x4 + (2 * x7)) + 1)))), (8, .int (Int32.ofInt (s.1 98 (x4 + (2 * x7))))), (0, .ref 95), (3, .int (Int32.ofInt x3)), (4, .int (Int32.ofInt x4)), (5, .int (Int32.ofInt x5)), (7, .int (Int32.ofInt x7))]) (st' := [.int (Int32.ofInt (x6 + (-1))), .ref 107, .int (Int32.ofInt ((x6 + (-1)) - 1)), .ref 107]) rfl ?_
                        obtain ⟨o42, h⟩ := h
                        refine lf_zald 398 330 rfl rfl rfl rfl rfl rfl o42 ?_
                        obtain ⟨o43, h⟩ := h
                        refine lf_if_eq 405 401 rfl rfl rfl o43 (fun c => ?_) (fun c => ?_)
                        · have h := h.1 c
                          refine lf_sub (l := [(0, .ref 95), (3, .int (Int32.ofInt x3)), (4, .int (Int32.ofInt x4)), (5, .int (Int32.ofInt x5)), (6, .int (Int32.ofInt (x6 + (-1)))), (7, .int (Int32.ofInt x7))]) (lf_sb1 rfl (lf_sb1 rfl (lf_sb1 rfl (lf_sb1 rfl (lf_sb1 rfl (lf_sb1 rfl lf_sb0)))))) ?_
                          exact gm_268_p405 hX38 h
                        · have h := h.2 c
                          refine lf_seg 2 (pc' := 436) (lv' := [(6, .int (Int32.ofInt (x6 + (-1)))), (9, .int (Int32.ofInt (s.1 98 ((x4 + (2 * x7)) + 1)))), (8, .int (Int32.ofInt (s.1 98 (x4 + (2 * x7))))), (0, .ref 95), (3, .int (Int32.ofInt x3)), (4, .int (Int32.ofInt x4)), (5, .int (Int32.ofInt x5)), (7, .int (Int32.ofInt x7))]) (st' := [.int (Int32.ofInt 1), .int (Int32.ofInt ((x6 + (-1)) - 1)), .ref 107]) rfl ?_
                          refine lf_sub (l := [(0, .ref 95), (3, .int (Int32.ofInt x3)), (4, .int (Int32.ofInt x4)), (5, .int (Int32.ofInt x5)), (6, .int (Int32.ofInt (x6 + (-1)))), (7, .int (Int32.ofInt x7))]) (lf_sb1 rfl (lf_sb1 rfl (lf_sb1 rfl (lf_sb1 rfl (lf_sb1 rfl (lf_sb1 rfl lf_sb0)))))) ?_
                          exact gm_268_p436 hX38 h
                  · have h := h.2 c
                    refine lf_seg 4 (pc' := 339) (lv' := [(9, .int (Int32.ofInt (s.1 98 ((x4 + (2 * x7)) + 1)))), (8, .int (Int32.ofInt (s.1 98 (x4 + (2 * x7))))), (0, .ref 95), (3, .int (Int32.ofInt x3)), (4, .int (Int32.ofInt x4)), (5, .int (Int32.ofInt x5)), (6, .int (Int32.ofInt x6)), (7, .int (Int32.ofInt x7))]) (st' := [.int (Int32.ofInt 1), .int (Int32.ofInt x6), .ref 107]) rfl ?_
                    refine lf_isub 340 rfl rfl ?_
                    refine lf_seg 4 (pc' := 347) (lv' := [(9, .int (Int32.ofInt (s.1 98 ((x4 + (2 * x7)) + 1)))), (8, .int (Int32.ofInt (s.1 98 (x4 + (2 * x7))))), (0, .ref 95), (3, .int (Int32.ofInt x3)), (4, .int (Int32.ofInt x4)), (5, .int (Int32.ofInt x5)), (6, .int (Int32.ofInt x6)), (7, .int (Int32.ofInt x7))]) (st' := [.int (Int32.ofInt 1), .int (Int32.ofInt x6), .ref 107, .int (Int32.ofInt (x6 - 1)), .ref 107]) rfl ?_
                    refine lf_isub 348 rfl rfl ?_
                    obtain ⟨o44, h⟩ := h
                    refine lf_zald 349 330 rfl rfl rfl rfl rfl rfl o44 ?_
                    obtain ⟨o45, h⟩ := h
                    refine lf_if_ne 356 352 rfl rfl rfl o45 (fun c => ?_) (fun c => ?_)
                    · have h := h.1 c
                      refine lf_seg 1 (pc' := 357) (lv' := [(9, .int (Int32.ofInt (s.1 98 ((x4 + (2 * x7)) + 1)))), (8, .int (Int32.ofInt (s.1 98 (x4 + (2 * x7))))), (0, .ref 95), (3, .int (Int32.ofInt x3)), (4, .int (Int32.ofInt x4)), (5, .int (Int32.ofInt x5)), (6, .int (Int32.ofInt x6)), (7, .int (Int32.ofInt x7))]) (st' := [.int (Int32.ofInt 0), .int (Int32.ofInt (x6 - 1)), .ref 107]) rfl ?_
                      refine lf_sub (l := [(0, .ref 95), (3, .int (Int32.ofInt x3)), (4, .int (Int32.ofInt x4)), (5, .int (Int32.ofInt x5)), (6, .int (Int32.ofInt x6)), (7, .int (Int32.ofInt x7))]) (lf_sb1 rfl (lf_sb1 rfl (lf_sb1 rfl (lf_sb1 rfl (lf_sb1 rfl (lf_sb1 rfl lf_sb0)))))) ?_
                      exact gm_268_p357 hX38 h
                    · have h := h.2 c
                      refine lf_seg 2 (pc' := 357) (lv' := [(9, .int (Int32.ofInt (s.1 98 ((x4 + (2 * x7)) + 1)))), (8, .int (Int32.ofInt (s.1 98 (x4 + (2 * x7))))), (0, .ref 95), (3, .int (Int32.ofInt x3)), (4, .int (Int32.ofInt x4)), (5, .int (Int32.ofInt x5)), (6, .int (Int32.ofInt x6)), (7, .int (Int32.ofInt x7))]) (st' := [.int (Int32.ofInt 1), .int (Int32.ofInt (x6 - 1)), .ref 107]) rfl ?_
                      refine lf_sub (l := [(0, .ref 95), (3, .int (Int32.ofInt x3)), (4, .int (Int32.ofInt x4)), (5, .int (Int32.ofInt x5)), (6, .int (Int32.ofInt x6)), (7, .int (Int32.ofInt x7))]) (lf_sb1 rfl (lf_sb1 rfl (lf_sb1 rfl (lf_sb1 rfl (lf_sb1 rfl (lf_sb1 rfl lf_sb0)))))) ?_
                      exact gm_268_p357 hX38 h
                · have h := h.2 c
                  refine lf_iinc 291 rfl rfl rfl rfl ?_
                  refine lf_seg 6 (pc' := 303) (lv' := [(5, .int (Int32.ofInt (x5 + (-2)))), (9, .int (Int32.ofInt (s.1 98 ((x4 + (2 * x7)) + 1)))), (8, .int (Int32.ofInt (s.1 98 (x4 + (2 * x7))))), (0, .ref 95), (3, .int (Int32.ofInt x3)), (4, .int (Int32.ofInt x4)), (6, .int (Int32.ofInt x6)), (7, .int (Int32.ofInt x7))]) (st' := [.ref 106, .int (Int32.ofInt (s.1 98 (x4 + (2 * x7)))), .int (Int32.ofInt x6), .ref 107]) rfl ?_
                  refine lf_seg 1 (pc' := 305) (lv' := [(5, .int (Int32.ofInt (x5 + (-2)))), (9, .int (Int32.ofInt (s.1 98 ((x4 + (2 * x7)) + 1)))), (8, .int (Int32.ofInt (s.1 98 (x4 + (2 * x7))))), (0, .ref 95), (3, .int (Int32.ofInt x3)), (4, .int (Int32.ofInt x4)), (6, .int (Int32.ofInt x6)), (7, .int (Int32.ofInt x7))]) (st' := [.int (Int32.ofInt (x5 + (-2))), .ref 106, .int (Int32.ofInt (s.1 98 (x4 + (2 * x7)))), .int (Int32.ofInt x6), .ref 107]) rfl ?_
                  obtain ⟨o48, h⟩ := h
                  refine lf_lald 306 330 rfl rfl rfl rfl rfl rfl o48 ?_
                  refine lf_wtL ?_
                  refine lf_seg 4 (pc' := 313) (lv' := [(5, .int (Int32.ofInt (x5 + (-2)))), (9, .int (Int32.ofInt (s.1 98 ((x4 + (2 * x7)) + 1)))), (8, .int (Int32.ofInt (s.1 98 (x4 + (2 * x7))))), (0, .ref 95), (3, .int (Int32.ofInt x3)), (4, .int (Int32.ofInt x4)), (6, .int (Int32.ofInt x6)), (7, .int (Int32.ofInt x7))]) (st' := [.int (Int32.ofInt 1), .int (Int32.ofInt (x5 + (-2))), .ref 106, .long (Int64.ofInt (lf_wl (s.2.1 106 (x5 + (-2))))), .int (Int32.ofInt (s.1 98 (x4 + (2 * x7)))), .int (Int32.ofInt x6), .ref 107]) rfl ?_
                  refine lf_iadd 314 rfl rfl ?_
                  obtain ⟨o49, h⟩ := h
                  refine lf_lald 315 330 rfl rfl rfl rfl rfl rfl o49 ?_
                  refine lf_wtL ?_
                  refine lf_callZ 318 rfl rfl rfl rfl (gm_271 h) (fun z51 s50 h => ?_)
                  obtain ⟨o52, h⟩ := h
                  obtain ⟨o53, h⟩ := h
                  refine lf_zast 319 330 rfl rfl rfl rfl rfl rfl o52 o53 ?_
                  refine lf_as (lf_up s50.1 107 x6 (lf_b z51), s50.2.1, s50.2.2) rfl ?_
                  refine lf_iinc 322 rfl rfl rfl rfl ?_
                  refine lf_seg 1 (pc' := 437) (lv' := [(6, .int (Int32.ofInt (x6 + 1))), (5, .int (Int32.ofInt (x5 + (-2)))), (9, .int (Int32.ofInt (s.1 98 ((x4 + (2 * x7)) + 1)))), (8, .int (Int32.ofInt (s.1 98 (x4 + (2 * x7))))), (0, .ref 95), (3, .int (Int32.ofInt x3)), (4, .int (Int32.ofInt x4)), (7, .int (Int32.ofInt x7))]) (st' := []) rfl ?_
                  refine lf_sub (l := [(0, .ref 95), (3, .int (Int32.ofInt x3)), (4, .int (Int32.ofInt x4)), (5, .int (Int32.ofInt (x5 + (-2)))), (6, .int (Int32.ofInt (x6 + 1))), (7, .int (Int32.ofInt x7))]) (lf_sb1 rfl (lf_sb1 rfl (lf_sb1 rfl (lf_sb1 rfl (lf_sb1 rfl (lf_sb1 rfl lf_sb0)))))) ?_
                  exact gm_268_p437 hX38 h
              · have h := h.2 c
                refine lf_iinc 248 rfl rfl rfl rfl ?_
                refine lf_seg 4 (pc' := 255) (lv' := [(5, .int (Int32.ofInt (x5 + (-1)))), (9, .int (Int32.ofInt (s.1 98 ((x4 + (2 * x7)) + 1)))), (8, .int (Int32.ofInt (s.1 98 (x4 + (2 * x7))))), (0, .ref 95), (3, .int (Int32.ofInt x3)), (4, .int (Int32.ofInt x4)), (6, .int (Int32.ofInt x6)), (7, .int (Int32.ofInt x7))]) (st' := [.int (Int32.ofInt 1), .int (Int32.ofInt (x5 + (-1))), .ref 106]) rfl ?_
                refine lf_isub 256 rfl rfl ?_
                refine lf_seg 5 (pc' := 265) (lv' := [(5, .int (Int32.ofInt (x5 + (-1)))), (9, .int (Int32.ofInt (s.1 98 ((x4 + (2 * x7)) + 1)))), (8, .int (Int32.ofInt (s.1 98 (x4 + (2 * x7))))), (0, .ref 95), (3, .int (Int32.ofInt x3)), (4, .int (Int32.ofInt x4)), (6, .int (Int32.ofInt x6)), (7, .int (Int32.ofInt x7))]) (st' := [.int (Int32.ofInt 1), .int (Int32.ofInt (x5 + (-1))), .ref 106, .int (Int32.ofInt (s.1 98 (x4 + (2 * x7)))), .int (Int32.ofInt ((x5 + (-1)) - 1)), .ref 106]) rfl ?_
                refine lf_isub 266 rfl rfl ?_
                obtain ⟨o54, h⟩ := h
                refine lf_lald 267 330 rfl rfl rfl rfl rfl rfl o54 ?_
                refine lf_wtL ?_
                refine lf_seg 3 (pc' := 273) (lv' := [(5, .int (Int32.ofInt (x5 + (-1)))), (9, .int (Int32.ofInt (s.1 98 ((x4 + (2 * x7)) + 1)))), (8, .int (Int32.ofInt (s.1 98 (x4 + (2 * x7))))), (0, .ref 95), (3, .int (Int32.ofInt x3)), (4, .int (Int32.ofInt x4)), (6, .int (Int32.ofInt x6)), (7, .int (Int32.ofInt x7))]) (st' := [.int (Int32.ofInt (x5 + (-1))), .ref 106, .long (Int64.ofInt (lf_wl (s.2.1 106 ((x5 + (-1)) - 1)))), .int (Int32.ofInt (s.1 98 (x4 + (2 * x7)))), .int (Int32.ofInt ((x5 + (-1)) - 1)), .ref 106]) rfl ?_
                obtain ⟨o55, h⟩ := h
                refine lf_lald 274 330 rfl rfl rfl rfl rfl rfl o55 ?_
                refine lf_wtL ?_
                refine lf_callL 277 rfl rfl rfl rfl (gm_269 h) (fun r57 s56 h => ?_)
                refine lf_wtL ?_
                refine lf_last 278 330 rfl rfl rfl rfl rfl rfl o54 ?_
                refine lf_as (s56.1, lf_up s56.2.1 106 ((x5 + (-1)) - 1) (lf_wl r57), s56.2.2) rfl ?_
                refine lf_seg 1 (pc' := 437) (lv' := [(5, .int (Int32.ofInt (x5 + (-1)))), (9, .int (Int32.ofInt (s.1 98 ((x4 + (2 * x7)) + 1)))), (8, .int (Int32.ofInt (s.1 98 (x4 + (2 * x7))))), (0, .ref 95), (3, .int (Int32.ofInt x3)), (4, .int (Int32.ofInt x4)), (6, .int (Int32.ofInt x6)), (7, .int (Int32.ofInt x7))]) (st' := []) rfl ?_
                refine lf_sub (l := [(0, .ref 95), (3, .int (Int32.ofInt x3)), (4, .int (Int32.ofInt x4)), (5, .int (Int32.ofInt (x5 + (-1)))), (6, .int (Int32.ofInt x6)), (7, .int (Int32.ofInt x7))]) (lf_sb1 rfl (lf_sb1 rfl (lf_sb1 rfl (lf_sb1 rfl (lf_sb1 rfl (lf_sb1 rfl lf_sb0)))))) ?_
                exact gm_268_p437 hX38 h
            · have h := h.2 c
              refine lf_seg 4 (pc' := 223) (lv' := [(9, .int (Int32.ofInt (s.1 98 ((x4 + (2 * x7)) + 1)))), (8, .int (Int32.ofInt (s.1 98 (x4 + (2 * x7))))), (0, .ref 95), (3, .int (Int32.ofInt x3)), (4, .int (Int32.ofInt x4)), (5, .int (Int32.ofInt x5)), (6, .int (Int32.ofInt x6)), (7, .int (Int32.ofInt x7))]) (st' := [.int (Int32.ofInt 1), .int (Int32.ofInt x5), .ref 106]) rfl ?_
              refine lf_isub 224 rfl rfl ?_
              refine lf_seg 4 (pc' := 231) (lv' := [(9, .int (Int32.ofInt (s.1 98 ((x4 + (2 * x7)) + 1)))), (8, .int (Int32.ofInt (s.1 98 (x4 + (2 * x7))))), (0, .ref 95), (3, .int (Int32.ofInt x3)), (4, .int (Int32.ofInt x4)), (5, .int (Int32.ofInt x5)), (6, .int (Int32.ofInt x6)), (7, .int (Int32.ofInt x7))]) (st' := [.int (Int32.ofInt 1), .int (Int32.ofInt x5), .ref 106, .int (Int32.ofInt (x5 - 1)), .ref 106]) rfl ?_
              refine lf_isub 232 rfl rfl ?_
              obtain ⟨o58, h⟩ := h
              refine lf_lald 233 330 rfl rfl rfl rfl rfl rfl o58 ?_
              refine lf_wtL ?_
              refine lf_lneg 234 rfl rfl ?_
              refine lf_wtL ?_
              refine lf_last 235 330 rfl rfl rfl rfl rfl rfl o58 ?_
              refine lf_as (s.1, lf_up s.2.1 106 (x5 - 1) (lf_wl (-(lf_wl (s.2.1 106 (x5 - 1))))), s.2.2) rfl ?_
              refine lf_seg 1 (pc' := 437) (lv' := [(9, .int (Int32.ofInt (s.1 98 ((x4 + (2 * x7)) + 1)))), (8, .int (Int32.ofInt (s.1 98 (x4 + (2 * x7))))), (0, .ref 95), (3, .int (Int32.ofInt x3)), (4, .int (Int32.ofInt x4)), (5, .int (Int32.ofInt x5)), (6, .int (Int32.ofInt x6)), (7, .int (Int32.ofInt x7))]) (st' := []) rfl ?_
              refine lf_sub (l := [(0, .ref 95), (3, .int (Int32.ofInt x3)), (4, .int (Int32.ofInt x4)), (5, .int (Int32.ofInt x5)), (6, .int (Int32.ofInt x6)), (7, .int (Int32.ofInt x7))]) (lf_sb1 rfl (lf_sb1 rfl (lf_sb1 rfl (lf_sb1 rfl (lf_sb1 rfl (lf_sb1 rfl lf_sb0)))))) ?_
              exact gm_268_p437 hX38 h
          · have h := h.2 c
            refine lf_iinc 193 rfl rfl rfl rfl ?_
            refine lf_seg 6 (pc' := 205) (lv' := [(5, .int (Int32.ofInt (x5 + (-1)))), (9, .int (Int32.ofInt (s.1 98 ((x4 + (2 * x7)) + 1)))), (8, .int (Int32.ofInt (s.1 98 (x4 + (2 * x7))))), (0, .ref 95), (3, .int (Int32.ofInt x3)), (4, .int (Int32.ofInt x4)), (6, .int (Int32.ofInt x6)), (7, .int (Int32.ofInt x7))]) (st' := [.int (Int32.ofInt (x5 + (-1))), .ref 106, .int (Int32.ofInt (s.1 98 ((x4 + (2 * x7)) + 1))), .ref 105]) rfl ?_
            obtain ⟨o59, h⟩ := h
            refine lf_lald 206 330 rfl rfl rfl rfl rfl rfl o59 ?_
            refine lf_wtL ?_
            obtain ⟨o60, h⟩ := h
            refine lf_last 207 80 rfl rfl rfl rfl rfl rfl o60 ?_
            refine lf_as (s.1, lf_up s.2.1 105 (s.1 98 ((x4 + (2 * x7)) + 1)) (lf_wl (s.2.1 106 (x5 + (-1)))), s.2.2) rfl ?_
            refine lf_seg 1 (pc' := 437) (lv' := [(5, .int (Int32.ofInt (x5 + (-1)))), (9, .int (Int32.ofInt (s.1 98 ((x4 + (2 * x7)) + 1)))), (8, .int (Int32.ofInt (s.1 98 (x4 + (2 * x7))))), (0, .ref 95), (3, .int (Int32.ofInt x3)), (4, .int (Int32.ofInt x4)), (6, .int (Int32.ofInt x6)), (7, .int (Int32.ofInt x7))]) (st' := []) rfl ?_
            refine lf_sub (l := [(0, .ref 95), (3, .int (Int32.ofInt x3)), (4, .int (Int32.ofInt x4)), (5, .int (Int32.ofInt (x5 + (-1)))), (6, .int (Int32.ofInt x6)), (7, .int (Int32.ofInt x7))]) (lf_sb1 rfl (lf_sb1 rfl (lf_sb1 rfl (lf_sb1 rfl (lf_sb1 rfl (lf_sb1 rfl lf_sb0)))))) ?_
            exact gm_268_p437 hX38 h
        · have h := h.2 c
          refine lf_iinc 151 rfl rfl rfl rfl ?_
          refine lf_seg 0 (pc' := 151) (lv' := [(5, .int (Int32.ofInt (x5 + (-1)))), (9, .int (Int32.ofInt (s.1 98 ((x4 + (2 * x7)) + 1)))), (8, .int (Int32.ofInt (s.1 98 (x4 + (2 * x7))))), (0, .ref 95), (3, .int (Int32.ofInt x3)), (4, .int (Int32.ofInt x4)), (6, .int (Int32.ofInt x6)), (7, .int (Int32.ofInt x7))]) (st' := []) rfl ?_
          refine lf_iinc 154 rfl rfl rfl rfl ?_
          refine lf_seg 3 (pc' := 160) (lv' := [(6, .int (Int32.ofInt (x6 + (-1)))), (5, .int (Int32.ofInt (x5 + (-1)))), (9, .int (Int32.ofInt (s.1 98 ((x4 + (2 * x7)) + 1)))), (8, .int (Int32.ofInt (s.1 98 (x4 + (2 * x7))))), (0, .ref 95), (3, .int (Int32.ofInt x3)), (4, .int (Int32.ofInt x4)), (7, .int (Int32.ofInt x7))]) (st' := [.int (Int32.ofInt (x6 + (-1))), .ref 107]) rfl ?_
          obtain ⟨o61, h⟩ := h
          refine lf_zald 161 330 rfl rfl rfl rfl rfl rfl o61 ?_
          obtain ⟨o62, h⟩ := h
          refine lf_if_ne 437 164 rfl rfl rfl o62 (fun c => ?_) (fun c => ?_)
          · have h := h.1 c
            refine lf_sub (l := [(0, .ref 95), (3, .int (Int32.ofInt x3)), (4, .int (Int32.ofInt x4)), (5, .int (Int32.ofInt (x5 + (-1)))), (6, .int (Int32.ofInt (x6 + (-1)))), (7, .int (Int32.ofInt x7))]) (lf_sb1 rfl (lf_sb1 rfl (lf_sb1 rfl (lf_sb1 rfl (lf_sb1 rfl (lf_sb1 rfl lf_sb0)))))) ?_
            exact gm_268_p437 hX38 h
          · have h := h.2 c
            refine lf_seg 4 (pc' := 171) (lv' := [(6, .int (Int32.ofInt (x6 + (-1)))), (5, .int (Int32.ofInt (x5 + (-1)))), (9, .int (Int32.ofInt (s.1 98 ((x4 + (2 * x7)) + 1)))), (8, .int (Int32.ofInt (s.1 98 (x4 + (2 * x7))))), (0, .ref 95), (3, .int (Int32.ofInt x3)), (4, .int (Int32.ofInt x4)), (7, .int (Int32.ofInt x7))]) (st' := [.int (Int32.ofInt 1), .int (Int32.ofInt (x5 + (-1))), .ref 106]) rfl ?_
            refine lf_isub 172 rfl rfl ?_
            refine lf_seg 3 (pc' := 178) (lv' := [(6, .int (Int32.ofInt (x6 + (-1)))), (5, .int (Int32.ofInt (x5 + (-1)))), (9, .int (Int32.ofInt (s.1 98 ((x4 + (2 * x7)) + 1)))), (8, .int (Int32.ofInt (s.1 98 (x4 + (2 * x7))))), (0, .ref 95), (3, .int (Int32.ofInt x3)), (4, .int (Int32.ofInt x4)), (7, .int (Int32.ofInt x7))]) (st' := [.int (Int32.ofInt (x5 + (-1))), .ref 106, .int (Int32.ofInt ((x5 + (-1)) - 1)), .ref 106]) rfl ?_
            obtain ⟨o63, h⟩ := h
            refine lf_lald 179 330 rfl rfl rfl rfl rfl rfl o63 ?_
            refine lf_wtL ?_
            obtain ⟨o64, h⟩ := h
            refine lf_last 180 330 rfl rfl rfl rfl rfl rfl o64 ?_
            refine lf_as (s.1, lf_up s.2.1 106 ((x5 + (-1)) - 1) (lf_wl (s.2.1 106 (x5 + (-1)))), s.2.2) rfl ?_
            refine lf_seg 1 (pc' := 437) (lv' := [(6, .int (Int32.ofInt (x6 + (-1)))), (5, .int (Int32.ofInt (x5 + (-1)))), (9, .int (Int32.ofInt (s.1 98 ((x4 + (2 * x7)) + 1)))), (8, .int (Int32.ofInt (s.1 98 (x4 + (2 * x7))))), (0, .ref 95), (3, .int (Int32.ofInt x3)), (4, .int (Int32.ofInt x4)), (7, .int (Int32.ofInt x7))]) (st' := []) rfl ?_
            refine lf_sub (l := [(0, .ref 95), (3, .int (Int32.ofInt x3)), (4, .int (Int32.ofInt x4)), (5, .int (Int32.ofInt (x5 + (-1)))), (6, .int (Int32.ofInt (x6 + (-1)))), (7, .int (Int32.ofInt x7))]) (lf_sb1 rfl (lf_sb1 rfl (lf_sb1 rfl (lf_sb1 rfl (lf_sb1 rfl (lf_sb1 rfl lf_sb0)))))) ?_
            exact gm_268_p437 hX38 h
      · have h := h.2 c
        refine lf_sub (l := [(0, .ref 95), (3, .int (Int32.ofInt x3)), (4, .int (Int32.ofInt x4)), (5, .int (Int32.ofInt x5)), (6, .int (Int32.ofInt x6)), (7, .int (Int32.ofInt x7)), (8, .int (Int32.ofInt (s.1 98 (x4 + (2 * x7))))), (9, .int (Int32.ofInt (s.1 98 ((x4 + (2 * x7)) + 1))))]) (lf_sb1 rfl (lf_sb1 rfl (lf_sb1 rfl (lf_sb1 rfl (lf_sb1 rfl (lf_sb1 rfl (lf_sb1 rfl (lf_sb1 rfl lf_sb0)))))))) ?_
        exact gm_268_p94 hX38 h
theorem gm_268_p38L {L : Nat} {xs : Nat → Int32} {d : Nat} {Q : Int → lf_Z → Prop} {x3 : Int} {x4 : Int} {x5 : Int} {x6 : Int} {x7 : Int} {s : lf_Z} (h : fm_268_p38L Q x3 x4 x5 x6 x7 s) : lf_E (px_ro L xs) (d + 3) 268 38 [(0, .ref 95), (3, .int (Int32.ofInt x3)), (4, .int (Int32.ofInt x4)), (5, .int (Int32.ofInt x5)), (6, .int (Int32.ofInt x6)), (7, .int (Int32.ofInt x7))] [] s (lf_qi Q) :=
  h (fun x5 x6 x7 s => lf_E (px_ro L xs) (d + 3) 268 38 [(0, .ref 95), (3, .int (Int32.ofInt x3)), (4, .int (Int32.ofInt x4)), (5, .int (Int32.ofInt x5)), (6, .int (Int32.ofInt x6)), (7, .int (Int32.ofInt x7))] [] s (lf_qi Q)) (fun x5 x6 x7 s hb => gm_268_p38 (fun _ _ _ _ h => h) hb)
def fm_268 (a1 : Int) (a2 : Int) (Q : Int → lf_Z → Prop) (s : lf_Z) : Prop := (0 ≤ (((705 * a1) + 1) + (4 * a2)) + 1 ∧ (((705 * a1) + 1) + (4 * a2)) + 1 < 2820) ∧ (fm_268_p38L Q (((705 * a1) + 1) + (4 * a2)) ((705 * a1) + 97) 0 0 (s.1 98 ((((705 * a1) + 1) + (4 * a2)) + 1)) s)
set_option maxRecDepth 100000 in
theorem gm_268 {L : Nat} {xs : Nat → Int32} {d : Nat} {a1 : Int} {a2 : Int} {Q : Int → lf_Z → Prop} {s : lf_Z} (h : fm_268 a1 a2 Q s) : lf_M (px_ro L xs) (d + 3) 268 [.ref 95, .int (Int32.ofInt a1), .int (Int32.ofInt a2)] s (lf_qi Q) := by
  unfold fm_268 at h
  show lf_E (px_ro L xs) (d + 3) 268 0 [(0, .ref 95), (1, .int (Int32.ofInt a1)), (2, .int (Int32.ofInt a2))] [] s _
  refine lf_sipush 3 705 rfl rfl (by decide) (by decide) ?_
  refine lf_seg 1 (pc' := 4) (lv' := [(0, .ref 95), (1, .int (Int32.ofInt a1)), (2, .int (Int32.ofInt a2))]) (st' := [.int (Int32.ofInt a1), .int (Int32.ofInt 705)]) rfl ?_
  refine lf_imul 5 rfl rfl ?_
  refine lf_seg 1 (pc' := 6) (lv' := [(0, .ref 95), (1, .int (Int32.ofInt a1)), (2, .int (Int32.ofInt a2))]) (st' := [.int (Int32.ofInt 1), .int (Int32.ofInt (705 * a1))]) rfl ?_
  refine lf_iadd 7 rfl rfl ?_
  refine lf_seg 2 (pc' := 9) (lv' := [(0, .ref 95), (1, .int (Int32.ofInt a1)), (2, .int (Int32.ofInt a2))]) (st' := [.int (Int32.ofInt a2), .int (Int32.ofInt 4), .int (Int32.ofInt ((705 * a1) + 1))]) rfl ?_
  refine lf_imul 10 rfl rfl ?_
  refine lf_iadd 11 rfl rfl ?_
  refine lf_seg 1 (pc' := 12) (lv' := [(3, .int (Int32.ofInt (((705 * a1) + 1) + (4 * a2)))), (0, .ref 95), (1, .int (Int32.ofInt a1)), (2, .int (Int32.ofInt a2))]) (st' := []) rfl ?_
  refine lf_sipush 15 705 rfl rfl (by decide) (by decide) ?_
  refine lf_seg 1 (pc' := 16) (lv' := [(3, .int (Int32.ofInt (((705 * a1) + 1) + (4 * a2)))), (0, .ref 95), (1, .int (Int32.ofInt a1)), (2, .int (Int32.ofInt a2))]) (st' := [.int (Int32.ofInt a1), .int (Int32.ofInt 705)]) rfl ?_
  refine lf_imul 17 rfl rfl ?_
  refine lf_bipush 19 97 rfl rfl (by decide) (by decide) ?_
  refine lf_iadd 20 rfl rfl ?_
  refine lf_seg 6 (pc' := 29) (lv' := [(6, .int (Int32.ofInt 0)), (5, .int (Int32.ofInt 0)), (4, .int (Int32.ofInt ((705 * a1) + 97))), (3, .int (Int32.ofInt (((705 * a1) + 1) + (4 * a2)))), (0, .ref 95), (1, .int (Int32.ofInt a1)), (2, .int (Int32.ofInt a2))]) (st' := [.ref 95]) rfl ?_
  refine lf_seg 3 (pc' := 34) (lv' := [(6, .int (Int32.ofInt 0)), (5, .int (Int32.ofInt 0)), (4, .int (Int32.ofInt ((705 * a1) + 97))), (3, .int (Int32.ofInt (((705 * a1) + 1) + (4 * a2)))), (0, .ref 95), (1, .int (Int32.ofInt a1)), (2, .int (Int32.ofInt a2))]) (st' := [.int (Int32.ofInt 1), .int (Int32.ofInt (((705 * a1) + 1) + (4 * a2))), .ref 98]) rfl ?_
  refine lf_iadd 35 rfl rfl ?_
  obtain ⟨o21, h⟩ := h
  refine lf_iald 36 2820 rfl rfl rfl rfl rfl rfl o21 ?_
  refine lf_seg 1 (pc' := 38) (lv' := [(7, .int (Int32.ofInt (s.1 98 ((((705 * a1) + 1) + (4 * a2)) + 1)))), (6, .int (Int32.ofInt 0)), (5, .int (Int32.ofInt 0)), (4, .int (Int32.ofInt ((705 * a1) + 97))), (3, .int (Int32.ofInt (((705 * a1) + 1) + (4 * a2)))), (0, .ref 95), (1, .int (Int32.ofInt a1)), (2, .int (Int32.ofInt a2))]) (st' := []) rfl ?_
  refine lf_sub (l := [(0, .ref 95), (3, .int (Int32.ofInt (((705 * a1) + 1) + (4 * a2)))), (4, .int (Int32.ofInt ((705 * a1) + 97))), (5, .int (Int32.ofInt 0)), (6, .int (Int32.ofInt 0)), (7, .int (Int32.ofInt (s.1 98 ((((705 * a1) + 1) + (4 * a2)) + 1))))]) (lf_sb1 rfl (lf_sb1 rfl (lf_sb1 rfl (lf_sb1 rfl (lf_sb1 rfl (lf_sb1 rfl lf_sb0)))))) ?_
  exact gm_268_p38L h
