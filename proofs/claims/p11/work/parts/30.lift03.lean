-- fm_50 Reader.readEither 31 i
def fm_50_p7 (R51 : Int → (lf_Z → Prop) → lf_Z → Prop) (Q : lf_Z → Prop) (x1 : Int) (X7 : Int → lf_Z → Prop) (x2 : Int) (s : lf_Z) : Prop := lf_R x2 ∧ ((300 ≤ x2 → (Q s)) ∧ (¬ (300 ≤ x2) → (lf_R (s.1 31 8) ∧ ((s.1 31 8 ≠ 46 → (Q s)) ∧ (¬ (s.1 31 8 ≠ 46) → (fm_31 (fun s24 => (R51 x1 (fun s25 => ((s25.2.2 2 = none → (False)) ∧ (∀ t26 : Nat, s25.2.2 2 = some t26 → t26 < 4 ∧ (fm_45 t26 46 0 (fun r28 s27 => (X7 (x2 + 1) s27)) s25)))) s24)) s))))))
def fm_50_p7L (R51 : Int → (lf_Z → Prop) → lf_Z → Prop) (Q : lf_Z → Prop) (x1 : Int) (x2 : Int) (s : lf_Z) : Prop := ∀ X7 : Int → lf_Z → Prop, (∀ (x2 : Int) (s : lf_Z), fm_50_p7 R51 Q x1 X7 x2 s → X7 x2 s) → X7 x2 s
set_option maxRecDepth 100000 in
theorem gm_50_p7 {L : Nat} {xs : Nat → Int32} {d : Nat} {R51 : Int → (lf_Z → Prop) → lf_Z → Prop} {Q : lf_Z → Prop} {x1 : Int} {x2 : Int} {s : lf_Z} {X7 : Int → lf_Z → Prop} (hR51 : ∀ b1 Q s, R51 b1 Q s → lf_M (px_ro L xs) (d + 4) 51 [.ref 31, .int (Int32.ofInt b1)] s (lf_qv Q)) (hX7 : ∀ x2 s, X7 x2 s → lf_E (px_ro L xs) (d + 5) 50 7 [(0, .ref 31), (1, .int (Int32.ofInt x1)), (2, .int (Int32.ofInt x2))] [] s (lf_qv Q)) (h : fm_50_p7 R51 Q x1 X7 x2 s) : lf_E (px_ro L xs) (d + 5) 50 7 [(0, .ref 31), (1, .int (Int32.ofInt x1)), (2, .int (Int32.ofInt x2))] [] s (lf_qv Q) := by
  unfold fm_50_p7 at h
  refine lf_seg 1 (pc' := 8) (lv' := [(0, .ref 31), (1, .int (Int32.ofInt x1)), (2, .int (Int32.ofInt x2))]) (st' := [.int (Int32.ofInt x2)]) rfl ?_
  refine lf_sipush 11 300 rfl rfl (by decide) (by decide) ?_
  obtain ⟨o22, h⟩ := h
  refine lf_icmp_ge 49 14 rfl rfl rfl o22 ⟨by decide, by decide⟩ (fun c => ?_) (fun c => ?_)
  · have h := h.1 c
    exact lf_retV rfl rfl h
  · have h := h.2 c
    refine lf_seg 1 (pc' := 15) (lv' := [(0, .ref 31), (1, .int (Int32.ofInt x1)), (2, .int (Int32.ofInt x2))]) (st' := [.ref 31]) rfl ?_
    refine lf_getI 18 8 rfl rfl rfl rfl rfl rfl rfl ?_
    refine lf_bipush 20 46 rfl rfl (by decide) (by decide) ?_
    obtain ⟨o23, h⟩ := h
    refine lf_icmp_ne 49 23 rfl rfl rfl o23 ⟨by decide, by decide⟩ (fun c => ?_) (fun c => ?_)
    · have h := h.1 c
      exact lf_retV rfl rfl h
    · have h := h.2 c
      refine lf_seg 1 (pc' := 24) (lv' := [(0, .ref 31), (1, .int (Int32.ofInt x1)), (2, .int (Int32.ofInt x2))]) (st' := [.ref 31]) rfl ?_
      refine lf_callV 27 rfl rfl rfl rfl (gm_31 h) (fun s24 h => ?_)
      refine lf_seg 2 (pc' := 29) (lv' := [(0, .ref 31), (1, .int (Int32.ofInt x1)), (2, .int (Int32.ofInt x2))]) (st' := [.int (Int32.ofInt x1), .ref 31]) rfl ?_
      refine lf_callV 32 rfl rfl rfl rfl (hR51 _ _ _ h) (fun s25 h => ?_)
      refine lf_seg 1 (pc' := 33) (lv' := [(0, .ref 31), (1, .int (Int32.ofInt x1)), (2, .int (Int32.ofInt x2))]) (st' := [.ref 31]) rfl ?_
      cases et26 : s25.2.2 2 with
      | none =>
        have h := h.1 et26
        refine lf_getR 36 (w := none) rfl rfl rfl rfl rfl rfl (congrArg (Option.map (fun t => 35 + 7 * t)) et26) ?_
        refine lf_bipush 38 46 rfl rfl (by decide) (by decide) ?_
        refine lf_seg 1 (pc' := 39) (lv' := [(0, .ref 31), (1, .int (Int32.ofInt x1)), (2, .int (Int32.ofInt x2))]) (st' := [.int (Int32.ofInt 0), .int (Int32.ofInt 46), .null]) rfl ?_
        exact h.elim
      | some t26 =>
        obtain ⟨htt26, h⟩ := h.2 t26 et26
        refine lf_getR 36 (w := some (35 + 7 * t26)) rfl rfl rfl rfl rfl rfl (congrArg (Option.map (fun t => 35 + 7 * t)) et26) ?_
        refine lf_bipush 38 46 rfl rfl (by decide) (by decide) ?_
        refine lf_seg 1 (pc' := 39) (lv' := [(0, .ref 31), (1, .int (Int32.ofInt x1)), (2, .int (Int32.ofInt x2))]) (st' := [.int (Int32.ofInt 0), .int (Int32.ofInt 46), .ref (35 + 7 * t26)]) rfl ?_
        refine lf_callI 42 rfl rfl (lf_invT htt26 rfl rfl rfl rfl) rfl (gm_45 htt26 h) (fun r28 s27 h => ?_)
        refine lf_seg 1 (pc' := 43) (lv' := [(0, .ref 31), (1, .int (Int32.ofInt x1)), (2, .int (Int32.ofInt x2))]) (st' := []) rfl ?_
        refine lf_iinc 46 rfl rfl rfl rfl ?_
        refine lf_seg 1 (pc' := 7) (lv' := [(2, .int (Int32.ofInt (x2 + 1))), (0, .ref 31), (1, .int (Int32.ofInt x1))]) (st' := []) rfl ?_
        refine lf_sub (l := [(0, .ref 31), (1, .int (Int32.ofInt x1)), (2, .int (Int32.ofInt (x2 + 1)))]) (lf_sb1 rfl (lf_sb1 rfl (lf_sb1 rfl lf_sb0))) ?_
        exact hX7 _ _ h
theorem gm_50_p7L {L : Nat} {xs : Nat → Int32} {d : Nat} {R51 : Int → (lf_Z → Prop) → lf_Z → Prop} {Q : lf_Z → Prop} {x1 : Int} {x2 : Int} {s : lf_Z} (hR51 : ∀ b1 Q s, R51 b1 Q s → lf_M (px_ro L xs) (d + 4) 51 [.ref 31, .int (Int32.ofInt b1)] s (lf_qv Q)) (h : fm_50_p7L R51 Q x1 x2 s) : lf_E (px_ro L xs) (d + 5) 50 7 [(0, .ref 31), (1, .int (Int32.ofInt x1)), (2, .int (Int32.ofInt x2))] [] s (lf_qv Q) :=
  h (fun x2 s => lf_E (px_ro L xs) (d + 5) 50 7 [(0, .ref 31), (1, .int (Int32.ofInt x1)), (2, .int (Int32.ofInt x2))] [] s (lf_qv Q)) (fun x2 s hb => gm_50_p7 hR51 (fun _ _ h => h) hb)
def fm_50 (R51 : Int → (lf_Z → Prop) → lf_Z → Prop) (a1 : Int) (Q : lf_Z → Prop) (s : lf_Z) : Prop := R51 a1 (fun s21 => (fm_50_p7L R51 Q a1 0 s21)) s
set_option maxRecDepth 100000 in
theorem gm_50 {L : Nat} {xs : Nat → Int32} {d : Nat} {R51 : Int → (lf_Z → Prop) → lf_Z → Prop} {a1 : Int} {Q : lf_Z → Prop} {s : lf_Z} (hR51 : ∀ b1 Q s, R51 b1 Q s → lf_M (px_ro L xs) (d + 4) 51 [.ref 31, .int (Int32.ofInt b1)] s (lf_qv Q)) (h : fm_50 R51 a1 Q s) : lf_M (px_ro L xs) (d + 5) 50 [.ref 31, .int (Int32.ofInt a1)] s (lf_qv Q) := by
  unfold fm_50 at h
  show lf_E (px_ro L xs) (d + 5) 50 0 [(0, .ref 31), (1, .int (Int32.ofInt a1))] [] s _
  refine lf_seg 2 (pc' := 2) (lv' := [(0, .ref 31), (1, .int (Int32.ofInt a1))]) (st' := [.int (Int32.ofInt a1), .ref 31]) rfl ?_
  refine lf_callV 5 rfl rfl rfl rfl (hR51 _ _ _ h) (fun s21 h => ?_)
  refine lf_seg 2 (pc' := 7) (lv' := [(2, .int (Int32.ofInt 0)), (0, .ref 31), (1, .int (Int32.ofInt a1))]) (st' := []) rfl ?_
  refine lf_sub (l := [(0, .ref 31), (1, .int (Int32.ofInt a1)), (2, .int (Int32.ofInt 0))]) (lf_sb1 rfl (lf_sb1 rfl (lf_sb1 rfl lf_sb0))) ?_
  exact gm_50_p7L hR51 h
-- fm_51 Reader.readBoth 31 i
def fm_51_p7 (R52 : Int → (lf_Z → Prop) → lf_Z → Prop) (Q : lf_Z → Prop) (x1 : Int) (X7 : Int → lf_Z → Prop) (x2 : Int) (s : lf_Z) : Prop := lf_R x2 ∧ ((300 ≤ x2 → (Q s)) ∧ (¬ (300 ≤ x2) → (lf_R (s.1 31 8) ∧ ((s.1 31 8 ≠ 45 → (Q s)) ∧ (¬ (s.1 31 8 ≠ 45) → (fm_31 (fun s24 => (R52 x1 (fun s25 => ((s25.2.2 2 = none → (False)) ∧ (∀ t26 : Nat, s25.2.2 2 = some t26 → t26 < 4 ∧ (fm_45 t26 45 0 (fun r28 s27 => (X7 (x2 + 1) s27)) s25)))) s24)) s))))))
def fm_51_p7L (R52 : Int → (lf_Z → Prop) → lf_Z → Prop) (Q : lf_Z → Prop) (x1 : Int) (x2 : Int) (s : lf_Z) : Prop := ∀ X7 : Int → lf_Z → Prop, (∀ (x2 : Int) (s : lf_Z), fm_51_p7 R52 Q x1 X7 x2 s → X7 x2 s) → X7 x2 s
set_option maxRecDepth 100000 in
theorem gm_51_p7 {L : Nat} {xs : Nat → Int32} {d : Nat} {R52 : Int → (lf_Z → Prop) → lf_Z → Prop} {Q : lf_Z → Prop} {x1 : Int} {x2 : Int} {s : lf_Z} {X7 : Int → lf_Z → Prop} (hR52 : ∀ b1 Q s, R52 b1 Q s → lf_M (px_ro L xs) (d + 4) 52 [.ref 31, .int (Int32.ofInt b1)] s (lf_qv Q)) (hX7 : ∀ x2 s, X7 x2 s → lf_E (px_ro L xs) (d + 5) 51 7 [(0, .ref 31), (1, .int (Int32.ofInt x1)), (2, .int (Int32.ofInt x2))] [] s (lf_qv Q)) (h : fm_51_p7 R52 Q x1 X7 x2 s) : lf_E (px_ro L xs) (d + 5) 51 7 [(0, .ref 31), (1, .int (Int32.ofInt x1)), (2, .int (Int32.ofInt x2))] [] s (lf_qv Q) := by
  unfold fm_51_p7 at h
  refine lf_seg 1 (pc' := 8) (lv' := [(0, .ref 31), (1, .int (Int32.ofInt x1)), (2, .int (Int32.ofInt x2))]) (st' := [.int (Int32.ofInt x2)]) rfl ?_
  refine lf_sipush 11 300 rfl rfl (by decide) (by decide) ?_
  obtain ⟨o22, h⟩ := h
  refine lf_icmp_ge 49 14 rfl rfl rfl o22 ⟨by decide, by decide⟩ (fun c => ?_) (fun c => ?_)
  · have h := h.1 c
    exact lf_retV rfl rfl h
  · have h := h.2 c
    refine lf_seg 1 (pc' := 15) (lv' := [(0, .ref 31), (1, .int (Int32.ofInt x1)), (2, .int (Int32.ofInt x2))]) (st' := [.ref 31]) rfl ?_
    refine lf_getI 18 8 rfl rfl rfl rfl rfl rfl rfl ?_
    refine lf_bipush 20 45 rfl rfl (by decide) (by decide) ?_
    obtain ⟨o23, h⟩ := h
    refine lf_icmp_ne 49 23 rfl rfl rfl o23 ⟨by decide, by decide⟩ (fun c => ?_) (fun c => ?_)
    · have h := h.1 c
      exact lf_retV rfl rfl h
    · have h := h.2 c
      refine lf_seg 1 (pc' := 24) (lv' := [(0, .ref 31), (1, .int (Int32.ofInt x1)), (2, .int (Int32.ofInt x2))]) (st' := [.ref 31]) rfl ?_
      refine lf_callV 27 rfl rfl rfl rfl (gm_31 h) (fun s24 h => ?_)
      refine lf_seg 2 (pc' := 29) (lv' := [(0, .ref 31), (1, .int (Int32.ofInt x1)), (2, .int (Int32.ofInt x2))]) (st' := [.int (Int32.ofInt x1), .ref 31]) rfl ?_
      refine lf_callV 32 rfl rfl rfl rfl (hR52 _ _ _ h) (fun s25 h => ?_)
      refine lf_seg 1 (pc' := 33) (lv' := [(0, .ref 31), (1, .int (Int32.ofInt x1)), (2, .int (Int32.ofInt x2))]) (st' := [.ref 31]) rfl ?_
      cases et26 : s25.2.2 2 with
      | none =>
        have h := h.1 et26
        refine lf_getR 36 (w := none) rfl rfl rfl rfl rfl rfl (congrArg (Option.map (fun t => 35 + 7 * t)) et26) ?_
        refine lf_bipush 38 45 rfl rfl (by decide) (by decide) ?_
        refine lf_seg 1 (pc' := 39) (lv' := [(0, .ref 31), (1, .int (Int32.ofInt x1)), (2, .int (Int32.ofInt x2))]) (st' := [.int (Int32.ofInt 0), .int (Int32.ofInt 45), .null]) rfl ?_
        exact h.elim
      | some t26 =>
        obtain ⟨htt26, h⟩ := h.2 t26 et26
        refine lf_getR 36 (w := some (35 + 7 * t26)) rfl rfl rfl rfl rfl rfl (congrArg (Option.map (fun t => 35 + 7 * t)) et26) ?_
        refine lf_bipush 38 45 rfl rfl (by decide) (by decide) ?_
        refine lf_seg 1 (pc' := 39) (lv' := [(0, .ref 31), (1, .int (Int32.ofInt x1)), (2, .int (Int32.ofInt x2))]) (st' := [.int (Int32.ofInt 0), .int (Int32.ofInt 45), .ref (35 + 7 * t26)]) rfl ?_
        refine lf_callI 42 rfl rfl (lf_invT htt26 rfl rfl rfl rfl) rfl (gm_45 htt26 h) (fun r28 s27 h => ?_)
        refine lf_seg 1 (pc' := 43) (lv' := [(0, .ref 31), (1, .int (Int32.ofInt x1)), (2, .int (Int32.ofInt x2))]) (st' := []) rfl ?_
        refine lf_iinc 46 rfl rfl rfl rfl ?_
        refine lf_seg 1 (pc' := 7) (lv' := [(2, .int (Int32.ofInt (x2 + 1))), (0, .ref 31), (1, .int (Int32.ofInt x1))]) (st' := []) rfl ?_
        refine lf_sub (l := [(0, .ref 31), (1, .int (Int32.ofInt x1)), (2, .int (Int32.ofInt (x2 + 1)))]) (lf_sb1 rfl (lf_sb1 rfl (lf_sb1 rfl lf_sb0))) ?_
        exact hX7 _ _ h
theorem gm_51_p7L {L : Nat} {xs : Nat → Int32} {d : Nat} {R52 : Int → (lf_Z → Prop) → lf_Z → Prop} {Q : lf_Z → Prop} {x1 : Int} {x2 : Int} {s : lf_Z} (hR52 : ∀ b1 Q s, R52 b1 Q s → lf_M (px_ro L xs) (d + 4) 52 [.ref 31, .int (Int32.ofInt b1)] s (lf_qv Q)) (h : fm_51_p7L R52 Q x1 x2 s) : lf_E (px_ro L xs) (d + 5) 51 7 [(0, .ref 31), (1, .int (Int32.ofInt x1)), (2, .int (Int32.ofInt x2))] [] s (lf_qv Q) :=
  h (fun x2 s => lf_E (px_ro L xs) (d + 5) 51 7 [(0, .ref 31), (1, .int (Int32.ofInt x1)), (2, .int (Int32.ofInt x2))] [] s (lf_qv Q)) (fun x2 s hb => gm_51_p7 hR52 (fun _ _ h => h) hb)
def fm_51 (R52 : Int → (lf_Z → Prop) → lf_Z → Prop) (a1 : Int) (Q : lf_Z → Prop) (s : lf_Z) : Prop := R52 a1 (fun s21 => (fm_51_p7L R52 Q a1 0 s21)) s
set_option maxRecDepth 100000 in
theorem gm_51 {L : Nat} {xs : Nat → Int32} {d : Nat} {R52 : Int → (lf_Z → Prop) → lf_Z → Prop} {a1 : Int} {Q : lf_Z → Prop} {s : lf_Z} (hR52 : ∀ b1 Q s, R52 b1 Q s → lf_M (px_ro L xs) (d + 4) 52 [.ref 31, .int (Int32.ofInt b1)] s (lf_qv Q)) (h : fm_51 R52 a1 Q s) : lf_M (px_ro L xs) (d + 5) 51 [.ref 31, .int (Int32.ofInt a1)] s (lf_qv Q) := by
  unfold fm_51 at h
  show lf_E (px_ro L xs) (d + 5) 51 0 [(0, .ref 31), (1, .int (Int32.ofInt a1))] [] s _
  refine lf_seg 2 (pc' := 2) (lv' := [(0, .ref 31), (1, .int (Int32.ofInt a1))]) (st' := [.int (Int32.ofInt a1), .ref 31]) rfl ?_
  refine lf_callV 5 rfl rfl rfl rfl (hR52 _ _ _ h) (fun s21 h => ?_)
  refine lf_seg 2 (pc' := 7) (lv' := [(2, .int (Int32.ofInt 0)), (0, .ref 31), (1, .int (Int32.ofInt a1))]) (st' := []) rfl ?_
  refine lf_sub (l := [(0, .ref 31), (1, .int (Int32.ofInt a1)), (2, .int (Int32.ofInt 0))]) (lf_sb1 rfl (lf_sb1 rfl (lf_sb1 rfl lf_sb0))) ?_
  exact gm_51_p7L hR52 h
-- fm_52 Reader.readAsk 31 i
def fm_52 (R41 : Int → (lf_Z → Prop) → lf_Z → Prop) (R52 : Int → (lf_Z → Prop) → lf_Z → Prop) (a1 : Int) (Q : lf_Z → Prop) (s : lf_Z) : Prop := lf_R (s.1 31 8) ∧ ((s.1 31 8 ≠ 44 → (R41 a1 (fun s22 => (fm_15 (s22.1 31 8) 4 9 (fun z24 s23 => ((z24 = true → (fm_31 (fun s25 => (R41 a1 (fun s26 => ((s26.2.2 2 = none → (False)) ∧ (∀ t27 : Nat, s26.2.2 2 = some t27 → t27 < 4 ∧ (fm_45 t27 (s22.1 31 8) 0 (fun r29 s28 => (Q s28)) s26)))) s25)) s23)) ∧ (z24 = false → (fm_39 1 (fun s30 => (Q s30)) s23)))) s22)) s)) ∧ (¬ (s.1 31 8 ≠ 44) → (fm_47 a1 (fun z32 s31 => ((z32 = false → (Q s31)) ∧ (z32 = true → (R52 (a1 + 1) (fun s33 => ((s33.2.2 2 = none → (False)) ∧ (∀ t34 : Nat, s33.2.2 2 = some t34 → t34 < 4 ∧ (fm_45 t34 44 0 (fun r36 s35 => (Q s35)) s33)))) s31)))) s)))
set_option maxRecDepth 100000 in
theorem gm_52 {L : Nat} {xs : Nat → Int32} {d : Nat} {R41 : Int → (lf_Z → Prop) → lf_Z → Prop} {R52 : Int → (lf_Z → Prop) → lf_Z → Prop} {a1 : Int} {Q : lf_Z → Prop} {s : lf_Z} (hR41 : ∀ b1 Q s, R41 b1 Q s → lf_M (px_ro L xs) (d + 4) 41 [.ref 31, .int (Int32.ofInt b1)] s (lf_qv Q)) (hR52 : ∀ b1 Q s, R52 b1 Q s → lf_M (px_ro L xs) (d + 4) 52 [.ref 31, .int (Int32.ofInt b1)] s (lf_qv Q)) (h : fm_52 R41 R52 a1 Q s) : lf_M (px_ro L xs) (d + 5) 52 [.ref 31, .int (Int32.ofInt a1)] s (lf_qv Q) := by
  unfold fm_52 at h
  show lf_E (px_ro L xs) (d + 5) 52 0 [(0, .ref 31), (1, .int (Int32.ofInt a1))] [] s _
  refine lf_seg 1 (pc' := 1) (lv' := [(0, .ref 31), (1, .int (Int32.ofInt a1))]) (st' := [.ref 31]) rfl ?_
  refine lf_getI 4 8 rfl rfl rfl rfl rfl rfl rfl ?_
  refine lf_bipush 6 44 rfl rfl (by decide) (by decide) ?_
  obtain ⟨o21, h⟩ := h
  refine lf_icmp_ne 36 9 rfl rfl rfl o21 ⟨by decide, by decide⟩ (fun c => ?_) (fun c => ?_)
  · have h := h.1 c
    refine lf_seg 2 (pc' := 38) (lv' := [(0, .ref 31), (1, .int (Int32.ofInt a1))]) (st' := [.int (Int32.ofInt a1), .ref 31]) rfl ?_
    refine lf_callV 41 rfl rfl rfl rfl (hR41 _ _ _ h) (fun s22 h => ?_)
    refine lf_seg 1 (pc' := 42) (lv' := [(0, .ref 31), (1, .int (Int32.ofInt a1))]) (st' := [.ref 31]) rfl ?_
    refine lf_getI 45 8 rfl rfl rfl rfl rfl rfl rfl ?_
    refine lf_seg 3 (pc' := 48) (lv' := [(2, .int (Int32.ofInt (s22.1 31 8))), (0, .ref 31), (1, .int (Int32.ofInt a1))]) (st' := [.int (Int32.ofInt 4), .int (Int32.ofInt (s22.1 31 8))]) rfl ?_
    refine lf_bipush 50 9 rfl rfl (by decide) (by decide) ?_
    refine lf_callZ 53 rfl rfl rfl rfl (gm_15 h) (fun z24 s23 h => ?_)
    refine lf_ifz_ne 62 56 rfl rfl rfl (fun c => ?_) (fun c => ?_)
    · have h := h.1 c
      refine lf_seg 1 (pc' := 63) (lv' := [(2, .int (Int32.ofInt (s22.1 31 8))), (0, .ref 31), (1, .int (Int32.ofInt a1))]) (st' := [.ref 31]) rfl ?_
      refine lf_callV 66 rfl rfl rfl rfl (gm_31 h) (fun s25 h => ?_)
      refine lf_seg 2 (pc' := 68) (lv' := [(2, .int (Int32.ofInt (s22.1 31 8))), (0, .ref 31), (1, .int (Int32.ofInt a1))]) (st' := [.int (Int32.ofInt a1), .ref 31]) rfl ?_
      refine lf_callV 71 rfl rfl rfl rfl (hR41 _ _ _ h) (fun s26 h => ?_)
      refine lf_seg 1 (pc' := 72) (lv' := [(2, .int (Int32.ofInt (s22.1 31 8))), (0, .ref 31), (1, .int (Int32.ofInt a1))]) (st' := [.ref 31]) rfl ?_
      cases et27 : s26.2.2 2 with
      | none =>
        have h := h.1 et27
        refine lf_getR 75 (w := none) rfl rfl rfl rfl rfl rfl (congrArg (Option.map (fun t => 35 + 7 * t)) et27) ?_
        refine lf_seg 2 (pc' := 77) (lv' := [(2, .int (Int32.ofInt (s22.1 31 8))), (0, .ref 31), (1, .int (Int32.ofInt a1))]) (st' := [.int (Int32.ofInt 0), .int (Int32.ofInt (s22.1 31 8)), .null]) rfl ?_
        exact h.elim
      | some t27 =>
        obtain ⟨htt27, h⟩ := h.2 t27 et27
        refine lf_getR 75 (w := some (35 + 7 * t27)) rfl rfl rfl rfl rfl rfl (congrArg (Option.map (fun t => 35 + 7 * t)) et27) ?_
        refine lf_seg 2 (pc' := 77) (lv' := [(2, .int (Int32.ofInt (s22.1 31 8))), (0, .ref 31), (1, .int (Int32.ofInt a1))]) (st' := [.int (Int32.ofInt 0), .int (Int32.ofInt (s22.1 31 8)), .ref (35 + 7 * t27)]) rfl ?_
        refine lf_callI 80 rfl rfl (lf_invT htt27 rfl rfl rfl rfl) rfl (gm_45 htt27 h) (fun r29 s28 h => ?_)
        refine lf_seg 1 (pc' := 81) (lv' := [(2, .int (Int32.ofInt (s22.1 31 8))), (0, .ref 31), (1, .int (Int32.ofInt a1))]) (st' := []) rfl ?_
        exact lf_retV rfl rfl h
    · have h := h.2 c
      refine lf_seg 2 (pc' := 58) (lv' := [(2, .int (Int32.ofInt (s22.1 31 8))), (0, .ref 31), (1, .int (Int32.ofInt a1))]) (st' := [.int (Int32.ofInt 1), .ref 31]) rfl ?_
      refine lf_callV 61 rfl rfl rfl rfl (gm_39 h) (fun s30 h => ?_)
      exact lf_retV rfl rfl h
  · have h := h.2 c
    refine lf_seg 2 (pc' := 11) (lv' := [(0, .ref 31), (1, .int (Int32.ofInt a1))]) (st' := [.int (Int32.ofInt a1), .ref 31]) rfl ?_
    refine lf_callZ 14 rfl rfl rfl rfl (gm_47 h) (fun z32 s31 h => ?_)
    refine lf_ifz_eq 35 17 rfl rfl rfl (fun c => ?_) (fun c => ?_)
    · have h := h.1 c
      exact lf_retV rfl rfl h
    · have h := h.2 c
      refine lf_seg 3 (pc' := 20) (lv' := [(0, .ref 31), (1, .int (Int32.ofInt a1))]) (st' := [.int (Int32.ofInt 1), .int (Int32.ofInt a1), .ref 31]) rfl ?_
      refine lf_iadd 21 rfl rfl ?_
      refine lf_callV 24 rfl rfl rfl rfl (hR52 _ _ _ h) (fun s33 h => ?_)
      refine lf_seg 1 (pc' := 25) (lv' := [(0, .ref 31), (1, .int (Int32.ofInt a1))]) (st' := [.ref 31]) rfl ?_
      cases et34 : s33.2.2 2 with
      | none =>
        have h := h.1 et34
        refine lf_getR 28 (w := none) rfl rfl rfl rfl rfl rfl (congrArg (Option.map (fun t => 35 + 7 * t)) et34) ?_
        refine lf_bipush 30 44 rfl rfl (by decide) (by decide) ?_
        refine lf_seg 1 (pc' := 31) (lv' := [(0, .ref 31), (1, .int (Int32.ofInt a1))]) (st' := [.int (Int32.ofInt 0), .int (Int32.ofInt 44), .null]) rfl ?_
        exact h.elim
      | some t34 =>
        obtain ⟨htt34, h⟩ := h.2 t34 et34
        refine lf_getR 28 (w := some (35 + 7 * t34)) rfl rfl rfl rfl rfl rfl (congrArg (Option.map (fun t => 35 + 7 * t)) et34) ?_
        refine lf_bipush 30 44 rfl rfl (by decide) (by decide) ?_
        refine lf_seg 1 (pc' := 31) (lv' := [(0, .ref 31), (1, .int (Int32.ofInt a1))]) (st' := [.int (Int32.ofInt 0), .int (Int32.ofInt 44), .ref (35 + 7 * t34)]) rfl ?_
        refine lf_callI 34 rfl rfl (lf_invT htt34 rfl rfl rfl rfl) rfl (gm_45 htt34 h) (fun r36 s35 h => ?_)
        refine lf_seg 1 (pc' := 35) (lv' := [(0, .ref 31), (1, .int (Int32.ofInt a1))]) (st' := []) rfl ?_
        exact lf_retV rfl rfl h
-- cl_41 cluster
def fc_41T : Nat → (Int → (lf_Z → Prop) → lf_Z → Prop) × (Int → (lf_Z → Prop) → lf_Z → Prop) × (Int → (lf_Z → Prop) → lf_Z → Prop) × (Int → (lf_Z → Prop) → lf_Z → Prop) × (Int → (lf_Z → Prop) → lf_Z → Prop) × (Int → (lf_Z → Prop) → lf_Z → Prop) × (Int → (lf_Z → Prop) → lf_Z → Prop) × (Int → (lf_Z → Prop) → lf_Z → Prop)
  | 0 => (fun _ _ _ => False, fun _ _ _ => False, fun _ _ _ => False, fun _ _ _ => False, fun _ _ _ => False, fun _ _ _ => False, fun _ _ _ => False, fun _ _ _ => False)
  | n + 1 => (fm_41 ((fc_41T n).2.1), fm_42 ((fc_41T n).2.2.1), fm_43 ((fc_41T n).1) ((fc_41T n).2.2.1) ((fc_41T n).2.2.2.1) ((fc_41T n).2.2.2.2.1), fm_49 ((fc_41T n).1) ((fc_41T n).2.2.2.2.2.1), fm_54 ((fc_41T n).1), fm_50 ((fc_41T n).2.2.2.2.2.2.1), fm_51 ((fc_41T n).2.2.2.2.2.2.2), fm_52 ((fc_41T n).1) ((fc_41T n).2.2.2.2.2.2.2))
theorem gc_41T {L : Nat} {xs : Nat → Int32} {d : Nat} : ∀ n : Nat, (∀ b1 Q s, (fc_41T n).1 b1 Q s → lf_M (px_ro L xs) (d + n + 4) 41 [.ref 31, .int (Int32.ofInt b1)] s (lf_qv Q)) ∧ (∀ b1 Q s, (fc_41T n).2.1 b1 Q s → lf_M (px_ro L xs) (d + n + 4) 42 [.ref 31, .int (Int32.ofInt b1)] s (lf_qv Q)) ∧ (∀ b1 Q s, (fc_41T n).2.2.1 b1 Q s → lf_M (px_ro L xs) (d + n + 4) 43 [.ref 31, .int (Int32.ofInt b1)] s (lf_qv Q)) ∧ (∀ b1 Q s, (fc_41T n).2.2.2.1 b1 Q s → lf_M (px_ro L xs) (d + n + 4) 49 [.ref 31, .int (Int32.ofInt b1)] s (lf_qv Q)) ∧ (∀ b1 Q s, (fc_41T n).2.2.2.2.1 b1 Q s → lf_M (px_ro L xs) (d + n + 4) 54 [.ref 31, .int (Int32.ofInt b1)] s (lf_qv Q)) ∧ (∀ b1 Q s, (fc_41T n).2.2.2.2.2.1 b1 Q s → lf_M (px_ro L xs) (d + n + 4) 50 [.ref 31, .int (Int32.ofInt b1)] s (lf_qv Q)) ∧ (∀ b1 Q s, (fc_41T n).2.2.2.2.2.2.1 b1 Q s → lf_M (px_ro L xs) (d + n + 4) 51 [.ref 31, .int (Int32.ofInt b1)] s (lf_qv Q)) ∧ (∀ b1 Q s, (fc_41T n).2.2.2.2.2.2.2 b1 Q s → lf_M (px_ro L xs) (d + n + 4) 52 [.ref 31, .int (Int32.ofInt b1)] s (lf_qv Q))
  | 0 => ⟨fun _ _ _ h => h.elim, fun _ _ _ h => h.elim, fun _ _ _ h => h.elim, fun _ _ _ h => h.elim, fun _ _ _ h => h.elim, fun _ _ _ h => h.elim, fun _ _ _ h => h.elim, fun _ _ _ h => h.elim⟩
  | n + 1 => ⟨fun a1 Q s h => lf_E.deep (gm_41 (d := d + n) (fun _ _ _ h => lf_E.deep ((gc_41T (L := L) (xs := xs) (d := d) n).2.1 _ _ _ h) (by omega)) h) (by omega), fun a1 Q s h => lf_E.deep (gm_42 (d := d + n) (fun _ _ _ h => lf_E.deep ((gc_41T (L := L) (xs := xs) (d := d) n).2.2.1 _ _ _ h) (by omega)) h) (by omega), fun a1 Q s h => lf_E.deep (gm_43 (d := d + n) (fun _ _ _ h => lf_E.deep ((gc_41T (L := L) (xs := xs) (d := d) n).1 _ _ _ h) (by omega)) (fun _ _ _ h => lf_E.deep ((gc_41T (L := L) (xs := xs) (d := d) n).2.2.1 _ _ _ h) (by omega)) (fun _ _ _ h => lf_E.deep ((gc_41T (L := L) (xs := xs) (d := d) n).2.2.2.1 _ _ _ h) (by omega)) (fun _ _ _ h => lf_E.deep ((gc_41T (L := L) (xs := xs) (d := d) n).2.2.2.2.1 _ _ _ h) (by omega)) h) (by omega), fun a1 Q s h => lf_E.deep (gm_49 (d := d + n) (fun _ _ _ h => lf_E.deep ((gc_41T (L := L) (xs := xs) (d := d) n).1 _ _ _ h) (by omega)) (fun _ _ _ h => lf_E.deep ((gc_41T (L := L) (xs := xs) (d := d) n).2.2.2.2.2.1 _ _ _ h) (by omega)) h) (by omega), fun a1 Q s h => lf_E.deep (gm_54 (d := d + n) (fun _ _ _ h => lf_E.deep ((gc_41T (L := L) (xs := xs) (d := d) n).1 _ _ _ h) (by omega)) h) (by omega), fun a1 Q s h => lf_E.deep (gm_50 (d := d + n) (fun _ _ _ h => lf_E.deep ((gc_41T (L := L) (xs := xs) (d := d) n).2.2.2.2.2.2.1 _ _ _ h) (by omega)) h) (by omega), fun a1 Q s h => lf_E.deep (gm_51 (d := d + n) (fun _ _ _ h => lf_E.deep ((gc_41T (L := L) (xs := xs) (d := d) n).2.2.2.2.2.2.2 _ _ _ h) (by omega)) h) (by omega), fun a1 Q s h => lf_E.deep (gm_52 (d := d + n) (fun _ _ _ h => lf_E.deep ((gc_41T (L := L) (xs := xs) (d := d) n).1 _ _ _ h) (by omega)) (fun _ _ _ h => lf_E.deep ((gc_41T (L := L) (xs := xs) (d := d) n).2.2.2.2.2.2.2 _ _ _ h) (by omega)) h) (by omega)⟩
def fc_41 (a1 : Int) (Q : lf_Z → Prop) (s : lf_Z) : Prop := (fc_41T 200).1 a1 Q s
theorem gc_41 {L : Nat} {xs : Nat → Int32} {d : Nat} {a1 : Int} {Q : lf_Z → Prop} {s : lf_Z} (h : fc_41 a1 Q s) : lf_M (px_ro L xs) (d + 205) 41 [.ref 31, .int (Int32.ofInt a1)] s (lf_qv Q) := lf_E.deep ((gc_41T (L := L) (xs := xs) (d := d) 200).1 _ _ _ h) (by omega)
def fc_42 (a1 : Int) (Q : lf_Z → Prop) (s : lf_Z) : Prop := (fc_41T 200).2.1 a1 Q s
theorem gc_42 {L : Nat} {xs : Nat → Int32} {d : Nat} {a1 : Int} {Q : lf_Z → Prop} {s : lf_Z} (h : fc_42 a1 Q s) : lf_M (px_ro L xs) (d + 205) 42 [.ref 31, .int (Int32.ofInt a1)] s (lf_qv Q) := lf_E.deep ((gc_41T (L := L) (xs := xs) (d := d) 200).2.1 _ _ _ h) (by omega)
def fc_43 (a1 : Int) (Q : lf_Z → Prop) (s : lf_Z) : Prop := (fc_41T 200).2.2.1 a1 Q s
theorem gc_43 {L : Nat} {xs : Nat → Int32} {d : Nat} {a1 : Int} {Q : lf_Z → Prop} {s : lf_Z} (h : fc_43 a1 Q s) : lf_M (px_ro L xs) (d + 205) 43 [.ref 31, .int (Int32.ofInt a1)] s (lf_qv Q) := lf_E.deep ((gc_41T (L := L) (xs := xs) (d := d) 200).2.2.1 _ _ _ h) (by omega)
def fc_49 (a1 : Int) (Q : lf_Z → Prop) (s : lf_Z) : Prop := (fc_41T 200).2.2.2.1 a1 Q s
theorem gc_49 {L : Nat} {xs : Nat → Int32} {d : Nat} {a1 : Int} {Q : lf_Z → Prop} {s : lf_Z} (h : fc_49 a1 Q s) : lf_M (px_ro L xs) (d + 205) 49 [.ref 31, .int (Int32.ofInt a1)] s (lf_qv Q) := lf_E.deep ((gc_41T (L := L) (xs := xs) (d := d) 200).2.2.2.1 _ _ _ h) (by omega)
def fc_54 (a1 : Int) (Q : lf_Z → Prop) (s : lf_Z) : Prop := (fc_41T 200).2.2.2.2.1 a1 Q s
theorem gc_54 {L : Nat} {xs : Nat → Int32} {d : Nat} {a1 : Int} {Q : lf_Z → Prop} {s : lf_Z} (h : fc_54 a1 Q s) : lf_M (px_ro L xs) (d + 205) 54 [.ref 31, .int (Int32.ofInt a1)] s (lf_qv Q) := lf_E.deep ((gc_41T (L := L) (xs := xs) (d := d) 200).2.2.2.2.1 _ _ _ h) (by omega)
def fc_50 (a1 : Int) (Q : lf_Z → Prop) (s : lf_Z) : Prop := (fc_41T 200).2.2.2.2.2.1 a1 Q s
theorem gc_50 {L : Nat} {xs : Nat → Int32} {d : Nat} {a1 : Int} {Q : lf_Z → Prop} {s : lf_Z} (h : fc_50 a1 Q s) : lf_M (px_ro L xs) (d + 205) 50 [.ref 31, .int (Int32.ofInt a1)] s (lf_qv Q) := lf_E.deep ((gc_41T (L := L) (xs := xs) (d := d) 200).2.2.2.2.2.1 _ _ _ h) (by omega)
def fc_51 (a1 : Int) (Q : lf_Z → Prop) (s : lf_Z) : Prop := (fc_41T 200).2.2.2.2.2.2.1 a1 Q s
theorem gc_51 {L : Nat} {xs : Nat → Int32} {d : Nat} {a1 : Int} {Q : lf_Z → Prop} {s : lf_Z} (h : fc_51 a1 Q s) : lf_M (px_ro L xs) (d + 205) 51 [.ref 31, .int (Int32.ofInt a1)] s (lf_qv Q) := lf_E.deep ((gc_41T (L := L) (xs := xs) (d := d) 200).2.2.2.2.2.2.1 _ _ _ h) (by omega)
def fc_52 (a1 : Int) (Q : lf_Z → Prop) (s : lf_Z) : Prop := (fc_41T 200).2.2.2.2.2.2.2 a1 Q s
theorem gc_52 {L : Nat} {xs : Nat → Int32} {d : Nat} {a1 : Int} {Q : lf_Z → Prop} {s : lf_Z} (h : fc_52 a1 Q s) : lf_M (px_ro L xs) (d + 205) 52 [.ref 31, .int (Int32.ofInt a1)] s (lf_qv Q) := lf_E.deep ((gc_41T (L := L) (xs := xs) (d := d) 200).2.2.2.2.2.2.2 _ _ _ h) (by omega)
-- fm_38 Reader.readClause 31
def fm_38_p146 (Q : lf_Z → Prop) (s : lf_Z) : Prop := fm_48 16 (fun s31 => (Q s31)) s
set_option maxRecDepth 100000 in
theorem gm_38_p146 {L : Nat} {xs : Nat → Int32} {d : Nat} {Q : lf_Z → Prop} {s : lf_Z} (h : fm_38_p146 Q s) : lf_E (px_ro L xs) (d + 206) 38 146 [(0, .ref 31)] [] s (lf_qv Q) := by
  unfold fm_38_p146 at h
  refine lf_seg 1 (pc' := 147) (lv' := [(0, .ref 31)]) (st' := [.ref 31]) rfl ?_
  refine lf_bipush 149 16 rfl rfl (by decide) (by decide) ?_
  refine lf_callV 152 rfl rfl rfl rfl (gm_48 h) (fun s31 h => ?_)
  exact lf_retV rfl rfl h
def fm_38 (Q : lf_Z → Prop) (s : lf_Z) : Prop := fm_15 (s.1 31 8) 20 32 (fun z22 s21 => ((z22 = true → ((s21.2.2 2 = none → (False)) ∧ (∀ t23 : Nat, s21.2.2 2 = some t23 → t23 < 4 ∧ (fm_40 t23 ((s.1 31 8) - 20) (fun z25 s24 => ((z25 = false → ((s24.2.2 2 = none → (False)) ∧ (∀ t26 : Nat, s24.2.2 2 = some t26 → t26 < 4 ∧ (lf_R (s24.1 (35 + 7 * t26) 7) ∧ ((s24.1 (35 + 7 * t26) 7 < 24 → (fm_31 (fun s28 => (lf_R (s.1 31 8) ∧ ((22 < s.1 31 8 → (fm_58 (s.1 31 8) (fun s30 => (fm_38_p146 Q s30)) s28)) ∧ (¬ (22 < s.1 31 8) → ((s28.2.2 2 = none → (False)) ∧ (∀ t32 : Nat, s28.2.2 2 = some t32 → t32 < 4 ∧ ((s28.2.2 2 = none → (False)) ∧ (∀ t33 : Nat, s28.2.2 2 = some t33 → t33 < 4 ∧ ((0 ≤ (s.1 31 8) - 20 ∧ (s.1 31 8) - 20 < 3) ∧ (fc_41 0 (fun s35 => ((s35.2.2 2 = none → (False)) ∧ (∀ t36 : Nat, s35.2.2 2 = some t36 → t36 < 4 ∧ ((s35.2.2 2 = none → (False)) ∧ (∀ t37 : Nat, s35.2.2 2 = some t37 → t37 < 4 ∧ ((0 ≤ s35.1 31 6 ∧ s35.1 31 6 < 3) ∧ ((s35.2.2 2 = none → (False)) ∧ (∀ t39 : Nat, s35.2.2 2 = some t39 → t39 < 4 ∧ (fm_57 t39 (s.1 31 8) 0 0 (fun s40 => (fm_38_p146 Q s40)) (lf_up s35.1 (38 + 7 * t36) (s35.1 31 6) (s35.1 (35 + 7 * t37) 1), s35.2.1, s35.2.2)))))))))) (lf_up (lf_up s28.1 31 6 ((s.1 31 8) - 20)) (37 + 7 * t32) ((s.1 31 8) - 20) ((lf_up s28.1 31 6 ((s.1 31 8) - 20)) (35 + 7 * t33) 1), s28.2.1, s28.2.2))))))))))) s24)) ∧ (¬ (s24.1 (35 + 7 * t26) 7 < 24) → (fm_39 6 (fun s41 => (Q s41)) s24))))))) ∧ (z25 = true → (fm_39 4 (fun s42 => (Q s42)) s24)))) s21)))) ∧ (z22 = false → (fm_39 1 (fun s43 => (Q s43)) s21)))) s
set_option maxRecDepth 100000 in
theorem gm_38 {L : Nat} {xs : Nat → Int32} {d : Nat} {Q : lf_Z → Prop} {s : lf_Z} (h : fm_38 Q s) : lf_M (px_ro L xs) (d + 206) 38 [.ref 31] s (lf_qv Q) := by
  unfold fm_38 at h
  show lf_E (px_ro L xs) (d + 206) 38 0 [(0, .ref 31)] [] s _
  refine lf_seg 1 (pc' := 1) (lv' := [(0, .ref 31)]) (st' := [.ref 31]) rfl ?_
  refine lf_getI 4 8 rfl rfl rfl rfl rfl rfl rfl ?_
  refine lf_seg 2 (pc' := 6) (lv' := [(1, .int (Int32.ofInt (s.1 31 8))), (0, .ref 31)]) (st' := [.int (Int32.ofInt (s.1 31 8))]) rfl ?_
  refine lf_bipush 8 20 rfl rfl (by decide) (by decide) ?_
  refine lf_bipush 10 32 rfl rfl (by decide) (by decide) ?_
  refine lf_callZ 13 rfl rfl rfl rfl (gm_15 h) (fun z22 s21 h => ?_)
  refine lf_ifz_ne 24 16 rfl rfl rfl (fun c => ?_) (fun c => ?_)
  · have h := h.1 c
    refine lf_seg 1 (pc' := 25) (lv' := [(1, .int (Int32.ofInt (s.1 31 8))), (0, .ref 31)]) (st' := [.ref 31]) rfl ?_
    cases et23 : s21.2.2 2 with
    | none =>
      have h := h.1 et23
      refine lf_getR 28 (w := none) rfl rfl rfl rfl rfl rfl (congrArg (Option.map (fun t => 35 + 7 * t)) et23) ?_
      refine lf_seg 1 (pc' := 29) (lv' := [(1, .int (Int32.ofInt (s.1 31 8))), (0, .ref 31)]) (st' := [.int (Int32.ofInt (s.1 31 8)), .null]) rfl ?_
      refine lf_bipush 31 20 rfl rfl (by decide) (by decide) ?_
      refine lf_isub 32 rfl rfl ?_
      exact h.elim
    | some t23 =>
      obtain ⟨htt23, h⟩ := h.2 t23 et23
      refine lf_getR 28 (w := some (35 + 7 * t23)) rfl rfl rfl rfl rfl rfl (congrArg (Option.map (fun t => 35 + 7 * t)) et23) ?_
      refine lf_seg 1 (pc' := 29) (lv' := [(1, .int (Int32.ofInt (s.1 31 8))), (0, .ref 31)]) (st' := [.int (Int32.ofInt (s.1 31 8)), .ref (35 + 7 * t23)]) rfl ?_
      refine lf_bipush 31 20 rfl rfl (by decide) (by decide) ?_
      refine lf_isub 32 rfl rfl ?_
      refine lf_callZ 35 rfl rfl (lf_invT htt23 rfl rfl rfl rfl) rfl (gm_40 htt23 h) (fun z25 s24 h => ?_)
      refine lf_ifz_eq 46 38 rfl rfl rfl (fun c => ?_) (fun c => ?_)
      · have h := h.1 c
        refine lf_seg 1 (pc' := 47) (lv' := [(1, .int (Int32.ofInt (s.1 31 8))), (0, .ref 31)]) (st' := [.ref 31]) rfl ?_
        cases et26 : s24.2.2 2 with
        | none =>
          have h := h.1 et26
          refine lf_getR 50 (w := none) rfl rfl rfl rfl rfl rfl (congrArg (Option.map (fun t => 35 + 7 * t)) et26) ?_
          exact h.elim
        | some t26 =>
          obtain ⟨htt26, h⟩ := h.2 t26 et26
          refine lf_getR 50 (w := some (35 + 7 * t26)) rfl rfl rfl rfl rfl rfl (congrArg (Option.map (fun t => 35 + 7 * t)) et26) ?_
          refine lf_getI 53 7 rfl rfl rfl (lf_scr htt26) (lf_scL htt26) rfl rfl ?_
          refine lf_bipush 55 24 rfl rfl (by decide) (by decide) ?_
          obtain ⟨o27, h⟩ := h
          refine lf_icmp_lt 67 58 rfl rfl rfl o27 ⟨by decide, by decide⟩ (fun c => ?_) (fun c => ?_)
          · have h := h.1 c
            refine lf_seg 1 (pc' := 68) (lv' := [(1, .int (Int32.ofInt (s.1 31 8))), (0, .ref 31)]) (st' := [.ref 31]) rfl ?_
            refine lf_callV 71 rfl rfl rfl rfl (gm_31 h) (fun s28 h => ?_)
            refine lf_seg 1 (pc' := 72) (lv' := [(1, .int (Int32.ofInt (s.1 31 8))), (0, .ref 31)]) (st' := [.int (Int32.ofInt (s.1 31 8))]) rfl ?_
            refine lf_bipush 74 22 rfl rfl (by decide) (by decide) ?_
            obtain ⟨o29, h⟩ := h
            refine lf_icmp_gt 141 77 rfl rfl rfl o29 ⟨by decide, by decide⟩ (fun c => ?_) (fun c => ?_)
            · have h := h.1 c
              refine lf_seg 2 (pc' := 143) (lv' := [(1, .int (Int32.ofInt (s.1 31 8))), (0, .ref 31)]) (st' := [.int (Int32.ofInt (s.1 31 8)), .ref 31]) rfl ?_
              refine lf_callV 146 rfl rfl rfl rfl (gm_58 h) (fun s30 h => ?_)
              refine lf_sub (l := [(0, .ref 31)]) (lf_sb1 rfl lf_sb0) ?_
              exact gm_38_p146 h
            · have h := h.2 c
              refine lf_seg 2 (pc' := 79) (lv' := [(1, .int (Int32.ofInt (s.1 31 8))), (0, .ref 31)]) (st' := [.int (Int32.ofInt (s.1 31 8)), .ref 31]) rfl ?_
              refine lf_bipush 81 20 rfl rfl (by decide) (by decide) ?_
              refine lf_isub 82 rfl rfl ?_
              refine lf_putI 85 6 rfl rfl rfl rfl rfl rfl rfl rfl ?_
              refine lf_as (lf_up s28.1 31 6 ((s.1 31 8) - 20), s28.2.1, s28.2.2) rfl ?_
              refine lf_seg 1 (pc' := 86) (lv' := [(1, .int (Int32.ofInt (s.1 31 8))), (0, .ref 31)]) (st' := [.ref 31]) rfl ?_
              cases et32 : s28.2.2 2 with
              | none =>
                have h := h.1 et32
                refine lf_getR 89 (w := none) rfl rfl rfl rfl rfl rfl (congrArg (Option.map (fun t => 35 + 7 * t)) et32) ?_
                exact h.elim
              | some t32 =>
                obtain ⟨htt32, h⟩ := h.2 t32 et32
                refine lf_getR 89 (w := some (35 + 7 * t32)) rfl rfl rfl rfl rfl rfl (congrArg (Option.map (fun t => 35 + 7 * t)) et32) ?_
                refine lf_getR 92 (w := some (37 + 7 * t32)) rfl rfl rfl (lf_scr htt32) (lf_scL htt32) rfl (lf_sP2 htt32) ?_
                refine lf_seg 1 (pc' := 93) (lv' := [(1, .int (Int32.ofInt (s.1 31 8))), (0, .ref 31)]) (st' := [.ref 31, .ref (37 + 7 * t32)]) rfl ?_
                refine lf_getI 96 6 rfl rfl rfl rfl rfl rfl rfl ?_
                refine lf_seg 1 (pc' := 97) (lv' := [(1, .int (Int32.ofInt (s.1 31 8))), (0, .ref 31)]) (st' := [.ref 31, .int (Int32.ofInt ((s.1 31 8) - 20)), .ref (37 + 7 * t32)]) rfl ?_
                cases et33 : s28.2.2 2 with
                | none =>
                  have h := h.1 et33
                  refine lf_getR 100 (w := none) rfl rfl rfl rfl rfl rfl (congrArg (Option.map (fun t => 35 + 7 * t)) et33) ?_
                  exact h.elim
                | some t33 =>
                  obtain ⟨htt33, h⟩ := h.2 t33 et33
                  refine lf_getR 100 (w := some (35 + 7 * t33)) rfl rfl rfl rfl rfl rfl (congrArg (Option.map (fun t => 35 + 7 * t)) et33) ?_
                  refine lf_getI 103 1 rfl rfl rfl (lf_scr htt33) (lf_scL htt33) rfl rfl ?_
                  obtain ⟨o34, h⟩ := h
                  refine lf_iast 104 3 rfl rfl (lf_sA2 htt32) (lf_sC2 htt32) rfl rfl o34 ?_
                  refine lf_as (lf_up (lf_up s28.1 31 6 ((s.1 31 8) - 20)) (37 + 7 * t32) ((s.1 31 8) - 20) ((lf_up s28.1 31 6 ((s.1 31 8) - 20)) (35 + 7 * t33) 1), s28.2.1, s28.2.2) rfl ?_
                  refine lf_seg 2 (pc' := 106) (lv' := [(1, .int (Int32.ofInt (s.1 31 8))), (0, .ref 31)]) (st' := [.int (Int32.ofInt 0), .ref 31]) rfl ?_
                  refine lf_callV 109 rfl rfl rfl rfl (gc_41 h) (fun s35 h => ?_)
                  refine lf_seg 1 (pc' := 110) (lv' := [(1, .int (Int32.ofInt (s.1 31 8))), (0, .ref 31)]) (st' := [.ref 31]) rfl ?_
                  cases et36 : s35.2.2 2 with
                  | none =>
                    have h := h.1 et36
                    refine lf_getR 113 (w := none) rfl rfl rfl rfl rfl rfl (congrArg (Option.map (fun t => 35 + 7 * t)) et36) ?_
                    exact h.elim
                  | some t36 =>
                    obtain ⟨htt36, h⟩ := h.2 t36 et36
                    refine lf_getR 113 (w := some (35 + 7 * t36)) rfl rfl rfl rfl rfl rfl (congrArg (Option.map (fun t => 35 + 7 * t)) et36) ?_
                    refine lf_getR 116 (w := some (38 + 7 * t36)) rfl rfl rfl (lf_scr htt36) (lf_scL htt36) rfl (lf_sP3 htt36) ?_
                    refine lf_seg 1 (pc' := 117) (lv' := [(1, .int (Int32.ofInt (s.1 31 8))), (0, .ref 31)]) (st' := [.ref 31, .ref (38 + 7 * t36)]) rfl ?_
                    refine lf_getI 120 6 rfl rfl rfl rfl rfl rfl rfl ?_
                    refine lf_seg 1 (pc' := 121) (lv' := [(1, .int (Int32.ofInt (s.1 31 8))), (0, .ref 31)]) (st' := [.ref 31, .int (Int32.ofInt (s35.1 31 6)), .ref (38 + 7 * t36)]) rfl ?_
                    cases et37 : s35.2.2 2 with
                    | none =>
                      have h := h.1 et37
                      refine lf_getR 124 (w := none) rfl rfl rfl rfl rfl rfl (congrArg (Option.map (fun t => 35 + 7 * t)) et37) ?_
                      exact h.elim
                    | some t37 =>
                      obtain ⟨htt37, h⟩ := h.2 t37 et37
                      refine lf_getR 124 (w := some (35 + 7 * t37)) rfl rfl rfl rfl rfl rfl (congrArg (Option.map (fun t => 35 + 7 * t)) et37) ?_
                      refine lf_getI 127 1 rfl rfl rfl (lf_scr htt37) (lf_scL htt37) rfl rfl ?_
                      obtain ⟨o38, h⟩ := h
                      refine lf_iast 128 3 rfl rfl (lf_sA3 htt36) (lf_sC3 htt36) rfl rfl o38 ?_
                      refine lf_as (lf_up s35.1 (38 + 7 * t36) (s35.1 31 6) (s35.1 (35 + 7 * t37) 1), s35.2.1, s35.2.2) rfl ?_
                      refine lf_seg 1 (pc' := 129) (lv' := [(1, .int (Int32.ofInt (s.1 31 8))), (0, .ref 31)]) (st' := [.ref 31]) rfl ?_
                      cases et39 : s35.2.2 2 with
                      | none =>
                        have h := h.1 et39
                        refine lf_getR 132 (w := none) rfl rfl rfl rfl rfl rfl (congrArg (Option.map (fun t => 35 + 7 * t)) et39) ?_
                        refine lf_seg 3 (pc' := 135) (lv' := [(1, .int (Int32.ofInt (s.1 31 8))), (0, .ref 31)]) (st' := [.int (Int32.ofInt 0), .int (Int32.ofInt 0), .int (Int32.ofInt (s.1 31 8)), .null]) rfl ?_
                        exact h.elim
                      | some t39 =>
                        obtain ⟨htt39, h⟩ := h.2 t39 et39
                        refine lf_getR 132 (w := some (35 + 7 * t39)) rfl rfl rfl rfl rfl rfl (congrArg (Option.map (fun t => 35 + 7 * t)) et39) ?_
                        refine lf_seg 3 (pc' := 135) (lv' := [(1, .int (Int32.ofInt (s.1 31 8))), (0, .ref 31)]) (st' := [.int (Int32.ofInt 0), .int (Int32.ofInt 0), .int (Int32.ofInt (s.1 31 8)), .ref (35 + 7 * t39)]) rfl ?_
                        refine lf_callV 138 rfl rfl (lf_invT htt39 rfl rfl rfl rfl) rfl (gm_57 htt39 h) (fun s40 h => ?_)
                        refine lf_seg 1 (pc' := 146) (lv' := [(1, .int (Int32.ofInt (s.1 31 8))), (0, .ref 31)]) (st' := []) rfl ?_
                        refine lf_sub (l := [(0, .ref 31)]) (lf_sb1 rfl lf_sb0) ?_
                        exact gm_38_p146 h
          · have h := h.2 c
            refine lf_seg 1 (pc' := 59) (lv' := [(1, .int (Int32.ofInt (s.1 31 8))), (0, .ref 31)]) (st' := [.ref 31]) rfl ?_
            refine lf_bipush 61 6 rfl rfl (by decide) (by decide) ?_
            refine lf_callV 64 rfl rfl rfl rfl (gm_39 h) (fun s41 h => ?_)
            refine lf_seg 1 (pc' := 152) (lv' := [(1, .int (Int32.ofInt (s.1 31 8))), (0, .ref 31)]) (st' := []) rfl ?_
            exact lf_retV rfl rfl h
      · have h := h.2 c
        refine lf_seg 2 (pc' := 40) (lv' := [(1, .int (Int32.ofInt (s.1 31 8))), (0, .ref 31)]) (st' := [.int (Int32.ofInt 4), .ref 31]) rfl ?_
        refine lf_callV 43 rfl rfl rfl rfl (gm_39 h) (fun s42 h => ?_)
        refine lf_seg 1 (pc' := 152) (lv' := [(1, .int (Int32.ofInt (s.1 31 8))), (0, .ref 31)]) (st' := []) rfl ?_
        exact lf_retV rfl rfl h
  · have h := h.2 c
    refine lf_seg 2 (pc' := 18) (lv' := [(1, .int (Int32.ofInt (s.1 31 8))), (0, .ref 31)]) (st' := [.int (Int32.ofInt 1), .ref 31]) rfl ?_
    refine lf_callV 21 rfl rfl rfl rfl (gm_39 h) (fun s43 h => ?_)
    refine lf_seg 1 (pc' := 152) (lv' := [(1, .int (Int32.ofInt (s.1 31 8))), (0, .ref 31)]) (st' := []) rfl ?_
    exact lf_retV rfl rfl h
-- fm_29 Reader.readAll 31 t
def fm_29_p72 (Q : Bool → lf_Z → Prop) (s : lf_Z) : Prop := lf_R (s.1 31 2) ∧ ((s.1 31 2 ≠ 0 → (Q false (lf_up s.1 31 1 0, s.2.1, s.2.2))) ∧ (¬ (s.1 31 2 ≠ 0) → (Q true (lf_up s.1 31 1 0, s.2.1, s.2.2))))
set_option maxRecDepth 100000 in
theorem gm_29_p72 {L : Nat} {xs : Nat → Int32} {d : Nat} {Q : Bool → lf_Z → Prop} {s : lf_Z} (h : fm_29_p72 Q s) : lf_E (px_ro L xs) (d + 207) 29 72 [(0, .ref 31)] [] s (lf_qz Q) := by
  unfold fm_29_p72 at h
  refine lf_seg 2 (pc' := 74) (lv' := [(0, .ref 31)]) (st' := [.int (Int32.ofInt 0), .ref 31]) rfl ?_
  refine lf_putI 77 1 rfl rfl rfl rfl rfl rfl rfl rfl ?_
  refine lf_as (lf_up s.1 31 1 0, s.2.1, s.2.2) rfl ?_
  refine lf_seg 1 (pc' := 78) (lv' := [(0, .ref 31)]) (st' := [.ref 31]) rfl ?_
  refine lf_getI 81 2 rfl rfl rfl rfl rfl rfl rfl ?_
  refine lf_seg 0 (pc' := 81) (lv' := [(0, .ref 31)]) (st' := [.int (Int32.ofInt (s.1 31 2))]) rfl ?_
  obtain ⟨o25, h⟩ := h
  refine lf_if_ne 88 84 rfl rfl rfl o25 (fun c => ?_) (fun c => ?_)
  · have h := h.1 c
    refine lf_seg 1 (pc' := 89) (lv' := [(0, .ref 31)]) (st' := [.int (Int32.ofInt 0)]) rfl ?_
    exact lf_retZ false rfl rfl h
  · have h := h.2 c
    refine lf_seg 2 (pc' := 89) (lv' := [(0, .ref 31)]) (st' := [.int (Int32.ofInt 1)]) rfl ?_
    exact lf_retZ true rfl rfl h
def fm_29_p41 (Q : Bool → lf_Z → Prop) (X41 : Int → lf_Z → Prop) (x2 : Int) (s : lf_Z) : Prop := lf_R x2 ∧ ((300 < x2 → (fm_29_p72 Q s)) ∧ (¬ (300 < x2) → (lf_R (s.1 31 8) ∧ ((s.1 31 8 = 0 → (fm_29_p72 Q s)) ∧ (¬ (s.1 31 8 = 0) → (lf_R (s.1 31 2) ∧ ((s.1 31 2 ≠ 0 → (fm_29_p72 Q s)) ∧ (¬ (s.1 31 2 ≠ 0) → (fm_38 (fun s28 => (X41 (x2 + 1) s28)) s)))))))))
def fm_29_p41L (Q : Bool → lf_Z → Prop) (x2 : Int) (s : lf_Z) : Prop := ∀ X41 : Int → lf_Z → Prop, (∀ (x2 : Int) (s : lf_Z), fm_29_p41 Q X41 x2 s → X41 x2 s) → X41 x2 s
set_option maxRecDepth 100000 in
theorem gm_29_p41 {L : Nat} {xs : Nat → Int32} {d : Nat} {Q : Bool → lf_Z → Prop} {x2 : Int} {s : lf_Z} {X41 : Int → lf_Z → Prop} (hX41 : ∀ x2 s, X41 x2 s → lf_E (px_ro L xs) (d + 207) 29 41 [(0, .ref 31), (2, .int (Int32.ofInt x2))] [] s (lf_qz Q)) (h : fm_29_p41 Q X41 x2 s) : lf_E (px_ro L xs) (d + 207) 29 41 [(0, .ref 31), (2, .int (Int32.ofInt x2))] [] s (lf_qz Q) := by
  unfold fm_29_p41 at h
  refine lf_seg 1 (pc' := 42) (lv' := [(0, .ref 31), (2, .int (Int32.ofInt x2))]) (st' := [.int (Int32.ofInt x2)]) rfl ?_
  refine lf_sipush 45 300 rfl rfl (by decide) (by decide) ?_
  obtain ⟨o24, h⟩ := h
  refine lf_icmp_gt 72 48 rfl rfl rfl o24 ⟨by decide, by decide⟩ (fun c => ?_) (fun c => ?_)
  · have h := h.1 c
    refine lf_sub (l := [(0, .ref 31)]) (lf_sb1 rfl lf_sb0) ?_
    exact gm_29_p72 h
  · have h := h.2 c
    refine lf_seg 1 (pc' := 49) (lv' := [(0, .ref 31), (2, .int (Int32.ofInt x2))]) (st' := [.ref 31]) rfl ?_
    refine lf_getI 52 8 rfl rfl rfl rfl rfl rfl rfl ?_
    obtain ⟨o26, h⟩ := h
    refine lf_if_eq 72 55 rfl rfl rfl o26 (fun c => ?_) (fun c => ?_)
    · have h := h.1 c
      refine lf_sub (l := [(0, .ref 31)]) (lf_sb1 rfl lf_sb0) ?_
      exact gm_29_p72 h
    · have h := h.2 c
      refine lf_seg 1 (pc' := 56) (lv' := [(0, .ref 31), (2, .int (Int32.ofInt x2))]) (st' := [.ref 31]) rfl ?_
      refine lf_getI 59 2 rfl rfl rfl rfl rfl rfl rfl ?_
      obtain ⟨o27, h⟩ := h
      refine lf_if_ne 72 62 rfl rfl rfl o27 (fun c => ?_) (fun c => ?_)
      · have h := h.1 c
        refine lf_sub (l := [(0, .ref 31)]) (lf_sb1 rfl lf_sb0) ?_
        exact gm_29_p72 h
      · have h := h.2 c
        refine lf_seg 1 (pc' := 63) (lv' := [(0, .ref 31), (2, .int (Int32.ofInt x2))]) (st' := [.ref 31]) rfl ?_
        refine lf_callV 66 rfl rfl rfl rfl (gm_38 h) (fun s28 h => ?_)
        refine lf_iinc 69 rfl rfl rfl rfl ?_
        refine lf_seg 1 (pc' := 41) (lv' := [(2, .int (Int32.ofInt (x2 + 1))), (0, .ref 31)]) (st' := []) rfl ?_
        refine lf_sub (l := [(0, .ref 31), (2, .int (Int32.ofInt (x2 + 1)))]) (lf_sb1 rfl (lf_sb1 rfl lf_sb0)) ?_
        exact hX41 _ _ h
theorem gm_29_p41L {L : Nat} {xs : Nat → Int32} {d : Nat} {Q : Bool → lf_Z → Prop} {x2 : Int} {s : lf_Z} (h : fm_29_p41L Q x2 s) : lf_E (px_ro L xs) (d + 207) 29 41 [(0, .ref 31), (2, .int (Int32.ofInt x2))] [] s (lf_qz Q) :=
  h (fun x2 s => lf_E (px_ro L xs) (d + 207) 29 41 [(0, .ref 31), (2, .int (Int32.ofInt x2))] [] s (lf_qz Q)) (fun x2 s hb => gm_29_p41 (fun _ _ h => h) hb)
def fm_29 (t1 : Nat) (Q : Bool → lf_Z → Prop) (s : lf_Z) : Prop := ((lf_ur s.2.2 2 (some t1)) 2 = none → (False)) ∧ (∀ t21 : Nat, (lf_ur s.2.2 2 (some t1)) 2 = some t21 → t21 < 4 ∧ (fm_30 t21 (fun s22 => (fm_31 (fun s23 => (fm_29_p41L Q 0 s23)) (lf_up (lf_fl (lf_up (lf_up s22.1 31 2 0) 31 3 (-1)) 33 26 (-1)) 31 7 0, s22.2.1, s22.2.2))) (s.1, s.2.1, lf_ur s.2.2 2 (some t1))))
set_option maxRecDepth 100000 in
theorem gm_29 {L : Nat} {xs : Nat → Int32} {d : Nat} {t1 : Nat} {Q : Bool → lf_Z → Prop} {s : lf_Z} (htt1 : t1 < 4) (h : fm_29 t1 Q s) : lf_M (px_ro L xs) (d + 207) 29 [.ref 31, .ref (35 + 7 * t1)] s (lf_qz Q) := by
  unfold fm_29 at h
  show lf_E (px_ro L xs) (d + 207) 29 0 [(0, .ref 31), (1, .ref (35 + 7 * t1))] [] s _
  refine lf_seg 2 (pc' := 2) (lv' := [(0, .ref 31), (1, .ref (35 + 7 * t1))]) (st' := [.ref (35 + 7 * t1), .ref 31]) rfl ?_
  refine lf_putR 5 2 (some t1) (some (35 + 7 * t1)) rfl rfl rfl rfl rfl rfl rfl rfl (lf_urS (w := some t1) (by decide)) ?_
  refine lf_as (s.1, s.2.1, lf_ur s.2.2 2 (some t1)) rfl ?_
  refine lf_seg 1 (pc' := 6) (lv' := [(0, .ref 31), (1, .ref (35 + 7 * t1))]) (st' := [.ref 31]) rfl ?_
  cases et21 : (lf_ur s.2.2 2 (some t1)) 2 with
  | none =>
    have h := h.1 et21
    refine lf_getR 9 (w := none) rfl rfl rfl rfl rfl rfl (congrArg (Option.map (fun t => 35 + 7 * t)) et21) ?_
    exact h.elim
  | some t21 =>
    obtain ⟨htt21, h⟩ := h.2 t21 et21
    refine lf_getR 9 (w := some (35 + 7 * t21)) rfl rfl rfl rfl rfl rfl (congrArg (Option.map (fun t => 35 + 7 * t)) et21) ?_
    refine lf_callV 12 rfl rfl (lf_invT htt21 rfl rfl rfl rfl) rfl (gm_30 htt21 h) (fun s22 h => ?_)
    refine lf_seg 2 (pc' := 14) (lv' := [(0, .ref 31), (1, .ref (35 + 7 * t1))]) (st' := [.int (Int32.ofInt 0), .ref 31]) rfl ?_
    refine lf_putI 17 2 rfl rfl rfl rfl rfl rfl rfl rfl ?_
    refine lf_as (lf_up s22.1 31 2 0, s22.2.1, s22.2.2) rfl ?_
    refine lf_seg 2 (pc' := 19) (lv' := [(0, .ref 31), (1, .ref (35 + 7 * t1))]) (st' := [.int (Int32.ofInt (-1)), .ref 31]) rfl ?_
    refine lf_putI 22 3 rfl rfl rfl rfl rfl rfl rfl rfl ?_
    refine lf_as (lf_up (lf_up s22.1 31 2 0) 31 3 (-1), s22.2.1, s22.2.2) rfl ?_
    refine lf_seg 3 (pc' := 27) (lv' := [(0, .ref 31), (1, .ref (35 + 7 * t1))]) (st' := [.int (Int32.ofInt (-1)), .ref 33]) rfl ?_
    refine lf_callV (Q1 := fun s1 => s1 = (lf_fl (lf_up (lf_up s22.1 31 2 0) 31 3 (-1)) 33 26 (-1), s22.2.1, s22.2.2)) 30 rfl rfl rfl rfl (lf_fill (m := 26) rfl rfl rfl rfl rfl rfl) (fun s1 hs1 => ?_)
    refine lf_as (lf_fl (lf_up (lf_up s22.1 31 2 0) 31 3 (-1)) 33 26 (-1), s22.2.1, s22.2.2) hs1 ?_
    refine lf_seg 2 (pc' := 32) (lv' := [(0, .ref 31), (1, .ref (35 + 7 * t1))]) (st' := [.int (Int32.ofInt 0), .ref 31]) rfl ?_
    refine lf_putI 35 7 rfl rfl rfl rfl rfl rfl rfl rfl ?_
    refine lf_as (lf_up (lf_fl (lf_up (lf_up s22.1 31 2 0) 31 3 (-1)) 33 26 (-1)) 31 7 0, s22.2.1, s22.2.2) rfl ?_
    refine lf_seg 1 (pc' := 36) (lv' := [(0, .ref 31), (1, .ref (35 + 7 * t1))]) (st' := [.ref 31]) rfl ?_
    refine lf_callV 39 rfl rfl rfl rfl (gm_31 h) (fun s23 h => ?_)
    refine lf_seg 2 (pc' := 41) (lv' := [(2, .int (Int32.ofInt 0)), (0, .ref 31), (1, .ref (35 + 7 * t1))]) (st' := []) rfl ?_
    refine lf_sub (l := [(0, .ref 31), (2, .int (Int32.ofInt 0))]) (lf_sb1 rfl (lf_sb1 rfl lf_sb0)) ?_
    exact gm_29_p41L h
-- fm_28 ElevenBullocks.text 0
def fm_28 (Q : Int → lf_Z → Prop) (s : lf_Z) : Prop := lf_R (s.1 0 11) ∧ ((s.1 0 11 < 4 → ((0 ≤ s.1 0 11 ∧ s.1 0 11 < 4) ∧ (∀ t23 : Nat, t23 = (s.1 0 11).toNat → (fm_29 t23 (fun z25 s24 => ((z25 = true → (Q (((s24.1 0 11) + 1) - 1) (lf_up s24.1 0 11 ((s24.1 0 11) + 1), s24.2.1, s24.2.2))) ∧ (z25 = false → (Q (-1) s24)))) s)))) ∧ (¬ (s.1 0 11 < 4) → (Q (-1) s)))
set_option maxRecDepth 100000 in
theorem gm_28 {L : Nat} {xs : Nat → Int32} {d : Nat} {Q : Int → lf_Z → Prop} {s : lf_Z} (h : fm_28 Q s) : lf_M (px_ro L xs) (d + 208) 28 [.ref 0] s (lf_qi Q) := by
  unfold fm_28 at h
  show lf_E (px_ro L xs) (d + 208) 28 0 [(0, .ref 0)] [] s _
  refine lf_seg 1 (pc' := 1) (lv' := [(0, .ref 0)]) (st' := [.ref 0]) rfl ?_
  refine lf_getI 4 11 rfl rfl rfl rfl rfl rfl rfl ?_
  refine lf_seg 1 (pc' := 5) (lv' := [(0, .ref 0)]) (st' := [.int (Int32.ofInt 4), .int (Int32.ofInt (s.1 0 11))]) rfl ?_
  obtain ⟨o21, h⟩ := h
  refine lf_icmp_lt 10 8 rfl rfl rfl o21 ⟨by decide, by decide⟩ (fun c => ?_) (fun c => ?_)
  · have h := h.1 c
    refine lf_seg 5 (pc' := 19) (lv' := [(0, .ref 0)]) (st' := [.ref 0, .ref 34, .ref 31]) rfl ?_
    refine lf_getI 22 11 rfl rfl rfl rfl rfl rfl rfl ?_
    obtain ⟨o22, h⟩ := h
    refine lf_aald 23 rfl rfl o22 ?_
    have h := h _ rfl
    have htt23 : (s.1 0 11).toNat < 4 := by have := o22; omega
    generalize (s.1 0 11).toNat = t23 at h htt23 ⊢
    refine lf_callZ 26 rfl rfl rfl rfl (gm_29 htt23 h) (fun z25 s24 h => ?_)
    refine lf_ifz_ne 31 29 rfl rfl rfl (fun c => ?_) (fun c => ?_)
    · have h := h.1 c
      refine lf_seg 2 (pc' := 33) (lv' := [(0, .ref 0)]) (st' := [.ref 0, .ref 0]) rfl ?_
      refine lf_getI 36 11 rfl rfl rfl rfl rfl rfl rfl ?_
      refine lf_seg 1 (pc' := 37) (lv' := [(0, .ref 0)]) (st' := [.int (Int32.ofInt 1), .int (Int32.ofInt (s24.1 0 11)), .ref 0]) rfl ?_
      refine lf_iadd 38 rfl rfl ?_
      refine lf_putI 41 11 rfl rfl rfl rfl rfl rfl rfl rfl ?_
      refine lf_as (lf_up s24.1 0 11 ((s24.1 0 11) + 1), s24.2.1, s24.2.2) rfl ?_
      refine lf_seg 1 (pc' := 42) (lv' := [(0, .ref 0)]) (st' := [.ref 0]) rfl ?_
      refine lf_getI 45 11 rfl rfl rfl rfl rfl rfl rfl ?_
      refine lf_seg 1 (pc' := 46) (lv' := [(0, .ref 0)]) (st' := [.int (Int32.ofInt 1), .int (Int32.ofInt ((s24.1 0 11) + 1))]) rfl ?_
      refine lf_isub 47 rfl rfl ?_
      exact lf_retI rfl rfl h
    · have h := h.2 c
      refine lf_seg 1 (pc' := 30) (lv' := [(0, .ref 0)]) (st' := [.int (Int32.ofInt (-1))]) rfl ?_
      exact lf_retI rfl rfl h
  · have h := h.2 c
    refine lf_seg 1 (pc' := 9) (lv' := [(0, .ref 0)]) (st' := [.int (Int32.ofInt (-1))]) rfl ?_
    exact lf_retI rfl rfl h
-- fm_198 Model.byteAt 95 i
def fm_198 (a1 : Int) (Q : Int → lf_Z → Prop) (s : lf_Z) : Prop := lf_R a1 ∧ (lf_R (s.1 95 4) ∧ ((s.1 95 4 ≤ a1 → (Q (-1) s)) ∧ (¬ (s.1 95 4 ≤ a1) → ((0 ≤ a1 ∧ a1 < 300) ∧ (Q (s.1 99 a1) s)))))
set_option maxRecDepth 100000 in
theorem gm_198 {L : Nat} {xs : Nat → Int32} {d : Nat} {a1 : Int} {Q : Int → lf_Z → Prop} {s : lf_Z} (h : fm_198 a1 Q s) : lf_M (px_ro L xs) (d + 1) 198 [.ref 95, .int (Int32.ofInt a1)] s (lf_qi Q) := by
  unfold fm_198 at h
  show lf_E (px_ro L xs) (d + 1) 198 0 [(0, .ref 95), (1, .int (Int32.ofInt a1))] [] s _
  refine lf_seg 2 (pc' := 2) (lv' := [(0, .ref 95), (1, .int (Int32.ofInt a1))]) (st' := [.ref 95, .int (Int32.ofInt a1)]) rfl ?_
  refine lf_getI 5 4 rfl rfl rfl rfl rfl rfl rfl ?_
  obtain ⟨o21, h⟩ := h
  obtain ⟨o22, h⟩ := h
  refine lf_icmp_ge 17 8 rfl rfl rfl o21 o22 (fun c => ?_) (fun c => ?_)
  · have h := h.1 c
    refine lf_seg 1 (pc' := 18) (lv' := [(0, .ref 95), (1, .int (Int32.ofInt a1))]) (st' := [.int (Int32.ofInt (-1))]) rfl ?_
    exact lf_retI rfl rfl h
  · have h := h.2 c
    refine lf_seg 3 (pc' := 13) (lv' := [(0, .ref 95), (1, .int (Int32.ofInt a1))]) (st' := [.int (Int32.ofInt a1), .ref 99]) rfl ?_
    obtain ⟨o23, h⟩ := h
    refine lf_iald 14 300 rfl rfl rfl rfl rfl rfl o23 ?_
    refine lf_seg 1 (pc' := 18) (lv' := [(0, .ref 95), (1, .int (Int32.ofInt a1))]) (st' := [.int (Int32.ofInt (s.1 99 a1))]) rfl ?_
    exact lf_retI rfl rfl h
-- fm_199 Model.isFigure i
def fm_199 (a0 : Int) (Q : Bool → lf_Z → Prop) (s : lf_Z) : Prop := lf_R a0 ∧ ((a0 < 48 → (Q false s)) ∧ (¬ (a0 < 48) → ((57 < a0 → (Q false s)) ∧ (¬ (57 < a0) → (Q true s)))))
set_option maxRecDepth 100000 in
theorem gm_199 {L : Nat} {xs : Nat → Int32} {d : Nat} {a0 : Int} {Q : Bool → lf_Z → Prop} {s : lf_Z} (h : fm_199 a0 Q s) : lf_M (px_ro L xs) (d + 1) 199 [.int (Int32.ofInt a0)] s (lf_qz Q) := by
  unfold fm_199 at h
  show lf_E (px_ro L xs) (d + 1) 199 0 [(0, .int (Int32.ofInt a0))] [] s _
  refine lf_seg 1 (pc' := 1) (lv' := [(0, .int (Int32.ofInt a0))]) (st' := [.int (Int32.ofInt a0)]) rfl ?_
  refine lf_bipush 3 48 rfl rfl (by decide) (by decide) ?_
  obtain ⟨o21, h⟩ := h
  refine lf_icmp_lt 16 6 rfl rfl rfl o21 ⟨by decide, by decide⟩ (fun c => ?_) (fun c => ?_)
  · have h := h.1 c
    refine lf_seg 1 (pc' := 17) (lv' := [(0, .int (Int32.ofInt a0))]) (st' := [.int (Int32.ofInt 0)]) rfl ?_
    exact lf_retZ false rfl rfl h
  · have h := h.2 c
    refine lf_seg 1 (pc' := 7) (lv' := [(0, .int (Int32.ofInt a0))]) (st' := [.int (Int32.ofInt a0)]) rfl ?_
    refine lf_bipush 9 57 rfl rfl (by decide) (by decide) ?_
    refine lf_icmp_gt 16 12 rfl rfl rfl o21 ⟨by decide, by decide⟩ (fun c => ?_) (fun c => ?_)
    · have h := h.1 c
      refine lf_seg 1 (pc' := 17) (lv' := [(0, .int (Int32.ofInt a0))]) (st' := [.int (Int32.ofInt 0)]) rfl ?_
      exact lf_retZ false rfl rfl h
    · have h := h.2 c
      refine lf_seg 2 (pc' := 17) (lv' := [(0, .int (Int32.ofInt a0))]) (st' := [.int (Int32.ofInt 1)]) rfl ?_
      exact lf_retZ true rfl rfl h
-- fm_200 Model.isLetterByte i
def fm_200_p12 (Q : Bool → lf_Z → Prop) (x0 : Int) (s : lf_Z) : Prop := lf_R x0 ∧ ((x0 < 65 → (Q false s)) ∧ (¬ (x0 < 65) → ((90 < x0 → (Q false s)) ∧ (¬ (90 < x0) → (Q true s)))))
set_option maxRecDepth 100000 in
theorem gm_200_p12 {L : Nat} {xs : Nat → Int32} {d : Nat} {Q : Bool → lf_Z → Prop} {x0 : Int} {s : lf_Z} (h : fm_200_p12 Q x0 s) : lf_E (px_ro L xs) (d + 1) 200 12 [(0, .int (Int32.ofInt x0))] [] s (lf_qz Q) := by
  unfold fm_200_p12 at h
  refine lf_seg 1 (pc' := 13) (lv' := [(0, .int (Int32.ofInt x0))]) (st' := [.int (Int32.ofInt x0)]) rfl ?_
  refine lf_bipush 15 65 rfl rfl (by decide) (by decide) ?_
  obtain ⟨o22, h⟩ := h
  refine lf_icmp_lt 28 18 rfl rfl rfl o22 ⟨by decide, by decide⟩ (fun c => ?_) (fun c => ?_)
  · have h := h.1 c
    refine lf_seg 1 (pc' := 29) (lv' := [(0, .int (Int32.ofInt x0))]) (st' := [.int (Int32.ofInt 0)]) rfl ?_
    exact lf_retZ false rfl rfl h
  · have h := h.2 c
    refine lf_seg 1 (pc' := 19) (lv' := [(0, .int (Int32.ofInt x0))]) (st' := [.int (Int32.ofInt x0)]) rfl ?_
    refine lf_bipush 21 90 rfl rfl (by decide) (by decide) ?_
    refine lf_icmp_gt 28 24 rfl rfl rfl o22 ⟨by decide, by decide⟩ (fun c => ?_) (fun c => ?_)
    · have h := h.1 c
      refine lf_seg 1 (pc' := 29) (lv' := [(0, .int (Int32.ofInt x0))]) (st' := [.int (Int32.ofInt 0)]) rfl ?_
      exact lf_retZ false rfl rfl h
    · have h := h.2 c
      refine lf_seg 2 (pc' := 29) (lv' := [(0, .int (Int32.ofInt x0))]) (st' := [.int (Int32.ofInt 1)]) rfl ?_
      exact lf_retZ true rfl rfl h
def fm_200 (a0 : Int) (Q : Bool → lf_Z → Prop) (s : lf_Z) : Prop := lf_R a0 ∧ ((a0 < 97 → (fm_200_p12 Q a0 s)) ∧ (¬ (a0 < 97) → ((a0 ≤ 122 → (Q true s)) ∧ (¬ (a0 ≤ 122) → (fm_200_p12 Q a0 s)))))
set_option maxRecDepth 100000 in
theorem gm_200 {L : Nat} {xs : Nat → Int32} {d : Nat} {a0 : Int} {Q : Bool → lf_Z → Prop} {s : lf_Z} (h : fm_200 a0 Q s) : lf_M (px_ro L xs) (d + 1) 200 [.int (Int32.ofInt a0)] s (lf_qz Q) := by
  unfold fm_200 at h
  show lf_E (px_ro L xs) (d + 1) 200 0 [(0, .int (Int32.ofInt a0))] [] s _
  refine lf_seg 1 (pc' := 1) (lv' := [(0, .int (Int32.ofInt a0))]) (st' := [.int (Int32.ofInt a0)]) rfl ?_
  refine lf_bipush 3 97 rfl rfl (by decide) (by decide) ?_
  obtain ⟨o21, h⟩ := h
  refine lf_icmp_lt 12 6 rfl rfl rfl o21 ⟨by decide, by decide⟩ (fun c => ?_) (fun c => ?_)
  · have h := h.1 c
    refine lf_sub (l := [(0, .int (Int32.ofInt a0))]) (lf_sb1 rfl lf_sb0) ?_
    exact gm_200_p12 h
  · have h := h.2 c
    refine lf_seg 1 (pc' := 7) (lv' := [(0, .int (Int32.ofInt a0))]) (st' := [.int (Int32.ofInt a0)]) rfl ?_
    refine lf_bipush 9 122 rfl rfl (by decide) (by decide) ?_
    refine lf_icmp_le 24 12 rfl rfl rfl o21 ⟨by decide, by decide⟩ (fun c => ?_) (fun c => ?_)
    · have h := h.1 c
      refine lf_seg 2 (pc' := 29) (lv' := [(0, .int (Int32.ofInt a0))]) (st' := [.int (Int32.ofInt 1)]) rfl ?_
      exact lf_retZ true rfl rfl h
    · have h := h.2 c
      refine lf_sub (l := [(0, .int (Int32.ofInt a0))]) (lf_sb1 rfl lf_sb0) ?_
      exact gm_200_p12 h
-- fm_201 Model.isSign i
def fm_201 (a0 : Int) (Q : Bool → lf_Z → Prop) (s : lf_Z) : Prop := lf_R a0 ∧ ((a0 < 35 ∨ 62 < a0 → (Q false s)) ∧ (a0 = 35 → (Q true s)) ∧ (a0 = 36 → (Q false s)) ∧ (a0 = 37 → (Q false s)) ∧ (a0 = 38 → (Q false s)) ∧ (a0 = 39 → (Q false s)) ∧ (a0 = 40 → (Q true s)) ∧ (a0 = 41 → (Q true s)) ∧ (a0 = 42 → (Q true s)) ∧ (a0 = 43 → (Q true s)) ∧ (a0 = 44 → (Q false s)) ∧ (a0 = 45 → (Q true s)) ∧ (a0 = 46 → (Q false s)) ∧ (a0 = 47 → (Q true s)) ∧ (a0 = 48 → (Q false s)) ∧ (a0 = 49 → (Q false s)) ∧ (a0 = 50 → (Q false s)) ∧ (a0 = 51 → (Q false s)) ∧ (a0 = 52 → (Q false s)) ∧ (a0 = 53 → (Q false s)) ∧ (a0 = 54 → (Q false s)) ∧ (a0 = 55 → (Q false s)) ∧ (a0 = 56 → (Q false s)) ∧ (a0 = 57 → (Q false s)) ∧ (a0 = 58 → (Q false s)) ∧ (a0 = 59 → (Q true s)) ∧ (a0 = 60 → (Q true s)) ∧ (a0 = 61 → (Q true s)) ∧ (a0 = 62 → (Q true s)))
set_option maxRecDepth 100000 in
theorem gm_201 {L : Nat} {xs : Nat → Int32} {d : Nat} {a0 : Int} {Q : Bool → lf_Z → Prop} {s : lf_Z} (h : fm_201 a0 Q s) : lf_M (px_ro L xs) (d + 1) 201 [.int (Int32.ofInt a0)] s (lf_qz Q) := by
  unfold fm_201 at h
  show lf_E (px_ro L xs) (d + 1) 201 0 [(0, .int (Int32.ofInt a0))] [] s _
  refine lf_seg 1 (pc' := 1) (lv' := [(0, .int (Int32.ofInt a0))]) (st' := [.int (Int32.ofInt a0)]) rfl ?_
  obtain ⟨o21, h⟩ := h
  refine lf_tsw 130 [(35, 128), (36, 130), (37, 130), (38, 130), (39, 130), (40, 128), (41, 128), (42, 128), (43, 128), (44, 130), (45, 128), (46, 130), (47, 128), (48, 130), (49, 130), (50, 130), (51, 130), (52, 130), (53, 130), (54, 130), (55, 130), (56, 130), (57, 130), (58, 130), (59, 128), (60, 128), (61, 128), (62, 128)] rfl rfl rfl (by decide) o21 (fun c => ?_) (lf_tab1 (fun c => ?_) (lf_tab1 (fun c => ?_) (lf_tab1 (fun c => ?_) (lf_tab1 (fun c => ?_) (lf_tab1 (fun c => ?_) (lf_tab1 (fun c => ?_) (lf_tab1 (fun c => ?_) (lf_tab1 (fun c => ?_) (lf_tab1 (fun c => ?_) (lf_tab1 (fun c => ?_) (lf_tab1 (fun c => ?_) (lf_tab1 (fun c => ?_) (lf_tab1 (fun c => ?_) (lf_tab1 (fun c => ?_) (lf_tab1 (fun c => ?_) (lf_tab1 (fun c => ?_) (lf_tab1 (fun c => ?_) (lf_tab1 (fun c => ?_) (lf_tab1 (fun c => ?_) (lf_tab1 (fun c => ?_) (lf_tab1 (fun c => ?_) (lf_tab1 (fun c => ?_) (lf_tab1 (fun c => ?_) (lf_tab1 (fun c => ?_) (lf_tab1 (fun c => ?_) (lf_tab1 (fun c => ?_) (lf_tab1 (fun c => ?_) (lf_tab1 (fun c => ?_) lf_tab0))))))))))))))))))))))))))))
  · have h := h.1 c
    refine lf_seg 1 (pc' := 131) (lv' := [(0, .int (Int32.ofInt a0))]) (st' := [.int (Int32.ofInt 0)]) rfl ?_
    exact lf_retZ false rfl rfl h
  · have h := h.2.1 c
    refine lf_seg 1 (pc' := 129) (lv' := [(0, .int (Int32.ofInt a0))]) (st' := [.int (Int32.ofInt 1)]) rfl ?_
    exact lf_retZ true rfl rfl h
  · have h := h.2.2.1 c
    refine lf_seg 1 (pc' := 131) (lv' := [(0, .int (Int32.ofInt a0))]) (st' := [.int (Int32.ofInt 0)]) rfl ?_
    exact lf_retZ false rfl rfl h
  · have h := h.2.2.2.1 c
    refine lf_seg 1 (pc' := 131) (lv' := [(0, .int (Int32.ofInt a0))]) (st' := [.int (Int32.ofInt 0)]) rfl ?_
    exact lf_retZ false rfl rfl h
  · have h := h.2.2.2.2.1 c
    refine lf_seg 1 (pc' := 131) (lv' := [(0, .int (Int32.ofInt a0))]) (st' := [.int (Int32.ofInt 0)]) rfl ?_
    exact lf_retZ false rfl rfl h
  · have h := h.2.2.2.2.2.1 c
    refine lf_seg 1 (pc' := 131) (lv' := [(0, .int (Int32.ofInt a0))]) (st' := [.int (Int32.ofInt 0)]) rfl ?_
    exact lf_retZ false rfl rfl h
  · have h := h.2.2.2.2.2.2.1 c
    refine lf_seg 1 (pc' := 129) (lv' := [(0, .int (Int32.ofInt a0))]) (st' := [.int (Int32.ofInt 1)]) rfl ?_
    exact lf_retZ true rfl rfl h
  · have h := h.2.2.2.2.2.2.2.1 c
    refine lf_seg 1 (pc' := 129) (lv' := [(0, .int (Int32.ofInt a0))]) (st' := [.int (Int32.ofInt 1)]) rfl ?_
    exact lf_retZ true rfl rfl h
  · have h := h.2.2.2.2.2.2.2.2.1 c
    refine lf_seg 1 (pc' := 129) (lv' := [(0, .int (Int32.ofInt a0))]) (st' := [.int (Int32.ofInt 1)]) rfl ?_
    exact lf_retZ true rfl rfl h
  · have h := h.2.2.2.2.2.2.2.2.2.1 c
    refine lf_seg 1 (pc' := 129) (lv' := [(0, .int (Int32.ofInt a0))]) (st' := [.int (Int32.ofInt 1)]) rfl ?_
    exact lf_retZ true rfl rfl h
  · have h := h.2.2.2.2.2.2.2.2.2.2.1 c
    refine lf_seg 1 (pc' := 131) (lv' := [(0, .int (Int32.ofInt a0))]) (st' := [.int (Int32.ofInt 0)]) rfl ?_
    exact lf_retZ false rfl rfl h
  · have h := h.2.2.2.2.2.2.2.2.2.2.2.1 c
    refine lf_seg 1 (pc' := 129) (lv' := [(0, .int (Int32.ofInt a0))]) (st' := [.int (Int32.ofInt 1)]) rfl ?_
    exact lf_retZ true rfl rfl h
  · have h := h.2.2.2.2.2.2.2.2.2.2.2.2.1 c
    refine lf_seg 1 (pc' := 131) (lv' := [(0, .int (Int32.ofInt a0))]) (st' := [.int (Int32.ofInt 0)]) rfl ?_
    exact lf_retZ false rfl rfl h
  · have h := h.2.2.2.2.2.2.2.2.2.2.2.2.2.1 c
    refine lf_seg 1 (pc' := 129) (lv' := [(0, .int (Int32.ofInt a0))]) (st' := [.int (Int32.ofInt 1)]) rfl ?_
    exact lf_retZ true rfl rfl h
  · have h := h.2.2.2.2.2.2.2.2.2.2.2.2.2.2.1 c
    refine lf_seg 1 (pc' := 131) (lv' := [(0, .int (Int32.ofInt a0))]) (st' := [.int (Int32.ofInt 0)]) rfl ?_
    exact lf_retZ false rfl rfl h
  · have h := h.2.2.2.2.2.2.2.2.2.2.2.2.2.2.2.1 c
    refine lf_seg 1 (pc' := 131) (lv' := [(0, .int (Int32.ofInt a0))]) (st' := [.int (Int32.ofInt 0)]) rfl ?_
    exact lf_retZ false rfl rfl h
  · have h := h.2.2.2.2.2.2.2.2.2.2.2.2.2.2.2.2.1 c
    refine lf_seg 1 (pc' := 131) (lv' := [(0, .int (Int32.ofInt a0))]) (st' := [.int (Int32.ofInt 0)]) rfl ?_
    exact lf_retZ false rfl rfl h
  · have h := h.2.2.2.2.2.2.2.2.2.2.2.2.2.2.2.2.2.1 c
    refine lf_seg 1 (pc' := 131) (lv' := [(0, .int (Int32.ofInt a0))]) (st' := [.int (Int32.ofInt 0)]) rfl ?_
    exact lf_retZ false rfl rfl h
  · have h := h.2.2.2.2.2.2.2.2.2.2.2.2.2.2.2.2.2.2.1 c
    refine lf_seg 1 (pc' := 131) (lv' := [(0, .int (Int32.ofInt a0))]) (st' := [.int (Int32.ofInt 0)]) rfl ?_
    exact lf_retZ false rfl rfl h
  · have h := h.2.2.2.2.2.2.2.2.2.2.2.2.2.2.2.2.2.2.2.1 c
    refine lf_seg 1 (pc' := 131) (lv' := [(0, .int (Int32.ofInt a0))]) (st' := [.int (Int32.ofInt 0)]) rfl ?_
    exact lf_retZ false rfl rfl h
  · have h := h.2.2.2.2.2.2.2.2.2.2.2.2.2.2.2.2.2.2.2.2.1 c
    refine lf_seg 1 (pc' := 131) (lv' := [(0, .int (Int32.ofInt a0))]) (st' := [.int (Int32.ofInt 0)]) rfl ?_
    exact lf_retZ false rfl rfl h
  · have h := h.2.2.2.2.2.2.2.2.2.2.2.2.2.2.2.2.2.2.2.2.2.1 c
    refine lf_seg 1 (pc' := 131) (lv' := [(0, .int (Int32.ofInt a0))]) (st' := [.int (Int32.ofInt 0)]) rfl ?_
    exact lf_retZ false rfl rfl h
  · have h := h.2.2.2.2.2.2.2.2.2.2.2.2.2.2.2.2.2.2.2.2.2.2.1 c
    refine lf_seg 1 (pc' := 131) (lv' := [(0, .int (Int32.ofInt a0))]) (st' := [.int (Int32.ofInt 0)]) rfl ?_
    exact lf_retZ false rfl rfl h
  · have h := h.2.2.2.2.2.2.2.2.2.2.2.2.2.2.2.2.2.2.2.2.2.2.2.1 c
    refine lf_seg 1 (pc' := 131) (lv' := [(0, .int (Int32.ofInt a0))]) (st' := [.int (Int32.ofInt 0)]) rfl ?_
    exact lf_retZ false rfl rfl h
  · have h := h.2.2.2.2.2.2.2.2.2.2.2.2.2.2.2.2.2.2.2.2.2.2.2.2.1 c
    refine lf_seg 1 (pc' := 131) (lv' := [(0, .int (Int32.ofInt a0))]) (st' := [.int (Int32.ofInt 0)]) rfl ?_
    exact lf_retZ false rfl rfl h
  · have h := h.2.2.2.2.2.2.2.2.2.2.2.2.2.2.2.2.2.2.2.2.2.2.2.2.2.1 c
    refine lf_seg 1 (pc' := 129) (lv' := [(0, .int (Int32.ofInt a0))]) (st' := [.int (Int32.ofInt 1)]) rfl ?_
    exact lf_retZ true rfl rfl h
  · have h := h.2.2.2.2.2.2.2.2.2.2.2.2.2.2.2.2.2.2.2.2.2.2.2.2.2.2.1 c
    refine lf_seg 1 (pc' := 129) (lv' := [(0, .int (Int32.ofInt a0))]) (st' := [.int (Int32.ofInt 1)]) rfl ?_
    exact lf_retZ true rfl rfl h
  · have h := h.2.2.2.2.2.2.2.2.2.2.2.2.2.2.2.2.2.2.2.2.2.2.2.2.2.2.2.1 c
    refine lf_seg 1 (pc' := 129) (lv' := [(0, .int (Int32.ofInt a0))]) (st' := [.int (Int32.ofInt 1)]) rfl ?_
    exact lf_retZ true rfl rfl h
  · have h := h.2.2.2.2.2.2.2.2.2.2.2.2.2.2.2.2.2.2.2.2.2.2.2.2.2.2.2.2 c
    refine lf_seg 1 (pc' := 129) (lv' := [(0, .int (Int32.ofInt a0))]) (st' := [.int (Int32.ofInt 1)]) rfl ?_
    exact lf_retZ true rfl rfl h
-- fm_197 Model.nextToken 95
def fm_197_p26 (X0 : lf_Z → Prop) (Q : lf_Z → Prop) (s : lf_Z) : Prop := X0 (lf_up s.1 95 7 ((s.1 95 7) + 1), s.2.1, s.2.2)
set_option maxRecDepth 100000 in
theorem gm_197_p26 {L : Nat} {xs : Nat → Int32} {d : Nat} {X0 : lf_Z → Prop} {Q : lf_Z → Prop} {s : lf_Z} (hX0 : ∀ s, X0 s → lf_E (px_ro L xs) (d + 2) 197 0 [(0, .ref 95)] [] s (lf_qv Q)) (h : fm_197_p26 X0 Q s) : lf_E (px_ro L xs) (d + 2) 197 26 [(0, .ref 95)] [] s (lf_qv Q) := by
  unfold fm_197_p26 at h
  refine lf_seg 2 (pc' := 28) (lv' := [(0, .ref 95)]) (st' := [.ref 95, .ref 95]) rfl ?_
  refine lf_getI 31 7 rfl rfl rfl rfl rfl rfl rfl ?_
  refine lf_seg 1 (pc' := 32) (lv' := [(0, .ref 95)]) (st' := [.int (Int32.ofInt 1), .int (Int32.ofInt (s.1 95 7)), .ref 95]) rfl ?_
  refine lf_iadd 33 rfl rfl ?_
  refine lf_putI 36 7 rfl rfl rfl rfl rfl rfl rfl rfl ?_
  refine lf_as (lf_up s.1 95 7 ((s.1 95 7) + 1), s.2.1, s.2.2) rfl ?_
  refine lf_seg 1 (pc' := 0) (lv' := [(0, .ref 95)]) (st' := []) rfl ?_
  refine lf_sub (l := [(0, .ref 95)]) (lf_sb1 rfl lf_sb0) ?_
  exact hX0 _ h
def fm_197_p297 (Q : lf_Z → Prop) (y1 : Int) (s : lf_Z) : Prop := Q (lf_up (lf_up s.1 95 9 y1) 95 7 ((s.1 95 7) + 1), s.2.1, s.2.2)
set_option maxRecDepth 100000 in
theorem gm_197_p297 {L : Nat} {xs : Nat → Int32} {d : Nat} {Q : lf_Z → Prop} {y1 : Int} {s : lf_Z} (h : fm_197_p297 Q y1 s) : lf_E (px_ro L xs) (d + 2) 197 297 [(0, .ref 95)] [.int (Int32.ofInt y1), .ref 95] s (lf_qv Q) := by
  unfold fm_197_p297 at h
  refine lf_putI 300 9 rfl rfl rfl rfl rfl rfl rfl rfl ?_
  refine lf_as (lf_up s.1 95 9 y1, s.2.1, s.2.2) rfl ?_
  refine lf_seg 2 (pc' := 302) (lv' := [(0, .ref 95)]) (st' := [.ref 95, .ref 95]) rfl ?_
  refine lf_getI 305 7 rfl rfl rfl rfl rfl rfl rfl ?_
  refine lf_seg 1 (pc' := 306) (lv' := [(0, .ref 95)]) (st' := [.int (Int32.ofInt 1), .int (Int32.ofInt (s.1 95 7)), .ref 95]) rfl ?_
  refine lf_iadd 307 rfl rfl ?_
  refine lf_putI 310 7 rfl rfl rfl rfl rfl rfl rfl rfl ?_
  refine lf_as (lf_up (lf_up s.1 95 9 y1) 95 7 ((s.1 95 7) + 1), s.2.1, s.2.2) rfl ?_
  exact lf_retV rfl rfl h
def fm_197_p272 (Q : lf_Z → Prop) (x1 : Int) (s : lf_Z) : Prop := fm_198 (s.1 95 7) (fun r38 s37 => (lf_R r38 ∧ ((r38 ≠ 61 → (Q s37)) ∧ (¬ (r38 ≠ 61) → (lf_R x1 ∧ ((x1 ≠ 60 → (fm_197_p297 Q 5 s37)) ∧ (¬ (x1 ≠ 60) → (fm_197_p297 Q 4 s37)))))))) s
set_option maxRecDepth 100000 in
theorem gm_197_p272 {L : Nat} {xs : Nat → Int32} {d : Nat} {Q : lf_Z → Prop} {x1 : Int} {s : lf_Z} (h : fm_197_p272 Q x1 s) : lf_E (px_ro L xs) (d + 2) 197 272 [(0, .ref 95), (1, .int (Int32.ofInt x1))] [] s (lf_qv Q) := by
  unfold fm_197_p272 at h
  refine lf_seg 2 (pc' := 274) (lv' := [(0, .ref 95), (1, .int (Int32.ofInt x1))]) (st' := [.ref 95, .ref 95]) rfl ?_
  refine lf_getI 277 7 rfl rfl rfl rfl rfl rfl rfl ?_
  refine lf_callI 280 rfl rfl rfl rfl (gm_198 h) (fun r38 s37 h => ?_)
  refine lf_bipush 282 61 rfl rfl (by decide) (by decide) ?_
  obtain ⟨o39, h⟩ := h
  refine lf_icmp_ne 310 285 rfl rfl rfl o39 ⟨by decide, by decide⟩ (fun c => ?_) (fun c => ?_)
  · have h := h.1 c
    exact lf_retV rfl rfl h
  · have h := h.2 c
    refine lf_seg 2 (pc' := 287) (lv' := [(0, .ref 95), (1, .int (Int32.ofInt x1))]) (st' := [.int (Int32.ofInt x1), .ref 95]) rfl ?_
    refine lf_bipush 289 60 rfl rfl (by decide) (by decide) ?_
    obtain ⟨o40, h⟩ := h
    refine lf_icmp_ne 296 292 rfl rfl rfl o40 ⟨by decide, by decide⟩ (fun c => ?_) (fun c => ?_)
    · have h := h.1 c
      refine lf_seg 1 (pc' := 297) (lv' := [(0, .ref 95), (1, .int (Int32.ofInt x1))]) (st' := [.int (Int32.ofInt 5), .ref 95]) rfl ?_
      refine lf_sub (l := [(0, .ref 95)]) (lf_sb1 rfl lf_sb0) ?_
      exact gm_197_p297 h
    · have h := h.2 c
      refine lf_seg 2 (pc' := 297) (lv' := [(0, .ref 95), (1, .int (Int32.ofInt x1))]) (st' := [.int (Int32.ofInt 4), .ref 95]) rfl ?_
      refine lf_sub (l := [(0, .ref 95)]) (lf_sb1 rfl lf_sb0) ?_
      exact gm_197_p297 h
def fm_197_p247 (Q : lf_Z → Prop) (x1 : Int) (y1 : Int) (s : lf_Z) : Prop := lf_R x1 ∧ ((x1 = 60 → (fm_197_p272 Q x1 (lf_up (lf_up s.1 95 9 y1) 95 7 ((s.1 95 7) + 1), s.2.1, s.2.2))) ∧ (¬ (x1 = 60) → ((x1 ≠ 62 → (Q (lf_up (lf_up s.1 95 9 y1) 95 7 ((s.1 95 7) + 1), s.2.1, s.2.2))) ∧ (¬ (x1 ≠ 62) → (fm_197_p272 Q x1 (lf_up (lf_up s.1 95 9 y1) 95 7 ((s.1 95 7) + 1), s.2.1, s.2.2))))))
set_option maxRecDepth 100000 in
theorem gm_197_p247 {L : Nat} {xs : Nat → Int32} {d : Nat} {Q : lf_Z → Prop} {x1 : Int} {y1 : Int} {s : lf_Z} (h : fm_197_p247 Q x1 y1 s) : lf_E (px_ro L xs) (d + 2) 197 247 [(0, .ref 95), (1, .int (Int32.ofInt x1))] [.int (Int32.ofInt y1), .ref 95] s (lf_qv Q) := by
  unfold fm_197_p247 at h
  refine lf_putI 250 9 rfl rfl rfl rfl rfl rfl rfl rfl ?_
  refine lf_as (lf_up s.1 95 9 y1, s.2.1, s.2.2) rfl ?_
  refine lf_seg 2 (pc' := 252) (lv' := [(0, .ref 95), (1, .int (Int32.ofInt x1))]) (st' := [.ref 95, .ref 95]) rfl ?_
  refine lf_getI 255 7 rfl rfl rfl rfl rfl rfl rfl ?_
  refine lf_seg 1 (pc' := 256) (lv' := [(0, .ref 95), (1, .int (Int32.ofInt x1))]) (st' := [.int (Int32.ofInt 1), .int (Int32.ofInt (s.1 95 7)), .ref 95]) rfl ?_
  refine lf_iadd 257 rfl rfl ?_
  refine lf_putI 260 7 rfl rfl rfl rfl rfl rfl rfl rfl ?_
  refine lf_as (lf_up (lf_up s.1 95 9 y1) 95 7 ((s.1 95 7) + 1), s.2.1, s.2.2) rfl ?_
  refine lf_seg 1 (pc' := 261) (lv' := [(0, .ref 95), (1, .int (Int32.ofInt x1))]) (st' := [.int (Int32.ofInt x1)]) rfl ?_
  refine lf_bipush 263 60 rfl rfl (by decide) (by decide) ?_
  obtain ⟨o36, h⟩ := h
  refine lf_icmp_eq 272 266 rfl rfl rfl o36 ⟨by decide, by decide⟩ (fun c => ?_) (fun c => ?_)
  · have h := h.1 c
    refine lf_sub (l := [(0, .ref 95), (1, .int (Int32.ofInt x1))]) (lf_sb1 rfl (lf_sb1 rfl lf_sb0)) ?_
    exact gm_197_p272 h
  · have h := h.2 c
    refine lf_seg 1 (pc' := 267) (lv' := [(0, .ref 95), (1, .int (Int32.ofInt x1))]) (st' := [.int (Int32.ofInt x1)]) rfl ?_
    refine lf_bipush 269 62 rfl rfl (by decide) (by decide) ?_
    refine lf_icmp_ne 310 272 rfl rfl rfl o36 ⟨by decide, by decide⟩ (fun c => ?_) (fun c => ?_)
    · have h := h.1 c
      exact lf_retV rfl rfl h
    · have h := h.2 c
      refine lf_sub (l := [(0, .ref 95), (1, .int (Int32.ofInt x1))]) (lf_sb1 rfl (lf_sb1 rfl lf_sb0)) ?_
      exact gm_197_p272 h
def fm_197_p218 (X168 : lf_Z → Prop) (Q : lf_Z → Prop) (y1 : Int) (s : lf_Z) : Prop := X168 (lf_up s.1 95 7 ((s.1 95 7) + 1), lf_up s.2.1 95 11 (lf_wl y1), s.2.2)
set_option maxRecDepth 100000 in
theorem gm_197_p218 {L : Nat} {xs : Nat → Int32} {d : Nat} {X168 : lf_Z → Prop} {Q : lf_Z → Prop} {y1 : Int} {s : lf_Z} (hX168 : ∀ s, X168 s → lf_E (px_ro L xs) (d + 2) 197 168 [(0, .ref 95)] [] s (lf_qv Q)) (h : fm_197_p218 X168 Q y1 s) : lf_E (px_ro L xs) (d + 2) 197 218 [(0, .ref 95)] [.long (Int64.ofInt y1), .ref 95] s (lf_qv Q) := by
  unfold fm_197_p218 at h
  refine lf_eqs (lv' := [(0, .ref 95)]) (st' := [.long (Int64.ofInt (lf_wl y1)), .ref 95]) rfl (by simp only [lf_wlE]) ?_
  refine lf_putJ 221 11 rfl rfl rfl rfl rfl rfl rfl rfl ?_
  refine lf_as (s.1, lf_up s.2.1 95 11 (lf_wl y1), s.2.2) rfl ?_
  refine lf_seg 2 (pc' := 223) (lv' := [(0, .ref 95)]) (st' := [.ref 95, .ref 95]) rfl ?_
  refine lf_getI 226 7 rfl rfl rfl rfl rfl rfl rfl ?_
  refine lf_seg 1 (pc' := 227) (lv' := [(0, .ref 95)]) (st' := [.int (Int32.ofInt 1), .int (Int32.ofInt (s.1 95 7)), .ref 95]) rfl ?_
  refine lf_iadd 228 rfl rfl ?_
  refine lf_putI 231 7 rfl rfl rfl rfl rfl rfl rfl rfl ?_
  refine lf_as (lf_up s.1 95 7 ((s.1 95 7) + 1), lf_up s.2.1 95 11 (lf_wl y1), s.2.2) rfl ?_
  refine lf_seg 1 (pc' := 168) (lv' := [(0, .ref 95)]) (st' := []) rfl ?_
  refine lf_sub (l := [(0, .ref 95)]) (lf_sb1 rfl lf_sb0) ?_
  exact hX168 _ h
def fm_197_p168 (Q : lf_Z → Prop) (X168 : lf_Z → Prop) (s : lf_Z) : Prop := fm_198 (s.1 95 7) (fun r42 s41 => (fm_200 r42 (fun z44 s43 => ((z44 = false → (Q s43)) ∧ (z44 = true → ((lf_lshr (lf_wl (s43.2.1 95 11)) 48 = 0 → (fm_198 (s43.1 95 7) (fun r46 s45 => (lf_R r46 ∧ (fm_197_p218 X168 Q (lf_lor (lf_lshl (lf_wl (s43.2.1 95 11)) 8) r46) s45))) s43)) ∧ (¬ (lf_lshr (lf_wl (s43.2.1 95 11)) 48 = 0) → (fm_197_p218 X168 Q 1152921504606846976 s43)))))) s41)) s
def fm_197_p168L (Q : lf_Z → Prop) (s : lf_Z) : Prop := ∀ X168 : lf_Z → Prop, (∀ (s : lf_Z), fm_197_p168 Q X168 s → X168 s) → X168 s
set_option maxRecDepth 100000 in
theorem gm_197_p168 {L : Nat} {xs : Nat → Int32} {d : Nat} {Q : lf_Z → Prop} {s : lf_Z} {X168 : lf_Z → Prop} (hX168 : ∀ s, X168 s → lf_E (px_ro L xs) (d + 2) 197 168 [(0, .ref 95)] [] s (lf_qv Q)) (h : fm_197_p168 Q X168 s) : lf_E (px_ro L xs) (d + 2) 197 168 [(0, .ref 95)] [] s (lf_qv Q) := by
  unfold fm_197_p168 at h
  refine lf_seg 2 (pc' := 170) (lv' := [(0, .ref 95)]) (st' := [.ref 95, .ref 95]) rfl ?_
  refine lf_getI 173 7 rfl rfl rfl rfl rfl rfl rfl ?_
  refine lf_callI 176 rfl rfl rfl rfl (gm_198 h) (fun r42 s41 h => ?_)
  refine lf_callZ 179 rfl rfl rfl rfl (gm_200 h) (fun z44 s43 h => ?_)
  refine lf_ifz_eq 310 182 rfl rfl rfl (fun c => ?_) (fun c => ?_)
  · have h := h.1 c
    exact lf_retV rfl rfl h
  · have h := h.2 c
    refine lf_seg 2 (pc' := 184) (lv' := [(0, .ref 95)]) (st' := [.ref 95, .ref 95]) rfl ?_
    refine lf_getJ 187 11 rfl rfl rfl rfl rfl rfl rfl ?_
    refine lf_wtL ?_
    refine lf_bipush 189 48 rfl rfl (by decide) (by decide) ?_
    refine lf_lshr' 190 rfl rfl ?_
    refine lf_lconst 191 0 rfl rfl (by decide) ?_
    refine lf_lif_eq 201 195 rfl rfl rfl rfl lf_RLlshr ⟨by decide, by decide⟩ (fun c => ?_) (fun c => ?_)
    · have h := h.1 c
      refine lf_seg 1 (pc' := 202) (lv' := [(0, .ref 95)]) (st' := [.ref 95, .ref 95]) rfl ?_
      refine lf_getJ 205 11 rfl rfl rfl rfl rfl rfl rfl ?_
      refine lf_wtL ?_
      refine lf_bipush 207 8 rfl rfl (by decide) (by decide) ?_
      refine lf_lshl' 208 rfl rfl ?_
      refine lf_seg 2 (pc' := 210) (lv' := [(0, .ref 95)]) (st' := [.ref 95, .ref 95, .long (Int64.ofInt (lf_lshl (lf_wl (s43.2.1 95 11)) 8)), .ref 95]) rfl ?_
      refine lf_getI 213 7 rfl rfl rfl rfl rfl rfl rfl ?_
      refine lf_callI 216 rfl rfl rfl rfl (gm_198 h) (fun r46 s45 h => ?_)
      obtain ⟨o47, h⟩ := h
      refine lf_i2l 217 rfl rfl o47 ?_
      refine lf_lor' 218 rfl rfl ?_
      refine lf_sub (l := [(0, .ref 95)]) (lf_sb1 rfl lf_sb0) ?_
      exact gm_197_p218 hX168 h
    · have h := h.2 c
      refine lf_ldc2 198 1152921504606846976 rfl rfl rfl (by decide) ?_
      refine lf_seg 1 (pc' := 218) (lv' := [(0, .ref 95)]) (st' := [.long (Int64.ofInt 1152921504606846976), .ref 95]) rfl ?_
      refine lf_sub (l := [(0, .ref 95)]) (lf_sb1 rfl lf_sb0) ?_
      exact gm_197_p218 hX168 h
theorem gm_197_p168L {L : Nat} {xs : Nat → Int32} {d : Nat} {Q : lf_Z → Prop} {s : lf_Z} (h : fm_197_p168L Q s) : lf_E (px_ro L xs) (d + 2) 197 168 [(0, .ref 95)] [] s (lf_qv Q) :=
  h (fun s => lf_E (px_ro L xs) (d + 2) 197 168 [(0, .ref 95)] [] s (lf_qv Q)) (fun s hb => gm_197_p168 (fun _ h => h) hb)
def fm_197_p135 (X85 : lf_Z → Prop) (Q : lf_Z → Prop) (y1 : Int) (s : lf_Z) : Prop := X85 (lf_up (lf_up s.1 95 10 y1) 95 7 ((s.1 95 7) + 1), s.2.1, s.2.2)
set_option maxRecDepth 100000 in
theorem gm_197_p135 {L : Nat} {xs : Nat → Int32} {d : Nat} {X85 : lf_Z → Prop} {Q : lf_Z → Prop} {y1 : Int} {s : lf_Z} (hX85 : ∀ s, X85 s → lf_E (px_ro L xs) (d + 2) 197 85 [(0, .ref 95)] [] s (lf_qv Q)) (h : fm_197_p135 X85 Q y1 s) : lf_E (px_ro L xs) (d + 2) 197 135 [(0, .ref 95)] [.int (Int32.ofInt y1), .ref 95] s (lf_qv Q) := by
  unfold fm_197_p135 at h
  refine lf_putI 138 10 rfl rfl rfl rfl rfl rfl rfl rfl ?_
  refine lf_as (lf_up s.1 95 10 y1, s.2.1, s.2.2) rfl ?_
  refine lf_seg 2 (pc' := 140) (lv' := [(0, .ref 95)]) (st' := [.ref 95, .ref 95]) rfl ?_
  refine lf_getI 143 7 rfl rfl rfl rfl rfl rfl rfl ?_
  refine lf_seg 1 (pc' := 144) (lv' := [(0, .ref 95)]) (st' := [.int (Int32.ofInt 1), .int (Int32.ofInt (s.1 95 7)), .ref 95]) rfl ?_
  refine lf_iadd 145 rfl rfl ?_
  refine lf_putI 148 7 rfl rfl rfl rfl rfl rfl rfl rfl ?_
  refine lf_as (lf_up (lf_up s.1 95 10 y1) 95 7 ((s.1 95 7) + 1), s.2.1, s.2.2) rfl ?_
  refine lf_seg 1 (pc' := 85) (lv' := [(0, .ref 95)]) (st' := []) rfl ?_
  refine lf_sub (l := [(0, .ref 95)]) (lf_sb1 rfl lf_sb0) ?_
  exact hX85 _ h
def fm_197_p85 (Q : lf_Z → Prop) (X85 : lf_Z → Prop) (s : lf_Z) : Prop := fm_198 (s.1 95 7) (fun r49 s48 => (fm_199 r49 (fun z51 s50 => ((z51 = false → (Q s50)) ∧ (z51 = true → (lf_R (s50.1 95 10) ∧ ((s50.1 95 10 ≤ 99999 → (fm_198 (s50.1 95 7) (fun r54 s53 => (fm_197_p135 X85 Q (lf_w ((lf_w ((lf_w (10 * (s50.1 95 10))) + r54)) - 48)) s53)) s50)) ∧ (¬ (s50.1 95 10 ≤ 99999) → (fm_197_p135 X85 Q (s50.1 95 10) s50))))))) s48)) s
def fm_197_p85L (Q : lf_Z → Prop) (s : lf_Z) : Prop := ∀ X85 : lf_Z → Prop, (∀ (s : lf_Z), fm_197_p85 Q X85 s → X85 s) → X85 s
set_option maxRecDepth 100000 in
theorem gm_197_p85 {L : Nat} {xs : Nat → Int32} {d : Nat} {Q : lf_Z → Prop} {s : lf_Z} {X85 : lf_Z → Prop} (hX85 : ∀ s, X85 s → lf_E (px_ro L xs) (d + 2) 197 85 [(0, .ref 95)] [] s (lf_qv Q)) (h : fm_197_p85 Q X85 s) : lf_E (px_ro L xs) (d + 2) 197 85 [(0, .ref 95)] [] s (lf_qv Q) := by
  unfold fm_197_p85 at h
  refine lf_seg 2 (pc' := 87) (lv' := [(0, .ref 95)]) (st' := [.ref 95, .ref 95]) rfl ?_
  refine lf_getI 90 7 rfl rfl rfl rfl rfl rfl rfl ?_
  refine lf_callI 93 rfl rfl rfl rfl (gm_198 h) (fun r49 s48 h => ?_)
  refine lf_callZ 96 rfl rfl rfl rfl (gm_199 h) (fun z51 s50 h => ?_)
  refine lf_ifz_eq 310 99 rfl rfl rfl (fun c => ?_) (fun c => ?_)
  · have h := h.1 c
    exact lf_retV rfl rfl h
  · have h := h.2 c
    refine lf_seg 2 (pc' := 101) (lv' := [(0, .ref 95)]) (st' := [.ref 95, .ref 95]) rfl ?_
    refine lf_getI 104 10 rfl rfl rfl rfl rfl rfl rfl ?_
    refine lf_ldc 106 99999 rfl rfl rfl (by decide) ?_
    obtain ⟨o52, h⟩ := h
    refine lf_icmp_le 116 109 rfl rfl rfl o52 ⟨by decide, by decide⟩ (fun c => ?_) (fun c => ?_)
    · have h := h.1 c
      refine lf_bipush 118 10 rfl rfl (by decide) (by decide) ?_
      refine lf_seg 1 (pc' := 119) (lv' := [(0, .ref 95)]) (st' := [.ref 95, .int (Int32.ofInt 10), .ref 95]) rfl ?_
      refine lf_getI 122 10 rfl rfl rfl rfl rfl rfl rfl ?_
      refine lf_imul 123 rfl rfl ?_
      refine lf_wtI ?_
      refine lf_seg 2 (pc' := 125) (lv' := [(0, .ref 95)]) (st' := [.ref 95, .ref 95, .int (Int32.ofInt (lf_w (10 * (s50.1 95 10)))), .ref 95]) rfl ?_
      refine lf_getI 128 7 rfl rfl rfl rfl rfl rfl rfl ?_
      refine lf_callI 131 rfl rfl rfl rfl (gm_198 h) (fun r54 s53 h => ?_)
      refine lf_iadd 132 rfl rfl ?_
      refine lf_wtI ?_
      refine lf_bipush 134 48 rfl rfl (by decide) (by decide) ?_
      refine lf_isub 135 rfl rfl ?_
      refine lf_wtI ?_
      refine lf_sub (l := [(0, .ref 95)]) (lf_sb1 rfl lf_sb0) ?_
      exact gm_197_p135 hX85 h
    · have h := h.2 c
      refine lf_seg 1 (pc' := 110) (lv' := [(0, .ref 95)]) (st' := [.ref 95, .ref 95]) rfl ?_
      refine lf_getI 113 10 rfl rfl rfl rfl rfl rfl rfl ?_
      refine lf_seg 1 (pc' := 135) (lv' := [(0, .ref 95)]) (st' := [.int (Int32.ofInt (s50.1 95 10)), .ref 95]) rfl ?_
      refine lf_sub (l := [(0, .ref 95)]) (lf_sb1 rfl lf_sb0) ?_
      exact gm_197_p135 hX85 h
theorem gm_197_p85L {L : Nat} {xs : Nat → Int32} {d : Nat} {Q : lf_Z → Prop} {s : lf_Z} (h : fm_197_p85L Q s) : lf_E (px_ro L xs) (d + 2) 197 85 [(0, .ref 95)] [] s (lf_qv Q) :=
  h (fun s => lf_E (px_ro L xs) (d + 2) 197 85 [(0, .ref 95)] [] s (lf_qv Q)) (fun s hb => gm_197_p85 (fun _ h => h) hb)
def fm_197_p0 (Q : lf_Z → Prop) (X0 : lf_Z → Prop) (s : lf_Z) : Prop := fm_198 (s.1 95 7) (fun r22 s21 => (lf_R r22 ∧ ((r22 = 32 → (fm_197_p26 X0 Q s21)) ∧ (¬ (r22 = 32) → (fm_198 (s21.1 95 7) (fun r25 s24 => (lf_R r25 ∧ ((r25 ≠ 10 → (fm_198 (s24.1 95 7) (fun r28 s27 => (lf_R r28 ∧ ((0 ≤ r28 → (fm_199 r28 (fun z31 s30 => ((z31 = false → (fm_200 r28 (fun z33 s32 => ((z33 = false → (fm_201 r28 (fun z35 s34 => ((z35 = false → (fm_197_p247 Q r28 3 s34)) ∧ (z35 = true → (fm_197_p247 Q r28 r28 s34)))) s32)) ∧ (z33 = true → (fm_197_p168L Q (lf_up s32.1 95 9 2, lf_up s32.2.1 95 11 0, s32.2.2))))) s30)) ∧ (z31 = true → (fm_197_p85L Q (lf_up (lf_up s30.1 95 9 1) 95 10 0, s30.2.1, s30.2.2))))) s27)) ∧ (¬ (0 ≤ r28) → (Q (lf_up s27.1 95 9 0, s27.2.1, s27.2.2)))))) (lf_up s24.1 95 8 (s24.1 95 7), s24.2.1, s24.2.2))) ∧ (¬ (r25 ≠ 10) → (fm_197_p26 X0 Q s24))))) s21))))) s
def fm_197_p0L (Q : lf_Z → Prop) (s : lf_Z) : Prop := ∀ X0 : lf_Z → Prop, (∀ (s : lf_Z), fm_197_p0 Q X0 s → X0 s) → X0 s
set_option maxRecDepth 100000 in
theorem gm_197_p0 {L : Nat} {xs : Nat → Int32} {d : Nat} {Q : lf_Z → Prop} {s : lf_Z} {X0 : lf_Z → Prop} (hX0 : ∀ s, X0 s → lf_E (px_ro L xs) (d + 2) 197 0 [(0, .ref 95)] [] s (lf_qv Q)) (h : fm_197_p0 Q X0 s) : lf_E (px_ro L xs) (d + 2) 197 0 [(0, .ref 95)] [] s (lf_qv Q) := by
  unfold fm_197_p0 at h
  refine lf_seg 2 (pc' := 2) (lv' := [(0, .ref 95)]) (st' := [.ref 95, .ref 95]) rfl ?_
  refine lf_getI 5 7 rfl rfl rfl rfl rfl rfl rfl ?_
  refine lf_callI 8 rfl rfl rfl rfl (gm_198 h) (fun r22 s21 h => ?_)
  refine lf_bipush 10 32 rfl rfl (by decide) (by decide) ?_
  obtain ⟨o23, h⟩ := h
  refine lf_icmp_eq 26 13 rfl rfl rfl o23 ⟨by decide, by decide⟩ (fun c => ?_) (fun c => ?_)
  · have h := h.1 c
    refine lf_sub (l := [(0, .ref 95)]) (lf_sb1 rfl lf_sb0) ?_
    exact gm_197_p26 hX0 h
  · have h := h.2 c
    refine lf_seg 2 (pc' := 15) (lv' := [(0, .ref 95)]) (st' := [.ref 95, .ref 95]) rfl ?_
    refine lf_getI 18 7 rfl rfl rfl rfl rfl rfl rfl ?_
    refine lf_callI 21 rfl rfl rfl rfl (gm_198 h) (fun r25 s24 h => ?_)
    refine lf_bipush 23 10 rfl rfl (by decide) (by decide) ?_
    obtain ⟨o26, h⟩ := h
    refine lf_icmp_ne 39 26 rfl rfl rfl o26 ⟨by decide, by decide⟩ (fun c => ?_) (fun c => ?_)
    · have h := h.1 c
      refine lf_seg 2 (pc' := 41) (lv' := [(0, .ref 95)]) (st' := [.ref 95, .ref 95]) rfl ?_
      refine lf_getI 44 7 rfl rfl rfl rfl rfl rfl rfl ?_
      refine lf_putI 47 8 rfl rfl rfl rfl rfl rfl rfl rfl ?_
      refine lf_as (lf_up s24.1 95 8 (s24.1 95 7), s24.2.1, s24.2.2) rfl ?_
      refine lf_seg 2 (pc' := 49) (lv' := [(0, .ref 95)]) (st' := [.ref 95, .ref 95]) rfl ?_
      refine lf_getI 52 7 rfl rfl rfl rfl rfl rfl rfl ?_
      refine lf_seg 0 (pc' := 52) (lv' := [(0, .ref 95)]) (st' := [.int (Int32.ofInt (s24.1 95 7)), .ref 95]) rfl ?_
      refine lf_callI 55 rfl rfl rfl rfl (gm_198 h) (fun r28 s27 h => ?_)
      refine lf_seg 2 (pc' := 57) (lv' := [(1, .int (Int32.ofInt r28)), (0, .ref 95)]) (st' := [.int (Int32.ofInt r28)]) rfl ?_
      obtain ⟨o29, h⟩ := h
      refine lf_if_ge 68 60 rfl rfl rfl o29 (fun c => ?_) (fun c => ?_)
      · have h := h.1 c
        refine lf_seg 1 (pc' := 69) (lv' := [(1, .int (Int32.ofInt r28)), (0, .ref 95)]) (st' := [.int (Int32.ofInt r28)]) rfl ?_
        refine lf_callZ 72 rfl rfl rfl rfl (gm_199 h) (fun z31 s30 h => ?_)
        refine lf_ifz_eq 151 75 rfl rfl rfl (fun c => ?_) (fun c => ?_)
        · have h := h.1 c
          refine lf_seg 1 (pc' := 152) (lv' := [(1, .int (Int32.ofInt r28)), (0, .ref 95)]) (st' := [.int (Int32.ofInt r28)]) rfl ?_
          refine lf_callZ 155 rfl rfl rfl rfl (gm_200 h) (fun z33 s32 h => ?_)
          refine lf_ifz_eq 234 158 rfl rfl rfl (fun c => ?_) (fun c => ?_)
          · have h := h.1 c
            refine lf_seg 2 (pc' := 236) (lv' := [(1, .int (Int32.ofInt r28)), (0, .ref 95)]) (st' := [.int (Int32.ofInt r28), .ref 95]) rfl ?_
            refine lf_callZ 239 rfl rfl rfl rfl (gm_201 h) (fun z35 s34 h => ?_)
            refine lf_ifz_eq 246 242 rfl rfl rfl (fun c => ?_) (fun c => ?_)
            · have h := h.1 c
              refine lf_seg 1 (pc' := 247) (lv' := [(1, .int (Int32.ofInt r28)), (0, .ref 95)]) (st' := [.int (Int32.ofInt 3), .ref 95]) rfl ?_
              refine lf_sub (l := [(0, .ref 95), (1, .int (Int32.ofInt r28))]) (lf_sb1 rfl (lf_sb1 rfl lf_sb0)) ?_
              exact gm_197_p247 h
            · have h := h.2 c
              refine lf_seg 2 (pc' := 247) (lv' := [(1, .int (Int32.ofInt r28)), (0, .ref 95)]) (st' := [.int (Int32.ofInt r28), .ref 95]) rfl ?_
              refine lf_sub (l := [(0, .ref 95), (1, .int (Int32.ofInt r28))]) (lf_sb1 rfl (lf_sb1 rfl lf_sb0)) ?_
              exact gm_197_p247 h
          · have h := h.2 c
            refine lf_seg 2 (pc' := 160) (lv' := [(1, .int (Int32.ofInt r28)), (0, .ref 95)]) (st' := [.int (Int32.ofInt 2), .ref 95]) rfl ?_
            refine lf_putI 163 9 rfl rfl rfl rfl rfl rfl rfl rfl ?_
            refine lf_as (lf_up s32.1 95 9 2, s32.2.1, s32.2.2) rfl ?_
            refine lf_seg 1 (pc' := 164) (lv' := [(1, .int (Int32.ofInt r28)), (0, .ref 95)]) (st' := [.ref 95]) rfl ?_
            refine lf_lconst 165 0 rfl rfl (by decide) ?_
            refine lf_putJ 168 11 rfl rfl rfl rfl rfl rfl rfl rfl ?_
            refine lf_as (lf_up s32.1 95 9 2, lf_up s32.2.1 95 11 0, s32.2.2) rfl ?_
            refine lf_sub (l := [(0, .ref 95)]) (lf_sb1 rfl lf_sb0) ?_
            exact gm_197_p168L h
        · have h := h.2 c
          refine lf_seg 2 (pc' := 77) (lv' := [(1, .int (Int32.ofInt r28)), (0, .ref 95)]) (st' := [.int (Int32.ofInt 1), .ref 95]) rfl ?_
          refine lf_putI 80 9 rfl rfl rfl rfl rfl rfl rfl rfl ?_
          refine lf_as (lf_up s30.1 95 9 1, s30.2.1, s30.2.2) rfl ?_
          refine lf_seg 2 (pc' := 82) (lv' := [(1, .int (Int32.ofInt r28)), (0, .ref 95)]) (st' := [.int (Int32.ofInt 0), .ref 95]) rfl ?_
          refine lf_putI 85 10 rfl rfl rfl rfl rfl rfl rfl rfl ?_
          refine lf_as (lf_up (lf_up s30.1 95 9 1) 95 10 0, s30.2.1, s30.2.2) rfl ?_
          refine lf_sub (l := [(0, .ref 95)]) (lf_sb1 rfl lf_sb0) ?_
          exact gm_197_p85L h
      · have h := h.2 c
        refine lf_seg 2 (pc' := 62) (lv' := [(1, .int (Int32.ofInt r28)), (0, .ref 95)]) (st' := [.int (Int32.ofInt 0), .ref 95]) rfl ?_
        refine lf_putI 65 9 rfl rfl rfl rfl rfl rfl rfl rfl ?_
        refine lf_as (lf_up s27.1 95 9 0, s27.2.1, s27.2.2) rfl ?_
        refine lf_seg 1 (pc' := 310) (lv' := [(1, .int (Int32.ofInt r28)), (0, .ref 95)]) (st' := []) rfl ?_
        exact lf_retV rfl rfl h
    · have h := h.2 c
      refine lf_sub (l := [(0, .ref 95)]) (lf_sb1 rfl lf_sb0) ?_
      exact gm_197_p26 hX0 h
theorem gm_197_p0L {L : Nat} {xs : Nat → Int32} {d : Nat} {Q : lf_Z → Prop} {s : lf_Z} (h : fm_197_p0L Q s) : lf_E (px_ro L xs) (d + 2) 197 0 [(0, .ref 95)] [] s (lf_qv Q) :=
  h (fun s => lf_E (px_ro L xs) (d + 2) 197 0 [(0, .ref 95)] [] s (lf_qv Q)) (fun s hb => gm_197_p0 (fun _ h => h) hb)
def fm_197 (Q : lf_Z → Prop) (s : lf_Z) : Prop := fm_197_p0L Q s
set_option maxRecDepth 100000 in
theorem gm_197 {L : Nat} {xs : Nat → Int32} {d : Nat} {Q : lf_Z → Prop} {s : lf_Z} (h : fm_197 Q s) : lf_M (px_ro L xs) (d + 2) 197 [.ref 95] s (lf_qv Q) := by
  unfold fm_197 at h
  show lf_E (px_ro L xs) (d + 2) 197 0 [(0, .ref 95)] [] s _
  refine lf_sub (l := [(0, .ref 95)]) (lf_sb1 rfl lf_sb0) ?_
  exact gm_197_p0L h
-- fm_206 Model.w2 i i
def fm_206 (a0 : Int) (a1 : Int) (Q : Int → lf_Z → Prop) (s : lf_Z) : Prop := lf_R a0 ∧ (lf_R a1 ∧ (Q (lf_lor (lf_lshl a0 8) a1) s))
set_option maxRecDepth 100000 in
theorem gm_206 {L : Nat} {xs : Nat → Int32} {d : Nat} {a0 : Int} {a1 : Int} {Q : Int → lf_Z → Prop} {s : lf_Z} (h : fm_206 a0 a1 Q s) : lf_M (px_ro L xs) (d + 1) 206 [.int (Int32.ofInt a0), .int (Int32.ofInt a1)] s (lf_ql Q) := by
  unfold fm_206 at h
  show lf_E (px_ro L xs) (d + 1) 206 0 [(0, .int (Int32.ofInt a0)), (1, .int (Int32.ofInt a1))] [] s _
  refine lf_seg 1 (pc' := 1) (lv' := [(0, .int (Int32.ofInt a0)), (1, .int (Int32.ofInt a1))]) (st' := [.int (Int32.ofInt a0)]) rfl ?_
  obtain ⟨o21, h⟩ := h
  refine lf_i2l 2 rfl rfl o21 ?_
  refine lf_bipush 4 8 rfl rfl (by decide) (by decide) ?_
  refine lf_lshl' 5 rfl rfl ?_
  refine lf_seg 1 (pc' := 6) (lv' := [(0, .int (Int32.ofInt a0)), (1, .int (Int32.ofInt a1))]) (st' := [.int (Int32.ofInt a1), .long (Int64.ofInt (lf_lshl a0 8))]) rfl ?_
  obtain ⟨o22, h⟩ := h
  refine lf_i2l 7 rfl rfl o22 ?_
  refine lf_lor' 8 rfl rfl ?_
  exact lf_retL rfl rfl h
-- fm_205 Model.w3 i i i
def fm_205 (a0 : Int) (a1 : Int) (a2 : Int) (Q : Int → lf_Z → Prop) (s : lf_Z) : Prop := fm_206 a0 a1 (fun r22 s21 => (lf_R a2 ∧ (Q (lf_lor (lf_lshl (lf_wl r22) 8) a2) s21))) s
set_option maxRecDepth 100000 in
theorem gm_205 {L : Nat} {xs : Nat → Int32} {d : Nat} {a0 : Int} {a1 : Int} {a2 : Int} {Q : Int → lf_Z → Prop} {s : lf_Z} (h : fm_205 a0 a1 a2 Q s) : lf_M (px_ro L xs) (d + 2) 205 [.int (Int32.ofInt a0), .int (Int32.ofInt a1), .int (Int32.ofInt a2)] s (lf_ql Q) := by
  unfold fm_205 at h
  show lf_E (px_ro L xs) (d + 2) 205 0 [(0, .int (Int32.ofInt a0)), (1, .int (Int32.ofInt a1)), (2, .int (Int32.ofInt a2))] [] s _
  refine lf_seg 2 (pc' := 2) (lv' := [(0, .int (Int32.ofInt a0)), (1, .int (Int32.ofInt a1)), (2, .int (Int32.ofInt a2))]) (st' := [.int (Int32.ofInt a1), .int (Int32.ofInt a0)]) rfl ?_
  refine lf_callL 5 rfl rfl rfl rfl (gm_206 h) (fun r22 s21 h => ?_)
  refine lf_wtL ?_
  refine lf_bipush 7 8 rfl rfl (by decide) (by decide) ?_
  refine lf_lshl' 8 rfl rfl ?_
  refine lf_seg 1 (pc' := 9) (lv' := [(0, .int (Int32.ofInt a0)), (1, .int (Int32.ofInt a1)), (2, .int (Int32.ofInt a2))]) (st' := [.int (Int32.ofInt a2), .long (Int64.ofInt (lf_lshl (lf_wl r22) 8))]) rfl ?_
  obtain ⟨o23, h⟩ := h
  refine lf_i2l 10 rfl rfl o23 ?_
  refine lf_lor' 11 rfl rfl ?_
  exact lf_retL rfl rfl h
-- fm_204 Model.w4 i i i i
def fm_204 (a0 : Int) (a1 : Int) (a2 : Int) (a3 : Int) (Q : Int → lf_Z → Prop) (s : lf_Z) : Prop := fm_205 a0 a1 a2 (fun r22 s21 => (lf_R a3 ∧ (Q (lf_lor (lf_lshl (lf_wl r22) 8) a3) s21))) s
set_option maxRecDepth 100000 in
theorem gm_204 {L : Nat} {xs : Nat → Int32} {d : Nat} {a0 : Int} {a1 : Int} {a2 : Int} {a3 : Int} {Q : Int → lf_Z → Prop} {s : lf_Z} (h : fm_204 a0 a1 a2 a3 Q s) : lf_M (px_ro L xs) (d + 3) 204 [.int (Int32.ofInt a0), .int (Int32.ofInt a1), .int (Int32.ofInt a2), .int (Int32.ofInt a3)] s (lf_ql Q) := by
  unfold fm_204 at h
  show lf_E (px_ro L xs) (d + 3) 204 0 [(0, .int (Int32.ofInt a0)), (1, .int (Int32.ofInt a1)), (2, .int (Int32.ofInt a2)), (3, .int (Int32.ofInt a3))] [] s _
  refine lf_seg 3 (pc' := 3) (lv' := [(0, .int (Int32.ofInt a0)), (1, .int (Int32.ofInt a1)), (2, .int (Int32.ofInt a2)), (3, .int (Int32.ofInt a3))]) (st' := [.int (Int32.ofInt a2), .int (Int32.ofInt a1), .int (Int32.ofInt a0)]) rfl ?_
  refine lf_callL 6 rfl rfl rfl rfl (gm_205 h) (fun r22 s21 h => ?_)
  refine lf_wtL ?_
  refine lf_bipush 8 8 rfl rfl (by decide) (by decide) ?_
  refine lf_lshl' 9 rfl rfl ?_
  refine lf_seg 1 (pc' := 10) (lv' := [(0, .int (Int32.ofInt a0)), (1, .int (Int32.ofInt a1)), (2, .int (Int32.ofInt a2)), (3, .int (Int32.ofInt a3))]) (st' := [.int (Int32.ofInt a3), .long (Int64.ofInt (lf_lshl (lf_wl r22) 8))]) rfl ?_
  obtain ⟨o23, h⟩ := h
  refine lf_i2l 11 rfl rfl o23 ?_
  refine lf_lor' 12 rfl rfl ?_
  exact lf_retL rfl rfl h
-- fm_207 Model.isWord 95 l
def fm_207 (a1 : Int) (Q : Bool → lf_Z → Prop) (s : lf_Z) : Prop := lf_R (s.1 95 9) ∧ ((s.1 95 9 ≠ 2 → (Q false s)) ∧ (¬ (s.1 95 9 ≠ 2) → ((lf_wl (s.2.1 95 11) ≠ lf_wl a1 → (Q false s)) ∧ (¬ (lf_wl (s.2.1 95 11) ≠ lf_wl a1) → (Q true s)))))
set_option maxRecDepth 100000 in
theorem gm_207 {L : Nat} {xs : Nat → Int32} {d : Nat} {a1 : Int} {Q : Bool → lf_Z → Prop} {s : lf_Z} (h : fm_207 a1 Q s) : lf_M (px_ro L xs) (d + 1) 207 [.ref 95, .long (Int64.ofInt a1)] s (lf_qz Q) := by
  unfold fm_207 at h
  show lf_E (px_ro L xs) (d + 1) 207 0 [(0, .ref 95), (1, .long (Int64.ofInt a1))] [] s _
  refine lf_eqs (lv' := [(0, .ref 95), (1, .long (Int64.ofInt (lf_wl a1)))]) (st' := []) (by simp only [lf_wlE]) rfl ?_
  refine lf_seg 1 (pc' := 1) (lv' := [(0, .ref 95), (1, .long (Int64.ofInt (lf_wl a1)))]) (st' := [.ref 95]) rfl ?_
  refine lf_getI 4 9 rfl rfl rfl rfl rfl rfl rfl ?_
  refine lf_seg 1 (pc' := 5) (lv' := [(0, .ref 95), (1, .long (Int64.ofInt (lf_wl a1)))]) (st' := [.int (Int32.ofInt 2), .int (Int32.ofInt (s.1 95 9))]) rfl ?_
  obtain ⟨o21, h⟩ := h
  refine lf_icmp_ne 21 8 rfl rfl rfl o21 ⟨by decide, by decide⟩ (fun c => ?_) (fun c => ?_)
  · have h := h.1 c
    refine lf_seg 1 (pc' := 22) (lv' := [(0, .ref 95), (1, .long (Int64.ofInt (lf_wl a1)))]) (st' := [.int (Int32.ofInt 0)]) rfl ?_
    exact lf_retZ false rfl rfl h
  · have h := h.2 c
    refine lf_seg 1 (pc' := 9) (lv' := [(0, .ref 95), (1, .long (Int64.ofInt (lf_wl a1)))]) (st' := [.ref 95]) rfl ?_
    refine lf_getJ 12 11 rfl rfl rfl rfl rfl rfl rfl ?_
    refine lf_wtL ?_
    refine lf_seg 1 (pc' := 13) (lv' := [(0, .ref 95), (1, .long (Int64.ofInt (lf_wl a1)))]) (st' := [.long (Int64.ofInt (lf_wl a1)), .long (Int64.ofInt (lf_wl (s.2.1 95 11)))]) rfl ?_
    refine lf_lif_ne 21 17 rfl rfl rfl rfl lf_RLwl lf_RLwl (fun c => ?_) (fun c => ?_)
    · have h := h.1 c
      refine lf_seg 1 (pc' := 22) (lv' := [(0, .ref 95), (1, .long (Int64.ofInt (lf_wl a1)))]) (st' := [.int (Int32.ofInt 0)]) rfl ?_
      exact lf_retZ false rfl rfl h
    · have h := h.2 c
      refine lf_seg 2 (pc' := 22) (lv' := [(0, .ref 95), (1, .long (Int64.ofInt (lf_wl a1)))]) (st' := [.int (Int32.ofInt 1)]) rfl ?_
      exact lf_retZ true rfl rfl h
