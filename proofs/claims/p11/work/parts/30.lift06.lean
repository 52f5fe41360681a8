-- fm_236 Model.fault 95 i
def fm_236 (a1 : Int) (Q : Int → lf_Z → Prop) (s : lf_Z) : Prop := lf_R a1 ∧ ((a1 ≠ 0 → ((a1 ≠ 1 → (Q (-1) s)) ∧ (¬ (a1 ≠ 1) → (Q (s.1 95 6) s)))) ∧ (¬ (a1 ≠ 0) → (Q (s.1 95 5) s)))
set_option maxRecDepth 100000 in
theorem gm_236 {L : Nat} {xs : Nat → Int32} {d : Nat} {a1 : Int} {Q : Int → lf_Z → Prop} {s : lf_Z} (h : fm_236 a1 Q s) : lf_M (px_ro L xs) (d + 1) 236 [.ref 95, .int (Int32.ofInt a1)] s (lf_qi Q) := by
  unfold fm_236 at h
  show lf_E (px_ro L xs) (d + 1) 236 0 [(0, .ref 95), (1, .int (Int32.ofInt a1))] [] s _
  refine lf_seg 1 (pc' := 1) (lv' := [(0, .ref 95), (1, .int (Int32.ofInt a1))]) (st' := [.int (Int32.ofInt a1)]) rfl ?_
  obtain ⟨o21, h⟩ := h
  refine lf_if_ne 11 4 rfl rfl rfl o21 (fun c => ?_) (fun c => ?_)
  · have h := h.1 c
    refine lf_seg 2 (pc' := 13) (lv' := [(0, .ref 95), (1, .int (Int32.ofInt a1))]) (st' := [.int (Int32.ofInt 1), .int (Int32.ofInt a1)]) rfl ?_
    refine lf_icmp_ne 23 16 rfl rfl rfl o21 ⟨by decide, by decide⟩ (fun c => ?_) (fun c => ?_)
    · have h := h.1 c
      refine lf_seg 1 (pc' := 24) (lv' := [(0, .ref 95), (1, .int (Int32.ofInt a1))]) (st' := [.int (Int32.ofInt (-1))]) rfl ?_
      exact lf_retI rfl rfl h
    · have h := h.2 c
      refine lf_seg 1 (pc' := 17) (lv' := [(0, .ref 95), (1, .int (Int32.ofInt a1))]) (st' := [.ref 95]) rfl ?_
      refine lf_getI 20 6 rfl rfl rfl rfl rfl rfl rfl ?_
      refine lf_seg 1 (pc' := 24) (lv' := [(0, .ref 95), (1, .int (Int32.ofInt a1))]) (st' := [.int (Int32.ofInt (s.1 95 6))]) rfl ?_
      exact lf_retI rfl rfl h
  · have h := h.2 c
    refine lf_seg 1 (pc' := 5) (lv' := [(0, .ref 95), (1, .int (Int32.ofInt a1))]) (st' := [.ref 95]) rfl ?_
    refine lf_getI 8 5 rfl rfl rfl rfl rfl rfl rfl ?_
    refine lf_seg 1 (pc' := 24) (lv' := [(0, .ref 95), (1, .int (Int32.ofInt a1))]) (st' := [.int (Int32.ofInt (s.1 95 5))]) rfl ?_
    exact lf_retI rfl rfl h
-- fm_62 ElevenBullocks.scriptOf 0 i
def fm_62_p28 (Q : Option Nat → lf_Z → Prop) (s : lf_Z) : Prop := Q none s
set_option maxRecDepth 100000 in
theorem gm_62_p28 {L : Nat} {xs : Nat → Int32} {d : Nat} {Q : Option Nat → lf_Z → Prop} {s : lf_Z} (h : fm_62_p28 Q s) : lf_E (px_ro L xs) (d + 2) 62 28 [] [] s (lf_qr Q) := by
  unfold fm_62_p28 at h
  refine lf_seg 1 (pc' := 29) (lv' := []) (st' := [.null]) rfl ?_
  exact lf_retRn rfl rfl h
def fm_62 (a1 : Int) (Q : Option Nat → lf_Z → Prop) (s : lf_Z) : Prop := fm_15 a1 0 ((s.1 0 11) - 1) (fun z22 s21 => ((z22 = false → (fm_62_p28 Q s21)) ∧ (z22 = true → (lf_R a1 ∧ ((4 ≤ a1 → (fm_62_p28 Q s21)) ∧ (¬ (4 ≤ a1) → ((0 ≤ a1 ∧ a1 < 4) ∧ (∀ t25 : Nat, t25 = (a1).toNat → (Q (some t25) s21))))))))) s
set_option maxRecDepth 100000 in
theorem gm_62 {L : Nat} {xs : Nat → Int32} {d : Nat} {a1 : Int} {Q : Option Nat → lf_Z → Prop} {s : lf_Z} (h : fm_62 a1 Q s) : lf_M (px_ro L xs) (d + 2) 62 [.ref 0, .int (Int32.ofInt a1)] s (lf_qr Q) := by
  unfold fm_62 at h
  show lf_E (px_ro L xs) (d + 2) 62 0 [(0, .ref 0), (1, .int (Int32.ofInt a1))] [] s _
  refine lf_seg 3 (pc' := 3) (lv' := [(0, .ref 0), (1, .int (Int32.ofInt a1))]) (st' := [.ref 0, .int (Int32.ofInt 0), .int (Int32.ofInt a1)]) rfl ?_
  refine lf_getI 6 11 rfl rfl rfl rfl rfl rfl rfl ?_
  refine lf_seg 1 (pc' := 7) (lv' := [(0, .ref 0), (1, .int (Int32.ofInt a1))]) (st' := [.int (Int32.ofInt 1), .int (Int32.ofInt (s.1 0 11)), .int (Int32.ofInt 0), .int (Int32.ofInt a1)]) rfl ?_
  refine lf_isub 8 rfl rfl ?_
  refine lf_callZ 11 rfl rfl rfl rfl (gm_15 h) (fun z22 s21 h => ?_)
  refine lf_ifz_eq 28 14 rfl rfl rfl (fun c => ?_) (fun c => ?_)
  · have h := h.1 c
    refine lf_sub (l := []) lf_sb0 ?_
    exact gm_62_p28 h
  · have h := h.2 c
    refine lf_seg 2 (pc' := 16) (lv' := [(0, .ref 0), (1, .int (Int32.ofInt a1))]) (st' := [.int (Int32.ofInt 4), .int (Int32.ofInt a1)]) rfl ?_
    obtain ⟨o23, h⟩ := h
    refine lf_icmp_ge 28 19 rfl rfl rfl o23 ⟨by decide, by decide⟩ (fun c => ?_) (fun c => ?_)
    · have h := h.1 c
      refine lf_sub (l := []) lf_sb0 ?_
      exact gm_62_p28 h
    · have h := h.2 c
      refine lf_seg 3 (pc' := 24) (lv' := [(0, .ref 0), (1, .int (Int32.ofInt a1))]) (st' := [.int (Int32.ofInt a1), .ref 34]) rfl ?_
      obtain ⟨o24, h⟩ := h
      refine lf_aald 25 rfl rfl o24 ?_
      have h := h _ rfl
      have htt25 : (a1).toNat < 4 := by have := o24; omega
      generalize (a1).toNat = t25 at h htt25 ⊢
      refine lf_seg 1 (pc' := 29) (lv' := [(0, .ref 0), (1, .int (Int32.ofInt a1))]) (st' := [.ref (35 + 7 * t25)]) rfl ?_
      exact lf_retRs rfl rfl h
-- fm_61 ElevenBullocks.rule 0 i
def fm_61 (a1 : Int) (Q : lf_Z → Prop) (s : lf_Z) : Prop := fm_62 a1 (fun r23 s21 => (r23 = none → (Q (s21.1, s21.2.1, lf_ur s21.2.2 3 none))) ∧ (∀ t22 : Nat, r23 = some t22 → t22 < 4 ∧ (Q (s21.1, s21.2.1, lf_ur s21.2.2 3 (some t22))))) (lf_up s.1 0 12 a1, s.2.1, s.2.2)
set_option maxRecDepth 100000 in
theorem gm_61 {L : Nat} {xs : Nat → Int32} {d : Nat} {a1 : Int} {Q : lf_Z → Prop} {s : lf_Z} (h : fm_61 a1 Q s) : lf_M (px_ro L xs) (d + 3) 61 [.ref 0, .int (Int32.ofInt a1)] s (lf_qv Q) := by
  unfold fm_61 at h
  show lf_E (px_ro L xs) (d + 3) 61 0 [(0, .ref 0), (1, .int (Int32.ofInt a1))] [] s _
  refine lf_seg 2 (pc' := 2) (lv' := [(0, .ref 0), (1, .int (Int32.ofInt a1))]) (st' := [.int (Int32.ofInt a1), .ref 0]) rfl ?_
  refine lf_putI 5 12 rfl rfl rfl rfl rfl rfl rfl rfl ?_
  refine lf_as (lf_up s.1 0 12 a1, s.2.1, s.2.2) rfl ?_
  refine lf_seg 4 (pc' := 11) (lv' := [(0, .ref 0), (1, .int (Int32.ofInt a1))]) (st' := [.int (Int32.ofInt a1), .ref 0, .ref 63]) rfl ?_
  refine lf_callR 14 rfl rfl rfl rfl (gm_62 h) (fun s21 h => ?_) (fun t22 s21 h => ?_)
  · have h := h.1 rfl
    refine lf_putR 17 3 none none rfl rfl rfl rfl rfl rfl rfl rfl (lf_urS (w := none) (by decide)) ?_
    refine lf_as (s21.1, s21.2.1, lf_ur s21.2.2 3 none) rfl ?_
    exact lf_retV rfl rfl h
  · obtain ⟨htt22, h⟩ := h.2 _ rfl
    refine lf_putR 17 3 (some t22) (some (35 + 7 * t22)) rfl rfl rfl rfl rfl rfl rfl rfl (lf_urS (w := some t22) (by decide)) ?_
    refine lf_as (s21.1, s21.2.1, lf_ur s21.2.2 3 (some t22)) rfl ?_
    exact lf_retV rfl rfl h
-- fm_60 ElevenBullocks.by 0 i
def fm_60 (a1 : Int) (Q : Bool → lf_Z → Prop) (s : lf_Z) : Prop := fm_15 a1 (-1) ((s.1 0 11) - 1) (fun z22 s21 => ((z22 = true → (fm_61 a1 (fun s23 => (Q true s23)) s21)) ∧ (z22 = false → (Q false s21)))) s
set_option maxRecDepth 100000 in
theorem gm_60 {L : Nat} {xs : Nat → Int32} {d : Nat} {a1 : Int} {Q : Bool → lf_Z → Prop} {s : lf_Z} (h : fm_60 a1 Q s) : lf_M (px_ro L xs) (d + 4) 60 [.ref 0, .int (Int32.ofInt a1)] s (lf_qz Q) := by
  unfold fm_60 at h
  show lf_E (px_ro L xs) (d + 4) 60 0 [(0, .ref 0), (1, .int (Int32.ofInt a1))] [] s _
  refine lf_seg 3 (pc' := 3) (lv' := [(0, .ref 0), (1, .int (Int32.ofInt a1))]) (st' := [.ref 0, .int (Int32.ofInt (-1)), .int (Int32.ofInt a1)]) rfl ?_
  refine lf_getI 6 11 rfl rfl rfl rfl rfl rfl rfl ?_
  refine lf_seg 1 (pc' := 7) (lv' := [(0, .ref 0), (1, .int (Int32.ofInt a1))]) (st' := [.int (Int32.ofInt 1), .int (Int32.ofInt (s.1 0 11)), .int (Int32.ofInt (-1)), .int (Int32.ofInt a1)]) rfl ?_
  refine lf_isub 8 rfl rfl ?_
  refine lf_callZ 11 rfl rfl rfl rfl (gm_15 h) (fun z22 s21 h => ?_)
  refine lf_ifz_ne 16 14 rfl rfl rfl (fun c => ?_) (fun c => ?_)
  · have h := h.1 c
    refine lf_seg 2 (pc' := 18) (lv' := [(0, .ref 0), (1, .int (Int32.ofInt a1))]) (st' := [.int (Int32.ofInt a1), .ref 0]) rfl ?_
    refine lf_callV 21 rfl rfl rfl rfl (gm_61 h) (fun s23 h => ?_)
    refine lf_seg 1 (pc' := 22) (lv' := [(0, .ref 0), (1, .int (Int32.ofInt a1))]) (st' := [.int (Int32.ofInt 1)]) rfl ?_
    exact lf_retZ true rfl rfl h
  · have h := h.2 c
    refine lf_seg 1 (pc' := 15) (lv' := [(0, .ref 0), (1, .int (Int32.ofInt a1))]) (st' := [.int (Int32.ofInt 0)]) rfl ?_
    exact lf_retZ false rfl rfl h
-- fm_237 Model.by 95 i
def fm_237 (a1 : Int) (Q : Bool → lf_Z → Prop) (s : lf_Z) : Prop := fm_183 a1 (-1) ((s.1 96 7) - 1) (fun z22 s21 => ((z22 = true → (Q true (lf_up s21.1 96 8 a1, s21.2.1, s21.2.2))) ∧ (z22 = false → (Q false s21)))) s
set_option maxRecDepth 100000 in
theorem gm_237 {L : Nat} {xs : Nat → Int32} {d : Nat} {a1 : Int} {Q : Bool → lf_Z → Prop} {s : lf_Z} (h : fm_237 a1 Q s) : lf_M (px_ro L xs) (d + 2) 237 [.ref 95, .int (Int32.ofInt a1)] s (lf_qz Q) := by
  unfold fm_237 at h
  show lf_E (px_ro L xs) (d + 2) 237 0 [(0, .ref 95), (1, .int (Int32.ofInt a1))] [] s _
  refine lf_seg 4 (pc' := 6) (lv' := [(0, .ref 95), (1, .int (Int32.ofInt a1))]) (st' := [.ref 96, .int (Int32.ofInt (-1)), .int (Int32.ofInt a1)]) rfl ?_
  refine lf_bipush 8 7 rfl rfl (by decide) (by decide) ?_
  refine lf_iald 9 1538 rfl rfl rfl rfl rfl rfl ⟨by decide, by decide⟩ ?_
  refine lf_seg 1 (pc' := 10) (lv' := [(0, .ref 95), (1, .int (Int32.ofInt a1))]) (st' := [.int (Int32.ofInt 1), .int (Int32.ofInt (s.1 96 7)), .int (Int32.ofInt (-1)), .int (Int32.ofInt a1)]) rfl ?_
  refine lf_isub 11 rfl rfl ?_
  refine lf_callZ 14 rfl rfl rfl rfl (gm_183 h) (fun z22 s21 h => ?_)
  refine lf_ifz_ne 19 17 rfl rfl rfl (fun c => ?_) (fun c => ?_)
  · have h := h.1 c
    refine lf_seg 2 (pc' := 23) (lv' := [(0, .ref 95), (1, .int (Int32.ofInt a1))]) (st' := [.ref 96]) rfl ?_
    refine lf_bipush 25 8 rfl rfl (by decide) (by decide) ?_
    refine lf_seg 1 (pc' := 26) (lv' := [(0, .ref 95), (1, .int (Int32.ofInt a1))]) (st' := [.int (Int32.ofInt a1), .int (Int32.ofInt 8), .ref 96]) rfl ?_
    refine lf_iast 27 1538 rfl rfl rfl rfl rfl rfl ⟨by decide, by decide⟩ ?_
    refine lf_as (lf_up s21.1 96 8 a1, s21.2.1, s21.2.2) rfl ?_
    refine lf_seg 1 (pc' := 28) (lv' := [(0, .ref 95), (1, .int (Int32.ofInt a1))]) (st' := [.int (Int32.ofInt 1)]) rfl ?_
    exact lf_retZ true rfl rfl h
  · have h := h.2 c
    refine lf_seg 1 (pc' := 18) (lv' := [(0, .ref 95), (1, .int (Int32.ofInt a1))]) (st' := [.int (Int32.ofInt 0)]) rfl ?_
    exact lf_retZ false rfl rfl h
-- fm_65 Stand.sum 16
def fm_65_p10 (Q : Int → lf_Z → Prop) (x3 : Int) (X10 : Int → Int → lf_Z → Prop) (x1 : Int) (x4 : Int) (s : lf_Z) : Prop := lf_R x4 ∧ (lf_R x3 ∧ ((x3 ≤ x4 → (Q x1 s)) ∧ (¬ (x3 ≤ x4) → ((0 ≤ x4 ∧ x4 < 4) ∧ (X10 (lf_w (x1 + (s.1 16 x4))) (x4 + 1) s)))))
def fm_65_p10L (Q : Int → lf_Z → Prop) (x1 : Int) (x3 : Int) (x4 : Int) (s : lf_Z) : Prop := ∀ X10 : Int → Int → lf_Z → Prop, (∀ (x1 : Int) (x4 : Int) (s : lf_Z), fm_65_p10 Q x3 X10 x1 x4 s → X10 x1 x4 s) → X10 x1 x4 s
set_option maxRecDepth 100000 in
theorem gm_65_p10 {L : Nat} {xs : Nat → Int32} {d : Nat} {Q : Int → lf_Z → Prop} {x1 : Int} {x3 : Int} {x4 : Int} {s : lf_Z} {X10 : Int → Int → lf_Z → Prop} (hX10 : ∀ x1 x4 s, X10 x1 x4 s → lf_E (px_ro L xs) (d + 1) 65 10 [(1, .int (Int32.ofInt x1)), (2, .ref 16), (3, .int (Int32.ofInt x3)), (4, .int (Int32.ofInt x4))] [] s (lf_qi Q)) (h : fm_65_p10 Q x3 X10 x1 x4 s) : lf_E (px_ro L xs) (d + 1) 65 10 [(1, .int (Int32.ofInt x1)), (2, .ref 16), (3, .int (Int32.ofInt x3)), (4, .int (Int32.ofInt x4))] [] s (lf_qi Q) := by
  unfold fm_65_p10 at h
  refine lf_seg 2 (pc' := 13) (lv' := [(1, .int (Int32.ofInt x1)), (2, .ref 16), (3, .int (Int32.ofInt x3)), (4, .int (Int32.ofInt x4))]) (st' := [.int (Int32.ofInt x3), .int (Int32.ofInt x4)]) rfl ?_
  obtain ⟨o21, h⟩ := h
  obtain ⟨o22, h⟩ := h
  refine lf_icmp_ge 33 16 rfl rfl rfl o21 o22 (fun c => ?_) (fun c => ?_)
  · have h := h.1 c
    refine lf_seg 1 (pc' := 34) (lv' := [(1, .int (Int32.ofInt x1)), (2, .ref 16), (3, .int (Int32.ofInt x3)), (4, .int (Int32.ofInt x4))]) (st' := [.int (Int32.ofInt x1)]) rfl ?_
    exact lf_retI rfl rfl h
  · have h := h.2 c
    refine lf_seg 2 (pc' := 19) (lv' := [(1, .int (Int32.ofInt x1)), (2, .ref 16), (3, .int (Int32.ofInt x3)), (4, .int (Int32.ofInt x4))]) (st' := [.int (Int32.ofInt x4), .ref 16]) rfl ?_
    obtain ⟨o23, h⟩ := h
    refine lf_iald 20 4 rfl rfl rfl rfl rfl rfl o23 ?_
    refine lf_seg 3 (pc' := 25) (lv' := [(5, .int (Int32.ofInt (s.1 16 x4))), (1, .int (Int32.ofInt x1)), (2, .ref 16), (3, .int (Int32.ofInt x3)), (4, .int (Int32.ofInt x4))]) (st' := [.int (Int32.ofInt (s.1 16 x4)), .int (Int32.ofInt x1)]) rfl ?_
    refine lf_iadd 26 rfl rfl ?_
    refine lf_wtI ?_
    refine lf_seg 1 (pc' := 27) (lv' := [(1, .int (Int32.ofInt (lf_w (x1 + (s.1 16 x4))))), (5, .int (Int32.ofInt (s.1 16 x4))), (2, .ref 16), (3, .int (Int32.ofInt x3)), (4, .int (Int32.ofInt x4))]) (st' := []) rfl ?_
    refine lf_iinc 30 rfl rfl rfl rfl ?_
    refine lf_seg 1 (pc' := 10) (lv' := [(4, .int (Int32.ofInt (x4 + 1))), (1, .int (Int32.ofInt (lf_w (x1 + (s.1 16 x4))))), (5, .int (Int32.ofInt (s.1 16 x4))), (2, .ref 16), (3, .int (Int32.ofInt x3))]) (st' := []) rfl ?_
    refine lf_sub (l := [(1, .int (Int32.ofInt (lf_w (x1 + (s.1 16 x4))))), (2, .ref 16), (3, .int (Int32.ofInt x3)), (4, .int (Int32.ofInt (x4 + 1)))]) (lf_sb1 rfl (lf_sb1 rfl (lf_sb1 rfl (lf_sb1 rfl lf_sb0)))) ?_
    exact hX10 _ _ _ h
theorem gm_65_p10L {L : Nat} {xs : Nat → Int32} {d : Nat} {Q : Int → lf_Z → Prop} {x1 : Int} {x3 : Int} {x4 : Int} {s : lf_Z} (h : fm_65_p10L Q x1 x3 x4 s) : lf_E (px_ro L xs) (d + 1) 65 10 [(1, .int (Int32.ofInt x1)), (2, .ref 16), (3, .int (Int32.ofInt x3)), (4, .int (Int32.ofInt x4))] [] s (lf_qi Q) :=
  h (fun x1 x4 s => lf_E (px_ro L xs) (d + 1) 65 10 [(1, .int (Int32.ofInt x1)), (2, .ref 16), (3, .int (Int32.ofInt x3)), (4, .int (Int32.ofInt x4))] [] s (lf_qi Q)) (fun x1 x4 s hb => gm_65_p10 (fun _ _ _ h => h) hb)
def fm_65 (Q : Int → lf_Z → Prop) (s : lf_Z) : Prop := fm_65_p10L Q 0 4 0 s
set_option maxRecDepth 100000 in
theorem gm_65 {L : Nat} {xs : Nat → Int32} {d : Nat} {Q : Int → lf_Z → Prop} {s : lf_Z} (h : fm_65 Q s) : lf_M (px_ro L xs) (d + 1) 65 [.ref 16] s (lf_qi Q) := by
  unfold fm_65 at h
  show lf_E (px_ro L xs) (d + 1) 65 0 [(0, .ref 16)] [] s _
  refine lf_seg 5 (pc' := 5) (lv' := [(2, .ref 16), (1, .int (Int32.ofInt 0)), (0, .ref 16)]) (st' := [.ref 16]) rfl ?_
  refine lf_len 6 4 rfl rfl rfl rfl rfl rfl ?_
  refine lf_seg 3 (pc' := 10) (lv' := [(4, .int (Int32.ofInt 0)), (3, .int (Int32.ofInt 4)), (2, .ref 16), (1, .int (Int32.ofInt 0)), (0, .ref 16)]) (st' := []) rfl ?_
  refine lf_sub (l := [(1, .int (Int32.ofInt 0)), (2, .ref 16), (3, .int (Int32.ofInt 4)), (4, .int (Int32.ofInt 0))]) (lf_sb1 rfl (lf_sb1 rfl (lf_sb1 rfl (lf_sb1 rfl lf_sb0)))) ?_
  exact gm_65_p10L h
-- fm_64 Stand.beasts 15
def fm_64 (Q : Int → lf_Z → Prop) (s : lf_Z) : Prop := fm_65 (fun r22 s21 => (Q r22 s21)) s
set_option maxRecDepth 100000 in
theorem gm_64 {L : Nat} {xs : Nat → Int32} {d : Nat} {Q : Int → lf_Z → Prop} {s : lf_Z} (h : fm_64 Q s) : lf_M (px_ro L xs) (d + 2) 64 [.ref 15] s (lf_qi Q) := by
  unfold fm_64 at h
  show lf_E (px_ro L xs) (d + 2) 64 0 [(0, .ref 15)] [] s _
  refine lf_seg 2 (pc' := 4) (lv' := [(0, .ref 15)]) (st' := [.ref 16]) rfl ?_
  refine lf_callI 7 rfl rfl rfl rfl (gm_65 h) (fun r22 s21 h => ?_)
  exact lf_retI rfl rfl h
-- fm_66 Stand.freeBunch 15
def fm_66_p2 (Q : Int → lf_Z → Prop) (X2 : Int → lf_Z → Prop) (x1 : Int) (s : lf_Z) : Prop := lf_R x1 ∧ ((4 ≤ x1 → (Q (-1) s)) ∧ (¬ (4 ≤ x1) → ((0 ≤ x1 ∧ x1 < 4) ∧ (lf_R (s.1 16 x1) ∧ ((s.1 16 x1 ≠ 0 → (X2 (x1 + 1) s)) ∧ (¬ (s.1 16 x1 ≠ 0) → (Q x1 s)))))))
def fm_66_p2L (Q : Int → lf_Z → Prop) (x1 : Int) (s : lf_Z) : Prop := ∀ X2 : Int → lf_Z → Prop, (∀ (x1 : Int) (s : lf_Z), fm_66_p2 Q X2 x1 s → X2 x1 s) → X2 x1 s
set_option maxRecDepth 100000 in
theorem gm_66_p2 {L : Nat} {xs : Nat → Int32} {d : Nat} {Q : Int → lf_Z → Prop} {x1 : Int} {s : lf_Z} {X2 : Int → lf_Z → Prop} (hX2 : ∀ x1 s, X2 x1 s → lf_E (px_ro L xs) (d + 1) 66 2 [(0, .ref 15), (1, .int (Int32.ofInt x1))] [] s (lf_qi Q)) (h : fm_66_p2 Q X2 x1 s) : lf_E (px_ro L xs) (d + 1) 66 2 [(0, .ref 15), (1, .int (Int32.ofInt x1))] [] s (lf_qi Q) := by
  unfold fm_66_p2 at h
  refine lf_seg 2 (pc' := 4) (lv' := [(0, .ref 15), (1, .int (Int32.ofInt x1))]) (st' := [.int (Int32.ofInt 4), .int (Int32.ofInt x1)]) rfl ?_
  obtain ⟨o21, h⟩ := h
  refine lf_icmp_ge 24 7 rfl rfl rfl o21 ⟨by decide, by decide⟩ (fun c => ?_) (fun c => ?_)
  · have h := h.1 c
    refine lf_seg 1 (pc' := 25) (lv' := [(0, .ref 15), (1, .int (Int32.ofInt x1))]) (st' := [.int (Int32.ofInt (-1))]) rfl ?_
    exact lf_retI rfl rfl h
  · have h := h.2 c
    refine lf_seg 3 (pc' := 12) (lv' := [(0, .ref 15), (1, .int (Int32.ofInt x1))]) (st' := [.int (Int32.ofInt x1), .ref 16]) rfl ?_
    obtain ⟨o22, h⟩ := h
    refine lf_iald 13 4 rfl rfl rfl rfl rfl rfl o22 ?_
    obtain ⟨o23, h⟩ := h
    refine lf_if_ne 18 16 rfl rfl rfl o23 (fun c => ?_) (fun c => ?_)
    · have h := h.1 c
      refine lf_iinc 21 rfl rfl rfl rfl ?_
      refine lf_seg 1 (pc' := 2) (lv' := [(1, .int (Int32.ofInt (x1 + 1))), (0, .ref 15)]) (st' := []) rfl ?_
      refine lf_sub (l := [(0, .ref 15), (1, .int (Int32.ofInt (x1 + 1)))]) (lf_sb1 rfl (lf_sb1 rfl lf_sb0)) ?_
      exact hX2 _ _ h
    · have h := h.2 c
      refine lf_seg 1 (pc' := 17) (lv' := [(0, .ref 15), (1, .int (Int32.ofInt x1))]) (st' := [.int (Int32.ofInt x1)]) rfl ?_
      exact lf_retI rfl rfl h
theorem gm_66_p2L {L : Nat} {xs : Nat → Int32} {d : Nat} {Q : Int → lf_Z → Prop} {x1 : Int} {s : lf_Z} (h : fm_66_p2L Q x1 s) : lf_E (px_ro L xs) (d + 1) 66 2 [(0, .ref 15), (1, .int (Int32.ofInt x1))] [] s (lf_qi Q) :=
  h (fun x1 s => lf_E (px_ro L xs) (d + 1) 66 2 [(0, .ref 15), (1, .int (Int32.ofInt x1))] [] s (lf_qi Q)) (fun x1 s hb => gm_66_p2 (fun _ _ h => h) hb)
def fm_66 (Q : Int → lf_Z → Prop) (s : lf_Z) : Prop := fm_66_p2L Q 0 s
set_option maxRecDepth 100000 in
theorem gm_66 {L : Nat} {xs : Nat → Int32} {d : Nat} {Q : Int → lf_Z → Prop} {s : lf_Z} (h : fm_66 Q s) : lf_M (px_ro L xs) (d + 1) 66 [.ref 15] s (lf_qi Q) := by
  unfold fm_66 at h
  show lf_E (px_ro L xs) (d + 1) 66 0 [(0, .ref 15)] [] s _
  refine lf_seg 2 (pc' := 2) (lv' := [(1, .int (Int32.ofInt 0)), (0, .ref 15)]) (st' := []) rfl ?_
  refine lf_sub (l := [(0, .ref 15), (1, .int (Int32.ofInt 0))]) (lf_sb1 rfl (lf_sb1 rfl lf_sb0)) ?_
  exact gm_66_p2L h
-- fm_68 Stand.writeTo 15 23 i
def fm_68_p57 (Q : lf_Z → Prop) (X57 : Int → Int → lf_Z → Prop) (x3 : Int) (x4 : Int) (s : lf_Z) : Prop := lf_R x4 ∧ ((6 ≤ x4 → (((0 : Int) ≤ 0 ∧ (0 : Int) ≤ x3 ∧ (0 : Int) ≤ 12 ∧ (0 : Int) + 12 ≤ 12 ∧ (x3 : Int) + 12 ≤ 1170) ∧ ((0 ≤ x3 + 12 ∧ x3 + 12 < 1170) ∧ ((0 ≤ (x3 + 12) + 1 ∧ (x3 + 12) + 1 < 1170) ∧ ((0 ≤ (x3 + 12) + 2 ∧ (x3 + 12) + 2 < 1170) ∧ (Q (lf_up (lf_up (lf_up (lf_cp s.1 21 23 0 x3 12) 23 (x3 + 12) ((lf_cp s.1 21 23 0 x3 12) 15 6)) 23 ((x3 + 12) + 1) ((lf_cp s.1 21 23 0 x3 12) 15 7)) 23 ((x3 + 12) + 2) ((lf_cp s.1 21 23 0 x3 12) 15 8), s.2.1, s.2.2))))))) ∧ (¬ (6 ≤ x4) → ((0 ≤ x4 ∧ x4 < 6) ∧ ((0 ≤ x3 ∧ x3 < 1170) ∧ ((0 ≤ x3 + 1 ∧ x3 + 1 < 1170) ∧ (X57 (x3 + 2) (x4 + 1) (lf_up (lf_up s.1 23 x3 (s.1 19 x4)) 23 (x3 + 1) (s.1 20 x4), s.2.1, s.2.2)))))))
def fm_68_p57L (Q : lf_Z → Prop) (x3 : Int) (x4 : Int) (s : lf_Z) : Prop := ∀ X57 : Int → Int → lf_Z → Prop, (∀ (x3 : Int) (x4 : Int) (s : lf_Z), fm_68_p57 Q X57 x3 x4 s → X57 x3 x4 s) → X57 x3 x4 s
set_option maxRecDepth 100000 in
theorem gm_68_p57 {L : Nat} {xs : Nat → Int32} {d : Nat} {Q : lf_Z → Prop} {x3 : Int} {x4 : Int} {s : lf_Z} {X57 : Int → Int → lf_Z → Prop} (hX57 : ∀ x3 x4 s, X57 x3 x4 s → lf_E (px_ro L xs) (d + 1) 68 57 [(0, .ref 15), (1, .ref 23), (3, .int (Int32.ofInt x3)), (4, .int (Int32.ofInt x4))] [] s (lf_qv Q)) (h : fm_68_p57 Q X57 x3 x4 s) : lf_E (px_ro L xs) (d + 1) 68 57 [(0, .ref 15), (1, .ref 23), (3, .int (Int32.ofInt x3)), (4, .int (Int32.ofInt x4))] [] s (lf_qv Q) := by
  unfold fm_68_p57 at h
  refine lf_seg 1 (pc' := 59) (lv' := [(0, .ref 15), (1, .ref 23), (3, .int (Int32.ofInt x3)), (4, .int (Int32.ofInt x4))]) (st' := [.int (Int32.ofInt x4)]) rfl ?_
  refine lf_bipush 61 6 rfl rfl (by decide) (by decide) ?_
  obtain ⟨o22, h⟩ := h
  refine lf_icmp_ge 95 64 rfl rfl rfl o22 ⟨by decide, by decide⟩ (fun c => ?_) (fun c => ?_)
  · have h := h.1 c
    refine lf_seg 5 (pc' := 102) (lv' := [(0, .ref 15), (1, .ref 23), (3, .int (Int32.ofInt x3)), (4, .int (Int32.ofInt x4))]) (st' := [.int (Int32.ofInt x3), .ref 23, .int (Int32.ofInt 0), .ref 21]) rfl ?_
    refine lf_bipush 104 12 rfl rfl (by decide) (by decide) ?_
    obtain ⟨o23, h⟩ := h
    refine lf_cpy 107 rfl rfl rfl rfl rfl rfl rfl rfl rfl rfl rfl rfl o23 ?_
    refine lf_as (lf_cp s.1 21 23 0 x3 12, s.2.1, s.2.2) rfl ?_
    refine lf_iinc 110 rfl rfl rfl rfl ?_
    refine lf_seg 3 (pc' := 113) (lv' := [(3, .int (Int32.ofInt (x3 + 12))), (0, .ref 15), (1, .ref 23), (4, .int (Int32.ofInt x4))]) (st' := [.ref 15, .int (Int32.ofInt (x3 + 12)), .ref 23]) rfl ?_
    refine lf_getI 116 6 rfl rfl rfl rfl rfl rfl rfl ?_
    obtain ⟨o24, h⟩ := h
    refine lf_iast 117 1170 rfl rfl rfl rfl rfl rfl o24 ?_
    refine lf_as (lf_up (lf_cp s.1 21 23 0 x3 12) 23 (x3 + 12) ((lf_cp s.1 21 23 0 x3 12) 15 6), s.2.1, s.2.2) rfl ?_
    refine lf_seg 3 (pc' := 120) (lv' := [(3, .int (Int32.ofInt (x3 + 12))), (0, .ref 15), (1, .ref 23), (4, .int (Int32.ofInt x4))]) (st' := [.int (Int32.ofInt 1), .int (Int32.ofInt (x3 + 12)), .ref 23]) rfl ?_
    refine lf_iadd 121 rfl rfl ?_
    refine lf_seg 1 (pc' := 122) (lv' := [(3, .int (Int32.ofInt (x3 + 12))), (0, .ref 15), (1, .ref 23), (4, .int (Int32.ofInt x4))]) (st' := [.ref 15, .int (Int32.ofInt ((x3 + 12) + 1)), .ref 23]) rfl ?_
    refine lf_getI 125 7 rfl rfl rfl rfl rfl rfl rfl ?_
    refine lf_seg 0 (pc' := 125) (lv' := [(3, .int (Int32.ofInt (x3 + 12))), (0, .ref 15), (1, .ref 23), (4, .int (Int32.ofInt x4))]) (st' := [.int (Int32.ofInt ((lf_cp s.1 21 23 0 x3 12) 15 7)), .int (Int32.ofInt ((x3 + 12) + 1)), .ref 23]) rfl ?_
    obtain ⟨o25, h⟩ := h
    refine lf_iast 126 1170 rfl rfl rfl rfl rfl rfl o25 ?_
    refine lf_as (lf_up (lf_up (lf_cp s.1 21 23 0 x3 12) 23 (x3 + 12) ((lf_cp s.1 21 23 0 x3 12) 15 6)) 23 ((x3 + 12) + 1) ((lf_cp s.1 21 23 0 x3 12) 15 7), s.2.1, s.2.2) rfl ?_
    refine lf_seg 3 (pc' := 129) (lv' := [(3, .int (Int32.ofInt (x3 + 12))), (0, .ref 15), (1, .ref 23), (4, .int (Int32.ofInt x4))]) (st' := [.int (Int32.ofInt 2), .int (Int32.ofInt (x3 + 12)), .ref 23]) rfl ?_
    refine lf_iadd 130 rfl rfl ?_
    refine lf_seg 1 (pc' := 131) (lv' := [(3, .int (Int32.ofInt (x3 + 12))), (0, .ref 15), (1, .ref 23), (4, .int (Int32.ofInt x4))]) (st' := [.ref 15, .int (Int32.ofInt ((x3 + 12) + 2)), .ref 23]) rfl ?_
    refine lf_getI 134 8 rfl rfl rfl rfl rfl rfl rfl ?_
    refine lf_seg 0 (pc' := 134) (lv' := [(3, .int (Int32.ofInt (x3 + 12))), (0, .ref 15), (1, .ref 23), (4, .int (Int32.ofInt x4))]) (st' := [.int (Int32.ofInt ((lf_cp s.1 21 23 0 x3 12) 15 8)), .int (Int32.ofInt ((x3 + 12) + 2)), .ref 23]) rfl ?_
    obtain ⟨o26, h⟩ := h
    refine lf_iast 135 1170 rfl rfl rfl rfl rfl rfl o26 ?_
    refine lf_as (lf_up (lf_up (lf_up (lf_cp s.1 21 23 0 x3 12) 23 (x3 + 12) ((lf_cp s.1 21 23 0 x3 12) 15 6)) 23 ((x3 + 12) + 1) ((lf_cp s.1 21 23 0 x3 12) 15 7)) 23 ((x3 + 12) + 2) ((lf_cp s.1 21 23 0 x3 12) 15 8), s.2.1, s.2.2) rfl ?_
    exact lf_retV rfl rfl h
  · have h := h.2 c
    refine lf_seg 5 (pc' := 72) (lv' := [(0, .ref 15), (1, .ref 23), (3, .int (Int32.ofInt x3)), (4, .int (Int32.ofInt x4))]) (st' := [.int (Int32.ofInt x4), .ref 19, .int (Int32.ofInt x3), .ref 23]) rfl ?_
    obtain ⟨o27, h⟩ := h
    refine lf_iald 73 6 rfl rfl rfl rfl rfl rfl o27 ?_
    obtain ⟨o28, h⟩ := h
    refine lf_iast 74 1170 rfl rfl rfl rfl rfl rfl o28 ?_
    refine lf_as (lf_up s.1 23 x3 (s.1 19 x4), s.2.1, s.2.2) rfl ?_
    refine lf_seg 3 (pc' := 77) (lv' := [(0, .ref 15), (1, .ref 23), (3, .int (Int32.ofInt x3)), (4, .int (Int32.ofInt x4))]) (st' := [.int (Int32.ofInt 1), .int (Int32.ofInt x3), .ref 23]) rfl ?_
    refine lf_iadd 78 rfl rfl ?_
    refine lf_seg 3 (pc' := 84) (lv' := [(0, .ref 15), (1, .ref 23), (3, .int (Int32.ofInt x3)), (4, .int (Int32.ofInt x4))]) (st' := [.int (Int32.ofInt x4), .ref 20, .int (Int32.ofInt (x3 + 1)), .ref 23]) rfl ?_
    refine lf_iald 85 6 rfl rfl rfl rfl rfl rfl o27 ?_
    refine lf_seg 0 (pc' := 85) (lv' := [(0, .ref 15), (1, .ref 23), (3, .int (Int32.ofInt x3)), (4, .int (Int32.ofInt x4))]) (st' := [.int (Int32.ofInt (s.1 20 x4)), .int (Int32.ofInt (x3 + 1)), .ref 23]) rfl ?_
    obtain ⟨o29, h⟩ := h
    refine lf_iast 86 1170 rfl rfl rfl rfl rfl rfl o29 ?_
    refine lf_as (lf_up (lf_up s.1 23 x3 (s.1 19 x4)) 23 (x3 + 1) (s.1 20 x4), s.2.1, s.2.2) rfl ?_
    refine lf_iinc 89 rfl rfl rfl rfl ?_
    refine lf_seg 0 (pc' := 89) (lv' := [(4, .int (Int32.ofInt (x4 + 1))), (0, .ref 15), (1, .ref 23), (3, .int (Int32.ofInt x3))]) (st' := []) rfl ?_
    refine lf_iinc 92 rfl rfl rfl rfl ?_
    refine lf_seg 1 (pc' := 57) (lv' := [(3, .int (Int32.ofInt (x3 + 2))), (4, .int (Int32.ofInt (x4 + 1))), (0, .ref 15), (1, .ref 23)]) (st' := []) rfl ?_
    refine lf_sub (l := [(0, .ref 15), (1, .ref 23), (3, .int (Int32.ofInt (x3 + 2))), (4, .int (Int32.ofInt (x4 + 1)))]) (lf_sb1 rfl (lf_sb1 rfl (lf_sb1 rfl (lf_sb1 rfl lf_sb0)))) ?_
    exact hX57 _ _ _ h
theorem gm_68_p57L {L : Nat} {xs : Nat → Int32} {d : Nat} {Q : lf_Z → Prop} {x3 : Int} {x4 : Int} {s : lf_Z} (h : fm_68_p57L Q x3 x4 s) : lf_E (px_ro L xs) (d + 1) 68 57 [(0, .ref 15), (1, .ref 23), (3, .int (Int32.ofInt x3)), (4, .int (Int32.ofInt x4))] [] s (lf_qv Q) :=
  h (fun x3 x4 s => lf_E (px_ro L xs) (d + 1) 68 57 [(0, .ref 15), (1, .ref 23), (3, .int (Int32.ofInt x3)), (4, .int (Int32.ofInt x4))] [] s (lf_qv Q)) (fun x3 x4 s hb => gm_68_p57 (fun _ _ _ h => h) hb)
def fm_68_p5 (Q : lf_Z → Prop) (X5 : Int → Int → lf_Z → Prop) (x3 : Int) (x4 : Int) (s : lf_Z) : Prop := lf_R x4 ∧ ((4 ≤ x4 → (fm_68_p57L Q x3 0 s)) ∧ (¬ (4 ≤ x4) → ((0 ≤ x4 ∧ x4 < 4) ∧ ((0 ≤ x3 ∧ x3 < 1170) ∧ ((0 ≤ x3 + 1 ∧ x3 + 1 < 1170) ∧ ((0 ≤ x3 + 2 ∧ x3 + 2 < 1170) ∧ (X5 (x3 + 3) (x4 + 1) (lf_up (lf_up (lf_up s.1 23 x3 (s.1 16 x4)) 23 (x3 + 1) (s.1 17 x4)) 23 (x3 + 2) (s.1 18 x4), s.2.1, s.2.2))))))))
def fm_68_p5L (Q : lf_Z → Prop) (x3 : Int) (x4 : Int) (s : lf_Z) : Prop := ∀ X5 : Int → Int → lf_Z → Prop, (∀ (x3 : Int) (x4 : Int) (s : lf_Z), fm_68_p5 Q X5 x3 x4 s → X5 x3 x4 s) → X5 x3 x4 s
set_option maxRecDepth 100000 in
theorem gm_68_p5 {L : Nat} {xs : Nat → Int32} {d : Nat} {Q : lf_Z → Prop} {x3 : Int} {x4 : Int} {s : lf_Z} {X5 : Int → Int → lf_Z → Prop} (hX5 : ∀ x3 x4 s, X5 x3 x4 s → lf_E (px_ro L xs) (d + 1) 68 5 [(0, .ref 15), (1, .ref 23), (3, .int (Int32.ofInt x3)), (4, .int (Int32.ofInt x4))] [] s (lf_qv Q)) (h : fm_68_p5 Q X5 x3 x4 s) : lf_E (px_ro L xs) (d + 1) 68 5 [(0, .ref 15), (1, .ref 23), (3, .int (Int32.ofInt x3)), (4, .int (Int32.ofInt x4))] [] s (lf_qv Q) := by
  unfold fm_68_p5 at h
  refine lf_seg 2 (pc' := 8) (lv' := [(0, .ref 15), (1, .ref 23), (3, .int (Int32.ofInt x3)), (4, .int (Int32.ofInt x4))]) (st' := [.int (Int32.ofInt 4), .int (Int32.ofInt x4)]) rfl ?_
  obtain ⟨o21, h⟩ := h
  refine lf_icmp_ge 54 11 rfl rfl rfl o21 ⟨by decide, by decide⟩ (fun c => ?_) (fun c => ?_)
  · have h := h.1 c
    refine lf_seg 2 (pc' := 57) (lv' := [(4, .int (Int32.ofInt 0)), (0, .ref 15), (1, .ref 23), (3, .int (Int32.ofInt x3))]) (st' := []) rfl ?_
    refine lf_sub (l := [(0, .ref 15), (1, .ref 23), (3, .int (Int32.ofInt x3)), (4, .int (Int32.ofInt 0))]) (lf_sb1 rfl (lf_sb1 rfl (lf_sb1 rfl (lf_sb1 rfl lf_sb0)))) ?_
    exact gm_68_p57L h
  · have h := h.2 c
    refine lf_seg 5 (pc' := 19) (lv' := [(0, .ref 15), (1, .ref 23), (3, .int (Int32.ofInt x3)), (4, .int (Int32.ofInt x4))]) (st' := [.int (Int32.ofInt x4), .ref 16, .int (Int32.ofInt x3), .ref 23]) rfl ?_
    obtain ⟨o30, h⟩ := h
    refine lf_iald 20 4 rfl rfl rfl rfl rfl rfl o30 ?_
    obtain ⟨o31, h⟩ := h
    refine lf_iast 21 1170 rfl rfl rfl rfl rfl rfl o31 ?_
    refine lf_as (lf_up s.1 23 x3 (s.1 16 x4), s.2.1, s.2.2) rfl ?_
    refine lf_seg 3 (pc' := 24) (lv' := [(0, .ref 15), (1, .ref 23), (3, .int (Int32.ofInt x3)), (4, .int (Int32.ofInt x4))]) (st' := [.int (Int32.ofInt 1), .int (Int32.ofInt x3), .ref 23]) rfl ?_
    refine lf_iadd 25 rfl rfl ?_
    refine lf_seg 3 (pc' := 31) (lv' := [(0, .ref 15), (1, .ref 23), (3, .int (Int32.ofInt x3)), (4, .int (Int32.ofInt x4))]) (st' := [.int (Int32.ofInt x4), .ref 17, .int (Int32.ofInt (x3 + 1)), .ref 23]) rfl ?_
    refine lf_iald 32 4 rfl rfl rfl rfl rfl rfl o30 ?_
    refine lf_seg 0 (pc' := 32) (lv' := [(0, .ref 15), (1, .ref 23), (3, .int (Int32.ofInt x3)), (4, .int (Int32.ofInt x4))]) (st' := [.int (Int32.ofInt (s.1 17 x4)), .int (Int32.ofInt (x3 + 1)), .ref 23]) rfl ?_
    obtain ⟨o32, h⟩ := h
    refine lf_iast 33 1170 rfl rfl rfl rfl rfl rfl o32 ?_
    refine lf_as (lf_up (lf_up s.1 23 x3 (s.1 16 x4)) 23 (x3 + 1) (s.1 17 x4), s.2.1, s.2.2) rfl ?_
    refine lf_seg 3 (pc' := 36) (lv' := [(0, .ref 15), (1, .ref 23), (3, .int (Int32.ofInt x3)), (4, .int (Int32.ofInt x4))]) (st' := [.int (Int32.ofInt 2), .int (Int32.ofInt x3), .ref 23]) rfl ?_
    refine lf_iadd 37 rfl rfl ?_
    refine lf_seg 3 (pc' := 43) (lv' := [(0, .ref 15), (1, .ref 23), (3, .int (Int32.ofInt x3)), (4, .int (Int32.ofInt x4))]) (st' := [.int (Int32.ofInt x4), .ref 18, .int (Int32.ofInt (x3 + 2)), .ref 23]) rfl ?_
    refine lf_iald 44 4 rfl rfl rfl rfl rfl rfl o30 ?_
    refine lf_seg 0 (pc' := 44) (lv' := [(0, .ref 15), (1, .ref 23), (3, .int (Int32.ofInt x3)), (4, .int (Int32.ofInt x4))]) (st' := [.int (Int32.ofInt (s.1 18 x4)), .int (Int32.ofInt (x3 + 2)), .ref 23]) rfl ?_
    obtain ⟨o33, h⟩ := h
    refine lf_iast 45 1170 rfl rfl rfl rfl rfl rfl o33 ?_
    refine lf_as (lf_up (lf_up (lf_up s.1 23 x3 (s.1 16 x4)) 23 (x3 + 1) (s.1 17 x4)) 23 (x3 + 2) (s.1 18 x4), s.2.1, s.2.2) rfl ?_
    refine lf_iinc 48 rfl rfl rfl rfl ?_
    refine lf_seg 0 (pc' := 48) (lv' := [(4, .int (Int32.ofInt (x4 + 1))), (0, .ref 15), (1, .ref 23), (3, .int (Int32.ofInt x3))]) (st' := []) rfl ?_
    refine lf_iinc 51 rfl rfl rfl rfl ?_
    refine lf_seg 1 (pc' := 5) (lv' := [(3, .int (Int32.ofInt (x3 + 3))), (4, .int (Int32.ofInt (x4 + 1))), (0, .ref 15), (1, .ref 23)]) (st' := []) rfl ?_
    refine lf_sub (l := [(0, .ref 15), (1, .ref 23), (3, .int (Int32.ofInt (x3 + 3))), (4, .int (Int32.ofInt (x4 + 1)))]) (lf_sb1 rfl (lf_sb1 rfl (lf_sb1 rfl (lf_sb1 rfl lf_sb0)))) ?_
    exact hX5 _ _ _ h
theorem gm_68_p5L {L : Nat} {xs : Nat → Int32} {d : Nat} {Q : lf_Z → Prop} {x3 : Int} {x4 : Int} {s : lf_Z} (h : fm_68_p5L Q x3 x4 s) : lf_E (px_ro L xs) (d + 1) 68 5 [(0, .ref 15), (1, .ref 23), (3, .int (Int32.ofInt x3)), (4, .int (Int32.ofInt x4))] [] s (lf_qv Q) :=
  h (fun x3 x4 s => lf_E (px_ro L xs) (d + 1) 68 5 [(0, .ref 15), (1, .ref 23), (3, .int (Int32.ofInt x3)), (4, .int (Int32.ofInt x4))] [] s (lf_qv Q)) (fun x3 x4 s hb => gm_68_p5 (fun _ _ _ h => h) hb)
def fm_68 (a2 : Int) (Q : lf_Z → Prop) (s : lf_Z) : Prop := fm_68_p5L Q a2 0 s
set_option maxRecDepth 100000 in
theorem gm_68 {L : Nat} {xs : Nat → Int32} {d : Nat} {a2 : Int} {Q : lf_Z → Prop} {s : lf_Z} (h : fm_68 a2 Q s) : lf_M (px_ro L xs) (d + 1) 68 [.ref 15, .ref 23, .int (Int32.ofInt a2)] s (lf_qv Q) := by
  unfold fm_68 at h
  show lf_E (px_ro L xs) (d + 1) 68 0 [(0, .ref 15), (1, .ref 23), (2, .int (Int32.ofInt a2))] [] s _
  refine lf_seg 4 (pc' := 5) (lv' := [(4, .int (Int32.ofInt 0)), (3, .int (Int32.ofInt a2)), (0, .ref 15), (1, .ref 23), (2, .int (Int32.ofInt a2))]) (st' := []) rfl ?_
  refine lf_sub (l := [(0, .ref 15), (1, .ref 23), (3, .int (Int32.ofInt a2)), (4, .int (Int32.ofInt 0))]) (lf_sb1 rfl (lf_sb1 rfl (lf_sb1 rfl (lf_sb1 rfl lf_sb0)))) ?_
  exact gm_68_p5L h
-- fm_67 Steps.keep 22 15 i
def fm_67 (a2 : Int) (Q : lf_Z → Prop) (s : lf_Z) : Prop := lf_R ((s.1 22 2) + 1) ∧ (lf_R ((s.1 22 3) + 1) ∧ (fm_68 ((((s.1 22 2) + 1).tmod 30) * 39) (fun s23 => ((0 ≤ s23.1 22 2 ∧ s23.1 22 2 < 30) ∧ (Q (lf_up s23.1 24 (s23.1 22 2) a2, s23.2.1, s23.2.2)))) (lf_up (lf_up s.1 22 2 (((s.1 22 2) + 1).tmod 30)) 22 3 (min 30 ((s.1 22 3) + 1)), s.2.1, s.2.2)))
set_option maxRecDepth 100000 in
theorem gm_67 {L : Nat} {xs : Nat → Int32} {d : Nat} {a2 : Int} {Q : lf_Z → Prop} {s : lf_Z} (h : fm_67 a2 Q s) : lf_M (px_ro L xs) (d + 2) 67 [.ref 22, .ref 15, .int (Int32.ofInt a2)] s (lf_qv Q) := by
  unfold fm_67 at h
  show lf_E (px_ro L xs) (d + 2) 67 0 [(0, .ref 22), (1, .ref 15), (2, .int (Int32.ofInt a2))] [] s _
  refine lf_seg 2 (pc' := 2) (lv' := [(0, .ref 22), (1, .ref 15), (2, .int (Int32.ofInt a2))]) (st' := [.ref 22, .ref 22]) rfl ?_
  refine lf_getI 5 2 rfl rfl rfl rfl rfl rfl rfl ?_
  refine lf_seg 1 (pc' := 6) (lv' := [(0, .ref 22), (1, .ref 15), (2, .int (Int32.ofInt a2))]) (st' := [.int (Int32.ofInt 1), .int (Int32.ofInt (s.1 22 2)), .ref 22]) rfl ?_
  refine lf_iadd 7 rfl rfl ?_
  refine lf_bipush 9 30 rfl rfl (by decide) (by decide) ?_
  obtain ⟨o21, h⟩ := h
  refine lf_irem 10 rfl rfl o21 ⟨by decide, by decide⟩ (by decide) ?_
  refine lf_putI 13 2 rfl rfl rfl rfl rfl rfl rfl rfl ?_
  refine lf_as (lf_up s.1 22 2 (((s.1 22 2) + 1).tmod 30), s.2.1, s.2.2) rfl ?_
  refine lf_seg 1 (pc' := 14) (lv' := [(0, .ref 22), (1, .ref 15), (2, .int (Int32.ofInt a2))]) (st' := [.ref 22]) rfl ?_
  refine lf_bipush 16 30 rfl rfl (by decide) (by decide) ?_
  refine lf_seg 1 (pc' := 17) (lv' := [(0, .ref 22), (1, .ref 15), (2, .int (Int32.ofInt a2))]) (st' := [.ref 22, .int (Int32.ofInt 30), .ref 22]) rfl ?_
  refine lf_getI 20 3 rfl rfl rfl rfl rfl rfl rfl ?_
  refine lf_seg 1 (pc' := 21) (lv' := [(0, .ref 22), (1, .ref 15), (2, .int (Int32.ofInt a2))]) (st' := [.int (Int32.ofInt 1), .int (Int32.ofInt (s.1 22 3)), .int (Int32.ofInt 30), .ref 22]) rfl ?_
  refine lf_iadd 22 rfl rfl ?_
  obtain ⟨o22, h⟩ := h
  refine lf_imin 25 rfl rfl rfl rfl ⟨by decide, by decide⟩ o22 ?_
  refine lf_putI 28 3 rfl rfl rfl rfl rfl rfl rfl rfl ?_
  refine lf_as (lf_up (lf_up s.1 22 2 (((s.1 22 2) + 1).tmod 30)) 22 3 (min 30 ((s.1 22 3) + 1)), s.2.1, s.2.2) rfl ?_
  refine lf_seg 4 (pc' := 34) (lv' := [(0, .ref 22), (1, .ref 15), (2, .int (Int32.ofInt a2))]) (st' := [.ref 22, .ref 23, .ref 15]) rfl ?_
  refine lf_getI 37 2 rfl rfl rfl rfl rfl rfl rfl ?_
  refine lf_seg 0 (pc' := 37) (lv' := [(0, .ref 22), (1, .ref 15), (2, .int (Int32.ofInt a2))]) (st' := [.int (Int32.ofInt (((s.1 22 2) + 1).tmod 30)), .ref 23, .ref 15]) rfl ?_
  refine lf_bipush 39 39 rfl rfl (by decide) (by decide) ?_
  refine lf_imul 40 rfl rfl ?_
  refine lf_callV 43 rfl rfl rfl rfl (gm_68 h) (fun s23 h => ?_)
  refine lf_seg 3 (pc' := 48) (lv' := [(0, .ref 22), (1, .ref 15), (2, .int (Int32.ofInt a2))]) (st' := [.ref 22, .ref 24]) rfl ?_
  refine lf_getI 51 2 rfl rfl rfl rfl rfl rfl rfl ?_
  refine lf_seg 1 (pc' := 52) (lv' := [(0, .ref 22), (1, .ref 15), (2, .int (Int32.ofInt a2))]) (st' := [.int (Int32.ofInt a2), .int (Int32.ofInt (s23.1 22 2)), .ref 24]) rfl ?_
  obtain ⟨o24, h⟩ := h
  refine lf_iast 53 30 rfl rfl rfl rfl rfl rfl o24 ?_
  refine lf_as (lf_up s23.1 24 (s23.1 22 2) a2, s23.2.1, s23.2.2) rfl ?_
  exact lf_retV rfl rfl h
-- fm_69 Stand.put 15 i i i i
def fm_69 (a1 : Int) (a2 : Int) (a3 : Int) (a4 : Int) (Q : lf_Z → Prop) (s : lf_Z) : Prop := (0 ≤ a1 ∧ a1 < 4) ∧ (Q (lf_up (lf_up (lf_up s.1 16 a1 a2) 17 a1 a3) 18 a1 a4, s.2.1, s.2.2))
set_option maxRecDepth 100000 in
theorem gm_69 {L : Nat} {xs : Nat → Int32} {d : Nat} {a1 : Int} {a2 : Int} {a3 : Int} {a4 : Int} {Q : lf_Z → Prop} {s : lf_Z} (h : fm_69 a1 a2 a3 a4 Q s) : lf_M (px_ro L xs) (d + 1) 69 [.ref 15, .int (Int32.ofInt a1), .int (Int32.ofInt a2), .int (Int32.ofInt a3), .int (Int32.ofInt a4)] s (lf_qv Q) := by
  unfold fm_69 at h
  show lf_E (px_ro L xs) (d + 1) 69 0 [(0, .ref 15), (1, .int (Int32.ofInt a1)), (2, .int (Int32.ofInt a2)), (3, .int (Int32.ofInt a3)), (4, .int (Int32.ofInt a4))] [] s _
  refine lf_seg 4 (pc' := 6) (lv' := [(0, .ref 15), (1, .int (Int32.ofInt a1)), (2, .int (Int32.ofInt a2)), (3, .int (Int32.ofInt a3)), (4, .int (Int32.ofInt a4))]) (st' := [.int (Int32.ofInt a2), .int (Int32.ofInt a1), .ref 16]) rfl ?_
  obtain ⟨o21, h⟩ := h
  refine lf_iast 7 4 rfl rfl rfl rfl rfl rfl o21 ?_
  refine lf_as (lf_up s.1 16 a1 a2, s.2.1, s.2.2) rfl ?_
  refine lf_seg 4 (pc' := 13) (lv' := [(0, .ref 15), (1, .int (Int32.ofInt a1)), (2, .int (Int32.ofInt a2)), (3, .int (Int32.ofInt a3)), (4, .int (Int32.ofInt a4))]) (st' := [.int (Int32.ofInt a3), .int (Int32.ofInt a1), .ref 17]) rfl ?_
  refine lf_iast 14 4 rfl rfl rfl rfl rfl rfl o21 ?_
  refine lf_as (lf_up (lf_up s.1 16 a1 a2) 17 a1 a3, s.2.1, s.2.2) rfl ?_
  refine lf_seg 4 (pc' := 21) (lv' := [(0, .ref 15), (1, .int (Int32.ofInt a1)), (2, .int (Int32.ofInt a2)), (3, .int (Int32.ofInt a3)), (4, .int (Int32.ofInt a4))]) (st' := [.int (Int32.ofInt a4), .int (Int32.ofInt a1), .ref 18]) rfl ?_
  refine lf_iast 22 4 rfl rfl rfl rfl rfl rfl o21 ?_
  refine lf_as (lf_up (lf_up (lf_up s.1 16 a1 a2) 17 a1 a3) 18 a1 a4, s.2.1, s.2.2) rfl ?_
  exact lf_retV rfl rfl h
-- fm_63 ElevenBullocks.stray 0 i i
def fm_63 (a1 : Int) (a2 : Int) (Q : Int → lf_Z → Prop) (s : lf_Z) : Prop := fm_64 (fun r22 s21 => (fm_15 a1 1 (lf_w (24 - r22)) (fun z24 s23 => ((z24 = false → (Q (-1) s23)) ∧ (z24 = true → (fm_18 a2 (fun z26 s25 => ((z26 = true → (fm_66 (fun r28 s27 => (lf_R r28 ∧ ((r28 = (-1) → (Q r28 s27)) ∧ (¬ (r28 = (-1)) → (fm_67 (s27.1 1 2) (fun s30 => (fm_69 r28 a1 a2 (-1) (fun s31 => (Q r28 s31)) s30)) s27))))) s25)) ∧ (z26 = false → (Q (-1) s25)))) s23)))) s21)) s
set_option maxRecDepth 100000 in
theorem gm_63 {L : Nat} {xs : Nat → Int32} {d : Nat} {a1 : Int} {a2 : Int} {Q : Int → lf_Z → Prop} {s : lf_Z} (h : fm_63 a1 a2 Q s) : lf_M (px_ro L xs) (d + 3) 63 [.ref 0, .int (Int32.ofInt a1), .int (Int32.ofInt a2)] s (lf_qi Q) := by
  unfold fm_63 at h
  show lf_E (px_ro L xs) (d + 3) 63 0 [(0, .ref 0), (1, .int (Int32.ofInt a1)), (2, .int (Int32.ofInt a2))] [] s _
  refine lf_seg 2 (pc' := 2) (lv' := [(0, .ref 0), (1, .int (Int32.ofInt a1)), (2, .int (Int32.ofInt a2))]) (st' := [.int (Int32.ofInt 1), .int (Int32.ofInt a1)]) rfl ?_
  refine lf_bipush 4 24 rfl rfl (by decide) (by decide) ?_
  refine lf_seg 2 (pc' := 8) (lv' := [(0, .ref 0), (1, .int (Int32.ofInt a1)), (2, .int (Int32.ofInt a2))]) (st' := [.ref 15, .int (Int32.ofInt 24), .int (Int32.ofInt 1), .int (Int32.ofInt a1)]) rfl ?_
  refine lf_callI 11 rfl rfl rfl rfl (gm_64 h) (fun r22 s21 h => ?_)
  refine lf_isub 12 rfl rfl ?_
  refine lf_wtI ?_
  refine lf_callZ 15 rfl rfl rfl rfl (gm_15 h) (fun z24 s23 h => ?_)
  refine lf_ifz_eq 29 18 rfl rfl rfl (fun c => ?_) (fun c => ?_)
  · have h := h.1 c
    refine lf_seg 1 (pc' := 30) (lv' := [(0, .ref 0), (1, .int (Int32.ofInt a1)), (2, .int (Int32.ofInt a2))]) (st' := [.int (Int32.ofInt (-1))]) rfl ?_
    exact lf_retI rfl rfl h
  · have h := h.2 c
    refine lf_seg 3 (pc' := 23) (lv' := [(0, .ref 0), (1, .int (Int32.ofInt a1)), (2, .int (Int32.ofInt a2))]) (st' := [.int (Int32.ofInt a2), .ref 1]) rfl ?_
    refine lf_callZ 26 rfl rfl rfl rfl (gm_18 h) (fun z26 s25 h => ?_)
    refine lf_ifz_ne 31 29 rfl rfl rfl (fun c => ?_) (fun c => ?_)
    · have h := h.1 c
      refine lf_seg 2 (pc' := 35) (lv' := [(0, .ref 0), (1, .int (Int32.ofInt a1)), (2, .int (Int32.ofInt a2))]) (st' := [.ref 15]) rfl ?_
      refine lf_callI 38 rfl rfl rfl rfl (gm_66 h) (fun r28 s27 h => ?_)
      refine lf_seg 3 (pc' := 41) (lv' := [(3, .int (Int32.ofInt r28)), (0, .ref 0), (1, .int (Int32.ofInt a1)), (2, .int (Int32.ofInt a2))]) (st' := [.int (Int32.ofInt (-1)), .int (Int32.ofInt r28)]) rfl ?_
      obtain ⟨o29, h⟩ := h
      refine lf_icmp_eq 73 44 rfl rfl rfl o29 ⟨by decide, by decide⟩ (fun c => ?_) (fun c => ?_)
      · have h := h.1 c
        refine lf_seg 1 (pc' := 74) (lv' := [(3, .int (Int32.ofInt r28)), (0, .ref 0), (1, .int (Int32.ofInt a1)), (2, .int (Int32.ofInt a2))]) (st' := [.int (Int32.ofInt r28)]) rfl ?_
        exact lf_retI rfl rfl h
      · have h := h.2 c
        refine lf_seg 6 (pc' := 56) (lv' := [(3, .int (Int32.ofInt r28)), (0, .ref 0), (1, .int (Int32.ofInt a1)), (2, .int (Int32.ofInt a2))]) (st' := [.ref 1, .ref 15, .ref 22]) rfl ?_
        refine lf_getI 59 2 rfl rfl rfl rfl rfl rfl rfl ?_
        refine lf_callV 62 rfl rfl rfl rfl (gm_67 h) (fun s30 h => ?_)
        refine lf_seg 6 (pc' := 70) (lv' := [(3, .int (Int32.ofInt r28)), (0, .ref 0), (1, .int (Int32.ofInt a1)), (2, .int (Int32.ofInt a2))]) (st' := [.int (Int32.ofInt (-1)), .int (Int32.ofInt a2), .int (Int32.ofInt a1), .int (Int32.ofInt r28), .ref 15]) rfl ?_
        refine lf_callV 73 rfl rfl rfl rfl (gm_69 h) (fun s31 h => ?_)
        refine lf_seg 1 (pc' := 74) (lv' := [(3, .int (Int32.ofInt r28)), (0, .ref 0), (1, .int (Int32.ofInt a1)), (2, .int (Int32.ofInt a2))]) (st' := [.int (Int32.ofInt r28)]) rfl ?_
        exact lf_retI rfl rfl h
    · have h := h.2 c
      refine lf_seg 1 (pc' := 30) (lv' := [(0, .ref 0), (1, .int (Int32.ofInt a1)), (2, .int (Int32.ofInt a2))]) (st' := [.int (Int32.ofInt (-1))]) rfl ?_
      exact lf_retI rfl rfl h
-- fm_242 Model.sizeOf 95 i
def fm_242 (a1 : Int) (Q : Int → lf_Z → Prop) (s : lf_Z) : Prop := (0 ≤ 114 + (3 * a1) ∧ 114 + (3 * a1) < 1538) ∧ (Q (s.1 96 (114 + (3 * a1))) s)
set_option maxRecDepth 100000 in
theorem gm_242 {L : Nat} {xs : Nat → Int32} {d : Nat} {a1 : Int} {Q : Int → lf_Z → Prop} {s : lf_Z} (h : fm_242 a1 Q s) : lf_M (px_ro L xs) (d + 1) 242 [.ref 95, .int (Int32.ofInt a1)] s (lf_qi Q) := by
  unfold fm_242 at h
  show lf_E (px_ro L xs) (d + 1) 242 0 [(0, .ref 95), (1, .int (Int32.ofInt a1))] [] s _
  refine lf_seg 2 (pc' := 4) (lv' := [(0, .ref 95), (1, .int (Int32.ofInt a1))]) (st' := [.ref 96]) rfl ?_
  refine lf_bipush 6 114 rfl rfl (by decide) (by decide) ?_
  refine lf_seg 2 (pc' := 8) (lv' := [(0, .ref 95), (1, .int (Int32.ofInt a1))]) (st' := [.int (Int32.ofInt a1), .int (Int32.ofInt 3), .int (Int32.ofInt 114), .ref 96]) rfl ?_
  refine lf_imul 9 rfl rfl ?_
  refine lf_iadd 10 rfl rfl ?_
  obtain ⟨o21, h⟩ := h
  refine lf_iald 11 1538 rfl rfl rfl rfl rfl rfl o21 ?_
  exact lf_retI rfl rfl h
-- fm_241 Model.freeBunch 95
def fm_241_p2 (Q : Int → lf_Z → Prop) (X2 : Int → lf_Z → Prop) (x1 : Int) (s : lf_Z) : Prop := lf_R x1 ∧ ((4 ≤ x1 → (Q (-1) s)) ∧ (¬ (4 ≤ x1) → (fm_242 x1 (fun r23 s22 => (lf_R r23 ∧ ((r23 ≠ 0 → (X2 (x1 + 1) s22)) ∧ (¬ (r23 ≠ 0) → (Q x1 s22))))) s)))
def fm_241_p2L (Q : Int → lf_Z → Prop) (x1 : Int) (s : lf_Z) : Prop := ∀ X2 : Int → lf_Z → Prop, (∀ (x1 : Int) (s : lf_Z), fm_241_p2 Q X2 x1 s → X2 x1 s) → X2 x1 s
set_option maxRecDepth 100000 in
theorem gm_241_p2 {L : Nat} {xs : Nat → Int32} {d : Nat} {Q : Int → lf_Z → Prop} {x1 : Int} {s : lf_Z} {X2 : Int → lf_Z → Prop} (hX2 : ∀ x1 s, X2 x1 s → lf_E (px_ro L xs) (d + 2) 241 2 [(0, .ref 95), (1, .int (Int32.ofInt x1))] [] s (lf_qi Q)) (h : fm_241_p2 Q X2 x1 s) : lf_E (px_ro L xs) (d + 2) 241 2 [(0, .ref 95), (1, .int (Int32.ofInt x1))] [] s (lf_qi Q) := by
  unfold fm_241_p2 at h
  refine lf_seg 2 (pc' := 4) (lv' := [(0, .ref 95), (1, .int (Int32.ofInt x1))]) (st' := [.int (Int32.ofInt 4), .int (Int32.ofInt x1)]) rfl ?_
  obtain ⟨o21, h⟩ := h
  refine lf_icmp_ge 23 7 rfl rfl rfl o21 ⟨by decide, by decide⟩ (fun c => ?_) (fun c => ?_)
  · have h := h.1 c
    refine lf_seg 1 (pc' := 24) (lv' := [(0, .ref 95), (1, .int (Int32.ofInt x1))]) (st' := [.int (Int32.ofInt (-1))]) rfl ?_
    exact lf_retI rfl rfl h
  · have h := h.2 c
    refine lf_seg 2 (pc' := 9) (lv' := [(0, .ref 95), (1, .int (Int32.ofInt x1))]) (st' := [.int (Int32.ofInt x1), .ref 95]) rfl ?_
    refine lf_callI 12 rfl rfl rfl rfl (gm_242 h) (fun r23 s22 h => ?_)
    obtain ⟨o24, h⟩ := h
    refine lf_if_ne 17 15 rfl rfl rfl o24 (fun c => ?_) (fun c => ?_)
    · have h := h.1 c
      refine lf_iinc 20 rfl rfl rfl rfl ?_
      refine lf_seg 1 (pc' := 2) (lv' := [(1, .int (Int32.ofInt (x1 + 1))), (0, .ref 95)]) (st' := []) rfl ?_
      refine lf_sub (l := [(0, .ref 95), (1, .int (Int32.ofInt (x1 + 1)))]) (lf_sb1 rfl (lf_sb1 rfl lf_sb0)) ?_
      exact hX2 _ _ h
    · have h := h.2 c
      refine lf_seg 1 (pc' := 16) (lv' := [(0, .ref 95), (1, .int (Int32.ofInt x1))]) (st' := [.int (Int32.ofInt x1)]) rfl ?_
      exact lf_retI rfl rfl h
theorem gm_241_p2L {L : Nat} {xs : Nat → Int32} {d : Nat} {Q : Int → lf_Z → Prop} {x1 : Int} {s : lf_Z} (h : fm_241_p2L Q x1 s) : lf_E (px_ro L xs) (d + 2) 241 2 [(0, .ref 95), (1, .int (Int32.ofInt x1))] [] s (lf_qi Q) :=
  h (fun x1 s => lf_E (px_ro L xs) (d + 2) 241 2 [(0, .ref 95), (1, .int (Int32.ofInt x1))] [] s (lf_qi Q)) (fun x1 s hb => gm_241_p2 (fun _ _ h => h) hb)
def fm_241 (Q : Int → lf_Z → Prop) (s : lf_Z) : Prop := fm_241_p2L Q 0 s
set_option maxRecDepth 100000 in
theorem gm_241 {L : Nat} {xs : Nat → Int32} {d : Nat} {Q : Int → lf_Z → Prop} {s : lf_Z} (h : fm_241 Q s) : lf_M (px_ro L xs) (d + 2) 241 [.ref 95] s (lf_qi Q) := by
  unfold fm_241 at h
  show lf_E (px_ro L xs) (d + 2) 241 0 [(0, .ref 95)] [] s _
  refine lf_seg 2 (pc' := 2) (lv' := [(1, .int (Int32.ofInt 0)), (0, .ref 95)]) (st' := []) rfl ?_
  refine lf_sub (l := [(0, .ref 95), (1, .int (Int32.ofInt 0))]) (lf_sb1 rfl (lf_sb1 rfl lf_sb0)) ?_
  exact gm_241_p2L h
-- fm_243 Model.beasts 95
def fm_243_p4 (Q : Int → lf_Z → Prop) (X4 : Int → Int → lf_Z → Prop) (x1 : Int) (x2 : Int) (s : lf_Z) : Prop := lf_R x2 ∧ ((4 ≤ x2 → (Q x1 s)) ∧ (¬ (4 ≤ x2) → (fm_242 x2 (fun r23 s22 => (X4 (x1 + r23) (x2 + 1) s22)) s)))
def fm_243_p4L (Q : Int → lf_Z → Prop) (x1 : Int) (x2 : Int) (s : lf_Z) : Prop := ∀ X4 : Int → Int → lf_Z → Prop, (∀ (x1 : Int) (x2 : Int) (s : lf_Z), fm_243_p4 Q X4 x1 x2 s → X4 x1 x2 s) → X4 x1 x2 s
set_option maxRecDepth 100000 in
theorem gm_243_p4 {L : Nat} {xs : Nat → Int32} {d : Nat} {Q : Int → lf_Z → Prop} {x1 : Int} {x2 : Int} {s : lf_Z} {X4 : Int → Int → lf_Z → Prop} (hX4 : ∀ x1 x2 s, X4 x1 x2 s → lf_E (px_ro L xs) (d + 2) 243 4 [(0, .ref 95), (1, .int (Int32.ofInt x1)), (2, .int (Int32.ofInt x2))] [] s (lf_qi Q)) (h : fm_243_p4 Q X4 x1 x2 s) : lf_E (px_ro L xs) (d + 2) 243 4 [(0, .ref 95), (1, .int (Int32.ofInt x1)), (2, .int (Int32.ofInt x2))] [] s (lf_qi Q) := by
  unfold fm_243_p4 at h
  refine lf_seg 2 (pc' := 6) (lv' := [(0, .ref 95), (1, .int (Int32.ofInt x1)), (2, .int (Int32.ofInt x2))]) (st' := [.int (Int32.ofInt 4), .int (Int32.ofInt x2)]) rfl ?_
  obtain ⟨o21, h⟩ := h
  refine lf_icmp_ge 23 9 rfl rfl rfl o21 ⟨by decide, by decide⟩ (fun c => ?_) (fun c => ?_)
  · have h := h.1 c
    refine lf_seg 1 (pc' := 24) (lv' := [(0, .ref 95), (1, .int (Int32.ofInt x1)), (2, .int (Int32.ofInt x2))]) (st' := [.int (Int32.ofInt x1)]) rfl ?_
    exact lf_retI rfl rfl h
  · have h := h.2 c
    refine lf_seg 3 (pc' := 12) (lv' := [(0, .ref 95), (1, .int (Int32.ofInt x1)), (2, .int (Int32.ofInt x2))]) (st' := [.int (Int32.ofInt x2), .ref 95, .int (Int32.ofInt x1)]) rfl ?_
    refine lf_callI 15 rfl rfl rfl rfl (gm_242 h) (fun r23 s22 h => ?_)
    refine lf_iadd 16 rfl rfl ?_
    refine lf_seg 1 (pc' := 17) (lv' := [(1, .int (Int32.ofInt (x1 + r23))), (0, .ref 95), (2, .int (Int32.ofInt x2))]) (st' := []) rfl ?_
    refine lf_iinc 20 rfl rfl rfl rfl ?_
    refine lf_seg 1 (pc' := 4) (lv' := [(2, .int (Int32.ofInt (x2 + 1))), (1, .int (Int32.ofInt (x1 + r23))), (0, .ref 95)]) (st' := []) rfl ?_
    refine lf_sub (l := [(0, .ref 95), (1, .int (Int32.ofInt (x1 + r23))), (2, .int (Int32.ofInt (x2 + 1)))]) (lf_sb1 rfl (lf_sb1 rfl (lf_sb1 rfl lf_sb0))) ?_
    exact hX4 _ _ _ h
theorem gm_243_p4L {L : Nat} {xs : Nat → Int32} {d : Nat} {Q : Int → lf_Z → Prop} {x1 : Int} {x2 : Int} {s : lf_Z} (h : fm_243_p4L Q x1 x2 s) : lf_E (px_ro L xs) (d + 2) 243 4 [(0, .ref 95), (1, .int (Int32.ofInt x1)), (2, .int (Int32.ofInt x2))] [] s (lf_qi Q) :=
  h (fun x1 x2 s => lf_E (px_ro L xs) (d + 2) 243 4 [(0, .ref 95), (1, .int (Int32.ofInt x1)), (2, .int (Int32.ofInt x2))] [] s (lf_qi Q)) (fun x1 x2 s hb => gm_243_p4 (fun _ _ _ h => h) hb)
def fm_243 (Q : Int → lf_Z → Prop) (s : lf_Z) : Prop := fm_243_p4L Q 0 0 s
set_option maxRecDepth 100000 in
theorem gm_243 {L : Nat} {xs : Nat → Int32} {d : Nat} {Q : Int → lf_Z → Prop} {s : lf_Z} (h : fm_243 Q s) : lf_M (px_ro L xs) (d + 2) 243 [.ref 95] s (lf_qi Q) := by
  unfold fm_243 at h
  show lf_E (px_ro L xs) (d + 2) 243 0 [(0, .ref 95)] [] s _
  refine lf_seg 4 (pc' := 4) (lv' := [(2, .int (Int32.ofInt 0)), (1, .int (Int32.ofInt 0)), (0, .ref 95)]) (st' := []) rfl ?_
  refine lf_sub (l := [(0, .ref 95), (1, .int (Int32.ofInt 0)), (2, .int (Int32.ofInt 0))]) (lf_sb1 rfl (lf_sb1 rfl (lf_sb1 rfl lf_sb0))) ?_
  exact gm_243_p4L h
-- fm_246 Model.doneAt 95 i
def fm_246 (a1 : Int) (Q : Int → lf_Z → Prop) (s : lf_Z) : Prop := (0 ≤ (14 + (3 * a1)) + 2 ∧ (14 + (3 * a1)) + 2 < 1538) ∧ (Q (s.1 96 ((14 + (3 * a1)) + 2)) s)
set_option maxRecDepth 100000 in
theorem gm_246 {L : Nat} {xs : Nat → Int32} {d : Nat} {a1 : Int} {Q : Int → lf_Z → Prop} {s : lf_Z} (h : fm_246 a1 Q s) : lf_M (px_ro L xs) (d + 1) 246 [.ref 95, .int (Int32.ofInt a1)] s (lf_qi Q) := by
  unfold fm_246 at h
  show lf_E (px_ro L xs) (d + 1) 246 0 [(0, .ref 95), (1, .int (Int32.ofInt a1))] [] s _
  refine lf_seg 2 (pc' := 4) (lv' := [(0, .ref 95), (1, .int (Int32.ofInt a1))]) (st' := [.ref 96]) rfl ?_
  refine lf_bipush 6 14 rfl rfl (by decide) (by decide) ?_
  refine lf_seg 2 (pc' := 8) (lv' := [(0, .ref 95), (1, .int (Int32.ofInt a1))]) (st' := [.int (Int32.ofInt a1), .int (Int32.ofInt 3), .int (Int32.ofInt 14), .ref 96]) rfl ?_
  refine lf_imul 9 rfl rfl ?_
  refine lf_iadd 10 rfl rfl ?_
  refine lf_seg 1 (pc' := 11) (lv' := [(0, .ref 95), (1, .int (Int32.ofInt a1))]) (st' := [.int (Int32.ofInt 2), .int (Int32.ofInt (14 + (3 * a1))), .ref 96]) rfl ?_
  refine lf_iadd 12 rfl rfl ?_
  obtain ⟨o21, h⟩ := h
  refine lf_iald 13 1538 rfl rfl rfl rfl rfl rfl o21 ?_
  exact lf_retI rfl rfl h
-- fm_239 Model.get 95 i 3
def fm_239 (a1 : Int) (Q : Int → lf_Z → Prop) (s : lf_Z) : Prop := (0 ≤ (126 + (6 * a1)) + 3 ∧ (126 + (6 * a1)) + 3 < 1538) ∧ (Q (s.1 96 ((126 + (6 * a1)) + 3)) s)
set_option maxRecDepth 100000 in
theorem gm_239 {L : Nat} {xs : Nat → Int32} {d : Nat} {a1 : Int} {Q : Int → lf_Z → Prop} {s : lf_Z} (h : fm_239 a1 Q s) : lf_M (px_ro L xs) (d + 1) 239 [.ref 95, .int (Int32.ofInt a1), .int (Int32.ofInt 3)] s (lf_qi Q) := by
  unfold fm_239 at h
  show lf_E (px_ro L xs) (d + 1) 239 0 [(0, .ref 95), (1, .int (Int32.ofInt a1)), (2, .int (Int32.ofInt 3))] [] s _
  refine lf_seg 2 (pc' := 4) (lv' := [(0, .ref 95), (1, .int (Int32.ofInt a1)), (2, .int (Int32.ofInt 3))]) (st' := [.ref 96]) rfl ?_
  refine lf_bipush 6 126 rfl rfl (by decide) (by decide) ?_
  refine lf_bipush 8 6 rfl rfl (by decide) (by decide) ?_
  refine lf_seg 1 (pc' := 9) (lv' := [(0, .ref 95), (1, .int (Int32.ofInt a1)), (2, .int (Int32.ofInt 3))]) (st' := [.int (Int32.ofInt a1), .int (Int32.ofInt 6), .int (Int32.ofInt 126), .ref 96]) rfl ?_
  refine lf_imul 10 rfl rfl ?_
  refine lf_iadd 11 rfl rfl ?_
  refine lf_seg 1 (pc' := 12) (lv' := [(0, .ref 95), (1, .int (Int32.ofInt a1)), (2, .int (Int32.ofInt 3))]) (st' := [.int (Int32.ofInt 3), .int (Int32.ofInt (126 + (6 * a1))), .ref 96]) rfl ?_
  refine lf_iadd 13 rfl rfl ?_
  obtain ⟨o21, h⟩ := h
  refine lf_iald 14 1538 rfl rfl rfl rfl rfl rfl o21 ?_
  exact lf_retI rfl rfl h
-- fm_239b Model.get 95 i 4
def fm_239b (a1 : Int) (Q : Int → lf_Z → Prop) (s : lf_Z) : Prop := (0 ≤ (126 + (6 * a1)) + 4 ∧ (126 + (6 * a1)) + 4 < 1538) ∧ (Q (s.1 96 ((126 + (6 * a1)) + 4)) s)
set_option maxRecDepth 100000 in
theorem gm_239b {L : Nat} {xs : Nat → Int32} {d : Nat} {a1 : Int} {Q : Int → lf_Z → Prop} {s : lf_Z} (h : fm_239b a1 Q s) : lf_M (px_ro L xs) (d + 1) 239 [.ref 95, .int (Int32.ofInt a1), .int (Int32.ofInt 4)] s (lf_qi Q) := by
  unfold fm_239b at h
  show lf_E (px_ro L xs) (d + 1) 239 0 [(0, .ref 95), (1, .int (Int32.ofInt a1)), (2, .int (Int32.ofInt 4))] [] s _
  refine lf_seg 2 (pc' := 4) (lv' := [(0, .ref 95), (1, .int (Int32.ofInt a1)), (2, .int (Int32.ofInt 4))]) (st' := [.ref 96]) rfl ?_
  refine lf_bipush 6 126 rfl rfl (by decide) (by decide) ?_
  refine lf_bipush 8 6 rfl rfl (by decide) (by decide) ?_
  refine lf_seg 1 (pc' := 9) (lv' := [(0, .ref 95), (1, .int (Int32.ofInt a1)), (2, .int (Int32.ofInt 4))]) (st' := [.int (Int32.ofInt a1), .int (Int32.ofInt 6), .int (Int32.ofInt 126), .ref 96]) rfl ?_
  refine lf_imul 10 rfl rfl ?_
  refine lf_iadd 11 rfl rfl ?_
  refine lf_seg 1 (pc' := 12) (lv' := [(0, .ref 95), (1, .int (Int32.ofInt a1)), (2, .int (Int32.ofInt 4))]) (st' := [.int (Int32.ofInt 4), .int (Int32.ofInt (126 + (6 * a1))), .ref 96]) rfl ?_
  refine lf_iadd 13 rfl rfl ?_
  obtain ⟨o21, h⟩ := h
  refine lf_iald 14 1538 rfl rfl rfl rfl rfl rfl o21 ?_
  exact lf_retI rfl rfl h
-- fm_245 Model.isOpen 95 i
def fm_245 (a1 : Int) (Q : Bool → lf_Z → Prop) (s : lf_Z) : Prop := (0 ≤ (50 + (4 * a1)) + 3 ∧ (50 + (4 * a1)) + 3 < 1538) ∧ (lf_R (s.1 96 ((50 + (4 * a1)) + 3)) ∧ ((s.1 96 ((50 + (4 * a1)) + 3) ≠ 1 → (Q false s)) ∧ (¬ (s.1 96 ((50 + (4 * a1)) + 3) ≠ 1) → (Q true s))))
set_option maxRecDepth 100000 in
theorem gm_245 {L : Nat} {xs : Nat → Int32} {d : Nat} {a1 : Int} {Q : Bool → lf_Z → Prop} {s : lf_Z} (h : fm_245 a1 Q s) : lf_M (px_ro L xs) (d + 1) 245 [.ref 95, .int (Int32.ofInt a1)] s (lf_qz Q) := by
  unfold fm_245 at h
  show lf_E (px_ro L xs) (d + 1) 245 0 [(0, .ref 95), (1, .int (Int32.ofInt a1))] [] s _
  refine lf_seg 2 (pc' := 4) (lv' := [(0, .ref 95), (1, .int (Int32.ofInt a1))]) (st' := [.ref 96]) rfl ?_
  refine lf_bipush 6 50 rfl rfl (by decide) (by decide) ?_
  refine lf_seg 2 (pc' := 8) (lv' := [(0, .ref 95), (1, .int (Int32.ofInt a1))]) (st' := [.int (Int32.ofInt a1), .int (Int32.ofInt 4), .int (Int32.ofInt 50), .ref 96]) rfl ?_
  refine lf_imul 9 rfl rfl ?_
  refine lf_iadd 10 rfl rfl ?_
  refine lf_seg 1 (pc' := 11) (lv' := [(0, .ref 95), (1, .int (Int32.ofInt a1))]) (st' := [.int (Int32.ofInt 3), .int (Int32.ofInt (50 + (4 * a1))), .ref 96]) rfl ?_
  refine lf_iadd 12 rfl rfl ?_
  obtain ⟨o21, h⟩ := h
  refine lf_iald 13 1538 rfl rfl rfl rfl rfl rfl o21 ?_
  refine lf_seg 1 (pc' := 14) (lv' := [(0, .ref 95), (1, .int (Int32.ofInt a1))]) (st' := [.int (Int32.ofInt 1), .int (Int32.ofInt (s.1 96 ((50 + (4 * a1)) + 3)))]) rfl ?_
  obtain ⟨o22, h⟩ := h
  refine lf_icmp_ne 21 17 rfl rfl rfl o22 ⟨by decide, by decide⟩ (fun c => ?_) (fun c => ?_)
  · have h := h.1 c
    refine lf_seg 1 (pc' := 22) (lv' := [(0, .ref 95), (1, .int (Int32.ofInt a1))]) (st' := [.int (Int32.ofInt 0)]) rfl ?_
    exact lf_retZ false rfl rfl h
  · have h := h.2 c
    refine lf_seg 2 (pc' := 22) (lv' := [(0, .ref 95), (1, .int (Int32.ofInt a1))]) (st' := [.int (Int32.ofInt 1)]) rfl ?_
    exact lf_retZ true rfl rfl h
-- fm_244 Model.keep 95
def fm_244_p268 (Q : lf_Z → Prop) (x1 : Int) (X268 : Int → lf_Z → Prop) (x2 : Int) (s : lf_Z) : Prop := lf_R x2 ∧ ((12 ≤ x2 → (Q (lf_up s.1 96 9 ((s.1 96 9) + 1), s.2.1, s.2.2))) ∧ (¬ (12 ≤ x2) → (fm_246 x2 (fun r33 s32 => ((0 ≤ (x1 + 29) + x2 ∧ (x1 + 29) + x2 < 1538) ∧ (X268 (x2 + 1) (lf_up s32.1 96 ((x1 + 29) + x2) r33, s32.2.1, s32.2.2)))) s)))
def fm_244_p268L (Q : lf_Z → Prop) (x1 : Int) (x2 : Int) (s : lf_Z) : Prop := ∀ X268 : Int → lf_Z → Prop, (∀ (x2 : Int) (s : lf_Z), fm_244_p268 Q x1 X268 x2 s → X268 x2 s) → X268 x2 s
set_option maxRecDepth 100000 in
theorem gm_244_p268 {L : Nat} {xs : Nat → Int32} {d : Nat} {Q : lf_Z → Prop} {x1 : Int} {x2 : Int} {s : lf_Z} {X268 : Int → lf_Z → Prop} (hX268 : ∀ x2 s, X268 x2 s → lf_E (px_ro L xs) (d + 2) 244 268 [(0, .ref 95), (1, .int (Int32.ofInt x1)), (2, .int (Int32.ofInt x2))] [] s (lf_qv Q)) (h : fm_244_p268 Q x1 X268 x2 s) : lf_E (px_ro L xs) (d + 2) 244 268 [(0, .ref 95), (1, .int (Int32.ofInt x1)), (2, .int (Int32.ofInt x2))] [] s (lf_qv Q) := by
  unfold fm_244_p268 at h
  refine lf_seg 1 (pc' := 269) (lv' := [(0, .ref 95), (1, .int (Int32.ofInt x1)), (2, .int (Int32.ofInt x2))]) (st' := [.int (Int32.ofInt x2)]) rfl ?_
  refine lf_bipush 271 12 rfl rfl (by decide) (by decide) ?_
  obtain ⟨o31, h⟩ := h
  refine lf_icmp_ge 296 274 rfl rfl rfl o31 ⟨by decide, by decide⟩ (fun c => ?_) (fun c => ?_)
  · have h := h.1 c
    refine lf_seg 2 (pc' := 300) (lv' := [(0, .ref 95), (1, .int (Int32.ofInt x1)), (2, .int (Int32.ofInt x2))]) (st' := [.ref 96]) rfl ?_
    refine lf_bipush 302 9 rfl rfl (by decide) (by decide) ?_
    refine lf_seg 1 (pc' := 303) (lv' := [(0, .ref 95), (1, .int (Int32.ofInt x1)), (2, .int (Int32.ofInt x2))]) (st' := [.int (Int32.ofInt 9), .ref 96, .int (Int32.ofInt 9), .ref 96]) rfl ?_
    refine lf_iald 304 1538 rfl rfl rfl rfl rfl rfl ⟨by decide, by decide⟩ ?_
    refine lf_seg 1 (pc' := 305) (lv' := [(0, .ref 95), (1, .int (Int32.ofInt x1)), (2, .int (Int32.ofInt x2))]) (st' := [.int (Int32.ofInt 1), .int (Int32.ofInt (s.1 96 9)), .int (Int32.ofInt 9), .ref 96]) rfl ?_
    refine lf_iadd 306 rfl rfl ?_
    refine lf_iast 307 1538 rfl rfl rfl rfl rfl rfl ⟨by decide, by decide⟩ ?_
    refine lf_as (lf_up s.1 96 9 ((s.1 96 9) + 1), s.2.1, s.2.2) rfl ?_
    exact lf_retV rfl rfl h
  · have h := h.2 c
    refine lf_seg 3 (pc' := 279) (lv' := [(0, .ref 95), (1, .int (Int32.ofInt x1)), (2, .int (Int32.ofInt x2))]) (st' := [.int (Int32.ofInt x1), .ref 96]) rfl ?_
    refine lf_bipush 281 29 rfl rfl (by decide) (by decide) ?_
    refine lf_iadd 282 rfl rfl ?_
    refine lf_seg 1 (pc' := 283) (lv' := [(0, .ref 95), (1, .int (Int32.ofInt x1)), (2, .int (Int32.ofInt x2))]) (st' := [.int (Int32.ofInt x2), .int (Int32.ofInt (x1 + 29)), .ref 96]) rfl ?_
    refine lf_iadd 284 rfl rfl ?_
    refine lf_seg 2 (pc' := 286) (lv' := [(0, .ref 95), (1, .int (Int32.ofInt x1)), (2, .int (Int32.ofInt x2))]) (st' := [.int (Int32.ofInt x2), .ref 95, .int (Int32.ofInt ((x1 + 29) + x2)), .ref 96]) rfl ?_
    refine lf_callI 289 rfl rfl rfl rfl (gm_246 h) (fun r33 s32 h => ?_)
    obtain ⟨o34, h⟩ := h
    refine lf_iast 290 1538 rfl rfl rfl rfl rfl rfl o34 ?_
    refine lf_as (lf_up s32.1 96 ((x1 + 29) + x2) r33, s32.2.1, s32.2.2) rfl ?_
    refine lf_iinc 293 rfl rfl rfl rfl ?_
    refine lf_seg 1 (pc' := 268) (lv' := [(2, .int (Int32.ofInt (x2 + 1))), (0, .ref 95), (1, .int (Int32.ofInt x1))]) (st' := []) rfl ?_
    refine lf_sub (l := [(0, .ref 95), (1, .int (Int32.ofInt x1)), (2, .int (Int32.ofInt (x2 + 1)))]) (lf_sb1 rfl (lf_sb1 rfl (lf_sb1 rfl lf_sb0))) ?_
    exact hX268 _ _ h
theorem gm_244_p268L {L : Nat} {xs : Nat → Int32} {d : Nat} {Q : lf_Z → Prop} {x1 : Int} {x2 : Int} {s : lf_Z} (h : fm_244_p268L Q x1 x2 s) : lf_E (px_ro L xs) (d + 2) 244 268 [(0, .ref 95), (1, .int (Int32.ofInt x1)), (2, .int (Int32.ofInt x2))] [] s (lf_qv Q) :=
  h (fun x2 s => lf_E (px_ro L xs) (d + 2) 244 268 [(0, .ref 95), (1, .int (Int32.ofInt x1)), (2, .int (Int32.ofInt x2))] [] s (lf_qv Q)) (fun x2 s hb => gm_244_p268 (fun _ _ h => h) hb)
def fm_244_p216 (Q : lf_Z → Prop) (x1 : Int) (X216 : Int → lf_Z → Prop) (x2 : Int) (s : lf_Z) : Prop := lf_R x2 ∧ ((6 ≤ x2 → (fm_244_p268L Q x1 0 s)) ∧ (¬ (6 ≤ x2) → (fm_239 x2 (fun r36 s35 => ((0 ≤ (x1 + 17) + (2 * x2) ∧ (x1 + 17) + (2 * x2) < 1538) ∧ (fm_239b x2 (fun r39 s38 => ((0 ≤ (x1 + 18) + (2 * x2) ∧ (x1 + 18) + (2 * x2) < 1538) ∧ (X216 (x2 + 1) (lf_up s38.1 96 ((x1 + 18) + (2 * x2)) r39, s38.2.1, s38.2.2)))) (lf_up s35.1 96 ((x1 + 17) + (2 * x2)) r36, s35.2.1, s35.2.2)))) s)))
def fm_244_p216L (Q : lf_Z → Prop) (x1 : Int) (x2 : Int) (s : lf_Z) : Prop := ∀ X216 : Int → lf_Z → Prop, (∀ (x2 : Int) (s : lf_Z), fm_244_p216 Q x1 X216 x2 s → X216 x2 s) → X216 x2 s
set_option maxRecDepth 100000 in
theorem gm_244_p216 {L : Nat} {xs : Nat → Int32} {d : Nat} {Q : lf_Z → Prop} {x1 : Int} {x2 : Int} {s : lf_Z} {X216 : Int → lf_Z → Prop} (hX216 : ∀ x2 s, X216 x2 s → lf_E (px_ro L xs) (d + 2) 244 216 [(0, .ref 95), (1, .int (Int32.ofInt x1)), (2, .int (Int32.ofInt x2))] [] s (lf_qv Q)) (h : fm_244_p216 Q x1 X216 x2 s) : lf_E (px_ro L xs) (d + 2) 244 216 [(0, .ref 95), (1, .int (Int32.ofInt x1)), (2, .int (Int32.ofInt x2))] [] s (lf_qv Q) := by
  unfold fm_244_p216 at h
  refine lf_seg 1 (pc' := 217) (lv' := [(0, .ref 95), (1, .int (Int32.ofInt x1)), (2, .int (Int32.ofInt x2))]) (st' := [.int (Int32.ofInt x2)]) rfl ?_
  refine lf_bipush 219 6 rfl rfl (by decide) (by decide) ?_
  obtain ⟨o30, h⟩ := h
  refine lf_icmp_ge 266 222 rfl rfl rfl o30 ⟨by decide, by decide⟩ (fun c => ?_) (fun c => ?_)
  · have h := h.1 c
    refine lf_seg 2 (pc' := 268) (lv' := [(2, .int (Int32.ofInt 0)), (0, .ref 95), (1, .int (Int32.ofInt x1))]) (st' := []) rfl ?_
    refine lf_sub (l := [(0, .ref 95), (1, .int (Int32.ofInt x1)), (2, .int (Int32.ofInt 0))]) (lf_sb1 rfl (lf_sb1 rfl (lf_sb1 rfl lf_sb0))) ?_
    exact gm_244_p268L h
  · have h := h.2 c
    refine lf_seg 3 (pc' := 227) (lv' := [(0, .ref 95), (1, .int (Int32.ofInt x1)), (2, .int (Int32.ofInt x2))]) (st' := [.int (Int32.ofInt x1), .ref 96]) rfl ?_
    refine lf_bipush 229 17 rfl rfl (by decide) (by decide) ?_
    refine lf_iadd 230 rfl rfl ?_
    refine lf_seg 2 (pc' := 232) (lv' := [(0, .ref 95), (1, .int (Int32.ofInt x1)), (2, .int (Int32.ofInt x2))]) (st' := [.int (Int32.ofInt x2), .int (Int32.ofInt 2), .int (Int32.ofInt (x1 + 17)), .ref 96]) rfl ?_
    refine lf_imul 233 rfl rfl ?_
    refine lf_iadd 234 rfl rfl ?_
    refine lf_seg 3 (pc' := 237) (lv' := [(0, .ref 95), (1, .int (Int32.ofInt x1)), (2, .int (Int32.ofInt x2))]) (st' := [.int (Int32.ofInt 3), .int (Int32.ofInt x2), .ref 95, .int (Int32.ofInt ((x1 + 17) + (2 * x2))), .ref 96]) rfl ?_
    refine lf_callI 240 rfl rfl rfl rfl (gm_239 h) (fun r36 s35 h => ?_)
    obtain ⟨o37, h⟩ := h
    refine lf_iast 241 1538 rfl rfl rfl rfl rfl rfl o37 ?_
    refine lf_as (lf_up s35.1 96 ((x1 + 17) + (2 * x2)) r36, s35.2.1, s35.2.2) rfl ?_
    refine lf_seg 3 (pc' := 246) (lv' := [(0, .ref 95), (1, .int (Int32.ofInt x1)), (2, .int (Int32.ofInt x2))]) (st' := [.int (Int32.ofInt x1), .ref 96]) rfl ?_
    refine lf_bipush 248 18 rfl rfl (by decide) (by decide) ?_
    refine lf_iadd 249 rfl rfl ?_
    refine lf_seg 2 (pc' := 251) (lv' := [(0, .ref 95), (1, .int (Int32.ofInt x1)), (2, .int (Int32.ofInt x2))]) (st' := [.int (Int32.ofInt x2), .int (Int32.ofInt 2), .int (Int32.ofInt (x1 + 18)), .ref 96]) rfl ?_
    refine lf_imul 252 rfl rfl ?_
    refine lf_iadd 253 rfl rfl ?_
    refine lf_seg 3 (pc' := 256) (lv' := [(0, .ref 95), (1, .int (Int32.ofInt x1)), (2, .int (Int32.ofInt x2))]) (st' := [.int (Int32.ofInt 4), .int (Int32.ofInt x2), .ref 95, .int (Int32.ofInt ((x1 + 18) + (2 * x2))), .ref 96]) rfl ?_
    refine lf_callI 259 rfl rfl rfl rfl (gm_239b h) (fun r39 s38 h => ?_)
    obtain ⟨o40, h⟩ := h
    refine lf_iast 260 1538 rfl rfl rfl rfl rfl rfl o40 ?_
    refine lf_as (lf_up s38.1 96 ((x1 + 18) + (2 * x2)) r39, s38.2.1, s38.2.2) rfl ?_
    refine lf_iinc 263 rfl rfl rfl rfl ?_
    refine lf_seg 1 (pc' := 216) (lv' := [(2, .int (Int32.ofInt (x2 + 1))), (0, .ref 95), (1, .int (Int32.ofInt x1))]) (st' := []) rfl ?_
    refine lf_sub (l := [(0, .ref 95), (1, .int (Int32.ofInt x1)), (2, .int (Int32.ofInt (x2 + 1)))]) (lf_sb1 rfl (lf_sb1 rfl (lf_sb1 rfl lf_sb0))) ?_
    exact hX216 _ _ h
theorem gm_244_p216L {L : Nat} {xs : Nat → Int32} {d : Nat} {Q : lf_Z → Prop} {x1 : Int} {x2 : Int} {s : lf_Z} (h : fm_244_p216L Q x1 x2 s) : lf_E (px_ro L xs) (d + 2) 244 216 [(0, .ref 95), (1, .int (Int32.ofInt x1)), (2, .int (Int32.ofInt x2))] [] s (lf_qv Q) :=
  h (fun x2 s => lf_E (px_ro L xs) (d + 2) 244 216 [(0, .ref 95), (1, .int (Int32.ofInt x1)), (2, .int (Int32.ofInt x2))] [] s (lf_qv Q)) (fun x2 s hb => gm_244_p216 (fun _ _ h => h) hb)
def fm_244_p183 (Q : lf_Z → Prop) (x1 : Int) (X183 : Int → lf_Z → Prop) (x2 : Int) (s : lf_Z) : Prop := lf_R x2 ∧ ((12 ≤ x2 → (fm_244_p216L Q x1 0 s)) ∧ (¬ (12 ≤ x2) → ((0 ≤ 114 + x2 ∧ 114 + x2 < 1538) ∧ ((0 ≤ (x1 + 5) + x2 ∧ (x1 + 5) + x2 < 1538) ∧ (X183 (x2 + 1) (lf_up s.1 96 ((x1 + 5) + x2) (s.1 96 (114 + x2)), s.2.1, s.2.2))))))
def fm_244_p183L (Q : lf_Z → Prop) (x1 : Int) (x2 : Int) (s : lf_Z) : Prop := ∀ X183 : Int → lf_Z → Prop, (∀ (x2 : Int) (s : lf_Z), fm_244_p183 Q x1 X183 x2 s → X183 x2 s) → X183 x2 s
set_option maxRecDepth 100000 in
theorem gm_244_p183 {L : Nat} {xs : Nat → Int32} {d : Nat} {Q : lf_Z → Prop} {x1 : Int} {x2 : Int} {s : lf_Z} {X183 : Int → lf_Z → Prop} (hX183 : ∀ x2 s, X183 x2 s → lf_E (px_ro L xs) (d + 2) 244 183 [(0, .ref 95), (1, .int (Int32.ofInt x1)), (2, .int (Int32.ofInt x2))] [] s (lf_qv Q)) (h : fm_244_p183 Q x1 X183 x2 s) : lf_E (px_ro L xs) (d + 2) 244 183 [(0, .ref 95), (1, .int (Int32.ofInt x1)), (2, .int (Int32.ofInt x2))] [] s (lf_qv Q) := by
  unfold fm_244_p183 at h
  refine lf_seg 1 (pc' := 184) (lv' := [(0, .ref 95), (1, .int (Int32.ofInt x1)), (2, .int (Int32.ofInt x2))]) (st' := [.int (Int32.ofInt x2)]) rfl ?_
  refine lf_bipush 186 12 rfl rfl (by decide) (by decide) ?_
  obtain ⟨o29, h⟩ := h
  refine lf_icmp_ge 214 189 rfl rfl rfl o29 ⟨by decide, by decide⟩ (fun c => ?_) (fun c => ?_)
  · have h := h.1 c
    refine lf_seg 2 (pc' := 216) (lv' := [(2, .int (Int32.ofInt 0)), (0, .ref 95), (1, .int (Int32.ofInt x1))]) (st' := []) rfl ?_
    refine lf_sub (l := [(0, .ref 95), (1, .int (Int32.ofInt x1)), (2, .int (Int32.ofInt 0))]) (lf_sb1 rfl (lf_sb1 rfl (lf_sb1 rfl lf_sb0))) ?_
    exact gm_244_p216L h
  · have h := h.2 c
    refine lf_seg 4 (pc' := 195) (lv' := [(0, .ref 95), (1, .int (Int32.ofInt x1)), (2, .int (Int32.ofInt x2))]) (st' := [.int (Int32.ofInt 5), .int (Int32.ofInt x1), .ref 96]) rfl ?_
    refine lf_iadd 196 rfl rfl ?_
    refine lf_seg 1 (pc' := 197) (lv' := [(0, .ref 95), (1, .int (Int32.ofInt x1)), (2, .int (Int32.ofInt x2))]) (st' := [.int (Int32.ofInt x2), .int (Int32.ofInt (x1 + 5)), .ref 96]) rfl ?_
    refine lf_iadd 198 rfl rfl ?_
    refine lf_seg 2 (pc' := 202) (lv' := [(0, .ref 95), (1, .int (Int32.ofInt x1)), (2, .int (Int32.ofInt x2))]) (st' := [.ref 96, .int (Int32.ofInt ((x1 + 5) + x2)), .ref 96]) rfl ?_
    refine lf_bipush 204 114 rfl rfl (by decide) (by decide) ?_
    refine lf_seg 1 (pc' := 205) (lv' := [(0, .ref 95), (1, .int (Int32.ofInt x1)), (2, .int (Int32.ofInt x2))]) (st' := [.int (Int32.ofInt x2), .int (Int32.ofInt 114), .ref 96, .int (Int32.ofInt ((x1 + 5) + x2)), .ref 96]) rfl ?_
    refine lf_iadd 206 rfl rfl ?_
    obtain ⟨o41, h⟩ := h
    refine lf_iald 207 1538 rfl rfl rfl rfl rfl rfl o41 ?_
    obtain ⟨o42, h⟩ := h
    refine lf_iast 208 1538 rfl rfl rfl rfl rfl rfl o42 ?_
    refine lf_as (lf_up s.1 96 ((x1 + 5) + x2) (s.1 96 (114 + x2)), s.2.1, s.2.2) rfl ?_
    refine lf_iinc 211 rfl rfl rfl rfl ?_
    refine lf_seg 1 (pc' := 183) (lv' := [(2, .int (Int32.ofInt (x2 + 1))), (0, .ref 95), (1, .int (Int32.ofInt x1))]) (st' := []) rfl ?_
    refine lf_sub (l := [(0, .ref 95), (1, .int (Int32.ofInt x1)), (2, .int (Int32.ofInt (x2 + 1)))]) (lf_sb1 rfl (lf_sb1 rfl (lf_sb1 rfl lf_sb0))) ?_
    exact hX183 _ _ h
theorem gm_244_p183L {L : Nat} {xs : Nat → Int32} {d : Nat} {Q : lf_Z → Prop} {x1 : Int} {x2 : Int} {s : lf_Z} (h : fm_244_p183L Q x1 x2 s) : lf_E (px_ro L xs) (d + 2) 244 183 [(0, .ref 95), (1, .int (Int32.ofInt x1)), (2, .int (Int32.ofInt x2))] [] s (lf_qv Q) :=
  h (fun x2 s => lf_E (px_ro L xs) (d + 2) 244 183 [(0, .ref 95), (1, .int (Int32.ofInt x1)), (2, .int (Int32.ofInt x2))] [] s (lf_qv Q)) (fun x2 s hb => gm_244_p183 (fun _ _ h => h) hb)
def fm_244_p144 (X110 : Int → lf_Z → Prop) (Q : lf_Z → Prop) (x1 : Int) (x2 : Int) (y1 : Int) (y2 : Int) (y3 : Int) (s : lf_Z) : Prop := (0 ≤ y1 ∧ y1 < 1538) ∧ (X110 (x2 + 1) (lf_up s.1 96 y1 (lf_or y2 y3), s.2.1, s.2.2))
set_option maxRecDepth 100000 in
theorem gm_244_p144 {L : Nat} {xs : Nat → Int32} {d : Nat} {X110 : Int → lf_Z → Prop} {Q : lf_Z → Prop} {x1 : Int} {x2 : Int} {y1 : Int} {y2 : Int} {y3 : Int} {s : lf_Z} (hX110 : ∀ x2 s, X110 x2 s → lf_E (px_ro L xs) (d + 2) 244 110 [(0, .ref 95), (1, .int (Int32.ofInt x1)), (2, .int (Int32.ofInt x2))] [] s (lf_qv Q)) (h : fm_244_p144 X110 Q x1 x2 y1 y2 y3 s) : lf_E (px_ro L xs) (d + 2) 244 144 [(0, .ref 95), (1, .int (Int32.ofInt x1)), (2, .int (Int32.ofInt x2))] [.int (Int32.ofInt y3), .int (Int32.ofInt y2), .int (Int32.ofInt y1), .ref 96] s (lf_qv Q) := by
  unfold fm_244_p144 at h
  refine lf_ior 145 rfl rfl ?_
  obtain ⟨o46, h⟩ := h
  refine lf_iast 146 1538 rfl rfl rfl rfl rfl rfl o46 ?_
  refine lf_as (lf_up s.1 96 y1 (lf_or y2 y3), s.2.1, s.2.2) rfl ?_
  refine lf_iinc 149 rfl rfl rfl rfl ?_
  refine lf_seg 1 (pc' := 110) (lv' := [(2, .int (Int32.ofInt (x2 + 1))), (0, .ref 95), (1, .int (Int32.ofInt x1))]) (st' := []) rfl ?_
  refine lf_sub (l := [(0, .ref 95), (1, .int (Int32.ofInt x1)), (2, .int (Int32.ofInt (x2 + 1)))]) (lf_sb1 rfl (lf_sb1 rfl (lf_sb1 rfl lf_sb0))) ?_
  exact hX110 _ _ h
def fm_244_p110 (Q : lf_Z → Prop) (x1 : Int) (X110 : Int → lf_Z → Prop) (x2 : Int) (s : lf_Z) : Prop := lf_R x2 ∧ (lf_R (s.1 96 1) ∧ ((s.1 96 1 ≤ x2 → ((0 ≤ x1 + 3 ∧ x1 + 3 < 1538) ∧ ((0 ≤ x1 + 4 ∧ x1 + 4 < 1538) ∧ (fm_244_p183L Q x1 0 (lf_up (lf_up s.1 96 (x1 + 3) (s.1 96 3)) 96 (x1 + 4) ((lf_up s.1 96 (x1 + 3) (s.1 96 3)) 96 6), s.2.1, s.2.2))))) ∧ (¬ (s.1 96 1 ≤ x2) → ((0 ≤ x1 + 2 ∧ x1 + 2 < 1538) ∧ (fm_245 x2 (fun z45 s44 => ((z45 = false → (fm_244_p144 X110 Q x1 x2 (x1 + 2) (s.1 96 (x1 + 2)) 0 s44)) ∧ (z45 = true → (fm_244_p144 X110 Q x1 x2 (x1 + 2) (s.1 96 (x1 + 2)) (lf_shl 1 x2) s44)))) s)))))
def fm_244_p110L (Q : lf_Z → Prop) (x1 : Int) (x2 : Int) (s : lf_Z) : Prop := ∀ X110 : Int → lf_Z → Prop, (∀ (x2 : Int) (s : lf_Z), fm_244_p110 Q x1 X110 x2 s → X110 x2 s) → X110 x2 s
set_option maxRecDepth 100000 in
theorem gm_244_p110 {L : Nat} {xs : Nat → Int32} {d : Nat} {Q : lf_Z → Prop} {x1 : Int} {x2 : Int} {s : lf_Z} {X110 : Int → lf_Z → Prop} (hX110 : ∀ x2 s, X110 x2 s → lf_E (px_ro L xs) (d + 2) 244 110 [(0, .ref 95), (1, .int (Int32.ofInt x1)), (2, .int (Int32.ofInt x2))] [] s (lf_qv Q)) (h : fm_244_p110 Q x1 X110 x2 s) : lf_E (px_ro L xs) (d + 2) 244 110 [(0, .ref 95), (1, .int (Int32.ofInt x1)), (2, .int (Int32.ofInt x2))] [] s (lf_qv Q) := by
  unfold fm_244_p110 at h
  refine lf_seg 4 (pc' := 116) (lv' := [(0, .ref 95), (1, .int (Int32.ofInt x1)), (2, .int (Int32.ofInt x2))]) (st' := [.int (Int32.ofInt 1), .ref 96, .int (Int32.ofInt x2)]) rfl ?_
  refine lf_iald 117 1538 rfl rfl rfl rfl rfl rfl ⟨by decide, by decide⟩ ?_
  obtain ⟨o25, h⟩ := h
  obtain ⟨o26, h⟩ := h
  refine lf_icmp_ge 152 120 rfl rfl rfl o25 o26 (fun c => ?_) (fun c => ?_)
  · have h := h.1 c
    refine lf_seg 4 (pc' := 158) (lv' := [(0, .ref 95), (1, .int (Int32.ofInt x1)), (2, .int (Int32.ofInt x2))]) (st' := [.int (Int32.ofInt 3), .int (Int32.ofInt x1), .ref 96]) rfl ?_
    refine lf_iadd 159 rfl rfl ?_
    refine lf_seg 3 (pc' := 164) (lv' := [(0, .ref 95), (1, .int (Int32.ofInt x1)), (2, .int (Int32.ofInt x2))]) (st' := [.int (Int32.ofInt 3), .ref 96, .int (Int32.ofInt (x1 + 3)), .ref 96]) rfl ?_
    refine lf_iald 165 1538 rfl rfl rfl rfl rfl rfl ⟨by decide, by decide⟩ ?_
    obtain ⟨o27, h⟩ := h
    refine lf_iast 166 1538 rfl rfl rfl rfl rfl rfl o27 ?_
    refine lf_as (lf_up s.1 96 (x1 + 3) (s.1 96 3), s.2.1, s.2.2) rfl ?_
    refine lf_seg 4 (pc' := 172) (lv' := [(0, .ref 95), (1, .int (Int32.ofInt x1)), (2, .int (Int32.ofInt x2))]) (st' := [.int (Int32.ofInt 4), .int (Int32.ofInt x1), .ref 96]) rfl ?_
    refine lf_iadd 173 rfl rfl ?_
    refine lf_seg 2 (pc' := 177) (lv' := [(0, .ref 95), (1, .int (Int32.ofInt x1)), (2, .int (Int32.ofInt x2))]) (st' := [.ref 96, .int (Int32.ofInt (x1 + 4)), .ref 96]) rfl ?_
    refine lf_bipush 179 6 rfl rfl (by decide) (by decide) ?_
    refine lf_iald 180 1538 rfl rfl rfl rfl rfl rfl ⟨by decide, by decide⟩ ?_
    obtain ⟨o28, h⟩ := h
    refine lf_iast 181 1538 rfl rfl rfl rfl rfl rfl o28 ?_
    refine lf_as (lf_up (lf_up s.1 96 (x1 + 3) (s.1 96 3)) 96 (x1 + 4) ((lf_up s.1 96 (x1 + 3) (s.1 96 3)) 96 6), s.2.1, s.2.2) rfl ?_
    refine lf_seg 2 (pc' := 183) (lv' := [(2, .int (Int32.ofInt 0)), (0, .ref 95), (1, .int (Int32.ofInt x1))]) (st' := []) rfl ?_
    refine lf_sub (l := [(0, .ref 95), (1, .int (Int32.ofInt x1)), (2, .int (Int32.ofInt 0))]) (lf_sb1 rfl (lf_sb1 rfl (lf_sb1 rfl lf_sb0))) ?_
    exact gm_244_p183L h
  · have h := h.2 c
    refine lf_seg 4 (pc' := 126) (lv' := [(0, .ref 95), (1, .int (Int32.ofInt x1)), (2, .int (Int32.ofInt x2))]) (st' := [.int (Int32.ofInt 2), .int (Int32.ofInt x1), .ref 96]) rfl ?_
    refine lf_iadd 127 rfl rfl ?_
    refine lf_seg 1 (pc' := 128) (lv' := [(0, .ref 95), (1, .int (Int32.ofInt x1)), (2, .int (Int32.ofInt x2))]) (st' := [.int (Int32.ofInt (x1 + 2)), .ref 96, .int (Int32.ofInt (x1 + 2)), .ref 96]) rfl ?_
    obtain ⟨o43, h⟩ := h
    refine lf_iald 129 1538 rfl rfl rfl rfl rfl rfl o43 ?_
    refine lf_seg 2 (pc' := 131) (lv' := [(0, .ref 95), (1, .int (Int32.ofInt x1)), (2, .int (Int32.ofInt x2))]) (st' := [.int (Int32.ofInt x2), .ref 95, .int (Int32.ofInt (s.1 96 (x1 + 2))), .int (Int32.ofInt (x1 + 2)), .ref 96]) rfl ?_
    refine lf_callZ 134 rfl rfl rfl rfl (gm_245 h) (fun z45 s44 h => ?_)
    refine lf_ifz_eq 143 137 rfl rfl rfl (fun c => ?_) (fun c => ?_)
    · have h := h.1 c
      refine lf_seg 1 (pc' := 144) (lv' := [(0, .ref 95), (1, .int (Int32.ofInt x1)), (2, .int (Int32.ofInt x2))]) (st' := [.int (Int32.ofInt 0), .int (Int32.ofInt (s.1 96 (x1 + 2))), .int (Int32.ofInt (x1 + 2)), .ref 96]) rfl ?_
      refine lf_sub (l := [(0, .ref 95), (1, .int (Int32.ofInt x1)), (2, .int (Int32.ofInt x2))]) (lf_sb1 rfl (lf_sb1 rfl (lf_sb1 rfl lf_sb0))) ?_
      exact gm_244_p144 hX110 h
    · have h := h.2 c
      refine lf_seg 2 (pc' := 139) (lv' := [(0, .ref 95), (1, .int (Int32.ofInt x1)), (2, .int (Int32.ofInt x2))]) (st' := [.int (Int32.ofInt x2), .int (Int32.ofInt 1), .int (Int32.ofInt (s.1 96 (x1 + 2))), .int (Int32.ofInt (x1 + 2)), .ref 96]) rfl ?_
      refine lf_ishl 140 rfl rfl ?_
      refine lf_seg 1 (pc' := 144) (lv' := [(0, .ref 95), (1, .int (Int32.ofInt x1)), (2, .int (Int32.ofInt x2))]) (st' := [.int (Int32.ofInt (lf_shl 1 x2)), .int (Int32.ofInt (s.1 96 (x1 + 2))), .int (Int32.ofInt (x1 + 2)), .ref 96]) rfl ?_
      refine lf_sub (l := [(0, .ref 95), (1, .int (Int32.ofInt x1)), (2, .int (Int32.ofInt x2))]) (lf_sb1 rfl (lf_sb1 rfl (lf_sb1 rfl lf_sb0))) ?_
      exact gm_244_p144 hX110 h
theorem gm_244_p110L {L : Nat} {xs : Nat → Int32} {d : Nat} {Q : lf_Z → Prop} {x1 : Int} {x2 : Int} {s : lf_Z} (h : fm_244_p110L Q x1 x2 s) : lf_E (px_ro L xs) (d + 2) 244 110 [(0, .ref 95), (1, .int (Int32.ofInt x1)), (2, .int (Int32.ofInt x2))] [] s (lf_qv Q) :=
  h (fun x2 s => lf_E (px_ro L xs) (d + 2) 244 110 [(0, .ref 95), (1, .int (Int32.ofInt x1)), (2, .int (Int32.ofInt x2))] [] s (lf_qv Q)) (fun x2 s hb => gm_244_p110 (fun _ _ h => h) hb)
def fm_244_p58 (Q : lf_Z → Prop) (s : lf_Z) : Prop := (0 ≤ 278 + (42 * (s.1 96 9)) ∧ 278 + (42 * (s.1 96 9)) < 1538) ∧ ((0 ≤ (278 + (42 * (s.1 96 9))) + 1 ∧ (278 + (42 * (s.1 96 9))) + 1 < 1538) ∧ ((0 ≤ (278 + (42 * (s.1 96 9))) + 2 ∧ (278 + (42 * (s.1 96 9))) + 2 < 1538) ∧ (fm_244_p110L Q (278 + (42 * (s.1 96 9))) 0 (lf_up (lf_up (lf_up s.1 96 (278 + (42 * (s.1 96 9))) (s.1 96 2)) 96 ((278 + (42 * (s.1 96 9))) + 1) ((lf_up s.1 96 (278 + (42 * (s.1 96 9))) (s.1 96 2)) 96 1)) 96 ((278 + (42 * (s.1 96 9))) + 2) 0, s.2.1, s.2.2))))
set_option maxRecDepth 100000 in
theorem gm_244_p58 {L : Nat} {xs : Nat → Int32} {d : Nat} {Q : lf_Z → Prop} {s : lf_Z} (h : fm_244_p58 Q s) : lf_E (px_ro L xs) (d + 2) 244 58 [(0, .ref 95)] [] s (lf_qv Q) := by
  unfold fm_244_p58 at h
  refine lf_sipush 61 278 rfl rfl (by decide) (by decide) ?_
  refine lf_bipush 63 42 rfl rfl (by decide) (by decide) ?_
  refine lf_seg 2 (pc' := 67) (lv' := [(0, .ref 95)]) (st' := [.ref 96, .int (Int32.ofInt 42), .int (Int32.ofInt 278)]) rfl ?_
  refine lf_bipush 69 9 rfl rfl (by decide) (by decide) ?_
  refine lf_iald 70 1538 rfl rfl rfl rfl rfl rfl ⟨by decide, by decide⟩ ?_
  refine lf_imul 71 rfl rfl ?_
  refine lf_iadd 72 rfl rfl ?_
  refine lf_seg 6 (pc' := 82) (lv' := [(1, .int (Int32.ofInt (278 + (42 * (s.1 96 9))))), (0, .ref 95)]) (st' := [.ref 96, .int (Int32.ofInt (278 + (42 * (s.1 96 9)))), .ref 96]) rfl ?_
  refine lf_seg 1 (pc' := 83) (lv' := [(1, .int (Int32.ofInt (278 + (42 * (s.1 96 9))))), (0, .ref 95)]) (st' := [.int (Int32.ofInt 2), .ref 96, .int (Int32.ofInt (278 + (42 * (s.1 96 9)))), .ref 96]) rfl ?_
  refine lf_iald 84 1538 rfl rfl rfl rfl rfl rfl ⟨by decide, by decide⟩ ?_
  obtain ⟨o22, h⟩ := h
  refine lf_iast 85 1538 rfl rfl rfl rfl rfl rfl o22 ?_
  refine lf_as (lf_up s.1 96 (278 + (42 * (s.1 96 9))) (s.1 96 2), s.2.1, s.2.2) rfl ?_
  refine lf_seg 4 (pc' := 91) (lv' := [(1, .int (Int32.ofInt (278 + (42 * (s.1 96 9))))), (0, .ref 95)]) (st' := [.int (Int32.ofInt 1), .int (Int32.ofInt (278 + (42 * (s.1 96 9)))), .ref 96]) rfl ?_
  refine lf_iadd 92 rfl rfl ?_
  refine lf_seg 3 (pc' := 97) (lv' := [(1, .int (Int32.ofInt (278 + (42 * (s.1 96 9))))), (0, .ref 95)]) (st' := [.int (Int32.ofInt 1), .ref 96, .int (Int32.ofInt ((278 + (42 * (s.1 96 9))) + 1)), .ref 96]) rfl ?_
  refine lf_iald 98 1538 rfl rfl rfl rfl rfl rfl ⟨by decide, by decide⟩ ?_
  obtain ⟨o23, h⟩ := h
  refine lf_iast 99 1538 rfl rfl rfl rfl rfl rfl o23 ?_
  refine lf_as (lf_up (lf_up s.1 96 (278 + (42 * (s.1 96 9))) (s.1 96 2)) 96 ((278 + (42 * (s.1 96 9))) + 1) ((lf_up s.1 96 (278 + (42 * (s.1 96 9))) (s.1 96 2)) 96 1), s.2.1, s.2.2) rfl ?_
  refine lf_seg 4 (pc' := 105) (lv' := [(1, .int (Int32.ofInt (278 + (42 * (s.1 96 9))))), (0, .ref 95)]) (st' := [.int (Int32.ofInt 2), .int (Int32.ofInt (278 + (42 * (s.1 96 9)))), .ref 96]) rfl ?_
  refine lf_iadd 106 rfl rfl ?_
  refine lf_seg 1 (pc' := 107) (lv' := [(1, .int (Int32.ofInt (278 + (42 * (s.1 96 9))))), (0, .ref 95)]) (st' := [.int (Int32.ofInt 0), .int (Int32.ofInt ((278 + (42 * (s.1 96 9))) + 2)), .ref 96]) rfl ?_
  obtain ⟨o24, h⟩ := h
  refine lf_iast 108 1538 rfl rfl rfl rfl rfl rfl o24 ?_
  refine lf_as (lf_up (lf_up (lf_up s.1 96 (278 + (42 * (s.1 96 9))) (s.1 96 2)) 96 ((278 + (42 * (s.1 96 9))) + 1) ((lf_up s.1 96 (278 + (42 * (s.1 96 9))) (s.1 96 2)) 96 1)) 96 ((278 + (42 * (s.1 96 9))) + 2) 0, s.2.1, s.2.2) rfl ?_
  refine lf_seg 2 (pc' := 110) (lv' := [(2, .int (Int32.ofInt 0)), (1, .int (Int32.ofInt (278 + (42 * (s.1 96 9))))), (0, .ref 95)]) (st' := []) rfl ?_
  refine lf_sub (l := [(0, .ref 95), (1, .int (Int32.ofInt (278 + (42 * (s.1 96 9))))), (2, .int (Int32.ofInt 0))]) (lf_sb1 rfl (lf_sb1 rfl (lf_sb1 rfl lf_sb0))) ?_
  exact gm_244_p110L h
def fm_244_p14 (Q : lf_Z → Prop) (X14 : Int → lf_Z → Prop) (x1 : Int) (s : lf_Z) : Prop := lf_R x1 ∧ ((1218 ≤ x1 → (fm_244_p58 Q (lf_up s.1 96 9 ((s.1 96 9) - 1), s.2.1, s.2.2))) ∧ (¬ (1218 ≤ x1) → ((0 ≤ 320 + x1 ∧ 320 + x1 < 1538) ∧ ((0 ≤ 278 + x1 ∧ 278 + x1 < 1538) ∧ (X14 (x1 + 1) (lf_up s.1 96 (278 + x1) (s.1 96 (320 + x1)), s.2.1, s.2.2))))))
def fm_244_p14L (Q : lf_Z → Prop) (x1 : Int) (s : lf_Z) : Prop := ∀ X14 : Int → lf_Z → Prop, (∀ (x1 : Int) (s : lf_Z), fm_244_p14 Q X14 x1 s → X14 x1 s) → X14 x1 s
set_option maxRecDepth 100000 in
theorem gm_244_p14 {L : Nat} {xs : Nat → Int32} {d : Nat} {Q : lf_Z → Prop} {x1 : Int} {s : lf_Z} {X14 : Int → lf_Z → Prop} (hX14 : ∀ x1 s, X14 x1 s → lf_E (px_ro L xs) (d + 2) 244 14 [(0, .ref 95), (1, .int (Int32.ofInt x1))] [] s (lf_qv Q)) (h : fm_244_p14 Q X14 x1 s) : lf_E (px_ro L xs) (d + 2) 244 14 [(0, .ref 95), (1, .int (Int32.ofInt x1))] [] s (lf_qv Q) := by
  unfold fm_244_p14 at h
  refine lf_seg 1 (pc' := 15) (lv' := [(0, .ref 95), (1, .int (Int32.ofInt x1))]) (st' := [.int (Int32.ofInt x1)]) rfl ?_
  refine lf_sipush 18 1218 rfl rfl (by decide) (by decide) ?_
  obtain ⟨o47, h⟩ := h
  refine lf_icmp_ge 47 21 rfl rfl rfl o47 ⟨by decide, by decide⟩ (fun c => ?_) (fun c => ?_)
  · have h := h.1 c
    refine lf_seg 2 (pc' := 51) (lv' := [(0, .ref 95), (1, .int (Int32.ofInt x1))]) (st' := [.ref 96]) rfl ?_
    refine lf_bipush 53 9 rfl rfl (by decide) (by decide) ?_
    refine lf_seg 1 (pc' := 54) (lv' := [(0, .ref 95), (1, .int (Int32.ofInt x1))]) (st' := [.int (Int32.ofInt 9), .ref 96, .int (Int32.ofInt 9), .ref 96]) rfl ?_
    refine lf_iald 55 1538 rfl rfl rfl rfl rfl rfl ⟨by decide, by decide⟩ ?_
    refine lf_seg 1 (pc' := 56) (lv' := [(0, .ref 95), (1, .int (Int32.ofInt x1))]) (st' := [.int (Int32.ofInt 1), .int (Int32.ofInt (s.1 96 9)), .int (Int32.ofInt 9), .ref 96]) rfl ?_
    refine lf_isub 57 rfl rfl ?_
    refine lf_iast 58 1538 rfl rfl rfl rfl rfl rfl ⟨by decide, by decide⟩ ?_
    refine lf_as (lf_up s.1 96 9 ((s.1 96 9) - 1), s.2.1, s.2.2) rfl ?_
    refine lf_sub (l := [(0, .ref 95)]) (lf_sb1 rfl lf_sb0) ?_
    exact gm_244_p58 h
  · have h := h.2 c
    refine lf_seg 2 (pc' := 25) (lv' := [(0, .ref 95), (1, .int (Int32.ofInt x1))]) (st' := [.ref 96]) rfl ?_
    refine lf_sipush 28 278 rfl rfl (by decide) (by decide) ?_
    refine lf_seg 1 (pc' := 29) (lv' := [(0, .ref 95), (1, .int (Int32.ofInt x1))]) (st' := [.int (Int32.ofInt x1), .int (Int32.ofInt 278), .ref 96]) rfl ?_
    refine lf_iadd 30 rfl rfl ?_
    refine lf_seg 2 (pc' := 34) (lv' := [(0, .ref 95), (1, .int (Int32.ofInt x1))]) (st' := [.ref 96, .int (Int32.ofInt (278 + x1)), .ref 96]) rfl ?_
    refine lf_sipush 37 320 rfl rfl (by decide) (by decide) ?_
    refine lf_seg 1 (pc' := 38) (lv' := [(0, .ref 95), (1, .int (Int32.ofInt x1))]) (st' := [.int (Int32.ofInt x1), .int (Int32.ofInt 320), .ref 96, .int (Int32.ofInt (278 + x1)), .ref 96]) rfl ?_
    refine lf_iadd 39 rfl rfl ?_
    obtain ⟨o48, h⟩ := h
    refine lf_iald 40 1538 rfl rfl rfl rfl rfl rfl o48 ?_
    obtain ⟨o49, h⟩ := h
    refine lf_iast 41 1538 rfl rfl rfl rfl rfl rfl o49 ?_
    refine lf_as (lf_up s.1 96 (278 + x1) (s.1 96 (320 + x1)), s.2.1, s.2.2) rfl ?_
    refine lf_iinc 44 rfl rfl rfl rfl ?_
    refine lf_seg 1 (pc' := 14) (lv' := [(1, .int (Int32.ofInt (x1 + 1))), (0, .ref 95)]) (st' := []) rfl ?_
    refine lf_sub (l := [(0, .ref 95), (1, .int (Int32.ofInt (x1 + 1)))]) (lf_sb1 rfl (lf_sb1 rfl lf_sb0)) ?_
    exact hX14 _ _ h
theorem gm_244_p14L {L : Nat} {xs : Nat → Int32} {d : Nat} {Q : lf_Z → Prop} {x1 : Int} {s : lf_Z} (h : fm_244_p14L Q x1 s) : lf_E (px_ro L xs) (d + 2) 244 14 [(0, .ref 95), (1, .int (Int32.ofInt x1))] [] s (lf_qv Q) :=
  h (fun x1 s => lf_E (px_ro L xs) (d + 2) 244 14 [(0, .ref 95), (1, .int (Int32.ofInt x1))] [] s (lf_qv Q)) (fun x1 s hb => gm_244_p14 (fun _ _ h => h) hb)
def fm_244 (Q : lf_Z → Prop) (s : lf_Z) : Prop := lf_R (s.1 96 9) ∧ ((s.1 96 9 ≠ 30 → (fm_244_p58 Q s)) ∧ (¬ (s.1 96 9 ≠ 30) → (fm_244_p14L Q 0 s)))
set_option maxRecDepth 100000 in
theorem gm_244 {L : Nat} {xs : Nat → Int32} {d : Nat} {Q : lf_Z → Prop} {s : lf_Z} (h : fm_244 Q s) : lf_M (px_ro L xs) (d + 2) 244 [.ref 95] s (lf_qv Q) := by
  unfold fm_244 at h
  show lf_E (px_ro L xs) (d + 2) 244 0 [(0, .ref 95)] [] s _
  refine lf_seg 2 (pc' := 4) (lv' := [(0, .ref 95)]) (st' := [.ref 96]) rfl ?_
  refine lf_bipush 6 9 rfl rfl (by decide) (by decide) ?_
  refine lf_iald 7 1538 rfl rfl rfl rfl rfl rfl ⟨by decide, by decide⟩ ?_
  refine lf_bipush 9 30 rfl rfl (by decide) (by decide) ?_
  obtain ⟨o21, h⟩ := h
  refine lf_icmp_ne 58 12 rfl rfl rfl o21 ⟨by decide, by decide⟩ (fun c => ?_) (fun c => ?_)
  · have h := h.1 c
    refine lf_sub (l := [(0, .ref 95)]) (lf_sb1 rfl lf_sb0) ?_
    exact gm_244_p58 h
  · have h := h.2 c
    refine lf_seg 2 (pc' := 14) (lv' := [(1, .int (Int32.ofInt 0)), (0, .ref 95)]) (st' := []) rfl ?_
    refine lf_sub (l := [(0, .ref 95), (1, .int (Int32.ofInt 0))]) (lf_sb1 rfl (lf_sb1 rfl lf_sb0)) ?_
    exact gm_244_p14L h
-- fm_247 Model.layBunch 95 i i i i
def fm_247 (a1 : Int) (a2 : Int) (a3 : Int) (a4 : Int) (Q : lf_Z → Prop) (s : lf_Z) : Prop := (0 ≤ 114 + (3 * a1) ∧ 114 + (3 * a1) < 1538) ∧ ((0 ≤ (114 + (3 * a1)) + 1 ∧ (114 + (3 * a1)) + 1 < 1538) ∧ ((0 ≤ (114 + (3 * a1)) + 2 ∧ (114 + (3 * a1)) + 2 < 1538) ∧ (Q (lf_up (lf_up (lf_up s.1 96 (114 + (3 * a1)) a2) 96 ((114 + (3 * a1)) + 1) a3) 96 ((114 + (3 * a1)) + 2) a4, s.2.1, s.2.2))))
set_option maxRecDepth 100000 in
theorem gm_247 {L : Nat} {xs : Nat → Int32} {d : Nat} {a1 : Int} {a2 : Int} {a3 : Int} {a4 : Int} {Q : lf_Z → Prop} {s : lf_Z} (h : fm_247 a1 a2 a3 a4 Q s) : lf_M (px_ro L xs) (d + 1) 247 [.ref 95, .int (Int32.ofInt a1), .int (Int32.ofInt a2), .int (Int32.ofInt a3), .int (Int32.ofInt a4)] s (lf_qv Q) := by
  unfold fm_247 at h
  show lf_E (px_ro L xs) (d + 1) 247 0 [(0, .ref 95), (1, .int (Int32.ofInt a1)), (2, .int (Int32.ofInt a2)), (3, .int (Int32.ofInt a3)), (4, .int (Int32.ofInt a4))] [] s _
  refine lf_seg 2 (pc' := 4) (lv' := [(0, .ref 95), (1, .int (Int32.ofInt a1)), (2, .int (Int32.ofInt a2)), (3, .int (Int32.ofInt a3)), (4, .int (Int32.ofInt a4))]) (st' := [.ref 96]) rfl ?_
  refine lf_bipush 6 114 rfl rfl (by decide) (by decide) ?_
  refine lf_seg 2 (pc' := 8) (lv' := [(0, .ref 95), (1, .int (Int32.ofInt a1)), (2, .int (Int32.ofInt a2)), (3, .int (Int32.ofInt a3)), (4, .int (Int32.ofInt a4))]) (st' := [.int (Int32.ofInt a1), .int (Int32.ofInt 3), .int (Int32.ofInt 114), .ref 96]) rfl ?_
  refine lf_imul 9 rfl rfl ?_
  refine lf_iadd 10 rfl rfl ?_
  refine lf_seg 1 (pc' := 11) (lv' := [(0, .ref 95), (1, .int (Int32.ofInt a1)), (2, .int (Int32.ofInt a2)), (3, .int (Int32.ofInt a3)), (4, .int (Int32.ofInt a4))]) (st' := [.int (Int32.ofInt a2), .int (Int32.ofInt (114 + (3 * a1))), .ref 96]) rfl ?_
  obtain ⟨o21, h⟩ := h
  refine lf_iast 12 1538 rfl rfl rfl rfl rfl rfl o21 ?_
  refine lf_as (lf_up s.1 96 (114 + (3 * a1)) a2, s.2.1, s.2.2) rfl ?_
  refine lf_seg 2 (pc' := 16) (lv' := [(0, .ref 95), (1, .int (Int32.ofInt a1)), (2, .int (Int32.ofInt a2)), (3, .int (Int32.ofInt a3)), (4, .int (Int32.ofInt a4))]) (st' := [.ref 96]) rfl ?_
  refine lf_bipush 18 114 rfl rfl (by decide) (by decide) ?_
  refine lf_seg 2 (pc' := 20) (lv' := [(0, .ref 95), (1, .int (Int32.ofInt a1)), (2, .int (Int32.ofInt a2)), (3, .int (Int32.ofInt a3)), (4, .int (Int32.ofInt a4))]) (st' := [.int (Int32.ofInt a1), .int (Int32.ofInt 3), .int (Int32.ofInt 114), .ref 96]) rfl ?_
  refine lf_imul 21 rfl rfl ?_
  refine lf_iadd 22 rfl rfl ?_
  refine lf_seg 1 (pc' := 23) (lv' := [(0, .ref 95), (1, .int (Int32.ofInt a1)), (2, .int (Int32.ofInt a2)), (3, .int (Int32.ofInt a3)), (4, .int (Int32.ofInt a4))]) (st' := [.int (Int32.ofInt 1), .int (Int32.ofInt (114 + (3 * a1))), .ref 96]) rfl ?_
  refine lf_iadd 24 rfl rfl ?_
  refine lf_seg 1 (pc' := 25) (lv' := [(0, .ref 95), (1, .int (Int32.ofInt a1)), (2, .int (Int32.ofInt a2)), (3, .int (Int32.ofInt a3)), (4, .int (Int32.ofInt a4))]) (st' := [.int (Int32.ofInt a3), .int (Int32.ofInt ((114 + (3 * a1)) + 1)), .ref 96]) rfl ?_
  obtain ⟨o22, h⟩ := h
  refine lf_iast 26 1538 rfl rfl rfl rfl rfl rfl o22 ?_
  refine lf_as (lf_up (lf_up s.1 96 (114 + (3 * a1)) a2) 96 ((114 + (3 * a1)) + 1) a3, s.2.1, s.2.2) rfl ?_
  refine lf_seg 2 (pc' := 30) (lv' := [(0, .ref 95), (1, .int (Int32.ofInt a1)), (2, .int (Int32.ofInt a2)), (3, .int (Int32.ofInt a3)), (4, .int (Int32.ofInt a4))]) (st' := [.ref 96]) rfl ?_
  refine lf_bipush 32 114 rfl rfl (by decide) (by decide) ?_
  refine lf_seg 2 (pc' := 34) (lv' := [(0, .ref 95), (1, .int (Int32.ofInt a1)), (2, .int (Int32.ofInt a2)), (3, .int (Int32.ofInt a3)), (4, .int (Int32.ofInt a4))]) (st' := [.int (Int32.ofInt a1), .int (Int32.ofInt 3), .int (Int32.ofInt 114), .ref 96]) rfl ?_
  refine lf_imul 35 rfl rfl ?_
  refine lf_iadd 36 rfl rfl ?_
  refine lf_seg 1 (pc' := 37) (lv' := [(0, .ref 95), (1, .int (Int32.ofInt a1)), (2, .int (Int32.ofInt a2)), (3, .int (Int32.ofInt a3)), (4, .int (Int32.ofInt a4))]) (st' := [.int (Int32.ofInt 2), .int (Int32.ofInt (114 + (3 * a1))), .ref 96]) rfl ?_
  refine lf_iadd 38 rfl rfl ?_
  refine lf_seg 1 (pc' := 40) (lv' := [(0, .ref 95), (1, .int (Int32.ofInt a1)), (2, .int (Int32.ofInt a2)), (3, .int (Int32.ofInt a3)), (4, .int (Int32.ofInt a4))]) (st' := [.int (Int32.ofInt a4), .int (Int32.ofInt ((114 + (3 * a1)) + 2)), .ref 96]) rfl ?_
  obtain ⟨o23, h⟩ := h
  refine lf_iast 41 1538 rfl rfl rfl rfl rfl rfl o23 ?_
  refine lf_as (lf_up (lf_up (lf_up s.1 96 (114 + (3 * a1)) a2) 96 ((114 + (3 * a1)) + 1) a3) 96 ((114 + (3 * a1)) + 2) a4, s.2.1, s.2.2) rfl ?_
  exact lf_retV rfl rfl h
-- fm_240 Model.stray 95 i i
def fm_240 (a1 : Int) (a2 : Int) (Q : Int → lf_Z → Prop) (s : lf_Z) : Prop := fm_241 (fun r22 s21 => (fm_183 a1 1 24 (fun z24 s23 => ((z24 = false → (Q (-1) s23)) ∧ (z24 = true → (fm_185 a2 (fun z26 s25 => ((z26 = false → (Q (-1) s25)) ∧ (z26 = true → (fm_243 (fun r28 s27 => (lf_R (r28 + a1) ∧ ((24 < r28 + a1 → (Q (-1) s27)) ∧ (¬ (24 < r28 + a1) → (lf_R r22 ∧ ((0 ≤ r22 → (fm_244 (fun s31 => (fm_247 r22 a1 a2 (-1) (fun s32 => (Q r22 s32)) s31)) s27)) ∧ (¬ (0 ≤ r22) → (Q (-1) s27)))))))) s25)))) s23)))) s21)) s
set_option maxRecDepth 100000 in
theorem gm_240 {L : Nat} {xs : Nat → Int32} {d : Nat} {a1 : Int} {a2 : Int} {Q : Int → lf_Z → Prop} {s : lf_Z} (h : fm_240 a1 a2 Q s) : lf_M (px_ro L xs) (d + 3) 240 [.ref 95, .int (Int32.ofInt a1), .int (Int32.ofInt a2)] s (lf_qi Q) := by
  unfold fm_240 at h
  show lf_E (px_ro L xs) (d + 3) 240 0 [(0, .ref 95), (1, .int (Int32.ofInt a1)), (2, .int (Int32.ofInt a2))] [] s _
  refine lf_seg 1 (pc' := 1) (lv' := [(0, .ref 95), (1, .int (Int32.ofInt a1)), (2, .int (Int32.ofInt a2))]) (st' := [.ref 95]) rfl ?_
  refine lf_callI 4 rfl rfl rfl rfl (gm_241 h) (fun r22 s21 h => ?_)
  refine lf_seg 3 (pc' := 7) (lv' := [(3, .int (Int32.ofInt r22)), (0, .ref 95), (1, .int (Int32.ofInt a1)), (2, .int (Int32.ofInt a2))]) (st' := [.int (Int32.ofInt 1), .int (Int32.ofInt a1)]) rfl ?_
  refine lf_bipush 9 24 rfl rfl (by decide) (by decide) ?_
  refine lf_callZ 12 rfl rfl rfl rfl (gm_183 h) (fun z24 s23 h => ?_)
  refine lf_ifz_eq 38 15 rfl rfl rfl (fun c => ?_) (fun c => ?_)
  · have h := h.1 c
    refine lf_seg 1 (pc' := 39) (lv' := [(3, .int (Int32.ofInt r22)), (0, .ref 95), (1, .int (Int32.ofInt a1)), (2, .int (Int32.ofInt a2))]) (st' := [.int (Int32.ofInt (-1))]) rfl ?_
    exact lf_retI rfl rfl h
  · have h := h.2 c
    refine lf_seg 2 (pc' := 17) (lv' := [(3, .int (Int32.ofInt r22)), (0, .ref 95), (1, .int (Int32.ofInt a1)), (2, .int (Int32.ofInt a2))]) (st' := [.int (Int32.ofInt a2), .ref 95]) rfl ?_
    refine lf_callZ 20 rfl rfl rfl rfl (gm_185 h) (fun z26 s25 h => ?_)
    refine lf_ifz_eq 38 23 rfl rfl rfl (fun c => ?_) (fun c => ?_)
    · have h := h.1 c
      refine lf_seg 1 (pc' := 39) (lv' := [(3, .int (Int32.ofInt r22)), (0, .ref 95), (1, .int (Int32.ofInt a1)), (2, .int (Int32.ofInt a2))]) (st' := [.int (Int32.ofInt (-1))]) rfl ?_
      exact lf_retI rfl rfl h
    · have h := h.2 c
      refine lf_seg 1 (pc' := 24) (lv' := [(3, .int (Int32.ofInt r22)), (0, .ref 95), (1, .int (Int32.ofInt a1)), (2, .int (Int32.ofInt a2))]) (st' := [.ref 95]) rfl ?_
      refine lf_callI 27 rfl rfl rfl rfl (gm_243 h) (fun r28 s27 h => ?_)
      refine lf_seg 1 (pc' := 28) (lv' := [(3, .int (Int32.ofInt r22)), (0, .ref 95), (1, .int (Int32.ofInt a1)), (2, .int (Int32.ofInt a2))]) (st' := [.int (Int32.ofInt a1), .int (Int32.ofInt r28)]) rfl ?_
      refine lf_iadd 29 rfl rfl ?_
      refine lf_bipush 31 24 rfl rfl (by decide) (by decide) ?_
      obtain ⟨o29, h⟩ := h
      refine lf_icmp_gt 38 34 rfl rfl rfl o29 ⟨by decide, by decide⟩ (fun c => ?_) (fun c => ?_)
      · have h := h.1 c
        refine lf_seg 1 (pc' := 39) (lv' := [(3, .int (Int32.ofInt r22)), (0, .ref 95), (1, .int (Int32.ofInt a1)), (2, .int (Int32.ofInt a2))]) (st' := [.int (Int32.ofInt (-1))]) rfl ?_
        exact lf_retI rfl rfl h
      · have h := h.2 c
        refine lf_seg 1 (pc' := 35) (lv' := [(3, .int (Int32.ofInt r22)), (0, .ref 95), (1, .int (Int32.ofInt a1)), (2, .int (Int32.ofInt a2))]) (st' := [.int (Int32.ofInt r22)]) rfl ?_
        obtain ⟨o30, h⟩ := h
        refine lf_if_ge 40 38 rfl rfl rfl o30 (fun c => ?_) (fun c => ?_)
        · have h := h.1 c
          refine lf_seg 1 (pc' := 41) (lv' := [(3, .int (Int32.ofInt r22)), (0, .ref 95), (1, .int (Int32.ofInt a1)), (2, .int (Int32.ofInt a2))]) (st' := [.ref 95]) rfl ?_
          refine lf_callV 44 rfl rfl rfl rfl (gm_244 h) (fun s31 h => ?_)
          refine lf_seg 5 (pc' := 49) (lv' := [(3, .int (Int32.ofInt r22)), (0, .ref 95), (1, .int (Int32.ofInt a1)), (2, .int (Int32.ofInt a2))]) (st' := [.int (Int32.ofInt (-1)), .int (Int32.ofInt a2), .int (Int32.ofInt a1), .int (Int32.ofInt r22), .ref 95]) rfl ?_
          refine lf_callV 52 rfl rfl rfl rfl (gm_247 h) (fun s32 h => ?_)
          refine lf_seg 1 (pc' := 53) (lv' := [(3, .int (Int32.ofInt r22)), (0, .ref 95), (1, .int (Int32.ofInt a1)), (2, .int (Int32.ofInt a2))]) (st' := [.int (Int32.ofInt r22)]) rfl ?_
          exact lf_retI rfl rfl h
        · have h := h.2 c
          refine lf_seg 1 (pc' := 39) (lv' := [(3, .int (Int32.ofInt r22)), (0, .ref 95), (1, .int (Int32.ofInt a1)), (2, .int (Int32.ofInt a2))]) (st' := [.int (Int32.ofInt (-1))]) rfl ?_
          exact lf_retI rfl rfl h
