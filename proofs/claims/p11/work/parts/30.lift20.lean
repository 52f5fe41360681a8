-- fm_160 Laws.shareOf 63 n i
def fm_160 (a2 : Int) (Q : Int → lf_Z → Prop) (s : lf_Z) : Prop := Q 100 s
set_option maxRecDepth 100000 in
theorem gm_160 {L : Nat} {xs : Nat → Int32} {d : Nat} {a2 : Int} {Q : Int → lf_Z → Prop} {s : lf_Z} (h : fm_160 a2 Q s) : lf_M (px_ro L xs) (d + 1) 160 [.ref 63, .null, .int (Int32.ofInt a2)] s (lf_qi Q) := by
  unfold fm_160 at h
  show lf_E (px_ro L xs) (d + 1) 160 0 [(0, .ref 63), (1, .null), (2, .int (Int32.ofInt a2))] [] s _
  refine lf_seg 1 (pc' := 1) (lv' := [(0, .ref 63), (1, .null), (2, .int (Int32.ofInt a2))]) (st' := [.null]) rfl ?_
  refine lf_null_t 23 rfl rfl ?_
  refine lf_bipush 25 100 rfl rfl (by decide) (by decide) ?_
  exact lf_retI rfl rfl h
-- fm_159 ElevenBullocks.costAt 0 i n
def fm_159 (a1 : Int) (Q : Int → lf_Z → Prop) (s : lf_Z) : Prop := (0 ≤ a1 ∧ a1 < 12) ∧ (fm_160 a1 (fun r23 s22 => (Q ((lf_w ((s.1 21 a1) * r23)).tdiv 100) s22)) s)
set_option maxRecDepth 100000 in
theorem gm_159 {L : Nat} {xs : Nat → Int32} {d : Nat} {a1 : Int} {Q : Int → lf_Z → Prop} {s : lf_Z} (h : fm_159 a1 Q s) : lf_M (px_ro L xs) (d + 2) 159 [.ref 0, .int (Int32.ofInt a1), .null] s (lf_qi Q) := by
  unfold fm_159 at h
  show lf_E (px_ro L xs) (d + 2) 159 0 [(0, .ref 0), (1, .int (Int32.ofInt a1)), (2, .null)] [] s _
  refine lf_seg 4 (pc' := 8) (lv' := [(0, .ref 0), (1, .int (Int32.ofInt a1)), (2, .null)]) (st' := [.int (Int32.ofInt a1), .ref 21]) rfl ?_
  obtain ⟨o21, h⟩ := h
  refine lf_iald 9 12 rfl rfl rfl rfl rfl rfl o21 ?_
  refine lf_seg 4 (pc' := 15) (lv' := [(0, .ref 0), (1, .int (Int32.ofInt a1)), (2, .null)]) (st' := [.int (Int32.ofInt a1), .null, .ref 63, .int (Int32.ofInt (s.1 21 a1))]) rfl ?_
  refine lf_callI 18 rfl rfl rfl rfl (gm_160 h) (fun r23 s22 h => ?_)
  refine lf_imul 19 rfl rfl ?_
  refine lf_wtI ?_
  refine lf_bipush 21 100 rfl rfl (by decide) (by decide) ?_
  refine lf_idiv 22 rfl rfl lf_Rw ⟨by decide, by decide⟩ (by decide) ?_
  exact lf_retI rfl rfl h
-- fm_160b Laws.shareOf 63 t i
def fm_160b (t1 : Nat) (a2 : Int) (Q : Int → lf_Z → Prop) (s : lf_Z) : Prop := fm_40 t1 2 (fun z22 s21 => ((z22 = false → (Q 100 s21)) ∧ (z22 = true → (fm_18 a2 (fun z24 s23 => ((z24 = true → (fm_82 0 a2 0 (fun s25 => ((0 ≤ a2 ∧ a2 < 12) ∧ (fm_55 (s25.1 21 a2) 0 1000000 (fun r28 s27 => (fm_84b t1 2 (fun r30 s29 => (fm_55 r30 0 100 (fun r32 s31 => (Q r32 s31)) s29)) (lf_up s27.1 64 9 r28, s27.2.1, s27.2.2))) s25))) s23)) ∧ (z24 = false → (Q 100 s23)))) s21)))) s
set_option maxRecDepth 100000 in
theorem gm_160b {L : Nat} {xs : Nat → Int32} {d : Nat} {t1 : Nat} {a2 : Int} {Q : Int → lf_Z → Prop} {s : lf_Z} (htt1 : t1 < 4) (h : fm_160b t1 a2 Q s) : lf_M (px_ro L xs) (d + 3) 160 [.ref 63, .ref (35 + 7 * t1), .int (Int32.ofInt a2)] s (lf_qi Q) := by
  unfold fm_160b at h
  show lf_E (px_ro L xs) (d + 3) 160 0 [(0, .ref 63), (1, .ref (35 + 7 * t1)), (2, .int (Int32.ofInt a2))] [] s _
  refine lf_seg 1 (pc' := 1) (lv' := [(0, .ref 63), (1, .ref (35 + 7 * t1)), (2, .int (Int32.ofInt a2))]) (st' := [.ref (35 + 7 * t1)]) rfl ?_
  refine lf_null_f 4 rfl rfl ?_
  refine lf_seg 2 (pc' := 6) (lv' := [(0, .ref 63), (1, .ref (35 + 7 * t1)), (2, .int (Int32.ofInt a2))]) (st' := [.int (Int32.ofInt 2), .ref (35 + 7 * t1)]) rfl ?_
  refine lf_callZ 9 rfl rfl (lf_invT htt1 rfl rfl rfl rfl) rfl (gm_40 htt1 h) (fun z22 s21 h => ?_)
  refine lf_ifz_eq 23 12 rfl rfl rfl (fun c => ?_) (fun c => ?_)
  · have h := h.1 c
    refine lf_bipush 25 100 rfl rfl (by decide) (by decide) ?_
    exact lf_retI rfl rfl h
  · have h := h.2 c
    refine lf_seg 3 (pc' := 17) (lv' := [(0, .ref 63), (1, .ref (35 + 7 * t1)), (2, .int (Int32.ofInt a2))]) (st' := [.int (Int32.ofInt a2), .ref 1]) rfl ?_
    refine lf_callZ 20 rfl rfl rfl rfl (gm_18 h) (fun z24 s23 h => ?_)
    refine lf_ifz_ne 26 23 rfl rfl rfl (fun c => ?_) (fun c => ?_)
    · have h := h.1 c
      refine lf_seg 4 (pc' := 30) (lv' := [(0, .ref 63), (1, .ref (35 + 7 * t1)), (2, .int (Int32.ofInt a2))]) (st' := [.int (Int32.ofInt 0), .int (Int32.ofInt a2), .int (Int32.ofInt 0), .ref 63]) rfl ?_
      refine lf_callV 33 rfl rfl rfl rfl (gm_82 h) (fun s25 h => ?_)
      refine lf_seg 2 (pc' := 37) (lv' := [(0, .ref 63), (1, .ref (35 + 7 * t1)), (2, .int (Int32.ofInt a2))]) (st' := [.ref 64]) rfl ?_
      refine lf_bipush 39 9 rfl rfl (by decide) (by decide) ?_
      refine lf_seg 4 (pc' := 47) (lv' := [(0, .ref 63), (1, .ref (35 + 7 * t1)), (2, .int (Int32.ofInt a2))]) (st' := [.int (Int32.ofInt a2), .ref 21, .int (Int32.ofInt 9), .ref 64]) rfl ?_
      obtain ⟨o26, h⟩ := h
      refine lf_iald 48 12 rfl rfl rfl rfl rfl rfl o26 ?_
      refine lf_seg 1 (pc' := 49) (lv' := [(0, .ref 63), (1, .ref (35 + 7 * t1)), (2, .int (Int32.ofInt a2))]) (st' := [.int (Int32.ofInt 0), .int (Int32.ofInt (s25.1 21 a2)), .int (Int32.ofInt 9), .ref 64]) rfl ?_
      refine lf_ldc 51 1000000 rfl rfl rfl (by decide) ?_
      refine lf_callI 54 rfl rfl rfl rfl (gm_55 h) (fun r28 s27 h => ?_)
      refine lf_iast 55 11 rfl rfl rfl rfl rfl rfl ⟨by decide, by decide⟩ ?_
      refine lf_as (lf_up s27.1 64 9 r28, s27.2.1, s27.2.2) rfl ?_
      refine lf_seg 3 (pc' := 58) (lv' := [(0, .ref 63), (1, .ref (35 + 7 * t1)), (2, .int (Int32.ofInt a2))]) (st' := [.int (Int32.ofInt 2), .ref (35 + 7 * t1), .ref 63]) rfl ?_
      refine lf_callI 61 rfl rfl rfl rfl (gm_84b htt1 h) (fun r30 s29 h => ?_)
      refine lf_seg 1 (pc' := 62) (lv' := [(0, .ref 63), (1, .ref (35 + 7 * t1)), (2, .int (Int32.ofInt a2))]) (st' := [.int (Int32.ofInt 0), .int (Int32.ofInt r30)]) rfl ?_
      refine lf_bipush 64 100 rfl rfl (by decide) (by decide) ?_
      refine lf_callI 67 rfl rfl rfl rfl (gm_55 h) (fun r32 s31 h => ?_)
      exact lf_retI rfl rfl h
    · have h := h.2 c
      refine lf_bipush 25 100 rfl rfl (by decide) (by decide) ?_
      exact lf_retI rfl rfl h
-- fm_159b ElevenBullocks.costAt 0 i t
def fm_159b (a1 : Int) (t2 : Nat) (Q : Int → lf_Z → Prop) (s : lf_Z) : Prop := (0 ≤ a1 ∧ a1 < 12) ∧ (fm_160b t2 a1 (fun r23 s22 => (Q ((lf_w ((s.1 21 a1) * r23)).tdiv 100) s22)) s)
set_option maxRecDepth 100000 in
theorem gm_159b {L : Nat} {xs : Nat → Int32} {d : Nat} {a1 : Int} {t2 : Nat} {Q : Int → lf_Z → Prop} {s : lf_Z} (htt2 : t2 < 4) (h : fm_159b a1 t2 Q s) : lf_M (px_ro L xs) (d + 4) 159 [.ref 0, .int (Int32.ofInt a1), .ref (35 + 7 * t2)] s (lf_qi Q) := by
  unfold fm_159b at h
  show lf_E (px_ro L xs) (d + 4) 159 0 [(0, .ref 0), (1, .int (Int32.ofInt a1)), (2, .ref (35 + 7 * t2))] [] s _
  refine lf_seg 4 (pc' := 8) (lv' := [(0, .ref 0), (1, .int (Int32.ofInt a1)), (2, .ref (35 + 7 * t2))]) (st' := [.int (Int32.ofInt a1), .ref 21]) rfl ?_
  obtain ⟨o21, h⟩ := h
  refine lf_iald 9 12 rfl rfl rfl rfl rfl rfl o21 ?_
  refine lf_seg 4 (pc' := 15) (lv' := [(0, .ref 0), (1, .int (Int32.ofInt a1)), (2, .ref (35 + 7 * t2))]) (st' := [.int (Int32.ofInt a1), .ref (35 + 7 * t2), .ref 63, .int (Int32.ofInt (s.1 21 a1))]) rfl ?_
  refine lf_callI 18 rfl rfl rfl rfl (gm_160b htt2 h) (fun r23 s22 h => ?_)
  refine lf_imul 19 rfl rfl ?_
  refine lf_wtI ?_
  refine lf_bipush 21 100 rfl rfl (by decide) (by decide) ?_
  refine lf_idiv 22 rfl rfl lf_Rw ⟨by decide, by decide⟩ (by decide) ?_
  exact lf_retI rfl rfl h
-- fm_158 ElevenBullocks.pays 0 i i
def fm_158 (a1 : Int) (a2 : Int) (Q : Int → lf_Z → Prop) (s : lf_Z) : Prop := fm_18 a1 (fun z22 s21 => ((z22 = false → (Q (-1) s21)) ∧ (z22 = true → (fm_15 a2 (-1) ((s21.1 0 11) - 1) (fun z24 s23 => ((z24 = true → (fm_62 a2 (fun r27 s25 => (r27 = none → (fm_159 a1 (fun r29 s28 => (Q r29 s28)) s25)) ∧ (∀ t26 : Nat, r27 = some t26 → t26 < 4 ∧ (fm_159b a1 t26 (fun r31 s30 => (Q r31 s30)) s25))) s23)) ∧ (z24 = false → (Q (-1) s23)))) s21)))) s
set_option maxRecDepth 100000 in
theorem gm_158 {L : Nat} {xs : Nat → Int32} {d : Nat} {a1 : Int} {a2 : Int} {Q : Int → lf_Z → Prop} {s : lf_Z} (h : fm_158 a1 a2 Q s) : lf_M (px_ro L xs) (d + 5) 158 [.ref 0, .int (Int32.ofInt a1), .int (Int32.ofInt a2)] s (lf_qi Q) := by
  unfold fm_158 at h
  show lf_E (px_ro L xs) (d + 5) 158 0 [(0, .ref 0), (1, .int (Int32.ofInt a1)), (2, .int (Int32.ofInt a2))] [] s _
  refine lf_seg 3 (pc' := 5) (lv' := [(0, .ref 0), (1, .int (Int32.ofInt a1)), (2, .int (Int32.ofInt a2))]) (st' := [.int (Int32.ofInt a1), .ref 1]) rfl ?_
  refine lf_callZ 8 rfl rfl rfl rfl (gm_18 h) (fun z22 s21 h => ?_)
  refine lf_ifz_eq 25 11 rfl rfl rfl (fun c => ?_) (fun c => ?_)
  · have h := h.1 c
    refine lf_seg 1 (pc' := 26) (lv' := [(0, .ref 0), (1, .int (Int32.ofInt a1)), (2, .int (Int32.ofInt a2))]) (st' := [.int (Int32.ofInt (-1))]) rfl ?_
    exact lf_retI rfl rfl h
  · have h := h.2 c
    refine lf_seg 3 (pc' := 14) (lv' := [(0, .ref 0), (1, .int (Int32.ofInt a1)), (2, .int (Int32.ofInt a2))]) (st' := [.ref 0, .int (Int32.ofInt (-1)), .int (Int32.ofInt a2)]) rfl ?_
    refine lf_getI 17 11 rfl rfl rfl rfl rfl rfl rfl ?_
    refine lf_seg 1 (pc' := 18) (lv' := [(0, .ref 0), (1, .int (Int32.ofInt a1)), (2, .int (Int32.ofInt a2))]) (st' := [.int (Int32.ofInt 1), .int (Int32.ofInt (s21.1 0 11)), .int (Int32.ofInt (-1)), .int (Int32.ofInt a2)]) rfl ?_
    refine lf_isub 19 rfl rfl ?_
    refine lf_callZ 22 rfl rfl rfl rfl (gm_15 h) (fun z24 s23 h => ?_)
    refine lf_ifz_ne 27 25 rfl rfl rfl (fun c => ?_) (fun c => ?_)
    · have h := h.1 c
      refine lf_seg 4 (pc' := 31) (lv' := [(0, .ref 0), (1, .int (Int32.ofInt a1)), (2, .int (Int32.ofInt a2))]) (st' := [.int (Int32.ofInt a2), .ref 0, .int (Int32.ofInt a1), .ref 0]) rfl ?_
      refine lf_callR 34 rfl rfl rfl rfl (gm_62 h) (fun s25 h => ?_) (fun t26 s25 h => ?_)
      · have h := h.1 rfl
        refine lf_callI 37 rfl rfl rfl rfl (gm_159 h) (fun r29 s28 h => ?_)
        exact lf_retI rfl rfl h
      · obtain ⟨htt26, h⟩ := h.2 _ rfl
        refine lf_callI 37 rfl rfl rfl rfl (gm_159b htt26 h) (fun r31 s30 h => ?_)
        exact lf_retI rfl rfl h
    · have h := h.2 c
      refine lf_seg 1 (pc' := 26) (lv' := [(0, .ref 0), (1, .int (Int32.ofInt a1)), (2, .int (Int32.ofInt a2))]) (st' := [.int (Int32.ofInt (-1))]) rfl ?_
      exact lf_retI rfl rfl h
-- fm_315 Model.paysBy 95 i i
def fm_315 (a1 : Int) (a2 : Int) (Q : Int → lf_Z → Prop) (s : lf_Z) : Prop := fm_264 0 a1 (fun s21 => (fm_246 a1 (fun r23 s22 => (fm_246 a1 (fun r25 s24 => (lf_R r25 ∧ (fm_267 a2 2 100 100 (fun r28 s27 => (lf_R r28 ∧ (Q (lf_w (lf_wl ((lf_wl (r25 * r28)).tdiv 100))) s27))) s24))) (lf_up s22.1 104 10 r23, s22.2.1, s22.2.2))) s21)) s
set_option maxRecDepth 100000 in
theorem gm_315 {L : Nat} {xs : Nat → Int32} {d : Nat} {a1 : Int} {a2 : Int} {Q : Int → lf_Z → Prop} {s : lf_Z} (h : fm_315 a1 a2 Q s) : lf_M (px_ro L xs) (d + 5) 315 [.ref 95, .int (Int32.ofInt a1), .int (Int32.ofInt a2)] s (lf_qi Q) := by
  unfold fm_315 at h
  show lf_E (px_ro L xs) (d + 5) 315 0 [(0, .ref 95), (1, .int (Int32.ofInt a1)), (2, .int (Int32.ofInt a2))] [] s _
  refine lf_seg 3 (pc' := 3) (lv' := [(0, .ref 95), (1, .int (Int32.ofInt a1)), (2, .int (Int32.ofInt a2))]) (st' := [.int (Int32.ofInt a1), .int (Int32.ofInt 0), .ref 95]) rfl ?_
  refine lf_callV 6 rfl rfl rfl rfl (gm_264 h) (fun s21 h => ?_)
  refine lf_seg 2 (pc' := 10) (lv' := [(0, .ref 95), (1, .int (Int32.ofInt a1)), (2, .int (Int32.ofInt a2))]) (st' := [.ref 104]) rfl ?_
  refine lf_bipush 12 10 rfl rfl (by decide) (by decide) ?_
  refine lf_seg 2 (pc' := 14) (lv' := [(0, .ref 95), (1, .int (Int32.ofInt a1)), (2, .int (Int32.ofInt a2))]) (st' := [.int (Int32.ofInt a1), .ref 95, .int (Int32.ofInt 10), .ref 104]) rfl ?_
  refine lf_callI 17 rfl rfl rfl rfl (gm_246 h) (fun r23 s22 h => ?_)
  refine lf_iast 18 11 rfl rfl rfl rfl rfl rfl ⟨by decide, by decide⟩ ?_
  refine lf_as (lf_up s22.1 104 10 r23, s22.2.1, s22.2.2) rfl ?_
  refine lf_seg 2 (pc' := 20) (lv' := [(0, .ref 95), (1, .int (Int32.ofInt a1)), (2, .int (Int32.ofInt a2))]) (st' := [.int (Int32.ofInt a1), .ref 95]) rfl ?_
  refine lf_callI 23 rfl rfl rfl rfl (gm_246 h) (fun r25 s24 h => ?_)
  obtain ⟨o26, h⟩ := h
  refine lf_i2l 24 rfl rfl o26 ?_
  refine lf_seg 3 (pc' := 27) (lv' := [(0, .ref 95), (1, .int (Int32.ofInt a1)), (2, .int (Int32.ofInt a2))]) (st' := [.int (Int32.ofInt 2), .int (Int32.ofInt a2), .ref 95, .long (Int64.ofInt r25)]) rfl ?_
  refine lf_bipush 29 100 rfl rfl (by decide) (by decide) ?_
  refine lf_bipush 31 100 rfl rfl (by decide) (by decide) ?_
  refine lf_callI 34 rfl rfl rfl rfl (gm_267 h) (fun r28 s27 h => ?_)
  obtain ⟨o29, h⟩ := h
  refine lf_i2l 35 rfl rfl o29 ?_
  refine lf_lmul 36 rfl rfl ?_
  refine lf_wtL ?_
  refine lf_ldc2 39 100 rfl rfl rfl (by decide) ?_
  refine lf_ldiv 40 rfl rfl lf_RLwl ⟨by decide, by decide⟩ (by decide) ?_
  refine lf_wtL ?_
  refine lf_l2i 41 rfl rfl ?_
  refine lf_wtI ?_
  exact lf_retI rfl rfl h
-- fm_314 Model.pays 95 i i
def fm_314 (a1 : Int) (a2 : Int) (Q : Int → lf_Z → Prop) (s : lf_Z) : Prop := fm_185 a1 (fun z22 s21 => ((z22 = false → (Q (-1) s21)) ∧ (z22 = true → (fm_183 a2 (-1) ((s21.1 96 7) - 1) (fun z24 s23 => ((z24 = false → (Q (-1) s23)) ∧ (z24 = true → (fm_315 a1 a2 (fun r26 s25 => (Q r26 s25)) s23)))) s21)))) s
set_option maxRecDepth 100000 in
theorem gm_314 {L : Nat} {xs : Nat → Int32} {d : Nat} {a1 : Int} {a2 : Int} {Q : Int → lf_Z → Prop} {s : lf_Z} (h : fm_314 a1 a2 Q s) : lf_M (px_ro L xs) (d + 6) 314 [.ref 95, .int (Int32.ofInt a1), .int (Int32.ofInt a2)] s (lf_qi Q) := by
  unfold fm_314 at h
  show lf_E (px_ro L xs) (d + 6) 314 0 [(0, .ref 95), (1, .int (Int32.ofInt a1)), (2, .int (Int32.ofInt a2))] [] s _
  refine lf_seg 2 (pc' := 2) (lv' := [(0, .ref 95), (1, .int (Int32.ofInt a1)), (2, .int (Int32.ofInt a2))]) (st' := [.int (Int32.ofInt a1), .ref 95]) rfl ?_
  refine lf_callZ 5 rfl rfl rfl rfl (gm_185 h) (fun z22 s21 h => ?_)
  refine lf_ifz_eq 34 8 rfl rfl rfl (fun c => ?_) (fun c => ?_)
  · have h := h.1 c
    refine lf_seg 1 (pc' := 35) (lv' := [(0, .ref 95), (1, .int (Int32.ofInt a1)), (2, .int (Int32.ofInt a2))]) (st' := [.int (Int32.ofInt (-1))]) rfl ?_
    exact lf_retI rfl rfl h
  · have h := h.2 c
    refine lf_seg 4 (pc' := 14) (lv' := [(0, .ref 95), (1, .int (Int32.ofInt a1)), (2, .int (Int32.ofInt a2))]) (st' := [.ref 96, .int (Int32.ofInt (-1)), .int (Int32.ofInt a2)]) rfl ?_
    refine lf_bipush 16 7 rfl rfl (by decide) (by decide) ?_
    refine lf_iald 17 1538 rfl rfl rfl rfl rfl rfl ⟨by decide, by decide⟩ ?_
    refine lf_seg 1 (pc' := 18) (lv' := [(0, .ref 95), (1, .int (Int32.ofInt a1)), (2, .int (Int32.ofInt a2))]) (st' := [.int (Int32.ofInt 1), .int (Int32.ofInt (s21.1 96 7)), .int (Int32.ofInt (-1)), .int (Int32.ofInt a2)]) rfl ?_
    refine lf_isub 19 rfl rfl ?_
    refine lf_callZ 22 rfl rfl rfl rfl (gm_183 h) (fun z24 s23 h => ?_)
    refine lf_ifz_eq 34 25 rfl rfl rfl (fun c => ?_) (fun c => ?_)
    · have h := h.1 c
      refine lf_seg 1 (pc' := 35) (lv' := [(0, .ref 95), (1, .int (Int32.ofInt a1)), (2, .int (Int32.ofInt a2))]) (st' := [.int (Int32.ofInt (-1))]) rfl ?_
      exact lf_retI rfl rfl h
    · have h := h.2 c
      refine lf_seg 3 (pc' := 28) (lv' := [(0, .ref 95), (1, .int (Int32.ofInt a1)), (2, .int (Int32.ofInt a2))]) (st' := [.int (Int32.ofInt a2), .int (Int32.ofInt a1), .ref 95]) rfl ?_
      refine lf_callI 31 rfl rfl rfl rfl (gm_315 h) (fun r26 s25 h => ?_)
      refine lf_seg 1 (pc' := 35) (lv' := [(0, .ref 95), (1, .int (Int32.ofInt a1)), (2, .int (Int32.ofInt a2))]) (st' := [.int (Int32.ofInt r26)]) rfl ?_
      exact lf_retI rfl rfl h
-- fm_162 ElevenBullocks.costOfGardens 0 i
def fm_162_p41 (X4 : Int → Int → lf_Z → Prop) (Q : Int → lf_Z → Prop) (x1 : Int) (x2 : Int) (x3 : Int) (s : lf_Z) : Prop := X4 x2 (x3 + 1) s
set_option maxRecDepth 100000 in
theorem gm_162_p41 {L : Nat} {xs : Nat → Int32} {d : Nat} {X4 : Int → Int → lf_Z → Prop} {Q : Int → lf_Z → Prop} {x1 : Int} {x2 : Int} {x3 : Int} {s : lf_Z} (hX4 : ∀ x2 x3 s, X4 x2 x3 s → lf_E (px_ro L xs) (d + 5) 162 4 [(0, .ref 0), (1, .int (Int32.ofInt x1)), (2, .int (Int32.ofInt x2)), (3, .int (Int32.ofInt x3))] [] s (lf_qi Q)) (h : fm_162_p41 X4 Q x1 x2 x3 s) : lf_E (px_ro L xs) (d + 5) 162 41 [(0, .ref 0), (1, .int (Int32.ofInt x1)), (2, .int (Int32.ofInt x2)), (3, .int (Int32.ofInt x3))] [] s (lf_qi Q) := by
  unfold fm_162_p41 at h
  refine lf_iinc 44 rfl rfl rfl rfl ?_
  refine lf_seg 1 (pc' := 4) (lv' := [(3, .int (Int32.ofInt (x3 + 1))), (0, .ref 0), (1, .int (Int32.ofInt x1)), (2, .int (Int32.ofInt x2))]) (st' := []) rfl ?_
  refine lf_sub (l := [(0, .ref 0), (1, .int (Int32.ofInt x1)), (2, .int (Int32.ofInt x2)), (3, .int (Int32.ofInt (x3 + 1)))]) (lf_sb1 rfl (lf_sb1 rfl (lf_sb1 rfl (lf_sb1 rfl lf_sb0)))) ?_
  exact hX4 _ _ _ h
def fm_162_p4 (Q : Int → lf_Z → Prop) (x1 : Int) (X4 : Int → Int → lf_Z → Prop) (x2 : Int) (x3 : Int) (s : lf_Z) : Prop := lf_R x3 ∧ (lf_R (s.1 1 0) ∧ ((s.1 1 0 ≤ x3 → (Q x2 s)) ∧ (¬ (s.1 1 0 ≤ x3) → ((0 ≤ x3 ∧ x3 < 12) ∧ (lf_R (s.1 2 x3) ∧ ((s.1 2 x3 ≠ 1 → (fm_162_p41 X4 Q x1 x2 x3 s)) ∧ (¬ (s.1 2 x3 ≠ 1) → (fm_62 x1 (fun r27 s25 => (r27 = none → (fm_159 x3 (fun r29 s28 => (fm_162_p41 X4 Q x1 (lf_w (x2 + r29)) x3 s28)) s25)) ∧ (∀ t26 : Nat, r27 = some t26 → t26 < 4 ∧ (fm_159b x3 t26 (fun r31 s30 => (fm_162_p41 X4 Q x1 (lf_w (x2 + r31)) x3 s30)) s25))) s))))))))
def fm_162_p4L (Q : Int → lf_Z → Prop) (x1 : Int) (x2 : Int) (x3 : Int) (s : lf_Z) : Prop := ∀ X4 : Int → Int → lf_Z → Prop, (∀ (x2 : Int) (x3 : Int) (s : lf_Z), fm_162_p4 Q x1 X4 x2 x3 s → X4 x2 x3 s) → X4 x2 x3 s
set_option maxRecDepth 100000 in
theorem gm_162_p4 {L : Nat} {xs : Nat → Int32} {d : Nat} {Q : Int → lf_Z → Prop} {x1 : Int} {x2 : Int} {x3 : Int} {s : lf_Z} {X4 : Int → Int → lf_Z → Prop} (hX4 : ∀ x2 x3 s, X4 x2 x3 s → lf_E (px_ro L xs) (d + 5) 162 4 [(0, .ref 0), (1, .int (Int32.ofInt x1)), (2, .int (Int32.ofInt x2)), (3, .int (Int32.ofInt x3))] [] s (lf_qi Q)) (h : fm_162_p4 Q x1 X4 x2 x3 s) : lf_E (px_ro L xs) (d + 5) 162 4 [(0, .ref 0), (1, .int (Int32.ofInt x1)), (2, .int (Int32.ofInt x2)), (3, .int (Int32.ofInt x3))] [] s (lf_qi Q) := by
  unfold fm_162_p4 at h
  refine lf_seg 3 (pc' := 9) (lv' := [(0, .ref 0), (1, .int (Int32.ofInt x1)), (2, .int (Int32.ofInt x2)), (3, .int (Int32.ofInt x3))]) (st' := [.ref 1, .int (Int32.ofInt x3)]) rfl ?_
  refine lf_getI 12 0 rfl rfl rfl rfl rfl rfl rfl ?_
  obtain ⟨o21, h⟩ := h
  obtain ⟨o22, h⟩ := h
  refine lf_icmp_ge 47 15 rfl rfl rfl o21 o22 (fun c => ?_) (fun c => ?_)
  · have h := h.1 c
    refine lf_seg 1 (pc' := 48) (lv' := [(0, .ref 0), (1, .int (Int32.ofInt x1)), (2, .int (Int32.ofInt x2)), (3, .int (Int32.ofInt x3))]) (st' := [.int (Int32.ofInt x2)]) rfl ?_
    exact lf_retI rfl rfl h
  · have h := h.2 c
    refine lf_seg 4 (pc' := 23) (lv' := [(0, .ref 0), (1, .int (Int32.ofInt x1)), (2, .int (Int32.ofInt x2)), (3, .int (Int32.ofInt x3))]) (st' := [.int (Int32.ofInt x3), .ref 2]) rfl ?_
    obtain ⟨o23, h⟩ := h
    refine lf_iald 24 12 rfl rfl rfl rfl rfl rfl o23 ?_
    refine lf_seg 1 (pc' := 25) (lv' := [(0, .ref 0), (1, .int (Int32.ofInt x1)), (2, .int (Int32.ofInt x2)), (3, .int (Int32.ofInt x3))]) (st' := [.int (Int32.ofInt 1), .int (Int32.ofInt (s.1 2 x3))]) rfl ?_
    obtain ⟨o24, h⟩ := h
    refine lf_icmp_ne 41 28 rfl rfl rfl o24 ⟨by decide, by decide⟩ (fun c => ?_) (fun c => ?_)
    · have h := h.1 c
      refine lf_sub (l := [(0, .ref 0), (1, .int (Int32.ofInt x1)), (2, .int (Int32.ofInt x2)), (3, .int (Int32.ofInt x3))]) (lf_sb1 rfl (lf_sb1 rfl (lf_sb1 rfl (lf_sb1 rfl lf_sb0)))) ?_
      exact gm_162_p41 hX4 h
    · have h := h.2 c
      refine lf_seg 5 (pc' := 33) (lv' := [(0, .ref 0), (1, .int (Int32.ofInt x1)), (2, .int (Int32.ofInt x2)), (3, .int (Int32.ofInt x3))]) (st' := [.int (Int32.ofInt x1), .ref 0, .int (Int32.ofInt x3), .ref 0, .int (Int32.ofInt x2)]) rfl ?_
      refine lf_callR 36 rfl rfl rfl rfl (gm_62 h) (fun s25 h => ?_) (fun t26 s25 h => ?_)
      · have h := h.1 rfl
        refine lf_callI 39 rfl rfl rfl rfl (gm_159 h) (fun r29 s28 h => ?_)
        refine lf_iadd 40 rfl rfl ?_
        refine lf_wtI ?_
        refine lf_seg 1 (pc' := 41) (lv' := [(2, .int (Int32.ofInt (lf_w (x2 + r29)))), (0, .ref 0), (1, .int (Int32.ofInt x1)), (3, .int (Int32.ofInt x3))]) (st' := []) rfl ?_
        refine lf_sub (l := [(0, .ref 0), (1, .int (Int32.ofInt x1)), (2, .int (Int32.ofInt (lf_w (x2 + r29)))), (3, .int (Int32.ofInt x3))]) (lf_sb1 rfl (lf_sb1 rfl (lf_sb1 rfl (lf_sb1 rfl lf_sb0)))) ?_
        exact gm_162_p41 hX4 h
      · obtain ⟨htt26, h⟩ := h.2 _ rfl
        refine lf_callI 39 rfl rfl rfl rfl (gm_159b htt26 h) (fun r31 s30 h => ?_)
        refine lf_iadd 40 rfl rfl ?_
        refine lf_wtI ?_
        refine lf_seg 1 (pc' := 41) (lv' := [(2, .int (Int32.ofInt (lf_w (x2 + r31)))), (0, .ref 0), (1, .int (Int32.ofInt x1)), (3, .int (Int32.ofInt x3))]) (st' := []) rfl ?_
        refine lf_sub (l := [(0, .ref 0), (1, .int (Int32.ofInt x1)), (2, .int (Int32.ofInt (lf_w (x2 + r31)))), (3, .int (Int32.ofInt x3))]) (lf_sb1 rfl (lf_sb1 rfl (lf_sb1 rfl (lf_sb1 rfl lf_sb0)))) ?_
        exact gm_162_p41 hX4 h
theorem gm_162_p4L {L : Nat} {xs : Nat → Int32} {d : Nat} {Q : Int → lf_Z → Prop} {x1 : Int} {x2 : Int} {x3 : Int} {s : lf_Z} (h : fm_162_p4L Q x1 x2 x3 s) : lf_E (px_ro L xs) (d + 5) 162 4 [(0, .ref 0), (1, .int (Int32.ofInt x1)), (2, .int (Int32.ofInt x2)), (3, .int (Int32.ofInt x3))] [] s (lf_qi Q) :=
  h (fun x2 x3 s => lf_E (px_ro L xs) (d + 5) 162 4 [(0, .ref 0), (1, .int (Int32.ofInt x1)), (2, .int (Int32.ofInt x2)), (3, .int (Int32.ofInt x3))] [] s (lf_qi Q)) (fun x2 x3 s hb => gm_162_p4 (fun _ _ _ h => h) hb)
def fm_162 (a1 : Int) (Q : Int → lf_Z → Prop) (s : lf_Z) : Prop := fm_162_p4L Q a1 0 0 s
set_option maxRecDepth 100000 in
theorem gm_162 {L : Nat} {xs : Nat → Int32} {d : Nat} {a1 : Int} {Q : Int → lf_Z → Prop} {s : lf_Z} (h : fm_162 a1 Q s) : lf_M (px_ro L xs) (d + 5) 162 [.ref 0, .int (Int32.ofInt a1)] s (lf_qi Q) := by
  unfold fm_162 at h
  show lf_E (px_ro L xs) (d + 5) 162 0 [(0, .ref 0), (1, .int (Int32.ofInt a1))] [] s _
  refine lf_seg 4 (pc' := 4) (lv' := [(3, .int (Int32.ofInt 0)), (2, .int (Int32.ofInt 0)), (0, .ref 0), (1, .int (Int32.ofInt a1))]) (st' := []) rfl ?_
  refine lf_sub (l := [(0, .ref 0), (1, .int (Int32.ofInt a1)), (2, .int (Int32.ofInt 0)), (3, .int (Int32.ofInt 0))]) (lf_sb1 rfl (lf_sb1 rfl (lf_sb1 rfl (lf_sb1 rfl lf_sb0)))) ?_
  exact gm_162_p4L h
-- fm_161 ElevenBullocks.cheapest 0
def fm_161_p36 (X10 : Int → Int → Int → lf_Z → Prop) (Q : Int → lf_Z → Prop) (x1 : Int) (x2 : Int) (x3 : Int) (s : lf_Z) : Prop := X10 x1 x2 (x3 + 1) s
set_option maxRecDepth 100000 in
theorem gm_161_p36 {L : Nat} {xs : Nat → Int32} {d : Nat} {X10 : Int → Int → Int → lf_Z → Prop} {Q : Int → lf_Z → Prop} {x1 : Int} {x2 : Int} {x3 : Int} {s : lf_Z} (hX10 : ∀ x1 x2 x3 s, X10 x1 x2 x3 s → lf_E (px_ro L xs) (d + 6) 161 10 [(0, .ref 0), (1, .int (Int32.ofInt x1)), (2, .int (Int32.ofInt x2)), (3, .int (Int32.ofInt x3))] [] s (lf_qi Q)) (h : fm_161_p36 X10 Q x1 x2 x3 s) : lf_E (px_ro L xs) (d + 6) 161 36 [(0, .ref 0), (1, .int (Int32.ofInt x1)), (2, .int (Int32.ofInt x2)), (3, .int (Int32.ofInt x3))] [] s (lf_qi Q) := by
  unfold fm_161_p36 at h
  refine lf_iinc 39 rfl rfl rfl rfl ?_
  refine lf_seg 1 (pc' := 10) (lv' := [(3, .int (Int32.ofInt (x3 + 1))), (0, .ref 0), (1, .int (Int32.ofInt x1)), (2, .int (Int32.ofInt x2))]) (st' := []) rfl ?_
  refine lf_sub (l := [(0, .ref 0), (1, .int (Int32.ofInt x1)), (2, .int (Int32.ofInt x2)), (3, .int (Int32.ofInt (x3 + 1)))]) (lf_sb1 rfl (lf_sb1 rfl (lf_sb1 rfl (lf_sb1 rfl lf_sb0)))) ?_
  exact hX10 _ _ _ _ h
def fm_161_p10 (Q : Int → lf_Z → Prop) (X10 : Int → Int → Int → lf_Z → Prop) (x1 : Int) (x2 : Int) (x3 : Int) (s : lf_Z) : Prop := lf_R x3 ∧ (lf_R (s.1 0 11) ∧ ((s.1 0 11 ≤ x3 → (Q x1 s)) ∧ (¬ (s.1 0 11 ≤ x3) → (fm_162 x3 (fun r26 s25 => (lf_R r26 ∧ (lf_R x2 ∧ ((x2 ≤ r26 → (fm_161_p36 X10 Q x1 x2 x3 s25)) ∧ (¬ (x2 ≤ r26) → (fm_161_p36 X10 Q x3 r26 x3 s25)))))) s))))
def fm_161_p10L (Q : Int → lf_Z → Prop) (x1 : Int) (x2 : Int) (x3 : Int) (s : lf_Z) : Prop := ∀ X10 : Int → Int → Int → lf_Z → Prop, (∀ (x1 : Int) (x2 : Int) (x3 : Int) (s : lf_Z), fm_161_p10 Q X10 x1 x2 x3 s → X10 x1 x2 x3 s) → X10 x1 x2 x3 s
set_option maxRecDepth 100000 in
theorem gm_161_p10 {L : Nat} {xs : Nat → Int32} {d : Nat} {Q : Int → lf_Z → Prop} {x1 : Int} {x2 : Int} {x3 : Int} {s : lf_Z} {X10 : Int → Int → Int → lf_Z → Prop} (hX10 : ∀ x1 x2 x3 s, X10 x1 x2 x3 s → lf_E (px_ro L xs) (d + 6) 161 10 [(0, .ref 0), (1, .int (Int32.ofInt x1)), (2, .int (Int32.ofInt x2)), (3, .int (Int32.ofInt x3))] [] s (lf_qi Q)) (h : fm_161_p10 Q X10 x1 x2 x3 s) : lf_E (px_ro L xs) (d + 6) 161 10 [(0, .ref 0), (1, .int (Int32.ofInt x1)), (2, .int (Int32.ofInt x2)), (3, .int (Int32.ofInt x3))] [] s (lf_qi Q) := by
  unfold fm_161_p10 at h
  refine lf_seg 2 (pc' := 12) (lv' := [(0, .ref 0), (1, .int (Int32.ofInt x1)), (2, .int (Int32.ofInt x2)), (3, .int (Int32.ofInt x3))]) (st' := [.ref 0, .int (Int32.ofInt x3)]) rfl ?_
  refine lf_getI 15 11 rfl rfl rfl rfl rfl rfl rfl ?_
  obtain ⟨o23, h⟩ := h
  obtain ⟨o24, h⟩ := h
  refine lf_icmp_ge 42 18 rfl rfl rfl o23 o24 (fun c => ?_) (fun c => ?_)
  · have h := h.1 c
    refine lf_seg 1 (pc' := 43) (lv' := [(0, .ref 0), (1, .int (Int32.ofInt x1)), (2, .int (Int32.ofInt x2)), (3, .int (Int32.ofInt x3))]) (st' := [.int (Int32.ofInt x1)]) rfl ?_
    exact lf_retI rfl rfl h
  · have h := h.2 c
    refine lf_seg 2 (pc' := 20) (lv' := [(0, .ref 0), (1, .int (Int32.ofInt x1)), (2, .int (Int32.ofInt x2)), (3, .int (Int32.ofInt x3))]) (st' := [.int (Int32.ofInt x3), .ref 0]) rfl ?_
    refine lf_callI 23 rfl rfl rfl rfl (gm_162 h) (fun r26 s25 h => ?_)
    refine lf_seg 3 (pc' := 28) (lv' := [(4, .int (Int32.ofInt r26)), (0, .ref 0), (1, .int (Int32.ofInt x1)), (2, .int (Int32.ofInt x2)), (3, .int (Int32.ofInt x3))]) (st' := [.int (Int32.ofInt x2), .int (Int32.ofInt r26)]) rfl ?_
    obtain ⟨o27, h⟩ := h
    obtain ⟨o28, h⟩ := h
    refine lf_icmp_ge 36 31 rfl rfl rfl o27 o28 (fun c => ?_) (fun c => ?_)
    · have h := h.1 c
      refine lf_sub (l := [(0, .ref 0), (1, .int (Int32.ofInt x1)), (2, .int (Int32.ofInt x2)), (3, .int (Int32.ofInt x3))]) (lf_sb1 rfl (lf_sb1 rfl (lf_sb1 rfl (lf_sb1 rfl lf_sb0)))) ?_
      exact gm_161_p36 hX10 h
    · have h := h.2 c
      refine lf_seg 4 (pc' := 36) (lv' := [(1, .int (Int32.ofInt x3)), (2, .int (Int32.ofInt r26)), (4, .int (Int32.ofInt r26)), (0, .ref 0), (3, .int (Int32.ofInt x3))]) (st' := []) rfl ?_
      refine lf_sub (l := [(0, .ref 0), (1, .int (Int32.ofInt x3)), (2, .int (Int32.ofInt r26)), (3, .int (Int32.ofInt x3))]) (lf_sb1 rfl (lf_sb1 rfl (lf_sb1 rfl (lf_sb1 rfl lf_sb0)))) ?_
      exact gm_161_p36 hX10 h
theorem gm_161_p10L {L : Nat} {xs : Nat → Int32} {d : Nat} {Q : Int → lf_Z → Prop} {x1 : Int} {x2 : Int} {x3 : Int} {s : lf_Z} (h : fm_161_p10L Q x1 x2 x3 s) : lf_E (px_ro L xs) (d + 6) 161 10 [(0, .ref 0), (1, .int (Int32.ofInt x1)), (2, .int (Int32.ofInt x2)), (3, .int (Int32.ofInt x3))] [] s (lf_qi Q) :=
  h (fun x1 x2 x3 s => lf_E (px_ro L xs) (d + 6) 161 10 [(0, .ref 0), (1, .int (Int32.ofInt x1)), (2, .int (Int32.ofInt x2)), (3, .int (Int32.ofInt x3))] [] s (lf_qi Q)) (fun x1 x2 x3 s hb => gm_161_p10 (fun _ _ _ _ h => h) hb)
def fm_161 (Q : Int → lf_Z → Prop) (s : lf_Z) : Prop := fm_162 (-1) (fun r22 s21 => (fm_161_p10L Q (-1) r22 0 s21)) s
set_option maxRecDepth 100000 in
theorem gm_161 {L : Nat} {xs : Nat → Int32} {d : Nat} {Q : Int → lf_Z → Prop} {s : lf_Z} (h : fm_161 Q s) : lf_M (px_ro L xs) (d + 6) 161 [.ref 0] s (lf_qi Q) := by
  unfold fm_161 at h
  show lf_E (px_ro L xs) (d + 6) 161 0 [(0, .ref 0)] [] s _
  refine lf_seg 4 (pc' := 4) (lv' := [(1, .int (Int32.ofInt (-1))), (0, .ref 0)]) (st' := [.int (Int32.ofInt (-1)), .ref 0]) rfl ?_
  refine lf_callI 7 rfl rfl rfl rfl (gm_162 h) (fun r22 s21 h => ?_)
  refine lf_seg 3 (pc' := 10) (lv' := [(3, .int (Int32.ofInt 0)), (2, .int (Int32.ofInt r22)), (1, .int (Int32.ofInt (-1))), (0, .ref 0)]) (st' := []) rfl ?_
  refine lf_sub (l := [(0, .ref 0), (1, .int (Int32.ofInt (-1))), (2, .int (Int32.ofInt r22)), (3, .int (Int32.ofInt 0))]) (lf_sb1 rfl (lf_sb1 rfl (lf_sb1 rfl (lf_sb1 rfl lf_sb0)))) ?_
  exact gm_161_p10L h
-- fm_317 Model.costBy 95 i
def fm_317_p34 (X4 : Int → Int → lf_Z → Prop) (Q : Int → lf_Z → Prop) (x1 : Int) (x3 : Int) (y0 : Int) (y1 : Int) (s : lf_Z) : Prop := X4 (lf_w (y0 + y1)) (x3 + 1) s
set_option maxRecDepth 100000 in
theorem gm_317_p34 {L : Nat} {xs : Nat → Int32} {d : Nat} {X4 : Int → Int → lf_Z → Prop} {Q : Int → lf_Z → Prop} {x1 : Int} {x3 : Int} {y0 : Int} {y1 : Int} {s : lf_Z} (hX4 : ∀ x2 x3 s, X4 x2 x3 s → lf_E (px_ro L xs) (d + 6) 317 4 [(0, .ref 95), (1, .int (Int32.ofInt x1)), (2, .int (Int32.ofInt x2)), (3, .int (Int32.ofInt x3))] [] s (lf_qi Q)) (h : fm_317_p34 X4 Q x1 x3 y0 y1 s) : lf_E (px_ro L xs) (d + 6) 317 34 [(0, .ref 95), (1, .int (Int32.ofInt x1)), (3, .int (Int32.ofInt x3))] [.int (Int32.ofInt y1), .int (Int32.ofInt y0)] s (lf_qi Q) := by
  unfold fm_317_p34 at h
  refine lf_iadd 35 rfl rfl ?_
  refine lf_wtI ?_
  refine lf_seg 1 (pc' := 36) (lv' := [(2, .int (Int32.ofInt (lf_w (y0 + y1)))), (0, .ref 95), (1, .int (Int32.ofInt x1)), (3, .int (Int32.ofInt x3))]) (st' := []) rfl ?_
  refine lf_iinc 39 rfl rfl rfl rfl ?_
  refine lf_seg 1 (pc' := 4) (lv' := [(3, .int (Int32.ofInt (x3 + 1))), (2, .int (Int32.ofInt (lf_w (y0 + y1)))), (0, .ref 95), (1, .int (Int32.ofInt x1))]) (st' := []) rfl ?_
  refine lf_sub (l := [(0, .ref 95), (1, .int (Int32.ofInt x1)), (2, .int (Int32.ofInt (lf_w (y0 + y1)))), (3, .int (Int32.ofInt (x3 + 1)))]) (lf_sb1 rfl (lf_sb1 rfl (lf_sb1 rfl (lf_sb1 rfl lf_sb0)))) ?_
  exact hX4 _ _ _ h
def fm_317_p4 (Q : Int → lf_Z → Prop) (x1 : Int) (X4 : Int → Int → lf_Z → Prop) (x2 : Int) (x3 : Int) (s : lf_Z) : Prop := lf_R x3 ∧ (lf_R (s.1 96 0) ∧ ((s.1 96 0 ≤ x3 → (Q x2 s)) ∧ (¬ (s.1 96 0 ≤ x3) → (fm_265 x3 (fun r24 s23 => (lf_R r24 ∧ ((r24 ≠ 1 → (fm_317_p34 X4 Q x1 x3 x2 0 s23)) ∧ (¬ (r24 ≠ 1) → (fm_315 x3 x1 (fun r27 s26 => (fm_317_p34 X4 Q x1 x3 x2 r27 s26)) s23))))) s))))
def fm_317_p4L (Q : Int → lf_Z → Prop) (x1 : Int) (x2 : Int) (x3 : Int) (s : lf_Z) : Prop := ∀ X4 : Int → Int → lf_Z → Prop, (∀ (x2 : Int) (x3 : Int) (s : lf_Z), fm_317_p4 Q x1 X4 x2 x3 s → X4 x2 x3 s) → X4 x2 x3 s
set_option maxRecDepth 100000 in
theorem gm_317_p4 {L : Nat} {xs : Nat → Int32} {d : Nat} {Q : Int → lf_Z → Prop} {x1 : Int} {x2 : Int} {x3 : Int} {s : lf_Z} {X4 : Int → Int → lf_Z → Prop} (hX4 : ∀ x2 x3 s, X4 x2 x3 s → lf_E (px_ro L xs) (d + 6) 317 4 [(0, .ref 95), (1, .int (Int32.ofInt x1)), (2, .int (Int32.ofInt x2)), (3, .int (Int32.ofInt x3))] [] s (lf_qi Q)) (h : fm_317_p4 Q x1 X4 x2 x3 s) : lf_E (px_ro L xs) (d + 6) 317 4 [(0, .ref 95), (1, .int (Int32.ofInt x1)), (2, .int (Int32.ofInt x2)), (3, .int (Int32.ofInt x3))] [] s (lf_qi Q) := by
  unfold fm_317_p4 at h
  refine lf_seg 4 (pc' := 10) (lv' := [(0, .ref 95), (1, .int (Int32.ofInt x1)), (2, .int (Int32.ofInt x2)), (3, .int (Int32.ofInt x3))]) (st' := [.int (Int32.ofInt 0), .ref 96, .int (Int32.ofInt x3)]) rfl ?_
  refine lf_iald 11 1538 rfl rfl rfl rfl rfl rfl ⟨by decide, by decide⟩ ?_
  obtain ⟨o21, h⟩ := h
  obtain ⟨o22, h⟩ := h
  refine lf_icmp_ge 42 14 rfl rfl rfl o21 o22 (fun c => ?_) (fun c => ?_)
  · have h := h.1 c
    refine lf_seg 1 (pc' := 43) (lv' := [(0, .ref 95), (1, .int (Int32.ofInt x1)), (2, .int (Int32.ofInt x2)), (3, .int (Int32.ofInt x3))]) (st' := [.int (Int32.ofInt x2)]) rfl ?_
    exact lf_retI rfl rfl h
  · have h := h.2 c
    refine lf_seg 3 (pc' := 17) (lv' := [(0, .ref 95), (1, .int (Int32.ofInt x1)), (2, .int (Int32.ofInt x2)), (3, .int (Int32.ofInt x3))]) (st' := [.int (Int32.ofInt x3), .ref 95, .int (Int32.ofInt x2)]) rfl ?_
    refine lf_callI 20 rfl rfl rfl rfl (gm_265 h) (fun r24 s23 h => ?_)
    refine lf_seg 1 (pc' := 21) (lv' := [(0, .ref 95), (1, .int (Int32.ofInt x1)), (2, .int (Int32.ofInt x2)), (3, .int (Int32.ofInt x3))]) (st' := [.int (Int32.ofInt 1), .int (Int32.ofInt r24), .int (Int32.ofInt x2)]) rfl ?_
    obtain ⟨o25, h⟩ := h
    refine lf_icmp_ne 33 24 rfl rfl rfl o25 ⟨by decide, by decide⟩ (fun c => ?_) (fun c => ?_)
    · have h := h.1 c
      refine lf_seg 1 (pc' := 34) (lv' := [(0, .ref 95), (1, .int (Int32.ofInt x1)), (2, .int (Int32.ofInt x2)), (3, .int (Int32.ofInt x3))]) (st' := [.int (Int32.ofInt 0), .int (Int32.ofInt x2)]) rfl ?_
      refine lf_sub (l := [(0, .ref 95), (1, .int (Int32.ofInt x1)), (3, .int (Int32.ofInt x3))]) (lf_sb1 rfl (lf_sb1 rfl (lf_sb1 rfl lf_sb0))) ?_
      exact gm_317_p34 hX4 h
    · have h := h.2 c
      refine lf_seg 3 (pc' := 27) (lv' := [(0, .ref 95), (1, .int (Int32.ofInt x1)), (2, .int (Int32.ofInt x2)), (3, .int (Int32.ofInt x3))]) (st' := [.int (Int32.ofInt x1), .int (Int32.ofInt x3), .ref 95, .int (Int32.ofInt x2)]) rfl ?_
      refine lf_callI 30 rfl rfl rfl rfl (gm_315 h) (fun r27 s26 h => ?_)
      refine lf_seg 1 (pc' := 34) (lv' := [(0, .ref 95), (1, .int (Int32.ofInt x1)), (2, .int (Int32.ofInt x2)), (3, .int (Int32.ofInt x3))]) (st' := [.int (Int32.ofInt r27), .int (Int32.ofInt x2)]) rfl ?_
      refine lf_sub (l := [(0, .ref 95), (1, .int (Int32.ofInt x1)), (3, .int (Int32.ofInt x3))]) (lf_sb1 rfl (lf_sb1 rfl (lf_sb1 rfl lf_sb0))) ?_
      exact gm_317_p34 hX4 h
theorem gm_317_p4L {L : Nat} {xs : Nat → Int32} {d : Nat} {Q : Int → lf_Z → Prop} {x1 : Int} {x2 : Int} {x3 : Int} {s : lf_Z} (h : fm_317_p4L Q x1 x2 x3 s) : lf_E (px_ro L xs) (d + 6) 317 4 [(0, .ref 95), (1, .int (Int32.ofInt x1)), (2, .int (Int32.ofInt x2)), (3, .int (Int32.ofInt x3))] [] s (lf_qi Q) :=
  h (fun x2 x3 s => lf_E (px_ro L xs) (d + 6) 317 4 [(0, .ref 95), (1, .int (Int32.ofInt x1)), (2, .int (Int32.ofInt x2)), (3, .int (Int32.ofInt x3))] [] s (lf_qi Q)) (fun x2 x3 s hb => gm_317_p4 (fun _ _ _ h => h) hb)
def fm_317 (a1 : Int) (Q : Int → lf_Z → Prop) (s : lf_Z) : Prop := fm_317_p4L Q a1 0 0 s
set_option maxRecDepth 100000 in
theorem gm_317 {L : Nat} {xs : Nat → Int32} {d : Nat} {a1 : Int} {Q : Int → lf_Z → Prop} {s : lf_Z} (h : fm_317 a1 Q s) : lf_M (px_ro L xs) (d + 6) 317 [.ref 95, .int (Int32.ofInt a1)] s (lf_qi Q) := by
  unfold fm_317 at h
  show lf_E (px_ro L xs) (d + 6) 317 0 [(0, .ref 95), (1, .int (Int32.ofInt a1))] [] s _
  refine lf_seg 4 (pc' := 4) (lv' := [(3, .int (Int32.ofInt 0)), (2, .int (Int32.ofInt 0)), (0, .ref 95), (1, .int (Int32.ofInt a1))]) (st' := []) rfl ?_
  refine lf_sub (l := [(0, .ref 95), (1, .int (Int32.ofInt a1)), (2, .int (Int32.ofInt 0)), (3, .int (Int32.ofInt 0))]) (lf_sb1 rfl (lf_sb1 rfl (lf_sb1 rfl (lf_sb1 rfl lf_sb0)))) ?_
  exact gm_317_p4L h
-- fm_316 Model.cheapest 95
def fm_316_p30 (X4 : Int → Int → lf_Z → Prop) (Q : Int → lf_Z → Prop) (x1 : Int) (x2 : Int) (s : lf_Z) : Prop := X4 x1 (x2 + 1) s
set_option maxRecDepth 100000 in
theorem gm_316_p30 {L : Nat} {xs : Nat → Int32} {d : Nat} {X4 : Int → Int → lf_Z → Prop} {Q : Int → lf_Z → Prop} {x1 : Int} {x2 : Int} {s : lf_Z} (hX4 : ∀ x1 x2 s, X4 x1 x2 s → lf_E (px_ro L xs) (d + 7) 316 4 [(0, .ref 95), (1, .int (Int32.ofInt x1)), (2, .int (Int32.ofInt x2))] [] s (lf_qi Q)) (h : fm_316_p30 X4 Q x1 x2 s) : lf_E (px_ro L xs) (d + 7) 316 30 [(0, .ref 95), (1, .int (Int32.ofInt x1)), (2, .int (Int32.ofInt x2))] [] s (lf_qi Q) := by
  unfold fm_316_p30 at h
  refine lf_iinc 33 rfl rfl rfl rfl ?_
  refine lf_seg 1 (pc' := 4) (lv' := [(2, .int (Int32.ofInt (x2 + 1))), (0, .ref 95), (1, .int (Int32.ofInt x1))]) (st' := []) rfl ?_
  refine lf_sub (l := [(0, .ref 95), (1, .int (Int32.ofInt x1)), (2, .int (Int32.ofInt (x2 + 1)))]) (lf_sb1 rfl (lf_sb1 rfl (lf_sb1 rfl lf_sb0))) ?_
  exact hX4 _ _ _ h
def fm_316_p4 (Q : Int → lf_Z → Prop) (X4 : Int → Int → lf_Z → Prop) (x1 : Int) (x2 : Int) (s : lf_Z) : Prop := lf_R x2 ∧ (lf_R (s.1 96 7) ∧ ((s.1 96 7 ≤ x2 → (Q x1 s)) ∧ (¬ (s.1 96 7 ≤ x2) → (fm_317 x2 (fun r24 s23 => (fm_317 x1 (fun r26 s25 => (lf_R r24 ∧ (lf_R r26 ∧ ((r26 ≤ r24 → (fm_316_p30 X4 Q x1 x2 s25)) ∧ (¬ (r26 ≤ r24) → (fm_316_p30 X4 Q x2 x2 s25)))))) s23)) s))))
def fm_316_p4L (Q : Int → lf_Z → Prop) (x1 : Int) (x2 : Int) (s : lf_Z) : Prop := ∀ X4 : Int → Int → lf_Z → Prop, (∀ (x1 : Int) (x2 : Int) (s : lf_Z), fm_316_p4 Q X4 x1 x2 s → X4 x1 x2 s) → X4 x1 x2 s
set_option maxRecDepth 100000 in
theorem gm_316_p4 {L : Nat} {xs : Nat → Int32} {d : Nat} {Q : Int → lf_Z → Prop} {x1 : Int} {x2 : Int} {s : lf_Z} {X4 : Int → Int → lf_Z → Prop} (hX4 : ∀ x1 x2 s, X4 x1 x2 s → lf_E (px_ro L xs) (d + 7) 316 4 [(0, .ref 95), (1, .int (Int32.ofInt x1)), (2, .int (Int32.ofInt x2))] [] s (lf_qi Q)) (h : fm_316_p4 Q X4 x1 x2 s) : lf_E (px_ro L xs) (d + 7) 316 4 [(0, .ref 95), (1, .int (Int32.ofInt x1)), (2, .int (Int32.ofInt x2))] [] s (lf_qi Q) := by
  unfold fm_316_p4 at h
  refine lf_seg 3 (pc' := 9) (lv' := [(0, .ref 95), (1, .int (Int32.ofInt x1)), (2, .int (Int32.ofInt x2))]) (st' := [.ref 96, .int (Int32.ofInt x2)]) rfl ?_
  refine lf_bipush 11 7 rfl rfl (by decide) (by decide) ?_
  refine lf_iald 12 1538 rfl rfl rfl rfl rfl rfl ⟨by decide, by decide⟩ ?_
  obtain ⟨o21, h⟩ := h
  obtain ⟨o22, h⟩ := h
  refine lf_icmp_ge 36 15 rfl rfl rfl o21 o22 (fun c => ?_) (fun c => ?_)
  · have h := h.1 c
    refine lf_seg 1 (pc' := 37) (lv' := [(0, .ref 95), (1, .int (Int32.ofInt x1)), (2, .int (Int32.ofInt x2))]) (st' := [.int (Int32.ofInt x1)]) rfl ?_
    exact lf_retI rfl rfl h
  · have h := h.2 c
    refine lf_seg 2 (pc' := 17) (lv' := [(0, .ref 95), (1, .int (Int32.ofInt x1)), (2, .int (Int32.ofInt x2))]) (st' := [.int (Int32.ofInt x2), .ref 95]) rfl ?_
    refine lf_callI 20 rfl rfl rfl rfl (gm_317 h) (fun r24 s23 h => ?_)
    refine lf_seg 2 (pc' := 22) (lv' := [(0, .ref 95), (1, .int (Int32.ofInt x1)), (2, .int (Int32.ofInt x2))]) (st' := [.int (Int32.ofInt x1), .ref 95, .int (Int32.ofInt r24)]) rfl ?_
    refine lf_callI 25 rfl rfl rfl rfl (gm_317 h) (fun r26 s25 h => ?_)
    obtain ⟨o27, h⟩ := h
    obtain ⟨o28, h⟩ := h
    refine lf_icmp_ge 30 28 rfl rfl rfl o27 o28 (fun c => ?_) (fun c => ?_)
    · have h := h.1 c
      refine lf_sub (l := [(0, .ref 95), (1, .int (Int32.ofInt x1)), (2, .int (Int32.ofInt x2))]) (lf_sb1 rfl (lf_sb1 rfl (lf_sb1 rfl lf_sb0))) ?_
      exact gm_316_p30 hX4 h
    · have h := h.2 c
      refine lf_seg 2 (pc' := 30) (lv' := [(1, .int (Int32.ofInt x2)), (0, .ref 95), (2, .int (Int32.ofInt x2))]) (st' := []) rfl ?_
      refine lf_sub (l := [(0, .ref 95), (1, .int (Int32.ofInt x2)), (2, .int (Int32.ofInt x2))]) (lf_sb1 rfl (lf_sb1 rfl (lf_sb1 rfl lf_sb0))) ?_
      exact gm_316_p30 hX4 h
theorem gm_316_p4L {L : Nat} {xs : Nat → Int32} {d : Nat} {Q : Int → lf_Z → Prop} {x1 : Int} {x2 : Int} {s : lf_Z} (h : fm_316_p4L Q x1 x2 s) : lf_E (px_ro L xs) (d + 7) 316 4 [(0, .ref 95), (1, .int (Int32.ofInt x1)), (2, .int (Int32.ofInt x2))] [] s (lf_qi Q) :=
  h (fun x1 x2 s => lf_E (px_ro L xs) (d + 7) 316 4 [(0, .ref 95), (1, .int (Int32.ofInt x1)), (2, .int (Int32.ofInt x2))] [] s (lf_qi Q)) (fun x1 x2 s hb => gm_316_p4 (fun _ _ _ h => h) hb)
def fm_316 (Q : Int → lf_Z → Prop) (s : lf_Z) : Prop := fm_316_p4L Q (-1) 0 s
set_option maxRecDepth 100000 in
theorem gm_316 {L : Nat} {xs : Nat → Int32} {d : Nat} {Q : Int → lf_Z → Prop} {s : lf_Z} (h : fm_316 Q s) : lf_M (px_ro L xs) (d + 7) 316 [.ref 95] s (lf_qi Q) := by
  unfold fm_316 at h
  show lf_E (px_ro L xs) (d + 7) 316 0 [(0, .ref 95)] [] s _
  refine lf_seg 4 (pc' := 4) (lv' := [(2, .int (Int32.ofInt 0)), (1, .int (Int32.ofInt (-1))), (0, .ref 95)]) (st' := []) rfl ?_
  refine lf_sub (l := [(0, .ref 95), (1, .int (Int32.ofInt (-1))), (2, .int (Int32.ofInt 0))]) (lf_sb1 rfl (lf_sb1 rfl (lf_sb1 rfl lf_sb0))) ?_
  exact gm_316_p4L h
-- fm_163 ElevenBullocks.mending 0 i i i i i
def fm_163_p72 (Q : Bool → lf_Z → Prop) (x1 : Int) (x2 : Int) (x3 : Int) (x4 : Int) (x5 : Int) (y0 : Int) (s : lf_Z) : Prop := lf_R y0 ∧ ((y0 = 0 → ((y0 = 0 ∨ y0 = 1) ∧ (y0 = 0 → Q false s) ∧ (y0 = 1 → Q true s))) ∧ (¬ (y0 = 0) → ((0 ≤ x1 ∧ x1 < 16) ∧ ((y0 = 0 ∨ y0 = 1) ∧ (y0 = 0 → Q false (lf_up s.1 28 x1 (lf_w (((lf_w ((lf_w (x4 * x2)) * x5)).tdiv 10) - x3)), s.2.1, s.2.2)) ∧ (y0 = 1 → Q true (lf_up s.1 28 x1 (lf_w (((lf_w ((lf_w (x4 * x2)) * x5)).tdiv 10) - x3)), s.2.1, s.2.2))))))
set_option maxRecDepth 100000 in
theorem gm_163_p72 {L : Nat} {xs : Nat → Int32} {d : Nat} {Q : Bool → lf_Z → Prop} {x1 : Int} {x2 : Int} {x3 : Int} {x4 : Int} {x5 : Int} {y0 : Int} {s : lf_Z} (h : fm_163_p72 Q x1 x2 x3 x4 x5 y0 s) : lf_E (px_ro L xs) (d + 2) 163 72 [(0, .ref 0), (1, .int (Int32.ofInt x1)), (2, .int (Int32.ofInt x2)), (3, .int (Int32.ofInt x3)), (4, .int (Int32.ofInt x4)), (5, .int (Int32.ofInt x5))] [.int (Int32.ofInt y0)] s (lf_qz Q) := by
  unfold fm_163_p72 at h
  refine lf_seg 2 (pc' := 76) (lv' := [(6, .int (Int32.ofInt y0)), (0, .ref 0), (1, .int (Int32.ofInt x1)), (2, .int (Int32.ofInt x2)), (3, .int (Int32.ofInt x3)), (4, .int (Int32.ofInt x4)), (5, .int (Int32.ofInt x5))]) (st' := [.int (Int32.ofInt y0)]) rfl ?_
  obtain ⟨o24, h⟩ := h
  refine lf_if_eq 100 79 rfl rfl rfl o24 (fun c => ?_) (fun c => ?_)
  · have h := h.1 c
    refine lf_seg 1 (pc' := 102) (lv' := [(6, .int (Int32.ofInt y0)), (0, .ref 0), (1, .int (Int32.ofInt x1)), (2, .int (Int32.ofInt x2)), (3, .int (Int32.ofInt x3)), (4, .int (Int32.ofInt x4)), (5, .int (Int32.ofInt x5))]) (st' := [.int (Int32.ofInt y0)]) rfl ?_
    exact lf_retZv rfl rfl h.1 h.2.1 h.2.2
  · have h := h.2 c
    refine lf_seg 6 (pc' := 90) (lv' := [(6, .int (Int32.ofInt y0)), (0, .ref 0), (1, .int (Int32.ofInt x1)), (2, .int (Int32.ofInt x2)), (3, .int (Int32.ofInt x3)), (4, .int (Int32.ofInt x4)), (5, .int (Int32.ofInt x5))]) (st' := [.int (Int32.ofInt x2), .int (Int32.ofInt x4), .int (Int32.ofInt x1), .ref 28]) rfl ?_
    refine lf_imul 91 rfl rfl ?_
    refine lf_wtI ?_
    refine lf_seg 1 (pc' := 93) (lv' := [(6, .int (Int32.ofInt y0)), (0, .ref 0), (1, .int (Int32.ofInt x1)), (2, .int (Int32.ofInt x2)), (3, .int (Int32.ofInt x3)), (4, .int (Int32.ofInt x4)), (5, .int (Int32.ofInt x5))]) (st' := [.int (Int32.ofInt x5), .int (Int32.ofInt (lf_w (x4 * x2))), .int (Int32.ofInt x1), .ref 28]) rfl ?_
    refine lf_imul 94 rfl rfl ?_
    refine lf_wtI ?_
    refine lf_bipush 96 10 rfl rfl (by decide) (by decide) ?_
    refine lf_idiv 97 rfl rfl lf_Rw ⟨by decide, by decide⟩ (by decide) ?_
    refine lf_seg 1 (pc' := 98) (lv' := [(6, .int (Int32.ofInt y0)), (0, .ref 0), (1, .int (Int32.ofInt x1)), (2, .int (Int32.ofInt x2)), (3, .int (Int32.ofInt x3)), (4, .int (Int32.ofInt x4)), (5, .int (Int32.ofInt x5))]) (st' := [.int (Int32.ofInt x3), .int (Int32.ofInt ((lf_w ((lf_w (x4 * x2)) * x5)).tdiv 10)), .int (Int32.ofInt x1), .ref 28]) rfl ?_
    refine lf_isub 99 rfl rfl ?_
    refine lf_wtI ?_
    obtain ⟨o25, h⟩ := h
    refine lf_iast 100 16 rfl rfl rfl rfl rfl rfl o25 ?_
    refine lf_as (lf_up s.1 28 x1 (lf_w (((lf_w ((lf_w (x4 * x2)) * x5)).tdiv 10) - x3)), s.2.1, s.2.2) rfl ?_
    refine lf_seg 1 (pc' := 102) (lv' := [(6, .int (Int32.ofInt y0)), (0, .ref 0), (1, .int (Int32.ofInt x1)), (2, .int (Int32.ofInt x2)), (3, .int (Int32.ofInt x3)), (4, .int (Int32.ofInt x4)), (5, .int (Int32.ofInt x5))]) (st' := [.int (Int32.ofInt y0)]) rfl ?_
    exact lf_retZv rfl rfl h.1 h.2.1 h.2.2
def fm_163_p71 (Q : Bool → lf_Z → Prop) (x1 : Int) (x2 : Int) (x3 : Int) (x4 : Int) (x5 : Int) (s : lf_Z) : Prop := fm_163_p72 Q x1 x2 x3 x4 x5 0 s
set_option maxRecDepth 100000 in
theorem gm_163_p71 {L : Nat} {xs : Nat → Int32} {d : Nat} {Q : Bool → lf_Z → Prop} {x1 : Int} {x2 : Int} {x3 : Int} {x4 : Int} {x5 : Int} {s : lf_Z} (h : fm_163_p71 Q x1 x2 x3 x4 x5 s) : lf_E (px_ro L xs) (d + 2) 163 71 [(0, .ref 0), (1, .int (Int32.ofInt x1)), (2, .int (Int32.ofInt x2)), (3, .int (Int32.ofInt x3)), (4, .int (Int32.ofInt x4)), (5, .int (Int32.ofInt x5))] [] s (lf_qz Q) := by
  unfold fm_163_p71 at h
  refine lf_seg 1 (pc' := 72) (lv' := [(0, .ref 0), (1, .int (Int32.ofInt x1)), (2, .int (Int32.ofInt x2)), (3, .int (Int32.ofInt x3)), (4, .int (Int32.ofInt x4)), (5, .int (Int32.ofInt x5))]) (st' := [.int (Int32.ofInt 0)]) rfl ?_
  refine lf_sub (l := [(0, .ref 0), (1, .int (Int32.ofInt x1)), (2, .int (Int32.ofInt x2)), (3, .int (Int32.ofInt x3)), (4, .int (Int32.ofInt x4)), (5, .int (Int32.ofInt x5))]) (lf_sb1 rfl (lf_sb1 rfl (lf_sb1 rfl (lf_sb1 rfl (lf_sb1 rfl (lf_sb1 rfl lf_sb0)))))) ?_
  exact gm_163_p72 h
def fm_163_p37 (Q : Bool → lf_Z → Prop) (x1 : Int) (x2 : Int) (x3 : Int) (x4 : Int) (x5 : Int) (y0 : Int) (s : lf_Z) : Prop := lf_R y0 ∧ ((y0 = 0 → (fm_163_p71 Q x1 x2 x3 x4 x5 s)) ∧ (¬ (y0 = 0) → (fm_15 x4 0 999 (fun z27 s26 => ((z27 = false → (fm_163_p71 Q x1 x2 x3 x4 x5 s26)) ∧ (z27 = true → (fm_15 x5 1 99 (fun z29 s28 => ((z29 = false → (fm_163_p71 Q x1 x2 x3 x4 x5 s28)) ∧ (z29 = true → (fm_163_p72 Q x1 x2 x3 x4 x5 1 s28)))) s26)))) s)))
set_option maxRecDepth 100000 in
theorem gm_163_p37 {L : Nat} {xs : Nat → Int32} {d : Nat} {Q : Bool → lf_Z → Prop} {x1 : Int} {x2 : Int} {x3 : Int} {x4 : Int} {x5 : Int} {y0 : Int} {s : lf_Z} (h : fm_163_p37 Q x1 x2 x3 x4 x5 y0 s) : lf_E (px_ro L xs) (d + 2) 163 37 [(0, .ref 0), (1, .int (Int32.ofInt x1)), (2, .int (Int32.ofInt x2)), (3, .int (Int32.ofInt x3)), (4, .int (Int32.ofInt x4)), (5, .int (Int32.ofInt x5))] [.int (Int32.ofInt y0)] s (lf_qz Q) := by
  unfold fm_163_p37 at h
  refine lf_seg 2 (pc' := 41) (lv' := [(6, .int (Int32.ofInt y0)), (0, .ref 0), (1, .int (Int32.ofInt x1)), (2, .int (Int32.ofInt x2)), (3, .int (Int32.ofInt x3)), (4, .int (Int32.ofInt x4)), (5, .int (Int32.ofInt x5))]) (st' := [.int (Int32.ofInt y0)]) rfl ?_
  obtain ⟨o23, h⟩ := h
  refine lf_if_eq 71 44 rfl rfl rfl o23 (fun c => ?_) (fun c => ?_)
  · have h := h.1 c
    refine lf_sub (l := [(0, .ref 0), (1, .int (Int32.ofInt x1)), (2, .int (Int32.ofInt x2)), (3, .int (Int32.ofInt x3)), (4, .int (Int32.ofInt x4)), (5, .int (Int32.ofInt x5))]) (lf_sb1 rfl (lf_sb1 rfl (lf_sb1 rfl (lf_sb1 rfl (lf_sb1 rfl (lf_sb1 rfl lf_sb0)))))) ?_
    exact gm_163_p71 h
  · have h := h.2 c
    refine lf_seg 2 (pc' := 47) (lv' := [(6, .int (Int32.ofInt y0)), (0, .ref 0), (1, .int (Int32.ofInt x1)), (2, .int (Int32.ofInt x2)), (3, .int (Int32.ofInt x3)), (4, .int (Int32.ofInt x4)), (5, .int (Int32.ofInt x5))]) (st' := [.int (Int32.ofInt 0), .int (Int32.ofInt x4)]) rfl ?_
    refine lf_sipush 50 999 rfl rfl (by decide) (by decide) ?_
    refine lf_callZ 53 rfl rfl rfl rfl (gm_15 h) (fun z27 s26 h => ?_)
    refine lf_ifz_eq 71 56 rfl rfl rfl (fun c => ?_) (fun c => ?_)
    · have h := h.1 c
      refine lf_sub (l := [(0, .ref 0), (1, .int (Int32.ofInt x1)), (2, .int (Int32.ofInt x2)), (3, .int (Int32.ofInt x3)), (4, .int (Int32.ofInt x4)), (5, .int (Int32.ofInt x5))]) (lf_sb1 rfl (lf_sb1 rfl (lf_sb1 rfl (lf_sb1 rfl (lf_sb1 rfl (lf_sb1 rfl lf_sb0)))))) ?_
      exact gm_163_p71 h
    · have h := h.2 c
      refine lf_seg 2 (pc' := 59) (lv' := [(6, .int (Int32.ofInt y0)), (0, .ref 0), (1, .int (Int32.ofInt x1)), (2, .int (Int32.ofInt x2)), (3, .int (Int32.ofInt x3)), (4, .int (Int32.ofInt x4)), (5, .int (Int32.ofInt x5))]) (st' := [.int (Int32.ofInt 1), .int (Int32.ofInt x5)]) rfl ?_
      refine lf_bipush 61 99 rfl rfl (by decide) (by decide) ?_
      refine lf_callZ 64 rfl rfl rfl rfl (gm_15 h) (fun z29 s28 h => ?_)
      refine lf_ifz_eq 71 67 rfl rfl rfl (fun c => ?_) (fun c => ?_)
      · have h := h.1 c
        refine lf_sub (l := [(0, .ref 0), (1, .int (Int32.ofInt x1)), (2, .int (Int32.ofInt x2)), (3, .int (Int32.ofInt x3)), (4, .int (Int32.ofInt x4)), (5, .int (Int32.ofInt x5))]) (lf_sb1 rfl (lf_sb1 rfl (lf_sb1 rfl (lf_sb1 rfl (lf_sb1 rfl (lf_sb1 rfl lf_sb0)))))) ?_
        exact gm_163_p71 h
      · have h := h.2 c
        refine lf_seg 2 (pc' := 72) (lv' := [(6, .int (Int32.ofInt y0)), (0, .ref 0), (1, .int (Int32.ofInt x1)), (2, .int (Int32.ofInt x2)), (3, .int (Int32.ofInt x3)), (4, .int (Int32.ofInt x4)), (5, .int (Int32.ofInt x5))]) (st' := [.int (Int32.ofInt 1)]) rfl ?_
        refine lf_sub (l := [(0, .ref 0), (1, .int (Int32.ofInt x1)), (2, .int (Int32.ofInt x2)), (3, .int (Int32.ofInt x3)), (4, .int (Int32.ofInt x4)), (5, .int (Int32.ofInt x5))]) (lf_sb1 rfl (lf_sb1 rfl (lf_sb1 rfl (lf_sb1 rfl (lf_sb1 rfl (lf_sb1 rfl lf_sb0)))))) ?_
        exact gm_163_p72 h
def fm_163_p36 (Q : Bool → lf_Z → Prop) (x1 : Int) (x2 : Int) (x3 : Int) (x4 : Int) (x5 : Int) (s : lf_Z) : Prop := fm_163_p37 Q x1 x2 x3 x4 x5 0 s
set_option maxRecDepth 100000 in
theorem gm_163_p36 {L : Nat} {xs : Nat → Int32} {d : Nat} {Q : Bool → lf_Z → Prop} {x1 : Int} {x2 : Int} {x3 : Int} {x4 : Int} {x5 : Int} {s : lf_Z} (h : fm_163_p36 Q x1 x2 x3 x4 x5 s) : lf_E (px_ro L xs) (d + 2) 163 36 [(0, .ref 0), (1, .int (Int32.ofInt x1)), (2, .int (Int32.ofInt x2)), (3, .int (Int32.ofInt x3)), (4, .int (Int32.ofInt x4)), (5, .int (Int32.ofInt x5))] [] s (lf_qz Q) := by
  unfold fm_163_p36 at h
  refine lf_seg 1 (pc' := 37) (lv' := [(0, .ref 0), (1, .int (Int32.ofInt x1)), (2, .int (Int32.ofInt x2)), (3, .int (Int32.ofInt x3)), (4, .int (Int32.ofInt x4)), (5, .int (Int32.ofInt x5))]) (st' := [.int (Int32.ofInt 0)]) rfl ?_
  refine lf_sub (l := [(0, .ref 0), (1, .int (Int32.ofInt x1)), (2, .int (Int32.ofInt x2)), (3, .int (Int32.ofInt x3)), (4, .int (Int32.ofInt x4)), (5, .int (Int32.ofInt x5))]) (lf_sb1 rfl (lf_sb1 rfl (lf_sb1 rfl (lf_sb1 rfl (lf_sb1 rfl (lf_sb1 rfl lf_sb0)))))) ?_
  exact gm_163_p37 h
def fm_163 (a1 : Int) (a2 : Int) (a3 : Int) (a4 : Int) (a5 : Int) (Q : Bool → lf_Z → Prop) (s : lf_Z) : Prop := fm_89 a1 (fun z22 s21 => ((z22 = false → (fm_163_p36 Q a1 a2 a3 a4 a5 s21)) ∧ (z22 = true → (fm_15 a2 0 10 (fun z31 s30 => ((z31 = false → (fm_163_p36 Q a1 a2 a3 a4 a5 s30)) ∧ (z31 = true → (fm_15 a3 0 999 (fun z33 s32 => ((z33 = false → (fm_163_p36 Q a1 a2 a3 a4 a5 s32)) ∧ (z33 = true → (fm_163_p37 Q a1 a2 a3 a4 a5 1 s32)))) s30)))) s21)))) s
set_option maxRecDepth 100000 in
theorem gm_163 {L : Nat} {xs : Nat → Int32} {d : Nat} {a1 : Int} {a2 : Int} {a3 : Int} {a4 : Int} {a5 : Int} {Q : Bool → lf_Z → Prop} {s : lf_Z} (h : fm_163 a1 a2 a3 a4 a5 Q s) : lf_M (px_ro L xs) (d + 2) 163 [.ref 0, .int (Int32.ofInt a1), .int (Int32.ofInt a2), .int (Int32.ofInt a3), .int (Int32.ofInt a4), .int (Int32.ofInt a5)] s (lf_qz Q) := by
  unfold fm_163 at h
  show lf_E (px_ro L xs) (d + 2) 163 0 [(0, .ref 0), (1, .int (Int32.ofInt a1)), (2, .int (Int32.ofInt a2)), (3, .int (Int32.ofInt a3)), (4, .int (Int32.ofInt a4)), (5, .int (Int32.ofInt a5))] [] s _
  refine lf_seg 3 (pc' := 5) (lv' := [(0, .ref 0), (1, .int (Int32.ofInt a1)), (2, .int (Int32.ofInt a2)), (3, .int (Int32.ofInt a3)), (4, .int (Int32.ofInt a4)), (5, .int (Int32.ofInt a5))]) (st' := [.int (Int32.ofInt a1), .ref 1]) rfl ?_
  refine lf_callZ 8 rfl rfl rfl rfl (gm_89 h) (fun z22 s21 h => ?_)
  refine lf_ifz_eq 36 11 rfl rfl rfl (fun c => ?_) (fun c => ?_)
  · have h := h.1 c
    refine lf_sub (l := [(0, .ref 0), (1, .int (Int32.ofInt a1)), (2, .int (Int32.ofInt a2)), (3, .int (Int32.ofInt a3)), (4, .int (Int32.ofInt a4)), (5, .int (Int32.ofInt a5))]) (lf_sb1 rfl (lf_sb1 rfl (lf_sb1 rfl (lf_sb1 rfl (lf_sb1 rfl (lf_sb1 rfl lf_sb0)))))) ?_
    exact gm_163_p36 h
  · have h := h.2 c
    refine lf_seg 2 (pc' := 13) (lv' := [(0, .ref 0), (1, .int (Int32.ofInt a1)), (2, .int (Int32.ofInt a2)), (3, .int (Int32.ofInt a3)), (4, .int (Int32.ofInt a4)), (5, .int (Int32.ofInt a5))]) (st' := [.int (Int32.ofInt 0), .int (Int32.ofInt a2)]) rfl ?_
    refine lf_bipush 15 10 rfl rfl (by decide) (by decide) ?_
    refine lf_callZ 18 rfl rfl rfl rfl (gm_15 h) (fun z31 s30 h => ?_)
    refine lf_ifz_eq 36 21 rfl rfl rfl (fun c => ?_) (fun c => ?_)
    · have h := h.1 c
      refine lf_sub (l := [(0, .ref 0), (1, .int (Int32.ofInt a1)), (2, .int (Int32.ofInt a2)), (3, .int (Int32.ofInt a3)), (4, .int (Int32.ofInt a4)), (5, .int (Int32.ofInt a5))]) (lf_sb1 rfl (lf_sb1 rfl (lf_sb1 rfl (lf_sb1 rfl (lf_sb1 rfl (lf_sb1 rfl lf_sb0)))))) ?_
      exact gm_163_p36 h
    · have h := h.2 c
      refine lf_seg 2 (pc' := 23) (lv' := [(0, .ref 0), (1, .int (Int32.ofInt a1)), (2, .int (Int32.ofInt a2)), (3, .int (Int32.ofInt a3)), (4, .int (Int32.ofInt a4)), (5, .int (Int32.ofInt a5))]) (st' := [.int (Int32.ofInt 0), .int (Int32.ofInt a3)]) rfl ?_
      refine lf_sipush 26 999 rfl rfl (by decide) (by decide) ?_
      refine lf_callZ 29 rfl rfl rfl rfl (gm_15 h) (fun z33 s32 h => ?_)
      refine lf_ifz_eq 36 32 rfl rfl rfl (fun c => ?_) (fun c => ?_)
      · have h := h.1 c
        refine lf_sub (l := [(0, .ref 0), (1, .int (Int32.ofInt a1)), (2, .int (Int32.ofInt a2)), (3, .int (Int32.ofInt a3)), (4, .int (Int32.ofInt a4)), (5, .int (Int32.ofInt a5))]) (lf_sb1 rfl (lf_sb1 rfl (lf_sb1 rfl (lf_sb1 rfl (lf_sb1 rfl (lf_sb1 rfl lf_sb0)))))) ?_
        exact gm_163_p36 h
      · have h := h.2 c
        refine lf_seg 2 (pc' := 37) (lv' := [(0, .ref 0), (1, .int (Int32.ofInt a1)), (2, .int (Int32.ofInt a2)), (3, .int (Int32.ofInt a3)), (4, .int (Int32.ofInt a4)), (5, .int (Int32.ofInt a5))]) (st' := [.int (Int32.ofInt 1)]) rfl ?_
        refine lf_sub (l := [(0, .ref 0), (1, .int (Int32.ofInt a1)), (2, .int (Int32.ofInt a2)), (3, .int (Int32.ofInt a3)), (4, .int (Int32.ofInt a4)), (5, .int (Int32.ofInt a5))]) (lf_sb1 rfl (lf_sb1 rfl (lf_sb1 rfl (lf_sb1 rfl (lf_sb1 rfl (lf_sb1 rfl lf_sb0)))))) ?_
        exact gm_163_p37 h
-- fm_318 Model.mending 95 i i i i i
def fm_318 (a1 : Int) (a2 : Int) (a3 : Int) (a4 : Int) (a5 : Int) (Q : Bool → lf_Z → Prop) (s : lf_Z) : Prop := fm_251 a1 (fun z22 s21 => ((z22 = false → (Q false s21)) ∧ (z22 = true → (fm_252 a1 (fun z24 s23 => ((z24 = true → (Q false s23)) ∧ (z24 = false → (fm_183 a2 0 10 (fun z26 s25 => ((z26 = false → (Q false s25)) ∧ (z26 = true → (fm_183 a3 0 999 (fun z28 s27 => ((z28 = false → (Q false s27)) ∧ (z28 = true → (fm_183 a4 0 999 (fun z30 s29 => ((z30 = false → (Q false s29)) ∧ (z30 = true → (fm_183 a5 1 99 (fun z32 s31 => ((z32 = true → ((0 ≤ 174 + (5 * a1) ∧ 174 + (5 * a1) < 1538) ∧ ((0 ≤ (174 + (5 * a1)) + 1 ∧ (174 + (5 * a1)) + 1 < 1538) ∧ ((0 ≤ (174 + (5 * a1)) + 2 ∧ (174 + (5 * a1)) + 2 < 1538) ∧ ((0 ≤ (174 + (5 * a1)) + 3 ∧ (174 + (5 * a1)) + 3 < 1538) ∧ ((0 ≤ (174 + (5 * a1)) + 4 ∧ (174 + (5 * a1)) + 4 < 1538) ∧ (Q true (lf_up (lf_up (lf_up (lf_up (lf_up s31.1 96 (174 + (5 * a1)) 1) 96 ((174 + (5 * a1)) + 1) a2) 96 ((174 + (5 * a1)) + 2) a3) 96 ((174 + (5 * a1)) + 3) a4) 96 ((174 + (5 * a1)) + 4) a5, s31.2.1, s31.2.2)))))))) ∧ (z32 = false → (Q false s31)))) s29)))) s27)))) s25)))) s23)))) s21)))) s
set_option maxRecDepth 100000 in
theorem gm_318 {L : Nat} {xs : Nat → Int32} {d : Nat} {a1 : Int} {a2 : Int} {a3 : Int} {a4 : Int} {a5 : Int} {Q : Bool → lf_Z → Prop} {s : lf_Z} (h : fm_318 a1 a2 a3 a4 a5 Q s) : lf_M (px_ro L xs) (d + 3) 318 [.ref 95, .int (Int32.ofInt a1), .int (Int32.ofInt a2), .int (Int32.ofInt a3), .int (Int32.ofInt a4), .int (Int32.ofInt a5)] s (lf_qz Q) := by
  unfold fm_318 at h
  show lf_E (px_ro L xs) (d + 3) 318 0 [(0, .ref 95), (1, .int (Int32.ofInt a1)), (2, .int (Int32.ofInt a2)), (3, .int (Int32.ofInt a3)), (4, .int (Int32.ofInt a4)), (5, .int (Int32.ofInt a5))] [] s _
  refine lf_seg 2 (pc' := 2) (lv' := [(0, .ref 95), (1, .int (Int32.ofInt a1)), (2, .int (Int32.ofInt a2)), (3, .int (Int32.ofInt a3)), (4, .int (Int32.ofInt a4)), (5, .int (Int32.ofInt a5))]) (st' := [.int (Int32.ofInt a1), .ref 95]) rfl ?_
  refine lf_callZ 5 rfl rfl rfl rfl (gm_251 h) (fun z22 s21 h => ?_)
  refine lf_ifz_eq 60 8 rfl rfl rfl (fun c => ?_) (fun c => ?_)
  · have h := h.1 c
    refine lf_seg 1 (pc' := 61) (lv' := [(0, .ref 95), (1, .int (Int32.ofInt a1)), (2, .int (Int32.ofInt a2)), (3, .int (Int32.ofInt a3)), (4, .int (Int32.ofInt a4)), (5, .int (Int32.ofInt a5))]) (st' := [.int (Int32.ofInt 0)]) rfl ?_
    exact lf_retZ false rfl rfl h
  · have h := h.2 c
    refine lf_seg 2 (pc' := 10) (lv' := [(0, .ref 95), (1, .int (Int32.ofInt a1)), (2, .int (Int32.ofInt a2)), (3, .int (Int32.ofInt a3)), (4, .int (Int32.ofInt a4)), (5, .int (Int32.ofInt a5))]) (st' := [.int (Int32.ofInt a1), .ref 95]) rfl ?_
    refine lf_callZ 13 rfl rfl rfl rfl (gm_252 h) (fun z24 s23 h => ?_)
    refine lf_ifz_ne 60 16 rfl rfl rfl (fun c => ?_) (fun c => ?_)
    · have h := h.1 c
      refine lf_seg 1 (pc' := 61) (lv' := [(0, .ref 95), (1, .int (Int32.ofInt a1)), (2, .int (Int32.ofInt a2)), (3, .int (Int32.ofInt a3)), (4, .int (Int32.ofInt a4)), (5, .int (Int32.ofInt a5))]) (st' := [.int (Int32.ofInt 0)]) rfl ?_
      exact lf_retZ false rfl rfl h
    · have h := h.2 c
      refine lf_seg 2 (pc' := 18) (lv' := [(0, .ref 95), (1, .int (Int32.ofInt a1)), (2, .int (Int32.ofInt a2)), (3, .int (Int32.ofInt a3)), (4, .int (Int32.ofInt a4)), (5, .int (Int32.ofInt a5))]) (st' := [.int (Int32.ofInt 0), .int (Int32.ofInt a2)]) rfl ?_
      refine lf_bipush 20 10 rfl rfl (by decide) (by decide) ?_
      refine lf_callZ 23 rfl rfl rfl rfl (gm_183 h) (fun z26 s25 h => ?_)
      refine lf_ifz_eq 60 26 rfl rfl rfl (fun c => ?_) (fun c => ?_)
      · have h := h.1 c
        refine lf_seg 1 (pc' := 61) (lv' := [(0, .ref 95), (1, .int (Int32.ofInt a1)), (2, .int (Int32.ofInt a2)), (3, .int (Int32.ofInt a3)), (4, .int (Int32.ofInt a4)), (5, .int (Int32.ofInt a5))]) (st' := [.int (Int32.ofInt 0)]) rfl ?_
        exact lf_retZ false rfl rfl h
      · have h := h.2 c
        refine lf_seg 2 (pc' := 28) (lv' := [(0, .ref 95), (1, .int (Int32.ofInt a1)), (2, .int (Int32.ofInt a2)), (3, .int (Int32.ofInt a3)), (4, .int (Int32.ofInt a4)), (5, .int (Int32.ofInt a5))]) (st' := [.int (Int32.ofInt 0), .int (Int32.ofInt a3)]) rfl ?_
        refine lf_sipush 31 999 rfl rfl (by decide) (by decide) ?_
        refine lf_callZ 34 rfl rfl rfl rfl (gm_183 h) (fun z28 s27 h => ?_)
        refine lf_ifz_eq 60 37 rfl rfl rfl (fun c => ?_) (fun c => ?_)
        · have h := h.1 c
          refine lf_seg 1 (pc' := 61) (lv' := [(0, .ref 95), (1, .int (Int32.ofInt a1)), (2, .int (Int32.ofInt a2)), (3, .int (Int32.ofInt a3)), (4, .int (Int32.ofInt a4)), (5, .int (Int32.ofInt a5))]) (st' := [.int (Int32.ofInt 0)]) rfl ?_
          exact lf_retZ false rfl rfl h
        · have h := h.2 c
          refine lf_seg 2 (pc' := 40) (lv' := [(0, .ref 95), (1, .int (Int32.ofInt a1)), (2, .int (Int32.ofInt a2)), (3, .int (Int32.ofInt a3)), (4, .int (Int32.ofInt a4)), (5, .int (Int32.ofInt a5))]) (st' := [.int (Int32.ofInt 0), .int (Int32.ofInt a4)]) rfl ?_
          refine lf_sipush 43 999 rfl rfl (by decide) (by decide) ?_
          refine lf_callZ 46 rfl rfl rfl rfl (gm_183 h) (fun z30 s29 h => ?_)
          refine lf_ifz_eq 60 49 rfl rfl rfl (fun c => ?_) (fun c => ?_)
          · have h := h.1 c
            refine lf_seg 1 (pc' := 61) (lv' := [(0, .ref 95), (1, .int (Int32.ofInt a1)), (2, .int (Int32.ofInt a2)), (3, .int (Int32.ofInt a3)), (4, .int (Int32.ofInt a4)), (5, .int (Int32.ofInt a5))]) (st' := [.int (Int32.ofInt 0)]) rfl ?_
            exact lf_retZ false rfl rfl h
          · have h := h.2 c
            refine lf_seg 2 (pc' := 52) (lv' := [(0, .ref 95), (1, .int (Int32.ofInt a1)), (2, .int (Int32.ofInt a2)), (3, .int (Int32.ofInt a3)), (4, .int (Int32.ofInt a4)), (5, .int (Int32.ofInt a5))]) (st' := [.int (Int32.ofInt 1), .int (Int32.ofInt a5)]) rfl ?_
            refine lf_bipush 54 99 rfl rfl (by decide) (by decide) ?_
            refine lf_callZ 57 rfl rfl rfl rfl (gm_183 h) (fun z32 s31 h => ?_)
            refine lf_ifz_ne 62 60 rfl rfl rfl (fun c => ?_) (fun c => ?_)
            · have h := h.1 c
              refine lf_sipush 65 174 rfl rfl (by decide) (by decide) ?_
              refine lf_seg 2 (pc' := 67) (lv' := [(0, .ref 95), (1, .int (Int32.ofInt a1)), (2, .int (Int32.ofInt a2)), (3, .int (Int32.ofInt a3)), (4, .int (Int32.ofInt a4)), (5, .int (Int32.ofInt a5))]) (st' := [.int (Int32.ofInt a1), .int (Int32.ofInt 5), .int (Int32.ofInt 174)]) rfl ?_
              refine lf_imul 68 rfl rfl ?_
              refine lf_iadd 69 rfl rfl ?_
              refine lf_seg 5 (pc' := 78) (lv' := [(6, .int (Int32.ofInt (174 + (5 * a1)))), (0, .ref 95), (1, .int (Int32.ofInt a1)), (2, .int (Int32.ofInt a2)), (3, .int (Int32.ofInt a3)), (4, .int (Int32.ofInt a4)), (5, .int (Int32.ofInt a5))]) (st' := [.int (Int32.ofInt 1), .int (Int32.ofInt (174 + (5 * a1))), .ref 96]) rfl ?_
              obtain ⟨o33, h⟩ := h
              refine lf_iast 79 1538 rfl rfl rfl rfl rfl rfl o33 ?_
              refine lf_as (lf_up s31.1 96 (174 + (5 * a1)) 1, s31.2.1, s31.2.2) rfl ?_
              refine lf_seg 4 (pc' := 86) (lv' := [(6, .int (Int32.ofInt (174 + (5 * a1)))), (0, .ref 95), (1, .int (Int32.ofInt a1)), (2, .int (Int32.ofInt a2)), (3, .int (Int32.ofInt a3)), (4, .int (Int32.ofInt a4)), (5, .int (Int32.ofInt a5))]) (st' := [.int (Int32.ofInt 1), .int (Int32.ofInt (174 + (5 * a1))), .ref 96]) rfl ?_
              refine lf_iadd 87 rfl rfl ?_
              refine lf_seg 1 (pc' := 88) (lv' := [(6, .int (Int32.ofInt (174 + (5 * a1)))), (0, .ref 95), (1, .int (Int32.ofInt a1)), (2, .int (Int32.ofInt a2)), (3, .int (Int32.ofInt a3)), (4, .int (Int32.ofInt a4)), (5, .int (Int32.ofInt a5))]) (st' := [.int (Int32.ofInt a2), .int (Int32.ofInt ((174 + (5 * a1)) + 1)), .ref 96]) rfl ?_
              obtain ⟨o34, h⟩ := h
              refine lf_iast 89 1538 rfl rfl rfl rfl rfl rfl o34 ?_
              refine lf_as (lf_up (lf_up s31.1 96 (174 + (5 * a1)) 1) 96 ((174 + (5 * a1)) + 1) a2, s31.2.1, s31.2.2) rfl ?_
              refine lf_seg 4 (pc' := 96) (lv' := [(6, .int (Int32.ofInt (174 + (5 * a1)))), (0, .ref 95), (1, .int (Int32.ofInt a1)), (2, .int (Int32.ofInt a2)), (3, .int (Int32.ofInt a3)), (4, .int (Int32.ofInt a4)), (5, .int (Int32.ofInt a5))]) (st' := [.int (Int32.ofInt 2), .int (Int32.ofInt (174 + (5 * a1))), .ref 96]) rfl ?_
              refine lf_iadd 97 rfl rfl ?_
              refine lf_seg 1 (pc' := 98) (lv' := [(6, .int (Int32.ofInt (174 + (5 * a1)))), (0, .ref 95), (1, .int (Int32.ofInt a1)), (2, .int (Int32.ofInt a2)), (3, .int (Int32.ofInt a3)), (4, .int (Int32.ofInt a4)), (5, .int (Int32.ofInt a5))]) (st' := [.int (Int32.ofInt a3), .int (Int32.ofInt ((174 + (5 * a1)) + 2)), .ref 96]) rfl ?_
              obtain ⟨o35, h⟩ := h
              refine lf_iast 99 1538 rfl rfl rfl rfl rfl rfl o35 ?_
              refine lf_as (lf_up (lf_up (lf_up s31.1 96 (174 + (5 * a1)) 1) 96 ((174 + (5 * a1)) + 1) a2) 96 ((174 + (5 * a1)) + 2) a3, s31.2.1, s31.2.2) rfl ?_
              refine lf_seg 4 (pc' := 106) (lv' := [(6, .int (Int32.ofInt (174 + (5 * a1)))), (0, .ref 95), (1, .int (Int32.ofInt a1)), (2, .int (Int32.ofInt a2)), (3, .int (Int32.ofInt a3)), (4, .int (Int32.ofInt a4)), (5, .int (Int32.ofInt a5))]) (st' := [.int (Int32.ofInt 3), .int (Int32.ofInt (174 + (5 * a1))), .ref 96]) rfl ?_
              refine lf_iadd 107 rfl rfl ?_
              refine lf_seg 1 (pc' := 109) (lv' := [(6, .int (Int32.ofInt (174 + (5 * a1)))), (0, .ref 95), (1, .int (Int32.ofInt a1)), (2, .int (Int32.ofInt a2)), (3, .int (Int32.ofInt a3)), (4, .int (Int32.ofInt a4)), (5, .int (Int32.ofInt a5))]) (st' := [.int (Int32.ofInt a4), .int (Int32.ofInt ((174 + (5 * a1)) + 3)), .ref 96]) rfl ?_
              obtain ⟨o36, h⟩ := h
              refine lf_iast 110 1538 rfl rfl rfl rfl rfl rfl o36 ?_
              refine lf_as (lf_up (lf_up (lf_up (lf_up s31.1 96 (174 + (5 * a1)) 1) 96 ((174 + (5 * a1)) + 1) a2) 96 ((174 + (5 * a1)) + 2) a3) 96 ((174 + (5 * a1)) + 3) a4, s31.2.1, s31.2.2) rfl ?_
              refine lf_seg 4 (pc' := 117) (lv' := [(6, .int (Int32.ofInt (174 + (5 * a1)))), (0, .ref 95), (1, .int (Int32.ofInt a1)), (2, .int (Int32.ofInt a2)), (3, .int (Int32.ofInt a3)), (4, .int (Int32.ofInt a4)), (5, .int (Int32.ofInt a5))]) (st' := [.int (Int32.ofInt 4), .int (Int32.ofInt (174 + (5 * a1))), .ref 96]) rfl ?_
              refine lf_iadd 118 rfl rfl ?_
              refine lf_seg 1 (pc' := 120) (lv' := [(6, .int (Int32.ofInt (174 + (5 * a1)))), (0, .ref 95), (1, .int (Int32.ofInt a1)), (2, .int (Int32.ofInt a2)), (3, .int (Int32.ofInt a3)), (4, .int (Int32.ofInt a4)), (5, .int (Int32.ofInt a5))]) (st' := [.int (Int32.ofInt a5), .int (Int32.ofInt ((174 + (5 * a1)) + 4)), .ref 96]) rfl ?_
              obtain ⟨o37, h⟩ := h
              refine lf_iast 121 1538 rfl rfl rfl rfl rfl rfl o37 ?_
              refine lf_as (lf_up (lf_up (lf_up (lf_up (lf_up s31.1 96 (174 + (5 * a1)) 1) 96 ((174 + (5 * a1)) + 1) a2) 96 ((174 + (5 * a1)) + 2) a3) 96 ((174 + (5 * a1)) + 3) a4) 96 ((174 + (5 * a1)) + 4) a5, s31.2.1, s31.2.2) rfl ?_
              refine lf_seg 1 (pc' := 122) (lv' := [(6, .int (Int32.ofInt (174 + (5 * a1)))), (0, .ref 95), (1, .int (Int32.ofInt a1)), (2, .int (Int32.ofInt a2)), (3, .int (Int32.ofInt a3)), (4, .int (Int32.ofInt a4)), (5, .int (Int32.ofInt a5))]) (st' := [.int (Int32.ofInt 1)]) rfl ?_
              exact lf_retZ true rfl rfl h
            · have h := h.2 c
              refine lf_seg 1 (pc' := 61) (lv' := [(0, .ref 95), (1, .int (Int32.ofInt a1)), (2, .int (Int32.ofInt a2)), (3, .int (Int32.ofInt a3)), (4, .int (Int32.ofInt a4)), (5, .int (Int32.ofInt a5))]) (st' := [.int (Int32.ofInt 0)]) rfl ?_
              exact lf_retZ false rfl rfl h
-- fm_165 Notes.bestGate 25
def fm_165_p31 (X6 : Int → Int → Int → lf_Z → Prop) (Q : Int → lf_Z → Prop) (x1 : Int) (x2 : Int) (x3 : Int) (s : lf_Z) : Prop := X6 x1 x2 (x3 + 1) s
set_option maxRecDepth 100000 in
theorem gm_165_p31 {L : Nat} {xs : Nat → Int32} {d : Nat} {X6 : Int → Int → Int → lf_Z → Prop} {Q : Int → lf_Z → Prop} {x1 : Int} {x2 : Int} {x3 : Int} {s : lf_Z} (hX6 : ∀ x1 x2 x3 s, X6 x1 x2 x3 s → lf_E (px_ro L xs) (d + 1) 165 6 [(0, .ref 25), (1, .int (Int32.ofInt x1)), (2, .int (Int32.ofInt x2)), (3, .int (Int32.ofInt x3))] [] s (lf_qi Q)) (h : fm_165_p31 X6 Q x1 x2 x3 s) : lf_E (px_ro L xs) (d + 1) 165 31 [(0, .ref 25), (1, .int (Int32.ofInt x1)), (2, .int (Int32.ofInt x2)), (3, .int (Int32.ofInt x3))] [] s (lf_qi Q) := by
  unfold fm_165_p31 at h
  refine lf_iinc 34 rfl rfl rfl rfl ?_
  refine lf_seg 1 (pc' := 6) (lv' := [(3, .int (Int32.ofInt (x3 + 1))), (0, .ref 25), (1, .int (Int32.ofInt x1)), (2, .int (Int32.ofInt x2))]) (st' := []) rfl ?_
  refine lf_sub (l := [(0, .ref 25), (1, .int (Int32.ofInt x1)), (2, .int (Int32.ofInt x2)), (3, .int (Int32.ofInt (x3 + 1)))]) (lf_sb1 rfl (lf_sb1 rfl (lf_sb1 rfl (lf_sb1 rfl lf_sb0)))) ?_
  exact hX6 _ _ _ _ h
def fm_165_p6 (Q : Int → lf_Z → Prop) (X6 : Int → Int → Int → lf_Z → Prop) (x1 : Int) (x2 : Int) (x3 : Int) (s : lf_Z) : Prop := lf_R x3 ∧ ((16 ≤ x3 → (Q x1 s)) ∧ (¬ (16 ≤ x3) → ((0 ≤ x3 ∧ x3 < 16) ∧ (lf_R (s.1 28 x3) ∧ (lf_R x2 ∧ ((s.1 28 x3 ≤ x2 → (fm_165_p31 X6 Q x1 x2 x3 s)) ∧ (¬ (s.1 28 x3 ≤ x2) → (fm_165_p31 X6 Q x3 (s.1 28 x3) x3 s))))))))
def fm_165_p6L (Q : Int → lf_Z → Prop) (x1 : Int) (x2 : Int) (x3 : Int) (s : lf_Z) : Prop := ∀ X6 : Int → Int → Int → lf_Z → Prop, (∀ (x1 : Int) (x2 : Int) (x3 : Int) (s : lf_Z), fm_165_p6 Q X6 x1 x2 x3 s → X6 x1 x2 x3 s) → X6 x1 x2 x3 s
set_option maxRecDepth 100000 in
theorem gm_165_p6 {L : Nat} {xs : Nat → Int32} {d : Nat} {Q : Int → lf_Z → Prop} {x1 : Int} {x2 : Int} {x3 : Int} {s : lf_Z} {X6 : Int → Int → Int → lf_Z → Prop} (hX6 : ∀ x1 x2 x3 s, X6 x1 x2 x3 s → lf_E (px_ro L xs) (d + 1) 165 6 [(0, .ref 25), (1, .int (Int32.ofInt x1)), (2, .int (Int32.ofInt x2)), (3, .int (Int32.ofInt x3))] [] s (lf_qi Q)) (h : fm_165_p6 Q X6 x1 x2 x3 s) : lf_E (px_ro L xs) (d + 1) 165 6 [(0, .ref 25), (1, .int (Int32.ofInt x1)), (2, .int (Int32.ofInt x2)), (3, .int (Int32.ofInt x3))] [] s (lf_qi Q) := by
  unfold fm_165_p6 at h
  refine lf_seg 1 (pc' := 7) (lv' := [(0, .ref 25), (1, .int (Int32.ofInt x1)), (2, .int (Int32.ofInt x2)), (3, .int (Int32.ofInt x3))]) (st' := [.int (Int32.ofInt x3)]) rfl ?_
  refine lf_bipush 9 16 rfl rfl (by decide) (by decide) ?_
  obtain ⟨o21, h⟩ := h
  refine lf_icmp_ge 37 12 rfl rfl rfl o21 ⟨by decide, by decide⟩ (fun c => ?_) (fun c => ?_)
  · have h := h.1 c
    refine lf_seg 1 (pc' := 38) (lv' := [(0, .ref 25), (1, .int (Int32.ofInt x1)), (2, .int (Int32.ofInt x2)), (3, .int (Int32.ofInt x3))]) (st' := [.int (Int32.ofInt x1)]) rfl ?_
    exact lf_retI rfl rfl h
  · have h := h.2 c
    refine lf_seg 3 (pc' := 17) (lv' := [(0, .ref 25), (1, .int (Int32.ofInt x1)), (2, .int (Int32.ofInt x2)), (3, .int (Int32.ofInt x3))]) (st' := [.int (Int32.ofInt x3), .ref 28]) rfl ?_
    obtain ⟨o22, h⟩ := h
    refine lf_iald 18 16 rfl rfl rfl rfl rfl rfl o22 ?_
    refine lf_seg 1 (pc' := 19) (lv' := [(0, .ref 25), (1, .int (Int32.ofInt x1)), (2, .int (Int32.ofInt x2)), (3, .int (Int32.ofInt x3))]) (st' := [.int (Int32.ofInt x2), .int (Int32.ofInt (s.1 28 x3))]) rfl ?_
    obtain ⟨o23, h⟩ := h
    obtain ⟨o24, h⟩ := h
    refine lf_icmp_le 31 22 rfl rfl rfl o23 o24 (fun c => ?_) (fun c => ?_)
    · have h := h.1 c
      refine lf_sub (l := [(0, .ref 25), (1, .int (Int32.ofInt x1)), (2, .int (Int32.ofInt x2)), (3, .int (Int32.ofInt x3))]) (lf_sb1 rfl (lf_sb1 rfl (lf_sb1 rfl (lf_sb1 rfl lf_sb0)))) ?_
      exact gm_165_p31 hX6 h
    · have h := h.2 c
      refine lf_seg 3 (pc' := 27) (lv' := [(0, .ref 25), (1, .int (Int32.ofInt x1)), (2, .int (Int32.ofInt x2)), (3, .int (Int32.ofInt x3))]) (st' := [.int (Int32.ofInt x3), .ref 28]) rfl ?_
      refine lf_iald 28 16 rfl rfl rfl rfl rfl rfl o22 ?_
      refine lf_seg 3 (pc' := 31) (lv' := [(1, .int (Int32.ofInt x3)), (2, .int (Int32.ofInt (s.1 28 x3))), (0, .ref 25), (3, .int (Int32.ofInt x3))]) (st' := []) rfl ?_
      refine lf_sub (l := [(0, .ref 25), (1, .int (Int32.ofInt x3)), (2, .int (Int32.ofInt (s.1 28 x3))), (3, .int (Int32.ofInt x3))]) (lf_sb1 rfl (lf_sb1 rfl (lf_sb1 rfl (lf_sb1 rfl lf_sb0)))) ?_
      exact gm_165_p31 hX6 h
theorem gm_165_p6L {L : Nat} {xs : Nat → Int32} {d : Nat} {Q : Int → lf_Z → Prop} {x1 : Int} {x2 : Int} {x3 : Int} {s : lf_Z} (h : fm_165_p6L Q x1 x2 x3 s) : lf_E (px_ro L xs) (d + 1) 165 6 [(0, .ref 25), (1, .int (Int32.ofInt x1)), (2, .int (Int32.ofInt x2)), (3, .int (Int32.ofInt x3))] [] s (lf_qi Q) :=
  h (fun x1 x2 x3 s => lf_E (px_ro L xs) (d + 1) 165 6 [(0, .ref 25), (1, .int (Int32.ofInt x1)), (2, .int (Int32.ofInt x2)), (3, .int (Int32.ofInt x3))] [] s (lf_qi Q)) (fun x1 x2 x3 s hb => gm_165_p6 (fun _ _ _ _ h => h) hb)
def fm_165 (Q : Int → lf_Z → Prop) (s : lf_Z) : Prop := fm_165_p6L Q (-1) 0 0 s
set_option maxRecDepth 100000 in
theorem gm_165 {L : Nat} {xs : Nat → Int32} {d : Nat} {Q : Int → lf_Z → Prop} {s : lf_Z} (h : fm_165 Q s) : lf_M (px_ro L xs) (d + 1) 165 [.ref 25] s (lf_qi Q) := by
  unfold fm_165 at h
  show lf_E (px_ro L xs) (d + 1) 165 0 [(0, .ref 25)] [] s _
  refine lf_seg 6 (pc' := 6) (lv' := [(3, .int (Int32.ofInt 0)), (2, .int (Int32.ofInt 0)), (1, .int (Int32.ofInt (-1))), (0, .ref 25)]) (st' := []) rfl ?_
  refine lf_sub (l := [(0, .ref 25), (1, .int (Int32.ofInt (-1))), (2, .int (Int32.ofInt 0)), (3, .int (Int32.ofInt 0))]) (lf_sb1 rfl (lf_sb1 rfl (lf_sb1 rfl (lf_sb1 rfl lf_sb0)))) ?_
  exact gm_165_p6L h
-- fm_164 ElevenBullocks.saved 0 i
def fm_164 (a1 : Int) (Q : Int → lf_Z → Prop) (s : lf_Z) : Prop := lf_R a1 ∧ ((a1 ≠ (-1) → (fm_79 a1 (fun z23 s22 => ((z23 = false → (Q (-10000) s22)) ∧ (z23 = true → ((0 ≤ a1 ∧ a1 < 16) ∧ (Q (s22.1 28 a1) s22))))) s)) ∧ (¬ (a1 ≠ (-1)) → (fm_165 (fun r26 s25 => (Q r26 s25)) s)))
set_option maxRecDepth 100000 in
theorem gm_164 {L : Nat} {xs : Nat → Int32} {d : Nat} {a1 : Int} {Q : Int → lf_Z → Prop} {s : lf_Z} (h : fm_164 a1 Q s) : lf_M (px_ro L xs) (d + 2) 164 [.ref 0, .int (Int32.ofInt a1)] s (lf_qi Q) := by
  unfold fm_164 at h
  show lf_E (px_ro L xs) (d + 2) 164 0 [(0, .ref 0), (1, .int (Int32.ofInt a1))] [] s _
  refine lf_seg 2 (pc' := 2) (lv' := [(0, .ref 0), (1, .int (Int32.ofInt a1))]) (st' := [.int (Int32.ofInt (-1)), .int (Int32.ofInt a1)]) rfl ?_
  obtain ⟨o21, h⟩ := h
  refine lf_icmp_ne 13 5 rfl rfl rfl o21 ⟨by decide, by decide⟩ (fun c => ?_) (fun c => ?_)
  · have h := h.1 c
    refine lf_seg 3 (pc' := 18) (lv' := [(0, .ref 0), (1, .int (Int32.ofInt a1))]) (st' := [.int (Int32.ofInt a1), .ref 1]) rfl ?_
    refine lf_callZ 21 rfl rfl rfl rfl (gm_79 h) (fun z23 s22 h => ?_)
    refine lf_ifz_eq 36 24 rfl rfl rfl (fun c => ?_) (fun c => ?_)
    · have h := h.1 c
      refine lf_sipush 39 (-10000) rfl rfl (by decide) (by decide) ?_
      exact lf_retI rfl rfl h
    · have h := h.2 c
      refine lf_seg 4 (pc' := 32) (lv' := [(0, .ref 0), (1, .int (Int32.ofInt a1))]) (st' := [.int (Int32.ofInt a1), .ref 28]) rfl ?_
      obtain ⟨o24, h⟩ := h
      refine lf_iald 33 16 rfl rfl rfl rfl rfl rfl o24 ?_
      refine lf_seg 1 (pc' := 39) (lv' := [(0, .ref 0), (1, .int (Int32.ofInt a1))]) (st' := [.int (Int32.ofInt (s22.1 28 a1))]) rfl ?_
      exact lf_retI rfl rfl h
  · have h := h.2 c
    refine lf_seg 2 (pc' := 9) (lv' := [(0, .ref 0), (1, .int (Int32.ofInt a1))]) (st' := [.ref 25]) rfl ?_
    refine lf_callI 12 rfl rfl rfl rfl (gm_165 h) (fun r26 s25 h => ?_)
    exact lf_retI rfl rfl h
-- fm_320 Model.savedBy 95 i
def fm_320 (a1 : Int) (Q : Int → lf_Z → Prop) (s : lf_Z) : Prop := (0 ≤ (174 + (5 * a1)) + 3 ∧ (174 + (5 * a1)) + 3 < 1538) ∧ ((0 ≤ (174 + (5 * a1)) + 1 ∧ (174 + (5 * a1)) + 1 < 1538) ∧ ((0 ≤ (174 + (5 * a1)) + 4 ∧ (174 + (5 * a1)) + 4 < 1538) ∧ ((0 ≤ (174 + (5 * a1)) + 2 ∧ (174 + (5 * a1)) + 2 < 1538) ∧ (Q (lf_w (((lf_w ((lf_w ((s.1 96 ((174 + (5 * a1)) + 3)) * (s.1 96 ((174 + (5 * a1)) + 1)))) * (s.1 96 ((174 + (5 * a1)) + 4)))).tdiv 10) - (s.1 96 ((174 + (5 * a1)) + 2)))) s))))
set_option maxRecDepth 100000 in
theorem gm_320 {L : Nat} {xs : Nat → Int32} {d : Nat} {a1 : Int} {Q : Int → lf_Z → Prop} {s : lf_Z} (h : fm_320 a1 Q s) : lf_M (px_ro L xs) (d + 1) 320 [.ref 95, .int (Int32.ofInt a1)] s (lf_qi Q) := by
  unfold fm_320 at h
  show lf_E (px_ro L xs) (d + 1) 320 0 [(0, .ref 95), (1, .int (Int32.ofInt a1))] [] s _
  refine lf_sipush 3 174 rfl rfl (by decide) (by decide) ?_
  refine lf_seg 2 (pc' := 5) (lv' := [(0, .ref 95), (1, .int (Int32.ofInt a1))]) (st' := [.int (Int32.ofInt a1), .int (Int32.ofInt 5), .int (Int32.ofInt 174)]) rfl ?_
  refine lf_imul 6 rfl rfl ?_
  refine lf_iadd 7 rfl rfl ?_
  refine lf_seg 5 (pc' := 14) (lv' := [(2, .int (Int32.ofInt (174 + (5 * a1)))), (0, .ref 95), (1, .int (Int32.ofInt a1))]) (st' := [.int (Int32.ofInt 3), .int (Int32.ofInt (174 + (5 * a1))), .ref 96]) rfl ?_
  refine lf_iadd 15 rfl rfl ?_
  obtain ⟨o21, h⟩ := h
  refine lf_iald 16 1538 rfl rfl rfl rfl rfl rfl o21 ?_
  refine lf_seg 4 (pc' := 22) (lv' := [(2, .int (Int32.ofInt (174 + (5 * a1)))), (0, .ref 95), (1, .int (Int32.ofInt a1))]) (st' := [.int (Int32.ofInt 1), .int (Int32.ofInt (174 + (5 * a1))), .ref 96, .int (Int32.ofInt (s.1 96 ((174 + (5 * a1)) + 3)))]) rfl ?_
  refine lf_iadd 23 rfl rfl ?_
  obtain ⟨o22, h⟩ := h
  refine lf_iald 24 1538 rfl rfl rfl rfl rfl rfl o22 ?_
  refine lf_imul 25 rfl rfl ?_
  refine lf_wtI ?_
  refine lf_seg 4 (pc' := 31) (lv' := [(2, .int (Int32.ofInt (174 + (5 * a1)))), (0, .ref 95), (1, .int (Int32.ofInt a1))]) (st' := [.int (Int32.ofInt 4), .int (Int32.ofInt (174 + (5 * a1))), .ref 96, .int (Int32.ofInt (lf_w ((s.1 96 ((174 + (5 * a1)) + 3)) * (s.1 96 ((174 + (5 * a1)) + 1)))))]) rfl ?_
  refine lf_iadd 32 rfl rfl ?_
  obtain ⟨o23, h⟩ := h
  refine lf_iald 33 1538 rfl rfl rfl rfl rfl rfl o23 ?_
  refine lf_imul 34 rfl rfl ?_
  refine lf_wtI ?_
  refine lf_bipush 36 10 rfl rfl (by decide) (by decide) ?_
  refine lf_idiv 37 rfl rfl lf_Rw ⟨by decide, by decide⟩ (by decide) ?_
  refine lf_seg 4 (pc' := 43) (lv' := [(2, .int (Int32.ofInt (174 + (5 * a1)))), (0, .ref 95), (1, .int (Int32.ofInt a1))]) (st' := [.int (Int32.ofInt 2), .int (Int32.ofInt (174 + (5 * a1))), .ref 96, .int (Int32.ofInt ((lf_w ((lf_w ((s.1 96 ((174 + (5 * a1)) + 3)) * (s.1 96 ((174 + (5 * a1)) + 1)))) * (s.1 96 ((174 + (5 * a1)) + 4)))).tdiv 10))]) rfl ?_
  refine lf_iadd 44 rfl rfl ?_
  obtain ⟨o24, h⟩ := h
  refine lf_iald 45 1538 rfl rfl rfl rfl rfl rfl o24 ?_
  refine lf_isub 46 rfl rfl ?_
  refine lf_wtI ?_
  exact lf_retI rfl rfl h
-- fm_319 Model.saved 95 i
def fm_319_p98 (X48 : Int → Int → Int → lf_Z → Prop) (Q : Int → lf_Z → Prop) (x2 : Int) (x3 : Int) (x4 : Int) (s : lf_Z) : Prop := X48 x2 x3 (x4 + 1) s
set_option maxRecDepth 100000 in
theorem gm_319_p98 {L : Nat} {xs : Nat → Int32} {d : Nat} {X48 : Int → Int → Int → lf_Z → Prop} {Q : Int → lf_Z → Prop} {x2 : Int} {x3 : Int} {x4 : Int} {s : lf_Z} (hX48 : ∀ x2 x3 x4 s, X48 x2 x3 x4 s → lf_E (px_ro L xs) (d + 3) 319 48 [(0, .ref 95), (2, .int (Int32.ofInt x2)), (3, .int (Int32.ofInt x3)), (4, .int (Int32.ofInt x4))] [] s (lf_qi Q)) (h : fm_319_p98 X48 Q x2 x3 x4 s) : lf_E (px_ro L xs) (d + 3) 319 98 [(0, .ref 95), (2, .int (Int32.ofInt x2)), (3, .int (Int32.ofInt x3)), (4, .int (Int32.ofInt x4))] [] s (lf_qi Q) := by
  unfold fm_319_p98 at h
  refine lf_iinc 101 rfl rfl rfl rfl ?_
  refine lf_seg 1 (pc' := 48) (lv' := [(4, .int (Int32.ofInt (x4 + 1))), (0, .ref 95), (2, .int (Int32.ofInt x2)), (3, .int (Int32.ofInt x3))]) (st' := []) rfl ?_
  refine lf_sub (l := [(0, .ref 95), (2, .int (Int32.ofInt x2)), (3, .int (Int32.ofInt x3)), (4, .int (Int32.ofInt (x4 + 1)))]) (lf_sb1 rfl (lf_sb1 rfl (lf_sb1 rfl (lf_sb1 rfl lf_sb0)))) ?_
  exact hX48 _ _ _ _ h
def fm_319_p48 (Q : Int → lf_Z → Prop) (X48 : Int → Int → Int → lf_Z → Prop) (x2 : Int) (x3 : Int) (x4 : Int) (s : lf_Z) : Prop := lf_R x4 ∧ (lf_R (s.1 96 1) ∧ ((s.1 96 1 ≤ x4 → (Q x2 s)) ∧ (¬ (s.1 96 1 ≤ x4) → ((0 ≤ 174 + (5 * x4) ∧ 174 + (5 * x4) < 1538) ∧ (lf_R (s.1 96 (174 + (5 * x4))) ∧ ((s.1 96 (174 + (5 * x4)) = 0 → (fm_319_p98 X48 Q x2 x3 x4 s)) ∧ (¬ (s.1 96 (174 + (5 * x4)) = 0) → (fm_320 x4 (fun r27 s26 => (lf_R r27 ∧ (lf_R x3 ∧ ((x3 < r27 → (fm_320 x4 (fun r31 s30 => (fm_319_p98 X48 Q x4 r31 x4 s30)) s26)) ∧ (¬ (x3 < r27) → (fm_319_p98 X48 Q x2 x3 x4 s26)))))) s))))))))
def fm_319_p48L (Q : Int → lf_Z → Prop) (x2 : Int) (x3 : Int) (x4 : Int) (s : lf_Z) : Prop := ∀ X48 : Int → Int → Int → lf_Z → Prop, (∀ (x2 : Int) (x3 : Int) (x4 : Int) (s : lf_Z), fm_319_p48 Q X48 x2 x3 x4 s → X48 x2 x3 x4 s) → X48 x2 x3 x4 s
set_option maxRecDepth 100000 in
theorem gm_319_p48 {L : Nat} {xs : Nat → Int32} {d : Nat} {Q : Int → lf_Z → Prop} {x2 : Int} {x3 : Int} {x4 : Int} {s : lf_Z} {X48 : Int → Int → Int → lf_Z → Prop} (hX48 : ∀ x2 x3 x4 s, X48 x2 x3 x4 s → lf_E (px_ro L xs) (d + 3) 319 48 [(0, .ref 95), (2, .int (Int32.ofInt x2)), (3, .int (Int32.ofInt x3)), (4, .int (Int32.ofInt x4))] [] s (lf_qi Q)) (h : fm_319_p48 Q X48 x2 x3 x4 s) : lf_E (px_ro L xs) (d + 3) 319 48 [(0, .ref 95), (2, .int (Int32.ofInt x2)), (3, .int (Int32.ofInt x3)), (4, .int (Int32.ofInt x4))] [] s (lf_qi Q) := by
  unfold fm_319_p48 at h
  refine lf_seg 4 (pc' := 55) (lv' := [(0, .ref 95), (2, .int (Int32.ofInt x2)), (3, .int (Int32.ofInt x3)), (4, .int (Int32.ofInt x4))]) (st' := [.int (Int32.ofInt 1), .ref 96, .int (Int32.ofInt x4)]) rfl ?_
  refine lf_iald 56 1538 rfl rfl rfl rfl rfl rfl ⟨by decide, by decide⟩ ?_
  obtain ⟨o22, h⟩ := h
  obtain ⟨o23, h⟩ := h
  refine lf_icmp_ge 104 59 rfl rfl rfl o22 o23 (fun c => ?_) (fun c => ?_)
  · have h := h.1 c
    refine lf_seg 1 (pc' := 105) (lv' := [(0, .ref 95), (2, .int (Int32.ofInt x2)), (3, .int (Int32.ofInt x3)), (4, .int (Int32.ofInt x4))]) (st' := [.int (Int32.ofInt x2)]) rfl ?_
    exact lf_retI rfl rfl h
  · have h := h.2 c
    refine lf_seg 2 (pc' := 63) (lv' := [(0, .ref 95), (2, .int (Int32.ofInt x2)), (3, .int (Int32.ofInt x3)), (4, .int (Int32.ofInt x4))]) (st' := [.ref 96]) rfl ?_
    refine lf_sipush 66 174 rfl rfl (by decide) (by decide) ?_
    refine lf_seg 2 (pc' := 69) (lv' := [(0, .ref 95), (2, .int (Int32.ofInt x2)), (3, .int (Int32.ofInt x3)), (4, .int (Int32.ofInt x4))]) (st' := [.int (Int32.ofInt x4), .int (Int32.ofInt 5), .int (Int32.ofInt 174), .ref 96]) rfl ?_
    refine lf_imul 70 rfl rfl ?_
    refine lf_iadd 71 rfl rfl ?_
    obtain ⟨o24, h⟩ := h
    refine lf_iald 72 1538 rfl rfl rfl rfl rfl rfl o24 ?_
    obtain ⟨o25, h⟩ := h
    refine lf_if_eq 98 75 rfl rfl rfl o25 (fun c => ?_) (fun c => ?_)
    · have h := h.1 c
      refine lf_sub (l := [(0, .ref 95), (2, .int (Int32.ofInt x2)), (3, .int (Int32.ofInt x3)), (4, .int (Int32.ofInt x4))]) (lf_sb1 rfl (lf_sb1 rfl (lf_sb1 rfl (lf_sb1 rfl lf_sb0)))) ?_
      exact gm_319_p98 hX48 h
    · have h := h.2 c
      refine lf_seg 2 (pc' := 78) (lv' := [(0, .ref 95), (2, .int (Int32.ofInt x2)), (3, .int (Int32.ofInt x3)), (4, .int (Int32.ofInt x4))]) (st' := [.int (Int32.ofInt x4), .ref 95]) rfl ?_
      refine lf_callI 81 rfl rfl rfl rfl (gm_320 h) (fun r27 s26 h => ?_)
      refine lf_seg 1 (pc' := 82) (lv' := [(0, .ref 95), (2, .int (Int32.ofInt x2)), (3, .int (Int32.ofInt x3)), (4, .int (Int32.ofInt x4))]) (st' := [.int (Int32.ofInt x3), .int (Int32.ofInt r27)]) rfl ?_
      obtain ⟨o28, h⟩ := h
      obtain ⟨o29, h⟩ := h
      refine lf_icmp_gt 88 85 rfl rfl rfl o28 o29 (fun c => ?_) (fun c => ?_)
      · have h := h.1 c
        refine lf_seg 2 (pc' := 91) (lv' := [(0, .ref 95), (2, .int (Int32.ofInt x2)), (3, .int (Int32.ofInt x3)), (4, .int (Int32.ofInt x4))]) (st' := [.int (Int32.ofInt x4), .ref 95]) rfl ?_
        refine lf_callI 94 rfl rfl rfl rfl (gm_320 h) (fun r31 s30 h => ?_)
        refine lf_seg 3 (pc' := 98) (lv' := [(2, .int (Int32.ofInt x4)), (3, .int (Int32.ofInt r31)), (0, .ref 95), (4, .int (Int32.ofInt x4))]) (st' := []) rfl ?_
        refine lf_sub (l := [(0, .ref 95), (2, .int (Int32.ofInt x4)), (3, .int (Int32.ofInt r31)), (4, .int (Int32.ofInt x4))]) (lf_sb1 rfl (lf_sb1 rfl (lf_sb1 rfl (lf_sb1 rfl lf_sb0)))) ?_
        exact gm_319_p98 hX48 h
      · have h := h.2 c
        refine lf_seg 1 (pc' := 98) (lv' := [(0, .ref 95), (2, .int (Int32.ofInt x2)), (3, .int (Int32.ofInt x3)), (4, .int (Int32.ofInt x4))]) (st' := []) rfl ?_
        refine lf_sub (l := [(0, .ref 95), (2, .int (Int32.ofInt x2)), (3, .int (Int32.ofInt x3)), (4, .int (Int32.ofInt x4))]) (lf_sb1 rfl (lf_sb1 rfl (lf_sb1 rfl (lf_sb1 rfl lf_sb0)))) ?_
        exact gm_319_p98 hX48 h
theorem gm_319_p48L {L : Nat} {xs : Nat → Int32} {d : Nat} {Q : Int → lf_Z → Prop} {x2 : Int} {x3 : Int} {x4 : Int} {s : lf_Z} (h : fm_319_p48L Q x2 x3 x4 s) : lf_E (px_ro L xs) (d + 3) 319 48 [(0, .ref 95), (2, .int (Int32.ofInt x2)), (3, .int (Int32.ofInt x3)), (4, .int (Int32.ofInt x4))] [] s (lf_qi Q) :=
  h (fun x2 x3 x4 s => lf_E (px_ro L xs) (d + 3) 319 48 [(0, .ref 95), (2, .int (Int32.ofInt x2)), (3, .int (Int32.ofInt x3)), (4, .int (Int32.ofInt x4))] [] s (lf_qi Q)) (fun x2 x3 x4 s hb => gm_319_p48 (fun _ _ _ _ h => h) hb)
def fm_319 (a1 : Int) (Q : Int → lf_Z → Prop) (s : lf_Z) : Prop := lf_R a1 ∧ ((a1 = (-1) → (fm_319_p48L Q (-1) 0 0 s)) ∧ (¬ (a1 = (-1)) → (fm_251 a1 (fun z33 s32 => ((z33 = false → (Q (-10000) s32)) ∧ (z33 = true → ((0 ≤ 174 + (5 * a1) ∧ 174 + (5 * a1) < 1538) ∧ (lf_R (s32.1 96 (174 + (5 * a1))) ∧ ((s32.1 96 (174 + (5 * a1)) ≠ 1 → (Q (-10000) s32)) ∧ (¬ (s32.1 96 (174 + (5 * a1)) ≠ 1) → (fm_320 a1 (fun r37 s36 => (Q r37 s36)) s32)))))))) s)))
set_option maxRecDepth 100000 in
theorem gm_319 {L : Nat} {xs : Nat → Int32} {d : Nat} {a1 : Int} {Q : Int → lf_Z → Prop} {s : lf_Z} (h : fm_319 a1 Q s) : lf_M (px_ro L xs) (d + 3) 319 [.ref 95, .int (Int32.ofInt a1)] s (lf_qi Q) := by
  unfold fm_319 at h
  show lf_E (px_ro L xs) (d + 3) 319 0 [(0, .ref 95), (1, .int (Int32.ofInt a1))] [] s _
  refine lf_seg 2 (pc' := 2) (lv' := [(0, .ref 95), (1, .int (Int32.ofInt a1))]) (st' := [.int (Int32.ofInt (-1)), .int (Int32.ofInt a1)]) rfl ?_
  obtain ⟨o21, h⟩ := h
  refine lf_icmp_eq 41 5 rfl rfl rfl o21 ⟨by decide, by decide⟩ (fun c => ?_) (fun c => ?_)
  · have h := h.1 c
    refine lf_seg 6 (pc' := 48) (lv' := [(4, .int (Int32.ofInt 0)), (3, .int (Int32.ofInt 0)), (2, .int (Int32.ofInt (-1))), (0, .ref 95), (1, .int (Int32.ofInt a1))]) (st' := []) rfl ?_
    refine lf_sub (l := [(0, .ref 95), (2, .int (Int32.ofInt (-1))), (3, .int (Int32.ofInt 0)), (4, .int (Int32.ofInt 0))]) (lf_sb1 rfl (lf_sb1 rfl (lf_sb1 rfl (lf_sb1 rfl lf_sb0)))) ?_
    exact gm_319_p48L h
  · have h := h.2 c
    refine lf_seg 2 (pc' := 7) (lv' := [(0, .ref 95), (1, .int (Int32.ofInt a1))]) (st' := [.int (Int32.ofInt a1), .ref 95]) rfl ?_
    refine lf_callZ 10 rfl rfl rfl rfl (gm_251 h) (fun z33 s32 h => ?_)
    refine lf_ifz_eq 37 13 rfl rfl rfl (fun c => ?_) (fun c => ?_)
    · have h := h.1 c
      refine lf_sipush 40 (-10000) rfl rfl (by decide) (by decide) ?_
      exact lf_retI rfl rfl h
    · have h := h.2 c
      refine lf_seg 2 (pc' := 17) (lv' := [(0, .ref 95), (1, .int (Int32.ofInt a1))]) (st' := [.ref 96]) rfl ?_
      refine lf_sipush 20 174 rfl rfl (by decide) (by decide) ?_
      refine lf_seg 2 (pc' := 22) (lv' := [(0, .ref 95), (1, .int (Int32.ofInt a1))]) (st' := [.int (Int32.ofInt a1), .int (Int32.ofInt 5), .int (Int32.ofInt 174), .ref 96]) rfl ?_
      refine lf_imul 23 rfl rfl ?_
      refine lf_iadd 24 rfl rfl ?_
      obtain ⟨o34, h⟩ := h
      refine lf_iald 25 1538 rfl rfl rfl rfl rfl rfl o34 ?_
      refine lf_seg 1 (pc' := 26) (lv' := [(0, .ref 95), (1, .int (Int32.ofInt a1))]) (st' := [.int (Int32.ofInt 1), .int (Int32.ofInt (s32.1 96 (174 + (5 * a1))))]) rfl ?_
      obtain ⟨o35, h⟩ := h
      refine lf_icmp_ne 37 29 rfl rfl rfl o35 ⟨by decide, by decide⟩ (fun c => ?_) (fun c => ?_)
      · have h := h.1 c
        refine lf_sipush 40 (-10000) rfl rfl (by decide) (by decide) ?_
        exact lf_retI rfl rfl h
      · have h := h.2 c
        refine lf_seg 2 (pc' := 31) (lv' := [(0, .ref 95), (1, .int (Int32.ofInt a1))]) (st' := [.int (Int32.ofInt a1), .ref 95]) rfl ?_
        refine lf_callI 34 rfl rfl rfl rfl (gm_320 h) (fun r37 s36 h => ?_)
        refine lf_seg 1 (pc' := 40) (lv' := [(0, .ref 95), (1, .int (Int32.ofInt a1))]) (st' := [.int (Int32.ofInt r37)]) rfl ?_
        exact lf_retI rfl rfl h
-- fm_65c Stand.sum 29
def fm_65c_p10 (Q : Int → lf_Z → Prop) (x3 : Int) (X10 : Int → Int → lf_Z → Prop) (x1 : Int) (x4 : Int) (s : lf_Z) : Prop := lf_R x4 ∧ (lf_R x3 ∧ ((x3 ≤ x4 → (Q x1 s)) ∧ (¬ (x3 ≤ x4) → ((0 ≤ x4 ∧ x4 < 4) ∧ (X10 (lf_w (x1 + (s.1 29 x4))) (x4 + 1) s)))))
def fm_65c_p10L (Q : Int → lf_Z → Prop) (x1 : Int) (x3 : Int) (x4 : Int) (s : lf_Z) : Prop := ∀ X10 : Int → Int → lf_Z → Prop, (∀ (x1 : Int) (x4 : Int) (s : lf_Z), fm_65c_p10 Q x3 X10 x1 x4 s → X10 x1 x4 s) → X10 x1 x4 s
set_option maxRecDepth 100000 in
theorem gm_65c_p10 {L : Nat} {xs : Nat → Int32} {d : Nat} {Q : Int → lf_Z → Prop} {x1 : Int} {x3 : Int} {x4 : Int} {s : lf_Z} {X10 : Int → Int → lf_Z → Prop} (hX10 : ∀ x1 x4 s, X10 x1 x4 s → lf_E (px_ro L xs) (d + 1) 65 10 [(1, .int (Int32.ofInt x1)), (2, .ref 29), (3, .int (Int32.ofInt x3)), (4, .int (Int32.ofInt x4))] [] s (lf_qi Q)) (h : fm_65c_p10 Q x3 X10 x1 x4 s) : lf_E (px_ro L xs) (d + 1) 65 10 [(1, .int (Int32.ofInt x1)), (2, .ref 29), (3, .int (Int32.ofInt x3)), (4, .int (Int32.ofInt x4))] [] s (lf_qi Q) := by
  unfold fm_65c_p10 at h
  refine lf_seg 2 (pc' := 13) (lv' := [(1, .int (Int32.ofInt x1)), (2, .ref 29), (3, .int (Int32.ofInt x3)), (4, .int (Int32.ofInt x4))]) (st' := [.int (Int32.ofInt x3), .int (Int32.ofInt x4)]) rfl ?_
  obtain ⟨o21, h⟩ := h
  obtain ⟨o22, h⟩ := h
  refine lf_icmp_ge 33 16 rfl rfl rfl o21 o22 (fun c => ?_) (fun c => ?_)
  · have h := h.1 c
    refine lf_seg 1 (pc' := 34) (lv' := [(1, .int (Int32.ofInt x1)), (2, .ref 29), (3, .int (Int32.ofInt x3)), (4, .int (Int32.ofInt x4))]) (st' := [.int (Int32.ofInt x1)]) rfl ?_
    exact lf_retI rfl rfl h
  · have h := h.2 c
    refine lf_seg 2 (pc' := 19) (lv' := [(1, .int (Int32.ofInt x1)), (2, .ref 29), (3, .int (Int32.ofInt x3)), (4, .int (Int32.ofInt x4))]) (st' := [.int (Int32.ofInt x4), .ref 29]) rfl ?_
    obtain ⟨o23, h⟩ := h
    refine lf_iald 20 4 rfl rfl rfl rfl rfl rfl o23 ?_
    refine lf_seg 3 (pc' := 25) (lv' := [(5, .int (Int32.ofInt (s.1 29 x4))), (1, .int (Int32.ofInt x1)), (2, .ref 29), (3, .int (Int32.ofInt x3)), (4, .int (Int32.ofInt x4))]) (st' := [.int (Int32.ofInt (s.1 29 x4)), .int (Int32.ofInt x1)]) rfl ?_
    refine lf_iadd 26 rfl rfl ?_
    refine lf_wtI ?_
    refine lf_seg 1 (pc' := 27) (lv' := [(1, .int (Int32.ofInt (lf_w (x1 + (s.1 29 x4))))), (5, .int (Int32.ofInt (s.1 29 x4))), (2, .ref 29), (3, .int (Int32.ofInt x3)), (4, .int (Int32.ofInt x4))]) (st' := []) rfl ?_
    refine lf_iinc 30 rfl rfl rfl rfl ?_
    refine lf_seg 1 (pc' := 10) (lv' := [(4, .int (Int32.ofInt (x4 + 1))), (1, .int (Int32.ofInt (lf_w (x1 + (s.1 29 x4))))), (5, .int (Int32.ofInt (s.1 29 x4))), (2, .ref 29), (3, .int (Int32.ofInt x3))]) (st' := []) rfl ?_
    refine lf_sub (l := [(1, .int (Int32.ofInt (lf_w (x1 + (s.1 29 x4))))), (2, .ref 29), (3, .int (Int32.ofInt x3)), (4, .int (Int32.ofInt (x4 + 1)))]) (lf_sb1 rfl (lf_sb1 rfl (lf_sb1 rfl (lf_sb1 rfl lf_sb0)))) ?_
    exact hX10 _ _ _ h
theorem gm_65c_p10L {L : Nat} {xs : Nat → Int32} {d : Nat} {Q : Int → lf_Z → Prop} {x1 : Int} {x3 : Int} {x4 : Int} {s : lf_Z} (h : fm_65c_p10L Q x1 x3 x4 s) : lf_E (px_ro L xs) (d + 1) 65 10 [(1, .int (Int32.ofInt x1)), (2, .ref 29), (3, .int (Int32.ofInt x3)), (4, .int (Int32.ofInt x4))] [] s (lf_qi Q) :=
  h (fun x1 x4 s => lf_E (px_ro L xs) (d + 1) 65 10 [(1, .int (Int32.ofInt x1)), (2, .ref 29), (3, .int (Int32.ofInt x3)), (4, .int (Int32.ofInt x4))] [] s (lf_qi Q)) (fun x1 x4 s hb => gm_65c_p10 (fun _ _ _ h => h) hb)
def fm_65c (Q : Int → lf_Z → Prop) (s : lf_Z) : Prop := fm_65c_p10L Q 0 4 0 s
set_option maxRecDepth 100000 in
theorem gm_65c {L : Nat} {xs : Nat → Int32} {d : Nat} {Q : Int → lf_Z → Prop} {s : lf_Z} (h : fm_65c Q s) : lf_M (px_ro L xs) (d + 1) 65 [.ref 29] s (lf_qi Q) := by
  unfold fm_65c at h
  show lf_E (px_ro L xs) (d + 1) 65 0 [(0, .ref 29)] [] s _
  refine lf_seg 5 (pc' := 5) (lv' := [(2, .ref 29), (1, .int (Int32.ofInt 0)), (0, .ref 29)]) (st' := [.ref 29]) rfl ?_
  refine lf_len 6 4 rfl rfl rfl rfl rfl rfl ?_
  refine lf_seg 3 (pc' := 10) (lv' := [(4, .int (Int32.ofInt 0)), (3, .int (Int32.ofInt 4)), (2, .ref 29), (1, .int (Int32.ofInt 0)), (0, .ref 29)]) (st' := []) rfl ?_
  refine lf_sub (l := [(1, .int (Int32.ofInt 0)), (2, .ref 29), (3, .int (Int32.ofInt 4)), (4, .int (Int32.ofInt 0))]) (lf_sb1 rfl (lf_sb1 rfl (lf_sb1 rfl (lf_sb1 rfl lf_sb0)))) ?_
  exact gm_65c_p10L h
-- fm_168 Notes.allTries 25
def fm_168 (Q : Int → lf_Z → Prop) (s : lf_Z) : Prop := fm_65c (fun r22 s21 => (Q r22 s21)) s
set_option maxRecDepth 100000 in
theorem gm_168 {L : Nat} {xs : Nat → Int32} {d : Nat} {Q : Int → lf_Z → Prop} {s : lf_Z} (h : fm_168 Q s) : lf_M (px_ro L xs) (d + 2) 168 [.ref 25] s (lf_qi Q) := by
  unfold fm_168 at h
  show lf_E (px_ro L xs) (d + 2) 168 0 [(0, .ref 25)] [] s _
  refine lf_seg 2 (pc' := 4) (lv' := [(0, .ref 25)]) (st' := [.ref 29]) rfl ?_
  refine lf_callI 7 rfl rfl rfl rfl (gm_65c h) (fun r22 s21 h => ?_)
  exact lf_retI rfl rfl h
-- fm_167 Notes.forgetTries 25
def fm_167 (Q : lf_Z → Prop) (s : lf_Z) : Prop := Q (lf_fl (lf_fl s.1 29 4 0) 30 4 0, s.2.1, s.2.2)
set_option maxRecDepth 100000 in
theorem gm_167 {L : Nat} {xs : Nat → Int32} {d : Nat} {Q : lf_Z → Prop} {s : lf_Z} (h : fm_167 Q s) : lf_M (px_ro L xs) (d + 2) 167 [.ref 25] s (lf_qv Q) := by
  unfold fm_167 at h
  show lf_E (px_ro L xs) (d + 2) 167 0 [(0, .ref 25)] [] s _
  refine lf_seg 3 (pc' := 5) (lv' := [(0, .ref 25)]) (st' := [.int (Int32.ofInt 0), .ref 29]) rfl ?_
  refine lf_callV (Q1 := fun s1 => s1 = (lf_fl s.1 29 4 0, s.2.1, s.2.2)) 8 rfl rfl rfl rfl (lf_fill (m := 4) rfl rfl rfl rfl rfl rfl) (fun s1 hs1 => ?_)
  refine lf_as (lf_fl s.1 29 4 0, s.2.1, s.2.2) hs1 ?_
  refine lf_seg 3 (pc' := 13) (lv' := [(0, .ref 25)]) (st' := [.int (Int32.ofInt 0), .ref 30]) rfl ?_
  refine lf_callV (Q1 := fun s1 => s1 = (lf_fl (lf_fl s.1 29 4 0) 30 4 0, s.2.1, s.2.2)) 16 rfl rfl rfl rfl (lf_fill (m := 4) rfl rfl rfl rfl rfl rfl) (fun s1 hs1 => ?_)
  refine lf_as (lf_fl (lf_fl s.1 29 4 0) 30 4 0, s.2.1, s.2.2) hs1 ?_
  exact lf_retV rfl rfl h
