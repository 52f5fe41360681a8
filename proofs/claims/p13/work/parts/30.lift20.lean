-- fm_160 Laws.shareOf 63 n i
def fm_160 (a2 : Int) (Q : Int → lf_Z → Prop) (s : lf_Z) : Prop := Q 100 s
set_option maxRecDepth 100000 in
theorem gm_160 {L : Nat} {xs : Nat → Int32} {d : Nat} {a2 : Int} {Q : Int → lf_Z → Prop} {s : lf_Z} (h : fm_160 a2 Q s) : lf_M (px_ro L xs) (d + 1) 160 [.ref 63, .null, .int (Int32.ofInt a2)] s (lf_qi Q) := by
  unfold fm_160 at h
  show lf_E (px_ro L xs) (d + 1) 160 0 [(0, .ref 63), (1, .null), (2, .int (Int32.ofInt a2))] [] s _
  refine lf_seg 1 (pc' := 1) (lv' := [(0, .ref 63), (1, .null), (2, .int (Int32.ofInt a2))]) (st' := [.null]) rfl ?_
  refine lf_null_t 23 rfl rfl ?_
  refine lf_bipush 25 100 rfl rfl (by decide) (by decide) ?_
  exact lf_retI rfl rfl h
-- fm_159 ElevenBullocks.costAt 0 i n
def fm_159 (a1 : Int) (Q : Int → lf_Z → Prop) (s : lf_Z) : Prop := (0 ≤ a1 ∧ a1 < 12) ∧ (fm_160 a1 (fun r23 s22 => (Q ((lf_w ((s.1 21 a1) * r23)).tdiv 100) s22)) s)
set_option maxRecDepth 100000 in
theorem gm_159 {L : Nat} {xs : Nat → Int32} {d : Nat} {a1 : Int} {Q : Int → lf_Z → Prop} {s : lf_Z} (h : fm_159 a1 Q s) : lf_M (px_ro L xs) (d + 2) 159 [.ref 0, .int (Int32.ofInt a1), .null] s (lf_qi Q) := by
  unfold fm_159 at h
  show lf_E (px_ro L xs) (d + 2) 159 0 [(0, .ref 0), (1, .int (Int32.ofInt a1)), (2, .null)] [] s _
  refine lf_seg 4 (pc' := 8) (lv' := [(0, .ref 0), (1, .int (Int32.ofInt a1)), (2, .null)]) (st' := [.int (Int32.ofInt a1), .ref 21]) rfl ?_
  obtain ⟨o21, h⟩ := h
  refine lf_iald 9 12 rfl rfl rfl rfl rfl rfl o21 ?_
  refine lf_seg 4 (pc' := 15) (lv' := [(0, .ref 0), (1, .int (Int32.ofInt a1)), (2, .null)]) (st' := [.int (Int32.ofInt a1), .null, .ref 63, .int (Int32.ofInt (s.1 21 a1))]) rfl ?_
  refine lf_callI 18 rfl rfl rfl rfl (gm_160 h) (fun r23 s22 h => ?_)
  refine lf_imul 19 rfl rfl ?_
  refine lf_wtI ?_
  refine lf_bipush 21 100 rfl rfl (by decide) (by decide) ?_
  refine lf_idiv 22 rfl rfl lf_Rw ⟨by decide, by decide⟩ (by decide) ?_
  exact lf_retI rfl rfl h
-- fm_160b Laws.shareOf 63 t i
def fm_160b (t1 : Nat) (a2 : Int) (Q : Int → lf_Z → Prop) (s : lf_Z) : Prop := fm_40 t1 2 (fun z22 s21 => ((z22 = false → (Q 100 s21)) ∧ (z22 = true → (fm_18 a2 (fun z24 s23 => ((z24 = true → (fm_82 0 a2 0 (fun s25 => ((0 ≤ a2 ∧ a2 < 12) ∧ (fm_55 (s25.1 21 a2) 0 1000000 (fun r28 s27 => (fm_84b t1 2 (fun r30 s29 => (fm_55 r30 0 100 (fun r32 s31 => (Q r32 s31)) s29)) (lf_up s27.1 64 9 r28, s27.2.1, s27.2.2))) s25))) s23)) ∧ (z24 = false → (Q 100 s23)))) s21)))) s
set_option maxRecDepth 100000 in
theorem gm_160b {L : Nat} {xs : Nat → Int32} {d : Nat} {t1 : Nat} {a2 : Int} {Q : Int → lf_Z → Prop} {s : lf_Z} (htt1 : t1 < 4) (h : fm_160b t1 a2 Q s) : lf_M (px_ro L xs) (d + 3) 160 [.ref 63, .ref (35 + 7 * t1), .int (Int32.ofInt a2)] s (lf_qi Q) := by
  unfold fm_160b at h
  show lf_E (px_ro L xs) (d + 3) 160 0 [(0, .ref 63), (1, .ref (35 + 7 * t1)), (2, .int (Int32.ofInt a2))] [] s _
  refine lf_seg 1 (pc' := 1) (lv' := [(0, .ref 63), (1, .ref (35 + 7 * t1)), (2, .int (Int32.ofInt a2))]) (st' := [.ref (35 + 7 * t1)]) rfl ?_
  refine lf_null_f 4 rfl rfl ?_
  refine lf_seg 2 (pc' := 6) (lv' := [(0, .ref 63), (1, .ref (35 + 7 * t1)), (2, .int (Int32.ofInt a2))]) (st' := [.int (Int32.ofInt 2), .ref (35 + 7 * t1)]) rfl ?_
  refine lf_callZ 9 rfl rfl (lf_invT htt1 rfl rfl rfl rfl) rfl (gm_40 htt1 h) (fun z22 s21 h => ?_)
  refine lf_ifz_eq 23 12 rfl rfl rfl (fun c => ?_) (fun c => ?_)
  · have h := h.1 c
    refine lf_bipush 25 100 rfl rfl (by decide) (by decide) ?_
    exact lf_retI rfl rfl h
  · have h := h.2 c
    refine lf_seg 3 (pc' := 17) (lv' := [(0, .ref 63), (1, .ref (35 + 7 * t1)), (2, .int (Int32.ofInt a2))]) (st' := [.int (Int32.ofInt a2), .ref 1]) rfl ?_
    refine lf_callZ 20 rfl rfl rfl rfl (gm_18 h) (fun z24 s23 h => ?_)
    refine lf_ifz_ne 26 23 rfl rfl rfl (fun c => ?_) (fun c => ?_)
    · have h := h.1 c
      refine lf_seg 4 (pc' := 30) (lv' := [(0, .ref 63), (1, .ref (35 + 7 * t1)), (2, .int (Int32.ofInt a2))]) (st' := [.int (Int32.ofInt 0), .int (Int32.ofInt a2), .int (Int32.ofInt 0), .ref 63]) rfl ?_
      refine lf_callV 33 rfl rfl rfl rfl (gm_82 h) (fun s25 h => ?_)
      refine lf_seg 2 (pc' := 37) (lv' := [(0, .ref 63), (1, .ref (35 + 7 * t1)), (2, .int (Int32.ofInt a2))]) (st' := [.ref 64]) rfl ?_
      refine lf_bipush 39 9 rfl rfl (by decide) (by decide) ?_
      refine lf_seg 4 (pc' := 47) (lv' := [(0, .ref 63), (1, .ref (35 + 7 * t1)), (2, .int (Int32.ofInt a2))]) (st' := [.int (Int32.ofInt a2), .ref 21, .int (Int32.ofInt 9), .ref 64]) rfl ?_
      obtain ⟨o26, h⟩ := h
      refine lf_iald 48 12 rfl rfl rfl rfl rfl rfl o26 ?_
      refine lf_seg 1 (pc' := 49) (lv' := [(0, .ref 63), (1, .ref (35 + 7 * t1)), (2, .int (Int32.ofInt a2))]) (st' := [.int (Int32.ofInt 0), .int (Int32.ofInt (s25.1 21 a2)), .int (Int32.ofInt 9), .ref 64]) rfl ?_
      refine lf_ldc 51 1000000 rfl rfl rfl (by decide) ?_
      refine lf_callI 54 rfl rfl rfl rfl (gm_55 h) (fun r28 s27 h => ?_)
      refine lf_iast 55 11 rfl rfl rfl rfl rfl rfl ⟨by decide, by decide⟩ ?_
      refine lf_as (lf_up s27.1 64 9 r28, s27.2.1, s27.2.2) rfl ?_
      refine lf_seg 3 (pc' := 58) (lv' := [(0, .ref 63), (1, .ref (35 + 7 * t1)), (2, .int (Int32.ofInt a2))]) (st' := [.int (Int32.ofInt 2), .ref (35 + 7 * t1), .ref 63]) rfl ?_
      refine lf_callI 61 rfl rfl rfl rfl (gm_84b htt1 h) (fun r30 s29 h => ?_)
      refine lf_seg 1 (pc' := 62) (lv' := [(0, .ref 63), (1, .ref (35 + 7 * t1)), (2, .int (Int32.ofInt a2))]) (st' := [.int (Int32.ofInt 0), .int (Int32.ofInt r30)]) rfl ?_
      refine lf_bipush 64 100 rfl rfl (by decide) (by decide) ?_
      refine lf_callI 67 rfl rfl rfl rfl (gm_55 h) (fun r32 s31 h => ?_)
      exact lf_retI rfl rfl h
    · have h := h.2 c
      refine lf_bipush 25 100 rfl rfl (by decide) (by decide) ?_
      exact lf_retI rfl rfl h
-- fm_159b ElevenBullocks.costAt 0 i t
def fm_159b (a1 : Int) (t2 : Nat) (Q : Int → lf_Z → Prop) (s : lf_Z) : Prop := (0 ≤ a1 ∧ a1 < 12) ∧ (fm_160b t2 a1 (fun r23 s22 => (Q ((lf_w ((s.1 21 a1) * r23)).tdiv 100) s22)) s)
set_option maxRecDepth 100000 in
theorem gm_159b {L : Nat} {xs : Nat → Int32} {d : Nat} {a1 : Int} {t2 : Nat} {Q : Int → lf_Z → Prop} {s : lf_Z} (htt2 : t2 < 4) (h : fm_159b a1 t2 Q s) : lf_M (px_ro L xs) (d + 4) 159 [.ref 0, .int (Int32.ofInt a1), .ref (35 + 7 * t2)] s (lf_qi Q) := by
  unfold fm_159b at h
  show lf_E (px_ro L xs) (d + 4) 159 0 [(0, .ref 0), (1, .int (Int32.ofInt a1)), (2, .ref (35 + 7 * t2))] [] s _
  refine lf_seg 4 (pc' := 8) (lv' := [(0, .ref 0), (1, .int (Int32.ofInt a1)), (2, .ref (35 + 7 * t2))]) (st' := [.int (Int32.ofInt a1), .ref 21]) rfl ?_
  obtain ⟨o21, h⟩ := h
  refine lf_iald 9 12 rfl rfl rfl rfl rfl rfl o21 ?_
  refine lf_seg 4 (pc' := 15) (lv' := [(0, .ref 0), (1, .int (Int32.ofInt a1)), (2, .ref (35 + 7 * t2))]) (st' := [.int (Int32.ofInt a1), .ref (35 + 7 * t2), .ref 63, .int (Int32.ofInt (s.1 21 a1))]) rfl ?_
  refine lf_callI 18 rfl rfl rfl rfl (gm_160b htt2 h) (fun r23 s22 h => ?_)
  refine lf_imul 19 rfl rfl ?_
  refine lf_wtI ?_
  refine lf_bipush 21 100 rfl rfl (by decide) (by decide) ?_
  refine lf_idiv 22 rfl rfl lf_Rw ⟨by decide, by decide⟩ (by decide) ?_
  exact lf_retI rfl rfl h
-- fm_158 ElevenBullocks.pays 0 i i
def fm_158 (a1 : Int) (a2 : Int) (Q : Int → lf_Z → Prop) (s : lf_Z) : Prop := fm_18 a1 (fun z22 s21 => ((z22 = false → (Q (-1) s21)) ∧ (z22 = true → (fm_15 a2 (-1) ((s21.1 0 11) - 1) (fun z24 s23 => ((z24 = true → (fm_62 a2 (fun r27 s25 => (r27 = none → (fm_159 a1 (fun r29 s28 => (Q r29 s28)) s25)) ∧ (∀ t26 : Nat, r27 = some t26 → t26 < 4 ∧ (fm_159b a1 t26 (fun r31 s30 => (Q r31 s30)) s25))) s23)) ∧ (z24 = false → (Q (-1) s23)))) s21)))) s
set_option maxRecDepth 100000 in
theorem gm_158 {L : Nat} {xs : Nat → Int32} {d : Nat} {a1 : Int} {a2 : Int} {Q : Int → lf_Z → Prop} {s : lf_Z} (h : fm_158 a1 a2 Q s) : lf_M (px_ro L xs) (d + 5) 158 [.ref 0, .int (Int32.ofInt a1), .int (Int32.ofInt a2)] s (lf_qi Q) := by
  unfold fm_158 at h
  show lf_E (px_ro L xs) (d + 5) 158 0 [(0, .ref 0), (1, .int (Int32.ofInt a1)), (2, .int (Int32.ofInt a2))] [] s _
  refine lf_seg 3 (pc' := 5) (lv' := [(0, .ref 0), (1, .int (Int32.ofInt a1)), (2, .int (Int32.ofInt a2))]) (st' := [.int (Int32.ofInt a1), .ref 1]) rfl ?_
  refine lf_callZ 8 rfl rfl rfl rfl (gm_18 h) (fun z22 s21 h => ?_)
  refine lf_ifz_eq 25 11 rfl rfl rfl (fun c => ?_) (fun c => ?_)
  · have h := h.1 c
    refine lf_seg 1 (pc' := 26) (lv' := [(0, .ref 0), (1, .int (Int32.ofInt a1)), (2, .int (Int32.ofInt a2))]) (st' := [.int (Int32.ofInt (-1))]) rfl ?_
    exact lf_retI rfl rfl h
  · have h := h.2 c
    refine lf_seg 3 (pc' := 14) (lv' := [(0, .ref 0), (1, .int (Int32.ofInt a1)), (2, .int (Int32.ofInt a2))]) (st' := [.ref 0, .int (Int32.ofInt (-1)), .int (Int32.ofInt a2)]) rfl ?_
    refine lf_getI 17 11 rfl rfl rfl rfl rfl rfl rfl ?_
    refine lf_seg 1 (pc' := 18) (lv' := [(0, .ref 0), (1, .int (Int32.ofInt a1)), (2, .int (Int32.ofInt a2))]) (st' := [.int (Int32.ofInt 1), .int (Int32.ofInt (s21.1 0 11)), .int (Int32.ofInt (-1)), .int (Int32.ofInt a2)]) rfl ?_
    refine lf_isub 19 rfl rfl ?_
    refine lf_callZ 22 rfl rfl rfl rfl (gm_15 h) (fun z24 s23 h => ?_)
    refine lf_ifz_ne 27 25 rfl rfl rfl (fun c => ?_) (fun c => ?_)
    · have h := h.1 c
      refine lf_seg 4 (pc' := 31) (lv' := [(0, .ref 0), (1, .int (Int32.ofInt a1)), (2, .int (Int32.ofInt a2))]) (st' := [.int (Int32.ofInt a2), .ref 0, .int (Int32.ofInt a1), .ref 0]) rfl ?_
      refine lf_callR 34 rfl rfl rfl rfl (gm_62 h) (fun s25 h => ?_) (fun t26 s25 h => ?_)
      · have h := h.1 rfl
        refine lf_callI 37 rfl rfl rfl rfl (gm_159 h) (fun r29 s28 h => ?_)
        exact lf_retI rfl rfl h
      · obtain ⟨htt26, h⟩ := h.2 _ rfl
        refine lf_callI 37 rfl rfl rfl rfl (gm_159b htt26 h) (fun r31 s30 h => ?_)
        exact lf_retI rfl rfl h
    · have h := h.2 c
      refine lf_seg 1 (pc' := 26) (lv' := [(0, .ref 0), (1, .int (Int32.ofInt a1)), (2, .int (Int32.ofInt a2))]) (st' := [.int (Int32.ofInt (-1))]) rfl ?_
      exact lf_retI rfl rfl h
-- fm_315 Model.paysBy 95 i i
def fm_315 (a1 : Int) (a2 : Int) (Q : Int → lf_Z → Prop) (s : lf_Z) : Prop := fm_264 0 a1 (fun s21 => (fm_246 a1 (fun r23 s22 => (fm_246 a1 (fun r25 s24 => (lf_R r25 ∧ (fm_267 a2 2 100 100 (fun r28 s27 => (lf_R r28 ∧ (Q (lf_w (lf_wl ((lf_wl (r25 * r28)).tdiv 100))) s27))) s24))) (lf_up s22.1 104 10 r23, s22.2.1, s22.2.2))) s21)) s
set_option maxRecDepth 100000 in
theorem gm_315 {L : Nat} {xs : Nat → Int32} {d : Nat} {a1 : Int} {a2 : Int} {Q : Int → lf_Z → Prop} {s : lf_Z} (h : fm_315 a1 a2 Q s) : lf_M (px_ro L xs) (d + 5) 315 [.ref 95, .int (Int32.ofInt a1), .int (Int32.ofInt a2)] s (lf_qi Q) := by
  unfold fm_315 at h
  show lf_E (px_ro L xs) (d + 5) 315 0 [(0, .ref 95), (1, .int (Int32.ofInt a1)), (2, .int (Int32.ofInt a2))] [] s _
  refine lf_seg 3 (pc' := 3) (lv' := [(0, .ref 95), (1, .int (Int32.ofInt a1)), (2, .int (Int32.ofInt a2))]) (st' := [.int (Int32.ofInt a1), .int (Int32.ofInt 0), .ref 95]) rfl ?_
  refine lf_callV 6 rfl rfl rfl rfl (gm_264 h) (fun s21 h => ?_)
  refine lf_seg 2 (pc' := 10) (lv' := [(0, .ref 95), (1, .int (Int32.ofInt a1)), (2, .int (Int32.ofInt a2))]) (st' := [.ref 104]) rfl ?_
  refine lf_bipush 12 10 rfl rfl (by decide) (by decide) ?_
  refine lf_seg 2 (pc' := 14) (lv' := [(0, .ref 95), (1, .int (Int32.ofInt a1)), (2, .int (Int32.ofInt a2))]) (st' := [.int (Int32.ofInt a1), .ref 95, .int (Int32.ofInt 10), .ref 104]) rfl ?_
  refine lf_callI 17 rfl rfl rfl rfl (gm_246 h) (fun r23 s22 h => ?_)
  refine lf_iast 18 11 rfl rfl rfl rfl rfl rfl ⟨by decide, by decide⟩ ?_
  refine lf_as (lf_up s22.1 104 10 r23, s22.2.1, s22.2.2) rfl ?_
  refine lf_seg 2 (pc' := 20) (lv' := [(0, .ref 95), (1, .int (Int32.ofInt a1)), (2, .int (Int32.ofInt a2))]) (st' := [.int (Int32.ofInt a1), .ref 95]) rfl ?_
  refine lf_callI 23 rfl rfl rfl rfl (gm_246 h) (fun r25 s24 h => ?_)
  obtain ⟨o26, h⟩ := h
  refine lf_i2l 24 rfl rfl o26 ?_
  refine lf_seg 3 (pc' := 27) (lv' := [(0, .ref 95), (1, .int (Int32.ofInt a1)), (2, .int (Int32.ofInt a2))]) (st' := [.int (Int32.ofInt 2), .int (Int32.ofInt a2), .ref 95, .long (Int64.ofInt r25)]) rfl ?_
  refine lf_bipush 29 100 rfl rfl (by decide) (by decide) ?_
  refine lf_bipush 31 100 rfl rfl (by decide) (by decide) ?_
  refine lf_callI 34 rfl rfl rfl rfl (gm_267 h) (fun r28 s27 h => ?_)
  obtain ⟨o29, h⟩ := h
  refine lf_i2l 35 rfl rfl o29 ?_
  refine lf_lmul 36 rfl rfl ?_
  refine lf_wtL ?_
  refine lf_ldc2 39 100 rfl rfl rfl (by decide) ?_
  refine lf_ldiv 40 rfl rfl lf_RLwl ⟨by decide, by decide⟩ (by decide) ?_
  refine lf_wtL ?_
  refine lf_l2i 41 rfl rfl ?_
  refine lf_wtI ?_
  exact lf_retI rfl rfl h
-- fm_314 Model.pays 95 i i
def fm_314 (a1 : Int) (a2 : Int) (Q : Int → lf_Z → Prop) (s : lf_Z) : Prop := fm_185 a1 (fun z22 s21 => ((z22 = false → (Q (-1) s21)) ∧ (z22 = true → (fm_183 a2 (-1) ((s21.1 96 7) - 1) (fun z24 s23 => ((z24 = false → (Q (-1) s23)) ∧ (z24 = true → (fm_315 a1 a2 (fun r26 s25 => (Q r26 s25)) s23)))) s21)))) s
set_option maxRecDepth 100000 in
theorem gm_314 {L : Nat} {xs : Nat → Int32} {d : Nat} {a1 : Int} {a2 : Int} {Q : Int → lf_Z → Prop} {s : lf_Z} (h : fm_314 a1 a2 Q s) : lf_M (px_ro L xs) (d + 6) 314 [.ref 95, .int (Int32.ofInt a1), .int (Int32.ofInt a2)] s (lf_qi Q) := by
  unfold fm_314 at h
  show lf_E (px_ro L xs) (d + 6) 314 0 [(0, .ref 95), (1, .int (Int32.ofInt a1)), (2, .int (Int32.ofInt a2))] [] s _
  refine lf_seg 2 (pc' := 2) (lv' := [(0, .ref 95), (1, .int (Int32.ofInt a1)), (2, .int (Int32.ofInt a2))]) (st' := [.int (Int32.ofInt a1), .ref 95]) rfl ?_
  refine lf_callZ 5 rfl rfl rfl rfl (gm_185 h) (fun z22 s21 h => ?_)
  refine lf_ifz_eq 34 8 rfl rfl rfl (fun c => ?_) (fun c => ?_)
  · have h := h.1 c
    refine lf_seg 1 (pc' := 35) (lv' := [(0, .ref 95), (1, .int (Int32.ofInt a1)), (2, .int (Int32.ofInt a2))]) (st' := [.int (Int32.ofInt (-1))]) rfl ?_
    exact lf_retI rfl rfl h
  · have h := h.2 c
    refine lf_seg 4 (pc' := 14) (lv' := [(0, .ref 95), (1, .int (Int32.ofInt a1)), (2, .int (Int32.ofInt a2))]) (st' := [.ref 96, .int (Int32.ofInt (-1)), .int (Int32.ofInt a2)]) rfl ?_
    refine lf_bipush 16 7 rfl rfl (by decide) (by decide) ?_
    refine lf_iald 17 1538 rfl rfl rfl rfl rfl rfl ⟨by decide, by decide⟩ ?_
    refine lf_seg 1 (pc' := 18) (lv' := [(0, .ref 95), (1, .int (Int32.ofInt a1)), (2, .int (Int32.ofInt a2))]) (st' := [.int (Int32.ofInt 1), .int (Int32.ofInt (s21.1 96 7)), .int (Int32.ofInt (-1)), .int (Int32.ofInt a2)]) rfl ?_
    refine lf_isub 19 rfl rfl ?_
    refine lf_callZ 22 rfl rfl rfl rfl (gm_183 h) (fun z24 s23 h => ?_)
    refine lf_ifz_eq 34 25 rfl rfl rfl (fun c => ?_) (fun c => ?_)
    · have h := h.1 c
      refine lf_seg 1 (pc' := 35) (lv' := [(0, .ref 95), (1, .int (Int32.ofInt a1)), (2, .int (Int32.ofInt a2))]) (st' := [.int (Int32.ofInt (-1))]) rfl ?_
      exact lf_retI rfl rfl h
    · have h := h.2 c
      refine lf_seg 3 (pc' := 28) (lv' := [(0, .ref 95), (1, .int (Int32.ofInt a1)), (2, .int (Int32.ofInt a2))]) (st' := [.int (Int32.ofInt a2), .int (Int32.ofInt a1), .ref 95]) rfl ?_
      refine lf_callI 31 rfl rfl rfl rfl (gm_315 h) (fun r26 s25 h => ?_)
      refine lf_seg 1 (pc' := 35) (lv' := [(0, .ref 95), (1, .int (Int32.ofInt a1)), (2, .int (Int32.ofInt a2))]) (st' := [.int (Int32.ofInt r26)]) rfl ?_
      exact lf_retI rfl rfl h
-- fm_162 ElevenBullocks.costOfGardens 0 i
def fm_162_p41 (X4 : Int → Int → lf_Z → Prop) (Q : Int → lf_Z → Prop) (x1 : Int) (x2 : Int) (x3 : Int) (s : lf_Z) : Prop := X4 x2 (x3 + 1) s
set_option maxRecDepth 100000 in
theorem gm_162_p41 {L : Nat} {xs : Nat → Int32} {d : Nat} {X4 : Int → Int → lf_Z → Prop} {Q : Int → lf_Z → Prop} {x1 : Int} {x2 : Int} {x3 : Int} {s : lf_Z} (hX4 : ∀ x2 x3 s, X4 x2 x3 s → lf_E (px_ro L xs) (d + 5) 162 4 [(0, .ref 0), (1, .int (Int32.ofInt x1)), (2, .int (Int32.ofInt x2)), (3, .int (Int32.ofInt x3))] [] s (lf_qi Q)) (h : fm_162_p41 X4 Q x1 x2 x3 s) : lf_E (px_ro L xs) (d + 5) 162 41 [(0, .ref 0), (1, .int (Int32.ofInt x1)), (2, .int (Int32.ofInt x2)), (3, .int (Int32.ofInt x3))] [] s (lf_qi Q) := by
  unfold fm_162_p41 at h
  refine lf_iinc 44 rfl rfl rfl rfl ?_
  refine lf_seg 1 (pc' := 4) (lv' := [(3, .int (Int32.ofInt (x3 + 1))), (0, .ref 0), (1, .int (Int32.ofInt x1)), (2, .int (Int32.ofInt x2))]) (st' := []) rfl ?_
  refine lf_sub (l := [(0, .ref 0), (1, .int (Int32.ofInt x1)), (2, .int (Int32.ofInt x2)), (3, .int (Int32.ofInt (x3 + 1)))]) (lf_sb1 rfl (lf_sb1 rfl (lf_sb1 rfl (lf_sb1 rfl lf_sb0)))) ?_
  exact hX4 _ _ _ h
def fm_162_p4 (Q : Int → lf_Z → Prop) (x1 : Int) (X4 : Int → Int → lf_Z → Prop) (x2 : Int) (x3 : Int) (s : lf_Z) : Prop := lf_R x3 ∧ (lf_R (s.1 1 0) ∧ ((s.1 1 0 ≤ x3 → (Q x2 s)) ∧ (¬ (s.1 1 0 ≤ x3) → ((0 ≤ x3 ∧ x3 < 12) ∧ (lf_R (s.1 2 x3) ∧ ((s.1 2 x3 ≠ 1 → (fm_162_p41 X4 Q x1 x2 x3 s)) ∧ (¬ (s.1 2 x3 ≠ 1) → (fm_62 x1 (fun r27 s25 => (r27 = none → (fm_159 x3 (fun r29 s28 => (fm_162_p41 X4 Q x1 (lf_w (x2 + r29)) x3 s28)) s25)) ∧ (∀ t26 : Nat, r27 = some t26 → t26 < 4 ∧ (fm_159b x3 t26 (fun r31 s30 => (fm_162_p41 X4 Q x1 (lf_w (x2 + r31)) x3 s30)) s25))) s))))))))
def fm_162_p4L (Q : Int → lf_Z → Prop) (x1 : Int) (x2 : Int) (x3 : Int) (s : lf_Z) : Prop := ∀ X4 : Int → Int → lf_Z → Prop, (∀ (x2 : Int) (x3 : Int) (s : lf_Z), fm_162_p4 Q x1 X4 x2 x3 s → X4 x2 x3 s) → X4 x2 x3 s
set_option maxRecDepth 100000 in
theorem gm_162_p4 {L : Nat} {xs : Nat → Int32} {d : Nat} {Q : Int → lf_Z → Prop} {x1 : Int} {x2 : Int} {x3 : Int} {s : lf_Z} {X4 : Int → Int → lf_Z → Prop} (hX4 : ∀ x2 x3 s, X4 x2 x3 s → lf_E (px_ro L xs) (d + 5) 162 4 [(0, .ref 0), (1, .int (Int32.ofInt x1)), (2, .int (Int32.ofInt x2)), (3, .int (Int32.ofInt x3))] [] s (lf_qi Q)) (h : fm_162_p4 Q x1 X4 x2 x3 s) : lf_E (px_ro L xs) (d + 5) 162 4 [(0, .ref 0), (1, .int (Int32.ofInt x1)), (2, .int (Int32.ofInt x2)), (3, .int (Int32.ofInt x3))] [] s (lf_qi Q) := by
  unfold fm_162_p4 at h
  refine lf_seg 3 (pc' := 9) (lv' := [(0, .ref 0), (1, .int (Int32.ofInt x1)), (2, .int (Int32.ofInt x2)), (3, .int (Int32.ofInt x3))]) (st' := [.ref 1, .int (Int32.ofInt x3)]) rfl ?_
  refine lf_getI 12 0 rfl rfl rfl rfl rfl rfl rfl ?_
  obtain ⟨o21, h⟩ := h
  obtain ⟨o22, h⟩ := h
  refine lf_icmp_ge 47 15 rfl rfl rfl o21 o22 (fun c => ?_) (fun c => ?_)
  · have h := h.1 c
    refine lf_seg 1 (pc' := 48) (lv' := [(0, .ref 0), (1, .int (Int32.ofInt x1)), (2, .int (Int32.ofInt x2)), (3, .int (Int32.ofInt x3))]) (st' := [.int (Int32.ofInt x2)]) rfl ?_
    exact lf_retI rfl rfl h
  · have h := h.2 c
    refine lf_seg 4 (pc' := 23) (lv' := [(0, .ref 0), (1, .int (Int32.ofInt x1)), (2, .int (Int32.ofInt x2)), (3, .int (Int32.ofInt x3))]) (st' := [.int (Int32.ofInt x3), .ref 2]) rfl ?_
    obtain ⟨o23, h⟩ := h
    refine lf_iald 24 12 rfl rfl rfl rfl rfl rfl o23 ?_
    refine lf_seg 1 (pc' := 25) (lv' := [(0, .ref 0), (1, .int (Int32.ofInt x1)), (2, .int (Int32.ofInt x2)), (3, .int (Int32.ofInt x3))]) (st' := [.int (Int32.ofInt 1), .int (Int32.ofInt (s.1 2 x3))]) rfl ?_
    obtain ⟨o24, h⟩ := h
    refine lf_icmp_ne 41 28 rfl rfl rfl o24 ⟨by decide, by decide⟩ (fun c => ?_) (fun c => ?_)
    · have h := h.1 c
      refine lf_sub (l := [(0, .ref 0), (1, .int (Int32.ofInt x1)), (2, .int (Int32.ofInt x2)), (3, .int (Int32.ofInt x3))]) (lf_sb1 rfl (lf_sb1 rfl (lf_sb1 rfl (lf_sb1 rfl lf_sb0)))) ?_
      exact gm_162_p41 hX4 h
    · have h := h.2 c
      refine lf_seg 5 (pc' := 33) (lv' := [(0, .ref 0), (1, .int (Int32.ofInt x1)), (2, .int (Int32.ofInt x2)), (3, .int (Int32.ofInt x3))]) (st' := [.int (Int32.ofInt x1), .ref 0, .int (Int32.ofInt x3), .ref 0, .int (Int32.ofInt x2)]) rfl ?_
      refine lf_callR 36 rfl rfl rfl rfl (gm_62 h) (fun s25 h => ?_) (fun t26 s25 h => ?_)
      · have h := h.1 rfl
        refine lf_callI 39 rfl rfl rfl rfl (gm_159 h) (fun r29 s28 h => ?_)
        refine lf_iadd 40 rfl rfl ?_
        refine lf_wtI ?_
        refine lf_seg 1 (pc' := 41) (lv' := [(2, .int (Int32.ofInt (lf_w (x2 + r29)))), (0, .ref 0), (1, .int (Int32.ofInt x1)), (3, .int (Int32.ofInt x3))]) (st' := []) rfl ?_
        refine lf_sub (l := [(0, .ref 0), (1, .int (Int32.ofInt x1)), (2, .int (Int32.ofInt (lf_w (x2 + r29)))), (3, .int (Int32.ofInt x3))]) (lf_sb1 rfl (lf_sb1 rfl (lf_sb1 rfl (lf_sb1 rfl lf_sb0)))) ?_
        exact gm_162_p41 hX4 h
      · obtain ⟨htt26, h⟩ := h.2 _ rfl
        refine lf_callI 39 rfl rfl rfl rfl (gm_159b htt26 h) (fun r31 s30 h => ?_)
        refine lf_iadd 40 rfl rfl ?_
        refine lf_wtI ?_
        refine lf_seg 1 (pc' := 41) (lv' := [(2, .int (Int32.ofInt (lf_w (x2 + r31)))), (0, .ref 0), (1, .int (Int32.ofInt x1)), (3, .int (Int32.ofInt x3))]) (st' := []) rfl ?_
        refine lf_sub (l := [(0, .ref 0), (1, .int (Int32.ofInt x1)), (2, .int (Int32.ofInt (lf_w (x2 + r31)))), (3, .int (Int32.ofInt x3))]) (lf_sb1 rfl (lf_sb1 rfl (lf_sb1 rfl (lf_sb1 rfl lf_sb0)))) ?_
        exact gm_162_p41 hX4 h
theorem gm_162_p4L {L : Nat} {xs : Nat → Int32} {d : Nat} {Q : Int → lf_Z → Prop} {x1 : Int} {x2 : Int} {x3 : Int} {s : lf_Z} (h : fm_162_p4L Q x1 x2 x3 s) : lf_E (px_ro L xs) (d + 5) 162 4 [(0, .ref 0), (1, .int (Int32.ofInt x1)), (2, .int (Int32.ofInt x2)), (3, .int (Int32.ofInt x3))] [] s (lf_qi Q) :=
  h (fun x2 x3 s => lf_E (px_ro L xs) (d + 5) 162 4 [(0, .ref 0), (1, .int (Int32.ofInt x1)), (2, .int (Int32.ofInt x2)), (3, .int (Int32.ofInt x3))] [] s (lf_qi Q)) (fun x2 x3 s hb => gm_162_p4 (fun _ _ _ h => h) hb)
def fm_162 (a1 : Int) (Q : Int → lf_Z → Prop) (s : lf_Z) : Prop := fm_162_p4L Q a1 0 0 s
set_option maxRecDepth 100000 in
theorem gm_162 {L : Nat} {xs : Nat → Int32} {d : Nat} {a1 : Int} {Q : Int → lf_Z → Prop} {s : lf_Z} (h : fm_162 a1 Q s) : lf_M (px_ro L xs) (d + 5) 162 [.ref 0, .int (Int32.ofInt a1)] s (lf_qi Q) := by
  unfold fm_162 at h
  show lf_E (px_ro L xs) (d + 5) 162 0 [(0, .ref 0), (1, .int (Int32.ofInt a1))] [] s _
  refine lf_seg 4 (pc' := 4) (lv' := [(3, .int (Int32.ofInt 0)), (2, .int (Int32.ofInt 0)), (0, .ref 0), (1, .int (Int32.ofInt a1))]) (st' := []) rfl ?_
  refine lf_sub (l := [(0, .ref 0), (1, .int (Int32.ofInt a1)), (2, .int (Int32.ofInt 0)), (3, .int (Int32.ofInt 0))]) (lf_sb1 rfl (lf_sb1 rfl (lf_sb1 rfl (lf_sb1 rfl lf_sb0)))) ?_
  exact gm_162_p4L h
-- fm_161 ElevenBullocks.cheapest 0
def fm_161_p36 (X10 : Int → Int → Int → lf_Z → Prop) (Q : Int → lf_Z → Prop) (x1 : Int) (x2 : Int) (x3 : Int) (s : lf_Z) : Prop := X10 x1 x2 (x3 + 1) s
set_option maxRecDepth 100000 in
theorem gm_161_p36 {L : Nat} {xs : Nat → Int32} {d : Nat} {X10 : Int → Int → Int → lf_Z → Prop} {Q : Int → lf_Z → Prop} {x1 : Int} {x2 : Int} {x3 : Int} {s : lf_Z} (hX10 : ∀ x1 x2 x3 s, X10 x1 x2 x3 s → lf_E (px_ro L xs) (d + 6) 161 10 [(0, .ref 0), (1, .int (Int32.ofInt x1)), (2, .int (Int32.ofInt x2)), (3, .int (Int32.ofInt x3))] [] s (lf_qi Q)) (h : fm_161_p36 X10 Q x1 x2 x3 s) : lf_E (px_ro L xs) (d + 6) 161 36 [(0, .ref 0), (1, .int (Int32.ofInt x1)), (2, .int (Int32.ofInt x2)), (3, .int (Int32.ofInt x3))] [] s (lf_qi Q) := by
  unfold fm_161_p36 at h
  refine lf_iinc 39 rfl rfl rfl rfl ?_
  refine lf_seg 1 (pc' := 10) (lv' := [(3, .int (Int32.ofInt (x3 + 1))), (0, .ref 0), (1, .int (Int32.ofInt x1)), (2, .int (Int32.ofInt x2))]) (st' := []) rfl ?_
  refine lf_sub (l := [(0, .ref 0), (1, .int (Int32.ofInt x1)), (2, .int (Int32.ofInt x2)), (3, .int (Int32.ofInt (x3 + 1)))]) (lf_sb1 rfl (lf_sb1 rfl (lf_sb1 rfl (lf_sb1 rfl lf_sb0)))) ?_
  exact hX10 _ _ _ _ h
def fm_161_p10 (Q : Int → lf_Z → Prop) (X10 : Int → Int → Int → lf_Z → Prop) (x1 : Int) (x2 : Int) (x3 : Int) (s : lf_Z) : Prop := lf_R x3 ∧ (lf_R (s.1 0 11) ∧ ((s.1 0 11 ≤ x3 → (Q x1 s)) ∧ (¬ (s.1 0 11 ≤ x3) → (fm_162 x3 (fun r26 s25 => (lf_R r26 ∧ (lf_R x2 ∧ ((x2 ≤ r26 → (fm_161_p36 X10 Q x1 x2 x3 s25)) ∧ (¬ (x2 ≤ r26) → (fm_161_p36 X10 Q x3 r26 x3 s25)))))) s))))
def fm_161_p10L (Q : Int → lf_Z → Prop) (x1 : Int) (x2 : Int) (x3 : Int) (s : lf_Z) : Prop := ∀ X10 : Int → Int → Int → lf_Z → Prop, (∀ (x1 : Int) (x2 : Int) (x3 : Int) (s : lf_Z), fm_161_p10 Q X10 x1 x2 x3 s → X10 x1 x2 x3 s) → X10 x1 x2 x3 s
set_option maxRecDepth 100000 in
theorem gm_161_p10 {L : Nat} {xs : Nat → Int32} {d : Nat} {Q : Int → lf_Z → Prop} {x1 : Int} {x2 : Int} {x3 : Int} {s : lf_Z} {X10 : Int → Int → Int → lf_Z → Prop} (hX10 : ∀ x1 x2 x3 s, X10 x1 x2 x3 s → lf_E (px_ro L xs) (d + 6) 161 10 [(0, .ref 0), (1, .int (Int32.ofInt x1)), (2, .int (Int32.ofInt x2)), (3, .int (Int32.ofInt x3))] [] s (lf_qi Q)) (h : fm_161_p10 Q X10 x1 x2 x3 s) : lf_E (px_ro L xs) (d + 6) 161 10 [(0, .ref 0), (1, .int (Int32.ofInt x1)), (2, .int (Int32.ofInt x2)), (3, .int (Int32.ofInt x3))] [] s (lf_qi Q) := by
  unfold fm_161_p10 at h
  refine lf_seg 2 (pc' := 12) (lv' := [(0, .ref 0), (1, .int (Int32.ofInt x1)), (2, .int (Int32.ofInt x2)), (3, .int (Int32.ofInt x3))]) (st' := [.ref 0, .int (Int32.ofInt x3)]) rfl ?_
  refine lf_getI 15 11 rfl rfl rfl rfl rfl rfl rfl ?_
  obtain ⟨o23, h⟩ := h
  obtain ⟨o24, h⟩ := h
  refine lf_icmp_ge 42 18 rfl rfl rfl o23 o24 (fun c => ?_) (fun c => ?_)
  · have h := h.1 c
    refine lf_seg 1 (pc' := 43) (lv' := [(0, .ref 0), (1, .int (Int32.ofInt x1)), (2, .int (Int32.ofInt x2)), (3, .int (Int32.ofInt x3))]) (st' := [.int (Int32.ofInt x1)]) rfl ?_
    exact lf_retI rfl rfl h
  · have h := h.2 c
    refine lf_seg 2 (pc' := 20) (lv' := [(0, .ref 0), (1, .int (Int32.ofInt x1)), (2, .int (Int32.ofInt x2)), (3, .int (Int32.ofInt x3))]) (st' := [.int (Int32.ofInt x3), .ref 0]) rfl ?_
    refine lf_callI 23 rfl rfl rfl rfl (gm_162 h) (fun r26 s25 h => ?_)
    refine lf_seg 3 (pc' := 28) (lv' := [(4, .int (Int32.ofInt r26)), (0, .ref 0), (1, .int (Int32.ofInt x1)), (2, .int (Int32.ofInt x2)), (3, .int (Int32.ofInt x3))]) (st' := [.int (Int32.ofInt x2), .int (Int32.ofInt r26)]) rfl ?_
    obtain ⟨o27, h⟩ := h
    obtain ⟨o28, h⟩ := h
    refine lf_icmp_ge 36 31 rfl rfl rfl o27 o28 (fun c => ?_) (fun c => ?_)
    · have h := h.1 c
      refine lf_sub (l := [(0, .ref 0), (1, .int (Int32.ofInt x1)), (2, .int (Int32.ofInt x2)), (3, .int (Int32.ofInt x3))]) (lf_sb1 rfl (lf_sb1 rfl (lf_sb1 rfl (lf_sb1 rfl lf_sb0)))) ?_
      exact gm_161_p36 hX10 h
    · have h := h.2 c
      refine lf_seg 4 (pc' := 36) (lv' := [(1, .int (Int32.ofInt x3)), (2, .int (Int32.ofInt r26)), (4, .int (Int32.ofInt r26)), (0, .ref 0), (3, .int (Int32.ofInt x3))]) (st' := []) rfl ?_
      refine lf_sub (l := [(0, .ref 0), (1, .int (Int32.ofInt x3)), (2, .int (Int32.ofInt r26)), (3, .int (Int32.ofInt x3))]) (lf_sb1 rfl (lf_sb1 rfl (lf_sb1 rfl (lf_sb1 rfl lf_sb0)))) ?_
      exact gm_161_p36 hX10 h
theorem gm_161_p10L {L : Nat} {xs : Nat → Int32} {d : Nat} {Q : Int → lf_Z → Prop} {x1 : Int} {x2 : Int} {x3 : Int} {s : lf_Z} (h : fm_161_p10L Q x1 x2 x3 s) : lf_E (px_ro L xs) (d + 6) 161 10 [(0, .ref 0), (1, .int (Int32.ofInt x1)), (2, .int (Int32.ofInt x2)), (3, .int (Int32.ofInt x3))] [] s (lf_qi Q) :=
  h (fun x1 x2 x3 s => lf_E (px_ro L xs) (d + 6) 161 10 [(0, .ref 0), (1, .int (Int32.ofInt x1)), (2, .int (Int32.ofInt x2)), (3, .int (Int32.ofInt x3))] [] s (lf_qi Q)) (fun x1 x2 x3 s hb => gm_161_p10 (fun _ _ _ _ h => h) hb)
def fm_161 (Q : Int → lf_Z → Prop) (s : lf_Z) : Prop := fm_162 (-1) (fun r22 s21 => (fm_161_p10L Q (-1) r22 0 s21)) s
set_option maxRecDepth 100000 in
theorem gm_161 {L : Nat} {xs : Nat → Int32} {d : Nat} {Q : Int → lf_Z → Prop} {s : lf_Z} (h : fm_161 Q s) : lf_M (px_ro L xs) (d + 6) 161 [.ref 0] s (lf_qi Q) := by
  unfold fm_161 at h
  show lf_E (px_ro L xs) (d + 6) 161 0 [(0, .ref 0)] [] s _
  refine lf_seg 4 (pc' := 4) (lv' := [(1, .int (Int32.ofInt (-1))), (0, .ref 0)]) (st' := [.int (Int32.ofInt (-1)), .ref 0]) rfl ?_
  refine lf_callI 7 rfl rfl rfl rfl (gm_162 h) (fun r22 s21 h => ?_)
  refine lf_seg 3 (pc' := 10) (lv' := [(3, .int (Int32.ofInt 0)), (2, .int (Int32.ofInt r22)), (1, .int (Int32.ofInt (-1))), (0, .ref 0)]) (st' := []) rfl ?_
  refine lf_sub (l := [(0, .ref 0), (1, .int (Int32.ofInt (-1))), (2, .int (Int32.ofInt r22)), (3, .int (Int32.ofInt 0))]) (lf_sb1 rfl (lf_sb1 rfl (lf_sb1 rfl (lf_sb1 rfl lf_sb0)))) ?_
  exact gm_161_p10L h
-- fm_317 Model.costBy 95 i
def fm_317_p34 (X4 : Int → Int → lf_Z → Prop) (Q : Int → lf_Z → Prop) (x1 : Int) (x3 : Int) (y0 : Int) (y1 : Int) (s : lf_Z) : Prop := X4 (lf_w (y0 + y1)) (x3 + 1) s
set_option maxRecDepth 100000 in
theorem gm_317_p34 {L : Nat} {xs : Nat → Int32} {d : Nat} {X4 : Int → Int → lf_Z → Prop} {Q : Int → lf_Z → Prop} {x1 : Int} {x3 : Int} {y0 : Int} {y1 : Int} {s : lf_Z} (hX4 : ∀ x2 x3 s, X4 x2 x3 s → lf_E (px_ro L xs) (d + 6) 317 4 [(0, .ref 95), (1, .int (Int32.ofInt x1)), (2, .int (Int32.ofInt x2)), (3, .int (Int32.ofInt x3))] [] s (lf_qi Q)) (h : fm_317_p34 X4 Q x1 x3 y0 y1 s) : lf_E (px_ro L xs) (d + 6) 317 34 [(0, .ref 95), (1, .int (Int32.ofInt x1)), (3, .int (Int32.ofInt x3))] [.int (Int32.ofInt y1), .int (Int32.ofInt y0)] s (lf_qi Q) := by
  unfold fm_317_p34 at h
  refine lf_iadd 35 rfl rfl ?_
  refine lf_wtI ?_
  refine lf_seg 1 (pc' := 36) (lv' := [(2, .int (Int32.ofInt (lf_w (y0 + y1)))), (0, .ref 95), (1, .int (Int32.ofInt x1)), (3, .int (Int32.ofInt x3))]) (st' := []) rfl ?_
  refine lf_iinc 39 rfl rfl rfl rfl ?_
  refine lf_seg 1 (pc' := 4) (lv' := [(3, .int (Int32.ofInt (x3 + 1))), (2, .int (Int32.ofInt (lf_w (y0 + y1)))), (0, .ref 95), (1, .int (Int32.ofInt x1))]) (st' := []) rfl ?_
  refine lf_sub (l := [(0, .ref 95), (1, .int (Int32.ofInt x1)), (2, .int (Int32.ofInt (lf_w (y0 + y1)))), (3, .int (Int32.ofInt (x3 + 1)))]) (lf_sb1 rfl (lf_sb1 rfl (lf_sb1 rfl (lf_sb1 rfl lf_sb0)))) ?_
  exact hX4 _ _ _ h
def fm_317_p4 (Q : Int → lf_Z → Prop) (x1 : Int) (X4 : Int → Int → lf_Z → Prop) (x2 : Int) (x3 : Int) (s : lf_Z) : Prop := lf_R x3 ∧ (lf_R (s.1 96 0) ∧ ((s.1 96 0 ≤ x3 → (Q x2 s)) ∧ (¬ (s.1 96 0 ≤ x3) → (fm_265 x3 (fun r24 s23 => (lf_R r24 ∧ ((r24 ≠ 1 → (fm_317_p34 X4 Q x1 x3 x2 0 s23)) ∧ (¬ (r24 ≠ 1) → (fm_315 x3 x1 (fun r27 s26 => (fm_317_p34 X4 Q x1 x3 x2 r27 s26)) s23))))) s))))
def fm_317_p4L (Q : Int → lf_Z → Prop) (x1 : Int) (x2 : Int) (x3 : Int) (s : lf_Z) : Prop := ∀ X4 : Int → Int → lf_Z → Prop, (∀ (x2 : Int) (x3 : Int) (s : lf_Z), fm_317_p4 Q x1 X4 x2 x3 s → X4 x2 x3 s) → X4 x2 x3 s
set_option maxRecDepth 100000 in
theorem gm_317_p4 {L : Nat} {xs : Nat → Int32} {d : Nat} {Q : Int → lf_Z → Prop} {x1 : Int} {x2 : Int} {x3 : Int} {s : lf_Z} {X4 : Int → Int → lf_Z → Prop} (hX4 : ∀ x2 x3 s, X4 x2 x3 s → lf_E (px_ro L xs) (d + 6) 317 4 [(0, .ref 95), (1, .int (Int32.ofInt x1)), (2, .int (Int32.ofInt x2)), (3, .int (Int32.ofInt x3))] [] s (lf_qi Q)) (h : fm_317_p4 Q x1 X4 x2 x3 s) : lf_E (px_ro L xs) (d + 6) 317 4 [(0, .ref 95), (1, .int (Int32.ofInt x1)), (2, .int (Int32.ofInt x2)), (3, .int (Int32.ofInt x3))] [] s (lf_qi Q) := by
  unfold fm_317_p4 at h
  refine lf_seg 4 (pc' := 10) (lv' := [(0, .ref 95), (1, .int (Int32.ofInt x1)), (2, .int (Int32.ofInt x2)), (3, .int (Int32.ofInt x3))]) (st' := [.int (Int32.ofInt 0), .ref 96, .int (Int32.ofInt x3)]) rfl ?_
  refine lf_iald 11 1538 rfl rfl rfl rfl rfl rfl ⟨by decide, by decide⟩ ?_
  obtain ⟨o21, h⟩ := h
  obtain ⟨o22, h⟩ := h
  refine lf_icmp_ge 42 14 rfl rfl rfl o21 o22 (fun c => ?_) (fun c => ?_)
  · have h := h.1 c
    refine lf_seg 1 (pc' := 43) (lv' := [(0, .ref 95), (1, .int (Int32.ofInt x1)), (2, .int (Int32.ofInt x2)), (3, .int (Int32.ofInt x3))]) (st' := [.int (Int32.ofInt x2)]) rfl ?_
    exact lf_retI rfl rfl h
  · have h := h.2 c
    refine lf_seg 3 (pc' := 17) (lv' := [(0, .ref 95), (1, .int (Int32.ofInt x1)), (2, .int (Int32.ofInt x2)), (3, .int (Int32.ofInt x3))]) (st' := [.int (Int32.ofInt x3), .ref 95, .int (Int32.ofInt x2)]) rfl ?_
    refine lf_callI 20 rfl rfl rfl rfl (gm_265 h) (fun r24 s23 h => ?_)
    refine lf_seg 1 (pc' := 21) (lv' := [(0, .ref 95), (1, .int (Int32.ofInt x1)), (2, .int (Int32.ofInt x2)), (3, .int (Int32.ofInt x3))]) (st' := [.int (Int32.ofInt 1), .int (Int32.ofInt r24), .int (Int32.ofInt x2)]) rfl ?_
    obtain ⟨o25, h⟩ := h
    refine lf_icmp_ne 33 24 rfl rfl rfl o25 ⟨by decide, by decide⟩ (fun c => ?_) (fun c => ?_)
    · have h := h.1 c
      refine lf_seg 1 (pc' := 34) (lv' := [(0, .ref 95), (1, .int (Int32.ofInt x1)), (2, .int (Int32.ofInt x2)), (3, .int (Int32.ofInt x3))]) (st' := [.int (Int32.ofInt 0), .int (Int32.ofInt x2)]) rfl ?_
      refine lf_sub (l := [(0, .ref 95), (1, .int (Int32.ofInt x1)), (3, .int (Int32.ofInt x3))]) (lf_sb1 rfl (lf_sb1 rfl (lf_sb1 rfl lf_sb0))) ?_
      exact gm_317_p34 hX4 h
    · have h := h.2 c
      refine lf_seg 3 (pc' := 27) (lv' := [(0, .ref 95), (1, .int (Int32.ofInt x1)), (2, .int (Int32.ofInt x2)), (3, .int (Int32.ofInt x3))]) (st' := [.int (Int32.ofInt x1), .int (Int32.ofInt x3), .ref 95, .int (Int32.ofInt x2)]) rfl ?_
      refine lf_callI 30 rfl rfl rfl rfl (gm_315 h) (fun r27 s26 h => ?_)
      refine lf_seg 1 (pc' := 34) (lv' := [(0, .ref 95), (1, .int (Int32.ofInt x1)), (2, .int (Int32.ofInt x2)), (3, .int (Int32.ofInt x3))]) (st' := [.int (Int32.ofInt r27), .int (Int32.ofInt x2)]) rfl ?_
      refine lf_sub (l := [(0, .ref 95), (1, .int (Int32.ofInt x1)), (3, .int (Int32.ofInt x3))]) (lf_sb1 rfl (lf_sb1 rfl (lf_sb1 rfl lf_sb0))) ?_
      exact gm_317_p34 hX4 h
theorem gm_317_p4L {L : Nat} {xs : Nat → Int32} {d : Nat} {Q : Int → lf_Z → Prop} {x1 : Int} {x2 : Int} {x3 : Int} {s : lf_Z} (h : fm_317_p4L Q x1 x2 x3 s) : lf_E (px_ro L xs) (d + 6) 317 4 [(0, .ref 95), (1, .int (Int32.ofInt x1)), (2, .int (Int32.ofInt x2)), (3, .int (Int32.ofInt x3))] [] s (lf_qi Q) :=
  h (fun x2 x3 s => lf_E (px_ro L xs) (d + 6) 317 4 [(0, .ref 95), (1, .int (Int32.ofInt x1)), (2, .int (Int32.ofInt x2)), (3, .int (Int32.ofInt x3))] [] s (lf_qi Q)) (fun x2 x3 s hb => gm_317_p4 (fun _ _ _ h => h) hb)
def fm_317 (a1 : Int) (Q : Int → lf_Z → Prop) (s : lf_Z) : Prop := fm_317_p4L Q a1 0 0 s
set_option maxRecDepth 100000 in
theorem gm_317 {L : Nat} {xs : Nat → Int32} {d : Nat} {a1 : Int} {Q : Int → lf_Z → Prop} {s : lf_Z} (h : fm_317 a1 Q s) : lf_M (px_ro L xs) (d + 6) 317 [.ref 95, .int (Int32.ofInt a1)] s (lf_qi Q) := by
  unfold fm_317 at h
  show lf_E (px_ro L xs) (d + 6) 317 0 [(0, .ref 95), (1, .int (Int32.ofInt a1))] [] s _
  refine lf_seg 4 (pc' := 4) (lv' := [(3, .int (Int32.ofInt 0)), (2, .int (Int32.ofInt 0)), (0, .ref 95), (1, .int (Int32.ofInt a1))]) (st' := []) rfl ?_
  refine lf_sub (l := [(0, .ref 95), (1, .int (Int32.ofInt a1)), (2, .int (Int32.ofInt 0)), (3, .int (Int32.ofInt 0))]) (lf_sb1 rfl (lf_sb1 rfl (lf_sb1 rfl (lf_sb1 rfl lf_sb0)))) ?_
  exact gm_317_p4L h
-- fm_316 Model.cheapest 95
def fm_316_p30 (X4 : Int → Int → lf_Z → Prop) (Q : Int → lf_Z → Prop) (x1 : Int) (x2 : Int) (s : lf_Z) : Prop := X4 x1 (x2 + 1) s
set_option maxRecDepth 100000 in
theorem gm_316_p30 {L : Nat} {xs : Nat → Int32} {d : Nat} {X4 : Int → Int → lf_Z → Prop} {Q : Int → lf_Z → Prop} {x1 : Int} {x2 : Int} {s : lf_Z} (hX4 : ∀ x1 x2 s, X4 x1 x2 s → lf_E (px_ro L xs) (d + 7) 316 4 [(0, .ref 95), (1, .int (Int32.ofInt x1)), (2, .int (Int32.ofInt x2))] [] s (lf_qi Q)) (h : fm_316_p30 X4 Q x1 x2 s) : lf_E (px_ro L xs) (d + 7) 316 30 [(0, .ref 95), (1, .int (Int32.ofInt x1)), (2, .int (Int32.ofInt x2))] [] s (lf_qi Q) := by
  unfold fm_316_p30 at h
  refine lf_iinc 33 rfl rfl rfl rfl ?_
  refine lf_seg 1 (pc' := 4) (lv' := [(2, .int (Int32.ofInt (x2 + 1))), (0, .ref 95), (1, .int (Int32.ofInt x1))]) (st' := []) rfl ?_
  refine lf_sub (l := [(0, .ref 95), (1, .int (Int32.ofInt x1)), (2, .int (Int32.ofInt (x2 + 1)))]) (lf_sb1 rfl (lf_sb1 rfl (lf_sb1 rfl lf_sb0))) ?_
  exact hX4 _ _ _ h
def fm_316_p4 (Q : Int → lf_Z → Prop) (X4 : Int → Int → lf_Z → Prop) (x1 : Int) (x2 : Int) (s : lf_Z) : Prop := lf_R x2 ∧ (lf_R (s.1 96 7) ∧ ((s.1 96 7 ≤ x2 → (Q x1 s)) ∧ (¬ (s.1 96 7 ≤ x2) → (fm_317 x2 (fun r24 s23 => (fm_317 x1 (fun r26 s25 => (lf_R r24 ∧ (lf_R r26 ∧ ((r26 ≤ r24 → (fm_316_p30 X4 Q x1 x2 s25)) ∧ (¬ (r26 ≤ r24) → (fm_316_p30 X4 Q x2 x2 s25)))))) s23)) s))))
def fm_316_p4L (Q : Int → lf_Z → Prop) (x1 : Int) (x2 : Int) (s : lf_Z) : Prop := ∀ X4 : Int → Int → lf_Z → Prop, (∀ (x1 : Int) (x2 : Int) (s : lf_Z), fm_316_p4 Q X4 x1 x2 s → X4 x1 x2 s) → X4 x1 x2 s
set_option maxRecDepth 100000 in
theorem gm_316_p4 {L : Nat} {xs : Nat → Int32} {d : Nat} {Q : Int → lf_Z → Prop} {x1 : Int} {x2 : Int} {s : lf_Z} {X4 : Int → Int → lf_Z → Prop} (hX4 : ∀ x1 x2 s, X4 x1 x2 s → lf_E (px_ro L xs) (d + 7) 316 4 [(0, .ref 95), (1, .int (Int32.ofInt x1)), (2, .int (Int32.ofInt x2))] [] s (lf_qi Q)) (h : fm_316_p4 Q X4 x1 x2 s) : lf_E (px_ro L xs) (d + 7) 316 4 [(0, .ref 95), (1, .int (Int32.ofInt x1)), (2, .int (Int32.ofInt x2))] [] s (lf_qi Q) := by
  unfold fm_316_p4 at h
  refine lf_seg 3 (pc' := 9) (lv' := [(0, .ref 95), (1, .int (Int32.ofInt x1)), (2, .int (Int32.ofInt x2))]) (st' := [.ref 96, .int (Int32.ofInt x2)]) rfl ?_
  refine lf_bipush 11 7 rfl rfl (by decide) (by decide) ?_
  refine lf_iald 12 1538 rfl rfl rfl rfl rfl rfl ⟨by decide, by decide⟩ ?_
  obtain ⟨o21, h⟩ := h
  obtain ⟨o22, h⟩ := h
  refine lf_icmp_ge 36 15 rfl rfl rfl o21 o22 (fun c => ?_) (fun c => ?_)
  · have h := h.1 c
    refine lf_seg 1 (pc' := 37) (lv' := [(0, .ref 95), (1, .int (Int32.ofInt x1)), (2, .int (Int32.ofInt x2))]) (st' := [.int (Int32.ofInt x1)]) rfl ?_
    exact lf_retI rfl rfl h
  · have h := h.2 c
    refine lf_seg 2 (pc' := 17) (lv' := [(0, .ref 95), (1, .int (Int32.ofInt x1)), (2, .int (Int32.ofInt x2))]) (st' := [.int (Int32.ofInt x2), .ref 95]) rfl ?_
    refine lf_callI 20 rfl rfl rfl rfl (gm_317 h) (fun r24 s23 h => ?_)
    refine lf_seg 2 (pc' := 22) (lv' := [(0, .ref 95), (1, .int (Int32.ofInt x1)), (2, .int (Int32.ofInt x2))]) (st' := [.int (Int32.ofInt x1), .ref 95, .int (Int32.ofInt r24)]) rfl ?_
    refine lf_callI 25 rfl rfl rfl rfl (gm_317 h) (fun r26 s25 h => ?_)
    obtain ⟨o27, h⟩ := h
    obtain ⟨o28, h⟩ := h
    refine lf_icmp_ge 30 28 rfl rfl rfl o27 o28 (fun c => ?_) (fun c => ?_)
    · have h := h.1 c
      refine lf_sub (l := [(0, .ref 95), (1, .int (Int32.ofInt x1)), (2, .int (Int32.ofInt x2))]) (lf_sb1 rfl (lf_sb1 rfl (lf_sb1 rfl lf_sb0))) ?_
      exact gm_316_p30 hX4 h
    · have h := h.2 c
      refine lf_seg 2 (pc' := 30) (lv' := [(1, .int (Int32.ofInt x2)), (0, .ref 95), (2, .int (Int32.ofInt x2))]) (st' := []) rfl ?_
      refine lf_sub (l := [(0, .ref 95), (1, .int (Int32.ofInt x2)), (2, .int (Int32.ofInt x2))]) (lf_sb1 rfl (lf_sb1 rfl (lf_sb1 rfl lf_sb0))) ?_
      exact gm_316_p30 hX4 h
theorem gm_316_p4L {L : Nat} {xs : Nat → Int32} {d : Nat} {Q : Int → lf_Z → Prop} {x1 : Int} {x2 : Int} {s : lf_Z} (h : fm_316_p4L Q x1 x2 s) : lf_E (px_ro L xs) (d + 7) 316 4 [(0, .ref 95), (1, .int (Int32.ofInt x1)), (2, .int (Int32.ofInt x2))] [] s (lf_qi Q) :=
  h (fun x1 x2 s => lf_E (px_ro L xs) (d + 7) 316 4 [(0, .ref 95), (1, .int (Int32.ofInt x1)), (2, .int (Int32.ofInt x2))] [] s (lf_qi Q)) (fun x1 x2 s hb => gm_316_p4 (fun _ _ _ h => h) hb)
def fm_316 (Q : Int → lf_Z → Prop) (s : lf_Z) : Prop := fm_316_p4L Q (-1) 0 s
set_option maxRecDepth 100000 in
theorem gm_316 {L : Nat} {xs : Nat → Int32} {d : Nat} {Q : Int → lf_Z → Prop} {s : lf_Z} (h : fm_316 Q s) : lf_M (px_ro L xs) (d + 7) 316 [.ref 95] s (lf_qi Q) := by
  unfold fm_316 at h
  show lf_E (px_ro L xs) (d + 7) 316 0 [(0, .ref 95)] [] s _
  refine lf_seg 4 (pc' := 4) (lv' := [(2, .int (Int32.ofInt 0)), (1, .int (Int32.ofInt (-1))), (0, .ref 95)]) (st' := []) rfl ?_
  refine lf_sub (l := [(0, .ref 95), (1, .int (Int32.ofInt (-1))), (2, .int (Int32.ofInt 0))]) (lf_sb1 rfl (lf_sb1 rfl (lf_sb1 rfl lf_sb0))) ?_
  exact gm_316_p4L h
-- fm_163 ElevenBullocks.mending 0 i i i i i
def fm_163_p72 (Q : Bool → lf_Z → Prop) (x1 : Int) (x2 : Int) (x3 : Int) (x4 : Int) (x5 : Int) (y0 : Int) (s : lf_Z) : Prop := lf_R y0 ∧ ((y0 = 0 → ((y0 = 0 ∨ y0 = 1) ∧ (y0 = 0 → Q false s) ∧ (y0 = 1 → Q true s))) ∧ (¬ (y0 = 0) → ((0 ≤ x1 ∧ x1 < 16) ∧ ((y0 = 0 ∨ y0 = 1) ∧ (y0 = 0 → Q false (lf_up s.1 28 x1 (lf_w (((lf_w ((lf_w (x4 * x2)) * x5)).tdiv 10) - x3)), s.2.1, s.2.2)) ∧ (y0 = 1 → Q true (lf_up s.1 28 x1 (lf_w (((lf_w ((lf_w (x4 * x2)) * x5)).tdiv 10) - x3)), s.2.1, s.2.2))))))
set_option maxRecDepth 100000 in
theorem gm_163_p72 {L : Nat} {xs : Nat → Int32} {d : Nat} {Q : Bool → lf_Z → Prop} {x1 : Int} {x2 : Int} {x3 : Int} {x4 : Int} {x5 : Int} {y0 : Int} {s : lf_Z} (h : fm_163_p72 Q x1 x2 x3 x4 x5 y0 s) : lf_E (px_ro L xs) (d + 2) 163 72 [(0, .ref 0), (1, .int (Int32.ofInt x1)), (2, .int (Int32.ofInt x2)), (3, .int (Int32.ofInt x3)), (4, .int (Int32.ofInt x4)), (5, .int (Int32.ofInt x5))] [.int (Int32.ofInt y0)] s (lf_qz Q) := by
  unfold fm_163_p72 at h
  refine lf_seg 2 (pc' := 76) (lv' := [(6, .int (Int32.ofInt y0)), (0, .ref 0), (1, .int (Int32.ofInt x1)), (2, .int (Int32.ofInt x2)), (3, .int (Int32.ofInt x3)), (4, .int (Int32.ofInt x4)), (5, .int (Int32.ofInt x5))]) (st' := [.int (Int32.ofInt y0)]) rfl ?_
  obtain ⟨o24, h⟩ := h
  refine lf_if_eq 100 79 rfl rfl rfl o24 (fun c => ?_) (fun c => ?_)
  · have h := h.1 c
    refine lf_seg 1 (pc' := 102) (lv' := [(6, .int (Int32.ofInt y0)), (0, .ref 0), (1, .int (Int32.ofInt x1)), (2, .int (Int32.ofInt x2)), (3, .int (Int32.ofInt x3)), (4, .int (Int32.ofInt x4)), (5, .int (Int32.ofInt x5))]) (st' := [.int (Int32.ofInt y0)]) rfl ?_
    exact lf_retZv rfl rfl h.1 h.2.1 h.2.2
  · have h := h.2 c
    refine lf_seg 6 (pc' := 90) (lv' := [(6, .int (Int32.ofInt y0)), (0, .ref 0), (1, .int (Int32.ofInt x1)), (2, .int (Int32.ofInt x2)), (3, .int (Int32.ofInt x3)), (4, .int (Int32.ofInt x4)), (5, .int (Int32.ofInt x5))]) (st' := [.int (Int32.ofInt x2), .int (Int32.ofInt x4), .int (Int32.ofInt x1), .ref 28]) rfl ?_
    refine lf_imul 91 rfl rfl ?_
    refine lf_wtI ?_
    refine lf_seg 1 (pc' := 93) (lv' := [(6, .int (Int32.ofInt y0)), (0, .ref 0), (1, .int (Int32.ofInt x1)), (2, .int (Int32.ofInt x2)), (3, .int (Int32.ofInt x3)), (4, .int (Int32.ofInt x4)), (5, .int (Int32.ofInt x5))]) (st' := [.int (Int32.ofInt x5), .int (Int32.ofInt (lf_w (x4 * x2))), .int (Int32.ofInt x1), .ref 28]) rfl ?_
    refine lf_imul 94 rfl rfl ?_
    refine lf_wtI ?_
    refine lf_bipush 96 10 rfl rfl (by decide) (by decide) ?_
    refine lf_idiv 97 rfl rfl lf_Rw ⟨by decide, by decide⟩ (by decide) ?_
    refine lf_seg 1 (pc' := 98) (lv' := [(6, .int (Int32.ofInt y0)), (0, .ref 0), (1, .int (Int32.ofInt x1)), (2, .int (Int32.ofInt x2)), (3, .int (Int32.ofInt x3)), (4, .int (Int32.ofInt x4)), (5, .int (Int32.ofInt x5))]) (st' := [.int (Int32.ofInt x3), .int (Int32.ofInt ((lf_w ((lf_w (x4 * x2)) * x5)).tdiv 10)), .int (Int32.ofInt x1), .ref 28]) rfl ?_
    refine lf_isub 99 rfl rfl ?_
    refine lf_wtI ?_
    obtain ⟨o25, h⟩ := h
    refine lf_iast 100 16 rfl rfl rfl rfl rfl rfl o25 ?_
    refine lf_as (lf_up s.1 28 x1 (lf_w (((lf_w ((lf_w (x4 * x2)) * x5)).tdiv 10) - x3)), s.2.1, s.2.2) rfl ?_
    refine lf_seg 1 (pc' := 102) (lv' := [(6, .int (Int32.ofInt y0)), (0, .ref 0), (1, .int (Int32.ofInt x1)), (2, .int (Int32.ofInt x2)), (3, .int (Int32.ofInt x3)), (4, .int (Int32.ofInt x4)), (5, .int (Int32.ofInt x5))]) (st' := [.int (Int32.ofInt y0)]) rfl ?_
    exact lf_retZv rfl rfl h.1 h.2.1 h.2.2
def fm_163_p71 (Q : Bool → lf_Z → Prop) (x1 : Int) (x2 : Int) (x3 : Int) (x4 : Int) (x5 : Int) (s : lf_Z) : Prop := fm_163_p72 Q x1 x2 x3 x4 x5 0 s
set_option maxRecDepth 100000 in
theorem gm_163_p71 {L : Nat} {xs : Nat → Int32} {d : Nat} {Q : Bool → lf_Z → Prop} {x1 : Int} {x2 : Int} {x3 : Int} {x4 : Int} {x5 : Int} {s : lf_Z} (h : fm_163_p71 Q x1 x2 x3 x4 x5 s) : lf_E (px_ro L xs) (d + 2) 163 71 [(0, .ref 0), (1, .int (Int32.ofInt x1)), (2, .int (Int32.ofInt x2)), (3, .int (Int32.ofInt x3)), (4, .int (Int32.ofInt x4)), (5, .int (Int32.ofInt x5))] [] s (lf_qz Q) := by
  unfold fm_163_p71 at h
  refine lf_seg 1 (pc' := 72) (lv' := [(0, .ref 0), (1, .int (Int32.ofInt x1)), (2, .int (Int32.ofInt x2)), (3, .int (Int32.ofInt x3)), (4, .int (Int32.ofInt x4)), (5, .int (Int32.ofInt x5))]) (st' := [.int (Int32.ofInt 0)]) rfl ?_
  refine lf_sub (l := [(0, .ref 0), (1, .int (Int32.ofInt x1)), (2, .int (Int32.ofInt x2)), (3, .int (Int32.ofInt x3)), (4, .int (Int32.ofInt x4)), (5, .int (Int32.ofInt x5))]) (lf_sb1 rfl (lf_sb1 rfl (lf_sb1 rfl (lf_sb1 rfl (lf_sb1 rfl (lf_sb1 rfl lf_sb0)))))) ?_
  exact gm_163_p72 h
def fm_163_p37 (Q : Bool → lf_Z → Prop) (x1 : Int) (x2 : Int) (x3 : Int) (x4 : Int) (x5 : Int) (y0 : Int) (s : lf_Z) : Prop := lf_R y0 ∧ ((y0 = 0 → (fm_163_p71 Q x1 x2 x3 x4 x5 s)) ∧ (¬ (y0 = 0) → (fm_15 x4 0 999 (fun z27 s26 => ((z27 = false → (fm_163_p71 Q x1 x2 x3 x4 x5 s26)) ∧ (z27 = true → (fm_15 x5 1 99 (fun z29 s28 => ((z29 = false → (fm_163_p71 Q x1 x2 x3 x4 x5 s28)) ∧ (z29 = true → (fm_163_p72 Q x1 x2 x3 x4 x5 1 s28)))) s26)))) s)))
set_option maxRecDepth 100000 in
theorem gm_163_p37 {L : Nat} {xs : Nat → Int32} {d : Nat} {Q : Bool → lf_Z → Prop} {x1 : Int} {x2 : Int} {x3 : Int} {x4 : Int} {x5 : Int} {y0 : Int} {s : lf_Z} (h : fm_163_p37 Q x1 x2 x3 x4 x5 y0 s) : lf_E (px_ro L xs) (d + 2) 163 37 [(0, .ref 0), (1, .int (Int32.ofInt x1)), (2, .int (Int32.ofInt x2)), (3, .int (Int32.ofInt x3)), (4, .int (Int32.ofInt x4)), (5, .int (Int32.ofInt x5))] [.int (Int32.ofInt y0)] s (lf_qz Q) := by
  unfold fm_163_p37 at h
  refine lf_seg 2 (pc' := 41) (lv' := [(6, .int (Int32.ofInt y0)), (0, .ref 0), (1, .int (Int32.ofInt x1)), (2, .int (Int32.ofInt x2)), (3, .int (Int32.ofInt x3)), (4, .int (Int32.ofInt x4)), (5, .int (Int32.ofInt x5))]) (st' := [.int (Int32.ofInt y0)]) rfl ?_
  obtain ⟨o23, h⟩ := h
  refine lf_if_eq 71 44 rfl rfl rfl o23 (fun c => ?_) (fun c => ?_)
  · have h := h.1 c
    refine lf_sub (l := [(0, .ref 0), (1, .int (Int32.ofInt x1)), (2, .int (Int32.ofInt x2)), (3, .int (Int32.ofInt x3)), (4, .int (Int32.ofInt x4)), (5, .int (Int32.ofInt x5))]) (lf_sb1 rfl (lf_sb1 rfl (lf_sb1 rfl (lf_sb1 rfl (lf_sb1 rfl (lf_sb1 rfl lf_sb0)))))) ?_
    exact gm_163_p71 h
  · have h := h.2 c
    refine lf_seg 2 (pc' := 47) (lv' := [(6, .int (Int32.ofInt y0)), (0, .ref 0), (1, .int (Int32.ofInt x1)), (2, .int (Int32.ofInt x2)), (3, .int (Int32.ofInt x3)), (4, .int (Int32.ofInt x4)), (5, .int (Int32.ofInt x5))]) (st' := [.int (Int32.ofInt 0), .int (Int32.ofInt x4)]) rfl ?_
    refine lf_sipush 50 999 rfl rfl (by decide) (by decide) ?_
    refine lf_callZ 53 rfl rfl rfl rfl (gm_15 h) (fun z27 s26 h => ?_)
    refine lf_ifz_eq 71 56 rfl rfl rfl (fun c => ?_) (fun c => ?_)
    · have h := h.1 c
      refine lf_sub (l := [(0, .ref 0), (1, .int (Int32.ofInt x1)), (2, .int (Int32.ofInt x2)), (3, .int (Int32.ofInt x3)), (4, .int (Int32.ofInt x4)), (5, .int (Int32.ofInt x5))]) (lf_sb1 rfl (lf_sb1 rfl (lf_sb1 rfl (lf_sb1 rfl (lf_sb1 rfl (lf_sb1 rfl lf_sb0)))))) ?_
      exact gm_163_p71 h
    · have h := h.2 c
      refine lf_seg 2 (pc' := 59) (lv' := [(6, .int (Int32.ofInt y0)), (0, .ref 0), (1, .int (Int32.ofInt x1)), (2, .int (Int32.ofInt x2)), (3, .int (Int32.ofInt x3)), (4, .int (Int32.ofInt x4)), (5, .int (Int32.ofInt x5))]) (st' := [.int (Int32.ofInt 1), .int (Int32.ofInt x5)]) rfl ?_
      refine lf_bipush 61 99 rfl rfl (by decide) (by decide) ?_
      refine lf_callZ 64 rfl rfl rfl rfl (gm_15 h) (fun z29 s28 h => ?_)
      refine lf_ifz_eq 71 67 rfl rfl rfl (fun c => ?_) (fun c => ?_)
      · have h := h.1 c
        refine lf_sub (l := [(0, .ref 0), (1, .int (Int32.ofInt x1)), (2, .int (Int32.ofInt x2)), (3, .int (Int32.ofInt x3)), (4, .int (Int32.ofInt x4)), (5, .int (Int32.ofInt x5))]) (lf_sb1 rfl (lf_sb1 rfl (lf_sb1 rfl (lf_sb1 rfl (lf_sb1 rfl (lf_sb1 rfl lf_sb0)))))) ?_
        exact gm_163_p71 h
      · have h := h.2 c
        refine lf_seg 2 (pc' := 72) (lv' := [(6, .int (Int32.ofInt y0)), (0, .ref 0), (1, .int (Int32.ofInt x1)), (2, .int (Int32.ofInt x2)), (3, .int (Int32.ofInt x3)), (4, .int (Int32.ofInt x4)), (5, .int (Int32.ofInt x5))]) (st' := [.int (Int32.ofInt 1)]) rfl ?_
        refine lf_sub (l := [(0, .ref 0), (1, .int (Int32.ofInt x1)), (2, .int (Int32.ofInt x2)), (3, .int (Int32.ofInt x3)), (4, .int (Int32.ofInt x4)), (5, .int (Int32.ofInt x5))]) (lf_sb1 rfl (lf_sb1 rfl (lf_sb1 rfl (lf_sb1 rfl (lf_sb1 rfl (lf_sb1 rfl lf_sb0)))))) ?_
        exact gm_163_p72 h
def fm_163_p36 (Q : Bool → lf_Z → Prop) (x1 : Int) (x2 : Int) (x3 : Int) (x4 : Int) (x5 : Int) (s : lf_Z) : Prop := fm_163_p37 Q x1 x2 x3 x4 x5 0 s
set_option maxRecDepth 100000 in
theorem gm_163_p36 {L : Nat} {xs : Nat → Int32} {d : Nat} {Q : Bool → lf_Z → Prop} {x1 : Int} {x2 : Int} {x3 : Int} {x4 : Int} {x5 : Int} {s : lf_Z} (h : fm_163_p36 Q x1 x2 x3 x4 x5 s) : lf_E (px_ro L xs) (d + 2) 163 36 [(0, .ref 0), (1, .int (Int32.ofInt x1)), (2, .int (Int32.ofInt x2)), (3, .int (Int32.ofInt x3)), (4, .int (Int32.ofInt x4)), (5, .int (Int32.ofInt x5))] [] s (lf_qz Q) := by
  unfold fm_163_p36 at h
  refine lf_seg 1 (pc' := 37) (lv' := [(0, .ref 0), (1, .int (Int32.ofInt x1)), (2, .int (Int32.ofInt x2)), (3, .int (Int32.ofInt x3)), (4, .int (Int32.ofInt x4)), (5, .int (Int32.ofInt x5))]) (st' := [.int (Int32.ofInt 0)]) rfl ?_
  refine lf_sub (l := [(0, .ref 0), (1, .int (Int32.ofInt x1)), (2, .int (Int32.ofInt x2)), (3, .int (Int32.ofInt x3)), (4, .int (Int32.ofInt x4)), (5, .int (Int32.ofInt x5))]) (lf_sb1 rfl (lf_sb1 rfl (lf_sb1 rfl (lf_sb1 rfl (lf_sb1 rfl (lf_sb1 rfl lf_sb0)))))) ?_
  exact gm_163_p37 h
def fm_163 (a1 : Int) (a2 : Int) (a3 : Int) (a4 : Int) (a5 : Int) (Q : Bool → lf_Z → Prop) (s : lf_Z) : Prop := fm_89 a1 (fun z22 s21 => ((z22 = false → (fm_163_p36 Q a1 a2 a3 a4 a5 s21)) ∧ (z22 = true → (fm_15 a2 0 10 (fun z31 s30 => ((z31 = false → (fm_163_p36 Q a1 a2 a3 a4 a5 s30)) ∧ (z31 = true → (fm_15 a3 0 999 (fun z33 s32 => ((z33 = false → (fm_163_p36 Q a1 a2 a3 a4 a5 s32)) ∧ (z33 = true → (fm_163_p37 Q a1 a2 a3 a4 a5 1 s32)))) s30)))) s21)))) s
set_option maxRecDepth 100000 in
theorem gm_163 {L : Nat} {xs : Nat → Int32} {d : Nat} {a1 : Int} {a2 : Int} {a3 : Int} {a4 : Int} {a5 : Int} {Q : Bool → lf_Z → Prop} {s : lf_Z} (h : fm_163 a1 a2 a3 a4 a5 Q s) : lf_M (px_ro L xs) (d + 2) 163 [.ref 0, .int (Int32.ofInt a1), .int (Int32.ofInt a2), .int (Int32.ofInt a3), .int (Int32.ofInt a4), .int (Int32.ofInt a5)] s (lf_qz Q) := by
  unfold fm_163 at h
  show lf_E (px_ro L xs) (d + 2) 163 0 [(0, .ref 0), (1, .int (Int32.ofInt a1)), (2, .int (Int32.ofInt a2)), (3, .int (Int32.ofInt a3)), (4, .int (Int32.ofInt a4)), (5, .int (Int32.ofInt a5))] [] s _
  refine lf_seg 3 (pc' := 5) (lv' := [(0, .ref 0), (1, .int (Int32.ofInt a1)), (2, .int (Int32.ofInt a2)), (3, .int (Int32.ofInt a3)), (4, .int (Int32.ofInt a4)), (5, .int (Int32.ofInt a5))]) (st' := [.int (Int32.ofInt a1), .ref 1]) rfl ?_
  refine lf_callZ 8 rfl rfl rfl rfl (gm_89 h) (fun z22 s21 h => ?_)
  refine lf_ifz_eq 36 11 rfl rfl rfl (fun c => ?_) (fun c => ?_)
  · have h := h.1 c
    refine lf_sub (l := [(0, .ref 0), (1, .int (Int32.ofInt a1)), (2, .int (Int32.ofInt a2)), (3, .int (Int32.ofInt a3)), (4, .int (Int32.ofInt a4)), (5, .int (Int32.ofInt a5))]) (lf_sb1 rfl (lf_sb1 rfl (lf_sb1 rfl (lf_sb1 rfl (lf_sb1 rfl (lf_sb1 rfl lf_sb0)))))) ?_
    exact gm_163_p36 h
  · have h := h.2 c
    refine lf_seg 2 (pc' := 13) (lv' := [(0, .ref 0), (1, .int (Int32.ofInt a1)), (2, .int (Int32.ofInt a2)), (3, .int (Int32.ofInt a3)), (4, .int (Int32.ofInt a4)), (5, .int (Int32.ofInt a5))]) (st' := [.int (Int32.ofInt 0), .int (Int32.ofInt a2)]) rfl ?_
    refine lf_bipush 15 10 rfl rfl (by decide) (by decide) ?_
    refine lf_callZ 18 rfl rfl rfl rfl (gm_15 h) (fun z31 s30 h => ?_)
    refine lf_ifz_eq 36 21 rfl rfl rfl (fun c => ?_) (fun c => ?_)
    · have h := h.1 c
      refine lf_sub (l := [(0, .ref 0), (1, .int (Int32.ofInt a1)), (2, .int (Int32.ofInt a2)), (3, .int (Int32.ofInt a3)), (4, .int (Int32.ofInt a4)), (5, .int (Int32.ofInt a5))]) (lf_sb1 rfl (lf_sb1 rfl (lf_sb1 rfl (lf_sb1 rfl (lf_sb1 rfl (lf_sb1 rfl lf_sb0)))))) ?_
      exact gm_163_p36 h
    · have h := h.2 c
      refine lf_seg 2 (pc' := 23) (lv' := [(0, .ref 0), (1, .int (Int32.ofInt a1)), (2, .int (Int32.ofInt a2)), (3, .int (Int32.ofInt a3)), (4, .int (Int32.ofInt a4)), (5, .int (Int32.ofInt a5))]) (st' := [.int (Int32.ofInt 0), .int (Int32.ofInt a3)]) rfl ?_
      refine lf_sipush 26 999 rfl rfl (by decide) (by decide) ?_
      refine lf_callZ 29 rfl rfl rfl rfl (gm_15 h) (fun z33 s32 h => ?_)
      refine lf_ifz_eq 36 32 rfl rfl rfl (fun c => ?_) (fun c => ?_)
      · have h := h.1 c
        refine lf_sub (l := [(0, .ref 0), (1, .int (Int32.ofInt a1)), (2, .int (Int32.ofInt a2)), (3, .int (Int32.ofInt a3)), (4, .int (Int32.ofInt a4)), (5, .int (Int32.ofInt a5))]) (lf_sb1 rfl (lf_sb1 rfl (lf_sb1 rfl (lf_sb1 rfl (lf_sb1 rfl (lf_sb1 rfl lf_sb0)))))) ?_
        exact gm_163_p36 h
      · have h := h.2 c
        refine lf_seg 2 (pc' := 37) (lv' := [(0, .ref 0), (1, .int (Int32.ofInt a1)), (2, .int (Int32.ofInt a2)), (3, .int (Int32.ofInt a3)), (4, .int (Int32.ofInt a4)), (5, .int (Int32.ofInt a5))]) (st' := [.int (Int32.ofInt 1)]) rfl ?_
        refine lf_sub (l := [(0, .ref 0), (1, .int (Int32.ofInt a1)), (2, .int (Int32.ofInt a2)), (3, .int (Int32.ofInt a3)), (4, .int (Int32.ofInt a4)), (5, .int (Int32.ofInt a5))]) (lf_sb1 rfl (lf_sb1 rfl (lf_sb1 rfl (lf_sb1 rfl (lf_sb1 rfl (lf_sb1 rfl lf_sb0)))))) ?_
        exact gm_163_p37 h
-- fm_318 Model.mending 95 i i i i i
def fm_318 (a1 : Int) (a2 : Int) (a3 : Int) (a4 : Int) (a5 : Int) (Q : Bool → lf_Z → Prop) (s : lf_Z) : Prop := fm_251 a1 (fun z22 s21 => ((z22 = false → (Q false s21)) ∧ (z22 = true → (fm_252 a1 (fun z24 s23 => ((z24 = true → (Q false s23)) ∧ (z24 = false → (fm_183 a2 0 10 (fun z26 s25 => ((z26 = false → (Q false s25)) ∧ (z26 = true → (fm_183 a3 0 999 (fun z28 s27 => ((z28 = false → (Q false s27)) ∧ (z28 = true → (fm_183 a4 0 999 (fun z30 s29 => ((z30 = false → (Q false s29)) ∧ (z30 = true → (fm_183 a5 1 99 (fun z32 s31 => ((z32 = true → ((0 ≤ 174 + (5 * a1) ∧ 174 + (5 * a1) < 1538) ∧ ((0 ≤ (174 + (5 * a1)) + 1 ∧ (174 + (5 * a1)) + 1 < 1538) ∧ ((0 ≤ (174 + (5 * a1)) + 2 ∧ (174 + (5 * a1)) + 2 < 1538) ∧ ((0 ≤ (174 + (5 * a1)) + 3 ∧ (174 + (5 * a1)) + 3 < 1538) ∧ ((0 ≤ (174 + (5 * a1)) + 4 ∧ (174 + (5 * a1)) + 4 < 1538) ∧ (Q true (lf_up (lf_up (lf_up (lf_up (lf_up s31.1 96 (174 + (5 * a1)) 1) 96 ((174 + (5 * a1)) + 1) a2) 96 ((174 + (5 * a1)) + 2) a3) 96 ((174 + (5 * a1)) + 3) a4) 96 ((174 + (5 * a1)) + 4) a5, s31.2.1, s31.2.2)))))))) ∧ (z32 = false → (Q false s31)))) s29)))) s27)))) s25)))) s23)))) s21)))) s
set_option maxRecDepth 100000 in
theorem gm_318 {L : Nat} {xs : Nat → Int32} {d : Nat} {a1 : Int} {a2 : Int} {a3 : Int} {a4 : Int} {a5 : Int} {Q : Bool → lf_Z → Prop} {s : lf_Z} (h : fm_318 a1 a2 a3 a4 a5 Q s) : lf_M (px_ro L xs) (d + 3) 318 [.ref 95, .int (Int32.ofInt a1), .int (Int32.ofInt a2), .int (Int32.ofInt a3), .int (Int32.ofInt a4), .int (Int32.ofInt a5)] s (lf_qz Q) := by
  unfold fm_318 at h
  show lf_E (px_ro L xs) (d + 3) 318 0 [(0, .ref 95), (1, .int (Int32.ofInt a1)), (2, .int (Int32.ofInt a2)), (3, .int (Int32.ofInt a3)), (4, .int (Int32.ofInt a4)), (5, .int (Int32.ofInt a5))] [] s _
  refine lf_seg 2 (pc' := 2) (lv' := [(0, .ref 95), (1, .int (Int32.ofInt a1)), (2, .int (Int32.ofInt a2)), (3, .int (Int32.ofInt a3)), (4, .int (Int32.ofInt a4)), (5, .int (Int32.ofInt a5))]) (st' := [.int (Int32.ofInt a1), .ref 95]) rfl ?_
  refine lf_callZ 5 rfl rfl rfl rfl (gm_251 h) (fun z22 s21 h => ?_)
  refine lf_ifz_eq 60 8 rfl rfl rfl (fun c => ?_) (fun c => ?_)
  · have h := h.1 c
    refine lf_seg 1 (pc' := 61) (lv' := [(0, .ref 95), (1, .int (Int32.ofInt a1)), (2, .int (Int32.ofInt a2)), (3, .int (Int32.ofInt a3)), (4, .int (Int32.ofInt a4)), (5, .int (Int32.ofInt a5))]) (st' := [.int (Int32.ofInt 0)]) rfl ?_
    exact lf_retZ false rfl rfl h
  · have h := h.2 c
    refine lf_seg 2 (pc' := 10) (lv' := [(0, .ref 95), (1, .int (Int32.ofInt a1)), (2, .int (Int32.ofInt a2)), (3, .int (Int32.ofInt a3)), (4, .int (Int32.ofInt a4)), (5, .int (Int32.ofInt a5))]) (st' := [.int (Int32.ofInt a1), .ref 95]) rfl ?_
    refine lf_callZ 13 rfl rfl rfl rfl (gm_252 h) (fun z24 s23 h => ?_)
    refine lf_ifz_ne 60 16 rfl rfl rfl (fun c => ?_) (fun c => ?_)
    · have h := h.1 c
      refine lf_seg 1 (pc' := 61) (lv' := [(0, .ref 95), (1, .int (Int32.ofInt a1)), (2, .int (Int32.ofInt a2)), (3, .int (Int32.ofInt a3)), (4, .int (Int32.ofInt a4)), (5, .int (Int32.ofInt a5))]) (st' := [.int (Int32.ofInt 0)]) rfl ?_
      exact lf_retZ false rfl rfl h
    · have h := h.2 c
      refine lf_seg 2 (pc' := 18) (lv' := [(0, .ref 95), (1, .int (Int32.ofInt a1)), (2, .int (Int32.ofInt a2)), (3, .int (Int32.ofInt a3)), (4, .int (Int32.ofInt a4)), (5, .int (Int32.ofInt a5))]) (st' := [.int (Int32.ofInt 0), .int (Int32.ofInt a2)]) rfl ?_
      refine lf_bipush 20 10 rfl rfl (by decide) (by decide) ?_
      refine lf_callZ 23 rfl rfl rfl rfl (gm_183 h) (fun z26 s25 h => ?_)
      refine lf_ifz_eq 60 26 rfl rfl rfl (fun c => ?_) (fun c => ?_)
      · have h := h.1 c
        refine lf_seg 1 (pc' := 61) (lv' := [(0, .ref 95), (1, .int (Int32.ofInt a1)), (2, .int (Int32.ofInt a2)), (3, .int (Int32.ofInt a3)), (4, .int (Int32.ofInt a4)), (5, .int (Int32.ofInt a5))]) (st' := [.int (Int32.ofInt 0)]) rfl ?_
        exact lf_retZ false rfl rfl h
      · have h := h.2 c
        refine lf_seg 2 (pc' := 28) (lv' := [(0, .ref 95), (1, .int (Int32.ofInt a1)), (2, .int (Int32.ofInt a2)), (3, .int (Int32.ofInt a3)), (4, .int (Int32.ofInt a4)), (5, .int (Int32.ofInt a5))]) (st' := [.int (Int32.ofInt 0), .int (Int32.ofInt a3)]) rfl ?_
        refine lf_sipush 31 999 rfl rfl (by decide) (by decide) ?_
        refine lf_callZ 34 rfl rfl rfl rfl (gm_183 h) (fun z28 s27 h => ?_)
        refine lf_ifz_eq 60 37 rfl rfl rfl (fun c => ?_) (fun c => ?_)
        · have h := h.1 c
          refine lf_seg 1 (pc' := 61) (lv' := [(0, .ref 95), (1, .int (Int32.ofInt a1)), (2, .int (Int32.ofInt a2)), (3, .int (Int32.ofInt a3)), (4, .int (Int32.ofInt a4)), (5, .int (Int32.ofInt a5))]) (st' := [.int (Int32.ofInt 0)]) rfl ?_
          exact lf_retZ false rfl rfl h
        · have h := h.2 c
          refine lf_seg 2 (pc' := 40) (lv' := [(0, .ref 95), (1, .int (Int32.ofInt a1)), (2, .int (Int32.ofInt a2)), (3, .int (Int32.ofInt a3)), (4, .int (Int32.ofInt a4)), (5, .int (Int32.ofInt a5))]) (st' := [.int (Int32.ofInt 0), .int (Int32.ofInt a4)]) rfl ?_
          refine lf_sipush 43 999 rfl rfl (by decide) (by decide) ?_
          refine lf_callZ 46 rfl rfl rfl rfl (gm_183 h) (fun z30 s29 h => ?_)
          refine lf_ifz_eq 60 49 rfl rfl rfl (fun c => ?_) (fun c => ?_)
          · have h := h.1 c
            refine lf_seg 1 (pc' := 61) (lv' := [(0, .ref 95), (1, .int (Int32.ofInt a1)), (2, .int (Int32.ofInt a2)), (3, .int (Int32.ofInt a3)), (4, .int (Int32.ofInt a4)), (5, .int (Int32.ofInt a5))]) (st' := [.int (Int32.ofInt 0)]) rfl ?_
            exact lf_retZ false rfl rfl h
          · have h := h.2 c
            refine lf_seg 2 (pc' := 52) (lv' := [(0, .ref 95), (1, .int (Int32.ofInt a1)), (2, .int (Int32.ofInt a2)), (3, .int (Int32.ofInt a3)), (4, .int (Int32.ofInt a4)), (5, .int (Int32.ofInt a5))]) (st' := [.int (Int32.ofInt 1), .int (Int32.ofInt a5)]) rfl ?_
            refine lf_bipush 54 99 rfl rfl (by decide) (by decide) ?_
            refine lf_callZ 57 rfl rfl rfl rfl (gm_183 h) (fun z32 s31 h => ?_)
            refine lf_ifz_ne 62 60 rfl rfl rfl (fun c => ?_) (fun c => ?_)
            · have h := h.1 c
              refine lf_sipush 65 174 rfl rfl (by decide) (by decide) ?_
              refine lf_seg 2 (pc' := 67) (lv' := [(0, .ref 95), (1, .int (Int32.ofInt a1)), (2, .int (Int32.ofInt a2)), (3, .int (Int32.ofInt a3)), (4, .int (Int32.ofInt a4)), (5, .int (Int32.ofInt a5))]) (st' := [.int (Int32.ofInt a1), .int (Int32.ofInt 5), .int (Int32.ofInt 174)]) rfl ?_
              refine lf_imul 68 rfl rfl ?_
              refine lf_iadd 69 rfl rfl ?_
              refine lf_seg 5 (pc' := 78) (lv' := [(6, .int (Int32.ofInt (174 + (5 * a1)))), (0, .ref 95), (1, .int (Int32.ofInt a1)), (2, .int (Int32.ofInt a2)), (3, .int (Int32.ofInt a3)), (4, .int (Int32.ofInt a4)), (5, .int (Int32.ofInt a5))]) (st' := [.int (Int32.ofInt 1), .int (Int32.ofInt (174 + (5 * a1))), .ref 96]) rfl ?_
              obtain ⟨o33, h⟩ := h
              refine lf_iast 79 1538 rfl rfl rfl rfl rfl rfl o33 ?_
              refine lf_as (lf_up s31.1 96 (174 + (5 * a1)) 1, s31.2.1, s31.2.2) rfl ?_
              refine lf_seg 4 (pc' := 86) (lv' := [(6, .int (Int32.ofInt (174 + (5 * a1)))), (0, .ref 95), (1, .int (Int32.ofInt a1)), (2, .int (Int32.ofInt a2)), (3, .int (Int32.ofInt a3)), (4, .int (Int32.ofInt a4)), (5, .int (Int32.ofInt a5))]) (st' := [.int (Int32.ofInt 1), .int (Int32.ofInt (174 + (5 * a1))), .ref 96]) rfl ?_
              refine lf_iadd 87 rfl rfl ?_
              refine lf_seg 1 (pc' := 88) (lv' := [(6, .int (Int32.ofInt (174 + (5 * a1)))), (0, .ref 95), (1, .int (Int32.ofInt a1)), (2, .int (Int32.ofInt a2)), (3, .int (Int32.ofInt a3)), (4, .int (Int32.ofInt a4)), (5, .int (Int32.ofInt a5))]) (st' := [.int (Int32.ofInt a2), .int (Int32.ofInt ((174 + (5 * a1)) + 1)), .ref 96]) rfl ?_
              obtain ⟨o34, h⟩ := h
              refine lf_iast 89 1538 rfl rfl rfl rfl rfl rfl o34 ?_
              refine lf_as (lf_up (lf_up s31.1 96 (174 + (5 * a1)) 1) 96 ((174 + (5 * a1)) + 1) a2, s31.2.1, s31.2.2) rfl ?_
              refine lf_seg 4 (pc' := 96) (lv' := [(6, .int (Int32.ofInt (174 + (5 * a1)))), (0, .ref 95), (1, .int (Int32.ofInt a1)), (2, .int (Int32.ofInt a2)), (3, .int (Int32.ofInt a3)), (4, .int (Int32.ofInt a4)), (5, .int (Int32.ofInt a5))]) (st' := [.int (Int32.ofInt 2), .int (Int32.ofInt (174 + (5 * a1))), .ref 96]) rfl ?_
              refine lf_iadd 97 rfl rfl ?_
              refine lf_seg 1 (pc' := 98) (lv' := [(6, .int (Int32.ofInt (174 + (5 * a1)))), (0, .ref 95), (1, .int (Int32.ofInt a1)), (2, .int (Int32.ofInt a2)), (3, .int (Int32.ofInt a3)), (4, .int (Int32.ofInt a4)), (5, .int (Int32.ofInt a5))]) (st' := [.int (Int32.ofInt a3), .int (Int32.ofInt ((174 + (5 * a1)) + 2)), .ref 96]) rfl ?_
              obtain ⟨o35, h⟩ := h
              refine lf_iast 99 1538 rfl rfl rfl rfl rfl rfl o35 ?_
              refine lf_as (lf_up (lf_up (lf_up s31.1 96 (174 + (5 * a1)) 1) 96 ((174 + (5 * a1)) + 1) a2) 96 ((174 + (5 * a1)) + 2) a3, s31.2.1, s31.2.2) rfl ?_
              refine lf_seg 4 (pc' := 106) (lv' := [(6, .int (Int32.ofInt (174 + (5 * a1)))), (0, .ref 95), (1, .int (Int32.ofInt a1)), (2, .int (Int32.ofInt a2)), (3, .int (Int32.ofInt a3)), (4, .int (Int32.ofInt a4)), (5, .int (Int32.ofInt a5))]) (st' := [.int (Int32.ofInt 3), .int (Int32.ofInt (174 + (5 * a1))), .ref 96]) rfl ?_
              refine lf_iadd 107 rfl rfl ?_
              refine lf_seg 1 (pc' := 109) (lv' := [(6, .int (Int32.ofInt (174 + (5 * a1)))), (0, .ref 95), (1, .int (Int32.ofInt a1)), (2, .int (Int32.ofInt a2)), (3, .int (Int32.ofInt a3)), (4, .int (Int32.ofInt a4)), (5, .int (Int32.ofInt a5))]) (st' := [.int (Int32.ofInt a4), .int (Int32.ofInt ((174 + (5 * a1)) + 3)), .ref 96]) rfl ?_
              obtain ⟨o36, h⟩ := h
              refine lf_iast 110 1538 rfl rfl rfl rfl rfl rfl o36 ?_
              refine lf_as (lf_up (lf_up (lf_up (lf_up s31.1 96 (174 + (5 * a1)) 1) 96 ((174 + (5 * a1)) + 1) a2) 96 ((174 + (5 * a1)) + 2) a3) 96 ((174 + (5 * a1)) + 3) a4, s31.2.1, s31.2.2) rfl ?_
              refine lf_seg 4 (pc' := 117) (lv' := [(6, .int (Int32.ofInt (174 + (5 * a1)))), (0, .ref 95), (1, .int (Int32.ofInt a1)), (2, .int (Int32.ofInt a2)), (3, .int (Int32.ofInt a3)), (4, .int (Int32.ofInt a4)), (5, .int (Int32.ofInt a5))]) (st' := [.int (Int32.ofInt 4), .int (Int32.ofInt (174 + (5 * a1))), .ref 96]) rfl ?_
              refine lf_iadd 118 rfl rfl ?_
              refine lf_seg 1 (pc' := 120) (lv' := [(6, .int (Int32.ofInt (174 + (5 * a1)))), (0, .ref 95), (1, .int (Int32.ofInt a1)), (2, .int (Int32.ofInt a2)), (3, .int (Int32.ofInt a3)), (4, .int (Int32.ofInt a4)), (5, .int (Int32.ofInt a5))]) (st' := [.int (Int32.ofInt a5), .int (Int32.ofInt ((174 + (5 * a1)) + 4)), .ref 96]) rfl ?_
              obtain ⟨o37, h⟩ := h
              refine lf_iast 121 1538 rfl rfl rfl rfl rfl rfl o37 ?_
              refine lf_as (lf_up (lf_up (lf_up (lf_up (lf_up s31.1 96 (174 + (5 * a1)) 1) 96 ((174 + (5 * a1)) + 1) a2) 96 ((174 + (5 * a1)) + 2) a3) 96 ((174 + (5 * a1)) + 3) a4) 96 ((174 + (5 * a1)) + 4) a5, s31.2.1, s31.2.2) rfl ?_
              refine lf_seg 1 (pc' := 122) (lv' := [(6, .int (Int32.ofInt (174 + (5 * a1)))), (0, .ref 95), (1, .int (Int32.ofInt a1)), (2, .int (Int32.ofInt a2)), (3, .int (Int32.ofInt a3)), (4, .int (Int32.ofInt a4)), (5, .int (Int32.ofInt a5))]) (st' := [.int (Int32.ofInt 1)]) rfl ?_
              exact lf_retZ true rfl rfl h
            · have h := h.2 c
              refine lf_seg 1 (pc' := 61) (lv' := [(0, .ref 95), (1, .int (Int32.ofInt a1)), (2, .int (Int32.ofInt a2)), (3, .int (Int32.ofInt a3)), (4, .int (Int32.ofInt a4)), (5, .int (Int32.ofInt a5))]) (st' := [.int (Int32.ofInt 0)]) rfl ?_
              exact lf_retZ false rfl rfl h
-- fm_165 Notes.bestGate 25
def fm_165_p31 (X6 : Int → Int → Int → lf_Z → Prop) (Q : Int → lf_Z → Prop) (x1 : Int) (x2 : Int) (x3 : Int) (s : lf_Z) : Prop := X6 x1 x2 (x3 + 1) s
set_option maxRecDepth 100000 in
theorem gm_165_p31 {L : Nat} {xs : Nat → Int32} {d : Nat} {X6 : Int → Int → Int → lf_Z → Prop} {Q : Int → lf_Z → Prop} {x1 : Int} {x2 : Int} {x3 : Int} {s : lf_Z} (hX6 : ∀ x1 x2 x3 s, X6 x1 x2 x3 s → lf_E (px_ro L xs) (d + 1) 165 6 [(0, .ref 25), (1, .int (Int32.ofInt x1)), (2, .int (Int32.ofInt x2)), (3, .int (Int32.ofInt x3))] [] s (lf_qi Q)) (h : fm_165_p31 X6 Q x1 x2 x3 s) : lf_E (px_ro L xs) (d + 1) 165 31 [(0, .ref 25), (1, .int (Int32.ofInt x1)), (2, .int (Int32.ofInt x2)), (3, .int (Int32.ofInt x3))] [] s (lf_qi Q) := by
  unfold fm_165_p31 at h
  refine lf_iinc 34 rfl rfl rfl rfl ?_
  refine lf_seg 1 (pc' := 6) (lv' := [(3, .int (Int32.ofInt (x3 + 1))), (0, .ref 25), (1, .int (Int32.ofInt x1)), (2, .int (Int32.ofInt x2))]) (st' := []) rfl ?_
  refine lf_sub (l := [(0, .ref 25), (1, .int (Int32.ofInt x1)), (2, .int (Int32.ofInt x2)), (3, .int (Int32.ofInt (x3 + 1)))]) (lf_sb1 rfl (lf_sb1 rfl (lf_sb1 rfl (lf_sb1 rfl lf_sb0)))) ?_
  exact hX6 _ _ _ _ h
def fm_165_p6 (Q : Int → lf_Z → Prop) (X6 : Int → Int → Int → lf_Z → Prop) (x1 : Int) (x2 : Int) (x3 : Int) (s : lf_Z) : Prop := lf_R x3 ∧ ((16 ≤ x3 → (Q x1 s)) ∧ (¬ (16 ≤ x3) → ((0 ≤ x3 ∧ x3 < 16) ∧ (lf_R (s.1 28 x3) ∧ (lf_R x2 ∧ ((s.1 28 x3 ≤ x2 → (fm_165_p31 X6 Q x1 x2 x3 s)) ∧ (¬ (s.1 28 x3 ≤ x2) → (fm_165_p31 X6 Q x3 (s.1 28 x3) x3 s))))))))
def fm_165_p6L (Q : Int → lf_Z → Prop) (x1 : Int) (x2 : Int) (x3 : Int) (s : lf_Z) : Prop := ∀ X6 : Int → Int → Int → lf_Z → Prop, (∀ (x1 : Int) (x2 : Int) (x3 : Int) (s : lf_Z), fm_165_p6 Q X6 x1 x2 x3 s → X6 x1 x2 x3 s) → X6 x1 x2 x3 s
set_option maxRecDepth 100000 in
theorem gm_165_p6 {L : Nat} {xs : Nat → Int32} {d : Nat} {Q : Int → lf_Z → Prop} {x1 : Int} {x2 : Int} {x3 : Int} {s : lf_Z} {X6 : Int → Int → Int → lf_Z → Prop} (hX6 : ∀ x1 x2 x3 s, X6 x1 x2 x3 s → lf_E (px_ro L xs) (d + 1) 165 6 [(0, .ref 25), (1, .int (Int32.ofInt x1)), (2, .int (Int32.ofInt x2)), (3, .int (Int32.ofInt x3))] [] s (lf_qi Q)) (h : fm_165_p6 Q X6 x1 x2 x3 s) : lf_E (px_ro L xs) (d + 1) 165 6 [(0, .ref 25), (1, .int (Int32.ofInt x1)), (2, .int (Int32.ofInt x2)), (3, .int (Int32.ofInt x3))] [] s (lf_qi Q) := by
  unfold fm_165_p6 at h
  refine lf_seg 1 (pc' := 7) (lv' := [(0, .ref 25), (1, .int (Int32.ofInt x1)), (2, .int (Int32.ofInt x2)), (3, .int (Int32.ofInt x3))]) (st' := [.int (Int32.ofInt x3)]) rfl ?_
  refine lf_bipush 9 16 rfl rfl (by decide) (by decide) ?_
  obtain ⟨o21, h⟩ := h
  refine lf_icmp_ge 37 12 rfl rfl rfl o21 ⟨by decide, by decide⟩ (fun c => ?_) (fun c => ?_)
  · have h := h.1 c
    refine lf_seg 1 (pc' := 38) (lv' := [(0, .ref 25), (1, .int (Int32.ofInt x1)), (2, .int (Int32.ofInt x2)), (3, .int (Int32.ofInt x3))]) (st' := [.int (Int32.ofInt x1)]) rfl ?_
    exact lf_retI rfl rfl h
  · have h := h.2 c
    refine lf_seg 3 (pc' := 17) (lv' := [(0, .ref 25), (1, .int (Int32.ofInt x1)), (2, .int (Int32.ofInt x2)), (3, .int (Int32.ofInt x3))]) (st' := [.int (Int32.ofInt x3), .ref 28]) rfl ?_
    obtain ⟨o22, h⟩ := h
    refine lf_iald 18 16 rfl rfl rfl rfl rfl rfl o22 ?_
    refine lf_seg 1 (pc' := 19) (lv' := [(0, .ref 25), (1, .int (Int32.ofInt x1)), (2, .int (Int32.ofInt x2)), (3, .int (Int32.ofInt x3))]) (st' := [.int (Int32.ofInt x2), .int (Int32.ofInt (s.1 28 x3))]) rfl ?_
    obtain ⟨o23, h⟩ := h
    obtain ⟨o24, h⟩ := h
    refine lf_icmp_le 31 22 rfl rfl rfl o23 o24 (fun c => ?_) (fun c => ?_)
    · have h := h.1 c
      refine lf_sub (l := [(0, .ref 25), (1, .int (Int32.ofInt x1)), (2, .int (Int32.ofInt x2)), (3, .int (Int32.ofInt x3))]) (lf_sb1 rfl (lf_sb1 rfl (lf_sb1 rfl (lf_sb1 rfl lf_sb0)))) ?_
      exact gm_165_p31 hX6 h
    · have h := h.2 c
      refine lf_seg 3 (pc' := 27) (lv' := [(0, .ref 25), (1, .int (Int32.ofInt x1)), (2, .int (Int32.ofInt x2)), (3, .int (Int32.ofInt x3))]) (st' := [.int (Int32.ofInt x3), .ref 28]) rfl ?_
      refine lf_iald 28 16 rfl rfl rfl rfl rfl rfl o22 ?_
      refine lf_seg 3 (pc' := 31) (lv' := [(1, .int (Int32.ofInt x3)), (2, .int (Int32.ofInt (s.1 28 x3))), (0, .ref 25), (3, .int (Int32.ofInt x3))]) (st' := []) rfl ?_
      refine lf_sub (l := [(0, .ref 25), (1, .int (Int32.ofInt x3)), (2, .int (Int32.ofInt (s.1 28 x3))), (3, .int (Int32.ofInt x3))]) (lf_sb1 rfl (lf_sb1 rfl (lf_sb1 rfl (lf_sb1 rfl lf_sb0)))) ?_
      exact gm_165_p31 hX6 h
theorem gm_165_p6L {L : Nat} {xs : Nat → Int32} {d : Nat} {Q : Int → lf_Z → Prop} {x1 : Int} {x2 : Int} {x3 : Int} {s : lf_Z} (h : fm_165_p6L Q x1 x2 x3 s) : lf_E (px_ro L xs) (d + 1) 165 6 [(0, .ref 25), (1, .int (Int32.ofInt x1)), (2, .int (Int32.ofInt x2)), (3, .int (Int32.ofInt x3))] [] s (lf_qi Q) :=
  h (fun x1 x2 x3 s => lf_E (px_ro L xs) (d + 1) 165 6 [(0, .ref 25), (1, .int (Int32.ofInt x1)), (2, .int (Int32.ofInt x2)), (3, .int (Int32.ofInt x3))] [] s (lf_qi Q)) (fun x1 x2 x3 s hb => gm_165_p6 (fun _ _ _ _ h => h) hb)
def fm_165 (Q : Int → lf_Z → Prop) (s : lf_Z) : Prop := fm_165_p6L Q (-1) 0 0 s
set_option maxRecDepth 100000 in
theorem gm_165 {L : Nat} {xs : Nat → Int32} {d : Nat} {Q : Int → lf_Z → Prop} {s : lf_Z} (h : fm_165 Q s) : lf_M (px_ro L xs) (d + 1) 165 [.ref 25] s (lf_qi Q) := by
  unfold fm_165 at h
  show lf_E (px_ro L xs) (d + 1) 165 0 [(0, .ref 25)] [] s _
  refine lf_seg 6 (pc' := 6) (lv' := [(3, .int (Int32.ofInt 0)), (2, .int (Int32.ofInt 0)), (1, .int (Int32.ofInt (-1))), (0, .ref 25)]) (st' := []) rfl ?_
  refine lf_sub (l := [(0, .ref 25), (1, .int (Int32.ofInt (-1))), (2, .int (Int32.ofInt 0)), (3, .int (Int32.ofInt 0))]) (lf_sb1 rfl (lf_sb1 rfl (lf_sb1 rfl (lf_sb1 rfl lf_sb0)))) ?_
  exact gm_165_p6L h
-- fm_164 ElevenBullocks.saved 0 i
def fm_164 (a1 : Int) (Q : Int → lf_Z → Prop) (s : lf_Z) : Prop := lf_R a1 ∧ ((a1 ≠ (-1) → (fm_79 a1 (fun z23 s22 => ((z23 = false → (Q (-10000) s22)) ∧ (z23 = true → ((0 ≤ a1 ∧ a1 < 16) ∧ (Q (s22.1 28 a1) s22))))) s)) ∧ (¬ (a1 ≠ (-1)) → (fm_165 (fun r26 s25 => (Q r26 s25)) s)))
set_option maxRecDepth 100000 in
theorem gm_164 {L : Nat} {xs : Nat → Int32} {d : Nat} {a1 : Int} {Q : Int → lf_Z → Prop} {s : lf_Z} (h : fm_164 a1 Q s) : lf_M (px_ro L xs) (d + 2) 164 [.ref 0, .int (Int32.ofInt a1)] s (lf_qi Q) := by
  unfold fm_164 at h
  show lf_E (px_ro L xs) (d + 2) 164 0 [(0, .ref 0), (1, .int (Int32.ofInt a1))] [] s _
  refine lf_seg 2 (pc' := 2) (lv' := [(0, .ref 0), (1, .int (Int32.ofInt a1))]) (st' := [.int (Int32.ofInt (-1)), .int (Int32.ofInt a1)]) rfl ?_
  obtain ⟨o21, h⟩ := h
  refine lf_icmp_ne 13 5 rfl rfl rfl o21 ⟨by decide, by decide⟩ (fun c => ?_) (fun c => ?_)
  · have h := h.1 c
    refine lf_seg 3 (pc' := 18) (lv' := [(0, .ref 0), (1, .int (Int32.ofInt a1))]) (st' := [.int (Int32.ofInt a1), .ref 1]) rfl ?_
    refine lf_callZ 21 rfl rfl rfl rfl (gm_79 h) (fun z23 s22 h => ?_)
    refine lf_ifz_eq 36 24 rfl rfl rfl (fun c => ?_) (fun c => ?_)
    · have h := h.1 c
      refine lf_sipush 39 (-10000) rfl rfl (by decide) (by decide) ?_
      exact lf_retI rfl rfl h
    · have h := h.2 c
      refine lf_seg 4 (pc' := 32) (lv' := [(0, .ref 0), (1, .int (Int32.ofInt a1))]) (st' := [.int (Int32.ofInt a1), .ref 28]) rfl ?_
      obtain ⟨o24, h⟩ := h
      refine lf_iald 33 16 rfl rfl rfl rfl rfl rfl o24 ?_
      refine lf_seg 1 (pc' := 39) (lv' := [(0, .ref 0), (1, .int (Int32.ofInt a1))]) (st' := [.int (Int32.ofInt (s22.1 28 a1))]) rfl ?_
      exact lf_retI rfl rfl h
  · have h := h.2 c
    refine lf_seg 2 (pc' := 9) (lv' := [(0, .ref 0), (1, .int (Int32.ofInt a1))]) (st' := [.ref 25]) rfl ?_
    refine lf_callI 12 rfl rfl rfl rfl (gm_165 h) (fun r26 s25 h => ?_)
    exact lf_retI rfl rfl h
-- fm_320 Model.savedBy 95 i
def fm_320 (a1 : Int) (Q : Int → lf_Z → Prop) (s : lf_Z) : Prop := (0 ≤ (174 + (5 * a1)) + 3 ∧ (174 + (5 * a1)) + 3 < 1538) ∧ ((0 ≤ (174 + (5 * a1)) + 1 ∧ (174 + (5 * a1)) + 1 < 1538) ∧ ((0 ≤ (174 + (5 * a1)) + 4 ∧ (174 + (5 * a1)) + 4 < 1538) ∧ ((0 ≤ (174 + (5 * a1)) + 2 ∧ (174 + (5 * a1)) + 2 < 1538) ∧ (Q (lf_w (((lf_w ((lf_w ((s.1 96 ((174 + (5 * a1)) + 3)) * (s.1 96 ((174 + (5 * a1)) + 1)))) * (s.1 96 ((174 + (5 * a1)) + 4)))).tdiv 10) - (s.1 96 ((174 + (5 * a1)) + 2)))) s))))
set_option maxRecDepth 100000 in
theorem gm_320 {L : Nat} {xs : Nat → Int32} {d : Nat} {a1 : Int} {Q : Int → lf_Z → Prop} {s : lf_Z} (h : fm_320 a1 Q s) : lf_M (px_ro L xs) (d + 1) 320 [.ref 95, .int (Int32.ofInt a1)] s (lf_qi Q) := by
  unfold fm_320 at h
  show lf_E (px_ro L xs) (d + 1) 320 0 [(0, .ref 95), (1, .int (Int32.ofInt a1))] [] s _
  refine lf_sipush 3 174 rfl rfl (by decide) (by decide) ?_
  refine lf_seg 2 (pc' := 5) (lv' := [(0, .ref 95), (1, .int (Int32.ofInt a1))]) (st' := [.int (Int32.ofInt a1), .int (Int32.ofInt 5), .int (Int32.ofInt 174)]) rfl ?_
  refine lf_imul 6 rfl rfl ?_
  refine lf_iadd 7 rfl rfl ?_
  refine lf_seg 5 (pc' := 14) (lv' := [(2, .int (Int32.ofInt (174 + (5 * a1)))), (0, .ref 95), (1, .int (Int32.ofInt a1))]) (st' := [.int (Int32.ofInt 3), .int (Int32.ofInt (174 + (5 * a1))), .ref 96]) rfl ?_
  refine lf_iadd 15 rfl rfl ?_
  obtain ⟨o21, h⟩ := h
  refine lf_iald 16 1538 rfl rfl rfl rfl rfl rfl o21 ?_
  refine lf_seg 4 (pc' := 22) (lv' := [(2, .int (Int32.ofInt (174 + (5 * a1)))), (0, .ref 95), (1, .int (Int32.ofInt a1))]) (st' := [.int (Int32.ofInt 1), .int (Int32.ofInt (174 + (5 * a1))), .ref 96, .int (Int32.ofInt (s.1 96 ((174 + (5 * a1)) + 3)))]) rfl ?_
  refine lf_iadd 23 rfl rfl ?_
  obtain ⟨o22, h⟩ := h
  refine lf_iald 24 1538 rfl rfl rfl rfl rfl rfl o22 ?_
  refine lf_imul 25 rfl rfl ?_
  refine lf_wtI ?_
  refine lf_seg 4 (pc' := 31) (lv' := [(2, .int (Int32.ofInt (174 + (5 * a1)))), (0, .ref 95), (1, .int (Int32.ofInt a1))]) (st' := [.int (Int32.ofInt 4), .int (Int32.ofInt (174 + (5 * a1))), .ref 96, .int (Int32.ofInt (lf_w ((s.1 96 ((174 + (5 * a1)) + 3)) * (s.1 96 ((174 + (5 * a1)) + 1)))))]) rfl ?_
  refine lf_iadd 32 rfl rfl ?_
  obtain ⟨o23, h⟩ := h
  refine lf_iald 33 1538 rfl rfl rfl rfl rfl rfl o23 ?_
  refine lf_imul 34 rfl rfl ?_
  refine lf_wtI ?_
  refine lf_bipush 36 10 rfl rfl (by decide) (by decide) ?_
  refine lf_idiv 37 rfl rfl lf_Rw ⟨by decide, by decide⟩ (by decide) ?_
  refine lf_seg 4 (pc' := 43) (lv' := [(2, .int (Int32.ofInt (174 + (5 * a1)))), (0, .ref 95), (1, .int (Int32.ofInt a1))]) (st' := [.int (Int32.ofInt 2), .int (Int32.ofInt (174 + (5 * a1))), .ref 96, .int (Int32.ofInt ((lf_w ((lf_w ((s.1 96 ((174 + (5 * a1)) + 3)) * (s.1 96 ((174 + (5 * a1)) + 1)))) * (s.1 96 ((174 + (5 * a1)) + 4)))).tdiv 10))]) rfl ?_
  refine lf_iadd 44 rfl rfl ?_
  obtain ⟨o24, h⟩ := h
  refine lf_iald 45 1538 rfl rfl rfl rfl rfl rfl o24 ?_
  refine lf_isub 46 rfl rfl ?_
  refine lf_wtI ?_
  exact lf_retI rfl rfl h
-- fm_319 Model.saved 95 i
def fm_319_p98 (X48 : Int → Int → Int → lf_Z → Prop) (Q : Int → lf_Z → Prop) (x2 : Int) (x3 : Int) (x4 : Int) (s : lf_Z) : Prop := X48 x2 x3 (x4 + 1) s
set_option maxRecDepth 100000 in
theorem gm_319_p98 {L : Nat} {xs : Nat → Int32} {d : Nat} {X48 : Int → Int → Int → lf_Z → Prop} {Q : Int → lf_Z → Prop} {x2 : Int} {x3 : Int} {x4 : Int} {s : lf_Z} (hX48 : ∀ x2 x3 x4 s, X48 x2 x3 x4 s → lf_E (px_ro L xs) (d + 3) 319 48 [(0, .ref 95), (2, .int (Int32.ofInt x2)), (3, .int (Int32.ofInt x3)), (4, .int (Int32.ofInt x4))] [] s (lf_qi Q)) (h : fm_319_p98 X48 Q x2 x3 x4 s) : lf_E (px_ro L xs) (d + 3) 319 98 [(0, .ref 95), (2, .int (Int32.ofInt x2)), (3, .int (Int32.ofInt x3)), (4, .int (Int32.ofInt x4))] [] s (lf_qi Q) := by
  unfold fm_319_p98 at h
  refine lf_iinc 101 rfl rfl rfl rfl ?_
  refine lf_seg 1 (pc' := 48) (lv' := [(4, .int (Int32.ofInt (x4 + 1))), (0, .ref 95), (2, .int (Int32.ofInt x2)), (3, .int (Int32.ofInt x3))]) (st' := []) rfl ?_
  refine lf_sub (l := [(0, .ref 95), (2, .int (Int32.ofInt x2)), (3, .int (Int32.ofInt x3)), (4, .int (Int32.ofInt (x4 + 1)))]) (lf_sb1 rfl (lf_sb1 rfl (lf_sb1 rfl (lf_sb1 rfl lf_sb0)))) ?_
  exact hX48 _ _ _ _ h
def fm_319_p48 (Q : Int → lf_Z → Prop) (X48 : Int → Int → Int → lf_Z → Prop) (x2 : Int) (x3 : Int) (x4 : Int) (s : lf_Z) : Prop := lf_R x4 ∧ (lf_R (s.1 96 1) ∧ ((s.1 96 1 ≤ x4 → (Q x2 s)) ∧ (¬ (s.1 96 1 ≤ x4) → ((0 ≤ 174 + (5 * x4) ∧ 174 + (5 * x4) < 1538) ∧ (lf_R (s.1 96 (174 + (5 * x4))) ∧ ((s.1 96 (174 + (5 * x4)) = 0 → (fm_319_p98 X48 Q x2 x3 x4 s)) ∧ (¬ (s.1 96 (174 + (5 * x4)) = 0) → (fm_320 x4 (fun r27 s26 => (lf_R r27 ∧ (lf_R x3 ∧ ((x3 < r27 → (fm_320 x4 (fun r31 s30 => (fm_319_p98 X48 Q x4 r31 x4 s30)) s26)) ∧ (¬ (x3 < r27) → (fm_319_p98 X48 Q x2 x3 x4 s26)))))) s))))))))
def fm_319_p48L (Q : Int → lf_Z → Prop) (x2 : Int) (x3 : Int) (x4 : Int) (s : lf_Z) : Prop := ∀ X48 : Int → Int → Int → lf_Z → Prop, (∀ (x2 : Int) (x3 : Int) (x4 : Int) (s : lf_Z), fm_319_p48 Q X48 x2 x3 x4 s → X48 x2 x3 x4 s) → X48 x2 x3 x4 s
set_option maxRecDepth 100000 in
theorem gm_319_p48 {L : Nat} {xs : Nat → Int32} {d : Nat} {Q : Int → lf_Z → Prop} {x2 : Int} {x3 : Int} {x4 : Int} {s : lf_Z} {X48 : Int → Int → Int → lf_Z → Prop} (hX48 : ∀ x2 x3 x4 s, X48 x2 x3 x4 s → lf_E (px_ro L xs) (d + 3) 319 48 [(0, .ref 95), (2, .int (Int32.ofInt x2)), (3, .int (Int32.ofInt x3)), (4, .int (Int32.ofInt x4))] [] s (lf_qi Q)) (h : fm_319_p48 Q X48 x2 x3 x4 s) : lf_E (px_ro L xs) (d + 3) 319 48 [(0, .ref 95), (2, .int (Int32.ofInt x2)), (3, .int (Int32.ofInt x3)), (4, .int (Int32.ofInt x4))] [] s (lf_qi Q) := by
  unfold fm_319_p48 at h
  refine lf_seg 4 (pc' := 55) (lv' := [(0, .ref 95), (2, .int (Int32.ofInt x2)), (3, .int (Int32.ofInt x3)), (4, .int (Int32.ofInt x4))]) (st' := [.int (Int32.ofInt 1), .ref 96, .int (Int32.ofInt x4)]) rfl ?_
  refine lf_iald 56 1538 rfl rfl rfl rfl rfl rfl ⟨by decide, by decide⟩ ?_
  obtain ⟨o22, h⟩ := h
  obtain ⟨o23, h⟩ := h
  refine lf_icmp_ge 104 59 rfl rfl rfl o22 o23 (fun c => ?_) (fun c => ?_)
  · have h := h.1 c
    refine lf_seg 1 (pc' := 105) (lv' := [(0, .ref 95), (2, .int (Int32.ofInt x2)), (3, .int (Int32.ofInt x3)), (4, .int (Int32.ofInt x4))]) (st' := [.int (Int32.ofInt x2)]) rfl ?_
    exact lf_retI rfl rfl h
  · have h := h.2 c
    refine lf_seg 2 (pc' := 63) (lv' := [(0, .ref 95), (2, .int (Int32.ofInt x2)), (3, .int (Int32.ofInt x3)), (4, .int (Int32.ofInt x4))]) (st' := [.ref 96]) rfl ?_
    refine lf_sipush 66 174 rfl rfl (by decide) (by decide) ?_
    refine lf_seg 2 (pc' := 69) (lv' := [(0, .ref 95), (2, .int (Int32.ofInt x2)), (3, .int (Int32.ofInt x3)), (4, .int (Int32.ofInt x4))]) (st' := [.int (Int32.ofInt x4), .int (Int32.ofInt 5), .int (Int32.ofInt 174), .ref 96]) rfl ?_
    refine lf_imul 70 rfl rfl ?_
    refine lf_iadd 71 rfl rfl ?_
    obtain ⟨o24, h⟩ := h
    refine lf_iald 72 1538 rfl rfl rfl rfl rfl rfl o24 ?_
    obtain ⟨o25, h⟩ := h
    refine lf_if_eq 98 75 rfl rfl rfl o25 (fun c => ?_) (fun c => ?_)
    · have h := h.1 c
      refine lf_sub (l := [(0, .ref 95), (2, .int (Int32.ofInt x2)), (3, .int (Int32.ofInt x3)), (4, .int (Int32.ofInt x4))]) (lf_sb1 rfl (lf_sb1 rfl (lf_sb1 rfl (lf_sb1 rfl lf_sb0)))) ?_
      exact gm_319_p98 hX48 h
    · have h := h.2 c
      refine lf_seg 2 (pc' := 78) (lv' := [(0, .ref 95), (2, .int (Int32.ofInt x2)), (3, .int (Int32.ofInt x3)), (4, .int (Int32.ofInt x4))]) (st' := [.int (Int32.ofInt x4), .ref 95]) rfl ?_
      refine lf_callI 81 rfl rfl rfl rfl (gm_320 h) (fun r27 s26 h => ?_)
      refine lf_seg 1 (pc' := 82) (lv' := [(0, .ref 95), (2, .int (Int32.ofInt x2)), (3, .int (Int32.ofInt x3)), (4, .int (Int32.ofInt x4))]) (st' := [.int (Int32.ofInt x3), .int (Int32.ofInt r27)]) rfl ?_
      obtain ⟨o28, h⟩ := h
      obtain ⟨o29, h⟩ := h
      refine lf_icmp_gt 88 85 rfl rfl rfl o28 o29 (fun c => ?_) (fun c => ?_)
      · have h := h.1 c
        refine lf_seg 2 (pc' := 91) (lv' := [(0, .ref 95), (2, .int (Int32.ofInt x2)), (3, .int (Int32.ofInt x3)), (4, .int (Int32.ofInt x4))]) (st' := [.int (Int32.ofInt x4), .ref 95]) rfl ?_
        refine lf_callI 94 rfl rfl rfl rfl (gm_320 h) (fun r31 s30 h => ?_)
        refine lf_seg 3 (pc' := 98) (lv' := [(2, .int (Int32.ofInt x4)), (3, .int (Int32.ofInt r31)), (0, .ref 95), (4, .int (Int32.ofInt x4))]) (st' := []) rfl ?_
        refine lf_sub (l := [(0, .ref 95), (2, .int (Int32.ofInt x4)), (3, .int (Int32.ofInt r31)), (4, .int (Int32.ofInt x4))]) (lf_sb1 rfl (lf_sb1 rfl (lf_sb1 rfl (lf_sb1 rfl lf_sb0)))) ?_
        exact gm_319_p98 hX48 h
      · have h := h.2 c
        refine lf_seg 1 (pc' := 98) (lv' := [(0, .ref 95), (2, .int (Int32.ofInt x2)), (3, .int (Int32.ofInt x3)), (4, .int (Int32.ofInt x4))]) (st' := []) rfl ?_
        refine lf_sub (l := [(0, .ref 95), (2, .int (Int32.ofInt x2)), (3, .int (Int32.ofInt x3)), (4, .int (Int32.ofInt x4))]) (lf_sb1 rfl (lf_sb1 rfl (lf_sb1 rfl (lf_sb1 rfl lf_sb0)))) ?_
        exact gm_319_p98 hX48 h
theorem gm_319_p48L {L : Nat} {xs : Nat → Int32} {d : Nat} {Q : Int → lf_Z → Prop} {x2 : Int} {x3 : Int} {x4 : Int} {s : lf_Z} (h : fm_319_p48L Q x2 x3 x4 s) : lf_E (px_ro L xs) (d + 3) 319 48 [(0, .ref 95), (2, .int (Int32.ofInt x2)), (3, .int (Int32.ofInt x3)), (4, .int (Int32.ofInt x4))] [] s (lf_qi Q) :=
  h (fun x2 x3 x4 s => lf_E (px_ro L xs) (d + 3) 319 48 [(0, .ref 95), (2, .int (Int32.ofInt x2)), (3, .int (Int32.ofInt x3)), (4, .int (Int32.ofInt x4))] [] s (lf_qi Q)) (fun x2 x3 x4 s hb => gm_319_p48 (fun _ _ _ _ h => h) hb)
def fm_319 (a1 : Int) (Q : Int → lf_Z → Prop) (s : lf_Z) : Prop := lf_R a1 ∧ ((a1 = (-1) → (fm_319_p48L Q (-1) 0 0 s)) ∧ (¬ (a1 = (-1)) → (fm_251 a1 (fun z33 s32 => ((z33 = false → (Q (-10000) s32)) ∧ (z33 = true → ((0 ≤ 174 + (5 * a1) ∧ 174 + (5 * a1) < 1538) ∧ (lf_R (s32.1 96 (174 + (5 * a1))) ∧ ((s32.1 96 (174 + (5 * a1)) ≠ 1 → (Q (-10000) s32)) ∧ (¬ (s32.1 96 (174 + (5 * a1)) ≠ 1) → (fm_320 a1 (fun r37 s36 => (Q r37 s36)) s32)))))))) s)))
set_option maxRecDepth 100000 in
theorem gm_319 {L : Nat} {xs : Nat → Int32} {d : Nat} {a1 : Int} {Q : Int → lf_Z → Prop} {s : lf_Z} (h : fm_319 a1 Q s) : lf_M (px_ro L xs) (d + 3) 319 [.ref 95, .int (Int32.ofInt a1)] s (lf_qi Q) := by
  unfold fm_319 at h
  show lf_E (px_ro L xs) (d + 3) 319 0 [(0, .ref 95), (1, .int (Int32.ofInt a1))] [] s _
  refine lf_seg 2 (pc' := 2) (lv' := [(0, .ref 95), (1, .int (Int32.ofInt a1))]) (st' := [.int (Int32.ofInt (-1)), .int (Int32.ofInt a1)]) rfl ?_
  obtain ⟨o21, h⟩ := h
  refine lf_icmp_eq 41 5 rfl rfl rfl o21 ⟨by decide, by decide⟩ (fun c => ?_) (fun c => ?_)
  · have h := h.1 c
    refine lf_seg 6 (pc' := 48) (lv' := [(4, .int (Int32.ofInt 0)), (3, .int (Int32.ofInt 0)), (2, .int (Int32.ofInt (-1))), (0, .ref 95), (1, .int (Int32.ofInt a1))]) (st' := []) rfl ?_
    refine lf_sub (l := [(0, .ref 95), (2, .int (Int32.ofInt (-1))), (3, .int (Int32.ofInt 0)), (4, .int (Int32.ofInt 0))]) (lf_sb1 rfl (lf_sb1 rfl (lf_sb1 rfl (lf_sb1 rfl lf_sb0)))) ?_
    exact gm_319_p48L h
  · have h := h.2 c
    refine lf_seg 2 (pc' := 7) (lv' := [(0, .ref 95), (1, .int (Int32.ofInt a1))]) (st' := [.int (Int32.ofInt a1), .ref 95]) rfl ?_
    refine lf_callZ 10 rfl rfl rfl rfl (gm_251 h) (fun z33 s32 h => ?_)
    refine lf_ifz_eq 37 13 rfl rfl rfl (fun c => ?_) (fun c => ?_)
    · have h := h.1 c
      refine lf_sipush 40 (-10000) rfl rfl (by decide) (by decide) ?_
      exact lf_retI rfl rfl h
    · have h := h.2 c
      refine lf_seg 2 (pc' := 17) (lv' := [(0, .ref 95), (1, .int (Int32.ofInt a1))]) (st' := [.ref 96]) rfl ?_
      refine lf_sipush 20 174 rfl rfl (by decide) (by decide) ?_
      refine lf_seg 2 (pc' := 22) (lv' := [(0, .ref 95), (1, .int (Int32.ofInt a1))]) (st' := [.int (Int32.ofInt a1), .int (Int32.ofInt 5), .int (Int32.ofInt 174), .ref 96]) rfl ?_
      refine lf_imul 23 rfl rfl ?_
      refine lf_iadd 24 rfl rfl ?_
      obtain ⟨o34, h⟩ := h
      refine lf_iald 25 1538 rfl rfl rfl rfl rfl rfl o34 ?_
      refine lf_seg 1 (pc' := 26) (lv' := [(0, .ref 95), (1, .int (Int32.ofInt a1))]) (st' := [.int (Int32.ofInt 1), .int (Int32.ofInt (s32.1 96 (174 + (5 * a1))))]) rfl ?_
      obtain ⟨o35, h⟩ := h
      refine lf_icmp_ne 37 29 rfl rfl rfl o35 ⟨by decide, by decide⟩ (fun c => ?_) (fun c => ?_)
      · have h := h.1 c
        refine lf_sipush 40 (-10000) rfl rfl (by decide) (by decide) ?_
        exact lf_retI rfl rfl h
      · have h := h.2 c
        refine lf_seg 2 (pc' := 31) (lv' := [(0, .ref 95), (1, .int (Int32.ofInt a1))]) (st' := [.int (Int32.ofInt a1), .ref 95]) rfl ?_
        refine lf_callI 34 rfl rfl rfl rfl (gm_320 h) (fun r37 s36 h => ?_)
        refine lf_seg 1 (pc' := 40) (lv' := [(0, .ref 95), (1, .int (Int32.ofInt a1))]) (st' := [.int (Int32.ofInt r37)]) rfl ?_
        exact lf_retI rfl rfl h
-- fm_65c Stand.sum 29
def fm_65c_p10 (Q : Int → lf_Z → Prop) (x3 : Int) (X10 : Int → Int → lf_Z → Prop) (x1 : Int) (x4 : Int) (s : lf_Z) : Prop := lf_R x4 ∧ (lf_R x3 ∧ ((x3 ≤ x4 → (Q x1 s)) ∧ (¬ (x3 ≤ x4) → ((0 ≤ x4 ∧ x4 < 4) ∧ (X10 (lf_w (x1 + (s.1 29 x4))) (x4 + 1) s)))))
def fm_65c_p10L (Q : Int → lf_Z → Prop) (x1 : Int) (x3 : Int) (x4 : Int) (s : lf_Z) : Prop := ∀ X10 : Int → Int → lf_Z → Prop, (∀ (x1 : Int) (x4 : Int) (s : lf_Z), fm_65c_p10 Q x3 X10 x1 x4 s → X10 x1 x4 s) → X10 x1 x4 s
set_option maxRecDepth 100000 in
theorem gm_65c_p10 {L : Nat} {xs : Nat → Int32} {d : Nat} {Q : Int → lf_Z → Prop} {x1 : Int} {x3 : Int} {x4 : Int} {s : lf_Z} {X10 : Int → Int → lf_Z → Prop} (hX10 : ∀ x1 x4 s, X10 x1 x4 s → lf_E (px_ro L xs) (d + 1) 65 10 [(1, .int (Int32.ofInt x1)), (2, .ref 29), (3, .int (Int32.ofInt x3)), (4, .int (Int32.ofInt x4))] [] s (lf_qi Q)) (h : fm_65c_p10 Q x3 X10 x1 x4 s) : lf_E (px_ro L xs) (d + 1) 65 10 [(1, .int (Int32.ofInt x1)), (2, .ref 29), (3, .int (Int32.ofInt x3)), (4, .int (Int32.ofInt x4))] [] s (lf_qi Q) := by
  unfold fm_65c_p10 at h
  refine lf_seg 2 (pc' := 13) (lv' := [(1, .int (Int32.ofInt x1)), (2, .ref 29), (3, .int (Int32.ofInt x3)), (4, .int (Int32.ofInt x4))]) (st' := [.int (Int32.ofInt x3), .int (Int32.ofInt x4)]) rfl ?_
  obtain ⟨o21, h⟩ := h
  obtain ⟨o22, h⟩ := h
  refine lf_icmp_ge 33 16 rfl rfl rfl o21 o22 (fun c => ?_) (fun c => ?_)
  · have h := h.1 c
    refine lf_seg 1 (pc' := 34) (lv' := [(1, .int (Int32.ofInt x1)), (2, .ref 29), (3, .int (Int32.ofInt x3)), (4, .int (Int32.ofInt x4))]) (st' := [.int (Int32.ofInt x1)]) rfl ?_
    exact lf_retI rfl rfl h
  · have h := h.2 c
    refine lf_seg 2 (pc' := 19) (lv' := [(1, .int (Int32.ofInt x1)), (2, .ref 29), (3, .int (Int32.ofInt x3)), (4, .int (Int32.ofInt x4))]) (st' := [.int (Int32.ofInt x4), .ref 29]) rfl ?_
    obtain ⟨o23, h⟩ := h
    refine lf_iald 20 4 rfl rfl rfl rfl rfl rfl o23 ?_
    refine lf_seg 3 (pc' := 25) (lv' := [(5, .int (Int32.ofInt (s.1 29 x4))), (1, .int (Int32.ofInt x1)), (2, .ref 29), (3, .int (Int32.ofInt x3)), (4, .int (Int32.ofInt x4))]) (st' := [.int (Int32.ofInt (s.1 29 x4)), .int (Int32.ofInt x1)]) rfl ?_
    refine lf_iadd 26 rfl rfl ?_
    refine lf_wtI ?_
    refine lf_seg 1 (pc' := 27) (lv' := [(1, .int (Int32.ofInt (lf_w (x1 + (s.1 29 x4))))), (5, .int (Int32.ofInt (s.1 29 x4))), (2, .ref 29), (3, .int (Int32.ofInt x3)), (4, .int (Int32.ofInt x4))]) (st' := []) rfl ?_
    refine lf_iinc 30 rfl rfl rfl rfl ?_
    refine lf_seg 1 (pc' := 10) (lv' := [(4, .int (Int32.ofInt (x4 + 1))), (1, .int (Int32.ofInt (lf_w (x1 + (s.1 29 x4))))), (5, .int (Int32.ofInt (s.1 29 x4))), (2, .ref 29), (3, .int (Int32.ofInt x3))]) (st' := []) rfl ?_
    refine lf_sub (l := [(1, .int (Int32.ofInt (lf_w (x1 + (s.1 29 x4))))), (2, .ref 29), (3, .int (Int32.ofInt x3)), (4, .int (Int32.ofInt (x4 + 1)))]) (lf_sb1 rfl (lf_sb1 rfl (lf_sb1 rfl (lf_sb1 rfl lf_sb0)))) ?_
    exact hX10 _ _ _ h
theorem gm_65c_p10L {L : Nat} {xs : Nat → Int32} {d : Nat} {Q : Int → lf_Z → Prop} {x1 : Int} {x3 : Int} {x4 : Int} {s : lf_Z} (h : fm_65c_p10L Q x1 x3 x4 s) : lf_E (px_ro L xs) (d + 1) 65 10 [(1, .int (Int32.ofInt x1)), (2, .ref 29), (3, .int (Int32.ofInt x3)), (4, .int (Int32.ofInt x4))] [] s (lf_qi Q) :=
  h (fun x1 x4 s => lf_E (px_ro L xs) (d + 1) 65 10 [(1, .int (Int32.ofInt x1)), (2, .ref 29), (3, .int (Int32.ofInt x3)), (4, .int (Int32.ofInt x4))] [] s (lf_qi Q)) (fun x1 x4 s hb => gm_65c_p10 (fun _ _ _ h => h) hb)
def fm_65c (Q : Int → lf_Z → Prop) (s : lf_Z) : Prop := fm_65c_p10L Q 0 4 0 s
set_option maxRecDepth 100000 in
theorem gm_65c {L : Nat} {xs : Nat → Int32} {d : Nat} {Q : Int → lf_Z → Prop} {s : lf_Z} (h : fm_65c Q s) : lf_M (px_ro L xs) (d + 1) 65 [.ref 29] s (lf_qi Q) := by
  unfold fm_65c at h
  show lf_E (px_ro L xs) (d + 1) 65 0 [(0, .ref 29)] [] s _
  refine lf_seg 5 (pc' := 5) (lv' := [(2, .ref 29), (1, .int (Int32.ofInt 0)), (0, .ref 29)]) (st' := [.ref 29]) rfl ?_
  refine lf_len 6 4 rfl rfl rfl rfl rfl rfl ?_
  refine lf_seg 3 (pc' := 10) (lv' := [(4, .int (Int32.ofInt 0)), (3, .int (Int32.ofInt 4)), (2, .ref 29), (1, .int (Int32.ofInt 0)), (0, .ref 29)]) (st' := []) rfl ?_
  refine lf_sub (l := [(1, .int (Int32.ofInt 0)), (2, .ref 29), (3, .int (Int32.ofInt 4)), (4, .int (Int32.ofInt 0))]) (lf_sb1 rfl (lf_sb1 rfl (lf_sb1 rfl (lf_sb1 rfl lf_sb0)))) ?_
  exact gm_65c_p10L h
-- fm_168 Notes.allTries 25
def fm_168 (Q : Int → lf_Z → Prop) (s : lf_Z) : Prop := fm_65c (fun r22 s21 => (Q r22 s21)) s
set_option maxRecDepth 100000 in
theorem gm_168 {L : Nat} {xs : Nat → Int32} {d : Nat} {Q : Int → lf_Z → Prop} {s : lf_Z} (h : fm_168 Q s) : lf_M (px_ro L xs) (d + 2) 168 [.ref 25] s (lf_qi Q) := by
  unfold fm_168 at h
  show lf_E (px_ro L xs) (d + 2) 168 0 [(0, .ref 25)] [] s _
  refine lf_seg 2 (pc' := 4) (lv' := [(0, .ref 25)]) (st' := [.ref 29]) rfl ?_
  refine lf_callI 7 rfl rfl rfl rfl (gm_65c h) (fun r22 s21 h => ?_)
  exact lf_retI rfl rfl h
-- fm_167 Notes.forgetTries 25
def fm_167 (Q : lf_Z → Prop) (s : lf_Z) : Prop := Q (lf_fl (lf_fl s.1 29 4 0) 30 4 0, s.2.1, s.2.2)
set_option maxRecDepth 100000 in
theorem gm_167 {L : Nat} {xs : Nat → Int32} {d : Nat} {Q : lf_Z → Prop} {s : lf_Z} (h : fm_167 Q s) : lf_M (px_ro L xs) (d + 2) 167 [.ref 25] s (lf_qv Q) := by
  unfold fm_167 at h
  show lf_E (px_ro L xs) (d + 2) 167 0 [(0, .ref 25)] [] s _
  refine lf_seg 3 (pc' := 5) (lv' := [(0, .ref 25)]) (st' := [.int (Int32.ofInt 0), .ref 29]) rfl ?_
  refine lf_callV (Q1 := fun s1 => s1 = (lf_fl s.1 29 4 0, s.2.1, s.2.2)) 8 rfl rfl rfl rfl (lf_fill (m := 4) rfl rfl rfl rfl rfl rfl) (fun s1 hs1 => ?_)
  refine lf_as (lf_fl s.1 29 4 0, s.2.1, s.2.2) hs1 ?_
  refine lf_seg 3 (pc' := 13) (lv' := [(0, .ref 25)]) (st' := [.int (Int32.ofInt 0), .ref 30]) rfl ?_
  refine lf_callV (Q1 := fun s1 => s1 = (lf_fl (lf_fl s.1 29 4 0) 30 4 0, s.2.1, s.2.2)) 16 rfl rfl rfl rfl (lf_fill (m := 4) rfl rfl rfl rfl rfl rfl) (fun s1 hs1 => ?_)
  refine lf_as (lf_fl (lf_fl s.1 29 4 0) 30 4 0, s.2.1, s.2.2) hs1 ?_
  exact lf_retV rfl rfl h
-- fm_166 ElevenBullocks.tried 0 i i
def fm_166_p70 (Q : Int → lf_Z → Prop) (y1 : Int) (y2 : Int) (y3 : Int) (s : lf_Z) : Prop := (0 ≤ y1 ∧ y1 < 4) ∧ (fm_168 (fun r31 s30 => (Q r31 s30)) (lf_up s.1 30 y1 (lf_w (y2 + y3)), s.2.1, s.2.2))
set_option maxRecDepth 100000 in
theorem gm_166_p70 {L : Nat} {xs : Nat → Int32} {d : Nat} {Q : Int → lf_Z → Prop} {y1 : Int} {y2 : Int} {y3 : Int} {s : lf_Z} (h : fm_166_p70 Q y1 y2 y3 s) : lf_E (px_ro L xs) (d + 3) 166 70 [(0, .ref 0)] [.int (Int32.ofInt y3), .int (Int32.ofInt y2), .int (Int32.ofInt y1), .ref 30] s (lf_qi Q) := by
  unfold fm_166_p70 at h
  refine lf_iadd 71 rfl rfl ?_
  refine lf_wtI ?_
  obtain ⟨o29, h⟩ := h
  refine lf_iast 72 4 rfl rfl rfl rfl rfl rfl o29 ?_
  refine lf_as (lf_up s.1 30 y1 (lf_w (y2 + y3)), s.2.1, s.2.2) rfl ?_
  refine lf_seg 2 (pc' := 76) (lv' := [(0, .ref 0)]) (st' := [.ref 25]) rfl ?_
  refine lf_callI 79 rfl rfl rfl rfl (gm_168 h) (fun r31 s30 h => ?_)
  exact lf_retI rfl rfl h
def fm_166 (a1 : Int) (a2 : Int) (Q : Int → lf_Z → Prop) (s : lf_Z) : Prop := lf_R a1 ∧ ((a1 ≠ (-1) → (fm_15 a1 0 3 (fun z23 s22 => ((z23 = false → (Q (-2) s22)) ∧ (z23 = true → (fm_168 (fun r25 s24 => (lf_R r25 ∧ ((r25 < 12 → ((0 ≤ a1 ∧ a1 < 4) ∧ (lf_R a2 ∧ ((a2 = 0 → (fm_166_p70 Q a1 (s24.1 30 a1) 0 (lf_up s24.1 29 a1 (lf_w ((s24.1 29 a1) + 1)), s24.2.1, s24.2.2))) ∧ (¬ (a2 = 0) → (fm_166_p70 Q a1 (s24.1 30 a1) 1 (lf_up s24.1 29 a1 (lf_w ((s24.1 29 a1) + 1)), s24.2.1, s24.2.2))))))) ∧ (¬ (r25 < 12) → (Q (-2) s24))))) s22)))) s)) ∧ (¬ (a1 ≠ (-1)) → (fm_167 (fun s32 => (Q 0 s32)) s)))
set_option maxRecDepth 100000 in
theorem gm_166 {L : Nat} {xs : Nat → Int32} {d : Nat} {a1 : Int} {a2 : Int} {Q : Int → lf_Z → Prop} {s : lf_Z} (h : fm_166 a1 a2 Q s) : lf_M (px_ro L xs) (d + 3) 166 [.ref 0, .int (Int32.ofInt a1), .int (Int32.ofInt a2)] s (lf_qi Q) := by
  unfold fm_166 at h
  show lf_E (px_ro L xs) (d + 3) 166 0 [(0, .ref 0), (1, .int (Int32.ofInt a1)), (2, .int (Int32.ofInt a2))] [] s _
  refine lf_seg 2 (pc' := 2) (lv' := [(0, .ref 0), (1, .int (Int32.ofInt a1)), (2, .int (Int32.ofInt a2))]) (st' := [.int (Int32.ofInt (-1)), .int (Int32.ofInt a1)]) rfl ?_
  obtain ⟨o21, h⟩ := h
  refine lf_icmp_ne 14 5 rfl rfl rfl o21 ⟨by decide, by decide⟩ (fun c => ?_) (fun c => ?_)
  · have h := h.1 c
    refine lf_seg 3 (pc' := 17) (lv' := [(0, .ref 0), (1, .int (Int32.ofInt a1)), (2, .int (Int32.ofInt a2))]) (st' := [.int (Int32.ofInt 3), .int (Int32.ofInt 0), .int (Int32.ofInt a1)]) rfl ?_
    refine lf_callZ 20 rfl rfl rfl rfl (gm_15 h) (fun z23 s22 h => ?_)
    refine lf_ifz_eq 35 23 rfl rfl rfl (fun c => ?_) (fun c => ?_)
    · have h := h.1 c
      refine lf_bipush 37 (-2) rfl rfl (by decide) (by decide) ?_
      exact lf_retI rfl rfl h
    · have h := h.2 c
      refine lf_seg 2 (pc' := 27) (lv' := [(0, .ref 0), (1, .int (Int32.ofInt a1)), (2, .int (Int32.ofInt a2))]) (st' := [.ref 25]) rfl ?_
      refine lf_callI 30 rfl rfl rfl rfl (gm_168 h) (fun r25 s24 h => ?_)
      refine lf_bipush 32 12 rfl rfl (by decide) (by decide) ?_
      obtain ⟨o26, h⟩ := h
      refine lf_icmp_lt 38 35 rfl rfl rfl o26 ⟨by decide, by decide⟩ (fun c => ?_) (fun c => ?_)
      · have h := h.1 c
        refine lf_seg 5 (pc' := 47) (lv' := [(0, .ref 0), (1, .int (Int32.ofInt a1)), (2, .int (Int32.ofInt a2))]) (st' := [.int (Int32.ofInt a1), .ref 29, .int (Int32.ofInt a1), .ref 29]) rfl ?_
        obtain ⟨o27, h⟩ := h
        refine lf_iald 48 4 rfl rfl rfl rfl rfl rfl o27 ?_
        refine lf_seg 1 (pc' := 49) (lv' := [(0, .ref 0), (1, .int (Int32.ofInt a1)), (2, .int (Int32.ofInt a2))]) (st' := [.int (Int32.ofInt 1), .int (Int32.ofInt (s24.1 29 a1)), .int (Int32.ofInt a1), .ref 29]) rfl ?_
        refine lf_iadd 50 rfl rfl ?_
        refine lf_wtI ?_
        refine lf_iast 51 4 rfl rfl rfl rfl rfl rfl o27 ?_
        refine lf_as (lf_up s24.1 29 a1 (lf_w ((s24.1 29 a1) + 1)), s24.2.1, s24.2.2) rfl ?_
        refine lf_seg 5 (pc' := 60) (lv' := [(0, .ref 0), (1, .int (Int32.ofInt a1)), (2, .int (Int32.ofInt a2))]) (st' := [.int (Int32.ofInt a1), .ref 30, .int (Int32.ofInt a1), .ref 30]) rfl ?_
        refine lf_iald 61 4 rfl rfl rfl rfl rfl rfl o27 ?_
        refine lf_seg 1 (pc' := 62) (lv' := [(0, .ref 0), (1, .int (Int32.ofInt a1)), (2, .int (Int32.ofInt a2))]) (st' := [.int (Int32.ofInt a2), .int (Int32.ofInt (s24.1 30 a1)), .int (Int32.ofInt a1), .ref 30]) rfl ?_
        obtain ⟨o28, h⟩ := h
        refine lf_if_eq 69 65 rfl rfl rfl o28 (fun c => ?_) (fun c => ?_)
        · have h := h.1 c
          refine lf_seg 1 (pc' := 70) (lv' := [(0, .ref 0), (1, .int (Int32.ofInt a1)), (2, .int (Int32.ofInt a2))]) (st' := [.int (Int32.ofInt 0), .int (Int32.ofInt (s24.1 30 a1)), .int (Int32.ofInt a1), .ref 30]) rfl ?_
          refine lf_sub (l := [(0, .ref 0)]) (lf_sb1 rfl lf_sb0) ?_
          exact gm_166_p70 h
        · have h := h.2 c
          refine lf_seg 2 (pc' := 70) (lv' := [(0, .ref 0), (1, .int (Int32.ofInt a1)), (2, .int (Int32.ofInt a2))]) (st' := [.int (Int32.ofInt 1), .int (Int32.ofInt (s24.1 30 a1)), .int (Int32.ofInt a1), .ref 30]) rfl ?_
          refine lf_sub (l := [(0, .ref 0)]) (lf_sb1 rfl lf_sb0) ?_
          exact gm_166_p70 h
      · have h := h.2 c
        refine lf_bipush 37 (-2) rfl rfl (by decide) (by decide) ?_
        exact lf_retI rfl rfl h
  · have h := h.2 c
    refine lf_seg 2 (pc' := 9) (lv' := [(0, .ref 0), (1, .int (Int32.ofInt a1)), (2, .int (Int32.ofInt a2))]) (st' := [.ref 25]) rfl ?_
    refine lf_callV 12 rfl rfl rfl rfl (gm_167 h) (fun s32 h => ?_)
    refine lf_seg 1 (pc' := 13) (lv' := [(0, .ref 0), (1, .int (Int32.ofInt a1)), (2, .int (Int32.ofInt a2))]) (st' := [.int (Int32.ofInt 0)]) rfl ?_
    exact lf_retI rfl rfl h
-- fm_321 Model.tried 95 i i
def fm_321_p86 (Q : Int → lf_Z → Prop) (y1 : Int) (y2 : Int) (s : lf_Z) : Prop := (0 ≤ y1 ∧ y1 < 1538) ∧ (Q (((lf_up s.1 96 y1 y2) 96 11) + 1) (lf_up (lf_up s.1 96 y1 y2) 96 11 (((lf_up s.1 96 y1 y2) 96 11) + 1), s.2.1, s.2.2))
set_option maxRecDepth 100000 in
theorem gm_321_p86 {L : Nat} {xs : Nat → Int32} {d : Nat} {Q : Int → lf_Z → Prop} {y1 : Int} {y2 : Int} {s : lf_Z} (h : fm_321_p86 Q y1 y2 s) : lf_E (px_ro L xs) (d + 2) 321 86 [(0, .ref 95)] [.int (Int32.ofInt y2), .int (Int32.ofInt y1), .ref 96] s (lf_qi Q) := by
  unfold fm_321_p86 at h
  obtain ⟨o27, h⟩ := h
  refine lf_iast 87 1538 rfl rfl rfl rfl rfl rfl o27 ?_
  refine lf_as (lf_up s.1 96 y1 y2, s.2.1, s.2.2) rfl ?_
  refine lf_seg 2 (pc' := 91) (lv' := [(0, .ref 95)]) (st' := [.ref 96]) rfl ?_
  refine lf_bipush 93 11 rfl rfl (by decide) (by decide) ?_
  refine lf_seg 1 (pc' := 94) (lv' := [(0, .ref 95)]) (st' := [.int (Int32.ofInt 11), .ref 96, .int (Int32.ofInt 11), .ref 96]) rfl ?_
  refine lf_iald 95 1538 rfl rfl rfl rfl rfl rfl ⟨by decide, by decide⟩ ?_
  refine lf_seg 1 (pc' := 96) (lv' := [(0, .ref 95)]) (st' := [.int (Int32.ofInt 1), .int (Int32.ofInt ((lf_up s.1 96 y1 y2) 96 11)), .int (Int32.ofInt 11), .ref 96]) rfl ?_
  refine lf_iadd 97 rfl rfl ?_
  refine lf_iast 98 1538 rfl rfl rfl rfl rfl rfl ⟨by decide, by decide⟩ ?_
  refine lf_as (lf_up (lf_up s.1 96 y1 y2) 96 11 (((lf_up s.1 96 y1 y2) 96 11) + 1), s.2.1, s.2.2) rfl ?_
  refine lf_seg 2 (pc' := 102) (lv' := [(0, .ref 95)]) (st' := [.ref 96]) rfl ?_
  refine lf_bipush 104 11 rfl rfl (by decide) (by decide) ?_
  refine lf_iald 105 1538 rfl rfl rfl rfl rfl rfl ⟨by decide, by decide⟩ ?_
  refine lf_seg 0 (pc' := 105) (lv' := [(0, .ref 95)]) (st' := [.int (Int32.ofInt (((lf_up s.1 96 y1 y2) 96 11) + 1))]) rfl ?_
  exact lf_retI rfl rfl h
def fm_321 (a1 : Int) (a2 : Int) (Q : Int → lf_Z → Prop) (s : lf_Z) : Prop := lf_R a1 ∧ ((a1 ≠ (-1) → (fm_183 a1 0 3 (fun z23 s22 => ((z23 = false → (Q (-2) s22)) ∧ (z23 = true → (lf_R (s22.1 96 11) ∧ ((s22.1 96 11 ≠ 12 → ((0 ≤ 254 + (2 * (s22.1 96 11)) ∧ 254 + (2 * (s22.1 96 11)) < 1538) ∧ (lf_R a2 ∧ ((a2 = 0 → (fm_321_p86 Q ((254 + (2 * ((lf_up s22.1 96 (254 + (2 * (s22.1 96 11))) a1) 96 11))) + 1) 0 (lf_up s22.1 96 (254 + (2 * (s22.1 96 11))) a1, s22.2.1, s22.2.2))) ∧ (¬ (a2 = 0) → (fm_321_p86 Q ((254 + (2 * ((lf_up s22.1 96 (254 + (2 * (s22.1 96 11))) a1) 96 11))) + 1) 1 (lf_up s22.1 96 (254 + (2 * (s22.1 96 11))) a1, s22.2.1, s22.2.2))))))) ∧ (¬ (s22.1 96 11 ≠ 12) → (Q (-2) s22))))))) s)) ∧ (¬ (a1 ≠ (-1)) → (Q 0 (lf_up s.1 96 11 0, s.2.1, s.2.2))))
set_option maxRecDepth 100000 in
theorem gm_321 {L : Nat} {xs : Nat → Int32} {d : Nat} {a1 : Int} {a2 : Int} {Q : Int → lf_Z → Prop} {s : lf_Z} (h : fm_321 a1 a2 Q s) : lf_M (px_ro L xs) (d + 2) 321 [.ref 95, .int (Int32.ofInt a1), .int (Int32.ofInt a2)] s (lf_qi Q) := by
  unfold fm_321 at h
  show lf_E (px_ro L xs) (d + 2) 321 0 [(0, .ref 95), (1, .int (Int32.ofInt a1)), (2, .int (Int32.ofInt a2))] [] s _
  refine lf_seg 2 (pc' := 2) (lv' := [(0, .ref 95), (1, .int (Int32.ofInt a1)), (2, .int (Int32.ofInt a2))]) (st' := [.int (Int32.ofInt (-1)), .int (Int32.ofInt a1)]) rfl ?_
  obtain ⟨o21, h⟩ := h
  refine lf_icmp_ne 15 5 rfl rfl rfl o21 ⟨by decide, by decide⟩ (fun c => ?_) (fun c => ?_)
  · have h := h.1 c
    refine lf_seg 3 (pc' := 18) (lv' := [(0, .ref 95), (1, .int (Int32.ofInt a1)), (2, .int (Int32.ofInt a2))]) (st' := [.int (Int32.ofInt 3), .int (Int32.ofInt 0), .int (Int32.ofInt a1)]) rfl ?_
    refine lf_callZ 21 rfl rfl rfl rfl (gm_183 h) (fun z23 s22 h => ?_)
    refine lf_ifz_eq 36 24 rfl rfl rfl (fun c => ?_) (fun c => ?_)
    · have h := h.1 c
      refine lf_bipush 38 (-2) rfl rfl (by decide) (by decide) ?_
      exact lf_retI rfl rfl h
    · have h := h.2 c
      refine lf_seg 2 (pc' := 28) (lv' := [(0, .ref 95), (1, .int (Int32.ofInt a1)), (2, .int (Int32.ofInt a2))]) (st' := [.ref 96]) rfl ?_
      refine lf_bipush 30 11 rfl rfl (by decide) (by decide) ?_
      refine lf_iald 31 1538 rfl rfl rfl rfl rfl rfl ⟨by decide, by decide⟩ ?_
      refine lf_bipush 33 12 rfl rfl (by decide) (by decide) ?_
      obtain ⟨o24, h⟩ := h
      refine lf_icmp_ne 39 36 rfl rfl rfl o24 ⟨by decide, by decide⟩ (fun c => ?_) (fun c => ?_)
      · have h := h.1 c
        refine lf_seg 2 (pc' := 43) (lv' := [(0, .ref 95), (1, .int (Int32.ofInt a1)), (2, .int (Int32.ofInt a2))]) (st' := [.ref 96]) rfl ?_
        refine lf_sipush 46 254 rfl rfl (by decide) (by decide) ?_
        refine lf_seg 3 (pc' := 51) (lv' := [(0, .ref 95), (1, .int (Int32.ofInt a1)), (2, .int (Int32.ofInt a2))]) (st' := [.ref 96, .int (Int32.ofInt 2), .int (Int32.ofInt 254), .ref 96]) rfl ?_
        refine lf_bipush 53 11 rfl rfl (by decide) (by decide) ?_
        refine lf_iald 54 1538 rfl rfl rfl rfl rfl rfl ⟨by decide, by decide⟩ ?_
        refine lf_imul 55 rfl rfl ?_
        refine lf_iadd 56 rfl rfl ?_
        refine lf_seg 1 (pc' := 57) (lv' := [(0, .ref 95), (1, .int (Int32.ofInt a1)), (2, .int (Int32.ofInt a2))]) (st' := [.int (Int32.ofInt a1), .int (Int32.ofInt (254 + (2 * (s22.1 96 11)))), .ref 96]) rfl ?_
        obtain ⟨o25, h⟩ := h
        refine lf_iast 58 1538 rfl rfl rfl rfl rfl rfl o25 ?_
        refine lf_as (lf_up s22.1 96 (254 + (2 * (s22.1 96 11))) a1, s22.2.1, s22.2.2) rfl ?_
        refine lf_seg 2 (pc' := 62) (lv' := [(0, .ref 95), (1, .int (Int32.ofInt a1)), (2, .int (Int32.ofInt a2))]) (st' := [.ref 96]) rfl ?_
        refine lf_sipush 65 254 rfl rfl (by decide) (by decide) ?_
        refine lf_seg 3 (pc' := 70) (lv' := [(0, .ref 95), (1, .int (Int32.ofInt a1)), (2, .int (Int32.ofInt a2))]) (st' := [.ref 96, .int (Int32.ofInt 2), .int (Int32.ofInt 254), .ref 96]) rfl ?_
        refine lf_bipush 72 11 rfl rfl (by decide) (by decide) ?_
        refine lf_iald 73 1538 rfl rfl rfl rfl rfl rfl ⟨by decide, by decide⟩ ?_
        refine lf_imul 74 rfl rfl ?_
        refine lf_iadd 75 rfl rfl ?_
        refine lf_seg 1 (pc' := 76) (lv' := [(0, .ref 95), (1, .int (Int32.ofInt a1)), (2, .int (Int32.ofInt a2))]) (st' := [.int (Int32.ofInt 1), .int (Int32.ofInt (254 + (2 * ((lf_up s22.1 96 (254 + (2 * (s22.1 96 11))) a1) 96 11)))), .ref 96]) rfl ?_
        refine lf_iadd 77 rfl rfl ?_
        refine lf_seg 1 (pc' := 78) (lv' := [(0, .ref 95), (1, .int (Int32.ofInt a1)), (2, .int (Int32.ofInt a2))]) (st' := [.int (Int32.ofInt a2), .int (Int32.ofInt ((254 + (2 * ((lf_up s22.1 96 (254 + (2 * (s22.1 96 11))) a1) 96 11))) + 1)), .ref 96]) rfl ?_
        obtain ⟨o26, h⟩ := h
        refine lf_if_eq 85 81 rfl rfl rfl o26 (fun c => ?_) (fun c => ?_)
        · have h := h.1 c
          refine lf_seg 1 (pc' := 86) (lv' := [(0, .ref 95), (1, .int (Int32.ofInt a1)), (2, .int (Int32.ofInt a2))]) (st' := [.int (Int32.ofInt 0), .int (Int32.ofInt ((254 + (2 * ((lf_up s22.1 96 (254 + (2 * (s22.1 96 11))) a1) 96 11))) + 1)), .ref 96]) rfl ?_
          refine lf_sub (l := [(0, .ref 95)]) (lf_sb1 rfl lf_sb0) ?_
          exact gm_321_p86 h
        · have h := h.2 c
          refine lf_seg 2 (pc' := 86) (lv' := [(0, .ref 95), (1, .int (Int32.ofInt a1)), (2, .int (Int32.ofInt a2))]) (st' := [.int (Int32.ofInt 1), .int (Int32.ofInt ((254 + (2 * ((lf_up s22.1 96 (254 + (2 * (s22.1 96 11))) a1) 96 11))) + 1)), .ref 96]) rfl ?_
          refine lf_sub (l := [(0, .ref 95)]) (lf_sb1 rfl lf_sb0) ?_
          exact gm_321_p86 h
      · have h := h.2 c
        refine lf_bipush 38 (-2) rfl rfl (by decide) (by decide) ?_
        exact lf_retI rfl rfl h
  · have h := h.2 c
    refine lf_seg 2 (pc' := 9) (lv' := [(0, .ref 95), (1, .int (Int32.ofInt a1)), (2, .int (Int32.ofInt a2))]) (st' := [.ref 96]) rfl ?_
    refine lf_bipush 11 11 rfl rfl (by decide) (by decide) ?_
    refine lf_seg 1 (pc' := 12) (lv' := [(0, .ref 95), (1, .int (Int32.ofInt a1)), (2, .int (Int32.ofInt a2))]) (st' := [.int (Int32.ofInt 0), .int (Int32.ofInt 11), .ref 96]) rfl ?_
    refine lf_iast 13 1538 rfl rfl rfl rfl rfl rfl ⟨by decide, by decide⟩ ?_
    refine lf_as (lf_up s.1 96 11 0, s.2.1, s.2.2) rfl ?_
    refine lf_seg 1 (pc' := 14) (lv' := [(0, .ref 95), (1, .int (Int32.ofInt a1)), (2, .int (Int32.ofInt a2))]) (st' := [.int (Int32.ofInt 0)]) rfl ?_
    exact lf_retI rfl rfl h
-- fm_169 ElevenBullocks.turned 0 i i
def fm_169 (a1 : Int) (a2 : Int) (Q : Int → lf_Z → Prop) (s : lf_Z) : Prop := fm_15 a1 0 3 (fun z22 s21 => ((z22 = false → (Q (-1) s21)) ∧ (z22 = true → ((0 ≤ a1 ∧ a1 < 4) ∧ (lf_R (s21.1 29 a1) ∧ ((s21.1 29 a1 ≠ 0 → (lf_R (s21.1 30 a1) ∧ (fm_125 (s21.1 30 a1) (s21.1 29 a1) a2 (fun r27 s26 => (Q (lf_w (lf_wl r27)) s26)) s21))) ∧ (¬ (s21.1 29 a1 ≠ 0) → (Q (-1) s21)))))))) s
set_option maxRecDepth 100000 in
theorem gm_169 {L : Nat} {xs : Nat → Int32} {d : Nat} {a1 : Int} {a2 : Int} {Q : Int → lf_Z → Prop} {s : lf_Z} (h : fm_169 a1 a2 Q s) : lf_M (px_ro L xs) (d + 2) 169 [.ref 0, .int (Int32.ofInt a1), .int (Int32.ofInt a2)] s (lf_qi Q) := by
  unfold fm_169 at h
  show lf_E (px_ro L xs) (d + 2) 169 0 [(0, .ref 0), (1, .int (Int32.ofInt a1)), (2, .int (Int32.ofInt a2))] [] s _
  refine lf_seg 3 (pc' := 3) (lv' := [(0, .ref 0), (1, .int (Int32.ofInt a1)), (2, .int (Int32.ofInt a2))]) (st' := [.int (Int32.ofInt 3), .int (Int32.ofInt 0), .int (Int32.ofInt a1)]) rfl ?_
  refine lf_callZ 6 rfl rfl rfl rfl (gm_15 h) (fun z22 s21 h => ?_)
  refine lf_ifz_eq 21 9 rfl rfl rfl (fun c => ?_) (fun c => ?_)
  · have h := h.1 c
    refine lf_seg 1 (pc' := 22) (lv' := [(0, .ref 0), (1, .int (Int32.ofInt a1)), (2, .int (Int32.ofInt a2))]) (st' := [.int (Int32.ofInt (-1))]) rfl ?_
    exact lf_retI rfl rfl h
  · have h := h.2 c
    refine lf_seg 4 (pc' := 17) (lv' := [(0, .ref 0), (1, .int (Int32.ofInt a1)), (2, .int (Int32.ofInt a2))]) (st' := [.int (Int32.ofInt a1), .ref 29]) rfl ?_
    obtain ⟨o23, h⟩ := h
    refine lf_iald 18 4 rfl rfl rfl rfl rfl rfl o23 ?_
    obtain ⟨o24, h⟩ := h
    refine lf_if_ne 23 21 rfl rfl rfl o24 (fun c => ?_) (fun c => ?_)
    · have h := h.1 c
      refine lf_seg 4 (pc' := 31) (lv' := [(0, .ref 0), (1, .int (Int32.ofInt a1)), (2, .int (Int32.ofInt a2))]) (st' := [.int (Int32.ofInt a1), .ref 30]) rfl ?_
      refine lf_iald 32 4 rfl rfl rfl rfl rfl rfl o23 ?_
      obtain ⟨o25, h⟩ := h
      refine lf_i2l 33 rfl rfl o25 ?_
      refine lf_seg 4 (pc' := 41) (lv' := [(0, .ref 0), (1, .int (Int32.ofInt a1)), (2, .int (Int32.ofInt a2))]) (st' := [.int (Int32.ofInt a1), .ref 29, .long (Int64.ofInt (s21.1 30 a1))]) rfl ?_
      refine lf_iald 42 4 rfl rfl rfl rfl rfl rfl o23 ?_
      refine lf_i2l 43 rfl rfl o24 ?_
      refine lf_seg 1 (pc' := 44) (lv' := [(0, .ref 0), (1, .int (Int32.ofInt a1)), (2, .int (Int32.ofInt a2))]) (st' := [.int (Int32.ofInt a2), .long (Int64.ofInt (s21.1 29 a1)), .long (Int64.ofInt (s21.1 30 a1))]) rfl ?_
      refine lf_callL 47 rfl rfl rfl rfl (gm_125 h) (fun r27 s26 h => ?_)
      refine lf_wtL ?_
      refine lf_l2i 48 rfl rfl ?_
      refine lf_wtI ?_
      exact lf_retI rfl rfl h
    · have h := h.2 c
      refine lf_seg 1 (pc' := 22) (lv' := [(0, .ref 0), (1, .int (Int32.ofInt a1)), (2, .int (Int32.ofInt a2))]) (st' := [.int (Int32.ofInt (-1))]) rfl ?_
      exact lf_retI rfl rfl h
-- fm_323 Model.timesOf 95 i i
def fm_323_p63 (X5 : Int → Int → lf_Z → Prop) (Q : Int → lf_Z → Prop) (x1 : Int) (x2 : Int) (x4 : Int) (y0 : Int) (y1 : Int) (s : lf_Z) : Prop := X5 (y0 + y1) (x4 + 1) s
set_option maxRecDepth 100000 in
theorem gm_323_p63 {L : Nat} {xs : Nat → Int32} {d : Nat} {X5 : Int → Int → lf_Z → Prop} {Q : Int → lf_Z → Prop} {x1 : Int} {x2 : Int} {x4 : Int} {y0 : Int} {y1 : Int} {s : lf_Z} (hX5 : ∀ x3 x4 s, X5 x3 x4 s → lf_E (px_ro L xs) (d + 1) 323 5 [(0, .ref 95), (1, .int (Int32.ofInt x1)), (2, .int (Int32.ofInt x2)), (3, .int (Int32.ofInt x3)), (4, .int (Int32.ofInt x4))] [] s (lf_qi Q)) (h : fm_323_p63 X5 Q x1 x2 x4 y0 y1 s) : lf_E (px_ro L xs) (d + 1) 323 63 [(0, .ref 95), (1, .int (Int32.ofInt x1)), (2, .int (Int32.ofInt x2)), (4, .int (Int32.ofInt x4))] [.int (Int32.ofInt y1), .int (Int32.ofInt y0)] s (lf_qi Q) := by
  unfold fm_323_p63 at h
  refine lf_iadd 64 rfl rfl ?_
  refine lf_seg 1 (pc' := 65) (lv' := [(3, .int (Int32.ofInt (y0 + y1))), (0, .ref 95), (1, .int (Int32.ofInt x1)), (2, .int (Int32.ofInt x2)), (4, .int (Int32.ofInt x4))]) (st' := []) rfl ?_
  refine lf_iinc 68 rfl rfl rfl rfl ?_
  refine lf_seg 1 (pc' := 5) (lv' := [(4, .int (Int32.ofInt (x4 + 1))), (3, .int (Int32.ofInt (y0 + y1))), (0, .ref 95), (1, .int (Int32.ofInt x1)), (2, .int (Int32.ofInt x2))]) (st' := []) rfl ?_
  refine lf_sub (l := [(0, .ref 95), (1, .int (Int32.ofInt x1)), (2, .int (Int32.ofInt x2)), (3, .int (Int32.ofInt (y0 + y1))), (4, .int (Int32.ofInt (x4 + 1)))]) (lf_sb1 rfl (lf_sb1 rfl (lf_sb1 rfl (lf_sb1 rfl (lf_sb1 rfl lf_sb0))))) ?_
  exact hX5 _ _ _ h
def fm_323_p62 (X5 : Int → Int → lf_Z → Prop) (Q : Int → lf_Z → Prop) (x1 : Int) (x2 : Int) (x4 : Int) (y0 : Int) (s : lf_Z) : Prop := fm_323_p63 X5 Q x1 x2 x4 y0 0 s
set_option maxRecDepth 100000 in
theorem gm_323_p62 {L : Nat} {xs : Nat → Int32} {d : Nat} {X5 : Int → Int → lf_Z → Prop} {Q : Int → lf_Z → Prop} {x1 : Int} {x2 : Int} {x4 : Int} {y0 : Int} {s : lf_Z} (hX5 : ∀ x3 x4 s, X5 x3 x4 s → lf_E (px_ro L xs) (d + 1) 323 5 [(0, .ref 95), (1, .int (Int32.ofInt x1)), (2, .int (Int32.ofInt x2)), (3, .int (Int32.ofInt x3)), (4, .int (Int32.ofInt x4))] [] s (lf_qi Q)) (h : fm_323_p62 X5 Q x1 x2 x4 y0 s) : lf_E (px_ro L xs) (d + 1) 323 62 [(0, .ref 95), (1, .int (Int32.ofInt x1)), (2, .int (Int32.ofInt x2)), (4, .int (Int32.ofInt x4))] [.int (Int32.ofInt y0)] s (lf_qi Q) := by
  unfold fm_323_p62 at h
  refine lf_seg 1 (pc' := 63) (lv' := [(0, .ref 95), (1, .int (Int32.ofInt x1)), (2, .int (Int32.ofInt x2)), (4, .int (Int32.ofInt x4))]) (st' := [.int (Int32.ofInt 0), .int (Int32.ofInt y0)]) rfl ?_
  refine lf_sub (l := [(0, .ref 95), (1, .int (Int32.ofInt x1)), (2, .int (Int32.ofInt x2)), (4, .int (Int32.ofInt x4))]) (lf_sb1 rfl (lf_sb1 rfl (lf_sb1 rfl (lf_sb1 rfl lf_sb0)))) ?_
  exact gm_323_p63 hX5 h
def fm_323_p58 (X5 : Int → Int → lf_Z → Prop) (Q : Int → lf_Z → Prop) (x1 : Int) (x2 : Int) (x4 : Int) (y0 : Int) (s : lf_Z) : Prop := fm_323_p63 X5 Q x1 x2 x4 y0 1 s
set_option maxRecDepth 100000 in
theorem gm_323_p58 {L : Nat} {xs : Nat → Int32} {d : Nat} {X5 : Int → Int → lf_Z → Prop} {Q : Int → lf_Z → Prop} {x1 : Int} {x2 : Int} {x4 : Int} {y0 : Int} {s : lf_Z} (hX5 : ∀ x3 x4 s, X5 x3 x4 s → lf_E (px_ro L xs) (d + 1) 323 5 [(0, .ref 95), (1, .int (Int32.ofInt x1)), (2, .int (Int32.ofInt x2)), (3, .int (Int32.ofInt x3)), (4, .int (Int32.ofInt x4))] [] s (lf_qi Q)) (h : fm_323_p58 X5 Q x1 x2 x4 y0 s) : lf_E (px_ro L xs) (d + 1) 323 58 [(0, .ref 95), (1, .int (Int32.ofInt x1)), (2, .int (Int32.ofInt x2)), (4, .int (Int32.ofInt x4))] [.int (Int32.ofInt y0)] s (lf_qi Q) := by
  unfold fm_323_p58 at h
  refine lf_seg 2 (pc' := 63) (lv' := [(0, .ref 95), (1, .int (Int32.ofInt x1)), (2, .int (Int32.ofInt x2)), (4, .int (Int32.ofInt x4))]) (st' := [.int (Int32.ofInt 1), .int (Int32.ofInt y0)]) rfl ?_
  refine lf_sub (l := [(0, .ref 95), (1, .int (Int32.ofInt x1)), (2, .int (Int32.ofInt x2)), (4, .int (Int32.ofInt x4))]) (lf_sb1 rfl (lf_sb1 rfl (lf_sb1 rfl (lf_sb1 rfl lf_sb0)))) ?_
  exact gm_323_p63 hX5 h
def fm_323_p5 (Q : Int → lf_Z → Prop) (x1 : Int) (x2 : Int) (X5 : Int → Int → lf_Z → Prop) (x3 : Int) (x4 : Int) (s : lf_Z) : Prop := lf_R x4 ∧ (lf_R (s.1 96 11) ∧ ((s.1 96 11 ≤ x4 → (Q x3 s)) ∧ (¬ (s.1 96 11 ≤ x4) → ((0 ≤ 254 + (2 * x4) ∧ 254 + (2 * x4) < 1538) ∧ (lf_R (s.1 96 (254 + (2 * x4))) ∧ (lf_R x1 ∧ ((s.1 96 (254 + (2 * x4)) ≠ x1 → (fm_323_p62 X5 Q x1 x2 x4 x3 s)) ∧ (¬ (s.1 96 (254 + (2 * x4)) ≠ x1) → (lf_R x2 ∧ ((x2 = 0 → (fm_323_p58 X5 Q x1 x2 x4 x3 s)) ∧ (¬ (x2 = 0) → ((0 ≤ (254 + (2 * x4)) + 1 ∧ (254 + (2 * x4)) + 1 < 1538) ∧ (lf_R (s.1 96 ((254 + (2 * x4)) + 1)) ∧ ((s.1 96 ((254 + (2 * x4)) + 1) ≠ 1 → (fm_323_p62 X5 Q x1 x2 x4 x3 s)) ∧ (¬ (s.1 96 ((254 + (2 * x4)) + 1) ≠ 1) → (fm_323_p58 X5 Q x1 x2 x4 x3 s))))))))))))))))
def fm_323_p5L (Q : Int → lf_Z → Prop) (x1 : Int) (x2 : Int) (x3 : Int) (x4 : Int) (s : lf_Z) : Prop := ∀ X5 : Int → Int → lf_Z → Prop, (∀ (x3 : Int) (x4 : Int) (s : lf_Z), fm_323_p5 Q x1 x2 X5 x3 x4 s → X5 x3 x4 s) → X5 x3 x4 s
set_option maxRecDepth 100000 in
theorem gm_323_p5 {L : Nat} {xs : Nat → Int32} {d : Nat} {Q : Int → lf_Z → Prop} {x1 : Int} {x2 : Int} {x3 : Int} {x4 : Int} {s : lf_Z} {X5 : Int → Int → lf_Z → Prop} (hX5 : ∀ x3 x4 s, X5 x3 x4 s → lf_E (px_ro L xs) (d + 1) 323 5 [(0, .ref 95), (1, .int (Int32.ofInt x1)), (2, .int (Int32.ofInt x2)), (3, .int (Int32.ofInt x3)), (4, .int (Int32.ofInt x4))] [] s (lf_qi Q)) (h : fm_323_p5 Q x1 x2 X5 x3 x4 s) : lf_E (px_ro L xs) (d + 1) 323 5 [(0, .ref 95), (1, .int (Int32.ofInt x1)), (2, .int (Int32.ofInt x2)), (3, .int (Int32.ofInt x3)), (4, .int (Int32.ofInt x4))] [] s (lf_qi Q) := by
  unfold fm_323_p5 at h
  refine lf_seg 3 (pc' := 11) (lv' := [(0, .ref 95), (1, .int (Int32.ofInt x1)), (2, .int (Int32.ofInt x2)), (3, .int (Int32.ofInt x3)), (4, .int (Int32.ofInt x4))]) (st' := [.ref 96, .int (Int32.ofInt x4)]) rfl ?_
  refine lf_bipush 13 11 rfl rfl (by decide) (by decide) ?_
  refine lf_iald 14 1538 rfl rfl rfl rfl rfl rfl ⟨by decide, by decide⟩ ?_
  obtain ⟨o21, h⟩ := h
  obtain ⟨o22, h⟩ := h
  refine lf_icmp_ge 71 17 rfl rfl rfl o21 o22 (fun c => ?_) (fun c => ?_)
  · have h := h.1 c
    refine lf_seg 1 (pc' := 72) (lv' := [(0, .ref 95), (1, .int (Int32.ofInt x1)), (2, .int (Int32.ofInt x2)), (3, .int (Int32.ofInt x3)), (4, .int (Int32.ofInt x4))]) (st' := [.int (Int32.ofInt x3)]) rfl ?_
    exact lf_retI rfl rfl h
  · have h := h.2 c
    refine lf_seg 3 (pc' := 22) (lv' := [(0, .ref 95), (1, .int (Int32.ofInt x1)), (2, .int (Int32.ofInt x2)), (3, .int (Int32.ofInt x3)), (4, .int (Int32.ofInt x4))]) (st' := [.ref 96, .int (Int32.ofInt x3)]) rfl ?_
    refine lf_sipush 25 254 rfl rfl (by decide) (by decide) ?_
    refine lf_seg 2 (pc' := 28) (lv' := [(0, .ref 95), (1, .int (Int32.ofInt x1)), (2, .int (Int32.ofInt x2)), (3, .int (Int32.ofInt x3)), (4, .int (Int32.ofInt x4))]) (st' := [.int (Int32.ofInt x4), .int (Int32.ofInt 2), .int (Int32.ofInt 254), .ref 96, .int (Int32.ofInt x3)]) rfl ?_
    refine lf_imul 29 rfl rfl ?_
    refine lf_iadd 30 rfl rfl ?_
    obtain ⟨o23, h⟩ := h
    refine lf_iald 31 1538 rfl rfl rfl rfl rfl rfl o23 ?_
    refine lf_seg 1 (pc' := 32) (lv' := [(0, .ref 95), (1, .int (Int32.ofInt x1)), (2, .int (Int32.ofInt x2)), (3, .int (Int32.ofInt x3)), (4, .int (Int32.ofInt x4))]) (st' := [.int (Int32.ofInt x1), .int (Int32.ofInt (s.1 96 (254 + (2 * x4)))), .int (Int32.ofInt x3)]) rfl ?_
    obtain ⟨o24, h⟩ := h
    obtain ⟨o25, h⟩ := h
    refine lf_icmp_ne 62 35 rfl rfl rfl o24 o25 (fun c => ?_) (fun c => ?_)
    · have h := h.1 c
      refine lf_sub (l := [(0, .ref 95), (1, .int (Int32.ofInt x1)), (2, .int (Int32.ofInt x2)), (4, .int (Int32.ofInt x4))]) (lf_sb1 rfl (lf_sb1 rfl (lf_sb1 rfl (lf_sb1 rfl lf_sb0)))) ?_
      exact gm_323_p62 hX5 h
    · have h := h.2 c
      refine lf_seg 1 (pc' := 36) (lv' := [(0, .ref 95), (1, .int (Int32.ofInt x1)), (2, .int (Int32.ofInt x2)), (3, .int (Int32.ofInt x3)), (4, .int (Int32.ofInt x4))]) (st' := [.int (Int32.ofInt x2), .int (Int32.ofInt x3)]) rfl ?_
      obtain ⟨o26, h⟩ := h
      refine lf_if_eq 58 39 rfl rfl rfl o26 (fun c => ?_) (fun c => ?_)
      · have h := h.1 c
        refine lf_sub (l := [(0, .ref 95), (1, .int (Int32.ofInt x1)), (2, .int (Int32.ofInt x2)), (4, .int (Int32.ofInt x4))]) (lf_sb1 rfl (lf_sb1 rfl (lf_sb1 rfl (lf_sb1 rfl lf_sb0)))) ?_
        exact gm_323_p58 hX5 h
      · have h := h.2 c
        refine lf_seg 2 (pc' := 43) (lv' := [(0, .ref 95), (1, .int (Int32.ofInt x1)), (2, .int (Int32.ofInt x2)), (3, .int (Int32.ofInt x3)), (4, .int (Int32.ofInt x4))]) (st' := [.ref 96, .int (Int32.ofInt x3)]) rfl ?_
        refine lf_sipush 46 254 rfl rfl (by decide) (by decide) ?_
        refine lf_seg 2 (pc' := 49) (lv' := [(0, .ref 95), (1, .int (Int32.ofInt x1)), (2, .int (Int32.ofInt x2)), (3, .int (Int32.ofInt x3)), (4, .int (Int32.ofInt x4))]) (st' := [.int (Int32.ofInt x4), .int (Int32.ofInt 2), .int (Int32.ofInt 254), .ref 96, .int (Int32.ofInt x3)]) rfl ?_
        refine lf_imul 50 rfl rfl ?_
        refine lf_iadd 51 rfl rfl ?_
        refine lf_seg 1 (pc' := 52) (lv' := [(0, .ref 95), (1, .int (Int32.ofInt x1)), (2, .int (Int32.ofInt x2)), (3, .int (Int32.ofInt x3)), (4, .int (Int32.ofInt x4))]) (st' := [.int (Int32.ofInt 1), .int (Int32.ofInt (254 + (2 * x4))), .ref 96, .int (Int32.ofInt x3)]) rfl ?_
        refine lf_iadd 53 rfl rfl ?_
        obtain ⟨o27, h⟩ := h
        refine lf_iald 54 1538 rfl rfl rfl rfl rfl rfl o27 ?_
        refine lf_seg 1 (pc' := 55) (lv' := [(0, .ref 95), (1, .int (Int32.ofInt x1)), (2, .int (Int32.ofInt x2)), (3, .int (Int32.ofInt x3)), (4, .int (Int32.ofInt x4))]) (st' := [.int (Int32.ofInt 1), .int (Int32.ofInt (s.1 96 ((254 + (2 * x4)) + 1))), .int (Int32.ofInt x3)]) rfl ?_
        obtain ⟨o28, h⟩ := h
        refine lf_icmp_ne 62 58 rfl rfl rfl o28 ⟨by decide, by decide⟩ (fun c => ?_) (fun c => ?_)
        · have h := h.1 c
          refine lf_sub (l := [(0, .ref 95), (1, .int (Int32.ofInt x1)), (2, .int (Int32.ofInt x2)), (4, .int (Int32.ofInt x4))]) (lf_sb1 rfl (lf_sb1 rfl (lf_sb1 rfl (lf_sb1 rfl lf_sb0)))) ?_
          exact gm_323_p62 hX5 h
        · have h := h.2 c
          refine lf_sub (l := [(0, .ref 95), (1, .int (Int32.ofInt x1)), (2, .int (Int32.ofInt x2)), (4, .int (Int32.ofInt x4))]) (lf_sb1 rfl (lf_sb1 rfl (lf_sb1 rfl (lf_sb1 rfl lf_sb0)))) ?_
          exact gm_323_p58 hX5 h
theorem gm_323_p5L {L : Nat} {xs : Nat → Int32} {d : Nat} {Q : Int → lf_Z → Prop} {x1 : Int} {x2 : Int} {x3 : Int} {x4 : Int} {s : lf_Z} (h : fm_323_p5L Q x1 x2 x3 x4 s) : lf_E (px_ro L xs) (d + 1) 323 5 [(0, .ref 95), (1, .int (Int32.ofInt x1)), (2, .int (Int32.ofInt x2)), (3, .int (Int32.ofInt x3)), (4, .int (Int32.ofInt x4))] [] s (lf_qi Q) :=
  h (fun x3 x4 s => lf_E (px_ro L xs) (d + 1) 323 5 [(0, .ref 95), (1, .int (Int32.ofInt x1)), (2, .int (Int32.ofInt x2)), (3, .int (Int32.ofInt x3)), (4, .int (Int32.ofInt x4))] [] s (lf_qi Q)) (fun x3 x4 s hb => gm_323_p5 (fun _ _ _ h => h) hb)
def fm_323 (a1 : Int) (a2 : Int) (Q : Int → lf_Z → Prop) (s : lf_Z) : Prop := fm_323_p5L Q a1 a2 0 0 s
set_option maxRecDepth 100000 in
theorem gm_323 {L : Nat} {xs : Nat → Int32} {d : Nat} {a1 : Int} {a2 : Int} {Q : Int → lf_Z → Prop} {s : lf_Z} (h : fm_323 a1 a2 Q s) : lf_M (px_ro L xs) (d + 1) 323 [.ref 95, .int (Int32.ofInt a1), .int (Int32.ofInt a2)] s (lf_qi Q) := by
  unfold fm_323 at h
  show lf_E (px_ro L xs) (d + 1) 323 0 [(0, .ref 95), (1, .int (Int32.ofInt a1)), (2, .int (Int32.ofInt a2))] [] s _
  refine lf_seg 4 (pc' := 5) (lv' := [(4, .int (Int32.ofInt 0)), (3, .int (Int32.ofInt 0)), (0, .ref 95), (1, .int (Int32.ofInt a1)), (2, .int (Int32.ofInt a2))]) (st' := []) rfl ?_
  refine lf_sub (l := [(0, .ref 95), (1, .int (Int32.ofInt a1)), (2, .int (Int32.ofInt a2)), (3, .int (Int32.ofInt 0)), (4, .int (Int32.ofInt 0))]) (lf_sb1 rfl (lf_sb1 rfl (lf_sb1 rfl (lf_sb1 rfl (lf_sb1 rfl lf_sb0))))) ?_
  exact gm_323_p5L h
-- fm_322 Model.turned 95 i i
def fm_322 (a1 : Int) (a2 : Int) (Q : Int → lf_Z → Prop) (s : lf_Z) : Prop := fm_183 a1 0 3 (fun z22 s21 => ((z22 = false → (Q (-1) s21)) ∧ (z22 = true → (fm_323 a1 0 (fun r24 s23 => (lf_R r24 ∧ ((r24 ≠ 0 → (fm_323 a1 1 (fun r27 s26 => (lf_R r27 ∧ (fm_323 a1 0 (fun r30 s29 => (lf_R r30 ∧ (fm_291 r27 r30 a2 (fun r33 s32 => (Q (lf_w (lf_wl r33)) s32)) s29))) s26))) s23)) ∧ (¬ (r24 ≠ 0) → (Q (-1) s23))))) s21)))) s
set_option maxRecDepth 100000 in
theorem gm_322 {L : Nat} {xs : Nat → Int32} {d : Nat} {a1 : Int} {a2 : Int} {Q : Int → lf_Z → Prop} {s : lf_Z} (h : fm_322 a1 a2 Q s) : lf_M (px_ro L xs) (d + 3) 322 [.ref 95, .int (Int32.ofInt a1), .int (Int32.ofInt a2)] s (lf_qi Q) := by
  unfold fm_322 at h
  show lf_E (px_ro L xs) (d + 3) 322 0 [(0, .ref 95), (1, .int (Int32.ofInt a1)), (2, .int (Int32.ofInt a2))] [] s _
  refine lf_seg 3 (pc' := 3) (lv' := [(0, .ref 95), (1, .int (Int32.ofInt a1)), (2, .int (Int32.ofInt a2))]) (st' := [.int (Int32.ofInt 3), .int (Int32.ofInt 0), .int (Int32.ofInt a1)]) rfl ?_
  refine lf_callZ 6 rfl rfl rfl rfl (gm_183 h) (fun z22 s21 h => ?_)
  refine lf_ifz_eq 18 9 rfl rfl rfl (fun c => ?_) (fun c => ?_)
  · have h := h.1 c
    refine lf_seg 1 (pc' := 19) (lv' := [(0, .ref 95), (1, .int (Int32.ofInt a1)), (2, .int (Int32.ofInt a2))]) (st' := [.int (Int32.ofInt (-1))]) rfl ?_
    exact lf_retI rfl rfl h
  · have h := h.2 c
    refine lf_seg 3 (pc' := 12) (lv' := [(0, .ref 95), (1, .int (Int32.ofInt a1)), (2, .int (Int32.ofInt a2))]) (st' := [.int (Int32.ofInt 0), .int (Int32.ofInt a1), .ref 95]) rfl ?_
    refine lf_callI 15 rfl rfl rfl rfl (gm_323 h) (fun r24 s23 h => ?_)
    obtain ⟨o25, h⟩ := h
    refine lf_if_ne 20 18 rfl rfl rfl o25 (fun c => ?_) (fun c => ?_)
    · have h := h.1 c
      refine lf_seg 3 (pc' := 23) (lv' := [(0, .ref 95), (1, .int (Int32.ofInt a1)), (2, .int (Int32.ofInt a2))]) (st' := [.int (Int32.ofInt 1), .int (Int32.ofInt a1), .ref 95]) rfl ?_
      refine lf_callI 26 rfl rfl rfl rfl (gm_323 h) (fun r27 s26 h => ?_)
      obtain ⟨o28, h⟩ := h
      refine lf_i2l 27 rfl rfl o28 ?_
      refine lf_seg 3 (pc' := 30) (lv' := [(0, .ref 95), (1, .int (Int32.ofInt a1)), (2, .int (Int32.ofInt a2))]) (st' := [.int (Int32.ofInt 0), .int (Int32.ofInt a1), .ref 95, .long (Int64.ofInt r27)]) rfl ?_
      refine lf_callI 33 rfl rfl rfl rfl (gm_323 h) (fun r30 s29 h => ?_)
      obtain ⟨o31, h⟩ := h
      refine lf_i2l 34 rfl rfl o31 ?_
      refine lf_seg 1 (pc' := 35) (lv' := [(0, .ref 95), (1, .int (Int32.ofInt a1)), (2, .int (Int32.ofInt a2))]) (st' := [.int (Int32.ofInt a2), .long (Int64.ofInt r30), .long (Int64.ofInt r27)]) rfl ?_
      refine lf_callL 38 rfl rfl rfl rfl (gm_291 h) (fun r33 s32 h => ?_)
      refine lf_wtL ?_
      refine lf_l2i 39 rfl rfl ?_
      refine lf_wtI ?_
      exact lf_retI rfl rfl h
    · have h := h.2 c
      refine lf_seg 1 (pc' := 19) (lv' := [(0, .ref 95), (1, .int (Int32.ofInt a1)), (2, .int (Int32.ofInt a2))]) (st' := [.int (Int32.ofInt (-1))]) rfl ?_
      exact lf_retI rfl rfl h
-- fm_172 Notes.isBetter 25 i i
def fm_172 (a1 : Int) (a2 : Int) (Q : Bool → lf_Z → Prop) (s : lf_Z) : Prop := (0 ≤ a1 ∧ a1 < 4) ∧ ((0 ≤ a2 ∧ a2 < 4) ∧ ((lf_w ((s.1 30 a2) * (s.1 29 a1)) < lf_w ((s.1 30 a1) * (s.1 29 a2)) → (Q true s)) ∧ (¬ (lf_w ((s.1 30 a2) * (s.1 29 a1)) < lf_w ((s.1 30 a1) * (s.1 29 a2))) → ((lf_w ((s.1 30 a1) * (s.1 29 a2)) ≠ lf_w ((s.1 30 a2) * (s.1 29 a1)) → (Q false s)) ∧ (¬ (lf_w ((s.1 30 a1) * (s.1 29 a2)) ≠ lf_w ((s.1 30 a2) * (s.1 29 a1))) → (lf_R (s.1 29 a1) ∧ (lf_R (s.1 29 a2) ∧ ((s.1 29 a1 ≤ s.1 29 a2 → (Q false s)) ∧ (¬ (s.1 29 a1 ≤ s.1 29 a2) → (Q true s))))))))))
set_option maxRecDepth 100000 in
theorem gm_172 {L : Nat} {xs : Nat → Int32} {d : Nat} {a1 : Int} {a2 : Int} {Q : Bool → lf_Z → Prop} {s : lf_Z} (h : fm_172 a1 a2 Q s) : lf_M (px_ro L xs) (d + 1) 172 [.ref 25, .int (Int32.ofInt a1), .int (Int32.ofInt a2)] s (lf_qz Q) := by
  unfold fm_172 at h
  show lf_E (px_ro L xs) (d + 1) 172 0 [(0, .ref 25), (1, .int (Int32.ofInt a1)), (2, .int (Int32.ofInt a2))] [] s _
  refine lf_seg 3 (pc' := 5) (lv' := [(0, .ref 25), (1, .int (Int32.ofInt a1)), (2, .int (Int32.ofInt a2))]) (st' := [.int (Int32.ofInt a1), .ref 30]) rfl ?_
  obtain ⟨o21, h⟩ := h
  refine lf_iald 6 4 rfl rfl rfl rfl rfl rfl o21 ?_
  refine lf_seg 3 (pc' := 11) (lv' := [(0, .ref 25), (1, .int (Int32.ofInt a1)), (2, .int (Int32.ofInt a2))]) (st' := [.int (Int32.ofInt a2), .ref 29, .int (Int32.ofInt (s.1 30 a1))]) rfl ?_
  obtain ⟨o22, h⟩ := h
  refine lf_iald 12 4 rfl rfl rfl rfl rfl rfl o22 ?_
  refine lf_imul 13 rfl rfl ?_
  refine lf_wtI ?_
  refine lf_seg 4 (pc' := 19) (lv' := [(3, .int (Int32.ofInt (lf_w ((s.1 30 a1) * (s.1 29 a2))))), (0, .ref 25), (1, .int (Int32.ofInt a1)), (2, .int (Int32.ofInt a2))]) (st' := [.int (Int32.ofInt a2), .ref 30]) rfl ?_
  refine lf_iald 20 4 rfl rfl rfl rfl rfl rfl o22 ?_
  refine lf_seg 3 (pc' := 25) (lv' := [(3, .int (Int32.ofInt (lf_w ((s.1 30 a1) * (s.1 29 a2))))), (0, .ref 25), (1, .int (Int32.ofInt a1)), (2, .int (Int32.ofInt a2))]) (st' := [.int (Int32.ofInt a1), .ref 29, .int (Int32.ofInt (s.1 30 a2))]) rfl ?_
  refine lf_iald 26 4 rfl rfl rfl rfl rfl rfl o21 ?_
  refine lf_imul 27 rfl rfl ?_
  refine lf_wtI ?_
  refine lf_seg 3 (pc' := 32) (lv' := [(4, .int (Int32.ofInt (lf_w ((s.1 30 a2) * (s.1 29 a1))))), (3, .int (Int32.ofInt (lf_w ((s.1 30 a1) * (s.1 29 a2))))), (0, .ref 25), (1, .int (Int32.ofInt a1)), (2, .int (Int32.ofInt a2))]) (st' := [.int (Int32.ofInt (lf_w ((s.1 30 a2) * (s.1 29 a1)))), .int (Int32.ofInt (lf_w ((s.1 30 a1) * (s.1 29 a2))))]) rfl ?_
  refine lf_icmp_gt 56 35 rfl rfl rfl lf_Rw lf_Rw (fun c => ?_) (fun c => ?_)
  · have h := h.1 c
    refine lf_seg 2 (pc' := 61) (lv' := [(4, .int (Int32.ofInt (lf_w ((s.1 30 a2) * (s.1 29 a1))))), (3, .int (Int32.ofInt (lf_w ((s.1 30 a1) * (s.1 29 a2))))), (0, .ref 25), (1, .int (Int32.ofInt a1)), (2, .int (Int32.ofInt a2))]) (st' := [.int (Int32.ofInt 1)]) rfl ?_
    exact lf_retZ true rfl rfl h
  · have h := h.2 c
    refine lf_seg 2 (pc' := 38) (lv' := [(4, .int (Int32.ofInt (lf_w ((s.1 30 a2) * (s.1 29 a1))))), (3, .int (Int32.ofInt (lf_w ((s.1 30 a1) * (s.1 29 a2))))), (0, .ref 25), (1, .int (Int32.ofInt a1)), (2, .int (Int32.ofInt a2))]) (st' := [.int (Int32.ofInt (lf_w ((s.1 30 a2) * (s.1 29 a1)))), .int (Int32.ofInt (lf_w ((s.1 30 a1) * (s.1 29 a2))))]) rfl ?_
    refine lf_icmp_ne 60 41 rfl rfl rfl lf_Rw lf_Rw (fun c => ?_) (fun c => ?_)
    · have h := h.1 c
      refine lf_seg 1 (pc' := 61) (lv' := [(4, .int (Int32.ofInt (lf_w ((s.1 30 a2) * (s.1 29 a1))))), (3, .int (Int32.ofInt (lf_w ((s.1 30 a1) * (s.1 29 a2))))), (0, .ref 25), (1, .int (Int32.ofInt a1)), (2, .int (Int32.ofInt a2))]) (st' := [.int (Int32.ofInt 0)]) rfl ?_
      exact lf_retZ false rfl rfl h
    · have h := h.2 c
      refine lf_seg 3 (pc' := 46) (lv' := [(4, .int (Int32.ofInt (lf_w ((s.1 30 a2) * (s.1 29 a1))))), (3, .int (Int32.ofInt (lf_w ((s.1 30 a1) * (s.1 29 a2))))), (0, .ref 25), (1, .int (Int32.ofInt a1)), (2, .int (Int32.ofInt a2))]) (st' := [.int (Int32.ofInt a1), .ref 29]) rfl ?_
      refine lf_iald 47 4 rfl rfl rfl rfl rfl rfl o21 ?_
      refine lf_seg 3 (pc' := 52) (lv' := [(4, .int (Int32.ofInt (lf_w ((s.1 30 a2) * (s.1 29 a1))))), (3, .int (Int32.ofInt (lf_w ((s.1 30 a1) * (s.1 29 a2))))), (0, .ref 25), (1, .int (Int32.ofInt a1)), (2, .int (Int32.ofInt a2))]) (st' := [.int (Int32.ofInt a2), .ref 29, .int (Int32.ofInt (s.1 29 a1))]) rfl ?_
      refine lf_iald 53 4 rfl rfl rfl rfl rfl rfl o22 ?_
      obtain ⟨o23, h⟩ := h
      obtain ⟨o24, h⟩ := h
      refine lf_icmp_le 60 56 rfl rfl rfl o23 o24 (fun c => ?_) (fun c => ?_)
      · have h := h.1 c
        refine lf_seg 1 (pc' := 61) (lv' := [(4, .int (Int32.ofInt (lf_w ((s.1 30 a2) * (s.1 29 a1))))), (3, .int (Int32.ofInt (lf_w ((s.1 30 a1) * (s.1 29 a2))))), (0, .ref 25), (1, .int (Int32.ofInt a1)), (2, .int (Int32.ofInt a2))]) (st' := [.int (Int32.ofInt 0)]) rfl ?_
        exact lf_retZ false rfl rfl h
      · have h := h.2 c
        refine lf_seg 2 (pc' := 61) (lv' := [(4, .int (Int32.ofInt (lf_w ((s.1 30 a2) * (s.1 29 a1))))), (3, .int (Int32.ofInt (lf_w ((s.1 30 a1) * (s.1 29 a2))))), (0, .ref 25), (1, .int (Int32.ofInt a1)), (2, .int (Int32.ofInt a2))]) (st' := [.int (Int32.ofInt 1)]) rfl ?_
        exact lf_retZ true rfl rfl h
-- fm_171 Notes.bestHow 25
def fm_171_p34 (X4 : Int → Int → lf_Z → Prop) (Q : Int → lf_Z → Prop) (x1 : Int) (x2 : Int) (s : lf_Z) : Prop := X4 x1 (x2 + 1) s
set_option maxRecDepth 100000 in
theorem gm_171_p34 {L : Nat} {xs : Nat → Int32} {d : Nat} {X4 : Int → Int → lf_Z → Prop} {Q : Int → lf_Z → Prop} {x1 : Int} {x2 : Int} {s : lf_Z} (hX4 : ∀ x1 x2 s, X4 x1 x2 s → lf_E (px_ro L xs) (d + 2) 171 4 [(0, .ref 25), (1, .int (Int32.ofInt x1)), (2, .int (Int32.ofInt x2))] [] s (lf_qi Q)) (h : fm_171_p34 X4 Q x1 x2 s) : lf_E (px_ro L xs) (d + 2) 171 34 [(0, .ref 25), (1, .int (Int32.ofInt x1)), (2, .int (Int32.ofInt x2))] [] s (lf_qi Q) := by
  unfold fm_171_p34 at h
  refine lf_iinc 37 rfl rfl rfl rfl ?_
  refine lf_seg 1 (pc' := 4) (lv' := [(2, .int (Int32.ofInt (x2 + 1))), (0, .ref 25), (1, .int (Int32.ofInt x1))]) (st' := []) rfl ?_
  refine lf_sub (l := [(0, .ref 25), (1, .int (Int32.ofInt x1)), (2, .int (Int32.ofInt (x2 + 1)))]) (lf_sb1 rfl (lf_sb1 rfl (lf_sb1 rfl lf_sb0))) ?_
  exact hX4 _ _ _ h
def fm_171_p32 (X4 : Int → Int → lf_Z → Prop) (Q : Int → lf_Z → Prop) (x2 : Int) (s : lf_Z) : Prop := fm_171_p34 X4 Q x2 x2 s
set_option maxRecDepth 100000 in
theorem gm_171_p32 {L : Nat} {xs : Nat → Int32} {d : Nat} {X4 : Int → Int → lf_Z → Prop} {Q : Int → lf_Z → Prop} {x2 : Int} {s : lf_Z} (hX4 : ∀ x1 x2 s, X4 x1 x2 s → lf_E (px_ro L xs) (d + 2) 171 4 [(0, .ref 25), (1, .int (Int32.ofInt x1)), (2, .int (Int32.ofInt x2))] [] s (lf_qi Q)) (h : fm_171_p32 X4 Q x2 s) : lf_E (px_ro L xs) (d + 2) 171 32 [(0, .ref 25), (2, .int (Int32.ofInt x2))] [] s (lf_qi Q) := by
  unfold fm_171_p32 at h
  refine lf_seg 2 (pc' := 34) (lv' := [(1, .int (Int32.ofInt x2)), (0, .ref 25), (2, .int (Int32.ofInt x2))]) (st' := []) rfl ?_
  refine lf_sub (l := [(0, .ref 25), (1, .int (Int32.ofInt x2)), (2, .int (Int32.ofInt x2))]) (lf_sb1 rfl (lf_sb1 rfl (lf_sb1 rfl lf_sb0))) ?_
  exact gm_171_p34 hX4 h
def fm_171_p4 (Q : Int → lf_Z → Prop) (X4 : Int → Int → lf_Z → Prop) (x1 : Int) (x2 : Int) (s : lf_Z) : Prop := lf_R x2 ∧ ((4 ≤ x2 → (Q x1 s)) ∧ (¬ (4 ≤ x2) → ((0 ≤ x2 ∧ x2 < 4) ∧ (lf_R (s.1 29 x2) ∧ ((s.1 29 x2 ≤ 0 → (fm_171_p34 X4 Q x1 x2 s)) ∧ (¬ (s.1 29 x2 ≤ 0) → (lf_R x1 ∧ ((x1 = (-1) → (fm_171_p32 X4 Q x2 s)) ∧ (¬ (x1 = (-1)) → (fm_172 x2 x1 (fun z26 s25 => ((z26 = false → (fm_171_p34 X4 Q x1 x2 s25)) ∧ (z26 = true → (fm_171_p32 X4 Q x2 s25)))) s))))))))))
def fm_171_p4L (Q : Int → lf_Z → Prop) (x1 : Int) (x2 : Int) (s : lf_Z) : Prop := ∀ X4 : Int → Int → lf_Z → Prop, (∀ (x1 : Int) (x2 : Int) (s : lf_Z), fm_171_p4 Q X4 x1 x2 s → X4 x1 x2 s) → X4 x1 x2 s
set_option maxRecDepth 100000 in
theorem gm_171_p4 {L : Nat} {xs : Nat → Int32} {d : Nat} {Q : Int → lf_Z → Prop} {x1 : Int} {x2 : Int} {s : lf_Z} {X4 : Int → Int → lf_Z → Prop} (hX4 : ∀ x1 x2 s, X4 x1 x2 s → lf_E (px_ro L xs) (d + 2) 171 4 [(0, .ref 25), (1, .int (Int32.ofInt x1)), (2, .int (Int32.ofInt x2))] [] s (lf_qi Q)) (h : fm_171_p4 Q X4 x1 x2 s) : lf_E (px_ro L xs) (d + 2) 171 4 [(0, .ref 25), (1, .int (Int32.ofInt x1)), (2, .int (Int32.ofInt x2))] [] s (lf_qi Q) := by
  unfold fm_171_p4 at h
  refine lf_seg 2 (pc' := 6) (lv' := [(0, .ref 25), (1, .int (Int32.ofInt x1)), (2, .int (Int32.ofInt x2))]) (st' := [.int (Int32.ofInt 4), .int (Int32.ofInt x2)]) rfl ?_
  obtain ⟨o21, h⟩ := h
  refine lf_icmp_ge 40 9 rfl rfl rfl o21 ⟨by decide, by decide⟩ (fun c => ?_) (fun c => ?_)
  · have h := h.1 c
    refine lf_seg 1 (pc' := 41) (lv' := [(0, .ref 25), (1, .int (Int32.ofInt x1)), (2, .int (Int32.ofInt x2))]) (st' := [.int (Int32.ofInt x1)]) rfl ?_
    exact lf_retI rfl rfl h
  · have h := h.2 c
    refine lf_seg 3 (pc' := 14) (lv' := [(0, .ref 25), (1, .int (Int32.ofInt x1)), (2, .int (Int32.ofInt x2))]) (st' := [.int (Int32.ofInt x2), .ref 29]) rfl ?_
    obtain ⟨o22, h⟩ := h
    refine lf_iald 15 4 rfl rfl rfl rfl rfl rfl o22 ?_
    obtain ⟨o23, h⟩ := h
    refine lf_if_le 34 18 rfl rfl rfl o23 (fun c => ?_) (fun c => ?_)
    · have h := h.1 c
      refine lf_sub (l := [(0, .ref 25), (1, .int (Int32.ofInt x1)), (2, .int (Int32.ofInt x2))]) (lf_sb1 rfl (lf_sb1 rfl (lf_sb1 rfl lf_sb0))) ?_
      exact gm_171_p34 hX4 h
    · have h := h.2 c
      refine lf_seg 2 (pc' := 20) (lv' := [(0, .ref 25), (1, .int (Int32.ofInt x1)), (2, .int (Int32.ofInt x2))]) (st' := [.int (Int32.ofInt (-1)), .int (Int32.ofInt x1)]) rfl ?_
      obtain ⟨o24, h⟩ := h
      refine lf_icmp_eq 32 23 rfl rfl rfl o24 ⟨by decide, by decide⟩ (fun c => ?_) (fun c => ?_)
      · have h := h.1 c
        refine lf_sub (l := [(0, .ref 25), (2, .int (Int32.ofInt x2))]) (lf_sb1 rfl (lf_sb1 rfl lf_sb0)) ?_
        exact gm_171_p32 hX4 h
      · have h := h.2 c
        refine lf_seg 3 (pc' := 26) (lv' := [(0, .ref 25), (1, .int (Int32.ofInt x1)), (2, .int (Int32.ofInt x2))]) (st' := [.int (Int32.ofInt x1), .int (Int32.ofInt x2), .ref 25]) rfl ?_
        refine lf_callZ 29 rfl rfl rfl rfl (gm_172 h) (fun z26 s25 h => ?_)
        refine lf_ifz_eq 34 32 rfl rfl rfl (fun c => ?_) (fun c => ?_)
        · have h := h.1 c
          refine lf_sub (l := [(0, .ref 25), (1, .int (Int32.ofInt x1)), (2, .int (Int32.ofInt x2))]) (lf_sb1 rfl (lf_sb1 rfl (lf_sb1 rfl lf_sb0))) ?_
          exact gm_171_p34 hX4 h
        · have h := h.2 c
          refine lf_sub (l := [(0, .ref 25), (2, .int (Int32.ofInt x2))]) (lf_sb1 rfl (lf_sb1 rfl lf_sb0)) ?_
          exact gm_171_p32 hX4 h
theorem gm_171_p4L {L : Nat} {xs : Nat → Int32} {d : Nat} {Q : Int → lf_Z → Prop} {x1 : Int} {x2 : Int} {s : lf_Z} (h : fm_171_p4L Q x1 x2 s) : lf_E (px_ro L xs) (d + 2) 171 4 [(0, .ref 25), (1, .int (Int32.ofInt x1)), (2, .int (Int32.ofInt x2))] [] s (lf_qi Q) :=
  h (fun x1 x2 s => lf_E (px_ro L xs) (d + 2) 171 4 [(0, .ref 25), (1, .int (Int32.ofInt x1)), (2, .int (Int32.ofInt x2))] [] s (lf_qi Q)) (fun x1 x2 s hb => gm_171_p4 (fun _ _ _ h => h) hb)
def fm_171 (Q : Int → lf_Z → Prop) (s : lf_Z) : Prop := fm_171_p4L Q (-1) 0 s
set_option maxRecDepth 100000 in
theorem gm_171 {L : Nat} {xs : Nat → Int32} {d : Nat} {Q : Int → lf_Z → Prop} {s : lf_Z} (h : fm_171 Q s) : lf_M (px_ro L xs) (d + 2) 171 [.ref 25] s (lf_qi Q) := by
  unfold fm_171 at h
  show lf_E (px_ro L xs) (d + 2) 171 0 [(0, .ref 25)] [] s _
  refine lf_seg 4 (pc' := 4) (lv' := [(2, .int (Int32.ofInt 0)), (1, .int (Int32.ofInt (-1))), (0, .ref 25)]) (st' := []) rfl ?_
  refine lf_sub (l := [(0, .ref 25), (1, .int (Int32.ofInt (-1))), (2, .int (Int32.ofInt 0))]) (lf_sb1 rfl (lf_sb1 rfl (lf_sb1 rfl lf_sb0))) ?_
  exact gm_171_p4L h
-- fm_170 ElevenBullocks.best 0
def fm_170 (Q : Int → lf_Z → Prop) (s : lf_Z) : Prop := fm_171 (fun r22 s21 => (Q r22 s21)) s
set_option maxRecDepth 100000 in
theorem gm_170 {L : Nat} {xs : Nat → Int32} {d : Nat} {Q : Int → lf_Z → Prop} {s : lf_Z} (h : fm_170 Q s) : lf_M (px_ro L xs) (d + 3) 170 [.ref 0] s (lf_qi Q) := by
  unfold fm_170 at h
  show lf_E (px_ro L xs) (d + 3) 170 0 [(0, .ref 0)] [] s _
  refine lf_seg 2 (pc' := 4) (lv' := [(0, .ref 0)]) (st' := [.ref 25]) rfl ?_
  refine lf_callI 7 rfl rfl rfl rfl (gm_171 h) (fun r22 s21 h => ?_)
  exact lf_retI rfl rfl h
-- fm_324 Model.best 95
def fm_324_p77 (X4 : Int → Int → lf_Z → Prop) (Q : Int → lf_Z → Prop) (x1 : Int) (x2 : Int) (s : lf_Z) : Prop := X4 x1 (x2 + 1) s
set_option maxRecDepth 100000 in
theorem gm_324_p77 {L : Nat} {xs : Nat → Int32} {d : Nat} {X4 : Int → Int → lf_Z → Prop} {Q : Int → lf_Z → Prop} {x1 : Int} {x2 : Int} {s : lf_Z} (hX4 : ∀ x1 x2 s, X4 x1 x2 s → lf_E (px_ro L xs) (d + 2) 324 4 [(0, .ref 95), (1, .int (Int32.ofInt x1)), (2, .int (Int32.ofInt x2))] [] s (lf_qi Q)) (h : fm_324_p77 X4 Q x1 x2 s) : lf_E (px_ro L xs) (d + 2) 324 77 [(0, .ref 95), (1, .int (Int32.ofInt x1)), (2, .int (Int32.ofInt x2))] [] s (lf_qi Q) := by
  unfold fm_324_p77 at h
  refine lf_iinc 80 rfl rfl rfl rfl ?_
  refine lf_seg 1 (pc' := 4) (lv' := [(2, .int (Int32.ofInt (x2 + 1))), (0, .ref 95), (1, .int (Int32.ofInt x1))]) (st' := []) rfl ?_
  refine lf_sub (l := [(0, .ref 95), (1, .int (Int32.ofInt x1)), (2, .int (Int32.ofInt (x2 + 1)))]) (lf_sb1 rfl (lf_sb1 rfl (lf_sb1 rfl lf_sb0))) ?_
  exact hX4 _ _ _ h
def fm_324_p75 (X4 : Int → Int → lf_Z → Prop) (Q : Int → lf_Z → Prop) (x2 : Int) (s : lf_Z) : Prop := fm_324_p77 X4 Q x2 x2 s
set_option maxRecDepth 100000 in
theorem gm_324_p75 {L : Nat} {xs : Nat → Int32} {d : Nat} {X4 : Int → Int → lf_Z → Prop} {Q : Int → lf_Z → Prop} {x2 : Int} {s : lf_Z} (hX4 : ∀ x1 x2 s, X4 x1 x2 s → lf_E (px_ro L xs) (d + 2) 324 4 [(0, .ref 95), (1, .int (Int32.ofInt x1)), (2, .int (Int32.ofInt x2))] [] s (lf_qi Q)) (h : fm_324_p75 X4 Q x2 s) : lf_E (px_ro L xs) (d + 2) 324 75 [(0, .ref 95), (2, .int (Int32.ofInt x2))] [] s (lf_qi Q) := by
  unfold fm_324_p75 at h
  refine lf_seg 2 (pc' := 77) (lv' := [(1, .int (Int32.ofInt x2)), (0, .ref 95), (2, .int (Int32.ofInt x2))]) (st' := []) rfl ?_
  refine lf_sub (l := [(0, .ref 95), (1, .int (Int32.ofInt x2)), (2, .int (Int32.ofInt x2))]) (lf_sb1 rfl (lf_sb1 rfl (lf_sb1 rfl lf_sb0))) ?_
  exact gm_324_p77 hX4 h
def fm_324_p53 (X4 : Int → Int → lf_Z → Prop) (Q : Int → lf_Z → Prop) (x1 : Int) (x2 : Int) (x3 : Int) (y0 : Int) (s : lf_Z) : Prop := lf_R y0 ∧ ((0 < y0 → (fm_324_p75 X4 Q x2 s)) ∧ (¬ (0 < y0) → ((y0 ≠ 0 → (fm_324_p77 X4 Q x1 x2 s)) ∧ (¬ (y0 ≠ 0) → (fm_323 x1 0 (fun r34 s33 => (lf_R x3 ∧ (lf_R r34 ∧ ((x3 ≤ r34 → (fm_324_p77 X4 Q x1 x2 s33)) ∧ (¬ (x3 ≤ r34) → (fm_324_p75 X4 Q x2 s33)))))) s)))))
set_option maxRecDepth 100000 in
theorem gm_324_p53 {L : Nat} {xs : Nat → Int32} {d : Nat} {X4 : Int → Int → lf_Z → Prop} {Q : Int → lf_Z → Prop} {x1 : Int} {x2 : Int} {x3 : Int} {y0 : Int} {s : lf_Z} (hX4 : ∀ x1 x2 s, X4 x1 x2 s → lf_E (px_ro L xs) (d + 2) 324 4 [(0, .ref 95), (1, .int (Int32.ofInt x1)), (2, .int (Int32.ofInt x2))] [] s (lf_qi Q)) (h : fm_324_p53 X4 Q x1 x2 x3 y0 s) : lf_E (px_ro L xs) (d + 2) 324 53 [(0, .ref 95), (1, .int (Int32.ofInt x1)), (2, .int (Int32.ofInt x2)), (3, .int (Int32.ofInt x3))] [.int (Int32.ofInt y0)] s (lf_qi Q) := by
  unfold fm_324_p53 at h
  refine lf_seg 2 (pc' := 57) (lv' := [(4, .int (Int32.ofInt y0)), (0, .ref 95), (1, .int (Int32.ofInt x1)), (2, .int (Int32.ofInt x2)), (3, .int (Int32.ofInt x3))]) (st' := [.int (Int32.ofInt y0)]) rfl ?_
  obtain ⟨o32, h⟩ := h
  refine lf_if_gt 75 60 rfl rfl rfl o32 (fun c => ?_) (fun c => ?_)
  · have h := h.1 c
    refine lf_sub (l := [(0, .ref 95), (2, .int (Int32.ofInt x2))]) (lf_sb1 rfl (lf_sb1 rfl lf_sb0)) ?_
    exact gm_324_p75 hX4 h
  · have h := h.2 c
    refine lf_seg 1 (pc' := 62) (lv' := [(4, .int (Int32.ofInt y0)), (0, .ref 95), (1, .int (Int32.ofInt x1)), (2, .int (Int32.ofInt x2)), (3, .int (Int32.ofInt x3))]) (st' := [.int (Int32.ofInt y0)]) rfl ?_
    refine lf_if_ne 77 65 rfl rfl rfl o32 (fun c => ?_) (fun c => ?_)
    · have h := h.1 c
      refine lf_sub (l := [(0, .ref 95), (1, .int (Int32.ofInt x1)), (2, .int (Int32.ofInt x2))]) (lf_sb1 rfl (lf_sb1 rfl (lf_sb1 rfl lf_sb0))) ?_
      exact gm_324_p77 hX4 h
    · have h := h.2 c
      refine lf_seg 4 (pc' := 69) (lv' := [(4, .int (Int32.ofInt y0)), (0, .ref 95), (1, .int (Int32.ofInt x1)), (2, .int (Int32.ofInt x2)), (3, .int (Int32.ofInt x3))]) (st' := [.int (Int32.ofInt 0), .int (Int32.ofInt x1), .ref 95, .int (Int32.ofInt x3)]) rfl ?_
      refine lf_callI 72 rfl rfl rfl rfl (gm_323 h) (fun r34 s33 h => ?_)
      obtain ⟨o35, h⟩ := h
      obtain ⟨o36, h⟩ := h
      refine lf_icmp_le 77 75 rfl rfl rfl o35 o36 (fun c => ?_) (fun c => ?_)
      · have h := h.1 c
        refine lf_sub (l := [(0, .ref 95), (1, .int (Int32.ofInt x1)), (2, .int (Int32.ofInt x2))]) (lf_sb1 rfl (lf_sb1 rfl (lf_sb1 rfl lf_sb0))) ?_
        exact gm_324_p77 hX4 h
      · have h := h.2 c
        refine lf_sub (l := [(0, .ref 95), (2, .int (Int32.ofInt x2))]) (lf_sb1 rfl (lf_sb1 rfl lf_sb0)) ?_
        exact gm_324_p75 hX4 h
def fm_324_p4 (Q : Int → lf_Z → Prop) (X4 : Int → Int → lf_Z → Prop) (x1 : Int) (x2 : Int) (s : lf_Z) : Prop := lf_R x2 ∧ ((4 ≤ x2 → (Q x1 s)) ∧ (¬ (4 ≤ x2) → (fm_323 x2 0 (fun r23 s22 => (lf_R r23 ∧ ((r23 ≠ 0 → (lf_R x1 ∧ ((0 ≤ x1 → (fm_323 x2 1 (fun r27 s26 => (fm_323 x1 0 (fun r29 s28 => (fm_323 x1 1 (fun r31 s30 => (fm_324_p53 X4 Q x1 x2 r23 ((r27 * r29) - (r31 * r23)) s30)) s28)) s26)) s22)) ∧ (¬ (0 ≤ x1) → (fm_324_p53 X4 Q x1 x2 r23 1 s22))))) ∧ (¬ (r23 ≠ 0) → (fm_324_p77 X4 Q x1 x2 s22))))) s)))
def fm_324_p4L (Q : Int → lf_Z → Prop) (x1 : Int) (x2 : Int) (s : lf_Z) : Prop := ∀ X4 : Int → Int → lf_Z → Prop, (∀ (x1 : Int) (x2 : Int) (s : lf_Z), fm_324_p4 Q X4 x1 x2 s → X4 x1 x2 s) → X4 x1 x2 s
set_option maxRecDepth 100000 in
theorem gm_324_p4 {L : Nat} {xs : Nat → Int32} {d : Nat} {Q : Int → lf_Z → Prop} {x1 : Int} {x2 : Int} {s : lf_Z} {X4 : Int → Int → lf_Z → Prop} (hX4 : ∀ x1 x2 s, X4 x1 x2 s → lf_E (px_ro L xs) (d + 2) 324 4 [(0, .ref 95), (1, .int (Int32.ofInt x1)), (2, .int (Int32.ofInt x2))] [] s (lf_qi Q)) (h : fm_324_p4 Q X4 x1 x2 s) : lf_E (px_ro L xs) (d + 2) 324 4 [(0, .ref 95), (1, .int (Int32.ofInt x1)), (2, .int (Int32.ofInt x2))] [] s (lf_qi Q) := by
  unfold fm_324_p4 at h
  refine lf_seg 2 (pc' := 6) (lv' := [(0, .ref 95), (1, .int (Int32.ofInt x1)), (2, .int (Int32.ofInt x2))]) (st' := [.int (Int32.ofInt 4), .int (Int32.ofInt x2)]) rfl ?_
  obtain ⟨o21, h⟩ := h
  refine lf_icmp_ge 83 9 rfl rfl rfl o21 ⟨by decide, by decide⟩ (fun c => ?_) (fun c => ?_)
  · have h := h.1 c
    refine lf_seg 1 (pc' := 84) (lv' := [(0, .ref 95), (1, .int (Int32.ofInt x1)), (2, .int (Int32.ofInt x2))]) (st' := [.int (Int32.ofInt x1)]) rfl ?_
    exact lf_retI rfl rfl h
  · have h := h.2 c
    refine lf_seg 3 (pc' := 12) (lv' := [(0, .ref 95), (1, .int (Int32.ofInt x1)), (2, .int (Int32.ofInt x2))]) (st' := [.int (Int32.ofInt 0), .int (Int32.ofInt x2), .ref 95]) rfl ?_
    refine lf_callI 15 rfl rfl rfl rfl (gm_323 h) (fun r23 s22 h => ?_)
    refine lf_seg 2 (pc' := 17) (lv' := [(3, .int (Int32.ofInt r23)), (0, .ref 95), (1, .int (Int32.ofInt x1)), (2, .int (Int32.ofInt x2))]) (st' := [.int (Int32.ofInt r23)]) rfl ?_
    obtain ⟨o24, h⟩ := h
    refine lf_if_ne 23 20 rfl rfl rfl o24 (fun c => ?_) (fun c => ?_)
    · have h := h.1 c
      refine lf_seg 1 (pc' := 24) (lv' := [(3, .int (Int32.ofInt r23)), (0, .ref 95), (1, .int (Int32.ofInt x1)), (2, .int (Int32.ofInt x2))]) (st' := [.int (Int32.ofInt x1)]) rfl ?_
      obtain ⟨o25, h⟩ := h
      refine lf_if_ge 31 27 rfl rfl rfl o25 (fun c => ?_) (fun c => ?_)
      · have h := h.1 c
        refine lf_seg 3 (pc' := 34) (lv' := [(3, .int (Int32.ofInt r23)), (0, .ref 95), (1, .int (Int32.ofInt x1)), (2, .int (Int32.ofInt x2))]) (st' := [.int (Int32.ofInt 1), .int (Int32.ofInt x2), .ref 95]) rfl ?_
        refine lf_callI 37 rfl rfl rfl rfl (gm_323 h) (fun r27 s26 h => ?_)
        refine lf_seg 3 (pc' := 40) (lv' := [(3, .int (Int32.ofInt r23)), (0, .ref 95), (1, .int (Int32.ofInt x1)), (2, .int (Int32.ofInt x2))]) (st' := [.int (Int32.ofInt 0), .int (Int32.ofInt x1), .ref 95, .int (Int32.ofInt r27)]) rfl ?_
        refine lf_callI 43 rfl rfl rfl rfl (gm_323 h) (fun r29 s28 h => ?_)
        refine lf_imul 44 rfl rfl ?_
        refine lf_seg 3 (pc' := 47) (lv' := [(3, .int (Int32.ofInt r23)), (0, .ref 95), (1, .int (Int32.ofInt x1)), (2, .int (Int32.ofInt x2))]) (st' := [.int (Int32.ofInt 1), .int (Int32.ofInt x1), .ref 95, .int (Int32.ofInt (r27 * r29))]) rfl ?_
        refine lf_callI 50 rfl rfl rfl rfl (gm_323 h) (fun r31 s30 h => ?_)
        refine lf_seg 1 (pc' := 51) (lv' := [(3, .int (Int32.ofInt r23)), (0, .ref 95), (1, .int (Int32.ofInt x1)), (2, .int (Int32.ofInt x2))]) (st' := [.int (Int32.ofInt r23), .int (Int32.ofInt r31), .int (Int32.ofInt (r27 * r29))]) rfl ?_
        refine lf_imul 52 rfl rfl ?_
        refine lf_isub 53 rfl rfl ?_
        refine lf_sub (l := [(0, .ref 95), (1, .int (Int32.ofInt x1)), (2, .int (Int32.ofInt x2)), (3, .int (Int32.ofInt r23))]) (lf_sb1 rfl (lf_sb1 rfl (lf_sb1 rfl (lf_sb1 rfl lf_sb0)))) ?_
        exact gm_324_p53 hX4 h
      · have h := h.2 c
        refine lf_seg 2 (pc' := 53) (lv' := [(3, .int (Int32.ofInt r23)), (0, .ref 95), (1, .int (Int32.ofInt x1)), (2, .int (Int32.ofInt x2))]) (st' := [.int (Int32.ofInt 1)]) rfl ?_
        refine lf_sub (l := [(0, .ref 95), (1, .int (Int32.ofInt x1)), (2, .int (Int32.ofInt x2)), (3, .int (Int32.ofInt r23))]) (lf_sb1 rfl (lf_sb1 rfl (lf_sb1 rfl (lf_sb1 rfl lf_sb0)))) ?_
        exact gm_324_p53 hX4 h
    · have h := h.2 c
      refine lf_seg 1 (pc' := 77) (lv' := [(3, .int (Int32.ofInt r23)), (0, .ref 95), (1, .int (Int32.ofInt x1)), (2, .int (Int32.ofInt x2))]) (st' := []) rfl ?_
      refine lf_sub (l := [(0, .ref 95), (1, .int (Int32.ofInt x1)), (2, .int (Int32.ofInt x2))]) (lf_sb1 rfl (lf_sb1 rfl (lf_sb1 rfl lf_sb0))) ?_
      exact gm_324_p77 hX4 h
theorem gm_324_p4L {L : Nat} {xs : Nat → Int32} {d : Nat} {Q : Int → lf_Z → Prop} {x1 : Int} {x2 : Int} {s : lf_Z} (h : fm_324_p4L Q x1 x2 s) : lf_E (px_ro L xs) (d + 2) 324 4 [(0, .ref 95), (1, .int (Int32.ofInt x1)), (2, .int (Int32.ofInt x2))] [] s (lf_qi Q) :=
  h (fun x1 x2 s => lf_E (px_ro L xs) (d + 2) 324 4 [(0, .ref 95), (1, .int (Int32.ofInt x1)), (2, .int (Int32.ofInt x2))] [] s (lf_qi Q)) (fun x1 x2 s hb => gm_324_p4 (fun _ _ _ h => h) hb)
def fm_324 (Q : Int → lf_Z → Prop) (s : lf_Z) : Prop := fm_324_p4L Q (-1) 0 s
set_option maxRecDepth 100000 in
theorem gm_324 {L : Nat} {xs : Nat → Int32} {d : Nat} {Q : Int → lf_Z → Prop} {s : lf_Z} (h : fm_324 Q s) : lf_M (px_ro L xs) (d + 2) 324 [.ref 95] s (lf_qi Q) := by
  unfold fm_324 at h
  show lf_E (px_ro L xs) (d + 2) 324 0 [(0, .ref 95)] [] s _
  refine lf_seg 4 (pc' := 4) (lv' := [(2, .int (Int32.ofInt 0)), (1, .int (Int32.ofInt (-1))), (0, .ref 95)]) (st' := []) rfl ?_
  refine lf_sub (l := [(0, .ref 95), (1, .int (Int32.ofInt (-1))), (2, .int (Int32.ofInt 0))]) (lf_sb1 rfl (lf_sb1 rfl (lf_sb1 rfl lf_sb0))) ?_
  exact gm_324_p4L h
-- fm_174 Stand.likeOther 79 15
def fm_174 (Q : lf_Z → Prop) (s : lf_Z) : Prop := Q (lf_up (lf_up (lf_up (lf_cp (lf_cp (lf_cp (lf_cp (lf_cp (lf_cp s.1 16 80 0 0 4) 17 81 0 0 4) 18 82 0 0 4) 19 83 0 0 6) 20 84 0 0 6) 21 85 0 0 12) 79 6 ((lf_cp (lf_cp (lf_cp (lf_cp (lf_cp (lf_cp s.1 16 80 0 0 4) 17 81 0 0 4) 18 82 0 0 4) 19 83 0 0 6) 20 84 0 0 6) 21 85 0 0 12) 15 6)) 79 7 ((lf_cp (lf_cp (lf_cp (lf_cp (lf_cp (lf_cp s.1 16 80 0 0 4) 17 81 0 0 4) 18 82 0 0 4) 19 83 0 0 6) 20 84 0 0 6) 21 85 0 0 12) 15 7)) 79 8 ((lf_cp (lf_cp (lf_cp (lf_cp (lf_cp (lf_cp s.1 16 80 0 0 4) 17 81 0 0 4) 18 82 0 0 4) 19 83 0 0 6) 20 84 0 0 6) 21 85 0 0 12) 15 8), s.2.1, s.2.2)
set_option maxRecDepth 100000 in
theorem gm_174 {L : Nat} {xs : Nat → Int32} {d : Nat} {Q : lf_Z → Prop} {s : lf_Z} (h : fm_174 Q s) : lf_M (px_ro L xs) (d + 1) 174 [.ref 79, .ref 15] s (lf_qv Q) := by
  unfold fm_174 at h
  show lf_E (px_ro L xs) (d + 1) 174 0 [(0, .ref 79), (1, .ref 15)] [] s _
  refine lf_seg 6 (pc' := 10) (lv' := [(0, .ref 79), (1, .ref 15)]) (st' := [.int (Int32.ofInt 0), .ref 80, .int (Int32.ofInt 0), .ref 16]) rfl ?_
  refine lf_seg 1 (pc' := 11) (lv' := [(0, .ref 79), (1, .ref 15)]) (st' := [.int (Int32.ofInt 4), .int (Int32.ofInt 0), .ref 80, .int (Int32.ofInt 0), .ref 16]) rfl ?_
  refine lf_cpy 14 rfl rfl rfl rfl rfl rfl rfl rfl rfl rfl rfl rfl ⟨by decide, by decide, by decide, by decide, by decide⟩ ?_
  refine lf_as (lf_cp s.1 16 80 0 0 4, s.2.1, s.2.2) rfl ?_
  refine lf_seg 6 (pc' := 24) (lv' := [(0, .ref 79), (1, .ref 15)]) (st' := [.int (Int32.ofInt 0), .ref 81, .int (Int32.ofInt 0), .ref 17]) rfl ?_
  refine lf_seg 1 (pc' := 25) (lv' := [(0, .ref 79), (1, .ref 15)]) (st' := [.int (Int32.ofInt 4), .int (Int32.ofInt 0), .ref 81, .int (Int32.ofInt 0), .ref 17]) rfl ?_
  refine lf_cpy 28 rfl rfl rfl rfl rfl rfl rfl rfl rfl rfl rfl rfl ⟨by decide, by decide, by decide, by decide, by decide⟩ ?_
  refine lf_as (lf_cp (lf_cp s.1 16 80 0 0 4) 17 81 0 0 4, s.2.1, s.2.2) rfl ?_
  refine lf_seg 6 (pc' := 38) (lv' := [(0, .ref 79), (1, .ref 15)]) (st' := [.int (Int32.ofInt 0), .ref 82, .int (Int32.ofInt 0), .ref 18]) rfl ?_
  refine lf_seg 1 (pc' := 39) (lv' := [(0, .ref 79), (1, .ref 15)]) (st' := [.int (Int32.ofInt 4), .int (Int32.ofInt 0), .ref 82, .int (Int32.ofInt 0), .ref 18]) rfl ?_
  refine lf_cpy 42 rfl rfl rfl rfl rfl rfl rfl rfl rfl rfl rfl rfl ⟨by decide, by decide, by decide, by decide, by decide⟩ ?_
  refine lf_as (lf_cp (lf_cp (lf_cp s.1 16 80 0 0 4) 17 81 0 0 4) 18 82 0 0 4, s.2.1, s.2.2) rfl ?_
  refine lf_seg 6 (pc' := 52) (lv' := [(0, .ref 79), (1, .ref 15)]) (st' := [.int (Int32.ofInt 0), .ref 83, .int (Int32.ofInt 0), .ref 19]) rfl ?_
  refine lf_bipush 54 6 rfl rfl (by decide) (by decide) ?_
  refine lf_cpy 57 rfl rfl rfl rfl rfl rfl rfl rfl rfl rfl rfl rfl ⟨by decide, by decide, by decide, by decide, by decide⟩ ?_
  refine lf_as (lf_cp (lf_cp (lf_cp (lf_cp s.1 16 80 0 0 4) 17 81 0 0 4) 18 82 0 0 4) 19 83 0 0 6, s.2.1, s.2.2) rfl ?_
  refine lf_seg 6 (pc' := 67) (lv' := [(0, .ref 79), (1, .ref 15)]) (st' := [.int (Int32.ofInt 0), .ref 84, .int (Int32.ofInt 0), .ref 20]) rfl ?_
  refine lf_bipush 69 6 rfl rfl (by decide) (by decide) ?_
  refine lf_cpy 72 rfl rfl rfl rfl rfl rfl rfl rfl rfl rfl rfl rfl ⟨by decide, by decide, by decide, by decide, by decide⟩ ?_
  refine lf_as (lf_cp (lf_cp (lf_cp (lf_cp (lf_cp s.1 16 80 0 0 4) 17 81 0 0 4) 18 82 0 0 4) 19 83 0 0 6) 20 84 0 0 6, s.2.1, s.2.2) rfl ?_
  refine lf_seg 6 (pc' := 82) (lv' := [(0, .ref 79), (1, .ref 15)]) (st' := [.int (Int32.ofInt 0), .ref 85, .int (Int32.ofInt 0), .ref 21]) rfl ?_
  refine lf_bipush 84 12 rfl rfl (by decide) (by decide) ?_
  refine lf_cpy 87 rfl rfl rfl rfl rfl rfl rfl rfl rfl rfl rfl rfl ⟨by decide, by decide, by decide, by decide, by decide⟩ ?_
  refine lf_as (lf_cp (lf_cp (lf_cp (lf_cp (lf_cp (lf_cp s.1 16 80 0 0 4) 17 81 0 0 4) 18 82 0 0 4) 19 83 0 0 6) 20 84 0 0 6) 21 85 0 0 12, s.2.1, s.2.2) rfl ?_
  refine lf_seg 2 (pc' := 89) (lv' := [(0, .ref 79), (1, .ref 15)]) (st' := [.ref 15, .ref 79]) rfl ?_
  refine lf_getI 92 6 rfl rfl rfl rfl rfl rfl rfl ?_
  refine lf_putI 95 6 rfl rfl rfl rfl rfl rfl rfl rfl ?_
  refine lf_as (lf_up (lf_cp (lf_cp (lf_cp (lf_cp (lf_cp (lf_cp s.1 16 80 0 0 4) 17 81 0 0 4) 18 82 0 0 4) 19 83 0 0 6) 20 84 0 0 6) 21 85 0 0 12) 79 6 ((lf_cp (lf_cp (lf_cp (lf_cp (lf_cp (lf_cp s.1 16 80 0 0 4) 17 81 0 0 4) 18 82 0 0 4) 19 83 0 0 6) 20 84 0 0 6) 21 85 0 0 12) 15 6), s.2.1, s.2.2) rfl ?_
  refine lf_seg 2 (pc' := 97) (lv' := [(0, .ref 79), (1, .ref 15)]) (st' := [.ref 15, .ref 79]) rfl ?_
  refine lf_getI 100 7 rfl rfl rfl rfl rfl rfl rfl ?_
  refine lf_seg 0 (pc' := 100) (lv' := [(0, .ref 79), (1, .ref 15)]) (st' := [.int (Int32.ofInt ((lf_cp (lf_cp (lf_cp (lf_cp (lf_cp (lf_cp s.1 16 80 0 0 4) 17 81 0 0 4) 18 82 0 0 4) 19 83 0 0 6) 20 84 0 0 6) 21 85 0 0 12) 15 7)), .ref 79]) rfl ?_
  refine lf_putI 103 7 rfl rfl rfl rfl rfl rfl rfl rfl ?_
  refine lf_as (lf_up (lf_up (lf_cp (lf_cp (lf_cp (lf_cp (lf_cp (lf_cp s.1 16 80 0 0 4) 17 81 0 0 4) 18 82 0 0 4) 19 83 0 0 6) 20 84 0 0 6) 21 85 0 0 12) 79 6 ((lf_cp (lf_cp (lf_cp (lf_cp (lf_cp (lf_cp s.1 16 80 0 0 4) 17 81 0 0 4) 18 82 0 0 4) 19 83 0 0 6) 20 84 0 0 6) 21 85 0 0 12) 15 6)) 79 7 ((lf_cp (lf_cp (lf_cp (lf_cp (lf_cp (lf_cp s.1 16 80 0 0 4) 17 81 0 0 4) 18 82 0 0 4) 19 83 0 0 6) 20 84 0 0 6) 21 85 0 0 12) 15 7), s.2.1, s.2.2) rfl ?_
  refine lf_seg 2 (pc' := 105) (lv' := [(0, .ref 79), (1, .ref 15)]) (st' := [.ref 15, .ref 79]) rfl ?_
  refine lf_getI 108 8 rfl rfl rfl rfl rfl rfl rfl ?_
  refine lf_seg 0 (pc' := 108) (lv' := [(0, .ref 79), (1, .ref 15)]) (st' := [.int (Int32.ofInt ((lf_cp (lf_cp (lf_cp (lf_cp (lf_cp (lf_cp s.1 16 80 0 0 4) 17 81 0 0 4) 18 82 0 0 4) 19 83 0 0 6) 20 84 0 0 6) 21 85 0 0 12) 15 8)), .ref 79]) rfl ?_
  refine lf_putI 111 8 rfl rfl rfl rfl rfl rfl rfl rfl ?_
  refine lf_as (lf_up (lf_up (lf_up (lf_cp (lf_cp (lf_cp (lf_cp (lf_cp (lf_cp s.1 16 80 0 0 4) 17 81 0 0 4) 18 82 0 0 4) 19 83 0 0 6) 20 84 0 0 6) 21 85 0 0 12) 79 6 ((lf_cp (lf_cp (lf_cp (lf_cp (lf_cp (lf_cp s.1 16 80 0 0 4) 17 81 0 0 4) 18 82 0 0 4) 19 83 0 0 6) 20 84 0 0 6) 21 85 0 0 12) 15 6)) 79 7 ((lf_cp (lf_cp (lf_cp (lf_cp (lf_cp (lf_cp s.1 16 80 0 0 4) 17 81 0 0 4) 18 82 0 0 4) 19 83 0 0 6) 20 84 0 0 6) 21 85 0 0 12) 15 7)) 79 8 ((lf_cp (lf_cp (lf_cp (lf_cp (lf_cp (lf_cp s.1 16 80 0 0 4) 17 81 0 0 4) 18 82 0 0 4) 19 83 0 0 6) 20 84 0 0 6) 21 85 0 0 12) 15 8), s.2.1, s.2.2) rfl ?_
  exact lf_retV rfl rfl h
-- fm_175 Steps.likeOther 86 22
def fm_175 (Q : lf_Z → Prop) (s : lf_Z) : Prop := Q (lf_up (lf_up (lf_cp (lf_cp s.1 23 87 0 0 1170) 24 88 0 0 30) 86 2 ((lf_cp (lf_cp s.1 23 87 0 0 1170) 24 88 0 0 30) 22 2)) 86 3 ((lf_cp (lf_cp s.1 23 87 0 0 1170) 24 88 0 0 30) 22 3), s.2.1, s.2.2)
set_option maxRecDepth 100000 in
theorem gm_175 {L : Nat} {xs : Nat → Int32} {d : Nat} {Q : lf_Z → Prop} {s : lf_Z} (h : fm_175 Q s) : lf_M (px_ro L xs) (d + 1) 175 [.ref 86, .ref 22] s (lf_qv Q) := by
  unfold fm_175 at h
  show lf_E (px_ro L xs) (d + 1) 175 0 [(0, .ref 86), (1, .ref 22)] [] s _
  refine lf_seg 6 (pc' := 10) (lv' := [(0, .ref 86), (1, .ref 22)]) (st' := [.int (Int32.ofInt 0), .ref 87, .int (Int32.ofInt 0), .ref 23]) rfl ?_
  refine lf_seg 2 (pc' := 14) (lv' := [(0, .ref 86), (1, .ref 22)]) (st' := [.ref 87, .int (Int32.ofInt 0), .ref 87, .int (Int32.ofInt 0), .ref 23]) rfl ?_
  refine lf_len 15 1170 rfl rfl rfl rfl rfl rfl ?_
  refine lf_cpy 18 rfl rfl rfl rfl rfl rfl rfl rfl rfl rfl rfl rfl ⟨by decide, by decide, by decide, by decide, by decide⟩ ?_
  refine lf_as (lf_cp s.1 23 87 0 0 1170, s.2.1, s.2.2) rfl ?_
  refine lf_seg 6 (pc' := 28) (lv' := [(0, .ref 86), (1, .ref 22)]) (st' := [.int (Int32.ofInt 0), .ref 88, .int (Int32.ofInt 0), .ref 24]) rfl ?_
  refine lf_bipush 30 30 rfl rfl (by decide) (by decide) ?_
  refine lf_cpy 33 rfl rfl rfl rfl rfl rfl rfl rfl rfl rfl rfl rfl ⟨by decide, by decide, by decide, by decide, by decide⟩ ?_
  refine lf_as (lf_cp (lf_cp s.1 23 87 0 0 1170) 24 88 0 0 30, s.2.1, s.2.2) rfl ?_
  refine lf_seg 2 (pc' := 35) (lv' := [(0, .ref 86), (1, .ref 22)]) (st' := [.ref 22, .ref 86]) rfl ?_
  refine lf_getI 38 2 rfl rfl rfl rfl rfl rfl rfl ?_
  refine lf_putI 41 2 rfl rfl rfl rfl rfl rfl rfl rfl ?_
  refine lf_as (lf_up (lf_cp (lf_cp s.1 23 87 0 0 1170) 24 88 0 0 30) 86 2 ((lf_cp (lf_cp s.1 23 87 0 0 1170) 24 88 0 0 30) 22 2), s.2.1, s.2.2) rfl ?_
  refine lf_seg 2 (pc' := 43) (lv' := [(0, .ref 86), (1, .ref 22)]) (st' := [.ref 22, .ref 86]) rfl ?_
  refine lf_getI 46 3 rfl rfl rfl rfl rfl rfl rfl ?_
  refine lf_seg 0 (pc' := 46) (lv' := [(0, .ref 86), (1, .ref 22)]) (st' := [.int (Int32.ofInt ((lf_cp (lf_cp s.1 23 87 0 0 1170) 24 88 0 0 30) 22 3)), .ref 86]) rfl ?_
  refine lf_putI 49 3 rfl rfl rfl rfl rfl rfl rfl rfl ?_
  refine lf_as (lf_up (lf_up (lf_cp (lf_cp s.1 23 87 0 0 1170) 24 88 0 0 30) 86 2 ((lf_cp (lf_cp s.1 23 87 0 0 1170) 24 88 0 0 30) 22 2)) 86 3 ((lf_cp (lf_cp s.1 23 87 0 0 1170) 24 88 0 0 30) 22 3), s.2.1, s.2.2) rfl ?_
  exact lf_retV rfl rfl h
-- fm_176 Notes.likeOther 89 25
def fm_176 (Q : lf_Z → Prop) (s : lf_Z) : Prop := Q (lf_up (lf_cp (lf_cp (lf_cp (lf_cp (lf_cp s.1 26 90 0 0 6) 27 91 0 0 6) 28 92 0 0 16) 29 93 0 0 4) 30 94 0 0 4) 89 2 ((lf_cp (lf_cp (lf_cp (lf_cp (lf_cp s.1 26 90 0 0 6) 27 91 0 0 6) 28 92 0 0 16) 29 93 0 0 4) 30 94 0 0 4) 25 2), s.2.1, s.2.2)
set_option maxRecDepth 100000 in
theorem gm_176 {L : Nat} {xs : Nat → Int32} {d : Nat} {Q : lf_Z → Prop} {s : lf_Z} (h : fm_176 Q s) : lf_M (px_ro L xs) (d + 1) 176 [.ref 89, .ref 25] s (lf_qv Q) := by
  unfold fm_176 at h
  show lf_E (px_ro L xs) (d + 1) 176 0 [(0, .ref 89), (1, .ref 25)] [] s _
  refine lf_seg 6 (pc' := 10) (lv' := [(0, .ref 89), (1, .ref 25)]) (st' := [.int (Int32.ofInt 0), .ref 90, .int (Int32.ofInt 0), .ref 26]) rfl ?_
  refine lf_bipush 12 6 rfl rfl (by decide) (by decide) ?_
  refine lf_cpy 15 rfl rfl rfl rfl rfl rfl rfl rfl rfl rfl rfl rfl ⟨by decide, by decide, by decide, by decide, by decide⟩ ?_
  refine lf_as (lf_cp s.1 26 90 0 0 6, s.2.1, s.2.2) rfl ?_
  refine lf_seg 6 (pc' := 25) (lv' := [(0, .ref 89), (1, .ref 25)]) (st' := [.int (Int32.ofInt 0), .ref 91, .int (Int32.ofInt 0), .ref 27]) rfl ?_
  refine lf_bipush 27 6 rfl rfl (by decide) (by decide) ?_
  refine lf_cpy 30 rfl rfl rfl rfl rfl rfl rfl rfl rfl rfl rfl rfl ⟨by decide, by decide, by decide, by decide, by decide⟩ ?_
  refine lf_as (lf_cp (lf_cp s.1 26 90 0 0 6) 27 91 0 0 6, s.2.1, s.2.2) rfl ?_
  refine lf_seg 6 (pc' := 40) (lv' := [(0, .ref 89), (1, .ref 25)]) (st' := [.int (Int32.ofInt 0), .ref 92, .int (Int32.ofInt 0), .ref 28]) rfl ?_
  refine lf_bipush 42 16 rfl rfl (by decide) (by decide) ?_
  refine lf_cpy 45 rfl rfl rfl rfl rfl rfl rfl rfl rfl rfl rfl rfl ⟨by decide, by decide, by decide, by decide, by decide⟩ ?_
  refine lf_as (lf_cp (lf_cp (lf_cp s.1 26 90 0 0 6) 27 91 0 0 6) 28 92 0 0 16, s.2.1, s.2.2) rfl ?_
  refine lf_seg 6 (pc' := 55) (lv' := [(0, .ref 89), (1, .ref 25)]) (st' := [.int (Int32.ofInt 0), .ref 93, .int (Int32.ofInt 0), .ref 29]) rfl ?_
  refine lf_seg 1 (pc' := 56) (lv' := [(0, .ref 89), (1, .ref 25)]) (st' := [.int (Int32.ofInt 4), .int (Int32.ofInt 0), .ref 93, .int (Int32.ofInt 0), .ref 29]) rfl ?_
  refine lf_cpy 59 rfl rfl rfl rfl rfl rfl rfl rfl rfl rfl rfl rfl ⟨by decide, by decide, by decide, by decide, by decide⟩ ?_
  refine lf_as (lf_cp (lf_cp (lf_cp (lf_cp s.1 26 90 0 0 6) 27 91 0 0 6) 28 92 0 0 16) 29 93 0 0 4, s.2.1, s.2.2) rfl ?_
  refine lf_seg 6 (pc' := 69) (lv' := [(0, .ref 89), (1, .ref 25)]) (st' := [.int (Int32.ofInt 0), .ref 94, .int (Int32.ofInt 0), .ref 30]) rfl ?_
  refine lf_seg 1 (pc' := 70) (lv' := [(0, .ref 89), (1, .ref 25)]) (st' := [.int (Int32.ofInt 4), .int (Int32.ofInt 0), .ref 94, .int (Int32.ofInt 0), .ref 30]) rfl ?_
  refine lf_cpy 73 rfl rfl rfl rfl rfl rfl rfl rfl rfl rfl rfl rfl ⟨by decide, by decide, by decide, by decide, by decide⟩ ?_
  refine lf_as (lf_cp (lf_cp (lf_cp (lf_cp (lf_cp s.1 26 90 0 0 6) 27 91 0 0 6) 28 92 0 0 16) 29 93 0 0 4) 30 94 0 0 4, s.2.1, s.2.2) rfl ?_
  refine lf_seg 2 (pc' := 75) (lv' := [(0, .ref 89), (1, .ref 25)]) (st' := [.ref 25, .ref 89]) rfl ?_
  refine lf_getI 78 2 rfl rfl rfl rfl rfl rfl rfl ?_
  refine lf_putI 81 2 rfl rfl rfl rfl rfl rfl rfl rfl ?_
  refine lf_as (lf_up (lf_cp (lf_cp (lf_cp (lf_cp (lf_cp s.1 26 90 0 0 6) 27 91 0 0 6) 28 92 0 0 16) 29 93 0 0 4) 30 94 0 0 4) 89 2 ((lf_cp (lf_cp (lf_cp (lf_cp (lf_cp s.1 26 90 0 0 6) 27 91 0 0 6) 28 92 0 0 16) 29 93 0 0 4) 30 94 0 0 4) 25 2), s.2.1, s.2.2) rfl ?_
  exact lf_retV rfl rfl h
-- fm_173 ElevenBullocks.image 0
def fm_173 (Q : Int → lf_Z → Prop) (s : lf_Z) : Prop := fm_174 (fun s21 => (fm_175 (fun s22 => (fm_176 (fun s23 => (Q (s23.1 15 7) s23)) s22)) s21)) (lf_up (lf_up (lf_up (lf_up (lf_up s.1 78 0 (s.1 1 0)) 78 1 (s.1 1 1)) 78 2 (s.1 1 2)) 78 3 (s.1 0 11)) 78 4 (s.1 0 12), s.2.1, s.2.2)
set_option maxRecDepth 100000 in
theorem gm_173 {L : Nat} {xs : Nat → Int32} {d : Nat} {Q : Int → lf_Z → Prop} {s : lf_Z} (h : fm_173 Q s) : lf_M (px_ro L xs) (d + 2) 173 [.ref 0] s (lf_qi Q) := by
  unfold fm_173 at h
  show lf_E (px_ro L xs) (d + 2) 173 0 [(0, .ref 0)] [] s _
  refine lf_seg 4 (pc' := 8) (lv' := [(0, .ref 0)]) (st' := [.ref 1, .ref 78]) rfl ?_
  refine lf_getI 11 0 rfl rfl rfl rfl rfl rfl rfl ?_
  refine lf_putI 14 0 rfl rfl rfl rfl rfl rfl rfl rfl ?_
  refine lf_as (lf_up s.1 78 0 (s.1 1 0), s.2.1, s.2.2) rfl ?_
  refine lf_seg 4 (pc' := 22) (lv' := [(0, .ref 0)]) (st' := [.ref 1, .ref 78]) rfl ?_
  refine lf_getI 25 1 rfl rfl rfl rfl rfl rfl rfl ?_
  refine lf_seg 0 (pc' := 25) (lv' := [(0, .ref 0)]) (st' := [.int (Int32.ofInt (s.1 1 1)), .ref 78]) rfl ?_
  refine lf_putI 28 1 rfl rfl rfl rfl rfl rfl rfl rfl ?_
  refine lf_as (lf_up (lf_up s.1 78 0 (s.1 1 0)) 78 1 (s.1 1 1), s.2.1, s.2.2) rfl ?_
  refine lf_seg 4 (pc' := 36) (lv' := [(0, .ref 0)]) (st' := [.ref 1, .ref 78]) rfl ?_
  refine lf_getI 39 2 rfl rfl rfl rfl rfl rfl rfl ?_
  refine lf_seg 0 (pc' := 39) (lv' := [(0, .ref 0)]) (st' := [.int (Int32.ofInt (s.1 1 2)), .ref 78]) rfl ?_
  refine lf_putI 42 2 rfl rfl rfl rfl rfl rfl rfl rfl ?_
  refine lf_as (lf_up (lf_up (lf_up s.1 78 0 (s.1 1 0)) 78 1 (s.1 1 1)) 78 2 (s.1 1 2), s.2.1, s.2.2) rfl ?_
  refine lf_seg 3 (pc' := 47) (lv' := [(0, .ref 0)]) (st' := [.ref 0, .ref 78]) rfl ?_
  refine lf_getI 50 11 rfl rfl rfl rfl rfl rfl rfl ?_
  refine lf_seg 0 (pc' := 50) (lv' := [(0, .ref 0)]) (st' := [.int (Int32.ofInt (s.1 0 11)), .ref 78]) rfl ?_
  refine lf_putI 53 3 rfl rfl rfl rfl rfl rfl rfl rfl ?_
  refine lf_as (lf_up (lf_up (lf_up (lf_up s.1 78 0 (s.1 1 0)) 78 1 (s.1 1 1)) 78 2 (s.1 1 2)) 78 3 (s.1 0 11), s.2.1, s.2.2) rfl ?_
  refine lf_seg 3 (pc' := 58) (lv' := [(0, .ref 0)]) (st' := [.ref 0, .ref 78]) rfl ?_
  refine lf_getI 61 12 rfl rfl rfl rfl rfl rfl rfl ?_
  refine lf_seg 0 (pc' := 61) (lv' := [(0, .ref 0)]) (st' := [.int (Int32.ofInt (s.1 0 12)), .ref 78]) rfl ?_
  refine lf_putI 64 4 rfl rfl rfl rfl rfl rfl rfl rfl ?_
  refine lf_as (lf_up (lf_up (lf_up (lf_up (lf_up s.1 78 0 (s.1 1 0)) 78 1 (s.1 1 1)) 78 2 (s.1 1 2)) 78 3 (s.1 0 11)) 78 4 (s.1 0 12), s.2.1, s.2.2) rfl ?_
  refine lf_seg 5 (pc' := 75) (lv' := [(0, .ref 0)]) (st' := [.ref 15, .ref 79]) rfl ?_
  refine lf_callV 78 rfl rfl rfl rfl (gm_174 h) (fun s21 h => ?_)
  refine lf_seg 5 (pc' := 89) (lv' := [(0, .ref 0)]) (st' := [.ref 22, .ref 86]) rfl ?_
  refine lf_callV 92 rfl rfl rfl rfl (gm_175 h) (fun s22 h => ?_)
  refine lf_seg 5 (pc' := 103) (lv' := [(0, .ref 0)]) (st' := [.ref 25, .ref 89]) rfl ?_
  refine lf_callV 106 rfl rfl rfl rfl (gm_176 h) (fun s23 h => ?_)
  refine lf_seg 2 (pc' := 110) (lv' := [(0, .ref 0)]) (st' := [.ref 15]) rfl ?_
  refine lf_getI 113 7 rfl rfl rfl rfl rfl rfl rfl ?_
  exact lf_retI rfl rfl h
-- fm_181 Model.copy 96 97
def fm_181_p2 (Q : lf_Z → Prop) (X2 : Int → lf_Z → Prop) (x2 : Int) (s : lf_Z) : Prop := lf_R x2 ∧ ((1538 ≤ x2 → (Q s)) ∧ (¬ (1538 ≤ x2) → ((0 ≤ x2 ∧ x2 < 1538) ∧ (X2 (x2 + 1) (lf_up s.1 97 x2 (s.1 96 x2), s.2.1, s.2.2)))))
def fm_181_p2L (Q : lf_Z → Prop) (x2 : Int) (s : lf_Z) : Prop := ∀ X2 : Int → lf_Z → Prop, (∀ (x2 : Int) (s : lf_Z), fm_181_p2 Q X2 x2 s → X2 x2 s) → X2 x2 s
set_option maxRecDepth 100000 in
theorem gm_181_p2 {L : Nat} {xs : Nat → Int32} {d : Nat} {Q : lf_Z → Prop} {x2 : Int} {s : lf_Z} {X2 : Int → lf_Z → Prop} (hX2 : ∀ x2 s, X2 x2 s → lf_E (px_ro L xs) (d + 1) 181 2 [(0, .ref 96), (1, .ref 97), (2, .int (Int32.ofInt x2))] [] s (lf_qv Q)) (h : fm_181_p2 Q X2 x2 s) : lf_E (px_ro L xs) (d + 1) 181 2 [(0, .ref 96), (1, .ref 97), (2, .int (Int32.ofInt x2))] [] s (lf_qv Q) := by
  unfold fm_181_p2 at h
  refine lf_seg 1 (pc' := 3) (lv' := [(0, .ref 96), (1, .ref 97), (2, .int (Int32.ofInt x2))]) (st' := [.int (Int32.ofInt x2)]) rfl ?_
  refine lf_sipush 6 1538 rfl rfl (by decide) (by decide) ?_
  obtain ⟨o21, h⟩ := h
  refine lf_icmp_ge 21 9 rfl rfl rfl o21 ⟨by decide, by decide⟩ (fun c => ?_) (fun c => ?_)
  · have h := h.1 c
    exact lf_retV rfl rfl h
  · have h := h.2 c
    refine lf_seg 4 (pc' := 13) (lv' := [(0, .ref 96), (1, .ref 97), (2, .int (Int32.ofInt x2))]) (st' := [.int (Int32.ofInt x2), .ref 96, .int (Int32.ofInt x2), .ref 97]) rfl ?_
    obtain ⟨o22, h⟩ := h
    refine lf_iald 14 1538 rfl rfl rfl rfl rfl rfl o22 ?_
    refine lf_iast 15 1538 rfl rfl rfl rfl rfl rfl o22 ?_
    refine lf_as (lf_up s.1 97 x2 (s.1 96 x2), s.2.1, s.2.2) rfl ?_
    refine lf_iinc 18 rfl rfl rfl rfl ?_
    refine lf_seg 1 (pc' := 2) (lv' := [(2, .int (Int32.ofInt (x2 + 1))), (0, .ref 96), (1, .ref 97)]) (st' := []) rfl ?_
    refine lf_sub (l := [(0, .ref 96), (1, .ref 97), (2, .int (Int32.ofInt (x2 + 1)))]) (lf_sb1 rfl (lf_sb1 rfl (lf_sb1 rfl lf_sb0))) ?_
    exact hX2 _ _ h
theorem gm_181_p2L {L : Nat} {xs : Nat → Int32} {d : Nat} {Q : lf_Z → Prop} {x2 : Int} {s : lf_Z} (h : fm_181_p2L Q x2 s) : lf_E (px_ro L xs) (d + 1) 181 2 [(0, .ref 96), (1, .ref 97), (2, .int (Int32.ofInt x2))] [] s (lf_qv Q) :=
  h (fun x2 s => lf_E (px_ro L xs) (d + 1) 181 2 [(0, .ref 96), (1, .ref 97), (2, .int (Int32.ofInt x2))] [] s (lf_qv Q)) (fun x2 s hb => gm_181_p2 (fun _ _ h => h) hb)
def fm_181 (Q : lf_Z → Prop) (s : lf_Z) : Prop := fm_181_p2L Q 0 s
set_option maxRecDepth 100000 in
theorem gm_181 {L : Nat} {xs : Nat → Int32} {d : Nat} {Q : lf_Z → Prop} {s : lf_Z} (h : fm_181 Q s) : lf_M (px_ro L xs) (d + 1) 181 [.ref 96, .ref 97] s (lf_qv Q) := by
  unfold fm_181 at h
  show lf_E (px_ro L xs) (d + 1) 181 0 [(0, .ref 96), (1, .ref 97)] [] s _
  refine lf_seg 2 (pc' := 2) (lv' := [(2, .int (Int32.ofInt 0)), (0, .ref 96), (1, .ref 97)]) (st' := []) rfl ?_
  refine lf_sub (l := [(0, .ref 96), (1, .ref 97), (2, .int (Int32.ofInt 0))]) (lf_sb1 rfl (lf_sb1 rfl (lf_sb1 rfl lf_sb0))) ?_
  exact gm_181_p2L h
-- fm_325 Model.image 95
def fm_325 (Q : Int → lf_Z → Prop) (s : lf_Z) : Prop := fm_181 (fun s21 => (Q (s21.1 96 3) s21)) s
set_option maxRecDepth 100000 in
theorem gm_325 {L : Nat} {xs : Nat → Int32} {d : Nat} {Q : Int → lf_Z → Prop} {s : lf_Z} (h : fm_325 Q s) : lf_M (px_ro L xs) (d + 2) 325 [.ref 95] s (lf_qi Q) := by
  unfold fm_325 at h
  show lf_E (px_ro L xs) (d + 2) 325 0 [(0, .ref 95)] [] s _
  refine lf_seg 4 (pc' := 8) (lv' := [(0, .ref 95)]) (st' := [.ref 97, .ref 96]) rfl ?_
  refine lf_callV 11 rfl rfl rfl rfl (gm_181 h) (fun s21 h => ?_)
  refine lf_seg 3 (pc' := 16) (lv' := [(0, .ref 95)]) (st' := [.int (Int32.ofInt 3), .ref 96]) rfl ?_
  refine lf_iald 17 1538 rfl rfl rfl rfl rfl rfl ⟨by decide, by decide⟩ ?_
  exact lf_retI rfl rfl h
-- fm_2b Land.setApart 13
def fm_2b_p9 (Q : lf_Z → Prop) (X9 : Int → lf_Z → Prop) (x1 : Int) (s : lf_Z) : Prop := lf_R x1 ∧ ((12 ≤ x1 → (Q s)) ∧ (¬ (12 ≤ x1) → ((0 ≤ (x1 * 12) + x1 ∧ (x1 * 12) + x1 < 144) ∧ (X9 (x1 + 1) (lf_up s.1 13 ((x1 * 12) + x1) 0, s.2.1, s.2.2)))))
def fm_2b_p9L (Q : lf_Z → Prop) (x1 : Int) (s : lf_Z) : Prop := ∀ X9 : Int → lf_Z → Prop, (∀ (x1 : Int) (s : lf_Z), fm_2b_p9 Q X9 x1 s → X9 x1 s) → X9 x1 s
set_option maxRecDepth 100000 in
theorem gm_2b_p9 {L : Nat} {xs : Nat → Int32} {d : Nat} {Q : lf_Z → Prop} {x1 : Int} {s : lf_Z} {X9 : Int → lf_Z → Prop} (hX9 : ∀ x1 s, X9 x1 s → lf_E (px_ro L xs) (d + 2) 2 9 [(0, .ref 13), (1, .int (Int32.ofInt x1))] [] s (lf_qv Q)) (h : fm_2b_p9 Q X9 x1 s) : lf_E (px_ro L xs) (d + 2) 2 9 [(0, .ref 13), (1, .int (Int32.ofInt x1))] [] s (lf_qv Q) := by
  unfold fm_2b_p9 at h
  refine lf_seg 1 (pc' := 10) (lv' := [(0, .ref 13), (1, .int (Int32.ofInt x1))]) (st' := [.int (Int32.ofInt x1)]) rfl ?_
  refine lf_bipush 12 12 rfl rfl (by decide) (by decide) ?_
  obtain ⟨o21, h⟩ := h
  refine lf_icmp_ge 30 15 rfl rfl rfl o21 ⟨by decide, by decide⟩ (fun c => ?_) (fun c => ?_)
  · have h := h.1 c
    exact lf_retV rfl rfl h
  · have h := h.2 c
    refine lf_seg 2 (pc' := 17) (lv' := [(0, .ref 13), (1, .int (Int32.ofInt x1))]) (st' := [.int (Int32.ofInt x1), .ref 13]) rfl ?_
    refine lf_bipush 19 12 rfl rfl (by decide) (by decide) ?_
    refine lf_imul 20 rfl rfl ?_
    refine lf_seg 1 (pc' := 21) (lv' := [(0, .ref 13), (1, .int (Int32.ofInt x1))]) (st' := [.int (Int32.ofInt x1), .int (Int32.ofInt (x1 * 12)), .ref 13]) rfl ?_
    refine lf_iadd 22 rfl rfl ?_
    refine lf_seg 1 (pc' := 23) (lv' := [(0, .ref 13), (1, .int (Int32.ofInt x1))]) (st' := [.int (Int32.ofInt 0), .int (Int32.ofInt ((x1 * 12) + x1)), .ref 13]) rfl ?_
    obtain ⟨o22, h⟩ := h
    refine lf_iast 24 144 rfl rfl rfl rfl rfl rfl o22 ?_
    refine lf_as (lf_up s.1 13 ((x1 * 12) + x1) 0, s.2.1, s.2.2) rfl ?_
    refine lf_iinc 27 rfl rfl rfl rfl ?_
    refine lf_seg 1 (pc' := 9) (lv' := [(1, .int (Int32.ofInt (x1 + 1))), (0, .ref 13)]) (st' := []) rfl ?_
    refine lf_sub (l := [(0, .ref 13), (1, .int (Int32.ofInt (x1 + 1)))]) (lf_sb1 rfl (lf_sb1 rfl lf_sb0)) ?_
    exact hX9 _ _ h
theorem gm_2b_p9L {L : Nat} {xs : Nat → Int32} {d : Nat} {Q : lf_Z → Prop} {x1 : Int} {s : lf_Z} (h : fm_2b_p9L Q x1 s) : lf_E (px_ro L xs) (d + 2) 2 9 [(0, .ref 13), (1, .int (Int32.ofInt x1))] [] s (lf_qv Q) :=
  h (fun x1 s => lf_E (px_ro L xs) (d + 2) 2 9 [(0, .ref 13), (1, .int (Int32.ofInt x1))] [] s (lf_qv Q)) (fun x1 s hb => gm_2b_p9 (fun _ _ h => h) hb)
def fm_2b (Q : lf_Z → Prop) (s : lf_Z) : Prop := fm_2b_p9L Q 0 (lf_fl s.1 13 144 1000, s.2.1, s.2.2)
set_option maxRecDepth 100000 in
theorem gm_2b {L : Nat} {xs : Nat → Int32} {d : Nat} {Q : lf_Z → Prop} {s : lf_Z} (h : fm_2b Q s) : lf_M (px_ro L xs) (d + 2) 2 [.ref 13] s (lf_qv Q) := by
  unfold fm_2b at h
  show lf_E (px_ro L xs) (d + 2) 2 0 [(0, .ref 13)] [] s _
  refine lf_seg 1 (pc' := 1) (lv' := [(0, .ref 13)]) (st' := [.ref 13]) rfl ?_
  refine lf_sipush 4 1000 rfl rfl (by decide) (by decide) ?_
  refine lf_callV (Q1 := fun s1 => s1 = (lf_fl s.1 13 144 1000, s.2.1, s.2.2)) 7 rfl rfl rfl rfl (lf_fill (m := 144) rfl rfl rfl rfl rfl rfl) (fun s1 hs1 => ?_)
  refine lf_as (lf_fl s.1 13 144 1000, s.2.1, s.2.2) hs1 ?_
  refine lf_seg 2 (pc' := 9) (lv' := [(1, .int (Int32.ofInt 0)), (0, .ref 13)]) (st' := []) rfl ?_
  refine lf_sub (l := [(0, .ref 13), (1, .int (Int32.ofInt 0))]) (lf_sb1 rfl (lf_sb1 rfl lf_sb0)) ?_
  exact gm_2b_p9L h
-- fm_178 Land.cutTo 1 i i i
def fm_178_p33 (Q : lf_Z → Prop) (X33 : Int → lf_Z → Prop) (x4 : Int) (s : lf_Z) : Prop := lf_R x4 ∧ (lf_R (s.1 1 1) ∧ ((s.1 1 1 ≤ x4 → (Q s)) ∧ (¬ (s.1 1 1 ≤ x4) → (fm_20 x4 (fun s24 => (X33 (x4 + 1) s24)) s))))
def fm_178_p33L (Q : lf_Z → Prop) (x4 : Int) (s : lf_Z) : Prop := ∀ X33 : Int → lf_Z → Prop, (∀ (x4 : Int) (s : lf_Z), fm_178_p33 Q X33 x4 s → X33 x4 s) → X33 x4 s
set_option maxRecDepth 100000 in
theorem gm_178_p33 {L : Nat} {xs : Nat → Int32} {d : Nat} {Q : lf_Z → Prop} {x4 : Int} {s : lf_Z} {X33 : Int → lf_Z → Prop} (hX33 : ∀ x4 s, X33 x4 s → lf_E (px_ro L xs) (d + 3) 178 33 [(0, .ref 1), (4, .int (Int32.ofInt x4))] [] s (lf_qv Q)) (h : fm_178_p33 Q X33 x4 s) : lf_E (px_ro L xs) (d + 3) 178 33 [(0, .ref 1), (4, .int (Int32.ofInt x4))] [] s (lf_qv Q) := by
  unfold fm_178_p33 at h
  refine lf_seg 2 (pc' := 36) (lv' := [(0, .ref 1), (4, .int (Int32.ofInt x4))]) (st' := [.ref 1, .int (Int32.ofInt x4)]) rfl ?_
  refine lf_getI 39 1 rfl rfl rfl rfl rfl rfl rfl ?_
  obtain ⟨o22, h⟩ := h
  obtain ⟨o23, h⟩ := h
  refine lf_icmp_ge 54 42 rfl rfl rfl o22 o23 (fun c => ?_) (fun c => ?_)
  · have h := h.1 c
    exact lf_retV rfl rfl h
  · have h := h.2 c
    refine lf_seg 2 (pc' := 45) (lv' := [(0, .ref 1), (4, .int (Int32.ofInt x4))]) (st' := [.int (Int32.ofInt x4), .ref 1]) rfl ?_
    refine lf_callV 48 rfl rfl rfl rfl (gm_20 h) (fun s24 h => ?_)
    refine lf_iinc 51 rfl rfl rfl rfl ?_
    refine lf_seg 1 (pc' := 33) (lv' := [(4, .int (Int32.ofInt (x4 + 1))), (0, .ref 1)]) (st' := []) rfl ?_
    refine lf_sub (l := [(0, .ref 1), (4, .int (Int32.ofInt (x4 + 1)))]) (lf_sb1 rfl (lf_sb1 rfl lf_sb0)) ?_
    exact hX33 _ _ h
theorem gm_178_p33L {L : Nat} {xs : Nat → Int32} {d : Nat} {Q : lf_Z → Prop} {x4 : Int} {s : lf_Z} (h : fm_178_p33L Q x4 s) : lf_E (px_ro L xs) (d + 3) 178 33 [(0, .ref 1), (4, .int (Int32.ofInt x4))] [] s (lf_qv Q) :=
  h (fun x4 s => lf_E (px_ro L xs) (d + 3) 178 33 [(0, .ref 1), (4, .int (Int32.ofInt x4))] [] s (lf_qv Q)) (fun x4 s hb => gm_178_p33 (fun _ _ h => h) hb)
def fm_178 (a1 : Int) (a2 : Int) (a3 : Int) (Q : lf_Z → Prop) (s : lf_Z) : Prop := fm_2b (fun s21 => (fm_178_p33L Q 0 s21)) (lf_fl (lf_up (lf_up (lf_up s.1 1 0 a1) 1 1 a2) 1 2 a3) 12 12 0, s.2.1, s.2.2)
set_option maxRecDepth 100000 in
theorem gm_178 {L : Nat} {xs : Nat → Int32} {d : Nat} {a1 : Int} {a2 : Int} {a3 : Int} {Q : lf_Z → Prop} {s : lf_Z} (h : fm_178 a1 a2 a3 Q s) : lf_M (px_ro L xs) (d + 3) 178 [.ref 1, .int (Int32.ofInt a1), .int (Int32.ofInt a2), .int (Int32.ofInt a3)] s (lf_qv Q) := by
  unfold fm_178 at h
  show lf_E (px_ro L xs) (d + 3) 178 0 [(0, .ref 1), (1, .int (Int32.ofInt a1)), (2, .int (Int32.ofInt a2)), (3, .int (Int32.ofInt a3))] [] s _
  refine lf_seg 2 (pc' := 2) (lv' := [(0, .ref 1), (1, .int (Int32.ofInt a1)), (2, .int (Int32.ofInt a2)), (3, .int (Int32.ofInt a3))]) (st' := [.int (Int32.ofInt a1), .ref 1]) rfl ?_
  refine lf_putI 5 0 rfl rfl rfl rfl rfl rfl rfl rfl ?_
  refine lf_as (lf_up s.1 1 0 a1, s.2.1, s.2.2) rfl ?_
  refine lf_seg 2 (pc' := 7) (lv' := [(0, .ref 1), (1, .int (Int32.ofInt a1)), (2, .int (Int32.ofInt a2)), (3, .int (Int32.ofInt a3))]) (st' := [.int (Int32.ofInt a2), .ref 1]) rfl ?_
  refine lf_putI 10 1 rfl rfl rfl rfl rfl rfl rfl rfl ?_
  refine lf_as (lf_up (lf_up s.1 1 0 a1) 1 1 a2, s.2.1, s.2.2) rfl ?_
  refine lf_seg 2 (pc' := 12) (lv' := [(0, .ref 1), (1, .int (Int32.ofInt a1)), (2, .int (Int32.ofInt a2)), (3, .int (Int32.ofInt a3))]) (st' := [.int (Int32.ofInt a3), .ref 1]) rfl ?_
  refine lf_putI 15 2 rfl rfl rfl rfl rfl rfl rfl rfl ?_
  refine lf_as (lf_up (lf_up (lf_up s.1 1 0 a1) 1 1 a2) 1 2 a3, s.2.1, s.2.2) rfl ?_
  refine lf_seg 3 (pc' := 20) (lv' := [(0, .ref 1), (1, .int (Int32.ofInt a1)), (2, .int (Int32.ofInt a2)), (3, .int (Int32.ofInt a3))]) (st' := [.int (Int32.ofInt 0), .ref 12]) rfl ?_
  refine lf_callV (Q1 := fun s1 => s1 = (lf_fl (lf_up (lf_up (lf_up s.1 1 0 a1) 1 1 a2) 1 2 a3) 12 12 0, s.2.1, s.2.2)) 23 rfl rfl rfl rfl (lf_fill (m := 12) rfl rfl rfl rfl rfl rfl) (fun s1 hs1 => ?_)
  refine lf_as (lf_fl (lf_up (lf_up (lf_up s.1 1 0 a1) 1 1 a2) 1 2 a3) 12 12 0, s.2.1, s.2.2) hs1 ?_
  refine lf_seg 2 (pc' := 27) (lv' := [(0, .ref 1), (1, .int (Int32.ofInt a1)), (2, .int (Int32.ofInt a2)), (3, .int (Int32.ofInt a3))]) (st' := [.ref 13]) rfl ?_
  refine lf_callV 30 rfl rfl rfl rfl (gm_2b h) (fun s21 h => ?_)
  refine lf_seg 2 (pc' := 33) (lv' := [(4, .int (Int32.ofInt 0)), (0, .ref 1), (1, .int (Int32.ofInt a1)), (2, .int (Int32.ofInt a2)), (3, .int (Int32.ofInt a3))]) (st' := []) rfl ?_
  refine lf_sub (l := [(0, .ref 1), (4, .int (Int32.ofInt 0))]) (lf_sb1 rfl (lf_sb1 rfl lf_sb0)) ?_
  exact gm_178_p33L h
-- fm_174b Stand.likeOther 15 79
def fm_174b (Q : lf_Z → Prop) (s : lf_Z) : Prop := Q (lf_up (lf_up (lf_up (lf_cp (lf_cp (lf_cp (lf_cp (lf_cp (lf_cp s.1 80 16 0 0 4) 81 17 0 0 4) 82 18 0 0 4) 83 19 0 0 6) 84 20 0 0 6) 85 21 0 0 12) 15 6 ((lf_cp (lf_cp (lf_cp (lf_cp (lf_cp (lf_cp s.1 80 16 0 0 4) 81 17 0 0 4) 82 18 0 0 4) 83 19 0 0 6) 84 20 0 0 6) 85 21 0 0 12) 79 6)) 15 7 ((lf_cp (lf_cp (lf_cp (lf_cp (lf_cp (lf_cp s.1 80 16 0 0 4) 81 17 0 0 4) 82 18 0 0 4) 83 19 0 0 6) 84 20 0 0 6) 85 21 0 0 12) 79 7)) 15 8 ((lf_cp (lf_cp (lf_cp (lf_cp (lf_cp (lf_cp s.1 80 16 0 0 4) 81 17 0 0 4) 82 18 0 0 4) 83 19 0 0 6) 84 20 0 0 6) 85 21 0 0 12) 79 8), s.2.1, s.2.2)
set_option maxRecDepth 100000 in
theorem gm_174b {L : Nat} {xs : Nat → Int32} {d : Nat} {Q : lf_Z → Prop} {s : lf_Z} (h : fm_174b Q s) : lf_M (px_ro L xs) (d + 1) 174 [.ref 15, .ref 79] s (lf_qv Q) := by
  unfold fm_174b at h
  show lf_E (px_ro L xs) (d + 1) 174 0 [(0, .ref 15), (1, .ref 79)] [] s _
  refine lf_seg 6 (pc' := 10) (lv' := [(0, .ref 15), (1, .ref 79)]) (st' := [.int (Int32.ofInt 0), .ref 16, .int (Int32.ofInt 0), .ref 80]) rfl ?_
  refine lf_seg 1 (pc' := 11) (lv' := [(0, .ref 15), (1, .ref 79)]) (st' := [.int (Int32.ofInt 4), .int (Int32.ofInt 0), .ref 16, .int (Int32.ofInt 0), .ref 80]) rfl ?_
  refine lf_cpy 14 rfl rfl rfl rfl rfl rfl rfl rfl rfl rfl rfl rfl ⟨by decide, by decide, by decide, by decide, by decide⟩ ?_
  refine lf_as (lf_cp s.1 80 16 0 0 4, s.2.1, s.2.2) rfl ?_
  refine lf_seg 6 (pc' := 24) (lv' := [(0, .ref 15), (1, .ref 79)]) (st' := [.int (Int32.ofInt 0), .ref 17, .int (Int32.ofInt 0), .ref 81]) rfl ?_
  refine lf_seg 1 (pc' := 25) (lv' := [(0, .ref 15), (1, .ref 79)]) (st' := [.int (Int32.ofInt 4), .int (Int32.ofInt 0), .ref 17, .int (Int32.ofInt 0), .ref 81]) rfl ?_
  refine lf_cpy 28 rfl rfl rfl rfl rfl rfl rfl rfl rfl rfl rfl rfl ⟨by decide, by decide, by decide, by decide, by decide⟩ ?_
  refine lf_as (lf_cp (lf_cp s.1 80 16 0 0 4) 81 17 0 0 4, s.2.1, s.2.2) rfl ?_
  refine lf_seg 6 (pc' := 38) (lv' := [(0, .ref 15), (1, .ref 79)]) (st' := [.int (Int32.ofInt 0), .ref 18, .int (Int32.ofInt 0), .ref 82]) rfl ?_
  refine lf_seg 1 (pc' := 39) (lv' := [(0, .ref 15), (1, .ref 79)]) (st' := [.int (Int32.ofInt 4), .int (Int32.ofInt 0), .ref 18, .int (Int32.ofInt 0), .ref 82]) rfl ?_
  refine lf_cpy 42 rfl rfl rfl rfl rfl rfl rfl rfl rfl rfl rfl rfl ⟨by decide, by decide, by decide, by decide, by decide⟩ ?_
  refine lf_as (lf_cp (lf_cp (lf_cp s.1 80 16 0 0 4) 81 17 0 0 4) 82 18 0 0 4, s.2.1, s.2.2) rfl ?_
  refine lf_seg 6 (pc' := 52) (lv' := [(0, .ref 15), (1, .ref 79)]) (st' := [.int (Int32.ofInt 0), .ref 19, .int (Int32.ofInt 0), .ref 83]) rfl ?_
  refine lf_bipush 54 6 rfl rfl (by decide) (by decide) ?_
  refine lf_cpy 57 rfl rfl rfl rfl rfl rfl rfl rfl rfl rfl rfl rfl ⟨by decide, by decide, by decide, by decide, by decide⟩ ?_
  refine lf_as (lf_cp (lf_cp (lf_cp (lf_cp s.1 80 16 0 0 4) 81 17 0 0 4) 82 18 0 0 4) 83 19 0 0 6, s.2.1, s.2.2) rfl ?_
  refine lf_seg 6 (pc' := 67) (lv' := [(0, .ref 15), (1, .ref 79)]) (st' := [.int (Int32.ofInt 0), .ref 20, .int (Int32.ofInt 0), .ref 84]) rfl ?_
  refine lf_bipush 69 6 rfl rfl (by decide) (by decide) ?_
  refine lf_cpy 72 rfl rfl rfl rfl rfl rfl rfl rfl rfl rfl rfl rfl ⟨by decide, by decide, by decide, by decide, by decide⟩ ?_
  refine lf_as (lf_cp (lf_cp (lf_cp (lf_cp (lf_cp s.1 80 16 0 0 4) 81 17 0 0 4) 82 18 0 0 4) 83 19 0 0 6) 84 20 0 0 6, s.2.1, s.2.2) rfl ?_
  refine lf_seg 6 (pc' := 82) (lv' := [(0, .ref 15), (1, .ref 79)]) (st' := [.int (Int32.ofInt 0), .ref 21, .int (Int32.ofInt 0), .ref 85]) rfl ?_
  refine lf_bipush 84 12 rfl rfl (by decide) (by decide) ?_
  refine lf_cpy 87 rfl rfl rfl rfl rfl rfl rfl rfl rfl rfl rfl rfl ⟨by decide, by decide, by decide, by decide, by decide⟩ ?_
  refine lf_as (lf_cp (lf_cp (lf_cp (lf_cp (lf_cp (lf_cp s.1 80 16 0 0 4) 81 17 0 0 4) 82 18 0 0 4) 83 19 0 0 6) 84 20 0 0 6) 85 21 0 0 12, s.2.1, s.2.2) rfl ?_
  refine lf_seg 2 (pc' := 89) (lv' := [(0, .ref 15), (1, .ref 79)]) (st' := [.ref 79, .ref 15]) rfl ?_
  refine lf_getI 92 6 rfl rfl rfl rfl rfl rfl rfl ?_
  refine lf_putI 95 6 rfl rfl rfl rfl rfl rfl rfl rfl ?_
  refine lf_as (lf_up (lf_cp (lf_cp (lf_cp (lf_cp (lf_cp (lf_cp s.1 80 16 0 0 4) 81 17 0 0 4) 82 18 0 0 4) 83 19 0 0 6) 84 20 0 0 6) 85 21 0 0 12) 15 6 ((lf_cp (lf_cp (lf_cp (lf_cp (lf_cp (lf_cp s.1 80 16 0 0 4) 81 17 0 0 4) 82 18 0 0 4) 83 19 0 0 6) 84 20 0 0 6) 85 21 0 0 12) 79 6), s.2.1, s.2.2) rfl ?_
  refine lf_seg 2 (pc' := 97) (lv' := [(0, .ref 15), (1, .ref 79)]) (st' := [.ref 79, .ref 15]) rfl ?_
  refine lf_getI 100 7 rfl rfl rfl rfl rfl rfl rfl ?_
  refine lf_seg 0 (pc' := 100) (lv' := [(0, .ref 15), (1, .ref 79)]) (st' := [.int (Int32.ofInt ((lf_cp (lf_cp (lf_cp (lf_cp (lf_cp (lf_cp s.1 80 16 0 0 4) 81 17 0 0 4) 82 18 0 0 4) 83 19 0 0 6) 84 20 0 0 6) 85 21 0 0 12) 79 7)), .ref 15]) rfl ?_
  refine lf_putI 103 7 rfl rfl rfl rfl rfl rfl rfl rfl ?_
  refine lf_as (lf_up (lf_up (lf_cp (lf_cp (lf_cp (lf_cp (lf_cp (lf_cp s.1 80 16 0 0 4) 81 17 0 0 4) 82 18 0 0 4) 83 19 0 0 6) 84 20 0 0 6) 85 21 0 0 12) 15 6 ((lf_cp (lf_cp (lf_cp (lf_cp (lf_cp (lf_cp s.1 80 16 0 0 4) 81 17 0 0 4) 82 18 0 0 4) 83 19 0 0 6) 84 20 0 0 6) 85 21 0 0 12) 79 6)) 15 7 ((lf_cp (lf_cp (lf_cp (lf_cp (lf_cp (lf_cp s.1 80 16 0 0 4) 81 17 0 0 4) 82 18 0 0 4) 83 19 0 0 6) 84 20 0 0 6) 85 21 0 0 12) 79 7), s.2.1, s.2.2) rfl ?_
  refine lf_seg 2 (pc' := 105) (lv' := [(0, .ref 15), (1, .ref 79)]) (st' := [.ref 79, .ref 15]) rfl ?_
  refine lf_getI 108 8 rfl rfl rfl rfl rfl rfl rfl ?_
  refine lf_seg 0 (pc' := 108) (lv' := [(0, .ref 15), (1, .ref 79)]) (st' := [.int (Int32.ofInt ((lf_cp (lf_cp (lf_cp (lf_cp (lf_cp (lf_cp s.1 80 16 0 0 4) 81 17 0 0 4) 82 18 0 0 4) 83 19 0 0 6) 84 20 0 0 6) 85 21 0 0 12) 79 8)), .ref 15]) rfl ?_
  refine lf_putI 111 8 rfl rfl rfl rfl rfl rfl rfl rfl ?_
  refine lf_as (lf_up (lf_up (lf_up (lf_cp (lf_cp (lf_cp (lf_cp (lf_cp (lf_cp s.1 80 16 0 0 4) 81 17 0 0 4) 82 18 0 0 4) 83 19 0 0 6) 84 20 0 0 6) 85 21 0 0 12) 15 6 ((lf_cp (lf_cp (lf_cp (lf_cp (lf_cp (lf_cp s.1 80 16 0 0 4) 81 17 0 0 4) 82 18 0 0 4) 83 19 0 0 6) 84 20 0 0 6) 85 21 0 0 12) 79 6)) 15 7 ((lf_cp (lf_cp (lf_cp (lf_cp (lf_cp (lf_cp s.1 80 16 0 0 4) 81 17 0 0 4) 82 18 0 0 4) 83 19 0 0 6) 84 20 0 0 6) 85 21 0 0 12) 79 7)) 15 8 ((lf_cp (lf_cp (lf_cp (lf_cp (lf_cp (lf_cp s.1 80 16 0 0 4) 81 17 0 0 4) 82 18 0 0 4) 83 19 0 0 6) 84 20 0 0 6) 85 21 0 0 12) 79 8), s.2.1, s.2.2) rfl ?_
  exact lf_retV rfl rfl h
-- fm_175b Steps.likeOther 22 86
def fm_175b (Q : lf_Z → Prop) (s : lf_Z) : Prop := Q (lf_up (lf_up (lf_cp (lf_cp s.1 87 23 0 0 1170) 88 24 0 0 30) 22 2 ((lf_cp (lf_cp s.1 87 23 0 0 1170) 88 24 0 0 30) 86 2)) 22 3 ((lf_cp (lf_cp s.1 87 23 0 0 1170) 88 24 0 0 30) 86 3), s.2.1, s.2.2)
set_option maxRecDepth 100000 in
theorem gm_175b {L : Nat} {xs : Nat → Int32} {d : Nat} {Q : lf_Z → Prop} {s : lf_Z} (h : fm_175b Q s) : lf_M (px_ro L xs) (d + 1) 175 [.ref 22, .ref 86] s (lf_qv Q) := by
  unfold fm_175b at h
  show lf_E (px_ro L xs) (d + 1) 175 0 [(0, .ref 22), (1, .ref 86)] [] s _
  refine lf_seg 6 (pc' := 10) (lv' := [(0, .ref 22), (1, .ref 86)]) (st' := [.int (Int32.ofInt 0), .ref 23, .int (Int32.ofInt 0), .ref 87]) rfl ?_
  refine lf_seg 2 (pc' := 14) (lv' := [(0, .ref 22), (1, .ref 86)]) (st' := [.ref 23, .int (Int32.ofInt 0), .ref 23, .int (Int32.ofInt 0), .ref 87]) rfl ?_
  refine lf_len 15 1170 rfl rfl rfl rfl rfl rfl ?_
  refine lf_cpy 18 rfl rfl rfl rfl rfl rfl rfl rfl rfl rfl rfl rfl ⟨by decide, by decide, by decide, by decide, by decide⟩ ?_
  refine lf_as (lf_cp s.1 87 23 0 0 1170, s.2.1, s.2.2) rfl ?_
  refine lf_seg 6 (pc' := 28) (lv' := [(0, .ref 22), (1, .ref 86)]) (st' := [.int (Int32.ofInt 0), .ref 24, .int (Int32.ofInt 0), .ref 88]) rfl ?_
  refine lf_bipush 30 30 rfl rfl (by decide) (by decide) ?_
  refine lf_cpy 33 rfl rfl rfl rfl rfl rfl rfl rfl rfl rfl rfl rfl ⟨by decide, by decide, by decide, by decide, by decide⟩ ?_
  refine lf_as (lf_cp (lf_cp s.1 87 23 0 0 1170) 88 24 0 0 30, s.2.1, s.2.2) rfl ?_
  refine lf_seg 2 (pc' := 35) (lv' := [(0, .ref 22), (1, .ref 86)]) (st' := [.ref 86, .ref 22]) rfl ?_
  refine lf_getI 38 2 rfl rfl rfl rfl rfl rfl rfl ?_
  refine lf_putI 41 2 rfl rfl rfl rfl rfl rfl rfl rfl ?_
  refine lf_as (lf_up (lf_cp (lf_cp s.1 87 23 0 0 1170) 88 24 0 0 30) 22 2 ((lf_cp (lf_cp s.1 87 23 0 0 1170) 88 24 0 0 30) 86 2), s.2.1, s.2.2) rfl ?_
  refine lf_seg 2 (pc' := 43) (lv' := [(0, .ref 22), (1, .ref 86)]) (st' := [.ref 86, .ref 22]) rfl ?_
  refine lf_getI 46 3 rfl rfl rfl rfl rfl rfl rfl ?_
  refine lf_seg 0 (pc' := 46) (lv' := [(0, .ref 22), (1, .ref 86)]) (st' := [.int (Int32.ofInt ((lf_cp (lf_cp s.1 87 23 0 0 1170) 88 24 0 0 30) 86 3)), .ref 22]) rfl ?_
  refine lf_putI 49 3 rfl rfl rfl rfl rfl rfl rfl rfl ?_
  refine lf_as (lf_up (lf_up (lf_cp (lf_cp s.1 87 23 0 0 1170) 88 24 0 0 30) 22 2 ((lf_cp (lf_cp s.1 87 23 0 0 1170) 88 24 0 0 30) 86 2)) 22 3 ((lf_cp (lf_cp s.1 87 23 0 0 1170) 88 24 0 0 30) 86 3), s.2.1, s.2.2) rfl ?_
  exact lf_retV rfl rfl h
-- fm_176b Notes.likeOther 25 89
def fm_176b (Q : lf_Z → Prop) (s : lf_Z) : Prop := Q (lf_up (lf_cp (lf_cp (lf_cp (lf_cp (lf_cp s.1 90 26 0 0 6) 91 27 0 0 6) 92 28 0 0 16) 93 29 0 0 4) 94 30 0 0 4) 25 2 ((lf_cp (lf_cp (lf_cp (lf_cp (lf_cp s.1 90 26 0 0 6) 91 27 0 0 6) 92 28 0 0 16) 93 29 0 0 4) 94 30 0 0 4) 89 2), s.2.1, s.2.2)
set_option maxRecDepth 100000 in
theorem gm_176b {L : Nat} {xs : Nat → Int32} {d : Nat} {Q : lf_Z → Prop} {s : lf_Z} (h : fm_176b Q s) : lf_M (px_ro L xs) (d + 1) 176 [.ref 25, .ref 89] s (lf_qv Q) := by
  unfold fm_176b at h
  show lf_E (px_ro L xs) (d + 1) 176 0 [(0, .ref 25), (1, .ref 89)] [] s _
  refine lf_seg 6 (pc' := 10) (lv' := [(0, .ref 25), (1, .ref 89)]) (st' := [.int (Int32.ofInt 0), .ref 26, .int (Int32.ofInt 0), .ref 90]) rfl ?_
  refine lf_bipush 12 6 rfl rfl (by decide) (by decide) ?_
  refine lf_cpy 15 rfl rfl rfl rfl rfl rfl rfl rfl rfl rfl rfl rfl ⟨by decide, by decide, by decide, by decide, by decide⟩ ?_
  refine lf_as (lf_cp s.1 90 26 0 0 6, s.2.1, s.2.2) rfl ?_
  refine lf_seg 6 (pc' := 25) (lv' := [(0, .ref 25), (1, .ref 89)]) (st' := [.int (Int32.ofInt 0), .ref 27, .int (Int32.ofInt 0), .ref 91]) rfl ?_
  refine lf_bipush 27 6 rfl rfl (by decide) (by decide) ?_
  refine lf_cpy 30 rfl rfl rfl rfl rfl rfl rfl rfl rfl rfl rfl rfl ⟨by decide, by decide, by decide, by decide, by decide⟩ ?_
  refine lf_as (lf_cp (lf_cp s.1 90 26 0 0 6) 91 27 0 0 6, s.2.1, s.2.2) rfl ?_
  refine lf_seg 6 (pc' := 40) (lv' := [(0, .ref 25), (1, .ref 89)]) (st' := [.int (Int32.ofInt 0), .ref 28, .int (Int32.ofInt 0), .ref 92]) rfl ?_
  refine lf_bipush 42 16 rfl rfl (by decide) (by decide) ?_
  refine lf_cpy 45 rfl rfl rfl rfl rfl rfl rfl rfl rfl rfl rfl rfl ⟨by decide, by decide, by decide, by decide, by decide⟩ ?_
  refine lf_as (lf_cp (lf_cp (lf_cp s.1 90 26 0 0 6) 91 27 0 0 6) 92 28 0 0 16, s.2.1, s.2.2) rfl ?_
  refine lf_seg 6 (pc' := 55) (lv' := [(0, .ref 25), (1, .ref 89)]) (st' := [.int (Int32.ofInt 0), .ref 29, .int (Int32.ofInt 0), .ref 93]) rfl ?_
  refine lf_seg 1 (pc' := 56) (lv' := [(0, .ref 25), (1, .ref 89)]) (st' := [.int (Int32.ofInt 4), .int (Int32.ofInt 0), .ref 29, .int (Int32.ofInt 0), .ref 93]) rfl ?_
  refine lf_cpy 59 rfl rfl rfl rfl rfl rfl rfl rfl rfl rfl rfl rfl ⟨by decide, by decide, by decide, by decide, by decide⟩ ?_
  refine lf_as (lf_cp (lf_cp (lf_cp (lf_cp s.1 90 26 0 0 6) 91 27 0 0 6) 92 28 0 0 16) 93 29 0 0 4, s.2.1, s.2.2) rfl ?_
  refine lf_seg 6 (pc' := 69) (lv' := [(0, .ref 25), (1, .ref 89)]) (st' := [.int (Int32.ofInt 0), .ref 30, .int (Int32.ofInt 0), .ref 94]) rfl ?_
  refine lf_seg 1 (pc' := 70) (lv' := [(0, .ref 25), (1, .ref 89)]) (st' := [.int (Int32.ofInt 4), .int (Int32.ofInt 0), .ref 30, .int (Int32.ofInt 0), .ref 94]) rfl ?_
  refine lf_cpy 73 rfl rfl rfl rfl rfl rfl rfl rfl rfl rfl rfl rfl ⟨by decide, by decide, by decide, by decide, by decide⟩ ?_
  refine lf_as (lf_cp (lf_cp (lf_cp (lf_cp (lf_cp s.1 90 26 0 0 6) 91 27 0 0 6) 92 28 0 0 16) 93 29 0 0 4) 94 30 0 0 4, s.2.1, s.2.2) rfl ?_
  refine lf_seg 2 (pc' := 75) (lv' := [(0, .ref 25), (1, .ref 89)]) (st' := [.ref 89, .ref 25]) rfl ?_
  refine lf_getI 78 2 rfl rfl rfl rfl rfl rfl rfl ?_
  refine lf_putI 81 2 rfl rfl rfl rfl rfl rfl rfl rfl ?_
  refine lf_as (lf_up (lf_cp (lf_cp (lf_cp (lf_cp (lf_cp s.1 90 26 0 0 6) 91 27 0 0 6) 92 28 0 0 16) 93 29 0 0 4) 94 30 0 0 4) 25 2 ((lf_cp (lf_cp (lf_cp (lf_cp (lf_cp s.1 90 26 0 0 6) 91 27 0 0 6) 92 28 0 0 16) 93 29 0 0 4) 94 30 0 0 4) 89 2), s.2.1, s.2.2) rfl ?_
  exact lf_retV rfl rfl h
-- fm_177 ElevenBullocks.back 0
def fm_177 (Q : Int → lf_Z → Prop) (s : lf_Z) : Prop := fm_178 (s.1 78 0) (s.1 78 1) (s.1 78 2) (fun s21 => (fm_61 (s21.1 78 4) (fun s22 => (fm_174b (fun s23 => (fm_175b (fun s24 => (fm_176b (fun s25 => (Q (s25.1 15 7) s25)) s24)) s23)) s22)) (lf_up s21.1 0 11 (s21.1 78 3), s21.2.1, s21.2.2))) s
set_option maxRecDepth 100000 in
theorem gm_177 {L : Nat} {xs : Nat → Int32} {d : Nat} {Q : Int → lf_Z → Prop} {s : lf_Z} (h : fm_177 Q s) : lf_M (px_ro L xs) (d + 4) 177 [.ref 0] s (lf_qi Q) := by
  unfold fm_177 at h
  show lf_E (px_ro L xs) (d + 4) 177 0 [(0, .ref 0)] [] s _
  refine lf_seg 4 (pc' := 8) (lv' := [(0, .ref 0)]) (st' := [.ref 78, .ref 1]) rfl ?_
  refine lf_getI 11 0 rfl rfl rfl rfl rfl rfl rfl ?_
  refine lf_seg 2 (pc' := 15) (lv' := [(0, .ref 0)]) (st' := [.ref 78, .int (Int32.ofInt (s.1 78 0)), .ref 1]) rfl ?_
  refine lf_getI 18 1 rfl rfl rfl rfl rfl rfl rfl ?_
  refine lf_seg 2 (pc' := 22) (lv' := [(0, .ref 0)]) (st' := [.ref 78, .int (Int32.ofInt (s.1 78 1)), .int (Int32.ofInt (s.1 78 0)), .ref 1]) rfl ?_
  refine lf_getI 25 2 rfl rfl rfl rfl rfl rfl rfl ?_
  refine lf_callV 28 rfl rfl rfl rfl (gm_178 h) (fun s21 h => ?_)
  refine lf_seg 3 (pc' := 33) (lv' := [(0, .ref 0)]) (st' := [.ref 78, .ref 0]) rfl ?_
  refine lf_getI 36 3 rfl rfl rfl rfl rfl rfl rfl ?_
  refine lf_putI 39 11 rfl rfl rfl rfl rfl rfl rfl rfl ?_
  refine lf_as (lf_up s21.1 0 11 (s21.1 78 3), s21.2.1, s21.2.2) rfl ?_
  refine lf_seg 3 (pc' := 44) (lv' := [(0, .ref 0)]) (st' := [.ref 78, .ref 0]) rfl ?_
  refine lf_getI 47 4 rfl rfl rfl rfl rfl rfl rfl ?_
  refine lf_seg 0 (pc' := 47) (lv' := [(0, .ref 0)]) (st' := [.int (Int32.ofInt (s21.1 78 4)), .ref 0]) rfl ?_
  refine lf_callV 50 rfl rfl rfl rfl (gm_61 h) (fun s22 h => ?_)
  refine lf_seg 5 (pc' := 61) (lv' := [(0, .ref 0)]) (st' := [.ref 79, .ref 15]) rfl ?_
  refine lf_callV 64 rfl rfl rfl rfl (gm_174b h) (fun s23 h => ?_)
  refine lf_seg 5 (pc' := 75) (lv' := [(0, .ref 0)]) (st' := [.ref 86, .ref 22]) rfl ?_
  refine lf_callV 78 rfl rfl rfl rfl (gm_175b h) (fun s24 h => ?_)
  refine lf_seg 5 (pc' := 89) (lv' := [(0, .ref 0)]) (st' := [.ref 89, .ref 25]) rfl ?_
  refine lf_callV 92 rfl rfl rfl rfl (gm_176b h) (fun s25 h => ?_)
  refine lf_seg 2 (pc' := 96) (lv' := [(0, .ref 0)]) (st' := [.ref 15]) rfl ?_
  refine lf_getI 99 7 rfl rfl rfl rfl rfl rfl rfl ?_
  exact lf_retI rfl rfl h
-- fm_181b Model.copy 97 96
def fm_181b_p2 (Q : lf_Z → Prop) (X2 : Int → lf_Z → Prop) (x2 : Int) (s : lf_Z) : Prop := lf_R x2 ∧ ((1538 ≤ x2 → (Q s)) ∧ (¬ (1538 ≤ x2) → ((0 ≤ x2 ∧ x2 < 1538) ∧ (X2 (x2 + 1) (lf_up s.1 96 x2 (s.1 97 x2), s.2.1, s.2.2)))))
def fm_181b_p2L (Q : lf_Z → Prop) (x2 : Int) (s : lf_Z) : Prop := ∀ X2 : Int → lf_Z → Prop, (∀ (x2 : Int) (s : lf_Z), fm_181b_p2 Q X2 x2 s → X2 x2 s) → X2 x2 s
set_option maxRecDepth 100000 in
theorem gm_181b_p2 {L : Nat} {xs : Nat → Int32} {d : Nat} {Q : lf_Z → Prop} {x2 : Int} {s : lf_Z} {X2 : Int → lf_Z → Prop} (hX2 : ∀ x2 s, X2 x2 s → lf_E (px_ro L xs) (d + 1) 181 2 [(0, .ref 97), (1, .ref 96), (2, .int (Int32.ofInt x2))] [] s (lf_qv Q)) (h : fm_181b_p2 Q X2 x2 s) : lf_E (px_ro L xs) (d + 1) 181 2 [(0, .ref 97), (1, .ref 96), (2, .int (Int32.ofInt x2))] [] s (lf_qv Q) := by
  unfold fm_181b_p2 at h
  refine lf_seg 1 (pc' := 3) (lv' := [(0, .ref 97), (1, .ref 96), (2, .int (Int32.ofInt x2))]) (st' := [.int (Int32.ofInt x2)]) rfl ?_
  refine lf_sipush 6 1538 rfl rfl (by decide) (by decide) ?_
  obtain ⟨o21, h⟩ := h
  refine lf_icmp_ge 21 9 rfl rfl rfl o21 ⟨by decide, by decide⟩ (fun c => ?_) (fun c => ?_)
  · have h := h.1 c
    exact lf_retV rfl rfl h
  · have h := h.2 c
    refine lf_seg 4 (pc' := 13) (lv' := [(0, .ref 97), (1, .ref 96), (2, .int (Int32.ofInt x2))]) (st' := [.int (Int32.ofInt x2), .ref 97, .int (Int32.ofInt x2), .ref 96]) rfl ?_
    obtain ⟨o22, h⟩ := h
    refine lf_iald 14 1538 rfl rfl rfl rfl rfl rfl o22 ?_
    refine lf_iast 15 1538 rfl rfl rfl rfl rfl rfl o22 ?_
    refine lf_as (lf_up s.1 96 x2 (s.1 97 x2), s.2.1, s.2.2) rfl ?_
    refine lf_iinc 18 rfl rfl rfl rfl ?_
    refine lf_seg 1 (pc' := 2) (lv' := [(2, .int (Int32.ofInt (x2 + 1))), (0, .ref 97), (1, .ref 96)]) (st' := []) rfl ?_
    refine lf_sub (l := [(0, .ref 97), (1, .ref 96), (2, .int (Int32.ofInt (x2 + 1)))]) (lf_sb1 rfl (lf_sb1 rfl (lf_sb1 rfl lf_sb0))) ?_
    exact hX2 _ _ h
theorem gm_181b_p2L {L : Nat} {xs : Nat → Int32} {d : Nat} {Q : lf_Z → Prop} {x2 : Int} {s : lf_Z} (h : fm_181b_p2L Q x2 s) : lf_E (px_ro L xs) (d + 1) 181 2 [(0, .ref 97), (1, .ref 96), (2, .int (Int32.ofInt x2))] [] s (lf_qv Q) :=
  h (fun x2 s => lf_E (px_ro L xs) (d + 1) 181 2 [(0, .ref 97), (1, .ref 96), (2, .int (Int32.ofInt x2))] [] s (lf_qv Q)) (fun x2 s hb => gm_181b_p2 (fun _ _ h => h) hb)
def fm_181b (Q : lf_Z → Prop) (s : lf_Z) : Prop := fm_181b_p2L Q 0 s
set_option maxRecDepth 100000 in
theorem gm_181b {L : Nat} {xs : Nat → Int32} {d : Nat} {Q : lf_Z → Prop} {s : lf_Z} (h : fm_181b Q s) : lf_M (px_ro L xs) (d + 1) 181 [.ref 97, .ref 96] s (lf_qv Q) := by
  unfold fm_181b at h
  show lf_E (px_ro L xs) (d + 1) 181 0 [(0, .ref 97), (1, .ref 96)] [] s _
  refine lf_seg 2 (pc' := 2) (lv' := [(2, .int (Int32.ofInt 0)), (0, .ref 97), (1, .ref 96)]) (st' := []) rfl ?_
  refine lf_sub (l := [(0, .ref 97), (1, .ref 96), (2, .int (Int32.ofInt 0))]) (lf_sb1 rfl (lf_sb1 rfl (lf_sb1 rfl lf_sb0))) ?_
  exact gm_181b_p2L h
-- fm_326 Model.back 95
def fm_326 (Q : Int → lf_Z → Prop) (s : lf_Z) : Prop := fm_181b (fun s21 => (Q (s21.1 96 3) s21)) s
set_option maxRecDepth 100000 in
theorem gm_326 {L : Nat} {xs : Nat → Int32} {d : Nat} {Q : Int → lf_Z → Prop} {s : lf_Z} (h : fm_326 Q s) : lf_M (px_ro L xs) (d + 2) 326 [.ref 95] s (lf_qi Q) := by
  unfold fm_326 at h
  show lf_E (px_ro L xs) (d + 2) 326 0 [(0, .ref 95)] [] s _
  refine lf_seg 4 (pc' := 8) (lv' := [(0, .ref 95)]) (st' := [.ref 96, .ref 97]) rfl ?_
  refine lf_callV 11 rfl rfl rfl rfl (gm_181b h) (fun s21 h => ?_)
  refine lf_seg 3 (pc' := 16) (lv' := [(0, .ref 95)]) (st' := [.int (Int32.ofInt 3), .ref 96]) rfl ?_
  refine lf_iald 17 1538 rfl rfl rfl rfl rfl rfl ⟨by decide, by decide⟩ ?_
  exact lf_retI rfl rfl h
-- fm_179 ElevenBullocks.about 0 i
def fm_179 (a1 : Int) (Q : Int → lf_Z → Prop) (s : lf_Z) : Prop := lf_R a1 ∧ ((a1 < 0 ∨ 12 < a1 → (Q (-2) s)) ∧ (a1 = 0 → (Q (s.1 1 0) s)) ∧ (a1 = 1 → (Q (s.1 1 1) s)) ∧ (a1 = 2 → (Q (s.1 1 2) s)) ∧ (a1 = 3 → (Q (s.1 15 7) s)) ∧ (a1 = 4 → (fm_64 (fun r23 s22 => (Q r23 s22)) s)) ∧ (a1 = 5 → (fm_97 (fun r25 s24 => (Q r25 s24)) s)) ∧ (a1 = 6 → (Q (s.1 15 8) s)) ∧ (a1 = 7 → (Q (s.1 0 11) s)) ∧ (a1 = 8 → (Q (s.1 0 12) s)) ∧ (a1 = 9 → (Q (s.1 22 3) s)) ∧ (a1 = 10 → (Q (s.1 25 2) s)) ∧ (a1 = 11 → (fm_168 (fun r27 s26 => (Q r27 s26)) s)) ∧ (a1 = 12 → (Q (s.1 31 1) s)))
set_option maxRecDepth 100000 in
theorem gm_179 {L : Nat} {xs : Nat → Int32} {d : Nat} {a1 : Int} {Q : Int → lf_Z → Prop} {s : lf_Z} (h : fm_179 a1 Q s) : lf_M (px_ro L xs) (d + 3) 179 [.ref 0, .int (Int32.ofInt a1)] s (lf_qi Q) := by
  unfold fm_179 at h
  show lf_E (px_ro L xs) (d + 3) 179 0 [(0, .ref 0), (1, .int (Int32.ofInt a1))] [] s _
  refine lf_seg 1 (pc' := 1) (lv' := [(0, .ref 0), (1, .int (Int32.ofInt a1))]) (st' := [.int (Int32.ofInt a1)]) rfl ?_
  obtain ⟨o21, h⟩ := h
  refine lf_tsw 166 [(0, 68), (1, 76), (2, 84), (3, 92), (4, 100), (5, 108), (6, 116), (7, 124), (8, 129), (9, 134), (10, 142), (11, 150), (12, 158)] rfl rfl rfl (by decide) o21 (fun c => ?_) (lf_tab1 (fun c => ?_) (lf_tab1 (fun c => ?_) (lf_tab1 (fun c => ?_) (lf_tab1 (fun c => ?_) (lf_tab1 (fun c => ?_) (lf_tab1 (fun c => ?_) (lf_tab1 (fun c => ?_) (lf_tab1 (fun c => ?_) (lf_tab1 (fun c => ?_) (lf_tab1 (fun c => ?_) (lf_tab1 (fun c => ?_) (lf_tab1 (fun c => ?_) (lf_tab1 (fun c => ?_) lf_tab0)))))))))))))
  · have h := h.1 c
    refine lf_bipush 168 (-2) rfl rfl (by decide) (by decide) ?_
    exact lf_retI rfl rfl h
  · have h := h.2.1 c
    refine lf_seg 2 (pc' := 72) (lv' := [(0, .ref 0), (1, .int (Int32.ofInt a1))]) (st' := [.ref 1]) rfl ?_
    refine lf_getI 75 0 rfl rfl rfl rfl rfl rfl rfl ?_
    exact lf_retI rfl rfl h
  · have h := h.2.2.1 c
    refine lf_seg 2 (pc' := 80) (lv' := [(0, .ref 0), (1, .int (Int32.ofInt a1))]) (st' := [.ref 1]) rfl ?_
    refine lf_getI 83 1 rfl rfl rfl rfl rfl rfl rfl ?_
    exact lf_retI rfl rfl h
  · have h := h.2.2.2.1 c
    refine lf_seg 2 (pc' := 88) (lv' := [(0, .ref 0), (1, .int (Int32.ofInt a1))]) (st' := [.ref 1]) rfl ?_
    refine lf_getI 91 2 rfl rfl rfl rfl rfl rfl rfl ?_
    exact lf_retI rfl rfl h
  · have h := h.2.2.2.2.1 c
    refine lf_seg 2 (pc' := 96) (lv' := [(0, .ref 0), (1, .int (Int32.ofInt a1))]) (st' := [.ref 15]) rfl ?_
    refine lf_getI 99 7 rfl rfl rfl rfl rfl rfl rfl ?_
    exact lf_retI rfl rfl h
  · have h := h.2.2.2.2.2.1 c
    refine lf_seg 2 (pc' := 104) (lv' := [(0, .ref 0), (1, .int (Int32.ofInt a1))]) (st' := [.ref 15]) rfl ?_
    refine lf_callI 107 rfl rfl rfl rfl (gm_64 h) (fun r23 s22 h => ?_)
    exact lf_retI rfl rfl h
  · have h := h.2.2.2.2.2.2.1 c
    refine lf_seg 2 (pc' := 112) (lv' := [(0, .ref 0), (1, .int (Int32.ofInt a1))]) (st' := [.ref 15]) rfl ?_
    refine lf_callI 115 rfl rfl rfl rfl (gm_97 h) (fun r25 s24 h => ?_)
    exact lf_retI rfl rfl h
  · have h := h.2.2.2.2.2.2.2.1 c
    refine lf_seg 2 (pc' := 120) (lv' := [(0, .ref 0), (1, .int (Int32.ofInt a1))]) (st' := [.ref 15]) rfl ?_
    refine lf_getI 123 8 rfl rfl rfl rfl rfl rfl rfl ?_
    exact lf_retI rfl rfl h
  · have h := h.2.2.2.2.2.2.2.2.1 c
    refine lf_seg 1 (pc' := 125) (lv' := [(0, .ref 0), (1, .int (Int32.ofInt a1))]) (st' := [.ref 0]) rfl ?_
    refine lf_getI 128 11 rfl rfl rfl rfl rfl rfl rfl ?_
    exact lf_retI rfl rfl h
  · have h := h.2.2.2.2.2.2.2.2.2.1 c
    refine lf_seg 1 (pc' := 130) (lv' := [(0, .ref 0), (1, .int (Int32.ofInt a1))]) (st' := [.ref 0]) rfl ?_
    refine lf_getI 133 12 rfl rfl rfl rfl rfl rfl rfl ?_
    exact lf_retI rfl rfl h
  · have h := h.2.2.2.2.2.2.2.2.2.2.1 c
    refine lf_seg 2 (pc' := 138) (lv' := [(0, .ref 0), (1, .int (Int32.ofInt a1))]) (st' := [.ref 22]) rfl ?_
    refine lf_getI 141 3 rfl rfl rfl rfl rfl rfl rfl ?_
    exact lf_retI rfl rfl h
  · have h := h.2.2.2.2.2.2.2.2.2.2.2.1 c
    refine lf_seg 2 (pc' := 146) (lv' := [(0, .ref 0), (1, .int (Int32.ofInt a1))]) (st' := [.ref 25]) rfl ?_
    refine lf_getI 149 2 rfl rfl rfl rfl rfl rfl rfl ?_
    exact lf_retI rfl rfl h
  · have h := h.2.2.2.2.2.2.2.2.2.2.2.2.1 c
    refine lf_seg 2 (pc' := 154) (lv' := [(0, .ref 0), (1, .int (Int32.ofInt a1))]) (st' := [.ref 25]) rfl ?_
    refine lf_callI 157 rfl rfl rfl rfl (gm_168 h) (fun r27 s26 h => ?_)
    exact lf_retI rfl rfl h
  · have h := h.2.2.2.2.2.2.2.2.2.2.2.2.2 c
    refine lf_seg 2 (pc' := 162) (lv' := [(0, .ref 0), (1, .int (Int32.ofInt a1))]) (st' := [.ref 31]) rfl ?_
    refine lf_getI 165 1 rfl rfl rfl rfl rfl rfl rfl ?_
    exact lf_retI rfl rfl h
-- fm_327 Model.about 95 i
def fm_327 (a1 : Int) (Q : Int → lf_Z → Prop) (s : lf_Z) : Prop := lf_R a1 ∧ ((a1 ≠ 4 → ((a1 ≠ 5 → (fm_183 a1 0 11 (fun z23 s22 => ((z23 = false → ((a1 ≠ 12 → (Q (-2) s22)) ∧ (¬ (a1 ≠ 12) → (Q (s22.1 95 4) s22)))) ∧ (z23 = true → ((0 ≤ a1 ∧ a1 < 1538) ∧ (Q (s22.1 96 a1) s22))))) s)) ∧ (¬ (a1 ≠ 5) → (fm_279 (fun r26 s25 => (Q r26 s25)) s)))) ∧ (¬ (a1 ≠ 4) → (fm_243 (fun r28 s27 => (Q r28 s27)) s)))
set_option maxRecDepth 100000 in
theorem gm_327 {L : Nat} {xs : Nat → Int32} {d : Nat} {a1 : Int} {Q : Int → lf_Z → Prop} {s : lf_Z} (h : fm_327 a1 Q s) : lf_M (px_ro L xs) (d + 3) 327 [.ref 95, .int (Int32.ofInt a1)] s (lf_qi Q) := by
  unfold fm_327 at h
  show lf_E (px_ro L xs) (d + 3) 327 0 [(0, .ref 95), (1, .int (Int32.ofInt a1))] [] s _
  refine lf_seg 2 (pc' := 2) (lv' := [(0, .ref 95), (1, .int (Int32.ofInt a1))]) (st' := [.int (Int32.ofInt 4), .int (Int32.ofInt a1)]) rfl ?_
  obtain ⟨o21, h⟩ := h
  refine lf_icmp_ne 10 5 rfl rfl rfl o21 ⟨by decide, by decide⟩ (fun c => ?_) (fun c => ?_)
  · have h := h.1 c
    refine lf_seg 2 (pc' := 12) (lv' := [(0, .ref 95), (1, .int (Int32.ofInt a1))]) (st' := [.int (Int32.ofInt 5), .int (Int32.ofInt a1)]) rfl ?_
    refine lf_icmp_ne 20 15 rfl rfl rfl o21 ⟨by decide, by decide⟩ (fun c => ?_) (fun c => ?_)
    · have h := h.1 c
      refine lf_seg 2 (pc' := 22) (lv' := [(0, .ref 95), (1, .int (Int32.ofInt a1))]) (st' := [.int (Int32.ofInt 0), .int (Int32.ofInt a1)]) rfl ?_
      refine lf_bipush 24 11 rfl rfl (by decide) (by decide) ?_
      refine lf_callZ 27 rfl rfl rfl rfl (gm_183 h) (fun z23 s22 h => ?_)
      refine lf_ifz_eq 39 30 rfl rfl rfl (fun c => ?_) (fun c => ?_)
      · have h := h.1 c
        refine lf_seg 1 (pc' := 40) (lv' := [(0, .ref 95), (1, .int (Int32.ofInt a1))]) (st' := [.int (Int32.ofInt a1)]) rfl ?_
        refine lf_bipush 42 12 rfl rfl (by decide) (by decide) ?_
        refine lf_icmp_ne 52 45 rfl rfl rfl o21 ⟨by decide, by decide⟩ (fun c => ?_) (fun c => ?_)
        · have h := h.1 c
          refine lf_bipush 54 (-2) rfl rfl (by decide) (by decide) ?_
          exact lf_retI rfl rfl h
        · have h := h.2 c
          refine lf_seg 1 (pc' := 46) (lv' := [(0, .ref 95), (1, .int (Int32.ofInt a1))]) (st' := [.ref 95]) rfl ?_
          refine lf_getI 49 4 rfl rfl rfl rfl rfl rfl rfl ?_
          refine lf_seg 1 (pc' := 54) (lv' := [(0, .ref 95), (1, .int (Int32.ofInt a1))]) (st' := [.int (Int32.ofInt (s22.1 95 4))]) rfl ?_
          exact lf_retI rfl rfl h
      · have h := h.2 c
        refine lf_seg 3 (pc' := 35) (lv' := [(0, .ref 95), (1, .int (Int32.ofInt a1))]) (st' := [.int (Int32.ofInt a1), .ref 96]) rfl ?_
        obtain ⟨o24, h⟩ := h
        refine lf_iald 36 1538 rfl rfl rfl rfl rfl rfl o24 ?_
        refine lf_seg 1 (pc' := 54) (lv' := [(0, .ref 95), (1, .int (Int32.ofInt a1))]) (st' := [.int (Int32.ofInt (s22.1 96 a1))]) rfl ?_
        exact lf_retI rfl rfl h
    · have h := h.2 c
      refine lf_seg 1 (pc' := 16) (lv' := [(0, .ref 95), (1, .int (Int32.ofInt a1))]) (st' := [.ref 95]) rfl ?_
      refine lf_callI 19 rfl rfl rfl rfl (gm_279 h) (fun r26 s25 h => ?_)
      exact lf_retI rfl rfl h
  · have h := h.2 c
    refine lf_seg 1 (pc' := 6) (lv' := [(0, .ref 95), (1, .int (Int32.ofInt a1))]) (st' := [.ref 95]) rfl ?_
    refine lf_callI 9 rfl rfl rfl rfl (gm_243 h) (fun r28 s27 h => ?_)
    exact lf_retI rfl rfl h
theorem iv_f3e1fa21c {i : Int} (e : i = 0) : 0 ≤ (iv_a i).1 ∧ (iv_a i).2 ≤ 12 := by
  subst e
  decide +kernel
theorem iv_f9ef4f91d {i : Int} (x0 : Int) (e : i = 14 + 3 * x0) (h0 : 0 ≤ x0 ∧ x0 ≤ 11) : (iv_a i).1 ≤ 0 ∧ 3 ≤ (iv_a i).2 := by
  have k : ∀ n0 : Nat, n0 < 12 → (iv_a (14 + 3 * (0 + (n0 : Int)))).1 ≤ 0 ∧ 3 ≤ (iv_a (14 + 3 * (0 + (n0 : Int)))).2 := by decide +kernel
  rw [e, show x0 = 0 + ((x0 - 0).toNat : Int) by omega]
  exact k _ (by omega)
theorem iv_f509b3304 {i : Int} (x0 : Int) (e : i = 15 + 3 * x0) (h0 : 0 ≤ x0 ∧ x0 ≤ 11) : (iv_a i).1 ≤ 0 ∧ 99 ≤ (iv_a i).2 := by
  have k : ∀ n0 : Nat, n0 < 12 → (iv_a (15 + 3 * (0 + (n0 : Int)))).1 ≤ 0 ∧ 99 ≤ (iv_a (15 + 3 * (0 + (n0 : Int)))).2 := by decide +kernel
  rw [e, show x0 = 0 + ((x0 - 0).toNat : Int) by omega]
  exact k _ (by omega)
theorem iv_f06618364 {i : Int} (x0 : Int) (e : i = 16 + 3 * x0) (h0 : 0 ≤ x0 ∧ x0 ≤ 11) : (iv_a i).1 ≤ (-2147483648) ∧ 2147483647 ≤ (iv_a i).2 := by
  have k : ∀ n0 : Nat, n0 < 12 → (iv_a (16 + 3 * (0 + (n0 : Int)))).1 ≤ (-2147483648) ∧ 2147483647 ≤ (iv_a (16 + 3 * (0 + (n0 : Int)))).2 := by decide +kernel
  rw [e, show x0 = 0 + ((x0 - 0).toNat : Int) by omega]
  exact k _ (by omega)
theorem iv_fa511c528 {i : Int} (e : i = 0) : (iv_a i).1 ≤ 0 ∧ 12 ≤ (iv_a i).2 := by
  subst e
  decide +kernel
theorem iv_fd6ad3e54 {i : Int} (e : i = 1) : 0 ≤ (iv_a i).1 ∧ (iv_a i).2 ≤ 16 := by
  subst e
  decide +kernel
theorem iv_f76190a29 {i : Int} (x0 : Int) (e : i = 50 + 4 * x0) (h0 : 0 ≤ x0 ∧ x0 ≤ 15) : 0 ≤ (iv_a i).1 ∧ (iv_a i).2 ≤ 11 := by
  have k : ∀ n0 : Nat, n0 < 16 → 0 ≤ (iv_a (50 + 4 * (0 + (n0 : Int)))).1 ∧ (iv_a (50 + 4 * (0 + (n0 : Int)))).2 ≤ 11 := by decide +kernel
  rw [e, show x0 = 0 + ((x0 - 0).toNat : Int) by omega]
  exact k _ (by omega)
theorem iv_fba8b7512 {i : Int} (x0 : Int) (e : i = 51 + 4 * x0) (h0 : 0 ≤ x0 ∧ x0 ≤ 15) : 0 ≤ (iv_a i).1 ∧ (iv_a i).2 ≤ 11 := by
  have k : ∀ n0 : Nat, n0 < 16 → 0 ≤ (iv_a (51 + 4 * (0 + (n0 : Int)))).1 ∧ (iv_a (51 + 4 * (0 + (n0 : Int)))).2 ≤ 11 := by decide +kernel
  rw [e, show x0 = 0 + ((x0 - 0).toNat : Int) by omega]
  exact k _ (by omega)
theorem iv_f1bf78659 {i : Int} (x0 : Int) (e : i = 50 + 4 * x0) (h0 : 0 ≤ x0 ∧ x0 ≤ 15) : (iv_a i).1 ≤ 0 ∧ 11 ≤ (iv_a i).2 := by
  have k : ∀ n0 : Nat, n0 < 16 → (iv_a (50 + 4 * (0 + (n0 : Int)))).1 ≤ 0 ∧ 11 ≤ (iv_a (50 + 4 * (0 + (n0 : Int)))).2 := by decide +kernel
  rw [e, show x0 = 0 + ((x0 - 0).toNat : Int) by omega]
  exact k _ (by omega)
theorem iv_f22fa496a {i : Int} (x0 : Int) (e : i = 51 + 4 * x0) (h0 : 0 ≤ x0 ∧ x0 ≤ 15) : (iv_a i).1 ≤ 0 ∧ 11 ≤ (iv_a i).2 := by
  have k : ∀ n0 : Nat, n0 < 16 → (iv_a (51 + 4 * (0 + (n0 : Int)))).1 ≤ 0 ∧ 11 ≤ (iv_a (51 + 4 * (0 + (n0 : Int)))).2 := by decide +kernel
  rw [e, show x0 = 0 + ((x0 - 0).toNat : Int) by omega]
  exact k _ (by omega)
theorem iv_fb705ee40 {i : Int} (x0 : Int) (e : i = 0 + 1 * x0) (h0 : 52 ≤ x0 ∧ x0 ≤ 112) : (iv_a i).1 ≤ 0 ∧ 11 ≤ (iv_a i).2 := by
  have k : ∀ n0 : Nat, n0 < 61 → (iv_a (0 + 1 * (52 + (n0 : Int)))).1 ≤ 0 ∧ 11 ≤ (iv_a (0 + 1 * (52 + (n0 : Int)))).2 := by decide +kernel
  rw [e, show x0 = 52 + ((x0 - 52).toNat : Int) by omega]
  exact k _ (by omega)
theorem iv_fb613c05e {i : Int} (x0 : Int) (e : i = 3 + 1 * x0) (h0 : 50 ≤ x0 ∧ x0 ≤ 110) : (iv_a i).1 ≤ 0 ∧ 11 ≤ (iv_a i).2 := by
  have k : ∀ n0 : Nat, n0 < 61 → (iv_a (3 + 1 * (50 + (n0 : Int)))).1 ≤ 0 ∧ 11 ≤ (iv_a (3 + 1 * (50 + (n0 : Int)))).2 := by decide +kernel
  rw [e, show x0 = 50 + ((x0 - 50).toNat : Int) by omega]
  exact k _ (by omega)
theorem iv_f101411cb {i : Int} (x0 : Int) (e : i = 174 + 5 * x0) (h0 : 0 ≤ x0 ∧ x0 ≤ 16) : (iv_a i).1 ≤ (-2147483648) ∧ 2147483647 ≤ (iv_a i).2 := by
  have k : ∀ n0 : Nat, n0 < 17 → (iv_a (174 + 5 * (0 + (n0 : Int)))).1 ≤ (-2147483648) ∧ 2147483647 ≤ (iv_a (174 + 5 * (0 + (n0 : Int)))).2 := by decide +kernel
  rw [e, show x0 = 0 + ((x0 - 0).toNat : Int) by omega]
  exact k _ (by omega)
theorem iv_febe3d830 {i : Int} (e : i = 1) : (iv_a i).1 ≤ 0 ∧ 16 ≤ (iv_a i).2 := by
  subst e
  decide +kernel
theorem iv_f2103129b {i : Int} (e : i = 2) : 0 ≤ (iv_a i).1 ∧ (iv_a i).2 ≤ 6 := by
  subst e
  decide +kernel
theorem iv_f34718fbc {i : Int} (x0 : Int) (e : i = 126 + 6 * x0) (h0 : 0 ≤ x0 ∧ x0 ≤ 5) : (iv_a i).1 ≤ (-2147483648) ∧ 2147483647 ≤ (iv_a i).2 := by
  have k : ∀ n0 : Nat, n0 < 6 → (iv_a (126 + 6 * (0 + (n0 : Int)))).1 ≤ (-2147483648) ∧ 2147483647 ≤ (iv_a (126 + 6 * (0 + (n0 : Int)))).2 := by decide +kernel
  rw [e, show x0 = 0 + ((x0 - 0).toNat : Int) by omega]
  exact k _ (by omega)
theorem iv_faf15f4fa {i : Int} (x0 : Int) (e : i = 127 + 6 * x0) (h0 : 0 ≤ x0 ∧ x0 ≤ 5) : (iv_a i).1 ≤ 0 ∧ 1 ≤ (iv_a i).2 := by
  have k : ∀ n0 : Nat, n0 < 6 → (iv_a (127 + 6 * (0 + (n0 : Int)))).1 ≤ 0 ∧ 1 ≤ (iv_a (127 + 6 * (0 + (n0 : Int)))).2 := by decide +kernel
  rw [e, show x0 = 0 + ((x0 - 0).toNat : Int) by omega]
  exact k _ (by omega)
theorem iv_f991cbfbb {i : Int} (x0 : Int) (e : i = 128 + 6 * x0) (h0 : 0 ≤ x0 ∧ x0 ≤ 5) : (iv_a i).1 ≤ (-2147483648) ∧ 2147483647 ≤ (iv_a i).2 := by
  have k : ∀ n0 : Nat, n0 < 6 → (iv_a (128 + 6 * (0 + (n0 : Int)))).1 ≤ (-2147483648) ∧ 2147483647 ≤ (iv_a (128 + 6 * (0 + (n0 : Int)))).2 := by decide +kernel
  rw [e, show x0 = 0 + ((x0 - 0).toNat : Int) by omega]
  exact k _ (by omega)
theorem iv_f6516b99e {i : Int} (x0 : Int) (e : i = 129 + 6 * x0) (h0 : 0 ≤ x0 ∧ x0 ≤ 5) : (iv_a i).1 ≤ 0 ∧ 11 ≤ (iv_a i).2 := by
  have k : ∀ n0 : Nat, n0 < 6 → (iv_a (129 + 6 * (0 + (n0 : Int)))).1 ≤ 0 ∧ 11 ≤ (iv_a (129 + 6 * (0 + (n0 : Int)))).2 := by decide +kernel
  rw [e, show x0 = 0 + ((x0 - 0).toNat : Int) by omega]
  exact k _ (by omega)
theorem iv_f80bf31e9 {i : Int} (x0 : Int) (e : i = 130 + 6 * x0) (h0 : 0 ≤ x0 ∧ x0 ≤ 5) : (iv_a i).1 ≤ (-1) ∧ 11 ≤ (iv_a i).2 := by
  have k : ∀ n0 : Nat, n0 < 6 → (iv_a (130 + 6 * (0 + (n0 : Int)))).1 ≤ (-1) ∧ 11 ≤ (iv_a (130 + 6 * (0 + (n0 : Int)))).2 := by decide +kernel
  rw [e, show x0 = 0 + ((x0 - 0).toNat : Int) by omega]
  exact k _ (by omega)
theorem iv_fda897c4c {i : Int} (x0 : Int) (e : i = 131 + 6 * x0) (h0 : 0 ≤ x0 ∧ x0 ≤ 5) : (iv_a i).1 ≤ 0 ∧ 11 ≤ (iv_a i).2 := by
  have k : ∀ n0 : Nat, n0 < 6 → (iv_a (131 + 6 * (0 + (n0 : Int)))).1 ≤ 0 ∧ 11 ≤ (iv_a (131 + 6 * (0 + (n0 : Int)))).2 := by decide +kernel
  rw [e, show x0 = 0 + ((x0 - 0).toNat : Int) by omega]
  exact k _ (by omega)
theorem iv_fd398447a {i : Int} (e : i = 2) : (iv_a i).1 ≤ 0 ∧ 6 ≤ (iv_a i).2 := by
  subst e
  decide +kernel
theorem iv_ffb272d5f {i : Int} (e : i = 7) : 0 ≤ (iv_a i).1 ∧ (iv_a i).2 ≤ 4 := by
  subst e
  decide +kernel
theorem iv_fae12ecb2 {i : Int} (x0 : Int) (e : i = 0 + 705 * x0) (h0 : 0 ≤ x0 ∧ x0 ≤ 4) : (iv_x i).1 ≤ 0 ∧ 24 ≤ (iv_x i).2 := by
  have k : ∀ n0 : Nat, n0 < 5 → (iv_x (0 + 705 * (0 + (n0 : Int)))).1 ≤ 0 ∧ 24 ≤ (iv_x (0 + 705 * (0 + (n0 : Int)))).2 := by decide +kernel
  rw [e, show x0 = 0 + ((x0 - 0).toNat : Int) by omega]
  exact k _ (by omega)
theorem iv_f60c478be {i : Int} (x0 : Int) (e : i = 0 + 1 * x0) (h0 : 0 ≤ x0 ∧ x0 ≤ 2115) : (-2147483648) ≤ (iv_x i).1 ∧ (iv_x i).2 ≤ 2147483647 := iv_x_F i
theorem iv_fbefb360b {i : Int} (x0 : Int) (x1 : Int) (e : i = 1 + 1 * x0 + 4 * x1) (h0 : 0 ≤ x0 ∧ x0 ≤ 2115) (h1 : 0 ≤ x1 ∧ x1 ≤ 23) : (iv_x i).1 ≤ 0 ∧ 24 ≤ (iv_x i).2 := by
  unfold iv_x
  repeat' refine iv_itW (fun h => ?_) (fun h => ?_)
  all_goals first | exact ⟨by decide, by decide⟩ | (exfalso; omega)
theorem iv_f9299bbb0 {i : Int} (x0 : Int) (e : i = 1 + 1 * x0) (h0 : 1 ≤ x0 ∧ x0 ≤ 2208) : (iv_x i).1 ≤ 0 ∧ 24 ≤ (iv_x i).2 := by
  unfold iv_x
  repeat' refine iv_itW (fun h => ?_) (fun h => ?_)
  all_goals first | exact ⟨by decide, by decide⟩ | (exfalso; omega)
theorem iv_f73fdbadc {i : Int} (x0 : Int) (e : i = 2 + 1 * x0) (h0 : 1 ≤ x0 ∧ x0 ≤ 2208) : (iv_x i).1 ≤ 0 ∧ 24 ≤ (iv_x i).2 := by
  unfold iv_x
  repeat' refine iv_itW (fun h => ?_) (fun h => ?_)
  all_goals first | exact ⟨by decide, by decide⟩ | (exfalso; omega)
theorem iv_f8f33ec46 {i : Int} (x0 : Int) (e : i = 0 + 1 * x0) (h0 : 2 ≤ x0 ∧ x0 ≤ 2210) : (iv_x i).1 ≤ 0 ∧ 24 ≤ (iv_x i).2 := by
  unfold iv_x
  repeat' refine iv_itW (fun h => ?_) (fun h => ?_)
  all_goals first | exact ⟨by decide, by decide⟩ | (exfalso; omega)
theorem iv_f926acb4b {i : Int} (x0 : Int) (e : i = 0 + 1 * x0) (h0 : 0 ≤ x0 ∧ x0 ≤ 2115) : (iv_x i).1 ≤ 0 ∧ 24 ≤ (iv_x i).2 := by
  unfold iv_x
  repeat' refine iv_itW (fun h => ?_) (fun h => ?_)
  all_goals first | exact ⟨by decide, by decide⟩ | (exfalso; omega)
theorem iv_f29303112 {i : Int} (e : i = 7) : (iv_a i).1 ≤ 0 ∧ 4 ≤ (iv_a i).2 := by
  subst e
  decide +kernel
theorem iv_f0c0828f9 {i : Int} (e : i = 8) : (iv_a i).1 ≤ (-1) ∧ 3 ≤ (iv_a i).2 := by
  subst e
  decide +kernel
theorem iv_f94fa157c {i : Int} (x0 : Int) (x1 : Int) (e : i = 24 + 39 * x0 + 2 * x1) (h0 : 0 ≤ x0 ∧ x0 ≤ 29) (h1 : 6 ≤ x1 ∧ x1 ≤ 6) : (iv_s i).1 ≤ (-2147483648) ∧ 2147483647 ≤ (iv_s i).2 := by
  have k : ∀ n0 : Nat, n0 < 30 → ∀ n1 : Nat, n1 < 1 → (iv_s (24 + 39 * (0 + (n0 : Int)) + 2 * (6 + (n1 : Int)))).1 ≤ (-2147483648) ∧ 2147483647 ≤ (iv_s (24 + 39 * (0 + (n0 : Int)) + 2 * (6 + (n1 : Int)))).2 := by decide +kernel
  rw [e, show x0 = 0 + ((x0 - 0).toNat : Int) by omega, show x1 = 6 + ((x1 - 6).toNat : Int) by omega]
  exact k _ (by omega) _ (by omega)
theorem iv_f5e4c071d {i : Int} (x0 : Int) (x1 : Int) (e : i = 25 + 39 * x0 + 2 * x1) (h0 : 0 ≤ x0 ∧ x0 ≤ 29) (h1 : 6 ≤ x1 ∧ x1 ≤ 6) : (iv_s i).1 ≤ (-2147483648) ∧ 2147483647 ≤ (iv_s i).2 := by
  have k : ∀ n0 : Nat, n0 < 30 → ∀ n1 : Nat, n1 < 1 → (iv_s (25 + 39 * (0 + (n0 : Int)) + 2 * (6 + (n1 : Int)))).1 ≤ (-2147483648) ∧ 2147483647 ≤ (iv_s (25 + 39 * (0 + (n0 : Int)) + 2 * (6 + (n1 : Int)))).2 := by decide +kernel
  rw [e, show x0 = 0 + ((x0 - 0).toNat : Int) by omega, show x1 = 6 + ((x1 - 6).toNat : Int) by omega]
  exact k _ (by omega) _ (by omega)
theorem iv_fc75fd977 {i : Int} (x0 : Int) (x1 : Int) (e : i = 26 + 39 * x0 + 2 * x1) (h0 : 0 ≤ x0 ∧ x0 ≤ 29) (h1 : 6 ≤ x1 ∧ x1 ≤ 6) : (iv_s i).1 ≤ (-2147483648) ∧ 2147483647 ≤ (iv_s i).2 := by
  have k : ∀ n0 : Nat, n0 < 30 → ∀ n1 : Nat, n1 < 1 → (iv_s (26 + 39 * (0 + (n0 : Int)) + 2 * (6 + (n1 : Int)))).1 ≤ (-2147483648) ∧ 2147483647 ≤ (iv_s (26 + 39 * (0 + (n0 : Int)) + 2 * (6 + (n1 : Int)))).2 := by decide +kernel
  rw [e, show x0 = 0 + ((x0 - 0).toNat : Int) by omega, show x1 = 6 + ((x1 - 6).toNat : Int) by omega]
  exact k _ (by omega) _ (by omega)
theorem iv_f8e736285 {i : Int} (x0 : Int) (x1 : Int) (e : i = 12 + 39 * x0 + 2 * x1) (h0 : 0 ≤ x0 ∧ x0 ≤ 29) (h1 : 0 ≤ x1 ∧ x1 ≤ 5) : (iv_s i).1 ≤ (-2147483648) ∧ 2147483647 ≤ (iv_s i).2 := by
  have k : ∀ n0 : Nat, n0 < 30 → ∀ n1 : Nat, n1 < 6 → (iv_s (12 + 39 * (0 + (n0 : Int)) + 2 * (0 + (n1 : Int)))).1 ≤ (-2147483648) ∧ 2147483647 ≤ (iv_s (12 + 39 * (0 + (n0 : Int)) + 2 * (0 + (n1 : Int)))).2 := by decide +kernel
  rw [e, show x0 = 0 + ((x0 - 0).toNat : Int) by omega, show x1 = 0 + ((x1 - 0).toNat : Int) by omega]
  exact k _ (by omega) _ (by omega)
theorem iv_f055a89ee {i : Int} (x0 : Int) (x1 : Int) (e : i = 13 + 39 * x0 + 2 * x1) (h0 : 0 ≤ x0 ∧ x0 ≤ 29) (h1 : 0 ≤ x1 ∧ x1 ≤ 5) : (iv_s i).1 ≤ (-2147483648) ∧ 2147483647 ≤ (iv_s i).2 := by
  have k : ∀ n0 : Nat, n0 < 30 → ∀ n1 : Nat, n1 < 6 → (iv_s (13 + 39 * (0 + (n0 : Int)) + 2 * (0 + (n1 : Int)))).1 ≤ (-2147483648) ∧ 2147483647 ≤ (iv_s (13 + 39 * (0 + (n0 : Int)) + 2 * (0 + (n1 : Int)))).2 := by decide +kernel
  rw [e, show x0 = 0 + ((x0 - 0).toNat : Int) by omega, show x1 = 0 + ((x1 - 0).toNat : Int) by omega]
  exact k _ (by omega) _ (by omega)
theorem iv_fb8c2fe0d {i : Int} (x0 : Int) (x1 : Int) (e : i = 0 + 39 * x0 + 3 * x1) (h0 : 0 ≤ x0 ∧ x0 ≤ 29) (h1 : 0 ≤ x1 ∧ x1 ≤ 3) : (iv_s i).1 ≤ (-2147483648) ∧ 2147483647 ≤ (iv_s i).2 := by
  have k : ∀ n0 : Nat, n0 < 30 → ∀ n1 : Nat, n1 < 4 → (iv_s (0 + 39 * (0 + (n0 : Int)) + 3 * (0 + (n1 : Int)))).1 ≤ (-2147483648) ∧ 2147483647 ≤ (iv_s (0 + 39 * (0 + (n0 : Int)) + 3 * (0 + (n1 : Int)))).2 := by decide +kernel
  rw [e, show x0 = 0 + ((x0 - 0).toNat : Int) by omega, show x1 = 0 + ((x1 - 0).toNat : Int) by omega]
  exact k _ (by omega) _ (by omega)
theorem iv_f103b098e {i : Int} (x0 : Int) (x1 : Int) (e : i = 1 + 39 * x0 + 3 * x1) (h0 : 0 ≤ x0 ∧ x0 ≤ 29) (h1 : 0 ≤ x1 ∧ x1 ≤ 3) : (iv_s i).1 ≤ (-1) ∧ 11 ≤ (iv_s i).2 := by
  have k : ∀ n0 : Nat, n0 < 30 → ∀ n1 : Nat, n1 < 4 → (iv_s (1 + 39 * (0 + (n0 : Int)) + 3 * (0 + (n1 : Int)))).1 ≤ (-1) ∧ 11 ≤ (iv_s (1 + 39 * (0 + (n0 : Int)) + 3 * (0 + (n1 : Int)))).2 := by decide +kernel
  rw [e, show x0 = 0 + ((x0 - 0).toNat : Int) by omega, show x1 = 0 + ((x1 - 0).toNat : Int) by omega]
  exact k _ (by omega) _ (by omega)
theorem iv_fe953598f {i : Int} (x0 : Int) (x1 : Int) (e : i = 2 + 39 * x0 + 3 * x1) (h0 : 0 ≤ x0 ∧ x0 ≤ 29) (h1 : 0 ≤ x1 ∧ x1 ≤ 3) : (iv_s i).1 ≤ (-1) ∧ 11 ≤ (iv_s i).2 := by
  have k : ∀ n0 : Nat, n0 < 30 → ∀ n1 : Nat, n1 < 4 → (iv_s (2 + 39 * (0 + (n0 : Int)) + 3 * (0 + (n1 : Int)))).1 ≤ (-1) ∧ 11 ≤ (iv_s (2 + 39 * (0 + (n0 : Int)) + 3 * (0 + (n1 : Int)))).2 := by decide +kernel
  rw [e, show x0 = 0 + ((x0 - 0).toNat : Int) by omega, show x1 = 0 + ((x1 - 0).toNat : Int) by omega]
  exact k _ (by omega) _ (by omega)
theorem iv_f3318a158 {i : Int} (x0 : Int) (e : i = 114 + 3 * x0) (h0 : 0 ≤ x0 ∧ x0 ≤ 3) : 0 ≤ (iv_a i).1 ∧ (iv_a i).2 ≤ 24 := by
  have k : ∀ n0 : Nat, n0 < 4 → 0 ≤ (iv_a (114 + 3 * (0 + (n0 : Int)))).1 ∧ (iv_a (114 + 3 * (0 + (n0 : Int)))).2 ≤ 24 := by decide +kernel
  rw [e, show x0 = 0 + ((x0 - 0).toNat : Int) by omega]
  exact k _ (by omega)
theorem iv_fb9711825 {i : Int} (e : i = 9) : 0 ≤ (iv_a i).1 ∧ (iv_a i).2 ≤ 30 := by
  subst e
  decide +kernel
theorem iv_fd7417342 {i : Int} (x0 : Int) (e : i = 278 + 42 * x0) (h0 : 0 ≤ x0 ∧ x0 ≤ 29) : (iv_a i).1 ≤ (-2147483648) ∧ 2147483647 ≤ (iv_a i).2 := by
  have k : ∀ n0 : Nat, n0 < 30 → (iv_a (278 + 42 * (0 + (n0 : Int)))).1 ≤ (-2147483648) ∧ 2147483647 ≤ (iv_a (278 + 42 * (0 + (n0 : Int)))).2 := by decide +kernel
  rw [e, show x0 = 0 + ((x0 - 0).toNat : Int) by omega]
  exact k _ (by omega)
theorem iv_fec763053 {i : Int} (x0 : Int) (e : i = 279 + 42 * x0) (h0 : 0 ≤ x0 ∧ x0 ≤ 29) : (iv_a i).1 ≤ (-2147483648) ∧ 2147483647 ≤ (iv_a i).2 := by
  have k : ∀ n0 : Nat, n0 < 30 → (iv_a (279 + 42 * (0 + (n0 : Int)))).1 ≤ (-2147483648) ∧ 2147483647 ≤ (iv_a (279 + 42 * (0 + (n0 : Int)))).2 := by decide +kernel
  rw [e, show x0 = 0 + ((x0 - 0).toNat : Int) by omega]
  exact k _ (by omega)
theorem iv_fb7c9e2e3 {i : Int} (x0 : Int) (e : i = 280 + 42 * x0) (h0 : 0 ≤ x0 ∧ x0 ≤ 29) : (iv_a i).1 ≤ (-2147483648) ∧ 2147483647 ≤ (iv_a i).2 := by
  have k : ∀ n0 : Nat, n0 < 30 → (iv_a (280 + 42 * (0 + (n0 : Int)))).1 ≤ (-2147483648) ∧ 2147483647 ≤ (iv_a (280 + 42 * (0 + (n0 : Int)))).2 := by decide +kernel
  rw [e, show x0 = 0 + ((x0 - 0).toNat : Int) by omega]
  exact k _ (by omega)
theorem iv_f584601b1 {i : Int} (e : i = 3) : (-2147483648) ≤ (iv_a i).1 ∧ (iv_a i).2 ≤ 2147483647 := iv_a_F i
theorem iv_f2823758f {i : Int} (x0 : Int) (e : i = 281 + 42 * x0) (h0 : 0 ≤ x0 ∧ x0 ≤ 29) : (iv_a i).1 ≤ (-2147483648) ∧ 2147483647 ≤ (iv_a i).2 := by
  have k : ∀ n0 : Nat, n0 < 30 → (iv_a (281 + 42 * (0 + (n0 : Int)))).1 ≤ (-2147483648) ∧ 2147483647 ≤ (iv_a (281 + 42 * (0 + (n0 : Int)))).2 := by decide +kernel
  rw [e, show x0 = 0 + ((x0 - 0).toNat : Int) by omega]
  exact k _ (by omega)
theorem iv_f060f4a97 {i : Int} (e : i = 6) : 0 ≤ (iv_a i).1 ∧ (iv_a i).2 ≤ 30202 := by
  subst e
  decide +kernel
theorem iv_f7ea5c773 {i : Int} (x0 : Int) (e : i = 282 + 42 * x0) (h0 : 0 ≤ x0 ∧ x0 ≤ 29) : (iv_a i).1 ≤ 0 ∧ 30202 ≤ (iv_a i).2 := by
  have k : ∀ n0 : Nat, n0 < 30 → (iv_a (282 + 42 * (0 + (n0 : Int)))).1 ≤ 0 ∧ 30202 ≤ (iv_a (282 + 42 * (0 + (n0 : Int)))).2 := by decide +kernel
  rw [e, show x0 = 0 + ((x0 - 0).toNat : Int) by omega]
  exact k _ (by omega)
theorem iv_f894cccb4 {i : Int} (e : i = 9) : (iv_a i).1 ≤ 0 ∧ 30 ≤ (iv_a i).2 := by
  subst e
  decide +kernel
theorem iv_f859c0f3b {i : Int} (x0 : Int) (e : i = 16 + 3 * x0) (h0 : 0 ≤ x0 ∧ x0 ≤ 11) : (-2147483648) ≤ (iv_a i).1 ∧ (iv_a i).2 ≤ 2147483647 := iv_a_F i
theorem iv_f6039f252 {i : Int} (x0 : Int) (x1 : Int) (e : i = 307 + 42 * x0 + 1 * x1) (h0 : 0 ≤ x0 ∧ x0 ≤ 29) (h1 : 0 ≤ x1 ∧ x1 ≤ 11) : (iv_a i).1 ≤ (-2147483648) ∧ 2147483647 ≤ (iv_a i).2 := by
  have k : ∀ n0 : Nat, n0 < 30 → ∀ n1 : Nat, n1 < 12 → (iv_a (307 + 42 * (0 + (n0 : Int)) + 1 * (0 + (n1 : Int)))).1 ≤ (-2147483648) ∧ 2147483647 ≤ (iv_a (307 + 42 * (0 + (n0 : Int)) + 1 * (0 + (n1 : Int)))).2 := by decide +kernel
  rw [e, show x0 = 0 + ((x0 - 0).toNat : Int) by omega, show x1 = 0 + ((x1 - 0).toNat : Int) by omega]
  exact k _ (by omega) _ (by omega)
theorem iv_fba44946a {i : Int} (x0 : Int) (e : i = 129 + 6 * x0) (h0 : 0 ≤ x0 ∧ x0 ≤ 5) : 0 ≤ (iv_a i).1 ∧ (iv_a i).2 ≤ 11 := by
  have k : ∀ n0 : Nat, n0 < 6 → 0 ≤ (iv_a (129 + 6 * (0 + (n0 : Int)))).1 ∧ (iv_a (129 + 6 * (0 + (n0 : Int)))).2 ≤ 11 := by decide +kernel
  rw [e, show x0 = 0 + ((x0 - 0).toNat : Int) by omega]
  exact k _ (by omega)
theorem iv_fd552392a {i : Int} (x0 : Int) (x1 : Int) (e : i = 295 + 42 * x0 + 2 * x1) (h0 : 0 ≤ x0 ∧ x0 ≤ 29) (h1 : 0 ≤ x1 ∧ x1 ≤ 5) : (iv_a i).1 ≤ 0 ∧ 11 ≤ (iv_a i).2 := by
  have k : ∀ n0 : Nat, n0 < 30 → ∀ n1 : Nat, n1 < 6 → (iv_a (295 + 42 * (0 + (n0 : Int)) + 2 * (0 + (n1 : Int)))).1 ≤ 0 ∧ 11 ≤ (iv_a (295 + 42 * (0 + (n0 : Int)) + 2 * (0 + (n1 : Int)))).2 := by decide +kernel
  rw [e, show x0 = 0 + ((x0 - 0).toNat : Int) by omega, show x1 = 0 + ((x1 - 0).toNat : Int) by omega]
  exact k _ (by omega) _ (by omega)
theorem iv_f97411019 {i : Int} (x0 : Int) (e : i = 130 + 6 * x0) (h0 : 0 ≤ x0 ∧ x0 ≤ 5) : (-1) ≤ (iv_a i).1 ∧ (iv_a i).2 ≤ 11 := by
  have k : ∀ n0 : Nat, n0 < 6 → (-1) ≤ (iv_a (130 + 6 * (0 + (n0 : Int)))).1 ∧ (iv_a (130 + 6 * (0 + (n0 : Int)))).2 ≤ 11 := by decide +kernel
  rw [e, show x0 = 0 + ((x0 - 0).toNat : Int) by omega]
  exact k _ (by omega)
theorem iv_f10709e31 {i : Int} (x0 : Int) (x1 : Int) (e : i = 296 + 42 * x0 + 2 * x1) (h0 : 0 ≤ x0 ∧ x0 ≤ 29) (h1 : 0 ≤ x1 ∧ x1 ≤ 5) : (iv_a i).1 ≤ (-1) ∧ 11 ≤ (iv_a i).2 := by
  have k : ∀ n0 : Nat, n0 < 30 → ∀ n1 : Nat, n1 < 6 → (iv_a (296 + 42 * (0 + (n0 : Int)) + 2 * (0 + (n1 : Int)))).1 ≤ (-1) ∧ 11 ≤ (iv_a (296 + 42 * (0 + (n0 : Int)) + 2 * (0 + (n1 : Int)))).2 := by decide +kernel
  rw [e, show x0 = 0 + ((x0 - 0).toNat : Int) by omega, show x1 = 0 + ((x1 - 0).toNat : Int) by omega]
  exact k _ (by omega) _ (by omega)
theorem iv_f1b92e825 {i : Int} (x0 : Int) (e : i = 114 + 1 * x0) (h0 : 0 ≤ x0 ∧ x0 ≤ 11) : (-1) ≤ (iv_a i).1 ∧ (iv_a i).2 ≤ 24 := by
  have k : ∀ n0 : Nat, n0 < 12 → (-1) ≤ (iv_a (114 + 1 * (0 + (n0 : Int)))).1 ∧ (iv_a (114 + 1 * (0 + (n0 : Int)))).2 ≤ 24 := by decide +kernel
  rw [e, show x0 = 0 + ((x0 - 0).toNat : Int) by omega]
  exact k _ (by omega)
theorem iv_f08d80799 {i : Int} (x0 : Int) (x1 : Int) (e : i = 283 + 42 * x0 + 1 * x1) (h0 : 0 ≤ x0 ∧ x0 ≤ 29) (h1 : 0 ≤ x1 ∧ x1 ≤ 11) : (iv_a i).1 ≤ 0 ∧ 11 ≤ (iv_a i).2 := by
  have k : ∀ n0 : Nat, n0 < 30 → ∀ n1 : Nat, n1 < 12 → (iv_a (283 + 42 * (0 + (n0 : Int)) + 1 * (0 + (n1 : Int)))).1 ≤ 0 ∧ 11 ≤ (iv_a (283 + 42 * (0 + (n0 : Int)) + 1 * (0 + (n1 : Int)))).2 := by decide +kernel
  rw [e, show x0 = 0 + ((x0 - 0).toNat : Int) by omega, show x1 = 0 + ((x1 - 0).toNat : Int) by omega]
  exact k _ (by omega) _ (by omega)
theorem iv_gf62e0eba {i k : Int} (x0 : Int) (x1 : Int) (e : i = 283 + 42 * x0 + 1 * x1) (e2 : k = 114 + 1 * x1) (h0 : 0 ≤ x0 ∧ x0 ≤ 29) (h1 : 0 ≤ x1 ∧ x1 ≤ 11) : (iv_a i).1 ≤ (iv_a k).1 ∧ (iv_a k).2 ≤ (iv_a i).2 := by
  have k : ∀ n0 : Nat, n0 < 30 → ∀ n1 : Nat, n1 < 12 → (iv_a (283 + 42 * (0 + (n0 : Int)) + 1 * (0 + (n1 : Int)))).1 ≤ (iv_a (114 + 1 * (0 + (n1 : Int)))).1 ∧ (iv_a (114 + 1 * (0 + (n1 : Int)))).2 ≤ (iv_a (283 + 42 * (0 + (n0 : Int)) + 1 * (0 + (n1 : Int)))).2 := by decide +kernel
  rw [e, e2, show x0 = 0 + ((x0 - 0).toNat : Int) by omega, show x1 = 0 + ((x1 - 0).toNat : Int) by omega]
  exact k _ (by omega) _ (by omega)
theorem iv_f8c292d4f {i : Int} (x0 : Int) (e : i = 280 + 42 * x0) (h0 : 0 ≤ x0 ∧ x0 ≤ 29) : (-2147483648) ≤ (iv_a i).1 ∧ (iv_a i).2 ≤ 2147483647 := iv_a_F i
theorem iv_f4a8067a1 {i : Int} (x0 : Int) (e : i = 53 + 4 * x0) (h0 : 0 ≤ x0 ∧ x0 ≤ 15) : (-2147483648) ≤ (iv_a i).1 ∧ (iv_a i).2 ≤ 2147483647 := iv_a_F i
theorem iv_f9a6d102a {i : Int} (x0 : Int) (e : i = 320 + 1 * x0) (h0 : 0 ≤ x0 ∧ x0 ≤ 1217) : (-2147483648) ≤ (iv_a i).1 ∧ (iv_a i).2 ≤ 2147483647 := iv_a_F i
theorem iv_f92487f9d {i : Int} (x0 : Int) (e : i = 278 + 1 * x0) (h0 : 0 ≤ x0 ∧ x0 ≤ 1217) : (iv_a i).1 ≤ 0 ∧ 11 ≤ (iv_a i).2 := by
  unfold iv_a
  repeat' refine iv_itW (fun h => ?_) (fun h => ?_)
  all_goals first | exact ⟨by decide, by decide⟩ | (exfalso; omega)
theorem iv_gcd3465bc {i k : Int} (x0 : Int) (e : i = 278 + 1 * x0) (e2 : k = 320 + 1 * x0) (h0 : 0 ≤ x0 ∧ x0 ≤ 1217) : (iv_a i).1 ≤ (iv_a k).1 ∧ (iv_a k).2 ≤ (iv_a i).2 := by
  generalize hq : iv_a k = q
  unfold iv_a
  repeat' refine iv_itW (fun h => ?_) (fun h => ?_)
  all_goals first | (exfalso; omega) | (rw [← hq]; exact iv_a_F k) | skip
  all_goals rw [← hq]
  all_goals unfold iv_a
  all_goals repeat' refine iv_itR (fun h => ?_) (fun h => ?_)
  all_goals first | exact ⟨by decide, by decide⟩ | (exfalso; omega)
theorem iv_fad4315e5 {i : Int} (x0 : Int) (e : i = 114 + 3 * x0) (h0 : 0 ≤ x0 ∧ x0 ≤ 3) : (iv_a i).1 ≤ 0 ∧ 24 ≤ (iv_a i).2 := by
  have k : ∀ n0 : Nat, n0 < 4 → (iv_a (114 + 3 * (0 + (n0 : Int)))).1 ≤ 0 ∧ 24 ≤ (iv_a (114 + 3 * (0 + (n0 : Int)))).2 := by decide +kernel
  rw [e, show x0 = 0 + ((x0 - 0).toNat : Int) by omega]
  exact k _ (by omega)
theorem iv_fc3e20e9e {i : Int} (x0 : Int) (e : i = 115 + 3 * x0) (h0 : 0 ≤ x0 ∧ x0 ≤ 3) : (iv_a i).1 ≤ 0 ∧ 11 ≤ (iv_a i).2 := by
  have k : ∀ n0 : Nat, n0 < 4 → (iv_a (115 + 3 * (0 + (n0 : Int)))).1 ≤ 0 ∧ 11 ≤ (iv_a (115 + 3 * (0 + (n0 : Int)))).2 := by decide +kernel
  rw [e, show x0 = 0 + ((x0 - 0).toNat : Int) by omega]
  exact k _ (by omega)
theorem iv_fcb0a6ed3 {i : Int} (x0 : Int) (e : i = 116 + 3 * x0) (h0 : 0 ≤ x0 ∧ x0 ≤ 3) : (iv_a i).1 ≤ (-1) ∧ 11 ≤ (iv_a i).2 := by
  have k : ∀ n0 : Nat, n0 < 4 → (iv_a (116 + 3 * (0 + (n0 : Int)))).1 ≤ (-1) ∧ 11 ≤ (iv_a (116 + 3 * (0 + (n0 : Int)))).2 := by decide +kernel
  rw [e, show x0 = 0 + ((x0 - 0).toNat : Int) by omega]
  exact k _ (by omega)
theorem iv_f4d82ee43 {i : Int} (x0 : Int) (e : i = 115 + 3 * x0) (h0 : 0 ≤ x0 ∧ x0 ≤ 3) : 0 ≤ (iv_a i).1 ∧ (iv_a i).2 ≤ 11 := by
  have k : ∀ n0 : Nat, n0 < 4 → 0 ≤ (iv_a (115 + 3 * (0 + (n0 : Int)))).1 ∧ (iv_a (115 + 3 * (0 + (n0 : Int)))).2 ≤ 11 := by decide +kernel
  rw [e, show x0 = 0 + ((x0 - 0).toNat : Int) by omega]
  exact k _ (by omega)
theorem iv_fab31a278 {i : Int} (x0 : Int) (e : i = 114 + 3 * x0) (h0 : 1 ≤ x0 ∧ x0 ≤ 3) : (iv_a i).1 ≤ 0 ∧ 24 ≤ (iv_a i).2 := by
  have k : ∀ n0 : Nat, n0 < 3 → (iv_a (114 + 3 * (1 + (n0 : Int)))).1 ≤ 0 ∧ 24 ≤ (iv_a (114 + 3 * (1 + (n0 : Int)))).2 := by decide +kernel
  rw [e, show x0 = 1 + ((x0 - 1).toNat : Int) by omega]
  exact k _ (by omega)
theorem iv_f0d376a7e {i : Int} (e : i = 3) : (iv_a i).1 ≤ (-2147483648) ∧ 2147483647 ≤ (iv_a i).2 := by
  subst e
  decide +kernel
theorem iv_fc43a0ff9 {i : Int} (x0 : Int) (e : i = 15 + 3 * x0) (h0 : 0 ≤ x0 ∧ x0 ≤ 11) : 0 ≤ (iv_a i).1 ∧ (iv_a i).2 ≤ 99 := by
  have k : ∀ n0 : Nat, n0 < 12 → 0 ≤ (iv_a (15 + 3 * (0 + (n0 : Int)))).1 ∧ (iv_a (15 + 3 * (0 + (n0 : Int)))).2 ≤ 99 := by decide +kernel
  rw [e, show x0 = 0 + ((x0 - 0).toNat : Int) by omega]
  exact k _ (by omega)
theorem iv_f6fd1d1ad {i : Int} (x0 : Int) (e : i = 14 + 3 * x0) (h0 : 0 ≤ x0 ∧ x0 ≤ 11) : 0 ≤ (iv_a i).1 ∧ (iv_a i).2 ≤ 3 := by
  have k : ∀ n0 : Nat, n0 < 12 → 0 ≤ (iv_a (14 + 3 * (0 + (n0 : Int)))).1 ∧ (iv_a (14 + 3 * (0 + (n0 : Int)))).2 ≤ 3 := by decide +kernel
  rw [e, show x0 = 0 + ((x0 - 0).toNat : Int) by omega]
  exact k _ (by omega)
theorem iv_fb3fd00de {i : Int} (x0 : Int) (e : i = 116 + 3 * x0) (h0 : 0 ≤ x0 ∧ x0 ≤ 3) : (-1) ≤ (iv_a i).1 ∧ (iv_a i).2 ≤ 11 := by
  have k : ∀ n0 : Nat, n0 < 4 → (-1) ≤ (iv_a (116 + 3 * (0 + (n0 : Int)))).1 ∧ (iv_a (116 + 3 * (0 + (n0 : Int)))).2 ≤ 11 := by decide +kernel
  rw [e, show x0 = 0 + ((x0 - 0).toNat : Int) by omega]
  exact k _ (by omega)
theorem iv_fc0e1ed14 {i : Int} (e : i = 8) : (-1) ≤ (iv_a i).1 ∧ (iv_a i).2 ≤ 3 := by
  subst e
  decide +kernel
theorem iv_f876c6d9a {i : Int} (x0 : Int) (e : i = 0 + 705 * x0) (h0 : 0 ≤ x0 ∧ x0 ≤ 3) : 0 ≤ (iv_x i).1 ∧ (iv_x i).2 ≤ 24 := by
  have k : ∀ n0 : Nat, n0 < 4 → 0 ≤ (iv_x (0 + 705 * (0 + (n0 : Int)))).1 ∧ (iv_x (0 + 705 * (0 + (n0 : Int)))).2 ≤ 24 := by decide +kernel
  rw [e, show x0 = 0 + ((x0 - 0).toNat : Int) by omega]
  exact k _ (by omega)
theorem iv_f85b13eef {i : Int} (x0 : Int) (x1 : Int) (e : i = 1 + 705 * x0 + 4 * x1) (h0 : 0 ≤ x0 ∧ x0 ≤ 3) (h1 : 0 ≤ x1 ∧ x1 ≤ 23) : (-2147483648) ≤ (iv_x i).1 ∧ (iv_x i).2 ≤ 2147483647 := iv_x_F i
theorem iv_fd340a209 {i : Int} (x0 : Int) (x1 : Int) (e : i = 2 + 705 * x0 + 4 * x1) (h0 : 0 ≤ x0 ∧ x0 ≤ 3) (h1 : 0 ≤ x1 ∧ x1 ≤ 23) : (-2147483648) ≤ (iv_x i).1 ∧ (iv_x i).2 ≤ 2147483647 := iv_x_F i
theorem iv_f43cb10b9 {i : Int} (x0 : Int) (e : i = 2 + 1 * x0) (h0 : 1 ≤ x0 ∧ x0 ≤ 2208) : (-2147483648) ≤ (iv_x i).1 ∧ (iv_x i).2 ≤ 2147483647 := iv_x_F i
theorem iv_f52360414 {i : Int} (x0 : Int) (e : i = 52 + 4 * x0) (h0 : 0 ≤ x0 ∧ x0 ≤ 15) : (-2147483648) ≤ (iv_a i).1 ∧ (iv_a i).2 ≤ 2147483647 := iv_a_F i
theorem iv_f70bc7c7c {i : Int} (x0 : Int) (x1 : Int) (e : i = 126 + 6 * x0 + 1 * x1) (h0 : 0 ≤ x0 ∧ x0 ≤ 5) (h1 : 0 ≤ x1 ∧ x1 ≤ 4) : (-2147483648) ≤ (iv_a i).1 ∧ (iv_a i).2 ≤ 2147483647 := iv_a_F i
theorem iv_fee3e924e {i : Int} (e : i = 6) : (iv_a i).1 ≤ 0 ∧ 30202 ≤ (iv_a i).2 := by
  subst e
  decide +kernel
theorem iv_f1cfbf807 {i : Int} (x0 : Int) (e : i = 127 + 6 * x0) (h0 : 0 ≤ x0 ∧ x0 ≤ 5) : 0 ≤ (iv_a i).1 ∧ (iv_a i).2 ≤ 1 := by
  have k : ∀ n0 : Nat, n0 < 6 → 0 ≤ (iv_a (127 + 6 * (0 + (n0 : Int)))).1 ∧ (iv_a (127 + 6 * (0 + (n0 : Int)))).2 ≤ 1 := by decide +kernel
  rw [e, show x0 = 0 + ((x0 - 0).toNat : Int) by omega]
  exact k _ (by omega)
theorem iv_f2c6f65e5 {i : Int} (x0 : Int) (e : i = 0 + 1 * x0) (h0 : 53 ≤ x0 ∧ x0 ≤ 113) : (iv_a i).1 ≤ 0 ∧ 11 ≤ (iv_a i).2 := by
  have k : ∀ n0 : Nat, n0 < 61 → (iv_a (0 + 1 * (53 + (n0 : Int)))).1 ≤ 0 ∧ 11 ≤ (iv_a (0 + 1 * (53 + (n0 : Int)))).2 := by decide +kernel
  rw [e, show x0 = 53 + ((x0 - 53).toNat : Int) by omega]
  exact k _ (by omega)
theorem iv_faba81cda {i : Int} (x0 : Int) (e : i = 1 + 1 * x0) (h0 : 1 ≤ x0 ∧ x0 ≤ 2208) : (-2147483648) ≤ (iv_x i).1 ∧ (iv_x i).2 ≤ 2147483647 := iv_x_F i
theorem iv_fc2fd7f29 {i : Int} (x0 : Int) (e : i = 0 + 1 * x0) (h0 : 1 ≤ x0 ∧ x0 ≤ 2208) : (-2147483648) ≤ (iv_x i).1 ∧ (iv_x i).2 ≤ 2147483647 := iv_x_F i
theorem iv_f17fb70ea {i : Int} (x0 : Int) (e : i = 53 + 4 * x0) (h0 : 0 ≤ x0 ∧ x0 ≤ 15) : (iv_a i).1 ≤ (-2147483648) ∧ 2147483647 ≤ (iv_a i).2 := by
  have k : ∀ n0 : Nat, n0 < 16 → (iv_a (53 + 4 * (0 + (n0 : Int)))).1 ≤ (-2147483648) ∧ 2147483647 ≤ (iv_a (53 + 4 * (0 + (n0 : Int)))).2 := by decide +kernel
  rw [e, show x0 = 0 + ((x0 - 0).toNat : Int) by omega]
  exact k _ (by omega)
theorem iv_f8d7c7fab {i : Int} (x0 : Int) (x1 : Int) (e : i = 24 + 39 * x0 + 2 * x1) (h0 : 0 ≤ x0 ∧ x0 ≤ 29) (h1 : 6 ≤ x1 ∧ x1 ≤ 6) : (-2147483648) ≤ (iv_s i).1 ∧ (iv_s i).2 ≤ 2147483647 := iv_s_F i
theorem iv_f93ee24df {i : Int} (x0 : Int) (x1 : Int) (e : i = 25 + 39 * x0 + 2 * x1) (h0 : 0 ≤ x0 ∧ x0 ≤ 29) (h1 : 6 ≤ x1 ∧ x1 ≤ 6) : (-2147483648) ≤ (iv_s i).1 ∧ (iv_s i).2 ≤ 2147483647 := iv_s_F i
theorem iv_f55c3c414 {i : Int} (x0 : Int) (x1 : Int) (e : i = 26 + 39 * x0 + 2 * x1) (h0 : 0 ≤ x0 ∧ x0 ≤ 29) (h1 : 6 ≤ x1 ∧ x1 ≤ 6) : (-2147483648) ≤ (iv_s i).1 ∧ (iv_s i).2 ≤ 2147483647 := iv_s_F i
theorem iv_f63cbf944 {i : Int} (x0 : Int) (x1 : Int) (e : i = 12 + 39 * x0 + 2 * x1) (h0 : 0 ≤ x0 ∧ x0 ≤ 29) (h1 : 0 ≤ x1 ∧ x1 ≤ 5) : (-2147483648) ≤ (iv_s i).1 ∧ (iv_s i).2 ≤ 2147483647 := iv_s_F i
theorem iv_f3510361b {i : Int} (x0 : Int) (x1 : Int) (e : i = 13 + 39 * x0 + 2 * x1) (h0 : 0 ≤ x0 ∧ x0 ≤ 29) (h1 : 0 ≤ x1 ∧ x1 ≤ 5) : (-2147483648) ≤ (iv_s i).1 ∧ (iv_s i).2 ≤ 2147483647 := iv_s_F i
theorem iv_f99428fba {i : Int} (x0 : Int) (x1 : Int) (e : i = 0 + 39 * x0 + 3 * x1) (h0 : 0 ≤ x0 ∧ x0 ≤ 29) (h1 : 0 ≤ x1 ∧ x1 ≤ 3) : (-2147483648) ≤ (iv_s i).1 ∧ (iv_s i).2 ≤ 2147483647 := iv_s_F i
theorem iv_fbb991f4f {i : Int} (x0 : Int) (x1 : Int) (e : i = 1 + 39 * x0 + 3 * x1) (h0 : 0 ≤ x0 ∧ x0 ≤ 29) (h1 : 0 ≤ x1 ∧ x1 ≤ 3) : (-1) ≤ (iv_s i).1 ∧ (iv_s i).2 ≤ 11 := by
  have k : ∀ n0 : Nat, n0 < 30 → ∀ n1 : Nat, n1 < 4 → (-1) ≤ (iv_s (1 + 39 * (0 + (n0 : Int)) + 3 * (0 + (n1 : Int)))).1 ∧ (iv_s (1 + 39 * (0 + (n0 : Int)) + 3 * (0 + (n1 : Int)))).2 ≤ 11 := by decide +kernel
  rw [e, show x0 = 0 + ((x0 - 0).toNat : Int) by omega, show x1 = 0 + ((x1 - 0).toNat : Int) by omega]
  exact k _ (by omega) _ (by omega)
theorem iv_f79b6dad1 {i : Int} (x0 : Int) (x1 : Int) (e : i = 2 + 39 * x0 + 3 * x1) (h0 : 0 ≤ x0 ∧ x0 ≤ 29) (h1 : 0 ≤ x1 ∧ x1 ≤ 3) : (-1) ≤ (iv_s i).1 ∧ (iv_s i).2 ≤ 11 := by
  have k : ∀ n0 : Nat, n0 < 30 → ∀ n1 : Nat, n1 < 4 → (-1) ≤ (iv_s (2 + 39 * (0 + (n0 : Int)) + 3 * (0 + (n1 : Int)))).1 ∧ (iv_s (2 + 39 * (0 + (n0 : Int)) + 3 * (0 + (n1 : Int)))).2 ≤ 11 := by decide +kernel
  rw [e, show x0 = 0 + ((x0 - 0).toNat : Int) by omega, show x1 = 0 + ((x1 - 0).toNat : Int) by omega]
  exact k _ (by omega) _ (by omega)
theorem iv_feaa642d7 {i : Int} (x0 : Int) (e : i = 281 + 42 * x0) (h0 : 0 ≤ x0 ∧ x0 ≤ 29) : (-2147483648) ≤ (iv_a i).1 ∧ (iv_a i).2 ≤ 2147483647 := iv_a_F i
theorem iv_f9b216bdd {i : Int} (x0 : Int) (e : i = 282 + 42 * x0) (h0 : 0 ≤ x0 ∧ x0 ≤ 29) : 0 ≤ (iv_a i).1 ∧ (iv_a i).2 ≤ 30202 := by
  have k : ∀ n0 : Nat, n0 < 30 → 0 ≤ (iv_a (282 + 42 * (0 + (n0 : Int)))).1 ∧ (iv_a (282 + 42 * (0 + (n0 : Int)))).2 ≤ 30202 := by decide +kernel
  rw [e, show x0 = 0 + ((x0 - 0).toNat : Int) by omega]
  exact k _ (by omega)
theorem iv_f6128ea84 {i : Int} (x0 : Int) (x1 : Int) (e : i = 307 + 42 * x0 + 1 * x1) (h0 : 0 ≤ x0 ∧ x0 ≤ 29) (h1 : 0 ≤ x1 ∧ x1 ≤ 11) : (-2147483648) ≤ (iv_a i).1 ∧ (iv_a i).2 ≤ 2147483647 := iv_a_F i
theorem iv_ff0062939 {i : Int} (x0 : Int) (e : i = 278 + 42 * x0) (h0 : 0 ≤ x0 ∧ x0 ≤ 29) : (-2147483648) ≤ (iv_a i).1 ∧ (iv_a i).2 ≤ 2147483647 := iv_a_F i
theorem iv_f3ea210f9 {i : Int} (x0 : Int) (e : i = 131 + 6 * x0) (h0 : 0 ≤ x0 ∧ x0 ≤ 5) : 0 ≤ (iv_a i).1 ∧ (iv_a i).2 ≤ 11 := by
  have k : ∀ n0 : Nat, n0 < 6 → 0 ≤ (iv_a (131 + 6 * (0 + (n0 : Int)))).1 ∧ (iv_a (131 + 6 * (0 + (n0 : Int)))).2 ≤ 11 := by decide +kernel
  rw [e, show x0 = 0 + ((x0 - 0).toNat : Int) by omega]
  exact k _ (by omega)
theorem iv_f7285c76e {i : Int} (x0 : Int) (x1 : Int) (e : i = 296 + 42 * x0 + 2 * x1) (h0 : 0 ≤ x0 ∧ x0 ≤ 29) (h1 : 0 ≤ x1 ∧ x1 ≤ 5) : (-1) ≤ (iv_a i).1 ∧ (iv_a i).2 ≤ 11 := by
  have k : ∀ n0 : Nat, n0 < 30 → ∀ n1 : Nat, n1 < 6 → (-1) ≤ (iv_a (296 + 42 * (0 + (n0 : Int)) + 2 * (0 + (n1 : Int)))).1 ∧ (iv_a (296 + 42 * (0 + (n0 : Int)) + 2 * (0 + (n1 : Int)))).2 ≤ 11 := by decide +kernel
  rw [e, show x0 = 0 + ((x0 - 0).toNat : Int) by omega, show x1 = 0 + ((x1 - 0).toNat : Int) by omega]
  exact k _ (by omega) _ (by omega)
theorem iv_f1b3b3272 {i : Int} (x0 : Int) (x1 : Int) (e : i = 295 + 42 * x0 + 2 * x1) (h0 : 0 ≤ x0 ∧ x0 ≤ 29) (h1 : 0 ≤ x1 ∧ x1 ≤ 5) : 0 ≤ (iv_a i).1 ∧ (iv_a i).2 ≤ 11 := by
  have k : ∀ n0 : Nat, n0 < 30 → ∀ n1 : Nat, n1 < 6 → 0 ≤ (iv_a (295 + 42 * (0 + (n0 : Int)) + 2 * (0 + (n1 : Int)))).1 ∧ (iv_a (295 + 42 * (0 + (n0 : Int)) + 2 * (0 + (n1 : Int)))).2 ≤ 11 := by decide +kernel
  rw [e, show x0 = 0 + ((x0 - 0).toNat : Int) by omega, show x1 = 0 + ((x1 - 0).toNat : Int) by omega]
  exact k _ (by omega) _ (by omega)
theorem iv_fbdce8767 {i : Int} (x0 : Int) (x1 : Int) (e : i = 283 + 42 * x0 + 1 * x1) (h0 : 0 ≤ x0 ∧ x0 ≤ 29) (h1 : 0 ≤ x1 ∧ x1 ≤ 11) : (-1) ≤ (iv_a i).1 ∧ (iv_a i).2 ≤ 24 := by
  have k : ∀ n0 : Nat, n0 < 30 → ∀ n1 : Nat, n1 < 12 → (-1) ≤ (iv_a (283 + 42 * (0 + (n0 : Int)) + 1 * (0 + (n1 : Int)))).1 ∧ (iv_a (283 + 42 * (0 + (n0 : Int)) + 1 * (0 + (n1 : Int)))).2 ≤ 24 := by decide +kernel
  rw [e, show x0 = 0 + ((x0 - 0).toNat : Int) by omega, show x1 = 0 + ((x1 - 0).toNat : Int) by omega]
  exact k _ (by omega) _ (by omega)
theorem iv_f65c88a42 {i : Int} (x0 : Int) (e : i = 114 + 1 * x0) (h0 : 0 ≤ x0 ∧ x0 ≤ 11) : (iv_a i).1 ≤ 0 ∧ 11 ≤ (iv_a i).2 := by
  have k : ∀ n0 : Nat, n0 < 12 → (iv_a (114 + 1 * (0 + (n0 : Int)))).1 ≤ 0 ∧ 11 ≤ (iv_a (114 + 1 * (0 + (n0 : Int)))).2 := by decide +kernel
  rw [e, show x0 = 0 + ((x0 - 0).toNat : Int) by omega]
  exact k _ (by omega)
theorem iv_g9097edd6 {i k : Int} (x0 : Int) (x1 : Int) (e : i = 114 + 1 * x1) (e2 : k = 283 + 42 * x0 + 1 * x1) (h0 : 0 ≤ x0 ∧ x0 ≤ 29) (h1 : 0 ≤ x1 ∧ x1 ≤ 11) : (iv_a i).1 ≤ (iv_a k).1 ∧ (iv_a k).2 ≤ (iv_a i).2 := by
  have k : ∀ n0 : Nat, n0 < 30 → ∀ n1 : Nat, n1 < 12 → (iv_a (114 + 1 * (0 + (n1 : Int)))).1 ≤ (iv_a (283 + 42 * (0 + (n0 : Int)) + 1 * (0 + (n1 : Int)))).1 ∧ (iv_a (283 + 42 * (0 + (n0 : Int)) + 1 * (0 + (n1 : Int)))).2 ≤ (iv_a (114 + 1 * (0 + (n1 : Int)))).2 := by decide +kernel
  rw [e, e2, show x0 = 0 + ((x0 - 0).toNat : Int) by omega, show x1 = 0 + ((x1 - 0).toNat : Int) by omega]
  exact k _ (by omega) _ (by omega)
theorem iv_f08924d57 {i : Int} (x0 : Int) (e : i = 279 + 42 * x0) (h0 : 0 ≤ x0 ∧ x0 ≤ 29) : (-2147483648) ≤ (iv_a i).1 ∧ (iv_a i).2 ≤ 2147483647 := iv_a_F i
theorem iv_f828b7b09 {i : Int} (x0 : Int) (x1 : Int) (e : i = 14 + 3 * x0 + 1 * x1) (h0 : 0 ≤ x0 ∧ x0 ≤ 11) (h1 : 0 ≤ x1 ∧ x1 ≤ 2) : (-2147483648) ≤ (iv_a i).1 ∧ (iv_a i).2 ≤ 2147483647 := iv_a_F i
theorem iv_fc66fc3f7 {i : Int} (x0 : Int) (x1 : Int) (e : i = 50 + 4 * x0 + 1 * x1) (h0 : 0 ≤ x0 ∧ x0 ≤ 15) (h1 : 0 ≤ x1 ∧ x1 ≤ 3) : (-2147483648) ≤ (iv_a i).1 ∧ (iv_a i).2 ≤ 2147483647 := iv_a_F i
theorem iv_f2f8ad25f {i : Int} (e : i = 10) : 0 ≤ (iv_a i).1 ∧ (iv_a i).2 ≤ 6 := by
  subst e
  decide +kernel
theorem iv_fe7a41342 {i : Int} (x0 : Int) (e : i = 162 + 2 * x0) (h0 : 0 ≤ x0 ∧ x0 ≤ 5) : (iv_a i).1 ≤ 0 ∧ 11 ≤ (iv_a i).2 := by
  have k : ∀ n0 : Nat, n0 < 6 → (iv_a (162 + 2 * (0 + (n0 : Int)))).1 ≤ 0 ∧ 11 ≤ (iv_a (162 + 2 * (0 + (n0 : Int)))).2 := by decide +kernel
  rw [e, show x0 = 0 + ((x0 - 0).toNat : Int) by omega]
  exact k _ (by omega)
theorem iv_fcdead904 {i : Int} (x0 : Int) (e : i = 163 + 2 * x0) (h0 : 0 ≤ x0 ∧ x0 ≤ 5) : (iv_a i).1 ≤ (-2147483648) ∧ 2147483647 ≤ (iv_a i).2 := by
  have k : ∀ n0 : Nat, n0 < 6 → (iv_a (163 + 2 * (0 + (n0 : Int)))).1 ≤ (-2147483648) ∧ 2147483647 ≤ (iv_a (163 + 2 * (0 + (n0 : Int)))).2 := by decide +kernel
  rw [e, show x0 = 0 + ((x0 - 0).toNat : Int) by omega]
  exact k _ (by omega)
theorem iv_f38c39aa3 {i : Int} (e : i = 10) : (iv_a i).1 ≤ 0 ∧ 6 ≤ (iv_a i).2 := by
  subst e
  decide +kernel
theorem iv_f0460dfb4 {i : Int} (x0 : Int) (e : i = 162 + 2 * x0) (h0 : 0 ≤ x0 ∧ x0 ≤ 5) : 0 ≤ (iv_a i).1 ∧ (iv_a i).2 ≤ 11 := by
  have k : ∀ n0 : Nat, n0 < 6 → 0 ≤ (iv_a (162 + 2 * (0 + (n0 : Int)))).1 ∧ (iv_a (162 + 2 * (0 + (n0 : Int)))).2 ≤ 11 := by decide +kernel
  rw [e, show x0 = 0 + ((x0 - 0).toNat : Int) by omega]
  exact k _ (by omega)
theorem iv_f6604b2e4 {i : Int} (x0 : Int) (e : i = 163 + 2 * x0) (h0 : 0 ≤ x0 ∧ x0 ≤ 5) : (-2147483648) ≤ (iv_a i).1 ∧ (iv_a i).2 ≤ 2147483647 := iv_a_F i
theorem iv_fff015721 {i : Int} (x0 : Int) (e : i = 174 + 5 * x0) (h0 : 0 ≤ x0 ∧ x0 ≤ 15) : (iv_a i).1 ≤ (-2147483648) ∧ 2147483647 ≤ (iv_a i).2 := by
  have k : ∀ n0 : Nat, n0 < 16 → (iv_a (174 + 5 * (0 + (n0 : Int)))).1 ≤ (-2147483648) ∧ 2147483647 ≤ (iv_a (174 + 5 * (0 + (n0 : Int)))).2 := by decide +kernel
  rw [e, show x0 = 0 + ((x0 - 0).toNat : Int) by omega]
  exact k _ (by omega)
theorem iv_f02d2919a {i : Int} (x0 : Int) (e : i = 175 + 5 * x0) (h0 : 0 ≤ x0 ∧ x0 ≤ 15) : (iv_a i).1 ≤ (-2147483648) ∧ 2147483647 ≤ (iv_a i).2 := by
  have k : ∀ n0 : Nat, n0 < 16 → (iv_a (175 + 5 * (0 + (n0 : Int)))).1 ≤ (-2147483648) ∧ 2147483647 ≤ (iv_a (175 + 5 * (0 + (n0 : Int)))).2 := by decide +kernel
  rw [e, show x0 = 0 + ((x0 - 0).toNat : Int) by omega]
  exact k _ (by omega)
theorem iv_f63ffe759 {i : Int} (x0 : Int) (e : i = 176 + 5 * x0) (h0 : 0 ≤ x0 ∧ x0 ≤ 15) : (iv_a i).1 ≤ (-2147483648) ∧ 2147483647 ≤ (iv_a i).2 := by
  have k : ∀ n0 : Nat, n0 < 16 → (iv_a (176 + 5 * (0 + (n0 : Int)))).1 ≤ (-2147483648) ∧ 2147483647 ≤ (iv_a (176 + 5 * (0 + (n0 : Int)))).2 := by decide +kernel
  rw [e, show x0 = 0 + ((x0 - 0).toNat : Int) by omega]
  exact k _ (by omega)
theorem iv_fa9f80a67 {i : Int} (x0 : Int) (e : i = 177 + 5 * x0) (h0 : 0 ≤ x0 ∧ x0 ≤ 15) : (iv_a i).1 ≤ (-2147483648) ∧ 2147483647 ≤ (iv_a i).2 := by
  have k : ∀ n0 : Nat, n0 < 16 → (iv_a (177 + 5 * (0 + (n0 : Int)))).1 ≤ (-2147483648) ∧ 2147483647 ≤ (iv_a (177 + 5 * (0 + (n0 : Int)))).2 := by decide +kernel
  rw [e, show x0 = 0 + ((x0 - 0).toNat : Int) by omega]
  exact k _ (by omega)
theorem iv_fa7b3c3a4 {i : Int} (x0 : Int) (e : i = 178 + 5 * x0) (h0 : 0 ≤ x0 ∧ x0 ≤ 15) : (iv_a i).1 ≤ (-2147483648) ∧ 2147483647 ≤ (iv_a i).2 := by
  have k : ∀ n0 : Nat, n0 < 16 → (iv_a (178 + 5 * (0 + (n0 : Int)))).1 ≤ (-2147483648) ∧ 2147483647 ≤ (iv_a (178 + 5 * (0 + (n0 : Int)))).2 := by decide +kernel
  rw [e, show x0 = 0 + ((x0 - 0).toNat : Int) by omega]
  exact k _ (by omega)
theorem iv_f98967d40 {i : Int} (x0 : Int) (e : i = 174 + 5 * x0) (h0 : 0 ≤ x0 ∧ x0 ≤ 15) : (-2147483648) ≤ (iv_a i).1 ∧ (iv_a i).2 ≤ 2147483647 := iv_a_F i
theorem iv_fb0f36b57 {i : Int} (x0 : Int) (e : i = 177 + 5 * x0) (h0 : 0 ≤ x0 ∧ x0 ≤ 15) : (-2147483648) ≤ (iv_a i).1 ∧ (iv_a i).2 ≤ 2147483647 := iv_a_F i
theorem iv_faac196ed {i : Int} (x0 : Int) (e : i = 175 + 5 * x0) (h0 : 0 ≤ x0 ∧ x0 ≤ 15) : (-2147483648) ≤ (iv_a i).1 ∧ (iv_a i).2 ≤ 2147483647 := iv_a_F i
theorem iv_fc19a0727 {i : Int} (x0 : Int) (e : i = 178 + 5 * x0) (h0 : 0 ≤ x0 ∧ x0 ≤ 15) : (-2147483648) ≤ (iv_a i).1 ∧ (iv_a i).2 ≤ 2147483647 := iv_a_F i
theorem iv_ff3a1f278 {i : Int} (x0 : Int) (e : i = 176 + 5 * x0) (h0 : 0 ≤ x0 ∧ x0 ≤ 15) : (-2147483648) ≤ (iv_a i).1 ∧ (iv_a i).2 ≤ 2147483647 := iv_a_F i
theorem iv_f6cd46d53 {i : Int} (e : i = 11) : 0 ≤ (iv_a i).1 ∧ (iv_a i).2 ≤ 12 := by
  subst e
  decide +kernel
theorem iv_fd5258eed {i : Int} (x0 : Int) (e : i = 254 + 2 * x0) (h0 : 0 ≤ x0 ∧ x0 ≤ 11) : (iv_a i).1 ≤ (-2147483648) ∧ 2147483647 ≤ (iv_a i).2 := by
  have k : ∀ n0 : Nat, n0 < 12 → (iv_a (254 + 2 * (0 + (n0 : Int)))).1 ≤ (-2147483648) ∧ 2147483647 ≤ (iv_a (254 + 2 * (0 + (n0 : Int)))).2 := by decide +kernel
  rw [e, show x0 = 0 + ((x0 - 0).toNat : Int) by omega]
  exact k _ (by omega)
theorem iv_f84ea52dc {i : Int} (x0 : Int) (e : i = 0 + 1 * x0) (h0 : 255 ≤ x0 ∧ x0 ≤ 277) : (iv_a i).1 ≤ (-2147483648) ∧ 2147483647 ≤ (iv_a i).2 := by
  have k : ∀ n0 : Nat, n0 < 23 → (iv_a (0 + 1 * (255 + (n0 : Int)))).1 ≤ (-2147483648) ∧ 2147483647 ≤ (iv_a (0 + 1 * (255 + (n0 : Int)))).2 := by decide +kernel
  rw [e, show x0 = 255 + ((x0 - 255).toNat : Int) by omega]
  exact k _ (by omega)
theorem iv_f9442898f {i : Int} (e : i = 11) : (iv_a i).1 ≤ 0 ∧ 12 ≤ (iv_a i).2 := by
  subst e
  decide +kernel
theorem iv_fbae2c435 {i : Int} (x0 : Int) (e : i = 254 + 2 * x0) (h0 : 0 ≤ x0 ∧ x0 ≤ 11) : (-2147483648) ≤ (iv_a i).1 ∧ (iv_a i).2 ≤ 2147483647 := iv_a_F i
theorem iv_fd2f6a803 {i : Int} (x0 : Int) (e : i = 255 + 2 * x0) (h0 : 0 ≤ x0 ∧ x0 ≤ 11) : (-2147483648) ≤ (iv_a i).1 ∧ (iv_a i).2 ≤ 2147483647 := iv_a_F i
theorem iv_f82d6b47b {i : Int} (x0 : Int) (e : i = 0 + 1 * x0) (h0 : 0 ≤ x0 ∧ x0 ≤ 1537) : (-2147483648) ≤ (iv_a i).1 ∧ (iv_a i).2 ≤ 2147483647 := iv_a_F i
theorem iv_ffb2a5bae {i : Int} (x0 : Int) (e : i = 0 + 1 * x0) (h0 : 0 ≤ x0 ∧ x0 ≤ 1537) : (iv_a i).1 ≤ 0 ∧ 1 ≤ (iv_a i).2 := by
  unfold iv_a
  repeat' refine iv_itW (fun h => ?_) (fun h => ?_)
  all_goals first | exact ⟨by decide, by decide⟩ | (exfalso; omega)
theorem iv_g13b376cb {i k : Int} (x0 : Int) (e : i = 0 + 1 * x0) (e2 : k = 0 + 1 * x0) (h0 : 0 ≤ x0 ∧ x0 ≤ 1537) : (iv_a i).1 ≤ (iv_a k).1 ∧ (iv_a k).2 ≤ (iv_a i).2 := by
  generalize hq : iv_a k = q
  unfold iv_a
  repeat' refine iv_itW (fun h => ?_) (fun h => ?_)
  all_goals first | (exfalso; omega) | (rw [← hq]; exact iv_a_F k) | skip
  all_goals rw [← hq]
  all_goals unfold iv_a
  all_goals repeat' refine iv_itR (fun h => ?_) (fun h => ?_)
  all_goals first | exact ⟨by decide, by decide⟩ | (exfalso; omega)
theorem iv_fcc04e35c {i : Int} (x0 : Int) (e : i = 0 + 1 * x0) (h0 : 0 ≤ x0 ∧ x0 ≤ 11) : (-2147483648) ≤ (iv_a i).1 ∧ (iv_a i).2 ≤ 2147483647 := iv_a_F i
section IVB
variable {I : Nat → Int → Int} {P : Nat → Option Nat} {c c0 c1 : Nat} {i v : Int}
theorem lf_m39 {q r m : Int} (e : m = 39 * q + r) (h : 0 ≤ r ∧ r < 39) : m % 39 = r := by
  rw [e, Int.add_comm, Int.add_mul_emod_self_left]
  exact Int.emod_eq_of_lt h.1 h.2
theorem iv_cp23_21 {p q n : Int} (h : iv_A I P) : iv_A (lf_cp I 23 21 p q n) P := iv_copy h rfl (fun _ k => iv_s_F k)
theorem iv_wp96_96 {k : Int} (h : iv_A I P) (hp : (iv_a i).1 ≤ (iv_a k).1 ∧ (iv_a k).2 ≤ (iv_a i).2) (hr : i < 3 ∨ i = 9 ∨ (50 ≤ i ∧ i < 114 ∧ (i - 50) % 4 < 2) ∨ i = 114 ∨ i = 117 ∨ i = 120 ∨ i = 123 ∨ (278 ≤ i ∧ i < 278 + 42 * I 96 9) → iv_l (lf_up I 96 i (I 96 k)) 96) : iv_A (lf_up I 96 i (I 96 k)) P := iv_w96' h (lf_le2 hp (h.1 96 k)) hr
theorem iv_sr23 {r j : Int} (h : iv_A I P) (e : i = 39 * r + 3 * j) (h0 : 0 ≤ j) (h1 : j < 4) : I 23 i ≤ 0 ∨ 0 ≤ I 23 (i + 1) := by
  subst e
  exact h.2.2.1.2.2.1 r j h0 h1
theorem iv_S23 {J : Nat → Int → Int} (h : iv_S I) (hr : ∀ a, a ≠ 23 → J a = I a) (hs : iv_sr J 23) : iv_S J := by
  refine ⟨?_, ?_, hs, ?_, (by rw [hr 98 (by decide)]; exact h.2.2.2.2)⟩
  · unfold iv_sq; rw [hr 16 (by decide), hr 17 (by decide)]; exact h.1
  · unfold iv_sq; rw [hr 80 (by decide), hr 81 (by decide)]; exact h.2.1
  · unfold iv_sr; rw [hr 87 (by decide)]; exact h.2.2.2.1
theorem iv_wd23 (h : iv_A I P) (hv : (iv_s i).1 ≤ v ∧ v ≤ (iv_s i).2) (hr : 12 ≤ i % 39) : iv_A (lf_up I 23 i v) P := by
  refine ⟨iv_up h.1 hv, h.2.1, iv_S23 h.2.2.1 (fun a ha => lf_up_row ha) ?_, ?_, ?_⟩
  · intro r j h0 h1
    rw [lf_up_i (by omega), lf_up_i (by omega)]
    exact h.2.2.1.2.2.1 r j h0 h1
  · unfold iv_l; rw [lf_up_row (by decide)]; exact h.2.2.2.1
  · unfold iv_l; rw [lf_up_row (by decide)]; exact h.2.2.2.2
theorem iv_cp21_23 {q : Int} (h : iv_A I P) (hq : q % 39 = 24) : iv_A (lf_cp I 21 23 0 q 12) P := by
  have row : ∀ a, a ≠ 23 → lf_cp I 21 23 0 q 12 a = I a := fun a ha => funext fun b => lf_cp_c ha
  have out : ∀ j, ¬ (q ≤ j ∧ j < q + 12) → lf_cp I 21 23 0 q 12 23 j = I 23 j := by
    intro j hj
    unfold lf_cp
    rw [if_neg (fun h9 => hj h9.2)]
  refine ⟨?_, h.2.1, iv_S23 h.2.2.1 row ?_, ?_, ?_⟩
  · intro a b
    by_cases hz : a = 23 ∧ q ≤ b ∧ b < q + 12
    · obtain ⟨rfl, hb⟩ := hz
      have e : lf_cp I 21 23 0 q 12 23 b = I 21 (0 + (b - q)) := by
        unfold lf_cp
        rw [if_pos ⟨rfl, hb⟩]
      rw [e]
      have f : (iv_s b).1 ≤ -2147483648 ∧ 2147483647 ≤ (iv_s b).2 := by
        unfold iv_s
        repeat' refine iv_itW (fun h => ?_) (fun h => ?_)
        all_goals first | exact ⟨by decide, by decide⟩ | (exfalso; omega)
      exact lf_le2 f (h.1 21 (0 + (b - q)))
    · have e : lf_cp I 21 23 0 q 12 a b = I a b := by
        unfold lf_cp
        rw [if_neg hz]
      rw [e]
      exact h.1 a b
  · intro r j h0 h1
    rw [out _ (by omega), out _ (by omega)]
    exact h.2.2.1.2.2.1 r j h0 h1
  · unfold iv_l; rw [row 96 (by decide)]; exact h.2.2.2.1
  · unfold iv_l; rw [row 97 (by decide)]; exact h.2.2.2.2
theorem iv_row3 {r j n p f : Int} (h : iv_A I P) (e : i = 39 * r + 3 * j) (h0 : 0 ≤ j) (h1 : j < 4) (hn : -2147483648 ≤ n ∧ n ≤ 2147483647) (hp : -1 ≤ p ∧ p ≤ 11) (hf : -1 ≤ f ∧ f ≤ 11) (hs : n ≤ 0 ∨ 0 ≤ p) (hi : 0 ≤ i ∧ i + 2 < 1170) : iv_A (lf_up (lf_up (lf_up I 23 i n) 23 (i + 1) p) 23 (i + 2) f) P := by
  have row : ∀ a, a ≠ 23 → lf_up (lf_up (lf_up I 23 i n) 23 (i + 1) p) 23 (i + 2) f a = I a := fun a ha => by rw [lf_up_row ha, lf_up_row ha, lf_up_row ha]
  have k : ∀ m v L H : Int, (iv_s m).1 ≤ L ∧ H ≤ (iv_s m).2 → L ≤ v ∧ v ≤ H → (iv_s m).1 ≤ v ∧ v ≤ (iv_s m).2 := fun m v L H a b => lf_le2 a b
  have f0 : (iv_s i).1 ≤ -2147483648 ∧ 2147483647 ≤ (iv_s i).2 := by
    unfold iv_s
    repeat' refine iv_itW (fun h => ?_) (fun h => ?_)
    all_goals first | exact ⟨by decide, by decide⟩ | (exfalso; omega)
  have f1 : (iv_s (i + 1)).1 ≤ -1 ∧ 11 ≤ (iv_s (i + 1)).2 := by
    unfold iv_s
    repeat' refine iv_itW (fun h => ?_) (fun h => ?_)
    all_goals exact ⟨by decide, by decide⟩
  have f2 : (iv_s (i + 2)).1 ≤ -1 ∧ 11 ≤ (iv_s (i + 2)).2 := by
    unfold iv_s
    repeat' refine iv_itW (fun h => ?_) (fun h => ?_)
    all_goals exact ⟨by decide, by decide⟩
  refine ⟨iv_up (c := 23) (iv_up (c := 23) (iv_up (c := 23) h.1 (lf_le2 f0 hn)) (lf_le2 f1 hp)) (lf_le2 f2 hf), h.2.1, iv_S23 h.2.2.1 row ?_, ?_, ?_⟩
  · intro r' j' h0' h1'
    have e2 : ∀ m, m ≠ i → m ≠ i + 1 → m ≠ i + 2 → lf_up (lf_up (lf_up I 23 i n) 23 (i + 1) p) 23 (i + 2) f 23 m = I 23 m := fun m a b c => by rw [lf_up_i c, lf_up_i b, lf_up_i a]
    by_cases hq : 39 * r' + 3 * j' = i
    · rw [hq, lf_up_i (by omega), lf_up_i (by omega), lf_up_s, lf_up_i (by omega), lf_up_s]
      exact hs
    · rw [e2 _ (by omega) (by omega) (by omega), e2 _ (by omega) (by omega) (by omega)]
      exact h.2.2.1.2.2.1 r' j' h0' h1'
  · unfold iv_l; rw [row 96 (by decide)]; exact h.2.2.2.1
  · unfold iv_l; rw [row 97 (by decide)]; exact h.2.2.2.2
theorem iv_put {j n p f : Int} (h : iv_A I P) (hn : -2147483648 ≤ n ∧ n ≤ 2147483647) (hp : -1 ≤ p ∧ p ≤ 11) (hf : -1 ≤ f ∧ f ≤ 11) (hs : n ≤ 0 ∨ 0 ≤ p) : iv_A (lf_up (lf_up (lf_up I 16 j n) 17 j p) 18 j f) P := by
  have h1 : iv_A (lf_up I 16 j 0) P := iv_w16 h (by omega) (by omega)
  have h2 : iv_A (lf_up (lf_up I 16 j 0) 17 j p) P := iv_w17 h1 hp (by rw [lf_up_s]; omega)
  have h3 : iv_A (lf_up (lf_up (lf_up I 16 j 0) 17 j p) 16 j n) P := iv_w16 h2 hn (by rw [lf_up_s]; exact hs)
  have e : lf_up (lf_up (lf_up I 16 j 0) 17 j p) 16 j n = lf_up (lf_up I 16 j n) 17 j p := by
    funext a b
    by_cases ha : a = 16
    · subst ha
      by_cases hb : b = j
      · subst hb; rw [lf_up_s, lf_up_c (by decide), lf_up_s]
      · rw [lf_up_i hb, lf_up_c (by decide), lf_up_i hb, lf_up_c (by decide), lf_up_i hb]
    · rw [lf_up_c ha]
      by_cases ha2 : a = 17
      · subst ha2
        by_cases hb : b = j
        · subst hb; rw [lf_up_s, lf_up_s]
        · rw [lf_up_i hb, lf_up_i hb, lf_up_c (by decide), lf_up_c (by decide)]
      · rw [lf_up_c ha2, lf_up_c ha2, lf_up_c ha, lf_up_c ha]
  rw [e] at h3
  exact iv_wr h3 rfl hf
theorem iv_cp2 {a b : Nat} (h : iv_A I P) (hq : a = 16 ∧ b = 80 ∨ a = 80 ∧ b = 16) : iv_A (lf_cp (lf_cp I a b 0 0 4) (a + 1) (b + 1) 0 0 4) P := by
  have cpE : ∀ {J : Nat → Int → Int} {x y : Nat} {j : Int}, lf_cp J x y 0 0 4 y j = if 0 ≤ j ∧ j < 4 then J x j else J y j := by
    intro J x y j
    unfold lf_cp
    by_cases hj : 0 ≤ j ∧ j < 0 + 4
    · rw [if_pos ⟨rfl, hj⟩, if_pos (by omega), show (0 : Int) + (j - 0) = j by omega]
    · rw [if_neg (fun h9 => hj h9.2), if_neg (by omega)]
  have row : ∀ c, c ≠ b → c ≠ b + 1 → lf_cp (lf_cp I a b 0 0 4) (a + 1) (b + 1) 0 0 4 c = I c := fun c h1 h2 => funext fun x => by rw [lf_cp_c h2, lf_cp_c h1]
  have ev : ∀ j, lf_cp (lf_cp I a b 0 0 4) (a + 1) (b + 1) 0 0 4 b j = if 0 ≤ j ∧ j < 4 then I a j else I b j := fun j => by rw [lf_cp_c (by omega), cpE]
  have ev2 : ∀ j, lf_cp (lf_cp I a b 0 0 4) (a + 1) (b + 1) 0 0 4 (b + 1) j = if 0 ≤ j ∧ j < 4 then I (a + 1) j else I (b + 1) j := by
    intro j
    rw [cpE]
    rcases hq with ⟨rfl, rfl⟩ | ⟨rfl, rfl⟩
    · rw [lf_cp_c (by decide), lf_cp_c (by decide)]
    · rw [lf_cp_c (by decide), lf_cp_c (by decide)]
  have hI : iv_I (lf_cp (lf_cp I a b 0 0 4) (a + 1) (b + 1) 0 0 4) := by
    intro c j
    by_cases h1 : c = b
    · subst h1
      rw [ev]
      by_cases hj : 0 ≤ j ∧ j < 4
      · rw [if_pos hj]
        rcases hq with ⟨rfl, rfl⟩ | ⟨rfl, rfl⟩
        · exact h.1 16 j
        · exact h.1 80 j
      · rw [if_neg hj]; exact h.1 c j
    · by_cases h2 : c = b + 1
      · subst h2
        rw [ev2]
        by_cases hj : 0 ≤ j ∧ j < 4
        · rw [if_pos hj]
          rcases hq with ⟨rfl, rfl⟩ | ⟨rfl, rfl⟩
          · exact h.1 17 j
          · exact h.1 81 j
        · rw [if_neg hj]; exact h.1 (b + 1) j
      · rw [row c h1 h2]; exact h.1 c j
  obtain ⟨s1, s2, s3, s4, s5⟩ := h.2.2.1
  rcases hq with ⟨rfl, rfl⟩ | ⟨rfl, rfl⟩
  · refine ⟨hI, h.2.1, ⟨?_, ?_, ?_, ?_, (by rw [row 98 (by decide) (by decide)]; exact s5)⟩, ?_, ?_⟩
    · unfold iv_sq; rw [row 16 (by decide) (by decide), row 17 (by decide) (by decide)]; exact s1
    · intro j h0 h1; rw [ev, ev2, if_pos ⟨h0, h1⟩, if_pos ⟨h0, h1⟩]; exact s1 j h0 h1
    · unfold iv_sr; rw [row 23 (by decide) (by decide)]; exact s3
    · unfold iv_sr; rw [row 87 (by decide) (by decide)]; exact s4
    · unfold iv_l; rw [row 96 (by decide) (by decide)]; exact h.2.2.2.1
    · unfold iv_l; rw [row 97 (by decide) (by decide)]; exact h.2.2.2.2
  · refine ⟨hI, h.2.1, ⟨?_, ?_, ?_, ?_, (by rw [row 98 (by decide) (by decide)]; exact s5)⟩, ?_, ?_⟩
    · intro j h0 h1; rw [ev, ev2, if_pos ⟨h0, h1⟩, if_pos ⟨h0, h1⟩]; exact s2 j h0 h1
    · unfold iv_sq; rw [row 80 (by decide) (by decide), row 81 (by decide) (by decide)]; exact s2
    · unfold iv_sr; rw [row 23 (by decide) (by decide)]; exact s3
    · unfold iv_sr; rw [row 87 (by decide) (by decide)]; exact s4
    · unfold iv_l; rw [row 96 (by decide) (by decide)]; exact h.2.2.2.1
    · unfold iv_l; rw [row 97 (by decide) (by decide)]; exact h.2.2.2.2
end IVB
theorem iv_copyAll {c d : Nat} (hcd : c = 96 ∧ d = 97 ∨ c = 97 ∧ d = 96) {I I' : Nat → Int → Int} {P : Nat → Option Nat} (h : iv_A I P) (hr : ∀ a, a ≠ d → I' a = I a) (hd : ∀ j : Int, 0 ≤ j → j < 1538 → I' d j = I c j) (ho : ∀ j : Int, ¬ (0 ≤ j ∧ j < 1538) → I' d j = I d j) : iv_A I' P := by
  have hI : iv_I I' := by
    intro a j
    by_cases ha : a = d
    · subst ha
      by_cases hj : 0 ≤ j ∧ j < 1538
      · rw [hd j hj.1 hj.2]
        rcases hcd with ⟨rfl, rfl⟩ | ⟨rfl, rfl⟩
        · exact h.1 96 j
        · exact h.1 97 j
      · rw [ho j hj]; exact h.1 a j
    · rw [hr a ha]; exact h.1 a j
  have hl : iv_l I' d := by
    refine ⟨?_, fun w h0 h1 h2 => ?_, ?_⟩
    · rw [hd 0 (by decide) (by decide), hd 1 (by decide) (by decide), hd 2 (by decide) (by decide)]
      rcases hcd with ⟨rfl, rfl⟩ | ⟨rfl, rfl⟩
      · exact h.2.2.2.1.1
      · exact h.2.2.2.2.1
    · rw [hd 1 (by decide) (by decide)] at h2
      rw [hd 0 (by decide) (by decide), hd _ (by omega) (by omega), hd _ (by omega) (by omega)]
      rcases hcd with ⟨rfl, rfl⟩ | ⟨rfl, rfl⟩
      · exact h.2.2.2.1.2.1 w h0 h1 h2
      · exact h.2.2.2.2.2.1 w h0 h1 h2
    · have q : ∀ {f : Int → Int}, f 9 ≤ 30 → iv_sz f → (∀ j : Int, 0 ≤ j → j < 1538 → I' d j = f j) → iv_sz (I' d) := by
        intro f h9 hz hf
        refine ⟨?_, fun r h0 h1 => ?_⟩
        · unfold iv_s4
          rw [hf _ (by omega) (by omega), hf _ (by omega) (by omega), hf _ (by omega) (by omega), hf _ (by omega) (by omega)]
          exact hz.1
        · rw [hf 9 (by decide) (by decide)] at h1
          unfold iv_s4
          rw [hf _ (by omega) (by omega), hf _ (by omega) (by omega), hf _ (by omega) (by omega), hf _ (by omega) (by omega)]
          exact hz.2 r h0 h1
      rcases hcd with ⟨rfl, rfl⟩ | ⟨rfl, rfl⟩
      · exact q (h.1 96 9).2 h.2.2.2.1.2.2 hd
      · exact q (h.1 97 9).2 h.2.2.2.2.2.2 hd
  have hS : iv_S I' := by
    rcases hcd with ⟨rfl, rfl⟩ | ⟨rfl, rfl⟩ <;> exact iv_Sc h.2.2.1 (hr _ (by decide)) (hr _ (by decide)) (hr _ (by decide)) (hr _ (by decide)) (hr _ (by decide)) (hr _ (by decide)) (hr _ (by decide))
  rcases hcd with ⟨rfl, rfl⟩ | ⟨rfl, rfl⟩
  · exact ⟨hI, h.2.1, hS, by unfold iv_l; rw [hr 96 (by decide)]; exact h.2.2.2.1, hl⟩
  · exact ⟨hI, h.2.1, hS, hl, by unfold iv_l; rw [hr 97 (by decide)]; exact h.2.2.2.2⟩
theorem lf_wlI {a : Int} : lf_wl (lf_wl a) = lf_wl a := by
  unfold lf_wl
  rw [Int64.ofInt_toInt]
theorem lf_wlR {a : Int} (h : -9223372036854775808 ≤ a ∧ a ≤ 9223372036854775807) : lf_wl a = a := Int64.toInt_ofInt_of_le h.1 (Int.lt_add_one_of_le h.2)
theorem lf_wlRL (a : Int) : -9223372036854775808 ≤ lf_wl a ∧ lf_wl a ≤ 9223372036854775807 := lf_RL_i _
theorem lf_hasN : ∀ a : Fin 64, ∀ b : Fin 32, 6 ≤ b.val → lf_and (lf_shr (a.val : Int) (b.val : Int)) 1 ≠ 1 := by decide +kernel
theorem lf_hasB {a b : Int} (h : lf_and (lf_shr a b) 1 = 1) : 64 ≤ a ∨ a < 0 ∨ b < 0 ∨ 31 < b ∨ b < 6 := by
  by_cases h1 : 0 ≤ a ∧ a < 64 ∧ 6 ≤ b ∧ b ≤ 31
  · obtain ⟨m, rfl⟩ := Int.eq_ofNat_of_zero_le h1.1
    obtain ⟨k, rfl⟩ := Int.eq_ofNat_of_zero_le (show 0 ≤ b by omega)
    exact absurd h (lf_hasN ⟨m, by omega⟩ ⟨k, by omega⟩ (by show 6 ≤ k; omega))
  · omega
theorem lf_andF {a b : Int} : -2147483648 ≤ lf_and a b ∧ lf_and a b ≤ 2147483647 := lf_R_i _
theorem iv_l96_1 {I : Nat → Int → Int} {P : Nat → Option Nat} (h : iv_A I P) : I 96 1 ≤ 0 ∨ 0 < I 96 0 := by
  have k : 0 < I 96 1 ∨ 0 < I 96 2 → 0 < I 96 0 := h.2.2.2.1.1
  by_cases h1 : 0 < I 96 1
  · exact Or.inr (k (Or.inl h1))
  · exact Or.inl (by omega)
theorem iv_l96_2 {I : Nat → Int → Int} {P : Nat → Option Nat} (h : iv_A I P) : I 96 2 ≤ 0 ∨ 0 < I 96 0 := by
  have k : 0 < I 96 1 ∨ 0 < I 96 2 → 0 < I 96 0 := h.2.2.2.1.1
  by_cases h1 : 0 < I 96 2
  · exact Or.inr (k (Or.inr h1))
  · exact Or.inl (by omega)
section IVB
variable {I : Nat → Int → Int} {P : Nat → Option Nat} {c c0 c1 : Nat} {i v : Int}
theorem iv_wTA36 {t : Nat} (h : iv_A I P) (ht : t < 4) (hv : -2147483648 ≤ v ∧ v ≤ 2147483647) : iv_A (lf_up I (36 + 7 * t) i v) P := by
  match t, ht with
  | 0, _ => exact iv_wr h rfl hv
  | 1, _ => exact iv_wr h rfl hv
  | 2, _ => exact iv_wr h rfl hv
  | 3, _ => exact iv_wr h rfl hv
theorem iv_flT36 {t : Nat} {n : Int} (h : iv_A I P) (ht : t < 4) (hv : -2147483648 ≤ v ∧ v ≤ 2147483647) : iv_A (lf_fl I (36 + 7 * t) n v) P := by
  match t, ht with
  | 0, _ => exact iv_fill h rfl (fun _ => hv)
  | 1, _ => exact iv_fill h rfl (fun _ => hv)
  | 2, _ => exact iv_fill h rfl (fun _ => hv)
  | 3, _ => exact iv_fill h rfl (fun _ => hv)
theorem iv_wTA37 {t : Nat} (h : iv_A I P) (ht : t < 4) (hv : -2147483648 ≤ v ∧ v ≤ 2147483647) : iv_A (lf_up I (37 + 7 * t) i v) P := by
  match t, ht with
  | 0, _ => exact iv_wr h rfl hv
  | 1, _ => exact iv_wr h rfl hv
  | 2, _ => exact iv_wr h rfl hv
  | 3, _ => exact iv_wr h rfl hv
theorem iv_flT37 {t : Nat} {n : Int} (h : iv_A I P) (ht : t < 4) (hv : -2147483648 ≤ v ∧ v ≤ 2147483647) : iv_A (lf_fl I (37 + 7 * t) n v) P := by
  match t, ht with
  | 0, _ => exact iv_fill h rfl (fun _ => hv)
  | 1, _ => exact iv_fill h rfl (fun _ => hv)
  | 2, _ => exact iv_fill h rfl (fun _ => hv)
  | 3, _ => exact iv_fill h rfl (fun _ => hv)
theorem iv_wTA38 {t : Nat} (h : iv_A I P) (ht : t < 4) (hv : -2147483648 ≤ v ∧ v ≤ 2147483647) : iv_A (lf_up I (38 + 7 * t) i v) P := by
  match t, ht with
  | 0, _ => exact iv_wr h rfl hv
  | 1, _ => exact iv_wr h rfl hv
  | 2, _ => exact iv_wr h rfl hv
  | 3, _ => exact iv_wr h rfl hv
theorem iv_flT38 {t : Nat} {n : Int} (h : iv_A I P) (ht : t < 4) (hv : -2147483648 ≤ v ∧ v ≤ 2147483647) : iv_A (lf_fl I (38 + 7 * t) n v) P := by
  match t, ht with
  | 0, _ => exact iv_fill h rfl (fun _ => hv)
  | 1, _ => exact iv_fill h rfl (fun _ => hv)
  | 2, _ => exact iv_fill h rfl (fun _ => hv)
  | 3, _ => exact iv_fill h rfl (fun _ => hv)
theorem iv_wTA39 {t : Nat} (h : iv_A I P) (ht : t < 4) (hv : -2147483648 ≤ v ∧ v ≤ 2147483647) : iv_A (lf_up I (39 + 7 * t) i v) P := by
  match t, ht with
  | 0, _ => exact iv_wr h rfl hv
  | 1, _ => exact iv_wr h rfl hv
  | 2, _ => exact iv_wr h rfl hv
  | 3, _ => exact iv_wr h rfl hv
theorem iv_flT39 {t : Nat} {n : Int} (h : iv_A I P) (ht : t < 4) (hv : -2147483648 ≤ v ∧ v ≤ 2147483647) : iv_A (lf_fl I (39 + 7 * t) n v) P := by
  match t, ht with
  | 0, _ => exact iv_fill h rfl (fun _ => hv)
  | 1, _ => exact iv_fill h rfl (fun _ => hv)
  | 2, _ => exact iv_fill h rfl (fun _ => hv)
  | 3, _ => exact iv_fill h rfl (fun _ => hv)
theorem iv_wTA40 {t : Nat} (h : iv_A I P) (ht : t < 4) (hv : -2147483648 ≤ v ∧ v ≤ 2147483647) : iv_A (lf_up I (40 + 7 * t) i v) P := by
  match t, ht with
  | 0, _ => exact iv_wr h rfl hv
  | 1, _ => exact iv_wr h rfl hv
  | 2, _ => exact iv_wr h rfl hv
  | 3, _ => exact iv_wr h rfl hv
theorem iv_flT40 {t : Nat} {n : Int} (h : iv_A I P) (ht : t < 4) (hv : -2147483648 ≤ v ∧ v ≤ 2147483647) : iv_A (lf_fl I (40 + 7 * t) n v) P := by
  match t, ht with
  | 0, _ => exact iv_fill h rfl (fun _ => hv)
  | 1, _ => exact iv_fill h rfl (fun _ => hv)
  | 2, _ => exact iv_fill h rfl (fun _ => hv)
  | 3, _ => exact iv_fill h rfl (fun _ => hv)
theorem iv_wTA41 {t : Nat} (h : iv_A I P) (ht : t < 4) (hv : -2147483648 ≤ v ∧ v ≤ 2147483647) : iv_A (lf_up I (41 + 7 * t) i v) P := by
  match t, ht with
  | 0, _ => exact iv_wr h rfl hv
  | 1, _ => exact iv_wr h rfl hv
  | 2, _ => exact iv_wr h rfl hv
  | 3, _ => exact iv_wr h rfl hv
theorem iv_flT41 {t : Nat} {n : Int} (h : iv_A I P) (ht : t < 4) (hv : -2147483648 ≤ v ∧ v ≤ 2147483647) : iv_A (lf_fl I (41 + 7 * t) n v) P := by
  match t, ht with
  | 0, _ => exact iv_fill h rfl (fun _ => hv)
  | 1, _ => exact iv_fill h rfl (fun _ => hv)
  | 2, _ => exact iv_fill h rfl (fun _ => hv)
  | 3, _ => exact iv_fill h rfl (fun _ => hv)
theorem iv_r2 (h : iv_A I P) (i : Int) : 0 ≤ I 2 i ∧ I 2 i ≤ 3 := h.1 2 i
theorem iv_r3 (h : iv_A I P) (i : Int) : 0 ≤ I 3 i ∧ I 3 i ≤ 99 := h.1 3 i
theorem iv_r4 (h : iv_A I P) (i : Int) : 0 ≤ I 4 i ∧ I 4 i ≤ 11 := h.1 4 i
theorem iv_r5 (h : iv_A I P) (i : Int) : 0 ≤ I 5 i ∧ I 5 i ≤ 11 := h.1 5 i
theorem iv_r6 (h : iv_A I P) (i : Int) : 0 ≤ I 6 i ∧ I 6 i ≤ 1 := h.1 6 i
theorem iv_r7 (h : iv_A I P) (i : Int) : 0 ≤ I 7 i ∧ I 7 i ≤ 9 := h.1 7 i
theorem iv_r8 (h : iv_A I P) (i : Int) : 0 ≤ I 8 i ∧ I 8 i ≤ 1 := h.1 8 i
theorem iv_r9 (h : iv_A I P) (i : Int) : 0 ≤ I 9 i ∧ I 9 i ≤ 1 := h.1 9 i
theorem iv_r10 (h : iv_A I P) (i : Int) : 0 ≤ I 10 i ∧ I 10 i ≤ 11 := h.1 10 i
theorem iv_r11 (h : iv_A I P) (i : Int) : 0 ≤ I 11 i ∧ I 11 i ≤ 15 := h.1 11 i
theorem iv_r12 (h : iv_A I P) (i : Int) : 0 ≤ I 12 i ∧ I 12 i ≤ 4 := h.1 12 i
theorem iv_r13 (h : iv_A I P) (i : Int) : 0 ≤ I 13 i ∧ I 13 i ≤ 1000 := h.1 13 i
theorem iv_r14 (h : iv_A I P) (i : Int) : 0 ≤ I 14 i ∧ I 14 i ≤ 1000 := h.1 14 i
theorem iv_r17 (h : iv_A I P) (i : Int) : (-1) ≤ I 17 i ∧ I 17 i ≤ 11 := h.1 17 i
theorem iv_r18 (h : iv_A I P) (i : Int) : (-1) ≤ I 18 i ∧ I 18 i ≤ 11 := h.1 18 i
theorem iv_r24 (h : iv_A I P) (i : Int) : 0 ≤ I 24 i ∧ I 24 i ≤ 6 := h.1 24 i
theorem iv_r32 (h : iv_A I P) (i : Int) : 0 ≤ I 32 i ∧ I 32 i ≤ 255 := h.1 32 i
theorem iv_r33 (h : iv_A I P) (i : Int) : (-1) ≤ I 33 i ∧ I 33 i ≤ 7 := h.1 33 i
theorem iv_r70 (h : iv_A I P) (i : Int) : 0 ≤ I 70 i ∧ I 70 i ≤ 155 := h.1 70 i
theorem iv_r76 (h : iv_A I P) (i : Int) : 0 ≤ I 76 i ∧ I 76 i ≤ 5 := h.1 76 i
theorem iv_r77 (h : iv_A I P) (i : Int) : 0 ≤ I 77 i ∧ I 77 i ≤ 5 := h.1 77 i
theorem iv_r81 (h : iv_A I P) (i : Int) : (-1) ≤ I 81 i ∧ I 81 i ≤ 11 := h.1 81 i
theorem iv_r82 (h : iv_A I P) (i : Int) : (-1) ≤ I 82 i ∧ I 82 i ≤ 11 := h.1 82 i
theorem iv_r88 (h : iv_A I P) (i : Int) : 0 ≤ I 88 i ∧ I 88 i ≤ 6 := h.1 88 i
theorem iv_r99 (h : iv_A I P) (i : Int) : 0 ≤ I 99 i ∧ I 99 i ≤ 255 := h.1 99 i
theorem iv_r100 (h : iv_A I P) (i : Int) : 0 ≤ I 100 i ∧ I 100 i ≤ 45 := h.1 100 i
theorem iv_r101 (h : iv_A I P) (i : Int) : 0 ≤ I 101 i ∧ I 101 i ≤ 25 := h.1 101 i
theorem iv_r102 (h : iv_A I P) (i : Int) : (-1) ≤ I 102 i ∧ I 102 i ≤ 79 := h.1 102 i
theorem iv_r103 (h : iv_A I P) (i : Int) : (-1) ≤ I 103 i ∧ I 103 i ≤ 79 := h.1 103 i
theorem iv_r107 (h : iv_A I P) (i : Int) : 0 ≤ I 107 i ∧ I 107 i ≤ 1 := h.1 107 i
theorem iv_r108 (h : iv_A I P) (i : Int) : 0 ≤ I 108 i ∧ I 108 i ≤ 1000 := h.1 108 i
theorem iv_r111 (h : iv_A I P) (i : Int) : 0 ≤ I 111 i ∧ I 111 i ≤ 1 := h.1 111 i
theorem iv_r112 (h : iv_A I P) (i : Int) : 0 ≤ I 112 i ∧ I 112 i ≤ 155 := h.1 112 i
theorem iv_r113 (h : iv_A I P) (i : Int) : 0 ≤ I 113 i ∧ I 113 i ≤ 5 := h.1 113 i
theorem iv_r114 (h : iv_A I P) (i : Int) : 0 ≤ I 114 i ∧ I 114 i ≤ 11 := h.1 114 i
theorem iv_r116 (h : iv_A I P) (i : Int) : 0 ≤ I 116 i ∧ I 116 i ≤ 5 := h.1 116 i
theorem iv_r117 (h : iv_A I P) (i : Int) : 0 ≤ I 117 i ∧ I 117 i ≤ 5 := h.1 117 i
theorem iv_r118 (h : iv_A I P) (i : Int) : 0 ≤ I 118 i ∧ I 118 i ≤ 3 := h.1 118 i
theorem iv_r115 (h : iv_A I P) (i : Int) : 0 ≤ I 115 i ∧ I 115 i ≤ 1000 := h.1 115 i
theorem iv_r119 (h : iv_A I P) (i : Int) : 0 ≤ I 119 i ∧ I 119 i ≤ 1000 := h.1 119 i
theorem iv_r0_11 (h : iv_A I P) : 0 ≤ I 0 11 ∧ I 0 11 ≤ 4 := h.1 0 11
theorem iv_r0_12 (h : iv_A I P) : (-1) ≤ I 0 12 ∧ I 0 12 ≤ 3 := h.1 0 12
theorem iv_r1_0 (h : iv_A I P) : 0 ≤ I 1 0 ∧ I 1 0 ≤ 12 := h.1 1 0
theorem iv_r1_1 (h : iv_A I P) : 0 ≤ I 1 1 ∧ I 1 1 ≤ 16 := h.1 1 1
theorem iv_r1_2 (h : iv_A I P) : 0 ≤ I 1 2 ∧ I 1 2 ≤ 6 := h.1 1 2
theorem iv_r22_2 (h : iv_A I P) : 0 ≤ I 22 2 ∧ I 22 2 ≤ 29 := h.1 22 2
theorem iv_r22_3 (h : iv_A I P) : 0 ≤ I 22 3 ∧ I 22 3 ≤ 30 := h.1 22 3
theorem iv_r25_2 (h : iv_A I P) : 0 ≤ I 25 2 ∧ I 25 2 ≤ 6 := h.1 25 2
theorem iv_r31_1 (h : iv_A I P) : 0 ≤ I 31 1 ∧ I 31 1 ≤ 300 := h.1 31 1
theorem iv_r31_6 (h : iv_A I P) : 0 ≤ I 31 6 ∧ I 31 6 ≤ 2 := h.1 31 6
theorem iv_r31_7 (h : iv_A I P) : 0 ≤ I 31 7 ∧ I 31 7 ≤ 300 := h.1 31 7
theorem iv_r31_8 (h : iv_A I P) : 0 ≤ I 31 8 ∧ I 31 8 ≤ 300 := h.1 31 8
theorem iv_r31_9 (h : iv_A I P) : 0 ≤ I 31 9 ∧ I 31 9 ≤ 300 := h.1 31 9
theorem iv_r63_6 (h : iv_A I P) : 0 ≤ I 63 6 ∧ I 63 6 ≤ 300 := h.1 63 6
theorem iv_r74_5 (h : iv_A I P) : 0 ≤ I 74 5 ∧ I 74 5 ≤ 6 := h.1 74 5
theorem iv_r78_0 (h : iv_A I P) : 0 ≤ I 78 0 ∧ I 78 0 ≤ 12 := h.1 78 0
theorem iv_r78_1 (h : iv_A I P) : 0 ≤ I 78 1 ∧ I 78 1 ≤ 16 := h.1 78 1
theorem iv_r78_2 (h : iv_A I P) : 0 ≤ I 78 2 ∧ I 78 2 ≤ 6 := h.1 78 2
theorem iv_r78_3 (h : iv_A I P) : 0 ≤ I 78 3 ∧ I 78 3 ≤ 4 := h.1 78 3
theorem iv_r78_4 (h : iv_A I P) : (-1) ≤ I 78 4 ∧ I 78 4 ≤ 3 := h.1 78 4
theorem iv_r86_2 (h : iv_A I P) : 0 ≤ I 86 2 ∧ I 86 2 ≤ 29 := h.1 86 2
theorem iv_r86_3 (h : iv_A I P) : 0 ≤ I 86 3 ∧ I 86 3 ≤ 30 := h.1 86 3
theorem iv_r89_2 (h : iv_A I P) : 0 ≤ I 89 2 ∧ I 89 2 ≤ 6 := h.1 89 2
theorem iv_r95_4 (h : iv_A I P) : 0 ≤ I 95 4 ∧ I 95 4 ≤ 300 := h.1 95 4
theorem iv_r95_7 (h : iv_A I P) : 0 ≤ I 95 7 ∧ I 95 7 ≤ 300 := h.1 95 7
theorem iv_r95_8 (h : iv_A I P) : 0 ≤ I 95 8 ∧ I 95 8 ≤ 300 := h.1 95 8
theorem iv_r95_12 (h : iv_A I P) : 0 ≤ I 95 12 ∧ I 95 12 ≤ 2115 := h.1 95 12
theorem iv_r95_13 (h : iv_A I P) : 0 ≤ I 95 13 ∧ I 95 13 ≤ 304 := h.1 95 13
theorem iv_r95_14 (h : iv_A I P) : 0 ≤ I 95 14 ∧ I 95 14 ≤ 12 := h.1 95 14
theorem iv_r95_19 (h : iv_A I P) : 0 ≤ I 95 19 ∧ I 95 19 ≤ 160 := h.1 95 19
theorem iv_r95_20 (h : iv_A I P) : 0 ≤ I 95 20 ∧ I 95 20 ≤ 8 := h.1 95 20
theorem iv_r95_21 (h : iv_A I P) : 0 ≤ I 95 21 ∧ I 95 21 ≤ 8 := h.1 95 21
theorem iv_r95_22 (h : iv_A I P) : 0 ≤ I 95 22 ∧ I 95 22 ≤ 80 := h.1 95 22
theorem iv_r95_23 (h : iv_A I P) : 0 ≤ I 95 23 ∧ I 95 23 ≤ 1 := h.1 95 23
theorem iv_r35_1 (h : iv_A I P) : 0 ≤ I 35 1 ∧ I 35 1 ≤ 300 := h.1 35 1
theorem iv_r35_7 (h : iv_A I P) : 0 ≤ I 35 7 ∧ I 35 7 ≤ 24 := h.1 35 7
theorem iv_r42_1 (h : iv_A I P) : 0 ≤ I 42 1 ∧ I 42 1 ≤ 300 := h.1 42 1
theorem iv_r42_7 (h : iv_A I P) : 0 ≤ I 42 7 ∧ I 42 7 ≤ 24 := h.1 42 7
theorem iv_r49_1 (h : iv_A I P) : 0 ≤ I 49 1 ∧ I 49 1 ≤ 300 := h.1 49 1
theorem iv_r49_7 (h : iv_A I P) : 0 ≤ I 49 7 ∧ I 49 7 ≤ 24 := h.1 49 7
theorem iv_r56_1 (h : iv_A I P) : 0 ≤ I 56 1 ∧ I 56 1 ≤ 300 := h.1 56 1
theorem iv_r56_7 (h : iv_A I P) : 0 ≤ I 56 7 ∧ I 56 7 ≤ 24 := h.1 56 7
theorem iv_w0_11 (h : iv_A I P) (hv : 0 ≤ v ∧ v ≤ 4) : iv_A (lf_up I 0 11 v) P := iv_wr h rfl hv
theorem iv_w0_12 (h : iv_A I P) (hv : (-1) ≤ v ∧ v ≤ 3) : iv_A (lf_up I 0 12 v) P := iv_wr h rfl hv
theorem iv_w1_0 (h : iv_A I P) (hv : 0 ≤ v ∧ v ≤ 12) : iv_A (lf_up I 1 0 v) P := iv_wr h rfl hv
theorem iv_w1_1 (h : iv_A I P) (hv : 0 ≤ v ∧ v ≤ 16) : iv_A (lf_up I 1 1 v) P := iv_wr h rfl hv
theorem iv_w1_2 (h : iv_A I P) (hv : 0 ≤ v ∧ v ≤ 6) : iv_A (lf_up I 1 2 v) P := iv_wr h rfl hv
theorem iv_w10 (h : iv_A I P) (hv : 0 ≤ v ∧ v ≤ 11) : iv_A (lf_up I 10 i v) P := iv_wr h rfl hv
theorem iv_w100 (h : iv_A I P) (hv : 0 ≤ v ∧ v ≤ 45) : iv_A (lf_up I 100 i v) P := iv_wr h rfl hv
theorem iv_w101 (h : iv_A I P) (hv : 0 ≤ v ∧ v ≤ 25) : iv_A (lf_up I 101 i v) P := iv_wr h rfl hv
theorem iv_w102 (h : iv_A I P) (hv : (-1) ≤ v ∧ v ≤ 79) : iv_A (lf_up I 102 i v) P := iv_wr h rfl hv
theorem iv_w103 (h : iv_A I P) (hv : (-1) ≤ v ∧ v ≤ 79) : iv_A (lf_up I 103 i v) P := iv_wr h rfl hv
theorem iv_w104 (h : iv_A I P) (hv : (-2147483648) ≤ v ∧ v ≤ 2147483647) : iv_A (lf_up I 104 i v) P := iv_wr h rfl hv
theorem iv_w107 (h : iv_A I P) (hv : 0 ≤ v ∧ v ≤ 1) : iv_A (lf_up I 107 i v) P := iv_wr h rfl hv
theorem iv_w108 (h : iv_A I P) (hv : 0 ≤ v ∧ v ≤ 1000) : iv_A (lf_up I 108 i v) P := iv_wr h rfl hv
theorem iv_w11 (h : iv_A I P) (hv : 0 ≤ v ∧ v ≤ 15) : iv_A (lf_up I 11 i v) P := iv_wr h rfl hv
theorem iv_w111 (h : iv_A I P) (hv : 0 ≤ v ∧ v ≤ 1) : iv_A (lf_up I 111 i v) P := iv_wr h rfl hv
theorem iv_w112 (h : iv_A I P) (hv : 0 ≤ v ∧ v ≤ 155) : iv_A (lf_up I 112 i v) P := iv_wr h rfl hv
theorem iv_w113 (h : iv_A I P) (hv : 0 ≤ v ∧ v ≤ 5) : iv_A (lf_up I 113 i v) P := iv_wr h rfl hv
theorem iv_w114 (h : iv_A I P) (hv : 0 ≤ v ∧ v ≤ 11) : iv_A (lf_up I 114 i v) P := iv_wr h rfl hv
theorem iv_w115 (h : iv_A I P) (hv : 0 ≤ v ∧ v ≤ 1000) : iv_A (lf_up I 115 i v) P := iv_wr h rfl hv
theorem iv_w116 (h : iv_A I P) (hv : 0 ≤ v ∧ v ≤ 5) : iv_A (lf_up I 116 i v) P := iv_wr h rfl hv
theorem iv_w117 (h : iv_A I P) (hv : 0 ≤ v ∧ v ≤ 5) : iv_A (lf_up I 117 i v) P := iv_wr h rfl hv
theorem iv_w118 (h : iv_A I P) (hv : 0 ≤ v ∧ v ≤ 3) : iv_A (lf_up I 118 i v) P := iv_wr h rfl hv
theorem iv_w119 (h : iv_A I P) (hv : 0 ≤ v ∧ v ≤ 1000) : iv_A (lf_up I 119 i v) P := iv_wr h rfl hv
theorem iv_w12 (h : iv_A I P) (hv : 0 ≤ v ∧ v ≤ 4) : iv_A (lf_up I 12 i v) P := iv_wr h rfl hv
theorem iv_w13 (h : iv_A I P) (hv : 0 ≤ v ∧ v ≤ 1000) : iv_A (lf_up I 13 i v) P := iv_wr h rfl hv
theorem iv_w14 (h : iv_A I P) (hv : 0 ≤ v ∧ v ≤ 1000) : iv_A (lf_up I 14 i v) P := iv_wr h rfl hv
theorem iv_w15_6 (h : iv_A I P) (hv : (-2147483648) ≤ v ∧ v ≤ 2147483647) : iv_A (lf_up I 15 6 v) P := iv_wr h rfl hv
theorem iv_w15_7 (h : iv_A I P) (hv : (-2147483648) ≤ v ∧ v ≤ 2147483647) : iv_A (lf_up I 15 7 v) P := iv_wr h rfl hv
theorem iv_w15_8 (h : iv_A I P) (hv : (-2147483648) ≤ v ∧ v ≤ 2147483647) : iv_A (lf_up I 15 8 v) P := iv_wr h rfl hv
theorem iv_w18 (h : iv_A I P) (hv : (-1) ≤ v ∧ v ≤ 11) : iv_A (lf_up I 18 i v) P := iv_wr h rfl hv
theorem iv_w19 (h : iv_A I P) (hv : (-2147483648) ≤ v ∧ v ≤ 2147483647) : iv_A (lf_up I 19 i v) P := iv_wr h rfl hv
theorem iv_w2 (h : iv_A I P) (hv : 0 ≤ v ∧ v ≤ 3) : iv_A (lf_up I 2 i v) P := iv_wr h rfl hv
theorem iv_w20 (h : iv_A I P) (hv : (-2147483648) ≤ v ∧ v ≤ 2147483647) : iv_A (lf_up I 20 i v) P := iv_wr h rfl hv
theorem iv_w21 (h : iv_A I P) (hv : (-2147483648) ≤ v ∧ v ≤ 2147483647) : iv_A (lf_up I 21 i v) P := iv_wr h rfl hv
theorem iv_w22_2 (h : iv_A I P) (hv : 0 ≤ v ∧ v ≤ 29) : iv_A (lf_up I 22 2 v) P := iv_wr h rfl hv
theorem iv_w22_3 (h : iv_A I P) (hv : 0 ≤ v ∧ v ≤ 30) : iv_A (lf_up I 22 3 v) P := iv_wr h rfl hv
theorem iv_w24 (h : iv_A I P) (hv : 0 ≤ v ∧ v ≤ 6) : iv_A (lf_up I 24 i v) P := iv_wr h rfl hv
theorem iv_w25_2 (h : iv_A I P) (hv : 0 ≤ v ∧ v ≤ 6) : iv_A (lf_up I 25 2 v) P := iv_wr h rfl hv
theorem iv_w26 (h : iv_A I P) (hv : (-2147483648) ≤ v ∧ v ≤ 2147483647) : iv_A (lf_up I 26 i v) P := iv_wr h rfl hv
theorem iv_w27 (h : iv_A I P) (hv : (-2147483648) ≤ v ∧ v ≤ 2147483647) : iv_A (lf_up I 27 i v) P := iv_wr h rfl hv
theorem iv_w28 (h : iv_A I P) (hv : (-2147483648) ≤ v ∧ v ≤ 2147483647) : iv_A (lf_up I 28 i v) P := iv_wr h rfl hv
theorem iv_w29 (h : iv_A I P) (hv : (-2147483648) ≤ v ∧ v ≤ 2147483647) : iv_A (lf_up I 29 i v) P := iv_wr h rfl hv
theorem iv_w3 (h : iv_A I P) (hv : 0 ≤ v ∧ v ≤ 99) : iv_A (lf_up I 3 i v) P := iv_wr h rfl hv
theorem iv_w30 (h : iv_A I P) (hv : (-2147483648) ≤ v ∧ v ≤ 2147483647) : iv_A (lf_up I 30 i v) P := iv_wr h rfl hv
theorem iv_w31_1 (h : iv_A I P) (hv : 0 ≤ v ∧ v ≤ 300) : iv_A (lf_up I 31 1 v) P := iv_wr h rfl hv
theorem iv_w31_10 (h : iv_A I P) (hv : (-2147483648) ≤ v ∧ v ≤ 2147483647) : iv_A (lf_up I 31 10 v) P := iv_wr h rfl hv
theorem iv_w31_2 (h : iv_A I P) (hv : (-2147483648) ≤ v ∧ v ≤ 2147483647) : iv_A (lf_up I 31 2 v) P := iv_wr h rfl hv
theorem iv_w31_3 (h : iv_A I P) (hv : (-2147483648) ≤ v ∧ v ≤ 2147483647) : iv_A (lf_up I 31 3 v) P := iv_wr h rfl hv
theorem iv_w31_6 (h : iv_A I P) (hv : 0 ≤ v ∧ v ≤ 2) : iv_A (lf_up I 31 6 v) P := iv_wr h rfl hv
theorem iv_w31_7 (h : iv_A I P) (hv : 0 ≤ v ∧ v ≤ 300) : iv_A (lf_up I 31 7 v) P := iv_wr h rfl hv
theorem iv_w31_8 (h : iv_A I P) (hv : 0 ≤ v ∧ v ≤ 300) : iv_A (lf_up I 31 8 v) P := iv_wr h rfl hv
theorem iv_w31_9 (h : iv_A I P) (hv : 0 ≤ v ∧ v ≤ 300) : iv_A (lf_up I 31 9 v) P := iv_wr h rfl hv
theorem iv_w32 (h : iv_A I P) (hv : 0 ≤ v ∧ v ≤ 255) : iv_A (lf_up I 32 i v) P := iv_wr h rfl hv
theorem iv_w33 (h : iv_A I P) (hv : (-1) ≤ v ∧ v ≤ 7) : iv_A (lf_up I 33 i v) P := iv_wr h rfl hv
theorem iv_w4 (h : iv_A I P) (hv : 0 ≤ v ∧ v ≤ 11) : iv_A (lf_up I 4 i v) P := iv_wr h rfl hv
theorem iv_w5 (h : iv_A I P) (hv : 0 ≤ v ∧ v ≤ 11) : iv_A (lf_up I 5 i v) P := iv_wr h rfl hv
theorem iv_w6 (h : iv_A I P) (hv : 0 ≤ v ∧ v ≤ 1) : iv_A (lf_up I 6 i v) P := iv_wr h rfl hv
theorem iv_w63_6 (h : iv_A I P) (hv : 0 ≤ v ∧ v ≤ 300) : iv_A (lf_up I 63 6 v) P := iv_wr h rfl hv
theorem iv_w64 (h : iv_A I P) (hv : (-2147483648) ≤ v ∧ v ≤ 2147483647) : iv_A (lf_up I 64 i v) P := iv_wr h rfl hv
theorem iv_w65 (h : iv_A I P) (hv : (-2147483648) ≤ v ∧ v ≤ 2147483647) : iv_A (lf_up I 65 i v) P := iv_wr h rfl hv
theorem iv_w66 (h : iv_A I P) (hv : (-2147483648) ≤ v ∧ v ≤ 2147483647) : iv_A (lf_up I 66 i v) P := iv_wr h rfl hv
theorem iv_w68_10 (h : iv_A I P) (hv : (-2147483648) ≤ v ∧ v ≤ 2147483647) : iv_A (lf_up I 68 10 v) P := iv_wr h rfl hv
theorem iv_w68_11 (h : iv_A I P) (hv : (-2147483648) ≤ v ∧ v ≤ 2147483647) : iv_A (lf_up I 68 11 v) P := iv_wr h rfl hv
theorem iv_w68_8 (h : iv_A I P) (hv : (-2147483648) ≤ v ∧ v ≤ 2147483647) : iv_A (lf_up I 68 8 v) P := iv_wr h rfl hv
theorem iv_w68_9 (h : iv_A I P) (hv : (-2147483648) ≤ v ∧ v ≤ 2147483647) : iv_A (lf_up I 68 9 v) P := iv_wr h rfl hv
theorem iv_w69 (h : iv_A I P) (hv : (-2147483648) ≤ v ∧ v ≤ 2147483647) : iv_A (lf_up I 69 i v) P := iv_wr h rfl hv
theorem iv_w7 (h : iv_A I P) (hv : 0 ≤ v ∧ v ≤ 9) : iv_A (lf_up I 7 i v) P := iv_wr h rfl hv
theorem iv_w70 (h : iv_A I P) (hv : 0 ≤ v ∧ v ≤ 155) : iv_A (lf_up I 70 i v) P := iv_wr h rfl hv
theorem iv_w71 (h : iv_A I P) (hv : (-2147483648) ≤ v ∧ v ≤ 2147483647) : iv_A (lf_up I 71 i v) P := iv_wr h rfl hv
theorem iv_w74_5 (h : iv_A I P) (hv : 0 ≤ v ∧ v ≤ 6) : iv_A (lf_up I 74 5 v) P := iv_wr h rfl hv
theorem iv_w74_6 (h : iv_A I P) (hv : (-2147483648) ≤ v ∧ v ≤ 2147483647) : iv_A (lf_up I 74 6 v) P := iv_wr h rfl hv
theorem iv_w74_7 (h : iv_A I P) (hv : (-2147483648) ≤ v ∧ v ≤ 2147483647) : iv_A (lf_up I 74 7 v) P := iv_wr h rfl hv
theorem iv_w75 (h : iv_A I P) (hv : (-2147483648) ≤ v ∧ v ≤ 2147483647) : iv_A (lf_up I 75 i v) P := iv_wr h rfl hv
theorem iv_w76 (h : iv_A I P) (hv : 0 ≤ v ∧ v ≤ 5) : iv_A (lf_up I 76 i v) P := iv_wr h rfl hv
theorem iv_w78_0 (h : iv_A I P) (hv : 0 ≤ v ∧ v ≤ 12) : iv_A (lf_up I 78 0 v) P := iv_wr h rfl hv
theorem iv_w78_1 (h : iv_A I P) (hv : 0 ≤ v ∧ v ≤ 16) : iv_A (lf_up I 78 1 v) P := iv_wr h rfl hv
theorem iv_w78_2 (h : iv_A I P) (hv : 0 ≤ v ∧ v ≤ 6) : iv_A (lf_up I 78 2 v) P := iv_wr h rfl hv
theorem iv_w78_3 (h : iv_A I P) (hv : 0 ≤ v ∧ v ≤ 4) : iv_A (lf_up I 78 3 v) P := iv_wr h rfl hv
theorem iv_w78_4 (h : iv_A I P) (hv : (-1) ≤ v ∧ v ≤ 3) : iv_A (lf_up I 78 4 v) P := iv_wr h rfl hv
theorem iv_w79_6 (h : iv_A I P) (hv : (-2147483648) ≤ v ∧ v ≤ 2147483647) : iv_A (lf_up I 79 6 v) P := iv_wr h rfl hv
theorem iv_w79_7 (h : iv_A I P) (hv : (-2147483648) ≤ v ∧ v ≤ 2147483647) : iv_A (lf_up I 79 7 v) P := iv_wr h rfl hv
theorem iv_w79_8 (h : iv_A I P) (hv : (-2147483648) ≤ v ∧ v ≤ 2147483647) : iv_A (lf_up I 79 8 v) P := iv_wr h rfl hv
theorem iv_w8 (h : iv_A I P) (hv : 0 ≤ v ∧ v ≤ 1) : iv_A (lf_up I 8 i v) P := iv_wr h rfl hv
theorem iv_w86_2 (h : iv_A I P) (hv : 0 ≤ v ∧ v ≤ 29) : iv_A (lf_up I 86 2 v) P := iv_wr h rfl hv
theorem iv_w86_3 (h : iv_A I P) (hv : 0 ≤ v ∧ v ≤ 30) : iv_A (lf_up I 86 3 v) P := iv_wr h rfl hv
theorem iv_w89_2 (h : iv_A I P) (hv : 0 ≤ v ∧ v ≤ 6) : iv_A (lf_up I 89 2 v) P := iv_wr h rfl hv
theorem iv_w9 (h : iv_A I P) (hv : 0 ≤ v ∧ v ≤ 1) : iv_A (lf_up I 9 i v) P := iv_wr h rfl hv
theorem iv_w95_10 (h : iv_A I P) (hv : (-2147483648) ≤ v ∧ v ≤ 2147483647) : iv_A (lf_up I 95 10 v) P := iv_wr h rfl hv
theorem iv_w95_12 (h : iv_A I P) (hv : 0 ≤ v ∧ v ≤ 2115) : iv_A (lf_up I 95 12 v) P := iv_wr h rfl hv
theorem iv_w95_13 (h : iv_A I P) (hv : 0 ≤ v ∧ v ≤ 304) : iv_A (lf_up I 95 13 v) P := iv_wr h rfl hv
theorem iv_w95_14 (h : iv_A I P) (hv : 0 ≤ v ∧ v ≤ 12) : iv_A (lf_up I 95 14 v) P := iv_wr h rfl hv
theorem iv_w95_19 (h : iv_A I P) (hv : 0 ≤ v ∧ v ≤ 160) : iv_A (lf_up I 95 19 v) P := iv_wr h rfl hv
theorem iv_w95_20 (h : iv_A I P) (hv : 0 ≤ v ∧ v ≤ 8) : iv_A (lf_up I 95 20 v) P := iv_wr h rfl hv
theorem iv_w95_21 (h : iv_A I P) (hv : 0 ≤ v ∧ v ≤ 8) : iv_A (lf_up I 95 21 v) P := iv_wr h rfl hv
theorem iv_w95_22 (h : iv_A I P) (hv : 0 ≤ v ∧ v ≤ 80) : iv_A (lf_up I 95 22 v) P := iv_wr h rfl hv
theorem iv_w95_23 (h : iv_A I P) (hv : 0 ≤ v ∧ v ≤ 1) : iv_A (lf_up I 95 23 v) P := iv_wr h rfl hv
theorem iv_w95_24 (h : iv_A I P) (hv : (-2147483648) ≤ v ∧ v ≤ 2147483647) : iv_A (lf_up I 95 24 v) P := iv_wr h rfl hv
theorem iv_w95_29 (h : iv_A I P) (hv : (-2147483648) ≤ v ∧ v ≤ 2147483647) : iv_A (lf_up I 95 29 v) P := iv_wr h rfl hv
theorem iv_w95_30 (h : iv_A I P) (hv : (-2147483648) ≤ v ∧ v ≤ 2147483647) : iv_A (lf_up I 95 30 v) P := iv_wr h rfl hv
theorem iv_w95_31 (h : iv_A I P) (hv : (-2147483648) ≤ v ∧ v ≤ 2147483647) : iv_A (lf_up I 95 31 v) P := iv_wr h rfl hv
theorem iv_w95_4 (h : iv_A I P) (hv : 0 ≤ v ∧ v ≤ 300) : iv_A (lf_up I 95 4 v) P := iv_wr h rfl hv
theorem iv_w95_5 (h : iv_A I P) (hv : (-2147483648) ≤ v ∧ v ≤ 2147483647) : iv_A (lf_up I 95 5 v) P := iv_wr h rfl hv
theorem iv_w95_6 (h : iv_A I P) (hv : (-2147483648) ≤ v ∧ v ≤ 2147483647) : iv_A (lf_up I 95 6 v) P := iv_wr h rfl hv
theorem iv_w95_7 (h : iv_A I P) (hv : 0 ≤ v ∧ v ≤ 300) : iv_A (lf_up I 95 7 v) P := iv_wr h rfl hv
theorem iv_w95_8 (h : iv_A I P) (hv : 0 ≤ v ∧ v ≤ 300) : iv_A (lf_up I 95 8 v) P := iv_wr h rfl hv
theorem iv_w95_9 (h : iv_A I P) (hv : (-2147483648) ≤ v ∧ v ≤ 2147483647) : iv_A (lf_up I 95 9 v) P := iv_wr h rfl hv
theorem iv_w99 (h : iv_A I P) (hv : 0 ≤ v ∧ v ≤ 255) : iv_A (lf_up I 99 i v) P := iv_wr h rfl hv
theorem iv_cp18_82 {p q n : Int} (h : iv_A I P) : iv_A (lf_cp I 18 82 p q n) P := iv_copy h rfl (fun _ _ => show ((-1) : Int) ≤ (-1) ∧ (11 : Int) ≤ 11 from ⟨by decide, by decide⟩)
theorem iv_cp19_83 {p q n : Int} (h : iv_A I P) : iv_A (lf_cp I 19 83 p q n) P := iv_copy h rfl (fun _ _ => show ((-2147483648) : Int) ≤ (-2147483648) ∧ (2147483647 : Int) ≤ 2147483647 from ⟨by decide, by decide⟩)
theorem iv_cp20_84 {p q n : Int} (h : iv_A I P) : iv_A (lf_cp I 20 84 p q n) P := iv_copy h rfl (fun _ _ => show ((-2147483648) : Int) ≤ (-2147483648) ∧ (2147483647 : Int) ≤ 2147483647 from ⟨by decide, by decide⟩)
theorem iv_cp21_85 {p q n : Int} (h : iv_A I P) : iv_A (lf_cp I 21 85 p q n) P := iv_copy h rfl (fun _ _ => show ((-2147483648) : Int) ≤ (-2147483648) ∧ (2147483647 : Int) ≤ 2147483647 from ⟨by decide, by decide⟩)
theorem iv_cp23_87 (h : iv_A I P) : iv_A (lf_cp I 23 87 0 0 1170) P := iv_cpR h (by decide)
theorem iv_cp24_88 {p q n : Int} (h : iv_A I P) : iv_A (lf_cp I 24 88 p q n) P := iv_copy h rfl (fun _ _ => show (0 : Int) ≤ 0 ∧ (6 : Int) ≤ 6 from ⟨by decide, by decide⟩)
theorem iv_cp26_90 {p q n : Int} (h : iv_A I P) : iv_A (lf_cp I 26 90 p q n) P := iv_copy h rfl (fun _ _ => show ((-2147483648) : Int) ≤ (-2147483648) ∧ (2147483647 : Int) ≤ 2147483647 from ⟨by decide, by decide⟩)
theorem iv_cp27_91 {p q n : Int} (h : iv_A I P) : iv_A (lf_cp I 27 91 p q n) P := iv_copy h rfl (fun _ _ => show ((-2147483648) : Int) ≤ (-2147483648) ∧ (2147483647 : Int) ≤ 2147483647 from ⟨by decide, by decide⟩)
theorem iv_cp28_92 {p q n : Int} (h : iv_A I P) : iv_A (lf_cp I 28 92 p q n) P := iv_copy h rfl (fun _ _ => show ((-2147483648) : Int) ≤ (-2147483648) ∧ (2147483647 : Int) ≤ 2147483647 from ⟨by decide, by decide⟩)
theorem iv_cp29_93 {p q n : Int} (h : iv_A I P) : iv_A (lf_cp I 29 93 p q n) P := iv_copy h rfl (fun _ _ => show ((-2147483648) : Int) ≤ (-2147483648) ∧ (2147483647 : Int) ≤ 2147483647 from ⟨by decide, by decide⟩)
theorem iv_cp30_94 {p q n : Int} (h : iv_A I P) : iv_A (lf_cp I 30 94 p q n) P := iv_copy h rfl (fun _ _ => show ((-2147483648) : Int) ≤ (-2147483648) ∧ (2147483647 : Int) ≤ 2147483647 from ⟨by decide, by decide⟩)
theorem iv_cp76_77 {p q n : Int} (h : iv_A I P) : iv_A (lf_cp I 76 77 p q n) P := iv_copy h rfl (fun _ _ => show (0 : Int) ≤ 0 ∧ (5 : Int) ≤ 5 from ⟨by decide, by decide⟩)
theorem iv_cp82_18 {p q n : Int} (h : iv_A I P) : iv_A (lf_cp I 82 18 p q n) P := iv_copy h rfl (fun _ _ => show ((-1) : Int) ≤ (-1) ∧ (11 : Int) ≤ 11 from ⟨by decide, by decide⟩)
theorem iv_cp83_19 {p q n : Int} (h : iv_A I P) : iv_A (lf_cp I 83 19 p q n) P := iv_copy h rfl (fun _ _ => show ((-2147483648) : Int) ≤ (-2147483648) ∧ (2147483647 : Int) ≤ 2147483647 from ⟨by decide, by decide⟩)
theorem iv_cp84_20 {p q n : Int} (h : iv_A I P) : iv_A (lf_cp I 84 20 p q n) P := iv_copy h rfl (fun _ _ => show ((-2147483648) : Int) ≤ (-2147483648) ∧ (2147483647 : Int) ≤ 2147483647 from ⟨by decide, by decide⟩)
theorem iv_cp85_21 {p q n : Int} (h : iv_A I P) : iv_A (lf_cp I 85 21 p q n) P := iv_copy h rfl (fun _ _ => show ((-2147483648) : Int) ≤ (-2147483648) ∧ (2147483647 : Int) ≤ 2147483647 from ⟨by decide, by decide⟩)
theorem iv_cp87_23 (h : iv_A I P) : iv_A (lf_cp I 87 23 0 0 1170) P := iv_cpR h (by decide)
theorem iv_cp88_24 {p q n : Int} (h : iv_A I P) : iv_A (lf_cp I 88 24 p q n) P := iv_copy h rfl (fun _ _ => show (0 : Int) ≤ 0 ∧ (6 : Int) ≤ 6 from ⟨by decide, by decide⟩)
theorem iv_cp90_26 {p q n : Int} (h : iv_A I P) : iv_A (lf_cp I 90 26 p q n) P := iv_copy h rfl (fun _ _ => show ((-2147483648) : Int) ≤ (-2147483648) ∧ (2147483647 : Int) ≤ 2147483647 from ⟨by decide, by decide⟩)
theorem iv_cp91_27 {p q n : Int} (h : iv_A I P) : iv_A (lf_cp I 91 27 p q n) P := iv_copy h rfl (fun _ _ => show ((-2147483648) : Int) ≤ (-2147483648) ∧ (2147483647 : Int) ≤ 2147483647 from ⟨by decide, by decide⟩)
theorem iv_cp92_28 {p q n : Int} (h : iv_A I P) : iv_A (lf_cp I 92 28 p q n) P := iv_copy h rfl (fun _ _ => show ((-2147483648) : Int) ≤ (-2147483648) ∧ (2147483647 : Int) ≤ 2147483647 from ⟨by decide, by decide⟩)
theorem iv_cp93_29 {p q n : Int} (h : iv_A I P) : iv_A (lf_cp I 93 29 p q n) P := iv_copy h rfl (fun _ _ => show ((-2147483648) : Int) ≤ (-2147483648) ∧ (2147483647 : Int) ≤ 2147483647 from ⟨by decide, by decide⟩)
theorem iv_cp94_30 {p q n : Int} (h : iv_A I P) : iv_A (lf_cp I 94 30 p q n) P := iv_copy h rfl (fun _ _ => show ((-2147483648) : Int) ≤ (-2147483648) ∧ (2147483647 : Int) ≤ 2147483647 from ⟨by decide, by decide⟩)
theorem iv_fl12 {n : Int} (h : iv_A I P) (hv : 0 ≤ v ∧ v ≤ 4) : iv_A (lf_fl I 12 n v) P := iv_fill h rfl (fun _ => hv)
theorem iv_fl13 {n : Int} (h : iv_A I P) (hv : 0 ≤ v ∧ v ≤ 1000) : iv_A (lf_fl I 13 n v) P := iv_fill h rfl (fun _ => hv)
theorem iv_fl14 {n : Int} (h : iv_A I P) (hv : 0 ≤ v ∧ v ≤ 1000) : iv_A (lf_fl I 14 n v) P := iv_fill h rfl (fun _ => hv)
theorem iv_fl29 {n : Int} (h : iv_A I P) (hv : (-2147483648) ≤ v ∧ v ≤ 2147483647) : iv_A (lf_fl I 29 n v) P := iv_fill h rfl (fun _ => hv)
theorem iv_fl30 {n : Int} (h : iv_A I P) (hv : (-2147483648) ≤ v ∧ v ≤ 2147483647) : iv_A (lf_fl I 30 n v) P := iv_fill h rfl (fun _ => hv)
theorem iv_fl33 {n : Int} (h : iv_A I P) (hv : (-1) ≤ v ∧ v ≤ 7) : iv_A (lf_fl I 33 n v) P := iv_fill h rfl (fun _ => hv)
theorem iv_fl69 {n : Int} (h : iv_A I P) (hv : (-2147483648) ≤ v ∧ v ≤ 2147483647) : iv_A (lf_fl I 69 n v) P := iv_fill h rfl (fun _ => hv)
theorem iv_fl71 {n : Int} (h : iv_A I P) (hv : (-2147483648) ≤ v ∧ v ≤ 2147483647) : iv_A (lf_fl I 71 n v) P := iv_fill h rfl (fun _ => hv)
end IVB
theorem iv_fda037f3c {i : Int} (e : i = 114) : 0 ≤ (iv_a i).1 ∧ (iv_a i).2 ≤ 24 := by
  unfold iv_a
  repeat' refine iv_itR (fun h => ?_) (fun h => ?_)
  all_goals first | exact ⟨by decide, by decide⟩ | (exfalso; omega)
theorem iv_f168d6e22 {i : Int} (e : i = 117) : 0 ≤ (iv_a i).1 ∧ (iv_a i).2 ≤ 24 := by
  unfold iv_a
  repeat' refine iv_itR (fun h => ?_) (fun h => ?_)
  all_goals first | exact ⟨by decide, by decide⟩ | (exfalso; omega)
theorem iv_f5f96ec92 {i : Int} (e : i = 120) : 0 ≤ (iv_a i).1 ∧ (iv_a i).2 ≤ 24 := by
  unfold iv_a
  repeat' refine iv_itR (fun h => ?_) (fun h => ?_)
  all_goals first | exact ⟨by decide, by decide⟩ | (exfalso; omega)
theorem iv_fe4a5d80e {i : Int} (e : i = 123) : 0 ≤ (iv_a i).1 ∧ (iv_a i).2 ≤ 24 := by
  unfold iv_a
  repeat' refine iv_itR (fun h => ?_) (fun h => ?_)
  all_goals first | exact ⟨by decide, by decide⟩ | (exfalso; omega)
