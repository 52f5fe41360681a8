-- fm_176b Notes.likeOther 25 89
def fm_176b (Q : lf_Z → Prop) (s : lf_Z) : Prop := Q (lf_up (lf_cp (lf_cp (lf_cp (lf_cp (lf_cp s.1 90 26 0 0 6) 91 27 0 0 6) 92 28 0 0 16) 93 29 0 0 4) 94 30 0 0 4) 25 2 ((lf_cp (lf_cp (lf_cp (lf_cp (lf_cp s.1 90 26 0 0 6) 91 27 0 0 6) 92 28 0 0 16) 93 29 0 0 4) 94 30 0 0 4) 89 2), s.2.1, s.2.2)
set_option maxRecDepth 100000 in
theorem gm_176b {L : Nat} {xs : Nat → Int32} {d : Nat} {Q : lf_Z → Prop} {s : lf_Z} (h : fm_176b Q s) : lf_M (px_ro L xs) (d + 1) 176 [.ref 25, .ref 89] s (lf_qv Q) := by
  unfold fm_176b at h
  show lf_E (px_ro L xs) (d + 1) 176 0 [(0, .ref 25), (1, .ref 89)] [] s _
  refine lf_seg 6 (pc' := 10) (lv' := [(0, .ref 25), (1, .ref 89)]) (st' := [.int (Int32.ofInt 0), .ref 26, .int (Int32.ofInt 0), .ref 90]) rfl ?_
  refine lf_bipush 12 6 rfl rfl (by decide) (by decide) ?_
  refine lf_cpy 15 rfl rfl rfl rfl rfl rfl rfl rfl rfl rfl rfl rfl ⟨by decide, by decide, by decide, by decide, by decide⟩ ?_
  refine lf_as (lf_cp s.1 90 26 0 0 6, s.2.1, s.2.2) rfl ?_
  refine lf_seg 6 (pc' := 25) (lv' := [(0, .ref 25), (1, .ref 89)]) (st' := [.int (Int32.ofInt 0), .ref 27, .int (Int32.ofInt 0), .ref 91]) rfl ?_
  refine lf_bipush 27 6 rfl rfl (by decide) (by decide) ?_
  refine lf_cpy 30 rfl rfl rfl rfl rfl rfl rfl rfl rfl rfl rfl rfl ⟨by decide, by decide, by decide, by decide, by decide⟩ ?_
  refine lf_as (lf_cp (lf_cp s.1 90 26 0 0 6) 91 27 0 0 6, s.2.1, s.2.2) rfl ?_
  refine lf_seg 6 (pc' := 40) (lv' := [(0, .ref 25), (1, .ref 89)]) (st' := [.int (Int32.ofInt 0), .ref 28, .int (Int32.ofInt 0), .ref 92]) rfl ?_
  refine lf_bipush 42 16 rfl rfl (by decide) (by decide) ?_
  refine lf_cpy 45 rfl rfl rfl rfl rfl rfl rfl rfl rfl rfl rfl rfl ⟨by decide, by decide, by decide, by decide, by decide⟩ ?_
  refine lf_as (lf_cp (lf_cp (lf_cp s.1 90 26 0 0 6) 91 27 0 0 6) 92 28 0 0 16, s.2.1, s.2.2) rfl ?_
  refine lf_seg 6 (pc' := 55) (lv' := [(0, .ref 25), (1, .ref 89)]) (st' := [.int (Int32.ofInt 0), .ref 29, .int (Int32.ofInt 0), .ref 93]) rfl ?_
  refine lf_seg 1 (pc' := 56) (lv' := [(0, .ref 25), (1, .ref 89)]) (st' := [.int (Int32.ofInt 4), .int (Int32.ofInt 0), .ref 29, .int (Int32.ofInt 0), .ref 93]) rfl ?_
  refine lf_cpy 59 rfl rfl rfl rfl rfl rfl rfl rfl rfl rfl rfl rfl ⟨by decide, by decide, by decide, by decide, by decide⟩ ?_
  refine lf_as (lf_cp (lf_cp (lf_cp (lf_cp s.1 90 26 0 0 6) 91 27 0 0 6) 92 28 0 0 16) 93 29 0 0 4, s.2.1, s.2.2) rfl ?_
  refine lf_seg 6 (pc' := 69) (lv' := [(0, .ref 25), (1, .ref 89)]) (st' := [.int (Int32.ofInt 0), .ref 30, .int (Int32.ofInt 0), .ref 94]) rfl ?_
  refine lf_seg 1 (pc' := 70) (lv' := [(0, .ref 25), (1, .ref 89)]) (st' := [.int (Int32.ofInt 4), .int (Int32.ofInt 0), .ref 30, .int (Int32.ofInt 0), .ref 94]) rfl ?_
  refine lf_cpy 73 rfl rfl rfl rfl rfl rfl rfl rfl rfl rfl rfl rfl ⟨by decide, by decide, by decide, by decide, by decide⟩ ?_
  refine lf_as (lf_cp (lf_cp (lf_cp (lf_cp (lf_cp s.1 90 26 0 0 6) 91 27 0 0 6) 92 28 0 0 16) 93 29 0 0 4) 94 30 0 0 4, s.2.1, s.2.2) rfl ?_
  refine lf_seg 2 (pc' := 75) (lv' := [(0, .ref 25), (1, .ref 89)]) (st' := [.ref 89, .ref 25]) rfl ?_
  refine lf_getI 78 2 rfl rfl rfl rfl rfl rfl rfl ?_
  refine lf_putI 81 2 rfl rfl rfl rfl rfl rfl rfl rfl ?_
  refine lf_as (lf_up (lf_cp (lf_cp (lf_cp (lf_cp (lf_cp s.1 90 26 0 0 6) 91 27 0 0 6) 92 28 0 0 16) 93 29 0 0 4) 94 30 0 0 4) 25 2 ((lf_cp (lf_cp (lf_cp (lf_cp (lf_cp s.1 90 26 0 0 6) 91 27 0 0 6) 92 28 0 0 16) 93 29 0 0 4) 94 30 0 0 4) 89 2), s.2.1, s.2.2) rfl ?_
  exact lf_retV rfl rfl h
-- fm_177 ElevenBullocks.back 0
def fm_177 (Q : Int → lf_Z → Prop) (s : lf_Z) : Prop := fm_178 (s.1 78 0) (s.1 78 1) (s.1 78 2) (fun s21 => (fm_61 (s21.1 78 4) (fun s22 => (fm_174b (fun s23 => (fm_175b (fun s24 => (fm_176b (fun s25 => (Q (s25.1 15 7) s25)) s24)) s23)) s22)) (lf_up s21.1 0 11 (s21.1 78 3), s21.2.1, s21.2.2))) s
set_option maxRecDepth 100000 in
theorem gm_177 {L : Nat} {xs : Nat → Int32} {d : Nat} {Q : Int → lf_Z → Prop} {s : lf_Z} (h : fm_177 Q s) : lf_M (px_ro L xs) (d + 4) 177 [.ref 0] s (lf_qi Q) := by
  unfold fm_177 at h
  show lf_E (px_ro L xs) (d + 4) 177 0 [(0, .ref 0)] [] s _
  refine lf_seg 4 (pc' := 8) (lv' := [(0, .ref 0)]) (st' := [.ref 78, .ref 1]) rfl ?_
  refine lf_getI 11 0 rfl rfl rfl rfl rfl rfl rfl ?_
  refine lf_seg 2 (pc' := 15) (lv' := [(0, .ref 0)]) (st' := [.ref 78, .int (Int32.ofInt (s.1 78 0)), .ref 1]) rfl ?_
  refine lf_getI 18 1 rfl rfl rfl rfl rfl rfl rfl ?_
  refine lf_seg 2 (pc' := 22) (lv' := [(0, .ref 0)]) (st' := [.ref 78, .int (Int32.ofInt (s.1 78 1)), .int (Int32.ofInt (s.1 78 0)), .ref 1]) rfl ?_
  refine lf_getI 25 2 rfl rfl rfl rfl rfl rfl rfl ?_
  refine lf_callV 28 rfl rfl rfl rfl (gm_178 h) (fun s21 h => ?_)
  refine lf_seg 3 (pc' := 33) (lv' := [(0, .ref 0)]) (st' := [.ref 78, .ref 0]) rfl ?_
  refine lf_getI 36 3 rfl rfl rfl rfl rfl rfl rfl ?_
  refine lf_putI 39 11 rfl rfl rfl rfl rfl rfl rfl rfl ?_
  refine lf_as (lf_up s21.1 0 11 (s21.1 78 3), s21.2.1, s21.2.2) rfl ?_
  refine lf_seg 3 (pc' := 44) (lv' := [(0, .ref 0)]) (st' := [.ref 78, .ref 0]) rfl ?_
  refine lf_getI 47 4 rfl rfl rfl rfl rfl rfl rfl ?_
  refine lf_seg 0 (pc' := 47) (lv' := [(0, .ref 0)]) (st' := [.int (Int32.ofInt (s21.1 78 4)), .ref 0]) rfl ?_
  refine lf_callV 50 rfl rfl rfl rfl (gm_61 h) (fun s22 h => ?_)
  refine lf_seg 5 (pc' := 61) (lv' := [(0, .ref 0)]) (st' := [.ref 79, .ref 15]) rfl ?_
  refine lf_callV 64 rfl rfl rfl rfl (gm_174b h) (fun s23 h => ?_)
  refine lf_seg 5 (pc' := 75) (lv' := [(0, .ref 0)]) (st' := [.ref 86, .ref 22]) rfl ?_
  refine lf_callV 78 rfl rfl rfl rfl (gm_175b h) (fun s24 h => ?_)
  refine lf_seg 5 (pc' := 89) (lv' := [(0, .ref 0)]) (st' := [.ref 89, .ref 25]) rfl ?_
  refine lf_callV 92 rfl rfl rfl rfl (gm_176b h) (fun s25 h => ?_)
  refine lf_seg 2 (pc' := 96) (lv' := [(0, .ref 0)]) (st' := [.ref 15]) rfl ?_
  refine lf_getI 99 7 rfl rfl rfl rfl rfl rfl rfl ?_
  exact lf_retI rfl rfl h
-- fm_181b Model.copy 97 96
def fm_181b_p2 (Q : lf_Z → Prop) (X2 : Int → lf_Z → Prop) (x2 : Int) (s : lf_Z) : Prop := lf_R x2 ∧ ((1538 ≤ x2 → (Q s)) ∧ (¬ (1538 ≤ x2) → ((0 ≤ x2 ∧ x2 < 1538) ∧ (X2 (x2 + 1) (lf_up s.1 96 x2 (s.1 97 x2), s.2.1, s.2.2)))))
def fm_181b_p2L (Q : lf_Z → Prop) (x2 : Int) (s : lf_Z) : Prop := ∀ X2 : Int → lf_Z → Prop, (∀ (x2 : Int) (s : lf_Z), fm_181b_p2 Q X2 x2 s → X2 x2 s) → X2 x2 s
set_option maxRecDepth 100000 in
theorem gm_181b_p2 {L : Nat} {xs : Nat → Int32} {d : Nat} {Q : lf_Z → Prop} {x2 : Int} {s : lf_Z} {X2 : Int → lf_Z → Prop} (hX2 : ∀ x2 s, X2 x2 s → lf_E (px_ro L xs) (d + 1) 181 2 [(0, .ref 97), (1, .ref 96), (2, .int (Int32.ofInt x2))] [] s (lf_qv Q)) (h : fm_181b_p2 Q X2 x2 s) : lf_E (px_ro L xs) (d + 1) 181 2 [(0, .ref 97), (1, .ref 96), (2, .int (Int32.ofInt x2))] [] s (lf_qv Q) := by
  unfold fm_181b_p2 at h
  refine lf_seg 1 (pc' := 3) (lv' := [(0, .ref 97), (1, .ref 96), (2, .int (Int32.ofInt x2))]) (st' := [.int (Int32.ofInt x2)]) rfl ?_
  refine lf_sipush 6 1538 rfl rfl (by decide) (by decide) ?_
  obtain ⟨o21, h⟩ := h
  refine lf_icmp_ge 21 9 rfl rfl rfl o21 ⟨by decide, by decide⟩ (fun c => ?_) (fun c => ?_)
  · have h := h.1 c
    exact lf_retV rfl rfl h
  · have h := h.2 c
    refine lf_seg 4 (pc' := 13) (lv' := [(0, .ref 97), (1, .ref 96), (2, .int (Int32.ofInt x2))]) (st' := [.int (Int32.ofInt x2), .ref 97, .int (Int32.ofInt x2), .ref 96]) rfl ?_
    obtain ⟨o22, h⟩ := h
    refine lf_iald 14 1538 rfl rfl rfl rfl rfl rfl o22 ?_
    refine lf_iast 15 1538 rfl rfl rfl rfl rfl rfl o22 ?_
    refine lf_as (lf_up s.1 96 x2 (s.1 97 x2), s.2.1, s.2.2) rfl ?_
    refine lf_iinc 18 rfl rfl rfl rfl ?_
    refine lf_seg 1 (pc' := 2) (lv' := [(2, .int (Int32.ofInt (x2 + 1))), (0, .ref 97), (1, .ref 96)]) (st' := []) rfl ?_
    refine lf_sub (l := [(0, .ref 97), (1, .ref 96), (2, .int (Int32.ofInt (x2 + 1)))]) (lf_sb1 rfl (lf_sb1 rfl (lf_sb1 rfl lf_sb0))) ?_
    exact hX2 _ _ h
theorem gm_181b_p2L {L : Nat} {xs : Nat → Int32} {d : Nat} {Q : lf_Z → Prop} {x2 : Int} {s : lf_Z} (h : fm_181b_p2L Q x2 s) : lf_E (px_ro L xs) (d + 1) 181 2 [(0, .ref 97), (1, .ref 96), (2, .int (Int32.ofInt x2))] [] s (lf_qv Q) :=
  h (fun x2 s => lf_E (px_ro L xs) (d + 1) 181 2 [(0, .ref 97), (1, .ref 96), (2, .int (Int32.ofInt x2))] [] s (lf_qv Q)) (fun x2 s hb => gm_181b_p2 (fun _ _ h => h) hb)
def fm_181b (Q : lf_Z → Prop) (s : lf_Z) : Prop := fm_181b_p2L Q 0 s
set_option maxRecDepth 100000 in
theorem gm_181b {L : Nat} {xs : Nat → Int32} {d : Nat} {Q : lf_Z → Prop} {s : lf_Z} (h : fm_181b Q s) : lf_M (px_ro L xs) (d + 1) 181 [.ref 97, .ref 96] s (lf_qv Q) := by
  unfold fm_181b at h
  show lf_E (px_ro L xs) (d + 1) 181 0 [(0, .ref 97), (1, .ref 96)] [] s _
  refine lf_seg 2 (pc' := 2) (lv' := [(2, .int (Int32.ofInt 0)), (0, .ref 97), (1, .ref 96)]) (st' := []) rfl ?_
  refine lf_sub (l := [(0, .ref 97), (1, .ref 96), (2, .int (Int32.ofInt 0))]) (lf_sb1 rfl (lf_sb1 rfl (lf_sb1 rfl lf_sb0))) ?_
  exact gm_181b_p2L h
-- fm_326 Model.back 95
def fm_326 (Q : Int → lf_Z → Prop) (s : lf_Z) : Prop := fm_181b (fun s21 => (Q (s21.1 96 3) s21)) s
set_option maxRecDepth 100000 in
theorem gm_326 {L : Nat} {xs : Nat → Int32} {d : Nat} {Q : Int → lf_Z → Prop} {s : lf_Z} (h : fm_326 Q s) : lf_M (px_ro L xs) (d + 2) 326 [.ref 95] s (lf_qi Q) := by
  unfold fm_326 at h
  show lf_E (px_ro L xs) (d + 2) 326 0 [(0, .ref 95)] [] s _
  refine lf_seg 4 (pc' := 8) (lv' := [(0, .ref 95)]) (st' := [.ref 96, .ref 97]) rfl ?_
  refine lf_callV 11 rfl rfl rfl rfl (gm_181b h) (fun s21 h => ?_)
  refine lf_seg 3 (pc' := 16) (lv' := [(0, .ref 95)]) (st' := [.int (Int32.ofInt 3), .ref 96]) rfl ?_
  refine lf_iald 17 1538 rfl rfl rfl rfl rfl rfl ⟨by decide, by decide⟩ ?_
  exact lf_retI rfl rfl h
-- fm_179 ElevenBullocks.about 0 i
def fm_179 (a1 : Int) (Q : Int → lf_Z → Prop) (s : lf_Z) : Prop := lf_R a1 ∧ ((a1 < 0 ∨ 12 < a1 → (Q (-2) s)) ∧ (a1 = 0 → (Q (s.1 1 0) s)) ∧ (a1 = 1 → (Q (s.1 1 1) s)) ∧ (a1 = 2 → (Q (s.1 1 2) s)) ∧ (a1 = 3 → (Q (s.1 15 7) s)) ∧ (a1 = 4 → (fm_64 (fun r23 s22 => (Q r23 s22)) s)) ∧ (a1 = 5 → (fm_97 (fun r25 s24 => (Q r25 s24)) s)) ∧ (a1 = 6 → (Q (s.1 15 8) s)) ∧ (a1 = 7 → (Q (s.1 0 11) s)) ∧ (a1 = 8 → (Q (s.1 0 12) s)) ∧ (a1 = 9 → (Q (s.1 22 3) s)) ∧ (a1 = 10 → (Q (s.1 25 2) s)) ∧ (a1 = 11 → (fm_168 (fun r27 s26 => (Q r27 s26)) s)) ∧ (a1 = 12 → (Q (s.1 31 1) s)))
set_option maxRecDepth 100000 in
theorem gm_179 {L : Nat} {xs : Nat → Int32} {d : Nat} {a1 : Int} {Q : Int → lf_Z → Prop} {s : lf_Z} (h : fm_179 a1 Q s) : lf_M (px_ro L xs) (d + 3) 179 [.ref 0, .int (Int32.ofInt a1)] s (lf_qi Q) := by
  unfold fm_179 at h
  show lf_E (px_ro L xs) (d + 3) 179 0 [(0, .ref 0), (1, .int (Int32.ofInt a1))] [] s _
  refine lf_seg 1 (pc' := 1) (lv' := [(0, .ref 0), (1, .int (Int32.ofInt a1))]) (st' := [.int (Int32.ofInt a1)]) rfl ?_
  obtain ⟨o21, h⟩ := h
  refine lf_tsw 166 [(0, 68), (1, 76), (2, 84), (3, 92), (4, 100), (5, 108), (6, 116), (7, 124), (8, 129), (9, 134), (10, 142), (11, 150), (12, 158)] rfl rfl rfl (by decide) o21 (fun c => ?_) (lf_tab1 (fun c => ?_) (lf_tab1 (fun c => ?_) (lf_tab1 (fun c => ?_) (lf_tab1 (fun c => ?_) (lf_tab1 (fun c => ?_) (lf_tab1 (fun c => ?_) (lf_tab1 (fun c => ?_) (lf_tab1 (fun c => ?_) (lf_tab1 (fun c => ?_) (lf_tab1 (fun c => ?_) (lf_tab1 (fun c => ?_) (lf_tab1 (fun c => ?_) (lf_tab1 (fun c => ?_) lf_tab0)))))))))))))
  · have h := h.1 c
    refine lf_bipush 168 (-2) rfl rfl (by decide) (by decide) ?_
    exact lf_retI rfl rfl h
  · have h := h.2.1 c
    refine lf_seg 2 (pc' := 72) (lv' := [(0, .ref 0), (1, .int (Int32.ofInt a1))]) (st' := [.ref 1]) rfl ?_
    refine lf_getI 75 0 rfl rfl rfl rfl rfl rfl rfl ?_
    exact lf_retI rfl rfl h
  · have h := h.2.2.1 c
    refine lf_seg 2 (pc' := 80) (lv' := [(0, .ref 0), (1, .int (Int32.ofInt a1))]) (st' := [.ref 1]) rfl ?_
    refine lf_getI 83 1 rfl rfl rfl rfl rfl rfl rfl ?_
    exact lf_retI rfl rfl h
  · have h := h.2.2.2.1 c
    refine lf_seg 2 (pc' := 88) (lv' := [(0, .ref 0), (1, .int (Int32.ofInt a1))]) (st' := [.ref 1]) rfl ?_
    refine lf_getI 91 2 rfl rfl rfl rfl rfl rfl rfl ?_
    exact lf_retI rfl rfl h
  · have h := h.2.2.2.2.1 c
    refine lf_seg 2 (pc' := 96) (lv' := [(0, .ref 0), (1, .int (Int32.ofInt a1))]) (st' := [.ref 15]) rfl ?_
    refine lf_getI 99 7 rfl rfl rfl rfl rfl rfl rfl ?_
    exact lf_retI rfl rfl h
  · have h := h.2.2.2.2.2.1 c
    refine lf_seg 2 (pc' := 104) (lv' := [(0, .ref 0), (1, .int (Int32.ofInt a1))]) (st' := [.ref 15]) rfl ?_
    refine lf_callI 107 rfl rfl rfl rfl (gm_64 h) (fun r23 s22 h => ?_)
    exact lf_retI rfl rfl h
  · have h := h.2.2.2.2.2.2.1 c
    refine lf_seg 2 (pc' := 112) (lv' := [(0, .ref 0), (1, .int (Int32.ofInt a1))]) (st' := [.ref 15]) rfl ?_
    refine lf_callI 115 rfl rfl rfl rfl (gm_97 h) (fun r25 s24 h => ?_)
    exact lf_retI rfl rfl h
  · have h := h.2.2.2.2.2.2.2.1 c
    refine lf_seg 2 (pc' := 120) (lv' := [(0, .ref 0), (1, .int (Int32.ofInt a1))]) (st' := [.ref 15]) rfl ?_
    refine lf_getI 123 8 rfl rfl rfl rfl rfl rfl rfl ?_
    exact lf_retI rfl rfl h
  · have h := h.2.2.2.2.2.2.2.2.1 c
    refine lf_seg 1 (pc' := 125) (lv' := [(0, .ref 0), (1, .int (Int32.ofInt a1))]) (st' := [.ref 0]) rfl ?_
    refine lf_getI 128 11 rfl rfl rfl rfl rfl rfl rfl ?_
    exact lf_retI rfl rfl h
  · have h := h.2.2.2.2.2.2.2.2.2.1 c
    refine lf_seg 1 (pc' := 130) (lv' := [(0, .ref 0), (1, .int (Int32.ofInt a1))]) (st' := [.ref 0]) rfl ?_
    refine lf_getI 133 12 rfl rfl rfl rfl rfl rfl rfl ?_
    exact lf_retI rfl rfl h
  · have h := h.2.2.2.2.2.2.2.2.2.2.1 c
    refine lf_seg 2 (pc' := 138) (lv' := [(0, .ref 0), (1, .int (Int32.ofInt a1))]) (st' := [.ref 22]) rfl ?_
    refine lf_getI 141 3 rfl rfl rfl rfl rfl rfl rfl ?_
    exact lf_retI rfl rfl h
  · have h := h.2.2.2.2.2.2.2.2.2.2.2.1 c
    refine lf_seg 2 (pc' := 146) (lv' := [(0, .ref 0), (1, .int (Int32.ofInt a1))]) (st' := [.ref 25]) rfl ?_
    refine lf_getI 149 2 rfl rfl rfl rfl rfl rfl rfl ?_
    exact lf_retI rfl rfl h
  · have h := h.2.2.2.2.2.2.2.2.2.2.2.2.1 c
    refine lf_seg 2 (pc' := 154) (lv' := [(0, .ref 0), (1, .int (Int32.ofInt a1))]) (st' := [.ref 25]) rfl ?_
    refine lf_callI 157 rfl rfl rfl rfl (gm_168 h) (fun r27 s26 h => ?_)
    exact lf_retI rfl rfl h
  · have h := h.2.2.2.2.2.2.2.2.2.2.2.2.2 c
    refine lf_seg 2 (pc' := 162) (lv' := [(0, .ref 0), (1, .int (Int32.ofInt a1))]) (st' := [.ref 31]) rfl ?_
    refine lf_getI 165 1 rfl rfl rfl rfl rfl rfl rfl ?_
    exact lf_retI rfl rfl h
-- fm_327 Model.about 95 i
def fm_327 (a1 : Int) (Q : Int → lf_Z → Prop) (s : lf_Z) : Prop := lf_R a1 ∧ ((a1 ≠ 4 → ((a1 ≠ 5 → (fm_183 a1 0 11 (fun z23 s22 => ((z23 = false → ((a1 ≠ 12 → (Q (-2) s22)) ∧ (¬ (a1 ≠ 12) → (Q (s22.1 95 4) s22)))) ∧ (z23 = true → ((0 ≤ a1 ∧ a1 < 1538) ∧ (Q (s22.1 96 a1) s22))))) s)) ∧ (¬ (a1 ≠ 5) → (fm_279 (fun r26 s25 => (Q r26 s25)) s)))) ∧ (¬ (a1 ≠ 4) → (fm_243 (fun r28 s27 => (Q r28 s27)) s)))
set_option maxRecDepth 100000 in
theorem gm_327 {L : Nat} {xs : Nat → Int32} {d : Nat} {a1 : Int} {Q : Int → lf_Z → Prop} {s : lf_Z} (h : fm_327 a1 Q s) : lf_M (px_ro L xs) (d + 3) 327 [.ref 95, .int (Int32.ofInt a1)] s (lf_qi Q) := by
  unfold fm_327 at h
  show lf_E (px_ro L xs) (d + 3) 327 0 [(0, .ref 95), (1, .int (Int32.ofInt a1))] [] s _
  refine lf_seg 2 (pc' := 2) (lv' := [(0, .ref 95), (1, .int (Int32.ofInt a1))]) (st' := [.int (Int32.ofInt 4), .int (Int32.ofInt a1)]) rfl ?_
  obtain ⟨o21, h⟩ := h
  refine lf_icmp_ne 10 5 rfl rfl rfl o21 ⟨by decide, by decide⟩ (fun c => ?_) (fun c => ?_)
  · have h := h.1 c
    refine lf_seg 2 (pc' := 12) (lv' := [(0, .ref 95), (1, .int (Int32.ofInt a1))]) (st' := [.int (Int32.ofInt 5), .int (Int32.ofInt a1)]) rfl ?_
    refine lf_icmp_ne 20 15 rfl rfl rfl o21 ⟨by decide, by decide⟩ (fun c => ?_) (fun c => ?_)
    · have h := h.1 c
      refine lf_seg 2 (pc' := 22) (lv' := [(0, .ref 95), (1, .int (Int32.ofInt a1))]) (st' := [.int (Int32.ofInt 0), .int (Int32.ofInt a1)]) rfl ?_
      refine lf_bipush 24 11 rfl rfl (by decide) (by decide) ?_
      refine lf_callZ 27 rfl rfl rfl rfl (gm_183 h) (fun z23 s22 h => ?_)
      refine lf_ifz_eq 39 30 rfl rfl rfl (fun c => ?_) (fun c => ?_)
      · have h := h.1 c
        refine lf_seg 1 (pc' := 40) (lv' := [(0, .ref 95), (1, .int (Int32.ofInt a1))]) (st' := [.int (Int32.ofInt a1)]) rfl ?_
        refine lf_bipush 42 12 rfl rfl (by decide) (by decide) ?_
        refine lf_icmp_ne 52 45 rfl rfl rfl o21 ⟨by decide, by decide⟩ (fun c => ?_) (fun c => ?_)
        · have h := h.1 c
          refine lf_bipush 54 (-2) rfl rfl (by decide) (by decide) ?_
          exact lf_retI rfl rfl h
        · have h := h.2 c
          refine lf_seg 1 (pc' := 46) (lv' := [(0, .ref 95), (1, .int (Int32.ofInt a1))]) (st' := [.ref 95]) rfl ?_
          refine lf_getI 49 4 rfl rfl rfl rfl rfl rfl rfl ?_
          refine lf_seg 1 (pc' := 54) (lv' := [(0, .ref 95), (1, .int (Int32.ofInt a1))]) (st' := [.int (Int32.ofInt (s22.1 95 4))]) rfl ?_
          exact lf_retI rfl rfl h
      · have h := h.2 c
        refine lf_seg 3 (pc' := 35) (lv' := [(0, .ref 95), (1, .int (Int32.ofInt a1))]) (st' := [.int (Int32.ofInt a1), .ref 96]) rfl ?_
        obtain ⟨o24, h⟩ := h
        refine lf_iald 36 1538 rfl rfl rfl rfl rfl rfl o24 ?_
        refine lf_seg 1 (pc' := 54) (lv' := [(0, .ref 95), (1, .int (Int32.ofInt a1))]) (st' := [.int (Int32.ofInt (s22.1 96 a1))]) rfl ?_
        exact lf_retI rfl rfl h
    · have h := h.2 c
      refine lf_seg 1 (pc' := 16) (lv' := [(0, .ref 95), (1, .int (Int32.ofInt a1))]) (st' := [.ref 95]) rfl ?_
      refine lf_callI 19 rfl rfl rfl rfl (gm_279 h) (fun r26 s25 h => ?_)
      exact lf_retI rfl rfl h
  · have h := h.2 c
    refine lf_seg 1 (pc' := 6) (lv' := [(0, .ref 95), (1, .int (Int32.ofInt a1))]) (st' := [.ref 95]) rfl ?_
    refine lf_callI 9 rfl rfl rfl rfl (gm_243 h) (fun r28 s27 h => ?_)
    exact lf_retI rfl rfl h
