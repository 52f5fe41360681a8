-- fm_191c Model.set 95 i 2 i
def fm_191c (a1 : Int) (a3 : Int) (Q : lf_Z → Prop) (s : lf_Z) : Prop := (0 ≤ (126 + (6 * a1)) + 2 ∧ (126 + (6 * a1)) + 2 < 1538) ∧ (Q (lf_up s.1 96 ((126 + (6 * a1)) + 2) a3, s.2.1, s.2.2))
set_option maxRecDepth 100000 in
theorem gm_191c {L : Nat} {xs : Nat → Int32} {d : Nat} {a1 : Int} {a3 : Int} {Q : lf_Z → Prop} {s : lf_Z} (h : fm_191c a1 a3 Q s) : lf_M (px_ro L xs) (d + 1) 191 [.ref 95, .int (Int32.ofInt a1), .int (Int32.ofInt 2), .int (Int32.ofInt a3)] s (lf_qv Q) := by
  unfold fm_191c at h
  show lf_E (px_ro L xs) (d + 1) 191 0 [(0, .ref 95), (1, .int (Int32.ofInt a1)), (2, .int (Int32.ofInt 2)), (3, .int (Int32.ofInt a3))] [] s _
  refine lf_seg 2 (pc' := 4) (lv' := [(0, .ref 95), (1, .int (Int32.ofInt a1)), (2, .int (Int32.ofInt 2)), (3, .int (Int32.ofInt a3))]) (st' := [.ref 96]) rfl ?_
  refine lf_bipush 6 126 rfl rfl (by decide) (by decide) ?_
  refine lf_bipush 8 6 rfl rfl (by decide) (by decide) ?_
  refine lf_seg 1 (pc' := 9) (lv' := [(0, .ref 95), (1, .int (Int32.ofInt a1)), (2, .int (Int32.ofInt 2)), (3, .int (Int32.ofInt a3))]) (st' := [.int (Int32.ofInt a1), .int (Int32.ofInt 6), .int (Int32.ofInt 126), .ref 96]) rfl ?_
  refine lf_imul 10 rfl rfl ?_
  refine lf_iadd 11 rfl rfl ?_
  refine lf_seg 1 (pc' := 12) (lv' := [(0, .ref 95), (1, .int (Int32.ofInt a1)), (2, .int (Int32.ofInt 2)), (3, .int (Int32.ofInt a3))]) (st' := [.int (Int32.ofInt 2), .int (Int32.ofInt (126 + (6 * a1))), .ref 96]) rfl ?_
  refine lf_iadd 13 rfl rfl ?_
  refine lf_seg 1 (pc' := 14) (lv' := [(0, .ref 95), (1, .int (Int32.ofInt a1)), (2, .int (Int32.ofInt 2)), (3, .int (Int32.ofInt a3))]) (st' := [.int (Int32.ofInt a3), .int (Int32.ofInt ((126 + (6 * a1)) + 2)), .ref 96]) rfl ?_
  obtain ⟨o21, h⟩ := h
  refine lf_iast 15 1538 rfl rfl rfl rfl rfl rfl o21 ?_
  refine lf_as (lf_up s.1 96 ((126 + (6 * a1)) + 2) a3, s.2.1, s.2.2) rfl ?_
  exact lf_retV rfl rfl h
-- fm_191d Model.set 95 i 3 i
def fm_191d (a1 : Int) (a3 : Int) (Q : lf_Z → Prop) (s : lf_Z) : Prop := (0 ≤ (126 + (6 * a1)) + 3 ∧ (126 + (6 * a1)) + 3 < 1538) ∧ (Q (lf_up s.1 96 ((126 + (6 * a1)) + 3) a3, s.2.1, s.2.2))
set_option maxRecDepth 100000 in
theorem gm_191d {L : Nat} {xs : Nat → Int32} {d : Nat} {a1 : Int} {a3 : Int} {Q : lf_Z → Prop} {s : lf_Z} (h : fm_191d a1 a3 Q s) : lf_M (px_ro L xs) (d + 1) 191 [.ref 95, .int (Int32.ofInt a1), .int (Int32.ofInt 3), .int (Int32.ofInt a3)] s (lf_qv Q) := by
  unfold fm_191d at h
  show lf_E (px_ro L xs) (d + 1) 191 0 [(0, .ref 95), (1, .int (Int32.ofInt a1)), (2, .int (Int32.ofInt 3)), (3, .int (Int32.ofInt a3))] [] s _
  refine lf_seg 2 (pc' := 4) (lv' := [(0, .ref 95), (1, .int (Int32.ofInt a1)), (2, .int (Int32.ofInt 3)), (3, .int (Int32.ofInt a3))]) (st' := [.ref 96]) rfl ?_
  refine lf_bipush 6 126 rfl rfl (by decide) (by decide) ?_
  refine lf_bipush 8 6 rfl rfl (by decide) (by decide) ?_
  refine lf_seg 1 (pc' := 9) (lv' := [(0, .ref 95), (1, .int (Int32.ofInt a1)), (2, .int (Int32.ofInt 3)), (3, .int (Int32.ofInt a3))]) (st' := [.int (Int32.ofInt a1), .int (Int32.ofInt 6), .int (Int32.ofInt 126), .ref 96]) rfl ?_
  refine lf_imul 10 rfl rfl ?_
  refine lf_iadd 11 rfl rfl ?_
  refine lf_seg 1 (pc' := 12) (lv' := [(0, .ref 95), (1, .int (Int32.ofInt a1)), (2, .int (Int32.ofInt 3)), (3, .int (Int32.ofInt a3))]) (st' := [.int (Int32.ofInt 3), .int (Int32.ofInt (126 + (6 * a1))), .ref 96]) rfl ?_
  refine lf_iadd 13 rfl rfl ?_
  refine lf_seg 1 (pc' := 14) (lv' := [(0, .ref 95), (1, .int (Int32.ofInt a1)), (2, .int (Int32.ofInt 3)), (3, .int (Int32.ofInt a3))]) (st' := [.int (Int32.ofInt a3), .int (Int32.ofInt ((126 + (6 * a1)) + 3)), .ref 96]) rfl ?_
  obtain ⟨o21, h⟩ := h
  refine lf_iast 15 1538 rfl rfl rfl rfl rfl rfl o21 ?_
  refine lf_as (lf_up s.1 96 ((126 + (6 * a1)) + 3) a3, s.2.1, s.2.2) rfl ?_
  exact lf_retV rfl rfl h
-- fm_191e Model.set 95 i 4 i
def fm_191e (a1 : Int) (a3 : Int) (Q : lf_Z → Prop) (s : lf_Z) : Prop := (0 ≤ (126 + (6 * a1)) + 4 ∧ (126 + (6 * a1)) + 4 < 1538) ∧ (Q (lf_up s.1 96 ((126 + (6 * a1)) + 4) a3, s.2.1, s.2.2))
set_option maxRecDepth 100000 in
theorem gm_191e {L : Nat} {xs : Nat → Int32} {d : Nat} {a1 : Int} {a3 : Int} {Q : lf_Z → Prop} {s : lf_Z} (h : fm_191e a1 a3 Q s) : lf_M (px_ro L xs) (d + 1) 191 [.ref 95, .int (Int32.ofInt a1), .int (Int32.ofInt 4), .int (Int32.ofInt a3)] s (lf_qv Q) := by
  unfold fm_191e at h
  show lf_E (px_ro L xs) (d + 1) 191 0 [(0, .ref 95), (1, .int (Int32.ofInt a1)), (2, .int (Int32.ofInt 4)), (3, .int (Int32.ofInt a3))] [] s _
  refine lf_seg 2 (pc' := 4) (lv' := [(0, .ref 95), (1, .int (Int32.ofInt a1)), (2, .int (Int32.ofInt 4)), (3, .int (Int32.ofInt a3))]) (st' := [.ref 96]) rfl ?_
  refine lf_bipush 6 126 rfl rfl (by decide) (by decide) ?_
  refine lf_bipush 8 6 rfl rfl (by decide) (by decide) ?_
  refine lf_seg 1 (pc' := 9) (lv' := [(0, .ref 95), (1, .int (Int32.ofInt a1)), (2, .int (Int32.ofInt 4)), (3, .int (Int32.ofInt a3))]) (st' := [.int (Int32.ofInt a1), .int (Int32.ofInt 6), .int (Int32.ofInt 126), .ref 96]) rfl ?_
  refine lf_imul 10 rfl rfl ?_
  refine lf_iadd 11 rfl rfl ?_
  refine lf_seg 1 (pc' := 12) (lv' := [(0, .ref 95), (1, .int (Int32.ofInt a1)), (2, .int (Int32.ofInt 4)), (3, .int (Int32.ofInt a3))]) (st' := [.int (Int32.ofInt 4), .int (Int32.ofInt (126 + (6 * a1))), .ref 96]) rfl ?_
  refine lf_iadd 13 rfl rfl ?_
  refine lf_seg 1 (pc' := 14) (lv' := [(0, .ref 95), (1, .int (Int32.ofInt a1)), (2, .int (Int32.ofInt 4)), (3, .int (Int32.ofInt a3))]) (st' := [.int (Int32.ofInt a3), .int (Int32.ofInt ((126 + (6 * a1)) + 4)), .ref 96]) rfl ?_
  obtain ⟨o21, h⟩ := h
  refine lf_iast 15 1538 rfl rfl rfl rfl rfl rfl o21 ?_
  refine lf_as (lf_up s.1 96 ((126 + (6 * a1)) + 4) a3, s.2.1, s.2.2) rfl ?_
  exact lf_retV rfl rfl h
-- fm_191f Model.set 95 i 5 i
def fm_191f (a1 : Int) (a3 : Int) (Q : lf_Z → Prop) (s : lf_Z) : Prop := (0 ≤ (126 + (6 * a1)) + 5 ∧ (126 + (6 * a1)) + 5 < 1538) ∧ (Q (lf_up s.1 96 ((126 + (6 * a1)) + 5) a3, s.2.1, s.2.2))
set_option maxRecDepth 100000 in
theorem gm_191f {L : Nat} {xs : Nat → Int32} {d : Nat} {a1 : Int} {a3 : Int} {Q : lf_Z → Prop} {s : lf_Z} (h : fm_191f a1 a3 Q s) : lf_M (px_ro L xs) (d + 1) 191 [.ref 95, .int (Int32.ofInt a1), .int (Int32.ofInt 5), .int (Int32.ofInt a3)] s (lf_qv Q) := by
  unfold fm_191f at h
  show lf_E (px_ro L xs) (d + 1) 191 0 [(0, .ref 95), (1, .int (Int32.ofInt a1)), (2, .int (Int32.ofInt 5)), (3, .int (Int32.ofInt a3))] [] s _
  refine lf_seg 2 (pc' := 4) (lv' := [(0, .ref 95), (1, .int (Int32.ofInt a1)), (2, .int (Int32.ofInt 5)), (3, .int (Int32.ofInt a3))]) (st' := [.ref 96]) rfl ?_
  refine lf_bipush 6 126 rfl rfl (by decide) (by decide) ?_
  refine lf_bipush 8 6 rfl rfl (by decide) (by decide) ?_
  refine lf_seg 1 (pc' := 9) (lv' := [(0, .ref 95), (1, .int (Int32.ofInt a1)), (2, .int (Int32.ofInt 5)), (3, .int (Int32.ofInt a3))]) (st' := [.int (Int32.ofInt a1), .int (Int32.ofInt 6), .int (Int32.ofInt 126), .ref 96]) rfl ?_
  refine lf_imul 10 rfl rfl ?_
  refine lf_iadd 11 rfl rfl ?_
  refine lf_seg 1 (pc' := 12) (lv' := [(0, .ref 95), (1, .int (Int32.ofInt a1)), (2, .int (Int32.ofInt 5)), (3, .int (Int32.ofInt a3))]) (st' := [.int (Int32.ofInt 5), .int (Int32.ofInt (126 + (6 * a1))), .ref 96]) rfl ?_
  refine lf_iadd 13 rfl rfl ?_
  refine lf_seg 1 (pc' := 14) (lv' := [(0, .ref 95), (1, .int (Int32.ofInt a1)), (2, .int (Int32.ofInt 5)), (3, .int (Int32.ofInt a3))]) (st' := [.int (Int32.ofInt a3), .int (Int32.ofInt ((126 + (6 * a1)) + 5)), .ref 96]) rfl ?_
  obtain ⟨o21, h⟩ := h
  refine lf_iast 15 1538 rfl rfl rfl rfl rfl rfl o21 ?_
  refine lf_as (lf_up s.1 96 ((126 + (6 * a1)) + 5) a3, s.2.1, s.2.2) rfl ?_
  exact lf_retV rfl rfl h
-- fm_190 Model.personNow 95 i i i i
def fm_190 (a1 : Int) (a2 : Int) (a3 : Int) (a4 : Int) (Q : Int → lf_Z → Prop) (s : lf_Z) : Prop := fm_185 a4 (fun z22 s21 => ((z22 = false → (Q (-1) s21)) ∧ (z22 = true → (lf_R (s21.1 96 2) ∧ ((s21.1 96 2 ≠ 6 → (fm_191 (s21.1 96 2) a1 (fun s24 => (fm_191b (s21.1 96 2) a2 (fun s25 => (fm_191c (s21.1 96 2) a3 (fun s26 => (fm_191d (s21.1 96 2) a4 (fun s27 => (fm_191e (s21.1 96 2) (-1) (fun s28 => (fm_191f (s21.1 96 2) a4 (fun s29 => (Q (s21.1 96 2) (lf_up s29.1 96 2 ((s29.1 96 2) + 1), s29.2.1, s29.2.2))) s28)) s27)) s26)) s25)) s24)) s21)) ∧ (¬ (s21.1 96 2 ≠ 6) → (Q (-1) s21))))))) s
set_option maxRecDepth 100000 in
theorem gm_190 {L : Nat} {xs : Nat → Int32} {d : Nat} {a1 : Int} {a2 : Int} {a3 : Int} {a4 : Int} {Q : Int → lf_Z → Prop} {s : lf_Z} (h : fm_190 a1 a2 a3 a4 Q s) : lf_M (px_ro L xs) (d + 3) 190 [.ref 95, .int (Int32.ofInt a1), .int (Int32.ofInt a2), .int (Int32.ofInt a3), .int (Int32.ofInt a4)] s (lf_qi Q) := by
  unfold fm_190 at h
  show lf_E (px_ro L xs) (d + 3) 190 0 [(0, .ref 95), (1, .int (Int32.ofInt a1)), (2, .int (Int32.ofInt a2)), (3, .int (Int32.ofInt a3)), (4, .int (Int32.ofInt a4))] [] s _
  refine lf_seg 2 (pc' := 3) (lv' := [(0, .ref 95), (1, .int (Int32.ofInt a1)), (2, .int (Int32.ofInt a2)), (3, .int (Int32.ofInt a3)), (4, .int (Int32.ofInt a4))]) (st' := [.int (Int32.ofInt a4), .ref 95]) rfl ?_
  refine lf_callZ 6 rfl rfl rfl rfl (gm_185 h) (fun z22 s21 h => ?_)
  refine lf_ifz_eq 20 9 rfl rfl rfl (fun c => ?_) (fun c => ?_)
  · have h := h.1 c
    refine lf_seg 1 (pc' := 21) (lv' := [(0, .ref 95), (1, .int (Int32.ofInt a1)), (2, .int (Int32.ofInt a2)), (3, .int (Int32.ofInt a3)), (4, .int (Int32.ofInt a4))]) (st' := [.int (Int32.ofInt (-1))]) rfl ?_
    exact lf_retI rfl rfl h
  · have h := h.2 c
    refine lf_seg 3 (pc' := 14) (lv' := [(0, .ref 95), (1, .int (Int32.ofInt a1)), (2, .int (Int32.ofInt a2)), (3, .int (Int32.ofInt a3)), (4, .int (Int32.ofInt a4))]) (st' := [.int (Int32.ofInt 2), .ref 96]) rfl ?_
    refine lf_iald 15 1538 rfl rfl rfl rfl rfl rfl ⟨by decide, by decide⟩ ?_
    refine lf_bipush 17 6 rfl rfl (by decide) (by decide) ?_
    obtain ⟨o23, h⟩ := h
    refine lf_icmp_ne 22 20 rfl rfl rfl o23 ⟨by decide, by decide⟩ (fun c => ?_) (fun c => ?_)
    · have h := h.1 c
      refine lf_seg 3 (pc' := 27) (lv' := [(0, .ref 95), (1, .int (Int32.ofInt a1)), (2, .int (Int32.ofInt a2)), (3, .int (Int32.ofInt a3)), (4, .int (Int32.ofInt a4))]) (st' := [.int (Int32.ofInt 2), .ref 96]) rfl ?_
      refine lf_iald 28 1538 rfl rfl rfl rfl rfl rfl ⟨by decide, by decide⟩ ?_
      refine lf_seg 5 (pc' := 35) (lv' := [(5, .int (Int32.ofInt (s21.1 96 2))), (0, .ref 95), (1, .int (Int32.ofInt a1)), (2, .int (Int32.ofInt a2)), (3, .int (Int32.ofInt a3)), (4, .int (Int32.ofInt a4))]) (st' := [.int (Int32.ofInt a1), .int (Int32.ofInt 0), .int (Int32.ofInt (s21.1 96 2)), .ref 95]) rfl ?_
      refine lf_callV 38 rfl rfl rfl rfl (gm_191 h) (fun s24 h => ?_)
      refine lf_seg 4 (pc' := 43) (lv' := [(5, .int (Int32.ofInt (s21.1 96 2))), (0, .ref 95), (1, .int (Int32.ofInt a1)), (2, .int (Int32.ofInt a2)), (3, .int (Int32.ofInt a3)), (4, .int (Int32.ofInt a4))]) (st' := [.int (Int32.ofInt a2), .int (Int32.ofInt 1), .int (Int32.ofInt (s21.1 96 2)), .ref 95]) rfl ?_
      refine lf_callV 46 rfl rfl rfl rfl (gm_191b h) (fun s25 h => ?_)
      refine lf_seg 4 (pc' := 51) (lv' := [(5, .int (Int32.ofInt (s21.1 96 2))), (0, .ref 95), (1, .int (Int32.ofInt a1)), (2, .int (Int32.ofInt a2)), (3, .int (Int32.ofInt a3)), (4, .int (Int32.ofInt a4))]) (st' := [.int (Int32.ofInt a3), .int (Int32.ofInt 2), .int (Int32.ofInt (s21.1 96 2)), .ref 95]) rfl ?_
      refine lf_callV 54 rfl rfl rfl rfl (gm_191c h) (fun s26 h => ?_)
      refine lf_seg 4 (pc' := 60) (lv' := [(5, .int (Int32.ofInt (s21.1 96 2))), (0, .ref 95), (1, .int (Int32.ofInt a1)), (2, .int (Int32.ofInt a2)), (3, .int (Int32.ofInt a3)), (4, .int (Int32.ofInt a4))]) (st' := [.int (Int32.ofInt a4), .int (Int32.ofInt 3), .int (Int32.ofInt (s21.1 96 2)), .ref 95]) rfl ?_
      refine lf_callV 63 rfl rfl rfl rfl (gm_191d h) (fun s27 h => ?_)
      refine lf_seg 4 (pc' := 68) (lv' := [(5, .int (Int32.ofInt (s21.1 96 2))), (0, .ref 95), (1, .int (Int32.ofInt a1)), (2, .int (Int32.ofInt a2)), (3, .int (Int32.ofInt a3)), (4, .int (Int32.ofInt a4))]) (st' := [.int (Int32.ofInt (-1)), .int (Int32.ofInt 4), .int (Int32.ofInt (s21.1 96 2)), .ref 95]) rfl ?_
      refine lf_callV 71 rfl rfl rfl rfl (gm_191e h) (fun s28 h => ?_)
      refine lf_seg 4 (pc' := 77) (lv' := [(5, .int (Int32.ofInt (s21.1 96 2))), (0, .ref 95), (1, .int (Int32.ofInt a1)), (2, .int (Int32.ofInt a2)), (3, .int (Int32.ofInt a3)), (4, .int (Int32.ofInt a4))]) (st' := [.int (Int32.ofInt a4), .int (Int32.ofInt 5), .int (Int32.ofInt (s21.1 96 2)), .ref 95]) rfl ?_
      refine lf_callV 80 rfl rfl rfl rfl (gm_191f h) (fun s29 h => ?_)
      refine lf_seg 4 (pc' := 86) (lv' := [(5, .int (Int32.ofInt (s21.1 96 2))), (0, .ref 95), (1, .int (Int32.ofInt a1)), (2, .int (Int32.ofInt a2)), (3, .int (Int32.ofInt a3)), (4, .int (Int32.ofInt a4))]) (st' := [.int (Int32.ofInt 2), .ref 96, .int (Int32.ofInt 2), .ref 96]) rfl ?_
      refine lf_iald 87 1538 rfl rfl rfl rfl rfl rfl ⟨by decide, by decide⟩ ?_
      refine lf_seg 1 (pc' := 88) (lv' := [(5, .int (Int32.ofInt (s21.1 96 2))), (0, .ref 95), (1, .int (Int32.ofInt a1)), (2, .int (Int32.ofInt a2)), (3, .int (Int32.ofInt a3)), (4, .int (Int32.ofInt a4))]) (st' := [.int (Int32.ofInt 1), .int (Int32.ofInt (s29.1 96 2)), .int (Int32.ofInt 2), .ref 96]) rfl ?_
      refine lf_iadd 89 rfl rfl ?_
      refine lf_iast 90 1538 rfl rfl rfl rfl rfl rfl ⟨by decide, by decide⟩ ?_
      refine lf_as (lf_up s29.1 96 2 ((s29.1 96 2) + 1), s29.2.1, s29.2.2) rfl ?_
      refine lf_seg 1 (pc' := 92) (lv' := [(5, .int (Int32.ofInt (s21.1 96 2))), (0, .ref 95), (1, .int (Int32.ofInt a1)), (2, .int (Int32.ofInt a2)), (3, .int (Int32.ofInt a3)), (4, .int (Int32.ofInt a4))]) (st' := [.int (Int32.ofInt (s21.1 96 2))]) rfl ?_
      exact lf_retI rfl rfl h
    · have h := h.2 c
      refine lf_seg 1 (pc' := 21) (lv' := [(0, .ref 95), (1, .int (Int32.ofInt a1)), (2, .int (Int32.ofInt a2)), (3, .int (Int32.ofInt a3)), (4, .int (Int32.ofInt a4))]) (st' := [.int (Int32.ofInt (-1))]) rfl ?_
      exact lf_retI rfl rfl h
-- fm_189 Model.person 95 i i i i
def fm_189_p30 (Q : Int → lf_Z → Prop) (x4 : Int) (y1 : Int) (y2 : Int) (y3 : Int) (s : lf_Z) : Prop := fm_190 y1 y2 y3 x4 (fun r26 s25 => (Q r26 s25)) s
set_option maxRecDepth 100000 in
theorem gm_189_p30 {L : Nat} {xs : Nat → Int32} {d : Nat} {Q : Int → lf_Z → Prop} {x4 : Int} {y1 : Int} {y2 : Int} {y3 : Int} {s : lf_Z} (h : fm_189_p30 Q x4 y1 y2 y3 s) : lf_E (px_ro L xs) (d + 4) 189 30 [(4, .int (Int32.ofInt x4))] [.int (Int32.ofInt y3), .int (Int32.ofInt y2), .int (Int32.ofInt y1), .ref 95] s (lf_qi Q) := by
  unfold fm_189_p30 at h
  refine lf_seg 1 (pc' := 32) (lv' := [(4, .int (Int32.ofInt x4))]) (st' := [.int (Int32.ofInt x4), .int (Int32.ofInt y3), .int (Int32.ofInt y2), .int (Int32.ofInt y1), .ref 95]) rfl ?_
  refine lf_callI 35 rfl rfl rfl rfl (gm_190 h) (fun r26 s25 h => ?_)
  refine lf_seg 1 (pc' := 39) (lv' := [(4, .int (Int32.ofInt x4))]) (st' := [.int (Int32.ofInt r26)]) rfl ?_
  exact lf_retI rfl rfl h
def fm_189_p21 (Q : Int → lf_Z → Prop) (x3 : Int) (x4 : Int) (y1 : Int) (y2 : Int) (s : lf_Z) : Prop := lf_R x3 ∧ ((x3 = 0 → (fm_189_p30 Q x4 y1 y2 0 s)) ∧ (¬ (x3 = 0) → (fm_189_p30 Q x4 y1 y2 1 s)))
set_option maxRecDepth 100000 in
theorem gm_189_p21 {L : Nat} {xs : Nat → Int32} {d : Nat} {Q : Int → lf_Z → Prop} {x3 : Int} {x4 : Int} {y1 : Int} {y2 : Int} {s : lf_Z} (h : fm_189_p21 Q x3 x4 y1 y2 s) : lf_E (px_ro L xs) (d + 4) 189 21 [(3, .int (Int32.ofInt x3)), (4, .int (Int32.ofInt x4))] [.int (Int32.ofInt y2), .int (Int32.ofInt y1), .ref 95] s (lf_qi Q) := by
  unfold fm_189_p21 at h
  refine lf_seg 1 (pc' := 22) (lv' := [(3, .int (Int32.ofInt x3)), (4, .int (Int32.ofInt x4))]) (st' := [.int (Int32.ofInt x3), .int (Int32.ofInt y2), .int (Int32.ofInt y1), .ref 95]) rfl ?_
  obtain ⟨o24, h⟩ := h
  refine lf_if_eq 29 25 rfl rfl rfl o24 (fun c => ?_) (fun c => ?_)
  · have h := h.1 c
    refine lf_seg 1 (pc' := 30) (lv' := [(3, .int (Int32.ofInt x3)), (4, .int (Int32.ofInt x4))]) (st' := [.int (Int32.ofInt 0), .int (Int32.ofInt y2), .int (Int32.ofInt y1), .ref 95]) rfl ?_
    refine lf_sub (l := [(4, .int (Int32.ofInt x4))]) (lf_sb1 rfl lf_sb0) ?_
    exact gm_189_p30 h
  · have h := h.2 c
    refine lf_seg 2 (pc' := 30) (lv' := [(3, .int (Int32.ofInt x3)), (4, .int (Int32.ofInt x4))]) (st' := [.int (Int32.ofInt 1), .int (Int32.ofInt y2), .int (Int32.ofInt y1), .ref 95]) rfl ?_
    refine lf_sub (l := [(4, .int (Int32.ofInt x4))]) (lf_sb1 rfl lf_sb0) ?_
    exact gm_189_p30 h
def fm_189 (a1 : Int) (a2 : Int) (a3 : Int) (a4 : Int) (Q : Int → lf_Z → Prop) (s : lf_Z) : Prop := fm_183 a1 0 9 (fun z22 s21 => ((z22 = false → (Q (-1) s21)) ∧ (z22 = true → (lf_R a2 ∧ ((a2 = 0 → (fm_189_p21 Q a3 a4 a1 0 s21)) ∧ (¬ (a2 = 0) → (fm_189_p21 Q a3 a4 a1 1 s21))))))) s
set_option maxRecDepth 100000 in
theorem gm_189 {L : Nat} {xs : Nat → Int32} {d : Nat} {a1 : Int} {a2 : Int} {a3 : Int} {a4 : Int} {Q : Int → lf_Z → Prop} {s : lf_Z} (h : fm_189 a1 a2 a3 a4 Q s) : lf_M (px_ro L xs) (d + 4) 189 [.ref 95, .int (Int32.ofInt a1), .int (Int32.ofInt a2), .int (Int32.ofInt a3), .int (Int32.ofInt a4)] s (lf_qi Q) := by
  unfold fm_189 at h
  show lf_E (px_ro L xs) (d + 4) 189 0 [(0, .ref 95), (1, .int (Int32.ofInt a1)), (2, .int (Int32.ofInt a2)), (3, .int (Int32.ofInt a3)), (4, .int (Int32.ofInt a4))] [] s _
  refine lf_seg 2 (pc' := 2) (lv' := [(0, .ref 95), (1, .int (Int32.ofInt a1)), (2, .int (Int32.ofInt a2)), (3, .int (Int32.ofInt a3)), (4, .int (Int32.ofInt a4))]) (st' := [.int (Int32.ofInt 0), .int (Int32.ofInt a1)]) rfl ?_
  refine lf_bipush 4 9 rfl rfl (by decide) (by decide) ?_
  refine lf_callZ 7 rfl rfl rfl rfl (gm_183 h) (fun z22 s21 h => ?_)
  refine lf_ifz_eq 38 10 rfl rfl rfl (fun c => ?_) (fun c => ?_)
  · have h := h.1 c
    refine lf_seg 1 (pc' := 39) (lv' := [(0, .ref 95), (1, .int (Int32.ofInt a1)), (2, .int (Int32.ofInt a2)), (3, .int (Int32.ofInt a3)), (4, .int (Int32.ofInt a4))]) (st' := [.int (Int32.ofInt (-1))]) rfl ?_
    exact lf_retI rfl rfl h
  · have h := h.2 c
    refine lf_seg 3 (pc' := 13) (lv' := [(0, .ref 95), (1, .int (Int32.ofInt a1)), (2, .int (Int32.ofInt a2)), (3, .int (Int32.ofInt a3)), (4, .int (Int32.ofInt a4))]) (st' := [.int (Int32.ofInt a2), .int (Int32.ofInt a1), .ref 95]) rfl ?_
    obtain ⟨o23, h⟩ := h
    refine lf_if_eq 20 16 rfl rfl rfl o23 (fun c => ?_) (fun c => ?_)
    · have h := h.1 c
      refine lf_seg 1 (pc' := 21) (lv' := [(0, .ref 95), (1, .int (Int32.ofInt a1)), (2, .int (Int32.ofInt a2)), (3, .int (Int32.ofInt a3)), (4, .int (Int32.ofInt a4))]) (st' := [.int (Int32.ofInt 0), .int (Int32.ofInt a1), .ref 95]) rfl ?_
      refine lf_sub (l := [(3, .int (Int32.ofInt a3)), (4, .int (Int32.ofInt a4))]) (lf_sb1 rfl (lf_sb1 rfl lf_sb0)) ?_
      exact gm_189_p21 h
    · have h := h.2 c
      refine lf_seg 2 (pc' := 21) (lv' := [(0, .ref 95), (1, .int (Int32.ofInt a1)), (2, .int (Int32.ofInt a2)), (3, .int (Int32.ofInt a3)), (4, .int (Int32.ofInt a4))]) (st' := [.int (Int32.ofInt 1), .int (Int32.ofInt a1), .ref 95]) rfl ?_
      refine lf_sub (l := [(3, .int (Int32.ofInt a3)), (4, .int (Int32.ofInt a4))]) (lf_sb1 rfl (lf_sb1 rfl lf_sb0)) ?_
      exact gm_189_p21 h
-- fm_26 Reader.addBytes 31 i
def fm_26_p3 (Q : lf_Z → Prop) (x1 : Int) (X3 : Int → lf_Z → Prop) (x2 : Int) (s : lf_Z) : Prop := lf_R x2 ∧ ((x2 < 0 → (Q s)) ∧ (¬ (x2 < 0) → (lf_R (s.1 31 1) ∧ ((300 ≤ s.1 31 1 → (Q s)) ∧ (¬ (300 ≤ s.1 31 1) → ((0 ≤ s.1 31 1 ∧ s.1 31 1 < 300) ∧ (X3 (x2 + (-8)) (lf_up (lf_up s.1 32 (s.1 31 1) (lf_and (lf_ushr x1 x2) 255)) 31 1 ((s.1 31 1) + 1), s.2.1, s.2.2))))))))
def fm_26_p3L (Q : lf_Z → Prop) (x1 : Int) (x2 : Int) (s : lf_Z) : Prop := ∀ X3 : Int → lf_Z → Prop, (∀ (x2 : Int) (s : lf_Z), fm_26_p3 Q x1 X3 x2 s → X3 x2 s) → X3 x2 s
set_option maxRecDepth 100000 in
theorem gm_26_p3 {L : Nat} {xs : Nat → Int32} {d : Nat} {Q : lf_Z → Prop} {x1 : Int} {x2 : Int} {s : lf_Z} {X3 : Int → lf_Z → Prop} (hX3 : ∀ x2 s, X3 x2 s → lf_E (px_ro L xs) (d + 1) 26 3 [(0, .ref 31), (1, .int (Int32.ofInt x1)), (2, .int (Int32.ofInt x2))] [] s (lf_qv Q)) (h : fm_26_p3 Q x1 X3 x2 s) : lf_E (px_ro L xs) (d + 1) 26 3 [(0, .ref 31), (1, .int (Int32.ofInt x1)), (2, .int (Int32.ofInt x2))] [] s (lf_qv Q) := by
  unfold fm_26_p3 at h
  refine lf_seg 1 (pc' := 4) (lv' := [(0, .ref 31), (1, .int (Int32.ofInt x1)), (2, .int (Int32.ofInt x2))]) (st' := [.int (Int32.ofInt x2)]) rfl ?_
  obtain ⟨o21, h⟩ := h
  refine lf_if_lt 49 7 rfl rfl rfl o21 (fun c => ?_) (fun c => ?_)
  · have h := h.1 c
    exact lf_retV rfl rfl h
  · have h := h.2 c
    refine lf_seg 1 (pc' := 8) (lv' := [(0, .ref 31), (1, .int (Int32.ofInt x1)), (2, .int (Int32.ofInt x2))]) (st' := [.ref 31]) rfl ?_
    refine lf_getI 11 1 rfl rfl rfl rfl rfl rfl rfl ?_
    refine lf_sipush 14 300 rfl rfl (by decide) (by decide) ?_
    obtain ⟨o22, h⟩ := h
    refine lf_icmp_ge 49 17 rfl rfl rfl o22 ⟨by decide, by decide⟩ (fun c => ?_) (fun c => ?_)
    · have h := h.1 c
      exact lf_retV rfl rfl h
    · have h := h.2 c
      refine lf_seg 3 (pc' := 22) (lv' := [(0, .ref 31), (1, .int (Int32.ofInt x1)), (2, .int (Int32.ofInt x2))]) (st' := [.ref 31, .ref 32]) rfl ?_
      refine lf_getI 25 1 rfl rfl rfl rfl rfl rfl rfl ?_
      refine lf_seg 2 (pc' := 27) (lv' := [(0, .ref 31), (1, .int (Int32.ofInt x1)), (2, .int (Int32.ofInt x2))]) (st' := [.int (Int32.ofInt x2), .int (Int32.ofInt x1), .int (Int32.ofInt (s.1 31 1)), .ref 32]) rfl ?_
      refine lf_iushr 28 rfl rfl ?_
      refine lf_sipush 31 255 rfl rfl (by decide) (by decide) ?_
      refine lf_iand 32 rfl rfl ?_
      obtain ⟨o23, h⟩ := h
      refine lf_iast 33 300 rfl rfl rfl rfl rfl rfl o23 ?_
      refine lf_as (lf_up s.1 32 (s.1 31 1) (lf_and (lf_ushr x1 x2) 255), s.2.1, s.2.2) rfl ?_
      refine lf_seg 2 (pc' := 35) (lv' := [(0, .ref 31), (1, .int (Int32.ofInt x1)), (2, .int (Int32.ofInt x2))]) (st' := [.ref 31, .ref 31]) rfl ?_
      refine lf_getI 38 1 rfl rfl rfl rfl rfl rfl rfl ?_
      refine lf_seg 1 (pc' := 39) (lv' := [(0, .ref 31), (1, .int (Int32.ofInt x1)), (2, .int (Int32.ofInt x2))]) (st' := [.int (Int32.ofInt 1), .int (Int32.ofInt (s.1 31 1)), .ref 31]) rfl ?_
      refine lf_iadd 40 rfl rfl ?_
      refine lf_putI 43 1 rfl rfl rfl rfl rfl rfl rfl rfl ?_
      refine lf_as (lf_up (lf_up s.1 32 (s.1 31 1) (lf_and (lf_ushr x1 x2) 255)) 31 1 ((s.1 31 1) + 1), s.2.1, s.2.2) rfl ?_
      refine lf_iinc 46 rfl rfl rfl rfl ?_
      refine lf_seg 1 (pc' := 3) (lv' := [(2, .int (Int32.ofInt (x2 + (-8)))), (0, .ref 31), (1, .int (Int32.ofInt x1))]) (st' := []) rfl ?_
      refine lf_sub (l := [(0, .ref 31), (1, .int (Int32.ofInt x1)), (2, .int (Int32.ofInt (x2 + (-8))))]) (lf_sb1 rfl (lf_sb1 rfl (lf_sb1 rfl lf_sb0))) ?_
      exact hX3 _ _ h
theorem gm_26_p3L {L : Nat} {xs : Nat → Int32} {d : Nat} {Q : lf_Z → Prop} {x1 : Int} {x2 : Int} {s : lf_Z} (h : fm_26_p3L Q x1 x2 s) : lf_E (px_ro L xs) (d + 1) 26 3 [(0, .ref 31), (1, .int (Int32.ofInt x1)), (2, .int (Int32.ofInt x2))] [] s (lf_qv Q) :=
  h (fun x2 s => lf_E (px_ro L xs) (d + 1) 26 3 [(0, .ref 31), (1, .int (Int32.ofInt x1)), (2, .int (Int32.ofInt x2))] [] s (lf_qv Q)) (fun x2 s hb => gm_26_p3 (fun _ _ h => h) hb)
def fm_26 (a1 : Int) (Q : lf_Z → Prop) (s : lf_Z) : Prop := fm_26_p3L Q a1 24 s
set_option maxRecDepth 100000 in
theorem gm_26 {L : Nat} {xs : Nat → Int32} {d : Nat} {a1 : Int} {Q : lf_Z → Prop} {s : lf_Z} (h : fm_26 a1 Q s) : lf_M (px_ro L xs) (d + 1) 26 [.ref 31, .int (Int32.ofInt a1)] s (lf_qv Q) := by
  unfold fm_26 at h
  show lf_E (px_ro L xs) (d + 1) 26 0 [(0, .ref 31), (1, .int (Int32.ofInt a1))] [] s _
  refine lf_bipush 2 24 rfl rfl (by decide) (by decide) ?_
  refine lf_seg 1 (pc' := 3) (lv' := [(2, .int (Int32.ofInt 24)), (0, .ref 31), (1, .int (Int32.ofInt a1))]) (st' := []) rfl ?_
  refine lf_sub (l := [(0, .ref 31), (1, .int (Int32.ofInt a1)), (2, .int (Int32.ofInt 24))]) (lf_sb1 rfl (lf_sb1 rfl (lf_sb1 rfl lf_sb0))) ?_
  exact gm_26_p3L h
-- fm_25 ElevenBullocks.feed 0 i i i i i
def fm_25 (a1 : Int) (a2 : Int) (a3 : Int) (a4 : Int) (a5 : Int) (Q : Int → lf_Z → Prop) (s : lf_Z) : Prop := lf_R ((s.1 31 1) + 20) ∧ (((s.1 31 1) + 20 ≤ 300 → (fm_26 a1 (fun s22 => (fm_26 a2 (fun s23 => (fm_26 a3 (fun s24 => (fm_26 a4 (fun s25 => (fm_26 a5 (fun s26 => (Q (s26.1 31 1) s26)) s25)) s24)) s23)) s22)) s)) ∧ (¬ ((s.1 31 1) + 20 ≤ 300) → (Q (-1) s)))
set_option maxRecDepth 100000 in
theorem gm_25 {L : Nat} {xs : Nat → Int32} {d : Nat} {a1 : Int} {a2 : Int} {a3 : Int} {a4 : Int} {a5 : Int} {Q : Int → lf_Z → Prop} {s : lf_Z} (h : fm_25 a1 a2 a3 a4 a5 Q s) : lf_M (px_ro L xs) (d + 2) 25 [.ref 0, .int (Int32.ofInt a1), .int (Int32.ofInt a2), .int (Int32.ofInt a3), .int (Int32.ofInt a4), .int (Int32.ofInt a5)] s (lf_qi Q) := by
  unfold fm_25 at h
  show lf_E (px_ro L xs) (d + 2) 25 0 [(0, .ref 0), (1, .int (Int32.ofInt a1)), (2, .int (Int32.ofInt a2)), (3, .int (Int32.ofInt a3)), (4, .int (Int32.ofInt a4)), (5, .int (Int32.ofInt a5))] [] s _
  refine lf_seg 2 (pc' := 4) (lv' := [(0, .ref 0), (1, .int (Int32.ofInt a1)), (2, .int (Int32.ofInt a2)), (3, .int (Int32.ofInt a3)), (4, .int (Int32.ofInt a4)), (5, .int (Int32.ofInt a5))]) (st' := [.ref 31]) rfl ?_
  refine lf_getI 7 1 rfl rfl rfl rfl rfl rfl rfl ?_
  refine lf_bipush 9 20 rfl rfl (by decide) (by decide) ?_
  refine lf_iadd 10 rfl rfl ?_
  refine lf_sipush 13 300 rfl rfl (by decide) (by decide) ?_
  obtain ⟨o21, h⟩ := h
  refine lf_icmp_le 18 16 rfl rfl rfl o21 ⟨by decide, by decide⟩ (fun c => ?_) (fun c => ?_)
  · have h := h.1 c
    refine lf_seg 3 (pc' := 23) (lv' := [(0, .ref 0), (1, .int (Int32.ofInt a1)), (2, .int (Int32.ofInt a2)), (3, .int (Int32.ofInt a3)), (4, .int (Int32.ofInt a4)), (5, .int (Int32.ofInt a5))]) (st' := [.int (Int32.ofInt a1), .ref 31]) rfl ?_
    refine lf_callV 26 rfl rfl rfl rfl (gm_26 h) (fun s22 h => ?_)
    refine lf_seg 3 (pc' := 31) (lv' := [(0, .ref 0), (1, .int (Int32.ofInt a1)), (2, .int (Int32.ofInt a2)), (3, .int (Int32.ofInt a3)), (4, .int (Int32.ofInt a4)), (5, .int (Int32.ofInt a5))]) (st' := [.int (Int32.ofInt a2), .ref 31]) rfl ?_
    refine lf_callV 34 rfl rfl rfl rfl (gm_26 h) (fun s23 h => ?_)
    refine lf_seg 3 (pc' := 39) (lv' := [(0, .ref 0), (1, .int (Int32.ofInt a1)), (2, .int (Int32.ofInt a2)), (3, .int (Int32.ofInt a3)), (4, .int (Int32.ofInt a4)), (5, .int (Int32.ofInt a5))]) (st' := [.int (Int32.ofInt a3), .ref 31]) rfl ?_
    refine lf_callV 42 rfl rfl rfl rfl (gm_26 h) (fun s24 h => ?_)
    refine lf_seg 3 (pc' := 48) (lv' := [(0, .ref 0), (1, .int (Int32.ofInt a1)), (2, .int (Int32.ofInt a2)), (3, .int (Int32.ofInt a3)), (4, .int (Int32.ofInt a4)), (5, .int (Int32.ofInt a5))]) (st' := [.int (Int32.ofInt a4), .ref 31]) rfl ?_
    refine lf_callV 51 rfl rfl rfl rfl (gm_26 h) (fun s25 h => ?_)
    refine lf_seg 3 (pc' := 57) (lv' := [(0, .ref 0), (1, .int (Int32.ofInt a1)), (2, .int (Int32.ofInt a2)), (3, .int (Int32.ofInt a3)), (4, .int (Int32.ofInt a4)), (5, .int (Int32.ofInt a5))]) (st' := [.int (Int32.ofInt a5), .ref 31]) rfl ?_
    refine lf_callV 60 rfl rfl rfl rfl (gm_26 h) (fun s26 h => ?_)
    refine lf_seg 2 (pc' := 64) (lv' := [(0, .ref 0), (1, .int (Int32.ofInt a1)), (2, .int (Int32.ofInt a2)), (3, .int (Int32.ofInt a3)), (4, .int (Int32.ofInt a4)), (5, .int (Int32.ofInt a5))]) (st' := [.ref 31]) rfl ?_
    refine lf_getI 67 1 rfl rfl rfl rfl rfl rfl rfl ?_
    exact lf_retI rfl rfl h
  · have h := h.2 c
    refine lf_seg 1 (pc' := 17) (lv' := [(0, .ref 0), (1, .int (Int32.ofInt a1)), (2, .int (Int32.ofInt a2)), (3, .int (Int32.ofInt a3)), (4, .int (Int32.ofInt a4)), (5, .int (Int32.ofInt a5))]) (st' := [.int (Int32.ofInt (-1))]) rfl ?_
    exact lf_retI rfl rfl h
-- fm_193 Model.four 95 i
def fm_193_p3 (Q : lf_Z → Prop) (x1 : Int) (X3 : Int → lf_Z → Prop) (x2 : Int) (s : lf_Z) : Prop := lf_R x2 ∧ ((x2 < 0 → (Q s)) ∧ (¬ (x2 < 0) → ((0 ≤ s.1 95 4 ∧ s.1 95 4 < 300) ∧ (X3 (x2 + (-8)) (lf_up (lf_up s.1 99 (s.1 95 4) (lf_and (lf_shr x1 x2) 255)) 95 4 ((s.1 95 4) + 1), s.2.1, s.2.2)))))
def fm_193_p3L (Q : lf_Z → Prop) (x1 : Int) (x2 : Int) (s : lf_Z) : Prop := ∀ X3 : Int → lf_Z → Prop, (∀ (x2 : Int) (s : lf_Z), fm_193_p3 Q x1 X3 x2 s → X3 x2 s) → X3 x2 s
set_option maxRecDepth 100000 in
theorem gm_193_p3 {L : Nat} {xs : Nat → Int32} {d : Nat} {Q : lf_Z → Prop} {x1 : Int} {x2 : Int} {s : lf_Z} {X3 : Int → lf_Z → Prop} (hX3 : ∀ x2 s, X3 x2 s → lf_E (px_ro L xs) (d + 1) 193 3 [(0, .ref 95), (1, .int (Int32.ofInt x1)), (2, .int (Int32.ofInt x2))] [] s (lf_qv Q)) (h : fm_193_p3 Q x1 X3 x2 s) : lf_E (px_ro L xs) (d + 1) 193 3 [(0, .ref 95), (1, .int (Int32.ofInt x1)), (2, .int (Int32.ofInt x2))] [] s (lf_qv Q) := by
  unfold fm_193_p3 at h
  refine lf_seg 1 (pc' := 4) (lv' := [(0, .ref 95), (1, .int (Int32.ofInt x1)), (2, .int (Int32.ofInt x2))]) (st' := [.int (Int32.ofInt x2)]) rfl ?_
  obtain ⟨o21, h⟩ := h
  refine lf_if_lt 39 7 rfl rfl rfl o21 (fun c => ?_) (fun c => ?_)
  · have h := h.1 c
    exact lf_retV rfl rfl h
  · have h := h.2 c
    refine lf_seg 3 (pc' := 12) (lv' := [(0, .ref 95), (1, .int (Int32.ofInt x1)), (2, .int (Int32.ofInt x2))]) (st' := [.ref 95, .ref 99]) rfl ?_
    refine lf_getI 15 4 rfl rfl rfl rfl rfl rfl rfl ?_
    refine lf_seg 2 (pc' := 17) (lv' := [(0, .ref 95), (1, .int (Int32.ofInt x1)), (2, .int (Int32.ofInt x2))]) (st' := [.int (Int32.ofInt x2), .int (Int32.ofInt x1), .int (Int32.ofInt (s.1 95 4)), .ref 99]) rfl ?_
    refine lf_ishr 18 rfl rfl ?_
    refine lf_sipush 21 255 rfl rfl (by decide) (by decide) ?_
    refine lf_iand 22 rfl rfl ?_
    obtain ⟨o22, h⟩ := h
    refine lf_iast 23 300 rfl rfl rfl rfl rfl rfl o22 ?_
    refine lf_as (lf_up s.1 99 (s.1 95 4) (lf_and (lf_shr x1 x2) 255), s.2.1, s.2.2) rfl ?_
    refine lf_seg 2 (pc' := 25) (lv' := [(0, .ref 95), (1, .int (Int32.ofInt x1)), (2, .int (Int32.ofInt x2))]) (st' := [.ref 95, .ref 95]) rfl ?_
    refine lf_getI 28 4 rfl rfl rfl rfl rfl rfl rfl ?_
    refine lf_seg 1 (pc' := 29) (lv' := [(0, .ref 95), (1, .int (Int32.ofInt x1)), (2, .int (Int32.ofInt x2))]) (st' := [.int (Int32.ofInt 1), .int (Int32.ofInt (s.1 95 4)), .ref 95]) rfl ?_
    refine lf_iadd 30 rfl rfl ?_
    refine lf_putI 33 4 rfl rfl rfl rfl rfl rfl rfl rfl ?_
    refine lf_as (lf_up (lf_up s.1 99 (s.1 95 4) (lf_and (lf_shr x1 x2) 255)) 95 4 ((s.1 95 4) + 1), s.2.1, s.2.2) rfl ?_
    refine lf_iinc 36 rfl rfl rfl rfl ?_
    refine lf_seg 1 (pc' := 3) (lv' := [(2, .int (Int32.ofInt (x2 + (-8)))), (0, .ref 95), (1, .int (Int32.ofInt x1))]) (st' := []) rfl ?_
    refine lf_sub (l := [(0, .ref 95), (1, .int (Int32.ofInt x1)), (2, .int (Int32.ofInt (x2 + (-8))))]) (lf_sb1 rfl (lf_sb1 rfl (lf_sb1 rfl lf_sb0))) ?_
    exact hX3 _ _ h
theorem gm_193_p3L {L : Nat} {xs : Nat → Int32} {d : Nat} {Q : lf_Z → Prop} {x1 : Int} {x2 : Int} {s : lf_Z} (h : fm_193_p3L Q x1 x2 s) : lf_E (px_ro L xs) (d + 1) 193 3 [(0, .ref 95), (1, .int (Int32.ofInt x1)), (2, .int (Int32.ofInt x2))] [] s (lf_qv Q) :=
  h (fun x2 s => lf_E (px_ro L xs) (d + 1) 193 3 [(0, .ref 95), (1, .int (Int32.ofInt x1)), (2, .int (Int32.ofInt x2))] [] s (lf_qv Q)) (fun x2 s hb => gm_193_p3 (fun _ _ h => h) hb)
def fm_193 (a1 : Int) (Q : lf_Z → Prop) (s : lf_Z) : Prop := fm_193_p3L Q a1 24 s
set_option maxRecDepth 100000 in
theorem gm_193 {L : Nat} {xs : Nat → Int32} {d : Nat} {a1 : Int} {Q : lf_Z → Prop} {s : lf_Z} (h : fm_193 a1 Q s) : lf_M (px_ro L xs) (d + 1) 193 [.ref 95, .int (Int32.ofInt a1)] s (lf_qv Q) := by
  unfold fm_193 at h
  show lf_E (px_ro L xs) (d + 1) 193 0 [(0, .ref 95), (1, .int (Int32.ofInt a1))] [] s _
  refine lf_bipush 2 24 rfl rfl (by decide) (by decide) ?_
  refine lf_seg 1 (pc' := 3) (lv' := [(2, .int (Int32.ofInt 24)), (0, .ref 95), (1, .int (Int32.ofInt a1))]) (st' := []) rfl ?_
  refine lf_sub (l := [(0, .ref 95), (1, .int (Int32.ofInt a1)), (2, .int (Int32.ofInt 24))]) (lf_sb1 rfl (lf_sb1 rfl (lf_sb1 rfl lf_sb0))) ?_
  exact gm_193_p3L h
-- fm_192 Model.feed 95 i i i i i
def fm_192 (a1 : Int) (a2 : Int) (a3 : Int) (a4 : Int) (a5 : Int) (Q : Int → lf_Z → Prop) (s : lf_Z) : Prop := lf_R ((s.1 95 4) + 20) ∧ (((s.1 95 4) + 20 ≤ 300 → (fm_193 a1 (fun s22 => (fm_193 a2 (fun s23 => (fm_193 a3 (fun s24 => (fm_193 a4 (fun s25 => (fm_193 a5 (fun s26 => (Q (s26.1 95 4) s26)) s25)) s24)) s23)) s22)) s)) ∧ (¬ ((s.1 95 4) + 20 ≤ 300) → (Q (-1) s)))
set_option maxRecDepth 100000 in
theorem gm_192 {L : Nat} {xs : Nat → Int32} {d : Nat} {a1 : Int} {a2 : Int} {a3 : Int} {a4 : Int} {a5 : Int} {Q : Int → lf_Z → Prop} {s : lf_Z} (h : fm_192 a1 a2 a3 a4 a5 Q s) : lf_M (px_ro L xs) (d + 2) 192 [.ref 95, .int (Int32.ofInt a1), .int (Int32.ofInt a2), .int (Int32.ofInt a3), .int (Int32.ofInt a4), .int (Int32.ofInt a5)] s (lf_qi Q) := by
  unfold fm_192 at h
  show lf_E (px_ro L xs) (d + 2) 192 0 [(0, .ref 95), (1, .int (Int32.ofInt a1)), (2, .int (Int32.ofInt a2)), (3, .int (Int32.ofInt a3)), (4, .int (Int32.ofInt a4)), (5, .int (Int32.ofInt a5))] [] s _
  refine lf_seg 1 (pc' := 1) (lv' := [(0, .ref 95), (1, .int (Int32.ofInt a1)), (2, .int (Int32.ofInt a2)), (3, .int (Int32.ofInt a3)), (4, .int (Int32.ofInt a4)), (5, .int (Int32.ofInt a5))]) (st' := [.ref 95]) rfl ?_
  refine lf_getI 4 4 rfl rfl rfl rfl rfl rfl rfl ?_
  refine lf_bipush 6 20 rfl rfl (by decide) (by decide) ?_
  refine lf_iadd 7 rfl rfl ?_
  refine lf_sipush 10 300 rfl rfl (by decide) (by decide) ?_
  obtain ⟨o21, h⟩ := h
  refine lf_icmp_le 15 13 rfl rfl rfl o21 ⟨by decide, by decide⟩ (fun c => ?_) (fun c => ?_)
  · have h := h.1 c
    refine lf_seg 2 (pc' := 17) (lv' := [(0, .ref 95), (1, .int (Int32.ofInt a1)), (2, .int (Int32.ofInt a2)), (3, .int (Int32.ofInt a3)), (4, .int (Int32.ofInt a4)), (5, .int (Int32.ofInt a5))]) (st' := [.int (Int32.ofInt a1), .ref 95]) rfl ?_
    refine lf_callV 20 rfl rfl rfl rfl (gm_193 h) (fun s22 h => ?_)
    refine lf_seg 2 (pc' := 22) (lv' := [(0, .ref 95), (1, .int (Int32.ofInt a1)), (2, .int (Int32.ofInt a2)), (3, .int (Int32.ofInt a3)), (4, .int (Int32.ofInt a4)), (5, .int (Int32.ofInt a5))]) (st' := [.int (Int32.ofInt a2), .ref 95]) rfl ?_
    refine lf_callV 25 rfl rfl rfl rfl (gm_193 h) (fun s23 h => ?_)
    refine lf_seg 2 (pc' := 27) (lv' := [(0, .ref 95), (1, .int (Int32.ofInt a1)), (2, .int (Int32.ofInt a2)), (3, .int (Int32.ofInt a3)), (4, .int (Int32.ofInt a4)), (5, .int (Int32.ofInt a5))]) (st' := [.int (Int32.ofInt a3), .ref 95]) rfl ?_
    refine lf_callV 30 rfl rfl rfl rfl (gm_193 h) (fun s24 h => ?_)
    refine lf_seg 2 (pc' := 33) (lv' := [(0, .ref 95), (1, .int (Int32.ofInt a1)), (2, .int (Int32.ofInt a2)), (3, .int (Int32.ofInt a3)), (4, .int (Int32.ofInt a4)), (5, .int (Int32.ofInt a5))]) (st' := [.int (Int32.ofInt a4), .ref 95]) rfl ?_
    refine lf_callV 36 rfl rfl rfl rfl (gm_193 h) (fun s25 h => ?_)
    refine lf_seg 2 (pc' := 39) (lv' := [(0, .ref 95), (1, .int (Int32.ofInt a1)), (2, .int (Int32.ofInt a2)), (3, .int (Int32.ofInt a3)), (4, .int (Int32.ofInt a4)), (5, .int (Int32.ofInt a5))]) (st' := [.int (Int32.ofInt a5), .ref 95]) rfl ?_
    refine lf_callV 42 rfl rfl rfl rfl (gm_193 h) (fun s26 h => ?_)
    refine lf_seg 1 (pc' := 43) (lv' := [(0, .ref 95), (1, .int (Int32.ofInt a1)), (2, .int (Int32.ofInt a2)), (3, .int (Int32.ofInt a3)), (4, .int (Int32.ofInt a4)), (5, .int (Int32.ofInt a5))]) (st' := [.ref 95]) rfl ?_
    refine lf_getI 46 4 rfl rfl rfl rfl rfl rfl rfl ?_
    exact lf_retI rfl rfl h
  · have h := h.2 c
    refine lf_seg 1 (pc' := 14) (lv' := [(0, .ref 95), (1, .int (Int32.ofInt a1)), (2, .int (Int32.ofInt a2)), (3, .int (Int32.ofInt a3)), (4, .int (Int32.ofInt a4)), (5, .int (Int32.ofInt a5))]) (st' := [.int (Int32.ofInt (-1))]) rfl ?_
    exact lf_retI rfl rfl h
-- fm_27 ElevenBullocks.end 0 i
def fm_27 (a1 : Int) (Q : Int → lf_Z → Prop) (s : lf_Z) : Prop := fm_15 a1 0 (s.1 31 1) (fun z22 s21 => ((z22 = true → (Q a1 (lf_up s21.1 31 1 a1, s21.2.1, s21.2.2))) ∧ (z22 = false → (Q (-1) s21)))) s
set_option maxRecDepth 100000 in
theorem gm_27 {L : Nat} {xs : Nat → Int32} {d : Nat} {a1 : Int} {Q : Int → lf_Z → Prop} {s : lf_Z} (h : fm_27 a1 Q s) : lf_M (px_ro L xs) (d + 2) 27 [.ref 0, .int (Int32.ofInt a1)] s (lf_qi Q) := by
  unfold fm_27 at h
  show lf_E (px_ro L xs) (d + 2) 27 0 [(0, .ref 0), (1, .int (Int32.ofInt a1))] [] s _
  refine lf_seg 4 (pc' := 6) (lv' := [(0, .ref 0), (1, .int (Int32.ofInt a1))]) (st' := [.ref 31, .int (Int32.ofInt 0), .int (Int32.ofInt a1)]) rfl ?_
  refine lf_getI 9 1 rfl rfl rfl rfl rfl rfl rfl ?_
  refine lf_callZ 12 rfl rfl rfl rfl (gm_15 h) (fun z22 s21 h => ?_)
  refine lf_ifz_ne 17 15 rfl rfl rfl (fun c => ?_) (fun c => ?_)
  · have h := h.1 c
    refine lf_seg 3 (pc' := 22) (lv' := [(0, .ref 0), (1, .int (Int32.ofInt a1))]) (st' := [.int (Int32.ofInt a1), .ref 31]) rfl ?_
    refine lf_putI 25 1 rfl rfl rfl rfl rfl rfl rfl rfl ?_
    refine lf_as (lf_up s21.1 31 1 a1, s21.2.1, s21.2.2) rfl ?_
    refine lf_seg 1 (pc' := 26) (lv' := [(0, .ref 0), (1, .int (Int32.ofInt a1))]) (st' := [.int (Int32.ofInt a1)]) rfl ?_
    exact lf_retI rfl rfl h
  · have h := h.2 c
    refine lf_seg 1 (pc' := 16) (lv' := [(0, .ref 0), (1, .int (Int32.ofInt a1))]) (st' := [.int (Int32.ofInt (-1))]) rfl ?_
    exact lf_retI rfl rfl h
-- fm_194 Model.end 95 i
def fm_194 (a1 : Int) (Q : Int → lf_Z → Prop) (s : lf_Z) : Prop := fm_183 a1 0 (s.1 95 4) (fun z22 s21 => ((z22 = true → (Q a1 (lf_up s21.1 95 4 a1, s21.2.1, s21.2.2))) ∧ (z22 = false → (Q (-1) s21)))) s
set_option maxRecDepth 100000 in
theorem gm_194 {L : Nat} {xs : Nat → Int32} {d : Nat} {a1 : Int} {Q : Int → lf_Z → Prop} {s : lf_Z} (h : fm_194 a1 Q s) : lf_M (px_ro L xs) (d + 2) 194 [.ref 95, .int (Int32.ofInt a1)] s (lf_qi Q) := by
  unfold fm_194 at h
  show lf_E (px_ro L xs) (d + 2) 194 0 [(0, .ref 95), (1, .int (Int32.ofInt a1))] [] s _
  refine lf_seg 3 (pc' := 3) (lv' := [(0, .ref 95), (1, .int (Int32.ofInt a1))]) (st' := [.ref 95, .int (Int32.ofInt 0), .int (Int32.ofInt a1)]) rfl ?_
  refine lf_getI 6 4 rfl rfl rfl rfl rfl rfl rfl ?_
  refine lf_callZ 9 rfl rfl rfl rfl (gm_183 h) (fun z22 s21 h => ?_)
  refine lf_ifz_ne 14 12 rfl rfl rfl (fun c => ?_) (fun c => ?_)
  · have h := h.1 c
    refine lf_seg 2 (pc' := 16) (lv' := [(0, .ref 95), (1, .int (Int32.ofInt a1))]) (st' := [.int (Int32.ofInt a1), .ref 95]) rfl ?_
    refine lf_putI 19 4 rfl rfl rfl rfl rfl rfl rfl rfl ?_
    refine lf_as (lf_up s21.1 95 4 a1, s21.2.1, s21.2.2) rfl ?_
    refine lf_seg 1 (pc' := 20) (lv' := [(0, .ref 95), (1, .int (Int32.ofInt a1))]) (st' := [.int (Int32.ofInt a1)]) rfl ?_
    exact lf_retI rfl rfl h
  · have h := h.2 c
    refine lf_seg 1 (pc' := 13) (lv' := [(0, .ref 95), (1, .int (Int32.ofInt a1))]) (st' := [.int (Int32.ofInt (-1))]) rfl ?_
    exact lf_retI rfl rfl h
-- fm_30 Script.clear t
def fm_30 (t0 : Nat) (Q : lf_Z → Prop) (s : lf_Z) : Prop := Q (lf_fl (lf_up (lf_up s.1 (35 + 7 * t0) 1 0) (35 + 7 * t0) 7 0) (37 + 7 * t0) 3 (-1), s.2.1, s.2.2)
set_option maxRecDepth 100000 in
theorem gm_30 {L : Nat} {xs : Nat → Int32} {d : Nat} {t0 : Nat} {Q : lf_Z → Prop} {s : lf_Z} (htt0 : t0 < 4) (h : fm_30 t0 Q s) : lf_M (px_ro L xs) (d + 2) 30 [.ref (35 + 7 * t0)] s (lf_qv Q) := by
  unfold fm_30 at h
  show lf_E (px_ro L xs) (d + 2) 30 0 [(0, .ref (35 + 7 * t0))] [] s _
  refine lf_seg 2 (pc' := 2) (lv' := [(0, .ref (35 + 7 * t0))]) (st' := [.int (Int32.ofInt 0), .ref (35 + 7 * t0)]) rfl ?_
  refine lf_putI 5 1 rfl rfl rfl (lf_scr htt0) (lf_scL htt0) rfl rfl rfl ?_
  refine lf_as (lf_up s.1 (35 + 7 * t0) 1 0, s.2.1, s.2.2) rfl ?_
  refine lf_seg 2 (pc' := 7) (lv' := [(0, .ref (35 + 7 * t0))]) (st' := [.int (Int32.ofInt 0), .ref (35 + 7 * t0)]) rfl ?_
  refine lf_putI 10 7 rfl rfl rfl (lf_scr htt0) (lf_scL htt0) rfl rfl rfl ?_
  refine lf_as (lf_up (lf_up s.1 (35 + 7 * t0) 1 0) (35 + 7 * t0) 7 0, s.2.1, s.2.2) rfl ?_
  refine lf_seg 1 (pc' := 11) (lv' := [(0, .ref (35 + 7 * t0))]) (st' := [.ref (35 + 7 * t0)]) rfl ?_
  refine lf_getR 14 (w := some (37 + 7 * t0)) rfl rfl rfl (lf_scr htt0) (lf_scL htt0) rfl (lf_sP2 htt0) ?_
  refine lf_seg 1 (pc' := 15) (lv' := [(0, .ref (35 + 7 * t0))]) (st' := [.int (Int32.ofInt (-1)), .ref (37 + 7 * t0)]) rfl ?_
  refine lf_callV (Q1 := fun s1 => s1 = (lf_fl (lf_up (lf_up s.1 (35 + 7 * t0) 1 0) (35 + 7 * t0) 7 0) (37 + 7 * t0) 3 (-1), s.2.1, s.2.2)) 18 rfl rfl rfl rfl (lf_fill (m := 3) (lf_sA2 htt0) (lf_sC2 htt0) (lf_sB2 htt0) rfl rfl rfl) (fun s1 hs1 => ?_)
  refine lf_as (lf_fl (lf_up (lf_up s.1 (35 + 7 * t0) 1 0) (35 + 7 * t0) 7 0) (37 + 7 * t0) 3 (-1), s.2.1, s.2.2) hs1 ?_
  exact lf_retV rfl rfl h
-- fm_32 Reader.isDigit i
def fm_32 (a0 : Int) (Q : Bool → lf_Z → Prop) (s : lf_Z) : Prop := lf_R a0 ∧ ((a0 < 48 → (Q false s)) ∧ (¬ (a0 < 48) → ((57 < a0 → (Q false s)) ∧ (¬ (57 < a0) → (Q true s)))))
set_option maxRecDepth 100000 in
theorem gm_32 {L : Nat} {xs : Nat → Int32} {d : Nat} {a0 : Int} {Q : Bool → lf_Z → Prop} {s : lf_Z} (h : fm_32 a0 Q s) : lf_M (px_ro L xs) (d + 1) 32 [.int (Int32.ofInt a0)] s (lf_qz Q) := by
  unfold fm_32 at h
  show lf_E (px_ro L xs) (d + 1) 32 0 [(0, .int (Int32.ofInt a0))] [] s _
  refine lf_seg 1 (pc' := 1) (lv' := [(0, .int (Int32.ofInt a0))]) (st' := [.int (Int32.ofInt a0)]) rfl ?_
  refine lf_bipush 3 48 rfl rfl (by decide) (by decide) ?_
  obtain ⟨o21, h⟩ := h
  refine lf_icmp_lt 16 6 rfl rfl rfl o21 ⟨by decide, by decide⟩ (fun c => ?_) (fun c => ?_)
  · have h := h.1 c
    refine lf_seg 1 (pc' := 17) (lv' := [(0, .int (Int32.ofInt a0))]) (st' := [.int (Int32.ofInt 0)]) rfl ?_
    exact lf_retZ false rfl rfl h
  · have h := h.2 c
    refine lf_seg 1 (pc' := 7) (lv' := [(0, .int (Int32.ofInt a0))]) (st' := [.int (Int32.ofInt a0)]) rfl ?_
    refine lf_bipush 9 57 rfl rfl (by decide) (by decide) ?_
    refine lf_icmp_gt 16 12 rfl rfl rfl o21 ⟨by decide, by decide⟩ (fun c => ?_) (fun c => ?_)
    · have h := h.1 c
      refine lf_seg 1 (pc' := 17) (lv' := [(0, .int (Int32.ofInt a0))]) (st' := [.int (Int32.ofInt 0)]) rfl ?_
      exact lf_retZ false rfl rfl h
    · have h := h.2 c
      refine lf_seg 2 (pc' := 17) (lv' := [(0, .int (Int32.ofInt a0))]) (st' := [.int (Int32.ofInt 1)]) rfl ?_
      exact lf_retZ true rfl rfl h
-- fm_34 Reader.isLetter i
def fm_34_p12 (Q : Bool → lf_Z → Prop) (x0 : Int) (s : lf_Z) : Prop := lf_R x0 ∧ ((x0 < 65 → (Q false s)) ∧ (¬ (x0 < 65) → ((90 < x0 → (Q false s)) ∧ (¬ (90 < x0) → (Q true s)))))
set_option maxRecDepth 100000 in
theorem gm_34_p12 {L : Nat} {xs : Nat → Int32} {d : Nat} {Q : Bool → lf_Z → Prop} {x0 : Int} {s : lf_Z} (h : fm_34_p12 Q x0 s) : lf_E (px_ro L xs) (d + 1) 34 12 [(0, .int (Int32.ofInt x0))] [] s (lf_qz Q) := by
  unfold fm_34_p12 at h
  refine lf_seg 1 (pc' := 13) (lv' := [(0, .int (Int32.ofInt x0))]) (st' := [.int (Int32.ofInt x0)]) rfl ?_
  refine lf_bipush 15 65 rfl rfl (by decide) (by decide) ?_
  obtain ⟨o22, h⟩ := h
  refine lf_icmp_lt 28 18 rfl rfl rfl o22 ⟨by decide, by decide⟩ (fun c => ?_) (fun c => ?_)
  · have h := h.1 c
    refine lf_seg 1 (pc' := 29) (lv' := [(0, .int (Int32.ofInt x0))]) (st' := [.int (Int32.ofInt 0)]) rfl ?_
    exact lf_retZ false rfl rfl h
  · have h := h.2 c
    refine lf_seg 1 (pc' := 19) (lv' := [(0, .int (Int32.ofInt x0))]) (st' := [.int (Int32.ofInt x0)]) rfl ?_
    refine lf_bipush 21 90 rfl rfl (by decide) (by decide) ?_
    refine lf_icmp_gt 28 24 rfl rfl rfl o22 ⟨by decide, by decide⟩ (fun c => ?_) (fun c => ?_)
    · have h := h.1 c
      refine lf_seg 1 (pc' := 29) (lv' := [(0, .int (Int32.ofInt x0))]) (st' := [.int (Int32.ofInt 0)]) rfl ?_
      exact lf_retZ false rfl rfl h
    · have h := h.2 c
      refine lf_seg 2 (pc' := 29) (lv' := [(0, .int (Int32.ofInt x0))]) (st' := [.int (Int32.ofInt 1)]) rfl ?_
      exact lf_retZ true rfl rfl h
def fm_34 (a0 : Int) (Q : Bool → lf_Z → Prop) (s : lf_Z) : Prop := lf_R a0 ∧ ((a0 < 97 → (fm_34_p12 Q a0 s)) ∧ (¬ (a0 < 97) → ((a0 ≤ 122 → (Q true s)) ∧ (¬ (a0 ≤ 122) → (fm_34_p12 Q a0 s)))))
set_option maxRecDepth 100000 in
theorem gm_34 {L : Nat} {xs : Nat → Int32} {d : Nat} {a0 : Int} {Q : Bool → lf_Z → Prop} {s : lf_Z} (h : fm_34 a0 Q s) : lf_M (px_ro L xs) (d + 1) 34 [.int (Int32.ofInt a0)] s (lf_qz Q) := by
  unfold fm_34 at h
  show lf_E (px_ro L xs) (d + 1) 34 0 [(0, .int (Int32.ofInt a0))] [] s _
  refine lf_seg 1 (pc' := 1) (lv' := [(0, .int (Int32.ofInt a0))]) (st' := [.int (Int32.ofInt a0)]) rfl ?_
  refine lf_bipush 3 97 rfl rfl (by decide) (by decide) ?_
  obtain ⟨o21, h⟩ := h
  refine lf_icmp_lt 12 6 rfl rfl rfl o21 ⟨by decide, by decide⟩ (fun c => ?_) (fun c => ?_)
  · have h := h.1 c
    refine lf_sub (l := [(0, .int (Int32.ofInt a0))]) (lf_sb1 rfl lf_sb0) ?_
    exact gm_34_p12 h
  · have h := h.2 c
    refine lf_seg 1 (pc' := 7) (lv' := [(0, .int (Int32.ofInt a0))]) (st' := [.int (Int32.ofInt a0)]) rfl ?_
    refine lf_bipush 9 122 rfl rfl (by decide) (by decide) ?_
    refine lf_icmp_le 24 12 rfl rfl rfl o21 ⟨by decide, by decide⟩ (fun c => ?_) (fun c => ?_)
    · have h := h.1 c
      refine lf_seg 2 (pc' := 29) (lv' := [(0, .int (Int32.ofInt a0))]) (st' := [.int (Int32.ofInt 1)]) rfl ?_
      exact lf_retZ true rfl rfl h
    · have h := h.2 c
      refine lf_sub (l := [(0, .int (Int32.ofInt a0))]) (lf_sb1 rfl lf_sb0) ?_
      exact gm_34_p12 h
-- fm_37 Reader.scanSign 31 i
def fm_37_p311 (Q : lf_Z → Prop) (s : lf_Z) : Prop := Q (lf_up s.1 31 8 1, s.2.1, s.2.2)
set_option maxRecDepth 100000 in
theorem gm_37_p311 {L : Nat} {xs : Nat → Int32} {d : Nat} {Q : lf_Z → Prop} {s : lf_Z} (h : fm_37_p311 Q s) : lf_E (px_ro L xs) (d + 1) 37 311 [(0, .ref 31)] [] s (lf_qv Q) := by
  unfold fm_37_p311 at h
  refine lf_seg 2 (pc' := 313) (lv' := [(0, .ref 31)]) (st' := [.int (Int32.ofInt 1), .ref 31]) rfl ?_
  refine lf_putI 316 8 rfl rfl rfl rfl rfl rfl rfl rfl ?_
  refine lf_as (lf_up s.1 31 8 1, s.2.1, s.2.2) rfl ?_
  exact lf_retV rfl rfl h
def fm_37_p206 (Q : lf_Z → Prop) (y1 : Int) (s : lf_Z) : Prop := Q (lf_up s.1 31 8 y1, s.2.1, s.2.2)
set_option maxRecDepth 100000 in
theorem gm_37_p206 {L : Nat} {xs : Nat → Int32} {d : Nat} {Q : lf_Z → Prop} {y1 : Int} {s : lf_Z} (h : fm_37_p206 Q y1 s) : lf_E (px_ro L xs) (d + 1) 37 206 [] [.int (Int32.ofInt y1), .ref 31] s (lf_qv Q) := by
  unfold fm_37_p206 at h
  refine lf_putI 209 8 rfl rfl rfl rfl rfl rfl rfl rfl ?_
  refine lf_as (lf_up s.1 31 8 y1, s.2.1, s.2.2) rfl ?_
  refine lf_seg 1 (pc' := 316) (lv' := []) (st' := []) rfl ?_
  exact lf_retV rfl rfl h
def fm_37_p224 (Q : lf_Z → Prop) (y1 : Int) (s : lf_Z) : Prop := Q (lf_up s.1 31 8 y1, s.2.1, s.2.2)
set_option maxRecDepth 100000 in
theorem gm_37_p224 {L : Nat} {xs : Nat → Int32} {d : Nat} {Q : lf_Z → Prop} {y1 : Int} {s : lf_Z} (h : fm_37_p224 Q y1 s) : lf_E (px_ro L xs) (d + 1) 37 224 [] [.int (Int32.ofInt y1), .ref 31] s (lf_qv Q) := by
  unfold fm_37_p224 at h
  refine lf_putI 227 8 rfl rfl rfl rfl rfl rfl rfl rfl ?_
  refine lf_as (lf_up s.1 31 8 y1, s.2.1, s.2.2) rfl ?_
  refine lf_seg 1 (pc' := 316) (lv' := []) (st' := []) rfl ?_
  exact lf_retV rfl rfl h
def fm_37_p67 (Q : lf_Z → Prop) (x1 : Int) (x2 : Int) (s : lf_Z) : Prop := lf_R x1 ∧ ((x1 < 35 ∨ 62 < x1 → (fm_37_p311 Q s)) ∧ (x1 = 35 → (Q (lf_up s.1 31 8 9, s.2.1, s.2.2))) ∧ (x1 = 36 → (fm_37_p311 Q s)) ∧ (x1 = 37 → (fm_37_p311 Q s)) ∧ (x1 = 38 → (fm_37_p311 Q s)) ∧ (x1 = 39 → (fm_37_p311 Q s)) ∧ (x1 = 40 → (Q (lf_up s.1 31 8 14, s.2.1, s.2.2))) ∧ (x1 = 41 → (Q (lf_up s.1 31 8 15, s.2.1, s.2.2))) ∧ (x1 = 42 → (Q (lf_up s.1 31 8 12, s.2.1, s.2.2))) ∧ (x1 = 43 → (Q (lf_up s.1 31 8 10, s.2.1, s.2.2))) ∧ (x1 = 44 → (fm_37_p311 Q s)) ∧ (x1 = 45 → (Q (lf_up s.1 31 8 11, s.2.1, s.2.2))) ∧ (x1 = 46 → (fm_37_p311 Q s)) ∧ (x1 = 47 → (Q (lf_up s.1 31 8 13, s.2.1, s.2.2))) ∧ (x1 = 48 → (fm_37_p311 Q s)) ∧ (x1 = 49 → (fm_37_p311 Q s)) ∧ (x1 = 50 → (fm_37_p311 Q s)) ∧ (x1 = 51 → (fm_37_p311 Q s)) ∧ (x1 = 52 → (fm_37_p311 Q s)) ∧ (x1 = 53 → (fm_37_p311 Q s)) ∧ (x1 = 54 → (fm_37_p311 Q s)) ∧ (x1 = 55 → (fm_37_p311 Q s)) ∧ (x1 = 56 → (fm_37_p311 Q s)) ∧ (x1 = 57 → (fm_37_p311 Q s)) ∧ (x1 = 58 → (fm_37_p311 Q s)) ∧ (x1 = 59 → (Q (lf_up s.1 31 8 16, s.2.1, s.2.2))) ∧ (x1 = 60 → (lf_R x2 ∧ ((x2 = 0 → (fm_37_p206 Q 4 s)) ∧ (¬ (x2 = 0) → (fm_37_p206 Q 5 s))))) ∧ (x1 = 61 → (Q (lf_up s.1 31 8 8, s.2.1, s.2.2))) ∧ (x1 = 62 → (lf_R x2 ∧ ((x2 = 0 → (fm_37_p224 Q 6 s)) ∧ (¬ (x2 = 0) → (fm_37_p224 Q 7 s))))))
set_option maxRecDepth 100000 in
theorem gm_37_p67 {L : Nat} {xs : Nat → Int32} {d : Nat} {Q : lf_Z → Prop} {x1 : Int} {x2 : Int} {s : lf_Z} (h : fm_37_p67 Q x1 x2 s) : lf_E (px_ro L xs) (d + 1) 37 67 [(0, .ref 31), (1, .int (Int32.ofInt x1)), (2, .int (Int32.ofInt x2))] [] s (lf_qv Q) := by
  unfold fm_37_p67 at h
  refine lf_seg 1 (pc' := 68) (lv' := [(0, .ref 31), (1, .int (Int32.ofInt x1)), (2, .int (Int32.ofInt x2))]) (st' := [.int (Int32.ofInt x1)]) rfl ?_
  obtain ⟨o24, h⟩ := h
  refine lf_tsw 311 [(35, 239), (36, 311), (37, 311), (38, 311), (39, 311), (40, 284), (41, 293), (42, 266), (43, 248), (44, 311), (45, 257), (46, 311), (47, 275), (48, 311), (49, 311), (50, 311), (51, 311), (52, 311), (53, 311), (54, 311), (55, 311), (56, 311), (57, 311), (58, 311), (59, 302), (60, 196), (61, 230), (62, 212)] rfl rfl rfl (by decide) o24 (fun c => ?_) (lf_tab1 (fun c => ?_) (lf_tab1 (fun c => ?_) (lf_tab1 (fun c => ?_) (lf_tab1 (fun c => ?_) (lf_tab1 (fun c => ?_) (lf_tab1 (fun c => ?_) (lf_tab1 (fun c => ?_) (lf_tab1 (fun c => ?_) (lf_tab1 (fun c => ?_) (lf_tab1 (fun c => ?_) (lf_tab1 (fun c => ?_) (lf_tab1 (fun c => ?_) (lf_tab1 (fun c => ?_) (lf_tab1 (fun c => ?_) (lf_tab1 (fun c => ?_) (lf_tab1 (fun c => ?_) (lf_tab1 (fun c => ?_) (lf_tab1 (fun c => ?_) (lf_tab1 (fun c => ?_) (lf_tab1 (fun c => ?_) (lf_tab1 (fun c => ?_) (lf_tab1 (fun c => ?_) (lf_tab1 (fun c => ?_) (lf_tab1 (fun c => ?_) (lf_tab1 (fun c => ?_) (lf_tab1 (fun c => ?_) (lf_tab1 (fun c => ?_) (lf_tab1 (fun c => ?_) lf_tab0))))))))))))))))))))))))))))
  · have h := h.1 c
    refine lf_sub (l := [(0, .ref 31)]) (lf_sb1 rfl lf_sb0) ?_
    exact gm_37_p311 h
  · have h := h.2.1 c
    refine lf_seg 1 (pc' := 240) (lv' := [(0, .ref 31), (1, .int (Int32.ofInt x1)), (2, .int (Int32.ofInt x2))]) (st' := [.ref 31]) rfl ?_
    refine lf_bipush 242 9 rfl rfl (by decide) (by decide) ?_
    refine lf_putI 245 8 rfl rfl rfl rfl rfl rfl rfl rfl ?_
    refine lf_as (lf_up s.1 31 8 9, s.2.1, s.2.2) rfl ?_
    refine lf_seg 1 (pc' := 316) (lv' := [(0, .ref 31), (1, .int (Int32.ofInt x1)), (2, .int (Int32.ofInt x2))]) (st' := []) rfl ?_
    exact lf_retV rfl rfl h
  · have h := h.2.2.1 c
    refine lf_sub (l := [(0, .ref 31)]) (lf_sb1 rfl lf_sb0) ?_
    exact gm_37_p311 h
  · have h := h.2.2.2.1 c
    refine lf_sub (l := [(0, .ref 31)]) (lf_sb1 rfl lf_sb0) ?_
    exact gm_37_p311 h
  · have h := h.2.2.2.2.1 c
    refine lf_sub (l := [(0, .ref 31)]) (lf_sb1 rfl lf_sb0) ?_
    exact gm_37_p311 h
  · have h := h.2.2.2.2.2.1 c
    refine lf_sub (l := [(0, .ref 31)]) (lf_sb1 rfl lf_sb0) ?_
    exact gm_37_p311 h
  · have h := h.2.2.2.2.2.2.1 c
    refine lf_seg 1 (pc' := 285) (lv' := [(0, .ref 31), (1, .int (Int32.ofInt x1)), (2, .int (Int32.ofInt x2))]) (st' := [.ref 31]) rfl ?_
    refine lf_bipush 287 14 rfl rfl (by decide) (by decide) ?_
    refine lf_putI 290 8 rfl rfl rfl rfl rfl rfl rfl rfl ?_
    refine lf_as (lf_up s.1 31 8 14, s.2.1, s.2.2) rfl ?_
    refine lf_seg 1 (pc' := 316) (lv' := [(0, .ref 31), (1, .int (Int32.ofInt x1)), (2, .int (Int32.ofInt x2))]) (st' := []) rfl ?_
    exact lf_retV rfl rfl h
  · have h := h.2.2.2.2.2.2.2.1 c
    refine lf_seg 1 (pc' := 294) (lv' := [(0, .ref 31), (1, .int (Int32.ofInt x1)), (2, .int (Int32.ofInt x2))]) (st' := [.ref 31]) rfl ?_
    refine lf_bipush 296 15 rfl rfl (by decide) (by decide) ?_
    refine lf_putI 299 8 rfl rfl rfl rfl rfl rfl rfl rfl ?_
    refine lf_as (lf_up s.1 31 8 15, s.2.1, s.2.2) rfl ?_
    refine lf_seg 1 (pc' := 316) (lv' := [(0, .ref 31), (1, .int (Int32.ofInt x1)), (2, .int (Int32.ofInt x2))]) (st' := []) rfl ?_
    exact lf_retV rfl rfl h
  · have h := h.2.2.2.2.2.2.2.2.1 c
    refine lf_seg 1 (pc' := 267) (lv' := [(0, .ref 31), (1, .int (Int32.ofInt x1)), (2, .int (Int32.ofInt x2))]) (st' := [.ref 31]) rfl ?_
    refine lf_bipush 269 12 rfl rfl (by decide) (by decide) ?_
    refine lf_putI 272 8 rfl rfl rfl rfl rfl rfl rfl rfl ?_
    refine lf_as (lf_up s.1 31 8 12, s.2.1, s.2.2) rfl ?_
    refine lf_seg 1 (pc' := 316) (lv' := [(0, .ref 31), (1, .int (Int32.ofInt x1)), (2, .int (Int32.ofInt x2))]) (st' := []) rfl ?_
    exact lf_retV rfl rfl h
  · have h := h.2.2.2.2.2.2.2.2.2.1 c
    refine lf_seg 1 (pc' := 249) (lv' := [(0, .ref 31), (1, .int (Int32.ofInt x1)), (2, .int (Int32.ofInt x2))]) (st' := [.ref 31]) rfl ?_
    refine lf_bipush 251 10 rfl rfl (by decide) (by decide) ?_
    refine lf_putI 254 8 rfl rfl rfl rfl rfl rfl rfl rfl ?_
    refine lf_as (lf_up s.1 31 8 10, s.2.1, s.2.2) rfl ?_
    refine lf_seg 1 (pc' := 316) (lv' := [(0, .ref 31), (1, .int (Int32.ofInt x1)), (2, .int (Int32.ofInt x2))]) (st' := []) rfl ?_
    exact lf_retV rfl rfl h
  · have h := h.2.2.2.2.2.2.2.2.2.2.1 c
    refine lf_sub (l := [(0, .ref 31)]) (lf_sb1 rfl lf_sb0) ?_
    exact gm_37_p311 h
  · have h := h.2.2.2.2.2.2.2.2.2.2.2.1 c
    refine lf_seg 1 (pc' := 258) (lv' := [(0, .ref 31), (1, .int (Int32.ofInt x1)), (2, .int (Int32.ofInt x2))]) (st' := [.ref 31]) rfl ?_
    refine lf_bipush 260 11 rfl rfl (by decide) (by decide) ?_
    refine lf_putI 263 8 rfl rfl rfl rfl rfl rfl rfl rfl ?_
    refine lf_as (lf_up s.1 31 8 11, s.2.1, s.2.2) rfl ?_
    refine lf_seg 1 (pc' := 316) (lv' := [(0, .ref 31), (1, .int (Int32.ofInt x1)), (2, .int (Int32.ofInt x2))]) (st' := []) rfl ?_
    exact lf_retV rfl rfl h
  · have h := h.2.2.2.2.2.2.2.2.2.2.2.2.1 c
    refine lf_sub (l := [(0, .ref 31)]) (lf_sb1 rfl lf_sb0) ?_
    exact gm_37_p311 h
  · have h := h.2.2.2.2.2.2.2.2.2.2.2.2.2.1 c
    refine lf_seg 1 (pc' := 276) (lv' := [(0, .ref 31), (1, .int (Int32.ofInt x1)), (2, .int (Int32.ofInt x2))]) (st' := [.ref 31]) rfl ?_
    refine lf_bipush 278 13 rfl rfl (by decide) (by decide) ?_
    refine lf_putI 281 8 rfl rfl rfl rfl rfl rfl rfl rfl ?_
    refine lf_as (lf_up s.1 31 8 13, s.2.1, s.2.2) rfl ?_
    refine lf_seg 1 (pc' := 316) (lv' := [(0, .ref 31), (1, .int (Int32.ofInt x1)), (2, .int (Int32.ofInt x2))]) (st' := []) rfl ?_
    exact lf_retV rfl rfl h
  · have h := h.2.2.2.2.2.2.2.2.2.2.2.2.2.2.1 c
    refine lf_sub (l := [(0, .ref 31)]) (lf_sb1 rfl lf_sb0) ?_
    exact gm_37_p311 h
  · have h := h.2.2.2.2.2.2.2.2.2.2.2.2.2.2.2.1 c
    refine lf_sub (l := [(0, .ref 31)]) (lf_sb1 rfl lf_sb0) ?_
    exact gm_37_p311 h
  · have h := h.2.2.2.2.2.2.2.2.2.2.2.2.2.2.2.2.1 c
    refine lf_sub (l := [(0, .ref 31)]) (lf_sb1 rfl lf_sb0) ?_
    exact gm_37_p311 h
  · have h := h.2.2.2.2.2.2.2.2.2.2.2.2.2.2.2.2.2.1 c
    refine lf_sub (l := [(0, .ref 31)]) (lf_sb1 rfl lf_sb0) ?_
    exact gm_37_p311 h
  · have h := h.2.2.2.2.2.2.2.2.2.2.2.2.2.2.2.2.2.2.1 c
    refine lf_sub (l := [(0, .ref 31)]) (lf_sb1 rfl lf_sb0) ?_
    exact gm_37_p311 h
  · have h := h.2.2.2.2.2.2.2.2.2.2.2.2.2.2.2.2.2.2.2.1 c
    refine lf_sub (l := [(0, .ref 31)]) (lf_sb1 rfl lf_sb0) ?_
    exact gm_37_p311 h
  · have h := h.2.2.2.2.2.2.2.2.2.2.2.2.2.2.2.2.2.2.2.2.1 c
    refine lf_sub (l := [(0, .ref 31)]) (lf_sb1 rfl lf_sb0) ?_
    exact gm_37_p311 h
  · have h := h.2.2.2.2.2.2.2.2.2.2.2.2.2.2.2.2.2.2.2.2.2.1 c
    refine lf_sub (l := [(0, .ref 31)]) (lf_sb1 rfl lf_sb0) ?_
    exact gm_37_p311 h
  · have h := h.2.2.2.2.2.2.2.2.2.2.2.2.2.2.2.2.2.2.2.2.2.2.1 c
    refine lf_sub (l := [(0, .ref 31)]) (lf_sb1 rfl lf_sb0) ?_
    exact gm_37_p311 h
  · have h := h.2.2.2.2.2.2.2.2.2.2.2.2.2.2.2.2.2.2.2.2.2.2.2.1 c
    refine lf_sub (l := [(0, .ref 31)]) (lf_sb1 rfl lf_sb0) ?_
    exact gm_37_p311 h
  · have h := h.2.2.2.2.2.2.2.2.2.2.2.2.2.2.2.2.2.2.2.2.2.2.2.2.1 c
    refine lf_sub (l := [(0, .ref 31)]) (lf_sb1 rfl lf_sb0) ?_
    exact gm_37_p311 h
  · have h := h.2.2.2.2.2.2.2.2.2.2.2.2.2.2.2.2.2.2.2.2.2.2.2.2.2.1 c
    refine lf_seg 1 (pc' := 303) (lv' := [(0, .ref 31), (1, .int (Int32.ofInt x1)), (2, .int (Int32.ofInt x2))]) (st' := [.ref 31]) rfl ?_
    refine lf_bipush 305 16 rfl rfl (by decide) (by decide) ?_
    refine lf_putI 308 8 rfl rfl rfl rfl rfl rfl rfl rfl ?_
    refine lf_as (lf_up s.1 31 8 16, s.2.1, s.2.2) rfl ?_
    refine lf_seg 1 (pc' := 316) (lv' := [(0, .ref 31), (1, .int (Int32.ofInt x1)), (2, .int (Int32.ofInt x2))]) (st' := []) rfl ?_
    exact lf_retV rfl rfl h
  · have h := h.2.2.2.2.2.2.2.2.2.2.2.2.2.2.2.2.2.2.2.2.2.2.2.2.2.2.1 c
    refine lf_seg 2 (pc' := 198) (lv' := [(0, .ref 31), (1, .int (Int32.ofInt x1)), (2, .int (Int32.ofInt x2))]) (st' := [.int (Int32.ofInt x2), .ref 31]) rfl ?_
    obtain ⟨o25, h⟩ := h
    refine lf_if_eq 205 201 rfl rfl rfl o25 (fun c => ?_) (fun c => ?_)
    · have h := h.1 c
      refine lf_seg 1 (pc' := 206) (lv' := [(0, .ref 31), (1, .int (Int32.ofInt x1)), (2, .int (Int32.ofInt x2))]) (st' := [.int (Int32.ofInt 4), .ref 31]) rfl ?_
      refine lf_sub (l := []) lf_sb0 ?_
      exact gm_37_p206 h
    · have h := h.2 c
      refine lf_seg 2 (pc' := 206) (lv' := [(0, .ref 31), (1, .int (Int32.ofInt x1)), (2, .int (Int32.ofInt x2))]) (st' := [.int (Int32.ofInt 5), .ref 31]) rfl ?_
      refine lf_sub (l := []) lf_sb0 ?_
      exact gm_37_p206 h
  · have h := h.2.2.2.2.2.2.2.2.2.2.2.2.2.2.2.2.2.2.2.2.2.2.2.2.2.2.2.1 c
    refine lf_seg 1 (pc' := 231) (lv' := [(0, .ref 31), (1, .int (Int32.ofInt x1)), (2, .int (Int32.ofInt x2))]) (st' := [.ref 31]) rfl ?_
    refine lf_bipush 233 8 rfl rfl (by decide) (by decide) ?_
    refine lf_putI 236 8 rfl rfl rfl rfl rfl rfl rfl rfl ?_
    refine lf_as (lf_up s.1 31 8 8, s.2.1, s.2.2) rfl ?_
    refine lf_seg 1 (pc' := 316) (lv' := [(0, .ref 31), (1, .int (Int32.ofInt x1)), (2, .int (Int32.ofInt x2))]) (st' := []) rfl ?_
    exact lf_retV rfl rfl h
  · have h := h.2.2.2.2.2.2.2.2.2.2.2.2.2.2.2.2.2.2.2.2.2.2.2.2.2.2.2.2 c
    refine lf_seg 2 (pc' := 214) (lv' := [(0, .ref 31), (1, .int (Int32.ofInt x1)), (2, .int (Int32.ofInt x2))]) (st' := [.int (Int32.ofInt x2), .ref 31]) rfl ?_
    obtain ⟨o26, h⟩ := h
    refine lf_if_eq 222 217 rfl rfl rfl o26 (fun c => ?_) (fun c => ?_)
    · have h := h.1 c
      refine lf_bipush 224 6 rfl rfl (by decide) (by decide) ?_
      refine lf_sub (l := []) lf_sb0 ?_
      exact gm_37_p224 h
    · have h := h.2 c
      refine lf_bipush 219 7 rfl rfl (by decide) (by decide) ?_
      refine lf_seg 1 (pc' := 224) (lv' := [(0, .ref 31), (1, .int (Int32.ofInt x1)), (2, .int (Int32.ofInt x2))]) (st' := [.int (Int32.ofInt 7), .ref 31]) rfl ?_
      refine lf_sub (l := []) lf_sb0 ?_
      exact gm_37_p224 h
def fm_37_p52 (Q : lf_Z → Prop) (x1 : Int) (y0 : Int) (s : lf_Z) : Prop := lf_R y0 ∧ ((y0 = 0 → (fm_37_p67 Q x1 y0 s)) ∧ (¬ (y0 = 0) → (fm_37_p67 Q x1 y0 (lf_up s.1 31 7 ((s.1 31 7) + 1), s.2.1, s.2.2))))
set_option maxRecDepth 100000 in
theorem gm_37_p52 {L : Nat} {xs : Nat → Int32} {d : Nat} {Q : lf_Z → Prop} {x1 : Int} {y0 : Int} {s : lf_Z} (h : fm_37_p52 Q x1 y0 s) : lf_E (px_ro L xs) (d + 1) 37 52 [(0, .ref 31), (1, .int (Int32.ofInt x1))] [.int (Int32.ofInt y0)] s (lf_qv Q) := by
  unfold fm_37_p52 at h
  refine lf_seg 2 (pc' := 54) (lv' := [(2, .int (Int32.ofInt y0)), (0, .ref 31), (1, .int (Int32.ofInt x1))]) (st' := [.int (Int32.ofInt y0)]) rfl ?_
  obtain ⟨o23, h⟩ := h
  refine lf_if_eq 67 57 rfl rfl rfl o23 (fun c => ?_) (fun c => ?_)
  · have h := h.1 c
    refine lf_sub (l := [(0, .ref 31), (1, .int (Int32.ofInt x1)), (2, .int (Int32.ofInt y0))]) (lf_sb1 rfl (lf_sb1 rfl (lf_sb1 rfl lf_sb0))) ?_
    exact gm_37_p67 h
  · have h := h.2 c
    refine lf_seg 2 (pc' := 59) (lv' := [(2, .int (Int32.ofInt y0)), (0, .ref 31), (1, .int (Int32.ofInt x1))]) (st' := [.ref 31, .ref 31]) rfl ?_
    refine lf_getI 62 7 rfl rfl rfl rfl rfl rfl rfl ?_
    refine lf_seg 1 (pc' := 63) (lv' := [(2, .int (Int32.ofInt y0)), (0, .ref 31), (1, .int (Int32.ofInt x1))]) (st' := [.int (Int32.ofInt 1), .int (Int32.ofInt (s.1 31 7)), .ref 31]) rfl ?_
    refine lf_iadd 64 rfl rfl ?_
    refine lf_putI 67 7 rfl rfl rfl rfl rfl rfl rfl rfl ?_
    refine lf_as (lf_up s.1 31 7 ((s.1 31 7) + 1), s.2.1, s.2.2) rfl ?_
    refine lf_sub (l := [(0, .ref 31), (1, .int (Int32.ofInt x1)), (2, .int (Int32.ofInt y0))]) (lf_sb1 rfl (lf_sb1 rfl (lf_sb1 rfl lf_sb0))) ?_
    exact gm_37_p67 h
def fm_37_p51 (Q : lf_Z → Prop) (x1 : Int) (s : lf_Z) : Prop := fm_37_p52 Q x1 0 s
set_option maxRecDepth 100000 in
theorem gm_37_p51 {L : Nat} {xs : Nat → Int32} {d : Nat} {Q : lf_Z → Prop} {x1 : Int} {s : lf_Z} (h : fm_37_p51 Q x1 s) : lf_E (px_ro L xs) (d + 1) 37 51 [(0, .ref 31), (1, .int (Int32.ofInt x1))] [] s (lf_qv Q) := by
  unfold fm_37_p51 at h
  refine lf_seg 1 (pc' := 52) (lv' := [(0, .ref 31), (1, .int (Int32.ofInt x1))]) (st' := [.int (Int32.ofInt 0)]) rfl ?_
  refine lf_sub (l := [(0, .ref 31), (1, .int (Int32.ofInt x1))]) (lf_sb1 rfl (lf_sb1 rfl lf_sb0)) ?_
  exact gm_37_p52 h
def fm_37_p47 (Q : lf_Z → Prop) (x1 : Int) (s : lf_Z) : Prop := fm_37_p52 Q x1 1 s
set_option maxRecDepth 100000 in
theorem gm_37_p47 {L : Nat} {xs : Nat → Int32} {d : Nat} {Q : lf_Z → Prop} {x1 : Int} {s : lf_Z} (h : fm_37_p47 Q x1 s) : lf_E (px_ro L xs) (d + 1) 37 47 [(0, .ref 31), (1, .int (Int32.ofInt x1))] [] s (lf_qv Q) := by
  unfold fm_37_p47 at h
  refine lf_seg 2 (pc' := 52) (lv' := [(0, .ref 31), (1, .int (Int32.ofInt x1))]) (st' := [.int (Int32.ofInt 1)]) rfl ?_
  refine lf_sub (l := [(0, .ref 31), (1, .int (Int32.ofInt x1))]) (lf_sb1 rfl (lf_sb1 rfl lf_sb0)) ?_
  exact gm_37_p52 h
def fm_37 (a1 : Int) (Q : lf_Z → Prop) (s : lf_Z) : Prop := lf_R ((s.1 31 7) + 1) ∧ (lf_R (s.1 31 1) ∧ ((s.1 31 1 ≤ (s.1 31 7) + 1 → (fm_37_p51 Q a1 (lf_up s.1 31 7 ((s.1 31 7) + 1), s.2.1, s.2.2))) ∧ (¬ (s.1 31 1 ≤ (s.1 31 7) + 1) → ((0 ≤ (s.1 31 7) + 1 ∧ (s.1 31 7) + 1 < 300) ∧ (lf_R (s.1 32 ((s.1 31 7) + 1)) ∧ ((s.1 32 ((s.1 31 7) + 1) ≠ 61 → (fm_37_p51 Q a1 (lf_up s.1 31 7 ((s.1 31 7) + 1), s.2.1, s.2.2))) ∧ (¬ (s.1 32 ((s.1 31 7) + 1) ≠ 61) → (lf_R a1 ∧ ((a1 = 60 → (fm_37_p47 Q a1 (lf_up s.1 31 7 ((s.1 31 7) + 1), s.2.1, s.2.2))) ∧ (¬ (a1 = 60) → ((a1 ≠ 62 → (fm_37_p51 Q a1 (lf_up s.1 31 7 ((s.1 31 7) + 1), s.2.1, s.2.2))) ∧ (¬ (a1 ≠ 62) → (fm_37_p47 Q a1 (lf_up s.1 31 7 ((s.1 31 7) + 1), s.2.1, s.2.2))))))))))))))
set_option maxRecDepth 100000 in
theorem gm_37 {L : Nat} {xs : Nat → Int32} {d : Nat} {a1 : Int} {Q : lf_Z → Prop} {s : lf_Z} (h : fm_37 a1 Q s) : lf_M (px_ro L xs) (d + 1) 37 [.ref 31, .int (Int32.ofInt a1)] s (lf_qv Q) := by
  unfold fm_37 at h
  show lf_E (px_ro L xs) (d + 1) 37 0 [(0, .ref 31), (1, .int (Int32.ofInt a1))] [] s _
  refine lf_seg 2 (pc' := 2) (lv' := [(0, .ref 31), (1, .int (Int32.ofInt a1))]) (st' := [.ref 31, .ref 31]) rfl ?_
  refine lf_getI 5 7 rfl rfl rfl rfl rfl rfl rfl ?_
  refine lf_seg 1 (pc' := 6) (lv' := [(0, .ref 31), (1, .int (Int32.ofInt a1))]) (st' := [.int (Int32.ofInt 1), .int (Int32.ofInt (s.1 31 7)), .ref 31]) rfl ?_
  refine lf_iadd 7 rfl rfl ?_
  refine lf_putI 10 7 rfl rfl rfl rfl rfl rfl rfl rfl ?_
  refine lf_as (lf_up s.1 31 7 ((s.1 31 7) + 1), s.2.1, s.2.2) rfl ?_
  refine lf_seg 1 (pc' := 11) (lv' := [(0, .ref 31), (1, .int (Int32.ofInt a1))]) (st' := [.ref 31]) rfl ?_
  refine lf_getI 14 7 rfl rfl rfl rfl rfl rfl rfl ?_
  refine lf_seg 1 (pc' := 15) (lv' := [(0, .ref 31), (1, .int (Int32.ofInt a1))]) (st' := [.ref 31, .int (Int32.ofInt ((s.1 31 7) + 1))]) rfl ?_
  refine lf_getI 18 1 rfl rfl rfl rfl rfl rfl rfl ?_
  refine lf_seg 0 (pc' := 18) (lv' := [(0, .ref 31), (1, .int (Int32.ofInt a1))]) (st' := [.int (Int32.ofInt (s.1 31 1)), .int (Int32.ofInt ((s.1 31 7) + 1))]) rfl ?_
  obtain ⟨o21, h⟩ := h
  obtain ⟨o22, h⟩ := h
  refine lf_icmp_ge 51 21 rfl rfl rfl o21 o22 (fun c => ?_) (fun c => ?_)
  · have h := h.1 c
    refine lf_sub (l := [(0, .ref 31), (1, .int (Int32.ofInt a1))]) (lf_sb1 rfl (lf_sb1 rfl lf_sb0)) ?_
    exact gm_37_p51 h
  · have h := h.2 c
    refine lf_seg 3 (pc' := 26) (lv' := [(0, .ref 31), (1, .int (Int32.ofInt a1))]) (st' := [.ref 31, .ref 32]) rfl ?_
    refine lf_getI 29 7 rfl rfl rfl rfl rfl rfl rfl ?_
    refine lf_seg 0 (pc' := 29) (lv' := [(0, .ref 31), (1, .int (Int32.ofInt a1))]) (st' := [.int (Int32.ofInt ((s.1 31 7) + 1)), .ref 32]) rfl ?_
    obtain ⟨o27, h⟩ := h
    refine lf_iald 30 300 rfl rfl rfl rfl rfl rfl o27 ?_
    refine lf_seg 0 (pc' := 30) (lv' := [(0, .ref 31), (1, .int (Int32.ofInt a1))]) (st' := [.int (Int32.ofInt (s.1 32 ((s.1 31 7) + 1)))]) rfl ?_
    refine lf_bipush 32 61 rfl rfl (by decide) (by decide) ?_
    obtain ⟨o28, h⟩ := h
    refine lf_icmp_ne 51 35 rfl rfl rfl o28 ⟨by decide, by decide⟩ (fun c => ?_) (fun c => ?_)
    · have h := h.1 c
      refine lf_sub (l := [(0, .ref 31), (1, .int (Int32.ofInt a1))]) (lf_sb1 rfl (lf_sb1 rfl lf_sb0)) ?_
      exact gm_37_p51 h
    · have h := h.2 c
      refine lf_seg 1 (pc' := 36) (lv' := [(0, .ref 31), (1, .int (Int32.ofInt a1))]) (st' := [.int (Int32.ofInt a1)]) rfl ?_
      refine lf_bipush 38 60 rfl rfl (by decide) (by decide) ?_
      obtain ⟨o29, h⟩ := h
      refine lf_icmp_eq 47 41 rfl rfl rfl o29 ⟨by decide, by decide⟩ (fun c => ?_) (fun c => ?_)
      · have h := h.1 c
        refine lf_sub (l := [(0, .ref 31), (1, .int (Int32.ofInt a1))]) (lf_sb1 rfl (lf_sb1 rfl lf_sb0)) ?_
        exact gm_37_p47 h
      · have h := h.2 c
        refine lf_seg 1 (pc' := 42) (lv' := [(0, .ref 31), (1, .int (Int32.ofInt a1))]) (st' := [.int (Int32.ofInt a1)]) rfl ?_
        refine lf_bipush 44 62 rfl rfl (by decide) (by decide) ?_
        refine lf_icmp_ne 51 47 rfl rfl rfl o29 ⟨by decide, by decide⟩ (fun c => ?_) (fun c => ?_)
        · have h := h.1 c
          refine lf_sub (l := [(0, .ref 31), (1, .int (Int32.ofInt a1))]) (lf_sb1 rfl (lf_sb1 rfl lf_sb0)) ?_
          exact gm_37_p51 h
        · have h := h.2 c
          refine lf_sub (l := [(0, .ref 31), (1, .int (Int32.ofInt a1))]) (lf_sb1 rfl (lf_sb1 rfl lf_sb0)) ?_
          exact gm_37_p47 h
-- fm_36 Reader.wordOf 31
def fm_36_p98 (X13 : Int → Int → Int → Int → lf_Z → Prop) (Q : Int → lf_Z → Prop) (x1 : Int) (x2 : Int) (x3 : Int) (x4 : Int) (s : lf_Z) : Prop := X13 x1 x2 x3 (x4 + 1) s
set_option maxRecDepth 100000 in
theorem gm_36_p98 {L : Nat} {xs : Nat → Int32} {d : Nat} {X13 : Int → Int → Int → Int → lf_Z → Prop} {Q : Int → lf_Z → Prop} {x1 : Int} {x2 : Int} {x3 : Int} {x4 : Int} {s : lf_Z} (hX13 : ∀ x1 x2 x3 x4 s, X13 x1 x2 x3 x4 s → lf_E (px_ro L xs) (d + 1) 36 13 [(0, .ref 31), (1, .int (Int32.ofInt x1)), (2, .int (Int32.ofInt x2)), (3, .int (Int32.ofInt x3)), (4, .int (Int32.ofInt x4))] [] s (lf_qi Q)) (h : fm_36_p98 X13 Q x1 x2 x3 x4 s) : lf_E (px_ro L xs) (d + 1) 36 98 [(0, .ref 31), (1, .int (Int32.ofInt x1)), (2, .int (Int32.ofInt x2)), (3, .int (Int32.ofInt x3)), (4, .int (Int32.ofInt x4))] [] s (lf_qi Q) := by
  unfold fm_36_p98 at h
  refine lf_iinc 101 rfl rfl rfl rfl ?_
  refine lf_seg 1 (pc' := 13) (lv' := [(4, .int (Int32.ofInt (x4 + 1))), (0, .ref 31), (1, .int (Int32.ofInt x1)), (2, .int (Int32.ofInt x2)), (3, .int (Int32.ofInt x3))]) (st' := []) rfl ?_
  refine lf_sub (l := [(0, .ref 31), (1, .int (Int32.ofInt x1)), (2, .int (Int32.ofInt x2)), (3, .int (Int32.ofInt x3)), (4, .int (Int32.ofInt (x4 + 1)))]) (lf_sb1 rfl (lf_sb1 rfl (lf_sb1 rfl (lf_sb1 rfl (lf_sb1 rfl lf_sb0))))) ?_
  exact hX13 _ _ _ _ _ h
def fm_36_p88 (X13 : Int → Int → Int → Int → lf_Z → Prop) (Q : Int → lf_Z → Prop) (x1 : Int) (x4 : Int) (s : lf_Z) : Prop := fm_36_p98 X13 Q (x1 + 1) (s.1 31 9) 1 x4 s
set_option maxRecDepth 100000 in
theorem gm_36_p88 {L : Nat} {xs : Nat → Int32} {d : Nat} {X13 : Int → Int → Int → Int → lf_Z → Prop} {Q : Int → lf_Z → Prop} {x1 : Int} {x4 : Int} {s : lf_Z} (hX13 : ∀ x1 x2 x3 x4 s, X13 x1 x2 x3 x4 s → lf_E (px_ro L xs) (d + 1) 36 13 [(0, .ref 31), (1, .int (Int32.ofInt x1)), (2, .int (Int32.ofInt x2)), (3, .int (Int32.ofInt x3)), (4, .int (Int32.ofInt x4))] [] s (lf_qi Q)) (h : fm_36_p88 X13 Q x1 x4 s) : lf_E (px_ro L xs) (d + 1) 36 88 [(0, .ref 31), (1, .int (Int32.ofInt x1)), (4, .int (Int32.ofInt x4))] [] s (lf_qi Q) := by
  unfold fm_36_p88 at h
  refine lf_iinc 91 rfl rfl rfl rfl ?_
  refine lf_seg 1 (pc' := 92) (lv' := [(1, .int (Int32.ofInt (x1 + 1))), (0, .ref 31), (4, .int (Int32.ofInt x4))]) (st' := [.ref 31]) rfl ?_
  refine lf_getI 95 9 rfl rfl rfl rfl rfl rfl rfl ?_
  refine lf_seg 3 (pc' := 98) (lv' := [(3, .int (Int32.ofInt 1)), (2, .int (Int32.ofInt (s.1 31 9))), (1, .int (Int32.ofInt (x1 + 1))), (0, .ref 31), (4, .int (Int32.ofInt x4))]) (st' := []) rfl ?_
  refine lf_sub (l := [(0, .ref 31), (1, .int (Int32.ofInt (x1 + 1))), (2, .int (Int32.ofInt (s.1 31 9))), (3, .int (Int32.ofInt 1)), (4, .int (Int32.ofInt x4))]) (lf_sb1 rfl (lf_sb1 rfl (lf_sb1 rfl (lf_sb1 rfl (lf_sb1 rfl lf_sb0))))) ?_
  exact gm_36_p98 hX13 h
def fm_36_p67 (X13 : Int → Int → Int → Int → lf_Z → Prop) (Q : Int → lf_Z → Prop) (x1 : Int) (x2 : Int) (x4 : Int) (y0 : Int) (s : lf_Z) : Prop := fm_36_p98 X13 Q x1 (x2 + 1) y0 x4 s
set_option maxRecDepth 100000 in
theorem gm_36_p67 {L : Nat} {xs : Nat → Int32} {d : Nat} {X13 : Int → Int → Int → Int → lf_Z → Prop} {Q : Int → lf_Z → Prop} {x1 : Int} {x2 : Int} {x4 : Int} {y0 : Int} {s : lf_Z} (hX13 : ∀ x1 x2 x3 x4 s, X13 x1 x2 x3 x4 s → lf_E (px_ro L xs) (d + 1) 36 13 [(0, .ref 31), (1, .int (Int32.ofInt x1)), (2, .int (Int32.ofInt x2)), (3, .int (Int32.ofInt x3)), (4, .int (Int32.ofInt x4))] [] s (lf_qi Q)) (h : fm_36_p67 X13 Q x1 x2 x4 y0 s) : lf_E (px_ro L xs) (d + 1) 36 67 [(0, .ref 31), (1, .int (Int32.ofInt x1)), (2, .int (Int32.ofInt x2)), (4, .int (Int32.ofInt x4))] [.int (Int32.ofInt y0)] s (lf_qi Q) := by
  unfold fm_36_p67 at h
  refine lf_seg 1 (pc' := 68) (lv' := [(3, .int (Int32.ofInt y0)), (0, .ref 31), (1, .int (Int32.ofInt x1)), (2, .int (Int32.ofInt x2)), (4, .int (Int32.ofInt x4))]) (st' := []) rfl ?_
  refine lf_iinc 71 rfl rfl rfl rfl ?_
  refine lf_seg 1 (pc' := 98) (lv' := [(2, .int (Int32.ofInt (x2 + 1))), (3, .int (Int32.ofInt y0)), (0, .ref 31), (1, .int (Int32.ofInt x1)), (4, .int (Int32.ofInt x4))]) (st' := []) rfl ?_
  refine lf_sub (l := [(0, .ref 31), (1, .int (Int32.ofInt x1)), (2, .int (Int32.ofInt (x2 + 1))), (3, .int (Int32.ofInt y0)), (4, .int (Int32.ofInt x4))]) (lf_sb1 rfl (lf_sb1 rfl (lf_sb1 rfl (lf_sb1 rfl (lf_sb1 rfl lf_sb0))))) ?_
  exact gm_36_p98 hX13 h
def fm_36_p66 (X13 : Int → Int → Int → Int → lf_Z → Prop) (Q : Int → lf_Z → Prop) (x1 : Int) (x2 : Int) (x4 : Int) (s : lf_Z) : Prop := fm_36_p67 X13 Q x1 x2 x4 0 s
set_option maxRecDepth 100000 in
theorem gm_36_p66 {L : Nat} {xs : Nat → Int32} {d : Nat} {X13 : Int → Int → Int → Int → lf_Z → Prop} {Q : Int → lf_Z → Prop} {x1 : Int} {x2 : Int} {x4 : Int} {s : lf_Z} (hX13 : ∀ x1 x2 x3 x4 s, X13 x1 x2 x3 x4 s → lf_E (px_ro L xs) (d + 1) 36 13 [(0, .ref 31), (1, .int (Int32.ofInt x1)), (2, .int (Int32.ofInt x2)), (3, .int (Int32.ofInt x3)), (4, .int (Int32.ofInt x4))] [] s (lf_qi Q)) (h : fm_36_p66 X13 Q x1 x2 x4 s) : lf_E (px_ro L xs) (d + 1) 36 66 [(0, .ref 31), (1, .int (Int32.ofInt x1)), (2, .int (Int32.ofInt x2)), (4, .int (Int32.ofInt x4))] [] s (lf_qi Q) := by
  unfold fm_36_p66 at h
  refine lf_seg 1 (pc' := 67) (lv' := [(0, .ref 31), (1, .int (Int32.ofInt x1)), (2, .int (Int32.ofInt x2)), (4, .int (Int32.ofInt x4))]) (st' := [.int (Int32.ofInt 0)]) rfl ?_
  refine lf_sub (l := [(0, .ref 31), (1, .int (Int32.ofInt x1)), (2, .int (Int32.ofInt x2)), (4, .int (Int32.ofInt x4))]) (lf_sb1 rfl (lf_sb1 rfl (lf_sb1 rfl (lf_sb1 rfl lf_sb0)))) ?_
  exact gm_36_p67 hX13 h
def fm_36_p13 (Q : Int → lf_Z → Prop) (X13 : Int → Int → Int → Int → lf_Z → Prop) (x1 : Int) (x2 : Int) (x3 : Int) (x4 : Int) (s : lf_Z) : Prop := lf_R x4 ∧ ((180 ≤ x4 → (Q 1 s)) ∧ (¬ (180 ≤ x4) → ((0 ≤ x4 ∧ x4 < 180) ∧ (((ps_byt.getD (x4).toNat 0).toInt = 32 → (lf_R x3 ∧ ((x3 = 0 → (fm_36_p88 X13 Q x1 x4 s)) ∧ (¬ (x3 = 0) → (lf_R x2 ∧ (lf_R (s.1 31 7) ∧ ((x2 ≠ s.1 31 7 → (fm_36_p88 X13 Q x1 x4 s)) ∧ (¬ (x2 ≠ s.1 31 7) → (Q x1 s))))))))) ∧ (¬ ((ps_byt.getD (x4).toNat 0).toInt = 32) → (lf_R x3 ∧ ((x3 = 0 → (fm_36_p66 X13 Q x1 x2 x4 s)) ∧ (¬ (x3 = 0) → (lf_R x2 ∧ (lf_R (s.1 31 7) ∧ ((s.1 31 7 ≤ x2 → (fm_36_p66 X13 Q x1 x2 x4 s)) ∧ (¬ (s.1 31 7 ≤ x2) → ((0 ≤ x2 ∧ x2 < 300) ∧ (lf_R (s.1 32 x2) ∧ ((s.1 32 x2 ≠ (ps_byt.getD (x4).toNat 0).toInt → (fm_36_p66 X13 Q x1 x2 x4 s)) ∧ (¬ (s.1 32 x2 ≠ (ps_byt.getD (x4).toNat 0).toInt) → (fm_36_p67 X13 Q x1 x2 x4 1 s)))))))))))))))))
def fm_36_p13L (Q : Int → lf_Z → Prop) (x1 : Int) (x2 : Int) (x3 : Int) (x4 : Int) (s : lf_Z) : Prop := ∀ X13 : Int → Int → Int → Int → lf_Z → Prop, (∀ (x1 : Int) (x2 : Int) (x3 : Int) (x4 : Int) (s : lf_Z), fm_36_p13 Q X13 x1 x2 x3 x4 s → X13 x1 x2 x3 x4 s) → X13 x1 x2 x3 x4 s
set_option maxRecDepth 100000 in
theorem gm_36_p13 {L : Nat} {xs : Nat → Int32} {d : Nat} {Q : Int → lf_Z → Prop} {x1 : Int} {x2 : Int} {x3 : Int} {x4 : Int} {s : lf_Z} {X13 : Int → Int → Int → Int → lf_Z → Prop} (hX13 : ∀ x1 x2 x3 x4 s, X13 x1 x2 x3 x4 s → lf_E (px_ro L xs) (d + 1) 36 13 [(0, .ref 31), (1, .int (Int32.ofInt x1)), (2, .int (Int32.ofInt x2)), (3, .int (Int32.ofInt x3)), (4, .int (Int32.ofInt x4))] [] s (lf_qi Q)) (h : fm_36_p13 Q X13 x1 x2 x3 x4 s) : lf_E (px_ro L xs) (d + 1) 36 13 [(0, .ref 31), (1, .int (Int32.ofInt x1)), (2, .int (Int32.ofInt x2)), (3, .int (Int32.ofInt x3)), (4, .int (Int32.ofInt x4))] [] s (lf_qi Q) := by
  unfold fm_36_p13 at h
  refine lf_seg 1 (pc' := 15) (lv' := [(0, .ref 31), (1, .int (Int32.ofInt x1)), (2, .int (Int32.ofInt x2)), (3, .int (Int32.ofInt x3)), (4, .int (Int32.ofInt x4))]) (st' := [.int (Int32.ofInt x4)]) rfl ?_
  refine lf_ldcS 17 rfl rfl rfl ?_
  refine lf_strlen 20 rfl rfl rfl rfl rfl ?_
  obtain ⟨o21, h⟩ := h
  refine lf_icmp_ge 104 23 rfl rfl rfl o21 ⟨by decide, by decide⟩ (fun c => ?_) (fun c => ?_)
  · have h := h.1 c
    refine lf_seg 1 (pc' := 105) (lv' := [(0, .ref 31), (1, .int (Int32.ofInt x1)), (2, .int (Int32.ofInt x2)), (3, .int (Int32.ofInt x3)), (4, .int (Int32.ofInt x4))]) (st' := [.int (Int32.ofInt 1)]) rfl ?_
    exact lf_retI rfl rfl h
  · have h := h.2 c
    refine lf_ldcS 25 rfl rfl rfl ?_
    refine lf_seg 1 (pc' := 27) (lv' := [(0, .ref 31), (1, .int (Int32.ofInt x1)), (2, .int (Int32.ofInt x2)), (3, .int (Int32.ofInt x3)), (4, .int (Int32.ofInt x4))]) (st' := [.int (Int32.ofInt x4), .ref (px_SC + 3)]) rfl ?_
    obtain ⟨o22, h⟩ := h
    refine lf_strat 30 rfl rfl rfl rfl rfl rfl o22 ?_
    refine lf_seg 2 (pc' := 34) (lv' := [(5, .int (Int32.ofInt ((ps_byt.getD (x4).toNat 0).toInt))), (0, .ref 31), (1, .int (Int32.ofInt x1)), (2, .int (Int32.ofInt x2)), (3, .int (Int32.ofInt x3)), (4, .int (Int32.ofInt x4))]) (st' := [.int (Int32.ofInt ((ps_byt.getD (x4).toNat 0).toInt))]) rfl ?_
    refine lf_bipush 36 32 rfl rfl (by decide) (by decide) ?_
    refine lf_icmp_eq 74 39 rfl rfl rfl (lf_R_i _) ⟨by decide, by decide⟩ (fun c => ?_) (fun c => ?_)
    · have h := h.1 c
      refine lf_seg 1 (pc' := 75) (lv' := [(5, .int (Int32.ofInt ((ps_byt.getD (x4).toNat 0).toInt))), (0, .ref 31), (1, .int (Int32.ofInt x1)), (2, .int (Int32.ofInt x2)), (3, .int (Int32.ofInt x3)), (4, .int (Int32.ofInt x4))]) (st' := [.int (Int32.ofInt x3)]) rfl ?_
      obtain ⟨o23, h⟩ := h
      refine lf_if_eq 88 78 rfl rfl rfl o23 (fun c => ?_) (fun c => ?_)
      · have h := h.1 c
        refine lf_sub (l := [(0, .ref 31), (1, .int (Int32.ofInt x1)), (4, .int (Int32.ofInt x4))]) (lf_sb1 rfl (lf_sb1 rfl (lf_sb1 rfl lf_sb0))) ?_
        exact gm_36_p88 hX13 h
      · have h := h.2 c
        refine lf_seg 2 (pc' := 80) (lv' := [(5, .int (Int32.ofInt ((ps_byt.getD (x4).toNat 0).toInt))), (0, .ref 31), (1, .int (Int32.ofInt x1)), (2, .int (Int32.ofInt x2)), (3, .int (Int32.ofInt x3)), (4, .int (Int32.ofInt x4))]) (st' := [.ref 31, .int (Int32.ofInt x2)]) rfl ?_
        refine lf_getI 83 7 rfl rfl rfl rfl rfl rfl rfl ?_
        obtain ⟨o24, h⟩ := h
        obtain ⟨o25, h⟩ := h
        refine lf_icmp_ne 88 86 rfl rfl rfl o24 o25 (fun c => ?_) (fun c => ?_)
        · have h := h.1 c
          refine lf_sub (l := [(0, .ref 31), (1, .int (Int32.ofInt x1)), (4, .int (Int32.ofInt x4))]) (lf_sb1 rfl (lf_sb1 rfl (lf_sb1 rfl lf_sb0))) ?_
          exact gm_36_p88 hX13 h
        · have h := h.2 c
          refine lf_seg 1 (pc' := 87) (lv' := [(5, .int (Int32.ofInt ((ps_byt.getD (x4).toNat 0).toInt))), (0, .ref 31), (1, .int (Int32.ofInt x1)), (2, .int (Int32.ofInt x2)), (3, .int (Int32.ofInt x3)), (4, .int (Int32.ofInt x4))]) (st' := [.int (Int32.ofInt x1)]) rfl ?_
          exact lf_retI rfl rfl h
    · have h := h.2 c
      refine lf_seg 1 (pc' := 40) (lv' := [(5, .int (Int32.ofInt ((ps_byt.getD (x4).toNat 0).toInt))), (0, .ref 31), (1, .int (Int32.ofInt x1)), (2, .int (Int32.ofInt x2)), (3, .int (Int32.ofInt x3)), (4, .int (Int32.ofInt x4))]) (st' := [.int (Int32.ofInt x3)]) rfl ?_
      obtain ⟨o26, h⟩ := h
      refine lf_if_eq 66 43 rfl rfl rfl o26 (fun c => ?_) (fun c => ?_)
      · have h := h.1 c
        refine lf_sub (l := [(0, .ref 31), (1, .int (Int32.ofInt x1)), (2, .int (Int32.ofInt x2)), (4, .int (Int32.ofInt x4))]) (lf_sb1 rfl (lf_sb1 rfl (lf_sb1 rfl (lf_sb1 rfl lf_sb0)))) ?_
        exact gm_36_p66 hX13 h
      · have h := h.2 c
        refine lf_seg 2 (pc' := 45) (lv' := [(5, .int (Int32.ofInt ((ps_byt.getD (x4).toNat 0).toInt))), (0, .ref 31), (1, .int (Int32.ofInt x1)), (2, .int (Int32.ofInt x2)), (3, .int (Int32.ofInt x3)), (4, .int (Int32.ofInt x4))]) (st' := [.ref 31, .int (Int32.ofInt x2)]) rfl ?_
        refine lf_getI 48 7 rfl rfl rfl rfl rfl rfl rfl ?_
        obtain ⟨o27, h⟩ := h
        obtain ⟨o28, h⟩ := h
        refine lf_icmp_ge 66 51 rfl rfl rfl o27 o28 (fun c => ?_) (fun c => ?_)
        · have h := h.1 c
          refine lf_sub (l := [(0, .ref 31), (1, .int (Int32.ofInt x1)), (2, .int (Int32.ofInt x2)), (4, .int (Int32.ofInt x4))]) (lf_sb1 rfl (lf_sb1 rfl (lf_sb1 rfl (lf_sb1 rfl lf_sb0)))) ?_
          exact gm_36_p66 hX13 h
        · have h := h.2 c
          refine lf_seg 3 (pc' := 56) (lv' := [(5, .int (Int32.ofInt ((ps_byt.getD (x4).toNat 0).toInt))), (0, .ref 31), (1, .int (Int32.ofInt x1)), (2, .int (Int32.ofInt x2)), (3, .int (Int32.ofInt x3)), (4, .int (Int32.ofInt x4))]) (st' := [.int (Int32.ofInt x2), .ref 32]) rfl ?_
          obtain ⟨o29, h⟩ := h
          refine lf_iald 57 300 rfl rfl rfl rfl rfl rfl o29 ?_
          refine lf_seg 1 (pc' := 59) (lv' := [(5, .int (Int32.ofInt ((ps_byt.getD (x4).toNat 0).toInt))), (0, .ref 31), (1, .int (Int32.ofInt x1)), (2, .int (Int32.ofInt x2)), (3, .int (Int32.ofInt x3)), (4, .int (Int32.ofInt x4))]) (st' := [.int (Int32.ofInt ((ps_byt.getD (x4).toNat 0).toInt)), .int (Int32.ofInt (s.1 32 x2))]) rfl ?_
          obtain ⟨o30, h⟩ := h
          refine lf_icmp_ne 66 62 rfl rfl rfl o30 (lf_R_i _) (fun c => ?_) (fun c => ?_)
          · have h := h.1 c
            refine lf_sub (l := [(0, .ref 31), (1, .int (Int32.ofInt x1)), (2, .int (Int32.ofInt x2)), (4, .int (Int32.ofInt x4))]) (lf_sb1 rfl (lf_sb1 rfl (lf_sb1 rfl (lf_sb1 rfl lf_sb0)))) ?_
            exact gm_36_p66 hX13 h
          · have h := h.2 c
            refine lf_seg 2 (pc' := 67) (lv' := [(5, .int (Int32.ofInt ((ps_byt.getD (x4).toNat 0).toInt))), (0, .ref 31), (1, .int (Int32.ofInt x1)), (2, .int (Int32.ofInt x2)), (3, .int (Int32.ofInt x3)), (4, .int (Int32.ofInt x4))]) (st' := [.int (Int32.ofInt 1)]) rfl ?_
            refine lf_sub (l := [(0, .ref 31), (1, .int (Int32.ofInt x1)), (2, .int (Int32.ofInt x2)), (4, .int (Int32.ofInt x4))]) (lf_sb1 rfl (lf_sb1 rfl (lf_sb1 rfl (lf_sb1 rfl lf_sb0)))) ?_
            exact gm_36_p67 hX13 h
theorem gm_36_p13L {L : Nat} {xs : Nat → Int32} {d : Nat} {Q : Int → lf_Z → Prop} {x1 : Int} {x2 : Int} {x3 : Int} {x4 : Int} {s : lf_Z} (h : fm_36_p13L Q x1 x2 x3 x4 s) : lf_E (px_ro L xs) (d + 1) 36 13 [(0, .ref 31), (1, .int (Int32.ofInt x1)), (2, .int (Int32.ofInt x2)), (3, .int (Int32.ofInt x3)), (4, .int (Int32.ofInt x4))] [] s (lf_qi Q) :=
  h (fun x1 x2 x3 x4 s => lf_E (px_ro L xs) (d + 1) 36 13 [(0, .ref 31), (1, .int (Int32.ofInt x1)), (2, .int (Int32.ofInt x2)), (3, .int (Int32.ofInt x3)), (4, .int (Int32.ofInt x4))] [] s (lf_qi Q)) (fun x1 x2 x3 x4 s hb => gm_36_p13 (fun _ _ _ _ _ h => h) hb)
def fm_36 (Q : Int → lf_Z → Prop) (s : lf_Z) : Prop := fm_36_p13L Q 20 (s.1 31 9) 1 0 s
set_option maxRecDepth 100000 in
theorem gm_36 {L : Nat} {xs : Nat → Int32} {d : Nat} {Q : Int → lf_Z → Prop} {s : lf_Z} (h : fm_36 Q s) : lf_M (px_ro L xs) (d + 1) 36 [.ref 31] s (lf_qi Q) := by
  unfold fm_36 at h
  show lf_E (px_ro L xs) (d + 1) 36 0 [(0, .ref 31)] [] s _
  refine lf_bipush 2 20 rfl rfl (by decide) (by decide) ?_
  refine lf_seg 2 (pc' := 4) (lv' := [(1, .int (Int32.ofInt 20)), (0, .ref 31)]) (st' := [.ref 31]) rfl ?_
  refine lf_getI 7 9 rfl rfl rfl rfl rfl rfl rfl ?_
  refine lf_seg 5 (pc' := 13) (lv' := [(4, .int (Int32.ofInt 0)), (3, .int (Int32.ofInt 1)), (2, .int (Int32.ofInt (s.1 31 9))), (1, .int (Int32.ofInt 20)), (0, .ref 31)]) (st' := []) rfl ?_
  refine lf_sub (l := [(0, .ref 31), (1, .int (Int32.ofInt 20)), (2, .int (Int32.ofInt (s.1 31 9))), (3, .int (Int32.ofInt 1)), (4, .int (Int32.ofInt 0))]) (lf_sb1 rfl (lf_sb1 rfl (lf_sb1 rfl (lf_sb1 rfl (lf_sb1 rfl lf_sb0))))) ?_
  exact gm_36_p13L h
-- fm_35 Reader.scanWord 31
def fm_35_p90 (Q : lf_Z → Prop) (s : lf_Z) : Prop := fm_36 (fun r26 s25 => (Q (lf_up s25.1 31 8 r26, s25.2.1, s25.2.2))) s
set_option maxRecDepth 100000 in
theorem gm_35_p90 {L : Nat} {xs : Nat → Int32} {d : Nat} {Q : lf_Z → Prop} {s : lf_Z} (h : fm_35_p90 Q s) : lf_E (px_ro L xs) (d + 2) 35 90 [(0, .ref 31)] [] s (lf_qv Q) := by
  unfold fm_35_p90 at h
  refine lf_seg 2 (pc' := 92) (lv' := [(0, .ref 31)]) (st' := [.ref 31, .ref 31]) rfl ?_
  refine lf_callI 95 rfl rfl rfl rfl (gm_36 h) (fun r26 s25 h => ?_)
  refine lf_putI 98 8 rfl rfl rfl rfl rfl rfl rfl rfl ?_
  refine lf_as (lf_up s25.1 31 8 r26, s25.2.1, s25.2.2) rfl ?_
  exact lf_retV rfl rfl h
def fm_35_p39 (Q : lf_Z → Prop) (s : lf_Z) : Prop := lf_R (s.1 31 7) ∧ (lf_R ((s.1 31 9) + 1) ∧ ((s.1 31 7 ≠ (s.1 31 9) + 1 → (fm_35_p90 Q s)) ∧ (¬ (s.1 31 7 ≠ (s.1 31 9) + 1) → ((0 ≤ s.1 31 9 ∧ s.1 31 9 < 300) ∧ (lf_R (s.1 32 (s.1 31 9)) ∧ ((s.1 32 (s.1 31 9) < 97 → (fm_35_p90 Q s)) ∧ (¬ (s.1 32 (s.1 31 9) < 97) → (Q (lf_up (lf_up s.1 31 8 3) 31 10 ((s.1 32 (s.1 31 9)) - 97), s.2.1, s.2.2)))))))))
set_option maxRecDepth 100000 in
theorem gm_35_p39 {L : Nat} {xs : Nat → Int32} {d : Nat} {Q : lf_Z → Prop} {s : lf_Z} (h : fm_35_p39 Q s) : lf_E (px_ro L xs) (d + 2) 35 39 [(0, .ref 31)] [] s (lf_qv Q) := by
  unfold fm_35_p39 at h
  refine lf_seg 1 (pc' := 40) (lv' := [(0, .ref 31)]) (st' := [.ref 31]) rfl ?_
  refine lf_getI 43 7 rfl rfl rfl rfl rfl rfl rfl ?_
  refine lf_seg 1 (pc' := 44) (lv' := [(0, .ref 31)]) (st' := [.ref 31, .int (Int32.ofInt (s.1 31 7))]) rfl ?_
  refine lf_getI 47 9 rfl rfl rfl rfl rfl rfl rfl ?_
  refine lf_seg 1 (pc' := 48) (lv' := [(0, .ref 31)]) (st' := [.int (Int32.ofInt 1), .int (Int32.ofInt (s.1 31 9)), .int (Int32.ofInt (s.1 31 7))]) rfl ?_
  refine lf_iadd 49 rfl rfl ?_
  obtain ⟨o23, h⟩ := h
  obtain ⟨o24, h⟩ := h
  refine lf_icmp_ne 90 52 rfl rfl rfl o23 o24 (fun c => ?_) (fun c => ?_)
  · have h := h.1 c
    refine lf_sub (l := [(0, .ref 31)]) (lf_sb1 rfl lf_sb0) ?_
    exact gm_35_p90 h
  · have h := h.2 c
    refine lf_seg 3 (pc' := 57) (lv' := [(0, .ref 31)]) (st' := [.ref 31, .ref 32]) rfl ?_
    refine lf_getI 60 9 rfl rfl rfl rfl rfl rfl rfl ?_
    obtain ⟨o27, h⟩ := h
    refine lf_iald 61 300 rfl rfl rfl rfl rfl rfl o27 ?_
    refine lf_bipush 63 97 rfl rfl (by decide) (by decide) ?_
    obtain ⟨o28, h⟩ := h
    refine lf_icmp_lt 90 66 rfl rfl rfl o28 ⟨by decide, by decide⟩ (fun c => ?_) (fun c => ?_)
    · have h := h.1 c
      refine lf_sub (l := [(0, .ref 31)]) (lf_sb1 rfl lf_sb0) ?_
      exact gm_35_p90 h
    · have h := h.2 c
      refine lf_seg 2 (pc' := 68) (lv' := [(0, .ref 31)]) (st' := [.int (Int32.ofInt 3), .ref 31]) rfl ?_
      refine lf_putI 71 8 rfl rfl rfl rfl rfl rfl rfl rfl ?_
      refine lf_as (lf_up s.1 31 8 3, s.2.1, s.2.2) rfl ?_
      refine lf_seg 4 (pc' := 77) (lv' := [(0, .ref 31)]) (st' := [.ref 31, .ref 32, .ref 31]) rfl ?_
      refine lf_getI 80 9 rfl rfl rfl rfl rfl rfl rfl ?_
      refine lf_seg 0 (pc' := 80) (lv' := [(0, .ref 31)]) (st' := [.int (Int32.ofInt (s.1 31 9)), .ref 32, .ref 31]) rfl ?_
      refine lf_iald 81 300 rfl rfl rfl rfl rfl rfl o27 ?_
      refine lf_seg 0 (pc' := 81) (lv' := [(0, .ref 31)]) (st' := [.int (Int32.ofInt (s.1 32 (s.1 31 9))), .ref 31]) rfl ?_
      refine lf_bipush 83 97 rfl rfl (by decide) (by decide) ?_
      refine lf_isub 84 rfl rfl ?_
      refine lf_putI 87 10 rfl rfl rfl rfl rfl rfl rfl rfl ?_
      refine lf_as (lf_up (lf_up s.1 31 8 3) 31 10 ((s.1 32 (s.1 31 9)) - 97), s.2.1, s.2.2) rfl ?_
      refine lf_seg 1 (pc' := 98) (lv' := [(0, .ref 31)]) (st' := []) rfl ?_
      exact lf_retV rfl rfl h
def fm_35_p0 (Q : lf_Z → Prop) (X0 : lf_Z → Prop) (s : lf_Z) : Prop := lf_R (s.1 31 7) ∧ (lf_R (s.1 31 1) ∧ ((s.1 31 1 ≤ s.1 31 7 → (fm_35_p39 Q s)) ∧ (¬ (s.1 31 1 ≤ s.1 31 7) → ((0 ≤ s.1 31 7 ∧ s.1 31 7 < 300) ∧ (fm_34 (s.1 32 (s.1 31 7)) (fun z31 s30 => ((z31 = false → (fm_35_p39 Q s30)) ∧ (z31 = true → (X0 (lf_up s30.1 31 7 ((s30.1 31 7) + 1), s30.2.1, s30.2.2))))) s)))))
def fm_35_p0L (Q : lf_Z → Prop) (s : lf_Z) : Prop := ∀ X0 : lf_Z → Prop, (∀ (s : lf_Z), fm_35_p0 Q X0 s → X0 s) → X0 s
set_option maxRecDepth 100000 in
theorem gm_35_p0 {L : Nat} {xs : Nat → Int32} {d : Nat} {Q : lf_Z → Prop} {s : lf_Z} {X0 : lf_Z → Prop} (hX0 : ∀ s, X0 s → lf_E (px_ro L xs) (d + 2) 35 0 [(0, .ref 31)] [] s (lf_qv Q)) (h : fm_35_p0 Q X0 s) : lf_E (px_ro L xs) (d + 2) 35 0 [(0, .ref 31)] [] s (lf_qv Q) := by
  unfold fm_35_p0 at h
  refine lf_seg 1 (pc' := 1) (lv' := [(0, .ref 31)]) (st' := [.ref 31]) rfl ?_
  refine lf_getI 4 7 rfl rfl rfl rfl rfl rfl rfl ?_
  refine lf_seg 1 (pc' := 5) (lv' := [(0, .ref 31)]) (st' := [.ref 31, .int (Int32.ofInt (s.1 31 7))]) rfl ?_
  refine lf_getI 8 1 rfl rfl rfl rfl rfl rfl rfl ?_
  obtain ⟨o21, h⟩ := h
  obtain ⟨o22, h⟩ := h
  refine lf_icmp_ge 39 11 rfl rfl rfl o21 o22 (fun c => ?_) (fun c => ?_)
  · have h := h.1 c
    refine lf_sub (l := [(0, .ref 31)]) (lf_sb1 rfl lf_sb0) ?_
    exact gm_35_p39 h
  · have h := h.2 c
    refine lf_seg 3 (pc' := 16) (lv' := [(0, .ref 31)]) (st' := [.ref 31, .ref 32]) rfl ?_
    refine lf_getI 19 7 rfl rfl rfl rfl rfl rfl rfl ?_
    obtain ⟨o29, h⟩ := h
    refine lf_iald 20 300 rfl rfl rfl rfl rfl rfl o29 ?_
    refine lf_callZ 23 rfl rfl rfl rfl (gm_34 h) (fun z31 s30 h => ?_)
    refine lf_ifz_eq 39 26 rfl rfl rfl (fun c => ?_) (fun c => ?_)
    · have h := h.1 c
      refine lf_sub (l := [(0, .ref 31)]) (lf_sb1 rfl lf_sb0) ?_
      exact gm_35_p39 h
    · have h := h.2 c
      refine lf_seg 2 (pc' := 28) (lv' := [(0, .ref 31)]) (st' := [.ref 31, .ref 31]) rfl ?_
      refine lf_getI 31 7 rfl rfl rfl rfl rfl rfl rfl ?_
      refine lf_seg 1 (pc' := 32) (lv' := [(0, .ref 31)]) (st' := [.int (Int32.ofInt 1), .int (Int32.ofInt (s30.1 31 7)), .ref 31]) rfl ?_
      refine lf_iadd 33 rfl rfl ?_
      refine lf_putI 36 7 rfl rfl rfl rfl rfl rfl rfl rfl ?_
      refine lf_as (lf_up s30.1 31 7 ((s30.1 31 7) + 1), s30.2.1, s30.2.2) rfl ?_
      refine lf_seg 1 (pc' := 0) (lv' := [(0, .ref 31)]) (st' := []) rfl ?_
      refine lf_sub (l := [(0, .ref 31)]) (lf_sb1 rfl lf_sb0) ?_
      exact hX0 _ h
theorem gm_35_p0L {L : Nat} {xs : Nat → Int32} {d : Nat} {Q : lf_Z → Prop} {s : lf_Z} (h : fm_35_p0L Q s) : lf_E (px_ro L xs) (d + 2) 35 0 [(0, .ref 31)] [] s (lf_qv Q) :=
  h (fun s => lf_E (px_ro L xs) (d + 2) 35 0 [(0, .ref 31)] [] s (lf_qv Q)) (fun s hb => gm_35_p0 (fun _ h => h) hb)
def fm_35 (Q : lf_Z → Prop) (s : lf_Z) : Prop := fm_35_p0L Q s
set_option maxRecDepth 100000 in
theorem gm_35 {L : Nat} {xs : Nat → Int32} {d : Nat} {Q : lf_Z → Prop} {s : lf_Z} (h : fm_35 Q s) : lf_M (px_ro L xs) (d + 2) 35 [.ref 31] s (lf_qv Q) := by
  unfold fm_35 at h
  show lf_E (px_ro L xs) (d + 2) 35 0 [(0, .ref 31)] [] s _
  refine lf_sub (l := [(0, .ref 31)]) (lf_sb1 rfl lf_sb0) ?_
  exact gm_35_p0L h
-- fm_33 Reader.scanNumber 31
def fm_33_p10 (Q : lf_Z → Prop) (X10 : lf_Z → Prop) (s : lf_Z) : Prop := lf_R (s.1 31 7) ∧ (lf_R (s.1 31 1) ∧ ((s.1 31 1 ≤ s.1 31 7 → (Q s)) ∧ (¬ (s.1 31 1 ≤ s.1 31 7) → ((0 ≤ s.1 31 7 ∧ s.1 31 7 < 300) ∧ (fm_32 (s.1 32 (s.1 31 7)) (fun z25 s24 => ((z25 = false → (Q s24)) ∧ (z25 = true → ((0 ≤ s24.1 31 7 ∧ s24.1 31 7 < 300) ∧ (X10 (lf_up (lf_up s24.1 31 10 (min 10000 (lf_w ((lf_w ((lf_w ((s24.1 31 10) * 10)) + (s24.1 32 (s24.1 31 7)))) - 48)))) 31 7 ((s24.1 31 7) + 1), s24.2.1, s24.2.2)))))) s)))))
def fm_33_p10L (Q : lf_Z → Prop) (s : lf_Z) : Prop := ∀ X10 : lf_Z → Prop, (∀ (s : lf_Z), fm_33_p10 Q X10 s → X10 s) → X10 s
set_option maxRecDepth 100000 in
theorem gm_33_p10 {L : Nat} {xs : Nat → Int32} {d : Nat} {Q : lf_Z → Prop} {s : lf_Z} {X10 : lf_Z → Prop} (hX10 : ∀ s, X10 s → lf_E (px_ro L xs) (d + 2) 33 10 [(0, .ref 31)] [] s (lf_qv Q)) (h : fm_33_p10 Q X10 s) : lf_E (px_ro L xs) (d + 2) 33 10 [(0, .ref 31)] [] s (lf_qv Q) := by
  unfold fm_33_p10 at h
  refine lf_seg 1 (pc' := 11) (lv' := [(0, .ref 31)]) (st' := [.ref 31]) rfl ?_
  refine lf_getI 14 7 rfl rfl rfl rfl rfl rfl rfl ?_
  refine lf_seg 1 (pc' := 15) (lv' := [(0, .ref 31)]) (st' := [.ref 31, .int (Int32.ofInt (s.1 31 7))]) rfl ?_
  refine lf_getI 18 1 rfl rfl rfl rfl rfl rfl rfl ?_
  obtain ⟨o21, h⟩ := h
  obtain ⟨o22, h⟩ := h
  refine lf_icmp_ge 79 21 rfl rfl rfl o21 o22 (fun c => ?_) (fun c => ?_)
  · have h := h.1 c
    exact lf_retV rfl rfl h
  · have h := h.2 c
    refine lf_seg 3 (pc' := 26) (lv' := [(0, .ref 31)]) (st' := [.ref 31, .ref 32]) rfl ?_
    refine lf_getI 29 7 rfl rfl rfl rfl rfl rfl rfl ?_
    obtain ⟨o23, h⟩ := h
    refine lf_iald 30 300 rfl rfl rfl rfl rfl rfl o23 ?_
    refine lf_callZ 33 rfl rfl rfl rfl (gm_32 h) (fun z25 s24 h => ?_)
    refine lf_ifz_eq 79 36 rfl rfl rfl (fun c => ?_) (fun c => ?_)
    · have h := h.1 c
      exact lf_retV rfl rfl h
    · have h := h.2 c
      refine lf_seg 1 (pc' := 37) (lv' := [(0, .ref 31)]) (st' := [.ref 31]) rfl ?_
      refine lf_sipush 40 10000 rfl rfl (by decide) (by decide) ?_
      refine lf_seg 1 (pc' := 41) (lv' := [(0, .ref 31)]) (st' := [.ref 31, .int (Int32.ofInt 10000), .ref 31]) rfl ?_
      refine lf_getI 44 10 rfl rfl rfl rfl rfl rfl rfl ?_
      refine lf_bipush 46 10 rfl rfl (by decide) (by decide) ?_
      refine lf_imul 47 rfl rfl ?_
      refine lf_wtI ?_
      refine lf_seg 3 (pc' := 52) (lv' := [(0, .ref 31)]) (st' := [.ref 31, .ref 32, .int (Int32.ofInt (lf_w ((s24.1 31 10) * 10))), .int (Int32.ofInt 10000), .ref 31]) rfl ?_
      refine lf_getI 55 7 rfl rfl rfl rfl rfl rfl rfl ?_
      obtain ⟨o26, h⟩ := h
      refine lf_iald 56 300 rfl rfl rfl rfl rfl rfl o26 ?_
      refine lf_iadd 57 rfl rfl ?_
      refine lf_wtI ?_
      refine lf_bipush 59 48 rfl rfl (by decide) (by decide) ?_
      refine lf_isub 60 rfl rfl ?_
      refine lf_wtI ?_
      refine lf_imin 63 rfl rfl rfl rfl ⟨by decide, by decide⟩ lf_Rw ?_
      refine lf_putI 66 10 rfl rfl rfl rfl rfl rfl rfl rfl ?_
      refine lf_as (lf_up s24.1 31 10 (min 10000 (lf_w ((lf_w ((lf_w ((s24.1 31 10) * 10)) + (s24.1 32 (s24.1 31 7)))) - 48))), s24.2.1, s24.2.2) rfl ?_
      refine lf_seg 2 (pc' := 68) (lv' := [(0, .ref 31)]) (st' := [.ref 31, .ref 31]) rfl ?_
      refine lf_getI 71 7 rfl rfl rfl rfl rfl rfl rfl ?_
      refine lf_seg 1 (pc' := 72) (lv' := [(0, .ref 31)]) (st' := [.int (Int32.ofInt 1), .int (Int32.ofInt (s24.1 31 7)), .ref 31]) rfl ?_
      refine lf_iadd 73 rfl rfl ?_
      refine lf_putI 76 7 rfl rfl rfl rfl rfl rfl rfl rfl ?_
      refine lf_as (lf_up (lf_up s24.1 31 10 (min 10000 (lf_w ((lf_w ((lf_w ((s24.1 31 10) * 10)) + (s24.1 32 (s24.1 31 7)))) - 48)))) 31 7 ((s24.1 31 7) + 1), s24.2.1, s24.2.2) rfl ?_
      refine lf_seg 1 (pc' := 10) (lv' := [(0, .ref 31)]) (st' := []) rfl ?_
      refine lf_sub (l := [(0, .ref 31)]) (lf_sb1 rfl lf_sb0) ?_
      exact hX10 _ h
theorem gm_33_p10L {L : Nat} {xs : Nat → Int32} {d : Nat} {Q : lf_Z → Prop} {s : lf_Z} (h : fm_33_p10L Q s) : lf_E (px_ro L xs) (d + 2) 33 10 [(0, .ref 31)] [] s (lf_qv Q) :=
  h (fun s => lf_E (px_ro L xs) (d + 2) 33 10 [(0, .ref 31)] [] s (lf_qv Q)) (fun s hb => gm_33_p10 (fun _ h => h) hb)
def fm_33 (Q : lf_Z → Prop) (s : lf_Z) : Prop := fm_33_p10L Q (lf_up (lf_up s.1 31 8 2) 31 10 0, s.2.1, s.2.2)
set_option maxRecDepth 100000 in
theorem gm_33 {L : Nat} {xs : Nat → Int32} {d : Nat} {Q : lf_Z → Prop} {s : lf_Z} (h : fm_33 Q s) : lf_M (px_ro L xs) (d + 2) 33 [.ref 31] s (lf_qv Q) := by
  unfold fm_33 at h
  show lf_E (px_ro L xs) (d + 2) 33 0 [(0, .ref 31)] [] s _
  refine lf_seg 2 (pc' := 2) (lv' := [(0, .ref 31)]) (st' := [.int (Int32.ofInt 2), .ref 31]) rfl ?_
  refine lf_putI 5 8 rfl rfl rfl rfl rfl rfl rfl rfl ?_
  refine lf_as (lf_up s.1 31 8 2, s.2.1, s.2.2) rfl ?_
  refine lf_seg 2 (pc' := 7) (lv' := [(0, .ref 31)]) (st' := [.int (Int32.ofInt 0), .ref 31]) rfl ?_
  refine lf_putI 10 10 rfl rfl rfl rfl rfl rfl rfl rfl ?_
  refine lf_as (lf_up (lf_up s.1 31 8 2) 31 10 0, s.2.1, s.2.2) rfl ?_
  refine lf_sub (l := [(0, .ref 31)]) (lf_sb1 rfl lf_sb0) ?_
  exact gm_33_p10L h
