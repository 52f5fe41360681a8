-- fm_191c Model.set 95 i 2 i
def fm_191c (a1 : Int) (a3 : Int) (Q : lf_Z → Prop) (s : lf_Z) : Prop := (0 ≤ (126 + (6 * a1)) + 2 ∧ (126 + (6 * a1)) + 2 < 1538) ∧ (Q (lf_up s.1 96 ((126 + (6 * a1)) + 2) a3, s.2.1, s.2.2))
set_option maxRecDepth 100000 in
theorem gm_191c {L : Nat} {xs : Nat → Int32} {d : Nat} {a1 : Int} {a3 : Int} {Q : lf_Z → Prop} {s : lf_Z} (h : fm_191c a1 a3 Q s) : lf_M (px_ro L xs) (d + 1) 191 [.ref 95, .int (Int32.ofInt a1), .int (Int32.ofInt 2), .int (Int32.ofInt a3)] s (lf_qv Q) := by
  unfold fm_191c at h
  show lf_E (px_ro L xs) (d + 1) 191 0 [(0, .ref 95), (1, .int (Int32.ofInt a1)), (2, .int (Int32.ofInt 2)), (3, .int (Int32.ofInt a3))] [] s _
  refine lf_seg 2 (pc' := 4) (lv' := [(0, .ref 95), (1, .int (Int32.ofInt a1)), (2, .int (Int32.ofInt 2)), (3, .int (Int32.ofInt a3))]) (st' := [.ref 96]) rfl ?_
  refine lf_bipush 6 126 rfl rfl (by decide) (by decide) ?_
  refine lf_bipush 8 6 rfl rfl (by decide) (by decide) ?_
  refine lf_seg 1 (pc' := 9) (lv' := [(0, .ref 95), (1, .int (Int32.ofInt a1)), (2, .int (Int32.ofInt 2)), (3, .int (Int32.ofInt a3))]) (st' := [.int (Int32.ofInt a1), .int (Int32.ofInt 6), .int (Int32.ofInt 126), .ref 96]) rfl ?_
  refine lf_imul 10 rfl rfl ?_
  refine lf_iadd 11 rfl rfl ?_
  refine lf_seg 1 (pc' := 12) (lv' := [(0, .ref 95), (1, .int (Int32.ofInt a1)), (2, .int (Int32.ofInt 2)), (3, .int (Int32.ofInt a3))]) (st' := [.int (Int32.ofInt 2), .int (Int32.ofInt (126 + (6 * a1))), .ref 96]) rfl ?_
  refine lf_iadd 13 rfl rfl ?_
  refine lf_seg 1 (pc' := 14) (lv' := [(0, .ref 95), (1, .int (Int32.ofInt a1)), (2, .int (Int32.ofInt 2)), (3, .int (Int32.ofInt a3))]) (st' := [.int (Int32.ofInt a3), .int (Int32.ofInt ((126 + (6 * a1)) + 2)), .ref 96]) rfl ?_
  obtain ⟨o21, h⟩ := h
  refine lf_iast 15 1538 rfl rfl rfl rfl rfl rfl o21 ?_
  refine lf_as (lf_up s.1 96 ((126 + (6 * a1)) + 2) a3, s.2.1, s.2.2) rfl ?_
  exact lf_retV rfl rfl h
-- fm_191d Model.set 95 i 3 i
def fm_191d (a1 : Int) (a3 : Int) (Q : lf_Z → Prop) (s : lf_Z) : Prop := (0 ≤ (126 + (6 * a1)) + 3 ∧ (126 + (6 * a1)) + 3 < 1538) ∧ (Q (lf_up s.1 96 ((126 + (6 * a1)) + 3) a3, s.2.1, s.2.2))
set_option maxRecDepth 100000 in
theorem gm_191d {L : Nat} {xs : Nat → Int32} {d : Nat} {a1 : Int} {a3 : Int} {Q : lf_Z → Prop} {s : lf_Z} (h : fm_191d a1 a3 Q s) : lf_M (px_ro L xs) (d + 1) 191 [.ref 95, .int (Int32.ofInt a1), .int (Int32.ofInt 3), .int (Int32.ofInt a3)] s (lf_qv Q) := by
  unfold fm_191d at h
  show lf_E (px_ro L xs) (d + 1) 191 0 [(0, .ref 95), (1, .int (Int32.ofInt a1)), (2, .int (Int32.ofInt 3)), (3, .int (Int32.ofInt a3))] [] s _
  refine lf_seg 2 (pc' := 4) (lv' := [(0, .ref 95), (1, .int (Int32.ofInt a1)), (2, .int (Int32.ofInt 3)), (3, .int (Int32.ofInt a3))]) (st' := [.ref 96]) rfl ?_
  refine lf_bipush 6 126 rfl rfl (by decide) (by decide) ?_
  refine lf_bipush 8 6 rfl rfl (by decide) (by decide) ?_
  refine lf_seg 1 (pc' := 9) (lv' := [(0, .ref 95), (1, .int (Int32.ofInt a1)), (2, .int (Int32.ofInt 3)), (3, .int (Int32.ofInt a3))]) (st' := [.int (Int32.ofInt a1), .int (Int32.ofInt 6), .int (Int32.ofInt 126), .ref 96]) rfl ?_
  refine lf_imul 10 rfl rfl ?_
  refine lf_iadd 11 rfl rfl ?_
  refine lf_seg 1 (pc' := 12) (lv' := [(0, .ref 95), (1, .int (Int32.ofInt a1)), (2, .int (Int32.ofInt 3)), (3, .int (Int32.ofInt a3))]) (st' := [.int (Int32.ofInt 3), .int (Int32.ofInt (126 + (6 * a1))), .ref 96]) rfl ?_
  refine lf_iadd 13 rfl rfl ?_
  refine lf_seg 1 (pc' := 14) (lv' := [(0, .ref 95), (1, .int (Int32.ofInt a1)), (2, .int (Int32.ofInt 3)), (3, .int (Int32.ofInt a3))]) (st' := [.int (Int32.ofInt a3), .int (Int32.ofInt ((126 + (6 * a1)) + 3)), .ref 96]) rfl ?_
  obtain ⟨o21, h⟩ := h
  refine lf_iast 15 1538 rfl rfl rfl rfl rfl rfl o21 ?_
  refine lf_as (lf_up s.1 96 ((126 + (6 * a1)) + 3) a3, s.2.1, s.2.2) rfl ?_
  exact lf_retV rfl rfl h
-- fm_191e Model.set 95 i 4 i
def fm_191e (a1 : Int) (a3 : Int) (Q : lf_Z → Prop) (s : lf_Z) : Prop := (0 ≤ (126 + (6 * a1)) + 4 ∧ (126 + (6 * a1)) + 4 < 1538) ∧ (Q (lf_up s.1 96 ((126 + (6 * a1)) + 4) a3, s.2.1, s.2.2))
set_option maxRecDepth 100000 in
theorem gm_191e {L : Nat} {xs : Nat → Int32} {d : Nat} {a1 : Int} {a3 : Int} {Q : lf_Z → Prop} {s : lf_Z} (h : fm_191e a1 a3 Q s) : lf_M (px_ro L xs) (d + 1) 191 [.ref 95, .int (Int32.ofInt a1), .int (Int32.ofInt 4), .int (Int32.ofInt a3)] s (lf_qv Q) := by
  unfold fm_191e at h
  show lf_E (px_ro L xs) (d + 1) 191 0 [(0, .ref 95), (1, .int (Int32.ofInt a1)), (2, .int (Int32.ofInt 4)), (3, .int (Int32.ofInt a3))] [] s _
  refine lf_seg 2 (pc' := 4) (lv' := [(0, .ref 95), (1, .int (Int32.ofInt a1)), (2, .int (Int32.ofInt 4)), (3, .int (Int32.ofInt a3))]) (st' := [.ref 96]) rfl ?_
  refine lf_bipush 6 126 rfl rfl (by decide) (by decide) ?_
  refine lf_bipush 8 6 rfl rfl (by decide) (by decide) ?_
  refine lf_seg 1 (pc' := 9) (lv' := [(0, .ref 95), (1, .int (Int32.ofInt a1)), (2, .int (Int32.ofInt 4)), (3, .int (Int32.ofInt a3))]) (st' := [.int (Int32.ofInt a1), .int (Int32.ofInt 6), .int (Int32.ofInt 126), .ref 96]) rfl ?_
  refine lf_imul 10 rfl rfl ?_
  refine lf_iadd 11 rfl rfl ?_
  refine lf_seg 1 (pc' := 12) (lv' := [(0, .ref 95), (1, .int (Int32.ofInt a1)), (2, .int (Int32.ofInt 4)), (3, .int (Int32.ofInt a3))]) (st' := [.int (Int32.ofInt 4), .int (Int32.ofInt (126 + (6 * a1))), .ref 96]) rfl ?_
  refine lf_iadd 13 rfl rfl ?_
  refine lf_seg 1 (pc' := 14) (lv' := [(0, .ref 95), (1, .int (Int32.ofInt a1)), (2, .int (Int32.ofInt 4)), (3, .int (Int32.ofInt a3))]) (st' := [.int (Int32.ofInt a3), .int (Int32.ofInt ((126 + (6 * a1)) + 4)), .ref 96]) rfl ?_
  obtain ⟨o21, h⟩ := h
  refine lf_iast 15 1538 rfl rfl rfl rfl rfl rfl o21 ?_
  refine lf_as (lf_up s.1 96 ((126 + (6 * a1)) + 4) a3, s.2.1, s.2.2) rfl ?_
  exact lf_retV rfl rfl h
-- fm_191f Model.set 95 i 5 i
def fm_191f (a1 : Int) (a3 : Int) (Q : lf_Z → Prop) (s : lf_Z) : Prop := (0 ≤ (126 + (6 * a1)) + 5 ∧ (126 + (6 * a1)) + 5 < 1538) ∧ (Q (lf_up s.1 96 ((126 + (6 * a1)) + 5) a3, s.2.1, s.2.2))
set_option maxRecDepth 100000 in
theorem gm_191f {L : Nat} {xs : Nat → Int32} {d : Nat} {a1 : Int} {a3 : Int} {Q : lf_Z → Prop} {s : lf_Z} (h : fm_191f a1 a3 Q s) : lf_M (px_ro L xs) (d + 1) 191 [.ref 95, .int (Int32.ofInt a1), .int (Int32.ofInt 5), .int (Int32.ofInt a3)] s (lf_qv Q) := by
  unfold fm_191f at h
  show lf_E (px_ro L xs) (d + 1) 191 0 [(0, .ref 95), (1, .int (Int32.ofInt a1)), (2, .int (Int32.ofInt 5)), (3, .int (Int32.ofInt a3))] [] s _
  refine lf_seg 2 (pc' := 4) (lv' := [(0, .ref 95), (1, .int (Int32.ofInt a1)), (2, .int (Int32.ofInt 5)), (3, .int (Int32.ofInt a3))]) (st' := [.ref 96]) rfl ?_
  refine lf_bipush 6 126 rfl rfl (by decide) (by decide) ?_
  refine lf_bipush 8 6 rfl rfl (by decide) (by decide) ?_
  refine lf_seg 1 (pc' := 9) (lv' := [(0, .ref 95), (1, .int (Int32.ofInt a1)), (2, .int (Int32.ofInt 5)), (3, .int (Int32.ofInt a3))]) (st' := [.int (Int32.ofInt a1), .int (Int32.ofInt 6), .int (Int32.ofInt 126), .ref 96]) rfl ?_
  refine lf_imul 10 rfl rfl ?_
  refine lf_iadd 11 rfl rfl ?_
  refine lf_seg 1 (pc' := 12) (lv' := [(0, .ref 95), (1, .int (Int32.ofInt a1)), (2, .int (Int32.ofInt 5)), (3, .int (Int32.ofInt a3))]) (st' := [.int (Int32.ofInt 5), .int (Int32.ofInt (126 + (6 * a1))), .ref 96]) rfl ?_
  refine lf_iadd 13 rfl rfl ?_
  refine lf_seg 1 (pc' := 14) (lv' := [(0, .ref 95), (1, .int (Int32.ofInt a1)), (2, .int (Int32.ofInt 5)), (3, .int (Int32.ofInt a3))]) (st' := [.int (Int32.ofInt a3), .int (Int32.ofInt ((126 + (6 * a1)) + 5)), .ref 96]) rfl ?_
  obtain ⟨o21, h⟩ := h
  refine lf_iast 15 1538 rfl rfl rfl rfl rfl rfl o21 ?_
  refine lf_as (lf_up s.1 96 ((126 + (6 * a1)) + 5) a3, s.2.1, s.2.2) rfl ?_
  exact lf_retV rfl rfl h
-- fm_190 Model.personNow 95 i i i i
def fm_190 (a1 : Int) (a2 : Int) (a3 : Int) (a4 : Int) (Q : Int → lf_Z → Prop) (s : lf_Z) : Prop := fm_185 a4 (fun z22 s21 => ((z22 = false → (Q (-1) s21)) ∧ (z22 = true → (lf_R (s21.1 96 2) ∧ ((s21.1 96 2 ≠ 6 → (fm_191 (s21.1 96 2) a1 (fun s24 => (fm_191b (s21.1 96 2) a2 (fun s25 => (fm_191c (s21.1 96 2) a3 (fun s26 => (fm_191d (s21.1 96 2) a4 (fun s27 => (fm_191e (s21.1 96 2) (-1) (fun s28 => (fm_191f (s21.1 96 2) a4 (fun s29 => (Q (s21.1 96 2) (lf_up s29.1 96 2 ((s29.1 96 2) + 1), s29.2.1, s29.2.2))) s28)) s27)) s26)) s25)) s24)) s21)) ∧ (¬ (s21.1 96 2 ≠ 6) → (Q (-1) s21))))))) s
set_option maxRecDepth 100000 in
theorem gm_190 {L : Nat} {xs : Nat → Int32} {d : Nat} {a1 : Int} {a2 : Int} {a3 : Int} {a4 : Int} {Q : Int → lf_Z → Prop} {s : lf_Z} (h : fm_190 a1 a2 a3 a4 Q s) : lf_M (px_ro L xs) (d + 3) 190 [.ref 95, .int (Int32.ofInt a1), .int (Int32.ofInt a2), .int (Int32.ofInt a3), .int (Int32.ofInt a4)] s (lf_qi Q) := by
  unfold fm_190 at h
  show lf_E (px_ro L xs) (d + 3) 190 0 [(0, .ref 95), (1, .int (Int32.ofInt a1)), (2, .int (Int32.ofInt a2)), (3, .int (Int32.ofInt a3)), (4, .int (Int32.ofInt a4))] [] s _
  refine lf_seg 2 (pc' := 3) (lv' := [(0, .ref 95), (1, .int (Int32.ofInt a1)), (2, .int (Int32.ofInt a2)), (3, .int (Int32.ofInt a3)), (4, .int (Int32.ofInt a4))]) (st' := [.int (Int32.ofInt a4), .ref 95]) rfl ?_
  refine lf_callZ 6 rfl rfl rfl rfl (gm_185 h) (fun z22 s21 h => ?_)
  refine lf_ifz_eq 20 9 rfl rfl rfl (fun c => ?_) (fun c => ?_)
  · have h := h.1 c
    refine lf_seg 1 (pc' := 21) (lv' := [(0, .ref 95), (1, .int (Int32.ofInt a1)), (2, .int (Int32.ofInt a2)), (3, .int (Int32.ofInt a3)), (4, .int (Int32.ofInt a4))]) (st' := [.int (Int32.ofInt (-1))]) rfl ?_
    exact lf_retI rfl rfl h
  · have h := h.2 c
    refine lf_seg 3 (pc' := 14) (lv' := [(0, .ref 95), (1, .int (Int32.ofInt a1)), (2, .int (Int32.ofInt a2)), (3, .int (Int32.ofInt a3)), (4, .int (Int32.ofInt a4))]) (st' := [.int (Int32.ofInt 2), .ref 96]) rfl ?_
    refine lf_iald 15 1538 rfl rfl rfl rfl rfl rfl ⟨by decide, by decide⟩ ?_
    refine lf_bipush 17 6 rfl rfl (by decide) (by decide) ?_
    obtain ⟨o23, h⟩ := h
    refine lf_icmp_ne 22 20 rfl rfl rfl o23 ⟨by decide, by decide⟩ (fun c => ?_) (fun c => ?_)
    · have h := h.1 c
      refine lf_seg 3 (pc' := 27) (lv' := [(0, .ref 95), (1, .int (Int32.ofInt a1)), (2, .int (Int32.ofInt a2)), (3, .int (Int32.ofInt a3)), (4, .int (Int32.ofInt a4))]) (st' := [.int (Int32.ofInt 2), .ref 96]) rfl ?_
      refine lf_iald 28 1538 rfl rfl rfl rfl rfl rfl ⟨by decide, by decide⟩ ?_
      refine lf_seg 5 (pc' := 35) (lv' := [(5, .int (Int32.ofInt (s21.1 96 2))), (0, .ref 95), (1, .int (Int32.ofInt a1)), (2, .int (Int32.ofInt a2)), (3, .int (Int32.ofInt a3)), (4, .int (Int32.ofInt a4))]) (st' := [.int (Int32.ofInt a1), .int (Int32.ofInt 0), .int (Int32.ofInt (s21.1 96 2)), .ref 95]) rfl ?_
      refine lf_callV 38 rfl rfl rfl rfl (gm_191 h) (fun s24 h => ?_)
      refine lf_seg 4 (pc' := 43) (lv' := [(5, .int (Int32.ofInt (s21.1 96 2))), (0, .ref 95), (1, .int (Int32.ofInt a1)), (2, .int (Int32.ofInt a2)), (3, .int (Int32.ofInt a3)), (4, .int (Int32.ofInt a4))]) (st' := [.int (Int32.ofInt a2), .int (Int32.ofInt 1), .int (Int32.ofInt (s21.1 96 2)), .ref 95]) rfl ?_
      refine lf_callV 46 rfl rfl rfl rfl (gm_191b h) (fun s25 h => ?_)
      refine lf_seg 4 (pc' := 51) (lv' := [(5, .int (Int32.ofInt (s21.1 96 2))), (0, .ref 95), (1, .int (Int32.ofInt a1)), (2, .int (Int32.ofInt a2)), (3, .int (Int32.ofInt a3)), (4, .int (Int32.ofInt a4))]) (st' := [.int (Int32.ofInt a3), .int (Int32.ofInt 2), .int (Int32.ofInt (s21.1 96 2)), .ref 95]) rfl ?_
      refine lf_callV 54 rfl rfl rfl rfl (gm_191c h) (fun s26 h => ?_)
      refine lf_seg 4 (pc' := 60) (lv' := [(5, .int (Int32.ofInt (s21.1 96 2))), (0, .ref 95), (1, .int (Int32.ofInt a1)), (2, .int (Int32.ofInt a2)), (3, .int (Int32.ofInt a3)), (4, .int (Int32.ofInt a4))]) (st' := [.int (Int32.ofInt a4), .int (Int32.ofInt 3), .int (Int32.ofInt (s21.1 96 2)), .ref 95]) rfl ?_
      refine lf_callV 63 rfl rfl rfl rfl (gm_191d h) (fun s27 h => ?_)
      refine lf_seg 4 (pc' := 68) (lv' := [(5, .int (Int32.ofInt (s21.1 96 2))), (0, .ref 95), (1, .int (Int32.ofInt a1)), (2, .int (Int32.ofInt a2)), (3, .int (Int32.ofInt a3)), (4, .int (Int32.ofInt a4))]) (st' := [.int (Int32.ofInt (-1)), .int (Int32.ofInt 4), .int (Int32.ofInt (s21.1 96 2)), .ref 95]) rfl ?_
      refine lf_callV 71 rfl rfl rfl rfl (gm_191e h) (fun s28 h => ?_)
      refine lf_seg 4 (pc' := 77) (lv' := [(5, .int (Int32.ofInt (s21.1 96 2))), (0, .ref 95), (1, .int (Int32.ofInt a1)), (2, .int (Int32.ofInt a2)), (3, .int (Int32.ofInt a3)), (4, .int (Int32.ofInt a4))]) (st' := [.int (Int32.ofInt a4), .int (Int32.ofInt 5), .int (Int32.ofInt (s21.1 96 2)), .ref 95]) rfl ?_
      refine lf_callV 80 rfl rfl rfl rfl (gm_191f h) (fun s29 h => ?_)
      refine lf_seg 4 (pc' := 86) (lv' := [(5, .int (Int32.ofInt (s21.1 96 2))), (0, .ref 95), (1, .int (Int32.ofInt a1)), (2, .int (Int32.ofInt a2)), (3, .int (Int32.ofInt a3)), (4, .int (Int32.ofInt a4))]) (st' := [.int (Int32.ofInt 2), .ref 96, .int (Int32.ofInt 2), .ref 96]) rfl ?_
      refine lf_iald 87 1538 rfl rfl rfl rfl rfl rfl ⟨by decide, by decide⟩ ?_
      refine lf_seg 1 (pc' := 88) (lv' := [(5, .int (Int32.ofInt (s21.1 96 2))), (0, .ref 95), (1, .int (Int32.ofInt a1)), (2, .int (Int32.ofInt a2)), (3, .int (Int32.ofInt a3)), (4, .int (Int32.ofInt a4))]) (st' := [.int (Int32.ofInt 1), .int (Int32.ofInt (s29.1 96 2)), .int (Int32.ofInt 2), .ref 96]) rfl ?_
      refine lf_iadd 89 rfl rfl ?_
      refine lf_iast 90 1538 rfl rfl rfl rfl rfl rfl ⟨by decide, by decide⟩ ?_
      refine lf_as (lf_up s29.1 96 2 ((s29.1 96 2) + 1), s29.2.1, s29.2.2) rfl ?_
      refine lf_seg 1 (pc' := 92) (lv' := [(5, .int (Int32.ofInt (s21.1 96 2))), (0, .ref 95), (1, .int (Int32.ofInt a1)), (2, .int (Int32.ofInt a2)), (3, .int (Int32.ofInt a3)), (4, .int (Int32.ofInt a4))]) (st' := [.int (Int32.ofInt (s21.1 96 2))]) rfl ?_
      exact lf_retI rfl rfl h
    · have h := h.2 c
      refine lf_seg 1 (pc' := 21) (lv' := [(0, .ref 95), (1, .int (Int32.ofInt a1)), (2, .int (Int32.ofInt a2)), (3, .int (Int32.ofInt a3)), (4, .int (Int32.ofInt a4))]) (st' := [.int (Int32.ofInt (-1))]) rfl ?_
      exact lf_retI rfl rfl h
-- fm_189 Model.person 95 i i i i
def fm_189_p30 (Q : Int → lf_Z → Prop) (x4 : Int) (y1 : Int) (y2 : Int) (y3 : Int) (s : lf_Z) : Prop := fm_190 y1 y2 y3 x4 (fun r26 s25 => (Q r26 s25)) s
set_option maxRecDepth 100000 in
theorem gm_189_p30 {L : Nat} {xs : Nat → Int32} {d : Nat} {Q : Int → lf_Z → Prop} {x4 : Int} {y1 : Int} {y2 : Int} {y3 : Int} {s : lf_Z} (h : fm_189_p30 Q x4 y1 y2 y3 s) : lf_E (px_ro L xs) (d + 4) 189 30 [(4, .int (Int32.ofInt x4))] [.int (Int32.ofInt y3), .int (Int32.ofInt y2), .int (Int32.ofInt y1), .ref 95] s (lf_qi Q) := by
  unfold fm_189_p30 at h
  refine lf_seg 1 (pc' := 32) (lv' := [(4, .int (Int32.ofInt x4))]) (st' := [.int (Int32.ofInt x4), .int (Int32.ofInt y3), .int (Int32.ofInt y2), .int (Int32.ofInt y1), .ref 95]) rfl ?_
  refine lf_callI 35 rfl rfl rfl rfl (gm_190 h) (fun r26 s25 h => ?_)
  refine lf_seg 1 (pc' := 39) (lv' := [(4, .int (Int32.ofInt x4))]) (st' := [.int (Int32.ofInt r26)]) rfl ?_
  exact lf_retI rfl rfl h
def fm_189_p21 (Q : Int → lf_Z → Prop) (x3 : Int) (x4 : Int) (y1 : Int) (y2 : Int) (s : lf_Z) : Prop := lf_R x3 ∧ ((x3 = 0 → (fm_189_p30 Q x4 y1 y2 0 s)) ∧ (¬ (x3 = 0) → (fm_189_p30 Q x4 y1 y2 1 s)))
set_option maxRecDepth 100000 in
theorem gm_189_p21 {L : Nat} {xs : Nat → Int32} {d : Nat} {Q : Int → lf_Z → Prop} {x3 : Int} {x4 : Int} {y1 : Int} {y2 : Int} {s : lf_Z} (h : fm_189_p21 Q x3 x4 y1 y2 s) : lf_E (px_ro L xs) (d + 4) 189 21 [(3, .int (Int32.ofInt x3)), (4, .int (Int32.ofInt x4))] [.int (Int32.ofInt y2), .int (Int32.ofInt y1), .ref 95] s (lf_qi Q) := by
  unfold fm_189_p21 at h
  refine lf_seg 1 (pc' := 22) (lv' := [(3, .int (Int32.ofInt x3)), (4, .int (Int32.ofInt x4))]) (st' := [.int (Int32.ofInt x3), .int (Int32.ofInt y2), .int (Int32.ofInt y1), .ref 95]) rfl ?_
  obtain ⟨o24, h⟩ := h
  refine lf_if_eq 29 25 rfl rfl rfl o24 (fun c => ?_) (fun c => ?_)
  · have h := h.1 c
    refine lf_seg 1 (pc' := 30) (lv' := [(3, .int (Int32.ofInt x3)), (4, .int (Int32.ofInt x4))]) (st' := [.int (Int32.ofInt 0), .int (Int32.ofInt y2), .int (Int32.ofInt y1), .ref 95]) rfl ?_
    refine lf_sub (l := [(4, .int (Int32.ofInt x4))]) (lf_sb1 rfl lf_sb0) ?_
    exact gm_189_p30 h
  · have h := h.2 c
    refine lf_seg 2 (pc' := 30) (lv' := [(3, .int (Int32.ofInt x3)), (4, .int (Int32.ofInt x4))]) (st' := [.int (Int32.ofInt 1), .int (Int32.ofInt y2), .int (Int32.ofInt y1), .ref 95]) rfl ?_
    refine lf_sub (l := [(4, .int (Int32.ofInt x4))]) (lf_sb1 rfl lf_sb0) ?_
    exact gm_189_p30 h
def fm_189 (a1 : Int) (a2 : Int) (a3 : Int) (a4 : Int) (Q : Int → lf_Z → Prop) (s : lf_Z) : Prop := fm_183 a1 0 9 (fun z22 s21 => ((z22 = false → (Q (-1) s21)) ∧ (z22 = true → (lf_R a2 ∧ ((a2 = 0 → (fm_189_p21 Q a3 a4 a1 0 s21)) ∧ (¬ (a2 = 0) → (fm_189_p21 Q a3 a4 a1 1 s21))))))) s
set_option maxRecDepth 100000 in
theorem gm_189 {L : Nat} {xs : Nat → Int32} {d : Nat} {a1 : Int} {a2 : Int} {a3 : Int} {a4 : Int} {Q : Int → lf_Z → Prop} {s : lf_Z} (h : fm_189 a1 a2 a3 a4 Q s) : lf_M (px_ro L xs) (d + 4) 189 [.ref 95, .int (Int32.ofInt a1), .int (Int32.ofInt a2), .int (Int32.ofInt a3), .int (Int32.ofInt a4)] s (lf_qi Q) := by
  unfold fm_189 at h
  show lf_E (px_ro L xs) (d + 4) 189 0 [(0, .ref 95), (1, .int (Int32.ofInt a1)), (2, .int (Int32.ofInt a2)), (3, .int (Int32.ofInt a3)), (4, .int (Int32.ofInt a4))] [] s _
  refine lf_seg 2 (pc' := 2) (lv' := [(0, .ref 95), (1, .int (Int32.ofInt a1)), (2, .int (Int32.ofInt a2)), (3, .int (Int32.ofInt a3)), (4, .int (Int32.ofInt a4))]) (st' := [.int (Int32.ofInt 0), .int (Int32.ofInt a1)]) rfl ?_
  refine lf_bipush 4 9 rfl rfl (by decide) (by decide) ?_
  refine lf_callZ 7 rfl rfl rfl rfl (gm_183 h) (fun z22 s21 h => ?_)
  refine lf_ifz_eq 38 10 rfl rfl rfl (fun c => ?_) (fun c => ?_)
  · have h := h.1 c
    refine lf_seg 1 (pc' := 39) (lv' := [(0, .ref 95), (1, .int (Int32.ofInt a1)), (2, .int (Int32.ofInt a2)), (3, .int (Int32.ofInt a3)), (4, .int (Int32.ofInt a4))]) (st' := [.int (Int32.ofInt (-1))]) rfl ?_
    exact lf_retI rfl rfl h
  · have h := h.2 c
    refine lf_seg 3 (pc' := 13) (lv' := [(0, .ref 95), (1, .int (Int32.ofInt a1)), (2, .int (Int32.ofInt a2)), (3, .int (Int32.ofInt a3)), (4, .int (Int32.ofInt a4))]) (st' := [.int (Int32.ofInt a2), .int (Int32.ofInt a1), .ref 95]) rfl ?_
    obtain ⟨o23, h⟩ := h
    refine lf_if_eq 20 16 rfl rfl rfl o23 (fun c => ?_) (fun c => ?_)
    · have h := h.1 c
      refine lf_seg 1 (pc' := 21) (lv' := [(0, .ref 95), (1, .int (Int32.ofInt a1)), (2, .int (Int32.ofInt a2)), (3, .int (Int32.ofInt a3)), (4, .int (Int32.ofInt a4))]) (st' := [.int (Int32.ofInt 0), .int (Int32.ofInt a1), .ref 95]) rfl ?_
      refine lf_sub (l := [(3, .int (Int32.ofInt a3)), (4, .int (Int32.ofInt a4))]) (lf_sb1 rfl (lf_sb1 rfl lf_sb0)) ?_
      exact gm_189_p21 h
    · have h := h.2 c
      refine lf_seg 2 (pc' := 21) (lv' := [(0, .ref 95), (1, .int (Int32.ofInt a1)), (2, .int (Int32.ofInt a2)), (3, .int (Int32.ofInt a3)), (4, .int (Int32.ofInt a4))]) (st' := [.int (Int32.ofInt 1), .int (Int32.ofInt a1), .ref 95]) rfl ?_
      refine lf_sub (l := [(3, .int (Int32.ofInt a3)), (4, .int (Int32.ofInt a4))]) (lf_sb1 rfl (lf_sb1 rfl lf_sb0)) ?_
      exact gm_189_p21 h
-- fm_26 Reader.addBytes 31 i
def fm_26_p3 (Q : lf_Z → Prop) (x1 : Int) (X3 : Int → lf_Z → Prop) (x2 : Int) (s : lf_Z) : Prop := lf_R x2 ∧ ((x2 < 0 → (Q s)) ∧ (¬ (x2 < 0) → (lf_R (s.1 31 1) ∧ ((300 ≤ s.1 31 1 → (Q s)) ∧ (¬ (300 ≤ s.1 31 1) → ((0 ≤ s.1 31 1 ∧ s.1 31 1 < 300) ∧ (X3 (x2 + (-8)) (lf_up (lf_up s.1 32 (s.1 31 1) (lf_and (lf_ushr x1 x2) 255)) 31 1 ((s.1 31 1) + 1), s.2.1, s.2.2))))))))
def fm_26_p3L (Q : lf_Z → Prop) (x1 : Int) (x2 : Int) (s : lf_Z) : Prop := ∀ X3 : Int → lf_Z → Prop, (∀ (x2 : Int) (s : lf_Z), fm_26_p3 Q x1 X3 x2 s → X3 x2 s) → X3 x2 s
set_option maxRecDepth 100000 in
theorem gm_26_p3 {L : Nat} {xs : Nat → Int32} {d : Nat} {Q : lf_Z → Prop} {x1 : Int} {x2 : Int} {s : lf_Z} {X3 : Int → lf_Z → Prop} (hX3 : ∀ x2 s, X3 x2 s → lf_E (px_ro L xs) (d + 1) 26 3 [(0, .ref 31), (1, .int (Int32.ofInt x1)), (2, .int (Int32.ofInt x2))] [] s (lf_qv Q)) (h : fm_26_p3 Q x1 X3 x2 s) : lf_E (px_ro L xs) (d + 1) 26 3 [(0, .ref 31), (1, .int (Int32.ofInt x1)), (2, .int (Int32.ofInt x2))] [] s (lf_qv Q) := by
  unfold fm_26_p3 at h
  refine lf_seg 1 (pc' := 4) (lv' := [(0, .ref 31), (1, .int (Int32.ofInt x1)), (2, .int (Int32.ofInt x2))]) (st' := [.int (Int32.ofInt x2)]) rfl ?_
  obtain ⟨o21, h⟩ := h
  refine lf_if_lt 49 7 rfl rfl rfl o21 (fun c => ?_) (fun c => ?_)
  · have h := h.1 c
    exact lf_retV rfl rfl h
  · have h := h.2 c
    refine lf_seg 1 (pc' := 8) (lv' := [(0, .ref 31), (1, .int (Int32.ofInt x1)), (2, .int (Int32.ofInt x2))]) (st' := [.ref 31]) rfl ?_
    refine lf_getI 11 1 rfl rfl rfl rfl rfl rfl rfl ?_
    refine lf_sipush 14 300 rfl rfl (by decide) (by decide) ?_
    obtain ⟨o22, h⟩ := h
    refine lf_icmp_ge 49 17 rfl rfl rfl o22 ⟨by decide, by decide⟩ (fun c => ?_) (fun c => ?_)
    · have h := h.1 c
      exact lf_retV rfl rfl h
    · have h := h.2 c
      refine lf_seg 3 (pc' := 22) (lv' := [(0, .ref 31), (1, .int (Int32.ofInt x1)), (2, .int (Int32.ofInt x2))]) (st' := [.ref 31, .ref 32]) rfl ?_
      refine lf_getI 25 1 rfl rfl rfl rfl rfl rfl rfl ?_
      refine lf_seg 2 (pc' := 27) (lv' := [(0, .ref 31), (1, .int (Int32.ofInt x1)), (2, .int (Int32.ofInt x2))]) (st' := [.int (Int32.ofInt x2), .int (Int32.ofInt x1), .int (Int32.ofInt (s.1 31 1)), .ref 32]) rfl ?_
      refine lf_iushr 28 rfl rfl ?_
      refine lf_sipush 31 255 rfl rfl (by decide) (by decide) ?_
      refine lf_iand 32 rfl rfl ?_
      obtain ⟨o23, h⟩ := h
      refine lf_iast 33 300 rfl rfl rfl rfl rfl rfl o23 ?_
      refine lf_as (lf_up s.1 32 (s.1 31 1) (lf_and (lf_ushr x1 x2) 255), s.2.1, s.2.2) rfl ?_
      refine lf_seg 2 (pc' := 35) (lv' := [(0, .ref 31), (1, .int (Int32.ofInt x1)), (2, .int (Int32.ofInt x2))]) (st' := [.ref 31, .ref 31]) rfl ?_
      refine lf_getI 38 1 rfl rfl rfl rfl rfl rfl rfl ?_
      refine lf_seg 1 (pc' := 39) (lv' := [(0, .ref 31), (1, .int (Int32.ofInt x1)), (2, .int (Int32.ofInt x2))]) (st' := [.int (Int32.ofInt 1), .int (Int32.ofInt (s.1 31 1)), .ref 31]) rfl ?_
      refine lf_iadd 40 rfl rfl ?_
      refine lf_putI 43 1 rfl rfl rfl rfl rfl rfl rfl rfl ?_
      refine lf_as (lf_up (lf_up s.1 32 (s.1 31 1) (lf_and (lf_ushr x1 x2) 255)) 31 1 ((s.1 31 1) + 1), s.2.1, s.2.2) rfl ?_
      refine lf_iinc 46 rfl rfl rfl rfl ?_
      refine lf_seg 1 (pc' := 3) (lv' := [(2, .int (Int32.ofInt (x2 + (-8)))), (0, .ref 31), (1, .int (Int32.ofInt x1))]) (st' := []) rfl ?_
      refine lf_sub (l := [(0, .ref 31), (1, .int (Int32.ofInt x1)), (2, .int (Int32.ofInt (x2 + (-8))))]) (lf_sb1 rfl (lf_sb1 rfl (lf_sb1 rfl lf_sb0))) ?_
      exact hX3 _ _ h
theorem gm_26_p3L {L : Nat} {xs : Nat → Int32} {d : Nat} {Q : lf_Z → Prop} {x1 : Int} {x2 : Int} {s : lf_Z} (h : fm_26_p3L Q x1 x2 s) : lf_E (px_ro L xs) (d + 1) 26 3 [(0, .ref 31), (1, .int (Int32.ofInt x1)), (2, .int (Int32.ofInt x2))] [] s (lf_qv Q) :=
  h (fun x2 s => lf_E (px_ro L xs) (d + 1) 26 3 [(0, .ref 31), (1, .int (Int32.ofInt x1)), (2, .int (Int32.ofInt x2))] [] s (lf_qv Q)) (fun x2 s hb => gm_26_p3 (fun _ _ h => h) hb)
def fm_26 (a1 : Int) (Q : lf_Z → Prop) (s : lf_Z) : Prop := fm_26_p3L Q a1 24 s
set_option maxRecDepth 100000 in
theorem gm_26 {L : Nat} {xs : Nat → Int32} {d : Nat} {a1 : Int} {Q : lf_Z → Prop} {s : lf_Z} (h : fm_26 a1 Q s) : lf_M (px_ro L xs) (d + 1) 26 [.ref 31, .int (Int32.ofInt a1)] s (lf_qv Q) := by
  unfold fm_26 at h
  show lf_E (px_ro L xs) (d + 1) 26 0 [(0, .ref 31), (1, .int (Int32.ofInt a1))] [] s _
  refine lf_bipush 2 24 rfl rfl (by decide) (by decide) ?_
  refine lf_seg 1 (pc' := 3) (lv' := [(2, .int (Int32.ofInt 24)), (0, .ref 31), (1, .int (Int32.ofInt a1))]) (st' := []) rfl ?_
  refine lf_sub (l := [(0, .ref 31), (1, .int (Int32.ofInt a1)), (2, .int (Int32.ofInt 24))]) (lf_sb1 rfl (lf_sb1 rfl (lf_sb1 rfl lf_sb0))) ?_
  exact gm_26_p3L h
-- fm_25 ElevenBullocks.feed 0 i i i i i
def fm_25 (a1 : Int) (a2 : Int) (a3 : Int) (a4 : Int) (a5 : Int) (Q : Int → lf_Z → Prop) (s : lf_Z) : Prop := lf_R ((s.1 31 1) + 20) ∧ (((s.1 31 1) + 20 ≤ 300 → (fm_26 a1 (fun s22 => (fm_26 a2 (fun s23 => (fm_26 a3 (fun s24 => (fm_26 a4 (fun s25 => (fm_26 a5 (fun s26 => (Q (s26.1 31 1) s26)) s25)) s24)) s23)) s22)) s)) ∧ (¬ ((s.1 31 1) + 20 ≤ 300) → (Q (-1) s)))
set_option maxRecDepth 100000 in
theorem gm_25 {L : Nat} {xs : Nat → Int32} {d : Nat} {a1 : Int} {a2 : Int} {a3 : Int} {a4 : Int} {a5 : Int} {Q : Int → lf_Z → Prop} {s : lf_Z} (h : fm_25 a1 a2 a3 a4 a5 Q s) : lf_M (px_ro L xs) (d + 2) 25 [.ref 0, .int (Int32.ofInt a1), .int (Int32.ofInt a2), .int (Int32.ofInt a3), .int (Int32.ofInt a4), .int (Int32.ofInt a5)] s (lf_qi Q) := by
  unfold fm_25 at h
  show lf_E (px_ro L xs) (d + 2) 25 0 [(0, .ref 0), (1, .int (Int32.ofInt a1)), (2, .int (Int32.ofInt a2)), (3, .int (Int32.ofInt a3)), (4, .int (Int32.ofInt a4)), (5, .int (Int32.ofInt a5))] [] s _
  refine lf_seg 2 (pc' := 4) (lv' := [(0, .ref 0), (1, .int (Int32.ofInt a1)), (2, .int (Int32.ofInt a2)), (3, .int (Int32.ofInt a3)), (4, .int (Int32.ofInt a4)), (5, .int (Int32.ofInt a5))]) (st' := [.ref 31]) rfl ?_
  refine lf_getI 7 1 rfl rfl rfl rfl rfl rfl rfl ?_
  refine lf_bipush 9 20 rfl rfl (by decide) (by decide) ?_
  refine lf_iadd 10 rfl rfl ?_
  refine lf_sipush 13 300 rfl rfl (by decide) (by decide) ?_
  obtain ⟨o21, h⟩ := h
  refine lf_icmp_le 18 16 rfl rfl rfl o21 ⟨by decide, by decide⟩ (fun c => ?_) (fun c => ?_)
  · have h := h.1 c
    refine lf_seg 3 (pc' := 23) (lv' := [(0, .ref 0), (1, .int (Int32.ofInt a1)), (2, .int (Int32.ofInt a2)), (3, .int (Int32.ofInt a3)), (4, .int (Int32.ofInt a4)), (5, .int (Int32.ofInt a5))]) (st' := [.int (Int32.ofInt a1), .ref 31]) rfl ?_
    refine lf_callV 26 rfl rfl rfl rfl (gm_26 h) (fun s22 h => ?_)
    refine lf_seg 3 (pc' := 31) (lv' := [(0, .ref 0), (1, .int (Int32.ofInt a1)), (2, .int (Int32.ofInt a2)), (3, .int (Int32.ofInt a3)), (4, .int (Int32.ofInt a4)), (5, .int (Int32.ofInt a5))]) (st' := [.int (Int32.ofInt a2), .ref 31]) rfl ?_
    refine lf_callV 34 rfl rfl rfl rfl (gm_26 h) (fun s23 h => ?_)
    refine lf_seg 3 (pc' := 39) (lv' := [(0, .ref 0), (1, .int (Int32.ofInt a1)), (2, .int (Int32.ofInt a2)), (3, .int (Int32.ofInt a3)), (4, .int (Int32.ofInt a4)), (5, .int (Int32.ofInt a5))]) (st' := [.int (Int32.ofInt a3), .ref 31]) rfl ?_
    refine lf_callV 42 rfl rfl rfl rfl (gm_26 h) (fun s24 h => ?_)
    refine lf_seg 3 (pc' := 48) (lv' := [(0, .ref 0), (1, .int (Int32.ofInt a1)), (2, .int (Int32.ofInt a2)), (3, .int (Int32.ofInt a3)), (4, .int (Int32.ofInt a4)), (5, .int (Int32.ofInt a5))]) (st' := [.int (Int32.ofInt a4), .ref 31]) rfl ?_
    refine lf_callV 51 rfl rfl rfl rfl (gm_26 h) (fun s25 h => ?_)
    refine lf_seg 3 (pc' := 57) (lv' := [(0, .ref 0), (1, .int (Int32.ofInt a1)), (2, .int (Int32.ofInt a2)), (3, .int (Int32.ofInt a3)), (4, .int (Int32.ofInt a4)), (5, .int (Int32.ofInt a5))]) (st' := [.int (Int32.ofInt a5), .ref 31]) rfl ?_
    refine lf_callV 60 rfl rfl rfl rfl (gm_26 h) (fun s26 h => ?_)
    refine lf_seg 2 (pc' := 64) (lv' := [(0, .ref 0), (1, .int (Int32.ofInt a1)), (2, .int (Int32.ofInt a2)), (3, .int (Int32.ofInt a3)), (4, .int (Int32.ofInt a4)), (5, .int (Int32.ofInt a5))]) (st' := [.ref 31]) rfl ?_
    refine lf_getI 67 1 rfl rfl rfl rfl rfl rfl rfl ?_
    exact lf_retI rfl rfl h
  · have h := h.2 c
    refine lf_seg 1 (pc' := 17) (lv' := [(0, .ref 0), (1, .int (Int32.ofInt a1)), (2, .int (Int32.ofInt a2)), (3, .int (Int32.ofInt a3)), (4, .int (Int32.ofInt a4)), (5, .int (Int32.ofInt a5))]) (st' := [.int (Int32.ofInt (-1))]) rfl ?_
    exact lf_retI rfl rfl h
-- fm_193 Model.four 95 i
def fm_193_p3 (Q : lf_Z → Prop) (x1 : Int) (X3 : Int → lf_Z → Prop) (x2 : Int) (s : lf_Z) : Prop := lf_R x2 ∧ ((x2 < 0 → (Q s)) ∧ (¬ (x2 < 0) → ((0 ≤ s.1 95 4 ∧ s.1 95 4 < 300) ∧ (X3 (x2 + (-8)) (lf_up (lf_up s.1 99 (s.1 95 4) (lf_and (lf_shr x1 x2) 255)) 95 4 ((s.1 95 4) + 1), s.2.1, s.2.2)))))
def fm_193_p3L (Q : lf_Z → Prop) (x1 : Int) (x2 : Int) (s : lf_Z) : Prop := ∀ X3 : Int → lf_Z → Prop, (∀ (x2 : Int) (s : lf_Z), fm_193_p3 Q x1 X3 x2 s → X3 x2 s) → X3 x2 s
set_option maxRecDepth 100000 in
theorem gm_193_p3 {L : Nat} {xs : Nat → Int32} {d : Nat} {Q : lf_Z → Prop} {x1 : Int} {x2 : Int} {s : lf_Z} {X3 : Int → lf_Z → Prop} (hX3 : ∀ x2 s, X3 x2 s → lf_E (px_ro L xs) (d + 1) 193 3 [(0, .ref 95), (1, .int (Int32.ofInt x1)), (2, .int (Int32.ofInt x2))] [] s (lf_qv Q)) (h : fm_193_p3 Q x1 X3 x2 s) : lf_E (px_ro L xs) (d + 1) 193 3 [(0, .ref 95), (1, .int (Int32.ofInt x1)), (2, .int (Int32.ofInt x2))] [] s (lf_qv Q) := by
  unfold fm_193_p3 at h
  refine lf_seg 1 (pc' := 4) (lv' := [(0, .ref 95), (1, .int (Int32.ofInt x1)), (2, .int (Int32.ofInt x2))]) (st' := [.int (Int32.ofInt x2)]) rfl ?_
  obtain ⟨o21, h⟩ := h
  refine lf_if_lt 39 7 rfl rfl rfl o21 (fun c => ?_) (fun c => ?_)
  · have h := h.1 c
    exact lf_retV rfl rfl h
  · have h := h.2 c
    refine lf_seg 3 (pc' := 12) (lv' := [(0, .ref 95), (1, .int (Int32.ofInt x1)), (2, .int (Int32.ofInt x2))]) (st' := [.ref 95, .ref 99]) rfl ?_
    refine lf_getI 15 4 rfl rfl rfl rfl rfl rfl rfl ?_
    refine lf_seg 2 (pc' := 17) (lv' := [(0, .ref 95), (1, .int (Int32.ofInt x1)), (2, .int (Int32.ofInt x2))]) (st' := [.int (Int32.ofInt x2), .int (Int32.ofInt x1), .int (Int32.ofInt (s.1 95 4)), .ref 99]) rfl ?_
    refine lf_ishr 18 rfl rfl ?_
    refine lf_sipush 21 255 rfl rfl (by decide) (by decide) ?_
    refine lf_iand 22 rfl rfl ?_
    obtain ⟨o22, h⟩ := h
    refine lf_iast 23 300 rfl rfl rfl rfl rfl rfl o22 ?_
    refine lf_as (lf_up s.1 99 (s.1 95 4) (lf_and (lf_shr x1 x2) 255), s.2.1, s.2.2) rfl ?_
    refine lf_seg 2 (pc' := 25) (lv' := [(0, .ref 95), (1, .int (Int32.ofInt x1)), (2, .int (Int32.ofInt x2))]) (st' := [.ref 95, .ref 95]) rfl ?_
    refine lf_getI 28 4 rfl rfl rfl rfl rfl rfl rfl ?_
    refine lf_seg 1 (pc' := 29) (lv' := [(0, .ref 95), (1, .int (Int32.ofInt x1)), (2, .int (Int32.ofInt x2))]) (st' := [.int (Int32.ofInt 1), .int (Int32.ofInt (s.1 95 4)), .ref 95]) rfl ?_
    refine lf_iadd 30 rfl rfl ?_
    refine lf_putI 33 4 rfl rfl rfl rfl rfl rfl rfl rfl ?_
    refine lf_as (lf_up (lf_up s.1 99 (s.1 95 4) (lf_and (lf_shr x1 x2) 255)) 95 4 ((s.1 95 4) + 1), s.2.1, s.2.2) rfl ?_
    refine lf_iinc 36 rfl rfl rfl rfl ?_
    refine lf_seg 1 (pc' := 3) (lv' := [(2, .int (Int32.ofInt (x2 + (-8)))), (0, .ref 95), (1, .int (Int32.ofInt x1))]) (st' := []) rfl ?_
    refine lf_sub (l := [(0, .ref 95), (1, .int (Int32.ofInt x1)), (2, .int (Int32.ofInt (x2 + (-8))))]) (lf_sb1 rfl (lf_sb1 rfl (lf_sb1 rfl lf_sb0))) ?_
    exact hX3 _ _ h
theorem gm_193_p3L {L : Nat} {xs : Nat → Int32} {d : Nat} {Q : lf_Z → Prop} {x1 : Int} {x2 : Int} {s : lf_Z} (h : fm_193_p3L Q x1 x2 s) : lf_E (px_ro L xs) (d + 1) 193 3 [(0, .ref 95), (1, .int (Int32.ofInt x1)), (2, .int (Int32.ofInt x2))] [] s (lf_qv Q) :=
  h (fun x2 s => lf_E (px_ro L xs) (d + 1) 193 3 [(0, .ref 95), (1, .int (Int32.ofInt x1)), (2, .int (Int32.ofInt x2))] [] s (lf_qv Q)) (fun x2 s hb => gm_193_p3 (fun _ _ h => h) hb)
def fm_193 (a1 : Int) (Q : lf_Z → Prop) (s : lf_Z) : Prop := fm_193_p3L Q a1 24 s
set_option maxRecDepth 100000 in
theorem gm_193 {L : Nat} {xs : Nat → Int32} {d : Nat} {a1 : Int} {Q : lf_Z → Prop} {s : lf_Z} (h : fm_193 a1 Q s) : lf_M (px_ro L xs) (d + 1) 193 [.ref 95, .int (Int32.ofInt a1)] s (lf_qv Q) := by
  unfold fm_193 at h
  show lf_E (px_ro L xs) (d + 1) 193 0 [(0, .ref 95), (1, .int (Int32.ofInt a1))] [] s _
  refine lf_bipush 2 24 rfl rfl (by decide) (by decide) ?_
  refine lf_seg 1 (pc' := 3) (lv' := [(2, .int (Int32.ofInt 24)), (0, .ref 95), (1, .int (Int32.ofInt a1))]) (st' := []) rfl ?_
  refine lf_sub (l := [(0, .ref 95), (1, .int (Int32.ofInt a1)), (2, .int (Int32.ofInt 24))]) (lf_sb1 rfl (lf_sb1 rfl (lf_sb1 rfl lf_sb0))) ?_
  exact gm_193_p3L h
-- fm_192 Model.feed 95 i i i i i
def fm_192 (a1 : Int) (a2 : Int) (a3 : Int) (a4 : Int) (a5 : Int) (Q : Int → lf_Z → Prop) (s : lf_Z) : Prop := lf_R ((s.1 95 4) + 20) ∧ (((s.1 95 4) + 20 ≤ 300 → (fm_193 a1 (fun s22 => (fm_193 a2 (fun s23 => (fm_193 a3 (fun s24 => (fm_193 a4 (fun s25 => (fm_193 a5 (fun s26 => (Q (s26.1 95 4) s26)) s25)) s24)) s23)) s22)) s)) ∧ (¬ ((s.1 95 4) + 20 ≤ 300) → (Q (-1) s)))
set_option maxRecDepth 100000 in
theorem gm_192 {L : Nat} {xs : Nat → Int32} {d : Nat} {a1 : Int} {a2 : Int} {a3 : Int} {a4 : Int} {a5 : Int} {Q : Int → lf_Z → Prop} {s : lf_Z} (h : fm_192 a1 a2 a3 a4 a5 Q s) : lf_M (px_ro L xs) (d + 2) 192 [.ref 95, .int (Int32.ofInt a1), .int (Int32.ofInt a2), .int (Int32.ofInt a3), .int (Int32.ofInt a4), .int (Int32.ofInt a5)] s (lf_qi Q) := by
  unfold fm_192 at h
  show lf_E (px_ro L xs) (d + 2) 192 0 [(0, .ref 95), (1, .int (Int32.ofInt a1)), (2, .int (Int32.ofInt a2)), (3, .int (Int32.ofInt a3)), (4, .int (Int32.ofInt a4)), (5, .int (Int32.ofInt a5))] [] s _
  refine lf_seg 1 (pc' := 1) (lv' := [(0, .ref 95), (1, .int (Int32.ofInt a1)), (2, .int (Int32.ofInt a2)), (3, .int (Int32.ofInt a3)), (4, .int (Int32.ofInt a4)), (5, .int (Int32.ofInt a5))]) (st' := [.ref 95]) rfl ?_
  refine lf_getI 4 4 rfl rfl rfl rfl rfl rfl rfl ?_
  refine lf_bipush 6 20 rfl rfl (by decide) (by decide) ?_
  refine lf_iadd 7 rfl rfl ?_
  refine lf_sipush 10 300 rfl rfl (by decide) (by decide) ?_
  obtain ⟨o21, h⟩ := h
  refine lf_icmp_le 15 13 rfl rfl rfl o21 ⟨by decide, by decide⟩ (fun c => ?_) (fun c => ?_)
  · have h := h.1 c
    refine lf_seg 2 (pc' := 17) (lv' := [(0, .ref 95), (1, .int (Int32.ofInt a1)), (2, .int (Int32.ofInt a2)), (3, .int (Int32.ofInt a3)), (4, .int (Int32.ofInt a4)), (5, .int (Int32.ofInt a5))]) (st' := [.int (Int32.ofInt a1), .ref 95]) rfl ?_
    refine lf_callV 20 rfl rfl rfl rfl (gm_193 h) (fun s22 h => ?_)
    refine lf_seg 2 (pc' := 22) (lv' := [(0, .ref 95), (1, .int (Int32.ofInt a1)), (2, .int (Int32.ofInt a2)), (3, .int (Int32.ofInt a3)), (4, .int (Int32.ofInt a4)), (5, .int (Int32.ofInt a5))]) (st' := [.int (Int32.ofInt a2), .ref 95]) rfl ?_
    refine lf_callV 25 rfl rfl rfl rfl (gm_193 h) (fun s23 h => ?_)
    refine lf_seg 2 (pc' := 27) (lv' := [(0, .ref 95), (1, .int (Int32.ofInt a1)), (2, .int (Int32.ofInt a2)), (3, .int (Int32.ofInt a3)), (4, .int (Int32.ofInt a4)), (5, .int (Int32.ofInt a5))]) (st' := [.int (Int32.ofInt a3), .ref 95]) rfl ?_
    refine lf_callV 30 rfl rfl rfl rfl (gm_193 h) (fun s24 h => ?_)
    refine lf_seg 2 (pc' := 33) (lv' := [(0, .ref 95), (1, .int (Int32.ofInt a1)), (2, .int (Int32.ofInt a2)), (3, .int (Int32.ofInt a3)), (4, .int (Int32.ofInt a4)), (5, .int (Int32.ofInt a5))]) (st' := [.int (Int32.ofInt a4), .ref 95]) rfl ?_
    refine lf_callV 36 rfl rfl rfl rfl (gm_193 h) (fun s25 h => ?_)
    refine lf_seg 2 (pc' := 39) (lv' := [(0, .ref 95), (1, .int (Int32.ofInt a1)), (2, .int (Int32.ofInt a2)), (3, .int (Int32.ofInt a3)), (4, .int (Int32.ofInt a4)), (5, .int (Int32.ofInt a5))]) (st' := [.int (Int32.ofInt a5), .ref 95]) rfl ?_
    refine lf_callV 42 rfl rfl rfl rfl (gm_193 h) (fun s26 h => ?_)
    refine lf_seg 1 (pc' := 43) (lv' := [(0, .ref 95), (1, .int (Int32.ofInt a1)), (2, .int (Int32.ofInt a2)), (3, .int (Int32.ofInt a3)), (4, .int (Int32.ofInt a4)), (5, .int (Int32.ofInt a5))]) (st' := [.ref 95]) rfl ?_
    refine lf_getI 46 4 rfl rfl rfl rfl rfl rfl rfl ?_
    exact lf_retI rfl rfl h
  · have h := h.2 c
    refine lf_seg 1 (pc' := 14) (lv' := [(0, .ref 95), (1, .int (Int32.ofInt a1)), (2, .int (Int32.ofInt a2)), (3, .int (Int32.ofInt a3)), (4, .int (Int32.ofInt a4)), (5, .int (Int32.ofInt a5))]) (st' := [.int (Int32.ofInt (-1))]) rfl ?_
    exact lf_retI rfl rfl h
-- fm_27 ElevenBullocks.end 0 i
def fm_27 (a1 : Int) (Q : Int → lf_Z → Prop) (s : lf_Z) : Prop := fm_15 a1 0 (s.1 31 1) (fun z22 s21 => ((z22 = true → (Q a1 (lf_up s21.1 31 1 a1, s21.2.1, s21.2.2))) ∧ (z22 = false → (Q (-1) s21)))) s
set_option maxRecDepth 100000 in
theorem gm_27 {L : Nat} {xs : Nat → Int32} {d : Nat} {a1 : Int} {Q : Int → lf_Z → Prop} {s : lf_Z} (h : fm_27 a1 Q s) : lf_M (px_ro L xs) (d + 2) 27 [.ref 0, .int (Int32.ofInt a1)] s (lf_qi Q) := by
  unfold fm_27 at h
  show lf_E (px_ro L xs) (d + 2) 27 0 [(0, .ref 0), (1, .int (Int32.ofInt a1))] [] s _
  refine lf_seg 4 (pc' := 6) (lv' := [(0, .ref 0), (1, .int (Int32.ofInt a1))]) (st' := [.ref 31, .int (Int32.ofInt 0), .int (Int32.ofInt a1)]) rfl ?_
  refine lf_getI 9 1 rfl rfl rfl rfl rfl rfl rfl ?_
  refine lf_callZ 12 rfl rfl rfl rfl (gm_15 h) (fun z22 s21 h => ?_)
  refine lf_ifz_ne 17 15 rfl rfl rfl (fun c => ?_) (fun c => ?_)
  · have h := h.1 c
    refine lf_seg 3 (pc' := 22) (lv' := [(0, .ref 0), (1, .int (Int32.ofInt a1))]) (st' := [.int (Int32.ofInt a1), .ref 31]) rfl ?_
    refine lf_putI 25 1 rfl rfl rfl rfl rfl rfl rfl rfl ?_
    refine lf_as (lf_up s21.1 31 1 a1, s21.2.1, s21.2.2) rfl ?_
    refine lf_seg 1 (pc' := 26) (lv' := [(0, .ref 0), (1, .int (Int32.ofInt a1))]) (st' := [.int (Int32.ofInt a1)]) rfl ?_
    exact lf_retI rfl rfl h
  · have h := h.2 c
    refine lf_seg 1 (pc' := 16) (lv' := [(0, .ref 0), (1, .int (Int32.ofInt a1))]) (st' := [.int (Int32.ofInt (-1))]) rfl ?_
    exact lf_retI rfl rfl h
-- fm_194 Model.end 95 i
def fm_194 (a1 : Int) (Q : Int → lf_Z → Prop) (s : lf_Z) : Prop := fm_183 a1 0 (s.1 95 4) (fun z22 s21 => ((z22 = true → (Q a1 (lf_up s21.1 95 4 a1, s21.2.1, s21.2.2))) ∧ (z22 = false → (Q (-1) s21)))) s
set_option maxRecDepth 100000 in
theorem gm_194 {L : Nat} {xs : Nat → Int32} {d : Nat} {a1 : Int} {Q : Int → lf_Z → Prop} {s : lf_Z} (h : fm_194 a1 Q s) : lf_M (px_ro L xs) (d + 2) 194 [.ref 95, .int (Int32.ofInt a1)] s (lf_qi Q) := by
  unfold fm_194 at h
  show lf_E (px_ro L xs) (d + 2) 194 0 [(0, .ref 95), (1, .int (Int32.ofInt a1))] [] s _
  refine lf_seg 3 (pc' := 3) (lv' := [(0, .ref 95), (1, .int (Int32.ofInt a1))]) (st' := [.ref 95, .int (Int32.ofInt 0), .int (Int32.ofInt a1)]) rfl ?_
  refine lf_getI 6 4 rfl rfl rfl rfl rfl rfl rfl ?_
  refine lf_callZ 9 rfl rfl rfl rfl (gm_183 h) (fun z22 s21 h => ?_)
  refine lf_ifz_ne 14 12 rfl rfl rfl (fun c => ?_) (fun c => ?_)
  · have h := h.1 c
    refine lf_seg 2 (pc' := 16) (lv' := [(0, .ref 95), (1, .int (Int32.ofInt a1))]) (st' := [.int (Int32.ofInt a1), .ref 95]) rfl ?_
    refine lf_putI 19 4 rfl rfl rfl rfl rfl rfl rfl rfl ?_
    refine lf_as (lf_up s21.1 95 4 a1, s21.2.1, s21.2.2) rfl ?_
    refine lf_seg 1 (pc' := 20) (lv' := [(0, .ref 95), (1, .int (Int32.ofInt a1))]) (st' := [.int (Int32.ofInt a1)]) rfl ?_
    exact lf_retI rfl rfl h
  · have h := h.2 c
    refine lf_seg 1 (pc' := 13) (lv' := [(0, .ref 95), (1, .int (Int32.ofInt a1))]) (st' := [.int (Int32.ofInt (-1))]) rfl ?_
    exact lf_retI rfl rfl h
-- fm_30 Script.clear t
def fm_30 (t0 : Nat) (Q : lf_Z → Prop) (s : lf_Z) : Prop := Q (lf_fl (lf_up (lf_up s.1 (35 + 7 * t0) 1 0) (35 + 7 * t0) 7 0) (37 + 7 * t0) 3 (-1), s.2.1, s.2.2)
set_option maxRecDepth 100000 in
theorem gm_30 {L : Nat} {xs : Nat → Int32} {d : Nat} {t0 : Nat} {Q : lf_Z → Prop} {s : lf_Z} (htt0 : t0 < 4) (h : fm_30 t0 Q s) : lf_M (px_ro L xs) (d + 2) 30 [.ref (35 + 7 * t0)] s (lf_qv Q) := by
  unfold fm_30 at h
  show lf_E (px_ro L xs) (d + 2) 30 0 [(0, .ref (35 + 7 * t0))] [] s _
  refine lf_seg 2 (pc' := 2) (lv' := [(0, .ref (35 + 7 * t0))]) (st' := [.int (Int32.ofInt 0), .ref (35 + 7 * t0)]) rfl ?_
  refine lf_putI 5 1 rfl rfl rfl (lf_scr htt0) (lf_scL htt0) rfl rfl rfl ?_
  refine lf_as (lf_up s.1 (35 + 7 * t0) 1 0, s.2.1, s.2.2) rfl ?_
  refine lf_seg 2 (pc' := 7) (lv' := [(0, .ref (35 + 7 * t0))]) (st' := [.int (Int32.ofInt 0), .ref (35 + 7 * t0)]) rfl ?_
  refine lf_putI 10 7 rfl rfl rfl (lf_scr htt0) (lf_scL htt0) rfl rfl rfl ?_
  refine lf_as (lf_up (lf_up s.1 (35 + 7 * t0) 1 0) (35 + 7 * t0) 7 0, s.2.1, s.2.2) rfl ?_
  refine lf_seg 1 (pc' := 11) (lv' := [(0, .ref (35 + 7 * t0))]) (st' := [.ref (35 + 7 * t0)]) rfl ?_
  refine lf_getR 14 (w := some (37 + 7 * t0)) rfl rfl rfl (lf_scr htt0) (lf_scL htt0) rfl (lf_sP2 htt0) ?_
  refine lf_seg 1 (pc' := 15) (lv' := [(0, .ref (35 + 7 * t0))]) (st' := [.int (Int32.ofInt (-1)), .ref (37 + 7 * t0)]) rfl ?_
  refine lf_callV (Q1 := fun s1 => s1 = (lf_fl (lf_up (lf_up s.1 (35 + 7 * t0) 1 0) (35 + 7 * t0) 7 0) (37 + 7 * t0) 3 (-1), s.2.1, s.2.2)) 18 rfl rfl rfl rfl (lf_fill (m := 3) (lf_sA2 htt0) (lf_sC2 htt0) (lf_sB2 htt0) rfl rfl rfl) (fun s1 hs1 => ?_)
  refine lf_as (lf_fl (lf_up (lf_up s.1 (35 + 7 * t0) 1 0) (35 + 7 * t0) 7 0) (37 + 7 * t0) 3 (-1), s.2.1, s.2.2) hs1 ?_
  exact lf_retV rfl rfl h
-- fm_32 Reader.isDigit i
def fm_32 (a0 : Int) (Q : Bool → lf_Z → Prop) (s : lf_Z) : Prop := lf_R a0 ∧ ((a0 < 48 → (Q false s)) ∧ (¬ (a0 < 48) → ((57 < a0 → (Q false s)) ∧ (¬ (57 < a0) → (Q true s)))))
set_option maxRecDepth 100000 in
theorem gm_32 {L : Nat} {xs : Nat → Int32} {d : Nat} {a0 : Int} {Q : Bool → lf_Z → Prop} {s : lf_Z} (h : fm_32 a0 Q s) : lf_M (px_ro L xs) (d + 1) 32 [.int (Int32.ofInt a0)] s (lf_qz Q) := by
  unfold fm_32 at h
  show lf_E (px_ro L xs) (d + 1) 32 0 [(0, .int (Int32.ofInt a0))] [] s _
  refine lf_seg 1 (pc' := 1) (lv' := [(0, .int (Int32.ofInt a0))]) (st' := [.int (Int32.ofInt a0)]) rfl ?_
  refine lf_bipush 3 48 rfl rfl (by decide) (by decide) ?_
  obtain ⟨o21, h⟩ := h
  refine lf_icmp_lt 16 6 rfl rfl rfl o21 ⟨by decide, by decide⟩ (fun c => ?_) (fun c => ?_)
  · have h := h.1 c
    refine lf_seg 1 (pc' := 17) (lv' := [(0, .int (Int32.ofInt a0))]) (st' := [.int (Int32.ofInt 0)]) rfl ?_
    exact lf_retZ false rfl rfl h
  · have h := h.2 c
    refine lf_seg 1 (pc' := 7) (lv' := [(0, .int (Int32.ofInt a0))]) (st' := [.int (Int32.ofInt a0)]) rfl ?_
    refine lf_bipush 9 57 rfl rfl (by decide) (by decide) ?_
    refine lf_icmp_gt 16 12 rfl rfl rfl o21 ⟨by decide, by decide⟩ (fun c => ?_) (fun c => ?_)
    · have h := h.1 c
      refine lf_seg 1 (pc' := 17) (lv' := [(0, .int (Int32.ofInt a0))]) (st' := [.int (Int32.ofInt 0)]) rfl ?_
      exact lf_retZ false rfl rfl h
    · have h := h.2 c
      refine lf_seg 2 (pc' := 17) (lv' := [(0, .int (Int32.ofInt a0))]) (st' := [.int (Int32.ofInt 1)]) rfl ?_
      exact lf_retZ true rfl rfl h
-- fm_34 Reader.isLetter i
def fm_34_p12 (Q : Bool → lf_Z → Prop) (x0 : Int) (s : lf_Z) : Prop := lf_R x0 ∧ ((x0 < 65 → (Q false s)) ∧ (¬ (x0 < 65) → ((90 < x0 → (Q false s)) ∧ (¬ (90 < x0) → (Q true s)))))
set_option maxRecDepth 100000 in
theorem gm_34_p12 {L : Nat} {xs : Nat → Int32} {d : Nat} {Q : Bool → lf_Z → Prop} {x0 : Int} {s : lf_Z} (h : fm_34_p12 Q x0 s) : lf_E (px_ro L xs) (d + 1) 34 12 [(0, .int (Int32.ofInt x0))] [] s (lf_qz Q) := by
  unfold fm_34_p12 at h
  refine lf_seg 1 (pc' := 13) (lv' := [(0, .int (Int32.ofInt x0))]) (st' := [.int (Int32.ofInt x0)]) rfl ?_
  refine lf_bipush 15 65 rfl rfl (by decide) (by decide) ?_
  obtain ⟨o22, h⟩ := h
  refine lf_icmp_lt 28 18 rfl rfl rfl o22 ⟨by decide, by decide⟩ (fun c => ?_) (fun c => ?_)
  · have h := h.1 c
    refine lf_seg 1 (pc' := 29) (lv' := [(0, .int (Int32.ofInt x0))]) (st' := [.int (Int32.ofInt 0)]) rfl ?_
    exact lf_retZ false rfl rfl h
  · have h := h.2 c
    refine lf_seg 1 (pc' := 19) (lv' := [(0, .int (Int32.ofInt x0))]) (st' := [.int (Int32.ofInt x0)]) rfl ?_
    refine lf_bipush 21 90 rfl rfl (by decide) (by decide) ?_
    refine lf_icmp_gt 28 24 rfl rfl rfl o22 ⟨by decide, by decide⟩ (fun c => ?_) (fun c => ?_)
    · have h := h.1 c
      refine lf_seg 1 (pc' := 29) (lv' := [(0, .int (Int32.ofInt x0))]) (st' := [.int (Int32.ofInt 0)]) rfl ?_
      exact lf_retZ false rfl rfl h
    · have h := h.2 c
      refine lf_seg 2 (pc' := 29) (lv' := [(0, .int (Int32.ofInt x0))]) (st' := [.int (Int32.ofInt 1)]) rfl ?_
      exact lf_retZ true rfl rfl h
def fm_34 (a0 : Int) (Q : Bool → lf_Z → Prop) (s : lf_Z) : Prop := lf_R a0 ∧ ((a0 < 97 → (fm_34_p12 Q a0 s)) ∧ (¬ (a0 < 97) → ((a0 ≤ 122 → (Q true s)) ∧ (¬ (a0 ≤ 122) → (fm_34_p12 Q a0 s)))))
set_option maxRecDepth 100000 in
theorem gm_34 {L : Nat} {xs : Nat → Int32} {d : Nat} {a0 : Int} {Q : Bool → lf_Z → Prop} {s : lf_Z} (h : fm_34 a0 Q s) : lf_M (px_ro L xs) (d + 1) 34 [.int (Int32.ofInt a0)] s (lf_qz Q) := by
  unfold fm_34 at h
  show lf_E (px_ro L xs) (d + 1) 34 0 [(0, .int (Int32.ofInt a0))] [] s _
  refine lf_seg 1 (pc' := 1) (lv' := [(0, .int (Int32.ofInt a0))]) (st' := [.int (Int32.ofInt a0)]) rfl ?_
  refine lf_bipush 3 97 rfl rfl (by decide) (by decide) ?_
  obtain ⟨o21, h⟩ := h
  refine lf_icmp_lt 12 6 rfl rfl rfl o21 ⟨by decide, by decide⟩ (fun c => ?_) (fun c => ?_)
  · have h := h.1 c
    refine lf_sub (l := [(0, .int (Int32.ofInt a0))]) (lf_sb1 rfl lf_sb0) ?_
    exact gm_34_p12 h
  · have h := h.2 c
    refine lf_seg 1 (pc' := 7) (lv' := [(0, .int (Int32.ofInt a0))]) (st' := [.int (Int32.ofInt a0)]) rfl ?_
    refine lf_bipush 9 122 rfl rfl (by decide) (by decide) ?_
    refine lf_icmp_le 24 12 rfl rfl rfl o21 ⟨by decide, by decide⟩ (fun c => ?_) (fun c => ?_)
    · have h := h.1 c
      refine lf_seg 2 (pc' := 29) (lv' := [(0, .int (Int32.ofInt a0))]) (st' := [.int (Int32.ofInt 1)]) rfl ?_
      exact lf_retZ true rfl rfl h
    · have h := h.2 c
      refine lf_sub (l := [(0, .int (Int32.ofInt a0))]) (lf_sb1 rfl lf_sb0) ?_
      exact gm_34_p12 h
-- fm_37 Reader.scanSign 31 i
def fm_37_p311 (Q : lf_Z → Prop) (s : lf_Z) : Prop := Q (lf_up s.1 31 8 1, s.2.1, s.2.2)
set_option maxRecDepth 100000 in
theorem gm_37_p311 {L : Nat} {xs : Nat → Int32} {d : Nat} {Q : lf_Z → Prop} {s : lf_Z} (h : fm_37_p311 Q s) : lf_E (px_ro L xs) (d + 1) 37 311 [(0, .ref 31)] [] s (lf_qv Q) := by
  unfold fm_37_p311 at h
  refine lf_seg 2 (pc' := 313) (lv' := [(0, .ref 31)]) (st' := [.int (Int32.ofInt 1), .ref 31]) rfl ?_
  refine lf_putI 316 8 rfl rfl rfl rfl rfl rfl rfl rfl ?_
  refine lf_as (lf_up s.1 31 8 1, s.2.1, s.2.2) rfl ?_
  exact lf_retV rfl rfl h
def fm_37_p206 (Q : lf_Z → Prop) (y1 : Int) (s : lf_Z) : Prop := Q (lf_up s.1 31 8 y1, s.2.1, s.2.2)
set_option maxRecDepth 100000 in
theorem gm_37_p206 {L : Nat} {xs : Nat → Int32} {d : Nat} {Q : lf_Z → Prop} {y1 : Int} {s : lf_Z} (h : fm_37_p206 Q y1 s) : lf_E (px_ro L xs) (d + 1) 37 206 [] [.int (Int32.ofInt y1), .ref 31] s (lf_qv Q) := by
  unfold fm_37_p206 at h
  refine lf_putI 209 8 rfl rfl rfl rfl rfl rfl rfl rfl ?_
  refine lf_as (lf_up s.1 31 8 y1, s.2.1, s.2.2) rfl ?_
  refine lf_seg 1 (pc' := 316) (lv' := []) (st' := []) rfl ?_
  exact lf_retV rfl rfl h
def fm_37_p224 (Q : lf_Z → Prop) (y1 : Int) (s : lf_Z) : Prop := Q (lf_up s.1 31 8 y1, s.2.1, s.2.2)
set_option maxRecDepth 100000 in
theorem gm_37_p224 {L : Nat} {xs : Nat → Int32} {d : Nat} {Q : lf_Z → Prop} {y1 : Int} {s : lf_Z} (h : fm_37_p224 Q y1 s) : lf_E (px_ro L xs) (d + 1) 37 224 [] [.int (Int32.ofInt y1), .ref 31] s (lf_qv Q) := by
  unfold fm_37_p224 at h
  refine lf_putI 227 8 rfl rfl rfl rfl rfl rfl rfl rfl ?_
  refine lf_as (lf_up s.1 31 8 y1, s.2.1, s.2.2) rfl ?_
  refine lf_seg 1 (pc' := 316) (lv' := []) (st' := []) rfl ?_
  exact lf_retV rfl rfl h
def fm_37_p67 (Q : lf_Z → Prop) (x1 : Int) (x2 : Int) (s : lf_Z) : Prop := lf_R x1 ∧ ((x1 < 35 ∨ 62 < x1 → (fm_37_p311 Q s)) ∧ (x1 = 35 → (Q (lf_up s.1 31 8 9, s.2.1, s.2.2))) ∧ (x1 = 36 → (fm_37_p311 Q s)) ∧ (x1 = 37 → (fm_37_p311 Q s)) ∧ (x1 = 38 → (fm_37_p311 Q s)) ∧ (x1 = 39 → (fm_37_p311 Q s)) ∧ (x1 = 40 → (Q (lf_up s.1 31 8 14, s.2.1, s.2.2))) ∧ (x1 = 41 → (Q (lf_up s.1 31 8 15, s.2.1, s.2.2))) ∧ (x1 = 42 → (Q (lf_up s.1 31 8 12, s.2.1, s.2.2))) ∧ (x1 = 43 → (Q (lf_up s.1 31 8 10, s.2.1, s.2.2))) ∧ (x1 = 44 → (fm_37_p311 Q s)) ∧ (x1 = 45 → (Q (lf_up s.1 31 8 11, s.2.1, s.2.2))) ∧ (x1 = 46 → (fm_37_p311 Q s)) ∧ (x1 = 47 → (Q (lf_up s.1 31 8 13, s.2.1, s.2.2))) ∧ (x1 = 48 → (fm_37_p311 Q s)) ∧ (x1 = 49 → (fm_37_p311 Q s)) ∧ (x1 = 50 → (fm_37_p311 Q s)) ∧ (x1 = 51 → (fm_37_p311 Q s)) ∧ (x1 = 52 → (fm_37_p311 Q s)) ∧ (x1 = 53 → (fm_37_p311 Q s)) ∧ (x1 = 54 → (fm_37_p311 Q s)) ∧ (x1 = 55 → (fm_37_p311 Q s)) ∧ (x1 = 56 → (fm_37_p311 Q s)) ∧ (x1 = 57 → (fm_37_p311 Q s)) ∧ (x1 = 58 → (fm_37_p311 Q s)) ∧ (x1 = 59 → (Q (lf_up s.1 31 8 16, s.2.1, s.2.2))) ∧ (x1 = 60 → (lf_R x2 ∧ ((x2 = 0 → (fm_37_p206 Q 4 s)) ∧ (¬ (x2 = 0) → (fm_37_p206 Q 5 s))))) ∧ (x1 = 61 → (Q (lf_up s.1 31 8 8, s.2.1, s.2.2))) ∧ (x1 = 62 → (lf_R x2 ∧ ((x2 = 0 → (fm_37_p224 Q 6 s)) ∧ (¬ (x2 = 0) → (fm_37_p224 Q 7 s))))))
set_option maxRecDepth 100000 in
theorem gm_37_p67 {L : Nat} {xs : Nat → Int32} {d : Nat} {Q : lf_Z → Prop} {x1 : Int} {x2 : Int} {s : lf_Z} (h : fm_37_p67 Q x1 x2 s) : lf_E (px_ro L xs) (d + 1) 37 67 [(0, .ref 31), (1, .int (Int32.ofInt x1)), (2, .int (Int32.ofInt x2))] [] s (lf_qv Q) := by
  unfold fm_37_p67 at h
  refine lf_seg 1 (pc' := 68) (lv' := [(0, .ref 31), (1, .int (Int32.ofInt x1)), (2, .int (Int32.ofInt x2))]) (st' := [.int (Int32.ofInt x1)]) rfl ?_
  obtain ⟨o24, h⟩ := h
  refine lf_tsw 311 [(35, 239), (36, 311), (37, 311), (38, 311), (39, 311), (40, 284), (41, 293), (42, 266), (43, 248), (44, 311), (45, 257), (46, 311), (47, 275), (48, 311), (49, 311), (50, 311), (51, 311), (52, 311), (53, 311), (54, 311), (55, 311), (56, 311), (57, 311), (58, 311), (59, 302), (60, 196), (61, 230), (62, 212)] rfl rfl rfl (by decide) o24 (fun c => ?_) (lf_tab1 (fun c => ?_) (lf_tab1 (fun c => ?_) (lf_tab1 (fun c => ?_) (lf_tab1 (fun c => ?_) (lf_tab1 (fun c => ?_) (lf_tab1 (fun c => ?_) (lf_tab1 (fun c => ?_) (lf_tab1 (fun c => ?_) (lf_tab1 (fun c => ?_) (lf_tab1 (fun c => ?_) (lf_tab1 (fun c => ?_) (lf_tab1 (fun c => ?_) (lf_tab1 (fun c => ?_) (lf_tab1 (fun c => ?_) (lf_tab1 (fun c => ?_) (lf_tab1 (fun c => ?_) (lf_tab1 (fun c => ?_) (lf_tab1 (fun c => ?_) (lf_tab1 (fun c => ?_) (lf_tab1 (fun c => ?_) (lf_tab1 (fun c => ?_) (lf_tab1 (fun c => ?_) (lf_tab1 (fun c => ?_) (lf_tab1 (fun c => ?_) (lf_tab1 (fun c => ?_) (lf_tab1 (fun c => ?_) (lf_tab1 (fun c => ?_) (lf_tab1 (fun c => ?_) lf_tab0))))))))))))))))))))))))))))
  · have h := h.1 c
    refine lf_sub (l := [(0, .ref 31)]) (lf_sb1 rfl lf_sb0) ?_
    exact gm_37_p311 h
  · have h := h.2.1 c
    refine lf_seg 1 (pc' := 240) (lv' := [(0, .ref 31), (1, .int (Int32.ofInt x1)), (2, .int (Int32.ofInt x2))]) (st' := [.ref 31]) rfl ?_
    refine lf_bipush 242 9 rfl rfl (by decide) (by decide) ?_
    refine lf_putI 245 8 rfl rfl rfl rfl rfl rfl rfl rfl ?_
    refine lf_as (lf_up s.1 31 8 9, s.2.1, s.2.2) rfl ?_
    refine lf_seg 1 (pc' := 316) (lv' := [(0, .ref 31), (1, .int (Int32.ofInt x1)), (2, .int (Int32.ofInt x2))]) (st' := []) rfl ?_
    exact lf_retV rfl rfl h
  · have h := h.2.2.1 c
    refine lf_sub (l := [(0, .ref 31)]) (lf_sb1 rfl lf_sb0) ?_
    exact gm_37_p311 h
  · have h := h.2.2.2.1 c
    refine lf_sub (l := [(0, .ref 31)]) (lf_sb1 rfl lf_sb0) ?_
    exact gm_37_p311 h
  · have h := h.2.2.2.2.1 c
    refine lf_sub (l := [(0, .ref 31)]) (lf_sb1 rfl lf_sb0) ?_
    exact gm_37_p311 h
  · have h := h.2.2.2.2.2.1 c
    refine lf_sub (l := [(0, .ref 31)]) (lf_sb1 rfl lf_sb0) ?_
    exact gm_37_p311 h
  · have h := h.2.2.2.2.2.2.1 c
    refine lf_seg 1 (pc' := 285) (lv' := [(0, .ref 31), (1, .int (Int32.ofInt x1)), (2, .int (Int32.ofInt x2))]) (st' := [.ref 31]) rfl ?_
    refine lf_bipush 287 14 rfl rfl (by decide) (by decide) ?_
    refine lf_putI 290 8 rfl rfl rfl rfl rfl rfl rfl rfl ?_
    refine lf_as (lf_up s.1 31 8 14, s.2.1, s.2.2) rfl ?_
    refine lf_seg 1 (pc' := 316) (lv' := [(0, .ref 31), (1, .int (Int32.ofInt x1)), (2, .int (Int32.ofInt x2))]) (st' := []) rfl ?_
    exact lf_retV rfl rfl h
  · have h := h.2.2.2.2.2.2.2.1 c
    refine lf_seg 1 (pc' := 294) (lv' := [(0, .ref 31), (1, .int (Int32.ofInt x1)), (2, .int (Int32.ofInt x2))]) (st' := [.ref 31]) rfl ?_
    refine lf_bipush 296 15 rfl rfl (by decide) (by decide) ?_
    refine lf_putI 299 8 rfl rfl rfl rfl rfl rfl rfl rfl ?_
    refine lf_as (lf_up s.1 31 8 15, s.2.1, s.2.2) rfl ?_
    refine lf_seg 1 (pc' := 316) (lv' := [(0, .ref 31), (1, .int (Int32.ofInt x1)), (2, .int (Int32.ofInt x2))]) (st' := []) rfl ?_
    exact lf_retV rfl rfl h
  · have h := h.2.2.2.2.2.2.2.2.1 c
    refine lf_seg 1 (pc' := 267) (lv' := [(0, .ref 31), (1, .int (Int32.ofInt x1)), (2, .int (Int32.ofInt x2))]) (st' := [.ref 31]) rfl ?_
    refine lf_bipush 269 12 rfl rfl (by decide) (by decide) ?_
    refine lf_putI 272 8 rfl rfl rfl rfl rfl rfl rfl rfl ?_
    refine lf_as (lf_up s.1 31 8 12, s.2.1, s.2.2) rfl ?_
    refine lf_seg 1 (pc' := 316) (lv' := [(0, .ref 31), (1, .int (Int32.ofInt x1)), (2, .int (Int32.ofInt x2))]) (st' := []) rfl ?_
    exact lf_retV rfl rfl h
  · have h := h.2.2.2.2.2.2.2.2.2.1 c
    refine lf_seg 1 (pc' := 249) (lv' := [(0, .ref 31), (1, .int (Int32.ofInt x1)), (2, .int (Int32.ofInt x2))]) (st' := [.ref 31]) rfl ?_
    refine lf_bipush 251 10 rfl rfl (by decide) (by decide) ?_
    refine lf_putI 254 8 rfl rfl rfl rfl rfl rfl rfl rfl ?_
    refine lf_as (lf_up s.1 31 8 10, s.2.1, s.2.2) rfl ?_
    refine lf_seg 1 (pc' := 316) (lv' := [(0, .ref 31), (1, .int (Int32.ofInt x1)), (2, .int (Int32.ofInt x2))]) (st' := []) rfl ?_
    exact lf_retV rfl rfl h
  · have h := h.2.2.2.2.2.2.2.2.2.2.1 c
    refine lf_sub (l := [(0, .ref 31)]) (lf_sb1 rfl lf_sb0) ?_
    exact gm_37_p311 h
  · have h := h.2.2.2.2.2.2.2.2.2.2.2.1 c
    refine lf_seg 1 (pc' := 258) (lv' := [(0, .ref 31), (1, .int (Int32.ofInt x1)), (2, .int (Int32.ofInt x2))]) (st' := [.ref 31]) rfl ?_
    refine lf_bipush 260 11 rfl rfl (by decide) (by decide) ?_
    refine lf_putI 263 8 rfl rfl rfl rfl rfl rfl rfl rfl ?_
    refine lf_as (lf_up s.1 31 8 11, s.2.1, s.2.2) rfl ?_
    refine lf_seg 1 (pc' := 316) (lv' := [(0, .ref 31), (1, .int (Int32.ofInt x1)), (2, .int (Int32.ofInt x2))]) (st' := []) rfl ?_
    exact lf_retV rfl rfl h
  · have h := h.2.2.2.2.2.2.2.2.2.2.2.2.1 c
    refine lf_sub (l := [(0, .ref 31)]) (lf_sb1 rfl lf_sb0) ?_
    exact gm_37_p311 h
  · have h := h.2.2.2.2.2.2.2.2.2.2.2.2.2.1 c
    refine lf_seg 1 (pc' := 276) (lv' := [(0, .ref 31), (1, .int (Int32.ofInt x1)), (2, .int (Int32.ofInt x2))]) (st' := [.ref 31]) rfl ?_
    refine lf_bipush 278 13 rfl rfl (by decide) (by decide) ?_
    refine lf_putI 281 8 rfl rfl rfl rfl rfl rfl rfl rfl ?_
    refine lf_as (lf_up s.1 31 8 13, s.2.1, s.2.2) rfl ?_
    refine lf_seg 1 (pc' := 316) (lv' := [(0, .ref 31), (1, .int (Int32.ofInt x1)), (2, .int (Int32.ofInt x2))]) (st' := []) rfl ?_
    exact lf_retV rfl rfl h
  · have h := h.2.2.2.2.2.2.2.2.2.2.2.2.2.2.1 c
    refine lf_sub (l := [(0, .ref 31)]) (lf_sb1 rfl lf_sb0) ?_
    exact gm_37_p311 h
  · have h := h.2.2.2.2.2.2.2.2.2.2.2.2.2.2.2.1 c
    refine lf_sub (l := [(0, .ref 31)]) (lf_sb1 rfl lf_sb0) ?_
    exact gm_37_p311 h
  · have h := h.2.2.2.2.2.2.2.2.2.2.2.2.2.2.2.2.1 c
    refine lf_sub (l := [(0, .ref 31)]) (lf_sb1 rfl lf_sb0) ?_
    exact gm_37_p311 h
  · have h := h.2.2.2.2.2.2.2.2.2.2.2.2.2.2.2.2.2.1 c
    refine lf_sub (l := [(0, .ref 31)]) (lf_sb1 rfl lf_sb0) ?_
    exact gm_37_p311 h
  · have h := h.2.2.2.2.2.2.2.2.2.2.2.2.2.2.2.2.2.2.1 c
    refine lf_sub (l := [(0, .ref 31)]) (lf_sb1 rfl lf_sb0) ?_
    exact gm_37_p311 h
  · have h := h.2.2.2.2.2.2.2.2.2.2.2.2.2.2.2.2.2.2.2.1 c
    refine lf_sub (l := [(0, .ref 31)]) (lf_sb1 rfl lf_sb0) ?_
    exact gm_37_p311 h
  · have h := h.2.2.2.2.2.2.2.2.2.2.2.2.2.2.2.2.2.2.2.2.1 c
    refine lf_sub (l := [(0, .ref 31)]) (lf_sb1 rfl lf_sb0) ?_
    exact gm_37_p311 h
  · have h := h.2.2.2.2.2.2.2.2.2.2.2.2.2.2.2.2.2.2.2.2.2.1 c
    refine lf_sub (l := [(0, .ref 31)]) (lf_sb1 rfl lf_sb0) ?_
    exact gm_37_p311 h
  · have h := h.2.2.2.2.2.2.2.2.2.2.2.2.2.2.2.2.2.2.2.2.2.2.1 c
    refine lf_sub (l := [(0, .ref 31)]) (lf_sb1 rfl lf_sb0) ?_
    exact gm_37_p311 h
  · have h := h.2.2.2.2.2.2.2.2.2.2.2.2.2.2.2.2.2.2.2.2.2.2.2.1 c
    refine lf_sub (l := [(0, .ref 31)]) (lf_sb1 rfl lf_sb0) ?_
    exact gm_37_p311 h
  · have h := h.2.2.2.2.2.2.2.2.2.2.2.2.2.2.2.2.2.2.2.2.2.2.2.2.1 c
    refine lf_sub (l := [(0, .ref 31)]) (lf_sb1 rfl lf_sb0) ?_
    exact gm_37_p311 h
  · have h := h.2.2.2.2.2.2.2.2.2.2.2.2.2.2.2.2.2.2.2.2.2.2.2.2.2.1 c
    refine lf_seg 1 (pc' := 303) (lv' := [(0, .ref 31), (1, .int (Int32.ofInt x1)), (2, .int (Int32.ofInt x2))]) (st' := [.ref 31]) rfl ?_
    refine lf_bipush 305 16 rfl rfl (by decide) (by decide) ?_
    refine lf_putI 308 8 rfl rfl rfl rfl rfl rfl rfl rfl ?_
    refine lf_as (lf_up s.1 31 8 16, s.2.1, s.2.2) rfl ?_
    refine lf_seg 1 (pc' := 316) (lv' := [(0, .ref 31), (1, .int (Int32.ofInt x1)), (2, .int (Int32.ofInt x2))]) (st' := []) rfl ?_
    exact lf_retV rfl rfl h
  · have h := h.2.2.2.2.2.2.2.2.2.2.2.2.2.2.2.2.2.2.2.2.2.2.2.2.2.2.1 c
    refine lf_seg 2 (pc' := 198) (lv' := [(0, .ref 31), (1, .int (Int32.ofInt x1)), (2, .int (Int32.ofInt x2))]) (st' := [.int (Int32.ofInt x2), .ref 31]) rfl ?_
    obtain ⟨o25, h⟩ := h
    refine lf_if_eq 205 201 rfl rfl rfl o25 (fun c => ?_) (fun c => ?_)
    · have h := h.1 c
      refine lf_seg 1 (pc' := 206) (lv' := [(0, .ref 31), (1, .int (Int32.ofInt x1)), (2, .int (Int32.ofInt x2))]) (st' := [.int (Int32.ofInt 4), .ref 31]) rfl ?_
      refine lf_sub (l := []) lf_sb0 ?_
      exact gm_37_p206 h
    · have h := h.2 c
      refine lf_seg 2 (pc' := 206) (lv' := [(0, .ref 31), (1, .int (Int32.ofInt x1)), (2, .int (Int32.ofInt x2))]) (st' := [.int (Int32.ofInt 5), .ref 31]) rfl ?_
      refine lf_sub (l := []) lf_sb0 ?_
      exact gm_37_p206 h
  · have h := h.2.2.2.2.2.2.2.2.2.2.2.2.2.2.2.2.2.2.2.2.2.2.2.2.2.2.2.1 c
    refine lf_seg 1 (pc' := 231) (lv' := [(0, .ref 31), (1, .int (Int32.ofInt x1)), (2, .int (Int32.ofInt x2))]) (st' := [.ref 31]) rfl ?_
    refine lf_bipush 233 8 rfl rfl (by decide) (by decide) ?_
    refine lf_putI 236 8 rfl rfl rfl rfl rfl rfl rfl rfl ?_
    refine lf_as (lf_up s.1 31 8 8, s.2.1, s.2.2) rfl ?_
    refine lf_seg 1 (pc' := 316) (lv' := [(0, .ref 31), (1, .int (Int32.ofInt x1)), (2, .int (Int32.ofInt x2))]) (st' := []) rfl ?_
    exact lf_retV rfl rfl h
  · have h := h.2.2.2.2.2.2.2.2.2.2.2.2.2.2.2.2.2.2.2.2.2.2.2.2.2.2.2.2 c
    refine lf_seg 2 (pc' := 214) (lv' := [(0, .ref 31), (1, .int (Int32.ofInt x1)), (2, .int (Int32.ofInt x2))]) (st' := [.int (Int32.ofInt x2), .ref 31]) rfl ?_
    obtain ⟨o26, h⟩ := h
    refine lf_if_eq 222 217 rfl rfl rfl o26 (fun c => ?_) (fun c => ?_)
    · have h := h.1 c
      refine lf_bipush 224 6 rfl rfl (by decide) (by decide) ?_
      refine lf_sub (l := []) lf_sb0 ?_
      exact gm_37_p224 h
    · have h := h.2 c
      refine lf_bipush 219 7 rfl rfl (by decide) (by decide) ?_
      refine lf_seg 1 (pc' := 224) (lv' := [(0, .ref 31), (1, .int (Int32.ofInt x1)), (2, .int (Int32.ofInt x2))]) (st' := [.int (Int32.ofInt 7), .ref 31]) rfl ?_
      refine lf_sub (l := []) lf_sb0 ?_
      exact gm_37_p224 h
def fm_37_p52 (Q : lf_Z → Prop) (x1 : Int) (y0 : Int) (s : lf_Z) : Prop := lf_R y0 ∧ ((y0 = 0 → (fm_37_p67 Q x1 y0 s)) ∧ (¬ (y0 = 0) → (fm_37_p67 Q x1 y0 (lf_up s.1 31 7 ((s.1 31 7) + 1), s.2.1, s.2.2))))
set_option maxRecDepth 100000 in
theorem gm_37_p52 {L : Nat} {xs : Nat → Int32} {d : Nat} {Q : lf_Z → Prop} {x1 : Int} {y0 : Int} {s : lf_Z} (h : fm_37_p52 Q x1 y0 s) : lf_E (px_ro L xs) (d + 1) 37 52 [(0, .ref 31), (1, .int (Int32.ofInt x1))] [.int (Int32.ofInt y0)] s (lf_qv Q) := by
  unfold fm_37_p52 at h
  refine lf_seg 2 (pc' := 54) (lv' := [(2, .int (Int32.ofInt y0)), (0, .ref 31), (1, .int (Int32.ofInt x1))]) (st' := [.int (Int32.ofInt y0)]) rfl ?_
  obtain ⟨o23, h⟩ := h
  refine lf_if_eq 67 57 rfl rfl rfl o23 (fun c => ?_) (fun c => ?_)
  · have h := h.1 c
    refine lf_sub (l := [(0, .ref 31), (1, .int (Int32.ofInt x1)), (2, .int (Int32.ofInt y0))]) (lf_sb1 rfl (lf_sb1 rfl (lf_sb1 rfl lf_sb0))) ?_
    exact gm_37_p67 h
  · have h := h.2 c
    refine lf_seg 2 (pc' := 59) (lv' := [(2, .int (Int32.ofInt y0)), (0, .ref 31), (1, .int (Int32.ofInt x1))]) (st' := [.ref 31, .ref 31]) rfl ?_
    refine lf_getI 62 7 rfl rfl rfl rfl rfl rfl rfl ?_
    refine lf_seg 1 (pc' := 63) (lv' := [(2, .int (Int32.ofInt y0)), (0, .ref 31), (1, .int (Int32.ofInt x1))]) (st' := [.int (Int32.ofInt 1), .int (Int32.ofInt (s.1 31 7)), .ref 31]) rfl ?_
    refine lf_iadd 64 rfl rfl ?_
    refine lf_putI 67 7 rfl rfl rfl rfl rfl rfl rfl rfl ?_
    refine lf_as (lf_up s.1 31 7 ((s.1 31 7) + 1), s.2.1, s.2.2) rfl ?_
    refine lf_sub (l := [(0, .ref 31), (1, .int (Int32.ofInt x1)), (2, .int (Int32.ofInt y0))]) (lf_sb1 rfl (lf_sb1 rfl (lf_sb1 rfl lf_sb0))) ?_
    exact gm_37_p67 h
def fm_37_p51 (Q : lf_Z → Prop) (x1 : Int) (s : lf_Z) : Prop := fm_37_p52 Q x1 0 s
set_option maxRecDepth 100000 in
theorem gm_37_p51 {L : Nat} {xs : Nat → Int32} {d : Nat} {Q : lf_Z → Prop} {x1 : Int} {s : lf_Z} (h : fm_37_p51 Q x1 s) : lf_E (px_ro L xs) (d + 1) 37 51 [(0, .ref 31), (1, .int (Int32.ofInt x1))] [] s (lf_qv Q) := by
  unfold fm_37_p51 at h
  refine lf_seg 1 (pc' := 52) (lv' := [(0, .ref 31), (1, .int (Int32.ofInt x1))]) (st' := [.int (Int32.ofInt 0)]) rfl ?_
  refine lf_sub (l := [(0, .ref 31), (1, .int (Int32.ofInt x1))]) (lf_sb1 rfl (lf_sb1 rfl lf_sb0)) ?_
  exact gm_37_p52 h
def fm_37_p47 (Q : lf_Z → Prop) (x1 : Int) (s : lf_Z) : Prop := fm_37_p52 Q x1 1 s
set_option maxRecDepth 100000 in
theorem gm_37_p47 {L : Nat} {xs : Nat → Int32} {d : Nat} {Q : lf_Z → Prop} {x1 : Int} {s : lf_Z} (h : fm_37_p47 Q x1 s) : lf_E (px_ro L xs) (d + 1) 37 47 [(0, .ref 31), (1, .int (Int32.ofInt x1))] [] s (lf_qv Q) := by
  unfold fm_37_p47 at h
  refine lf_seg 2 (pc' := 52) (lv' := [(0, .ref 31), (1, .int (Int32.ofInt x1))]) (st' := [.int (Int32.ofInt 1)]) rfl ?_
  refine lf_sub (l := [(0, .ref 31), (1, .int (Int32.ofInt x1))]) (lf_sb1 rfl (lf_sb1 rfl lf_sb0)) ?_
  exact gm_37_p52 h
def fm_37 (a1 : Int) (Q : lf_Z → Prop) (s : lf_Z) : Prop := lf_R ((s.1 31 7) + 1) ∧ (lf_R (s.1 31 1) ∧ ((s.1 31 1 ≤ (s.1 31 7) + 1 → (fm_37_p51 Q a1 (lf_up s.1 31 7 ((s.1 31 7) + 1), s.2.1, s.2.2))) ∧ (¬ (s.1 31 1 ≤ (s.1 31 7) + 1) → ((0 ≤ (s.1 31 7) + 1 ∧ (s.1 31 7) + 1 < 300) ∧ (lf_R (s.1 32 ((s.1 31 7) + 1)) ∧ ((s.1 32 ((s.1 31 7) + 1) ≠ 61 → (fm_37_p51 Q a1 (lf_up s.1 31 7 ((s.1 31 7) + 1), s.2.1, s.2.2))) ∧ (¬ (s.1 32 ((s.1 31 7) + 1) ≠ 61) → (lf_R a1 ∧ ((a1 = 60 → (fm_37_p47 Q a1 (lf_up s.1 31 7 ((s.1 31 7) + 1), s.2.1, s.2.2))) ∧ (¬ (a1 = 60) → ((a1 ≠ 62 → (fm_37_p51 Q a1 (lf_up s.1 31 7 ((s.1 31 7) + 1), s.2.1, s.2.2))) ∧ (¬ (a1 ≠ 62) → (fm_37_p47 Q a1 (lf_up s.1 31 7 ((s.1 31 7) + 1), s.2.1, s.2.2))))))))))))))
set_option maxRecDepth 100000 in
theorem gm_37 {L : Nat} {xs : Nat → Int32} {d : Nat} {a1 : Int} {Q : lf_Z → Prop} {s : lf_Z} (h : fm_37 a1 Q s) : lf_M (px_ro L xs) (d + 1) 37 [.ref 31, .int (Int32.ofInt a1)] s (lf_qv Q) := by
  unfold fm_37 at h
  show lf_E (px_ro L xs) (d + 1) 37 0 [(0, .ref 31), (1, .int (Int32.ofInt a1))] [] s _
  refine lf_seg 2 (pc' := 2) (lv' := [(0, .ref 31), (1, .int (Int32.ofInt a1))]) (st' := [.ref 31, .ref 31]) rfl ?_
  refine lf_getI 5 7 rfl rfl rfl rfl rfl rfl rfl ?_
  refine lf_seg 1 (pc' := 6) (lv' := [(0, .ref 31), (1, .int (Int32.ofInt a1))]) (st' := [.int (Int32.ofInt 1), .int (Int32.ofInt (s.1 31 7)), .ref 31]) rfl ?_
  refine lf_iadd 7 rfl rfl ?_
  refine lf_putI 10 7 rfl rfl rfl rfl rfl rfl rfl rfl ?_
  refine lf_as (lf_up s.1 31 7 ((s.1 31 7) + 1), s.2.1, s.2.2) rfl ?_
  refine lf_seg 1 (pc' := 11) (lv' := [(0, .ref 31), (1, .int (Int32.ofInt a1))]) (st' := [.ref 31]) rfl ?_
  refine lf_getI 14 7 rfl rfl rfl rfl rfl rfl rfl ?_
  refine lf_seg 1 (pc' := 15) (lv' := [(0, .ref 31), (1, .int (Int32.ofInt a1))]) (st' := [.ref 31, .int (Int32.ofInt ((s.1 31 7) + 1))]) rfl ?_
  refine lf_getI 18 1 rfl rfl rfl rfl rfl rfl rfl ?_
  refine lf_seg 0 (pc' := 18) (lv' := [(0, .ref 31), (1, .int (Int32.ofInt a1))]) (st' := [.int (Int32.ofInt (s.1 31 1)), .int (Int32.ofInt ((s.1 31 7) + 1))]) rfl ?_
  obtain ⟨o21, h⟩ := h
  obtain ⟨o22, h⟩ := h
  refine lf_icmp_ge 51 21 rfl rfl rfl o21 o22 (fun c => ?_) (fun c => ?_)
  · have h := h.1 c
    refine lf_sub (l := [(0, .ref 31), (1, .int (Int32.ofInt a1))]) (lf_sb1 rfl (lf_sb1 rfl lf_sb0)) ?_
    exact gm_37_p51 h
  · have h := h.2 c
    refine lf_seg 3 (pc' := 26) (lv' := [(0, .ref 31), (1, .int (Int32.ofInt a1))]) (st' := [.ref 31, .ref 32]) rfl ?_
    refine lf_getI 29 7 rfl rfl rfl rfl rfl rfl rfl ?_
    refine lf_seg 0 (pc' := 29) (lv' := [(0, .ref 31), (1, .int (Int32.ofInt a1))]) (st' := [.int (Int32.ofInt ((s.1 31 7) + 1)), .ref 32]) rfl ?_
    obtain ⟨o27, h⟩ := h
    refine lf_iald 30 300 rfl rfl rfl rfl rfl rfl o27 ?_
    refine lf_seg 0 (pc' := 30) (lv' := [(0, .ref 31), (1, .int (Int32.ofInt a1))]) (st' := [.int (Int32.ofInt (s.1 32 ((s.1 31 7) + 1)))]) rfl ?_
    refine lf_bipush 32 61 rfl rfl (by decide) (by decide) ?_
    obtain ⟨o28, h⟩ := h
    refine lf_icmp_ne 51 35 rfl rfl rfl o28 ⟨by decide, by decide⟩ (fun c => ?_) (fun c => ?_)
    · have h := h.1 c
      refine lf_sub (l := [(0, .ref 31), (1, .int (Int32.ofInt a1))]) (lf_sb1 rfl (lf_sb1 rfl lf_sb0)) ?_
      exact gm_37_p51 h
    · have h := h.2 c
      refine lf_seg 1 (pc' := 36) (lv' := [(0, .ref 31), (1, .int (Int32.ofInt a1))]) (st' := [.int (Int32.ofInt a1)]) rfl ?_
      refine lf_bipush 38 60 rfl rfl (by decide) (by decide) ?_
      obtain ⟨o29, h⟩ := h
      refine lf_icmp_eq 47 41 rfl rfl rfl o29 ⟨by decide, by decide⟩ (fun c => ?_) (fun c => ?_)
      · have h := h.1 c
        refine lf_sub (l := [(0, .ref 31), (1, .int (Int32.ofInt a1))]) (lf_sb1 rfl (lf_sb1 rfl lf_sb0)) ?_
        exact gm_37_p47 h
      · have h := h.2 c
        refine lf_seg 1 (pc' := 42) (lv' := [(0, .ref 31), (1, .int (Int32.ofInt a1))]) (st' := [.int (Int32.ofInt a1)]) rfl ?_
        refine lf_bipush 44 62 rfl rfl (by decide) (by decide) ?_
        refine lf_icmp_ne 51 47 rfl rfl rfl o29 ⟨by decide, by decide⟩ (fun c => ?_) (fun c => ?_)
        · have h := h.1 c
          refine lf_sub (l := [(0, .ref 31), (1, .int (Int32.ofInt a1))]) (lf_sb1 rfl (lf_sb1 rfl lf_sb0)) ?_
          exact gm_37_p51 h
        · have h := h.2 c
          refine lf_sub (l := [(0, .ref 31), (1, .int (Int32.ofInt a1))]) (lf_sb1 rfl (lf_sb1 rfl lf_sb0)) ?_
          exact gm_37_p47 h
-- fm_36 Reader.wordOf 31
def fm_36_p98 (X13 : Int → Int → Int → Int → lf_Z → Prop) (Q : Int → lf_Z → Prop) (x1 : Int) (x2 : Int) (x3 : Int) (x4 : Int) (s : lf_Z) : Prop := X13 x1 x2 x3 (x4 + 1) s
set_option maxRecDepth 100000 in
theorem gm_36_p98 {L : Nat} {xs : Nat → Int32} {d : Nat} {X13 : Int → Int → Int → Int → lf_Z → Prop} {Q : Int → lf_Z → Prop} {x1 : Int} {x2 : Int} {x3 : Int} {x4 : Int} {s : lf_Z} (hX13 : ∀ x1 x2 x3 x4 s, X13 x1 x2 x3 x4 s → lf_E (px_ro L xs) (d + 1) 36 13 [(0, .ref 31), (1, .int (Int32.ofInt x1)), (2, .int (Int32.ofInt x2)), (3, .int (Int32.ofInt x3)), (4, .int (Int32.ofInt x4))] [] s (lf_qi Q)) (h : fm_36_p98 X13 Q x1 x2 x3 x4 s) : lf_E (px_ro L xs) (d + 1) 36 98 [(0, .ref 31), (1, .int (Int32.ofInt x1)), (2, .int (Int32.ofInt x2)), (3, .int (Int32.ofInt x3)), (4, .int (Int32.ofInt x4))] [] s (lf_qi Q) := by
  unfold fm_36_p98 at h
  refine lf_iinc 101 rfl rfl rfl rfl ?_
  refine lf_seg 1 (pc' := 13) (lv' := [(4, .int (Int32.ofInt (x4 + 1))), (0, .ref 31), (1, .int (Int32.ofInt x1)), (2, .int (Int32.ofInt x2)), (3, .int (Int32.ofInt x3))]) (st' := []) rfl ?_
  refine lf_sub (l := [(0, .ref 31), (1, .int (Int32.ofInt x1)), (2, .int (Int32.ofInt x2)), (3, .int (Int32.ofInt x3)), (4, .int (Int32.ofInt (x4 + 1)))]) (lf_sb1 rfl (lf_sb1 rfl (lf_sb1 rfl (lf_sb1 rfl (lf_sb1 rfl lf_sb0))))) ?_
  exact hX13 _ _ _ _ _ h
def fm_36_p88 (X13 : Int → Int → Int → Int → lf_Z → Prop) (Q : Int → lf_Z → Prop) (x1 : Int) (x4 : Int) (s : lf_Z) : Prop := fm_36_p98 X13 Q (x1 + 1) (s.1 31 9) 1 x4 s
set_option maxRecDepth 100000 in
theorem gm_36_p88 {L : Nat} {xs : Nat → Int32} {d : Nat} {X13 : Int → Int → Int → Int → lf_Z → Prop} {Q : Int → lf_Z → Prop} {x1 : Int} {x4 : Int} {s : lf_Z} (hX13 : ∀ x1 x2 x3 x4 s, X13 x1 x2 x3 x4 s → lf_E (px_ro L xs) (d + 1) 36 13 [(0, .ref 31), (1, .int (Int32.ofInt x1)), (2, .int (Int32.ofInt x2)), (3, .int (Int32.ofInt x3)), (4, .int (Int32.ofInt x4))] [] s (lf_qi Q)) (h : fm_36_p88 X13 Q x1 x4 s) : lf_E (px_ro L xs) (d + 1) 36 88 [(0, .ref 31), (1, .int (Int32.ofInt x1)), (4, .int (Int32.ofInt x4))] [] s (lf_qi Q) := by
  unfold fm_36_p88 at h
  refine lf_iinc 91 rfl rfl rfl rfl ?_
  refine lf_seg 1 (pc' := 92) (lv' := [(1, .int (Int32.ofInt (x1 + 1))), (0, .ref 31), (4, .int (Int32.ofInt x4))]) (st' := [.ref 31]) rfl ?_
  refine lf_getI 95 9 rfl rfl rfl rfl rfl rfl rfl ?_
  refine lf_seg 3 (pc' := 98) (lv' := [(3, .int (Int32.ofInt 1)), (2, .int (Int32.ofInt (s.1 31 9))), (1, .int (Int32.ofInt (x1 + 1))), (0, .ref 31), (4, .int (Int32.ofInt x4))]) (st' := []) rfl ?_
  refine lf_sub (l := [(0, .ref 31), (1, .int (Int32.ofInt (x1 + 1))), (2, .int (Int32.ofInt (s.1 31 9))), (3, .int (Int32.ofInt 1)), (4, .int (Int32.ofInt x4))]) (lf_sb1 rfl (lf_sb1 rfl (lf_sb1 rfl (lf_sb1 rfl (lf_sb1 rfl lf_sb0))))) ?_
  exact gm_36_p98 hX13 h
def fm_36_p67 (X13 : Int → Int → Int → Int → lf_Z → Prop) (Q : Int → lf_Z → Prop) (x1 : Int) (x2 : Int) (x4 : Int) (y0 : Int) (s : lf_Z) : Prop := fm_36_p98 X13 Q x1 (x2 + 1) y0 x4 s
set_option maxRecDepth 100000 in
theorem gm_36_p67 {L : Nat} {xs : Nat → Int32} {d : Nat} {X13 : Int → Int → Int → Int → lf_Z → Prop} {Q : Int → lf_Z → Prop} {x1 : Int} {x2 : Int} {x4 : Int} {y0 : Int} {s : lf_Z} (hX13 : ∀ x1 x2 x3 x4 s, X13 x1 x2 x3 x4 s → lf_E (px_ro L xs) (d + 1) 36 13 [(0, .ref 31), (1, .int (Int32.ofInt x1)), (2, .int (Int32.ofInt x2)), (3, .int (Int32.ofInt x3)), (4, .int (Int32.ofInt x4))] [] s (lf_qi Q)) (h : fm_36_p67 X13 Q x1 x2 x4 y0 s) : lf_E (px_ro L xs) (d + 1) 36 67 [(0, .ref 31), (1, .int (Int32.ofInt x1)), (2, .int (Int32.ofInt x2)), (4, .int (Int32.ofInt x4))] [.int (Int32.ofInt y0)] s (lf_qi Q) := by
  unfold fm_36_p67 at h
  refine lf_seg 1 (pc' := 68) (lv' := [(3, .int (Int32.ofInt y0)), (0, .ref 31), (1, .int (Int32.ofInt x1)), (2, .int (Int32.ofInt x2)), (4, .int (Int32.ofInt x4))]) (st' := []) rfl ?_
  refine lf_iinc 71 rfl rfl rfl rfl ?_
  refine lf_seg 1 (pc' := 98) (lv' := [(2, .int (Int32.ofInt (x2 + 1))), (3, .int (Int32.ofInt y0)), (0, .ref 31), (1, .int (Int32.ofInt x1)), (4, .int (Int32.ofInt x4))]) (st' := []) rfl ?_
  refine lf_sub (l := [(0, .ref 31), (1, .int (Int32.ofInt x1)), (2, .int (Int32.ofInt (x2 + 1))), (3, .int (Int32.ofInt y0)), (4, .int (Int32.ofInt x4))]) (lf_sb1 rfl (lf_sb1 rfl (lf_sb1 rfl (lf_sb1 rfl (lf_sb1 rfl lf_sb0))))) ?_
  exact gm_36_p98 hX13 h
def fm_36_p66 (X13 : Int → Int → Int → Int → lf_Z → Prop) (Q : Int → lf_Z → Prop) (x1 : Int) (x2 : Int) (x4 : Int) (s : lf_Z) : Prop := fm_36_p67 X13 Q x1 x2 x4 0 s
set_option maxRecDepth 100000 in
theorem gm_36_p66 {L : Nat} {xs : Nat → Int32} {d : Nat} {X13 : Int → Int → Int → Int → lf_Z → Prop} {Q : Int → lf_Z → Prop} {x1 : Int} {x2 : Int} {x4 : Int} {s : lf_Z} (hX13 : ∀ x1 x2 x3 x4 s, X13 x1 x2 x3 x4 s → lf_E (px_ro L xs) (d + 1) 36 13 [(0, .ref 31), (1, .int (Int32.ofInt x1)), (2, .int (Int32.ofInt x2)), (3, .int (Int32.ofInt x3)), (4, .int (Int32.ofInt x4))] [] s (lf_qi Q)) (h : fm_36_p66 X13 Q x1 x2 x4 s) : lf_E (px_ro L xs) (d + 1) 36 66 [(0, .ref 31), (1, .int (Int32.ofInt x1)), (2, .int (Int32.ofInt x2)), (4, .int (Int32.ofInt x4))] [] s (lf_qi Q) := by
  unfold fm_36_p66 at h
  refine lf_seg 1 (pc' := 67) (lv' := [(0, .ref 31), (1, .int (Int32.ofInt x1)), (2, .int (Int32.ofInt x2)), (4, .int (Int32.ofInt x4))]) (st' := [.int (Int32.ofInt 0)]) rfl ?_
  refine lf_sub (l := [(0, .ref 31), (1, .int (Int32.ofInt x1)), (2, .int (Int32.ofInt x2)), (4, .int (Int32.ofInt x4))]) (lf_sb1 rfl (lf_sb1 rfl (lf_sb1 rfl (lf_sb1 rfl lf_sb0)))) ?_
  exact gm_36_p67 hX13 h
def fm_36_p13 (Q : Int → lf_Z → Prop) (X13 : Int → Int → Int → Int → lf_Z → Prop) (x1 : Int) (x2 : Int) (x3 : Int) (x4 : Int) (s : lf_Z) : Prop := lf_R x4 ∧ ((180 ≤ x4 → (Q 1 s)) ∧ (¬ (180 ≤ x4) → ((0 ≤ x4 ∧ x4 < 180) ∧ (((ps_byt.getD (x4).toNat 0).toInt = 32 → (lf_R x3 ∧ ((x3 = 0 → (fm_36_p88 X13 Q x1 x4 s)) ∧ (¬ (x3 = 0) → (lf_R x2 ∧ (lf_R (s.1 31 7) ∧ ((x2 ≠ s.1 31 7 → (fm_36_p88 X13 Q x1 x4 s)) ∧ (¬ (x2 ≠ s.1 31 7) → (Q x1 s))))))))) ∧ (¬ ((ps_byt.getD (x4).toNat 0).toInt = 32) → (lf_R x3 ∧ ((x3 = 0 → (fm_36_p66 X13 Q x1 x2 x4 s)) ∧ (¬ (x3 = 0) → (lf_R x2 ∧ (lf_R (s.1 31 7) ∧ ((s.1 31 7 ≤ x2 → (fm_36_p66 X13 Q x1 x2 x4 s)) ∧ (¬ (s.1 31 7 ≤ x2) → ((0 ≤ x2 ∧ x2 < 300) ∧ (lf_R (s.1 32 x2) ∧ ((s.1 32 x2 ≠ (ps_byt.getD (x4).toNat 0).toInt → (fm_36_p66 X13 Q x1 x2 x4 s)) ∧ (¬ (s.1 32 x2 ≠ (ps_byt.getD (x4).toNat 0).toInt) → (fm_36_p67 X13 Q x1 x2 x4 1 s)))))))))))))))))
def fm_36_p13L (Q : Int → lf_Z → Prop) (x1 : Int) (x2 : Int) (x3 : Int) (x4 : Int) (s : lf_Z) : Prop := ∀ X13 : Int → Int → Int → Int → lf_Z → Prop, (∀ (x1 : Int) (x2 : Int) (x3 : Int) (x4 : Int) (s : lf_Z), fm_36_p13 Q X13 x1 x2 x3 x4 s → X13 x1 x2 x3 x4 s) → X13 x1 x2 x3 x4 s
set_option maxRecDepth 100000 in
theorem gm_36_p13 {L : Nat} {xs : Nat → Int32} {d : Nat} {Q : Int → lf_Z → Prop} {x1 : Int} {x2 : Int} {x3 : Int} {x4 : Int} {s : lf_Z} {X13 : Int → Int → Int → Int → lf_Z → Prop} (hX13 : ∀ x1 x2 x3 x4 s, X13 x1 x2 x3 x4 s → lf_E (px_ro L xs) (d + 1) 36 13 [(0, .ref 31), (1, .int (Int32.ofInt x1)), (2, .int (Int32.ofInt x2)), (3, .int (Int32.ofInt x3)), (4, .int (Int32.ofInt x4))] [] s (lf_qi Q)) (h : fm_36_p13 Q X13 x1 x2 x3 x4 s) : lf_E (px_ro L xs) (d + 1) 36 13 [(0, .ref 31), (1, .int (Int32.ofInt x1)), (2, .int (Int32.ofInt x2)), (3, .int (Int32.ofInt x3)), (4, .int (Int32.ofInt x4))] [] s (lf_qi Q) := by
  unfold fm_36_p13 at h
  refine lf_seg 1 (pc' := 15) (lv' := [(0, .ref 31), (1, .int (Int32.ofInt x1)), (2, .int (Int32.ofInt x2)), (3, .int (Int32.ofInt x3)), (4, .int (Int32.ofInt x4))]) (st' := [.int (Int32.ofInt x4)]) rfl ?_
  refine lf_ldcS 17 rfl rfl rfl ?_
  refine lf_strlen 20 rfl rfl rfl rfl rfl ?_
  obtain ⟨o21, h⟩ := h
  refine lf_icmp_ge 104 23 rfl rfl rfl o21 ⟨by decide, by decide⟩ (fun c => ?_) (fun c => ?_)
  · have h := h.1 c
    refine lf_seg 1 (pc' := 105) (lv' := [(0, .ref 31), (1, .int (Int32.ofInt x1)), (2, .int (Int32.ofInt x2)), (3, .int (Int32.ofInt x3)), (4, .int (Int32.ofInt x4))]) (st' := [.int (Int32.ofInt 1)]) rfl ?_
    exact lf_retI rfl rfl h
  · have h := h.2 c
    refine lf_ldcS 25 rfl rfl rfl ?_
    refine lf_seg 1 (pc' := 27) (lv' := [(0, .ref 31), (1, .int (Int32.ofInt x1)), (2, .int (Int32.ofInt x2)), (3, .int (Int32.ofInt x3)), (4, .int (Int32.ofInt x4))]) (st' := [.int (Int32.ofInt x4), .ref (px_SC + 3)]) rfl ?_
    obtain ⟨o22, h⟩ := h
    refine lf_strat 30 rfl rfl rfl rfl rfl rfl o22 ?_
    refine lf_seg 2 (pc' := 34) (lv' := [(5, .int (Int32.ofInt ((ps_byt.getD (x4).toNat 0).toInt))), (0, .ref 31), (1, .int (Int32.ofInt x1)), (2, .int (Int32.ofInt x2)), (3, .int (Int32.ofInt x3)), (4, .int (Int32.ofInt x4))]) (st' := [.int (Int32.ofInt ((ps_byt.getD (x4).toNat 0).toInt))]) rfl ?_
    refine lf_bipush 36 32 rfl rfl (by decide) (by decide) ?_
    refine lf_icmp_eq 74 39 rfl rfl rfl (lf_R_i _) ⟨by decide, by decide⟩ (fun c => ?_) (fun c => ?_)
    · have h := h.1 c
      refine lf_seg 1 (pc' := 75) (lv' := [(5, .int (Int32.ofInt ((ps_byt.getD (x4).toNat 0).toInt))), (0, .ref 31), (1, .int (Int32.ofInt x1)), (2, .int (Int32.ofInt x2)), (3, .int (Int32.ofInt x3)), (4, .int (Int32.ofInt x4))]) (st' := [.int (Int32.ofInt x3)]) rfl ?_
      obtain ⟨o23, h⟩ := h
      refine lf_if_eq 88 78 rfl rfl rfl o23 (fun c => ?_) (fun c => ?_)
      · have h := h.1 c
        refine lf_sub (l := [(0, .ref 31), (1, .int (Int32.ofInt x1)), (4, .int (Int32.ofInt x4))]) (lf_sb1 rfl (lf_sb1 rfl (lf_sb1 rfl lf_sb0))) ?_
        exact gm_36_p88 hX13 h
      · have h := h.2 c
        refine lf_seg 2 (pc' := 80) (lv' := [(5, .int (Int32.ofInt ((ps_byt.getD (x4).toNat 0).toInt))), (0, .ref 31), (1, .int (Int32.ofInt x1)), (2, .int (Int32.ofInt x2)), (3, .int (Int32.ofInt x3)), (4, .int (Int32.ofInt x4))]) (st' := [.ref 31, .int (Int32.ofInt x2)]) rfl ?_
        refine lf_getI 83 7 rfl rfl rfl rfl rfl rfl rfl ?_
        obtain ⟨o24, h⟩ := h
        obtain ⟨o25, h⟩ := h
        refine lf_icmp_ne 88 86 rfl rfl rfl o24 o25 (fun c => ?_) (fun c => ?_)
        · have h := h.1 c
          refine lf_sub (l := [(0, .ref 31), (1, .int (Int32.ofInt x1)), (4, .int (Int32.ofInt x4))]) (lf_sb1 rfl (lf_sb1 rfl (lf_sb1 rfl lf_sb0))) ?_
          exact gm_36_p88 hX13 h
        · have h := h.2 c
          refine lf_seg 1 (pc' := 87) (lv' := [(5, .int (Int32.ofInt ((ps_byt.getD (x4).toNat 0).toInt))), (0, .ref 31), (1, .int (Int32.ofInt x1)), (2, .int (Int32.ofInt x2)), (3, .int (Int32.ofInt x3)), (4, .int (Int32.ofInt x4))]) (st' := [.int (Int32.ofInt x1)]) rfl ?_
          exact lf_retI rfl rfl h
    · have h := h.2 c
      refine lf_seg 1 (pc' := 40) (lv' := [(5, .int (Int32.ofInt ((ps_byt.getD (x4).toNat 0).toInt))), (0, .ref 31), (1, .int (Int32.ofInt x1)), (2, .int (Int32.ofInt x2)), (3, .int (Int32.ofInt x3)), (4, .int (Int32.ofInt x4))]) (st' := [.int (Int32.ofInt x3)]) rfl ?_
      obtain ⟨o26, h⟩ := h
      refine lf_if_eq 66 43 rfl rfl rfl o26 (fun c => ?_) (fun c => ?_)
      · have h := h.1 c
        refine lf_sub (l := [(0, .ref 31), (1, .int (Int32.ofInt x1)), (2, .int (Int32.ofInt x2)), (4, .int (Int32.ofInt x4))]) (lf_sb1 rfl (lf_sb1 rfl (lf_sb1 rfl (lf_sb1 rfl lf_sb0)))) ?_
        exact gm_36_p66 hX13 h
      · have h := h.2 c
        refine lf_seg 2 (pc' := 45) (lv' := [(5, .int (Int32.ofInt ((ps_byt.getD (x4).toNat 0).toInt))), (0, .ref 31), (1, .int (Int32.ofInt x1)), (2, .int (Int32.ofInt x2)), (3, .int (Int32.ofInt x3)), (4, .int (Int32.ofInt x4))]) (st' := [.ref 31, .int (Int32.ofInt x2)]) rfl ?_
        refine lf_getI 48 7 rfl rfl rfl rfl rfl rfl rfl ?_
        obtain ⟨o27, h⟩ := h
        obtain ⟨o28, h⟩ := h
        refine lf_icmp_ge 66 51 rfl rfl rfl o27 o28 (fun c => ?_) (fun c => ?_)
        · have h := h.1 c
          refine lf_sub (l := [(0, .ref 31), (1, .int (Int32.ofInt x1)), (2, .int (Int32.ofInt x2)), (4, .int (Int32.ofInt x4))]) (lf_sb1 rfl (lf_sb1 rfl (lf_sb1 rfl (lf_sb1 rfl lf_sb0)))) ?_
          exact gm_36_p66 hX13 h
        · have h := h.2 c
          refine lf_seg 3 (pc' := 56) (lv' := [(5, .int (Int32.ofInt ((ps_byt.getD (x4).toNat 0).toInt))), (0, .ref 31), (1, .int (Int32.ofInt x1)), (2, .int (Int32.ofInt x2)), (3, .int (Int32.ofInt x3)), (4, .int (Int32.ofInt x4))]) (st' := [.int (Int32.ofInt x2), .ref 32]) rfl ?_
          obtain ⟨o29, h⟩ := h
          refine lf_iald 57 300 rfl rfl rfl rfl rfl rfl o29 ?_
          refine lf_seg 1 (pc' := 59) (lv' := [(5, .int (Int32.ofInt ((ps_byt.getD (x4).toNat 0).toInt))), (0, .ref 31), (1, .int (Int32.ofInt x1)), (2, .int (Int32.ofInt x2)), (3, .int (Int32.ofInt x3)), (4, .int (Int32.ofInt x4))]) (st' := [.int (Int32.ofInt ((ps_byt.getD (x4).toNat 0).toInt)), .int (Int32.ofInt (s.1 32 x2))]) rfl ?_
          obtain ⟨o30, h⟩ := h
          refine lf_icmp_ne 66 62 rfl rfl rfl o30 (lf_R_i _) (fun c => ?_) (fun c => ?_)
          · have h := h.1 c
            refine lf_sub (l := [(0, .ref 31), (1, .int (Int32.ofInt x1)), (2, .int (Int32.ofInt x2)), (4, .int (Int32.ofInt x4))]) (lf_sb1 rfl (lf_sb1 rfl (lf_sb1 rfl (lf_sb1 rfl lf_sb0)))) ?_
            exact gm_36_p66 hX13 h
          · have h := h.2 c
            refine lf_seg 2 (pc' := 67) (lv' := [(5, .int (Int32.ofInt ((ps_byt.getD (x4).toNat 0).toInt))), (0, .ref 31), (1, .int (Int32.ofInt x1)), (2, .int (Int32.ofInt x2)), (3, .int (Int32.ofInt x3)), (4, .int (Int32.ofInt x4))]) (st' := [.int (Int32.ofInt 1)]) rfl ?_
            refine lf_sub (l := [(0, .ref 31), (1, .int (Int32.ofInt x1)), (2, .int (Int32.ofInt x2)), (4, .int (Int32.ofInt x4))]) (lf_sb1 rfl (lf_sb1 rfl (lf_sb1 rfl (lf_sb1 rfl lf_sb0)))) ?_
            exact gm_36_p67 hX13 h
theorem gm_36_p13L {L : Nat} {xs : Nat → Int32} {d : Nat} {Q : Int → lf_Z → Prop} {x1 : Int} {x2 : Int} {x3 : Int} {x4 : Int} {s : lf_Z} (h : fm_36_p13L Q x1 x2 x3 x4 s) : lf_E (px_ro L xs) (d + 1) 36 13 [(0, .ref 31), (1, .int (Int32.ofInt x1)), (2, .int (Int32.ofInt x2)), (3, .int (Int32.ofInt x3)), (4, .int (Int32.ofInt x4))] [] s (lf_qi Q) :=
  h (fun x1 x2 x3 x4 s => lf_E (px_ro L xs) (d + 1) 36 13 [(0, .ref 31), (1, .int (Int32.ofInt x1)), (2, .int (Int32.ofInt x2)), (3, .int (Int32.ofInt x3)), (4, .int (Int32.ofInt x4))] [] s (lf_qi Q)) (fun x1 x2 x3 x4 s hb => gm_36_p13 (fun _ _ _ _ _ h => h) hb)
def fm_36 (Q : Int → lf_Z → Prop) (s : lf_Z) : Prop := fm_36_p13L Q 20 (s.1 31 9) 1 0 s
set_option maxRecDepth 100000 in
theorem gm_36 {L : Nat} {xs : Nat → Int32} {d : Nat} {Q : Int → lf_Z → Prop} {s : lf_Z} (h : fm_36 Q s) : lf_M (px_ro L xs) (d + 1) 36 [.ref 31] s (lf_qi Q) := by
  unfold fm_36 at h
  show lf_E (px_ro L xs) (d + 1) 36 0 [(0, .ref 31)] [] s _
  refine lf_bipush 2 20 rfl rfl (by decide) (by decide) ?_
  refine lf_seg 2 (pc' := 4) (lv' := [(1, .int (Int32.ofInt 20)), (0, .ref 31)]) (st' := [.ref 31]) rfl ?_
  refine lf_getI 7 9 rfl rfl rfl rfl rfl rfl rfl ?_
  refine lf_seg 5 (pc' := 13) (lv' := [(4, .int (Int32.ofInt 0)), (3, .int (Int32.ofInt 1)), (2, .int (Int32.ofInt (s.1 31 9))), (1, .int (Int32.ofInt 20)), (0, .ref 31)]) (st' := []) rfl ?_
  refine lf_sub (l := [(0, .ref 31), (1, .int (Int32.ofInt 20)), (2, .int (Int32.ofInt (s.1 31 9))), (3, .int (Int32.ofInt 1)), (4, .int (Int32.ofInt 0))]) (lf_sb1 rfl (lf_sb1 rfl (lf_sb1 rfl (lf_sb1 rfl (lf_sb1 rfl lf_sb0))))) ?_
  exact gm_36_p13L h
-- fm_35 Reader.scanWord 31
def fm_35_p90 (Q : lf_Z → Prop) (s : lf_Z) : Prop := fm_36 (fun r26 s25 => (Q (lf_up s25.1 31 8 r26, s25.2.1, s25.2.2))) s
set_option maxRecDepth 100000 in
theorem gm_35_p90 {L : Nat} {xs : Nat → Int32} {d : Nat} {Q : lf_Z → Prop} {s : lf_Z} (h : fm_35_p90 Q s) : lf_E (px_ro L xs) (d + 2) 35 90 [(0, .ref 31)] [] s (lf_qv Q) := by
  unfold fm_35_p90 at h
  refine lf_seg 2 (pc' := 92) (lv' := [(0, .ref 31)]) (st' := [.ref 31, .ref 31]) rfl ?_
  refine lf_callI 95 rfl rfl rfl rfl (gm_36 h) (fun r26 s25 h => ?_)
  refine lf_putI 98 8 rfl rfl rfl rfl rfl rfl rfl rfl ?_
  refine lf_as (lf_up s25.1 31 8 r26, s25.2.1, s25.2.2) rfl ?_
  exact lf_retV rfl rfl h
def fm_35_p39 (Q : lf_Z → Prop) (s : lf_Z) : Prop := lf_R (s.1 31 7) ∧ (lf_R ((s.1 31 9) + 1) ∧ ((s.1 31 7 ≠ (s.1 31 9) + 1 → (fm_35_p90 Q s)) ∧ (¬ (s.1 31 7 ≠ (s.1 31 9) + 1) → ((0 ≤ s.1 31 9 ∧ s.1 31 9 < 300) ∧ (lf_R (s.1 32 (s.1 31 9)) ∧ ((s.1 32 (s.1 31 9) < 97 → (fm_35_p90 Q s)) ∧ (¬ (s.1 32 (s.1 31 9) < 97) → (Q (lf_up (lf_up s.1 31 8 3) 31 10 ((s.1 32 (s.1 31 9)) - 97), s.2.1, s.2.2)))))))))
set_option maxRecDepth 100000 in
theorem gm_35_p39 {L : Nat} {xs : Nat → Int32} {d : Nat} {Q : lf_Z → Prop} {s : lf_Z} (h : fm_35_p39 Q s) : lf_E (px_ro L xs) (d + 2) 35 39 [(0, .ref 31)] [] s (lf_qv Q) := by
  unfold fm_35_p39 at h
  refine lf_seg 1 (pc' := 40) (lv' := [(0, .ref 31)]) (st' := [.ref 31]) rfl ?_
  refine lf_getI 43 7 rfl rfl rfl rfl rfl rfl rfl ?_
  refine lf_seg 1 (pc' := 44) (lv' := [(0, .ref 31)]) (st' := [.ref 31, .int (Int32.ofInt (s.1 31 7))]) rfl ?_
  refine lf_getI 47 9 rfl rfl rfl rfl rfl rfl rfl ?_
  refine lf_seg 1 (pc' := 48) (lv' := [(0, .ref 31)]) (st' := [.int (Int32.ofInt 1), .int (Int32.ofInt (s.1 31 9)), .int (Int32.ofInt (s.1 31 7))]) rfl ?_
  refine lf_iadd 49 rfl rfl ?_
  obtain ⟨o23, h⟩ := h
  obtain ⟨o24, h⟩ := h
  refine lf_icmp_ne 90 52 rfl rfl rfl o23 o24 (fun c => ?_) (fun c => ?_)
  · have h := h.1 c
    refine lf_sub (l := [(0, .ref 31)]) (lf_sb1 rfl lf_sb0) ?_
    exact gm_35_p90 h
  · have h := h.2 c
    refine lf_seg 3 (pc' := 57) (lv' := [(0, .ref 31)]) (st' := [.ref 31, .ref 32]) rfl ?_
    refine lf_getI 60 9 rfl rfl rfl rfl rfl rfl rfl ?_
    obtain ⟨o27, h⟩ := h
    refine lf_iald 61 300 rfl rfl rfl rfl rfl rfl o27 ?_
    refine lf_bipush 63 97 rfl rfl (by decide) (by decide) ?_
    obtain ⟨o28, h⟩ := h
    refine lf_icmp_lt 90 66 rfl rfl rfl o28 ⟨by decide, by decide⟩ (fun c => ?_) (fun c => ?_)
    · have h := h.1 c
      refine lf_sub (l := [(0, .ref 31)]) (lf_sb1 rfl lf_sb0) ?_
      exact gm_35_p90 h
    · have h := h.2 c
      refine lf_seg 2 (pc' := 68) (lv' := [(0, .ref 31)]) (st' := [.int (Int32.ofInt 3), .ref 31]) rfl ?_
      refine lf_putI 71 8 rfl rfl rfl rfl rfl rfl rfl rfl ?_
      refine lf_as (lf_up s.1 31 8 3, s.2.1, s.2.2) rfl ?_
      refine lf_seg 4 (pc' := 77) (lv' := [(0, .ref 31)]) (st' := [.ref 31, .ref 32, .ref 31]) rfl ?_
      refine lf_getI 80 9 rfl rfl rfl rfl rfl rfl rfl ?_
      refine lf_seg 0 (pc' := 80) (lv' := [(0, .ref 31)]) (st' := [.int (Int32.ofInt (s.1 31 9)), .ref 32, .ref 31]) rfl ?_
      refine lf_iald 81 300 rfl rfl rfl rfl rfl rfl o27 ?_
      refine lf_seg 0 (pc' := 81) (lv' := [(0, .ref 31)]) (st' := [.int (Int32.ofInt (s.1 32 (s.1 31 9))), .ref 31]) rfl ?_
      refine lf_bipush 83 97 rfl rfl (by decide) (by decide) ?_
      refine lf_isub 84 rfl rfl ?_
      refine lf_putI 87 10 rfl rfl rfl rfl rfl rfl rfl rfl ?_
      refine lf_as (lf_up (lf_up s.1 31 8 3) 31 10 ((s.1 32 (s.1 31 9)) - 97), s.2.1, s.2.2) rfl ?_
      refine lf_seg 1 (pc' := 98) (lv' := [(0, .ref 31)]) (st' := []) rfl ?_
      exact lf_retV rfl rfl h
def fm_35_p0 (Q : lf_Z → Prop) (X0 : lf_Z → Prop) (s : lf_Z) : Prop := lf_R (s.1 31 7) ∧ (lf_R (s.1 31 1) ∧ ((s.1 31 1 ≤ s.1 31 7 → (fm_35_p39 Q s)) ∧ (¬ (s.1 31 1 ≤ s.1 31 7) → ((0 ≤ s.1 31 7 ∧ s.1 31 7 < 300) ∧ (fm_34 (s.1 32 (s.1 31 7)) (fun z31 s30 => ((z31 = false → (fm_35_p39 Q s30)) ∧ (z31 = true → (X0 (lf_up s30.1 31 7 ((s30.1 31 7) + 1), s30.2.1, s30.2.2))))) s)))))
def fm_35_p0L (Q : lf_Z → Prop) (s : lf_Z) : Prop := ∀ X0 : lf_Z → Prop, (∀ (s : lf_Z), fm_35_p0 Q X0 s → X0 s) → X0 s
set_option maxRecDepth 100000 in
theorem gm_35_p0 {L : Nat} {xs : Nat → Int32} {d : Nat} {Q : lf_Z → Prop} {s : lf_Z} {X0 : lf_Z → Prop} (hX0 : ∀ s, X0 s → lf_E (px_ro L xs) (d + 2) 35 0 [(0, .ref 31)] [] s (lf_qv Q)) (h : fm_35_p0 Q X0 s) : lf_E (px_ro L xs) (d + 2) 35 0 [(0, .ref 31)] [] s (lf_qv Q) := by
  unfold fm_35_p0 at h
  refine lf_seg 1 (pc' := 1) (lv' := [(0, .ref 31)]) (st' := [.ref 31]) rfl ?_
  refine lf_getI 4 7 rfl rfl rfl rfl rfl rfl rfl ?_
  refine lf_seg 1 (pc' := 5) (lv' := [(0, .ref 31)]) (st' := [.ref 31, .int (Int32.ofInt (s.1 31 7))]) rfl ?_
  refine lf_getI 8 1 rfl rfl rfl rfl rfl rfl rfl ?_
  obtain ⟨o21, h⟩ := h
  obtain ⟨o22, h⟩ := h
  refine lf_icmp_ge 39 11 rfl rfl rfl o21 o22 (fun c => ?_) (fun c => ?_)
  · have h := h.1 c
    refine lf_sub (l := [(0, .ref 31)]) (lf_sb1 rfl lf_sb0) ?_
    exact gm_35_p39 h
  · have h := h.2 c
    refine lf_seg 3 (pc' := 16) (lv' := [(0, .ref 31)]) (st' := [.ref 31, .ref 32]) rfl ?_
    refine lf_getI 19 7 rfl rfl rfl rfl rfl rfl rfl ?_
    obtain ⟨o29, h⟩ := h
    refine lf_iald 20 300 rfl rfl rfl rfl rfl rfl o29 ?_
    refine lf_callZ 23 rfl rfl rfl rfl (gm_34 h) (fun z31 s30 h => ?_)
    refine lf_ifz_eq 39 26 rfl rfl rfl (fun c => ?_) (fun c => ?_)
    · have h := h.1 c
      refine lf_sub (l := [(0, .ref 31)]) (lf_sb1 rfl lf_sb0) ?_
      exact gm_35_p39 h
    · have h := h.2 c
      refine lf_seg 2 (pc' := 28) (lv' := [(0, .ref 31)]) (st' := [.ref 31, .ref 31]) rfl ?_
      refine lf_getI 31 7 rfl rfl rfl rfl rfl rfl rfl ?_
      refine lf_seg 1 (pc' := 32) (lv' := [(0, .ref 31)]) (st' := [.int (Int32.ofInt 1), .int (Int32.ofInt (s30.1 31 7)), .ref 31]) rfl ?_
      refine lf_iadd 33 rfl rfl ?_
      refine lf_putI 36 7 rfl rfl rfl rfl rfl rfl rfl rfl ?_
      refine lf_as (lf_up s30.1 31 7 ((s30.1 31 7) + 1), s30.2.1, s30.2.2) rfl ?_
      refine lf_seg 1 (pc' := 0) (lv' := [(0, .ref 31)]) (st' := []) rfl ?_
      refine lf_sub (l := [(0, .ref 31)]) (lf_sb1 rfl lf_sb0) ?_
      exact hX0 _ h
theorem gm_35_p0L {L : Nat} {xs : Nat → Int32} {d : Nat} {Q : lf_Z → Prop} {s : lf_Z} (h : fm_35_p0L Q s) : lf_E (px_ro L xs) (d + 2) 35 0 [(0, .ref 31)] [] s (lf_qv Q) :=
  h (fun s => lf_E (px_ro L xs) (d + 2) 35 0 [(0, .ref 31)] [] s (lf_qv Q)) (fun s hb => gm_35_p0 (fun _ h => h) hb)
def fm_35 (Q : lf_Z → Prop) (s : lf_Z) : Prop := fm_35_p0L Q s
set_option maxRecDepth 100000 in
theorem gm_35 {L : Nat} {xs : Nat → Int32} {d : Nat} {Q : lf_Z → Prop} {s : lf_Z} (h : fm_35 Q s) : lf_M (px_ro L xs) (d + 2) 35 [.ref 31] s (lf_qv Q) := by
  unfold fm_35 at h
  show lf_E (px_ro L xs) (d + 2) 35 0 [(0, .ref 31)] [] s _
  refine lf_sub (l := [(0, .ref 31)]) (lf_sb1 rfl lf_sb0) ?_
  exact gm_35_p0L h
-- fm_33 Reader.scanNumber 31
def fm_33_p10 (Q : lf_Z → Prop) (X10 : lf_Z → Prop) (s : lf_Z) : Prop := lf_R (s.1 31 7) ∧ (lf_R (s.1 31 1) ∧ ((s.1 31 1 ≤ s.1 31 7 → (Q s)) ∧ (¬ (s.1 31 1 ≤ s.1 31 7) → ((0 ≤ s.1 31 7 ∧ s.1 31 7 < 300) ∧ (fm_32 (s.1 32 (s.1 31 7)) (fun z25 s24 => ((z25 = false → (Q s24)) ∧ (z25 = true → ((0 ≤ s24.1 31 7 ∧ s24.1 31 7 < 300) ∧ (X10 (lf_up (lf_up s24.1 31 10 (min 10000 (lf_w ((lf_w ((lf_w ((s24.1 31 10) * 10)) + (s24.1 32 (s24.1 31 7)))) - 48)))) 31 7 ((s24.1 31 7) + 1), s24.2.1, s24.2.2)))))) s)))))
def fm_33_p10L (Q : lf_Z → Prop) (s : lf_Z) : Prop := ∀ X10 : lf_Z → Prop, (∀ (s : lf_Z), fm_33_p10 Q X10 s → X10 s) → X10 s
set_option maxRecDepth 100000 in
theorem gm_33_p10 {L : Nat} {xs : Nat → Int32} {d : Nat} {Q : lf_Z → Prop} {s : lf_Z} {X10 : lf_Z → Prop} (hX10 : ∀ s, X10 s → lf_E (px_ro L xs) (d + 2) 33 10 [(0, .ref 31)] [] s (lf_qv Q)) (h : fm_33_p10 Q X10 s) : lf_E (px_ro L xs) (d + 2) 33 10 [(0, .ref 31)] [] s (lf_qv Q) := by
  unfold fm_33_p10 at h
  refine lf_seg 1 (pc' := 11) (lv' := [(0, .ref 31)]) (st' := [.ref 31]) rfl ?_
  refine lf_getI 14 7 rfl rfl rfl rfl rfl rfl rfl ?_
  refine lf_seg 1 (pc' := 15) (lv' := [(0, .ref 31)]) (st' := [.ref 31, .int (Int32.ofInt (s.1 31 7))]) rfl ?_
  refine lf_getI 18 1 rfl rfl rfl rfl rfl rfl rfl ?_
  obtain ⟨o21, h⟩ := h
  obtain ⟨o22, h⟩ := h
  refine lf_icmp_ge 79 21 rfl rfl rfl o21 o22 (fun c => ?_) (fun c => ?_)
  · have h := h.1 c
    exact lf_retV rfl rfl h
  · have h := h.2 c
    refine lf_seg 3 (pc' := 26) (lv' := [(0, .ref 31)]) (st' := [.ref 31, .ref 32]) rfl ?_
    refine lf_getI 29 7 rfl rfl rfl rfl rfl rfl rfl ?_
    obtain ⟨o23, h⟩ := h
    refine lf_iald 30 300 rfl rfl rfl rfl rfl rfl o23 ?_
    refine lf_callZ 33 rfl rfl rfl rfl (gm_32 h) (fun z25 s24 h => ?_)
    refine lf_ifz_eq 79 36 rfl rfl rfl (fun c => ?_) (fun c => ?_)
    · have h := h.1 c
      exact lf_retV rfl rfl h
    · have h := h.2 c
      refine lf_seg 1 (pc' := 37) (lv' := [(0, .ref 31)]) (st' := [.ref 31]) rfl ?_
      refine lf_sipush 40 10000 rfl rfl (by decide) (by decide) ?_
      refine lf_seg 1 (pc' := 41) (lv' := [(0, .ref 31)]) (st' := [.ref 31, .int (Int32.ofInt 10000), .ref 31]) rfl ?_
      refine lf_getI 44 10 rfl rfl rfl rfl rfl rfl rfl ?_
      refine lf_bipush 46 10 rfl rfl (by decide) (by decide) ?_
      refine lf_imul 47 rfl rfl ?_
      refine lf_wtI ?_
      refine lf_seg 3 (pc' := 52) (lv' := [(0, .ref 31)]) (st' := [.ref 31, .ref 32, .int (Int32.ofInt (lf_w ((s24.1 31 10) * 10))), .int (Int32.ofInt 10000), .ref 31]) rfl ?_
      refine lf_getI 55 7 rfl rfl rfl rfl rfl rfl rfl ?_
      obtain ⟨o26, h⟩ := h
      refine lf_iald 56 300 rfl rfl rfl rfl rfl rfl o26 ?_
      refine lf_iadd 57 rfl rfl ?_
      refine lf_wtI ?_
      refine lf_bipush 59 48 rfl rfl (by decide) (by decide) ?_
      refine lf_isub 60 rfl rfl ?_
      refine lf_wtI ?_
      refine lf_imin 63 rfl rfl rfl rfl ⟨by decide, by decide⟩ lf_Rw ?_
      refine lf_putI 66 10 rfl rfl rfl rfl rfl rfl rfl rfl ?_
      refine lf_as (lf_up s24.1 31 10 (min 10000 (lf_w ((lf_w ((lf_w ((s24.1 31 10) * 10)) + (s24.1 32 (s24.1 31 7)))) - 48))), s24.2.1, s24.2.2) rfl ?_
      refine lf_seg 2 (pc' := 68) (lv' := [(0, .ref 31)]) (st' := [.ref 31, .ref 31]) rfl ?_
      refine lf_getI 71 7 rfl rfl rfl rfl rfl rfl rfl ?_
      refine lf_seg 1 (pc' := 72) (lv' := [(0, .ref 31)]) (st' := [.int (Int32.ofInt 1), .int (Int32.ofInt (s24.1 31 7)), .ref 31]) rfl ?_
      refine lf_iadd 73 rfl rfl ?_
      refine lf_putI 76 7 rfl rfl rfl rfl rfl rfl rfl rfl ?_
      refine lf_as (lf_up (lf_up s24.1 31 10 (min 10000 (lf_w ((lf_w ((lf_w ((s24.1 31 10) * 10)) + (s24.1 32 (s24.1 31 7)))) - 48)))) 31 7 ((s24.1 31 7) + 1), s24.2.1, s24.2.2) rfl ?_
      refine lf_seg 1 (pc' := 10) (lv' := [(0, .ref 31)]) (st' := []) rfl ?_
      refine lf_sub (l := [(0, .ref 31)]) (lf_sb1 rfl lf_sb0) ?_
      exact hX10 _ h
theorem gm_33_p10L {L : Nat} {xs : Nat → Int32} {d : Nat} {Q : lf_Z → Prop} {s : lf_Z} (h : fm_33_p10L Q s) : lf_E (px_ro L xs) (d + 2) 33 10 [(0, .ref 31)] [] s (lf_qv Q) :=
  h (fun s => lf_E (px_ro L xs) (d + 2) 33 10 [(0, .ref 31)] [] s (lf_qv Q)) (fun s hb => gm_33_p10 (fun _ h => h) hb)
def fm_33 (Q : lf_Z → Prop) (s : lf_Z) : Prop := fm_33_p10L Q (lf_up (lf_up s.1 31 8 2) 31 10 0, s.2.1, s.2.2)
set_option maxRecDepth 100000 in
theorem gm_33 {L : Nat} {xs : Nat → Int32} {d : Nat} {Q : lf_Z → Prop} {s : lf_Z} (h : fm_33 Q s) : lf_M (px_ro L xs) (d + 2) 33 [.ref 31] s (lf_qv Q) := by
  unfold fm_33 at h
  show lf_E (px_ro L xs) (d + 2) 33 0 [(0, .ref 31)] [] s _
  refine lf_seg 2 (pc' := 2) (lv' := [(0, .ref 31)]) (st' := [.int (Int32.ofInt 2), .ref 31]) rfl ?_
  refine lf_putI 5 8 rfl rfl rfl rfl rfl rfl rfl rfl ?_
  refine lf_as (lf_up s.1 31 8 2, s.2.1, s.2.2) rfl ?_
  refine lf_seg 2 (pc' := 7) (lv' := [(0, .ref 31)]) (st' := [.int (Int32.ofInt 0), .ref 31]) rfl ?_
  refine lf_putI 10 10 rfl rfl rfl rfl rfl rfl rfl rfl ?_
  refine lf_as (lf_up (lf_up s.1 31 8 2) 31 10 0, s.2.1, s.2.2) rfl ?_
  refine lf_sub (l := [(0, .ref 31)]) (lf_sb1 rfl lf_sb0) ?_
  exact gm_33_p10L h
-- fm_31 Reader.advance 31
def fm_31_p60 (Q : lf_Z → Prop) (s : lf_Z) : Prop := lf_R (s.1 31 7) ∧ (lf_R (s.1 31 1) ∧ ((s.1 31 7 < s.1 31 1 → ((0 ≤ s.1 31 7 ∧ s.1 31 7 < 300) ∧ (fm_32 (s.1 32 (s.1 31 7)) (fun z28 s27 => ((z28 = false → ((0 ≤ s27.1 31 7 ∧ s27.1 31 7 < 300) ∧ (fm_34 (s27.1 32 (s27.1 31 7)) (fun z31 s30 => ((z31 = false → ((0 ≤ s30.1 31 7 ∧ s30.1 31 7 < 300) ∧ (fm_37 (s30.1 32 (s30.1 31 7)) (fun s33 => (Q s33)) s30))) ∧ (z31 = true → (fm_35 (fun s34 => (Q s34)) s30)))) s27))) ∧ (z28 = true → (fm_33 (fun s35 => (Q s35)) s27)))) (lf_up s.1 31 9 (s.1 31 7), s.2.1, s.2.2)))) ∧ (¬ (s.1 31 7 < s.1 31 1) → (Q (lf_up (lf_up s.1 31 9 (s.1 31 7)) 31 8 0, s.2.1, s.2.2)))))
set_option maxRecDepth 100000 in
theorem gm_31_p60 {L : Nat} {xs : Nat → Int32} {d : Nat} {Q : lf_Z → Prop} {s : lf_Z} (h : fm_31_p60 Q s) : lf_E (px_ro L xs) (d + 3) 31 60 [(0, .ref 31)] [] s (lf_qv Q) := by
  unfold fm_31_p60 at h
  refine lf_seg 2 (pc' := 62) (lv' := [(0, .ref 31)]) (st' := [.ref 31, .ref 31]) rfl ?_
  refine lf_getI 65 7 rfl rfl rfl rfl rfl rfl rfl ?_
  refine lf_putI 68 9 rfl rfl rfl rfl rfl rfl rfl rfl ?_
  refine lf_as (lf_up s.1 31 9 (s.1 31 7), s.2.1, s.2.2) rfl ?_
  refine lf_seg 1 (pc' := 69) (lv' := [(0, .ref 31)]) (st' := [.ref 31]) rfl ?_
  refine lf_getI 72 7 rfl rfl rfl rfl rfl rfl rfl ?_
  refine lf_seg 1 (pc' := 73) (lv' := [(0, .ref 31)]) (st' := [.ref 31, .int (Int32.ofInt (s.1 31 7))]) rfl ?_
  refine lf_getI 76 1 rfl rfl rfl rfl rfl rfl rfl ?_
  refine lf_seg 0 (pc' := 76) (lv' := [(0, .ref 31)]) (st' := [.int (Int32.ofInt (s.1 31 1)), .int (Int32.ofInt (s.1 31 7))]) rfl ?_
  obtain ⟨o24, h⟩ := h
  obtain ⟨o25, h⟩ := h
  refine lf_icmp_lt 87 79 rfl rfl rfl o24 o25 (fun c => ?_) (fun c => ?_)
  · have h := h.1 c
    refine lf_seg 3 (pc' := 92) (lv' := [(0, .ref 31)]) (st' := [.ref 31, .ref 32]) rfl ?_
    refine lf_getI 95 7 rfl rfl rfl rfl rfl rfl rfl ?_
    refine lf_seg 0 (pc' := 95) (lv' := [(0, .ref 31)]) (st' := [.int (Int32.ofInt (s.1 31 7)), .ref 32]) rfl ?_
    obtain ⟨o26, h⟩ := h
    refine lf_iald 96 300 rfl rfl rfl rfl rfl rfl o26 ?_
    refine lf_seg 0 (pc' := 96) (lv' := [(0, .ref 31)]) (st' := [.int (Int32.ofInt (s.1 32 (s.1 31 7)))]) rfl ?_
    refine lf_callZ 99 rfl rfl rfl rfl (gm_32 h) (fun z28 s27 h => ?_)
    refine lf_ifz_eq 109 102 rfl rfl rfl (fun c => ?_) (fun c => ?_)
    · have h := h.1 c
      refine lf_seg 3 (pc' := 114) (lv' := [(0, .ref 31)]) (st' := [.ref 31, .ref 32]) rfl ?_
      refine lf_getI 117 7 rfl rfl rfl rfl rfl rfl rfl ?_
      obtain ⟨o29, h⟩ := h
      refine lf_iald 118 300 rfl rfl rfl rfl rfl rfl o29 ?_
      refine lf_callZ 121 rfl rfl rfl rfl (gm_34 h) (fun z31 s30 h => ?_)
      refine lf_ifz_eq 131 124 rfl rfl rfl (fun c => ?_) (fun c => ?_)
      · have h := h.1 c
        refine lf_seg 4 (pc' := 137) (lv' := [(0, .ref 31)]) (st' := [.ref 31, .ref 32, .ref 31]) rfl ?_
        refine lf_getI 140 7 rfl rfl rfl rfl rfl rfl rfl ?_
        obtain ⟨o32, h⟩ := h
        refine lf_iald 141 300 rfl rfl rfl rfl rfl rfl o32 ?_
        refine lf_callV 144 rfl rfl rfl rfl (gm_37 h) (fun s33 h => ?_)
        exact lf_retV rfl rfl h
      · have h := h.2 c
        refine lf_seg 1 (pc' := 125) (lv' := [(0, .ref 31)]) (st' := [.ref 31]) rfl ?_
        refine lf_callV 128 rfl rfl rfl rfl (gm_35 h) (fun s34 h => ?_)
        refine lf_seg 1 (pc' := 144) (lv' := [(0, .ref 31)]) (st' := []) rfl ?_
        exact lf_retV rfl rfl h
    · have h := h.2 c
      refine lf_seg 1 (pc' := 103) (lv' := [(0, .ref 31)]) (st' := [.ref 31]) rfl ?_
      refine lf_callV 106 rfl rfl rfl rfl (gm_33 h) (fun s35 h => ?_)
      refine lf_seg 1 (pc' := 144) (lv' := [(0, .ref 31)]) (st' := []) rfl ?_
      exact lf_retV rfl rfl h
  · have h := h.2 c
    refine lf_seg 2 (pc' := 81) (lv' := [(0, .ref 31)]) (st' := [.int (Int32.ofInt 0), .ref 31]) rfl ?_
    refine lf_putI 84 8 rfl rfl rfl rfl rfl rfl rfl rfl ?_
    refine lf_as (lf_up (lf_up s.1 31 9 (s.1 31 7)) 31 8 0, s.2.1, s.2.2) rfl ?_
    refine lf_seg 1 (pc' := 144) (lv' := [(0, .ref 31)]) (st' := []) rfl ?_
    exact lf_retV rfl rfl h
def fm_31_p47 (X8 : lf_Z → Prop) (Q : lf_Z → Prop) (s : lf_Z) : Prop := X8 (lf_up s.1 31 7 ((s.1 31 7) + 1), s.2.1, s.2.2)
set_option maxRecDepth 100000 in
theorem gm_31_p47 {L : Nat} {xs : Nat → Int32} {d : Nat} {X8 : lf_Z → Prop} {Q : lf_Z → Prop} {s : lf_Z} (hX8 : ∀ s, X8 s → lf_E (px_ro L xs) (d + 3) 31 8 [(0, .ref 31)] [] s (lf_qv Q)) (h : fm_31_p47 X8 Q s) : lf_E (px_ro L xs) (d + 3) 31 47 [(0, .ref 31)] [] s (lf_qv Q) := by
  unfold fm_31_p47 at h
  refine lf_seg 2 (pc' := 49) (lv' := [(0, .ref 31)]) (st' := [.ref 31, .ref 31]) rfl ?_
  refine lf_getI 52 7 rfl rfl rfl rfl rfl rfl rfl ?_
  refine lf_seg 1 (pc' := 53) (lv' := [(0, .ref 31)]) (st' := [.int (Int32.ofInt 1), .int (Int32.ofInt (s.1 31 7)), .ref 31]) rfl ?_
  refine lf_iadd 54 rfl rfl ?_
  refine lf_putI 57 7 rfl rfl rfl rfl rfl rfl rfl rfl ?_
  refine lf_as (lf_up s.1 31 7 ((s.1 31 7) + 1), s.2.1, s.2.2) rfl ?_
  refine lf_seg 1 (pc' := 8) (lv' := [(0, .ref 31)]) (st' := []) rfl ?_
  refine lf_sub (l := [(0, .ref 31)]) (lf_sb1 rfl lf_sb0) ?_
  exact hX8 _ h
def fm_31_p8 (Q : lf_Z → Prop) (X8 : lf_Z → Prop) (s : lf_Z) : Prop := lf_R (s.1 31 7) ∧ (lf_R (s.1 31 1) ∧ ((s.1 31 1 ≤ s.1 31 7 → (fm_31_p60 Q s)) ∧ (¬ (s.1 31 1 ≤ s.1 31 7) → ((0 ≤ s.1 31 7 ∧ s.1 31 7 < 300) ∧ (lf_R (s.1 32 (s.1 31 7)) ∧ ((s.1 32 (s.1 31 7) = 32 → (fm_31_p47 X8 Q s)) ∧ (¬ (s.1 32 (s.1 31 7) = 32) → ((s.1 32 (s.1 31 7) ≠ 10 → (fm_31_p60 Q s)) ∧ (¬ (s.1 32 (s.1 31 7) ≠ 10) → (fm_31_p47 X8 Q s))))))))))
def fm_31_p8L (Q : lf_Z → Prop) (s : lf_Z) : Prop := ∀ X8 : lf_Z → Prop, (∀ (s : lf_Z), fm_31_p8 Q X8 s → X8 s) → X8 s
set_option maxRecDepth 100000 in
theorem gm_31_p8 {L : Nat} {xs : Nat → Int32} {d : Nat} {Q : lf_Z → Prop} {s : lf_Z} {X8 : lf_Z → Prop} (hX8 : ∀ s, X8 s → lf_E (px_ro L xs) (d + 3) 31 8 [(0, .ref 31)] [] s (lf_qv Q)) (h : fm_31_p8 Q X8 s) : lf_E (px_ro L xs) (d + 3) 31 8 [(0, .ref 31)] [] s (lf_qv Q) := by
  unfold fm_31_p8 at h
  refine lf_seg 1 (pc' := 9) (lv' := [(0, .ref 31)]) (st' := [.ref 31]) rfl ?_
  refine lf_getI 12 7 rfl rfl rfl rfl rfl rfl rfl ?_
  refine lf_seg 1 (pc' := 13) (lv' := [(0, .ref 31)]) (st' := [.ref 31, .int (Int32.ofInt (s.1 31 7))]) rfl ?_
  refine lf_getI 16 1 rfl rfl rfl rfl rfl rfl rfl ?_
  obtain ⟨o22, h⟩ := h
  obtain ⟨o23, h⟩ := h
  refine lf_icmp_ge 60 19 rfl rfl rfl o22 o23 (fun c => ?_) (fun c => ?_)
  · have h := h.1 c
    refine lf_sub (l := [(0, .ref 31)]) (lf_sb1 rfl lf_sb0) ?_
    exact gm_31_p60 h
  · have h := h.2 c
    refine lf_seg 3 (pc' := 24) (lv' := [(0, .ref 31)]) (st' := [.ref 31, .ref 32]) rfl ?_
    refine lf_getI 27 7 rfl rfl rfl rfl rfl rfl rfl ?_
    obtain ⟨o36, h⟩ := h
    refine lf_iald 28 300 rfl rfl rfl rfl rfl rfl o36 ?_
    refine lf_bipush 30 32 rfl rfl (by decide) (by decide) ?_
    obtain ⟨o37, h⟩ := h
    refine lf_icmp_eq 47 33 rfl rfl rfl o37 ⟨by decide, by decide⟩ (fun c => ?_) (fun c => ?_)
    · have h := h.1 c
      refine lf_sub (l := [(0, .ref 31)]) (lf_sb1 rfl lf_sb0) ?_
      exact gm_31_p47 hX8 h
    · have h := h.2 c
      refine lf_seg 3 (pc' := 38) (lv' := [(0, .ref 31)]) (st' := [.ref 31, .ref 32]) rfl ?_
      refine lf_getI 41 7 rfl rfl rfl rfl rfl rfl rfl ?_
      refine lf_iald 42 300 rfl rfl rfl rfl rfl rfl o36 ?_
      refine lf_bipush 44 10 rfl rfl (by decide) (by decide) ?_
      refine lf_icmp_ne 60 47 rfl rfl rfl o37 ⟨by decide, by decide⟩ (fun c => ?_) (fun c => ?_)
      · have h := h.1 c
        refine lf_sub (l := [(0, .ref 31)]) (lf_sb1 rfl lf_sb0) ?_
        exact gm_31_p60 h
      · have h := h.2 c
        refine lf_sub (l := [(0, .ref 31)]) (lf_sb1 rfl lf_sb0) ?_
        exact gm_31_p47 hX8 h
theorem gm_31_p8L {L : Nat} {xs : Nat → Int32} {d : Nat} {Q : lf_Z → Prop} {s : lf_Z} (h : fm_31_p8L Q s) : lf_E (px_ro L xs) (d + 3) 31 8 [(0, .ref 31)] [] s (lf_qv Q) :=
  h (fun s => lf_E (px_ro L xs) (d + 3) 31 8 [(0, .ref 31)] [] s (lf_qv Q)) (fun s hb => gm_31_p8 (fun _ h => h) hb)
def fm_31 (Q : lf_Z → Prop) (s : lf_Z) : Prop := lf_R (s.1 31 2) ∧ ((s.1 31 2 = 0 → (fm_31_p8L Q s)) ∧ (¬ (s.1 31 2 = 0) → (Q s)))
set_option maxRecDepth 100000 in
theorem gm_31 {L : Nat} {xs : Nat → Int32} {d : Nat} {Q : lf_Z → Prop} {s : lf_Z} (h : fm_31 Q s) : lf_M (px_ro L xs) (d + 3) 31 [.ref 31] s (lf_qv Q) := by
  unfold fm_31 at h
  show lf_E (px_ro L xs) (d + 3) 31 0 [(0, .ref 31)] [] s _
  refine lf_seg 1 (pc' := 1) (lv' := [(0, .ref 31)]) (st' := [.ref 31]) rfl ?_
  refine lf_getI 4 2 rfl rfl rfl rfl rfl rfl rfl ?_
  obtain ⟨o21, h⟩ := h
  refine lf_if_eq 8 7 rfl rfl rfl o21 (fun c => ?_) (fun c => ?_)
  · have h := h.1 c
    refine lf_sub (l := [(0, .ref 31)]) (lf_sb1 rfl lf_sb0) ?_
    exact gm_31_p8L h
  · have h := h.2 c
    exact lf_retV rfl rfl h
-- fm_40 Script.hasLaw t i
def fm_40 (t0 : Nat) (a1 : Int) (Q : Bool → lf_Z → Prop) (s : lf_Z) : Prop := lf_R a1 ∧ ((a1 < 0 → (Q false s)) ∧ (¬ (a1 < 0) → ((3 ≤ a1 → (Q false s)) ∧ (¬ (3 ≤ a1) → ((0 ≤ a1 ∧ a1 < 3) ∧ (lf_R (s.1 (37 + 7 * t0) a1) ∧ ((s.1 (37 + 7 * t0) a1 = (-1) → (Q false s)) ∧ (¬ (s.1 (37 + 7 * t0) a1 = (-1)) → (Q true s)))))))))
set_option maxRecDepth 100000 in
theorem gm_40 {L : Nat} {xs : Nat → Int32} {d : Nat} {t0 : Nat} {a1 : Int} {Q : Bool → lf_Z → Prop} {s : lf_Z} (htt0 : t0 < 4) (h : fm_40 t0 a1 Q s) : lf_M (px_ro L xs) (d + 1) 40 [.ref (35 + 7 * t0), .int (Int32.ofInt a1)] s (lf_qz Q) := by
  unfold fm_40 at h
  show lf_E (px_ro L xs) (d + 1) 40 0 [(0, .ref (35 + 7 * t0)), (1, .int (Int32.ofInt a1))] [] s _
  refine lf_seg 1 (pc' := 1) (lv' := [(0, .ref (35 + 7 * t0)), (1, .int (Int32.ofInt a1))]) (st' := [.int (Int32.ofInt a1)]) rfl ?_
  obtain ⟨o21, h⟩ := h
  refine lf_if_lt 23 4 rfl rfl rfl o21 (fun c => ?_) (fun c => ?_)
  · have h := h.1 c
    refine lf_seg 1 (pc' := 24) (lv' := [(0, .ref (35 + 7 * t0)), (1, .int (Int32.ofInt a1))]) (st' := [.int (Int32.ofInt 0)]) rfl ?_
    exact lf_retZ false rfl rfl h
  · have h := h.2 c
    refine lf_seg 2 (pc' := 6) (lv' := [(0, .ref (35 + 7 * t0)), (1, .int (Int32.ofInt a1))]) (st' := [.int (Int32.ofInt 3), .int (Int32.ofInt a1)]) rfl ?_
    refine lf_icmp_ge 23 9 rfl rfl rfl o21 ⟨by decide, by decide⟩ (fun c => ?_) (fun c => ?_)
    · have h := h.1 c
      refine lf_seg 1 (pc' := 24) (lv' := [(0, .ref (35 + 7 * t0)), (1, .int (Int32.ofInt a1))]) (st' := [.int (Int32.ofInt 0)]) rfl ?_
      exact lf_retZ false rfl rfl h
    · have h := h.2 c
      refine lf_seg 1 (pc' := 10) (lv' := [(0, .ref (35 + 7 * t0)), (1, .int (Int32.ofInt a1))]) (st' := [.ref (35 + 7 * t0)]) rfl ?_
      refine lf_getR 13 (w := some (37 + 7 * t0)) rfl rfl rfl (lf_scr htt0) (lf_scL htt0) rfl (lf_sP2 htt0) ?_
      refine lf_seg 1 (pc' := 14) (lv' := [(0, .ref (35 + 7 * t0)), (1, .int (Int32.ofInt a1))]) (st' := [.int (Int32.ofInt a1), .ref (37 + 7 * t0)]) rfl ?_
      obtain ⟨o22, h⟩ := h
      refine lf_iald 15 3 rfl rfl (lf_sA2 htt0) (lf_sB2 htt0) rfl rfl o22 ?_
      refine lf_seg 1 (pc' := 16) (lv' := [(0, .ref (35 + 7 * t0)), (1, .int (Int32.ofInt a1))]) (st' := [.int (Int32.ofInt (-1)), .int (Int32.ofInt (s.1 (37 + 7 * t0) a1))]) rfl ?_
      obtain ⟨o23, h⟩ := h
      refine lf_icmp_eq 23 19 rfl rfl rfl o23 ⟨by decide, by decide⟩ (fun c => ?_) (fun c => ?_)
      · have h := h.1 c
        refine lf_seg 1 (pc' := 24) (lv' := [(0, .ref (35 + 7 * t0)), (1, .int (Int32.ofInt a1))]) (st' := [.int (Int32.ofInt 0)]) rfl ?_
        exact lf_retZ false rfl rfl h
      · have h := h.2 c
        refine lf_seg 2 (pc' := 24) (lv' := [(0, .ref (35 + 7 * t0)), (1, .int (Int32.ofInt a1))]) (st' := [.int (Int32.ofInt 1)]) rfl ?_
        exact lf_retZ true rfl rfl h
-- fm_39 Reader.fail 31 i
def fm_39_p20 (Q : lf_Z → Prop) (s : lf_Z) : Prop := Q (lf_up s.1 31 8 1, s.2.1, s.2.2)
set_option maxRecDepth 100000 in
theorem gm_39_p20 {L : Nat} {xs : Nat → Int32} {d : Nat} {Q : lf_Z → Prop} {s : lf_Z} (h : fm_39_p20 Q s) : lf_E (px_ro L xs) (d + 1) 39 20 [(0, .ref 31)] [] s (lf_qv Q) := by
  unfold fm_39_p20 at h
  refine lf_seg 2 (pc' := 22) (lv' := [(0, .ref 31)]) (st' := [.int (Int32.ofInt 1), .ref 31]) rfl ?_
  refine lf_putI 25 8 rfl rfl rfl rfl rfl rfl rfl rfl ?_
  refine lf_as (lf_up s.1 31 8 1, s.2.1, s.2.2) rfl ?_
  exact lf_retV rfl rfl h
def fm_39 (a1 : Int) (Q : lf_Z → Prop) (s : lf_Z) : Prop := lf_R (s.1 31 2) ∧ ((s.1 31 2 ≠ 0 → (fm_39_p20 Q s)) ∧ (¬ (s.1 31 2 ≠ 0) → (fm_39_p20 Q (lf_up (lf_up s.1 31 2 a1) 31 3 (s.1 31 9), s.2.1, s.2.2))))
set_option maxRecDepth 100000 in
theorem gm_39 {L : Nat} {xs : Nat → Int32} {d : Nat} {a1 : Int} {Q : lf_Z → Prop} {s : lf_Z} (h : fm_39 a1 Q s) : lf_M (px_ro L xs) (d + 1) 39 [.ref 31, .int (Int32.ofInt a1)] s (lf_qv Q) := by
  unfold fm_39 at h
  show lf_E (px_ro L xs) (d + 1) 39 0 [(0, .ref 31), (1, .int (Int32.ofInt a1))] [] s _
  refine lf_seg 1 (pc' := 1) (lv' := [(0, .ref 31), (1, .int (Int32.ofInt a1))]) (st' := [.ref 31]) rfl ?_
  refine lf_getI 4 2 rfl rfl rfl rfl rfl rfl rfl ?_
  obtain ⟨o21, h⟩ := h
  refine lf_if_ne 20 7 rfl rfl rfl o21 (fun c => ?_) (fun c => ?_)
  · have h := h.1 c
    refine lf_sub (l := [(0, .ref 31)]) (lf_sb1 rfl lf_sb0) ?_
    exact gm_39_p20 h
  · have h := h.2 c
    refine lf_seg 2 (pc' := 9) (lv' := [(0, .ref 31), (1, .int (Int32.ofInt a1))]) (st' := [.int (Int32.ofInt a1), .ref 31]) rfl ?_
    refine lf_putI 12 2 rfl rfl rfl rfl rfl rfl rfl rfl ?_
    refine lf_as (lf_up s.1 31 2 a1, s.2.1, s.2.2) rfl ?_
    refine lf_seg 2 (pc' := 14) (lv' := [(0, .ref 31), (1, .int (Int32.ofInt a1))]) (st' := [.ref 31, .ref 31]) rfl ?_
    refine lf_getI 17 9 rfl rfl rfl rfl rfl rfl rfl ?_
    refine lf_seg 0 (pc' := 17) (lv' := [(0, .ref 31), (1, .int (Int32.ofInt a1))]) (st' := [.int (Int32.ofInt (s.1 31 9)), .ref 31]) rfl ?_
    refine lf_putI 20 3 rfl rfl rfl rfl rfl rfl rfl rfl ?_
    refine lf_as (lf_up (lf_up s.1 31 2 a1) 31 3 (s.1 31 9), s.2.1, s.2.2) rfl ?_
    refine lf_sub (l := [(0, .ref 31)]) (lf_sb1 rfl lf_sb0) ?_
    exact gm_39_p20 h
-- fm_44 Reader.readNumber 31 i i
def fm_44 (a1 : Int) (a2 : Int) (Q : Int → lf_Z → Prop) (s : lf_Z) : Prop := lf_R (s.1 31 8) ∧ ((s.1 31 8 = 2 → (fm_15 (s.1 31 10) a1 a2 (fun z23 s22 => ((z23 = true → (fm_31 (fun s24 => (Q (s22.1 31 10) s24)) s22)) ∧ (z23 = false → (fm_39 2 (fun s25 => (Q a1 s25)) s22)))) s)) ∧ (¬ (s.1 31 8 = 2) → (fm_39 1 (fun s26 => (Q a1 s26)) s)))
set_option maxRecDepth 100000 in
theorem gm_44 {L : Nat} {xs : Nat → Int32} {d : Nat} {a1 : Int} {a2 : Int} {Q : Int → lf_Z → Prop} {s : lf_Z} (h : fm_44 a1 a2 Q s) : lf_M (px_ro L xs) (d + 4) 44 [.ref 31, .int (Int32.ofInt a1), .int (Int32.ofInt a2)] s (lf_qi Q) := by
  unfold fm_44 at h
  show lf_E (px_ro L xs) (d + 4) 44 0 [(0, .ref 31), (1, .int (Int32.ofInt a1)), (2, .int (Int32.ofInt a2))] [] s _
  refine lf_seg 1 (pc' := 1) (lv' := [(0, .ref 31), (1, .int (Int32.ofInt a1)), (2, .int (Int32.ofInt a2))]) (st' := [.ref 31]) rfl ?_
  refine lf_getI 4 8 rfl rfl rfl rfl rfl rfl rfl ?_
  refine lf_seg 1 (pc' := 5) (lv' := [(0, .ref 31), (1, .int (Int32.ofInt a1)), (2, .int (Int32.ofInt a2))]) (st' := [.int (Int32.ofInt 2), .int (Int32.ofInt (s.1 31 8))]) rfl ?_
  obtain ⟨o21, h⟩ := h
  refine lf_icmp_eq 15 8 rfl rfl rfl o21 ⟨by decide, by decide⟩ (fun c => ?_) (fun c => ?_)
  · have h := h.1 c
    refine lf_seg 1 (pc' := 16) (lv' := [(0, .ref 31), (1, .int (Int32.ofInt a1)), (2, .int (Int32.ofInt a2))]) (st' := [.ref 31]) rfl ?_
    refine lf_getI 19 10 rfl rfl rfl rfl rfl rfl rfl ?_
    refine lf_seg 2 (pc' := 21) (lv' := [(0, .ref 31), (1, .int (Int32.ofInt a1)), (2, .int (Int32.ofInt a2))]) (st' := [.int (Int32.ofInt a2), .int (Int32.ofInt a1), .int (Int32.ofInt (s.1 31 10))]) rfl ?_
    refine lf_callZ 24 rfl rfl rfl rfl (gm_15 h) (fun z23 s22 h => ?_)
    refine lf_ifz_ne 34 27 rfl rfl rfl (fun c => ?_) (fun c => ?_)
    · have h := h.1 c
      refine lf_seg 1 (pc' := 35) (lv' := [(0, .ref 31), (1, .int (Int32.ofInt a1)), (2, .int (Int32.ofInt a2))]) (st' := [.ref 31]) rfl ?_
      refine lf_getI 38 10 rfl rfl rfl rfl rfl rfl rfl ?_
      refine lf_seg 2 (pc' := 40) (lv' := [(3, .int (Int32.ofInt (s22.1 31 10))), (0, .ref 31), (1, .int (Int32.ofInt a1)), (2, .int (Int32.ofInt a2))]) (st' := [.ref 31]) rfl ?_
      refine lf_callV 43 rfl rfl rfl rfl (gm_31 h) (fun s24 h => ?_)
      refine lf_seg 1 (pc' := 44) (lv' := [(3, .int (Int32.ofInt (s22.1 31 10))), (0, .ref 31), (1, .int (Int32.ofInt a1)), (2, .int (Int32.ofInt a2))]) (st' := [.int (Int32.ofInt (s22.1 31 10))]) rfl ?_
      exact lf_retI rfl rfl h
    · have h := h.2 c
      refine lf_seg 2 (pc' := 29) (lv' := [(0, .ref 31), (1, .int (Int32.ofInt a1)), (2, .int (Int32.ofInt a2))]) (st' := [.int (Int32.ofInt 2), .ref 31]) rfl ?_
      refine lf_callV 32 rfl rfl rfl rfl (gm_39 h) (fun s25 h => ?_)
      refine lf_seg 1 (pc' := 33) (lv' := [(0, .ref 31), (1, .int (Int32.ofInt a1)), (2, .int (Int32.ofInt a2))]) (st' := [.int (Int32.ofInt a1)]) rfl ?_
      exact lf_retI rfl rfl h
  · have h := h.2 c
    refine lf_seg 2 (pc' := 10) (lv' := [(0, .ref 31), (1, .int (Int32.ofInt a1)), (2, .int (Int32.ofInt a2))]) (st' := [.int (Int32.ofInt 1), .ref 31]) rfl ?_
    refine lf_callV 13 rfl rfl rfl rfl (gm_39 h) (fun s26 h => ?_)
    refine lf_seg 1 (pc' := 14) (lv' := [(0, .ref 31), (1, .int (Int32.ofInt a1)), (2, .int (Int32.ofInt a2))]) (st' := [.int (Int32.ofInt a1)]) rfl ?_
    exact lf_retI rfl rfl h
-- fm_57 Script.addClause t i i i
def fm_57 (t0 : Nat) (a1 : Int) (a2 : Int) (a3 : Int) (Q : lf_Z → Prop) (s : lf_Z) : Prop := lf_R (s.1 (35 + 7 * t0) 7) ∧ ((24 ≤ s.1 (35 + 7 * t0) 7 → (Q s)) ∧ (¬ (24 ≤ s.1 (35 + 7 * t0) 7) → ((0 ≤ s.1 (35 + 7 * t0) 7 ∧ s.1 (35 + 7 * t0) 7 < 24) ∧ ((0 ≤ (lf_up s.1 (39 + 7 * t0) (s.1 (35 + 7 * t0) 7) a1) (35 + 7 * t0) 7 ∧ (lf_up s.1 (39 + 7 * t0) (s.1 (35 + 7 * t0) 7) a1) (35 + 7 * t0) 7 < 24) ∧ ((0 ≤ (lf_up (lf_up s.1 (39 + 7 * t0) (s.1 (35 + 7 * t0) 7) a1) (40 + 7 * t0) ((lf_up s.1 (39 + 7 * t0) (s.1 (35 + 7 * t0) 7) a1) (35 + 7 * t0) 7) a2) (35 + 7 * t0) 7 ∧ (lf_up (lf_up s.1 (39 + 7 * t0) (s.1 (35 + 7 * t0) 7) a1) (40 + 7 * t0) ((lf_up s.1 (39 + 7 * t0) (s.1 (35 + 7 * t0) 7) a1) (35 + 7 * t0) 7) a2) (35 + 7 * t0) 7 < 24) ∧ (Q (lf_up (lf_up (lf_up (lf_up s.1 (39 + 7 * t0) (s.1 (35 + 7 * t0) 7) a1) (40 + 7 * t0) ((lf_up s.1 (39 + 7 * t0) (s.1 (35 + 7 * t0) 7) a1) (35 + 7 * t0) 7) a2) (41 + 7 * t0) ((lf_up (lf_up s.1 (39 + 7 * t0) (s.1 (35 + 7 * t0) 7) a1) (40 + 7 * t0) ((lf_up s.1 (39 + 7 * t0) (s.1 (35 + 7 * t0) 7) a1) (35 + 7 * t0) 7) a2) (35 + 7 * t0) 7) a3) (35 + 7 * t0) 7 (((lf_up (lf_up (lf_up s.1 (39 + 7 * t0) (s.1 (35 + 7 * t0) 7) a1) (40 + 7 * t0) ((lf_up s.1 (39 + 7 * t0) (s.1 (35 + 7 * t0) 7) a1) (35 + 7 * t0) 7) a2) (41 + 7 * t0) ((lf_up (lf_up s.1 (39 + 7 * t0) (s.1 (35 + 7 * t0) 7) a1) (40 + 7 * t0) ((lf_up s.1 (39 + 7 * t0) (s.1 (35 + 7 * t0) 7) a1) (35 + 7 * t0) 7) a2) (35 + 7 * t0) 7) a3) (35 + 7 * t0) 7) + 1), s.2.1, s.2.2)))))))
set_option maxRecDepth 100000 in
theorem gm_57 {L : Nat} {xs : Nat → Int32} {d : Nat} {t0 : Nat} {a1 : Int} {a2 : Int} {a3 : Int} {Q : lf_Z → Prop} {s : lf_Z} (htt0 : t0 < 4) (h : fm_57 t0 a1 a2 a3 Q s) : lf_M (px_ro L xs) (d + 1) 57 [.ref (35 + 7 * t0), .int (Int32.ofInt a1), .int (Int32.ofInt a2), .int (Int32.ofInt a3)] s (lf_qv Q) := by
  unfold fm_57 at h
  show lf_E (px_ro L xs) (d + 1) 57 0 [(0, .ref (35 + 7 * t0)), (1, .int (Int32.ofInt a1)), (2, .int (Int32.ofInt a2)), (3, .int (Int32.ofInt a3))] [] s _
  refine lf_seg 1 (pc' := 1) (lv' := [(0, .ref (35 + 7 * t0)), (1, .int (Int32.ofInt a1)), (2, .int (Int32.ofInt a2)), (3, .int (Int32.ofInt a3))]) (st' := [.ref (35 + 7 * t0)]) rfl ?_
  refine lf_getI 4 7 rfl rfl rfl (lf_scr htt0) (lf_scL htt0) rfl rfl ?_
  refine lf_bipush 6 24 rfl rfl (by decide) (by decide) ?_
  obtain ⟨o21, h⟩ := h
  refine lf_icmp_ge 49 9 rfl rfl rfl o21 ⟨by decide, by decide⟩ (fun c => ?_) (fun c => ?_)
  · have h := h.1 c
    exact lf_retV rfl rfl h
  · have h := h.2 c
    refine lf_seg 1 (pc' := 10) (lv' := [(0, .ref (35 + 7 * t0)), (1, .int (Int32.ofInt a1)), (2, .int (Int32.ofInt a2)), (3, .int (Int32.ofInt a3))]) (st' := [.ref (35 + 7 * t0)]) rfl ?_
    refine lf_getR 13 (w := some (39 + 7 * t0)) rfl rfl rfl (lf_scr htt0) (lf_scL htt0) rfl (lf_sP4 htt0) ?_
    refine lf_seg 1 (pc' := 14) (lv' := [(0, .ref (35 + 7 * t0)), (1, .int (Int32.ofInt a1)), (2, .int (Int32.ofInt a2)), (3, .int (Int32.ofInt a3))]) (st' := [.ref (35 + 7 * t0), .ref (39 + 7 * t0)]) rfl ?_
    refine lf_getI 17 7 rfl rfl rfl (lf_scr htt0) (lf_scL htt0) rfl rfl ?_
    refine lf_seg 1 (pc' := 18) (lv' := [(0, .ref (35 + 7 * t0)), (1, .int (Int32.ofInt a1)), (2, .int (Int32.ofInt a2)), (3, .int (Int32.ofInt a3))]) (st' := [.int (Int32.ofInt a1), .int (Int32.ofInt (s.1 (35 + 7 * t0) 7)), .ref (39 + 7 * t0)]) rfl ?_
    obtain ⟨o22, h⟩ := h
    refine lf_iast 19 24 rfl rfl (lf_sA4 htt0) (lf_sC4 htt0) rfl rfl o22 ?_
    refine lf_as (lf_up s.1 (39 + 7 * t0) (s.1 (35 + 7 * t0) 7) a1, s.2.1, s.2.2) rfl ?_
    refine lf_seg 1 (pc' := 20) (lv' := [(0, .ref (35 + 7 * t0)), (1, .int (Int32.ofInt a1)), (2, .int (Int32.ofInt a2)), (3, .int (Int32.ofInt a3))]) (st' := [.ref (35 + 7 * t0)]) rfl ?_
    refine lf_getR 23 (w := some (40 + 7 * t0)) rfl rfl rfl (lf_scr htt0) (lf_scL htt0) rfl (lf_sP5 htt0) ?_
    refine lf_seg 1 (pc' := 24) (lv' := [(0, .ref (35 + 7 * t0)), (1, .int (Int32.ofInt a1)), (2, .int (Int32.ofInt a2)), (3, .int (Int32.ofInt a3))]) (st' := [.ref (35 + 7 * t0), .ref (40 + 7 * t0)]) rfl ?_
    refine lf_getI 27 7 rfl rfl rfl (lf_scr htt0) (lf_scL htt0) rfl rfl ?_
    refine lf_seg 1 (pc' := 28) (lv' := [(0, .ref (35 + 7 * t0)), (1, .int (Int32.ofInt a1)), (2, .int (Int32.ofInt a2)), (3, .int (Int32.ofInt a3))]) (st' := [.int (Int32.ofInt a2), .int (Int32.ofInt ((lf_up s.1 (39 + 7 * t0) (s.1 (35 + 7 * t0) 7) a1) (35 + 7 * t0) 7)), .ref (40 + 7 * t0)]) rfl ?_
    obtain ⟨o23, h⟩ := h
    refine lf_iast 29 24 rfl rfl (lf_sA5 htt0) (lf_sC5 htt0) rfl rfl o23 ?_
    refine lf_as (lf_up (lf_up s.1 (39 + 7 * t0) (s.1 (35 + 7 * t0) 7) a1) (40 + 7 * t0) ((lf_up s.1 (39 + 7 * t0) (s.1 (35 + 7 * t0) 7) a1) (35 + 7 * t0) 7) a2, s.2.1, s.2.2) rfl ?_
    refine lf_seg 1 (pc' := 30) (lv' := [(0, .ref (35 + 7 * t0)), (1, .int (Int32.ofInt a1)), (2, .int (Int32.ofInt a2)), (3, .int (Int32.ofInt a3))]) (st' := [.ref (35 + 7 * t0)]) rfl ?_
    refine lf_getR 33 (w := some (41 + 7 * t0)) rfl rfl rfl (lf_scr htt0) (lf_scL htt0) rfl (lf_sP6 htt0) ?_
    refine lf_seg 1 (pc' := 34) (lv' := [(0, .ref (35 + 7 * t0)), (1, .int (Int32.ofInt a1)), (2, .int (Int32.ofInt a2)), (3, .int (Int32.ofInt a3))]) (st' := [.ref (35 + 7 * t0), .ref (41 + 7 * t0)]) rfl ?_
    refine lf_getI 37 7 rfl rfl rfl (lf_scr htt0) (lf_scL htt0) rfl rfl ?_
    refine lf_seg 1 (pc' := 38) (lv' := [(0, .ref (35 + 7 * t0)), (1, .int (Int32.ofInt a1)), (2, .int (Int32.ofInt a2)), (3, .int (Int32.ofInt a3))]) (st' := [.int (Int32.ofInt a3), .int (Int32.ofInt ((lf_up (lf_up s.1 (39 + 7 * t0) (s.1 (35 + 7 * t0) 7) a1) (40 + 7 * t0) ((lf_up s.1 (39 + 7 * t0) (s.1 (35 + 7 * t0) 7) a1) (35 + 7 * t0) 7) a2) (35 + 7 * t0) 7)), .ref (41 + 7 * t0)]) rfl ?_
    obtain ⟨o24, h⟩ := h
    refine lf_iast 39 24 rfl rfl (lf_sA6 htt0) (lf_sC6 htt0) rfl rfl o24 ?_
    refine lf_as (lf_up (lf_up (lf_up s.1 (39 + 7 * t0) (s.1 (35 + 7 * t0) 7) a1) (40 + 7 * t0) ((lf_up s.1 (39 + 7 * t0) (s.1 (35 + 7 * t0) 7) a1) (35 + 7 * t0) 7) a2) (41 + 7 * t0) ((lf_up (lf_up s.1 (39 + 7 * t0) (s.1 (35 + 7 * t0) 7) a1) (40 + 7 * t0) ((lf_up s.1 (39 + 7 * t0) (s.1 (35 + 7 * t0) 7) a1) (35 + 7 * t0) 7) a2) (35 + 7 * t0) 7) a3, s.2.1, s.2.2) rfl ?_
    refine lf_seg 2 (pc' := 41) (lv' := [(0, .ref (35 + 7 * t0)), (1, .int (Int32.ofInt a1)), (2, .int (Int32.ofInt a2)), (3, .int (Int32.ofInt a3))]) (st' := [.ref (35 + 7 * t0), .ref (35 + 7 * t0)]) rfl ?_
    refine lf_getI 44 7 rfl rfl rfl (lf_scr htt0) (lf_scL htt0) rfl rfl ?_
    refine lf_seg 1 (pc' := 45) (lv' := [(0, .ref (35 + 7 * t0)), (1, .int (Int32.ofInt a1)), (2, .int (Int32.ofInt a2)), (3, .int (Int32.ofInt a3))]) (st' := [.int (Int32.ofInt 1), .int (Int32.ofInt ((lf_up (lf_up (lf_up s.1 (39 + 7 * t0) (s.1 (35 + 7 * t0) 7) a1) (40 + 7 * t0) ((lf_up s.1 (39 + 7 * t0) (s.1 (35 + 7 * t0) 7) a1) (35 + 7 * t0) 7) a2) (41 + 7 * t0) ((lf_up (lf_up s.1 (39 + 7 * t0) (s.1 (35 + 7 * t0) 7) a1) (40 + 7 * t0) ((lf_up s.1 (39 + 7 * t0) (s.1 (35 + 7 * t0) 7) a1) (35 + 7 * t0) 7) a2) (35 + 7 * t0) 7) a3) (35 + 7 * t0) 7)), .ref (35 + 7 * t0)]) rfl ?_
    refine lf_iadd 46 rfl rfl ?_
    refine lf_putI 49 7 rfl rfl rfl (lf_scr htt0) (lf_scL htt0) rfl rfl rfl ?_
    refine lf_as (lf_up (lf_up (lf_up (lf_up s.1 (39 + 7 * t0) (s.1 (35 + 7 * t0) 7) a1) (40 + 7 * t0) ((lf_up s.1 (39 + 7 * t0) (s.1 (35 + 7 * t0) 7) a1) (35 + 7 * t0) 7) a2) (41 + 7 * t0) ((lf_up (lf_up s.1 (39 + 7 * t0) (s.1 (35 + 7 * t0) 7) a1) (40 + 7 * t0) ((lf_up s.1 (39 + 7 * t0) (s.1 (35 + 7 * t0) 7) a1) (35 + 7 * t0) 7) a2) (35 + 7 * t0) 7) a3) (35 + 7 * t0) 7 (((lf_up (lf_up (lf_up s.1 (39 + 7 * t0) (s.1 (35 + 7 * t0) 7) a1) (40 + 7 * t0) ((lf_up s.1 (39 + 7 * t0) (s.1 (35 + 7 * t0) 7) a1) (35 + 7 * t0) 7) a2) (41 + 7 * t0) ((lf_up (lf_up s.1 (39 + 7 * t0) (s.1 (35 + 7 * t0) 7) a1) (40 + 7 * t0) ((lf_up s.1 (39 + 7 * t0) (s.1 (35 + 7 * t0) 7) a1) (35 + 7 * t0) 7) a2) (35 + 7 * t0) 7) a3) (35 + 7 * t0) 7) + 1), s.2.1, s.2.2) rfl ?_
    exact lf_retV rfl rfl h
-- fm_48 Reader.expect 31 i
def fm_48 (a1 : Int) (Q : lf_Z → Prop) (s : lf_Z) : Prop := lf_R (s.1 31 8) ∧ (lf_R a1 ∧ ((s.1 31 8 ≠ a1 → (fm_39 1 (fun s23 => (Q s23)) s)) ∧ (¬ (s.1 31 8 ≠ a1) → (fm_31 (fun s24 => (Q s24)) s))))
set_option maxRecDepth 100000 in
theorem gm_48 {L : Nat} {xs : Nat → Int32} {d : Nat} {a1 : Int} {Q : lf_Z → Prop} {s : lf_Z} (h : fm_48 a1 Q s) : lf_M (px_ro L xs) (d + 4) 48 [.ref 31, .int (Int32.ofInt a1)] s (lf_qv Q) := by
  unfold fm_48 at h
  show lf_E (px_ro L xs) (d + 4) 48 0 [(0, .ref 31), (1, .int (Int32.ofInt a1))] [] s _
  refine lf_seg 1 (pc' := 1) (lv' := [(0, .ref 31), (1, .int (Int32.ofInt a1))]) (st' := [.ref 31]) rfl ?_
  refine lf_getI 4 8 rfl rfl rfl rfl rfl rfl rfl ?_
  refine lf_seg 1 (pc' := 5) (lv' := [(0, .ref 31), (1, .int (Int32.ofInt a1))]) (st' := [.int (Int32.ofInt a1), .int (Int32.ofInt (s.1 31 8))]) rfl ?_
  obtain ⟨o21, h⟩ := h
  obtain ⟨o22, h⟩ := h
  refine lf_icmp_ne 15 8 rfl rfl rfl o21 o22 (fun c => ?_) (fun c => ?_)
  · have h := h.1 c
    refine lf_seg 2 (pc' := 17) (lv' := [(0, .ref 31), (1, .int (Int32.ofInt a1))]) (st' := [.int (Int32.ofInt 1), .ref 31]) rfl ?_
    refine lf_callV 20 rfl rfl rfl rfl (gm_39 h) (fun s23 h => ?_)
    exact lf_retV rfl rfl h
  · have h := h.2 c
    refine lf_seg 1 (pc' := 9) (lv' := [(0, .ref 31), (1, .int (Int32.ofInt a1))]) (st' := [.ref 31]) rfl ?_
    refine lf_callV 12 rfl rfl rfl rfl (gm_31 h) (fun s24 h => ?_)
    refine lf_seg 1 (pc' := 20) (lv' := [(0, .ref 31), (1, .int (Int32.ofInt a1))]) (st' := []) rfl ?_
    exact lf_retV rfl rfl h
-- fm_58 Reader.readDeed 31 i
def fm_58_p68 (Q : lf_Z → Prop) (x1 : Int) (x3 : Int) (x4 : Int) (s : lf_Z) : Prop := (s.2.2 2 = none → (False)) ∧ (∀ t26 : Nat, s.2.2 2 = some t26 → t26 < 4 ∧ (fm_57 t26 x1 x3 x4 (fun s27 => (Q s27)) s))
set_option maxRecDepth 100000 in
theorem gm_58_p68 {L : Nat} {xs : Nat → Int32} {d : Nat} {Q : lf_Z → Prop} {x1 : Int} {x3 : Int} {x4 : Int} {s : lf_Z} (h : fm_58_p68 Q x1 x3 x4 s) : lf_E (px_ro L xs) (d + 5) 58 68 [(0, .ref 31), (1, .int (Int32.ofInt x1)), (3, .int (Int32.ofInt x3)), (4, .int (Int32.ofInt x4))] [] s (lf_qv Q) := by
  unfold fm_58_p68 at h
  refine lf_seg 1 (pc' := 69) (lv' := [(0, .ref 31), (1, .int (Int32.ofInt x1)), (3, .int (Int32.ofInt x3)), (4, .int (Int32.ofInt x4))]) (st' := [.ref 31]) rfl ?_
  cases et26 : s.2.2 2 with
  | none =>
    have h := h.1 et26
    refine lf_getR 72 (w := none) rfl rfl rfl rfl rfl rfl (congrArg (Option.map (fun t => 35 + 7 * t)) et26) ?_
    refine lf_seg 3 (pc' := 76) (lv' := [(0, .ref 31), (1, .int (Int32.ofInt x1)), (3, .int (Int32.ofInt x3)), (4, .int (Int32.ofInt x4))]) (st' := [.int (Int32.ofInt x4), .int (Int32.ofInt x3), .int (Int32.ofInt x1), .null]) rfl ?_
    exact h.elim
  | some t26 =>
    obtain ⟨htt26, h⟩ := h.2 t26 et26
    refine lf_getR 72 (w := some (35 + 7 * t26)) rfl rfl rfl rfl rfl rfl (congrArg (Option.map (fun t => 35 + 7 * t)) et26) ?_
    refine lf_seg 3 (pc' := 76) (lv' := [(0, .ref 31), (1, .int (Int32.ofInt x1)), (3, .int (Int32.ofInt x3)), (4, .int (Int32.ofInt x4))]) (st' := [.int (Int32.ofInt x4), .int (Int32.ofInt x3), .int (Int32.ofInt x1), .ref (35 + 7 * t26)]) rfl ?_
    refine lf_callV 79 rfl rfl (lf_invT htt26 rfl rfl rfl rfl) rfl (gm_57 htt26 h) (fun s27 h => ?_)
    exact lf_retV rfl rfl h
def fm_58 (a1 : Int) (Q : lf_Z → Prop) (s : lf_Z) : Prop := (0 ≤ (a1 - 23) * 5 ∧ (a1 - 23) * 5 < 50) ∧ ((0 ≤ ((a1 - 23) * 5) + 1 ∧ ((a1 - 23) * 5) + 1 < 50) ∧ (fm_44 ((px_sh ((a1 - 23) * 5).toNat).toInt) ((px_sh (((a1 - 23) * 5) + 1).toNat).toInt) (fun r24 s23 => ((0 ≤ ((a1 - 23) * 5) + 2 ∧ ((a1 - 23) * 5) + 2 < 50) ∧ (((px_sh (((a1 - 23) * 5) + 2).toNat).toInt = 0 → (fm_58_p68 Q a1 r24 0 s23)) ∧ (¬ ((px_sh (((a1 - 23) * 5) + 2).toNat).toInt = 0) → (fm_48 ((px_sh (((a1 - 23) * 5) + 2).toNat).toInt) (fun s28 => ((0 ≤ ((a1 - 23) * 5) + 3 ∧ ((a1 - 23) * 5) + 3 < 50) ∧ ((0 ≤ ((a1 - 23) * 5) + 4 ∧ ((a1 - 23) * 5) + 4 < 50) ∧ (fm_44 ((px_sh (((a1 - 23) * 5) + 3).toNat).toInt) ((px_sh (((a1 - 23) * 5) + 4).toNat).toInt) (fun r32 s31 => (fm_58_p68 Q a1 r24 r32 s31)) s28)))) s23))))) s))
set_option maxRecDepth 100000 in
theorem gm_58 {L : Nat} {xs : Nat → Int32} {d : Nat} {a1 : Int} {Q : lf_Z → Prop} {s : lf_Z} (h : fm_58 a1 Q s) : lf_M (px_ro L xs) (d + 5) 58 [.ref 31, .int (Int32.ofInt a1)] s (lf_qv Q) := by
  unfold fm_58 at h
  show lf_E (px_ro L xs) (d + 5) 58 0 [(0, .ref 31), (1, .int (Int32.ofInt a1))] [] s _
  refine lf_seg 1 (pc' := 1) (lv' := [(0, .ref 31), (1, .int (Int32.ofInt a1))]) (st' := [.int (Int32.ofInt a1)]) rfl ?_
  refine lf_bipush 3 23 rfl rfl (by decide) (by decide) ?_
  refine lf_isub 4 rfl rfl ?_
  refine lf_seg 1 (pc' := 5) (lv' := [(0, .ref 31), (1, .int (Int32.ofInt a1))]) (st' := [.int (Int32.ofInt 5), .int (Int32.ofInt (a1 - 23))]) rfl ?_
  refine lf_imul 6 rfl rfl ?_
  refine lf_seg 2 (pc' := 8) (lv' := [(2, .int (Int32.ofInt ((a1 - 23) * 5))), (0, .ref 31), (1, .int (Int32.ofInt a1))]) (st' := [.ref 31]) rfl ?_
  refine lf_getst 11 101 rfl rfl rfl ?_
  refine lf_seg 1 (pc' := 12) (lv' := [(2, .int (Int32.ofInt ((a1 - 23) * 5))), (0, .ref 31), (1, .int (Int32.ofInt a1))]) (st' := [.int (Int32.ofInt ((a1 - 23) * 5)), .ref (px_SC + 1), .ref 31]) rfl ?_
  obtain ⟨o21, h⟩ := h
  refine lf_iro 13 1 50 50 rfl rfl rfl rfl rfl o21 ?_
  refine lf_getst 16 101 rfl rfl rfl ?_
  refine lf_seg 2 (pc' := 18) (lv' := [(2, .int (Int32.ofInt ((a1 - 23) * 5))), (0, .ref 31), (1, .int (Int32.ofInt a1))]) (st' := [.int (Int32.ofInt 1), .int (Int32.ofInt ((a1 - 23) * 5)), .ref (px_SC + 1), .int (Int32.ofInt ((px_sh ((a1 - 23) * 5).toNat).toInt)), .ref 31]) rfl ?_
  refine lf_iadd 19 rfl rfl ?_
  obtain ⟨o22, h⟩ := h
  refine lf_iro 20 1 50 50 rfl rfl rfl rfl rfl o22 ?_
  refine lf_callI 23 rfl rfl rfl rfl (gm_44 h) (fun r24 s23 h => ?_)
  refine lf_seg 3 (pc' := 27) (lv' := [(4, .int (Int32.ofInt 0)), (3, .int (Int32.ofInt r24)), (2, .int (Int32.ofInt ((a1 - 23) * 5))), (0, .ref 31), (1, .int (Int32.ofInt a1))]) (st' := []) rfl ?_
  refine lf_getst 30 101 rfl rfl rfl ?_
  refine lf_seg 2 (pc' := 32) (lv' := [(4, .int (Int32.ofInt 0)), (3, .int (Int32.ofInt r24)), (2, .int (Int32.ofInt ((a1 - 23) * 5))), (0, .ref 31), (1, .int (Int32.ofInt a1))]) (st' := [.int (Int32.ofInt 2), .int (Int32.ofInt ((a1 - 23) * 5)), .ref (px_SC + 1)]) rfl ?_
  refine lf_iadd 33 rfl rfl ?_
  obtain ⟨o25, h⟩ := h
  refine lf_iro 34 1 50 50 rfl rfl rfl rfl rfl o25 ?_
  refine lf_if_eq 68 37 rfl rfl rfl (lf_R_i _) (fun c => ?_) (fun c => ?_)
  · have h := h.1 c
    refine lf_sub (l := [(0, .ref 31), (1, .int (Int32.ofInt a1)), (3, .int (Int32.ofInt r24)), (4, .int (Int32.ofInt 0))]) (lf_sb1 rfl (lf_sb1 rfl (lf_sb1 rfl (lf_sb1 rfl lf_sb0)))) ?_
    exact gm_58_p68 h
  · have h := h.2 c
    refine lf_seg 1 (pc' := 38) (lv' := [(4, .int (Int32.ofInt 0)), (3, .int (Int32.ofInt r24)), (2, .int (Int32.ofInt ((a1 - 23) * 5))), (0, .ref 31), (1, .int (Int32.ofInt a1))]) (st' := [.ref 31]) rfl ?_
    refine lf_getst 41 101 rfl rfl rfl ?_
    refine lf_seg 2 (pc' := 43) (lv' := [(4, .int (Int32.ofInt 0)), (3, .int (Int32.ofInt r24)), (2, .int (Int32.ofInt ((a1 - 23) * 5))), (0, .ref 31), (1, .int (Int32.ofInt a1))]) (st' := [.int (Int32.ofInt 2), .int (Int32.ofInt ((a1 - 23) * 5)), .ref (px_SC + 1), .ref 31]) rfl ?_
    refine lf_iadd 44 rfl rfl ?_
    refine lf_iro 45 1 50 50 rfl rfl rfl rfl rfl o25 ?_
    refine lf_callV 48 rfl rfl rfl rfl (gm_48 h) (fun s28 h => ?_)
    refine lf_seg 1 (pc' := 49) (lv' := [(4, .int (Int32.ofInt 0)), (3, .int (Int32.ofInt r24)), (2, .int (Int32.ofInt ((a1 - 23) * 5))), (0, .ref 31), (1, .int (Int32.ofInt a1))]) (st' := [.ref 31]) rfl ?_
    refine lf_getst 52 101 rfl rfl rfl ?_
    refine lf_seg 2 (pc' := 54) (lv' := [(4, .int (Int32.ofInt 0)), (3, .int (Int32.ofInt r24)), (2, .int (Int32.ofInt ((a1 - 23) * 5))), (0, .ref 31), (1, .int (Int32.ofInt a1))]) (st' := [.int (Int32.ofInt 3), .int (Int32.ofInt ((a1 - 23) * 5)), .ref (px_SC + 1), .ref 31]) rfl ?_
    refine lf_iadd 55 rfl rfl ?_
    obtain ⟨o29, h⟩ := h
    refine lf_iro 56 1 50 50 rfl rfl rfl rfl rfl o29 ?_
    refine lf_getst 59 101 rfl rfl rfl ?_
    refine lf_seg 2 (pc' := 61) (lv' := [(4, .int (Int32.ofInt 0)), (3, .int (Int32.ofInt r24)), (2, .int (Int32.ofInt ((a1 - 23) * 5))), (0, .ref 31), (1, .int (Int32.ofInt a1))]) (st' := [.int (Int32.ofInt 4), .int (Int32.ofInt ((a1 - 23) * 5)), .ref (px_SC + 1), .int (Int32.ofInt ((px_sh (((a1 - 23) * 5) + 3).toNat).toInt)), .ref 31]) rfl ?_
    refine lf_iadd 62 rfl rfl ?_
    obtain ⟨o30, h⟩ := h
    refine lf_iro 63 1 50 50 rfl rfl rfl rfl rfl o30 ?_
    refine lf_callI 66 rfl rfl rfl rfl (gm_44 h) (fun r32 s31 h => ?_)
    refine lf_seg 1 (pc' := 68) (lv' := [(4, .int (Int32.ofInt r32)), (3, .int (Int32.ofInt r24)), (2, .int (Int32.ofInt ((a1 - 23) * 5))), (0, .ref 31), (1, .int (Int32.ofInt a1))]) (st' := []) rfl ?_
    refine lf_sub (l := [(0, .ref 31), (1, .int (Int32.ofInt a1)), (3, .int (Int32.ofInt r24)), (4, .int (Int32.ofInt r32))]) (lf_sb1 rfl (lf_sb1 rfl (lf_sb1 rfl (lf_sb1 rfl lf_sb0)))) ?_
    exact gm_58_p68 h
-- fm_45 Script.addOrder t i i
def fm_45 (t0 : Nat) (a1 : Int) (a2 : Int) (Q : Int → lf_Z → Prop) (s : lf_Z) : Prop := lf_R (s.1 (35 + 7 * t0) 1) ∧ ((s.1 (35 + 7 * t0) 1 < 300 → ((0 ≤ s.1 (35 + 7 * t0) 1 ∧ s.1 (35 + 7 * t0) 1 < 300) ∧ (Q (((lf_up (lf_up s.1 (36 + 7 * t0) (s.1 (35 + 7 * t0) 1) ((a1 * 10000) + a2)) (35 + 7 * t0) 1 (((lf_up s.1 (36 + 7 * t0) (s.1 (35 + 7 * t0) 1) ((a1 * 10000) + a2)) (35 + 7 * t0) 1) + 1)) (35 + 7 * t0) 1) - 1) (lf_up (lf_up s.1 (36 + 7 * t0) (s.1 (35 + 7 * t0) 1) ((a1 * 10000) + a2)) (35 + 7 * t0) 1 (((lf_up s.1 (36 + 7 * t0) (s.1 (35 + 7 * t0) 1) ((a1 * 10000) + a2)) (35 + 7 * t0) 1) + 1), s.2.1, s.2.2)))) ∧ (¬ (s.1 (35 + 7 * t0) 1 < 300) → (Q (-1) s)))
set_option maxRecDepth 100000 in
theorem gm_45 {L : Nat} {xs : Nat → Int32} {d : Nat} {t0 : Nat} {a1 : Int} {a2 : Int} {Q : Int → lf_Z → Prop} {s : lf_Z} (htt0 : t0 < 4) (h : fm_45 t0 a1 a2 Q s) : lf_M (px_ro L xs) (d + 1) 45 [.ref (35 + 7 * t0), .int (Int32.ofInt a1), .int (Int32.ofInt a2)] s (lf_qi Q) := by
  unfold fm_45 at h
  show lf_E (px_ro L xs) (d + 1) 45 0 [(0, .ref (35 + 7 * t0)), (1, .int (Int32.ofInt a1)), (2, .int (Int32.ofInt a2))] [] s _
  refine lf_seg 1 (pc' := 1) (lv' := [(0, .ref (35 + 7 * t0)), (1, .int (Int32.ofInt a1)), (2, .int (Int32.ofInt a2))]) (st' := [.ref (35 + 7 * t0)]) rfl ?_
  refine lf_getI 4 1 rfl rfl rfl (lf_scr htt0) (lf_scL htt0) rfl rfl ?_
  refine lf_sipush 7 300 rfl rfl (by decide) (by decide) ?_
  obtain ⟨o21, h⟩ := h
  refine lf_icmp_lt 12 10 rfl rfl rfl o21 ⟨by decide, by decide⟩ (fun c => ?_) (fun c => ?_)
  · have h := h.1 c
    refine lf_seg 1 (pc' := 13) (lv' := [(0, .ref (35 + 7 * t0)), (1, .int (Int32.ofInt a1)), (2, .int (Int32.ofInt a2))]) (st' := [.ref (35 + 7 * t0)]) rfl ?_
    refine lf_getR 16 (w := some (36 + 7 * t0)) rfl rfl rfl (lf_scr htt0) (lf_scL htt0) rfl (lf_sP0 htt0) ?_
    refine lf_seg 1 (pc' := 17) (lv' := [(0, .ref (35 + 7 * t0)), (1, .int (Int32.ofInt a1)), (2, .int (Int32.ofInt a2))]) (st' := [.ref (35 + 7 * t0), .ref (36 + 7 * t0)]) rfl ?_
    refine lf_getI 20 1 rfl rfl rfl (lf_scr htt0) (lf_scL htt0) rfl rfl ?_
    refine lf_seg 1 (pc' := 21) (lv' := [(0, .ref (35 + 7 * t0)), (1, .int (Int32.ofInt a1)), (2, .int (Int32.ofInt a2))]) (st' := [.int (Int32.ofInt a1), .int (Int32.ofInt (s.1 (35 + 7 * t0) 1)), .ref (36 + 7 * t0)]) rfl ?_
    refine lf_sipush 24 10000 rfl rfl (by decide) (by decide) ?_
    refine lf_imul 25 rfl rfl ?_
    refine lf_seg 1 (pc' := 26) (lv' := [(0, .ref (35 + 7 * t0)), (1, .int (Int32.ofInt a1)), (2, .int (Int32.ofInt a2))]) (st' := [.int (Int32.ofInt a2), .int (Int32.ofInt (a1 * 10000)), .int (Int32.ofInt (s.1 (35 + 7 * t0) 1)), .ref (36 + 7 * t0)]) rfl ?_
    refine lf_iadd 27 rfl rfl ?_
    obtain ⟨o22, h⟩ := h
    refine lf_iast 28 300 rfl rfl (lf_sA0 htt0) (lf_sC0 htt0) rfl rfl o22 ?_
    refine lf_as (lf_up s.1 (36 + 7 * t0) (s.1 (35 + 7 * t0) 1) ((a1 * 10000) + a2), s.2.1, s.2.2) rfl ?_
    refine lf_seg 2 (pc' := 30) (lv' := [(0, .ref (35 + 7 * t0)), (1, .int (Int32.ofInt a1)), (2, .int (Int32.ofInt a2))]) (st' := [.ref (35 + 7 * t0), .ref (35 + 7 * t0)]) rfl ?_
    refine lf_getI 33 1 rfl rfl rfl (lf_scr htt0) (lf_scL htt0) rfl rfl ?_
    refine lf_seg 1 (pc' := 34) (lv' := [(0, .ref (35 + 7 * t0)), (1, .int (Int32.ofInt a1)), (2, .int (Int32.ofInt a2))]) (st' := [.int (Int32.ofInt 1), .int (Int32.ofInt ((lf_up s.1 (36 + 7 * t0) (s.1 (35 + 7 * t0) 1) ((a1 * 10000) + a2)) (35 + 7 * t0) 1)), .ref (35 + 7 * t0)]) rfl ?_
    refine lf_iadd 35 rfl rfl ?_
    refine lf_putI 38 1 rfl rfl rfl (lf_scr htt0) (lf_scL htt0) rfl rfl rfl ?_
    refine lf_as (lf_up (lf_up s.1 (36 + 7 * t0) (s.1 (35 + 7 * t0) 1) ((a1 * 10000) + a2)) (35 + 7 * t0) 1 (((lf_up s.1 (36 + 7 * t0) (s.1 (35 + 7 * t0) 1) ((a1 * 10000) + a2)) (35 + 7 * t0) 1) + 1), s.2.1, s.2.2) rfl ?_
    refine lf_seg 1 (pc' := 39) (lv' := [(0, .ref (35 + 7 * t0)), (1, .int (Int32.ofInt a1)), (2, .int (Int32.ofInt a2))]) (st' := [.ref (35 + 7 * t0)]) rfl ?_
    refine lf_getI 42 1 rfl rfl rfl (lf_scr htt0) (lf_scL htt0) rfl rfl ?_
    refine lf_seg 1 (pc' := 43) (lv' := [(0, .ref (35 + 7 * t0)), (1, .int (Int32.ofInt a1)), (2, .int (Int32.ofInt a2))]) (st' := [.int (Int32.ofInt 1), .int (Int32.ofInt ((lf_up (lf_up s.1 (36 + 7 * t0) (s.1 (35 + 7 * t0) 1) ((a1 * 10000) + a2)) (35 + 7 * t0) 1 (((lf_up s.1 (36 + 7 * t0) (s.1 (35 + 7 * t0) 1) ((a1 * 10000) + a2)) (35 + 7 * t0) 1) + 1)) (35 + 7 * t0) 1))]) rfl ?_
    refine lf_isub 44 rfl rfl ?_
    exact lf_retI rfl rfl h
  · have h := h.2 c
    refine lf_seg 1 (pc' := 11) (lv' := [(0, .ref (35 + 7 * t0)), (1, .int (Int32.ofInt a1)), (2, .int (Int32.ofInt a2))]) (st' := [.int (Int32.ofInt (-1))]) rfl ?_
    exact lf_retI rfl rfl h
-- fm_56 Reader.readName 31
def fm_56_p53 (Q : lf_Z → Prop) (x1 : Int) (s : lf_Z) : Prop := (0 ≤ x1 ∧ x1 < 11) ∧ ((lf_and (lf_shr ((px_lw (x1).toNat).toInt) (s.1 31 6)) 1 ≠ 0 → ((s.2.2 2 = none → (False)) ∧ (∀ t24 : Nat, s.2.2 2 = some t24 → t24 < 4 ∧ (fm_45 t24 17 x1 (fun r26 s25 => (fm_31 (fun s27 => (Q s27)) s25)) s)))) ∧ (¬ (lf_and (lf_shr ((px_lw (x1).toNat).toInt) (s.1 31 6)) 1 ≠ 0) → (fm_39 5 (fun s28 => (Q s28)) s)))
set_option maxRecDepth 100000 in
theorem gm_56_p53 {L : Nat} {xs : Nat → Int32} {d : Nat} {Q : lf_Z → Prop} {x1 : Int} {s : lf_Z} (h : fm_56_p53 Q x1 s) : lf_E (px_ro L xs) (d + 4) 56 53 [(0, .ref 31), (1, .int (Int32.ofInt x1))] [] s (lf_qv Q) := by
  unfold fm_56_p53 at h
  refine lf_getst 56 134 rfl rfl rfl ?_
  refine lf_seg 1 (pc' := 57) (lv' := [(0, .ref 31), (1, .int (Int32.ofInt x1))]) (st' := [.int (Int32.ofInt x1), .ref (px_SC + 2)]) rfl ?_
  obtain ⟨o23, h⟩ := h
  refine lf_iro 58 2 11 11 rfl rfl rfl rfl rfl o23 ?_
  refine lf_seg 1 (pc' := 59) (lv' := [(0, .ref 31), (1, .int (Int32.ofInt x1))]) (st' := [.ref 31, .int (Int32.ofInt ((px_lw (x1).toNat).toInt))]) rfl ?_
  refine lf_getI 62 6 rfl rfl rfl rfl rfl rfl rfl ?_
  refine lf_ishr 63 rfl rfl ?_
  refine lf_seg 1 (pc' := 64) (lv' := [(0, .ref 31), (1, .int (Int32.ofInt x1))]) (st' := [.int (Int32.ofInt 1), .int (Int32.ofInt (lf_shr ((px_lw (x1).toNat).toInt) (s.1 31 6)))]) rfl ?_
  refine lf_iand 65 rfl rfl ?_
  refine lf_if_ne 76 68 rfl rfl rfl lf_Rand (fun c => ?_) (fun c => ?_)
  · have h := h.1 c
    refine lf_seg 1 (pc' := 77) (lv' := [(0, .ref 31), (1, .int (Int32.ofInt x1))]) (st' := [.ref 31]) rfl ?_
    cases et24 : s.2.2 2 with
    | none =>
      have h := h.1 et24
      refine lf_getR 80 (w := none) rfl rfl rfl rfl rfl rfl (congrArg (Option.map (fun t => 35 + 7 * t)) et24) ?_
      refine lf_bipush 82 17 rfl rfl (by decide) (by decide) ?_
      refine lf_seg 1 (pc' := 83) (lv' := [(0, .ref 31), (1, .int (Int32.ofInt x1))]) (st' := [.int (Int32.ofInt x1), .int (Int32.ofInt 17), .null]) rfl ?_
      exact h.elim
    | some t24 =>
      obtain ⟨htt24, h⟩ := h.2 t24 et24
      refine lf_getR 80 (w := some (35 + 7 * t24)) rfl rfl rfl rfl rfl rfl (congrArg (Option.map (fun t => 35 + 7 * t)) et24) ?_
      refine lf_bipush 82 17 rfl rfl (by decide) (by decide) ?_
      refine lf_seg 1 (pc' := 83) (lv' := [(0, .ref 31), (1, .int (Int32.ofInt x1))]) (st' := [.int (Int32.ofInt x1), .int (Int32.ofInt 17), .ref (35 + 7 * t24)]) rfl ?_
      refine lf_callI 86 rfl rfl (lf_invT htt24 rfl rfl rfl rfl) rfl (gm_45 htt24 h) (fun r26 s25 h => ?_)
      refine lf_seg 2 (pc' := 88) (lv' := [(0, .ref 31), (1, .int (Int32.ofInt x1))]) (st' := [.ref 31]) rfl ?_
      refine lf_callV 91 rfl rfl rfl rfl (gm_31 h) (fun s27 h => ?_)
      exact lf_retV rfl rfl h
  · have h := h.2 c
    refine lf_seg 2 (pc' := 70) (lv' := [(0, .ref 31), (1, .int (Int32.ofInt x1))]) (st' := [.int (Int32.ofInt 5), .ref 31]) rfl ?_
    refine lf_callV 73 rfl rfl rfl rfl (gm_39 h) (fun s28 h => ?_)
    refine lf_seg 1 (pc' := 91) (lv' := [(0, .ref 31), (1, .int (Int32.ofInt x1))]) (st' := []) rfl ?_
    exact lf_retV rfl rfl h
def fm_56_p21 (Q : lf_Z → Prop) (y0 : Int) (s : lf_Z) : Prop := lf_R (s.1 31 8) ∧ ((s.1 31 8 = 24 → (fm_56_p53 Q y0 s)) ∧ (¬ (s.1 31 8 = 24) → (fm_15 (s.1 31 8) 47 56 (fun z30 s29 => ((z30 = true → (fm_56_p53 Q y0 s29)) ∧ (z30 = false → (fm_39 1 (fun s31 => (Q s31)) s29)))) s)))
set_option maxRecDepth 100000 in
theorem gm_56_p21 {L : Nat} {xs : Nat → Int32} {d : Nat} {Q : lf_Z → Prop} {y0 : Int} {s : lf_Z} (h : fm_56_p21 Q y0 s) : lf_E (px_ro L xs) (d + 4) 56 21 [(0, .ref 31)] [.int (Int32.ofInt y0)] s (lf_qv Q) := by
  unfold fm_56_p21 at h
  refine lf_seg 2 (pc' := 23) (lv' := [(1, .int (Int32.ofInt y0)), (0, .ref 31)]) (st' := [.ref 31]) rfl ?_
  refine lf_getI 26 8 rfl rfl rfl rfl rfl rfl rfl ?_
  refine lf_bipush 28 24 rfl rfl (by decide) (by decide) ?_
  obtain ⟨o22, h⟩ := h
  refine lf_icmp_eq 53 31 rfl rfl rfl o22 ⟨by decide, by decide⟩ (fun c => ?_) (fun c => ?_)
  · have h := h.1 c
    refine lf_sub (l := [(0, .ref 31), (1, .int (Int32.ofInt y0))]) (lf_sb1 rfl (lf_sb1 rfl lf_sb0)) ?_
    exact gm_56_p53 h
  · have h := h.2 c
    refine lf_seg 1 (pc' := 32) (lv' := [(1, .int (Int32.ofInt y0)), (0, .ref 31)]) (st' := [.ref 31]) rfl ?_
    refine lf_getI 35 8 rfl rfl rfl rfl rfl rfl rfl ?_
    refine lf_bipush 37 47 rfl rfl (by decide) (by decide) ?_
    refine lf_bipush 39 56 rfl rfl (by decide) (by decide) ?_
    refine lf_callZ 42 rfl rfl rfl rfl (gm_15 h) (fun z30 s29 h => ?_)
    refine lf_ifz_ne 53 45 rfl rfl rfl (fun c => ?_) (fun c => ?_)
    · have h := h.1 c
      refine lf_sub (l := [(0, .ref 31), (1, .int (Int32.ofInt y0))]) (lf_sb1 rfl (lf_sb1 rfl lf_sb0)) ?_
      exact gm_56_p53 h
    · have h := h.2 c
      refine lf_seg 2 (pc' := 47) (lv' := [(1, .int (Int32.ofInt y0)), (0, .ref 31)]) (st' := [.int (Int32.ofInt 1), .ref 31]) rfl ?_
      refine lf_callV 50 rfl rfl rfl rfl (gm_39 h) (fun s31 h => ?_)
      refine lf_seg 1 (pc' := 91) (lv' := [(1, .int (Int32.ofInt y0)), (0, .ref 31)]) (st' := []) rfl ?_
      exact lf_retV rfl rfl h
def fm_56 (Q : lf_Z → Prop) (s : lf_Z) : Prop := lf_R (s.1 31 8) ∧ ((s.1 31 8 ≠ 24 → (fm_56_p21 Q ((s.1 31 8) - 47) s)) ∧ (¬ (s.1 31 8 ≠ 24) → (fm_56_p21 Q 10 s)))
set_option maxRecDepth 100000 in
theorem gm_56 {L : Nat} {xs : Nat → Int32} {d : Nat} {Q : lf_Z → Prop} {s : lf_Z} (h : fm_56 Q s) : lf_M (px_ro L xs) (d + 4) 56 [.ref 31] s (lf_qv Q) := by
  unfold fm_56 at h
  show lf_E (px_ro L xs) (d + 4) 56 0 [(0, .ref 31)] [] s _
  refine lf_seg 1 (pc' := 1) (lv' := [(0, .ref 31)]) (st' := [.ref 31]) rfl ?_
  refine lf_getI 4 8 rfl rfl rfl rfl rfl rfl rfl ?_
  refine lf_bipush 6 24 rfl rfl (by decide) (by decide) ?_
  obtain ⟨o21, h⟩ := h
  refine lf_icmp_ne 14 9 rfl rfl rfl o21 ⟨by decide, by decide⟩ (fun c => ?_) (fun c => ?_)
  · have h := h.1 c
    refine lf_seg 1 (pc' := 15) (lv' := [(0, .ref 31)]) (st' := [.ref 31]) rfl ?_
    refine lf_getI 18 8 rfl rfl rfl rfl rfl rfl rfl ?_
    refine lf_bipush 20 47 rfl rfl (by decide) (by decide) ?_
    refine lf_isub 21 rfl rfl ?_
    refine lf_sub (l := [(0, .ref 31)]) (lf_sb1 rfl lf_sb0) ?_
    exact gm_56_p21 h
  · have h := h.2 c
    refine lf_bipush 11 10 rfl rfl (by decide) (by decide) ?_
    refine lf_seg 1 (pc' := 21) (lv' := [(0, .ref 31)]) (st' := [.int (Int32.ofInt 10)]) rfl ?_
    refine lf_sub (l := [(0, .ref 31)]) (lf_sb1 rfl lf_sb0) ?_
    exact gm_56_p21 h
-- fm_46 Reader.readLetter 31
def fm_46_p26 (Q : lf_Z → Prop) (y0 : Int) (s : lf_Z) : Prop := lf_R y0 ∧ ((y0 ≠ (-1) → ((s.2.2 2 = none → (False)) ∧ (∀ t24 : Nat, s.2.2 2 = some t24 → t24 < 4 ∧ (fm_45 t24 3 y0 (fun r26 s25 => (fm_31 (fun s27 => (Q s27)) s25)) s)))) ∧ (¬ (y0 ≠ (-1)) → (fm_39 5 (fun s28 => (Q s28)) s)))
set_option maxRecDepth 100000 in
theorem gm_46_p26 {L : Nat} {xs : Nat → Int32} {d : Nat} {Q : lf_Z → Prop} {y0 : Int} {s : lf_Z} (h : fm_46_p26 Q y0 s) : lf_E (px_ro L xs) (d + 4) 46 26 [(0, .ref 31)] [.int (Int32.ofInt y0)] s (lf_qv Q) := by
  unfold fm_46_p26 at h
  refine lf_seg 3 (pc' := 29) (lv' := [(1, .int (Int32.ofInt y0)), (0, .ref 31)]) (st' := [.int (Int32.ofInt (-1)), .int (Int32.ofInt y0)]) rfl ?_
  obtain ⟨o23, h⟩ := h
  refine lf_icmp_ne 40 32 rfl rfl rfl o23 ⟨by decide, by decide⟩ (fun c => ?_) (fun c => ?_)
  · have h := h.1 c
    refine lf_seg 1 (pc' := 41) (lv' := [(1, .int (Int32.ofInt y0)), (0, .ref 31)]) (st' := [.ref 31]) rfl ?_
    cases et24 : s.2.2 2 with
    | none =>
      have h := h.1 et24
      refine lf_getR 44 (w := none) rfl rfl rfl rfl rfl rfl (congrArg (Option.map (fun t => 35 + 7 * t)) et24) ?_
      refine lf_seg 2 (pc' := 46) (lv' := [(1, .int (Int32.ofInt y0)), (0, .ref 31)]) (st' := [.int (Int32.ofInt y0), .int (Int32.ofInt 3), .null]) rfl ?_
      exact h.elim
    | some t24 =>
      obtain ⟨htt24, h⟩ := h.2 t24 et24
      refine lf_getR 44 (w := some (35 + 7 * t24)) rfl rfl rfl rfl rfl rfl (congrArg (Option.map (fun t => 35 + 7 * t)) et24) ?_
      refine lf_seg 2 (pc' := 46) (lv' := [(1, .int (Int32.ofInt y0)), (0, .ref 31)]) (st' := [.int (Int32.ofInt y0), .int (Int32.ofInt 3), .ref (35 + 7 * t24)]) rfl ?_
      refine lf_callI 49 rfl rfl (lf_invT htt24 rfl rfl rfl rfl) rfl (gm_45 htt24 h) (fun r26 s25 h => ?_)
      refine lf_seg 2 (pc' := 51) (lv' := [(1, .int (Int32.ofInt y0)), (0, .ref 31)]) (st' := [.ref 31]) rfl ?_
      refine lf_callV 54 rfl rfl rfl rfl (gm_31 h) (fun s27 h => ?_)
      exact lf_retV rfl rfl h
  · have h := h.2 c
    refine lf_seg 2 (pc' := 34) (lv' := [(1, .int (Int32.ofInt y0)), (0, .ref 31)]) (st' := [.int (Int32.ofInt 5), .ref 31]) rfl ?_
    refine lf_callV 37 rfl rfl rfl rfl (gm_39 h) (fun s28 h => ?_)
    refine lf_seg 1 (pc' := 54) (lv' := [(1, .int (Int32.ofInt y0)), (0, .ref 31)]) (st' := []) rfl ?_
    exact lf_retV rfl rfl h
def fm_46 (Q : lf_Z → Prop) (s : lf_Z) : Prop := fm_15 (s.1 31 10) 0 25 (fun z22 s21 => ((z22 = false → (fm_46_p26 Q (-1) s21)) ∧ (z22 = true → ((0 ≤ s21.1 31 10 ∧ s21.1 31 10 < 26) ∧ (fm_46_p26 Q (s21.1 33 (s21.1 31 10)) s21))))) s
set_option maxRecDepth 100000 in
theorem gm_46 {L : Nat} {xs : Nat → Int32} {d : Nat} {Q : lf_Z → Prop} {s : lf_Z} (h : fm_46 Q s) : lf_M (px_ro L xs) (d + 4) 46 [.ref 31] s (lf_qv Q) := by
  unfold fm_46 at h
  show lf_E (px_ro L xs) (d + 4) 46 0 [(0, .ref 31)] [] s _
  refine lf_seg 1 (pc' := 1) (lv' := [(0, .ref 31)]) (st' := [.ref 31]) rfl ?_
  refine lf_getI 4 10 rfl rfl rfl rfl rfl rfl rfl ?_
  refine lf_seg 1 (pc' := 5) (lv' := [(0, .ref 31)]) (st' := [.int (Int32.ofInt 0), .int (Int32.ofInt (s.1 31 10))]) rfl ?_
  refine lf_bipush 7 25 rfl rfl (by decide) (by decide) ?_
  refine lf_callZ 10 rfl rfl rfl rfl (gm_15 h) (fun z22 s21 h => ?_)
  refine lf_ifz_eq 25 13 rfl rfl rfl (fun c => ?_) (fun c => ?_)
  · have h := h.1 c
    refine lf_seg 1 (pc' := 26) (lv' := [(0, .ref 31)]) (st' := [.int (Int32.ofInt (-1))]) rfl ?_
    refine lf_sub (l := [(0, .ref 31)]) (lf_sb1 rfl lf_sb0) ?_
    exact gm_46_p26 h
  · have h := h.2 c
    refine lf_seg 3 (pc' := 18) (lv' := [(0, .ref 31)]) (st' := [.ref 31, .ref 33]) rfl ?_
    refine lf_getI 21 10 rfl rfl rfl rfl rfl rfl rfl ?_
    obtain ⟨o29, h⟩ := h
    refine lf_iald 22 26 rfl rfl rfl rfl rfl rfl o29 ?_
    refine lf_seg 1 (pc' := 26) (lv' := [(0, .ref 31)]) (st' := [.int (Int32.ofInt (s21.1 33 (s21.1 31 10)))]) rfl ?_
    refine lf_sub (l := [(0, .ref 31)]) (lf_sb1 rfl lf_sb0) ?_
    exact gm_46_p26 h
-- fm_47 Reader.enter 31 i
def fm_47 (a1 : Int) (Q : Bool → lf_Z → Prop) (s : lf_Z) : Prop := lf_R a1 ∧ ((a1 < 8 → (fm_31 (fun s22 => (Q true s22)) s)) ∧ (¬ (a1 < 8) → (fm_39 3 (fun s23 => (Q false s23)) s)))
set_option maxRecDepth 100000 in
theorem gm_47 {L : Nat} {xs : Nat → Int32} {d : Nat} {a1 : Int} {Q : Bool → lf_Z → Prop} {s : lf_Z} (h : fm_47 a1 Q s) : lf_M (px_ro L xs) (d + 4) 47 [.ref 31, .int (Int32.ofInt a1)] s (lf_qz Q) := by
  unfold fm_47 at h
  show lf_E (px_ro L xs) (d + 4) 47 0 [(0, .ref 31), (1, .int (Int32.ofInt a1))] [] s _
  refine lf_seg 1 (pc' := 1) (lv' := [(0, .ref 31), (1, .int (Int32.ofInt a1))]) (st' := [.int (Int32.ofInt a1)]) rfl ?_
  refine lf_bipush 3 8 rfl rfl (by decide) (by decide) ?_
  obtain ⟨o21, h⟩ := h
  refine lf_icmp_lt 13 6 rfl rfl rfl o21 ⟨by decide, by decide⟩ (fun c => ?_) (fun c => ?_)
  · have h := h.1 c
    refine lf_seg 1 (pc' := 14) (lv' := [(0, .ref 31), (1, .int (Int32.ofInt a1))]) (st' := [.ref 31]) rfl ?_
    refine lf_callV 17 rfl rfl rfl rfl (gm_31 h) (fun s22 h => ?_)
    refine lf_seg 1 (pc' := 18) (lv' := [(0, .ref 31), (1, .int (Int32.ofInt a1))]) (st' := [.int (Int32.ofInt 1)]) rfl ?_
    exact lf_retZ true rfl rfl h
  · have h := h.2 c
    refine lf_seg 2 (pc' := 8) (lv' := [(0, .ref 31), (1, .int (Int32.ofInt a1))]) (st' := [.int (Int32.ofInt 3), .ref 31]) rfl ?_
    refine lf_callV 11 rfl rfl rfl rfl (gm_39 h) (fun s23 h => ?_)
    refine lf_seg 1 (pc' := 12) (lv' := [(0, .ref 31), (1, .int (Int32.ofInt a1))]) (st' := [.int (Int32.ofInt 0)]) rfl ?_
    exact lf_retZ false rfl rfl h
-- fm_53 Script.leadToHere t i
def fm_53 (t0 : Nat) (a1 : Int) (Q : lf_Z → Prop) (s : lf_Z) : Prop := lf_R a1 ∧ ((a1 < 0 → (Q s)) ∧ (¬ (a1 < 0) → (lf_R (s.1 (35 + 7 * t0) 1) ∧ ((s.1 (35 + 7 * t0) 1 ≤ a1 → (Q s)) ∧ (¬ (s.1 (35 + 7 * t0) 1 ≤ a1) → ((0 ≤ a1 ∧ a1 < 300) ∧ (Q (lf_up s.1 (36 + 7 * t0) a1 (lf_w ((s.1 (36 + 7 * t0) a1) + (s.1 (35 + 7 * t0) 1))), s.2.1, s.2.2))))))))
set_option maxRecDepth 100000 in
theorem gm_53 {L : Nat} {xs : Nat → Int32} {d : Nat} {t0 : Nat} {a1 : Int} {Q : lf_Z → Prop} {s : lf_Z} (htt0 : t0 < 4) (h : fm_53 t0 a1 Q s) : lf_M (px_ro L xs) (d + 1) 53 [.ref (35 + 7 * t0), .int (Int32.ofInt a1)] s (lf_qv Q) := by
  unfold fm_53 at h
  show lf_E (px_ro L xs) (d + 1) 53 0 [(0, .ref (35 + 7 * t0)), (1, .int (Int32.ofInt a1))] [] s _
  refine lf_seg 1 (pc' := 1) (lv' := [(0, .ref (35 + 7 * t0)), (1, .int (Int32.ofInt a1))]) (st' := [.int (Int32.ofInt a1)]) rfl ?_
  obtain ⟨o21, h⟩ := h
  refine lf_if_lt 25 4 rfl rfl rfl o21 (fun c => ?_) (fun c => ?_)
  · have h := h.1 c
    exact lf_retV rfl rfl h
  · have h := h.2 c
    refine lf_seg 2 (pc' := 6) (lv' := [(0, .ref (35 + 7 * t0)), (1, .int (Int32.ofInt a1))]) (st' := [.ref (35 + 7 * t0), .int (Int32.ofInt a1)]) rfl ?_
    refine lf_getI 9 1 rfl rfl rfl (lf_scr htt0) (lf_scL htt0) rfl rfl ?_
    obtain ⟨o22, h⟩ := h
    refine lf_icmp_ge 25 12 rfl rfl rfl o21 o22 (fun c => ?_) (fun c => ?_)
    · have h := h.1 c
      exact lf_retV rfl rfl h
    · have h := h.2 c
      refine lf_seg 1 (pc' := 13) (lv' := [(0, .ref (35 + 7 * t0)), (1, .int (Int32.ofInt a1))]) (st' := [.ref (35 + 7 * t0)]) rfl ?_
      refine lf_getR 16 (w := some (36 + 7 * t0)) rfl rfl rfl (lf_scr htt0) (lf_scL htt0) rfl (lf_sP0 htt0) ?_
      refine lf_seg 2 (pc' := 18) (lv' := [(0, .ref (35 + 7 * t0)), (1, .int (Int32.ofInt a1))]) (st' := [.int (Int32.ofInt a1), .ref (36 + 7 * t0), .int (Int32.ofInt a1), .ref (36 + 7 * t0)]) rfl ?_
      obtain ⟨o23, h⟩ := h
      refine lf_iald 19 300 rfl rfl (lf_sA0 htt0) (lf_sB0 htt0) rfl rfl o23 ?_
      refine lf_seg 1 (pc' := 20) (lv' := [(0, .ref (35 + 7 * t0)), (1, .int (Int32.ofInt a1))]) (st' := [.ref (35 + 7 * t0), .int (Int32.ofInt (s.1 (36 + 7 * t0) a1)), .int (Int32.ofInt a1), .ref (36 + 7 * t0)]) rfl ?_
      refine lf_getI 23 1 rfl rfl rfl (lf_scr htt0) (lf_scL htt0) rfl rfl ?_
      refine lf_iadd 24 rfl rfl ?_
      refine lf_wtI ?_
      refine lf_iast 25 300 rfl rfl (lf_sA0 htt0) (lf_sC0 htt0) rfl rfl o23 ?_
      refine lf_as (lf_up s.1 (36 + 7 * t0) a1 (lf_w ((s.1 (36 + 7 * t0) a1) + (s.1 (35 + 7 * t0) 1))), s.2.1, s.2.2) rfl ?_
      exact lf_retV rfl rfl h
-- fm_55 ElevenBullocks.cut i i i
def fm_55 (a0 : Int) (a1 : Int) (a2 : Int) (Q : Int → lf_Z → Prop) (s : lf_Z) : Prop := lf_R a2 ∧ (lf_R a0 ∧ (lf_R a1 ∧ (lf_R (min a2 a0) ∧ (Q (max a1 (min a2 a0)) s))))
set_option maxRecDepth 100000 in
theorem gm_55 {L : Nat} {xs : Nat → Int32} {d : Nat} {a0 : Int} {a1 : Int} {a2 : Int} {Q : Int → lf_Z → Prop} {s : lf_Z} (h : fm_55 a0 a1 a2 Q s) : lf_M (px_ro L xs) (d + 1) 55 [.int (Int32.ofInt a0), .int (Int32.ofInt a1), .int (Int32.ofInt a2)] s (lf_qi Q) := by
  unfold fm_55 at h
  show lf_E (px_ro L xs) (d + 1) 55 0 [(0, .int (Int32.ofInt a0)), (1, .int (Int32.ofInt a1)), (2, .int (Int32.ofInt a2))] [] s _
  refine lf_seg 3 (pc' := 3) (lv' := [(0, .int (Int32.ofInt a0)), (1, .int (Int32.ofInt a1)), (2, .int (Int32.ofInt a2))]) (st' := [.int (Int32.ofInt a0), .int (Int32.ofInt a2), .int (Int32.ofInt a1)]) rfl ?_
  obtain ⟨o21, h⟩ := h
  obtain ⟨o22, h⟩ := h
  refine lf_imin 6 rfl rfl rfl rfl o21 o22 ?_
  obtain ⟨o23, h⟩ := h
  obtain ⟨o24, h⟩ := h
  refine lf_imax 9 rfl rfl rfl rfl o23 o24 ?_
  exact lf_retI rfl rfl h
-- fm_41 Reader.readSum 31 i
def fm_41_p32 (R42 : Int → (lf_Z → Prop) → lf_Z → Prop) (X7 : Int → lf_Z → Prop) (Q : lf_Z → Prop) (x1 : Int) (x2 : Int) (s : lf_Z) : Prop := fm_31 (fun s24 => (R42 x1 (fun s25 => ((s25.2.2 2 = none → (False)) ∧ (∀ t26 : Nat, s25.2.2 2 = some t26 → t26 < 4 ∧ (fm_45 t26 (s.1 31 8) 0 (fun r28 s27 => (X7 (x2 + 1) s27)) s25)))) s24)) s
set_option maxRecDepth 100000 in
theorem gm_41_p32 {L : Nat} {xs : Nat → Int32} {d : Nat} {R42 : Int → (lf_Z → Prop) → lf_Z → Prop} {X7 : Int → lf_Z → Prop} {Q : lf_Z → Prop} {x1 : Int} {x2 : Int} {s : lf_Z} (hR42 : ∀ b1 Q s, R42 b1 Q s → lf_M (px_ro L xs) (d + 4) 42 [.ref 31, .int (Int32.ofInt b1)] s (lf_qv Q)) (hX7 : ∀ x2 s, X7 x2 s → lf_E (px_ro L xs) (d + 5) 41 7 [(0, .ref 31), (1, .int (Int32.ofInt x1)), (2, .int (Int32.ofInt x2))] [] s (lf_qv Q)) (h : fm_41_p32 R42 X7 Q x1 x2 s) : lf_E (px_ro L xs) (d + 5) 41 32 [(0, .ref 31), (1, .int (Int32.ofInt x1)), (2, .int (Int32.ofInt x2))] [] s (lf_qv Q) := by
  unfold fm_41_p32 at h
  refine lf_seg 1 (pc' := 33) (lv' := [(0, .ref 31), (1, .int (Int32.ofInt x1)), (2, .int (Int32.ofInt x2))]) (st' := [.ref 31]) rfl ?_
  refine lf_getI 36 8 rfl rfl rfl rfl rfl rfl rfl ?_
  refine lf_seg 2 (pc' := 38) (lv' := [(3, .int (Int32.ofInt (s.1 31 8))), (0, .ref 31), (1, .int (Int32.ofInt x1)), (2, .int (Int32.ofInt x2))]) (st' := [.ref 31]) rfl ?_
  refine lf_callV 41 rfl rfl rfl rfl (gm_31 h) (fun s24 h => ?_)
  refine lf_seg 2 (pc' := 43) (lv' := [(3, .int (Int32.ofInt (s.1 31 8))), (0, .ref 31), (1, .int (Int32.ofInt x1)), (2, .int (Int32.ofInt x2))]) (st' := [.int (Int32.ofInt x1), .ref 31]) rfl ?_
  refine lf_callV 46 rfl rfl rfl rfl (hR42 _ _ _ h) (fun s25 h => ?_)
  refine lf_seg 1 (pc' := 47) (lv' := [(3, .int (Int32.ofInt (s.1 31 8))), (0, .ref 31), (1, .int (Int32.ofInt x1)), (2, .int (Int32.ofInt x2))]) (st' := [.ref 31]) rfl ?_
  cases et26 : s25.2.2 2 with
  | none =>
    have h := h.1 et26
    refine lf_getR 50 (w := none) rfl rfl rfl rfl rfl rfl (congrArg (Option.map (fun t => 35 + 7 * t)) et26) ?_
    refine lf_seg 2 (pc' := 52) (lv' := [(3, .int (Int32.ofInt (s.1 31 8))), (0, .ref 31), (1, .int (Int32.ofInt x1)), (2, .int (Int32.ofInt x2))]) (st' := [.int (Int32.ofInt 0), .int (Int32.ofInt (s.1 31 8)), .null]) rfl ?_
    exact h.elim
  | some t26 =>
    obtain ⟨htt26, h⟩ := h.2 t26 et26
    refine lf_getR 50 (w := some (35 + 7 * t26)) rfl rfl rfl rfl rfl rfl (congrArg (Option.map (fun t => 35 + 7 * t)) et26) ?_
    refine lf_seg 2 (pc' := 52) (lv' := [(3, .int (Int32.ofInt (s.1 31 8))), (0, .ref 31), (1, .int (Int32.ofInt x1)), (2, .int (Int32.ofInt x2))]) (st' := [.int (Int32.ofInt 0), .int (Int32.ofInt (s.1 31 8)), .ref (35 + 7 * t26)]) rfl ?_
    refine lf_callI 55 rfl rfl (lf_invT htt26 rfl rfl rfl rfl) rfl (gm_45 htt26 h) (fun r28 s27 h => ?_)
    refine lf_seg 1 (pc' := 56) (lv' := [(3, .int (Int32.ofInt (s.1 31 8))), (0, .ref 31), (1, .int (Int32.ofInt x1)), (2, .int (Int32.ofInt x2))]) (st' := []) rfl ?_
    refine lf_iinc 59 rfl rfl rfl rfl ?_
    refine lf_seg 1 (pc' := 7) (lv' := [(2, .int (Int32.ofInt (x2 + 1))), (3, .int (Int32.ofInt (s.1 31 8))), (0, .ref 31), (1, .int (Int32.ofInt x1))]) (st' := []) rfl ?_
    refine lf_sub (l := [(0, .ref 31), (1, .int (Int32.ofInt x1)), (2, .int (Int32.ofInt (x2 + 1)))]) (lf_sb1 rfl (lf_sb1 rfl (lf_sb1 rfl lf_sb0))) ?_
    exact hX7 _ _ h
def fm_41_p7 (R42 : Int → (lf_Z → Prop) → lf_Z → Prop) (Q : lf_Z → Prop) (x1 : Int) (X7 : Int → lf_Z → Prop) (x2 : Int) (s : lf_Z) : Prop := lf_R x2 ∧ ((300 ≤ x2 → (Q s)) ∧ (¬ (300 ≤ x2) → (lf_R (s.1 31 8) ∧ ((s.1 31 8 = 10 → (fm_41_p32 R42 X7 Q x1 x2 s)) ∧ (¬ (s.1 31 8 = 10) → ((s.1 31 8 ≠ 11 → (Q s)) ∧ (¬ (s.1 31 8 ≠ 11) → (fm_41_p32 R42 X7 Q x1 x2 s))))))))
def fm_41_p7L (R42 : Int → (lf_Z → Prop) → lf_Z → Prop) (Q : lf_Z → Prop) (x1 : Int) (x2 : Int) (s : lf_Z) : Prop := ∀ X7 : Int → lf_Z → Prop, (∀ (x2 : Int) (s : lf_Z), fm_41_p7 R42 Q x1 X7 x2 s → X7 x2 s) → X7 x2 s
set_option maxRecDepth 100000 in
theorem gm_41_p7 {L : Nat} {xs : Nat → Int32} {d : Nat} {R42 : Int → (lf_Z → Prop) → lf_Z → Prop} {Q : lf_Z → Prop} {x1 : Int} {x2 : Int} {s : lf_Z} {X7 : Int → lf_Z → Prop} (hR42 : ∀ b1 Q s, R42 b1 Q s → lf_M (px_ro L xs) (d + 4) 42 [.ref 31, .int (Int32.ofInt b1)] s (lf_qv Q)) (hX7 : ∀ x2 s, X7 x2 s → lf_E (px_ro L xs) (d + 5) 41 7 [(0, .ref 31), (1, .int (Int32.ofInt x1)), (2, .int (Int32.ofInt x2))] [] s (lf_qv Q)) (h : fm_41_p7 R42 Q x1 X7 x2 s) : lf_E (px_ro L xs) (d + 5) 41 7 [(0, .ref 31), (1, .int (Int32.ofInt x1)), (2, .int (Int32.ofInt x2))] [] s (lf_qv Q) := by
  unfold fm_41_p7 at h
  refine lf_seg 1 (pc' := 8) (lv' := [(0, .ref 31), (1, .int (Int32.ofInt x1)), (2, .int (Int32.ofInt x2))]) (st' := [.int (Int32.ofInt x2)]) rfl ?_
  refine lf_sipush 11 300 rfl rfl (by decide) (by decide) ?_
  obtain ⟨o22, h⟩ := h
  refine lf_icmp_ge 62 14 rfl rfl rfl o22 ⟨by decide, by decide⟩ (fun c => ?_) (fun c => ?_)
  · have h := h.1 c
    exact lf_retV rfl rfl h
  · have h := h.2 c
    refine lf_seg 1 (pc' := 15) (lv' := [(0, .ref 31), (1, .int (Int32.ofInt x1)), (2, .int (Int32.ofInt x2))]) (st' := [.ref 31]) rfl ?_
    refine lf_getI 18 8 rfl rfl rfl rfl rfl rfl rfl ?_
    refine lf_bipush 20 10 rfl rfl (by decide) (by decide) ?_
    obtain ⟨o23, h⟩ := h
    refine lf_icmp_eq 32 23 rfl rfl rfl o23 ⟨by decide, by decide⟩ (fun c => ?_) (fun c => ?_)
    · have h := h.1 c
      refine lf_sub (l := [(0, .ref 31), (1, .int (Int32.ofInt x1)), (2, .int (Int32.ofInt x2))]) (lf_sb1 rfl (lf_sb1 rfl (lf_sb1 rfl lf_sb0))) ?_
      exact gm_41_p32 hR42 hX7 h
    · have h := h.2 c
      refine lf_seg 1 (pc' := 24) (lv' := [(0, .ref 31), (1, .int (Int32.ofInt x1)), (2, .int (Int32.ofInt x2))]) (st' := [.ref 31]) rfl ?_
      refine lf_getI 27 8 rfl rfl rfl rfl rfl rfl rfl ?_
      refine lf_bipush 29 11 rfl rfl (by decide) (by decide) ?_
      refine lf_icmp_ne 62 32 rfl rfl rfl o23 ⟨by decide, by decide⟩ (fun c => ?_) (fun c => ?_)
      · have h := h.1 c
        exact lf_retV rfl rfl h
      · have h := h.2 c
        refine lf_sub (l := [(0, .ref 31), (1, .int (Int32.ofInt x1)), (2, .int (Int32.ofInt x2))]) (lf_sb1 rfl (lf_sb1 rfl (lf_sb1 rfl lf_sb0))) ?_
        exact gm_41_p32 hR42 hX7 h
theorem gm_41_p7L {L : Nat} {xs : Nat → Int32} {d : Nat} {R42 : Int → (lf_Z → Prop) → lf_Z → Prop} {Q : lf_Z → Prop} {x1 : Int} {x2 : Int} {s : lf_Z} (hR42 : ∀ b1 Q s, R42 b1 Q s → lf_M (px_ro L xs) (d + 4) 42 [.ref 31, .int (Int32.ofInt b1)] s (lf_qv Q)) (h : fm_41_p7L R42 Q x1 x2 s) : lf_E (px_ro L xs) (d + 5) 41 7 [(0, .ref 31), (1, .int (Int32.ofInt x1)), (2, .int (Int32.ofInt x2))] [] s (lf_qv Q) :=
  h (fun x2 s => lf_E (px_ro L xs) (d + 5) 41 7 [(0, .ref 31), (1, .int (Int32.ofInt x1)), (2, .int (Int32.ofInt x2))] [] s (lf_qv Q)) (fun x2 s hb => gm_41_p7 hR42 (fun _ _ h => h) hb)
def fm_41 (R42 : Int → (lf_Z → Prop) → lf_Z → Prop) (a1 : Int) (Q : lf_Z → Prop) (s : lf_Z) : Prop := R42 a1 (fun s21 => (fm_41_p7L R42 Q a1 0 s21)) s
set_option maxRecDepth 100000 in
theorem gm_41 {L : Nat} {xs : Nat → Int32} {d : Nat} {R42 : Int → (lf_Z → Prop) → lf_Z → Prop} {a1 : Int} {Q : lf_Z → Prop} {s : lf_Z} (hR42 : ∀ b1 Q s, R42 b1 Q s → lf_M (px_ro L xs) (d + 4) 42 [.ref 31, .int (Int32.ofInt b1)] s (lf_qv Q)) (h : fm_41 R42 a1 Q s) : lf_M (px_ro L xs) (d + 5) 41 [.ref 31, .int (Int32.ofInt a1)] s (lf_qv Q) := by
  unfold fm_41 at h
  show lf_E (px_ro L xs) (d + 5) 41 0 [(0, .ref 31), (1, .int (Int32.ofInt a1))] [] s _
  refine lf_seg 2 (pc' := 2) (lv' := [(0, .ref 31), (1, .int (Int32.ofInt a1))]) (st' := [.int (Int32.ofInt a1), .ref 31]) rfl ?_
  refine lf_callV 5 rfl rfl rfl rfl (hR42 _ _ _ h) (fun s21 h => ?_)
  refine lf_seg 2 (pc' := 7) (lv' := [(2, .int (Int32.ofInt 0)), (0, .ref 31), (1, .int (Int32.ofInt a1))]) (st' := []) rfl ?_
  refine lf_sub (l := [(0, .ref 31), (1, .int (Int32.ofInt a1)), (2, .int (Int32.ofInt 0))]) (lf_sb1 rfl (lf_sb1 rfl (lf_sb1 rfl lf_sb0))) ?_
  exact gm_41_p7L hR42 h
-- fm_42 Reader.readProduct 31 i
def fm_42_p32 (R43 : Int → (lf_Z → Prop) → lf_Z → Prop) (X7 : Int → lf_Z → Prop) (Q : lf_Z → Prop) (x1 : Int) (x2 : Int) (s : lf_Z) : Prop := fm_31 (fun s24 => (R43 x1 (fun s25 => ((s25.2.2 2 = none → (False)) ∧ (∀ t26 : Nat, s25.2.2 2 = some t26 → t26 < 4 ∧ (fm_45 t26 (s.1 31 8) 0 (fun r28 s27 => (X7 (x2 + 1) s27)) s25)))) s24)) s
set_option maxRecDepth 100000 in
theorem gm_42_p32 {L : Nat} {xs : Nat → Int32} {d : Nat} {R43 : Int → (lf_Z → Prop) → lf_Z → Prop} {X7 : Int → lf_Z → Prop} {Q : lf_Z → Prop} {x1 : Int} {x2 : Int} {s : lf_Z} (hR43 : ∀ b1 Q s, R43 b1 Q s → lf_M (px_ro L xs) (d + 4) 43 [.ref 31, .int (Int32.ofInt b1)] s (lf_qv Q)) (hX7 : ∀ x2 s, X7 x2 s → lf_E (px_ro L xs) (d + 5) 42 7 [(0, .ref 31), (1, .int (Int32.ofInt x1)), (2, .int (Int32.ofInt x2))] [] s (lf_qv Q)) (h : fm_42_p32 R43 X7 Q x1 x2 s) : lf_E (px_ro L xs) (d + 5) 42 32 [(0, .ref 31), (1, .int (Int32.ofInt x1)), (2, .int (Int32.ofInt x2))] [] s (lf_qv Q) := by
  unfold fm_42_p32 at h
  refine lf_seg 1 (pc' := 33) (lv' := [(0, .ref 31), (1, .int (Int32.ofInt x1)), (2, .int (Int32.ofInt x2))]) (st' := [.ref 31]) rfl ?_
  refine lf_getI 36 8 rfl rfl rfl rfl rfl rfl rfl ?_
  refine lf_seg 2 (pc' := 38) (lv' := [(3, .int (Int32.ofInt (s.1 31 8))), (0, .ref 31), (1, .int (Int32.ofInt x1)), (2, .int (Int32.ofInt x2))]) (st' := [.ref 31]) rfl ?_
  refine lf_callV 41 rfl rfl rfl rfl (gm_31 h) (fun s24 h => ?_)
  refine lf_seg 2 (pc' := 43) (lv' := [(3, .int (Int32.ofInt (s.1 31 8))), (0, .ref 31), (1, .int (Int32.ofInt x1)), (2, .int (Int32.ofInt x2))]) (st' := [.int (Int32.ofInt x1), .ref 31]) rfl ?_
  refine lf_callV 46 rfl rfl rfl rfl (hR43 _ _ _ h) (fun s25 h => ?_)
  refine lf_seg 1 (pc' := 47) (lv' := [(3, .int (Int32.ofInt (s.1 31 8))), (0, .ref 31), (1, .int (Int32.ofInt x1)), (2, .int (Int32.ofInt x2))]) (st' := [.ref 31]) rfl ?_
  cases et26 : s25.2.2 2 with
  | none =>
    have h := h.1 et26
    refine lf_getR 50 (w := none) rfl rfl rfl rfl rfl rfl (congrArg (Option.map (fun t => 35 + 7 * t)) et26) ?_
    refine lf_seg 2 (pc' := 52) (lv' := [(3, .int (Int32.ofInt (s.1 31 8))), (0, .ref 31), (1, .int (Int32.ofInt x1)), (2, .int (Int32.ofInt x2))]) (st' := [.int (Int32.ofInt 0), .int (Int32.ofInt (s.1 31 8)), .null]) rfl ?_
    exact h.elim
  | some t26 =>
    obtain ⟨htt26, h⟩ := h.2 t26 et26
    refine lf_getR 50 (w := some (35 + 7 * t26)) rfl rfl rfl rfl rfl rfl (congrArg (Option.map (fun t => 35 + 7 * t)) et26) ?_
    refine lf_seg 2 (pc' := 52) (lv' := [(3, .int (Int32.ofInt (s.1 31 8))), (0, .ref 31), (1, .int (Int32.ofInt x1)), (2, .int (Int32.ofInt x2))]) (st' := [.int (Int32.ofInt 0), .int (Int32.ofInt (s.1 31 8)), .ref (35 + 7 * t26)]) rfl ?_
    refine lf_callI 55 rfl rfl (lf_invT htt26 rfl rfl rfl rfl) rfl (gm_45 htt26 h) (fun r28 s27 h => ?_)
    refine lf_seg 1 (pc' := 56) (lv' := [(3, .int (Int32.ofInt (s.1 31 8))), (0, .ref 31), (1, .int (Int32.ofInt x1)), (2, .int (Int32.ofInt x2))]) (st' := []) rfl ?_
    refine lf_iinc 59 rfl rfl rfl rfl ?_
    refine lf_seg 1 (pc' := 7) (lv' := [(2, .int (Int32.ofInt (x2 + 1))), (3, .int (Int32.ofInt (s.1 31 8))), (0, .ref 31), (1, .int (Int32.ofInt x1))]) (st' := []) rfl ?_
    refine lf_sub (l := [(0, .ref 31), (1, .int (Int32.ofInt x1)), (2, .int (Int32.ofInt (x2 + 1)))]) (lf_sb1 rfl (lf_sb1 rfl (lf_sb1 rfl lf_sb0))) ?_
    exact hX7 _ _ h
def fm_42_p7 (R43 : Int → (lf_Z → Prop) → lf_Z → Prop) (Q : lf_Z → Prop) (x1 : Int) (X7 : Int → lf_Z → Prop) (x2 : Int) (s : lf_Z) : Prop := lf_R x2 ∧ ((300 ≤ x2 → (Q s)) ∧ (¬ (300 ≤ x2) → (lf_R (s.1 31 8) ∧ ((s.1 31 8 = 12 → (fm_42_p32 R43 X7 Q x1 x2 s)) ∧ (¬ (s.1 31 8 = 12) → ((s.1 31 8 ≠ 13 → (Q s)) ∧ (¬ (s.1 31 8 ≠ 13) → (fm_42_p32 R43 X7 Q x1 x2 s))))))))
def fm_42_p7L (R43 : Int → (lf_Z → Prop) → lf_Z → Prop) (Q : lf_Z → Prop) (x1 : Int) (x2 : Int) (s : lf_Z) : Prop := ∀ X7 : Int → lf_Z → Prop, (∀ (x2 : Int) (s : lf_Z), fm_42_p7 R43 Q x1 X7 x2 s → X7 x2 s) → X7 x2 s
set_option maxRecDepth 100000 in
theorem gm_42_p7 {L : Nat} {xs : Nat → Int32} {d : Nat} {R43 : Int → (lf_Z → Prop) → lf_Z → Prop} {Q : lf_Z → Prop} {x1 : Int} {x2 : Int} {s : lf_Z} {X7 : Int → lf_Z → Prop} (hR43 : ∀ b1 Q s, R43 b1 Q s → lf_M (px_ro L xs) (d + 4) 43 [.ref 31, .int (Int32.ofInt b1)] s (lf_qv Q)) (hX7 : ∀ x2 s, X7 x2 s → lf_E (px_ro L xs) (d + 5) 42 7 [(0, .ref 31), (1, .int (Int32.ofInt x1)), (2, .int (Int32.ofInt x2))] [] s (lf_qv Q)) (h : fm_42_p7 R43 Q x1 X7 x2 s) : lf_E (px_ro L xs) (d + 5) 42 7 [(0, .ref 31), (1, .int (Int32.ofInt x1)), (2, .int (Int32.ofInt x2))] [] s (lf_qv Q) := by
  unfold fm_42_p7 at h
  refine lf_seg 1 (pc' := 8) (lv' := [(0, .ref 31), (1, .int (Int32.ofInt x1)), (2, .int (Int32.ofInt x2))]) (st' := [.int (Int32.ofInt x2)]) rfl ?_
  refine lf_sipush 11 300 rfl rfl (by decide) (by decide) ?_
  obtain ⟨o22, h⟩ := h
  refine lf_icmp_ge 62 14 rfl rfl rfl o22 ⟨by decide, by decide⟩ (fun c => ?_) (fun c => ?_)
  · have h := h.1 c
    exact lf_retV rfl rfl h
  · have h := h.2 c
    refine lf_seg 1 (pc' := 15) (lv' := [(0, .ref 31), (1, .int (Int32.ofInt x1)), (2, .int (Int32.ofInt x2))]) (st' := [.ref 31]) rfl ?_
    refine lf_getI 18 8 rfl rfl rfl rfl rfl rfl rfl ?_
    refine lf_bipush 20 12 rfl rfl (by decide) (by decide) ?_
    obtain ⟨o23, h⟩ := h
    refine lf_icmp_eq 32 23 rfl rfl rfl o23 ⟨by decide, by decide⟩ (fun c => ?_) (fun c => ?_)
    · have h := h.1 c
      refine lf_sub (l := [(0, .ref 31), (1, .int (Int32.ofInt x1)), (2, .int (Int32.ofInt x2))]) (lf_sb1 rfl (lf_sb1 rfl (lf_sb1 rfl lf_sb0))) ?_
      exact gm_42_p32 hR43 hX7 h
    · have h := h.2 c
      refine lf_seg 1 (pc' := 24) (lv' := [(0, .ref 31), (1, .int (Int32.ofInt x1)), (2, .int (Int32.ofInt x2))]) (st' := [.ref 31]) rfl ?_
      refine lf_getI 27 8 rfl rfl rfl rfl rfl rfl rfl ?_
      refine lf_bipush 29 13 rfl rfl (by decide) (by decide) ?_
      refine lf_icmp_ne 62 32 rfl rfl rfl o23 ⟨by decide, by decide⟩ (fun c => ?_) (fun c => ?_)
      · have h := h.1 c
        exact lf_retV rfl rfl h
      · have h := h.2 c
        refine lf_sub (l := [(0, .ref 31), (1, .int (Int32.ofInt x1)), (2, .int (Int32.ofInt x2))]) (lf_sb1 rfl (lf_sb1 rfl (lf_sb1 rfl lf_sb0))) ?_
        exact gm_42_p32 hR43 hX7 h
theorem gm_42_p7L {L : Nat} {xs : Nat → Int32} {d : Nat} {R43 : Int → (lf_Z → Prop) → lf_Z → Prop} {Q : lf_Z → Prop} {x1 : Int} {x2 : Int} {s : lf_Z} (hR43 : ∀ b1 Q s, R43 b1 Q s → lf_M (px_ro L xs) (d + 4) 43 [.ref 31, .int (Int32.ofInt b1)] s (lf_qv Q)) (h : fm_42_p7L R43 Q x1 x2 s) : lf_E (px_ro L xs) (d + 5) 42 7 [(0, .ref 31), (1, .int (Int32.ofInt x1)), (2, .int (Int32.ofInt x2))] [] s (lf_qv Q) :=
  h (fun x2 s => lf_E (px_ro L xs) (d + 5) 42 7 [(0, .ref 31), (1, .int (Int32.ofInt x1)), (2, .int (Int32.ofInt x2))] [] s (lf_qv Q)) (fun x2 s hb => gm_42_p7 hR43 (fun _ _ h => h) hb)
def fm_42 (R43 : Int → (lf_Z → Prop) → lf_Z → Prop) (a1 : Int) (Q : lf_Z → Prop) (s : lf_Z) : Prop := R43 a1 (fun s21 => (fm_42_p7L R43 Q a1 0 s21)) s
set_option maxRecDepth 100000 in
theorem gm_42 {L : Nat} {xs : Nat → Int32} {d : Nat} {R43 : Int → (lf_Z → Prop) → lf_Z → Prop} {a1 : Int} {Q : lf_Z → Prop} {s : lf_Z} (hR43 : ∀ b1 Q s, R43 b1 Q s → lf_M (px_ro L xs) (d + 4) 43 [.ref 31, .int (Int32.ofInt b1)] s (lf_qv Q)) (h : fm_42 R43 a1 Q s) : lf_M (px_ro L xs) (d + 5) 42 [.ref 31, .int (Int32.ofInt a1)] s (lf_qv Q) := by
  unfold fm_42 at h
  show lf_E (px_ro L xs) (d + 5) 42 0 [(0, .ref 31), (1, .int (Int32.ofInt a1))] [] s _
  refine lf_seg 2 (pc' := 2) (lv' := [(0, .ref 31), (1, .int (Int32.ofInt a1))]) (st' := [.int (Int32.ofInt a1), .ref 31]) rfl ?_
  refine lf_callV 5 rfl rfl rfl rfl (hR43 _ _ _ h) (fun s21 h => ?_)
  refine lf_seg 2 (pc' := 7) (lv' := [(2, .int (Int32.ofInt 0)), (0, .ref 31), (1, .int (Int32.ofInt a1))]) (st' := []) rfl ?_
  refine lf_sub (l := [(0, .ref 31), (1, .int (Int32.ofInt a1)), (2, .int (Int32.ofInt 0))]) (lf_sb1 rfl (lf_sb1 rfl (lf_sb1 rfl lf_sb0))) ?_
  exact gm_42_p7L hR43 h
-- fm_43 Reader.readOne 31 i
def fm_43 (R41 : Int → (lf_Z → Prop) → lf_Z → Prop) (R43 : Int → (lf_Z → Prop) → lf_Z → Prop) (R49 : Int → (lf_Z → Prop) → lf_Z → Prop) (R54 : Int → (lf_Z → Prop) → lf_Z → Prop) (a1 : Int) (Q : lf_Z → Prop) (s : lf_Z) : Prop := lf_R (s.1 31 8) ∧ ((s.1 31 8 ≠ 2 ∧ s.1 31 8 ≠ 3 ∧ s.1 31 8 ≠ 11 ∧ s.1 31 8 ≠ 14 ∧ s.1 31 8 ≠ 37 ∧ s.1 31 8 ≠ 41 → (fm_56 (fun s22 => (Q s22)) s)) ∧ (s.1 31 8 = 2 → ((s.2.2 2 = none → (fm_44 0 9999 (fun r25 s24 => (False)) s)) ∧ (∀ t23 : Nat, s.2.2 2 = some t23 → t23 < 4 ∧ (fm_44 0 9999 (fun r27 s26 => (fm_45 t23 2 r27 (fun r29 s28 => (Q s28)) s26)) s)))) ∧ (s.1 31 8 = 3 → (fm_46 (fun s30 => (Q s30)) s)) ∧ (s.1 31 8 = 11 → (fm_47 a1 (fun z32 s31 => ((z32 = false → (Q s31)) ∧ (z32 = true → (R43 (a1 + 1) (fun s33 => ((s33.2.2 2 = none → (False)) ∧ (∀ t34 : Nat, s33.2.2 2 = some t34 → t34 < 4 ∧ (fm_45 t34 18 0 (fun r36 s35 => (Q s35)) s33)))) s31)))) s)) ∧ (s.1 31 8 = 14 → (fm_47 a1 (fun z38 s37 => ((z38 = false → (Q s37)) ∧ (z38 = true → (R41 (a1 + 1) (fun s39 => (fm_48 15 (fun s40 => (Q s40)) s39)) s37)))) s)) ∧ (s.1 31 8 = 37 → (fm_47 a1 (fun z42 s41 => ((z42 = false → (Q s41)) ∧ (z42 = true → (R49 (a1 + 1) (fun s43 => (Q s43)) s41)))) s)) ∧ (s.1 31 8 = 41 → (fm_47 a1 (fun z45 s44 => ((z45 = false → (Q s44)) ∧ (z45 = true → (R54 (a1 + 1) (fun s46 => (Q s46)) s44)))) s)))
set_option maxRecDepth 100000 in
theorem gm_43 {L : Nat} {xs : Nat → Int32} {d : Nat} {R41 : Int → (lf_Z → Prop) → lf_Z → Prop} {R43 : Int → (lf_Z → Prop) → lf_Z → Prop} {R49 : Int → (lf_Z → Prop) → lf_Z → Prop} {R54 : Int → (lf_Z → Prop) → lf_Z → Prop} {a1 : Int} {Q : lf_Z → Prop} {s : lf_Z} (hR41 : ∀ b1 Q s, R41 b1 Q s → lf_M (px_ro L xs) (d + 4) 41 [.ref 31, .int (Int32.ofInt b1)] s (lf_qv Q)) (hR43 : ∀ b1 Q s, R43 b1 Q s → lf_M (px_ro L xs) (d + 4) 43 [.ref 31, .int (Int32.ofInt b1)] s (lf_qv Q)) (hR49 : ∀ b1 Q s, R49 b1 Q s → lf_M (px_ro L xs) (d + 4) 49 [.ref 31, .int (Int32.ofInt b1)] s (lf_qv Q)) (hR54 : ∀ b1 Q s, R54 b1 Q s → lf_M (px_ro L xs) (d + 4) 54 [.ref 31, .int (Int32.ofInt b1)] s (lf_qv Q)) (h : fm_43 R41 R43 R49 R54 a1 Q s) : lf_M (px_ro L xs) (d + 5) 43 [.ref 31, .int (Int32.ofInt a1)] s (lf_qv Q) := by
  unfold fm_43 at h
  show lf_E (px_ro L xs) (d + 5) 43 0 [(0, .ref 31), (1, .int (Int32.ofInt a1))] [] s _
  refine lf_seg 1 (pc' := 1) (lv' := [(0, .ref 31), (1, .int (Int32.ofInt a1))]) (st' := [.ref 31]) rfl ?_
  refine lf_getI 4 8 rfl rfl rfl rfl rfl rfl rfl ?_
  obtain ⟨o21, h⟩ := h
  refine lf_lsw 180 [(2, 64), (3, 84), (11, 115), (14, 91), (37, 144), (41, 162)] rfl rfl (by decide) (by decide) (by decide) o21 (fun c => ?_) (lf_tab1 (fun c => ?_) (lf_tab1 (fun c => ?_) (lf_tab1 (fun c => ?_) (lf_tab1 (fun c => ?_) (lf_tab1 (fun c => ?_) (lf_tab1 (fun c => ?_) lf_tab0))))))
  · have h := h.1 c
    refine lf_seg 1 (pc' := 181) (lv' := [(0, .ref 31), (1, .int (Int32.ofInt a1))]) (st' := [.ref 31]) rfl ?_
    refine lf_callV 184 rfl rfl rfl rfl (gm_56 h) (fun s22 h => ?_)
    exact lf_retV rfl rfl h
  · have h := h.2.1 c
    refine lf_seg 1 (pc' := 65) (lv' := [(0, .ref 31), (1, .int (Int32.ofInt a1))]) (st' := [.ref 31]) rfl ?_
    cases et23 : s.2.2 2 with
    | none =>
      have h := h.1 et23
      refine lf_getR 68 (w := none) rfl rfl rfl rfl rfl rfl (congrArg (Option.map (fun t => 35 + 7 * t)) et23) ?_
      refine lf_seg 3 (pc' := 71) (lv' := [(0, .ref 31), (1, .int (Int32.ofInt a1))]) (st' := [.int (Int32.ofInt 0), .ref 31, .int (Int32.ofInt 2), .null]) rfl ?_
      refine lf_sipush 74 9999 rfl rfl (by decide) (by decide) ?_
      refine lf_callI 77 rfl rfl rfl rfl (gm_44 h) (fun r25 s24 h => ?_)
      exact h.elim
    | some t23 =>
      obtain ⟨htt23, h⟩ := h.2 t23 et23
      refine lf_getR 68 (w := some (35 + 7 * t23)) rfl rfl rfl rfl rfl rfl (congrArg (Option.map (fun t => 35 + 7 * t)) et23) ?_
      refine lf_seg 3 (pc' := 71) (lv' := [(0, .ref 31), (1, .int (Int32.ofInt a1))]) (st' := [.int (Int32.ofInt 0), .ref 31, .int (Int32.ofInt 2), .ref (35 + 7 * t23)]) rfl ?_
      refine lf_sipush 74 9999 rfl rfl (by decide) (by decide) ?_
      refine lf_callI 77 rfl rfl rfl rfl (gm_44 h) (fun r27 s26 h => ?_)
      refine lf_callI 80 rfl rfl (lf_invT htt23 rfl rfl rfl rfl) rfl (gm_45 htt23 h) (fun r29 s28 h => ?_)
      refine lf_seg 2 (pc' := 184) (lv' := [(0, .ref 31), (1, .int (Int32.ofInt a1))]) (st' := []) rfl ?_
      exact lf_retV rfl rfl h
  · have h := h.2.2.1 c
    refine lf_seg 1 (pc' := 85) (lv' := [(0, .ref 31), (1, .int (Int32.ofInt a1))]) (st' := [.ref 31]) rfl ?_
    refine lf_callV 88 rfl rfl rfl rfl (gm_46 h) (fun s30 h => ?_)
    refine lf_seg 1 (pc' := 184) (lv' := [(0, .ref 31), (1, .int (Int32.ofInt a1))]) (st' := []) rfl ?_
    exact lf_retV rfl rfl h
  · have h := h.2.2.2.1 c
    refine lf_seg 2 (pc' := 117) (lv' := [(0, .ref 31), (1, .int (Int32.ofInt a1))]) (st' := [.int (Int32.ofInt a1), .ref 31]) rfl ?_
    refine lf_callZ 120 rfl rfl rfl rfl (gm_47 h) (fun z32 s31 h => ?_)
    refine lf_ifz_eq 184 123 rfl rfl rfl (fun c => ?_) (fun c => ?_)
    · have h := h.1 c
      exact lf_retV rfl rfl h
    · have h := h.2 c
      refine lf_seg 3 (pc' := 126) (lv' := [(0, .ref 31), (1, .int (Int32.ofInt a1))]) (st' := [.int (Int32.ofInt 1), .int (Int32.ofInt a1), .ref 31]) rfl ?_
      refine lf_iadd 127 rfl rfl ?_
      refine lf_callV 130 rfl rfl rfl rfl (hR43 _ _ _ h) (fun s33 h => ?_)
      refine lf_seg 1 (pc' := 131) (lv' := [(0, .ref 31), (1, .int (Int32.ofInt a1))]) (st' := [.ref 31]) rfl ?_
      cases et34 : s33.2.2 2 with
      | none =>
        have h := h.1 et34
        refine lf_getR 134 (w := none) rfl rfl rfl rfl rfl rfl (congrArg (Option.map (fun t => 35 + 7 * t)) et34) ?_
        refine lf_bipush 136 18 rfl rfl (by decide) (by decide) ?_
        refine lf_seg 1 (pc' := 137) (lv' := [(0, .ref 31), (1, .int (Int32.ofInt a1))]) (st' := [.int (Int32.ofInt 0), .int (Int32.ofInt 18), .null]) rfl ?_
        exact h.elim
      | some t34 =>
        obtain ⟨htt34, h⟩ := h.2 t34 et34
        refine lf_getR 134 (w := some (35 + 7 * t34)) rfl rfl rfl rfl rfl rfl (congrArg (Option.map (fun t => 35 + 7 * t)) et34) ?_
        refine lf_bipush 136 18 rfl rfl (by decide) (by decide) ?_
        refine lf_seg 1 (pc' := 137) (lv' := [(0, .ref 31), (1, .int (Int32.ofInt a1))]) (st' := [.int (Int32.ofInt 0), .int (Int32.ofInt 18), .ref (35 + 7 * t34)]) rfl ?_
        refine lf_callI 140 rfl rfl (lf_invT htt34 rfl rfl rfl rfl) rfl (gm_45 htt34 h) (fun r36 s35 h => ?_)
        refine lf_seg 2 (pc' := 184) (lv' := [(0, .ref 31), (1, .int (Int32.ofInt a1))]) (st' := []) rfl ?_
        exact lf_retV rfl rfl h
  · have h := h.2.2.2.2.1 c
    refine lf_seg 2 (pc' := 93) (lv' := [(0, .ref 31), (1, .int (Int32.ofInt a1))]) (st' := [.int (Int32.ofInt a1), .ref 31]) rfl ?_
    refine lf_callZ 96 rfl rfl rfl rfl (gm_47 h) (fun z38 s37 h => ?_)
    refine lf_ifz_eq 184 99 rfl rfl rfl (fun c => ?_) (fun c => ?_)
    · have h := h.1 c
      exact lf_retV rfl rfl h
    · have h := h.2 c
      refine lf_seg 3 (pc' := 102) (lv' := [(0, .ref 31), (1, .int (Int32.ofInt a1))]) (st' := [.int (Int32.ofInt 1), .int (Int32.ofInt a1), .ref 31]) rfl ?_
      refine lf_iadd 103 rfl rfl ?_
      refine lf_callV 106 rfl rfl rfl rfl (hR41 _ _ _ h) (fun s39 h => ?_)
      refine lf_seg 1 (pc' := 107) (lv' := [(0, .ref 31), (1, .int (Int32.ofInt a1))]) (st' := [.ref 31]) rfl ?_
      refine lf_bipush 109 15 rfl rfl (by decide) (by decide) ?_
      refine lf_callV 112 rfl rfl rfl rfl (gm_48 h) (fun s40 h => ?_)
      refine lf_seg 1 (pc' := 184) (lv' := [(0, .ref 31), (1, .int (Int32.ofInt a1))]) (st' := []) rfl ?_
      exact lf_retV rfl rfl h
  · have h := h.2.2.2.2.2.1 c
    refine lf_seg 2 (pc' := 146) (lv' := [(0, .ref 31), (1, .int (Int32.ofInt a1))]) (st' := [.int (Int32.ofInt a1), .ref 31]) rfl ?_
    refine lf_callZ 149 rfl rfl rfl rfl (gm_47 h) (fun z42 s41 h => ?_)
    refine lf_ifz_eq 184 152 rfl rfl rfl (fun c => ?_) (fun c => ?_)
    · have h := h.1 c
      exact lf_retV rfl rfl h
    · have h := h.2 c
      refine lf_seg 3 (pc' := 155) (lv' := [(0, .ref 31), (1, .int (Int32.ofInt a1))]) (st' := [.int (Int32.ofInt 1), .int (Int32.ofInt a1), .ref 31]) rfl ?_
      refine lf_iadd 156 rfl rfl ?_
      refine lf_callV 159 rfl rfl rfl rfl (hR49 _ _ _ h) (fun s43 h => ?_)
      refine lf_seg 1 (pc' := 184) (lv' := [(0, .ref 31), (1, .int (Int32.ofInt a1))]) (st' := []) rfl ?_
      exact lf_retV rfl rfl h
  · have h := h.2.2.2.2.2.2 c
    refine lf_seg 2 (pc' := 164) (lv' := [(0, .ref 31), (1, .int (Int32.ofInt a1))]) (st' := [.int (Int32.ofInt a1), .ref 31]) rfl ?_
    refine lf_callZ 167 rfl rfl rfl rfl (gm_47 h) (fun z45 s44 h => ?_)
    refine lf_ifz_eq 184 170 rfl rfl rfl (fun c => ?_) (fun c => ?_)
    · have h := h.1 c
      exact lf_retV rfl rfl h
    · have h := h.2 c
      refine lf_seg 3 (pc' := 173) (lv' := [(0, .ref 31), (1, .int (Int32.ofInt a1))]) (st' := [.int (Int32.ofInt 1), .int (Int32.ofInt a1), .ref 31]) rfl ?_
      refine lf_iadd 174 rfl rfl ?_
      refine lf_callV 177 rfl rfl rfl rfl (hR54 _ _ _ h) (fun s46 h => ?_)
      refine lf_seg 1 (pc' := 184) (lv' := [(0, .ref 31), (1, .int (Int32.ofInt a1))]) (st' := []) rfl ?_
      exact lf_retV rfl rfl h
-- fm_49 Reader.readIf 31 i
def fm_49 (R41 : Int → (lf_Z → Prop) → lf_Z → Prop) (R50 : Int → (lf_Z → Prop) → lf_Z → Prop) (a1 : Int) (Q : lf_Z → Prop) (s : lf_Z) : Prop := R50 a1 (fun s21 => (fm_48 38 (fun s22 => ((s22.2.2 2 = none → (False)) ∧ (∀ t23 : Nat, s22.2.2 2 = some t23 → t23 < 4 ∧ (fm_45 t23 38 0 (fun r25 s24 => (R41 a1 (fun s26 => (fm_48 39 (fun s27 => ((s27.2.2 2 = none → (False)) ∧ (∀ t28 : Nat, s27.2.2 2 = some t28 → t28 < 4 ∧ (fm_45 t28 39 0 (fun r30 s29 => ((s29.2.2 2 = none → (False)) ∧ (∀ t31 : Nat, s29.2.2 2 = some t31 → t31 < 4 ∧ (fm_53 t31 r25 (fun s32 => (R41 a1 (fun s33 => ((s33.2.2 2 = none → (False)) ∧ (∀ t34 : Nat, s33.2.2 2 = some t34 → t34 < 4 ∧ (fm_53 t34 r30 (fun s35 => (fm_48 40 (fun s36 => (Q s36)) s35)) s33)))) s32)) s29)))) s27)))) s26)) s24)) s22)))) s21)) s
set_option maxRecDepth 100000 in
theorem gm_49 {L : Nat} {xs : Nat → Int32} {d : Nat} {R41 : Int → (lf_Z → Prop) → lf_Z → Prop} {R50 : Int → (lf_Z → Prop) → lf_Z → Prop} {a1 : Int} {Q : lf_Z → Prop} {s : lf_Z} (hR41 : ∀ b1 Q s, R41 b1 Q s → lf_M (px_ro L xs) (d + 4) 41 [.ref 31, .int (Int32.ofInt b1)] s (lf_qv Q)) (hR50 : ∀ b1 Q s, R50 b1 Q s → lf_M (px_ro L xs) (d + 4) 50 [.ref 31, .int (Int32.ofInt b1)] s (lf_qv Q)) (h : fm_49 R41 R50 a1 Q s) : lf_M (px_ro L xs) (d + 5) 49 [.ref 31, .int (Int32.ofInt a1)] s (lf_qv Q) := by
  unfold fm_49 at h
  show lf_E (px_ro L xs) (d + 5) 49 0 [(0, .ref 31), (1, .int (Int32.ofInt a1))] [] s _
  refine lf_seg 2 (pc' := 2) (lv' := [(0, .ref 31), (1, .int (Int32.ofInt a1))]) (st' := [.int (Int32.ofInt a1), .ref 31]) rfl ?_
  refine lf_callV 5 rfl rfl rfl rfl (hR50 _ _ _ h) (fun s21 h => ?_)
  refine lf_seg 1 (pc' := 6) (lv' := [(0, .ref 31), (1, .int (Int32.ofInt a1))]) (st' := [.ref 31]) rfl ?_
  refine lf_bipush 8 38 rfl rfl (by decide) (by decide) ?_
  refine lf_callV 11 rfl rfl rfl rfl (gm_48 h) (fun s22 h => ?_)
  refine lf_seg 1 (pc' := 12) (lv' := [(0, .ref 31), (1, .int (Int32.ofInt a1))]) (st' := [.ref 31]) rfl ?_
  cases et23 : s22.2.2 2 with
  | none =>
    have h := h.1 et23
    refine lf_getR 15 (w := none) rfl rfl rfl rfl rfl rfl (congrArg (Option.map (fun t => 35 + 7 * t)) et23) ?_
    refine lf_bipush 17 38 rfl rfl (by decide) (by decide) ?_
    refine lf_seg 1 (pc' := 18) (lv' := [(0, .ref 31), (1, .int (Int32.ofInt a1))]) (st' := [.int (Int32.ofInt 0), .int (Int32.ofInt 38), .null]) rfl ?_
    exact h.elim
  | some t23 =>
    obtain ⟨htt23, h⟩ := h.2 t23 et23
    refine lf_getR 15 (w := some (35 + 7 * t23)) rfl rfl rfl rfl rfl rfl (congrArg (Option.map (fun t => 35 + 7 * t)) et23) ?_
    refine lf_bipush 17 38 rfl rfl (by decide) (by decide) ?_
    refine lf_seg 1 (pc' := 18) (lv' := [(0, .ref 31), (1, .int (Int32.ofInt a1))]) (st' := [.int (Int32.ofInt 0), .int (Int32.ofInt 38), .ref (35 + 7 * t23)]) rfl ?_
    refine lf_callI 21 rfl rfl (lf_invT htt23 rfl rfl rfl rfl) rfl (gm_45 htt23 h) (fun r25 s24 h => ?_)
    refine lf_seg 3 (pc' := 24) (lv' := [(2, .int (Int32.ofInt r25)), (0, .ref 31), (1, .int (Int32.ofInt a1))]) (st' := [.int (Int32.ofInt a1), .ref 31]) rfl ?_
    refine lf_callV 27 rfl rfl rfl rfl (hR41 _ _ _ h) (fun s26 h => ?_)
    refine lf_seg 1 (pc' := 28) (lv' := [(2, .int (Int32.ofInt r25)), (0, .ref 31), (1, .int (Int32.ofInt a1))]) (st' := [.ref 31]) rfl ?_
    refine lf_bipush 30 39 rfl rfl (by decide) (by decide) ?_
    refine lf_callV 33 rfl rfl rfl rfl (gm_48 h) (fun s27 h => ?_)
    refine lf_seg 1 (pc' := 34) (lv' := [(2, .int (Int32.ofInt r25)), (0, .ref 31), (1, .int (Int32.ofInt a1))]) (st' := [.ref 31]) rfl ?_
    cases et28 : s27.2.2 2 with
    | none =>
      have h := h.1 et28
      refine lf_getR 37 (w := none) rfl rfl rfl rfl rfl rfl (congrArg (Option.map (fun t => 35 + 7 * t)) et28) ?_
      refine lf_bipush 39 39 rfl rfl (by decide) (by decide) ?_
      refine lf_seg 1 (pc' := 40) (lv' := [(2, .int (Int32.ofInt r25)), (0, .ref 31), (1, .int (Int32.ofInt a1))]) (st' := [.int (Int32.ofInt 0), .int (Int32.ofInt 39), .null]) rfl ?_
      exact h.elim
    | some t28 =>
      obtain ⟨htt28, h⟩ := h.2 t28 et28
      refine lf_getR 37 (w := some (35 + 7 * t28)) rfl rfl rfl rfl rfl rfl (congrArg (Option.map (fun t => 35 + 7 * t)) et28) ?_
      refine lf_bipush 39 39 rfl rfl (by decide) (by decide) ?_
      refine lf_seg 1 (pc' := 40) (lv' := [(2, .int (Int32.ofInt r25)), (0, .ref 31), (1, .int (Int32.ofInt a1))]) (st' := [.int (Int32.ofInt 0), .int (Int32.ofInt 39), .ref (35 + 7 * t28)]) rfl ?_
      refine lf_callI 43 rfl rfl (lf_invT htt28 rfl rfl rfl rfl) rfl (gm_45 htt28 h) (fun r30 s29 h => ?_)
      refine lf_seg 2 (pc' := 45) (lv' := [(3, .int (Int32.ofInt r30)), (2, .int (Int32.ofInt r25)), (0, .ref 31), (1, .int (Int32.ofInt a1))]) (st' := [.ref 31]) rfl ?_
      cases et31 : s29.2.2 2 with
      | none =>
        have h := h.1 et31
        refine lf_getR 48 (w := none) rfl rfl rfl rfl rfl rfl (congrArg (Option.map (fun t => 35 + 7 * t)) et31) ?_
        refine lf_seg 1 (pc' := 49) (lv' := [(3, .int (Int32.ofInt r30)), (2, .int (Int32.ofInt r25)), (0, .ref 31), (1, .int (Int32.ofInt a1))]) (st' := [.int (Int32.ofInt r25), .null]) rfl ?_
        exact h.elim
      | some t31 =>
        obtain ⟨htt31, h⟩ := h.2 t31 et31
        refine lf_getR 48 (w := some (35 + 7 * t31)) rfl rfl rfl rfl rfl rfl (congrArg (Option.map (fun t => 35 + 7 * t)) et31) ?_
        refine lf_seg 1 (pc' := 49) (lv' := [(3, .int (Int32.ofInt r30)), (2, .int (Int32.ofInt r25)), (0, .ref 31), (1, .int (Int32.ofInt a1))]) (st' := [.int (Int32.ofInt r25), .ref (35 + 7 * t31)]) rfl ?_
        refine lf_callV 52 rfl rfl (lf_invT htt31 rfl rfl rfl rfl) rfl (gm_53 htt31 h) (fun s32 h => ?_)
        refine lf_seg 2 (pc' := 54) (lv' := [(3, .int (Int32.ofInt r30)), (2, .int (Int32.ofInt r25)), (0, .ref 31), (1, .int (Int32.ofInt a1))]) (st' := [.int (Int32.ofInt a1), .ref 31]) rfl ?_
        refine lf_callV 57 rfl rfl rfl rfl (hR41 _ _ _ h) (fun s33 h => ?_)
        refine lf_seg 1 (pc' := 58) (lv' := [(3, .int (Int32.ofInt r30)), (2, .int (Int32.ofInt r25)), (0, .ref 31), (1, .int (Int32.ofInt a1))]) (st' := [.ref 31]) rfl ?_
        cases et34 : s33.2.2 2 with
        | none =>
          have h := h.1 et34
          refine lf_getR 61 (w := none) rfl rfl rfl rfl rfl rfl (congrArg (Option.map (fun t => 35 + 7 * t)) et34) ?_
          refine lf_seg 1 (pc' := 62) (lv' := [(3, .int (Int32.ofInt r30)), (2, .int (Int32.ofInt r25)), (0, .ref 31), (1, .int (Int32.ofInt a1))]) (st' := [.int (Int32.ofInt r30), .null]) rfl ?_
          exact h.elim
        | some t34 =>
          obtain ⟨htt34, h⟩ := h.2 t34 et34
          refine lf_getR 61 (w := some (35 + 7 * t34)) rfl rfl rfl rfl rfl rfl (congrArg (Option.map (fun t => 35 + 7 * t)) et34) ?_
          refine lf_seg 1 (pc' := 62) (lv' := [(3, .int (Int32.ofInt r30)), (2, .int (Int32.ofInt r25)), (0, .ref 31), (1, .int (Int32.ofInt a1))]) (st' := [.int (Int32.ofInt r30), .ref (35 + 7 * t34)]) rfl ?_
          refine lf_callV 65 rfl rfl (lf_invT htt34 rfl rfl rfl rfl) rfl (gm_53 htt34 h) (fun s35 h => ?_)
          refine lf_seg 1 (pc' := 66) (lv' := [(3, .int (Int32.ofInt r30)), (2, .int (Int32.ofInt r25)), (0, .ref 31), (1, .int (Int32.ofInt a1))]) (st' := [.ref 31]) rfl ?_
          refine lf_bipush 68 40 rfl rfl (by decide) (by decide) ?_
          refine lf_callV 71 rfl rfl rfl rfl (gm_48 h) (fun s36 h => ?_)
          exact lf_retV rfl rfl h
-- fm_54 Reader.readLet 31 i
def fm_54_p29 (R41 : Int → (lf_Z → Prop) → lf_Z → Prop) (Q : lf_Z → Prop) (x1 : Int) (y0 : Int) (s : lf_Z) : Prop := fm_55 (x1 - 1) 0 7 (fun r23 s22 => (fm_48 3 (fun s24 => (fm_48 42 (fun s25 => (R41 x1 (fun s26 => (fm_48 43 (fun s27 => ((s27.2.2 2 = none → (False)) ∧ (∀ t28 : Nat, s27.2.2 2 = some t28 → t28 < 4 ∧ (fm_45 t28 43 r23 (fun r30 s29 => ((0 ≤ y0 ∧ y0 < 26) ∧ (R41 x1 (fun s32 => (fm_48 40 (fun s33 => (Q s33)) (lf_up s32.1 33 y0 (s29.1 33 y0), s32.2.1, s32.2.2))) (lf_up s29.1 33 y0 r23, s29.2.1, s29.2.2)))) s27)))) s26)) s25)) s24)) s22)) s
set_option maxRecDepth 100000 in
theorem gm_54_p29 {L : Nat} {xs : Nat → Int32} {d : Nat} {R41 : Int → (lf_Z → Prop) → lf_Z → Prop} {Q : lf_Z → Prop} {x1 : Int} {y0 : Int} {s : lf_Z} (hR41 : ∀ b1 Q s, R41 b1 Q s → lf_M (px_ro L xs) (d + 4) 41 [.ref 31, .int (Int32.ofInt b1)] s (lf_qv Q)) (h : fm_54_p29 R41 Q x1 y0 s) : lf_E (px_ro L xs) (d + 5) 54 29 [(0, .ref 31), (1, .int (Int32.ofInt x1))] [.int (Int32.ofInt y0)] s (lf_qv Q) := by
  unfold fm_54_p29 at h
  refine lf_seg 3 (pc' := 32) (lv' := [(2, .int (Int32.ofInt y0)), (0, .ref 31), (1, .int (Int32.ofInt x1))]) (st' := [.int (Int32.ofInt 1), .int (Int32.ofInt x1)]) rfl ?_
  refine lf_isub 33 rfl rfl ?_
  refine lf_seg 1 (pc' := 34) (lv' := [(2, .int (Int32.ofInt y0)), (0, .ref 31), (1, .int (Int32.ofInt x1))]) (st' := [.int (Int32.ofInt 0), .int (Int32.ofInt (x1 - 1))]) rfl ?_
  refine lf_bipush 36 7 rfl rfl (by decide) (by decide) ?_
  refine lf_callI 39 rfl rfl rfl rfl (gm_55 h) (fun r23 s22 h => ?_)
  refine lf_seg 3 (pc' := 42) (lv' := [(3, .int (Int32.ofInt r23)), (2, .int (Int32.ofInt y0)), (0, .ref 31), (1, .int (Int32.ofInt x1))]) (st' := [.int (Int32.ofInt 3), .ref 31]) rfl ?_
  refine lf_callV 45 rfl rfl rfl rfl (gm_48 h) (fun s24 h => ?_)
  refine lf_seg 1 (pc' := 46) (lv' := [(3, .int (Int32.ofInt r23)), (2, .int (Int32.ofInt y0)), (0, .ref 31), (1, .int (Int32.ofInt x1))]) (st' := [.ref 31]) rfl ?_
  refine lf_bipush 48 42 rfl rfl (by decide) (by decide) ?_
  refine lf_callV 51 rfl rfl rfl rfl (gm_48 h) (fun s25 h => ?_)
  refine lf_seg 2 (pc' := 53) (lv' := [(3, .int (Int32.ofInt r23)), (2, .int (Int32.ofInt y0)), (0, .ref 31), (1, .int (Int32.ofInt x1))]) (st' := [.int (Int32.ofInt x1), .ref 31]) rfl ?_
  refine lf_callV 56 rfl rfl rfl rfl (hR41 _ _ _ h) (fun s26 h => ?_)
  refine lf_seg 1 (pc' := 57) (lv' := [(3, .int (Int32.ofInt r23)), (2, .int (Int32.ofInt y0)), (0, .ref 31), (1, .int (Int32.ofInt x1))]) (st' := [.ref 31]) rfl ?_
  refine lf_bipush 59 43 rfl rfl (by decide) (by decide) ?_
  refine lf_callV 62 rfl rfl rfl rfl (gm_48 h) (fun s27 h => ?_)
  refine lf_seg 1 (pc' := 63) (lv' := [(3, .int (Int32.ofInt r23)), (2, .int (Int32.ofInt y0)), (0, .ref 31), (1, .int (Int32.ofInt x1))]) (st' := [.ref 31]) rfl ?_
  cases et28 : s27.2.2 2 with
  | none =>
    have h := h.1 et28
    refine lf_getR 66 (w := none) rfl rfl rfl rfl rfl rfl (congrArg (Option.map (fun t => 35 + 7 * t)) et28) ?_
    refine lf_bipush 68 43 rfl rfl (by decide) (by decide) ?_
    refine lf_seg 1 (pc' := 69) (lv' := [(3, .int (Int32.ofInt r23)), (2, .int (Int32.ofInt y0)), (0, .ref 31), (1, .int (Int32.ofInt x1))]) (st' := [.int (Int32.ofInt r23), .int (Int32.ofInt 43), .null]) rfl ?_
    exact h.elim
  | some t28 =>
    obtain ⟨htt28, h⟩ := h.2 t28 et28
    refine lf_getR 66 (w := some (35 + 7 * t28)) rfl rfl rfl rfl rfl rfl (congrArg (Option.map (fun t => 35 + 7 * t)) et28) ?_
    refine lf_bipush 68 43 rfl rfl (by decide) (by decide) ?_
    refine lf_seg 1 (pc' := 69) (lv' := [(3, .int (Int32.ofInt r23)), (2, .int (Int32.ofInt y0)), (0, .ref 31), (1, .int (Int32.ofInt x1))]) (st' := [.int (Int32.ofInt r23), .int (Int32.ofInt 43), .ref (35 + 7 * t28)]) rfl ?_
    refine lf_callI 72 rfl rfl (lf_invT htt28 rfl rfl rfl rfl) rfl (gm_45 htt28 h) (fun r30 s29 h => ?_)
    refine lf_seg 4 (pc' := 78) (lv' := [(3, .int (Int32.ofInt r23)), (2, .int (Int32.ofInt y0)), (0, .ref 31), (1, .int (Int32.ofInt x1))]) (st' := [.int (Int32.ofInt y0), .ref 33]) rfl ?_
    obtain ⟨o31, h⟩ := h
    refine lf_iald 79 26 rfl rfl rfl rfl rfl rfl o31 ?_
    refine lf_seg 5 (pc' := 87) (lv' := [(4, .int (Int32.ofInt (s29.1 33 y0))), (3, .int (Int32.ofInt r23)), (2, .int (Int32.ofInt y0)), (0, .ref 31), (1, .int (Int32.ofInt x1))]) (st' := [.int (Int32.ofInt r23), .int (Int32.ofInt y0), .ref 33]) rfl ?_
    refine lf_iast 88 26 rfl rfl rfl rfl rfl rfl o31 ?_
    refine lf_as (lf_up s29.1 33 y0 r23, s29.2.1, s29.2.2) rfl ?_
    refine lf_seg 2 (pc' := 90) (lv' := [(4, .int (Int32.ofInt (s29.1 33 y0))), (3, .int (Int32.ofInt r23)), (2, .int (Int32.ofInt y0)), (0, .ref 31), (1, .int (Int32.ofInt x1))]) (st' := [.int (Int32.ofInt x1), .ref 31]) rfl ?_
    refine lf_callV 93 rfl rfl rfl rfl (hR41 _ _ _ h) (fun s32 h => ?_)
    refine lf_seg 4 (pc' := 100) (lv' := [(4, .int (Int32.ofInt (s29.1 33 y0))), (3, .int (Int32.ofInt r23)), (2, .int (Int32.ofInt y0)), (0, .ref 31), (1, .int (Int32.ofInt x1))]) (st' := [.int (Int32.ofInt (s29.1 33 y0)), .int (Int32.ofInt y0), .ref 33]) rfl ?_
    refine lf_iast 101 26 rfl rfl rfl rfl rfl rfl o31 ?_
    refine lf_as (lf_up s32.1 33 y0 (s29.1 33 y0), s32.2.1, s32.2.2) rfl ?_
    refine lf_seg 1 (pc' := 102) (lv' := [(4, .int (Int32.ofInt (s29.1 33 y0))), (3, .int (Int32.ofInt r23)), (2, .int (Int32.ofInt y0)), (0, .ref 31), (1, .int (Int32.ofInt x1))]) (st' := [.ref 31]) rfl ?_
    refine lf_bipush 104 40 rfl rfl (by decide) (by decide) ?_
    refine lf_callV 107 rfl rfl rfl rfl (gm_48 h) (fun s33 h => ?_)
    exact lf_retV rfl rfl h
def fm_54_p28 (R41 : Int → (lf_Z → Prop) → lf_Z → Prop) (Q : lf_Z → Prop) (x1 : Int) (s : lf_Z) : Prop := fm_54_p29 R41 Q x1 0 s
set_option maxRecDepth 100000 in
theorem gm_54_p28 {L : Nat} {xs : Nat → Int32} {d : Nat} {R41 : Int → (lf_Z → Prop) → lf_Z → Prop} {Q : lf_Z → Prop} {x1 : Int} {s : lf_Z} (hR41 : ∀ b1 Q s, R41 b1 Q s → lf_M (px_ro L xs) (d + 4) 41 [.ref 31, .int (Int32.ofInt b1)] s (lf_qv Q)) (h : fm_54_p28 R41 Q x1 s) : lf_E (px_ro L xs) (d + 5) 54 28 [(0, .ref 31), (1, .int (Int32.ofInt x1))] [] s (lf_qv Q) := by
  unfold fm_54_p28 at h
  refine lf_seg 1 (pc' := 29) (lv' := [(0, .ref 31), (1, .int (Int32.ofInt x1))]) (st' := [.int (Int32.ofInt 0)]) rfl ?_
  refine lf_sub (l := [(0, .ref 31), (1, .int (Int32.ofInt x1))]) (lf_sb1 rfl (lf_sb1 rfl lf_sb0)) ?_
  exact gm_54_p29 hR41 h
def fm_54 (R41 : Int → (lf_Z → Prop) → lf_Z → Prop) (a1 : Int) (Q : lf_Z → Prop) (s : lf_Z) : Prop := lf_R (s.1 31 8) ∧ ((s.1 31 8 ≠ 3 → (fm_54_p28 R41 Q a1 s)) ∧ (¬ (s.1 31 8 ≠ 3) → (fm_15 (s.1 31 10) 0 25 (fun z35 s34 => ((z35 = false → (fm_54_p28 R41 Q a1 s34)) ∧ (z35 = true → (fm_54_p29 R41 Q a1 (s34.1 31 10) s34)))) s)))
set_option maxRecDepth 100000 in
theorem gm_54 {L : Nat} {xs : Nat → Int32} {d : Nat} {R41 : Int → (lf_Z → Prop) → lf_Z → Prop} {a1 : Int} {Q : lf_Z → Prop} {s : lf_Z} (hR41 : ∀ b1 Q s, R41 b1 Q s → lf_M (px_ro L xs) (d + 4) 41 [.ref 31, .int (Int32.ofInt b1)] s (lf_qv Q)) (h : fm_54 R41 a1 Q s) : lf_M (px_ro L xs) (d + 5) 54 [.ref 31, .int (Int32.ofInt a1)] s (lf_qv Q) := by
  unfold fm_54 at h
  show lf_E (px_ro L xs) (d + 5) 54 0 [(0, .ref 31), (1, .int (Int32.ofInt a1))] [] s _
  refine lf_seg 1 (pc' := 1) (lv' := [(0, .ref 31), (1, .int (Int32.ofInt a1))]) (st' := [.ref 31]) rfl ?_
  refine lf_getI 4 8 rfl rfl rfl rfl rfl rfl rfl ?_
  refine lf_seg 1 (pc' := 5) (lv' := [(0, .ref 31), (1, .int (Int32.ofInt a1))]) (st' := [.int (Int32.ofInt 3), .int (Int32.ofInt (s.1 31 8))]) rfl ?_
  obtain ⟨o21, h⟩ := h
  refine lf_icmp_ne 28 8 rfl rfl rfl o21 ⟨by decide, by decide⟩ (fun c => ?_) (fun c => ?_)
  · have h := h.1 c
    refine lf_sub (l := [(0, .ref 31), (1, .int (Int32.ofInt a1))]) (lf_sb1 rfl (lf_sb1 rfl lf_sb0)) ?_
    exact gm_54_p28 hR41 h
  · have h := h.2 c
    refine lf_seg 1 (pc' := 9) (lv' := [(0, .ref 31), (1, .int (Int32.ofInt a1))]) (st' := [.ref 31]) rfl ?_
    refine lf_getI 12 10 rfl rfl rfl rfl rfl rfl rfl ?_
    refine lf_seg 1 (pc' := 13) (lv' := [(0, .ref 31), (1, .int (Int32.ofInt a1))]) (st' := [.int (Int32.ofInt 0), .int (Int32.ofInt (s.1 31 10))]) rfl ?_
    refine lf_bipush 15 25 rfl rfl (by decide) (by decide) ?_
    refine lf_callZ 18 rfl rfl rfl rfl (gm_15 h) (fun z35 s34 h => ?_)
    refine lf_ifz_eq 28 21 rfl rfl rfl (fun c => ?_) (fun c => ?_)
    · have h := h.1 c
      refine lf_sub (l := [(0, .ref 31), (1, .int (Int32.ofInt a1))]) (lf_sb1 rfl (lf_sb1 rfl lf_sb0)) ?_
      exact gm_54_p28 hR41 h
    · have h := h.2 c
      refine lf_seg 1 (pc' := 22) (lv' := [(0, .ref 31), (1, .int (Int32.ofInt a1))]) (st' := [.ref 31]) rfl ?_
      refine lf_getI 25 10 rfl rfl rfl rfl rfl rfl rfl ?_
      refine lf_seg 1 (pc' := 29) (lv' := [(0, .ref 31), (1, .int (Int32.ofInt a1))]) (st' := [.int (Int32.ofInt (s34.1 31 10))]) rfl ?_
      refine lf_sub (l := [(0, .ref 31), (1, .int (Int32.ofInt a1))]) (lf_sb1 rfl (lf_sb1 rfl lf_sb0)) ?_
      exact gm_54_p29 hR41 h
-- fm_50 Reader.readEither 31 i
def fm_50_p7 (R51 : Int → (lf_Z → Prop) → lf_Z → Prop) (Q : lf_Z → Prop) (x1 : Int) (X7 : Int → lf_Z → Prop) (x2 : Int) (s : lf_Z) : Prop := lf_R x2 ∧ ((300 ≤ x2 → (Q s)) ∧ (¬ (300 ≤ x2) → (lf_R (s.1 31 8) ∧ ((s.1 31 8 ≠ 46 → (Q s)) ∧ (¬ (s.1 31 8 ≠ 46) → (fm_31 (fun s24 => (R51 x1 (fun s25 => ((s25.2.2 2 = none → (False)) ∧ (∀ t26 : Nat, s25.2.2 2 = some t26 → t26 < 4 ∧ (fm_45 t26 46 0 (fun r28 s27 => (X7 (x2 + 1) s27)) s25)))) s24)) s))))))
def fm_50_p7L (R51 : Int → (lf_Z → Prop) → lf_Z → Prop) (Q : lf_Z → Prop) (x1 : Int) (x2 : Int) (s : lf_Z) : Prop := ∀ X7 : Int → lf_Z → Prop, (∀ (x2 : Int) (s : lf_Z), fm_50_p7 R51 Q x1 X7 x2 s → X7 x2 s) → X7 x2 s
set_option maxRecDepth 100000 in
theorem gm_50_p7 {L : Nat} {xs : Nat → Int32} {d : Nat} {R51 : Int → (lf_Z → Prop) → lf_Z → Prop} {Q : lf_Z → Prop} {x1 : Int} {x2 : Int} {s : lf_Z} {X7 : Int → lf_Z → Prop} (hR51 : ∀ b1 Q s, R51 b1 Q s → lf_M (px_ro L xs) (d + 4) 51 [.ref 31, .int (Int32.ofInt b1)] s (lf_qv Q)) (hX7 : ∀ x2 s, X7 x2 s → lf_E (px_ro L xs) (d + 5) 50 7 [(0, .ref 31), (1, .int (Int32.ofInt x1)), (2, .int (Int32.ofInt x2))] [] s (lf_qv Q)) (h : fm_50_p7 R51 Q x1 X7 x2 s) : lf_E (px_ro L xs) (d + 5) 50 7 [(0, .ref 31), (1, .int (Int32.ofInt x1)), (2, .int (Int32.ofInt x2))] [] s (lf_qv Q) := by
  unfold fm_50_p7 at h
  refine lf_seg 1 (pc' := 8) (lv' := [(0, .ref 31), (1, .int (Int32.ofInt x1)), (2, .int (Int32.ofInt x2))]) (st' := [.int (Int32.ofInt x2)]) rfl ?_
  refine lf_sipush 11 300 rfl rfl (by decide) (by decide) ?_
  obtain ⟨o22, h⟩ := h
  refine lf_icmp_ge 49 14 rfl rfl rfl o22 ⟨by decide, by decide⟩ (fun c => ?_) (fun c => ?_)
  · have h := h.1 c
    exact lf_retV rfl rfl h
  · have h := h.2 c
    refine lf_seg 1 (pc' := 15) (lv' := [(0, .ref 31), (1, .int (Int32.ofInt x1)), (2, .int (Int32.ofInt x2))]) (st' := [.ref 31]) rfl ?_
    refine lf_getI 18 8 rfl rfl rfl rfl rfl rfl rfl ?_
    refine lf_bipush 20 46 rfl rfl (by decide) (by decide) ?_
    obtain ⟨o23, h⟩ := h
    refine lf_icmp_ne 49 23 rfl rfl rfl o23 ⟨by decide, by decide⟩ (fun c => ?_) (fun c => ?_)
    · have h := h.1 c
      exact lf_retV rfl rfl h
    · have h := h.2 c
      refine lf_seg 1 (pc' := 24) (lv' := [(0, .ref 31), (1, .int (Int32.ofInt x1)), (2, .int (Int32.ofInt x2))]) (st' := [.ref 31]) rfl ?_
      refine lf_callV 27 rfl rfl rfl rfl (gm_31 h) (fun s24 h => ?_)
      refine lf_seg 2 (pc' := 29) (lv' := [(0, .ref 31), (1, .int (Int32.ofInt x1)), (2, .int (Int32.ofInt x2))]) (st' := [.int (Int32.ofInt x1), .ref 31]) rfl ?_
      refine lf_callV 32 rfl rfl rfl rfl (hR51 _ _ _ h) (fun s25 h => ?_)
      refine lf_seg 1 (pc' := 33) (lv' := [(0, .ref 31), (1, .int (Int32.ofInt x1)), (2, .int (Int32.ofInt x2))]) (st' := [.ref 31]) rfl ?_
      cases et26 : s25.2.2 2 with
      | none =>
        have h := h.1 et26
        refine lf_getR 36 (w := none) rfl rfl rfl rfl rfl rfl (congrArg (Option.map (fun t => 35 + 7 * t)) et26) ?_
        refine lf_bipush 38 46 rfl rfl (by decide) (by decide) ?_
        refine lf_seg 1 (pc' := 39) (lv' := [(0, .ref 31), (1, .int (Int32.ofInt x1)), (2, .int (Int32.ofInt x2))]) (st' := [.int (Int32.ofInt 0), .int (Int32.ofInt 46), .null]) rfl ?_
        exact h.elim
      | some t26 =>
        obtain ⟨htt26, h⟩ := h.2 t26 et26
        refine lf_getR 36 (w := some (35 + 7 * t26)) rfl rfl rfl rfl rfl rfl (congrArg (Option.map (fun t => 35 + 7 * t)) et26) ?_
        refine lf_bipush 38 46 rfl rfl (by decide) (by decide) ?_
        refine lf_seg 1 (pc' := 39) (lv' := [(0, .ref 31), (1, .int (Int32.ofInt x1)), (2, .int (Int32.ofInt x2))]) (st' := [.int (Int32.ofInt 0), .int (Int32.ofInt 46), .ref (35 + 7 * t26)]) rfl ?_
        refine lf_callI 42 rfl rfl (lf_invT htt26 rfl rfl rfl rfl) rfl (gm_45 htt26 h) (fun r28 s27 h => ?_)
        refine lf_seg 1 (pc' := 43) (lv' := [(0, .ref 31), (1, .int (Int32.ofInt x1)), (2, .int (Int32.ofInt x2))]) (st' := []) rfl ?_
        refine lf_iinc 46 rfl rfl rfl rfl ?_
        refine lf_seg 1 (pc' := 7) (lv' := [(2, .int (Int32.ofInt (x2 + 1))), (0, .ref 31), (1, .int (Int32.ofInt x1))]) (st' := []) rfl ?_
        refine lf_sub (l := [(0, .ref 31), (1, .int (Int32.ofInt x1)), (2, .int (Int32.ofInt (x2 + 1)))]) (lf_sb1 rfl (lf_sb1 rfl (lf_sb1 rfl lf_sb0))) ?_
        exact hX7 _ _ h
theorem gm_50_p7L {L : Nat} {xs : Nat → Int32} {d : Nat} {R51 : Int → (lf_Z → Prop) → lf_Z → Prop} {Q : lf_Z → Prop} {x1 : Int} {x2 : Int} {s : lf_Z} (hR51 : ∀ b1 Q s, R51 b1 Q s → lf_M (px_ro L xs) (d + 4) 51 [.ref 31, .int (Int32.ofInt b1)] s (lf_qv Q)) (h : fm_50_p7L R51 Q x1 x2 s) : lf_E (px_ro L xs) (d + 5) 50 7 [(0, .ref 31), (1, .int (Int32.ofInt x1)), (2, .int (Int32.ofInt x2))] [] s (lf_qv Q) :=
  h (fun x2 s => lf_E (px_ro L xs) (d + 5) 50 7 [(0, .ref 31), (1, .int (Int32.ofInt x1)), (2, .int (Int32.ofInt x2))] [] s (lf_qv Q)) (fun x2 s hb => gm_50_p7 hR51 (fun _ _ h => h) hb)
def fm_50 (R51 : Int → (lf_Z → Prop) → lf_Z → Prop) (a1 : Int) (Q : lf_Z → Prop) (s : lf_Z) : Prop := R51 a1 (fun s21 => (fm_50_p7L R51 Q a1 0 s21)) s
set_option maxRecDepth 100000 in
theorem gm_50 {L : Nat} {xs : Nat → Int32} {d : Nat} {R51 : Int → (lf_Z → Prop) → lf_Z → Prop} {a1 : Int} {Q : lf_Z → Prop} {s : lf_Z} (hR51 : ∀ b1 Q s, R51 b1 Q s → lf_M (px_ro L xs) (d + 4) 51 [.ref 31, .int (Int32.ofInt b1)] s (lf_qv Q)) (h : fm_50 R51 a1 Q s) : lf_M (px_ro L xs) (d + 5) 50 [.ref 31, .int (Int32.ofInt a1)] s (lf_qv Q) := by
  unfold fm_50 at h
  show lf_E (px_ro L xs) (d + 5) 50 0 [(0, .ref 31), (1, .int (Int32.ofInt a1))] [] s _
  refine lf_seg 2 (pc' := 2) (lv' := [(0, .ref 31), (1, .int (Int32.ofInt a1))]) (st' := [.int (Int32.ofInt a1), .ref 31]) rfl ?_
  refine lf_callV 5 rfl rfl rfl rfl (hR51 _ _ _ h) (fun s21 h => ?_)
  refine lf_seg 2 (pc' := 7) (lv' := [(2, .int (Int32.ofInt 0)), (0, .ref 31), (1, .int (Int32.ofInt a1))]) (st' := []) rfl ?_
  refine lf_sub (l := [(0, .ref 31), (1, .int (Int32.ofInt a1)), (2, .int (Int32.ofInt 0))]) (lf_sb1 rfl (lf_sb1 rfl (lf_sb1 rfl lf_sb0))) ?_
  exact gm_50_p7L hR51 h
-- fm_51 Reader.readBoth 31 i
def fm_51_p7 (R52 : Int → (lf_Z → Prop) → lf_Z → Prop) (Q : lf_Z → Prop) (x1 : Int) (X7 : Int → lf_Z → Prop) (x2 : Int) (s : lf_Z) : Prop := lf_R x2 ∧ ((300 ≤ x2 → (Q s)) ∧ (¬ (300 ≤ x2) → (lf_R (s.1 31 8) ∧ ((s.1 31 8 ≠ 45 → (Q s)) ∧ (¬ (s.1 31 8 ≠ 45) → (fm_31 (fun s24 => (R52 x1 (fun s25 => ((s25.2.2 2 = none → (False)) ∧ (∀ t26 : Nat, s25.2.2 2 = some t26 → t26 < 4 ∧ (fm_45 t26 45 0 (fun r28 s27 => (X7 (x2 + 1) s27)) s25)))) s24)) s))))))
def fm_51_p7L (R52 : Int → (lf_Z → Prop) → lf_Z → Prop) (Q : lf_Z → Prop) (x1 : Int) (x2 : Int) (s : lf_Z) : Prop := ∀ X7 : Int → lf_Z → Prop, (∀ (x2 : Int) (s : lf_Z), fm_51_p7 R52 Q x1 X7 x2 s → X7 x2 s) → X7 x2 s
set_option maxRecDepth 100000 in
theorem gm_51_p7 {L : Nat} {xs : Nat → Int32} {d : Nat} {R52 : Int → (lf_Z → Prop) → lf_Z → Prop} {Q : lf_Z → Prop} {x1 : Int} {x2 : Int} {s : lf_Z} {X7 : Int → lf_Z → Prop} (hR52 : ∀ b1 Q s, R52 b1 Q s → lf_M (px_ro L xs) (d + 4) 52 [.ref 31, .int (Int32.ofInt b1)] s (lf_qv Q)) (hX7 : ∀ x2 s, X7 x2 s → lf_E (px_ro L xs) (d + 5) 51 7 [(0, .ref 31), (1, .int (Int32.ofInt x1)), (2, .int (Int32.ofInt x2))] [] s (lf_qv Q)) (h : fm_51_p7 R52 Q x1 X7 x2 s) : lf_E (px_ro L xs) (d + 5) 51 7 [(0, .ref 31), (1, .int (Int32.ofInt x1)), (2, .int (Int32.ofInt x2))] [] s (lf_qv Q) := by
  unfold fm_51_p7 at h
  refine lf_seg 1 (pc' := 8) (lv' := [(0, .ref 31), (1, .int (Int32.ofInt x1)), (2, .int (Int32.ofInt x2))]) (st' := [.int (Int32.ofInt x2)]) rfl ?_
  refine lf_sipush 11 300 rfl rfl (by decide) (by decide) ?_
  obtain ⟨o22, h⟩ := h
  refine lf_icmp_ge 49 14 rfl rfl rfl o22 ⟨by decide, by decide⟩ (fun c => ?_) (fun c => ?_)
  · have h := h.1 c
    exact lf_retV rfl rfl h
  · have h := h.2 c
    refine lf_seg 1 (pc' := 15) (lv' := [(0, .ref 31), (1, .int (Int32.ofInt x1)), (2, .int (Int32.ofInt x2))]) (st' := [.ref 31]) rfl ?_
    refine lf_getI 18 8 rfl rfl rfl rfl rfl rfl rfl ?_
    refine lf_bipush 20 45 rfl rfl (by decide) (by decide) ?_
    obtain ⟨o23, h⟩ := h
    refine lf_icmp_ne 49 23 rfl rfl rfl o23 ⟨by decide, by decide⟩ (fun c => ?_) (fun c => ?_)
    · have h := h.1 c
      exact lf_retV rfl rfl h
    · have h := h.2 c
      refine lf_seg 1 (pc' := 24) (lv' := [(0, .ref 31), (1, .int (Int32.ofInt x1)), (2, .int (Int32.ofInt x2))]) (st' := [.ref 31]) rfl ?_
      refine lf_callV 27 rfl rfl rfl rfl (gm_31 h) (fun s24 h => ?_)
      refine lf_seg 2 (pc' := 29) (lv' := [(0, .ref 31), (1, .int (Int32.ofInt x1)), (2, .int (Int32.ofInt x2))]) (st' := [.int (Int32.ofInt x1), .ref 31]) rfl ?_
      refine lf_callV 32 rfl rfl rfl rfl (hR52 _ _ _ h) (fun s25 h => ?_)
      refine lf_seg 1 (pc' := 33) (lv' := [(0, .ref 31), (1, .int (Int32.ofInt x1)), (2, .int (Int32.ofInt x2))]) (st' := [.ref 31]) rfl ?_
      cases et26 : s25.2.2 2 with
      | none =>
        have h := h.1 et26
        refine lf_getR 36 (w := none) rfl rfl rfl rfl rfl rfl (congrArg (Option.map (fun t => 35 + 7 * t)) et26) ?_
        refine lf_bipush 38 45 rfl rfl (by decide) (by decide) ?_
        refine lf_seg 1 (pc' := 39) (lv' := [(0, .ref 31), (1, .int (Int32.ofInt x1)), (2, .int (Int32.ofInt x2))]) (st' := [.int (Int32.ofInt 0), .int (Int32.ofInt 45), .null]) rfl ?_
        exact h.elim
      | some t26 =>
        obtain ⟨htt26, h⟩ := h.2 t26 et26
        refine lf_getR 36 (w := some (35 + 7 * t26)) rfl rfl rfl rfl rfl rfl (congrArg (Option.map (fun t => 35 + 7 * t)) et26) ?_
        refine lf_bipush 38 45 rfl rfl (by decide) (by decide) ?_
        refine lf_seg 1 (pc' := 39) (lv' := [(0, .ref 31), (1, .int (Int32.ofInt x1)), (2, .int (Int32.ofInt x2))]) (st' := [.int (Int32.ofInt 0), .int (Int32.ofInt 45), .ref (35 + 7 * t26)]) rfl ?_
        refine lf_callI 42 rfl rfl (lf_invT htt26 rfl rfl rfl rfl) rfl (gm_45 htt26 h) (fun r28 s27 h => ?_)
        refine lf_seg 1 (pc' := 43) (lv' := [(0, .ref 31), (1, .int (Int32.ofInt x1)), (2, .int (Int32.ofInt x2))]) (st' := []) rfl ?_
        refine lf_iinc 46 rfl rfl rfl rfl ?_
        refine lf_seg 1 (pc' := 7) (lv' := [(2, .int (Int32.ofInt (x2 + 1))), (0, .ref 31), (1, .int (Int32.ofInt x1))]) (st' := []) rfl ?_
        refine lf_sub (l := [(0, .ref 31), (1, .int (Int32.ofInt x1)), (2, .int (Int32.ofInt (x2 + 1)))]) (lf_sb1 rfl (lf_sb1 rfl (lf_sb1 rfl lf_sb0))) ?_
        exact hX7 _ _ h
theorem gm_51_p7L {L : Nat} {xs : Nat → Int32} {d : Nat} {R52 : Int → (lf_Z → Prop) → lf_Z → Prop} {Q : lf_Z → Prop} {x1 : Int} {x2 : Int} {s : lf_Z} (hR52 : ∀ b1 Q s, R52 b1 Q s → lf_M (px_ro L xs) (d + 4) 52 [.ref 31, .int (Int32.ofInt b1)] s (lf_qv Q)) (h : fm_51_p7L R52 Q x1 x2 s) : lf_E (px_ro L xs) (d + 5) 51 7 [(0, .ref 31), (1, .int (Int32.ofInt x1)), (2, .int (Int32.ofInt x2))] [] s (lf_qv Q) :=
  h (fun x2 s => lf_E (px_ro L xs) (d + 5) 51 7 [(0, .ref 31), (1, .int (Int32.ofInt x1)), (2, .int (Int32.ofInt x2))] [] s (lf_qv Q)) (fun x2 s hb => gm_51_p7 hR52 (fun _ _ h => h) hb)
def fm_51 (R52 : Int → (lf_Z → Prop) → lf_Z → Prop) (a1 : Int) (Q : lf_Z → Prop) (s : lf_Z) : Prop := R52 a1 (fun s21 => (fm_51_p7L R52 Q a1 0 s21)) s
set_option maxRecDepth 100000 in
theorem gm_51 {L : Nat} {xs : Nat → Int32} {d : Nat} {R52 : Int → (lf_Z → Prop) → lf_Z → Prop} {a1 : Int} {Q : lf_Z → Prop} {s : lf_Z} (hR52 : ∀ b1 Q s, R52 b1 Q s → lf_M (px_ro L xs) (d + 4) 52 [.ref 31, .int (Int32.ofInt b1)] s (lf_qv Q)) (h : fm_51 R52 a1 Q s) : lf_M (px_ro L xs) (d + 5) 51 [.ref 31, .int (Int32.ofInt a1)] s (lf_qv Q) := by
  unfold fm_51 at h
  show lf_E (px_ro L xs) (d + 5) 51 0 [(0, .ref 31), (1, .int (Int32.ofInt a1))] [] s _
  refine lf_seg 2 (pc' := 2) (lv' := [(0, .ref 31), (1, .int (Int32.ofInt a1))]) (st' := [.int (Int32.ofInt a1), .ref 31]) rfl ?_
  refine lf_callV 5 rfl rfl rfl rfl (hR52 _ _ _ h) (fun s21 h => ?_)
  refine lf_seg 2 (pc' := 7) (lv' := [(2, .int (Int32.ofInt 0)), (0, .ref 31), (1, .int (Int32.ofInt a1))]) (st' := []) rfl ?_
  refine lf_sub (l := [(0, .ref 31), (1, .int (Int32.ofInt a1)), (2, .int (Int32.ofInt 0))]) (lf_sb1 rfl (lf_sb1 rfl (lf_sb1 rfl lf_sb0))) ?_
  exact gm_51_p7L hR52 h
-- fm_52 Reader.readAsk 31 i
def fm_52 (R41 : Int → (lf_Z → Prop) → lf_Z → Prop) (R52 : Int → (lf_Z → Prop) → lf_Z → Prop) (a1 : Int) (Q : lf_Z → Prop) (s : lf_Z) : Prop := lf_R (s.1 31 8) ∧ ((s.1 31 8 ≠ 44 → (R41 a1 (fun s22 => (fm_15 (s22.1 31 8) 4 9 (fun z24 s23 => ((z24 = true → (fm_31 (fun s25 => (R41 a1 (fun s26 => ((s26.2.2 2 = none → (False)) ∧ (∀ t27 : Nat, s26.2.2 2 = some t27 → t27 < 4 ∧ (fm_45 t27 (s22.1 31 8) 0 (fun r29 s28 => (Q s28)) s26)))) s25)) s23)) ∧ (z24 = false → (fm_39 1 (fun s30 => (Q s30)) s23)))) s22)) s)) ∧ (¬ (s.1 31 8 ≠ 44) → (fm_47 a1 (fun z32 s31 => ((z32 = false → (Q s31)) ∧ (z32 = true → (R52 (a1 + 1) (fun s33 => ((s33.2.2 2 = none → (False)) ∧ (∀ t34 : Nat, s33.2.2 2 = some t34 → t34 < 4 ∧ (fm_45 t34 44 0 (fun r36 s35 => (Q s35)) s33)))) s31)))) s)))
set_option maxRecDepth 100000 in
theorem gm_52 {L : Nat} {xs : Nat → Int32} {d : Nat} {R41 : Int → (lf_Z → Prop) → lf_Z → Prop} {R52 : Int → (lf_Z → Prop) → lf_Z → Prop} {a1 : Int} {Q : lf_Z → Prop} {s : lf_Z} (hR41 : ∀ b1 Q s, R41 b1 Q s → lf_M (px_ro L xs) (d + 4) 41 [.ref 31, .int (Int32.ofInt b1)] s (lf_qv Q)) (hR52 : ∀ b1 Q s, R52 b1 Q s → lf_M (px_ro L xs) (d + 4) 52 [.ref 31, .int (Int32.ofInt b1)] s (lf_qv Q)) (h : fm_52 R41 R52 a1 Q s) : lf_M (px_ro L xs) (d + 5) 52 [.ref 31, .int (Int32.ofInt a1)] s (lf_qv Q) := by
  unfold fm_52 at h
  show lf_E (px_ro L xs) (d + 5) 52 0 [(0, .ref 31), (1, .int (Int32.ofInt a1))] [] s _
  refine lf_seg 1 (pc' := 1) (lv' := [(0, .ref 31), (1, .int (Int32.ofInt a1))]) (st' := [.ref 31]) rfl ?_
  refine lf_getI 4 8 rfl rfl rfl rfl rfl rfl rfl ?_
  refine lf_bipush 6 44 rfl rfl (by decide) (by decide) ?_
  obtain ⟨o21, h⟩ := h
  refine lf_icmp_ne 36 9 rfl rfl rfl o21 ⟨by decide, by decide⟩ (fun c => ?_) (fun c => ?_)
  · have h := h.1 c
    refine lf_seg 2 (pc' := 38) (lv' := [(0, .ref 31), (1, .int (Int32.ofInt a1))]) (st' := [.int (Int32.ofInt a1), .ref 31]) rfl ?_
    refine lf_callV 41 rfl rfl rfl rfl (hR41 _ _ _ h) (fun s22 h => ?_)
    refine lf_seg 1 (pc' := 42) (lv' := [(0, .ref 31), (1, .int (Int32.ofInt a1))]) (st' := [.ref 31]) rfl ?_
    refine lf_getI 45 8 rfl rfl rfl rfl rfl rfl rfl ?_
    refine lf_seg 3 (pc' := 48) (lv' := [(2, .int (Int32.ofInt (s22.1 31 8))), (0, .ref 31), (1, .int (Int32.ofInt a1))]) (st' := [.int (Int32.ofInt 4), .int (Int32.ofInt (s22.1 31 8))]) rfl ?_
    refine lf_bipush 50 9 rfl rfl (by decide) (by decide) ?_
    refine lf_callZ 53 rfl rfl rfl rfl (gm_15 h) (fun z24 s23 h => ?_)
    refine lf_ifz_ne 62 56 rfl rfl rfl (fun c => ?_) (fun c => ?_)
    · have h := h.1 c
      refine lf_seg 1 (pc' := 63) (lv' := [(2, .int (Int32.ofInt (s22.1 31 8))), (0, .ref 31), (1, .int (Int32.ofInt a1))]) (st' := [.ref 31]) rfl ?_
      refine lf_callV 66 rfl rfl rfl rfl (gm_31 h) (fun s25 h => ?_)
      refine lf_seg 2 (pc' := 68) (lv' := [(2, .int (Int32.ofInt (s22.1 31 8))), (0, .ref 31), (1, .int (Int32.ofInt a1))]) (st' := [.int (Int32.ofInt a1), .ref 31]) rfl ?_
      refine lf_callV 71 rfl rfl rfl rfl (hR41 _ _ _ h) (fun s26 h => ?_)
      refine lf_seg 1 (pc' := 72) (lv' := [(2, .int (Int32.ofInt (s22.1 31 8))), (0, .ref 31), (1, .int (Int32.ofInt a1))]) (st' := [.ref 31]) rfl ?_
      cases et27 : s26.2.2 2 with
      | none =>
        have h := h.1 et27
        refine lf_getR 75 (w := none) rfl rfl rfl rfl rfl rfl (congrArg (Option.map (fun t => 35 + 7 * t)) et27) ?_
        refine lf_seg 2 (pc' := 77) (lv' := [(2, .int (Int32.ofInt (s22.1 31 8))), (0, .ref 31), (1, .int (Int32.ofInt a1))]) (st' := [.int (Int32.ofInt 0), .int (Int32.ofInt (s22.1 31 8)), .null]) rfl ?_
        exact h.elim
      | some t27 =>
        obtain ⟨htt27, h⟩ := h.2 t27 et27
        refine lf_getR 75 (w := some (35 + 7 * t27)) rfl rfl rfl rfl rfl rfl (congrArg (Option.map (fun t => 35 + 7 * t)) et27) ?_
        refine lf_seg 2 (pc' := 77) (lv' := [(2, .int (Int32.ofInt (s22.1 31 8))), (0, .ref 31), (1, .int (Int32.ofInt a1))]) (st' := [.int (Int32.ofInt 0), .int (Int32.ofInt (s22.1 31 8)), .ref (35 + 7 * t27)]) rfl ?_
        refine lf_callI 80 rfl rfl (lf_invT htt27 rfl rfl rfl rfl) rfl (gm_45 htt27 h) (fun r29 s28 h => ?_)
        refine lf_seg 1 (pc' := 81) (lv' := [(2, .int (Int32.ofInt (s22.1 31 8))), (0, .ref 31), (1, .int (Int32.ofInt a1))]) (st' := []) rfl ?_
        exact lf_retV rfl rfl h
    · have h := h.2 c
      refine lf_seg 2 (pc' := 58) (lv' := [(2, .int (Int32.ofInt (s22.1 31 8))), (0, .ref 31), (1, .int (Int32.ofInt a1))]) (st' := [.int (Int32.ofInt 1), .ref 31]) rfl ?_
      refine lf_callV 61 rfl rfl rfl rfl (gm_39 h) (fun s30 h => ?_)
      exact lf_retV rfl rfl h
  · have h := h.2 c
    refine lf_seg 2 (pc' := 11) (lv' := [(0, .ref 31), (1, .int (Int32.ofInt a1))]) (st' := [.int (Int32.ofInt a1), .ref 31]) rfl ?_
    refine lf_callZ 14 rfl rfl rfl rfl (gm_47 h) (fun z32 s31 h => ?_)
    refine lf_ifz_eq 35 17 rfl rfl rfl (fun c => ?_) (fun c => ?_)
    · have h := h.1 c
      exact lf_retV rfl rfl h
    · have h := h.2 c
      refine lf_seg 3 (pc' := 20) (lv' := [(0, .ref 31), (1, .int (Int32.ofInt a1))]) (st' := [.int (Int32.ofInt 1), .int (Int32.ofInt a1), .ref 31]) rfl ?_
      refine lf_iadd 21 rfl rfl ?_
      refine lf_callV 24 rfl rfl rfl rfl (hR52 _ _ _ h) (fun s33 h => ?_)
      refine lf_seg 1 (pc' := 25) (lv' := [(0, .ref 31), (1, .int (Int32.ofInt a1))]) (st' := [.ref 31]) rfl ?_
      cases et34 : s33.2.2 2 with
      | none =>
        have h := h.1 et34
        refine lf_getR 28 (w := none) rfl rfl rfl rfl rfl rfl (congrArg (Option.map (fun t => 35 + 7 * t)) et34) ?_
        refine lf_bipush 30 44 rfl rfl (by decide) (by decide) ?_
        refine lf_seg 1 (pc' := 31) (lv' := [(0, .ref 31), (1, .int (Int32.ofInt a1))]) (st' := [.int (Int32.ofInt 0), .int (Int32.ofInt 44), .null]) rfl ?_
        exact h.elim
      | some t34 =>
        obtain ⟨htt34, h⟩ := h.2 t34 et34
        refine lf_getR 28 (w := some (35 + 7 * t34)) rfl rfl rfl rfl rfl rfl (congrArg (Option.map (fun t => 35 + 7 * t)) et34) ?_
        refine lf_bipush 30 44 rfl rfl (by decide) (by decide) ?_
        refine lf_seg 1 (pc' := 31) (lv' := [(0, .ref 31), (1, .int (Int32.ofInt a1))]) (st' := [.int (Int32.ofInt 0), .int (Int32.ofInt 44), .ref (35 + 7 * t34)]) rfl ?_
        refine lf_callI 34 rfl rfl (lf_invT htt34 rfl rfl rfl rfl) rfl (gm_45 htt34 h) (fun r36 s35 h => ?_)
        refine lf_seg 1 (pc' := 35) (lv' := [(0, .ref 31), (1, .int (Int32.ofInt a1))]) (st' := []) rfl ?_
        exact lf_retV rfl rfl h
-- cl_41 cluster
def fc_41T : Nat → (Int → (lf_Z → Prop) → lf_Z → Prop) × (Int → (lf_Z → Prop) → lf_Z → Prop) × (Int → (lf_Z → Prop) → lf_Z → Prop) × (Int → (lf_Z → Prop) → lf_Z → Prop) × (Int → (lf_Z → Prop) → lf_Z → Prop) × (Int → (lf_Z → Prop) → lf_Z → Prop) × (Int → (lf_Z → Prop) → lf_Z → Prop) × (Int → (lf_Z → Prop) → lf_Z → Prop)
  | 0 => (fun _ _ _ => False, fun _ _ _ => False, fun _ _ _ => False, fun _ _ _ => False, fun _ _ _ => False, fun _ _ _ => False, fun _ _ _ => False, fun _ _ _ => False)
  | n + 1 => (fm_41 ((fc_41T n).2.1), fm_42 ((fc_41T n).2.2.1), fm_43 ((fc_41T n).1) ((fc_41T n).2.2.1) ((fc_41T n).2.2.2.1) ((fc_41T n).2.2.2.2.1), fm_49 ((fc_41T n).1) ((fc_41T n).2.2.2.2.2.1), fm_54 ((fc_41T n).1), fm_50 ((fc_41T n).2.2.2.2.2.2.1), fm_51 ((fc_41T n).2.2.2.2.2.2.2), fm_52 ((fc_41T n).1) ((fc_41T n).2.2.2.2.2.2.2))
theorem gc_41T {L : Nat} {xs : Nat → Int32} {d : Nat} : ∀ n : Nat, (∀ b1 Q s, (fc_41T n).1 b1 Q s → lf_M (px_ro L xs) (d + n + 4) 41 [.ref 31, .int (Int32.ofInt b1)] s (lf_qv Q)) ∧ (∀ b1 Q s, (fc_41T n).2.1 b1 Q s → lf_M (px_ro L xs) (d + n + 4) 42 [.ref 31, .int (Int32.ofInt b1)] s (lf_qv Q)) ∧ (∀ b1 Q s, (fc_41T n).2.2.1 b1 Q s → lf_M (px_ro L xs) (d + n + 4) 43 [.ref 31, .int (Int32.ofInt b1)] s (lf_qv Q)) ∧ (∀ b1 Q s, (fc_41T n).2.2.2.1 b1 Q s → lf_M (px_ro L xs) (d + n + 4) 49 [.ref 31, .int (Int32.ofInt b1)] s (lf_qv Q)) ∧ (∀ b1 Q s, (fc_41T n).2.2.2.2.1 b1 Q s → lf_M (px_ro L xs) (d + n + 4) 54 [.ref 31, .int (Int32.ofInt b1)] s (lf_qv Q)) ∧ (∀ b1 Q s, (fc_41T n).2.2.2.2.2.1 b1 Q s → lf_M (px_ro L xs) (d + n + 4) 50 [.ref 31, .int (Int32.ofInt b1)] s (lf_qv Q)) ∧ (∀ b1 Q s, (fc_41T n).2.2.2.2.2.2.1 b1 Q s → lf_M (px_ro L xs) (d + n + 4) 51 [.ref 31, .int (Int32.ofInt b1)] s (lf_qv Q)) ∧ (∀ b1 Q s, (fc_41T n).2.2.2.2.2.2.2 b1 Q s → lf_M (px_ro L xs) (d + n + 4) 52 [.ref 31, .int (Int32.ofInt b1)] s (lf_qv Q))
  | 0 => ⟨fun _ _ _ h => h.elim, fun _ _ _ h => h.elim, fun _ _ _ h => h.elim, fun _ _ _ h => h.elim, fun _ _ _ h => h.elim, fun _ _ _ h => h.elim, fun _ _ _ h => h.elim, fun _ _ _ h => h.elim⟩
  | n + 1 => ⟨fun a1 Q s h => lf_E.deep (gm_41 (d := d + n) (fun _ _ _ h => lf_E.deep ((gc_41T (L := L) (xs := xs) (d := d) n).2.1 _ _ _ h) (by omega)) h) (by omega), fun a1 Q s h => lf_E.deep (gm_42 (d := d + n) (fun _ _ _ h => lf_E.deep ((gc_41T (L := L) (xs := xs) (d := d) n).2.2.1 _ _ _ h) (by omega)) h) (by omega), fun a1 Q s h => lf_E.deep (gm_43 (d := d + n) (fun _ _ _ h => lf_E.deep ((gc_41T (L := L) (xs := xs) (d := d) n).1 _ _ _ h) (by omega)) (fun _ _ _ h => lf_E.deep ((gc_41T (L := L) (xs := xs) (d := d) n).2.2.1 _ _ _ h) (by omega)) (fun _ _ _ h => lf_E.deep ((gc_41T (L := L) (xs := xs) (d := d) n).2.2.2.1 _ _ _ h) (by omega)) (fun _ _ _ h => lf_E.deep ((gc_41T (L := L) (xs := xs) (d := d) n).2.2.2.2.1 _ _ _ h) (by omega)) h) (by omega), fun a1 Q s h => lf_E.deep (gm_49 (d := d + n) (fun _ _ _ h => lf_E.deep ((gc_41T (L := L) (xs := xs) (d := d) n).1 _ _ _ h) (by omega)) (fun _ _ _ h => lf_E.deep ((gc_41T (L := L) (xs := xs) (d := d) n).2.2.2.2.2.1 _ _ _ h) (by omega)) h) (by omega), fun a1 Q s h => lf_E.deep (gm_54 (d := d + n) (fun _ _ _ h => lf_E.deep ((gc_41T (L := L) (xs := xs) (d := d) n).1 _ _ _ h) (by omega)) h) (by omega), fun a1 Q s h => lf_E.deep (gm_50 (d := d + n) (fun _ _ _ h => lf_E.deep ((gc_41T (L := L) (xs := xs) (d := d) n).2.2.2.2.2.2.1 _ _ _ h) (by omega)) h) (by omega), fun a1 Q s h => lf_E.deep (gm_51 (d := d + n) (fun _ _ _ h => lf_E.deep ((gc_41T (L := L) (xs := xs) (d := d) n).2.2.2.2.2.2.2 _ _ _ h) (by omega)) h) (by omega), fun a1 Q s h => lf_E.deep (gm_52 (d := d + n) (fun _ _ _ h => lf_E.deep ((gc_41T (L := L) (xs := xs) (d := d) n).1 _ _ _ h) (by omega)) (fun _ _ _ h => lf_E.deep ((gc_41T (L := L) (xs := xs) (d := d) n).2.2.2.2.2.2.2 _ _ _ h) (by omega)) h) (by omega)⟩
def fc_41 (a1 : Int) (Q : lf_Z → Prop) (s : lf_Z) : Prop := (fc_41T 200).1 a1 Q s
theorem gc_41 {L : Nat} {xs : Nat → Int32} {d : Nat} {a1 : Int} {Q : lf_Z → Prop} {s : lf_Z} (h : fc_41 a1 Q s) : lf_M (px_ro L xs) (d + 205) 41 [.ref 31, .int (Int32.ofInt a1)] s (lf_qv Q) := lf_E.deep ((gc_41T (L := L) (xs := xs) (d := d) 200).1 _ _ _ h) (by omega)
def fc_42 (a1 : Int) (Q : lf_Z → Prop) (s : lf_Z) : Prop := (fc_41T 200).2.1 a1 Q s
theorem gc_42 {L : Nat} {xs : Nat → Int32} {d : Nat} {a1 : Int} {Q : lf_Z → Prop} {s : lf_Z} (h : fc_42 a1 Q s) : lf_M (px_ro L xs) (d + 205) 42 [.ref 31, .int (Int32.ofInt a1)] s (lf_qv Q) := lf_E.deep ((gc_41T (L := L) (xs := xs) (d := d) 200).2.1 _ _ _ h) (by omega)
def fc_43 (a1 : Int) (Q : lf_Z → Prop) (s : lf_Z) : Prop := (fc_41T 200).2.2.1 a1 Q s
theorem gc_43 {L : Nat} {xs : Nat → Int32} {d : Nat} {a1 : Int} {Q : lf_Z → Prop} {s : lf_Z} (h : fc_43 a1 Q s) : lf_M (px_ro L xs) (d + 205) 43 [.ref 31, .int (Int32.ofInt a1)] s (lf_qv Q) := lf_E.deep ((gc_41T (L := L) (xs := xs) (d := d) 200).2.2.1 _ _ _ h) (by omega)
def fc_49 (a1 : Int) (Q : lf_Z → Prop) (s : lf_Z) : Prop := (fc_41T 200).2.2.2.1 a1 Q s
theorem gc_49 {L : Nat} {xs : Nat → Int32} {d : Nat} {a1 : Int} {Q : lf_Z → Prop} {s : lf_Z} (h : fc_49 a1 Q s) : lf_M (px_ro L xs) (d + 205) 49 [.ref 31, .int (Int32.ofInt a1)] s (lf_qv Q) := lf_E.deep ((gc_41T (L := L) (xs := xs) (d := d) 200).2.2.2.1 _ _ _ h) (by omega)
def fc_54 (a1 : Int) (Q : lf_Z → Prop) (s : lf_Z) : Prop := (fc_41T 200).2.2.2.2.1 a1 Q s
theorem gc_54 {L : Nat} {xs : Nat → Int32} {d : Nat} {a1 : Int} {Q : lf_Z → Prop} {s : lf_Z} (h : fc_54 a1 Q s) : lf_M (px_ro L xs) (d + 205) 54 [.ref 31, .int (Int32.ofInt a1)] s (lf_qv Q) := lf_E.deep ((gc_41T (L := L) (xs := xs) (d := d) 200).2.2.2.2.1 _ _ _ h) (by omega)
def fc_50 (a1 : Int) (Q : lf_Z → Prop) (s : lf_Z) : Prop := (fc_41T 200).2.2.2.2.2.1 a1 Q s
theorem gc_50 {L : Nat} {xs : Nat → Int32} {d : Nat} {a1 : Int} {Q : lf_Z → Prop} {s : lf_Z} (h : fc_50 a1 Q s) : lf_M (px_ro L xs) (d + 205) 50 [.ref 31, .int (Int32.ofInt a1)] s (lf_qv Q) := lf_E.deep ((gc_41T (L := L) (xs := xs) (d := d) 200).2.2.2.2.2.1 _ _ _ h) (by omega)
def fc_51 (a1 : Int) (Q : lf_Z → Prop) (s : lf_Z) : Prop := (fc_41T 200).2.2.2.2.2.2.1 a1 Q s
theorem gc_51 {L : Nat} {xs : Nat → Int32} {d : Nat} {a1 : Int} {Q : lf_Z → Prop} {s : lf_Z} (h : fc_51 a1 Q s) : lf_M (px_ro L xs) (d + 205) 51 [.ref 31, .int (Int32.ofInt a1)] s (lf_qv Q) := lf_E.deep ((gc_41T (L := L) (xs := xs) (d := d) 200).2.2.2.2.2.2.1 _ _ _ h) (by omega)
def fc_52 (a1 : Int) (Q : lf_Z → Prop) (s : lf_Z) : Prop := (fc_41T 200).2.2.2.2.2.2.2 a1 Q s
theorem gc_52 {L : Nat} {xs : Nat → Int32} {d : Nat} {a1 : Int} {Q : lf_Z → Prop} {s : lf_Z} (h : fc_52 a1 Q s) : lf_M (px_ro L xs) (d + 205) 52 [.ref 31, .int (Int32.ofInt a1)] s (lf_qv Q) := lf_E.deep ((gc_41T (L := L) (xs := xs) (d := d) 200).2.2.2.2.2.2.2 _ _ _ h) (by omega)
-- fm_38 Reader.readClause 31
def fm_38_p146 (Q : lf_Z → Prop) (s : lf_Z) : Prop := fm_48 16 (fun s31 => (Q s31)) s
set_option maxRecDepth 100000 in
theorem gm_38_p146 {L : Nat} {xs : Nat → Int32} {d : Nat} {Q : lf_Z → Prop} {s : lf_Z} (h : fm_38_p146 Q s) : lf_E (px_ro L xs) (d + 206) 38 146 [(0, .ref 31)] [] s (lf_qv Q) := by
  unfold fm_38_p146 at h
  refine lf_seg 1 (pc' := 147) (lv' := [(0, .ref 31)]) (st' := [.ref 31]) rfl ?_
  refine lf_bipush 149 16 rfl rfl (by decide) (by decide) ?_
  refine lf_callV 152 rfl rfl rfl rfl (gm_48 h) (fun s31 h => ?_)
  exact lf_retV rfl rfl h
def fm_38 (Q : lf_Z → Prop) (s : lf_Z) : Prop := fm_15 (s.1 31 8) 20 32 (fun z22 s21 => ((z22 = true → ((s21.2.2 2 = none → (False)) ∧ (∀ t23 : Nat, s21.2.2 2 = some t23 → t23 < 4 ∧ (fm_40 t23 ((s.1 31 8) - 20) (fun z25 s24 => ((z25 = false → ((s24.2.2 2 = none → (False)) ∧ (∀ t26 : Nat, s24.2.2 2 = some t26 → t26 < 4 ∧ (lf_R (s24.1 (35 + 7 * t26) 7) ∧ ((s24.1 (35 + 7 * t26) 7 < 24 → (fm_31 (fun s28 => (lf_R (s.1 31 8) ∧ ((22 < s.1 31 8 → (fm_58 (s.1 31 8) (fun s30 => (fm_38_p146 Q s30)) s28)) ∧ (¬ (22 < s.1 31 8) → ((s28.2.2 2 = none → (False)) ∧ (∀ t32 : Nat, s28.2.2 2 = some t32 → t32 < 4 ∧ ((s28.2.2 2 = none → (False)) ∧ (∀ t33 : Nat, s28.2.2 2 = some t33 → t33 < 4 ∧ ((0 ≤ (s.1 31 8) - 20 ∧ (s.1 31 8) - 20 < 3) ∧ (fc_41 0 (fun s35 => ((s35.2.2 2 = none → (False)) ∧ (∀ t36 : Nat, s35.2.2 2 = some t36 → t36 < 4 ∧ ((s35.2.2 2 = none → (False)) ∧ (∀ t37 : Nat, s35.2.2 2 = some t37 → t37 < 4 ∧ ((0 ≤ s35.1 31 6 ∧ s35.1 31 6 < 3) ∧ ((s35.2.2 2 = none → (False)) ∧ (∀ t39 : Nat, s35.2.2 2 = some t39 → t39 < 4 ∧ (fm_57 t39 (s.1 31 8) 0 0 (fun s40 => (fm_38_p146 Q s40)) (lf_up s35.1 (38 + 7 * t36) (s35.1 31 6) (s35.1 (35 + 7 * t37) 1), s35.2.1, s35.2.2)))))))))) (lf_up (lf_up s28.1 31 6 ((s.1 31 8) - 20)) (37 + 7 * t32) ((s.1 31 8) - 20) ((lf_up s28.1 31 6 ((s.1 31 8) - 20)) (35 + 7 * t33) 1), s28.2.1, s28.2.2))))))))))) s24)) ∧ (¬ (s24.1 (35 + 7 * t26) 7 < 24) → (fm_39 6 (fun s41 => (Q s41)) s24))))))) ∧ (z25 = true → (fm_39 4 (fun s42 => (Q s42)) s24)))) s21)))) ∧ (z22 = false → (fm_39 1 (fun s43 => (Q s43)) s21)))) s
set_option maxRecDepth 100000 in
theorem gm_38 {L : Nat} {xs : Nat → Int32} {d : Nat} {Q : lf_Z → Prop} {s : lf_Z} (h : fm_38 Q s) : lf_M (px_ro L xs) (d + 206) 38 [.ref 31] s (lf_qv Q) := by
  unfold fm_38 at h
  show lf_E (px_ro L xs) (d + 206) 38 0 [(0, .ref 31)] [] s _
  refine lf_seg 1 (pc' := 1) (lv' := [(0, .ref 31)]) (st' := [.ref 31]) rfl ?_
  refine lf_getI 4 8 rfl rfl rfl rfl rfl rfl rfl ?_
  refine lf_seg 2 (pc' := 6) (lv' := [(1, .int (Int32.ofInt (s.1 31 8))), (0, .ref 31)]) (st' := [.int (Int32.ofInt (s.1 31 8))]) rfl ?_
  refine lf_bipush 8 20 rfl rfl (by decide) (by decide) ?_
  refine lf_bipush 10 32 rfl rfl (by decide) (by decide) ?_
  refine lf_callZ 13 rfl rfl rfl rfl (gm_15 h) (fun z22 s21 h => ?_)
  refine lf_ifz_ne 24 16 rfl rfl rfl (fun c => ?_) (fun c => ?_)
  · have h := h.1 c
    refine lf_seg 1 (pc' := 25) (lv' := [(1, .int (Int32.ofInt (s.1 31 8))), (0, .ref 31)]) (st' := [.ref 31]) rfl ?_
    cases et23 : s21.2.2 2 with
    | none =>
      have h := h.1 et23
      refine lf_getR 28 (w := none) rfl rfl rfl rfl rfl rfl (congrArg (Option.map (fun t => 35 + 7 * t)) et23) ?_
      refine lf_seg 1 (pc' := 29) (lv' := [(1, .int (Int32.ofInt (s.1 31 8))), (0, .ref 31)]) (st' := [.int (Int32.ofInt (s.1 31 8)), .null]) rfl ?_
      refine lf_bipush 31 20 rfl rfl (by decide) (by decide) ?_
      refine lf_isub 32 rfl rfl ?_
      exact h.elim
    | some t23 =>
      obtain ⟨htt23, h⟩ := h.2 t23 et23
      refine lf_getR 28 (w := some (35 + 7 * t23)) rfl rfl rfl rfl rfl rfl (congrArg (Option.map (fun t => 35 + 7 * t)) et23) ?_
      refine lf_seg 1 (pc' := 29) (lv' := [(1, .int (Int32.ofInt (s.1 31 8))), (0, .ref 31)]) (st' := [.int (Int32.ofInt (s.1 31 8)), .ref (35 + 7 * t23)]) rfl ?_
      refine lf_bipush 31 20 rfl rfl (by decide) (by decide) ?_
      refine lf_isub 32 rfl rfl ?_
      refine lf_callZ 35 rfl rfl (lf_invT htt23 rfl rfl rfl rfl) rfl (gm_40 htt23 h) (fun z25 s24 h => ?_)
      refine lf_ifz_eq 46 38 rfl rfl rfl (fun c => ?_) (fun c => ?_)
      · have h := h.1 c
        refine lf_seg 1 (pc' := 47) (lv' := [(1, .int (Int32.ofInt (s.1 31 8))), (0, .ref 31)]) (st' := [.ref 31]) rfl ?_
        cases et26 : s24.2.2 2 with
        | none =>
          have h := h.1 et26
          refine lf_getR 50 (w := none) rfl rfl rfl rfl rfl rfl (congrArg (Option.map (fun t => 35 + 7 * t)) et26) ?_
          exact h.elim
        | some t26 =>
          obtain ⟨htt26, h⟩ := h.2 t26 et26
          refine lf_getR 50 (w := some (35 + 7 * t26)) rfl rfl rfl rfl rfl rfl (congrArg (Option.map (fun t => 35 + 7 * t)) et26) ?_
          refine lf_getI 53 7 rfl rfl rfl (lf_scr htt26) (lf_scL htt26) rfl rfl ?_
          refine lf_bipush 55 24 rfl rfl (by decide) (by decide) ?_
          obtain ⟨o27, h⟩ := h
          refine lf_icmp_lt 67 58 rfl rfl rfl o27 ⟨by decide, by decide⟩ (fun c => ?_) (fun c => ?_)
          · have h := h.1 c
            refine lf_seg 1 (pc' := 68) (lv' := [(1, .int (Int32.ofInt (s.1 31 8))), (0, .ref 31)]) (st' := [.ref 31]) rfl ?_
            refine lf_callV 71 rfl rfl rfl rfl (gm_31 h) (fun s28 h => ?_)
            refine lf_seg 1 (pc' := 72) (lv' := [(1, .int (Int32.ofInt (s.1 31 8))), (0, .ref 31)]) (st' := [.int (Int32.ofInt (s.1 31 8))]) rfl ?_
            refine lf_bipush 74 22 rfl rfl (by decide) (by decide) ?_
            obtain ⟨o29, h⟩ := h
            refine lf_icmp_gt 141 77 rfl rfl rfl o29 ⟨by decide, by decide⟩ (fun c => ?_) (fun c => ?_)
            · have h := h.1 c
              refine lf_seg 2 (pc' := 143) (lv' := [(1, .int (Int32.ofInt (s.1 31 8))), (0, .ref 31)]) (st' := [.int (Int32.ofInt (s.1 31 8)), .ref 31]) rfl ?_
              refine lf_callV 146 rfl rfl rfl rfl (gm_58 h) (fun s30 h => ?_)
              refine lf_sub (l := [(0, .ref 31)]) (lf_sb1 rfl lf_sb0) ?_
              exact gm_38_p146 h
            · have h := h.2 c
              refine lf_seg 2 (pc' := 79) (lv' := [(1, .int (Int32.ofInt (s.1 31 8))), (0, .ref 31)]) (st' := [.int (Int32.ofInt (s.1 31 8)), .ref 31]) rfl ?_
              refine lf_bipush 81 20 rfl rfl (by decide) (by decide) ?_
              refine lf_isub 82 rfl rfl ?_
              refine lf_putI 85 6 rfl rfl rfl rfl rfl rfl rfl rfl ?_
              refine lf_as (lf_up s28.1 31 6 ((s.1 31 8) - 20), s28.2.1, s28.2.2) rfl ?_
              refine lf_seg 1 (pc' := 86) (lv' := [(1, .int (Int32.ofInt (s.1 31 8))), (0, .ref 31)]) (st' := [.ref 31]) rfl ?_
              cases et32 : s28.2.2 2 with
              | none =>
                have h := h.1 et32
                refine lf_getR 89 (w := none) rfl rfl rfl rfl rfl rfl (congrArg (Option.map (fun t => 35 + 7 * t)) et32) ?_
                exact h.elim
              | some t32 =>
                obtain ⟨htt32, h⟩ := h.2 t32 et32
                refine lf_getR 89 (w := some (35 + 7 * t32)) rfl rfl rfl rfl rfl rfl (congrArg (Option.map (fun t => 35 + 7 * t)) et32) ?_
                refine lf_getR 92 (w := some (37 + 7 * t32)) rfl rfl rfl (lf_scr htt32) (lf_scL htt32) rfl (lf_sP2 htt32) ?_
                refine lf_seg 1 (pc' := 93) (lv' := [(1, .int (Int32.ofInt (s.1 31 8))), (0, .ref 31)]) (st' := [.ref 31, .ref (37 + 7 * t32)]) rfl ?_
                refine lf_getI 96 6 rfl rfl rfl rfl rfl rfl rfl ?_
                refine lf_seg 1 (pc' := 97) (lv' := [(1, .int (Int32.ofInt (s.1 31 8))), (0, .ref 31)]) (st' := [.ref 31, .int (Int32.ofInt ((s.1 31 8) - 20)), .ref (37 + 7 * t32)]) rfl ?_
                cases et33 : s28.2.2 2 with
                | none =>
                  have h := h.1 et33
                  refine lf_getR 100 (w := none) rfl rfl rfl rfl rfl rfl (congrArg (Option.map (fun t => 35 + 7 * t)) et33) ?_
                  exact h.elim
                | some t33 =>
                  obtain ⟨htt33, h⟩ := h.2 t33 et33
                  refine lf_getR 100 (w := some (35 + 7 * t33)) rfl rfl rfl rfl rfl rfl (congrArg (Option.map (fun t => 35 + 7 * t)) et33) ?_
                  refine lf_getI 103 1 rfl rfl rfl (lf_scr htt33) (lf_scL htt33) rfl rfl ?_
                  obtain ⟨o34, h⟩ := h
                  refine lf_iast 104 3 rfl rfl (lf_sA2 htt32) (lf_sC2 htt32) rfl rfl o34 ?_
                  refine lf_as (lf_up (lf_up s28.1 31 6 ((s.1 31 8) - 20)) (37 + 7 * t32) ((s.1 31 8) - 20) ((lf_up s28.1 31 6 ((s.1 31 8) - 20)) (35 + 7 * t33) 1), s28.2.1, s28.2.2) rfl ?_
                  refine lf_seg 2 (pc' := 106) (lv' := [(1, .int (Int32.ofInt (s.1 31 8))), (0, .ref 31)]) (st' := [.int (Int32.ofInt 0), .ref 31]) rfl ?_
                  refine lf_callV 109 rfl rfl rfl rfl (gc_41 h) (fun s35 h => ?_)
                  refine lf_seg 1 (pc' := 110) (lv' := [(1, .int (Int32.ofInt (s.1 31 8))), (0, .ref 31)]) (st' := [.ref 31]) rfl ?_
                  cases et36 : s35.2.2 2 with
                  | none =>
                    have h := h.1 et36
                    refine lf_getR 113 (w := none) rfl rfl rfl rfl rfl rfl (congrArg (Option.map (fun t => 35 + 7 * t)) et36) ?_
                    exact h.elim
                  | some t36 =>
                    obtain ⟨htt36, h⟩ := h.2 t36 et36
                    refine lf_getR 113 (w := some (35 + 7 * t36)) rfl rfl rfl rfl rfl rfl (congrArg (Option.map (fun t => 35 + 7 * t)) et36) ?_
                    refine lf_getR 116 (w := some (38 + 7 * t36)) rfl rfl rfl (lf_scr htt36) (lf_scL htt36) rfl (lf_sP3 htt36) ?_
                    refine lf_seg 1 (pc' := 117) (lv' := [(1, .int (Int32.ofInt (s.1 31 8))), (0, .ref 31)]) (st' := [.ref 31, .ref (38 + 7 * t36)]) rfl ?_
                    refine lf_getI 120 6 rfl rfl rfl rfl rfl rfl rfl ?_
                    refine lf_seg 1 (pc' := 121) (lv' := [(1, .int (Int32.ofInt (s.1 31 8))), (0, .ref 31)]) (st' := [.ref 31, .int (Int32.ofInt (s35.1 31 6)), .ref (38 + 7 * t36)]) rfl ?_
                    cases et37 : s35.2.2 2 with
                    | none =>
                      have h := h.1 et37
                      refine lf_getR 124 (w := none) rfl rfl rfl rfl rfl rfl (congrArg (Option.map (fun t => 35 + 7 * t)) et37) ?_
                      exact h.elim
                    | some t37 =>
                      obtain ⟨htt37, h⟩ := h.2 t37 et37
                      refine lf_getR 124 (w := some (35 + 7 * t37)) rfl rfl rfl rfl rfl rfl (congrArg (Option.map (fun t => 35 + 7 * t)) et37) ?_
                      refine lf_getI 127 1 rfl rfl rfl (lf_scr htt37) (lf_scL htt37) rfl rfl ?_
                      obtain ⟨o38, h⟩ := h
                      refine lf_iast 128 3 rfl rfl (lf_sA3 htt36) (lf_sC3 htt36) rfl rfl o38 ?_
                      refine lf_as (lf_up s35.1 (38 + 7 * t36) (s35.1 31 6) (s35.1 (35 + 7 * t37) 1), s35.2.1, s35.2.2) rfl ?_
                      refine lf_seg 1 (pc' := 129) (lv' := [(1, .int (Int32.ofInt (s.1 31 8))), (0, .ref 31)]) (st' := [.ref 31]) rfl ?_
                      cases et39 : s35.2.2 2 with
                      | none =>
                        have h := h.1 et39
                        refine lf_getR 132 (w := none) rfl rfl rfl rfl rfl rfl (congrArg (Option.map (fun t => 35 + 7 * t)) et39) ?_
                        refine lf_seg 3 (pc' := 135) (lv' := [(1, .int (Int32.ofInt (s.1 31 8))), (0, .ref 31)]) (st' := [.int (Int32.ofInt 0), .int (Int32.ofInt 0), .int (Int32.ofInt (s.1 31 8)), .null]) rfl ?_
                        exact h.elim
                      | some t39 =>
                        obtain ⟨htt39, h⟩ := h.2 t39 et39
                        refine lf_getR 132 (w := some (35 + 7 * t39)) rfl rfl rfl rfl rfl rfl (congrArg (Option.map (fun t => 35 + 7 * t)) et39) ?_
                        refine lf_seg 3 (pc' := 135) (lv' := [(1, .int (Int32.ofInt (s.1 31 8))), (0, .ref 31)]) (st' := [.int (Int32.ofInt 0), .int (Int32.ofInt 0), .int (Int32.ofInt (s.1 31 8)), .ref (35 + 7 * t39)]) rfl ?_
                        refine lf_callV 138 rfl rfl (lf_invT htt39 rfl rfl rfl rfl) rfl (gm_57 htt39 h) (fun s40 h => ?_)
                        refine lf_seg 1 (pc' := 146) (lv' := [(1, .int (Int32.ofInt (s.1 31 8))), (0, .ref 31)]) (st' := []) rfl ?_
                        refine lf_sub (l := [(0, .ref 31)]) (lf_sb1 rfl lf_sb0) ?_
                        exact gm_38_p146 h
          · have h := h.2 c
            refine lf_seg 1 (pc' := 59) (lv' := [(1, .int (Int32.ofInt (s.1 31 8))), (0, .ref 31)]) (st' := [.ref 31]) rfl ?_
            refine lf_bipush 61 6 rfl rfl (by decide) (by decide) ?_
            refine lf_callV 64 rfl rfl rfl rfl (gm_39 h) (fun s41 h => ?_)
            refine lf_seg 1 (pc' := 152) (lv' := [(1, .int (Int32.ofInt (s.1 31 8))), (0, .ref 31)]) (st' := []) rfl ?_
            exact lf_retV rfl rfl h
      · have h := h.2 c
        refine lf_seg 2 (pc' := 40) (lv' := [(1, .int (Int32.ofInt (s.1 31 8))), (0, .ref 31)]) (st' := [.int (Int32.ofInt 4), .ref 31]) rfl ?_
        refine lf_callV 43 rfl rfl rfl rfl (gm_39 h) (fun s42 h => ?_)
        refine lf_seg 1 (pc' := 152) (lv' := [(1, .int (Int32.ofInt (s.1 31 8))), (0, .ref 31)]) (st' := []) rfl ?_
        exact lf_retV rfl rfl h
  · have h := h.2 c
    refine lf_seg 2 (pc' := 18) (lv' := [(1, .int (Int32.ofInt (s.1 31 8))), (0, .ref 31)]) (st' := [.int (Int32.ofInt 1), .ref 31]) rfl ?_
    refine lf_callV 21 rfl rfl rfl rfl (gm_39 h) (fun s43 h => ?_)
    refine lf_seg 1 (pc' := 152) (lv' := [(1, .int (Int32.ofInt (s.1 31 8))), (0, .ref 31)]) (st' := []) rfl ?_
    exact lf_retV rfl rfl h
-- fm_29 Reader.readAll 31 t
def fm_29_p72 (Q : Bool → lf_Z → Prop) (s : lf_Z) : Prop := lf_R (s.1 31 2) ∧ ((s.1 31 2 ≠ 0 → (Q false (lf_up s.1 31 1 0, s.2.1, s.2.2))) ∧ (¬ (s.1 31 2 ≠ 0) → (Q true (lf_up s.1 31 1 0, s.2.1, s.2.2))))
set_option maxRecDepth 100000 in
theorem gm_29_p72 {L : Nat} {xs : Nat → Int32} {d : Nat} {Q : Bool → lf_Z → Prop} {s : lf_Z} (h : fm_29_p72 Q s) : lf_E (px_ro L xs) (d + 207) 29 72 [(0, .ref 31)] [] s (lf_qz Q) := by
  unfold fm_29_p72 at h
  refine lf_seg 2 (pc' := 74) (lv' := [(0, .ref 31)]) (st' := [.int (Int32.ofInt 0), .ref 31]) rfl ?_
  refine lf_putI 77 1 rfl rfl rfl rfl rfl rfl rfl rfl ?_
  refine lf_as (lf_up s.1 31 1 0, s.2.1, s.2.2) rfl ?_
  refine lf_seg 1 (pc' := 78) (lv' := [(0, .ref 31)]) (st' := [.ref 31]) rfl ?_
  refine lf_getI 81 2 rfl rfl rfl rfl rfl rfl rfl ?_
  refine lf_seg 0 (pc' := 81) (lv' := [(0, .ref 31)]) (st' := [.int (Int32.ofInt (s.1 31 2))]) rfl ?_
  obtain ⟨o25, h⟩ := h
  refine lf_if_ne 88 84 rfl rfl rfl o25 (fun c => ?_) (fun c => ?_)
  · have h := h.1 c
    refine lf_seg 1 (pc' := 89) (lv' := [(0, .ref 31)]) (st' := [.int (Int32.ofInt 0)]) rfl ?_
    exact lf_retZ false rfl rfl h
  · have h := h.2 c
    refine lf_seg 2 (pc' := 89) (lv' := [(0, .ref 31)]) (st' := [.int (Int32.ofInt 1)]) rfl ?_
    exact lf_retZ true rfl rfl h
def fm_29_p41 (Q : Bool → lf_Z → Prop) (X41 : Int → lf_Z → Prop) (x2 : Int) (s : lf_Z) : Prop := lf_R x2 ∧ ((300 < x2 → (fm_29_p72 Q s)) ∧ (¬ (300 < x2) → (lf_R (s.1 31 8) ∧ ((s.1 31 8 = 0 → (fm_29_p72 Q s)) ∧ (¬ (s.1 31 8 = 0) → (lf_R (s.1 31 2) ∧ ((s.1 31 2 ≠ 0 → (fm_29_p72 Q s)) ∧ (¬ (s.1 31 2 ≠ 0) → (fm_38 (fun s28 => (X41 (x2 + 1) s28)) s)))))))))
def fm_29_p41L (Q : Bool → lf_Z → Prop) (x2 : Int) (s : lf_Z) : Prop := ∀ X41 : Int → lf_Z → Prop, (∀ (x2 : Int) (s : lf_Z), fm_29_p41 Q X41 x2 s → X41 x2 s) → X41 x2 s
set_option maxRecDepth 100000 in
theorem gm_29_p41 {L : Nat} {xs : Nat → Int32} {d : Nat} {Q : Bool → lf_Z → Prop} {x2 : Int} {s : lf_Z} {X41 : Int → lf_Z → Prop} (hX41 : ∀ x2 s, X41 x2 s → lf_E (px_ro L xs) (d + 207) 29 41 [(0, .ref 31), (2, .int (Int32.ofInt x2))] [] s (lf_qz Q)) (h : fm_29_p41 Q X41 x2 s) : lf_E (px_ro L xs) (d + 207) 29 41 [(0, .ref 31), (2, .int (Int32.ofInt x2))] [] s (lf_qz Q) := by
  unfold fm_29_p41 at h
  refine lf_seg 1 (pc' := 42) (lv' := [(0, .ref 31), (2, .int (Int32.ofInt x2))]) (st' := [.int (Int32.ofInt x2)]) rfl ?_
  refine lf_sipush 45 300 rfl rfl (by decide) (by decide) ?_
  obtain ⟨o24, h⟩ := h
  refine lf_icmp_gt 72 48 rfl rfl rfl o24 ⟨by decide, by decide⟩ (fun c => ?_) (fun c => ?_)
  · have h := h.1 c
    refine lf_sub (l := [(0, .ref 31)]) (lf_sb1 rfl lf_sb0) ?_
    exact gm_29_p72 h
  · have h := h.2 c
    refine lf_seg 1 (pc' := 49) (lv' := [(0, .ref 31), (2, .int (Int32.ofInt x2))]) (st' := [.ref 31]) rfl ?_
    refine lf_getI 52 8 rfl rfl rfl rfl rfl rfl rfl ?_
    obtain ⟨o26, h⟩ := h
    refine lf_if_eq 72 55 rfl rfl rfl o26 (fun c => ?_) (fun c => ?_)
    · have h := h.1 c
      refine lf_sub (l := [(0, .ref 31)]) (lf_sb1 rfl lf_sb0) ?_
      exact gm_29_p72 h
    · have h := h.2 c
      refine lf_seg 1 (pc' := 56) (lv' := [(0, .ref 31), (2, .int (Int32.ofInt x2))]) (st' := [.ref 31]) rfl ?_
      refine lf_getI 59 2 rfl rfl rfl rfl rfl rfl rfl ?_
      obtain ⟨o27, h⟩ := h
      refine lf_if_ne 72 62 rfl rfl rfl o27 (fun c => ?_) (fun c => ?_)
      · have h := h.1 c
        refine lf_sub (l := [(0, .ref 31)]) (lf_sb1 rfl lf_sb0) ?_
        exact gm_29_p72 h
      · have h := h.2 c
        refine lf_seg 1 (pc' := 63) (lv' := [(0, .ref 31), (2, .int (Int32.ofInt x2))]) (st' := [.ref 31]) rfl ?_
        refine lf_callV 66 rfl rfl rfl rfl (gm_38 h) (fun s28 h => ?_)
        refine lf_iinc 69 rfl rfl rfl rfl ?_
        refine lf_seg 1 (pc' := 41) (lv' := [(2, .int (Int32.ofInt (x2 + 1))), (0, .ref 31)]) (st' := []) rfl ?_
        refine lf_sub (l := [(0, .ref 31), (2, .int (Int32.ofInt (x2 + 1)))]) (lf_sb1 rfl (lf_sb1 rfl lf_sb0)) ?_
        exact hX41 _ _ h
theorem gm_29_p41L {L : Nat} {xs : Nat → Int32} {d : Nat} {Q : Bool → lf_Z → Prop} {x2 : Int} {s : lf_Z} (h : fm_29_p41L Q x2 s) : lf_E (px_ro L xs) (d + 207) 29 41 [(0, .ref 31), (2, .int (Int32.ofInt x2))] [] s (lf_qz Q) :=
  h (fun x2 s => lf_E (px_ro L xs) (d + 207) 29 41 [(0, .ref 31), (2, .int (Int32.ofInt x2))] [] s (lf_qz Q)) (fun x2 s hb => gm_29_p41 (fun _ _ h => h) hb)
def fm_29 (t1 : Nat) (Q : Bool → lf_Z → Prop) (s : lf_Z) : Prop := ((lf_ur s.2.2 2 (some t1)) 2 = none → (False)) ∧ (∀ t21 : Nat, (lf_ur s.2.2 2 (some t1)) 2 = some t21 → t21 < 4 ∧ (fm_30 t21 (fun s22 => (fm_31 (fun s23 => (fm_29_p41L Q 0 s23)) (lf_up (lf_fl (lf_up (lf_up s22.1 31 2 0) 31 3 (-1)) 33 26 (-1)) 31 7 0, s22.2.1, s22.2.2))) (s.1, s.2.1, lf_ur s.2.2 2 (some t1))))
set_option maxRecDepth 100000 in
theorem gm_29 {L : Nat} {xs : Nat → Int32} {d : Nat} {t1 : Nat} {Q : Bool → lf_Z → Prop} {s : lf_Z} (htt1 : t1 < 4) (h : fm_29 t1 Q s) : lf_M (px_ro L xs) (d + 207) 29 [.ref 31, .ref (35 + 7 * t1)] s (lf_qz Q) := by
  unfold fm_29 at h
  show lf_E (px_ro L xs) (d + 207) 29 0 [(0, .ref 31), (1, .ref (35 + 7 * t1))] [] s _
  refine lf_seg 2 (pc' := 2) (lv' := [(0, .ref 31), (1, .ref (35 + 7 * t1))]) (st' := [.ref (35 + 7 * t1), .ref 31]) rfl ?_
  refine lf_putR 5 2 (some t1) (some (35 + 7 * t1)) rfl rfl rfl rfl rfl rfl rfl rfl (lf_urS (w := some t1) (by decide)) ?_
  refine lf_as (s.1, s.2.1, lf_ur s.2.2 2 (some t1)) rfl ?_
  refine lf_seg 1 (pc' := 6) (lv' := [(0, .ref 31), (1, .ref (35 + 7 * t1))]) (st' := [.ref 31]) rfl ?_
  cases et21 : (lf_ur s.2.2 2 (some t1)) 2 with
  | none =>
    have h := h.1 et21
    refine lf_getR 9 (w := none) rfl rfl rfl rfl rfl rfl (congrArg (Option.map (fun t => 35 + 7 * t)) et21) ?_
    exact h.elim
  | some t21 =>
    obtain ⟨htt21, h⟩ := h.2 t21 et21
    refine lf_getR 9 (w := some (35 + 7 * t21)) rfl rfl rfl rfl rfl rfl (congrArg (Option.map (fun t => 35 + 7 * t)) et21) ?_
    refine lf_callV 12 rfl rfl (lf_invT htt21 rfl rfl rfl rfl) rfl (gm_30 htt21 h) (fun s22 h => ?_)
    refine lf_seg 2 (pc' := 14) (lv' := [(0, .ref 31), (1, .ref (35 + 7 * t1))]) (st' := [.int (Int32.ofInt 0), .ref 31]) rfl ?_
    refine lf_putI 17 2 rfl rfl rfl rfl rfl rfl rfl rfl ?_
    refine lf_as (lf_up s22.1 31 2 0, s22.2.1, s22.2.2) rfl ?_
    refine lf_seg 2 (pc' := 19) (lv' := [(0, .ref 31), (1, .ref (35 + 7 * t1))]) (st' := [.int (Int32.ofInt (-1)), .ref 31]) rfl ?_
    refine lf_putI 22 3 rfl rfl rfl rfl rfl rfl rfl rfl ?_
    refine lf_as (lf_up (lf_up s22.1 31 2 0) 31 3 (-1), s22.2.1, s22.2.2) rfl ?_
    refine lf_seg 3 (pc' := 27) (lv' := [(0, .ref 31), (1, .ref (35 + 7 * t1))]) (st' := [.int (Int32.ofInt (-1)), .ref 33]) rfl ?_
    refine lf_callV (Q1 := fun s1 => s1 = (lf_fl (lf_up (lf_up s22.1 31 2 0) 31 3 (-1)) 33 26 (-1), s22.2.1, s22.2.2)) 30 rfl rfl rfl rfl (lf_fill (m := 26) rfl rfl rfl rfl rfl rfl) (fun s1 hs1 => ?_)
    refine lf_as (lf_fl (lf_up (lf_up s22.1 31 2 0) 31 3 (-1)) 33 26 (-1), s22.2.1, s22.2.2) hs1 ?_
    refine lf_seg 2 (pc' := 32) (lv' := [(0, .ref 31), (1, .ref (35 + 7 * t1))]) (st' := [.int (Int32.ofInt 0), .ref 31]) rfl ?_
    refine lf_putI 35 7 rfl rfl rfl rfl rfl rfl rfl rfl ?_
    refine lf_as (lf_up (lf_fl (lf_up (lf_up s22.1 31 2 0) 31 3 (-1)) 33 26 (-1)) 31 7 0, s22.2.1, s22.2.2) rfl ?_
    refine lf_seg 1 (pc' := 36) (lv' := [(0, .ref 31), (1, .ref (35 + 7 * t1))]) (st' := [.ref 31]) rfl ?_
    refine lf_callV 39 rfl rfl rfl rfl (gm_31 h) (fun s23 h => ?_)
    refine lf_seg 2 (pc' := 41) (lv' := [(2, .int (Int32.ofInt 0)), (0, .ref 31), (1, .ref (35 + 7 * t1))]) (st' := []) rfl ?_
    refine lf_sub (l := [(0, .ref 31), (2, .int (Int32.ofInt 0))]) (lf_sb1 rfl (lf_sb1 rfl lf_sb0)) ?_
    exact gm_29_p41L h
-- fm_28 ElevenBullocks.text 0
def fm_28 (Q : Int → lf_Z → Prop) (s : lf_Z) : Prop := lf_R (s.1 0 11) ∧ ((s.1 0 11 < 4 → ((0 ≤ s.1 0 11 ∧ s.1 0 11 < 4) ∧ (∀ t23 : Nat, t23 = (s.1 0 11).toNat → (fm_29 t23 (fun z25 s24 => ((z25 = true → (Q (((s24.1 0 11) + 1) - 1) (lf_up s24.1 0 11 ((s24.1 0 11) + 1), s24.2.1, s24.2.2))) ∧ (z25 = false → (Q (-1) s24)))) s)))) ∧ (¬ (s.1 0 11 < 4) → (Q (-1) s)))
set_option maxRecDepth 100000 in
theorem gm_28 {L : Nat} {xs : Nat → Int32} {d : Nat} {Q : Int → lf_Z → Prop} {s : lf_Z} (h : fm_28 Q s) : lf_M (px_ro L xs) (d + 208) 28 [.ref 0] s (lf_qi Q) := by
  unfold fm_28 at h
  show lf_E (px_ro L xs) (d + 208) 28 0 [(0, .ref 0)] [] s _
  refine lf_seg 1 (pc' := 1) (lv' := [(0, .ref 0)]) (st' := [.ref 0]) rfl ?_
  refine lf_getI 4 11 rfl rfl rfl rfl rfl rfl rfl ?_
  refine lf_seg 1 (pc' := 5) (lv' := [(0, .ref 0)]) (st' := [.int (Int32.ofInt 4), .int (Int32.ofInt (s.1 0 11))]) rfl ?_
  obtain ⟨o21, h⟩ := h
  refine lf_icmp_lt 10 8 rfl rfl rfl o21 ⟨by decide, by decide⟩ (fun c => ?_) (fun c => ?_)
  · have h := h.1 c
    refine lf_seg 5 (pc' := 19) (lv' := [(0, .ref 0)]) (st' := [.ref 0, .ref 34, .ref 31]) rfl ?_
    refine lf_getI 22 11 rfl rfl rfl rfl rfl rfl rfl ?_
    obtain ⟨o22, h⟩ := h
    refine lf_aald 23 rfl rfl o22 ?_
    have h := h _ rfl
    have htt23 : (s.1 0 11).toNat < 4 := by have := o22; omega
    generalize (s.1 0 11).toNat = t23 at h htt23 ⊢
    refine lf_callZ 26 rfl rfl rfl rfl (gm_29 htt23 h) (fun z25 s24 h => ?_)
    refine lf_ifz_ne 31 29 rfl rfl rfl (fun c => ?_) (fun c => ?_)
    · have h := h.1 c
      refine lf_seg 2 (pc' := 33) (lv' := [(0, .ref 0)]) (st' := [.ref 0, .ref 0]) rfl ?_
      refine lf_getI 36 11 rfl rfl rfl rfl rfl rfl rfl ?_
      refine lf_seg 1 (pc' := 37) (lv' := [(0, .ref 0)]) (st' := [.int (Int32.ofInt 1), .int (Int32.ofInt (s24.1 0 11)), .ref 0]) rfl ?_
      refine lf_iadd 38 rfl rfl ?_
      refine lf_putI 41 11 rfl rfl rfl rfl rfl rfl rfl rfl ?_
      refine lf_as (lf_up s24.1 0 11 ((s24.1 0 11) + 1), s24.2.1, s24.2.2) rfl ?_
      refine lf_seg 1 (pc' := 42) (lv' := [(0, .ref 0)]) (st' := [.ref 0]) rfl ?_
      refine lf_getI 45 11 rfl rfl rfl rfl rfl rfl rfl ?_
      refine lf_seg 1 (pc' := 46) (lv' := [(0, .ref 0)]) (st' := [.int (Int32.ofInt 1), .int (Int32.ofInt ((s24.1 0 11) + 1))]) rfl ?_
      refine lf_isub 47 rfl rfl ?_
      exact lf_retI rfl rfl h
    · have h := h.2 c
      refine lf_seg 1 (pc' := 30) (lv' := [(0, .ref 0)]) (st' := [.int (Int32.ofInt (-1))]) rfl ?_
      exact lf_retI rfl rfl h
  · have h := h.2 c
    refine lf_seg 1 (pc' := 9) (lv' := [(0, .ref 0)]) (st' := [.int (Int32.ofInt (-1))]) rfl ?_
    exact lf_retI rfl rfl h
-- fm_198 Model.byteAt 95 i
def fm_198 (a1 : Int) (Q : Int → lf_Z → Prop) (s : lf_Z) : Prop := lf_R a1 ∧ (lf_R (s.1 95 4) ∧ ((s.1 95 4 ≤ a1 → (Q (-1) s)) ∧ (¬ (s.1 95 4 ≤ a1) → ((0 ≤ a1 ∧ a1 < 300) ∧ (Q (s.1 99 a1) s)))))
set_option maxRecDepth 100000 in
theorem gm_198 {L : Nat} {xs : Nat → Int32} {d : Nat} {a1 : Int} {Q : Int → lf_Z → Prop} {s : lf_Z} (h : fm_198 a1 Q s) : lf_M (px_ro L xs) (d + 1) 198 [.ref 95, .int (Int32.ofInt a1)] s (lf_qi Q) := by
  unfold fm_198 at h
  show lf_E (px_ro L xs) (d + 1) 198 0 [(0, .ref 95), (1, .int (Int32.ofInt a1))] [] s _
  refine lf_seg 2 (pc' := 2) (lv' := [(0, .ref 95), (1, .int (Int32.ofInt a1))]) (st' := [.ref 95, .int (Int32.ofInt a1)]) rfl ?_
  refine lf_getI 5 4 rfl rfl rfl rfl rfl rfl rfl ?_
  obtain ⟨o21, h⟩ := h
  obtain ⟨o22, h⟩ := h
  refine lf_icmp_ge 17 8 rfl rfl rfl o21 o22 (fun c => ?_) (fun c => ?_)
  · have h := h.1 c
    refine lf_seg 1 (pc' := 18) (lv' := [(0, .ref 95), (1, .int (Int32.ofInt a1))]) (st' := [.int (Int32.ofInt (-1))]) rfl ?_
    exact lf_retI rfl rfl h
  · have h := h.2 c
    refine lf_seg 3 (pc' := 13) (lv' := [(0, .ref 95), (1, .int (Int32.ofInt a1))]) (st' := [.int (Int32.ofInt a1), .ref 99]) rfl ?_
    obtain ⟨o23, h⟩ := h
    refine lf_iald 14 300 rfl rfl rfl rfl rfl rfl o23 ?_
    refine lf_seg 1 (pc' := 18) (lv' := [(0, .ref 95), (1, .int (Int32.ofInt a1))]) (st' := [.int (Int32.ofInt (s.1 99 a1))]) rfl ?_
    exact lf_retI rfl rfl h
-- fm_199 Model.isFigure i
def fm_199 (a0 : Int) (Q : Bool → lf_Z → Prop) (s : lf_Z) : Prop := lf_R a0 ∧ ((a0 < 48 → (Q false s)) ∧ (¬ (a0 < 48) → ((57 < a0 → (Q false s)) ∧ (¬ (57 < a0) → (Q true s)))))
set_option maxRecDepth 100000 in
theorem gm_199 {L : Nat} {xs : Nat → Int32} {d : Nat} {a0 : Int} {Q : Bool → lf_Z → Prop} {s : lf_Z} (h : fm_199 a0 Q s) : lf_M (px_ro L xs) (d + 1) 199 [.int (Int32.ofInt a0)] s (lf_qz Q) := by
  unfold fm_199 at h
  show lf_E (px_ro L xs) (d + 1) 199 0 [(0, .int (Int32.ofInt a0))] [] s _
  refine lf_seg 1 (pc' := 1) (lv' := [(0, .int (Int32.ofInt a0))]) (st' := [.int (Int32.ofInt a0)]) rfl ?_
  refine lf_bipush 3 48 rfl rfl (by decide) (by decide) ?_
  obtain ⟨o21, h⟩ := h
  refine lf_icmp_lt 16 6 rfl rfl rfl o21 ⟨by decide, by decide⟩ (fun c => ?_) (fun c => ?_)
  · have h := h.1 c
    refine lf_seg 1 (pc' := 17) (lv' := [(0, .int (Int32.ofInt a0))]) (st' := [.int (Int32.ofInt 0)]) rfl ?_
    exact lf_retZ false rfl rfl h
  · have h := h.2 c
    refine lf_seg 1 (pc' := 7) (lv' := [(0, .int (Int32.ofInt a0))]) (st' := [.int (Int32.ofInt a0)]) rfl ?_
    refine lf_bipush 9 57 rfl rfl (by decide) (by decide) ?_
    refine lf_icmp_gt 16 12 rfl rfl rfl o21 ⟨by decide, by decide⟩ (fun c => ?_) (fun c => ?_)
    · have h := h.1 c
      refine lf_seg 1 (pc' := 17) (lv' := [(0, .int (Int32.ofInt a0))]) (st' := [.int (Int32.ofInt 0)]) rfl ?_
      exact lf_retZ false rfl rfl h
    · have h := h.2 c
      refine lf_seg 2 (pc' := 17) (lv' := [(0, .int (Int32.ofInt a0))]) (st' := [.int (Int32.ofInt 1)]) rfl ?_
      exact lf_retZ true rfl rfl h
-- fm_200 Model.isLetterByte i
def fm_200_p12 (Q : Bool → lf_Z → Prop) (x0 : Int) (s : lf_Z) : Prop := lf_R x0 ∧ ((x0 < 65 → (Q false s)) ∧ (¬ (x0 < 65) → ((90 < x0 → (Q false s)) ∧ (¬ (90 < x0) → (Q true s)))))
set_option maxRecDepth 100000 in
theorem gm_200_p12 {L : Nat} {xs : Nat → Int32} {d : Nat} {Q : Bool → lf_Z → Prop} {x0 : Int} {s : lf_Z} (h : fm_200_p12 Q x0 s) : lf_E (px_ro L xs) (d + 1) 200 12 [(0, .int (Int32.ofInt x0))] [] s (lf_qz Q) := by
  unfold fm_200_p12 at h
  refine lf_seg 1 (pc' := 13) (lv' := [(0, .int (Int32.ofInt x0))]) (st' := [.int (Int32.ofInt x0)]) rfl ?_
  refine lf_bipush 15 65 rfl rfl (by decide) (by decide) ?_
  obtain ⟨o22, h⟩ := h
  refine lf_icmp_lt 28 18 rfl rfl rfl o22 ⟨by decide, by decide⟩ (fun c => ?_) (fun c => ?_)
  · have h := h.1 c
    refine lf_seg 1 (pc' := 29) (lv' := [(0, .int (Int32.ofInt x0))]) (st' := [.int (Int32.ofInt 0)]) rfl ?_
    exact lf_retZ false rfl rfl h
  · have h := h.2 c
    refine lf_seg 1 (pc' := 19) (lv' := [(0, .int (Int32.ofInt x0))]) (st' := [.int (Int32.ofInt x0)]) rfl ?_
    refine lf_bipush 21 90 rfl rfl (by decide) (by decide) ?_
    refine lf_icmp_gt 28 24 rfl rfl rfl o22 ⟨by decide, by decide⟩ (fun c => ?_) (fun c => ?_)
    · have h := h.1 c
      refine lf_seg 1 (pc' := 29) (lv' := [(0, .int (Int32.ofInt x0))]) (st' := [.int (Int32.ofInt 0)]) rfl ?_
      exact lf_retZ false rfl rfl h
    · have h := h.2 c
      refine lf_seg 2 (pc' := 29) (lv' := [(0, .int (Int32.ofInt x0))]) (st' := [.int (Int32.ofInt 1)]) rfl ?_
      exact lf_retZ true rfl rfl h
def fm_200 (a0 : Int) (Q : Bool → lf_Z → Prop) (s : lf_Z) : Prop := lf_R a0 ∧ ((a0 < 97 → (fm_200_p12 Q a0 s)) ∧ (¬ (a0 < 97) → ((a0 ≤ 122 → (Q true s)) ∧ (¬ (a0 ≤ 122) → (fm_200_p12 Q a0 s)))))
set_option maxRecDepth 100000 in
theorem gm_200 {L : Nat} {xs : Nat → Int32} {d : Nat} {a0 : Int} {Q : Bool → lf_Z → Prop} {s : lf_Z} (h : fm_200 a0 Q s) : lf_M (px_ro L xs) (d + 1) 200 [.int (Int32.ofInt a0)] s (lf_qz Q) := by
  unfold fm_200 at h
  show lf_E (px_ro L xs) (d + 1) 200 0 [(0, .int (Int32.ofInt a0))] [] s _
  refine lf_seg 1 (pc' := 1) (lv' := [(0, .int (Int32.ofInt a0))]) (st' := [.int (Int32.ofInt a0)]) rfl ?_
  refine lf_bipush 3 97 rfl rfl (by decide) (by decide) ?_
  obtain ⟨o21, h⟩ := h
  refine lf_icmp_lt 12 6 rfl rfl rfl o21 ⟨by decide, by decide⟩ (fun c => ?_) (fun c => ?_)
  · have h := h.1 c
    refine lf_sub (l := [(0, .int (Int32.ofInt a0))]) (lf_sb1 rfl lf_sb0) ?_
    exact gm_200_p12 h
  · have h := h.2 c
    refine lf_seg 1 (pc' := 7) (lv' := [(0, .int (Int32.ofInt a0))]) (st' := [.int (Int32.ofInt a0)]) rfl ?_
    refine lf_bipush 9 122 rfl rfl (by decide) (by decide) ?_
    refine lf_icmp_le 24 12 rfl rfl rfl o21 ⟨by decide, by decide⟩ (fun c => ?_) (fun c => ?_)
    · have h := h.1 c
      refine lf_seg 2 (pc' := 29) (lv' := [(0, .int (Int32.ofInt a0))]) (st' := [.int (Int32.ofInt 1)]) rfl ?_
      exact lf_retZ true rfl rfl h
    · have h := h.2 c
      refine lf_sub (l := [(0, .int (Int32.ofInt a0))]) (lf_sb1 rfl lf_sb0) ?_
      exact gm_200_p12 h
-- fm_201 Model.isSign i
def fm_201 (a0 : Int) (Q : Bool → lf_Z → Prop) (s : lf_Z) : Prop := lf_R a0 ∧ ((a0 < 35 ∨ 62 < a0 → (Q false s)) ∧ (a0 = 35 → (Q true s)) ∧ (a0 = 36 → (Q false s)) ∧ (a0 = 37 → (Q false s)) ∧ (a0 = 38 → (Q false s)) ∧ (a0 = 39 → (Q false s)) ∧ (a0 = 40 → (Q true s)) ∧ (a0 = 41 → (Q true s)) ∧ (a0 = 42 → (Q true s)) ∧ (a0 = 43 → (Q true s)) ∧ (a0 = 44 → (Q false s)) ∧ (a0 = 45 → (Q true s)) ∧ (a0 = 46 → (Q false s)) ∧ (a0 = 47 → (Q true s)) ∧ (a0 = 48 → (Q false s)) ∧ (a0 = 49 → (Q false s)) ∧ (a0 = 50 → (Q false s)) ∧ (a0 = 51 → (Q false s)) ∧ (a0 = 52 → (Q false s)) ∧ (a0 = 53 → (Q false s)) ∧ (a0 = 54 → (Q false s)) ∧ (a0 = 55 → (Q false s)) ∧ (a0 = 56 → (Q false s)) ∧ (a0 = 57 → (Q false s)) ∧ (a0 = 58 → (Q false s)) ∧ (a0 = 59 → (Q true s)) ∧ (a0 = 60 → (Q true s)) ∧ (a0 = 61 → (Q true s)) ∧ (a0 = 62 → (Q true s)))
set_option maxRecDepth 100000 in
theorem gm_201 {L : Nat} {xs : Nat → Int32} {d : Nat} {a0 : Int} {Q : Bool → lf_Z → Prop} {s : lf_Z} (h : fm_201 a0 Q s) : lf_M (px_ro L xs) (d + 1) 201 [.int (Int32.ofInt a0)] s (lf_qz Q) := by
  unfold fm_201 at h
  show lf_E (px_ro L xs) (d + 1) 201 0 [(0, .int (Int32.ofInt a0))] [] s _
  refine lf_seg 1 (pc' := 1) (lv' := [(0, .int (Int32.ofInt a0))]) (st' := [.int (Int32.ofInt a0)]) rfl ?_
  obtain ⟨o21, h⟩ := h
  refine lf_tsw 130 [(35, 128), (36, 130), (37, 130), (38, 130), (39, 130), (40, 128), (41, 128), (42, 128), (43, 128), (44, 130), (45, 128), (46, 130), (47, 128), (48, 130), (49, 130), (50, 130), (51, 130), (52, 130), (53, 130), (54, 130), (55, 130), (56, 130), (57, 130), (58, 130), (59, 128), (60, 128), (61, 128), (62, 128)] rfl rfl rfl (by decide) o21 (fun c => ?_) (lf_tab1 (fun c => ?_) (lf_tab1 (fun c => ?_) (lf_tab1 (fun c => ?_) (lf_tab1 (fun c => ?_) (lf_tab1 (fun c => ?_) (lf_tab1 (fun c => ?_) (lf_tab1 (fun c => ?_) (lf_tab1 (fun c => ?_) (lf_tab1 (fun c => ?_) (lf_tab1 (fun c => ?_) (lf_tab1 (fun c => ?_) (lf_tab1 (fun c => ?_) (lf_tab1 (fun c => ?_) (lf_tab1 (fun c => ?_) (lf_tab1 (fun c => ?_) (lf_tab1 (fun c => ?_) (lf_tab1 (fun c => ?_) (lf_tab1 (fun c => ?_) (lf_tab1 (fun c => ?_) (lf_tab1 (fun c => ?_) (lf_tab1 (fun c => ?_) (lf_tab1 (fun c => ?_) (lf_tab1 (fun c => ?_) (lf_tab1 (fun c => ?_) (lf_tab1 (fun c => ?_) (lf_tab1 (fun c => ?_) (lf_tab1 (fun c => ?_) (lf_tab1 (fun c => ?_) lf_tab0))))))))))))))))))))))))))))
  · have h := h.1 c
    refine lf_seg 1 (pc' := 131) (lv' := [(0, .int (Int32.ofInt a0))]) (st' := [.int (Int32.ofInt 0)]) rfl ?_
    exact lf_retZ false rfl rfl h
  · have h := h.2.1 c
    refine lf_seg 1 (pc' := 129) (lv' := [(0, .int (Int32.ofInt a0))]) (st' := [.int (Int32.ofInt 1)]) rfl ?_
    exact lf_retZ true rfl rfl h
  · have h := h.2.2.1 c
    refine lf_seg 1 (pc' := 131) (lv' := [(0, .int (Int32.ofInt a0))]) (st' := [.int (Int32.ofInt 0)]) rfl ?_
    exact lf_retZ false rfl rfl h
  · have h := h.2.2.2.1 c
    refine lf_seg 1 (pc' := 131) (lv' := [(0, .int (Int32.ofInt a0))]) (st' := [.int (Int32.ofInt 0)]) rfl ?_
    exact lf_retZ false rfl rfl h
  · have h := h.2.2.2.2.1 c
    refine lf_seg 1 (pc' := 131) (lv' := [(0, .int (Int32.ofInt a0))]) (st' := [.int (Int32.ofInt 0)]) rfl ?_
    exact lf_retZ false rfl rfl h
  · have h := h.2.2.2.2.2.1 c
    refine lf_seg 1 (pc' := 131) (lv' := [(0, .int (Int32.ofInt a0))]) (st' := [.int (Int32.ofInt 0)]) rfl ?_
    exact lf_retZ false rfl rfl h
  · have h := h.2.2.2.2.2.2.1 c
    refine lf_seg 1 (pc' := 129) (lv' := [(0, .int (Int32.ofInt a0))]) (st' := [.int (Int32.ofInt 1)]) rfl ?_
    exact lf_retZ true rfl rfl h
  · have h := h.2.2.2.2.2.2.2.1 c
    refine lf_seg 1 (pc' := 129) (lv' := [(0, .int (Int32.ofInt a0))]) (st' := [.int (Int32.ofInt 1)]) rfl ?_
    exact lf_retZ true rfl rfl h
  · have h := h.2.2.2.2.2.2.2.2.1 c
    refine lf_seg 1 (pc' := 129) (lv' := [(0, .int (Int32.ofInt a0))]) (st' := [.int (Int32.ofInt 1)]) rfl ?_
    exact lf_retZ true rfl rfl h
  · have h := h.2.2.2.2.2.2.2.2.2.1 c
    refine lf_seg 1 (pc' := 129) (lv' := [(0, .int (Int32.ofInt a0))]) (st' := [.int (Int32.ofInt 1)]) rfl ?_
    exact lf_retZ true rfl rfl h
  · have h := h.2.2.2.2.2.2.2.2.2.2.1 c
    refine lf_seg 1 (pc' := 131) (lv' := [(0, .int (Int32.ofInt a0))]) (st' := [.int (Int32.ofInt 0)]) rfl ?_
    exact lf_retZ false rfl rfl h
  · have h := h.2.2.2.2.2.2.2.2.2.2.2.1 c
    refine lf_seg 1 (pc' := 129) (lv' := [(0, .int (Int32.ofInt a0))]) (st' := [.int (Int32.ofInt 1)]) rfl ?_
    exact lf_retZ true rfl rfl h
  · have h := h.2.2.2.2.2.2.2.2.2.2.2.2.1 c
    refine lf_seg 1 (pc' := 131) (lv' := [(0, .int (Int32.ofInt a0))]) (st' := [.int (Int32.ofInt 0)]) rfl ?_
    exact lf_retZ false rfl rfl h
  · have h := h.2.2.2.2.2.2.2.2.2.2.2.2.2.1 c
    refine lf_seg 1 (pc' := 129) (lv' := [(0, .int (Int32.ofInt a0))]) (st' := [.int (Int32.ofInt 1)]) rfl ?_
    exact lf_retZ true rfl rfl h
  · have h := h.2.2.2.2.2.2.2.2.2.2.2.2.2.2.1 c
    refine lf_seg 1 (pc' := 131) (lv' := [(0, .int (Int32.ofInt a0))]) (st' := [.int (Int32.ofInt 0)]) rfl ?_
    exact lf_retZ false rfl rfl h
  · have h := h.2.2.2.2.2.2.2.2.2.2.2.2.2.2.2.1 c
    refine lf_seg 1 (pc' := 131) (lv' := [(0, .int (Int32.ofInt a0))]) (st' := [.int (Int32.ofInt 0)]) rfl ?_
    exact lf_retZ false rfl rfl h
  · have h := h.2.2.2.2.2.2.2.2.2.2.2.2.2.2.2.2.1 c
    refine lf_seg 1 (pc' := 131) (lv' := [(0, .int (Int32.ofInt a0))]) (st' := [.int (Int32.ofInt 0)]) rfl ?_
    exact lf_retZ false rfl rfl h
  · have h := h.2.2.2.2.2.2.2.2.2.2.2.2.2.2.2.2.2.1 c
    refine lf_seg 1 (pc' := 131) (lv' := [(0, .int (Int32.ofInt a0))]) (st' := [.int (Int32.ofInt 0)]) rfl ?_
    exact lf_retZ false rfl rfl h
  · have h := h.2.2.2.2.2.2.2.2.2.2.2.2.2.2.2.2.2.2.1 c
    refine lf_seg 1 (pc' := 131) (lv' := [(0, .int (Int32.ofInt a0))]) (st' := [.int (Int32.ofInt 0)]) rfl ?_
    exact lf_retZ false rfl rfl h
  · have h := h.2.2.2.2.2.2.2.2.2.2.2.2.2.2.2.2.2.2.2.1 c
    refine lf_seg 1 (pc' := 131) (lv' := [(0, .int (Int32.ofInt a0))]) (st' := [.int (Int32.ofInt 0)]) rfl ?_
    exact lf_retZ false rfl rfl h
  · have h := h.2.2.2.2.2.2.2.2.2.2.2.2.2.2.2.2.2.2.2.2.1 c
    refine lf_seg 1 (pc' := 131) (lv' := [(0, .int (Int32.ofInt a0))]) (st' := [.int (Int32.ofInt 0)]) rfl ?_
    exact lf_retZ false rfl rfl h
  · have h := h.2.2.2.2.2.2.2.2.2.2.2.2.2.2.2.2.2.2.2.2.2.1 c
    refine lf_seg 1 (pc' := 131) (lv' := [(0, .int (Int32.ofInt a0))]) (st' := [.int (Int32.ofInt 0)]) rfl ?_
    exact lf_retZ false rfl rfl h
  · have h := h.2.2.2.2.2.2.2.2.2.2.2.2.2.2.2.2.2.2.2.2.2.2.1 c
    refine lf_seg 1 (pc' := 131) (lv' := [(0, .int (Int32.ofInt a0))]) (st' := [.int (Int32.ofInt 0)]) rfl ?_
    exact lf_retZ false rfl rfl h
  · have h := h.2.2.2.2.2.2.2.2.2.2.2.2.2.2.2.2.2.2.2.2.2.2.2.1 c
    refine lf_seg 1 (pc' := 131) (lv' := [(0, .int (Int32.ofInt a0))]) (st' := [.int (Int32.ofInt 0)]) rfl ?_
    exact lf_retZ false rfl rfl h
  · have h := h.2.2.2.2.2.2.2.2.2.2.2.2.2.2.2.2.2.2.2.2.2.2.2.2.1 c
    refine lf_seg 1 (pc' := 131) (lv' := [(0, .int (Int32.ofInt a0))]) (st' := [.int (Int32.ofInt 0)]) rfl ?_
    exact lf_retZ false rfl rfl h
  · have h := h.2.2.2.2.2.2.2.2.2.2.2.2.2.2.2.2.2.2.2.2.2.2.2.2.2.1 c
    refine lf_seg 1 (pc' := 129) (lv' := [(0, .int (Int32.ofInt a0))]) (st' := [.int (Int32.ofInt 1)]) rfl ?_
    exact lf_retZ true rfl rfl h
  · have h := h.2.2.2.2.2.2.2.2.2.2.2.2.2.2.2.2.2.2.2.2.2.2.2.2.2.2.1 c
    refine lf_seg 1 (pc' := 129) (lv' := [(0, .int (Int32.ofInt a0))]) (st' := [.int (Int32.ofInt 1)]) rfl ?_
    exact lf_retZ true rfl rfl h
  · have h := h.2.2.2.2.2.2.2.2.2.2.2.2.2.2.2.2.2.2.2.2.2.2.2.2.2.2.2.1 c
    refine lf_seg 1 (pc' := 129) (lv' := [(0, .int (Int32.ofInt a0))]) (st' := [.int (Int32.ofInt 1)]) rfl ?_
    exact lf_retZ true rfl rfl h
  · have h := h.2.2.2.2.2.2.2.2.2.2.2.2.2.2.2.2.2.2.2.2.2.2.2.2.2.2.2.2 c
    refine lf_seg 1 (pc' := 129) (lv' := [(0, .int (Int32.ofInt a0))]) (st' := [.int (Int32.ofInt 1)]) rfl ?_
    exact lf_retZ true rfl rfl h
-- fm_197 Model.nextToken 95
def fm_197_p26 (X0 : lf_Z → Prop) (Q : lf_Z → Prop) (s : lf_Z) : Prop := X0 (lf_up s.1 95 7 ((s.1 95 7) + 1), s.2.1, s.2.2)
set_option maxRecDepth 100000 in
theorem gm_197_p26 {L : Nat} {xs : Nat → Int32} {d : Nat} {X0 : lf_Z → Prop} {Q : lf_Z → Prop} {s : lf_Z} (hX0 : ∀ s, X0 s → lf_E (px_ro L xs) (d + 2) 197 0 [(0, .ref 95)] [] s (lf_qv Q)) (h : fm_197_p26 X0 Q s) : lf_E (px_ro L xs) (d + 2) 197 26 [(0, .ref 95)] [] s (lf_qv Q) := by
  unfold fm_197_p26 at h
  refine lf_seg 2 (pc' := 28) (lv' := [(0, .ref 95)]) (st' := [.ref 95, .ref 95]) rfl ?_
  refine lf_getI 31 7 rfl rfl rfl rfl rfl rfl rfl ?_
  refine lf_seg 1 (pc' := 32) (lv' := [(0, .ref 95)]) (st' := [.int (Int32.ofInt 1), .int (Int32.ofInt (s.1 95 7)), .ref 95]) rfl ?_
  refine lf_iadd 33 rfl rfl ?_
  refine lf_putI 36 7 rfl rfl rfl rfl rfl rfl rfl rfl ?_
  refine lf_as (lf_up s.1 95 7 ((s.1 95 7) + 1), s.2.1, s.2.2) rfl ?_
  refine lf_seg 1 (pc' := 0) (lv' := [(0, .ref 95)]) (st' := []) rfl ?_
  refine lf_sub (l := [(0, .ref 95)]) (lf_sb1 rfl lf_sb0) ?_
  exact hX0 _ h
def fm_197_p297 (Q : lf_Z → Prop) (y1 : Int) (s : lf_Z) : Prop := Q (lf_up (lf_up s.1 95 9 y1) 95 7 ((s.1 95 7) + 1), s.2.1, s.2.2)
set_option maxRecDepth 100000 in
theorem gm_197_p297 {L : Nat} {xs : Nat → Int32} {d : Nat} {Q : lf_Z → Prop} {y1 : Int} {s : lf_Z} (h : fm_197_p297 Q y1 s) : lf_E (px_ro L xs) (d + 2) 197 297 [(0, .ref 95)] [.int (Int32.ofInt y1), .ref 95] s (lf_qv Q) := by
  unfold fm_197_p297 at h
  refine lf_putI 300 9 rfl rfl rfl rfl rfl rfl rfl rfl ?_
  refine lf_as (lf_up s.1 95 9 y1, s.2.1, s.2.2) rfl ?_
  refine lf_seg 2 (pc' := 302) (lv' := [(0, .ref 95)]) (st' := [.ref 95, .ref 95]) rfl ?_
  refine lf_getI 305 7 rfl rfl rfl rfl rfl rfl rfl ?_
  refine lf_seg 1 (pc' := 306) (lv' := [(0, .ref 95)]) (st' := [.int (Int32.ofInt 1), .int (Int32.ofInt (s.1 95 7)), .ref 95]) rfl ?_
  refine lf_iadd 307 rfl rfl ?_
  refine lf_putI 310 7 rfl rfl rfl rfl rfl rfl rfl rfl ?_
  refine lf_as (lf_up (lf_up s.1 95 9 y1) 95 7 ((s.1 95 7) + 1), s.2.1, s.2.2) rfl ?_
  exact lf_retV rfl rfl h
def fm_197_p272 (Q : lf_Z → Prop) (x1 : Int) (s : lf_Z) : Prop := fm_198 (s.1 95 7) (fun r38 s37 => (lf_R r38 ∧ ((r38 ≠ 61 → (Q s37)) ∧ (¬ (r38 ≠ 61) → (lf_R x1 ∧ ((x1 ≠ 60 → (fm_197_p297 Q 5 s37)) ∧ (¬ (x1 ≠ 60) → (fm_197_p297 Q 4 s37)))))))) s
set_option maxRecDepth 100000 in
theorem gm_197_p272 {L : Nat} {xs : Nat → Int32} {d : Nat} {Q : lf_Z → Prop} {x1 : Int} {s : lf_Z} (h : fm_197_p272 Q x1 s) : lf_E (px_ro L xs) (d + 2) 197 272 [(0, .ref 95), (1, .int (Int32.ofInt x1))] [] s (lf_qv Q) := by
  unfold fm_197_p272 at h
  refine lf_seg 2 (pc' := 274) (lv' := [(0, .ref 95), (1, .int (Int32.ofInt x1))]) (st' := [.ref 95, .ref 95]) rfl ?_
  refine lf_getI 277 7 rfl rfl rfl rfl rfl rfl rfl ?_
  refine lf_callI 280 rfl rfl rfl rfl (gm_198 h) (fun r38 s37 h => ?_)
  refine lf_bipush 282 61 rfl rfl (by decide) (by decide) ?_
  obtain ⟨o39, h⟩ := h
  refine lf_icmp_ne 310 285 rfl rfl rfl o39 ⟨by decide, by decide⟩ (fun c => ?_) (fun c => ?_)
  · have h := h.1 c
    exact lf_retV rfl rfl h
  · have h := h.2 c
    refine lf_seg 2 (pc' := 287) (lv' := [(0, .ref 95), (1, .int (Int32.ofInt x1))]) (st' := [.int (Int32.ofInt x1), .ref 95]) rfl ?_
    refine lf_bipush 289 60 rfl rfl (by decide) (by decide) ?_
    obtain ⟨o40, h⟩ := h
    refine lf_icmp_ne 296 292 rfl rfl rfl o40 ⟨by decide, by decide⟩ (fun c => ?_) (fun c => ?_)
    · have h := h.1 c
      refine lf_seg 1 (pc' := 297) (lv' := [(0, .ref 95), (1, .int (Int32.ofInt x1))]) (st' := [.int (Int32.ofInt 5), .ref 95]) rfl ?_
      refine lf_sub (l := [(0, .ref 95)]) (lf_sb1 rfl lf_sb0) ?_
      exact gm_197_p297 h
    · have h := h.2 c
      refine lf_seg 2 (pc' := 297) (lv' := [(0, .ref 95), (1, .int (Int32.ofInt x1))]) (st' := [.int (Int32.ofInt 4), .ref 95]) rfl ?_
      refine lf_sub (l := [(0, .ref 95)]) (lf_sb1 rfl lf_sb0) ?_
      exact gm_197_p297 h
def fm_197_p247 (Q : lf_Z → Prop) (x1 : Int) (y1 : Int) (s : lf_Z) : Prop := lf_R x1 ∧ ((x1 = 60 → (fm_197_p272 Q x1 (lf_up (lf_up s.1 95 9 y1) 95 7 ((s.1 95 7) + 1), s.2.1, s.2.2))) ∧ (¬ (x1 = 60) → ((x1 ≠ 62 → (Q (lf_up (lf_up s.1 95 9 y1) 95 7 ((s.1 95 7) + 1), s.2.1, s.2.2))) ∧ (¬ (x1 ≠ 62) → (fm_197_p272 Q x1 (lf_up (lf_up s.1 95 9 y1) 95 7 ((s.1 95 7) + 1), s.2.1, s.2.2))))))
set_option maxRecDepth 100000 in
theorem gm_197_p247 {L : Nat} {xs : Nat → Int32} {d : Nat} {Q : lf_Z → Prop} {x1 : Int} {y1 : Int} {s : lf_Z} (h : fm_197_p247 Q x1 y1 s) : lf_E (px_ro L xs) (d + 2) 197 247 [(0, .ref 95), (1, .int (Int32.ofInt x1))] [.int (Int32.ofInt y1), .ref 95] s (lf_qv Q) := by
  unfold fm_197_p247 at h
  refine lf_putI 250 9 rfl rfl rfl rfl rfl rfl rfl rfl ?_
  refine lf_as (lf_up s.1 95 9 y1, s.2.1, s.2.2) rfl ?_
  refine lf_seg 2 (pc' := 252) (lv' := [(0, .ref 95), (1, .int (Int32.ofInt x1))]) (st' := [.ref 95, .ref 95]) rfl ?_
  refine lf_getI 255 7 rfl rfl rfl rfl rfl rfl rfl ?_
  refine lf_seg 1 (pc' := 256) (lv' := [(0, .ref 95), (1, .int (Int32.ofInt x1))]) (st' := [.int (Int32.ofInt 1), .int (Int32.ofInt (s.1 95 7)), .ref 95]) rfl ?_
  refine lf_iadd 257 rfl rfl ?_
  refine lf_putI 260 7 rfl rfl rfl rfl rfl rfl rfl rfl ?_
  refine lf_as (lf_up (lf_up s.1 95 9 y1) 95 7 ((s.1 95 7) + 1), s.2.1, s.2.2) rfl ?_
  refine lf_seg 1 (pc' := 261) (lv' := [(0, .ref 95), (1, .int (Int32.ofInt x1))]) (st' := [.int (Int32.ofInt x1)]) rfl ?_
  refine lf_bipush 263 60 rfl rfl (by decide) (by decide) ?_
  obtain ⟨o36, h⟩ := h
  refine lf_icmp_eq 272 266 rfl rfl rfl o36 ⟨by decide, by decide⟩ (fun c => ?_) (fun c => ?_)
  · have h := h.1 c
    refine lf_sub (l := [(0, .ref 95), (1, .int (Int32.ofInt x1))]) (lf_sb1 rfl (lf_sb1 rfl lf_sb0)) ?_
    exact gm_197_p272 h
  · have h := h.2 c
    refine lf_seg 1 (pc' := 267) (lv' := [(0, .ref 95), (1, .int (Int32.ofInt x1))]) (st' := [.int (Int32.ofInt x1)]) rfl ?_
    refine lf_bipush 269 62 rfl rfl (by decide) (by decide) ?_
    refine lf_icmp_ne 310 272 rfl rfl rfl o36 ⟨by decide, by decide⟩ (fun c => ?_) (fun c => ?_)
    · have h := h.1 c
      exact lf_retV rfl rfl h
    · have h := h.2 c
      refine lf_sub (l := [(0, .ref 95), (1, .int (Int32.ofInt x1))]) (lf_sb1 rfl (lf_sb1 rfl lf_sb0)) ?_
      exact gm_197_p272 h
def fm_197_p218 (X168 : lf_Z → Prop) (Q : lf_Z → Prop) (y1 : Int) (s : lf_Z) : Prop := X168 (lf_up s.1 95 7 ((s.1 95 7) + 1), lf_up s.2.1 95 11 (lf_wl y1), s.2.2)
set_option maxRecDepth 100000 in
theorem gm_197_p218 {L : Nat} {xs : Nat → Int32} {d : Nat} {X168 : lf_Z → Prop} {Q : lf_Z → Prop} {y1 : Int} {s : lf_Z} (hX168 : ∀ s, X168 s → lf_E (px_ro L xs) (d + 2) 197 168 [(0, .ref 95)] [] s (lf_qv Q)) (h : fm_197_p218 X168 Q y1 s) : lf_E (px_ro L xs) (d + 2) 197 218 [(0, .ref 95)] [.long (Int64.ofInt y1), .ref 95] s (lf_qv Q) := by
  unfold fm_197_p218 at h
  refine lf_eqs (lv' := [(0, .ref 95)]) (st' := [.long (Int64.ofInt (lf_wl y1)), .ref 95]) rfl (by simp only [lf_wlE]) ?_
  refine lf_putJ 221 11 rfl rfl rfl rfl rfl rfl rfl rfl ?_
  refine lf_as (s.1, lf_up s.2.1 95 11 (lf_wl y1), s.2.2) rfl ?_
  refine lf_seg 2 (pc' := 223) (lv' := [(0, .ref 95)]) (st' := [.ref 95, .ref 95]) rfl ?_
  refine lf_getI 226 7 rfl rfl rfl rfl rfl rfl rfl ?_
  refine lf_seg 1 (pc' := 227) (lv' := [(0, .ref 95)]) (st' := [.int (Int32.ofInt 1), .int (Int32.ofInt (s.1 95 7)), .ref 95]) rfl ?_
  refine lf_iadd 228 rfl rfl ?_
  refine lf_putI 231 7 rfl rfl rfl rfl rfl rfl rfl rfl ?_
  refine lf_as (lf_up s.1 95 7 ((s.1 95 7) + 1), lf_up s.2.1 95 11 (lf_wl y1), s.2.2) rfl ?_
  refine lf_seg 1 (pc' := 168) (lv' := [(0, .ref 95)]) (st' := []) rfl ?_
  refine lf_sub (l := [(0, .ref 95)]) (lf_sb1 rfl lf_sb0) ?_
  exact hX168 _ h
def fm_197_p168 (Q : lf_Z → Prop) (X168 : lf_Z → Prop) (s : lf_Z) : Prop := fm_198 (s.1 95 7) (fun r42 s41 => (fm_200 r42 (fun z44 s43 => ((z44 = false → (Q s43)) ∧ (z44 = true → ((lf_lshr (lf_wl (s43.2.1 95 11)) 48 = 0 → (fm_198 (s43.1 95 7) (fun r46 s45 => (lf_R r46 ∧ (fm_197_p218 X168 Q (lf_lor (lf_lshl (lf_wl (s43.2.1 95 11)) 8) r46) s45))) s43)) ∧ (¬ (lf_lshr (lf_wl (s43.2.1 95 11)) 48 = 0) → (fm_197_p218 X168 Q 1152921504606846976 s43)))))) s41)) s
def fm_197_p168L (Q : lf_Z → Prop) (s : lf_Z) : Prop := ∀ X168 : lf_Z → Prop, (∀ (s : lf_Z), fm_197_p168 Q X168 s → X168 s) → X168 s
set_option maxRecDepth 100000 in
theorem gm_197_p168 {L : Nat} {xs : Nat → Int32} {d : Nat} {Q : lf_Z → Prop} {s : lf_Z} {X168 : lf_Z → Prop} (hX168 : ∀ s, X168 s → lf_E (px_ro L xs) (d + 2) 197 168 [(0, .ref 95)] [] s (lf_qv Q)) (h : fm_197_p168 Q X168 s) : lf_E (px_ro L xs) (d + 2) 197 168 [(0, .ref 95)] [] s (lf_qv Q) := by
  unfold fm_197_p168 at h
  refine lf_seg 2 (pc' := 170) (lv' := [(0, .ref 95)]) (st' := [.ref 95, .ref 95]) rfl ?_
  refine lf_getI 173 7 rfl rfl rfl rfl rfl rfl rfl ?_
  refine lf_callI 176 rfl rfl rfl rfl (gm_198 h) (fun r42 s41 h => ?_)
  refine lf_callZ 179 rfl rfl rfl rfl (gm_200 h) (fun z44 s43 h => ?_)
  refine lf_ifz_eq 310 182 rfl rfl rfl (fun c => ?_) (fun c => ?_)
  · have h := h.1 c
    exact lf_retV rfl rfl h
  · have h := h.2 c
    refine lf_seg 2 (pc' := 184) (lv' := [(0, .ref 95)]) (st' := [.ref 95, .ref 95]) rfl ?_
    refine lf_getJ 187 11 rfl rfl rfl rfl rfl rfl rfl ?_
    refine lf_wtL ?_
    refine lf_bipush 189 48 rfl rfl (by decide) (by decide) ?_
    refine lf_lshr' 190 rfl rfl ?_
    refine lf_lconst 191 0 rfl rfl (by decide) ?_
    refine lf_lif_eq 201 195 rfl rfl rfl rfl lf_RLlshr ⟨by decide, by decide⟩ (fun c => ?_) (fun c => ?_)
    · have h := h.1 c
      refine lf_seg 1 (pc' := 202) (lv' := [(0, .ref 95)]) (st' := [.ref 95, .ref 95]) rfl ?_
      refine lf_getJ 205 11 rfl rfl rfl rfl rfl rfl rfl ?_
      refine lf_wtL ?_
      refine lf_bipush 207 8 rfl rfl (by decide) (by decide) ?_
      refine lf_lshl' 208 rfl rfl ?_
      refine lf_seg 2 (pc' := 210) (lv' := [(0, .ref 95)]) (st' := [.ref 95, .ref 95, .long (Int64.ofInt (lf_lshl (lf_wl (s43.2.1 95 11)) 8)), .ref 95]) rfl ?_
      refine lf_getI 213 7 rfl rfl rfl rfl rfl rfl rfl ?_
      refine lf_callI 216 rfl rfl rfl rfl (gm_198 h) (fun r46 s45 h => ?_)
      obtain ⟨o47, h⟩ := h
      refine lf_i2l 217 rfl rfl o47 ?_
      refine lf_lor' 218 rfl rfl ?_
      refine lf_sub (l := [(0, .ref 95)]) (lf_sb1 rfl lf_sb0) ?_
      exact gm_197_p218 hX168 h
    · have h := h.2 c
      refine lf_ldc2 198 1152921504606846976 rfl rfl rfl (by decide) ?_
      refine lf_seg 1 (pc' := 218) (lv' := [(0, .ref 95)]) (st' := [.long (Int64.ofInt 1152921504606846976), .ref 95]) rfl ?_
      refine lf_sub (l := [(0, .ref 95)]) (lf_sb1 rfl lf_sb0) ?_
      exact gm_197_p218 hX168 h
theorem gm_197_p168L {L : Nat} {xs : Nat → Int32} {d : Nat} {Q : lf_Z → Prop} {s : lf_Z} (h : fm_197_p168L Q s) : lf_E (px_ro L xs) (d + 2) 197 168 [(0, .ref 95)] [] s (lf_qv Q) :=
  h (fun s => lf_E (px_ro L xs) (d + 2) 197 168 [(0, .ref 95)] [] s (lf_qv Q)) (fun s hb => gm_197_p168 (fun _ h => h) hb)
def fm_197_p135 (X85 : lf_Z → Prop) (Q : lf_Z → Prop) (y1 : Int) (s : lf_Z) : Prop := X85 (lf_up (lf_up s.1 95 10 y1) 95 7 ((s.1 95 7) + 1), s.2.1, s.2.2)
set_option maxRecDepth 100000 in
theorem gm_197_p135 {L : Nat} {xs : Nat → Int32} {d : Nat} {X85 : lf_Z → Prop} {Q : lf_Z → Prop} {y1 : Int} {s : lf_Z} (hX85 : ∀ s, X85 s → lf_E (px_ro L xs) (d + 2) 197 85 [(0, .ref 95)] [] s (lf_qv Q)) (h : fm_197_p135 X85 Q y1 s) : lf_E (px_ro L xs) (d + 2) 197 135 [(0, .ref 95)] [.int (Int32.ofInt y1), .ref 95] s (lf_qv Q) := by
  unfold fm_197_p135 at h
  refine lf_putI 138 10 rfl rfl rfl rfl rfl rfl rfl rfl ?_
  refine lf_as (lf_up s.1 95 10 y1, s.2.1, s.2.2) rfl ?_
  refine lf_seg 2 (pc' := 140) (lv' := [(0, .ref 95)]) (st' := [.ref 95, .ref 95]) rfl ?_
  refine lf_getI 143 7 rfl rfl rfl rfl rfl rfl rfl ?_
  refine lf_seg 1 (pc' := 144) (lv' := [(0, .ref 95)]) (st' := [.int (Int32.ofInt 1), .int (Int32.ofInt (s.1 95 7)), .ref 95]) rfl ?_
  refine lf_iadd 145 rfl rfl ?_
  refine lf_putI 148 7 rfl rfl rfl rfl rfl rfl rfl rfl ?_
  refine lf_as (lf_up (lf_up s.1 95 10 y1) 95 7 ((s.1 95 7) + 1), s.2.1, s.2.2) rfl ?_
  refine lf_seg 1 (pc' := 85) (lv' := [(0, .ref 95)]) (st' := []) rfl ?_
  refine lf_sub (l := [(0, .ref 95)]) (lf_sb1 rfl lf_sb0) ?_
  exact hX85 _ h
def fm_197_p85 (Q : lf_Z → Prop) (X85 : lf_Z → Prop) (s : lf_Z) : Prop := fm_198 (s.1 95 7) (fun r49 s48 => (fm_199 r49 (fun z51 s50 => ((z51 = false → (Q s50)) ∧ (z51 = true → (lf_R (s50.1 95 10) ∧ ((s50.1 95 10 ≤ 99999 → (fm_198 (s50.1 95 7) (fun r54 s53 => (fm_197_p135 X85 Q (lf_w ((lf_w ((lf_w (10 * (s50.1 95 10))) + r54)) - 48)) s53)) s50)) ∧ (¬ (s50.1 95 10 ≤ 99999) → (fm_197_p135 X85 Q (s50.1 95 10) s50))))))) s48)) s
def fm_197_p85L (Q : lf_Z → Prop) (s : lf_Z) : Prop := ∀ X85 : lf_Z → Prop, (∀ (s : lf_Z), fm_197_p85 Q X85 s → X85 s) → X85 s
set_option maxRecDepth 100000 in
theorem gm_197_p85 {L : Nat} {xs : Nat → Int32} {d : Nat} {Q : lf_Z → Prop} {s : lf_Z} {X85 : lf_Z → Prop} (hX85 : ∀ s, X85 s → lf_E (px_ro L xs) (d + 2) 197 85 [(0, .ref 95)] [] s (lf_qv Q)) (h : fm_197_p85 Q X85 s) : lf_E (px_ro L xs) (d + 2) 197 85 [(0, .ref 95)] [] s (lf_qv Q) := by
  unfold fm_197_p85 at h
  refine lf_seg 2 (pc' := 87) (lv' := [(0, .ref 95)]) (st' := [.ref 95, .ref 95]) rfl ?_
  refine lf_getI 90 7 rfl rfl rfl rfl rfl rfl rfl ?_
  refine lf_callI 93 rfl rfl rfl rfl (gm_198 h) (fun r49 s48 h => ?_)
  refine lf_callZ 96 rfl rfl rfl rfl (gm_199 h) (fun z51 s50 h => ?_)
  refine lf_ifz_eq 310 99 rfl rfl rfl (fun c => ?_) (fun c => ?_)
  · have h := h.1 c
    exact lf_retV rfl rfl h
  · have h := h.2 c
    refine lf_seg 2 (pc' := 101) (lv' := [(0, .ref 95)]) (st' := [.ref 95, .ref 95]) rfl ?_
    refine lf_getI 104 10 rfl rfl rfl rfl rfl rfl rfl ?_
    refine lf_ldc 106 99999 rfl rfl rfl (by decide) ?_
    obtain ⟨o52, h⟩ := h
    refine lf_icmp_le 116 109 rfl rfl rfl o52 ⟨by decide, by decide⟩ (fun c => ?_) (fun c => ?_)
    · have h := h.1 c
      refine lf_bipush 118 10 rfl rfl (by decide) (by decide) ?_
      refine lf_seg 1 (pc' := 119) (lv' := [(0, .ref 95)]) (st' := [.ref 95, .int (Int32.ofInt 10), .ref 95]) rfl ?_
      refine lf_getI 122 10 rfl rfl rfl rfl rfl rfl rfl ?_
      refine lf_imul 123 rfl rfl ?_
      refine lf_wtI ?_
      refine lf_seg 2 (pc' := 125) (lv' := [(0, .ref 95)]) (st' := [.ref 95, .ref 95, .int (Int32.ofInt (lf_w (10 * (s50.1 95 10)))), .ref 95]) rfl ?_
      refine lf_getI 128 7 rfl rfl rfl rfl rfl rfl rfl ?_
      refine lf_callI 131 rfl rfl rfl rfl (gm_198 h) (fun r54 s53 h => ?_)
      refine lf_iadd 132 rfl rfl ?_
      refine lf_wtI ?_
      refine lf_bipush 134 48 rfl rfl (by decide) (by decide) ?_
      refine lf_isub 135 rfl rfl ?_
      refine lf_wtI ?_
      refine lf_sub (l := [(0, .ref 95)]) (lf_sb1 rfl lf_sb0) ?_
      exact gm_197_p135 hX85 h
    · have h := h.2 c
      refine lf_seg 1 (pc' := 110) (lv' := [(0, .ref 95)]) (st' := [.ref 95, .ref 95]) rfl ?_
      refine lf_getI 113 10 rfl rfl rfl rfl rfl rfl rfl ?_
      refine lf_seg 1 (pc' := 135) (lv' := [(0, .ref 95)]) (st' := [.int (Int32.ofInt (s50.1 95 10)), .ref 95]) rfl ?_
      refine lf_sub (l := [(0, .ref 95)]) (lf_sb1 rfl lf_sb0) ?_
      exact gm_197_p135 hX85 h
theorem gm_197_p85L {L : Nat} {xs : Nat → Int32} {d : Nat} {Q : lf_Z → Prop} {s : lf_Z} (h : fm_197_p85L Q s) : lf_E (px_ro L xs) (d + 2) 197 85 [(0, .ref 95)] [] s (lf_qv Q) :=
  h (fun s => lf_E (px_ro L xs) (d + 2) 197 85 [(0, .ref 95)] [] s (lf_qv Q)) (fun s hb => gm_197_p85 (fun _ h => h) hb)
def fm_197_p0 (Q : lf_Z → Prop) (X0 : lf_Z → Prop) (s : lf_Z) : Prop := fm_198 (s.1 95 7) (fun r22 s21 => (lf_R r22 ∧ ((r22 = 32 → (fm_197_p26 X0 Q s21)) ∧ (¬ (r22 = 32) → (fm_198 (s21.1 95 7) (fun r25 s24 => (lf_R r25 ∧ ((r25 ≠ 10 → (fm_198 (s24.1 95 7) (fun r28 s27 => (lf_R r28 ∧ ((0 ≤ r28 → (fm_199 r28 (fun z31 s30 => ((z31 = false → (fm_200 r28 (fun z33 s32 => ((z33 = false → (fm_201 r28 (fun z35 s34 => ((z35 = false → (fm_197_p247 Q r28 3 s34)) ∧ (z35 = true → (fm_197_p247 Q r28 r28 s34)))) s32)) ∧ (z33 = true → (fm_197_p168L Q (lf_up s32.1 95 9 2, lf_up s32.2.1 95 11 0, s32.2.2))))) s30)) ∧ (z31 = true → (fm_197_p85L Q (lf_up (lf_up s30.1 95 9 1) 95 10 0, s30.2.1, s30.2.2))))) s27)) ∧ (¬ (0 ≤ r28) → (Q (lf_up s27.1 95 9 0, s27.2.1, s27.2.2)))))) (lf_up s24.1 95 8 (s24.1 95 7), s24.2.1, s24.2.2))) ∧ (¬ (r25 ≠ 10) → (fm_197_p26 X0 Q s24))))) s21))))) s
def fm_197_p0L (Q : lf_Z → Prop) (s : lf_Z) : Prop := ∀ X0 : lf_Z → Prop, (∀ (s : lf_Z), fm_197_p0 Q X0 s → X0 s) → X0 s
set_option maxRecDepth 100000 in
theorem gm_197_p0 {L : Nat} {xs : Nat → Int32} {d : Nat} {Q : lf_Z → Prop} {s : lf_Z} {X0 : lf_Z → Prop} (hX0 : ∀ s, X0 s → lf_E (px_ro L xs) (d + 2) 197 0 [(0, .ref 95)] [] s (lf_qv Q)) (h : fm_197_p0 Q X0 s) : lf_E (px_ro L xs) (d + 2) 197 0 [(0, .ref 95)] [] s (lf_qv Q) := by
  unfold fm_197_p0 at h
  refine lf_seg 2 (pc' := 2) (lv' := [(0, .ref 95)]) (st' := [.ref 95, .ref 95]) rfl ?_
  refine lf_getI 5 7 rfl rfl rfl rfl rfl rfl rfl ?_
  refine lf_callI 8 rfl rfl rfl rfl (gm_198 h) (fun r22 s21 h => ?_)
  refine lf_bipush 10 32 rfl rfl (by decide) (by decide) ?_
  obtain ⟨o23, h⟩ := h
  refine lf_icmp_eq 26 13 rfl rfl rfl o23 ⟨by decide, by decide⟩ (fun c => ?_) (fun c => ?_)
  · have h := h.1 c
    refine lf_sub (l := [(0, .ref 95)]) (lf_sb1 rfl lf_sb0) ?_
    exact gm_197_p26 hX0 h
  · have h := h.2 c
    refine lf_seg 2 (pc' := 15) (lv' := [(0, .ref 95)]) (st' := [.ref 95, .ref 95]) rfl ?_
    refine lf_getI 18 7 rfl rfl rfl rfl rfl rfl rfl ?_
    refine lf_callI 21 rfl rfl rfl rfl (gm_198 h) (fun r25 s24 h => ?_)
    refine lf_bipush 23 10 rfl rfl (by decide) (by decide) ?_
    obtain ⟨o26, h⟩ := h
    refine lf_icmp_ne 39 26 rfl rfl rfl o26 ⟨by decide, by decide⟩ (fun c => ?_) (fun c => ?_)
    · have h := h.1 c
      refine lf_seg 2 (pc' := 41) (lv' := [(0, .ref 95)]) (st' := [.ref 95, .ref 95]) rfl ?_
      refine lf_getI 44 7 rfl rfl rfl rfl rfl rfl rfl ?_
      refine lf_putI 47 8 rfl rfl rfl rfl rfl rfl rfl rfl ?_
      refine lf_as (lf_up s24.1 95 8 (s24.1 95 7), s24.2.1, s24.2.2) rfl ?_
      refine lf_seg 2 (pc' := 49) (lv' := [(0, .ref 95)]) (st' := [.ref 95, .ref 95]) rfl ?_
      refine lf_getI 52 7 rfl rfl rfl rfl rfl rfl rfl ?_
      refine lf_seg 0 (pc' := 52) (lv' := [(0, .ref 95)]) (st' := [.int (Int32.ofInt (s24.1 95 7)), .ref 95]) rfl ?_
      refine lf_callI 55 rfl rfl rfl rfl (gm_198 h) (fun r28 s27 h => ?_)
      refine lf_seg 2 (pc' := 57) (lv' := [(1, .int (Int32.ofInt r28)), (0, .ref 95)]) (st' := [.int (Int32.ofInt r28)]) rfl ?_
      obtain ⟨o29, h⟩ := h
      refine lf_if_ge 68 60 rfl rfl rfl o29 (fun c => ?_) (fun c => ?_)
      · have h := h.1 c
        refine lf_seg 1 (pc' := 69) (lv' := [(1, .int (Int32.ofInt r28)), (0, .ref 95)]) (st' := [.int (Int32.ofInt r28)]) rfl ?_
        refine lf_callZ 72 rfl rfl rfl rfl (gm_199 h) (fun z31 s30 h => ?_)
        refine lf_ifz_eq 151 75 rfl rfl rfl (fun c => ?_) (fun c => ?_)
        · have h := h.1 c
          refine lf_seg 1 (pc' := 152) (lv' := [(1, .int (Int32.ofInt r28)), (0, .ref 95)]) (st' := [.int (Int32.ofInt r28)]) rfl ?_
          refine lf_callZ 155 rfl rfl rfl rfl (gm_200 h) (fun z33 s32 h => ?_)
          refine lf_ifz_eq 234 158 rfl rfl rfl (fun c => ?_) (fun c => ?_)
          · have h := h.1 c
            refine lf_seg 2 (pc' := 236) (lv' := [(1, .int (Int32.ofInt r28)), (0, .ref 95)]) (st' := [.int (Int32.ofInt r28), .ref 95]) rfl ?_
            refine lf_callZ 239 rfl rfl rfl rfl (gm_201 h) (fun z35 s34 h => ?_)
            refine lf_ifz_eq 246 242 rfl rfl rfl (fun c => ?_) (fun c => ?_)
            · have h := h.1 c
              refine lf_seg 1 (pc' := 247) (lv' := [(1, .int (Int32.ofInt r28)), (0, .ref 95)]) (st' := [.int (Int32.ofInt 3), .ref 95]) rfl ?_
              refine lf_sub (l := [(0, .ref 95), (1, .int (Int32.ofInt r28))]) (lf_sb1 rfl (lf_sb1 rfl lf_sb0)) ?_
              exact gm_197_p247 h
            · have h := h.2 c
              refine lf_seg 2 (pc' := 247) (lv' := [(1, .int (Int32.ofInt r28)), (0, .ref 95)]) (st' := [.int (Int32.ofInt r28), .ref 95]) rfl ?_
              refine lf_sub (l := [(0, .ref 95), (1, .int (Int32.ofInt r28))]) (lf_sb1 rfl (lf_sb1 rfl lf_sb0)) ?_
              exact gm_197_p247 h
          · have h := h.2 c
            refine lf_seg 2 (pc' := 160) (lv' := [(1, .int (Int32.ofInt r28)), (0, .ref 95)]) (st' := [.int (Int32.ofInt 2), .ref 95]) rfl ?_
            refine lf_putI 163 9 rfl rfl rfl rfl rfl rfl rfl rfl ?_
            refine lf_as (lf_up s32.1 95 9 2, s32.2.1, s32.2.2) rfl ?_
            refine lf_seg 1 (pc' := 164) (lv' := [(1, .int (Int32.ofInt r28)), (0, .ref 95)]) (st' := [.ref 95]) rfl ?_
            refine lf_lconst 165 0 rfl rfl (by decide) ?_
            refine lf_putJ 168 11 rfl rfl rfl rfl rfl rfl rfl rfl ?_
            refine lf_as (lf_up s32.1 95 9 2, lf_up s32.2.1 95 11 0, s32.2.2) rfl ?_
            refine lf_sub (l := [(0, .ref 95)]) (lf_sb1 rfl lf_sb0) ?_
            exact gm_197_p168L h
        · have h := h.2 c
          refine lf_seg 2 (pc' := 77) (lv' := [(1, .int (Int32.ofInt r28)), (0, .ref 95)]) (st' := [.int (Int32.ofInt 1), .ref 95]) rfl ?_
          refine lf_putI 80 9 rfl rfl rfl rfl rfl rfl rfl rfl ?_
          refine lf_as (lf_up s30.1 95 9 1, s30.2.1, s30.2.2) rfl ?_
          refine lf_seg 2 (pc' := 82) (lv' := [(1, .int (Int32.ofInt r28)), (0, .ref 95)]) (st' := [.int (Int32.ofInt 0), .ref 95]) rfl ?_
          refine lf_putI 85 10 rfl rfl rfl rfl rfl rfl rfl rfl ?_
          refine lf_as (lf_up (lf_up s30.1 95 9 1) 95 10 0, s30.2.1, s30.2.2) rfl ?_
          refine lf_sub (l := [(0, .ref 95)]) (lf_sb1 rfl lf_sb0) ?_
          exact gm_197_p85L h
      · have h := h.2 c
        refine lf_seg 2 (pc' := 62) (lv' := [(1, .int (Int32.ofInt r28)), (0, .ref 95)]) (st' := [.int (Int32.ofInt 0), .ref 95]) rfl ?_
        refine lf_putI 65 9 rfl rfl rfl rfl rfl rfl rfl rfl ?_
        refine lf_as (lf_up s27.1 95 9 0, s27.2.1, s27.2.2) rfl ?_
        refine lf_seg 1 (pc' := 310) (lv' := [(1, .int (Int32.ofInt r28)), (0, .ref 95)]) (st' := []) rfl ?_
        exact lf_retV rfl rfl h
    · have h := h.2 c
      refine lf_sub (l := [(0, .ref 95)]) (lf_sb1 rfl lf_sb0) ?_
      exact gm_197_p26 hX0 h
theorem gm_197_p0L {L : Nat} {xs : Nat → Int32} {d : Nat} {Q : lf_Z → Prop} {s : lf_Z} (h : fm_197_p0L Q s) : lf_E (px_ro L xs) (d + 2) 197 0 [(0, .ref 95)] [] s (lf_qv Q) :=
  h (fun s => lf_E (px_ro L xs) (d + 2) 197 0 [(0, .ref 95)] [] s (lf_qv Q)) (fun s hb => gm_197_p0 (fun _ h => h) hb)
def fm_197 (Q : lf_Z → Prop) (s : lf_Z) : Prop := fm_197_p0L Q s
set_option maxRecDepth 100000 in
theorem gm_197 {L : Nat} {xs : Nat → Int32} {d : Nat} {Q : lf_Z → Prop} {s : lf_Z} (h : fm_197 Q s) : lf_M (px_ro L xs) (d + 2) 197 [.ref 95] s (lf_qv Q) := by
  unfold fm_197 at h
  show lf_E (px_ro L xs) (d + 2) 197 0 [(0, .ref 95)] [] s _
  refine lf_sub (l := [(0, .ref 95)]) (lf_sb1 rfl lf_sb0) ?_
  exact gm_197_p0L h
-- fm_206 Model.w2 i i
def fm_206 (a0 : Int) (a1 : Int) (Q : Int → lf_Z → Prop) (s : lf_Z) : Prop := lf_R a0 ∧ (lf_R a1 ∧ (Q (lf_lor (lf_lshl a0 8) a1) s))
set_option maxRecDepth 100000 in
theorem gm_206 {L : Nat} {xs : Nat → Int32} {d : Nat} {a0 : Int} {a1 : Int} {Q : Int → lf_Z → Prop} {s : lf_Z} (h : fm_206 a0 a1 Q s) : lf_M (px_ro L xs) (d + 1) 206 [.int (Int32.ofInt a0), .int (Int32.ofInt a1)] s (lf_ql Q) := by
  unfold fm_206 at h
  show lf_E (px_ro L xs) (d + 1) 206 0 [(0, .int (Int32.ofInt a0)), (1, .int (Int32.ofInt a1))] [] s _
  refine lf_seg 1 (pc' := 1) (lv' := [(0, .int (Int32.ofInt a0)), (1, .int (Int32.ofInt a1))]) (st' := [.int (Int32.ofInt a0)]) rfl ?_
  obtain ⟨o21, h⟩ := h
  refine lf_i2l 2 rfl rfl o21 ?_
  refine lf_bipush 4 8 rfl rfl (by decide) (by decide) ?_
  refine lf_lshl' 5 rfl rfl ?_
  refine lf_seg 1 (pc' := 6) (lv' := [(0, .int (Int32.ofInt a0)), (1, .int (Int32.ofInt a1))]) (st' := [.int (Int32.ofInt a1), .long (Int64.ofInt (lf_lshl a0 8))]) rfl ?_
  obtain ⟨o22, h⟩ := h
  refine lf_i2l 7 rfl rfl o22 ?_
  refine lf_lor' 8 rfl rfl ?_
  exact lf_retL rfl rfl h
-- fm_205 Model.w3 i i i
def fm_205 (a0 : Int) (a1 : Int) (a2 : Int) (Q : Int → lf_Z → Prop) (s : lf_Z) : Prop := fm_206 a0 a1 (fun r22 s21 => (lf_R a2 ∧ (Q (lf_lor (lf_lshl (lf_wl r22) 8) a2) s21))) s
set_option maxRecDepth 100000 in
theorem gm_205 {L : Nat} {xs : Nat → Int32} {d : Nat} {a0 : Int} {a1 : Int} {a2 : Int} {Q : Int → lf_Z → Prop} {s : lf_Z} (h : fm_205 a0 a1 a2 Q s) : lf_M (px_ro L xs) (d + 2) 205 [.int (Int32.ofInt a0), .int (Int32.ofInt a1), .int (Int32.ofInt a2)] s (lf_ql Q) := by
  unfold fm_205 at h
  show lf_E (px_ro L xs) (d + 2) 205 0 [(0, .int (Int32.ofInt a0)), (1, .int (Int32.ofInt a1)), (2, .int (Int32.ofInt a2))] [] s _
  refine lf_seg 2 (pc' := 2) (lv' := [(0, .int (Int32.ofInt a0)), (1, .int (Int32.ofInt a1)), (2, .int (Int32.ofInt a2))]) (st' := [.int (Int32.ofInt a1), .int (Int32.ofInt a0)]) rfl ?_
  refine lf_callL 5 rfl rfl rfl rfl (gm_206 h) (fun r22 s21 h => ?_)
  refine lf_wtL ?_
  refine lf_bipush 7 8 rfl rfl (by decide) (by decide) ?_
  refine lf_lshl' 8 rfl rfl ?_
  refine lf_seg 1 (pc' := 9) (lv' := [(0, .int (Int32.ofInt a0)), (1, .int (Int32.ofInt a1)), (2, .int (Int32.ofInt a2))]) (st' := [.int (Int32.ofInt a2), .long (Int64.ofInt (lf_lshl (lf_wl r22) 8))]) rfl ?_
  obtain ⟨o23, h⟩ := h
  refine lf_i2l 10 rfl rfl o23 ?_
  refine lf_lor' 11 rfl rfl ?_
  exact lf_retL rfl rfl h
-- fm_204 Model.w4 i i i i
def fm_204 (a0 : Int) (a1 : Int) (a2 : Int) (a3 : Int) (Q : Int → lf_Z → Prop) (s : lf_Z) : Prop := fm_205 a0 a1 a2 (fun r22 s21 => (lf_R a3 ∧ (Q (lf_lor (lf_lshl (lf_wl r22) 8) a3) s21))) s
set_option maxRecDepth 100000 in
theorem gm_204 {L : Nat} {xs : Nat → Int32} {d : Nat} {a0 : Int} {a1 : Int} {a2 : Int} {a3 : Int} {Q : Int → lf_Z → Prop} {s : lf_Z} (h : fm_204 a0 a1 a2 a3 Q s) : lf_M (px_ro L xs) (d + 3) 204 [.int (Int32.ofInt a0), .int (Int32.ofInt a1), .int (Int32.ofInt a2), .int (Int32.ofInt a3)] s (lf_ql Q) := by
  unfold fm_204 at h
  show lf_E (px_ro L xs) (d + 3) 204 0 [(0, .int (Int32.ofInt a0)), (1, .int (Int32.ofInt a1)), (2, .int (Int32.ofInt a2)), (3, .int (Int32.ofInt a3))] [] s _
  refine lf_seg 3 (pc' := 3) (lv' := [(0, .int (Int32.ofInt a0)), (1, .int (Int32.ofInt a1)), (2, .int (Int32.ofInt a2)), (3, .int (Int32.ofInt a3))]) (st' := [.int (Int32.ofInt a2), .int (Int32.ofInt a1), .int (Int32.ofInt a0)]) rfl ?_
  refine lf_callL 6 rfl rfl rfl rfl (gm_205 h) (fun r22 s21 h => ?_)
  refine lf_wtL ?_
  refine lf_bipush 8 8 rfl rfl (by decide) (by decide) ?_
  refine lf_lshl' 9 rfl rfl ?_
  refine lf_seg 1 (pc' := 10) (lv' := [(0, .int (Int32.ofInt a0)), (1, .int (Int32.ofInt a1)), (2, .int (Int32.ofInt a2)), (3, .int (Int32.ofInt a3))]) (st' := [.int (Int32.ofInt a3), .long (Int64.ofInt (lf_lshl (lf_wl r22) 8))]) rfl ?_
  obtain ⟨o23, h⟩ := h
  refine lf_i2l 11 rfl rfl o23 ?_
  refine lf_lor' 12 rfl rfl ?_
  exact lf_retL rfl rfl h
-- fm_207 Model.isWord 95 l
def fm_207 (a1 : Int) (Q : Bool → lf_Z → Prop) (s : lf_Z) : Prop := lf_R (s.1 95 9) ∧ ((s.1 95 9 ≠ 2 → (Q false s)) ∧ (¬ (s.1 95 9 ≠ 2) → ((lf_wl (s.2.1 95 11) ≠ lf_wl a1 → (Q false s)) ∧ (¬ (lf_wl (s.2.1 95 11) ≠ lf_wl a1) → (Q true s)))))
set_option maxRecDepth 100000 in
theorem gm_207 {L : Nat} {xs : Nat → Int32} {d : Nat} {a1 : Int} {Q : Bool → lf_Z → Prop} {s : lf_Z} (h : fm_207 a1 Q s) : lf_M (px_ro L xs) (d + 1) 207 [.ref 95, .long (Int64.ofInt a1)] s (lf_qz Q) := by
  unfold fm_207 at h
  show lf_E (px_ro L xs) (d + 1) 207 0 [(0, .ref 95), (1, .long (Int64.ofInt a1))] [] s _
  refine lf_eqs (lv' := [(0, .ref 95), (1, .long (Int64.ofInt (lf_wl a1)))]) (st' := []) (by simp only [lf_wlE]) rfl ?_
  refine lf_seg 1 (pc' := 1) (lv' := [(0, .ref 95), (1, .long (Int64.ofInt (lf_wl a1)))]) (st' := [.ref 95]) rfl ?_
  refine lf_getI 4 9 rfl rfl rfl rfl rfl rfl rfl ?_
  refine lf_seg 1 (pc' := 5) (lv' := [(0, .ref 95), (1, .long (Int64.ofInt (lf_wl a1)))]) (st' := [.int (Int32.ofInt 2), .int (Int32.ofInt (s.1 95 9))]) rfl ?_
  obtain ⟨o21, h⟩ := h
  refine lf_icmp_ne 21 8 rfl rfl rfl o21 ⟨by decide, by decide⟩ (fun c => ?_) (fun c => ?_)
  · have h := h.1 c
    refine lf_seg 1 (pc' := 22) (lv' := [(0, .ref 95), (1, .long (Int64.ofInt (lf_wl a1)))]) (st' := [.int (Int32.ofInt 0)]) rfl ?_
    exact lf_retZ false rfl rfl h
  · have h := h.2 c
    refine lf_seg 1 (pc' := 9) (lv' := [(0, .ref 95), (1, .long (Int64.ofInt (lf_wl a1)))]) (st' := [.ref 95]) rfl ?_
    refine lf_getJ 12 11 rfl rfl rfl rfl rfl rfl rfl ?_
    refine lf_wtL ?_
    refine lf_seg 1 (pc' := 13) (lv' := [(0, .ref 95), (1, .long (Int64.ofInt (lf_wl a1)))]) (st' := [.long (Int64.ofInt (lf_wl a1)), .long (Int64.ofInt (lf_wl (s.2.1 95 11)))]) rfl ?_
    refine lf_lif_ne 21 17 rfl rfl rfl rfl lf_RLwl lf_RLwl (fun c => ?_) (fun c => ?_)
    · have h := h.1 c
      refine lf_seg 1 (pc' := 22) (lv' := [(0, .ref 95), (1, .long (Int64.ofInt (lf_wl a1)))]) (st' := [.int (Int32.ofInt 0)]) rfl ?_
      exact lf_retZ false rfl rfl h
    · have h := h.2 c
      refine lf_seg 2 (pc' := 22) (lv' := [(0, .ref 95), (1, .long (Int64.ofInt (lf_wl a1)))]) (st' := [.int (Int32.ofInt 1)]) rfl ?_
      exact lf_retZ true rfl rfl h
