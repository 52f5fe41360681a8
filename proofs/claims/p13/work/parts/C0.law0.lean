def fm_328_p1603 (L : Nat) (xs : Nat → Int32) (X18 : Int → lf_Z → Prop) (Q : Bool → lf_Z → Prop) (x3 : Int) (s : lf_Z) : Prop := X18 (x3 + 6) s
set_option maxRecDepth 100000 in
theorem gm_328_p1603 {L : Nat} {xs : Nat → Int32} {d : Nat} {X18 : Int → lf_Z → Prop} {Q : Bool → lf_Z → Prop} {x3 : Int} {s : lf_Z} (hL : L ≤ 3072) (hX18 : ∀ x3 s, X18 x3 s → lf_E (px_ro L xs) (d + 209) 328 18 [(0, .ref (px_SC + 0)), (1, .ref 0), (2, .ref 95), (3, .int (Int32.ofInt x3))] [] s (lf_qz Q)) (h : fm_328_p1603 L xs X18 Q x3 s) : lf_E (px_ro L xs) (d + 209) 328 1603 [(0, .ref (px_SC + 0)), (1, .ref 0), (2, .ref 95), (3, .int (Int32.ofInt x3))] [] s (lf_qz Q) := by
  unfold fm_328_p1603 at h
  refine lf_iinc 1606 rfl rfl rfl rfl ?_
  refine lf_seg 1 (pc' := 18) (lv' := [(3, .int (Int32.ofInt (x3 + 6))), (0, .ref (px_SC + 0)), (1, .ref 0), (2, .ref 95)]) (st' := []) rfl ?_
  refine lf_sub (l := [(0, .ref (px_SC + 0)), (1, .ref 0), (2, .ref 95), (3, .int (Int32.ofInt (x3 + 6)))]) (lf_sb1 rfl (lf_sb1 rfl (lf_sb1 rfl (lf_sb1 rfl lf_sb0)))) ?_
  exact hX18 _ _ h
def fm_328_p297 (L : Nat) (xs : Nat → Int32) (X18 : Int → lf_Z → Prop) (Q : Bool → lf_Z → Prop) (x3 : Int) (y1 : Int) (y2 : Int) (y3 : Int) (s : lf_Z) : Prop := fm_184 y1 y2 y3 (fun r39 s38 => (fm_328_p1603 L xs X18 Q x3 s38)) s
set_option maxRecDepth 100000 in
theorem gm_328_p297 {L : Nat} {xs : Nat → Int32} {d : Nat} {X18 : Int → lf_Z → Prop} {Q : Bool → lf_Z → Prop} {x3 : Int} {y1 : Int} {y2 : Int} {y3 : Int} {s : lf_Z} (hL : L ≤ 3072) (hX18 : ∀ x3 s, X18 x3 s → lf_E (px_ro L xs) (d + 209) 328 18 [(0, .ref (px_SC + 0)), (1, .ref 0), (2, .ref 95), (3, .int (Int32.ofInt x3))] [] s (lf_qz Q)) (h : fm_328_p297 L xs X18 Q x3 y1 y2 y3 s) : lf_E (px_ro L xs) (d + 209) 328 297 [(0, .ref (px_SC + 0)), (1, .ref 0), (2, .ref 95), (3, .int (Int32.ofInt x3))] [.int (Int32.ofInt y3), .int (Int32.ofInt y2), .int (Int32.ofInt y1), .ref 95] s (lf_qz Q) := by
  unfold fm_328_p297 at h
  refine lf_callI 300 rfl rfl rfl rfl (gm_184 h) (fun r39 s38 h => ?_)
  refine lf_seg 2 (pc' := 1603) (lv' := [(0, .ref (px_SC + 0)), (1, .ref 0), (2, .ref 95), (3, .int (Int32.ofInt x3))]) (st' := []) rfl ?_
  refine lf_sub (l := [(0, .ref (px_SC + 0)), (1, .ref 0), (2, .ref 95), (3, .int (Int32.ofInt x3))]) (lf_sb1 rfl (lf_sb1 rfl (lf_sb1 rfl (lf_sb1 rfl lf_sb0)))) ?_
  exact gm_328_p1603 hL hX18 h
def fm_328_p269 (L : Nat) (xs : Nat → Int32) (X18 : Int → lf_Z → Prop) (Q : Bool → lf_Z → Prop) (x3 : Int) (y1 : Int) (y2 : Int) (y3 : Int) (s : lf_Z) : Prop := fm_17 y1 y2 y3 (fun r34 s33 => ((0 ≤ x3 + 1 ∧ x3 + 1 < (L : Int)) ∧ ((0 ≤ x3 + 2 ∧ x3 + 2 < (L : Int)) ∧ ((0 ≤ x3 + 3 ∧ x3 + 3 < (L : Int)) ∧ (((xs (x3 + 3).toNat).toInt = 0 → (fm_328_p297 L xs X18 Q x3 ((xs (x3 + 1).toNat).toInt) ((xs (x3 + 2).toNat).toInt) 0 s33)) ∧ (¬ ((xs (x3 + 3).toNat).toInt = 0) → (fm_328_p297 L xs X18 Q x3 ((xs (x3 + 1).toNat).toInt) ((xs (x3 + 2).toNat).toInt) 1 s33))))))) s
set_option maxRecDepth 100000 in
theorem gm_328_p269 {L : Nat} {xs : Nat → Int32} {d : Nat} {X18 : Int → lf_Z → Prop} {Q : Bool → lf_Z → Prop} {x3 : Int} {y1 : Int} {y2 : Int} {y3 : Int} {s : lf_Z} (hL : L ≤ 3072) (hX18 : ∀ x3 s, X18 x3 s → lf_E (px_ro L xs) (d + 209) 328 18 [(0, .ref (px_SC + 0)), (1, .ref 0), (2, .ref 95), (3, .int (Int32.ofInt x3))] [] s (lf_qz Q)) (h : fm_328_p269 L xs X18 Q x3 y1 y2 y3 s) : lf_E (px_ro L xs) (d + 209) 328 269 [(0, .ref (px_SC + 0)), (1, .ref 0), (2, .ref 95), (3, .int (Int32.ofInt x3))] [.int (Int32.ofInt y3), .int (Int32.ofInt y2), .int (Int32.ofInt y1), .ref 0] s (lf_qz Q) := by
  unfold fm_328_p269 at h
  refine lf_callI 272 rfl rfl rfl rfl (gm_17 h) (fun r34 s33 h => ?_)
  refine lf_seg 5 (pc' := 277) (lv' := [(0, .ref (px_SC + 0)), (1, .ref 0), (2, .ref 95), (3, .int (Int32.ofInt x3))]) (st' := [.int (Int32.ofInt 1), .int (Int32.ofInt x3), .ref (px_SC + 0), .ref 95]) rfl ?_
  refine lf_iadd 278 rfl rfl ?_
  obtain ⟨o35, h⟩ := h
  refine lf_iro 279 0 L (L : Int) rfl rfl rfl rfl (Nat.ble_eq_true_of_le (by omega)) o35 ?_
  refine lf_seg 3 (pc' := 282) (lv' := [(0, .ref (px_SC + 0)), (1, .ref 0), (2, .ref 95), (3, .int (Int32.ofInt x3))]) (st' := [.int (Int32.ofInt 2), .int (Int32.ofInt x3), .ref (px_SC + 0), .int (Int32.ofInt ((xs (x3 + 1).toNat).toInt)), .ref 95]) rfl ?_
  refine lf_iadd 283 rfl rfl ?_
  obtain ⟨o36, h⟩ := h
  refine lf_iro 284 0 L (L : Int) rfl rfl rfl rfl (Nat.ble_eq_true_of_le (by omega)) o36 ?_
  refine lf_seg 3 (pc' := 287) (lv' := [(0, .ref (px_SC + 0)), (1, .ref 0), (2, .ref 95), (3, .int (Int32.ofInt x3))]) (st' := [.int (Int32.ofInt 3), .int (Int32.ofInt x3), .ref (px_SC + 0), .int (Int32.ofInt ((xs (x3 + 2).toNat).toInt)), .int (Int32.ofInt ((xs (x3 + 1).toNat).toInt)), .ref 95]) rfl ?_
  refine lf_iadd 288 rfl rfl ?_
  obtain ⟨o37, h⟩ := h
  refine lf_iro 289 0 L (L : Int) rfl rfl rfl rfl (Nat.ble_eq_true_of_le (by omega)) o37 ?_
  refine lf_if_eq 296 292 rfl rfl rfl (lf_R_i _) (fun c => ?_) (fun c => ?_)
  · have h := h.1 c
    refine lf_seg 1 (pc' := 297) (lv' := [(0, .ref (px_SC + 0)), (1, .ref 0), (2, .ref 95), (3, .int (Int32.ofInt x3))]) (st' := [.int (Int32.ofInt 0), .int (Int32.ofInt ((xs (x3 + 2).toNat).toInt)), .int (Int32.ofInt ((xs (x3 + 1).toNat).toInt)), .ref 95]) rfl ?_
    refine lf_sub (l := [(0, .ref (px_SC + 0)), (1, .ref 0), (2, .ref 95), (3, .int (Int32.ofInt x3))]) (lf_sb1 rfl (lf_sb1 rfl (lf_sb1 rfl (lf_sb1 rfl lf_sb0)))) ?_
    exact gm_328_p297 hL hX18 h
  · have h := h.2 c
    refine lf_seg 2 (pc' := 297) (lv' := [(0, .ref (px_SC + 0)), (1, .ref 0), (2, .ref 95), (3, .int (Int32.ofInt x3))]) (st' := [.int (Int32.ofInt 1), .int (Int32.ofInt ((xs (x3 + 2).toNat).toInt)), .int (Int32.ofInt ((xs (x3 + 1).toNat).toInt)), .ref 95]) rfl ?_
    refine lf_sub (l := [(0, .ref (px_SC + 0)), (1, .ref 0), (2, .ref 95), (3, .int (Int32.ofInt x3))]) (lf_sb1 rfl (lf_sb1 rfl (lf_sb1 rfl (lf_sb1 rfl lf_sb0)))) ?_
    exact gm_328_p297 hL hX18 h
def fm_328_p377 (L : Nat) (xs : Nat → Int32) (X18 : Int → lf_Z → Prop) (Q : Bool → lf_Z → Prop) (x3 : Int) (y1 : Int) (y2 : Int) (y3 : Int) (s : lf_Z) : Prop := (0 ≤ x3 + 4 ∧ x3 + 4 < (L : Int)) ∧ (fm_189 y1 y2 y3 ((xs (x3 + 4).toNat).toInt) (fun r51 s50 => (fm_328_p1603 L xs X18 Q x3 s50)) s)
set_option maxRecDepth 100000 in
theorem gm_328_p377 {L : Nat} {xs : Nat → Int32} {d : Nat} {X18 : Int → lf_Z → Prop} {Q : Bool → lf_Z → Prop} {x3 : Int} {y1 : Int} {y2 : Int} {y3 : Int} {s : lf_Z} (hL : L ≤ 3072) (hX18 : ∀ x3 s, X18 x3 s → lf_E (px_ro L xs) (d + 209) 328 18 [(0, .ref (px_SC + 0)), (1, .ref 0), (2, .ref 95), (3, .int (Int32.ofInt x3))] [] s (lf_qz Q)) (h : fm_328_p377 L xs X18 Q x3 y1 y2 y3 s) : lf_E (px_ro L xs) (d + 209) 328 377 [(0, .ref (px_SC + 0)), (1, .ref 0), (2, .ref 95), (3, .int (Int32.ofInt x3))] [.int (Int32.ofInt y3), .int (Int32.ofInt y2), .int (Int32.ofInt y1), .ref 95] s (lf_qz Q) := by
  unfold fm_328_p377 at h
  refine lf_seg 3 (pc' := 380) (lv' := [(0, .ref (px_SC + 0)), (1, .ref 0), (2, .ref 95), (3, .int (Int32.ofInt x3))]) (st' := [.int (Int32.ofInt 4), .int (Int32.ofInt x3), .ref (px_SC + 0), .int (Int32.ofInt y3), .int (Int32.ofInt y2), .int (Int32.ofInt y1), .ref 95]) rfl ?_
  refine lf_iadd 381 rfl rfl ?_
  obtain ⟨o49, h⟩ := h
  refine lf_iro 382 0 L (L : Int) rfl rfl rfl rfl (Nat.ble_eq_true_of_le (by omega)) o49 ?_
  refine lf_callI 385 rfl rfl rfl rfl (gm_189 h) (fun r51 s50 h => ?_)
  refine lf_seg 2 (pc' := 1603) (lv' := [(0, .ref (px_SC + 0)), (1, .ref 0), (2, .ref 95), (3, .int (Int32.ofInt x3))]) (st' := []) rfl ?_
  refine lf_sub (l := [(0, .ref (px_SC + 0)), (1, .ref 0), (2, .ref 95), (3, .int (Int32.ofInt x3))]) (lf_sb1 rfl (lf_sb1 rfl (lf_sb1 rfl (lf_sb1 rfl lf_sb0)))) ?_
  exact gm_328_p1603 hL hX18 h
def fm_328_p364 (L : Nat) (xs : Nat → Int32) (X18 : Int → lf_Z → Prop) (Q : Bool → lf_Z → Prop) (x3 : Int) (y1 : Int) (y2 : Int) (s : lf_Z) : Prop := (0 ≤ x3 + 3 ∧ x3 + 3 < (L : Int)) ∧ (((xs (x3 + 3).toNat).toInt = 0 → (fm_328_p377 L xs X18 Q x3 y1 y2 0 s)) ∧ (¬ ((xs (x3 + 3).toNat).toInt = 0) → (fm_328_p377 L xs X18 Q x3 y1 y2 1 s)))
set_option maxRecDepth 100000 in
theorem gm_328_p364 {L : Nat} {xs : Nat → Int32} {d : Nat} {X18 : Int → lf_Z → Prop} {Q : Bool → lf_Z → Prop} {x3 : Int} {y1 : Int} {y2 : Int} {s : lf_Z} (hL : L ≤ 3072) (hX18 : ∀ x3 s, X18 x3 s → lf_E (px_ro L xs) (d + 209) 328 18 [(0, .ref (px_SC + 0)), (1, .ref 0), (2, .ref 95), (3, .int (Int32.ofInt x3))] [] s (lf_qz Q)) (h : fm_328_p364 L xs X18 Q x3 y1 y2 s) : lf_E (px_ro L xs) (d + 209) 328 364 [(0, .ref (px_SC + 0)), (1, .ref 0), (2, .ref 95), (3, .int (Int32.ofInt x3))] [.int (Int32.ofInt y2), .int (Int32.ofInt y1), .ref 95] s (lf_qz Q) := by
  unfold fm_328_p364 at h
  refine lf_seg 3 (pc' := 367) (lv' := [(0, .ref (px_SC + 0)), (1, .ref 0), (2, .ref 95), (3, .int (Int32.ofInt x3))]) (st' := [.int (Int32.ofInt 3), .int (Int32.ofInt x3), .ref (px_SC + 0), .int (Int32.ofInt y2), .int (Int32.ofInt y1), .ref 95]) rfl ?_
  refine lf_iadd 368 rfl rfl ?_
  obtain ⟨o48, h⟩ := h
  refine lf_iro 369 0 L (L : Int) rfl rfl rfl rfl (Nat.ble_eq_true_of_le (by omega)) o48 ?_
  refine lf_if_eq 376 372 rfl rfl rfl (lf_R_i _) (fun c => ?_) (fun c => ?_)
  · have h := h.1 c
    refine lf_seg 1 (pc' := 377) (lv' := [(0, .ref (px_SC + 0)), (1, .ref 0), (2, .ref 95), (3, .int (Int32.ofInt x3))]) (st' := [.int (Int32.ofInt 0), .int (Int32.ofInt y2), .int (Int32.ofInt y1), .ref 95]) rfl ?_
    refine lf_sub (l := [(0, .ref (px_SC + 0)), (1, .ref 0), (2, .ref 95), (3, .int (Int32.ofInt x3))]) (lf_sb1 rfl (lf_sb1 rfl (lf_sb1 rfl (lf_sb1 rfl lf_sb0)))) ?_
    exact gm_328_p377 hL hX18 h
  · have h := h.2 c
    refine lf_seg 2 (pc' := 377) (lv' := [(0, .ref (px_SC + 0)), (1, .ref 0), (2, .ref 95), (3, .int (Int32.ofInt x3))]) (st' := [.int (Int32.ofInt 1), .int (Int32.ofInt y2), .int (Int32.ofInt y1), .ref 95]) rfl ?_
    refine lf_sub (l := [(0, .ref (px_SC + 0)), (1, .ref 0), (2, .ref 95), (3, .int (Int32.ofInt x3))]) (lf_sb1 rfl (lf_sb1 rfl (lf_sb1 rfl (lf_sb1 rfl lf_sb0)))) ?_
    exact gm_328_p377 hL hX18 h
def fm_328_p336 (L : Nat) (xs : Nat → Int32) (X18 : Int → lf_Z → Prop) (Q : Bool → lf_Z → Prop) (x3 : Int) (y1 : Int) (y2 : Int) (y3 : Int) (s : lf_Z) : Prop := (0 ≤ x3 + 4 ∧ x3 + 4 < (L : Int)) ∧ (fm_23 y1 y2 y3 ((xs (x3 + 4).toNat).toInt) (fun r45 s44 => ((0 ≤ x3 + 1 ∧ x3 + 1 < (L : Int)) ∧ ((0 ≤ x3 + 2 ∧ x3 + 2 < (L : Int)) ∧ (((xs (x3 + 2).toNat).toInt = 0 → (fm_328_p364 L xs X18 Q x3 ((xs (x3 + 1).toNat).toInt) 0 s44)) ∧ (¬ ((xs (x3 + 2).toNat).toInt = 0) → (fm_328_p364 L xs X18 Q x3 ((xs (x3 + 1).toNat).toInt) 1 s44)))))) s)
set_option maxRecDepth 100000 in
theorem gm_328_p336 {L : Nat} {xs : Nat → Int32} {d : Nat} {X18 : Int → lf_Z → Prop} {Q : Bool → lf_Z → Prop} {x3 : Int} {y1 : Int} {y2 : Int} {y3 : Int} {s : lf_Z} (hL : L ≤ 3072) (hX18 : ∀ x3 s, X18 x3 s → lf_E (px_ro L xs) (d + 209) 328 18 [(0, .ref (px_SC + 0)), (1, .ref 0), (2, .ref 95), (3, .int (Int32.ofInt x3))] [] s (lf_qz Q)) (h : fm_328_p336 L xs X18 Q x3 y1 y2 y3 s) : lf_E (px_ro L xs) (d + 209) 328 336 [(0, .ref (px_SC + 0)), (1, .ref 0), (2, .ref 95), (3, .int (Int32.ofInt x3))] [.int (Int32.ofInt y3), .int (Int32.ofInt y2), .int (Int32.ofInt y1), .ref 0] s (lf_qz Q) := by
  unfold fm_328_p336 at h
  refine lf_seg 3 (pc' := 339) (lv' := [(0, .ref (px_SC + 0)), (1, .ref 0), (2, .ref 95), (3, .int (Int32.ofInt x3))]) (st' := [.int (Int32.ofInt 4), .int (Int32.ofInt x3), .ref (px_SC + 0), .int (Int32.ofInt y3), .int (Int32.ofInt y2), .int (Int32.ofInt y1), .ref 0]) rfl ?_
  refine lf_iadd 340 rfl rfl ?_
  obtain ⟨o43, h⟩ := h
  refine lf_iro 341 0 L (L : Int) rfl rfl rfl rfl (Nat.ble_eq_true_of_le (by omega)) o43 ?_
  refine lf_callI 344 rfl rfl rfl rfl (gm_23 h) (fun r45 s44 h => ?_)
  refine lf_seg 5 (pc' := 349) (lv' := [(0, .ref (px_SC + 0)), (1, .ref 0), (2, .ref 95), (3, .int (Int32.ofInt x3))]) (st' := [.int (Int32.ofInt 1), .int (Int32.ofInt x3), .ref (px_SC + 0), .ref 95]) rfl ?_
  refine lf_iadd 350 rfl rfl ?_
  obtain ⟨o46, h⟩ := h
  refine lf_iro 351 0 L (L : Int) rfl rfl rfl rfl (Nat.ble_eq_true_of_le (by omega)) o46 ?_
  refine lf_seg 3 (pc' := 354) (lv' := [(0, .ref (px_SC + 0)), (1, .ref 0), (2, .ref 95), (3, .int (Int32.ofInt x3))]) (st' := [.int (Int32.ofInt 2), .int (Int32.ofInt x3), .ref (px_SC + 0), .int (Int32.ofInt ((xs (x3 + 1).toNat).toInt)), .ref 95]) rfl ?_
  refine lf_iadd 355 rfl rfl ?_
  obtain ⟨o47, h⟩ := h
  refine lf_iro 356 0 L (L : Int) rfl rfl rfl rfl (Nat.ble_eq_true_of_le (by omega)) o47 ?_
  refine lf_if_eq 363 359 rfl rfl rfl (lf_R_i _) (fun c => ?_) (fun c => ?_)
  · have h := h.1 c
    refine lf_seg 1 (pc' := 364) (lv' := [(0, .ref (px_SC + 0)), (1, .ref 0), (2, .ref 95), (3, .int (Int32.ofInt x3))]) (st' := [.int (Int32.ofInt 0), .int (Int32.ofInt ((xs (x3 + 1).toNat).toInt)), .ref 95]) rfl ?_
    refine lf_sub (l := [(0, .ref (px_SC + 0)), (1, .ref 0), (2, .ref 95), (3, .int (Int32.ofInt x3))]) (lf_sb1 rfl (lf_sb1 rfl (lf_sb1 rfl (lf_sb1 rfl lf_sb0)))) ?_
    exact gm_328_p364 hL hX18 h
  · have h := h.2 c
    refine lf_seg 2 (pc' := 364) (lv' := [(0, .ref (px_SC + 0)), (1, .ref 0), (2, .ref 95), (3, .int (Int32.ofInt x3))]) (st' := [.int (Int32.ofInt 1), .int (Int32.ofInt ((xs (x3 + 1).toNat).toInt)), .ref 95]) rfl ?_
    refine lf_sub (l := [(0, .ref (px_SC + 0)), (1, .ref 0), (2, .ref 95), (3, .int (Int32.ofInt x3))]) (lf_sb1 rfl (lf_sb1 rfl (lf_sb1 rfl (lf_sb1 rfl lf_sb0)))) ?_
    exact gm_328_p364 hL hX18 h
def fm_328_p323 (L : Nat) (xs : Nat → Int32) (X18 : Int → lf_Z → Prop) (Q : Bool → lf_Z → Prop) (x3 : Int) (y1 : Int) (y2 : Int) (s : lf_Z) : Prop := (0 ≤ x3 + 3 ∧ x3 + 3 < (L : Int)) ∧ (((xs (x3 + 3).toNat).toInt = 0 → (fm_328_p336 L xs X18 Q x3 y1 y2 0 s)) ∧ (¬ ((xs (x3 + 3).toNat).toInt = 0) → (fm_328_p336 L xs X18 Q x3 y1 y2 1 s)))
set_option maxRecDepth 100000 in
theorem gm_328_p323 {L : Nat} {xs : Nat → Int32} {d : Nat} {X18 : Int → lf_Z → Prop} {Q : Bool → lf_Z → Prop} {x3 : Int} {y1 : Int} {y2 : Int} {s : lf_Z} (hL : L ≤ 3072) (hX18 : ∀ x3 s, X18 x3 s → lf_E (px_ro L xs) (d + 209) 328 18 [(0, .ref (px_SC + 0)), (1, .ref 0), (2, .ref 95), (3, .int (Int32.ofInt x3))] [] s (lf_qz Q)) (h : fm_328_p323 L xs X18 Q x3 y1 y2 s) : lf_E (px_ro L xs) (d + 209) 328 323 [(0, .ref (px_SC + 0)), (1, .ref 0), (2, .ref 95), (3, .int (Int32.ofInt x3))] [.int (Int32.ofInt y2), .int (Int32.ofInt y1), .ref 0] s (lf_qz Q) := by
  unfold fm_328_p323 at h
  refine lf_seg 3 (pc' := 326) (lv' := [(0, .ref (px_SC + 0)), (1, .ref 0), (2, .ref 95), (3, .int (Int32.ofInt x3))]) (st' := [.int (Int32.ofInt 3), .int (Int32.ofInt x3), .ref (px_SC + 0), .int (Int32.ofInt y2), .int (Int32.ofInt y1), .ref 0]) rfl ?_
  refine lf_iadd 327 rfl rfl ?_
  obtain ⟨o42, h⟩ := h
  refine lf_iro 328 0 L (L : Int) rfl rfl rfl rfl (Nat.ble_eq_true_of_le (by omega)) o42 ?_
  refine lf_if_eq 335 331 rfl rfl rfl (lf_R_i _) (fun c => ?_) (fun c => ?_)
  · have h := h.1 c
    refine lf_seg 1 (pc' := 336) (lv' := [(0, .ref (px_SC + 0)), (1, .ref 0), (2, .ref 95), (3, .int (Int32.ofInt x3))]) (st' := [.int (Int32.ofInt 0), .int (Int32.ofInt y2), .int (Int32.ofInt y1), .ref 0]) rfl ?_
    refine lf_sub (l := [(0, .ref (px_SC + 0)), (1, .ref 0), (2, .ref 95), (3, .int (Int32.ofInt x3))]) (lf_sb1 rfl (lf_sb1 rfl (lf_sb1 rfl (lf_sb1 rfl lf_sb0)))) ?_
    exact gm_328_p336 hL hX18 h
  · have h := h.2 c
    refine lf_seg 2 (pc' := 336) (lv' := [(0, .ref (px_SC + 0)), (1, .ref 0), (2, .ref 95), (3, .int (Int32.ofInt x3))]) (st' := [.int (Int32.ofInt 1), .int (Int32.ofInt y2), .int (Int32.ofInt y1), .ref 0]) rfl ?_
    refine lf_sub (l := [(0, .ref (px_SC + 0)), (1, .ref 0), (2, .ref 95), (3, .int (Int32.ofInt x3))]) (lf_sb1 rfl (lf_sb1 rfl (lf_sb1 rfl (lf_sb1 rfl lf_sb0)))) ?_
    exact gm_328_p336 hL hX18 h
def fm_328_p664 (L : Nat) (xs : Nat → Int32) (X18 : Int → lf_Z → Prop) (Q : Bool → lf_Z → Prop) (x3 : Int) (y0 : Int) (y2 : Int) (y3 : Int) (s : lf_Z) : Prop := fm_250 y2 y3 (fun z104 s103 => (lf_R y0 ∧ ((y0 = lf_b z104 → (fm_328_p1603 L xs X18 Q x3 s103)) ∧ (¬ (y0 = lf_b z104) → (Q false s103))))) s
set_option maxRecDepth 100000 in
theorem gm_328_p664 {L : Nat} {xs : Nat → Int32} {d : Nat} {X18 : Int → lf_Z → Prop} {Q : Bool → lf_Z → Prop} {x3 : Int} {y0 : Int} {y2 : Int} {y3 : Int} {s : lf_Z} (hL : L ≤ 3072) (hX18 : ∀ x3 s, X18 x3 s → lf_E (px_ro L xs) (d + 209) 328 18 [(0, .ref (px_SC + 0)), (1, .ref 0), (2, .ref 95), (3, .int (Int32.ofInt x3))] [] s (lf_qz Q)) (h : fm_328_p664 L xs X18 Q x3 y0 y2 y3 s) : lf_E (px_ro L xs) (d + 209) 328 664 [(0, .ref (px_SC + 0)), (1, .ref 0), (2, .ref 95), (3, .int (Int32.ofInt x3))] [.int (Int32.ofInt y3), .int (Int32.ofInt y2), .ref 95, .int (Int32.ofInt y0)] s (lf_qz Q) := by
  unfold fm_328_p664 at h
  refine lf_callZ 667 rfl rfl rfl rfl (gm_250 h) (fun z104 s103 h => ?_)
  obtain ⟨o105, h⟩ := h
  refine lf_icmp_eq 1603 670 rfl rfl rfl o105 lf_Rb (fun c => ?_) (fun c => ?_)
  · have h := h.1 c
    refine lf_sub (l := [(0, .ref (px_SC + 0)), (1, .ref 0), (2, .ref 95), (3, .int (Int32.ofInt x3))]) (lf_sb1 rfl (lf_sb1 rfl (lf_sb1 rfl (lf_sb1 rfl lf_sb0)))) ?_
    exact gm_328_p1603 hL hX18 h
  · have h := h.2 c
    refine lf_seg 1 (pc' := 671) (lv' := [(0, .ref (px_SC + 0)), (1, .ref 0), (2, .ref 95), (3, .int (Int32.ofInt x3))]) (st' := [.int (Int32.ofInt 0)]) rfl ?_
    exact lf_retZ false rfl rfl h
def fm_328_p642 (L : Nat) (xs : Nat → Int32) (X18 : Int → lf_Z → Prop) (Q : Bool → lf_Z → Prop) (x3 : Int) (y1 : Int) (y2 : Int) (s : lf_Z) : Prop := fm_100 y1 y2 (fun z100 s99 => ((0 ≤ x3 + 1 ∧ x3 + 1 < (L : Int)) ∧ ((0 ≤ x3 + 2 ∧ x3 + 2 < (L : Int)) ∧ (((xs (x3 + 2).toNat).toInt = 0 → (fm_328_p664 L xs X18 Q x3 (lf_b z100) ((xs (x3 + 1).toNat).toInt) 0 s99)) ∧ (¬ ((xs (x3 + 2).toNat).toInt = 0) → (fm_328_p664 L xs X18 Q x3 (lf_b z100) ((xs (x3 + 1).toNat).toInt) 1 s99)))))) s
set_option maxRecDepth 100000 in
theorem gm_328_p642 {L : Nat} {xs : Nat → Int32} {d : Nat} {X18 : Int → lf_Z → Prop} {Q : Bool → lf_Z → Prop} {x3 : Int} {y1 : Int} {y2 : Int} {s : lf_Z} (hL : L ≤ 3072) (hX18 : ∀ x3 s, X18 x3 s → lf_E (px_ro L xs) (d + 209) 328 18 [(0, .ref (px_SC + 0)), (1, .ref 0), (2, .ref 95), (3, .int (Int32.ofInt x3))] [] s (lf_qz Q)) (h : fm_328_p642 L xs X18 Q x3 y1 y2 s) : lf_E (px_ro L xs) (d + 209) 328 642 [(0, .ref (px_SC + 0)), (1, .ref 0), (2, .ref 95), (3, .int (Int32.ofInt x3))] [.int (Int32.ofInt y2), .int (Int32.ofInt y1), .ref 0] s (lf_qz Q) := by
  unfold fm_328_p642 at h
  refine lf_callZ 645 rfl rfl rfl rfl (gm_100 h) (fun z100 s99 h => ?_)
  refine lf_seg 4 (pc' := 649) (lv' := [(0, .ref (px_SC + 0)), (1, .ref 0), (2, .ref 95), (3, .int (Int32.ofInt x3))]) (st' := [.int (Int32.ofInt 1), .int (Int32.ofInt x3), .ref (px_SC + 0), .ref 95, .int (Int32.ofInt (lf_b z100))]) rfl ?_
  refine lf_iadd 650 rfl rfl ?_
  obtain ⟨o101, h⟩ := h
  refine lf_iro 651 0 L (L : Int) rfl rfl rfl rfl (Nat.ble_eq_true_of_le (by omega)) o101 ?_
  refine lf_seg 3 (pc' := 654) (lv' := [(0, .ref (px_SC + 0)), (1, .ref 0), (2, .ref 95), (3, .int (Int32.ofInt x3))]) (st' := [.int (Int32.ofInt 2), .int (Int32.ofInt x3), .ref (px_SC + 0), .int (Int32.ofInt ((xs (x3 + 1).toNat).toInt)), .ref 95, .int (Int32.ofInt (lf_b z100))]) rfl ?_
  refine lf_iadd 655 rfl rfl ?_
  obtain ⟨o102, h⟩ := h
  refine lf_iro 656 0 L (L : Int) rfl rfl rfl rfl (Nat.ble_eq_true_of_le (by omega)) o102 ?_
  refine lf_if_eq 663 659 rfl rfl rfl (lf_R_i _) (fun c => ?_) (fun c => ?_)
  · have h := h.1 c
    refine lf_seg 1 (pc' := 664) (lv' := [(0, .ref (px_SC + 0)), (1, .ref 0), (2, .ref 95), (3, .int (Int32.ofInt x3))]) (st' := [.int (Int32.ofInt 0), .int (Int32.ofInt ((xs (x3 + 1).toNat).toInt)), .ref 95, .int (Int32.ofInt (lf_b z100))]) rfl ?_
    refine lf_sub (l := [(0, .ref (px_SC + 0)), (1, .ref 0), (2, .ref 95), (3, .int (Int32.ofInt x3))]) (lf_sb1 rfl (lf_sb1 rfl (lf_sb1 rfl (lf_sb1 rfl lf_sb0)))) ?_
    exact gm_328_p664 hL hX18 h
  · have h := h.2 c
    refine lf_seg 2 (pc' := 664) (lv' := [(0, .ref (px_SC + 0)), (1, .ref 0), (2, .ref 95), (3, .int (Int32.ofInt x3))]) (st' := [.int (Int32.ofInt 1), .int (Int32.ofInt ((xs (x3 + 1).toNat).toInt)), .ref 95, .int (Int32.ofInt (lf_b z100))]) rfl ?_
    refine lf_sub (l := [(0, .ref (px_SC + 0)), (1, .ref 0), (2, .ref 95), (3, .int (Int32.ofInt x3))]) (lf_sb1 rfl (lf_sb1 rfl (lf_sb1 rfl (lf_sb1 rfl lf_sb0)))) ?_
    exact gm_328_p664 hL hX18 h
def fm_328_p1001 (L : Nat) (xs : Nat → Int32) (X18 : Int → lf_Z → Prop) (Q : Bool → lf_Z → Prop) (x3 : Int) (y1 : Int) (y2 : Int) (y3 : Int) (y4 : Int) (s : lf_Z) : Prop := fm_289 y1 y2 y3 y4 (fun r168 s167 => (fm_328_p1603 L xs X18 Q x3 s167)) s
set_option maxRecDepth 100000 in
theorem gm_328_p1001 {L : Nat} {xs : Nat → Int32} {d : Nat} {X18 : Int → lf_Z → Prop} {Q : Bool → lf_Z → Prop} {x3 : Int} {y1 : Int} {y2 : Int} {y3 : Int} {y4 : Int} {s : lf_Z} (hL : L ≤ 3072) (hX18 : ∀ x3 s, X18 x3 s → lf_E (px_ro L xs) (d + 209) 328 18 [(0, .ref (px_SC + 0)), (1, .ref 0), (2, .ref 95), (3, .int (Int32.ofInt x3))] [] s (lf_qz Q)) (h : fm_328_p1001 L xs X18 Q x3 y1 y2 y3 y4 s) : lf_E (px_ro L xs) (d + 209) 328 1001 [(0, .ref (px_SC + 0)), (1, .ref 0), (2, .ref 95), (3, .int (Int32.ofInt x3))] [.int (Int32.ofInt y4), .int (Int32.ofInt y3), .int (Int32.ofInt y2), .int (Int32.ofInt y1), .ref 95] s (lf_qz Q) := by
  unfold fm_328_p1001 at h
  refine lf_callL 1004 rfl rfl rfl rfl (gm_289 h) (fun r168 s167 h => ?_)
  refine lf_wtL ?_
  refine lf_seg 2 (pc' := 1603) (lv' := [(0, .ref (px_SC + 0)), (1, .ref 0), (2, .ref 95), (3, .int (Int32.ofInt x3))]) (st' := []) rfl ?_
  refine lf_sub (l := [(0, .ref (px_SC + 0)), (1, .ref 0), (2, .ref 95), (3, .int (Int32.ofInt x3))]) (lf_sb1 rfl (lf_sb1 rfl (lf_sb1 rfl (lf_sb1 rfl lf_sb0)))) ?_
  exact gm_328_p1603 hL hX18 h
def fm_328_p968 (L : Nat) (xs : Nat → Int32) (X18 : Int → lf_Z → Prop) (Q : Bool → lf_Z → Prop) (x3 : Int) (y1 : Int) (y2 : Int) (y3 : Int) (y4 : Int) (s : lf_Z) : Prop := fm_116 y1 y2 y3 y4 (fun r162 s161 => ((0 ≤ x3 + 1 ∧ x3 + 1 < (L : Int)) ∧ ((0 ≤ x3 + 2 ∧ x3 + 2 < (L : Int)) ∧ ((0 ≤ x3 + 3 ∧ x3 + 3 < (L : Int)) ∧ ((0 ≤ x3 + 4 ∧ x3 + 4 < (L : Int)) ∧ (((xs (x3 + 4).toNat).toInt = 0 → (fm_328_p1001 L xs X18 Q x3 ((xs (x3 + 1).toNat).toInt) ((xs (x3 + 2).toNat).toInt) ((xs (x3 + 3).toNat).toInt) 0 s161)) ∧ (¬ ((xs (x3 + 4).toNat).toInt = 0) → (fm_328_p1001 L xs X18 Q x3 ((xs (x3 + 1).toNat).toInt) ((xs (x3 + 2).toNat).toInt) ((xs (x3 + 3).toNat).toInt) 1 s161)))))))) s
set_option maxRecDepth 100000 in
theorem gm_328_p968 {L : Nat} {xs : Nat → Int32} {d : Nat} {X18 : Int → lf_Z → Prop} {Q : Bool → lf_Z → Prop} {x3 : Int} {y1 : Int} {y2 : Int} {y3 : Int} {y4 : Int} {s : lf_Z} (hL : L ≤ 3072) (hX18 : ∀ x3 s, X18 x3 s → lf_E (px_ro L xs) (d + 209) 328 18 [(0, .ref (px_SC + 0)), (1, .ref 0), (2, .ref 95), (3, .int (Int32.ofInt x3))] [] s (lf_qz Q)) (h : fm_328_p968 L xs X18 Q x3 y1 y2 y3 y4 s) : lf_E (px_ro L xs) (d + 209) 328 968 [(0, .ref (px_SC + 0)), (1, .ref 0), (2, .ref 95), (3, .int (Int32.ofInt x3))] [.int (Int32.ofInt y4), .int (Int32.ofInt y3), .int (Int32.ofInt y2), .int (Int32.ofInt y1), .ref 0] s (lf_qz Q) := by
  unfold fm_328_p968 at h
  refine lf_callL 971 rfl rfl rfl rfl (gm_116 h) (fun r162 s161 h => ?_)
  refine lf_wtL ?_
  refine lf_seg 5 (pc' := 976) (lv' := [(0, .ref (px_SC + 0)), (1, .ref 0), (2, .ref 95), (3, .int (Int32.ofInt x3))]) (st' := [.int (Int32.ofInt 1), .int (Int32.ofInt x3), .ref (px_SC + 0), .ref 95]) rfl ?_
  refine lf_iadd 977 rfl rfl ?_
  obtain ⟨o163, h⟩ := h
  refine lf_iro 978 0 L (L : Int) rfl rfl rfl rfl (Nat.ble_eq_true_of_le (by omega)) o163 ?_
  refine lf_seg 3 (pc' := 981) (lv' := [(0, .ref (px_SC + 0)), (1, .ref 0), (2, .ref 95), (3, .int (Int32.ofInt x3))]) (st' := [.int (Int32.ofInt 2), .int (Int32.ofInt x3), .ref (px_SC + 0), .int (Int32.ofInt ((xs (x3 + 1).toNat).toInt)), .ref 95]) rfl ?_
  refine lf_iadd 982 rfl rfl ?_
  obtain ⟨o164, h⟩ := h
  refine lf_iro 983 0 L (L : Int) rfl rfl rfl rfl (Nat.ble_eq_true_of_le (by omega)) o164 ?_
  refine lf_seg 3 (pc' := 986) (lv' := [(0, .ref (px_SC + 0)), (1, .ref 0), (2, .ref 95), (3, .int (Int32.ofInt x3))]) (st' := [.int (Int32.ofInt 3), .int (Int32.ofInt x3), .ref (px_SC + 0), .int (Int32.ofInt ((xs (x3 + 2).toNat).toInt)), .int (Int32.ofInt ((xs (x3 + 1).toNat).toInt)), .ref 95]) rfl ?_
  refine lf_iadd 987 rfl rfl ?_
  obtain ⟨o165, h⟩ := h
  refine lf_iro 988 0 L (L : Int) rfl rfl rfl rfl (Nat.ble_eq_true_of_le (by omega)) o165 ?_
  refine lf_seg 3 (pc' := 991) (lv' := [(0, .ref (px_SC + 0)), (1, .ref 0), (2, .ref 95), (3, .int (Int32.ofInt x3))]) (st' := [.int (Int32.ofInt 4), .int (Int32.ofInt x3), .ref (px_SC + 0), .int (Int32.ofInt ((xs (x3 + 3).toNat).toInt)), .int (Int32.ofInt ((xs (x3 + 2).toNat).toInt)), .int (Int32.ofInt ((xs (x3 + 1).toNat).toInt)), .ref 95]) rfl ?_
  refine lf_iadd 992 rfl rfl ?_
  obtain ⟨o166, h⟩ := h
  refine lf_iro 993 0 L (L : Int) rfl rfl rfl rfl (Nat.ble_eq_true_of_le (by omega)) o166 ?_
  refine lf_if_eq 1000 996 rfl rfl rfl (lf_R_i _) (fun c => ?_) (fun c => ?_)
  · have h := h.1 c
    refine lf_seg 1 (pc' := 1001) (lv' := [(0, .ref (px_SC + 0)), (1, .ref 0), (2, .ref 95), (3, .int (Int32.ofInt x3))]) (st' := [.int (Int32.ofInt 0), .int (Int32.ofInt ((xs (x3 + 3).toNat).toInt)), .int (Int32.ofInt ((xs (x3 + 2).toNat).toInt)), .int (Int32.ofInt ((xs (x3 + 1).toNat).toInt)), .ref 95]) rfl ?_
    refine lf_sub (l := [(0, .ref (px_SC + 0)), (1, .ref 0), (2, .ref 95), (3, .int (Int32.ofInt x3))]) (lf_sb1 rfl (lf_sb1 rfl (lf_sb1 rfl (lf_sb1 rfl lf_sb0)))) ?_
    exact gm_328_p1001 hL hX18 h
  · have h := h.2 c
    refine lf_seg 2 (pc' := 1001) (lv' := [(0, .ref (px_SC + 0)), (1, .ref 0), (2, .ref 95), (3, .int (Int32.ofInt x3))]) (st' := [.int (Int32.ofInt 1), .int (Int32.ofInt ((xs (x3 + 3).toNat).toInt)), .int (Int32.ofInt ((xs (x3 + 2).toNat).toInt)), .int (Int32.ofInt ((xs (x3 + 1).toNat).toInt)), .ref 95]) rfl ?_
    refine lf_sub (l := [(0, .ref (px_SC + 0)), (1, .ref 0), (2, .ref 95), (3, .int (Int32.ofInt x3))]) (lf_sb1 rfl (lf_sb1 rfl (lf_sb1 rfl (lf_sb1 rfl lf_sb0)))) ?_
    exact gm_328_p1001 hL hX18 h
def fm_328_p1271 (L : Nat) (xs : Nat → Int32) (X18 : Int → lf_Z → Prop) (Q : Bool → lf_Z → Prop) (x3 : Int) (y1 : Int) (y2 : Int) (y3 : Int) (y4 : Int) (s : lf_Z) : Prop := ∃ r218 : Int, mn_R L xs y1 y2 y3 y4 r218 ∧ (fm_328_p1603 L xs X18 Q x3 s)
set_option maxRecDepth 100000 in
theorem gm_328_p1271 {L : Nat} {xs : Nat → Int32} {d : Nat} {X18 : Int → lf_Z → Prop} {Q : Bool → lf_Z → Prop} {x3 : Int} {y1 : Int} {y2 : Int} {y3 : Int} {y4 : Int} {s : lf_Z} (hL : L ≤ 3072) (hX18 : ∀ x3 s, X18 x3 s → lf_E (px_ro L xs) (d + 209) 328 18 [(0, .ref (px_SC + 0)), (1, .ref 0), (2, .ref 95), (3, .int (Int32.ofInt x3))] [] s (lf_qz Q)) (h : fm_328_p1271 L xs X18 Q x3 y1 y2 y3 y4 s) : lf_E (px_ro L xs) (d + 209) 328 1271 [(0, .ref (px_SC + 0)), (1, .ref 0), (2, .ref 95), (3, .int (Int32.ofInt x3))] [.int (Int32.ofInt y4), .int (Int32.ofInt y3), .int (Int32.ofInt y2), .int (Int32.ofInt y1), .ref 95] s (lf_qz Q) := by
  unfold fm_328_p1271 at h
  obtain ⟨r218, q388, h⟩ := h
  refine lf_callL (Q1 := fun v9 s9 => v9 = r218 ∧ s9 = s) 1274 rfl rfl rfl rfl (lf_mn2 q388) (fun v9 s219 hv => ?_)
  obtain ⟨hv1, hv2⟩ := hv
  replace hv1 := hv1.symm
  replace hv2 := hv2.symm
  subst hv1
  subst hv2
  refine lf_wtL ?_
  refine lf_seg 2 (pc' := 1603) (lv' := [(0, .ref (px_SC + 0)), (1, .ref 0), (2, .ref 95), (3, .int (Int32.ofInt x3))]) (st' := []) rfl ?_
  refine lf_sub (l := [(0, .ref (px_SC + 0)), (1, .ref 0), (2, .ref 95), (3, .int (Int32.ofInt x3))]) (lf_sb1 rfl (lf_sb1 rfl (lf_sb1 rfl (lf_sb1 rfl lf_sb0)))) ?_
  exact gm_328_p1603 hL hX18 h
def fm_328_p1238 (L : Nat) (xs : Nat → Int32) (X18 : Int → lf_Z → Prop) (Q : Bool → lf_Z → Prop) (x3 : Int) (y1 : Int) (y2 : Int) (y3 : Int) (y4 : Int) (s : lf_Z) : Prop := ∃ r212 : Int, mn_R L xs y1 y2 y3 y4 r212 ∧ ((0 ≤ x3 + 1 ∧ x3 + 1 < (L : Int)) ∧ ((0 ≤ x3 + 2 ∧ x3 + 2 < (L : Int)) ∧ ((0 ≤ x3 + 3 ∧ x3 + 3 < (L : Int)) ∧ ((0 ≤ x3 + 4 ∧ x3 + 4 < (L : Int)) ∧ (((xs (x3 + 4).toNat).toInt = 0 → (fm_328_p1271 L xs X18 Q x3 ((xs (x3 + 1).toNat).toInt) ((xs (x3 + 2).toNat).toInt) ((xs (x3 + 3).toNat).toInt) 0 s)) ∧ (¬ ((xs (x3 + 4).toNat).toInt = 0) → (fm_328_p1271 L xs X18 Q x3 ((xs (x3 + 1).toNat).toInt) ((xs (x3 + 2).toNat).toInt) ((xs (x3 + 3).toNat).toInt) 1 s)))))))
set_option maxRecDepth 100000 in
theorem gm_328_p1238 {L : Nat} {xs : Nat → Int32} {d : Nat} {X18 : Int → lf_Z → Prop} {Q : Bool → lf_Z → Prop} {x3 : Int} {y1 : Int} {y2 : Int} {y3 : Int} {y4 : Int} {s : lf_Z} (hL : L ≤ 3072) (hX18 : ∀ x3 s, X18 x3 s → lf_E (px_ro L xs) (d + 209) 328 18 [(0, .ref (px_SC + 0)), (1, .ref 0), (2, .ref 95), (3, .int (Int32.ofInt x3))] [] s (lf_qz Q)) (h : fm_328_p1238 L xs X18 Q x3 y1 y2 y3 y4 s) : lf_E (px_ro L xs) (d + 209) 328 1238 [(0, .ref (px_SC + 0)), (1, .ref 0), (2, .ref 95), (3, .int (Int32.ofInt x3))] [.int (Int32.ofInt y4), .int (Int32.ofInt y3), .int (Int32.ofInt y2), .int (Int32.ofInt y1), .ref 0] s (lf_qz Q) := by
  unfold fm_328_p1238 at h
  obtain ⟨r212, q382, h⟩ := h
  refine lf_callL (Q1 := fun v9 s9 => v9 = r212 ∧ s9 = s) 1241 rfl rfl rfl rfl (lf_mn1 q382) (fun v9 s213 hv => ?_)
  obtain ⟨hv1, hv2⟩ := hv
  replace hv1 := hv1.symm
  replace hv2 := hv2.symm
  subst hv1
  subst hv2
  refine lf_wtL ?_
  refine lf_seg 5 (pc' := 1246) (lv' := [(0, .ref (px_SC + 0)), (1, .ref 0), (2, .ref 95), (3, .int (Int32.ofInt x3))]) (st' := [.int (Int32.ofInt 1), .int (Int32.ofInt x3), .ref (px_SC + 0), .ref 95]) rfl ?_
  refine lf_iadd 1247 rfl rfl ?_
  obtain ⟨o214, h⟩ := h
  refine lf_iro 1248 0 L (L : Int) rfl rfl rfl rfl (Nat.ble_eq_true_of_le (by omega)) o214 ?_
  refine lf_seg 3 (pc' := 1251) (lv' := [(0, .ref (px_SC + 0)), (1, .ref 0), (2, .ref 95), (3, .int (Int32.ofInt x3))]) (st' := [.int (Int32.ofInt 2), .int (Int32.ofInt x3), .ref (px_SC + 0), .int (Int32.ofInt ((xs (x3 + 1).toNat).toInt)), .ref 95]) rfl ?_
  refine lf_iadd 1252 rfl rfl ?_
  obtain ⟨o215, h⟩ := h
  refine lf_iro 1253 0 L (L : Int) rfl rfl rfl rfl (Nat.ble_eq_true_of_le (by omega)) o215 ?_
  refine lf_seg 3 (pc' := 1256) (lv' := [(0, .ref (px_SC + 0)), (1, .ref 0), (2, .ref 95), (3, .int (Int32.ofInt x3))]) (st' := [.int (Int32.ofInt 3), .int (Int32.ofInt x3), .ref (px_SC + 0), .int (Int32.ofInt ((xs (x3 + 2).toNat).toInt)), .int (Int32.ofInt ((xs (x3 + 1).toNat).toInt)), .ref 95]) rfl ?_
  refine lf_iadd 1257 rfl rfl ?_
  obtain ⟨o216, h⟩ := h
  refine lf_iro 1258 0 L (L : Int) rfl rfl rfl rfl (Nat.ble_eq_true_of_le (by omega)) o216 ?_
  refine lf_seg 3 (pc' := 1261) (lv' := [(0, .ref (px_SC + 0)), (1, .ref 0), (2, .ref 95), (3, .int (Int32.ofInt x3))]) (st' := [.int (Int32.ofInt 4), .int (Int32.ofInt x3), .ref (px_SC + 0), .int (Int32.ofInt ((xs (x3 + 3).toNat).toInt)), .int (Int32.ofInt ((xs (x3 + 2).toNat).toInt)), .int (Int32.ofInt ((xs (x3 + 1).toNat).toInt)), .ref 95]) rfl ?_
  refine lf_iadd 1262 rfl rfl ?_
  obtain ⟨o217, h⟩ := h
  refine lf_iro 1263 0 L (L : Int) rfl rfl rfl rfl (Nat.ble_eq_true_of_le (by omega)) o217 ?_
  refine lf_if_eq 1270 1266 rfl rfl rfl (lf_R_i _) (fun c => ?_) (fun c => ?_)
  · have h := h.1 c
    refine lf_seg 1 (pc' := 1271) (lv' := [(0, .ref (px_SC + 0)), (1, .ref 0), (2, .ref 95), (3, .int (Int32.ofInt x3))]) (st' := [.int (Int32.ofInt 0), .int (Int32.ofInt ((xs (x3 + 3).toNat).toInt)), .int (Int32.ofInt ((xs (x3 + 2).toNat).toInt)), .int (Int32.ofInt ((xs (x3 + 1).toNat).toInt)), .ref 95]) rfl ?_
    refine lf_sub (l := [(0, .ref (px_SC + 0)), (1, .ref 0), (2, .ref 95), (3, .int (Int32.ofInt x3))]) (lf_sb1 rfl (lf_sb1 rfl (lf_sb1 rfl (lf_sb1 rfl lf_sb0)))) ?_
    exact gm_328_p1271 hL hX18 h
  · have h := h.2 c
    refine lf_seg 2 (pc' := 1271) (lv' := [(0, .ref (px_SC + 0)), (1, .ref 0), (2, .ref 95), (3, .int (Int32.ofInt x3))]) (st' := [.int (Int32.ofInt 1), .int (Int32.ofInt ((xs (x3 + 3).toNat).toInt)), .int (Int32.ofInt ((xs (x3 + 2).toNat).toInt)), .int (Int32.ofInt ((xs (x3 + 1).toNat).toInt)), .ref 95]) rfl ?_
    refine lf_sub (l := [(0, .ref (px_SC + 0)), (1, .ref 0), (2, .ref 95), (3, .int (Int32.ofInt x3))]) (lf_sb1 rfl (lf_sb1 rfl (lf_sb1 rfl (lf_sb1 rfl lf_sb0)))) ?_
    exact gm_328_p1271 hL hX18 h
def fm_328_p1485 (L : Nat) (xs : Nat → Int32) (X18 : Int → lf_Z → Prop) (Q : Bool → lf_Z → Prop) (x3 : Int) (y1 : Int) (y2 : Int) (s : lf_Z) : Prop := fm_321 y1 y2 (fun r257 s256 => (fm_328_p1603 L xs X18 Q x3 s256)) s
set_option maxRecDepth 100000 in
theorem gm_328_p1485 {L : Nat} {xs : Nat → Int32} {d : Nat} {X18 : Int → lf_Z → Prop} {Q : Bool → lf_Z → Prop} {x3 : Int} {y1 : Int} {y2 : Int} {s : lf_Z} (hL : L ≤ 3072) (hX18 : ∀ x3 s, X18 x3 s → lf_E (px_ro L xs) (d + 209) 328 18 [(0, .ref (px_SC + 0)), (1, .ref 0), (2, .ref 95), (3, .int (Int32.ofInt x3))] [] s (lf_qz Q)) (h : fm_328_p1485 L xs X18 Q x3 y1 y2 s) : lf_E (px_ro L xs) (d + 209) 328 1485 [(0, .ref (px_SC + 0)), (1, .ref 0), (2, .ref 95), (3, .int (Int32.ofInt x3))] [.int (Int32.ofInt y2), .int (Int32.ofInt y1), .ref 95] s (lf_qz Q) := by
  unfold fm_328_p1485 at h
  refine lf_callI 1488 rfl rfl rfl rfl (gm_321 h) (fun r257 s256 h => ?_)
  refine lf_seg 2 (pc' := 1603) (lv' := [(0, .ref (px_SC + 0)), (1, .ref 0), (2, .ref 95), (3, .int (Int32.ofInt x3))]) (st' := []) rfl ?_
  refine lf_sub (l := [(0, .ref (px_SC + 0)), (1, .ref 0), (2, .ref 95), (3, .int (Int32.ofInt x3))]) (lf_sb1 rfl (lf_sb1 rfl (lf_sb1 rfl (lf_sb1 rfl lf_sb0)))) ?_
  exact gm_328_p1603 hL hX18 h
def fm_328_p1462 (L : Nat) (xs : Nat → Int32) (X18 : Int → lf_Z → Prop) (Q : Bool → lf_Z → Prop) (x3 : Int) (y1 : Int) (y2 : Int) (s : lf_Z) : Prop := fm_166 y1 y2 (fun r253 s252 => ((0 ≤ x3 + 1 ∧ x3 + 1 < (L : Int)) ∧ ((0 ≤ x3 + 2 ∧ x3 + 2 < (L : Int)) ∧ (((xs (x3 + 2).toNat).toInt = 0 → (fm_328_p1485 L xs X18 Q x3 ((xs (x3 + 1).toNat).toInt) 0 s252)) ∧ (¬ ((xs (x3 + 2).toNat).toInt = 0) → (fm_328_p1485 L xs X18 Q x3 ((xs (x3 + 1).toNat).toInt) 1 s252)))))) s
set_option maxRecDepth 100000 in
theorem gm_328_p1462 {L : Nat} {xs : Nat → Int32} {d : Nat} {X18 : Int → lf_Z → Prop} {Q : Bool → lf_Z → Prop} {x3 : Int} {y1 : Int} {y2 : Int} {s : lf_Z} (hL : L ≤ 3072) (hX18 : ∀ x3 s, X18 x3 s → lf_E (px_ro L xs) (d + 209) 328 18 [(0, .ref (px_SC + 0)), (1, .ref 0), (2, .ref 95), (3, .int (Int32.ofInt x3))] [] s (lf_qz Q)) (h : fm_328_p1462 L xs X18 Q x3 y1 y2 s) : lf_E (px_ro L xs) (d + 209) 328 1462 [(0, .ref (px_SC + 0)), (1, .ref 0), (2, .ref 95), (3, .int (Int32.ofInt x3))] [.int (Int32.ofInt y2), .int (Int32.ofInt y1), .ref 0] s (lf_qz Q) := by
  unfold fm_328_p1462 at h
  refine lf_callI 1465 rfl rfl rfl rfl (gm_166 h) (fun r253 s252 h => ?_)
  refine lf_seg 5 (pc' := 1470) (lv' := [(0, .ref (px_SC + 0)), (1, .ref 0), (2, .ref 95), (3, .int (Int32.ofInt x3))]) (st' := [.int (Int32.ofInt 1), .int (Int32.ofInt x3), .ref (px_SC + 0), .ref 95]) rfl ?_
  refine lf_iadd 1471 rfl rfl ?_
  obtain ⟨o254, h⟩ := h
  refine lf_iro 1472 0 L (L : Int) rfl rfl rfl rfl (Nat.ble_eq_true_of_le (by omega)) o254 ?_
  refine lf_seg 3 (pc' := 1475) (lv' := [(0, .ref (px_SC + 0)), (1, .ref 0), (2, .ref 95), (3, .int (Int32.ofInt x3))]) (st' := [.int (Int32.ofInt 2), .int (Int32.ofInt x3), .ref (px_SC + 0), .int (Int32.ofInt ((xs (x3 + 1).toNat).toInt)), .ref 95]) rfl ?_
  refine lf_iadd 1476 rfl rfl ?_
  obtain ⟨o255, h⟩ := h
  refine lf_iro 1477 0 L (L : Int) rfl rfl rfl rfl (Nat.ble_eq_true_of_le (by omega)) o255 ?_
  refine lf_if_eq 1484 1480 rfl rfl rfl (lf_R_i _) (fun c => ?_) (fun c => ?_)
  · have h := h.1 c
    refine lf_seg 1 (pc' := 1485) (lv' := [(0, .ref (px_SC + 0)), (1, .ref 0), (2, .ref 95), (3, .int (Int32.ofInt x3))]) (st' := [.int (Int32.ofInt 0), .int (Int32.ofInt ((xs (x3 + 1).toNat).toInt)), .ref 95]) rfl ?_
    refine lf_sub (l := [(0, .ref (px_SC + 0)), (1, .ref 0), (2, .ref 95), (3, .int (Int32.ofInt x3))]) (lf_sb1 rfl (lf_sb1 rfl (lf_sb1 rfl (lf_sb1 rfl lf_sb0)))) ?_
    exact gm_328_p1485 hL hX18 h
  · have h := h.2 c
    refine lf_seg 2 (pc' := 1485) (lv' := [(0, .ref (px_SC + 0)), (1, .ref 0), (2, .ref 95), (3, .int (Int32.ofInt x3))]) (st' := [.int (Int32.ofInt 1), .int (Int32.ofInt ((xs (x3 + 1).toNat).toInt)), .ref 95]) rfl ?_
    refine lf_sub (l := [(0, .ref (px_SC + 0)), (1, .ref 0), (2, .ref 95), (3, .int (Int32.ofInt x3))]) (lf_sb1 rfl (lf_sb1 rfl (lf_sb1 rfl (lf_sb1 rfl lf_sb0)))) ?_
    exact gm_328_p1485 hL hX18 h
def fm_328_p1534 (L : Nat) (xs : Nat → Int32) (X18 : Int → lf_Z → Prop) (Q : Bool → lf_Z → Prop) (x3 : Int) (y1 : Int) (y2 : Int) (s : lf_Z) : Prop := fm_322 y1 y2 (fun r265 s264 => (fm_328_p1603 L xs X18 Q x3 s264)) s
set_option maxRecDepth 100000 in
theorem gm_328_p1534 {L : Nat} {xs : Nat → Int32} {d : Nat} {X18 : Int → lf_Z → Prop} {Q : Bool → lf_Z → Prop} {x3 : Int} {y1 : Int} {y2 : Int} {s : lf_Z} (hL : L ≤ 3072) (hX18 : ∀ x3 s, X18 x3 s → lf_E (px_ro L xs) (d + 209) 328 18 [(0, .ref (px_SC + 0)), (1, .ref 0), (2, .ref 95), (3, .int (Int32.ofInt x3))] [] s (lf_qz Q)) (h : fm_328_p1534 L xs X18 Q x3 y1 y2 s) : lf_E (px_ro L xs) (d + 209) 328 1534 [(0, .ref (px_SC + 0)), (1, .ref 0), (2, .ref 95), (3, .int (Int32.ofInt x3))] [.int (Int32.ofInt y2), .int (Int32.ofInt y1), .ref 95] s (lf_qz Q) := by
  unfold fm_328_p1534 at h
  refine lf_callI 1537 rfl rfl rfl rfl (gm_322 h) (fun r265 s264 h => ?_)
  refine lf_seg 2 (pc' := 1603) (lv' := [(0, .ref (px_SC + 0)), (1, .ref 0), (2, .ref 95), (3, .int (Int32.ofInt x3))]) (st' := []) rfl ?_
  refine lf_sub (l := [(0, .ref (px_SC + 0)), (1, .ref 0), (2, .ref 95), (3, .int (Int32.ofInt x3))]) (lf_sb1 rfl (lf_sb1 rfl (lf_sb1 rfl (lf_sb1 rfl lf_sb0)))) ?_
  exact gm_328_p1603 hL hX18 h
def fm_328_p1511 (L : Nat) (xs : Nat → Int32) (X18 : Int → lf_Z → Prop) (Q : Bool → lf_Z → Prop) (x3 : Int) (y1 : Int) (y2 : Int) (s : lf_Z) : Prop := fm_169 y1 y2 (fun r261 s260 => ((0 ≤ x3 + 1 ∧ x3 + 1 < (L : Int)) ∧ ((0 ≤ x3 + 2 ∧ x3 + 2 < (L : Int)) ∧ (((xs (x3 + 2).toNat).toInt = 0 → (fm_328_p1534 L xs X18 Q x3 ((xs (x3 + 1).toNat).toInt) 0 s260)) ∧ (¬ ((xs (x3 + 2).toNat).toInt = 0) → (fm_328_p1534 L xs X18 Q x3 ((xs (x3 + 1).toNat).toInt) 1 s260)))))) s
set_option maxRecDepth 100000 in
theorem gm_328_p1511 {L : Nat} {xs : Nat → Int32} {d : Nat} {X18 : Int → lf_Z → Prop} {Q : Bool → lf_Z → Prop} {x3 : Int} {y1 : Int} {y2 : Int} {s : lf_Z} (hL : L ≤ 3072) (hX18 : ∀ x3 s, X18 x3 s → lf_E (px_ro L xs) (d + 209) 328 18 [(0, .ref (px_SC + 0)), (1, .ref 0), (2, .ref 95), (3, .int (Int32.ofInt x3))] [] s (lf_qz Q)) (h : fm_328_p1511 L xs X18 Q x3 y1 y2 s) : lf_E (px_ro L xs) (d + 209) 328 1511 [(0, .ref (px_SC + 0)), (1, .ref 0), (2, .ref 95), (3, .int (Int32.ofInt x3))] [.int (Int32.ofInt y2), .int (Int32.ofInt y1), .ref 0] s (lf_qz Q) := by
  unfold fm_328_p1511 at h
  refine lf_callI 1514 rfl rfl rfl rfl (gm_169 h) (fun r261 s260 h => ?_)
  refine lf_seg 5 (pc' := 1519) (lv' := [(0, .ref (px_SC + 0)), (1, .ref 0), (2, .ref 95), (3, .int (Int32.ofInt x3))]) (st' := [.int (Int32.ofInt 1), .int (Int32.ofInt x3), .ref (px_SC + 0), .ref 95]) rfl ?_
  refine lf_iadd 1520 rfl rfl ?_
  obtain ⟨o262, h⟩ := h
  refine lf_iro 1521 0 L (L : Int) rfl rfl rfl rfl (Nat.ble_eq_true_of_le (by omega)) o262 ?_
  refine lf_seg 3 (pc' := 1524) (lv' := [(0, .ref (px_SC + 0)), (1, .ref 0), (2, .ref 95), (3, .int (Int32.ofInt x3))]) (st' := [.int (Int32.ofInt 2), .int (Int32.ofInt x3), .ref (px_SC + 0), .int (Int32.ofInt ((xs (x3 + 1).toNat).toInt)), .ref 95]) rfl ?_
  refine lf_iadd 1525 rfl rfl ?_
  obtain ⟨o263, h⟩ := h
  refine lf_iro 1526 0 L (L : Int) rfl rfl rfl rfl (Nat.ble_eq_true_of_le (by omega)) o263 ?_
  refine lf_if_eq 1533 1529 rfl rfl rfl (lf_R_i _) (fun c => ?_) (fun c => ?_)
  · have h := h.1 c
    refine lf_seg 1 (pc' := 1534) (lv' := [(0, .ref (px_SC + 0)), (1, .ref 0), (2, .ref 95), (3, .int (Int32.ofInt x3))]) (st' := [.int (Int32.ofInt 0), .int (Int32.ofInt ((xs (x3 + 1).toNat).toInt)), .ref 95]) rfl ?_
    refine lf_sub (l := [(0, .ref (px_SC + 0)), (1, .ref 0), (2, .ref 95), (3, .int (Int32.ofInt x3))]) (lf_sb1 rfl (lf_sb1 rfl (lf_sb1 rfl (lf_sb1 rfl lf_sb0)))) ?_
    exact gm_328_p1534 hL hX18 h
  · have h := h.2 c
    refine lf_seg 2 (pc' := 1534) (lv' := [(0, .ref (px_SC + 0)), (1, .ref 0), (2, .ref 95), (3, .int (Int32.ofInt x3))]) (st' := [.int (Int32.ofInt 1), .int (Int32.ofInt ((xs (x3 + 1).toNat).toInt)), .ref 95]) rfl ?_
    refine lf_sub (l := [(0, .ref (px_SC + 0)), (1, .ref 0), (2, .ref 95), (3, .int (Int32.ofInt x3))]) (lf_sb1 rfl (lf_sb1 rfl (lf_sb1 rfl (lf_sb1 rfl lf_sb0)))) ?_
    exact gm_328_p1534 hL hX18 h
def fm_328_p18 (L : Nat) (xs : Nat → Int32) (Q : Bool → lf_Z → Prop) (X18 : Int → lf_Z → Prop) (x3 : Int) (s : lf_Z) : Prop := lf_R x3 ∧ (lf_R ((L : Int) - 6) ∧ (((L : Int) - 6 < x3 → (Q true s)) ∧ (¬ ((L : Int) - 6 < x3) → ((0 ≤ x3 ∧ x3 < (L : Int)) ∧ ((lf_and ((xs (x3).toNat).toInt) 63 < 0 ∨ 40 < lf_and ((xs (x3).toNat).toInt) 63 → (fm_328_p1603 L xs X18 Q x3 s)) ∧ (lf_and ((xs (x3).toNat).toInt) 63 = 0 → ((0 ≤ x3 + 1 ∧ x3 + 1 < (L : Int)) ∧ ((0 ≤ x3 + 2 ∧ x3 + 2 < (L : Int)) ∧ (fm_14 ((xs (x3 + 1).toNat).toInt) ((xs (x3 + 2).toNat).toInt) (fun r27 s26 => (fm_182 ((xs (x3 + 1).toNat).toInt) ((xs (x3 + 2).toNat).toInt) (fun r29 s28 => (fm_328_p1603 L xs X18 Q x3 s28)) s26)) s)))) ∧ (lf_and ((xs (x3).toNat).toInt) 63 = 1 → ((0 ≤ x3 + 1 ∧ x3 + 1 < (L : Int)) ∧ ((0 ≤ x3 + 2 ∧ x3 + 2 < (L : Int)) ∧ ((0 ≤ x3 + 3 ∧ x3 + 3 < (L : Int)) ∧ (((xs (x3 + 3).toNat).toInt = 0 → (fm_328_p269 L xs X18 Q x3 ((xs (x3 + 1).toNat).toInt) ((xs (x3 + 2).toNat).toInt) 0 s)) ∧ (¬ ((xs (x3 + 3).toNat).toInt = 0) → (fm_328_p269 L xs X18 Q x3 ((xs (x3 + 1).toNat).toInt) ((xs (x3 + 2).toNat).toInt) 1 s))))))) ∧ (lf_and ((xs (x3).toNat).toInt) 63 = 2 → ((0 ≤ x3 + 1 ∧ x3 + 1 < (L : Int)) ∧ ((0 ≤ x3 + 2 ∧ x3 + 2 < (L : Int)) ∧ (((xs (x3 + 2).toNat).toInt = 0 → (fm_328_p323 L xs X18 Q x3 ((xs (x3 + 1).toNat).toInt) 0 s)) ∧ (¬ ((xs (x3 + 2).toNat).toInt = 0) → (fm_328_p323 L xs X18 Q x3 ((xs (x3 + 1).toNat).toInt) 1 s)))))) ∧ (lf_and ((xs (x3).toNat).toInt) 63 = 3 → ((0 ≤ x3 + 1 ∧ x3 + 1 < (L : Int)) ∧ ((0 ≤ x3 + 2 ∧ x3 + 2 < (L : Int)) ∧ ((0 ≤ x3 + 3 ∧ x3 + 3 < (L : Int)) ∧ ((0 ≤ x3 + 4 ∧ x3 + 4 < (L : Int)) ∧ ((0 ≤ x3 + 5 ∧ x3 + 5 < (L : Int)) ∧ (fm_25 ((xs (x3 + 1).toNat).toInt) ((xs (x3 + 2).toNat).toInt) ((xs (x3 + 3).toNat).toInt) ((xs (x3 + 4).toNat).toInt) ((xs (x3 + 5).toNat).toInt) (fun r58 s57 => (fm_192 ((xs (x3 + 1).toNat).toInt) ((xs (x3 + 2).toNat).toInt) ((xs (x3 + 3).toNat).toInt) ((xs (x3 + 4).toNat).toInt) ((xs (x3 + 5).toNat).toInt) (fun r60 s59 => (fm_328_p1603 L xs X18 Q x3 s59)) s57)) s))))))) ∧ (lf_and ((xs (x3).toNat).toInt) 63 = 4 → ((0 ≤ x3 + 1 ∧ x3 + 1 < (L : Int)) ∧ (fm_27 ((xs (x3 + 1).toNat).toInt) (fun r63 s62 => (fm_194 ((xs (x3 + 1).toNat).toInt) (fun r65 s64 => (fm_328_p1603 L xs X18 Q x3 s64)) s62)) s))) ∧ (lf_and ((xs (x3).toNat).toInt) 63 = 5 → (fm_28 (fun r67 s66 => (fm_195 (fun r69 s68 => (fm_328_p1603 L xs X18 Q x3 s68)) s66)) s)) ∧ (lf_and ((xs (x3).toNat).toInt) 63 = 6 → ((0 ≤ x3 + 1 ∧ x3 + 1 < (L : Int)) ∧ (fm_59 ((xs (x3 + 1).toNat).toInt) (fun r72 s71 => (fm_236 ((xs (x3 + 1).toNat).toInt) (fun r74 s73 => (fm_328_p1603 L xs X18 Q x3 s73)) s71)) s))) ∧ (lf_and ((xs (x3).toNat).toInt) 63 = 7 → ((0 ≤ x3 + 1 ∧ x3 + 1 < (L : Int)) ∧ (fm_60 ((xs (x3 + 1).toNat).toInt) (fun z77 s76 => (fm_237 ((xs (x3 + 1).toNat).toInt) (fun z79 s78 => (fm_328_p1603 L xs X18 Q x3 s78)) s76)) s))) ∧ (lf_and ((xs (x3).toNat).toInt) 63 = 8 → ((0 ≤ x3 + 1 ∧ x3 + 1 < (L : Int)) ∧ ((0 ≤ x3 + 2 ∧ x3 + 2 < (L : Int)) ∧ (fm_63 ((xs (x3 + 1).toNat).toInt) ((xs (x3 + 2).toNat).toInt) (fun r83 s82 => (fm_240 ((xs (x3 + 1).toNat).toInt) ((xs (x3 + 2).toNat).toInt) (fun r85 s84 => (fm_328_p1603 L xs X18 Q x3 s84)) s82)) s)))) ∧ (lf_and ((xs (x3).toNat).toInt) 63 = 9 → ((0 ≤ x3 + 1 ∧ x3 + 1 < (L : Int)) ∧ (fm_70 ((xs (x3 + 1).toNat).toInt) (fun r88 s87 => (fm_257 ((xs (x3 + 1).toNat).toInt) (fun r90 s89 => (fm_328_p1603 L xs X18 Q x3 s89)) s87)) s))) ∧ (lf_and ((xs (x3).toNat).toInt) 63 = 10 → ((0 ≤ x3 + 1 ∧ x3 + 1 < (L : Int)) ∧ ((0 ≤ x3 + 2 ∧ x3 + 2 < (L : Int)) ∧ (fm_98 ((xs (x3 + 1).toNat).toInt) ((xs (x3 + 2).toNat).toInt) (fun z94 s93 => (fm_248 ((xs (x3 + 1).toNat).toInt) ((xs (x3 + 2).toNat).toInt) (fun z96 s95 => (fm_328_p1603 L xs X18 Q x3 s95)) s93)) s)))) ∧ (lf_and ((xs (x3).toNat).toInt) 63 = 11 → ((0 ≤ x3 + 1 ∧ x3 + 1 < (L : Int)) ∧ ((0 ≤ x3 + 2 ∧ x3 + 2 < (L : Int)) ∧ (((xs (x3 + 2).toNat).toInt = 0 → (fm_328_p642 L xs X18 Q x3 ((xs (x3 + 1).toNat).toInt) 0 s)) ∧ (¬ ((xs (x3 + 2).toNat).toInt = 0) → (fm_328_p642 L xs X18 Q x3 ((xs (x3 + 1).toNat).toInt) 1 s)))))) ∧ (lf_and ((xs (x3).toNat).toInt) 63 = 12 → ((0 ≤ x3 + 1 ∧ x3 + 1 < (L : Int)) ∧ ((0 ≤ x3 + 2 ∧ x3 + 2 < (L : Int)) ∧ (fm_102 ((xs (x3 + 1).toNat).toInt) ((xs (x3 + 2).toNat).toInt) (fun r109 s108 => (fm_253 ((xs (x3 + 1).toNat).toInt) ((xs (x3 + 2).toNat).toInt) (fun r111 s110 => (fm_328_p1603 L xs X18 Q x3 s110)) s108)) s)))) ∧ (lf_and ((xs (x3).toNat).toInt) 63 = 13 → ((0 ≤ x3 + 1 ∧ x3 + 1 < (L : Int)) ∧ (fm_103 ((xs (x3 + 1).toNat).toInt) (fun r114 s113 => (fm_280 ((xs (x3 + 1).toNat).toInt) (fun r116 s115 => (fm_328_p1603 L xs X18 Q x3 s115)) s113)) s))) ∧ (lf_and ((xs (x3).toNat).toInt) 63 = 14 → ((0 ≤ x3 + 1 ∧ x3 + 1 < (L : Int)) ∧ ((0 ≤ x3 + 2 ∧ x3 + 2 < (L : Int)) ∧ (fm_105 ((xs (x3 + 1).toNat).toInt) ((xs (x3 + 2).toNat).toInt) (fun r120 s119 => (fm_282 ((xs (x3 + 1).toNat).toInt) ((xs (x3 + 2).toNat).toInt) (fun r122 s121 => (fm_328_p1603 L xs X18 Q x3 s121)) s119)) s)))) ∧ (lf_and ((xs (x3).toNat).toInt) 63 = 15 → (fm_107 (fun r124 s123 => (fm_238 (fun r126 s125 => (fm_328_p1603 L xs X18 Q x3 s125)) s123)) s)) ∧ (lf_and ((xs (x3).toNat).toInt) 63 = 16 → ((0 ≤ x3 + 1 ∧ x3 + 1 < (L : Int)) ∧ ((0 ≤ x3 + 2 ∧ x3 + 2 < (L : Int)) ∧ (fm_110 ((xs (x3 + 1).toNat).toInt) ((xs (x3 + 2).toNat).toInt) (fun r130 s129 => (fm_284 ((xs (x3 + 1).toNat).toInt) ((xs (x3 + 2).toNat).toInt) (fun r132 s131 => (fm_328_p1603 L xs X18 Q x3 s131)) s129)) s)))) ∧ (lf_and ((xs (x3).toNat).toInt) 63 = 17 → ((0 ≤ x3 + 1 ∧ x3 + 1 < (L : Int)) ∧ ((0 ≤ x3 + 2 ∧ x3 + 2 < (L : Int)) ∧ (fm_111 ((xs (x3 + 1).toNat).toInt) ((xs (x3 + 2).toNat).toInt) (fun r136 s135 => (fm_285 ((xs (x3 + 1).toNat).toInt) ((xs (x3 + 2).toNat).toInt) (fun r138 s137 => (fm_328_p1603 L xs X18 Q x3 s137)) s135)) s)))) ∧ (lf_and ((xs (x3).toNat).toInt) 63 = 18 → ((0 ≤ x3 + 1 ∧ x3 + 1 < (L : Int)) ∧ ((0 ≤ x3 + 2 ∧ x3 + 2 < (L : Int)) ∧ (fm_112 ((xs (x3 + 1).toNat).toInt) ((xs (x3 + 2).toNat).toInt) (fun r142 s141 => (fm_286 ((xs (x3 + 1).toNat).toInt) ((xs (x3 + 2).toNat).toInt) (fun r144 s143 => (fm_328_p1603 L xs X18 Q x3 s143)) s141)) s)))) ∧ (lf_and ((xs (x3).toNat).toInt) 63 = 19 → ((0 ≤ x3 + 1 ∧ x3 + 1 < (L : Int)) ∧ ((0 ≤ x3 + 2 ∧ x3 + 2 < (L : Int)) ∧ (fm_114 ((xs (x3 + 1).toNat).toInt) ((xs (x3 + 2).toNat).toInt) (fun r148 s147 => (fm_287 ((xs (x3 + 1).toNat).toInt) ((xs (x3 + 2).toNat).toInt) (fun r150 s149 => (fm_328_p1603 L xs X18 Q x3 s149)) s147)) s)))) ∧ (lf_and ((xs (x3).toNat).toInt) 63 = 20 → ((0 ≤ x3 + 1 ∧ x3 + 1 < (L : Int)) ∧ ((0 ≤ x3 + 2 ∧ x3 + 2 < (L : Int)) ∧ (fm_115 ((xs (x3 + 1).toNat).toInt) ((xs (x3 + 2).toNat).toInt) (fun r154 s153 => (fm_288 ((xs (x3 + 1).toNat).toInt) ((xs (x3 + 2).toNat).toInt) (fun r156 s155 => (fm_328_p1603 L xs X18 Q x3 s155)) s153)) s)))) ∧ (lf_and ((xs (x3).toNat).toInt) 63 = 21 → ((0 ≤ x3 + 1 ∧ x3 + 1 < (L : Int)) ∧ ((0 ≤ x3 + 2 ∧ x3 + 2 < (L : Int)) ∧ ((0 ≤ x3 + 3 ∧ x3 + 3 < (L : Int)) ∧ ((0 ≤ x3 + 4 ∧ x3 + 4 < (L : Int)) ∧ (((xs (x3 + 4).toNat).toInt = 0 → (fm_328_p968 L xs X18 Q x3 ((xs (x3 + 1).toNat).toInt) ((xs (x3 + 2).toNat).toInt) ((xs (x3 + 3).toNat).toInt) 0 s)) ∧ (¬ ((xs (x3 + 4).toNat).toInt = 0) → (fm_328_p968 L xs X18 Q x3 ((xs (x3 + 1).toNat).toInt) ((xs (x3 + 2).toNat).toInt) ((xs (x3 + 3).toNat).toInt) 1 s)))))))) ∧ (lf_and ((xs (x3).toNat).toInt) 63 = 22 → ((0 ≤ x3 + 1 ∧ x3 + 1 < (L : Int)) ∧ (fm_126 ((xs (x3 + 1).toNat).toInt) (fun r171 s170 => (fm_293 ((xs (x3 + 1).toNat).toInt) (fun r173 s172 => (fm_328_p1603 L xs X18 Q x3 s172)) s170)) s))) ∧ (lf_and ((xs (x3).toNat).toInt) 63 = 23 → ((0 ≤ x3 + 1 ∧ x3 + 1 < (L : Int)) ∧ ((0 ≤ x3 + 2 ∧ x3 + 2 < (L : Int)) ∧ (fm_130 ((xs (x3 + 1).toNat).toInt) ((xs (x3 + 2).toNat).toInt) (fun r177 s176 => (fm_295 ((xs (x3 + 1).toNat).toInt) ((xs (x3 + 2).toNat).toInt) (fun r179 s178 => (fm_328_p1603 L xs X18 Q x3 s178)) s176)) s)))) ∧ (lf_and ((xs (x3).toNat).toInt) 63 = 24 → ((0 ≤ x3 + 1 ∧ x3 + 1 < (L : Int)) ∧ ((0 ≤ x3 + 2 ∧ x3 + 2 < (L : Int)) ∧ (fm_134 ((xs (x3 + 1).toNat).toInt) ((xs (x3 + 2).toNat).toInt) (fun r183 s182 => (fm_298 ((xs (x3 + 1).toNat).toInt) ((xs (x3 + 2).toNat).toInt) (fun r185 s184 => (fm_328_p1603 L xs X18 Q x3 s184)) s182)) s)))) ∧ (lf_and ((xs (x3).toNat).toInt) 63 = 25 → ((0 ≤ x3 + 1 ∧ x3 + 1 < (L : Int)) ∧ ((0 ≤ x3 + 2 ∧ x3 + 2 < (L : Int)) ∧ ((0 ≤ x3 + 3 ∧ x3 + 3 < (L : Int)) ∧ (fm_136 ((xs (x3 + 1).toNat).toInt) ((xs (x3 + 2).toNat).toInt) ((xs (x3 + 3).toNat).toInt) (fun r190 s189 => (fm_300 ((xs (x3 + 1).toNat).toInt) ((xs (x3 + 2).toNat).toInt) ((xs (x3 + 3).toNat).toInt) (fun r192 s191 => (fm_328_p1603 L xs X18 Q x3 s191)) s189)) s))))) ∧ (lf_and ((xs (x3).toNat).toInt) 63 = 26 → ((0 ≤ x3 + 1 ∧ x3 + 1 < (L : Int)) ∧ (fm_142 ((xs (x3 + 1).toNat).toInt) (fun r195 s194 => (fm_297 ((xs (x3 + 1).toNat).toInt) (fun r197 s196 => (fm_328_p1603 L xs X18 Q x3 s196)) s194)) s))) ∧ (lf_and ((xs (x3).toNat).toInt) 63 = 27 → ((0 ≤ x3 + 1 ∧ x3 + 1 < (L : Int)) ∧ ((0 ≤ x3 + 2 ∧ x3 + 2 < (L : Int)) ∧ (fm_145 ((xs (x3 + 1).toNat).toInt) ((xs (x3 + 2).toNat).toInt) (fun r201 s200 => (fm_305 ((xs (x3 + 1).toNat).toInt) ((xs (x3 + 2).toNat).toInt) (fun r203 s202 => (fm_328_p1603 L xs X18 Q x3 s202)) s200)) s)))) ∧ (lf_and ((xs (x3).toNat).toInt) 63 = 28 → (fm_147 (fun r205 s204 => (fm_306 (fun r207 s206 => (fm_328_p1603 L xs X18 Q x3 s206)) s204)) s)) ∧ (lf_and ((xs (x3).toNat).toInt) 63 = 29 → ((0 ≤ x3 + 1 ∧ x3 + 1 < (L : Int)) ∧ ((0 ≤ x3 + 2 ∧ x3 + 2 < (L : Int)) ∧ ((0 ≤ x3 + 3 ∧ x3 + 3 < (L : Int)) ∧ ((0 ≤ x3 + 4 ∧ x3 + 4 < (L : Int)) ∧ (((xs (x3 + 4).toNat).toInt = 0 → (fm_328_p1238 L xs X18 Q x3 ((xs (x3 + 1).toNat).toInt) ((xs (x3 + 2).toNat).toInt) ((xs (x3 + 3).toNat).toInt) 0 s)) ∧ (¬ ((xs (x3 + 4).toNat).toInt = 0) → (fm_328_p1238 L xs X18 Q x3 ((xs (x3 + 1).toNat).toInt) ((xs (x3 + 2).toNat).toInt) ((xs (x3 + 3).toNat).toInt) 1 s)))))))) ∧ (lf_and ((xs (x3).toNat).toInt) 63 = 30 → ((0 ≤ x3 + 1 ∧ x3 + 1 < (L : Int)) ∧ ((0 ≤ x3 + 2 ∧ x3 + 2 < (L : Int)) ∧ (fm_154 ((xs (x3 + 1).toNat).toInt) ((xs (x3 + 2).toNat).toInt) (fun r223 s222 => (fm_311 ((xs (x3 + 1).toNat).toInt) ((xs (x3 + 2).toNat).toInt) (fun r225 s224 => (fm_328_p1603 L xs X18 Q x3 s224)) s222)) s)))) ∧ (lf_and ((xs (x3).toNat).toInt) 63 = 31 → ((0 ≤ x3 + 1 ∧ x3 + 1 < (L : Int)) ∧ ((0 ≤ x3 + 2 ∧ x3 + 2 < (L : Int)) ∧ (fm_158 ((xs (x3 + 1).toNat).toInt) ((xs (x3 + 2).toNat).toInt) (fun r229 s228 => (fm_314 ((xs (x3 + 1).toNat).toInt) ((xs (x3 + 2).toNat).toInt) (fun r231 s230 => (fm_328_p1603 L xs X18 Q x3 s230)) s228)) s)))) ∧ (lf_and ((xs (x3).toNat).toInt) 63 = 32 → (fm_161 (fun r233 s232 => (fm_316 (fun r235 s234 => (fm_328_p1603 L xs X18 Q x3 s234)) s232)) s)) ∧ (lf_and ((xs (x3).toNat).toInt) 63 = 33 → ((0 ≤ x3 + 1 ∧ x3 + 1 < (L : Int)) ∧ ((0 ≤ x3 + 2 ∧ x3 + 2 < (L : Int)) ∧ ((0 ≤ x3 + 3 ∧ x3 + 3 < (L : Int)) ∧ ((0 ≤ x3 + 4 ∧ x3 + 4 < (L : Int)) ∧ ((0 ≤ x3 + 5 ∧ x3 + 5 < (L : Int)) ∧ (fm_163 ((xs (x3 + 1).toNat).toInt) ((xs (x3 + 2).toNat).toInt) ((xs (x3 + 3).toNat).toInt) ((xs (x3 + 4).toNat).toInt) ((xs (x3 + 5).toNat).toInt) (fun z242 s241 => (fm_318 ((xs (x3 + 1).toNat).toInt) ((xs (x3 + 2).toNat).toInt) ((xs (x3 + 3).toNat).toInt) ((xs (x3 + 4).toNat).toInt) ((xs (x3 + 5).toNat).toInt) (fun z244 s243 => (fm_328_p1603 L xs X18 Q x3 s243)) s241)) s))))))) ∧ (lf_and ((xs (x3).toNat).toInt) 63 = 34 → ((0 ≤ x3 + 1 ∧ x3 + 1 < (L : Int)) ∧ (fm_164 ((xs (x3 + 1).toNat).toInt) (fun r247 s246 => (fm_319 ((xs (x3 + 1).toNat).toInt) (fun r249 s248 => (fm_328_p1603 L xs X18 Q x3 s248)) s246)) s))) ∧ (lf_and ((xs (x3).toNat).toInt) 63 = 35 → ((0 ≤ x3 + 1 ∧ x3 + 1 < (L : Int)) ∧ ((0 ≤ x3 + 2 ∧ x3 + 2 < (L : Int)) ∧ (((xs (x3 + 2).toNat).toInt = 0 → (fm_328_p1462 L xs X18 Q x3 ((xs (x3 + 1).toNat).toInt) 0 s)) ∧ (¬ ((xs (x3 + 2).toNat).toInt = 0) → (fm_328_p1462 L xs X18 Q x3 ((xs (x3 + 1).toNat).toInt) 1 s)))))) ∧ (lf_and ((xs (x3).toNat).toInt) 63 = 36 → ((0 ≤ x3 + 1 ∧ x3 + 1 < (L : Int)) ∧ ((0 ≤ x3 + 2 ∧ x3 + 2 < (L : Int)) ∧ (((xs (x3 + 2).toNat).toInt = 0 → (fm_328_p1511 L xs X18 Q x3 ((xs (x3 + 1).toNat).toInt) 0 s)) ∧ (¬ ((xs (x3 + 2).toNat).toInt = 0) → (fm_328_p1511 L xs X18 Q x3 ((xs (x3 + 1).toNat).toInt) 1 s)))))) ∧ (lf_and ((xs (x3).toNat).toInt) 63 = 37 → (fm_170 (fun r267 s266 => (fm_324 (fun r269 s268 => (fm_328_p1603 L xs X18 Q x3 s268)) s266)) s)) ∧ (lf_and ((xs (x3).toNat).toInt) 63 = 38 → (fm_173 (fun r271 s270 => (fm_325 (fun r273 s272 => (fm_328_p1603 L xs X18 Q x3 s272)) s270)) s)) ∧ (lf_and ((xs (x3).toNat).toInt) 63 = 39 → (fm_177 (fun r275 s274 => (fm_326 (fun r277 s276 => (fm_328_p1603 L xs X18 Q x3 s276)) s274)) s)) ∧ (lf_and ((xs (x3).toNat).toInt) 63 = 40 → ((0 ≤ x3 + 1 ∧ x3 + 1 < (L : Int)) ∧ (fm_179 ((xs (x3 + 1).toNat).toInt) (fun r280 s279 => (fm_327 ((xs (x3 + 1).toNat).toInt) (fun r282 s281 => (fm_328_p1603 L xs X18 Q x3 s281)) s279)) s))))))))
def fm_328_p18L (L : Nat) (xs : Nat → Int32) (Q : Bool → lf_Z → Prop) (x3 : Int) (s : lf_Z) : Prop := ∀ X18 : Int → lf_Z → Prop, (∀ (x3 : Int) (s : lf_Z), fm_328_p18 L xs Q X18 x3 s → X18 x3 s) → X18 x3 s
set_option maxRecDepth 100000 in
theorem gm_328_p18 {L : Nat} {xs : Nat → Int32} {d : Nat} {Q : Bool → lf_Z → Prop} {x3 : Int} {s : lf_Z} {X18 : Int → lf_Z → Prop} (hL : L ≤ 3072) (hX18 : ∀ x3 s, X18 x3 s → lf_E (px_ro L xs) (d + 209) 328 18 [(0, .ref (px_SC + 0)), (1, .ref 0), (2, .ref 95), (3, .int (Int32.ofInt x3))] [] s (lf_qz Q)) (h : fm_328_p18 L xs Q X18 x3 s) : lf_E (px_ro L xs) (d + 209) 328 18 [(0, .ref (px_SC + 0)), (1, .ref 0), (2, .ref 95), (3, .int (Int32.ofInt x3))] [] s (lf_qz Q) := by
  unfold fm_328_p18 at h
  refine lf_seg 2 (pc' := 20) (lv' := [(0, .ref (px_SC + 0)), (1, .ref 0), (2, .ref 95), (3, .int (Int32.ofInt x3))]) (st' := [.ref (px_SC + 0), .int (Int32.ofInt x3)]) rfl ?_
  refine lf_lro 21 0 L (L : Int) rfl rfl rfl rfl ?_
  refine lf_bipush 23 6 rfl rfl (by decide) (by decide) ?_
  refine lf_isub 24 rfl rfl ?_
  obtain ⟨o21, h⟩ := h
  obtain ⟨o22, h⟩ := h
  refine lf_icmp_gt 1609 27 rfl rfl rfl o21 o22 (fun c => ?_) (fun c => ?_)
  · have h := h.1 c
    refine lf_seg 1 (pc' := 1610) (lv' := [(0, .ref (px_SC + 0)), (1, .ref 0), (2, .ref 95), (3, .int (Int32.ofInt x3))]) (st' := [.int (Int32.ofInt 1)]) rfl ?_
    exact lf_retZ true rfl rfl h
  · have h := h.2 c
    refine lf_seg 2 (pc' := 29) (lv' := [(0, .ref (px_SC + 0)), (1, .ref 0), (2, .ref 95), (3, .int (Int32.ofInt x3))]) (st' := [.int (Int32.ofInt x3), .ref (px_SC + 0)]) rfl ?_
    obtain ⟨o23, h⟩ := h
    refine lf_iro 30 0 L (L : Int) rfl rfl rfl rfl (Nat.ble_eq_true_of_le (by omega)) o23 ?_
    refine lf_bipush 32 63 rfl rfl (by decide) (by decide) ?_
    refine lf_iand 33 rfl rfl ?_
    refine lf_tsw 1603 [(0, 212), (1, 245), (2, 304), (3, 389), (4, 452), (5, 475), (6, 488), (7, 511), (8, 534), (9, 567), (10, 590), (11, 623), (12, 672), (13, 705), (14, 728), (15, 761), (16, 774), (17, 807), (18, 840), (19, 873), (20, 906), (21, 939), (22, 1008), (23, 1031), (24, 1064), (25, 1097), (26, 1140), (27, 1163), (28, 1196), (29, 1209), (30, 1278), (31, 1311), (32, 1344), (33, 1357), (34, 1420), (35, 1443), (36, 1492), (37, 1541), (38, 1554), (39, 1567), (40, 1580)] rfl rfl rfl (by decide) lf_Rand (fun c => ?_) (lf_tab1 (fun c => ?_) (lf_tab1 (fun c => ?_) (lf_tab1 (fun c => ?_) (lf_tab1 (fun c => ?_) (lf_tab1 (fun c => ?_) (lf_tab1 (fun c => ?_) (lf_tab1 (fun c => ?_) (lf_tab1 (fun c => ?_) (lf_tab1 (fun c => ?_) (lf_tab1 (fun c => ?_) (lf_tab1 (fun c => ?_) (lf_tab1 (fun c => ?_) (lf_tab1 (fun c => ?_) (lf_tab1 (fun c => ?_) (lf_tab1 (fun c => ?_) (lf_tab1 (fun c => ?_) (lf_tab1 (fun c => ?_) (lf_tab1 (fun c => ?_) (lf_tab1 (fun c => ?_) (lf_tab1 (fun c => ?_) (lf_tab1 (fun c => ?_) (lf_tab1 (fun c => ?_) (lf_tab1 (fun c => ?_) (lf_tab1 (fun c => ?_) (lf_tab1 (fun c => ?_) (lf_tab1 (fun c => ?_) (lf_tab1 (fun c => ?_) (lf_tab1 (fun c => ?_) (lf_tab1 (fun c => ?_) (lf_tab1 (fun c => ?_) (lf_tab1 (fun c => ?_) (lf_tab1 (fun c => ?_) (lf_tab1 (fun c => ?_) (lf_tab1 (fun c => ?_) (lf_tab1 (fun c => ?_) (lf_tab1 (fun c => ?_) (lf_tab1 (fun c => ?_) (lf_tab1 (fun c => ?_) (lf_tab1 (fun c => ?_) (lf_tab1 (fun c => ?_) (lf_tab1 (fun c => ?_) lf_tab0)))))))))))))))))))))))))))))))))))))))))
    · have h := h.1 c
      refine lf_sub (l := [(0, .ref (px_SC + 0)), (1, .ref 0), (2, .ref 95), (3, .int (Int32.ofInt x3))]) (lf_sb1 rfl (lf_sb1 rfl (lf_sb1 rfl (lf_sb1 rfl lf_sb0)))) ?_
      exact gm_328_p1603 hL hX18 h
    · have h := h.2.1 c
      refine lf_seg 4 (pc' := 216) (lv' := [(0, .ref (px_SC + 0)), (1, .ref 0), (2, .ref 95), (3, .int (Int32.ofInt x3))]) (st' := [.int (Int32.ofInt 1), .int (Int32.ofInt x3), .ref (px_SC + 0), .ref 0]) rfl ?_
      refine lf_iadd 217 rfl rfl ?_
      obtain ⟨o24, h⟩ := h
      refine lf_iro 218 0 L (L : Int) rfl rfl rfl rfl (Nat.ble_eq_true_of_le (by omega)) o24 ?_
      refine lf_seg 3 (pc' := 221) (lv' := [(0, .ref (px_SC + 0)), (1, .ref 0), (2, .ref 95), (3, .int (Int32.ofInt x3))]) (st' := [.int (Int32.ofInt 2), .int (Int32.ofInt x3), .ref (px_SC + 0), .int (Int32.ofInt ((xs (x3 + 1).toNat).toInt)), .ref 0]) rfl ?_
      refine lf_iadd 222 rfl rfl ?_
      obtain ⟨o25, h⟩ := h
      refine lf_iro 223 0 L (L : Int) rfl rfl rfl rfl (Nat.ble_eq_true_of_le (by omega)) o25 ?_
      refine lf_callI 226 rfl rfl rfl rfl (gm_14 h) (fun r27 s26 h => ?_)
      refine lf_seg 5 (pc' := 231) (lv' := [(0, .ref (px_SC + 0)), (1, .ref 0), (2, .ref 95), (3, .int (Int32.ofInt x3))]) (st' := [.int (Int32.ofInt 1), .int (Int32.ofInt x3), .ref (px_SC + 0), .ref 95]) rfl ?_
      refine lf_iadd 232 rfl rfl ?_
      refine lf_iro 233 0 L (L : Int) rfl rfl rfl rfl (Nat.ble_eq_true_of_le (by omega)) o24 ?_
      refine lf_seg 3 (pc' := 236) (lv' := [(0, .ref (px_SC + 0)), (1, .ref 0), (2, .ref 95), (3, .int (Int32.ofInt x3))]) (st' := [.int (Int32.ofInt 2), .int (Int32.ofInt x3), .ref (px_SC + 0), .int (Int32.ofInt ((xs (x3 + 1).toNat).toInt)), .ref 95]) rfl ?_
      refine lf_iadd 237 rfl rfl ?_
      refine lf_iro 238 0 L (L : Int) rfl rfl rfl rfl (Nat.ble_eq_true_of_le (by omega)) o25 ?_
      refine lf_callI 241 rfl rfl rfl rfl (gm_182 h) (fun r29 s28 h => ?_)
      refine lf_seg 2 (pc' := 1603) (lv' := [(0, .ref (px_SC + 0)), (1, .ref 0), (2, .ref 95), (3, .int (Int32.ofInt x3))]) (st' := []) rfl ?_
      refine lf_sub (l := [(0, .ref (px_SC + 0)), (1, .ref 0), (2, .ref 95), (3, .int (Int32.ofInt x3))]) (lf_sb1 rfl (lf_sb1 rfl (lf_sb1 rfl (lf_sb1 rfl lf_sb0)))) ?_
      exact gm_328_p1603 hL hX18 h
    · have h := h.2.2.1 c
      refine lf_seg 4 (pc' := 249) (lv' := [(0, .ref (px_SC + 0)), (1, .ref 0), (2, .ref 95), (3, .int (Int32.ofInt x3))]) (st' := [.int (Int32.ofInt 1), .int (Int32.ofInt x3), .ref (px_SC + 0), .ref 0]) rfl ?_
      refine lf_iadd 250 rfl rfl ?_
      obtain ⟨o30, h⟩ := h
      refine lf_iro 251 0 L (L : Int) rfl rfl rfl rfl (Nat.ble_eq_true_of_le (by omega)) o30 ?_
      refine lf_seg 3 (pc' := 254) (lv' := [(0, .ref (px_SC + 0)), (1, .ref 0), (2, .ref 95), (3, .int (Int32.ofInt x3))]) (st' := [.int (Int32.ofInt 2), .int (Int32.ofInt x3), .ref (px_SC + 0), .int (Int32.ofInt ((xs (x3 + 1).toNat).toInt)), .ref 0]) rfl ?_
      refine lf_iadd 255 rfl rfl ?_
      obtain ⟨o31, h⟩ := h
      refine lf_iro 256 0 L (L : Int) rfl rfl rfl rfl (Nat.ble_eq_true_of_le (by omega)) o31 ?_
      refine lf_seg 3 (pc' := 259) (lv' := [(0, .ref (px_SC + 0)), (1, .ref 0), (2, .ref 95), (3, .int (Int32.ofInt x3))]) (st' := [.int (Int32.ofInt 3), .int (Int32.ofInt x3), .ref (px_SC + 0), .int (Int32.ofInt ((xs (x3 + 2).toNat).toInt)), .int (Int32.ofInt ((xs (x3 + 1).toNat).toInt)), .ref 0]) rfl ?_
      refine lf_iadd 260 rfl rfl ?_
      obtain ⟨o32, h⟩ := h
      refine lf_iro 261 0 L (L : Int) rfl rfl rfl rfl (Nat.ble_eq_true_of_le (by omega)) o32 ?_
      refine lf_if_eq 268 264 rfl rfl rfl (lf_R_i _) (fun c => ?_) (fun c => ?_)
      · have h := h.1 c
        refine lf_seg 1 (pc' := 269) (lv' := [(0, .ref (px_SC + 0)), (1, .ref 0), (2, .ref 95), (3, .int (Int32.ofInt x3))]) (st' := [.int (Int32.ofInt 0), .int (Int32.ofInt ((xs (x3 + 2).toNat).toInt)), .int (Int32.ofInt ((xs (x3 + 1).toNat).toInt)), .ref 0]) rfl ?_
        refine lf_sub (l := [(0, .ref (px_SC + 0)), (1, .ref 0), (2, .ref 95), (3, .int (Int32.ofInt x3))]) (lf_sb1 rfl (lf_sb1 rfl (lf_sb1 rfl (lf_sb1 rfl lf_sb0)))) ?_
        exact gm_328_p269 hL hX18 h
      · have h := h.2 c
        refine lf_seg 2 (pc' := 269) (lv' := [(0, .ref (px_SC + 0)), (1, .ref 0), (2, .ref 95), (3, .int (Int32.ofInt x3))]) (st' := [.int (Int32.ofInt 1), .int (Int32.ofInt ((xs (x3 + 2).toNat).toInt)), .int (Int32.ofInt ((xs (x3 + 1).toNat).toInt)), .ref 0]) rfl ?_
        refine lf_sub (l := [(0, .ref (px_SC + 0)), (1, .ref 0), (2, .ref 95), (3, .int (Int32.ofInt x3))]) (lf_sb1 rfl (lf_sb1 rfl (lf_sb1 rfl (lf_sb1 rfl lf_sb0)))) ?_
        exact gm_328_p269 hL hX18 h
    · have h := h.2.2.2.1 c
      refine lf_seg 4 (pc' := 308) (lv' := [(0, .ref (px_SC + 0)), (1, .ref 0), (2, .ref 95), (3, .int (Int32.ofInt x3))]) (st' := [.int (Int32.ofInt 1), .int (Int32.ofInt x3), .ref (px_SC + 0), .ref 0]) rfl ?_
      refine lf_iadd 309 rfl rfl ?_
      obtain ⟨o40, h⟩ := h
      refine lf_iro 310 0 L (L : Int) rfl rfl rfl rfl (Nat.ble_eq_true_of_le (by omega)) o40 ?_
      refine lf_seg 3 (pc' := 313) (lv' := [(0, .ref (px_SC + 0)), (1, .ref 0), (2, .ref 95), (3, .int (Int32.ofInt x3))]) (st' := [.int (Int32.ofInt 2), .int (Int32.ofInt x3), .ref (px_SC + 0), .int (Int32.ofInt ((xs (x3 + 1).toNat).toInt)), .ref 0]) rfl ?_
      refine lf_iadd 314 rfl rfl ?_
      obtain ⟨o41, h⟩ := h
      refine lf_iro 315 0 L (L : Int) rfl rfl rfl rfl (Nat.ble_eq_true_of_le (by omega)) o41 ?_
      refine lf_if_eq 322 318 rfl rfl rfl (lf_R_i _) (fun c => ?_) (fun c => ?_)
      · have h := h.1 c
        refine lf_seg 1 (pc' := 323) (lv' := [(0, .ref (px_SC + 0)), (1, .ref 0), (2, .ref 95), (3, .int (Int32.ofInt x3))]) (st' := [.int (Int32.ofInt 0), .int (Int32.ofInt ((xs (x3 + 1).toNat).toInt)), .ref 0]) rfl ?_
        refine lf_sub (l := [(0, .ref (px_SC + 0)), (1, .ref 0), (2, .ref 95), (3, .int (Int32.ofInt x3))]) (lf_sb1 rfl (lf_sb1 rfl (lf_sb1 rfl (lf_sb1 rfl lf_sb0)))) ?_
        exact gm_328_p323 hL hX18 h
      · have h := h.2 c
        refine lf_seg 2 (pc' := 323) (lv' := [(0, .ref (px_SC + 0)), (1, .ref 0), (2, .ref 95), (3, .int (Int32.ofInt x3))]) (st' := [.int (Int32.ofInt 1), .int (Int32.ofInt ((xs (x3 + 1).toNat).toInt)), .ref 0]) rfl ?_
        refine lf_sub (l := [(0, .ref (px_SC + 0)), (1, .ref 0), (2, .ref 95), (3, .int (Int32.ofInt x3))]) (lf_sb1 rfl (lf_sb1 rfl (lf_sb1 rfl (lf_sb1 rfl lf_sb0)))) ?_
        exact gm_328_p323 hL hX18 h
    · have h := h.2.2.2.2.1 c
      refine lf_seg 4 (pc' := 393) (lv' := [(0, .ref (px_SC + 0)), (1, .ref 0), (2, .ref 95), (3, .int (Int32.ofInt x3))]) (st' := [.int (Int32.ofInt 1), .int (Int32.ofInt x3), .ref (px_SC + 0), .ref 0]) rfl ?_
      refine lf_iadd 394 rfl rfl ?_
      obtain ⟨o52, h⟩ := h
      refine lf_iro 395 0 L (L : Int) rfl rfl rfl rfl (Nat.ble_eq_true_of_le (by omega)) o52 ?_
      refine lf_seg 3 (pc' := 398) (lv' := [(0, .ref (px_SC + 0)), (1, .ref 0), (2, .ref 95), (3, .int (Int32.ofInt x3))]) (st' := [.int (Int32.ofInt 2), .int (Int32.ofInt x3), .ref (px_SC + 0), .int (Int32.ofInt ((xs (x3 + 1).toNat).toInt)), .ref 0]) rfl ?_
      refine lf_iadd 399 rfl rfl ?_
      obtain ⟨o53, h⟩ := h
      refine lf_iro 400 0 L (L : Int) rfl rfl rfl rfl (Nat.ble_eq_true_of_le (by omega)) o53 ?_
      refine lf_seg 3 (pc' := 403) (lv' := [(0, .ref (px_SC + 0)), (1, .ref 0), (2, .ref 95), (3, .int (Int32.ofInt x3))]) (st' := [.int (Int32.ofInt 3), .int (Int32.ofInt x3), .ref (px_SC + 0), .int (Int32.ofInt ((xs (x3 + 2).toNat).toInt)), .int (Int32.ofInt ((xs (x3 + 1).toNat).toInt)), .ref 0]) rfl ?_
      refine lf_iadd 404 rfl rfl ?_
      obtain ⟨o54, h⟩ := h
      refine lf_iro 405 0 L (L : Int) rfl rfl rfl rfl (Nat.ble_eq_true_of_le (by omega)) o54 ?_
      refine lf_seg 3 (pc' := 408) (lv' := [(0, .ref (px_SC + 0)), (1, .ref 0), (2, .ref 95), (3, .int (Int32.ofInt x3))]) (st' := [.int (Int32.ofInt 4), .int (Int32.ofInt x3), .ref (px_SC + 0), .int (Int32.ofInt ((xs (x3 + 3).toNat).toInt)), .int (Int32.ofInt ((xs (x3 + 2).toNat).toInt)), .int (Int32.ofInt ((xs (x3 + 1).toNat).toInt)), .ref 0]) rfl ?_
      refine lf_iadd 409 rfl rfl ?_
      obtain ⟨o55, h⟩ := h
      refine lf_iro 410 0 L (L : Int) rfl rfl rfl rfl (Nat.ble_eq_true_of_le (by omega)) o55 ?_
      refine lf_seg 3 (pc' := 413) (lv' := [(0, .ref (px_SC + 0)), (1, .ref 0), (2, .ref 95), (3, .int (Int32.ofInt x3))]) (st' := [.int (Int32.ofInt 5), .int (Int32.ofInt x3), .ref (px_SC + 0), .int (Int32.ofInt ((xs (x3 + 4).toNat).toInt)), .int (Int32.ofInt ((xs (x3 + 3).toNat).toInt)), .int (Int32.ofInt ((xs (x3 + 2).toNat).toInt)), .int (Int32.ofInt ((xs (x3 + 1).toNat).toInt)), .ref 0]) rfl ?_
      refine lf_iadd 414 rfl rfl ?_
      obtain ⟨o56, h⟩ := h
      refine lf_iro 415 0 L (L : Int) rfl rfl rfl rfl (Nat.ble_eq_true_of_le (by omega)) o56 ?_
      refine lf_callI 418 rfl rfl rfl rfl (gm_25 h) (fun r58 s57 h => ?_)
      refine lf_seg 5 (pc' := 423) (lv' := [(0, .ref (px_SC + 0)), (1, .ref 0), (2, .ref 95), (3, .int (Int32.ofInt x3))]) (st' := [.int (Int32.ofInt 1), .int (Int32.ofInt x3), .ref (px_SC + 0), .ref 95]) rfl ?_
      refine lf_iadd 424 rfl rfl ?_
      refine lf_iro 425 0 L (L : Int) rfl rfl rfl rfl (Nat.ble_eq_true_of_le (by omega)) o52 ?_
      refine lf_seg 3 (pc' := 428) (lv' := [(0, .ref (px_SC + 0)), (1, .ref 0), (2, .ref 95), (3, .int (Int32.ofInt x3))]) (st' := [.int (Int32.ofInt 2), .int (Int32.ofInt x3), .ref (px_SC + 0), .int (Int32.ofInt ((xs (x3 + 1).toNat).toInt)), .ref 95]) rfl ?_
      refine lf_iadd 429 rfl rfl ?_
      refine lf_iro 430 0 L (L : Int) rfl rfl rfl rfl (Nat.ble_eq_true_of_le (by omega)) o53 ?_
      refine lf_seg 3 (pc' := 433) (lv' := [(0, .ref (px_SC + 0)), (1, .ref 0), (2, .ref 95), (3, .int (Int32.ofInt x3))]) (st' := [.int (Int32.ofInt 3), .int (Int32.ofInt x3), .ref (px_SC + 0), .int (Int32.ofInt ((xs (x3 + 2).toNat).toInt)), .int (Int32.ofInt ((xs (x3 + 1).toNat).toInt)), .ref 95]) rfl ?_
      refine lf_iadd 434 rfl rfl ?_
      refine lf_iro 435 0 L (L : Int) rfl rfl rfl rfl (Nat.ble_eq_true_of_le (by omega)) o54 ?_
      refine lf_seg 3 (pc' := 438) (lv' := [(0, .ref (px_SC + 0)), (1, .ref 0), (2, .ref 95), (3, .int (Int32.ofInt x3))]) (st' := [.int (Int32.ofInt 4), .int (Int32.ofInt x3), .ref (px_SC + 0), .int (Int32.ofInt ((xs (x3 + 3).toNat).toInt)), .int (Int32.ofInt ((xs (x3 + 2).toNat).toInt)), .int (Int32.ofInt ((xs (x3 + 1).toNat).toInt)), .ref 95]) rfl ?_
      refine lf_iadd 439 rfl rfl ?_
      refine lf_iro 440 0 L (L : Int) rfl rfl rfl rfl (Nat.ble_eq_true_of_le (by omega)) o55 ?_
      refine lf_seg 3 (pc' := 443) (lv' := [(0, .ref (px_SC + 0)), (1, .ref 0), (2, .ref 95), (3, .int (Int32.ofInt x3))]) (st' := [.int (Int32.ofInt 5), .int (Int32.ofInt x3), .ref (px_SC + 0), .int (Int32.ofInt ((xs (x3 + 4).toNat).toInt)), .int (Int32.ofInt ((xs (x3 + 3).toNat).toInt)), .int (Int32.ofInt ((xs (x3 + 2).toNat).toInt)), .int (Int32.ofInt ((xs (x3 + 1).toNat).toInt)), .ref 95]) rfl ?_
      refine lf_iadd 444 rfl rfl ?_
      refine lf_iro 445 0 L (L : Int) rfl rfl rfl rfl (Nat.ble_eq_true_of_le (by omega)) o56 ?_
      refine lf_callI 448 rfl rfl rfl rfl (gm_192 h) (fun r60 s59 h => ?_)
      refine lf_seg 2 (pc' := 1603) (lv' := [(0, .ref (px_SC + 0)), (1, .ref 0), (2, .ref 95), (3, .int (Int32.ofInt x3))]) (st' := []) rfl ?_
      refine lf_sub (l := [(0, .ref (px_SC + 0)), (1, .ref 0), (2, .ref 95), (3, .int (Int32.ofInt x3))]) (lf_sb1 rfl (lf_sb1 rfl (lf_sb1 rfl (lf_sb1 rfl lf_sb0)))) ?_
      exact gm_328_p1603 hL hX18 h
    · have h := h.2.2.2.2.2.1 c
      refine lf_seg 4 (pc' := 456) (lv' := [(0, .ref (px_SC + 0)), (1, .ref 0), (2, .ref 95), (3, .int (Int32.ofInt x3))]) (st' := [.int (Int32.ofInt 1), .int (Int32.ofInt x3), .ref (px_SC + 0), .ref 0]) rfl ?_
      refine lf_iadd 457 rfl rfl ?_
      obtain ⟨o61, h⟩ := h
      refine lf_iro 458 0 L (L : Int) rfl rfl rfl rfl (Nat.ble_eq_true_of_le (by omega)) o61 ?_
      refine lf_callI 461 rfl rfl rfl rfl (gm_27 h) (fun r63 s62 h => ?_)
      refine lf_seg 5 (pc' := 466) (lv' := [(0, .ref (px_SC + 0)), (1, .ref 0), (2, .ref 95), (3, .int (Int32.ofInt x3))]) (st' := [.int (Int32.ofInt 1), .int (Int32.ofInt x3), .ref (px_SC + 0), .ref 95]) rfl ?_
      refine lf_iadd 467 rfl rfl ?_
      refine lf_iro 468 0 L (L : Int) rfl rfl rfl rfl (Nat.ble_eq_true_of_le (by omega)) o61 ?_
      refine lf_callI 471 rfl rfl rfl rfl (gm_194 h) (fun r65 s64 h => ?_)
      refine lf_seg 2 (pc' := 1603) (lv' := [(0, .ref (px_SC + 0)), (1, .ref 0), (2, .ref 95), (3, .int (Int32.ofInt x3))]) (st' := []) rfl ?_
      refine lf_sub (l := [(0, .ref (px_SC + 0)), (1, .ref 0), (2, .ref 95), (3, .int (Int32.ofInt x3))]) (lf_sb1 rfl (lf_sb1 rfl (lf_sb1 rfl (lf_sb1 rfl lf_sb0)))) ?_
      exact gm_328_p1603 hL hX18 h
    · have h := h.2.2.2.2.2.2.1 c
      refine lf_seg 1 (pc' := 476) (lv' := [(0, .ref (px_SC + 0)), (1, .ref 0), (2, .ref 95), (3, .int (Int32.ofInt x3))]) (st' := [.ref 0]) rfl ?_
      refine lf_callI 479 rfl rfl rfl rfl (gm_28 h) (fun r67 s66 h => ?_)
      refine lf_seg 2 (pc' := 481) (lv' := [(0, .ref (px_SC + 0)), (1, .ref 0), (2, .ref 95), (3, .int (Int32.ofInt x3))]) (st' := [.ref 95]) rfl ?_
      refine lf_callI 484 rfl rfl rfl rfl (gm_195 h) (fun r69 s68 h => ?_)
      refine lf_seg 2 (pc' := 1603) (lv' := [(0, .ref (px_SC + 0)), (1, .ref 0), (2, .ref 95), (3, .int (Int32.ofInt x3))]) (st' := []) rfl ?_
      refine lf_sub (l := [(0, .ref (px_SC + 0)), (1, .ref 0), (2, .ref 95), (3, .int (Int32.ofInt x3))]) (lf_sb1 rfl (lf_sb1 rfl (lf_sb1 rfl (lf_sb1 rfl lf_sb0)))) ?_
      exact gm_328_p1603 hL hX18 h
    · have h := h.2.2.2.2.2.2.2.1 c
      refine lf_seg 4 (pc' := 492) (lv' := [(0, .ref (px_SC + 0)), (1, .ref 0), (2, .ref 95), (3, .int (Int32.ofInt x3))]) (st' := [.int (Int32.ofInt 1), .int (Int32.ofInt x3), .ref (px_SC + 0), .ref 0]) rfl ?_
      refine lf_iadd 493 rfl rfl ?_
      obtain ⟨o70, h⟩ := h
      refine lf_iro 494 0 L (L : Int) rfl rfl rfl rfl (Nat.ble_eq_true_of_le (by omega)) o70 ?_
      refine lf_callI 497 rfl rfl rfl rfl (gm_59 h) (fun r72 s71 h => ?_)
      refine lf_seg 5 (pc' := 502) (lv' := [(0, .ref (px_SC + 0)), (1, .ref 0), (2, .ref 95), (3, .int (Int32.ofInt x3))]) (st' := [.int (Int32.ofInt 1), .int (Int32.ofInt x3), .ref (px_SC + 0), .ref 95]) rfl ?_
      refine lf_iadd 503 rfl rfl ?_
      refine lf_iro 504 0 L (L : Int) rfl rfl rfl rfl (Nat.ble_eq_true_of_le (by omega)) o70 ?_
      refine lf_callI 507 rfl rfl rfl rfl (gm_236 h) (fun r74 s73 h => ?_)
      refine lf_seg 2 (pc' := 1603) (lv' := [(0, .ref (px_SC + 0)), (1, .ref 0), (2, .ref 95), (3, .int (Int32.ofInt x3))]) (st' := []) rfl ?_
      refine lf_sub (l := [(0, .ref (px_SC + 0)), (1, .ref 0), (2, .ref 95), (3, .int (Int32.ofInt x3))]) (lf_sb1 rfl (lf_sb1 rfl (lf_sb1 rfl (lf_sb1 rfl lf_sb0)))) ?_
      exact gm_328_p1603 hL hX18 h
    · have h := h.2.2.2.2.2.2.2.2.1 c
      refine lf_seg 4 (pc' := 515) (lv' := [(0, .ref (px_SC + 0)), (1, .ref 0), (2, .ref 95), (3, .int (Int32.ofInt x3))]) (st' := [.int (Int32.ofInt 1), .int (Int32.ofInt x3), .ref (px_SC + 0), .ref 0]) rfl ?_
      refine lf_iadd 516 rfl rfl ?_
      obtain ⟨o75, h⟩ := h
      refine lf_iro 517 0 L (L : Int) rfl rfl rfl rfl (Nat.ble_eq_true_of_le (by omega)) o75 ?_
      refine lf_callZ 520 rfl rfl rfl rfl (gm_60 h) (fun z77 s76 h => ?_)
      refine lf_seg 5 (pc' := 525) (lv' := [(0, .ref (px_SC + 0)), (1, .ref 0), (2, .ref 95), (3, .int (Int32.ofInt x3))]) (st' := [.int (Int32.ofInt 1), .int (Int32.ofInt x3), .ref (px_SC + 0), .ref 95]) rfl ?_
      refine lf_iadd 526 rfl rfl ?_
      refine lf_iro 527 0 L (L : Int) rfl rfl rfl rfl (Nat.ble_eq_true_of_le (by omega)) o75 ?_
      refine lf_callZ 530 rfl rfl rfl rfl (gm_237 h) (fun z79 s78 h => ?_)
      refine lf_seg 2 (pc' := 1603) (lv' := [(0, .ref (px_SC + 0)), (1, .ref 0), (2, .ref 95), (3, .int (Int32.ofInt x3))]) (st' := []) rfl ?_
      refine lf_sub (l := [(0, .ref (px_SC + 0)), (1, .ref 0), (2, .ref 95), (3, .int (Int32.ofInt x3))]) (lf_sb1 rfl (lf_sb1 rfl (lf_sb1 rfl (lf_sb1 rfl lf_sb0)))) ?_
      exact gm_328_p1603 hL hX18 h
    · have h := h.2.2.2.2.2.2.2.2.2.1 c
      refine lf_seg 4 (pc' := 538) (lv' := [(0, .ref (px_SC + 0)), (1, .ref 0), (2, .ref 95), (3, .int (Int32.ofInt x3))]) (st' := [.int (Int32.ofInt 1), .int (Int32.ofInt x3), .ref (px_SC + 0), .ref 0]) rfl ?_
      refine lf_iadd 539 rfl rfl ?_
      obtain ⟨o80, h⟩ := h
      refine lf_iro 540 0 L (L : Int) rfl rfl rfl rfl (Nat.ble_eq_true_of_le (by omega)) o80 ?_
      refine lf_seg 3 (pc' := 543) (lv' := [(0, .ref (px_SC + 0)), (1, .ref 0), (2, .ref 95), (3, .int (Int32.ofInt x3))]) (st' := [.int (Int32.ofInt 2), .int (Int32.ofInt x3), .ref (px_SC + 0), .int (Int32.ofInt ((xs (x3 + 1).toNat).toInt)), .ref 0]) rfl ?_
      refine lf_iadd 544 rfl rfl ?_
      obtain ⟨o81, h⟩ := h
      refine lf_iro 545 0 L (L : Int) rfl rfl rfl rfl (Nat.ble_eq_true_of_le (by omega)) o81 ?_
      refine lf_callI 548 rfl rfl rfl rfl (gm_63 h) (fun r83 s82 h => ?_)
      refine lf_seg 5 (pc' := 553) (lv' := [(0, .ref (px_SC + 0)), (1, .ref 0), (2, .ref 95), (3, .int (Int32.ofInt x3))]) (st' := [.int (Int32.ofInt 1), .int (Int32.ofInt x3), .ref (px_SC + 0), .ref 95]) rfl ?_
      refine lf_iadd 554 rfl rfl ?_
      refine lf_iro 555 0 L (L : Int) rfl rfl rfl rfl (Nat.ble_eq_true_of_le (by omega)) o80 ?_
      refine lf_seg 3 (pc' := 558) (lv' := [(0, .ref (px_SC + 0)), (1, .ref 0), (2, .ref 95), (3, .int (Int32.ofInt x3))]) (st' := [.int (Int32.ofInt 2), .int (Int32.ofInt x3), .ref (px_SC + 0), .int (Int32.ofInt ((xs (x3 + 1).toNat).toInt)), .ref 95]) rfl ?_
      refine lf_iadd 559 rfl rfl ?_
      refine lf_iro 560 0 L (L : Int) rfl rfl rfl rfl (Nat.ble_eq_true_of_le (by omega)) o81 ?_
      refine lf_callI 563 rfl rfl rfl rfl (gm_240 h) (fun r85 s84 h => ?_)
      refine lf_seg 2 (pc' := 1603) (lv' := [(0, .ref (px_SC + 0)), (1, .ref 0), (2, .ref 95), (3, .int (Int32.ofInt x3))]) (st' := []) rfl ?_
      refine lf_sub (l := [(0, .ref (px_SC + 0)), (1, .ref 0), (2, .ref 95), (3, .int (Int32.ofInt x3))]) (lf_sb1 rfl (lf_sb1 rfl (lf_sb1 rfl (lf_sb1 rfl lf_sb0)))) ?_
      exact gm_328_p1603 hL hX18 h
    · have h := h.2.2.2.2.2.2.2.2.2.2.1 c
      refine lf_seg 4 (pc' := 571) (lv' := [(0, .ref (px_SC + 0)), (1, .ref 0), (2, .ref 95), (3, .int (Int32.ofInt x3))]) (st' := [.int (Int32.ofInt 1), .int (Int32.ofInt x3), .ref (px_SC + 0), .ref 0]) rfl ?_
      refine lf_iadd 572 rfl rfl ?_
      obtain ⟨o86, h⟩ := h
      refine lf_iro 573 0 L (L : Int) rfl rfl rfl rfl (Nat.ble_eq_true_of_le (by omega)) o86 ?_
      refine lf_callI 576 rfl rfl rfl rfl (gm_70 h) (fun r88 s87 h => ?_)
      refine lf_seg 5 (pc' := 581) (lv' := [(0, .ref (px_SC + 0)), (1, .ref 0), (2, .ref 95), (3, .int (Int32.ofInt x3))]) (st' := [.int (Int32.ofInt 1), .int (Int32.ofInt x3), .ref (px_SC + 0), .ref 95]) rfl ?_
      refine lf_iadd 582 rfl rfl ?_
      refine lf_iro 583 0 L (L : Int) rfl rfl rfl rfl (Nat.ble_eq_true_of_le (by omega)) o86 ?_
      refine lf_callI 586 rfl rfl rfl rfl (gm_257 h) (fun r90 s89 h => ?_)
      refine lf_seg 2 (pc' := 1603) (lv' := [(0, .ref (px_SC + 0)), (1, .ref 0), (2, .ref 95), (3, .int (Int32.ofInt x3))]) (st' := []) rfl ?_
      refine lf_sub (l := [(0, .ref (px_SC + 0)), (1, .ref 0), (2, .ref 95), (3, .int (Int32.ofInt x3))]) (lf_sb1 rfl (lf_sb1 rfl (lf_sb1 rfl (lf_sb1 rfl lf_sb0)))) ?_
      exact gm_328_p1603 hL hX18 h
    · have h := h.2.2.2.2.2.2.2.2.2.2.2.1 c
      refine lf_seg 4 (pc' := 594) (lv' := [(0, .ref (px_SC + 0)), (1, .ref 0), (2, .ref 95), (3, .int (Int32.ofInt x3))]) (st' := [.int (Int32.ofInt 1), .int (Int32.ofInt x3), .ref (px_SC + 0), .ref 0]) rfl ?_
      refine lf_iadd 595 rfl rfl ?_
      obtain ⟨o91, h⟩ := h
      refine lf_iro 596 0 L (L : Int) rfl rfl rfl rfl (Nat.ble_eq_true_of_le (by omega)) o91 ?_
      refine lf_seg 3 (pc' := 599) (lv' := [(0, .ref (px_SC + 0)), (1, .ref 0), (2, .ref 95), (3, .int (Int32.ofInt x3))]) (st' := [.int (Int32.ofInt 2), .int (Int32.ofInt x3), .ref (px_SC + 0), .int (Int32.ofInt ((xs (x3 + 1).toNat).toInt)), .ref 0]) rfl ?_
      refine lf_iadd 600 rfl rfl ?_
      obtain ⟨o92, h⟩ := h
      refine lf_iro 601 0 L (L : Int) rfl rfl rfl rfl (Nat.ble_eq_true_of_le (by omega)) o92 ?_
      refine lf_callZ 604 rfl rfl rfl rfl (gm_98 h) (fun z94 s93 h => ?_)
      refine lf_seg 5 (pc' := 609) (lv' := [(0, .ref (px_SC + 0)), (1, .ref 0), (2, .ref 95), (3, .int (Int32.ofInt x3))]) (st' := [.int (Int32.ofInt 1), .int (Int32.ofInt x3), .ref (px_SC + 0), .ref 95]) rfl ?_
      refine lf_iadd 610 rfl rfl ?_
      refine lf_iro 611 0 L (L : Int) rfl rfl rfl rfl (Nat.ble_eq_true_of_le (by omega)) o91 ?_
      refine lf_seg 3 (pc' := 614) (lv' := [(0, .ref (px_SC + 0)), (1, .ref 0), (2, .ref 95), (3, .int (Int32.ofInt x3))]) (st' := [.int (Int32.ofInt 2), .int (Int32.ofInt x3), .ref (px_SC + 0), .int (Int32.ofInt ((xs (x3 + 1).toNat).toInt)), .ref 95]) rfl ?_
      refine lf_iadd 615 rfl rfl ?_
      refine lf_iro 616 0 L (L : Int) rfl rfl rfl rfl (Nat.ble_eq_true_of_le (by omega)) o92 ?_
      refine lf_callZ 619 rfl rfl rfl rfl (gm_248 h) (fun z96 s95 h => ?_)
      refine lf_seg 2 (pc' := 1603) (lv' := [(0, .ref (px_SC + 0)), (1, .ref 0), (2, .ref 95), (3, .int (Int32.ofInt x3))]) (st' := []) rfl ?_
      refine lf_sub (l := [(0, .ref (px_SC + 0)), (1, .ref 0), (2, .ref 95), (3, .int (Int32.ofInt x3))]) (lf_sb1 rfl (lf_sb1 rfl (lf_sb1 rfl (lf_sb1 rfl lf_sb0)))) ?_
      exact gm_328_p1603 hL hX18 h
    · have h := h.2.2.2.2.2.2.2.2.2.2.2.2.1 c
      refine lf_seg 4 (pc' := 627) (lv' := [(0, .ref (px_SC + 0)), (1, .ref 0), (2, .ref 95), (3, .int (Int32.ofInt x3))]) (st' := [.int (Int32.ofInt 1), .int (Int32.ofInt x3), .ref (px_SC + 0), .ref 0]) rfl ?_
      refine lf_iadd 628 rfl rfl ?_
      obtain ⟨o97, h⟩ := h
      refine lf_iro 629 0 L (L : Int) rfl rfl rfl rfl (Nat.ble_eq_true_of_le (by omega)) o97 ?_
      refine lf_seg 3 (pc' := 632) (lv' := [(0, .ref (px_SC + 0)), (1, .ref 0), (2, .ref 95), (3, .int (Int32.ofInt x3))]) (st' := [.int (Int32.ofInt 2), .int (Int32.ofInt x3), .ref (px_SC + 0), .int (Int32.ofInt ((xs (x3 + 1).toNat).toInt)), .ref 0]) rfl ?_
      refine lf_iadd 633 rfl rfl ?_
      obtain ⟨o98, h⟩ := h
      refine lf_iro 634 0 L (L : Int) rfl rfl rfl rfl (Nat.ble_eq_true_of_le (by omega)) o98 ?_
      refine lf_if_eq 641 637 rfl rfl rfl (lf_R_i _) (fun c => ?_) (fun c => ?_)
      · have h := h.1 c
        refine lf_seg 1 (pc' := 642) (lv' := [(0, .ref (px_SC + 0)), (1, .ref 0), (2, .ref 95), (3, .int (Int32.ofInt x3))]) (st' := [.int (Int32.ofInt 0), .int (Int32.ofInt ((xs (x3 + 1).toNat).toInt)), .ref 0]) rfl ?_
        refine lf_sub (l := [(0, .ref (px_SC + 0)), (1, .ref 0), (2, .ref 95), (3, .int (Int32.ofInt x3))]) (lf_sb1 rfl (lf_sb1 rfl (lf_sb1 rfl (lf_sb1 rfl lf_sb0)))) ?_
        exact gm_328_p642 hL hX18 h
      · have h := h.2 c
        refine lf_seg 2 (pc' := 642) (lv' := [(0, .ref (px_SC + 0)), (1, .ref 0), (2, .ref 95), (3, .int (Int32.ofInt x3))]) (st' := [.int (Int32.ofInt 1), .int (Int32.ofInt ((xs (x3 + 1).toNat).toInt)), .ref 0]) rfl ?_
        refine lf_sub (l := [(0, .ref (px_SC + 0)), (1, .ref 0), (2, .ref 95), (3, .int (Int32.ofInt x3))]) (lf_sb1 rfl (lf_sb1 rfl (lf_sb1 rfl (lf_sb1 rfl lf_sb0)))) ?_
        exact gm_328_p642 hL hX18 h
    · have h := h.2.2.2.2.2.2.2.2.2.2.2.2.2.1 c
      refine lf_seg 4 (pc' := 676) (lv' := [(0, .ref (px_SC + 0)), (1, .ref 0), (2, .ref 95), (3, .int (Int32.ofInt x3))]) (st' := [.int (Int32.ofInt 1), .int (Int32.ofInt x3), .ref (px_SC + 0), .ref 0]) rfl ?_
      refine lf_iadd 677 rfl rfl ?_
      obtain ⟨o106, h⟩ := h
      refine lf_iro 678 0 L (L : Int) rfl rfl rfl rfl (Nat.ble_eq_true_of_le (by omega)) o106 ?_
      refine lf_seg 3 (pc' := 681) (lv' := [(0, .ref (px_SC + 0)), (1, .ref 0), (2, .ref 95), (3, .int (Int32.ofInt x3))]) (st' := [.int (Int32.ofInt 2), .int (Int32.ofInt x3), .ref (px_SC + 0), .int (Int32.ofInt ((xs (x3 + 1).toNat).toInt)), .ref 0]) rfl ?_
      refine lf_iadd 682 rfl rfl ?_
      obtain ⟨o107, h⟩ := h
      refine lf_iro 683 0 L (L : Int) rfl rfl rfl rfl (Nat.ble_eq_true_of_le (by omega)) o107 ?_
      refine lf_callI 686 rfl rfl rfl rfl (gm_102 h) (fun r109 s108 h => ?_)
      refine lf_seg 5 (pc' := 691) (lv' := [(0, .ref (px_SC + 0)), (1, .ref 0), (2, .ref 95), (3, .int (Int32.ofInt x3))]) (st' := [.int (Int32.ofInt 1), .int (Int32.ofInt x3), .ref (px_SC + 0), .ref 95]) rfl ?_
      refine lf_iadd 692 rfl rfl ?_
      refine lf_iro 693 0 L (L : Int) rfl rfl rfl rfl (Nat.ble_eq_true_of_le (by omega)) o106 ?_
      refine lf_seg 3 (pc' := 696) (lv' := [(0, .ref (px_SC + 0)), (1, .ref 0), (2, .ref 95), (3, .int (Int32.ofInt x3))]) (st' := [.int (Int32.ofInt 2), .int (Int32.ofInt x3), .ref (px_SC + 0), .int (Int32.ofInt ((xs (x3 + 1).toNat).toInt)), .ref 95]) rfl ?_
      refine lf_iadd 697 rfl rfl ?_
      refine lf_iro 698 0 L (L : Int) rfl rfl rfl rfl (Nat.ble_eq_true_of_le (by omega)) o107 ?_
      refine lf_callI 701 rfl rfl rfl rfl (gm_253 h) (fun r111 s110 h => ?_)
      refine lf_seg 2 (pc' := 1603) (lv' := [(0, .ref (px_SC + 0)), (1, .ref 0), (2, .ref 95), (3, .int (Int32.ofInt x3))]) (st' := []) rfl ?_
      refine lf_sub (l := [(0, .ref (px_SC + 0)), (1, .ref 0), (2, .ref 95), (3, .int (Int32.ofInt x3))]) (lf_sb1 rfl (lf_sb1 rfl (lf_sb1 rfl (lf_sb1 rfl lf_sb0)))) ?_
      exact gm_328_p1603 hL hX18 h
    · have h := h.2.2.2.2.2.2.2.2.2.2.2.2.2.2.1 c
      refine lf_seg 4 (pc' := 709) (lv' := [(0, .ref (px_SC + 0)), (1, .ref 0), (2, .ref 95), (3, .int (Int32.ofInt x3))]) (st' := [.int (Int32.ofInt 1), .int (Int32.ofInt x3), .ref (px_SC + 0), .ref 0]) rfl ?_
      refine lf_iadd 710 rfl rfl ?_
      obtain ⟨o112, h⟩ := h
      refine lf_iro 711 0 L (L : Int) rfl rfl rfl rfl (Nat.ble_eq_true_of_le (by omega)) o112 ?_
      refine lf_callI 714 rfl rfl rfl rfl (gm_103 h) (fun r114 s113 h => ?_)
      refine lf_seg 5 (pc' := 719) (lv' := [(0, .ref (px_SC + 0)), (1, .ref 0), (2, .ref 95), (3, .int (Int32.ofInt x3))]) (st' := [.int (Int32.ofInt 1), .int (Int32.ofInt x3), .ref (px_SC + 0), .ref 95]) rfl ?_
      refine lf_iadd 720 rfl rfl ?_
      refine lf_iro 721 0 L (L : Int) rfl rfl rfl rfl (Nat.ble_eq_true_of_le (by omega)) o112 ?_
      refine lf_callI 724 rfl rfl rfl rfl (gm_280 h) (fun r116 s115 h => ?_)
      refine lf_seg 2 (pc' := 1603) (lv' := [(0, .ref (px_SC + 0)), (1, .ref 0), (2, .ref 95), (3, .int (Int32.ofInt x3))]) (st' := []) rfl ?_
      refine lf_sub (l := [(0, .ref (px_SC + 0)), (1, .ref 0), (2, .ref 95), (3, .int (Int32.ofInt x3))]) (lf_sb1 rfl (lf_sb1 rfl (lf_sb1 rfl (lf_sb1 rfl lf_sb0)))) ?_
      exact gm_328_p1603 hL hX18 h
    · have h := h.2.2.2.2.2.2.2.2.2.2.2.2.2.2.2.1 c
      refine lf_seg 4 (pc' := 732) (lv' := [(0, .ref (px_SC + 0)), (1, .ref 0), (2, .ref 95), (3, .int (Int32.ofInt x3))]) (st' := [.int (Int32.ofInt 1), .int (Int32.ofInt x3), .ref (px_SC + 0), .ref 0]) rfl ?_
      refine lf_iadd 733 rfl rfl ?_
      obtain ⟨o117, h⟩ := h
      refine lf_iro 734 0 L (L : Int) rfl rfl rfl rfl (Nat.ble_eq_true_of_le (by omega)) o117 ?_
      refine lf_seg 3 (pc' := 737) (lv' := [(0, .ref (px_SC + 0)), (1, .ref 0), (2, .ref 95), (3, .int (Int32.ofInt x3))]) (st' := [.int (Int32.ofInt 2), .int (Int32.ofInt x3), .ref (px_SC + 0), .int (Int32.ofInt ((xs (x3 + 1).toNat).toInt)), .ref 0]) rfl ?_
      refine lf_iadd 738 rfl rfl ?_
      obtain ⟨o118, h⟩ := h
      refine lf_iro 739 0 L (L : Int) rfl rfl rfl rfl (Nat.ble_eq_true_of_le (by omega)) o118 ?_
      refine lf_callI 742 rfl rfl rfl rfl (gm_105 h) (fun r120 s119 h => ?_)
      refine lf_seg 5 (pc' := 747) (lv' := [(0, .ref (px_SC + 0)), (1, .ref 0), (2, .ref 95), (3, .int (Int32.ofInt x3))]) (st' := [.int (Int32.ofInt 1), .int (Int32.ofInt x3), .ref (px_SC + 0), .ref 95]) rfl ?_
      refine lf_iadd 748 rfl rfl ?_
      refine lf_iro 749 0 L (L : Int) rfl rfl rfl rfl (Nat.ble_eq_true_of_le (by omega)) o117 ?_
      refine lf_seg 3 (pc' := 752) (lv' := [(0, .ref (px_SC + 0)), (1, .ref 0), (2, .ref 95), (3, .int (Int32.ofInt x3))]) (st' := [.int (Int32.ofInt 2), .int (Int32.ofInt x3), .ref (px_SC + 0), .int (Int32.ofInt ((xs (x3 + 1).toNat).toInt)), .ref 95]) rfl ?_
      refine lf_iadd 753 rfl rfl ?_
      refine lf_iro 754 0 L (L : Int) rfl rfl rfl rfl (Nat.ble_eq_true_of_le (by omega)) o118 ?_
      refine lf_callI 757 rfl rfl rfl rfl (gm_282 h) (fun r122 s121 h => ?_)
      refine lf_seg 2 (pc' := 1603) (lv' := [(0, .ref (px_SC + 0)), (1, .ref 0), (2, .ref 95), (3, .int (Int32.ofInt x3))]) (st' := []) rfl ?_
      refine lf_sub (l := [(0, .ref (px_SC + 0)), (1, .ref 0), (2, .ref 95), (3, .int (Int32.ofInt x3))]) (lf_sb1 rfl (lf_sb1 rfl (lf_sb1 rfl (lf_sb1 rfl lf_sb0)))) ?_
      exact gm_328_p1603 hL hX18 h
    · have h := h.2.2.2.2.2.2.2.2.2.2.2.2.2.2.2.2.1 c
      refine lf_seg 1 (pc' := 762) (lv' := [(0, .ref (px_SC + 0)), (1, .ref 0), (2, .ref 95), (3, .int (Int32.ofInt x3))]) (st' := [.ref 0]) rfl ?_
      refine lf_callI 765 rfl rfl rfl rfl (gm_107 h) (fun r124 s123 h => ?_)
      refine lf_seg 2 (pc' := 767) (lv' := [(0, .ref (px_SC + 0)), (1, .ref 0), (2, .ref 95), (3, .int (Int32.ofInt x3))]) (st' := [.ref 95]) rfl ?_
      refine lf_callI 770 rfl rfl rfl rfl (gm_238 h) (fun r126 s125 h => ?_)
      refine lf_seg 2 (pc' := 1603) (lv' := [(0, .ref (px_SC + 0)), (1, .ref 0), (2, .ref 95), (3, .int (Int32.ofInt x3))]) (st' := []) rfl ?_
      refine lf_sub (l := [(0, .ref (px_SC + 0)), (1, .ref 0), (2, .ref 95), (3, .int (Int32.ofInt x3))]) (lf_sb1 rfl (lf_sb1 rfl (lf_sb1 rfl (lf_sb1 rfl lf_sb0)))) ?_
      exact gm_328_p1603 hL hX18 h
    · have h := h.2.2.2.2.2.2.2.2.2.2.2.2.2.2.2.2.2.1 c
      refine lf_seg 4 (pc' := 778) (lv' := [(0, .ref (px_SC + 0)), (1, .ref 0), (2, .ref 95), (3, .int (Int32.ofInt x3))]) (st' := [.int (Int32.ofInt 1), .int (Int32.ofInt x3), .ref (px_SC + 0), .ref 0]) rfl ?_
      refine lf_iadd 779 rfl rfl ?_
      obtain ⟨o127, h⟩ := h
      refine lf_iro 780 0 L (L : Int) rfl rfl rfl rfl (Nat.ble_eq_true_of_le (by omega)) o127 ?_
      refine lf_seg 3 (pc' := 783) (lv' := [(0, .ref (px_SC + 0)), (1, .ref 0), (2, .ref 95), (3, .int (Int32.ofInt x3))]) (st' := [.int (Int32.ofInt 2), .int (Int32.ofInt x3), .ref (px_SC + 0), .int (Int32.ofInt ((xs (x3 + 1).toNat).toInt)), .ref 0]) rfl ?_
      refine lf_iadd 784 rfl rfl ?_
      obtain ⟨o128, h⟩ := h
      refine lf_iro 785 0 L (L : Int) rfl rfl rfl rfl (Nat.ble_eq_true_of_le (by omega)) o128 ?_
      refine lf_callI 788 rfl rfl rfl rfl (gm_110 h) (fun r130 s129 h => ?_)
      refine lf_seg 5 (pc' := 793) (lv' := [(0, .ref (px_SC + 0)), (1, .ref 0), (2, .ref 95), (3, .int (Int32.ofInt x3))]) (st' := [.int (Int32.ofInt 1), .int (Int32.ofInt x3), .ref (px_SC + 0), .ref 95]) rfl ?_
      refine lf_iadd 794 rfl rfl ?_
      refine lf_iro 795 0 L (L : Int) rfl rfl rfl rfl (Nat.ble_eq_true_of_le (by omega)) o127 ?_
      refine lf_seg 3 (pc' := 798) (lv' := [(0, .ref (px_SC + 0)), (1, .ref 0), (2, .ref 95), (3, .int (Int32.ofInt x3))]) (st' := [.int (Int32.ofInt 2), .int (Int32.ofInt x3), .ref (px_SC + 0), .int (Int32.ofInt ((xs (x3 + 1).toNat).toInt)), .ref 95]) rfl ?_
      refine lf_iadd 799 rfl rfl ?_
      refine lf_iro 800 0 L (L : Int) rfl rfl rfl rfl (Nat.ble_eq_true_of_le (by omega)) o128 ?_
      refine lf_callI 803 rfl rfl rfl rfl (gm_284 h) (fun r132 s131 h => ?_)
      refine lf_seg 2 (pc' := 1603) (lv' := [(0, .ref (px_SC + 0)), (1, .ref 0), (2, .ref 95), (3, .int (Int32.ofInt x3))]) (st' := []) rfl ?_
      refine lf_sub (l := [(0, .ref (px_SC + 0)), (1, .ref 0), (2, .ref 95), (3, .int (Int32.ofInt x3))]) (lf_sb1 rfl (lf_sb1 rfl (lf_sb1 rfl (lf_sb1 rfl lf_sb0)))) ?_
      exact gm_328_p1603 hL hX18 h
    · have h := h.2.2.2.2.2.2.2.2.2.2.2.2.2.2.2.2.2.2.1 c
      refine lf_seg 4 (pc' := 811) (lv' := [(0, .ref (px_SC + 0)), (1, .ref 0), (2, .ref 95), (3, .int (Int32.ofInt x3))]) (st' := [.int (Int32.ofInt 1), .int (Int32.ofInt x3), .ref (px_SC + 0), .ref 0]) rfl ?_
      refine lf_iadd 812 rfl rfl ?_
      obtain ⟨o133, h⟩ := h
      refine lf_iro 813 0 L (L : Int) rfl rfl rfl rfl (Nat.ble_eq_true_of_le (by omega)) o133 ?_
      refine lf_seg 3 (pc' := 816) (lv' := [(0, .ref (px_SC + 0)), (1, .ref 0), (2, .ref 95), (3, .int (Int32.ofInt x3))]) (st' := [.int (Int32.ofInt 2), .int (Int32.ofInt x3), .ref (px_SC + 0), .int (Int32.ofInt ((xs (x3 + 1).toNat).toInt)), .ref 0]) rfl ?_
      refine lf_iadd 817 rfl rfl ?_
      obtain ⟨o134, h⟩ := h
      refine lf_iro 818 0 L (L : Int) rfl rfl rfl rfl (Nat.ble_eq_true_of_le (by omega)) o134 ?_
      refine lf_callI 821 rfl rfl rfl rfl (gm_111 h) (fun r136 s135 h => ?_)
      refine lf_seg 5 (pc' := 826) (lv' := [(0, .ref (px_SC + 0)), (1, .ref 0), (2, .ref 95), (3, .int (Int32.ofInt x3))]) (st' := [.int (Int32.ofInt 1), .int (Int32.ofInt x3), .ref (px_SC + 0), .ref 95]) rfl ?_
      refine lf_iadd 827 rfl rfl ?_
      refine lf_iro 828 0 L (L : Int) rfl rfl rfl rfl (Nat.ble_eq_true_of_le (by omega)) o133 ?_
      refine lf_seg 3 (pc' := 831) (lv' := [(0, .ref (px_SC + 0)), (1, .ref 0), (2, .ref 95), (3, .int (Int32.ofInt x3))]) (st' := [.int (Int32.ofInt 2), .int (Int32.ofInt x3), .ref (px_SC + 0), .int (Int32.ofInt ((xs (x3 + 1).toNat).toInt)), .ref 95]) rfl ?_
      refine lf_iadd 832 rfl rfl ?_
      refine lf_iro 833 0 L (L : Int) rfl rfl rfl rfl (Nat.ble_eq_true_of_le (by omega)) o134 ?_
      refine lf_callI 836 rfl rfl rfl rfl (gm_285 h) (fun r138 s137 h => ?_)
      refine lf_seg 2 (pc' := 1603) (lv' := [(0, .ref (px_SC + 0)), (1, .ref 0), (2, .ref 95), (3, .int (Int32.ofInt x3))]) (st' := []) rfl ?_
      refine lf_sub (l := [(0, .ref (px_SC + 0)), (1, .ref 0), (2, .ref 95), (3, .int (Int32.ofInt x3))]) (lf_sb1 rfl (lf_sb1 rfl (lf_sb1 rfl (lf_sb1 rfl lf_sb0)))) ?_
      exact gm_328_p1603 hL hX18 h
    · have h := h.2.2.2.2.2.2.2.2.2.2.2.2.2.2.2.2.2.2.2.1 c
      refine lf_seg 4 (pc' := 844) (lv' := [(0, .ref (px_SC + 0)), (1, .ref 0), (2, .ref 95), (3, .int (Int32.ofInt x3))]) (st' := [.int (Int32.ofInt 1), .int (Int32.ofInt x3), .ref (px_SC + 0), .ref 0]) rfl ?_
      refine lf_iadd 845 rfl rfl ?_
      obtain ⟨o139, h⟩ := h
      refine lf_iro 846 0 L (L : Int) rfl rfl rfl rfl (Nat.ble_eq_true_of_le (by omega)) o139 ?_
      refine lf_seg 3 (pc' := 849) (lv' := [(0, .ref (px_SC + 0)), (1, .ref 0), (2, .ref 95), (3, .int (Int32.ofInt x3))]) (st' := [.int (Int32.ofInt 2), .int (Int32.ofInt x3), .ref (px_SC + 0), .int (Int32.ofInt ((xs (x3 + 1).toNat).toInt)), .ref 0]) rfl ?_
      refine lf_iadd 850 rfl rfl ?_
      obtain ⟨o140, h⟩ := h
      refine lf_iro 851 0 L (L : Int) rfl rfl rfl rfl (Nat.ble_eq_true_of_le (by omega)) o140 ?_
      refine lf_callI 854 rfl rfl rfl rfl (gm_112 h) (fun r142 s141 h => ?_)
      refine lf_seg 5 (pc' := 859) (lv' := [(0, .ref (px_SC + 0)), (1, .ref 0), (2, .ref 95), (3, .int (Int32.ofInt x3))]) (st' := [.int (Int32.ofInt 1), .int (Int32.ofInt x3), .ref (px_SC + 0), .ref 95]) rfl ?_
      refine lf_iadd 860 rfl rfl ?_
      refine lf_iro 861 0 L (L : Int) rfl rfl rfl rfl (Nat.ble_eq_true_of_le (by omega)) o139 ?_
      refine lf_seg 3 (pc' := 864) (lv' := [(0, .ref (px_SC + 0)), (1, .ref 0), (2, .ref 95), (3, .int (Int32.ofInt x3))]) (st' := [.int (Int32.ofInt 2), .int (Int32.ofInt x3), .ref (px_SC + 0), .int (Int32.ofInt ((xs (x3 + 1).toNat).toInt)), .ref 95]) rfl ?_
      refine lf_iadd 865 rfl rfl ?_
      refine lf_iro 866 0 L (L : Int) rfl rfl rfl rfl (Nat.ble_eq_true_of_le (by omega)) o140 ?_
      refine lf_callI 869 rfl rfl rfl rfl (gm_286 h) (fun r144 s143 h => ?_)
      refine lf_seg 2 (pc' := 1603) (lv' := [(0, .ref (px_SC + 0)), (1, .ref 0), (2, .ref 95), (3, .int (Int32.ofInt x3))]) (st' := []) rfl ?_
      refine lf_sub (l := [(0, .ref (px_SC + 0)), (1, .ref 0), (2, .ref 95), (3, .int (Int32.ofInt x3))]) (lf_sb1 rfl (lf_sb1 rfl (lf_sb1 rfl (lf_sb1 rfl lf_sb0)))) ?_
      exact gm_328_p1603 hL hX18 h
    · have h := h.2.2.2.2.2.2.2.2.2.2.2.2.2.2.2.2.2.2.2.2.1 c
      refine lf_seg 4 (pc' := 877) (lv' := [(0, .ref (px_SC + 0)), (1, .ref 0), (2, .ref 95), (3, .int (Int32.ofInt x3))]) (st' := [.int (Int32.ofInt 1), .int (Int32.ofInt x3), .ref (px_SC + 0), .ref 0]) rfl ?_
      refine lf_iadd 878 rfl rfl ?_
      obtain ⟨o145, h⟩ := h
      refine lf_iro 879 0 L (L : Int) rfl rfl rfl rfl (Nat.ble_eq_true_of_le (by omega)) o145 ?_
      refine lf_seg 3 (pc' := 882) (lv' := [(0, .ref (px_SC + 0)), (1, .ref 0), (2, .ref 95), (3, .int (Int32.ofInt x3))]) (st' := [.int (Int32.ofInt 2), .int (Int32.ofInt x3), .ref (px_SC + 0), .int (Int32.ofInt ((xs (x3 + 1).toNat).toInt)), .ref 0]) rfl ?_
      refine lf_iadd 883 rfl rfl ?_
      obtain ⟨o146, h⟩ := h
      refine lf_iro 884 0 L (L : Int) rfl rfl rfl rfl (Nat.ble_eq_true_of_le (by omega)) o146 ?_
      refine lf_callI 887 rfl rfl rfl rfl (gm_114 h) (fun r148 s147 h => ?_)
      refine lf_seg 5 (pc' := 892) (lv' := [(0, .ref (px_SC + 0)), (1, .ref 0), (2, .ref 95), (3, .int (Int32.ofInt x3))]) (st' := [.int (Int32.ofInt 1), .int (Int32.ofInt x3), .ref (px_SC + 0), .ref 95]) rfl ?_
      refine lf_iadd 893 rfl rfl ?_
      refine lf_iro 894 0 L (L : Int) rfl rfl rfl rfl (Nat.ble_eq_true_of_le (by omega)) o145 ?_
      refine lf_seg 3 (pc' := 897) (lv' := [(0, .ref (px_SC + 0)), (1, .ref 0), (2, .ref 95), (3, .int (Int32.ofInt x3))]) (st' := [.int (Int32.ofInt 2), .int (Int32.ofInt x3), .ref (px_SC + 0), .int (Int32.ofInt ((xs (x3 + 1).toNat).toInt)), .ref 95]) rfl ?_
      refine lf_iadd 898 rfl rfl ?_
      refine lf_iro 899 0 L (L : Int) rfl rfl rfl rfl (Nat.ble_eq_true_of_le (by omega)) o146 ?_
      refine lf_callI 902 rfl rfl rfl rfl (gm_287 h) (fun r150 s149 h => ?_)
      refine lf_seg 2 (pc' := 1603) (lv' := [(0, .ref (px_SC + 0)), (1, .ref 0), (2, .ref 95), (3, .int (Int32.ofInt x3))]) (st' := []) rfl ?_
      refine lf_sub (l := [(0, .ref (px_SC + 0)), (1, .ref 0), (2, .ref 95), (3, .int (Int32.ofInt x3))]) (lf_sb1 rfl (lf_sb1 rfl (lf_sb1 rfl (lf_sb1 rfl lf_sb0)))) ?_
      exact gm_328_p1603 hL hX18 h
    · have h := h.2.2.2.2.2.2.2.2.2.2.2.2.2.2.2.2.2.2.2.2.2.1 c
      refine lf_seg 4 (pc' := 910) (lv' := [(0, .ref (px_SC + 0)), (1, .ref 0), (2, .ref 95), (3, .int (Int32.ofInt x3))]) (st' := [.int (Int32.ofInt 1), .int (Int32.ofInt x3), .ref (px_SC + 0), .ref 0]) rfl ?_
      refine lf_iadd 911 rfl rfl ?_
      obtain ⟨o151, h⟩ := h
      refine lf_iro 912 0 L (L : Int) rfl rfl rfl rfl (Nat.ble_eq_true_of_le (by omega)) o151 ?_
      refine lf_seg 3 (pc' := 915) (lv' := [(0, .ref (px_SC + 0)), (1, .ref 0), (2, .ref 95), (3, .int (Int32.ofInt x3))]) (st' := [.int (Int32.ofInt 2), .int (Int32.ofInt x3), .ref (px_SC + 0), .int (Int32.ofInt ((xs (x3 + 1).toNat).toInt)), .ref 0]) rfl ?_
      refine lf_iadd 916 rfl rfl ?_
      obtain ⟨o152, h⟩ := h
      refine lf_iro 917 0 L (L : Int) rfl rfl rfl rfl (Nat.ble_eq_true_of_le (by omega)) o152 ?_
      refine lf_callI 920 rfl rfl rfl rfl (gm_115 h) (fun r154 s153 h => ?_)
      refine lf_seg 5 (pc' := 925) (lv' := [(0, .ref (px_SC + 0)), (1, .ref 0), (2, .ref 95), (3, .int (Int32.ofInt x3))]) (st' := [.int (Int32.ofInt 1), .int (Int32.ofInt x3), .ref (px_SC + 0), .ref 95]) rfl ?_
      refine lf_iadd 926 rfl rfl ?_
      refine lf_iro 927 0 L (L : Int) rfl rfl rfl rfl (Nat.ble_eq_true_of_le (by omega)) o151 ?_
      refine lf_seg 3 (pc' := 930) (lv' := [(0, .ref (px_SC + 0)), (1, .ref 0), (2, .ref 95), (3, .int (Int32.ofInt x3))]) (st' := [.int (Int32.ofInt 2), .int (Int32.ofInt x3), .ref (px_SC + 0), .int (Int32.ofInt ((xs (x3 + 1).toNat).toInt)), .ref 95]) rfl ?_
      refine lf_iadd 931 rfl rfl ?_
      refine lf_iro 932 0 L (L : Int) rfl rfl rfl rfl (Nat.ble_eq_true_of_le (by omega)) o152 ?_
      refine lf_callI 935 rfl rfl rfl rfl (gm_288 h) (fun r156 s155 h => ?_)
      refine lf_seg 2 (pc' := 1603) (lv' := [(0, .ref (px_SC + 0)), (1, .ref 0), (2, .ref 95), (3, .int (Int32.ofInt x3))]) (st' := []) rfl ?_
      refine lf_sub (l := [(0, .ref (px_SC + 0)), (1, .ref 0), (2, .ref 95), (3, .int (Int32.ofInt x3))]) (lf_sb1 rfl (lf_sb1 rfl (lf_sb1 rfl (lf_sb1 rfl lf_sb0)))) ?_
      exact gm_328_p1603 hL hX18 h
    · have h := h.2.2.2.2.2.2.2.2.2.2.2.2.2.2.2.2.2.2.2.2.2.2.1 c
      refine lf_seg 4 (pc' := 943) (lv' := [(0, .ref (px_SC + 0)), (1, .ref 0), (2, .ref 95), (3, .int (Int32.ofInt x3))]) (st' := [.int (Int32.ofInt 1), .int (Int32.ofInt x3), .ref (px_SC + 0), .ref 0]) rfl ?_
      refine lf_iadd 944 rfl rfl ?_
      obtain ⟨o157, h⟩ := h
      refine lf_iro 945 0 L (L : Int) rfl rfl rfl rfl (Nat.ble_eq_true_of_le (by omega)) o157 ?_
      refine lf_seg 3 (pc' := 948) (lv' := [(0, .ref (px_SC + 0)), (1, .ref 0), (2, .ref 95), (3, .int (Int32.ofInt x3))]) (st' := [.int (Int32.ofInt 2), .int (Int32.ofInt x3), .ref (px_SC + 0), .int (Int32.ofInt ((xs (x3 + 1).toNat).toInt)), .ref 0]) rfl ?_
      refine lf_iadd 949 rfl rfl ?_
      obtain ⟨o158, h⟩ := h
      refine lf_iro 950 0 L (L : Int) rfl rfl rfl rfl (Nat.ble_eq_true_of_le (by omega)) o158 ?_
      refine lf_seg 3 (pc' := 953) (lv' := [(0, .ref (px_SC + 0)), (1, .ref 0), (2, .ref 95), (3, .int (Int32.ofInt x3))]) (st' := [.int (Int32.ofInt 3), .int (Int32.ofInt x3), .ref (px_SC + 0), .int (Int32.ofInt ((xs (x3 + 2).toNat).toInt)), .int (Int32.ofInt ((xs (x3 + 1).toNat).toInt)), .ref 0]) rfl ?_
      refine lf_iadd 954 rfl rfl ?_
      obtain ⟨o159, h⟩ := h
      refine lf_iro 955 0 L (L : Int) rfl rfl rfl rfl (Nat.ble_eq_true_of_le (by omega)) o159 ?_
      refine lf_seg 3 (pc' := 958) (lv' := [(0, .ref (px_SC + 0)), (1, .ref 0), (2, .ref 95), (3, .int (Int32.ofInt x3))]) (st' := [.int (Int32.ofInt 4), .int (Int32.ofInt x3), .ref (px_SC + 0), .int (Int32.ofInt ((xs (x3 + 3).toNat).toInt)), .int (Int32.ofInt ((xs (x3 + 2).toNat).toInt)), .int (Int32.ofInt ((xs (x3 + 1).toNat).toInt)), .ref 0]) rfl ?_
      refine lf_iadd 959 rfl rfl ?_
      obtain ⟨o160, h⟩ := h
      refine lf_iro 960 0 L (L : Int) rfl rfl rfl rfl (Nat.ble_eq_true_of_le (by omega)) o160 ?_
      refine lf_if_eq 967 963 rfl rfl rfl (lf_R_i _) (fun c => ?_) (fun c => ?_)
      · have h := h.1 c
        refine lf_seg 1 (pc' := 968) (lv' := [(0, .ref (px_SC + 0)), (1, .ref 0), (2, .ref 95), (3, .int (Int32.ofInt x3))]) (st' := [.int (Int32.ofInt 0), .int (Int32.ofInt ((xs (x3 + 3).toNat).toInt)), .int (Int32.ofInt ((xs (x3 + 2).toNat).toInt)), .int (Int32.ofInt ((xs (x3 + 1).toNat).toInt)), .ref 0]) rfl ?_
        refine lf_sub (l := [(0, .ref (px_SC + 0)), (1, .ref 0), (2, .ref 95), (3, .int (Int32.ofInt x3))]) (lf_sb1 rfl (lf_sb1 rfl (lf_sb1 rfl (lf_sb1 rfl lf_sb0)))) ?_
        exact gm_328_p968 hL hX18 h
      · have h := h.2 c
        refine lf_seg 2 (pc' := 968) (lv' := [(0, .ref (px_SC + 0)), (1, .ref 0), (2, .ref 95), (3, .int (Int32.ofInt x3))]) (st' := [.int (Int32.ofInt 1), .int (Int32.ofInt ((xs (x3 + 3).toNat).toInt)), .int (Int32.ofInt ((xs (x3 + 2).toNat).toInt)), .int (Int32.ofInt ((xs (x3 + 1).toNat).toInt)), .ref 0]) rfl ?_
        refine lf_sub (l := [(0, .ref (px_SC + 0)), (1, .ref 0), (2, .ref 95), (3, .int (Int32.ofInt x3))]) (lf_sb1 rfl (lf_sb1 rfl (lf_sb1 rfl (lf_sb1 rfl lf_sb0)))) ?_
        exact gm_328_p968 hL hX18 h
    · have h := h.2.2.2.2.2.2.2.2.2.2.2.2.2.2.2.2.2.2.2.2.2.2.2.1 c
      refine lf_seg 4 (pc' := 1012) (lv' := [(0, .ref (px_SC + 0)), (1, .ref 0), (2, .ref 95), (3, .int (Int32.ofInt x3))]) (st' := [.int (Int32.ofInt 1), .int (Int32.ofInt x3), .ref (px_SC + 0), .ref 0]) rfl ?_
      refine lf_iadd 1013 rfl rfl ?_
      obtain ⟨o169, h⟩ := h
      refine lf_iro 1014 0 L (L : Int) rfl rfl rfl rfl (Nat.ble_eq_true_of_le (by omega)) o169 ?_
      refine lf_callI 1017 rfl rfl rfl rfl (gm_126 h) (fun r171 s170 h => ?_)
      refine lf_seg 5 (pc' := 1022) (lv' := [(0, .ref (px_SC + 0)), (1, .ref 0), (2, .ref 95), (3, .int (Int32.ofInt x3))]) (st' := [.int (Int32.ofInt 1), .int (Int32.ofInt x3), .ref (px_SC + 0), .ref 95]) rfl ?_
      refine lf_iadd 1023 rfl rfl ?_
      refine lf_iro 1024 0 L (L : Int) rfl rfl rfl rfl (Nat.ble_eq_true_of_le (by omega)) o169 ?_
      refine lf_callI 1027 rfl rfl rfl rfl (gm_293 h) (fun r173 s172 h => ?_)
      refine lf_seg 2 (pc' := 1603) (lv' := [(0, .ref (px_SC + 0)), (1, .ref 0), (2, .ref 95), (3, .int (Int32.ofInt x3))]) (st' := []) rfl ?_
      refine lf_sub (l := [(0, .ref (px_SC + 0)), (1, .ref 0), (2, .ref 95), (3, .int (Int32.ofInt x3))]) (lf_sb1 rfl (lf_sb1 rfl (lf_sb1 rfl (lf_sb1 rfl lf_sb0)))) ?_
      exact gm_328_p1603 hL hX18 h
    · have h := h.2.2.2.2.2.2.2.2.2.2.2.2.2.2.2.2.2.2.2.2.2.2.2.2.1 c
      refine lf_seg 4 (pc' := 1035) (lv' := [(0, .ref (px_SC + 0)), (1, .ref 0), (2, .ref 95), (3, .int (Int32.ofInt x3))]) (st' := [.int (Int32.ofInt 1), .int (Int32.ofInt x3), .ref (px_SC + 0), .ref 0]) rfl ?_
      refine lf_iadd 1036 rfl rfl ?_
      obtain ⟨o174, h⟩ := h
      refine lf_iro 1037 0 L (L : Int) rfl rfl rfl rfl (Nat.ble_eq_true_of_le (by omega)) o174 ?_
      refine lf_seg 3 (pc' := 1040) (lv' := [(0, .ref (px_SC + 0)), (1, .ref 0), (2, .ref 95), (3, .int (Int32.ofInt x3))]) (st' := [.int (Int32.ofInt 2), .int (Int32.ofInt x3), .ref (px_SC + 0), .int (Int32.ofInt ((xs (x3 + 1).toNat).toInt)), .ref 0]) rfl ?_
      refine lf_iadd 1041 rfl rfl ?_
      obtain ⟨o175, h⟩ := h
      refine lf_iro 1042 0 L (L : Int) rfl rfl rfl rfl (Nat.ble_eq_true_of_le (by omega)) o175 ?_
      refine lf_callI 1045 rfl rfl rfl rfl (gm_130 h) (fun r177 s176 h => ?_)
      refine lf_seg 5 (pc' := 1050) (lv' := [(0, .ref (px_SC + 0)), (1, .ref 0), (2, .ref 95), (3, .int (Int32.ofInt x3))]) (st' := [.int (Int32.ofInt 1), .int (Int32.ofInt x3), .ref (px_SC + 0), .ref 95]) rfl ?_
      refine lf_iadd 1051 rfl rfl ?_
      refine lf_iro 1052 0 L (L : Int) rfl rfl rfl rfl (Nat.ble_eq_true_of_le (by omega)) o174 ?_
      refine lf_seg 3 (pc' := 1055) (lv' := [(0, .ref (px_SC + 0)), (1, .ref 0), (2, .ref 95), (3, .int (Int32.ofInt x3))]) (st' := [.int (Int32.ofInt 2), .int (Int32.ofInt x3), .ref (px_SC + 0), .int (Int32.ofInt ((xs (x3 + 1).toNat).toInt)), .ref 95]) rfl ?_
      refine lf_iadd 1056 rfl rfl ?_
      refine lf_iro 1057 0 L (L : Int) rfl rfl rfl rfl (Nat.ble_eq_true_of_le (by omega)) o175 ?_
      refine lf_callI 1060 rfl rfl rfl rfl (gm_295 h) (fun r179 s178 h => ?_)
      refine lf_seg 2 (pc' := 1603) (lv' := [(0, .ref (px_SC + 0)), (1, .ref 0), (2, .ref 95), (3, .int (Int32.ofInt x3))]) (st' := []) rfl ?_
      refine lf_sub (l := [(0, .ref (px_SC + 0)), (1, .ref 0), (2, .ref 95), (3, .int (Int32.ofInt x3))]) (lf_sb1 rfl (lf_sb1 rfl (lf_sb1 rfl (lf_sb1 rfl lf_sb0)))) ?_
      exact gm_328_p1603 hL hX18 h
    · have h := h.2.2.2.2.2.2.2.2.2.2.2.2.2.2.2.2.2.2.2.2.2.2.2.2.2.1 c
      refine lf_seg 4 (pc' := 1068) (lv' := [(0, .ref (px_SC + 0)), (1, .ref 0), (2, .ref 95), (3, .int (Int32.ofInt x3))]) (st' := [.int (Int32.ofInt 1), .int (Int32.ofInt x3), .ref (px_SC + 0), .ref 0]) rfl ?_
      refine lf_iadd 1069 rfl rfl ?_
      obtain ⟨o180, h⟩ := h
      refine lf_iro 1070 0 L (L : Int) rfl rfl rfl rfl (Nat.ble_eq_true_of_le (by omega)) o180 ?_
      refine lf_seg 3 (pc' := 1073) (lv' := [(0, .ref (px_SC + 0)), (1, .ref 0), (2, .ref 95), (3, .int (Int32.ofInt x3))]) (st' := [.int (Int32.ofInt 2), .int (Int32.ofInt x3), .ref (px_SC + 0), .int (Int32.ofInt ((xs (x3 + 1).toNat).toInt)), .ref 0]) rfl ?_
      refine lf_iadd 1074 rfl rfl ?_
      obtain ⟨o181, h⟩ := h
      refine lf_iro 1075 0 L (L : Int) rfl rfl rfl rfl (Nat.ble_eq_true_of_le (by omega)) o181 ?_
      refine lf_callI 1078 rfl rfl rfl rfl (gm_134 h) (fun r183 s182 h => ?_)
      refine lf_seg 5 (pc' := 1083) (lv' := [(0, .ref (px_SC + 0)), (1, .ref 0), (2, .ref 95), (3, .int (Int32.ofInt x3))]) (st' := [.int (Int32.ofInt 1), .int (Int32.ofInt x3), .ref (px_SC + 0), .ref 95]) rfl ?_
      refine lf_iadd 1084 rfl rfl ?_
      refine lf_iro 1085 0 L (L : Int) rfl rfl rfl rfl (Nat.ble_eq_true_of_le (by omega)) o180 ?_
      refine lf_seg 3 (pc' := 1088) (lv' := [(0, .ref (px_SC + 0)), (1, .ref 0), (2, .ref 95), (3, .int (Int32.ofInt x3))]) (st' := [.int (Int32.ofInt 2), .int (Int32.ofInt x3), .ref (px_SC + 0), .int (Int32.ofInt ((xs (x3 + 1).toNat).toInt)), .ref 95]) rfl ?_
      refine lf_iadd 1089 rfl rfl ?_
      refine lf_iro 1090 0 L (L : Int) rfl rfl rfl rfl (Nat.ble_eq_true_of_le (by omega)) o181 ?_
      refine lf_callI 1093 rfl rfl rfl rfl (gm_298 h) (fun r185 s184 h => ?_)
      refine lf_seg 2 (pc' := 1603) (lv' := [(0, .ref (px_SC + 0)), (1, .ref 0), (2, .ref 95), (3, .int (Int32.ofInt x3))]) (st' := []) rfl ?_
      refine lf_sub (l := [(0, .ref (px_SC + 0)), (1, .ref 0), (2, .ref 95), (3, .int (Int32.ofInt x3))]) (lf_sb1 rfl (lf_sb1 rfl (lf_sb1 rfl (lf_sb1 rfl lf_sb0)))) ?_
      exact gm_328_p1603 hL hX18 h
    · have h := h.2.2.2.2.2.2.2.2.2.2.2.2.2.2.2.2.2.2.2.2.2.2.2.2.2.2.1 c
      refine lf_seg 4 (pc' := 1101) (lv' := [(0, .ref (px_SC + 0)), (1, .ref 0), (2, .ref 95), (3, .int (Int32.ofInt x3))]) (st' := [.int (Int32.ofInt 1), .int (Int32.ofInt x3), .ref (px_SC + 0), .ref 0]) rfl ?_
      refine lf_iadd 1102 rfl rfl ?_
      obtain ⟨o186, h⟩ := h
      refine lf_iro 1103 0 L (L : Int) rfl rfl rfl rfl (Nat.ble_eq_true_of_le (by omega)) o186 ?_
      refine lf_seg 3 (pc' := 1106) (lv' := [(0, .ref (px_SC + 0)), (1, .ref 0), (2, .ref 95), (3, .int (Int32.ofInt x3))]) (st' := [.int (Int32.ofInt 2), .int (Int32.ofInt x3), .ref (px_SC + 0), .int (Int32.ofInt ((xs (x3 + 1).toNat).toInt)), .ref 0]) rfl ?_
      refine lf_iadd 1107 rfl rfl ?_
      obtain ⟨o187, h⟩ := h
      refine lf_iro 1108 0 L (L : Int) rfl rfl rfl rfl (Nat.ble_eq_true_of_le (by omega)) o187 ?_
      refine lf_seg 3 (pc' := 1111) (lv' := [(0, .ref (px_SC + 0)), (1, .ref 0), (2, .ref 95), (3, .int (Int32.ofInt x3))]) (st' := [.int (Int32.ofInt 3), .int (Int32.ofInt x3), .ref (px_SC + 0), .int (Int32.ofInt ((xs (x3 + 2).toNat).toInt)), .int (Int32.ofInt ((xs (x3 + 1).toNat).toInt)), .ref 0]) rfl ?_
      refine lf_iadd 1112 rfl rfl ?_
      obtain ⟨o188, h⟩ := h
      refine lf_iro 1113 0 L (L : Int) rfl rfl rfl rfl (Nat.ble_eq_true_of_le (by omega)) o188 ?_
      refine lf_callI 1116 rfl rfl rfl rfl (gm_136 h) (fun r190 s189 h => ?_)
      refine lf_seg 5 (pc' := 1121) (lv' := [(0, .ref (px_SC + 0)), (1, .ref 0), (2, .ref 95), (3, .int (Int32.ofInt x3))]) (st' := [.int (Int32.ofInt 1), .int (Int32.ofInt x3), .ref (px_SC + 0), .ref 95]) rfl ?_
      refine lf_iadd 1122 rfl rfl ?_
      refine lf_iro 1123 0 L (L : Int) rfl rfl rfl rfl (Nat.ble_eq_true_of_le (by omega)) o186 ?_
      refine lf_seg 3 (pc' := 1126) (lv' := [(0, .ref (px_SC + 0)), (1, .ref 0), (2, .ref 95), (3, .int (Int32.ofInt x3))]) (st' := [.int (Int32.ofInt 2), .int (Int32.ofInt x3), .ref (px_SC + 0), .int (Int32.ofInt ((xs (x3 + 1).toNat).toInt)), .ref 95]) rfl ?_
      refine lf_iadd 1127 rfl rfl ?_
      refine lf_iro 1128 0 L (L : Int) rfl rfl rfl rfl (Nat.ble_eq_true_of_le (by omega)) o187 ?_
      refine lf_seg 3 (pc' := 1131) (lv' := [(0, .ref (px_SC + 0)), (1, .ref 0), (2, .ref 95), (3, .int (Int32.ofInt x3))]) (st' := [.int (Int32.ofInt 3), .int (Int32.ofInt x3), .ref (px_SC + 0), .int (Int32.ofInt ((xs (x3 + 2).toNat).toInt)), .int (Int32.ofInt ((xs (x3 + 1).toNat).toInt)), .ref 95]) rfl ?_
      refine lf_iadd 1132 rfl rfl ?_
      refine lf_iro 1133 0 L (L : Int) rfl rfl rfl rfl (Nat.ble_eq_true_of_le (by omega)) o188 ?_
      refine lf_callI 1136 rfl rfl rfl rfl (gm_300 h) (fun r192 s191 h => ?_)
      refine lf_seg 2 (pc' := 1603) (lv' := [(0, .ref (px_SC + 0)), (1, .ref 0), (2, .ref 95), (3, .int (Int32.ofInt x3))]) (st' := []) rfl ?_
      refine lf_sub (l := [(0, .ref (px_SC + 0)), (1, .ref 0), (2, .ref 95), (3, .int (Int32.ofInt x3))]) (lf_sb1 rfl (lf_sb1 rfl (lf_sb1 rfl (lf_sb1 rfl lf_sb0)))) ?_
      exact gm_328_p1603 hL hX18 h
    · have h := h.2.2.2.2.2.2.2.2.2.2.2.2.2.2.2.2.2.2.2.2.2.2.2.2.2.2.2.1 c
      refine lf_seg 4 (pc' := 1144) (lv' := [(0, .ref (px_SC + 0)), (1, .ref 0), (2, .ref 95), (3, .int (Int32.ofInt x3))]) (st' := [.int (Int32.ofInt 1), .int (Int32.ofInt x3), .ref (px_SC + 0), .ref 0]) rfl ?_
      refine lf_iadd 1145 rfl rfl ?_
      obtain ⟨o193, h⟩ := h
      refine lf_iro 1146 0 L (L : Int) rfl rfl rfl rfl (Nat.ble_eq_true_of_le (by omega)) o193 ?_
      refine lf_callI 1149 rfl rfl rfl rfl (gm_142 h) (fun r195 s194 h => ?_)
      refine lf_seg 5 (pc' := 1154) (lv' := [(0, .ref (px_SC + 0)), (1, .ref 0), (2, .ref 95), (3, .int (Int32.ofInt x3))]) (st' := [.int (Int32.ofInt 1), .int (Int32.ofInt x3), .ref (px_SC + 0), .ref 95]) rfl ?_
      refine lf_iadd 1155 rfl rfl ?_
      refine lf_iro 1156 0 L (L : Int) rfl rfl rfl rfl (Nat.ble_eq_true_of_le (by omega)) o193 ?_
      refine lf_callI 1159 rfl rfl rfl rfl (gm_297 h) (fun r197 s196 h => ?_)
      refine lf_seg 2 (pc' := 1603) (lv' := [(0, .ref (px_SC + 0)), (1, .ref 0), (2, .ref 95), (3, .int (Int32.ofInt x3))]) (st' := []) rfl ?_
      refine lf_sub (l := [(0, .ref (px_SC + 0)), (1, .ref 0), (2, .ref 95), (3, .int (Int32.ofInt x3))]) (lf_sb1 rfl (lf_sb1 rfl (lf_sb1 rfl (lf_sb1 rfl lf_sb0)))) ?_
      exact gm_328_p1603 hL hX18 h
    · have h := h.2.2.2.2.2.2.2.2.2.2.2.2.2.2.2.2.2.2.2.2.2.2.2.2.2.2.2.2.1 c
      refine lf_seg 4 (pc' := 1167) (lv' := [(0, .ref (px_SC + 0)), (1, .ref 0), (2, .ref 95), (3, .int (Int32.ofInt x3))]) (st' := [.int (Int32.ofInt 1), .int (Int32.ofInt x3), .ref (px_SC + 0), .ref 0]) rfl ?_
      refine lf_iadd 1168 rfl rfl ?_
      obtain ⟨o198, h⟩ := h
      refine lf_iro 1169 0 L (L : Int) rfl rfl rfl rfl (Nat.ble_eq_true_of_le (by omega)) o198 ?_
      refine lf_seg 3 (pc' := 1172) (lv' := [(0, .ref (px_SC + 0)), (1, .ref 0), (2, .ref 95), (3, .int (Int32.ofInt x3))]) (st' := [.int (Int32.ofInt 2), .int (Int32.ofInt x3), .ref (px_SC + 0), .int (Int32.ofInt ((xs (x3 + 1).toNat).toInt)), .ref 0]) rfl ?_
      refine lf_iadd 1173 rfl rfl ?_
      obtain ⟨o199, h⟩ := h
      refine lf_iro 1174 0 L (L : Int) rfl rfl rfl rfl (Nat.ble_eq_true_of_le (by omega)) o199 ?_
      refine lf_callI 1177 rfl rfl rfl rfl (gm_145 h) (fun r201 s200 h => ?_)
      refine lf_seg 5 (pc' := 1182) (lv' := [(0, .ref (px_SC + 0)), (1, .ref 0), (2, .ref 95), (3, .int (Int32.ofInt x3))]) (st' := [.int (Int32.ofInt 1), .int (Int32.ofInt x3), .ref (px_SC + 0), .ref 95]) rfl ?_
      refine lf_iadd 1183 rfl rfl ?_
      refine lf_iro 1184 0 L (L : Int) rfl rfl rfl rfl (Nat.ble_eq_true_of_le (by omega)) o198 ?_
      refine lf_seg 3 (pc' := 1187) (lv' := [(0, .ref (px_SC + 0)), (1, .ref 0), (2, .ref 95), (3, .int (Int32.ofInt x3))]) (st' := [.int (Int32.ofInt 2), .int (Int32.ofInt x3), .ref (px_SC + 0), .int (Int32.ofInt ((xs (x3 + 1).toNat).toInt)), .ref 95]) rfl ?_
      refine lf_iadd 1188 rfl rfl ?_
      refine lf_iro 1189 0 L (L : Int) rfl rfl rfl rfl (Nat.ble_eq_true_of_le (by omega)) o199 ?_
      refine lf_callI 1192 rfl rfl rfl rfl (gm_305 h) (fun r203 s202 h => ?_)
      refine lf_seg 2 (pc' := 1603) (lv' := [(0, .ref (px_SC + 0)), (1, .ref 0), (2, .ref 95), (3, .int (Int32.ofInt x3))]) (st' := []) rfl ?_
      refine lf_sub (l := [(0, .ref (px_SC + 0)), (1, .ref 0), (2, .ref 95), (3, .int (Int32.ofInt x3))]) (lf_sb1 rfl (lf_sb1 rfl (lf_sb1 rfl (lf_sb1 rfl lf_sb0)))) ?_
      exact gm_328_p1603 hL hX18 h
    · have h := h.2.2.2.2.2.2.2.2.2.2.2.2.2.2.2.2.2.2.2.2.2.2.2.2.2.2.2.2.2.1 c
      refine lf_seg 1 (pc' := 1197) (lv' := [(0, .ref (px_SC + 0)), (1, .ref 0), (2, .ref 95), (3, .int (Int32.ofInt x3))]) (st' := [.ref 0]) rfl ?_
      refine lf_callI 1200 rfl rfl rfl rfl (gm_147 h) (fun r205 s204 h => ?_)
      refine lf_seg 2 (pc' := 1202) (lv' := [(0, .ref (px_SC + 0)), (1, .ref 0), (2, .ref 95), (3, .int (Int32.ofInt x3))]) (st' := [.ref 95]) rfl ?_
      refine lf_callI 1205 rfl rfl rfl rfl (gm_306 h) (fun r207 s206 h => ?_)
      refine lf_seg 2 (pc' := 1603) (lv' := [(0, .ref (px_SC + 0)), (1, .ref 0), (2, .ref 95), (3, .int (Int32.ofInt x3))]) (st' := []) rfl ?_
      refine lf_sub (l := [(0, .ref (px_SC + 0)), (1, .ref 0), (2, .ref 95), (3, .int (Int32.ofInt x3))]) (lf_sb1 rfl (lf_sb1 rfl (lf_sb1 rfl (lf_sb1 rfl lf_sb0)))) ?_
      exact gm_328_p1603 hL hX18 h
    · have h := h.2.2.2.2.2.2.2.2.2.2.2.2.2.2.2.2.2.2.2.2.2.2.2.2.2.2.2.2.2.2.1 c
      refine lf_seg 4 (pc' := 1213) (lv' := [(0, .ref (px_SC + 0)), (1, .ref 0), (2, .ref 95), (3, .int (Int32.ofInt x3))]) (st' := [.int (Int32.ofInt 1), .int (Int32.ofInt x3), .ref (px_SC + 0), .ref 0]) rfl ?_
      refine lf_iadd 1214 rfl rfl ?_
      obtain ⟨o208, h⟩ := h
      refine lf_iro 1215 0 L (L : Int) rfl rfl rfl rfl (Nat.ble_eq_true_of_le (by omega)) o208 ?_
      refine lf_seg 3 (pc' := 1218) (lv' := [(0, .ref (px_SC + 0)), (1, .ref 0), (2, .ref 95), (3, .int (Int32.ofInt x3))]) (st' := [.int (Int32.ofInt 2), .int (Int32.ofInt x3), .ref (px_SC + 0), .int (Int32.ofInt ((xs (x3 + 1).toNat).toInt)), .ref 0]) rfl ?_
      refine lf_iadd 1219 rfl rfl ?_
      obtain ⟨o209, h⟩ := h
      refine lf_iro 1220 0 L (L : Int) rfl rfl rfl rfl (Nat.ble_eq_true_of_le (by omega)) o209 ?_
      refine lf_seg 3 (pc' := 1223) (lv' := [(0, .ref (px_SC + 0)), (1, .ref 0), (2, .ref 95), (3, .int (Int32.ofInt x3))]) (st' := [.int (Int32.ofInt 3), .int (Int32.ofInt x3), .ref (px_SC + 0), .int (Int32.ofInt ((xs (x3 + 2).toNat).toInt)), .int (Int32.ofInt ((xs (x3 + 1).toNat).toInt)), .ref 0]) rfl ?_
      refine lf_iadd 1224 rfl rfl ?_
      obtain ⟨o210, h⟩ := h
      refine lf_iro 1225 0 L (L : Int) rfl rfl rfl rfl (Nat.ble_eq_true_of_le (by omega)) o210 ?_
      refine lf_seg 3 (pc' := 1228) (lv' := [(0, .ref (px_SC + 0)), (1, .ref 0), (2, .ref 95), (3, .int (Int32.ofInt x3))]) (st' := [.int (Int32.ofInt 4), .int (Int32.ofInt x3), .ref (px_SC + 0), .int (Int32.ofInt ((xs (x3 + 3).toNat).toInt)), .int (Int32.ofInt ((xs (x3 + 2).toNat).toInt)), .int (Int32.ofInt ((xs (x3 + 1).toNat).toInt)), .ref 0]) rfl ?_
      refine lf_iadd 1229 rfl rfl ?_
      obtain ⟨o211, h⟩ := h
      refine lf_iro 1230 0 L (L : Int) rfl rfl rfl rfl (Nat.ble_eq_true_of_le (by omega)) o211 ?_
      refine lf_if_eq 1237 1233 rfl rfl rfl (lf_R_i _) (fun c => ?_) (fun c => ?_)
      · have h := h.1 c
        refine lf_seg 1 (pc' := 1238) (lv' := [(0, .ref (px_SC + 0)), (1, .ref 0), (2, .ref 95), (3, .int (Int32.ofInt x3))]) (st' := [.int (Int32.ofInt 0), .int (Int32.ofInt ((xs (x3 + 3).toNat).toInt)), .int (Int32.ofInt ((xs (x3 + 2).toNat).toInt)), .int (Int32.ofInt ((xs (x3 + 1).toNat).toInt)), .ref 0]) rfl ?_
        refine lf_sub (l := [(0, .ref (px_SC + 0)), (1, .ref 0), (2, .ref 95), (3, .int (Int32.ofInt x3))]) (lf_sb1 rfl (lf_sb1 rfl (lf_sb1 rfl (lf_sb1 rfl lf_sb0)))) ?_
        exact gm_328_p1238 hL hX18 h
      · have h := h.2 c
        refine lf_seg 2 (pc' := 1238) (lv' := [(0, .ref (px_SC + 0)), (1, .ref 0), (2, .ref 95), (3, .int (Int32.ofInt x3))]) (st' := [.int (Int32.ofInt 1), .int (Int32.ofInt ((xs (x3 + 3).toNat).toInt)), .int (Int32.ofInt ((xs (x3 + 2).toNat).toInt)), .int (Int32.ofInt ((xs (x3 + 1).toNat).toInt)), .ref 0]) rfl ?_
        refine lf_sub (l := [(0, .ref (px_SC + 0)), (1, .ref 0), (2, .ref 95), (3, .int (Int32.ofInt x3))]) (lf_sb1 rfl (lf_sb1 rfl (lf_sb1 rfl (lf_sb1 rfl lf_sb0)))) ?_
        exact gm_328_p1238 hL hX18 h
    · have h := h.2.2.2.2.2.2.2.2.2.2.2.2.2.2.2.2.2.2.2.2.2.2.2.2.2.2.2.2.2.2.2.1 c
      refine lf_seg 4 (pc' := 1282) (lv' := [(0, .ref (px_SC + 0)), (1, .ref 0), (2, .ref 95), (3, .int (Int32.ofInt x3))]) (st' := [.int (Int32.ofInt 1), .int (Int32.ofInt x3), .ref (px_SC + 0), .ref 0]) rfl ?_
      refine lf_iadd 1283 rfl rfl ?_
      obtain ⟨o220, h⟩ := h
      refine lf_iro 1284 0 L (L : Int) rfl rfl rfl rfl (Nat.ble_eq_true_of_le (by omega)) o220 ?_
      refine lf_seg 3 (pc' := 1287) (lv' := [(0, .ref (px_SC + 0)), (1, .ref 0), (2, .ref 95), (3, .int (Int32.ofInt x3))]) (st' := [.int (Int32.ofInt 2), .int (Int32.ofInt x3), .ref (px_SC + 0), .int (Int32.ofInt ((xs (x3 + 1).toNat).toInt)), .ref 0]) rfl ?_
      refine lf_iadd 1288 rfl rfl ?_
      obtain ⟨o221, h⟩ := h
      refine lf_iro 1289 0 L (L : Int) rfl rfl rfl rfl (Nat.ble_eq_true_of_le (by omega)) o221 ?_
      refine lf_callI 1292 rfl rfl rfl rfl (gm_154 h) (fun r223 s222 h => ?_)
      refine lf_seg 5 (pc' := 1297) (lv' := [(0, .ref (px_SC + 0)), (1, .ref 0), (2, .ref 95), (3, .int (Int32.ofInt x3))]) (st' := [.int (Int32.ofInt 1), .int (Int32.ofInt x3), .ref (px_SC + 0), .ref 95]) rfl ?_
      refine lf_iadd 1298 rfl rfl ?_
      refine lf_iro 1299 0 L (L : Int) rfl rfl rfl rfl (Nat.ble_eq_true_of_le (by omega)) o220 ?_
      refine lf_seg 3 (pc' := 1302) (lv' := [(0, .ref (px_SC + 0)), (1, .ref 0), (2, .ref 95), (3, .int (Int32.ofInt x3))]) (st' := [.int (Int32.ofInt 2), .int (Int32.ofInt x3), .ref (px_SC + 0), .int (Int32.ofInt ((xs (x3 + 1).toNat).toInt)), .ref 95]) rfl ?_
      refine lf_iadd 1303 rfl rfl ?_
      refine lf_iro 1304 0 L (L : Int) rfl rfl rfl rfl (Nat.ble_eq_true_of_le (by omega)) o221 ?_
      refine lf_callI 1307 rfl rfl rfl rfl (gm_311 h) (fun r225 s224 h => ?_)
      refine lf_seg 2 (pc' := 1603) (lv' := [(0, .ref (px_SC + 0)), (1, .ref 0), (2, .ref 95), (3, .int (Int32.ofInt x3))]) (st' := []) rfl ?_
      refine lf_sub (l := [(0, .ref (px_SC + 0)), (1, .ref 0), (2, .ref 95), (3, .int (Int32.ofInt x3))]) (lf_sb1 rfl (lf_sb1 rfl (lf_sb1 rfl (lf_sb1 rfl lf_sb0)))) ?_
      exact gm_328_p1603 hL hX18 h
    · have h := h.2.2.2.2.2.2.2.2.2.2.2.2.2.2.2.2.2.2.2.2.2.2.2.2.2.2.2.2.2.2.2.2.1 c
      refine lf_seg 4 (pc' := 1315) (lv' := [(0, .ref (px_SC + 0)), (1, .ref 0), (2, .ref 95), (3, .int (Int32.ofInt x3))]) (st' := [.int (Int32.ofInt 1), .int (Int32.ofInt x3), .ref (px_SC + 0), .ref 0]) rfl ?_
      refine lf_iadd 1316 rfl rfl ?_
      obtain ⟨o226, h⟩ := h
      refine lf_iro 1317 0 L (L : Int) rfl rfl rfl rfl (Nat.ble_eq_true_of_le (by omega)) o226 ?_
      refine lf_seg 3 (pc' := 1320) (lv' := [(0, .ref (px_SC + 0)), (1, .ref 0), (2, .ref 95), (3, .int (Int32.ofInt x3))]) (st' := [.int (Int32.ofInt 2), .int (Int32.ofInt x3), .ref (px_SC + 0), .int (Int32.ofInt ((xs (x3 + 1).toNat).toInt)), .ref 0]) rfl ?_
      refine lf_iadd 1321 rfl rfl ?_
      obtain ⟨o227, h⟩ := h
      refine lf_iro 1322 0 L (L : Int) rfl rfl rfl rfl (Nat.ble_eq_true_of_le (by omega)) o227 ?_
      refine lf_callI 1325 rfl rfl rfl rfl (gm_158 h) (fun r229 s228 h => ?_)
      refine lf_seg 5 (pc' := 1330) (lv' := [(0, .ref (px_SC + 0)), (1, .ref 0), (2, .ref 95), (3, .int (Int32.ofInt x3))]) (st' := [.int (Int32.ofInt 1), .int (Int32.ofInt x3), .ref (px_SC + 0), .ref 95]) rfl ?_
      refine lf_iadd 1331 rfl rfl ?_
      refine lf_iro 1332 0 L (L : Int) rfl rfl rfl rfl (Nat.ble_eq_true_of_le (by omega)) o226 ?_
      refine lf_seg 3 (pc' := 1335) (lv' := [(0, .ref (px_SC + 0)), (1, .ref 0), (2, .ref 95), (3, .int (Int32.ofInt x3))]) (st' := [.int (Int32.ofInt 2), .int (Int32.ofInt x3), .ref (px_SC + 0), .int (Int32.ofInt ((xs (x3 + 1).toNat).toInt)), .ref 95]) rfl ?_
      refine lf_iadd 1336 rfl rfl ?_
      refine lf_iro 1337 0 L (L : Int) rfl rfl rfl rfl (Nat.ble_eq_true_of_le (by omega)) o227 ?_
      refine lf_callI 1340 rfl rfl rfl rfl (gm_314 h) (fun r231 s230 h => ?_)
      refine lf_seg 2 (pc' := 1603) (lv' := [(0, .ref (px_SC + 0)), (1, .ref 0), (2, .ref 95), (3, .int (Int32.ofInt x3))]) (st' := []) rfl ?_
      refine lf_sub (l := [(0, .ref (px_SC + 0)), (1, .ref 0), (2, .ref 95), (3, .int (Int32.ofInt x3))]) (lf_sb1 rfl (lf_sb1 rfl (lf_sb1 rfl (lf_sb1 rfl lf_sb0)))) ?_
      exact gm_328_p1603 hL hX18 h
    · have h := h.2.2.2.2.2.2.2.2.2.2.2.2.2.2.2.2.2.2.2.2.2.2.2.2.2.2.2.2.2.2.2.2.2.1 c
      refine lf_seg 1 (pc' := 1345) (lv' := [(0, .ref (px_SC + 0)), (1, .ref 0), (2, .ref 95), (3, .int (Int32.ofInt x3))]) (st' := [.ref 0]) rfl ?_
      refine lf_callI 1348 rfl rfl rfl rfl (gm_161 h) (fun r233 s232 h => ?_)
      refine lf_seg 2 (pc' := 1350) (lv' := [(0, .ref (px_SC + 0)), (1, .ref 0), (2, .ref 95), (3, .int (Int32.ofInt x3))]) (st' := [.ref 95]) rfl ?_
      refine lf_callI 1353 rfl rfl rfl rfl (gm_316 h) (fun r235 s234 h => ?_)
      refine lf_seg 2 (pc' := 1603) (lv' := [(0, .ref (px_SC + 0)), (1, .ref 0), (2, .ref 95), (3, .int (Int32.ofInt x3))]) (st' := []) rfl ?_
      refine lf_sub (l := [(0, .ref (px_SC + 0)), (1, .ref 0), (2, .ref 95), (3, .int (Int32.ofInt x3))]) (lf_sb1 rfl (lf_sb1 rfl (lf_sb1 rfl (lf_sb1 rfl lf_sb0)))) ?_
      exact gm_328_p1603 hL hX18 h
    · have h := h.2.2.2.2.2.2.2.2.2.2.2.2.2.2.2.2.2.2.2.2.2.2.2.2.2.2.2.2.2.2.2.2.2.2.1 c
      refine lf_seg 4 (pc' := 1361) (lv' := [(0, .ref (px_SC + 0)), (1, .ref 0), (2, .ref 95), (3, .int (Int32.ofInt x3))]) (st' := [.int (Int32.ofInt 1), .int (Int32.ofInt x3), .ref (px_SC + 0), .ref 0]) rfl ?_
      refine lf_iadd 1362 rfl rfl ?_
      obtain ⟨o236, h⟩ := h
      refine lf_iro 1363 0 L (L : Int) rfl rfl rfl rfl (Nat.ble_eq_true_of_le (by omega)) o236 ?_
      refine lf_seg 3 (pc' := 1366) (lv' := [(0, .ref (px_SC + 0)), (1, .ref 0), (2, .ref 95), (3, .int (Int32.ofInt x3))]) (st' := [.int (Int32.ofInt 2), .int (Int32.ofInt x3), .ref (px_SC + 0), .int (Int32.ofInt ((xs (x3 + 1).toNat).toInt)), .ref 0]) rfl ?_
      refine lf_iadd 1367 rfl rfl ?_
      obtain ⟨o237, h⟩ := h
      refine lf_iro 1368 0 L (L : Int) rfl rfl rfl rfl (Nat.ble_eq_true_of_le (by omega)) o237 ?_
      refine lf_seg 3 (pc' := 1371) (lv' := [(0, .ref (px_SC + 0)), (1, .ref 0), (2, .ref 95), (3, .int (Int32.ofInt x3))]) (st' := [.int (Int32.ofInt 3), .int (Int32.ofInt x3), .ref (px_SC + 0), .int (Int32.ofInt ((xs (x3 + 2).toNat).toInt)), .int (Int32.ofInt ((xs (x3 + 1).toNat).toInt)), .ref 0]) rfl ?_
      refine lf_iadd 1372 rfl rfl ?_
      obtain ⟨o238, h⟩ := h
      refine lf_iro 1373 0 L (L : Int) rfl rfl rfl rfl (Nat.ble_eq_true_of_le (by omega)) o238 ?_
      refine lf_seg 3 (pc' := 1376) (lv' := [(0, .ref (px_SC + 0)), (1, .ref 0), (2, .ref 95), (3, .int (Int32.ofInt x3))]) (st' := [.int (Int32.ofInt 4), .int (Int32.ofInt x3), .ref (px_SC + 0), .int (Int32.ofInt ((xs (x3 + 3).toNat).toInt)), .int (Int32.ofInt ((xs (x3 + 2).toNat).toInt)), .int (Int32.ofInt ((xs (x3 + 1).toNat).toInt)), .ref 0]) rfl ?_
      refine lf_iadd 1377 rfl rfl ?_
      obtain ⟨o239, h⟩ := h
      refine lf_iro 1378 0 L (L : Int) rfl rfl rfl rfl (Nat.ble_eq_true_of_le (by omega)) o239 ?_
      refine lf_seg 3 (pc' := 1381) (lv' := [(0, .ref (px_SC + 0)), (1, .ref 0), (2, .ref 95), (3, .int (Int32.ofInt x3))]) (st' := [.int (Int32.ofInt 5), .int (Int32.ofInt x3), .ref (px_SC + 0), .int (Int32.ofInt ((xs (x3 + 4).toNat).toInt)), .int (Int32.ofInt ((xs (x3 + 3).toNat).toInt)), .int (Int32.ofInt ((xs (x3 + 2).toNat).toInt)), .int (Int32.ofInt ((xs (x3 + 1).toNat).toInt)), .ref 0]) rfl ?_
      refine lf_iadd 1382 rfl rfl ?_
      obtain ⟨o240, h⟩ := h
      refine lf_iro 1383 0 L (L : Int) rfl rfl rfl rfl (Nat.ble_eq_true_of_le (by omega)) o240 ?_
      refine lf_callZ 1386 rfl rfl rfl rfl (gm_163 h) (fun z242 s241 h => ?_)
      refine lf_seg 5 (pc' := 1391) (lv' := [(0, .ref (px_SC + 0)), (1, .ref 0), (2, .ref 95), (3, .int (Int32.ofInt x3))]) (st' := [.int (Int32.ofInt 1), .int (Int32.ofInt x3), .ref (px_SC + 0), .ref 95]) rfl ?_
      refine lf_iadd 1392 rfl rfl ?_
      refine lf_iro 1393 0 L (L : Int) rfl rfl rfl rfl (Nat.ble_eq_true_of_le (by omega)) o236 ?_
      refine lf_seg 3 (pc' := 1396) (lv' := [(0, .ref (px_SC + 0)), (1, .ref 0), (2, .ref 95), (3, .int (Int32.ofInt x3))]) (st' := [.int (Int32.ofInt 2), .int (Int32.ofInt x3), .ref (px_SC + 0), .int (Int32.ofInt ((xs (x3 + 1).toNat).toInt)), .ref 95]) rfl ?_
      refine lf_iadd 1397 rfl rfl ?_
      refine lf_iro 1398 0 L (L : Int) rfl rfl rfl rfl (Nat.ble_eq_true_of_le (by omega)) o237 ?_
      refine lf_seg 3 (pc' := 1401) (lv' := [(0, .ref (px_SC + 0)), (1, .ref 0), (2, .ref 95), (3, .int (Int32.ofInt x3))]) (st' := [.int (Int32.ofInt 3), .int (Int32.ofInt x3), .ref (px_SC + 0), .int (Int32.ofInt ((xs (x3 + 2).toNat).toInt)), .int (Int32.ofInt ((xs (x3 + 1).toNat).toInt)), .ref 95]) rfl ?_
      refine lf_iadd 1402 rfl rfl ?_
      refine lf_iro 1403 0 L (L : Int) rfl rfl rfl rfl (Nat.ble_eq_true_of_le (by omega)) o238 ?_
      refine lf_seg 3 (pc' := 1406) (lv' := [(0, .ref (px_SC + 0)), (1, .ref 0), (2, .ref 95), (3, .int (Int32.ofInt x3))]) (st' := [.int (Int32.ofInt 4), .int (Int32.ofInt x3), .ref (px_SC + 0), .int (Int32.ofInt ((xs (x3 + 3).toNat).toInt)), .int (Int32.ofInt ((xs (x3 + 2).toNat).toInt)), .int (Int32.ofInt ((xs (x3 + 1).toNat).toInt)), .ref 95]) rfl ?_
      refine lf_iadd 1407 rfl rfl ?_
      refine lf_iro 1408 0 L (L : Int) rfl rfl rfl rfl (Nat.ble_eq_true_of_le (by omega)) o239 ?_
      refine lf_seg 3 (pc' := 1411) (lv' := [(0, .ref (px_SC + 0)), (1, .ref 0), (2, .ref 95), (3, .int (Int32.ofInt x3))]) (st' := [.int (Int32.ofInt 5), .int (Int32.ofInt x3), .ref (px_SC + 0), .int (Int32.ofInt ((xs (x3 + 4).toNat).toInt)), .int (Int32.ofInt ((xs (x3 + 3).toNat).toInt)), .int (Int32.ofInt ((xs (x3 + 2).toNat).toInt)), .int (Int32.ofInt ((xs (x3 + 1).toNat).toInt)), .ref 95]) rfl ?_
      refine lf_iadd 1412 rfl rfl ?_
      refine lf_iro 1413 0 L (L : Int) rfl rfl rfl rfl (Nat.ble_eq_true_of_le (by omega)) o240 ?_
      refine lf_callZ 1416 rfl rfl rfl rfl (gm_318 h) (fun z244 s243 h => ?_)
      refine lf_seg 2 (pc' := 1603) (lv' := [(0, .ref (px_SC + 0)), (1, .ref 0), (2, .ref 95), (3, .int (Int32.ofInt x3))]) (st' := []) rfl ?_
      refine lf_sub (l := [(0, .ref (px_SC + 0)), (1, .ref 0), (2, .ref 95), (3, .int (Int32.ofInt x3))]) (lf_sb1 rfl (lf_sb1 rfl (lf_sb1 rfl (lf_sb1 rfl lf_sb0)))) ?_
      exact gm_328_p1603 hL hX18 h
    · have h := h.2.2.2.2.2.2.2.2.2.2.2.2.2.2.2.2.2.2.2.2.2.2.2.2.2.2.2.2.2.2.2.2.2.2.2.1 c
      refine lf_seg 4 (pc' := 1424) (lv' := [(0, .ref (px_SC + 0)), (1, .ref 0), (2, .ref 95), (3, .int (Int32.ofInt x3))]) (st' := [.int (Int32.ofInt 1), .int (Int32.ofInt x3), .ref (px_SC + 0), .ref 0]) rfl ?_
      refine lf_iadd 1425 rfl rfl ?_
      obtain ⟨o245, h⟩ := h
      refine lf_iro 1426 0 L (L : Int) rfl rfl rfl rfl (Nat.ble_eq_true_of_le (by omega)) o245 ?_
      refine lf_callI 1429 rfl rfl rfl rfl (gm_164 h) (fun r247 s246 h => ?_)
      refine lf_seg 5 (pc' := 1434) (lv' := [(0, .ref (px_SC + 0)), (1, .ref 0), (2, .ref 95), (3, .int (Int32.ofInt x3))]) (st' := [.int (Int32.ofInt 1), .int (Int32.ofInt x3), .ref (px_SC + 0), .ref 95]) rfl ?_
      refine lf_iadd 1435 rfl rfl ?_
      refine lf_iro 1436 0 L (L : Int) rfl rfl rfl rfl (Nat.ble_eq_true_of_le (by omega)) o245 ?_
      refine lf_callI 1439 rfl rfl rfl rfl (gm_319 h) (fun r249 s248 h => ?_)
      refine lf_seg 2 (pc' := 1603) (lv' := [(0, .ref (px_SC + 0)), (1, .ref 0), (2, .ref 95), (3, .int (Int32.ofInt x3))]) (st' := []) rfl ?_
      refine lf_sub (l := [(0, .ref (px_SC + 0)), (1, .ref 0), (2, .ref 95), (3, .int (Int32.ofInt x3))]) (lf_sb1 rfl (lf_sb1 rfl (lf_sb1 rfl (lf_sb1 rfl lf_sb0)))) ?_
      exact gm_328_p1603 hL hX18 h
    · have h := h.2.2.2.2.2.2.2.2.2.2.2.2.2.2.2.2.2.2.2.2.2.2.2.2.2.2.2.2.2.2.2.2.2.2.2.2.1 c
      refine lf_seg 4 (pc' := 1447) (lv' := [(0, .ref (px_SC + 0)), (1, .ref 0), (2, .ref 95), (3, .int (Int32.ofInt x3))]) (st' := [.int (Int32.ofInt 1), .int (Int32.ofInt x3), .ref (px_SC + 0), .ref 0]) rfl ?_
      refine lf_iadd 1448 rfl rfl ?_
      obtain ⟨o250, h⟩ := h
      refine lf_iro 1449 0 L (L : Int) rfl rfl rfl rfl (Nat.ble_eq_true_of_le (by omega)) o250 ?_
      refine lf_seg 3 (pc' := 1452) (lv' := [(0, .ref (px_SC + 0)), (1, .ref 0), (2, .ref 95), (3, .int (Int32.ofInt x3))]) (st' := [.int (Int32.ofInt 2), .int (Int32.ofInt x3), .ref (px_SC + 0), .int (Int32.ofInt ((xs (x3 + 1).toNat).toInt)), .ref 0]) rfl ?_
      refine lf_iadd 1453 rfl rfl ?_
      obtain ⟨o251, h⟩ := h
      refine lf_iro 1454 0 L (L : Int) rfl rfl rfl rfl (Nat.ble_eq_true_of_le (by omega)) o251 ?_
      refine lf_if_eq 1461 1457 rfl rfl rfl (lf_R_i _) (fun c => ?_) (fun c => ?_)
      · have h := h.1 c
        refine lf_seg 1 (pc' := 1462) (lv' := [(0, .ref (px_SC + 0)), (1, .ref 0), (2, .ref 95), (3, .int (Int32.ofInt x3))]) (st' := [.int (Int32.ofInt 0), .int (Int32.ofInt ((xs (x3 + 1).toNat).toInt)), .ref 0]) rfl ?_
        refine lf_sub (l := [(0, .ref (px_SC + 0)), (1, .ref 0), (2, .ref 95), (3, .int (Int32.ofInt x3))]) (lf_sb1 rfl (lf_sb1 rfl (lf_sb1 rfl (lf_sb1 rfl lf_sb0)))) ?_
        exact gm_328_p1462 hL hX18 h
      · have h := h.2 c
        refine lf_seg 2 (pc' := 1462) (lv' := [(0, .ref (px_SC + 0)), (1, .ref 0), (2, .ref 95), (3, .int (Int32.ofInt x3))]) (st' := [.int (Int32.ofInt 1), .int (Int32.ofInt ((xs (x3 + 1).toNat).toInt)), .ref 0]) rfl ?_
        refine lf_sub (l := [(0, .ref (px_SC + 0)), (1, .ref 0), (2, .ref 95), (3, .int (Int32.ofInt x3))]) (lf_sb1 rfl (lf_sb1 rfl (lf_sb1 rfl (lf_sb1 rfl lf_sb0)))) ?_
        exact gm_328_p1462 hL hX18 h
    · have h := h.2.2.2.2.2.2.2.2.2.2.2.2.2.2.2.2.2.2.2.2.2.2.2.2.2.2.2.2.2.2.2.2.2.2.2.2.2.1 c
      refine lf_seg 4 (pc' := 1496) (lv' := [(0, .ref (px_SC + 0)), (1, .ref 0), (2, .ref 95), (3, .int (Int32.ofInt x3))]) (st' := [.int (Int32.ofInt 1), .int (Int32.ofInt x3), .ref (px_SC + 0), .ref 0]) rfl ?_
      refine lf_iadd 1497 rfl rfl ?_
      obtain ⟨o258, h⟩ := h
      refine lf_iro 1498 0 L (L : Int) rfl rfl rfl rfl (Nat.ble_eq_true_of_le (by omega)) o258 ?_
      refine lf_seg 3 (pc' := 1501) (lv' := [(0, .ref (px_SC + 0)), (1, .ref 0), (2, .ref 95), (3, .int (Int32.ofInt x3))]) (st' := [.int (Int32.ofInt 2), .int (Int32.ofInt x3), .ref (px_SC + 0), .int (Int32.ofInt ((xs (x3 + 1).toNat).toInt)), .ref 0]) rfl ?_
      refine lf_iadd 1502 rfl rfl ?_
      obtain ⟨o259, h⟩ := h
      refine lf_iro 1503 0 L (L : Int) rfl rfl rfl rfl (Nat.ble_eq_true_of_le (by omega)) o259 ?_
      refine lf_if_eq 1510 1506 rfl rfl rfl (lf_R_i _) (fun c => ?_) (fun c => ?_)
      · have h := h.1 c
        refine lf_seg 1 (pc' := 1511) (lv' := [(0, .ref (px_SC + 0)), (1, .ref 0), (2, .ref 95), (3, .int (Int32.ofInt x3))]) (st' := [.int (Int32.ofInt 0), .int (Int32.ofInt ((xs (x3 + 1).toNat).toInt)), .ref 0]) rfl ?_
        refine lf_sub (l := [(0, .ref (px_SC + 0)), (1, .ref 0), (2, .ref 95), (3, .int (Int32.ofInt x3))]) (lf_sb1 rfl (lf_sb1 rfl (lf_sb1 rfl (lf_sb1 rfl lf_sb0)))) ?_
        exact gm_328_p1511 hL hX18 h
      · have h := h.2 c
        refine lf_seg 2 (pc' := 1511) (lv' := [(0, .ref (px_SC + 0)), (1, .ref 0), (2, .ref 95), (3, .int (Int32.ofInt x3))]) (st' := [.int (Int32.ofInt 1), .int (Int32.ofInt ((xs (x3 + 1).toNat).toInt)), .ref 0]) rfl ?_
        refine lf_sub (l := [(0, .ref (px_SC + 0)), (1, .ref 0), (2, .ref 95), (3, .int (Int32.ofInt x3))]) (lf_sb1 rfl (lf_sb1 rfl (lf_sb1 rfl (lf_sb1 rfl lf_sb0)))) ?_
        exact gm_328_p1511 hL hX18 h
    · have h := h.2.2.2.2.2.2.2.2.2.2.2.2.2.2.2.2.2.2.2.2.2.2.2.2.2.2.2.2.2.2.2.2.2.2.2.2.2.2.1 c
      refine lf_seg 1 (pc' := 1542) (lv' := [(0, .ref (px_SC + 0)), (1, .ref 0), (2, .ref 95), (3, .int (Int32.ofInt x3))]) (st' := [.ref 0]) rfl ?_
      refine lf_callI 1545 rfl rfl rfl rfl (gm_170 h) (fun r267 s266 h => ?_)
      refine lf_seg 2 (pc' := 1547) (lv' := [(0, .ref (px_SC + 0)), (1, .ref 0), (2, .ref 95), (3, .int (Int32.ofInt x3))]) (st' := [.ref 95]) rfl ?_
      refine lf_callI 1550 rfl rfl rfl rfl (gm_324 h) (fun r269 s268 h => ?_)
      refine lf_seg 2 (pc' := 1603) (lv' := [(0, .ref (px_SC + 0)), (1, .ref 0), (2, .ref 95), (3, .int (Int32.ofInt x3))]) (st' := []) rfl ?_
      refine lf_sub (l := [(0, .ref (px_SC + 0)), (1, .ref 0), (2, .ref 95), (3, .int (Int32.ofInt x3))]) (lf_sb1 rfl (lf_sb1 rfl (lf_sb1 rfl (lf_sb1 rfl lf_sb0)))) ?_
      exact gm_328_p1603 hL hX18 h
    · have h := h.2.2.2.2.2.2.2.2.2.2.2.2.2.2.2.2.2.2.2.2.2.2.2.2.2.2.2.2.2.2.2.2.2.2.2.2.2.2.2.1 c
      refine lf_seg 1 (pc' := 1555) (lv' := [(0, .ref (px_SC + 0)), (1, .ref 0), (2, .ref 95), (3, .int (Int32.ofInt x3))]) (st' := [.ref 0]) rfl ?_
      refine lf_callI 1558 rfl rfl rfl rfl (gm_173 h) (fun r271 s270 h => ?_)
      refine lf_seg 2 (pc' := 1560) (lv' := [(0, .ref (px_SC + 0)), (1, .ref 0), (2, .ref 95), (3, .int (Int32.ofInt x3))]) (st' := [.ref 95]) rfl ?_
      refine lf_callI 1563 rfl rfl rfl rfl (gm_325 h) (fun r273 s272 h => ?_)
      refine lf_seg 2 (pc' := 1603) (lv' := [(0, .ref (px_SC + 0)), (1, .ref 0), (2, .ref 95), (3, .int (Int32.ofInt x3))]) (st' := []) rfl ?_
      refine lf_sub (l := [(0, .ref (px_SC + 0)), (1, .ref 0), (2, .ref 95), (3, .int (Int32.ofInt x3))]) (lf_sb1 rfl (lf_sb1 rfl (lf_sb1 rfl (lf_sb1 rfl lf_sb0)))) ?_
      exact gm_328_p1603 hL hX18 h
    · have h := h.2.2.2.2.2.2.2.2.2.2.2.2.2.2.2.2.2.2.2.2.2.2.2.2.2.2.2.2.2.2.2.2.2.2.2.2.2.2.2.2.1 c
      refine lf_seg 1 (pc' := 1568) (lv' := [(0, .ref (px_SC + 0)), (1, .ref 0), (2, .ref 95), (3, .int (Int32.ofInt x3))]) (st' := [.ref 0]) rfl ?_
      refine lf_callI 1571 rfl rfl rfl rfl (gm_177 h) (fun r275 s274 h => ?_)
      refine lf_seg 2 (pc' := 1573) (lv' := [(0, .ref (px_SC + 0)), (1, .ref 0), (2, .ref 95), (3, .int (Int32.ofInt x3))]) (st' := [.ref 95]) rfl ?_
      refine lf_callI 1576 rfl rfl rfl rfl (gm_326 h) (fun r277 s276 h => ?_)
      refine lf_seg 2 (pc' := 1603) (lv' := [(0, .ref (px_SC + 0)), (1, .ref 0), (2, .ref 95), (3, .int (Int32.ofInt x3))]) (st' := []) rfl ?_
      refine lf_sub (l := [(0, .ref (px_SC + 0)), (1, .ref 0), (2, .ref 95), (3, .int (Int32.ofInt x3))]) (lf_sb1 rfl (lf_sb1 rfl (lf_sb1 rfl (lf_sb1 rfl lf_sb0)))) ?_
      exact gm_328_p1603 hL hX18 h
    · have h := h.2.2.2.2.2.2.2.2.2.2.2.2.2.2.2.2.2.2.2.2.2.2.2.2.2.2.2.2.2.2.2.2.2.2.2.2.2.2.2.2.2 c
      refine lf_seg 4 (pc' := 1584) (lv' := [(0, .ref (px_SC + 0)), (1, .ref 0), (2, .ref 95), (3, .int (Int32.ofInt x3))]) (st' := [.int (Int32.ofInt 1), .int (Int32.ofInt x3), .ref (px_SC + 0), .ref 0]) rfl ?_
      refine lf_iadd 1585 rfl rfl ?_
      obtain ⟨o278, h⟩ := h
      refine lf_iro 1586 0 L (L : Int) rfl rfl rfl rfl (Nat.ble_eq_true_of_le (by omega)) o278 ?_
      refine lf_callI 1589 rfl rfl rfl rfl (gm_179 h) (fun r280 s279 h => ?_)
      refine lf_seg 5 (pc' := 1594) (lv' := [(0, .ref (px_SC + 0)), (1, .ref 0), (2, .ref 95), (3, .int (Int32.ofInt x3))]) (st' := [.int (Int32.ofInt 1), .int (Int32.ofInt x3), .ref (px_SC + 0), .ref 95]) rfl ?_
      refine lf_iadd 1595 rfl rfl ?_
      refine lf_iro 1596 0 L (L : Int) rfl rfl rfl rfl (Nat.ble_eq_true_of_le (by omega)) o278 ?_
      refine lf_callI 1599 rfl rfl rfl rfl (gm_327 h) (fun r282 s281 h => ?_)
      refine lf_seg 2 (pc' := 1603) (lv' := [(0, .ref (px_SC + 0)), (1, .ref 0), (2, .ref 95), (3, .int (Int32.ofInt x3))]) (st' := []) rfl ?_
      refine lf_sub (l := [(0, .ref (px_SC + 0)), (1, .ref 0), (2, .ref 95), (3, .int (Int32.ofInt x3))]) (lf_sb1 rfl (lf_sb1 rfl (lf_sb1 rfl (lf_sb1 rfl lf_sb0)))) ?_
      exact gm_328_p1603 hL hX18 h
theorem gm_328_p18L {L : Nat} {xs : Nat → Int32} {d : Nat} {Q : Bool → lf_Z → Prop} {x3 : Int} {s : lf_Z} (hL : L ≤ 3072) (h : fm_328_p18L L xs Q x3 s) : lf_E (px_ro L xs) (d + 209) 328 18 [(0, .ref (px_SC + 0)), (1, .ref 0), (2, .ref 95), (3, .int (Int32.ofInt x3))] [] s (lf_qz Q) :=
  h (fun x3 s => lf_E (px_ro L xs) (d + 209) 328 18 [(0, .ref (px_SC + 0)), (1, .ref 0), (2, .ref 95), (3, .int (Int32.ofInt x3))] [] s (lf_qz Q)) (fun x3 s hb => gm_328_p18 hL (fun _ _ h => h) hb)
