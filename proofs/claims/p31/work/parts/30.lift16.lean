-- cl_139 cluster
def fc_139T : Nat → (Int → Int → Int → (lf_Z → Prop) → lf_Z → Prop)
  | 0 => (fun _ _ _ _ _ => False)
  | n + 1 => (fm_139 (fc_139T n))
theorem gc_139T {L : Nat} {xs : Nat → Int32} {d : Nat} : ∀ n : Nat, (∀ b1 b2 b3 Q s, (fc_139T n) b1 b2 b3 Q s → lf_M (px_ro L xs) (d + n + 3) 139 [.ref 74, .int (Int32.ofInt b1), .int (Int32.ofInt b2), .int (Int32.ofInt b3)] s (lf_qv Q))
  | 0 => ⟨fun _ _ _ _ _ h => h.elim⟩
  | n + 1 => ⟨fun a1 a2 a3 Q s h => lf_E.deep (gm_139 (d := d + n) (fun _ _ _ _ _ h => lf_E.deep ((gc_139T (L := L) (xs := xs) (d := d) n) _ _ _ _ _ h) (by omega)) h) (by omega)⟩
def fc_139 (a1 : Int) (a2 : Int) (a3 : Int) (Q : lf_Z → Prop) (s : lf_Z) : Prop := (fc_139T 200) a1 a2 a3 Q s
theorem gc_139 {L : Nat} {xs : Nat → Int32} {d : Nat} {a1 : Int} {a2 : Int} {a3 : Int} {Q : lf_Z → Prop} {s : lf_Z} (h : fc_139 a1 a2 a3 Q s) : lf_M (px_ro L xs) (d + 204) 139 [.ref 74, .int (Int32.ofInt a1), .int (Int32.ofInt a2), .int (Int32.ofInt a3)] s (lf_qv Q) := lf_E.deep ((gc_139T (L := L) (xs := xs) (d := d) 200) _ _ _ _ _ h) (by omega)
-- fm_137 Errands.sendAll 74 i i
def fm_137_p79 (X30 : Int → lf_Z → Prop) (Q : Int → lf_Z → Prop) (x1 : Int) (x2 : Int) (x3 : Int) (s : lf_Z) : Prop := X30 (x3 + 1) s
set_option maxRecDepth 100000 in
theorem gm_137_p79 {L : Nat} {xs : Nat → Int32} {d : Nat} {X30 : Int → lf_Z → Prop} {Q : Int → lf_Z → Prop} {x1 : Int} {x2 : Int} {x3 : Int} {s : lf_Z} (hX30 : ∀ x3 s, X30 x3 s → lf_E (px_ro L xs) (d + 205) 137 30 [(0, .ref 74), (1, .int (Int32.ofInt x1)), (2, .int (Int32.ofInt x2)), (3, .int (Int32.ofInt x3))] [] s (lf_qi Q)) (h : fm_137_p79 X30 Q x1 x2 x3 s) : lf_E (px_ro L xs) (d + 205) 137 79 [(0, .ref 74), (1, .int (Int32.ofInt x1)), (2, .int (Int32.ofInt x2)), (3, .int (Int32.ofInt x3))] [] s (lf_qi Q) := by
  unfold fm_137_p79 at h
  refine lf_iinc 82 rfl rfl rfl rfl ?_
  refine lf_seg 1 (pc' := 30) (lv' := [(3, .int (Int32.ofInt (x3 + 1))), (0, .ref 74), (1, .int (Int32.ofInt x1)), (2, .int (Int32.ofInt x2))]) (st' := []) rfl ?_
  refine lf_sub (l := [(0, .ref 74), (1, .int (Int32.ofInt x1)), (2, .int (Int32.ofInt x2)), (3, .int (Int32.ofInt (x3 + 1)))]) (lf_sb1 rfl (lf_sb1 rfl (lf_sb1 rfl (lf_sb1 rfl lf_sb0)))) ?_
  exact hX30 _ _ h
def fm_137_p30 (Q : Int → lf_Z → Prop) (x1 : Int) (x2 : Int) (X30 : Int → lf_Z → Prop) (x3 : Int) (s : lf_Z) : Prop := lf_R x3 ∧ (lf_R (s.1 1 0) ∧ ((s.1 1 0 ≤ x3 → (fc_139 0 x1 0 (fun s19 => (Q (s19.1 74 6) s19)) s)) ∧ (¬ (s.1 1 0 ≤ x3) → ((lf_and (lf_shr x2 x3) 1 ≠ 1 → (fm_137_p79 X30 Q x1 x2 x3 s)) ∧ (¬ (lf_and (lf_shr x2 x3) 1 ≠ 1) → (lf_R (s.1 74 5) ∧ ((6 ≤ s.1 74 5 → (fm_137_p79 X30 Q x1 x2 x3 s)) ∧ (¬ (6 ≤ s.1 74 5) → ((0 ≤ s.1 74 5 ∧ s.1 74 5 < 6) ∧ (fm_137_p79 X30 Q x1 x2 x3 (lf_up (lf_up s.1 75 (s.1 74 5) x3) 74 5 ((s.1 74 5) + 1), s.2.1, s.2.2)))))))))))
def fm_137_p30L (Q : Int → lf_Z → Prop) (x1 : Int) (x2 : Int) (x3 : Int) (s : lf_Z) : Prop := ∀ X30 : Int → lf_Z → Prop, (∀ (x3 : Int) (s : lf_Z), fm_137_p30 Q x1 x2 X30 x3 s → X30 x3 s) → X30 x3 s
set_option maxRecDepth 100000 in
theorem gm_137_p30 {L : Nat} {xs : Nat → Int32} {d : Nat} {Q : Int → lf_Z → Prop} {x1 : Int} {x2 : Int} {x3 : Int} {s : lf_Z} {X30 : Int → lf_Z → Prop} (hX30 : ∀ x3 s, X30 x3 s → lf_E (px_ro L xs) (d + 205) 137 30 [(0, .ref 74), (1, .int (Int32.ofInt x1)), (2, .int (Int32.ofInt x2)), (3, .int (Int32.ofInt x3))] [] s (lf_qi Q)) (h : fm_137_p30 Q x1 x2 X30 x3 s) : lf_E (px_ro L xs) (d + 205) 137 30 [(0, .ref 74), (1, .int (Int32.ofInt x1)), (2, .int (Int32.ofInt x2)), (3, .int (Int32.ofInt x3))] [] s (lf_qi Q) := by
  unfold fm_137_p30 at h
  refine lf_seg 3 (pc' := 35) (lv' := [(0, .ref 74), (1, .int (Int32.ofInt x1)), (2, .int (Int32.ofInt x2)), (3, .int (Int32.ofInt x3))]) (st' := [.ref 1, .int (Int32.ofInt x3)]) rfl ?_
  refine lf_getI 38 0 rfl rfl rfl rfl rfl rfl rfl ?_
  obtain ⟨o17, h⟩ := h
  obtain ⟨o18, h⟩ := h
  refine lf_icmp_ge 85 41 rfl rfl rfl o17 o18 (fun c => ?_) (fun c => ?_)
  · have h := h.1 c
    refine lf_seg 4 (pc' := 89) (lv' := [(0, .ref 74), (1, .int (Int32.ofInt x1)), (2, .int (Int32.ofInt x2)), (3, .int (Int32.ofInt x3))]) (st' := [.int (Int32.ofInt 0), .int (Int32.ofInt x1), .int (Int32.ofInt 0), .ref 74]) rfl ?_
    refine lf_callV 92 rfl rfl rfl rfl (gc_139 h) (fun s19 h => ?_)
    refine lf_seg 1 (pc' := 93) (lv' := [(0, .ref 74), (1, .int (Int32.ofInt x1)), (2, .int (Int32.ofInt x2)), (3, .int (Int32.ofInt x3))]) (st' := [.ref 74]) rfl ?_
    refine lf_getI 96 6 rfl rfl rfl rfl rfl rfl rfl ?_
    exact lf_retI rfl rfl h
  · have h := h.2 c
    refine lf_seg 2 (pc' := 43) (lv' := [(0, .ref 74), (1, .int (Int32.ofInt x1)), (2, .int (Int32.ofInt x2)), (3, .int (Int32.ofInt x3))]) (st' := [.int (Int32.ofInt x3), .int (Int32.ofInt x2)]) rfl ?_
    refine lf_ishr 44 rfl rfl ?_
    refine lf_seg 1 (pc' := 45) (lv' := [(0, .ref 74), (1, .int (Int32.ofInt x1)), (2, .int (Int32.ofInt x2)), (3, .int (Int32.ofInt x3))]) (st' := [.int (Int32.ofInt 1), .int (Int32.ofInt (lf_shr x2 x3))]) rfl ?_
    refine lf_iand 46 rfl rfl ?_
    refine lf_seg 1 (pc' := 47) (lv' := [(0, .ref 74), (1, .int (Int32.ofInt x1)), (2, .int (Int32.ofInt x2)), (3, .int (Int32.ofInt x3))]) (st' := [.int (Int32.ofInt 1), .int (Int32.ofInt (lf_and (lf_shr x2 x3) 1))]) rfl ?_
    refine lf_icmp_ne 79 50 rfl rfl rfl lf_Rand ⟨by decide, by decide⟩ (fun c => ?_) (fun c => ?_)
    · have h := h.1 c
      refine lf_sub (l := [(0, .ref 74), (1, .int (Int32.ofInt x1)), (2, .int (Int32.ofInt x2)), (3, .int (Int32.ofInt x3))]) (lf_sb1 rfl (lf_sb1 rfl (lf_sb1 rfl (lf_sb1 rfl lf_sb0)))) ?_
      exact gm_137_p79 hX30 h
    · have h := h.2 c
      refine lf_seg 1 (pc' := 51) (lv' := [(0, .ref 74), (1, .int (Int32.ofInt x1)), (2, .int (Int32.ofInt x2)), (3, .int (Int32.ofInt x3))]) (st' := [.ref 74]) rfl ?_
      refine lf_getI 54 5 rfl rfl rfl rfl rfl rfl rfl ?_
      refine lf_bipush 56 6 rfl rfl (by decide) (by decide) ?_
      obtain ⟨o30, h⟩ := h
      refine lf_icmp_ge 79 59 rfl rfl rfl o30 ⟨by decide, by decide⟩ (fun c => ?_) (fun c => ?_)
      · have h := h.1 c
        refine lf_sub (l := [(0, .ref 74), (1, .int (Int32.ofInt x1)), (2, .int (Int32.ofInt x2)), (3, .int (Int32.ofInt x3))]) (lf_sb1 rfl (lf_sb1 rfl (lf_sb1 rfl (lf_sb1 rfl lf_sb0)))) ?_
        exact gm_137_p79 hX30 h
      · have h := h.2 c
        refine lf_seg 3 (pc' := 64) (lv' := [(0, .ref 74), (1, .int (Int32.ofInt x1)), (2, .int (Int32.ofInt x2)), (3, .int (Int32.ofInt x3))]) (st' := [.ref 74, .ref 75]) rfl ?_
        refine lf_getI 67 5 rfl rfl rfl rfl rfl rfl rfl ?_
        refine lf_seg 1 (pc' := 68) (lv' := [(0, .ref 74), (1, .int (Int32.ofInt x1)), (2, .int (Int32.ofInt x2)), (3, .int (Int32.ofInt x3))]) (st' := [.int (Int32.ofInt x3), .int (Int32.ofInt (s.1 74 5)), .ref 75]) rfl ?_
        obtain ⟨o31, h⟩ := h
        refine lf_iast 69 6 rfl rfl rfl rfl rfl rfl o31 ?_
        refine lf_as (lf_up s.1 75 (s.1 74 5) x3, s.2.1, s.2.2) rfl ?_
        refine lf_seg 2 (pc' := 71) (lv' := [(0, .ref 74), (1, .int (Int32.ofInt x1)), (2, .int (Int32.ofInt x2)), (3, .int (Int32.ofInt x3))]) (st' := [.ref 74, .ref 74]) rfl ?_
        refine lf_getI 74 5 rfl rfl rfl rfl rfl rfl rfl ?_
        refine lf_seg 1 (pc' := 75) (lv' := [(0, .ref 74), (1, .int (Int32.ofInt x1)), (2, .int (Int32.ofInt x2)), (3, .int (Int32.ofInt x3))]) (st' := [.int (Int32.ofInt 1), .int (Int32.ofInt (s.1 74 5)), .ref 74]) rfl ?_
        refine lf_iadd 76 rfl rfl ?_
        refine lf_putI 79 5 rfl rfl rfl rfl rfl rfl rfl rfl ?_
        refine lf_as (lf_up (lf_up s.1 75 (s.1 74 5) x3) 74 5 ((s.1 74 5) + 1), s.2.1, s.2.2) rfl ?_
        refine lf_sub (l := [(0, .ref 74), (1, .int (Int32.ofInt x1)), (2, .int (Int32.ofInt x2)), (3, .int (Int32.ofInt x3))]) (lf_sb1 rfl (lf_sb1 rfl (lf_sb1 rfl (lf_sb1 rfl lf_sb0)))) ?_
        exact gm_137_p79 hX30 h
theorem gm_137_p30L {L : Nat} {xs : Nat → Int32} {d : Nat} {Q : Int → lf_Z → Prop} {x1 : Int} {x2 : Int} {x3 : Int} {s : lf_Z} (h : fm_137_p30L Q x1 x2 x3 s) : lf_E (px_ro L xs) (d + 205) 137 30 [(0, .ref 74), (1, .int (Int32.ofInt x1)), (2, .int (Int32.ofInt x2)), (3, .int (Int32.ofInt x3))] [] s (lf_qi Q) :=
  h (fun x3 s => lf_E (px_ro L xs) (d + 205) 137 30 [(0, .ref 74), (1, .int (Int32.ofInt x1)), (2, .int (Int32.ofInt x2)), (3, .int (Int32.ofInt x3))] [] s (lf_qi Q)) (fun x3 s hb => gm_137_p30 (fun _ _ h => h) hb)
def fm_137 (a1 : Int) (a2 : Int) (Q : Int → lf_Z → Prop) (s : lf_Z) : Prop := fm_138 a2 (fun r7 s5 => (fm_138 a1 (fun r10 s8 => (lf_R r10 ∧ (lf_R r7 ∧ (lf_R (min 6 r10) ∧ ((r7 ≤ min 6 r10 → (fm_137_p30L Q a1 a2 0 s8)) ∧ (¬ (r7 ≤ min 6 r10) → (Q (-1) s8))))))) s5)) (lf_up (lf_up s.1 74 6 (-1)) 74 5 0, s.2.1, s.2.2)
set_option maxRecDepth 100000 in
theorem gm_137 {L : Nat} {xs : Nat → Int32} {d : Nat} {a1 : Int} {a2 : Int} {Q : Int → lf_Z → Prop} {s : lf_Z} (h : fm_137 a1 a2 Q s) : lf_M (px_ro L xs) (d + 205) 137 [.ref 74, .int (Int32.ofInt a1), .int (Int32.ofInt a2)] s (lf_qi Q) := by
  unfold fm_137 at h
  show lf_E (px_ro L xs) (d + 205) 137 0 [(0, .ref 74), (1, .int (Int32.ofInt a1)), (2, .int (Int32.ofInt a2))] [] s _
  refine lf_seg 2 (pc' := 2) (lv' := [(0, .ref 74), (1, .int (Int32.ofInt a1)), (2, .int (Int32.ofInt a2))]) (st' := [.int (Int32.ofInt (-1)), .ref 74]) rfl ?_
  refine lf_putI 5 6 rfl rfl rfl rfl rfl rfl rfl rfl ?_
  refine lf_as (lf_up s.1 74 6 (-1), s.2.1, s.2.2) rfl ?_
  refine lf_seg 2 (pc' := 7) (lv' := [(0, .ref 74), (1, .int (Int32.ofInt a1)), (2, .int (Int32.ofInt a2))]) (st' := [.int (Int32.ofInt 0), .ref 74]) rfl ?_
  refine lf_putI 10 5 rfl rfl rfl rfl rfl rfl rfl rfl ?_
  refine lf_as (lf_up (lf_up s.1 74 6 (-1)) 74 5 0, s.2.1, s.2.2) rfl ?_
  refine lf_seg 1 (pc' := 11) (lv' := [(0, .ref 74), (1, .int (Int32.ofInt a1)), (2, .int (Int32.ofInt a2))]) (st' := [.int (Int32.ofInt a2)]) rfl ?_
  refine lf_callI 14 rfl rfl rfl rfl (gm_138 h) (fun r7 s5 h => ?_)
  refine lf_bipush 16 6 rfl rfl (by decide) (by decide) ?_
  refine lf_seg 1 (pc' := 17) (lv' := [(0, .ref 74), (1, .int (Int32.ofInt a1)), (2, .int (Int32.ofInt a2))]) (st' := [.int (Int32.ofInt a1), .int (Int32.ofInt 6), .int (Int32.ofInt r7)]) rfl ?_
  refine lf_callI 20 rfl rfl rfl rfl (gm_138 h) (fun r10 s8 h => ?_)
  obtain ⟨o11, h⟩ := h
  refine lf_imin 23 rfl rfl rfl rfl ⟨by decide, by decide⟩ o11 ?_
  obtain ⟨o13, h⟩ := h
  obtain ⟨o14, h⟩ := h
  refine lf_icmp_le 28 26 rfl rfl rfl o13 o14 (fun c => ?_) (fun c => ?_)
  · have h := h.1 c
    refine lf_seg 2 (pc' := 30) (lv' := [(3, .int (Int32.ofInt 0)), (0, .ref 74), (1, .int (Int32.ofInt a1)), (2, .int (Int32.ofInt a2))]) (st' := []) rfl ?_
    refine lf_sub (l := [(0, .ref 74), (1, .int (Int32.ofInt a1)), (2, .int (Int32.ofInt a2)), (3, .int (Int32.ofInt 0))]) (lf_sb1 rfl (lf_sb1 rfl (lf_sb1 rfl (lf_sb1 rfl lf_sb0)))) ?_
    exact gm_137_p30L h
  · have h := h.2 c
    refine lf_seg 1 (pc' := 27) (lv' := [(0, .ref 74), (1, .int (Int32.ofInt a1)), (2, .int (Int32.ofInt a2))]) (st' := [.int (Int32.ofInt (-1))]) rfl ?_
    exact lf_retI rfl rfl h
-- fm_141 Errands.whoGoesTo 74 i
def fm_141_p2 (Q : Int → lf_Z → Prop) (x1 : Int) (X2 : Int → lf_Z → Prop) (x2 : Int) (s : lf_Z) : Prop := lf_R x2 ∧ (lf_R (s.1 74 5) ∧ ((s.1 74 5 ≤ x2 → (Q (-1) s)) ∧ (¬ (s.1 74 5 ≤ x2) → (lf_R (s.1 74 6) ∧ ((s.1 74 6 = (-1) → (Q (-1) s)) ∧ (¬ (s.1 74 6 = (-1)) → ((0 ≤ x2 ∧ x2 < 6) ∧ (lf_R (s.1 75 x2) ∧ (lf_R x1 ∧ ((s.1 75 x2 ≠ x1 → (X2 (x2 + 1) s)) ∧ (¬ (s.1 75 x2 ≠ x1) → (Q (s.1 77 x2) s))))))))))))
def fm_141_p2L (Q : Int → lf_Z → Prop) (x1 : Int) (x2 : Int) (s : lf_Z) : Prop := ∀ X2 : Int → lf_Z → Prop, (∀ (x2 : Int) (s : lf_Z), fm_141_p2 Q x1 X2 x2 s → X2 x2 s) → X2 x2 s
set_option maxRecDepth 100000 in
theorem gm_141_p2 {L : Nat} {xs : Nat → Int32} {d : Nat} {Q : Int → lf_Z → Prop} {x1 : Int} {x2 : Int} {s : lf_Z} {X2 : Int → lf_Z → Prop} (hX2 : ∀ x2 s, X2 x2 s → lf_E (px_ro L xs) (d + 1) 141 2 [(0, .ref 74), (1, .int (Int32.ofInt x1)), (2, .int (Int32.ofInt x2))] [] s (lf_qi Q)) (h : fm_141_p2 Q x1 X2 x2 s) : lf_E (px_ro L xs) (d + 1) 141 2 [(0, .ref 74), (1, .int (Int32.ofInt x1)), (2, .int (Int32.ofInt x2))] [] s (lf_qi Q) := by
  unfold fm_141_p2 at h
  refine lf_seg 2 (pc' := 4) (lv' := [(0, .ref 74), (1, .int (Int32.ofInt x1)), (2, .int (Int32.ofInt x2))]) (st' := [.ref 74, .int (Int32.ofInt x2)]) rfl ?_
  refine lf_getI 7 5 rfl rfl rfl rfl rfl rfl rfl ?_
  obtain ⟨o3, h⟩ := h
  obtain ⟨o4, h⟩ := h
  refine lf_icmp_ge 41 10 rfl rfl rfl o3 o4 (fun c => ?_) (fun c => ?_)
  · have h := h.1 c
    refine lf_seg 1 (pc' := 42) (lv' := [(0, .ref 74), (1, .int (Int32.ofInt x1)), (2, .int (Int32.ofInt x2))]) (st' := [.int (Int32.ofInt (-1))]) rfl ?_
    exact lf_retI rfl rfl h
  · have h := h.2 c
    refine lf_seg 1 (pc' := 11) (lv' := [(0, .ref 74), (1, .int (Int32.ofInt x1)), (2, .int (Int32.ofInt x2))]) (st' := [.ref 74]) rfl ?_
    refine lf_getI 14 6 rfl rfl rfl rfl rfl rfl rfl ?_
    refine lf_seg 1 (pc' := 15) (lv' := [(0, .ref 74), (1, .int (Int32.ofInt x1)), (2, .int (Int32.ofInt x2))]) (st' := [.int (Int32.ofInt (-1)), .int (Int32.ofInt (s.1 74 6))]) rfl ?_
    obtain ⟨o7, h⟩ := h
    refine lf_icmp_eq 41 18 rfl rfl rfl o7 ⟨by decide, by decide⟩ (fun c => ?_) (fun c => ?_)
    · have h := h.1 c
      refine lf_seg 1 (pc' := 42) (lv' := [(0, .ref 74), (1, .int (Int32.ofInt x1)), (2, .int (Int32.ofInt x2))]) (st' := [.int (Int32.ofInt (-1))]) rfl ?_
      exact lf_retI rfl rfl h
    · have h := h.2 c
      refine lf_seg 3 (pc' := 23) (lv' := [(0, .ref 74), (1, .int (Int32.ofInt x1)), (2, .int (Int32.ofInt x2))]) (st' := [.int (Int32.ofInt x2), .ref 75]) rfl ?_
      obtain ⟨o8, h⟩ := h
      refine lf_iald 24 6 rfl rfl rfl rfl rfl rfl o8 ?_
      refine lf_seg 1 (pc' := 25) (lv' := [(0, .ref 74), (1, .int (Int32.ofInt x1)), (2, .int (Int32.ofInt x2))]) (st' := [.int (Int32.ofInt x1), .int (Int32.ofInt (s.1 75 x2))]) rfl ?_
      obtain ⟨o11, h⟩ := h
      obtain ⟨o12, h⟩ := h
      refine lf_icmp_ne 35 28 rfl rfl rfl o11 o12 (fun c => ?_) (fun c => ?_)
      · have h := h.1 c
        refine lf_iinc 38 rfl rfl rfl rfl ?_
        refine lf_seg 1 (pc' := 2) (lv' := [(2, .int (Int32.ofInt (x2 + 1))), (0, .ref 74), (1, .int (Int32.ofInt x1))]) (st' := []) rfl ?_
        refine lf_sub (l := [(0, .ref 74), (1, .int (Int32.ofInt x1)), (2, .int (Int32.ofInt (x2 + 1)))]) (lf_sb1 rfl (lf_sb1 rfl (lf_sb1 rfl lf_sb0))) ?_
        exact hX2 _ _ h
      · have h := h.2 c
        refine lf_seg 3 (pc' := 33) (lv' := [(0, .ref 74), (1, .int (Int32.ofInt x1)), (2, .int (Int32.ofInt x2))]) (st' := [.int (Int32.ofInt x2), .ref 77]) rfl ?_
        refine lf_iald 34 6 rfl rfl rfl rfl rfl rfl o8 ?_
        exact lf_retI rfl rfl h
theorem gm_141_p2L {L : Nat} {xs : Nat → Int32} {d : Nat} {Q : Int → lf_Z → Prop} {x1 : Int} {x2 : Int} {s : lf_Z} (h : fm_141_p2L Q x1 x2 s) : lf_E (px_ro L xs) (d + 1) 141 2 [(0, .ref 74), (1, .int (Int32.ofInt x1)), (2, .int (Int32.ofInt x2))] [] s (lf_qi Q) :=
  h (fun x2 s => lf_E (px_ro L xs) (d + 1) 141 2 [(0, .ref 74), (1, .int (Int32.ofInt x1)), (2, .int (Int32.ofInt x2))] [] s (lf_qi Q)) (fun x2 s hb => gm_141_p2 (fun _ _ h => h) hb)
def fm_141 (a1 : Int) (Q : Int → lf_Z → Prop) (s : lf_Z) : Prop := fm_141_p2L Q a1 0 s
set_option maxRecDepth 100000 in
theorem gm_141 {L : Nat} {xs : Nat → Int32} {d : Nat} {a1 : Int} {Q : Int → lf_Z → Prop} {s : lf_Z} (h : fm_141 a1 Q s) : lf_M (px_ro L xs) (d + 1) 141 [.ref 74, .int (Int32.ofInt a1)] s (lf_qi Q) := by
  unfold fm_141 at h
  show lf_E (px_ro L xs) (d + 1) 141 0 [(0, .ref 74), (1, .int (Int32.ofInt a1))] [] s _
  refine lf_seg 2 (pc' := 2) (lv' := [(2, .int (Int32.ofInt 0)), (0, .ref 74), (1, .int (Int32.ofInt a1))]) (st' := []) rfl ?_
  refine lf_sub (l := [(0, .ref 74), (1, .int (Int32.ofInt a1)), (2, .int (Int32.ofInt 0))]) (lf_sb1 rfl (lf_sb1 rfl (lf_sb1 rfl lf_sb0))) ?_
  exact gm_141_p2L h
-- fm_136 ElevenBullocks.whom 0 i i i
def fm_136_p66 (Q : Int → lf_Z → Prop) (x1 : Int) (x2 : Int) (x3 : Int) (s : lf_Z) : Prop := fm_137 x1 x2 (fun r21 s17 => (lf_R x3 ∧ ((x3 ≠ (-1) → (fm_141 x3 (fun r27 s25 => (Q r27 s25)) s17)) ∧ (¬ (x3 ≠ (-1)) → (Q r21 s17))))) s
set_option maxRecDepth 100000 in
theorem gm_136_p66 {L : Nat} {xs : Nat → Int32} {d : Nat} {Q : Int → lf_Z → Prop} {x1 : Int} {x2 : Int} {x3 : Int} {s : lf_Z} (h : fm_136_p66 Q x1 x2 x3 s) : lf_E (px_ro L xs) (d + 206) 136 66 [(0, .ref 0), (1, .int (Int32.ofInt x1)), (2, .int (Int32.ofInt x2)), (3, .int (Int32.ofInt x3))] [] s (lf_qi Q) := by
  unfold fm_136_p66 at h
  refine lf_seg 4 (pc' := 72) (lv' := [(0, .ref 0), (1, .int (Int32.ofInt x1)), (2, .int (Int32.ofInt x2)), (3, .int (Int32.ofInt x3))]) (st' := [.int (Int32.ofInt x2), .int (Int32.ofInt x1), .ref 74]) rfl ?_
  refine lf_callI 75 rfl rfl rfl rfl (gm_137 h) (fun r21 s17 h => ?_)
  refine lf_seg 3 (pc' := 79) (lv' := [(4, .int (Int32.ofInt r21)), (0, .ref 0), (1, .int (Int32.ofInt x1)), (2, .int (Int32.ofInt x2)), (3, .int (Int32.ofInt x3))]) (st' := [.int (Int32.ofInt (-1)), .int (Int32.ofInt x3)]) rfl ?_
  obtain ⟨o24, h⟩ := h
  refine lf_icmp_ne 87 82 rfl rfl rfl o24 ⟨by decide, by decide⟩ (fun c => ?_) (fun c => ?_)
  · have h := h.1 c
    refine lf_seg 3 (pc' := 92) (lv' := [(4, .int (Int32.ofInt r21)), (0, .ref 0), (1, .int (Int32.ofInt x1)), (2, .int (Int32.ofInt x2)), (3, .int (Int32.ofInt x3))]) (st' := [.int (Int32.ofInt x3), .ref 74]) rfl ?_
    refine lf_callI 95 rfl rfl rfl rfl (gm_141 h) (fun r27 s25 h => ?_)
    exact lf_retI rfl rfl h
  · have h := h.2 c
    refine lf_seg 2 (pc' := 95) (lv' := [(4, .int (Int32.ofInt r21)), (0, .ref 0), (1, .int (Int32.ofInt x1)), (2, .int (Int32.ofInt x2)), (3, .int (Int32.ofInt x3))]) (st' := [.int (Int32.ofInt r21)]) rfl ?_
    exact lf_retI rfl rfl h
def fm_136 (a1 : Int) (a2 : Int) (a3 : Int) (Q : Int → lf_Z → Prop) (s : lf_Z) : Prop := fm_15 a1 0 (lf_w ((lf_shl 1 (s.1 1 2)) - 1)) (fun z6 s4 => ((z6 = false → (Q (-1) s4)) ∧ (z6 = true → (fm_15 a2 1 (lf_w ((lf_shl 1 (s4.1 1 0)) - 1)) (fun z13 s11 => ((z13 = true → (lf_R a3 ∧ ((a3 = (-1) → (fm_136_p66 Q a1 a2 a3 s11)) ∧ (¬ (a3 = (-1)) → (fm_18 a3 (fun z30 s28 => ((z30 = false → (Q (-1) s28)) ∧ (z30 = true → ((lf_and (lf_shr a2 a3) 1 ≠ 0 → (fm_136_p66 Q a1 a2 a3 s28)) ∧ (¬ (lf_and (lf_shr a2 a3) 1 ≠ 0) → (Q (-1) s28)))))) s11))))) ∧ (z13 = false → (Q (-1) s11)))) s4)))) s
set_option maxRecDepth 100000 in
theorem gm_136 {L : Nat} {xs : Nat → Int32} {d : Nat} {a1 : Int} {a2 : Int} {a3 : Int} {Q : Int → lf_Z → Prop} {s : lf_Z} (h : fm_136 a1 a2 a3 Q s) : lf_M (px_ro L xs) (d + 206) 136 [.ref 0, .int (Int32.ofInt a1), .int (Int32.ofInt a2), .int (Int32.ofInt a3)] s (lf_qi Q) := by
  unfold fm_136 at h
  show lf_E (px_ro L xs) (d + 206) 136 0 [(0, .ref 0), (1, .int (Int32.ofInt a1)), (2, .int (Int32.ofInt a2)), (3, .int (Int32.ofInt a3))] [] s _
  refine lf_seg 5 (pc' := 7) (lv' := [(0, .ref 0), (1, .int (Int32.ofInt a1)), (2, .int (Int32.ofInt a2)), (3, .int (Int32.ofInt a3))]) (st' := [.ref 1, .int (Int32.ofInt 1), .int (Int32.ofInt 0), .int (Int32.ofInt a1)]) rfl ?_
  refine lf_getI 10 2 rfl rfl rfl rfl rfl rfl rfl ?_
  refine lf_ishl 11 rfl rfl ?_
  refine lf_seg 1 (pc' := 12) (lv' := [(0, .ref 0), (1, .int (Int32.ofInt a1)), (2, .int (Int32.ofInt a2)), (3, .int (Int32.ofInt a3))]) (st' := [.int (Int32.ofInt 1), .int (Int32.ofInt (lf_shl 1 (s.1 1 2))), .int (Int32.ofInt 0), .int (Int32.ofInt a1)]) rfl ?_
  refine lf_isub 13 rfl rfl ?_
  refine lf_wtI ?_
  refine lf_callZ 16 rfl rfl rfl rfl (gm_15 h) (fun z6 s4 h => ?_)
  refine lf_ifz_eq 38 19 rfl rfl rfl (fun c => ?_) (fun c => ?_)
  · have h := h.1 c
    refine lf_seg 1 (pc' := 39) (lv' := [(0, .ref 0), (1, .int (Int32.ofInt a1)), (2, .int (Int32.ofInt a2)), (3, .int (Int32.ofInt a3))]) (st' := [.int (Int32.ofInt (-1))]) rfl ?_
    exact lf_retI rfl rfl h
  · have h := h.2 c
    refine lf_seg 5 (pc' := 26) (lv' := [(0, .ref 0), (1, .int (Int32.ofInt a1)), (2, .int (Int32.ofInt a2)), (3, .int (Int32.ofInt a3))]) (st' := [.ref 1, .int (Int32.ofInt 1), .int (Int32.ofInt 1), .int (Int32.ofInt a2)]) rfl ?_
    refine lf_getI 29 0 rfl rfl rfl rfl rfl rfl rfl ?_
    refine lf_ishl 30 rfl rfl ?_
    refine lf_seg 1 (pc' := 31) (lv' := [(0, .ref 0), (1, .int (Int32.ofInt a1)), (2, .int (Int32.ofInt a2)), (3, .int (Int32.ofInt a3))]) (st' := [.int (Int32.ofInt 1), .int (Int32.ofInt (lf_shl 1 (s4.1 1 0))), .int (Int32.ofInt 1), .int (Int32.ofInt a2)]) rfl ?_
    refine lf_isub 32 rfl rfl ?_
    refine lf_wtI ?_
    refine lf_callZ 35 rfl rfl rfl rfl (gm_15 h) (fun z13 s11 h => ?_)
    refine lf_ifz_ne 40 38 rfl rfl rfl (fun c => ?_) (fun c => ?_)
    · have h := h.1 c
      refine lf_seg 2 (pc' := 42) (lv' := [(0, .ref 0), (1, .int (Int32.ofInt a1)), (2, .int (Int32.ofInt a2)), (3, .int (Int32.ofInt a3))]) (st' := [.int (Int32.ofInt (-1)), .int (Int32.ofInt a3)]) rfl ?_
      obtain ⟨o16, h⟩ := h
      refine lf_icmp_eq 66 45 rfl rfl rfl o16 ⟨by decide, by decide⟩ (fun c => ?_) (fun c => ?_)
      · have h := h.1 c
        refine lf_sub (l := [(0, .ref 0), (1, .int (Int32.ofInt a1)), (2, .int (Int32.ofInt a2)), (3, .int (Int32.ofInt a3))]) (lf_sb1 rfl (lf_sb1 rfl (lf_sb1 rfl (lf_sb1 rfl lf_sb0)))) ?_
        exact gm_136_p66 h
      · have h := h.2 c
        refine lf_seg 3 (pc' := 50) (lv' := [(0, .ref 0), (1, .int (Int32.ofInt a1)), (2, .int (Int32.ofInt a2)), (3, .int (Int32.ofInt a3))]) (st' := [.int (Int32.ofInt a3), .ref 1]) rfl ?_
        refine lf_callZ 53 rfl rfl rfl rfl (gm_18 h) (fun z30 s28 h => ?_)
        refine lf_ifz_eq 64 56 rfl rfl rfl (fun c => ?_) (fun c => ?_)
        · have h := h.1 c
          refine lf_seg 1 (pc' := 65) (lv' := [(0, .ref 0), (1, .int (Int32.ofInt a1)), (2, .int (Int32.ofInt a2)), (3, .int (Int32.ofInt a3))]) (st' := [.int (Int32.ofInt (-1))]) rfl ?_
          exact lf_retI rfl rfl h
        · have h := h.2 c
          refine lf_seg 2 (pc' := 58) (lv' := [(0, .ref 0), (1, .int (Int32.ofInt a1)), (2, .int (Int32.ofInt a2)), (3, .int (Int32.ofInt a3))]) (st' := [.int (Int32.ofInt a3), .int (Int32.ofInt a2)]) rfl ?_
          refine lf_ishr 59 rfl rfl ?_
          refine lf_seg 1 (pc' := 60) (lv' := [(0, .ref 0), (1, .int (Int32.ofInt a1)), (2, .int (Int32.ofInt a2)), (3, .int (Int32.ofInt a3))]) (st' := [.int (Int32.ofInt 1), .int (Int32.ofInt (lf_shr a2 a3))]) rfl ?_
          refine lf_iand 61 rfl rfl ?_
          refine lf_if_ne 66 64 rfl rfl rfl lf_Rand (fun c => ?_) (fun c => ?_)
          · have h := h.1 c
            refine lf_sub (l := [(0, .ref 0), (1, .int (Int32.ofInt a1)), (2, .int (Int32.ofInt a2)), (3, .int (Int32.ofInt a3))]) (lf_sb1 rfl (lf_sb1 rfl (lf_sb1 rfl (lf_sb1 rfl lf_sb0)))) ?_
            exact gm_136_p66 h
          · have h := h.2 c
            refine lf_seg 1 (pc' := 65) (lv' := [(0, .ref 0), (1, .int (Int32.ofInt a1)), (2, .int (Int32.ofInt a2)), (3, .int (Int32.ofInt a3))]) (st' := [.int (Int32.ofInt (-1))]) rfl ?_
            exact lf_retI rfl rfl h
    · have h := h.2 c
      refine lf_seg 1 (pc' := 39) (lv' := [(0, .ref 0), (1, .int (Int32.ofInt a1)), (2, .int (Int32.ofInt a2)), (3, .int (Int32.ofInt a3))]) (st' := [.int (Int32.ofInt (-1))]) rfl ?_
      exact lf_retI rfl rfl h
-- fm_301 Model.layOut i 113
def fm_301_p28 (X4 : Int → Int → lf_Z → Prop) (Q : Int → lf_Z → Prop) (x0 : Int) (x2 : Int) (x3 : Int) (s : lf_Z) : Prop := X4 x2 (x3 + 1) s
set_option maxRecDepth 100000 in
theorem gm_301_p28 {L : Nat} {xs : Nat → Int32} {d : Nat} {X4 : Int → Int → lf_Z → Prop} {Q : Int → lf_Z → Prop} {x0 : Int} {x2 : Int} {x3 : Int} {s : lf_Z} (hX4 : ∀ x2 x3 s, X4 x2 x3 s → lf_E (px_ro L xs) (d + 2) 301 4 [(0, .int (Int32.ofInt x0)), (1, .ref 113), (2, .int (Int32.ofInt x2)), (3, .int (Int32.ofInt x3))] [] s (lf_qi Q)) (h : fm_301_p28 X4 Q x0 x2 x3 s) : lf_E (px_ro L xs) (d + 2) 301 28 [(0, .int (Int32.ofInt x0)), (1, .ref 113), (2, .int (Int32.ofInt x2)), (3, .int (Int32.ofInt x3))] [] s (lf_qi Q) := by
  unfold fm_301_p28 at h
  refine lf_iinc 31 rfl rfl rfl rfl ?_
  refine lf_seg 1 (pc' := 4) (lv' := [(3, .int (Int32.ofInt (x3 + 1))), (0, .int (Int32.ofInt x0)), (1, .ref 113), (2, .int (Int32.ofInt x2))]) (st' := []) rfl ?_
  refine lf_sub (l := [(0, .int (Int32.ofInt x0)), (1, .ref 113), (2, .int (Int32.ofInt x2)), (3, .int (Int32.ofInt (x3 + 1)))]) (lf_sb1 rfl (lf_sb1 rfl (lf_sb1 rfl (lf_sb1 rfl lf_sb0)))) ?_
  exact hX4 _ _ _ h
def fm_301_p4 (Q : Int → lf_Z → Prop) (x0 : Int) (X4 : Int → Int → lf_Z → Prop) (x2 : Int) (x3 : Int) (s : lf_Z) : Prop := lf_R x3 ∧ ((12 ≤ x3 → (Q x2 s)) ∧ (¬ (12 ≤ x3) → (fm_210 x0 x3 (fun z5 s3 => ((z5 = true → ((0 ≤ x2 ∧ x2 < 6) ∧ (fm_301_p28 X4 Q x0 (x2 + 1) x3 (lf_up s3.1 113 x2 x3, s3.2.1, s3.2.2)))) ∧ (z5 = false → (fm_301_p28 X4 Q x0 x2 x3 s3)))) s)))
def fm_301_p4L (Q : Int → lf_Z → Prop) (x0 : Int) (x2 : Int) (x3 : Int) (s : lf_Z) : Prop := ∀ X4 : Int → Int → lf_Z → Prop, (∀ (x2 : Int) (x3 : Int) (s : lf_Z), fm_301_p4 Q x0 X4 x2 x3 s → X4 x2 x3 s) → X4 x2 x3 s
set_option maxRecDepth 100000 in
theorem gm_301_p4 {L : Nat} {xs : Nat → Int32} {d : Nat} {Q : Int → lf_Z → Prop} {x0 : Int} {x2 : Int} {x3 : Int} {s : lf_Z} {X4 : Int → Int → lf_Z → Prop} (hX4 : ∀ x2 x3 s, X4 x2 x3 s → lf_E (px_ro L xs) (d + 2) 301 4 [(0, .int (Int32.ofInt x0)), (1, .ref 113), (2, .int (Int32.ofInt x2)), (3, .int (Int32.ofInt x3))] [] s (lf_qi Q)) (h : fm_301_p4 Q x0 X4 x2 x3 s) : lf_E (px_ro L xs) (d + 2) 301 4 [(0, .int (Int32.ofInt x0)), (1, .ref 113), (2, .int (Int32.ofInt x2)), (3, .int (Int32.ofInt x3))] [] s (lf_qi Q) := by
  unfold fm_301_p4 at h
  refine lf_seg 1 (pc' := 5) (lv' := [(0, .int (Int32.ofInt x0)), (1, .ref 113), (2, .int (Int32.ofInt x2)), (3, .int (Int32.ofInt x3))]) (st' := [.int (Int32.ofInt x3)]) rfl ?_
  refine lf_bipush 7 12 rfl rfl (by decide) (by decide) ?_
  obtain ⟨o2, h⟩ := h
  refine lf_icmp_ge 34 10 rfl rfl rfl o2 ⟨by decide, by decide⟩ (fun c => ?_) (fun c => ?_)
  · have h := h.1 c
    refine lf_seg 1 (pc' := 35) (lv' := [(0, .int (Int32.ofInt x0)), (1, .ref 113), (2, .int (Int32.ofInt x2)), (3, .int (Int32.ofInt x3))]) (st' := [.int (Int32.ofInt x2)]) rfl ?_
    exact lf_retI rfl rfl h
  · have h := h.2 c
    refine lf_seg 2 (pc' := 12) (lv' := [(0, .int (Int32.ofInt x0)), (1, .ref 113), (2, .int (Int32.ofInt x2)), (3, .int (Int32.ofInt x3))]) (st' := [.int (Int32.ofInt x3), .int (Int32.ofInt x0)]) rfl ?_
    refine lf_callZ 15 rfl rfl rfl rfl (gm_210 h) (fun z5 s3 h => ?_)
    refine lf_ifz_ne 21 18 rfl rfl rfl (fun c => ?_) (fun c => ?_)
    · have h := h.1 c
      refine lf_seg 3 (pc' := 24) (lv' := [(0, .int (Int32.ofInt x0)), (1, .ref 113), (2, .int (Int32.ofInt x2)), (3, .int (Int32.ofInt x3))]) (st' := [.int (Int32.ofInt x3), .int (Int32.ofInt x2), .ref 113]) rfl ?_
      obtain ⟨o7, h⟩ := h
      refine lf_iast 25 6 rfl rfl rfl rfl rfl rfl o7 ?_
      refine lf_as (lf_up s3.1 113 x2 x3, s3.2.1, s3.2.2) rfl ?_
      refine lf_iinc 28 rfl rfl rfl rfl ?_
      refine lf_seg 0 (pc' := 28) (lv' := [(2, .int (Int32.ofInt (x2 + 1))), (0, .int (Int32.ofInt x0)), (1, .ref 113), (3, .int (Int32.ofInt x3))]) (st' := []) rfl ?_
      refine lf_sub (l := [(0, .int (Int32.ofInt x0)), (1, .ref 113), (2, .int (Int32.ofInt (x2 + 1))), (3, .int (Int32.ofInt x3))]) (lf_sb1 rfl (lf_sb1 rfl (lf_sb1 rfl (lf_sb1 rfl lf_sb0)))) ?_
      exact gm_301_p28 hX4 h
    · have h := h.2 c
      refine lf_seg 1 (pc' := 28) (lv' := [(0, .int (Int32.ofInt x0)), (1, .ref 113), (2, .int (Int32.ofInt x2)), (3, .int (Int32.ofInt x3))]) (st' := []) rfl ?_
      refine lf_sub (l := [(0, .int (Int32.ofInt x0)), (1, .ref 113), (2, .int (Int32.ofInt x2)), (3, .int (Int32.ofInt x3))]) (lf_sb1 rfl (lf_sb1 rfl (lf_sb1 rfl (lf_sb1 rfl lf_sb0)))) ?_
      exact gm_301_p28 hX4 h
theorem gm_301_p4L {L : Nat} {xs : Nat → Int32} {d : Nat} {Q : Int → lf_Z → Prop} {x0 : Int} {x2 : Int} {x3 : Int} {s : lf_Z} (h : fm_301_p4L Q x0 x2 x3 s) : lf_E (px_ro L xs) (d + 2) 301 4 [(0, .int (Int32.ofInt x0)), (1, .ref 113), (2, .int (Int32.ofInt x2)), (3, .int (Int32.ofInt x3))] [] s (lf_qi Q) :=
  h (fun x2 x3 s => lf_E (px_ro L xs) (d + 2) 301 4 [(0, .int (Int32.ofInt x0)), (1, .ref 113), (2, .int (Int32.ofInt x2)), (3, .int (Int32.ofInt x3))] [] s (lf_qi Q)) (fun x2 x3 s hb => gm_301_p4 (fun _ _ _ h => h) hb)
def fm_301 (a0 : Int) (Q : Int → lf_Z → Prop) (s : lf_Z) : Prop := fm_301_p4L Q a0 0 0 s
set_option maxRecDepth 100000 in
theorem gm_301 {L : Nat} {xs : Nat → Int32} {d : Nat} {a0 : Int} {Q : Int → lf_Z → Prop} {s : lf_Z} (h : fm_301 a0 Q s) : lf_M (px_ro L xs) (d + 2) 301 [.int (Int32.ofInt a0), .ref 113] s (lf_qi Q) := by
  unfold fm_301 at h
  show lf_E (px_ro L xs) (d + 2) 301 0 [(0, .int (Int32.ofInt a0)), (1, .ref 113)] [] s _
  refine lf_seg 4 (pc' := 4) (lv' := [(3, .int (Int32.ofInt 0)), (2, .int (Int32.ofInt 0)), (0, .int (Int32.ofInt a0)), (1, .ref 113)]) (st' := []) rfl ?_
  refine lf_sub (l := [(0, .int (Int32.ofInt a0)), (1, .ref 113), (2, .int (Int32.ofInt 0)), (3, .int (Int32.ofInt 0))]) (lf_sb1 rfl (lf_sb1 rfl (lf_sb1 rfl (lf_sb1 rfl lf_sb0)))) ?_
  exact gm_301_p4L h
-- fm_301b Model.layOut i 114
def fm_301b_p28 (X4 : Int → Int → lf_Z → Prop) (Q : Int → lf_Z → Prop) (x0 : Int) (x2 : Int) (x3 : Int) (s : lf_Z) : Prop := X4 x2 (x3 + 1) s
set_option maxRecDepth 100000 in
theorem gm_301b_p28 {L : Nat} {xs : Nat → Int32} {d : Nat} {X4 : Int → Int → lf_Z → Prop} {Q : Int → lf_Z → Prop} {x0 : Int} {x2 : Int} {x3 : Int} {s : lf_Z} (hX4 : ∀ x2 x3 s, X4 x2 x3 s → lf_E (px_ro L xs) (d + 2) 301 4 [(0, .int (Int32.ofInt x0)), (1, .ref 114), (2, .int (Int32.ofInt x2)), (3, .int (Int32.ofInt x3))] [] s (lf_qi Q)) (h : fm_301b_p28 X4 Q x0 x2 x3 s) : lf_E (px_ro L xs) (d + 2) 301 28 [(0, .int (Int32.ofInt x0)), (1, .ref 114), (2, .int (Int32.ofInt x2)), (3, .int (Int32.ofInt x3))] [] s (lf_qi Q) := by
  unfold fm_301b_p28 at h
  refine lf_iinc 31 rfl rfl rfl rfl ?_
  refine lf_seg 1 (pc' := 4) (lv' := [(3, .int (Int32.ofInt (x3 + 1))), (0, .int (Int32.ofInt x0)), (1, .ref 114), (2, .int (Int32.ofInt x2))]) (st' := []) rfl ?_
  refine lf_sub (l := [(0, .int (Int32.ofInt x0)), (1, .ref 114), (2, .int (Int32.ofInt x2)), (3, .int (Int32.ofInt (x3 + 1)))]) (lf_sb1 rfl (lf_sb1 rfl (lf_sb1 rfl (lf_sb1 rfl lf_sb0)))) ?_
  exact hX4 _ _ _ h
def fm_301b_p4 (Q : Int → lf_Z → Prop) (x0 : Int) (X4 : Int → Int → lf_Z → Prop) (x2 : Int) (x3 : Int) (s : lf_Z) : Prop := lf_R x3 ∧ ((12 ≤ x3 → (Q x2 s)) ∧ (¬ (12 ≤ x3) → (fm_210 x0 x3 (fun z5 s3 => ((z5 = true → ((0 ≤ x2 ∧ x2 < 12) ∧ (fm_301b_p28 X4 Q x0 (x2 + 1) x3 (lf_up s3.1 114 x2 x3, s3.2.1, s3.2.2)))) ∧ (z5 = false → (fm_301b_p28 X4 Q x0 x2 x3 s3)))) s)))
def fm_301b_p4L (Q : Int → lf_Z → Prop) (x0 : Int) (x2 : Int) (x3 : Int) (s : lf_Z) : Prop := ∀ X4 : Int → Int → lf_Z → Prop, (∀ (x2 : Int) (x3 : Int) (s : lf_Z), fm_301b_p4 Q x0 X4 x2 x3 s → X4 x2 x3 s) → X4 x2 x3 s
set_option maxRecDepth 100000 in
theorem gm_301b_p4 {L : Nat} {xs : Nat → Int32} {d : Nat} {Q : Int → lf_Z → Prop} {x0 : Int} {x2 : Int} {x3 : Int} {s : lf_Z} {X4 : Int → Int → lf_Z → Prop} (hX4 : ∀ x2 x3 s, X4 x2 x3 s → lf_E (px_ro L xs) (d + 2) 301 4 [(0, .int (Int32.ofInt x0)), (1, .ref 114), (2, .int (Int32.ofInt x2)), (3, .int (Int32.ofInt x3))] [] s (lf_qi Q)) (h : fm_301b_p4 Q x0 X4 x2 x3 s) : lf_E (px_ro L xs) (d + 2) 301 4 [(0, .int (Int32.ofInt x0)), (1, .ref 114), (2, .int (Int32.ofInt x2)), (3, .int (Int32.ofInt x3))] [] s (lf_qi Q) := by
  unfold fm_301b_p4 at h
  refine lf_seg 1 (pc' := 5) (lv' := [(0, .int (Int32.ofInt x0)), (1, .ref 114), (2, .int (Int32.ofInt x2)), (3, .int (Int32.ofInt x3))]) (st' := [.int (Int32.ofInt x3)]) rfl ?_
  refine lf_bipush 7 12 rfl rfl (by decide) (by decide) ?_
  obtain ⟨o2, h⟩ := h
  refine lf_icmp_ge 34 10 rfl rfl rfl o2 ⟨by decide, by decide⟩ (fun c => ?_) (fun c => ?_)
  · have h := h.1 c
    refine lf_seg 1 (pc' := 35) (lv' := [(0, .int (Int32.ofInt x0)), (1, .ref 114), (2, .int (Int32.ofInt x2)), (3, .int (Int32.ofInt x3))]) (st' := [.int (Int32.ofInt x2)]) rfl ?_
    exact lf_retI rfl rfl h
  · have h := h.2 c
    refine lf_seg 2 (pc' := 12) (lv' := [(0, .int (Int32.ofInt x0)), (1, .ref 114), (2, .int (Int32.ofInt x2)), (3, .int (Int32.ofInt x3))]) (st' := [.int (Int32.ofInt x3), .int (Int32.ofInt x0)]) rfl ?_
    refine lf_callZ 15 rfl rfl rfl rfl (gm_210 h) (fun z5 s3 h => ?_)
    refine lf_ifz_ne 21 18 rfl rfl rfl (fun c => ?_) (fun c => ?_)
    · have h := h.1 c
      refine lf_seg 3 (pc' := 24) (lv' := [(0, .int (Int32.ofInt x0)), (1, .ref 114), (2, .int (Int32.ofInt x2)), (3, .int (Int32.ofInt x3))]) (st' := [.int (Int32.ofInt x3), .int (Int32.ofInt x2), .ref 114]) rfl ?_
      obtain ⟨o7, h⟩ := h
      refine lf_iast 25 12 rfl rfl rfl rfl rfl rfl o7 ?_
      refine lf_as (lf_up s3.1 114 x2 x3, s3.2.1, s3.2.2) rfl ?_
      refine lf_iinc 28 rfl rfl rfl rfl ?_
      refine lf_seg 0 (pc' := 28) (lv' := [(2, .int (Int32.ofInt (x2 + 1))), (0, .int (Int32.ofInt x0)), (1, .ref 114), (3, .int (Int32.ofInt x3))]) (st' := []) rfl ?_
      refine lf_sub (l := [(0, .int (Int32.ofInt x0)), (1, .ref 114), (2, .int (Int32.ofInt (x2 + 1))), (3, .int (Int32.ofInt x3))]) (lf_sb1 rfl (lf_sb1 rfl (lf_sb1 rfl (lf_sb1 rfl lf_sb0)))) ?_
      exact gm_301b_p28 hX4 h
    · have h := h.2 c
      refine lf_seg 1 (pc' := 28) (lv' := [(0, .int (Int32.ofInt x0)), (1, .ref 114), (2, .int (Int32.ofInt x2)), (3, .int (Int32.ofInt x3))]) (st' := []) rfl ?_
      refine lf_sub (l := [(0, .int (Int32.ofInt x0)), (1, .ref 114), (2, .int (Int32.ofInt x2)), (3, .int (Int32.ofInt x3))]) (lf_sb1 rfl (lf_sb1 rfl (lf_sb1 rfl (lf_sb1 rfl lf_sb0)))) ?_
      exact gm_301b_p28 hX4 h
theorem gm_301b_p4L {L : Nat} {xs : Nat → Int32} {d : Nat} {Q : Int → lf_Z → Prop} {x0 : Int} {x2 : Int} {x3 : Int} {s : lf_Z} (h : fm_301b_p4L Q x0 x2 x3 s) : lf_E (px_ro L xs) (d + 2) 301 4 [(0, .int (Int32.ofInt x0)), (1, .ref 114), (2, .int (Int32.ofInt x2)), (3, .int (Int32.ofInt x3))] [] s (lf_qi Q) :=
  h (fun x2 x3 s => lf_E (px_ro L xs) (d + 2) 301 4 [(0, .int (Int32.ofInt x0)), (1, .ref 114), (2, .int (Int32.ofInt x2)), (3, .int (Int32.ofInt x3))] [] s (lf_qi Q)) (fun x2 x3 s hb => gm_301b_p4 (fun _ _ _ h => h) hb)
def fm_301b (a0 : Int) (Q : Int → lf_Z → Prop) (s : lf_Z) : Prop := fm_301b_p4L Q a0 0 0 s
set_option maxRecDepth 100000 in
theorem gm_301b {L : Nat} {xs : Nat → Int32} {d : Nat} {a0 : Int} {Q : Int → lf_Z → Prop} {s : lf_Z} (h : fm_301b a0 Q s) : lf_M (px_ro L xs) (d + 2) 301 [.int (Int32.ofInt a0), .ref 114] s (lf_qi Q) := by
  unfold fm_301b at h
  show lf_E (px_ro L xs) (d + 2) 301 0 [(0, .int (Int32.ofInt a0)), (1, .ref 114)] [] s _
  refine lf_seg 4 (pc' := 4) (lv' := [(3, .int (Int32.ofInt 0)), (2, .int (Int32.ofInt 0)), (0, .int (Int32.ofInt a0)), (1, .ref 114)]) (st' := []) rfl ?_
  refine lf_sub (l := [(0, .int (Int32.ofInt a0)), (1, .ref 114), (2, .int (Int32.ofInt 0)), (3, .int (Int32.ofInt 0))]) (lf_sb1 rfl (lf_sb1 rfl (lf_sb1 rfl (lf_sb1 rfl lf_sb0)))) ?_
  exact gm_301b_p4L h
-- fm_303 Model.areUnlike 95 i
def fm_303_p4 (Q : Bool → lf_Z → Prop) (x1 : Int) (X4 : Int → Int → lf_Z → Prop) (x2 : Int) (x3 : Int) (s : lf_Z) : Prop := lf_R x3 ∧ (lf_R x1 ∧ ((x1 ≤ x3 → (Q true s)) ∧ (¬ (x1 ≤ x3) → ((0 ≤ x3 ∧ x3 < 6) ∧ (fm_210 x2 (s.1 116 x3) (fun z8 s6 => ((z8 = false → (X4 (lf_or x2 (lf_shl 1 (s6.1 116 x3))) (x3 + 1) s6)) ∧ (z8 = true → (Q false s6)))) s)))))
def fm_303_p4L (Q : Bool → lf_Z → Prop) (x1 : Int) (x2 : Int) (x3 : Int) (s : lf_Z) : Prop := ∀ X4 : Int → Int → lf_Z → Prop, (∀ (x2 : Int) (x3 : Int) (s : lf_Z), fm_303_p4 Q x1 X4 x2 x3 s → X4 x2 x3 s) → X4 x2 x3 s
set_option maxRecDepth 100000 in
theorem gm_303_p4 {L : Nat} {xs : Nat → Int32} {d : Nat} {Q : Bool → lf_Z → Prop} {x1 : Int} {x2 : Int} {x3 : Int} {s : lf_Z} {X4 : Int → Int → lf_Z → Prop} (hX4 : ∀ x2 x3 s, X4 x2 x3 s → lf_E (px_ro L xs) (d + 2) 303 4 [(0, .ref 95), (1, .int (Int32.ofInt x1)), (2, .int (Int32.ofInt x2)), (3, .int (Int32.ofInt x3))] [] s (lf_qz Q)) (h : fm_303_p4 Q x1 X4 x2 x3 s) : lf_E (px_ro L xs) (d + 2) 303 4 [(0, .ref 95), (1, .int (Int32.ofInt x1)), (2, .int (Int32.ofInt x2)), (3, .int (Int32.ofInt x3))] [] s (lf_qz Q) := by
  unfold fm_303_p4 at h
  refine lf_seg 2 (pc' := 6) (lv' := [(0, .ref 95), (1, .int (Int32.ofInt x1)), (2, .int (Int32.ofInt x2)), (3, .int (Int32.ofInt x3))]) (st' := [.int (Int32.ofInt x1), .int (Int32.ofInt x3)]) rfl ?_
  obtain ⟨o2, h⟩ := h
  obtain ⟨o3, h⟩ := h
  refine lf_icmp_ge 41 9 rfl rfl rfl o2 o3 (fun c => ?_) (fun c => ?_)
  · have h := h.1 c
    refine lf_seg 1 (pc' := 42) (lv' := [(0, .ref 95), (1, .int (Int32.ofInt x1)), (2, .int (Int32.ofInt x2)), (3, .int (Int32.ofInt x3))]) (st' := [.int (Int32.ofInt 1)]) rfl ?_
    exact lf_retZ true rfl rfl h
  · have h := h.2 c
    refine lf_seg 4 (pc' := 15) (lv' := [(0, .ref 95), (1, .int (Int32.ofInt x1)), (2, .int (Int32.ofInt x2)), (3, .int (Int32.ofInt x3))]) (st' := [.int (Int32.ofInt x3), .ref 116, .int (Int32.ofInt x2)]) rfl ?_
    obtain ⟨o4, h⟩ := h
    refine lf_iald 16 6 rfl rfl rfl rfl rfl rfl o4 ?_
    refine lf_callZ 19 rfl rfl rfl rfl (gm_210 h) (fun z8 s6 h => ?_)
    refine lf_ifz_eq 24 22 rfl rfl rfl (fun c => ?_) (fun c => ?_)
    · have h := h.1 c
      refine lf_seg 5 (pc' := 31) (lv' := [(0, .ref 95), (1, .int (Int32.ofInt x1)), (2, .int (Int32.ofInt x2)), (3, .int (Int32.ofInt x3))]) (st' := [.int (Int32.ofInt x3), .ref 116, .int (Int32.ofInt 1), .int (Int32.ofInt x2)]) rfl ?_
      refine lf_iald 32 6 rfl rfl rfl rfl rfl rfl o4 ?_
      refine lf_ishl 33 rfl rfl ?_
      refine lf_ior 34 rfl rfl ?_
      refine lf_seg 1 (pc' := 35) (lv' := [(2, .int (Int32.ofInt (lf_or x2 (lf_shl 1 (s6.1 116 x3))))), (0, .ref 95), (1, .int (Int32.ofInt x1)), (3, .int (Int32.ofInt x3))]) (st' := []) rfl ?_
      refine lf_iinc 38 rfl rfl rfl rfl ?_
      refine lf_seg 1 (pc' := 4) (lv' := [(3, .int (Int32.ofInt (x3 + 1))), (2, .int (Int32.ofInt (lf_or x2 (lf_shl 1 (s6.1 116 x3))))), (0, .ref 95), (1, .int (Int32.ofInt x1))]) (st' := []) rfl ?_
      refine lf_sub (l := [(0, .ref 95), (1, .int (Int32.ofInt x1)), (2, .int (Int32.ofInt (lf_or x2 (lf_shl 1 (s6.1 116 x3))))), (3, .int (Int32.ofInt (x3 + 1)))]) (lf_sb1 rfl (lf_sb1 rfl (lf_sb1 rfl (lf_sb1 rfl lf_sb0)))) ?_
      exact hX4 _ _ _ h
    · have h := h.2 c
      refine lf_seg 1 (pc' := 23) (lv' := [(0, .ref 95), (1, .int (Int32.ofInt x1)), (2, .int (Int32.ofInt x2)), (3, .int (Int32.ofInt x3))]) (st' := [.int (Int32.ofInt 0)]) rfl ?_
      exact lf_retZ false rfl rfl h
theorem gm_303_p4L {L : Nat} {xs : Nat → Int32} {d : Nat} {Q : Bool → lf_Z → Prop} {x1 : Int} {x2 : Int} {x3 : Int} {s : lf_Z} (h : fm_303_p4L Q x1 x2 x3 s) : lf_E (px_ro L xs) (d + 2) 303 4 [(0, .ref 95), (1, .int (Int32.ofInt x1)), (2, .int (Int32.ofInt x2)), (3, .int (Int32.ofInt x3))] [] s (lf_qz Q) :=
  h (fun x2 x3 s => lf_E (px_ro L xs) (d + 2) 303 4 [(0, .ref 95), (1, .int (Int32.ofInt x1)), (2, .int (Int32.ofInt x2)), (3, .int (Int32.ofInt x3))] [] s (lf_qz Q)) (fun x2 x3 s hb => gm_303_p4 (fun _ _ _ h => h) hb)
def fm_303 (a1 : Int) (Q : Bool → lf_Z → Prop) (s : lf_Z) : Prop := fm_303_p4L Q a1 0 0 s
set_option maxRecDepth 100000 in
theorem gm_303 {L : Nat} {xs : Nat → Int32} {d : Nat} {a1 : Int} {Q : Bool → lf_Z → Prop} {s : lf_Z} (h : fm_303 a1 Q s) : lf_M (px_ro L xs) (d + 2) 303 [.ref 95, .int (Int32.ofInt a1)] s (lf_qz Q) := by
  unfold fm_303 at h
  show lf_E (px_ro L xs) (d + 2) 303 0 [(0, .ref 95), (1, .int (Int32.ofInt a1))] [] s _
  refine lf_seg 4 (pc' := 4) (lv' := [(3, .int (Int32.ofInt 0)), (2, .int (Int32.ofInt 0)), (0, .ref 95), (1, .int (Int32.ofInt a1))]) (st' := []) rfl ?_
  refine lf_sub (l := [(0, .ref 95), (1, .int (Int32.ofInt a1)), (2, .int (Int32.ofInt 0)), (3, .int (Int32.ofInt 0))]) (lf_sb1 rfl (lf_sb1 rfl (lf_sb1 rfl (lf_sb1 rfl lf_sb0)))) ?_
  exact gm_303_p4L h
-- fm_304 Model.nextRow 95 i i
def fm_304_p33 (Q : Bool → lf_Z → Prop) (x3 : Int) (s : lf_Z) : Prop := lf_R x3 ∧ ((0 ≤ x3 → ((0 ≤ x3 ∧ x3 < 6) ∧ (Q true (lf_up s.1 116 x3 ((s.1 116 x3) + 1), s.2.1, s.2.2)))) ∧ (¬ (0 ≤ x3) → (Q false s)))
set_option maxRecDepth 100000 in
theorem gm_304_p33 {L : Nat} {xs : Nat → Int32} {d : Nat} {Q : Bool → lf_Z → Prop} {x3 : Int} {s : lf_Z} (h : fm_304_p33 Q x3 s) : lf_E (px_ro L xs) (d + 1) 304 33 [(0, .ref 95), (3, .int (Int32.ofInt x3))] [] s (lf_qz Q) := by
  unfold fm_304_p33 at h
  refine lf_seg 1 (pc' := 34) (lv' := [(0, .ref 95), (3, .int (Int32.ofInt x3))]) (st' := [.int (Int32.ofInt x3)]) rfl ?_
  obtain ⟨o4, h⟩ := h
  refine lf_if_ge 39 37 rfl rfl rfl o4 (fun c => ?_) (fun c => ?_)
  · have h := h.1 c
    refine lf_seg 4 (pc' := 45) (lv' := [(0, .ref 95), (3, .int (Int32.ofInt x3))]) (st' := [.int (Int32.ofInt x3), .ref 116, .int (Int32.ofInt x3), .ref 116]) rfl ?_
    obtain ⟨o5, h⟩ := h
    refine lf_iald 46 6 rfl rfl rfl rfl rfl rfl o5 ?_
    refine lf_seg 1 (pc' := 47) (lv' := [(0, .ref 95), (3, .int (Int32.ofInt x3))]) (st' := [.int (Int32.ofInt 1), .int (Int32.ofInt (s.1 116 x3)), .int (Int32.ofInt x3), .ref 116]) rfl ?_
    refine lf_iadd 48 rfl rfl ?_
    refine lf_iast 49 6 rfl rfl rfl rfl rfl rfl o5 ?_
    refine lf_as (lf_up s.1 116 x3 ((s.1 116 x3) + 1), s.2.1, s.2.2) rfl ?_
    refine lf_seg 1 (pc' := 50) (lv' := [(0, .ref 95), (3, .int (Int32.ofInt x3))]) (st' := [.int (Int32.ofInt 1)]) rfl ?_
    exact lf_retZ true rfl rfl h
  · have h := h.2 c
    refine lf_seg 1 (pc' := 38) (lv' := [(0, .ref 95), (3, .int (Int32.ofInt x3))]) (st' := [.int (Int32.ofInt 0)]) rfl ?_
    exact lf_retZ false rfl rfl h
def fm_304_p4 (Q : Bool → lf_Z → Prop) (x2 : Int) (X4 : Int → lf_Z → Prop) (x3 : Int) (s : lf_Z) : Prop := lf_R x3 ∧ ((x3 < 0 → (fm_304_p33 Q x3 s)) ∧ (¬ (x3 < 0) → ((0 ≤ x3 ∧ x3 < 6) ∧ (lf_R (s.1 116 x3) ∧ (lf_R (x2 - 1) ∧ ((s.1 116 x3 ≠ x2 - 1 → (fm_304_p33 Q x3 s)) ∧ (¬ (s.1 116 x3 ≠ x2 - 1) → (X4 (x3 + (-1)) (lf_up s.1 116 x3 0, s.2.1, s.2.2)))))))))
def fm_304_p4L (Q : Bool → lf_Z → Prop) (x2 : Int) (x3 : Int) (s : lf_Z) : Prop := ∀ X4 : Int → lf_Z → Prop, (∀ (x3 : Int) (s : lf_Z), fm_304_p4 Q x2 X4 x3 s → X4 x3 s) → X4 x3 s
set_option maxRecDepth 100000 in
theorem gm_304_p4 {L : Nat} {xs : Nat → Int32} {d : Nat} {Q : Bool → lf_Z → Prop} {x2 : Int} {x3 : Int} {s : lf_Z} {X4 : Int → lf_Z → Prop} (hX4 : ∀ x3 s, X4 x3 s → lf_E (px_ro L xs) (d + 1) 304 4 [(0, .ref 95), (2, .int (Int32.ofInt x2)), (3, .int (Int32.ofInt x3))] [] s (lf_qz Q)) (h : fm_304_p4 Q x2 X4 x3 s) : lf_E (px_ro L xs) (d + 1) 304 4 [(0, .ref 95), (2, .int (Int32.ofInt x2)), (3, .int (Int32.ofInt x3))] [] s (lf_qz Q) := by
  unfold fm_304_p4 at h
  refine lf_seg 1 (pc' := 5) (lv' := [(0, .ref 95), (2, .int (Int32.ofInt x2)), (3, .int (Int32.ofInt x3))]) (st' := [.int (Int32.ofInt x3)]) rfl ?_
  obtain ⟨o2, h⟩ := h
  refine lf_if_lt 33 8 rfl rfl rfl o2 (fun c => ?_) (fun c => ?_)
  · have h := h.1 c
    refine lf_sub (l := [(0, .ref 95), (3, .int (Int32.ofInt x3))]) (lf_sb1 rfl (lf_sb1 rfl lf_sb0)) ?_
    exact gm_304_p33 h
  · have h := h.2 c
    refine lf_seg 3 (pc' := 13) (lv' := [(0, .ref 95), (2, .int (Int32.ofInt x2)), (3, .int (Int32.ofInt x3))]) (st' := [.int (Int32.ofInt x3), .ref 116]) rfl ?_
    obtain ⟨o9, h⟩ := h
    refine lf_iald 14 6 rfl rfl rfl rfl rfl rfl o9 ?_
    refine lf_seg 2 (pc' := 16) (lv' := [(0, .ref 95), (2, .int (Int32.ofInt x2)), (3, .int (Int32.ofInt x3))]) (st' := [.int (Int32.ofInt 1), .int (Int32.ofInt x2), .int (Int32.ofInt (s.1 116 x3))]) rfl ?_
    refine lf_isub 17 rfl rfl ?_
    obtain ⟨o12, h⟩ := h
    obtain ⟨o13, h⟩ := h
    refine lf_icmp_ne 33 20 rfl rfl rfl o12 o13 (fun c => ?_) (fun c => ?_)
    · have h := h.1 c
      refine lf_sub (l := [(0, .ref 95), (3, .int (Int32.ofInt x3))]) (lf_sb1 rfl (lf_sb1 rfl lf_sb0)) ?_
      exact gm_304_p33 h
    · have h := h.2 c
      refine lf_seg 4 (pc' := 26) (lv' := [(0, .ref 95), (2, .int (Int32.ofInt x2)), (3, .int (Int32.ofInt x3))]) (st' := [.int (Int32.ofInt 0), .int (Int32.ofInt x3), .ref 116]) rfl ?_
      refine lf_iast 27 6 rfl rfl rfl rfl rfl rfl o9 ?_
      refine lf_as (lf_up s.1 116 x3 0, s.2.1, s.2.2) rfl ?_
      refine lf_iinc 30 rfl rfl rfl rfl ?_
      refine lf_seg 1 (pc' := 4) (lv' := [(3, .int (Int32.ofInt (x3 + (-1)))), (0, .ref 95), (2, .int (Int32.ofInt x2))]) (st' := []) rfl ?_
      refine lf_sub (l := [(0, .ref 95), (2, .int (Int32.ofInt x2)), (3, .int (Int32.ofInt (x3 + (-1))))]) (lf_sb1 rfl (lf_sb1 rfl (lf_sb1 rfl lf_sb0))) ?_
      exact hX4 _ _ h
theorem gm_304_p4L {L : Nat} {xs : Nat → Int32} {d : Nat} {Q : Bool → lf_Z → Prop} {x2 : Int} {x3 : Int} {s : lf_Z} (h : fm_304_p4L Q x2 x3 s) : lf_E (px_ro L xs) (d + 1) 304 4 [(0, .ref 95), (2, .int (Int32.ofInt x2)), (3, .int (Int32.ofInt x3))] [] s (lf_qz Q) :=
  h (fun x3 s => lf_E (px_ro L xs) (d + 1) 304 4 [(0, .ref 95), (2, .int (Int32.ofInt x2)), (3, .int (Int32.ofInt x3))] [] s (lf_qz Q)) (fun x3 s hb => gm_304_p4 (fun _ _ h => h) hb)
def fm_304 (a1 : Int) (a2 : Int) (Q : Bool → lf_Z → Prop) (s : lf_Z) : Prop := fm_304_p4L Q a2 (a1 - 1) s
set_option maxRecDepth 100000 in
theorem gm_304 {L : Nat} {xs : Nat → Int32} {d : Nat} {a1 : Int} {a2 : Int} {Q : Bool → lf_Z → Prop} {s : lf_Z} (h : fm_304 a1 a2 Q s) : lf_M (px_ro L xs) (d + 1) 304 [.ref 95, .int (Int32.ofInt a1), .int (Int32.ofInt a2)] s (lf_qz Q) := by
  unfold fm_304 at h
  show lf_E (px_ro L xs) (d + 1) 304 0 [(0, .ref 95), (1, .int (Int32.ofInt a1)), (2, .int (Int32.ofInt a2))] [] s _
  refine lf_seg 2 (pc' := 2) (lv' := [(0, .ref 95), (1, .int (Int32.ofInt a1)), (2, .int (Int32.ofInt a2))]) (st' := [.int (Int32.ofInt 1), .int (Int32.ofInt a1)]) rfl ?_
  refine lf_isub 3 rfl rfl ?_
  refine lf_seg 1 (pc' := 4) (lv' := [(3, .int (Int32.ofInt (a1 - 1))), (0, .ref 95), (1, .int (Int32.ofInt a1)), (2, .int (Int32.ofInt a2))]) (st' := []) rfl ?_
  refine lf_sub (l := [(0, .ref 95), (2, .int (Int32.ofInt a2)), (3, .int (Int32.ofInt (a1 - 1)))]) (lf_sb1 rfl (lf_sb1 rfl (lf_sb1 rfl lf_sb0))) ?_
  exact gm_304_p4L h
-- fm_302 Model.bestSending 95 i i
def fm_302_p162 (X30 : Int → Int → lf_Z → Prop) (Q : Int → lf_Z → Prop) (x1 : Int) (x2 : Int) (y0 : Int) (s : lf_Z) : Prop := fm_304 x1 x2 (fun z23 s19 => (X30 y0 (lf_b z23) s19)) s
set_option maxRecDepth 100000 in
theorem gm_302_p162 {L : Nat} {xs : Nat → Int32} {d : Nat} {X30 : Int → Int → lf_Z → Prop} {Q : Int → lf_Z → Prop} {x1 : Int} {x2 : Int} {y0 : Int} {s : lf_Z} (hX30 : ∀ x3 x4 s, X30 x3 x4 s → lf_E (px_ro L xs) (d + 3) 302 30 [(0, .ref 95), (1, .int (Int32.ofInt x1)), (2, .int (Int32.ofInt x2)), (3, .int (Int32.ofInt x3)), (4, .int (Int32.ofInt x4))] [] s (lf_qi Q)) (h : fm_302_p162 X30 Q x1 x2 y0 s) : lf_E (px_ro L xs) (d + 3) 302 162 [(0, .ref 95), (1, .int (Int32.ofInt x1)), (2, .int (Int32.ofInt x2))] [.int (Int32.ofInt y0)] s (lf_qi Q) := by
  unfold fm_302_p162 at h
  refine lf_seg 4 (pc' := 166) (lv' := [(3, .int (Int32.ofInt y0)), (0, .ref 95), (1, .int (Int32.ofInt x1)), (2, .int (Int32.ofInt x2))]) (st' := [.int (Int32.ofInt x2), .int (Int32.ofInt x1), .ref 95]) rfl ?_
  refine lf_callZ 169 rfl rfl rfl rfl (gm_304 h) (fun z23 s19 h => ?_)
  refine lf_seg 2 (pc' := 30) (lv' := [(4, .int (Int32.ofInt (lf_b z23))), (3, .int (Int32.ofInt y0)), (0, .ref 95), (1, .int (Int32.ofInt x1)), (2, .int (Int32.ofInt x2))]) (st' := []) rfl ?_
  refine lf_sub (l := [(0, .ref 95), (1, .int (Int32.ofInt x1)), (2, .int (Int32.ofInt x2)), (3, .int (Int32.ofInt y0)), (4, .int (Int32.ofInt (lf_b z23)))]) (lf_sb1 rfl (lf_sb1 rfl (lf_sb1 rfl (lf_sb1 rfl (lf_sb1 rfl lf_sb0))))) ?_
  exact hX30 _ _ _ h
def fm_302_p150 (X30 : Int → Int → lf_Z → Prop) (Q : Int → lf_Z → Prop) (x1 : Int) (x2 : Int) (x3 : Int) (x5 : Int) (s : lf_Z) : Prop := lf_R x5 ∧ (lf_R x3 ∧ ((x3 ≤ x5 → (fm_302_p162 X30 Q x1 x2 x3 s)) ∧ (¬ (x3 ≤ x5) → (fm_302_p162 X30 Q x1 x2 x5 s))))
set_option maxRecDepth 100000 in
theorem gm_302_p150 {L : Nat} {xs : Nat → Int32} {d : Nat} {X30 : Int → Int → lf_Z → Prop} {Q : Int → lf_Z → Prop} {x1 : Int} {x2 : Int} {x3 : Int} {x5 : Int} {s : lf_Z} (hX30 : ∀ x3 x4 s, X30 x3 x4 s → lf_E (px_ro L xs) (d + 3) 302 30 [(0, .ref 95), (1, .int (Int32.ofInt x1)), (2, .int (Int32.ofInt x2)), (3, .int (Int32.ofInt x3)), (4, .int (Int32.ofInt x4))] [] s (lf_qi Q)) (h : fm_302_p150 X30 Q x1 x2 x3 x5 s) : lf_E (px_ro L xs) (d + 3) 302 150 [(0, .ref 95), (1, .int (Int32.ofInt x1)), (2, .int (Int32.ofInt x2)), (3, .int (Int32.ofInt x3)), (5, .int (Int32.ofInt x5))] [] s (lf_qi Q) := by
  unfold fm_302_p150 at h
  refine lf_seg 2 (pc' := 153) (lv' := [(0, .ref 95), (1, .int (Int32.ofInt x1)), (2, .int (Int32.ofInt x2)), (3, .int (Int32.ofInt x3)), (5, .int (Int32.ofInt x5))]) (st' := [.int (Int32.ofInt x3), .int (Int32.ofInt x5)]) rfl ?_
  obtain ⟨o17, h⟩ := h
  obtain ⟨o18, h⟩ := h
  refine lf_icmp_ge 161 156 rfl rfl rfl o17 o18 (fun c => ?_) (fun c => ?_)
  · have h := h.1 c
    refine lf_seg 1 (pc' := 162) (lv' := [(0, .ref 95), (1, .int (Int32.ofInt x1)), (2, .int (Int32.ofInt x2)), (3, .int (Int32.ofInt x3)), (5, .int (Int32.ofInt x5))]) (st' := [.int (Int32.ofInt x3)]) rfl ?_
    refine lf_sub (l := [(0, .ref 95), (1, .int (Int32.ofInt x1)), (2, .int (Int32.ofInt x2))]) (lf_sb1 rfl (lf_sb1 rfl (lf_sb1 rfl lf_sb0))) ?_
    exact gm_302_p162 hX30 h
  · have h := h.2 c
    refine lf_seg 2 (pc' := 162) (lv' := [(0, .ref 95), (1, .int (Int32.ofInt x1)), (2, .int (Int32.ofInt x2)), (3, .int (Int32.ofInt x3)), (5, .int (Int32.ofInt x5))]) (st' := [.int (Int32.ofInt x5)]) rfl ?_
    refine lf_sub (l := [(0, .ref 95), (1, .int (Int32.ofInt x1)), (2, .int (Int32.ofInt x2))]) (lf_sb1 rfl (lf_sb1 rfl (lf_sb1 rfl lf_sb0))) ?_
    exact gm_302_p162 hX30 h
def fm_302_p118 (X30 : Int → Int → lf_Z → Prop) (Q : Int → lf_Z → Prop) (x1 : Int) (x2 : Int) (x3 : Int) (x5 : Int) (X118 : Int → lf_Z → Prop) (x6 : Int) (s : lf_Z) : Prop := lf_R x6 ∧ (lf_R x1 ∧ ((x1 ≤ x6 → (fm_302_p150 X30 Q x1 x2 x3 x5 s)) ∧ (¬ (x1 ≤ x6) → (lf_R x5 ∧ (lf_R x3 ∧ ((x3 ≤ x5 → (fm_302_p150 X30 Q x1 x2 x3 x5 s)) ∧ (¬ (x3 ≤ x5) → ((0 ≤ x6 ∧ x6 < 6) ∧ (X118 (x6 + 1) (lf_up s.1 117 x6 (s.1 116 x6), s.2.1, s.2.2))))))))))
def fm_302_p118L (X30 : Int → Int → lf_Z → Prop) (Q : Int → lf_Z → Prop) (x1 : Int) (x2 : Int) (x3 : Int) (x5 : Int) (x6 : Int) (s : lf_Z) : Prop := ∀ X118 : Int → lf_Z → Prop, (∀ (x6 : Int) (s : lf_Z), fm_302_p118 X30 Q x1 x2 x3 x5 X118 x6 s → X118 x6 s) → X118 x6 s
set_option maxRecDepth 100000 in
theorem gm_302_p118 {L : Nat} {xs : Nat → Int32} {d : Nat} {X30 : Int → Int → lf_Z → Prop} {Q : Int → lf_Z → Prop} {x1 : Int} {x2 : Int} {x3 : Int} {x5 : Int} {x6 : Int} {s : lf_Z} {X118 : Int → lf_Z → Prop} (hX30 : ∀ x3 x4 s, X30 x3 x4 s → lf_E (px_ro L xs) (d + 3) 302 30 [(0, .ref 95), (1, .int (Int32.ofInt x1)), (2, .int (Int32.ofInt x2)), (3, .int (Int32.ofInt x3)), (4, .int (Int32.ofInt x4))] [] s (lf_qi Q)) (hX118 : ∀ x6 s, X118 x6 s → lf_E (px_ro L xs) (d + 3) 302 118 [(0, .ref 95), (1, .int (Int32.ofInt x1)), (2, .int (Int32.ofInt x2)), (3, .int (Int32.ofInt x3)), (5, .int (Int32.ofInt x5)), (6, .int (Int32.ofInt x6))] [] s (lf_qi Q)) (h : fm_302_p118 X30 Q x1 x2 x3 x5 X118 x6 s) : lf_E (px_ro L xs) (d + 3) 302 118 [(0, .ref 95), (1, .int (Int32.ofInt x1)), (2, .int (Int32.ofInt x2)), (3, .int (Int32.ofInt x3)), (5, .int (Int32.ofInt x5)), (6, .int (Int32.ofInt x6))] [] s (lf_qi Q) := by
  unfold fm_302_p118 at h
  refine lf_seg 2 (pc' := 121) (lv' := [(0, .ref 95), (1, .int (Int32.ofInt x1)), (2, .int (Int32.ofInt x2)), (3, .int (Int32.ofInt x3)), (5, .int (Int32.ofInt x5)), (6, .int (Int32.ofInt x6))]) (st' := [.int (Int32.ofInt x1), .int (Int32.ofInt x6)]) rfl ?_
  obtain ⟨o14, h⟩ := h
  obtain ⟨o15, h⟩ := h
  refine lf_icmp_ge 150 124 rfl rfl rfl o14 o15 (fun c => ?_) (fun c => ?_)
  · have h := h.1 c
    refine lf_sub (l := [(0, .ref 95), (1, .int (Int32.ofInt x1)), (2, .int (Int32.ofInt x2)), (3, .int (Int32.ofInt x3)), (5, .int (Int32.ofInt x5))]) (lf_sb1 rfl (lf_sb1 rfl (lf_sb1 rfl (lf_sb1 rfl (lf_sb1 rfl lf_sb0))))) ?_
    exact gm_302_p150 hX30 h
  · have h := h.2 c
    refine lf_seg 2 (pc' := 127) (lv' := [(0, .ref 95), (1, .int (Int32.ofInt x1)), (2, .int (Int32.ofInt x2)), (3, .int (Int32.ofInt x3)), (5, .int (Int32.ofInt x5)), (6, .int (Int32.ofInt x6))]) (st' := [.int (Int32.ofInt x3), .int (Int32.ofInt x5)]) rfl ?_
    obtain ⟨o26, h⟩ := h
    obtain ⟨o27, h⟩ := h
    refine lf_icmp_ge 150 130 rfl rfl rfl o26 o27 (fun c => ?_) (fun c => ?_)
    · have h := h.1 c
      refine lf_sub (l := [(0, .ref 95), (1, .int (Int32.ofInt x1)), (2, .int (Int32.ofInt x2)), (3, .int (Int32.ofInt x3)), (5, .int (Int32.ofInt x5))]) (lf_sb1 rfl (lf_sb1 rfl (lf_sb1 rfl (lf_sb1 rfl (lf_sb1 rfl lf_sb0))))) ?_
      exact gm_302_p150 hX30 h
    · have h := h.2 c
      refine lf_seg 6 (pc' := 142) (lv' := [(0, .ref 95), (1, .int (Int32.ofInt x1)), (2, .int (Int32.ofInt x2)), (3, .int (Int32.ofInt x3)), (5, .int (Int32.ofInt x5)), (6, .int (Int32.ofInt x6))]) (st' := [.int (Int32.ofInt x6), .ref 116, .int (Int32.ofInt x6), .ref 117]) rfl ?_
      obtain ⟨o28, h⟩ := h
      refine lf_iald 143 6 rfl rfl rfl rfl rfl rfl o28 ?_
      refine lf_iast 144 6 rfl rfl rfl rfl rfl rfl o28 ?_
      refine lf_as (lf_up s.1 117 x6 (s.1 116 x6), s.2.1, s.2.2) rfl ?_
      refine lf_iinc 147 rfl rfl rfl rfl ?_
      refine lf_seg 1 (pc' := 118) (lv' := [(6, .int (Int32.ofInt (x6 + 1))), (0, .ref 95), (1, .int (Int32.ofInt x1)), (2, .int (Int32.ofInt x2)), (3, .int (Int32.ofInt x3)), (5, .int (Int32.ofInt x5))]) (st' := []) rfl ?_
      refine lf_sub (l := [(0, .ref 95), (1, .int (Int32.ofInt x1)), (2, .int (Int32.ofInt x2)), (3, .int (Int32.ofInt x3)), (5, .int (Int32.ofInt x5)), (6, .int (Int32.ofInt (x6 + 1)))]) (lf_sb1 rfl (lf_sb1 rfl (lf_sb1 rfl (lf_sb1 rfl (lf_sb1 rfl (lf_sb1 rfl lf_sb0)))))) ?_
      exact hX118 _ _ h
theorem gm_302_p118L {L : Nat} {xs : Nat → Int32} {d : Nat} {X30 : Int → Int → lf_Z → Prop} {Q : Int → lf_Z → Prop} {x1 : Int} {x2 : Int} {x3 : Int} {x5 : Int} {x6 : Int} {s : lf_Z} (hX30 : ∀ x3 x4 s, X30 x3 x4 s → lf_E (px_ro L xs) (d + 3) 302 30 [(0, .ref 95), (1, .int (Int32.ofInt x1)), (2, .int (Int32.ofInt x2)), (3, .int (Int32.ofInt x3)), (4, .int (Int32.ofInt x4))] [] s (lf_qi Q)) (h : fm_302_p118L X30 Q x1 x2 x3 x5 x6 s) : lf_E (px_ro L xs) (d + 3) 302 118 [(0, .ref 95), (1, .int (Int32.ofInt x1)), (2, .int (Int32.ofInt x2)), (3, .int (Int32.ofInt x3)), (5, .int (Int32.ofInt x5)), (6, .int (Int32.ofInt x6))] [] s (lf_qi Q) :=
  h (fun x6 s => lf_E (px_ro L xs) (d + 3) 302 118 [(0, .ref 95), (1, .int (Int32.ofInt x1)), (2, .int (Int32.ofInt x2)), (3, .int (Int32.ofInt x3)), (5, .int (Int32.ofInt x5)), (6, .int (Int32.ofInt x6))] [] s (lf_qi Q)) (fun x6 s hb => gm_302_p118 hX30 (fun _ _ h => h) hb)
def fm_302_p107 (X30 : Int → Int → lf_Z → Prop) (X55 : Int → Int → lf_Z → Prop) (Q : Int → lf_Z → Prop) (x1 : Int) (x2 : Int) (x3 : Int) (x6 : Int) (y0 : Int) (s : lf_Z) : Prop := X55 y0 (x6 + 1) s
set_option maxRecDepth 100000 in
theorem gm_302_p107 {L : Nat} {xs : Nat → Int32} {d : Nat} {X30 : Int → Int → lf_Z → Prop} {X55 : Int → Int → lf_Z → Prop} {Q : Int → lf_Z → Prop} {x1 : Int} {x2 : Int} {x3 : Int} {x6 : Int} {y0 : Int} {s : lf_Z} (hX30 : ∀ x3 x4 s, X30 x3 x4 s → lf_E (px_ro L xs) (d + 3) 302 30 [(0, .ref 95), (1, .int (Int32.ofInt x1)), (2, .int (Int32.ofInt x2)), (3, .int (Int32.ofInt x3)), (4, .int (Int32.ofInt x4))] [] s (lf_qi Q)) (hX55 : ∀ x5 x6 s, X55 x5 x6 s → lf_E (px_ro L xs) (d + 3) 302 55 [(0, .ref 95), (1, .int (Int32.ofInt x1)), (2, .int (Int32.ofInt x2)), (3, .int (Int32.ofInt x3)), (5, .int (Int32.ofInt x5)), (6, .int (Int32.ofInt x6))] [] s (lf_qi Q)) (h : fm_302_p107 X30 X55 Q x1 x2 x3 x6 y0 s) : lf_E (px_ro L xs) (d + 3) 302 107 [(0, .ref 95), (1, .int (Int32.ofInt x1)), (2, .int (Int32.ofInt x2)), (3, .int (Int32.ofInt x3)), (6, .int (Int32.ofInt x6))] [.int (Int32.ofInt y0)] s (lf_qi Q) := by
  unfold fm_302_p107 at h
  refine lf_seg 1 (pc' := 109) (lv' := [(5, .int (Int32.ofInt y0)), (0, .ref 95), (1, .int (Int32.ofInt x1)), (2, .int (Int32.ofInt x2)), (3, .int (Int32.ofInt x3)), (6, .int (Int32.ofInt x6))]) (st' := []) rfl ?_
  refine lf_iinc 112 rfl rfl rfl rfl ?_
  refine lf_seg 1 (pc' := 55) (lv' := [(6, .int (Int32.ofInt (x6 + 1))), (5, .int (Int32.ofInt y0)), (0, .ref 95), (1, .int (Int32.ofInt x1)), (2, .int (Int32.ofInt x2)), (3, .int (Int32.ofInt x3))]) (st' := []) rfl ?_
  refine lf_sub (l := [(0, .ref 95), (1, .int (Int32.ofInt x1)), (2, .int (Int32.ofInt x2)), (3, .int (Int32.ofInt x3)), (5, .int (Int32.ofInt y0)), (6, .int (Int32.ofInt (x6 + 1)))]) (lf_sb1 rfl (lf_sb1 rfl (lf_sb1 rfl (lf_sb1 rfl (lf_sb1 rfl (lf_sb1 rfl lf_sb0)))))) ?_
  exact hX55 _ _ _ h
def fm_302_p55 (X30 : Int → Int → lf_Z → Prop) (Q : Int → lf_Z → Prop) (x1 : Int) (x2 : Int) (x3 : Int) (X55 : Int → Int → lf_Z → Prop) (x5 : Int) (x6 : Int) (s : lf_Z) : Prop := lf_R x6 ∧ (lf_R x1 ∧ ((x1 ≤ x6 → (fm_302_p118L X30 Q x1 x2 x3 x5 0 s)) ∧ (¬ (x1 ≤ x6) → ((0 ≤ x6 ∧ x6 < 6) ∧ ((0 ≤ (12 * (s.1 116 x6)) + x6 ∧ (12 * (s.1 116 x6)) + x6 < 72) ∧ (lf_R (s.1 115 ((12 * (s.1 116 x6)) + x6)) ∧ (lf_R x5 ∧ ((s.1 115 ((12 * (s.1 116 x6)) + x6) ≤ x5 → (fm_302_p107 X30 X55 Q x1 x2 x3 x6 x5 s)) ∧ (¬ (s.1 115 ((12 * (s.1 116 x6)) + x6) ≤ x5) → (fm_302_p107 X30 X55 Q x1 x2 x3 x6 (s.1 115 ((12 * (s.1 116 x6)) + x6)) s))))))))))
def fm_302_p55L (X30 : Int → Int → lf_Z → Prop) (Q : Int → lf_Z → Prop) (x1 : Int) (x2 : Int) (x3 : Int) (x5 : Int) (x6 : Int) (s : lf_Z) : Prop := ∀ X55 : Int → Int → lf_Z → Prop, (∀ (x5 : Int) (x6 : Int) (s : lf_Z), fm_302_p55 X30 Q x1 x2 x3 X55 x5 x6 s → X55 x5 x6 s) → X55 x5 x6 s
set_option maxRecDepth 100000 in
theorem gm_302_p55 {L : Nat} {xs : Nat → Int32} {d : Nat} {X30 : Int → Int → lf_Z → Prop} {Q : Int → lf_Z → Prop} {x1 : Int} {x2 : Int} {x3 : Int} {x5 : Int} {x6 : Int} {s : lf_Z} {X55 : Int → Int → lf_Z → Prop} (hX30 : ∀ x3 x4 s, X30 x3 x4 s → lf_E (px_ro L xs) (d + 3) 302 30 [(0, .ref 95), (1, .int (Int32.ofInt x1)), (2, .int (Int32.ofInt x2)), (3, .int (Int32.ofInt x3)), (4, .int (Int32.ofInt x4))] [] s (lf_qi Q)) (hX55 : ∀ x5 x6 s, X55 x5 x6 s → lf_E (px_ro L xs) (d + 3) 302 55 [(0, .ref 95), (1, .int (Int32.ofInt x1)), (2, .int (Int32.ofInt x2)), (3, .int (Int32.ofInt x3)), (5, .int (Int32.ofInt x5)), (6, .int (Int32.ofInt x6))] [] s (lf_qi Q)) (h : fm_302_p55 X30 Q x1 x2 x3 X55 x5 x6 s) : lf_E (px_ro L xs) (d + 3) 302 55 [(0, .ref 95), (1, .int (Int32.ofInt x1)), (2, .int (Int32.ofInt x2)), (3, .int (Int32.ofInt x3)), (5, .int (Int32.ofInt x5)), (6, .int (Int32.ofInt x6))] [] s (lf_qi Q) := by
  unfold fm_302_p55 at h
  refine lf_seg 2 (pc' := 58) (lv' := [(0, .ref 95), (1, .int (Int32.ofInt x1)), (2, .int (Int32.ofInt x2)), (3, .int (Int32.ofInt x3)), (5, .int (Int32.ofInt x5)), (6, .int (Int32.ofInt x6))]) (st' := [.int (Int32.ofInt x1), .int (Int32.ofInt x6)]) rfl ?_
  obtain ⟨o11, h⟩ := h
  obtain ⟨o12, h⟩ := h
  refine lf_icmp_ge 115 61 rfl rfl rfl o11 o12 (fun c => ?_) (fun c => ?_)
  · have h := h.1 c
    refine lf_seg 2 (pc' := 118) (lv' := [(6, .int (Int32.ofInt 0)), (0, .ref 95), (1, .int (Int32.ofInt x1)), (2, .int (Int32.ofInt x2)), (3, .int (Int32.ofInt x3)), (5, .int (Int32.ofInt x5))]) (st' := []) rfl ?_
    refine lf_sub (l := [(0, .ref 95), (1, .int (Int32.ofInt x1)), (2, .int (Int32.ofInt x2)), (3, .int (Int32.ofInt x3)), (5, .int (Int32.ofInt x5)), (6, .int (Int32.ofInt 0))]) (lf_sb1 rfl (lf_sb1 rfl (lf_sb1 rfl (lf_sb1 rfl (lf_sb1 rfl (lf_sb1 rfl lf_sb0)))))) ?_
    exact gm_302_p118L hX30 h
  · have h := h.2 c
    refine lf_seg 2 (pc' := 65) (lv' := [(0, .ref 95), (1, .int (Int32.ofInt x1)), (2, .int (Int32.ofInt x2)), (3, .int (Int32.ofInt x3)), (5, .int (Int32.ofInt x5)), (6, .int (Int32.ofInt x6))]) (st' := [.ref 115]) rfl ?_
    refine lf_bipush 67 12 rfl rfl (by decide) (by decide) ?_
    refine lf_seg 3 (pc' := 73) (lv' := [(0, .ref 95), (1, .int (Int32.ofInt x1)), (2, .int (Int32.ofInt x2)), (3, .int (Int32.ofInt x3)), (5, .int (Int32.ofInt x5)), (6, .int (Int32.ofInt x6))]) (st' := [.int (Int32.ofInt x6), .ref 116, .int (Int32.ofInt 12), .ref 115]) rfl ?_
    obtain ⟨o32, h⟩ := h
    refine lf_iald 74 6 rfl rfl rfl rfl rfl rfl o32 ?_
    refine lf_imul 75 rfl rfl ?_
    refine lf_seg 1 (pc' := 77) (lv' := [(0, .ref 95), (1, .int (Int32.ofInt x1)), (2, .int (Int32.ofInt x2)), (3, .int (Int32.ofInt x3)), (5, .int (Int32.ofInt x5)), (6, .int (Int32.ofInt x6))]) (st' := [.int (Int32.ofInt x6), .int (Int32.ofInt (12 * (s.1 116 x6))), .ref 115]) rfl ?_
    refine lf_iadd 78 rfl rfl ?_
    obtain ⟨o34, h⟩ := h
    refine lf_iald 79 72 rfl rfl rfl rfl rfl rfl o34 ?_
    refine lf_seg 1 (pc' := 81) (lv' := [(0, .ref 95), (1, .int (Int32.ofInt x1)), (2, .int (Int32.ofInt x2)), (3, .int (Int32.ofInt x3)), (5, .int (Int32.ofInt x5)), (6, .int (Int32.ofInt x6))]) (st' := [.int (Int32.ofInt x5), .int (Int32.ofInt (s.1 115 ((12 * (s.1 116 x6)) + x6)))]) rfl ?_
    obtain ⟨o37, h⟩ := h
    obtain ⟨o38, h⟩ := h
    refine lf_icmp_le 105 84 rfl rfl rfl o37 o38 (fun c => ?_) (fun c => ?_)
    · have h := h.1 c
      refine lf_seg 1 (pc' := 107) (lv' := [(0, .ref 95), (1, .int (Int32.ofInt x1)), (2, .int (Int32.ofInt x2)), (3, .int (Int32.ofInt x3)), (5, .int (Int32.ofInt x5)), (6, .int (Int32.ofInt x6))]) (st' := [.int (Int32.ofInt x5)]) rfl ?_
      refine lf_sub (l := [(0, .ref 95), (1, .int (Int32.ofInt x1)), (2, .int (Int32.ofInt x2)), (3, .int (Int32.ofInt x3)), (6, .int (Int32.ofInt x6))]) (lf_sb1 rfl (lf_sb1 rfl (lf_sb1 rfl (lf_sb1 rfl (lf_sb1 rfl lf_sb0))))) ?_
      exact gm_302_p107 hX30 hX55 h
    · have h := h.2 c
      refine lf_seg 2 (pc' := 88) (lv' := [(0, .ref 95), (1, .int (Int32.ofInt x1)), (2, .int (Int32.ofInt x2)), (3, .int (Int32.ofInt x3)), (5, .int (Int32.ofInt x5)), (6, .int (Int32.ofInt x6))]) (st' := [.ref 115]) rfl ?_
      refine lf_bipush 90 12 rfl rfl (by decide) (by decide) ?_
      refine lf_seg 3 (pc' := 96) (lv' := [(0, .ref 95), (1, .int (Int32.ofInt x1)), (2, .int (Int32.ofInt x2)), (3, .int (Int32.ofInt x3)), (5, .int (Int32.ofInt x5)), (6, .int (Int32.ofInt x6))]) (st' := [.int (Int32.ofInt x6), .ref 116, .int (Int32.ofInt 12), .ref 115]) rfl ?_
      refine lf_iald 97 6 rfl rfl rfl rfl rfl rfl o32 ?_
      refine lf_imul 98 rfl rfl ?_
      refine lf_seg 1 (pc' := 100) (lv' := [(0, .ref 95), (1, .int (Int32.ofInt x1)), (2, .int (Int32.ofInt x2)), (3, .int (Int32.ofInt x3)), (5, .int (Int32.ofInt x5)), (6, .int (Int32.ofInt x6))]) (st' := [.int (Int32.ofInt x6), .int (Int32.ofInt (12 * (s.1 116 x6))), .ref 115]) rfl ?_
      refine lf_iadd 101 rfl rfl ?_
      refine lf_iald 102 72 rfl rfl rfl rfl rfl rfl o34 ?_
      refine lf_seg 1 (pc' := 107) (lv' := [(0, .ref 95), (1, .int (Int32.ofInt x1)), (2, .int (Int32.ofInt x2)), (3, .int (Int32.ofInt x3)), (5, .int (Int32.ofInt x5)), (6, .int (Int32.ofInt x6))]) (st' := [.int (Int32.ofInt (s.1 115 ((12 * (s.1 116 x6)) + x6)))]) rfl ?_
      refine lf_sub (l := [(0, .ref 95), (1, .int (Int32.ofInt x1)), (2, .int (Int32.ofInt x2)), (3, .int (Int32.ofInt x3)), (6, .int (Int32.ofInt x6))]) (lf_sb1 rfl (lf_sb1 rfl (lf_sb1 rfl (lf_sb1 rfl (lf_sb1 rfl lf_sb0))))) ?_
      exact gm_302_p107 hX30 hX55 h
theorem gm_302_p55L {L : Nat} {xs : Nat → Int32} {d : Nat} {X30 : Int → Int → lf_Z → Prop} {Q : Int → lf_Z → Prop} {x1 : Int} {x2 : Int} {x3 : Int} {x5 : Int} {x6 : Int} {s : lf_Z} (hX30 : ∀ x3 x4 s, X30 x3 x4 s → lf_E (px_ro L xs) (d + 3) 302 30 [(0, .ref 95), (1, .int (Int32.ofInt x1)), (2, .int (Int32.ofInt x2)), (3, .int (Int32.ofInt x3)), (4, .int (Int32.ofInt x4))] [] s (lf_qi Q)) (h : fm_302_p55L X30 Q x1 x2 x3 x5 x6 s) : lf_E (px_ro L xs) (d + 3) 302 55 [(0, .ref 95), (1, .int (Int32.ofInt x1)), (2, .int (Int32.ofInt x2)), (3, .int (Int32.ofInt x3)), (5, .int (Int32.ofInt x5)), (6, .int (Int32.ofInt x6))] [] s (lf_qi Q) :=
  h (fun x5 x6 s => lf_E (px_ro L xs) (d + 3) 302 55 [(0, .ref 95), (1, .int (Int32.ofInt x1)), (2, .int (Int32.ofInt x2)), (3, .int (Int32.ofInt x3)), (5, .int (Int32.ofInt x5)), (6, .int (Int32.ofInt x6))] [] s (lf_qi Q)) (fun x5 x6 s hb => gm_302_p55 hX30 (fun _ _ _ h => h) hb)
def fm_302_p50 (X30 : Int → Int → lf_Z → Prop) (Q : Int → lf_Z → Prop) (x1 : Int) (x2 : Int) (x3 : Int) (y0 : Int) (s : lf_Z) : Prop := fm_302_p55L X30 Q x1 x2 x3 y0 0 s
set_option maxRecDepth 100000 in
theorem gm_302_p50 {L : Nat} {xs : Nat → Int32} {d : Nat} {X30 : Int → Int → lf_Z → Prop} {Q : Int → lf_Z → Prop} {x1 : Int} {x2 : Int} {x3 : Int} {y0 : Int} {s : lf_Z} (hX30 : ∀ x3 x4 s, X30 x3 x4 s → lf_E (px_ro L xs) (d + 3) 302 30 [(0, .ref 95), (1, .int (Int32.ofInt x1)), (2, .int (Int32.ofInt x2)), (3, .int (Int32.ofInt x3)), (4, .int (Int32.ofInt x4))] [] s (lf_qi Q)) (h : fm_302_p50 X30 Q x1 x2 x3 y0 s) : lf_E (px_ro L xs) (d + 3) 302 50 [(0, .ref 95), (1, .int (Int32.ofInt x1)), (2, .int (Int32.ofInt x2)), (3, .int (Int32.ofInt x3))] [.int (Int32.ofInt y0)] s (lf_qi Q) := by
  unfold fm_302_p50 at h
  refine lf_seg 3 (pc' := 55) (lv' := [(6, .int (Int32.ofInt 0)), (5, .int (Int32.ofInt y0)), (0, .ref 95), (1, .int (Int32.ofInt x1)), (2, .int (Int32.ofInt x2)), (3, .int (Int32.ofInt x3))]) (st' := []) rfl ?_
  refine lf_sub (l := [(0, .ref 95), (1, .int (Int32.ofInt x1)), (2, .int (Int32.ofInt x2)), (3, .int (Int32.ofInt x3)), (5, .int (Int32.ofInt y0)), (6, .int (Int32.ofInt 0))]) (lf_sb1 rfl (lf_sb1 rfl (lf_sb1 rfl (lf_sb1 rfl (lf_sb1 rfl (lf_sb1 rfl lf_sb0)))))) ?_
  exact gm_302_p55L hX30 h
def fm_302_p30 (Q : Int → lf_Z → Prop) (x1 : Int) (x2 : Int) (X30 : Int → Int → lf_Z → Prop) (x3 : Int) (x4 : Int) (s : lf_Z) : Prop := lf_R x4 ∧ ((x4 = 0 → (Q x3 s)) ∧ (¬ (x4 = 0) → (fm_303 x1 (fun z8 s6 => ((z8 = false → (fm_302_p50 X30 Q x1 x2 x3 1000 s6)) ∧ (z8 = true → (fm_302_p50 X30 Q x1 x2 x3 0 s6)))) s)))
def fm_302_p30L (Q : Int → lf_Z → Prop) (x1 : Int) (x2 : Int) (x3 : Int) (x4 : Int) (s : lf_Z) : Prop := ∀ X30 : Int → Int → lf_Z → Prop, (∀ (x3 : Int) (x4 : Int) (s : lf_Z), fm_302_p30 Q x1 x2 X30 x3 x4 s → X30 x3 x4 s) → X30 x3 x4 s
set_option maxRecDepth 100000 in
theorem gm_302_p30 {L : Nat} {xs : Nat → Int32} {d : Nat} {Q : Int → lf_Z → Prop} {x1 : Int} {x2 : Int} {x3 : Int} {x4 : Int} {s : lf_Z} {X30 : Int → Int → lf_Z → Prop} (hX30 : ∀ x3 x4 s, X30 x3 x4 s → lf_E (px_ro L xs) (d + 3) 302 30 [(0, .ref 95), (1, .int (Int32.ofInt x1)), (2, .int (Int32.ofInt x2)), (3, .int (Int32.ofInt x3)), (4, .int (Int32.ofInt x4))] [] s (lf_qi Q)) (h : fm_302_p30 Q x1 x2 X30 x3 x4 s) : lf_E (px_ro L xs) (d + 3) 302 30 [(0, .ref 95), (1, .int (Int32.ofInt x1)), (2, .int (Int32.ofInt x2)), (3, .int (Int32.ofInt x3)), (4, .int (Int32.ofInt x4))] [] s (lf_qi Q) := by
  unfold fm_302_p30 at h
  refine lf_seg 1 (pc' := 32) (lv' := [(0, .ref 95), (1, .int (Int32.ofInt x1)), (2, .int (Int32.ofInt x2)), (3, .int (Int32.ofInt x3)), (4, .int (Int32.ofInt x4))]) (st' := [.int (Int32.ofInt x4)]) rfl ?_
  obtain ⟨o5, h⟩ := h
  refine lf_if_eq 174 35 rfl rfl rfl o5 (fun c => ?_) (fun c => ?_)
  · have h := h.1 c
    refine lf_seg 1 (pc' := 175) (lv' := [(0, .ref 95), (1, .int (Int32.ofInt x1)), (2, .int (Int32.ofInt x2)), (3, .int (Int32.ofInt x3)), (4, .int (Int32.ofInt x4))]) (st' := [.int (Int32.ofInt x3)]) rfl ?_
    exact lf_retI rfl rfl h
  · have h := h.2 c
    refine lf_seg 2 (pc' := 37) (lv' := [(0, .ref 95), (1, .int (Int32.ofInt x1)), (2, .int (Int32.ofInt x2)), (3, .int (Int32.ofInt x3)), (4, .int (Int32.ofInt x4))]) (st' := [.int (Int32.ofInt x1), .ref 95]) rfl ?_
    refine lf_callZ 40 rfl rfl rfl rfl (gm_303 h) (fun z8 s6 h => ?_)
    refine lf_ifz_eq 47 43 rfl rfl rfl (fun c => ?_) (fun c => ?_)
    · have h := h.1 c
      refine lf_sipush 50 1000 rfl rfl (by decide) (by decide) ?_
      refine lf_sub (l := [(0, .ref 95), (1, .int (Int32.ofInt x1)), (2, .int (Int32.ofInt x2)), (3, .int (Int32.ofInt x3))]) (lf_sb1 rfl (lf_sb1 rfl (lf_sb1 rfl (lf_sb1 rfl lf_sb0)))) ?_
      exact gm_302_p50 hX30 h
    · have h := h.2 c
      refine lf_seg 2 (pc' := 50) (lv' := [(0, .ref 95), (1, .int (Int32.ofInt x1)), (2, .int (Int32.ofInt x2)), (3, .int (Int32.ofInt x3)), (4, .int (Int32.ofInt x4))]) (st' := [.int (Int32.ofInt 0)]) rfl ?_
      refine lf_sub (l := [(0, .ref 95), (1, .int (Int32.ofInt x1)), (2, .int (Int32.ofInt x2)), (3, .int (Int32.ofInt x3))]) (lf_sb1 rfl (lf_sb1 rfl (lf_sb1 rfl (lf_sb1 rfl lf_sb0)))) ?_
      exact gm_302_p50 hX30 h
theorem gm_302_p30L {L : Nat} {xs : Nat → Int32} {d : Nat} {Q : Int → lf_Z → Prop} {x1 : Int} {x2 : Int} {x3 : Int} {x4 : Int} {s : lf_Z} (h : fm_302_p30L Q x1 x2 x3 x4 s) : lf_E (px_ro L xs) (d + 3) 302 30 [(0, .ref 95), (1, .int (Int32.ofInt x1)), (2, .int (Int32.ofInt x2)), (3, .int (Int32.ofInt x3)), (4, .int (Int32.ofInt x4))] [] s (lf_qi Q) :=
  h (fun x3 x4 s => lf_E (px_ro L xs) (d + 3) 302 30 [(0, .ref 95), (1, .int (Int32.ofInt x1)), (2, .int (Int32.ofInt x2)), (3, .int (Int32.ofInt x3)), (4, .int (Int32.ofInt x4))] [] s (lf_qi Q)) (fun x3 x4 s hb => gm_302_p30 (fun _ _ _ h => h) hb)
def fm_302_p7 (Q : Int → lf_Z → Prop) (x1 : Int) (x2 : Int) (x3 : Int) (X7 : Int → lf_Z → Prop) (x4 : Int) (s : lf_Z) : Prop := lf_R x4 ∧ (lf_R x1 ∧ ((x1 ≤ x4 → (fm_302_p30L Q x1 x2 x3 1 s)) ∧ (¬ (x1 ≤ x4) → ((0 ≤ x4 ∧ x4 < 6) ∧ (X7 (x4 + 1) (lf_up s.1 116 x4 0, s.2.1, s.2.2))))))
def fm_302_p7L (Q : Int → lf_Z → Prop) (x1 : Int) (x2 : Int) (x3 : Int) (x4 : Int) (s : lf_Z) : Prop := ∀ X7 : Int → lf_Z → Prop, (∀ (x4 : Int) (s : lf_Z), fm_302_p7 Q x1 x2 x3 X7 x4 s → X7 x4 s) → X7 x4 s
set_option maxRecDepth 100000 in
theorem gm_302_p7 {L : Nat} {xs : Nat → Int32} {d : Nat} {Q : Int → lf_Z → Prop} {x1 : Int} {x2 : Int} {x3 : Int} {x4 : Int} {s : lf_Z} {X7 : Int → lf_Z → Prop} (hX7 : ∀ x4 s, X7 x4 s → lf_E (px_ro L xs) (d + 3) 302 7 [(0, .ref 95), (1, .int (Int32.ofInt x1)), (2, .int (Int32.ofInt x2)), (3, .int (Int32.ofInt x3)), (4, .int (Int32.ofInt x4))] [] s (lf_qi Q)) (h : fm_302_p7 Q x1 x2 x3 X7 x4 s) : lf_E (px_ro L xs) (d + 3) 302 7 [(0, .ref 95), (1, .int (Int32.ofInt x1)), (2, .int (Int32.ofInt x2)), (3, .int (Int32.ofInt x3)), (4, .int (Int32.ofInt x4))] [] s (lf_qi Q) := by
  unfold fm_302_p7 at h
  refine lf_seg 2 (pc' := 10) (lv' := [(0, .ref 95), (1, .int (Int32.ofInt x1)), (2, .int (Int32.ofInt x2)), (3, .int (Int32.ofInt x3)), (4, .int (Int32.ofInt x4))]) (st' := [.int (Int32.ofInt x1), .int (Int32.ofInt x4)]) rfl ?_
  obtain ⟨o2, h⟩ := h
  obtain ⟨o3, h⟩ := h
  refine lf_icmp_ge 27 13 rfl rfl rfl o2 o3 (fun c => ?_) (fun c => ?_)
  · have h := h.1 c
    refine lf_seg 2 (pc' := 30) (lv' := [(4, .int (Int32.ofInt 1)), (0, .ref 95), (1, .int (Int32.ofInt x1)), (2, .int (Int32.ofInt x2)), (3, .int (Int32.ofInt x3))]) (st' := []) rfl ?_
    refine lf_sub (l := [(0, .ref 95), (1, .int (Int32.ofInt x1)), (2, .int (Int32.ofInt x2)), (3, .int (Int32.ofInt x3)), (4, .int (Int32.ofInt 1))]) (lf_sb1 rfl (lf_sb1 rfl (lf_sb1 rfl (lf_sb1 rfl (lf_sb1 rfl lf_sb0))))) ?_
    exact gm_302_p30L h
  · have h := h.2 c
    refine lf_seg 4 (pc' := 20) (lv' := [(0, .ref 95), (1, .int (Int32.ofInt x1)), (2, .int (Int32.ofInt x2)), (3, .int (Int32.ofInt x3)), (4, .int (Int32.ofInt x4))]) (st' := [.int (Int32.ofInt 0), .int (Int32.ofInt x4), .ref 116]) rfl ?_
    obtain ⟨o39, h⟩ := h
    refine lf_iast 21 6 rfl rfl rfl rfl rfl rfl o39 ?_
    refine lf_as (lf_up s.1 116 x4 0, s.2.1, s.2.2) rfl ?_
    refine lf_iinc 24 rfl rfl rfl rfl ?_
    refine lf_seg 1 (pc' := 7) (lv' := [(4, .int (Int32.ofInt (x4 + 1))), (0, .ref 95), (1, .int (Int32.ofInt x1)), (2, .int (Int32.ofInt x2)), (3, .int (Int32.ofInt x3))]) (st' := []) rfl ?_
    refine lf_sub (l := [(0, .ref 95), (1, .int (Int32.ofInt x1)), (2, .int (Int32.ofInt x2)), (3, .int (Int32.ofInt x3)), (4, .int (Int32.ofInt (x4 + 1)))]) (lf_sb1 rfl (lf_sb1 rfl (lf_sb1 rfl (lf_sb1 rfl (lf_sb1 rfl lf_sb0))))) ?_
    exact hX7 _ _ h
theorem gm_302_p7L {L : Nat} {xs : Nat → Int32} {d : Nat} {Q : Int → lf_Z → Prop} {x1 : Int} {x2 : Int} {x3 : Int} {x4 : Int} {s : lf_Z} (h : fm_302_p7L Q x1 x2 x3 x4 s) : lf_E (px_ro L xs) (d + 3) 302 7 [(0, .ref 95), (1, .int (Int32.ofInt x1)), (2, .int (Int32.ofInt x2)), (3, .int (Int32.ofInt x3)), (4, .int (Int32.ofInt x4))] [] s (lf_qi Q) :=
  h (fun x4 s => lf_E (px_ro L xs) (d + 3) 302 7 [(0, .ref 95), (1, .int (Int32.ofInt x1)), (2, .int (Int32.ofInt x2)), (3, .int (Int32.ofInt x3)), (4, .int (Int32.ofInt x4))] [] s (lf_qi Q)) (fun x4 s hb => gm_302_p7 (fun _ _ h => h) hb)
def fm_302 (a1 : Int) (a2 : Int) (Q : Int → lf_Z → Prop) (s : lf_Z) : Prop := fm_302_p7L Q a1 a2 1000 0 s
set_option maxRecDepth 100000 in
theorem gm_302 {L : Nat} {xs : Nat → Int32} {d : Nat} {a1 : Int} {a2 : Int} {Q : Int → lf_Z → Prop} {s : lf_Z} (h : fm_302 a1 a2 Q s) : lf_M (px_ro L xs) (d + 3) 302 [.ref 95, .int (Int32.ofInt a1), .int (Int32.ofInt a2)] s (lf_qi Q) := by
  unfold fm_302 at h
  show lf_E (px_ro L xs) (d + 3) 302 0 [(0, .ref 95), (1, .int (Int32.ofInt a1)), (2, .int (Int32.ofInt a2))] [] s _
  refine lf_sipush 3 1000 rfl rfl (by decide) (by decide) ?_
  refine lf_seg 3 (pc' := 7) (lv' := [(4, .int (Int32.ofInt 0)), (3, .int (Int32.ofInt 1000)), (0, .ref 95), (1, .int (Int32.ofInt a1)), (2, .int (Int32.ofInt a2))]) (st' := []) rfl ?_
  refine lf_sub (l := [(0, .ref 95), (1, .int (Int32.ofInt a1)), (2, .int (Int32.ofInt a2)), (3, .int (Int32.ofInt 1000)), (4, .int (Int32.ofInt 0))]) (lf_sb1 rfl (lf_sb1 rfl (lf_sb1 rfl (lf_sb1 rfl (lf_sb1 rfl lf_sb0))))) ?_
  exact gm_302_p7L h
-- fm_300 Model.whom 95 i i i
def fm_300_p203 (Q : Int → lf_Z → Prop) (x3 : Int) (X203 : Int → lf_Z → Prop) (x7 : Int) (s : lf_Z) : Prop := (0 ≤ x7 ∧ x7 < 12) ∧ (lf_R (s.1 114 x7) ∧ (lf_R x3 ∧ ((s.1 114 x7 = x3 → ((0 ≤ x7 ∧ x7 < 6) ∧ ((0 ≤ s.1 117 x7 ∧ s.1 117 x7 < 6) ∧ (Q (s.1 113 (s.1 117 x7)) s)))) ∧ (¬ (s.1 114 x7 = x3) → (X203 (x7 + 1) s)))))
def fm_300_p203L (Q : Int → lf_Z → Prop) (x3 : Int) (x7 : Int) (s : lf_Z) : Prop := ∀ X203 : Int → lf_Z → Prop, (∀ (x7 : Int) (s : lf_Z), fm_300_p203 Q x3 X203 x7 s → X203 x7 s) → X203 x7 s
set_option maxRecDepth 100000 in
theorem gm_300_p203 {L : Nat} {xs : Nat → Int32} {d : Nat} {Q : Int → lf_Z → Prop} {x3 : Int} {x7 : Int} {s : lf_Z} {X203 : Int → lf_Z → Prop} (hX203 : ∀ x7 s, X203 x7 s → lf_E (px_ro L xs) (d + 4) 300 203 [(0, .ref 95), (3, .int (Int32.ofInt x3)), (7, .int (Int32.ofInt x7))] [] s (lf_qi Q)) (h : fm_300_p203 Q x3 X203 x7 s) : lf_E (px_ro L xs) (d + 4) 300 203 [(0, .ref 95), (3, .int (Int32.ofInt x3)), (7, .int (Int32.ofInt x7))] [] s (lf_qi Q) := by
  unfold fm_300_p203 at h
  refine lf_seg 3 (pc' := 209) (lv' := [(0, .ref 95), (3, .int (Int32.ofInt x3)), (7, .int (Int32.ofInt x7))]) (st' := [.int (Int32.ofInt x7), .ref 114]) rfl ?_
  obtain ⟨o51, h⟩ := h
  refine lf_iald 210 12 rfl rfl rfl rfl rfl rfl o51 ?_
  refine lf_seg 1 (pc' := 211) (lv' := [(0, .ref 95), (3, .int (Int32.ofInt x3)), (7, .int (Int32.ofInt x7))]) (st' := [.int (Int32.ofInt x3), .int (Int32.ofInt (s.1 114 x7))]) rfl ?_
  obtain ⟨o54, h⟩ := h
  obtain ⟨o55, h⟩ := h
  refine lf_icmp_eq 220 214 rfl rfl rfl o54 o55 (fun c => ?_) (fun c => ?_)
  · have h := h.1 c
    refine lf_seg 5 (pc' := 230) (lv' := [(0, .ref 95), (3, .int (Int32.ofInt x3)), (7, .int (Int32.ofInt x7))]) (st' := [.int (Int32.ofInt x7), .ref 117, .ref 113]) rfl ?_
    obtain ⟨o56, h⟩ := h
    refine lf_iald 231 6 rfl rfl rfl rfl rfl rfl o56 ?_
    obtain ⟨o58, h⟩ := h
    refine lf_iald 232 6 rfl rfl rfl rfl rfl rfl o58 ?_
    exact lf_retI rfl rfl h
  · have h := h.2 c
    refine lf_iinc 217 rfl rfl rfl rfl ?_
    refine lf_seg 1 (pc' := 203) (lv' := [(7, .int (Int32.ofInt (x7 + 1))), (0, .ref 95), (3, .int (Int32.ofInt x3))]) (st' := []) rfl ?_
    refine lf_sub (l := [(0, .ref 95), (3, .int (Int32.ofInt x3)), (7, .int (Int32.ofInt (x7 + 1)))]) (lf_sb1 rfl (lf_sb1 rfl (lf_sb1 rfl lf_sb0))) ?_
    exact hX203 _ _ h
theorem gm_300_p203L {L : Nat} {xs : Nat → Int32} {d : Nat} {Q : Int → lf_Z → Prop} {x3 : Int} {x7 : Int} {s : lf_Z} (h : fm_300_p203L Q x3 x7 s) : lf_E (px_ro L xs) (d + 4) 300 203 [(0, .ref 95), (3, .int (Int32.ofInt x3)), (7, .int (Int32.ofInt x7))] [] s (lf_qi Q) :=
  h (fun x7 s => lf_E (px_ro L xs) (d + 4) 300 203 [(0, .ref 95), (3, .int (Int32.ofInt x3)), (7, .int (Int32.ofInt x7))] [] s (lf_qi Q)) (fun x7 s hb => gm_300_p203 (fun _ _ h => h) hb)
def fm_300_p117 (X95 : Int → lf_Z → Prop) (Q : Int → lf_Z → Prop) (x3 : Int) (x4 : Int) (x5 : Int) (x6 : Int) (X117 : Int → lf_Z → Prop) (x7 : Int) (s : lf_Z) : Prop := lf_R x7 ∧ (lf_R x4 ∧ ((x4 ≤ x7 → (X95 (x6 + 1) s)) ∧ (¬ (x4 ≤ x7) → ((0 ≤ x7 ∧ x7 < 6) ∧ (fm_239 (s.1 113 x7) (fun r74 s72 => (fm_299 (s.1 113 x7) r74 (fun r77 s75 => ((0 ≤ (12 * x7) + x6 ∧ (12 * x7) + x6 < 72) ∧ (X117 (x7 + 1) (lf_up s75.1 115 ((12 * x7) + x6) r77, s75.2.1, s75.2.2)))) s72)) s)))))
def fm_300_p117L (X95 : Int → lf_Z → Prop) (Q : Int → lf_Z → Prop) (x3 : Int) (x4 : Int) (x5 : Int) (x6 : Int) (x7 : Int) (s : lf_Z) : Prop := ∀ X117 : Int → lf_Z → Prop, (∀ (x7 : Int) (s : lf_Z), fm_300_p117 X95 Q x3 x4 x5 x6 X117 x7 s → X117 x7 s) → X117 x7 s
set_option maxRecDepth 100000 in
theorem gm_300_p117 {L : Nat} {xs : Nat → Int32} {d : Nat} {X95 : Int → lf_Z → Prop} {Q : Int → lf_Z → Prop} {x3 : Int} {x4 : Int} {x5 : Int} {x6 : Int} {x7 : Int} {s : lf_Z} {X117 : Int → lf_Z → Prop} (hX95 : ∀ x6 s, X95 x6 s → lf_E (px_ro L xs) (d + 4) 300 95 [(0, .ref 95), (3, .int (Int32.ofInt x3)), (4, .int (Int32.ofInt x4)), (5, .int (Int32.ofInt x5)), (6, .int (Int32.ofInt x6))] [] s (lf_qi Q)) (hX117 : ∀ x7 s, X117 x7 s → lf_E (px_ro L xs) (d + 4) 300 117 [(0, .ref 95), (3, .int (Int32.ofInt x3)), (4, .int (Int32.ofInt x4)), (5, .int (Int32.ofInt x5)), (6, .int (Int32.ofInt x6)), (7, .int (Int32.ofInt x7))] [] s (lf_qi Q)) (h : fm_300_p117 X95 Q x3 x4 x5 x6 X117 x7 s) : lf_E (px_ro L xs) (d + 4) 300 117 [(0, .ref 95), (3, .int (Int32.ofInt x3)), (4, .int (Int32.ofInt x4)), (5, .int (Int32.ofInt x5)), (6, .int (Int32.ofInt x6)), (7, .int (Int32.ofInt x7))] [] s (lf_qi Q) := by
  unfold fm_300_p117 at h
  refine lf_seg 2 (pc' := 121) (lv' := [(0, .ref 95), (3, .int (Int32.ofInt x3)), (4, .int (Int32.ofInt x4)), (5, .int (Int32.ofInt x5)), (6, .int (Int32.ofInt x6)), (7, .int (Int32.ofInt x7))]) (st' := [.int (Int32.ofInt x4), .int (Int32.ofInt x7)]) rfl ?_
  obtain ⟨o68, h⟩ := h
  obtain ⟨o69, h⟩ := h
  refine lf_icmp_ge 166 124 rfl rfl rfl o68 o69 (fun c => ?_) (fun c => ?_)
  · have h := h.1 c
    refine lf_iinc 169 rfl rfl rfl rfl ?_
    refine lf_seg 1 (pc' := 95) (lv' := [(6, .int (Int32.ofInt (x6 + 1))), (0, .ref 95), (3, .int (Int32.ofInt x3)), (4, .int (Int32.ofInt x4)), (5, .int (Int32.ofInt x5)), (7, .int (Int32.ofInt x7))]) (st' := []) rfl ?_
    refine lf_sub (l := [(0, .ref 95), (3, .int (Int32.ofInt x3)), (4, .int (Int32.ofInt x4)), (5, .int (Int32.ofInt x5)), (6, .int (Int32.ofInt (x6 + 1)))]) (lf_sb1 rfl (lf_sb1 rfl (lf_sb1 rfl (lf_sb1 rfl (lf_sb1 rfl lf_sb0))))) ?_
    exact hX95 _ _ h
  · have h := h.2 c
    refine lf_seg 2 (pc' := 128) (lv' := [(0, .ref 95), (3, .int (Int32.ofInt x3)), (4, .int (Int32.ofInt x4)), (5, .int (Int32.ofInt x5)), (6, .int (Int32.ofInt x6)), (7, .int (Int32.ofInt x7))]) (st' := [.ref 115]) rfl ?_
    refine lf_bipush 130 12 rfl rfl (by decide) (by decide) ?_
    refine lf_seg 1 (pc' := 132) (lv' := [(0, .ref 95), (3, .int (Int32.ofInt x3)), (4, .int (Int32.ofInt x4)), (5, .int (Int32.ofInt x5)), (6, .int (Int32.ofInt x6)), (7, .int (Int32.ofInt x7))]) (st' := [.int (Int32.ofInt x7), .int (Int32.ofInt 12), .ref 115]) rfl ?_
    refine lf_imul 133 rfl rfl ?_
    refine lf_seg 1 (pc' := 135) (lv' := [(0, .ref 95), (3, .int (Int32.ofInt x3)), (4, .int (Int32.ofInt x4)), (5, .int (Int32.ofInt x5)), (6, .int (Int32.ofInt x6)), (7, .int (Int32.ofInt x7))]) (st' := [.int (Int32.ofInt x6), .int (Int32.ofInt (12 * x7)), .ref 115]) rfl ?_
    refine lf_iadd 136 rfl rfl ?_
    refine lf_seg 4 (pc' := 143) (lv' := [(0, .ref 95), (3, .int (Int32.ofInt x3)), (4, .int (Int32.ofInt x4)), (5, .int (Int32.ofInt x5)), (6, .int (Int32.ofInt x6)), (7, .int (Int32.ofInt x7))]) (st' := [.int (Int32.ofInt x7), .ref 113, .ref 95, .int (Int32.ofInt ((12 * x7) + x6)), .ref 115]) rfl ?_
    obtain ⟨o70, h⟩ := h
    refine lf_iald 144 6 rfl rfl rfl rfl rfl rfl o70 ?_
    refine lf_seg 4 (pc' := 151) (lv' := [(0, .ref 95), (3, .int (Int32.ofInt x3)), (4, .int (Int32.ofInt x4)), (5, .int (Int32.ofInt x5)), (6, .int (Int32.ofInt x6)), (7, .int (Int32.ofInt x7))]) (st' := [.int (Int32.ofInt x7), .ref 113, .ref 95, .int (Int32.ofInt (s.1 113 x7)), .ref 95, .int (Int32.ofInt ((12 * x7) + x6)), .ref 115]) rfl ?_
    refine lf_iald 152 6 rfl rfl rfl rfl rfl rfl o70 ?_
    refine lf_seg 1 (pc' := 153) (lv' := [(0, .ref 95), (3, .int (Int32.ofInt x3)), (4, .int (Int32.ofInt x4)), (5, .int (Int32.ofInt x5)), (6, .int (Int32.ofInt x6)), (7, .int (Int32.ofInt x7))]) (st' := [.int (Int32.ofInt 3), .int (Int32.ofInt (s.1 113 x7)), .ref 95, .int (Int32.ofInt (s.1 113 x7)), .ref 95, .int (Int32.ofInt ((12 * x7) + x6)), .ref 115]) rfl ?_
    refine lf_callI 156 rfl rfl rfl rfl (gm_239 h) (fun r74 s72 h => ?_)
    refine lf_callI 159 rfl rfl rfl rfl (gm_299 h) (fun r77 s75 h => ?_)
    obtain ⟨o78, h⟩ := h
    refine lf_iast 160 72 rfl rfl rfl rfl rfl rfl o78 ?_
    refine lf_as (lf_up s75.1 115 ((12 * x7) + x6) r77, s75.2.1, s75.2.2) rfl ?_
    refine lf_iinc 163 rfl rfl rfl rfl ?_
    refine lf_seg 1 (pc' := 117) (lv' := [(7, .int (Int32.ofInt (x7 + 1))), (0, .ref 95), (3, .int (Int32.ofInt x3)), (4, .int (Int32.ofInt x4)), (5, .int (Int32.ofInt x5)), (6, .int (Int32.ofInt x6))]) (st' := []) rfl ?_
    refine lf_sub (l := [(0, .ref 95), (3, .int (Int32.ofInt x3)), (4, .int (Int32.ofInt x4)), (5, .int (Int32.ofInt x5)), (6, .int (Int32.ofInt x6)), (7, .int (Int32.ofInt (x7 + 1)))]) (lf_sb1 rfl (lf_sb1 rfl (lf_sb1 rfl (lf_sb1 rfl (lf_sb1 rfl (lf_sb1 rfl lf_sb0)))))) ?_
    exact hX117 _ _ h
theorem gm_300_p117L {L : Nat} {xs : Nat → Int32} {d : Nat} {X95 : Int → lf_Z → Prop} {Q : Int → lf_Z → Prop} {x3 : Int} {x4 : Int} {x5 : Int} {x6 : Int} {x7 : Int} {s : lf_Z} (hX95 : ∀ x6 s, X95 x6 s → lf_E (px_ro L xs) (d + 4) 300 95 [(0, .ref 95), (3, .int (Int32.ofInt x3)), (4, .int (Int32.ofInt x4)), (5, .int (Int32.ofInt x5)), (6, .int (Int32.ofInt x6))] [] s (lf_qi Q)) (h : fm_300_p117L X95 Q x3 x4 x5 x6 x7 s) : lf_E (px_ro L xs) (d + 4) 300 117 [(0, .ref 95), (3, .int (Int32.ofInt x3)), (4, .int (Int32.ofInt x4)), (5, .int (Int32.ofInt x5)), (6, .int (Int32.ofInt x6)), (7, .int (Int32.ofInt x7))] [] s (lf_qi Q) :=
  h (fun x7 s => lf_E (px_ro L xs) (d + 4) 300 117 [(0, .ref 95), (3, .int (Int32.ofInt x3)), (4, .int (Int32.ofInt x4)), (5, .int (Int32.ofInt x5)), (6, .int (Int32.ofInt x6)), (7, .int (Int32.ofInt x7))] [] s (lf_qi Q)) (fun x7 s hb => gm_300_p117 hX95 (fun _ _ h => h) hb)
def fm_300_p95 (Q : Int → lf_Z → Prop) (x3 : Int) (x4 : Int) (x5 : Int) (X95 : Int → lf_Z → Prop) (x6 : Int) (s : lf_Z) : Prop := lf_R x6 ∧ (lf_R x5 ∧ ((x5 ≤ x6 → (fm_302 x5 x4 (fun r45 s41 => (lf_R r45 ∧ ((r45 < 1000 → (lf_R x3 ∧ ((x3 ≠ (-1) → (fm_300_p203L Q x3 0 s41)) ∧ (¬ (x3 ≠ (-1)) → (Q r45 s41))))) ∧ (¬ (r45 < 1000) → (Q (-1) s41))))) s)) ∧ (¬ (x5 ≤ x6) → ((0 ≤ x6 ∧ x6 < 12) ∧ (fm_261 (s.1 114 x6) 1 (fun s62 => (fm_300_p117L X95 Q x3 x4 x5 x6 0 s62)) s)))))
def fm_300_p95L (Q : Int → lf_Z → Prop) (x3 : Int) (x4 : Int) (x5 : Int) (x6 : Int) (s : lf_Z) : Prop := ∀ X95 : Int → lf_Z → Prop, (∀ (x6 : Int) (s : lf_Z), fm_300_p95 Q x3 x4 x5 X95 x6 s → X95 x6 s) → X95 x6 s
set_option maxRecDepth 100000 in
theorem gm_300_p95 {L : Nat} {xs : Nat → Int32} {d : Nat} {Q : Int → lf_Z → Prop} {x3 : Int} {x4 : Int} {x5 : Int} {x6 : Int} {s : lf_Z} {X95 : Int → lf_Z → Prop} (hX95 : ∀ x6 s, X95 x6 s → lf_E (px_ro L xs) (d + 4) 300 95 [(0, .ref 95), (3, .int (Int32.ofInt x3)), (4, .int (Int32.ofInt x4)), (5, .int (Int32.ofInt x5)), (6, .int (Int32.ofInt x6))] [] s (lf_qi Q)) (h : fm_300_p95 Q x3 x4 x5 X95 x6 s) : lf_E (px_ro L xs) (d + 4) 300 95 [(0, .ref 95), (3, .int (Int32.ofInt x3)), (4, .int (Int32.ofInt x4)), (5, .int (Int32.ofInt x5)), (6, .int (Int32.ofInt x6))] [] s (lf_qi Q) := by
  unfold fm_300_p95 at h
  refine lf_seg 2 (pc' := 99) (lv' := [(0, .ref 95), (3, .int (Int32.ofInt x3)), (4, .int (Int32.ofInt x4)), (5, .int (Int32.ofInt x5)), (6, .int (Int32.ofInt x6))]) (st' := [.int (Int32.ofInt x5), .int (Int32.ofInt x6)]) rfl ?_
  obtain ⟨o39, h⟩ := h
  obtain ⟨o40, h⟩ := h
  refine lf_icmp_ge 172 102 rfl rfl rfl o39 o40 (fun c => ?_) (fun c => ?_)
  · have h := h.1 c
    refine lf_seg 3 (pc' := 177) (lv' := [(0, .ref 95), (3, .int (Int32.ofInt x3)), (4, .int (Int32.ofInt x4)), (5, .int (Int32.ofInt x5)), (6, .int (Int32.ofInt x6))]) (st' := [.int (Int32.ofInt x4), .int (Int32.ofInt x5), .ref 95]) rfl ?_
    refine lf_callI 180 rfl rfl rfl rfl (gm_302 h) (fun r45 s41 h => ?_)
    refine lf_seg 2 (pc' := 184) (lv' := [(6, .int (Int32.ofInt r45)), (0, .ref 95), (3, .int (Int32.ofInt x3)), (4, .int (Int32.ofInt x4)), (5, .int (Int32.ofInt x5))]) (st' := [.int (Int32.ofInt r45)]) rfl ?_
    refine lf_sipush 187 1000 rfl rfl (by decide) (by decide) ?_
    obtain ⟨o48, h⟩ := h
    refine lf_icmp_lt 192 190 rfl rfl rfl o48 ⟨by decide, by decide⟩ (fun c => ?_) (fun c => ?_)
    · have h := h.1 c
      refine lf_seg 2 (pc' := 194) (lv' := [(6, .int (Int32.ofInt r45)), (0, .ref 95), (3, .int (Int32.ofInt x3)), (4, .int (Int32.ofInt x4)), (5, .int (Int32.ofInt x5))]) (st' := [.int (Int32.ofInt (-1)), .int (Int32.ofInt x3)]) rfl ?_
      obtain ⟨o50, h⟩ := h
      refine lf_icmp_ne 200 197 rfl rfl rfl o50 ⟨by decide, by decide⟩ (fun c => ?_) (fun c => ?_)
      · have h := h.1 c
        refine lf_seg 2 (pc' := 203) (lv' := [(7, .int (Int32.ofInt 0)), (6, .int (Int32.ofInt r45)), (0, .ref 95), (3, .int (Int32.ofInt x3)), (4, .int (Int32.ofInt x4)), (5, .int (Int32.ofInt x5))]) (st' := []) rfl ?_
        refine lf_sub (l := [(0, .ref 95), (3, .int (Int32.ofInt x3)), (7, .int (Int32.ofInt 0))]) (lf_sb1 rfl (lf_sb1 rfl (lf_sb1 rfl lf_sb0))) ?_
        exact gm_300_p203L h
      · have h := h.2 c
        refine lf_seg 1 (pc' := 199) (lv' := [(6, .int (Int32.ofInt r45)), (0, .ref 95), (3, .int (Int32.ofInt x3)), (4, .int (Int32.ofInt x4)), (5, .int (Int32.ofInt x5))]) (st' := [.int (Int32.ofInt r45)]) rfl ?_
        exact lf_retI rfl rfl h
    · have h := h.2 c
      refine lf_seg 1 (pc' := 191) (lv' := [(6, .int (Int32.ofInt r45)), (0, .ref 95), (3, .int (Int32.ofInt x3)), (4, .int (Int32.ofInt x4)), (5, .int (Int32.ofInt x5))]) (st' := [.int (Int32.ofInt (-1))]) rfl ?_
      exact lf_retI rfl rfl h
  · have h := h.2 c
    refine lf_seg 4 (pc' := 109) (lv' := [(0, .ref 95), (3, .int (Int32.ofInt x3)), (4, .int (Int32.ofInt x4)), (5, .int (Int32.ofInt x5)), (6, .int (Int32.ofInt x6))]) (st' := [.int (Int32.ofInt x6), .ref 114, .ref 95]) rfl ?_
    obtain ⟨o60, h⟩ := h
    refine lf_iald 110 12 rfl rfl rfl rfl rfl rfl o60 ?_
    refine lf_seg 1 (pc' := 111) (lv' := [(0, .ref 95), (3, .int (Int32.ofInt x3)), (4, .int (Int32.ofInt x4)), (5, .int (Int32.ofInt x5)), (6, .int (Int32.ofInt x6))]) (st' := [.int (Int32.ofInt 1), .int (Int32.ofInt (s.1 114 x6)), .ref 95]) rfl ?_
    refine lf_callV 114 rfl rfl rfl rfl (gm_261 h) (fun s62 h => ?_)
    refine lf_seg 2 (pc' := 117) (lv' := [(7, .int (Int32.ofInt 0)), (0, .ref 95), (3, .int (Int32.ofInt x3)), (4, .int (Int32.ofInt x4)), (5, .int (Int32.ofInt x5)), (6, .int (Int32.ofInt x6))]) (st' := []) rfl ?_
    refine lf_sub (l := [(0, .ref 95), (3, .int (Int32.ofInt x3)), (4, .int (Int32.ofInt x4)), (5, .int (Int32.ofInt x5)), (6, .int (Int32.ofInt x6)), (7, .int (Int32.ofInt 0))]) (lf_sb1 rfl (lf_sb1 rfl (lf_sb1 rfl (lf_sb1 rfl (lf_sb1 rfl (lf_sb1 rfl lf_sb0)))))) ?_
    exact gm_300_p117L hX95 h
theorem gm_300_p95L {L : Nat} {xs : Nat → Int32} {d : Nat} {Q : Int → lf_Z → Prop} {x3 : Int} {x4 : Int} {x5 : Int} {x6 : Int} {s : lf_Z} (h : fm_300_p95L Q x3 x4 x5 x6 s) : lf_E (px_ro L xs) (d + 4) 300 95 [(0, .ref 95), (3, .int (Int32.ofInt x3)), (4, .int (Int32.ofInt x4)), (5, .int (Int32.ofInt x5)), (6, .int (Int32.ofInt x6))] [] s (lf_qi Q) :=
  h (fun x6 s => lf_E (px_ro L xs) (d + 4) 300 95 [(0, .ref 95), (3, .int (Int32.ofInt x3)), (4, .int (Int32.ofInt x4)), (5, .int (Int32.ofInt x5)), (6, .int (Int32.ofInt x6))] [] s (lf_qi Q)) (fun x6 s hb => gm_300_p95 (fun _ _ h => h) hb)
def fm_300_p72 (Q : Int → lf_Z → Prop) (x1 : Int) (x2 : Int) (x3 : Int) (s : lf_Z) : Prop := fm_301 x1 (fun r30 s26 => (fm_301b x2 (fun r36 s32 => (fm_300_p95L Q x3 r30 r36 0 s32)) s26)) s
set_option maxRecDepth 100000 in
theorem gm_300_p72 {L : Nat} {xs : Nat → Int32} {d : Nat} {Q : Int → lf_Z → Prop} {x1 : Int} {x2 : Int} {x3 : Int} {s : lf_Z} (h : fm_300_p72 Q x1 x2 x3 s) : lf_E (px_ro L xs) (d + 4) 300 72 [(0, .ref 95), (1, .int (Int32.ofInt x1)), (2, .int (Int32.ofInt x2)), (3, .int (Int32.ofInt x3))] [] s (lf_qi Q) := by
  unfold fm_300_p72 at h
  refine lf_seg 3 (pc' := 77) (lv' := [(0, .ref 95), (1, .int (Int32.ofInt x1)), (2, .int (Int32.ofInt x2)), (3, .int (Int32.ofInt x3))]) (st' := [.ref 113, .int (Int32.ofInt x1)]) rfl ?_
  refine lf_callI 80 rfl rfl rfl rfl (gm_301 h) (fun r30 s26 h => ?_)
  refine lf_seg 4 (pc' := 87) (lv' := [(4, .int (Int32.ofInt r30)), (0, .ref 95), (1, .int (Int32.ofInt x1)), (2, .int (Int32.ofInt x2)), (3, .int (Int32.ofInt x3))]) (st' := [.ref 114, .int (Int32.ofInt x2)]) rfl ?_
  refine lf_callI 90 rfl rfl rfl rfl (gm_301b h) (fun r36 s32 h => ?_)
  refine lf_seg 3 (pc' := 95) (lv' := [(6, .int (Int32.ofInt 0)), (5, .int (Int32.ofInt r36)), (4, .int (Int32.ofInt r30)), (0, .ref 95), (1, .int (Int32.ofInt x1)), (2, .int (Int32.ofInt x2)), (3, .int (Int32.ofInt x3))]) (st' := []) rfl ?_
  refine lf_sub (l := [(0, .ref 95), (3, .int (Int32.ofInt x3)), (4, .int (Int32.ofInt r30)), (5, .int (Int32.ofInt r36)), (6, .int (Int32.ofInt 0))]) (lf_sb1 rfl (lf_sb1 rfl (lf_sb1 rfl (lf_sb1 rfl (lf_sb1 rfl lf_sb0))))) ?_
  exact gm_300_p95L h
def fm_300 (a1 : Int) (a2 : Int) (a3 : Int) (Q : Int → lf_Z → Prop) (s : lf_Z) : Prop := fm_183 a1 1 (lf_w ((lf_shl 1 (s.1 96 2)) - 1)) (fun z6 s4 => ((z6 = false → (Q (-1) s4)) ∧ (z6 = true → (fm_183 a2 1 (lf_w ((lf_shl 1 (s4.1 96 0)) - 1)) (fun z13 s11 => ((z13 = false → (Q (-1) s11)) ∧ (z13 = true → (fm_188 a2 (fun r17 s15 => (fm_188 a1 (fun r20 s18 => (lf_R r17 ∧ (lf_R r20 ∧ ((r17 ≤ r20 → (lf_R a3 ∧ ((a3 = (-1) → (fm_300_p72 Q a1 a2 a3 s18)) ∧ (¬ (a3 = (-1)) → (fm_185 a3 (fun z83 s81 => ((z83 = false → (Q (-1) s81)) ∧ (z83 = true → (fm_210 a2 a3 (fun z87 s85 => ((z87 = true → (fm_300_p72 Q a1 a2 a3 s85)) ∧ (z87 = false → (Q (-1) s85)))) s81)))) s18))))) ∧ (¬ (r17 ≤ r20) → (Q (-1) s18)))))) s15)) s11)))) s4)))) s
set_option maxRecDepth 100000 in
theorem gm_300 {L : Nat} {xs : Nat → Int32} {d : Nat} {a1 : Int} {a2 : Int} {a3 : Int} {Q : Int → lf_Z → Prop} {s : lf_Z} (h : fm_300 a1 a2 a3 Q s) : lf_M (px_ro L xs) (d + 4) 300 [.ref 95, .int (Int32.ofInt a1), .int (Int32.ofInt a2), .int (Int32.ofInt a3)] s (lf_qi Q) := by
  unfold fm_300 at h
  show lf_E (px_ro L xs) (d + 4) 300 0 [(0, .ref 95), (1, .int (Int32.ofInt a1)), (2, .int (Int32.ofInt a2)), (3, .int (Int32.ofInt a3))] [] s _
  refine lf_seg 6 (pc' := 8) (lv' := [(0, .ref 95), (1, .int (Int32.ofInt a1)), (2, .int (Int32.ofInt a2)), (3, .int (Int32.ofInt a3))]) (st' := [.int (Int32.ofInt 2), .ref 96, .int (Int32.ofInt 1), .int (Int32.ofInt 1), .int (Int32.ofInt a1)]) rfl ?_
  refine lf_iald 9 1538 rfl rfl rfl rfl rfl rfl ⟨by decide, by decide⟩ ?_
  refine lf_ishl 10 rfl rfl ?_
  refine lf_seg 1 (pc' := 11) (lv' := [(0, .ref 95), (1, .int (Int32.ofInt a1)), (2, .int (Int32.ofInt a2)), (3, .int (Int32.ofInt a3))]) (st' := [.int (Int32.ofInt 1), .int (Int32.ofInt (lf_shl 1 (s.1 96 2))), .int (Int32.ofInt 1), .int (Int32.ofInt a1)]) rfl ?_
  refine lf_isub 12 rfl rfl ?_
  refine lf_wtI ?_
  refine lf_callZ 15 rfl rfl rfl rfl (gm_183 h) (fun z6 s4 h => ?_)
  refine lf_ifz_eq 47 18 rfl rfl rfl (fun c => ?_) (fun c => ?_)
  · have h := h.1 c
    refine lf_seg 1 (pc' := 48) (lv' := [(0, .ref 95), (1, .int (Int32.ofInt a1)), (2, .int (Int32.ofInt a2)), (3, .int (Int32.ofInt a3))]) (st' := [.int (Int32.ofInt (-1))]) rfl ?_
    exact lf_retI rfl rfl h
  · have h := h.2 c
    refine lf_seg 6 (pc' := 26) (lv' := [(0, .ref 95), (1, .int (Int32.ofInt a1)), (2, .int (Int32.ofInt a2)), (3, .int (Int32.ofInt a3))]) (st' := [.int (Int32.ofInt 0), .ref 96, .int (Int32.ofInt 1), .int (Int32.ofInt 1), .int (Int32.ofInt a2)]) rfl ?_
    refine lf_iald 27 1538 rfl rfl rfl rfl rfl rfl ⟨by decide, by decide⟩ ?_
    refine lf_ishl 28 rfl rfl ?_
    refine lf_seg 1 (pc' := 29) (lv' := [(0, .ref 95), (1, .int (Int32.ofInt a1)), (2, .int (Int32.ofInt a2)), (3, .int (Int32.ofInt a3))]) (st' := [.int (Int32.ofInt 1), .int (Int32.ofInt (lf_shl 1 (s4.1 96 0))), .int (Int32.ofInt 1), .int (Int32.ofInt a2)]) rfl ?_
    refine lf_isub 30 rfl rfl ?_
    refine lf_wtI ?_
    refine lf_callZ 33 rfl rfl rfl rfl (gm_183 h) (fun z13 s11 h => ?_)
    refine lf_ifz_eq 47 36 rfl rfl rfl (fun c => ?_) (fun c => ?_)
    · have h := h.1 c
      refine lf_seg 1 (pc' := 48) (lv' := [(0, .ref 95), (1, .int (Int32.ofInt a1)), (2, .int (Int32.ofInt a2)), (3, .int (Int32.ofInt a3))]) (st' := [.int (Int32.ofInt (-1))]) rfl ?_
      exact lf_retI rfl rfl h
    · have h := h.2 c
      refine lf_seg 1 (pc' := 37) (lv' := [(0, .ref 95), (1, .int (Int32.ofInt a1)), (2, .int (Int32.ofInt a2)), (3, .int (Int32.ofInt a3))]) (st' := [.int (Int32.ofInt a2)]) rfl ?_
      refine lf_callI 40 rfl rfl rfl rfl (gm_188 h) (fun r17 s15 h => ?_)
      refine lf_seg 1 (pc' := 41) (lv' := [(0, .ref 95), (1, .int (Int32.ofInt a1)), (2, .int (Int32.ofInt a2)), (3, .int (Int32.ofInt a3))]) (st' := [.int (Int32.ofInt a1), .int (Int32.ofInt r17)]) rfl ?_
      refine lf_callI 44 rfl rfl rfl rfl (gm_188 h) (fun r20 s18 h => ?_)
      obtain ⟨o22, h⟩ := h
      obtain ⟨o23, h⟩ := h
      refine lf_icmp_le 49 47 rfl rfl rfl o22 o23 (fun c => ?_) (fun c => ?_)
      · have h := h.1 c
        refine lf_seg 2 (pc' := 51) (lv' := [(0, .ref 95), (1, .int (Int32.ofInt a1)), (2, .int (Int32.ofInt a2)), (3, .int (Int32.ofInt a3))]) (st' := [.int (Int32.ofInt (-1)), .int (Int32.ofInt a3)]) rfl ?_
        obtain ⟨o25, h⟩ := h
        refine lf_icmp_eq 72 54 rfl rfl rfl o25 ⟨by decide, by decide⟩ (fun c => ?_) (fun c => ?_)
        · have h := h.1 c
          refine lf_sub (l := [(0, .ref 95), (1, .int (Int32.ofInt a1)), (2, .int (Int32.ofInt a2)), (3, .int (Int32.ofInt a3))]) (lf_sb1 rfl (lf_sb1 rfl (lf_sb1 rfl (lf_sb1 rfl lf_sb0)))) ?_
          exact gm_300_p72 h
        · have h := h.2 c
          refine lf_seg 2 (pc' := 56) (lv' := [(0, .ref 95), (1, .int (Int32.ofInt a1)), (2, .int (Int32.ofInt a2)), (3, .int (Int32.ofInt a3))]) (st' := [.int (Int32.ofInt a3), .ref 95]) rfl ?_
          refine lf_callZ 59 rfl rfl rfl rfl (gm_185 h) (fun z83 s81 h => ?_)
          refine lf_ifz_eq 70 62 rfl rfl rfl (fun c => ?_) (fun c => ?_)
          · have h := h.1 c
            refine lf_seg 1 (pc' := 71) (lv' := [(0, .ref 95), (1, .int (Int32.ofInt a1)), (2, .int (Int32.ofInt a2)), (3, .int (Int32.ofInt a3))]) (st' := [.int (Int32.ofInt (-1))]) rfl ?_
            exact lf_retI rfl rfl h
          · have h := h.2 c
            refine lf_seg 2 (pc' := 64) (lv' := [(0, .ref 95), (1, .int (Int32.ofInt a1)), (2, .int (Int32.ofInt a2)), (3, .int (Int32.ofInt a3))]) (st' := [.int (Int32.ofInt a3), .int (Int32.ofInt a2)]) rfl ?_
            refine lf_callZ 67 rfl rfl rfl rfl (gm_210 h) (fun z87 s85 h => ?_)
            refine lf_ifz_ne 72 70 rfl rfl rfl (fun c => ?_) (fun c => ?_)
            · have h := h.1 c
              refine lf_sub (l := [(0, .ref 95), (1, .int (Int32.ofInt a1)), (2, .int (Int32.ofInt a2)), (3, .int (Int32.ofInt a3))]) (lf_sb1 rfl (lf_sb1 rfl (lf_sb1 rfl (lf_sb1 rfl lf_sb0)))) ?_
              exact gm_300_p72 h
            · have h := h.2 c
              refine lf_seg 1 (pc' := 71) (lv' := [(0, .ref 95), (1, .int (Int32.ofInt a1)), (2, .int (Int32.ofInt a2)), (3, .int (Int32.ofInt a3))]) (st' := [.int (Int32.ofInt (-1))]) rfl ?_
              exact lf_retI rfl rfl h
      · have h := h.2 c
        refine lf_seg 1 (pc' := 48) (lv' := [(0, .ref 95), (1, .int (Int32.ofInt a1)), (2, .int (Int32.ofInt a2)), (3, .int (Int32.ofInt a3))]) (st' := [.int (Int32.ofInt (-1))]) rfl ?_
        exact lf_retI rfl rfl h
