-- fm_223 Model.compareOf 95
def fm_223 (Q : Int → lf_Z → Prop) (s : lf_Z) : Prop := lf_R (s.1 95 9) ∧ ((s.1 95 9 ≠ 60 → ((s.1 95 9 ≠ 4 → ((s.1 95 9 ≠ 62 → ((s.1 95 9 ≠ 5 → ((s.1 95 9 ≠ 61 → ((s.1 95 9 ≠ 35 → (Q (-1) s)) ∧ (¬ (s.1 95 9 ≠ 35) → (Q 15 s)))) ∧ (¬ (s.1 95 9 ≠ 61) → (Q 14 s)))) ∧ (¬ (s.1 95 9 ≠ 5) → (Q 13 s)))) ∧ (¬ (s.1 95 9 ≠ 62) → (Q 12 s)))) ∧ (¬ (s.1 95 9 ≠ 4) → (Q 11 s)))) ∧ (¬ (s.1 95 9 ≠ 60) → (Q 10 s)))
set_option maxRecDepth 100000 in
theorem gm_223 {L : Nat} {xs : Nat → Int32} {d : Nat} {Q : Int → lf_Z → Prop} {s : lf_Z} (h : fm_223 Q s) : lf_M (px_ro L xs) (d + 1) 223 [.ref 95] s (lf_qi Q) := by
  unfold fm_223 at h
  show lf_E (px_ro L xs) (d + 1) 223 0 [(0, .ref 95)] [] s _
  refine lf_seg 1 (pc' := 1) (lv' := [(0, .ref 95)]) (st' := [.ref 95]) rfl ?_
  refine lf_getI 4 9 rfl rfl rfl rfl rfl rfl rfl ?_
  refine lf_bipush 6 60 rfl rfl (by decide) (by decide) ?_
  obtain ⟨o21, h⟩ := h
  refine lf_icmp_ne 14 9 rfl rfl rfl o21 ⟨by decide, by decide⟩ (fun c => ?_) (fun c => ?_)
  · have h := h.1 c
    refine lf_seg 1 (pc' := 15) (lv' := [(0, .ref 95)]) (st' := [.ref 95]) rfl ?_
    refine lf_getI 18 9 rfl rfl rfl rfl rfl rfl rfl ?_
    refine lf_seg 1 (pc' := 19) (lv' := [(0, .ref 95)]) (st' := [.int (Int32.ofInt 4), .int (Int32.ofInt (s.1 95 9))]) rfl ?_
    refine lf_icmp_ne 27 22 rfl rfl rfl o21 ⟨by decide, by decide⟩ (fun c => ?_) (fun c => ?_)
    · have h := h.1 c
      refine lf_seg 1 (pc' := 28) (lv' := [(0, .ref 95)]) (st' := [.ref 95]) rfl ?_
      refine lf_getI 31 9 rfl rfl rfl rfl rfl rfl rfl ?_
      refine lf_bipush 33 62 rfl rfl (by decide) (by decide) ?_
      refine lf_icmp_ne 41 36 rfl rfl rfl o21 ⟨by decide, by decide⟩ (fun c => ?_) (fun c => ?_)
      · have h := h.1 c
        refine lf_seg 1 (pc' := 42) (lv' := [(0, .ref 95)]) (st' := [.ref 95]) rfl ?_
        refine lf_getI 45 9 rfl rfl rfl rfl rfl rfl rfl ?_
        refine lf_seg 1 (pc' := 46) (lv' := [(0, .ref 95)]) (st' := [.int (Int32.ofInt 5), .int (Int32.ofInt (s.1 95 9))]) rfl ?_
        refine lf_icmp_ne 54 49 rfl rfl rfl o21 ⟨by decide, by decide⟩ (fun c => ?_) (fun c => ?_)
        · have h := h.1 c
          refine lf_seg 1 (pc' := 55) (lv' := [(0, .ref 95)]) (st' := [.ref 95]) rfl ?_
          refine lf_getI 58 9 rfl rfl rfl rfl rfl rfl rfl ?_
          refine lf_bipush 60 61 rfl rfl (by decide) (by decide) ?_
          refine lf_icmp_ne 68 63 rfl rfl rfl o21 ⟨by decide, by decide⟩ (fun c => ?_) (fun c => ?_)
          · have h := h.1 c
            refine lf_seg 1 (pc' := 69) (lv' := [(0, .ref 95)]) (st' := [.ref 95]) rfl ?_
            refine lf_getI 72 9 rfl rfl rfl rfl rfl rfl rfl ?_
            refine lf_bipush 74 35 rfl rfl (by decide) (by decide) ?_
            refine lf_icmp_ne 82 77 rfl rfl rfl o21 ⟨by decide, by decide⟩ (fun c => ?_) (fun c => ?_)
            · have h := h.1 c
              refine lf_seg 1 (pc' := 83) (lv' := [(0, .ref 95)]) (st' := [.int (Int32.ofInt (-1))]) rfl ?_
              exact lf_retI rfl rfl h
            · have h := h.2 c
              refine lf_bipush 79 15 rfl rfl (by decide) (by decide) ?_
              refine lf_seg 1 (pc' := 83) (lv' := [(0, .ref 95)]) (st' := [.int (Int32.ofInt 15)]) rfl ?_
              exact lf_retI rfl rfl h
          · have h := h.2 c
            refine lf_bipush 65 14 rfl rfl (by decide) (by decide) ?_
            refine lf_seg 1 (pc' := 83) (lv' := [(0, .ref 95)]) (st' := [.int (Int32.ofInt 14)]) rfl ?_
            exact lf_retI rfl rfl h
        · have h := h.2 c
          refine lf_bipush 51 13 rfl rfl (by decide) (by decide) ?_
          refine lf_seg 1 (pc' := 83) (lv' := [(0, .ref 95)]) (st' := [.int (Int32.ofInt 13)]) rfl ?_
          exact lf_retI rfl rfl h
      · have h := h.2 c
        refine lf_bipush 38 12 rfl rfl (by decide) (by decide) ?_
        refine lf_seg 1 (pc' := 83) (lv' := [(0, .ref 95)]) (st' := [.int (Int32.ofInt 12)]) rfl ?_
        exact lf_retI rfl rfl h
    · have h := h.2 c
      refine lf_bipush 24 11 rfl rfl (by decide) (by decide) ?_
      refine lf_seg 1 (pc' := 83) (lv' := [(0, .ref 95)]) (st' := [.int (Int32.ofInt 11)]) rfl ?_
      exact lf_retI rfl rfl h
  · have h := h.2 c
    refine lf_bipush 11 10 rfl rfl (by decide) (by decide) ?_
    refine lf_seg 1 (pc' := 83) (lv' := [(0, .ref 95)]) (st' := [.int (Int32.ofInt 10)]) rfl ?_
    exact lf_retI rfl rfl h
-- fm_218 Model.betweenOf 95
def fm_218 (Q : Int → lf_Z → Prop) (s : lf_Z) : Prop := lf_R (s.1 95 9) ∧ ((s.1 95 9 ≠ 43 → ((s.1 95 9 ≠ 45 → ((s.1 95 9 ≠ 42 → ((s.1 95 9 ≠ 47 → (fm_219 (fun r23 s22 => (lf_R r23 ∧ ((r23 = 41 → (fm_221 (fun z26 s25 => ((z26 = true → (fm_205 97 110 100 (fun r28 s27 => (fm_207 (lf_wl r28) (fun z30 s29 => ((z30 = false → (fm_206 111 114 (fun r32 s31 => (fm_207 (lf_wl r32) (fun z34 s33 => ((z34 = false → (Q (-1) s33)) ∧ (z34 = true → (Q 22 s33)))) s31)) s29)) ∧ (z30 = true → (Q 21 s29)))) s27)) s25)) ∧ (z26 = false → (fm_223 (fun r36 s35 => (Q r36 s35)) s25)))) s22)) ∧ (¬ (r23 = 41) → (Q (-1) s22))))) s)) ∧ (¬ (s.1 95 9 ≠ 47) → (Q 7 s)))) ∧ (¬ (s.1 95 9 ≠ 42) → (Q 6 s)))) ∧ (¬ (s.1 95 9 ≠ 45) → (Q 5 s)))) ∧ (¬ (s.1 95 9 ≠ 43) → (Q 4 s)))
set_option maxRecDepth 100000 in
theorem gm_218 {L : Nat} {xs : Nat → Int32} {d : Nat} {Q : Int → lf_Z → Prop} {s : lf_Z} (h : fm_218 Q s) : lf_M (px_ro L xs) (d + 3) 218 [.ref 95] s (lf_qi Q) := by
  unfold fm_218 at h
  show lf_E (px_ro L xs) (d + 3) 218 0 [(0, .ref 95)] [] s _
  refine lf_seg 1 (pc' := 1) (lv' := [(0, .ref 95)]) (st' := [.ref 95]) rfl ?_
  refine lf_getI 4 9 rfl rfl rfl rfl rfl rfl rfl ?_
  refine lf_bipush 6 43 rfl rfl (by decide) (by decide) ?_
  obtain ⟨o21, h⟩ := h
  refine lf_icmp_ne 11 9 rfl rfl rfl o21 ⟨by decide, by decide⟩ (fun c => ?_) (fun c => ?_)
  · have h := h.1 c
    refine lf_seg 1 (pc' := 12) (lv' := [(0, .ref 95)]) (st' := [.ref 95]) rfl ?_
    refine lf_getI 15 9 rfl rfl rfl rfl rfl rfl rfl ?_
    refine lf_bipush 17 45 rfl rfl (by decide) (by decide) ?_
    refine lf_icmp_ne 22 20 rfl rfl rfl o21 ⟨by decide, by decide⟩ (fun c => ?_) (fun c => ?_)
    · have h := h.1 c
      refine lf_seg 1 (pc' := 23) (lv' := [(0, .ref 95)]) (st' := [.ref 95]) rfl ?_
      refine lf_getI 26 9 rfl rfl rfl rfl rfl rfl rfl ?_
      refine lf_bipush 28 42 rfl rfl (by decide) (by decide) ?_
      refine lf_icmp_ne 34 31 rfl rfl rfl o21 ⟨by decide, by decide⟩ (fun c => ?_) (fun c => ?_)
      · have h := h.1 c
        refine lf_seg 1 (pc' := 35) (lv' := [(0, .ref 95)]) (st' := [.ref 95]) rfl ?_
        refine lf_getI 38 9 rfl rfl rfl rfl rfl rfl rfl ?_
        refine lf_bipush 40 47 rfl rfl (by decide) (by decide) ?_
        refine lf_icmp_ne 46 43 rfl rfl rfl o21 ⟨by decide, by decide⟩ (fun c => ?_) (fun c => ?_)
        · have h := h.1 c
          refine lf_seg 1 (pc' := 47) (lv' := [(0, .ref 95)]) (st' := [.ref 95]) rfl ?_
          refine lf_callI 50 rfl rfl rfl rfl (gm_219 h) (fun r23 s22 h => ?_)
          refine lf_bipush 52 41 rfl rfl (by decide) (by decide) ?_
          obtain ⟨o24, h⟩ := h
          refine lf_icmp_eq 57 55 rfl rfl rfl o24 ⟨by decide, by decide⟩ (fun c => ?_) (fun c => ?_)
          · have h := h.1 c
            refine lf_seg 1 (pc' := 58) (lv' := [(0, .ref 95)]) (st' := [.ref 95]) rfl ?_
            refine lf_callZ 61 rfl rfl rfl rfl (gm_221 h) (fun z26 s25 h => ?_)
            refine lf_ifz_ne 69 64 rfl rfl rfl (fun c => ?_) (fun c => ?_)
            · have h := h.1 c
              refine lf_seg 1 (pc' := 70) (lv' := [(0, .ref 95)]) (st' := [.ref 95]) rfl ?_
              refine lf_bipush 72 97 rfl rfl (by decide) (by decide) ?_
              refine lf_bipush 74 110 rfl rfl (by decide) (by decide) ?_
              refine lf_bipush 76 100 rfl rfl (by decide) (by decide) ?_
              refine lf_callL 79 rfl rfl rfl rfl (gm_205 h) (fun r28 s27 h => ?_)
              refine lf_wtL ?_
              refine lf_callZ 82 rfl rfl rfl rfl (gm_207 h) (fun z30 s29 h => ?_)
              refine lf_ifz_eq 90 85 rfl rfl rfl (fun c => ?_) (fun c => ?_)
              · have h := h.1 c
                refine lf_seg 1 (pc' := 91) (lv' := [(0, .ref 95)]) (st' := [.ref 95]) rfl ?_
                refine lf_bipush 93 111 rfl rfl (by decide) (by decide) ?_
                refine lf_bipush 95 114 rfl rfl (by decide) (by decide) ?_
                refine lf_callL 98 rfl rfl rfl rfl (gm_206 h) (fun r32 s31 h => ?_)
                refine lf_wtL ?_
                refine lf_callZ 101 rfl rfl rfl rfl (gm_207 h) (fun z34 s33 h => ?_)
                refine lf_ifz_eq 109 104 rfl rfl rfl (fun c => ?_) (fun c => ?_)
                · have h := h.1 c
                  refine lf_seg 1 (pc' := 110) (lv' := [(0, .ref 95)]) (st' := [.int (Int32.ofInt (-1))]) rfl ?_
                  exact lf_retI rfl rfl h
                · have h := h.2 c
                  refine lf_bipush 106 22 rfl rfl (by decide) (by decide) ?_
                  refine lf_seg 1 (pc' := 110) (lv' := [(0, .ref 95)]) (st' := [.int (Int32.ofInt 22)]) rfl ?_
                  exact lf_retI rfl rfl h
              · have h := h.2 c
                refine lf_bipush 87 21 rfl rfl (by decide) (by decide) ?_
                refine lf_seg 1 (pc' := 110) (lv' := [(0, .ref 95)]) (st' := [.int (Int32.ofInt 21)]) rfl ?_
                exact lf_retI rfl rfl h
            · have h := h.2 c
              refine lf_seg 1 (pc' := 65) (lv' := [(0, .ref 95)]) (st' := [.ref 95]) rfl ?_
              refine lf_callI 68 rfl rfl rfl rfl (gm_223 h) (fun r36 s35 h => ?_)
              exact lf_retI rfl rfl h
          · have h := h.2 c
            refine lf_seg 1 (pc' := 56) (lv' := [(0, .ref 95)]) (st' := [.int (Int32.ofInt (-1))]) rfl ?_
            exact lf_retI rfl rfl h
        · have h := h.2 c
          refine lf_bipush 45 7 rfl rfl (by decide) (by decide) ?_
          exact lf_retI rfl rfl h
      · have h := h.2 c
        refine lf_bipush 33 6 rfl rfl (by decide) (by decide) ?_
        exact lf_retI rfl rfl h
    · have h := h.2 c
      refine lf_seg 1 (pc' := 21) (lv' := [(0, .ref 95)]) (st' := [.int (Int32.ofInt 5)]) rfl ?_
      exact lf_retI rfl rfl h
  · have h := h.2 c
    refine lf_seg 1 (pc' := 10) (lv' := [(0, .ref 95)]) (st' := [.int (Int32.ofInt 4)]) rfl ?_
    exact lf_retI rfl rfl h
-- fm_226 Model.partOf 95 i
def fm_226 (a1 : Int) (Q : Int → lf_Z → Prop) (s : lf_Z) : Prop := lf_R a1 ∧ ((a1 ≠ (-1) ∧ a1 ≠ 40 ∧ a1 ≠ 41 ∧ a1 ≠ 42 ∧ a1 ≠ 44 → (fm_205 101 110 100 (fun r23 s22 => (fm_207 (lf_wl r23) (fun z25 s24 => ((z25 = false → (Q (-1) s24)) ∧ (z25 = true → (Q 0 s24)))) s22)) s)) ∧ (a1 = (-1) → (Q (-1) s)) ∧ (a1 = 40 → (lf_R (s.1 95 9) ∧ ((s.1 95 9 ≠ 41 → (Q (-1) s)) ∧ (¬ (s.1 95 9 ≠ 41) → (Q 0 s))))) ∧ (a1 = 41 → (fm_204 116 104 101 110 (fun r28 s27 => (fm_207 (lf_wl r28) (fun z30 s29 => ((z30 = false → (Q (-1) s29)) ∧ (z30 = true → (fm_221 (fun z32 s31 => ((z32 = false → (Q (-1) s31)) ∧ (z32 = true → (Q 42 s31)))) s29)))) s27)) s)) ∧ (a1 = 42 → (fm_204 101 108 115 101 (fun r34 s33 => (fm_207 (lf_wl r34) (fun z36 s35 => ((z36 = false → (Q (-1) s35)) ∧ (z36 = true → (Q 43 s35)))) s33)) s)) ∧ (a1 = 44 → (fm_206 105 110 (fun r38 s37 => (fm_207 (lf_wl r38) (fun z40 s39 => ((z40 = false → (Q (-1) s39)) ∧ (z40 = true → (Q 45 s39)))) s37)) s)))
set_option maxRecDepth 100000 in
theorem gm_226 {L : Nat} {xs : Nat → Int32} {d : Nat} {a1 : Int} {Q : Int → lf_Z → Prop} {s : lf_Z} (h : fm_226 a1 Q s) : lf_M (px_ro L xs) (d + 4) 226 [.ref 95, .int (Int32.ofInt a1)] s (lf_qi Q) := by
  unfold fm_226 at h
  show lf_E (px_ro L xs) (d + 4) 226 0 [(0, .ref 95), (1, .int (Int32.ofInt a1))] [] s _
  refine lf_seg 1 (pc' := 1) (lv' := [(0, .ref 95), (1, .int (Int32.ofInt a1))]) (st' := [.int (Int32.ofInt a1)]) rfl ?_
  obtain ⟨o21, h⟩ := h
  refine lf_lsw 147 [((-1), 145), (40, 52), (41, 67), (42, 99), (44, 124)] rfl rfl (by decide) (by decide) (by decide) o21 (fun c => ?_) (lf_tab1 (fun c => ?_) (lf_tab1 (fun c => ?_) (lf_tab1 (fun c => ?_) (lf_tab1 (fun c => ?_) (lf_tab1 (fun c => ?_) lf_tab0)))))
  · have h := h.1 c
    refine lf_seg 1 (pc' := 148) (lv' := [(0, .ref 95), (1, .int (Int32.ofInt a1))]) (st' := [.ref 95]) rfl ?_
    refine lf_bipush 150 101 rfl rfl (by decide) (by decide) ?_
    refine lf_bipush 152 110 rfl rfl (by decide) (by decide) ?_
    refine lf_bipush 154 100 rfl rfl (by decide) (by decide) ?_
    refine lf_callL 157 rfl rfl rfl rfl (gm_205 h) (fun r23 s22 h => ?_)
    refine lf_wtL ?_
    refine lf_callZ 160 rfl rfl rfl rfl (gm_207 h) (fun z25 s24 h => ?_)
    refine lf_ifz_eq 167 163 rfl rfl rfl (fun c => ?_) (fun c => ?_)
    · have h := h.1 c
      refine lf_seg 1 (pc' := 168) (lv' := [(0, .ref 95), (1, .int (Int32.ofInt a1))]) (st' := [.int (Int32.ofInt (-1))]) rfl ?_
      exact lf_retI rfl rfl h
    · have h := h.2 c
      refine lf_seg 2 (pc' := 168) (lv' := [(0, .ref 95), (1, .int (Int32.ofInt a1))]) (st' := [.int (Int32.ofInt 0)]) rfl ?_
      exact lf_retI rfl rfl h
  · have h := h.2.1 c
    refine lf_seg 1 (pc' := 146) (lv' := [(0, .ref 95), (1, .int (Int32.ofInt a1))]) (st' := [.int (Int32.ofInt (-1))]) rfl ?_
    exact lf_retI rfl rfl h
  · have h := h.2.2.1 c
    refine lf_seg 1 (pc' := 53) (lv' := [(0, .ref 95), (1, .int (Int32.ofInt a1))]) (st' := [.ref 95]) rfl ?_
    refine lf_getI 56 9 rfl rfl rfl rfl rfl rfl rfl ?_
    refine lf_bipush 58 41 rfl rfl (by decide) (by decide) ?_
    obtain ⟨o26, h⟩ := h
    refine lf_icmp_ne 65 61 rfl rfl rfl o26 ⟨by decide, by decide⟩ (fun c => ?_) (fun c => ?_)
    · have h := h.1 c
      refine lf_seg 1 (pc' := 66) (lv' := [(0, .ref 95), (1, .int (Int32.ofInt a1))]) (st' := [.int (Int32.ofInt (-1))]) rfl ?_
      exact lf_retI rfl rfl h
    · have h := h.2 c
      refine lf_seg 2 (pc' := 66) (lv' := [(0, .ref 95), (1, .int (Int32.ofInt a1))]) (st' := [.int (Int32.ofInt 0)]) rfl ?_
      exact lf_retI rfl rfl h
  · have h := h.2.2.2.1 c
    refine lf_seg 1 (pc' := 68) (lv' := [(0, .ref 95), (1, .int (Int32.ofInt a1))]) (st' := [.ref 95]) rfl ?_
    refine lf_bipush 70 116 rfl rfl (by decide) (by decide) ?_
    refine lf_bipush 72 104 rfl rfl (by decide) (by decide) ?_
    refine lf_bipush 74 101 rfl rfl (by decide) (by decide) ?_
    refine lf_bipush 76 110 rfl rfl (by decide) (by decide) ?_
    refine lf_callL 79 rfl rfl rfl rfl (gm_204 h) (fun r28 s27 h => ?_)
    refine lf_wtL ?_
    refine lf_callZ 82 rfl rfl rfl rfl (gm_207 h) (fun z30 s29 h => ?_)
    refine lf_ifz_eq 97 85 rfl rfl rfl (fun c => ?_) (fun c => ?_)
    · have h := h.1 c
      refine lf_seg 1 (pc' := 98) (lv' := [(0, .ref 95), (1, .int (Int32.ofInt a1))]) (st' := [.int (Int32.ofInt (-1))]) rfl ?_
      exact lf_retI rfl rfl h
    · have h := h.2 c
      refine lf_seg 1 (pc' := 86) (lv' := [(0, .ref 95), (1, .int (Int32.ofInt a1))]) (st' := [.ref 95]) rfl ?_
      refine lf_callZ 89 rfl rfl rfl rfl (gm_221 h) (fun z32 s31 h => ?_)
      refine lf_ifz_eq 97 92 rfl rfl rfl (fun c => ?_) (fun c => ?_)
      · have h := h.1 c
        refine lf_seg 1 (pc' := 98) (lv' := [(0, .ref 95), (1, .int (Int32.ofInt a1))]) (st' := [.int (Int32.ofInt (-1))]) rfl ?_
        exact lf_retI rfl rfl h
      · have h := h.2 c
        refine lf_bipush 94 42 rfl rfl (by decide) (by decide) ?_
        refine lf_seg 1 (pc' := 98) (lv' := [(0, .ref 95), (1, .int (Int32.ofInt a1))]) (st' := [.int (Int32.ofInt 42)]) rfl ?_
        exact lf_retI rfl rfl h
  · have h := h.2.2.2.2.1 c
    refine lf_seg 1 (pc' := 100) (lv' := [(0, .ref 95), (1, .int (Int32.ofInt a1))]) (st' := [.ref 95]) rfl ?_
    refine lf_bipush 102 101 rfl rfl (by decide) (by decide) ?_
    refine lf_bipush 104 108 rfl rfl (by decide) (by decide) ?_
    refine lf_bipush 106 115 rfl rfl (by decide) (by decide) ?_
    refine lf_bipush 108 101 rfl rfl (by decide) (by decide) ?_
    refine lf_callL 111 rfl rfl rfl rfl (gm_204 h) (fun r34 s33 h => ?_)
    refine lf_wtL ?_
    refine lf_callZ 114 rfl rfl rfl rfl (gm_207 h) (fun z36 s35 h => ?_)
    refine lf_ifz_eq 122 117 rfl rfl rfl (fun c => ?_) (fun c => ?_)
    · have h := h.1 c
      refine lf_seg 1 (pc' := 123) (lv' := [(0, .ref 95), (1, .int (Int32.ofInt a1))]) (st' := [.int (Int32.ofInt (-1))]) rfl ?_
      exact lf_retI rfl rfl h
    · have h := h.2 c
      refine lf_bipush 119 43 rfl rfl (by decide) (by decide) ?_
      refine lf_seg 1 (pc' := 123) (lv' := [(0, .ref 95), (1, .int (Int32.ofInt a1))]) (st' := [.int (Int32.ofInt 43)]) rfl ?_
      exact lf_retI rfl rfl h
  · have h := h.2.2.2.2.2 c
    refine lf_seg 1 (pc' := 125) (lv' := [(0, .ref 95), (1, .int (Int32.ofInt a1))]) (st' := [.ref 95]) rfl ?_
    refine lf_bipush 127 105 rfl rfl (by decide) (by decide) ?_
    refine lf_bipush 129 110 rfl rfl (by decide) (by decide) ?_
    refine lf_callL 132 rfl rfl rfl rfl (gm_206 h) (fun r38 s37 h => ?_)
    refine lf_wtL ?_
    refine lf_callZ 135 rfl rfl rfl rfl (gm_207 h) (fun z40 s39 h => ?_)
    refine lf_ifz_eq 143 138 rfl rfl rfl (fun c => ?_) (fun c => ?_)
    · have h := h.1 c
      refine lf_seg 1 (pc' := 144) (lv' := [(0, .ref 95), (1, .int (Int32.ofInt a1))]) (st' := [.int (Int32.ofInt (-1))]) rfl ?_
      exact lf_retI rfl rfl h
    · have h := h.2 c
      refine lf_bipush 140 45 rfl rfl (by decide) (by decide) ?_
      refine lf_seg 1 (pc' := 144) (lv' := [(0, .ref 95), (1, .int (Int32.ofInt a1))]) (st' := [.int (Int32.ofInt 45)]) rfl ?_
      exact lf_retI rfl rfl h
-- fm_228 Model.shut 95 i
def fm_228_p32 (Q : lf_Z → Prop) (x1 : Int) (s : lf_Z) : Prop := lf_R x1 ∧ ((x1 ≠ 45 → (Q s)) ∧ (¬ (x1 ≠ 45) → ((0 ≤ (s.1 95 21) - 1 ∧ (s.1 95 21) - 1 < 10) ∧ ((0 ≤ s.1 101 ((s.1 95 21) - 1) ∧ s.1 101 ((s.1 95 21) - 1) < 26) ∧ (Q (lf_up (lf_up s.1 95 21 ((s.1 95 21) - 1)) 103 (s.1 101 ((s.1 95 21) - 1)) (s.1 102 ((s.1 95 21) - 1)), s.2.1, s.2.2))))))
set_option maxRecDepth 100000 in
theorem gm_228_p32 {L : Nat} {xs : Nat → Int32} {d : Nat} {Q : lf_Z → Prop} {x1 : Int} {s : lf_Z} (h : fm_228_p32 Q x1 s) : lf_E (px_ro L xs) (d + 2) 228 32 [(0, .ref 95), (1, .int (Int32.ofInt x1))] [] s (lf_qv Q) := by
  unfold fm_228_p32 at h
  refine lf_seg 1 (pc' := 33) (lv' := [(0, .ref 95), (1, .int (Int32.ofInt x1))]) (st' := [.int (Int32.ofInt x1)]) rfl ?_
  refine lf_bipush 35 45 rfl rfl (by decide) (by decide) ?_
  obtain ⟨o22, h⟩ := h
  refine lf_icmp_ne 71 38 rfl rfl rfl o22 ⟨by decide, by decide⟩ (fun c => ?_) (fun c => ?_)
  · have h := h.1 c
    exact lf_retV rfl rfl h
  · have h := h.2 c
    refine lf_seg 2 (pc' := 40) (lv' := [(0, .ref 95), (1, .int (Int32.ofInt x1))]) (st' := [.ref 95, .ref 95]) rfl ?_
    refine lf_getI 43 21 rfl rfl rfl rfl rfl rfl rfl ?_
    refine lf_seg 1 (pc' := 44) (lv' := [(0, .ref 95), (1, .int (Int32.ofInt x1))]) (st' := [.int (Int32.ofInt 1), .int (Int32.ofInt (s.1 95 21)), .ref 95]) rfl ?_
    refine lf_isub 45 rfl rfl ?_
    refine lf_putI 48 21 rfl rfl rfl rfl rfl rfl rfl rfl ?_
    refine lf_as (lf_up s.1 95 21 ((s.1 95 21) - 1), s.2.1, s.2.2) rfl ?_
    refine lf_seg 5 (pc' := 57) (lv' := [(0, .ref 95), (1, .int (Int32.ofInt x1))]) (st' := [.ref 95, .ref 101, .ref 103]) rfl ?_
    refine lf_getI 60 21 rfl rfl rfl rfl rfl rfl rfl ?_
    refine lf_seg 0 (pc' := 60) (lv' := [(0, .ref 95), (1, .int (Int32.ofInt x1))]) (st' := [.int (Int32.ofInt ((s.1 95 21) - 1)), .ref 101, .ref 103]) rfl ?_
    obtain ⟨o23, h⟩ := h
    refine lf_iald 61 10 rfl rfl rfl rfl rfl rfl o23 ?_
    refine lf_seg 3 (pc' := 66) (lv' := [(0, .ref 95), (1, .int (Int32.ofInt x1))]) (st' := [.ref 95, .ref 102, .int (Int32.ofInt (s.1 101 ((s.1 95 21) - 1))), .ref 103]) rfl ?_
    refine lf_getI 69 21 rfl rfl rfl rfl rfl rfl rfl ?_
    refine lf_seg 0 (pc' := 69) (lv' := [(0, .ref 95), (1, .int (Int32.ofInt x1))]) (st' := [.int (Int32.ofInt ((s.1 95 21) - 1)), .ref 102, .int (Int32.ofInt (s.1 101 ((s.1 95 21) - 1))), .ref 103]) rfl ?_
    refine lf_iald 70 10 rfl rfl rfl rfl rfl rfl o23 ?_
    refine lf_seg 0 (pc' := 70) (lv' := [(0, .ref 95), (1, .int (Int32.ofInt x1))]) (st' := [.int (Int32.ofInt (s.1 102 ((s.1 95 21) - 1))), .int (Int32.ofInt (s.1 101 ((s.1 95 21) - 1))), .ref 103]) rfl ?_
    obtain ⟨o24, h⟩ := h
    refine lf_iast 71 26 rfl rfl rfl rfl rfl rfl o24 ?_
    refine lf_as (lf_up (lf_up s.1 95 21 ((s.1 95 21) - 1)) 103 (s.1 101 ((s.1 95 21) - 1)) (s.1 102 ((s.1 95 21) - 1)), s.2.1, s.2.2) rfl ?_
    exact lf_retV rfl rfl h
def fm_228 (a1 : Int) (Q : lf_Z → Prop) (s : lf_Z) : Prop := lf_R a1 ∧ ((a1 ≠ 43 → (fm_228_p32 Q a1 (lf_up (lf_up s.1 95 19 ((s.1 95 19) - 1)) 95 20 ((s.1 95 20) - 1), s.2.1, s.2.2))) ∧ (¬ (a1 ≠ 43) → (fm_225 2 0 (fun s25 => (fm_228_p32 Q a1 s25)) (lf_up (lf_up s.1 95 19 ((s.1 95 19) - 1)) 95 20 ((s.1 95 20) - 1), s.2.1, s.2.2))))
set_option maxRecDepth 100000 in
theorem gm_228 {L : Nat} {xs : Nat → Int32} {d : Nat} {a1 : Int} {Q : lf_Z → Prop} {s : lf_Z} (h : fm_228 a1 Q s) : lf_M (px_ro L xs) (d + 2) 228 [.ref 95, .int (Int32.ofInt a1)] s (lf_qv Q) := by
  unfold fm_228 at h
  show lf_E (px_ro L xs) (d + 2) 228 0 [(0, .ref 95), (1, .int (Int32.ofInt a1))] [] s _
  refine lf_seg 2 (pc' := 2) (lv' := [(0, .ref 95), (1, .int (Int32.ofInt a1))]) (st' := [.ref 95, .ref 95]) rfl ?_
  refine lf_getI 5 19 rfl rfl rfl rfl rfl rfl rfl ?_
  refine lf_seg 1 (pc' := 6) (lv' := [(0, .ref 95), (1, .int (Int32.ofInt a1))]) (st' := [.int (Int32.ofInt 1), .int (Int32.ofInt (s.1 95 19)), .ref 95]) rfl ?_
  refine lf_isub 7 rfl rfl ?_
  refine lf_putI 10 19 rfl rfl rfl rfl rfl rfl rfl rfl ?_
  refine lf_as (lf_up s.1 95 19 ((s.1 95 19) - 1), s.2.1, s.2.2) rfl ?_
  refine lf_seg 2 (pc' := 12) (lv' := [(0, .ref 95), (1, .int (Int32.ofInt a1))]) (st' := [.ref 95, .ref 95]) rfl ?_
  refine lf_getI 15 20 rfl rfl rfl rfl rfl rfl rfl ?_
  refine lf_seg 1 (pc' := 16) (lv' := [(0, .ref 95), (1, .int (Int32.ofInt a1))]) (st' := [.int (Int32.ofInt 1), .int (Int32.ofInt (s.1 95 20)), .ref 95]) rfl ?_
  refine lf_isub 17 rfl rfl ?_
  refine lf_putI 20 20 rfl rfl rfl rfl rfl rfl rfl rfl ?_
  refine lf_as (lf_up (lf_up s.1 95 19 ((s.1 95 19) - 1)) 95 20 ((s.1 95 20) - 1), s.2.1, s.2.2) rfl ?_
  refine lf_seg 1 (pc' := 21) (lv' := [(0, .ref 95), (1, .int (Int32.ofInt a1))]) (st' := [.int (Int32.ofInt a1)]) rfl ?_
  refine lf_bipush 23 43 rfl rfl (by decide) (by decide) ?_
  obtain ⟨o21, h⟩ := h
  refine lf_icmp_ne 32 26 rfl rfl rfl o21 ⟨by decide, by decide⟩ (fun c => ?_) (fun c => ?_)
  · have h := h.1 c
    refine lf_sub (l := [(0, .ref 95), (1, .int (Int32.ofInt a1))]) (lf_sb1 rfl (lf_sb1 rfl lf_sb0)) ?_
    exact gm_228_p32 h
  · have h := h.2 c
    refine lf_seg 3 (pc' := 29) (lv' := [(0, .ref 95), (1, .int (Int32.ofInt a1))]) (st' := [.int (Int32.ofInt 0), .int (Int32.ofInt 2), .ref 95]) rfl ?_
    refine lf_callV 32 rfl rfl rfl rfl (gm_225 h) (fun s25 h => ?_)
    refine lf_sub (l := [(0, .ref 95), (1, .int (Int32.ofInt a1))]) (lf_sb1 rfl (lf_sb1 rfl lf_sb0)) ?_
    exact gm_228_p32 h
-- fm_227 Model.bind 95
def fm_227 (Q : lf_Z → Prop) (s : lf_Z) : Prop := (0 ≤ (s.1 95 21) - 1 ∧ (s.1 95 21) - 1 < 10) ∧ ((0 ≤ s.1 101 ((s.1 95 21) - 1) ∧ s.1 101 ((s.1 95 21) - 1) < 26) ∧ (fm_225 30 (s.1 95 22) (fun s23 => (Q (lf_up s23.1 95 22 ((s23.1 95 22) + 1), s23.2.1, s23.2.2))) (lf_up (lf_up s.1 102 ((s.1 95 21) - 1) (s.1 103 (s.1 101 ((s.1 95 21) - 1)))) 103 (s.1 101 ((s.1 95 21) - 1)) (s.1 95 22), s.2.1, s.2.2)))
set_option maxRecDepth 100000 in
theorem gm_227 {L : Nat} {xs : Nat → Int32} {d : Nat} {Q : lf_Z → Prop} {s : lf_Z} (h : fm_227 Q s) : lf_M (px_ro L xs) (d + 2) 227 [.ref 95] s (lf_qv Q) := by
  unfold fm_227 at h
  show lf_E (px_ro L xs) (d + 2) 227 0 [(0, .ref 95)] [] s _
  refine lf_seg 3 (pc' := 5) (lv' := [(0, .ref 95)]) (st' := [.ref 95, .ref 101]) rfl ?_
  refine lf_getI 8 21 rfl rfl rfl rfl rfl rfl rfl ?_
  refine lf_seg 1 (pc' := 9) (lv' := [(0, .ref 95)]) (st' := [.int (Int32.ofInt 1), .int (Int32.ofInt (s.1 95 21)), .ref 101]) rfl ?_
  refine lf_isub 10 rfl rfl ?_
  obtain ⟨o21, h⟩ := h
  refine lf_iald 11 10 rfl rfl rfl rfl rfl rfl o21 ?_
  refine lf_seg 4 (pc' := 17) (lv' := [(1, .int (Int32.ofInt (s.1 101 ((s.1 95 21) - 1)))), (0, .ref 95)]) (st' := [.ref 95, .ref 102]) rfl ?_
  refine lf_getI 20 21 rfl rfl rfl rfl rfl rfl rfl ?_
  refine lf_seg 1 (pc' := 21) (lv' := [(1, .int (Int32.ofInt (s.1 101 ((s.1 95 21) - 1)))), (0, .ref 95)]) (st' := [.int (Int32.ofInt 1), .int (Int32.ofInt (s.1 95 21)), .ref 102]) rfl ?_
  refine lf_isub 22 rfl rfl ?_
  refine lf_seg 3 (pc' := 27) (lv' := [(1, .int (Int32.ofInt (s.1 101 ((s.1 95 21) - 1)))), (0, .ref 95)]) (st' := [.int (Int32.ofInt (s.1 101 ((s.1 95 21) - 1))), .ref 103, .int (Int32.ofInt ((s.1 95 21) - 1)), .ref 102]) rfl ?_
  obtain ⟨o22, h⟩ := h
  refine lf_iald 28 26 rfl rfl rfl rfl rfl rfl o22 ?_
  refine lf_iast 29 10 rfl rfl rfl rfl rfl rfl o21 ?_
  refine lf_as (lf_up s.1 102 ((s.1 95 21) - 1) (s.1 103 (s.1 101 ((s.1 95 21) - 1))), s.2.1, s.2.2) rfl ?_
  refine lf_seg 4 (pc' := 35) (lv' := [(1, .int (Int32.ofInt (s.1 101 ((s.1 95 21) - 1)))), (0, .ref 95)]) (st' := [.ref 95, .int (Int32.ofInt (s.1 101 ((s.1 95 21) - 1))), .ref 103]) rfl ?_
  refine lf_getI 38 22 rfl rfl rfl rfl rfl rfl rfl ?_
  refine lf_seg 0 (pc' := 38) (lv' := [(1, .int (Int32.ofInt (s.1 101 ((s.1 95 21) - 1)))), (0, .ref 95)]) (st' := [.int (Int32.ofInt (s.1 95 22)), .int (Int32.ofInt (s.1 101 ((s.1 95 21) - 1))), .ref 103]) rfl ?_
  refine lf_iast 39 26 rfl rfl rfl rfl rfl rfl o22 ?_
  refine lf_as (lf_up (lf_up s.1 102 ((s.1 95 21) - 1) (s.1 103 (s.1 101 ((s.1 95 21) - 1)))) 103 (s.1 101 ((s.1 95 21) - 1)) (s.1 95 22), s.2.1, s.2.2) rfl ?_
  refine lf_seg 1 (pc' := 40) (lv' := [(1, .int (Int32.ofInt (s.1 101 ((s.1 95 21) - 1)))), (0, .ref 95)]) (st' := [.ref 95]) rfl ?_
  refine lf_bipush 42 30 rfl rfl (by decide) (by decide) ?_
  refine lf_seg 1 (pc' := 43) (lv' := [(1, .int (Int32.ofInt (s.1 101 ((s.1 95 21) - 1)))), (0, .ref 95)]) (st' := [.ref 95, .int (Int32.ofInt 30), .ref 95]) rfl ?_
  refine lf_getI 46 22 rfl rfl rfl rfl rfl rfl rfl ?_
  refine lf_seg 0 (pc' := 46) (lv' := [(1, .int (Int32.ofInt (s.1 101 ((s.1 95 21) - 1)))), (0, .ref 95)]) (st' := [.int (Int32.ofInt (s.1 95 22)), .int (Int32.ofInt 30), .ref 95]) rfl ?_
  refine lf_callV 49 rfl rfl rfl rfl (gm_225 h) (fun s23 h => ?_)
  refine lf_seg 2 (pc' := 51) (lv' := [(1, .int (Int32.ofInt (s.1 101 ((s.1 95 21) - 1)))), (0, .ref 95)]) (st' := [.ref 95, .ref 95]) rfl ?_
  refine lf_getI 54 22 rfl rfl rfl rfl rfl rfl rfl ?_
  refine lf_seg 1 (pc' := 55) (lv' := [(1, .int (Int32.ofInt (s.1 101 ((s.1 95 21) - 1)))), (0, .ref 95)]) (st' := [.int (Int32.ofInt 1), .int (Int32.ofInt (s23.1 95 22)), .ref 95]) rfl ?_
  refine lf_iadd 56 rfl rfl ?_
  refine lf_putI 59 22 rfl rfl rfl rfl rfl rfl rfl rfl ?_
  refine lf_as (lf_up s23.1 95 22 ((s23.1 95 22) + 1), s23.2.1, s23.2.2) rfl ?_
  exact lf_retV rfl rfl h
-- fm_217 Model.behindOne 95
def fm_217_p99 (Q : Bool → lf_Z → Prop) (s : lf_Z) : Prop := fm_197 (fun s36 => (Q true s36)) s
set_option maxRecDepth 100000 in
theorem gm_217_p99 {L : Nat} {xs : Nat → Int32} {d : Nat} {Q : Bool → lf_Z → Prop} {s : lf_Z} (h : fm_217_p99 Q s) : lf_E (px_ro L xs) (d + 5) 217 99 [(0, .ref 95)] [] s (lf_qz Q) := by
  unfold fm_217_p99 at h
  refine lf_seg 1 (pc' := 100) (lv' := [(0, .ref 95)]) (st' := [.ref 95]) rfl ?_
  refine lf_callV 103 rfl rfl rfl rfl (gm_197 h) (fun s36 h => ?_)
  refine lf_seg 2 (pc' := 122) (lv' := [(0, .ref 95)]) (st' := [.int (Int32.ofInt 1)]) rfl ?_
  exact lf_retZ true rfl rfl h
def fm_217 (Q : Bool → lf_Z → Prop) (s : lf_Z) : Prop := fm_218 (fun r22 s21 => (lf_R r22 ∧ ((r22 < 0 → (fm_219 (fun r25 s24 => (fm_226 r25 (fun r27 s26 => (lf_R r27 ∧ ((0 ≤ r27 → (fm_224 1 (fun s29 => ((r27 ≤ 0 → (fm_228 r25 (fun s30 => (fm_197 (fun s31 => (fm_224 7 (fun s32 => (Q true s32)) s31)) s30)) s29)) ∧ (¬ (r27 ≤ 0) → (fm_220 (fun r34 s33 => ((0 ≤ r34 ∧ r34 < 160) ∧ ((r27 ≠ 45 → (fm_217_p99 Q (lf_up (lf_up s33.1 100 r34 r27) 95 23 0, s33.2.1, s33.2.2))) ∧ (¬ (r27 ≠ 45) → (fm_227 (fun s37 => (fm_217_p99 Q s37)) (lf_up (lf_up s33.1 100 r34 r27) 95 23 0, s33.2.1, s33.2.2)))))) s29)))) s26)) ∧ (¬ (0 ≤ r27) → (Q false s26))))) s24)) s21)) ∧ (¬ (r22 < 0) → (fm_222 r22 (fun r39 s38 => (fm_224 r39 (fun s40 => ((0 ≤ s40.1 95 19 ∧ s40.1 95 19 < 160) ∧ (fm_197 (fun s42 => (Q true s42)) (lf_up (lf_up (lf_up s40.1 100 (s40.1 95 19) r22) 95 19 ((s40.1 95 19) + 1)) 95 23 0, s40.2.1, s40.2.2)))) s38)) s21))))) s
set_option maxRecDepth 100000 in
theorem gm_217 {L : Nat} {xs : Nat → Int32} {d : Nat} {Q : Bool → lf_Z → Prop} {s : lf_Z} (h : fm_217 Q s) : lf_M (px_ro L xs) (d + 5) 217 [.ref 95] s (lf_qz Q) := by
  unfold fm_217 at h
  show lf_E (px_ro L xs) (d + 5) 217 0 [(0, .ref 95)] [] s _
  refine lf_seg 1 (pc' := 1) (lv' := [(0, .ref 95)]) (st' := [.ref 95]) rfl ?_
  refine lf_callI 4 rfl rfl rfl rfl (gm_218 h) (fun r22 s21 h => ?_)
  refine lf_seg 2 (pc' := 6) (lv' := [(1, .int (Int32.ofInt r22)), (0, .ref 95)]) (st' := [.int (Int32.ofInt r22)]) rfl ?_
  obtain ⟨o23, h⟩ := h
  refine lf_if_lt 48 9 rfl rfl rfl o23 (fun c => ?_) (fun c => ?_)
  · have h := h.1 c
    refine lf_seg 1 (pc' := 49) (lv' := [(1, .int (Int32.ofInt r22)), (0, .ref 95)]) (st' := [.ref 95]) rfl ?_
    refine lf_callI 52 rfl rfl rfl rfl (gm_219 h) (fun r25 s24 h => ?_)
    refine lf_seg 3 (pc' := 55) (lv' := [(2, .int (Int32.ofInt r25)), (1, .int (Int32.ofInt r22)), (0, .ref 95)]) (st' := [.int (Int32.ofInt r25), .ref 95]) rfl ?_
    refine lf_callI 58 rfl rfl rfl rfl (gm_226 h) (fun r27 s26 h => ?_)
    refine lf_seg 2 (pc' := 60) (lv' := [(3, .int (Int32.ofInt r27)), (2, .int (Int32.ofInt r25)), (1, .int (Int32.ofInt r22)), (0, .ref 95)]) (st' := [.int (Int32.ofInt r27)]) rfl ?_
    obtain ⟨o28, h⟩ := h
    refine lf_if_ge 65 63 rfl rfl rfl o28 (fun c => ?_) (fun c => ?_)
    · have h := h.1 c
      refine lf_seg 2 (pc' := 67) (lv' := [(3, .int (Int32.ofInt r27)), (2, .int (Int32.ofInt r25)), (1, .int (Int32.ofInt r22)), (0, .ref 95)]) (st' := [.int (Int32.ofInt 1), .ref 95]) rfl ?_
      refine lf_callV 70 rfl rfl rfl rfl (gm_224 h) (fun s29 h => ?_)
      refine lf_seg 1 (pc' := 71) (lv' := [(3, .int (Int32.ofInt r27)), (2, .int (Int32.ofInt r25)), (1, .int (Int32.ofInt r22)), (0, .ref 95)]) (st' := [.int (Int32.ofInt r27)]) rfl ?_
      refine lf_if_le 106 74 rfl rfl rfl o28 (fun c => ?_) (fun c => ?_)
      · have h := h.1 c
        refine lf_seg 2 (pc' := 108) (lv' := [(3, .int (Int32.ofInt r27)), (2, .int (Int32.ofInt r25)), (1, .int (Int32.ofInt r22)), (0, .ref 95)]) (st' := [.int (Int32.ofInt r25), .ref 95]) rfl ?_
        refine lf_callV 111 rfl rfl rfl rfl (gm_228 h) (fun s30 h => ?_)
        refine lf_seg 1 (pc' := 112) (lv' := [(3, .int (Int32.ofInt r27)), (2, .int (Int32.ofInt r25)), (1, .int (Int32.ofInt r22)), (0, .ref 95)]) (st' := [.ref 95]) rfl ?_
        refine lf_callV 115 rfl rfl rfl rfl (gm_197 h) (fun s31 h => ?_)
        refine lf_seg 1 (pc' := 116) (lv' := [(3, .int (Int32.ofInt r27)), (2, .int (Int32.ofInt r25)), (1, .int (Int32.ofInt r22)), (0, .ref 95)]) (st' := [.ref 95]) rfl ?_
        refine lf_bipush 118 7 rfl rfl (by decide) (by decide) ?_
        refine lf_callV 121 rfl rfl rfl rfl (gm_224 h) (fun s32 h => ?_)
        refine lf_seg 1 (pc' := 122) (lv' := [(3, .int (Int32.ofInt r27)), (2, .int (Int32.ofInt r25)), (1, .int (Int32.ofInt r22)), (0, .ref 95)]) (st' := [.int (Int32.ofInt 1)]) rfl ?_
        exact lf_retZ true rfl rfl h
      · have h := h.2 c
        refine lf_seg 3 (pc' := 79) (lv' := [(3, .int (Int32.ofInt r27)), (2, .int (Int32.ofInt r25)), (1, .int (Int32.ofInt r22)), (0, .ref 95)]) (st' := [.ref 95, .ref 100]) rfl ?_
        refine lf_callI 82 rfl rfl rfl rfl (gm_220 h) (fun r34 s33 h => ?_)
        refine lf_seg 1 (pc' := 83) (lv' := [(3, .int (Int32.ofInt r27)), (2, .int (Int32.ofInt r25)), (1, .int (Int32.ofInt r22)), (0, .ref 95)]) (st' := [.int (Int32.ofInt r27), .int (Int32.ofInt r34), .ref 100]) rfl ?_
        obtain ⟨o35, h⟩ := h
        refine lf_iast 84 160 rfl rfl rfl rfl rfl rfl o35 ?_
        refine lf_as (lf_up s33.1 100 r34 r27, s33.2.1, s33.2.2) rfl ?_
        refine lf_seg 2 (pc' := 86) (lv' := [(3, .int (Int32.ofInt r27)), (2, .int (Int32.ofInt r25)), (1, .int (Int32.ofInt r22)), (0, .ref 95)]) (st' := [.int (Int32.ofInt 0), .ref 95]) rfl ?_
        refine lf_putZ 89 23 rfl rfl rfl rfl rfl rfl rfl rfl (Or.inl rfl) ?_
        refine lf_as (lf_up (lf_up s33.1 100 r34 r27) 95 23 0, s33.2.1, s33.2.2) rfl ?_
        refine lf_seg 1 (pc' := 90) (lv' := [(3, .int (Int32.ofInt r27)), (2, .int (Int32.ofInt r25)), (1, .int (Int32.ofInt r22)), (0, .ref 95)]) (st' := [.int (Int32.ofInt r27)]) rfl ?_
        refine lf_bipush 92 45 rfl rfl (by decide) (by decide) ?_
        refine lf_icmp_ne 99 95 rfl rfl rfl o28 ⟨by decide, by decide⟩ (fun c => ?_) (fun c => ?_)
        · have h := h.1 c
          refine lf_sub (l := [(0, .ref 95)]) (lf_sb1 rfl lf_sb0) ?_
          exact gm_217_p99 h
        · have h := h.2 c
          refine lf_seg 1 (pc' := 96) (lv' := [(3, .int (Int32.ofInt r27)), (2, .int (Int32.ofInt r25)), (1, .int (Int32.ofInt r22)), (0, .ref 95)]) (st' := [.ref 95]) rfl ?_
          refine lf_callV 99 rfl rfl rfl rfl (gm_227 h) (fun s37 h => ?_)
          refine lf_sub (l := [(0, .ref 95)]) (lf_sb1 rfl lf_sb0) ?_
          exact gm_217_p99 h
    · have h := h.2 c
      refine lf_seg 1 (pc' := 64) (lv' := [(3, .int (Int32.ofInt r27)), (2, .int (Int32.ofInt r25)), (1, .int (Int32.ofInt r22)), (0, .ref 95)]) (st' := [.int (Int32.ofInt 0)]) rfl ?_
      exact lf_retZ false rfl rfl h
  · have h := h.2 c
    refine lf_seg 2 (pc' := 11) (lv' := [(1, .int (Int32.ofInt r22)), (0, .ref 95)]) (st' := [.int (Int32.ofInt r22), .ref 95]) rfl ?_
    refine lf_callI 14 rfl rfl rfl rfl (gm_222 h) (fun r39 s38 h => ?_)
    refine lf_callV 17 rfl rfl rfl rfl (gm_224 h) (fun s40 h => ?_)
    refine lf_seg 3 (pc' := 22) (lv' := [(1, .int (Int32.ofInt r22)), (0, .ref 95)]) (st' := [.ref 95, .ref 100]) rfl ?_
    refine lf_getI 25 19 rfl rfl rfl rfl rfl rfl rfl ?_
    refine lf_seg 1 (pc' := 26) (lv' := [(1, .int (Int32.ofInt r22)), (0, .ref 95)]) (st' := [.int (Int32.ofInt r22), .int (Int32.ofInt (s40.1 95 19)), .ref 100]) rfl ?_
    obtain ⟨o41, h⟩ := h
    refine lf_iast 27 160 rfl rfl rfl rfl rfl rfl o41 ?_
    refine lf_as (lf_up s40.1 100 (s40.1 95 19) r22, s40.2.1, s40.2.2) rfl ?_
    refine lf_seg 2 (pc' := 29) (lv' := [(1, .int (Int32.ofInt r22)), (0, .ref 95)]) (st' := [.ref 95, .ref 95]) rfl ?_
    refine lf_getI 32 19 rfl rfl rfl rfl rfl rfl rfl ?_
    refine lf_seg 1 (pc' := 33) (lv' := [(1, .int (Int32.ofInt r22)), (0, .ref 95)]) (st' := [.int (Int32.ofInt 1), .int (Int32.ofInt (s40.1 95 19)), .ref 95]) rfl ?_
    refine lf_iadd 34 rfl rfl ?_
    refine lf_putI 37 19 rfl rfl rfl rfl rfl rfl rfl rfl ?_
    refine lf_as (lf_up (lf_up s40.1 100 (s40.1 95 19) r22) 95 19 ((s40.1 95 19) + 1), s40.2.1, s40.2.2) rfl ?_
    refine lf_seg 2 (pc' := 39) (lv' := [(1, .int (Int32.ofInt r22)), (0, .ref 95)]) (st' := [.int (Int32.ofInt 0), .ref 95]) rfl ?_
    refine lf_putZ 42 23 rfl rfl rfl rfl rfl rfl rfl rfl (Or.inl rfl) ?_
    refine lf_as (lf_up (lf_up (lf_up s40.1 100 (s40.1 95 19) r22) 95 19 ((s40.1 95 19) + 1)) 95 23 0, s40.2.1, s40.2.2) rfl ?_
    refine lf_seg 1 (pc' := 43) (lv' := [(1, .int (Int32.ofInt r22)), (0, .ref 95)]) (st' := [.ref 95]) rfl ?_
    refine lf_callV 46 rfl rfl rfl rfl (gm_197 h) (fun s42 h => ?_)
    refine lf_seg 1 (pc' := 47) (lv' := [(1, .int (Int32.ofInt r22)), (0, .ref 95)]) (st' := [.int (Int32.ofInt 1)]) rfl ?_
    exact lf_retZ true rfl rfl h
-- fm_216 Model.summed 95
def fm_216_p46 (Q : Int → lf_Z → Prop) (X46 : lf_Z → Prop) (s : lf_Z) : Prop := lf_R (s.1 95 23) ∧ ((s.1 95 23 = 0 → (fm_229 (fun r24 s23 => (lf_R r24 ∧ ((r24 = 0 → (X46 s23)) ∧ (¬ (r24 = 0) → (Q r24 s23))))) s)) ∧ (¬ (s.1 95 23 = 0) → (fm_217 (fun z27 s26 => ((z27 = false → (fm_219 (fun r29 s28 => (lf_R r29 ∧ ((r29 < 0 → (fm_224 1 (fun s31 => (Q 0 s31)) s28)) ∧ (¬ (r29 < 0) → (Q 1 s28))))) s26)) ∧ (z27 = true → (X46 s26)))) s)))
def fm_216_p46L (Q : Int → lf_Z → Prop) (s : lf_Z) : Prop := ∀ X46 : lf_Z → Prop, (∀ (s : lf_Z), fm_216_p46 Q X46 s → X46 s) → X46 s
set_option maxRecDepth 100000 in
theorem gm_216_p46 {L : Nat} {xs : Nat → Int32} {d : Nat} {Q : Int → lf_Z → Prop} {s : lf_Z} {X46 : lf_Z → Prop} (hX46 : ∀ s, X46 s → lf_E (px_ro L xs) (d + 8) 216 46 [(0, .ref 95)] [] s (lf_qi Q)) (h : fm_216_p46 Q X46 s) : lf_E (px_ro L xs) (d + 8) 216 46 [(0, .ref 95)] [] s (lf_qi Q) := by
  unfold fm_216_p46 at h
  refine lf_seg 1 (pc' := 47) (lv' := [(0, .ref 95)]) (st' := [.ref 95]) rfl ?_
  refine lf_getZ 50 23 rfl rfl rfl rfl rfl rfl rfl ?_
  obtain ⟨o22, h⟩ := h
  refine lf_if_eq 79 53 rfl rfl rfl o22 (fun c => ?_) (fun c => ?_)
  · have h := h.1 c
    refine lf_seg 1 (pc' := 80) (lv' := [(0, .ref 95)]) (st' := [.ref 95]) rfl ?_
    refine lf_callI 83 rfl rfl rfl rfl (gm_229 h) (fun r24 s23 h => ?_)
    refine lf_seg 2 (pc' := 85) (lv' := [(1, .int (Int32.ofInt r24)), (0, .ref 95)]) (st' := [.int (Int32.ofInt r24)]) rfl ?_
    obtain ⟨o25, h⟩ := h
    refine lf_if_eq 90 88 rfl rfl rfl o25 (fun c => ?_) (fun c => ?_)
    · have h := h.1 c
      refine lf_seg 1 (pc' := 46) (lv' := [(1, .int (Int32.ofInt r24)), (0, .ref 95)]) (st' := []) rfl ?_
      refine lf_sub (l := [(0, .ref 95)]) (lf_sb1 rfl lf_sb0) ?_
      exact hX46 _ h
    · have h := h.2 c
      refine lf_seg 1 (pc' := 89) (lv' := [(1, .int (Int32.ofInt r24)), (0, .ref 95)]) (st' := [.int (Int32.ofInt r24)]) rfl ?_
      exact lf_retI rfl rfl h
  · have h := h.2 c
    refine lf_seg 1 (pc' := 54) (lv' := [(0, .ref 95)]) (st' := [.ref 95]) rfl ?_
    refine lf_callZ 57 rfl rfl rfl rfl (gm_217 h) (fun z27 s26 h => ?_)
    refine lf_ifz_eq 63 60 rfl rfl rfl (fun c => ?_) (fun c => ?_)
    · have h := h.1 c
      refine lf_seg 1 (pc' := 64) (lv' := [(0, .ref 95)]) (st' := [.ref 95]) rfl ?_
      refine lf_callI 67 rfl rfl rfl rfl (gm_219 h) (fun r29 s28 h => ?_)
      obtain ⟨o30, h⟩ := h
      refine lf_if_lt 72 70 rfl rfl rfl o30 (fun c => ?_) (fun c => ?_)
      · have h := h.1 c
        refine lf_seg 2 (pc' := 74) (lv' := [(0, .ref 95)]) (st' := [.int (Int32.ofInt 1), .ref 95]) rfl ?_
        refine lf_callV 77 rfl rfl rfl rfl (gm_224 h) (fun s31 h => ?_)
        refine lf_seg 1 (pc' := 78) (lv' := [(0, .ref 95)]) (st' := [.int (Int32.ofInt 0)]) rfl ?_
        exact lf_retI rfl rfl h
      · have h := h.2 c
        refine lf_seg 1 (pc' := 71) (lv' := [(0, .ref 95)]) (st' := [.int (Int32.ofInt 1)]) rfl ?_
        exact lf_retI rfl rfl h
    · have h := h.2 c
      refine lf_seg 1 (pc' := 46) (lv' := [(0, .ref 95)]) (st' := []) rfl ?_
      refine lf_sub (l := [(0, .ref 95)]) (lf_sb1 rfl lf_sb0) ?_
      exact hX46 _ h
theorem gm_216_p46L {L : Nat} {xs : Nat → Int32} {d : Nat} {Q : Int → lf_Z → Prop} {s : lf_Z} (h : fm_216_p46L Q s) : lf_E (px_ro L xs) (d + 8) 216 46 [(0, .ref 95)] [] s (lf_qi Q) :=
  h (fun s => lf_E (px_ro L xs) (d + 8) 216 46 [(0, .ref 95)] [] s (lf_qi Q)) (fun s hb => gm_216_p46 (fun _ h => h) hb)
def fm_216_p22 (Q : Int → lf_Z → Prop) (X22 : Int → lf_Z → Prop) (x1 : Int) (s : lf_Z) : Prop := lf_R x1 ∧ ((26 ≤ x1 → (fm_216_p46L Q (lf_up s.1 95 23 0, s.2.1, s.2.2))) ∧ (¬ (26 ≤ x1) → ((0 ≤ x1 ∧ x1 < 26) ∧ (X22 (x1 + 1) (lf_up s.1 103 x1 (-1), s.2.1, s.2.2)))))
def fm_216_p22L (Q : Int → lf_Z → Prop) (x1 : Int) (s : lf_Z) : Prop := ∀ X22 : Int → lf_Z → Prop, (∀ (x1 : Int) (s : lf_Z), fm_216_p22 Q X22 x1 s → X22 x1 s) → X22 x1 s
set_option maxRecDepth 100000 in
theorem gm_216_p22 {L : Nat} {xs : Nat → Int32} {d : Nat} {Q : Int → lf_Z → Prop} {x1 : Int} {s : lf_Z} {X22 : Int → lf_Z → Prop} (hX22 : ∀ x1 s, X22 x1 s → lf_E (px_ro L xs) (d + 8) 216 22 [(0, .ref 95), (1, .int (Int32.ofInt x1))] [] s (lf_qi Q)) (h : fm_216_p22 Q X22 x1 s) : lf_E (px_ro L xs) (d + 8) 216 22 [(0, .ref 95), (1, .int (Int32.ofInt x1))] [] s (lf_qi Q) := by
  unfold fm_216_p22 at h
  refine lf_seg 1 (pc' := 23) (lv' := [(0, .ref 95), (1, .int (Int32.ofInt x1))]) (st' := [.int (Int32.ofInt x1)]) rfl ?_
  refine lf_bipush 25 26 rfl rfl (by decide) (by decide) ?_
  obtain ⟨o21, h⟩ := h
  refine lf_icmp_ge 41 28 rfl rfl rfl o21 ⟨by decide, by decide⟩ (fun c => ?_) (fun c => ?_)
  · have h := h.1 c
    refine lf_seg 2 (pc' := 43) (lv' := [(0, .ref 95), (1, .int (Int32.ofInt x1))]) (st' := [.int (Int32.ofInt 0), .ref 95]) rfl ?_
    refine lf_putZ 46 23 rfl rfl rfl rfl rfl rfl rfl rfl (Or.inl rfl) ?_
    refine lf_as (lf_up s.1 95 23 0, s.2.1, s.2.2) rfl ?_
    refine lf_sub (l := [(0, .ref 95)]) (lf_sb1 rfl lf_sb0) ?_
    exact gm_216_p46L h
  · have h := h.2 c
    refine lf_seg 4 (pc' := 34) (lv' := [(0, .ref 95), (1, .int (Int32.ofInt x1))]) (st' := [.int (Int32.ofInt (-1)), .int (Int32.ofInt x1), .ref 103]) rfl ?_
    obtain ⟨o32, h⟩ := h
    refine lf_iast 35 26 rfl rfl rfl rfl rfl rfl o32 ?_
    refine lf_as (lf_up s.1 103 x1 (-1), s.2.1, s.2.2) rfl ?_
    refine lf_iinc 38 rfl rfl rfl rfl ?_
    refine lf_seg 1 (pc' := 22) (lv' := [(1, .int (Int32.ofInt (x1 + 1))), (0, .ref 95)]) (st' := []) rfl ?_
    refine lf_sub (l := [(0, .ref 95), (1, .int (Int32.ofInt (x1 + 1)))]) (lf_sb1 rfl (lf_sb1 rfl lf_sb0)) ?_
    exact hX22 _ _ h
theorem gm_216_p22L {L : Nat} {xs : Nat → Int32} {d : Nat} {Q : Int → lf_Z → Prop} {x1 : Int} {s : lf_Z} (h : fm_216_p22L Q x1 s) : lf_E (px_ro L xs) (d + 8) 216 22 [(0, .ref 95), (1, .int (Int32.ofInt x1))] [] s (lf_qi Q) :=
  h (fun x1 s => lf_E (px_ro L xs) (d + 8) 216 22 [(0, .ref 95), (1, .int (Int32.ofInt x1))] [] s (lf_qi Q)) (fun x1 s hb => gm_216_p22 (fun _ _ h => h) hb)
def fm_216 (Q : Int → lf_Z → Prop) (s : lf_Z) : Prop := fm_216_p22L Q 0 (lf_up (lf_up (lf_up (lf_up s.1 95 19 0) 95 20 0) 95 21 0) 95 22 0, s.2.1, s.2.2)
set_option maxRecDepth 100000 in
theorem gm_216 {L : Nat} {xs : Nat → Int32} {d : Nat} {Q : Int → lf_Z → Prop} {s : lf_Z} (h : fm_216 Q s) : lf_M (px_ro L xs) (d + 8) 216 [.ref 95] s (lf_qi Q) := by
  unfold fm_216 at h
  show lf_E (px_ro L xs) (d + 8) 216 0 [(0, .ref 95)] [] s _
  refine lf_seg 2 (pc' := 2) (lv' := [(0, .ref 95)]) (st' := [.int (Int32.ofInt 0), .ref 95]) rfl ?_
  refine lf_putI 5 19 rfl rfl rfl rfl rfl rfl rfl rfl ?_
  refine lf_as (lf_up s.1 95 19 0, s.2.1, s.2.2) rfl ?_
  refine lf_seg 2 (pc' := 7) (lv' := [(0, .ref 95)]) (st' := [.int (Int32.ofInt 0), .ref 95]) rfl ?_
  refine lf_putI 10 20 rfl rfl rfl rfl rfl rfl rfl rfl ?_
  refine lf_as (lf_up (lf_up s.1 95 19 0) 95 20 0, s.2.1, s.2.2) rfl ?_
  refine lf_seg 2 (pc' := 12) (lv' := [(0, .ref 95)]) (st' := [.int (Int32.ofInt 0), .ref 95]) rfl ?_
  refine lf_putI 15 21 rfl rfl rfl rfl rfl rfl rfl rfl ?_
  refine lf_as (lf_up (lf_up (lf_up s.1 95 19 0) 95 20 0) 95 21 0, s.2.1, s.2.2) rfl ?_
  refine lf_seg 2 (pc' := 17) (lv' := [(0, .ref 95)]) (st' := [.int (Int32.ofInt 0), .ref 95]) rfl ?_
  refine lf_putI 20 22 rfl rfl rfl rfl rfl rfl rfl rfl ?_
  refine lf_as (lf_up (lf_up (lf_up (lf_up s.1 95 19 0) 95 20 0) 95 21 0) 95 22 0, s.2.1, s.2.2) rfl ?_
  refine lf_seg 2 (pc' := 22) (lv' := [(1, .int (Int32.ofInt 0)), (0, .ref 95)]) (st' := []) rfl ?_
  refine lf_sub (l := [(0, .ref 95), (1, .int (Int32.ofInt 0))]) (lf_sb1 rfl (lf_sb1 rfl lf_sb0)) ?_
  exact gm_216_p22L h
-- fm_215 Model.lawClause 95 i
def fm_215 (a1 : Int) (Q : Int → lf_Z → Prop) (s : lf_Z) : Prop := (0 ≤ a1 + 1 ∧ a1 + 1 < 2820) ∧ (fm_216 (fun r23 s22 => ((0 ≤ a1 + 2 ∧ a1 + 2 < 2820) ∧ (Q r23 (lf_up s22.1 98 (a1 + 2) (s22.1 95 13), s22.2.1, s22.2.2)))) (lf_up s.1 98 (a1 + 1) (s.1 95 13), s.2.1, s.2.2))
set_option maxRecDepth 100000 in
theorem gm_215 {L : Nat} {xs : Nat → Int32} {d : Nat} {a1 : Int} {Q : Int → lf_Z → Prop} {s : lf_Z} (h : fm_215 a1 Q s) : lf_M (px_ro L xs) (d + 9) 215 [.ref 95, .int (Int32.ofInt a1)] s (lf_qi Q) := by
  unfold fm_215 at h
  show lf_E (px_ro L xs) (d + 9) 215 0 [(0, .ref 95), (1, .int (Int32.ofInt a1))] [] s _
  refine lf_seg 4 (pc' := 6) (lv' := [(0, .ref 95), (1, .int (Int32.ofInt a1))]) (st' := [.int (Int32.ofInt 1), .int (Int32.ofInt a1), .ref 98]) rfl ?_
  refine lf_iadd 7 rfl rfl ?_
  refine lf_seg 1 (pc' := 8) (lv' := [(0, .ref 95), (1, .int (Int32.ofInt a1))]) (st' := [.ref 95, .int (Int32.ofInt (a1 + 1)), .ref 98]) rfl ?_
  refine lf_getI 11 13 rfl rfl rfl rfl rfl rfl rfl ?_
  obtain ⟨o21, h⟩ := h
  refine lf_iast 12 2820 rfl rfl rfl rfl rfl rfl o21 ?_
  refine lf_as (lf_up s.1 98 (a1 + 1) (s.1 95 13), s.2.1, s.2.2) rfl ?_
  refine lf_seg 1 (pc' := 13) (lv' := [(0, .ref 95), (1, .int (Int32.ofInt a1))]) (st' := [.ref 95]) rfl ?_
  refine lf_callI 16 rfl rfl rfl rfl (gm_216 h) (fun r23 s22 h => ?_)
  refine lf_seg 5 (pc' := 23) (lv' := [(2, .int (Int32.ofInt r23)), (0, .ref 95), (1, .int (Int32.ofInt a1))]) (st' := [.int (Int32.ofInt 2), .int (Int32.ofInt a1), .ref 98]) rfl ?_
  refine lf_iadd 24 rfl rfl ?_
  refine lf_seg 1 (pc' := 25) (lv' := [(2, .int (Int32.ofInt r23)), (0, .ref 95), (1, .int (Int32.ofInt a1))]) (st' := [.ref 95, .int (Int32.ofInt (a1 + 2)), .ref 98]) rfl ?_
  refine lf_getI 28 13 rfl rfl rfl rfl rfl rfl rfl ?_
  obtain ⟨o24, h⟩ := h
  refine lf_iast 29 2820 rfl rfl rfl rfl rfl rfl o24 ?_
  refine lf_as (lf_up s22.1 98 (a1 + 2) (s22.1 95 13), s22.2.1, s22.2.2) rfl ?_
  refine lf_seg 1 (pc' := 30) (lv' := [(2, .int (Int32.ofInt r23)), (0, .ref 95), (1, .int (Int32.ofInt a1))]) (st' := [.int (Int32.ofInt r23)]) rfl ?_
  exact lf_retI rfl rfl h
-- fm_213 Model.figure 95 i i i
def fm_213 (a1 : Int) (a2 : Int) (a3 : Int) (Q : Int → lf_Z → Prop) (s : lf_Z) : Prop := lf_R (s.1 95 9) ∧ ((s.1 95 9 = 1 → (fm_183 (s.1 95 10) a2 a3 (fun z23 s22 => ((z23 = true → ((0 ≤ a1 ∧ a1 < 2820) ∧ (fm_197 (fun s25 => (Q 0 s25)) (lf_up s22.1 98 a1 (s22.1 95 10), s22.2.1, s22.2.2)))) ∧ (z23 = false → (Q 2 s22)))) s)) ∧ (¬ (s.1 95 9 = 1) → (Q 1 s)))
set_option maxRecDepth 100000 in
theorem gm_213 {L : Nat} {xs : Nat → Int32} {d : Nat} {a1 : Int} {a2 : Int} {a3 : Int} {Q : Int → lf_Z → Prop} {s : lf_Z} (h : fm_213 a1 a2 a3 Q s) : lf_M (px_ro L xs) (d + 3) 213 [.ref 95, .int (Int32.ofInt a1), .int (Int32.ofInt a2), .int (Int32.ofInt a3)] s (lf_qi Q) := by
  unfold fm_213 at h
  show lf_E (px_ro L xs) (d + 3) 213 0 [(0, .ref 95), (1, .int (Int32.ofInt a1)), (2, .int (Int32.ofInt a2)), (3, .int (Int32.ofInt a3))] [] s _
  refine lf_seg 1 (pc' := 1) (lv' := [(0, .ref 95), (1, .int (Int32.ofInt a1)), (2, .int (Int32.ofInt a2)), (3, .int (Int32.ofInt a3))]) (st' := [.ref 95]) rfl ?_
  refine lf_getI 4 9 rfl rfl rfl rfl rfl rfl rfl ?_
  refine lf_seg 1 (pc' := 5) (lv' := [(0, .ref 95), (1, .int (Int32.ofInt a1)), (2, .int (Int32.ofInt a2)), (3, .int (Int32.ofInt a3))]) (st' := [.int (Int32.ofInt 1), .int (Int32.ofInt (s.1 95 9))]) rfl ?_
  obtain ⟨o21, h⟩ := h
  refine lf_icmp_eq 10 8 rfl rfl rfl o21 ⟨by decide, by decide⟩ (fun c => ?_) (fun c => ?_)
  · have h := h.1 c
    refine lf_seg 1 (pc' := 11) (lv' := [(0, .ref 95), (1, .int (Int32.ofInt a1)), (2, .int (Int32.ofInt a2)), (3, .int (Int32.ofInt a3))]) (st' := [.ref 95]) rfl ?_
    refine lf_getI 14 10 rfl rfl rfl rfl rfl rfl rfl ?_
    refine lf_seg 2 (pc' := 16) (lv' := [(0, .ref 95), (1, .int (Int32.ofInt a1)), (2, .int (Int32.ofInt a2)), (3, .int (Int32.ofInt a3))]) (st' := [.int (Int32.ofInt a3), .int (Int32.ofInt a2), .int (Int32.ofInt (s.1 95 10))]) rfl ?_
    refine lf_callZ 19 rfl rfl rfl rfl (gm_183 h) (fun z23 s22 h => ?_)
    refine lf_ifz_ne 24 22 rfl rfl rfl (fun c => ?_) (fun c => ?_)
    · have h := h.1 c
      refine lf_seg 4 (pc' := 30) (lv' := [(0, .ref 95), (1, .int (Int32.ofInt a1)), (2, .int (Int32.ofInt a2)), (3, .int (Int32.ofInt a3))]) (st' := [.ref 95, .int (Int32.ofInt a1), .ref 98]) rfl ?_
      refine lf_getI 33 10 rfl rfl rfl rfl rfl rfl rfl ?_
      obtain ⟨o24, h⟩ := h
      refine lf_iast 34 2820 rfl rfl rfl rfl rfl rfl o24 ?_
      refine lf_as (lf_up s22.1 98 a1 (s22.1 95 10), s22.2.1, s22.2.2) rfl ?_
      refine lf_seg 1 (pc' := 35) (lv' := [(0, .ref 95), (1, .int (Int32.ofInt a1)), (2, .int (Int32.ofInt a2)), (3, .int (Int32.ofInt a3))]) (st' := [.ref 95]) rfl ?_
      refine lf_callV 38 rfl rfl rfl rfl (gm_197 h) (fun s25 h => ?_)
      refine lf_seg 1 (pc' := 39) (lv' := [(0, .ref 95), (1, .int (Int32.ofInt a1)), (2, .int (Int32.ofInt a2)), (3, .int (Int32.ofInt a3))]) (st' := [.int (Int32.ofInt 0)]) rfl ?_
      exact lf_retI rfl rfl h
    · have h := h.2 c
      refine lf_seg 1 (pc' := 23) (lv' := [(0, .ref 95), (1, .int (Int32.ofInt a1)), (2, .int (Int32.ofInt a2)), (3, .int (Int32.ofInt a3))]) (st' := [.int (Int32.ofInt 2)]) rfl ?_
      exact lf_retI rfl rfl h
  · have h := h.2 c
    refine lf_seg 1 (pc' := 9) (lv' := [(0, .ref 95), (1, .int (Int32.ofInt a1)), (2, .int (Int32.ofInt a2)), (3, .int (Int32.ofInt a3))]) (st' := [.int (Int32.ofInt 1)]) rfl ?_
    exact lf_retI rfl rfl h
-- fm_214 Model.worded 95 l i i i
def fm_214 (a1 : Int) (a2 : Int) (a3 : Int) (a4 : Int) (Q : Int → lf_Z → Prop) (s : lf_Z) : Prop := fm_207 (lf_wl a1) (fun z22 s21 => ((z22 = true → (fm_197 (fun s23 => (fm_213 a2 a3 a4 (fun r25 s24 => (Q r25 s24)) s23)) s21)) ∧ (z22 = false → (Q 1 s21)))) s
set_option maxRecDepth 100000 in
theorem gm_214 {L : Nat} {xs : Nat → Int32} {d : Nat} {a1 : Int} {a2 : Int} {a3 : Int} {a4 : Int} {Q : Int → lf_Z → Prop} {s : lf_Z} (h : fm_214 a1 a2 a3 a4 Q s) : lf_M (px_ro L xs) (d + 4) 214 [.ref 95, .long (Int64.ofInt a1), .int (Int32.ofInt a2), .int (Int32.ofInt a3), .int (Int32.ofInt a4)] s (lf_qi Q) := by
  unfold fm_214 at h
  show lf_E (px_ro L xs) (d + 4) 214 0 [(0, .ref 95), (1, .long (Int64.ofInt a1)), (3, .int (Int32.ofInt a2)), (4, .int (Int32.ofInt a3)), (5, .int (Int32.ofInt a4))] [] s _
  refine lf_eqs (lv' := [(0, .ref 95), (1, .long (Int64.ofInt (lf_wl a1))), (3, .int (Int32.ofInt a2)), (4, .int (Int32.ofInt a3)), (5, .int (Int32.ofInt a4))]) (st' := []) (by simp only [lf_wlE]) rfl ?_
  refine lf_seg 2 (pc' := 2) (lv' := [(0, .ref 95), (1, .long (Int64.ofInt (lf_wl a1))), (3, .int (Int32.ofInt a2)), (4, .int (Int32.ofInt a3)), (5, .int (Int32.ofInt a4))]) (st' := [.long (Int64.ofInt (lf_wl a1)), .ref 95]) rfl ?_
  refine lf_callZ 5 rfl rfl rfl rfl (gm_207 h) (fun z22 s21 h => ?_)
  refine lf_ifz_ne 10 8 rfl rfl rfl (fun c => ?_) (fun c => ?_)
  · have h := h.1 c
    refine lf_seg 1 (pc' := 11) (lv' := [(0, .ref 95), (1, .long (Int64.ofInt (lf_wl a1))), (3, .int (Int32.ofInt a2)), (4, .int (Int32.ofInt a3)), (5, .int (Int32.ofInt a4))]) (st' := [.ref 95]) rfl ?_
    refine lf_callV 14 rfl rfl rfl rfl (gm_197 h) (fun s23 h => ?_)
    refine lf_seg 4 (pc' := 20) (lv' := [(0, .ref 95), (1, .long (Int64.ofInt (lf_wl a1))), (3, .int (Int32.ofInt a2)), (4, .int (Int32.ofInt a3)), (5, .int (Int32.ofInt a4))]) (st' := [.int (Int32.ofInt a4), .int (Int32.ofInt a3), .int (Int32.ofInt a2), .ref 95]) rfl ?_
    refine lf_callI 23 rfl rfl rfl rfl (gm_213 h) (fun r25 s24 h => ?_)
    exact lf_retI rfl rfl h
  · have h := h.2 c
    refine lf_seg 1 (pc' := 9) (lv' := [(0, .ref 95), (1, .long (Int64.ofInt (lf_wl a1))), (3, .int (Int32.ofInt a2)), (4, .int (Int32.ofInt a3)), (5, .int (Int32.ofInt a4))]) (st' := [.int (Int32.ofInt 1)]) rfl ?_
    exact lf_retI rfl rfl h
-- fm_212 Model.pair 95 i i i l i i
def fm_212 (a1 : Int) (a2 : Int) (a3 : Int) (a4 : Int) (a5 : Int) (a6 : Int) (Q : Int → lf_Z → Prop) (s : lf_Z) : Prop := fm_213 (a1 + 1) a2 a3 (fun r22 s21 => (lf_R r22 ∧ ((r22 = 0 → (fm_214 (lf_wl a4) (a1 + 2) a5 a6 (fun r25 s24 => (Q r25 s24)) s21)) ∧ (¬ (r22 = 0) → (Q r22 s21))))) s
set_option maxRecDepth 100000 in
theorem gm_212 {L : Nat} {xs : Nat → Int32} {d : Nat} {a1 : Int} {a2 : Int} {a3 : Int} {a4 : Int} {a5 : Int} {a6 : Int} {Q : Int → lf_Z → Prop} {s : lf_Z} (h : fm_212 a1 a2 a3 a4 a5 a6 Q s) : lf_M (px_ro L xs) (d + 5) 212 [.ref 95, .int (Int32.ofInt a1), .int (Int32.ofInt a2), .int (Int32.ofInt a3), .long (Int64.ofInt a4), .int (Int32.ofInt a5), .int (Int32.ofInt a6)] s (lf_qi Q) := by
  unfold fm_212 at h
  show lf_E (px_ro L xs) (d + 5) 212 0 [(0, .ref 95), (1, .int (Int32.ofInt a1)), (2, .int (Int32.ofInt a2)), (3, .int (Int32.ofInt a3)), (4, .long (Int64.ofInt a4)), (6, .int (Int32.ofInt a5)), (7, .int (Int32.ofInt a6))] [] s _
  refine lf_eqs (lv' := [(0, .ref 95), (1, .int (Int32.ofInt a1)), (2, .int (Int32.ofInt a2)), (3, .int (Int32.ofInt a3)), (4, .long (Int64.ofInt (lf_wl a4))), (6, .int (Int32.ofInt a5)), (7, .int (Int32.ofInt a6))]) (st' := []) (by simp only [lf_wlE]) rfl ?_
  refine lf_seg 3 (pc' := 3) (lv' := [(0, .ref 95), (1, .int (Int32.ofInt a1)), (2, .int (Int32.ofInt a2)), (3, .int (Int32.ofInt a3)), (4, .long (Int64.ofInt (lf_wl a4))), (6, .int (Int32.ofInt a5)), (7, .int (Int32.ofInt a6))]) (st' := [.int (Int32.ofInt 1), .int (Int32.ofInt a1), .ref 95]) rfl ?_
  refine lf_iadd 4 rfl rfl ?_
  refine lf_seg 2 (pc' := 6) (lv' := [(0, .ref 95), (1, .int (Int32.ofInt a1)), (2, .int (Int32.ofInt a2)), (3, .int (Int32.ofInt a3)), (4, .long (Int64.ofInt (lf_wl a4))), (6, .int (Int32.ofInt a5)), (7, .int (Int32.ofInt a6))]) (st' := [.int (Int32.ofInt a3), .int (Int32.ofInt a2), .int (Int32.ofInt (a1 + 1)), .ref 95]) rfl ?_
  refine lf_callI 9 rfl rfl rfl rfl (gm_213 h) (fun r22 s21 h => ?_)
  refine lf_seg 2 (pc' := 13) (lv' := [(8, .int (Int32.ofInt r22)), (0, .ref 95), (1, .int (Int32.ofInt a1)), (2, .int (Int32.ofInt a2)), (3, .int (Int32.ofInt a3)), (4, .long (Int64.ofInt (lf_wl a4))), (6, .int (Int32.ofInt a5)), (7, .int (Int32.ofInt a6))]) (st' := [.int (Int32.ofInt r22)]) rfl ?_
  obtain ⟨o23, h⟩ := h
  refine lf_if_eq 21 16 rfl rfl rfl o23 (fun c => ?_) (fun c => ?_)
  · have h := h.1 c
    refine lf_seg 4 (pc' := 26) (lv' := [(8, .int (Int32.ofInt r22)), (0, .ref 95), (1, .int (Int32.ofInt a1)), (2, .int (Int32.ofInt a2)), (3, .int (Int32.ofInt a3)), (4, .long (Int64.ofInt (lf_wl a4))), (6, .int (Int32.ofInt a5)), (7, .int (Int32.ofInt a6))]) (st' := [.int (Int32.ofInt 2), .int (Int32.ofInt a1), .long (Int64.ofInt (lf_wl a4)), .ref 95]) rfl ?_
    refine lf_iadd 27 rfl rfl ?_
    refine lf_seg 2 (pc' := 31) (lv' := [(8, .int (Int32.ofInt r22)), (0, .ref 95), (1, .int (Int32.ofInt a1)), (2, .int (Int32.ofInt a2)), (3, .int (Int32.ofInt a3)), (4, .long (Int64.ofInt (lf_wl a4))), (6, .int (Int32.ofInt a5)), (7, .int (Int32.ofInt a6))]) (st' := [.int (Int32.ofInt a6), .int (Int32.ofInt a5), .int (Int32.ofInt (a1 + 2)), .long (Int64.ofInt (lf_wl a4)), .ref 95]) rfl ?_
    refine lf_callI 34 rfl rfl rfl rfl (gm_214 h) (fun r25 s24 h => ?_)
    exact lf_retI rfl rfl h
  · have h := h.2 c
    refine lf_seg 2 (pc' := 34) (lv' := [(8, .int (Int32.ofInt r22)), (0, .ref 95), (1, .int (Int32.ofInt a1)), (2, .int (Int32.ofInt a2)), (3, .int (Int32.ofInt a3)), (4, .long (Int64.ofInt (lf_wl a4))), (6, .int (Int32.ofInt a5)), (7, .int (Int32.ofInt a6))]) (st' := [.int (Int32.ofInt r22)]) rfl ?_
    exact lf_retI rfl rfl h
-- fm_211 Model.body 95 i i
def fm_211 (a1 : Int) (a2 : Int) (Q : Int → lf_Z → Prop) (s : lf_Z) : Prop := lf_R a1 ∧ ((a1 < 3 ∨ 12 < a1 → (fm_215 a2 (fun r23 s22 => (Q r23 s22)) s)) ∧ (a1 = 3 → (fm_204 104 97 114 109 (fun r25 s24 => (fm_212 a2 0 3 (lf_wl r25) 0 99 (fun r27 s26 => (Q r27 s26)) s24)) s)) ∧ (a1 = 4 → (fm_206 116 111 (fun r29 s28 => (fm_212 a2 0 11 (lf_wl r29) 0 11 (fun r31 s30 => (Q r31 s30)) s28)) s)) ∧ (a1 = 5 → (fm_206 116 111 (fun r33 s32 => (fm_212 a2 0 11 (lf_wl r33) 0 11 (fun r35 s34 => (Q r35 s34)) s32)) s)) ∧ (a1 = 6 → (fm_206 97 116 (fun r37 s36 => (fm_212 a2 0 9 (lf_wl r37) 0 11 (fun r39 s38 => (Q r39 s38)) s36)) s)) ∧ (a1 = 7 → (fm_206 97 116 (fun r41 s40 => (fm_212 a2 1 24 (lf_wl r41) 0 11 (fun r43 s42 => (Q r43 s42)) s40)) s)) ∧ (a1 = 8 → (fm_206 116 111 (fun r45 s44 => (fm_212 a2 0 5 (lf_wl r45) 0 11 (fun r47 s46 => (Q r47 s46)) s44)) s)) ∧ (a1 = 9 → (fm_213 (a2 + 1) 0 15 (fun r49 s48 => (Q r49 s48)) s)) ∧ (a1 = 10 → (fm_213 (a2 + 1) 0 15 (fun r51 s50 => (Q r51 s50)) s)) ∧ (a1 = 11 → (fm_206 98 121 (fun r53 s52 => (fm_212 a2 0 3 (lf_wl r53) 1 24 (fun r55 s54 => (Q r55 s54)) s52)) s)) ∧ (a1 = 12 → (fm_213 (a2 + 1) 1 60 (fun r57 s56 => (Q r57 s56)) s)))
set_option maxRecDepth 100000 in
theorem gm_211 {L : Nat} {xs : Nat → Int32} {d : Nat} {a1 : Int} {a2 : Int} {Q : Int → lf_Z → Prop} {s : lf_Z} (h : fm_211 a1 a2 Q s) : lf_M (px_ro L xs) (d + 10) 211 [.ref 95, .int (Int32.ofInt a1), .int (Int32.ofInt a2)] s (lf_qi Q) := by
  unfold fm_211 at h
  show lf_E (px_ro L xs) (d + 10) 211 0 [(0, .ref 95), (1, .int (Int32.ofInt a1)), (2, .int (Int32.ofInt a2))] [] s _
  refine lf_seg 1 (pc' := 1) (lv' := [(0, .ref 95), (1, .int (Int32.ofInt a1)), (2, .int (Int32.ofInt a2))]) (st' := [.int (Int32.ofInt a1)]) rfl ?_
  obtain ⟨o21, h⟩ := h
  refine lf_tsw 223 [(3, 56), (4, 78), (5, 97), (6, 116), (7, 135), (8, 154), (9, 172), (10, 183), (11, 194), (12, 212)] rfl rfl rfl (by decide) o21 (fun c => ?_) (lf_tab1 (fun c => ?_) (lf_tab1 (fun c => ?_) (lf_tab1 (fun c => ?_) (lf_tab1 (fun c => ?_) (lf_tab1 (fun c => ?_) (lf_tab1 (fun c => ?_) (lf_tab1 (fun c => ?_) (lf_tab1 (fun c => ?_) (lf_tab1 (fun c => ?_) (lf_tab1 (fun c => ?_) lf_tab0))))))))))
  · have h := h.1 c
    refine lf_seg 2 (pc' := 225) (lv' := [(0, .ref 95), (1, .int (Int32.ofInt a1)), (2, .int (Int32.ofInt a2))]) (st' := [.int (Int32.ofInt a2), .ref 95]) rfl ?_
    refine lf_callI 228 rfl rfl rfl rfl (gm_215 h) (fun r23 s22 h => ?_)
    exact lf_retI rfl rfl h
  · have h := h.2.1 c
    refine lf_seg 4 (pc' := 60) (lv' := [(0, .ref 95), (1, .int (Int32.ofInt a1)), (2, .int (Int32.ofInt a2))]) (st' := [.int (Int32.ofInt 3), .int (Int32.ofInt 0), .int (Int32.ofInt a2), .ref 95]) rfl ?_
    refine lf_bipush 62 104 rfl rfl (by decide) (by decide) ?_
    refine lf_bipush 64 97 rfl rfl (by decide) (by decide) ?_
    refine lf_bipush 66 114 rfl rfl (by decide) (by decide) ?_
    refine lf_bipush 68 109 rfl rfl (by decide) (by decide) ?_
    refine lf_callL 71 rfl rfl rfl rfl (gm_204 h) (fun r25 s24 h => ?_)
    refine lf_wtL ?_
    refine lf_seg 1 (pc' := 72) (lv' := [(0, .ref 95), (1, .int (Int32.ofInt a1)), (2, .int (Int32.ofInt a2))]) (st' := [.int (Int32.ofInt 0), .long (Int64.ofInt (lf_wl r25)), .int (Int32.ofInt 3), .int (Int32.ofInt 0), .int (Int32.ofInt a2), .ref 95]) rfl ?_
    refine lf_bipush 74 99 rfl rfl (by decide) (by decide) ?_
    refine lf_callI 77 rfl rfl rfl rfl (gm_212 h) (fun r27 s26 h => ?_)
    exact lf_retI rfl rfl h
  · have h := h.2.2.1 c
    refine lf_seg 3 (pc' := 81) (lv' := [(0, .ref 95), (1, .int (Int32.ofInt a1)), (2, .int (Int32.ofInt a2))]) (st' := [.int (Int32.ofInt 0), .int (Int32.ofInt a2), .ref 95]) rfl ?_
    refine lf_bipush 83 11 rfl rfl (by decide) (by decide) ?_
    refine lf_bipush 85 116 rfl rfl (by decide) (by decide) ?_
    refine lf_bipush 87 111 rfl rfl (by decide) (by decide) ?_
    refine lf_callL 90 rfl rfl rfl rfl (gm_206 h) (fun r29 s28 h => ?_)
    refine lf_wtL ?_
    refine lf_seg 1 (pc' := 91) (lv' := [(0, .ref 95), (1, .int (Int32.ofInt a1)), (2, .int (Int32.ofInt a2))]) (st' := [.int (Int32.ofInt 0), .long (Int64.ofInt (lf_wl r29)), .int (Int32.ofInt 11), .int (Int32.ofInt 0), .int (Int32.ofInt a2), .ref 95]) rfl ?_
    refine lf_bipush 93 11 rfl rfl (by decide) (by decide) ?_
    refine lf_callI 96 rfl rfl rfl rfl (gm_212 h) (fun r31 s30 h => ?_)
    exact lf_retI rfl rfl h
  · have h := h.2.2.2.1 c
    refine lf_seg 3 (pc' := 100) (lv' := [(0, .ref 95), (1, .int (Int32.ofInt a1)), (2, .int (Int32.ofInt a2))]) (st' := [.int (Int32.ofInt 0), .int (Int32.ofInt a2), .ref 95]) rfl ?_
    refine lf_bipush 102 11 rfl rfl (by decide) (by decide) ?_
    refine lf_bipush 104 116 rfl rfl (by decide) (by decide) ?_
    refine lf_bipush 106 111 rfl rfl (by decide) (by decide) ?_
    refine lf_callL 109 rfl rfl rfl rfl (gm_206 h) (fun r33 s32 h => ?_)
    refine lf_wtL ?_
    refine lf_seg 1 (pc' := 110) (lv' := [(0, .ref 95), (1, .int (Int32.ofInt a1)), (2, .int (Int32.ofInt a2))]) (st' := [.int (Int32.ofInt 0), .long (Int64.ofInt (lf_wl r33)), .int (Int32.ofInt 11), .int (Int32.ofInt 0), .int (Int32.ofInt a2), .ref 95]) rfl ?_
    refine lf_bipush 112 11 rfl rfl (by decide) (by decide) ?_
    refine lf_callI 115 rfl rfl rfl rfl (gm_212 h) (fun r35 s34 h => ?_)
    exact lf_retI rfl rfl h
  · have h := h.2.2.2.2.1 c
    refine lf_seg 3 (pc' := 119) (lv' := [(0, .ref 95), (1, .int (Int32.ofInt a1)), (2, .int (Int32.ofInt a2))]) (st' := [.int (Int32.ofInt 0), .int (Int32.ofInt a2), .ref 95]) rfl ?_
    refine lf_bipush 121 9 rfl rfl (by decide) (by decide) ?_
    refine lf_bipush 123 97 rfl rfl (by decide) (by decide) ?_
    refine lf_bipush 125 116 rfl rfl (by decide) (by decide) ?_
    refine lf_callL 128 rfl rfl rfl rfl (gm_206 h) (fun r37 s36 h => ?_)
    refine lf_wtL ?_
    refine lf_seg 1 (pc' := 129) (lv' := [(0, .ref 95), (1, .int (Int32.ofInt a1)), (2, .int (Int32.ofInt a2))]) (st' := [.int (Int32.ofInt 0), .long (Int64.ofInt (lf_wl r37)), .int (Int32.ofInt 9), .int (Int32.ofInt 0), .int (Int32.ofInt a2), .ref 95]) rfl ?_
    refine lf_bipush 131 11 rfl rfl (by decide) (by decide) ?_
    refine lf_callI 134 rfl rfl rfl rfl (gm_212 h) (fun r39 s38 h => ?_)
    exact lf_retI rfl rfl h
  · have h := h.2.2.2.2.2.1 c
    refine lf_seg 3 (pc' := 138) (lv' := [(0, .ref 95), (1, .int (Int32.ofInt a1)), (2, .int (Int32.ofInt a2))]) (st' := [.int (Int32.ofInt 1), .int (Int32.ofInt a2), .ref 95]) rfl ?_
    refine lf_bipush 140 24 rfl rfl (by decide) (by decide) ?_
    refine lf_bipush 142 97 rfl rfl (by decide) (by decide) ?_
    refine lf_bipush 144 116 rfl rfl (by decide) (by decide) ?_
    refine lf_callL 147 rfl rfl rfl rfl (gm_206 h) (fun r41 s40 h => ?_)
    refine lf_wtL ?_
    refine lf_seg 1 (pc' := 148) (lv' := [(0, .ref 95), (1, .int (Int32.ofInt a1)), (2, .int (Int32.ofInt a2))]) (st' := [.int (Int32.ofInt 0), .long (Int64.ofInt (lf_wl r41)), .int (Int32.ofInt 24), .int (Int32.ofInt 1), .int (Int32.ofInt a2), .ref 95]) rfl ?_
    refine lf_bipush 150 11 rfl rfl (by decide) (by decide) ?_
    refine lf_callI 153 rfl rfl rfl rfl (gm_212 h) (fun r43 s42 h => ?_)
    exact lf_retI rfl rfl h
  · have h := h.2.2.2.2.2.2.1 c
    refine lf_seg 4 (pc' := 158) (lv' := [(0, .ref 95), (1, .int (Int32.ofInt a1)), (2, .int (Int32.ofInt a2))]) (st' := [.int (Int32.ofInt 5), .int (Int32.ofInt 0), .int (Int32.ofInt a2), .ref 95]) rfl ?_
    refine lf_bipush 160 116 rfl rfl (by decide) (by decide) ?_
    refine lf_bipush 162 111 rfl rfl (by decide) (by decide) ?_
    refine lf_callL 165 rfl rfl rfl rfl (gm_206 h) (fun r45 s44 h => ?_)
    refine lf_wtL ?_
    refine lf_seg 1 (pc' := 166) (lv' := [(0, .ref 95), (1, .int (Int32.ofInt a1)), (2, .int (Int32.ofInt a2))]) (st' := [.int (Int32.ofInt 0), .long (Int64.ofInt (lf_wl r45)), .int (Int32.ofInt 5), .int (Int32.ofInt 0), .int (Int32.ofInt a2), .ref 95]) rfl ?_
    refine lf_bipush 168 11 rfl rfl (by decide) (by decide) ?_
    refine lf_callI 171 rfl rfl rfl rfl (gm_212 h) (fun r47 s46 h => ?_)
    exact lf_retI rfl rfl h
  · have h := h.2.2.2.2.2.2.2.1 c
    refine lf_seg 3 (pc' := 175) (lv' := [(0, .ref 95), (1, .int (Int32.ofInt a1)), (2, .int (Int32.ofInt a2))]) (st' := [.int (Int32.ofInt 1), .int (Int32.ofInt a2), .ref 95]) rfl ?_
    refine lf_iadd 176 rfl rfl ?_
    refine lf_seg 1 (pc' := 177) (lv' := [(0, .ref 95), (1, .int (Int32.ofInt a1)), (2, .int (Int32.ofInt a2))]) (st' := [.int (Int32.ofInt 0), .int (Int32.ofInt (a2 + 1)), .ref 95]) rfl ?_
    refine lf_bipush 179 15 rfl rfl (by decide) (by decide) ?_
    refine lf_callI 182 rfl rfl rfl rfl (gm_213 h) (fun r49 s48 h => ?_)
    exact lf_retI rfl rfl h
  · have h := h.2.2.2.2.2.2.2.2.1 c
    refine lf_seg 3 (pc' := 186) (lv' := [(0, .ref 95), (1, .int (Int32.ofInt a1)), (2, .int (Int32.ofInt a2))]) (st' := [.int (Int32.ofInt 1), .int (Int32.ofInt a2), .ref 95]) rfl ?_
    refine lf_iadd 187 rfl rfl ?_
    refine lf_seg 1 (pc' := 188) (lv' := [(0, .ref 95), (1, .int (Int32.ofInt a1)), (2, .int (Int32.ofInt a2))]) (st' := [.int (Int32.ofInt 0), .int (Int32.ofInt (a2 + 1)), .ref 95]) rfl ?_
    refine lf_bipush 190 15 rfl rfl (by decide) (by decide) ?_
    refine lf_callI 193 rfl rfl rfl rfl (gm_213 h) (fun r51 s50 h => ?_)
    exact lf_retI rfl rfl h
  · have h := h.2.2.2.2.2.2.2.2.2.1 c
    refine lf_seg 4 (pc' := 198) (lv' := [(0, .ref 95), (1, .int (Int32.ofInt a1)), (2, .int (Int32.ofInt a2))]) (st' := [.int (Int32.ofInt 3), .int (Int32.ofInt 0), .int (Int32.ofInt a2), .ref 95]) rfl ?_
    refine lf_bipush 200 98 rfl rfl (by decide) (by decide) ?_
    refine lf_bipush 202 121 rfl rfl (by decide) (by decide) ?_
    refine lf_callL 205 rfl rfl rfl rfl (gm_206 h) (fun r53 s52 h => ?_)
    refine lf_wtL ?_
    refine lf_seg 1 (pc' := 206) (lv' := [(0, .ref 95), (1, .int (Int32.ofInt a1)), (2, .int (Int32.ofInt a2))]) (st' := [.int (Int32.ofInt 1), .long (Int64.ofInt (lf_wl r53)), .int (Int32.ofInt 3), .int (Int32.ofInt 0), .int (Int32.ofInt a2), .ref 95]) rfl ?_
    refine lf_bipush 208 24 rfl rfl (by decide) (by decide) ?_
    refine lf_callI 211 rfl rfl rfl rfl (gm_212 h) (fun r55 s54 h => ?_)
    exact lf_retI rfl rfl h
  · have h := h.2.2.2.2.2.2.2.2.2.2 c
    refine lf_seg 3 (pc' := 215) (lv' := [(0, .ref 95), (1, .int (Int32.ofInt a1)), (2, .int (Int32.ofInt a2))]) (st' := [.int (Int32.ofInt 1), .int (Int32.ofInt a2), .ref 95]) rfl ?_
    refine lf_iadd 216 rfl rfl ?_
    refine lf_seg 1 (pc' := 217) (lv' := [(0, .ref 95), (1, .int (Int32.ofInt a1)), (2, .int (Int32.ofInt a2))]) (st' := [.int (Int32.ofInt 1), .int (Int32.ofInt (a2 + 1)), .ref 95]) rfl ?_
    refine lf_bipush 219 60 rfl rfl (by decide) (by decide) ?_
    refine lf_callI 222 rfl rfl rfl rfl (gm_213 h) (fun r57 s56 h => ?_)
    exact lf_retI rfl rfl h
-- fm_210 Model.has i i
def fm_210 (a0 : Int) (a1 : Int) (Q : Bool → lf_Z → Prop) (s : lf_Z) : Prop := (lf_and (lf_shr a0 a1) 1 ≠ 1 → (Q false s)) ∧ (¬ (lf_and (lf_shr a0 a1) 1 ≠ 1) → (Q true s))
set_option maxRecDepth 100000 in
theorem gm_210 {L : Nat} {xs : Nat → Int32} {d : Nat} {a0 : Int} {a1 : Int} {Q : Bool → lf_Z → Prop} {s : lf_Z} (h : fm_210 a0 a1 Q s) : lf_M (px_ro L xs) (d + 1) 210 [.int (Int32.ofInt a0), .int (Int32.ofInt a1)] s (lf_qz Q) := by
  unfold fm_210 at h
  show lf_E (px_ro L xs) (d + 1) 210 0 [(0, .int (Int32.ofInt a0)), (1, .int (Int32.ofInt a1))] [] s _
  refine lf_seg 2 (pc' := 2) (lv' := [(0, .int (Int32.ofInt a0)), (1, .int (Int32.ofInt a1))]) (st' := [.int (Int32.ofInt a1), .int (Int32.ofInt a0)]) rfl ?_
  refine lf_ishr 3 rfl rfl ?_
  refine lf_seg 1 (pc' := 4) (lv' := [(0, .int (Int32.ofInt a0)), (1, .int (Int32.ofInt a1))]) (st' := [.int (Int32.ofInt 1), .int (Int32.ofInt (lf_shr a0 a1))]) rfl ?_
  refine lf_iand 5 rfl rfl ?_
  refine lf_seg 1 (pc' := 6) (lv' := [(0, .int (Int32.ofInt a0)), (1, .int (Int32.ofInt a1))]) (st' := [.int (Int32.ofInt 1), .int (Int32.ofInt (lf_and (lf_shr a0 a1) 1))]) rfl ?_
  refine lf_icmp_ne 13 9 rfl rfl rfl lf_Rand ⟨by decide, by decide⟩ (fun c => ?_) (fun c => ?_)
  · have h := h.1 c
    refine lf_seg 1 (pc' := 14) (lv' := [(0, .int (Int32.ofInt a0)), (1, .int (Int32.ofInt a1))]) (st' := [.int (Int32.ofInt 0)]) rfl ?_
    exact lf_retZ false rfl rfl h
  · have h := h.2 c
    refine lf_seg 2 (pc' := 14) (lv' := [(0, .int (Int32.ofInt a0)), (1, .int (Int32.ofInt a1))]) (st' := [.int (Int32.ofInt 1)]) rfl ?_
    exact lf_retZ true rfl rfl h
-- fm_202 Model.clause 95
def fm_202_p65 (Q : Int → lf_Z → Prop) (x1 : Int) (x2 : Int) (s : lf_Z) : Prop := fm_197 (fun s27 => ((0 ≤ ((s27.1 95 12) + 1) + (4 * x2) ∧ ((s27.1 95 12) + 1) + (4 * x2) < 2820) ∧ (fm_211 x1 (((s27.1 95 12) + 1) + (4 * x2)) (fun r30 s29 => (lf_R r30 ∧ ((r30 = 0 → ((0 ≤ s29.1 95 12 ∧ s29.1 95 12 < 2820) ∧ (lf_R (s29.1 95 9) ∧ ((s29.1 95 9 = 59 → (fm_197 (fun s34 => (Q 0 s34)) (lf_up s29.1 98 (s29.1 95 12) ((s29.1 98 (s29.1 95 12)) + 1), s29.2.1, s29.2.2))) ∧ (¬ (s29.1 95 9 = 59) → (Q 1 (lf_up s29.1 98 (s29.1 95 12) ((s29.1 98 (s29.1 95 12)) + 1), s29.2.1, s29.2.2))))))) ∧ (¬ (r30 = 0) → (Q r30 s29))))) (lf_up s27.1 98 (((s27.1 95 12) + 1) + (4 * x2)) x1, s27.2.1, s27.2.2)))) (lf_up s.1 95 14 x1, s.2.1, s.2.2)
set_option maxRecDepth 100000 in
theorem gm_202_p65 {L : Nat} {xs : Nat → Int32} {d : Nat} {Q : Int → lf_Z → Prop} {x1 : Int} {x2 : Int} {s : lf_Z} (h : fm_202_p65 Q x1 x2 s) : lf_E (px_ro L xs) (d + 11) 202 65 [(0, .ref 95), (1, .int (Int32.ofInt x1)), (2, .int (Int32.ofInt x2))] [] s (lf_qi Q) := by
  unfold fm_202_p65 at h
  refine lf_seg 2 (pc' := 67) (lv' := [(0, .ref 95), (1, .int (Int32.ofInt x1)), (2, .int (Int32.ofInt x2))]) (st' := [.int (Int32.ofInt x1), .ref 95]) rfl ?_
  refine lf_putI 70 14 rfl rfl rfl rfl rfl rfl rfl rfl ?_
  refine lf_as (lf_up s.1 95 14 x1, s.2.1, s.2.2) rfl ?_
  refine lf_seg 1 (pc' := 71) (lv' := [(0, .ref 95), (1, .int (Int32.ofInt x1)), (2, .int (Int32.ofInt x2))]) (st' := [.ref 95]) rfl ?_
  refine lf_callV 74 rfl rfl rfl rfl (gm_197 h) (fun s27 h => ?_)
  refine lf_seg 1 (pc' := 75) (lv' := [(0, .ref 95), (1, .int (Int32.ofInt x1)), (2, .int (Int32.ofInt x2))]) (st' := [.ref 95]) rfl ?_
  refine lf_getI 78 12 rfl rfl rfl rfl rfl rfl rfl ?_
  refine lf_seg 1 (pc' := 79) (lv' := [(0, .ref 95), (1, .int (Int32.ofInt x1)), (2, .int (Int32.ofInt x2))]) (st' := [.int (Int32.ofInt 1), .int (Int32.ofInt (s27.1 95 12))]) rfl ?_
  refine lf_iadd 80 rfl rfl ?_
  refine lf_seg 2 (pc' := 82) (lv' := [(0, .ref 95), (1, .int (Int32.ofInt x1)), (2, .int (Int32.ofInt x2))]) (st' := [.int (Int32.ofInt x2), .int (Int32.ofInt 4), .int (Int32.ofInt ((s27.1 95 12) + 1))]) rfl ?_
  refine lf_imul 83 rfl rfl ?_
  refine lf_iadd 84 rfl rfl ?_
  refine lf_seg 5 (pc' := 91) (lv' := [(3, .int (Int32.ofInt (((s27.1 95 12) + 1) + (4 * x2)))), (0, .ref 95), (1, .int (Int32.ofInt x1)), (2, .int (Int32.ofInt x2))]) (st' := [.int (Int32.ofInt x1), .int (Int32.ofInt (((s27.1 95 12) + 1) + (4 * x2))), .ref 98]) rfl ?_
  obtain ⟨o28, h⟩ := h
  refine lf_iast 92 2820 rfl rfl rfl rfl rfl rfl o28 ?_
  refine lf_as (lf_up s27.1 98 (((s27.1 95 12) + 1) + (4 * x2)) x1, s27.2.1, s27.2.2) rfl ?_
  refine lf_seg 3 (pc' := 95) (lv' := [(3, .int (Int32.ofInt (((s27.1 95 12) + 1) + (4 * x2)))), (0, .ref 95), (1, .int (Int32.ofInt x1)), (2, .int (Int32.ofInt x2))]) (st' := [.int (Int32.ofInt (((s27.1 95 12) + 1) + (4 * x2))), .int (Int32.ofInt x1), .ref 95]) rfl ?_
  refine lf_callI 98 rfl rfl rfl rfl (gm_211 h) (fun r30 s29 h => ?_)
  refine lf_seg 2 (pc' := 102) (lv' := [(4, .int (Int32.ofInt r30)), (3, .int (Int32.ofInt (((s27.1 95 12) + 1) + (4 * x2)))), (0, .ref 95), (1, .int (Int32.ofInt x1)), (2, .int (Int32.ofInt x2))]) (st' := [.int (Int32.ofInt r30)]) rfl ?_
  obtain ⟨o31, h⟩ := h
  refine lf_if_eq 108 105 rfl rfl rfl o31 (fun c => ?_) (fun c => ?_)
  · have h := h.1 c
    refine lf_seg 3 (pc' := 113) (lv' := [(4, .int (Int32.ofInt r30)), (3, .int (Int32.ofInt (((s27.1 95 12) + 1) + (4 * x2)))), (0, .ref 95), (1, .int (Int32.ofInt x1)), (2, .int (Int32.ofInt x2))]) (st' := [.ref 95, .ref 98]) rfl ?_
    refine lf_getI 116 12 rfl rfl rfl rfl rfl rfl rfl ?_
    refine lf_seg 1 (pc' := 117) (lv' := [(4, .int (Int32.ofInt r30)), (3, .int (Int32.ofInt (((s27.1 95 12) + 1) + (4 * x2)))), (0, .ref 95), (1, .int (Int32.ofInt x1)), (2, .int (Int32.ofInt x2))]) (st' := [.int (Int32.ofInt (s29.1 95 12)), .ref 98, .int (Int32.ofInt (s29.1 95 12)), .ref 98]) rfl ?_
    obtain ⟨o32, h⟩ := h
    refine lf_iald 118 2820 rfl rfl rfl rfl rfl rfl o32 ?_
    refine lf_seg 1 (pc' := 119) (lv' := [(4, .int (Int32.ofInt r30)), (3, .int (Int32.ofInt (((s27.1 95 12) + 1) + (4 * x2)))), (0, .ref 95), (1, .int (Int32.ofInt x1)), (2, .int (Int32.ofInt x2))]) (st' := [.int (Int32.ofInt 1), .int (Int32.ofInt (s29.1 98 (s29.1 95 12))), .int (Int32.ofInt (s29.1 95 12)), .ref 98]) rfl ?_
    refine lf_iadd 120 rfl rfl ?_
    refine lf_iast 121 2820 rfl rfl rfl rfl rfl rfl o32 ?_
    refine lf_as (lf_up s29.1 98 (s29.1 95 12) ((s29.1 98 (s29.1 95 12)) + 1), s29.2.1, s29.2.2) rfl ?_
    refine lf_seg 1 (pc' := 122) (lv' := [(4, .int (Int32.ofInt r30)), (3, .int (Int32.ofInt (((s27.1 95 12) + 1) + (4 * x2)))), (0, .ref 95), (1, .int (Int32.ofInt x1)), (2, .int (Int32.ofInt x2))]) (st' := [.ref 95]) rfl ?_
    refine lf_getI 125 9 rfl rfl rfl rfl rfl rfl rfl ?_
    refine lf_seg 0 (pc' := 125) (lv' := [(4, .int (Int32.ofInt r30)), (3, .int (Int32.ofInt (((s27.1 95 12) + 1) + (4 * x2)))), (0, .ref 95), (1, .int (Int32.ofInt x1)), (2, .int (Int32.ofInt x2))]) (st' := [.int (Int32.ofInt (s29.1 95 9))]) rfl ?_
    refine lf_bipush 127 59 rfl rfl (by decide) (by decide) ?_
    obtain ⟨o33, h⟩ := h
    refine lf_icmp_eq 132 130 rfl rfl rfl o33 ⟨by decide, by decide⟩ (fun c => ?_) (fun c => ?_)
    · have h := h.1 c
      refine lf_seg 1 (pc' := 133) (lv' := [(4, .int (Int32.ofInt r30)), (3, .int (Int32.ofInt (((s27.1 95 12) + 1) + (4 * x2)))), (0, .ref 95), (1, .int (Int32.ofInt x1)), (2, .int (Int32.ofInt x2))]) (st' := [.ref 95]) rfl ?_
      refine lf_callV 136 rfl rfl rfl rfl (gm_197 h) (fun s34 h => ?_)
      refine lf_seg 1 (pc' := 137) (lv' := [(4, .int (Int32.ofInt r30)), (3, .int (Int32.ofInt (((s27.1 95 12) + 1) + (4 * x2)))), (0, .ref 95), (1, .int (Int32.ofInt x1)), (2, .int (Int32.ofInt x2))]) (st' := [.int (Int32.ofInt 0)]) rfl ?_
      exact lf_retI rfl rfl h
    · have h := h.2 c
      refine lf_seg 1 (pc' := 131) (lv' := [(4, .int (Int32.ofInt r30)), (3, .int (Int32.ofInt (((s27.1 95 12) + 1) + (4 * x2)))), (0, .ref 95), (1, .int (Int32.ofInt x1)), (2, .int (Int32.ofInt x2))]) (st' := [.int (Int32.ofInt 1)]) rfl ?_
      exact lf_retI rfl rfl h
  · have h := h.2 c
    refine lf_seg 1 (pc' := 107) (lv' := [(4, .int (Int32.ofInt r30)), (3, .int (Int32.ofInt (((s27.1 95 12) + 1) + (4 * x2)))), (0, .ref 95), (1, .int (Int32.ofInt x1)), (2, .int (Int32.ofInt x2))]) (st' := [.int (Int32.ofInt r30)]) rfl ?_
    exact lf_retI rfl rfl h
def fm_202_p29 (Q : Int → lf_Z → Prop) (x1 : Int) (s : lf_Z) : Prop := (0 ≤ s.1 95 12 ∧ s.1 95 12 < 2820) ∧ (lf_R (s.1 98 (s.1 95 12)) ∧ ((s.1 98 (s.1 95 12) ≠ 24 → (lf_R x1 ∧ ((2 < x1 → (fm_202_p65 Q x1 (s.1 98 (s.1 95 12)) s)) ∧ (¬ (2 < x1) → (fm_202_p65 Q x1 (s.1 98 (s.1 95 12)) (lf_up s.1 95 24 (lf_or (s.1 95 24) (lf_shl 1 x1)), s.2.1, s.2.2)))))) ∧ (¬ (s.1 98 (s.1 95 12) ≠ 24) → (Q 6 s))))
set_option maxRecDepth 100000 in
theorem gm_202_p29 {L : Nat} {xs : Nat → Int32} {d : Nat} {Q : Int → lf_Z → Prop} {x1 : Int} {s : lf_Z} (h : fm_202_p29 Q x1 s) : lf_E (px_ro L xs) (d + 11) 202 29 [(0, .ref 95), (1, .int (Int32.ofInt x1))] [] s (lf_qi Q) := by
  unfold fm_202_p29 at h
  refine lf_seg 3 (pc' := 34) (lv' := [(0, .ref 95), (1, .int (Int32.ofInt x1))]) (st' := [.ref 95, .ref 98]) rfl ?_
  refine lf_getI 37 12 rfl rfl rfl rfl rfl rfl rfl ?_
  obtain ⟨o24, h⟩ := h
  refine lf_iald 38 2820 rfl rfl rfl rfl rfl rfl o24 ?_
  refine lf_seg 2 (pc' := 40) (lv' := [(2, .int (Int32.ofInt (s.1 98 (s.1 95 12)))), (0, .ref 95), (1, .int (Int32.ofInt x1))]) (st' := [.int (Int32.ofInt (s.1 98 (s.1 95 12)))]) rfl ?_
  refine lf_bipush 42 24 rfl rfl (by decide) (by decide) ?_
  obtain ⟨o25, h⟩ := h
  refine lf_icmp_ne 48 45 rfl rfl rfl o25 ⟨by decide, by decide⟩ (fun c => ?_) (fun c => ?_)
  · have h := h.1 c
    refine lf_seg 2 (pc' := 50) (lv' := [(2, .int (Int32.ofInt (s.1 98 (s.1 95 12)))), (0, .ref 95), (1, .int (Int32.ofInt x1))]) (st' := [.int (Int32.ofInt 2), .int (Int32.ofInt x1)]) rfl ?_
    obtain ⟨o26, h⟩ := h
    refine lf_icmp_gt 65 53 rfl rfl rfl o26 ⟨by decide, by decide⟩ (fun c => ?_) (fun c => ?_)
    · have h := h.1 c
      refine lf_sub (l := [(0, .ref 95), (1, .int (Int32.ofInt x1)), (2, .int (Int32.ofInt (s.1 98 (s.1 95 12))))]) (lf_sb1 rfl (lf_sb1 rfl (lf_sb1 rfl lf_sb0))) ?_
      exact gm_202_p65 h
    · have h := h.2 c
      refine lf_seg 2 (pc' := 55) (lv' := [(2, .int (Int32.ofInt (s.1 98 (s.1 95 12)))), (0, .ref 95), (1, .int (Int32.ofInt x1))]) (st' := [.ref 95, .ref 95]) rfl ?_
      refine lf_getI 58 24 rfl rfl rfl rfl rfl rfl rfl ?_
      refine lf_seg 2 (pc' := 60) (lv' := [(2, .int (Int32.ofInt (s.1 98 (s.1 95 12)))), (0, .ref 95), (1, .int (Int32.ofInt x1))]) (st' := [.int (Int32.ofInt x1), .int (Int32.ofInt 1), .int (Int32.ofInt (s.1 95 24)), .ref 95]) rfl ?_
      refine lf_ishl 61 rfl rfl ?_
      refine lf_ior 62 rfl rfl ?_
      refine lf_putI 65 24 rfl rfl rfl rfl rfl rfl rfl rfl ?_
      refine lf_as (lf_up s.1 95 24 (lf_or (s.1 95 24) (lf_shl 1 x1)), s.2.1, s.2.2) rfl ?_
      refine lf_sub (l := [(0, .ref 95), (1, .int (Int32.ofInt x1)), (2, .int (Int32.ofInt (s.1 98 (s.1 95 12))))]) (lf_sb1 rfl (lf_sb1 rfl (lf_sb1 rfl lf_sb0))) ?_
      exact gm_202_p65 h
  · have h := h.2 c
    refine lf_bipush 47 6 rfl rfl (by decide) (by decide) ?_
    exact lf_retI rfl rfl h
def fm_202 (Q : Int → lf_Z → Prop) (s : lf_Z) : Prop := fm_203 (fun r22 s21 => (lf_R r22 ∧ ((0 ≤ r22 → ((2 < r22 → (fm_202_p29 Q r22 s21)) ∧ (¬ (2 < r22) → (fm_210 (s21.1 95 24) r22 (fun z36 s35 => ((z36 = false → (fm_202_p29 Q r22 s35)) ∧ (z36 = true → (Q 4 s35)))) s21)))) ∧ (¬ (0 ≤ r22) → (Q 1 s21))))) s
set_option maxRecDepth 100000 in
theorem gm_202 {L : Nat} {xs : Nat → Int32} {d : Nat} {Q : Int → lf_Z → Prop} {s : lf_Z} (h : fm_202 Q s) : lf_M (px_ro L xs) (d + 11) 202 [.ref 95] s (lf_qi Q) := by
  unfold fm_202 at h
  show lf_E (px_ro L xs) (d + 11) 202 0 [(0, .ref 95)] [] s _
  refine lf_seg 1 (pc' := 1) (lv' := [(0, .ref 95)]) (st' := [.ref 95]) rfl ?_
  refine lf_callI 4 rfl rfl rfl rfl (gm_203 h) (fun r22 s21 h => ?_)
  refine lf_seg 2 (pc' := 6) (lv' := [(1, .int (Int32.ofInt r22)), (0, .ref 95)]) (st' := [.int (Int32.ofInt r22)]) rfl ?_
  obtain ⟨o23, h⟩ := h
  refine lf_if_ge 11 9 rfl rfl rfl o23 (fun c => ?_) (fun c => ?_)
  · have h := h.1 c
    refine lf_seg 2 (pc' := 13) (lv' := [(1, .int (Int32.ofInt r22)), (0, .ref 95)]) (st' := [.int (Int32.ofInt 2), .int (Int32.ofInt r22)]) rfl ?_
    refine lf_icmp_gt 29 16 rfl rfl rfl o23 ⟨by decide, by decide⟩ (fun c => ?_) (fun c => ?_)
    · have h := h.1 c
      refine lf_sub (l := [(0, .ref 95), (1, .int (Int32.ofInt r22))]) (lf_sb1 rfl (lf_sb1 rfl lf_sb0)) ?_
      exact gm_202_p29 h
    · have h := h.2 c
      refine lf_seg 1 (pc' := 17) (lv' := [(1, .int (Int32.ofInt r22)), (0, .ref 95)]) (st' := [.ref 95]) rfl ?_
      refine lf_getI 20 24 rfl rfl rfl rfl rfl rfl rfl ?_
      refine lf_seg 1 (pc' := 21) (lv' := [(1, .int (Int32.ofInt r22)), (0, .ref 95)]) (st' := [.int (Int32.ofInt r22), .int (Int32.ofInt (s21.1 95 24))]) rfl ?_
      refine lf_callZ 24 rfl rfl rfl rfl (gm_210 h) (fun z36 s35 h => ?_)
      refine lf_ifz_eq 29 27 rfl rfl rfl (fun c => ?_) (fun c => ?_)
      · have h := h.1 c
        refine lf_sub (l := [(0, .ref 95), (1, .int (Int32.ofInt r22))]) (lf_sb1 rfl (lf_sb1 rfl lf_sb0)) ?_
        exact gm_202_p29 h
      · have h := h.2 c
        refine lf_seg 1 (pc' := 28) (lv' := [(1, .int (Int32.ofInt r22)), (0, .ref 95)]) (st' := [.int (Int32.ofInt 4)]) rfl ?_
        exact lf_retI rfl rfl h
  · have h := h.2 c
    refine lf_seg 1 (pc' := 10) (lv' := [(1, .int (Int32.ofInt r22)), (0, .ref 95)]) (st' := [.int (Int32.ofInt 1)]) rfl ?_
    exact lf_retI rfl rfl h
-- fm_196 Model.readText 95
def fm_196_p44 (Q : Int → lf_Z → Prop) (X44 : lf_Z → Prop) (s : lf_Z) : Prop := lf_R (s.1 95 9) ∧ ((s.1 95 9 = 0 → (Q 0 s)) ∧ (¬ (s.1 95 9 = 0) → (fm_202 (fun r25 s24 => (lf_R r25 ∧ ((r25 = 0 → (X44 s24)) ∧ (¬ (r25 = 0) → (Q r25 s24))))) s)))
def fm_196_p44L (Q : Int → lf_Z → Prop) (s : lf_Z) : Prop := ∀ X44 : lf_Z → Prop, (∀ (s : lf_Z), fm_196_p44 Q X44 s → X44 s) → X44 s
set_option maxRecDepth 100000 in
theorem gm_196_p44 {L : Nat} {xs : Nat → Int32} {d : Nat} {Q : Int → lf_Z → Prop} {s : lf_Z} {X44 : lf_Z → Prop} (hX44 : ∀ s, X44 s → lf_E (px_ro L xs) (d + 12) 196 44 [(0, .ref 95)] [] s (lf_qi Q)) (h : fm_196_p44 Q X44 s) : lf_E (px_ro L xs) (d + 12) 196 44 [(0, .ref 95)] [] s (lf_qi Q) := by
  unfold fm_196_p44 at h
  refine lf_seg 1 (pc' := 45) (lv' := [(0, .ref 95)]) (st' := [.ref 95]) rfl ?_
  refine lf_getI 48 9 rfl rfl rfl rfl rfl rfl rfl ?_
  obtain ⟨o23, h⟩ := h
  refine lf_if_eq 65 51 rfl rfl rfl o23 (fun c => ?_) (fun c => ?_)
  · have h := h.1 c
    refine lf_seg 1 (pc' := 66) (lv' := [(0, .ref 95)]) (st' := [.int (Int32.ofInt 0)]) rfl ?_
    exact lf_retI rfl rfl h
  · have h := h.2 c
    refine lf_seg 1 (pc' := 52) (lv' := [(0, .ref 95)]) (st' := [.ref 95]) rfl ?_
    refine lf_callI 55 rfl rfl rfl rfl (gm_202 h) (fun r25 s24 h => ?_)
    refine lf_seg 2 (pc' := 57) (lv' := [(1, .int (Int32.ofInt r25)), (0, .ref 95)]) (st' := [.int (Int32.ofInt r25)]) rfl ?_
    obtain ⟨o26, h⟩ := h
    refine lf_if_eq 62 60 rfl rfl rfl o26 (fun c => ?_) (fun c => ?_)
    · have h := h.1 c
      refine lf_seg 1 (pc' := 44) (lv' := [(1, .int (Int32.ofInt r25)), (0, .ref 95)]) (st' := []) rfl ?_
      refine lf_sub (l := [(0, .ref 95)]) (lf_sb1 rfl lf_sb0) ?_
      exact hX44 _ h
    · have h := h.2 c
      refine lf_seg 1 (pc' := 61) (lv' := [(1, .int (Int32.ofInt r25)), (0, .ref 95)]) (st' := [.int (Int32.ofInt r25)]) rfl ?_
      exact lf_retI rfl rfl h
theorem gm_196_p44L {L : Nat} {xs : Nat → Int32} {d : Nat} {Q : Int → lf_Z → Prop} {s : lf_Z} (h : fm_196_p44L Q s) : lf_E (px_ro L xs) (d + 12) 196 44 [(0, .ref 95)] [] s (lf_qi Q) :=
  h (fun s => lf_E (px_ro L xs) (d + 12) 196 44 [(0, .ref 95)] [] s (lf_qi Q)) (fun s hb => gm_196_p44 (fun _ h => h) hb)
def fm_196 (Q : Int → lf_Z → Prop) (s : lf_Z) : Prop := (0 ≤ 705 * (s.1 96 7) ∧ 705 * (s.1 96 7) < 2820) ∧ (fm_197 (fun s22 => (fm_196_p44L Q s22)) (lf_up (lf_up (lf_up (lf_up (lf_up s.1 95 12 (705 * (s.1 96 7))) 98 (705 * (s.1 96 7)) 0) 95 13 0) 95 24 0) 95 7 0, s.2.1, s.2.2))
set_option maxRecDepth 100000 in
theorem gm_196 {L : Nat} {xs : Nat → Int32} {d : Nat} {Q : Int → lf_Z → Prop} {s : lf_Z} (h : fm_196 Q s) : lf_M (px_ro L xs) (d + 12) 196 [.ref 95] s (lf_qi Q) := by
  unfold fm_196 at h
  show lf_E (px_ro L xs) (d + 12) 196 0 [(0, .ref 95)] [] s _
  refine lf_seg 1 (pc' := 1) (lv' := [(0, .ref 95)]) (st' := [.ref 95]) rfl ?_
  refine lf_sipush 4 705 rfl rfl (by decide) (by decide) ?_
  refine lf_seg 2 (pc' := 8) (lv' := [(0, .ref 95)]) (st' := [.ref 96, .int (Int32.ofInt 705), .ref 95]) rfl ?_
  refine lf_bipush 10 7 rfl rfl (by decide) (by decide) ?_
  refine lf_iald 11 1538 rfl rfl rfl rfl rfl rfl ⟨by decide, by decide⟩ ?_
  refine lf_imul 12 rfl rfl ?_
  refine lf_putI 15 12 rfl rfl rfl rfl rfl rfl rfl rfl ?_
  refine lf_as (lf_up s.1 95 12 (705 * (s.1 96 7)), s.2.1, s.2.2) rfl ?_
  refine lf_seg 3 (pc' := 20) (lv' := [(0, .ref 95)]) (st' := [.ref 95, .ref 98]) rfl ?_
  refine lf_getI 23 12 rfl rfl rfl rfl rfl rfl rfl ?_
  refine lf_seg 1 (pc' := 24) (lv' := [(0, .ref 95)]) (st' := [.int (Int32.ofInt 0), .int (Int32.ofInt (705 * (s.1 96 7))), .ref 98]) rfl ?_
  obtain ⟨o21, h⟩ := h
  refine lf_iast 25 2820 rfl rfl rfl rfl rfl rfl o21 ?_
  refine lf_as (lf_up (lf_up s.1 95 12 (705 * (s.1 96 7))) 98 (705 * (s.1 96 7)) 0, s.2.1, s.2.2) rfl ?_
  refine lf_seg 2 (pc' := 27) (lv' := [(0, .ref 95)]) (st' := [.int (Int32.ofInt 0), .ref 95]) rfl ?_
  refine lf_putI 30 13 rfl rfl rfl rfl rfl rfl rfl rfl ?_
  refine lf_as (lf_up (lf_up (lf_up s.1 95 12 (705 * (s.1 96 7))) 98 (705 * (s.1 96 7)) 0) 95 13 0, s.2.1, s.2.2) rfl ?_
  refine lf_seg 2 (pc' := 32) (lv' := [(0, .ref 95)]) (st' := [.int (Int32.ofInt 0), .ref 95]) rfl ?_
  refine lf_putI 35 24 rfl rfl rfl rfl rfl rfl rfl rfl ?_
  refine lf_as (lf_up (lf_up (lf_up (lf_up s.1 95 12 (705 * (s.1 96 7))) 98 (705 * (s.1 96 7)) 0) 95 13 0) 95 24 0, s.2.1, s.2.2) rfl ?_
  refine lf_seg 2 (pc' := 37) (lv' := [(0, .ref 95)]) (st' := [.int (Int32.ofInt 0), .ref 95]) rfl ?_
  refine lf_putI 40 7 rfl rfl rfl rfl rfl rfl rfl rfl ?_
  refine lf_as (lf_up (lf_up (lf_up (lf_up (lf_up s.1 95 12 (705 * (s.1 96 7))) 98 (705 * (s.1 96 7)) 0) 95 13 0) 95 24 0) 95 7 0, s.2.1, s.2.2) rfl ?_
  refine lf_seg 1 (pc' := 41) (lv' := [(0, .ref 95)]) (st' := [.ref 95]) rfl ?_
  refine lf_callV 44 rfl rfl rfl rfl (gm_197 h) (fun s22 h => ?_)
  refine lf_sub (l := [(0, .ref 95)]) (lf_sb1 rfl lf_sb0) ?_
  exact gm_196_p44L h
-- fm_195 Model.text 95
def fm_195_p37 (Q : Int → lf_Z → Prop) (y1 : Int) (s : lf_Z) : Prop := lf_R (s.1 95 5) ∧ ((s.1 95 5 = 0 → (Q (((s.1 96 7) + 1) - 1) (lf_up (lf_up (lf_up s.1 95 6 y1) 95 4 0) 96 7 ((s.1 96 7) + 1), s.2.1, s.2.2))) ∧ (¬ (s.1 95 5 = 0) → (Q (-1) (lf_up (lf_up s.1 95 6 y1) 95 4 0, s.2.1, s.2.2))))
set_option maxRecDepth 100000 in
theorem gm_195_p37 {L : Nat} {xs : Nat → Int32} {d : Nat} {Q : Int → lf_Z → Prop} {y1 : Int} {s : lf_Z} (h : fm_195_p37 Q y1 s) : lf_E (px_ro L xs) (d + 13) 195 37 [(0, .ref 95)] [.int (Int32.ofInt y1), .ref 95] s (lf_qi Q) := by
  unfold fm_195_p37 at h
  refine lf_putI 40 6 rfl rfl rfl rfl rfl rfl rfl rfl ?_
  refine lf_as (lf_up s.1 95 6 y1, s.2.1, s.2.2) rfl ?_
  refine lf_seg 2 (pc' := 42) (lv' := [(0, .ref 95)]) (st' := [.int (Int32.ofInt 0), .ref 95]) rfl ?_
  refine lf_putI 45 4 rfl rfl rfl rfl rfl rfl rfl rfl ?_
  refine lf_as (lf_up (lf_up s.1 95 6 y1) 95 4 0, s.2.1, s.2.2) rfl ?_
  refine lf_seg 1 (pc' := 46) (lv' := [(0, .ref 95)]) (st' := [.ref 95]) rfl ?_
  refine lf_getI 49 5 rfl rfl rfl rfl rfl rfl rfl ?_
  refine lf_seg 0 (pc' := 49) (lv' := [(0, .ref 95)]) (st' := [.int (Int32.ofInt (s.1 95 5))]) rfl ?_
  obtain ⟨o25, h⟩ := h
  refine lf_if_eq 54 52 rfl rfl rfl o25 (fun c => ?_) (fun c => ?_)
  · have h := h.1 c
    refine lf_seg 2 (pc' := 58) (lv' := [(0, .ref 95)]) (st' := [.ref 96]) rfl ?_
    refine lf_bipush 60 7 rfl rfl (by decide) (by decide) ?_
    refine lf_seg 1 (pc' := 61) (lv' := [(0, .ref 95)]) (st' := [.int (Int32.ofInt 7), .ref 96, .int (Int32.ofInt 7), .ref 96]) rfl ?_
    refine lf_iald 62 1538 rfl rfl rfl rfl rfl rfl ⟨by decide, by decide⟩ ?_
    refine lf_seg 1 (pc' := 63) (lv' := [(0, .ref 95)]) (st' := [.int (Int32.ofInt 1), .int (Int32.ofInt (s.1 96 7)), .int (Int32.ofInt 7), .ref 96]) rfl ?_
    refine lf_iadd 64 rfl rfl ?_
    refine lf_iast 65 1538 rfl rfl rfl rfl rfl rfl ⟨by decide, by decide⟩ ?_
    refine lf_as (lf_up (lf_up (lf_up s.1 95 6 y1) 95 4 0) 96 7 ((s.1 96 7) + 1), s.2.1, s.2.2) rfl ?_
    refine lf_seg 2 (pc' := 69) (lv' := [(0, .ref 95)]) (st' := [.ref 96]) rfl ?_
    refine lf_bipush 71 7 rfl rfl (by decide) (by decide) ?_
    refine lf_iald 72 1538 rfl rfl rfl rfl rfl rfl ⟨by decide, by decide⟩ ?_
    refine lf_seg 1 (pc' := 73) (lv' := [(0, .ref 95)]) (st' := [.int (Int32.ofInt 1), .int (Int32.ofInt ((s.1 96 7) + 1))]) rfl ?_
    refine lf_isub 74 rfl rfl ?_
    exact lf_retI rfl rfl h
  · have h := h.2 c
    refine lf_seg 1 (pc' := 53) (lv' := [(0, .ref 95)]) (st' := [.int (Int32.ofInt (-1))]) rfl ?_
    exact lf_retI rfl rfl h
def fm_195 (Q : Int → lf_Z → Prop) (s : lf_Z) : Prop := lf_R (s.1 96 7) ∧ ((s.1 96 7 ≠ 4 → (fm_196 (fun r23 s22 => (lf_R r23 ∧ ((r23 ≠ 0 → (fm_195_p37 Q (s22.1 95 8) (lf_up s22.1 95 5 r23, s22.2.1, s22.2.2))) ∧ (¬ (r23 ≠ 0) → (fm_195_p37 Q (-1) (lf_up s22.1 95 5 r23, s22.2.1, s22.2.2)))))) s)) ∧ (¬ (s.1 96 7 ≠ 4) → (Q (-1) s)))
set_option maxRecDepth 100000 in
theorem gm_195 {L : Nat} {xs : Nat → Int32} {d : Nat} {Q : Int → lf_Z → Prop} {s : lf_Z} (h : fm_195 Q s) : lf_M (px_ro L xs) (d + 13) 195 [.ref 95] s (lf_qi Q) := by
  unfold fm_195 at h
  show lf_E (px_ro L xs) (d + 13) 195 0 [(0, .ref 95)] [] s _
  refine lf_seg 2 (pc' := 4) (lv' := [(0, .ref 95)]) (st' := [.ref 96]) rfl ?_
  refine lf_bipush 6 7 rfl rfl (by decide) (by decide) ?_
  refine lf_iald 7 1538 rfl rfl rfl rfl rfl rfl ⟨by decide, by decide⟩ ?_
  refine lf_seg 1 (pc' := 8) (lv' := [(0, .ref 95)]) (st' := [.int (Int32.ofInt 4), .int (Int32.ofInt (s.1 96 7))]) rfl ?_
  obtain ⟨o21, h⟩ := h
  refine lf_icmp_ne 13 11 rfl rfl rfl o21 ⟨by decide, by decide⟩ (fun c => ?_) (fun c => ?_)
  · have h := h.1 c
    refine lf_seg 2 (pc' := 15) (lv' := [(0, .ref 95)]) (st' := [.ref 95, .ref 95]) rfl ?_
    refine lf_callI 18 rfl rfl rfl rfl (gm_196 h) (fun r23 s22 h => ?_)
    refine lf_putI 21 5 rfl rfl rfl rfl rfl rfl rfl rfl ?_
    refine lf_as (lf_up s22.1 95 5 r23, s22.2.1, s22.2.2) rfl ?_
    refine lf_seg 2 (pc' := 23) (lv' := [(0, .ref 95)]) (st' := [.ref 95, .ref 95]) rfl ?_
    refine lf_getI 26 5 rfl rfl rfl rfl rfl rfl rfl ?_
    refine lf_seg 0 (pc' := 26) (lv' := [(0, .ref 95)]) (st' := [.int (Int32.ofInt r23), .ref 95]) rfl ?_
    obtain ⟨o24, h⟩ := h
    refine lf_if_ne 33 29 rfl rfl rfl o24 (fun c => ?_) (fun c => ?_)
    · have h := h.1 c
      refine lf_seg 1 (pc' := 34) (lv' := [(0, .ref 95)]) (st' := [.ref 95, .ref 95]) rfl ?_
      refine lf_getI 37 8 rfl rfl rfl rfl rfl rfl rfl ?_
      refine lf_seg 0 (pc' := 37) (lv' := [(0, .ref 95)]) (st' := [.int (Int32.ofInt (s22.1 95 8)), .ref 95]) rfl ?_
      refine lf_sub (l := [(0, .ref 95)]) (lf_sb1 rfl lf_sb0) ?_
      exact gm_195_p37 h
    · have h := h.2 c
      refine lf_seg 2 (pc' := 37) (lv' := [(0, .ref 95)]) (st' := [.int (Int32.ofInt (-1)), .ref 95]) rfl ?_
      refine lf_sub (l := [(0, .ref 95)]) (lf_sb1 rfl lf_sb0) ?_
      exact gm_195_p37 h
  · have h := h.2 c
    refine lf_seg 1 (pc' := 12) (lv' := [(0, .ref 95)]) (st' := [.int (Int32.ofInt (-1))]) rfl ?_
    exact lf_retI rfl rfl h
-- fm_59 ElevenBullocks.fault 0 i
def fm_59 (a1 : Int) (Q : Int → lf_Z → Prop) (s : lf_Z) : Prop := lf_R a1 ∧ ((a1 ≠ 0 → ((a1 ≠ 1 → (Q (-1) s)) ∧ (¬ (a1 ≠ 1) → (Q (s.1 31 3) s)))) ∧ (¬ (a1 ≠ 0) → (Q (s.1 31 2) s)))
set_option maxRecDepth 100000 in
theorem gm_59 {L : Nat} {xs : Nat → Int32} {d : Nat} {a1 : Int} {Q : Int → lf_Z → Prop} {s : lf_Z} (h : fm_59 a1 Q s) : lf_M (px_ro L xs) (d + 1) 59 [.ref 0, .int (Int32.ofInt a1)] s (lf_qi Q) := by
  unfold fm_59 at h
  show lf_E (px_ro L xs) (d + 1) 59 0 [(0, .ref 0), (1, .int (Int32.ofInt a1))] [] s _
  refine lf_seg 1 (pc' := 1) (lv' := [(0, .ref 0), (1, .int (Int32.ofInt a1))]) (st' := [.int (Int32.ofInt a1)]) rfl ?_
  obtain ⟨o21, h⟩ := h
  refine lf_if_ne 12 4 rfl rfl rfl o21 (fun c => ?_) (fun c => ?_)
  · have h := h.1 c
    refine lf_seg 2 (pc' := 14) (lv' := [(0, .ref 0), (1, .int (Int32.ofInt a1))]) (st' := [.int (Int32.ofInt 1), .int (Int32.ofInt a1)]) rfl ?_
    refine lf_icmp_ne 27 17 rfl rfl rfl o21 ⟨by decide, by decide⟩ (fun c => ?_) (fun c => ?_)
    · have h := h.1 c
      refine lf_seg 1 (pc' := 28) (lv' := [(0, .ref 0), (1, .int (Int32.ofInt a1))]) (st' := [.int (Int32.ofInt (-1))]) rfl ?_
      exact lf_retI rfl rfl h
    · have h := h.2 c
      refine lf_seg 2 (pc' := 21) (lv' := [(0, .ref 0), (1, .int (Int32.ofInt a1))]) (st' := [.ref 31]) rfl ?_
      refine lf_getI 24 3 rfl rfl rfl rfl rfl rfl rfl ?_
      refine lf_seg 1 (pc' := 28) (lv' := [(0, .ref 0), (1, .int (Int32.ofInt a1))]) (st' := [.int (Int32.ofInt (s.1 31 3))]) rfl ?_
      exact lf_retI rfl rfl h
  · have h := h.2 c
    refine lf_seg 2 (pc' := 8) (lv' := [(0, .ref 0), (1, .int (Int32.ofInt a1))]) (st' := [.ref 31]) rfl ?_
    refine lf_getI 11 2 rfl rfl rfl rfl rfl rfl rfl ?_
    exact lf_retI rfl rfl h
