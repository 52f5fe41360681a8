-- fm_208 Model.w5 i i i i i
def fm_208 (a0 : Int) (a1 : Int) (a2 : Int) (a3 : Int) (a4 : Int) (Q : Int → lf_Z → Prop) (s : lf_Z) : Prop := fm_204 a0 a1 a2 a3 (fun r22 s21 => (lf_R a4 ∧ (Q (lf_lor (lf_lshl (lf_wl r22) 8) a4) s21))) s
set_option maxRecDepth 100000 in
theorem gm_208 {L : Nat} {xs : Nat → Int32} {d : Nat} {a0 : Int} {a1 : Int} {a2 : Int} {a3 : Int} {a4 : Int} {Q : Int → lf_Z → Prop} {s : lf_Z} (h : fm_208 a0 a1 a2 a3 a4 Q s) : lf_M (px_ro L xs) (d + 4) 208 [.int (Int32.ofInt a0), .int (Int32.ofInt a1), .int (Int32.ofInt a2), .int (Int32.ofInt a3), .int (Int32.ofInt a4)] s (lf_ql Q) := by
  unfold fm_208 at h
  show lf_E (px_ro L xs) (d + 4) 208 0 [(0, .int (Int32.ofInt a0)), (1, .int (Int32.ofInt a1)), (2, .int (Int32.ofInt a2)), (3, .int (Int32.ofInt a3)), (4, .int (Int32.ofInt a4))] [] s _
  refine lf_seg 4 (pc' := 4) (lv' := [(0, .int (Int32.ofInt a0)), (1, .int (Int32.ofInt a1)), (2, .int (Int32.ofInt a2)), (3, .int (Int32.ofInt a3)), (4, .int (Int32.ofInt a4))]) (st' := [.int (Int32.ofInt a3), .int (Int32.ofInt a2), .int (Int32.ofInt a1), .int (Int32.ofInt a0)]) rfl ?_
  refine lf_callL 7 rfl rfl rfl rfl (gm_204 h) (fun r22 s21 h => ?_)
  refine lf_wtL ?_
  refine lf_bipush 9 8 rfl rfl (by decide) (by decide) ?_
  refine lf_lshl' 10 rfl rfl ?_
  refine lf_seg 1 (pc' := 12) (lv' := [(0, .int (Int32.ofInt a0)), (1, .int (Int32.ofInt a1)), (2, .int (Int32.ofInt a2)), (3, .int (Int32.ofInt a3)), (4, .int (Int32.ofInt a4))]) (st' := [.int (Int32.ofInt a4), .long (Int64.ofInt (lf_lshl (lf_wl r22) 8))]) rfl ?_
  obtain ⟨o23, h⟩ := h
  refine lf_i2l 13 rfl rfl o23 ?_
  refine lf_lor' 14 rfl rfl ?_
  exact lf_retL rfl rfl h
-- fm_209 Model.w6 i i i i i i
def fm_209 (a0 : Int) (a1 : Int) (a2 : Int) (a3 : Int) (a4 : Int) (a5 : Int) (Q : Int → lf_Z → Prop) (s : lf_Z) : Prop := fm_208 a0 a1 a2 a3 a4 (fun r22 s21 => (lf_R a5 ∧ (Q (lf_lor (lf_lshl (lf_wl r22) 8) a5) s21))) s
set_option maxRecDepth 100000 in
theorem gm_209 {L : Nat} {xs : Nat → Int32} {d : Nat} {a0 : Int} {a1 : Int} {a2 : Int} {a3 : Int} {a4 : Int} {a5 : Int} {Q : Int → lf_Z → Prop} {s : lf_Z} (h : fm_209 a0 a1 a2 a3 a4 a5 Q s) : lf_M (px_ro L xs) (d + 5) 209 [.int (Int32.ofInt a0), .int (Int32.ofInt a1), .int (Int32.ofInt a2), .int (Int32.ofInt a3), .int (Int32.ofInt a4), .int (Int32.ofInt a5)] s (lf_ql Q) := by
  unfold fm_209 at h
  show lf_E (px_ro L xs) (d + 5) 209 0 [(0, .int (Int32.ofInt a0)), (1, .int (Int32.ofInt a1)), (2, .int (Int32.ofInt a2)), (3, .int (Int32.ofInt a3)), (4, .int (Int32.ofInt a4)), (5, .int (Int32.ofInt a5))] [] s _
  refine lf_seg 5 (pc' := 6) (lv' := [(0, .int (Int32.ofInt a0)), (1, .int (Int32.ofInt a1)), (2, .int (Int32.ofInt a2)), (3, .int (Int32.ofInt a3)), (4, .int (Int32.ofInt a4)), (5, .int (Int32.ofInt a5))]) (st' := [.int (Int32.ofInt a4), .int (Int32.ofInt a3), .int (Int32.ofInt a2), .int (Int32.ofInt a1), .int (Int32.ofInt a0)]) rfl ?_
  refine lf_callL 9 rfl rfl rfl rfl (gm_208 h) (fun r22 s21 h => ?_)
  refine lf_wtL ?_
  refine lf_bipush 11 8 rfl rfl (by decide) (by decide) ?_
  refine lf_lshl' 12 rfl rfl ?_
  refine lf_seg 1 (pc' := 14) (lv' := [(0, .int (Int32.ofInt a0)), (1, .int (Int32.ofInt a1)), (2, .int (Int32.ofInt a2)), (3, .int (Int32.ofInt a3)), (4, .int (Int32.ofInt a4)), (5, .int (Int32.ofInt a5))]) (st' := [.int (Int32.ofInt a5), .long (Int64.ofInt (lf_lshl (lf_wl r22) 8))]) rfl ?_
  obtain ⟨o23, h⟩ := h
  refine lf_i2l 15 rfl rfl o23 ?_
  refine lf_lor' 16 rfl rfl ?_
  exact lf_retL rfl rfl h
-- fm_203 Model.sortOf 95
def fm_203 (Q : Int → lf_Z → Prop) (s : lf_Z) : Prop := fm_204 112 97 99 101 (fun r22 s21 => (fm_207 (lf_wl r22) (fun z24 s23 => ((z24 = false → (fm_208 116 97 107 101 115 (fun r26 s25 => (fm_207 (lf_wl r26) (fun z28 s27 => ((z28 = false → (fm_204 112 97 121 115 (fun r30 s29 => (fm_207 (lf_wl r30) (fun z32 s31 => ((z32 = false → (fm_205 115 116 114 (fun r34 s33 => (fm_204 101 116 99 104 (fun r36 s35 => (fm_207 (lf_lor (lf_lshl (lf_wl r34) 32) (lf_wl r36)) (fun z38 s37 => ((z38 = false → (fm_205 119 97 121 (fun r40 s39 => (fm_207 (lf_wl r40) (fun z42 s41 => ((z42 = false → (fm_204 112 97 116 104 (fun r44 s43 => (fm_207 (lf_wl r44) (fun z46 s45 => ((z46 = false → (fm_205 111 110 101 (fun r48 s47 => (fm_207 (lf_wl r48) (fun z50 s49 => ((z50 = false → (fm_208 115 116 114 97 121 (fun r52 s51 => (fm_207 (lf_wl r52) (fun z54 s53 => ((z54 = false → (fm_204 115 101 110 100 (fun r56 s55 => (fm_207 (lf_wl r56) (fun z58 s57 => ((z58 = false → (fm_204 115 104 117 116 (fun r60 s59 => (fm_207 (lf_wl r60) (fun z62 s61 => ((z62 = false → (fm_204 111 112 101 110 (fun r64 s63 => (fm_207 (lf_wl r64) (fun z66 s65 => ((z66 = false → (fm_208 115 112 108 105 116 (fun r68 s67 => (fm_207 (lf_wl r68) (fun z70 s69 => ((z70 = false → (fm_209 109 105 110 117 116 101 (fun r72 s71 => (fm_207 (lf_wl r72) (fun z74 s73 => ((z74 = false → (Q (-1) s73)) ∧ (z74 = true → (Q 12 s73)))) s71)) s69)) ∧ (z70 = true → (Q 11 s69)))) s67)) s65)) ∧ (z66 = true → (Q 10 s65)))) s63)) s61)) ∧ (z62 = true → (Q 9 s61)))) s59)) s57)) ∧ (z58 = true → (Q 8 s57)))) s55)) s53)) ∧ (z54 = true → (Q 7 s53)))) s51)) s49)) ∧ (z50 = true → (Q 6 s49)))) s47)) s45)) ∧ (z46 = true → (Q 5 s45)))) s43)) s41)) ∧ (z42 = true → (Q 4 s41)))) s39)) s37)) ∧ (z38 = true → (Q 3 s37)))) s35)) s33)) s31)) ∧ (z32 = true → (Q 2 s31)))) s29)) s27)) ∧ (z28 = true → (Q 1 s27)))) s25)) s23)) ∧ (z24 = true → (Q 0 s23)))) s21)) s
set_option maxRecDepth 100000 in
theorem gm_203 {L : Nat} {xs : Nat → Int32} {d : Nat} {Q : Int → lf_Z → Prop} {s : lf_Z} (h : fm_203 Q s) : lf_M (px_ro L xs) (d + 6) 203 [.ref 95] s (lf_qi Q) := by
  unfold fm_203 at h
  show lf_E (px_ro L xs) (d + 6) 203 0 [(0, .ref 95)] [] s _
  refine lf_seg 1 (pc' := 1) (lv' := [(0, .ref 95)]) (st' := [.ref 95]) rfl ?_
  refine lf_bipush 3 112 rfl rfl (by decide) (by decide) ?_
  refine lf_bipush 5 97 rfl rfl (by decide) (by decide) ?_
  refine lf_bipush 7 99 rfl rfl (by decide) (by decide) ?_
  refine lf_bipush 9 101 rfl rfl (by decide) (by decide) ?_
  refine lf_callL 12 rfl rfl rfl rfl (gm_204 h) (fun r22 s21 h => ?_)
  refine lf_wtL ?_
  refine lf_callZ 15 rfl rfl rfl rfl (gm_207 h) (fun z24 s23 h => ?_)
  refine lf_ifz_eq 20 18 rfl rfl rfl (fun c => ?_) (fun c => ?_)
  · have h := h.1 c
    refine lf_seg 1 (pc' := 21) (lv' := [(0, .ref 95)]) (st' := [.ref 95]) rfl ?_
    refine lf_bipush 23 116 rfl rfl (by decide) (by decide) ?_
    refine lf_bipush 25 97 rfl rfl (by decide) (by decide) ?_
    refine lf_bipush 27 107 rfl rfl (by decide) (by decide) ?_
    refine lf_bipush 29 101 rfl rfl (by decide) (by decide) ?_
    refine lf_bipush 31 115 rfl rfl (by decide) (by decide) ?_
    refine lf_callL 34 rfl rfl rfl rfl (gm_208 h) (fun r26 s25 h => ?_)
    refine lf_wtL ?_
    refine lf_callZ 37 rfl rfl rfl rfl (gm_207 h) (fun z28 s27 h => ?_)
    refine lf_ifz_eq 42 40 rfl rfl rfl (fun c => ?_) (fun c => ?_)
    · have h := h.1 c
      refine lf_seg 1 (pc' := 43) (lv' := [(0, .ref 95)]) (st' := [.ref 95]) rfl ?_
      refine lf_bipush 45 112 rfl rfl (by decide) (by decide) ?_
      refine lf_bipush 47 97 rfl rfl (by decide) (by decide) ?_
      refine lf_bipush 49 121 rfl rfl (by decide) (by decide) ?_
      refine lf_bipush 51 115 rfl rfl (by decide) (by decide) ?_
      refine lf_callL 54 rfl rfl rfl rfl (gm_204 h) (fun r30 s29 h => ?_)
      refine lf_wtL ?_
      refine lf_callZ 57 rfl rfl rfl rfl (gm_207 h) (fun z32 s31 h => ?_)
      refine lf_ifz_eq 62 60 rfl rfl rfl (fun c => ?_) (fun c => ?_)
      · have h := h.1 c
        refine lf_seg 1 (pc' := 63) (lv' := [(0, .ref 95)]) (st' := [.ref 95]) rfl ?_
        refine lf_bipush 65 115 rfl rfl (by decide) (by decide) ?_
        refine lf_bipush 67 116 rfl rfl (by decide) (by decide) ?_
        refine lf_bipush 69 114 rfl rfl (by decide) (by decide) ?_
        refine lf_callL 72 rfl rfl rfl rfl (gm_205 h) (fun r34 s33 h => ?_)
        refine lf_wtL ?_
        refine lf_bipush 74 32 rfl rfl (by decide) (by decide) ?_
        refine lf_lshl' 75 rfl rfl ?_
        refine lf_bipush 77 101 rfl rfl (by decide) (by decide) ?_
        refine lf_bipush 79 116 rfl rfl (by decide) (by decide) ?_
        refine lf_bipush 81 99 rfl rfl (by decide) (by decide) ?_
        refine lf_bipush 83 104 rfl rfl (by decide) (by decide) ?_
        refine lf_callL 86 rfl rfl rfl rfl (gm_204 h) (fun r36 s35 h => ?_)
        refine lf_wtL ?_
        refine lf_lor' 87 rfl rfl ?_
        refine lf_callZ 90 rfl rfl rfl rfl (gm_207 h) (fun z38 s37 h => ?_)
        refine lf_ifz_eq 95 93 rfl rfl rfl (fun c => ?_) (fun c => ?_)
        · have h := h.1 c
          refine lf_seg 1 (pc' := 96) (lv' := [(0, .ref 95)]) (st' := [.ref 95]) rfl ?_
          refine lf_bipush 98 119 rfl rfl (by decide) (by decide) ?_
          refine lf_bipush 100 97 rfl rfl (by decide) (by decide) ?_
          refine lf_bipush 102 121 rfl rfl (by decide) (by decide) ?_
          refine lf_callL 105 rfl rfl rfl rfl (gm_205 h) (fun r40 s39 h => ?_)
          refine lf_wtL ?_
          refine lf_callZ 108 rfl rfl rfl rfl (gm_207 h) (fun z42 s41 h => ?_)
          refine lf_ifz_eq 113 111 rfl rfl rfl (fun c => ?_) (fun c => ?_)
          · have h := h.1 c
            refine lf_seg 1 (pc' := 114) (lv' := [(0, .ref 95)]) (st' := [.ref 95]) rfl ?_
            refine lf_bipush 116 112 rfl rfl (by decide) (by decide) ?_
            refine lf_bipush 118 97 rfl rfl (by decide) (by decide) ?_
            refine lf_bipush 120 116 rfl rfl (by decide) (by decide) ?_
            refine lf_bipush 122 104 rfl rfl (by decide) (by decide) ?_
            refine lf_callL 125 rfl rfl rfl rfl (gm_204 h) (fun r44 s43 h => ?_)
            refine lf_wtL ?_
            refine lf_callZ 128 rfl rfl rfl rfl (gm_207 h) (fun z46 s45 h => ?_)
            refine lf_ifz_eq 133 131 rfl rfl rfl (fun c => ?_) (fun c => ?_)
            · have h := h.1 c
              refine lf_seg 1 (pc' := 134) (lv' := [(0, .ref 95)]) (st' := [.ref 95]) rfl ?_
              refine lf_bipush 136 111 rfl rfl (by decide) (by decide) ?_
              refine lf_bipush 138 110 rfl rfl (by decide) (by decide) ?_
              refine lf_bipush 140 101 rfl rfl (by decide) (by decide) ?_
              refine lf_callL 143 rfl rfl rfl rfl (gm_205 h) (fun r48 s47 h => ?_)
              refine lf_wtL ?_
              refine lf_callZ 146 rfl rfl rfl rfl (gm_207 h) (fun z50 s49 h => ?_)
              refine lf_ifz_eq 152 149 rfl rfl rfl (fun c => ?_) (fun c => ?_)
              · have h := h.1 c
                refine lf_seg 1 (pc' := 153) (lv' := [(0, .ref 95)]) (st' := [.ref 95]) rfl ?_
                refine lf_bipush 155 115 rfl rfl (by decide) (by decide) ?_
                refine lf_bipush 157 116 rfl rfl (by decide) (by decide) ?_
                refine lf_bipush 159 114 rfl rfl (by decide) (by decide) ?_
                refine lf_bipush 161 97 rfl rfl (by decide) (by decide) ?_
                refine lf_bipush 163 121 rfl rfl (by decide) (by decide) ?_
                refine lf_callL 166 rfl rfl rfl rfl (gm_208 h) (fun r52 s51 h => ?_)
                refine lf_wtL ?_
                refine lf_callZ 169 rfl rfl rfl rfl (gm_207 h) (fun z54 s53 h => ?_)
                refine lf_ifz_eq 175 172 rfl rfl rfl (fun c => ?_) (fun c => ?_)
                · have h := h.1 c
                  refine lf_seg 1 (pc' := 176) (lv' := [(0, .ref 95)]) (st' := [.ref 95]) rfl ?_
                  refine lf_bipush 178 115 rfl rfl (by decide) (by decide) ?_
                  refine lf_bipush 180 101 rfl rfl (by decide) (by decide) ?_
                  refine lf_bipush 182 110 rfl rfl (by decide) (by decide) ?_
                  refine lf_bipush 184 100 rfl rfl (by decide) (by decide) ?_
                  refine lf_callL 187 rfl rfl rfl rfl (gm_204 h) (fun r56 s55 h => ?_)
                  refine lf_wtL ?_
                  refine lf_callZ 190 rfl rfl rfl rfl (gm_207 h) (fun z58 s57 h => ?_)
                  refine lf_ifz_eq 196 193 rfl rfl rfl (fun c => ?_) (fun c => ?_)
                  · have h := h.1 c
                    refine lf_seg 1 (pc' := 197) (lv' := [(0, .ref 95)]) (st' := [.ref 95]) rfl ?_
                    refine lf_bipush 199 115 rfl rfl (by decide) (by decide) ?_
                    refine lf_bipush 201 104 rfl rfl (by decide) (by decide) ?_
                    refine lf_bipush 203 117 rfl rfl (by decide) (by decide) ?_
                    refine lf_bipush 205 116 rfl rfl (by decide) (by decide) ?_
                    refine lf_callL 208 rfl rfl rfl rfl (gm_204 h) (fun r60 s59 h => ?_)
                    refine lf_wtL ?_
                    refine lf_callZ 211 rfl rfl rfl rfl (gm_207 h) (fun z62 s61 h => ?_)
                    refine lf_ifz_eq 217 214 rfl rfl rfl (fun c => ?_) (fun c => ?_)
                    · have h := h.1 c
                      refine lf_seg 1 (pc' := 218) (lv' := [(0, .ref 95)]) (st' := [.ref 95]) rfl ?_
                      refine lf_bipush 220 111 rfl rfl (by decide) (by decide) ?_
                      refine lf_bipush 222 112 rfl rfl (by decide) (by decide) ?_
                      refine lf_bipush 224 101 rfl rfl (by decide) (by decide) ?_
                      refine lf_bipush 226 110 rfl rfl (by decide) (by decide) ?_
                      refine lf_callL 229 rfl rfl rfl rfl (gm_204 h) (fun r64 s63 h => ?_)
                      refine lf_wtL ?_
                      refine lf_callZ 232 rfl rfl rfl rfl (gm_207 h) (fun z66 s65 h => ?_)
                      refine lf_ifz_eq 238 235 rfl rfl rfl (fun c => ?_) (fun c => ?_)
                      · have h := h.1 c
                        refine lf_seg 1 (pc' := 239) (lv' := [(0, .ref 95)]) (st' := [.ref 95]) rfl ?_
                        refine lf_bipush 241 115 rfl rfl (by decide) (by decide) ?_
                        refine lf_bipush 243 112 rfl rfl (by decide) (by decide) ?_
                        refine lf_bipush 245 108 rfl rfl (by decide) (by decide) ?_
                        refine lf_bipush 247 105 rfl rfl (by decide) (by decide) ?_
                        refine lf_bipush 249 116 rfl rfl (by decide) (by decide) ?_
                        refine lf_callL 252 rfl rfl rfl rfl (gm_208 h) (fun r68 s67 h => ?_)
                        refine lf_wtL ?_
                        refine lf_callZ 255 rfl rfl rfl rfl (gm_207 h) (fun z70 s69 h => ?_)
                        refine lf_ifz_eq 263 258 rfl rfl rfl (fun c => ?_) (fun c => ?_)
                        · have h := h.1 c
                          refine lf_seg 1 (pc' := 264) (lv' := [(0, .ref 95)]) (st' := [.ref 95]) rfl ?_
                          refine lf_bipush 266 109 rfl rfl (by decide) (by decide) ?_
                          refine lf_bipush 268 105 rfl rfl (by decide) (by decide) ?_
                          refine lf_bipush 270 110 rfl rfl (by decide) (by decide) ?_
                          refine lf_bipush 272 117 rfl rfl (by decide) (by decide) ?_
                          refine lf_bipush 274 116 rfl rfl (by decide) (by decide) ?_
                          refine lf_bipush 276 101 rfl rfl (by decide) (by decide) ?_
                          refine lf_callL 279 rfl rfl rfl rfl (gm_209 h) (fun r72 s71 h => ?_)
                          refine lf_wtL ?_
                          refine lf_callZ 282 rfl rfl rfl rfl (gm_207 h) (fun z74 s73 h => ?_)
                          refine lf_ifz_eq 290 285 rfl rfl rfl (fun c => ?_) (fun c => ?_)
                          · have h := h.1 c
                            refine lf_seg 1 (pc' := 291) (lv' := [(0, .ref 95)]) (st' := [.int (Int32.ofInt (-1))]) rfl ?_
                            exact lf_retI rfl rfl h
                          · have h := h.2 c
                            refine lf_bipush 287 12 rfl rfl (by decide) (by decide) ?_
                            refine lf_seg 1 (pc' := 291) (lv' := [(0, .ref 95)]) (st' := [.int (Int32.ofInt 12)]) rfl ?_
                            exact lf_retI rfl rfl h
                        · have h := h.2 c
                          refine lf_bipush 260 11 rfl rfl (by decide) (by decide) ?_
                          refine lf_seg 1 (pc' := 291) (lv' := [(0, .ref 95)]) (st' := [.int (Int32.ofInt 11)]) rfl ?_
                          exact lf_retI rfl rfl h
                      · have h := h.2 c
                        refine lf_bipush 237 10 rfl rfl (by decide) (by decide) ?_
                        exact lf_retI rfl rfl h
                    · have h := h.2 c
                      refine lf_bipush 216 9 rfl rfl (by decide) (by decide) ?_
                      exact lf_retI rfl rfl h
                  · have h := h.2 c
                    refine lf_bipush 195 8 rfl rfl (by decide) (by decide) ?_
                    exact lf_retI rfl rfl h
                · have h := h.2 c
                  refine lf_bipush 174 7 rfl rfl (by decide) (by decide) ?_
                  exact lf_retI rfl rfl h
              · have h := h.2 c
                refine lf_bipush 151 6 rfl rfl (by decide) (by decide) ?_
                exact lf_retI rfl rfl h
            · have h := h.2 c
              refine lf_seg 1 (pc' := 132) (lv' := [(0, .ref 95)]) (st' := [.int (Int32.ofInt 5)]) rfl ?_
              exact lf_retI rfl rfl h
          · have h := h.2 c
            refine lf_seg 1 (pc' := 112) (lv' := [(0, .ref 95)]) (st' := [.int (Int32.ofInt 4)]) rfl ?_
            exact lf_retI rfl rfl h
        · have h := h.2 c
          refine lf_seg 1 (pc' := 94) (lv' := [(0, .ref 95)]) (st' := [.int (Int32.ofInt 3)]) rfl ?_
          exact lf_retI rfl rfl h
      · have h := h.2 c
        refine lf_seg 1 (pc' := 61) (lv' := [(0, .ref 95)]) (st' := [.int (Int32.ofInt 2)]) rfl ?_
        exact lf_retI rfl rfl h
    · have h := h.2 c
      refine lf_seg 1 (pc' := 41) (lv' := [(0, .ref 95)]) (st' := [.int (Int32.ofInt 1)]) rfl ?_
      exact lf_retI rfl rfl h
  · have h := h.2 c
    refine lf_seg 1 (pc' := 19) (lv' := [(0, .ref 95)]) (st' := [.int (Int32.ofInt 0)]) rfl ?_
    exact lf_retI rfl rfl h
-- fm_230 Model.nameOf 95
def fm_230 (Q : Int → lf_Z → Prop) (s : lf_Z) : Prop := lf_R (s.1 95 9) ∧ ((s.1 95 9 = 2 → (fm_204 115 105 122 101 (fun r23 s22 => ((lf_wl (s.2.1 95 11) ≠ lf_wl r23 → (fm_208 112 108 97 99 101 (fun r25 s24 => ((lf_wl (s22.2.1 95 11) ≠ lf_wl r25 → (fm_204 107 105 110 100 (fun r27 s26 => ((lf_wl (s24.2.1 95 11) ≠ lf_wl r27 → (fm_204 104 101 114 101 (fun r29 s28 => ((lf_wl (s26.2.1 95 11) ≠ lf_wl r29 → (fm_209 98 101 104 105 110 100 (fun r31 s30 => ((lf_wl (s28.2.1 95 11) ≠ lf_wl r31 → (fm_208 97 104 101 97 100 (fun r33 s32 => ((lf_wl (s30.2.1 95 11) ≠ lf_wl r33 → (fm_208 115 116 111 111 100 (fun r35 s34 => ((lf_wl (s32.2.1 95 11) ≠ lf_wl r35 → (fm_209 98 117 99 107 101 116 (fun r37 s36 => ((lf_wl (s34.2.1 95 11) ≠ lf_wl r37 → (fm_204 98 97 99 107 (fun r39 s38 => ((lf_wl (s36.2.1 95 11) ≠ lf_wl r39 → (fm_205 119 97 121 (fun r41 s40 => ((lf_wl (s38.2.1 95 11) ≠ lf_wl r41 → (fm_204 100 111 110 101 (fun r43 s42 => ((lf_wl (s40.2.1 95 11) ≠ lf_wl r43 → (Q (-1) s42)) ∧ (¬ (lf_wl (s40.2.1 95 11) ≠ lf_wl r43) → (Q 10 s42)))) s40)) ∧ (¬ (lf_wl (s38.2.1 95 11) ≠ lf_wl r41) → (Q 9 s40)))) s38)) ∧ (¬ (lf_wl (s36.2.1 95 11) ≠ lf_wl r39) → (Q 8 s38)))) s36)) ∧ (¬ (lf_wl (s34.2.1 95 11) ≠ lf_wl r37) → (Q 7 s36)))) s34)) ∧ (¬ (lf_wl (s32.2.1 95 11) ≠ lf_wl r35) → (Q 6 s34)))) s32)) ∧ (¬ (lf_wl (s30.2.1 95 11) ≠ lf_wl r33) → (Q 5 s32)))) s30)) ∧ (¬ (lf_wl (s28.2.1 95 11) ≠ lf_wl r31) → (Q 4 s30)))) s28)) ∧ (¬ (lf_wl (s26.2.1 95 11) ≠ lf_wl r29) → (Q 3 s28)))) s26)) ∧ (¬ (lf_wl (s24.2.1 95 11) ≠ lf_wl r27) → (Q 2 s26)))) s24)) ∧ (¬ (lf_wl (s22.2.1 95 11) ≠ lf_wl r25) → (Q 1 s24)))) s22)) ∧ (¬ (lf_wl (s.2.1 95 11) ≠ lf_wl r23) → (Q 0 s22)))) s)) ∧ (¬ (s.1 95 9 = 2) → (Q (-1) s)))
set_option maxRecDepth 100000 in
theorem gm_230 {L : Nat} {xs : Nat → Int32} {d : Nat} {Q : Int → lf_Z → Prop} {s : lf_Z} (h : fm_230 Q s) : lf_M (px_ro L xs) (d + 6) 230 [.ref 95] s (lf_qi Q) := by
  unfold fm_230 at h
  show lf_E (px_ro L xs) (d + 6) 230 0 [(0, .ref 95)] [] s _
  refine lf_seg 1 (pc' := 1) (lv' := [(0, .ref 95)]) (st' := [.ref 95]) rfl ?_
  refine lf_getI 4 9 rfl rfl rfl rfl rfl rfl rfl ?_
  refine lf_seg 1 (pc' := 5) (lv' := [(0, .ref 95)]) (st' := [.int (Int32.ofInt 2), .int (Int32.ofInt (s.1 95 9))]) rfl ?_
  obtain ⟨o21, h⟩ := h
  refine lf_icmp_eq 10 8 rfl rfl rfl o21 ⟨by decide, by decide⟩ (fun c => ?_) (fun c => ?_)
  · have h := h.1 c
    refine lf_seg 1 (pc' := 11) (lv' := [(0, .ref 95)]) (st' := [.ref 95]) rfl ?_
    refine lf_getJ 14 11 rfl rfl rfl rfl rfl rfl rfl ?_
    refine lf_wtL ?_
    refine lf_bipush 16 115 rfl rfl (by decide) (by decide) ?_
    refine lf_bipush 18 105 rfl rfl (by decide) (by decide) ?_
    refine lf_bipush 20 122 rfl rfl (by decide) (by decide) ?_
    refine lf_bipush 22 101 rfl rfl (by decide) (by decide) ?_
    refine lf_callL 25 rfl rfl rfl rfl (gm_204 h) (fun r23 s22 h => ?_)
    refine lf_wtL ?_
    refine lf_lif_ne 31 29 rfl rfl rfl rfl lf_RLwl lf_RLwl (fun c => ?_) (fun c => ?_)
    · have h := h.1 c
      refine lf_seg 1 (pc' := 32) (lv' := [(0, .ref 95)]) (st' := [.ref 95]) rfl ?_
      refine lf_getJ 35 11 rfl rfl rfl rfl rfl rfl rfl ?_
      refine lf_wtL ?_
      refine lf_bipush 37 112 rfl rfl (by decide) (by decide) ?_
      refine lf_bipush 39 108 rfl rfl (by decide) (by decide) ?_
      refine lf_bipush 41 97 rfl rfl (by decide) (by decide) ?_
      refine lf_bipush 43 99 rfl rfl (by decide) (by decide) ?_
      refine lf_bipush 45 101 rfl rfl (by decide) (by decide) ?_
      refine lf_callL 48 rfl rfl rfl rfl (gm_208 h) (fun r25 s24 h => ?_)
      refine lf_wtL ?_
      refine lf_lif_ne 54 52 rfl rfl rfl rfl lf_RLwl lf_RLwl (fun c => ?_) (fun c => ?_)
      · have h := h.1 c
        refine lf_seg 1 (pc' := 55) (lv' := [(0, .ref 95)]) (st' := [.ref 95]) rfl ?_
        refine lf_getJ 58 11 rfl rfl rfl rfl rfl rfl rfl ?_
        refine lf_wtL ?_
        refine lf_bipush 60 107 rfl rfl (by decide) (by decide) ?_
        refine lf_bipush 62 105 rfl rfl (by decide) (by decide) ?_
        refine lf_bipush 64 110 rfl rfl (by decide) (by decide) ?_
        refine lf_bipush 66 100 rfl rfl (by decide) (by decide) ?_
        refine lf_callL 69 rfl rfl rfl rfl (gm_204 h) (fun r27 s26 h => ?_)
        refine lf_wtL ?_
        refine lf_lif_ne 75 73 rfl rfl rfl rfl lf_RLwl lf_RLwl (fun c => ?_) (fun c => ?_)
        · have h := h.1 c
          refine lf_seg 1 (pc' := 76) (lv' := [(0, .ref 95)]) (st' := [.ref 95]) rfl ?_
          refine lf_getJ 79 11 rfl rfl rfl rfl rfl rfl rfl ?_
          refine lf_wtL ?_
          refine lf_bipush 81 104 rfl rfl (by decide) (by decide) ?_
          refine lf_bipush 83 101 rfl rfl (by decide) (by decide) ?_
          refine lf_bipush 85 114 rfl rfl (by decide) (by decide) ?_
          refine lf_bipush 87 101 rfl rfl (by decide) (by decide) ?_
          refine lf_callL 90 rfl rfl rfl rfl (gm_204 h) (fun r29 s28 h => ?_)
          refine lf_wtL ?_
          refine lf_lif_ne 96 94 rfl rfl rfl rfl lf_RLwl lf_RLwl (fun c => ?_) (fun c => ?_)
          · have h := h.1 c
            refine lf_seg 1 (pc' := 97) (lv' := [(0, .ref 95)]) (st' := [.ref 95]) rfl ?_
            refine lf_getJ 100 11 rfl rfl rfl rfl rfl rfl rfl ?_
            refine lf_wtL ?_
            refine lf_bipush 102 98 rfl rfl (by decide) (by decide) ?_
            refine lf_bipush 104 101 rfl rfl (by decide) (by decide) ?_
            refine lf_bipush 106 104 rfl rfl (by decide) (by decide) ?_
            refine lf_bipush 108 105 rfl rfl (by decide) (by decide) ?_
            refine lf_bipush 110 110 rfl rfl (by decide) (by decide) ?_
            refine lf_bipush 112 100 rfl rfl (by decide) (by decide) ?_
            refine lf_callL 115 rfl rfl rfl rfl (gm_209 h) (fun r31 s30 h => ?_)
            refine lf_wtL ?_
            refine lf_lif_ne 121 119 rfl rfl rfl rfl lf_RLwl lf_RLwl (fun c => ?_) (fun c => ?_)
            · have h := h.1 c
              refine lf_seg 1 (pc' := 122) (lv' := [(0, .ref 95)]) (st' := [.ref 95]) rfl ?_
              refine lf_getJ 125 11 rfl rfl rfl rfl rfl rfl rfl ?_
              refine lf_wtL ?_
              refine lf_bipush 127 97 rfl rfl (by decide) (by decide) ?_
              refine lf_bipush 129 104 rfl rfl (by decide) (by decide) ?_
              refine lf_bipush 131 101 rfl rfl (by decide) (by decide) ?_
              refine lf_bipush 133 97 rfl rfl (by decide) (by decide) ?_
              refine lf_bipush 135 100 rfl rfl (by decide) (by decide) ?_
              refine lf_callL 138 rfl rfl rfl rfl (gm_208 h) (fun r33 s32 h => ?_)
              refine lf_wtL ?_
              refine lf_lif_ne 144 142 rfl rfl rfl rfl lf_RLwl lf_RLwl (fun c => ?_) (fun c => ?_)
              · have h := h.1 c
                refine lf_seg 1 (pc' := 145) (lv' := [(0, .ref 95)]) (st' := [.ref 95]) rfl ?_
                refine lf_getJ 148 11 rfl rfl rfl rfl rfl rfl rfl ?_
                refine lf_wtL ?_
                refine lf_bipush 150 115 rfl rfl (by decide) (by decide) ?_
                refine lf_bipush 152 116 rfl rfl (by decide) (by decide) ?_
                refine lf_bipush 154 111 rfl rfl (by decide) (by decide) ?_
                refine lf_bipush 156 111 rfl rfl (by decide) (by decide) ?_
                refine lf_bipush 158 100 rfl rfl (by decide) (by decide) ?_
                refine lf_callL 161 rfl rfl rfl rfl (gm_208 h) (fun r35 s34 h => ?_)
                refine lf_wtL ?_
                refine lf_lif_ne 168 165 rfl rfl rfl rfl lf_RLwl lf_RLwl (fun c => ?_) (fun c => ?_)
                · have h := h.1 c
                  refine lf_seg 1 (pc' := 169) (lv' := [(0, .ref 95)]) (st' := [.ref 95]) rfl ?_
                  refine lf_getJ 172 11 rfl rfl rfl rfl rfl rfl rfl ?_
                  refine lf_wtL ?_
                  refine lf_bipush 174 98 rfl rfl (by decide) (by decide) ?_
                  refine lf_bipush 176 117 rfl rfl (by decide) (by decide) ?_
                  refine lf_bipush 178 99 rfl rfl (by decide) (by decide) ?_
                  refine lf_bipush 180 107 rfl rfl (by decide) (by decide) ?_
                  refine lf_bipush 182 101 rfl rfl (by decide) (by decide) ?_
                  refine lf_bipush 184 116 rfl rfl (by decide) (by decide) ?_
                  refine lf_callL 187 rfl rfl rfl rfl (gm_209 h) (fun r37 s36 h => ?_)
                  refine lf_wtL ?_
                  refine lf_lif_ne 194 191 rfl rfl rfl rfl lf_RLwl lf_RLwl (fun c => ?_) (fun c => ?_)
                  · have h := h.1 c
                    refine lf_seg 1 (pc' := 195) (lv' := [(0, .ref 95)]) (st' := [.ref 95]) rfl ?_
                    refine lf_getJ 198 11 rfl rfl rfl rfl rfl rfl rfl ?_
                    refine lf_wtL ?_
                    refine lf_bipush 200 98 rfl rfl (by decide) (by decide) ?_
                    refine lf_bipush 202 97 rfl rfl (by decide) (by decide) ?_
                    refine lf_bipush 204 99 rfl rfl (by decide) (by decide) ?_
                    refine lf_bipush 206 107 rfl rfl (by decide) (by decide) ?_
                    refine lf_callL 209 rfl rfl rfl rfl (gm_204 h) (fun r39 s38 h => ?_)
                    refine lf_wtL ?_
                    refine lf_lif_ne 216 213 rfl rfl rfl rfl lf_RLwl lf_RLwl (fun c => ?_) (fun c => ?_)
                    · have h := h.1 c
                      refine lf_seg 1 (pc' := 217) (lv' := [(0, .ref 95)]) (st' := [.ref 95]) rfl ?_
                      refine lf_getJ 220 11 rfl rfl rfl rfl rfl rfl rfl ?_
                      refine lf_wtL ?_
                      refine lf_bipush 222 119 rfl rfl (by decide) (by decide) ?_
                      refine lf_bipush 224 97 rfl rfl (by decide) (by decide) ?_
                      refine lf_bipush 226 121 rfl rfl (by decide) (by decide) ?_
                      refine lf_callL 229 rfl rfl rfl rfl (gm_205 h) (fun r41 s40 h => ?_)
                      refine lf_wtL ?_
                      refine lf_lif_ne 238 233 rfl rfl rfl rfl lf_RLwl lf_RLwl (fun c => ?_) (fun c => ?_)
                      · have h := h.1 c
                        refine lf_seg 1 (pc' := 239) (lv' := [(0, .ref 95)]) (st' := [.ref 95]) rfl ?_
                        refine lf_getJ 242 11 rfl rfl rfl rfl rfl rfl rfl ?_
                        refine lf_wtL ?_
                        refine lf_bipush 244 100 rfl rfl (by decide) (by decide) ?_
                        refine lf_bipush 246 111 rfl rfl (by decide) (by decide) ?_
                        refine lf_bipush 248 110 rfl rfl (by decide) (by decide) ?_
                        refine lf_bipush 250 101 rfl rfl (by decide) (by decide) ?_
                        refine lf_callL 253 rfl rfl rfl rfl (gm_204 h) (fun r43 s42 h => ?_)
                        refine lf_wtL ?_
                        refine lf_lif_ne 262 257 rfl rfl rfl rfl lf_RLwl lf_RLwl (fun c => ?_) (fun c => ?_)
                        · have h := h.1 c
                          refine lf_seg 1 (pc' := 263) (lv' := [(0, .ref 95)]) (st' := [.int (Int32.ofInt (-1))]) rfl ?_
                          exact lf_retI rfl rfl h
                        · have h := h.2 c
                          refine lf_bipush 259 10 rfl rfl (by decide) (by decide) ?_
                          refine lf_seg 1 (pc' := 263) (lv' := [(0, .ref 95)]) (st' := [.int (Int32.ofInt 10)]) rfl ?_
                          exact lf_retI rfl rfl h
                      · have h := h.2 c
                        refine lf_bipush 235 9 rfl rfl (by decide) (by decide) ?_
                        refine lf_seg 1 (pc' := 263) (lv' := [(0, .ref 95)]) (st' := [.int (Int32.ofInt 9)]) rfl ?_
                        exact lf_retI rfl rfl h
                    · have h := h.2 c
                      refine lf_bipush 215 8 rfl rfl (by decide) (by decide) ?_
                      exact lf_retI rfl rfl h
                  · have h := h.2 c
                    refine lf_bipush 193 7 rfl rfl (by decide) (by decide) ?_
                    exact lf_retI rfl rfl h
                · have h := h.2 c
                  refine lf_bipush 167 6 rfl rfl (by decide) (by decide) ?_
                  exact lf_retI rfl rfl h
              · have h := h.2 c
                refine lf_seg 1 (pc' := 143) (lv' := [(0, .ref 95)]) (st' := [.int (Int32.ofInt 5)]) rfl ?_
                exact lf_retI rfl rfl h
            · have h := h.2 c
              refine lf_seg 1 (pc' := 120) (lv' := [(0, .ref 95)]) (st' := [.int (Int32.ofInt 4)]) rfl ?_
              exact lf_retI rfl rfl h
          · have h := h.2 c
            refine lf_seg 1 (pc' := 95) (lv' := [(0, .ref 95)]) (st' := [.int (Int32.ofInt 3)]) rfl ?_
            exact lf_retI rfl rfl h
        · have h := h.2 c
          refine lf_seg 1 (pc' := 74) (lv' := [(0, .ref 95)]) (st' := [.int (Int32.ofInt 2)]) rfl ?_
          exact lf_retI rfl rfl h
      · have h := h.2 c
        refine lf_seg 1 (pc' := 53) (lv' := [(0, .ref 95)]) (st' := [.int (Int32.ofInt 1)]) rfl ?_
        exact lf_retI rfl rfl h
    · have h := h.2 c
      refine lf_seg 1 (pc' := 30) (lv' := [(0, .ref 95)]) (st' := [.int (Int32.ofInt 0)]) rfl ?_
      exact lf_retI rfl rfl h
  · have h := h.2 c
    refine lf_seg 1 (pc' := 9) (lv' := [(0, .ref 95)]) (st' := [.int (Int32.ofInt (-1))]) rfl ?_
    exact lf_retI rfl rfl h
-- fm_232 Model.letter 95
def fm_232 (Q : Int → lf_Z → Prop) (s : lf_Z) : Prop := lf_R (s.1 95 9) ∧ ((s.1 95 9 ≠ 2 → (Q (-1) s)) ∧ (¬ (s.1 95 9 ≠ 2) → (lf_R ((s.1 95 7) - (s.1 95 8)) ∧ (((s.1 95 7) - (s.1 95 8) ≠ 1 → (Q (-1) s)) ∧ (¬ ((s.1 95 7) - (s.1 95 8) ≠ 1) → (fm_198 (s.1 95 8) (fun r24 s23 => (fm_183 r24 97 122 (fun z26 s25 => ((z26 = false → (Q (-1) s25)) ∧ (z26 = true → (fm_198 (s25.1 95 8) (fun r28 s27 => (Q (r28 - 97) s27)) s25)))) s23)) s))))))
set_option maxRecDepth 100000 in
theorem gm_232 {L : Nat} {xs : Nat → Int32} {d : Nat} {Q : Int → lf_Z → Prop} {s : lf_Z} (h : fm_232 Q s) : lf_M (px_ro L xs) (d + 2) 232 [.ref 95] s (lf_qi Q) := by
  unfold fm_232 at h
  show lf_E (px_ro L xs) (d + 2) 232 0 [(0, .ref 95)] [] s _
  refine lf_seg 1 (pc' := 1) (lv' := [(0, .ref 95)]) (st' := [.ref 95]) rfl ?_
  refine lf_getI 4 9 rfl rfl rfl rfl rfl rfl rfl ?_
  refine lf_seg 1 (pc' := 5) (lv' := [(0, .ref 95)]) (st' := [.int (Int32.ofInt 2), .int (Int32.ofInt (s.1 95 9))]) rfl ?_
  obtain ⟨o21, h⟩ := h
  refine lf_icmp_ne 53 8 rfl rfl rfl o21 ⟨by decide, by decide⟩ (fun c => ?_) (fun c => ?_)
  · have h := h.1 c
    refine lf_seg 1 (pc' := 54) (lv' := [(0, .ref 95)]) (st' := [.int (Int32.ofInt (-1))]) rfl ?_
    exact lf_retI rfl rfl h
  · have h := h.2 c
    refine lf_seg 1 (pc' := 9) (lv' := [(0, .ref 95)]) (st' := [.ref 95]) rfl ?_
    refine lf_getI 12 7 rfl rfl rfl rfl rfl rfl rfl ?_
    refine lf_seg 1 (pc' := 13) (lv' := [(0, .ref 95)]) (st' := [.ref 95, .int (Int32.ofInt (s.1 95 7))]) rfl ?_
    refine lf_getI 16 8 rfl rfl rfl rfl rfl rfl rfl ?_
    refine lf_isub 17 rfl rfl ?_
    refine lf_seg 1 (pc' := 18) (lv' := [(0, .ref 95)]) (st' := [.int (Int32.ofInt 1), .int (Int32.ofInt ((s.1 95 7) - (s.1 95 8)))]) rfl ?_
    obtain ⟨o22, h⟩ := h
    refine lf_icmp_ne 53 21 rfl rfl rfl o22 ⟨by decide, by decide⟩ (fun c => ?_) (fun c => ?_)
    · have h := h.1 c
      refine lf_seg 1 (pc' := 54) (lv' := [(0, .ref 95)]) (st' := [.int (Int32.ofInt (-1))]) rfl ?_
      exact lf_retI rfl rfl h
    · have h := h.2 c
      refine lf_seg 2 (pc' := 23) (lv' := [(0, .ref 95)]) (st' := [.ref 95, .ref 95]) rfl ?_
      refine lf_getI 26 8 rfl rfl rfl rfl rfl rfl rfl ?_
      refine lf_callI 29 rfl rfl rfl rfl (gm_198 h) (fun r24 s23 h => ?_)
      refine lf_bipush 31 97 rfl rfl (by decide) (by decide) ?_
      refine lf_bipush 33 122 rfl rfl (by decide) (by decide) ?_
      refine lf_callZ 36 rfl rfl rfl rfl (gm_183 h) (fun z26 s25 h => ?_)
      refine lf_ifz_eq 53 39 rfl rfl rfl (fun c => ?_) (fun c => ?_)
      · have h := h.1 c
        refine lf_seg 1 (pc' := 54) (lv' := [(0, .ref 95)]) (st' := [.int (Int32.ofInt (-1))]) rfl ?_
        exact lf_retI rfl rfl h
      · have h := h.2 c
        refine lf_seg 2 (pc' := 41) (lv' := [(0, .ref 95)]) (st' := [.ref 95, .ref 95]) rfl ?_
        refine lf_getI 44 8 rfl rfl rfl rfl rfl rfl rfl ?_
        refine lf_callI 47 rfl rfl rfl rfl (gm_198 h) (fun r28 s27 h => ?_)
        refine lf_bipush 49 97 rfl rfl (by decide) (by decide) ?_
        refine lf_isub 50 rfl rfl ?_
        refine lf_seg 1 (pc' := 54) (lv' := [(0, .ref 95)]) (st' := [.int (Int32.ofInt (r28 - 97))]) rfl ?_
        exact lf_retI rfl rfl h
-- fm_225 Model.emit 95 i i
def fm_225 (a1 : Int) (a2 : Int) (Q : lf_Z → Prop) (s : lf_Z) : Prop := (0 ≤ ((s.1 95 12) + 97) + (2 * (s.1 95 13)) ∧ ((s.1 95 12) + 97) + (2 * (s.1 95 13)) < 2820) ∧ ((0 ≤ (((s.1 95 12) + 97) + (2 * (s.1 95 13))) + 1 ∧ (((s.1 95 12) + 97) + (2 * (s.1 95 13))) + 1 < 2820) ∧ (Q (lf_up (lf_up (lf_up s.1 98 (((s.1 95 12) + 97) + (2 * (s.1 95 13))) a1) 98 ((((s.1 95 12) + 97) + (2 * (s.1 95 13))) + 1) a2) 95 13 ((s.1 95 13) + 1), s.2.1, s.2.2)))
set_option maxRecDepth 100000 in
theorem gm_225 {L : Nat} {xs : Nat → Int32} {d : Nat} {a1 : Int} {a2 : Int} {Q : lf_Z → Prop} {s : lf_Z} (h : fm_225 a1 a2 Q s) : lf_M (px_ro L xs) (d + 1) 225 [.ref 95, .int (Int32.ofInt a1), .int (Int32.ofInt a2)] s (lf_qv Q) := by
  unfold fm_225 at h
  show lf_E (px_ro L xs) (d + 1) 225 0 [(0, .ref 95), (1, .int (Int32.ofInt a1)), (2, .int (Int32.ofInt a2))] [] s _
  refine lf_seg 3 (pc' := 5) (lv' := [(0, .ref 95), (1, .int (Int32.ofInt a1)), (2, .int (Int32.ofInt a2))]) (st' := [.ref 95, .ref 98]) rfl ?_
  refine lf_getI 8 12 rfl rfl rfl rfl rfl rfl rfl ?_
  refine lf_bipush 10 97 rfl rfl (by decide) (by decide) ?_
  refine lf_iadd 11 rfl rfl ?_
  refine lf_seg 2 (pc' := 13) (lv' := [(0, .ref 95), (1, .int (Int32.ofInt a1)), (2, .int (Int32.ofInt a2))]) (st' := [.ref 95, .int (Int32.ofInt 2), .int (Int32.ofInt ((s.1 95 12) + 97)), .ref 98]) rfl ?_
  refine lf_getI 16 13 rfl rfl rfl rfl rfl rfl rfl ?_
  refine lf_imul 17 rfl rfl ?_
  refine lf_iadd 18 rfl rfl ?_
  refine lf_seg 1 (pc' := 19) (lv' := [(0, .ref 95), (1, .int (Int32.ofInt a1)), (2, .int (Int32.ofInt a2))]) (st' := [.int (Int32.ofInt a1), .int (Int32.ofInt (((s.1 95 12) + 97) + (2 * (s.1 95 13)))), .ref 98]) rfl ?_
  obtain ⟨o21, h⟩ := h
  refine lf_iast 20 2820 rfl rfl rfl rfl rfl rfl o21 ?_
  refine lf_as (lf_up s.1 98 (((s.1 95 12) + 97) + (2 * (s.1 95 13))) a1, s.2.1, s.2.2) rfl ?_
  refine lf_seg 3 (pc' := 25) (lv' := [(0, .ref 95), (1, .int (Int32.ofInt a1)), (2, .int (Int32.ofInt a2))]) (st' := [.ref 95, .ref 98]) rfl ?_
  refine lf_getI 28 12 rfl rfl rfl rfl rfl rfl rfl ?_
  refine lf_seg 0 (pc' := 28) (lv' := [(0, .ref 95), (1, .int (Int32.ofInt a1)), (2, .int (Int32.ofInt a2))]) (st' := [.int (Int32.ofInt (s.1 95 12)), .ref 98]) rfl ?_
  refine lf_bipush 30 97 rfl rfl (by decide) (by decide) ?_
  refine lf_iadd 31 rfl rfl ?_
  refine lf_seg 2 (pc' := 33) (lv' := [(0, .ref 95), (1, .int (Int32.ofInt a1)), (2, .int (Int32.ofInt a2))]) (st' := [.ref 95, .int (Int32.ofInt 2), .int (Int32.ofInt ((s.1 95 12) + 97)), .ref 98]) rfl ?_
  refine lf_getI 36 13 rfl rfl rfl rfl rfl rfl rfl ?_
  refine lf_seg 0 (pc' := 36) (lv' := [(0, .ref 95), (1, .int (Int32.ofInt a1)), (2, .int (Int32.ofInt a2))]) (st' := [.int (Int32.ofInt (s.1 95 13)), .int (Int32.ofInt 2), .int (Int32.ofInt ((s.1 95 12) + 97)), .ref 98]) rfl ?_
  refine lf_imul 37 rfl rfl ?_
  refine lf_iadd 38 rfl rfl ?_
  refine lf_seg 1 (pc' := 39) (lv' := [(0, .ref 95), (1, .int (Int32.ofInt a1)), (2, .int (Int32.ofInt a2))]) (st' := [.int (Int32.ofInt 1), .int (Int32.ofInt (((s.1 95 12) + 97) + (2 * (s.1 95 13)))), .ref 98]) rfl ?_
  refine lf_iadd 40 rfl rfl ?_
  refine lf_seg 1 (pc' := 41) (lv' := [(0, .ref 95), (1, .int (Int32.ofInt a1)), (2, .int (Int32.ofInt a2))]) (st' := [.int (Int32.ofInt a2), .int (Int32.ofInt ((((s.1 95 12) + 97) + (2 * (s.1 95 13))) + 1)), .ref 98]) rfl ?_
  obtain ⟨o22, h⟩ := h
  refine lf_iast 42 2820 rfl rfl rfl rfl rfl rfl o22 ?_
  refine lf_as (lf_up (lf_up s.1 98 (((s.1 95 12) + 97) + (2 * (s.1 95 13))) a1) 98 ((((s.1 95 12) + 97) + (2 * (s.1 95 13))) + 1) a2, s.2.1, s.2.2) rfl ?_
  refine lf_seg 2 (pc' := 44) (lv' := [(0, .ref 95), (1, .int (Int32.ofInt a1)), (2, .int (Int32.ofInt a2))]) (st' := [.ref 95, .ref 95]) rfl ?_
  refine lf_getI 47 13 rfl rfl rfl rfl rfl rfl rfl ?_
  refine lf_seg 1 (pc' := 48) (lv' := [(0, .ref 95), (1, .int (Int32.ofInt a1)), (2, .int (Int32.ofInt a2))]) (st' := [.int (Int32.ofInt 1), .int (Int32.ofInt (s.1 95 13)), .ref 95]) rfl ?_
  refine lf_iadd 49 rfl rfl ?_
  refine lf_putI 52 13 rfl rfl rfl rfl rfl rfl rfl rfl ?_
  refine lf_as (lf_up (lf_up (lf_up s.1 98 (((s.1 95 12) + 97) + (2 * (s.1 95 13))) a1) 98 ((((s.1 95 12) + 97) + (2 * (s.1 95 13))) + 1) a2) 95 13 ((s.1 95 13) + 1), s.2.1, s.2.2) rfl ?_
  exact lf_retV rfl rfl h
-- fm_222 Model.rank i
def fm_222 (a0 : Int) (Q : Int → lf_Z → Prop) (s : lf_Z) : Prop := lf_R a0 ∧ ((a0 < 40 → ((a0 ≠ 22 → ((a0 ≠ 21 → ((a0 ≠ 20 → ((a0 < 10 → ((a0 ≠ 3 → ((a0 < 6 → (Q 5 s)) ∧ (¬ (a0 < 6) → (Q 6 s)))) ∧ (¬ (a0 ≠ 3) → (Q 7 s)))) ∧ (¬ (a0 < 10) → (Q 4 s)))) ∧ (¬ (a0 ≠ 20) → (Q 3 s)))) ∧ (¬ (a0 ≠ 21) → (Q 2 s)))) ∧ (¬ (a0 ≠ 22) → (Q 1 s)))) ∧ (¬ (a0 < 40) → (Q 0 s)))
set_option maxRecDepth 100000 in
theorem gm_222 {L : Nat} {xs : Nat → Int32} {d : Nat} {a0 : Int} {Q : Int → lf_Z → Prop} {s : lf_Z} (h : fm_222 a0 Q s) : lf_M (px_ro L xs) (d + 1) 222 [.int (Int32.ofInt a0)] s (lf_qi Q) := by
  unfold fm_222 at h
  show lf_E (px_ro L xs) (d + 1) 222 0 [(0, .int (Int32.ofInt a0))] [] s _
  refine lf_seg 1 (pc' := 1) (lv' := [(0, .int (Int32.ofInt a0))]) (st' := [.int (Int32.ofInt a0)]) rfl ?_
  refine lf_bipush 3 40 rfl rfl (by decide) (by decide) ?_
  obtain ⟨o21, h⟩ := h
  refine lf_icmp_lt 10 6 rfl rfl rfl o21 ⟨by decide, by decide⟩ (fun c => ?_) (fun c => ?_)
  · have h := h.1 c
    refine lf_seg 1 (pc' := 11) (lv' := [(0, .int (Int32.ofInt a0))]) (st' := [.int (Int32.ofInt a0)]) rfl ?_
    refine lf_bipush 13 22 rfl rfl (by decide) (by decide) ?_
    refine lf_icmp_ne 20 16 rfl rfl rfl o21 ⟨by decide, by decide⟩ (fun c => ?_) (fun c => ?_)
    · have h := h.1 c
      refine lf_seg 1 (pc' := 21) (lv' := [(0, .int (Int32.ofInt a0))]) (st' := [.int (Int32.ofInt a0)]) rfl ?_
      refine lf_bipush 23 21 rfl rfl (by decide) (by decide) ?_
      refine lf_icmp_ne 30 26 rfl rfl rfl o21 ⟨by decide, by decide⟩ (fun c => ?_) (fun c => ?_)
      · have h := h.1 c
        refine lf_seg 1 (pc' := 31) (lv' := [(0, .int (Int32.ofInt a0))]) (st' := [.int (Int32.ofInt a0)]) rfl ?_
        refine lf_bipush 33 20 rfl rfl (by decide) (by decide) ?_
        refine lf_icmp_ne 40 36 rfl rfl rfl o21 ⟨by decide, by decide⟩ (fun c => ?_) (fun c => ?_)
        · have h := h.1 c
          refine lf_seg 1 (pc' := 41) (lv' := [(0, .int (Int32.ofInt a0))]) (st' := [.int (Int32.ofInt a0)]) rfl ?_
          refine lf_bipush 43 10 rfl rfl (by decide) (by decide) ?_
          refine lf_icmp_lt 50 46 rfl rfl rfl o21 ⟨by decide, by decide⟩ (fun c => ?_) (fun c => ?_)
          · have h := h.1 c
            refine lf_seg 2 (pc' := 52) (lv' := [(0, .int (Int32.ofInt a0))]) (st' := [.int (Int32.ofInt 3), .int (Int32.ofInt a0)]) rfl ?_
            refine lf_icmp_ne 60 55 rfl rfl rfl o21 ⟨by decide, by decide⟩ (fun c => ?_) (fun c => ?_)
            · have h := h.1 c
              refine lf_seg 1 (pc' := 61) (lv' := [(0, .int (Int32.ofInt a0))]) (st' := [.int (Int32.ofInt a0)]) rfl ?_
              refine lf_bipush 63 6 rfl rfl (by decide) (by decide) ?_
              refine lf_icmp_lt 71 66 rfl rfl rfl o21 ⟨by decide, by decide⟩ (fun c => ?_) (fun c => ?_)
              · have h := h.1 c
                refine lf_seg 1 (pc' := 72) (lv' := [(0, .int (Int32.ofInt a0))]) (st' := [.int (Int32.ofInt 5)]) rfl ?_
                exact lf_retI rfl rfl h
              · have h := h.2 c
                refine lf_bipush 68 6 rfl rfl (by decide) (by decide) ?_
                refine lf_seg 1 (pc' := 72) (lv' := [(0, .int (Int32.ofInt a0))]) (st' := [.int (Int32.ofInt 6)]) rfl ?_
                exact lf_retI rfl rfl h
            · have h := h.2 c
              refine lf_bipush 57 7 rfl rfl (by decide) (by decide) ?_
              refine lf_seg 1 (pc' := 72) (lv' := [(0, .int (Int32.ofInt a0))]) (st' := [.int (Int32.ofInt 7)]) rfl ?_
              exact lf_retI rfl rfl h
          · have h := h.2 c
            refine lf_seg 2 (pc' := 72) (lv' := [(0, .int (Int32.ofInt a0))]) (st' := [.int (Int32.ofInt 4)]) rfl ?_
            exact lf_retI rfl rfl h
        · have h := h.2 c
          refine lf_seg 2 (pc' := 72) (lv' := [(0, .int (Int32.ofInt a0))]) (st' := [.int (Int32.ofInt 3)]) rfl ?_
          exact lf_retI rfl rfl h
      · have h := h.2 c
        refine lf_seg 2 (pc' := 72) (lv' := [(0, .int (Int32.ofInt a0))]) (st' := [.int (Int32.ofInt 2)]) rfl ?_
        exact lf_retI rfl rfl h
    · have h := h.2 c
      refine lf_seg 2 (pc' := 72) (lv' := [(0, .int (Int32.ofInt a0))]) (st' := [.int (Int32.ofInt 1)]) rfl ?_
      exact lf_retI rfl rfl h
  · have h := h.2 c
    refine lf_seg 2 (pc' := 72) (lv' := [(0, .int (Int32.ofInt a0))]) (st' := [.int (Int32.ofInt 0)]) rfl ?_
    exact lf_retI rfl rfl h
-- fm_224 Model.settle 95 i
def fm_224_p76 (X0 : lf_Z → Prop) (Q : lf_Z → Prop) (x1 : Int) (s : lf_Z) : Prop := X0 (lf_up s.1 95 20 ((s.1 95 20) - 1), s.2.1, s.2.2)
set_option maxRecDepth 100000 in
theorem gm_224_p76 {L : Nat} {xs : Nat → Int32} {d : Nat} {X0 : lf_Z → Prop} {Q : lf_Z → Prop} {x1 : Int} {s : lf_Z} (hX0 : ∀ s, X0 s → lf_E (px_ro L xs) (d + 2) 224 0 [(0, .ref 95), (1, .int (Int32.ofInt x1))] [] s (lf_qv Q)) (h : fm_224_p76 X0 Q x1 s) : lf_E (px_ro L xs) (d + 2) 224 76 [(0, .ref 95), (1, .int (Int32.ofInt x1))] [] s (lf_qv Q) := by
  unfold fm_224_p76 at h
  refine lf_seg 2 (pc' := 78) (lv' := [(0, .ref 95), (1, .int (Int32.ofInt x1))]) (st' := [.ref 95, .ref 95]) rfl ?_
  refine lf_getI 81 20 rfl rfl rfl rfl rfl rfl rfl ?_
  refine lf_seg 1 (pc' := 82) (lv' := [(0, .ref 95), (1, .int (Int32.ofInt x1))]) (st' := [.int (Int32.ofInt 1), .int (Int32.ofInt (s.1 95 20)), .ref 95]) rfl ?_
  refine lf_isub 83 rfl rfl ?_
  refine lf_putI 86 20 rfl rfl rfl rfl rfl rfl rfl rfl ?_
  refine lf_as (lf_up s.1 95 20 ((s.1 95 20) - 1), s.2.1, s.2.2) rfl ?_
  refine lf_seg 1 (pc' := 0) (lv' := [(0, .ref 95), (1, .int (Int32.ofInt x1))]) (st' := []) rfl ?_
  refine lf_sub (l := [(0, .ref 95), (1, .int (Int32.ofInt x1))]) (lf_sb1 rfl (lf_sb1 rfl lf_sb0)) ?_
  exact hX0 _ h
def fm_224_p0 (Q : lf_Z → Prop) (x1 : Int) (X0 : lf_Z → Prop) (s : lf_Z) : Prop := lf_R (s.1 95 19) ∧ ((s.1 95 19 ≤ 0 → (Q s)) ∧ (¬ (s.1 95 19 ≤ 0) → ((0 ≤ (s.1 95 19) - 1 ∧ (s.1 95 19) - 1 < 160) ∧ (fm_222 (s.1 100 ((s.1 95 19) - 1)) (fun r24 s23 => (lf_R r24 ∧ (lf_R x1 ∧ ((r24 < x1 → (Q s23)) ∧ (¬ (r24 < x1) → ((0 ≤ (s23.1 95 19) - 1 ∧ (s23.1 95 19) - 1 < 160) ∧ (fm_225 (s23.1 100 ((s23.1 95 19) - 1)) 0 (fun s28 => ((0 ≤ s28.1 95 19 ∧ s28.1 95 19 < 160) ∧ (lf_R (s28.1 100 (s28.1 95 19)) ∧ ((s28.1 100 (s28.1 95 19) = 3 → (fm_224_p76 X0 Q x1 s28)) ∧ (¬ (s28.1 100 (s28.1 95 19) = 3) → ((s28.1 100 (s28.1 95 19) ≠ 20 → (X0 s28)) ∧ (¬ (s28.1 100 (s28.1 95 19) ≠ 20) → (fm_224_p76 X0 Q x1 s28)))))))) (lf_up s23.1 95 19 ((s23.1 95 19) - 1), s23.2.1, s23.2.2)))))))) s))))
def fm_224_p0L (Q : lf_Z → Prop) (x1 : Int) (s : lf_Z) : Prop := ∀ X0 : lf_Z → Prop, (∀ (s : lf_Z), fm_224_p0 Q x1 X0 s → X0 s) → X0 s
set_option maxRecDepth 100000 in
theorem gm_224_p0 {L : Nat} {xs : Nat → Int32} {d : Nat} {Q : lf_Z → Prop} {x1 : Int} {s : lf_Z} {X0 : lf_Z → Prop} (hX0 : ∀ s, X0 s → lf_E (px_ro L xs) (d + 2) 224 0 [(0, .ref 95), (1, .int (Int32.ofInt x1))] [] s (lf_qv Q)) (h : fm_224_p0 Q x1 X0 s) : lf_E (px_ro L xs) (d + 2) 224 0 [(0, .ref 95), (1, .int (Int32.ofInt x1))] [] s (lf_qv Q) := by
  unfold fm_224_p0 at h
  refine lf_seg 1 (pc' := 1) (lv' := [(0, .ref 95), (1, .int (Int32.ofInt x1))]) (st' := [.ref 95]) rfl ?_
  refine lf_getI 4 19 rfl rfl rfl rfl rfl rfl rfl ?_
  obtain ⟨o21, h⟩ := h
  refine lf_if_le 89 7 rfl rfl rfl o21 (fun c => ?_) (fun c => ?_)
  · have h := h.1 c
    exact lf_retV rfl rfl h
  · have h := h.2 c
    refine lf_seg 3 (pc' := 12) (lv' := [(0, .ref 95), (1, .int (Int32.ofInt x1))]) (st' := [.ref 95, .ref 100]) rfl ?_
    refine lf_getI 15 19 rfl rfl rfl rfl rfl rfl rfl ?_
    refine lf_seg 1 (pc' := 16) (lv' := [(0, .ref 95), (1, .int (Int32.ofInt x1))]) (st' := [.int (Int32.ofInt 1), .int (Int32.ofInt (s.1 95 19)), .ref 100]) rfl ?_
    refine lf_isub 17 rfl rfl ?_
    obtain ⟨o22, h⟩ := h
    refine lf_iald 18 160 rfl rfl rfl rfl rfl rfl o22 ?_
    refine lf_callI 21 rfl rfl rfl rfl (gm_222 h) (fun r24 s23 h => ?_)
    refine lf_seg 1 (pc' := 22) (lv' := [(0, .ref 95), (1, .int (Int32.ofInt x1))]) (st' := [.int (Int32.ofInt x1), .int (Int32.ofInt r24)]) rfl ?_
    obtain ⟨o25, h⟩ := h
    obtain ⟨o26, h⟩ := h
    refine lf_icmp_lt 89 25 rfl rfl rfl o25 o26 (fun c => ?_) (fun c => ?_)
    · have h := h.1 c
      exact lf_retV rfl rfl h
    · have h := h.2 c
      refine lf_seg 2 (pc' := 27) (lv' := [(0, .ref 95), (1, .int (Int32.ofInt x1))]) (st' := [.ref 95, .ref 95]) rfl ?_
      refine lf_getI 30 19 rfl rfl rfl rfl rfl rfl rfl ?_
      refine lf_seg 1 (pc' := 31) (lv' := [(0, .ref 95), (1, .int (Int32.ofInt x1))]) (st' := [.int (Int32.ofInt 1), .int (Int32.ofInt (s23.1 95 19)), .ref 95]) rfl ?_
      refine lf_isub 32 rfl rfl ?_
      refine lf_putI 35 19 rfl rfl rfl rfl rfl rfl rfl rfl ?_
      refine lf_as (lf_up s23.1 95 19 ((s23.1 95 19) - 1), s23.2.1, s23.2.2) rfl ?_
      refine lf_seg 4 (pc' := 41) (lv' := [(0, .ref 95), (1, .int (Int32.ofInt x1))]) (st' := [.ref 95, .ref 100, .ref 95]) rfl ?_
      refine lf_getI 44 19 rfl rfl rfl rfl rfl rfl rfl ?_
      refine lf_seg 0 (pc' := 44) (lv' := [(0, .ref 95), (1, .int (Int32.ofInt x1))]) (st' := [.int (Int32.ofInt ((s23.1 95 19) - 1)), .ref 100, .ref 95]) rfl ?_
      obtain ⟨o27, h⟩ := h
      refine lf_iald 45 160 rfl rfl rfl rfl rfl rfl o27 ?_
      refine lf_seg 1 (pc' := 46) (lv' := [(0, .ref 95), (1, .int (Int32.ofInt x1))]) (st' := [.int (Int32.ofInt 0), .int (Int32.ofInt (s23.1 100 ((s23.1 95 19) - 1))), .ref 95]) rfl ?_
      refine lf_callV 49 rfl rfl rfl rfl (gm_225 h) (fun s28 h => ?_)
      refine lf_seg 3 (pc' := 54) (lv' := [(0, .ref 95), (1, .int (Int32.ofInt x1))]) (st' := [.ref 95, .ref 100]) rfl ?_
      refine lf_getI 57 19 rfl rfl rfl rfl rfl rfl rfl ?_
      obtain ⟨o29, h⟩ := h
      refine lf_iald 58 160 rfl rfl rfl rfl rfl rfl o29 ?_
      refine lf_seg 1 (pc' := 59) (lv' := [(0, .ref 95), (1, .int (Int32.ofInt x1))]) (st' := [.int (Int32.ofInt 3), .int (Int32.ofInt (s28.1 100 (s28.1 95 19)))]) rfl ?_
      obtain ⟨o30, h⟩ := h
      refine lf_icmp_eq 76 62 rfl rfl rfl o30 ⟨by decide, by decide⟩ (fun c => ?_) (fun c => ?_)
      · have h := h.1 c
        refine lf_sub (l := [(0, .ref 95), (1, .int (Int32.ofInt x1))]) (lf_sb1 rfl (lf_sb1 rfl lf_sb0)) ?_
        exact gm_224_p76 hX0 h
      · have h := h.2 c
        refine lf_seg 3 (pc' := 67) (lv' := [(0, .ref 95), (1, .int (Int32.ofInt x1))]) (st' := [.ref 95, .ref 100]) rfl ?_
        refine lf_getI 70 19 rfl rfl rfl rfl rfl rfl rfl ?_
        refine lf_iald 71 160 rfl rfl rfl rfl rfl rfl o29 ?_
        refine lf_bipush 73 20 rfl rfl (by decide) (by decide) ?_
        refine lf_icmp_ne 0 76 rfl rfl rfl o30 ⟨by decide, by decide⟩ (fun c => ?_) (fun c => ?_)
        · have h := h.1 c
          refine lf_sub (l := [(0, .ref 95), (1, .int (Int32.ofInt x1))]) (lf_sb1 rfl (lf_sb1 rfl lf_sb0)) ?_
          exact hX0 _ h
        · have h := h.2 c
          refine lf_sub (l := [(0, .ref 95), (1, .int (Int32.ofInt x1))]) (lf_sb1 rfl (lf_sb1 rfl lf_sb0)) ?_
          exact gm_224_p76 hX0 h
theorem gm_224_p0L {L : Nat} {xs : Nat → Int32} {d : Nat} {Q : lf_Z → Prop} {x1 : Int} {s : lf_Z} (h : fm_224_p0L Q x1 s) : lf_E (px_ro L xs) (d + 2) 224 0 [(0, .ref 95), (1, .int (Int32.ofInt x1))] [] s (lf_qv Q) :=
  h (fun s => lf_E (px_ro L xs) (d + 2) 224 0 [(0, .ref 95), (1, .int (Int32.ofInt x1))] [] s (lf_qv Q)) (fun s hb => gm_224_p0 (fun _ h => h) hb)
def fm_224 (a1 : Int) (Q : lf_Z → Prop) (s : lf_Z) : Prop := fm_224_p0L Q a1 s
set_option maxRecDepth 100000 in
theorem gm_224 {L : Nat} {xs : Nat → Int32} {d : Nat} {a1 : Int} {Q : lf_Z → Prop} {s : lf_Z} (h : fm_224 a1 Q s) : lf_M (px_ro L xs) (d + 2) 224 [.ref 95, .int (Int32.ofInt a1)] s (lf_qv Q) := by
  unfold fm_224 at h
  show lf_E (px_ro L xs) (d + 2) 224 0 [(0, .ref 95), (1, .int (Int32.ofInt a1))] [] s _
  refine lf_sub (l := [(0, .ref 95), (1, .int (Int32.ofInt a1))]) (lf_sb1 rfl (lf_sb1 rfl lf_sb0)) ?_
  exact gm_224_p0L h
-- fm_233 Model.one 95 i i
def fm_233 (a1 : Int) (a2 : Int) (Q : lf_Z → Prop) (s : lf_Z) : Prop := fm_225 a1 a2 (fun s21 => (fm_197 (fun s22 => (fm_224 7 (fun s23 => (Q s23)) (lf_up s22.1 95 23 1, s22.2.1, s22.2.2))) s21)) s
set_option maxRecDepth 100000 in
theorem gm_233 {L : Nat} {xs : Nat → Int32} {d : Nat} {a1 : Int} {a2 : Int} {Q : lf_Z → Prop} {s : lf_Z} (h : fm_233 a1 a2 Q s) : lf_M (px_ro L xs) (d + 3) 233 [.ref 95, .int (Int32.ofInt a1), .int (Int32.ofInt a2)] s (lf_qv Q) := by
  unfold fm_233 at h
  show lf_E (px_ro L xs) (d + 3) 233 0 [(0, .ref 95), (1, .int (Int32.ofInt a1)), (2, .int (Int32.ofInt a2))] [] s _
  refine lf_seg 3 (pc' := 3) (lv' := [(0, .ref 95), (1, .int (Int32.ofInt a1)), (2, .int (Int32.ofInt a2))]) (st' := [.int (Int32.ofInt a2), .int (Int32.ofInt a1), .ref 95]) rfl ?_
  refine lf_callV 6 rfl rfl rfl rfl (gm_225 h) (fun s21 h => ?_)
  refine lf_seg 1 (pc' := 7) (lv' := [(0, .ref 95), (1, .int (Int32.ofInt a1)), (2, .int (Int32.ofInt a2))]) (st' := [.ref 95]) rfl ?_
  refine lf_callV 10 rfl rfl rfl rfl (gm_197 h) (fun s22 h => ?_)
  refine lf_seg 2 (pc' := 12) (lv' := [(0, .ref 95), (1, .int (Int32.ofInt a1)), (2, .int (Int32.ofInt a2))]) (st' := [.int (Int32.ofInt 1), .ref 95]) rfl ?_
  refine lf_putZ 15 23 rfl rfl rfl rfl rfl rfl rfl rfl (Or.inr rfl) ?_
  refine lf_as (lf_up s22.1 95 23 1, s22.2.1, s22.2.2) rfl ?_
  refine lf_seg 1 (pc' := 16) (lv' := [(0, .ref 95), (1, .int (Int32.ofInt a1)), (2, .int (Int32.ofInt a2))]) (st' := [.ref 95]) rfl ?_
  refine lf_bipush 18 7 rfl rfl (by decide) (by decide) ?_
  refine lf_callV 21 rfl rfl rfl rfl (gm_224 h) (fun s23 h => ?_)
  exact lf_retV rfl rfl h
-- fm_220 Model.openAt 95
def fm_220_p7 (Q : Int → lf_Z → Prop) (X7 : Int → lf_Z → Prop) (x1 : Int) (s : lf_Z) : Prop := lf_R x1 ∧ ((x1 < 0 → (Q x1 s)) ∧ (¬ (x1 < 0) → ((0 ≤ x1 ∧ x1 < 160) ∧ (lf_R (s.1 100 x1) ∧ ((40 ≤ s.1 100 x1 → (Q x1 s)) ∧ (¬ (40 ≤ s.1 100 x1) → (X7 (x1 + (-1)) s)))))))
def fm_220_p7L (Q : Int → lf_Z → Prop) (x1 : Int) (s : lf_Z) : Prop := ∀ X7 : Int → lf_Z → Prop, (∀ (x1 : Int) (s : lf_Z), fm_220_p7 Q X7 x1 s → X7 x1 s) → X7 x1 s
set_option maxRecDepth 100000 in
theorem gm_220_p7 {L : Nat} {xs : Nat → Int32} {d : Nat} {Q : Int → lf_Z → Prop} {x1 : Int} {s : lf_Z} {X7 : Int → lf_Z → Prop} (hX7 : ∀ x1 s, X7 x1 s → lf_E (px_ro L xs) (d + 1) 220 7 [(0, .ref 95), (1, .int (Int32.ofInt x1))] [] s (lf_qi Q)) (h : fm_220_p7 Q X7 x1 s) : lf_E (px_ro L xs) (d + 1) 220 7 [(0, .ref 95), (1, .int (Int32.ofInt x1))] [] s (lf_qi Q) := by
  unfold fm_220_p7 at h
  refine lf_seg 1 (pc' := 8) (lv' := [(0, .ref 95), (1, .int (Int32.ofInt x1))]) (st' := [.int (Int32.ofInt x1)]) rfl ?_
  obtain ⟨o21, h⟩ := h
  refine lf_if_lt 28 11 rfl rfl rfl o21 (fun c => ?_) (fun c => ?_)
  · have h := h.1 c
    refine lf_seg 1 (pc' := 29) (lv' := [(0, .ref 95), (1, .int (Int32.ofInt x1))]) (st' := [.int (Int32.ofInt x1)]) rfl ?_
    exact lf_retI rfl rfl h
  · have h := h.2 c
    refine lf_seg 3 (pc' := 16) (lv' := [(0, .ref 95), (1, .int (Int32.ofInt x1))]) (st' := [.int (Int32.ofInt x1), .ref 100]) rfl ?_
    obtain ⟨o22, h⟩ := h
    refine lf_iald 17 160 rfl rfl rfl rfl rfl rfl o22 ?_
    refine lf_bipush 19 40 rfl rfl (by decide) (by decide) ?_
    obtain ⟨o23, h⟩ := h
    refine lf_icmp_ge 28 22 rfl rfl rfl o23 ⟨by decide, by decide⟩ (fun c => ?_) (fun c => ?_)
    · have h := h.1 c
      refine lf_seg 1 (pc' := 29) (lv' := [(0, .ref 95), (1, .int (Int32.ofInt x1))]) (st' := [.int (Int32.ofInt x1)]) rfl ?_
      exact lf_retI rfl rfl h
    · have h := h.2 c
      refine lf_iinc 25 rfl rfl rfl rfl ?_
      refine lf_seg 1 (pc' := 7) (lv' := [(1, .int (Int32.ofInt (x1 + (-1)))), (0, .ref 95)]) (st' := []) rfl ?_
      refine lf_sub (l := [(0, .ref 95), (1, .int (Int32.ofInt (x1 + (-1))))]) (lf_sb1 rfl (lf_sb1 rfl lf_sb0)) ?_
      exact hX7 _ _ h
theorem gm_220_p7L {L : Nat} {xs : Nat → Int32} {d : Nat} {Q : Int → lf_Z → Prop} {x1 : Int} {s : lf_Z} (h : fm_220_p7L Q x1 s) : lf_E (px_ro L xs) (d + 1) 220 7 [(0, .ref 95), (1, .int (Int32.ofInt x1))] [] s (lf_qi Q) :=
  h (fun x1 s => lf_E (px_ro L xs) (d + 1) 220 7 [(0, .ref 95), (1, .int (Int32.ofInt x1))] [] s (lf_qi Q)) (fun x1 s hb => gm_220_p7 (fun _ _ h => h) hb)
def fm_220 (Q : Int → lf_Z → Prop) (s : lf_Z) : Prop := fm_220_p7L Q ((s.1 95 19) - 1) s
set_option maxRecDepth 100000 in
theorem gm_220 {L : Nat} {xs : Nat → Int32} {d : Nat} {Q : Int → lf_Z → Prop} {s : lf_Z} (h : fm_220 Q s) : lf_M (px_ro L xs) (d + 1) 220 [.ref 95] s (lf_qi Q) := by
  unfold fm_220 at h
  show lf_E (px_ro L xs) (d + 1) 220 0 [(0, .ref 95)] [] s _
  refine lf_seg 1 (pc' := 1) (lv' := [(0, .ref 95)]) (st' := [.ref 95]) rfl ?_
  refine lf_getI 4 19 rfl rfl rfl rfl rfl rfl rfl ?_
  refine lf_seg 1 (pc' := 5) (lv' := [(0, .ref 95)]) (st' := [.int (Int32.ofInt 1), .int (Int32.ofInt (s.1 95 19))]) rfl ?_
  refine lf_isub 6 rfl rfl ?_
  refine lf_seg 1 (pc' := 7) (lv' := [(1, .int (Int32.ofInt ((s.1 95 19) - 1))), (0, .ref 95)]) (st' := []) rfl ?_
  refine lf_sub (l := [(0, .ref 95), (1, .int (Int32.ofInt ((s.1 95 19) - 1)))]) (lf_sb1 rfl (lf_sb1 rfl lf_sb0)) ?_
  exact gm_220_p7L h
-- fm_219 Model.openNow 95
def fm_219 (Q : Int → lf_Z → Prop) (s : lf_Z) : Prop := fm_220 (fun r22 s21 => (lf_R r22 ∧ ((0 ≤ r22 → (fm_220 (fun r25 s24 => ((0 ≤ r25 ∧ r25 < 160) ∧ (Q (s24.1 100 r25) s24))) s21)) ∧ (¬ (0 ≤ r22) → (Q (-1) s21))))) s
set_option maxRecDepth 100000 in
theorem gm_219 {L : Nat} {xs : Nat → Int32} {d : Nat} {Q : Int → lf_Z → Prop} {s : lf_Z} (h : fm_219 Q s) : lf_M (px_ro L xs) (d + 2) 219 [.ref 95] s (lf_qi Q) := by
  unfold fm_219 at h
  show lf_E (px_ro L xs) (d + 2) 219 0 [(0, .ref 95)] [] s _
  refine lf_seg 1 (pc' := 1) (lv' := [(0, .ref 95)]) (st' := [.ref 95]) rfl ?_
  refine lf_callI 4 rfl rfl rfl rfl (gm_220 h) (fun r22 s21 h => ?_)
  obtain ⟨o23, h⟩ := h
  refine lf_if_ge 11 7 rfl rfl rfl o23 (fun c => ?_) (fun c => ?_)
  · have h := h.1 c
    refine lf_seg 3 (pc' := 16) (lv' := [(0, .ref 95)]) (st' := [.ref 95, .ref 100]) rfl ?_
    refine lf_callI 19 rfl rfl rfl rfl (gm_220 h) (fun r25 s24 h => ?_)
    obtain ⟨o26, h⟩ := h
    refine lf_iald 20 160 rfl rfl rfl rfl rfl rfl o26 ?_
    exact lf_retI rfl rfl h
  · have h := h.2 c
    refine lf_seg 2 (pc' := 20) (lv' := [(0, .ref 95)]) (st' := [.int (Int32.ofInt (-1))]) rfl ?_
    exact lf_retI rfl rfl h
-- fm_235 Model.isAskAhead 95
def fm_235 (Q : Bool → lf_Z → Prop) (s : lf_Z) : Prop := fm_219 (fun r22 s21 => (lf_R r22 ∧ ((r22 ≠ 41 → (Q false s21)) ∧ (¬ (r22 ≠ 41) → ((0 ≤ (s21.1 95 19) - 1 ∧ (s21.1 95 19) - 1 < 160) ∧ (lf_R (s21.1 100 ((s21.1 95 19) - 1)) ∧ ((s21.1 100 ((s21.1 95 19) - 1) = 41 → (Q true s21)) ∧ (¬ (s21.1 100 ((s21.1 95 19) - 1) = 41) → (fm_222 (s21.1 100 ((s21.1 95 19) - 1)) (fun r27 s26 => (fm_183 r27 1 3 (fun z29 s28 => ((z29 = false → (Q false s28)) ∧ (z29 = true → (Q true s28)))) s26)) s21))))))))) s
set_option maxRecDepth 100000 in
theorem gm_235 {L : Nat} {xs : Nat → Int32} {d : Nat} {Q : Bool → lf_Z → Prop} {s : lf_Z} (h : fm_235 Q s) : lf_M (px_ro L xs) (d + 3) 235 [.ref 95] s (lf_qz Q) := by
  unfold fm_235 at h
  show lf_E (px_ro L xs) (d + 3) 235 0 [(0, .ref 95)] [] s _
  refine lf_seg 1 (pc' := 1) (lv' := [(0, .ref 95)]) (st' := [.ref 95]) rfl ?_
  refine lf_callI 4 rfl rfl rfl rfl (gm_219 h) (fun r22 s21 h => ?_)
  refine lf_bipush 6 41 rfl rfl (by decide) (by decide) ?_
  obtain ⟨o23, h⟩ := h
  refine lf_icmp_ne 51 9 rfl rfl rfl o23 ⟨by decide, by decide⟩ (fun c => ?_) (fun c => ?_)
  · have h := h.1 c
    refine lf_seg 1 (pc' := 52) (lv' := [(0, .ref 95)]) (st' := [.int (Int32.ofInt 0)]) rfl ?_
    exact lf_retZ false rfl rfl h
  · have h := h.2 c
    refine lf_seg 3 (pc' := 14) (lv' := [(0, .ref 95)]) (st' := [.ref 95, .ref 100]) rfl ?_
    refine lf_getI 17 19 rfl rfl rfl rfl rfl rfl rfl ?_
    refine lf_seg 1 (pc' := 18) (lv' := [(0, .ref 95)]) (st' := [.int (Int32.ofInt 1), .int (Int32.ofInt (s21.1 95 19)), .ref 100]) rfl ?_
    refine lf_isub 19 rfl rfl ?_
    obtain ⟨o24, h⟩ := h
    refine lf_iald 20 160 rfl rfl rfl rfl rfl rfl o24 ?_
    refine lf_bipush 22 41 rfl rfl (by decide) (by decide) ?_
    obtain ⟨o25, h⟩ := h
    refine lf_icmp_eq 47 25 rfl rfl rfl o25 ⟨by decide, by decide⟩ (fun c => ?_) (fun c => ?_)
    · have h := h.1 c
      refine lf_seg 2 (pc' := 52) (lv' := [(0, .ref 95)]) (st' := [.int (Int32.ofInt 1)]) rfl ?_
      exact lf_retZ true rfl rfl h
    · have h := h.2 c
      refine lf_seg 3 (pc' := 30) (lv' := [(0, .ref 95)]) (st' := [.ref 95, .ref 100]) rfl ?_
      refine lf_getI 33 19 rfl rfl rfl rfl rfl rfl rfl ?_
      refine lf_seg 1 (pc' := 34) (lv' := [(0, .ref 95)]) (st' := [.int (Int32.ofInt 1), .int (Int32.ofInt (s21.1 95 19)), .ref 100]) rfl ?_
      refine lf_isub 35 rfl rfl ?_
      refine lf_iald 36 160 rfl rfl rfl rfl rfl rfl o24 ?_
      refine lf_callI 39 rfl rfl rfl rfl (gm_222 h) (fun r27 s26 h => ?_)
      refine lf_seg 2 (pc' := 41) (lv' := [(0, .ref 95)]) (st' := [.int (Int32.ofInt 3), .int (Int32.ofInt 1), .int (Int32.ofInt r27)]) rfl ?_
      refine lf_callZ 44 rfl rfl rfl rfl (gm_183 h) (fun z29 s28 h => ?_)
      refine lf_ifz_eq 51 47 rfl rfl rfl (fun c => ?_) (fun c => ?_)
      · have h := h.1 c
        refine lf_seg 1 (pc' := 52) (lv' := [(0, .ref 95)]) (st' := [.int (Int32.ofInt 0)]) rfl ?_
        exact lf_retZ false rfl rfl h
      · have h := h.2 c
        refine lf_seg 2 (pc' := 52) (lv' := [(0, .ref 95)]) (st' := [.int (Int32.ofInt 1)]) rfl ?_
        exact lf_retZ true rfl rfl h
-- fm_234 Model.opened 95 i
def fm_234 (a1 : Int) (Q : Int → lf_Z → Prop) (s : lf_Z) : Prop := lf_R (s.1 95 20) ∧ ((s.1 95 20 ≠ 8 → ((0 ≤ s.1 95 19 ∧ s.1 95 19 < 160) ∧ (fm_197 (fun s23 => (lf_R a1 ∧ ((a1 = 44 → (fm_232 (fun r26 s25 => (lf_R r26 ∧ ((0 ≤ r26 → (fm_232 (fun r29 s28 => ((0 ≤ s25.1 95 21 ∧ s25.1 95 21 < 10) ∧ (fm_197 (fun s31 => (fm_206 98 101 (fun r33 s32 => (fm_207 (lf_wl r33) (fun z35 s34 => ((z35 = true → (fm_197 (fun s36 => (Q 0 s36)) s34)) ∧ (z35 = false → (Q 1 s34)))) s32)) s31)) (lf_up (lf_up s28.1 101 (s25.1 95 21) r29) 95 21 ((s28.1 95 21) + 1), s28.2.1, s28.2.2)))) s25)) ∧ (¬ (0 ≤ r26) → (Q 1 s25))))) s23)) ∧ (¬ (a1 = 44) → (Q 0 s23))))) (lf_up (lf_up (lf_up s.1 95 20 ((s.1 95 20) + 1)) 100 (s.1 95 19) a1) 95 19 ((s.1 95 19) + 1), s.2.1, s.2.2)))) ∧ (¬ (s.1 95 20 ≠ 8) → (Q 3 s)))
set_option maxRecDepth 100000 in
theorem gm_234 {L : Nat} {xs : Nat → Int32} {d : Nat} {a1 : Int} {Q : Int → lf_Z → Prop} {s : lf_Z} (h : fm_234 a1 Q s) : lf_M (px_ro L xs) (d + 3) 234 [.ref 95, .int (Int32.ofInt a1)] s (lf_qi Q) := by
  unfold fm_234 at h
  show lf_E (px_ro L xs) (d + 3) 234 0 [(0, .ref 95), (1, .int (Int32.ofInt a1))] [] s _
  refine lf_seg 1 (pc' := 1) (lv' := [(0, .ref 95), (1, .int (Int32.ofInt a1))]) (st' := [.ref 95]) rfl ?_
  refine lf_getI 4 20 rfl rfl rfl rfl rfl rfl rfl ?_
  refine lf_bipush 6 8 rfl rfl (by decide) (by decide) ?_
  obtain ⟨o21, h⟩ := h
  refine lf_icmp_ne 11 9 rfl rfl rfl o21 ⟨by decide, by decide⟩ (fun c => ?_) (fun c => ?_)
  · have h := h.1 c
    refine lf_seg 2 (pc' := 13) (lv' := [(0, .ref 95), (1, .int (Int32.ofInt a1))]) (st' := [.ref 95, .ref 95]) rfl ?_
    refine lf_getI 16 20 rfl rfl rfl rfl rfl rfl rfl ?_
    refine lf_seg 1 (pc' := 17) (lv' := [(0, .ref 95), (1, .int (Int32.ofInt a1))]) (st' := [.int (Int32.ofInt 1), .int (Int32.ofInt (s.1 95 20)), .ref 95]) rfl ?_
    refine lf_iadd 18 rfl rfl ?_
    refine lf_putI 21 20 rfl rfl rfl rfl rfl rfl rfl rfl ?_
    refine lf_as (lf_up s.1 95 20 ((s.1 95 20) + 1), s.2.1, s.2.2) rfl ?_
    refine lf_seg 3 (pc' := 26) (lv' := [(0, .ref 95), (1, .int (Int32.ofInt a1))]) (st' := [.ref 95, .ref 100]) rfl ?_
    refine lf_getI 29 19 rfl rfl rfl rfl rfl rfl rfl ?_
    refine lf_seg 1 (pc' := 30) (lv' := [(0, .ref 95), (1, .int (Int32.ofInt a1))]) (st' := [.int (Int32.ofInt a1), .int (Int32.ofInt (s.1 95 19)), .ref 100]) rfl ?_
    obtain ⟨o22, h⟩ := h
    refine lf_iast 31 160 rfl rfl rfl rfl rfl rfl o22 ?_
    refine lf_as (lf_up (lf_up s.1 95 20 ((s.1 95 20) + 1)) 100 (s.1 95 19) a1, s.2.1, s.2.2) rfl ?_
    refine lf_seg 2 (pc' := 33) (lv' := [(0, .ref 95), (1, .int (Int32.ofInt a1))]) (st' := [.ref 95, .ref 95]) rfl ?_
    refine lf_getI 36 19 rfl rfl rfl rfl rfl rfl rfl ?_
    refine lf_seg 1 (pc' := 37) (lv' := [(0, .ref 95), (1, .int (Int32.ofInt a1))]) (st' := [.int (Int32.ofInt 1), .int (Int32.ofInt (s.1 95 19)), .ref 95]) rfl ?_
    refine lf_iadd 38 rfl rfl ?_
    refine lf_putI 41 19 rfl rfl rfl rfl rfl rfl rfl rfl ?_
    refine lf_as (lf_up (lf_up (lf_up s.1 95 20 ((s.1 95 20) + 1)) 100 (s.1 95 19) a1) 95 19 ((s.1 95 19) + 1), s.2.1, s.2.2) rfl ?_
    refine lf_seg 1 (pc' := 42) (lv' := [(0, .ref 95), (1, .int (Int32.ofInt a1))]) (st' := [.ref 95]) rfl ?_
    refine lf_callV 45 rfl rfl rfl rfl (gm_197 h) (fun s23 h => ?_)
    refine lf_seg 1 (pc' := 46) (lv' := [(0, .ref 95), (1, .int (Int32.ofInt a1))]) (st' := [.int (Int32.ofInt a1)]) rfl ?_
    refine lf_bipush 48 44 rfl rfl (by decide) (by decide) ?_
    obtain ⟨o24, h⟩ := h
    refine lf_icmp_eq 53 51 rfl rfl rfl o24 ⟨by decide, by decide⟩ (fun c => ?_) (fun c => ?_)
    · have h := h.1 c
      refine lf_seg 1 (pc' := 54) (lv' := [(0, .ref 95), (1, .int (Int32.ofInt a1))]) (st' := [.ref 95]) rfl ?_
      refine lf_callI 57 rfl rfl rfl rfl (gm_232 h) (fun r26 s25 h => ?_)
      obtain ⟨o27, h⟩ := h
      refine lf_if_ge 62 60 rfl rfl rfl o27 (fun c => ?_) (fun c => ?_)
      · have h := h.1 c
        refine lf_seg 3 (pc' := 67) (lv' := [(0, .ref 95), (1, .int (Int32.ofInt a1))]) (st' := [.ref 95, .ref 101]) rfl ?_
        refine lf_getI 70 21 rfl rfl rfl rfl rfl rfl rfl ?_
        refine lf_seg 1 (pc' := 71) (lv' := [(0, .ref 95), (1, .int (Int32.ofInt a1))]) (st' := [.ref 95, .int (Int32.ofInt (s25.1 95 21)), .ref 101]) rfl ?_
        refine lf_callI 74 rfl rfl rfl rfl (gm_232 h) (fun r29 s28 h => ?_)
        obtain ⟨o30, h⟩ := h
        refine lf_iast 75 10 rfl rfl rfl rfl rfl rfl o30 ?_
        refine lf_as (lf_up s28.1 101 (s25.1 95 21) r29, s28.2.1, s28.2.2) rfl ?_
        refine lf_seg 2 (pc' := 77) (lv' := [(0, .ref 95), (1, .int (Int32.ofInt a1))]) (st' := [.ref 95, .ref 95]) rfl ?_
        refine lf_getI 80 21 rfl rfl rfl rfl rfl rfl rfl ?_
        refine lf_seg 1 (pc' := 81) (lv' := [(0, .ref 95), (1, .int (Int32.ofInt a1))]) (st' := [.int (Int32.ofInt 1), .int (Int32.ofInt (s28.1 95 21)), .ref 95]) rfl ?_
        refine lf_iadd 82 rfl rfl ?_
        refine lf_putI 85 21 rfl rfl rfl rfl rfl rfl rfl rfl ?_
        refine lf_as (lf_up (lf_up s28.1 101 (s25.1 95 21) r29) 95 21 ((s28.1 95 21) + 1), s28.2.1, s28.2.2) rfl ?_
        refine lf_seg 1 (pc' := 86) (lv' := [(0, .ref 95), (1, .int (Int32.ofInt a1))]) (st' := [.ref 95]) rfl ?_
        refine lf_callV 89 rfl rfl rfl rfl (gm_197 h) (fun s31 h => ?_)
        refine lf_seg 1 (pc' := 90) (lv' := [(0, .ref 95), (1, .int (Int32.ofInt a1))]) (st' := [.ref 95]) rfl ?_
        refine lf_bipush 92 98 rfl rfl (by decide) (by decide) ?_
        refine lf_bipush 94 101 rfl rfl (by decide) (by decide) ?_
        refine lf_callL 97 rfl rfl rfl rfl (gm_206 h) (fun r33 s32 h => ?_)
        refine lf_wtL ?_
        refine lf_callZ 100 rfl rfl rfl rfl (gm_207 h) (fun z35 s34 h => ?_)
        refine lf_ifz_ne 105 103 rfl rfl rfl (fun c => ?_) (fun c => ?_)
        · have h := h.1 c
          refine lf_seg 1 (pc' := 106) (lv' := [(0, .ref 95), (1, .int (Int32.ofInt a1))]) (st' := [.ref 95]) rfl ?_
          refine lf_callV 109 rfl rfl rfl rfl (gm_197 h) (fun s36 h => ?_)
          refine lf_seg 1 (pc' := 110) (lv' := [(0, .ref 95), (1, .int (Int32.ofInt a1))]) (st' := [.int (Int32.ofInt 0)]) rfl ?_
          exact lf_retI rfl rfl h
        · have h := h.2 c
          refine lf_seg 1 (pc' := 104) (lv' := [(0, .ref 95), (1, .int (Int32.ofInt a1))]) (st' := [.int (Int32.ofInt 1)]) rfl ?_
          exact lf_retI rfl rfl h
      · have h := h.2 c
        refine lf_seg 1 (pc' := 61) (lv' := [(0, .ref 95), (1, .int (Int32.ofInt a1))]) (st' := [.int (Int32.ofInt 1)]) rfl ?_
        exact lf_retI rfl rfl h
    · have h := h.2 c
      refine lf_seg 1 (pc' := 52) (lv' := [(0, .ref 95), (1, .int (Int32.ofInt a1))]) (st' := [.int (Int32.ofInt 0)]) rfl ?_
      exact lf_retI rfl rfl h
  · have h := h.2 c
    refine lf_seg 1 (pc' := 10) (lv' := [(0, .ref 95), (1, .int (Int32.ofInt a1))]) (st' := [.int (Int32.ofInt 3)]) rfl ?_
    exact lf_retI rfl rfl h
-- fm_231 Model.isOf 95 i
def fm_231 (a1 : Int) (Q : Bool → lf_Z → Prop) (s : lf_Z) : Prop := lf_R a1 ∧ ((a1 < 4 → (Q true s)) ∧ (¬ (a1 < 4) → ((a1 ≠ 4 → ((a1 ≠ 10 → (lf_R (s.1 95 14) ∧ ((s.1 95 14 ≠ 1 → (Q false s)) ∧ (¬ (s.1 95 14 ≠ 1) → (Q true s))))) ∧ (¬ (a1 ≠ 10) → (lf_R (s.1 95 14) ∧ ((s.1 95 14 ≠ 2 → (Q false s)) ∧ (¬ (s.1 95 14 ≠ 2) → (Q true s))))))) ∧ (¬ (a1 ≠ 4) → (lf_R (s.1 95 14) ∧ ((s.1 95 14 ≠ 0 → (Q false s)) ∧ (¬ (s.1 95 14 ≠ 0) → (Q true s))))))))
set_option maxRecDepth 100000 in
theorem gm_231 {L : Nat} {xs : Nat → Int32} {d : Nat} {a1 : Int} {Q : Bool → lf_Z → Prop} {s : lf_Z} (h : fm_231 a1 Q s) : lf_M (px_ro L xs) (d + 1) 231 [.ref 95, .int (Int32.ofInt a1)] s (lf_qz Q) := by
  unfold fm_231 at h
  show lf_E (px_ro L xs) (d + 1) 231 0 [(0, .ref 95), (1, .int (Int32.ofInt a1))] [] s _
  refine lf_seg 2 (pc' := 2) (lv' := [(0, .ref 95), (1, .int (Int32.ofInt a1))]) (st' := [.int (Int32.ofInt 4), .int (Int32.ofInt a1)]) rfl ?_
  obtain ⟨o21, h⟩ := h
  refine lf_icmp_lt 45 5 rfl rfl rfl o21 ⟨by decide, by decide⟩ (fun c => ?_) (fun c => ?_)
  · have h := h.1 c
    refine lf_seg 2 (pc' := 50) (lv' := [(0, .ref 95), (1, .int (Int32.ofInt a1))]) (st' := [.int (Int32.ofInt 1)]) rfl ?_
    exact lf_retZ true rfl rfl h
  · have h := h.2 c
    refine lf_seg 2 (pc' := 7) (lv' := [(0, .ref 95), (1, .int (Int32.ofInt a1))]) (st' := [.int (Int32.ofInt 4), .int (Int32.ofInt a1)]) rfl ?_
    refine lf_icmp_ne 20 10 rfl rfl rfl o21 ⟨by decide, by decide⟩ (fun c => ?_) (fun c => ?_)
    · have h := h.1 c
      refine lf_seg 1 (pc' := 21) (lv' := [(0, .ref 95), (1, .int (Int32.ofInt a1))]) (st' := [.int (Int32.ofInt a1)]) rfl ?_
      refine lf_bipush 23 10 rfl rfl (by decide) (by decide) ?_
      refine lf_icmp_ne 37 26 rfl rfl rfl o21 ⟨by decide, by decide⟩ (fun c => ?_) (fun c => ?_)
      · have h := h.1 c
        refine lf_seg 1 (pc' := 38) (lv' := [(0, .ref 95), (1, .int (Int32.ofInt a1))]) (st' := [.ref 95]) rfl ?_
        refine lf_getI 41 14 rfl rfl rfl rfl rfl rfl rfl ?_
        refine lf_seg 1 (pc' := 42) (lv' := [(0, .ref 95), (1, .int (Int32.ofInt a1))]) (st' := [.int (Int32.ofInt 1), .int (Int32.ofInt (s.1 95 14))]) rfl ?_
        obtain ⟨o22, h⟩ := h
        refine lf_icmp_ne 49 45 rfl rfl rfl o22 ⟨by decide, by decide⟩ (fun c => ?_) (fun c => ?_)
        · have h := h.1 c
          refine lf_seg 1 (pc' := 50) (lv' := [(0, .ref 95), (1, .int (Int32.ofInt a1))]) (st' := [.int (Int32.ofInt 0)]) rfl ?_
          exact lf_retZ false rfl rfl h
        · have h := h.2 c
          refine lf_seg 2 (pc' := 50) (lv' := [(0, .ref 95), (1, .int (Int32.ofInt a1))]) (st' := [.int (Int32.ofInt 1)]) rfl ?_
          exact lf_retZ true rfl rfl h
      · have h := h.2 c
        refine lf_seg 1 (pc' := 27) (lv' := [(0, .ref 95), (1, .int (Int32.ofInt a1))]) (st' := [.ref 95]) rfl ?_
        refine lf_getI 30 14 rfl rfl rfl rfl rfl rfl rfl ?_
        refine lf_seg 1 (pc' := 31) (lv' := [(0, .ref 95), (1, .int (Int32.ofInt a1))]) (st' := [.int (Int32.ofInt 2), .int (Int32.ofInt (s.1 95 14))]) rfl ?_
        obtain ⟨o23, h⟩ := h
        refine lf_icmp_ne 49 34 rfl rfl rfl o23 ⟨by decide, by decide⟩ (fun c => ?_) (fun c => ?_)
        · have h := h.1 c
          refine lf_seg 1 (pc' := 50) (lv' := [(0, .ref 95), (1, .int (Int32.ofInt a1))]) (st' := [.int (Int32.ofInt 0)]) rfl ?_
          exact lf_retZ false rfl rfl h
        · have h := h.2 c
          refine lf_seg 3 (pc' := 50) (lv' := [(0, .ref 95), (1, .int (Int32.ofInt a1))]) (st' := [.int (Int32.ofInt 1)]) rfl ?_
          exact lf_retZ true rfl rfl h
    · have h := h.2 c
      refine lf_seg 1 (pc' := 11) (lv' := [(0, .ref 95), (1, .int (Int32.ofInt a1))]) (st' := [.ref 95]) rfl ?_
      refine lf_getI 14 14 rfl rfl rfl rfl rfl rfl rfl ?_
      obtain ⟨o24, h⟩ := h
      refine lf_if_ne 49 17 rfl rfl rfl o24 (fun c => ?_) (fun c => ?_)
      · have h := h.1 c
        refine lf_seg 1 (pc' := 50) (lv' := [(0, .ref 95), (1, .int (Int32.ofInt a1))]) (st' := [.int (Int32.ofInt 0)]) rfl ?_
        exact lf_retZ false rfl rfl h
      · have h := h.2 c
        refine lf_seg 3 (pc' := 50) (lv' := [(0, .ref 95), (1, .int (Int32.ofInt a1))]) (st' := [.int (Int32.ofInt 1)]) rfl ?_
        exact lf_retZ true rfl rfl h
-- fm_229 Model.beginOne 95
def fm_229_p79 (Q : Int → lf_Z → Prop) (x1 : Int) (s : lf_Z) : Prop := lf_R (s.1 95 9) ∧ ((s.1 95 9 ≠ 1 → (lf_R x1 ∧ ((x1 < 0 → (fm_232 (fun r32 s31 => ((0 ≤ r32 ∧ r32 < 26) ∧ (fm_233 31 (s31.1 103 r32) (fun s34 => (Q 0 s34)) s31))) s)) ∧ (¬ (x1 < 0) → (fm_233 1 x1 (fun s35 => (Q 0 s35)) s))))) ∧ (¬ (s.1 95 9 ≠ 1) → (fm_233 0 (s.1 95 10) (fun s36 => (Q 0 s36)) s)))
set_option maxRecDepth 100000 in
theorem gm_229_p79 {L : Nat} {xs : Nat → Int32} {d : Nat} {Q : Int → lf_Z → Prop} {x1 : Int} {s : lf_Z} (h : fm_229_p79 Q x1 s) : lf_E (px_ro L xs) (d + 7) 229 79 [(0, .ref 95), (1, .int (Int32.ofInt x1))] [] s (lf_qi Q) := by
  unfold fm_229_p79 at h
  refine lf_seg 1 (pc' := 80) (lv' := [(0, .ref 95), (1, .int (Int32.ofInt x1))]) (st' := [.ref 95]) rfl ?_
  refine lf_getI 83 9 rfl rfl rfl rfl rfl rfl rfl ?_
  refine lf_seg 1 (pc' := 84) (lv' := [(0, .ref 95), (1, .int (Int32.ofInt x1))]) (st' := [.int (Int32.ofInt 1), .int (Int32.ofInt (s.1 95 9))]) rfl ?_
  obtain ⟨o29, h⟩ := h
  refine lf_icmp_ne 99 87 rfl rfl rfl o29 ⟨by decide, by decide⟩ (fun c => ?_) (fun c => ?_)
  · have h := h.1 c
    refine lf_seg 1 (pc' := 100) (lv' := [(0, .ref 95), (1, .int (Int32.ofInt x1))]) (st' := [.int (Int32.ofInt x1)]) rfl ?_
    obtain ⟨o30, h⟩ := h
    refine lf_if_lt 112 103 rfl rfl rfl o30 (fun c => ?_) (fun c => ?_)
    · have h := h.1 c
      refine lf_seg 1 (pc' := 113) (lv' := [(0, .ref 95), (1, .int (Int32.ofInt x1))]) (st' := [.ref 95]) rfl ?_
      refine lf_bipush 115 31 rfl rfl (by decide) (by decide) ?_
      refine lf_seg 3 (pc' := 120) (lv' := [(0, .ref 95), (1, .int (Int32.ofInt x1))]) (st' := [.ref 95, .ref 103, .int (Int32.ofInt 31), .ref 95]) rfl ?_
      refine lf_callI 123 rfl rfl rfl rfl (gm_232 h) (fun r32 s31 h => ?_)
      obtain ⟨o33, h⟩ := h
      refine lf_iald 124 26 rfl rfl rfl rfl rfl rfl o33 ?_
      refine lf_callV 127 rfl rfl rfl rfl (gm_233 h) (fun s34 h => ?_)
      refine lf_seg 1 (pc' := 128) (lv' := [(0, .ref 95), (1, .int (Int32.ofInt x1))]) (st' := [.int (Int32.ofInt 0)]) rfl ?_
      exact lf_retI rfl rfl h
    · have h := h.2 c
      refine lf_seg 3 (pc' := 106) (lv' := [(0, .ref 95), (1, .int (Int32.ofInt x1))]) (st' := [.int (Int32.ofInt x1), .int (Int32.ofInt 1), .ref 95]) rfl ?_
      refine lf_callV 109 rfl rfl rfl rfl (gm_233 h) (fun s35 h => ?_)
      refine lf_seg 2 (pc' := 128) (lv' := [(0, .ref 95), (1, .int (Int32.ofInt x1))]) (st' := [.int (Int32.ofInt 0)]) rfl ?_
      exact lf_retI rfl rfl h
  · have h := h.2 c
    refine lf_seg 3 (pc' := 90) (lv' := [(0, .ref 95), (1, .int (Int32.ofInt x1))]) (st' := [.ref 95, .int (Int32.ofInt 0), .ref 95]) rfl ?_
    refine lf_getI 93 10 rfl rfl rfl rfl rfl rfl rfl ?_
    refine lf_callV 96 rfl rfl rfl rfl (gm_233 h) (fun s36 h => ?_)
    refine lf_seg 2 (pc' := 128) (lv' := [(0, .ref 95), (1, .int (Int32.ofInt x1))]) (st' := [.int (Int32.ofInt 0)]) rfl ?_
    exact lf_retI rfl rfl h
def fm_229_p60 (Q : Int → lf_Z → Prop) (x1 : Int) (s : lf_Z) : Prop := lf_R (s.1 95 9) ∧ ((s.1 95 9 = 1 → (fm_229_p79 Q x1 s)) ∧ (¬ (s.1 95 9 = 1) → (lf_R x1 ∧ ((0 ≤ x1 → (fm_229_p79 Q x1 s)) ∧ (¬ (0 ≤ x1) → (fm_232 (fun r39 s38 => (lf_R r39 ∧ ((r39 < 0 → (lf_R (s38.1 95 9) ∧ ((s38.1 95 9 ≠ 40 → ((s38.1 95 9 ≠ 45 → (fm_206 105 102 (fun r43 s42 => (fm_207 (lf_wl r43) (fun z45 s44 => ((z45 = false → (fm_205 108 101 116 (fun r47 s46 => (fm_207 (lf_wl r47) (fun z49 s48 => ((z49 = false → (fm_205 110 111 116 (fun r51 s50 => (fm_207 (lf_wl r51) (fun z53 s52 => ((z53 = false → (Q 1 s52)) ∧ (z53 = true → (fm_235 (fun z55 s54 => ((z55 = false → (Q 1 s54)) ∧ (z55 = true → (fm_234 20 (fun r57 s56 => (Q r57 s56)) s54)))) s52)))) s50)) s48)) ∧ (z49 = true → (fm_234 44 (fun r59 s58 => (Q r59 s58)) s48)))) s46)) s44)) ∧ (z45 = true → (fm_234 41 (fun r61 s60 => (Q r61 s60)) s44)))) s42)) s38)) ∧ (¬ (s38.1 95 9 ≠ 45) → (fm_234 3 (fun r63 s62 => (Q r63 s62)) s38)))) ∧ (¬ (s38.1 95 9 ≠ 40) → (fm_234 40 (fun r65 s64 => (Q r65 s64)) s38))))) ∧ (¬ (r39 < 0) → (fm_229_p79 Q x1 s38))))) s))))))
set_option maxRecDepth 100000 in
theorem gm_229_p60 {L : Nat} {xs : Nat → Int32} {d : Nat} {Q : Int → lf_Z → Prop} {x1 : Int} {s : lf_Z} (h : fm_229_p60 Q x1 s) : lf_E (px_ro L xs) (d + 7) 229 60 [(0, .ref 95), (1, .int (Int32.ofInt x1))] [] s (lf_qi Q) := by
  unfold fm_229_p60 at h
  refine lf_seg 1 (pc' := 61) (lv' := [(0, .ref 95), (1, .int (Int32.ofInt x1))]) (st' := [.ref 95]) rfl ?_
  refine lf_getI 64 9 rfl rfl rfl rfl rfl rfl rfl ?_
  refine lf_seg 1 (pc' := 65) (lv' := [(0, .ref 95), (1, .int (Int32.ofInt x1))]) (st' := [.int (Int32.ofInt 1), .int (Int32.ofInt (s.1 95 9))]) rfl ?_
  obtain ⟨o28, h⟩ := h
  refine lf_icmp_eq 79 68 rfl rfl rfl o28 ⟨by decide, by decide⟩ (fun c => ?_) (fun c => ?_)
  · have h := h.1 c
    refine lf_sub (l := [(0, .ref 95), (1, .int (Int32.ofInt x1))]) (lf_sb1 rfl (lf_sb1 rfl lf_sb0)) ?_
    exact gm_229_p79 h
  · have h := h.2 c
    refine lf_seg 1 (pc' := 69) (lv' := [(0, .ref 95), (1, .int (Int32.ofInt x1))]) (st' := [.int (Int32.ofInt x1)]) rfl ?_
    obtain ⟨o37, h⟩ := h
    refine lf_if_ge 79 72 rfl rfl rfl o37 (fun c => ?_) (fun c => ?_)
    · have h := h.1 c
      refine lf_sub (l := [(0, .ref 95), (1, .int (Int32.ofInt x1))]) (lf_sb1 rfl (lf_sb1 rfl lf_sb0)) ?_
      exact gm_229_p79 h
    · have h := h.2 c
      refine lf_seg 1 (pc' := 73) (lv' := [(0, .ref 95), (1, .int (Int32.ofInt x1))]) (st' := [.ref 95]) rfl ?_
      refine lf_callI 76 rfl rfl rfl rfl (gm_232 h) (fun r39 s38 h => ?_)
      obtain ⟨o40, h⟩ := h
      refine lf_if_lt 129 79 rfl rfl rfl o40 (fun c => ?_) (fun c => ?_)
      · have h := h.1 c
        refine lf_seg 1 (pc' := 130) (lv' := [(0, .ref 95), (1, .int (Int32.ofInt x1))]) (st' := [.ref 95]) rfl ?_
        refine lf_getI 133 9 rfl rfl rfl rfl rfl rfl rfl ?_
        refine lf_bipush 135 40 rfl rfl (by decide) (by decide) ?_
        obtain ⟨o41, h⟩ := h
        refine lf_icmp_ne 145 138 rfl rfl rfl o41 ⟨by decide, by decide⟩ (fun c => ?_) (fun c => ?_)
        · have h := h.1 c
          refine lf_seg 1 (pc' := 146) (lv' := [(0, .ref 95), (1, .int (Int32.ofInt x1))]) (st' := [.ref 95]) rfl ?_
          refine lf_getI 149 9 rfl rfl rfl rfl rfl rfl rfl ?_
          refine lf_bipush 151 45 rfl rfl (by decide) (by decide) ?_
          refine lf_icmp_ne 160 154 rfl rfl rfl o41 ⟨by decide, by decide⟩ (fun c => ?_) (fun c => ?_)
          · have h := h.1 c
            refine lf_seg 1 (pc' := 161) (lv' := [(0, .ref 95), (1, .int (Int32.ofInt x1))]) (st' := [.ref 95]) rfl ?_
            refine lf_bipush 163 105 rfl rfl (by decide) (by decide) ?_
            refine lf_bipush 165 102 rfl rfl (by decide) (by decide) ?_
            refine lf_callL 168 rfl rfl rfl rfl (gm_206 h) (fun r43 s42 h => ?_)
            refine lf_wtL ?_
            refine lf_callZ 171 rfl rfl rfl rfl (gm_207 h) (fun z45 s44 h => ?_)
            refine lf_ifz_eq 181 174 rfl rfl rfl (fun c => ?_) (fun c => ?_)
            · have h := h.1 c
              refine lf_seg 1 (pc' := 182) (lv' := [(0, .ref 95), (1, .int (Int32.ofInt x1))]) (st' := [.ref 95]) rfl ?_
              refine lf_bipush 184 108 rfl rfl (by decide) (by decide) ?_
              refine lf_bipush 186 101 rfl rfl (by decide) (by decide) ?_
              refine lf_bipush 188 116 rfl rfl (by decide) (by decide) ?_
              refine lf_callL 191 rfl rfl rfl rfl (gm_205 h) (fun r47 s46 h => ?_)
              refine lf_wtL ?_
              refine lf_callZ 194 rfl rfl rfl rfl (gm_207 h) (fun z49 s48 h => ?_)
              refine lf_ifz_eq 204 197 rfl rfl rfl (fun c => ?_) (fun c => ?_)
              · have h := h.1 c
                refine lf_seg 1 (pc' := 205) (lv' := [(0, .ref 95), (1, .int (Int32.ofInt x1))]) (st' := [.ref 95]) rfl ?_
                refine lf_bipush 207 110 rfl rfl (by decide) (by decide) ?_
                refine lf_bipush 209 111 rfl rfl (by decide) (by decide) ?_
                refine lf_bipush 211 116 rfl rfl (by decide) (by decide) ?_
                refine lf_callL 214 rfl rfl rfl rfl (gm_205 h) (fun r51 s50 h => ?_)
                refine lf_wtL ?_
                refine lf_callZ 217 rfl rfl rfl rfl (gm_207 h) (fun z53 s52 h => ?_)
                refine lf_ifz_eq 236 220 rfl rfl rfl (fun c => ?_) (fun c => ?_)
                · have h := h.1 c
                  refine lf_seg 1 (pc' := 237) (lv' := [(0, .ref 95), (1, .int (Int32.ofInt x1))]) (st' := [.int (Int32.ofInt 1)]) rfl ?_
                  exact lf_retI rfl rfl h
                · have h := h.2 c
                  refine lf_seg 1 (pc' := 221) (lv' := [(0, .ref 95), (1, .int (Int32.ofInt x1))]) (st' := [.ref 95]) rfl ?_
                  refine lf_callZ 224 rfl rfl rfl rfl (gm_235 h) (fun z55 s54 h => ?_)
                  refine lf_ifz_eq 236 227 rfl rfl rfl (fun c => ?_) (fun c => ?_)
                  · have h := h.1 c
                    refine lf_seg 1 (pc' := 237) (lv' := [(0, .ref 95), (1, .int (Int32.ofInt x1))]) (st' := [.int (Int32.ofInt 1)]) rfl ?_
                    exact lf_retI rfl rfl h
                  · have h := h.2 c
                    refine lf_seg 1 (pc' := 228) (lv' := [(0, .ref 95), (1, .int (Int32.ofInt x1))]) (st' := [.ref 95]) rfl ?_
                    refine lf_bipush 230 20 rfl rfl (by decide) (by decide) ?_
                    refine lf_callI 233 rfl rfl rfl rfl (gm_234 h) (fun r57 s56 h => ?_)
                    refine lf_seg 1 (pc' := 237) (lv' := [(0, .ref 95), (1, .int (Int32.ofInt x1))]) (st' := [.int (Int32.ofInt r57)]) rfl ?_
                    exact lf_retI rfl rfl h
              · have h := h.2 c
                refine lf_seg 1 (pc' := 198) (lv' := [(0, .ref 95), (1, .int (Int32.ofInt x1))]) (st' := [.ref 95]) rfl ?_
                refine lf_bipush 200 44 rfl rfl (by decide) (by decide) ?_
                refine lf_callI 203 rfl rfl rfl rfl (gm_234 h) (fun r59 s58 h => ?_)
                exact lf_retI rfl rfl h
            · have h := h.2 c
              refine lf_seg 1 (pc' := 175) (lv' := [(0, .ref 95), (1, .int (Int32.ofInt x1))]) (st' := [.ref 95]) rfl ?_
              refine lf_bipush 177 41 rfl rfl (by decide) (by decide) ?_
              refine lf_callI 180 rfl rfl rfl rfl (gm_234 h) (fun r61 s60 h => ?_)
              exact lf_retI rfl rfl h
          · have h := h.2 c
            refine lf_seg 2 (pc' := 156) (lv' := [(0, .ref 95), (1, .int (Int32.ofInt x1))]) (st' := [.int (Int32.ofInt 3), .ref 95]) rfl ?_
            refine lf_callI 159 rfl rfl rfl rfl (gm_234 h) (fun r63 s62 h => ?_)
            exact lf_retI rfl rfl h
        · have h := h.2 c
          refine lf_seg 1 (pc' := 139) (lv' := [(0, .ref 95), (1, .int (Int32.ofInt x1))]) (st' := [.ref 95]) rfl ?_
          refine lf_bipush 141 40 rfl rfl (by decide) (by decide) ?_
          refine lf_callI 144 rfl rfl rfl rfl (gm_234 h) (fun r65 s64 h => ?_)
          exact lf_retI rfl rfl h
      · have h := h.2 c
        refine lf_sub (l := [(0, .ref 95), (1, .int (Int32.ofInt x1))]) (lf_sb1 rfl (lf_sb1 rfl lf_sb0)) ?_
        exact gm_229_p79 h
def fm_229_p39 (Q : Int → lf_Z → Prop) (x1 : Int) (s : lf_Z) : Prop := fm_232 (fun r26 s25 => (lf_R r26 ∧ ((r26 < 0 → (fm_229_p60 Q x1 s25)) ∧ (¬ (r26 < 0) → (fm_232 (fun r67 s66 => ((0 ≤ r67 ∧ r67 < 26) ∧ (lf_R (s66.1 103 r67) ∧ ((0 ≤ s66.1 103 r67 → (fm_229_p60 Q x1 s66)) ∧ (¬ (0 ≤ s66.1 103 r67) → (Q 5 s66)))))) s25))))) s
set_option maxRecDepth 100000 in
theorem gm_229_p39 {L : Nat} {xs : Nat → Int32} {d : Nat} {Q : Int → lf_Z → Prop} {x1 : Int} {s : lf_Z} (h : fm_229_p39 Q x1 s) : lf_E (px_ro L xs) (d + 7) 229 39 [(0, .ref 95), (1, .int (Int32.ofInt x1))] [] s (lf_qi Q) := by
  unfold fm_229_p39 at h
  refine lf_seg 1 (pc' := 40) (lv' := [(0, .ref 95), (1, .int (Int32.ofInt x1))]) (st' := [.ref 95]) rfl ?_
  refine lf_callI 43 rfl rfl rfl rfl (gm_232 h) (fun r26 s25 h => ?_)
  obtain ⟨o27, h⟩ := h
  refine lf_if_lt 60 46 rfl rfl rfl o27 (fun c => ?_) (fun c => ?_)
  · have h := h.1 c
    refine lf_sub (l := [(0, .ref 95), (1, .int (Int32.ofInt x1))]) (lf_sb1 rfl (lf_sb1 rfl lf_sb0)) ?_
    exact gm_229_p60 h
  · have h := h.2 c
    refine lf_seg 3 (pc' := 51) (lv' := [(0, .ref 95), (1, .int (Int32.ofInt x1))]) (st' := [.ref 95, .ref 103]) rfl ?_
    refine lf_callI 54 rfl rfl rfl rfl (gm_232 h) (fun r67 s66 h => ?_)
    obtain ⟨o68, h⟩ := h
    refine lf_iald 55 26 rfl rfl rfl rfl rfl rfl o68 ?_
    obtain ⟨o69, h⟩ := h
    refine lf_if_ge 60 58 rfl rfl rfl o69 (fun c => ?_) (fun c => ?_)
    · have h := h.1 c
      refine lf_sub (l := [(0, .ref 95), (1, .int (Int32.ofInt x1))]) (lf_sb1 rfl (lf_sb1 rfl lf_sb0)) ?_
      exact gm_229_p60 h
    · have h := h.2 c
      refine lf_seg 1 (pc' := 59) (lv' := [(0, .ref 95), (1, .int (Int32.ofInt x1))]) (st' := [.int (Int32.ofInt 5)]) rfl ?_
      exact lf_retI rfl rfl h
def fm_229_p20 (Q : Int → lf_Z → Prop) (s : lf_Z) : Prop := fm_230 (fun r23 s22 => (lf_R r23 ∧ ((r23 < 0 → (fm_229_p39 Q r23 s22)) ∧ (¬ (r23 < 0) → (fm_231 r23 (fun z71 s70 => ((z71 = true → (fm_229_p39 Q r23 s70)) ∧ (z71 = false → (Q 5 s70)))) s22))))) s
set_option maxRecDepth 100000 in
theorem gm_229_p20 {L : Nat} {xs : Nat → Int32} {d : Nat} {Q : Int → lf_Z → Prop} {s : lf_Z} (h : fm_229_p20 Q s) : lf_E (px_ro L xs) (d + 7) 229 20 [(0, .ref 95)] [] s (lf_qi Q) := by
  unfold fm_229_p20 at h
  refine lf_seg 1 (pc' := 21) (lv' := [(0, .ref 95)]) (st' := [.ref 95]) rfl ?_
  refine lf_callI 24 rfl rfl rfl rfl (gm_230 h) (fun r23 s22 h => ?_)
  refine lf_seg 2 (pc' := 26) (lv' := [(1, .int (Int32.ofInt r23)), (0, .ref 95)]) (st' := [.int (Int32.ofInt r23)]) rfl ?_
  obtain ⟨o24, h⟩ := h
  refine lf_if_lt 39 29 rfl rfl rfl o24 (fun c => ?_) (fun c => ?_)
  · have h := h.1 c
    refine lf_sub (l := [(0, .ref 95), (1, .int (Int32.ofInt r23))]) (lf_sb1 rfl (lf_sb1 rfl lf_sb0)) ?_
    exact gm_229_p39 h
  · have h := h.2 c
    refine lf_seg 2 (pc' := 31) (lv' := [(1, .int (Int32.ofInt r23)), (0, .ref 95)]) (st' := [.int (Int32.ofInt r23), .ref 95]) rfl ?_
    refine lf_callZ 34 rfl rfl rfl rfl (gm_231 h) (fun z71 s70 h => ?_)
    refine lf_ifz_ne 39 37 rfl rfl rfl (fun c => ?_) (fun c => ?_)
    · have h := h.1 c
      refine lf_sub (l := [(0, .ref 95), (1, .int (Int32.ofInt r23))]) (lf_sb1 rfl (lf_sb1 rfl lf_sb0)) ?_
      exact gm_229_p39 h
    · have h := h.2 c
      refine lf_seg 1 (pc' := 38) (lv' := [(1, .int (Int32.ofInt r23)), (0, .ref 95)]) (st' := [.int (Int32.ofInt 5)]) rfl ?_
      exact lf_retI rfl rfl h
def fm_229 (Q : Int → lf_Z → Prop) (s : lf_Z) : Prop := lf_R (s.1 95 9) ∧ ((s.1 95 9 ≠ 1 → (fm_229_p20 Q s)) ∧ (¬ (s.1 95 9 ≠ 1) → (lf_R (s.1 95 10) ∧ ((s.1 95 10 ≤ 9999 → (fm_229_p20 Q s)) ∧ (¬ (s.1 95 10 ≤ 9999) → (Q 2 s))))))
set_option maxRecDepth 100000 in
theorem gm_229 {L : Nat} {xs : Nat → Int32} {d : Nat} {Q : Int → lf_Z → Prop} {s : lf_Z} (h : fm_229 Q s) : lf_M (px_ro L xs) (d + 7) 229 [.ref 95] s (lf_qi Q) := by
  unfold fm_229 at h
  show lf_E (px_ro L xs) (d + 7) 229 0 [(0, .ref 95)] [] s _
  refine lf_seg 1 (pc' := 1) (lv' := [(0, .ref 95)]) (st' := [.ref 95]) rfl ?_
  refine lf_getI 4 9 rfl rfl rfl rfl rfl rfl rfl ?_
  refine lf_seg 1 (pc' := 5) (lv' := [(0, .ref 95)]) (st' := [.int (Int32.ofInt 1), .int (Int32.ofInt (s.1 95 9))]) rfl ?_
  obtain ⟨o21, h⟩ := h
  refine lf_icmp_ne 20 8 rfl rfl rfl o21 ⟨by decide, by decide⟩ (fun c => ?_) (fun c => ?_)
  · have h := h.1 c
    refine lf_sub (l := [(0, .ref 95)]) (lf_sb1 rfl lf_sb0) ?_
    exact gm_229_p20 h
  · have h := h.2 c
    refine lf_seg 1 (pc' := 9) (lv' := [(0, .ref 95)]) (st' := [.ref 95]) rfl ?_
    refine lf_getI 12 10 rfl rfl rfl rfl rfl rfl rfl ?_
    refine lf_sipush 15 9999 rfl rfl (by decide) (by decide) ?_
    obtain ⟨o72, h⟩ := h
    refine lf_icmp_le 20 18 rfl rfl rfl o72 ⟨by decide, by decide⟩ (fun c => ?_) (fun c => ?_)
    · have h := h.1 c
      refine lf_sub (l := [(0, .ref 95)]) (lf_sb1 rfl lf_sb0) ?_
      exact gm_229_p20 h
    · have h := h.2 c
      refine lf_seg 1 (pc' := 19) (lv' := [(0, .ref 95)]) (st' := [.int (Int32.ofInt 2)]) rfl ?_
      exact lf_retI rfl rfl h
-- fm_221 Model.isCompared 95
def fm_221_p30 (Q : Bool → lf_Z → Prop) (x1 : Int) (s : lf_Z) : Prop := lf_R x1 ∧ ((x1 < 0 → (Q false s)) ∧ (¬ (x1 < 0) → ((0 ≤ x1 ∧ x1 < 160) ∧ (fm_222 (s.1 100 x1) (fun r25 s24 => (lf_R r25 ∧ ((r25 ≠ 4 → (Q false s24)) ∧ (¬ (r25 ≠ 4) → (Q true s24))))) s))))
set_option maxRecDepth 100000 in
theorem gm_221_p30 {L : Nat} {xs : Nat → Int32} {d : Nat} {Q : Bool → lf_Z → Prop} {x1 : Int} {s : lf_Z} (h : fm_221_p30 Q x1 s) : lf_E (px_ro L xs) (d + 2) 221 30 [(0, .ref 95), (1, .int (Int32.ofInt x1))] [] s (lf_qz Q) := by
  unfold fm_221_p30 at h
  refine lf_seg 1 (pc' := 31) (lv' := [(0, .ref 95), (1, .int (Int32.ofInt x1))]) (st' := [.int (Int32.ofInt x1)]) rfl ?_
  obtain ⟨o22, h⟩ := h
  refine lf_if_lt 51 34 rfl rfl rfl o22 (fun c => ?_) (fun c => ?_)
  · have h := h.1 c
    refine lf_seg 1 (pc' := 52) (lv' := [(0, .ref 95), (1, .int (Int32.ofInt x1))]) (st' := [.int (Int32.ofInt 0)]) rfl ?_
    exact lf_retZ false rfl rfl h
  · have h := h.2 c
    refine lf_seg 3 (pc' := 39) (lv' := [(0, .ref 95), (1, .int (Int32.ofInt x1))]) (st' := [.int (Int32.ofInt x1), .ref 100]) rfl ?_
    obtain ⟨o23, h⟩ := h
    refine lf_iald 40 160 rfl rfl rfl rfl rfl rfl o23 ?_
    refine lf_callI 43 rfl rfl rfl rfl (gm_222 h) (fun r25 s24 h => ?_)
    refine lf_seg 1 (pc' := 44) (lv' := [(0, .ref 95), (1, .int (Int32.ofInt x1))]) (st' := [.int (Int32.ofInt 4), .int (Int32.ofInt r25)]) rfl ?_
    obtain ⟨o26, h⟩ := h
    refine lf_icmp_ne 51 47 rfl rfl rfl o26 ⟨by decide, by decide⟩ (fun c => ?_) (fun c => ?_)
    · have h := h.1 c
      refine lf_seg 1 (pc' := 52) (lv' := [(0, .ref 95), (1, .int (Int32.ofInt x1))]) (st' := [.int (Int32.ofInt 0)]) rfl ?_
      exact lf_retZ false rfl rfl h
    · have h := h.2 c
      refine lf_seg 2 (pc' := 52) (lv' := [(0, .ref 95), (1, .int (Int32.ofInt x1))]) (st' := [.int (Int32.ofInt 1)]) rfl ?_
      exact lf_retZ true rfl rfl h
def fm_221_p7 (Q : Bool → lf_Z → Prop) (X7 : Int → lf_Z → Prop) (x1 : Int) (s : lf_Z) : Prop := lf_R x1 ∧ ((x1 < 0 → (fm_221_p30 Q x1 s)) ∧ (¬ (x1 < 0) → ((0 ≤ x1 ∧ x1 < 160) ∧ (fm_222 (s.1 100 x1) (fun r29 s28 => (lf_R r29 ∧ ((r29 ≤ 4 → (fm_221_p30 Q x1 s28)) ∧ (¬ (r29 ≤ 4) → (X7 (x1 + (-1)) s28))))) s))))
def fm_221_p7L (Q : Bool → lf_Z → Prop) (x1 : Int) (s : lf_Z) : Prop := ∀ X7 : Int → lf_Z → Prop, (∀ (x1 : Int) (s : lf_Z), fm_221_p7 Q X7 x1 s → X7 x1 s) → X7 x1 s
set_option maxRecDepth 100000 in
theorem gm_221_p7 {L : Nat} {xs : Nat → Int32} {d : Nat} {Q : Bool → lf_Z → Prop} {x1 : Int} {s : lf_Z} {X7 : Int → lf_Z → Prop} (hX7 : ∀ x1 s, X7 x1 s → lf_E (px_ro L xs) (d + 2) 221 7 [(0, .ref 95), (1, .int (Int32.ofInt x1))] [] s (lf_qz Q)) (h : fm_221_p7 Q X7 x1 s) : lf_E (px_ro L xs) (d + 2) 221 7 [(0, .ref 95), (1, .int (Int32.ofInt x1))] [] s (lf_qz Q) := by
  unfold fm_221_p7 at h
  refine lf_seg 1 (pc' := 8) (lv' := [(0, .ref 95), (1, .int (Int32.ofInt x1))]) (st' := [.int (Int32.ofInt x1)]) rfl ?_
  obtain ⟨o21, h⟩ := h
  refine lf_if_lt 30 11 rfl rfl rfl o21 (fun c => ?_) (fun c => ?_)
  · have h := h.1 c
    refine lf_sub (l := [(0, .ref 95), (1, .int (Int32.ofInt x1))]) (lf_sb1 rfl (lf_sb1 rfl lf_sb0)) ?_
    exact gm_221_p30 h
  · have h := h.2 c
    refine lf_seg 3 (pc' := 16) (lv' := [(0, .ref 95), (1, .int (Int32.ofInt x1))]) (st' := [.int (Int32.ofInt x1), .ref 100]) rfl ?_
    obtain ⟨o27, h⟩ := h
    refine lf_iald 17 160 rfl rfl rfl rfl rfl rfl o27 ?_
    refine lf_callI 20 rfl rfl rfl rfl (gm_222 h) (fun r29 s28 h => ?_)
    refine lf_seg 1 (pc' := 21) (lv' := [(0, .ref 95), (1, .int (Int32.ofInt x1))]) (st' := [.int (Int32.ofInt 4), .int (Int32.ofInt r29)]) rfl ?_
    obtain ⟨o30, h⟩ := h
    refine lf_icmp_le 30 24 rfl rfl rfl o30 ⟨by decide, by decide⟩ (fun c => ?_) (fun c => ?_)
    · have h := h.1 c
      refine lf_sub (l := [(0, .ref 95), (1, .int (Int32.ofInt x1))]) (lf_sb1 rfl (lf_sb1 rfl lf_sb0)) ?_
      exact gm_221_p30 h
    · have h := h.2 c
      refine lf_iinc 27 rfl rfl rfl rfl ?_
      refine lf_seg 1 (pc' := 7) (lv' := [(1, .int (Int32.ofInt (x1 + (-1)))), (0, .ref 95)]) (st' := []) rfl ?_
      refine lf_sub (l := [(0, .ref 95), (1, .int (Int32.ofInt (x1 + (-1))))]) (lf_sb1 rfl (lf_sb1 rfl lf_sb0)) ?_
      exact hX7 _ _ h
theorem gm_221_p7L {L : Nat} {xs : Nat → Int32} {d : Nat} {Q : Bool → lf_Z → Prop} {x1 : Int} {s : lf_Z} (h : fm_221_p7L Q x1 s) : lf_E (px_ro L xs) (d + 2) 221 7 [(0, .ref 95), (1, .int (Int32.ofInt x1))] [] s (lf_qz Q) :=
  h (fun x1 s => lf_E (px_ro L xs) (d + 2) 221 7 [(0, .ref 95), (1, .int (Int32.ofInt x1))] [] s (lf_qz Q)) (fun x1 s hb => gm_221_p7 (fun _ _ h => h) hb)
def fm_221 (Q : Bool → lf_Z → Prop) (s : lf_Z) : Prop := fm_221_p7L Q ((s.1 95 19) - 1) s
set_option maxRecDepth 100000 in
theorem gm_221 {L : Nat} {xs : Nat → Int32} {d : Nat} {Q : Bool → lf_Z → Prop} {s : lf_Z} (h : fm_221 Q s) : lf_M (px_ro L xs) (d + 2) 221 [.ref 95] s (lf_qz Q) := by
  unfold fm_221 at h
  show lf_E (px_ro L xs) (d + 2) 221 0 [(0, .ref 95)] [] s _
  refine lf_seg 1 (pc' := 1) (lv' := [(0, .ref 95)]) (st' := [.ref 95]) rfl ?_
  refine lf_getI 4 19 rfl rfl rfl rfl rfl rfl rfl ?_
  refine lf_seg 1 (pc' := 5) (lv' := [(0, .ref 95)]) (st' := [.int (Int32.ofInt 1), .int (Int32.ofInt (s.1 95 19))]) rfl ?_
  refine lf_isub 6 rfl rfl ?_
  refine lf_seg 1 (pc' := 7) (lv' := [(1, .int (Int32.ofInt ((s.1 95 19) - 1))), (0, .ref 95)]) (st' := []) rfl ?_
  refine lf_sub (l := [(0, .ref 95), (1, .int (Int32.ofInt ((s.1 95 19) - 1)))]) (lf_sb1 rfl (lf_sb1 rfl lf_sb0)) ?_
  exact gm_221_p7L h
