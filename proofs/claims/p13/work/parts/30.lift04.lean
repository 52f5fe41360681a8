-- fm_208 Model.w5 i i i i i
def fm_208 (a0 : Int) (a1 : Int) (a2 : Int) (a3 : Int) (a4 : Int) (Q : Int → lf_Z → Prop) (s : lf_Z) : Prop := fm_204 a0 a1 a2 a3 (fun r22 s21 => (lf_R a4 ∧ (Q (lf_lor (lf_lshl (lf_wl r22) 8) a4) s21))) s
set_option maxRecDepth 100000 in
theorem gm_208 {L : Nat} {xs : Nat → Int32} {d : Nat} {a0 : Int} {a1 : Int} {a2 : Int} {a3 : Int} {a4 : Int} {Q : Int → lf_Z → Prop} {s : lf_Z} (h : fm_208 a0 a1 a2 a3 a4 Q s) : lf_M (px_ro L xs) (d + 4) 208 [.int (Int32.ofInt a0), .int (Int32.ofInt a1), .int (Int32.ofInt a2), .int (Int32.ofInt a3), .int (Int32.ofInt a4)] s (lf_ql Q) := by
  unfold fm_208 at h
  show lf_E (px_ro L xs) (d + 4) 208 0 [(0, .int (Int32.ofInt a0)), (1, .int (Int32.ofInt a1)), (2, .int (Int32.ofInt a2)), (3, .int (Int32.ofInt a3)), (4, .int (Int32.ofInt a4))] [] s _
  refine lf_seg 4 (pc' := 4) (lv' := [(0, .int (Int32.ofInt a0)), (1, .int (Int32.ofInt a1)), (2, .int (Int32.ofInt a2)), (3, .int (Int32.ofInt a3)), (4, .int (Int32.ofInt a4))]) (st' := [.int (Int32.ofInt a3), .int (Int32.ofInt a2), .int (Int32.ofInt a1), .int (Int32.ofInt a0)]) rfl ?_
  refine lf_callL 7 rfl rfl rfl rfl (gm_204 h) (fun r22 s21 h => ?_)
  refine lf_wtL ?_
  refine lf_bipush 9 8 rfl rfl (by decide) (by decide) ?_
  refine lf_lshl' 10 rfl rfl ?_
  refine lf_seg 1 (pc' := 12) (lv' := [(0, .int (Int32.ofInt a0)), (1, .int (Int32.ofInt a1)), (2, .int (Int32.ofInt a2)), (3, .int (Int32.ofInt a3)), (4, .int (Int32.ofInt a4))]) (st' := [.int (Int32.ofInt a4), .long (Int64.ofInt (lf_lshl (lf_wl r22) 8))]) rfl ?_
  obtain ⟨o23, h⟩ := h
  refine lf_i2l 13 rfl rfl o23 ?_
  refine lf_lor' 14 rfl rfl ?_
  exact lf_retL rfl rfl h
-- fm_209 Model.w6 i i i i i i
def fm_209 (a0 : Int) (a1 : Int) (a2 : Int) (a3 : Int) (a4 : Int) (a5 : Int) (Q : Int → lf_Z → Prop) (s : lf_Z) : Prop := fm_208 a0 a1 a2 a3 a4 (fun r22 s21 => (lf_R a5 ∧ (Q (lf_lor (lf_lshl (lf_wl r22) 8) a5) s21))) s
set_option maxRecDepth 100000 in
theorem gm_209 {L : Nat} {xs : Nat → Int32} {d : Nat} {a0 : Int} {a1 : Int} {a2 : Int} {a3 : Int} {a4 : Int} {a5 : Int} {Q : Int → lf_Z → Prop} {s : lf_Z} (h : fm_209 a0 a1 a2 a3 a4 a5 Q s) : lf_M (px_ro L xs) (d + 5) 209 [.int (Int32.ofInt a0), .int (Int32.ofInt a1), .int (Int32.ofInt a2), .int (Int32.ofInt a3), .int (Int32.ofInt a4), .int (Int32.ofInt a5)] s (lf_ql Q) := by
  unfold fm_209 at h
  show lf_E (px_ro L xs) (d + 5) 209 0 [(0, .int (Int32.ofInt a0)), (1, .int (Int32.ofInt a1)), (2, .int (Int32.ofInt a2)), (3, .int (Int32.ofInt a3)), (4, .int (Int32.ofInt a4)), (5, .int (Int32.ofInt a5))] [] s _
  refine lf_seg 5 (pc' := 6) (lv' := [(0, .int (Int32.ofInt a0)), (1, .int (Int32.ofInt a1)), (2, .int (Int32.ofInt a2)), (3, .int (Int32.ofInt a3)), (4, .int (Int32.ofInt a4)), (5, .int (Int32.ofInt a5))]) (st' := [.int (Int32.ofInt a4), .int (Int32.ofInt a3), .int (Int32.ofInt a2), .int (Int32.ofInt a1), .int (Int32.ofInt a0)]) rfl ?_
  refine lf_callL 9 rfl rfl rfl rfl (gm_208 h) (fun r22 s21 h => ?_)
  refine lf_wtL ?_
  refine lf_bipush 11 8 rfl rfl (by decide) (by decide) ?_
  refine lf_lshl' 12 rfl rfl ?_
  refine lf_seg 1 (pc' := 14) (lv' := [(0, .int (Int32.ofInt a0)), (1, .int (Int32.ofInt a1)), (2, .int (Int32.ofInt a2)), (3, .int (Int32.ofInt a3)), (4, .int (Int32.ofInt a4)), (5, .int (Int32.ofInt a5))]) (st' := [.int (Int32.ofInt a5), .long (Int64.ofInt (lf_lshl (lf_wl r22) 8))]) rfl ?_
  obtain ⟨o23, h⟩ := h
  refine lf_i2l 15 rfl rfl o23 ?_
  refine lf_lor' 16 rfl rfl ?_
  exact lf_retL rfl rfl h
-- fm_203 Model.sortOf 95
def fm_203 (Q : Int → lf_Z → Prop) (s : lf_Z) : Prop := fm_204 112 97 99 101 (fun r22 s21 => (fm_207 (lf_wl r22) (fun z24 s23 => ((z24 = false → (fm_208 116 97 107 101 115 (fun r26 s25 => (fm_207 (lf_wl r26) (fun z28 s27 => ((z28 = false → (fm_204 112 97 121 115 (fun r30 s29 => (fm_207 (lf_wl r30) (fun z32 s31 => ((z32 = false → (fm_205 115 116 114 (fun r34 s33 => (fm_204 101 116 99 104 (fun r36 s35 => (fm_207 (lf_lor (lf_lshl (lf_wl r34) 32) (lf_wl r36)) (fun z38 s37 => ((z38 = false → (fm_205 119 97 121 (fun r40 s39 => (fm_207 (lf_wl r40) (fun z42 s41 => ((z42 = false → (fm_204 112 97 116 104 (fun r44 s43 => (fm_207 (lf_wl r44) (fun z46 s45 => ((z46 = false → (fm_205 111 110 101 (fun r48 s47 => (fm_207 (lf_wl r48) (fun z50 s49 => ((z50 = false → (fm_208 115 116 114 97 121 (fun r52 s51 => (fm_207 (lf_wl r52) (fun z54 s53 => ((z54 = false → (fm_204 115 101 110 100 (fun r56 s55 => (fm_207 (lf_wl r56) (fun z58 s57 => ((z58 = false → (fm_204 115 104 117 116 (fun r60 s59 => (fm_207 (lf_wl r60) (fun z62 s61 => ((z62 = false → (fm_204 111 112 101 110 (fun r64 s63 => (fm_207 (lf_wl r64) (fun z66 s65 => ((z66 = false → (fm_208 115 112 108 105 116 (fun r68 s67 => (fm_207 (lf_wl r68) (fun z70 s69 => ((z70 = false → (fm_209 109 105 110 117 116 101 (fun r72 s71 => (fm_207 (lf_wl r72) (fun z74 s73 => ((z74 = false → (Q (-1) s73)) ∧ (z74 = true → (Q 12 s73)))) s71)) s69)) ∧ (z70 = true → (Q 11 s69)))) s67)) s65)) ∧ (z66 = true → (Q 10 s65)))) s63)) s61)) ∧ (z62 = true → (Q 9 s61)))) s59)) s57)) ∧ (z58 = true → (Q 8 s57)))) s55)) s53)) ∧ (z54 = true → (Q 7 s53)))) s51)) s49)) ∧ (z50 = true → (Q 6 s49)))) s47)) s45)) ∧ (z46 = true → (Q 5 s45)))) s43)) s41)) ∧ (z42 = true → (Q 4 s41)))) s39)) s37)) ∧ (z38 = true → (Q 3 s37)))) s35)) s33)) s31)) ∧ (z32 = true → (Q 2 s31)))) s29)) s27)) ∧ (z28 = true → (Q 1 s27)))) s25)) s23)) ∧ (z24 = true → (Q 0 s23)))) s21)) s
set_option maxRecDepth 100000 in
theorem gm_203 {L : Nat} {xs : Nat → Int32} {d : Nat} {Q : Int → lf_Z → Prop} {s : lf_Z} (h : fm_203 Q s) : lf_M (px_ro L xs) (d + 6) 203 [.ref 95] s (lf_qi Q) := by
  unfold fm_203 at h
  show lf_E (px_ro L xs) (d + 6) 203 0 [(0, .ref 95)] [] s _
  refine lf_seg 1 (pc' := 1) (lv' := [(0, .ref 95)]) (st' := [.ref 95]) rfl ?_
  refine lf_bipush 3 112 rfl rfl (by decide) (by decide) ?_
  refine lf_bipush 5 97 rfl rfl (by decide) (by decide) ?_
  refine lf_bipush 7 99 rfl rfl (by decide) (by decide) ?_
  refine lf_bipush 9 101 rfl rfl (by decide) (by decide) ?_
  refine lf_callL 12 rfl rfl rfl rfl (gm_204 h) (fun r22 s21 h => ?_)
  refine lf_wtL ?_
  refine lf_callZ 15 rfl rfl rfl rfl (gm_207 h) (fun z24 s23 h => ?_)
  refine lf_ifz_eq 20 18 rfl rfl rfl (fun c => ?_) (fun c => ?_)
  · have h := h.1 c
    refine lf_seg 1 (pc' := 21) (lv' := [(0, .ref 95)]) (st' := [.ref 95]) rfl ?_
    refine lf_bipush 23 116 rfl rfl (by decide) (by decide) ?_
    refine lf_bipush 25 97 rfl rfl (by decide) (by decide) ?_
    refine lf_bipush 27 107 rfl rfl (by decide) (by decide) ?_
    refine lf_bipush 29 101 rfl rfl (by decide) (by decide) ?_
    refine lf_bipush 31 115 rfl rfl (by decide) (by decide) ?_
    refine lf_callL 34 rfl rfl rfl rfl (gm_208 h) (fun r26 s25 h => ?_)
    refine lf_wtL ?_
    refine lf_callZ 37 rfl rfl rfl rfl (gm_207 h) (fun z28 s27 h => ?_)
    refine lf_ifz_eq 42 40 rfl rfl rfl (fun c => ?_) (fun c => ?_)
    · have h := h.1 c
      refine lf_seg 1 (pc' := 43) (lv' := [(0, .ref 95)]) (st' := [.ref 95]) rfl ?_
      refine lf_bipush 45 112 rfl rfl (by decide) (by decide) ?_
      refine lf_bipush 47 97 rfl rfl (by decide) (by decide) ?_
      refine lf_bipush 49 121 rfl rfl (by decide) (by decide) ?_
      refine lf_bipush 51 115 rfl rfl (by decide) (by decide) ?_
      refine lf_callL 54 rfl rfl rfl rfl (gm_204 h) (fun r30 s29 h => ?_)
      refine lf_wtL ?_
      refine lf_callZ 57 rfl rfl rfl rfl (gm_207 h) (fun z32 s31 h => ?_)
      refine lf_ifz_eq 62 60 rfl rfl rfl (fun c => ?_) (fun c => ?_)
      · have h := h.1 c
        refine lf_seg 1 (pc' := 63) (lv' := [(0, .ref 95)]) (st' := [.ref 95]) rfl ?_
        refine lf_bipush 65 115 rfl rfl (by decide) (by decide) ?_
        refine lf_bipush 67 116 rfl rfl (by decide) (by decide) ?_
        refine lf_bipush 69 114 rfl rfl (by decide) (by decide) ?_
        refine lf_callL 72 rfl rfl rfl rfl (gm_205 h) (fun r34 s33 h => ?_)
        refine lf_wtL ?_
        refine lf_bipush 74 32 rfl rfl (by decide) (by decide) ?_
        refine lf_lshl' 75 rfl rfl ?_
        refine lf_bipush 77 101 rfl rfl (by decide) (by decide) ?_
        refine lf_bipush 79 116 rfl rfl (by decide) (by decide) ?_
        refine lf_bipush 81 99 rfl rfl (by decide) (by decide) ?_
        refine lf_bipush 83 104 rfl rfl (by decide) (by decide) ?_
        refine lf_callL 86 rfl rfl rfl rfl (gm_204 h) (fun r36 s35 h => ?_)
        refine lf_wtL ?_
        refine lf_lor' 87 rfl rfl ?_
        refine lf_callZ 90 rfl rfl rfl rfl (gm_207 h) (fun z38 s37 h => ?_)
        refine lf_ifz_eq 95 93 rfl rfl rfl (fun c => ?_) (fun c => ?_)
        · have h := h.1 c
          refine lf_seg 1 (pc' := 96) (lv' := [(0, .ref 95)]) (st' := [.ref 95]) rfl ?_
          refine lf_bipush 98 119 rfl rfl (by decide) (by decide) ?_
          refine lf_bipush 100 97 rfl rfl (by decide) (by decide) ?_
          refine lf_bipush 102 121 rfl rfl (by decide) (by decide) ?_
          refine lf_callL 105 rfl rfl rfl rfl (gm_205 h) (fun r40 s39 h => ?_)
          refine lf_wtL ?_
          refine lf_callZ 108 rfl rfl rfl rfl (gm_207 h) (fun z42 s41 h => ?_)
          refine lf_ifz_eq 113 111 rfl rfl rfl (fun c => ?_) (fun c => ?_)
          · have h := h.1 c
            refine lf_seg 1 (pc' := 114) (lv' := [(0, .ref 95)]) (st' := [.ref 95]) rfl ?_
            refine lf_bipush 116 112 rfl rfl (by decide) (by decide) ?_
            refine lf_bipush 118 97 rfl rfl (by decide) (by decide) ?_
            refine lf_bipush 120 116 rfl rfl (by decide) (by decide) ?_
            refine lf_bipush 122 104 rfl rfl (by decide) (by decide) ?_
            refine lf_callL 125 rfl rfl rfl rfl (gm_204 h) (fun r44 s43 h => ?_)
            refine lf_wtL ?_
            refine lf_callZ 128 rfl rfl rfl rfl (gm_207 h) (fun z46 s45 h => ?_)
            refine lf_ifz_eq 133 131 rfl rfl rfl (fun c => ?_) (fun c => ?_)
            · have h := h.1 c
              refine lf_seg 1 (pc' := 134) (lv' := [(0, .ref 95)]) (st' := [.ref 95]) rfl ?_
              refine lf_bipush 136 111 rfl rfl (by decide) (by decide) ?_
              refine lf_bipush 138 110 rfl rfl (by decide) (by decide) ?_
              refine lf_bipush 140 101 rfl rfl (by decide) (by decide) ?_
              refine lf_callL 143 rfl rfl rfl rfl (gm_205 h) (fun r48 s47 h => ?_)
              refine lf_wtL ?_
              refine lf_callZ 146 rfl rfl rfl rfl (gm_207 h) (fun z50 s49 h => ?_)
              refine lf_ifz_eq 152 149 rfl rfl rfl (fun c => ?_) (fun c => ?_)
              · have h := h.1 c
                refine lf_seg 1 (pc' := 153) (lv' := [(0, .ref 95)]) (st' := [.ref 95]) rfl ?_
                refine lf_bipush 155 115 rfl rfl (by decide) (by decide) ?_
                refine lf_bipush 157 116 rfl rfl (by decide) (by decide) ?_
                refine lf_bipush 159 114 rfl rfl (by decide) (by decide) ?_
                refine lf_bipush 161 97 rfl rfl (by decide) (by decide) ?_
                refine lf_bipush 163 121 rfl rfl (by decide) (by decide) ?_
                refine lf_callL 166 rfl rfl rfl rfl (gm_208 h) (fun r52 s51 h => ?_)
                refine lf_wtL ?_
                refine lf_callZ 169 rfl rfl rfl rfl (gm_207 h) (fun z54 s53 h => ?_)
                refine lf_ifz_eq 175 172 rfl rfl rfl (fun c => ?_) (fun c => ?_)
                · have h := h.1 c
                  refine lf_seg 1 (pc' := 176) (lv' := [(0, .ref 95)]) (st' := [.ref 95]) rfl ?_
                  refine lf_bipush 178 115 rfl rfl (by decide) (by decide) ?_
                  refine lf_bipush 180 101 rfl rfl (by decide) (by decide) ?_
                  refine lf_bipush 182 110 rfl rfl (by decide) (by decide) ?_
                  refine lf_bipush 184 100 rfl rfl (by decide) (by decide) ?_
                  refine lf_callL 187 rfl rfl rfl rfl (gm_204 h) (fun r56 s55 h => ?_)
                  refine lf_wtL ?_
                  refine lf_callZ 190 rfl rfl rfl rfl (gm_207 h) (fun z58 s57 h => ?_)
                  refine lf_ifz_eq 196 193 rfl rfl rfl (fun c => ?_) (fun c => ?_)
                  · have h := h.1 c
                    refine lf_seg 1 (pc' := 197) (lv' := [(0, .ref 95)]) (st' := [.ref 95]) rfl ?_
                    refine lf_bipush 199 115 rfl rfl (by decide) (by decide) ?_
                    refine lf_bipush 201 104 rfl rfl (by decide) (by decide) ?_
                    refine lf_bipush 203 117 rfl rfl (by decide) (by decide) ?_
                    refine lf_bipush 205 116 rfl rfl (by decide) (by decide) ?_
                    refine lf_callL 208 rfl rfl rfl rfl (gm_204 h) (fun r60 s59 h => ?_)
                    refine lf_wtL ?_
                    refine lf_callZ 211 rfl rfl rfl rfl (gm_207 h) (fun z62 s61 h => ?_)
                    refine lf_ifz_eq 217 214 rfl rfl rfl (fun c => ?_) (fun c => ?_)
                    · have h := h.1 c
                      refine lf_seg 1 (pc' := 218) (lv' := [(0, .ref 95)]) (st' := [.ref 95]) rfl ?_
                      refine lf_bipush 220 111 rfl rfl (by decide) (by decide) ?_
                      refine lf_bipush 222 112 rfl rfl (by decide) (by decide) ?_
                      refine lf_bipush 224 101 rfl rfl (by decide) (by decide) ?_
                      refine lf_bipush 226 110 rfl rfl (by decide) (by decide) ?_
                      refine lf_callL 229 rfl rfl rfl rfl (gm_204 h) (fun r64 s63 h => ?_)
                      refine lf_wtL ?_
                      refine lf_callZ 232 rfl rfl rfl rfl (gm_207 h) (fun z66 s65 h => ?_)
                      refine lf_ifz_eq 238 235 rfl rfl rfl (fun c => ?_) (fun c => ?_)
                      · have h := h.1 c
                        refine lf_seg 1 (pc' := 239) (lv' := [(0, .ref 95)]) (st' := [.ref 95]) rfl ?_
                        refine lf_bipush 241 115 rfl rfl (by decide) (by decide) ?_
                        refine lf_bipush 243 112 rfl rfl (by decide) (by decide) ?_
                        refine lf_bipush 245 108 rfl rfl (by decide) (by decide) ?_
                        refine lf_bipush 247 105 rfl rfl (by decide) (by decide) ?_
                        refine lf_bipush 249 116 rfl rfl (by decide) (by decide) ?_
                        refine lf_callL 252 rfl rfl rfl rfl (gm_208 h) (fun r68 s67 h => ?_)
                        refine lf_wtL ?_
                        refine lf_callZ 255 rfl rfl rfl rfl (gm_207 h) (fun z70 s69 h => ?_)
                        refine lf_ifz_eq 263 258 rfl rfl rfl (fun c => ?_) (fun c => ?_)
                        · have h := h.1 c
                          refine lf_seg 1 (pc' := 264) (lv' := [(0, .ref 95)]) (st' := [.ref 95]) rfl ?_
                          refine lf_bipush 266 109 rfl rfl (by decide) (by decide) ?_
                          refine lf_bipush 268 105 rfl rfl (by decide) (by decide) ?_
                          refine lf_bipush 270 110 rfl rfl (by decide) (by decide) ?_
                          refine lf_bipush 272 117 rfl rfl (by decide) (by decide) ?_
                          refine lf_bipush 274 116 rfl rfl (by decide) (by decide) ?_
                          refine lf_bipush 276 101 rfl rfl (by decide) (by decide) ?_
                          refine lf_callL 279 rfl rfl rfl rfl (gm_209 h) (fun r72 s71 h => ?_)
                          refine lf_wtL ?_
                          refine lf_callZ 282 rfl rfl rfl rfl (gm_207 h) (fun z74 s73 h => ?_)
                          refine lf_ifz_eq 290 285 rfl rfl rfl (fun c => ?_) (fun c => ?_)
                          · have h := h.1 c
                            refine lf_seg 1 (pc' := 291) (lv' := [(0, .ref 95)]) (st' := [.int (Int32.ofInt (-1))]) rfl ?_
                            exact lf_retI rfl rfl h
                          · have h := h.2 c
                            refine lf_bipush 287 12 rfl rfl (by decide) (by decide) ?_
                            refine lf_seg 1 (pc' := 291) (lv' := [(0, .ref 95)]) (st' := [.int (Int32.ofInt 12)]) rfl ?_
                            exact lf_retI rfl rfl h
                        · have h := h.2 c
                          refine lf_bipush 260 11 rfl rfl (by decide) (by decide) ?_
                          refine lf_seg 1 (pc' := 291) (lv' := [(0, .ref 95)]) (st' := [.int (Int32.ofInt 11)]) rfl ?_
                          exact lf_retI rfl rfl h
                      · have h := h.2 c
                        refine lf_bipush 237 10 rfl rfl (by decide) (by decide) ?_
                        exact lf_retI rfl rfl h
                    · have h := h.2 c
                      refine lf_bipush 216 9 rfl rfl (by decide) (by decide) ?_
                      exact lf_retI rfl rfl h
                  · have h := h.2 c
                    refine lf_bipush 195 8 rfl rfl (by decide) (by decide) ?_
                    exact lf_retI rfl rfl h
                · have h := h.2 c
                  refine lf_bipush 174 7 rfl rfl (by decide) (by decide) ?_
                  exact lf_retI rfl rfl h
              · have h := h.2 c
                refine lf_bipush 151 6 rfl rfl (by decide) (by decide) ?_
                exact lf_retI rfl rfl h
            · have h := h.2 c
              refine lf_seg 1 (pc' := 132) (lv' := [(0, .ref 95)]) (st' := [.int (Int32.ofInt 5)]) rfl ?_
              exact lf_retI rfl rfl h
          · have h := h.2 c
            refine lf_seg 1 (pc' := 112) (lv' := [(0, .ref 95)]) (st' := [.int (Int32.ofInt 4)]) rfl ?_
            exact lf_retI rfl rfl h
        · have h := h.2 c
          refine lf_seg 1 (pc' := 94) (lv' := [(0, .ref 95)]) (st' := [.int (Int32.ofInt 3)]) rfl ?_
          exact lf_retI rfl rfl h
      · have h := h.2 c
        refine lf_seg 1 (pc' := 61) (lv' := [(0, .ref 95)]) (st' := [.int (Int32.ofInt 2)]) rfl ?_
        exact lf_retI rfl rfl h
    · have h := h.2 c
      refine lf_seg 1 (pc' := 41) (lv' := [(0, .ref 95)]) (st' := [.int (Int32.ofInt 1)]) rfl ?_
      exact lf_retI rfl rfl h
  · have h := h.2 c
    refine lf_seg 1 (pc' := 19) (lv' := [(0, .ref 95)]) (st' := [.int (Int32.ofInt 0)]) rfl ?_
    exact lf_retI rfl rfl h
-- fm_230 Model.nameOf 95
def fm_230 (Q : Int → lf_Z → Prop) (s : lf_Z) : Prop := lf_R (s.1 95 9) ∧ ((s.1 95 9 = 2 → (fm_204 115 105 122 101 (fun r23 s22 => ((lf_wl (s.2.1 95 11) ≠ lf_wl r23 → (fm_208 112 108 97 99 101 (fun r25 s24 => ((lf_wl (s22.2.1 95 11) ≠ lf_wl r25 → (fm_204 107 105 110 100 (fun r27 s26 => ((lf_wl (s24.2.1 95 11) ≠ lf_wl r27 → (fm_204 104 101 114 101 (fun r29 s28 => ((lf_wl (s26.2.1 95 11) ≠ lf_wl r29 → (fm_209 98 101 104 105 110 100 (fun r31 s30 => ((lf_wl (s28.2.1 95 11) ≠ lf_wl r31 → (fm_208 97 104 101 97 100 (fun r33 s32 => ((lf_wl (s30.2.1 95 11) ≠ lf_wl r33 → (fm_208 115 116 111 111 100 (fun r35 s34 => ((lf_wl (s32.2.1 95 11) ≠ lf_wl r35 → (fm_209 98 117 99 107 101 116 (fun r37 s36 => ((lf_wl (s34.2.1 95 11) ≠ lf_wl r37 → (fm_204 98 97 99 107 (fun r39 s38 => ((lf_wl (s36.2.1 95 11) ≠ lf_wl r39 → (fm_205 119 97 121 (fun r41 s40 => ((lf_wl (s38.2.1 95 11) ≠ lf_wl r41 → (fm_204 100 111 110 101 (fun r43 s42 => ((lf_wl (s40.2.1 95 11) ≠ lf_wl r43 → (Q (-1) s42)) ∧ (¬ (lf_wl (s40.2.1 95 11) ≠ lf_wl r43) → (Q 10 s42)))) s40)) ∧ (¬ (lf_wl (s38.2.1 95 11) ≠ lf_wl r41) → (Q 9 s40)))) s38)) ∧ (¬ (lf_wl (s36.2.1 95 11) ≠ lf_wl r39) → (Q 8 s38)))) s36)) ∧ (¬ (lf_wl (s34.2.1 95 11) ≠ lf_wl r37) → (Q 7 s36)))) s34)) ∧ (¬ (lf_wl (s32.2.1 95 11) ≠ lf_wl r35) → (Q 6 s34)))) s32)) ∧ (¬ (lf_wl (s30.2.1 95 11) ≠ lf_wl r33) → (Q 5 s32)))) s30)) ∧ (¬ (lf_wl (s28.2.1 95 11) ≠ lf_wl r31) → (Q 4 s30)))) s28)) ∧ (¬ (lf_wl (s26.2.1 95 11) ≠ lf_wl r29) → (Q 3 s28)))) s26)) ∧ (¬ (lf_wl (s24.2.1 95 11) ≠ lf_wl r27) → (Q 2 s26)))) s24)) ∧ (¬ (lf_wl (s22.2.1 95 11) ≠ lf_wl r25) → (Q 1 s24)))) s22)) ∧ (¬ (lf_wl (s.2.1 95 11) ≠ lf_wl r23) → (Q 0 s22)))) s)) ∧ (¬ (s.1 95 9 = 2) → (Q (-1) s)))
set_option maxRecDepth 100000 in
theorem gm_230 {L : Nat} {xs : Nat → Int32} {d : Nat} {Q : Int → lf_Z → Prop} {s : lf_Z} (h : fm_230 Q s) : lf_M (px_ro L xs) (d + 6) 230 [.ref 95] s (lf_qi Q) := by
  unfold fm_230 at h
  show lf_E (px_ro L xs) (d + 6) 230 0 [(0, .ref 95)] [] s _
  refine lf_seg 1 (pc' := 1) (lv' := [(0, .ref 95)]) (st' := [.ref 95]) rfl ?_
  refine lf_getI 4 9 rfl rfl rfl rfl rfl rfl rfl ?_
  refine lf_seg 1 (pc' := 5) (lv' := [(0, .ref 95)]) (st' := [.int (Int32.ofInt 2), .int (Int32.ofInt (s.1 95 9))]) rfl ?_
  obtain ⟨o21, h⟩ := h
  refine lf_icmp_eq 10 8 rfl rfl rfl o21 ⟨by decide, by decide⟩ (fun c => ?_) (fun c => ?_)
  · have h := h.1 c
    refine lf_seg 1 (pc' := 11) (lv' := [(0, .ref 95)]) (st' := [.ref 95]) rfl ?_
    refine lf_getJ 14 11 rfl rfl rfl rfl rfl rfl rfl ?_
    refine lf_wtL ?_
    refine lf_bipush 16 115 rfl rfl (by decide) (by decide) ?_
    refine lf_bipush 18 105 rfl rfl (by decide) (by decide) ?_
    refine lf_bipush 20 122 rfl rfl (by decide) (by decide) ?_
    refine lf_bipush 22 101 rfl rfl (by decide) (by decide) ?_
    refine lf_callL 25 rfl rfl rfl rfl (gm_204 h) (fun r23 s22 h => ?_)
    refine lf_wtL ?_
    refine lf_lif_ne 31 29 rfl rfl rfl rfl lf_RLwl lf_RLwl (fun c => ?_) (fun c => ?_)
    · have h := h.1 c
      refine lf_seg 1 (pc' := 32) (lv' := [(0, .ref 95)]) (st' := [.ref 95]) rfl ?_
      refine lf_getJ 35 11 rfl rfl rfl rfl rfl rfl rfl ?_
      refine lf_wtL ?_
      refine lf_bipush 37 112 rfl rfl (by decide) (by decide) ?_
      refine lf_bipush 39 108 rfl rfl (by decide) (by decide) ?_
      refine lf_bipush 41 97 rfl rfl (by decide) (by decide) ?_
      refine lf_bipush 43 99 rfl rfl (by decide) (by decide) ?_
      refine lf_bipush 45 101 rfl rfl (by decide) (by decide) ?_
      refine lf_callL 48 rfl rfl rfl rfl (gm_208 h) (fun r25 s24 h => ?_)
      refine lf_wtL ?_
      refine lf_lif_ne 54 52 rfl rfl rfl rfl lf_RLwl lf_RLwl (fun c => ?_) (fun c => ?_)
      · have h := h.1 c
        refine lf_seg 1 (pc' := 55) (lv' := [(0, .ref 95)]) (st' := [.ref 95]) rfl ?_
        refine lf_getJ 58 11 rfl rfl rfl rfl rfl rfl rfl ?_
        refine lf_wtL ?_
        refine lf_bipush 60 107 rfl rfl (by decide) (by decide) ?_
        refine lf_bipush 62 105 rfl rfl (by decide) (by decide) ?_
        refine lf_bipush 64 110 rfl rfl (by decide) (by decide) ?_
        refine lf_bipush 66 100 rfl rfl (by decide) (by decide) ?_
        refine lf_callL 69 rfl rfl rfl rfl (gm_204 h) (fun r27 s26 h => ?_)
        refine lf_wtL ?_
        refine lf_lif_ne 75 73 rfl rfl rfl rfl lf_RLwl lf_RLwl (fun c => ?_) (fun c => ?_)
        · have h := h.1 c
          refine lf_seg 1 (pc' := 76) (lv' := [(0, .ref 95)]) (st' := [.ref 95]) rfl ?_
          refine lf_getJ 79 11 rfl rfl rfl rfl rfl rfl rfl ?_
          refine lf_wtL ?_
          refine lf_bipush 81 104 rfl rfl (by decide) (by decide) ?_
          refine lf_bipush 83 101 rfl rfl (by decide) (by decide) ?_
          refine lf_bipush 85 114 rfl rfl (by decide) (by decide) ?_
          refine lf_bipush 87 101 rfl rfl (by decide) (by decide) ?_
          refine lf_callL 90 rfl rfl rfl rfl (gm_204 h) (fun r29 s28 h => ?_)
          refine lf_wtL ?_
          refine lf_lif_ne 96 94 rfl rfl rfl rfl lf_RLwl lf_RLwl (fun c => ?_) (fun c => ?_)
          · have h := h.1 c
            refine lf_seg 1 (pc' := 97) (lv' := [(0, .ref 95)]) (st' := [.ref 95]) rfl ?_
            refine lf_getJ 100 11 rfl rfl rfl rfl rfl rfl rfl ?_
            refine lf_wtL ?_
            refine lf_bipush 102 98 rfl rfl (by decide) (by decide) ?_
            refine lf_bipush 104 101 rfl rfl (by decide) (by decide) ?_
            refine lf_bipush 106 104 rfl rfl (by decide) (by decide) ?_
            refine lf_bipush 108 105 rfl rfl (by decide) (by decide) ?_
            refine lf_bipush 110 110 rfl rfl (by decide) (by decide) ?_
            refine lf_bipush 112 100 rfl rfl (by decide) (by decide) ?_
            refine lf_callL 115 rfl rfl rfl rfl (gm_209 h) (fun r31 s30 h => ?_)
            refine lf_wtL ?_
            refine lf_lif_ne 121 119 rfl rfl rfl rfl lf_RLwl lf_RLwl (fun c => ?_) (fun c => ?_)
            · have h := h.1 c
              refine lf_seg 1 (pc' := 122) (lv' := [(0, .ref 95)]) (st' := [.ref 95]) rfl ?_
              refine lf_getJ 125 11 rfl rfl rfl rfl rfl rfl rfl ?_
              refine lf_wtL ?_
              refine lf_bipush 127 97 rfl rfl (by decide) (by decide) ?_
              refine lf_bipush 129 104 rfl rfl (by decide) (by decide) ?_
              refine lf_bipush 131 101 rfl rfl (by decide) (by decide) ?_
              refine lf_bipush 133 97 rfl rfl (by decide) (by decide) ?_
              refine lf_bipush 135 100 rfl rfl (by decide) (by decide) ?_
              refine lf_callL 138 rfl rfl rfl rfl (gm_208 h) (fun r33 s32 h => ?_)
              refine lf_wtL ?_
              refine lf_lif_ne 144 142 rfl rfl rfl rfl lf_RLwl lf_RLwl (fun c => ?_) (fun c => ?_)
              · have h := h.1 c
                refine lf_seg 1 (pc' := 145) (lv' := [(0, .ref 95)]) (st' := [.ref 95]) rfl ?_
                refine lf_getJ 148 11 rfl rfl rfl rfl rfl rfl rfl ?_
                refine lf_wtL ?_
                refine lf_bipush 150 115 rfl rfl (by decide) (by decide) ?_
                refine lf_bipush 152 116 rfl rfl (by decide) (by decide) ?_
                refine lf_bipush 154 111 rfl rfl (by decide) (by decide) ?_
                refine lf_bipush 156 111 rfl rfl (by decide) (by decide) ?_
                refine lf_bipush 158 100 rfl rfl (by decide) (by decide) ?_
                refine lf_callL 161 rfl rfl rfl rfl (gm_208 h) (fun r35 s34 h => ?_)
                refine lf_wtL ?_
                refine lf_lif_ne 168 165 rfl rfl rfl rfl lf_RLwl lf_RLwl (fun c => ?_) (fun c => ?_)
                · have h := h.1 c
                  refine lf_seg 1 (pc' := 169) (lv' := [(0, .ref 95)]) (st' := [.ref 95]) rfl ?_
                  refine lf_getJ 172 11 rfl rfl rfl rfl rfl rfl rfl ?_
                  refine lf_wtL ?_
                  refine lf_bipush 174 98 rfl rfl (by decide) (by decide) ?_
                  refine lf_bipush 176 117 rfl rfl (by decide) (by decide) ?_
                  refine lf_bipush 178 99 rfl rfl (by decide) (by decide) ?_
                  refine lf_bipush 180 107 rfl rfl (by decide) (by decide) ?_
                  refine lf_bipush 182 101 rfl rfl (by decide) (by decide) ?_
                  refine lf_bipush 184 116 rfl rfl (by decide) (by decide) ?_
                  refine lf_callL 187 rfl rfl rfl rfl (gm_209 h) (fun r37 s36 h => ?_)
                  refine lf_wtL ?_
                  refine lf_lif_ne 194 191 rfl rfl rfl rfl lf_RLwl lf_RLwl (fun c => ?_) (fun c => ?_)
                  · have h := h.1 c
                    refine lf_seg 1 (pc' := 195) (lv' := [(0, .ref 95)]) (st' := [.ref 95]) rfl ?_
                    refine lf_getJ 198 11 rfl rfl rfl rfl rfl rfl rfl ?_
                    refine lf_wtL ?_
                    refine lf_bipush 200 98 rfl rfl (by decide) (by decide) ?_
                    refine lf_bipush 202 97 rfl rfl (by decide) (by decide) ?_
                    refine lf_bipush 204 99 rfl rfl (by decide) (by decide) ?_
                    refine lf_bipush 206 107 rfl rfl (by decide) (by decide) ?_
                    refine lf_callL 209 rfl rfl rfl rfl (gm_204 h) (fun r39 s38 h => ?_)
                    refine lf_wtL ?_
                    refine lf_lif_ne 216 213 rfl rfl rfl rfl lf_RLwl lf_RLwl (fun c => ?_) (fun c => ?_)
                    · have h := h.1 c
                      refine lf_seg 1 (pc' := 217) (lv' := [(0, .ref 95)]) (st' := [.ref 95]) rfl ?_
                      refine lf_getJ 220 11 rfl rfl rfl rfl rfl rfl rfl ?_
                      refine lf_wtL ?_
                      refine lf_bipush 222 119 rfl rfl (by decide) (by decide) ?_
                      refine lf_bipush 224 97 rfl rfl (by decide) (by decide) ?_
                      refine lf_bipush 226 121 rfl rfl (by decide) (by decide) ?_
                      refine lf_callL 229 rfl rfl rfl rfl (gm_205 h) (fun r41 s40 h => ?_)
                      refine lf_wtL ?_
                      refine lf_lif_ne 238 233 rfl rfl rfl rfl lf_RLwl lf_RLwl (fun c => ?_) (fun c => ?_)
                      · have h := h.1 c
                        refine lf_seg 1 (pc' := 239) (lv' := [(0, .ref 95)]) (st' := [.ref 95]) rfl ?_
                        refine lf_getJ 242 11 rfl rfl rfl rfl rfl rfl rfl ?_
                        refine lf_wtL ?_
                        refine lf_bipush 244 100 rfl rfl (by decide) (by decide) ?_
                        refine lf_bipush 246 111 rfl rfl (by decide) (by decide) ?_
                        refine lf_bipush 248 110 rfl rfl (by decide) (by decide) ?_
                        refine lf_bipush 250 101 rfl rfl (by decide) (by decide) ?_
                        refine lf_callL 253 rfl rfl rfl rfl (gm_204 h) (fun r43 s42 h => ?_)
                        refine lf_wtL ?_
                        refine lf_lif_ne 262 257 rfl rfl rfl rfl lf_RLwl lf_RLwl (fun c => ?_) (fun c => ?_)
                        · have h := h.1 c
                          refine lf_seg 1 (pc' := 263) (lv' := [(0, .ref 95)]) (st' := [.int (Int32.ofInt (-1))]) rfl ?_
                          exact lf_retI rfl rfl h
                        · have h := h.2 c
                          refine lf_bipush 259 10 rfl rfl (by decide) (by decide) ?_
                          refine lf_seg 1 (pc' := 263) (lv' := [(0, .ref 95)]) (st' := [.int (Int32.ofInt 10)]) rfl ?_
                          exact lf_retI rfl rfl h
                      · have h := h.2 c
                        refine lf_bipush 235 9 rfl rfl (by decide) (by decide) ?_
                        refine lf_seg 1 (pc' := 263) (lv' := [(0, .ref 95)]) (st' := [.int (Int32.ofInt 9)]) rfl ?_
                        exact lf_retI rfl rfl h
                    · have h := h.2 c
                      refine lf_bipush 215 8 rfl rfl (by decide) (by decide) ?_
                      exact lf_retI rfl rfl h
                  · have h := h.2 c
                    refine lf_bipush 193 7 rfl rfl (by decide) (by decide) ?_
                    exact lf_retI rfl rfl h
                · have h := h.2 c
                  refine lf_bipush 167 6 rfl rfl (by decide) (by decide) ?_
                  exact lf_retI rfl rfl h
              · have h := h.2 c
                refine lf_seg 1 (pc' := 143) (lv' := [(0, .ref 95)]) (st' := [.int (Int32.ofInt 5)]) rfl ?_
                exact lf_retI rfl rfl h
            · have h := h.2 c
              refine lf_seg 1 (pc' := 120) (lv' := [(0, .ref 95)]) (st' := [.int (Int32.ofInt 4)]) rfl ?_
              exact lf_retI rfl rfl h
          · have h := h.2 c
            refine lf_seg 1 (pc' := 95) (lv' := [(0, .ref 95)]) (st' := [.int (Int32.ofInt 3)]) rfl ?_
            exact lf_retI rfl rfl h
        · have h := h.2 c
          refine lf_seg 1 (pc' := 74) (lv' := [(0, .ref 95)]) (st' := [.int (Int32.ofInt 2)]) rfl ?_
          exact lf_retI rfl rfl h
      · have h := h.2 c
        refine lf_seg 1 (pc' := 53) (lv' := [(0, .ref 95)]) (st' := [.int (Int32.ofInt 1)]) rfl ?_
        exact lf_retI rfl rfl h
    · have h := h.2 c
      refine lf_seg 1 (pc' := 30) (lv' := [(0, .ref 95)]) (st' := [.int (Int32.ofInt 0)]) rfl ?_
      exact lf_retI rfl rfl h
  · have h := h.2 c
    refine lf_seg 1 (pc' := 9) (lv' := [(0, .ref 95)]) (st' := [.int (Int32.ofInt (-1))]) rfl ?_
    exact lf_retI rfl rfl h
-- fm_232 Model.letter 95
def fm_232 (Q : Int → lf_Z → Prop) (s : lf_Z) : Prop := lf_R (s.1 95 9) ∧ ((s.1 95 9 ≠ 2 → (Q (-1) s)) ∧ (¬ (s.1 95 9 ≠ 2) → (lf_R ((s.1 95 7) - (s.1 95 8)) ∧ (((s.1 95 7) - (s.1 95 8) ≠ 1 → (Q (-1) s)) ∧ (¬ ((s.1 95 7) - (s.1 95 8) ≠ 1) → (fm_198 (s.1 95 8) (fun r24 s23 => (fm_183 r24 97 122 (fun z26 s25 => ((z26 = false → (Q (-1) s25)) ∧ (z26 = true → (fm_198 (s25.1 95 8) (fun r28 s27 => (Q (r28 - 97) s27)) s25)))) s23)) s))))))
set_option maxRecDepth 100000 in
theorem gm_232 {L : Nat} {xs : Nat → Int32} {d : Nat} {Q : Int → lf_Z → Prop} {s : lf_Z} (h : fm_232 Q s) : lf_M (px_ro L xs) (d + 2) 232 [.ref 95] s (lf_qi Q) := by
  unfold fm_232 at h
  show lf_E (px_ro L xs) (d + 2) 232 0 [(0, .ref 95)] [] s _
  refine lf_seg 1 (pc' := 1) (lv' := [(0, .ref 95)]) (st' := [.ref 95]) rfl ?_
  refine lf_getI 4 9 rfl rfl rfl rfl rfl rfl rfl ?_
  refine lf_seg 1 (pc' := 5) (lv' := [(0, .ref 95)]) (st' := [.int (Int32.ofInt 2), .int (Int32.ofInt (s.1 95 9))]) rfl ?_
  obtain ⟨o21, h⟩ := h
  refine lf_icmp_ne 53 8 rfl rfl rfl o21 ⟨by decide, by decide⟩ (fun c => ?_) (fun c => ?_)
  · have h := h.1 c
    refine lf_seg 1 (pc' := 54) (lv' := [(0, .ref 95)]) (st' := [.int (Int32.ofInt (-1))]) rfl ?_
    exact lf_retI rfl rfl h
  · have h := h.2 c
    refine lf_seg 1 (pc' := 9) (lv' := [(0, .ref 95)]) (st' := [.ref 95]) rfl ?_
    refine lf_getI 12 7 rfl rfl rfl rfl rfl rfl rfl ?_
    refine lf_seg 1 (pc' := 13) (lv' := [(0, .ref 95)]) (st' := [.ref 95, .int (Int32.ofInt (s.1 95 7))]) rfl ?_
    refine lf_getI 16 8 rfl rfl rfl rfl rfl rfl rfl ?_
    refine lf_isub 17 rfl rfl ?_
    refine lf_seg 1 (pc' := 18) (lv' := [(0, .ref 95)]) (st' := [.int (Int32.ofInt 1), .int (Int32.ofInt ((s.1 95 7) - (s.1 95 8)))]) rfl ?_
    obtain ⟨o22, h⟩ := h
    refine lf_icmp_ne 53 21 rfl rfl rfl o22 ⟨by decide, by decide⟩ (fun c => ?_) (fun c => ?_)
    · have h := h.1 c
      refine lf_seg 1 (pc' := 54) (lv' := [(0, .ref 95)]) (st' := [.int (Int32.ofInt (-1))]) rfl ?_
      exact lf_retI rfl rfl h
    · have h := h.2 c
      refine lf_seg 2 (pc' := 23) (lv' := [(0, .ref 95)]) (st' := [.ref 95, .ref 95]) rfl ?_
      refine lf_getI 26 8 rfl rfl rfl rfl rfl rfl rfl ?_
      refine lf_callI 29 rfl rfl rfl rfl (gm_198 h) (fun r24 s23 h => ?_)
      refine lf_bipush 31 97 rfl rfl (by decide) (by decide) ?_
      refine lf_bipush 33 122 rfl rfl (by decide) (by decide) ?_
      refine lf_callZ 36 rfl rfl rfl rfl (gm_183 h) (fun z26 s25 h => ?_)
      refine lf_ifz_eq 53 39 rfl rfl rfl (fun c => ?_) (fun c => ?_)
      · have h := h.1 c
        refine lf_seg 1 (pc' := 54) (lv' := [(0, .ref 95)]) (st' := [.int (Int32.ofInt (-1))]) rfl ?_
        exact lf_retI rfl rfl h
      · have h := h.2 c
        refine lf_seg 2 (pc' := 41) (lv' := [(0, .ref 95)]) (st' := [.ref 95, .ref 95]) rfl ?_
        refine lf_getI 44 8 rfl rfl rfl rfl rfl rfl rfl ?_
        refine lf_callI 47 rfl rfl rfl rfl (gm_198 h) (fun r28 s27 h => ?_)
        refine lf_bipush 49 97 rfl rfl (by decide) (by decide) ?_
        refine lf_isub 50 rfl rfl ?_
        refine lf_seg 1 (pc' := 54) (lv' := [(0, .ref 95)]) (st' := [.int (Int32.ofInt (r28 - 97))]) rfl ?_
        exact lf_retI rfl rfl h
-- fm_225 Model.emit 95 i i
def fm_225 (a1 : Int) (a2 : Int) (Q : lf_Z → Prop) (s : lf_Z) : Prop := (0 ≤ ((s.1 95 12) + 97) + (2 * (s.1 95 13)) ∧ ((s.1 95 12) + 97) + (2 * (s.1 95 13)) < 2820) ∧ ((0 ≤ (((s.1 95 12) + 97) + (2 * (s.1 95 13))) + 1 ∧ (((s.1 95 12) + 97) + (2 * (s.1 95 13))) + 1 < 2820) ∧ (Q (lf_up (lf_up (lf_up s.1 98 (((s.1 95 12) + 97) + (2 * (s.1 95 13))) a1) 98 ((((s.1 95 12) + 97) + (2 * (s.1 95 13))) + 1) a2) 95 13 ((s.1 95 13) + 1), s.2.1, s.2.2)))
set_option maxRecDepth 100000 in
theorem gm_225 {L : Nat} {xs : Nat → Int32} {d : Nat} {a1 : Int} {a2 : Int} {Q : lf_Z → Prop} {s : lf_Z} (h : fm_225 a1 a2 Q s) : lf_M (px_ro L xs) (d + 1) 225 [.ref 95, .int (Int32.ofInt a1), .int (Int32.ofInt a2)] s (lf_qv Q) := by
  unfold fm_225 at h
  show lf_E (px_ro L xs) (d + 1) 225 0 [(0, .ref 95), (1, .int (Int32.ofInt a1)), (2, .int (Int32.ofInt a2))] [] s _
  refine lf_seg 3 (pc' := 5) (lv' := [(0, .ref 95), (1, .int (Int32.ofInt a1)), (2, .int (Int32.ofInt a2))]) (st' := [.ref 95, .ref 98]) rfl ?_
  refine lf_getI 8 12 rfl rfl rfl rfl rfl rfl rfl ?_
  refine lf_bipush 10 97 rfl rfl (by decide) (by decide) ?_
  refine lf_iadd 11 rfl rfl ?_
  refine lf_seg 2 (pc' := 13) (lv' := [(0, .ref 95), (1, .int (Int32.ofInt a1)), (2, .int (Int32.ofInt a2))]) (st' := [.ref 95, .int (Int32.ofInt 2), .int (Int32.ofInt ((s.1 95 12) + 97)), .ref 98]) rfl ?_
  refine lf_getI 16 13 rfl rfl rfl rfl rfl rfl rfl ?_
  refine lf_imul 17 rfl rfl ?_
  refine lf_iadd 18 rfl rfl ?_
  refine lf_seg 1 (pc' := 19) (lv' := [(0, .ref 95), (1, .int (Int32.ofInt a1)), (2, .int (Int32.ofInt a2))]) (st' := [.int (Int32.ofInt a1), .int (Int32.ofInt (((s.1 95 12) + 97) + (2 * (s.1 95 13)))), .ref 98]) rfl ?_
  obtain ⟨o21, h⟩ := h
  refine lf_iast 20 2820 rfl rfl rfl rfl rfl rfl o21 ?_
  refine lf_as (lf_up s.1 98 (((s.1 95 12) + 97) + (2 * (s.1 95 13))) a1, s.2.1, s.2.2) rfl ?_
  refine lf_seg 3 (pc' := 25) (lv' := [(0, .ref 95), (1, .int (Int32.ofInt a1)), (2, .int (Int32.ofInt a2))]) (st' := [.ref 95, .ref 98]) rfl ?_
  refine lf_getI 28 12 rfl rfl rfl rfl rfl rfl rfl ?_
  refine lf_seg 0 (pc' := 28) (lv' := [(0, .ref 95), (1, .int (Int32.ofInt a1)), (2, .int (Int32.ofInt a2))]) (st' := [.int (Int32.ofInt (s.1 95 12)), .ref 98]) rfl ?_
  refine lf_bipush 30 97 rfl rfl (by decide) (by decide) ?_
  refine lf_iadd 31 rfl rfl ?_
  refine lf_seg 2 (pc' := 33) (lv' := [(0, .ref 95), (1, .int (Int32.ofInt a1)), (2, .int (Int32.ofInt a2))]) (st' := [.ref 95, .int (Int32.ofInt 2), .int (Int32.ofInt ((s.1 95 12) + 97)), .ref 98]) rfl ?_
  refine lf_getI 36 13 rfl rfl rfl rfl rfl rfl rfl ?_
  refine lf_seg 0 (pc' := 36) (lv' := [(0, .ref 95), (1, .int (Int32.ofInt a1)), (2, .int (Int32.ofInt a2))]) (st' := [.int (Int32.ofInt (s.1 95 13)), .int (Int32.ofInt 2), .int (Int32.ofInt ((s.1 95 12) + 97)), .ref 98]) rfl ?_
  refine lf_imul 37 rfl rfl ?_
  refine lf_iadd 38 rfl rfl ?_
  refine lf_seg 1 (pc' := 39) (lv' := [(0, .ref 95), (1, .int (Int32.ofInt a1)), (2, .int (Int32.ofInt a2))]) (st' := [.int (Int32.ofInt 1), .int (Int32.ofInt (((s.1 95 12) + 97) + (2 * (s.1 95 13)))), .ref 98]) rfl ?_
  refine lf_iadd 40 rfl rfl ?_
  refine lf_seg 1 (pc' := 41) (lv' := [(0, .ref 95), (1, .int (Int32.ofInt a1)), (2, .int (Int32.ofInt a2))]) (st' := [.int (Int32.ofInt a2), .int (Int32.ofInt ((((s.1 95 12) + 97) + (2 * (s.1 95 13))) + 1)), .ref 98]) rfl ?_
  obtain ⟨o22, h⟩ := h
  refine lf_iast 42 2820 rfl rfl rfl rfl rfl rfl o22 ?_
  refine lf_as (lf_up (lf_up s.1 98 (((s.1 95 12) + 97) + (2 * (s.1 95 13))) a1) 98 ((((s.1 95 12) + 97) + (2 * (s.1 95 13))) + 1) a2, s.2.1, s.2.2) rfl ?_
  refine lf_seg 2 (pc' := 44) (lv' := [(0, .ref 95), (1, .int (Int32.ofInt a1)), (2, .int (Int32.ofInt a2))]) (st' := [.ref 95, .ref 95]) rfl ?_
  refine lf_getI 47 13 rfl rfl rfl rfl rfl rfl rfl ?_
  refine lf_seg 1 (pc' := 48) (lv' := [(0, .ref 95), (1, .int (Int32.ofInt a1)), (2, .int (Int32.ofInt a2))]) (st' := [.int (Int32.ofInt 1), .int (Int32.ofInt (s.1 95 13)), .ref 95]) rfl ?_
  refine lf_iadd 49 rfl rfl ?_
  refine lf_putI 52 13 rfl rfl rfl rfl rfl rfl rfl rfl ?_
  refine lf_as (lf_up (lf_up (lf_up s.1 98 (((s.1 95 12) + 97) + (2 * (s.1 95 13))) a1) 98 ((((s.1 95 12) + 97) + (2 * (s.1 95 13))) + 1) a2) 95 13 ((s.1 95 13) + 1), s.2.1, s.2.2) rfl ?_
  exact lf_retV rfl rfl h
-- fm_222 Model.rank i
def fm_222 (a0 : Int) (Q : Int → lf_Z → Prop) (s : lf_Z) : Prop := lf_R a0 ∧ ((a0 < 40 → ((a0 ≠ 22 → ((a0 ≠ 21 → ((a0 ≠ 20 → ((a0 < 10 → ((a0 ≠ 3 → ((a0 < 6 → (Q 5 s)) ∧ (¬ (a0 < 6) → (Q 6 s)))) ∧ (¬ (a0 ≠ 3) → (Q 7 s)))) ∧ (¬ (a0 < 10) → (Q 4 s)))) ∧ (¬ (a0 ≠ 20) → (Q 3 s)))) ∧ (¬ (a0 ≠ 21) → (Q 2 s)))) ∧ (¬ (a0 ≠ 22) → (Q 1 s)))) ∧ (¬ (a0 < 40) → (Q 0 s)))
set_option maxRecDepth 100000 in
theorem gm_222 {L : Nat} {xs : Nat → Int32} {d : Nat} {a0 : Int} {Q : Int → lf_Z → Prop} {s : lf_Z} (h : fm_222 a0 Q s) : lf_M (px_ro L xs) (d + 1) 222 [.int (Int32.ofInt a0)] s (lf_qi Q) := by
  unfold fm_222 at h
  show lf_E (px_ro L xs) (d + 1) 222 0 [(0, .int (Int32.ofInt a0))] [] s _
  refine lf_seg 1 (pc' := 1) (lv' := [(0, .int (Int32.ofInt a0))]) (st' := [.int (Int32.ofInt a0)]) rfl ?_
  refine lf_bipush 3 40 rfl rfl (by decide) (by decide) ?_
  obtain ⟨o21, h⟩ := h
  refine lf_icmp_lt 10 6 rfl rfl rfl o21 ⟨by decide, by decide⟩ (fun c => ?_) (fun c => ?_)
  · have h := h.1 c
    refine lf_seg 1 (pc' := 11) (lv' := [(0, .int (Int32.ofInt a0))]) (st' := [.int (Int32.ofInt a0)]) rfl ?_
    refine lf_bipush 13 22 rfl rfl (by decide) (by decide) ?_
    refine lf_icmp_ne 20 16 rfl rfl rfl o21 ⟨by decide, by decide⟩ (fun c => ?_) (fun c => ?_)
    · have h := h.1 c
      refine lf_seg 1 (pc' := 21) (lv' := [(0, .int (Int32.ofInt a0))]) (st' := [.int (Int32.ofInt a0)]) rfl ?_
      refine lf_bipush 23 21 rfl rfl (by decide) (by decide) ?_
      refine lf_icmp_ne 30 26 rfl rfl rfl o21 ⟨by decide, by decide⟩ (fun c => ?_) (fun c => ?_)
      · have h := h.1 c
        refine lf_seg 1 (pc' := 31) (lv' := [(0, .int (Int32.ofInt a0))]) (st' := [.int (Int32.ofInt a0)]) rfl ?_
        refine lf_bipush 33 20 rfl rfl (by decide) (by decide) ?_
        refine lf_icmp_ne 40 36 rfl rfl rfl o21 ⟨by decide, by decide⟩ (fun c => ?_) (fun c => ?_)
        · have h := h.1 c
          refine lf_seg 1 (pc' := 41) (lv' := [(0, .int (Int32.ofInt a0))]) (st' := [.int (Int32.ofInt a0)]) rfl ?_
          refine lf_bipush 43 10 rfl rfl (by decide) (by decide) ?_
          refine lf_icmp_lt 50 46 rfl rfl rfl o21 ⟨by decide, by decide⟩ (fun c => ?_) (fun c => ?_)
          · have h := h.1 c
            refine lf_seg 2 (pc' := 52) (lv' := [(0, .int (Int32.ofInt a0))]) (st' := [.int (Int32.ofInt 3), .int (Int32.ofInt a0)]) rfl ?_
            refine lf_icmp_ne 60 55 rfl rfl rfl o21 ⟨by decide, by decide⟩ (fun c => ?_) (fun c => ?_)
            · have h := h.1 c
              refine lf_seg 1 (pc' := 61) (lv' := [(0, .int (Int32.ofInt a0))]) (st' := [.int (Int32.ofInt a0)]) rfl ?_
              refine lf_bipush 63 6 rfl rfl (by decide) (by decide) ?_
              refine lf_icmp_lt 71 66 rfl rfl rfl o21 ⟨by decide, by decide⟩ (fun c => ?_) (fun c => ?_)
              · have h := h.1 c
                refine lf_seg 1 (pc' := 72) (lv' := [(0, .int (Int32.ofInt a0))]) (st' := [.int (Int32.ofInt 5)]) rfl ?_
                exact lf_retI rfl rfl h
              · have h := h.2 c
                refine lf_bipush 68 6 rfl rfl (by decide) (by decide) ?_
                refine lf_seg 1 (pc' := 72) (lv' := [(0, .int (Int32.ofInt a0))]) (st' := [.int (Int32.ofInt 6)]) rfl ?_
                exact lf_retI rfl rfl h
            · have h := h.2 c
              refine lf_bipush 57 7 rfl rfl (by decide) (by decide) ?_
              refine lf_seg 1 (pc' := 72) (lv' := [(0, .int (Int32.ofInt a0))]) (st' := [.int (Int32.ofInt 7)]) rfl ?_
              exact lf_retI rfl rfl h
          · have h := h.2 c
            refine lf_seg 2 (pc' := 72) (lv' := [(0, .int (Int32.ofInt a0))]) (st' := [.int (Int32.ofInt 4)]) rfl ?_
            exact lf_retI rfl rfl h
        · have h := h.2 c
          refine lf_seg 2 (pc' := 72) (lv' := [(0, .int (Int32.ofInt a0))]) (st' := [.int (Int32.ofInt 3)]) rfl ?_
          exact lf_retI rfl rfl h
      · have h := h.2 c
        refine lf_seg 2 (pc' := 72) (lv' := [(0, .int (Int32.ofInt a0))]) (st' := [.int (Int32.ofInt 2)]) rfl ?_
        exact lf_retI rfl rfl h
    · have h := h.2 c
      refine lf_seg 2 (pc' := 72) (lv' := [(0, .int (Int32.ofInt a0))]) (st' := [.int (Int32.ofInt 1)]) rfl ?_
      exact lf_retI rfl rfl h
  · have h := h.2 c
    refine lf_seg 2 (pc' := 72) (lv' := [(0, .int (Int32.ofInt a0))]) (st' := [.int (Int32.ofInt 0)]) rfl ?_
    exact lf_retI rfl rfl h
-- fm_224 Model.settle 95 i
def fm_224_p76 (X0 : lf_Z → Prop) (Q : lf_Z → Prop) (x1 : Int) (s : lf_Z) : Prop := X0 (lf_up s.1 95 20 ((s.1 95 20) - 1), s.2.1, s.2.2)
set_option maxRecDepth 100000 in
theorem gm_224_p76 {L : Nat} {xs : Nat → Int32} {d : Nat} {X0 : lf_Z → Prop} {Q : lf_Z → Prop} {x1 : Int} {s : lf_Z} (hX0 : ∀ s, X0 s → lf_E (px_ro L xs) (d + 2) 224 0 [(0, .ref 95), (1, .int (Int32.ofInt x1))] [] s (lf_qv Q)) (h : fm_224_p76 X0 Q x1 s) : lf_E (px_ro L xs) (d + 2) 224 76 [(0, .ref 95), (1, .int (Int32.ofInt x1))] [] s (lf_qv Q) := by
  unfold fm_224_p76 at h
  refine lf_seg 2 (pc' := 78) (lv' := [(0, .ref 95), (1, .int (Int32.ofInt x1))]) (st' := [.ref 95, .ref 95]) rfl ?_
  refine lf_getI 81 20 rfl rfl rfl rfl rfl rfl rfl ?_
  refine lf_seg 1 (pc' := 82) (lv' := [(0, .ref 95), (1, .int (Int32.ofInt x1))]) (st' := [.int (Int32.ofInt 1), .int (Int32.ofInt (s.1 95 20)), .ref 95]) rfl ?_
  refine lf_isub 83 rfl rfl ?_
  refine lf_putI 86 20 rfl rfl rfl rfl rfl rfl rfl rfl ?_
  refine lf_as (lf_up s.1 95 20 ((s.1 95 20) - 1), s.2.1, s.2.2) rfl ?_
  refine lf_seg 1 (pc' := 0) (lv' := [(0, .ref 95), (1, .int (Int32.ofInt x1))]) (st' := []) rfl ?_
  refine lf_sub (l := [(0, .ref 95), (1, .int (Int32.ofInt x1))]) (lf_sb1 rfl (lf_sb1 rfl lf_sb0)) ?_
  exact hX0 _ h
def fm_224_p0 (Q : lf_Z → Prop) (x1 : Int) (X0 : lf_Z → Prop) (s : lf_Z) : Prop := lf_R (s.1 95 19) ∧ ((s.1 95 19 ≤ 0 → (Q s)) ∧ (¬ (s.1 95 19 ≤ 0) → ((0 ≤ (s.1 95 19) - 1 ∧ (s.1 95 19) - 1 < 160) ∧ (fm_222 (s.1 100 ((s.1 95 19) - 1)) (fun r24 s23 => (lf_R r24 ∧ (lf_R x1 ∧ ((r24 < x1 → (Q s23)) ∧ (¬ (r24 < x1) → ((0 ≤ (s23.1 95 19) - 1 ∧ (s23.1 95 19) - 1 < 160) ∧ (fm_225 (s23.1 100 ((s23.1 95 19) - 1)) 0 (fun s28 => ((0 ≤ s28.1 95 19 ∧ s28.1 95 19 < 160) ∧ (lf_R (s28.1 100 (s28.1 95 19)) ∧ ((s28.1 100 (s28.1 95 19) = 3 → (fm_224_p76 X0 Q x1 s28)) ∧ (¬ (s28.1 100 (s28.1 95 19) = 3) → ((s28.1 100 (s28.1 95 19) ≠ 20 → (X0 s28)) ∧ (¬ (s28.1 100 (s28.1 95 19) ≠ 20) → (fm_224_p76 X0 Q x1 s28)))))))) (lf_up s23.1 95 19 ((s23.1 95 19) - 1), s23.2.1, s23.2.2)))))))) s))))
def fm_224_p0L (Q : lf_Z → Prop) (x1 : Int) (s : lf_Z) : Prop := ∀ X0 : lf_Z → Prop, (∀ (s : lf_Z), fm_224_p0 Q x1 X0 s → X0 s) → X0 s
set_option maxRecDepth 100000 in
theorem gm_224_p0 {L : Nat} {xs : Nat → Int32} {d : Nat} {Q : lf_Z → Prop} {x1 : Int} {s : lf_Z} {X0 : lf_Z → Prop} (hX0 : ∀ s, X0 s → lf_E (px_ro L xs) (d + 2) 224 0 [(0, .ref 95), (1, .int (Int32.ofInt x1))] [] s (lf_qv Q)) (h : fm_224_p0 Q x1 X0 s) : lf_E (px_ro L xs) (d + 2) 224 0 [(0, .ref 95), (1, .int (Int32.ofInt x1))] [] s (lf_qv Q) := by
  unfold fm_224_p0 at h
  refine lf_seg 1 (pc' := 1) (lv' := [(0, .ref 95), (1, .int (Int32.ofInt x1))]) (st' := [.ref 95]) rfl ?_
  refine lf_getI 4 19 rfl rfl rfl rfl rfl rfl rfl ?_
  obtain ⟨o21, h⟩ := h
  refine lf_if_le 89 7 rfl rfl rfl o21 (fun c => ?_) (fun c => ?_)
  · have h := h.1 c
    exact lf_retV rfl rfl h
  · have h := h.2 c
    refine lf_seg 3 (pc' := 12) (lv' := [(0, .ref 95), (1, .int (Int32.ofInt x1))]) (st' := [.ref 95, .ref 100]) rfl ?_
    refine lf_getI 15 19 rfl rfl rfl rfl rfl rfl rfl ?_
    refine lf_seg 1 (pc' := 16) (lv' := [(0, .ref 95), (1, .int (Int32.ofInt x1))]) (st' := [.int (Int32.ofInt 1), .int (Int32.ofInt (s.1 95 19)), .ref 100]) rfl ?_
    refine lf_isub 17 rfl rfl ?_
    obtain ⟨o22, h⟩ := h
    refine lf_iald 18 160 rfl rfl rfl rfl rfl rfl o22 ?_
    refine lf_callI 21 rfl rfl rfl rfl (gm_222 h) (fun r24 s23 h => ?_)
    refine lf_seg 1 (pc' := 22) (lv' := [(0, .ref 95), (1, .int (Int32.ofInt x1))]) (st' := [.int (Int32.ofInt x1), .int (Int32.ofInt r24)]) rfl ?_
    obtain ⟨o25, h⟩ := h
    obtain ⟨o26, h⟩ := h
    refine lf_icmp_lt 89 25 rfl rfl rfl o25 o26 (fun c => ?_) (fun c => ?_)
    · have h := h.1 c
      exact lf_retV rfl rfl h
    · have h := h.2 c
      refine lf_seg 2 (pc' := 27) (lv' := [(0, .ref 95), (1, .int (Int32.ofInt x1))]) (st' := [.ref 95, .ref 95]) rfl ?_
      refine lf_getI 30 19 rfl rfl rfl rfl rfl rfl rfl ?_
      refine lf_seg 1 (pc' := 31) (lv' := [(0, .ref 95), (1, .int (Int32.ofInt x1))]) (st' := [.int (Int32.ofInt 1), .int (Int32.ofInt (s23.1 95 19)), .ref 95]) rfl ?_
      refine lf_isub 32 rfl rfl ?_
      refine lf_putI 35 19 rfl rfl rfl rfl rfl rfl rfl rfl ?_
      refine lf_as (lf_up s23.1 95 19 ((s23.1 95 19) - 1), s23.2.1, s23.2.2) rfl ?_
      refine lf_seg 4 (pc' := 41) (lv' := [(0, .ref 95), (1, .int (Int32.ofInt x1))]) (st' := [.ref 95, .ref 100, .ref 95]) rfl ?_
      refine lf_getI 44 19 rfl rfl rfl rfl rfl rfl rfl ?_
      refine lf_seg 0 (pc' := 44) (lv' := [(0, .ref 95), (1, .int (Int32.ofInt x1))]) (st' := [.int (Int32.ofInt ((s23.1 95 19) - 1)), .ref 100, .ref 95]) rfl ?_
      obtain ⟨o27, h⟩ := h
      refine lf_iald 45 160 rfl rfl rfl rfl rfl rfl o27 ?_
      refine lf_seg 1 (pc' := 46) (lv' := [(0, .ref 95), (1, .int (Int32.ofInt x1))]) (st' := [.int (Int32.ofInt 0), .int (Int32.ofInt (s23.1 100 ((s23.1 95 19) - 1))), .ref 95]) rfl ?_
      refine lf_callV 49 rfl rfl rfl rfl (gm_225 h) (fun s28 h => ?_)
      refine lf_seg 3 (pc' := 54) (lv' := [(0, .ref 95), (1, .int (Int32.ofInt x1))]) (st' := [.ref 95, .ref 100]) rfl ?_
      refine lf_getI 57 19 rfl rfl rfl rfl rfl rfl rfl ?_
      obtain ⟨o29, h⟩ := h
      refine lf_iald 58 160 rfl rfl rfl rfl rfl rfl o29 ?_
      refine lf_seg 1 (pc' := 59) (lv' := [(0, .ref 95), (1, .int (Int32.ofInt x1))]) (st' := [.int (Int32.ofInt 3), .int (Int32.ofInt (s28.1 100 (s28.1 95 19)))]) rfl ?_
      obtain ⟨o30, h⟩ := h
      refine lf_icmp_eq 76 62 rfl rfl rfl o30 ⟨by decide, by decide⟩ (fun c => ?_) (fun c => ?_)
      · have h := h.1 c
        refine lf_sub (l := [(0, .ref 95), (1, .int (Int32.ofInt x1))]) (lf_sb1 rfl (lf_sb1 rfl lf_sb0)) ?_
        exact gm_224_p76 hX0 h
      · have h := h.2 c
        refine lf_seg 3 (pc' := 67) (lv' := [(0, .ref 95), (1, .int (Int32.ofInt x1))]) (st' := [.ref 95, .ref 100]) rfl ?_
        refine lf_getI 70 19 rfl rfl rfl rfl rfl rfl rfl ?_
        refine lf_iald 71 160 rfl rfl rfl rfl rfl rfl o29 ?_
        refine lf_bipush 73 20 rfl rfl (by decide) (by decide) ?_
        refine lf_icmp_ne 0 76 rfl rfl rfl o30 ⟨by decide, by decide⟩ (fun c => ?_) (fun c => ?_)
        · have h := h.1 c
          refine lf_sub (l := [(0, .ref 95), (1, .int (Int32.ofInt x1))]) (lf_sb1 rfl (lf_sb1 rfl lf_sb0)) ?_
          exact hX0 _ h
        · have h := h.2 c
          refine lf_sub (l := [(0, .ref 95), (1, .int (Int32.ofInt x1))]) (lf_sb1 rfl (lf_sb1 rfl lf_sb0)) ?_
          exact gm_224_p76 hX0 h
theorem gm_224_p0L {L : Nat} {xs : Nat → Int32} {d : Nat} {Q : lf_Z → Prop} {x1 : Int} {s : lf_Z} (h : fm_224_p0L Q x1 s) : lf_E (px_ro L xs) (d + 2) 224 0 [(0, .ref 95), (1, .int (Int32.ofInt x1))] [] s (lf_qv Q) :=
  h (fun s => lf_E (px_ro L xs) (d + 2) 224 0 [(0, .ref 95), (1, .int (Int32.ofInt x1))] [] s (lf_qv Q)) (fun s hb => gm_224_p0 (fun _ h => h) hb)
def fm_224 (a1 : Int) (Q : lf_Z → Prop) (s : lf_Z) : Prop := fm_224_p0L Q a1 s
set_option maxRecDepth 100000 in
theorem gm_224 {L : Nat} {xs : Nat → Int32} {d : Nat} {a1 : Int} {Q : lf_Z → Prop} {s : lf_Z} (h : fm_224 a1 Q s) : lf_M (px_ro L xs) (d + 2) 224 [.ref 95, .int (Int32.ofInt a1)] s (lf_qv Q) := by
  unfold fm_224 at h
  show lf_E (px_ro L xs) (d + 2) 224 0 [(0, .ref 95), (1, .int (Int32.ofInt a1))] [] s _
  refine lf_sub (l := [(0, .ref 95), (1, .int (Int32.ofInt a1))]) (lf_sb1 rfl (lf_sb1 rfl lf_sb0)) ?_
  exact gm_224_p0L h
-- fm_233 Model.one 95 i i
def fm_233 (a1 : Int) (a2 : Int) (Q : lf_Z → Prop) (s : lf_Z) : Prop := fm_225 a1 a2 (fun s21 => (fm_197 (fun s22 => (fm_224 7 (fun s23 => (Q s23)) (lf_up s22.1 95 23 1, s22.2.1, s22.2.2))) s21)) s
set_option maxRecDepth 100000 in
theorem gm_233 {L : Nat} {xs : Nat → Int32} {d : Nat} {a1 : Int} {a2 : Int} {Q : lf_Z → Prop} {s : lf_Z} (h : fm_233 a1 a2 Q s) : lf_M (px_ro L xs) (d + 3) 233 [.ref 95, .int (Int32.ofInt a1), .int (Int32.ofInt a2)] s (lf_qv Q) := by
  unfold fm_233 at h
  show lf_E (px_ro L xs) (d + 3) 233 0 [(0, .ref 95), (1, .int (Int32.ofInt a1)), (2, .int (Int32.ofInt a2))] [] s _
  refine lf_seg 3 (pc' := 3) (lv' := [(0, .ref 95), (1, .int (Int32.ofInt a1)), (2, .int (Int32.ofInt a2))]) (st' := [.int (Int32.ofInt a2), .int (Int32.ofInt a1), .ref 95]) rfl ?_
  refine lf_callV 6 rfl rfl rfl rfl (gm_225 h) (fun s21 h => ?_)
  refine lf_seg 1 (pc' := 7) (lv' := [(0, .ref 95), (1, .int (Int32.ofInt a1)), (2, .int (Int32.ofInt a2))]) (st' := [.ref 95]) rfl ?_
  refine lf_callV 10 rfl rfl rfl rfl (gm_197 h) (fun s22 h => ?_)
  refine lf_seg 2 (pc' := 12) (lv' := [(0, .ref 95), (1, .int (Int32.ofInt a1)), (2, .int (Int32.ofInt a2))]) (st' := [.int (Int32.ofInt 1), .ref 95]) rfl ?_
  refine lf_putZ 15 23 rfl rfl rfl rfl rfl rfl rfl rfl (Or.inr rfl) ?_
  refine lf_as (lf_up s22.1 95 23 1, s22.2.1, s22.2.2) rfl ?_
  refine lf_seg 1 (pc' := 16) (lv' := [(0, .ref 95), (1, .int (Int32.ofInt a1)), (2, .int (Int32.ofInt a2))]) (st' := [.ref 95]) rfl ?_
  refine lf_bipush 18 7 rfl rfl (by decide) (by decide) ?_
  refine lf_callV 21 rfl rfl rfl rfl (gm_224 h) (fun s23 h => ?_)
  exact lf_retV rfl rfl h
-- fm_220 Model.openAt 95
def fm_220_p7 (Q : Int → lf_Z → Prop) (X7 : Int → lf_Z → Prop) (x1 : Int) (s : lf_Z) : Prop := lf_R x1 ∧ ((x1 < 0 → (Q x1 s)) ∧ (¬ (x1 < 0) → ((0 ≤ x1 ∧ x1 < 160) ∧ (lf_R (s.1 100 x1) ∧ ((40 ≤ s.1 100 x1 → (Q x1 s)) ∧ (¬ (40 ≤ s.1 100 x1) → (X7 (x1 + (-1)) s)))))))
def fm_220_p7L (Q : Int → lf_Z → Prop) (x1 : Int) (s : lf_Z) : Prop := ∀ X7 : Int → lf_Z → Prop, (∀ (x1 : Int) (s : lf_Z), fm_220_p7 Q X7 x1 s → X7 x1 s) → X7 x1 s
set_option maxRecDepth 100000 in
theorem gm_220_p7 {L : Nat} {xs : Nat → Int32} {d : Nat} {Q : Int → lf_Z → Prop} {x1 : Int} {s : lf_Z} {X7 : Int → lf_Z → Prop} (hX7 : ∀ x1 s, X7 x1 s → lf_E (px_ro L xs) (d + 1) 220 7 [(0, .ref 95), (1, .int (Int32.ofInt x1))] [] s (lf_qi Q)) (h : fm_220_p7 Q X7 x1 s) : lf_E (px_ro L xs) (d + 1) 220 7 [(0, .ref 95), (1, .int (Int32.ofInt x1))] [] s (lf_qi Q) := by
  unfold fm_220_p7 at h
  refine lf_seg 1 (pc' := 8) (lv' := [(0, .ref 95), (1, .int (Int32.ofInt x1))]) (st' := [.int (Int32.ofInt x1)]) rfl ?_
  obtain ⟨o21, h⟩ := h
  refine lf_if_lt 28 11 rfl rfl rfl o21 (fun c => ?_) (fun c => ?_)
  · have h := h.1 c
    refine lf_seg 1 (pc' := 29) (lv' := [(0, .ref 95), (1, .int (Int32.ofInt x1))]) (st' := [.int (Int32.ofInt x1)]) rfl ?_
    exact lf_retI rfl rfl h
  · have h := h.2 c
    refine lf_seg 3 (pc' := 16) (lv' := [(0, .ref 95), (1, .int (Int32.ofInt x1))]) (st' := [.int (Int32.ofInt x1), .ref 100]) rfl ?_
    obtain ⟨o22, h⟩ := h
    refine lf_iald 17 160 rfl rfl rfl rfl rfl rfl o22 ?_
    refine lf_bipush 19 40 rfl rfl (by decide) (by decide) ?_
    obtain ⟨o23, h⟩ := h
    refine lf_icmp_ge 28 22 rfl rfl rfl o23 ⟨by decide, by decide⟩ (fun c => ?_) (fun c => ?_)
    · have h := h.1 c
      refine lf_seg 1 (pc' := 29) (lv' := [(0, .ref 95), (1, .int (Int32.ofInt x1))]) (st' := [.int (Int32.ofInt x1)]) rfl ?_
      exact lf_retI rfl rfl h
    · have h := h.2 c
      refine lf_iinc 25 rfl rfl rfl rfl ?_
      refine lf_seg 1 (pc' := 7) (lv' := [(1, .int (Int32.ofInt (x1 + (-1)))), (0, .ref 95)]) (st' := []) rfl ?_
      refine lf_sub (l := [(0, .ref 95), (1, .int (Int32.ofInt (x1 + (-1))))]) (lf_sb1 rfl (lf_sb1 rfl lf_sb0)) ?_
      exact hX7 _ _ h
theorem gm_220_p7L {L : Nat} {xs : Nat → Int32} {d : Nat} {Q : Int → lf_Z → Prop} {x1 : Int} {s : lf_Z} (h : fm_220_p7L Q x1 s) : lf_E (px_ro L xs) (d + 1) 220 7 [(0, .ref 95), (1, .int (Int32.ofInt x1))] [] s (lf_qi Q) :=
  h (fun x1 s => lf_E (px_ro L xs) (d + 1) 220 7 [(0, .ref 95), (1, .int (Int32.ofInt x1))] [] s (lf_qi Q)) (fun x1 s hb => gm_220_p7 (fun _ _ h => h) hb)
def fm_220 (Q : Int → lf_Z → Prop) (s : lf_Z) : Prop := fm_220_p7L Q ((s.1 95 19) - 1) s
set_option maxRecDepth 100000 in
theorem gm_220 {L : Nat} {xs : Nat → Int32} {d : Nat} {Q : Int → lf_Z → Prop} {s : lf_Z} (h : fm_220 Q s) : lf_M (px_ro L xs) (d + 1) 220 [.ref 95] s (lf_qi Q) := by
  unfold fm_220 at h
  show lf_E (px_ro L xs) (d + 1) 220 0 [(0, .ref 95)] [] s _
  refine lf_seg 1 (pc' := 1) (lv' := [(0, .ref 95)]) (st' := [.ref 95]) rfl ?_
  refine lf_getI 4 19 rfl rfl rfl rfl rfl rfl rfl ?_
  refine lf_seg 1 (pc' := 5) (lv' := [(0, .ref 95)]) (st' := [.int (Int32.ofInt 1), .int (Int32.ofInt (s.1 95 19))]) rfl ?_
  refine lf_isub 6 rfl rfl ?_
  refine lf_seg 1 (pc' := 7) (lv' := [(1, .int (Int32.ofInt ((s.1 95 19) - 1))), (0, .ref 95)]) (st' := []) rfl ?_
  refine lf_sub (l := [(0, .ref 95), (1, .int (Int32.ofInt ((s.1 95 19) - 1)))]) (lf_sb1 rfl (lf_sb1 rfl lf_sb0)) ?_
  exact gm_220_p7L h
-- fm_219 Model.openNow 95
def fm_219 (Q : Int → lf_Z → Prop) (s : lf_Z) : Prop := fm_220 (fun r22 s21 => (lf_R r22 ∧ ((0 ≤ r22 → (fm_220 (fun r25 s24 => ((0 ≤ r25 ∧ r25 < 160) ∧ (Q (s24.1 100 r25) s24))) s21)) ∧ (¬ (0 ≤ r22) → (Q (-1) s21))))) s
set_option maxRecDepth 100000 in
theorem gm_219 {L : Nat} {xs : Nat → Int32} {d : Nat} {Q : Int → lf_Z → Prop} {s : lf_Z} (h : fm_219 Q s) : lf_M (px_ro L xs) (d + 2) 219 [.ref 95] s (lf_qi Q) := by
  unfold fm_219 at h
  show lf_E (px_ro L xs) (d + 2) 219 0 [(0, .ref 95)] [] s _
  refine lf_seg 1 (pc' := 1) (lv' := [(0, .ref 95)]) (st' := [.ref 95]) rfl ?_
  refine lf_callI 4 rfl rfl rfl rfl (gm_220 h) (fun r22 s21 h => ?_)
  obtain ⟨o23, h⟩ := h
  refine lf_if_ge 11 7 rfl rfl rfl o23 (fun c => ?_) (fun c => ?_)
  · have h := h.1 c
    refine lf_seg 3 (pc' := 16) (lv' := [(0, .ref 95)]) (st' := [.ref 95, .ref 100]) rfl ?_
    refine lf_callI 19 rfl rfl rfl rfl (gm_220 h) (fun r25 s24 h => ?_)
    obtain ⟨o26, h⟩ := h
    refine lf_iald 20 160 rfl rfl rfl rfl rfl rfl o26 ?_
    exact lf_retI rfl rfl h
  · have h := h.2 c
    refine lf_seg 2 (pc' := 20) (lv' := [(0, .ref 95)]) (st' := [.int (Int32.ofInt (-1))]) rfl ?_
    exact lf_retI rfl rfl h
-- fm_235 Model.isAskAhead 95
def fm_235 (Q : Bool → lf_Z → Prop) (s : lf_Z) : Prop := fm_219 (fun r22 s21 => (lf_R r22 ∧ ((r22 ≠ 41 → (Q false s21)) ∧ (¬ (r22 ≠ 41) → ((0 ≤ (s21.1 95 19) - 1 ∧ (s21.1 95 19) - 1 < 160) ∧ (lf_R (s21.1 100 ((s21.1 95 19) - 1)) ∧ ((s21.1 100 ((s21.1 95 19) - 1) = 41 → (Q true s21)) ∧ (¬ (s21.1 100 ((s21.1 95 19) - 1) = 41) → (fm_222 (s21.1 100 ((s21.1 95 19) - 1)) (fun r27 s26 => (fm_183 r27 1 3 (fun z29 s28 => ((z29 = false → (Q false s28)) ∧ (z29 = true → (Q true s28)))) s26)) s21))))))))) s
set_option maxRecDepth 100000 in
theorem gm_235 {L : Nat} {xs : Nat → Int32} {d : Nat} {Q : Bool → lf_Z → Prop} {s : lf_Z} (h : fm_235 Q s) : lf_M (px_ro L xs) (d + 3) 235 [.ref 95] s (lf_qz Q) := by
  unfold fm_235 at h
  show lf_E (px_ro L xs) (d + 3) 235 0 [(0, .ref 95)] [] s _
  refine lf_seg 1 (pc' := 1) (lv' := [(0, .ref 95)]) (st' := [.ref 95]) rfl ?_
  refine lf_callI 4 rfl rfl rfl rfl (gm_219 h) (fun r22 s21 h => ?_)
  refine lf_bipush 6 41 rfl rfl (by decide) (by decide) ?_
  obtain ⟨o23, h⟩ := h
  refine lf_icmp_ne 51 9 rfl rfl rfl o23 ⟨by decide, by decide⟩ (fun c => ?_) (fun c => ?_)
  · have h := h.1 c
    refine lf_seg 1 (pc' := 52) (lv' := [(0, .ref 95)]) (st' := [.int (Int32.ofInt 0)]) rfl ?_
    exact lf_retZ false rfl rfl h
  · have h := h.2 c
    refine lf_seg 3 (pc' := 14) (lv' := [(0, .ref 95)]) (st' := [.ref 95, .ref 100]) rfl ?_
    refine lf_getI 17 19 rfl rfl rfl rfl rfl rfl rfl ?_
    refine lf_seg 1 (pc' := 18) (lv' := [(0, .ref 95)]) (st' := [.int (Int32.ofInt 1), .int (Int32.ofInt (s21.1 95 19)), .ref 100]) rfl ?_
    refine lf_isub 19 rfl rfl ?_
    obtain ⟨o24, h⟩ := h
    refine lf_iald 20 160 rfl rfl rfl rfl rfl rfl o24 ?_
    refine lf_bipush 22 41 rfl rfl (by decide) (by decide) ?_
    obtain ⟨o25, h⟩ := h
    refine lf_icmp_eq 47 25 rfl rfl rfl o25 ⟨by decide, by decide⟩ (fun c => ?_) (fun c => ?_)
    · have h := h.1 c
      refine lf_seg 2 (pc' := 52) (lv' := [(0, .ref 95)]) (st' := [.int (Int32.ofInt 1)]) rfl ?_
      exact lf_retZ true rfl rfl h
    · have h := h.2 c
      refine lf_seg 3 (pc' := 30) (lv' := [(0, .ref 95)]) (st' := [.ref 95, .ref 100]) rfl ?_
      refine lf_getI 33 19 rfl rfl rfl rfl rfl rfl rfl ?_
      refine lf_seg 1 (pc' := 34) (lv' := [(0, .ref 95)]) (st' := [.int (Int32.ofInt 1), .int (Int32.ofInt (s21.1 95 19)), .ref 100]) rfl ?_
      refine lf_isub 35 rfl rfl ?_
      refine lf_iald 36 160 rfl rfl rfl rfl rfl rfl o24 ?_
      refine lf_callI 39 rfl rfl rfl rfl (gm_222 h) (fun r27 s26 h => ?_)
      refine lf_seg 2 (pc' := 41) (lv' := [(0, .ref 95)]) (st' := [.int (Int32.ofInt 3), .int (Int32.ofInt 1), .int (Int32.ofInt r27)]) rfl ?_
      refine lf_callZ 44 rfl rfl rfl rfl (gm_183 h) (fun z29 s28 h => ?_)
      refine lf_ifz_eq 51 47 rfl rfl rfl (fun c => ?_) (fun c => ?_)
      · have h := h.1 c
        refine lf_seg 1 (pc' := 52) (lv' := [(0, .ref 95)]) (st' := [.int (Int32.ofInt 0)]) rfl ?_
        exact lf_retZ false rfl rfl h
      · have h := h.2 c
        refine lf_seg 2 (pc' := 52) (lv' := [(0, .ref 95)]) (st' := [.int (Int32.ofInt 1)]) rfl ?_
        exact lf_retZ true rfl rfl h
-- fm_234 Model.opened 95 i
def fm_234 (a1 : Int) (Q : Int → lf_Z → Prop) (s : lf_Z) : Prop := lf_R (s.1 95 20) ∧ ((s.1 95 20 ≠ 8 → ((0 ≤ s.1 95 19 ∧ s.1 95 19 < 160) ∧ (fm_197 (fun s23 => (lf_R a1 ∧ ((a1 = 44 → (fm_232 (fun r26 s25 => (lf_R r26 ∧ ((0 ≤ r26 → (fm_232 (fun r29 s28 => ((0 ≤ s25.1 95 21 ∧ s25.1 95 21 < 10) ∧ (fm_197 (fun s31 => (fm_206 98 101 (fun r33 s32 => (fm_207 (lf_wl r33) (fun z35 s34 => ((z35 = true → (fm_197 (fun s36 => (Q 0 s36)) s34)) ∧ (z35 = false → (Q 1 s34)))) s32)) s31)) (lf_up (lf_up s28.1 101 (s25.1 95 21) r29) 95 21 ((s28.1 95 21) + 1), s28.2.1, s28.2.2)))) s25)) ∧ (¬ (0 ≤ r26) → (Q 1 s25))))) s23)) ∧ (¬ (a1 = 44) → (Q 0 s23))))) (lf_up (lf_up (lf_up s.1 95 20 ((s.1 95 20) + 1)) 100 (s.1 95 19) a1) 95 19 ((s.1 95 19) + 1), s.2.1, s.2.2)))) ∧ (¬ (s.1 95 20 ≠ 8) → (Q 3 s)))
set_option maxRecDepth 100000 in
theorem gm_234 {L : Nat} {xs : Nat → Int32} {d : Nat} {a1 : Int} {Q : Int → lf_Z → Prop} {s : lf_Z} (h : fm_234 a1 Q s) : lf_M (px_ro L xs) (d + 3) 234 [.ref 95, .int (Int32.ofInt a1)] s (lf_qi Q) := by
  unfold fm_234 at h
  show lf_E (px_ro L xs) (d + 3) 234 0 [(0, .ref 95), (1, .int (Int32.ofInt a1))] [] s _
  refine lf_seg 1 (pc' := 1) (lv' := [(0, .ref 95), (1, .int (Int32.ofInt a1))]) (st' := [.ref 95]) rfl ?_
  refine lf_getI 4 20 rfl rfl rfl rfl rfl rfl rfl ?_
  refine lf_bipush 6 8 rfl rfl (by decide) (by decide) ?_
  obtain ⟨o21, h⟩ := h
  refine lf_icmp_ne 11 9 rfl rfl rfl o21 ⟨by decide, by decide⟩ (fun c => ?_) (fun c => ?_)
  · have h := h.1 c
    refine lf_seg 2 (pc' := 13) (lv' := [(0, .ref 95), (1, .int (Int32.ofInt a1))]) (st' := [.ref 95, .ref 95]) rfl ?_
    refine lf_getI 16 20 rfl rfl rfl rfl rfl rfl rfl ?_
    refine lf_seg 1 (pc' := 17) (lv' := [(0, .ref 95), (1, .int (Int32.ofInt a1))]) (st' := [.int (Int32.ofInt 1), .int (Int32.ofInt (s.1 95 20)), .ref 95]) rfl ?_
    refine lf_iadd 18 rfl rfl ?_
    refine lf_putI 21 20 rfl rfl rfl rfl rfl rfl rfl rfl ?_
    refine lf_as (lf_up s.1 95 20 ((s.1 95 20) + 1), s.2.1, s.2.2) rfl ?_
    refine lf_seg 3 (pc' := 26) (lv' := [(0, .ref 95), (1, .int (Int32.ofInt a1))]) (st' := [.ref 95, .ref 100]) rfl ?_
    refine lf_getI 29 19 rfl rfl rfl rfl rfl rfl rfl ?_
    refine lf_seg 1 (pc' := 30) (lv' := [(0, .ref 95), (1, .int (Int32.ofInt a1))]) (st' := [.int (Int32.ofInt a1), .int (Int32.ofInt (s.1 95 19)), .ref 100]) rfl ?_
    obtain ⟨o22, h⟩ := h
    refine lf_iast 31 160 rfl rfl rfl rfl rfl rfl o22 ?_
    refine lf_as (lf_up (lf_up s.1 95 20 ((s.1 95 20) + 1)) 100 (s.1 95 19) a1, s.2.1, s.2.2) rfl ?_
    refine lf_seg 2 (pc' := 33) (lv' := [(0, .ref 95), (1, .int (Int32.ofInt a1))]) (st' := [.ref 95, .ref 95]) rfl ?_
    refine lf_getI 36 19 rfl rfl rfl rfl rfl rfl rfl ?_
    refine lf_seg 1 (pc' := 37) (lv' := [(0, .ref 95), (1, .int (Int32.ofInt a1))]) (st' := [.int (Int32.ofInt 1), .int (Int32.ofInt (s.1 95 19)), .ref 95]) rfl ?_
    refine lf_iadd 38 rfl rfl ?_
    refine lf_putI 41 19 rfl rfl rfl rfl rfl rfl rfl rfl ?_
    refine lf_as (lf_up (lf_up (lf_up s.1 95 20 ((s.1 95 20) + 1)) 100 (s.1 95 19) a1) 95 19 ((s.1 95 19) + 1), s.2.1, s.2.2) rfl ?_
    refine lf_seg 1 (pc' := 42) (lv' := [(0, .ref 95), (1, .int (Int32.ofInt a1))]) (st' := [.ref 95]) rfl ?_
    refine lf_callV 45 rfl rfl rfl rfl (gm_197 h) (fun s23 h => ?_)
    refine lf_seg 1 (pc' := 46) (lv' := [(0, .ref 95), (1, .int (Int32.ofInt a1))]) (st' := [.int (Int32.ofInt a1)]) rfl ?_
    refine lf_bipush 48 44 rfl rfl (by decide) (by decide) ?_
    obtain ⟨o24, h⟩ := h
    refine lf_icmp_eq 53 51 rfl rfl rfl o24 ⟨by decide, by decide⟩ (fun c => ?_) (fun c => ?_)
    · have h := h.1 c
      refine lf_seg 1 (pc' := 54) (lv' := [(0, .ref 95), (1, .int (Int32.ofInt a1))]) (st' := [.ref 95]) rfl ?_
      refine lf_callI 57 rfl rfl rfl rfl (gm_232 h) (fun r26 s25 h => ?_)
      obtain ⟨o27, h⟩ := h
      refine lf_if_ge 62 60 rfl rfl rfl o27 (fun c => ?_) (fun c => ?_)
      · have h := h.1 c
        refine lf_seg 3 (pc' := 67) (lv' := [(0, .ref 95), (1, .int (Int32.ofInt a1))]) (st' := [.ref 95, .ref 101]) rfl ?_
        refine lf_getI 70 21 rfl rfl rfl rfl rfl rfl rfl ?_
        refine lf_seg 1 (pc' := 71) (lv' := [(0, .ref 95), (1, .int (Int32.ofInt a1))]) (st' := [.ref 95, .int (Int32.ofInt (s25.1 95 21)), .ref 101]) rfl ?_
        refine lf_callI 74 rfl rfl rfl rfl (gm_232 h) (fun r29 s28 h => ?_)
        obtain ⟨o30, h⟩ := h
        refine lf_iast 75 10 rfl rfl rfl rfl rfl rfl o30 ?_
        refine lf_as (lf_up s28.1 101 (s25.1 95 21) r29, s28.2.1, s28.2.2) rfl ?_
        refine lf_seg 2 (pc' := 77) (lv' := [(0, .ref 95), (1, .int (Int32.ofInt a1))]) (st' := [.ref 95, .ref 95]) rfl ?_
        refine lf_getI 80 21 rfl rfl rfl rfl rfl rfl rfl ?_
        refine lf_seg 1 (pc' := 81) (lv' := [(0, .ref 95), (1, .int (Int32.ofInt a1))]) (st' := [.int (Int32.ofInt 1), .int (Int32.ofInt (s28.1 95 21)), .ref 95]) rfl ?_
        refine lf_iadd 82 rfl rfl ?_
        refine lf_putI 85 21 rfl rfl rfl rfl rfl rfl rfl rfl ?_
        refine lf_as (lf_up (lf_up s28.1 101 (s25.1 95 21) r29) 95 21 ((s28.1 95 21) + 1), s28.2.1, s28.2.2) rfl ?_
        refine lf_seg 1 (pc' := 86) (lv' := [(0, .ref 95), (1, .int (Int32.ofInt a1))]) (st' := [.ref 95]) rfl ?_
        refine lf_callV 89 rfl rfl rfl rfl (gm_197 h) (fun s31 h => ?_)
        refine lf_seg 1 (pc' := 90) (lv' := [(0, .ref 95), (1, .int (Int32.ofInt a1))]) (st' := [.ref 95]) rfl ?_
        refine lf_bipush 92 98 rfl rfl (by decide) (by decide) ?_
        refine lf_bipush 94 101 rfl rfl (by decide) (by decide) ?_
        refine lf_callL 97 rfl rfl rfl rfl (gm_206 h) (fun r33 s32 h => ?_)
        refine lf_wtL ?_
        refine lf_callZ 100 rfl rfl rfl rfl (gm_207 h) (fun z35 s34 h => ?_)
        refine lf_ifz_ne 105 103 rfl rfl rfl (fun c => ?_) (fun c => ?_)
        · have h := h.1 c
          refine lf_seg 1 (pc' := 106) (lv' := [(0, .ref 95), (1, .int (Int32.ofInt a1))]) (st' := [.ref 95]) rfl ?_
          refine lf_callV 109 rfl rfl rfl rfl (gm_197 h) (fun s36 h => ?_)
          refine lf_seg 1 (pc' := 110) (lv' := [(0, .ref 95), (1, .int (Int32.ofInt a1))]) (st' := [.int (Int32.ofInt 0)]) rfl ?_
          exact lf_retI rfl rfl h
        · have h := h.2 c
          refine lf_seg 1 (pc' := 104) (lv' := [(0, .ref 95), (1, .int (Int32.ofInt a1))]) (st' := [.int (Int32.ofInt 1)]) rfl ?_
          exact lf_retI rfl rfl h
      · have h := h.2 c
        refine lf_seg 1 (pc' := 61) (lv' := [(0, .ref 95), (1, .int (Int32.ofInt a1))]) (st' := [.int (Int32.ofInt 1)]) rfl ?_
        exact lf_retI rfl rfl h
    · have h := h.2 c
      refine lf_seg 1 (pc' := 52) (lv' := [(0, .ref 95), (1, .int (Int32.ofInt a1))]) (st' := [.int (Int32.ofInt 0)]) rfl ?_
      exact lf_retI rfl rfl h
  · have h := h.2 c
    refine lf_seg 1 (pc' := 10) (lv' := [(0, .ref 95), (1, .int (Int32.ofInt a1))]) (st' := [.int (Int32.ofInt 3)]) rfl ?_
    exact lf_retI rfl rfl h
-- fm_231 Model.isOf 95 i
def fm_231 (a1 : Int) (Q : Bool → lf_Z → Prop) (s : lf_Z) : Prop := lf_R a1 ∧ ((a1 < 4 → (Q true s)) ∧ (¬ (a1 < 4) → ((a1 ≠ 4 → ((a1 ≠ 10 → (lf_R (s.1 95 14) ∧ ((s.1 95 14 ≠ 1 → (Q false s)) ∧ (¬ (s.1 95 14 ≠ 1) → (Q true s))))) ∧ (¬ (a1 ≠ 10) → (lf_R (s.1 95 14) ∧ ((s.1 95 14 ≠ 2 → (Q false s)) ∧ (¬ (s.1 95 14 ≠ 2) → (Q true s))))))) ∧ (¬ (a1 ≠ 4) → (lf_R (s.1 95 14) ∧ ((s.1 95 14 ≠ 0 → (Q false s)) ∧ (¬ (s.1 95 14 ≠ 0) → (Q true s))))))))
set_option maxRecDepth 100000 in
theorem gm_231 {L : Nat} {xs : Nat → Int32} {d : Nat} {a1 : Int} {Q : Bool → lf_Z → Prop} {s : lf_Z} (h : fm_231 a1 Q s) : lf_M (px_ro L xs) (d + 1) 231 [.ref 95, .int (Int32.ofInt a1)] s (lf_qz Q) := by
  unfold fm_231 at h
  show lf_E (px_ro L xs) (d + 1) 231 0 [(0, .ref 95), (1, .int (Int32.ofInt a1))] [] s _
  refine lf_seg 2 (pc' := 2) (lv' := [(0, .ref 95), (1, .int (Int32.ofInt a1))]) (st' := [.int (Int32.ofInt 4), .int (Int32.ofInt a1)]) rfl ?_
  obtain ⟨o21, h⟩ := h
  refine lf_icmp_lt 45 5 rfl rfl rfl o21 ⟨by decide, by decide⟩ (fun c => ?_) (fun c => ?_)
  · have h := h.1 c
    refine lf_seg 2 (pc' := 50) (lv' := [(0, .ref 95), (1, .int (Int32.ofInt a1))]) (st' := [.int (Int32.ofInt 1)]) rfl ?_
    exact lf_retZ true rfl rfl h
  · have h := h.2 c
    refine lf_seg 2 (pc' := 7) (lv' := [(0, .ref 95), (1, .int (Int32.ofInt a1))]) (st' := [.int (Int32.ofInt 4), .int (Int32.ofInt a1)]) rfl ?_
    refine lf_icmp_ne 20 10 rfl rfl rfl o21 ⟨by decide, by decide⟩ (fun c => ?_) (fun c => ?_)
    · have h := h.1 c
      refine lf_seg 1 (pc' := 21) (lv' := [(0, .ref 95), (1, .int (Int32.ofInt a1))]) (st' := [.int (Int32.ofInt a1)]) rfl ?_
      refine lf_bipush 23 10 rfl rfl (by decide) (by decide) ?_
      refine lf_icmp_ne 37 26 rfl rfl rfl o21 ⟨by decide, by decide⟩ (fun c => ?_) (fun c => ?_)
      · have h := h.1 c
        refine lf_seg 1 (pc' := 38) (lv' := [(0, .ref 95), (1, .int (Int32.ofInt a1))]) (st' := [.ref 95]) rfl ?_
        refine lf_getI 41 14 rfl rfl rfl rfl rfl rfl rfl ?_
        refine lf_seg 1 (pc' := 42) (lv' := [(0, .ref 95), (1, .int (Int32.ofInt a1))]) (st' := [.int (Int32.ofInt 1), .int (Int32.ofInt (s.1 95 14))]) rfl ?_
        obtain ⟨o22, h⟩ := h
        refine lf_icmp_ne 49 45 rfl rfl rfl o22 ⟨by decide, by decide⟩ (fun c => ?_) (fun c => ?_)
        · have h := h.1 c
          refine lf_seg 1 (pc' := 50) (lv' := [(0, .ref 95), (1, .int (Int32.ofInt a1))]) (st' := [.int (Int32.ofInt 0)]) rfl ?_
          exact lf_retZ false rfl rfl h
        · have h := h.2 c
          refine lf_seg 2 (pc' := 50) (lv' := [(0, .ref 95), (1, .int (Int32.ofInt a1))]) (st' := [.int (Int32.ofInt 1)]) rfl ?_
          exact lf_retZ true rfl rfl h
      · have h := h.2 c
        refine lf_seg 1 (pc' := 27) (lv' := [(0, .ref 95), (1, .int (Int32.ofInt a1))]) (st' := [.ref 95]) rfl ?_
        refine lf_getI 30 14 rfl rfl rfl rfl rfl rfl rfl ?_
        refine lf_seg 1 (pc' := 31) (lv' := [(0, .ref 95), (1, .int (Int32.ofInt a1))]) (st' := [.int (Int32.ofInt 2), .int (Int32.ofInt (s.1 95 14))]) rfl ?_
        obtain ⟨o23, h⟩ := h
        refine lf_icmp_ne 49 34 rfl rfl rfl o23 ⟨by decide, by decide⟩ (fun c => ?_) (fun c => ?_)
        · have h := h.1 c
          refine lf_seg 1 (pc' := 50) (lv' := [(0, .ref 95), (1, .int (Int32.ofInt a1))]) (st' := [.int (Int32.ofInt 0)]) rfl ?_
          exact lf_retZ false rfl rfl h
        · have h := h.2 c
          refine lf_seg 3 (pc' := 50) (lv' := [(0, .ref 95), (1, .int (Int32.ofInt a1))]) (st' := [.int (Int32.ofInt 1)]) rfl ?_
          exact lf_retZ true rfl rfl h
    · have h := h.2 c
      refine lf_seg 1 (pc' := 11) (lv' := [(0, .ref 95), (1, .int (Int32.ofInt a1))]) (st' := [.ref 95]) rfl ?_
      refine lf_getI 14 14 rfl rfl rfl rfl rfl rfl rfl ?_
      obtain ⟨o24, h⟩ := h
      refine lf_if_ne 49 17 rfl rfl rfl o24 (fun c => ?_) (fun c => ?_)
      · have h := h.1 c
        refine lf_seg 1 (pc' := 50) (lv' := [(0, .ref 95), (1, .int (Int32.ofInt a1))]) (st' := [.int (Int32.ofInt 0)]) rfl ?_
        exact lf_retZ false rfl rfl h
      · have h := h.2 c
        refine lf_seg 3 (pc' := 50) (lv' := [(0, .ref 95), (1, .int (Int32.ofInt a1))]) (st' := [.int (Int32.ofInt 1)]) rfl ?_
        exact lf_retZ true rfl rfl h
-- fm_229 Model.beginOne 95
def fm_229_p79 (Q : Int → lf_Z → Prop) (x1 : Int) (s : lf_Z) : Prop := lf_R (s.1 95 9) ∧ ((s.1 95 9 ≠ 1 → (lf_R x1 ∧ ((x1 < 0 → (fm_232 (fun r32 s31 => ((0 ≤ r32 ∧ r32 < 26) ∧ (fm_233 31 (s31.1 103 r32) (fun s34 => (Q 0 s34)) s31))) s)) ∧ (¬ (x1 < 0) → (fm_233 1 x1 (fun s35 => (Q 0 s35)) s))))) ∧ (¬ (s.1 95 9 ≠ 1) → (fm_233 0 (s.1 95 10) (fun s36 => (Q 0 s36)) s)))
set_option maxRecDepth 100000 in
theorem gm_229_p79 {L : Nat} {xs : Nat → Int32} {d : Nat} {Q : Int → lf_Z → Prop} {x1 : Int} {s : lf_Z} (h : fm_229_p79 Q x1 s) : lf_E (px_ro L xs) (d + 7) 229 79 [(0, .ref 95), (1, .int (Int32.ofInt x1))] [] s (lf_qi Q) := by
  unfold fm_229_p79 at h
  refine lf_seg 1 (pc' := 80) (lv' := [(0, .ref 95), (1, .int (Int32.ofInt x1))]) (st' := [.ref 95]) rfl ?_
  refine lf_getI 83 9 rfl rfl rfl rfl rfl rfl rfl ?_
  refine lf_seg 1 (pc' := 84) (lv' := [(0, .ref 95), (1, .int (Int32.ofInt x1))]) (st' := [.int (Int32.ofInt 1), .int (Int32.ofInt (s.1 95 9))]) rfl ?_
  obtain ⟨o29, h⟩ := h
  refine lf_icmp_ne 99 87 rfl rfl rfl o29 ⟨by decide, by decide⟩ (fun c => ?_) (fun c => ?_)
  · have h := h.1 c
    refine lf_seg 1 (pc' := 100) (lv' := [(0, .ref 95), (1, .int (Int32.ofInt x1))]) (st' := [.int (Int32.ofInt x1)]) rfl ?_
    obtain ⟨o30, h⟩ := h
    refine lf_if_lt 112 103 rfl rfl rfl o30 (fun c => ?_) (fun c => ?_)
    · have h := h.1 c
      refine lf_seg 1 (pc' := 113) (lv' := [(0, .ref 95), (1, .int (Int32.ofInt x1))]) (st' := [.ref 95]) rfl ?_
      refine lf_bipush 115 31 rfl rfl (by decide) (by decide) ?_
      refine lf_seg 3 (pc' := 120) (lv' := [(0, .ref 95), (1, .int (Int32.ofInt x1))]) (st' := [.ref 95, .ref 103, .int (Int32.ofInt 31), .ref 95]) rfl ?_
      refine lf_callI 123 rfl rfl rfl rfl (gm_232 h) (fun r32 s31 h => ?_)
      obtain ⟨o33, h⟩ := h
      refine lf_iald 124 26 rfl rfl rfl rfl rfl rfl o33 ?_
      refine lf_callV 127 rfl rfl rfl rfl (gm_233 h) (fun s34 h => ?_)
      refine lf_seg 1 (pc' := 128) (lv' := [(0, .ref 95), (1, .int (Int32.ofInt x1))]) (st' := [.int (Int32.ofInt 0)]) rfl ?_
      exact lf_retI rfl rfl h
    · have h := h.2 c
      refine lf_seg 3 (pc' := 106) (lv' := [(0, .ref 95), (1, .int (Int32.ofInt x1))]) (st' := [.int (Int32.ofInt x1), .int (Int32.ofInt 1), .ref 95]) rfl ?_
      refine lf_callV 109 rfl rfl rfl rfl (gm_233 h) (fun s35 h => ?_)
      refine lf_seg 2 (pc' := 128) (lv' := [(0, .ref 95), (1, .int (Int32.ofInt x1))]) (st' := [.int (Int32.ofInt 0)]) rfl ?_
      exact lf_retI rfl rfl h
  · have h := h.2 c
    refine lf_seg 3 (pc' := 90) (lv' := [(0, .ref 95), (1, .int (Int32.ofInt x1))]) (st' := [.ref 95, .int (Int32.ofInt 0), .ref 95]) rfl ?_
    refine lf_getI 93 10 rfl rfl rfl rfl rfl rfl rfl ?_
    refine lf_callV 96 rfl rfl rfl rfl (gm_233 h) (fun s36 h => ?_)
    refine lf_seg 2 (pc' := 128) (lv' := [(0, .ref 95), (1, .int (Int32.ofInt x1))]) (st' := [.int (Int32.ofInt 0)]) rfl ?_
    exact lf_retI rfl rfl h
def fm_229_p60 (Q : Int → lf_Z → Prop) (x1 : Int) (s : lf_Z) : Prop := lf_R (s.1 95 9) ∧ ((s.1 95 9 = 1 → (fm_229_p79 Q x1 s)) ∧ (¬ (s.1 95 9 = 1) → (lf_R x1 ∧ ((0 ≤ x1 → (fm_229_p79 Q x1 s)) ∧ (¬ (0 ≤ x1) → (fm_232 (fun r39 s38 => (lf_R r39 ∧ ((r39 < 0 → (lf_R (s38.1 95 9) ∧ ((s38.1 95 9 ≠ 40 → ((s38.1 95 9 ≠ 45 → (fm_206 105 102 (fun r43 s42 => (fm_207 (lf_wl r43) (fun z45 s44 => ((z45 = false → (fm_205 108 101 116 (fun r47 s46 => (fm_207 (lf_wl r47) (fun z49 s48 => ((z49 = false → (fm_205 110 111 116 (fun r51 s50 => (fm_207 (lf_wl r51) (fun z53 s52 => ((z53 = false → (Q 1 s52)) ∧ (z53 = true → (fm_235 (fun z55 s54 => ((z55 = false → (Q 1 s54)) ∧ (z55 = true → (fm_234 20 (fun r57 s56 => (Q r57 s56)) s54)))) s52)))) s50)) s48)) ∧ (z49 = true → (fm_234 44 (fun r59 s58 => (Q r59 s58)) s48)))) s46)) s44)) ∧ (z45 = true → (fm_234 41 (fun r61 s60 => (Q r61 s60)) s44)))) s42)) s38)) ∧ (¬ (s38.1 95 9 ≠ 45) → (fm_234 3 (fun r63 s62 => (Q r63 s62)) s38)))) ∧ (¬ (s38.1 95 9 ≠ 40) → (fm_234 40 (fun r65 s64 => (Q r65 s64)) s38))))) ∧ (¬ (r39 < 0) → (fm_229_p79 Q x1 s38))))) s))))))
set_option maxRecDepth 100000 in
theorem gm_229_p60 {L : Nat} {xs : Nat → Int32} {d : Nat} {Q : Int → lf_Z → Prop} {x1 : Int} {s : lf_Z} (h : fm_229_p60 Q x1 s) : lf_E (px_ro L xs) (d + 7) 229 60 [(0, .ref 95), (1, .int (Int32.ofInt x1))] [] s (lf_qi Q) := by
  unfold fm_229_p60 at h
  refine lf_seg 1 (pc' := 61) (lv' := [(0, .ref 95), (1, .int (Int32.ofInt x1))]) (st' := [.ref 95]) rfl ?_
  refine lf_getI 64 9 rfl rfl rfl rfl rfl rfl rfl ?_
  refine lf_seg 1 (pc' := 65) (lv' := [(0, .ref 95), (1, .int (Int32.ofInt x1))]) (st' := [.int (Int32.ofInt 1), .int (Int32.ofInt (s.1 95 9))]) rfl ?_
  obtain ⟨o28, h⟩ := h
  refine lf_icmp_eq 79 68 rfl rfl rfl o28 ⟨by decide, by decide⟩ (fun c => ?_) (fun c => ?_)
  · have h := h.1 c
    refine lf_sub (l := [(0, .ref 95), (1, .int (Int32.ofInt x1))]) (lf_sb1 rfl (lf_sb1 rfl lf_sb0)) ?_
    exact gm_229_p79 h
  · have h := h.2 c
    refine lf_seg 1 (pc' := 69) (lv' := [(0, .ref 95), (1, .int (Int32.ofInt x1))]) (st' := [.int (Int32.ofInt x1)]) rfl ?_
    obtain ⟨o37, h⟩ := h
    refine lf_if_ge 79 72 rfl rfl rfl o37 (fun c => ?_) (fun c => ?_)
    · have h := h.1 c
      refine lf_sub (l := [(0, .ref 95), (1, .int (Int32.ofInt x1))]) (lf_sb1 rfl (lf_sb1 rfl lf_sb0)) ?_
      exact gm_229_p79 h
    · have h := h.2 c
      refine lf_seg 1 (pc' := 73) (lv' := [(0, .ref 95), (1, .int (Int32.ofInt x1))]) (st' := [.ref 95]) rfl ?_
      refine lf_callI 76 rfl rfl rfl rfl (gm_232 h) (fun r39 s38 h => ?_)
      obtain ⟨o40, h⟩ := h
      refine lf_if_lt 129 79 rfl rfl rfl o40 (fun c => ?_) (fun c => ?_)
      · have h := h.1 c
        refine lf_seg 1 (pc' := 130) (lv' := [(0, .ref 95), (1, .int (Int32.ofInt x1))]) (st' := [.ref 95]) rfl ?_
        refine lf_getI 133 9 rfl rfl rfl rfl rfl rfl rfl ?_
        refine lf_bipush 135 40 rfl rfl (by decide) (by decide) ?_
        obtain ⟨o41, h⟩ := h
        refine lf_icmp_ne 145 138 rfl rfl rfl o41 ⟨by decide, by decide⟩ (fun c => ?_) (fun c => ?_)
        · have h := h.1 c
          refine lf_seg 1 (pc' := 146) (lv' := [(0, .ref 95), (1, .int (Int32.ofInt x1))]) (st' := [.ref 95]) rfl ?_
          refine lf_getI 149 9 rfl rfl rfl rfl rfl rfl rfl ?_
          refine lf_bipush 151 45 rfl rfl (by decide) (by decide) ?_
          refine lf_icmp_ne 160 154 rfl rfl rfl o41 ⟨by decide, by decide⟩ (fun c => ?_) (fun c => ?_)
          · have h := h.1 c
            refine lf_seg 1 (pc' := 161) (lv' := [(0, .ref 95), (1, .int (Int32.ofInt x1))]) (st' := [.ref 95]) rfl ?_
            refine lf_bipush 163 105 rfl rfl (by decide) (by decide) ?_
            refine lf_bipush 165 102 rfl rfl (by decide) (by decide) ?_
            refine lf_callL 168 rfl rfl rfl rfl (gm_206 h) (fun r43 s42 h => ?_)
            refine lf_wtL ?_
            refine lf_callZ 171 rfl rfl rfl rfl (gm_207 h) (fun z45 s44 h => ?_)
            refine lf_ifz_eq 181 174 rfl rfl rfl (fun c => ?_) (fun c => ?_)
            · have h := h.1 c
              refine lf_seg 1 (pc' := 182) (lv' := [(0, .ref 95), (1, .int (Int32.ofInt x1))]) (st' := [.ref 95]) rfl ?_
              refine lf_bipush 184 108 rfl rfl (by decide) (by decide) ?_
              refine lf_bipush 186 101 rfl rfl (by decide) (by decide) ?_
              refine lf_bipush 188 116 rfl rfl (by decide) (by decide) ?_
              refine lf_callL 191 rfl rfl rfl rfl (gm_205 h) (fun r47 s46 h => ?_)
              refine lf_wtL ?_
              refine lf_callZ 194 rfl rfl rfl rfl (gm_207 h) (fun z49 s48 h => ?_)
              refine lf_ifz_eq 204 197 rfl rfl rfl (fun c => ?_) (fun c => ?_)
              · have h := h.1 c
                refine lf_seg 1 (pc' := 205) (lv' := [(0, .ref 95), (1, .int (Int32.ofInt x1))]) (st' := [.ref 95]) rfl ?_
                refine lf_bipush 207 110 rfl rfl (by decide) (by decide) ?_
                refine lf_bipush 209 111 rfl rfl (by decide) (by decide) ?_
                refine lf_bipush 211 116 rfl rfl (by decide) (by decide) ?_
                refine lf_callL 214 rfl rfl rfl rfl (gm_205 h) (fun r51 s50 h => ?_)
                refine lf_wtL ?_
                refine lf_callZ 217 rfl rfl rfl rfl (gm_207 h) (fun z53 s52 h => ?_)
                refine lf_ifz_eq 236 220 rfl rfl rfl (fun c => ?_) (fun c => ?_)
                · have h := h.1 c
                  refine lf_seg 1 (pc' := 237) (lv' := [(0, .ref 95), (1, .int (Int32.ofInt x1))]) (st' := [.int (Int32.ofInt 1)]) rfl ?_
                  exact lf_retI rfl rfl h
                · have h := h.2 c
                  refine lf_seg 1 (pc' := 221) (lv' := [(0, .ref 95), (1, .int (Int32.ofInt x1))]) (st' := [.ref 95]) rfl ?_
                  refine lf_callZ 224 rfl rfl rfl rfl (gm_235 h) (fun z55 s54 h => ?_)
                  refine lf_ifz_eq 236 227 rfl rfl rfl (fun c => ?_) (fun c => ?_)
                  · have h := h.1 c
                    refine lf_seg 1 (pc' := 237) (lv' := [(0, .ref 95), (1, .int (Int32.ofInt x1))]) (st' := [.int (Int32.ofInt 1)]) rfl ?_
                    exact lf_retI rfl rfl h
                  · have h := h.2 c
                    refine lf_seg 1 (pc' := 228) (lv' := [(0, .ref 95), (1, .int (Int32.ofInt x1))]) (st' := [.ref 95]) rfl ?_
                    refine lf_bipush 230 20 rfl rfl (by decide) (by decide) ?_
                    refine lf_callI 233 rfl rfl rfl rfl (gm_234 h) (fun r57 s56 h => ?_)
                    refine lf_seg 1 (pc' := 237) (lv' := [(0, .ref 95), (1, .int (Int32.ofInt x1))]) (st' := [.int (Int32.ofInt r57)]) rfl ?_
                    exact lf_retI rfl rfl h
              · have h := h.2 c
                refine lf_seg 1 (pc' := 198) (lv' := [(0, .ref 95), (1, .int (Int32.ofInt x1))]) (st' := [.ref 95]) rfl ?_
                refine lf_bipush 200 44 rfl rfl (by decide) (by decide) ?_
                refine lf_callI 203 rfl rfl rfl rfl (gm_234 h) (fun r59 s58 h => ?_)
                exact lf_retI rfl rfl h
            · have h := h.2 c
              refine lf_seg 1 (pc' := 175) (lv' := [(0, .ref 95), (1, .int (Int32.ofInt x1))]) (st' := [.ref 95]) rfl ?_
              refine lf_bipush 177 41 rfl rfl (by decide) (by decide) ?_
              refine lf_callI 180 rfl rfl rfl rfl (gm_234 h) (fun r61 s60 h => ?_)
              exact lf_retI rfl rfl h
          · have h := h.2 c
            refine lf_seg 2 (pc' := 156) (lv' := [(0, .ref 95), (1, .int (Int32.ofInt x1))]) (st' := [.int (Int32.ofInt 3), .ref 95]) rfl ?_
            refine lf_callI 159 rfl rfl rfl rfl (gm_234 h) (fun r63 s62 h => ?_)
            exact lf_retI rfl rfl h
        · have h := h.2 c
          refine lf_seg 1 (pc' := 139) (lv' := [(0, .ref 95), (1, .int (Int32.ofInt x1))]) (st' := [.ref 95]) rfl ?_
          refine lf_bipush 141 40 rfl rfl (by decide) (by decide) ?_
          refine lf_callI 144 rfl rfl rfl rfl (gm_234 h) (fun r65 s64 h => ?_)
          exact lf_retI rfl rfl h
      · have h := h.2 c
        refine lf_sub (l := [(0, .ref 95), (1, .int (Int32.ofInt x1))]) (lf_sb1 rfl (lf_sb1 rfl lf_sb0)) ?_
        exact gm_229_p79 h
def fm_229_p39 (Q : Int → lf_Z → Prop) (x1 : Int) (s : lf_Z) : Prop := fm_232 (fun r26 s25 => (lf_R r26 ∧ ((r26 < 0 → (fm_229_p60 Q x1 s25)) ∧ (¬ (r26 < 0) → (fm_232 (fun r67 s66 => ((0 ≤ r67 ∧ r67 < 26) ∧ (lf_R (s66.1 103 r67) ∧ ((0 ≤ s66.1 103 r67 → (fm_229_p60 Q x1 s66)) ∧ (¬ (0 ≤ s66.1 103 r67) → (Q 5 s66)))))) s25))))) s
set_option maxRecDepth 100000 in
theorem gm_229_p39 {L : Nat} {xs : Nat → Int32} {d : Nat} {Q : Int → lf_Z → Prop} {x1 : Int} {s : lf_Z} (h : fm_229_p39 Q x1 s) : lf_E (px_ro L xs) (d + 7) 229 39 [(0, .ref 95), (1, .int (Int32.ofInt x1))] [] s (lf_qi Q) := by
  unfold fm_229_p39 at h
  refine lf_seg 1 (pc' := 40) (lv' := [(0, .ref 95), (1, .int (Int32.ofInt x1))]) (st' := [.ref 95]) rfl ?_
  refine lf_callI 43 rfl rfl rfl rfl (gm_232 h) (fun r26 s25 h => ?_)
  obtain ⟨o27, h⟩ := h
  refine lf_if_lt 60 46 rfl rfl rfl o27 (fun c => ?_) (fun c => ?_)
  · have h := h.1 c
    refine lf_sub (l := [(0, .ref 95), (1, .int (Int32.ofInt x1))]) (lf_sb1 rfl (lf_sb1 rfl lf_sb0)) ?_
    exact gm_229_p60 h
  · have h := h.2 c
    refine lf_seg 3 (pc' := 51) (lv' := [(0, .ref 95), (1, .int (Int32.ofInt x1))]) (st' := [.ref 95, .ref 103]) rfl ?_
    refine lf_callI 54 rfl rfl rfl rfl (gm_232 h) (fun r67 s66 h => ?_)
    obtain ⟨o68, h⟩ := h
    refine lf_iald 55 26 rfl rfl rfl rfl rfl rfl o68 ?_
    obtain ⟨o69, h⟩ := h
    refine lf_if_ge 60 58 rfl rfl rfl o69 (fun c => ?_) (fun c => ?_)
    · have h := h.1 c
      refine lf_sub (l := [(0, .ref 95), (1, .int (Int32.ofInt x1))]) (lf_sb1 rfl (lf_sb1 rfl lf_sb0)) ?_
      exact gm_229_p60 h
    · have h := h.2 c
      refine lf_seg 1 (pc' := 59) (lv' := [(0, .ref 95), (1, .int (Int32.ofInt x1))]) (st' := [.int (Int32.ofInt 5)]) rfl ?_
      exact lf_retI rfl rfl h
def fm_229_p20 (Q : Int → lf_Z → Prop) (s : lf_Z) : Prop := fm_230 (fun r23 s22 => (lf_R r23 ∧ ((r23 < 0 → (fm_229_p39 Q r23 s22)) ∧ (¬ (r23 < 0) → (fm_231 r23 (fun z71 s70 => ((z71 = true → (fm_229_p39 Q r23 s70)) ∧ (z71 = false → (Q 5 s70)))) s22))))) s
set_option maxRecDepth 100000 in
theorem gm_229_p20 {L : Nat} {xs : Nat → Int32} {d : Nat} {Q : Int → lf_Z → Prop} {s : lf_Z} (h : fm_229_p20 Q s) : lf_E (px_ro L xs) (d + 7) 229 20 [(0, .ref 95)] [] s (lf_qi Q) := by
  unfold fm_229_p20 at h
  refine lf_seg 1 (pc' := 21) (lv' := [(0, .ref 95)]) (st' := [.ref 95]) rfl ?_
  refine lf_callI 24 rfl rfl rfl rfl (gm_230 h) (fun r23 s22 h => ?_)
  refine lf_seg 2 (pc' := 26) (lv' := [(1, .int (Int32.ofInt r23)), (0, .ref 95)]) (st' := [.int (Int32.ofInt r23)]) rfl ?_
  obtain ⟨o24, h⟩ := h
  refine lf_if_lt 39 29 rfl rfl rfl o24 (fun c => ?_) (fun c => ?_)
  · have h := h.1 c
    refine lf_sub (l := [(0, .ref 95), (1, .int (Int32.ofInt r23))]) (lf_sb1 rfl (lf_sb1 rfl lf_sb0)) ?_
    exact gm_229_p39 h
  · have h := h.2 c
    refine lf_seg 2 (pc' := 31) (lv' := [(1, .int (Int32.ofInt r23)), (0, .ref 95)]) (st' := [.int (Int32.ofInt r23), .ref 95]) rfl ?_
    refine lf_callZ 34 rfl rfl rfl rfl (gm_231 h) (fun z71 s70 h => ?_)
    refine lf_ifz_ne 39 37 rfl rfl rfl (fun c => ?_) (fun c => ?_)
    · have h := h.1 c
      refine lf_sub (l := [(0, .ref 95), (1, .int (Int32.ofInt r23))]) (lf_sb1 rfl (lf_sb1 rfl lf_sb0)) ?_
      exact gm_229_p39 h
    · have h := h.2 c
      refine lf_seg 1 (pc' := 38) (lv' := [(1, .int (Int32.ofInt r23)), (0, .ref 95)]) (st' := [.int (Int32.ofInt 5)]) rfl ?_
      exact lf_retI rfl rfl h
def fm_229 (Q : Int → lf_Z → Prop) (s : lf_Z) : Prop := lf_R (s.1 95 9) ∧ ((s.1 95 9 ≠ 1 → (fm_229_p20 Q s)) ∧ (¬ (s.1 95 9 ≠ 1) → (lf_R (s.1 95 10) ∧ ((s.1 95 10 ≤ 9999 → (fm_229_p20 Q s)) ∧ (¬ (s.1 95 10 ≤ 9999) → (Q 2 s))))))
set_option maxRecDepth 100000 in
theorem gm_229 {L : Nat} {xs : Nat → Int32} {d : Nat} {Q : Int → lf_Z → Prop} {s : lf_Z} (h : fm_229 Q s) : lf_M (px_ro L xs) (d + 7) 229 [.ref 95] s (lf_qi Q) := by
  unfold fm_229 at h
  show lf_E (px_ro L xs) (d + 7) 229 0 [(0, .ref 95)] [] s _
  refine lf_seg 1 (pc' := 1) (lv' := [(0, .ref 95)]) (st' := [.ref 95]) rfl ?_
  refine lf_getI 4 9 rfl rfl rfl rfl rfl rfl rfl ?_
  refine lf_seg 1 (pc' := 5) (lv' := [(0, .ref 95)]) (st' := [.int (Int32.ofInt 1), .int (Int32.ofInt (s.1 95 9))]) rfl ?_
  obtain ⟨o21, h⟩ := h
  refine lf_icmp_ne 20 8 rfl rfl rfl o21 ⟨by decide, by decide⟩ (fun c => ?_) (fun c => ?_)
  · have h := h.1 c
    refine lf_sub (l := [(0, .ref 95)]) (lf_sb1 rfl lf_sb0) ?_
    exact gm_229_p20 h
  · have h := h.2 c
    refine lf_seg 1 (pc' := 9) (lv' := [(0, .ref 95)]) (st' := [.ref 95]) rfl ?_
    refine lf_getI 12 10 rfl rfl rfl rfl rfl rfl rfl ?_
    refine lf_sipush 15 9999 rfl rfl (by decide) (by decide) ?_
    obtain ⟨o72, h⟩ := h
    refine lf_icmp_le 20 18 rfl rfl rfl o72 ⟨by decide, by decide⟩ (fun c => ?_) (fun c => ?_)
    · have h := h.1 c
      refine lf_sub (l := [(0, .ref 95)]) (lf_sb1 rfl lf_sb0) ?_
      exact gm_229_p20 h
    · have h := h.2 c
      refine lf_seg 1 (pc' := 19) (lv' := [(0, .ref 95)]) (st' := [.int (Int32.ofInt 2)]) rfl ?_
      exact lf_retI rfl rfl h
-- fm_221 Model.isCompared 95
def fm_221_p30 (Q : Bool → lf_Z → Prop) (x1 : Int) (s : lf_Z) : Prop := lf_R x1 ∧ ((x1 < 0 → (Q false s)) ∧ (¬ (x1 < 0) → ((0 ≤ x1 ∧ x1 < 160) ∧ (fm_222 (s.1 100 x1) (fun r25 s24 => (lf_R r25 ∧ ((r25 ≠ 4 → (Q false s24)) ∧ (¬ (r25 ≠ 4) → (Q true s24))))) s))))
set_option maxRecDepth 100000 in
theorem gm_221_p30 {L : Nat} {xs : Nat → Int32} {d : Nat} {Q : Bool → lf_Z → Prop} {x1 : Int} {s : lf_Z} (h : fm_221_p30 Q x1 s) : lf_E (px_ro L xs) (d + 2) 221 30 [(0, .ref 95), (1, .int (Int32.ofInt x1))] [] s (lf_qz Q) := by
  unfold fm_221_p30 at h
  refine lf_seg 1 (pc' := 31) (lv' := [(0, .ref 95), (1, .int (Int32.ofInt x1))]) (st' := [.int (Int32.ofInt x1)]) rfl ?_
  obtain ⟨o22, h⟩ := h
  refine lf_if_lt 51 34 rfl rfl rfl o22 (fun c => ?_) (fun c => ?_)
  · have h := h.1 c
    refine lf_seg 1 (pc' := 52) (lv' := [(0, .ref 95), (1, .int (Int32.ofInt x1))]) (st' := [.int (Int32.ofInt 0)]) rfl ?_
    exact lf_retZ false rfl rfl h
  · have h := h.2 c
    refine lf_seg 3 (pc' := 39) (lv' := [(0, .ref 95), (1, .int (Int32.ofInt x1))]) (st' := [.int (Int32.ofInt x1), .ref 100]) rfl ?_
    obtain ⟨o23, h⟩ := h
    refine lf_iald 40 160 rfl rfl rfl rfl rfl rfl o23 ?_
    refine lf_callI 43 rfl rfl rfl rfl (gm_222 h) (fun r25 s24 h => ?_)
    refine lf_seg 1 (pc' := 44) (lv' := [(0, .ref 95), (1, .int (Int32.ofInt x1))]) (st' := [.int (Int32.ofInt 4), .int (Int32.ofInt r25)]) rfl ?_
    obtain ⟨o26, h⟩ := h
    refine lf_icmp_ne 51 47 rfl rfl rfl o26 ⟨by decide, by decide⟩ (fun c => ?_) (fun c => ?_)
    · have h := h.1 c
      refine lf_seg 1 (pc' := 52) (lv' := [(0, .ref 95), (1, .int (Int32.ofInt x1))]) (st' := [.int (Int32.ofInt 0)]) rfl ?_
      exact lf_retZ false rfl rfl h
    · have h := h.2 c
      refine lf_seg 2 (pc' := 52) (lv' := [(0, .ref 95), (1, .int (Int32.ofInt x1))]) (st' := [.int (Int32.ofInt 1)]) rfl ?_
      exact lf_retZ true rfl rfl h
def fm_221_p7 (Q : Bool → lf_Z → Prop) (X7 : Int → lf_Z → Prop) (x1 : Int) (s : lf_Z) : Prop := lf_R x1 ∧ ((x1 < 0 → (fm_221_p30 Q x1 s)) ∧ (¬ (x1 < 0) → ((0 ≤ x1 ∧ x1 < 160) ∧ (fm_222 (s.1 100 x1) (fun r29 s28 => (lf_R r29 ∧ ((r29 ≤ 4 → (fm_221_p30 Q x1 s28)) ∧ (¬ (r29 ≤ 4) → (X7 (x1 + (-1)) s28))))) s))))
def fm_221_p7L (Q : Bool → lf_Z → Prop) (x1 : Int) (s : lf_Z) : Prop := ∀ X7 : Int → lf_Z → Prop, (∀ (x1 : Int) (s : lf_Z), fm_221_p7 Q X7 x1 s → X7 x1 s) → X7 x1 s
set_option maxRecDepth 100000 in
theorem gm_221_p7 {L : Nat} {xs : Nat → Int32} {d : Nat} {Q : Bool → lf_Z → Prop} {x1 : Int} {s : lf_Z} {X7 : Int → lf_Z → Prop} (hX7 : ∀ x1 s, X7 x1 s → lf_E (px_ro L xs) (d + 2) 221 7 [(0, .ref 95), (1, .int (Int32.ofInt x1))] [] s (lf_qz Q)) (h : fm_221_p7 Q X7 x1 s) : lf_E (px_ro L xs) (d + 2) 221 7 [(0, .ref 95), (1, .int (Int32.ofInt x1))] [] s (lf_qz Q) := by
  unfold fm_221_p7 at h
  refine lf_seg 1 (pc' := 8) (lv' := [(0, .ref 95), (1, .int (Int32.ofInt x1))]) (st' := [.int (Int32.ofInt x1)]) rfl ?_
  obtain ⟨o21, h⟩ := h
  refine lf_if_lt 30 11 rfl rfl rfl o21 (fun c => ?_) (fun c => ?_)
  · have h := h.1 c
    refine lf_sub (l := [(0, .ref 95), (1, .int (Int32.ofInt x1))]) (lf_sb1 rfl (lf_sb1 rfl lf_sb0)) ?_
    exact gm_221_p30 h
  · have h := h.2 c
    refine lf_seg 3 (pc' := 16) (lv' := [(0, .ref 95), (1, .int (Int32.ofInt x1))]) (st' := [.int (Int32.ofInt x1), .ref 100]) rfl ?_
    obtain ⟨o27, h⟩ := h
    refine lf_iald 17 160 rfl rfl rfl rfl rfl rfl o27 ?_
    refine lf_callI 20 rfl rfl rfl rfl (gm_222 h) (fun r29 s28 h => ?_)
    refine lf_seg 1 (pc' := 21) (lv' := [(0, .ref 95), (1, .int (Int32.ofInt x1))]) (st' := [.int (Int32.ofInt 4), .int (Int32.ofInt r29)]) rfl ?_
    obtain ⟨o30, h⟩ := h
    refine lf_icmp_le 30 24 rfl rfl rfl o30 ⟨by decide, by decide⟩ (fun c => ?_) (fun c => ?_)
    · have h := h.1 c
      refine lf_sub (l := [(0, .ref 95), (1, .int (Int32.ofInt x1))]) (lf_sb1 rfl (lf_sb1 rfl lf_sb0)) ?_
      exact gm_221_p30 h
    · have h := h.2 c
      refine lf_iinc 27 rfl rfl rfl rfl ?_
      refine lf_seg 1 (pc' := 7) (lv' := [(1, .int (Int32.ofInt (x1 + (-1)))), (0, .ref 95)]) (st' := []) rfl ?_
      refine lf_sub (l := [(0, .ref 95), (1, .int (Int32.ofInt (x1 + (-1))))]) (lf_sb1 rfl (lf_sb1 rfl lf_sb0)) ?_
      exact hX7 _ _ h
theorem gm_221_p7L {L : Nat} {xs : Nat → Int32} {d : Nat} {Q : Bool → lf_Z → Prop} {x1 : Int} {s : lf_Z} (h : fm_221_p7L Q x1 s) : lf_E (px_ro L xs) (d + 2) 221 7 [(0, .ref 95), (1, .int (Int32.ofInt x1))] [] s (lf_qz Q) :=
  h (fun x1 s => lf_E (px_ro L xs) (d + 2) 221 7 [(0, .ref 95), (1, .int (Int32.ofInt x1))] [] s (lf_qz Q)) (fun x1 s hb => gm_221_p7 (fun _ _ h => h) hb)
def fm_221 (Q : Bool → lf_Z → Prop) (s : lf_Z) : Prop := fm_221_p7L Q ((s.1 95 19) - 1) s
set_option maxRecDepth 100000 in
theorem gm_221 {L : Nat} {xs : Nat → Int32} {d : Nat} {Q : Bool → lf_Z → Prop} {s : lf_Z} (h : fm_221 Q s) : lf_M (px_ro L xs) (d + 2) 221 [.ref 95] s (lf_qz Q) := by
  unfold fm_221 at h
  show lf_E (px_ro L xs) (d + 2) 221 0 [(0, .ref 95)] [] s _
  refine lf_seg 1 (pc' := 1) (lv' := [(0, .ref 95)]) (st' := [.ref 95]) rfl ?_
  refine lf_getI 4 19 rfl rfl rfl rfl rfl rfl rfl ?_
  refine lf_seg 1 (pc' := 5) (lv' := [(0, .ref 95)]) (st' := [.int (Int32.ofInt 1), .int (Int32.ofInt (s.1 95 19))]) rfl ?_
  refine lf_isub 6 rfl rfl ?_
  refine lf_seg 1 (pc' := 7) (lv' := [(1, .int (Int32.ofInt ((s.1 95 19) - 1))), (0, .ref 95)]) (st' := []) rfl ?_
  refine lf_sub (l := [(0, .ref 95), (1, .int (Int32.ofInt ((s.1 95 19) - 1)))]) (lf_sb1 rfl (lf_sb1 rfl lf_sb0)) ?_
  exact gm_221_p7L h
-- fm_223 Model.compareOf 95
def fm_223 (Q : Int → lf_Z → Prop) (s : lf_Z) : Prop := lf_R (s.1 95 9) ∧ ((s.1 95 9 ≠ 60 → ((s.1 95 9 ≠ 4 → ((s.1 95 9 ≠ 62 → ((s.1 95 9 ≠ 5 → ((s.1 95 9 ≠ 61 → ((s.1 95 9 ≠ 35 → (Q (-1) s)) ∧ (¬ (s.1 95 9 ≠ 35) → (Q 15 s)))) ∧ (¬ (s.1 95 9 ≠ 61) → (Q 14 s)))) ∧ (¬ (s.1 95 9 ≠ 5) → (Q 13 s)))) ∧ (¬ (s.1 95 9 ≠ 62) → (Q 12 s)))) ∧ (¬ (s.1 95 9 ≠ 4) → (Q 11 s)))) ∧ (¬ (s.1 95 9 ≠ 60) → (Q 10 s)))
set_option maxRecDepth 100000 in
theorem gm_223 {L : Nat} {xs : Nat → Int32} {d : Nat} {Q : Int → lf_Z → Prop} {s : lf_Z} (h : fm_223 Q s) : lf_M (px_ro L xs) (d + 1) 223 [.ref 95] s (lf_qi Q) := by
  unfold fm_223 at h
  show lf_E (px_ro L xs) (d + 1) 223 0 [(0, .ref 95)] [] s _
  refine lf_seg 1 (pc' := 1) (lv' := [(0, .ref 95)]) (st' := [.ref 95]) rfl ?_
  refine lf_getI 4 9 rfl rfl rfl rfl rfl rfl rfl ?_
  refine lf_bipush 6 60 rfl rfl (by decide) (by decide) ?_
  obtain ⟨o21, h⟩ := h
  refine lf_icmp_ne 14 9 rfl rfl rfl o21 ⟨by decide, by decide⟩ (fun c => ?_) (fun c => ?_)
  · have h := h.1 c
    refine lf_seg 1 (pc' := 15) (lv' := [(0, .ref 95)]) (st' := [.ref 95]) rfl ?_
    refine lf_getI 18 9 rfl rfl rfl rfl rfl rfl rfl ?_
    refine lf_seg 1 (pc' := 19) (lv' := [(0, .ref 95)]) (st' := [.int (Int32.ofInt 4), .int (Int32.ofInt (s.1 95 9))]) rfl ?_
    refine lf_icmp_ne 27 22 rfl rfl rfl o21 ⟨by decide, by decide⟩ (fun c => ?_) (fun c => ?_)
    · have h := h.1 c
      refine lf_seg 1 (pc' := 28) (lv' := [(0, .ref 95)]) (st' := [.ref 95]) rfl ?_
      refine lf_getI 31 9 rfl rfl rfl rfl rfl rfl rfl ?_
      refine lf_bipush 33 62 rfl rfl (by decide) (by decide) ?_
      refine lf_icmp_ne 41 36 rfl rfl rfl o21 ⟨by decide, by decide⟩ (fun c => ?_) (fun c => ?_)
      · have h := h.1 c
        refine lf_seg 1 (pc' := 42) (lv' := [(0, .ref 95)]) (st' := [.ref 95]) rfl ?_
        refine lf_getI 45 9 rfl rfl rfl rfl rfl rfl rfl ?_
        refine lf_seg 1 (pc' := 46) (lv' := [(0, .ref 95)]) (st' := [.int (Int32.ofInt 5), .int (Int32.ofInt (s.1 95 9))]) rfl ?_
        refine lf_icmp_ne 54 49 rfl rfl rfl o21 ⟨by decide, by decide⟩ (fun c => ?_) (fun c => ?_)
        · have h := h.1 c
          refine lf_seg 1 (pc' := 55) (lv' := [(0, .ref 95)]) (st' := [.ref 95]) rfl ?_
          refine lf_getI 58 9 rfl rfl rfl rfl rfl rfl rfl ?_
          refine lf_bipush 60 61 rfl rfl (by decide) (by decide) ?_
          refine lf_icmp_ne 68 63 rfl rfl rfl o21 ⟨by decide, by decide⟩ (fun c => ?_) (fun c => ?_)
          · have h := h.1 c
            refine lf_seg 1 (pc' := 69) (lv' := [(0, .ref 95)]) (st' := [.ref 95]) rfl ?_
            refine lf_getI 72 9 rfl rfl rfl rfl rfl rfl rfl ?_
            refine lf_bipush 74 35 rfl rfl (by decide) (by decide) ?_
            refine lf_icmp_ne 82 77 rfl rfl rfl o21 ⟨by decide, by decide⟩ (fun c => ?_) (fun c => ?_)
            · have h := h.1 c
              refine lf_seg 1 (pc' := 83) (lv' := [(0, .ref 95)]) (st' := [.int (Int32.ofInt (-1))]) rfl ?_
              exact lf_retI rfl rfl h
            · have h := h.2 c
              refine lf_bipush 79 15 rfl rfl (by decide) (by decide) ?_
              refine lf_seg 1 (pc' := 83) (lv' := [(0, .ref 95)]) (st' := [.int (Int32.ofInt 15)]) rfl ?_
              exact lf_retI rfl rfl h
          · have h := h.2 c
            refine lf_bipush 65 14 rfl rfl (by decide) (by decide) ?_
            refine lf_seg 1 (pc' := 83) (lv' := [(0, .ref 95)]) (st' := [.int (Int32.ofInt 14)]) rfl ?_
            exact lf_retI rfl rfl h
        · have h := h.2 c
          refine lf_bipush 51 13 rfl rfl (by decide) (by decide) ?_
          refine lf_seg 1 (pc' := 83) (lv' := [(0, .ref 95)]) (st' := [.int (Int32.ofInt 13)]) rfl ?_
          exact lf_retI rfl rfl h
      · have h := h.2 c
        refine lf_bipush 38 12 rfl rfl (by decide) (by decide) ?_
        refine lf_seg 1 (pc' := 83) (lv' := [(0, .ref 95)]) (st' := [.int (Int32.ofInt 12)]) rfl ?_
        exact lf_retI rfl rfl h
    · have h := h.2 c
      refine lf_bipush 24 11 rfl rfl (by decide) (by decide) ?_
      refine lf_seg 1 (pc' := 83) (lv' := [(0, .ref 95)]) (st' := [.int (Int32.ofInt 11)]) rfl ?_
      exact lf_retI rfl rfl h
  · have h := h.2 c
    refine lf_bipush 11 10 rfl rfl (by decide) (by decide) ?_
    refine lf_seg 1 (pc' := 83) (lv' := [(0, .ref 95)]) (st' := [.int (Int32.ofInt 10)]) rfl ?_
    exact lf_retI rfl rfl h
-- fm_218 Model.betweenOf 95
def fm_218 (Q : Int → lf_Z → Prop) (s : lf_Z) : Prop := lf_R (s.1 95 9) ∧ ((s.1 95 9 ≠ 43 → ((s.1 95 9 ≠ 45 → ((s.1 95 9 ≠ 42 → ((s.1 95 9 ≠ 47 → (fm_219 (fun r23 s22 => (lf_R r23 ∧ ((r23 = 41 → (fm_221 (fun z26 s25 => ((z26 = true → (fm_205 97 110 100 (fun r28 s27 => (fm_207 (lf_wl r28) (fun z30 s29 => ((z30 = false → (fm_206 111 114 (fun r32 s31 => (fm_207 (lf_wl r32) (fun z34 s33 => ((z34 = false → (Q (-1) s33)) ∧ (z34 = true → (Q 22 s33)))) s31)) s29)) ∧ (z30 = true → (Q 21 s29)))) s27)) s25)) ∧ (z26 = false → (fm_223 (fun r36 s35 => (Q r36 s35)) s25)))) s22)) ∧ (¬ (r23 = 41) → (Q (-1) s22))))) s)) ∧ (¬ (s.1 95 9 ≠ 47) → (Q 7 s)))) ∧ (¬ (s.1 95 9 ≠ 42) → (Q 6 s)))) ∧ (¬ (s.1 95 9 ≠ 45) → (Q 5 s)))) ∧ (¬ (s.1 95 9 ≠ 43) → (Q 4 s)))
set_option maxRecDepth 100000 in
theorem gm_218 {L : Nat} {xs : Nat → Int32} {d : Nat} {Q : Int → lf_Z → Prop} {s : lf_Z} (h : fm_218 Q s) : lf_M (px_ro L xs) (d + 3) 218 [.ref 95] s (lf_qi Q) := by
  unfold fm_218 at h
  show lf_E (px_ro L xs) (d + 3) 218 0 [(0, .ref 95)] [] s _
  refine lf_seg 1 (pc' := 1) (lv' := [(0, .ref 95)]) (st' := [.ref 95]) rfl ?_
  refine lf_getI 4 9 rfl rfl rfl rfl rfl rfl rfl ?_
  refine lf_bipush 6 43 rfl rfl (by decide) (by decide) ?_
  obtain ⟨o21, h⟩ := h
  refine lf_icmp_ne 11 9 rfl rfl rfl o21 ⟨by decide, by decide⟩ (fun c => ?_) (fun c => ?_)
  · have h := h.1 c
    refine lf_seg 1 (pc' := 12) (lv' := [(0, .ref 95)]) (st' := [.ref 95]) rfl ?_
    refine lf_getI 15 9 rfl rfl rfl rfl rfl rfl rfl ?_
    refine lf_bipush 17 45 rfl rfl (by decide) (by decide) ?_
    refine lf_icmp_ne 22 20 rfl rfl rfl o21 ⟨by decide, by decide⟩ (fun c => ?_) (fun c => ?_)
    · have h := h.1 c
      refine lf_seg 1 (pc' := 23) (lv' := [(0, .ref 95)]) (st' := [.ref 95]) rfl ?_
      refine lf_getI 26 9 rfl rfl rfl rfl rfl rfl rfl ?_
      refine lf_bipush 28 42 rfl rfl (by decide) (by decide) ?_
      refine lf_icmp_ne 34 31 rfl rfl rfl o21 ⟨by decide, by decide⟩ (fun c => ?_) (fun c => ?_)
      · have h := h.1 c
        refine lf_seg 1 (pc' := 35) (lv' := [(0, .ref 95)]) (st' := [.ref 95]) rfl ?_
        refine lf_getI 38 9 rfl rfl rfl rfl rfl rfl rfl ?_
        refine lf_bipush 40 47 rfl rfl (by decide) (by decide) ?_
        refine lf_icmp_ne 46 43 rfl rfl rfl o21 ⟨by decide, by decide⟩ (fun c => ?_) (fun c => ?_)
        · have h := h.1 c
          refine lf_seg 1 (pc' := 47) (lv' := [(0, .ref 95)]) (st' := [.ref 95]) rfl ?_
          refine lf_callI 50 rfl rfl rfl rfl (gm_219 h) (fun r23 s22 h => ?_)
          refine lf_bipush 52 41 rfl rfl (by decide) (by decide) ?_
          obtain ⟨o24, h⟩ := h
          refine lf_icmp_eq 57 55 rfl rfl rfl o24 ⟨by decide, by decide⟩ (fun c => ?_) (fun c => ?_)
          · have h := h.1 c
            refine lf_seg 1 (pc' := 58) (lv' := [(0, .ref 95)]) (st' := [.ref 95]) rfl ?_
            refine lf_callZ 61 rfl rfl rfl rfl (gm_221 h) (fun z26 s25 h => ?_)
            refine lf_ifz_ne 69 64 rfl rfl rfl (fun c => ?_) (fun c => ?_)
            · have h := h.1 c
              refine lf_seg 1 (pc' := 70) (lv' := [(0, .ref 95)]) (st' := [.ref 95]) rfl ?_
              refine lf_bipush 72 97 rfl rfl (by decide) (by decide) ?_
              refine lf_bipush 74 110 rfl rfl (by decide) (by decide) ?_
              refine lf_bipush 76 100 rfl rfl (by decide) (by decide) ?_
              refine lf_callL 79 rfl rfl rfl rfl (gm_205 h) (fun r28 s27 h => ?_)
              refine lf_wtL ?_
              refine lf_callZ 82 rfl rfl rfl rfl (gm_207 h) (fun z30 s29 h => ?_)
              refine lf_ifz_eq 90 85 rfl rfl rfl (fun c => ?_) (fun c => ?_)
              · have h := h.1 c
                refine lf_seg 1 (pc' := 91) (lv' := [(0, .ref 95)]) (st' := [.ref 95]) rfl ?_
                refine lf_bipush 93 111 rfl rfl (by decide) (by decide) ?_
                refine lf_bipush 95 114 rfl rfl (by decide) (by decide) ?_
                refine lf_callL 98 rfl rfl rfl rfl (gm_206 h) (fun r32 s31 h => ?_)
                refine lf_wtL ?_
                refine lf_callZ 101 rfl rfl rfl rfl (gm_207 h) (fun z34 s33 h => ?_)
                refine lf_ifz_eq 109 104 rfl rfl rfl (fun c => ?_) (fun c => ?_)
                · have h := h.1 c
                  refine lf_seg 1 (pc' := 110) (lv' := [(0, .ref 95)]) (st' := [.int (Int32.ofInt (-1))]) rfl ?_
                  exact lf_retI rfl rfl h
                · have h := h.2 c
                  refine lf_bipush 106 22 rfl rfl (by decide) (by decide) ?_
                  refine lf_seg 1 (pc' := 110) (lv' := [(0, .ref 95)]) (st' := [.int (Int32.ofInt 22)]) rfl ?_
                  exact lf_retI rfl rfl h
              · have h := h.2 c
                refine lf_bipush 87 21 rfl rfl (by decide) (by decide) ?_
                refine lf_seg 1 (pc' := 110) (lv' := [(0, .ref 95)]) (st' := [.int (Int32.ofInt 21)]) rfl ?_
                exact lf_retI rfl rfl h
            · have h := h.2 c
              refine lf_seg 1 (pc' := 65) (lv' := [(0, .ref 95)]) (st' := [.ref 95]) rfl ?_
              refine lf_callI 68 rfl rfl rfl rfl (gm_223 h) (fun r36 s35 h => ?_)
              exact lf_retI rfl rfl h
          · have h := h.2 c
            refine lf_seg 1 (pc' := 56) (lv' := [(0, .ref 95)]) (st' := [.int (Int32.ofInt (-1))]) rfl ?_
            exact lf_retI rfl rfl h
        · have h := h.2 c
          refine lf_bipush 45 7 rfl rfl (by decide) (by decide) ?_
          exact lf_retI rfl rfl h
      · have h := h.2 c
        refine lf_bipush 33 6 rfl rfl (by decide) (by decide) ?_
        exact lf_retI rfl rfl h
    · have h := h.2 c
      refine lf_seg 1 (pc' := 21) (lv' := [(0, .ref 95)]) (st' := [.int (Int32.ofInt 5)]) rfl ?_
      exact lf_retI rfl rfl h
  · have h := h.2 c
    refine lf_seg 1 (pc' := 10) (lv' := [(0, .ref 95)]) (st' := [.int (Int32.ofInt 4)]) rfl ?_
    exact lf_retI rfl rfl h
-- fm_226 Model.partOf 95 i
def fm_226 (a1 : Int) (Q : Int → lf_Z → Prop) (s : lf_Z) : Prop := lf_R a1 ∧ ((a1 ≠ (-1) ∧ a1 ≠ 40 ∧ a1 ≠ 41 ∧ a1 ≠ 42 ∧ a1 ≠ 44 → (fm_205 101 110 100 (fun r23 s22 => (fm_207 (lf_wl r23) (fun z25 s24 => ((z25 = false → (Q (-1) s24)) ∧ (z25 = true → (Q 0 s24)))) s22)) s)) ∧ (a1 = (-1) → (Q (-1) s)) ∧ (a1 = 40 → (lf_R (s.1 95 9) ∧ ((s.1 95 9 ≠ 41 → (Q (-1) s)) ∧ (¬ (s.1 95 9 ≠ 41) → (Q 0 s))))) ∧ (a1 = 41 → (fm_204 116 104 101 110 (fun r28 s27 => (fm_207 (lf_wl r28) (fun z30 s29 => ((z30 = false → (Q (-1) s29)) ∧ (z30 = true → (fm_221 (fun z32 s31 => ((z32 = false → (Q (-1) s31)) ∧ (z32 = true → (Q 42 s31)))) s29)))) s27)) s)) ∧ (a1 = 42 → (fm_204 101 108 115 101 (fun r34 s33 => (fm_207 (lf_wl r34) (fun z36 s35 => ((z36 = false → (Q (-1) s35)) ∧ (z36 = true → (Q 43 s35)))) s33)) s)) ∧ (a1 = 44 → (fm_206 105 110 (fun r38 s37 => (fm_207 (lf_wl r38) (fun z40 s39 => ((z40 = false → (Q (-1) s39)) ∧ (z40 = true → (Q 45 s39)))) s37)) s)))
set_option maxRecDepth 100000 in
theorem gm_226 {L : Nat} {xs : Nat → Int32} {d : Nat} {a1 : Int} {Q : Int → lf_Z → Prop} {s : lf_Z} (h : fm_226 a1 Q s) : lf_M (px_ro L xs) (d + 4) 226 [.ref 95, .int (Int32.ofInt a1)] s (lf_qi Q) := by
  unfold fm_226 at h
  show lf_E (px_ro L xs) (d + 4) 226 0 [(0, .ref 95), (1, .int (Int32.ofInt a1))] [] s _
  refine lf_seg 1 (pc' := 1) (lv' := [(0, .ref 95), (1, .int (Int32.ofInt a1))]) (st' := [.int (Int32.ofInt a1)]) rfl ?_
  obtain ⟨o21, h⟩ := h
  refine lf_lsw 147 [((-1), 145), (40, 52), (41, 67), (42, 99), (44, 124)] rfl rfl (by decide) (by decide) (by decide) o21 (fun c => ?_) (lf_tab1 (fun c => ?_) (lf_tab1 (fun c => ?_) (lf_tab1 (fun c => ?_) (lf_tab1 (fun c => ?_) (lf_tab1 (fun c => ?_) lf_tab0)))))
  · have h := h.1 c
    refine lf_seg 1 (pc' := 148) (lv' := [(0, .ref 95), (1, .int (Int32.ofInt a1))]) (st' := [.ref 95]) rfl ?_
    refine lf_bipush 150 101 rfl rfl (by decide) (by decide) ?_
    refine lf_bipush 152 110 rfl rfl (by decide) (by decide) ?_
    refine lf_bipush 154 100 rfl rfl (by decide) (by decide) ?_
    refine lf_callL 157 rfl rfl rfl rfl (gm_205 h) (fun r23 s22 h => ?_)
    refine lf_wtL ?_
    refine lf_callZ 160 rfl rfl rfl rfl (gm_207 h) (fun z25 s24 h => ?_)
    refine lf_ifz_eq 167 163 rfl rfl rfl (fun c => ?_) (fun c => ?_)
    · have h := h.1 c
      refine lf_seg 1 (pc' := 168) (lv' := [(0, .ref 95), (1, .int (Int32.ofInt a1))]) (st' := [.int (Int32.ofInt (-1))]) rfl ?_
      exact lf_retI rfl rfl h
    · have h := h.2 c
      refine lf_seg 2 (pc' := 168) (lv' := [(0, .ref 95), (1, .int (Int32.ofInt a1))]) (st' := [.int (Int32.ofInt 0)]) rfl ?_
      exact lf_retI rfl rfl h
  · have h := h.2.1 c
    refine lf_seg 1 (pc' := 146) (lv' := [(0, .ref 95), (1, .int (Int32.ofInt a1))]) (st' := [.int (Int32.ofInt (-1))]) rfl ?_
    exact lf_retI rfl rfl h
  · have h := h.2.2.1 c
    refine lf_seg 1 (pc' := 53) (lv' := [(0, .ref 95), (1, .int (Int32.ofInt a1))]) (st' := [.ref 95]) rfl ?_
    refine lf_getI 56 9 rfl rfl rfl rfl rfl rfl rfl ?_
    refine lf_bipush 58 41 rfl rfl (by decide) (by decide) ?_
    obtain ⟨o26, h⟩ := h
    refine lf_icmp_ne 65 61 rfl rfl rfl o26 ⟨by decide, by decide⟩ (fun c => ?_) (fun c => ?_)
    · have h := h.1 c
      refine lf_seg 1 (pc' := 66) (lv' := [(0, .ref 95), (1, .int (Int32.ofInt a1))]) (st' := [.int (Int32.ofInt (-1))]) rfl ?_
      exact lf_retI rfl rfl h
    · have h := h.2 c
      refine lf_seg 2 (pc' := 66) (lv' := [(0, .ref 95), (1, .int (Int32.ofInt a1))]) (st' := [.int (Int32.ofInt 0)]) rfl ?_
      exact lf_retI rfl rfl h
  · have h := h.2.2.2.1 c
    refine lf_seg 1 (pc' := 68) (lv' := [(0, .ref 95), (1, .int (Int32.ofInt a1))]) (st' := [.ref 95]) rfl ?_
    refine lf_bipush 70 116 rfl rfl (by decide) (by decide) ?_
    refine lf_bipush 72 104 rfl rfl (by decide) (by decide) ?_
    refine lf_bipush 74 101 rfl rfl (by decide) (by decide) ?_
    refine lf_bipush 76 110 rfl rfl (by decide) (by decide) ?_
    refine lf_callL 79 rfl rfl rfl rfl (gm_204 h) (fun r28 s27 h => ?_)
    refine lf_wtL ?_
    refine lf_callZ 82 rfl rfl rfl rfl (gm_207 h) (fun z30 s29 h => ?_)
    refine lf_ifz_eq 97 85 rfl rfl rfl (fun c => ?_) (fun c => ?_)
    · have h := h.1 c
      refine lf_seg 1 (pc' := 98) (lv' := [(0, .ref 95), (1, .int (Int32.ofInt a1))]) (st' := [.int (Int32.ofInt (-1))]) rfl ?_
      exact lf_retI rfl rfl h
    · have h := h.2 c
      refine lf_seg 1 (pc' := 86) (lv' := [(0, .ref 95), (1, .int (Int32.ofInt a1))]) (st' := [.ref 95]) rfl ?_
      refine lf_callZ 89 rfl rfl rfl rfl (gm_221 h) (fun z32 s31 h => ?_)
      refine lf_ifz_eq 97 92 rfl rfl rfl (fun c => ?_) (fun c => ?_)
      · have h := h.1 c
        refine lf_seg 1 (pc' := 98) (lv' := [(0, .ref 95), (1, .int (Int32.ofInt a1))]) (st' := [.int (Int32.ofInt (-1))]) rfl ?_
        exact lf_retI rfl rfl h
      · have h := h.2 c
        refine lf_bipush 94 42 rfl rfl (by decide) (by decide) ?_
        refine lf_seg 1 (pc' := 98) (lv' := [(0, .ref 95), (1, .int (Int32.ofInt a1))]) (st' := [.int (Int32.ofInt 42)]) rfl ?_
        exact lf_retI rfl rfl h
  · have h := h.2.2.2.2.1 c
    refine lf_seg 1 (pc' := 100) (lv' := [(0, .ref 95), (1, .int (Int32.ofInt a1))]) (st' := [.ref 95]) rfl ?_
    refine lf_bipush 102 101 rfl rfl (by decide) (by decide) ?_
    refine lf_bipush 104 108 rfl rfl (by decide) (by decide) ?_
    refine lf_bipush 106 115 rfl rfl (by decide) (by decide) ?_
    refine lf_bipush 108 101 rfl rfl (by decide) (by decide) ?_
    refine lf_callL 111 rfl rfl rfl rfl (gm_204 h) (fun r34 s33 h => ?_)
    refine lf_wtL ?_
    refine lf_callZ 114 rfl rfl rfl rfl (gm_207 h) (fun z36 s35 h => ?_)
    refine lf_ifz_eq 122 117 rfl rfl rfl (fun c => ?_) (fun c => ?_)
    · have h := h.1 c
      refine lf_seg 1 (pc' := 123) (lv' := [(0, .ref 95), (1, .int (Int32.ofInt a1))]) (st' := [.int (Int32.ofInt (-1))]) rfl ?_
      exact lf_retI rfl rfl h
    · have h := h.2 c
      refine lf_bipush 119 43 rfl rfl (by decide) (by decide) ?_
      refine lf_seg 1 (pc' := 123) (lv' := [(0, .ref 95), (1, .int (Int32.ofInt a1))]) (st' := [.int (Int32.ofInt 43)]) rfl ?_
      exact lf_retI rfl rfl h
  · have h := h.2.2.2.2.2 c
    refine lf_seg 1 (pc' := 125) (lv' := [(0, .ref 95), (1, .int (Int32.ofInt a1))]) (st' := [.ref 95]) rfl ?_
    refine lf_bipush 127 105 rfl rfl (by decide) (by decide) ?_
    refine lf_bipush 129 110 rfl rfl (by decide) (by decide) ?_
    refine lf_callL 132 rfl rfl rfl rfl (gm_206 h) (fun r38 s37 h => ?_)
    refine lf_wtL ?_
    refine lf_callZ 135 rfl rfl rfl rfl (gm_207 h) (fun z40 s39 h => ?_)
    refine lf_ifz_eq 143 138 rfl rfl rfl (fun c => ?_) (fun c => ?_)
    · have h := h.1 c
      refine lf_seg 1 (pc' := 144) (lv' := [(0, .ref 95), (1, .int (Int32.ofInt a1))]) (st' := [.int (Int32.ofInt (-1))]) rfl ?_
      exact lf_retI rfl rfl h
    · have h := h.2 c
      refine lf_bipush 140 45 rfl rfl (by decide) (by decide) ?_
      refine lf_seg 1 (pc' := 144) (lv' := [(0, .ref 95), (1, .int (Int32.ofInt a1))]) (st' := [.int (Int32.ofInt 45)]) rfl ?_
      exact lf_retI rfl rfl h
-- fm_228 Model.shut 95 i
def fm_228_p32 (Q : lf_Z → Prop) (x1 : Int) (s : lf_Z) : Prop := lf_R x1 ∧ ((x1 ≠ 45 → (Q s)) ∧ (¬ (x1 ≠ 45) → ((0 ≤ (s.1 95 21) - 1 ∧ (s.1 95 21) - 1 < 10) ∧ ((0 ≤ s.1 101 ((s.1 95 21) - 1) ∧ s.1 101 ((s.1 95 21) - 1) < 26) ∧ (Q (lf_up (lf_up s.1 95 21 ((s.1 95 21) - 1)) 103 (s.1 101 ((s.1 95 21) - 1)) (s.1 102 ((s.1 95 21) - 1)), s.2.1, s.2.2))))))
set_option maxRecDepth 100000 in
theorem gm_228_p32 {L : Nat} {xs : Nat → Int32} {d : Nat} {Q : lf_Z → Prop} {x1 : Int} {s : lf_Z} (h : fm_228_p32 Q x1 s) : lf_E (px_ro L xs) (d + 2) 228 32 [(0, .ref 95), (1, .int (Int32.ofInt x1))] [] s (lf_qv Q) := by
  unfold fm_228_p32 at h
  refine lf_seg 1 (pc' := 33) (lv' := [(0, .ref 95), (1, .int (Int32.ofInt x1))]) (st' := [.int (Int32.ofInt x1)]) rfl ?_
  refine lf_bipush 35 45 rfl rfl (by decide) (by decide) ?_
  obtain ⟨o22, h⟩ := h
  refine lf_icmp_ne 71 38 rfl rfl rfl o22 ⟨by decide, by decide⟩ (fun c => ?_) (fun c => ?_)
  · have h := h.1 c
    exact lf_retV rfl rfl h
  · have h := h.2 c
    refine lf_seg 2 (pc' := 40) (lv' := [(0, .ref 95), (1, .int (Int32.ofInt x1))]) (st' := [.ref 95, .ref 95]) rfl ?_
    refine lf_getI 43 21 rfl rfl rfl rfl rfl rfl rfl ?_
    refine lf_seg 1 (pc' := 44) (lv' := [(0, .ref 95), (1, .int (Int32.ofInt x1))]) (st' := [.int (Int32.ofInt 1), .int (Int32.ofInt (s.1 95 21)), .ref 95]) rfl ?_
    refine lf_isub 45 rfl rfl ?_
    refine lf_putI 48 21 rfl rfl rfl rfl rfl rfl rfl rfl ?_
    refine lf_as (lf_up s.1 95 21 ((s.1 95 21) - 1), s.2.1, s.2.2) rfl ?_
    refine lf_seg 5 (pc' := 57) (lv' := [(0, .ref 95), (1, .int (Int32.ofInt x1))]) (st' := [.ref 95, .ref 101, .ref 103]) rfl ?_
    refine lf_getI 60 21 rfl rfl rfl rfl rfl rfl rfl ?_
    refine lf_seg 0 (pc' := 60) (lv' := [(0, .ref 95), (1, .int (Int32.ofInt x1))]) (st' := [.int (Int32.ofInt ((s.1 95 21) - 1)), .ref 101, .ref 103]) rfl ?_
    obtain ⟨o23, h⟩ := h
    refine lf_iald 61 10 rfl rfl rfl rfl rfl rfl o23 ?_
    refine lf_seg 3 (pc' := 66) (lv' := [(0, .ref 95), (1, .int (Int32.ofInt x1))]) (st' := [.ref 95, .ref 102, .int (Int32.ofInt (s.1 101 ((s.1 95 21) - 1))), .ref 103]) rfl ?_
    refine lf_getI 69 21 rfl rfl rfl rfl rfl rfl rfl ?_
    refine lf_seg 0 (pc' := 69) (lv' := [(0, .ref 95), (1, .int (Int32.ofInt x1))]) (st' := [.int (Int32.ofInt ((s.1 95 21) - 1)), .ref 102, .int (Int32.ofInt (s.1 101 ((s.1 95 21) - 1))), .ref 103]) rfl ?_
    refine lf_iald 70 10 rfl rfl rfl rfl rfl rfl o23 ?_
    refine lf_seg 0 (pc' := 70) (lv' := [(0, .ref 95), (1, .int (Int32.ofInt x1))]) (st' := [.int (Int32.ofInt (s.1 102 ((s.1 95 21) - 1))), .int (Int32.ofInt (s.1 101 ((s.1 95 21) - 1))), .ref 103]) rfl ?_
    obtain ⟨o24, h⟩ := h
    refine lf_iast 71 26 rfl rfl rfl rfl rfl rfl o24 ?_
    refine lf_as (lf_up (lf_up s.1 95 21 ((s.1 95 21) - 1)) 103 (s.1 101 ((s.1 95 21) - 1)) (s.1 102 ((s.1 95 21) - 1)), s.2.1, s.2.2) rfl ?_
    exact lf_retV rfl rfl h
def fm_228 (a1 : Int) (Q : lf_Z → Prop) (s : lf_Z) : Prop := lf_R a1 ∧ ((a1 ≠ 43 → (fm_228_p32 Q a1 (lf_up (lf_up s.1 95 19 ((s.1 95 19) - 1)) 95 20 ((s.1 95 20) - 1), s.2.1, s.2.2))) ∧ (¬ (a1 ≠ 43) → (fm_225 2 0 (fun s25 => (fm_228_p32 Q a1 s25)) (lf_up (lf_up s.1 95 19 ((s.1 95 19) - 1)) 95 20 ((s.1 95 20) - 1), s.2.1, s.2.2))))
set_option maxRecDepth 100000 in
theorem gm_228 {L : Nat} {xs : Nat → Int32} {d : Nat} {a1 : Int} {Q : lf_Z → Prop} {s : lf_Z} (h : fm_228 a1 Q s) : lf_M (px_ro L xs) (d + 2) 228 [.ref 95, .int (Int32.ofInt a1)] s (lf_qv Q) := by
  unfold fm_228 at h
  show lf_E (px_ro L xs) (d + 2) 228 0 [(0, .ref 95), (1, .int (Int32.ofInt a1))] [] s _
  refine lf_seg 2 (pc' := 2) (lv' := [(0, .ref 95), (1, .int (Int32.ofInt a1))]) (st' := [.ref 95, .ref 95]) rfl ?_
  refine lf_getI 5 19 rfl rfl rfl rfl rfl rfl rfl ?_
  refine lf_seg 1 (pc' := 6) (lv' := [(0, .ref 95), (1, .int (Int32.ofInt a1))]) (st' := [.int (Int32.ofInt 1), .int (Int32.ofInt (s.1 95 19)), .ref 95]) rfl ?_
  refine lf_isub 7 rfl rfl ?_
  refine lf_putI 10 19 rfl rfl rfl rfl rfl rfl rfl rfl ?_
  refine lf_as (lf_up s.1 95 19 ((s.1 95 19) - 1), s.2.1, s.2.2) rfl ?_
  refine lf_seg 2 (pc' := 12) (lv' := [(0, .ref 95), (1, .int (Int32.ofInt a1))]) (st' := [.ref 95, .ref 95]) rfl ?_
  refine lf_getI 15 20 rfl rfl rfl rfl rfl rfl rfl ?_
  refine lf_seg 1 (pc' := 16) (lv' := [(0, .ref 95), (1, .int (Int32.ofInt a1))]) (st' := [.int (Int32.ofInt 1), .int (Int32.ofInt (s.1 95 20)), .ref 95]) rfl ?_
  refine lf_isub 17 rfl rfl ?_
  refine lf_putI 20 20 rfl rfl rfl rfl rfl rfl rfl rfl ?_
  refine lf_as (lf_up (lf_up s.1 95 19 ((s.1 95 19) - 1)) 95 20 ((s.1 95 20) - 1), s.2.1, s.2.2) rfl ?_
  refine lf_seg 1 (pc' := 21) (lv' := [(0, .ref 95), (1, .int (Int32.ofInt a1))]) (st' := [.int (Int32.ofInt a1)]) rfl ?_
  refine lf_bipush 23 43 rfl rfl (by decide) (by decide) ?_
  obtain ⟨o21, h⟩ := h
  refine lf_icmp_ne 32 26 rfl rfl rfl o21 ⟨by decide, by decide⟩ (fun c => ?_) (fun c => ?_)
  · have h := h.1 c
    refine lf_sub (l := [(0, .ref 95), (1, .int (Int32.ofInt a1))]) (lf_sb1 rfl (lf_sb1 rfl lf_sb0)) ?_
    exact gm_228_p32 h
  · have h := h.2 c
    refine lf_seg 3 (pc' := 29) (lv' := [(0, .ref 95), (1, .int (Int32.ofInt a1))]) (st' := [.int (Int32.ofInt 0), .int (Int32.ofInt 2), .ref 95]) rfl ?_
    refine lf_callV 32 rfl rfl rfl rfl (gm_225 h) (fun s25 h => ?_)
    refine lf_sub (l := [(0, .ref 95), (1, .int (Int32.ofInt a1))]) (lf_sb1 rfl (lf_sb1 rfl lf_sb0)) ?_
    exact gm_228_p32 h
-- fm_227 Model.bind 95
def fm_227 (Q : lf_Z → Prop) (s : lf_Z) : Prop := (0 ≤ (s.1 95 21) - 1 ∧ (s.1 95 21) - 1 < 10) ∧ ((0 ≤ s.1 101 ((s.1 95 21) - 1) ∧ s.1 101 ((s.1 95 21) - 1) < 26) ∧ (fm_225 30 (s.1 95 22) (fun s23 => (Q (lf_up s23.1 95 22 ((s23.1 95 22) + 1), s23.2.1, s23.2.2))) (lf_up (lf_up s.1 102 ((s.1 95 21) - 1) (s.1 103 (s.1 101 ((s.1 95 21) - 1)))) 103 (s.1 101 ((s.1 95 21) - 1)) (s.1 95 22), s.2.1, s.2.2)))
set_option maxRecDepth 100000 in
theorem gm_227 {L : Nat} {xs : Nat → Int32} {d : Nat} {Q : lf_Z → Prop} {s : lf_Z} (h : fm_227 Q s) : lf_M (px_ro L xs) (d + 2) 227 [.ref 95] s (lf_qv Q) := by
  unfold fm_227 at h
  show lf_E (px_ro L xs) (d + 2) 227 0 [(0, .ref 95)] [] s _
  refine lf_seg 3 (pc' := 5) (lv' := [(0, .ref 95)]) (st' := [.ref 95, .ref 101]) rfl ?_
  refine lf_getI 8 21 rfl rfl rfl rfl rfl rfl rfl ?_
  refine lf_seg 1 (pc' := 9) (lv' := [(0, .ref 95)]) (st' := [.int (Int32.ofInt 1), .int (Int32.ofInt (s.1 95 21)), .ref 101]) rfl ?_
  refine lf_isub 10 rfl rfl ?_
  obtain ⟨o21, h⟩ := h
  refine lf_iald 11 10 rfl rfl rfl rfl rfl rfl o21 ?_
  refine lf_seg 4 (pc' := 17) (lv' := [(1, .int (Int32.ofInt (s.1 101 ((s.1 95 21) - 1)))), (0, .ref 95)]) (st' := [.ref 95, .ref 102]) rfl ?_
  refine lf_getI 20 21 rfl rfl rfl rfl rfl rfl rfl ?_
  refine lf_seg 1 (pc' := 21) (lv' := [(1, .int (Int32.ofInt (s.1 101 ((s.1 95 21) - 1)))), (0, .ref 95)]) (st' := [.int (Int32.ofInt 1), .int (Int32.ofInt (s.1 95 21)), .ref 102]) rfl ?_
  refine lf_isub 22 rfl rfl ?_
  refine lf_seg 3 (pc' := 27) (lv' := [(1, .int (Int32.ofInt (s.1 101 ((s.1 95 21) - 1)))), (0, .ref 95)]) (st' := [.int (Int32.ofInt (s.1 101 ((s.1 95 21) - 1))), .ref 103, .int (Int32.ofInt ((s.1 95 21) - 1)), .ref 102]) rfl ?_
  obtain ⟨o22, h⟩ := h
  refine lf_iald 28 26 rfl rfl rfl rfl rfl rfl o22 ?_
  refine lf_iast 29 10 rfl rfl rfl rfl rfl rfl o21 ?_
  refine lf_as (lf_up s.1 102 ((s.1 95 21) - 1) (s.1 103 (s.1 101 ((s.1 95 21) - 1))), s.2.1, s.2.2) rfl ?_
  refine lf_seg 4 (pc' := 35) (lv' := [(1, .int (Int32.ofInt (s.1 101 ((s.1 95 21) - 1)))), (0, .ref 95)]) (st' := [.ref 95, .int (Int32.ofInt (s.1 101 ((s.1 95 21) - 1))), .ref 103]) rfl ?_
  refine lf_getI 38 22 rfl rfl rfl rfl rfl rfl rfl ?_
  refine lf_seg 0 (pc' := 38) (lv' := [(1, .int (Int32.ofInt (s.1 101 ((s.1 95 21) - 1)))), (0, .ref 95)]) (st' := [.int (Int32.ofInt (s.1 95 22)), .int (Int32.ofInt (s.1 101 ((s.1 95 21) - 1))), .ref 103]) rfl ?_
  refine lf_iast 39 26 rfl rfl rfl rfl rfl rfl o22 ?_
  refine lf_as (lf_up (lf_up s.1 102 ((s.1 95 21) - 1) (s.1 103 (s.1 101 ((s.1 95 21) - 1)))) 103 (s.1 101 ((s.1 95 21) - 1)) (s.1 95 22), s.2.1, s.2.2) rfl ?_
  refine lf_seg 1 (pc' := 40) (lv' := [(1, .int (Int32.ofInt (s.1 101 ((s.1 95 21) - 1)))), (0, .ref 95)]) (st' := [.ref 95]) rfl ?_
  refine lf_bipush 42 30 rfl rfl (by decide) (by decide) ?_
  refine lf_seg 1 (pc' := 43) (lv' := [(1, .int (Int32.ofInt (s.1 101 ((s.1 95 21) - 1)))), (0, .ref 95)]) (st' := [.ref 95, .int (Int32.ofInt 30), .ref 95]) rfl ?_
  refine lf_getI 46 22 rfl rfl rfl rfl rfl rfl rfl ?_
  refine lf_seg 0 (pc' := 46) (lv' := [(1, .int (Int32.ofInt (s.1 101 ((s.1 95 21) - 1)))), (0, .ref 95)]) (st' := [.int (Int32.ofInt (s.1 95 22)), .int (Int32.ofInt 30), .ref 95]) rfl ?_
  refine lf_callV 49 rfl rfl rfl rfl (gm_225 h) (fun s23 h => ?_)
  refine lf_seg 2 (pc' := 51) (lv' := [(1, .int (Int32.ofInt (s.1 101 ((s.1 95 21) - 1)))), (0, .ref 95)]) (st' := [.ref 95, .ref 95]) rfl ?_
  refine lf_getI 54 22 rfl rfl rfl rfl rfl rfl rfl ?_
  refine lf_seg 1 (pc' := 55) (lv' := [(1, .int (Int32.ofInt (s.1 101 ((s.1 95 21) - 1)))), (0, .ref 95)]) (st' := [.int (Int32.ofInt 1), .int (Int32.ofInt (s23.1 95 22)), .ref 95]) rfl ?_
  refine lf_iadd 56 rfl rfl ?_
  refine lf_putI 59 22 rfl rfl rfl rfl rfl rfl rfl rfl ?_
  refine lf_as (lf_up s23.1 95 22 ((s23.1 95 22) + 1), s23.2.1, s23.2.2) rfl ?_
  exact lf_retV rfl rfl h
-- fm_217 Model.behindOne 95
def fm_217_p99 (Q : Bool → lf_Z → Prop) (s : lf_Z) : Prop := fm_197 (fun s36 => (Q true s36)) s
set_option maxRecDepth 100000 in
theorem gm_217_p99 {L : Nat} {xs : Nat → Int32} {d : Nat} {Q : Bool → lf_Z → Prop} {s : lf_Z} (h : fm_217_p99 Q s) : lf_E (px_ro L xs) (d + 5) 217 99 [(0, .ref 95)] [] s (lf_qz Q) := by
  unfold fm_217_p99 at h
  refine lf_seg 1 (pc' := 100) (lv' := [(0, .ref 95)]) (st' := [.ref 95]) rfl ?_
  refine lf_callV 103 rfl rfl rfl rfl (gm_197 h) (fun s36 h => ?_)
  refine lf_seg 2 (pc' := 122) (lv' := [(0, .ref 95)]) (st' := [.int (Int32.ofInt 1)]) rfl ?_
  exact lf_retZ true rfl rfl h
def fm_217 (Q : Bool → lf_Z → Prop) (s : lf_Z) : Prop := fm_218 (fun r22 s21 => (lf_R r22 ∧ ((r22 < 0 → (fm_219 (fun r25 s24 => (fm_226 r25 (fun r27 s26 => (lf_R r27 ∧ ((0 ≤ r27 → (fm_224 1 (fun s29 => ((r27 ≤ 0 → (fm_228 r25 (fun s30 => (fm_197 (fun s31 => (fm_224 7 (fun s32 => (Q true s32)) s31)) s30)) s29)) ∧ (¬ (r27 ≤ 0) → (fm_220 (fun r34 s33 => ((0 ≤ r34 ∧ r34 < 160) ∧ ((r27 ≠ 45 → (fm_217_p99 Q (lf_up (lf_up s33.1 100 r34 r27) 95 23 0, s33.2.1, s33.2.2))) ∧ (¬ (r27 ≠ 45) → (fm_227 (fun s37 => (fm_217_p99 Q s37)) (lf_up (lf_up s33.1 100 r34 r27) 95 23 0, s33.2.1, s33.2.2)))))) s29)))) s26)) ∧ (¬ (0 ≤ r27) → (Q false s26))))) s24)) s21)) ∧ (¬ (r22 < 0) → (fm_222 r22 (fun r39 s38 => (fm_224 r39 (fun s40 => ((0 ≤ s40.1 95 19 ∧ s40.1 95 19 < 160) ∧ (fm_197 (fun s42 => (Q true s42)) (lf_up (lf_up (lf_up s40.1 100 (s40.1 95 19) r22) 95 19 ((s40.1 95 19) + 1)) 95 23 0, s40.2.1, s40.2.2)))) s38)) s21))))) s
set_option maxRecDepth 100000 in
theorem gm_217 {L : Nat} {xs : Nat → Int32} {d : Nat} {Q : Bool → lf_Z → Prop} {s : lf_Z} (h : fm_217 Q s) : lf_M (px_ro L xs) (d + 5) 217 [.ref 95] s (lf_qz Q) := by
  unfold fm_217 at h
  show lf_E (px_ro L xs) (d + 5) 217 0 [(0, .ref 95)] [] s _
  refine lf_seg 1 (pc' := 1) (lv' := [(0, .ref 95)]) (st' := [.ref 95]) rfl ?_
  refine lf_callI 4 rfl rfl rfl rfl (gm_218 h) (fun r22 s21 h => ?_)
  refine lf_seg 2 (pc' := 6) (lv' := [(1, .int (Int32.ofInt r22)), (0, .ref 95)]) (st' := [.int (Int32.ofInt r22)]) rfl ?_
  obtain ⟨o23, h⟩ := h
  refine lf_if_lt 48 9 rfl rfl rfl o23 (fun c => ?_) (fun c => ?_)
  · have h := h.1 c
    refine lf_seg 1 (pc' := 49) (lv' := [(1, .int (Int32.ofInt r22)), (0, .ref 95)]) (st' := [.ref 95]) rfl ?_
    refine lf_callI 52 rfl rfl rfl rfl (gm_219 h) (fun r25 s24 h => ?_)
    refine lf_seg 3 (pc' := 55) (lv' := [(2, .int (Int32.ofInt r25)), (1, .int (Int32.ofInt r22)), (0, .ref 95)]) (st' := [.int (Int32.ofInt r25), .ref 95]) rfl ?_
    refine lf_callI 58 rfl rfl rfl rfl (gm_226 h) (fun r27 s26 h => ?_)
    refine lf_seg 2 (pc' := 60) (lv' := [(3, .int (Int32.ofInt r27)), (2, .int (Int32.ofInt r25)), (1, .int (Int32.ofInt r22)), (0, .ref 95)]) (st' := [.int (Int32.ofInt r27)]) rfl ?_
    obtain ⟨o28, h⟩ := h
    refine lf_if_ge 65 63 rfl rfl rfl o28 (fun c => ?_) (fun c => ?_)
    · have h := h.1 c
      refine lf_seg 2 (pc' := 67) (lv' := [(3, .int (Int32.ofInt r27)), (2, .int (Int32.ofInt r25)), (1, .int (Int32.ofInt r22)), (0, .ref 95)]) (st' := [.int (Int32.ofInt 1), .ref 95]) rfl ?_
      refine lf_callV 70 rfl rfl rfl rfl (gm_224 h) (fun s29 h => ?_)
      refine lf_seg 1 (pc' := 71) (lv' := [(3, .int (Int32.ofInt r27)), (2, .int (Int32.ofInt r25)), (1, .int (Int32.ofInt r22)), (0, .ref 95)]) (st' := [.int (Int32.ofInt r27)]) rfl ?_
      refine lf_if_le 106 74 rfl rfl rfl o28 (fun c => ?_) (fun c => ?_)
      · have h := h.1 c
        refine lf_seg 2 (pc' := 108) (lv' := [(3, .int (Int32.ofInt r27)), (2, .int (Int32.ofInt r25)), (1, .int (Int32.ofInt r22)), (0, .ref 95)]) (st' := [.int (Int32.ofInt r25), .ref 95]) rfl ?_
        refine lf_callV 111 rfl rfl rfl rfl (gm_228 h) (fun s30 h => ?_)
        refine lf_seg 1 (pc' := 112) (lv' := [(3, .int (Int32.ofInt r27)), (2, .int (Int32.ofInt r25)), (1, .int (Int32.ofInt r22)), (0, .ref 95)]) (st' := [.ref 95]) rfl ?_
        refine lf_callV 115 rfl rfl rfl rfl (gm_197 h) (fun s31 h => ?_)
        refine lf_seg 1 (pc' := 116) (lv' := [(3, .int (Int32.ofInt r27)), (2, .int (Int32.ofInt r25)), (1, .int (Int32.ofInt r22)), (0, .ref 95)]) (st' := [.ref 95]) rfl ?_
        refine lf_bipush 118 7 rfl rfl (by decide) (by decide) ?_
        refine lf_callV 121 rfl rfl rfl rfl (gm_224 h) (fun s32 h => ?_)
        refine lf_seg 1 (pc' := 122) (lv' := [(3, .int (Int32.ofInt r27)), (2, .int (Int32.ofInt r25)), (1, .int (Int32.ofInt r22)), (0, .ref 95)]) (st' := [.int (Int32.ofInt 1)]) rfl ?_
        exact lf_retZ true rfl rfl h
      · have h := h.2 c
        refine lf_seg 3 (pc' := 79) (lv' := [(3, .int (Int32.ofInt r27)), (2, .int (Int32.ofInt r25)), (1, .int (Int32.ofInt r22)), (0, .ref 95)]) (st' := [.ref 95, .ref 100]) rfl ?_
        refine lf_callI 82 rfl rfl rfl rfl (gm_220 h) (fun r34 s33 h => ?_)
        refine lf_seg 1 (pc' := 83) (lv' := [(3, .int (Int32.ofInt r27)), (2, .int (Int32.ofInt r25)), (1, .int (Int32.ofInt r22)), (0, .ref 95)]) (st' := [.int (Int32.ofInt r27), .int (Int32.ofInt r34), .ref 100]) rfl ?_
        obtain ⟨o35, h⟩ := h
        refine lf_iast 84 160 rfl rfl rfl rfl rfl rfl o35 ?_
        refine lf_as (lf_up s33.1 100 r34 r27, s33.2.1, s33.2.2) rfl ?_
        refine lf_seg 2 (pc' := 86) (lv' := [(3, .int (Int32.ofInt r27)), (2, .int (Int32.ofInt r25)), (1, .int (Int32.ofInt r22)), (0, .ref 95)]) (st' := [.int (Int32.ofInt 0), .ref 95]) rfl ?_
        refine lf_putZ 89 23 rfl rfl rfl rfl rfl rfl rfl rfl (Or.inl rfl) ?_
        refine lf_as (lf_up (lf_up s33.1 100 r34 r27) 95 23 0, s33.2.1, s33.2.2) rfl ?_
        refine lf_seg 1 (pc' := 90) (lv' := [(3, .int (Int32.ofInt r27)), (2, .int (Int32.ofInt r25)), (1, .int (Int32.ofInt r22)), (0, .ref 95)]) (st' := [.int (Int32.ofInt r27)]) rfl ?_
        refine lf_bipush 92 45 rfl rfl (by decide) (by decide) ?_
        refine lf_icmp_ne 99 95 rfl rfl rfl o28 ⟨by decide, by decide⟩ (fun c => ?_) (fun c => ?_)
        · have h := h.1 c
          refine lf_sub (l := [(0, .ref 95)]) (lf_sb1 rfl lf_sb0) ?_
          exact gm_217_p99 h
        · have h := h.2 c
          refine lf_seg 1 (pc' := 96) (lv' := [(3, .int (Int32.ofInt r27)), (2, .int (Int32.ofInt r25)), (1, .int (Int32.ofInt r22)), (0, .ref 95)]) (st' := [.ref 95]) rfl ?_
          refine lf_callV 99 rfl rfl rfl rfl (gm_227 h) (fun s37 h => ?_)
          refine lf_sub (l := [(0, .ref 95)]) (lf_sb1 rfl lf_sb0) ?_
          exact gm_217_p99 h
    · have h := h.2 c
      refine lf_seg 1 (pc' := 64) (lv' := [(3, .int (Int32.ofInt r27)), (2, .int (Int32.ofInt r25)), (1, .int (Int32.ofInt r22)), (0, .ref 95)]) (st' := [.int (Int32.ofInt 0)]) rfl ?_
      exact lf_retZ false rfl rfl h
  · have h := h.2 c
    refine lf_seg 2 (pc' := 11) (lv' := [(1, .int (Int32.ofInt r22)), (0, .ref 95)]) (st' := [.int (Int32.ofInt r22), .ref 95]) rfl ?_
    refine lf_callI 14 rfl rfl rfl rfl (gm_222 h) (fun r39 s38 h => ?_)
    refine lf_callV 17 rfl rfl rfl rfl (gm_224 h) (fun s40 h => ?_)
    refine lf_seg 3 (pc' := 22) (lv' := [(1, .int (Int32.ofInt r22)), (0, .ref 95)]) (st' := [.ref 95, .ref 100]) rfl ?_
    refine lf_getI 25 19 rfl rfl rfl rfl rfl rfl rfl ?_
    refine lf_seg 1 (pc' := 26) (lv' := [(1, .int (Int32.ofInt r22)), (0, .ref 95)]) (st' := [.int (Int32.ofInt r22), .int (Int32.ofInt (s40.1 95 19)), .ref 100]) rfl ?_
    obtain ⟨o41, h⟩ := h
    refine lf_iast 27 160 rfl rfl rfl rfl rfl rfl o41 ?_
    refine lf_as (lf_up s40.1 100 (s40.1 95 19) r22, s40.2.1, s40.2.2) rfl ?_
    refine lf_seg 2 (pc' := 29) (lv' := [(1, .int (Int32.ofInt r22)), (0, .ref 95)]) (st' := [.ref 95, .ref 95]) rfl ?_
    refine lf_getI 32 19 rfl rfl rfl rfl rfl rfl rfl ?_
    refine lf_seg 1 (pc' := 33) (lv' := [(1, .int (Int32.ofInt r22)), (0, .ref 95)]) (st' := [.int (Int32.ofInt 1), .int (Int32.ofInt (s40.1 95 19)), .ref 95]) rfl ?_
    refine lf_iadd 34 rfl rfl ?_
    refine lf_putI 37 19 rfl rfl rfl rfl rfl rfl rfl rfl ?_
    refine lf_as (lf_up (lf_up s40.1 100 (s40.1 95 19) r22) 95 19 ((s40.1 95 19) + 1), s40.2.1, s40.2.2) rfl ?_
    refine lf_seg 2 (pc' := 39) (lv' := [(1, .int (Int32.ofInt r22)), (0, .ref 95)]) (st' := [.int (Int32.ofInt 0), .ref 95]) rfl ?_
    refine lf_putZ 42 23 rfl rfl rfl rfl rfl rfl rfl rfl (Or.inl rfl) ?_
    refine lf_as (lf_up (lf_up (lf_up s40.1 100 (s40.1 95 19) r22) 95 19 ((s40.1 95 19) + 1)) 95 23 0, s40.2.1, s40.2.2) rfl ?_
    refine lf_seg 1 (pc' := 43) (lv' := [(1, .int (Int32.ofInt r22)), (0, .ref 95)]) (st' := [.ref 95]) rfl ?_
    refine lf_callV 46 rfl rfl rfl rfl (gm_197 h) (fun s42 h => ?_)
    refine lf_seg 1 (pc' := 47) (lv' := [(1, .int (Int32.ofInt r22)), (0, .ref 95)]) (st' := [.int (Int32.ofInt 1)]) rfl ?_
    exact lf_retZ true rfl rfl h
-- fm_216 Model.summed 95
def fm_216_p46 (Q : Int → lf_Z → Prop) (X46 : lf_Z → Prop) (s : lf_Z) : Prop := lf_R (s.1 95 23) ∧ ((s.1 95 23 = 0 → (fm_229 (fun r24 s23 => (lf_R r24 ∧ ((r24 = 0 → (X46 s23)) ∧ (¬ (r24 = 0) → (Q r24 s23))))) s)) ∧ (¬ (s.1 95 23 = 0) → (fm_217 (fun z27 s26 => ((z27 = false → (fm_219 (fun r29 s28 => (lf_R r29 ∧ ((r29 < 0 → (fm_224 1 (fun s31 => (Q 0 s31)) s28)) ∧ (¬ (r29 < 0) → (Q 1 s28))))) s26)) ∧ (z27 = true → (X46 s26)))) s)))
def fm_216_p46L (Q : Int → lf_Z → Prop) (s : lf_Z) : Prop := ∀ X46 : lf_Z → Prop, (∀ (s : lf_Z), fm_216_p46 Q X46 s → X46 s) → X46 s
set_option maxRecDepth 100000 in
theorem gm_216_p46 {L : Nat} {xs : Nat → Int32} {d : Nat} {Q : Int → lf_Z → Prop} {s : lf_Z} {X46 : lf_Z → Prop} (hX46 : ∀ s, X46 s → lf_E (px_ro L xs) (d + 8) 216 46 [(0, .ref 95)] [] s (lf_qi Q)) (h : fm_216_p46 Q X46 s) : lf_E (px_ro L xs) (d + 8) 216 46 [(0, .ref 95)] [] s (lf_qi Q) := by
  unfold fm_216_p46 at h
  refine lf_seg 1 (pc' := 47) (lv' := [(0, .ref 95)]) (st' := [.ref 95]) rfl ?_
  refine lf_getZ 50 23 rfl rfl rfl rfl rfl rfl rfl ?_
  obtain ⟨o22, h⟩ := h
  refine lf_if_eq 79 53 rfl rfl rfl o22 (fun c => ?_) (fun c => ?_)
  · have h := h.1 c
    refine lf_seg 1 (pc' := 80) (lv' := [(0, .ref 95)]) (st' := [.ref 95]) rfl ?_
    refine lf_callI 83 rfl rfl rfl rfl (gm_229 h) (fun r24 s23 h => ?_)
    refine lf_seg 2 (pc' := 85) (lv' := [(1, .int (Int32.ofInt r24)), (0, .ref 95)]) (st' := [.int (Int32.ofInt r24)]) rfl ?_
    obtain ⟨o25, h⟩ := h
    refine lf_if_eq 90 88 rfl rfl rfl o25 (fun c => ?_) (fun c => ?_)
    · have h := h.1 c
      refine lf_seg 1 (pc' := 46) (lv' := [(1, .int (Int32.ofInt r24)), (0, .ref 95)]) (st' := []) rfl ?_
      refine lf_sub (l := [(0, .ref 95)]) (lf_sb1 rfl lf_sb0) ?_
      exact hX46 _ h
    · have h := h.2 c
      refine lf_seg 1 (pc' := 89) (lv' := [(1, .int (Int32.ofInt r24)), (0, .ref 95)]) (st' := [.int (Int32.ofInt r24)]) rfl ?_
      exact lf_retI rfl rfl h
  · have h := h.2 c
    refine lf_seg 1 (pc' := 54) (lv' := [(0, .ref 95)]) (st' := [.ref 95]) rfl ?_
    refine lf_callZ 57 rfl rfl rfl rfl (gm_217 h) (fun z27 s26 h => ?_)
    refine lf_ifz_eq 63 60 rfl rfl rfl (fun c => ?_) (fun c => ?_)
    · have h := h.1 c
      refine lf_seg 1 (pc' := 64) (lv' := [(0, .ref 95)]) (st' := [.ref 95]) rfl ?_
      refine lf_callI 67 rfl rfl rfl rfl (gm_219 h) (fun r29 s28 h => ?_)
      obtain ⟨o30, h⟩ := h
      refine lf_if_lt 72 70 rfl rfl rfl o30 (fun c => ?_) (fun c => ?_)
      · have h := h.1 c
        refine lf_seg 2 (pc' := 74) (lv' := [(0, .ref 95)]) (st' := [.int (Int32.ofInt 1), .ref 95]) rfl ?_
        refine lf_callV 77 rfl rfl rfl rfl (gm_224 h) (fun s31 h => ?_)
        refine lf_seg 1 (pc' := 78) (lv' := [(0, .ref 95)]) (st' := [.int (Int32.ofInt 0)]) rfl ?_
        exact lf_retI rfl rfl h
      · have h := h.2 c
        refine lf_seg 1 (pc' := 71) (lv' := [(0, .ref 95)]) (st' := [.int (Int32.ofInt 1)]) rfl ?_
        exact lf_retI rfl rfl h
    · have h := h.2 c
      refine lf_seg 1 (pc' := 46) (lv' := [(0, .ref 95)]) (st' := []) rfl ?_
      refine lf_sub (l := [(0, .ref 95)]) (lf_sb1 rfl lf_sb0) ?_
      exact hX46 _ h
theorem gm_216_p46L {L : Nat} {xs : Nat → Int32} {d : Nat} {Q : Int → lf_Z → Prop} {s : lf_Z} (h : fm_216_p46L Q s) : lf_E (px_ro L xs) (d + 8) 216 46 [(0, .ref 95)] [] s (lf_qi Q) :=
  h (fun s => lf_E (px_ro L xs) (d + 8) 216 46 [(0, .ref 95)] [] s (lf_qi Q)) (fun s hb => gm_216_p46 (fun _ h => h) hb)
def fm_216_p22 (Q : Int → lf_Z → Prop) (X22 : Int → lf_Z → Prop) (x1 : Int) (s : lf_Z) : Prop := lf_R x1 ∧ ((26 ≤ x1 → (fm_216_p46L Q (lf_up s.1 95 23 0, s.2.1, s.2.2))) ∧ (¬ (26 ≤ x1) → ((0 ≤ x1 ∧ x1 < 26) ∧ (X22 (x1 + 1) (lf_up s.1 103 x1 (-1), s.2.1, s.2.2)))))
def fm_216_p22L (Q : Int → lf_Z → Prop) (x1 : Int) (s : lf_Z) : Prop := ∀ X22 : Int → lf_Z → Prop, (∀ (x1 : Int) (s : lf_Z), fm_216_p22 Q X22 x1 s → X22 x1 s) → X22 x1 s
set_option maxRecDepth 100000 in
theorem gm_216_p22 {L : Nat} {xs : Nat → Int32} {d : Nat} {Q : Int → lf_Z → Prop} {x1 : Int} {s : lf_Z} {X22 : Int → lf_Z → Prop} (hX22 : ∀ x1 s, X22 x1 s → lf_E (px_ro L xs) (d + 8) 216 22 [(0, .ref 95), (1, .int (Int32.ofInt x1))] [] s (lf_qi Q)) (h : fm_216_p22 Q X22 x1 s) : lf_E (px_ro L xs) (d + 8) 216 22 [(0, .ref 95), (1, .int (Int32.ofInt x1))] [] s (lf_qi Q) := by
  unfold fm_216_p22 at h
  refine lf_seg 1 (pc' := 23) (lv' := [(0, .ref 95), (1, .int (Int32.ofInt x1))]) (st' := [.int (Int32.ofInt x1)]) rfl ?_
  refine lf_bipush 25 26 rfl rfl (by decide) (by decide) ?_
  obtain ⟨o21, h⟩ := h
  refine lf_icmp_ge 41 28 rfl rfl rfl o21 ⟨by decide, by decide⟩ (fun c => ?_) (fun c => ?_)
  · have h := h.1 c
    refine lf_seg 2 (pc' := 43) (lv' := [(0, .ref 95), (1, .int (Int32.ofInt x1))]) (st' := [.int (Int32.ofInt 0), .ref 95]) rfl ?_
    refine lf_putZ 46 23 rfl rfl rfl rfl rfl rfl rfl rfl (Or.inl rfl) ?_
    refine lf_as (lf_up s.1 95 23 0, s.2.1, s.2.2) rfl ?_
    refine lf_sub (l := [(0, .ref 95)]) (lf_sb1 rfl lf_sb0) ?_
    exact gm_216_p46L h
  · have h := h.2 c
    refine lf_seg 4 (pc' := 34) (lv' := [(0, .ref 95), (1, .int (Int32.ofInt x1))]) (st' := [.int (Int32.ofInt (-1)), .int (Int32.ofInt x1), .ref 103]) rfl ?_
    obtain ⟨o32, h⟩ := h
    refine lf_iast 35 26 rfl rfl rfl rfl rfl rfl o32 ?_
    refine lf_as (lf_up s.1 103 x1 (-1), s.2.1, s.2.2) rfl ?_
    refine lf_iinc 38 rfl rfl rfl rfl ?_
    refine lf_seg 1 (pc' := 22) (lv' := [(1, .int (Int32.ofInt (x1 + 1))), (0, .ref 95)]) (st' := []) rfl ?_
    refine lf_sub (l := [(0, .ref 95), (1, .int (Int32.ofInt (x1 + 1)))]) (lf_sb1 rfl (lf_sb1 rfl lf_sb0)) ?_
    exact hX22 _ _ h
theorem gm_216_p22L {L : Nat} {xs : Nat → Int32} {d : Nat} {Q : Int → lf_Z → Prop} {x1 : Int} {s : lf_Z} (h : fm_216_p22L Q x1 s) : lf_E (px_ro L xs) (d + 8) 216 22 [(0, .ref 95), (1, .int (Int32.ofInt x1))] [] s (lf_qi Q) :=
  h (fun x1 s => lf_E (px_ro L xs) (d + 8) 216 22 [(0, .ref 95), (1, .int (Int32.ofInt x1))] [] s (lf_qi Q)) (fun x1 s hb => gm_216_p22 (fun _ _ h => h) hb)
def fm_216 (Q : Int → lf_Z → Prop) (s : lf_Z) : Prop := fm_216_p22L Q 0 (lf_up (lf_up (lf_up (lf_up s.1 95 19 0) 95 20 0) 95 21 0) 95 22 0, s.2.1, s.2.2)
set_option maxRecDepth 100000 in
theorem gm_216 {L : Nat} {xs : Nat → Int32} {d : Nat} {Q : Int → lf_Z → Prop} {s : lf_Z} (h : fm_216 Q s) : lf_M (px_ro L xs) (d + 8) 216 [.ref 95] s (lf_qi Q) := by
  unfold fm_216 at h
  show lf_E (px_ro L xs) (d + 8) 216 0 [(0, .ref 95)] [] s _
  refine lf_seg 2 (pc' := 2) (lv' := [(0, .ref 95)]) (st' := [.int (Int32.ofInt 0), .ref 95]) rfl ?_
  refine lf_putI 5 19 rfl rfl rfl rfl rfl rfl rfl rfl ?_
  refine lf_as (lf_up s.1 95 19 0, s.2.1, s.2.2) rfl ?_
  refine lf_seg 2 (pc' := 7) (lv' := [(0, .ref 95)]) (st' := [.int (Int32.ofInt 0), .ref 95]) rfl ?_
  refine lf_putI 10 20 rfl rfl rfl rfl rfl rfl rfl rfl ?_
  refine lf_as (lf_up (lf_up s.1 95 19 0) 95 20 0, s.2.1, s.2.2) rfl ?_
  refine lf_seg 2 (pc' := 12) (lv' := [(0, .ref 95)]) (st' := [.int (Int32.ofInt 0), .ref 95]) rfl ?_
  refine lf_putI 15 21 rfl rfl rfl rfl rfl rfl rfl rfl ?_
  refine lf_as (lf_up (lf_up (lf_up s.1 95 19 0) 95 20 0) 95 21 0, s.2.1, s.2.2) rfl ?_
  refine lf_seg 2 (pc' := 17) (lv' := [(0, .ref 95)]) (st' := [.int (Int32.ofInt 0), .ref 95]) rfl ?_
  refine lf_putI 20 22 rfl rfl rfl rfl rfl rfl rfl rfl ?_
  refine lf_as (lf_up (lf_up (lf_up (lf_up s.1 95 19 0) 95 20 0) 95 21 0) 95 22 0, s.2.1, s.2.2) rfl ?_
  refine lf_seg 2 (pc' := 22) (lv' := [(1, .int (Int32.ofInt 0)), (0, .ref 95)]) (st' := []) rfl ?_
  refine lf_sub (l := [(0, .ref 95), (1, .int (Int32.ofInt 0))]) (lf_sb1 rfl (lf_sb1 rfl lf_sb0)) ?_
  exact gm_216_p22L h
-- fm_215 Model.lawClause 95 i
def fm_215 (a1 : Int) (Q : Int → lf_Z → Prop) (s : lf_Z) : Prop := (0 ≤ a1 + 1 ∧ a1 + 1 < 2820) ∧ (fm_216 (fun r23 s22 => ((0 ≤ a1 + 2 ∧ a1 + 2 < 2820) ∧ (Q r23 (lf_up s22.1 98 (a1 + 2) (s22.1 95 13), s22.2.1, s22.2.2)))) (lf_up s.1 98 (a1 + 1) (s.1 95 13), s.2.1, s.2.2))
set_option maxRecDepth 100000 in
theorem gm_215 {L : Nat} {xs : Nat → Int32} {d : Nat} {a1 : Int} {Q : Int → lf_Z → Prop} {s : lf_Z} (h : fm_215 a1 Q s) : lf_M (px_ro L xs) (d + 9) 215 [.ref 95, .int (Int32.ofInt a1)] s (lf_qi Q) := by
  unfold fm_215 at h
  show lf_E (px_ro L xs) (d + 9) 215 0 [(0, .ref 95), (1, .int (Int32.ofInt a1))] [] s _
  refine lf_seg 4 (pc' := 6) (lv' := [(0, .ref 95), (1, .int (Int32.ofInt a1))]) (st' := [.int (Int32.ofInt 1), .int (Int32.ofInt a1), .ref 98]) rfl ?_
  refine lf_iadd 7 rfl rfl ?_
  refine lf_seg 1 (pc' := 8) (lv' := [(0, .ref 95), (1, .int (Int32.ofInt a1))]) (st' := [.ref 95, .int (Int32.ofInt (a1 + 1)), .ref 98]) rfl ?_
  refine lf_getI 11 13 rfl rfl rfl rfl rfl rfl rfl ?_
  obtain ⟨o21, h⟩ := h
  refine lf_iast 12 2820 rfl rfl rfl rfl rfl rfl o21 ?_
  refine lf_as (lf_up s.1 98 (a1 + 1) (s.1 95 13), s.2.1, s.2.2) rfl ?_
  refine lf_seg 1 (pc' := 13) (lv' := [(0, .ref 95), (1, .int (Int32.ofInt a1))]) (st' := [.ref 95]) rfl ?_
  refine lf_callI 16 rfl rfl rfl rfl (gm_216 h) (fun r23 s22 h => ?_)
  refine lf_seg 5 (pc' := 23) (lv' := [(2, .int (Int32.ofInt r23)), (0, .ref 95), (1, .int (Int32.ofInt a1))]) (st' := [.int (Int32.ofInt 2), .int (Int32.ofInt a1), .ref 98]) rfl ?_
  refine lf_iadd 24 rfl rfl ?_
  refine lf_seg 1 (pc' := 25) (lv' := [(2, .int (Int32.ofInt r23)), (0, .ref 95), (1, .int (Int32.ofInt a1))]) (st' := [.ref 95, .int (Int32.ofInt (a1 + 2)), .ref 98]) rfl ?_
  refine lf_getI 28 13 rfl rfl rfl rfl rfl rfl rfl ?_
  obtain ⟨o24, h⟩ := h
  refine lf_iast 29 2820 rfl rfl rfl rfl rfl rfl o24 ?_
  refine lf_as (lf_up s22.1 98 (a1 + 2) (s22.1 95 13), s22.2.1, s22.2.2) rfl ?_
  refine lf_seg 1 (pc' := 30) (lv' := [(2, .int (Int32.ofInt r23)), (0, .ref 95), (1, .int (Int32.ofInt a1))]) (st' := [.int (Int32.ofInt r23)]) rfl ?_
  exact lf_retI rfl rfl h
-- fm_213 Model.figure 95 i i i
def fm_213 (a1 : Int) (a2 : Int) (a3 : Int) (Q : Int → lf_Z → Prop) (s : lf_Z) : Prop := lf_R (s.1 95 9) ∧ ((s.1 95 9 = 1 → (fm_183 (s.1 95 10) a2 a3 (fun z23 s22 => ((z23 = true → ((0 ≤ a1 ∧ a1 < 2820) ∧ (fm_197 (fun s25 => (Q 0 s25)) (lf_up s22.1 98 a1 (s22.1 95 10), s22.2.1, s22.2.2)))) ∧ (z23 = false → (Q 2 s22)))) s)) ∧ (¬ (s.1 95 9 = 1) → (Q 1 s)))
set_option maxRecDepth 100000 in
theorem gm_213 {L : Nat} {xs : Nat → Int32} {d : Nat} {a1 : Int} {a2 : Int} {a3 : Int} {Q : Int → lf_Z → Prop} {s : lf_Z} (h : fm_213 a1 a2 a3 Q s) : lf_M (px_ro L xs) (d + 3) 213 [.ref 95, .int (Int32.ofInt a1), .int (Int32.ofInt a2), .int (Int32.ofInt a3)] s (lf_qi Q) := by
  unfold fm_213 at h
  show lf_E (px_ro L xs) (d + 3) 213 0 [(0, .ref 95), (1, .int (Int32.ofInt a1)), (2, .int (Int32.ofInt a2)), (3, .int (Int32.ofInt a3))] [] s _
  refine lf_seg 1 (pc' := 1) (lv' := [(0, .ref 95), (1, .int (Int32.ofInt a1)), (2, .int (Int32.ofInt a2)), (3, .int (Int32.ofInt a3))]) (st' := [.ref 95]) rfl ?_
  refine lf_getI 4 9 rfl rfl rfl rfl rfl rfl rfl ?_
  refine lf_seg 1 (pc' := 5) (lv' := [(0, .ref 95), (1, .int (Int32.ofInt a1)), (2, .int (Int32.ofInt a2)), (3, .int (Int32.ofInt a3))]) (st' := [.int (Int32.ofInt 1), .int (Int32.ofInt (s.1 95 9))]) rfl ?_
  obtain ⟨o21, h⟩ := h
  refine lf_icmp_eq 10 8 rfl rfl rfl o21 ⟨by decide, by decide⟩ (fun c => ?_) (fun c => ?_)
  · have h := h.1 c
    refine lf_seg 1 (pc' := 11) (lv' := [(0, .ref 95), (1, .int (Int32.ofInt a1)), (2, .int (Int32.ofInt a2)), (3, .int (Int32.ofInt a3))]) (st' := [.ref 95]) rfl ?_
    refine lf_getI 14 10 rfl rfl rfl rfl rfl rfl rfl ?_
    refine lf_seg 2 (pc' := 16) (lv' := [(0, .ref 95), (1, .int (Int32.ofInt a1)), (2, .int (Int32.ofInt a2)), (3, .int (Int32.ofInt a3))]) (st' := [.int (Int32.ofInt a3), .int (Int32.ofInt a2), .int (Int32.ofInt (s.1 95 10))]) rfl ?_
    refine lf_callZ 19 rfl rfl rfl rfl (gm_183 h) (fun z23 s22 h => ?_)
    refine lf_ifz_ne 24 22 rfl rfl rfl (fun c => ?_) (fun c => ?_)
    · have h := h.1 c
      refine lf_seg 4 (pc' := 30) (lv' := [(0, .ref 95), (1, .int (Int32.ofInt a1)), (2, .int (Int32.ofInt a2)), (3, .int (Int32.ofInt a3))]) (st' := [.ref 95, .int (Int32.ofInt a1), .ref 98]) rfl ?_
      refine lf_getI 33 10 rfl rfl rfl rfl rfl rfl rfl ?_
      obtain ⟨o24, h⟩ := h
      refine lf_iast 34 2820 rfl rfl rfl rfl rfl rfl o24 ?_
      refine lf_as (lf_up s22.1 98 a1 (s22.1 95 10), s22.2.1, s22.2.2) rfl ?_
      refine lf_seg 1 (pc' := 35) (lv' := [(0, .ref 95), (1, .int (Int32.ofInt a1)), (2, .int (Int32.ofInt a2)), (3, .int (Int32.ofInt a3))]) (st' := [.ref 95]) rfl ?_
      refine lf_callV 38 rfl rfl rfl rfl (gm_197 h) (fun s25 h => ?_)
      refine lf_seg 1 (pc' := 39) (lv' := [(0, .ref 95), (1, .int (Int32.ofInt a1)), (2, .int (Int32.ofInt a2)), (3, .int (Int32.ofInt a3))]) (st' := [.int (Int32.ofInt 0)]) rfl ?_
      exact lf_retI rfl rfl h
    · have h := h.2 c
      refine lf_seg 1 (pc' := 23) (lv' := [(0, .ref 95), (1, .int (Int32.ofInt a1)), (2, .int (Int32.ofInt a2)), (3, .int (Int32.ofInt a3))]) (st' := [.int (Int32.ofInt 2)]) rfl ?_
      exact lf_retI rfl rfl h
  · have h := h.2 c
    refine lf_seg 1 (pc' := 9) (lv' := [(0, .ref 95), (1, .int (Int32.ofInt a1)), (2, .int (Int32.ofInt a2)), (3, .int (Int32.ofInt a3))]) (st' := [.int (Int32.ofInt 1)]) rfl ?_
    exact lf_retI rfl rfl h
-- fm_214 Model.worded 95 l i i i
def fm_214 (a1 : Int) (a2 : Int) (a3 : Int) (a4 : Int) (Q : Int → lf_Z → Prop) (s : lf_Z) : Prop := fm_207 (lf_wl a1) (fun z22 s21 => ((z22 = true → (fm_197 (fun s23 => (fm_213 a2 a3 a4 (fun r25 s24 => (Q r25 s24)) s23)) s21)) ∧ (z22 = false → (Q 1 s21)))) s
set_option maxRecDepth 100000 in
theorem gm_214 {L : Nat} {xs : Nat → Int32} {d : Nat} {a1 : Int} {a2 : Int} {a3 : Int} {a4 : Int} {Q : Int → lf_Z → Prop} {s : lf_Z} (h : fm_214 a1 a2 a3 a4 Q s) : lf_M (px_ro L xs) (d + 4) 214 [.ref 95, .long (Int64.ofInt a1), .int (Int32.ofInt a2), .int (Int32.ofInt a3), .int (Int32.ofInt a4)] s (lf_qi Q) := by
  unfold fm_214 at h
  show lf_E (px_ro L xs) (d + 4) 214 0 [(0, .ref 95), (1, .long (Int64.ofInt a1)), (3, .int (Int32.ofInt a2)), (4, .int (Int32.ofInt a3)), (5, .int (Int32.ofInt a4))] [] s _
  refine lf_eqs (lv' := [(0, .ref 95), (1, .long (Int64.ofInt (lf_wl a1))), (3, .int (Int32.ofInt a2)), (4, .int (Int32.ofInt a3)), (5, .int (Int32.ofInt a4))]) (st' := []) (by simp only [lf_wlE]) rfl ?_
  refine lf_seg 2 (pc' := 2) (lv' := [(0, .ref 95), (1, .long (Int64.ofInt (lf_wl a1))), (3, .int (Int32.ofInt a2)), (4, .int (Int32.ofInt a3)), (5, .int (Int32.ofInt a4))]) (st' := [.long (Int64.ofInt (lf_wl a1)), .ref 95]) rfl ?_
  refine lf_callZ 5 rfl rfl rfl rfl (gm_207 h) (fun z22 s21 h => ?_)
  refine lf_ifz_ne 10 8 rfl rfl rfl (fun c => ?_) (fun c => ?_)
  · have h := h.1 c
    refine lf_seg 1 (pc' := 11) (lv' := [(0, .ref 95), (1, .long (Int64.ofInt (lf_wl a1))), (3, .int (Int32.ofInt a2)), (4, .int (Int32.ofInt a3)), (5, .int (Int32.ofInt a4))]) (st' := [.ref 95]) rfl ?_
    refine lf_callV 14 rfl rfl rfl rfl (gm_197 h) (fun s23 h => ?_)
    refine lf_seg 4 (pc' := 20) (lv' := [(0, .ref 95), (1, .long (Int64.ofInt (lf_wl a1))), (3, .int (Int32.ofInt a2)), (4, .int (Int32.ofInt a3)), (5, .int (Int32.ofInt a4))]) (st' := [.int (Int32.ofInt a4), .int (Int32.ofInt a3), .int (Int32.ofInt a2), .ref 95]) rfl ?_
    refine lf_callI 23 rfl rfl rfl rfl (gm_213 h) (fun r25 s24 h => ?_)
    exact lf_retI rfl rfl h
  · have h := h.2 c
    refine lf_seg 1 (pc' := 9) (lv' := [(0, .ref 95), (1, .long (Int64.ofInt (lf_wl a1))), (3, .int (Int32.ofInt a2)), (4, .int (Int32.ofInt a3)), (5, .int (Int32.ofInt a4))]) (st' := [.int (Int32.ofInt 1)]) rfl ?_
    exact lf_retI rfl rfl h
-- fm_212 Model.pair 95 i i i l i i
def fm_212 (a1 : Int) (a2 : Int) (a3 : Int) (a4 : Int) (a5 : Int) (a6 : Int) (Q : Int → lf_Z → Prop) (s : lf_Z) : Prop := fm_213 (a1 + 1) a2 a3 (fun r22 s21 => (lf_R r22 ∧ ((r22 = 0 → (fm_214 (lf_wl a4) (a1 + 2) a5 a6 (fun r25 s24 => (Q r25 s24)) s21)) ∧ (¬ (r22 = 0) → (Q r22 s21))))) s
set_option maxRecDepth 100000 in
theorem gm_212 {L : Nat} {xs : Nat → Int32} {d : Nat} {a1 : Int} {a2 : Int} {a3 : Int} {a4 : Int} {a5 : Int} {a6 : Int} {Q : Int → lf_Z → Prop} {s : lf_Z} (h : fm_212 a1 a2 a3 a4 a5 a6 Q s) : lf_M (px_ro L xs) (d + 5) 212 [.ref 95, .int (Int32.ofInt a1), .int (Int32.ofInt a2), .int (Int32.ofInt a3), .long (Int64.ofInt a4), .int (Int32.ofInt a5), .int (Int32.ofInt a6)] s (lf_qi Q) := by
  unfold fm_212 at h
  show lf_E (px_ro L xs) (d + 5) 212 0 [(0, .ref 95), (1, .int (Int32.ofInt a1)), (2, .int (Int32.ofInt a2)), (3, .int (Int32.ofInt a3)), (4, .long (Int64.ofInt a4)), (6, .int (Int32.ofInt a5)), (7, .int (Int32.ofInt a6))] [] s _
  refine lf_eqs (lv' := [(0, .ref 95), (1, .int (Int32.ofInt a1)), (2, .int (Int32.ofInt a2)), (3, .int (Int32.ofInt a3)), (4, .long (Int64.ofInt (lf_wl a4))), (6, .int (Int32.ofInt a5)), (7, .int (Int32.ofInt a6))]) (st' := []) (by simp only [lf_wlE]) rfl ?_
  refine lf_seg 3 (pc' := 3) (lv' := [(0, .ref 95), (1, .int (Int32.ofInt a1)), (2, .int (Int32.ofInt a2)), (3, .int (Int32.ofInt a3)), (4, .long (Int64.ofInt (lf_wl a4))), (6, .int (Int32.ofInt a5)), (7, .int (Int32.ofInt a6))]) (st' := [.int (Int32.ofInt 1), .int (Int32.ofInt a1), .ref 95]) rfl ?_
  refine lf_iadd 4 rfl rfl ?_
  refine lf_seg 2 (pc' := 6) (lv' := [(0, .ref 95), (1, .int (Int32.ofInt a1)), (2, .int (Int32.ofInt a2)), (3, .int (Int32.ofInt a3)), (4, .long (Int64.ofInt (lf_wl a4))), (6, .int (Int32.ofInt a5)), (7, .int (Int32.ofInt a6))]) (st' := [.int (Int32.ofInt a3), .int (Int32.ofInt a2), .int (Int32.ofInt (a1 + 1)), .ref 95]) rfl ?_
  refine lf_callI 9 rfl rfl rfl rfl (gm_213 h) (fun r22 s21 h => ?_)
  refine lf_seg 2 (pc' := 13) (lv' := [(8, .int (Int32.ofInt r22)), (0, .ref 95), (1, .int (Int32.ofInt a1)), (2, .int (Int32.ofInt a2)), (3, .int (Int32.ofInt a3)), (4, .long (Int64.ofInt (lf_wl a4))), (6, .int (Int32.ofInt a5)), (7, .int (Int32.ofInt a6))]) (st' := [.int (Int32.ofInt r22)]) rfl ?_
  obtain ⟨o23, h⟩ := h
  refine lf_if_eq 21 16 rfl rfl rfl o23 (fun c => ?_) (fun c => ?_)
  · have h := h.1 c
    refine lf_seg 4 (pc' := 26) (lv' := [(8, .int (Int32.ofInt r22)), (0, .ref 95), (1, .int (Int32.ofInt a1)), (2, .int (Int32.ofInt a2)), (3, .int (Int32.ofInt a3)), (4, .long (Int64.ofInt (lf_wl a4))), (6, .int (Int32.ofInt a5)), (7, .int (Int32.ofInt a6))]) (st' := [.int (Int32.ofInt 2), .int (Int32.ofInt a1), .long (Int64.ofInt (lf_wl a4)), .ref 95]) rfl ?_
    refine lf_iadd 27 rfl rfl ?_
    refine lf_seg 2 (pc' := 31) (lv' := [(8, .int (Int32.ofInt r22)), (0, .ref 95), (1, .int (Int32.ofInt a1)), (2, .int (Int32.ofInt a2)), (3, .int (Int32.ofInt a3)), (4, .long (Int64.ofInt (lf_wl a4))), (6, .int (Int32.ofInt a5)), (7, .int (Int32.ofInt a6))]) (st' := [.int (Int32.ofInt a6), .int (Int32.ofInt a5), .int (Int32.ofInt (a1 + 2)), .long (Int64.ofInt (lf_wl a4)), .ref 95]) rfl ?_
    refine lf_callI 34 rfl rfl rfl rfl (gm_214 h) (fun r25 s24 h => ?_)
    exact lf_retI rfl rfl h
  · have h := h.2 c
    refine lf_seg 2 (pc' := 34) (lv' := [(8, .int (Int32.ofInt r22)), (0, .ref 95), (1, .int (Int32.ofInt a1)), (2, .int (Int32.ofInt a2)), (3, .int (Int32.ofInt a3)), (4, .long (Int64.ofInt (lf_wl a4))), (6, .int (Int32.ofInt a5)), (7, .int (Int32.ofInt a6))]) (st' := [.int (Int32.ofInt r22)]) rfl ?_
    exact lf_retI rfl rfl h
-- fm_211 Model.body 95 i i
def fm_211 (a1 : Int) (a2 : Int) (Q : Int → lf_Z → Prop) (s : lf_Z) : Prop := lf_R a1 ∧ ((a1 < 3 ∨ 12 < a1 → (fm_215 a2 (fun r23 s22 => (Q r23 s22)) s)) ∧ (a1 = 3 → (fm_204 104 97 114 109 (fun r25 s24 => (fm_212 a2 0 3 (lf_wl r25) 0 99 (fun r27 s26 => (Q r27 s26)) s24)) s)) ∧ (a1 = 4 → (fm_206 116 111 (fun r29 s28 => (fm_212 a2 0 11 (lf_wl r29) 0 11 (fun r31 s30 => (Q r31 s30)) s28)) s)) ∧ (a1 = 5 → (fm_206 116 111 (fun r33 s32 => (fm_212 a2 0 11 (lf_wl r33) 0 11 (fun r35 s34 => (Q r35 s34)) s32)) s)) ∧ (a1 = 6 → (fm_206 97 116 (fun r37 s36 => (fm_212 a2 0 9 (lf_wl r37) 0 11 (fun r39 s38 => (Q r39 s38)) s36)) s)) ∧ (a1 = 7 → (fm_206 97 116 (fun r41 s40 => (fm_212 a2 1 24 (lf_wl r41) 0 11 (fun r43 s42 => (Q r43 s42)) s40)) s)) ∧ (a1 = 8 → (fm_206 116 111 (fun r45 s44 => (fm_212 a2 0 5 (lf_wl r45) 0 11 (fun r47 s46 => (Q r47 s46)) s44)) s)) ∧ (a1 = 9 → (fm_213 (a2 + 1) 0 15 (fun r49 s48 => (Q r49 s48)) s)) ∧ (a1 = 10 → (fm_213 (a2 + 1) 0 15 (fun r51 s50 => (Q r51 s50)) s)) ∧ (a1 = 11 → (fm_206 98 121 (fun r53 s52 => (fm_212 a2 0 3 (lf_wl r53) 1 24 (fun r55 s54 => (Q r55 s54)) s52)) s)) ∧ (a1 = 12 → (fm_213 (a2 + 1) 1 60 (fun r57 s56 => (Q r57 s56)) s)))
set_option maxRecDepth 100000 in
theorem gm_211 {L : Nat} {xs : Nat → Int32} {d : Nat} {a1 : Int} {a2 : Int} {Q : Int → lf_Z → Prop} {s : lf_Z} (h : fm_211 a1 a2 Q s) : lf_M (px_ro L xs) (d + 10) 211 [.ref 95, .int (Int32.ofInt a1), .int (Int32.ofInt a2)] s (lf_qi Q) := by
  unfold fm_211 at h
  show lf_E (px_ro L xs) (d + 10) 211 0 [(0, .ref 95), (1, .int (Int32.ofInt a1)), (2, .int (Int32.ofInt a2))] [] s _
  refine lf_seg 1 (pc' := 1) (lv' := [(0, .ref 95), (1, .int (Int32.ofInt a1)), (2, .int (Int32.ofInt a2))]) (st' := [.int (Int32.ofInt a1)]) rfl ?_
  obtain ⟨o21, h⟩ := h
  refine lf_tsw 223 [(3, 56), (4, 78), (5, 97), (6, 116), (7, 135), (8, 154), (9, 172), (10, 183), (11, 194), (12, 212)] rfl rfl rfl (by decide) o21 (fun c => ?_) (lf_tab1 (fun c => ?_) (lf_tab1 (fun c => ?_) (lf_tab1 (fun c => ?_) (lf_tab1 (fun c => ?_) (lf_tab1 (fun c => ?_) (lf_tab1 (fun c => ?_) (lf_tab1 (fun c => ?_) (lf_tab1 (fun c => ?_) (lf_tab1 (fun c => ?_) (lf_tab1 (fun c => ?_) lf_tab0))))))))))
  · have h := h.1 c
    refine lf_seg 2 (pc' := 225) (lv' := [(0, .ref 95), (1, .int (Int32.ofInt a1)), (2, .int (Int32.ofInt a2))]) (st' := [.int (Int32.ofInt a2), .ref 95]) rfl ?_
    refine lf_callI 228 rfl rfl rfl rfl (gm_215 h) (fun r23 s22 h => ?_)
    exact lf_retI rfl rfl h
  · have h := h.2.1 c
    refine lf_seg 4 (pc' := 60) (lv' := [(0, .ref 95), (1, .int (Int32.ofInt a1)), (2, .int (Int32.ofInt a2))]) (st' := [.int (Int32.ofInt 3), .int (Int32.ofInt 0), .int (Int32.ofInt a2), .ref 95]) rfl ?_
    refine lf_bipush 62 104 rfl rfl (by decide) (by decide) ?_
    refine lf_bipush 64 97 rfl rfl (by decide) (by decide) ?_
    refine lf_bipush 66 114 rfl rfl (by decide) (by decide) ?_
    refine lf_bipush 68 109 rfl rfl (by decide) (by decide) ?_
    refine lf_callL 71 rfl rfl rfl rfl (gm_204 h) (fun r25 s24 h => ?_)
    refine lf_wtL ?_
    refine lf_seg 1 (pc' := 72) (lv' := [(0, .ref 95), (1, .int (Int32.ofInt a1)), (2, .int (Int32.ofInt a2))]) (st' := [.int (Int32.ofInt 0), .long (Int64.ofInt (lf_wl r25)), .int (Int32.ofInt 3), .int (Int32.ofInt 0), .int (Int32.ofInt a2), .ref 95]) rfl ?_
    refine lf_bipush 74 99 rfl rfl (by decide) (by decide) ?_
    refine lf_callI 77 rfl rfl rfl rfl (gm_212 h) (fun r27 s26 h => ?_)
    exact lf_retI rfl rfl h
  · have h := h.2.2.1 c
    refine lf_seg 3 (pc' := 81) (lv' := [(0, .ref 95), (1, .int (Int32.ofInt a1)), (2, .int (Int32.ofInt a2))]) (st' := [.int (Int32.ofInt 0), .int (Int32.ofInt a2), .ref 95]) rfl ?_
    refine lf_bipush 83 11 rfl rfl (by decide) (by decide) ?_
    refine lf_bipush 85 116 rfl rfl (by decide) (by decide) ?_
    refine lf_bipush 87 111 rfl rfl (by decide) (by decide) ?_
    refine lf_callL 90 rfl rfl rfl rfl (gm_206 h) (fun r29 s28 h => ?_)
    refine lf_wtL ?_
    refine lf_seg 1 (pc' := 91) (lv' := [(0, .ref 95), (1, .int (Int32.ofInt a1)), (2, .int (Int32.ofInt a2))]) (st' := [.int (Int32.ofInt 0), .long (Int64.ofInt (lf_wl r29)), .int (Int32.ofInt 11), .int (Int32.ofInt 0), .int (Int32.ofInt a2), .ref 95]) rfl ?_
    refine lf_bipush 93 11 rfl rfl (by decide) (by decide) ?_
    refine lf_callI 96 rfl rfl rfl rfl (gm_212 h) (fun r31 s30 h => ?_)
    exact lf_retI rfl rfl h
  · have h := h.2.2.2.1 c
    refine lf_seg 3 (pc' := 100) (lv' := [(0, .ref 95), (1, .int (Int32.ofInt a1)), (2, .int (Int32.ofInt a2))]) (st' := [.int (Int32.ofInt 0), .int (Int32.ofInt a2), .ref 95]) rfl ?_
    refine lf_bipush 102 11 rfl rfl (by decide) (by decide) ?_
    refine lf_bipush 104 116 rfl rfl (by decide) (by decide) ?_
    refine lf_bipush 106 111 rfl rfl (by decide) (by decide) ?_
    refine lf_callL 109 rfl rfl rfl rfl (gm_206 h) (fun r33 s32 h => ?_)
    refine lf_wtL ?_
    refine lf_seg 1 (pc' := 110) (lv' := [(0, .ref 95), (1, .int (Int32.ofInt a1)), (2, .int (Int32.ofInt a2))]) (st' := [.int (Int32.ofInt 0), .long (Int64.ofInt (lf_wl r33)), .int (Int32.ofInt 11), .int (Int32.ofInt 0), .int (Int32.ofInt a2), .ref 95]) rfl ?_
    refine lf_bipush 112 11 rfl rfl (by decide) (by decide) ?_
    refine lf_callI 115 rfl rfl rfl rfl (gm_212 h) (fun r35 s34 h => ?_)
    exact lf_retI rfl rfl h
  · have h := h.2.2.2.2.1 c
    refine lf_seg 3 (pc' := 119) (lv' := [(0, .ref 95), (1, .int (Int32.ofInt a1)), (2, .int (Int32.ofInt a2))]) (st' := [.int (Int32.ofInt 0), .int (Int32.ofInt a2), .ref 95]) rfl ?_
    refine lf_bipush 121 9 rfl rfl (by decide) (by decide) ?_
    refine lf_bipush 123 97 rfl rfl (by decide) (by decide) ?_
    refine lf_bipush 125 116 rfl rfl (by decide) (by decide) ?_
    refine lf_callL 128 rfl rfl rfl rfl (gm_206 h) (fun r37 s36 h => ?_)
    refine lf_wtL ?_
    refine lf_seg 1 (pc' := 129) (lv' := [(0, .ref 95), (1, .int (Int32.ofInt a1)), (2, .int (Int32.ofInt a2))]) (st' := [.int (Int32.ofInt 0), .long (Int64.ofInt (lf_wl r37)), .int (Int32.ofInt 9), .int (Int32.ofInt 0), .int (Int32.ofInt a2), .ref 95]) rfl ?_
    refine lf_bipush 131 11 rfl rfl (by decide) (by decide) ?_
    refine lf_callI 134 rfl rfl rfl rfl (gm_212 h) (fun r39 s38 h => ?_)
    exact lf_retI rfl rfl h
  · have h := h.2.2.2.2.2.1 c
    refine lf_seg 3 (pc' := 138) (lv' := [(0, .ref 95), (1, .int (Int32.ofInt a1)), (2, .int (Int32.ofInt a2))]) (st' := [.int (Int32.ofInt 1), .int (Int32.ofInt a2), .ref 95]) rfl ?_
    refine lf_bipush 140 24 rfl rfl (by decide) (by decide) ?_
    refine lf_bipush 142 97 rfl rfl (by decide) (by decide) ?_
    refine lf_bipush 144 116 rfl rfl (by decide) (by decide) ?_
    refine lf_callL 147 rfl rfl rfl rfl (gm_206 h) (fun r41 s40 h => ?_)
    refine lf_wtL ?_
    refine lf_seg 1 (pc' := 148) (lv' := [(0, .ref 95), (1, .int (Int32.ofInt a1)), (2, .int (Int32.ofInt a2))]) (st' := [.int (Int32.ofInt 0), .long (Int64.ofInt (lf_wl r41)), .int (Int32.ofInt 24), .int (Int32.ofInt 1), .int (Int32.ofInt a2), .ref 95]) rfl ?_
    refine lf_bipush 150 11 rfl rfl (by decide) (by decide) ?_
    refine lf_callI 153 rfl rfl rfl rfl (gm_212 h) (fun r43 s42 h => ?_)
    exact lf_retI rfl rfl h
  · have h := h.2.2.2.2.2.2.1 c
    refine lf_seg 4 (pc' := 158) (lv' := [(0, .ref 95), (1, .int (Int32.ofInt a1)), (2, .int (Int32.ofInt a2))]) (st' := [.int (Int32.ofInt 5), .int (Int32.ofInt 0), .int (Int32.ofInt a2), .ref 95]) rfl ?_
    refine lf_bipush 160 116 rfl rfl (by decide) (by decide) ?_
    refine lf_bipush 162 111 rfl rfl (by decide) (by decide) ?_
    refine lf_callL 165 rfl rfl rfl rfl (gm_206 h) (fun r45 s44 h => ?_)
    refine lf_wtL ?_
    refine lf_seg 1 (pc' := 166) (lv' := [(0, .ref 95), (1, .int (Int32.ofInt a1)), (2, .int (Int32.ofInt a2))]) (st' := [.int (Int32.ofInt 0), .long (Int64.ofInt (lf_wl r45)), .int (Int32.ofInt 5), .int (Int32.ofInt 0), .int (Int32.ofInt a2), .ref 95]) rfl ?_
    refine lf_bipush 168 11 rfl rfl (by decide) (by decide) ?_
    refine lf_callI 171 rfl rfl rfl rfl (gm_212 h) (fun r47 s46 h => ?_)
    exact lf_retI rfl rfl h
  · have h := h.2.2.2.2.2.2.2.1 c
    refine lf_seg 3 (pc' := 175) (lv' := [(0, .ref 95), (1, .int (Int32.ofInt a1)), (2, .int (Int32.ofInt a2))]) (st' := [.int (Int32.ofInt 1), .int (Int32.ofInt a2), .ref 95]) rfl ?_
    refine lf_iadd 176 rfl rfl ?_
    refine lf_seg 1 (pc' := 177) (lv' := [(0, .ref 95), (1, .int (Int32.ofInt a1)), (2, .int (Int32.ofInt a2))]) (st' := [.int (Int32.ofInt 0), .int (Int32.ofInt (a2 + 1)), .ref 95]) rfl ?_
    refine lf_bipush 179 15 rfl rfl (by decide) (by decide) ?_
    refine lf_callI 182 rfl rfl rfl rfl (gm_213 h) (fun r49 s48 h => ?_)
    exact lf_retI rfl rfl h
  · have h := h.2.2.2.2.2.2.2.2.1 c
    refine lf_seg 3 (pc' := 186) (lv' := [(0, .ref 95), (1, .int (Int32.ofInt a1)), (2, .int (Int32.ofInt a2))]) (st' := [.int (Int32.ofInt 1), .int (Int32.ofInt a2), .ref 95]) rfl ?_
    refine lf_iadd 187 rfl rfl ?_
    refine lf_seg 1 (pc' := 188) (lv' := [(0, .ref 95), (1, .int (Int32.ofInt a1)), (2, .int (Int32.ofInt a2))]) (st' := [.int (Int32.ofInt 0), .int (Int32.ofInt (a2 + 1)), .ref 95]) rfl ?_
    refine lf_bipush 190 15 rfl rfl (by decide) (by decide) ?_
    refine lf_callI 193 rfl rfl rfl rfl (gm_213 h) (fun r51 s50 h => ?_)
    exact lf_retI rfl rfl h
  · have h := h.2.2.2.2.2.2.2.2.2.1 c
    refine lf_seg 4 (pc' := 198) (lv' := [(0, .ref 95), (1, .int (Int32.ofInt a1)), (2, .int (Int32.ofInt a2))]) (st' := [.int (Int32.ofInt 3), .int (Int32.ofInt 0), .int (Int32.ofInt a2), .ref 95]) rfl ?_
    refine lf_bipush 200 98 rfl rfl (by decide) (by decide) ?_
    refine lf_bipush 202 121 rfl rfl (by decide) (by decide) ?_
    refine lf_callL 205 rfl rfl rfl rfl (gm_206 h) (fun r53 s52 h => ?_)
    refine lf_wtL ?_
    refine lf_seg 1 (pc' := 206) (lv' := [(0, .ref 95), (1, .int (Int32.ofInt a1)), (2, .int (Int32.ofInt a2))]) (st' := [.int (Int32.ofInt 1), .long (Int64.ofInt (lf_wl r53)), .int (Int32.ofInt 3), .int (Int32.ofInt 0), .int (Int32.ofInt a2), .ref 95]) rfl ?_
    refine lf_bipush 208 24 rfl rfl (by decide) (by decide) ?_
    refine lf_callI 211 rfl rfl rfl rfl (gm_212 h) (fun r55 s54 h => ?_)
    exact lf_retI rfl rfl h
  · have h := h.2.2.2.2.2.2.2.2.2.2 c
    refine lf_seg 3 (pc' := 215) (lv' := [(0, .ref 95), (1, .int (Int32.ofInt a1)), (2, .int (Int32.ofInt a2))]) (st' := [.int (Int32.ofInt 1), .int (Int32.ofInt a2), .ref 95]) rfl ?_
    refine lf_iadd 216 rfl rfl ?_
    refine lf_seg 1 (pc' := 217) (lv' := [(0, .ref 95), (1, .int (Int32.ofInt a1)), (2, .int (Int32.ofInt a2))]) (st' := [.int (Int32.ofInt 1), .int (Int32.ofInt (a2 + 1)), .ref 95]) rfl ?_
    refine lf_bipush 219 60 rfl rfl (by decide) (by decide) ?_
    refine lf_callI 222 rfl rfl rfl rfl (gm_213 h) (fun r57 s56 h => ?_)
    exact lf_retI rfl rfl h
-- fm_210 Model.has i i
def fm_210 (a0 : Int) (a1 : Int) (Q : Bool → lf_Z → Prop) (s : lf_Z) : Prop := (lf_and (lf_shr a0 a1) 1 ≠ 1 → (Q false s)) ∧ (¬ (lf_and (lf_shr a0 a1) 1 ≠ 1) → (Q true s))
set_option maxRecDepth 100000 in
theorem gm_210 {L : Nat} {xs : Nat → Int32} {d : Nat} {a0 : Int} {a1 : Int} {Q : Bool → lf_Z → Prop} {s : lf_Z} (h : fm_210 a0 a1 Q s) : lf_M (px_ro L xs) (d + 1) 210 [.int (Int32.ofInt a0), .int (Int32.ofInt a1)] s (lf_qz Q) := by
  unfold fm_210 at h
  show lf_E (px_ro L xs) (d + 1) 210 0 [(0, .int (Int32.ofInt a0)), (1, .int (Int32.ofInt a1))] [] s _
  refine lf_seg 2 (pc' := 2) (lv' := [(0, .int (Int32.ofInt a0)), (1, .int (Int32.ofInt a1))]) (st' := [.int (Int32.ofInt a1), .int (Int32.ofInt a0)]) rfl ?_
  refine lf_ishr 3 rfl rfl ?_
  refine lf_seg 1 (pc' := 4) (lv' := [(0, .int (Int32.ofInt a0)), (1, .int (Int32.ofInt a1))]) (st' := [.int (Int32.ofInt 1), .int (Int32.ofInt (lf_shr a0 a1))]) rfl ?_
  refine lf_iand 5 rfl rfl ?_
  refine lf_seg 1 (pc' := 6) (lv' := [(0, .int (Int32.ofInt a0)), (1, .int (Int32.ofInt a1))]) (st' := [.int (Int32.ofInt 1), .int (Int32.ofInt (lf_and (lf_shr a0 a1) 1))]) rfl ?_
  refine lf_icmp_ne 13 9 rfl rfl rfl lf_Rand ⟨by decide, by decide⟩ (fun c => ?_) (fun c => ?_)
  · have h := h.1 c
    refine lf_seg 1 (pc' := 14) (lv' := [(0, .int (Int32.ofInt a0)), (1, .int (Int32.ofInt a1))]) (st' := [.int (Int32.ofInt 0)]) rfl ?_
    exact lf_retZ false rfl rfl h
  · have h := h.2 c
    refine lf_seg 2 (pc' := 14) (lv' := [(0, .int (Int32.ofInt a0)), (1, .int (Int32.ofInt a1))]) (st' := [.int (Int32.ofInt 1)]) rfl ?_
    exact lf_retZ true rfl rfl h
-- fm_202 Model.clause 95
def fm_202_p65 (Q : Int → lf_Z → Prop) (x1 : Int) (x2 : Int) (s : lf_Z) : Prop := fm_197 (fun s27 => ((0 ≤ ((s27.1 95 12) + 1) + (4 * x2) ∧ ((s27.1 95 12) + 1) + (4 * x2) < 2820) ∧ (fm_211 x1 (((s27.1 95 12) + 1) + (4 * x2)) (fun r30 s29 => (lf_R r30 ∧ ((r30 = 0 → ((0 ≤ s29.1 95 12 ∧ s29.1 95 12 < 2820) ∧ (lf_R (s29.1 95 9) ∧ ((s29.1 95 9 = 59 → (fm_197 (fun s34 => (Q 0 s34)) (lf_up s29.1 98 (s29.1 95 12) ((s29.1 98 (s29.1 95 12)) + 1), s29.2.1, s29.2.2))) ∧ (¬ (s29.1 95 9 = 59) → (Q 1 (lf_up s29.1 98 (s29.1 95 12) ((s29.1 98 (s29.1 95 12)) + 1), s29.2.1, s29.2.2))))))) ∧ (¬ (r30 = 0) → (Q r30 s29))))) (lf_up s27.1 98 (((s27.1 95 12) + 1) + (4 * x2)) x1, s27.2.1, s27.2.2)))) (lf_up s.1 95 14 x1, s.2.1, s.2.2)
set_option maxRecDepth 100000 in
theorem gm_202_p65 {L : Nat} {xs : Nat → Int32} {d : Nat} {Q : Int → lf_Z → Prop} {x1 : Int} {x2 : Int} {s : lf_Z} (h : fm_202_p65 Q x1 x2 s) : lf_E (px_ro L xs) (d + 11) 202 65 [(0, .ref 95), (1, .int (Int32.ofInt x1)), (2, .int (Int32.ofInt x2))] [] s (lf_qi Q) := by
  unfold fm_202_p65 at h
  refine lf_seg 2 (pc' := 67) (lv' := [(0, .ref 95), (1, .int (Int32.ofInt x1)), (2, .int (Int32.ofInt x2))]) (st' := [.int (Int32.ofInt x1), .ref 95]) rfl ?_
  refine lf_putI 70 14 rfl rfl rfl rfl rfl rfl rfl rfl ?_
  refine lf_as (lf_up s.1 95 14 x1, s.2.1, s.2.2) rfl ?_
  refine lf_seg 1 (pc' := 71) (lv' := [(0, .ref 95), (1, .int (Int32.ofInt x1)), (2, .int (Int32.ofInt x2))]) (st' := [.ref 95]) rfl ?_
  refine lf_callV 74 rfl rfl rfl rfl (gm_197 h) (fun s27 h => ?_)
  refine lf_seg 1 (pc' := 75) (lv' := [(0, .ref 95), (1, .int (Int32.ofInt x1)), (2, .int (Int32.ofInt x2))]) (st' := [.ref 95]) rfl ?_
  refine lf_getI 78 12 rfl rfl rfl rfl rfl rfl rfl ?_
  refine lf_seg 1 (pc' := 79) (lv' := [(0, .ref 95), (1, .int (Int32.ofInt x1)), (2, .int (Int32.ofInt x2))]) (st' := [.int (Int32.ofInt 1), .int (Int32.ofInt (s27.1 95 12))]) rfl ?_
  refine lf_iadd 80 rfl rfl ?_
  refine lf_seg 2 (pc' := 82) (lv' := [(0, .ref 95), (1, .int (Int32.ofInt x1)), (2, .int (Int32.ofInt x2))]) (st' := [.int (Int32.ofInt x2), .int (Int32.ofInt 4), .int (Int32.ofInt ((s27.1 95 12) + 1))]) rfl ?_
  refine lf_imul 83 rfl rfl ?_
  refine lf_iadd 84 rfl rfl ?_
  refine lf_seg 5 (pc' := 91) (lv' := [(3, .int (Int32.ofInt (((s27.1 95 12) + 1) + (4 * x2)))), (0, .ref 95), (1, .int (Int32.ofInt x1)), (2, .int (Int32.ofInt x2))]) (st' := [.int (Int32.ofInt x1), .int (Int32.ofInt (((s27.1 95 12) + 1) + (4 * x2))), .ref 98]) rfl ?_
  obtain ⟨o28, h⟩ := h
  refine lf_iast 92 2820 rfl rfl rfl rfl rfl rfl o28 ?_
  refine lf_as (lf_up s27.1 98 (((s27.1 95 12) + 1) + (4 * x2)) x1, s27.2.1, s27.2.2) rfl ?_
  refine lf_seg 3 (pc' := 95) (lv' := [(3, .int (Int32.ofInt (((s27.1 95 12) + 1) + (4 * x2)))), (0, .ref 95), (1, .int (Int32.ofInt x1)), (2, .int (Int32.ofInt x2))]) (st' := [.int (Int32.ofInt (((s27.1 95 12) + 1) + (4 * x2))), .int (Int32.ofInt x1), .ref 95]) rfl ?_
  refine lf_callI 98 rfl rfl rfl rfl (gm_211 h) (fun r30 s29 h => ?_)
  refine lf_seg 2 (pc' := 102) (lv' := [(4, .int (Int32.ofInt r30)), (3, .int (Int32.ofInt (((s27.1 95 12) + 1) + (4 * x2)))), (0, .ref 95), (1, .int (Int32.ofInt x1)), (2, .int (Int32.ofInt x2))]) (st' := [.int (Int32.ofInt r30)]) rfl ?_
  obtain ⟨o31, h⟩ := h
  refine lf_if_eq 108 105 rfl rfl rfl o31 (fun c => ?_) (fun c => ?_)
  · have h := h.1 c
    refine lf_seg 3 (pc' := 113) (lv' := [(4, .int (Int32.ofInt r30)), (3, .int (Int32.ofInt (((s27.1 95 12) + 1) + (4 * x2)))), (0, .ref 95), (1, .int (Int32.ofInt x1)), (2, .int (Int32.ofInt x2))]) (st' := [.ref 95, .ref 98]) rfl ?_
    refine lf_getI 116 12 rfl rfl rfl rfl rfl rfl rfl ?_
    refine lf_seg 1 (pc' := 117) (lv' := [(4, .int (Int32.ofInt r30)), (3, .int (Int32.ofInt (((s27.1 95 12) + 1) + (4 * x2)))), (0, .ref 95), (1, .int (Int32.ofInt x1)), (2, .int (Int32.ofInt x2))]) (st' := [.int (Int32.ofInt (s29.1 95 12)), .ref 98, .int (Int32.ofInt (s29.1 95 12)), .ref 98]) rfl ?_
    obtain ⟨o32, h⟩ := h
    refine lf_iald 118 2820 rfl rfl rfl rfl rfl rfl o32 ?_
    refine lf_seg 1 (pc' := 119) (lv' := [(4, .int (Int32.ofInt r30)), (3, .int (Int32.ofInt (((s27.1 95 12) + 1) + (4 * x2)))), (0, .ref 95), (1, .int (Int32.ofInt x1)), (2, .int (Int32.ofInt x2))]) (st' := [.int (Int32.ofInt 1), .int (Int32.ofInt (s29.1 98 (s29.1 95 12))), .int (Int32.ofInt (s29.1 95 12)), .ref 98]) rfl ?_
    refine lf_iadd 120 rfl rfl ?_
    refine lf_iast 121 2820 rfl rfl rfl rfl rfl rfl o32 ?_
    refine lf_as (lf_up s29.1 98 (s29.1 95 12) ((s29.1 98 (s29.1 95 12)) + 1), s29.2.1, s29.2.2) rfl ?_
    refine lf_seg 1 (pc' := 122) (lv' := [(4, .int (Int32.ofInt r30)), (3, .int (Int32.ofInt (((s27.1 95 12) + 1) + (4 * x2)))), (0, .ref 95), (1, .int (Int32.ofInt x1)), (2, .int (Int32.ofInt x2))]) (st' := [.ref 95]) rfl ?_
    refine lf_getI 125 9 rfl rfl rfl rfl rfl rfl rfl ?_
    refine lf_seg 0 (pc' := 125) (lv' := [(4, .int (Int32.ofInt r30)), (3, .int (Int32.ofInt (((s27.1 95 12) + 1) + (4 * x2)))), (0, .ref 95), (1, .int (Int32.ofInt x1)), (2, .int (Int32.ofInt x2))]) (st' := [.int (Int32.ofInt (s29.1 95 9))]) rfl ?_
    refine lf_bipush 127 59 rfl rfl (by decide) (by decide) ?_
    obtain ⟨o33, h⟩ := h
    refine lf_icmp_eq 132 130 rfl rfl rfl o33 ⟨by decide, by decide⟩ (fun c => ?_) (fun c => ?_)
    · have h := h.1 c
      refine lf_seg 1 (pc' := 133) (lv' := [(4, .int (Int32.ofInt r30)), (3, .int (Int32.ofInt (((s27.1 95 12) + 1) + (4 * x2)))), (0, .ref 95), (1, .int (Int32.ofInt x1)), (2, .int (Int32.ofInt x2))]) (st' := [.ref 95]) rfl ?_
      refine lf_callV 136 rfl rfl rfl rfl (gm_197 h) (fun s34 h => ?_)
      refine lf_seg 1 (pc' := 137) (lv' := [(4, .int (Int32.ofInt r30)), (3, .int (Int32.ofInt (((s27.1 95 12) + 1) + (4 * x2)))), (0, .ref 95), (1, .int (Int32.ofInt x1)), (2, .int (Int32.ofInt x2))]) (st' := [.int (Int32.ofInt 0)]) rfl ?_
      exact lf_retI rfl rfl h
    · have h := h.2 c
      refine lf_seg 1 (pc' := 131) (lv' := [(4, .int (Int32.ofInt r30)), (3, .int (Int32.ofInt (((s27.1 95 12) + 1) + (4 * x2)))), (0, .ref 95), (1, .int (Int32.ofInt x1)), (2, .int (Int32.ofInt x2))]) (st' := [.int (Int32.ofInt 1)]) rfl ?_
      exact lf_retI rfl rfl h
  · have h := h.2 c
    refine lf_seg 1 (pc' := 107) (lv' := [(4, .int (Int32.ofInt r30)), (3, .int (Int32.ofInt (((s27.1 95 12) + 1) + (4 * x2)))), (0, .ref 95), (1, .int (Int32.ofInt x1)), (2, .int (Int32.ofInt x2))]) (st' := [.int (Int32.ofInt r30)]) rfl ?_
    exact lf_retI rfl rfl h
def fm_202_p29 (Q : Int → lf_Z → Prop) (x1 : Int) (s : lf_Z) : Prop := (0 ≤ s.1 95 12 ∧ s.1 95 12 < 2820) ∧ (lf_R (s.1 98 (s.1 95 12)) ∧ ((s.1 98 (s.1 95 12) ≠ 24 → (lf_R x1 ∧ ((2 < x1 → (fm_202_p65 Q x1 (s.1 98 (s.1 95 12)) s)) ∧ (¬ (2 < x1) → (fm_202_p65 Q x1 (s.1 98 (s.1 95 12)) (lf_up s.1 95 24 (lf_or (s.1 95 24) (lf_shl 1 x1)), s.2.1, s.2.2)))))) ∧ (¬ (s.1 98 (s.1 95 12) ≠ 24) → (Q 6 s))))
set_option maxRecDepth 100000 in
theorem gm_202_p29 {L : Nat} {xs : Nat → Int32} {d : Nat} {Q : Int → lf_Z → Prop} {x1 : Int} {s : lf_Z} (h : fm_202_p29 Q x1 s) : lf_E (px_ro L xs) (d + 11) 202 29 [(0, .ref 95), (1, .int (Int32.ofInt x1))] [] s (lf_qi Q) := by
  unfold fm_202_p29 at h
  refine lf_seg 3 (pc' := 34) (lv' := [(0, .ref 95), (1, .int (Int32.ofInt x1))]) (st' := [.ref 95, .ref 98]) rfl ?_
  refine lf_getI 37 12 rfl rfl rfl rfl rfl rfl rfl ?_
  obtain ⟨o24, h⟩ := h
  refine lf_iald 38 2820 rfl rfl rfl rfl rfl rfl o24 ?_
  refine lf_seg 2 (pc' := 40) (lv' := [(2, .int (Int32.ofInt (s.1 98 (s.1 95 12)))), (0, .ref 95), (1, .int (Int32.ofInt x1))]) (st' := [.int (Int32.ofInt (s.1 98 (s.1 95 12)))]) rfl ?_
  refine lf_bipush 42 24 rfl rfl (by decide) (by decide) ?_
  obtain ⟨o25, h⟩ := h
  refine lf_icmp_ne 48 45 rfl rfl rfl o25 ⟨by decide, by decide⟩ (fun c => ?_) (fun c => ?_)
  · have h := h.1 c
    refine lf_seg 2 (pc' := 50) (lv' := [(2, .int (Int32.ofInt (s.1 98 (s.1 95 12)))), (0, .ref 95), (1, .int (Int32.ofInt x1))]) (st' := [.int (Int32.ofInt 2), .int (Int32.ofInt x1)]) rfl ?_
    obtain ⟨o26, h⟩ := h
    refine lf_icmp_gt 65 53 rfl rfl rfl o26 ⟨by decide, by decide⟩ (fun c => ?_) (fun c => ?_)
    · have h := h.1 c
      refine lf_sub (l := [(0, .ref 95), (1, .int (Int32.ofInt x1)), (2, .int (Int32.ofInt (s.1 98 (s.1 95 12))))]) (lf_sb1 rfl (lf_sb1 rfl (lf_sb1 rfl lf_sb0))) ?_
      exact gm_202_p65 h
    · have h := h.2 c
      refine lf_seg 2 (pc' := 55) (lv' := [(2, .int (Int32.ofInt (s.1 98 (s.1 95 12)))), (0, .ref 95), (1, .int (Int32.ofInt x1))]) (st' := [.ref 95, .ref 95]) rfl ?_
      refine lf_getI 58 24 rfl rfl rfl rfl rfl rfl rfl ?_
      refine lf_seg 2 (pc' := 60) (lv' := [(2, .int (Int32.ofInt (s.1 98 (s.1 95 12)))), (0, .ref 95), (1, .int (Int32.ofInt x1))]) (st' := [.int (Int32.ofInt x1), .int (Int32.ofInt 1), .int (Int32.ofInt (s.1 95 24)), .ref 95]) rfl ?_
      refine lf_ishl 61 rfl rfl ?_
      refine lf_ior 62 rfl rfl ?_
      refine lf_putI 65 24 rfl rfl rfl rfl rfl rfl rfl rfl ?_
      refine lf_as (lf_up s.1 95 24 (lf_or (s.1 95 24) (lf_shl 1 x1)), s.2.1, s.2.2) rfl ?_
      refine lf_sub (l := [(0, .ref 95), (1, .int (Int32.ofInt x1)), (2, .int (Int32.ofInt (s.1 98 (s.1 95 12))))]) (lf_sb1 rfl (lf_sb1 rfl (lf_sb1 rfl lf_sb0))) ?_
      exact gm_202_p65 h
  · have h := h.2 c
    refine lf_bipush 47 6 rfl rfl (by decide) (by decide) ?_
    exact lf_retI rfl rfl h
def fm_202 (Q : Int → lf_Z → Prop) (s : lf_Z) : Prop := fm_203 (fun r22 s21 => (lf_R r22 ∧ ((0 ≤ r22 → ((2 < r22 → (fm_202_p29 Q r22 s21)) ∧ (¬ (2 < r22) → (fm_210 (s21.1 95 24) r22 (fun z36 s35 => ((z36 = false → (fm_202_p29 Q r22 s35)) ∧ (z36 = true → (Q 4 s35)))) s21)))) ∧ (¬ (0 ≤ r22) → (Q 1 s21))))) s
set_option maxRecDepth 100000 in
theorem gm_202 {L : Nat} {xs : Nat → Int32} {d : Nat} {Q : Int → lf_Z → Prop} {s : lf_Z} (h : fm_202 Q s) : lf_M (px_ro L xs) (d + 11) 202 [.ref 95] s (lf_qi Q) := by
  unfold fm_202 at h
  show lf_E (px_ro L xs) (d + 11) 202 0 [(0, .ref 95)] [] s _
  refine lf_seg 1 (pc' := 1) (lv' := [(0, .ref 95)]) (st' := [.ref 95]) rfl ?_
  refine lf_callI 4 rfl rfl rfl rfl (gm_203 h) (fun r22 s21 h => ?_)
  refine lf_seg 2 (pc' := 6) (lv' := [(1, .int (Int32.ofInt r22)), (0, .ref 95)]) (st' := [.int (Int32.ofInt r22)]) rfl ?_
  obtain ⟨o23, h⟩ := h
  refine lf_if_ge 11 9 rfl rfl rfl o23 (fun c => ?_) (fun c => ?_)
  · have h := h.1 c
    refine lf_seg 2 (pc' := 13) (lv' := [(1, .int (Int32.ofInt r22)), (0, .ref 95)]) (st' := [.int (Int32.ofInt 2), .int (Int32.ofInt r22)]) rfl ?_
    refine lf_icmp_gt 29 16 rfl rfl rfl o23 ⟨by decide, by decide⟩ (fun c => ?_) (fun c => ?_)
    · have h := h.1 c
      refine lf_sub (l := [(0, .ref 95), (1, .int (Int32.ofInt r22))]) (lf_sb1 rfl (lf_sb1 rfl lf_sb0)) ?_
      exact gm_202_p29 h
    · have h := h.2 c
      refine lf_seg 1 (pc' := 17) (lv' := [(1, .int (Int32.ofInt r22)), (0, .ref 95)]) (st' := [.ref 95]) rfl ?_
      refine lf_getI 20 24 rfl rfl rfl rfl rfl rfl rfl ?_
      refine lf_seg 1 (pc' := 21) (lv' := [(1, .int (Int32.ofInt r22)), (0, .ref 95)]) (st' := [.int (Int32.ofInt r22), .int (Int32.ofInt (s21.1 95 24))]) rfl ?_
      refine lf_callZ 24 rfl rfl rfl rfl (gm_210 h) (fun z36 s35 h => ?_)
      refine lf_ifz_eq 29 27 rfl rfl rfl (fun c => ?_) (fun c => ?_)
      · have h := h.1 c
        refine lf_sub (l := [(0, .ref 95), (1, .int (Int32.ofInt r22))]) (lf_sb1 rfl (lf_sb1 rfl lf_sb0)) ?_
        exact gm_202_p29 h
      · have h := h.2 c
        refine lf_seg 1 (pc' := 28) (lv' := [(1, .int (Int32.ofInt r22)), (0, .ref 95)]) (st' := [.int (Int32.ofInt 4)]) rfl ?_
        exact lf_retI rfl rfl h
  · have h := h.2 c
    refine lf_seg 1 (pc' := 10) (lv' := [(1, .int (Int32.ofInt r22)), (0, .ref 95)]) (st' := [.int (Int32.ofInt 1)]) rfl ?_
    exact lf_retI rfl rfl h
-- fm_196 Model.readText 95
def fm_196_p44 (Q : Int → lf_Z → Prop) (X44 : lf_Z → Prop) (s : lf_Z) : Prop := lf_R (s.1 95 9) ∧ ((s.1 95 9 = 0 → (Q 0 s)) ∧ (¬ (s.1 95 9 = 0) → (fm_202 (fun r25 s24 => (lf_R r25 ∧ ((r25 = 0 → (X44 s24)) ∧ (¬ (r25 = 0) → (Q r25 s24))))) s)))
def fm_196_p44L (Q : Int → lf_Z → Prop) (s : lf_Z) : Prop := ∀ X44 : lf_Z → Prop, (∀ (s : lf_Z), fm_196_p44 Q X44 s → X44 s) → X44 s
set_option maxRecDepth 100000 in
theorem gm_196_p44 {L : Nat} {xs : Nat → Int32} {d : Nat} {Q : Int → lf_Z → Prop} {s : lf_Z} {X44 : lf_Z → Prop} (hX44 : ∀ s, X44 s → lf_E (px_ro L xs) (d + 12) 196 44 [(0, .ref 95)] [] s (lf_qi Q)) (h : fm_196_p44 Q X44 s) : lf_E (px_ro L xs) (d + 12) 196 44 [(0, .ref 95)] [] s (lf_qi Q) := by
  unfold fm_196_p44 at h
  refine lf_seg 1 (pc' := 45) (lv' := [(0, .ref 95)]) (st' := [.ref 95]) rfl ?_
  refine lf_getI 48 9 rfl rfl rfl rfl rfl rfl rfl ?_
  obtain ⟨o23, h⟩ := h
  refine lf_if_eq 65 51 rfl rfl rfl o23 (fun c => ?_) (fun c => ?_)
  · have h := h.1 c
    refine lf_seg 1 (pc' := 66) (lv' := [(0, .ref 95)]) (st' := [.int (Int32.ofInt 0)]) rfl ?_
    exact lf_retI rfl rfl h
  · have h := h.2 c
    refine lf_seg 1 (pc' := 52) (lv' := [(0, .ref 95)]) (st' := [.ref 95]) rfl ?_
    refine lf_callI 55 rfl rfl rfl rfl (gm_202 h) (fun r25 s24 h => ?_)
    refine lf_seg 2 (pc' := 57) (lv' := [(1, .int (Int32.ofInt r25)), (0, .ref 95)]) (st' := [.int (Int32.ofInt r25)]) rfl ?_
    obtain ⟨o26, h⟩ := h
    refine lf_if_eq 62 60 rfl rfl rfl o26 (fun c => ?_) (fun c => ?_)
    · have h := h.1 c
      refine lf_seg 1 (pc' := 44) (lv' := [(1, .int (Int32.ofInt r25)), (0, .ref 95)]) (st' := []) rfl ?_
      refine lf_sub (l := [(0, .ref 95)]) (lf_sb1 rfl lf_sb0) ?_
      exact hX44 _ h
    · have h := h.2 c
      refine lf_seg 1 (pc' := 61) (lv' := [(1, .int (Int32.ofInt r25)), (0, .ref 95)]) (st' := [.int (Int32.ofInt r25)]) rfl ?_
      exact lf_retI rfl rfl h
theorem gm_196_p44L {L : Nat} {xs : Nat → Int32} {d : Nat} {Q : Int → lf_Z → Prop} {s : lf_Z} (h : fm_196_p44L Q s) : lf_E (px_ro L xs) (d + 12) 196 44 [(0, .ref 95)] [] s (lf_qi Q) :=
  h (fun s => lf_E (px_ro L xs) (d + 12) 196 44 [(0, .ref 95)] [] s (lf_qi Q)) (fun s hb => gm_196_p44 (fun _ h => h) hb)
def fm_196 (Q : Int → lf_Z → Prop) (s : lf_Z) : Prop := (0 ≤ 705 * (s.1 96 7) ∧ 705 * (s.1 96 7) < 2820) ∧ (fm_197 (fun s22 => (fm_196_p44L Q s22)) (lf_up (lf_up (lf_up (lf_up (lf_up s.1 95 12 (705 * (s.1 96 7))) 98 (705 * (s.1 96 7)) 0) 95 13 0) 95 24 0) 95 7 0, s.2.1, s.2.2))
set_option maxRecDepth 100000 in
theorem gm_196 {L : Nat} {xs : Nat → Int32} {d : Nat} {Q : Int → lf_Z → Prop} {s : lf_Z} (h : fm_196 Q s) : lf_M (px_ro L xs) (d + 12) 196 [.ref 95] s (lf_qi Q) := by
  unfold fm_196 at h
  show lf_E (px_ro L xs) (d + 12) 196 0 [(0, .ref 95)] [] s _
  refine lf_seg 1 (pc' := 1) (lv' := [(0, .ref 95)]) (st' := [.ref 95]) rfl ?_
  refine lf_sipush 4 705 rfl rfl (by decide) (by decide) ?_
  refine lf_seg 2 (pc' := 8) (lv' := [(0, .ref 95)]) (st' := [.ref 96, .int (Int32.ofInt 705), .ref 95]) rfl ?_
  refine lf_bipush 10 7 rfl rfl (by decide) (by decide) ?_
  refine lf_iald 11 1538 rfl rfl rfl rfl rfl rfl ⟨by decide, by decide⟩ ?_
  refine lf_imul 12 rfl rfl ?_
  refine lf_putI 15 12 rfl rfl rfl rfl rfl rfl rfl rfl ?_
  refine lf_as (lf_up s.1 95 12 (705 * (s.1 96 7)), s.2.1, s.2.2) rfl ?_
  refine lf_seg 3 (pc' := 20) (lv' := [(0, .ref 95)]) (st' := [.ref 95, .ref 98]) rfl ?_
  refine lf_getI 23 12 rfl rfl rfl rfl rfl rfl rfl ?_
  refine lf_seg 1 (pc' := 24) (lv' := [(0, .ref 95)]) (st' := [.int (Int32.ofInt 0), .int (Int32.ofInt (705 * (s.1 96 7))), .ref 98]) rfl ?_
  obtain ⟨o21, h⟩ := h
  refine lf_iast 25 2820 rfl rfl rfl rfl rfl rfl o21 ?_
  refine lf_as (lf_up (lf_up s.1 95 12 (705 * (s.1 96 7))) 98 (705 * (s.1 96 7)) 0, s.2.1, s.2.2) rfl ?_
  refine lf_seg 2 (pc' := 27) (lv' := [(0, .ref 95)]) (st' := [.int (Int32.ofInt 0), .ref 95]) rfl ?_
  refine lf_putI 30 13 rfl rfl rfl rfl rfl rfl rfl rfl ?_
  refine lf_as (lf_up (lf_up (lf_up s.1 95 12 (705 * (s.1 96 7))) 98 (705 * (s.1 96 7)) 0) 95 13 0, s.2.1, s.2.2) rfl ?_
  refine lf_seg 2 (pc' := 32) (lv' := [(0, .ref 95)]) (st' := [.int (Int32.ofInt 0), .ref 95]) rfl ?_
  refine lf_putI 35 24 rfl rfl rfl rfl rfl rfl rfl rfl ?_
  refine lf_as (lf_up (lf_up (lf_up (lf_up s.1 95 12 (705 * (s.1 96 7))) 98 (705 * (s.1 96 7)) 0) 95 13 0) 95 24 0, s.2.1, s.2.2) rfl ?_
  refine lf_seg 2 (pc' := 37) (lv' := [(0, .ref 95)]) (st' := [.int (Int32.ofInt 0), .ref 95]) rfl ?_
  refine lf_putI 40 7 rfl rfl rfl rfl rfl rfl rfl rfl ?_
  refine lf_as (lf_up (lf_up (lf_up (lf_up (lf_up s.1 95 12 (705 * (s.1 96 7))) 98 (705 * (s.1 96 7)) 0) 95 13 0) 95 24 0) 95 7 0, s.2.1, s.2.2) rfl ?_
  refine lf_seg 1 (pc' := 41) (lv' := [(0, .ref 95)]) (st' := [.ref 95]) rfl ?_
  refine lf_callV 44 rfl rfl rfl rfl (gm_197 h) (fun s22 h => ?_)
  refine lf_sub (l := [(0, .ref 95)]) (lf_sb1 rfl lf_sb0) ?_
  exact gm_196_p44L h
-- fm_195 Model.text 95
def fm_195_p37 (Q : Int → lf_Z → Prop) (y1 : Int) (s : lf_Z) : Prop := lf_R (s.1 95 5) ∧ ((s.1 95 5 = 0 → (Q (((s.1 96 7) + 1) - 1) (lf_up (lf_up (lf_up s.1 95 6 y1) 95 4 0) 96 7 ((s.1 96 7) + 1), s.2.1, s.2.2))) ∧ (¬ (s.1 95 5 = 0) → (Q (-1) (lf_up (lf_up s.1 95 6 y1) 95 4 0, s.2.1, s.2.2))))
set_option maxRecDepth 100000 in
theorem gm_195_p37 {L : Nat} {xs : Nat → Int32} {d : Nat} {Q : Int → lf_Z → Prop} {y1 : Int} {s : lf_Z} (h : fm_195_p37 Q y1 s) : lf_E (px_ro L xs) (d + 13) 195 37 [(0, .ref 95)] [.int (Int32.ofInt y1), .ref 95] s (lf_qi Q) := by
  unfold fm_195_p37 at h
  refine lf_putI 40 6 rfl rfl rfl rfl rfl rfl rfl rfl ?_
  refine lf_as (lf_up s.1 95 6 y1, s.2.1, s.2.2) rfl ?_
  refine lf_seg 2 (pc' := 42) (lv' := [(0, .ref 95)]) (st' := [.int (Int32.ofInt 0), .ref 95]) rfl ?_
  refine lf_putI 45 4 rfl rfl rfl rfl rfl rfl rfl rfl ?_
  refine lf_as (lf_up (lf_up s.1 95 6 y1) 95 4 0, s.2.1, s.2.2) rfl ?_
  refine lf_seg 1 (pc' := 46) (lv' := [(0, .ref 95)]) (st' := [.ref 95]) rfl ?_
  refine lf_getI 49 5 rfl rfl rfl rfl rfl rfl rfl ?_
  refine lf_seg 0 (pc' := 49) (lv' := [(0, .ref 95)]) (st' := [.int (Int32.ofInt (s.1 95 5))]) rfl ?_
  obtain ⟨o25, h⟩ := h
  refine lf_if_eq 54 52 rfl rfl rfl o25 (fun c => ?_) (fun c => ?_)
  · have h := h.1 c
    refine lf_seg 2 (pc' := 58) (lv' := [(0, .ref 95)]) (st' := [.ref 96]) rfl ?_
    refine lf_bipush 60 7 rfl rfl (by decide) (by decide) ?_
    refine lf_seg 1 (pc' := 61) (lv' := [(0, .ref 95)]) (st' := [.int (Int32.ofInt 7), .ref 96, .int (Int32.ofInt 7), .ref 96]) rfl ?_
    refine lf_iald 62 1538 rfl rfl rfl rfl rfl rfl ⟨by decide, by decide⟩ ?_
    refine lf_seg 1 (pc' := 63) (lv' := [(0, .ref 95)]) (st' := [.int (Int32.ofInt 1), .int (Int32.ofInt (s.1 96 7)), .int (Int32.ofInt 7), .ref 96]) rfl ?_
    refine lf_iadd 64 rfl rfl ?_
    refine lf_iast 65 1538 rfl rfl rfl rfl rfl rfl ⟨by decide, by decide⟩ ?_
    refine lf_as (lf_up (lf_up (lf_up s.1 95 6 y1) 95 4 0) 96 7 ((s.1 96 7) + 1), s.2.1, s.2.2) rfl ?_
    refine lf_seg 2 (pc' := 69) (lv' := [(0, .ref 95)]) (st' := [.ref 96]) rfl ?_
    refine lf_bipush 71 7 rfl rfl (by decide) (by decide) ?_
    refine lf_iald 72 1538 rfl rfl rfl rfl rfl rfl ⟨by decide, by decide⟩ ?_
    refine lf_seg 1 (pc' := 73) (lv' := [(0, .ref 95)]) (st' := [.int (Int32.ofInt 1), .int (Int32.ofInt ((s.1 96 7) + 1))]) rfl ?_
    refine lf_isub 74 rfl rfl ?_
    exact lf_retI rfl rfl h
  · have h := h.2 c
    refine lf_seg 1 (pc' := 53) (lv' := [(0, .ref 95)]) (st' := [.int (Int32.ofInt (-1))]) rfl ?_
    exact lf_retI rfl rfl h
def fm_195 (Q : Int → lf_Z → Prop) (s : lf_Z) : Prop := lf_R (s.1 96 7) ∧ ((s.1 96 7 ≠ 4 → (fm_196 (fun r23 s22 => (lf_R r23 ∧ ((r23 ≠ 0 → (fm_195_p37 Q (s22.1 95 8) (lf_up s22.1 95 5 r23, s22.2.1, s22.2.2))) ∧ (¬ (r23 ≠ 0) → (fm_195_p37 Q (-1) (lf_up s22.1 95 5 r23, s22.2.1, s22.2.2)))))) s)) ∧ (¬ (s.1 96 7 ≠ 4) → (Q (-1) s)))
set_option maxRecDepth 100000 in
theorem gm_195 {L : Nat} {xs : Nat → Int32} {d : Nat} {Q : Int → lf_Z → Prop} {s : lf_Z} (h : fm_195 Q s) : lf_M (px_ro L xs) (d + 13) 195 [.ref 95] s (lf_qi Q) := by
  unfold fm_195 at h
  show lf_E (px_ro L xs) (d + 13) 195 0 [(0, .ref 95)] [] s _
  refine lf_seg 2 (pc' := 4) (lv' := [(0, .ref 95)]) (st' := [.ref 96]) rfl ?_
  refine lf_bipush 6 7 rfl rfl (by decide) (by decide) ?_
  refine lf_iald 7 1538 rfl rfl rfl rfl rfl rfl ⟨by decide, by decide⟩ ?_
  refine lf_seg 1 (pc' := 8) (lv' := [(0, .ref 95)]) (st' := [.int (Int32.ofInt 4), .int (Int32.ofInt (s.1 96 7))]) rfl ?_
  obtain ⟨o21, h⟩ := h
  refine lf_icmp_ne 13 11 rfl rfl rfl o21 ⟨by decide, by decide⟩ (fun c => ?_) (fun c => ?_)
  · have h := h.1 c
    refine lf_seg 2 (pc' := 15) (lv' := [(0, .ref 95)]) (st' := [.ref 95, .ref 95]) rfl ?_
    refine lf_callI 18 rfl rfl rfl rfl (gm_196 h) (fun r23 s22 h => ?_)
    refine lf_putI 21 5 rfl rfl rfl rfl rfl rfl rfl rfl ?_
    refine lf_as (lf_up s22.1 95 5 r23, s22.2.1, s22.2.2) rfl ?_
    refine lf_seg 2 (pc' := 23) (lv' := [(0, .ref 95)]) (st' := [.ref 95, .ref 95]) rfl ?_
    refine lf_getI 26 5 rfl rfl rfl rfl rfl rfl rfl ?_
    refine lf_seg 0 (pc' := 26) (lv' := [(0, .ref 95)]) (st' := [.int (Int32.ofInt r23), .ref 95]) rfl ?_
    obtain ⟨o24, h⟩ := h
    refine lf_if_ne 33 29 rfl rfl rfl o24 (fun c => ?_) (fun c => ?_)
    · have h := h.1 c
      refine lf_seg 1 (pc' := 34) (lv' := [(0, .ref 95)]) (st' := [.ref 95, .ref 95]) rfl ?_
      refine lf_getI 37 8 rfl rfl rfl rfl rfl rfl rfl ?_
      refine lf_seg 0 (pc' := 37) (lv' := [(0, .ref 95)]) (st' := [.int (Int32.ofInt (s22.1 95 8)), .ref 95]) rfl ?_
      refine lf_sub (l := [(0, .ref 95)]) (lf_sb1 rfl lf_sb0) ?_
      exact gm_195_p37 h
    · have h := h.2 c
      refine lf_seg 2 (pc' := 37) (lv' := [(0, .ref 95)]) (st' := [.int (Int32.ofInt (-1)), .ref 95]) rfl ?_
      refine lf_sub (l := [(0, .ref 95)]) (lf_sb1 rfl lf_sb0) ?_
      exact gm_195_p37 h
  · have h := h.2 c
    refine lf_seg 1 (pc' := 12) (lv' := [(0, .ref 95)]) (st' := [.int (Int32.ofInt (-1))]) rfl ?_
    exact lf_retI rfl rfl h
-- fm_59 ElevenBullocks.fault 0 i
def fm_59 (a1 : Int) (Q : Int → lf_Z → Prop) (s : lf_Z) : Prop := lf_R a1 ∧ ((a1 ≠ 0 → ((a1 ≠ 1 → (Q (-1) s)) ∧ (¬ (a1 ≠ 1) → (Q (s.1 31 3) s)))) ∧ (¬ (a1 ≠ 0) → (Q (s.1 31 2) s)))
set_option maxRecDepth 100000 in
theorem gm_59 {L : Nat} {xs : Nat → Int32} {d : Nat} {a1 : Int} {Q : Int → lf_Z → Prop} {s : lf_Z} (h : fm_59 a1 Q s) : lf_M (px_ro L xs) (d + 1) 59 [.ref 0, .int (Int32.ofInt a1)] s (lf_qi Q) := by
  unfold fm_59 at h
  show lf_E (px_ro L xs) (d + 1) 59 0 [(0, .ref 0), (1, .int (Int32.ofInt a1))] [] s _
  refine lf_seg 1 (pc' := 1) (lv' := [(0, .ref 0), (1, .int (Int32.ofInt a1))]) (st' := [.int (Int32.ofInt a1)]) rfl ?_
  obtain ⟨o21, h⟩ := h
  refine lf_if_ne 12 4 rfl rfl rfl o21 (fun c => ?_) (fun c => ?_)
  · have h := h.1 c
    refine lf_seg 2 (pc' := 14) (lv' := [(0, .ref 0), (1, .int (Int32.ofInt a1))]) (st' := [.int (Int32.ofInt 1), .int (Int32.ofInt a1)]) rfl ?_
    refine lf_icmp_ne 27 17 rfl rfl rfl o21 ⟨by decide, by decide⟩ (fun c => ?_) (fun c => ?_)
    · have h := h.1 c
      refine lf_seg 1 (pc' := 28) (lv' := [(0, .ref 0), (1, .int (Int32.ofInt a1))]) (st' := [.int (Int32.ofInt (-1))]) rfl ?_
      exact lf_retI rfl rfl h
    · have h := h.2 c
      refine lf_seg 2 (pc' := 21) (lv' := [(0, .ref 0), (1, .int (Int32.ofInt a1))]) (st' := [.ref 31]) rfl ?_
      refine lf_getI 24 3 rfl rfl rfl rfl rfl rfl rfl ?_
      refine lf_seg 1 (pc' := 28) (lv' := [(0, .ref 0), (1, .int (Int32.ofInt a1))]) (st' := [.int (Int32.ofInt (s.1 31 3))]) rfl ?_
      exact lf_retI rfl rfl h
  · have h := h.2 c
    refine lf_seg 2 (pc' := 8) (lv' := [(0, .ref 0), (1, .int (Int32.ofInt a1))]) (st' := [.ref 31]) rfl ?_
    refine lf_getI 11 2 rfl rfl rfl rfl rfl rfl rfl ?_
    exact lf_retI rfl rfl h
-- fm_236 Model.fault 95 i
def fm_236 (a1 : Int) (Q : Int → lf_Z → Prop) (s : lf_Z) : Prop := lf_R a1 ∧ ((a1 ≠ 0 → ((a1 ≠ 1 → (Q (-1) s)) ∧ (¬ (a1 ≠ 1) → (Q (s.1 95 6) s)))) ∧ (¬ (a1 ≠ 0) → (Q (s.1 95 5) s)))
set_option maxRecDepth 100000 in
theorem gm_236 {L : Nat} {xs : Nat → Int32} {d : Nat} {a1 : Int} {Q : Int → lf_Z → Prop} {s : lf_Z} (h : fm_236 a1 Q s) : lf_M (px_ro L xs) (d + 1) 236 [.ref 95, .int (Int32.ofInt a1)] s (lf_qi Q) := by
  unfold fm_236 at h
  show lf_E (px_ro L xs) (d + 1) 236 0 [(0, .ref 95), (1, .int (Int32.ofInt a1))] [] s _
  refine lf_seg 1 (pc' := 1) (lv' := [(0, .ref 95), (1, .int (Int32.ofInt a1))]) (st' := [.int (Int32.ofInt a1)]) rfl ?_
  obtain ⟨o21, h⟩ := h
  refine lf_if_ne 11 4 rfl rfl rfl o21 (fun c => ?_) (fun c => ?_)
  · have h := h.1 c
    refine lf_seg 2 (pc' := 13) (lv' := [(0, .ref 95), (1, .int (Int32.ofInt a1))]) (st' := [.int (Int32.ofInt 1), .int (Int32.ofInt a1)]) rfl ?_
    refine lf_icmp_ne 23 16 rfl rfl rfl o21 ⟨by decide, by decide⟩ (fun c => ?_) (fun c => ?_)
    · have h := h.1 c
      refine lf_seg 1 (pc' := 24) (lv' := [(0, .ref 95), (1, .int (Int32.ofInt a1))]) (st' := [.int (Int32.ofInt (-1))]) rfl ?_
      exact lf_retI rfl rfl h
    · have h := h.2 c
      refine lf_seg 1 (pc' := 17) (lv' := [(0, .ref 95), (1, .int (Int32.ofInt a1))]) (st' := [.ref 95]) rfl ?_
      refine lf_getI 20 6 rfl rfl rfl rfl rfl rfl rfl ?_
      refine lf_seg 1 (pc' := 24) (lv' := [(0, .ref 95), (1, .int (Int32.ofInt a1))]) (st' := [.int (Int32.ofInt (s.1 95 6))]) rfl ?_
      exact lf_retI rfl rfl h
  · have h := h.2 c
    refine lf_seg 1 (pc' := 5) (lv' := [(0, .ref 95), (1, .int (Int32.ofInt a1))]) (st' := [.ref 95]) rfl ?_
    refine lf_getI 8 5 rfl rfl rfl rfl rfl rfl rfl ?_
    refine lf_seg 1 (pc' := 24) (lv' := [(0, .ref 95), (1, .int (Int32.ofInt a1))]) (st' := [.int (Int32.ofInt (s.1 95 5))]) rfl ?_
    exact lf_retI rfl rfl h
-- fm_62 ElevenBullocks.scriptOf 0 i
def fm_62_p28 (Q : Option Nat → lf_Z → Prop) (s : lf_Z) : Prop := Q none s
set_option maxRecDepth 100000 in
theorem gm_62_p28 {L : Nat} {xs : Nat → Int32} {d : Nat} {Q : Option Nat → lf_Z → Prop} {s : lf_Z} (h : fm_62_p28 Q s) : lf_E (px_ro L xs) (d + 2) 62 28 [] [] s (lf_qr Q) := by
  unfold fm_62_p28 at h
  refine lf_seg 1 (pc' := 29) (lv' := []) (st' := [.null]) rfl ?_
  exact lf_retRn rfl rfl h
def fm_62 (a1 : Int) (Q : Option Nat → lf_Z → Prop) (s : lf_Z) : Prop := fm_15 a1 0 ((s.1 0 11) - 1) (fun z22 s21 => ((z22 = false → (fm_62_p28 Q s21)) ∧ (z22 = true → (lf_R a1 ∧ ((4 ≤ a1 → (fm_62_p28 Q s21)) ∧ (¬ (4 ≤ a1) → ((0 ≤ a1 ∧ a1 < 4) ∧ (∀ t25 : Nat, t25 = (a1).toNat → (Q (some t25) s21))))))))) s
set_option maxRecDepth 100000 in
theorem gm_62 {L : Nat} {xs : Nat → Int32} {d : Nat} {a1 : Int} {Q : Option Nat → lf_Z → Prop} {s : lf_Z} (h : fm_62 a1 Q s) : lf_M (px_ro L xs) (d + 2) 62 [.ref 0, .int (Int32.ofInt a1)] s (lf_qr Q) := by
  unfold fm_62 at h
  show lf_E (px_ro L xs) (d + 2) 62 0 [(0, .ref 0), (1, .int (Int32.ofInt a1))] [] s _
  refine lf_seg 3 (pc' := 3) (lv' := [(0, .ref 0), (1, .int (Int32.ofInt a1))]) (st' := [.ref 0, .int (Int32.ofInt 0), .int (Int32.ofInt a1)]) rfl ?_
  refine lf_getI 6 11 rfl rfl rfl rfl rfl rfl rfl ?_
  refine lf_seg 1 (pc' := 7) (lv' := [(0, .ref 0), (1, .int (Int32.ofInt a1))]) (st' := [.int (Int32.ofInt 1), .int (Int32.ofInt (s.1 0 11)), .int (Int32.ofInt 0), .int (Int32.ofInt a1)]) rfl ?_
  refine lf_isub 8 rfl rfl ?_
  refine lf_callZ 11 rfl rfl rfl rfl (gm_15 h) (fun z22 s21 h => ?_)
  refine lf_ifz_eq 28 14 rfl rfl rfl (fun c => ?_) (fun c => ?_)
  · have h := h.1 c
    refine lf_sub (l := []) lf_sb0 ?_
    exact gm_62_p28 h
  · have h := h.2 c
    refine lf_seg 2 (pc' := 16) (lv' := [(0, .ref 0), (1, .int (Int32.ofInt a1))]) (st' := [.int (Int32.ofInt 4), .int (Int32.ofInt a1)]) rfl ?_
    obtain ⟨o23, h⟩ := h
    refine lf_icmp_ge 28 19 rfl rfl rfl o23 ⟨by decide, by decide⟩ (fun c => ?_) (fun c => ?_)
    · have h := h.1 c
      refine lf_sub (l := []) lf_sb0 ?_
      exact gm_62_p28 h
    · have h := h.2 c
      refine lf_seg 3 (pc' := 24) (lv' := [(0, .ref 0), (1, .int (Int32.ofInt a1))]) (st' := [.int (Int32.ofInt a1), .ref 34]) rfl ?_
      obtain ⟨o24, h⟩ := h
      refine lf_aald 25 rfl rfl o24 ?_
      have h := h _ rfl
      have htt25 : (a1).toNat < 4 := by have := o24; omega
      generalize (a1).toNat = t25 at h htt25 ⊢
      refine lf_seg 1 (pc' := 29) (lv' := [(0, .ref 0), (1, .int (Int32.ofInt a1))]) (st' := [.ref (35 + 7 * t25)]) rfl ?_
      exact lf_retRs rfl rfl h
-- fm_61 ElevenBullocks.rule 0 i
def fm_61 (a1 : Int) (Q : lf_Z → Prop) (s : lf_Z) : Prop := fm_62 a1 (fun r23 s21 => (r23 = none → (Q (s21.1, s21.2.1, lf_ur s21.2.2 3 none))) ∧ (∀ t22 : Nat, r23 = some t22 → t22 < 4 ∧ (Q (s21.1, s21.2.1, lf_ur s21.2.2 3 (some t22))))) (lf_up s.1 0 12 a1, s.2.1, s.2.2)
set_option maxRecDepth 100000 in
theorem gm_61 {L : Nat} {xs : Nat → Int32} {d : Nat} {a1 : Int} {Q : lf_Z → Prop} {s : lf_Z} (h : fm_61 a1 Q s) : lf_M (px_ro L xs) (d + 3) 61 [.ref 0, .int (Int32.ofInt a1)] s (lf_qv Q) := by
  unfold fm_61 at h
  show lf_E (px_ro L xs) (d + 3) 61 0 [(0, .ref 0), (1, .int (Int32.ofInt a1))] [] s _
  refine lf_seg 2 (pc' := 2) (lv' := [(0, .ref 0), (1, .int (Int32.ofInt a1))]) (st' := [.int (Int32.ofInt a1), .ref 0]) rfl ?_
  refine lf_putI 5 12 rfl rfl rfl rfl rfl rfl rfl rfl ?_
  refine lf_as (lf_up s.1 0 12 a1, s.2.1, s.2.2) rfl ?_
  refine lf_seg 4 (pc' := 11) (lv' := [(0, .ref 0), (1, .int (Int32.ofInt a1))]) (st' := [.int (Int32.ofInt a1), .ref 0, .ref 63]) rfl ?_
  refine lf_callR 14 rfl rfl rfl rfl (gm_62 h) (fun s21 h => ?_) (fun t22 s21 h => ?_)
  · have h := h.1 rfl
    refine lf_putR 17 3 none none rfl rfl rfl rfl rfl rfl rfl rfl (lf_urS (w := none) (by decide)) ?_
    refine lf_as (s21.1, s21.2.1, lf_ur s21.2.2 3 none) rfl ?_
    exact lf_retV rfl rfl h
  · obtain ⟨htt22, h⟩ := h.2 _ rfl
    refine lf_putR 17 3 (some t22) (some (35 + 7 * t22)) rfl rfl rfl rfl rfl rfl rfl rfl (lf_urS (w := some t22) (by decide)) ?_
    refine lf_as (s21.1, s21.2.1, lf_ur s21.2.2 3 (some t22)) rfl ?_
    exact lf_retV rfl rfl h
-- fm_60 ElevenBullocks.by 0 i
def fm_60 (a1 : Int) (Q : Bool → lf_Z → Prop) (s : lf_Z) : Prop := fm_15 a1 (-1) ((s.1 0 11) - 1) (fun z22 s21 => ((z22 = true → (fm_61 a1 (fun s23 => (Q true s23)) s21)) ∧ (z22 = false → (Q false s21)))) s
set_option maxRecDepth 100000 in
theorem gm_60 {L : Nat} {xs : Nat → Int32} {d : Nat} {a1 : Int} {Q : Bool → lf_Z → Prop} {s : lf_Z} (h : fm_60 a1 Q s) : lf_M (px_ro L xs) (d + 4) 60 [.ref 0, .int (Int32.ofInt a1)] s (lf_qz Q) := by
  unfold fm_60 at h
  show lf_E (px_ro L xs) (d + 4) 60 0 [(0, .ref 0), (1, .int (Int32.ofInt a1))] [] s _
  refine lf_seg 3 (pc' := 3) (lv' := [(0, .ref 0), (1, .int (Int32.ofInt a1))]) (st' := [.ref 0, .int (Int32.ofInt (-1)), .int (Int32.ofInt a1)]) rfl ?_
  refine lf_getI 6 11 rfl rfl rfl rfl rfl rfl rfl ?_
  refine lf_seg 1 (pc' := 7) (lv' := [(0, .ref 0), (1, .int (Int32.ofInt a1))]) (st' := [.int (Int32.ofInt 1), .int (Int32.ofInt (s.1 0 11)), .int (Int32.ofInt (-1)), .int (Int32.ofInt a1)]) rfl ?_
  refine lf_isub 8 rfl rfl ?_
  refine lf_callZ 11 rfl rfl rfl rfl (gm_15 h) (fun z22 s21 h => ?_)
  refine lf_ifz_ne 16 14 rfl rfl rfl (fun c => ?_) (fun c => ?_)
  · have h := h.1 c
    refine lf_seg 2 (pc' := 18) (lv' := [(0, .ref 0), (1, .int (Int32.ofInt a1))]) (st' := [.int (Int32.ofInt a1), .ref 0]) rfl ?_
    refine lf_callV 21 rfl rfl rfl rfl (gm_61 h) (fun s23 h => ?_)
    refine lf_seg 1 (pc' := 22) (lv' := [(0, .ref 0), (1, .int (Int32.ofInt a1))]) (st' := [.int (Int32.ofInt 1)]) rfl ?_
    exact lf_retZ true rfl rfl h
  · have h := h.2 c
    refine lf_seg 1 (pc' := 15) (lv' := [(0, .ref 0), (1, .int (Int32.ofInt a1))]) (st' := [.int (Int32.ofInt 0)]) rfl ?_
    exact lf_retZ false rfl rfl h
-- fm_237 Model.by 95 i
def fm_237 (a1 : Int) (Q : Bool → lf_Z → Prop) (s : lf_Z) : Prop := fm_183 a1 (-1) ((s.1 96 7) - 1) (fun z22 s21 => ((z22 = true → (Q true (lf_up s21.1 96 8 a1, s21.2.1, s21.2.2))) ∧ (z22 = false → (Q false s21)))) s
set_option maxRecDepth 100000 in
theorem gm_237 {L : Nat} {xs : Nat → Int32} {d : Nat} {a1 : Int} {Q : Bool → lf_Z → Prop} {s : lf_Z} (h : fm_237 a1 Q s) : lf_M (px_ro L xs) (d + 2) 237 [.ref 95, .int (Int32.ofInt a1)] s (lf_qz Q) := by
  unfold fm_237 at h
  show lf_E (px_ro L xs) (d + 2) 237 0 [(0, .ref 95), (1, .int (Int32.ofInt a1))] [] s _
  refine lf_seg 4 (pc' := 6) (lv' := [(0, .ref 95), (1, .int (Int32.ofInt a1))]) (st' := [.ref 96, .int (Int32.ofInt (-1)), .int (Int32.ofInt a1)]) rfl ?_
  refine lf_bipush 8 7 rfl rfl (by decide) (by decide) ?_
  refine lf_iald 9 1538 rfl rfl rfl rfl rfl rfl ⟨by decide, by decide⟩ ?_
  refine lf_seg 1 (pc' := 10) (lv' := [(0, .ref 95), (1, .int (Int32.ofInt a1))]) (st' := [.int (Int32.ofInt 1), .int (Int32.ofInt (s.1 96 7)), .int (Int32.ofInt (-1)), .int (Int32.ofInt a1)]) rfl ?_
  refine lf_isub 11 rfl rfl ?_
  refine lf_callZ 14 rfl rfl rfl rfl (gm_183 h) (fun z22 s21 h => ?_)
  refine lf_ifz_ne 19 17 rfl rfl rfl (fun c => ?_) (fun c => ?_)
  · have h := h.1 c
    refine lf_seg 2 (pc' := 23) (lv' := [(0, .ref 95), (1, .int (Int32.ofInt a1))]) (st' := [.ref 96]) rfl ?_
    refine lf_bipush 25 8 rfl rfl (by decide) (by decide) ?_
    refine lf_seg 1 (pc' := 26) (lv' := [(0, .ref 95), (1, .int (Int32.ofInt a1))]) (st' := [.int (Int32.ofInt a1), .int (Int32.ofInt 8), .ref 96]) rfl ?_
    refine lf_iast 27 1538 rfl rfl rfl rfl rfl rfl ⟨by decide, by decide⟩ ?_
    refine lf_as (lf_up s21.1 96 8 a1, s21.2.1, s21.2.2) rfl ?_
    refine lf_seg 1 (pc' := 28) (lv' := [(0, .ref 95), (1, .int (Int32.ofInt a1))]) (st' := [.int (Int32.ofInt 1)]) rfl ?_
    exact lf_retZ true rfl rfl h
  · have h := h.2 c
    refine lf_seg 1 (pc' := 18) (lv' := [(0, .ref 95), (1, .int (Int32.ofInt a1))]) (st' := [.int (Int32.ofInt 0)]) rfl ?_
    exact lf_retZ false rfl rfl h
-- fm_65 Stand.sum 16
def fm_65_p10 (Q : Int → lf_Z → Prop) (x3 : Int) (X10 : Int → Int → lf_Z → Prop) (x1 : Int) (x4 : Int) (s : lf_Z) : Prop := lf_R x4 ∧ (lf_R x3 ∧ ((x3 ≤ x4 → (Q x1 s)) ∧ (¬ (x3 ≤ x4) → ((0 ≤ x4 ∧ x4 < 4) ∧ (X10 (lf_w (x1 + (s.1 16 x4))) (x4 + 1) s)))))
def fm_65_p10L (Q : Int → lf_Z → Prop) (x1 : Int) (x3 : Int) (x4 : Int) (s : lf_Z) : Prop := ∀ X10 : Int → Int → lf_Z → Prop, (∀ (x1 : Int) (x4 : Int) (s : lf_Z), fm_65_p10 Q x3 X10 x1 x4 s → X10 x1 x4 s) → X10 x1 x4 s
set_option maxRecDepth 100000 in
theorem gm_65_p10 {L : Nat} {xs : Nat → Int32} {d : Nat} {Q : Int → lf_Z → Prop} {x1 : Int} {x3 : Int} {x4 : Int} {s : lf_Z} {X10 : Int → Int → lf_Z → Prop} (hX10 : ∀ x1 x4 s, X10 x1 x4 s → lf_E (px_ro L xs) (d + 1) 65 10 [(1, .int (Int32.ofInt x1)), (2, .ref 16), (3, .int (Int32.ofInt x3)), (4, .int (Int32.ofInt x4))] [] s (lf_qi Q)) (h : fm_65_p10 Q x3 X10 x1 x4 s) : lf_E (px_ro L xs) (d + 1) 65 10 [(1, .int (Int32.ofInt x1)), (2, .ref 16), (3, .int (Int32.ofInt x3)), (4, .int (Int32.ofInt x4))] [] s (lf_qi Q) := by
  unfold fm_65_p10 at h
  refine lf_seg 2 (pc' := 13) (lv' := [(1, .int (Int32.ofInt x1)), (2, .ref 16), (3, .int (Int32.ofInt x3)), (4, .int (Int32.ofInt x4))]) (st' := [.int (Int32.ofInt x3), .int (Int32.ofInt x4)]) rfl ?_
  obtain ⟨o21, h⟩ := h
  obtain ⟨o22, h⟩ := h
  refine lf_icmp_ge 33 16 rfl rfl rfl o21 o22 (fun c => ?_) (fun c => ?_)
  · have h := h.1 c
    refine lf_seg 1 (pc' := 34) (lv' := [(1, .int (Int32.ofInt x1)), (2, .ref 16), (3, .int (Int32.ofInt x3)), (4, .int (Int32.ofInt x4))]) (st' := [.int (Int32.ofInt x1)]) rfl ?_
    exact lf_retI rfl rfl h
  · have h := h.2 c
    refine lf_seg 2 (pc' := 19) (lv' := [(1, .int (Int32.ofInt x1)), (2, .ref 16), (3, .int (Int32.ofInt x3)), (4, .int (Int32.ofInt x4))]) (st' := [.int (Int32.ofInt x4), .ref 16]) rfl ?_
    obtain ⟨o23, h⟩ := h
    refine lf_iald 20 4 rfl rfl rfl rfl rfl rfl o23 ?_
    refine lf_seg 3 (pc' := 25) (lv' := [(5, .int (Int32.ofInt (s.1 16 x4))), (1, .int (Int32.ofInt x1)), (2, .ref 16), (3, .int (Int32.ofInt x3)), (4, .int (Int32.ofInt x4))]) (st' := [.int (Int32.ofInt (s.1 16 x4)), .int (Int32.ofInt x1)]) rfl ?_
    refine lf_iadd 26 rfl rfl ?_
    refine lf_wtI ?_
    refine lf_seg 1 (pc' := 27) (lv' := [(1, .int (Int32.ofInt (lf_w (x1 + (s.1 16 x4))))), (5, .int (Int32.ofInt (s.1 16 x4))), (2, .ref 16), (3, .int (Int32.ofInt x3)), (4, .int (Int32.ofInt x4))]) (st' := []) rfl ?_
    refine lf_iinc 30 rfl rfl rfl rfl ?_
    refine lf_seg 1 (pc' := 10) (lv' := [(4, .int (Int32.ofInt (x4 + 1))), (1, .int (Int32.ofInt (lf_w (x1 + (s.1 16 x4))))), (5, .int (Int32.ofInt (s.1 16 x4))), (2, .ref 16), (3, .int (Int32.ofInt x3))]) (st' := []) rfl ?_
    refine lf_sub (l := [(1, .int (Int32.ofInt (lf_w (x1 + (s.1 16 x4))))), (2, .ref 16), (3, .int (Int32.ofInt x3)), (4, .int (Int32.ofInt (x4 + 1)))]) (lf_sb1 rfl (lf_sb1 rfl (lf_sb1 rfl (lf_sb1 rfl lf_sb0)))) ?_
    exact hX10 _ _ _ h
theorem gm_65_p10L {L : Nat} {xs : Nat → Int32} {d : Nat} {Q : Int → lf_Z → Prop} {x1 : Int} {x3 : Int} {x4 : Int} {s : lf_Z} (h : fm_65_p10L Q x1 x3 x4 s) : lf_E (px_ro L xs) (d + 1) 65 10 [(1, .int (Int32.ofInt x1)), (2, .ref 16), (3, .int (Int32.ofInt x3)), (4, .int (Int32.ofInt x4))] [] s (lf_qi Q) :=
  h (fun x1 x4 s => lf_E (px_ro L xs) (d + 1) 65 10 [(1, .int (Int32.ofInt x1)), (2, .ref 16), (3, .int (Int32.ofInt x3)), (4, .int (Int32.ofInt x4))] [] s (lf_qi Q)) (fun x1 x4 s hb => gm_65_p10 (fun _ _ _ h => h) hb)
def fm_65 (Q : Int → lf_Z → Prop) (s : lf_Z) : Prop := fm_65_p10L Q 0 4 0 s
set_option maxRecDepth 100000 in
theorem gm_65 {L : Nat} {xs : Nat → Int32} {d : Nat} {Q : Int → lf_Z → Prop} {s : lf_Z} (h : fm_65 Q s) : lf_M (px_ro L xs) (d + 1) 65 [.ref 16] s (lf_qi Q) := by
  unfold fm_65 at h
  show lf_E (px_ro L xs) (d + 1) 65 0 [(0, .ref 16)] [] s _
  refine lf_seg 5 (pc' := 5) (lv' := [(2, .ref 16), (1, .int (Int32.ofInt 0)), (0, .ref 16)]) (st' := [.ref 16]) rfl ?_
  refine lf_len 6 4 rfl rfl rfl rfl rfl rfl ?_
  refine lf_seg 3 (pc' := 10) (lv' := [(4, .int (Int32.ofInt 0)), (3, .int (Int32.ofInt 4)), (2, .ref 16), (1, .int (Int32.ofInt 0)), (0, .ref 16)]) (st' := []) rfl ?_
  refine lf_sub (l := [(1, .int (Int32.ofInt 0)), (2, .ref 16), (3, .int (Int32.ofInt 4)), (4, .int (Int32.ofInt 0))]) (lf_sb1 rfl (lf_sb1 rfl (lf_sb1 rfl (lf_sb1 rfl lf_sb0)))) ?_
  exact gm_65_p10L h
-- fm_64 Stand.beasts 15
def fm_64 (Q : Int → lf_Z → Prop) (s : lf_Z) : Prop := fm_65 (fun r22 s21 => (Q r22 s21)) s
set_option maxRecDepth 100000 in
theorem gm_64 {L : Nat} {xs : Nat → Int32} {d : Nat} {Q : Int → lf_Z → Prop} {s : lf_Z} (h : fm_64 Q s) : lf_M (px_ro L xs) (d + 2) 64 [.ref 15] s (lf_qi Q) := by
  unfold fm_64 at h
  show lf_E (px_ro L xs) (d + 2) 64 0 [(0, .ref 15)] [] s _
  refine lf_seg 2 (pc' := 4) (lv' := [(0, .ref 15)]) (st' := [.ref 16]) rfl ?_
  refine lf_callI 7 rfl rfl rfl rfl (gm_65 h) (fun r22 s21 h => ?_)
  exact lf_retI rfl rfl h
-- fm_66 Stand.freeBunch 15
def fm_66_p2 (Q : Int → lf_Z → Prop) (X2 : Int → lf_Z → Prop) (x1 : Int) (s : lf_Z) : Prop := lf_R x1 ∧ ((4 ≤ x1 → (Q (-1) s)) ∧ (¬ (4 ≤ x1) → ((0 ≤ x1 ∧ x1 < 4) ∧ (lf_R (s.1 16 x1) ∧ ((s.1 16 x1 ≠ 0 → (X2 (x1 + 1) s)) ∧ (¬ (s.1 16 x1 ≠ 0) → (Q x1 s)))))))
def fm_66_p2L (Q : Int → lf_Z → Prop) (x1 : Int) (s : lf_Z) : Prop := ∀ X2 : Int → lf_Z → Prop, (∀ (x1 : Int) (s : lf_Z), fm_66_p2 Q X2 x1 s → X2 x1 s) → X2 x1 s
set_option maxRecDepth 100000 in
theorem gm_66_p2 {L : Nat} {xs : Nat → Int32} {d : Nat} {Q : Int → lf_Z → Prop} {x1 : Int} {s : lf_Z} {X2 : Int → lf_Z → Prop} (hX2 : ∀ x1 s, X2 x1 s → lf_E (px_ro L xs) (d + 1) 66 2 [(0, .ref 15), (1, .int (Int32.ofInt x1))] [] s (lf_qi Q)) (h : fm_66_p2 Q X2 x1 s) : lf_E (px_ro L xs) (d + 1) 66 2 [(0, .ref 15), (1, .int (Int32.ofInt x1))] [] s (lf_qi Q) := by
  unfold fm_66_p2 at h
  refine lf_seg 2 (pc' := 4) (lv' := [(0, .ref 15), (1, .int (Int32.ofInt x1))]) (st' := [.int (Int32.ofInt 4), .int (Int32.ofInt x1)]) rfl ?_
  obtain ⟨o21, h⟩ := h
  refine lf_icmp_ge 24 7 rfl rfl rfl o21 ⟨by decide, by decide⟩ (fun c => ?_) (fun c => ?_)
  · have h := h.1 c
    refine lf_seg 1 (pc' := 25) (lv' := [(0, .ref 15), (1, .int (Int32.ofInt x1))]) (st' := [.int (Int32.ofInt (-1))]) rfl ?_
    exact lf_retI rfl rfl h
  · have h := h.2 c
    refine lf_seg 3 (pc' := 12) (lv' := [(0, .ref 15), (1, .int (Int32.ofInt x1))]) (st' := [.int (Int32.ofInt x1), .ref 16]) rfl ?_
    obtain ⟨o22, h⟩ := h
    refine lf_iald 13 4 rfl rfl rfl rfl rfl rfl o22 ?_
    obtain ⟨o23, h⟩ := h
    refine lf_if_ne 18 16 rfl rfl rfl o23 (fun c => ?_) (fun c => ?_)
    · have h := h.1 c
      refine lf_iinc 21 rfl rfl rfl rfl ?_
      refine lf_seg 1 (pc' := 2) (lv' := [(1, .int (Int32.ofInt (x1 + 1))), (0, .ref 15)]) (st' := []) rfl ?_
      refine lf_sub (l := [(0, .ref 15), (1, .int (Int32.ofInt (x1 + 1)))]) (lf_sb1 rfl (lf_sb1 rfl lf_sb0)) ?_
      exact hX2 _ _ h
    · have h := h.2 c
      refine lf_seg 1 (pc' := 17) (lv' := [(0, .ref 15), (1, .int (Int32.ofInt x1))]) (st' := [.int (Int32.ofInt x1)]) rfl ?_
      exact lf_retI rfl rfl h
theorem gm_66_p2L {L : Nat} {xs : Nat → Int32} {d : Nat} {Q : Int → lf_Z → Prop} {x1 : Int} {s : lf_Z} (h : fm_66_p2L Q x1 s) : lf_E (px_ro L xs) (d + 1) 66 2 [(0, .ref 15), (1, .int (Int32.ofInt x1))] [] s (lf_qi Q) :=
  h (fun x1 s => lf_E (px_ro L xs) (d + 1) 66 2 [(0, .ref 15), (1, .int (Int32.ofInt x1))] [] s (lf_qi Q)) (fun x1 s hb => gm_66_p2 (fun _ _ h => h) hb)
def fm_66 (Q : Int → lf_Z → Prop) (s : lf_Z) : Prop := fm_66_p2L Q 0 s
set_option maxRecDepth 100000 in
theorem gm_66 {L : Nat} {xs : Nat → Int32} {d : Nat} {Q : Int → lf_Z → Prop} {s : lf_Z} (h : fm_66 Q s) : lf_M (px_ro L xs) (d + 1) 66 [.ref 15] s (lf_qi Q) := by
  unfold fm_66 at h
  show lf_E (px_ro L xs) (d + 1) 66 0 [(0, .ref 15)] [] s _
  refine lf_seg 2 (pc' := 2) (lv' := [(1, .int (Int32.ofInt 0)), (0, .ref 15)]) (st' := []) rfl ?_
  refine lf_sub (l := [(0, .ref 15), (1, .int (Int32.ofInt 0))]) (lf_sb1 rfl (lf_sb1 rfl lf_sb0)) ?_
  exact gm_66_p2L h
-- fm_68 Stand.writeTo 15 23 i
def fm_68_p57 (Q : lf_Z → Prop) (X57 : Int → Int → lf_Z → Prop) (x3 : Int) (x4 : Int) (s : lf_Z) : Prop := lf_R x4 ∧ ((6 ≤ x4 → (((0 : Int) ≤ 0 ∧ (0 : Int) ≤ x3 ∧ (0 : Int) ≤ 12 ∧ (0 : Int) + 12 ≤ 12 ∧ (x3 : Int) + 12 ≤ 1170) ∧ ((0 ≤ x3 + 12 ∧ x3 + 12 < 1170) ∧ ((0 ≤ (x3 + 12) + 1 ∧ (x3 + 12) + 1 < 1170) ∧ ((0 ≤ (x3 + 12) + 2 ∧ (x3 + 12) + 2 < 1170) ∧ (Q (lf_up (lf_up (lf_up (lf_cp s.1 21 23 0 x3 12) 23 (x3 + 12) ((lf_cp s.1 21 23 0 x3 12) 15 6)) 23 ((x3 + 12) + 1) ((lf_cp s.1 21 23 0 x3 12) 15 7)) 23 ((x3 + 12) + 2) ((lf_cp s.1 21 23 0 x3 12) 15 8), s.2.1, s.2.2))))))) ∧ (¬ (6 ≤ x4) → ((0 ≤ x4 ∧ x4 < 6) ∧ ((0 ≤ x3 ∧ x3 < 1170) ∧ ((0 ≤ x3 + 1 ∧ x3 + 1 < 1170) ∧ (X57 (x3 + 2) (x4 + 1) (lf_up (lf_up s.1 23 x3 (s.1 19 x4)) 23 (x3 + 1) (s.1 20 x4), s.2.1, s.2.2)))))))
def fm_68_p57L (Q : lf_Z → Prop) (x3 : Int) (x4 : Int) (s : lf_Z) : Prop := ∀ X57 : Int → Int → lf_Z → Prop, (∀ (x3 : Int) (x4 : Int) (s : lf_Z), fm_68_p57 Q X57 x3 x4 s → X57 x3 x4 s) → X57 x3 x4 s
set_option maxRecDepth 100000 in
theorem gm_68_p57 {L : Nat} {xs : Nat → Int32} {d : Nat} {Q : lf_Z → Prop} {x3 : Int} {x4 : Int} {s : lf_Z} {X57 : Int → Int → lf_Z → Prop} (hX57 : ∀ x3 x4 s, X57 x3 x4 s → lf_E (px_ro L xs) (d + 1) 68 57 [(0, .ref 15), (1, .ref 23), (3, .int (Int32.ofInt x3)), (4, .int (Int32.ofInt x4))] [] s (lf_qv Q)) (h : fm_68_p57 Q X57 x3 x4 s) : lf_E (px_ro L xs) (d + 1) 68 57 [(0, .ref 15), (1, .ref 23), (3, .int (Int32.ofInt x3)), (4, .int (Int32.ofInt x4))] [] s (lf_qv Q) := by
  unfold fm_68_p57 at h
  refine lf_seg 1 (pc' := 59) (lv' := [(0, .ref 15), (1, .ref 23), (3, .int (Int32.ofInt x3)), (4, .int (Int32.ofInt x4))]) (st' := [.int (Int32.ofInt x4)]) rfl ?_
  refine lf_bipush 61 6 rfl rfl (by decide) (by decide) ?_
  obtain ⟨o22, h⟩ := h
  refine lf_icmp_ge 95 64 rfl rfl rfl o22 ⟨by decide, by decide⟩ (fun c => ?_) (fun c => ?_)
  · have h := h.1 c
    refine lf_seg 5 (pc' := 102) (lv' := [(0, .ref 15), (1, .ref 23), (3, .int (Int32.ofInt x3)), (4, .int (Int32.ofInt x4))]) (st' := [.int (Int32.ofInt x3), .ref 23, .int (Int32.ofInt 0), .ref 21]) rfl ?_
    refine lf_bipush 104 12 rfl rfl (by decide) (by decide) ?_
    obtain ⟨o23, h⟩ := h
    refine lf_cpy 107 rfl rfl rfl rfl rfl rfl rfl rfl rfl rfl rfl rfl o23 ?_
    refine lf_as (lf_cp s.1 21 23 0 x3 12, s.2.1, s.2.2) rfl ?_
    refine lf_iinc 110 rfl rfl rfl rfl ?_
    refine lf_seg 3 (pc' := 113) (lv' := [(3, .int (Int32.ofInt (x3 + 12))), (0, .ref 15), (1, .ref 23), (4, .int (Int32.ofInt x4))]) (st' := [.ref 15, .int (Int32.ofInt (x3 + 12)), .ref 23]) rfl ?_
    refine lf_getI 116 6 rfl rfl rfl rfl rfl rfl rfl ?_
    obtain ⟨o24, h⟩ := h
    refine lf_iast 117 1170 rfl rfl rfl rfl rfl rfl o24 ?_
    refine lf_as (lf_up (lf_cp s.1 21 23 0 x3 12) 23 (x3 + 12) ((lf_cp s.1 21 23 0 x3 12) 15 6), s.2.1, s.2.2) rfl ?_
    refine lf_seg 3 (pc' := 120) (lv' := [(3, .int (Int32.ofInt (x3 + 12))), (0, .ref 15), (1, .ref 23), (4, .int (Int32.ofInt x4))]) (st' := [.int (Int32.ofInt 1), .int (Int32.ofInt (x3 + 12)), .ref 23]) rfl ?_
    refine lf_iadd 121 rfl rfl ?_
    refine lf_seg 1 (pc' := 122) (lv' := [(3, .int (Int32.ofInt (x3 + 12))), (0, .ref 15), (1, .ref 23), (4, .int (Int32.ofInt x4))]) (st' := [.ref 15, .int (Int32.ofInt ((x3 + 12) + 1)), .ref 23]) rfl ?_
    refine lf_getI 125 7 rfl rfl rfl rfl rfl rfl rfl ?_
    refine lf_seg 0 (pc' := 125) (lv' := [(3, .int (Int32.ofInt (x3 + 12))), (0, .ref 15), (1, .ref 23), (4, .int (Int32.ofInt x4))]) (st' := [.int (Int32.ofInt ((lf_cp s.1 21 23 0 x3 12) 15 7)), .int (Int32.ofInt ((x3 + 12) + 1)), .ref 23]) rfl ?_
    obtain ⟨o25, h⟩ := h
    refine lf_iast 126 1170 rfl rfl rfl rfl rfl rfl o25 ?_
    refine lf_as (lf_up (lf_up (lf_cp s.1 21 23 0 x3 12) 23 (x3 + 12) ((lf_cp s.1 21 23 0 x3 12) 15 6)) 23 ((x3 + 12) + 1) ((lf_cp s.1 21 23 0 x3 12) 15 7), s.2.1, s.2.2) rfl ?_
    refine lf_seg 3 (pc' := 129) (lv' := [(3, .int (Int32.ofInt (x3 + 12))), (0, .ref 15), (1, .ref 23), (4, .int (Int32.ofInt x4))]) (st' := [.int (Int32.ofInt 2), .int (Int32.ofInt (x3 + 12)), .ref 23]) rfl ?_
    refine lf_iadd 130 rfl rfl ?_
    refine lf_seg 1 (pc' := 131) (lv' := [(3, .int (Int32.ofInt (x3 + 12))), (0, .ref 15), (1, .ref 23), (4, .int (Int32.ofInt x4))]) (st' := [.ref 15, .int (Int32.ofInt ((x3 + 12) + 2)), .ref 23]) rfl ?_
    refine lf_getI 134 8 rfl rfl rfl rfl rfl rfl rfl ?_
    refine lf_seg 0 (pc' := 134) (lv' := [(3, .int (Int32.ofInt (x3 + 12))), (0, .ref 15), (1, .ref 23), (4, .int (Int32.ofInt x4))]) (st' := [.int (Int32.ofInt ((lf_cp s.1 21 23 0 x3 12) 15 8)), .int (Int32.ofInt ((x3 + 12) + 2)), .ref 23]) rfl ?_
    obtain ⟨o26, h⟩ := h
    refine lf_iast 135 1170 rfl rfl rfl rfl rfl rfl o26 ?_
    refine lf_as (lf_up (lf_up (lf_up (lf_cp s.1 21 23 0 x3 12) 23 (x3 + 12) ((lf_cp s.1 21 23 0 x3 12) 15 6)) 23 ((x3 + 12) + 1) ((lf_cp s.1 21 23 0 x3 12) 15 7)) 23 ((x3 + 12) + 2) ((lf_cp s.1 21 23 0 x3 12) 15 8), s.2.1, s.2.2) rfl ?_
    exact lf_retV rfl rfl h
  · have h := h.2 c
    refine lf_seg 5 (pc' := 72) (lv' := [(0, .ref 15), (1, .ref 23), (3, .int (Int32.ofInt x3)), (4, .int (Int32.ofInt x4))]) (st' := [.int (Int32.ofInt x4), .ref 19, .int (Int32.ofInt x3), .ref 23]) rfl ?_
    obtain ⟨o27, h⟩ := h
    refine lf_iald 73 6 rfl rfl rfl rfl rfl rfl o27 ?_
    obtain ⟨o28, h⟩ := h
    refine lf_iast 74 1170 rfl rfl rfl rfl rfl rfl o28 ?_
    refine lf_as (lf_up s.1 23 x3 (s.1 19 x4), s.2.1, s.2.2) rfl ?_
    refine lf_seg 3 (pc' := 77) (lv' := [(0, .ref 15), (1, .ref 23), (3, .int (Int32.ofInt x3)), (4, .int (Int32.ofInt x4))]) (st' := [.int (Int32.ofInt 1), .int (Int32.ofInt x3), .ref 23]) rfl ?_
    refine lf_iadd 78 rfl rfl ?_
    refine lf_seg 3 (pc' := 84) (lv' := [(0, .ref 15), (1, .ref 23), (3, .int (Int32.ofInt x3)), (4, .int (Int32.ofInt x4))]) (st' := [.int (Int32.ofInt x4), .ref 20, .int (Int32.ofInt (x3 + 1)), .ref 23]) rfl ?_
    refine lf_iald 85 6 rfl rfl rfl rfl rfl rfl o27 ?_
    refine lf_seg 0 (pc' := 85) (lv' := [(0, .ref 15), (1, .ref 23), (3, .int (Int32.ofInt x3)), (4, .int (Int32.ofInt x4))]) (st' := [.int (Int32.ofInt (s.1 20 x4)), .int (Int32.ofInt (x3 + 1)), .ref 23]) rfl ?_
    obtain ⟨o29, h⟩ := h
    refine lf_iast 86 1170 rfl rfl rfl rfl rfl rfl o29 ?_
    refine lf_as (lf_up (lf_up s.1 23 x3 (s.1 19 x4)) 23 (x3 + 1) (s.1 20 x4), s.2.1, s.2.2) rfl ?_
    refine lf_iinc 89 rfl rfl rfl rfl ?_
    refine lf_seg 0 (pc' := 89) (lv' := [(4, .int (Int32.ofInt (x4 + 1))), (0, .ref 15), (1, .ref 23), (3, .int (Int32.ofInt x3))]) (st' := []) rfl ?_
    refine lf_iinc 92 rfl rfl rfl rfl ?_
    refine lf_seg 1 (pc' := 57) (lv' := [(3, .int (Int32.ofInt (x3 + 2))), (4, .int (Int32.ofInt (x4 + 1))), (0, .ref 15), (1, .ref 23)]) (st' := []) rfl ?_
    refine lf_sub (l := [(0, .ref 15), (1, .ref 23), (3, .int (Int32.ofInt (x3 + 2))), (4, .int (Int32.ofInt (x4 + 1)))]) (lf_sb1 rfl (lf_sb1 rfl (lf_sb1 rfl (lf_sb1 rfl lf_sb0)))) ?_
    exact hX57 _ _ _ h
theorem gm_68_p57L {L : Nat} {xs : Nat → Int32} {d : Nat} {Q : lf_Z → Prop} {x3 : Int} {x4 : Int} {s : lf_Z} (h : fm_68_p57L Q x3 x4 s) : lf_E (px_ro L xs) (d + 1) 68 57 [(0, .ref 15), (1, .ref 23), (3, .int (Int32.ofInt x3)), (4, .int (Int32.ofInt x4))] [] s (lf_qv Q) :=
  h (fun x3 x4 s => lf_E (px_ro L xs) (d + 1) 68 57 [(0, .ref 15), (1, .ref 23), (3, .int (Int32.ofInt x3)), (4, .int (Int32.ofInt x4))] [] s (lf_qv Q)) (fun x3 x4 s hb => gm_68_p57 (fun _ _ _ h => h) hb)
def fm_68_p5 (Q : lf_Z → Prop) (X5 : Int → Int → lf_Z → Prop) (x3 : Int) (x4 : Int) (s : lf_Z) : Prop := lf_R x4 ∧ ((4 ≤ x4 → (fm_68_p57L Q x3 0 s)) ∧ (¬ (4 ≤ x4) → ((0 ≤ x4 ∧ x4 < 4) ∧ ((0 ≤ x3 ∧ x3 < 1170) ∧ ((0 ≤ x3 + 1 ∧ x3 + 1 < 1170) ∧ ((0 ≤ x3 + 2 ∧ x3 + 2 < 1170) ∧ (X5 (x3 + 3) (x4 + 1) (lf_up (lf_up (lf_up s.1 23 x3 (s.1 16 x4)) 23 (x3 + 1) (s.1 17 x4)) 23 (x3 + 2) (s.1 18 x4), s.2.1, s.2.2))))))))
def fm_68_p5L (Q : lf_Z → Prop) (x3 : Int) (x4 : Int) (s : lf_Z) : Prop := ∀ X5 : Int → Int → lf_Z → Prop, (∀ (x3 : Int) (x4 : Int) (s : lf_Z), fm_68_p5 Q X5 x3 x4 s → X5 x3 x4 s) → X5 x3 x4 s
set_option maxRecDepth 100000 in
theorem gm_68_p5 {L : Nat} {xs : Nat → Int32} {d : Nat} {Q : lf_Z → Prop} {x3 : Int} {x4 : Int} {s : lf_Z} {X5 : Int → Int → lf_Z → Prop} (hX5 : ∀ x3 x4 s, X5 x3 x4 s → lf_E (px_ro L xs) (d + 1) 68 5 [(0, .ref 15), (1, .ref 23), (3, .int (Int32.ofInt x3)), (4, .int (Int32.ofInt x4))] [] s (lf_qv Q)) (h : fm_68_p5 Q X5 x3 x4 s) : lf_E (px_ro L xs) (d + 1) 68 5 [(0, .ref 15), (1, .ref 23), (3, .int (Int32.ofInt x3)), (4, .int (Int32.ofInt x4))] [] s (lf_qv Q) := by
  unfold fm_68_p5 at h
  refine lf_seg 2 (pc' := 8) (lv' := [(0, .ref 15), (1, .ref 23), (3, .int (Int32.ofInt x3)), (4, .int (Int32.ofInt x4))]) (st' := [.int (Int32.ofInt 4), .int (Int32.ofInt x4)]) rfl ?_
  obtain ⟨o21, h⟩ := h
  refine lf_icmp_ge 54 11 rfl rfl rfl o21 ⟨by decide, by decide⟩ (fun c => ?_) (fun c => ?_)
  · have h := h.1 c
    refine lf_seg 2 (pc' := 57) (lv' := [(4, .int (Int32.ofInt 0)), (0, .ref 15), (1, .ref 23), (3, .int (Int32.ofInt x3))]) (st' := []) rfl ?_
    refine lf_sub (l := [(0, .ref 15), (1, .ref 23), (3, .int (Int32.ofInt x3)), (4, .int (Int32.ofInt 0))]) (lf_sb1 rfl (lf_sb1 rfl (lf_sb1 rfl (lf_sb1 rfl lf_sb0)))) ?_
    exact gm_68_p57L h
  · have h := h.2 c
    refine lf_seg 5 (pc' := 19) (lv' := [(0, .ref 15), (1, .ref 23), (3, .int (Int32.ofInt x3)), (4, .int (Int32.ofInt x4))]) (st' := [.int (Int32.ofInt x4), .ref 16, .int (Int32.ofInt x3), .ref 23]) rfl ?_
    obtain ⟨o30, h⟩ := h
    refine lf_iald 20 4 rfl rfl rfl rfl rfl rfl o30 ?_
    obtain ⟨o31, h⟩ := h
    refine lf_iast 21 1170 rfl rfl rfl rfl rfl rfl o31 ?_
    refine lf_as (lf_up s.1 23 x3 (s.1 16 x4), s.2.1, s.2.2) rfl ?_
    refine lf_seg 3 (pc' := 24) (lv' := [(0, .ref 15), (1, .ref 23), (3, .int (Int32.ofInt x3)), (4, .int (Int32.ofInt x4))]) (st' := [.int (Int32.ofInt 1), .int (Int32.ofInt x3), .ref 23]) rfl ?_
    refine lf_iadd 25 rfl rfl ?_
    refine lf_seg 3 (pc' := 31) (lv' := [(0, .ref 15), (1, .ref 23), (3, .int (Int32.ofInt x3)), (4, .int (Int32.ofInt x4))]) (st' := [.int (Int32.ofInt x4), .ref 17, .int (Int32.ofInt (x3 + 1)), .ref 23]) rfl ?_
    refine lf_iald 32 4 rfl rfl rfl rfl rfl rfl o30 ?_
    refine lf_seg 0 (pc' := 32) (lv' := [(0, .ref 15), (1, .ref 23), (3, .int (Int32.ofInt x3)), (4, .int (Int32.ofInt x4))]) (st' := [.int (Int32.ofInt (s.1 17 x4)), .int (Int32.ofInt (x3 + 1)), .ref 23]) rfl ?_
    obtain ⟨o32, h⟩ := h
    refine lf_iast 33 1170 rfl rfl rfl rfl rfl rfl o32 ?_
    refine lf_as (lf_up (lf_up s.1 23 x3 (s.1 16 x4)) 23 (x3 + 1) (s.1 17 x4), s.2.1, s.2.2) rfl ?_
    refine lf_seg 3 (pc' := 36) (lv' := [(0, .ref 15), (1, .ref 23), (3, .int (Int32.ofInt x3)), (4, .int (Int32.ofInt x4))]) (st' := [.int (Int32.ofInt 2), .int (Int32.ofInt x3), .ref 23]) rfl ?_
    refine lf_iadd 37 rfl rfl ?_
    refine lf_seg 3 (pc' := 43) (lv' := [(0, .ref 15), (1, .ref 23), (3, .int (Int32.ofInt x3)), (4, .int (Int32.ofInt x4))]) (st' := [.int (Int32.ofInt x4), .ref 18, .int (Int32.ofInt (x3 + 2)), .ref 23]) rfl ?_
    refine lf_iald 44 4 rfl rfl rfl rfl rfl rfl o30 ?_
    refine lf_seg 0 (pc' := 44) (lv' := [(0, .ref 15), (1, .ref 23), (3, .int (Int32.ofInt x3)), (4, .int (Int32.ofInt x4))]) (st' := [.int (Int32.ofInt (s.1 18 x4)), .int (Int32.ofInt (x3 + 2)), .ref 23]) rfl ?_
    obtain ⟨o33, h⟩ := h
    refine lf_iast 45 1170 rfl rfl rfl rfl rfl rfl o33 ?_
    refine lf_as (lf_up (lf_up (lf_up s.1 23 x3 (s.1 16 x4)) 23 (x3 + 1) (s.1 17 x4)) 23 (x3 + 2) (s.1 18 x4), s.2.1, s.2.2) rfl ?_
    refine lf_iinc 48 rfl rfl rfl rfl ?_
    refine lf_seg 0 (pc' := 48) (lv' := [(4, .int (Int32.ofInt (x4 + 1))), (0, .ref 15), (1, .ref 23), (3, .int (Int32.ofInt x3))]) (st' := []) rfl ?_
    refine lf_iinc 51 rfl rfl rfl rfl ?_
    refine lf_seg 1 (pc' := 5) (lv' := [(3, .int (Int32.ofInt (x3 + 3))), (4, .int (Int32.ofInt (x4 + 1))), (0, .ref 15), (1, .ref 23)]) (st' := []) rfl ?_
    refine lf_sub (l := [(0, .ref 15), (1, .ref 23), (3, .int (Int32.ofInt (x3 + 3))), (4, .int (Int32.ofInt (x4 + 1)))]) (lf_sb1 rfl (lf_sb1 rfl (lf_sb1 rfl (lf_sb1 rfl lf_sb0)))) ?_
    exact hX5 _ _ _ h
theorem gm_68_p5L {L : Nat} {xs : Nat → Int32} {d : Nat} {Q : lf_Z → Prop} {x3 : Int} {x4 : Int} {s : lf_Z} (h : fm_68_p5L Q x3 x4 s) : lf_E (px_ro L xs) (d + 1) 68 5 [(0, .ref 15), (1, .ref 23), (3, .int (Int32.ofInt x3)), (4, .int (Int32.ofInt x4))] [] s (lf_qv Q) :=
  h (fun x3 x4 s => lf_E (px_ro L xs) (d + 1) 68 5 [(0, .ref 15), (1, .ref 23), (3, .int (Int32.ofInt x3)), (4, .int (Int32.ofInt x4))] [] s (lf_qv Q)) (fun x3 x4 s hb => gm_68_p5 (fun _ _ _ h => h) hb)
def fm_68 (a2 : Int) (Q : lf_Z → Prop) (s : lf_Z) : Prop := fm_68_p5L Q a2 0 s
set_option maxRecDepth 100000 in
theorem gm_68 {L : Nat} {xs : Nat → Int32} {d : Nat} {a2 : Int} {Q : lf_Z → Prop} {s : lf_Z} (h : fm_68 a2 Q s) : lf_M (px_ro L xs) (d + 1) 68 [.ref 15, .ref 23, .int (Int32.ofInt a2)] s (lf_qv Q) := by
  unfold fm_68 at h
  show lf_E (px_ro L xs) (d + 1) 68 0 [(0, .ref 15), (1, .ref 23), (2, .int (Int32.ofInt a2))] [] s _
  refine lf_seg 4 (pc' := 5) (lv' := [(4, .int (Int32.ofInt 0)), (3, .int (Int32.ofInt a2)), (0, .ref 15), (1, .ref 23), (2, .int (Int32.ofInt a2))]) (st' := []) rfl ?_
  refine lf_sub (l := [(0, .ref 15), (1, .ref 23), (3, .int (Int32.ofInt a2)), (4, .int (Int32.ofInt 0))]) (lf_sb1 rfl (lf_sb1 rfl (lf_sb1 rfl (lf_sb1 rfl lf_sb0)))) ?_
  exact gm_68_p5L h
-- fm_67 Steps.keep 22 15 i
def fm_67 (a2 : Int) (Q : lf_Z → Prop) (s : lf_Z) : Prop := lf_R ((s.1 22 2) + 1) ∧ (lf_R ((s.1 22 3) + 1) ∧ (fm_68 ((((s.1 22 2) + 1).tmod 30) * 39) (fun s23 => ((0 ≤ s23.1 22 2 ∧ s23.1 22 2 < 30) ∧ (Q (lf_up s23.1 24 (s23.1 22 2) a2, s23.2.1, s23.2.2)))) (lf_up (lf_up s.1 22 2 (((s.1 22 2) + 1).tmod 30)) 22 3 (min 30 ((s.1 22 3) + 1)), s.2.1, s.2.2)))
set_option maxRecDepth 100000 in
theorem gm_67 {L : Nat} {xs : Nat → Int32} {d : Nat} {a2 : Int} {Q : lf_Z → Prop} {s : lf_Z} (h : fm_67 a2 Q s) : lf_M (px_ro L xs) (d + 2) 67 [.ref 22, .ref 15, .int (Int32.ofInt a2)] s (lf_qv Q) := by
  unfold fm_67 at h
  show lf_E (px_ro L xs) (d + 2) 67 0 [(0, .ref 22), (1, .ref 15), (2, .int (Int32.ofInt a2))] [] s _
  refine lf_seg 2 (pc' := 2) (lv' := [(0, .ref 22), (1, .ref 15), (2, .int (Int32.ofInt a2))]) (st' := [.ref 22, .ref 22]) rfl ?_
  refine lf_getI 5 2 rfl rfl rfl rfl rfl rfl rfl ?_
  refine lf_seg 1 (pc' := 6) (lv' := [(0, .ref 22), (1, .ref 15), (2, .int (Int32.ofInt a2))]) (st' := [.int (Int32.ofInt 1), .int (Int32.ofInt (s.1 22 2)), .ref 22]) rfl ?_
  refine lf_iadd 7 rfl rfl ?_
  refine lf_bipush 9 30 rfl rfl (by decide) (by decide) ?_
  obtain ⟨o21, h⟩ := h
  refine lf_irem 10 rfl rfl o21 ⟨by decide, by decide⟩ (by decide) ?_
  refine lf_putI 13 2 rfl rfl rfl rfl rfl rfl rfl rfl ?_
  refine lf_as (lf_up s.1 22 2 (((s.1 22 2) + 1).tmod 30), s.2.1, s.2.2) rfl ?_
  refine lf_seg 1 (pc' := 14) (lv' := [(0, .ref 22), (1, .ref 15), (2, .int (Int32.ofInt a2))]) (st' := [.ref 22]) rfl ?_
  refine lf_bipush 16 30 rfl rfl (by decide) (by decide) ?_
  refine lf_seg 1 (pc' := 17) (lv' := [(0, .ref 22), (1, .ref 15), (2, .int (Int32.ofInt a2))]) (st' := [.ref 22, .int (Int32.ofInt 30), .ref 22]) rfl ?_
  refine lf_getI 20 3 rfl rfl rfl rfl rfl rfl rfl ?_
  refine lf_seg 1 (pc' := 21) (lv' := [(0, .ref 22), (1, .ref 15), (2, .int (Int32.ofInt a2))]) (st' := [.int (Int32.ofInt 1), .int (Int32.ofInt (s.1 22 3)), .int (Int32.ofInt 30), .ref 22]) rfl ?_
  refine lf_iadd 22 rfl rfl ?_
  obtain ⟨o22, h⟩ := h
  refine lf_imin 25 rfl rfl rfl rfl ⟨by decide, by decide⟩ o22 ?_
  refine lf_putI 28 3 rfl rfl rfl rfl rfl rfl rfl rfl ?_
  refine lf_as (lf_up (lf_up s.1 22 2 (((s.1 22 2) + 1).tmod 30)) 22 3 (min 30 ((s.1 22 3) + 1)), s.2.1, s.2.2) rfl ?_
  refine lf_seg 4 (pc' := 34) (lv' := [(0, .ref 22), (1, .ref 15), (2, .int (Int32.ofInt a2))]) (st' := [.ref 22, .ref 23, .ref 15]) rfl ?_
  refine lf_getI 37 2 rfl rfl rfl rfl rfl rfl rfl ?_
  refine lf_seg 0 (pc' := 37) (lv' := [(0, .ref 22), (1, .ref 15), (2, .int (Int32.ofInt a2))]) (st' := [.int (Int32.ofInt (((s.1 22 2) + 1).tmod 30)), .ref 23, .ref 15]) rfl ?_
  refine lf_bipush 39 39 rfl rfl (by decide) (by decide) ?_
  refine lf_imul 40 rfl rfl ?_
  refine lf_callV 43 rfl rfl rfl rfl (gm_68 h) (fun s23 h => ?_)
  refine lf_seg 3 (pc' := 48) (lv' := [(0, .ref 22), (1, .ref 15), (2, .int (Int32.ofInt a2))]) (st' := [.ref 22, .ref 24]) rfl ?_
  refine lf_getI 51 2 rfl rfl rfl rfl rfl rfl rfl ?_
  refine lf_seg 1 (pc' := 52) (lv' := [(0, .ref 22), (1, .ref 15), (2, .int (Int32.ofInt a2))]) (st' := [.int (Int32.ofInt a2), .int (Int32.ofInt (s23.1 22 2)), .ref 24]) rfl ?_
  obtain ⟨o24, h⟩ := h
  refine lf_iast 53 30 rfl rfl rfl rfl rfl rfl o24 ?_
  refine lf_as (lf_up s23.1 24 (s23.1 22 2) a2, s23.2.1, s23.2.2) rfl ?_
  exact lf_retV rfl rfl h
-- fm_69 Stand.put 15 i i i i
def fm_69 (a1 : Int) (a2 : Int) (a3 : Int) (a4 : Int) (Q : lf_Z → Prop) (s : lf_Z) : Prop := (0 ≤ a1 ∧ a1 < 4) ∧ (Q (lf_up (lf_up (lf_up s.1 16 a1 a2) 17 a1 a3) 18 a1 a4, s.2.1, s.2.2))
set_option maxRecDepth 100000 in
theorem gm_69 {L : Nat} {xs : Nat → Int32} {d : Nat} {a1 : Int} {a2 : Int} {a3 : Int} {a4 : Int} {Q : lf_Z → Prop} {s : lf_Z} (h : fm_69 a1 a2 a3 a4 Q s) : lf_M (px_ro L xs) (d + 1) 69 [.ref 15, .int (Int32.ofInt a1), .int (Int32.ofInt a2), .int (Int32.ofInt a3), .int (Int32.ofInt a4)] s (lf_qv Q) := by
  unfold fm_69 at h
  show lf_E (px_ro L xs) (d + 1) 69 0 [(0, .ref 15), (1, .int (Int32.ofInt a1)), (2, .int (Int32.ofInt a2)), (3, .int (Int32.ofInt a3)), (4, .int (Int32.ofInt a4))] [] s _
  refine lf_seg 4 (pc' := 6) (lv' := [(0, .ref 15), (1, .int (Int32.ofInt a1)), (2, .int (Int32.ofInt a2)), (3, .int (Int32.ofInt a3)), (4, .int (Int32.ofInt a4))]) (st' := [.int (Int32.ofInt a2), .int (Int32.ofInt a1), .ref 16]) rfl ?_
  obtain ⟨o21, h⟩ := h
  refine lf_iast 7 4 rfl rfl rfl rfl rfl rfl o21 ?_
  refine lf_as (lf_up s.1 16 a1 a2, s.2.1, s.2.2) rfl ?_
  refine lf_seg 4 (pc' := 13) (lv' := [(0, .ref 15), (1, .int (Int32.ofInt a1)), (2, .int (Int32.ofInt a2)), (3, .int (Int32.ofInt a3)), (4, .int (Int32.ofInt a4))]) (st' := [.int (Int32.ofInt a3), .int (Int32.ofInt a1), .ref 17]) rfl ?_
  refine lf_iast 14 4 rfl rfl rfl rfl rfl rfl o21 ?_
  refine lf_as (lf_up (lf_up s.1 16 a1 a2) 17 a1 a3, s.2.1, s.2.2) rfl ?_
  refine lf_seg 4 (pc' := 21) (lv' := [(0, .ref 15), (1, .int (Int32.ofInt a1)), (2, .int (Int32.ofInt a2)), (3, .int (Int32.ofInt a3)), (4, .int (Int32.ofInt a4))]) (st' := [.int (Int32.ofInt a4), .int (Int32.ofInt a1), .ref 18]) rfl ?_
  refine lf_iast 22 4 rfl rfl rfl rfl rfl rfl o21 ?_
  refine lf_as (lf_up (lf_up (lf_up s.1 16 a1 a2) 17 a1 a3) 18 a1 a4, s.2.1, s.2.2) rfl ?_
  exact lf_retV rfl rfl h
-- fm_63 ElevenBullocks.stray 0 i i
def fm_63 (a1 : Int) (a2 : Int) (Q : Int → lf_Z → Prop) (s : lf_Z) : Prop := fm_64 (fun r22 s21 => (fm_15 a1 1 (lf_w (24 - r22)) (fun z24 s23 => ((z24 = false → (Q (-1) s23)) ∧ (z24 = true → (fm_18 a2 (fun z26 s25 => ((z26 = true → (fm_66 (fun r28 s27 => (lf_R r28 ∧ ((r28 = (-1) → (Q r28 s27)) ∧ (¬ (r28 = (-1)) → (fm_67 (s27.1 1 2) (fun s30 => (fm_69 r28 a1 a2 (-1) (fun s31 => (Q r28 s31)) s30)) s27))))) s25)) ∧ (z26 = false → (Q (-1) s25)))) s23)))) s21)) s
set_option maxRecDepth 100000 in
theorem gm_63 {L : Nat} {xs : Nat → Int32} {d : Nat} {a1 : Int} {a2 : Int} {Q : Int → lf_Z → Prop} {s : lf_Z} (h : fm_63 a1 a2 Q s) : lf_M (px_ro L xs) (d + 3) 63 [.ref 0, .int (Int32.ofInt a1), .int (Int32.ofInt a2)] s (lf_qi Q) := by
  unfold fm_63 at h
  show lf_E (px_ro L xs) (d + 3) 63 0 [(0, .ref 0), (1, .int (Int32.ofInt a1)), (2, .int (Int32.ofInt a2))] [] s _
  refine lf_seg 2 (pc' := 2) (lv' := [(0, .ref 0), (1, .int (Int32.ofInt a1)), (2, .int (Int32.ofInt a2))]) (st' := [.int (Int32.ofInt 1), .int (Int32.ofInt a1)]) rfl ?_
  refine lf_bipush 4 24 rfl rfl (by decide) (by decide) ?_
  refine lf_seg 2 (pc' := 8) (lv' := [(0, .ref 0), (1, .int (Int32.ofInt a1)), (2, .int (Int32.ofInt a2))]) (st' := [.ref 15, .int (Int32.ofInt 24), .int (Int32.ofInt 1), .int (Int32.ofInt a1)]) rfl ?_
  refine lf_callI 11 rfl rfl rfl rfl (gm_64 h) (fun r22 s21 h => ?_)
  refine lf_isub 12 rfl rfl ?_
  refine lf_wtI ?_
  refine lf_callZ 15 rfl rfl rfl rfl (gm_15 h) (fun z24 s23 h => ?_)
  refine lf_ifz_eq 29 18 rfl rfl rfl (fun c => ?_) (fun c => ?_)
  · have h := h.1 c
    refine lf_seg 1 (pc' := 30) (lv' := [(0, .ref 0), (1, .int (Int32.ofInt a1)), (2, .int (Int32.ofInt a2))]) (st' := [.int (Int32.ofInt (-1))]) rfl ?_
    exact lf_retI rfl rfl h
  · have h := h.2 c
    refine lf_seg 3 (pc' := 23) (lv' := [(0, .ref 0), (1, .int (Int32.ofInt a1)), (2, .int (Int32.ofInt a2))]) (st' := [.int (Int32.ofInt a2), .ref 1]) rfl ?_
    refine lf_callZ 26 rfl rfl rfl rfl (gm_18 h) (fun z26 s25 h => ?_)
    refine lf_ifz_ne 31 29 rfl rfl rfl (fun c => ?_) (fun c => ?_)
    · have h := h.1 c
      refine lf_seg 2 (pc' := 35) (lv' := [(0, .ref 0), (1, .int (Int32.ofInt a1)), (2, .int (Int32.ofInt a2))]) (st' := [.ref 15]) rfl ?_
      refine lf_callI 38 rfl rfl rfl rfl (gm_66 h) (fun r28 s27 h => ?_)
      refine lf_seg 3 (pc' := 41) (lv' := [(3, .int (Int32.ofInt r28)), (0, .ref 0), (1, .int (Int32.ofInt a1)), (2, .int (Int32.ofInt a2))]) (st' := [.int (Int32.ofInt (-1)), .int (Int32.ofInt r28)]) rfl ?_
      obtain ⟨o29, h⟩ := h
      refine lf_icmp_eq 73 44 rfl rfl rfl o29 ⟨by decide, by decide⟩ (fun c => ?_) (fun c => ?_)
      · have h := h.1 c
        refine lf_seg 1 (pc' := 74) (lv' := [(3, .int (Int32.ofInt r28)), (0, .ref 0), (1, .int (Int32.ofInt a1)), (2, .int (Int32.ofInt a2))]) (st' := [.int (Int32.ofInt r28)]) rfl ?_
        exact lf_retI rfl rfl h
      · have h := h.2 c
        refine lf_seg 6 (pc' := 56) (lv' := [(3, .int (Int32.ofInt r28)), (0, .ref 0), (1, .int (Int32.ofInt a1)), (2, .int (Int32.ofInt a2))]) (st' := [.ref 1, .ref 15, .ref 22]) rfl ?_
        refine lf_getI 59 2 rfl rfl rfl rfl rfl rfl rfl ?_
        refine lf_callV 62 rfl rfl rfl rfl (gm_67 h) (fun s30 h => ?_)
        refine lf_seg 6 (pc' := 70) (lv' := [(3, .int (Int32.ofInt r28)), (0, .ref 0), (1, .int (Int32.ofInt a1)), (2, .int (Int32.ofInt a2))]) (st' := [.int (Int32.ofInt (-1)), .int (Int32.ofInt a2), .int (Int32.ofInt a1), .int (Int32.ofInt r28), .ref 15]) rfl ?_
        refine lf_callV 73 rfl rfl rfl rfl (gm_69 h) (fun s31 h => ?_)
        refine lf_seg 1 (pc' := 74) (lv' := [(3, .int (Int32.ofInt r28)), (0, .ref 0), (1, .int (Int32.ofInt a1)), (2, .int (Int32.ofInt a2))]) (st' := [.int (Int32.ofInt r28)]) rfl ?_
        exact lf_retI rfl rfl h
    · have h := h.2 c
      refine lf_seg 1 (pc' := 30) (lv' := [(0, .ref 0), (1, .int (Int32.ofInt a1)), (2, .int (Int32.ofInt a2))]) (st' := [.int (Int32.ofInt (-1))]) rfl ?_
      exact lf_retI rfl rfl h
-- fm_242 Model.sizeOf 95 i
def fm_242 (a1 : Int) (Q : Int → lf_Z → Prop) (s : lf_Z) : Prop := (0 ≤ 114 + (3 * a1) ∧ 114 + (3 * a1) < 1538) ∧ (Q (s.1 96 (114 + (3 * a1))) s)
set_option maxRecDepth 100000 in
theorem gm_242 {L : Nat} {xs : Nat → Int32} {d : Nat} {a1 : Int} {Q : Int → lf_Z → Prop} {s : lf_Z} (h : fm_242 a1 Q s) : lf_M (px_ro L xs) (d + 1) 242 [.ref 95, .int (Int32.ofInt a1)] s (lf_qi Q) := by
  unfold fm_242 at h
  show lf_E (px_ro L xs) (d + 1) 242 0 [(0, .ref 95), (1, .int (Int32.ofInt a1))] [] s _
  refine lf_seg 2 (pc' := 4) (lv' := [(0, .ref 95), (1, .int (Int32.ofInt a1))]) (st' := [.ref 96]) rfl ?_
  refine lf_bipush 6 114 rfl rfl (by decide) (by decide) ?_
  refine lf_seg 2 (pc' := 8) (lv' := [(0, .ref 95), (1, .int (Int32.ofInt a1))]) (st' := [.int (Int32.ofInt a1), .int (Int32.ofInt 3), .int (Int32.ofInt 114), .ref 96]) rfl ?_
  refine lf_imul 9 rfl rfl ?_
  refine lf_iadd 10 rfl rfl ?_
  obtain ⟨o21, h⟩ := h
  refine lf_iald 11 1538 rfl rfl rfl rfl rfl rfl o21 ?_
  exact lf_retI rfl rfl h
-- fm_241 Model.freeBunch 95
def fm_241_p2 (Q : Int → lf_Z → Prop) (X2 : Int → lf_Z → Prop) (x1 : Int) (s : lf_Z) : Prop := lf_R x1 ∧ ((4 ≤ x1 → (Q (-1) s)) ∧ (¬ (4 ≤ x1) → (fm_242 x1 (fun r23 s22 => (lf_R r23 ∧ ((r23 ≠ 0 → (X2 (x1 + 1) s22)) ∧ (¬ (r23 ≠ 0) → (Q x1 s22))))) s)))
def fm_241_p2L (Q : Int → lf_Z → Prop) (x1 : Int) (s : lf_Z) : Prop := ∀ X2 : Int → lf_Z → Prop, (∀ (x1 : Int) (s : lf_Z), fm_241_p2 Q X2 x1 s → X2 x1 s) → X2 x1 s
set_option maxRecDepth 100000 in
theorem gm_241_p2 {L : Nat} {xs : Nat → Int32} {d : Nat} {Q : Int → lf_Z → Prop} {x1 : Int} {s : lf_Z} {X2 : Int → lf_Z → Prop} (hX2 : ∀ x1 s, X2 x1 s → lf_E (px_ro L xs) (d + 2) 241 2 [(0, .ref 95), (1, .int (Int32.ofInt x1))] [] s (lf_qi Q)) (h : fm_241_p2 Q X2 x1 s) : lf_E (px_ro L xs) (d + 2) 241 2 [(0, .ref 95), (1, .int (Int32.ofInt x1))] [] s (lf_qi Q) := by
  unfold fm_241_p2 at h
  refine lf_seg 2 (pc' := 4) (lv' := [(0, .ref 95), (1, .int (Int32.ofInt x1))]) (st' := [.int (Int32.ofInt 4), .int (Int32.ofInt x1)]) rfl ?_
  obtain ⟨o21, h⟩ := h
  refine lf_icmp_ge 23 7 rfl rfl rfl o21 ⟨by decide, by decide⟩ (fun c => ?_) (fun c => ?_)
  · have h := h.1 c
    refine lf_seg 1 (pc' := 24) (lv' := [(0, .ref 95), (1, .int (Int32.ofInt x1))]) (st' := [.int (Int32.ofInt (-1))]) rfl ?_
    exact lf_retI rfl rfl h
  · have h := h.2 c
    refine lf_seg 2 (pc' := 9) (lv' := [(0, .ref 95), (1, .int (Int32.ofInt x1))]) (st' := [.int (Int32.ofInt x1), .ref 95]) rfl ?_
    refine lf_callI 12 rfl rfl rfl rfl (gm_242 h) (fun r23 s22 h => ?_)
    obtain ⟨o24, h⟩ := h
    refine lf_if_ne 17 15 rfl rfl rfl o24 (fun c => ?_) (fun c => ?_)
    · have h := h.1 c
      refine lf_iinc 20 rfl rfl rfl rfl ?_
      refine lf_seg 1 (pc' := 2) (lv' := [(1, .int (Int32.ofInt (x1 + 1))), (0, .ref 95)]) (st' := []) rfl ?_
      refine lf_sub (l := [(0, .ref 95), (1, .int (Int32.ofInt (x1 + 1)))]) (lf_sb1 rfl (lf_sb1 rfl lf_sb0)) ?_
      exact hX2 _ _ h
    · have h := h.2 c
      refine lf_seg 1 (pc' := 16) (lv' := [(0, .ref 95), (1, .int (Int32.ofInt x1))]) (st' := [.int (Int32.ofInt x1)]) rfl ?_
      exact lf_retI rfl rfl h
theorem gm_241_p2L {L : Nat} {xs : Nat → Int32} {d : Nat} {Q : Int → lf_Z → Prop} {x1 : Int} {s : lf_Z} (h : fm_241_p2L Q x1 s) : lf_E (px_ro L xs) (d + 2) 241 2 [(0, .ref 95), (1, .int (Int32.ofInt x1))] [] s (lf_qi Q) :=
  h (fun x1 s => lf_E (px_ro L xs) (d + 2) 241 2 [(0, .ref 95), (1, .int (Int32.ofInt x1))] [] s (lf_qi Q)) (fun x1 s hb => gm_241_p2 (fun _ _ h => h) hb)
def fm_241 (Q : Int → lf_Z → Prop) (s : lf_Z) : Prop := fm_241_p2L Q 0 s
set_option maxRecDepth 100000 in
theorem gm_241 {L : Nat} {xs : Nat → Int32} {d : Nat} {Q : Int → lf_Z → Prop} {s : lf_Z} (h : fm_241 Q s) : lf_M (px_ro L xs) (d + 2) 241 [.ref 95] s (lf_qi Q) := by
  unfold fm_241 at h
  show lf_E (px_ro L xs) (d + 2) 241 0 [(0, .ref 95)] [] s _
  refine lf_seg 2 (pc' := 2) (lv' := [(1, .int (Int32.ofInt 0)), (0, .ref 95)]) (st' := []) rfl ?_
  refine lf_sub (l := [(0, .ref 95), (1, .int (Int32.ofInt 0))]) (lf_sb1 rfl (lf_sb1 rfl lf_sb0)) ?_
  exact gm_241_p2L h
-- fm_243 Model.beasts 95
def fm_243_p4 (Q : Int → lf_Z → Prop) (X4 : Int → Int → lf_Z → Prop) (x1 : Int) (x2 : Int) (s : lf_Z) : Prop := lf_R x2 ∧ ((4 ≤ x2 → (Q x1 s)) ∧ (¬ (4 ≤ x2) → (fm_242 x2 (fun r23 s22 => (X4 (x1 + r23) (x2 + 1) s22)) s)))
def fm_243_p4L (Q : Int → lf_Z → Prop) (x1 : Int) (x2 : Int) (s : lf_Z) : Prop := ∀ X4 : Int → Int → lf_Z → Prop, (∀ (x1 : Int) (x2 : Int) (s : lf_Z), fm_243_p4 Q X4 x1 x2 s → X4 x1 x2 s) → X4 x1 x2 s
set_option maxRecDepth 100000 in
theorem gm_243_p4 {L : Nat} {xs : Nat → Int32} {d : Nat} {Q : Int → lf_Z → Prop} {x1 : Int} {x2 : Int} {s : lf_Z} {X4 : Int → Int → lf_Z → Prop} (hX4 : ∀ x1 x2 s, X4 x1 x2 s → lf_E (px_ro L xs) (d + 2) 243 4 [(0, .ref 95), (1, .int (Int32.ofInt x1)), (2, .int (Int32.ofInt x2))] [] s (lf_qi Q)) (h : fm_243_p4 Q X4 x1 x2 s) : lf_E (px_ro L xs) (d + 2) 243 4 [(0, .ref 95), (1, .int (Int32.ofInt x1)), (2, .int (Int32.ofInt x2))] [] s (lf_qi Q) := by
  unfold fm_243_p4 at h
  refine lf_seg 2 (pc' := 6) (lv' := [(0, .ref 95), (1, .int (Int32.ofInt x1)), (2, .int (Int32.ofInt x2))]) (st' := [.int (Int32.ofInt 4), .int (Int32.ofInt x2)]) rfl ?_
  obtain ⟨o21, h⟩ := h
  refine lf_icmp_ge 23 9 rfl rfl rfl o21 ⟨by decide, by decide⟩ (fun c => ?_) (fun c => ?_)
  · have h := h.1 c
    refine lf_seg 1 (pc' := 24) (lv' := [(0, .ref 95), (1, .int (Int32.ofInt x1)), (2, .int (Int32.ofInt x2))]) (st' := [.int (Int32.ofInt x1)]) rfl ?_
    exact lf_retI rfl rfl h
  · have h := h.2 c
    refine lf_seg 3 (pc' := 12) (lv' := [(0, .ref 95), (1, .int (Int32.ofInt x1)), (2, .int (Int32.ofInt x2))]) (st' := [.int (Int32.ofInt x2), .ref 95, .int (Int32.ofInt x1)]) rfl ?_
    refine lf_callI 15 rfl rfl rfl rfl (gm_242 h) (fun r23 s22 h => ?_)
    refine lf_iadd 16 rfl rfl ?_
    refine lf_seg 1 (pc' := 17) (lv' := [(1, .int (Int32.ofInt (x1 + r23))), (0, .ref 95), (2, .int (Int32.ofInt x2))]) (st' := []) rfl ?_
    refine lf_iinc 20 rfl rfl rfl rfl ?_
    refine lf_seg 1 (pc' := 4) (lv' := [(2, .int (Int32.ofInt (x2 + 1))), (1, .int (Int32.ofInt (x1 + r23))), (0, .ref 95)]) (st' := []) rfl ?_
    refine lf_sub (l := [(0, .ref 95), (1, .int (Int32.ofInt (x1 + r23))), (2, .int (Int32.ofInt (x2 + 1)))]) (lf_sb1 rfl (lf_sb1 rfl (lf_sb1 rfl lf_sb0))) ?_
    exact hX4 _ _ _ h
theorem gm_243_p4L {L : Nat} {xs : Nat → Int32} {d : Nat} {Q : Int → lf_Z → Prop} {x1 : Int} {x2 : Int} {s : lf_Z} (h : fm_243_p4L Q x1 x2 s) : lf_E (px_ro L xs) (d + 2) 243 4 [(0, .ref 95), (1, .int (Int32.ofInt x1)), (2, .int (Int32.ofInt x2))] [] s (lf_qi Q) :=
  h (fun x1 x2 s => lf_E (px_ro L xs) (d + 2) 243 4 [(0, .ref 95), (1, .int (Int32.ofInt x1)), (2, .int (Int32.ofInt x2))] [] s (lf_qi Q)) (fun x1 x2 s hb => gm_243_p4 (fun _ _ _ h => h) hb)
def fm_243 (Q : Int → lf_Z → Prop) (s : lf_Z) : Prop := fm_243_p4L Q 0 0 s
set_option maxRecDepth 100000 in
theorem gm_243 {L : Nat} {xs : Nat → Int32} {d : Nat} {Q : Int → lf_Z → Prop} {s : lf_Z} (h : fm_243 Q s) : lf_M (px_ro L xs) (d + 2) 243 [.ref 95] s (lf_qi Q) := by
  unfold fm_243 at h
  show lf_E (px_ro L xs) (d + 2) 243 0 [(0, .ref 95)] [] s _
  refine lf_seg 4 (pc' := 4) (lv' := [(2, .int (Int32.ofInt 0)), (1, .int (Int32.ofInt 0)), (0, .ref 95)]) (st' := []) rfl ?_
  refine lf_sub (l := [(0, .ref 95), (1, .int (Int32.ofInt 0)), (2, .int (Int32.ofInt 0))]) (lf_sb1 rfl (lf_sb1 rfl (lf_sb1 rfl lf_sb0))) ?_
  exact gm_243_p4L h
-- fm_246 Model.doneAt 95 i
def fm_246 (a1 : Int) (Q : Int → lf_Z → Prop) (s : lf_Z) : Prop := (0 ≤ (14 + (3 * a1)) + 2 ∧ (14 + (3 * a1)) + 2 < 1538) ∧ (Q (s.1 96 ((14 + (3 * a1)) + 2)) s)
set_option maxRecDepth 100000 in
theorem gm_246 {L : Nat} {xs : Nat → Int32} {d : Nat} {a1 : Int} {Q : Int → lf_Z → Prop} {s : lf_Z} (h : fm_246 a1 Q s) : lf_M (px_ro L xs) (d + 1) 246 [.ref 95, .int (Int32.ofInt a1)] s (lf_qi Q) := by
  unfold fm_246 at h
  show lf_E (px_ro L xs) (d + 1) 246 0 [(0, .ref 95), (1, .int (Int32.ofInt a1))] [] s _
  refine lf_seg 2 (pc' := 4) (lv' := [(0, .ref 95), (1, .int (Int32.ofInt a1))]) (st' := [.ref 96]) rfl ?_
  refine lf_bipush 6 14 rfl rfl (by decide) (by decide) ?_
  refine lf_seg 2 (pc' := 8) (lv' := [(0, .ref 95), (1, .int (Int32.ofInt a1))]) (st' := [.int (Int32.ofInt a1), .int (Int32.ofInt 3), .int (Int32.ofInt 14), .ref 96]) rfl ?_
  refine lf_imul 9 rfl rfl ?_
  refine lf_iadd 10 rfl rfl ?_
  refine lf_seg 1 (pc' := 11) (lv' := [(0, .ref 95), (1, .int (Int32.ofInt a1))]) (st' := [.int (Int32.ofInt 2), .int (Int32.ofInt (14 + (3 * a1))), .ref 96]) rfl ?_
  refine lf_iadd 12 rfl rfl ?_
  obtain ⟨o21, h⟩ := h
  refine lf_iald 13 1538 rfl rfl rfl rfl rfl rfl o21 ?_
  exact lf_retI rfl rfl h
-- fm_239 Model.get 95 i 3
def fm_239 (a1 : Int) (Q : Int → lf_Z → Prop) (s : lf_Z) : Prop := (0 ≤ (126 + (6 * a1)) + 3 ∧ (126 + (6 * a1)) + 3 < 1538) ∧ (Q (s.1 96 ((126 + (6 * a1)) + 3)) s)
set_option maxRecDepth 100000 in
theorem gm_239 {L : Nat} {xs : Nat → Int32} {d : Nat} {a1 : Int} {Q : Int → lf_Z → Prop} {s : lf_Z} (h : fm_239 a1 Q s) : lf_M (px_ro L xs) (d + 1) 239 [.ref 95, .int (Int32.ofInt a1), .int (Int32.ofInt 3)] s (lf_qi Q) := by
  unfold fm_239 at h
  show lf_E (px_ro L xs) (d + 1) 239 0 [(0, .ref 95), (1, .int (Int32.ofInt a1)), (2, .int (Int32.ofInt 3))] [] s _
  refine lf_seg 2 (pc' := 4) (lv' := [(0, .ref 95), (1, .int (Int32.ofInt a1)), (2, .int (Int32.ofInt 3))]) (st' := [.ref 96]) rfl ?_
  refine lf_bipush 6 126 rfl rfl (by decide) (by decide) ?_
  refine lf_bipush 8 6 rfl rfl (by decide) (by decide) ?_
  refine lf_seg 1 (pc' := 9) (lv' := [(0, .ref 95), (1, .int (Int32.ofInt a1)), (2, .int (Int32.ofInt 3))]) (st' := [.int (Int32.ofInt a1), .int (Int32.ofInt 6), .int (Int32.ofInt 126), .ref 96]) rfl ?_
  refine lf_imul 10 rfl rfl ?_
  refine lf_iadd 11 rfl rfl ?_
  refine lf_seg 1 (pc' := 12) (lv' := [(0, .ref 95), (1, .int (Int32.ofInt a1)), (2, .int (Int32.ofInt 3))]) (st' := [.int (Int32.ofInt 3), .int (Int32.ofInt (126 + (6 * a1))), .ref 96]) rfl ?_
  refine lf_iadd 13 rfl rfl ?_
  obtain ⟨o21, h⟩ := h
  refine lf_iald 14 1538 rfl rfl rfl rfl rfl rfl o21 ?_
  exact lf_retI rfl rfl h
-- fm_239b Model.get 95 i 4
def fm_239b (a1 : Int) (Q : Int → lf_Z → Prop) (s : lf_Z) : Prop := (0 ≤ (126 + (6 * a1)) + 4 ∧ (126 + (6 * a1)) + 4 < 1538) ∧ (Q (s.1 96 ((126 + (6 * a1)) + 4)) s)
set_option maxRecDepth 100000 in
theorem gm_239b {L : Nat} {xs : Nat → Int32} {d : Nat} {a1 : Int} {Q : Int → lf_Z → Prop} {s : lf_Z} (h : fm_239b a1 Q s) : lf_M (px_ro L xs) (d + 1) 239 [.ref 95, .int (Int32.ofInt a1), .int (Int32.ofInt 4)] s (lf_qi Q) := by
  unfold fm_239b at h
  show lf_E (px_ro L xs) (d + 1) 239 0 [(0, .ref 95), (1, .int (Int32.ofInt a1)), (2, .int (Int32.ofInt 4))] [] s _
  refine lf_seg 2 (pc' := 4) (lv' := [(0, .ref 95), (1, .int (Int32.ofInt a1)), (2, .int (Int32.ofInt 4))]) (st' := [.ref 96]) rfl ?_
  refine lf_bipush 6 126 rfl rfl (by decide) (by decide) ?_
  refine lf_bipush 8 6 rfl rfl (by decide) (by decide) ?_
  refine lf_seg 1 (pc' := 9) (lv' := [(0, .ref 95), (1, .int (Int32.ofInt a1)), (2, .int (Int32.ofInt 4))]) (st' := [.int (Int32.ofInt a1), .int (Int32.ofInt 6), .int (Int32.ofInt 126), .ref 96]) rfl ?_
  refine lf_imul 10 rfl rfl ?_
  refine lf_iadd 11 rfl rfl ?_
  refine lf_seg 1 (pc' := 12) (lv' := [(0, .ref 95), (1, .int (Int32.ofInt a1)), (2, .int (Int32.ofInt 4))]) (st' := [.int (Int32.ofInt 4), .int (Int32.ofInt (126 + (6 * a1))), .ref 96]) rfl ?_
  refine lf_iadd 13 rfl rfl ?_
  obtain ⟨o21, h⟩ := h
  refine lf_iald 14 1538 rfl rfl rfl rfl rfl rfl o21 ?_
  exact lf_retI rfl rfl h
-- fm_245 Model.isOpen 95 i
def fm_245 (a1 : Int) (Q : Bool → lf_Z → Prop) (s : lf_Z) : Prop := (0 ≤ (50 + (4 * a1)) + 3 ∧ (50 + (4 * a1)) + 3 < 1538) ∧ (lf_R (s.1 96 ((50 + (4 * a1)) + 3)) ∧ ((s.1 96 ((50 + (4 * a1)) + 3) ≠ 1 → (Q false s)) ∧ (¬ (s.1 96 ((50 + (4 * a1)) + 3) ≠ 1) → (Q true s))))
set_option maxRecDepth 100000 in
theorem gm_245 {L : Nat} {xs : Nat → Int32} {d : Nat} {a1 : Int} {Q : Bool → lf_Z → Prop} {s : lf_Z} (h : fm_245 a1 Q s) : lf_M (px_ro L xs) (d + 1) 245 [.ref 95, .int (Int32.ofInt a1)] s (lf_qz Q) := by
  unfold fm_245 at h
  show lf_E (px_ro L xs) (d + 1) 245 0 [(0, .ref 95), (1, .int (Int32.ofInt a1))] [] s _
  refine lf_seg 2 (pc' := 4) (lv' := [(0, .ref 95), (1, .int (Int32.ofInt a1))]) (st' := [.ref 96]) rfl ?_
  refine lf_bipush 6 50 rfl rfl (by decide) (by decide) ?_
  refine lf_seg 2 (pc' := 8) (lv' := [(0, .ref 95), (1, .int (Int32.ofInt a1))]) (st' := [.int (Int32.ofInt a1), .int (Int32.ofInt 4), .int (Int32.ofInt 50), .ref 96]) rfl ?_
  refine lf_imul 9 rfl rfl ?_
  refine lf_iadd 10 rfl rfl ?_
  refine lf_seg 1 (pc' := 11) (lv' := [(0, .ref 95), (1, .int (Int32.ofInt a1))]) (st' := [.int (Int32.ofInt 3), .int (Int32.ofInt (50 + (4 * a1))), .ref 96]) rfl ?_
  refine lf_iadd 12 rfl rfl ?_
  obtain ⟨o21, h⟩ := h
  refine lf_iald 13 1538 rfl rfl rfl rfl rfl rfl o21 ?_
  refine lf_seg 1 (pc' := 14) (lv' := [(0, .ref 95), (1, .int (Int32.ofInt a1))]) (st' := [.int (Int32.ofInt 1), .int (Int32.ofInt (s.1 96 ((50 + (4 * a1)) + 3)))]) rfl ?_
  obtain ⟨o22, h⟩ := h
  refine lf_icmp_ne 21 17 rfl rfl rfl o22 ⟨by decide, by decide⟩ (fun c => ?_) (fun c => ?_)
  · have h := h.1 c
    refine lf_seg 1 (pc' := 22) (lv' := [(0, .ref 95), (1, .int (Int32.ofInt a1))]) (st' := [.int (Int32.ofInt 0)]) rfl ?_
    exact lf_retZ false rfl rfl h
  · have h := h.2 c
    refine lf_seg 2 (pc' := 22) (lv' := [(0, .ref 95), (1, .int (Int32.ofInt a1))]) (st' := [.int (Int32.ofInt 1)]) rfl ?_
    exact lf_retZ true rfl rfl h
-- fm_244 Model.keep 95
def fm_244_p268 (Q : lf_Z → Prop) (x1 : Int) (X268 : Int → lf_Z → Prop) (x2 : Int) (s : lf_Z) : Prop := lf_R x2 ∧ ((12 ≤ x2 → (Q (lf_up s.1 96 9 ((s.1 96 9) + 1), s.2.1, s.2.2))) ∧ (¬ (12 ≤ x2) → (fm_246 x2 (fun r33 s32 => ((0 ≤ (x1 + 29) + x2 ∧ (x1 + 29) + x2 < 1538) ∧ (X268 (x2 + 1) (lf_up s32.1 96 ((x1 + 29) + x2) r33, s32.2.1, s32.2.2)))) s)))
def fm_244_p268L (Q : lf_Z → Prop) (x1 : Int) (x2 : Int) (s : lf_Z) : Prop := ∀ X268 : Int → lf_Z → Prop, (∀ (x2 : Int) (s : lf_Z), fm_244_p268 Q x1 X268 x2 s → X268 x2 s) → X268 x2 s
set_option maxRecDepth 100000 in
theorem gm_244_p268 {L : Nat} {xs : Nat → Int32} {d : Nat} {Q : lf_Z → Prop} {x1 : Int} {x2 : Int} {s : lf_Z} {X268 : Int → lf_Z → Prop} (hX268 : ∀ x2 s, X268 x2 s → lf_E (px_ro L xs) (d + 2) 244 268 [(0, .ref 95), (1, .int (Int32.ofInt x1)), (2, .int (Int32.ofInt x2))] [] s (lf_qv Q)) (h : fm_244_p268 Q x1 X268 x2 s) : lf_E (px_ro L xs) (d + 2) 244 268 [(0, .ref 95), (1, .int (Int32.ofInt x1)), (2, .int (Int32.ofInt x2))] [] s (lf_qv Q) := by
  unfold fm_244_p268 at h
  refine lf_seg 1 (pc' := 269) (lv' := [(0, .ref 95), (1, .int (Int32.ofInt x1)), (2, .int (Int32.ofInt x2))]) (st' := [.int (Int32.ofInt x2)]) rfl ?_
  refine lf_bipush 271 12 rfl rfl (by decide) (by decide) ?_
  obtain ⟨o31, h⟩ := h
  refine lf_icmp_ge 296 274 rfl rfl rfl o31 ⟨by decide, by decide⟩ (fun c => ?_) (fun c => ?_)
  · have h := h.1 c
    refine lf_seg 2 (pc' := 300) (lv' := [(0, .ref 95), (1, .int (Int32.ofInt x1)), (2, .int (Int32.ofInt x2))]) (st' := [.ref 96]) rfl ?_
    refine lf_bipush 302 9 rfl rfl (by decide) (by decide) ?_
    refine lf_seg 1 (pc' := 303) (lv' := [(0, .ref 95), (1, .int (Int32.ofInt x1)), (2, .int (Int32.ofInt x2))]) (st' := [.int (Int32.ofInt 9), .ref 96, .int (Int32.ofInt 9), .ref 96]) rfl ?_
    refine lf_iald 304 1538 rfl rfl rfl rfl rfl rfl ⟨by decide, by decide⟩ ?_
    refine lf_seg 1 (pc' := 305) (lv' := [(0, .ref 95), (1, .int (Int32.ofInt x1)), (2, .int (Int32.ofInt x2))]) (st' := [.int (Int32.ofInt 1), .int (Int32.ofInt (s.1 96 9)), .int (Int32.ofInt 9), .ref 96]) rfl ?_
    refine lf_iadd 306 rfl rfl ?_
    refine lf_iast 307 1538 rfl rfl rfl rfl rfl rfl ⟨by decide, by decide⟩ ?_
    refine lf_as (lf_up s.1 96 9 ((s.1 96 9) + 1), s.2.1, s.2.2) rfl ?_
    exact lf_retV rfl rfl h
  · have h := h.2 c
    refine lf_seg 3 (pc' := 279) (lv' := [(0, .ref 95), (1, .int (Int32.ofInt x1)), (2, .int (Int32.ofInt x2))]) (st' := [.int (Int32.ofInt x1), .ref 96]) rfl ?_
    refine lf_bipush 281 29 rfl rfl (by decide) (by decide) ?_
    refine lf_iadd 282 rfl rfl ?_
    refine lf_seg 1 (pc' := 283) (lv' := [(0, .ref 95), (1, .int (Int32.ofInt x1)), (2, .int (Int32.ofInt x2))]) (st' := [.int (Int32.ofInt x2), .int (Int32.ofInt (x1 + 29)), .ref 96]) rfl ?_
    refine lf_iadd 284 rfl rfl ?_
    refine lf_seg 2 (pc' := 286) (lv' := [(0, .ref 95), (1, .int (Int32.ofInt x1)), (2, .int (Int32.ofInt x2))]) (st' := [.int (Int32.ofInt x2), .ref 95, .int (Int32.ofInt ((x1 + 29) + x2)), .ref 96]) rfl ?_
    refine lf_callI 289 rfl rfl rfl rfl (gm_246 h) (fun r33 s32 h => ?_)
    obtain ⟨o34, h⟩ := h
    refine lf_iast 290 1538 rfl rfl rfl rfl rfl rfl o34 ?_
    refine lf_as (lf_up s32.1 96 ((x1 + 29) + x2) r33, s32.2.1, s32.2.2) rfl ?_
    refine lf_iinc 293 rfl rfl rfl rfl ?_
    refine lf_seg 1 (pc' := 268) (lv' := [(2, .int (Int32.ofInt (x2 + 1))), (0, .ref 95), (1, .int (Int32.ofInt x1))]) (st' := []) rfl ?_
    refine lf_sub (l := [(0, .ref 95), (1, .int (Int32.ofInt x1)), (2, .int (Int32.ofInt (x2 + 1)))]) (lf_sb1 rfl (lf_sb1 rfl (lf_sb1 rfl lf_sb0))) ?_
    exact hX268 _ _ h
theorem gm_244_p268L {L : Nat} {xs : Nat → Int32} {d : Nat} {Q : lf_Z → Prop} {x1 : Int} {x2 : Int} {s : lf_Z} (h : fm_244_p268L Q x1 x2 s) : lf_E (px_ro L xs) (d + 2) 244 268 [(0, .ref 95), (1, .int (Int32.ofInt x1)), (2, .int (Int32.ofInt x2))] [] s (lf_qv Q) :=
  h (fun x2 s => lf_E (px_ro L xs) (d + 2) 244 268 [(0, .ref 95), (1, .int (Int32.ofInt x1)), (2, .int (Int32.ofInt x2))] [] s (lf_qv Q)) (fun x2 s hb => gm_244_p268 (fun _ _ h => h) hb)
def fm_244_p216 (Q : lf_Z → Prop) (x1 : Int) (X216 : Int → lf_Z → Prop) (x2 : Int) (s : lf_Z) : Prop := lf_R x2 ∧ ((6 ≤ x2 → (fm_244_p268L Q x1 0 s)) ∧ (¬ (6 ≤ x2) → (fm_239 x2 (fun r36 s35 => ((0 ≤ (x1 + 17) + (2 * x2) ∧ (x1 + 17) + (2 * x2) < 1538) ∧ (fm_239b x2 (fun r39 s38 => ((0 ≤ (x1 + 18) + (2 * x2) ∧ (x1 + 18) + (2 * x2) < 1538) ∧ (X216 (x2 + 1) (lf_up s38.1 96 ((x1 + 18) + (2 * x2)) r39, s38.2.1, s38.2.2)))) (lf_up s35.1 96 ((x1 + 17) + (2 * x2)) r36, s35.2.1, s35.2.2)))) s)))
def fm_244_p216L (Q : lf_Z → Prop) (x1 : Int) (x2 : Int) (s : lf_Z) : Prop := ∀ X216 : Int → lf_Z → Prop, (∀ (x2 : Int) (s : lf_Z), fm_244_p216 Q x1 X216 x2 s → X216 x2 s) → X216 x2 s
set_option maxRecDepth 100000 in
theorem gm_244_p216 {L : Nat} {xs : Nat → Int32} {d : Nat} {Q : lf_Z → Prop} {x1 : Int} {x2 : Int} {s : lf_Z} {X216 : Int → lf_Z → Prop} (hX216 : ∀ x2 s, X216 x2 s → lf_E (px_ro L xs) (d + 2) 244 216 [(0, .ref 95), (1, .int (Int32.ofInt x1)), (2, .int (Int32.ofInt x2))] [] s (lf_qv Q)) (h : fm_244_p216 Q x1 X216 x2 s) : lf_E (px_ro L xs) (d + 2) 244 216 [(0, .ref 95), (1, .int (Int32.ofInt x1)), (2, .int (Int32.ofInt x2))] [] s (lf_qv Q) := by
  unfold fm_244_p216 at h
  refine lf_seg 1 (pc' := 217) (lv' := [(0, .ref 95), (1, .int (Int32.ofInt x1)), (2, .int (Int32.ofInt x2))]) (st' := [.int (Int32.ofInt x2)]) rfl ?_
  refine lf_bipush 219 6 rfl rfl (by decide) (by decide) ?_
  obtain ⟨o30, h⟩ := h
  refine lf_icmp_ge 266 222 rfl rfl rfl o30 ⟨by decide, by decide⟩ (fun c => ?_) (fun c => ?_)
  · have h := h.1 c
    refine lf_seg 2 (pc' := 268) (lv' := [(2, .int (Int32.ofInt 0)), (0, .ref 95), (1, .int (Int32.ofInt x1))]) (st' := []) rfl ?_
    refine lf_sub (l := [(0, .ref 95), (1, .int (Int32.ofInt x1)), (2, .int (Int32.ofInt 0))]) (lf_sb1 rfl (lf_sb1 rfl (lf_sb1 rfl lf_sb0))) ?_
    exact gm_244_p268L h
  · have h := h.2 c
    refine lf_seg 3 (pc' := 227) (lv' := [(0, .ref 95), (1, .int (Int32.ofInt x1)), (2, .int (Int32.ofInt x2))]) (st' := [.int (Int32.ofInt x1), .ref 96]) rfl ?_
    refine lf_bipush 229 17 rfl rfl (by decide) (by decide) ?_
    refine lf_iadd 230 rfl rfl ?_
    refine lf_seg 2 (pc' := 232) (lv' := [(0, .ref 95), (1, .int (Int32.ofInt x1)), (2, .int (Int32.ofInt x2))]) (st' := [.int (Int32.ofInt x2), .int (Int32.ofInt 2), .int (Int32.ofInt (x1 + 17)), .ref 96]) rfl ?_
    refine lf_imul 233 rfl rfl ?_
    refine lf_iadd 234 rfl rfl ?_
    refine lf_seg 3 (pc' := 237) (lv' := [(0, .ref 95), (1, .int (Int32.ofInt x1)), (2, .int (Int32.ofInt x2))]) (st' := [.int (Int32.ofInt 3), .int (Int32.ofInt x2), .ref 95, .int (Int32.ofInt ((x1 + 17) + (2 * x2))), .ref 96]) rfl ?_
    refine lf_callI 240 rfl rfl rfl rfl (gm_239 h) (fun r36 s35 h => ?_)
    obtain ⟨o37, h⟩ := h
    refine lf_iast 241 1538 rfl rfl rfl rfl rfl rfl o37 ?_
    refine lf_as (lf_up s35.1 96 ((x1 + 17) + (2 * x2)) r36, s35.2.1, s35.2.2) rfl ?_
    refine lf_seg 3 (pc' := 246) (lv' := [(0, .ref 95), (1, .int (Int32.ofInt x1)), (2, .int (Int32.ofInt x2))]) (st' := [.int (Int32.ofInt x1), .ref 96]) rfl ?_
    refine lf_bipush 248 18 rfl rfl (by decide) (by decide) ?_
    refine lf_iadd 249 rfl rfl ?_
    refine lf_seg 2 (pc' := 251) (lv' := [(0, .ref 95), (1, .int (Int32.ofInt x1)), (2, .int (Int32.ofInt x2))]) (st' := [.int (Int32.ofInt x2), .int (Int32.ofInt 2), .int (Int32.ofInt (x1 + 18)), .ref 96]) rfl ?_
    refine lf_imul 252 rfl rfl ?_
    refine lf_iadd 253 rfl rfl ?_
    refine lf_seg 3 (pc' := 256) (lv' := [(0, .ref 95), (1, .int (Int32.ofInt x1)), (2, .int (Int32.ofInt x2))]) (st' := [.int (Int32.ofInt 4), .int (Int32.ofInt x2), .ref 95, .int (Int32.ofInt ((x1 + 18) + (2 * x2))), .ref 96]) rfl ?_
    refine lf_callI 259 rfl rfl rfl rfl (gm_239b h) (fun r39 s38 h => ?_)
    obtain ⟨o40, h⟩ := h
    refine lf_iast 260 1538 rfl rfl rfl rfl rfl rfl o40 ?_
    refine lf_as (lf_up s38.1 96 ((x1 + 18) + (2 * x2)) r39, s38.2.1, s38.2.2) rfl ?_
    refine lf_iinc 263 rfl rfl rfl rfl ?_
    refine lf_seg 1 (pc' := 216) (lv' := [(2, .int (Int32.ofInt (x2 + 1))), (0, .ref 95), (1, .int (Int32.ofInt x1))]) (st' := []) rfl ?_
    refine lf_sub (l := [(0, .ref 95), (1, .int (Int32.ofInt x1)), (2, .int (Int32.ofInt (x2 + 1)))]) (lf_sb1 rfl (lf_sb1 rfl (lf_sb1 rfl lf_sb0))) ?_
    exact hX216 _ _ h
theorem gm_244_p216L {L : Nat} {xs : Nat → Int32} {d : Nat} {Q : lf_Z → Prop} {x1 : Int} {x2 : Int} {s : lf_Z} (h : fm_244_p216L Q x1 x2 s) : lf_E (px_ro L xs) (d + 2) 244 216 [(0, .ref 95), (1, .int (Int32.ofInt x1)), (2, .int (Int32.ofInt x2))] [] s (lf_qv Q) :=
  h (fun x2 s => lf_E (px_ro L xs) (d + 2) 244 216 [(0, .ref 95), (1, .int (Int32.ofInt x1)), (2, .int (Int32.ofInt x2))] [] s (lf_qv Q)) (fun x2 s hb => gm_244_p216 (fun _ _ h => h) hb)
def fm_244_p183 (Q : lf_Z → Prop) (x1 : Int) (X183 : Int → lf_Z → Prop) (x2 : Int) (s : lf_Z) : Prop := lf_R x2 ∧ ((12 ≤ x2 → (fm_244_p216L Q x1 0 s)) ∧ (¬ (12 ≤ x2) → ((0 ≤ 114 + x2 ∧ 114 + x2 < 1538) ∧ ((0 ≤ (x1 + 5) + x2 ∧ (x1 + 5) + x2 < 1538) ∧ (X183 (x2 + 1) (lf_up s.1 96 ((x1 + 5) + x2) (s.1 96 (114 + x2)), s.2.1, s.2.2))))))
def fm_244_p183L (Q : lf_Z → Prop) (x1 : Int) (x2 : Int) (s : lf_Z) : Prop := ∀ X183 : Int → lf_Z → Prop, (∀ (x2 : Int) (s : lf_Z), fm_244_p183 Q x1 X183 x2 s → X183 x2 s) → X183 x2 s
set_option maxRecDepth 100000 in
theorem gm_244_p183 {L : Nat} {xs : Nat → Int32} {d : Nat} {Q : lf_Z → Prop} {x1 : Int} {x2 : Int} {s : lf_Z} {X183 : Int → lf_Z → Prop} (hX183 : ∀ x2 s, X183 x2 s → lf_E (px_ro L xs) (d + 2) 244 183 [(0, .ref 95), (1, .int (Int32.ofInt x1)), (2, .int (Int32.ofInt x2))] [] s (lf_qv Q)) (h : fm_244_p183 Q x1 X183 x2 s) : lf_E (px_ro L xs) (d + 2) 244 183 [(0, .ref 95), (1, .int (Int32.ofInt x1)), (2, .int (Int32.ofInt x2))] [] s (lf_qv Q) := by
  unfold fm_244_p183 at h
  refine lf_seg 1 (pc' := 184) (lv' := [(0, .ref 95), (1, .int (Int32.ofInt x1)), (2, .int (Int32.ofInt x2))]) (st' := [.int (Int32.ofInt x2)]) rfl ?_
  refine lf_bipush 186 12 rfl rfl (by decide) (by decide) ?_
  obtain ⟨o29, h⟩ := h
  refine lf_icmp_ge 214 189 rfl rfl rfl o29 ⟨by decide, by decide⟩ (fun c => ?_) (fun c => ?_)
  · have h := h.1 c
    refine lf_seg 2 (pc' := 216) (lv' := [(2, .int (Int32.ofInt 0)), (0, .ref 95), (1, .int (Int32.ofInt x1))]) (st' := []) rfl ?_
    refine lf_sub (l := [(0, .ref 95), (1, .int (Int32.ofInt x1)), (2, .int (Int32.ofInt 0))]) (lf_sb1 rfl (lf_sb1 rfl (lf_sb1 rfl lf_sb0))) ?_
    exact gm_244_p216L h
  · have h := h.2 c
    refine lf_seg 4 (pc' := 195) (lv' := [(0, .ref 95), (1, .int (Int32.ofInt x1)), (2, .int (Int32.ofInt x2))]) (st' := [.int (Int32.ofInt 5), .int (Int32.ofInt x1), .ref 96]) rfl ?_
    refine lf_iadd 196 rfl rfl ?_
    refine lf_seg 1 (pc' := 197) (lv' := [(0, .ref 95), (1, .int (Int32.ofInt x1)), (2, .int (Int32.ofInt x2))]) (st' := [.int (Int32.ofInt x2), .int (Int32.ofInt (x1 + 5)), .ref 96]) rfl ?_
    refine lf_iadd 198 rfl rfl ?_
    refine lf_seg 2 (pc' := 202) (lv' := [(0, .ref 95), (1, .int (Int32.ofInt x1)), (2, .int (Int32.ofInt x2))]) (st' := [.ref 96, .int (Int32.ofInt ((x1 + 5) + x2)), .ref 96]) rfl ?_
    refine lf_bipush 204 114 rfl rfl (by decide) (by decide) ?_
    refine lf_seg 1 (pc' := 205) (lv' := [(0, .ref 95), (1, .int (Int32.ofInt x1)), (2, .int (Int32.ofInt x2))]) (st' := [.int (Int32.ofInt x2), .int (Int32.ofInt 114), .ref 96, .int (Int32.ofInt ((x1 + 5) + x2)), .ref 96]) rfl ?_
    refine lf_iadd 206 rfl rfl ?_
    obtain ⟨o41, h⟩ := h
    refine lf_iald 207 1538 rfl rfl rfl rfl rfl rfl o41 ?_
    obtain ⟨o42, h⟩ := h
    refine lf_iast 208 1538 rfl rfl rfl rfl rfl rfl o42 ?_
    refine lf_as (lf_up s.1 96 ((x1 + 5) + x2) (s.1 96 (114 + x2)), s.2.1, s.2.2) rfl ?_
    refine lf_iinc 211 rfl rfl rfl rfl ?_
    refine lf_seg 1 (pc' := 183) (lv' := [(2, .int (Int32.ofInt (x2 + 1))), (0, .ref 95), (1, .int (Int32.ofInt x1))]) (st' := []) rfl ?_
    refine lf_sub (l := [(0, .ref 95), (1, .int (Int32.ofInt x1)), (2, .int (Int32.ofInt (x2 + 1)))]) (lf_sb1 rfl (lf_sb1 rfl (lf_sb1 rfl lf_sb0))) ?_
    exact hX183 _ _ h
theorem gm_244_p183L {L : Nat} {xs : Nat → Int32} {d : Nat} {Q : lf_Z → Prop} {x1 : Int} {x2 : Int} {s : lf_Z} (h : fm_244_p183L Q x1 x2 s) : lf_E (px_ro L xs) (d + 2) 244 183 [(0, .ref 95), (1, .int (Int32.ofInt x1)), (2, .int (Int32.ofInt x2))] [] s (lf_qv Q) :=
  h (fun x2 s => lf_E (px_ro L xs) (d + 2) 244 183 [(0, .ref 95), (1, .int (Int32.ofInt x1)), (2, .int (Int32.ofInt x2))] [] s (lf_qv Q)) (fun x2 s hb => gm_244_p183 (fun _ _ h => h) hb)
def fm_244_p144 (X110 : Int → lf_Z → Prop) (Q : lf_Z → Prop) (x1 : Int) (x2 : Int) (y1 : Int) (y2 : Int) (y3 : Int) (s : lf_Z) : Prop := (0 ≤ y1 ∧ y1 < 1538) ∧ (X110 (x2 + 1) (lf_up s.1 96 y1 (lf_or y2 y3), s.2.1, s.2.2))
set_option maxRecDepth 100000 in
theorem gm_244_p144 {L : Nat} {xs : Nat → Int32} {d : Nat} {X110 : Int → lf_Z → Prop} {Q : lf_Z → Prop} {x1 : Int} {x2 : Int} {y1 : Int} {y2 : Int} {y3 : Int} {s : lf_Z} (hX110 : ∀ x2 s, X110 x2 s → lf_E (px_ro L xs) (d + 2) 244 110 [(0, .ref 95), (1, .int (Int32.ofInt x1)), (2, .int (Int32.ofInt x2))] [] s (lf_qv Q)) (h : fm_244_p144 X110 Q x1 x2 y1 y2 y3 s) : lf_E (px_ro L xs) (d + 2) 244 144 [(0, .ref 95), (1, .int (Int32.ofInt x1)), (2, .int (Int32.ofInt x2))] [.int (Int32.ofInt y3), .int (Int32.ofInt y2), .int (Int32.ofInt y1), .ref 96] s (lf_qv Q) := by
  unfold fm_244_p144 at h
  refine lf_ior 145 rfl rfl ?_
  obtain ⟨o46, h⟩ := h
  refine lf_iast 146 1538 rfl rfl rfl rfl rfl rfl o46 ?_
  refine lf_as (lf_up s.1 96 y1 (lf_or y2 y3), s.2.1, s.2.2) rfl ?_
  refine lf_iinc 149 rfl rfl rfl rfl ?_
  refine lf_seg 1 (pc' := 110) (lv' := [(2, .int (Int32.ofInt (x2 + 1))), (0, .ref 95), (1, .int (Int32.ofInt x1))]) (st' := []) rfl ?_
  refine lf_sub (l := [(0, .ref 95), (1, .int (Int32.ofInt x1)), (2, .int (Int32.ofInt (x2 + 1)))]) (lf_sb1 rfl (lf_sb1 rfl (lf_sb1 rfl lf_sb0))) ?_
  exact hX110 _ _ h
def fm_244_p110 (Q : lf_Z → Prop) (x1 : Int) (X110 : Int → lf_Z → Prop) (x2 : Int) (s : lf_Z) : Prop := lf_R x2 ∧ (lf_R (s.1 96 1) ∧ ((s.1 96 1 ≤ x2 → ((0 ≤ x1 + 3 ∧ x1 + 3 < 1538) ∧ ((0 ≤ x1 + 4 ∧ x1 + 4 < 1538) ∧ (fm_244_p183L Q x1 0 (lf_up (lf_up s.1 96 (x1 + 3) (s.1 96 3)) 96 (x1 + 4) ((lf_up s.1 96 (x1 + 3) (s.1 96 3)) 96 6), s.2.1, s.2.2))))) ∧ (¬ (s.1 96 1 ≤ x2) → ((0 ≤ x1 + 2 ∧ x1 + 2 < 1538) ∧ (fm_245 x2 (fun z45 s44 => ((z45 = false → (fm_244_p144 X110 Q x1 x2 (x1 + 2) (s.1 96 (x1 + 2)) 0 s44)) ∧ (z45 = true → (fm_244_p144 X110 Q x1 x2 (x1 + 2) (s.1 96 (x1 + 2)) (lf_shl 1 x2) s44)))) s)))))
def fm_244_p110L (Q : lf_Z → Prop) (x1 : Int) (x2 : Int) (s : lf_Z) : Prop := ∀ X110 : Int → lf_Z → Prop, (∀ (x2 : Int) (s : lf_Z), fm_244_p110 Q x1 X110 x2 s → X110 x2 s) → X110 x2 s
set_option maxRecDepth 100000 in
theorem gm_244_p110 {L : Nat} {xs : Nat → Int32} {d : Nat} {Q : lf_Z → Prop} {x1 : Int} {x2 : Int} {s : lf_Z} {X110 : Int → lf_Z → Prop} (hX110 : ∀ x2 s, X110 x2 s → lf_E (px_ro L xs) (d + 2) 244 110 [(0, .ref 95), (1, .int (Int32.ofInt x1)), (2, .int (Int32.ofInt x2))] [] s (lf_qv Q)) (h : fm_244_p110 Q x1 X110 x2 s) : lf_E (px_ro L xs) (d + 2) 244 110 [(0, .ref 95), (1, .int (Int32.ofInt x1)), (2, .int (Int32.ofInt x2))] [] s (lf_qv Q) := by
  unfold fm_244_p110 at h
  refine lf_seg 4 (pc' := 116) (lv' := [(0, .ref 95), (1, .int (Int32.ofInt x1)), (2, .int (Int32.ofInt x2))]) (st' := [.int (Int32.ofInt 1), .ref 96, .int (Int32.ofInt x2)]) rfl ?_
  refine lf_iald 117 1538 rfl rfl rfl rfl rfl rfl ⟨by decide, by decide⟩ ?_
  obtain ⟨o25, h⟩ := h
  obtain ⟨o26, h⟩ := h
  refine lf_icmp_ge 152 120 rfl rfl rfl o25 o26 (fun c => ?_) (fun c => ?_)
  · have h := h.1 c
    refine lf_seg 4 (pc' := 158) (lv' := [(0, .ref 95), (1, .int (Int32.ofInt x1)), (2, .int (Int32.ofInt x2))]) (st' := [.int (Int32.ofInt 3), .int (Int32.ofInt x1), .ref 96]) rfl ?_
    refine lf_iadd 159 rfl rfl ?_
    refine lf_seg 3 (pc' := 164) (lv' := [(0, .ref 95), (1, .int (Int32.ofInt x1)), (2, .int (Int32.ofInt x2))]) (st' := [.int (Int32.ofInt 3), .ref 96, .int (Int32.ofInt (x1 + 3)), .ref 96]) rfl ?_
    refine lf_iald 165 1538 rfl rfl rfl rfl rfl rfl ⟨by decide, by decide⟩ ?_
    obtain ⟨o27, h⟩ := h
    refine lf_iast 166 1538 rfl rfl rfl rfl rfl rfl o27 ?_
    refine lf_as (lf_up s.1 96 (x1 + 3) (s.1 96 3), s.2.1, s.2.2) rfl ?_
    refine lf_seg 4 (pc' := 172) (lv' := [(0, .ref 95), (1, .int (Int32.ofInt x1)), (2, .int (Int32.ofInt x2))]) (st' := [.int (Int32.ofInt 4), .int (Int32.ofInt x1), .ref 96]) rfl ?_
    refine lf_iadd 173 rfl rfl ?_
    refine lf_seg 2 (pc' := 177) (lv' := [(0, .ref 95), (1, .int (Int32.ofInt x1)), (2, .int (Int32.ofInt x2))]) (st' := [.ref 96, .int (Int32.ofInt (x1 + 4)), .ref 96]) rfl ?_
    refine lf_bipush 179 6 rfl rfl (by decide) (by decide) ?_
    refine lf_iald 180 1538 rfl rfl rfl rfl rfl rfl ⟨by decide, by decide⟩ ?_
    obtain ⟨o28, h⟩ := h
    refine lf_iast 181 1538 rfl rfl rfl rfl rfl rfl o28 ?_
    refine lf_as (lf_up (lf_up s.1 96 (x1 + 3) (s.1 96 3)) 96 (x1 + 4) ((lf_up s.1 96 (x1 + 3) (s.1 96 3)) 96 6), s.2.1, s.2.2) rfl ?_
    refine lf_seg 2 (pc' := 183) (lv' := [(2, .int (Int32.ofInt 0)), (0, .ref 95), (1, .int (Int32.ofInt x1))]) (st' := []) rfl ?_
    refine lf_sub (l := [(0, .ref 95), (1, .int (Int32.ofInt x1)), (2, .int (Int32.ofInt 0))]) (lf_sb1 rfl (lf_sb1 rfl (lf_sb1 rfl lf_sb0))) ?_
    exact gm_244_p183L h
  · have h := h.2 c
    refine lf_seg 4 (pc' := 126) (lv' := [(0, .ref 95), (1, .int (Int32.ofInt x1)), (2, .int (Int32.ofInt x2))]) (st' := [.int (Int32.ofInt 2), .int (Int32.ofInt x1), .ref 96]) rfl ?_
    refine lf_iadd 127 rfl rfl ?_
    refine lf_seg 1 (pc' := 128) (lv' := [(0, .ref 95), (1, .int (Int32.ofInt x1)), (2, .int (Int32.ofInt x2))]) (st' := [.int (Int32.ofInt (x1 + 2)), .ref 96, .int (Int32.ofInt (x1 + 2)), .ref 96]) rfl ?_
    obtain ⟨o43, h⟩ := h
    refine lf_iald 129 1538 rfl rfl rfl rfl rfl rfl o43 ?_
    refine lf_seg 2 (pc' := 131) (lv' := [(0, .ref 95), (1, .int (Int32.ofInt x1)), (2, .int (Int32.ofInt x2))]) (st' := [.int (Int32.ofInt x2), .ref 95, .int (Int32.ofInt (s.1 96 (x1 + 2))), .int (Int32.ofInt (x1 + 2)), .ref 96]) rfl ?_
    refine lf_callZ 134 rfl rfl rfl rfl (gm_245 h) (fun z45 s44 h => ?_)
    refine lf_ifz_eq 143 137 rfl rfl rfl (fun c => ?_) (fun c => ?_)
    · have h := h.1 c
      refine lf_seg 1 (pc' := 144) (lv' := [(0, .ref 95), (1, .int (Int32.ofInt x1)), (2, .int (Int32.ofInt x2))]) (st' := [.int (Int32.ofInt 0), .int (Int32.ofInt (s.1 96 (x1 + 2))), .int (Int32.ofInt (x1 + 2)), .ref 96]) rfl ?_
      refine lf_sub (l := [(0, .ref 95), (1, .int (Int32.ofInt x1)), (2, .int (Int32.ofInt x2))]) (lf_sb1 rfl (lf_sb1 rfl (lf_sb1 rfl lf_sb0))) ?_
      exact gm_244_p144 hX110 h
    · have h := h.2 c
      refine lf_seg 2 (pc' := 139) (lv' := [(0, .ref 95), (1, .int (Int32.ofInt x1)), (2, .int (Int32.ofInt x2))]) (st' := [.int (Int32.ofInt x2), .int (Int32.ofInt 1), .int (Int32.ofInt (s.1 96 (x1 + 2))), .int (Int32.ofInt (x1 + 2)), .ref 96]) rfl ?_
      refine lf_ishl 140 rfl rfl ?_
      refine lf_seg 1 (pc' := 144) (lv' := [(0, .ref 95), (1, .int (Int32.ofInt x1)), (2, .int (Int32.ofInt x2))]) (st' := [.int (Int32.ofInt (lf_shl 1 x2)), .int (Int32.ofInt (s.1 96 (x1 + 2))), .int (Int32.ofInt (x1 + 2)), .ref 96]) rfl ?_
      refine lf_sub (l := [(0, .ref 95), (1, .int (Int32.ofInt x1)), (2, .int (Int32.ofInt x2))]) (lf_sb1 rfl (lf_sb1 rfl (lf_sb1 rfl lf_sb0))) ?_
      exact gm_244_p144 hX110 h
theorem gm_244_p110L {L : Nat} {xs : Nat → Int32} {d : Nat} {Q : lf_Z → Prop} {x1 : Int} {x2 : Int} {s : lf_Z} (h : fm_244_p110L Q x1 x2 s) : lf_E (px_ro L xs) (d + 2) 244 110 [(0, .ref 95), (1, .int (Int32.ofInt x1)), (2, .int (Int32.ofInt x2))] [] s (lf_qv Q) :=
  h (fun x2 s => lf_E (px_ro L xs) (d + 2) 244 110 [(0, .ref 95), (1, .int (Int32.ofInt x1)), (2, .int (Int32.ofInt x2))] [] s (lf_qv Q)) (fun x2 s hb => gm_244_p110 (fun _ _ h => h) hb)
def fm_244_p58 (Q : lf_Z → Prop) (s : lf_Z) : Prop := (0 ≤ 278 + (42 * (s.1 96 9)) ∧ 278 + (42 * (s.1 96 9)) < 1538) ∧ ((0 ≤ (278 + (42 * (s.1 96 9))) + 1 ∧ (278 + (42 * (s.1 96 9))) + 1 < 1538) ∧ ((0 ≤ (278 + (42 * (s.1 96 9))) + 2 ∧ (278 + (42 * (s.1 96 9))) + 2 < 1538) ∧ (fm_244_p110L Q (278 + (42 * (s.1 96 9))) 0 (lf_up (lf_up (lf_up s.1 96 (278 + (42 * (s.1 96 9))) (s.1 96 2)) 96 ((278 + (42 * (s.1 96 9))) + 1) ((lf_up s.1 96 (278 + (42 * (s.1 96 9))) (s.1 96 2)) 96 1)) 96 ((278 + (42 * (s.1 96 9))) + 2) 0, s.2.1, s.2.2))))
set_option maxRecDepth 100000 in
theorem gm_244_p58 {L : Nat} {xs : Nat → Int32} {d : Nat} {Q : lf_Z → Prop} {s : lf_Z} (h : fm_244_p58 Q s) : lf_E (px_ro L xs) (d + 2) 244 58 [(0, .ref 95)] [] s (lf_qv Q) := by
  unfold fm_244_p58 at h
  refine lf_sipush 61 278 rfl rfl (by decide) (by decide) ?_
  refine lf_bipush 63 42 rfl rfl (by decide) (by decide) ?_
  refine lf_seg 2 (pc' := 67) (lv' := [(0, .ref 95)]) (st' := [.ref 96, .int (Int32.ofInt 42), .int (Int32.ofInt 278)]) rfl ?_
  refine lf_bipush 69 9 rfl rfl (by decide) (by decide) ?_
  refine lf_iald 70 1538 rfl rfl rfl rfl rfl rfl ⟨by decide, by decide⟩ ?_
  refine lf_imul 71 rfl rfl ?_
  refine lf_iadd 72 rfl rfl ?_
  refine lf_seg 6 (pc' := 82) (lv' := [(1, .int (Int32.ofInt (278 + (42 * (s.1 96 9))))), (0, .ref 95)]) (st' := [.ref 96, .int (Int32.ofInt (278 + (42 * (s.1 96 9)))), .ref 96]) rfl ?_
  refine lf_seg 1 (pc' := 83) (lv' := [(1, .int (Int32.ofInt (278 + (42 * (s.1 96 9))))), (0, .ref 95)]) (st' := [.int (Int32.ofInt 2), .ref 96, .int (Int32.ofInt (278 + (42 * (s.1 96 9)))), .ref 96]) rfl ?_
  refine lf_iald 84 1538 rfl rfl rfl rfl rfl rfl ⟨by decide, by decide⟩ ?_
  obtain ⟨o22, h⟩ := h
  refine lf_iast 85 1538 rfl rfl rfl rfl rfl rfl o22 ?_
  refine lf_as (lf_up s.1 96 (278 + (42 * (s.1 96 9))) (s.1 96 2), s.2.1, s.2.2) rfl ?_
  refine lf_seg 4 (pc' := 91) (lv' := [(1, .int (Int32.ofInt (278 + (42 * (s.1 96 9))))), (0, .ref 95)]) (st' := [.int (Int32.ofInt 1), .int (Int32.ofInt (278 + (42 * (s.1 96 9)))), .ref 96]) rfl ?_
  refine lf_iadd 92 rfl rfl ?_
  refine lf_seg 3 (pc' := 97) (lv' := [(1, .int (Int32.ofInt (278 + (42 * (s.1 96 9))))), (0, .ref 95)]) (st' := [.int (Int32.ofInt 1), .ref 96, .int (Int32.ofInt ((278 + (42 * (s.1 96 9))) + 1)), .ref 96]) rfl ?_
  refine lf_iald 98 1538 rfl rfl rfl rfl rfl rfl ⟨by decide, by decide⟩ ?_
  obtain ⟨o23, h⟩ := h
  refine lf_iast 99 1538 rfl rfl rfl rfl rfl rfl o23 ?_
  refine lf_as (lf_up (lf_up s.1 96 (278 + (42 * (s.1 96 9))) (s.1 96 2)) 96 ((278 + (42 * (s.1 96 9))) + 1) ((lf_up s.1 96 (278 + (42 * (s.1 96 9))) (s.1 96 2)) 96 1), s.2.1, s.2.2) rfl ?_
  refine lf_seg 4 (pc' := 105) (lv' := [(1, .int (Int32.ofInt (278 + (42 * (s.1 96 9))))), (0, .ref 95)]) (st' := [.int (Int32.ofInt 2), .int (Int32.ofInt (278 + (42 * (s.1 96 9)))), .ref 96]) rfl ?_
  refine lf_iadd 106 rfl rfl ?_
  refine lf_seg 1 (pc' := 107) (lv' := [(1, .int (Int32.ofInt (278 + (42 * (s.1 96 9))))), (0, .ref 95)]) (st' := [.int (Int32.ofInt 0), .int (Int32.ofInt ((278 + (42 * (s.1 96 9))) + 2)), .ref 96]) rfl ?_
  obtain ⟨o24, h⟩ := h
  refine lf_iast 108 1538 rfl rfl rfl rfl rfl rfl o24 ?_
  refine lf_as (lf_up (lf_up (lf_up s.1 96 (278 + (42 * (s.1 96 9))) (s.1 96 2)) 96 ((278 + (42 * (s.1 96 9))) + 1) ((lf_up s.1 96 (278 + (42 * (s.1 96 9))) (s.1 96 2)) 96 1)) 96 ((278 + (42 * (s.1 96 9))) + 2) 0, s.2.1, s.2.2) rfl ?_
  refine lf_seg 2 (pc' := 110) (lv' := [(2, .int (Int32.ofInt 0)), (1, .int (Int32.ofInt (278 + (42 * (s.1 96 9))))), (0, .ref 95)]) (st' := []) rfl ?_
  refine lf_sub (l := [(0, .ref 95), (1, .int (Int32.ofInt (278 + (42 * (s.1 96 9))))), (2, .int (Int32.ofInt 0))]) (lf_sb1 rfl (lf_sb1 rfl (lf_sb1 rfl lf_sb0))) ?_
  exact gm_244_p110L h
def fm_244_p14 (Q : lf_Z → Prop) (X14 : Int → lf_Z → Prop) (x1 : Int) (s : lf_Z) : Prop := lf_R x1 ∧ ((1218 ≤ x1 → (fm_244_p58 Q (lf_up s.1 96 9 ((s.1 96 9) - 1), s.2.1, s.2.2))) ∧ (¬ (1218 ≤ x1) → ((0 ≤ 320 + x1 ∧ 320 + x1 < 1538) ∧ ((0 ≤ 278 + x1 ∧ 278 + x1 < 1538) ∧ (X14 (x1 + 1) (lf_up s.1 96 (278 + x1) (s.1 96 (320 + x1)), s.2.1, s.2.2))))))
def fm_244_p14L (Q : lf_Z → Prop) (x1 : Int) (s : lf_Z) : Prop := ∀ X14 : Int → lf_Z → Prop, (∀ (x1 : Int) (s : lf_Z), fm_244_p14 Q X14 x1 s → X14 x1 s) → X14 x1 s
set_option maxRecDepth 100000 in
theorem gm_244_p14 {L : Nat} {xs : Nat → Int32} {d : Nat} {Q : lf_Z → Prop} {x1 : Int} {s : lf_Z} {X14 : Int → lf_Z → Prop} (hX14 : ∀ x1 s, X14 x1 s → lf_E (px_ro L xs) (d + 2) 244 14 [(0, .ref 95), (1, .int (Int32.ofInt x1))] [] s (lf_qv Q)) (h : fm_244_p14 Q X14 x1 s) : lf_E (px_ro L xs) (d + 2) 244 14 [(0, .ref 95), (1, .int (Int32.ofInt x1))] [] s (lf_qv Q) := by
  unfold fm_244_p14 at h
  refine lf_seg 1 (pc' := 15) (lv' := [(0, .ref 95), (1, .int (Int32.ofInt x1))]) (st' := [.int (Int32.ofInt x1)]) rfl ?_
  refine lf_sipush 18 1218 rfl rfl (by decide) (by decide) ?_
  obtain ⟨o47, h⟩ := h
  refine lf_icmp_ge 47 21 rfl rfl rfl o47 ⟨by decide, by decide⟩ (fun c => ?_) (fun c => ?_)
  · have h := h.1 c
    refine lf_seg 2 (pc' := 51) (lv' := [(0, .ref 95), (1, .int (Int32.ofInt x1))]) (st' := [.ref 96]) rfl ?_
    refine lf_bipush 53 9 rfl rfl (by decide) (by decide) ?_
    refine lf_seg 1 (pc' := 54) (lv' := [(0, .ref 95), (1, .int (Int32.ofInt x1))]) (st' := [.int (Int32.ofInt 9), .ref 96, .int (Int32.ofInt 9), .ref 96]) rfl ?_
    refine lf_iald 55 1538 rfl rfl rfl rfl rfl rfl ⟨by decide, by decide⟩ ?_
    refine lf_seg 1 (pc' := 56) (lv' := [(0, .ref 95), (1, .int (Int32.ofInt x1))]) (st' := [.int (Int32.ofInt 1), .int (Int32.ofInt (s.1 96 9)), .int (Int32.ofInt 9), .ref 96]) rfl ?_
    refine lf_isub 57 rfl rfl ?_
    refine lf_iast 58 1538 rfl rfl rfl rfl rfl rfl ⟨by decide, by decide⟩ ?_
    refine lf_as (lf_up s.1 96 9 ((s.1 96 9) - 1), s.2.1, s.2.2) rfl ?_
    refine lf_sub (l := [(0, .ref 95)]) (lf_sb1 rfl lf_sb0) ?_
    exact gm_244_p58 h
  · have h := h.2 c
    refine lf_seg 2 (pc' := 25) (lv' := [(0, .ref 95), (1, .int (Int32.ofInt x1))]) (st' := [.ref 96]) rfl ?_
    refine lf_sipush 28 278 rfl rfl (by decide) (by decide) ?_
    refine lf_seg 1 (pc' := 29) (lv' := [(0, .ref 95), (1, .int (Int32.ofInt x1))]) (st' := [.int (Int32.ofInt x1), .int (Int32.ofInt 278), .ref 96]) rfl ?_
    refine lf_iadd 30 rfl rfl ?_
    refine lf_seg 2 (pc' := 34) (lv' := [(0, .ref 95), (1, .int (Int32.ofInt x1))]) (st' := [.ref 96, .int (Int32.ofInt (278 + x1)), .ref 96]) rfl ?_
    refine lf_sipush 37 320 rfl rfl (by decide) (by decide) ?_
    refine lf_seg 1 (pc' := 38) (lv' := [(0, .ref 95), (1, .int (Int32.ofInt x1))]) (st' := [.int (Int32.ofInt x1), .int (Int32.ofInt 320), .ref 96, .int (Int32.ofInt (278 + x1)), .ref 96]) rfl ?_
    refine lf_iadd 39 rfl rfl ?_
    obtain ⟨o48, h⟩ := h
    refine lf_iald 40 1538 rfl rfl rfl rfl rfl rfl o48 ?_
    obtain ⟨o49, h⟩ := h
    refine lf_iast 41 1538 rfl rfl rfl rfl rfl rfl o49 ?_
    refine lf_as (lf_up s.1 96 (278 + x1) (s.1 96 (320 + x1)), s.2.1, s.2.2) rfl ?_
    refine lf_iinc 44 rfl rfl rfl rfl ?_
    refine lf_seg 1 (pc' := 14) (lv' := [(1, .int (Int32.ofInt (x1 + 1))), (0, .ref 95)]) (st' := []) rfl ?_
    refine lf_sub (l := [(0, .ref 95), (1, .int (Int32.ofInt (x1 + 1)))]) (lf_sb1 rfl (lf_sb1 rfl lf_sb0)) ?_
    exact hX14 _ _ h
theorem gm_244_p14L {L : Nat} {xs : Nat → Int32} {d : Nat} {Q : lf_Z → Prop} {x1 : Int} {s : lf_Z} (h : fm_244_p14L Q x1 s) : lf_E (px_ro L xs) (d + 2) 244 14 [(0, .ref 95), (1, .int (Int32.ofInt x1))] [] s (lf_qv Q) :=
  h (fun x1 s => lf_E (px_ro L xs) (d + 2) 244 14 [(0, .ref 95), (1, .int (Int32.ofInt x1))] [] s (lf_qv Q)) (fun x1 s hb => gm_244_p14 (fun _ _ h => h) hb)
def fm_244 (Q : lf_Z → Prop) (s : lf_Z) : Prop := lf_R (s.1 96 9) ∧ ((s.1 96 9 ≠ 30 → (fm_244_p58 Q s)) ∧ (¬ (s.1 96 9 ≠ 30) → (fm_244_p14L Q 0 s)))
set_option maxRecDepth 100000 in
theorem gm_244 {L : Nat} {xs : Nat → Int32} {d : Nat} {Q : lf_Z → Prop} {s : lf_Z} (h : fm_244 Q s) : lf_M (px_ro L xs) (d + 2) 244 [.ref 95] s (lf_qv Q) := by
  unfold fm_244 at h
  show lf_E (px_ro L xs) (d + 2) 244 0 [(0, .ref 95)] [] s _
  refine lf_seg 2 (pc' := 4) (lv' := [(0, .ref 95)]) (st' := [.ref 96]) rfl ?_
  refine lf_bipush 6 9 rfl rfl (by decide) (by decide) ?_
  refine lf_iald 7 1538 rfl rfl rfl rfl rfl rfl ⟨by decide, by decide⟩ ?_
  refine lf_bipush 9 30 rfl rfl (by decide) (by decide) ?_
  obtain ⟨o21, h⟩ := h
  refine lf_icmp_ne 58 12 rfl rfl rfl o21 ⟨by decide, by decide⟩ (fun c => ?_) (fun c => ?_)
  · have h := h.1 c
    refine lf_sub (l := [(0, .ref 95)]) (lf_sb1 rfl lf_sb0) ?_
    exact gm_244_p58 h
  · have h := h.2 c
    refine lf_seg 2 (pc' := 14) (lv' := [(1, .int (Int32.ofInt 0)), (0, .ref 95)]) (st' := []) rfl ?_
    refine lf_sub (l := [(0, .ref 95), (1, .int (Int32.ofInt 0))]) (lf_sb1 rfl (lf_sb1 rfl lf_sb0)) ?_
    exact gm_244_p14L h
-- fm_247 Model.layBunch 95 i i i i
def fm_247 (a1 : Int) (a2 : Int) (a3 : Int) (a4 : Int) (Q : lf_Z → Prop) (s : lf_Z) : Prop := (0 ≤ 114 + (3 * a1) ∧ 114 + (3 * a1) < 1538) ∧ ((0 ≤ (114 + (3 * a1)) + 1 ∧ (114 + (3 * a1)) + 1 < 1538) ∧ ((0 ≤ (114 + (3 * a1)) + 2 ∧ (114 + (3 * a1)) + 2 < 1538) ∧ (Q (lf_up (lf_up (lf_up s.1 96 (114 + (3 * a1)) a2) 96 ((114 + (3 * a1)) + 1) a3) 96 ((114 + (3 * a1)) + 2) a4, s.2.1, s.2.2))))
set_option maxRecDepth 100000 in
theorem gm_247 {L : Nat} {xs : Nat → Int32} {d : Nat} {a1 : Int} {a2 : Int} {a3 : Int} {a4 : Int} {Q : lf_Z → Prop} {s : lf_Z} (h : fm_247 a1 a2 a3 a4 Q s) : lf_M (px_ro L xs) (d + 1) 247 [.ref 95, .int (Int32.ofInt a1), .int (Int32.ofInt a2), .int (Int32.ofInt a3), .int (Int32.ofInt a4)] s (lf_qv Q) := by
  unfold fm_247 at h
  show lf_E (px_ro L xs) (d + 1) 247 0 [(0, .ref 95), (1, .int (Int32.ofInt a1)), (2, .int (Int32.ofInt a2)), (3, .int (Int32.ofInt a3)), (4, .int (Int32.ofInt a4))] [] s _
  refine lf_seg 2 (pc' := 4) (lv' := [(0, .ref 95), (1, .int (Int32.ofInt a1)), (2, .int (Int32.ofInt a2)), (3, .int (Int32.ofInt a3)), (4, .int (Int32.ofInt a4))]) (st' := [.ref 96]) rfl ?_
  refine lf_bipush 6 114 rfl rfl (by decide) (by decide) ?_
  refine lf_seg 2 (pc' := 8) (lv' := [(0, .ref 95), (1, .int (Int32.ofInt a1)), (2, .int (Int32.ofInt a2)), (3, .int (Int32.ofInt a3)), (4, .int (Int32.ofInt a4))]) (st' := [.int (Int32.ofInt a1), .int (Int32.ofInt 3), .int (Int32.ofInt 114), .ref 96]) rfl ?_
  refine lf_imul 9 rfl rfl ?_
  refine lf_iadd 10 rfl rfl ?_
  refine lf_seg 1 (pc' := 11) (lv' := [(0, .ref 95), (1, .int (Int32.ofInt a1)), (2, .int (Int32.ofInt a2)), (3, .int (Int32.ofInt a3)), (4, .int (Int32.ofInt a4))]) (st' := [.int (Int32.ofInt a2), .int (Int32.ofInt (114 + (3 * a1))), .ref 96]) rfl ?_
  obtain ⟨o21, h⟩ := h
  refine lf_iast 12 1538 rfl rfl rfl rfl rfl rfl o21 ?_
  refine lf_as (lf_up s.1 96 (114 + (3 * a1)) a2, s.2.1, s.2.2) rfl ?_
  refine lf_seg 2 (pc' := 16) (lv' := [(0, .ref 95), (1, .int (Int32.ofInt a1)), (2, .int (Int32.ofInt a2)), (3, .int (Int32.ofInt a3)), (4, .int (Int32.ofInt a4))]) (st' := [.ref 96]) rfl ?_
  refine lf_bipush 18 114 rfl rfl (by decide) (by decide) ?_
  refine lf_seg 2 (pc' := 20) (lv' := [(0, .ref 95), (1, .int (Int32.ofInt a1)), (2, .int (Int32.ofInt a2)), (3, .int (Int32.ofInt a3)), (4, .int (Int32.ofInt a4))]) (st' := [.int (Int32.ofInt a1), .int (Int32.ofInt 3), .int (Int32.ofInt 114), .ref 96]) rfl ?_
  refine lf_imul 21 rfl rfl ?_
  refine lf_iadd 22 rfl rfl ?_
  refine lf_seg 1 (pc' := 23) (lv' := [(0, .ref 95), (1, .int (Int32.ofInt a1)), (2, .int (Int32.ofInt a2)), (3, .int (Int32.ofInt a3)), (4, .int (Int32.ofInt a4))]) (st' := [.int (Int32.ofInt 1), .int (Int32.ofInt (114 + (3 * a1))), .ref 96]) rfl ?_
  refine lf_iadd 24 rfl rfl ?_
  refine lf_seg 1 (pc' := 25) (lv' := [(0, .ref 95), (1, .int (Int32.ofInt a1)), (2, .int (Int32.ofInt a2)), (3, .int (Int32.ofInt a3)), (4, .int (Int32.ofInt a4))]) (st' := [.int (Int32.ofInt a3), .int (Int32.ofInt ((114 + (3 * a1)) + 1)), .ref 96]) rfl ?_
  obtain ⟨o22, h⟩ := h
  refine lf_iast 26 1538 rfl rfl rfl rfl rfl rfl o22 ?_
  refine lf_as (lf_up (lf_up s.1 96 (114 + (3 * a1)) a2) 96 ((114 + (3 * a1)) + 1) a3, s.2.1, s.2.2) rfl ?_
  refine lf_seg 2 (pc' := 30) (lv' := [(0, .ref 95), (1, .int (Int32.ofInt a1)), (2, .int (Int32.ofInt a2)), (3, .int (Int32.ofInt a3)), (4, .int (Int32.ofInt a4))]) (st' := [.ref 96]) rfl ?_
  refine lf_bipush 32 114 rfl rfl (by decide) (by decide) ?_
  refine lf_seg 2 (pc' := 34) (lv' := [(0, .ref 95), (1, .int (Int32.ofInt a1)), (2, .int (Int32.ofInt a2)), (3, .int (Int32.ofInt a3)), (4, .int (Int32.ofInt a4))]) (st' := [.int (Int32.ofInt a1), .int (Int32.ofInt 3), .int (Int32.ofInt 114), .ref 96]) rfl ?_
  refine lf_imul 35 rfl rfl ?_
  refine lf_iadd 36 rfl rfl ?_
  refine lf_seg 1 (pc' := 37) (lv' := [(0, .ref 95), (1, .int (Int32.ofInt a1)), (2, .int (Int32.ofInt a2)), (3, .int (Int32.ofInt a3)), (4, .int (Int32.ofInt a4))]) (st' := [.int (Int32.ofInt 2), .int (Int32.ofInt (114 + (3 * a1))), .ref 96]) rfl ?_
  refine lf_iadd 38 rfl rfl ?_
  refine lf_seg 1 (pc' := 40) (lv' := [(0, .ref 95), (1, .int (Int32.ofInt a1)), (2, .int (Int32.ofInt a2)), (3, .int (Int32.ofInt a3)), (4, .int (Int32.ofInt a4))]) (st' := [.int (Int32.ofInt a4), .int (Int32.ofInt ((114 + (3 * a1)) + 2)), .ref 96]) rfl ?_
  obtain ⟨o23, h⟩ := h
  refine lf_iast 41 1538 rfl rfl rfl rfl rfl rfl o23 ?_
  refine lf_as (lf_up (lf_up (lf_up s.1 96 (114 + (3 * a1)) a2) 96 ((114 + (3 * a1)) + 1) a3) 96 ((114 + (3 * a1)) + 2) a4, s.2.1, s.2.2) rfl ?_
  exact lf_retV rfl rfl h
-- fm_240 Model.stray 95 i i
def fm_240 (a1 : Int) (a2 : Int) (Q : Int → lf_Z → Prop) (s : lf_Z) : Prop := fm_241 (fun r22 s21 => (fm_183 a1 1 24 (fun z24 s23 => ((z24 = false → (Q (-1) s23)) ∧ (z24 = true → (fm_185 a2 (fun z26 s25 => ((z26 = false → (Q (-1) s25)) ∧ (z26 = true → (fm_243 (fun r28 s27 => (lf_R (r28 + a1) ∧ ((24 < r28 + a1 → (Q (-1) s27)) ∧ (¬ (24 < r28 + a1) → (lf_R r22 ∧ ((0 ≤ r22 → (fm_244 (fun s31 => (fm_247 r22 a1 a2 (-1) (fun s32 => (Q r22 s32)) s31)) s27)) ∧ (¬ (0 ≤ r22) → (Q (-1) s27)))))))) s25)))) s23)))) s21)) s
set_option maxRecDepth 100000 in
theorem gm_240 {L : Nat} {xs : Nat → Int32} {d : Nat} {a1 : Int} {a2 : Int} {Q : Int → lf_Z → Prop} {s : lf_Z} (h : fm_240 a1 a2 Q s) : lf_M (px_ro L xs) (d + 3) 240 [.ref 95, .int (Int32.ofInt a1), .int (Int32.ofInt a2)] s (lf_qi Q) := by
  unfold fm_240 at h
  show lf_E (px_ro L xs) (d + 3) 240 0 [(0, .ref 95), (1, .int (Int32.ofInt a1)), (2, .int (Int32.ofInt a2))] [] s _
  refine lf_seg 1 (pc' := 1) (lv' := [(0, .ref 95), (1, .int (Int32.ofInt a1)), (2, .int (Int32.ofInt a2))]) (st' := [.ref 95]) rfl ?_
  refine lf_callI 4 rfl rfl rfl rfl (gm_241 h) (fun r22 s21 h => ?_)
  refine lf_seg 3 (pc' := 7) (lv' := [(3, .int (Int32.ofInt r22)), (0, .ref 95), (1, .int (Int32.ofInt a1)), (2, .int (Int32.ofInt a2))]) (st' := [.int (Int32.ofInt 1), .int (Int32.ofInt a1)]) rfl ?_
  refine lf_bipush 9 24 rfl rfl (by decide) (by decide) ?_
  refine lf_callZ 12 rfl rfl rfl rfl (gm_183 h) (fun z24 s23 h => ?_)
  refine lf_ifz_eq 38 15 rfl rfl rfl (fun c => ?_) (fun c => ?_)
  · have h := h.1 c
    refine lf_seg 1 (pc' := 39) (lv' := [(3, .int (Int32.ofInt r22)), (0, .ref 95), (1, .int (Int32.ofInt a1)), (2, .int (Int32.ofInt a2))]) (st' := [.int (Int32.ofInt (-1))]) rfl ?_
    exact lf_retI rfl rfl h
  · have h := h.2 c
    refine lf_seg 2 (pc' := 17) (lv' := [(3, .int (Int32.ofInt r22)), (0, .ref 95), (1, .int (Int32.ofInt a1)), (2, .int (Int32.ofInt a2))]) (st' := [.int (Int32.ofInt a2), .ref 95]) rfl ?_
    refine lf_callZ 20 rfl rfl rfl rfl (gm_185 h) (fun z26 s25 h => ?_)
    refine lf_ifz_eq 38 23 rfl rfl rfl (fun c => ?_) (fun c => ?_)
    · have h := h.1 c
      refine lf_seg 1 (pc' := 39) (lv' := [(3, .int (Int32.ofInt r22)), (0, .ref 95), (1, .int (Int32.ofInt a1)), (2, .int (Int32.ofInt a2))]) (st' := [.int (Int32.ofInt (-1))]) rfl ?_
      exact lf_retI rfl rfl h
    · have h := h.2 c
      refine lf_seg 1 (pc' := 24) (lv' := [(3, .int (Int32.ofInt r22)), (0, .ref 95), (1, .int (Int32.ofInt a1)), (2, .int (Int32.ofInt a2))]) (st' := [.ref 95]) rfl ?_
      refine lf_callI 27 rfl rfl rfl rfl (gm_243 h) (fun r28 s27 h => ?_)
      refine lf_seg 1 (pc' := 28) (lv' := [(3, .int (Int32.ofInt r22)), (0, .ref 95), (1, .int (Int32.ofInt a1)), (2, .int (Int32.ofInt a2))]) (st' := [.int (Int32.ofInt a1), .int (Int32.ofInt r28)]) rfl ?_
      refine lf_iadd 29 rfl rfl ?_
      refine lf_bipush 31 24 rfl rfl (by decide) (by decide) ?_
      obtain ⟨o29, h⟩ := h
      refine lf_icmp_gt 38 34 rfl rfl rfl o29 ⟨by decide, by decide⟩ (fun c => ?_) (fun c => ?_)
      · have h := h.1 c
        refine lf_seg 1 (pc' := 39) (lv' := [(3, .int (Int32.ofInt r22)), (0, .ref 95), (1, .int (Int32.ofInt a1)), (2, .int (Int32.ofInt a2))]) (st' := [.int (Int32.ofInt (-1))]) rfl ?_
        exact lf_retI rfl rfl h
      · have h := h.2 c
        refine lf_seg 1 (pc' := 35) (lv' := [(3, .int (Int32.ofInt r22)), (0, .ref 95), (1, .int (Int32.ofInt a1)), (2, .int (Int32.ofInt a2))]) (st' := [.int (Int32.ofInt r22)]) rfl ?_
        obtain ⟨o30, h⟩ := h
        refine lf_if_ge 40 38 rfl rfl rfl o30 (fun c => ?_) (fun c => ?_)
        · have h := h.1 c
          refine lf_seg 1 (pc' := 41) (lv' := [(3, .int (Int32.ofInt r22)), (0, .ref 95), (1, .int (Int32.ofInt a1)), (2, .int (Int32.ofInt a2))]) (st' := [.ref 95]) rfl ?_
          refine lf_callV 44 rfl rfl rfl rfl (gm_244 h) (fun s31 h => ?_)
          refine lf_seg 5 (pc' := 49) (lv' := [(3, .int (Int32.ofInt r22)), (0, .ref 95), (1, .int (Int32.ofInt a1)), (2, .int (Int32.ofInt a2))]) (st' := [.int (Int32.ofInt (-1)), .int (Int32.ofInt a2), .int (Int32.ofInt a1), .int (Int32.ofInt r22), .ref 95]) rfl ?_
          refine lf_callV 52 rfl rfl rfl rfl (gm_247 h) (fun s32 h => ?_)
          refine lf_seg 1 (pc' := 53) (lv' := [(3, .int (Int32.ofInt r22)), (0, .ref 95), (1, .int (Int32.ofInt a1)), (2, .int (Int32.ofInt a2))]) (st' := [.int (Int32.ofInt r22)]) rfl ?_
          exact lf_retI rfl rfl h
        · have h := h.2 c
          refine lf_seg 1 (pc' := 39) (lv' := [(3, .int (Int32.ofInt r22)), (0, .ref 95), (1, .int (Int32.ofInt a1)), (2, .int (Int32.ofInt a2))]) (st' := [.int (Int32.ofInt (-1))]) rfl ?_
          exact lf_retI rfl rfl h
