-- fm_175b Steps.likeOther 22 86
theorem sm_175b {Q : lf_Z → Prop} {s : lf_Z} (hI : iv_A s.1 s.2.2) (hQ : ∀  (s' : lf_Z), iv_A s'.1 s'.2.2 → lf_fq [22, 23, 24] 1000000 true s.1 s.2.2 s'.1 s'.2.2 → Q  s') : fm_175b Q s := by
  unfold fm_175b
  have hI1 : iv_A (lf_cp s.1 87 23 0 0 1170) s.2.2 := iv_cp87_23 hI
  have fr2 : lf_fq [22, 23, 24] 1000000 true s.1 s.2.2 (lf_cp s.1 87 23 0 0 1170) s.2.2 := lf_fq_cp (lf_fq_rf) rfl (by decide)
  have hI3 : iv_A (lf_cp (lf_cp s.1 87 23 0 0 1170) 88 24 0 0 30) s.2.2 := iv_cp88_24 hI1
  have fr4 : lf_fq [22, 23, 24] 1000000 true s.1 s.2.2 (lf_cp (lf_cp s.1 87 23 0 0 1170) 88 24 0 0 30) s.2.2 := lf_fq_cp fr2 rfl (by decide)
  have b5 : 0 ≤ (lf_cp (lf_cp s.1 87 23 0 0 1170) 88 24 0 0 30) 86 2 ∧ (lf_cp (lf_cp s.1 87 23 0 0 1170) 88 24 0 0 30) 86 2 ≤ 29 := iv_r86_2 hI3
  have b6 : (lf_cp (lf_cp s.1 87 23 0 0 1170) 88 24 0 0 30) 86 2 = (lf_cp s.1 87 23 0 0 1170) 86 2 := lf_cp_c (by omega)
  have b7 : (lf_cp s.1 87 23 0 0 1170) 86 2 = s.1 86 2 := lf_cp_c (by omega)
  have hI8 : iv_A (lf_up (lf_cp (lf_cp s.1 87 23 0 0 1170) 88 24 0 0 30) 22 2 ((lf_cp (lf_cp s.1 87 23 0 0 1170) 88 24 0 0 30) 86 2)) s.2.2 := iv_w22_2 hI3 (by omega)
  have fr9 : lf_fq [22, 23, 24] 1000000 true s.1 s.2.2 (lf_up (lf_cp (lf_cp s.1 87 23 0 0 1170) 88 24 0 0 30) 22 2 ((lf_cp (lf_cp s.1 87 23 0 0 1170) 88 24 0 0 30) 86 2)) s.2.2 := lf_fq_up fr4 rfl (fun h => absurd h (by decide))
  have b10 : 0 ≤ (lf_cp (lf_cp s.1 87 23 0 0 1170) 88 24 0 0 30) 86 3 ∧ (lf_cp (lf_cp s.1 87 23 0 0 1170) 88 24 0 0 30) 86 3 ≤ 30 := (show 0 ≤ (lf_up (lf_cp (lf_cp s.1 87 23 0 0 1170) 88 24 0 0 30) 22 2 ((lf_cp (lf_cp s.1 87 23 0 0 1170) 88 24 0 0 30) 86 2)) 86 3 ∧ (lf_up (lf_cp (lf_cp s.1 87 23 0 0 1170) 88 24 0 0 30) 22 2 ((lf_cp (lf_cp s.1 87 23 0 0 1170) 88 24 0 0 30) 86 2)) 86 3 ≤ 30 from iv_r86_3 hI8)
  have b11 : (lf_cp (lf_cp s.1 87 23 0 0 1170) 88 24 0 0 30) 86 3 = (lf_cp s.1 87 23 0 0 1170) 86 3 := lf_cp_c (by omega)
  have b12 : (lf_cp s.1 87 23 0 0 1170) 86 3 = s.1 86 3 := lf_cp_c (by omega)
  have hI13 : iv_A (lf_up (lf_up (lf_cp (lf_cp s.1 87 23 0 0 1170) 88 24 0 0 30) 22 2 ((lf_cp (lf_cp s.1 87 23 0 0 1170) 88 24 0 0 30) 86 2)) 22 3 ((lf_cp (lf_cp s.1 87 23 0 0 1170) 88 24 0 0 30) 86 3)) s.2.2 := iv_w22_3 hI8 (by omega)
  have fr14 : lf_fq [22, 23, 24] 1000000 true s.1 s.2.2 (lf_up (lf_up (lf_cp (lf_cp s.1 87 23 0 0 1170) 88 24 0 0 30) 22 2 ((lf_cp (lf_cp s.1 87 23 0 0 1170) 88 24 0 0 30) 86 2)) 22 3 ((lf_cp (lf_cp s.1 87 23 0 0 1170) 88 24 0 0 30) 86 3)) s.2.2 := lf_fq_up fr9 rfl (fun h => absurd h (by decide))
  exact hQ (lf_up (lf_up (lf_cp (lf_cp s.1 87 23 0 0 1170) 88 24 0 0 30) 22 2 ((lf_cp (lf_cp s.1 87 23 0 0 1170) 88 24 0 0 30) 86 2)) 22 3 ((lf_cp (lf_cp s.1 87 23 0 0 1170) 88 24 0 0 30) 86 3), s.2.1, s.2.2) hI13 fr14
-- fm_176b Notes.likeOther 25 89
theorem sm_176b {Q : lf_Z → Prop} {s : lf_Z} (hI : iv_A s.1 s.2.2) (hQ : ∀  (s' : lf_Z), iv_A s'.1 s'.2.2 → lf_fq [25, 26, 27, 28, 29, 30] 1000000 true s.1 s.2.2 s'.1 s'.2.2 → Q  s') : fm_176b Q s := by
  unfold fm_176b
  have hI1 : iv_A (lf_cp s.1 90 26 0 0 6) s.2.2 := iv_cp90_26 hI
  have fr2 : lf_fq [25, 26, 27, 28, 29, 30] 1000000 true s.1 s.2.2 (lf_cp s.1 90 26 0 0 6) s.2.2 := lf_fq_cp (lf_fq_rf) rfl (by decide)
  have hI3 : iv_A (lf_cp (lf_cp s.1 90 26 0 0 6) 91 27 0 0 6) s.2.2 := iv_cp91_27 hI1
  have fr4 : lf_fq [25, 26, 27, 28, 29, 30] 1000000 true s.1 s.2.2 (lf_cp (lf_cp s.1 90 26 0 0 6) 91 27 0 0 6) s.2.2 := lf_fq_cp fr2 rfl (by decide)
  have hI5 : iv_A (lf_cp (lf_cp (lf_cp s.1 90 26 0 0 6) 91 27 0 0 6) 92 28 0 0 16) s.2.2 := iv_cp92_28 hI3
  have fr6 : lf_fq [25, 26, 27, 28, 29, 30] 1000000 true s.1 s.2.2 (lf_cp (lf_cp (lf_cp s.1 90 26 0 0 6) 91 27 0 0 6) 92 28 0 0 16) s.2.2 := lf_fq_cp fr4 rfl (by decide)
  have hI7 : iv_A (lf_cp (lf_cp (lf_cp (lf_cp s.1 90 26 0 0 6) 91 27 0 0 6) 92 28 0 0 16) 93 29 0 0 4) s.2.2 := iv_cp93_29 hI5
  have fr8 : lf_fq [25, 26, 27, 28, 29, 30] 1000000 true s.1 s.2.2 (lf_cp (lf_cp (lf_cp (lf_cp s.1 90 26 0 0 6) 91 27 0 0 6) 92 28 0 0 16) 93 29 0 0 4) s.2.2 := lf_fq_cp fr6 rfl (by decide)
  have hI9 : iv_A (lf_cp (lf_cp (lf_cp (lf_cp (lf_cp s.1 90 26 0 0 6) 91 27 0 0 6) 92 28 0 0 16) 93 29 0 0 4) 94 30 0 0 4) s.2.2 := iv_cp94_30 hI7
  have fr10 : lf_fq [25, 26, 27, 28, 29, 30] 1000000 true s.1 s.2.2 (lf_cp (lf_cp (lf_cp (lf_cp (lf_cp s.1 90 26 0 0 6) 91 27 0 0 6) 92 28 0 0 16) 93 29 0 0 4) 94 30 0 0 4) s.2.2 := lf_fq_cp fr8 rfl (by decide)
  have b11 : 0 ≤ (lf_cp (lf_cp (lf_cp (lf_cp (lf_cp s.1 90 26 0 0 6) 91 27 0 0 6) 92 28 0 0 16) 93 29 0 0 4) 94 30 0 0 4) 89 2 ∧ (lf_cp (lf_cp (lf_cp (lf_cp (lf_cp s.1 90 26 0 0 6) 91 27 0 0 6) 92 28 0 0 16) 93 29 0 0 4) 94 30 0 0 4) 89 2 ≤ 6 := iv_r89_2 hI9
  have b12 : (lf_cp (lf_cp (lf_cp (lf_cp (lf_cp s.1 90 26 0 0 6) 91 27 0 0 6) 92 28 0 0 16) 93 29 0 0 4) 94 30 0 0 4) 89 2 = (lf_cp (lf_cp (lf_cp (lf_cp s.1 90 26 0 0 6) 91 27 0 0 6) 92 28 0 0 16) 93 29 0 0 4) 89 2 := lf_cp_c (by omega)
  have b13 : (lf_cp (lf_cp (lf_cp (lf_cp s.1 90 26 0 0 6) 91 27 0 0 6) 92 28 0 0 16) 93 29 0 0 4) 89 2 = (lf_cp (lf_cp (lf_cp s.1 90 26 0 0 6) 91 27 0 0 6) 92 28 0 0 16) 89 2 := lf_cp_c (by omega)
  have b14 : (lf_cp (lf_cp (lf_cp s.1 90 26 0 0 6) 91 27 0 0 6) 92 28 0 0 16) 89 2 = (lf_cp (lf_cp s.1 90 26 0 0 6) 91 27 0 0 6) 89 2 := lf_cp_c (by omega)
  have b15 : (lf_cp (lf_cp s.1 90 26 0 0 6) 91 27 0 0 6) 89 2 = (lf_cp s.1 90 26 0 0 6) 89 2 := lf_cp_c (by omega)
  have b16 : (lf_cp s.1 90 26 0 0 6) 89 2 = s.1 89 2 := lf_cp_c (by omega)
  have hI17 : iv_A (lf_up (lf_cp (lf_cp (lf_cp (lf_cp (lf_cp s.1 90 26 0 0 6) 91 27 0 0 6) 92 28 0 0 16) 93 29 0 0 4) 94 30 0 0 4) 25 2 ((lf_cp (lf_cp (lf_cp (lf_cp (lf_cp s.1 90 26 0 0 6) 91 27 0 0 6) 92 28 0 0 16) 93 29 0 0 4) 94 30 0 0 4) 89 2)) s.2.2 := iv_w25_2 hI9 (by omega)
  have fr18 : lf_fq [25, 26, 27, 28, 29, 30] 1000000 true s.1 s.2.2 (lf_up (lf_cp (lf_cp (lf_cp (lf_cp (lf_cp s.1 90 26 0 0 6) 91 27 0 0 6) 92 28 0 0 16) 93 29 0 0 4) 94 30 0 0 4) 25 2 ((lf_cp (lf_cp (lf_cp (lf_cp (lf_cp s.1 90 26 0 0 6) 91 27 0 0 6) 92 28 0 0 16) 93 29 0 0 4) 94 30 0 0 4) 89 2)) s.2.2 := lf_fq_up fr10 rfl (fun h => absurd h (by decide))
  exact hQ (lf_up (lf_cp (lf_cp (lf_cp (lf_cp (lf_cp s.1 90 26 0 0 6) 91 27 0 0 6) 92 28 0 0 16) 93 29 0 0 4) 94 30 0 0 4) 25 2 ((lf_cp (lf_cp (lf_cp (lf_cp (lf_cp s.1 90 26 0 0 6) 91 27 0 0 6) 92 28 0 0 16) 93 29 0 0 4) 94 30 0 0 4) 89 2), s.2.1, s.2.2) hI17 fr18
-- fm_177 ElevenBullocks.back 0
theorem sm_177 {Q : Int → lf_Z → Prop} {s : lf_Z} (hI : iv_A s.1 s.2.2) (hQ : ∀ (r : Int) (s' : lf_Z), iv_A s'.1 s'.2.2 → lf_fq [0, 1, 11, 12, 13, 15, 16, 17, 18, 19, 20, 21, 22, 23, 24, 25, 26, 27, 28, 29, 30] 1000000 false s.1 s.2.2 s'.1 s'.2.2 → ((-2147483648) ≤ r ∧ r ≤ 2147483647) → Q r s') : fm_177 Q s := by
  unfold fm_177
  have b1 : 0 ≤ s.1 78 0 ∧ s.1 78 0 ≤ 12 := iv_r78_0 hI
  have b2 : 0 ≤ s.1 78 1 ∧ s.1 78 1 ≤ 16 := iv_r78_1 hI
  have b3 : 0 ≤ s.1 78 2 ∧ s.1 78 2 ≤ 6 := iv_r78_2 hI
  refine sm_178 hI (show (0 : Int) ≤ s.1 78 0 ∧ s.1 78 0 ≤ (12 : Int) from by omega) (show (0 : Int) ≤ s.1 78 1 ∧ s.1 78 1 ≤ (16 : Int) from by omega) (show (0 : Int) ≤ s.1 78 2 ∧ s.1 78 2 ≤ (6 : Int) from by omega) (fun s21 hI5 fr4 => ?_)
  have fr7 : lf_fq [0, 1, 11, 12, 13, 15, 16, 17, 18, 19, 20, 21, 22, 23, 24, 25, 26, 27, 28, 29, 30] 1000000 false s.1 s.2.2 s21.1 s21.2.2 := lf_fq_tr (lf_fq_rf) (lf_fq_wk fr4 rfl (by decide) (by decide))
  have b8 : 0 ≤ s21.1 78 3 ∧ s21.1 78 3 ≤ 4 := iv_r78_3 hI5
  have b9 : s21.1 78 3 = s.1 78 3 := congrFun (fr4.1 78 rfl) _
  have hI10 : iv_A (lf_up s21.1 0 11 (s21.1 78 3)) s21.2.2 := iv_w0_11 hI5 (by omega)
  have fr11 : lf_fq [0, 1, 11, 12, 13, 15, 16, 17, 18, 19, 20, 21, 22, 23, 24, 25, 26, 27, 28, 29, 30] 1000000 false s.1 s.2.2 (lf_up s21.1 0 11 (s21.1 78 3)) s21.2.2 := lf_fq_up fr7 rfl (fun h => absurd h (by decide))
  have b12 : (-1) ≤ s21.1 78 4 ∧ s21.1 78 4 ≤ 3 := (show (-1) ≤ (lf_up s21.1 0 11 (s21.1 78 3)) 78 4 ∧ (lf_up s21.1 0 11 (s21.1 78 3)) 78 4 ≤ 3 from iv_r78_4 hI10)
  have b13 : s21.1 78 4 = s.1 78 4 := congrFun (fr4.1 78 rfl) _
  refine sm_61 hI10 (show (-1 : Int) ≤ s21.1 78 4 ∧ s21.1 78 4 ≤ (3 : Int) from by omega) (fun s22 hI15 fr14 => ?_)
  have fr17 : lf_fq [0, 1, 11, 12, 13, 15, 16, 17, 18, 19, 20, 21, 22, 23, 24, 25, 26, 27, 28, 29, 30] 1000000 false s.1 s.2.2 s22.1 s22.2.2 := lf_fq_tr fr11 (lf_fq_wk fr14 rfl (by decide) (by decide))
  refine sm_174b hI15 (fun s23 hI19 fr18 => ?_)
  have fr21 : lf_fq [0, 1, 11, 12, 13, 15, 16, 17, 18, 19, 20, 21, 22, 23, 24, 25, 26, 27, 28, 29, 30] 1000000 false s.1 s.2.2 s23.1 s23.2.2 := lf_fq_tr fr17 (lf_fq_wk fr18 rfl (by decide) (by decide))
  refine sm_175b hI19 (fun s24 hI23 fr22 => ?_)
  have fr25 : lf_fq [0, 1, 11, 12, 13, 15, 16, 17, 18, 19, 20, 21, 22, 23, 24, 25, 26, 27, 28, 29, 30] 1000000 false s.1 s.2.2 s24.1 s24.2.2 := lf_fq_tr fr21 (lf_fq_wk fr22 rfl (by decide) (by decide))
  refine sm_176b hI23 (fun s25 hI27 fr26 => ?_)
  have fr29 : lf_fq [0, 1, 11, 12, 13, 15, 16, 17, 18, 19, 20, 21, 22, 23, 24, 25, 26, 27, 28, 29, 30] 1000000 false s.1 s.2.2 s25.1 s25.2.2 := lf_fq_tr fr25 (lf_fq_wk fr26 rfl (by decide) (by decide))
  have b30 : (-2147483648) ≤ s25.1 15 7 ∧ s25.1 15 7 ≤ 2147483647 := iv_full hI27
  have b31 : s25.1 15 7 = s24.1 15 7 := congrFun (fr26.1 15 rfl) _
  have b32 : s24.1 15 7 = s23.1 15 7 := congrFun (fr22.1 15 rfl) _
  exact hQ (s25.1 15 7) s25 hI27 fr29 (show (-2147483648 : Int) ≤ s25.1 15 7 ∧ s25.1 15 7 ≤ (2147483647 : Int) from by omega)
-- fm_181b Model.copy 97 96
theorem sm_181b {Q : lf_Z → Prop} {s : lf_Z} (hI : iv_A s.1 s.2.2) (hQ : ∀  (s' : lf_Z), iv_A s'.1 s'.2.2 → lf_fq [96] 0 true s.1 s.2.2 s'.1 s'.2.2 → Q  s') : fm_181b Q s := by
  unfold fm_181b fm_181b_p2L
  intro X hX
  have key : ∀ (m : Nat) (x2 : Int) (s' : lf_Z), 0 ≤ x2 → x2 ≤ 1538 → (1538 - x2).toNat < m → s'.2 = s.2 → (∀ a, a ≠ 96 → s'.1 a = s.1 a) → (∀ j : Int, 0 ≤ j → j < x2 → s'.1 96 j = s.1 97 j) → (∀ j : Int, ¬ (0 ≤ j ∧ j < x2) → s'.1 96 j = s.1 96 j) → X x2 s' := by
    intro m
    induction m with
    | zero => intros; omega
    | succ m ih =>
      intro x2 s' h0 h1 hm hs hr hd ho
      refine hX _ _ ?_
      unfold fm_181b_p2
      refine ⟨lf_Rof (by omega), fun c => ?_, fun c => ⟨by omega, ?_⟩⟩
      · have e : x2 = 1538 := by omega
        subst e
        refine hQ s' ?_ ⟨fun a ha => hr a (fun e => by subst e; cases ha), fun i hi => ?_, fun _ => by rw [hs]⟩
        · rw [show s'.2.2 = s.2.2 from by rw [hs]]
          exact iv_copyAll (c := 97) (d := 96) (Or.inr ⟨rfl, rfl⟩) hI hr (fun j a b => hd j a b) ho
        · exact ho i (by omega)
      · refine ih (x2 + 1) _ (by omega) (by omega) (by omega) hs ?_ ?_ ?_
        · intro a ha
          show lf_up s'.1 96 x2 (s'.1 97 x2) a = _
          rw [lf_up_row ha]
          exact hr a ha
        · intro j j0 j1
          show lf_up s'.1 96 x2 (s'.1 97 x2) 96 j = _
          by_cases hj : j = x2
          · subst hj
            rw [lf_up_s, hr 97 (by decide)]
          · rw [lf_up_i hj]
            exact hd j j0 (by omega)
        · intro j hj
          show lf_up s'.1 96 x2 (s'.1 97 x2) 96 j = _
          rw [lf_up_i (by omega)]
          exact ho j (by omega)
  exact key _ 0 s (by omega) (by omega) (Nat.lt_succ_self _) rfl (fun _ _ => rfl) (fun j a b => by omega) (fun _ _ => rfl)
-- fm_326 Model.back 95
theorem sm_326 {Q : Int → lf_Z → Prop} {s : lf_Z} (hI : iv_A s.1 s.2.2) (hQ : ∀ (r : Int) (s' : lf_Z), iv_A s'.1 s'.2.2 → lf_fq [96] 0 true s.1 s.2.2 s'.1 s'.2.2 → ((-2147483648) ≤ r ∧ r ≤ 2147483647) → Q r s') : fm_326 Q s := by
  unfold fm_326
  refine sm_181b hI (fun s21 hI2 fr1 => ?_)
  have fr4 : lf_fq [96] 0 true s.1 s.2.2 s21.1 s21.2.2 := lf_fq_tr (lf_fq_rf) (lf_fq_wk fr1 rfl (by decide) (by decide))
  have b5 : (-2147483648) ≤ s21.1 96 3 ∧ s21.1 96 3 ≤ 2147483647 := iv_full hI2
  exact hQ (s21.1 96 3) s21 hI2 fr4 (show (-2147483648 : Int) ≤ s21.1 96 3 ∧ s21.1 96 3 ≤ (2147483647 : Int) from by omega)
-- fm_179 ElevenBullocks.about 0 i
theorem sm_179 {a1 : Int} {Q : Int → lf_Z → Prop} {s : lf_Z} (hI : iv_A s.1 s.2.2) (ba1 : (-2147483648) ≤ a1 ∧ a1 ≤ 2147483647) (hQ : ∀ (r : Int), ((-2147483648) ≤ r ∧ r ≤ 2147483647) → Q r s) : fm_179 a1 Q s := by
  unfold fm_179
  refine ⟨(show lf_R a1 from lf_Rof (by omega)), ?_⟩
  refine ⟨fun c1 => ?_, fun c1 => ?_, fun c1 => ?_, fun c1 => ?_, fun c1 => ?_, fun c1 => ?_, fun c1 => ?_, fun c1 => ?_, fun c1 => ?_, fun c1 => ?_, fun c1 => ?_, fun c1 => ?_, fun c1 => ?_, fun c1 => ?_⟩
  · replace c1 : a1 < 0 ∨ 12 < a1 := c1
    exact hQ (-2) (show (-2147483648 : Int) ≤ (-2) ∧ (-2) ≤ (2147483647 : Int) from by omega)
  · replace c1 : a1 = 0 := c1
    have b2 : 0 ≤ s.1 1 0 ∧ s.1 1 0 ≤ 12 := iv_r1_0 hI
    exact hQ (s.1 1 0) (show (-2147483648 : Int) ≤ s.1 1 0 ∧ s.1 1 0 ≤ (2147483647 : Int) from by omega)
  · replace c1 : a1 = 1 := c1
    have b3 : 0 ≤ s.1 1 1 ∧ s.1 1 1 ≤ 16 := iv_r1_1 hI
    exact hQ (s.1 1 1) (show (-2147483648 : Int) ≤ s.1 1 1 ∧ s.1 1 1 ≤ (2147483647 : Int) from by omega)
  · replace c1 : a1 = 2 := c1
    have b4 : 0 ≤ s.1 1 2 ∧ s.1 1 2 ≤ 6 := iv_r1_2 hI
    exact hQ (s.1 1 2) (show (-2147483648 : Int) ≤ s.1 1 2 ∧ s.1 1 2 ≤ (2147483647 : Int) from by omega)
  · replace c1 : a1 = 3 := c1
    have b5 : (-2147483648) ≤ s.1 15 7 ∧ s.1 15 7 ≤ 2147483647 := iv_full hI
    exact hQ (s.1 15 7) (show (-2147483648 : Int) ≤ s.1 15 7 ∧ s.1 15 7 ≤ (2147483647 : Int) from by omega)
  · replace c1 : a1 = 4 := c1
    refine sm_64 hI (fun r23 q6 => ?_)
    exact hQ r23 (show (-2147483648 : Int) ≤ r23 ∧ r23 ≤ (2147483647 : Int) from by omega)
  · replace c1 : a1 = 5 := c1
    refine sm_97 hI (fun r25 q7 => ?_)
    exact hQ r25 (show (-2147483648 : Int) ≤ r25 ∧ r25 ≤ (2147483647 : Int) from by omega)
  · replace c1 : a1 = 6 := c1
    have b8 : (-2147483648) ≤ s.1 15 8 ∧ s.1 15 8 ≤ 2147483647 := iv_full hI
    exact hQ (s.1 15 8) (show (-2147483648 : Int) ≤ s.1 15 8 ∧ s.1 15 8 ≤ (2147483647 : Int) from by omega)
  · replace c1 : a1 = 7 := c1
    have b9 : 0 ≤ s.1 0 11 ∧ s.1 0 11 ≤ 4 := iv_r0_11 hI
    exact hQ (s.1 0 11) (show (-2147483648 : Int) ≤ s.1 0 11 ∧ s.1 0 11 ≤ (2147483647 : Int) from by omega)
  · replace c1 : a1 = 8 := c1
    have b10 : (-1) ≤ s.1 0 12 ∧ s.1 0 12 ≤ 3 := iv_r0_12 hI
    exact hQ (s.1 0 12) (show (-2147483648 : Int) ≤ s.1 0 12 ∧ s.1 0 12 ≤ (2147483647 : Int) from by omega)
  · replace c1 : a1 = 9 := c1
    have b11 : 0 ≤ s.1 22 3 ∧ s.1 22 3 ≤ 30 := iv_r22_3 hI
    exact hQ (s.1 22 3) (show (-2147483648 : Int) ≤ s.1 22 3 ∧ s.1 22 3 ≤ (2147483647 : Int) from by omega)
  · replace c1 : a1 = 10 := c1
    have b12 : 0 ≤ s.1 25 2 ∧ s.1 25 2 ≤ 6 := iv_r25_2 hI
    exact hQ (s.1 25 2) (show (-2147483648 : Int) ≤ s.1 25 2 ∧ s.1 25 2 ≤ (2147483647 : Int) from by omega)
  · replace c1 : a1 = 11 := c1
    refine sm_168 hI (fun r27 q13 => ?_)
    exact hQ r27 (show (-2147483648 : Int) ≤ r27 ∧ r27 ≤ (2147483647 : Int) from by omega)
  · replace c1 : a1 = 12 := c1
    have b14 : 0 ≤ s.1 31 1 ∧ s.1 31 1 ≤ 300 := iv_r31_1 hI
    exact hQ (s.1 31 1) (show (-2147483648 : Int) ≤ s.1 31 1 ∧ s.1 31 1 ≤ (2147483647 : Int) from by omega)
-- fm_327 Model.about 95 i
theorem sm_327 {a1 : Int} {Q : Int → lf_Z → Prop} {s : lf_Z} (hI : iv_A s.1 s.2.2) (ba1 : (-2147483648) ≤ a1 ∧ a1 ≤ 2147483647) (hQ : ∀ (r : Int), ((-2147483648) ≤ r ∧ r ≤ 2147483647) → Q r s) : fm_327 a1 Q s := by
  unfold fm_327
  refine ⟨(show lf_R a1 from lf_Rof (by omega)), ?_⟩
  refine ⟨fun c1 => ?_, fun c1 => ?_⟩
  · skip
    replace c1 : a1 ≠ 4 := c1
    refine ⟨fun c2 => ?_, fun c2 => ?_⟩
    · skip
      replace c2 : a1 ≠ 5 := c2
      refine sm_183 hI (show (-2147483648 : Int) ≤ a1 ∧ a1 ≤ (2147483647 : Int) from by omega) (show (-1 : Int) ≤ 0 ∧ 0 ≤ (97 : Int) from by omega) (show (-1 : Int) ≤ 11 ∧ 11 ≤ (9999 : Int) from by omega) (fun z23 q3 => ?_)
      refine ⟨fun c4 => ?_, fun c4 => ?_⟩
      · skip
        have dc4 := q3.2 c4
        refine ⟨fun c5 => ?_, fun c5 => ?_⟩
        · skip
          replace c5 : a1 ≠ 12 := c5
          exact hQ (-2) (show (-2147483648 : Int) ≤ (-2) ∧ (-2) ≤ (2147483647 : Int) from by omega)
        · skip
          replace c5 : ¬ (a1 ≠ 12) := c5
          have b6 : 0 ≤ s.1 95 4 ∧ s.1 95 4 ≤ 300 := iv_r95_4 hI
          exact hQ (s.1 95 4) (show (-2147483648 : Int) ≤ s.1 95 4 ∧ s.1 95 4 ≤ (2147483647 : Int) from by omega)
      · skip
        have dc4 := q3.1 c4
        refine ⟨(show (0 : Int) ≤ a1 ∧ a1 < (1538 : Int) from by omega), ?_⟩
        have b7 : (-2147483648) ≤ s.1 96 a1 ∧ s.1 96 a1 ≤ 2147483647 := iv_full hI
        exact hQ (s.1 96 a1) (show (-2147483648 : Int) ≤ s.1 96 a1 ∧ s.1 96 a1 ≤ (2147483647 : Int) from by omega)
    · skip
      replace c2 : ¬ (a1 ≠ 5) := c2
      refine sm_279 hI (fun r26 q8 => ?_)
      exact hQ r26 (show (-2147483648 : Int) ≤ r26 ∧ r26 ≤ (2147483647 : Int) from by omega)
  · skip
    replace c1 : ¬ (a1 ≠ 4) := c1
    refine sm_243 hI (fun r28 ps10 q9 => ?_)
    replace ps10 : r28 = (s.1 96 114) + (s.1 96 117) + (s.1 96 120) + (s.1 96 123) := ps10
    exact hQ r28 (show (-2147483648 : Int) ≤ r28 ∧ r28 ≤ (2147483647 : Int) from by omega)
